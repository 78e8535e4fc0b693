/-! THE MODEL: its object (kind 5, index 0), its arrays (kinds 20 + slot, index 0) -/
def m_sl : List Nat := [2,3,4,5,7,8,9,11,12,13,14,15,16,18,19,20,21,22,23,24,26,27]
def m_S (C : q_S) (n : Nat → Nat) : Prop := n 5 = 1 ∧ ∀ s ∈ m_sl, C 5 s 0 = 1 ∧ n (20 + s) = 1
theorem m_v5 {C : q_S} {n : Nat → Nat} (h : m_S C n) : 0 < n 5 := by rw [h.1]; decide
theorem m_va {C : q_S} {n : Nat → Nat} (h : m_S C n) (s : Nat) {kd : Nat} (hs : s ∈ m_sl) (hk : 20 + s = kd) : 0 < n kd := by
  rw [← hk, (h.2 s hs).2]; decide
theorem m_r {C : q_S} {n : Nat → Nat} (h : m_S C n) (ad : Nat → Nat → Nat) (s k : Nat) (hs : s ∈ m_sl) : q_val ad (k + 3) (C 5 s 0) = .ref (ad k 0) := q_v1 ad k (h.2 s hs).1
theorem m_S.up {C : q_S} {n : Nat → Nat} (h : m_S C n) {kd s i : Nat} {x : Int} (hk : ¬ kd = 5 ∨ s ∉ m_sl) : m_S (q_up C kd s i x) n := by
  refine ⟨h.1, fun s' hs' => ⟨?_, (h.2 s' hs').2⟩⟩
  rw [← (h.2 s' hs').1]
  unfold q_up
  rw [if_neg]
  rintro ⟨a, b, -⟩
  rcases hk with q | q
  · exact q a.symm
  · exact q (b ▸ hs')
/-- what the numbers of the model keep to, c calls behind the start -/
def m_R (C : q_S) (c : Nat) : Prop :=
  (0 ≤ C 5 1 0 ∧ C 5 1 0 ≤ 8) ∧ (0 ≤ C 5 6 0 ∧ C 5 6 0 ≤ 20) ∧ (0 ≤ C 5 10 0 ∧ C 5 10 0 ≤ 60) ∧ (0 ≤ C 5 17 0 ∧ C 5 17 0 ≤ c) ∧ (0 ≤ C 5 25 0 ∧ C 5 25 0 ≤ c) ∧ (0 ≤ C 5 28 0) ∧
  (∀ k, 0 ≤ C 38 k 0 ∧ C 38 k 0 ≤ 60) ∧ (∀ k, 0 ≤ C 31 k 0 ∧ C 31 k 0 ≤ 20) ∧ (∀ k, 0 ≤ C 32 k 0 ∧ C 32 k 0 ≤ 500) ∧ (∀ k, -1 ≤ C 25 k 0 ∧ C 25 k 0 < 4200) ∧ (∀ k, 0 ≤ C 41 k 0 ∧ C 41 k 0 ≤ 8) ∧
  (∀ k, 0 ≤ C 39 k 0 ∧ C 39 k 0 ≤ 100) ∧ (∀ k, 0 ≤ C 42 k 0 ∧ C 42 k 0 ≤ 50000) ∧ (∀ k, 0 ≤ C 40 k 0 ∧ C 40 k 0 ≤ 8) ∧ (∀ k, 0 ≤ C 29 k 0 ∧ C 29 k 0 ≤ 60000 * (c : Int)) ∧ (∀ k, 0 ≤ C 24 k 0 ∧ C 24 k 0 ≤ c) ∧ (∀ k, 0 ≤ C 34 k 0) ∧ (∀ k, 0 ≤ C 33 k 0 ∧ C 33 k 0 ≤ 9) ∧
  (∀ k : Nat, (k : Int) < C 5 17 0 → 1 ≤ C 38 k 0 ∧ C 38 k 0 ≤ C 5 10 0) ∧ (∀ j : Nat, 1 ≤ j → (j : Int) ≤ C 5 10 0 → 1 ≤ C 31 j 0 ∧ C 31 j 0 ≤ C 5 6 0 ∧ 1 ≤ C 32 j 0) ∧ (∀ k : Nat, k ≤ 8 → C 25 k 0 < C 5 17 0) ∧ (∀ k : Nat, C 41 k 0 ≤ C 5 1 0) ∧ (∀ k : Nat, 0 ≤ C 47 k 0)
theorem m_R38 {C : q_S} {c : Nat} (h : m_R C c) (k : Nat) : 0 ≤ C 38 k 0 ∧ C 38 k 0 ≤ 60 := h.2.2.2.2.2.2.1 k
theorem m_R31 {C : q_S} {c : Nat} (h : m_R C c) (k : Nat) : 0 ≤ C 31 k 0 ∧ C 31 k 0 ≤ 20 := h.2.2.2.2.2.2.2.1 k
theorem m_R32 {C : q_S} {c : Nat} (h : m_R C c) (k : Nat) : 0 ≤ C 32 k 0 ∧ C 32 k 0 ≤ 500 := h.2.2.2.2.2.2.2.2.1 k
theorem m_R25 {C : q_S} {c : Nat} (h : m_R C c) (k : Nat) : -1 ≤ C 25 k 0 ∧ C 25 k 0 < 4200 := h.2.2.2.2.2.2.2.2.2.1 k
theorem m_R41 {C : q_S} {c : Nat} (h : m_R C c) (k : Nat) : 0 ≤ C 41 k 0 ∧ C 41 k 0 ≤ 8 := h.2.2.2.2.2.2.2.2.2.2.1 k
theorem m_R39 {C : q_S} {c : Nat} (h : m_R C c) (k : Nat) : 0 ≤ C 39 k 0 ∧ C 39 k 0 ≤ 100 := h.2.2.2.2.2.2.2.2.2.2.2.1 k
theorem m_R42 {C : q_S} {c : Nat} (h : m_R C c) (k : Nat) : 0 ≤ C 42 k 0 ∧ C 42 k 0 ≤ 50000 := h.2.2.2.2.2.2.2.2.2.2.2.2.1 k
theorem m_R40 {C : q_S} {c : Nat} (h : m_R C c) (k : Nat) : 0 ≤ C 40 k 0 ∧ C 40 k 0 ≤ 8 := h.2.2.2.2.2.2.2.2.2.2.2.2.2.1 k
theorem m_R29 {C : q_S} {c : Nat} (h : m_R C c) (k : Nat) : 0 ≤ C 29 k 0 ∧ C 29 k 0 ≤ 60000 * (c : Int) := h.2.2.2.2.2.2.2.2.2.2.2.2.2.2.1 k
theorem m_R24 {C : q_S} {c : Nat} (h : m_R C c) (k : Nat) : 0 ≤ C 24 k 0 ∧ C 24 k 0 ≤ c := h.2.2.2.2.2.2.2.2.2.2.2.2.2.2.2.1 k
theorem m_R33 {C : q_S} {c : Nat} (h : m_R C c) (k : Nat) : 0 ≤ C 33 k 0 ∧ C 33 k 0 ≤ 9 := h.2.2.2.2.2.2.2.2.2.2.2.2.2.2.2.2.2.1 k
theorem m_Rp {C : q_S} {c : Nat} (h : m_R C c) : 0 ≤ C 5 1 0 ∧ C 5 1 0 ≤ 8 := h.1
theorem m_Rt {C : q_S} {c : Nat} (h : m_R C c) : 0 ≤ C 5 6 0 ∧ C 5 6 0 ≤ 20 := h.2.1
theorem m_Rj {C : q_S} {c : Nat} (h : m_R C c) : 0 ≤ C 5 10 0 ∧ C 5 10 0 ≤ 60 := h.2.2.1
theorem m_Rk {C : q_S} {c : Nat} (h : m_R C c) : 0 ≤ C 5 17 0 ∧ C 5 17 0 ≤ c := h.2.2.2.1
theorem m_Rw {C : q_S} {c : Nat} (h : m_R C c) : 0 ≤ C 5 25 0 ∧ C 5 25 0 ≤ c := h.2.2.2.2.1
-- what the methods answer
abbrev m_fits (C : q_S) (k : Nat) (p : Int) : Prop := C 28 (C 31 (C 38 k 0).toNat 0).toNat 0 ≤ C 23 p.toNat 0 ∧ (C 40 k 0 = 0 ∨ C 40 k 0 = p)
abbrev m_may (C : q_S) (k : Nat) (p : Int) : Prop := ¬ C 44 k 0 = 0 ∧ C 35 (C 38 k 0).toNat 0 = 0 ∧ C 34 (C 38 k 0).toNat 0 ≤ C 5 28 0 ∧ m_fits C k p
abbrev m_over (C : q_S) (k : Nat) : Prop := C 42 k 0 = C 39 k 0 * C 32 (C 38 k 0).toNat 0
def m_med (C : q_S) (k : Nat) : Int := C 27 (C 31 (C 38 k 0).toNat 0).toNat 0
def m_odd (a b : Int) : Int := b / a * ((a + 1) / 2) + (b % a + 1) / 2
def m_leave (C : q_S) (a : Int) : q_S := q_up (q_up C 41 (C 25 a.toNat 0).toNat 0 0) 25 a.toNat 0 (-1)
def m_add (C : q_S) (a b d : Int) : q_S := q_up (q_up (q_up (q_up (q_up (q_up (q_up C 38 (C 5 17 0).toNat 0 a) 39 (C 5 17 0).toNat 0 b) 40 (C 5 17 0).toNat 0 d) 41 (C 5 17 0).toNat 0 0) 42 (C 5 17 0).toNat 0 0) 44 (C 5 17 0).toNat 0 1) 5 17 0 (C 5 17 0 + 1)
theorem m_k32 {k : Nat} (h : k < 4200) : R32 (k : Int) := ⟨by omega, by omega⟩
theorem m_p32 {a : Int} (h : 0 ≤ a ∧ a ≤ 8) : R32 a := ⟨by omega, by omega⟩
