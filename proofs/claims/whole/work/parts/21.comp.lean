/-! THE CLASS: its object (kind 4, index 0), its arrays (kinds 6 .. 10, index 0), jobs (0), parts (1), printers (2), tickets (3) -/
def c_sl : List (Nat × Nat) := [(0, 6), (1, 7), (2, 8), (6, 9), (7, 10)]
def c_S (C : q_S) (n : Nat → Nat) : Prop := n 4 = 1 ∧ ∀ z ∈ c_sl, C 4 z.1 0 = 1 ∧ n z.2 = 1
theorem c_v4 {C : q_S} {n : Nat → Nat} (h : c_S C n) : 0 < n 4 := by rw [h.1]; decide
theorem c_va {C : q_S} {n : Nat → Nat} (h : c_S C n) (s kd : Nat) (hs : (s, kd) ∈ c_sl) : 0 < n kd := by rw [(h.2 (s, kd) hs).2]; decide
theorem c_r {C : q_S} {n : Nat → Nat} (h : c_S C n) (ad : Nat → Nat → Nat) (s k : Nat) (hs : (s, k) ∈ c_sl) : q_val ad (k + 3) (C 4 s 0) = .ref (ad k 0) := q_v1 ad k (h.2 (s, k) hs).1
/-- the first part of the job j from k on, m places looked at: its index and one; 0 -/
def c_find (C : q_S) (j : Nat) : Nat → Nat → Int
  | 0, _ => 0
  | m + 1, k => if C 1 0 k = (j : Int) + 1 then (k : Int) + 1 else c_find C j m (k + 1)
theorem c_find_c (C : q_S) (j : Nat) : ∀ (m k : Nat), (c_find C j m k = 0 ∧ ∀ i, k ≤ i → i < k + m → ¬ C 1 0 i = (j : Int) + 1) ∨ ∃ i : Nat, c_find C j m k = (i : Int) + 1 ∧ k ≤ i ∧ i < k + m ∧ C 1 0 i = (j : Int) + 1 ∧ ∀ i', k ≤ i' → i' < i → ¬ C 1 0 i' = (j : Int) + 1 := by
  intro m
  induction m with
  | zero => intro k; exact Or.inl ⟨rfl, fun i h1 h2 => by omega⟩
  | succ m ih =>
    intro k
    rw [c_find]
    by_cases h : C 1 0 k = (j : Int) + 1
    · rw [if_pos h]
      exact Or.inr ⟨k, rfl, Nat.le_refl k, by omega, h, fun i' h1 h2 => by omega⟩
    · rw [if_neg h]
      rcases ih (k + 1) with ⟨h1, h2⟩ | ⟨i, h1, h2, h3, h4, h5⟩
      · refine Or.inl ⟨h1, fun i h3 h4 => ?_⟩
        by_cases e : i = k
        · rw [e]; exact h
        · exact h2 i (by omega) (by omega)
      · refine Or.inr ⟨i, h1, by omega, by omega, h4, fun i' h6 h7 => ?_⟩
        by_cases e : i' = k
        · rw [e]; exact h
        · exact h5 i' (by omega) h7
theorem c_skip {α : Type} (f : Nat → α) (C : q_S) (j : Nat) (hf : ∀ k, ¬ C 1 0 k = (j : Int) + 1 → f (k + 1) = f k) {k i : Nat} (hki : k ≤ i) (hb : ∀ i', k ≤ i' → i' < i → ¬ C 1 0 i' = (j : Int) + 1) : f i = f k := by
  obtain ⟨d, rfl⟩ : ∃ d, i = k + d := ⟨i - k, by omega⟩
  induction d with
  | zero => rfl
  | succ d ih =>
    rw [← ih (by omega) (fun i' h1 h2 => hb i' h1 (by omega))]
    exact hf (k + d) (hb (k + d) (by omega) (by omega))
/-- what the class keeps to, c calls behind the start -/
def c_R (C : q_S) (n : Nat → Nat) (c : Nat) : Prop :=
  (C 4 3 0 = (n 2 : Int) ∧ n 2 ≤ 8) ∧ (C 4 4 0 = (n 3 : Int) ∧ n 3 ≤ 20) ∧ (C 4 5 0 = (n 0 : Int) ∧ n 0 ≤ 60) ∧ n 1 ≤ c ∧ (0 ≤ C 4 8 0 ∧ 2 * C 4 8 0 ≤ c) ∧
  (∀ j : Nat, C 6 j 0 = if j < n 2 then (j : Int) + 1 else 0) ∧ (∀ j : Nat, C 7 j 0 = if j < n 3 then (j : Int) + 1 else 0) ∧ (∀ j : Nat, C 8 j 0 = if j < n 0 then (j : Int) + 1 else 0) ∧
  (∀ i, i < n 1 → 1 ≤ C 1 0 i ∧ C 1 0 i ≤ (n 0 : Int)) ∧ (∀ i, i < n 0 → 1 ≤ C 0 1 i ∧ C 0 1 i ≤ (n 3 : Int)) ∧
  (∀ j, j < n 0 → C 0 7 j = c_find C j (n 1) 0) ∧ (∀ i j, i < n 1 → C 1 0 i = ((j : Nat) : Int) + 1 → C 1 6 i = c_find C j (n 1 - (i + 1)) (i + 1)) ∧
  (∀ i, 0 ≤ C 0 2 i ∧ C 0 2 i ≤ 500) ∧ (∀ i, 0 ≤ C 1 2 i ∧ C 1 2 i ≤ 100) ∧ (∀ i, 0 ≤ C 1 4 i ∧ C 1 4 i ≤ 100) ∧ (∀ i, 0 ≤ C 1 5 i ∧ C 1 5 i ≤ 500) ∧ (∀ i, 0 ≤ C 2 3 i ∧ C 2 3 i ≤ c) ∧
  (∀ s i, 2 ≤ s → s ≤ 5 → 0 ≤ C 3 s i ∧ C 3 s i ≤ 60000 * (c : Int)) ∧ (∀ i, i < n 0 → C 0 0 i = (i : Int) + 1) ∧ (∀ i, i < n 2 → C 2 0 i = (i : Int) + 1) ∧ 0 ≤ C 4 10 0
theorem c_Rp {C : q_S} {n : Nat → Nat} {c : Nat} (h : c_R C n c) : C 4 3 0 = (n 2 : Int) ∧ n 2 ≤ 8 := h.1
theorem c_Rt {C : q_S} {n : Nat → Nat} {c : Nat} (h : c_R C n c) : C 4 4 0 = (n 3 : Int) ∧ n 3 ≤ 20 := h.2.1
theorem c_Rj {C : q_S} {n : Nat → Nat} {c : Nat} (h : c_R C n c) : C 4 5 0 = (n 0 : Int) ∧ n 0 ≤ 60 := h.2.2.1
theorem c_Rk {C : q_S} {n : Nat → Nat} {c : Nat} (h : c_R C n c) : n 1 ≤ c := h.2.2.2.1
theorem c_Rd {C : q_S} {n : Nat → Nat} {c : Nat} (h : c_R C n c) : 0 ≤ C 4 8 0 ∧ 2 * C 4 8 0 ≤ c := h.2.2.2.2.1
theorem c_R6 {C : q_S} {n : Nat → Nat} {c : Nat} (h : c_R C n c) (j : Nat) : C 6 j 0 = if j < n 2 then (j : Int) + 1 else 0 := h.2.2.2.2.2.1 j
theorem c_R7 {C : q_S} {n : Nat → Nat} {c : Nat} (h : c_R C n c) (j : Nat) : C 7 j 0 = if j < n 3 then (j : Int) + 1 else 0 := h.2.2.2.2.2.2.1 j
theorem c_R8 {C : q_S} {n : Nat → Nat} {c : Nat} (h : c_R C n c) (j : Nat) : C 8 j 0 = if j < n 0 then (j : Int) + 1 else 0 := h.2.2.2.2.2.2.2.1 j
theorem c_R10 {C : q_S} {n : Nat → Nat} {c : Nat} (h : c_R C n c) (i : Nat) (hi : i < n 1) : 1 ≤ C 1 0 i ∧ C 1 0 i ≤ (n 0 : Int) := h.2.2.2.2.2.2.2.2.1 i hi
theorem c_R01 {C : q_S} {n : Nat → Nat} {c : Nat} (h : c_R C n c) (i : Nat) (hi : i < n 0) : 1 ≤ C 0 1 i ∧ C 0 1 i ≤ (n 3 : Int) := h.2.2.2.2.2.2.2.2.2.1 i hi
theorem c_R07 {C : q_S} {n : Nat → Nat} {c : Nat} (h : c_R C n c) (j : Nat) (hj : j < n 0) : C 0 7 j = c_find C j (n 1) 0 := h.2.2.2.2.2.2.2.2.2.2.1 j hj
theorem c_R16 {C : q_S} {n : Nat → Nat} {c : Nat} (h : c_R C n c) (i j : Nat) (hi : i < n 1) (e : C 1 0 i = (j : Int) + 1) : C 1 6 i = c_find C j (n 1 - (i + 1)) (i + 1) := h.2.2.2.2.2.2.2.2.2.2.2.1 i j hi e
theorem c_R02 {C : q_S} {n : Nat → Nat} {c : Nat} (h : c_R C n c) (i : Nat) : 0 ≤ C 0 2 i ∧ C 0 2 i ≤ 500 := h.2.2.2.2.2.2.2.2.2.2.2.2.1 i
theorem c_R12 {C : q_S} {n : Nat → Nat} {c : Nat} (h : c_R C n c) (i : Nat) : 0 ≤ C 1 2 i ∧ C 1 2 i ≤ 100 := h.2.2.2.2.2.2.2.2.2.2.2.2.2.1 i
theorem c_R14 {C : q_S} {n : Nat → Nat} {c : Nat} (h : c_R C n c) (i : Nat) : 0 ≤ C 1 4 i ∧ C 1 4 i ≤ 100 := h.2.2.2.2.2.2.2.2.2.2.2.2.2.2.1 i
theorem c_R15 {C : q_S} {n : Nat → Nat} {c : Nat} (h : c_R C n c) (i : Nat) : 0 ≤ C 1 5 i ∧ C 1 5 i ≤ 500 := h.2.2.2.2.2.2.2.2.2.2.2.2.2.2.2.1 i
theorem c_R23 {C : q_S} {n : Nat → Nat} {c : Nat} (h : c_R C n c) (i : Nat) : 0 ≤ C 2 3 i ∧ C 2 3 i ≤ c := h.2.2.2.2.2.2.2.2.2.2.2.2.2.2.2.2.1 i
theorem c_R3 {C : q_S} {n : Nat → Nat} {c : Nat} (h : c_R C n c) (s i : Nat) (h1 : 2 ≤ s) (h2 : s ≤ 5) : 0 ≤ C 3 s i ∧ C 3 s i ≤ 60000 * (c : Int) := h.2.2.2.2.2.2.2.2.2.2.2.2.2.2.2.2.2.1 s i h1 h2
theorem c_R00 {C : q_S} {n : Nat → Nat} {c : Nat} (h : c_R C n c) (i : Nat) (hi : i < n 0) : C 0 0 i = (i : Int) + 1 := h.2.2.2.2.2.2.2.2.2.2.2.2.2.2.2.2.2.2.1 i hi
theorem c_R20 {C : q_S} {n : Nat → Nat} {c : Nat} (h : c_R C n c) (i : Nat) (hi : i < n 2) : C 2 0 i = (i : Int) + 1 := h.2.2.2.2.2.2.2.2.2.2.2.2.2.2.2.2.2.2.2.1 i hi
theorem c_Rn {C : q_S} {n : Nat → Nat} {c : Nat} (h : c_R C n c) : 0 ≤ C 4 10 0 := h.2.2.2.2.2.2.2.2.2.2.2.2.2.2.2.2.2.2.2.2
theorem c_jn {C : q_S} {n : Nat → Nat} {c : Nat} (h : c_R C n c) (i : Nat) (hi : i < n 1) : ¬ C 1 0 i = 0 := by have := c_R10 h i hi; omega
theorem c_tn {C : q_S} {n : Nat → Nat} {c : Nat} (h : c_R C n c) (i : Nat) (hi : i < n 0) : ¬ C 0 1 i = 0 := by have := c_R01 h i hi; omega
theorem q_vnn (ad : Nat → Nat → Nat) (k : Nat) {v : Int} (h : ¬ v = 0) : q_val ad (k + 3) v = .ref (ad k (v - 1).toNat) := q_rf1 ad k h
theorem q_vch (ad : Nat → Nat → Nat) (k : Nat) {v w : Int} (h : v = w) : q_val ad (k + 3) v = va_rf (q_rf ad k w) := by rw [h]; rfl
theorem q_rfs (ad : Nat → Nat → Nat) (k i : Nat) : q_rf ad k ((i : Int) + 1) = some (ad k i) := by
  unfold q_rf
  rw [if_neg (by omega)]
  congr 2
  omega
section QAST
variable {p : Program} {l : Launch} {e : Env} {R : Room} {s : State} {m : MethodId} {args : Array Value} {below : List Frame} {meth : Method} {c : Code} {H : Heap} {locs : List Loc} {cells slots : Nat} {Q : State → Prop}
variable {cc : ByteArray} {pc nL : Nat} {ls : Array Slot} {rest : List Value} {g : q_G} {s0 : Nat} {Ts : List Cond} {own : String}
theorem q_astore_n (X : q_X p s m args c cc nL Ts own g s0) {k : Fin 4} {i : Nat} {r : Option Nat} {lv lv' : List (Nat × Value)} (hdg : decode cc pc = .ok (.astore_n k, 1)) (hi : (k : Nat) = i) (h : lv_has ls nL lv) (hn : i < nL) (hl : (i, va_rf r) :: lv.filter (fun q => !(q.1 == i) && !(q.1 + 1 == i && q.2.category == 2)) = lv')
    (kk : ∀ ls' : Array Slot, lv_has ls' nL lv' → W p l e R s m args below meth c H locs cells slots Q (F0 m (pc + 1) ls' rest)) : W p l e R s m args below meth c H locs cells slots Q (F0 m pc ls (va_rf r :: rest)) := by
  cases r with
  | none => exact lv_astore_nN X.1 X.2.1 hdg hi h hn hl kk
  | some a => exact lv_astore_n X.1 X.2.1 hdg hi h hn hl kk
theorem q_astore (X : q_X p s m args c cc nL Ts own g s0) {i : Nat} {r : Option Nat} {lv lv' : List (Nat × Value)} (hdg : decode cc pc = .ok (.astore i, 2)) (h : lv_has ls nL lv) (hn : i < nL) (hl : (i, va_rf r) :: lv.filter (fun q => !(q.1 == i) && !(q.1 + 1 == i && q.2.category == 2)) = lv')
    (kk : ∀ ls' : Array Slot, lv_has ls' nL lv' → W p l e R s m args below meth c H locs cells slots Q (F0 m (pc + 2) ls' rest)) : W p l e R s m args below meth c H locs cells slots Q (F0 m pc ls (va_rf r :: rest)) := by
  cases r with
  | none => exact lv_astoreN X.1 X.2.1 hdg h hn hl kk
  | some a => exact lv_astore X.1 X.2.1 hdg h hn hl kk
end QAST
-- what the small methods answer
def c_unt (C : q_S) (i : Nat) : Int := C 1 2 i - C 1 4 i - (if 0 < C 1 5 i then 1 else 0)
abbrev c_job (C : q_S) (k : Nat) : Nat := (C 1 0 k - 1).toNat
abbrev c_tik (C : q_S) (j : Nat) : Nat := (C 0 1 j - 1).toNat
abbrev c_fits (C : q_S) (p k : Nat) : Prop := C 3 1 (c_tik C (c_job C k)) ≤ C 2 1 p ∧ (C 1 1 k = 0 ∨ C 1 1 k = C 2 0 p)
def c_acc (C : q_S) (j : Nat) (f : Nat → Int) : Nat → Int
  | 0 => 0
  | k + 1 => if C 1 0 k = (j : Int) + 1 then c_acc C j f k + f k else c_acc C j f k
theorem c_acc_s (C : q_S) (j : Nat) (f : Nat → Int) (k : Nat) (h : ¬ C 1 0 k = (j : Int) + 1) : c_acc C j f (k + 1) = c_acc C j f k := by rw [c_acc, if_neg h]
abbrev c_hs (C : q_S) (n : Nat → Nat) (j : Nat) (a : Int) : Prop := ∃ k, k < n 1 ∧ C 1 0 k = (j : Int) + 1 ∧ C 1 3 k = a
/-- the first part of a job that waits and that a printer fits -/
def c_fp (C : q_S) (j p : Nat) : Nat → Int
  | 0 => 0
  | k + 1 => if ¬ c_fp C j p k = 0 then c_fp C j p k else if C 1 0 k = (j : Int) + 1 ∧ C 1 3 k = 0 ∧ c_fits C p k then (k : Int) + 1 else 0
theorem c_fp_st (C : q_S) (j p : Nat) {k : Nat} (h : ¬ c_fp C j p k = 0) : ∀ i, c_fp C j p (k + i) = c_fp C j p k := by
  intro i
  induction i with
  | zero => rfl
  | succ i ih => rw [← Nat.add_assoc, c_fp, ih, if_pos h]
theorem c_fp_s (C : q_S) (j p : Nat) (k : Nat) (h : ¬ C 1 0 k = (j : Int) + 1) : c_fp C j p (k + 1) = c_fp C j p k := by
  rw [c_fp]
  by_cases h1 : c_fp C j p k = 0
  · rw [if_neg (fun q => q h1), if_neg (fun q => h q.1), h1]
  · rw [if_pos h1]
theorem c_fp_y (C : q_S) (j p : Nat) {k : Nat} (h : ¬ c_fp C j p k = 0) : ∃ i : Nat, c_fp C j p k = (i : Int) + 1 ∧ i < k ∧ C 1 0 i = (j : Int) + 1 ∧ C 1 3 i = 0 ∧ c_fits C p i := by
  induction k with
  | zero => exact absurd rfl h
  | succ k ih =>
    rw [c_fp] at h ⊢
    by_cases h1 : c_fp C j p k = 0
    · rw [if_neg (fun q => q h1)] at h ⊢
      by_cases h2 : C 1 0 k = (j : Int) + 1 ∧ C 1 3 k = 0 ∧ c_fits C p k
      · rw [if_pos h2]
        exact ⟨k, rfl, by omega, h2⟩
      · rw [if_neg h2] at h
        exact absurd rfl h
    · rw [if_pos h1] at h ⊢
      obtain ⟨i, h3, h4, h5⟩ := ih h
      exact ⟨i, h3, by omega, h5⟩
noncomputable def c_con (C : q_S) (n : Nat → Nat) (j : Nat) : Int := @ite Int (¬ C 0 6 j = 0) (Classical.propDecidable _) 3 (@ite Int (c_hs C n j 1) (Classical.propDecidable _) 1 (@ite Int (c_hs C n j 0) (Classical.propDecidable _) 0 2))
