/-! THE TWO HALVES of the state: what the class keeps and what the model keeps are the same -/
def busy (C : q_S) : Nat → Int
  | 0 => 0
  | k + 1 => busy C k + (if C 2 4 k = 0 then 0 else 1)
def g1 (C : q_S) (n : Nat → Nat) (c : Nat) : Prop := (C 5 1 0 = n 2 ∧ C 4 3 0 = n 2 ∧ n 2 ≤ 8) ∧ (C 5 6 0 = n 3 ∧ C 4 4 0 = n 3 ∧ n 3 ≤ 20) ∧ (C 5 10 0 = n 0 ∧ C 4 5 0 = n 0 ∧ n 0 ≤ 60) ∧ (C 5 17 0 = n 1 ∧ n 1 ≤ c) ∧ (C 5 28 0 = C 4 10 0 ∧ 0 ≤ C 4 10 0) ∧ C 5 29 0 = C 4 9 0
def ga (C : q_S) (n : Nat → Nat) : Prop := ∀ j : Nat, (C 6 j 0 = if j < n 2 then (j : Int) + 1 else 0) ∧ (C 7 j 0 = if j < n 3 then (j : Int) + 1 else 0) ∧ (C 8 j 0 = if j < n 0 then (j : Int) + 1 else 0)
def g2 (C : q_S) (n : Nat → Nat) (c : Nat) : Prop := C 24 0 0 = 0 ∧ ∀ p : Nat, C 22 (p + 1) 0 = C 2 2 p ∧ C 23 (p + 1) 0 = C 2 1 p ∧ C 24 (p + 1) 0 = C 2 3 p ∧ 0 ≤ C 2 3 p ∧ C 2 3 p ≤ c ∧ (p < n 2 → C 2 0 p = (p : Int) + 1)
def g3 (C : q_S) (n : Nat → Nat) : Prop := ∀ t : Nat, C 27 (t + 1) 0 = C 3 0 t ∧ C 28 (t + 1) 0 = C 3 1 t ∧ (t < n 3 → C 3 1 t = 1 ∨ C 3 1 t = 2)
def g3a (C : q_S) (c : Nat) : Prop := ∀ t w : Nat, w < 4 → C 29 (4 * t + w) 0 = C 3 (2 + w) t ∧ 0 ≤ C 3 (2 + w) t ∧ C 3 (2 + w) t ≤ 60000 * (c : Int)
def g4 (C : q_S) (n : Nat → Nat) : Prop := (C 31 0 0 = 0 ∧ C 32 0 0 = 0 ∧ C 33 0 0 = 0 ∧ C 34 0 0 = 0) ∧ ∀ j : Nat, C 31 (j + 1) 0 = C 0 1 j ∧ C 32 (j + 1) 0 = C 0 2 j ∧ C 33 (j + 1) 0 = C 0 3 j ∧ C 34 (j + 1) 0 = C 0 4 j ∧ (j < n 0 → (1 ≤ C 0 1 j ∧ C 0 1 j ≤ n 3) ∧ (1 ≤ C 0 2 j ∧ C 0 2 j ≤ 500) ∧ (0 ≤ C 0 3 j ∧ C 0 3 j ≤ 9) ∧ 0 ≤ C 0 4 j ∧ C 0 0 j = (j : Int) + 1)
def g4a (C : q_S) : Prop := ∀ j : Nat, C 35 (j + 1) 0 = C 0 5 j ∧ C 36 (j + 1) 0 = C 0 6 j
def g4c (C : q_S) (n : Nat → Nat) : Prop := (∀ j, j < n 0 → C 0 7 j = c_find C j (n 1) 0) ∧ ∀ i j : Nat, i < n 1 → C 1 0 i = (j : Int) + 1 → C 1 6 i = c_find C j (n 1 - (i + 1)) (i + 1)
def g5 (C : q_S) (n : Nat → Nat) : Prop := ∀ k : Nat, C 38 k 0 = C 1 0 k ∧ C 39 k 0 = C 1 2 k ∧ C 40 k 0 = C 1 1 k ∧ (k < n 1 → (1 ≤ C 1 0 k ∧ C 1 0 k ≤ n 0) ∧ (0 ≤ C 1 1 k ∧ C 1 1 k ≤ 8) ∧ 1 ≤ C 1 2 k ∧ C 1 2 k ≤ 100)
def g6 (C : q_S) (n : Nat → Nat) : Prop := ∀ k, k < n 1 → (C 1 3 k = 0 ∨ C 1 3 k = 1 ∨ C 1 3 k = 2) ∧ (C 44 k 0 = if C 1 3 k = 0 then 1 else 0) ∧ (0 ≤ C 1 4 k ∧ C 1 4 k ≤ C 1 2 k) ∧ (0 ≤ C 1 5 k ∧ C 1 5 k < C 0 2 (c_job C k)) ∧ (C 1 4 k = C 1 2 k → C 1 5 k = 0) ∧ (¬ C 1 3 k = 2 → C 1 4 k < C 1 2 k ∧ C 0 6 (c_job C k) = 0) ∧ (C 1 3 k = 2 → C 0 6 (c_job C k) = 0 → C 1 4 k = C 1 2 k)
def g42 (C : q_S) : Prop := ∀ k, C 42 k 0 = C 1 4 k * C 0 2 (c_job C k) + C 1 5 k
def g41 (C : q_S) (n : Nat → Nat) : Prop := ∀ k : Nat, (C 1 3 k = 1 → 1 ≤ C 41 k 0 ∧ C 41 k 0 ≤ n 2 ∧ C 2 4 (C 41 k 0 - 1).toNat = (k : Int) + 1) ∧ (¬ C 1 3 k = 1 → C 41 k 0 = 0)
def g24 (C : q_S) : Prop := ∀ p : Nat, ¬ C 2 4 p = 0 → C 1 3 (C 2 4 p - 1).toNat = 1 ∧ C 41 (C 2 4 p - 1).toNat 0 = (p : Int) + 1 ∧ C 43 (C 2 4 p - 1).toNat 0 = C 2 5 p
def g25 (C : q_S) : Prop := C 25 0 0 = -1 ∧ ∀ p : Nat, (p < 8 → C 25 (p + 1) 0 = C 2 4 p - 1) ∧ (8 ≤ p → C 25 (p + 1) 0 = 0)
def g7 (C : q_S) (c : Nat) : Prop := C 5 25 0 = C 4 8 0 ∧ 0 ≤ C 4 8 0 ∧ 2 * C 4 8 0 + busy C 8 ≤ c
def g7a (C : q_S) : Prop := ∀ k, C 46 k 0 = C 9 k 0 ∧ C 47 k 0 = C 10 k 0 ∧ 0 ≤ C 10 k 0
def g8 (C : q_S) (n : Nat → Nat) : Prop := c_S C n ∧ m_S C n ∧ n 50 = 1
/-- beyond the objects that are there all is 0, and references are within -/
def gz (C : q_S) (n : Nat → Nat) : Prop := (∀ kd s i, n kd ≤ i → C kd s i = 0) ∧ (∀ p, 0 ≤ C 2 4 p ∧ C 2 4 p ≤ n 1)
def Rel (C : q_S) (n : Nat → Nat) (c : Nat) : Prop := g1 C n c ∧ ga C n ∧ g2 C n c ∧ g3 C n ∧ g3a C c ∧ g4 C n ∧ g4a C ∧ g4c C n ∧ g5 C n ∧ g6 C n ∧ g42 C ∧ g41 C n ∧ g24 C ∧ g25 C ∧ g7 C c ∧ g7a C ∧ g8 C n
def r_g1 (kd s : Nat) : Bool := (kd == 5 && (s == 1 || s == 6 || s == 10 || s == 17 || s == 28 || s == 29)) || (kd == 4 && (s == 3 || s == 4 || s == 5 || s == 9 || s == 10))
def r_ga (kd s : Nat) : Bool := kd == 6 || kd == 7 || kd == 8
def r_g2 (kd s : Nat) : Bool := kd == 22 || kd == 23 || kd == 24 || (kd == 2 && (s == 0 || s == 1 || s == 2 || s == 3))
def r_g3 (kd s : Nat) : Bool := kd == 27 || kd == 28 || (kd == 3 && (s == 0 || s == 1))
def r_g3a (kd s : Nat) : Bool := kd == 29 || (kd == 3 && (s == 2 || s == 3 || s == 4 || s == 5))
def r_g4 (kd s : Nat) : Bool := kd == 31 || kd == 32 || kd == 33 || kd == 34 || (kd == 0 && (s == 0 || s == 1 || s == 2 || s == 3 || s == 4))
def r_g4a (kd s : Nat) : Bool := kd == 35 || kd == 36 || (kd == 0 && (s == 5 || s == 6))
def r_g4c (kd s : Nat) : Bool := (kd == 0 && (s == 7)) || (kd == 1 && (s == 0 || s == 6))
def r_g5 (kd s : Nat) : Bool := kd == 38 || kd == 39 || kd == 40 || (kd == 1 && (s == 0 || s == 1 || s == 2))
def r_g6 (kd s : Nat) : Bool := kd == 44 || (kd == 1 && (s == 0 || s == 2 || s == 3 || s == 4 || s == 5)) || (kd == 0 && (s == 2 || s == 6))
def r_g42 (kd s : Nat) : Bool := kd == 42 || (kd == 1 && (s == 0 || s == 4 || s == 5)) || (kd == 0 && (s == 2))
def r_g41 (kd s : Nat) : Bool := kd == 41 || (kd == 1 && (s == 3)) || (kd == 2 && (s == 4))
def r_g24 (kd s : Nat) : Bool := kd == 41 || kd == 43 || (kd == 1 && (s == 3)) || (kd == 2 && (s == 4 || s == 5))
def r_g25 (kd s : Nat) : Bool := kd == 25 || (kd == 2 && (s == 4))
def r_g7 (kd s : Nat) : Bool := (kd == 5 && (s == 25)) || (kd == 4 && (s == 8)) || (kd == 2 && (s == 4))
def r_g7a (kd s : Nat) : Bool := kd == 46 || kd == 47 || kd == 9 || kd == 10
def r_g8 (kd s : Nat) : Bool := (kd == 5 && (s == 2 || s == 3 || s == 4 || s == 5 || s == 7 || s == 8 || s == 9 || s == 11 || s == 12 || s == 13 || s == 14 || s == 15 || s == 16 || s == 18 || s == 19 || s == 20 || s == 21 || s == 22 || s == 23 || s == 24 || s == 26 || s == 27)) || (kd == 4 && (s == 0 || s == 1 || s == 2 || s == 6 || s == 7))
theorem busy_eq {C D : q_S} (h : ∀ p, D 2 4 p = C 2 4 p) : ∀ k, busy D k = busy C k := by
  intro k
  induction k with
  | zero => rfl
  | succ k ih => rw [busy, busy, ih, h k]
theorem g1_cg {C D : q_S} {n n' : Nat → Nat} {c c' : Nat} (he : ∀ kd s i, r_g1 kd s = true → D kd s i = C kd s i) (h0 : n' 0 = n 0) (h1 : n' 1 = n 1) (h2 : n' 2 = n 2) (h3 : n' 3 = n 3) (hc : c ≤ c') (h : g1 C n c) : g1 D n' c' := by
  unfold g1 at h ⊢
  rw [he 5 1 0 rfl, he 5 6 0 rfl, he 5 10 0 rfl, he 5 17 0 rfl, he 5 28 0 rfl, he 5 29 0 rfl, he 4 3 0 rfl, he 4 4 0 rfl, he 4 5 0 rfl, he 4 9 0 rfl, he 4 10 0 rfl, h0, h1, h2, h3]
  exact ⟨h.1, h.2.1, h.2.2.1, ⟨h.2.2.2.1.1, Nat.le_trans h.2.2.2.1.2 hc⟩, h.2.2.2.2⟩
theorem ga_cg {C D : q_S} {n n' : Nat → Nat} (he : ∀ kd s i, r_ga kd s = true → D kd s i = C kd s i) (h0 : n' 0 = n 0) (h2 : n' 2 = n 2) (h3 : n' 3 = n 3) (h : ga C n) : ga D n' := by
  intro j
  have q := h j
  rw [he 6 j 0 rfl, he 7 j 0 rfl, he 8 j 0 rfl, h0, h2, h3]
  exact q
theorem g2_cg {C D : q_S} {n n' : Nat → Nat} {c c' : Nat} (he : ∀ kd s i, r_g2 kd s = true → D kd s i = C kd s i) (h2 : n' 2 = n 2) (hc : c ≤ c') (h : g2 C n c) : g2 D n' c' := by
  refine ⟨by rw [he 24 0 0 rfl]; exact h.1, fun p => ?_⟩
  have q := h.2 p
  rw [he 22 (p + 1) 0 rfl, he 23 (p + 1) 0 rfl, he 24 (p + 1) 0 rfl, he 2 0 p rfl, he 2 1 p rfl, he 2 2 p rfl, he 2 3 p rfl, h2]
  exact ⟨q.1, q.2.1, q.2.2.1, q.2.2.2.1, by have := q.2.2.2.2.1; omega, q.2.2.2.2.2⟩
theorem g3_cg {C D : q_S} {n n' : Nat → Nat} (he : ∀ kd s i, r_g3 kd s = true → D kd s i = C kd s i) (h3 : n' 3 = n 3) (h : g3 C n) : g3 D n' := by
  intro t
  have q := h t
  rw [he 27 (t + 1) 0 rfl, he 28 (t + 1) 0 rfl, he 3 0 t rfl, he 3 1 t rfl, h3]
  exact q
theorem g3a_cg {C D : q_S} {c c' : Nat} (he : ∀ kd s i, r_g3a kd s = true → D kd s i = C kd s i) (hc : c ≤ c') (h : g3a C c) : g3a D c' := by
  intro t w hw
  have q := h t w hw
  rw [he 29 (4 * t + w) 0 rfl, he 3 (2 + w) t (by rcases (show w = 0 ∨ w = 1 ∨ w = 2 ∨ w = 3 by omega) with rfl | rfl | rfl | rfl <;> rfl)]
  exact ⟨q.1, q.2.1, by have := q.2.2; omega⟩
theorem g4_cg {C D : q_S} {n n' : Nat → Nat} (he : ∀ kd s i, r_g4 kd s = true → D kd s i = C kd s i) (h0 : n' 0 = n 0) (h3 : n 3 ≤ n' 3) (h : g4 C n) : g4 D n' := by
  refine ⟨by rw [he 31 0 0 rfl, he 32 0 0 rfl, he 33 0 0 rfl, he 34 0 0 rfl]; exact h.1, fun j => ?_⟩
  have q := h.2 j
  rw [he 31 (j + 1) 0 rfl, he 32 (j + 1) 0 rfl, he 33 (j + 1) 0 rfl, he 34 (j + 1) 0 rfl, he 0 0 j rfl, he 0 1 j rfl, he 0 2 j rfl, he 0 3 j rfl, he 0 4 j rfl, h0]
  exact ⟨q.1, q.2.1, q.2.2.1, q.2.2.2.1, fun hj => ⟨⟨(q.2.2.2.2 hj).1.1, by have := (q.2.2.2.2 hj).1.2; omega⟩, (q.2.2.2.2 hj).2⟩⟩
theorem g4a_cg {C D : q_S} (he : ∀ kd s i, r_g4a kd s = true → D kd s i = C kd s i) (h : g4a C) : g4a D := by
  intro j
  have q := h j
  rw [he 35 (j + 1) 0 rfl, he 36 (j + 1) 0 rfl, he 0 5 j rfl, he 0 6 j rfl]
  exact q
theorem g4c_cg {C D : q_S} {n n' : Nat → Nat} (he : ∀ kd s i, r_g4c kd s = true → D kd s i = C kd s i) (h0 : n' 0 = n 0) (h1 : n' 1 = n 1) (h : g4c C n) : g4c D n' := by
  refine ⟨fun j hj => ?_, fun i j hi e => ?_⟩
  · rw [he 0 7 j rfl, c_find_eq (fun k => he 1 0 k rfl), h1]
    exact h.1 j (h0 ▸ hj)
  · rw [he 1 6 i rfl, c_find_eq (fun k => he 1 0 k rfl), h1]
    exact h.2 i j (h1 ▸ hi) (by rw [← he 1 0 i rfl]; exact e)
theorem g5_cg {C D : q_S} {n n' : Nat → Nat} (he : ∀ kd s i, r_g5 kd s = true → D kd s i = C kd s i) (h0 : n 0 ≤ n' 0) (h1 : n' 1 = n 1) (h : g5 C n) : g5 D n' := by
  intro k
  have q := h k
  rw [he 38 k 0 rfl, he 39 k 0 rfl, he 40 k 0 rfl, he 1 0 k rfl, he 1 1 k rfl, he 1 2 k rfl, h1]
  exact ⟨q.1, q.2.1, q.2.2.1, fun hk => ⟨⟨(q.2.2.2 hk).1.1, by have := (q.2.2.2 hk).1.2; omega⟩, (q.2.2.2 hk).2⟩⟩
theorem g6_cg {C D : q_S} {n n' : Nat → Nat} (he : ∀ kd s i, r_g6 kd s = true → D kd s i = C kd s i) (h1 : n' 1 = n 1) (h : g6 C n) : g6 D n' := by
  intro k hk
  have q := h k (h1 ▸ hk)
  unfold c_job
  rw [he 44 k 0 rfl, he 1 0 k rfl, he 1 2 k rfl, he 1 3 k rfl, he 1 4 k rfl, he 1 5 k rfl, he 0 2 _ rfl, he 0 6 _ rfl]
  exact q
theorem g42_cg {C D : q_S} (he : ∀ kd s i, r_g42 kd s = true → D kd s i = C kd s i) (h : g42 C) : g42 D := by
  intro k
  have q := h k
  unfold c_job
  rw [he 42 k 0 rfl, he 1 0 k rfl, he 1 4 k rfl, he 1 5 k rfl, he 0 2 _ rfl]
  exact q
theorem g41_cg {C D : q_S} {n n' : Nat → Nat} (he : ∀ kd s i, r_g41 kd s = true → D kd s i = C kd s i) (h2 : n 2 ≤ n' 2) (h : g41 C n) : g41 D n' := by
  intro k
  have q := h k
  rw [he 41 k 0 rfl, he 1 3 k rfl, he 2 4 _ rfl]
  exact ⟨fun e => ⟨(q.1 e).1, by have := (q.1 e).2.1; omega, (q.1 e).2.2⟩, q.2⟩
theorem g24_cg {C D : q_S} (he : ∀ kd s i, r_g24 kd s = true → D kd s i = C kd s i) (h : g24 C) : g24 D := by
  intro p hp
  rw [he 2 4 p rfl] at hp ⊢
  have q := h p hp
  rw [he 1 3 _ rfl, he 41 _ 0 rfl, he 43 _ 0 rfl, he 2 5 p rfl]
  exact q
theorem g25_cg {C D : q_S} (he : ∀ kd s i, r_g25 kd s = true → D kd s i = C kd s i) (h : g25 C) : g25 D := by
  refine ⟨by rw [he 25 0 0 rfl]; exact h.1, fun p => ?_⟩
  have q := h.2 p
  rw [he 25 (p + 1) 0 rfl, he 2 4 p rfl]
  exact q
theorem g7_cg {C D : q_S} {c c' : Nat} (he : ∀ kd s i, r_g7 kd s = true → D kd s i = C kd s i) (hc : c ≤ c') (h : g7 C c) : g7 D c' := by
  unfold g7 at h ⊢
  rw [he 5 25 0 rfl, he 4 8 0 rfl, busy_eq (fun p => he 2 4 p rfl)]
  exact ⟨h.1, h.2.1, by have := h.2.2; omega⟩
theorem g7a_cg {C D : q_S} (he : ∀ kd s i, r_g7a kd s = true → D kd s i = C kd s i) (h : g7a C) : g7a D := by
  intro k
  have q := h k
  rw [he 46 k 0 rfl, he 47 k 0 rfl, he 9 k 0 rfl, he 10 k 0 rfl]
  exact q
theorem g8_cg {C D : q_S} {n n' : Nat → Nat} (he : ∀ kd s i, r_g8 kd s = true → D kd s i = C kd s i) (hn : ∀ k, 4 ≤ k → n' k = n k) (h : g8 C n) : g8 D n' := by
  obtain ⟨h1, h2, h3⟩ := h
  refine ⟨⟨by rw [hn 4 (by decide)]; exact h1.1, fun z hz => ?_⟩, ⟨by rw [hn 5 (by decide)]; exact h2.1, fun s hs => ?_⟩, by rw [hn 50 (by decide)]; exact h3⟩
  · have q := h1.2 z hz
    unfold c_sl at hz
    simp only [List.mem_cons, List.not_mem_nil, or_false] at hz
    rcases hz with rfl | rfl | rfl | rfl | rfl
    · exact ⟨by rw [he 4 0 0 rfl]; exact q.1, by rw [hn 6 (by decide)]; exact q.2⟩
    · exact ⟨by rw [he 4 1 0 rfl]; exact q.1, by rw [hn 7 (by decide)]; exact q.2⟩
    · exact ⟨by rw [he 4 2 0 rfl]; exact q.1, by rw [hn 8 (by decide)]; exact q.2⟩
    · exact ⟨by rw [he 4 6 0 rfl]; exact q.1, by rw [hn 9 (by decide)]; exact q.2⟩
    · exact ⟨by rw [he 4 7 0 rfl]; exact q.1, by rw [hn 10 (by decide)]; exact q.2⟩
  · have q := h2.2 s hs
    have hr : r_g8 5 s = true := by
      have : ∀ s ∈ m_sl, r_g8 5 s = true := by decide
      exact this s hs
    exact ⟨by rw [he 5 s 0 hr]; exact q.1, by rw [hn (20 + s) (by omega)]; exact q.2⟩
/-- only what isn't spoken of has changed -/
theorem Rel_cg {C D : q_S} {n : Nat → Nat} {c c' : Nat} (he : ∀ kd s i, ¬ (kd = 50 ∨ (kd = 5 ∧ s = 0)) → D kd s i = C kd s i) (hc : c ≤ c') (h : Rel C n c) : Rel D n c' := by
  obtain ⟨h1, ha, h2, h3, h3a, h4, h4a, h4c, h5, h6, h42, h41, h24, h25, h7, h7a, h8⟩ := h
  have E : ∀ (r : Nat → Nat → Bool), (∀ s, r 50 s = false) → r 5 0 = false → ∀ kd s i, r kd s = true → D kd s i = C kd s i := by
    intro r hr1 hr2 kd s i hk
    refine he kd s i ?_
    rintro (rfl | ⟨rfl, rfl⟩)
    · rw [hr1 s] at hk; exact Bool.false_ne_true hk
    · rw [hr2] at hk; exact Bool.false_ne_true hk
  exact ⟨g1_cg (E _ (fun _ => rfl) rfl) rfl rfl rfl rfl hc h1, ga_cg (E _ (fun _ => rfl) rfl) rfl rfl rfl ha, g2_cg (E _ (fun _ => rfl) rfl) rfl hc h2, g3_cg (E _ (fun _ => rfl) rfl) rfl h3, g3a_cg (E _ (fun _ => rfl) rfl) hc h3a, g4_cg (E _ (fun _ => rfl) rfl) rfl (Nat.le_refl _) h4, g4a_cg (E _ (fun _ => rfl) rfl) h4a, g4c_cg (E _ (fun _ => rfl) rfl) rfl rfl h4c, g5_cg (E _ (fun _ => rfl) rfl) (Nat.le_refl _) rfl h5, g6_cg (E _ (fun _ => rfl) rfl) rfl h6, g42_cg (E _ (fun _ => rfl) rfl) h42, g41_cg (E _ (fun _ => rfl) rfl) (Nat.le_refl _) h41, g24_cg (E _ (fun _ => rfl) rfl) h24, g25_cg (E _ (fun _ => rfl) rfl) h25, g7_cg (E _ (fun _ => rfl) rfl) hc h7, g7a_cg (E _ (fun _ => rfl) rfl) h7a, g8_cg (E _ (fun _ => rfl) rfl) (fun _ _ => rfl) h8⟩
theorem busy_nn (C : q_S) (k : Nat) : 0 ≤ busy C k := by
  induction k with
  | zero => exact Int.le_refl 0
  | succ k ih => rw [busy]; split <;> omega
theorem Rel.cR {C : q_S} {n : Nat → Nat} {c : Nat} (h : Rel C n c) (z : gz C n) : c_R C n c := by
  obtain ⟨h1, ha, h2, h3, h3a, h4, h4a, h4c, h5, h6, h42, h41, h24, h25, h7, h7a, h8⟩ := h
  have hb := busy_nn C 8
  refine ⟨⟨h1.1.2.1, h1.1.2.2⟩, ⟨h1.2.1.2.1, h1.2.1.2.2⟩, ⟨h1.2.2.1.2.1, h1.2.2.1.2.2⟩, h1.2.2.2.1.2, ⟨h7.2.1, by have := h7.2.2; omega⟩, fun j => (ha j).1, fun j => (ha j).2.1, fun j => (ha j).2.2, fun i hi => ((h5 i).2.2.2 hi).1, fun i hi => ((h4.2 i).2.2.2.2 hi).1, h4c.1, h4c.2, fun i => ?_, fun i => ?_, fun i => ?_, fun i => ?_, fun i => ⟨(h2.2 i).2.2.2.1, (h2.2 i).2.2.2.2.1⟩, fun s i q1 q2 => ?_, fun i hi => ((h4.2 i).2.2.2.2 hi).2.2.2.2, fun i hi => (h2.2 i).2.2.2.2.2 hi, h1.2.2.2.2.1.2⟩
  · by_cases q : i < n 0
    · have := ((h4.2 i).2.2.2.2 q).2.1; omega
    · have := z.1 0 2 i (by omega); omega
  · by_cases q : i < n 1
    · have := ((h5 i).2.2.2 q).2.2; omega
    · have := z.1 1 2 i (by omega); omega
  · by_cases q : i < n 1
    · have := ((h5 i).2.2.2 q).2.2; have := (h6 i q).2.2.1; omega
    · have := z.1 1 4 i (by omega); omega
  · by_cases q : i < n 1
    · have q5 := (h5 i).2.2.2 q
      have := (h6 i q).2.2.2.1
      have := ((h4.2 (c_job C i)).2.2.2.2 (by unfold c_job; omega)).2.1
      omega
    · have := z.1 1 5 i (by omega); omega
  · have := h3a i (s - 2) (by omega)
    rw [show 2 + (s - 2) = s by omega] at this
    exact this.2
theorem Rel.mR {C : q_S} {n : Nat → Nat} {c : Nat} (h : Rel C n c) (z : gz C n) (hc : c ≤ 600) : m_R C c := by
  have hcR := h.cR z
  obtain ⟨h1, ha, h2, h3, h3a, h4, h4a, h4c, h5, h6, h42, h41, h24, h25, h7, h7a, h8⟩ := h
  have hb := busy_nn C 8
  obtain ⟨⟨p1, p2, p3⟩, ⟨t1, t2, t3⟩, ⟨j1, j2, j3⟩, ⟨k1, k2⟩, ⟨w1, w2⟩, w3⟩ := id h1
  have hc1 : (n 1 : Int) ≤ c := by omega
  have h38 : ∀ k, 0 ≤ C 38 k 0 ∧ C 38 k 0 ≤ n 0 := fun k => by
    rw [(h5 k).1]
    by_cases q : k < n 1
    · have := ((h5 k).2.2.2 q).1; omega
    · have := z.1 1 0 k (by omega); omega
  refine ⟨by omega, by omega, by omega, by omega, ?_, by omega, fun k => ?_, fun k => ?_, fun k => ?_, fun k => ?_, fun k => ?_, fun k => ?_, fun k => ?_, fun k => ?_, fun k => ?_, fun k => ?_, fun k => ?_, fun k => ?_, fun k hk => ?_, fun j q1 q2 => ?_, fun k hk => ?_, fun k => ?_, fun k => ?_⟩
  · have := h7; unfold g7 at this; omega
  · have := h38 k; omega
  · cases k with
    | zero => have := h4.1; omega
    | succ j =>
      rw [(h4.2 j).1]
      by_cases q : j < n 0
      · have := ((h4.2 j).2.2.2.2 q).1; omega
      · have := z.1 0 1 j (by omega); omega
  · cases k with
    | zero => have := h4.1; omega
    | succ j => rw [(h4.2 j).2.1]; exact c_R02 hcR j
  · cases k with
    | zero => have := h25.1; omega
    | succ p =>
      by_cases q : p < 8
      · rw [(h25.2 p).1 q]; have := z.2 p; omega
      · rw [(h25.2 p).2 (by omega)]; omega
  · by_cases q : C 1 3 k = 1
    · have := (h41 k).1 q; omega
    · have := (h41 k).2 q; omega
  · rw [(h5 k).2.1]; exact c_R12 hcR k
  · rw [h42 k]
    by_cases q : k < n 1
    · obtain ⟨s1, s2, s3, s4, s5, s6, s7⟩ := h6 k q
      have q5 := (h5 k).2.2.2 q
      have qp := ((h4.2 (c_job C k)).2.2.2.2 (by unfold c_job; omega)).2.1
      have m1 := m_mul (a := C 1 4 k) (b := C 0 2 (c_job C k)) (by omega) (by omega)
      have m2 := m_mul (a := C 1 2 k) (b := C 0 2 (c_job C k)) (by omega) (by omega)
      refine ⟨by omega, ?_⟩
      by_cases e : C 1 4 k = C 1 2 k
      · have := s5 e; omega
      · have m3 : (C 1 4 k + 1) * C 0 2 (c_job C k) ≤ C 1 2 k * C 0 2 (c_job C k) := Int.mul_le_mul_of_nonneg_right (by omega) (by omega)
        rw [Int.add_mul, Int.one_mul] at m3
        omega
    · rw [z.1 1 4 k (by omega), z.1 1 5 k (by omega)]; omega
  · rw [(h5 k).2.2.1]
    by_cases q : k < n 1
    · exact ((h5 k).2.2.2 q).2.1
    · rw [z.1 1 1 k (by omega)]; omega
  · have := h3a (k / 4) (k % 4) (by omega)
    rw [show 4 * (k / 4) + k % 4 = k by omega] at this
    omega
  · cases k with
    | zero => have := h2.1; omega
    | succ p => rw [(h2.2 p).2.2.1]; have := h2.2 p; omega
  · cases k with
    | zero => have := h4.1; omega
    | succ j =>
      rw [(h4.2 j).2.2.2.1]
      by_cases q : j < n 0
      · exact ((h4.2 j).2.2.2.2 q).2.2.2.1
      · rw [z.1 0 4 j (by omega)]; omega
  · cases k with
    | zero => have := h4.1; omega
    | succ j =>
      rw [(h4.2 j).2.2.1]
      by_cases q : j < n 0
      · exact ((h4.2 j).2.2.2.2 q).2.2.1
      · rw [z.1 0 3 j (by omega)]; omega
  · rw [(h5 k).1]; have := ((h5 k).2.2.2 (by omega)).1; omega
  · obtain ⟨i, rfl⟩ : ∃ i, j = i + 1 := ⟨j - 1, by omega⟩
    rw [(h4.2 i).1, (h4.2 i).2.1]
    have := (h4.2 i).2.2.2.2 (by omega)
    omega
  · cases k with
    | zero => have := h25.1; omega
    | succ p => rw [(h25.2 p).1 (by omega)]; have := z.2 p; omega
  · by_cases q : C 1 3 k = 1
    · have := (h41 k).1 q; omega
    · have := (h41 k).2 q; omega
  · rw [(h7a k).2.1]; exact (h7a k).2.2
theorem Rel.cI {C : q_S} {n : Nat → Nat} {c : Nat} (h : Rel C n c) : c_I C n := by
  obtain ⟨h1, ha, h2, h3, h3a, h4, h4a, h4c, h5, h6, h42, h41, h24, h25, h7, h7a, h8⟩ := h
  intro i hi
  have q5 := (h5 i).2.2.2 hi
  have q6 := h6 i hi
  have q4 := (h4.2 (c_job C i)).2.2.2.2 (by unfold c_job; omega)
  exact ⟨q4.2.1.1, q6.2.2.2.1.2, q6.2.2.1.2⟩
