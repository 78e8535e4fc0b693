theorem c_find_ext {C D : q_S} (j : Nat) : ∀ (m k : Nat), (∀ i, i < k + m → D 1 0 i = C 1 0 i) → c_find D j (m + 1) k = if ¬ c_find C j m k = 0 then c_find C j m k else if D 1 0 (k + m) = (j : Int) + 1 then ((k + m : Nat) : Int) + 1 else 0 := by
  intro m
  induction m with
  | zero =>
    intro k _
    rw [c_find, c_find, c_find, if_neg (show ¬ ¬ (0 : Int) = 0 from fun q => q rfl)]
    rfl
  | succ m ih =>
    intro k he
    rw [c_find, he k (by omega), show c_find C j (m + 1) k = if C 1 0 k = (j : Int) + 1 then (k : Int) + 1 else c_find C j m (k + 1) from rfl]
    by_cases e : C 1 0 k = (j : Int) + 1
    · rw [if_pos e, if_pos e, if_pos (by omega)]
    · rw [if_neg e, if_neg e, ih (k + 1) (fun i hi => he i (by omega)), show k + 1 + m = k + (m + 1) by omega]
theorem c_find_0 {C : q_S} {j m k : Nat} (h : ∀ i, k ≤ i → i < k + m → ¬ C 1 0 i = (j : Int) + 1) : c_find C j m k = 0 := by
  rcases c_find_c C j m k with ⟨q, -⟩ | ⟨i, -, q1, q2, q3, -⟩
  · exact q
  · exact absurd q3 (h i q1 q2)
theorem c_find_n {C : q_S} {j m k : Nat} (h : c_find C j m k = 0) : ∀ i, k ≤ i → i < k + m → ¬ C 1 0 i = (j : Int) + 1 := by
  rcases c_find_c C j m k with ⟨-, q⟩ | ⟨i, q, -⟩
  · exact q
  · omega
theorem c_la_sp {C : q_S} {j m : Nat} (h : ¬ c_la C j m = 0) : ∃ L : Nat, L < m ∧ c_la C j m = (L : Int) + 1 ∧ C 1 0 L = (j : Int) + 1 ∧ ∀ i, L < i → i < m → ¬ C 1 0 i = (j : Int) + 1 := by
  induction m with
  | zero => exact absurd rfl h
  | succ m ih =>
    rw [c_la] at h ⊢
    by_cases e : C 1 0 m = (j : Int) + 1
    · rw [if_pos e]
      exact ⟨m, by omega, rfl, e, fun i q1 q2 => by omega⟩
    · rw [if_neg e] at h ⊢
      obtain ⟨L, l1, l2, l3, l4⟩ := ih h
      refine ⟨L, by omega, l2, l3, fun i q1 q2 => ?_⟩
      by_cases ei : i = m
      · subst ei; exact e
      · exact l4 i q1 (by omega)
/-- a new part at the end, in the chain's words -/
theorem g4c_add {C D : q_S} {n n' : Nat → Nat} {J : Nat} (h : g4c C n) (z : gz C n) (hn1 : n' 1 = n 1 + 1) (hn0 : n 0 ≤ n' 0) (hJ : J < n' 0) (e10 : ∀ i, i < n 1 → D 1 0 i = C 1 0 i) (eJ : D 1 0 (n 1) = (J : Int) + 1)
    (e07 : ∀ j, j < n' 0 → D 0 7 j = if ¬ c_find C j (n 1) 0 = 0 then c_find C j (n 1) 0 else if j = J then (n 1 : Int) + 1 else 0)
    (e16 : ∀ i j : Nat, i < n 1 → C 1 0 i = (j : Int) + 1 → D 1 6 i = if ¬ c_find C j (n 1 - (i + 1)) (i + 1) = 0 then c_find C j (n 1 - (i + 1)) (i + 1) else if j = J then (n 1 : Int) + 1 else 0) (e17 : D 1 6 (n 1) = 0) : g4c D n' := by
  refine ⟨fun j hj => ?_, fun i j hi e => ?_⟩
  · rw [hn1, c_find_ext j (n 1) 0 (fun i hi => e10 i (by omega)), show 0 + n 1 = n 1 by omega, eJ, e07 j hj]
    by_cases q : j = J
    · rw [if_pos q, if_pos (show (J : Int) + 1 = (j : Int) + 1 by omega)]
    · rw [if_neg q, if_neg (show ¬ (J : Int) + 1 = (j : Int) + 1 by omega)]
  · by_cases ei : i = n 1
    · subst ei
      rw [e17, hn1, show n 1 + 1 - (n 1 + 1) = 0 by omega]
      rfl
    · rw [hn1] at hi ⊢
      have hi' : i < n 1 := by omega
      rw [e10 i hi'] at e
      rw [show n 1 + 1 - (i + 1) = n 1 - (i + 1) + 1 by omega, c_find_ext j (n 1 - (i + 1)) (i + 1) (fun i' h' => e10 i' (by omega)), show i + 1 + (n 1 - (i + 1)) = n 1 by omega, eJ, e16 i j hi' e]
      by_cases q : j = J
      · rw [if_pos q, if_pos (show (J : Int) + 1 = (j : Int) + 1 by omega)]
      · rw [if_neg q, if_neg (show ¬ (J : Int) + 1 = (j : Int) + 1 by omega)]
theorem R_job {C : q_S} {n : Nat → Nat} {c : Nat} (h : Rel C n c) (z : gz C n) {a b d f y z0 : Int} {m8 mj mk : Nat} {x0 xa xj xk : Int} (ha' : 1 ≤ a ∧ a ≤ (n 3 : Int)) (hb : 1 ≤ b ∧ b ≤ 500) (hd : 1 ≤ d ∧ d ≤ 100) (hf : 0 ≤ f ∧ f ≤ 9) (hy : 0 ≤ y) (hlt : n 0 < 60) (e0 : m8 = n 0) (e1 : mj = n 0 + 1) (e2 : mk = n 1) (f0 : x0 = (n 0 : Int) + 1) (f1 : xa = a) (f2 : xj = (n 0 : Int) + 1) (f3 : xk = (n 1 : Int) + 1) :
    Rel (q_up (q_up (q_up (q_up (q_up (q_up (q_up (q_up (q_up (q_up (q_up (q_up (q_up (q_up (q_up (q_up (q_up (q_up (q_up (q_up (q_up (q_up (q_up (q_up (q_up C 0 0 (n 0) x0) 0 1 (n 0) xa) 0 2 (n 0) b) 0 3 (n 0) f) 0 4 (n 0) y) 1 0 (n 1) ((n 0 : Nat) + 1)) 1 1 (n 1) 0) 1 2 (n 1) d) 0 7 (n 0) ((n 1 : Nat) + 1)) 8 m8 0 ((n 0 : Nat) + 1)) 4 5 0 x0) 50 0 0 z0) 5 0 0 0) 5 10 0 xj) 31 mj 0 a) 32 mj 0 b) 33 mj 0 f) 34 mj 0 y) 38 mk 0 xj) 39 mk 0 d) 40 mk 0 0) 41 mk 0 0) 42 mk 0 0) 44 mk 0 1) 5 17 0 xk) (q_bump (q_bump n 0) 1) (c + 1) := by
  subst e0 e1 e2 f0 f1 f2 f3
  obtain ⟨h1, ha, h2, h3, h3a, h4, h4a, h4c, h5, h6, h42, h41, h24, h25, h7, h7a, h8⟩ := id h
  have n0 : q_bump (q_bump n 0) 1 0 = n 0 + 1 := rfl
  have n1 : q_bump (q_bump n 0) 1 1 = n 1 + 1 := rfl
  have jl : ∀ k, k < n 1 → ¬ c_job C k = n 0 := fun k hk q => by
    have := ((h5 k).2.2.2 hk).1
    unfold c_job at q
    omega
  refine ⟨?_, ?_, g2_cg (n := n) (by repeat (first | exact (fun _ _ _ _ => rfl) | refine q_upr rfl ?_)) rfl (Nat.le_succ c) h2, g3_cg (n := n) (by repeat (first | exact (fun _ _ _ _ => rfl) | refine q_upr rfl ?_)) rfl h3, g3a_cg (by repeat (first | exact (fun _ _ _ _ => rfl) | refine q_upr rfl ?_)) (Nat.le_succ c) h3a, ?_, g4a_cg (by repeat (first | exact (fun _ _ _ _ => rfl) | refine q_upr rfl ?_))  h4a, ?_, ?_, ?_, ?_, ?_, ?_, g25_cg (by repeat (first | exact (fun _ _ _ _ => rfl) | refine q_upr rfl ?_))  h25, g7_cg (by repeat (first | exact (fun _ _ _ _ => rfl) | refine q_upr rfl ?_)) (Nat.le_succ c) h7, g7a_cg (by repeat (first | exact (fun _ _ _ _ => rfl) | refine q_upr rfl ?_))  h7a, g8_cg (n := n) (by repeat (first | exact (fun _ _ _ _ => rfl) | refine q_upr rfl ?_)) (fun k hk => by rw [bump_n _ (by omega), bump_n _ (by omega)]) h8⟩
  · exact ⟨h1.1, h1.2.1, ⟨rfl, rfl, hlt⟩, ⟨rfl, by have := h1.2.2.2.1.2; rw [n1]; omega⟩, h1.2.2.2.2⟩
  · intro j
    simp only [q_ua, Nat.reduceEqDiff, false_and, and_false, true_and, and_true, ↓reduceIte, Nat.succ_ne_self, Nat.add_right_cancel_iff]
    refine ⟨(ha j).1, (ha j).2.1, ?_⟩
    rw [n0]
    by_cases e : j = n 0
    · rw [if_pos e, if_pos (by omega), e]
    · rw [if_neg e, (ha j).2.2]
      by_cases q : j < n 0
      · rw [if_pos q, if_pos (by omega)]
      · rw [if_neg q, if_neg (by omega)]
  · refine ⟨h4.1, fun j => ?_⟩
    have q := h4.2 j
    simp only [q_ua, Nat.reduceEqDiff, false_and, and_false, true_and, and_true, ↓reduceIte, Nat.succ_ne_self, Nat.add_right_cancel_iff]
    by_cases e : j = n 0
    · simp only [if_pos e]
      exact ⟨trivial, trivial, trivial, trivial, fun _ => ⟨ha', hb, hf, hy, by rw [e]⟩⟩
    · simp only [if_neg e]
      exact ⟨q.1, q.2.1, q.2.2.1, q.2.2.2.1, fun hj => q.2.2.2.2 (by rw [n0] at hj; omega)⟩
  · refine g4c_add (C := C) (J := n 0) h4c z n1 (by omega) (by omega) (fun i hi => ?_) ?_ (fun j hj => ?_) (fun i j hi e => ?_) ?_
    · simp only [q_ua, Nat.reduceEqDiff, false_and, and_false, true_and, and_true, ↓reduceIte, Nat.succ_ne_self, Nat.add_right_cancel_iff]; rw [if_neg (by omega)]
    · simp only [q_ua, Nat.reduceEqDiff, false_and, and_false, true_and, and_true, ↓reduceIte, Nat.succ_ne_self, Nat.add_right_cancel_iff]
    · have cz : c_find C (n 0) (n 1) 0 = 0 := c_find_0 (fun i _ hi q => by have := ((h5 i).2.2.2 (by omega)).1; omega)
      simp only [q_ua, Nat.reduceEqDiff, false_and, and_false, true_and, and_true, ↓reduceIte, Nat.succ_ne_self, Nat.add_right_cancel_iff]
      by_cases e : j = n 0
      · rw [if_pos e, e, if_neg (fun q => q cz), if_pos rfl]
      · rw [if_neg e, if_neg e, h4c.1 j (by omega)]
        by_cases q : c_find C j (n 1) 0 = 0
        · rw [if_neg (fun r => r q), q]
        · rw [if_pos q]
    · have ej : ¬ j = n 0 := by have := ((h5 i).2.2.2 hi).1; omega
      simp only [q_ua, Nat.reduceEqDiff, false_and, and_false, true_and, and_true, ↓reduceIte, Nat.succ_ne_self, Nat.add_right_cancel_iff]
      rw [if_neg ej, h4c.2 i j hi e]
      by_cases q : c_find C j (n 1 - (i + 1)) (i + 1) = 0
      · rw [if_neg (fun r => r q), q]
      · rw [if_pos q]
    · simp only [q_ua, Nat.reduceEqDiff, false_and, and_false, true_and, and_true, ↓reduceIte, Nat.succ_ne_self, Nat.add_right_cancel_iff]; exact z.1 1 6 (n 1) (Nat.le_refl _)
  · intro k
    have q := h5 k
    simp only [q_ua, Nat.reduceEqDiff, false_and, and_false, true_and, and_true, ↓reduceIte, Nat.succ_ne_self, Nat.add_right_cancel_iff]
    by_cases e : k = n 1
    · simp only [if_pos e]
      exact ⟨trivial, trivial, trivial, fun _ => ⟨⟨by omega, by rw [n0]; omega⟩, by omega, by omega⟩⟩
    · simp only [if_neg e]
      refine ⟨q.1, q.2.1, q.2.2.1, fun hk => ?_⟩
      have q2 := q.2.2.2 (by rw [n1] at hk; omega)
      exact ⟨⟨q2.1.1, by rw [n0]; omega⟩, q2.2⟩
  · intro k hk
    rw [n1] at hk
    by_cases e : k = n 1
    · subst e
      have t3 := z.1 1 3 (n 1) (Nat.le_refl _)
      have t4 := z.1 1 4 (n 1) (Nat.le_refl _)
      have t5 := z.1 1 5 (n 1) (Nat.le_refl _)
      have t6 := z.1 0 6 (n 0) (Nat.le_refl _)
      unfold c_job
      simp only [q_ua, Nat.reduceEqDiff, false_and, and_false, true_and, and_true, ↓reduceIte, Nat.succ_ne_self, Nat.add_right_cancel_iff, show ((n 0 : Int) + 1 - 1).toNat = n 0 by omega]
      rw [t3, t4, t5, t6]
      exact ⟨by omega, by simp, by omega, by omega, fun _ => rfl, fun _ => ⟨by omega, rfl⟩, fun q => by omega⟩
    · have q := h6 k (by omega)
      have jq := jl k (by omega)
      unfold c_job at jq q ⊢
      simp only [q_ua, Nat.reduceEqDiff, false_and, and_false, true_and, and_true, ↓reduceIte, Nat.succ_ne_self, Nat.add_right_cancel_iff, if_neg e, if_neg jq]
      exact q
  · intro k
    have q := h42 k
    by_cases e : k < n 1
    · have jq := jl k e
      have e' : ¬ k = n 1 := by omega
      unfold c_job at jq q ⊢
      simp only [q_ua, Nat.reduceEqDiff, false_and, and_false, true_and, and_true, ↓reduceIte, Nat.succ_ne_self, Nat.add_right_cancel_iff, if_neg e', if_neg jq]
      exact q
    · have t4 := z.1 1 4 k (by omega)
      have t5 := z.1 1 5 k (by omega)
      rw [t4, t5] at q
      simp only [q_ua, Nat.reduceEqDiff, false_and, and_false, true_and, and_true, ↓reduceIte, Nat.succ_ne_self, Nat.add_right_cancel_iff]
      rw [t4, t5]
      by_cases e' : k = n 1
      · rw [if_pos e']; omega
      · rw [if_neg e']; omega
  · intro k
    have q := h41 k
    simp only [q_ua, Nat.reduceEqDiff, false_and, and_false, true_and, and_true, ↓reduceIte, Nat.succ_ne_self, Nat.add_right_cancel_iff]
    refine ⟨fun e => ?_, fun e => ?_⟩
    · have : ¬ k = n 1 := fun r => by rw [r, z.1 1 3 (n 1) (Nat.le_refl _)] at e; omega
      rw [if_neg this]
      exact q.1 e
    · by_cases r : k = n 1
      · rw [if_pos r]
      · rw [if_neg r]; exact q.2 e
  · intro p hp
    simp only [q_ua, Nat.reduceEqDiff, false_and, and_false, true_and, and_true, ↓reduceIte, Nat.succ_ne_self, Nat.add_right_cancel_iff] at hp ⊢
    have q := h24 p hp
    have := z.2 p
    rw [if_neg (by omega)]
    exact q
