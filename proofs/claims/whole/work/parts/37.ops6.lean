theorem o_job {C : q_S} {n : Nat → Nat} {ad : Nat → Nat → Nat} {c : Nat} {a b d f y : Int} {r : Int32} {rb : Int32} {u u2 : q_U} (h : Rel C n c) (z : gz C n)  (hp : pL_job n ad C a b d f y r u) (hm : tX5_job u.1 u.2.1 u.2.2 a b d f y rb u2) : Res c r (fun z => R32 z ∧ rb = iI z) u u2 := by
  obtain ⟨h1, ha, h2, h3, h3a, h4, h4a, h4c, h5, h6, h42, h41, h24, h25, h7, h7a, h8⟩ := id h
  have e1 := h1.2.1.1
  have e2 := h1.2.2.1.1
  have e3 := h1.2.2.1.2.1
  have e4 := h1.2.2.2.1.1
  rcases hp with ⟨v, z0, hz0, ⟨ad1, ad2, ca, cb, cd, cf, cy, cj, -, -, rfl, ce⟩, rfl, rfl⟩ | ⟨hx, rfl, rfl⟩ | ⟨hx, rfl, rfl⟩ | ⟨hx, rfl, rfl⟩
  · have ca2 : 1 ≤ a ∧ a ≤ C 5 6 0 := by omega
    rcases hm with ⟨mb, md, mf, my, ma, rfl, rfl⟩ | ⟨mb, md, mf, my, ma, rfl, rfl⟩ | ⟨mb, md, mf, my, ma, mj, rfl, rfl⟩ | ⟨mb, md, mf, my, ma, mj, rfl, rfl⟩ | ⟨mb, md, mf, my, ma, rfl, rfl⟩ | ⟨mb, md, mf, ma, rfl, rfl⟩ | ⟨mb, md, mf, ma, rfl, rfl⟩ | ⟨mb, md, ma, rfl, rfl⟩ | ⟨mb, md, ma, rfl, rfl⟩ | ⟨mb, ma, rfl, rfl⟩ | ⟨mb, ma, rfl, rfl⟩
    · omega
    · omega
    · refine ⟨0, by omega, rfl, rfl, fun _ => ⟨z0, ⟨hz0, ?_⟩, rfl⟩, rfl, rfl, R_job h z ca cb cd cf cy (by omega) (by omega) (show (C 5 10 0 + 1).toNat = n 0 + 1 by omega) (show (C 5 17 0).toNat = n 1 by omega) (by omega) (by omega) (show C 5 10 0 + 1 = (n 0 : Int) + 1 by omega) (show C 5 17 0 + 1 = (n 1 : Int) + 1 by omega)⟩
      rw [ce]
      exact congrArg iI (show C 5 10 0 + 1 = C 4 5 0 + 1 by omega)
    · have mj : C 5 10 0 = 60 := mj
      omega
    · exact absurd ca2 ma
    · exact absurd cf mf
    · exact absurd cf mf
    · exact absurd cd md
    · exact absurd cd md
    · exact absurd cb mb
    · exact absurd cb mb
  · have cx : ¬ (1 ≤ a ∧ a ≤ C 5 6 0) := by
      rcases hx with ⟨-, q⟩ | ⟨q, -⟩ | ⟨q, -⟩ | ⟨q, -⟩ | ⟨q, -⟩ | ⟨q, -⟩
      · omega
      all_goals exact absurd q (by decide)
    rcases hm with ⟨mb, md, mf, my, ma, rfl, rfl⟩ | ⟨mb, md, mf, my, ma, rfl, rfl⟩ | ⟨mb, md, mf, my, ma, mj, rfl, rfl⟩ | ⟨mb, md, mf, my, ma, mj, rfl, rfl⟩ | ⟨mb, md, mf, my, ma, rfl, rfl⟩ | ⟨mb, md, mf, ma, rfl, rfl⟩ | ⟨mb, md, mf, ma, rfl, rfl⟩ | ⟨mb, md, ma, rfl, rfl⟩ | ⟨mb, md, ma, rfl, rfl⟩ | ⟨mb, ma, rfl, rfl⟩ | ⟨mb, ma, rfl, rfl⟩
    · exact absurd ma cx
    · exact Res_x h (by decide)
    · exact absurd ma cx
    · exact absurd ma cx
    · exact Res_x h (by decide)
    · exact absurd ma cx
    · exact Res_x h (by decide)
    · exact absurd ma cx
    · exact Res_x h (by decide)
    · exact absurd ma cx
    · exact Res_x h (by decide)
  · have cx : (1 ≤ a ∧ a ≤ C 5 6 0) ∧ ¬ ((1 ≤ b ∧ b ≤ 500) ∧ (1 ≤ d ∧ d ≤ 100) ∧ (0 ≤ f ∧ f ≤ 9) ∧ 0 ≤ y) := by
      rcases hx with ⟨q, -⟩ | ⟨q, -⟩ | ⟨-, q⟩ | ⟨-, q⟩ | ⟨-, q⟩ | ⟨-, q⟩
      · exact absurd q (by decide)
      · exact absurd q (by decide)
      all_goals omega
    rcases hm with ⟨mb, md, mf, my, ma, rfl, rfl⟩ | ⟨mb, md, mf, my, ma, rfl, rfl⟩ | ⟨mb, md, mf, my, ma, mj, rfl, rfl⟩ | ⟨mb, md, mf, my, ma, mj, rfl, rfl⟩ | ⟨mb, md, mf, my, ma, rfl, rfl⟩ | ⟨mb, md, mf, ma, rfl, rfl⟩ | ⟨mb, md, mf, ma, rfl, rfl⟩ | ⟨mb, md, ma, rfl, rfl⟩ | ⟨mb, md, ma, rfl, rfl⟩ | ⟨mb, ma, rfl, rfl⟩ | ⟨mb, ma, rfl, rfl⟩
    · exact Res_x h (by decide)
    · exact absurd cx.1 ma
    · exact absurd ⟨mb, md, mf, my⟩ cx.2
    · exact absurd ⟨mb, md, mf, my⟩ cx.2
    · exact absurd cx.1 ma
    · exact Res_x h (by decide)
    · exact absurd cx.1 ma
    · exact Res_x h (by decide)
    · exact absurd cx.1 ma
    · exact Res_x h (by decide)
    · exact absurd cx.1 ma
  · have cx : (1 ≤ a ∧ a ≤ C 5 6 0) ∧ ((1 ≤ b ∧ b ≤ 500) ∧ (1 ≤ d ∧ d ≤ 100) ∧ (0 ≤ f ∧ f ≤ 9) ∧ 0 ≤ y) ∧ 60 ≤ C 4 5 0 := by
      rcases hx with ⟨q, -⟩ | ⟨-, q⟩ | ⟨q, -⟩ | ⟨q, -⟩ | ⟨q, -⟩ | ⟨q, -⟩
      · exact absurd q (by decide)
      · omega
      all_goals exact absurd q (by decide)
    have := h1.2.2.1.2.2
    rcases hm with ⟨mb, md, mf, my, ma, rfl, rfl⟩ | ⟨mb, md, mf, my, ma, rfl, rfl⟩ | ⟨mb, md, mf, my, ma, mj, rfl, rfl⟩ | ⟨mb, md, mf, my, ma, mj, rfl, rfl⟩ | ⟨mb, md, mf, my, ma, rfl, rfl⟩ | ⟨mb, md, mf, ma, rfl, rfl⟩ | ⟨mb, md, mf, ma, rfl, rfl⟩ | ⟨mb, md, ma, rfl, rfl⟩ | ⟨mb, md, ma, rfl, rfl⟩ | ⟨mb, ma, rfl, rfl⟩ | ⟨mb, ma, rfl, rfl⟩
    · omega
    · omega
    · have mj : ¬ C 5 10 0 = 60 := mj
      omega
    · exact Res_x h (by decide)
    · exact absurd cx.1 ma
    · exact absurd cx.2.1.2.2.1 mf
    · exact absurd cx.1 ma
    · exact absurd cx.2.1.2.1 md
    · exact absurd cx.1 ma
    · exact absurd cx.2.1.1 mb
    · exact absurd cx.1 ma
theorem R_split {C : q_S} {n : Nat → Nat} {c : Nat} (h : Rel C n c) (z : gz C n) {j S L mk mS : Nat} {d xb xc z0 xs ys xk : Int} (hj : j < n 0) (hb : 0 ≤ xb ∧ xb ≤ 8) (hd : 1 ≤ d) (hS : S < n 1) (hSj : C 1 0 S = (j : Int) + 1) (hcan : c_can C S d) (hL : c_la C j (n 1) = (L : Int) + 1) (e2 : mk = n 1) (e3 : S = mS) (f0 : xc = xb) (f1 : xs = C 1 2 S - d) (f2 : ys = C 1 2 S - d) (f3 : xk = (n 1 : Int) + 1) :
    Rel (q_up (q_up (q_up (q_up (q_up (q_up (q_up (q_up (q_up (q_up (q_up (q_up (q_up (q_up (q_up C 1 2 S xs) 1 0 (n 1) ((j : Nat) + 1)) 1 1 (n 1) xc) 1 2 (n 1) d) 1 6 L ((n 1 : Nat) + 1)) 50 0 0 z0) 5 0 0 0) 39 mS 0 ys) 38 mk 0 ((j : Nat) + 1)) 39 mk 0 d) 40 mk 0 xb) 41 mk 0 0) 42 mk 0 0) 44 mk 0 1) 5 17 0 xk) (q_bump n 1) (c + 1) := by
  subst e2 e3 f0 f1 f2 f3
  obtain ⟨h1, ha, h2, h3, h3a, h4, h4a, h4c, h5, h6, h42, h41, h24, h25, h7, h7a, h8⟩ := id h
  have n1 : q_bump n 1 1 = n 1 + 1 := rfl
  have n0 : q_bump n 1 0 = n 0 := rfl
  obtain ⟨L', l1, l2, l3, l4⟩ := c_la_sp (C := C) (j := j) (m := n 1) (by omega)
  have : L' = L := by omega
  subst this
  obtain ⟨cs, co, cu⟩ := hcan
  have q6S := h6 S hS
  have q5S := (h5 S).2.2.2 hS
  have eS : ¬ S = n 1 := by omega
  have ud : 0 ≤ C 1 4 S ∧ C 1 4 S + d < C 1 2 S := by
    unfold c_unt at cu
    split at cu <;> omega
  refine ⟨?_, ga_cg (n := n) (by repeat (first | exact (fun _ _ _ _ => rfl) | refine q_upr rfl ?_)) rfl rfl rfl ha, g2_cg (n := n) (by repeat (first | exact (fun _ _ _ _ => rfl) | refine q_upr rfl ?_)) rfl (Nat.le_succ c) h2, g3_cg (n := n) (by repeat (first | exact (fun _ _ _ _ => rfl) | refine q_upr rfl ?_)) rfl h3, g3a_cg (by repeat (first | exact (fun _ _ _ _ => rfl) | refine q_upr rfl ?_)) (Nat.le_succ c) h3a, g4_cg (n := n) (by repeat (first | exact (fun _ _ _ _ => rfl) | refine q_upr rfl ?_)) rfl (Nat.le_refl _) h4, g4a_cg (by repeat (first | exact (fun _ _ _ _ => rfl) | refine q_upr rfl ?_))  h4a, ?_, ?_, ?_, ?_, ?_, ?_, g25_cg (by repeat (first | exact (fun _ _ _ _ => rfl) | refine q_upr rfl ?_))  h25, g7_cg (by repeat (first | exact (fun _ _ _ _ => rfl) | refine q_upr rfl ?_)) (Nat.le_succ c) h7, g7a_cg (by repeat (first | exact (fun _ _ _ _ => rfl) | refine q_upr rfl ?_))  h7a, g8_cg (n := n) (by repeat (first | exact (fun _ _ _ _ => rfl) | refine q_upr rfl ?_)) (fun k hk => bump_n n (by omega)) h8⟩
  · exact ⟨h1.1, h1.2.1, h1.2.2.1, ⟨rfl, by have := h1.2.2.2.1.2; rw [n1]; omega⟩, h1.2.2.2.2⟩
  · refine g4c_add (C := C) (J := j) h4c z n1 (by rw [n0]; omega) (by rw [n0]; exact hj) (fun i hi => ?_) ?_ (fun j' hj' => ?_) (fun i j' hi e => ?_) ?_
    · simp only [q_ua, Nat.reduceEqDiff, false_and, and_false, true_and, and_true, ↓reduceIte, Nat.succ_ne_self, Nat.add_right_cancel_iff]; rw [if_neg (by omega)]
    · simp only [q_ua, Nat.reduceEqDiff, false_and, and_false, true_and, and_true, ↓reduceIte, Nat.succ_ne_self, Nat.add_right_cancel_iff]
    · simp only [q_ua, Nat.reduceEqDiff, false_and, and_false, true_and, and_true, ↓reduceIte, Nat.succ_ne_self, Nat.add_right_cancel_iff]
      rw [h4c.1 j' (by rw [n0] at hj'; exact hj')]
      by_cases q : c_find C j' (n 1) 0 = 0
      · rw [if_neg (fun r => r q), q, if_neg]
        intro e
        subst e
        exact c_find_n q S (by omega) (by omega) hSj
      · rw [if_pos q]
    · simp only [q_ua, Nat.reduceEqDiff, false_and, and_false, true_and, and_true, ↓reduceIte, Nat.succ_ne_self, Nat.add_right_cancel_iff]
      by_cases eL : i = L'
      · subst eL
        have ej : j' = j := by omega
        subst ej
        rw [if_pos rfl, if_pos rfl, if_neg]
        intro q
        exact q (c_find_0 (fun i' q1 q2 => l4 i' (by omega) (by omega)))
      · rw [if_neg eL, h4c.2 i j' hi e]
        by_cases q : c_find C j' (n 1 - (i + 1)) (i + 1) = 0
        · rw [if_neg (fun r => r q), q, if_neg]
          intro e'
          subst e'
          rcases Nat.lt_or_gt_of_ne eL with r | r
          · exact c_find_n q L' (by omega) (by omega) l3
          · exact l4 i r hi e
        · rw [if_pos q]
    · simp only [q_ua, Nat.reduceEqDiff, false_and, and_false, true_and, and_true, ↓reduceIte, Nat.succ_ne_self, Nat.add_right_cancel_iff]
      rw [if_neg (by omega)]
      exact z.1 1 6 (n 1) (Nat.le_refl _)
  · intro k
    have q := h5 k
    simp only [q_ua, Nat.reduceEqDiff, false_and, and_false, true_and, and_true, ↓reduceIte, Nat.succ_ne_self, Nat.add_right_cancel_iff]
    by_cases e : k = n 1
    · simp only [if_pos e]
      exact ⟨trivial, trivial, trivial, fun _ => ⟨⟨by omega, by rw [n0]; omega⟩, hb, hd, by omega⟩⟩
    · simp only [if_neg e]
      by_cases eS2 : k = S
      · simp only [if_pos eS2]
        subst eS2
        exact ⟨q.1, trivial, q.2.2.1, fun _ => ⟨by rw [n0]; exact q5S.1, q5S.2.1, by omega, by omega⟩⟩
      · simp only [if_neg eS2]
        exact ⟨q.1, q.2.1, q.2.2.1, fun hk => by rw [n0]; exact q.2.2.2 (by rw [n1] at hk; omega)⟩
  · intro k hk
    rw [n1] at hk
    by_cases e : k = n 1
    · subst e
      have t3 := z.1 1 3 (n 1) (Nat.le_refl _)
      have t4 := z.1 1 4 (n 1) (Nat.le_refl _)
      have t5 := z.1 1 5 (n 1) (Nat.le_refl _)
      have qP := ((h4.2 j).2.2.2.2 hj).2.1
      have q06 : C 0 6 j = 0 := by
        have := (q6S.2.2.2.2.2.1 (by omega)).2
        unfold c_job at this
        rw [hSj, show ((j : Int) + 1 - 1).toNat = j by omega] at this
        exact this
      unfold c_job
      simp only [q_ua, Nat.reduceEqDiff, false_and, and_false, true_and, and_true, ↓reduceIte, Nat.succ_ne_self, Nat.add_right_cancel_iff, show ((j : Int) + 1 - 1).toNat = j by omega]
      rw [t3, t4, t5, q06]
      exact ⟨by omega, by simp, by omega, by omega, fun _ => rfl, fun _ => ⟨by omega, rfl⟩, fun q => by omega⟩
    · have q := h6 k (by omega)
      unfold c_job at q ⊢
      simp only [q_ua, Nat.reduceEqDiff, false_and, and_false, true_and, and_true, ↓reduceIte, Nat.succ_ne_self, Nat.add_right_cancel_iff, if_neg e]
      by_cases eS2 : k = S
      · subst eS2
        simp only [if_true]
        have q1 := q.2.2.2.2.2.1 (by omega)
        exact ⟨q.1, q.2.1, by omega, q.2.2.2.1, fun r => by omega, fun _ => ⟨by omega, q1.2⟩, fun r => by omega⟩
      · simp only [if_neg eS2]
        exact q
  · intro k
    have q := h42 k
    by_cases e : k < n 1
    · have e' : ¬ k = n 1 := by omega
      unfold c_job at q ⊢
      simp only [q_ua, Nat.reduceEqDiff, false_and, and_false, true_and, and_true, ↓reduceIte, Nat.succ_ne_self, Nat.add_right_cancel_iff, if_neg e']
      exact q
    · have t4 := z.1 1 4 k (by omega)
      have t5 := z.1 1 5 k (by omega)
      rw [t4, t5] at q
      simp only [q_ua, Nat.reduceEqDiff, false_and, and_false, true_and, and_true, ↓reduceIte, Nat.succ_ne_self, Nat.add_right_cancel_iff]
      rw [t4, t5]
      by_cases e' : k = n 1
      · rw [if_pos e']; omega
      · rw [if_neg e']; omega
  · intro k
    have q := h41 k
    simp only [q_ua, Nat.reduceEqDiff, false_and, and_false, true_and, and_true, ↓reduceIte, Nat.succ_ne_self, Nat.add_right_cancel_iff]
    refine ⟨fun e => ?_, fun e => ?_⟩
    · have : ¬ k = n 1 := fun r => by rw [r, z.1 1 3 (n 1) (Nat.le_refl _)] at e; omega
      rw [if_neg this]
      exact q.1 e
    · by_cases r : k = n 1
      · rw [if_pos r]
      · rw [if_neg r]; exact q.2 e
  · intro p hp
    simp only [q_ua, Nat.reduceEqDiff, false_and, and_false, true_and, and_true, ↓reduceIte, Nat.succ_ne_self, Nat.add_right_cancel_iff] at hp ⊢
    have q := h24 p hp
    have := z.2 p
    rw [if_neg (by omega)]
    exact q
theorem Rel.can {C D : q_S} {n : Nat → Nat} {c : Nat} (h : Rel C n c) (hD : Like D C) {j k : Nat} {d : Int} (hk : k < n 1) (hj : j < n 0) : m_spl D ((j : Int) + 1) d k ↔ C 1 0 k = (j : Int) + 1 ∧ c_can C k d := by
  obtain ⟨h1, ha, h2, h3, h3a, h4, h4a, h4c, h5, h6, h42, h41, h24, h25, h7, h7a, h8⟩ := id h
  unfold m_spl c_can
  rw [hD.1 38 k (by decide) (by decide), (h5 k).1, hD.1 40 k (by decide) (by decide), (h5 k).2.2.1, hD.1 44 k (by decide) (by decide), (h6 k hk).2.1, hD.1 39 k (by decide) (by decide), (h5 k).2.1]
  by_cases e : C 1 0 k = (j : Int) + 1
  · have ej : c_job C k = j := by unfold c_job; omega
    have q6 := (h6 k hk).2.2.2.1
    have qP := ((h4.2 j).2.2.2.2 hj).2.1
    rw [ej] at q6
    have hb : m_beg D k = C 1 4 k + (if 0 < C 1 5 k then 1 else 0) := by
      unfold m_beg
      rw [hD.1 42 k (by decide) (by decide), h42 k, ej, hD.1 38 k (by decide) (by decide), (h5 k).1, e, show ((j : Int) + 1).toNat = j + 1 by omega, hD.1 32 (j + 1) (by decide) (by decide), (h4.2 j).2.1, (divP qP.1 q6).1]
      by_cases q : 0 < C 1 5 k
      · rw [if_pos (by omega), if_pos q]
      · rw [if_neg (by omega), if_neg q]; omega
    rw [hb]
    unfold c_unt
    by_cases s : C 1 3 k = 0
    · rw [if_pos s]
      by_cases q : 0 < C 1 5 k
      · rw [if_pos q]; omega
      · rw [if_neg q]; omega
    · rw [if_neg s]; omega
  · exact ⟨fun q => absurd q.1 e, fun q => absurd q.1 e⟩
theorem Rel.spf {C D : q_S} {n : Nat → Nat} {c : Nat} (h : Rel C n c) (hD : Like D C) {j : Nat} {d : Int} (hj : j < n 0) : ∀ m, m ≤ n 1 → (c_sr C j d m = 0 ∧ m_spf D ((j : Int) + 1) d m = m) ∨ (m_spf D ((j : Int) + 1) d m < m ∧ c_sr C j d m = (m_spf D ((j : Int) + 1) d m : Int) + 1) := by
  intro m
  induction m with
  | zero => intro _; exact Or.inl ⟨rfl, rfl⟩
  | succ m ih =>
    intro hm
    have hc := h.can hD (k := m) (d := d) (by omega) hj
    rw [c_sr, m_spf]
    rcases ih (by omega) with ⟨q1, q2⟩ | ⟨q1, q2⟩
    · rw [q2, if_neg (Nat.lt_irrefl m), if_neg (fun r => r q1)]
      by_cases e : C 1 0 m = (j : Int) + 1 ∧ c_can C m d
      · rw [if_pos e, if_pos (hc.mpr e)]
        exact Or.inr ⟨by omega, rfl⟩
      · rw [if_neg e, if_neg (fun r => e (hc.mp r))]
        exact Or.inl ⟨rfl, rfl⟩
    · rw [if_pos q1, if_pos (by omega)]
      exact Or.inr ⟨by omega, q2⟩
theorem o_split {C : q_S} {n : Nat → Nat} {ad : Nat → Nat → Nat} {c : Nat} {a b d : Int} {r : Int32} {rb : Int32} {u u2 : q_U} (h : Rel C n c) (z : gz C n) (hda : R32 d) (hp : pL_split n ad C a b d r u) (hm : tX5_split u.1 u.2.1 u.2.2 a b d rb u2) : Res c r (fun z => R32 z ∧ rb = iI z) u u2 := by
  obtain ⟨h1, ha, h2, h3, h3a, h4, h4a, h4c, h5, h6, h42, h41, h24, h25, h7, h7a, h8⟩ := id h
  have e0 := h1.2.2.1.1
  have e2 := h1.1.1
  have e17 : (C 5 17 0).toNat = n 1 := by rw [h1.2.2.2.1.1]; omega
  have e18 := h1.2.2.2.1.1
  rcases hp with ⟨v, z0, hz0, hv, rfl, rfl⟩ | ⟨hx, rfl, rfl⟩
  · have ca : (1 ≤ a ∧ a ≤ (n 0 : Int)) ∧ (1 ≤ b ∧ b ≤ (n 2 : Int)) := by
      rcases hv with ⟨q1, q2, -⟩ | ⟨ad1, q1, q2, -⟩ | ⟨q1, q2, -⟩ <;> exact ⟨q1, q2⟩
    obtain ⟨j, rfl⟩ : ∃ j : Nat, a = (j : Int) + 1 := ⟨(a - 1).toNat, by omega⟩
    have hj : j < n 0 := by omega
    have ej : ((j : Int) + 1 - 1).toNat = j := by omega
    unfold tX4_split at hv
    rw [ej] at hv
    rcases hv with ⟨-, -, cd, cs, rfl, ce⟩ | ⟨ad1, -, -, cd, cs, -, rfl, ce⟩ | ⟨-, -, cd, rfl, ce⟩
    · have L0 := Like50 C z0
      have sp := h.spf L0 (d := d) hj (n 1) (Nat.le_refl _)
      have sp : m_spf (q_up C 50 0 0 z0) ((j : Int) + 1) d (n 1) = n 1 := by
        rcases sp with q | q
        · exact q.2
        · omega
      rcases hm with ⟨ma, mb, md, me, rfl, rfl⟩ | ⟨ma, mb, md, me, rfl, rfl⟩ | ⟨ma, mb, md, rfl, rfl⟩ | ⟨ma, mb, rfl, rfl⟩ | ⟨ma, rfl, rfl⟩
      · exact Res_r h ⟨hz0, ce.symm⟩
      · have me : ((m_spf (q_up C 50 0 0 z0) ((j : Int) + 1) d (C 5 17 0).toNat : Nat) : Int) < C 5 17 0 := me
        rw [e17, sp] at me
        omega
      · omega
      · exact absurd (show 1 ≤ b ∧ b ≤ C 5 1 0 by omega) mb
      · exact absurd (show 1 ≤ (j : Int) + 1 ∧ (j : Int) + 1 ≤ C 5 10 0 by omega) ma
    · obtain ⟨S, s1, s2, s3, s4⟩ := c_sr_y cs
      obtain ⟨L, l1, l2, l3, l4⟩ := c_la_sp (c_sr_la cs)
      have eS : (c_sr C j d (n 1) - 1).toNat = S := by omega
      have eL : (c_la C j (n 1) - 1).toNat = L := by omega
      rw [eS, eL] at hm ⊢
      have L0 : Like (q_up (q_up (q_up (q_up (q_up (q_up C 1 2 S (C 1 2 S - d)) 1 0 (n 1) ((j : Nat) + 1)) 1 1 (n 1) (C 2 0 (b - 1).toNat)) 1 2 (n 1) d) 1 6 L ((n 1 : Nat) + 1)) 50 0 0 z0) C := ⟨fun kd s q1 q2 => by rw [q_ua, if_neg (by omega), q_ua, if_neg (by omega), q_ua, if_neg (by omega), q_ua, if_neg (by omega), q_ua, if_neg (by omega), q_ua, if_neg (by omega)], fun s _ => rfl⟩
      have sp := h.spf L0 (d := d) hj (n 1) (Nat.le_refl _)
      have sp : m_spf (q_up (q_up (q_up (q_up (q_up (q_up C 1 2 S (C 1 2 S - d)) 1 0 (n 1) ((j : Nat) + 1)) 1 1 (n 1) (C 2 0 (b - 1).toNat)) 1 2 (n 1) d) 1 6 L ((n 1 : Nat) + 1)) 50 0 0 z0) ((j : Int) + 1) d (n 1) = S := by
        rcases sp with q | q
        · exact absurd q.1 cs
        · omega
      have eb : C 2 0 (b - 1).toNat = b := by have := (h2.2 (b - 1).toNat).2.2.2.2.2 (by omega); omega
      rcases hm with ⟨ma, mb, md, me, rfl, rfl⟩ | ⟨ma, mb, md, me, rfl, rfl⟩ | ⟨ma, mb, md, rfl, rfl⟩ | ⟨ma, mb, rfl, rfl⟩ | ⟨ma, rfl, rfl⟩
      · have me : m_spf (q_up (q_up (q_up (q_up (q_up (q_up C 1 2 S (C 1 2 S - d)) 1 0 (n 1) ((j : Nat) + 1)) 1 1 (n 1) (C 2 0 (b - 1).toNat)) 1 2 (n 1) d) 1 6 L ((n 1 : Nat) + 1)) 50 0 0 z0) ((j : Int) + 1) d (C 5 17 0).toNat = (C 5 17 0).toNat := me
        rw [e17, sp] at me
        omega
      · refine ⟨0, by omega, rfl, rfl, fun _ => ⟨z0, ⟨hz0, ce.symm⟩, rfl⟩, rfl, rfl, ?_⟩
        refine R_split h z hj (by have := h1.1.2.2; omega) cd s2 s3 s4 l2 (show (C 5 17 0).toNat = n 1 from e17) ?_ eb rfl ?_ (show C 5 17 0 + 1 = (n 1 : Int) + 1 by omega)
        · exact ((congrArg (m_spf _ _ _) e17).trans sp).symm
        · exact (congrArg (fun s => C 39 s 0 - d) ((congrArg (m_spf _ _ _) e17).trans sp)).trans (by rw [(h5 S).2.1])
      · omega
      · exact absurd (show 1 ≤ b ∧ b ≤ C 5 1 0 by omega) mb
      · exact absurd (show 1 ≤ (j : Int) + 1 ∧ (j : Int) + 1 ≤ C 5 10 0 by omega) ma
    · rcases hm with ⟨ma, mb, md, me, rfl, rfl⟩ | ⟨ma, mb, md, me, rfl, rfl⟩ | ⟨ma, mb, md, rfl, rfl⟩ | ⟨ma, mb, rfl, rfl⟩ | ⟨ma, rfl, rfl⟩
      · omega
      · omega
      · exact Res_r h ⟨hz0, ce.symm⟩
      · exact absurd (show 1 ≤ b ∧ b ≤ C 5 1 0 by omega) mb
      · exact absurd (show 1 ≤ (j : Int) + 1 ∧ (j : Int) + 1 ≤ C 5 10 0 by omega) ma
  · have cx : ¬ ((1 ≤ a ∧ a ≤ C 5 10 0) ∧ (1 ≤ b ∧ b ≤ C 5 1 0)) := by
      rcases hx with ⟨-, q⟩ | ⟨⟨-, q⟩, -⟩ <;> omega
    rcases hm with ⟨ma, mb, -⟩ | ⟨ma, mb, -⟩ | ⟨ma, mb, -⟩ | ⟨ma, mb, rfl, rfl⟩ | ⟨ma, rfl, rfl⟩
    · exact absurd ⟨ma, mb⟩ cx
    · exact absurd ⟨ma, mb⟩ cx
    · exact absurd ⟨ma, mb⟩ cx
    · exact Res_x h (by decide)
    · exact Res_x h (by decide)
