theorem busy_up {C D : q_S} {p : Nat} (he : ∀ q, ¬ q = p → D 2 4 q = C 2 4 q) : ∀ m, busy D m = if p < m then busy C m - (if C 2 4 p = 0 then 0 else 1) + (if D 2 4 p = 0 then 0 else 1) else busy C m := by
  intro m
  induction m with
  | zero => rfl
  | succ m ih =>
    rw [busy, busy, ih]
    by_cases e : m = p
    · subst e
      rw [if_neg (Nat.lt_irrefl m), if_pos (show m < m + 1 by omega)]
      generalize (if C 2 4 m = 0 then (0 : Int) else 1) = A
      generalize (if D 2 4 m = 0 then (0 : Int) else 1) = B
      omega
    · rw [he m e]
      generalize (if C 2 4 m = 0 then (0 : Int) else 1) = A
      by_cases q : p < m
      · rw [if_pos q, if_pos (show p < m + 1 by omega)]
        generalize (if C 2 4 p = 0 then (0 : Int) else 1) = A
        generalize (if D 2 4 p = 0 then (0 : Int) else 1) = B
        omega
      · rw [if_neg q, if_neg (show ¬ p < m + 1 by omega)]
/-- the part at a printer -/
theorem Rel.at {C : q_S} {n : Nat → Nat} {c : Nat} (h : Rel C n c) (z : gz C n) {p : Nat} (hp : ¬ C 2 4 p = 0) : ∃ k j : Nat, k < n 1 ∧ j < n 0 ∧ C 2 4 p = (k : Int) + 1 ∧ C 1 3 k = 1 ∧ C 41 k 0 = (p : Int) + 1 ∧ C 43 k 0 = C 2 5 p ∧ C 1 0 k = (j : Int) + 1 ∧ C 38 k 0 = (j : Int) + 1 ∧ c_job C k = j := by
  obtain ⟨h1, ha, h2, h3, h3a, h4, h4a, h4c, h5, h6, h42, h41, h24, h25, h7, h7a, h8⟩ := id h
  have q := h24 p hp
  have r := z.2 p
  have hk : (C 2 4 p - 1).toNat < n 1 := by omega
  obtain ⟨j, j1, j2, j3, j4⟩ := h.pj hk
  exact ⟨(C 2 4 p - 1).toNat, j, hk, j1, by omega, q.1, q.2.1, q.2.2, j2, j3, j4⟩
theorem R_fault0 {C : q_S} {n : Nat → Nat} {c : Nat} (h : Rel C n c) (z : gz C n) {p k mk ma mk2 : Nat} {z0 : Int} (hp8 : p < 8) (hkn : k < n 1) (hk : C 2 4 p = (k : Int) + 1) (h13 : C 1 3 k = 1) (hk41 : C 41 k 0 = (p : Int) + 1) (e1 : k = mk) (e2 : ma = p + 1) (e3 : k = mk2) :
    Rel (q_up (q_up (q_up (q_up (q_up (q_up (q_up C 2 4 p 0) 1 3 k 0) 50 0 0 z0) 5 0 0 0) 41 mk 0 0) 25 ma 0 (-1)) 44 mk2 0 1) n (c + 1) := by
  subst e1 e2 e3
  obtain ⟨h1, ha, h2, h3, h3a, h4, h4a, h4c, h5, h6, h42, h41, h24, h25, h7, h7a, h8⟩ := id h
  refine ⟨g1_cg (n := n) (by repeat (first | exact (fun _ _ _ _ => rfl) | refine q_upr rfl ?_)) rfl rfl rfl rfl (Nat.le_succ c) h1, ga_cg (n := n) (by repeat (first | exact (fun _ _ _ _ => rfl) | refine q_upr rfl ?_)) rfl rfl rfl ha, g2_cg (n := n) (by repeat (first | exact (fun _ _ _ _ => rfl) | refine q_upr rfl ?_)) rfl (Nat.le_succ c) h2, g3_cg (n := n) (by repeat (first | exact (fun _ _ _ _ => rfl) | refine q_upr rfl ?_)) rfl h3, g3a_cg (by repeat (first | exact (fun _ _ _ _ => rfl) | refine q_upr rfl ?_)) (Nat.le_succ c) h3a, g4_cg (n := n) (by repeat (first | exact (fun _ _ _ _ => rfl) | refine q_upr rfl ?_)) rfl (Nat.le_refl _) h4, g4a_cg (by repeat (first | exact (fun _ _ _ _ => rfl) | refine q_upr rfl ?_))  h4a, g4c_cg (n := n) (by repeat (first | exact (fun _ _ _ _ => rfl) | refine q_upr rfl ?_)) rfl rfl h4c, g5_cg (n := n) (by repeat (first | exact (fun _ _ _ _ => rfl) | refine q_upr rfl ?_)) (Nat.le_refl _) rfl h5, ?_, g42_cg (by repeat (first | exact (fun _ _ _ _ => rfl) | refine q_upr rfl ?_))  h42, ?_, ?_, ?_, ?_, g7a_cg (by repeat (first | exact (fun _ _ _ _ => rfl) | refine q_upr rfl ?_))  h7a, g8_cg (n := n) (by repeat (first | exact (fun _ _ _ _ => rfl) | refine q_upr rfl ?_)) (fun _ _ => rfl) h8⟩
  · intro q hq
    have r := h6 q hq
    unfold c_job at r ⊢
    simp only [q_ua, Nat.reduceEqDiff, false_and, and_false, true_and, and_true, ↓reduceIte, Nat.succ_ne_self, Nat.add_right_cancel_iff]
    by_cases e : q = k
    · subst e
      simp only [if_true]
      have r1 := r.2.2.2.2.2.1 (by omega)
      exact ⟨Or.inl trivial, trivial, r.2.2.1, r.2.2.2.1, r.2.2.2.2.1, fun _ => r1, fun s => by omega⟩
    · simp only [if_neg e]
      exact r
  · intro q
    have r := h41 q
    simp only [q_ua, Nat.reduceEqDiff, false_and, and_false, true_and, and_true, ↓reduceIte, Nat.succ_ne_self, Nat.add_right_cancel_iff]
    by_cases e : q = k
    · simp only [if_pos e]
      exact ⟨fun s => by omega, fun _ => trivial⟩
    · simp only [if_neg e]
      refine ⟨fun s => ?_, r.2⟩
      have r1 := r.1 s
      rw [if_neg]
      · exact r1
      · intro s2
        rw [s2, hk] at r1
        omega
  · intro q hq
    simp only [q_ua, Nat.reduceEqDiff, false_and, and_false, true_and, and_true, ↓reduceIte, Nat.succ_ne_self, Nat.add_right_cancel_iff] at hq ⊢
    by_cases e : q = p
    · rw [if_pos e] at hq; exact absurd rfl hq
    · simp only [if_neg e] at hq ⊢
      have r := h24 q hq
      have ek : ¬ (C 2 4 q - 1).toNat = k := fun s => by rw [s] at r; omega
      simp only [if_neg ek]
      exact r
  · refine ⟨h25.1, fun q => ?_⟩
    have r := h25.2 q
    simp only [q_ua, Nat.reduceEqDiff, false_and, and_false, true_and, and_true, ↓reduceIte, Nat.succ_ne_self, Nat.add_right_cancel_iff]
    by_cases e : q = p
    · simp only [if_pos e]
      exact ⟨fun _ => by omega, fun s => by omega⟩
    · simp only [if_neg e]
      exact r
  · refine ⟨h7.1, h7.2.1, ?_⟩
    have b := busy_up (C := C) (D := (q_up (q_up (q_up (q_up (q_up (q_up (q_up C 2 4 p 0) 1 3 k 0) 50 0 0 z0) 5 0 0 0) 41 k 0 0) 25 (p + 1) 0 (-1)) 44 k 0 1)) (p := p) (fun q hq => by simp only [q_ua, Nat.reduceEqDiff, false_and, and_false, true_and, and_true, ↓reduceIte, Nat.succ_ne_self, Nat.add_right_cancel_iff]; rw [if_neg hq]) 8
    simp only [q_ua, Nat.reduceEqDiff, false_and, and_false, true_and, and_true, ↓reduceIte, Nat.succ_ne_self, Nat.add_right_cancel_iff] at b ⊢
    rw [b, if_pos hp8, if_neg (by omega)]
    have := h7.2.2
    omega
theorem R_fault1 {C : q_S} {n : Nat → Nat} {c : Nat} (h : Rel C n c) (z : gz C n) {p k T j mk ma mk2 mk3 mc mt mi : Nat} {z0 xj xv xc xx xt yj yv yc yy yt : Int} (hp8 : p < 8) (hkn : k < n 1) (hk : C 2 4 p = (k : Int) + 1) (h13 : C 1 3 k = 1) (hk41 : C 41 k 0 = (p : Int) + 1) (hx : 0 < C 1 5 k) (e1 : k = mk) (e2 : ma = p + 1) (e3 : k = mk2) (e4 : k = mk3)
    (f1 : mt = mc) (f2 : yj = xj) (f3 : yv = xv) (f4 : 0 ≤ yv) (f5 : xc = C 4 8 0 + 1) (f6 : yc = C 4 8 0 + 1) (f7 : xx = C 1 5 k - 1) (f8 : yy = C 42 k 0 - 1) (f9 : mi = 4 * T + 3) (f10 : xt = C 3 5 T + 1) (f11 : yt = C 3 5 T + 1) :
    Rel (q_up (q_up (q_up (q_up (q_up (q_up (q_up (q_up (q_up (q_up (q_up (q_up (q_up (q_up (q_up (q_up (q_up C 2 4 p 0) 1 3 k 0) 9 mc 0 xj) 10 mc 0 xv) 4 8 0 xc) 1 5 k xx) 3 5 T xt) 50 0 0 z0) 5 0 0 0) 46 mt 0 yj) 47 mt 0 yv) 5 25 0 yc) 42 mk3 0 yy) 29 mi 0 yt) 41 mk 0 0) 25 ma 0 (-1)) 44 mk2 0 1) n (c + 1) := by
  subst e1 e2 e3 e4 f1 f2 f3 f5 f6 f7 f8 f9 f10 f11
  obtain ⟨h1, ha, h2, h3, h3a, h4, h4a, h4c, h5, h6, h42, h41, h24, h25, h7, h7a, h8⟩ := id h
  refine ⟨g1_cg (n := n) (by repeat (first | exact (fun _ _ _ _ => rfl) | refine q_upr rfl ?_)) rfl rfl rfl rfl (Nat.le_succ c) h1, ga_cg (n := n) (by repeat (first | exact (fun _ _ _ _ => rfl) | refine q_upr rfl ?_)) rfl rfl rfl ha, g2_cg (n := n) (by repeat (first | exact (fun _ _ _ _ => rfl) | refine q_upr rfl ?_)) rfl (Nat.le_succ c) h2, g3_cg (n := n) (by repeat (first | exact (fun _ _ _ _ => rfl) | refine q_upr rfl ?_)) rfl h3, ?_, g4_cg (n := n) (by repeat (first | exact (fun _ _ _ _ => rfl) | refine q_upr rfl ?_)) rfl (Nat.le_refl _) h4, g4a_cg (by repeat (first | exact (fun _ _ _ _ => rfl) | refine q_upr rfl ?_))  h4a, g4c_cg (n := n) (by repeat (first | exact (fun _ _ _ _ => rfl) | refine q_upr rfl ?_)) rfl rfl h4c, g5_cg (n := n) (by repeat (first | exact (fun _ _ _ _ => rfl) | refine q_upr rfl ?_)) (Nat.le_refl _) rfl h5, ?_, ?_, ?_, ?_, ?_, ?_, ?_, g8_cg (n := n) (by repeat (first | exact (fun _ _ _ _ => rfl) | refine q_upr rfl ?_)) (fun _ _ => rfl) h8⟩
  · intro t w hw
    have r := h3a t w hw
    simp only [q_ua, Nat.reduceEqDiff, false_and, and_false, true_and, and_true, ↓reduceIte, Nat.succ_ne_self, Nat.add_right_cancel_iff]
    by_cases e : t = T ∧ w = 3
    · obtain ⟨rfl, rfl⟩ := e
      have r : _ ∧ 0 ≤ C 3 5 t ∧ C 3 5 t ≤ 60000 * (c : Int) := r
      simp only [if_true, and_self]
      refine ⟨trivial, by omega, by omega⟩
    · rw [if_neg (by omega), if_neg (by omega)]
      exact ⟨r.1, r.2.1, by omega⟩
  · intro q hq
    have r := h6 q hq
    unfold c_job at r ⊢
    simp only [q_ua, Nat.reduceEqDiff, false_and, and_false, true_and, and_true, ↓reduceIte, Nat.succ_ne_self, Nat.add_right_cancel_iff]
    by_cases e : q = k
    · subst e
      simp only [if_true]
      have r1 := r.2.2.2.2.2.1 (by omega)
      exact ⟨Or.inl trivial, trivial, r.2.2.1, by have := r.2.2.2.1; omega, r.2.2.2.2.1 |> fun f s => by have := f s; omega, fun _ => r1, fun s => by omega⟩
    · simp only [if_neg e]
      exact r
  · intro q
    have r := h42 q
    unfold c_job at r ⊢
    simp only [q_ua, Nat.reduceEqDiff, false_and, and_false, true_and, and_true, ↓reduceIte, Nat.succ_ne_self, Nat.add_right_cancel_iff]
    by_cases e : q = k
    · simp only [if_pos e]
      subst e
      omega
    · simp only [if_neg e]
      exact r
  · intro q
    have r := h41 q
    simp only [q_ua, Nat.reduceEqDiff, false_and, and_false, true_and, and_true, ↓reduceIte, Nat.succ_ne_self, Nat.add_right_cancel_iff]
    by_cases e : q = k
    · simp only [if_pos e]
      exact ⟨fun s => by omega, fun _ => trivial⟩
    · simp only [if_neg e]
      refine ⟨fun s => ?_, r.2⟩
      have r1 := r.1 s
      rw [if_neg]
      · exact r1
      · intro s2
        rw [s2, hk] at r1
        omega
  · intro q hq
    simp only [q_ua, Nat.reduceEqDiff, false_and, and_false, true_and, and_true, ↓reduceIte, Nat.succ_ne_self, Nat.add_right_cancel_iff] at hq ⊢
    by_cases e : q = p
    · rw [if_pos e] at hq; exact absurd rfl hq
    · simp only [if_neg e] at hq ⊢
      have r := h24 q hq
      have ek : ¬ (C 2 4 q - 1).toNat = k := fun s => by rw [s] at r; omega
      simp only [if_neg ek]
      exact r
  · refine ⟨h25.1, fun q => ?_⟩
    have r := h25.2 q
    simp only [q_ua, Nat.reduceEqDiff, false_and, and_false, true_and, and_true, ↓reduceIte, Nat.succ_ne_self, Nat.add_right_cancel_iff]
    by_cases e : q = p
    · simp only [if_pos e]
      exact ⟨fun _ => by omega, fun s => by omega⟩
    · simp only [if_neg e]
      exact r
  · refine ⟨rfl, ?_, ?_⟩
    · have := h7.2.1; simp only [q_ua, Nat.reduceEqDiff, false_and, and_false, true_and, and_true, ↓reduceIte, Nat.succ_ne_self, Nat.add_right_cancel_iff]; omega
    · have b := busy_up (C := C) (D := (q_up (q_up (q_up (q_up (q_up (q_up (q_up (q_up (q_up (q_up (q_up (q_up (q_up (q_up (q_up (q_up (q_up C 2 4 p 0) 1 3 k 0) 9 mt 0 yj) 10 mt 0 yv) 4 8 0 (C 4 8 0 + 1)) 1 5 k (C 1 5 k - 1)) 3 5 T (C 3 5 T + 1)) 50 0 0 z0) 5 0 0 0) 46 mt 0 yj) 47 mt 0 yv) 5 25 0 (C 4 8 0 + 1)) 42 k 0 (C 42 k 0 - 1)) 29 (4 * T + 3) 0 (C 3 5 T + 1)) 41 k 0 0) 25 (p + 1) 0 (-1)) 44 k 0 1)) (p := p) (fun q hq => by simp only [q_ua, Nat.reduceEqDiff, false_and, and_false, true_and, and_true, ↓reduceIte, Nat.succ_ne_self, Nat.add_right_cancel_iff]; rw [if_neg hq]) 8
      simp only [q_ua, Nat.reduceEqDiff, false_and, and_false, true_and, and_true, ↓reduceIte, Nat.succ_ne_self, Nat.add_right_cancel_iff] at b ⊢
      rw [b, if_pos hp8, if_neg (by omega)]
      have := h7.2.2
      omega
  · intro q
    have r := h7a q
    simp only [q_ua, Nat.reduceEqDiff, false_and, and_false, true_and, and_true, ↓reduceIte, Nat.succ_ne_self, Nat.add_right_cancel_iff]
    by_cases e : q = mt
    · simp only [if_pos e]
      exact ⟨trivial, trivial, f4⟩
    · simp only [if_neg e]
      exact r
theorem o_fault {C : q_S} {n : Nat → Nat} {ad : Nat → Nat → Nat} {c : Nat} {a : Int} {r : Int32} {rb : Int32} {u u2 : q_U} (h : Rel C n c) (z : gz C n) (hc : c ≤ 511) (hp : pL_fault n ad C a r u) (hm : tX5_fault u.1 u.2.1 u.2.2 a rb u2) : Res c r (fun z => R32 z ∧ rb = iI z) u u2 := by
  obtain ⟨h1, ha, h2, h3, h3a, h4, h4a, h4c, h5, h6, h42, h41, h24, h25, h7, h7a, h8⟩ := id h
  have e2 := h1.1.1
  have e8 := h1.1.2.2
  rcases hp with ⟨v, z0, hz0, hv, rfl, rfl⟩ | ⟨⟨-, cx⟩, rfl, rfl⟩
  · have ca : 1 ≤ a ∧ a ≤ (n 2 : Int) := by
      rcases hv with ⟨q1, -⟩ | ⟨q1, -⟩ | ⟨q1, -⟩ | ⟨q1, -⟩ <;> exact q1
    obtain ⟨p, rfl⟩ : ∃ p : Nat, a = (p : Int) + 1 := ⟨(a - 1).toNat, by omega⟩
    have ep : ((p : Int) + 1 - 1).toNat = p := by omega
    have ep1 : ((p : Int) + 1).toNat = p + 1 := by omega
    have q25 := (h25.2 p).1 (by omega)
    unfold tX4_fault at hv
    rw [ep] at hv
    by_cases h0 : C 2 4 p = 0
    · obtain ⟨rfl, ce⟩ : v = (n, ad, C) ∧ iI z0 = iI 0 := by
        rcases hv with ⟨-, -, q1, q2⟩ | ⟨-, q, -⟩ | ⟨-, q, -⟩ | ⟨-, q, -⟩
        · exact ⟨q1, q2⟩
        · exact absurd h0 q
        · exact absurd h0 q
        · exact absurd h0 q
      have m25 : C 25 ((p : Int) + 1).toNat 0 = -1 := by rw [ep1, q25, h0]; rfl
      rcases hm with ⟨ma, mb, -⟩ | ⟨ma, mb, -⟩ | ⟨ma, mb, rfl, rfl⟩ | ⟨ma, rfl, rfl⟩
      · exact absurd m25 mb
      · exact absurd m25 mb
      · exact Res_r h ⟨hz0, ce.symm⟩
      · exact absurd (show 1 ≤ (p : Int) + 1 ∧ (p : Int) + 1 ≤ C 5 1 0 by omega) ma
    · obtain ⟨k, j, k1, k2, k3, k4, k5, k6, k7, k8, k9⟩ := h.at z h0
      obtain ⟨t, t1, t2, t3, t4⟩ := h.jt k2
      have qP := ((h4.2 j).2.2.2.2 k2)
      have q6 := (h6 k k1).2.2.2.1
      rw [k9] at q6
      have m25 : C 25 ((p : Int) + 1).toNat 0 = (k : Int) := by rw [ep1, q25, k3]; omega
      have mhk : m_hk C ((p : Int) + 1) = k := by unfold m_hk; rw [m25]; omega
      have d42 : C 42 k 0 / C 0 2 j = C 1 4 k ∧ C 42 k 0 % C 0 2 j = C 1 5 k := by rw [h42 k, k9]; exact divP qP.2.1.1 q6
      have p32 : C 32 (C 38 k 0).toNat 0 = C 0 2 j := by rw [k8, show ((j : Int) + 1).toNat = j + 1 by omega, (h4.2 j).2.1]
      have p31 : C 31 (C 38 k 0).toNat 0 = (t : Int) + 1 := by rw [k8, show ((j : Int) + 1).toNat = j + 1 by omega, t3]
      have ek : (C 2 4 p - 1).toNat = k := by omega
      have ej : (C 1 0 k - 1).toNat = j := by omega
      have et : (C 0 1 j - 1).toNat = t := by omega
      have c48 := h7.2
      have bz := busy_nn C 8
      rw [ek, ej, et] at hv
      unfold tX5_fault at hm
      by_cases hx : 0 < C 1 5 k
      · obtain ⟨rfl, ce⟩ : v = (n, ad, q_up (q_up (q_up (q_up (q_up (q_up (q_up C 2 4 p 0) 1 3 k 0) 9 (C 4 8 0).toNat 0 (C 0 0 j)) 10 (C 4 8 0).toNat 0 (1000 * (C 1 4 k + 1) + C 1 5 k)) 4 8 0 (C 4 8 0 + 1)) 1 5 k (C 1 5 k - 1)) 3 5 t (C 3 5 t + 1)) ∧ iI z0 = iI (C 1 5 k) := by
          rcases hv with ⟨-, q, -⟩ | ⟨-, -, q, -⟩ | ⟨-, -, -, q, -⟩ | ⟨-, -, -, -, q1, q2⟩
          · exact absurd q h0
          · omega
          · omega
          · refine ⟨q1, q2.trans (congrArg iI ?_)⟩
            simp only [q_ua, Nat.reduceEqDiff, false_and, and_false, true_and, and_true, ↓reduceIte, Nat.succ_ne_self, Nat.add_right_cancel_iff]
            omega
        generalize hV : q_up (q_up (q_up (q_up (q_up (q_up (q_up C 2 4 p 0) 1 3 k 0) 9 (C 4 8 0).toNat 0 (C 0 0 j)) 10 (C 4 8 0).toNat 0 (1000 * (C 1 4 k + 1) + C 1 5 k)) 4 8 0 (C 4 8 0 + 1)) 1 5 k (C 1 5 k - 1)) 3 5 t (C 3 5 t + 1) = V at hm ⊢
        have LV : ∀ kd s, (kd = 5 ∨ 20 ≤ kd) → V kd s 0 = C kd s 0 := by
          intro kd s q
          rw [← hV]
          rw [q_ua, if_neg (by omega), q_ua, if_neg (by omega), q_ua, if_neg (by omega), q_ua, if_neg (by omega), q_ua, if_neg (by omega), q_ua, if_neg (by omega), q_ua, if_neg (by omega)]
        have LU : ∀ kd s, (kd = 5 ∨ (20 ≤ kd ∧ kd < 50)) → q_up V 50 0 0 z0 kd s 0 = C kd s 0 := by
          intro kd s q
          rw [q_ua, if_neg (by omega), LV kd s (by omega)]
        have mh2 : m_hk (q_up V 50 0 0 z0) ((p : Int) + 1) = k := by unfold m_hk; rw [LU 25 _ (by omega), m25]; omega
        dsimp only at hm
        rw [mh2] at hm
        simp only [LU 5 _ (Or.inl rfl), LU 25 _ (Or.inr (by decide)), LU 38 _ (Or.inr (by decide)), LU 42 _ (Or.inr (by decide)), LU 32 _ (Or.inr (by decide)), LU 31 _ (Or.inr (by decide)), LU 29 _ (Or.inr (by decide)), p32, p31, d42.1, d42.2] at hm
        rcases hm with ⟨ma, mb, mc, -⟩ | ⟨ma, mb, mc, rfl, rfl⟩ | ⟨ma, mb, -⟩ | ⟨ma, -⟩
        · omega
        · refine ⟨0, by omega, rfl, ?_, fun _ => ⟨z0, ⟨hz0, ?_⟩, ?_⟩, rfl, rfl, ?_⟩
          · rfl
          · rw [ce]
            have : (C 42 k 0 - 1) % C 0 2 j = C 1 5 k - 1 := by
              rw [h42 k, k9, show C 1 4 k * C 0 2 j + C 1 5 k - 1 = C 1 4 k * C 0 2 j + (C 1 5 k - 1) by omega]
              exact (divP qP.2.1.1 (by omega)).2
            rw [this]
            exact congrArg iI (by omega)
          · rfl
          · subst hV
            have r29 := (h3a t 3 (by decide)).1
            refine R_fault1 (j := j) h z (by omega) k1 k3 k4 k5 hx ?_ ep1 rfl rfl ?_ ?_ rfl ?_ rfl ?_ rfl rfl ?_ rfl ?_
            · show k = (C 25 ((p : Int) + 1).toNat 0).toNat
              rw [m25]; omega
            · show (C 5 25 0).toNat = (C 4 8 0).toNat
              rw [h7.1]
            · rw [k8, qP.2.2.2.2]
            · have := (h6 k k1).2.2.1
              omega
            · show C 5 25 0 + 1 = C 4 8 0 + 1
              rw [h7.1]
            · omega
            · rw [show (4 * ((t : Int) + 1) - 1).toNat = 4 * t + 3 by omega, r29]
        · exact absurd (show C 25 ((p : Int) + 1).toNat 0 = -1 from mb) (by rw [m25]; omega)
        · exact absurd (show 1 ≤ (p : Int) + 1 ∧ (p : Int) + 1 ≤ C 5 1 0 by omega) ma
      · obtain ⟨rfl, ce⟩ : v = (n, ad, q_up (q_up C 2 4 p 0) 1 3 k 0) ∧ iI z0 = iI (C 1 5 k + 1) := by
          rcases hv with ⟨-, q, -⟩ | ⟨-, -, q, q1, q2⟩ | ⟨-, -, q, -⟩ | ⟨-, -, q, -⟩
          · exact absurd q h0
          · exact ⟨q1, q2⟩
          · omega
          · omega
        have LU : ∀ kd s, (kd = 5 ∨ (20 ≤ kd ∧ kd < 50)) → q_up (q_up (q_up C 2 4 p 0) 1 3 k 0) 50 0 0 z0 kd s 0 = C kd s 0 := by
          intro kd s q
          rw [q_ua, if_neg (by omega), q_ua, if_neg (by omega), q_ua, if_neg (by omega)]
        have mh2 : m_hk (q_up (q_up (q_up C 2 4 p 0) 1 3 k 0) 50 0 0 z0) ((p : Int) + 1) = k := by unfold m_hk; rw [LU 25 _ (by omega), m25]; omega
        dsimp only at hm
        rw [mh2] at hm
        simp only [LU 5 _ (Or.inl rfl), LU 25 _ (Or.inr (by decide)), LU 38 _ (Or.inr (by decide)), LU 42 _ (Or.inr (by decide)), LU 32 _ (Or.inr (by decide)), LU 31 _ (Or.inr (by decide)), LU 29 _ (Or.inr (by decide)), p32, p31, d42.1, d42.2] at hm
        rcases hm with ⟨ma, mb, mc, rfl, rfl⟩ | ⟨ma, mb, mc, -⟩ | ⟨ma, mb, -⟩ | ⟨ma, -⟩
        · refine ⟨0, by omega, rfl, rfl, fun _ => ⟨z0, ⟨hz0, ce.symm⟩, rfl⟩, rfl, rfl, ?_⟩
          refine R_fault0 h z (by omega) k1 k3 k4 k5 ?_ ep1 rfl
          show k = (C 25 ((p : Int) + 1).toNat 0).toNat
          rw [m25]; omega
        · omega
        · exact absurd (show C 25 ((p : Int) + 1).toNat 0 = -1 from mb) (by rw [m25]; omega)
        · exact absurd (show 1 ≤ (p : Int) + 1 ∧ (p : Int) + 1 ≤ C 5 1 0 by omega) ma
  · have cx2 : ¬ (1 ≤ a ∧ a ≤ C 5 1 0) := by omega
    rcases hm with ⟨ma, -⟩ | ⟨ma, -⟩ | ⟨ma, -⟩ | ⟨ma, rfl, rfl⟩
    · exact absurd ma cx2
    · exact absurd ma cx2
    · exact absurd ma cx2
    · exact Res_x h (by decide)
