theorem R_take0 {C : q_S} {n : Nat → Nat} {c : Nat} (h : Rel C n c) {y z0 : Int} (hy : C 4 10 0 ≤ y) : Rel (q_up (q_up (q_up (q_up C 4 10 0 y) 50 0 0 z0) 5 0 0 0) 5 28 0 y) n (c + 1) := by
  obtain ⟨h1, ha, h2, h3, h3a, h4, h4a, h4c, h5, h6, h42, h41, h24, h25, h7, h7a, h8⟩ := id h
  refine ⟨?_, ga_cg (n := n) (by repeat (first | exact (fun _ _ _ _ => rfl) | refine q_upr rfl ?_)) rfl rfl rfl ha, g2_cg (n := n) (by repeat (first | exact (fun _ _ _ _ => rfl) | refine q_upr rfl ?_)) rfl (Nat.le_succ c) h2, g3_cg (n := n) (by repeat (first | exact (fun _ _ _ _ => rfl) | refine q_upr rfl ?_)) rfl h3, g3a_cg (by repeat (first | exact (fun _ _ _ _ => rfl) | refine q_upr rfl ?_)) (Nat.le_succ c) h3a, g4_cg (n := n) (by repeat (first | exact (fun _ _ _ _ => rfl) | refine q_upr rfl ?_)) rfl (Nat.le_refl _) h4, g4a_cg (by repeat (first | exact (fun _ _ _ _ => rfl) | refine q_upr rfl ?_))  h4a, g4c_cg (n := n) (by repeat (first | exact (fun _ _ _ _ => rfl) | refine q_upr rfl ?_)) rfl rfl h4c, g5_cg (n := n) (by repeat (first | exact (fun _ _ _ _ => rfl) | refine q_upr rfl ?_)) (Nat.le_refl _) rfl h5, g6_cg (n := n) (by repeat (first | exact (fun _ _ _ _ => rfl) | refine q_upr rfl ?_)) rfl h6, g42_cg (by repeat (first | exact (fun _ _ _ _ => rfl) | refine q_upr rfl ?_))  h42, g41_cg (n := n) (by repeat (first | exact (fun _ _ _ _ => rfl) | refine q_upr rfl ?_)) (Nat.le_refl _) h41, g24_cg (by repeat (first | exact (fun _ _ _ _ => rfl) | refine q_upr rfl ?_))  h24, g25_cg (by repeat (first | exact (fun _ _ _ _ => rfl) | refine q_upr rfl ?_))  h25, g7_cg (by repeat (first | exact (fun _ _ _ _ => rfl) | refine q_upr rfl ?_)) (Nat.le_succ c) h7, g7a_cg (by repeat (first | exact (fun _ _ _ _ => rfl) | refine q_upr rfl ?_))  h7a, g8_cg (n := n) (by repeat (first | exact (fun _ _ _ _ => rfl) | refine q_upr rfl ?_)) (fun _ _ => rfl) h8⟩
  exact ⟨h1.1, h1.2.1, h1.2.2.1, ⟨h1.2.2.2.1.1, Nat.le_succ_of_le h1.2.2.2.1.2⟩, ⟨rfl, Int.le_trans h1.2.2.2.2.1.2 hy⟩, h1.2.2.2.2.2⟩
theorem R_takeS {C : q_S} {n : Nat → Nat} {c : Nat} (h : Rel C n c) (z : gz C n) {p k mk ma : Nat} {y z0 xl xk xa yk yl : Int} (hy : C 4 10 0 ≤ y) (hp : p < n 2) (hkn : k < n 1) (h0 : C 2 4 p = 0) (h13 : C 1 3 k = 0) (e1 : k = mk) (e2 : ma = p + 1) (e3 : xk = (k : Int) + 1) (e4 : yk = (k : Int)) (e5 : xa = (p : Int) + 1) (f1 : xl = C 2 3 p + 1) (f2 : yl = C 2 3 p + 1) : Rel (q_up (q_up (q_up (q_up (q_up (q_up (q_up (q_up (q_up (q_up (q_up (q_up (q_up C 4 10 0 y) 2 3 p xl) 1 3 k 1) 2 4 p xk) 2 5 p 1) 50 0 0 z0) 5 0 0 0) 5 28 0 y) 44 mk 0 0) 43 mk 0 1) 41 mk 0 xa) 25 ma 0 yk) 24 ma 0 yl) n (c + 1) := by
  subst e1 e2 e3 e4 e5 f1 f2
  obtain ⟨h1, ha, h2, h3, h3a, h4, h4a, h4c, h5, h6, h42, h41, h24, h25, h7, h7a, h8⟩ := id h
  have p8 := h1.1.2.2
  refine ⟨?_, ga_cg (n := n) (by repeat (first | exact (fun _ _ _ _ => rfl) | refine q_upr rfl ?_)) rfl rfl rfl ha, ?_, g3_cg (n := n) (by repeat (first | exact (fun _ _ _ _ => rfl) | refine q_upr rfl ?_)) rfl h3, g3a_cg (by repeat (first | exact (fun _ _ _ _ => rfl) | refine q_upr rfl ?_)) (Nat.le_succ c) h3a, g4_cg (n := n) (by repeat (first | exact (fun _ _ _ _ => rfl) | refine q_upr rfl ?_)) rfl (Nat.le_refl _) h4, g4a_cg (by repeat (first | exact (fun _ _ _ _ => rfl) | refine q_upr rfl ?_))  h4a, g4c_cg (n := n) (by repeat (first | exact (fun _ _ _ _ => rfl) | refine q_upr rfl ?_)) rfl rfl h4c, g5_cg (n := n) (by repeat (first | exact (fun _ _ _ _ => rfl) | refine q_upr rfl ?_)) (Nat.le_refl _) rfl h5, ?_, g42_cg (by repeat (first | exact (fun _ _ _ _ => rfl) | refine q_upr rfl ?_))  h42, ?_, ?_, ?_, ?_, g7a_cg (by repeat (first | exact (fun _ _ _ _ => rfl) | refine q_upr rfl ?_))  h7a, g8_cg (n := n) (by repeat (first | exact (fun _ _ _ _ => rfl) | refine q_upr rfl ?_)) (fun _ _ => rfl) h8⟩
  · exact ⟨h1.1, h1.2.1, h1.2.2.1, ⟨h1.2.2.2.1.1, Nat.le_succ_of_le h1.2.2.2.1.2⟩, ⟨rfl, Int.le_trans h1.2.2.2.2.1.2 hy⟩, h1.2.2.2.2.2⟩
  · refine ⟨h2.1, fun q => ?_⟩
    have r := h2.2 q
    simp only [q_ua, Nat.reduceEqDiff, false_and, and_false, true_and, and_true, ↓reduceIte, Nat.succ_ne_self, Nat.add_right_cancel_iff]
    by_cases e : q = p
    · subst e
      simp only [if_true]
      exact ⟨r.1, r.2.1, trivial, by omega, by omega, r.2.2.2.2.2⟩
    · simp only [if_neg e]
      exact ⟨r.1, r.2.1, r.2.2.1, r.2.2.2.1, by omega, r.2.2.2.2.2⟩
  · intro q hq
    have r := h6 q hq
    by_cases e : q = k
    · subst e
      have r1 := r.2.2.2.2.2.1 (by omega)
      unfold c_job at r ⊢
      simp only [q_ua, Nat.reduceEqDiff, false_and, and_false, true_and, and_true, ↓reduceIte, Nat.succ_ne_self, Nat.add_right_cancel_iff]
      exact ⟨by simp, by simp, r.2.2.1, r.2.2.2.1, r.2.2.2.2.1, fun _ => r1, fun s => by omega⟩
    · unfold c_job at r ⊢
      simp only [q_ua, Nat.reduceEqDiff, false_and, and_false, true_and, and_true, ↓reduceIte, Nat.succ_ne_self, Nat.add_right_cancel_iff, if_neg e]
      exact r
  · intro q
    have r := h41 q
    simp only [q_ua, Nat.reduceEqDiff, false_and, and_false, true_and, and_true, ↓reduceIte, Nat.succ_ne_self, Nat.add_right_cancel_iff]
    by_cases e : q = k
    · subst e
      simp only [if_true]
      rw [show ((p : Int) + 1 - 1).toNat = p by omega, if_pos rfl]
      exact ⟨fun _ => ⟨by omega, by omega, rfl⟩, fun s => absurd trivial s⟩
    · simp only [if_neg e]
      refine ⟨fun s => ?_, r.2⟩
      have r1 := r.1 s
      rw [if_neg]
      · exact r1
      · intro s2
        rw [s2] at r1
        omega
  · intro q hq
    simp only [q_ua, Nat.reduceEqDiff, false_and, and_false, true_and, and_true, ↓reduceIte, Nat.succ_ne_self, Nat.add_right_cancel_iff] at hq ⊢
    by_cases e : q = p
    · subst e
      simp only [if_true]
      rw [show ((k : Int) + 1 - 1).toNat = k by omega]
      simp only [if_true]
      exact ⟨trivial, trivial, trivial⟩
    · simp only [if_neg e] at hq ⊢
      have r := h24 q hq
      have ek : ¬ (C 2 4 q - 1).toNat = k := fun s => by rw [s] at r; omega
      simp only [if_neg ek]
      exact r
  · refine ⟨h25.1, fun q => ?_⟩
    have r := h25.2 q
    simp only [q_ua, Nat.reduceEqDiff, false_and, and_false, true_and, and_true, ↓reduceIte, Nat.succ_ne_self, Nat.add_right_cancel_iff]
    by_cases e : q = p
    · simp only [if_pos e]
      exact ⟨fun _ => by omega, fun s => by omega⟩
    · simp only [if_neg e]
      exact r
  · refine ⟨h7.1, h7.2.1, ?_⟩
    have b := busy_up (C := C) (D := (q_up (q_up (q_up (q_up (q_up (q_up (q_up (q_up (q_up (q_up (q_up (q_up (q_up C 4 10 0 y) 2 3 p (C 2 3 p + 1)) 1 3 k 1) 2 4 p ((k : Int) + 1)) 2 5 p 1) 50 0 0 z0) 5 0 0 0) 5 28 0 y) 44 k 0 0) 43 k 0 1) 41 k 0 ((p : Int) + 1)) 25 (p + 1) 0 (k : Int)) 24 (p + 1) 0 (C 2 3 p + 1))) (p := p) (fun q hq => by simp only [q_ua, Nat.reduceEqDiff, false_and, and_false, true_and, and_true, ↓reduceIte, Nat.succ_ne_self, Nat.add_right_cancel_iff]; rw [if_neg hq]) 8
    simp only [q_ua, Nat.reduceEqDiff, false_and, and_false, true_and, and_true, ↓reduceIte, Nat.succ_ne_self, Nat.add_right_cancel_iff] at b ⊢
    rw [b, if_pos (by omega), if_pos h0, if_neg (by omega)]
    have := h7.2.2
    omega
theorem R_takeD {C : q_S} {n : Nat → Nat} {c : Nat} (h : Rel C n c) (z : gz C n) {p k mk ma T mi : Nat} {y z0 xk xa yk xm ym xt yt : Int} (hy : C 4 10 0 ≤ y) (hp : p < n 2) (hkn : k < n 1) (h0 : C 2 4 p = 0) (h13 : C 1 3 k = 0) (e1 : k = mk) (e2 : ma = p + 1) (e3 : xk = (k : Int) + 1) (e4 : yk = (k : Int)) (e5 : xa = (p : Int) + 1) (f1 : ym = xm) (f2 : xt = C 3 4 T + 1) (f3 : yt = C 3 4 T + 1) (f4 : mi = 4 * T + 2) : Rel (q_up (q_up (q_up (q_up (q_up (q_up (q_up (q_up (q_up (q_up (q_up (q_up (q_up (q_up (q_up (q_up (q_up C 4 10 0 y) 2 2 p xm) 2 3 p 0) 3 4 T xt) 1 3 k 1) 2 4 p xk) 2 5 p 1) 50 0 0 z0) 5 0 0 0) 5 28 0 y) 44 mk 0 0) 43 mk 0 1) 41 mk 0 xa) 25 ma 0 yk) 22 ma 0 ym) 24 ma 0 0) 29 mi 0 yt) n (c + 1) := by
  subst e1 e2 e3 e4 e5 f1 f2 f3 f4
  obtain ⟨h1, ha, h2, h3, h3a, h4, h4a, h4c, h5, h6, h42, h41, h24, h25, h7, h7a, h8⟩ := id h
  have p8 := h1.1.2.2
  refine ⟨?_, ga_cg (n := n) (by repeat (first | exact (fun _ _ _ _ => rfl) | refine q_upr rfl ?_)) rfl rfl rfl ha, ?_, g3_cg (n := n) (by repeat (first | exact (fun _ _ _ _ => rfl) | refine q_upr rfl ?_)) rfl h3, ?_, g4_cg (n := n) (by repeat (first | exact (fun _ _ _ _ => rfl) | refine q_upr rfl ?_)) rfl (Nat.le_refl _) h4, g4a_cg (by repeat (first | exact (fun _ _ _ _ => rfl) | refine q_upr rfl ?_))  h4a, g4c_cg (n := n) (by repeat (first | exact (fun _ _ _ _ => rfl) | refine q_upr rfl ?_)) rfl rfl h4c, g5_cg (n := n) (by repeat (first | exact (fun _ _ _ _ => rfl) | refine q_upr rfl ?_)) (Nat.le_refl _) rfl h5, ?_, g42_cg (by repeat (first | exact (fun _ _ _ _ => rfl) | refine q_upr rfl ?_))  h42, ?_, ?_, ?_, ?_, g7a_cg (by repeat (first | exact (fun _ _ _ _ => rfl) | refine q_upr rfl ?_))  h7a, g8_cg (n := n) (by repeat (first | exact (fun _ _ _ _ => rfl) | refine q_upr rfl ?_)) (fun _ _ => rfl) h8⟩
  · exact ⟨h1.1, h1.2.1, h1.2.2.1, ⟨h1.2.2.2.1.1, Nat.le_succ_of_le h1.2.2.2.1.2⟩, ⟨rfl, Int.le_trans h1.2.2.2.2.1.2 hy⟩, h1.2.2.2.2.2⟩
  · refine ⟨h2.1, fun q => ?_⟩
    have r := h2.2 q
    simp only [q_ua, Nat.reduceEqDiff, false_and, and_false, true_and, and_true, ↓reduceIte, Nat.succ_ne_self, Nat.add_right_cancel_iff]
    by_cases e : q = p
    · subst e
      simp only [if_true]
      exact ⟨trivial, r.2.1, trivial, by omega, by omega, r.2.2.2.2.2⟩
    · simp only [if_neg e]
      exact ⟨r.1, r.2.1, r.2.2.1, r.2.2.2.1, by omega, r.2.2.2.2.2⟩
  · intro t w hw
    have r := h3a t w hw
    simp only [q_ua, Nat.reduceEqDiff, false_and, and_false, true_and, and_true, ↓reduceIte, Nat.succ_ne_self, Nat.add_right_cancel_iff]
    by_cases e : t = T ∧ w = 2
    · obtain ⟨rfl, rfl⟩ := e
      have r : _ ∧ 0 ≤ C 3 4 t ∧ C 3 4 t ≤ 60000 * (c : Int) := r
      simp only [if_true, and_self]
      refine ⟨trivial, by omega, by omega⟩
    · rw [if_neg (by omega), if_neg (by omega)]
      exact ⟨r.1, r.2.1, by omega⟩
  · intro q hq
    have r := h6 q hq
    by_cases e : q = k
    · subst e
      have r1 := r.2.2.2.2.2.1 (by omega)
      unfold c_job at r ⊢
      simp only [q_ua, Nat.reduceEqDiff, false_and, and_false, true_and, and_true, ↓reduceIte, Nat.succ_ne_self, Nat.add_right_cancel_iff]
      exact ⟨by simp, by simp, r.2.2.1, r.2.2.2.1, r.2.2.2.2.1, fun _ => r1, fun s => by omega⟩
    · unfold c_job at r ⊢
      simp only [q_ua, Nat.reduceEqDiff, false_and, and_false, true_and, and_true, ↓reduceIte, Nat.succ_ne_self, Nat.add_right_cancel_iff, if_neg e]
      exact r
  · intro q
    have r := h41 q
    simp only [q_ua, Nat.reduceEqDiff, false_and, and_false, true_and, and_true, ↓reduceIte, Nat.succ_ne_self, Nat.add_right_cancel_iff]
    by_cases e : q = k
    · subst e
      simp only [if_true]
      rw [show ((p : Int) + 1 - 1).toNat = p by omega, if_pos rfl]
      exact ⟨fun _ => ⟨by omega, by omega, rfl⟩, fun s => absurd trivial s⟩
    · simp only [if_neg e]
      refine ⟨fun s => ?_, r.2⟩
      have r1 := r.1 s
      rw [if_neg]
      · exact r1
      · intro s2
        rw [s2] at r1
        omega
  · intro q hq
    simp only [q_ua, Nat.reduceEqDiff, false_and, and_false, true_and, and_true, ↓reduceIte, Nat.succ_ne_self, Nat.add_right_cancel_iff] at hq ⊢
    by_cases e : q = p
    · subst e
      simp only [if_true]
      rw [show ((k : Int) + 1 - 1).toNat = k by omega]
      simp only [if_true]
      exact ⟨trivial, trivial, trivial⟩
    · simp only [if_neg e] at hq ⊢
      have r := h24 q hq
      have ek : ¬ (C 2 4 q - 1).toNat = k := fun s => by rw [s] at r; omega
      simp only [if_neg ek]
      exact r
  · refine ⟨h25.1, fun q => ?_⟩
    have r := h25.2 q
    simp only [q_ua, Nat.reduceEqDiff, false_and, and_false, true_and, and_true, ↓reduceIte, Nat.succ_ne_self, Nat.add_right_cancel_iff]
    by_cases e : q = p
    · simp only [if_pos e]
      exact ⟨fun _ => by omega, fun s => by omega⟩
    · simp only [if_neg e]
      exact r
  · refine ⟨h7.1, h7.2.1, ?_⟩
    have b := busy_up (C := C) (D := (q_up (q_up (q_up (q_up (q_up (q_up (q_up (q_up (q_up (q_up (q_up (q_up (q_up (q_up (q_up (q_up (q_up C 4 10 0 y) 2 2 p ym) 2 3 p 0) 3 4 T (C 3 4 T + 1)) 1 3 k 1) 2 4 p ((k : Int) + 1)) 2 5 p 1) 50 0 0 z0) 5 0 0 0) 5 28 0 y) 44 k 0 0) 43 k 0 1) 41 k 0 ((p : Int) + 1)) 25 (p + 1) 0 (k : Int)) 22 (p + 1) 0 ym) 24 (p + 1) 0 0) 29 (4 * T + 2) 0 (C 3 4 T + 1))) (p := p) (fun q hq => by simp only [q_ua, Nat.reduceEqDiff, false_and, and_false, true_and, and_true, ↓reduceIte, Nat.succ_ne_self, Nat.add_right_cancel_iff]; rw [if_neg hq]) 8
    simp only [q_ua, Nat.reduceEqDiff, false_and, and_false, true_and, and_true, ↓reduceIte, Nat.succ_ne_self, Nat.add_right_cancel_iff] at b ⊢
    rw [b, if_pos (by omega), if_pos h0, if_neg (by omega)]
    have := h7.2.2
    omega
theorem o_take {C : q_S} {n : Nat → Nat} {ad : Nat → Nat → Nat} {c : Nat} {a y : Int} {r : Int32} {rb : Int32} {u u2 : q_U} (h : Rel C n c) (z : gz C n) (hc : c ≤ 511) (hp : pL_take n ad C a y r u) (hm : tX5_take u.1 u.2.1 u.2.2 a y rb u2) : Res c r (fun z => R32 z ∧ rb = iI z) u u2 := by
  obtain ⟨h1, ha, h2, h3, h3a, h4, h4a, h4c, h5, h6, h42, h41, h24, h25, h7, h7a, h8⟩ := id h
  have e2 := h1.1.1
  have e8 := h1.1.2.2
  have e28 := h1.2.2.2.2.1.1
  have e10 := h1.2.2.2.2.1.2
  have e17 : (C 5 17 0).toNat = n 1 := by rw [h1.2.2.2.1.1]; omega
  rcases hp with ⟨v, z0, hz0, hv, rfl, rfl⟩ | ⟨hx, rfl, rfl⟩ | ⟨hx, rfl, rfl⟩ | ⟨hx, rfl, rfl⟩
  · have ca : (1 ≤ a ∧ a ≤ (n 2 : Int)) ∧ C 4 10 0 ≤ y ∧ C 2 4 (a - 1).toNat = 0 := by
      rcases hv with ⟨q1, q2, q3, -⟩ | ⟨q1, q2, q3, -⟩ | ⟨q1, q2, q3, -⟩ <;> exact ⟨q1, q2, q3⟩
    obtain ⟨p, rfl⟩ : ∃ p : Nat, a = (p : Int) + 1 := ⟨(a - 1).toNat, by omega⟩
    have ep : ((p : Int) + 1 - 1).toNat = p := by omega
    have ep1 : ((p : Int) + 1).toNat = p + 1 := by omega
    have hp2 : p < n 2 := by omega
    have ca2 : 1 ≤ (p : Int) + 1 ∧ (p : Int) + 1 ≤ C 5 1 0 := by omega
    unfold tX4_take at hv
    rw [ep] at hv ca
    have h0 := ca.2.2
    have m25 : C 25 ((p : Int) + 1).toNat 0 = -1 := by rw [ep1, (h25.2 p).1 (by omega), h0]; rfl
    have cy2 : C 5 28 0 ≤ y := by omega
    -- a state that differs in the class's half
    have lem : ∀ (V : q_S), (∀ kd s, (kd = 5 ∨ (20 ≤ kd ∧ kd < 50)) → V kd s 0 = C kd s 0) → tX5_take n ad V ((p : Int) + 1) y rb u2 →
        (c_ch (q_up C 4 10 0 y) n p 60 = 0 ∧ u2 = (n, ad, m_now V y) ∧ rb = iI 0) ∨
        ∃ k j t : Nat, k < n 1 ∧ C 1 3 k = 0 ∧ c_ch (q_up C 4 10 0 y) n p 60 = (k : Int) + 1 ∧ C 1 0 k = (j : Int) + 1 ∧ C 0 1 j = (t : Int) + 1 ∧ C 0 0 j = (j : Int) + 1 ∧ rb = iI ((j : Int) + 1) ∧
          ((C 3 0 t = C 2 2 p ∧ u2 = (n, ad, q_up (q_up (q_up (q_up (q_up (m_now V y) 44 k 0 0) 43 k 0 1) 41 k 0 ((p : Int) + 1)) 25 (p + 1) 0 (k : Int)) 24 (p + 1) 0 (C 2 3 p + 1))) ∨
           (¬ C 3 0 t = C 2 2 p ∧ u2 = (n, ad, q_up (q_up (q_up (q_up (q_up (q_up (q_up (m_now V y) 44 k 0 0) 43 k 0 1) 41 k 0 ((p : Int) + 1)) 25 (p + 1) 0 (k : Int)) 22 (p + 1) 0 (C 3 0 t)) 24 (p + 1) 0 0) 29 (4 * t + 2) 0 (C 3 4 t + 1)))) := by
      intro V LV hm
      have pk := h.pick z (by omega) LV hp2 y
      unfold tX5_take at hm
      rw [LV 5 17 (Or.inl rfl), e17, LV 5 1 (Or.inl rfl), LV 5 28 (Or.inl rfl), LV 25 _ (Or.inr (by decide))] at hm
      rcases pk with ⟨q1, q2⟩ | ⟨k, k1, k2, k3, k4, k5⟩
      · left
        rcases hm with ⟨-, -, -, mb, -⟩ | ⟨-, -, -, mb, -⟩ | ⟨-, -, -, mb, r1, r2⟩ | ⟨-, -, mb, -⟩ | ⟨-, mb, -⟩ | ⟨mb, -⟩
        · exact absurd q2 mb
        · exact absurd q2 mb
        · exact ⟨q1, r1, r2⟩
        · exact absurd m25 mb
        · omega
        · exact absurd ca2 mb
      · right
        obtain ⟨j, j1, j2, j3, j4⟩ := h.pj k1
        obtain ⟨t, t1, t2, t3, t4⟩ := h.jt j1
        have q00 := ((h4.2 j).2.2.2.2 j1).2.2.2.2
        have med : m_med V k = C 3 0 t := by
          unfold m_med
          rw [LV 38 _ (Or.inr (by decide)), j3, show ((j : Int) + 1).toNat = j + 1 by omega, LV 31 _ (Or.inr (by decide)), t3, show ((t : Int) + 1).toNat = t + 1 by omega, LV 27 _ (Or.inr (by decide)), (h3 t).1]
        have r29 : C 29 (4 * t + 2) 0 = C 3 4 t := (h3a t 2 (by decide)).1
        rw [k5, med, ep1, LV 38 _ (Or.inr (by decide)), j3, show ((j : Int) + 1).toNat = j + 1 by omega, LV 31 _ (Or.inr (by decide)), t3, show (4 * ((t : Int) + 1) - 2).toNat = 4 * t + 2 by omega, LV 29 _ (Or.inr (by decide)), r29, LV 22 _ (Or.inr (by decide)), (h2.2 p).1, LV 24 _ (Or.inr (by decide)), (h2.2 p).2.2.1] at hm
        refine ⟨k, j, t, k1, k2, k3, j2, t2, q00, ?_⟩
        rw [ep1] at m25
        rcases hm with ⟨-, -, -, -, mc, r1, r2⟩ | ⟨-, -, -, -, mc, r1, r2⟩ | ⟨-, -, -, mb, -⟩ | ⟨-, -, mb, -⟩ | ⟨-, mb, -⟩ | ⟨mb, -⟩
        · exact ⟨r2, Or.inr ⟨mc, r1⟩⟩
        · exact ⟨r2, Or.inl ⟨mc, r1⟩⟩
        · exact absurd mb k4
        · exact absurd m25 mb
        · omega
        · exact absurd ca2 mb
    rcases hv with ⟨-, -, -, cz, rfl, ce⟩ | ⟨-, -, -, cz, cm, rfl, ce⟩ | ⟨-, -, -, cz, cm, rfl, ce⟩
    · rcases lem _ (fun kd s q => by dsimp only; rw [q_ua, if_neg (by omega), q_ua, if_neg (by omega)]) hm with ⟨-, rfl, rfl⟩ | ⟨k, j, t, -, -, q, -⟩
      · exact ⟨0, by omega, rfl, rfl, fun _ => ⟨z0, ⟨hz0, ce.symm⟩, rfl⟩, rfl, rfl, R_take0 h ca.2.1⟩
      · omega
    · rcases lem _ (fun kd s q => by dsimp only; rw [q_ua, if_neg (by omega), q_ua, if_neg (by omega), q_ua, if_neg (by omega), q_ua, if_neg (by omega), q_ua, if_neg (by omega), q_ua, if_neg (by omega)]) hm with ⟨q, -⟩ | ⟨k, j, t, k1, k2, k3, j1, t1, j0, rfl, hh⟩
      · exact absurd q cz
      · have ek : (c_ch (q_up C 4 10 0 y) n p 60 - 1).toNat = k := by omega
        have ej : (C 1 0 k - 1).toNat = j := by omega
        have et : (C 0 1 j - 1).toNat = t := by omega
        rw [ek, ej, et] at cm
        rw [ek, ej, j0] at ce
        rcases hh with ⟨q, rfl⟩ | ⟨q, -⟩
        · refine ⟨0, by omega, rfl, rfl, fun _ => ⟨z0, ⟨hz0, ce.symm⟩, rfl⟩, rfl, rfl, ?_⟩
          dsimp only
          rw [ek]
          exact R_takeS h z ca.2.1 hp2 k1 h0 k2 rfl rfl rfl rfl rfl rfl rfl
        · exact absurd cm q
    · rcases lem _ (fun kd s q => by dsimp only; rw [q_ua, if_neg (by omega), q_ua, if_neg (by omega), q_ua, if_neg (by omega), q_ua, if_neg (by omega), q_ua, if_neg (by omega), q_ua, if_neg (by omega), q_ua, if_neg (by omega), q_ua, if_neg (by omega)]) hm with ⟨q, -⟩ | ⟨k, j, t, k1, k2, k3, j1, t1, j0, rfl, hh⟩
      · exact absurd q cz
      · have ek : (c_ch (q_up C 4 10 0 y) n p 60 - 1).toNat = k := by omega
        have ej : (C 1 0 k - 1).toNat = j := by omega
        have et : (C 0 1 j - 1).toNat = t := by omega
        rw [ek, ej, et] at cm
        rw [ek, ej, j0] at ce
        rcases hh with ⟨q, -⟩ | ⟨q, rfl⟩
        · exact absurd q cm
        · refine ⟨0, by omega, rfl, rfl, fun _ => ⟨z0, ⟨hz0, ce.symm⟩, rfl⟩, rfl, rfl, ?_⟩
          dsimp only
          rw [ek, ej, et]
          exact R_takeD h z ca.2.1 hp2 k1 h0 k2 rfl rfl rfl rfl rfl rfl rfl rfl rfl
  · have cx : ¬ (1 ≤ a ∧ a ≤ C 5 1 0) := by
      rcases hx with ⟨-, q⟩ | ⟨q, -⟩ | ⟨q, -⟩
      · omega
      · exact absurd q (by decide)
      · exact absurd q (by decide)
    rcases hm with ⟨ma, -⟩ | ⟨ma, -⟩ | ⟨ma, -⟩ | ⟨ma, -⟩ | ⟨ma, -⟩ | ⟨ma, rfl, rfl⟩
    · exact absurd ma cx
    · exact absurd ma cx
    · exact absurd ma cx
    · exact absurd ma cx
    · exact absurd ma cx
    · exact Res_x h (by decide)
  · have cx : (1 ≤ a ∧ a ≤ C 5 1 0) ∧ y < C 5 28 0 := by
      rcases hx with ⟨q, -⟩ | ⟨q, -⟩ | ⟨-, q⟩
      · exact absurd q (by decide)
      · exact absurd q (by decide)
      · omega
    rcases hm with ⟨ma, mb, -⟩ | ⟨ma, mb, -⟩ | ⟨ma, mb, -⟩ | ⟨ma, mb, -⟩ | ⟨ma, mb, rfl, rfl⟩ | ⟨ma, -⟩
    · have mb : C 5 28 0 ≤ y := mb
      omega
    · have mb : C 5 28 0 ≤ y := mb
      omega
    · have mb : C 5 28 0 ≤ y := mb
      omega
    · have mb : C 5 28 0 ≤ y := mb
      omega
    · exact Res_x h (by decide)
    · exact absurd cx.1 ma
  · have cx : (1 ≤ a ∧ a ≤ C 5 1 0) ∧ C 5 28 0 ≤ y ∧ ¬ C 25 a.toNat 0 = -1 := by
      rcases hx with ⟨q, -⟩ | ⟨-, q1, q2, q3⟩ | ⟨q, -⟩
      · exact absurd q (by decide)
      · refine ⟨by omega, by omega, ?_⟩
        have := (h25.2 (a - 1).toNat).1 (by omega)
        rw [show (a - 1).toNat + 1 = a.toNat by omega] at this
        omega
      · exact absurd q (by decide)
    rcases hm with ⟨ma, mb, mc, -⟩ | ⟨ma, mb, mc, -⟩ | ⟨ma, mb, mc, -⟩ | ⟨ma, mb, mc, rfl, rfl⟩ | ⟨ma, mb, -⟩ | ⟨ma, -⟩
    · exact absurd mc cx.2.2
    · exact absurd mc cx.2.2
    · exact absurd mc cx.2.2
    · exact Res_x h (by decide)
    · have mb : y < C 5 28 0 := mb
      omega
    · exact absurd cx.1 ma
