theorem bump_s (n : Nat → Nat) (k : Nat) : q_bump n k k = n k + 1 := if_pos rfl
theorem bump_n (n : Nat → Nat) {k j : Nat} (h : ¬ j = k) : q_bump n k j = n j := if_neg h
theorem R_printer {C : q_S} {n : Nat → Nat} {c : Nat} (h : Rel C n c) (z : gz C n) {a b z0 : Int} {m0 m1 : Nat} {x0 x1 : Int} (hb : 1 ≤ b ∧ b ≤ 2) (hlt : n 2 < 8) (e0 : m0 = n 2) (e1 : m1 = n 2 + 1) (f0 : x0 = (n 2 : Int) + 1) (f1 : x1 = (n 2 : Int) + 1) :
    Rel (q_up (q_up (q_up (q_up (q_up (q_up (q_up (q_up (q_up (q_up C 2 0 (n 2) x0) 2 2 (n 2) a) 2 1 (n 2) b) 6 m0 0 ((n 2 : Nat) + 1)) 4 3 0 x0) 50 0 0 z0) 5 0 0 0) 5 1 0 x1) 22 m1 0 a) 23 m1 0 b) (q_bump n 2) (c + 1) := by
  subst e0 e1 f0 f1
  obtain ⟨h1, ha, h2, h3, h3a, h4, h4a, h4c, h5, h6, h42, h41, h24, h25, h7, h7a, h8⟩ := id h
  refine ⟨?_, ?_, ?_, g3_cg (n := n) (by repeat (first | exact (fun _ _ _ _ => rfl) | refine q_upr rfl ?_)) rfl h3, g3a_cg (by repeat (first | exact (fun _ _ _ _ => rfl) | refine q_upr rfl ?_)) (Nat.le_succ c) h3a, g4_cg (n := n) (by repeat (first | exact (fun _ _ _ _ => rfl) | refine q_upr rfl ?_)) rfl (Nat.le_refl _) h4, g4a_cg (by repeat (first | exact (fun _ _ _ _ => rfl) | refine q_upr rfl ?_))  h4a, g4c_cg (n := n) (by repeat (first | exact (fun _ _ _ _ => rfl) | refine q_upr rfl ?_)) rfl rfl h4c, g5_cg (n := n) (by repeat (first | exact (fun _ _ _ _ => rfl) | refine q_upr rfl ?_)) (Nat.le_refl _) rfl h5, g6_cg (n := n) (by repeat (first | exact (fun _ _ _ _ => rfl) | refine q_upr rfl ?_)) rfl h6, g42_cg (by repeat (first | exact (fun _ _ _ _ => rfl) | refine q_upr rfl ?_))  h42, g41_cg (n := n) (by repeat (first | exact (fun _ _ _ _ => rfl) | refine q_upr rfl ?_)) (by show n 2 ≤ n 2 + 1; omega) h41, g24_cg (by repeat (first | exact (fun _ _ _ _ => rfl) | refine q_upr rfl ?_))  h24, g25_cg (by repeat (first | exact (fun _ _ _ _ => rfl) | refine q_upr rfl ?_))  h25, g7_cg (by repeat (first | exact (fun _ _ _ _ => rfl) | refine q_upr rfl ?_)) (Nat.le_succ c) h7, g7a_cg (by repeat (first | exact (fun _ _ _ _ => rfl) | refine q_upr rfl ?_))  h7a, g8_cg (n := n) (by repeat (first | exact (fun _ _ _ _ => rfl) | refine q_upr rfl ?_)) (fun k hk => bump_n n (by omega)) h8⟩
  · exact ⟨⟨rfl, rfl, hlt⟩, h1.2.1, h1.2.2.1, ⟨h1.2.2.2.1.1, Nat.le_succ_of_le h1.2.2.2.1.2⟩, h1.2.2.2.2⟩
  · intro j
    simp only [q_ua, Nat.reduceEqDiff, false_and, and_false, true_and, and_true, ↓reduceIte, Nat.succ_ne_self, Nat.add_right_cancel_iff]
    refine ⟨?_, (ha j).2.1, (ha j).2.2⟩
    rw [bump_s]
    by_cases e : j = n 2
    · rw [if_pos e, if_pos (by omega), e]
    · rw [if_neg e, (ha j).1]
      by_cases q : j < n 2
      · rw [if_pos q, if_pos (by omega)]
      · rw [if_neg q, if_neg (by omega)]
  · refine ⟨h2.1, fun p => ?_⟩
    have q := h2.2 p
    simp only [q_ua, Nat.reduceEqDiff, false_and, and_false, true_and, and_true, ↓reduceIte, Nat.succ_ne_self, Nat.add_right_cancel_iff]
    by_cases e : p = n 2
    · rw [if_pos e, if_pos e, if_pos e, if_pos e, if_pos e]
      exact ⟨rfl, rfl, q.2.2.1, q.2.2.2.1, by have := q.2.2.2.2.1; omega, fun _ => by rw [e]⟩
    · rw [if_neg e, if_neg e, if_neg e, if_neg e, if_neg e]
      refine ⟨q.1, q.2.1, q.2.2.1, q.2.2.2.1, by have := q.2.2.2.2.1; omega, fun hp => q.2.2.2.2.2 ?_⟩
      rw [bump_s] at hp
      omega
theorem o_printer {C : q_S} {n : Nat → Nat} {ad : Nat → Nat → Nat} {c : Nat} {a b : Int} {r : Int32} {rb : Int32} {u u2 : q_U} (h : Rel C n c) (z : gz C n)  (hp : pL_printer n ad C a b r u) (hm : tX5_printer u.1 u.2.1 u.2.2 a b rb u2) : Res c r (fun z => R32 z ∧ rb = iI z) u u2 := by
  obtain ⟨h1, ha, h2, h3, h3a, h4, h4a, h4c, h5, h6, h42, h41, h24, h25, h7, h7a, h8⟩ := id h
  have e1 := h1.1.1
  have e2 := h1.1.2.1
  rcases hp with ⟨v, z0, hz0, ⟨ad1, ca, cb, cc, cd, rfl, ce⟩, rfl, rfl⟩ | ⟨hx, rfl, rfl⟩ | ⟨hx, rfl, rfl⟩
  · rcases hm with ⟨ma, mb, mc, rfl, rfl⟩ | ⟨ma, mb, mc, rfl, rfl⟩ | ⟨ma, mb, rfl, rfl⟩ | ⟨ma, rfl, rfl⟩
    · refine ⟨0, by omega, rfl, rfl, fun _ => ⟨z0, ⟨hz0, ?_⟩, rfl⟩, rfl, rfl, R_printer h z cb (by omega) (by omega) (show (C 5 1 0 + 1).toNat = n 2 + 1 by omega) (by omega) (show C 5 1 0 + 1 = (n 2 : Int) + 1 by omega)⟩
      rw [ce]
      exact congrArg iI (show C 5 1 0 + 1 = C 4 3 0 + 1 by omega)
    · have mc : C 5 1 0 = 8 := mc
      omega
    · exact absurd cb mb
    · exact absurd ca ma
  · have cx : ¬ ((0 ≤ a ∧ a ≤ 7) ∧ (1 ≤ b ∧ b ≤ 2)) := by
      rcases hx with ⟨q, -⟩ | ⟨-, q1, q2⟩ | ⟨-, q1⟩
      · exact absurd q (by decide)
      · exact fun q => q2 q.2
      · exact fun q => q1 q.1
    rcases hm with ⟨ma, mb, mc, rfl, rfl⟩ | ⟨ma, mb, mc, rfl, rfl⟩ | ⟨ma, mb, rfl, rfl⟩ | ⟨ma, rfl, rfl⟩
    · exact absurd ⟨ma, mb⟩ cx
    · exact absurd ⟨ma, mb⟩ cx
    · exact Res_x h (by decide)
    · exact Res_x h (by decide)
  · have cx : (0 ≤ a ∧ a ≤ 7) ∧ (1 ≤ b ∧ b ≤ 2) ∧ 8 ≤ C 4 3 0 := by
      rcases hx with ⟨-, q⟩ | ⟨q, -⟩ | ⟨q, -⟩
      · exact q
      · exact absurd q (by decide)
      · exact absurd q (by decide)
    rcases hm with ⟨ma, mb, mc, rfl, rfl⟩ | ⟨ma, mb, mc, rfl, rfl⟩ | ⟨ma, mb, rfl, rfl⟩ | ⟨ma, rfl, rfl⟩
    · have mc : ¬ C 5 1 0 = 8 := mc
      have := h1.1.2.2
      omega
    · exact Res_x h (by decide)
    · exact absurd cx.2.1 mb
    · exact absurd cx.1 ma
theorem R_ticket {C : q_S} {n : Nat → Nat} {c : Nat} (h : Rel C n c) (z : gz C n) {a b z0 : Int} {m0 m1 : Nat} {x0 x1 : Int} (hb : 1 ≤ b ∧ b ≤ 2) (hlt : n 3 < 20) (e0 : m0 = n 3) (e1 : m1 = n 3 + 1) (f0 : x0 = (n 3 : Int) + 1) (f1 : x1 = (n 3 : Int) + 1) :
    Rel (q_up (q_up (q_up (q_up (q_up (q_up (q_up (q_up (q_up C 3 0 (n 3) a) 3 1 (n 3) b) 7 m0 0 ((n 3 : Nat) + 1)) 4 4 0 x0) 50 0 0 z0) 5 0 0 0) 5 6 0 x1) 27 m1 0 a) 28 m1 0 b) (q_bump n 3) (c + 1) := by
  subst e0 e1 f0 f1
  obtain ⟨h1, ha, h2, h3, h3a, h4, h4a, h4c, h5, h6, h42, h41, h24, h25, h7, h7a, h8⟩ := id h
  refine ⟨?_, ?_, g2_cg (n := n) (by repeat (first | exact (fun _ _ _ _ => rfl) | refine q_upr rfl ?_)) rfl (Nat.le_succ c) h2, ?_, g3a_cg (by repeat (first | exact (fun _ _ _ _ => rfl) | refine q_upr rfl ?_)) (Nat.le_succ c) h3a, g4_cg (n := n) (by repeat (first | exact (fun _ _ _ _ => rfl) | refine q_upr rfl ?_)) rfl (by show n 3 ≤ n 3 + 1; omega) h4, g4a_cg (by repeat (first | exact (fun _ _ _ _ => rfl) | refine q_upr rfl ?_))  h4a, g4c_cg (n := n) (by repeat (first | exact (fun _ _ _ _ => rfl) | refine q_upr rfl ?_)) rfl rfl h4c, g5_cg (n := n) (by repeat (first | exact (fun _ _ _ _ => rfl) | refine q_upr rfl ?_)) (Nat.le_refl _) rfl h5, g6_cg (n := n) (by repeat (first | exact (fun _ _ _ _ => rfl) | refine q_upr rfl ?_)) rfl h6, g42_cg (by repeat (first | exact (fun _ _ _ _ => rfl) | refine q_upr rfl ?_))  h42, g41_cg (n := n) (by repeat (first | exact (fun _ _ _ _ => rfl) | refine q_upr rfl ?_)) (Nat.le_refl _) h41, g24_cg (by repeat (first | exact (fun _ _ _ _ => rfl) | refine q_upr rfl ?_))  h24, g25_cg (by repeat (first | exact (fun _ _ _ _ => rfl) | refine q_upr rfl ?_))  h25, g7_cg (by repeat (first | exact (fun _ _ _ _ => rfl) | refine q_upr rfl ?_)) (Nat.le_succ c) h7, g7a_cg (by repeat (first | exact (fun _ _ _ _ => rfl) | refine q_upr rfl ?_))  h7a, g8_cg (n := n) (by repeat (first | exact (fun _ _ _ _ => rfl) | refine q_upr rfl ?_)) (fun k hk => bump_n n (by omega)) h8⟩
  · exact ⟨h1.1, ⟨rfl, rfl, hlt⟩, h1.2.2.1, ⟨h1.2.2.2.1.1, Nat.le_succ_of_le h1.2.2.2.1.2⟩, h1.2.2.2.2⟩
  · intro j
    simp only [q_ua, Nat.reduceEqDiff, false_and, and_false, true_and, and_true, ↓reduceIte, Nat.succ_ne_self, Nat.add_right_cancel_iff]
    refine ⟨(ha j).1, ?_, (ha j).2.2⟩
    rw [bump_s]
    by_cases e : j = n 3
    · rw [if_pos e, if_pos (by omega), e]
    · rw [if_neg e, (ha j).2.1]
      by_cases q : j < n 3
      · rw [if_pos q, if_pos (by omega)]
      · rw [if_neg q, if_neg (by omega)]
  · intro t
    have q := h3 t
    simp only [q_ua, Nat.reduceEqDiff, false_and, and_false, true_and, and_true, ↓reduceIte, Nat.succ_ne_self, Nat.add_right_cancel_iff]
    by_cases e : t = n 3
    · rw [if_pos e, if_pos e, if_pos e, if_pos e]
      exact ⟨rfl, rfl, fun _ => by omega⟩
    · rw [if_neg e, if_neg e, if_neg e, if_neg e]
      refine ⟨q.1, q.2.1, fun hp => q.2.2 ?_⟩
      rw [bump_s] at hp
      omega
theorem o_ticket {C : q_S} {n : Nat → Nat} {ad : Nat → Nat → Nat} {c : Nat} {a b d : Int} {r : Int32} {rb : Int32} {u u2 : q_U} (h : Rel C n c) (z : gz C n)  (hp : pL_ticket n ad C a b d r u) (hm : tX5_ticket u.1 u.2.1 u.2.2 a b d rb u2) : Res c r (fun z => R32 z ∧ rb = iI z) u u2 := by
  obtain ⟨h1, ha, h2, h3, h3a, h4, h4a, h4c, h5, h6, h42, h41, h24, h25, h7, h7a, h8⟩ := id h
  have e1 := h1.2.1.1
  have e2 := h1.2.1.2.1
  rcases hp with ⟨v, z0, hz0, ⟨ad1, ca, cb, cf, cc, cd, rfl, ce⟩, rfl, rfl⟩ | ⟨hx, rfl, rfl⟩ | ⟨hx, rfl, rfl⟩
  · rcases hm with ⟨ma, mb, md, mc, rfl, rfl⟩ | ⟨ma, mb, md, mc, rfl, rfl⟩ | ⟨ma, mb, md, rfl, rfl⟩ | ⟨ma, mb, rfl, rfl⟩ | ⟨ma, rfl, rfl⟩
    · refine ⟨0, by omega, rfl, rfl, fun _ => ⟨z0, ⟨hz0, ?_⟩, rfl⟩, rfl, rfl, R_ticket h z cb (by omega) (by omega) (show (C 5 6 0 + 1).toNat = n 3 + 1 by omega) (by omega) (show C 5 6 0 + 1 = (n 3 : Int) + 1 by omega)⟩
      rw [ce]
      exact congrArg iI (show C 5 6 0 + 1 = C 4 4 0 + 1 by omega)
    · have mc : C 5 6 0 = 20 := mc
      omega
    · exact absurd cf md
    · exact absurd cb mb
    · exact absurd ca ma
  · have cx : ¬ ((0 ≤ a ∧ a ≤ 7) ∧ (1 ≤ b ∧ b ≤ 2) ∧ (0 ≤ d ∧ d ≤ 3)) := by
      rcases hx with ⟨q, -⟩ | ⟨-, q1, q2, q3⟩ | ⟨-, q1, q2⟩ | ⟨-, q1⟩
      · exact absurd q (by decide)
      · exact fun q => q3 q.2.2
      · exact fun q => q2 q.2.1
      · exact fun q => q1 q.1
    rcases hm with ⟨ma, mb, md, mc, rfl, rfl⟩ | ⟨ma, mb, md, mc, rfl, rfl⟩ | ⟨ma, mb, md, rfl, rfl⟩ | ⟨ma, mb, rfl, rfl⟩ | ⟨ma, rfl, rfl⟩
    · exact absurd ⟨ma, mb, md⟩ cx
    · exact absurd ⟨ma, mb, md⟩ cx
    · exact Res_x h (by decide)
    · exact Res_x h (by decide)
    · exact Res_x h (by decide)
  · have cx : (0 ≤ a ∧ a ≤ 7) ∧ (1 ≤ b ∧ b ≤ 2) ∧ (0 ≤ d ∧ d ≤ 3) ∧ 20 ≤ C 4 4 0 := by
      rcases hx with ⟨-, q⟩ | ⟨q, -⟩ | ⟨q, -⟩ | ⟨q, -⟩
      · exact q
      · exact absurd q (by decide)
      · exact absurd q (by decide)
      · exact absurd q (by decide)
    rcases hm with ⟨ma, mb, md, mc, rfl, rfl⟩ | ⟨ma, mb, md, mc, rfl, rfl⟩ | ⟨ma, mb, md, rfl, rfl⟩ | ⟨ma, mb, rfl, rfl⟩ | ⟨ma, rfl, rfl⟩
    · have mc : ¬ C 5 6 0 = 20 := mc
      have := h1.2.1.2.2
      omega
    · exact Res_x h (by decide)
    · exact absurd cx.2.2.1 md
    · exact absurd cx.2.1 mb
    · exact absurd cx.1 ma
