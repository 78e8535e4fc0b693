theorem q_ua (C : q_S) (kd s i : Nat) (x : Int) (kd' s' i' : Nat) : q_up C kd s i x kd' s' i' = if kd' = kd ∧ s' = s ∧ i' = i then x else C kd' s' i' := rfl
theorem q_upr {r : Nat → Nat → Bool} {C D : q_S} {kd s i : Nat} {x : Int} (hk : r kd s = false) (h : ∀ kd s i, r kd s = true → D kd s i = C kd s i) : ∀ a b d, r a b = true → q_up D kd s i x a b d = C a b d := by
  intro a b d hr
  rw [q_ua, if_neg]
  · exact h a b d hr
  · rintro ⟨rfl, rfl, -⟩
    rw [hk] at hr
    exact Bool.false_ne_true hr
/-- what a call and the model's call come to: the same exception, or the same answer; and the halves are the same again -/
def Res (c : Nat) (r : Int32) (P : Int → Prop) (u u2 : q_U) : Prop := ∃ e : Int, (0 ≤ e ∧ e ≤ 3) ∧ r = iI e ∧ u2.2.2 5 0 0 = e ∧ (e = 0 → ∃ z, P z ∧ u2.2.2 50 0 0 = z) ∧ u2.1 = u.1 ∧ u2.2.1 = u.2.1 ∧ Rel u2.2.2 u.1 (c + 1)
theorem Rel_x {C : q_S} {n : Nat → Nat} {c : Nat} {x : Int} (h : Rel C n c) : Rel (q_up C 5 0 0 x) n (c + 1) := Rel_cg (fun kd s i hk => by rw [q_ua, if_neg (fun q => hk (Or.inr ⟨q.1, q.2.1⟩))]) (Nat.le_succ c) h
theorem Rel_x50 {C : q_S} {n : Nat → Nat} {c : Nat} {x y : Int} (h : Rel C n c) : Rel (q_up (q_up C 50 0 0 y) 5 0 0 x) n (c + 1) := Rel_cg (fun kd s i hk => by rw [q_ua, if_neg (fun q => hk (Or.inr ⟨q.1, q.2.1⟩)), q_ua, if_neg (fun q => hk (Or.inl q.1))]) (Nat.le_succ c) h
theorem Res_x {C : q_S} {n : Nat → Nat} {ad : Nat → Nat → Nat} {c : Nat} {P : Int → Prop} {e : Int} (h : Rel C n c) (he : 1 ≤ e ∧ e ≤ 3) : Res c (iI e) P (n, ad, C) (n, ad, q_up C 5 0 0 e) := ⟨e, by omega, rfl, rfl, fun q => by omega, rfl, rfl, Rel_x h⟩
theorem Res_r {C : q_S} {n : Nat → Nat} {ad : Nat → Nat → Nat} {c : Nat} {P : Int → Prop} {z : Int} (h : Rel C n c) (hz : P z) : Res c (iI 0) P (n, ad, q_up C 50 0 0 z) (n, ad, q_up (q_up C 50 0 0 z) 5 0 0 0) := ⟨0, by omega, rfl, rfl, fun _ => ⟨z, hz, rfl⟩, rfl, rfl, Rel_x50 h⟩

theorem o_like {C : q_S} {n : Nat → Nat} {ad : Nat → Nat → Nat} {c : Nat} {a : Int} {r : Int32} {rb : Int32} {u u2 : q_U} (h : Rel C n c) (z : gz C n)  (hp : pL_like n ad C a r u) (hm : tX5_like u.1 u.2.1 u.2.2 a rb u2) : Res c r (fun z => R32 z ∧ rb = iI z) u u2 := by
  obtain ⟨h1, ha, h2, h3, h3a, h4, h4a, h4c, h5, h6, h42, h41, h24, h25, h7, h7a, h8⟩ := id h
  rcases hp with ⟨v, z0, hz0, ⟨ca, rfl, ce⟩, rfl, rfl⟩ | ⟨⟨-, cx⟩, rfl, rfl⟩
  · rcases hm with ⟨ma, rfl, rfl⟩ | ⟨ma, rfl, rfl⟩
    · refine ⟨0, by omega, rfl, rfl, fun _ => ⟨z0, ⟨hz0, ?_⟩, rfl⟩, rfl, rfl, ?_⟩
      · show iI (C 5 29 0) = iI z0
        rw [ce, h1.2.2.2.2.2]
      · refine ⟨?_, ga_cg (n := n) (by repeat (first | exact (fun _ _ _ _ => rfl) | refine q_upr rfl ?_)) rfl rfl rfl ha, g2_cg (n := n) (by repeat (first | exact (fun _ _ _ _ => rfl) | refine q_upr rfl ?_)) rfl (Nat.le_succ c) h2, g3_cg (n := n) (by repeat (first | exact (fun _ _ _ _ => rfl) | refine q_upr rfl ?_)) rfl h3, g3a_cg (by repeat (first | exact (fun _ _ _ _ => rfl) | refine q_upr rfl ?_)) (Nat.le_succ c) h3a, g4_cg (n := n) (by repeat (first | exact (fun _ _ _ _ => rfl) | refine q_upr rfl ?_)) rfl (Nat.le_refl _) h4, g4a_cg (by repeat (first | exact (fun _ _ _ _ => rfl) | refine q_upr rfl ?_))  h4a, g4c_cg (n := n) (by repeat (first | exact (fun _ _ _ _ => rfl) | refine q_upr rfl ?_)) rfl rfl h4c, g5_cg (n := n) (by repeat (first | exact (fun _ _ _ _ => rfl) | refine q_upr rfl ?_)) (Nat.le_refl _) rfl h5, g6_cg (n := n) (by repeat (first | exact (fun _ _ _ _ => rfl) | refine q_upr rfl ?_)) rfl h6, g42_cg (by repeat (first | exact (fun _ _ _ _ => rfl) | refine q_upr rfl ?_))  h42, g41_cg (n := n) (by repeat (first | exact (fun _ _ _ _ => rfl) | refine q_upr rfl ?_)) (Nat.le_refl _) h41, g24_cg (by repeat (first | exact (fun _ _ _ _ => rfl) | refine q_upr rfl ?_))  h24, g25_cg (by repeat (first | exact (fun _ _ _ _ => rfl) | refine q_upr rfl ?_))  h25, g7_cg (by repeat (first | exact (fun _ _ _ _ => rfl) | refine q_upr rfl ?_)) (Nat.le_succ c) h7, g7a_cg (by repeat (first | exact (fun _ _ _ _ => rfl) | refine q_upr rfl ?_))  h7a, g8_cg (n := n) (by repeat (first | exact (fun _ _ _ _ => rfl) | refine q_upr rfl ?_)) (fun _ _ => rfl) h8⟩
        exact ⟨h1.1, h1.2.1, h1.2.2.1, ⟨h1.2.2.2.1.1, Nat.le_succ_of_le h1.2.2.2.1.2⟩, h1.2.2.2.2.1, rfl⟩
    · exact absurd ca ma
  · rcases hm with ⟨ma, rfl, rfl⟩ | ⟨ma, rfl, rfl⟩
    · exact absurd ma cx
    · exact Res_x h (by decide)
theorem o_hold {C : q_S} {n : Nat → Nat} {ad : Nat → Nat → Nat} {c : Nat} {a b : Int} {r : Int32} {rb : Int32} {u u2 : q_U} (h : Rel C n c) (z : gz C n) (hbit : ∀ j, C 0 5 j = 0 ∨ C 0 5 j = 1)  (hp : pL_hold n ad C a b r u) (hm : tX5_hold u.1 u.2.1 u.2.2 a b rb u2) : Res c r (fun z => R32 z ∧ rb = iI z) u u2 := by
  obtain ⟨h1, ha, h2, h3, h3a, h4, h4a, h4c, h5, h6, h42, h41, h24, h25, h7, h7a, h8⟩ := id h
  rcases hp with ⟨v, z0, hz0, ⟨ca, rfl, ce⟩, rfl, rfl⟩ | ⟨⟨-, cx⟩, rfl, rfl⟩
  · have ej : a.toNat = (a - 1).toNat + 1 := by omega
    have q := h4a (a - 1).toNat
    have R : ∀ w : Int, Rel (q_up (q_up (q_up (q_up C 0 5 (a - 1).toNat b) 50 0 0 w) 5 0 0 0) 35 a.toNat 0 b) n (c + 1) := by
      intro w
      rw [ej]
      refine ⟨g1_cg (n := n) (by repeat (first | exact (fun _ _ _ _ => rfl) | refine q_upr rfl ?_)) rfl rfl rfl rfl (Nat.le_succ c) h1, ga_cg (n := n) (by repeat (first | exact (fun _ _ _ _ => rfl) | refine q_upr rfl ?_)) rfl rfl rfl ha, g2_cg (n := n) (by repeat (first | exact (fun _ _ _ _ => rfl) | refine q_upr rfl ?_)) rfl (Nat.le_succ c) h2, g3_cg (n := n) (by repeat (first | exact (fun _ _ _ _ => rfl) | refine q_upr rfl ?_)) rfl h3, g3a_cg (by repeat (first | exact (fun _ _ _ _ => rfl) | refine q_upr rfl ?_)) (Nat.le_succ c) h3a, g4_cg (n := n) (by repeat (first | exact (fun _ _ _ _ => rfl) | refine q_upr rfl ?_)) rfl (Nat.le_refl _) h4, ?_, g4c_cg (n := n) (by repeat (first | exact (fun _ _ _ _ => rfl) | refine q_upr rfl ?_)) rfl rfl h4c, g5_cg (n := n) (by repeat (first | exact (fun _ _ _ _ => rfl) | refine q_upr rfl ?_)) (Nat.le_refl _) rfl h5, g6_cg (n := n) (by repeat (first | exact (fun _ _ _ _ => rfl) | refine q_upr rfl ?_)) rfl h6, g42_cg (by repeat (first | exact (fun _ _ _ _ => rfl) | refine q_upr rfl ?_))  h42, g41_cg (n := n) (by repeat (first | exact (fun _ _ _ _ => rfl) | refine q_upr rfl ?_)) (Nat.le_refl _) h41, g24_cg (by repeat (first | exact (fun _ _ _ _ => rfl) | refine q_upr rfl ?_))  h24, g25_cg (by repeat (first | exact (fun _ _ _ _ => rfl) | refine q_upr rfl ?_))  h25, g7_cg (by repeat (first | exact (fun _ _ _ _ => rfl) | refine q_upr rfl ?_)) (Nat.le_succ c) h7, g7a_cg (by repeat (first | exact (fun _ _ _ _ => rfl) | refine q_upr rfl ?_))  h7a, g8_cg (n := n) (by repeat (first | exact (fun _ _ _ _ => rfl) | refine q_upr rfl ?_)) (fun _ _ => rfl) h8⟩
      intro j
      simp only [q_ua, Nat.reduceEqDiff, false_and, and_false, true_and, and_true, ↓reduceIte, Nat.succ_ne_self, Nat.add_right_cancel_iff]
      refine ⟨?_, (h4a j).2⟩
      by_cases e : j = (a - 1).toNat
      · rw [if_pos e, if_pos e]
      · rw [if_neg e, if_neg e]; exact (h4a j).1
    have hb : C 35 a.toNat 0 = C 0 5 (a - 1).toNat := by rw [ej]; exact q.1
    rcases hm with ⟨ma, mb, rfl, rfl⟩ | ⟨ma, mb, rfl, rfl⟩ | ⟨ma, rfl, rfl⟩
    · refine ⟨0, by omega, rfl, rfl, fun _ => ⟨z0, ⟨hz0, ?_⟩, rfl⟩, rfl, rfl, R _⟩
      rw [ce, ← hb]; exact congrArg iI (show (0 : Int) = C 35 a.toNat 0 from (show C 35 a.toNat 0 = 0 from mb).symm)
    · refine ⟨0, by omega, rfl, rfl, fun _ => ⟨z0, ⟨hz0, ?_⟩, rfl⟩, rfl, rfl, R _⟩
      rw [ce, ← hb]
      have mb : ¬ C 35 a.toNat 0 = 0 := mb
      have : C 35 a.toNat 0 = 1 := by have := hbit (a - 1).toNat; rw [hb] at mb ⊢; omega
      rw [this]
    · exact absurd (show 1 ≤ a ∧ a ≤ C 5 10 0 by rw [h1.2.2.1.1]; exact ca) ma
  · rcases hm with ⟨ma, mb, rfl, rfl⟩ | ⟨ma, mb, rfl, rfl⟩ | ⟨ma, rfl, rfl⟩
    · exact absurd (show 1 ≤ a ∧ a ≤ (n 0 : Int) by rw [← h1.2.2.1.1]; exact ma) cx
    · exact absurd (show 1 ≤ a ∧ a ≤ (n 0 : Int) by rw [← h1.2.2.1.1]; exact ma) cx
    · exact Res_x h (by decide)
theorem o_account {C : q_S} {n : Nat → Nat} {ad : Nat → Nat → Nat} {c : Nat} {a b : Int} {r : Int32} {rb : Int64} {u u2 : q_U} (h : Rel C n c) (z : gz C n)  (hp : pL_account n ad C a b r u) (hm : tX5_account u.1 u.2.1 u.2.2 a b rb u2) : Res c r (fun z => R64 z ∧ rb = jI z) u u2 := by
  obtain ⟨h1, ha, h2, h3, h3a, h4, h4a, h4c, h5, h6, h42, h41, h24, h25, h7, h7a, h8⟩ := id h
  have et := h1.2.1.1
  rcases hp with ⟨v, z0, hz0, hv, rfl, rfl⟩ | ⟨hx, rfl, rfl⟩ | ⟨hx, rfl, rfl⟩
  · obtain ⟨ca, hb, ce, rfl⟩ : (1 ≤ a ∧ a ≤ (n 3 : Int)) ∧ (0 ≤ b ∧ b ≤ 3) ∧ jI z0 = jI (C 3 (2 + b.toNat) (a - 1).toNat) ∧ v = (n, ad, C) := by
      rcases hv with ⟨ca, rfl, hu, hr⟩ | ⟨ca, -, rfl, hu, hr⟩ | ⟨ca, -, -, rfl, hu, hr⟩ | ⟨ca, -, -, -, rfl, hu, hr⟩ <;> exact ⟨ca, by decide, hr, hu⟩
    have q := h3a (a - 1).toNat b.toNat (by omega)
    rcases hm with ⟨ma, mb, rfl, rfl⟩ | ⟨ma, mb, rfl, rfl⟩ | ⟨ma, rfl, rfl⟩
    · refine Res_r h ⟨hz0, ?_⟩
      rw [ce, ← q.1]
      have : (4 * a - 4 + b).toNat = 4 * (a - 1).toNat + b.toNat := by omega
      rw [this]; rfl
    · exact absurd hb mb
    · exact absurd (show 1 ≤ a ∧ a ≤ C 5 6 0 by omega) ma
  · have cx : ¬ (1 ≤ a ∧ a ≤ (n 3 : Int)) := by
      rcases hx with ⟨-, cx⟩ | ⟨q, -⟩
      · exact cx
      · exact absurd q (by decide)
    rcases hm with ⟨ma, mb, rfl, rfl⟩ | ⟨ma, mb, rfl, rfl⟩ | ⟨ma, rfl, rfl⟩
    · exact absurd (show 1 ≤ a ∧ a ≤ (n 3 : Int) by rw [← et]; exact ma) cx
    · exact absurd (show 1 ≤ a ∧ a ≤ (n 3 : Int) by rw [← et]; exact ma) cx
    · exact Res_x h (by decide)
  · have cx : (1 ≤ a ∧ a ≤ (n 3 : Int)) ∧ ¬ (0 ≤ b ∧ b ≤ 3) := by
      rcases hx with ⟨q, -⟩ | ⟨-, cx⟩
      · exact absurd q (by decide)
      · exact ⟨cx.1, by omega⟩
    rcases hm with ⟨ma, mb, rfl, rfl⟩ | ⟨ma, mb, rfl, rfl⟩ | ⟨ma, rfl, rfl⟩
    · exact absurd mb cx.2
    · exact Res_x h (by decide)
    · exact absurd (show 1 ≤ a ∧ a ≤ C 5 6 0 by rw [et]; exact cx.1) ma
