/-- the model's arrays of a state that differs in the class's half alone, or in what isn't spoken of -/
def Like (D C : q_S) : Prop := (∀ kd s, 20 ≤ kd → kd < 50 → D kd s 0 = C kd s 0) ∧ ∀ s, ¬ s = 0 → D 5 s 0 = C 5 s 0
theorem Rel.pj {C : q_S} {n : Nat → Nat} {c : Nat} (h : Rel C n c) {k : Nat} (hk : k < n 1) : ∃ j, j < n 0 ∧ C 1 0 k = (j : Int) + 1 ∧ C 38 k 0 = (j : Int) + 1 ∧ c_job C k = j := by
  obtain ⟨h1, ha, h2, h3, h3a, h4, h4a, h4c, h5, h6, h42, h41, h24, h25, h7, h7a, h8⟩ := h
  have q := h5 k
  have q2 := (q.2.2.2 hk).1
  refine ⟨(C 1 0 k - 1).toNat, by omega, by omega, by rw [q.1]; omega, rfl⟩
theorem Rel.jt {C : q_S} {n : Nat → Nat} {c : Nat} (h : Rel C n c) {j : Nat} (hj : j < n 0) : ∃ t, t < n 3 ∧ C 0 1 j = (t : Int) + 1 ∧ C 31 (j + 1) 0 = (t : Int) + 1 ∧ c_tik C j = t := by
  obtain ⟨h1, ha, h2, h3, h3a, h4, h4a, h4c, h5, h6, h42, h41, h24, h25, h7, h7a, h8⟩ := h
  have q := h4.2 j
  have q2 := (q.2.2.2.2 hj).1
  refine ⟨(C 0 1 j - 1).toNat, by omega, by omega, by rw [q.1]; omega, rfl⟩
theorem Rel.fits {C D : q_S} {n : Nat → Nat} {c : Nat} (h : Rel C n c) (hD : Like D C) {k p : Nat} (hk : k < n 1) (hp : p < n 2) : m_fits D k ((p : Int) + 1) ↔ c_fits C p k := by
  obtain ⟨j, hj, e1, e2, e3⟩ := h.pj hk
  obtain ⟨t, ht, e4, e5, e6⟩ := h.jt hj
  obtain ⟨h1, ha, h2, h3, h3a, h4, h4a, h4c, h5, h6, h42, h41, h24, h25, h7, h7a, h8⟩ := h
  unfold m_fits c_fits
  rw [e3, e6, hD.1 38 k (by decide) (by decide), e2, show ((j : Int) + 1).toNat = j + 1 by omega, hD.1 31 (j + 1) (by decide) (by decide), e5, show ((t : Int) + 1).toNat = t + 1 by omega, hD.1 28 (t + 1) (by decide) (by decide), (h3 t).2.1,
    show ((p : Int) + 1).toNat = p + 1 by omega, hD.1 23 (p + 1) (by decide) (by decide), (h2.2 p).2.1, hD.1 40 k (by decide) (by decide), (h5 k).2.2.1, (h2.2 p).2.2.2.2.2 hp]
theorem Rel.over {C D : q_S} {n : Nat → Nat} {c : Nat} (h : Rel C n c) (hD : Like D C) {k : Nat} (hk : k < n 1) : m_over D k ↔ C 1 4 k = C 1 2 k := by
  obtain ⟨j, hj, e1, e2, e3⟩ := h.pj hk
  obtain ⟨h1, ha, h2, h3, h3a, h4, h4a, h4c, h5, h6, h42, h41, h24, h25, h7, h7a, h8⟩ := h
  have q6 := h6 k hk
  have q4 := ((h4.2 j).2.2.2.2 hj).2.1
  rw [e3] at q6
  unfold m_over
  rw [hD.1 42 k (by decide) (by decide), h42 k, e3, hD.1 39 k (by decide) (by decide), (h5 k).2.1, hD.1 38 k (by decide) (by decide), e2, show ((j : Int) + 1).toNat = j + 1 by omega, hD.1 32 (j + 1) (by decide) (by decide), (h4.2 j).2.1]
  constructor
  · intro q
    rcases Int.lt_or_le (C 1 4 k) (C 1 2 k) with q1 | q1
    · have m3 : (C 1 4 k + 1) * C 0 2 j ≤ C 1 2 k * C 0 2 j := Int.mul_le_mul_of_nonneg_right (by omega) (by omega)
      rw [Int.add_mul, Int.one_mul] at m3
      omega
    · omega
  · intro q
    rw [q6.2.2.2.2.1 q, q]
    omega
theorem m_prn_iff (D : q_S) (a : Int) (m : Nat) : ¬ m_prn D a m = 0 ↔ ∃ k, k < m ∧ D 38 k 0 = a ∧ 0 < D 41 k 0 := by
  induction m with
  | zero => exact ⟨fun q => absurd rfl q, fun ⟨k, q, _⟩ => by omega⟩
  | succ m ih =>
    rw [m_prn]
    constructor
    · intro q
      by_cases e : D 38 m 0 = a
      · rw [if_pos e] at q
        by_cases e2 : 0 < D 41 m 0
        · exact ⟨m, by omega, e, e2⟩
        · by_cases e3 : m_prn D a m = 0
          · rw [if_neg (by omega)] at q; exact absurd rfl q
          · obtain ⟨k, k1, k2⟩ := ih.mp e3; exact ⟨k, by omega, k2⟩
      · rw [if_neg e] at q
        obtain ⟨k, k1, k2⟩ := ih.mp q; exact ⟨k, by omega, k2⟩
    · rintro ⟨k, k1, k2, k3⟩
      by_cases e : D 38 m 0 = a
      · rw [if_pos e]
        by_cases ek : k = m
        · subst ek; rw [if_pos (Or.inr k3)]; omega
        · rw [if_pos (Or.inl (ih.mpr ⟨k, by omega, k2, k3⟩))]; omega
      · rw [if_neg e]
        exact ih.mpr ⟨k, by have : ¬ k = m := fun q => e (q ▸ k2); omega, k2, k3⟩
theorem m_ovr_iff (D : q_S) (a : Int) (m : Nat) : ¬ m_ovr D a m = 0 ↔ ∀ k, k < m → D 38 k 0 = a → m_over D k := by
  induction m with
  | zero => exact ⟨fun _ k q => by omega, fun _ q => by rw [m_ovr] at q; omega⟩
  | succ m ih =>
    rw [m_ovr]
    constructor
    · intro q k hk e
      by_cases em : D 38 m 0 = a
      · rw [if_pos em] at q
        by_cases e2 : ¬ m_ovr D a m = 0 ∧ m_over D m
        · by_cases ek : k = m
          · subst ek; exact e2.2
          · exact ih.mp e2.1 k (by omega) e
        · rw [if_neg e2] at q; exact absurd rfl q
      · rw [if_neg em] at q
        exact ih.mp q k (by have : ¬ k = m := fun q => em (q ▸ e); omega) e
    · intro q
      by_cases em : D 38 m 0 = a
      · rw [if_pos em, if_pos ⟨ih.mpr (fun k hk => q k (by omega)), q m (by omega) em⟩]; omega
      · rw [if_neg em]; exact ih.mpr (fun k hk => q k (by omega))
theorem Rel.st {C D : q_S} {n : Nat → Nat} {c : Nat} (h : Rel C n c) (hD : Like D C) {j : Nat} (hj : j < n 0) : m_st D ((j : Int) + 1) = c_con C n j := by
  have hov := fun k hk => h.over hD (k := k) hk
  obtain ⟨h1, ha, h2, h3, h3a, h4, h4a, h4c, h5, h6, h42, h41, h24, h25, h7, h7a, h8⟩ := id h
  have e17 : (D 5 17 0).toNat = n 1 := by rw [hD.2 17 (by decide), h1.2.2.2.1.1]; omega
  have p1 : ¬ m_prn D ((j : Int) + 1) (n 1) = 0 ↔ c_hs C n j 1 := by
    rw [m_prn_iff]
    constructor
    · rintro ⟨k, k1, k2, k3⟩
      rw [hD.1 38 k (by decide) (by decide), (h5 k).1] at k2
      rw [hD.1 41 k (by decide) (by decide)] at k3
      refine ⟨k, k1, k2, ?_⟩
      by_cases e : C 1 3 k = 1
      · exact e
      · have := (h41 k).2 e; omega
    · rintro ⟨k, k1, k2, k3⟩
      refine ⟨k, k1, by rw [hD.1 38 k (by decide) (by decide), (h5 k).1]; exact k2, ?_⟩
      rw [hD.1 41 k (by decide) (by decide)]
      have := (h41 k).1 k3; omega
  unfold m_st c_con
  rw [e17, show ((j : Int) + 1).toNat = j + 1 by omega, hD.1 36 (j + 1) (by decide) (by decide), (h4a j).2]
  by_cases e6 : C 0 6 j = 0
  · have nn : ¬ ¬ C 0 6 j = 0 := fun q => q e6
    rw [if_neg nn, if_neg nn]
    by_cases e1 : c_hs C n j 1
    · rw [if_pos (p1.mpr e1), if_pos e1]
    · rw [if_neg (fun q => e1 (p1.mp q)), if_neg e1]
      by_cases e0 : c_hs C n j 0
      · rw [if_pos e0, if_neg]
        rw [m_ovr_iff]
        intro q
        obtain ⟨k, k1, k2, k3⟩ := e0
        have q2 := (hov k k1).mp (q k k1 (by rw [hD.1 38 k (by decide) (by decide), (h5 k).1]; exact k2))
        have := (h6 k k1).2.2.2.2.2.1 (by omega)
        omega
      · rw [if_neg e0, if_pos]
        rw [m_ovr_iff]
        intro k k1 k2
        rw [hD.1 38 k (by decide) (by decide), (h5 k).1] at k2
        refine (hov k k1).mpr ?_
        have q6 := h6 k k1
        have n0 : ¬ C 1 3 k = 0 := fun q => e0 ⟨k, k1, k2, q⟩
        have n1 : ¬ C 1 3 k = 1 := fun q => e1 ⟨k, k1, k2, q⟩
        refine q6.2.2.2.2.2.2 (by omega) ?_
        unfold c_job
        rw [k2, show ((j : Int) + 1 - 1).toNat = j by omega]
        exact e6
  · rw [if_pos e6, if_pos e6]
theorem divP {w P x : Int} (hP : 1 ≤ P) (hx : 0 ≤ x ∧ x < P) : (w * P + x) / P = w ∧ (w * P + x) % P = x := by
  constructor
  · rw [Int.add_comm, Int.add_mul_ediv_right x w (by omega), Int.ediv_eq_zero_of_lt hx.1 hx.2]; omega
  · rw [Int.add_comm, Int.add_mul_emod_self_right, Int.emod_eq_of_lt hx.1 hx.2]
theorem Rel.sum {C D : q_S} {n : Nat → Nat} {c : Nat} (h : Rel C n c) (hD : Like D C) {j : Nat} (hj : j < n 0) : ∀ m, m ≤ n 1 → m_sum D ((j : Int) + 1) 1 m = c_acc C j (fun k => C 1 4 k * C 0 2 j + C 1 5 k) m ∧ m_sum D ((j : Int) + 1) 2 m = c_acc C j (fun k => C 1 4 k) m ∧ m_sum D ((j : Int) + 1) 3 m = c_acc C j (fun _ => 1) m := by
  obtain ⟨h1, ha, h2, h3, h3a, h4, h4a, h4c, h5, h6, h42, h41, h24, h25, h7, h7a, h8⟩ := id h
  intro m
  induction m with
  | zero => intro _; exact ⟨rfl, rfl, rfl⟩
  | succ m ih =>
    intro hm
    obtain ⟨i1, i2, i3⟩ := ih (by omega)
    rw [m_sum, m_sum, m_sum, c_acc, c_acc, c_acc, i1, i2, i3, hD.1 38 m (by decide) (by decide), (h5 m).1]
    by_cases e : C 1 0 m = (j : Int) + 1
    · rw [if_pos e, if_pos e, if_pos e, if_pos e, if_pos e, if_pos e, if_pos rfl, if_neg (by decide), if_pos rfl, if_neg (by decide), if_neg (by decide), hD.1 42 m (by decide) (by decide), h42 m, show ((j : Int) + 1).toNat = j + 1 by omega, hD.1 32 (j + 1) (by decide) (by decide), (h4.2 j).2.1]
      have ej : c_job C m = j := by unfold c_job; omega
      rw [ej]
      have q6 := (h6 m (by omega)).2.2.2.1
      rw [ej] at q6
      rw [(divP ((h4.2 j).2.2.2.2 hj).2.1.1 q6).1]
      exact ⟨rfl, rfl, rfl⟩
    · rw [if_neg e, if_neg e, if_neg e, if_neg e, if_neg e, if_neg e]
      exact ⟨rfl, rfl, rfl⟩
theorem Like50 (C : q_S) (x : Int) : Like (q_up C 50 0 0 x) C := ⟨fun kd s q1 q2 => by rw [q_ua, if_neg (by omega)], fun s _ => rfl⟩
theorem Like55 (C : q_S) (x y : Int) : Like (q_up (q_up C 50 0 0 x) 5 0 0 y) C := ⟨fun kd s q1 q2 => by rw [q_ua, if_neg (by omega), q_ua, if_neg (by omega)], fun s hs => by rw [q_ua, if_neg (fun q => hs q.2.1)]; rfl⟩

theorem o_state {C : q_S} {n : Nat → Nat} {ad : Nat → Nat → Nat} {c : Nat} {a b : Int} {r : Int32} {rb : Int32} {u u2 : q_U} (h : Rel C n c) (z : gz C n) (hbit : ∀ j, C 0 5 j = 0 ∨ C 0 5 j = 1) (hp : pL_state n ad C a b r u) (hm : tX5_state u.1 u.2.1 u.2.2 a b rb u2) : Res c r (fun z => R32 z ∧ rb = iI z) u u2 := by
  obtain ⟨h1, ha, h2, h3, h3a, h4, h4a, h4c, h5, h6, h42, h41, h24, h25, h7, h7a, h8⟩ := id h
  have e1 := h1.2.2.1.1
  have e17 : (C 5 17 0).toNat = n 1 := by rw [h1.2.2.2.1.1]; omega
  rcases hp with ⟨v, z0, hz0, hv, rfl, rfl⟩ | ⟨hx, rfl, rfl⟩ | ⟨hx, rfl, rfl⟩
  · obtain ⟨ca, cb, rfl⟩ : (1 ≤ a ∧ a ≤ (n 0 : Int)) ∧ (0 ≤ b ∧ b ≤ 4) ∧ v = (n, ad, C) := by
      rcases hv with ⟨q1, rfl, q2, -⟩ | ⟨q1, -, rfl, q2, -⟩ | ⟨q1, -, -, rfl, q2, -⟩ | ⟨q1, -, -, -, rfl, q2, -⟩ | ⟨q1, -, -, -, -, rfl, q2, -⟩ <;> exact ⟨q1, by decide, q2⟩
    obtain ⟨j, rfl⟩ : ∃ j : Nat, a = (j : Int) + 1 := ⟨(a - 1).toNat, by omega⟩
    have hj : j < n 0 := by omega
    have ej : ((j : Int) + 1 - 1).toNat = j := by omega
    have ej1 : ((j : Int) + 1).toNat = j + 1 := by omega
    unfold tX4_state at hv
    rw [ej] at hv
    have L0 := Like50 C z0
    have hs := h.sum L0 hj (n 1) (Nat.le_refl _)
    rcases hm with ⟨ma, mb, mc, md, rfl, rfl⟩ | ⟨ma, mb, mc, md, me, rfl, rfl⟩ | ⟨ma, mb, mc, md, me, rfl, rfl⟩ | ⟨ma, mb, mc, rfl, rfl⟩ | ⟨ma, mb, rfl, rfl⟩ | ⟨ma, rfl, rfl⟩
    · refine Res_r h ⟨hz0, ?_⟩
      show iI (m_sum (q_up C 50 0 0 z0) ((j : Int) + 1) b (C 5 17 0).toNat) = iI z0
      rw [e17]
      rcases hv with ⟨q1, q3, q2, q4⟩ | ⟨q1, -, q3, q2, q4⟩ | ⟨q1, -, -, q3, q2, q4⟩ | ⟨q1, -, -, -, q3, q2, q4⟩ | ⟨q1, -, -, -, -, q3, q2, q4⟩
      · exact absurd q3 mc
      · rw [q3, q4, hs.1]
      · rw [q3, q4, hs.2.1]
      · rw [q3, q4, hs.2.2]
      · exact absurd q3 md
    · refine Res_r h ⟨hz0, ?_⟩
      have me : C 35 ((j : Int) + 1).toNat 0 = 0 := me
      rw [ej1, (h4a j).1] at me
      rcases hv with ⟨q1, q3, q2, q4⟩ | ⟨q1, -, q3, q2, q4⟩ | ⟨q1, -, -, q3, q2, q4⟩ | ⟨q1, -, -, -, q3, q2, q4⟩ | ⟨q1, -, -, -, -, q3, q2, q4⟩
      · omega
      · omega
      · omega
      · omega
      · rw [q4, me]
    · refine Res_r h ⟨hz0, ?_⟩
      have me : ¬ C 35 ((j : Int) + 1).toNat 0 = 0 := me
      rw [ej1, (h4a j).1] at me
      rcases hv with ⟨q1, q3, q2, q4⟩ | ⟨q1, -, q3, q2, q4⟩ | ⟨q1, -, -, q3, q2, q4⟩ | ⟨q1, -, -, -, q3, q2, q4⟩ | ⟨q1, -, -, -, -, q3, q2, q4⟩
      · omega
      · omega
      · omega
      · omega
      · rw [q4, show C 0 5 j = 1 by have := hbit j; omega]
    · refine Res_r h ⟨hz0, ?_⟩
      have mc : b = 0 := mc
      rcases hv with ⟨q1, q3, q2, q4⟩ | ⟨q1, q0, q3, q2, q4⟩ | ⟨q1, q0, -, q3, q2, q4⟩ | ⟨q1, q0, -, -, q3, q2, q4⟩ | ⟨q1, q0, -, -, -, q3, q2, q4⟩
      · rw [q4]
        exact congrArg iI (h.st (Like55 C z0 0) hj)
      · exact absurd mc q0
      · exact absurd mc q0
      · exact absurd mc q0
      · exact absurd mc q0
    · exact absurd cb mb
    · exact absurd (show 1 ≤ (j : Int) + 1 ∧ (j : Int) + 1 ≤ C 5 10 0 by omega) ma
  · have cx : ¬ (1 ≤ a ∧ a ≤ (n 0 : Int)) := by
      rcases hx with ⟨-, cx⟩ | ⟨q, -⟩
      · exact cx
      · exact absurd q (by decide)
    have cx2 : ¬ (1 ≤ a ∧ a ≤ C 5 10 0) := by omega
    rcases hm with ⟨ma, -⟩ | ⟨ma, -⟩ | ⟨ma, -⟩ | ⟨ma, -⟩ | ⟨ma, -⟩ | ⟨ma, rfl, rfl⟩
    · exact absurd ma cx2
    · exact absurd ma cx2
    · exact absurd ma cx2
    · exact absurd ma cx2
    · exact absurd ma cx2
    · exact Res_x h (by decide)
  · have cx : (1 ≤ a ∧ a ≤ (n 0 : Int)) ∧ ¬ (0 ≤ b ∧ b ≤ 4) := by
      rcases hx with ⟨q, -⟩ | ⟨-, cx⟩
      · exact absurd q (by decide)
      · exact ⟨cx.1, by omega⟩
    rcases hm with ⟨ma, mb, -⟩ | ⟨ma, mb, -⟩ | ⟨ma, mb, -⟩ | ⟨ma, mb, -⟩ | ⟨ma, mb, rfl, rfl⟩ | ⟨ma, rfl, rfl⟩
    · exact absurd mb cx.2
    · exact absurd mb cx.2
    · exact absurd mb cx.2
    · exact absurd mb cx.2
    · exact Res_x h (by decide)
    · exact absurd (show 1 ≤ a ∧ a ≤ C 5 10 0 by omega) ma
