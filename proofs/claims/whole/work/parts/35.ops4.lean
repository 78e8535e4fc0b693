theorem Rel.dn {C D : q_S} {n : Nat → Nat} {c : Nat} (h : Rel C n c) (hD : Like D C) (a : Int) (m : Nat) : m_dn D a m = c_dn C a m := by
  have h7a := h.2.2.2.2.2.2.2.2.2.2.2.2.2.2.2.1
  induction m with
  | zero => rfl
  | succ m ih => rw [m_dn, c_dn, ih, hD.1 46 m (by decide) (by decide), (h7a m).1]
theorem c_dn_mono (C : q_S) (a : Int) {k m : Nat} (hk : k ≤ m) : c_dn C a k ≤ c_dn C a m := by
  obtain ⟨d, rfl⟩ : ∃ d, m = k + d := ⟨m - k, by omega⟩
  clear hk
  induction d with
  | zero => exact Int.le_refl _
  | succ d ih => rw [← Nat.add_assoc, c_dn]; split <;> omega
theorem Rel.dt_n {C D : q_S} {n : Nat → Nat} {c : Nat} (h : Rel C n c) (hD : Like D C) (a b : Int) (m : Nat) (hno : ∀ k, k < m → C 9 k 0 = a → ¬ c_dn C a k = b) : m_dt D a b m = -1 := by
  have h7a := h.2.2.2.2.2.2.2.2.2.2.2.2.2.2.2.1
  induction m with
  | zero => rfl
  | succ m ih =>
    rw [m_dt, if_neg, ih (fun k hk => hno k (by omega))]
    rintro ⟨q1, q2⟩
    rw [hD.1 46 m (by decide) (by decide), (h7a m).1] at q1
    rw [h.dn hD] at q2
    exact hno m (by omega) q1 q2
theorem Rel.dt_y {C D : q_S} {n : Nat → Nat} {c : Nat} (h : Rel C n c) (hD : Like D C) (a b : Int) (m : Nat) {k : Nat} (hk : k < m) (e1 : C 9 k 0 = a) (e2 : c_dn C a k = b) : m_dt D a b m = C 10 k 0 := by
  have h7a := h.2.2.2.2.2.2.2.2.2.2.2.2.2.2.2.1
  induction m with
  | zero => omega
  | succ m ih =>
    rw [m_dt, hD.1 46 m (by decide) (by decide), (h7a m).1, h.dn hD, hD.1 47 m (by decide) (by decide), (h7a m).2.1]
    by_cases e : k = m
    · subst e; rw [if_pos ⟨e1, e2⟩]
    · rw [if_neg, ih (by omega)]
      rintro ⟨q1, q2⟩
      have := c_dn_mono C a (k := k + 1) (m := m) (by omega)
      rw [c_dn, if_pos e1] at this
      omega
theorem o_doubled {C : q_S} {n : Nat → Nat} {ad : Nat → Nat → Nat} {c : Nat} {a b : Int} {r : Int32} {rb : Int32} {u u2 : q_U} (h : Rel C n c) (z : gz C n)  (hp : pL_doubled n ad C a b r u) (hm : tX5_doubled u.1 u.2.1 u.2.2 a b rb u2) : Res c r (fun z => R32 z ∧ rb = iI z) u u2 := by
  obtain ⟨h1, ha, h2, h3, h3a, h4, h4a, h4c, h5, h6, h42, h41, h24, h25, h7, h7a, h8⟩ := id h
  have e1 := h1.2.2.1.1
  have e25 : (C 5 25 0).toNat = (C 4 8 0).toNat := by rw [h7.1]
  rcases hp with ⟨v, z0, hz0, hv, rfl, rfl⟩ | ⟨hx, rfl, rfl⟩ | ⟨hx, rfl, rfl⟩
  · have ca : 1 ≤ a ∧ a ≤ (n 0 : Int) := by
      rcases hv with ⟨q, -⟩ | ⟨k, q, -⟩ <;> exact q
    have e0 : C 0 0 (a - 1).toNat = a := by have := ((h4.2 (a - 1).toNat).2.2.2.2 (by omega)).2.2.2.2; omega
    unfold tX4_doubled at hv
    rw [e0] at hv
    rcases hv with ⟨-, cn, cb, rfl, ce⟩ | ⟨k, -, ck, c1, c2, rfl, ce⟩
    · rcases hm with ⟨ma, mb, mc, rfl, rfl⟩ | ⟨ma, mb, mc, rfl, rfl⟩ | ⟨ma, mb, rfl, rfl⟩ | ⟨ma, rfl, rfl⟩
      · exact absurd cb mb
      · exact absurd cb mb
      · refine Res_r h ⟨hz0, ?_⟩
        show iI (m_dn (q_up C 50 0 0 z0) a (C 5 25 0).toNat) = iI z0
        rw [e25, h.dn (Like50 C z0), ce]
      · exact absurd (show 1 ≤ a ∧ a ≤ C 5 10 0 by omega) ma
    · have hd := h.dt_y (Like50 C z0) a b (C 4 8 0).toNat (k := k) (by omega) c1 c2
      have hb := c_dn_b C a k
      have h47 := (h7a k).2.2
      rcases hm with ⟨ma, mb, mc, rfl, rfl⟩ | ⟨ma, mb, mc, rfl, rfl⟩ | ⟨ma, mb, rfl, rfl⟩ | ⟨ma, rfl, rfl⟩
      · refine ⟨0, by omega, rfl, rfl, fun _ => ⟨z0, ⟨hz0, ?_⟩, rfl⟩, rfl, rfl, ?_⟩
        · show iI (m_dt (q_up C 50 0 0 z0) a b (C 5 25 0).toNat) = iI z0
          rw [e25, hd, ce]
        · exact Rel_cg (fun kd s i hk => by dsimp only; rw [q_ua, if_neg (fun q => hk (Or.inr ⟨q.1, q.2.1⟩)), q_ua, if_neg (fun q => hk (Or.inr ⟨q.1, q.2.1⟩)), q_ua, if_neg (fun q => hk (Or.inl q.1))]) (Nat.le_succ c) h
      · have mc : m_dt (q_up C 50 0 0 z0) a b (C 5 25 0).toNat = -1 := mc
        rw [e25, hd] at mc
        omega
      · have mb : b = -1 := mb
        omega
      · exact absurd (show 1 ≤ a ∧ a ≤ C 5 10 0 by omega) ma
  · have cx : ¬ (1 ≤ a ∧ a ≤ (n 0 : Int)) := by
      rcases hx with ⟨-, cx⟩ | ⟨q, -⟩
      · exact cx
      · exact absurd q (by decide)
    have cx2 : ¬ (1 ≤ a ∧ a ≤ C 5 10 0) := by omega
    rcases hm with ⟨ma, -⟩ | ⟨ma, -⟩ | ⟨ma, -⟩ | ⟨ma, rfl, rfl⟩
    · exact absurd ma cx2
    · exact absurd ma cx2
    · exact absurd ma cx2
    · exact Res_x h (by decide)
  · have cx : (1 ≤ a ∧ a ≤ (n 0 : Int)) ∧ (∀ z : Nat, z < (C 4 8 0).toNat → C 9 z 0 = C 0 0 (a - 1).toNat → ¬ (c_dn C (C 0 0 (a - 1).toNat) z) = b) ∧ ¬ b = -1 := by
      rcases hx with ⟨q, -⟩ | ⟨-, cx⟩
      · exact absurd q (by decide)
      · exact cx
    have e0 : C 0 0 (a - 1).toNat = a := by have := ((h4.2 (a - 1).toNat).2.2.2.2 (by omega)).2.2.2.2; omega
    rw [e0] at cx
    have hd := h.dt_n (D := C) ⟨fun _ _ _ _ => rfl, fun _ _ => rfl⟩ a b (C 4 8 0).toNat cx.2.1
    rcases hm with ⟨ma, mb, mc, rfl, rfl⟩ | ⟨ma, mb, mc, rfl, rfl⟩ | ⟨ma, mb, rfl, rfl⟩ | ⟨ma, rfl, rfl⟩
    · have mc : ¬ m_dt C a b (C 5 25 0).toNat = -1 := mc
      rw [e25] at mc
      exact absurd hd mc
    · exact ⟨2, by omega, rfl, rfl, fun q => by omega, rfl, rfl, Rel_cg (fun kd s i hk => by dsimp only; rw [q_ua, if_neg (fun q => hk (Or.inr ⟨q.1, q.2.1⟩)), q_ua, if_neg (fun q => hk (Or.inr ⟨q.1, q.2.1⟩))]) (Nat.le_succ c) h⟩
    · exact absurd mb cx.2.2
    · exact absurd (show 1 ≤ a ∧ a ≤ C 5 10 0 by omega) ma
theorem m_any_iff (D : q_S) (a : Int) (m : Nat) : ¬ m_any D a m = 0 ↔ ∃ k, k < m ∧ D 38 k 0 = a ∧ ¬ D 44 k 0 = 0 := by
  induction m with
  | zero => exact ⟨fun q => absurd rfl q, fun ⟨k, q, _⟩ => by omega⟩
  | succ m ih =>
    rw [m_any]
    constructor
    · intro q
      by_cases e : ¬ m_any D a m = 0 ∨ (D 38 m 0 = a ∧ ¬ D 44 m 0 = 0)
      · rcases e with e | e
        · obtain ⟨k, k1, k2⟩ := ih.mp e; exact ⟨k, by omega, k2⟩
        · exact ⟨m, by omega, e⟩
      · rw [if_neg e] at q; exact absurd rfl q
    · rintro ⟨k, k1, k2⟩
      rw [if_pos]
      · omega
      · by_cases e : k = m
        · subst e; exact Or.inr k2
        · exact Or.inl (ih.mpr ⟨k, by omega, k2⟩)
theorem m_fi_iff (D : q_S) (k : Nat) (f : Int) (q : Nat) : ¬ m_fi D k f q = 0 ↔ ¬ f = 0 ∨ ∃ p, p < q ∧ m_fits D k ((p : Int) + 1) := by
  induction q with
  | zero => exact ⟨fun q => Or.inl q, fun q => q.elim id (fun ⟨p, h, _⟩ => by omega)⟩
  | succ q ih =>
    rw [m_fi]
    constructor
    · intro h
      by_cases e : ¬ m_fi D k f q = 0 ∨ m_fits D k ((q : Int) + 1)
      · rcases e with e | e
        · rcases ih.mp e with e | ⟨p, p1, p2⟩
          · exact Or.inl e
          · exact Or.inr ⟨p, by omega, p2⟩
        · exact Or.inr ⟨q, by omega, e⟩
      · rw [if_neg e] at h; exact absurd rfl h
    · intro h
      rw [if_pos]
      · omega
      · rcases h with h | ⟨p, p1, p2⟩
        · exact Or.inl (ih.mpr (Or.inl h))
        · by_cases e : p = q
          · subst e; exact Or.inr p2
          · exact Or.inl (ih.mpr (Or.inr ⟨p, by omega, p2⟩))
theorem m_fr_iff (D : q_S) (k : Nat) (f : Int) (q : Nat) : ¬ m_fr D k f q = 0 ↔ ¬ f = 0 ∨ ∃ p, p < q ∧ m_fits D k ((p : Int) + 1) ∧ D 25 (p + 1) 0 = -1 := by
  induction q with
  | zero => exact ⟨fun q => Or.inl q, fun q => q.elim id (fun ⟨p, h, _⟩ => by omega)⟩
  | succ q ih =>
    rw [m_fr]
    constructor
    · intro h
      by_cases e : ¬ m_fr D k f q = 0 ∨ (m_fits D k ((q : Int) + 1) ∧ D 25 (q + 1) 0 = -1)
      · rcases e with e | e
        · rcases ih.mp e with e | ⟨p, p1, p2⟩
          · exact Or.inl e
          · exact Or.inr ⟨p, by omega, p2⟩
        · exact Or.inr ⟨q, by omega, e⟩
      · rw [if_neg e] at h; exact absurd rfl h
    · intro h
      rw [if_pos]
      · omega
      · rcases h with h | ⟨p, p1, p2⟩
        · exact Or.inl (ih.mpr (Or.inl h))
        · by_cases e : p = q
          · subst e; exact Or.inr p2
          · exact Or.inl (ih.mpr (Or.inr ⟨p, by omega, p2⟩))
theorem m_fit_iff (D : q_S) (a : Int) (m : Nat) : ¬ m_fit D a m = 0 ↔ ∃ k, k < m ∧ (D 38 k 0 = a ∧ ¬ D 44 k 0 = 0) ∧ ∃ p, p < (D 5 1 0).toNat ∧ m_fits D k ((p : Int) + 1) := by
  induction m with
  | zero => exact ⟨fun q => absurd rfl q, fun ⟨k, q, _⟩ => by omega⟩
  | succ m ih =>
    rw [m_fit]
    by_cases e : D 38 m 0 = a ∧ ¬ D 44 m 0 = 0
    · rw [if_pos e, m_fi_iff, ih]
      constructor
      · rintro (⟨k, k1, k2⟩ | q)
        · exact ⟨k, by omega, k2⟩
        · exact ⟨m, by omega, e, q⟩
      · rintro ⟨k, k1, k2, k3⟩
        by_cases ek : k = m
        · subst ek; exact Or.inr k3
        · exact Or.inl ⟨k, by omega, k2, k3⟩
    · rw [if_neg e, ih]
      constructor
      · rintro ⟨k, k1, k2⟩
        exact ⟨k, by omega, k2⟩
      · rintro ⟨k, k1, k2, k3⟩
        exact ⟨k, by have : ¬ k = m := fun q => e (q ▸ k2); omega, k2, k3⟩
theorem m_fre_iff (D : q_S) (a : Int) (m : Nat) : ¬ m_fre D a m = 0 ↔ ∃ k, k < m ∧ (D 38 k 0 = a ∧ ¬ D 44 k 0 = 0) ∧ ∃ p, p < (D 5 1 0).toNat ∧ m_fits D k ((p : Int) + 1) ∧ D 25 (p + 1) 0 = -1 := by
  induction m with
  | zero => exact ⟨fun q => absurd rfl q, fun ⟨k, q, _⟩ => by omega⟩
  | succ m ih =>
    rw [m_fre]
    by_cases e : D 38 m 0 = a ∧ ¬ D 44 m 0 = 0
    · rw [if_pos e, m_fr_iff, ih]
      constructor
      · rintro (⟨k, k1, k2⟩ | q)
        · exact ⟨k, by omega, k2⟩
        · exact ⟨m, by omega, e, q⟩
      · rintro ⟨k, k1, k2, k3⟩
        by_cases ek : k = m
        · subst ek; exact Or.inr k3
        · exact Or.inl ⟨k, by omega, k2, k3⟩
    · rw [if_neg e, ih]
      constructor
      · rintro ⟨k, k1, k2⟩
        exact ⟨k, by omega, k2⟩
      · rintro ⟨k, k1, k2, k3⟩
        exact ⟨k, by have : ¬ k = m := fun q => e (q ▸ k2); omega, k2, k3⟩
theorem c_fp_iff (C : q_S) (j p : Nat) (m : Nat) : ¬ c_fp C j p m = 0 ↔ ∃ k, k < m ∧ C 1 0 k = (j : Int) + 1 ∧ C 1 3 k = 0 ∧ c_fits C p k := by
  constructor
  · intro q
    obtain ⟨i, -, h2, h3⟩ := c_fp_y C j p q
    exact ⟨i, h2, h3⟩
  · rintro ⟨k, k1, k2⟩
    induction m with
    | zero => omega
    | succ m ih =>
      rw [c_fp]
      by_cases e : ¬ c_fp C j p m = 0
      · rw [if_pos e]; exact e
      · rw [if_neg e]
        by_cases ek : k = m
        · subst ek; rw [if_pos k2]; omega
        · exact absurd (ih (by omega)) e
theorem c_sf_iff (C : q_S) (n : Nat → Nat) (j : Nat) (m : Nat) : ¬ c_sf C n j m = 0 ↔ ∃ p, p < m ∧ p < n 2 ∧ ¬ c_fp C j p (n 1) = 0 := by
  induction m with
  | zero => exact ⟨fun q => absurd rfl q, fun ⟨k, q, _⟩ => by omega⟩
  | succ m ih =>
    rw [c_sf]
    by_cases e : m < n 2 ∧ ¬ c_fp C j m (n 1) = 0
    · rw [if_pos e]; exact ⟨fun _ => ⟨m, by omega, e⟩, fun _ => by omega⟩
    · rw [if_neg e, ih]
      constructor
      · rintro ⟨k, k1, k2⟩; exact ⟨k, by omega, k2⟩
      · rintro ⟨k, k1, k2⟩; exact ⟨k, by have : ¬ k = m := fun q => e (q ▸ k2); omega, k2⟩
theorem Rel.wt {C D : q_S} {n : Nat → Nat} {c : Nat} (h : Rel C n c) (hD : Like D C) {k : Nat} (hk : k < n 1) (j : Nat) : (D 38 k 0 = (j : Int) + 1 ∧ ¬ D 44 k 0 = 0) ↔ (C 1 0 k = (j : Int) + 1 ∧ C 1 3 k = 0) := by
  obtain ⟨h1, ha, h2, h3, h3a, h4, h4a, h4c, h5, h6, h42, h41, h24, h25, h7, h7a, h8⟩ := id h
  rw [hD.1 38 k (by decide) (by decide), (h5 k).1, hD.1 44 k (by decide) (by decide), (h6 k hk).2.1]
  by_cases e : C 1 3 k = 0
  · rw [if_pos e]; exact ⟨fun q => ⟨q.1, e⟩, fun q => ⟨q.1, by omega⟩⟩
  · rw [if_neg e]; exact ⟨fun q => absurd rfl q.2, fun q => absurd q.2 e⟩
theorem Rel.any {C D : q_S} {n : Nat → Nat} {c : Nat} (h : Rel C n c) (hD : Like D C) (j : Nat) : ¬ m_any D ((j : Int) + 1) (n 1) = 0 ↔ c_hs C n j 0 := by
  rw [m_any_iff]
  constructor
  · rintro ⟨k, k1, k2⟩; exact ⟨k, k1, (h.wt hD k1 j).mp k2⟩
  · rintro ⟨k, k1, k2⟩; exact ⟨k, k1, (h.wt hD k1 j).mpr k2⟩
theorem Rel.fit {C D : q_S} {n : Nat → Nat} {c : Nat} (h : Rel C n c) (hD : Like D C) (j : Nat) : ¬ m_fit D ((j : Int) + 1) (n 1) = 0 ↔ ¬ c_sf C n j 8 = 0 := by
  have h1 := h.1
  have e1 : (D 5 1 0).toNat = n 2 := by rw [hD.2 1 (by decide), h1.1.1]; omega
  have e8 := h1.1.2.2
  rw [m_fit_iff, c_sf_iff, e1]
  constructor
  · rintro ⟨k, k1, k2, p, p1, p2⟩
    have q := (h.wt hD k1 j).mp k2
    exact ⟨p, by omega, p1, (c_fp_iff C j p _).mpr ⟨k, k1, q.1, q.2, (h.fits hD k1 p1).mp p2⟩⟩
  · rintro ⟨p, p0, p1, p2⟩
    obtain ⟨k, k1, k2, k3, k4⟩ := (c_fp_iff C j p _).mp p2
    exact ⟨k, k1, (h.wt hD k1 j).mpr ⟨k2, k3⟩, p, p1, (h.fits hD k1 p1).mpr k4⟩
theorem Rel.fre {C D : q_S} {n : Nat → Nat} {c : Nat} (h : Rel C n c) (hD : Like D C) (j : Nat) : ¬ m_fre D ((j : Int) + 1) (n 1) = 0 ↔ ∃ z, z < n 2 ∧ ¬ c_fp C j z (n 1) = 0 ∧ C 2 4 z = 0 := by
  have h1 := h.1
  have h25 := h.2.2.2.2.2.2.2.2.2.2.2.2.2.1
  have e1 : (D 5 1 0).toNat = n 2 := by rw [hD.2 1 (by decide), h1.1.1]; omega
  have e8 := h1.1.2.2
  have e25 : ∀ p, p < n 2 → (D 25 (p + 1) 0 = -1 ↔ C 2 4 p = 0) := fun p hp => by
    rw [hD.1 25 (p + 1) (by decide) (by decide), (h25.2 p).1 (by omega)]; omega
  rw [m_fre_iff, e1]
  constructor
  · rintro ⟨k, k1, k2, p, p1, p2, p3⟩
    have q := (h.wt hD k1 j).mp k2
    exact ⟨p, p1, (c_fp_iff C j p _).mpr ⟨k, k1, q.1, q.2, (h.fits hD k1 p1).mp p2⟩, (e25 p p1).mp p3⟩
  · rintro ⟨p, p1, p2, p3⟩
    obtain ⟨k, k1, k2, k3, k4⟩ := (c_fp_iff C j p _).mp p2
    exact ⟨k, k1, (h.wt hD k1 j).mpr ⟨k2, k3⟩, p, p1, (h.fits hD k1 p1).mpr k4, (e25 p p1).mpr p3⟩
theorem o_reason {C : q_S} {n : Nat → Nat} {ad : Nat → Nat → Nat} {c : Nat} {a : Int} {r : Int32} {rb : Int32} {u u2 : q_U} (h : Rel C n c) (z : gz C n)  (hp : pL_reason n ad C a r u) (hm : tX5_reason u.1 u.2.1 u.2.2 a rb u2) : Res c r (fun z => R32 z ∧ rb = iI z) u u2 := by
  obtain ⟨h1, ha, h2, h3, h3a, h4, h4a, h4c, h5, h6, h42, h41, h24, h25, h7, h7a, h8⟩ := id h
  have e1 := h1.2.2.1.1
  have e17 : (C 5 17 0).toNat = n 1 := by rw [h1.2.2.2.1.1]; omega
  rcases hp with ⟨v, z0, hz0, hv, rfl, rfl⟩ | ⟨⟨-, cx⟩, rfl, rfl⟩
  · obtain ⟨ca, rfl⟩ : (1 ≤ a ∧ a ≤ (n 0 : Int)) ∧ v = (n, ad, C) := by
      rcases hv with ⟨q1, -, -, -, -, -, q2, -⟩ | ⟨q1, -, -, -, -, -, q2, -⟩ | ⟨q1, -, -, -, -, q2, -⟩ | ⟨q1, -, -, -, q2, -⟩ | ⟨q1, -, -, q2, -⟩ | ⟨q1, -, q2, -⟩ <;> exact ⟨q1, q2⟩
    obtain ⟨j, rfl⟩ : ∃ j : Nat, a = (j : Int) + 1 := ⟨(a - 1).toNat, by omega⟩
    have ej : ((j : Int) + 1 - 1).toNat = j := by omega
    have ej1 : ((j : Int) + 1).toNat = j + 1 := by omega
    unfold tX4_reason at hv
    rw [ej] at hv
    have L0 := Like50 C z0
    have ra := h.any L0 j
    have rf := h.fit L0 j
    have rr := h.fre L0 j
    have r35 : C 35 ((j : Int) + 1).toNat 0 = C 0 5 j := by rw [ej1, (h4a j).1]
    have r34 : C 34 ((j : Int) + 1).toNat 0 = C 0 4 j := by rw [ej1, (h4.2 j).2.2.2.1]
    have r28 := h1.2.2.2.2.1.1
    have mx : (∀ z, z < n 2 → ¬ c_fp C j z (n 1) = 0 → ¬ C 2 4 z = 0) → m_fre (q_up C 50 0 0 z0) ((j : Int) + 1) (n 1) = 0 := by
      intro q
      by_cases e : m_fre (q_up C 50 0 0 z0) ((j : Int) + 1) (n 1) = 0
      · exact e
      · obtain ⟨p, p1, p2, p3⟩ := rr.mp e
        exact absurd p3 (q p p1 p2)
    unfold tX5_reason at hm
    rw [show (((n, ad, C).fst, (n, ad, C).snd.fst, q_up (n, ad, C).snd.snd 50 0 0 z0) : q_U).2.2 5 17 0 = C 5 17 0 from rfl, e17,
      show (((n, ad, C).fst, (n, ad, C).snd.fst, q_up (n, ad, C).snd.snd 50 0 0 z0) : q_U).2.2 35 ((j : Int) + 1).toNat 0 = C 0 5 j from r35,
      show (((n, ad, C).fst, (n, ad, C).snd.fst, q_up (n, ad, C).snd.snd 50 0 0 z0) : q_U).2.2 34 ((j : Int) + 1).toNat 0 = C 0 4 j from r34,
      show (((n, ad, C).fst, (n, ad, C).snd.fst, q_up (n, ad, C).snd.snd 50 0 0 z0) : q_U).2.2 5 28 0 = C 4 10 0 from r28,
      show (((n, ad, C).fst, (n, ad, C).snd.fst, q_up (n, ad, C).snd.snd 50 0 0 z0) : q_U).2.2 5 10 0 = C 5 10 0 from rfl] at hm
    dsimp only at hm
    rcases hm with ⟨ma, mb, mc, md, me, mf, rfl, rfl⟩ | ⟨ma, mb, mc, md, me, mf, rfl, rfl⟩ | ⟨ma, mb, mc, md, me, rfl, rfl⟩ | ⟨ma, mb, mc, md, rfl, rfl⟩ | ⟨ma, mb, mc, rfl, rfl⟩ | ⟨ma, mb, rfl, rfl⟩ | ⟨ma, rfl, rfl⟩
    · refine Res_r h ⟨hz0, ?_⟩
      rcases hv with ⟨-, q1, q2, q3, q4, q5, -, q6⟩ | ⟨-, q1, q2, q3, q4, q5, -, q6⟩ | ⟨-, q1, q2, q3, q4, -, q6⟩ | ⟨-, q1, q2, q3, -, q6⟩ | ⟨-, q1, q2, -, q6⟩ | ⟨-, q1, -, q6⟩
      · exact absurd (mx q4) mf
      · exact absurd (mx q4) mf
      · exact q6.symm
      · omega
      · omega
      · exact absurd (ra.mp mb) q1
    · refine Res_r h ⟨hz0, ?_⟩
      rcases hv with ⟨-, q1, q2, q3, q4, q5, -, q6⟩ | ⟨-, q1, q2, q3, q4, q5, -, q6⟩ | ⟨-, q1, q2, q3, q4, -, q6⟩ | ⟨-, q1, q2, q3, -, q6⟩ | ⟨-, q1, q2, -, q6⟩ | ⟨-, q1, -, q6⟩
      · exact absurd q5 (rf.mp me)
      · exact q6.symm
      · exact absurd mf (rr.mpr q4)
      · omega
      · omega
      · exact absurd (ra.mp mb) q1
    · refine Res_r h ⟨hz0, ?_⟩
      rcases hv with ⟨-, q1, q2, q3, q4, q5, -, q6⟩ | ⟨-, q1, q2, q3, q4, q5, -, q6⟩ | ⟨-, q1, q2, q3, q4, -, q6⟩ | ⟨-, q1, q2, q3, -, q6⟩ | ⟨-, q1, q2, -, q6⟩ | ⟨-, q1, -, q6⟩
      · exact q6.symm
      · exact absurd me (rf.mpr q5)
      · obtain ⟨p, p1, p2, p3⟩ := q4
        exact absurd me (rf.mpr ((c_sf_iff C n j 8).mpr ⟨p, by have := h1.1.2.2; omega, p1, p2⟩))
      · omega
      · omega
      · exact absurd (ra.mp mb) q1
    · refine Res_r h ⟨hz0, ?_⟩
      rcases hv with ⟨-, q1, q2, q3, q4, q5, -, q6⟩ | ⟨-, q1, q2, q3, q4, q5, -, q6⟩ | ⟨-, q1, q2, q3, q4, -, q6⟩ | ⟨-, q1, q2, q3, -, q6⟩ | ⟨-, q1, q2, -, q6⟩ | ⟨-, q1, -, q6⟩
      · omega
      · omega
      · omega
      · exact q6.symm
      · omega
      · exact absurd (ra.mp mb) q1
    · refine Res_r h ⟨hz0, ?_⟩
      rcases hv with ⟨-, q1, q2, q3, q4, q5, -, q6⟩ | ⟨-, q1, q2, q3, q4, q5, -, q6⟩ | ⟨-, q1, q2, q3, q4, -, q6⟩ | ⟨-, q1, q2, q3, -, q6⟩ | ⟨-, q1, q2, -, q6⟩ | ⟨-, q1, -, q6⟩
      · omega
      · omega
      · omega
      · omega
      · exact q6.symm
      · exact absurd (ra.mp mb) q1
    · refine Res_r h ⟨hz0, ?_⟩
      have nb : ¬ c_hs C n j 0 := fun q => ra.mpr q mb
      rcases hv with ⟨-, q1, q2, q3, q4, q5, -, q6⟩ | ⟨-, q1, q2, q3, q4, q5, -, q6⟩ | ⟨-, q1, q2, q3, q4, -, q6⟩ | ⟨-, q1, q2, q3, -, q6⟩ | ⟨-, q1, q2, -, q6⟩ | ⟨-, q1, -, q6⟩
      · exact absurd q1 nb
      · exact absurd q1 nb
      · exact absurd q1 nb
      · exact absurd q1 nb
      · exact absurd q1 nb
      · exact q6.symm
    · omega
  · have cx2 : ¬ (1 ≤ a ∧ a ≤ C 5 10 0) := by omega
    rcases hm with ⟨ma, -⟩ | ⟨ma, -⟩ | ⟨ma, -⟩ | ⟨ma, -⟩ | ⟨ma, -⟩ | ⟨ma, -⟩ | ⟨ma, rfl, rfl⟩
    · exact absurd ma cx2
    · exact absurd ma cx2
    · exact absurd ma cx2
    · exact absurd ma cx2
    · exact absurd ma cx2
    · exact absurd ma cx2
    · exact Res_x h (by decide)
