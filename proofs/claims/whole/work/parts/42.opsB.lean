theorem Rel.pick {C V : q_S} {n : Nat → Nat} {c : Nat} (h : Rel C n c) (z : gz C n) (hc : c ≤ 600) (LV : ∀ kd s, (kd = 5 ∨ (20 ≤ kd ∧ kd < 50)) → V kd s 0 = C kd s 0) {p : Nat} (hp : p < n 2) (y : Int) :
    (c_ch (q_up C 4 10 0 y) n p 60 = 0 ∧ m_best (m_now V y) ((p : Int) + 1) (n 1) = -1) ∨ ∃ k, k < n 1 ∧ C 1 3 k = 0 ∧ c_ch (q_up C 4 10 0 y) n p 60 = (k : Int) + 1 ∧ ¬ m_best (m_now V y) ((p : Int) + 1) (n 1) = -1 ∧ m_pt V ((p : Int) + 1) y = k := by
  obtain ⟨h1, ha, h2, h3, h3a, h4, h4a, h4c, h5, h6, h42, h41, h24, h25, h7, h7a, h8⟩ := id h
  have mR := h.mR z hc
  have LL : Like V C := ⟨fun kd s q1 q2 => LV kd s (Or.inr ⟨q1, q2⟩), fun s _ => LV 5 s (Or.inl rfl)⟩
  have e17 : (V 5 17 0).toNat = n 1 := by rw [LV 5 17 (Or.inl rfl), h1.2.2.2.1.1]; omega
  have ep1 : ((p : Int) + 1).toNat = p + 1 := by omega
  have hE : ∀ kd s, 20 ≤ kd → kd < 50 → m_now V y kd s 0 = C kd s 0 := by
    intro kd s q1 q2
    unfold m_now
    rw [q_ua, if_neg (by omega), q_ua, if_neg (by omega), LV kd s (Or.inr ⟨q1, q2⟩)]
  have e24 : V 24 ((p : Int) + 1).toNat 0 = C 2 3 p := by rw [ep1, LV 24 _ (Or.inr (by decide)), (h2.2 p).2.2.1]
  have e29 : V 5 29 0 = C 4 9 0 := by rw [LV 5 29 (Or.inl rfl), h1.2.2.2.2.2]
  obtain ⟨E, eE⟩ : ∃ E, m_now V y = E := ⟨_, rfl⟩
  obtain ⟨D, eD⟩ : ∃ D, q_up C 4 10 0 y = D := ⟨_, rfl⟩
  have dj : ∀ k, c_job D k = c_job C k := fun k => by rw [← eD]; rfl
  have hjD : ∀ k, k < n 1 → ∃ j, j < n 0 ∧ D 1 0 k = (j : Int) + 1 ∧ c_job D k = j := by
    intro k hk
    obtain ⟨j, j1, j2, j3, j4⟩ := h.pj hk
    exact ⟨j, j1, by rw [← eD]; exact j2, by rw [dj]; exact j4⟩
  have e38 : ∀ k, k < n 1 → E 38 k 0 = (c_job D k : Int) + 1 := by
    intro k hk
    obtain ⟨j, j1, j2, j3, j4⟩ := h.pj hk
    rw [← eE, hE 38 k (by decide) (by decide), j3, dj, j4]
  have rk : ∀ k, k < n 1 → u_rk E k = t_rk D k := by
    intro k hk
    unfold u_rk t_rk
    rw [e38 k hk, show ((c_job D k : Int) + 1).toNat = c_job D k + 1 by omega, ← eE, hE 33 _ (by decide) (by decide), (h4.2 _).2.2.1, ← eD]
    rfl
  have tm : ∀ k, k < n 1 → u_tm E k = t_tm D k := by
    intro k hk
    unfold u_tm t_tm
    rw [e38 k hk, show ((c_job D k : Int) + 1).toNat = c_job D k + 1 by omega, ← eE, hE 34 _ (by decide) (by decide), (h4.2 _).2.2.2.1, ← eD]
    rfl
  have may : ∀ k, k < n 1 → (m_may E k ((p : Int) + 1) ↔ t_may D p k) := by
    intro k hk
    have f := h.fits LL hk hp
    have f1 : m_fits E k ((p : Int) + 1) ↔ c_fits D p k := by rw [← eE, ← eD]; exact f
    have tmk := tm k hk
    unfold u_tm t_tm at tmk
    unfold m_may t_may
    rw [f1, tmk, e38 k hk, show ((c_job D k : Int) + 1).toNat = c_job D k + 1 by omega]
    have s44 : E 44 k 0 = if C 1 3 k = 0 then 1 else 0 := by rw [← eE, hE 44 k (by decide) (by decide)]; exact (h6 k hk).2.1
    have s35 : E 35 (c_job D k + 1) 0 = D 0 5 (c_job D k) := by rw [← eE, hE 35 _ (by decide) (by decide), (h4a _).1, ← eD]; rfl
    have s28 : E 5 28 0 = D 4 10 0 := by rw [← eE, ← eD]; rfl
    have s13 : D 1 3 k = C 1 3 k := by rw [← eD]; rfl
    rw [s44, s35, s28, s13]
    by_cases e : C 1 3 k = 0
    · rw [if_pos e]; exact ⟨fun q => ⟨e, q.2⟩, fun q => ⟨by omega, q.2⟩⟩
    · rw [if_neg e]; exact ⟨fun q => absurd rfl q.1, fun q => absurd q.1 e⟩
  have lk : ∀ k, k < n 1 → (m_med E k = E 22 ((p : Int) + 1).toNat 0 ↔ c_lk D (c_job D k) p) := by
    intro k hk
    obtain ⟨j, j1, j2, j3, j4⟩ := h.pj hk
    obtain ⟨t, t1, t2, t3, t4⟩ := h.jt j1
    unfold m_med c_lk c_tik
    rw [e38 k hk, dj, j4, show ((j : Int) + 1).toNat = j + 1 by omega, ← eE, hE 31 _ (by decide) (by decide), t3, show ((t : Int) + 1).toNat = t + 1 by omega, hE 27 _ (by decide) (by decide), (h3 t).1, ep1, hE 22 _ (by decide) (by decide), (h2.2 p).1, ← eD]
    show C 3 0 t = C 2 2 p ↔ C 3 0 (C 0 1 j - 1).toNat = C 2 2 p
    rw [t2, show ((t : Int) + 1 - 1).toNat = t by omega]
  have hrk : ∀ k, 0 ≤ u_rk E k := by
    intro k
    unfold u_rk
    rw [← eE, hE 33 _ (by decide) (by decide)]
    exact (m_R33 mR _).1
  have d23 : D 2 3 p = C 2 3 p ∧ D 4 9 0 = C 4 9 0 := by rw [← eD]; exact ⟨rfl, rfl⟩
  have cls := c_ch_mn (D := D) (n := n) (p := p) hjD 60
  have bst := m_best_sp E ((p : Int) + 1) hrk (n 1)
  have j60 : ∀ k, k < n 1 → c_job D k < 60 := fun k hk => by
    obtain ⟨j, j1, j2, j3⟩ := hjD k hk
    have := h1.2.2.1.2.2
    omega
  rw [eD, eE]
  rcases cls with ⟨q1, q2⟩ | ⟨k0, q1, q2, q3⟩
  · left
    refine ⟨q1, ?_⟩
    rcases bst with ⟨b1, -⟩ | ⟨-, ⟨k, k1, k2, -⟩, -⟩
    · exact b1
    · exact (q2 k k1 ((may k k1).mp k2) (j60 k k1)).elim
  · right
    have k0n := q3.1
    have mk0 := q3.2.1.1
    rcases bst with ⟨-, b2⟩ | ⟨b0, ⟨kb, kb1, kb2, kb3⟩, b3⟩
    · exact absurd ((may k0 k0n).mpr mk0) (b2 k0 k0n)
    refine ⟨k0, k0n, by have := mk0.1; rw [← eD] at this; exact this, q1, by omega, ?_⟩
    -- the model's part is the least one, too
    have key : mn (n 1) (fun k => t_may D p k ∧ c_job D k < 60) (t_rk D) (t_lq D p) (t_tm D) (c_job D) (m_pt V ((p : Int) + 1) y) := by
      unfold m_pt
      rw [e17, e24, e29, eE]
      have lq0 : ∀ k, ¬ C 2 3 p < C 4 9 0 → t_lq D p k = 0 := fun k q => if_neg (fun r => q (by rw [← d23.1, ← d23.2]; exact r.1))
      have lq1 : ∀ k, c_lk D (c_job D k) p → t_lq D p k = 0 := fun k q => if_neg (fun r => r.2 q)
      have lq2 : ∀ k, C 2 3 p < C 4 9 0 → ¬ c_lk D (c_job D k) p → t_lq D p k = 1 := fun k q r => if_pos ⟨by rw [d23.1, d23.2]; exact q, r⟩
      have f1 := m_first_sp E ((p : Int) + 1) (m_best E ((p : Int) + 1) (n 1)) 1 (n 1)
      have f0 := m_first_sp E ((p : Int) + 1) (m_best E ((p : Int) + 1) (n 1)) 0 (n 1)
      generalize m_best E ((p : Int) + 1) (n 1) = r at *
      have fin : ∀ (kx : Nat) (b0 : Int), kx < n 1 → u_S E ((p : Int) + 1) r b0 kx → (∀ k, k < n 1 → u_S E ((p : Int) + 1) r b0 k → k = kx ∨ u_lt E kx k) → (∀ k, k < n 1 → t_may D p k → t_rk D k = r → t_lq D p kx < t_lq D p k ∨ (t_lq D p kx = t_lq D p k ∧ u_S E ((p : Int) + 1) r b0 k)) → mn (n 1) (fun k => t_may D p k ∧ c_job D k < 60) (t_rk D) (t_lq D p) (t_tm D) (c_job D) kx := by
        intro kx b0 x1 x2 x3 x4
        refine ⟨x1, ⟨(may kx x1).mp x2.1, j60 kx x1⟩, fun k k1 k2 => ?_⟩
        have r0 : t_rk D kx = r := by rw [← rk kx x1]; exact x2.2.1
        have rle : t_rk D k ≤ r := by rw [← rk k k1]; exact b3 k k1 ((may k k1).mpr k2.1)
        by_cases er : t_rk D k = r
        · rcases x4 k k1 k2.1 er with q | ⟨q, s⟩
          · right; unfold lx; omega
          · rcases x3 k k1 s with e | e
            · exact Or.inl e
            · right
              unfold u_lt at e
              rw [tm kx x1, tm k k1, e38 kx x1, e38 k k1] at e
              unfold lx
              omega
        · right; unfold lx; omega
      have ex0 : u_S E ((p : Int) + 1) r 0 kb := ⟨kb2, kb3, Or.inl rfl⟩
      by_cases el : C 2 3 p < C 4 9 0
      · rcases f1 with ⟨g1, g2⟩ | ⟨k1, g1, g2, g3, g4⟩
        · rw [if_neg (fun q => q.2 g1)]
          rcases f0 with ⟨g3, g4⟩ | ⟨k1, g3, g4, g5, g6⟩
          · exact absurd ex0 (g4 kb kb1)
          · rw [g3, show ((k1 : Nat) : Int).toNat = k1 by omega]
            have nl : ∀ k, k < n 1 → t_may D p k → t_rk D k = r → t_lq D p k = 1 := fun k k1 k2 k3 => lq2 k el (fun q => g2 k k1 ⟨(may k k1).mpr k2, (rk k k1).trans k3, Or.inr ((lk k k1).mpr q)⟩)
            refine fin k1 0 g4 g5 g6 (fun k k2 k3 k4 => Or.inr ⟨?_, (may k k2).mpr k3, (rk k k2).trans k4, Or.inl rfl⟩)
            rw [nl k k2 k3 k4, nl k1 g4 ((may k1 g4).mp g5.1) ((rk k1 g4).symm.trans g5.2.1)]
        · rw [if_pos ⟨el, by omega⟩, g1, show ((k1 : Nat) : Int).toNat = k1 by omega]
          have l1 : t_lq D p k1 = 0 := lq1 k1 ((lk k1 g2).mp (g3.2.2.resolve_left (by decide)))
          refine fin k1 1 g2 g3 g4 (fun k k2 k3 k4 => ?_)
          by_cases q : c_lk D (c_job D k) p
          · right
            exact ⟨by rw [l1, lq1 k q], (may k k2).mpr k3, (rk k k2).trans k4, Or.inr ((lk k k2).mpr q)⟩
          · left
            rw [l1, lq2 k el q]; omega
      · rw [if_neg (fun q => el q.1)]
        rcases f0 with ⟨g3, g4⟩ | ⟨k1, g3, g4, g5, g6⟩
        · exact absurd ex0 (g4 kb kb1)
        · rw [g3, show ((k1 : Nat) : Int).toNat = k1 by omega]
          refine fin k1 0 g4 g5 g6 (fun k k2 k3 k4 => Or.inr ⟨?_, (may k k2).mpr k3, (rk k k2).trans k4, Or.inl rfl⟩)
          rw [lq0 k el, lq0 k1 el]
    exact mn_uniq key q3
