/-- which of two parts a printer takes first -/
def lx (rk lq tm : Nat → Int) (jb : Nat → Nat) (k1 k2 : Nat) : Prop := rk k2 < rk k1 ∨ (rk k1 = rk k2 ∧ (lq k1 < lq k2 ∨ (lq k1 = lq k2 ∧ (tm k1 < tm k2 ∨ (tm k1 = tm k2 ∧ (jb k1 < jb k2 ∨ (jb k1 = jb k2 ∧ k1 < k2)))))))
theorem lx_trans {rk lq tm : Nat → Int} {jb : Nat → Nat} {a b c : Nat} (h1 : lx rk lq tm jb a b) (h2 : lx rk lq tm jb b c) : lx rk lq tm jb a c := by
  unfold lx at *
  omega
theorem lx_asym {rk lq tm : Nat → Int} {jb : Nat → Nat} {a b : Nat} (h1 : lx rk lq tm jb a b) (h2 : lx rk lq tm jb b a) : False := by
  unfold lx at *
  omega
def mn (N : Nat) (may : Nat → Prop) (rk lq tm : Nat → Int) (jb : Nat → Nat) (k0 : Nat) : Prop := k0 < N ∧ may k0 ∧ ∀ k, k < N → may k → k = k0 ∨ lx rk lq tm jb k0 k
theorem mn_uniq {N : Nat} {may : Nat → Prop} {rk lq tm : Nat → Int} {jb : Nat → Nat} {k1 k2 : Nat} (h1 : mn N may rk lq tm jb k1) (h2 : mn N may rk lq tm jb k2) : k1 = k2 := by
  rcases h1.2.2 k2 h2.1 h2.2.1 with q | q
  · exact q.symm
  · rcases h2.2.2 k1 h1.1 h1.2.1 with r | r
    · exact r
    · exact absurd r (fun r => lx_asym q r)
-- the class's choice
abbrev t_may (D : q_S) (p k : Nat) : Prop := D 1 3 k = 0 ∧ D 0 5 (c_job D k) = 0 ∧ D 0 4 (c_job D k) ≤ D 4 10 0 ∧ c_fits D p k
abbrev t_rk (D : q_S) (k : Nat) : Int := D 0 3 (c_job D k)
abbrev t_tm (D : q_S) (k : Nat) : Int := D 0 4 (c_job D k)
def t_lj (D : q_S) (p j : Nat) : Int := if D 2 3 p < D 4 9 0 ∧ ¬ c_lk D j p then 1 else 0
abbrev t_lq (D : q_S) (p k : Nat) : Int := t_lj D p (c_job D k)
theorem c_bef_iff (D : q_S) (j1 j2 p : Nat) : c_bef D j1 j2 p ↔ D 0 3 j2 < D 0 3 j1 ∨ (D 0 3 j1 = D 0 3 j2 ∧ (t_lj D p j1 < t_lj D p j2 ∨ (t_lj D p j1 = t_lj D p j2 ∧ D 0 4 j1 < D 0 4 j2))) := by
  have t0 : ∀ j, ¬ D 2 3 p < D 4 9 0 → t_lj D p j = 0 := fun j q => if_neg (fun r => q r.1)
  have t1 : ∀ j, D 2 3 p < D 4 9 0 → c_lk D j p → t_lj D p j = 0 := fun j q r => if_neg (fun s => s.2 r)
  have t2 : ∀ j, D 2 3 p < D 4 9 0 → ¬ c_lk D j p → t_lj D p j = 1 := fun j q r => if_pos ⟨q, r⟩
  by_cases e : D 2 3 p < D 4 9 0
  · by_cases a : c_lk D j1 p
    · by_cases b : c_lk D j2 p
      · rw [t1 j1 e a, t1 j2 e b]; unfold c_bef c_lk at *; omega
      · rw [t1 j1 e a, t2 j2 e b]; unfold c_bef c_lk at *; omega
    · by_cases b : c_lk D j2 p
      · rw [t2 j1 e a, t1 j2 e b]; unfold c_bef c_lk at *; omega
      · rw [t2 j1 e a, t2 j2 e b]; unfold c_bef c_lk at *; omega
  · rw [t0 j1 e, t0 j2 e]; unfold c_bef c_lk at *; omega
theorem c_fp_sp {C : q_S} {j p m : Nat} (h : ¬ c_fp C j p m = 0) : ∃ i : Nat, c_fp C j p m = (i : Int) + 1 ∧ i < m ∧ (C 1 0 i = (j : Int) + 1 ∧ C 1 3 i = 0 ∧ c_fits C p i) ∧ ∀ k, k < i → ¬ (C 1 0 k = (j : Int) + 1 ∧ C 1 3 k = 0 ∧ c_fits C p k) := by
  induction m with
  | zero => exact absurd rfl h
  | succ m ih =>
    rw [c_fp] at h ⊢
    by_cases h1 : c_fp C j p m = 0
    · rw [if_neg (fun q => q h1)] at h ⊢
      by_cases h2 : C 1 0 m = (j : Int) + 1 ∧ C 1 3 m = 0 ∧ c_fits C p m
      · rw [if_pos h2]
        refine ⟨m, rfl, by omega, h2, fun k hk q => ?_⟩
        exact (c_fp_iff C j p m).mpr ⟨k, hk, q⟩ h1
      · rw [if_neg h2] at h
        exact absurd rfl h
    · rw [if_pos h1] at h ⊢
      obtain ⟨i, h3, h4, h5⟩ := ih h
      exact ⟨i, h3, by omega, h5⟩
theorem c_ch_mn {D : q_S} {n : Nat → Nat} {p : Nat} (hj : ∀ k, k < n 1 → ∃ j, j < n 0 ∧ D 1 0 k = (j : Int) + 1 ∧ c_job D k = j) : ∀ m,
    (c_ch D n p m = 0 ∧ ∀ k, k < n 1 → t_may D p k → c_job D k < m → False) ∨
    ∃ k0 : Nat, c_ch D n p m = (k0 : Int) + 1 ∧ c_job D k0 < m ∧ mn (n 1) (fun k => t_may D p k ∧ c_job D k < m) (t_rk D) (t_lq D p) (t_tm D) (c_job D) k0 := by
  intro m
  induction m with
  | zero => left; exact ⟨rfl, fun k _ _ q => by omega⟩
  | succ m ih =>
    rw [c_ch]
    by_cases ex : m < n 0 ∧ D 0 5 m = 0 ∧ D 0 4 m ≤ D 4 10 0 ∧ ¬ c_fp D m p (n 1) = 0
    · obtain ⟨i, i1, i2, i3, i4⟩ := c_fp_sp ex.2.2.2
      have ij : c_job D i = m := by unfold c_job; omega
      have im : t_may D p i := ⟨i3.2.1, by rw [ij]; exact ex.2.1, by rw [ij]; exact ex.2.2.1, i3.2.2⟩
      have inew : ∀ k, k < n 1 → t_may D p k → c_job D k = m → k = i ∨ lx (t_rk D) (t_lq D p) (t_tm D) (c_job D) i k := by
        intro k k1 k2 k3
        obtain ⟨j, j1, j2, j3⟩ := hj k k1
        have : ¬ k < i := fun q => i4 k q ⟨by omega, k2.1, k2.2.2.2⟩
        by_cases e : k = i
        · exact Or.inl e
        · right
          unfold lx t_rk t_lq t_tm
          rw [ij, k3]
          omega
      rcases ih with ⟨q1, q2⟩ | ⟨k0, q1, q2, q3⟩
      · right
        rw [if_pos ⟨ex.1, ex.2.1, ex.2.2.1, ex.2.2.2, Or.inl q1⟩]
        refine ⟨i, i1, by omega, i2, ⟨im, by omega⟩, fun k k1 k2 => ?_⟩
        by_cases e : c_job D k = m
        · exact inew k k1 k2.1 e
        · exact (q2 k k1 k2.1 (by have := k2.2; omega)).elim
      · right
        have e0 : (c_ch D n p m - 1).toNat = k0 := by omega
        rw [e0]
        have hb := c_bef_iff D m (c_job D k0) p
        by_cases bf : c_bef D m (c_job D k0) p
        · rw [if_pos ⟨ex.1, ex.2.1, ex.2.2.1, ex.2.2.2, Or.inr bf⟩]
          have lik : lx (t_rk D) (t_lq D p) (t_tm D) (c_job D) i k0 := by
            have := hb.mp bf
            unfold lx t_rk t_lq t_tm
            rw [ij]
            omega
          refine ⟨i, i1, by omega, i2, ⟨im, by omega⟩, fun k k1 k2 => ?_⟩
          by_cases e : c_job D k = m
          · exact inew k k1 k2.1 e
          · right
            rcases q3.2.2 k k1 ⟨k2.1, by have := k2.2; omega⟩ with r | r
            · rw [r]; exact lik
            · exact lx_trans lik r
        · rw [if_neg (fun q => by
            rcases q.2.2.2.2 with r | r
            · omega
            · exact bf r)]
          have lki : lx (t_rk D) (t_lq D p) (t_tm D) (c_job D) k0 i := by
            have := fun q => bf (hb.mpr q)
            unfold lx t_rk t_lq t_tm
            rw [ij]
            omega
          refine ⟨k0, q1, by omega, q3.1, ⟨q3.2.1.1, by omega⟩, fun k k1 k2 => ?_⟩
          by_cases e : c_job D k = m
          · right
            rcases inew k k1 k2.1 e with r | r
            · rw [r]; exact lki
            · exact lx_trans lki r
          · exact q3.2.2 k k1 ⟨k2.1, by have := k2.2; omega⟩
    · rw [if_neg (fun q => ex ⟨q.1, q.2.1, q.2.2.1, q.2.2.2.1⟩)]
      have none : ∀ k, k < n 1 → t_may D p k → c_job D k = m → False := by
        intro k k1 k2 k3
        obtain ⟨j, j1, j2, j3⟩ := hj k k1
        exact ex ⟨by omega, by rw [← k3]; exact k2.2.1, by rw [← k3]; exact k2.2.2.1, (c_fp_iff D m p (n 1)).mpr ⟨k, k1, by omega, k2.1, k2.2.2.2⟩⟩
      rcases ih with ⟨q1, q2⟩ | ⟨k0, q1, q2, q3⟩
      · left
        refine ⟨q1, fun k k1 k2 k3 => ?_⟩
        by_cases e : c_job D k = m
        · exact none k k1 k2 e
        · exact q2 k k1 k2 (by omega)
      · right
        refine ⟨k0, q1, by omega, q3.1, ⟨q3.2.1.1, by omega⟩, fun k k1 k2 => ?_⟩
        by_cases e : c_job D k = m
        · exact (none k k1 k2.1 e).elim
        · exact q3.2.2 k k1 ⟨k2.1, by have := k2.2; omega⟩
-- the model's
abbrev u_rk (E : q_S) (k : Nat) : Int := E 33 (E 38 k 0).toNat 0
abbrev u_tm (E : q_S) (k : Nat) : Int := E 34 (E 38 k 0).toNat 0
theorem m_best_sp (E : q_S) (a : Int) (hr : ∀ k, 0 ≤ u_rk E k) : ∀ m, (m_best E a m = -1 ∧ ∀ k, k < m → ¬ m_may E k a) ∨ (0 ≤ m_best E a m ∧ (∃ k, k < m ∧ m_may E k a ∧ u_rk E k = m_best E a m) ∧ ∀ k, k < m → m_may E k a → u_rk E k ≤ m_best E a m) := by
  intro m
  induction m with
  | zero => left; exact ⟨rfl, fun k q => by omega⟩
  | succ m ih =>
    rw [m_best]
    have hm := hr m
    by_cases e : m_may E m a ∧ m_best E a m < E 33 (E 38 m 0).toNat 0
    · right
      rw [if_pos e]
      refine ⟨hm, ⟨m, by omega, e.1, rfl⟩, fun k k1 k2 => ?_⟩
      by_cases ek : k = m
      · subst ek; exact Int.le_refl _
      · rcases ih with ⟨q1, q2⟩ | ⟨q0, q1, q2⟩
        · exact absurd k2 (q2 k (by omega))
        · have := q2 k (by omega) k2
          omega
    · rw [if_neg e]
      rcases ih with ⟨q1, q2⟩ | ⟨q0, ⟨r1, r2, r3⟩, q2⟩
      · left
        refine ⟨q1, fun k k1 k2 => ?_⟩
        by_cases ek : k = m
        · subst ek
          exact e ⟨k2, by unfold u_rk at hm; omega⟩
        · exact q2 k (by omega) k2
      · right
        refine ⟨q0, ⟨r1, by omega, r3⟩, fun k k1 k2 => ?_⟩
        by_cases ek : k = m
        · subst ek
          have : ¬ m_best E a k < E 33 (E 38 k 0).toNat 0 := fun q => e ⟨k2, q⟩
          unfold u_rk
          omega
        · exact q2 k (by omega) k2
abbrev u_S (E : q_S) (a r0 b0 : Int) (k : Nat) : Prop := m_may E k a ∧ E 33 (E 38 k 0).toNat 0 = r0 ∧ (b0 = 0 ∨ m_med E k = E 22 a.toNat 0)
abbrev u_lt (E : q_S) (k1 k2 : Nat) : Prop := u_tm E k1 < u_tm E k2 ∨ (u_tm E k1 = u_tm E k2 ∧ (E 38 k1 0 < E 38 k2 0 ∨ (E 38 k1 0 = E 38 k2 0 ∧ k1 < k2)))
theorem m_first_sp (E : q_S) (a r0 b0 : Int) : ∀ m, (m_first E a r0 b0 m = -1 ∧ ∀ k, k < m → ¬ u_S E a r0 b0 k) ∨ ∃ k0 : Nat, m_first E a r0 b0 m = (k0 : Int) ∧ k0 < m ∧ u_S E a r0 b0 k0 ∧ ∀ k, k < m → u_S E a r0 b0 k → k = k0 ∨ u_lt E k0 k := by
  intro m
  induction m with
  | zero => left; exact ⟨rfl, fun k q => by omega⟩
  | succ m ih =>
    rw [m_first]
    by_cases s : u_S E a r0 b0 m
    · rcases ih with ⟨q1, q2⟩ | ⟨k0, q1, q2, q3, q4⟩
      · right
        rw [if_pos ⟨s.1, s.2.1, s.2.2, Or.inl q1⟩]
        refine ⟨m, rfl, by omega, s, fun k k1 k2 => ?_⟩
        by_cases ek : k = m
        · exact Or.inl ek
        · exact absurd k2 (q2 k (by omega))
      · right
        by_cases so : m_soon E m (m_first E a r0 b0 m)
        · rw [if_pos ⟨s.1, s.2.1, s.2.2, so⟩]
          refine ⟨m, rfl, by omega, s, fun k k1 k2 => ?_⟩
          by_cases ek : k = m
          · exact Or.inl ek
          · right
            have l0 : u_lt E m k0 := by
              unfold m_soon at so
              rw [q1, show ((k0 : Nat) : Int).toNat = k0 by omega] at so
              unfold u_lt u_tm
              omega
            rcases q4 k (by omega) k2 with r | r
            · rw [r]; exact l0
            · unfold u_lt at *; omega
        · rw [if_neg (fun q => so q.2.2.2)]
          refine ⟨k0, q1, by omega, q3, fun k k1 k2 => ?_⟩
          by_cases ek : k = m
          · right
            subst ek
            unfold m_soon at so
            rw [q1, show ((k0 : Nat) : Int).toNat = k0 by omega] at so
            unfold u_lt u_tm
            omega
          · exact q4 k (by omega) k2
    · rw [if_neg (fun q => s ⟨q.1, q.2.1, q.2.2.1⟩)]
      rcases ih with ⟨q1, q2⟩ | ⟨k0, q1, q2, q3, q4⟩
      · left
        refine ⟨q1, fun k k1 => ?_⟩
        by_cases ek : k = m
        · subst ek; exact s
        · exact q2 k (by omega)
      · right
        refine ⟨k0, q1, by omega, q3, fun k k1 k2 => ?_⟩
        by_cases ek : k = m
        · subst ek; exact absurd k2 s
        · exact q4 k (by omega) k2
