theorem o_print {C : q_S} {n : Nat → Nat} {ad : Nat → Nat → Nat} {c : Nat} {a b : Int} {r : Int32} {rb : Int32} {u u2 : q_U} (h : Rel C n c) (z : gz C n) (hc : c ≤ 511) (hbit : ∀ p, C 2 5 p = 0 ∨ C 2 5 p = 1) (hp : pL_print n ad C a b r u) (hm : tX5_print u.1 u.2.1 u.2.2 a b rb u2) : Res c r (fun z => R32 z ∧ rb = iI z) u u2 := by
  obtain ⟨h1, ha, h2, h3, h3a, h4, h4a, h4c, h5, h6, h42, h41, h24, h25, h7, h7a, h8⟩ := id h
  have e2 := h1.1.1
  have e8 := h1.1.2.2
  rcases hp with ⟨v, z0, hz0, hv, rfl, rfl⟩ | ⟨hx, rfl, rfl⟩ | ⟨hx, rfl, rfl⟩
  · have ca : (1 ≤ a ∧ a ≤ (n 2 : Int)) ∧ (0 ≤ b ∧ b ≤ 50000) := by
      rcases hv with ⟨q1, q2, -⟩ | ⟨q1, q2, -⟩ | ⟨q1, q2, -⟩ <;> exact ⟨q1, q2⟩
    have cb := ca.2
    obtain ⟨p, rfl⟩ : ∃ p : Nat, a = (p : Int) + 1 := ⟨(a - 1).toNat, by omega⟩
    have ep : ((p : Int) + 1 - 1).toNat = p := by omega
    have ep1 : ((p : Int) + 1).toNat = p + 1 := by omega
    have q25 := (h25.2 p).1 (by omega)
    have ca2 : 1 ≤ (p : Int) + 1 ∧ (p : Int) + 1 ≤ C 5 1 0 := by omega
    unfold tX4_print at hv
    rw [ep] at hv
    by_cases h0 : C 2 4 p = 0
    · obtain ⟨rfl, ce⟩ : v = (n, ad, C) ∧ iI z0 = iI 0 := by
        rcases hv with ⟨-, -, -, q1, q2⟩ | ⟨-, -, q, -⟩ | ⟨-, -, q, -⟩
        · exact ⟨q1, q2⟩
        · exact absurd h0 q
        · exact absurd h0 q
      have m25 : C 25 ((p : Int) + 1).toNat 0 = -1 := by rw [ep1, q25, h0]; rfl
      rcases hm with ⟨ma, mx, mb, -⟩ | ⟨ma, mx, mb, -⟩ | ⟨ma, mx, mb, rfl, rfl⟩ | ⟨ma, mx, -⟩ | ⟨ma, -⟩
      · exact absurd m25 mb
      · exact absurd m25 mb
      · exact Res_r h ⟨hz0, ce.symm⟩
      · exact absurd cb mx
      · exact absurd ca2 ma
    · obtain ⟨k, j, k1, k2, k3, k4, k5, k6, k7, k8, k9⟩ := h.at z h0
      obtain ⟨t, t1, t2, t3, t4⟩ := h.jt k2
      have qP := ((h4.2 j).2.2.2.2 k2).2.1
      have q6 := h6 k k1
      have q5 := (h5 k).2.2.2 k1
      rw [k9] at q6
      have q6w := (q6.2.2.2.2.2.1 (by omega)).1
      have m25 : C 25 ((p : Int) + 1).toNat 0 = (k : Int) := by rw [ep1, q25, k3]; omega
      have d42 : C 42 k 0 / C 0 2 j = C 1 4 k ∧ C 42 k 0 % C 0 2 j = C 1 5 k := by rw [h42 k, k9]; exact divP qP.1 q6.2.2.2.1
      have p32 : C 32 (C 38 k 0).toNat 0 = C 0 2 j := by rw [k8, show ((j : Int) + 1).toNat = j + 1 by omega, (h4.2 j).2.1]
      have p31 : C 31 (C 38 k 0).toNat 0 = (t : Int) + 1 := by rw [k8, show ((j : Int) + 1).toNat = j + 1 by omega, t3]
      have p28 : C 28 (t + 1) 0 = C 3 1 t := (h3 t).2.1
      have ek : (C 2 4 p - 1).toNat = k := by omega
      have ej : (C 1 0 k - 1).toNat = j := by omega
      have et : (C 0 1 j - 1).toNat = t := by omega
      have p39 := (h5 k).2.1
      have r32 := h3a t 0 (by decide)
      have r33 := h3a t 1 (by decide)
      have r32 : C 29 (4 * t) 0 = C 3 2 t ∧ 0 ≤ C 3 2 t ∧ C 3 2 t ≤ 60000 * (c : Int) := r32
      have r33 : C 29 (4 * t + 1) 0 = C 3 3 t ∧ 0 ≤ C 3 3 t ∧ C 3 3 t ≤ 60000 * (c : Int) := r33
      have hsd := (h3 t).2.2 t1
      have hsum := c_sq_sum (P := C 0 2 j) (K := C 1 2 k) (sd := C 3 1 t) (b := b) (w0 := C 1 4 k) (x0 := C 1 5 k) (s1 := C 3 3 t) (d0 := C 2 5 p) qP.1 q6.2.2.2.1 ⟨q6.2.2.1.1, q6w⟩ cb.1 100
      have hbnd := (c_sq_i (P := C 0 2 j) (K := C 1 2 k) (sd := C 3 1 t) (b := b) (w0 := C 1 4 k) (x0 := C 1 5 k) (s1 := C 3 3 t) (d0 := C 2 5 p) qP q6.2.2.2.1 ⟨q6.2.2.1.1, by omega⟩ cb.1 (hbit p) 100).2.2.2.1
      rw [ek, ej, et] at hv
      unfold c_ps at hv
      rw [show c_sq (C 0 2 j) (C 1 2 k) (C 3 1 t) b (C 1 4 k) (C 1 5 k) (C 3 3 t) (C 2 5 p) 100 = c_pq C p k j t b 100 from rfl] at hsum hbnd
      generalize c_pq C p k j t b 100 = Q at hv hsum hbnd
      obtain ⟨w, x, o, s, d⟩ := Q
      dsimp only at hv hsum hbnd
      obtain ⟨i1, i2, i3, i4, i5, i6, i7, i8, i9, i10⟩ := hsum
      have i9 : o = b ∨ w = C 1 2 k := by
        rcases i9 with q | q | q
        · exact Or.inl q
        · exact Or.inr q
        · right; omega
      have e42 : C 42 k 0 = C 1 4 k * C 0 2 j + C 1 5 k := by rw [h42 k, k9]
      have hout : (if b < C 1 2 k * C 0 2 j - C 42 k 0 then b else C 1 2 k * C 0 2 j - C 42 k 0) = o := by
        by_cases ew : w = C 1 2 k
        · have := i5 ew
          rw [ew] at i1
          split <;> omega
        · have m3 : (w + 1) * C 0 2 j ≤ C 1 2 k * C 0 2 j := Int.mul_le_mul_of_nonneg_right (by omega) (by omega)
          rw [Int.add_mul, Int.one_mul] at m3
          split <;> omega
      have hov : C 42 k 0 + o = C 1 2 k * C 0 2 j ↔ w = C 1 2 k := by
        constructor
        · intro q
          by_cases ew : w = C 1 2 k
          · exact ew
          · have m3 : (w + 1) * C 0 2 j ≤ C 1 2 k * C 0 2 j := Int.mul_le_mul_of_nonneg_right (by omega) (by omega)
            rw [Int.add_mul, Int.one_mul] at m3
            omega
        · intro ew
          have := i5 ew
          rw [ew] at i1
          omega
      have hod : m_odd (C 0 2 j) (C 42 k 0 + o) = w * ((C 0 2 j + 1) / 2) + (x + 1) / 2 ∧ m_odd (C 0 2 j) (C 42 k 0) = C 1 4 k * ((C 0 2 j + 1) / 2) + (C 1 5 k + 1) / 2 := by
        unfold m_odd
        rw [show C 42 k 0 + o = w * C 0 2 j + x by omega, (divP qP.1 i2).1, (divP qP.1 i2).2, d42.1, d42.2]
        exact ⟨rfl, rfl⟩
      have hsh : (if C 3 1 t = 2 then (if 0 < o ∧ ¬ C 2 5 p = 0 ∧ C 1 5 k % 2 = 1 then m_odd (C 0 2 j) (C 42 k 0 + o) - m_odd (C 0 2 j) (C 42 k 0) + 1 else m_odd (C 0 2 j) (C 42 k 0 + o) - m_odd (C 0 2 j) (C 42 k 0)) else o) = s - C 3 3 t := by
        rw [hod.1, hod.2]
        rcases hsd with q | q
        · rw [if_neg (by omega)]
          have := i6 q
          omega
        · rw [if_pos q]
          have i7 := i7 (by omega)
          by_cases e : 0 < o ∧ ¬ C 2 5 p = 0 ∧ C 1 5 k % 2 = 1
          · rw [if_pos e] at i7 ⊢; omega
          · rw [if_neg e] at i7 ⊢; omega
      have hfr : (if ¬ C 2 5 p = 0 ∧ o = 0 then (1 : Int) else 0) = d := by
        have hb := hbit p
        by_cases e : 0 < o
        · rw [if_pos e] at i8
          rw [if_neg (by omega)]; omega
        · rw [if_neg e] at i8
          by_cases e2 : C 2 5 p = 0
          · rw [if_neg (fun r => r.1 e2)]; omega
          · rw [if_pos ⟨e2, by omega⟩]; omega
      have i1T : (4 * ((t : Int) + 1) - 4).toNat = 4 * t := by omega
      have i2T : (4 * ((t : Int) + 1) - 4 + 1).toNat = 4 * t + 1 := by omega
      have lem : ∀ V : q_S, (∀ kd s, (kd = 5 ∨ (20 ≤ kd ∧ kd < 50)) → V kd s 0 = C kd s 0) → tX5_print n ad V ((p : Int) + 1) b rb u2 →
          (w = C 1 2 k ∧ u2 = (n, ad, m_leave (q_up (q_up (q_up (q_up (q_up V 5 0 0 0) 29 (4 * t) 0 (C 3 2 t + o)) 29 (4 * t + 1) 0 s) 42 k 0 (C 42 k 0 + o)) 43 k 0 d) ((p : Int) + 1)) ∧ rb = iI o) ∨
          (¬ w = C 1 2 k ∧ u2 = (n, ad, q_up (q_up (q_up (q_up (q_up V 5 0 0 0) 29 (4 * t) 0 (C 3 2 t + o)) 29 (4 * t + 1) 0 s) 42 k 0 (C 42 k 0 + o)) 43 k 0 d) ∧ rb = iI o) := by
        intro V LV hm
        have mh2 : m_hk V ((p : Int) + 1) = k := by unfold m_hk; rw [LV 25 _ (by omega), m25]; omega
        have mo : m_out V ((p : Int) + 1) b = o := by
          unfold m_out
          rw [mh2, LV 39 _ (Or.inr (by decide)), LV 38 _ (Or.inr (by decide)), LV 32 _ (Or.inr (by decide)), LV 42 _ (Or.inr (by decide)), p32, p39]
          exact hout
        have ms : m_she V ((p : Int) + 1) b = s - C 3 3 t := by
          unfold m_she
          rw [mo, mh2, LV 38 _ (Or.inr (by decide)), LV 32 _ (Or.inr (by decide)), LV 42 _ (Or.inr (by decide)), LV 31 _ (Or.inr (by decide)), LV 43 _ (Or.inr (by decide)), p32, p31, show ((t : Int) + 1).toNat = t + 1 by omega, LV 28 _ (Or.inr (by decide)), p28, k6, d42.2]
          exact hsh
        have mf : m_frs V ((p : Int) + 1) b = d := by
          unfold m_frs
          rw [mo, mh2, LV 43 _ (Or.inr (by decide)), k6]
          exact hfr
        unfold tX5_print at hm
        rw [mh2, mo, ms, mf, LV 38 _ (Or.inr (by decide)), LV 31 _ (Or.inr (by decide)), p31, i1T, i2T, LV 29 _ (Or.inr (by decide)), LV 29 _ (Or.inr (by decide)), LV 42 _ (Or.inr (by decide)), r32.1, r33.1, show C 3 3 t + (s - C 3 3 t) = s by omega] at hm
        have mov : m_over (q_up (q_up (q_up (q_up (q_up V 5 0 0 0) 29 (4 * t) 0 (C 3 2 t + o)) 29 (4 * t + 1) 0 s) 42 k 0 (C 42 k 0 + o)) 43 k 0 d) k ↔ w = C 1 2 k := by
          rw [← hov]
          unfold m_over
          simp only [q_ua, Nat.reduceEqDiff, false_and, and_false, true_and, and_true, ↓reduceIte, Nat.succ_ne_self, Nat.add_right_cancel_iff]
          rw [LV 39 _ (Or.inr (by decide)), LV 38 _ (Or.inr (by decide)), LV 32 _ (Or.inr (by decide)), p32, p39]
        rcases hm with ⟨ma, mx, mb, mc, q1, q2⟩ | ⟨ma, mx, mb, mc, q1, q2⟩ | ⟨ma, mx, mb, -⟩ | ⟨ma, mx, -⟩ | ⟨ma, -⟩
        · exact Or.inl ⟨mov.mp mc, q1, q2⟩
        · exact Or.inr ⟨fun q => mc (mov.mpr q), q1, q2⟩
        · rw [LV 25 _ (Or.inr (by decide)), m25] at mb; omega
        · exact absurd cb mx
        · rw [LV 5 _ (Or.inl rfl)] at ma; exact absurd ca2 ma
      rcases hv with ⟨-, -, q, -⟩ | ⟨-, -, -, cw, rfl, ce⟩ | ⟨-, -, -, cw, rfl, ce⟩
      · exact absurd q h0
      · rcases lem _ (fun kd s q => by dsimp only; unfold c_pst; rw [q_ua, if_neg (by omega), q_ua, if_neg (by omega), q_ua, if_neg (by omega), q_ua, if_neg (by omega), q_ua, if_neg (by omega), q_ua, if_neg (by omega)]) hm with ⟨q1, -⟩ | ⟨q1, rfl, rfl⟩
        · omega
        · refine ⟨0, by omega, rfl, rfl, fun _ => ⟨z0, ⟨hz0, ce.symm⟩, rfl⟩, rfl, rfl, ?_⟩
          exact R_print0 h z (by omega) k1 k3 k4 k5 (by omega) (by omega) (by rw [k9]; exact i2) (by omega) rfl rfl rfl rfl rfl rfl (by rw [k9]; omega) rfl
      · rcases lem _ (fun kd s q => by dsimp only; unfold c_pst; rw [q_ua, if_neg (by omega), q_ua, if_neg (by omega), q_ua, if_neg (by omega), q_ua, if_neg (by omega), q_ua, if_neg (by omega), q_ua, if_neg (by omega), q_ua, if_neg (by omega), q_ua, if_neg (by omega)]) hm with ⟨q1, rfl, rfl⟩ | ⟨q1, -⟩
        · refine ⟨0, by omega, rfl, rfl, fun _ => ⟨z0, ⟨hz0, ce.symm⟩, rfl⟩, rfl, rfl, ?_⟩
          refine R_print1 h z (by omega) k1 k3 k4 k5 (by omega) (by omega) (by rw [k9]; exact i2) (by omega) rfl rfl rfl rfl rfl rfl (by rw [k9]; omega) rfl (i5 q1) ?_ ep1
          show k = (C 25 ((p : Int) + 1).toNat 0).toNat
          rw [m25]; omega
        · omega
  · have cx : ¬ (1 ≤ a ∧ a ≤ C 5 1 0) := by
      rcases hx with ⟨-, q⟩ | ⟨q, -⟩
      · omega
      · exact absurd q (by decide)
    rcases hm with ⟨ma, -⟩ | ⟨ma, -⟩ | ⟨ma, -⟩ | ⟨ma, -⟩ | ⟨ma, rfl, rfl⟩
    · exact absurd ma cx
    · exact absurd ma cx
    · exact absurd ma cx
    · exact absurd ma cx
    · exact Res_x h (by decide)
  · have cx : (1 ≤ a ∧ a ≤ C 5 1 0) ∧ ¬ (0 ≤ b ∧ b ≤ 50000) := by
      rcases hx with ⟨q, -⟩ | ⟨-, q⟩
      · exact absurd q (by decide)
      · exact ⟨by omega, q.2⟩
    rcases hm with ⟨ma, mb, -⟩ | ⟨ma, mb, -⟩ | ⟨ma, mb, -⟩ | ⟨ma, mb, rfl, rfl⟩ | ⟨ma, -⟩
    · exact absurd mb cx.2
    · exact absurd mb cx.2
    · exact absurd mb cx.2
    · exact Res_x h (by decide)
    · exact absurd cx.1 ma
