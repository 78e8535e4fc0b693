/-- what the model's scan over a job's parts comes to -/
def m_cf (X : q_S) (a : Int) (k : Nat) : q_S := fun kd s i => if i = 0 ∧ (kd = 44 ∨ kd = 41) ∧ s < k ∧ X 38 s 0 = a then 0 else if i = 0 ∧ kd = 25 ∧ (1 ≤ s ∧ s ≤ 8) ∧ 0 ≤ X 25 s 0 ∧ X 25 s 0 < k ∧ X 38 (X 25 s 0).toNat 0 = a then -1 else X kd s i
theorem cf44 (X : q_S) (a : Int) (k s : Nat) : m_cf X a k 44 s 0 = if s < k ∧ X 38 s 0 = a then 0 else X 44 s 0 := by
  unfold m_cf
  by_cases e : s < k ∧ X 38 s 0 = a
  · rw [if_pos ⟨rfl, Or.inl rfl, e⟩, if_pos e]
  · rw [if_neg (fun q => e q.2.2), if_neg (fun q => absurd q.2.1 (by decide)), if_neg e]
theorem cf41 (X : q_S) (a : Int) (k s : Nat) : m_cf X a k 41 s 0 = if s < k ∧ X 38 s 0 = a then 0 else X 41 s 0 := by
  unfold m_cf
  by_cases e : s < k ∧ X 38 s 0 = a
  · rw [if_pos ⟨rfl, Or.inr rfl, e⟩, if_pos e]
  · rw [if_neg (fun q => e q.2.2), if_neg (fun q => absurd q.2.1 (by decide)), if_neg e]
theorem cf25 (X : q_S) (a : Int) (k s : Nat) : m_cf X a k 25 s 0 = if (1 ≤ s ∧ s ≤ 8) ∧ 0 ≤ X 25 s 0 ∧ X 25 s 0 < k ∧ X 38 (X 25 s 0).toNat 0 = a then -1 else X 25 s 0 := by
  unfold m_cf
  rw [if_neg (fun q => by have := q.2.1; omega)]
  by_cases e : (1 ≤ s ∧ s ≤ 8) ∧ 0 ≤ X 25 s 0 ∧ X 25 s 0 < k ∧ X 38 (X 25 s 0).toNat 0 = a
  · rw [if_pos ⟨rfl, rfl, e⟩, if_pos e]
  · rw [if_neg (fun q => e q.2.2), if_neg e]
theorem cfo (X : q_S) (a : Int) (k : Nat) {kd s i : Nat} (h : (¬ kd = 44 ∧ ¬ kd = 41 ∧ ¬ kd = 25) ∨ ¬ i = 0) : m_cf X a k kd s i = X kd s i := by
  unfold m_cf
  rw [if_neg (by omega), if_neg (by omega)]
theorem cf_ext {A B : q_S} (h1 : ∀ s, A 44 s 0 = B 44 s 0) (h2 : ∀ s, A 41 s 0 = B 41 s 0) (h3 : ∀ s, A 25 s 0 = B 25 s 0) (h4 : ∀ kd s i, (¬ kd = 44 ∧ ¬ kd = 41 ∧ ¬ kd = 25) ∨ ¬ i = 0 → A kd s i = B kd s i) : A = B := by
  funext kd s i
  by_cases q : (¬ kd = 44 ∧ ¬ kd = 41 ∧ ¬ kd = 25) ∨ ¬ i = 0
  · exact h4 kd s i q
  · obtain rfl : i = 0 := by omega
    rcases (show kd = 44 ∨ kd = 41 ∨ kd = 25 by omega) with rfl | rfl | rfl
    · exact h1 s
    · exact h2 s
    · exact h3 s
theorem cf_over (X : q_S) (a : Int) (k m : Nat) : m_over (m_cf X a k) m ↔ m_over X m := by
  unfold m_over
  rw [cfo X a k (Or.inl (by decide)), cfo X a k (Or.inl (by decide)), cfo X a k (Or.inl (by decide)), cfo X a k (Or.inl (by decide))]
theorem m_cs_cf {X : q_S} {a : Int} (L1 : ∀ k, X 38 k 0 = a → m_over X k → X 44 k 0 = 0 ∧ X 41 k 0 = 0) (L2 : ∀ k, 0 ≤ X 41 k 0 ∧ X 41 k 0 ≤ 8) (L3 : ∀ k : Nat, 0 < X 41 k 0 → X 25 (X 41 k 0).toNat 0 = k) (L4 : ∀ s : Nat, 1 ≤ s → s ≤ 8 → 0 ≤ X 25 s 0 → X 41 (X 25 s 0).toNat 0 = s) : ∀ k, m_cs X a k = m_cf X a k := by
  intro k
  induction k with
  | zero =>
    refine cf_ext (fun s => ?_) (fun s => ?_) (fun s => ?_) (fun kd s i q => ?_)
    · rw [cf44, if_neg (by omega)]; rfl
    · rw [cf41, if_neg (by omega)]; rfl
    · rw [cf25, if_neg (by omega)]; rfl
    · rw [cfo X a 0 q]; rfl
  | succ k ih =>
    rw [m_cs, ih]
    unfold m_c1
    have l2 := L2 k
    by_cases e : X 38 k 0 = a
    · by_cases ov : m_over X k
      · rw [if_neg (fun q => q.2 ((cf_over X a k k).mpr ov))]
        obtain ⟨o1, o2⟩ := L1 k e ov
        refine cf_ext (fun s => ?_) (fun s => ?_) (fun s => ?_) (fun kd s i q => ?_)
        · rw [cf44, cf44]
          by_cases es : s = k
          · subst es; rw [if_neg (by omega), if_pos ⟨by omega, e⟩]; exact o1
          · by_cases q : s < k ∧ X 38 s 0 = a
            · rw [if_pos q, if_pos ⟨by omega, q.2⟩]
            · rw [if_neg q, if_neg (by omega)]
        · rw [cf41, cf41]
          by_cases es : s = k
          · subst es; rw [if_neg (by omega), if_pos ⟨by omega, e⟩]; exact o2
          · by_cases q : s < k ∧ X 38 s 0 = a
            · rw [if_pos q, if_pos ⟨by omega, q.2⟩]
            · rw [if_neg q, if_neg (by omega)]
        · rw [cf25, cf25]
          by_cases q : (1 ≤ s ∧ s ≤ 8) ∧ 0 ≤ X 25 s 0 ∧ X 25 s 0 < k ∧ X 38 (X 25 s 0).toNat 0 = a
          · rw [if_pos q, if_pos ⟨q.1, q.2.1, by omega, q.2.2.2⟩]
          · rw [if_neg q, if_neg]
            rintro ⟨r1, r2, r3, r4⟩
            have := L4 s r1.1 r1.2 r2
            by_cases rk : X 25 s 0 = k
            · rw [rk, show ((k : Nat) : Int).toNat = k by omega] at this; omega
            · exact q ⟨r1, r2, by omega, r4⟩
        · rw [cfo X a k q, cfo X a (k + 1) q]
      · have c38 : m_cf X a k 38 k 0 = a := by rw [cfo X a k (Or.inl (by decide))]; exact e
        rw [if_pos ⟨c38, fun q => ov ((cf_over X a k k).mp q)⟩]
        have c41 : m_cf X a k 41 k 0 = X 41 k 0 := by rw [cf41, if_neg (by omega)]
        rw [c41]
        by_cases pos : 0 < X 41 k 0
        · rw [if_pos pos]
          have l3 := L3 k pos
          have c25 : m_cf X a k 25 (X 41 k 0).toNat 0 = (k : Int) := by rw [cf25, if_neg (by rw [l3]; omega)]; exact l3
          unfold m_leave
          have i25 : (q_up (m_cf X a k) 44 k 0 0 25 (X 41 k 0).toNat 0).toNat = k := by
            rw [q_ua, if_neg (by omega), c25]; omega
          rw [i25]
          refine cf_ext (fun s => ?_) (fun s => ?_) (fun s => ?_) (fun kd s i q => ?_)
          · simp only [q_ua, Nat.reduceEqDiff, false_and, and_false, true_and, and_true, ↓reduceIte, Nat.succ_ne_self, Nat.add_right_cancel_iff]
            rw [cf44, cf44]
            by_cases es : s = k
            · subst es; rw [if_pos rfl, if_pos ⟨by omega, e⟩]
            · rw [if_neg es]
              by_cases q : s < k ∧ X 38 s 0 = a
              · rw [if_pos q, if_pos ⟨by omega, q.2⟩]
              · rw [if_neg q, if_neg (by omega)]
          · simp only [q_ua, Nat.reduceEqDiff, false_and, and_false, true_and, and_true, ↓reduceIte, Nat.succ_ne_self, Nat.add_right_cancel_iff]
            rw [cf41, cf41]
            by_cases es : s = k
            · subst es; rw [if_pos rfl, if_pos ⟨by omega, e⟩]
            · rw [if_neg es]
              by_cases q : s < k ∧ X 38 s 0 = a
              · rw [if_pos q, if_pos ⟨by omega, q.2⟩]
              · rw [if_neg q, if_neg (by omega)]
          · simp only [q_ua, Nat.reduceEqDiff, false_and, and_false, true_and, and_true, ↓reduceIte, Nat.succ_ne_self, Nat.add_right_cancel_iff]
            rw [cf25, cf25]
            by_cases es : s = (X 41 k 0).toNat
            · rw [if_pos es, if_pos]
              rw [es, l3]
              exact ⟨by omega, by omega, by omega, by rw [show ((k : Nat) : Int).toNat = k by omega]; exact e⟩
            · rw [if_neg es]
              by_cases q : (1 ≤ s ∧ s ≤ 8) ∧ 0 ≤ X 25 s 0 ∧ X 25 s 0 < k ∧ X 38 (X 25 s 0).toNat 0 = a
              · rw [if_pos q, if_pos ⟨q.1, q.2.1, by omega, q.2.2.2⟩]
              · rw [if_neg q, if_neg]
                rintro ⟨r1, r2, r3, r4⟩
                have := L4 s r1.1 r1.2 r2
                by_cases rk : X 25 s 0 = k
                · rw [rk, show ((k : Nat) : Int).toNat = k by omega] at this; omega
                · exact q ⟨r1, r2, by omega, r4⟩
          · rw [q_ua, if_neg (by omega), q_ua, if_neg (by omega), q_ua, if_neg (by omega), cfo X a k q, cfo X a (k + 1) q]
        · rw [if_neg pos]
          refine cf_ext (fun s => ?_) (fun s => ?_) (fun s => ?_) (fun kd s i q => ?_)
          · simp only [q_ua, Nat.reduceEqDiff, false_and, and_false, true_and, and_true, ↓reduceIte, Nat.succ_ne_self, Nat.add_right_cancel_iff]
            rw [cf44, cf44]
            by_cases es : s = k
            · subst es; rw [if_pos rfl, if_pos ⟨by omega, e⟩]
            · rw [if_neg es]
              by_cases q : s < k ∧ X 38 s 0 = a
              · rw [if_pos q, if_pos ⟨by omega, q.2⟩]
              · rw [if_neg q, if_neg (by omega)]
          · simp only [q_ua, Nat.reduceEqDiff, false_and, and_false, true_and, and_true, ↓reduceIte, Nat.succ_ne_self, Nat.add_right_cancel_iff]
            rw [cf41, cf41]
            by_cases es : s = k
            · subst es; rw [if_neg (by omega), if_pos ⟨by omega, e⟩]; omega
            · by_cases q : s < k ∧ X 38 s 0 = a
              · rw [if_pos q, if_pos ⟨by omega, q.2⟩]
              · rw [if_neg q, if_neg (by omega)]
          · simp only [q_ua, Nat.reduceEqDiff, false_and, and_false, true_and, and_true, ↓reduceIte, Nat.succ_ne_self, Nat.add_right_cancel_iff]
            rw [cf25, cf25]
            by_cases q : (1 ≤ s ∧ s ≤ 8) ∧ 0 ≤ X 25 s 0 ∧ X 25 s 0 < k ∧ X 38 (X 25 s 0).toNat 0 = a
            · rw [if_pos q, if_pos ⟨q.1, q.2.1, by omega, q.2.2.2⟩]
            · rw [if_neg q, if_neg]
              rintro ⟨r1, r2, r3, r4⟩
              have := L4 s r1.1 r1.2 r2
              by_cases rk : X 25 s 0 = k
              · rw [rk, show ((k : Nat) : Int).toNat = k by omega] at this; omega
              · exact q ⟨r1, r2, by omega, r4⟩
          · rw [q_ua, if_neg (by omega), cfo X a k q, cfo X a (k + 1) q]
    · rw [if_neg (fun q => e (by rw [← q.1, cfo X a k (Or.inl (by decide))]))]
      refine cf_ext (fun s => ?_) (fun s => ?_) (fun s => ?_) (fun kd s i q => ?_)
      · rw [cf44, cf44]
        by_cases q : s < k ∧ X 38 s 0 = a
        · rw [if_pos q, if_pos ⟨by omega, q.2⟩]
        · rw [if_neg q, if_neg]
          rintro ⟨r1, r2⟩
          exact q ⟨by have : ¬ s = k := fun w => e (w ▸ r2); omega, r2⟩
      · rw [cf41, cf41]
        by_cases q : s < k ∧ X 38 s 0 = a
        · rw [if_pos q, if_pos ⟨by omega, q.2⟩]
        · rw [if_neg q, if_neg]
          rintro ⟨r1, r2⟩
          exact q ⟨by have : ¬ s = k := fun w => e (w ▸ r2); omega, r2⟩
      · rw [cf25, cf25]
        by_cases q : (1 ≤ s ∧ s ≤ 8) ∧ 0 ≤ X 25 s 0 ∧ X 25 s 0 < k ∧ X 38 (X 25 s 0).toNat 0 = a
        · rw [if_pos q, if_pos ⟨q.1, q.2.1, by omega, q.2.2.2⟩]
        · rw [if_neg q, if_neg]
          rintro ⟨r1, r2, r3, r4⟩
          by_cases rk : X 25 s 0 = k
          · rw [rk, show ((k : Nat) : Int).toNat = k by omega] at r4; exact e r4
          · exact q ⟨r1, r2, by omega, r4⟩
      · rw [cfo X a k q, cfo X a (k + 1) q]
/-- the links, at a state whose model's half is C's -/
theorem Rel.links {C X : q_S} {n : Nat → Nat} {c : Nat} (h : Rel C n c) (z : gz C n) (hX : Like X C) (j : Nat) : (∀ k, X 38 k 0 = (j : Int) + 1 → m_over X k → X 44 k 0 = 0 ∧ X 41 k 0 = 0) ∧ (∀ k, 0 ≤ X 41 k 0 ∧ X 41 k 0 ≤ 8) ∧ (∀ k : Nat, 0 < X 41 k 0 → X 25 (X 41 k 0).toNat 0 = k) ∧ (∀ s : Nat, 1 ≤ s → s ≤ 8 → 0 ≤ X 25 s 0 → X 41 (X 25 s 0).toNat 0 = s) := by
  obtain ⟨h1, ha, h2, h3, h3a, h4, h4a, h4c, h5, h6, h42, h41, h24, h25, h7, h7a, h8⟩ := id h
  have p8 := h1.1.2.2
  have x41 : ∀ k, X 41 k 0 = C 41 k 0 := fun k => hX.1 41 k (by decide) (by decide)
  have x25 : ∀ k, X 25 k 0 = C 25 k 0 := fun k => hX.1 25 k (by decide) (by decide)
  refine ⟨fun k e ov => ?_, fun k => ?_, fun k pos => ?_, fun s s1 s2 s3 => ?_⟩
  · rw [hX.1 38 k (by decide) (by decide), (h5 k).1] at e
    have hk : k < n 1 := by
      by_cases q : k < n 1
      · exact q
      · have := z.1 1 0 k (by omega); omega
    have w := (h.over hX hk).mp ov
    have q6 := h6 k hk
    have s2 : C 1 3 k = 2 := by
      by_cases q : C 1 3 k = 2
      · exact q
      · have := (q6.2.2.2.2.2.1 q).1; omega
    rw [hX.1 44 k (by decide) (by decide), q6.2.1, s2, x41]
    exact ⟨by decide, (h41 k).2 (by omega)⟩
  · rw [x41]
    by_cases q : C 1 3 k = 1
    · have := (h41 k).1 q; omega
    · have := (h41 k).2 q; omega
  · rw [x41] at pos ⊢
    rw [x25]
    have q : C 1 3 k = 1 := by
      by_cases q : C 1 3 k = 1
      · exact q
      · have := (h41 k).2 q; omega
    have r := (h41 k).1 q
    have := (h25.2 (C 41 k 0 - 1).toNat).1 (by omega)
    rw [r.2.2, show (C 41 k 0 - 1).toNat + 1 = (C 41 k 0).toNat by omega] at this
    omega
  · rw [x25] at s3 ⊢
    rw [x41]
    have := (h25.2 (s - 1)).1 (by omega)
    rw [show s - 1 + 1 = s by omega] at this
    have r := (h24 (s - 1) (by omega)).2.1
    rw [show (C 2 4 (s - 1) - 1).toNat = (C 25 s 0).toNat by omega] at r
    omega
theorem m_R_cg {C D : q_S} {c : Nat} (he : ∀ kd s, (kd = 5 ∧ ¬ s = 0) ∨ (20 ≤ kd ∧ kd < 50) → D kd s 0 = C kd s 0) (h : m_R C c) : m_R D c := by
  unfold m_R at h ⊢
  simp only [he 5 1 (Or.inl ⟨rfl, by decide⟩), he 5 6 (Or.inl ⟨rfl, by decide⟩), he 5 10 (Or.inl ⟨rfl, by decide⟩), he 5 17 (Or.inl ⟨rfl, by decide⟩), he 5 25 (Or.inl ⟨rfl, by decide⟩), he 5 28 (Or.inl ⟨rfl, by decide⟩), fun s => he 38 s (Or.inr (by decide)), fun s => he 31 s (Or.inr (by decide)), fun s => he 32 s (Or.inr (by decide)), fun s => he 25 s (Or.inr (by decide)), fun s => he 41 s (Or.inr (by decide)), fun s => he 39 s (Or.inr (by decide)), fun s => he 42 s (Or.inr (by decide)), fun s => he 40 s (Or.inr (by decide)), fun s => he 29 s (Or.inr (by decide)), fun s => he 24 s (Or.inr (by decide)), fun s => he 34 s (Or.inr (by decide)), fun s => he 33 s (Or.inr (by decide)), fun s => he 47 s (Or.inr (by decide))]
  exact h
theorem m_S_cg {C D : q_S} {n n' : Nat → Nat} (he : ∀ s, ¬ s = 0 → D 5 s 0 = C 5 s 0) (hn : ∀ k, 4 ≤ k → n' k = n k) (h : m_S C n) : m_S D n' := by
  refine ⟨by rw [hn 5 (by decide)]; exact h.1, fun s hs => ⟨?_, by rw [hn (20 + s) (by omega)]; exact (h.2 s hs).2⟩⟩
  rw [he s (fun q => by subst q; exact absurd hs (by decide))]
  exact (h.2 s hs).1
theorem m_R_cf {X : q_S} {a : Int} {c k : Nat} (h : m_R X c) : m_R (m_cf X a k) c := by
  have h41 := fun s => m_R41 h s
  have h25 := fun s => m_R25 h s
  obtain ⟨m1, m2, m3, m4, m5, m6, m7, m8, m9, m10, m11, m12, m13, m14, m15, m16, m17, m18, m19, m20, m21, m22, m23⟩ := h
  refine ⟨m1, m2, m3, m4, m5, m6, m7, m8, m9, fun s => ?_, fun s => ?_, m12, m13, m14, m15, m16, m17, m18, m19, m20, fun s hs => ?_, fun s => ?_, m23⟩
  · rw [cf25]; split
    · omega
    · exact m10 s
  · rw [cf41]; split
    · omega
    · exact m11 s
  · show m_cf X a k 25 s 0 < X 5 17 0
    rw [cf25]; split
    · omega
    · exact m21 s hs
  · show m_cf X a k 41 s 0 ≤ X 5 1 0
    rw [cf41]; split
    · omega
    · exact m22 s
/-- what the model's cancel asks of the start -/
theorem Rel.hE {C V : q_S} {n n' : Nat → Nat} {c : Nat} (h : Rel C n c) (z : gz C n) (hc : c ≤ 600) (hn : ∀ k, 4 ≤ k → n' k = n k) (LV : ∀ kd s, (kd = 5 ∨ (20 ≤ kd ∧ kd < 50)) → V kd s 0 = C kd s 0) {a : Int} :
    ∀ k, m_S (m_cs (q_up V 5 0 0 0) a k) n' ∧ m_R (m_cs (q_up V 5 0 0 0) a k) c ∧ (∀ i, 0 < m_cs (q_up V 5 0 0 0) a k 41 i 0 → 0 ≤ m_cs (q_up V 5 0 0 0) a k 25 (m_cs (q_up V 5 0 0 0) a k 41 i 0).toNat 0) ∧ m_cs (q_up V 5 0 0 0) a k 5 17 0 = V 5 17 0 := by
  have mR : m_R (q_up V 5 0 0 0) c := m_R_cg (fun kd s q => by rw [q_ua, if_neg (by omega), LV kd s (by omega)]) (h.mR z hc)
  have mS : m_S (q_up V 5 0 0 0) n' := m_S_cg (fun s q => by rw [q_ua, if_neg (fun r => q r.2.1), LV 5 s (Or.inl rfl)]) hn h.2.2.2.2.2.2.2.2.2.2.2.2.2.2.2.2.2.1
  have LX : Like (q_up V 5 0 0 0) C := ⟨fun kd s q1 q2 => by rw [q_ua, if_neg (by omega), LV kd s (Or.inr ⟨q1, q2⟩)], fun s q => by rw [q_ua, if_neg (fun r => q r.2.1), LV 5 s (Or.inl rfl)]⟩
  generalize hX : q_up V 5 0 0 0 = X at mR mS LX ⊢
  have e17 : X 5 17 0 = V 5 17 0 := by rw [← hX]; rfl
  have z' := z
  obtain ⟨L1, L2, L3, L4⟩ := h.links z LX (a - 1).toNat
  intro k
  by_cases ha : 1 ≤ a
  · rw [show (((a - 1).toNat : Nat) : Int) + 1 = a by omega] at L1
    rw [m_cs_cf L1 L2 L3 L4 k]
    refine ⟨⟨mS.1, fun s hs => ⟨by rw [cfo X a k (Or.inl (by decide))]; exact (mS.2 s hs).1, (mS.2 s hs).2⟩⟩, m_R_cf mR, fun i pos => ?_, by rw [cfo X a k (Or.inl (by decide))]; exact e17⟩
    rw [cf41] at pos ⊢
    by_cases q : i < k ∧ X 38 i 0 = a
    · rw [if_pos q] at pos; omega
    · rw [if_neg q] at pos ⊢
      have l3 := L3 i pos
      rw [cf25, if_neg]
      · omega
      · rintro ⟨r1, r2, r3, r4⟩
        rw [l3] at r3 r4
        exact q ⟨by omega, by rw [show ((i : Nat) : Int).toNat = i by omega] at r4; exact r4⟩
  · have idm : ∀ k, m_cs X a k = X := by
      intro k
      induction k with
      | zero => rfl
      | succ k ih =>
        rw [m_cs, ih]
        unfold m_c1
        rw [if_neg]
        rintro ⟨r1, r2⟩
        obtain ⟨h1, h_a, h2, h3, h3a, h4, h4a, h4c, h5, h6, h42, h41, h24, h25, h7, h7a, h8⟩ := h
        rw [LX.1 38 k (by decide) (by decide), (h5 k).1] at r1
        by_cases q : k < n 1
        · have := ((h5 k).2.2.2 q).1; omega
        · apply r2
          unfold m_over
          rw [LX.1 42 k (by decide) (by decide), h42 k, LX.1 39 k (by decide) (by decide), (h5 k).2.1, z.1 1 4 k (by omega), z.1 1 5 k (by omega), z.1 1 2 k (by omega)]
          omega
    rw [idm k]
    exact ⟨mS, mR, fun i pos => by have := L3 i pos; omega, e17⟩
theorem c_csr {r : Nat → Nat → Bool} {C D : q_S} {j k : Nat} (hk : r 1 3 = false) (h : ∀ kd s i, r kd s = true → D kd s i = C kd s i) : ∀ a b d, r a b = true → c_cs D j k a b d = C a b d := by
  intro a b d hr
  unfold c_cs
  rw [if_neg]
  · exact h a b d hr
  · rintro ⟨rfl, rfl, -⟩
    rw [hk] at hr
    exact Bool.false_ne_true hr
theorem c_epr {r : Nat → Nat → Bool} {C D : q_S} {j k : Nat} (hk : r 2 4 = false) (h : ∀ kd s i, r kd s = true → D kd s i = C kd s i) : ∀ a b d, r a b = true → c_ep D j k a b d = C a b d := by
  intro a b d hr
  unfold c_ep
  rw [if_neg]
  · exact h a b d hr
  · rintro ⟨rfl, rfl, -⟩
    rw [hk] at hr
    exact Bool.false_ne_true hr
theorem m_cfr {r : Nat → Nat → Bool} {C D : q_S} {x : Int} {k : Nat} (h1 : ∀ s, r 44 s = false) (h2 : ∀ s, r 41 s = false) (h3 : ∀ s, r 25 s = false) (h : ∀ kd s i, r kd s = true → D kd s i = C kd s i) : ∀ a b d, r a b = true → m_cf D x k a b d = C a b d := by
  intro a b d hr
  rw [cfo D x k]
  · exact h a b d hr
  · left
    refine ⟨?_, ?_, ?_⟩
    · rintro rfl; rw [h1] at hr; exact Bool.false_ne_true hr
    · rintro rfl; rw [h2] at hr; exact Bool.false_ne_true hr
    · rintro rfl; rw [h3] at hr; exact Bool.false_ne_true hr
theorem busy_le {C D : q_S} (h : ∀ p, D 2 4 p = C 2 4 p ∨ D 2 4 p = 0) : ∀ m, busy D m ≤ busy C m := by
  intro m
  induction m with
  | zero => exact Int.le_refl _
  | succ m ih =>
    rw [busy, busy]
    rcases h m with q | q
    · rw [q]; omega
    · rw [q, if_pos rfl]; split <;> omega

theorem c_ep_24 (Y : q_S) (j k p : Nat) : c_ep Y j k 2 4 p = if p < k ∧ ¬ Y 2 4 p = 0 ∧ Y 1 0 (Y 2 4 p - 1).toNat = (j : Int) + 1 then 0 else Y 2 4 p := by
  unfold c_ep
  by_cases e : p < k ∧ ¬ Y 2 4 p = 0 ∧ Y 1 0 (Y 2 4 p - 1).toNat = (j : Int) + 1
  · rw [if_pos e, if_pos ⟨rfl, rfl, e⟩]
  · rw [if_neg e, if_neg (fun r => e r.2.2)]
def r_cn (kd s : Nat) : Bool := !(kd == 1 && s == 3) && !(kd == 2 && s == 4) && !(kd == 0 && s == 6) && !(kd == 44) && !(kd == 41) && !(kd == 25) && !(kd == 36) && !(kd == 50) && !(kd == 5 && s == 0)
theorem R_cancel {C : q_S} {n : Nat → Nat} {c : Nat} (h : Rel C n c) (z : gz C n) {j mk mj : Nat} {xa z0 : Int} (hj : j < n 0) (e1 : xa = (j : Int) + 1) (e2 : mk = n 1) (e3 : mj = j + 1) : Rel (q_up (m_cf (q_up (q_up (c_ep (q_up (c_cs C j (n 1)) 0 6 j 1) j 8) 50 0 0 z0) 5 0 0 0) xa mk) 36 mj 0 1) n (c + 1) := by
  subst e1 e2 e3
  obtain ⟨h1, ha, h2, h3, h3a, h4, h4a, h4c, h5, h6, h42, h41, h24, h25, h7, h7a, h8⟩ := id h
  have p8 := h1.1.2.2
  have q24 : ∀ p, ¬ C 2 4 p = 0 → p < n 2 := fun p hp => by
    by_cases q : p < n 2
    · exact q
    · exact absurd (z.1 2 4 p (by omega)) hp
  -- what is read
  have d13 : ∀ q, (q_up (m_cf (q_up (q_up (c_ep (q_up (c_cs C j (n 1)) 0 6 j 1) j 8) 50 0 0 z0) 5 0 0 0) ((j : Int) + 1) (n 1)) 36 (j + 1) 0 1) 1 3 q = if q < n 1 ∧ C 1 0 q = (j : Int) + 1 then 2 else C 1 3 q := by
    intro q
    rw [q_ua, if_neg (by omega), cfo _ _ _ (Or.inl (by decide)), q_ua, if_neg (by omega), q_ua, if_neg (by omega)]
    show c_ep (q_up (c_cs C j (n 1)) 0 6 j 1) j 8 1 3 q = _
    unfold c_ep
    rw [if_neg (by omega), q_ua, if_neg (by omega)]
    unfold c_cs
    by_cases e : q < n 1 ∧ C 1 0 q = (j : Int) + 1
    · rw [if_pos e, if_pos ⟨rfl, rfl, e⟩]
    · rw [if_neg e, if_neg (fun r => e r.2.2)]
  have d24 : ∀ p, (q_up (m_cf (q_up (q_up (c_ep (q_up (c_cs C j (n 1)) 0 6 j 1) j 8) 50 0 0 z0) 5 0 0 0) ((j : Int) + 1) (n 1)) 36 (j + 1) 0 1) 2 4 p = if ¬ C 2 4 p = 0 ∧ C 1 0 (C 2 4 p - 1).toNat = (j : Int) + 1 then 0 else C 2 4 p := by
    intro p
    rw [q_ua, if_neg (by omega), cfo _ _ _ (Or.inl (by decide)), q_ua, if_neg (by omega), q_ua, if_neg (by omega)]
    have y24 : q_up (c_cs C j (n 1)) 0 6 j 1 2 4 p = C 2 4 p := rfl
    have y10 : ∀ x, q_up (c_cs C j (n 1)) 0 6 j 1 1 0 x = C 1 0 x := fun _ => rfl
    rw [c_ep_24, y24, y10]
    by_cases e : ¬ C 2 4 p = 0 ∧ C 1 0 (C 2 4 p - 1).toNat = (j : Int) + 1
    · rw [if_pos e, if_pos ⟨by have := q24 p e.1; omega, e⟩]
    · rw [if_neg e, if_neg (fun r => e r.2)]
  have d06 : ∀ q, (q_up (m_cf (q_up (q_up (c_ep (q_up (c_cs C j (n 1)) 0 6 j 1) j 8) 50 0 0 z0) 5 0 0 0) ((j : Int) + 1) (n 1)) 36 (j + 1) 0 1) 0 6 q = if q = j then 1 else C 0 6 q := by
    intro q
    rw [q_ua, if_neg (by omega), cfo _ _ _ (Or.inl (by decide)), q_ua, if_neg (by omega), q_ua, if_neg (by omega)]
    show c_ep (q_up (c_cs C j (n 1)) 0 6 j 1) j 8 0 6 q = _
    unfold c_ep
    rw [if_neg (by omega), q_ua]
    by_cases e : q = j
    · rw [if_pos e, if_pos ⟨rfl, rfl, e⟩]
    · rw [if_neg e, if_neg (fun r => e r.2.2)]
      rfl
  have d44 : ∀ q, (q_up (m_cf (q_up (q_up (c_ep (q_up (c_cs C j (n 1)) 0 6 j 1) j 8) 50 0 0 z0) 5 0 0 0) ((j : Int) + 1) (n 1)) 36 (j + 1) 0 1) 44 q 0 = if q < n 1 ∧ C 1 0 q = (j : Int) + 1 then 0 else C 44 q 0 := by
    intro q
    rw [q_ua, if_neg (by omega), cf44, ← (h5 q).1]
    rfl
  have d41 : ∀ q, (q_up (m_cf (q_up (q_up (c_ep (q_up (c_cs C j (n 1)) 0 6 j 1) j 8) 50 0 0 z0) 5 0 0 0) ((j : Int) + 1) (n 1)) 36 (j + 1) 0 1) 41 q 0 = if q < n 1 ∧ C 1 0 q = (j : Int) + 1 then 0 else C 41 q 0 := by
    intro q
    rw [q_ua, if_neg (by omega), cf41, ← (h5 q).1]
    rfl
  have d25 : ∀ s, (q_up (m_cf (q_up (q_up (c_ep (q_up (c_cs C j (n 1)) 0 6 j 1) j 8) 50 0 0 z0) 5 0 0 0) ((j : Int) + 1) (n 1)) 36 (j + 1) 0 1) 25 s 0 = if (1 ≤ s ∧ s ≤ 8) ∧ 0 ≤ C 25 s 0 ∧ C 25 s 0 < n 1 ∧ C 1 0 (C 25 s 0).toNat = (j : Int) + 1 then -1 else C 25 s 0 := by
    intro s
    rw [q_ua, if_neg (by omega), cf25, ← (h5 (C 25 s 0).toNat).1]
    rfl
  have d36 : ∀ q, (q_up (m_cf (q_up (q_up (c_ep (q_up (c_cs C j (n 1)) 0 6 j 1) j 8) 50 0 0 z0) 5 0 0 0) ((j : Int) + 1) (n 1)) 36 (j + 1) 0 1) 36 (q + 1) 0 = if q = j then 1 else C 36 (q + 1) 0 := by
    intro q
    rw [q_ua]
    by_cases e : q = j
    · rw [if_pos ⟨rfl, by omega, rfl⟩, if_pos e]
    · rw [if_neg (by omega), if_neg e]
      rfl
  have dO : ∀ kd s i, r_cn kd s = true → (q_up (m_cf (q_up (q_up (c_ep (q_up (c_cs C j (n 1)) 0 6 j 1) j 8) 50 0 0 z0) 5 0 0 0) ((j : Int) + 1) (n 1)) 36 (j + 1) 0 1) kd s i = C kd s i := (by repeat (first | exact (fun _ _ _ _ => rfl) | refine q_upr rfl ?_ | refine c_epr rfl ?_ | refine c_csr rfl ?_ | refine m_cfr (fun _ => rfl) (fun _ => rfl) (fun _ => rfl) ?_))
  have he_g1 : ∀ kd s i, r_g1 kd s = true → (q_up (m_cf (q_up (q_up (c_ep (q_up (c_cs C j (n 1)) 0 6 j 1) j 8) 50 0 0 z0) 5 0 0 0) ((j : Int) + 1) (n 1)) 36 (j + 1) 0 1) kd s i = C kd s i := (by repeat (first | exact (fun _ _ _ _ => rfl) | refine q_upr rfl ?_ | refine c_epr rfl ?_ | refine c_csr rfl ?_ | refine m_cfr (fun _ => rfl) (fun _ => rfl) (fun _ => rfl) ?_))
  have he_ga : ∀ kd s i, r_ga kd s = true → (q_up (m_cf (q_up (q_up (c_ep (q_up (c_cs C j (n 1)) 0 6 j 1) j 8) 50 0 0 z0) 5 0 0 0) ((j : Int) + 1) (n 1)) 36 (j + 1) 0 1) kd s i = C kd s i := (by repeat (first | exact (fun _ _ _ _ => rfl) | refine q_upr rfl ?_ | refine c_epr rfl ?_ | refine c_csr rfl ?_ | refine m_cfr (fun _ => rfl) (fun _ => rfl) (fun _ => rfl) ?_))
  have he_g2 : ∀ kd s i, r_g2 kd s = true → (q_up (m_cf (q_up (q_up (c_ep (q_up (c_cs C j (n 1)) 0 6 j 1) j 8) 50 0 0 z0) 5 0 0 0) ((j : Int) + 1) (n 1)) 36 (j + 1) 0 1) kd s i = C kd s i := (by repeat (first | exact (fun _ _ _ _ => rfl) | refine q_upr rfl ?_ | refine c_epr rfl ?_ | refine c_csr rfl ?_ | refine m_cfr (fun _ => rfl) (fun _ => rfl) (fun _ => rfl) ?_))
  have he_g3 : ∀ kd s i, r_g3 kd s = true → (q_up (m_cf (q_up (q_up (c_ep (q_up (c_cs C j (n 1)) 0 6 j 1) j 8) 50 0 0 z0) 5 0 0 0) ((j : Int) + 1) (n 1)) 36 (j + 1) 0 1) kd s i = C kd s i := (by repeat (first | exact (fun _ _ _ _ => rfl) | refine q_upr rfl ?_ | refine c_epr rfl ?_ | refine c_csr rfl ?_ | refine m_cfr (fun _ => rfl) (fun _ => rfl) (fun _ => rfl) ?_))
  have he_g3a : ∀ kd s i, r_g3a kd s = true → (q_up (m_cf (q_up (q_up (c_ep (q_up (c_cs C j (n 1)) 0 6 j 1) j 8) 50 0 0 z0) 5 0 0 0) ((j : Int) + 1) (n 1)) 36 (j + 1) 0 1) kd s i = C kd s i := (by repeat (first | exact (fun _ _ _ _ => rfl) | refine q_upr rfl ?_ | refine c_epr rfl ?_ | refine c_csr rfl ?_ | refine m_cfr (fun _ => rfl) (fun _ => rfl) (fun _ => rfl) ?_))
  have he_g4 : ∀ kd s i, r_g4 kd s = true → (q_up (m_cf (q_up (q_up (c_ep (q_up (c_cs C j (n 1)) 0 6 j 1) j 8) 50 0 0 z0) 5 0 0 0) ((j : Int) + 1) (n 1)) 36 (j + 1) 0 1) kd s i = C kd s i := (by repeat (first | exact (fun _ _ _ _ => rfl) | refine q_upr rfl ?_ | refine c_epr rfl ?_ | refine c_csr rfl ?_ | refine m_cfr (fun _ => rfl) (fun _ => rfl) (fun _ => rfl) ?_))
  have he_g4c : ∀ kd s i, r_g4c kd s = true → (q_up (m_cf (q_up (q_up (c_ep (q_up (c_cs C j (n 1)) 0 6 j 1) j 8) 50 0 0 z0) 5 0 0 0) ((j : Int) + 1) (n 1)) 36 (j + 1) 0 1) kd s i = C kd s i := (by repeat (first | exact (fun _ _ _ _ => rfl) | refine q_upr rfl ?_ | refine c_epr rfl ?_ | refine c_csr rfl ?_ | refine m_cfr (fun _ => rfl) (fun _ => rfl) (fun _ => rfl) ?_))
  have he_g5 : ∀ kd s i, r_g5 kd s = true → (q_up (m_cf (q_up (q_up (c_ep (q_up (c_cs C j (n 1)) 0 6 j 1) j 8) 50 0 0 z0) 5 0 0 0) ((j : Int) + 1) (n 1)) 36 (j + 1) 0 1) kd s i = C kd s i := (by repeat (first | exact (fun _ _ _ _ => rfl) | refine q_upr rfl ?_ | refine c_epr rfl ?_ | refine c_csr rfl ?_ | refine m_cfr (fun _ => rfl) (fun _ => rfl) (fun _ => rfl) ?_))
  have he_g42 : ∀ kd s i, r_g42 kd s = true → (q_up (m_cf (q_up (q_up (c_ep (q_up (c_cs C j (n 1)) 0 6 j 1) j 8) 50 0 0 z0) 5 0 0 0) ((j : Int) + 1) (n 1)) 36 (j + 1) 0 1) kd s i = C kd s i := (by repeat (first | exact (fun _ _ _ _ => rfl) | refine q_upr rfl ?_ | refine c_epr rfl ?_ | refine c_csr rfl ?_ | refine m_cfr (fun _ => rfl) (fun _ => rfl) (fun _ => rfl) ?_))
  have he_g7a : ∀ kd s i, r_g7a kd s = true → (q_up (m_cf (q_up (q_up (c_ep (q_up (c_cs C j (n 1)) 0 6 j 1) j 8) 50 0 0 z0) 5 0 0 0) ((j : Int) + 1) (n 1)) 36 (j + 1) 0 1) kd s i = C kd s i := (by repeat (first | exact (fun _ _ _ _ => rfl) | refine q_upr rfl ?_ | refine c_epr rfl ?_ | refine c_csr rfl ?_ | refine m_cfr (fun _ => rfl) (fun _ => rfl) (fun _ => rfl) ?_))
  have he_g8 : ∀ kd s i, r_g8 kd s = true → (q_up (m_cf (q_up (q_up (c_ep (q_up (c_cs C j (n 1)) 0 6 j 1) j 8) 50 0 0 z0) 5 0 0 0) ((j : Int) + 1) (n 1)) 36 (j + 1) 0 1) kd s i = C kd s i := (by repeat (first | exact (fun _ _ _ _ => rfl) | refine q_upr rfl ?_ | refine c_epr rfl ?_ | refine c_csr rfl ?_ | refine m_cfr (fun _ => rfl) (fun _ => rfl) (fun _ => rfl) ?_))
  generalize (q_up (m_cf (q_up (q_up (c_ep (q_up (c_cs C j (n 1)) 0 6 j 1) j 8) 50 0 0 z0) 5 0 0 0) ((j : Int) + 1) (n 1)) 36 (j + 1) 0 1) = D at d13 d24 d06 d44 d41 d25 d36 dO he_g1 he_ga he_g2 he_g3 he_g3a he_g4 he_g4c he_g5 he_g42 he_g7a he_g8 ⊢
  refine ⟨g1_cg (n := n) he_g1 rfl rfl rfl rfl (Nat.le_succ c) h1, ga_cg (n := n) he_ga rfl rfl rfl ha, g2_cg (n := n) he_g2 rfl (Nat.le_succ c) h2, g3_cg (n := n) he_g3 rfl h3, g3a_cg he_g3a (Nat.le_succ c) h3a, g4_cg (n := n) he_g4 rfl (Nat.le_refl _) h4, ?_, g4c_cg (n := n) he_g4c rfl rfl h4c, g5_cg (n := n) he_g5 (Nat.le_refl _) rfl h5, ?_, g42_cg he_g42  h42, ?_, ?_, ?_, ?_, g7a_cg he_g7a  h7a, g8_cg (n := n) he_g8 (fun _ _ => rfl) h8⟩
  · intro q
    rw [d36, d06, dO 35 (q + 1) 0 rfl, dO 0 5 q rfl]
    refine ⟨(h4a q).1, ?_⟩
    by_cases e : q = j
    · rw [if_pos e, if_pos e]
    · rw [if_neg e, if_neg e]; exact (h4a q).2
  · intro q hq
    have r := h6 q hq
    obtain ⟨jq, jq1, jq2, jq3, jq4⟩ := h.pj hq
    unfold c_job at jq4 r ⊢
    rw [d13, d44, dO 1 0 q rfl, dO 1 4 q rfl, dO 1 2 q rfl, dO 1 5 q rfl, dO 0 2 _ rfl, d06, jq4]
    rw [jq4] at r
    by_cases e : q < n 1 ∧ C 1 0 q = (j : Int) + 1
    · rw [if_pos e, if_pos e, if_pos (show jq = j by omega)]
      exact ⟨by omega, by decide, r.2.2.1, r.2.2.2.1, r.2.2.2.2.1, fun s => absurd rfl s, fun _ s => by omega⟩
    · rw [if_neg e, if_neg e, if_neg (show ¬ jq = j by omega)]
      exact r
  · intro q
    have r := h41 q
    rw [d13, d41]
    by_cases e : q < n 1 ∧ C 1 0 q = (j : Int) + 1
    · rw [if_pos e, if_pos e]
      exact ⟨fun s => by omega, fun _ => rfl⟩
    · rw [if_neg e, if_neg e]
      refine ⟨fun s => ?_, r.2⟩
      have r1 := r.1 s
      rw [d24, r1.2.2, if_neg]
      · exact ⟨r1.1, r1.2.1, rfl⟩
      · rintro ⟨-, s2⟩
        rw [show ((q : Int) + 1 - 1).toNat = q by omega] at s2
        have := z.2 (C 41 q 0 - 1).toNat
        exact e ⟨by omega, s2⟩
  · intro p hp
    rw [d24] at hp ⊢
    by_cases e : ¬ C 2 4 p = 0 ∧ C 1 0 (C 2 4 p - 1).toNat = (j : Int) + 1
    · rw [if_pos e] at hp; exact absurd rfl hp
    · rw [if_neg e] at hp ⊢
      have r := h24 p hp
      rw [d13, d41, if_neg (fun s => e ⟨hp, s.2⟩), if_neg (fun s => e ⟨hp, s.2⟩), dO 43 _ 0 rfl, dO 2 5 p rfl]
      exact r
  · refine ⟨by rw [d25, if_neg (by omega)]; exact h25.1, fun p => ⟨fun hp => ?_, fun hp => ?_⟩⟩
    · rw [d25, d24, (h25.2 p).1 hp]
      have := z.2 p
      by_cases e : ¬ C 2 4 p = 0 ∧ C 1 0 (C 2 4 p - 1).toNat = (j : Int) + 1
      · rw [if_pos e, if_pos ⟨by omega, by omega, by omega, e.2⟩]; rfl
      · rw [if_neg e, if_neg (fun s => e ⟨by omega, s.2.2.2⟩)]
    · rw [d25, if_neg (by omega)]
      exact (h25.2 p).2 hp
  · unfold g7
    rw [dO 5 25 0 rfl, dO 4 8 0 rfl]
    have b := busy_le (C := C) (D := D) (fun p => by rw [d24]; split <;> simp) 8
    have := h7.2.2
    exact ⟨h7.1, h7.2.1, by omega⟩
theorem c_gn_0 {C : q_S} {j m : Nat} (h : c_acc C j (c_gn C) m ≤ 0) : ∀ k, k < m → C 1 0 k = (j : Int) + 1 → C 1 3 k = 2 := by
  induction m with
  | zero => intro k hk; omega
  | succ m ih =>
    have b := c_gn_b C j m
    rw [c_acc] at h
    intro k hk e
    by_cases em : C 1 0 m = (j : Int) + 1
    · rw [if_pos em] at h
      unfold c_gn at h b ih
      by_cases s : C 1 3 m = 2
      · rw [if_pos s] at h
        by_cases ek : k = m
        · subst ek; exact s
        · exact ih (by omega) k (by omega) e
      · rw [if_neg s] at h; omega
    · rw [if_neg em] at h
      exact ih h k (by have : ¬ k = m := fun w => em (w ▸ e); omega) e
theorem c_gn_p {C : q_S} {j m : Nat} (h : 0 < c_acc C j (c_gn C) m) : ∃ k, k < m ∧ C 1 0 k = (j : Int) + 1 ∧ ¬ C 1 3 k = 2 := by
  induction m with
  | zero => rw [c_acc] at h; omega
  | succ m ih =>
    rw [c_acc] at h
    by_cases em : C 1 0 m = (j : Int) + 1
    · rw [if_pos em] at h
      by_cases s : C 1 3 m = 2
      · unfold c_gn at h ih
        rw [if_pos s] at h
        obtain ⟨k, k1, k2⟩ := ih (by omega)
        exact ⟨k, by omega, k2⟩
      · exact ⟨m, by omega, em, s⟩
    · rw [if_neg em] at h
      obtain ⟨k, k1, k2⟩ := ih h
      exact ⟨k, by omega, k2⟩
theorem Rel.cn {C X : q_S} {n : Nat → Nat} {c : Nat} (h : Rel C n c) (z : gz C n) (hX : Like X C) {j : Nat} (h06 : C 0 6 j = 0) : ∀ m, m ≤ n 1 → m_cn X ((j : Int) + 1) m = c_acc C j (c_gn C) m := by
  obtain ⟨L1, L2, L3, L4⟩ := h.links z hX j
  have hov := fun k hk => h.over hX (k := k) hk
  obtain ⟨h1, ha, h2, h3, h3a, h4, h4a, h4c, h5, h6, h42, h41, h24, h25, h7, h7a, h8⟩ := id h
  intro m
  induction m with
  | zero => intro _; rfl
  | succ m ih =>
    intro hm
    rw [m_cn, c_acc, ih (by omega), m_cs_cf L1 L2 L3 L4 m]
    have c38 : m_cf X ((j : Int) + 1) m 38 m 0 = C 1 0 m := by rw [cfo X _ m (Or.inl (by decide)), hX.1 38 m (by decide) (by decide), (h5 m).1]
    by_cases e : C 1 0 m = (j : Int) + 1
    · rw [if_pos e]
      unfold c_gn
      have q6 := h6 m (by omega)
      have ej : c_job C m = j := by unfold c_job; omega
      rw [ej] at q6
      by_cases s : C 1 3 m = 2
      · have w := q6.2.2.2.2.2.2 s h06
        rw [if_neg (fun q => q.2 ((cf_over X _ m m).mpr ((hov m (by omega)).mpr w))), if_pos s]
        omega
      · have w := (q6.2.2.2.2.2.1 s).1
        rw [if_pos ⟨c38.trans e, fun q => by have := (hov m (by omega)).mp ((cf_over X _ m m).mp q); omega⟩, if_neg s]
    · rw [if_neg (fun q => e (c38.symm.trans q.1)), if_neg e]
theorem o_cancel {C : q_S} {n : Nat → Nat} {ad : Nat → Nat → Nat} {c : Nat} {a : Int} {r : Int32} {rb : Int32} {u u2 : q_U} (h : Rel C n c) (z : gz C n)  (hp : pL_cancel n ad C a r u) (hm : tX5_cancel u.1 u.2.1 u.2.2 a rb u2) : Res c r (fun z => R32 z ∧ rb = iI z) u u2 := by
  obtain ⟨h1, ha, h2, h3, h3a, h4, h4a, h4c, h5, h6, h42, h41, h24, h25, h7, h7a, h8⟩ := id h
  have e2 := h1.2.2.1.1
  have e17 : (C 5 17 0).toNat = n 1 := by rw [h1.2.2.2.1.1]; omega
  rcases hp with ⟨v, z0, hz0, hv, rfl, rfl⟩ | ⟨⟨-, cx⟩, rfl, rfl⟩
  · have ca : 1 ≤ a ∧ a ≤ (n 0 : Int) := by
      rcases hv with ⟨q1, -⟩ | ⟨q1, -⟩ <;> exact q1
    obtain ⟨j, rfl⟩ : ∃ j : Nat, a = (j : Int) + 1 := ⟨(a - 1).toNat, by omega⟩
    have hj : j < n 0 := by omega
    have ej : ((j : Int) + 1 - 1).toNat = j := by omega
    have ej1 : ((j : Int) + 1).toNat = j + 1 := by omega
    have ca2 : 1 ≤ (j : Int) + 1 ∧ (j : Int) + 1 ≤ C 5 10 0 := by omega
    unfold tX4_cancel at hv
    rw [ej] at hv
    rcases hv with ⟨-, cg, rfl, ce⟩ | ⟨-, cg, rfl, ce⟩
    · have all2 := c_gn_0 cg
      have eC : c_cs C j (n 1) = C := by
        funext kd s i
        unfold c_cs
        by_cases e : kd = 1 ∧ s = 3 ∧ i < n 1 ∧ C 1 0 i = (j : Int) + 1
        · rw [if_pos e, e.1, e.2.1, all2 i e.2.2.1 e.2.2.2]
        · rw [if_neg e]
      have ez : c_acc C j (c_gn C) (n 1) = 0 := by have := c_gn_b C j (n 1); omega
      rw [ez] at ce
      have st2 : 1 < m_st (q_up (q_up C 50 0 0 z0) 5 0 0 0) ((j : Int) + 1) := by
        rw [h.st (Like55 C z0 0) hj]
        unfold c_con
        have n1 : ¬ c_hs C n j 1 := fun ⟨k, k1, k2, k3⟩ => by have := all2 k k1 k2; omega
        have n0 : ¬ c_hs C n j 0 := fun ⟨k, k1, k2, k3⟩ => by have := all2 k k1 k2; omega
        rw [if_neg n1, if_neg n0]
        split <;> omega
      rw [eC] at hm ⊢
      rcases hm with ⟨ma, mb, -⟩ | ⟨ma, mb, rfl, rfl⟩ | ⟨ma, -⟩
      · have mb : m_st (q_up (q_up C 50 0 0 z0) 5 0 0 0) ((j : Int) + 1) ≤ 1 := mb
        omega
      · exact Res_r h ⟨hz0, ce.symm⟩
      · exact absurd ca2 ma
    · obtain ⟨k, k1, k2, k3⟩ := c_gn_p cg
      have q6 := h6 k k1
      have ejk : c_job C k = j := by unfold c_job; omega
      have h06 : C 0 6 j = 0 := by
        have := (q6.2.2.2.2.2.1 k3).2
        rw [ejk] at this
        exact this
      have LX : Like (q_up (q_up (c_ep (q_up (c_cs C j (n 1)) 0 6 j 1) j 8) 50 0 0 z0) 5 0 0 0) C := by
        refine ⟨fun kd s q1 q2 => ?_, fun s q => ?_⟩
        · rw [q_ua, if_neg (by omega), q_ua, if_neg (by omega)]
          unfold c_ep
          rw [if_neg (by omega), q_ua, if_neg (by omega)]
          unfold c_cs
          rw [if_neg (by omega)]
        · rw [q_ua, if_neg (fun r => q r.2.1)]
          rfl
      have st1 : m_st (q_up (q_up (c_ep (q_up (c_cs C j (n 1)) 0 6 j 1) j 8) 50 0 0 z0) 5 0 0 0) ((j : Int) + 1) ≤ 1 := by
        rw [h.st LX hj]
        unfold c_con
        have nn : ¬ ¬ C 0 6 j = 0 := fun q => q h06
        rw [if_neg nn]
        by_cases s1 : c_hs C n j 1
        · rw [if_pos s1]; omega
        · rw [if_neg s1, if_pos]
          · omega
          · refine ⟨k, k1, k2, ?_⟩
            have : ¬ C 1 3 k = 1 := fun q => s1 ⟨k, k1, k2, q⟩
            omega
      rcases hm with ⟨ma, mb, rfl, rfl⟩ | ⟨ma, mb, -⟩ | ⟨ma, -⟩
      · have cnt : m_cn (q_up (q_up (c_ep (q_up (c_cs C j (n 1)) 0 6 j 1) j 8) 50 0 0 z0) 5 0 0 0) ((j : Int) + 1) (C 5 17 0).toNat = c_acc C j (c_gn C) (n 1) := by
          rw [e17]; exact h.cn z LX h06 (n 1) (Nat.le_refl _)
        obtain ⟨L1, L2, L3, L4⟩ := h.links z LX j
        refine ⟨0, by omega, rfl, ?_, fun _ => ⟨z0, ⟨hz0, ?_⟩, ?_⟩, rfl, rfl, ?_⟩
        · show q_up (m_cs (q_up (q_up (c_ep (q_up (c_cs C j (n 1)) 0 6 j 1) j 8) 50 0 0 z0) 5 0 0 0) ((j : Int) + 1) (C 5 17 0).toNat) 36 ((j : Int) + 1).toNat 0 1 5 0 0 = 0
          rw [m_cs_cf L1 L2 L3 L4, q_ua, if_neg (by omega), cfo _ _ _ (Or.inl (by decide))]
          rfl
        · rw [ce]; exact congrArg iI cnt
        · show q_up (m_cs (q_up (q_up (c_ep (q_up (c_cs C j (n 1)) 0 6 j 1) j 8) 50 0 0 z0) 5 0 0 0) ((j : Int) + 1) (C 5 17 0).toNat) 36 ((j : Int) + 1).toNat 0 1 50 0 0 = z0
          rw [m_cs_cf L1 L2 L3 L4, q_ua, if_neg (by omega), cfo _ _ _ (Or.inl (by decide))]
          rfl
        · show Rel (q_up (m_cs (q_up (q_up (c_ep (q_up (c_cs C j (n 1)) 0 6 j 1) j 8) 50 0 0 z0) 5 0 0 0) ((j : Int) + 1) (C 5 17 0).toNat) 36 ((j : Int) + 1).toNat 0 1) n (c + 1)
          rw [m_cs_cf L1 L2 L3 L4]
          exact R_cancel h z hj rfl e17 ej1
      · have mb : 1 < m_st (q_up (q_up (c_ep (q_up (c_cs C j (n 1)) 0 6 j 1) j 8) 50 0 0 z0) 5 0 0 0) ((j : Int) + 1) := mb
        omega
      · exact absurd ca2 ma
  · have cx2 : ¬ (1 ≤ a ∧ a ≤ C 5 10 0) := by omega
    rcases hm with ⟨ma, -⟩ | ⟨ma, -⟩ | ⟨ma, rfl, rfl⟩
    · exact absurd ma cx2
    · exact absurd ma cx2
    · exact Res_x h (by decide)
