/-- printing copy by copy, as a whole -/
theorem c_sq_sum {P K sd b w0 x0 s1 d0 : Int} (hP : 1 ≤ P) (hx : 0 ≤ x0 ∧ x0 < P) (hw : 0 ≤ w0 ∧ w0 < K) (hb : 0 ≤ b) (t : Nat) :
    (c_sq P K sd b w0 x0 s1 d0 t).1 * P + (c_sq P K sd b w0 x0 s1 d0 t).2.1 = w0 * P + x0 + (c_sq P K sd b w0 x0 s1 d0 t).2.2.1 ∧ (0 ≤ (c_sq P K sd b w0 x0 s1 d0 t).2.1 ∧ (c_sq P K sd b w0 x0 s1 d0 t).2.1 < P) ∧ (0 ≤ (c_sq P K sd b w0 x0 s1 d0 t).2.2.1 ∧ (c_sq P K sd b w0 x0 s1 d0 t).2.2.1 ≤ b) ∧ (w0 ≤ (c_sq P K sd b w0 x0 s1 d0 t).1 ∧ (c_sq P K sd b w0 x0 s1 d0 t).1 ≤ K) ∧ ((c_sq P K sd b w0 x0 s1 d0 t).1 = K → (c_sq P K sd b w0 x0 s1 d0 t).2.1 = 0) ∧
    (sd = 1 → (c_sq P K sd b w0 x0 s1 d0 t).2.2.2.1 = s1 + (c_sq P K sd b w0 x0 s1 d0 t).2.2.1) ∧ (¬ sd = 1 → (c_sq P K sd b w0 x0 s1 d0 t).2.2.2.1 = s1 + ((c_sq P K sd b w0 x0 s1 d0 t).1 * ((P + 1) / 2) + ((c_sq P K sd b w0 x0 s1 d0 t).2.1 + 1) / 2) - (w0 * ((P + 1) / 2) + (x0 + 1) / 2) + (if 0 < (c_sq P K sd b w0 x0 s1 d0 t).2.2.1 ∧ ¬ d0 = 0 ∧ x0 % 2 = 1 then 1 else 0)) ∧
    ((c_sq P K sd b w0 x0 s1 d0 t).2.2.2.2 = if 0 < (c_sq P K sd b w0 x0 s1 d0 t).2.2.1 then 0 else d0) ∧ ((c_sq P K sd b w0 x0 s1 d0 t).2.2.1 = b ∨ (c_sq P K sd b w0 x0 s1 d0 t).1 = K ∨ w0 + t ≤ (c_sq P K sd b w0 x0 s1 d0 t).1) ∧ ((c_sq P K sd b w0 x0 s1 d0 t).2.2.1 = 0 → (c_sq P K sd b w0 x0 s1 d0 t).1 = w0 ∧ (c_sq P K sd b w0 x0 s1 d0 t).2.1 = x0) := by
  induction t with
  | zero =>
    rw [show c_sq P K sd b w0 x0 s1 d0 0 = (w0, x0, 0, s1, d0) from rfl]
    refine ⟨by show w0 * P + x0 = w0 * P + x0 + 0; omega, hx, ⟨by show (0 : Int) ≤ 0; omega, hb⟩, ⟨by show w0 ≤ w0; omega, by show w0 ≤ K; omega⟩, fun q => ?_, fun _ => by show s1 = s1 + 0; omega, fun _ => ?_, ?_, ?_, fun _ => ⟨rfl, rfl⟩⟩
    · have q : w0 = K := q
      omega
    · dsimp only
      rw [if_neg (fun r => by have := r.1; omega)]
      omega
    · dsimp only
      rw [if_neg (by omega)]
    · right; right
      show w0 + 0 ≤ w0
      omega
  | succ t ih =>
    rw [c_sq]
    generalize c_sq P K sd b w0 x0 s1 d0 t = q at ih ⊢
    obtain ⟨w, x, o, s, d⟩ := q
    simp only at ih ⊢
    obtain ⟨i1, i2, i3, i4, i5, i6, i7, i8, i9, i10⟩ := ih
    split
    · rename_i hc
      obtain ⟨c, ec⟩ : ∃ c, c_cn P x (b - o) = c := ⟨_, rfl⟩
      have hcb : 1 ≤ c ∧ c ≤ b - o ∧ x + c ≤ P ∧ (x + c < P → c = b - o) := by
        rw [← ec]; unfold c_cn; split <;> omega
      simp only [ec]
      have hsh : ¬ sd = 1 → c_sn sd x c d = (x + c + 1) / 2 - (x + 1) / 2 + (if 0 < o + c ∧ ¬ d0 = 0 ∧ x0 % 2 = 1 then 1 else 0) - (if 0 < o ∧ ¬ d0 = 0 ∧ x0 % 2 = 1 then 1 else 0) := by
        intro q
        unfold c_sn c_sh2
        rw [if_neg q]
        by_cases e : 0 < o
        · rw [if_pos e] at i8
          rw [if_neg (by omega)]
          by_cases e2 : ¬ d0 = 0 ∧ x0 % 2 = 1
          · rw [if_pos ⟨by omega, e2⟩, if_pos ⟨e, e2⟩]; omega
          · rw [if_neg (fun r => e2 r.2), if_neg (fun r => e2 r.2)]; omega
        · rw [if_neg e] at i8
          have e3 := i10 (by omega)
          rw [i8, e3.2]
          by_cases e2 : ¬ d0 = 0 ∧ x0 % 2 = 1
          · rw [if_pos e2, if_pos ⟨by omega, e2⟩, if_neg (fun r => e r.1)]; omega
          · rw [if_neg e2, if_neg (fun r => e2 r.2), if_neg (fun r => e2 r.2)]; omega
      have hs1 : sd = 1 → c_sn sd x c d = c := fun q => by unfold c_sn; rw [if_pos q]
      unfold c_wn c_xn
      by_cases e : P ≤ x + c
      · rw [if_pos e, if_pos e]
        have m1 : (w + 1) * P = w * P + P := by rw [Int.add_mul, Int.one_mul]
        have m2 : (w + 1) * ((P + 1) / 2) = w * ((P + 1) / 2) + (P + 1) / 2 := by rw [Int.add_mul, Int.one_mul]
        refine ⟨by omega, by omega, by omega, by omega, fun _ => rfl, fun q => ?_, fun q => ?_, ?_, by omega, fun q => by omega⟩
        · rw [hs1 q, i6 q]; omega
        · rw [hsh q, i7 q, m2, show x + c = P by omega]; omega
        · rw [if_pos (by omega)]
      · rw [if_neg e, if_neg e]
        refine ⟨by omega, by omega, by omega, by omega, fun q => by omega, fun q => ?_, fun q => ?_, ?_, by omega, fun q => by omega⟩
        · rw [hs1 q, i6 q]; omega
        · rw [hsh q, i7 q]; omega
        · rw [if_pos (by omega)]
    · rename_i hc
      have hc : ¬ (o < b ∧ w < K) := hc
      exact ⟨i1, i2, i3, i4, i5, i6, i7, i8, by show o = b ∨ w = K ∨ w0 + ((t + 1 : Nat) : Int) ≤ w; omega, i10⟩
theorem R_print0 {C : q_S} {n : Nat → Nat} {c : Nat} (h : Rel C n c) (z : gz C n) {p k T mk mk2 i1 i2 : Nat} {x1 x2 x3 x4 x5 y1 y2 yy yf z0 : Int} (hp8 : p < 8) (hkn : k < n 1) (hk : C 2 4 p = (k : Int) + 1) (h13 : C 1 3 k = 1) (hk41 : C 41 k 0 = (p : Int) + 1) (b1 : 0 ≤ x1 ∧ x1 ≤ 60000 * ((c : Int) + 1)) (b2 : 0 ≤ x2 ∧ x2 ≤ 60000 * ((c : Int) + 1)) (b4 : 0 ≤ x4 ∧ x4 < C 0 2 (c_job C k)) (b5 : 0 ≤ x5 ∧ x5 < C 1 2 k) (e1 : k = mk) (e2 : k = mk2) (e3 : i1 = 4 * T) (e4 : i2 = 4 * T + 1) (f1 : x1 = y1) (f2 : x2 = y2) (f3 : yy = x5 * C 0 2 (c_job C k) + x4) (f4 : x3 = yf) :
    Rel (q_up (q_up (q_up (q_up (q_up (q_up (q_up (q_up (q_up (q_up (q_up C 3 2 T x1) 3 3 T x2) 2 5 p x3) 1 5 k x4) 1 4 k x5) 50 0 0 z0) 5 0 0 0) 29 i1 0 y1) 29 i2 0 y2) 42 mk 0 yy) 43 mk2 0 yf) n (c + 1) := by
  subst e1 e2 e3 e4 f1 f2 f3 f4
  obtain ⟨h1, ha, h2, h3, h3a, h4, h4a, h4c, h5, h6, h42, h41, h24, h25, h7, h7a, h8⟩ := id h
  refine ⟨g1_cg (n := n) (by repeat (first | exact (fun _ _ _ _ => rfl) | refine q_upr rfl ?_)) rfl rfl rfl rfl (Nat.le_succ c) h1, ga_cg (n := n) (by repeat (first | exact (fun _ _ _ _ => rfl) | refine q_upr rfl ?_)) rfl rfl rfl ha, g2_cg (n := n) (by repeat (first | exact (fun _ _ _ _ => rfl) | refine q_upr rfl ?_)) rfl (Nat.le_succ c) h2, g3_cg (n := n) (by repeat (first | exact (fun _ _ _ _ => rfl) | refine q_upr rfl ?_)) rfl h3, ?_, g4_cg (n := n) (by repeat (first | exact (fun _ _ _ _ => rfl) | refine q_upr rfl ?_)) rfl (Nat.le_refl _) h4, g4a_cg (by repeat (first | exact (fun _ _ _ _ => rfl) | refine q_upr rfl ?_))  h4a, g4c_cg (n := n) (by repeat (first | exact (fun _ _ _ _ => rfl) | refine q_upr rfl ?_)) rfl rfl h4c, g5_cg (n := n) (by repeat (first | exact (fun _ _ _ _ => rfl) | refine q_upr rfl ?_)) (Nat.le_refl _) rfl h5, ?_, ?_, g41_cg (n := n) (by repeat (first | exact (fun _ _ _ _ => rfl) | refine q_upr rfl ?_)) (Nat.le_refl _) h41, ?_, g25_cg (by repeat (first | exact (fun _ _ _ _ => rfl) | refine q_upr rfl ?_))  h25, g7_cg (by repeat (first | exact (fun _ _ _ _ => rfl) | refine q_upr rfl ?_)) (Nat.le_succ c) h7, g7a_cg (by repeat (first | exact (fun _ _ _ _ => rfl) | refine q_upr rfl ?_))  h7a, g8_cg (n := n) (by repeat (first | exact (fun _ _ _ _ => rfl) | refine q_upr rfl ?_)) (fun _ _ => rfl) h8⟩
  · intro t w hw
    have r := h3a t w hw
    simp only [q_ua, Nat.reduceEqDiff, false_and, and_false, true_and, and_true, ↓reduceIte, Nat.succ_ne_self, Nat.add_right_cancel_iff]
    by_cases e : t = T ∧ w = 0
    · obtain ⟨rfl, rfl⟩ := e
      rw [if_neg (by omega), if_pos (by omega)]
      simp only [Nat.reduceAdd, Nat.reduceEqDiff, false_and, and_false, true_and, ↓reduceIte]
      first | exact ⟨trivial, by omega, by omega⟩ | exact ⟨by omega, by omega⟩ | exact ⟨rfl, by omega, by omega⟩
    · by_cases e' : t = T ∧ w = 1
      · obtain ⟨rfl, rfl⟩ := e'
        rw [if_pos (by omega)]
        simp only [Nat.reduceAdd, Nat.reduceEqDiff, false_and, and_false, true_and, ↓reduceIte]
        first | exact ⟨trivial, by omega, by omega⟩ | exact ⟨by omega, by omega⟩ | exact ⟨rfl, by omega, by omega⟩
      · rw [if_neg (by omega), if_neg (by omega), if_neg (by omega), if_neg (by omega)]
        exact ⟨r.1, r.2.1, by omega⟩
  · intro q hq
    have r := h6 q hq
    by_cases e : q = k
    · subst e
      unfold c_job at r b4 ⊢
      simp only [q_ua, Nat.reduceEqDiff, false_and, and_false, true_and, and_true, ↓reduceIte, Nat.succ_ne_self, Nat.add_right_cancel_iff]
      have r1 := r.2.2.2.2.2.1 (by omega)
      exact ⟨r.1, r.2.1, by omega, b4, fun s => by omega, fun _ => ⟨b5.2, r1.2⟩, fun s => by omega⟩
    · unfold c_job at r ⊢
      simp only [q_ua, Nat.reduceEqDiff, false_and, and_false, true_and, and_true, ↓reduceIte, Nat.succ_ne_self, Nat.add_right_cancel_iff, if_neg e]
      exact r
  · intro q
    have r := h42 q
    unfold c_job at r ⊢
    simp only [q_ua, Nat.reduceEqDiff, false_and, and_false, true_and, and_true, ↓reduceIte, Nat.succ_ne_self, Nat.add_right_cancel_iff]
    by_cases e : q = k
    · subst e
      simp only [if_true]
      try rfl
    · simp only [if_neg e]
      exact r
  · intro q hq
    simp only [q_ua, Nat.reduceEqDiff, false_and, and_false, true_and, and_true, ↓reduceIte, Nat.succ_ne_self, Nat.add_right_cancel_iff] at hq ⊢
    have r := h24 q hq
    by_cases e : q = p
    · subst e
      have ek : (C 2 4 q - 1).toNat = k := by omega
      rw [ek] at r ⊢
      rw [if_pos rfl, if_pos rfl]
      exact ⟨r.1, r.2.1, rfl⟩
    · have ek : ¬ (C 2 4 q - 1).toNat = k := fun s => by rw [s] at r; omega
      rw [if_neg ek, if_neg e]
      exact r
theorem R_print1 {C : q_S} {n : Nat → Nat} {c : Nat} (h : Rel C n c) (z : gz C n) {p k T mk mk2 i1 i2 mk3 ma : Nat} {x1 x2 x3 x4 x5 y1 y2 yy yf z0 : Int} (hp8 : p < 8) (hkn : k < n 1) (hk : C 2 4 p = (k : Int) + 1) (h13 : C 1 3 k = 1) (hk41 : C 41 k 0 = (p : Int) + 1) (b1 : 0 ≤ x1 ∧ x1 ≤ 60000 * ((c : Int) + 1)) (b2 : 0 ≤ x2 ∧ x2 ≤ 60000 * ((c : Int) + 1)) (b4 : 0 ≤ x4 ∧ x4 < C 0 2 (c_job C k)) (b5 : 0 ≤ x5 ∧ x5 = C 1 2 k) (e1 : k = mk) (e2 : k = mk2) (e3 : i1 = 4 * T) (e4 : i2 = 4 * T + 1) (f1 : x1 = y1) (f2 : x2 = y2) (f3 : yy = x5 * C 0 2 (c_job C k) + x4) (f4 : x3 = yf) (b6 : x4 = 0) (e5 : k = mk3) (e6 : ma = p + 1) :
    Rel (q_up (q_up (q_up (q_up (q_up (q_up (q_up (q_up (q_up (q_up (q_up (q_up (q_up (q_up (q_up C 3 2 T x1) 3 3 T x2) 2 5 p x3) 1 5 k x4) 1 4 k x5) 1 3 k 2) 2 4 p 0) 50 0 0 z0) 5 0 0 0) 29 i1 0 y1) 29 i2 0 y2) 42 mk 0 yy) 43 mk2 0 yf) 41 mk3 0 0) 25 ma 0 (-1)) n (c + 1) := by
  subst e1 e2 e3 e4 f1 f2 f3 f4 e5 e6
  obtain ⟨h1, ha, h2, h3, h3a, h4, h4a, h4c, h5, h6, h42, h41, h24, h25, h7, h7a, h8⟩ := id h
  refine ⟨g1_cg (n := n) (by repeat (first | exact (fun _ _ _ _ => rfl) | refine q_upr rfl ?_)) rfl rfl rfl rfl (Nat.le_succ c) h1, ga_cg (n := n) (by repeat (first | exact (fun _ _ _ _ => rfl) | refine q_upr rfl ?_)) rfl rfl rfl ha, g2_cg (n := n) (by repeat (first | exact (fun _ _ _ _ => rfl) | refine q_upr rfl ?_)) rfl (Nat.le_succ c) h2, g3_cg (n := n) (by repeat (first | exact (fun _ _ _ _ => rfl) | refine q_upr rfl ?_)) rfl h3, ?_, g4_cg (n := n) (by repeat (first | exact (fun _ _ _ _ => rfl) | refine q_upr rfl ?_)) rfl (Nat.le_refl _) h4, g4a_cg (by repeat (first | exact (fun _ _ _ _ => rfl) | refine q_upr rfl ?_))  h4a, g4c_cg (n := n) (by repeat (first | exact (fun _ _ _ _ => rfl) | refine q_upr rfl ?_)) rfl rfl h4c, g5_cg (n := n) (by repeat (first | exact (fun _ _ _ _ => rfl) | refine q_upr rfl ?_)) (Nat.le_refl _) rfl h5, ?_, ?_, ?_, ?_, ?_, ?_, g7a_cg (by repeat (first | exact (fun _ _ _ _ => rfl) | refine q_upr rfl ?_))  h7a, g8_cg (n := n) (by repeat (first | exact (fun _ _ _ _ => rfl) | refine q_upr rfl ?_)) (fun _ _ => rfl) h8⟩
  · intro t w hw
    have r := h3a t w hw
    simp only [q_ua, Nat.reduceEqDiff, false_and, and_false, true_and, and_true, ↓reduceIte, Nat.succ_ne_self, Nat.add_right_cancel_iff]
    by_cases e : t = T ∧ w = 0
    · obtain ⟨rfl, rfl⟩ := e
      rw [if_neg (by omega), if_pos (by omega)]
      simp only [Nat.reduceAdd, Nat.reduceEqDiff, false_and, and_false, true_and, ↓reduceIte]
      first | exact ⟨trivial, by omega, by omega⟩ | exact ⟨by omega, by omega⟩ | exact ⟨rfl, by omega, by omega⟩
    · by_cases e' : t = T ∧ w = 1
      · obtain ⟨rfl, rfl⟩ := e'
        rw [if_pos (by omega)]
        simp only [Nat.reduceAdd, Nat.reduceEqDiff, false_and, and_false, true_and, ↓reduceIte]
        first | exact ⟨trivial, by omega, by omega⟩ | exact ⟨by omega, by omega⟩ | exact ⟨rfl, by omega, by omega⟩
      · rw [if_neg (by omega), if_neg (by omega), if_neg (by omega), if_neg (by omega)]
        exact ⟨r.1, r.2.1, by omega⟩
  · intro q hq
    have r := h6 q hq
    by_cases e : q = k
    · subst e
      unfold c_job at r b4 ⊢
      simp only [q_ua, Nat.reduceEqDiff, false_and, and_false, true_and, and_true, ↓reduceIte, Nat.succ_ne_self, Nat.add_right_cancel_iff]
      have r1 := r.2.2.2.2.2.1 (by omega)
      refine ⟨by simp, ?_, by omega, b4, fun s => b6, fun s => absurd trivial s, fun _ _ => b5.2⟩
      rw [if_neg (by decide)]
      have := r.2.1
      rw [if_neg (by omega)] at this
      exact this
    · unfold c_job at r ⊢
      simp only [q_ua, Nat.reduceEqDiff, false_and, and_false, true_and, and_true, ↓reduceIte, Nat.succ_ne_self, Nat.add_right_cancel_iff, if_neg e]
      exact r
  · intro q
    have r := h42 q
    unfold c_job at r ⊢
    simp only [q_ua, Nat.reduceEqDiff, false_and, and_false, true_and, and_true, ↓reduceIte, Nat.succ_ne_self, Nat.add_right_cancel_iff]
    by_cases e : q = k
    · subst e
      simp only [if_true]
      try rfl
    · simp only [if_neg e]
      exact r
  · intro q
    have r := h41 q
    simp only [q_ua, Nat.reduceEqDiff, false_and, and_false, true_and, and_true, ↓reduceIte, Nat.succ_ne_self, Nat.add_right_cancel_iff]
    by_cases e : q = k
    · simp only [if_pos e]
      exact ⟨fun s => by omega, fun _ => trivial⟩
    · simp only [if_neg e]
      refine ⟨fun s => ?_, r.2⟩
      have r1 := r.1 s
      rw [if_neg]
      · exact r1
      · intro s2
        rw [s2, hk] at r1
        omega
  · intro q hq
    simp only [q_ua, Nat.reduceEqDiff, false_and, and_false, true_and, and_true, ↓reduceIte, Nat.succ_ne_self, Nat.add_right_cancel_iff] at hq ⊢
    by_cases e : q = p
    · rw [if_pos e] at hq; exact absurd rfl hq
    · simp only [if_neg e] at hq ⊢
      have r := h24 q hq
      have ek : ¬ (C 2 4 q - 1).toNat = k := fun s => by rw [s] at r; omega
      simp only [if_neg ek]
      exact r
  · refine ⟨h25.1, fun q => ?_⟩
    have r := h25.2 q
    simp only [q_ua, Nat.reduceEqDiff, false_and, and_false, true_and, and_true, ↓reduceIte, Nat.succ_ne_self, Nat.add_right_cancel_iff]
    by_cases e : q = p
    · simp only [if_pos e]
      exact ⟨fun _ => by omega, fun s => by omega⟩
    · simp only [if_neg e]
      exact r
  · refine ⟨h7.1, h7.2.1, ?_⟩
    have b := busy_up (C := C) (D := (q_up (q_up (q_up (q_up (q_up (q_up (q_up (q_up (q_up (q_up (q_up (q_up (q_up (q_up (q_up C 3 2 T x1) 3 3 T x2) 2 5 p x3) 1 5 k x4) 1 4 k x5) 1 3 k 2) 2 4 p 0) 50 0 0 z0) 5 0 0 0) 29 (4 * T) 0 x1) 29 (4 * T + 1) 0 x2) 42 k 0 (x5 * C 0 2 (c_job C k) + x4)) 43 k 0 x3) 41 k 0 0) 25 (p + 1) 0 (-1))) (p := p) (fun q hq => by simp only [q_ua, Nat.reduceEqDiff, false_and, and_false, true_and, and_true, ↓reduceIte, Nat.succ_ne_self, Nat.add_right_cancel_iff]; rw [if_neg hq]) 8
    simp only [q_ua, Nat.reduceEqDiff, false_and, and_false, true_and, and_true, ↓reduceIte, Nat.succ_ne_self, Nat.add_right_cancel_iff] at b ⊢
    rw [b, if_pos hp8, if_neg (by omega)]
    have := h7.2.2
    omega
