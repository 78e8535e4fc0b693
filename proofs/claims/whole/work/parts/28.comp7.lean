/-- a job's first k parts are over -/
def c_cs (C : q_S) (j k : Nat) : q_S := fun kd s i => if kd = 1 ∧ s = 3 ∧ i < k ∧ C 1 0 i = (j : Int) + 1 then 2 else C kd s i
theorem c_cs_0 (C : q_S) (j : Nat) : c_cs C j 0 = C := by
  funext a b d
  unfold c_cs
  rw [if_neg]
  rintro ⟨-, -, h, -⟩
  omega
theorem c_cs_k (C : q_S) (j k : Nat) : c_cs C j k 1 3 k = C 1 3 k := by
  unfold c_cs
  rw [if_neg]
  rintro ⟨-, -, h, -⟩
  omega
theorem c_cs_s (C : q_S) (j k : Nat) (h : ¬ C 1 0 k = (j : Int) + 1) : c_cs C j (k + 1) = c_cs C j k := by
  funext a b d
  unfold c_cs
  by_cases q : a = 1 ∧ b = 3 ∧ d < k ∧ C 1 0 d = (j : Int) + 1
  · rw [if_pos q, if_pos ⟨q.1, q.2.1, by omega, q.2.2.2⟩]
  · rw [if_neg q, if_neg]
    rintro ⟨q1, q2, q3, q4⟩
    by_cases e : d = k
    · subst e
      exact h q4
    · exact q ⟨q1, q2, by omega, q4⟩
theorem c_cs_y {C : q_S} {j k : Nat} (h : C 1 0 k = (j : Int) + 1) : q_up (c_cs C j k) 1 3 k 2 = c_cs C j (k + 1) := by
  funext a b d
  unfold q_up c_cs
  by_cases h1 : a = 1 ∧ b = 3 ∧ d = k
  · rw [if_pos h1]
    obtain ⟨rfl, rfl, rfl⟩ := h1
    rw [if_pos ⟨rfl, rfl, by omega, h⟩]
  · rw [if_neg h1]
    by_cases q : a = 1 ∧ b = 3 ∧ d < k ∧ C 1 0 d = (j : Int) + 1
    · rw [if_pos q, if_pos ⟨q.1, q.2.1, by omega, q.2.2.2⟩]
    · rw [if_neg q, if_neg]
      rintro ⟨q1, q2, q3, q4⟩
      exact q ⟨q1, q2, by have : ¬ d = k := fun e => h1 ⟨q1, q2, e⟩; omega, q4⟩
theorem c_cs_n {C : q_S} {j k : Nat} (h : C 1 3 k = 2) : c_cs C j k = c_cs C j (k + 1) := by
  funext a b d
  unfold c_cs
  by_cases q : a = 1 ∧ b = 3 ∧ d < k ∧ C 1 0 d = (j : Int) + 1
  · rw [if_pos q, if_pos ⟨q.1, q.2.1, by omega, q.2.2.2⟩]
  · rw [if_neg q]
    by_cases r : a = 1 ∧ b = 3 ∧ d < k + 1 ∧ C 1 0 d = (j : Int) + 1
    · rw [if_pos r]
      have : d = k := by
        have : ¬ d < k := fun e => q ⟨r.1, r.2.1, e, r.2.2.2⟩
        omega
      rw [r.1, r.2.1, this, h]
    · rw [if_neg r]
theorem c_cs_rel (C : q_S) (j k : Nat) : ∀ kd s i, c_rel kd s = true → c_cs C j k kd s i = C kd s i := by
  intro a b d h
  unfold c_cs
  rw [if_neg]
  rintro ⟨rfl, rfl, -⟩
  exact absurd h (by decide)
abbrev c_gn (C : q_S) : Nat → Int := fun z => if C 1 3 z = 2 then 0 else 1
theorem c_gn_b (C : q_S) (j k : Nat) : 0 ≤ c_acc C j (c_gn C) k ∧ c_acc C j (c_gn C) k ≤ k := by
  induction k with
  | zero => rw [c_acc]; omega
  | succ k ih =>
    rw [c_acc]
    split
    · unfold c_gn at ih ⊢
      split <;> omega
    · omega
/-- the first part of a job that can lose copies, among the first k -/
def c_sr (C : q_S) (j : Nat) (a : Int) : Nat → Int
  | 0 => 0
  | k + 1 => if ¬ c_sr C j a k = 0 then c_sr C j a k else if C 1 0 k = (j : Int) + 1 ∧ c_can C k a then (k : Int) + 1 else 0
def c_la (C : q_S) (j : Nat) : Nat → Int
  | 0 => 0
  | k + 1 => if C 1 0 k = (j : Int) + 1 then (k : Int) + 1 else c_la C j k
theorem c_la_s (C : q_S) (j k : Nat) (h : ¬ C 1 0 k = (j : Int) + 1) : c_la C j (k + 1) = c_la C j k := by rw [c_la, if_neg h]
theorem c_sr_s (C : q_S) (j : Nat) (a : Int) (k : Nat) (h : ¬ C 1 0 k = (j : Int) + 1) : c_sr C j a (k + 1) = c_sr C j a k := by
  rw [c_sr]
  by_cases h1 : c_sr C j a k = 0
  · rw [if_neg (fun q => q h1), if_neg (fun q => h q.1), h1]
  · rw [if_pos h1]
theorem c_sr_y {C : q_S} {j : Nat} {a : Int} {k : Nat} (h : ¬ c_sr C j a k = 0) : ∃ i : Nat, c_sr C j a k = (i : Int) + 1 ∧ i < k ∧ C 1 0 i = (j : Int) + 1 ∧ c_can C i a := by
  induction k with
  | zero => exact absurd rfl h
  | succ k ih =>
    rw [c_sr] at h ⊢
    by_cases h1 : c_sr C j a k = 0
    · rw [if_neg (fun q => q h1)] at h ⊢
      by_cases h2 : C 1 0 k = (j : Int) + 1 ∧ c_can C k a
      · rw [if_pos h2]
        exact ⟨k, rfl, by omega, h2⟩
      · rw [if_neg h2] at h
        exact absurd rfl h
    · rw [if_pos h1] at h ⊢
      obtain ⟨i, h3, h4, h5⟩ := ih h
      exact ⟨i, h3, by omega, h5⟩
theorem c_sr_v {C : q_S} {j : Nat} {a : Int} {k : Nat} (h : ¬ c_sr C j a k = 0) : (c_sr C j a k - 1).toNat < k := by
  obtain ⟨i, h1, h2, -⟩ := c_sr_y h
  omega
theorem c_la_b (C : q_S) (j k : Nat) : 0 ≤ c_la C j k ∧ c_la C j k ≤ k := by
  induction k with
  | zero => rw [c_la]; omega
  | succ k ih => rw [c_la]; split <;> omega
theorem c_la_v {C : q_S} {j k : Nat} (h : ¬ c_la C j k = 0) : (c_la C j k - 1).toNat < k := by
  have := c_la_b C j k
  omega
theorem c_la_n {C : q_S} {j k i : Nat} (hi : i < k) (h : C 1 0 i = (j : Int) + 1) : ¬ c_la C j k = 0 := by
  induction k with
  | zero => omega
  | succ k ih =>
    rw [c_la]
    by_cases e : C 1 0 k = (j : Int) + 1
    · rw [if_pos e]; omega
    · rw [if_neg e]
      exact ih (by have : ¬ i = k := fun q => e (q ▸ h); omega)
theorem c_sr_la {C : q_S} {j : Nat} {a : Int} {k : Nat} (h : ¬ c_sr C j a k = 0) : ¬ c_la C j k = 0 := by
  obtain ⟨i, -, h2, h3, -⟩ := c_sr_y h
  exact c_la_n h2 h3
/-- printing, turn by turn -/
def c_pq (C : q_S) (p i j T : Nat) (b : Int) (t : Nat) : Int × Int × Int × Int × Int := c_sq (C 0 2 j) (C 1 2 i) (C 3 1 T) b (C 1 4 i) (C 1 5 i) (C 3 3 T) (C 2 5 p) t
def c_ps (C : q_S) (p i j T : Nat) (b : Int) (t : Nat) : q_S := c_pst C p i T (C 3 2 T + (c_pq C p i j T b t).2.2.1) (c_pq C p i j T b t).2.2.2.1 (c_pq C p i j T b t).2.2.2.2 (c_pq C p i j T b t).2.1 (c_pq C p i j T b t).1
theorem c_ps_0 (C : q_S) (p i j T : Nat) (b : Int) : c_ps C p i j T b 0 = C := by
  unfold c_ps c_pq c_sq
  simp only [Int.add_zero]
  exact c_pst_0 C p i T
theorem c_ps_14 (C : q_S) (p i j T : Nat) (b : Int) (t : Nat) : c_ps C p i j T b t 1 4 i = (c_pq C p i j T b t).1 := by simp [c_ps, c_pst, q_up]
theorem c_ps_15 (C : q_S) (p i j T : Nat) (b : Int) (t : Nat) : c_ps C p i j T b t 1 5 i = (c_pq C p i j T b t).2.1 := by simp [c_ps, c_pst, q_up]
theorem c_ps_25 (C : q_S) (p i j T : Nat) (b : Int) (t : Nat) : c_ps C p i j T b t 2 5 p = (c_pq C p i j T b t).2.2.2.2 := by simp [c_ps, c_pst, q_up]
theorem c_ps_32 (C : q_S) (p i j T : Nat) (b : Int) (t : Nat) : c_ps C p i j T b t 3 2 T = C 3 2 T + (c_pq C p i j T b t).2.2.1 := by simp [c_ps, c_pst, q_up]
theorem c_ps_33 (C : q_S) (p i j T : Nat) (b : Int) (t : Nat) : c_ps C p i j T b t 3 3 T = (c_pq C p i j T b t).2.2.2.1 := by simp [c_ps, c_pst, q_up]
theorem c_pq_s {C : q_S} {p i j T : Nat} {b : Int} {t : Nat} (h : (c_pq C p i j T b t).2.2.1 < b ∧ (c_pq C p i j T b t).1 < C 1 2 i) : c_pq C p i j T b (t + 1) =
    (c_wn (C 0 2 j) (c_pq C p i j T b t).2.1 (c_cn (C 0 2 j) (c_pq C p i j T b t).2.1 (b - (c_pq C p i j T b t).2.2.1)) (c_pq C p i j T b t).1,
       c_xn (C 0 2 j) (c_pq C p i j T b t).2.1 (c_cn (C 0 2 j) (c_pq C p i j T b t).2.1 (b - (c_pq C p i j T b t).2.2.1)),
       (c_pq C p i j T b t).2.2.1 + c_cn (C 0 2 j) (c_pq C p i j T b t).2.1 (b - (c_pq C p i j T b t).2.2.1),
       (c_pq C p i j T b t).2.2.2.1 + c_sn (C 3 1 T) (c_pq C p i j T b t).2.1 (c_cn (C 0 2 j) (c_pq C p i j T b t).2.1 (b - (c_pq C p i j T b t).2.2.1)) (c_pq C p i j T b t).2.2.2.2, 0) := by
  unfold c_pq at h ⊢
  rw [c_sq, if_pos h]
theorem c_pq_st {C : q_S} {p i j T : Nat} {b : Int} {t : Nat} (h : ¬ ((c_pq C p i j T b t).2.2.1 < b ∧ (c_pq C p i j T b t).1 < C 1 2 i)) (ht : t ≤ 100) : c_pq C p i j T b 100 = c_pq C p i j T b t := by
  have := c_sq_st (P := C 0 2 j) (K := C 1 2 i) (sd := C 3 1 T) (b := b) (w0 := C 1 4 i) (x0 := C 1 5 i) (s1 := C 3 3 T) (d0 := C 2 5 p) (t := t) h (100 - t)
  rw [show t + (100 - t) = 100 by omega] at this
  exact this
theorem c_ps_st {C : q_S} {p i j T : Nat} {b : Int} {t : Nat} (h : ¬ ((c_pq C p i j T b t).2.2.1 < b ∧ (c_pq C p i j T b t).1 < C 1 2 i)) (ht : t ≤ 100) : c_ps C p i j T b 100 = c_ps C p i j T b t := by
  unfold c_ps
  rw [c_pq_st h ht]
theorem c_ps_s {C : q_S} {p i j T : Nat} {b : Int} {t : Nat} (h : (c_pq C p i j T b t).2.2.1 < b ∧ (c_pq C p i j T b t).1 < C 1 2 i) :
    c_pst (c_ps C p i j T b t) p i T (c_ps C p i j T b t 3 2 T + c_cn (c_ps C p i j T b t 0 2 j) (c_ps C p i j T b t 1 5 i) (b - (c_pq C p i j T b t).2.2.1)) (c_ps C p i j T b t 3 3 T + c_sn (c_ps C p i j T b t 3 1 T) (c_ps C p i j T b t 1 5 i) (c_cn (c_ps C p i j T b t 0 2 j) (c_ps C p i j T b t 1 5 i) (b - (c_pq C p i j T b t).2.2.1)) (c_ps C p i j T b t 2 5 p)) 0
      (c_xn (c_ps C p i j T b t 0 2 j) (c_ps C p i j T b t 1 5 i) (c_cn (c_ps C p i j T b t 0 2 j) (c_ps C p i j T b t 1 5 i) (b - (c_pq C p i j T b t).2.2.1))) (c_wn (c_ps C p i j T b t 0 2 j) (c_ps C p i j T b t 1 5 i) (c_cn (c_ps C p i j T b t 0 2 j) (c_ps C p i j T b t 1 5 i) (b - (c_pq C p i j T b t).2.2.1)) (c_ps C p i j T b t 1 4 i)) = c_ps C p i j T b (t + 1) := by
  rw [c_ps_32, c_ps_15, c_ps_33, c_ps_25, c_ps_14, show c_ps C p i j T b t 0 2 j = C 0 2 j from rfl, show c_ps C p i j T b t 3 1 T = C 3 1 T from rfl]
  conv => rhs; unfold c_ps; rw [c_pq_s h]
  conv => lhs; unfold c_ps; rw [c_pst_c]
  simp only [Int.add_assoc]
abbrev c_I (C : q_S) (n : Nat → Nat) : Prop := ∀ i, i < n 1 → 1 ≤ C 0 2 (c_job C i) ∧ C 1 5 i < C 0 2 (c_job C i) ∧ C 1 4 i ≤ C 1 2 i
set_option maxHeartbeats 4000000 in
set_option maxRecDepth 100000 in
theorem w_X4_cancel {p : Program} {l : Launch} {e : Env} {s : State} {m : MethodId} {args : Array Value} {below : List Frame} {meth : Method} {c : Code} {Q : State → Prop} {g : q_G} {s0 : Nat} {n : Nat → Nat} {ad : Nat → Nat → Nat} {C : q_S} (X : q_X p s m args c cX4_cancel 5 wsX4_cancel RX4 g s0) (in0 : ∀ w ∈ wsX00, w ∈ wsX4_cancel) (in1 : ∀ w ∈ wsX10, w ∈ wsX4_cancel) (in4 : ∀ w ∈ wsX40, w ∈ wsX4_cancel) (c0 : Nat) (hC : c_S C n) (hR : c_R C n c0) (hc0 : c0 ≤ 511) (a : Int) (ha : R32 a) (hj : (a - 1).toNat < n 0) (kx : ∀  (H : Heap) (locs : List Loc) (ls : Array Slot), q_P g s0 n ad ((c_cs C (a - 1).toNat (n 1))) H → va_S (q_A s0) s.heap H locs → lv_has ls 5 [(3, .int (iI (c_acc C (a - 1).toNat (c_gn C) (n 1)))), (0, .ref (ad 4 0)), (1, .int (iI a)), (2, .ref (ad 0 ((a - 1).toNat)))] → W p l e ({ frames := 7, cells := 1, slots := 6, locals := 112 }) s m args below meth c H locs (0 + 1) (0 + 6) Q (F0 m 47 ls [])) :
    ∀ (N : Nat) (k : Nat) (H : Heap) (locs : List Loc) (ls : Array Slot), (n 1 < k + N) → (k ≤ n 1) → q_P g s0 n ad ((c_cs C (a - 1).toNat k)) H → va_S (q_A s0) s.heap H locs → lv_has ls 5 [(4, va_rf (q_rf ad 1 (c_find C (a - 1).toNat (n 1 - k) k))), (3, .int (iI (c_acc C (a - 1).toNat (c_gn C) k))), (0, .ref (ad 4 0)), (1, .int (iI a)), (2, .ref (ad 0 ((a - 1).toNat)))] → W p l e ({ frames := 7, cells := 1, slots := 6, locals := 112 }) s m args below meth c H locs (0 + 1) (0 + 6) Q (F0 m 14 ls []) := by
  intro N
  induction N with
  | zero =>
    intro k H locs ls h1 h2 hP hS hl
    exact absurd h1 (by omega)
  | succ N ih =>
    intro k H locs ls h1 h2 hP hS hl
    have f0 := c_Rk hR
    rcases c_find_c C (a - 1).toNat (n 1 - k) k with ⟨hv, hnone⟩ | ⟨i, hv, hki, hin, hjb, hbet⟩
    · rw [hv] at hl
      have hl : lv_has ls 5 [(4, .null), (3, .int (iI (c_acc C (a - 1).toNat (c_gn C) k))), (0, .ref (ad 4 0)), (1, .int (iI a)), (2, .ref (ad 0 ((a - 1).toNat)))] := hl
      have e_1 : (c_acc C (a - 1).toNat (c_gn C) k) = (c_acc C (a - 1).toNat (c_gn C) (n 1)) := by exact (c_skip (fun k => (c_acc C (a - 1).toNat (c_gn C) k)) C (a - 1).toNat (fun k h => c_acc_s C _ _ k h) h2 (fun i h5 h6 => hnone i h5 (by omega))).symm
      have hl : lv_has ls 5 [(4, .null), (3, .int (iI (c_acc C (a - 1).toNat (c_gn C) (n 1)))), (0, .ref (ad 4 0)), (1, .int (iI a)), (2, .ref (ad 0 ((a - 1).toNat)))] := lv_cong (show lv_has ls 5 [(4, .null), (3, .int (iI (c_acc C (a - 1).toNat (c_gn C) k))), (0, .ref (ad 4 0)), (1, .int (iI a)), (2, .ref (ad 0 ((a - 1).toNat)))] from lv_sub hl [0, 1, 2, 3, 4] rfl) (lv_cs rfl (lv_cs (congrArg (fun z => Value.int (iI z)) e_1) (lv_cs rfl (lv_cs rfl (lv_cs rfl rfl)))))
      rw [show (c_cs C (a - 1).toNat k) = (c_cs C (a - 1).toNat (n 1)) from (c_skip (fun k => (c_cs C (a - 1).toNat k)) C (a - 1).toNat (fun k h => c_cs_s C _ k h) h2 (fun i h5 h6 => hnone i h5 (by omega))).symm] at hP
      refine lv_aloadN X.1 X.2.1 dX4_cancel_14 (lv_at hl 0 rfl) ?_
      refine lv_ifnullN (tgt := 47) X.1 X.2.1 dX4_cancel_16 (by decide) ?_
      have hl : lv_has ls 5 [(3, .int (iI (c_acc C (a - 1).toNat (c_gn C) (n 1)))), (0, .ref (ad 4 0)), (1, .int (iI a)), (2, .ref (ad 0 ((a - 1).toNat)))] := lv_sub hl [1, 2, 3, 4] rfl
      exact kx _ _ ls hP hS hl
    · rw [hv, q_rf2] at hl
      have hl : lv_has ls 5 [(4, .ref (ad 1 i)), (3, .int (iI (c_acc C (a - 1).toNat (c_gn C) k))), (0, .ref (ad 4 0)), (1, .int (iI a)), (2, .ref (ad 0 ((a - 1).toNat)))] := hl
      have hi : i < n 1 := by omega
      have e_2 : (c_acc C (a - 1).toNat (c_gn C) k) = (c_acc C (a - 1).toNat (c_gn C) i) := by exact (c_skip (fun k => (c_acc C (a - 1).toNat (c_gn C) k)) C (a - 1).toNat (fun k h => c_acc_s C _ _ k h) hki hbet).symm
      have hl : lv_has ls 5 [(4, .ref (ad 1 i)), (3, .int (iI (c_acc C (a - 1).toNat (c_gn C) i))), (0, .ref (ad 4 0)), (1, .int (iI a)), (2, .ref (ad 0 ((a - 1).toNat)))] := lv_cong (show lv_has ls 5 [(4, .ref (ad 1 i)), (3, .int (iI (c_acc C (a - 1).toNat (c_gn C) k))), (0, .ref (ad 4 0)), (1, .int (iI a)), (2, .ref (ad 0 ((a - 1).toNat)))] from lv_sub hl [0, 1, 2, 3, 4] rfl) (lv_cs rfl (lv_cs (congrArg (fun z => Value.int (iI z)) e_2) (lv_cs rfl (lv_cs rfl (lv_cs rfl rfl)))))
      rw [show (c_cs C (a - 1).toNat k) = (c_cs C (a - 1).toNat i) from (c_skip (fun k => (c_cs C (a - 1).toNat k)) C (a - 1).toNat (fun k h => c_cs_s C _ k h) hki hbet).symm] at hP
      refine lv_aload X.1 X.2.1 dX4_cancel_14 (lv_at hl 0 rfl) ?_
      refine lv_ifnull X.1 X.2.1 dX4_cancel_16 ?_
      refine lv_aload X.1 X.2.1 dX4_cancel_19 (lv_at hl 0 rfl) ?_
      refine q_get (index := 119) (v := .int (iI (C 1 3 i))) X hP 1 3 i rfl rfl (by decide) in1 hi (by decide) (by decide +kernel) (congrArg (fun z => Value.int (iI z)) (c_cs_k C (a - 1).toNat i)) dX4_cancel_21 ?_
      refine lv_iconst (v := iI (2)) X.1 X.2.1 dX4_cancel_24 rfl ?_
      refine q_icmp_eq (tgt := 37) X (by have q := hP.tok 1 3 i rfl; rw [c_cs_k] at q; exact q) (by decide) dX4_cancel_25 (by decide) (fun h_3 => ?_) (fun h_3 => ?_)
      · refine lv_aload X.1 X.2.1 dX4_cancel_37 (lv_at hl 0 rfl) ?_
        refine q_get (index := 141) (v := va_rf (q_rf ad 1 (c_find C (a - 1).toNat (n 1 - (i + 1)) (i + 1)))) X hP 1 6 i rfl rfl (by decide) in1 hi (by decide) (by decide +kernel) (q_vch ad 1 (c_R16 hR i (a - 1).toNat hi hjb)) dX4_cancel_39 ?_
        refine q_astore (lv' := [(4, va_rf (q_rf ad 1 (c_find C (a - 1).toNat (n 1 - (i + 1)) (i + 1)))), (3, .int (iI (c_acc C (a - 1).toNat (c_gn C) i))), (0, .ref (ad 4 0)), (1, .int (iI a)), (2, .ref (ad 0 ((a - 1).toNat)))]) X dX4_cancel_42 hl (by decide) rfl (fun ls hl => ?_)
        refine lv_goto (tgt := 14) X.1 X.2.1 dX4_cancel_44 (by decide) ?_
        have e_4 : (c_acc C (a - 1).toNat (c_gn C) i) = (c_acc C (a - 1).toNat (c_gn C) (i + 1)) := by rw [c_acc, if_pos hjb]; unfold c_gn; first | (rw [if_pos (by assumption)]; omega) | (rw [if_neg (by assumption)]; done)
        have hl : lv_has ls 5 [(4, va_rf (q_rf ad 1 (c_find C (a - 1).toNat (n 1 - (i + 1)) (i + 1)))), (3, .int (iI (c_acc C (a - 1).toNat (c_gn C) (i + 1)))), (0, .ref (ad 4 0)), (1, .int (iI a)), (2, .ref (ad 0 ((a - 1).toNat)))] := lv_cong (show lv_has ls 5 [(4, va_rf (q_rf ad 1 (c_find C (a - 1).toNat (n 1 - (i + 1)) (i + 1)))), (3, .int (iI (c_acc C (a - 1).toNat (c_gn C) i))), (0, .ref (ad 4 0)), (1, .int (iI a)), (2, .ref (ad 0 ((a - 1).toNat)))] from lv_sub hl [0, 1, 2, 3, 4] rfl) (lv_cs rfl (lv_cs (congrArg (fun z => Value.int (iI z)) e_4) (lv_cs rfl (lv_cs rfl (lv_cs rfl rfl)))))
        rw [c_cs_n (C := C) (j := (a - 1).toNat) (k := i) (by assumption)] at hP
        exact ih (i + 1) _ _ ls (by omega) (by omega) hP hS hl
      · refine lv_aload X.1 X.2.1 dX4_cancel_28 (lv_at hl 0 rfl) ?_
        refine lv_iconst (v := iI (2)) X.1 X.2.1 dX4_cancel_30 rfl ?_
        refine q_put (index := 119) (v := .int (iI (2))) X hP hS 1 3 i ((2)) rfl rfl (by decide) in1 tyX1 tyX1_ok nmX1 hi (by decide) (by decide +kernel) rfl rfl rfl rfl (show R32 _ from (by decide)) dX4_cancel_31 (fun H locs hP hS => ?_)
        have hP : q_P g s0 n ad (q_up ((c_cs C (a - 1).toNat i)) 1 3 i ((2))) H := hP
        refine q_iinc (lv' := [(3, .int (iI ((c_acc C (a - 1).toNat (c_gn C) i) + 1))), (4, .ref (ad 1 i)), (0, .ref (ad 4 0)), (1, .int (iI a)), (2, .ref (ad 0 ((a - 1).toNat)))]) (k := 1) X dX4_cancel_34 hl rfl (by decide) rfl (fun ls hl => ?_)
        refine lv_aload X.1 X.2.1 dX4_cancel_37 (lv_at hl 1 rfl) ?_
        refine q_get (index := 141) (v := va_rf (q_rf ad 1 (c_find C (a - 1).toNat (n 1 - (i + 1)) (i + 1)))) X hP 1 6 i rfl rfl (by decide) in1 hi (by decide) (by decide +kernel) (q_vch ad 1 (c_R16 hR i (a - 1).toNat hi hjb)) dX4_cancel_39 ?_
        refine q_astore (lv' := [(4, va_rf (q_rf ad 1 (c_find C (a - 1).toNat (n 1 - (i + 1)) (i + 1)))), (3, .int (iI ((c_acc C (a - 1).toNat (c_gn C) i) + 1))), (0, .ref (ad 4 0)), (1, .int (iI a)), (2, .ref (ad 0 ((a - 1).toNat)))]) X dX4_cancel_42 hl (by decide) rfl (fun ls hl => ?_)
        refine lv_goto (tgt := 14) X.1 X.2.1 dX4_cancel_44 (by decide) ?_
        have e_5 : ((c_acc C (a - 1).toNat (c_gn C) i) + 1) = (c_acc C (a - 1).toNat (c_gn C) (i + 1)) := by rw [c_acc, if_pos hjb]; unfold c_gn; first | (rw [if_pos (by assumption)]; omega) | (rw [if_neg (by assumption)]; done)
        have hl : lv_has ls 5 [(4, va_rf (q_rf ad 1 (c_find C (a - 1).toNat (n 1 - (i + 1)) (i + 1)))), (3, .int (iI (c_acc C (a - 1).toNat (c_gn C) (i + 1)))), (0, .ref (ad 4 0)), (1, .int (iI a)), (2, .ref (ad 0 ((a - 1).toNat)))] := lv_cong (show lv_has ls 5 [(4, va_rf (q_rf ad 1 (c_find C (a - 1).toNat (n 1 - (i + 1)) (i + 1)))), (3, .int (iI ((c_acc C (a - 1).toNat (c_gn C) i) + 1))), (0, .ref (ad 4 0)), (1, .int (iI a)), (2, .ref (ad 0 ((a - 1).toNat)))] from lv_sub hl [0, 1, 2, 3, 4] rfl) (lv_cs rfl (lv_cs (congrArg (fun z => Value.int (iI z)) e_5) (lv_cs rfl (lv_cs rfl (lv_cs rfl rfl)))))
        rw [c_cs_y hjb] at hP
        exact ih (i + 1) _ _ ls (by omega) (by omega) hP hS hl
def tX4_cancel (n : Nat → Nat) (ad : Nat → Nat → Nat) (C : q_S) (a : Int) (r : Int32) (u : q_U) : Prop :=
  ((1 ≤ a ∧ a ≤ (n 0 : Int)) ∧ ((c_acc C (a - 1).toNat (c_gn C) (n 1)) ≤ (0)) ∧ u = (n, ad, (c_cs C (a - 1).toNat (n 1))) ∧ r = iI (c_acc C (a - 1).toNat (c_gn C) (n 1))) ∨
  ((1 ≤ a ∧ a ≤ (n 0 : Int)) ∧ ((0) < (c_acc C (a - 1).toNat (c_gn C) (n 1))) ∧ u = (n, ad, c_ep (q_up ((c_cs C (a - 1).toNat (n 1))) 0 6 ((a - 1).toNat) ((1))) (a - 1).toNat 8) ∧ r = iI (c_acc C (a - 1).toNat (c_gn C) (n 1)))
def xX4_cancel (n : Nat → Nat) (C : q_S) (a : Int) (E : String) : Prop :=
  (x_find (n 0) a E)
set_option maxHeartbeats 4000000 in
set_option maxRecDepth 100000 in
theorem c_X4_cancel (l : Launch) (htr : l.stackTraces = false) (g : q_G) (s0 : Nat) (n : Nat → Nat) (ad : Nat → Nat → Nat) (C : q_S) (c0 : Nat) (hC : c_S C n) (hR : c_R C n c0) (hc0 : c0 ≤ 511) (a : Int) (ha : R32 a)  : vx_Met l yX4_cancel wsX4_cancel ({ frames := 7, cells := 1, slots := 6, locals := 112 }) (va_Pc [.ref (ad 4 0), .int (iI a)] (q_B g s0 (n, ad, C))) (va_Qi (tX4_cancel n ad C a) (q_B g s0) (q_A s0)) (q_XC g s0 (n, ad, C) (xX4_cancel n C a)) 1 6 (q_A s0) := by
  refine vx_ofW (cc := cX4_cancel) (maxL := 5) (ret := (some .int)) (by decide) rfl ?_
  intro p e s m args below meth c s₁ B hml hnx hv
  obtain ⟨rfl, hv⟩ := hv
  have hr := B.returns
  have hlocks := B.notSynchronized
  obtain ⟨X, hP⟩ := q_start B.exec B.bytes hml (show s.vm.findClass RX4 = some m.cls from findClass_of_methodNamed B.named) (atoms_spec (ws := wsX4_cancel) B.pre) hv
  have hP : q_P g s0 n ad C s.heap := hP
  have hS : va_S (q_A s0) s.heap s.heap [] := va_S.rf
  have in0 : ∀ w ∈ wsX00, w ∈ wsX4_cancel := by decide +kernel
  have in1 : ∀ w ∈ wsX10, w ∈ wsX4_cancel := by decide +kernel
  have in4 : ∀ w ∈ wsX40, w ∈ wsX4_cancel := by decide +kernel
  have hl := lv_entry ([.ref (ad 4 0), .int (iI a)]) (n := 5) (Nat.le_of_ble_eq_true rfl)
  rw [lg_entry_eq]
  generalize (lg_sl ([.ref (ad 4 0), .int (iI a)]) ++ List.replicate (5 - (lg_sl ([.ref (ad 4 0), .int (iI a)])).length) Slot.unset).toArray = ls at hl ⊢
  have hl : lv_has ls 5 [(0, .ref (ad 4 0)), (1, .int (iI a))] := hl
  refine lv_aload_n X.1 X.2.1 dX4_cancel_0 rfl (lv_at hl 0 rfl) ?_
  refine lv_iload_n X.1 X.2.1 dX4_cancel_1 rfl (lv_at hl 1 rfl) ?_
  refine vx_callq (vx_runV (As := [.int (iI a)]) (rest := []) X.fix (c_X4_findJob l htr g s0 n ad C c0 hC hR a ha) (cwV 1 X.2.2.2.2.1 gX4_cancel_X4_findJob rfl rfl rfl (by decide +kernel) ⟨Nat.le_of_ble_eq_true rfl, Nat.le_of_ble_eq_true rfl⟩) (q_preV X hP hS [.int (iI a)] (kd := 4) (by decide) rfl (c_v4 hC)) rfl rfl hl.1 rfl (lv_room (Nat.le_of_ble_eq_true rfl)) dX4_cancel_2 ⟨Nat.le_of_ble_eq_true rfl, Nat.le_of_ble_eq_true rfl⟩) hS q_id q_id1 q_id ?_ (fun r u t H locs ht hvm hw hB hz1 hk1 hS => ?_)
  · intro E ce q9 u t H locs ht hvm hpx hBX hz1 hk1 hS hce hcv hcl
    exact q_xout X hnx hlocks hBX ht hS hce hcv hcl (fun hxe => hxe) (Nat.le_of_ble_eq_true rfl) (Nat.le_of_ble_eq_true rfl)
  · obtain ⟨rfl, h_1, rfl⟩ := hw
    have hP : q_P g s0 n ad (C) H := q_back hB ht
    rw [show va_rf (some (ad 0 ((a - 1).toNat))) = .ref (ad 0 ((a - 1).toNat)) from rfl]
    refine lv_astore_n (lv' := [(2, .ref (ad 0 ((a - 1).toNat))), (0, .ref (ad 4 0)), (1, .int (iI a))]) X.1 X.2.1 dX4_cancel_5 rfl hl (by decide) rfl (fun ls hl => ?_)
    refine lv_iconst (v := iI (0)) X.1 X.2.1 dX4_cancel_6 rfl ?_
    refine lv_istore_n (lv' := [(3, .int (iI (0))), (2, .ref (ad 0 ((a - 1).toNat))), (0, .ref (ad 4 0)), (1, .int (iI a))]) X.1 X.2.1 dX4_cancel_7 rfl hl (by decide) rfl (fun ls hl => ?_)
    refine lv_aload_n X.1 X.2.1 dX4_cancel_8 rfl (lv_at hl 1 rfl) ?_
    refine q_get (index := 75) (v := va_rf (q_rf ad 1 (c_find C (a - 1).toNat (n 1) 0))) X hP 0 7 ((a - 1).toNat) rfl rfl (by decide) in0 (show (a - 1).toNat < n 0 by omega) (by decide) (by decide +kernel) (q_vch ad 1 (c_R07 hR (a - 1).toNat (by omega))) dX4_cancel_9 ?_
    refine q_astore (lv' := [(4, va_rf (q_rf ad 1 (c_find C (a - 1).toNat (n 1) 0))), (3, .int (iI (0))), (2, .ref (ad 0 ((a - 1).toNat))), (0, .ref (ad 4 0)), (1, .int (iI a))]) X dX4_cancel_12 hl (by decide) rfl (fun ls hl => ?_)
    have e_2 : (va_rf (q_rf ad 1 (c_find C (a - 1).toNat (n 1) 0)) : Value) = va_rf (q_rf ad 1 (c_find C (a - 1).toNat (n 1 - 0) 0)) := by rfl
    have e_3 : (0) = (c_acc C (a - 1).toNat (c_gn C) 0) := by rfl
    have hl : lv_has ls 5 [(4, va_rf (q_rf ad 1 (c_find C (a - 1).toNat (n 1 - 0) 0))), (3, .int (iI (c_acc C (a - 1).toNat (c_gn C) 0))), (0, .ref (ad 4 0)), (1, .int (iI a)), (2, .ref (ad 0 ((a - 1).toNat)))] := lv_cong (show lv_has ls 5 [(4, va_rf (q_rf ad 1 (c_find C (a - 1).toNat (n 1) 0))), (3, .int (iI (0))), (0, .ref (ad 4 0)), (1, .int (iI a)), (2, .ref (ad 0 ((a - 1).toNat)))] from lv_sub hl [0, 1, 3, 4, 2] rfl) (lv_cs e_2 (lv_cs (congrArg (fun z => Value.int (iI z)) e_3) (lv_cs rfl (lv_cs rfl (lv_cs rfl rfl)))))
    have hj : (a - 1).toNat < n 0 := by omega
    have f0 := c_Rk hR
    rw [← c_cs_0 C (a - 1).toNat] at hP
    refine w_X4_cancel X in0 in1 in4 c0 hC hR hc0 a ha hj (fun H locs ls hP hS hl => ?_) (n 1 + 1) 0 _ _ ls (by omega) (by omega) hP hS hl
    refine lv_iload_n X.1 X.2.1 dX4_cancel_47 rfl (lv_at hl 0 rfl) ?_
    refine q_if_le (tgt := 61) X (by have := c_gn_b C (a - 1).toNat (n 1); omega) dX4_cancel_48 (by decide) (fun h_4 => ?_) (fun h_4 => ?_)
    · refine lv_iload_n X.1 X.2.1 dX4_cancel_61 rfl (lv_at hl 0 rfl) ?_
      refine vx_ret ?_
      exact q_iret X hr hlocks hP hS (Or.inl (⟨h_1, h_4, rfl, rfl⟩)) (Nat.le_of_ble_eq_true rfl) (Nat.le_of_ble_eq_true rfl) dX4_cancel_62
    · refine lv_aload_n X.1 X.2.1 dX4_cancel_51 rfl (lv_at hl 3 rfl) ?_
      refine lv_iconst (v := iI (1)) X.1 X.2.1 dX4_cancel_52 rfl ?_
      refine q_put (index := 144) (v := .int (iI (1))) X hP hS 0 6 ((a - 1).toNat) ((1)) rfl rfl (by decide) in0 tyX0 tyX0_ok nmX0 (show (a - 1).toNat < n 0 by omega) (by decide) (by decide +kernel) rfl rfl (q_zn (Or.inr rfl)) (q_zf (Or.inr rfl)) (Or.inr rfl) dX4_cancel_53 (fun H locs hP hS => ?_)
      have hP : q_P g s0 n ad (q_up ((c_cs C (a - 1).toNat (n 1))) 0 6 ((a - 1).toNat) ((1))) H := hP
      refine lv_aload_n X.1 X.2.1 dX4_cancel_56 rfl (lv_at hl 1 rfl) ?_
      refine lv_aload_n X.1 X.2.1 dX4_cancel_57 rfl (lv_at hl 3 rfl) ?_
      refine va_callv (va_runV (As := [.ref (ad 0 ((a - 1).toNat))]) (rest := []) X.fix (c_X4_emptyPrintersOf l g s0 n ad (q_up ((c_cs C (a - 1).toNat (n 1))) 0 6 ((a - 1).toNat) ((1))) c0 ((c_S_cg hC (c_cs_rel C (a - 1).toNat (n 1))).up rfl) ((c_R_cg hR (c_cs_rel C (a - 1).toNat (n 1)) (show 0 ≤ C 4 10 0 from c_Rn hR)).up rfl (by decide)) (fun k hk => hP.2.2.2 2 4 k hk) (a - 1).toNat hj) (cwV 1 X.2.2.2.2.1 gX4_cancel_X4_emptyPrintersOf rfl rfl rfl (by decide +kernel) ⟨Nat.le_of_ble_eq_true rfl, Nat.le_of_ble_eq_true rfl⟩) (q_preV X hP hS [.ref (ad 0 ((a - 1).toNat))] (kd := 4) (by decide) rfl (c_v4 hC)) rfl rfl hl.1 rfl (lv_room (Nat.le_of_ble_eq_true rfl)) dX4_cancel_58 ⟨Nat.le_of_ble_eq_true rfl, Nat.le_of_ble_eq_true rfl⟩) hS q_id q_id1 (fun u t H locs ht hvm hw hB hz1 hk1 hS => ?_)
      obtain rfl := hw
      have hP : q_P g s0 n ad (c_ep (q_up ((c_cs C (a - 1).toNat (n 1))) 0 6 ((a - 1).toNat) ((1))) (a - 1).toNat 8) H := q_back hB ht
      refine lv_iload_n X.1 X.2.1 dX4_cancel_61 rfl (lv_at hl 0 rfl) ?_
      refine vx_ret ?_
      exact q_iret X hr hlocks hP hS (Or.inr (⟨h_1, h_4, rfl, rfl⟩)) (Nat.le_of_ble_eq_true rfl) (Nat.le_of_ble_eq_true rfl) dX4_cancel_62
set_option maxHeartbeats 4000000 in
set_option maxRecDepth 100000 in
theorem w_X4_split {p : Program} {l : Launch} {e : Env} {s : State} {m : MethodId} {args : Array Value} {below : List Frame} {meth : Method} {c : Code} {Q : State → Prop} {g : q_G} {s0 : Nat} {n : Nat → Nat} {ad : Nat → Nat → Nat} {C : q_S} (X : q_X p s m args c cX4_split 9 wsX4_split RX4 g s0) (in0 : ∀ w ∈ wsX00, w ∈ wsX4_split) (in1 : ∀ w ∈ wsX10, w ∈ wsX4_split) (in2 : ∀ w ∈ wsX20, w ∈ wsX4_split) (in4 : ∀ w ∈ wsX40, w ∈ wsX4_split) (c0 : Nat) (hC : c_S C n) (hR : c_R C n c0) (hc0 : c0 ≤ 511) (a b d : Int) (ha : R32 a) (hb : R32 b) (hd : R32 d) (hj : (a - 1).toNat < n 0) (hp : (b - 1).toNat < n 2) (kx : ∀  (H : Heap) (locs : List Loc) (ls : Array Slot), q_P g s0 n ad C H → va_S (q_A s0) s.heap H locs → lv_has ls 9 [(7, va_rf (q_rf ad 1 (c_sr C (a - 1).toNat d (n 1)))), (6, va_rf (q_rf ad 1 (c_la C (a - 1).toNat (n 1)))), (0, .ref (ad 4 0)), (1, .int (iI a)), (2, .int (iI b)), (3, .int (iI d)), (4, .ref (ad 0 ((a - 1).toNat))), (5, .ref (ad 2 ((b - 1).toNat)))] → W p l e ({ frames := 7, cells := 3, slots := 19, locals := 112 }) s m args below meth c H locs (0 + 1 + 1) (0 + 6 + 6) Q (F0 m 71 ls [])) :
    ∀ (N : Nat) (k : Nat) (H : Heap) (locs : List Loc) (ls : Array Slot), (n 1 < k + N) → (k ≤ n 1) → q_P g s0 n ad C H → va_S (q_A s0) s.heap H locs → lv_has ls 9 [(8, va_rf (q_rf ad 1 (c_find C (a - 1).toNat (n 1 - k) k))), (7, va_rf (q_rf ad 1 (c_sr C (a - 1).toNat d k))), (6, va_rf (q_rf ad 1 (c_la C (a - 1).toNat k))), (0, .ref (ad 4 0)), (1, .int (iI a)), (2, .int (iI b)), (3, .int (iI d)), (4, .ref (ad 0 ((a - 1).toNat))), (5, .ref (ad 2 ((b - 1).toNat)))] → W p l e ({ frames := 7, cells := 3, slots := 19, locals := 112 }) s m args below meth c H locs (0 + 1 + 1) (0 + 6 + 6) Q (F0 m 34 ls []) := by
  intro N
  induction N with
  | zero =>
    intro k H locs ls h1 h2 hP hS hl
    exact absurd h1 (by omega)
  | succ N ih =>
    intro k H locs ls h1 h2 hP hS hl
    rcases c_find_c C (a - 1).toNat (n 1 - k) k with ⟨hv, hnone⟩ | ⟨i, hv, hki, hin, hjb, hbet⟩
    · rw [hv] at hl
      have hl : lv_has ls 9 [(8, .null), (7, va_rf (q_rf ad 1 (c_sr C (a - 1).toNat d k))), (6, va_rf (q_rf ad 1 (c_la C (a - 1).toNat k))), (0, .ref (ad 4 0)), (1, .int (iI a)), (2, .int (iI b)), (3, .int (iI d)), (4, .ref (ad 0 ((a - 1).toNat))), (5, .ref (ad 2 ((b - 1).toNat)))] := hl
      have e_1 : (va_rf (q_rf ad 1 (c_sr C (a - 1).toNat d k)) : Value) = va_rf (q_rf ad 1 (c_sr C (a - 1).toNat d (n 1))) := by rw [show (c_sr C (a - 1).toNat d (n 1)) = (c_sr C (a - 1).toNat d k) from c_skip (fun k => (c_sr C (a - 1).toNat d k)) C (a - 1).toNat (fun k h => c_sr_s C _ _ k h) h2 (fun i h5 h6 => hnone i h5 (by omega))]
      have e_2 : (va_rf (q_rf ad 1 (c_la C (a - 1).toNat k)) : Value) = va_rf (q_rf ad 1 (c_la C (a - 1).toNat (n 1))) := by rw [show (c_la C (a - 1).toNat (n 1)) = (c_la C (a - 1).toNat k) from c_skip (fun k => (c_la C (a - 1).toNat k)) C (a - 1).toNat (fun k h => c_la_s C _ k h) h2 (fun i h5 h6 => hnone i h5 (by omega))]
      have hl : lv_has ls 9 [(8, .null), (7, va_rf (q_rf ad 1 (c_sr C (a - 1).toNat d (n 1)))), (6, va_rf (q_rf ad 1 (c_la C (a - 1).toNat (n 1)))), (0, .ref (ad 4 0)), (1, .int (iI a)), (2, .int (iI b)), (3, .int (iI d)), (4, .ref (ad 0 ((a - 1).toNat))), (5, .ref (ad 2 ((b - 1).toNat)))] := lv_cong (show lv_has ls 9 [(8, .null), (7, va_rf (q_rf ad 1 (c_sr C (a - 1).toNat d k))), (6, va_rf (q_rf ad 1 (c_la C (a - 1).toNat k))), (0, .ref (ad 4 0)), (1, .int (iI a)), (2, .int (iI b)), (3, .int (iI d)), (4, .ref (ad 0 ((a - 1).toNat))), (5, .ref (ad 2 ((b - 1).toNat)))] from lv_sub hl [0, 1, 2, 3, 4, 5, 6, 7, 8] rfl) (lv_cs rfl (lv_cs e_1 (lv_cs e_2 (lv_cs rfl (lv_cs rfl (lv_cs rfl (lv_cs rfl (lv_cs rfl (lv_cs rfl rfl)))))))))
      refine lv_aloadN X.1 X.2.1 dX4_split_34 (lv_at hl 0 rfl) ?_
      refine lv_ifnullN (tgt := 71) X.1 X.2.1 dX4_split_36 (by decide) ?_
      have hl : lv_has ls 9 [(7, va_rf (q_rf ad 1 (c_sr C (a - 1).toNat d (n 1)))), (6, va_rf (q_rf ad 1 (c_la C (a - 1).toNat (n 1)))), (0, .ref (ad 4 0)), (1, .int (iI a)), (2, .int (iI b)), (3, .int (iI d)), (4, .ref (ad 0 ((a - 1).toNat))), (5, .ref (ad 2 ((b - 1).toNat)))] := lv_sub hl [1, 2, 3, 4, 5, 6, 7, 8] rfl
      exact kx _ _ ls hP hS hl
    · rw [hv, q_rf2] at hl
      have hl : lv_has ls 9 [(8, .ref (ad 1 i)), (7, va_rf (q_rf ad 1 (c_sr C (a - 1).toNat d k))), (6, va_rf (q_rf ad 1 (c_la C (a - 1).toNat k))), (0, .ref (ad 4 0)), (1, .int (iI a)), (2, .int (iI b)), (3, .int (iI d)), (4, .ref (ad 0 ((a - 1).toNat))), (5, .ref (ad 2 ((b - 1).toNat)))] := hl
      have e_3 : (va_rf (q_rf ad 1 (c_sr C (a - 1).toNat d k)) : Value) = va_rf (q_rf ad 1 (c_sr C (a - 1).toNat d i)) := by rw [show (c_sr C (a - 1).toNat d i) = (c_sr C (a - 1).toNat d k) from c_skip (fun k => (c_sr C (a - 1).toNat d k)) C (a - 1).toNat (fun k h => c_sr_s C _ _ k h) hki hbet]
      have e_4 : (va_rf (q_rf ad 1 (c_la C (a - 1).toNat k)) : Value) = va_rf (q_rf ad 1 (c_la C (a - 1).toNat i)) := by rw [show (c_la C (a - 1).toNat i) = (c_la C (a - 1).toNat k) from c_skip (fun k => (c_la C (a - 1).toNat k)) C (a - 1).toNat (fun k h => c_la_s C _ k h) hki hbet]
      have hl : lv_has ls 9 [(8, .ref (ad 1 i)), (7, va_rf (q_rf ad 1 (c_sr C (a - 1).toNat d i))), (6, va_rf (q_rf ad 1 (c_la C (a - 1).toNat i))), (0, .ref (ad 4 0)), (1, .int (iI a)), (2, .int (iI b)), (3, .int (iI d)), (4, .ref (ad 0 ((a - 1).toNat))), (5, .ref (ad 2 ((b - 1).toNat)))] := lv_cong (show lv_has ls 9 [(8, .ref (ad 1 i)), (7, va_rf (q_rf ad 1 (c_sr C (a - 1).toNat d k))), (6, va_rf (q_rf ad 1 (c_la C (a - 1).toNat k))), (0, .ref (ad 4 0)), (1, .int (iI a)), (2, .int (iI b)), (3, .int (iI d)), (4, .ref (ad 0 ((a - 1).toNat))), (5, .ref (ad 2 ((b - 1).toNat)))] from lv_sub hl [0, 1, 2, 3, 4, 5, 6, 7, 8] rfl) (lv_cs rfl (lv_cs e_3 (lv_cs e_4 (lv_cs rfl (lv_cs rfl (lv_cs rfl (lv_cs rfl (lv_cs rfl (lv_cs rfl rfl)))))))))
      have hi : i < n 1 := by omega
      by_cases hb2 : (c_sr C (a - 1).toNat d i) = 0
      · rw [q_rf0 ad 1 hb2] at hl
        by_cases hb3 : (c_la C (a - 1).toNat i) = 0
        · rw [q_rf0 ad 1 hb3] at hl
          refine lv_aload X.1 X.2.1 dX4_split_34 (lv_at hl 0 rfl) ?_
          refine lv_ifnull X.1 X.2.1 dX4_split_36 ?_
          refine lv_aloadN X.1 X.2.1 dX4_split_39 (lv_at hl 1 rfl) ?_
          refine lv_ifnonnullN X.1 X.2.1 dX4_split_41 ?_
          refine lv_aload X.1 X.2.1 dX4_split_44 (lv_at hl 0 rfl) ?_
          refine lv_iload_n X.1 X.2.1 dX4_split_46 rfl (lv_at hl 6 rfl) ?_
          refine va_calli (va_runS (As := [.ref (ad 1 i), .int (iI d)]) (rest := []) X.fix (c_X4_canLose l g s0 n ad C c0 hR i hi d hd) (va_cwS 2 X.2.2.2.2.1 gX4_split_X4_canLose rfl rfl rfl (by decide +kernel) ⟨Nat.le_of_ble_eq_true rfl, Nat.le_of_ble_eq_true rfl⟩) (q_preS X hP hS _) rfl rfl hl.1 rfl (lv_room (Nat.le_of_ble_eq_true rfl)) dX4_split_47 ⟨Nat.le_of_ble_eq_true rfl, Nat.le_of_ble_eq_true rfl⟩) hS q_id q_id1 (fun r u t H locs ht hvm hw hB hz1 hk1 hS => ?_)
          obtain ⟨rfl, ⟨h_5, rfl⟩ | ⟨h_5, rfl⟩⟩ := hw
          · have hP : q_P g s0 n ad (C) H := q_back hB ht
            have h_5 : c_can C i d := h_5
            refine q_if_eq (tgt := 57) X (by decide) dX4_split_50 (by decide) (fun h => absurd h (by decide)) (fun _ => ?_)
            refine lv_aload X.1 X.2.1 dX4_split_53 (lv_at hl 0 rfl) ?_
            refine lv_astore (lv' := [(7, .ref (ad 1 i)), (8, .ref (ad 1 i)), (6, .null), (0, .ref (ad 4 0)), (1, .int (iI a)), (2, .int (iI b)), (3, .int (iI d)), (4, .ref (ad 0 ((a - 1).toNat))), (5, .ref (ad 2 ((b - 1).toNat)))]) X.1 X.2.1 dX4_split_55 hl (by decide) rfl (fun ls hl => ?_)
            refine lv_aload X.1 X.2.1 dX4_split_57 (lv_at hl 1 rfl) ?_
            refine lv_astore (lv' := [(6, .ref (ad 1 i)), (7, .ref (ad 1 i)), (8, .ref (ad 1 i)), (0, .ref (ad 4 0)), (1, .int (iI a)), (2, .int (iI b)), (3, .int (iI d)), (4, .ref (ad 0 ((a - 1).toNat))), (5, .ref (ad 2 ((b - 1).toNat)))]) X.1 X.2.1 dX4_split_59 hl (by decide) rfl (fun ls hl => ?_)
            refine lv_aload X.1 X.2.1 dX4_split_61 (lv_at hl 2 rfl) ?_
            refine q_get (index := 141) (v := va_rf (q_rf ad 1 (c_find C (a - 1).toNat (n 1 - (i + 1)) (i + 1)))) X hP 1 6 i rfl rfl (by decide) in1 hi (by decide) (by decide +kernel) (q_vch ad 1 (c_R16 hR i (a - 1).toNat hi hjb)) dX4_split_63 ?_
            refine q_astore (lv' := [(8, va_rf (q_rf ad 1 (c_find C (a - 1).toNat (n 1 - (i + 1)) (i + 1)))), (6, .ref (ad 1 i)), (7, .ref (ad 1 i)), (0, .ref (ad 4 0)), (1, .int (iI a)), (2, .int (iI b)), (3, .int (iI d)), (4, .ref (ad 0 ((a - 1).toNat))), (5, .ref (ad 2 ((b - 1).toNat)))]) X dX4_split_66 hl (by decide) rfl (fun ls hl => ?_)
            refine lv_goto (tgt := 34) X.1 X.2.1 dX4_split_68 (by decide) ?_
            have e_7 : (.ref (ad 1 i) : Value) = va_rf (q_rf ad 1 (c_sr C (a - 1).toNat d (i + 1))) := by first | (rw [c_sr, if_pos hb2, q_rf1 _ _ hb2]; done) | (rw [c_sr, if_neg (fun q => q hb2), if_pos ⟨hjb, by assumption⟩, q_rf2]; done) | (rw [c_sr, if_neg (fun q => q hb2), if_neg (fun q => by have := q.2; contradiction)]; rfl)
            have e_8 : (.ref (ad 1 i) : Value) = va_rf (q_rf ad 1 (c_la C (a - 1).toNat (i + 1))) := by rw [c_la, if_pos hjb, q_rf2]
            have hl : lv_has ls 9 [(8, va_rf (q_rf ad 1 (c_find C (a - 1).toNat (n 1 - (i + 1)) (i + 1)))), (7, va_rf (q_rf ad 1 (c_sr C (a - 1).toNat d (i + 1)))), (6, va_rf (q_rf ad 1 (c_la C (a - 1).toNat (i + 1)))), (0, .ref (ad 4 0)), (1, .int (iI a)), (2, .int (iI b)), (3, .int (iI d)), (4, .ref (ad 0 ((a - 1).toNat))), (5, .ref (ad 2 ((b - 1).toNat)))] := lv_cong (show lv_has ls 9 [(8, va_rf (q_rf ad 1 (c_find C (a - 1).toNat (n 1 - (i + 1)) (i + 1)))), (7, .ref (ad 1 i)), (6, .ref (ad 1 i)), (0, .ref (ad 4 0)), (1, .int (iI a)), (2, .int (iI b)), (3, .int (iI d)), (4, .ref (ad 0 ((a - 1).toNat))), (5, .ref (ad 2 ((b - 1).toNat)))] from lv_sub hl [0, 2, 1, 3, 4, 5, 6, 7, 8] rfl) (lv_cs rfl (lv_cs e_7 (lv_cs e_8 (lv_cs rfl (lv_cs rfl (lv_cs rfl (lv_cs rfl (lv_cs rfl (lv_cs rfl rfl)))))))))
            exact ih (i + 1) _ _ ls (by omega) (by omega) hP hS hl
          · have hP : q_P g s0 n ad (C) H := q_back hB ht
            have h_5 : ¬ (c_can C i d) := h_5
            refine q_if_eq (tgt := 57) X (by decide) dX4_split_50 (by decide) (fun _ => ?_) (fun h => absurd h (by decide))
            refine lv_aload X.1 X.2.1 dX4_split_57 (lv_at hl 0 rfl) ?_
            refine lv_astore (lv' := [(6, .ref (ad 1 i)), (8, .ref (ad 1 i)), (7, .null), (0, .ref (ad 4 0)), (1, .int (iI a)), (2, .int (iI b)), (3, .int (iI d)), (4, .ref (ad 0 ((a - 1).toNat))), (5, .ref (ad 2 ((b - 1).toNat)))]) X.1 X.2.1 dX4_split_59 hl (by decide) rfl (fun ls hl => ?_)
            refine lv_aload X.1 X.2.1 dX4_split_61 (lv_at hl 1 rfl) ?_
            refine q_get (index := 141) (v := va_rf (q_rf ad 1 (c_find C (a - 1).toNat (n 1 - (i + 1)) (i + 1)))) X hP 1 6 i rfl rfl (by decide) in1 hi (by decide) (by decide +kernel) (q_vch ad 1 (c_R16 hR i (a - 1).toNat hi hjb)) dX4_split_63 ?_
            refine q_astore (lv' := [(8, va_rf (q_rf ad 1 (c_find C (a - 1).toNat (n 1 - (i + 1)) (i + 1)))), (6, .ref (ad 1 i)), (7, .null), (0, .ref (ad 4 0)), (1, .int (iI a)), (2, .int (iI b)), (3, .int (iI d)), (4, .ref (ad 0 ((a - 1).toNat))), (5, .ref (ad 2 ((b - 1).toNat)))]) X dX4_split_66 hl (by decide) rfl (fun ls hl => ?_)
            refine lv_goto (tgt := 34) X.1 X.2.1 dX4_split_68 (by decide) ?_
            have e_10 : (.null : Value) = va_rf (q_rf ad 1 (c_sr C (a - 1).toNat d (i + 1))) := by first | (rw [c_sr, if_pos hb2, q_rf1 _ _ hb2]; done) | (rw [c_sr, if_neg (fun q => q hb2), if_pos ⟨hjb, by assumption⟩, q_rf2]; done) | (rw [c_sr, if_neg (fun q => q hb2), if_neg (fun q => by have := q.2; contradiction)]; rfl)
            have e_11 : (.ref (ad 1 i) : Value) = va_rf (q_rf ad 1 (c_la C (a - 1).toNat (i + 1))) := by rw [c_la, if_pos hjb, q_rf2]
            have hl : lv_has ls 9 [(8, va_rf (q_rf ad 1 (c_find C (a - 1).toNat (n 1 - (i + 1)) (i + 1)))), (7, va_rf (q_rf ad 1 (c_sr C (a - 1).toNat d (i + 1)))), (6, va_rf (q_rf ad 1 (c_la C (a - 1).toNat (i + 1)))), (0, .ref (ad 4 0)), (1, .int (iI a)), (2, .int (iI b)), (3, .int (iI d)), (4, .ref (ad 0 ((a - 1).toNat))), (5, .ref (ad 2 ((b - 1).toNat)))] := lv_cong (show lv_has ls 9 [(8, va_rf (q_rf ad 1 (c_find C (a - 1).toNat (n 1 - (i + 1)) (i + 1)))), (7, .null), (6, .ref (ad 1 i)), (0, .ref (ad 4 0)), (1, .int (iI a)), (2, .int (iI b)), (3, .int (iI d)), (4, .ref (ad 0 ((a - 1).toNat))), (5, .ref (ad 2 ((b - 1).toNat)))] from lv_sub hl [0, 2, 1, 3, 4, 5, 6, 7, 8] rfl) (lv_cs rfl (lv_cs e_10 (lv_cs e_11 (lv_cs rfl (lv_cs rfl (lv_cs rfl (lv_cs rfl (lv_cs rfl (lv_cs rfl rfl)))))))))
            exact ih (i + 1) _ _ ls (by omega) (by omega) hP hS hl
        · rw [q_rf1 ad 1 hb3] at hl
          refine lv_aload X.1 X.2.1 dX4_split_34 (lv_at hl 0 rfl) ?_
          refine lv_ifnull X.1 X.2.1 dX4_split_36 ?_
          refine lv_aloadN X.1 X.2.1 dX4_split_39 (lv_at hl 1 rfl) ?_
          refine lv_ifnonnullN X.1 X.2.1 dX4_split_41 ?_
          refine lv_aload X.1 X.2.1 dX4_split_44 (lv_at hl 0 rfl) ?_
          refine lv_iload_n X.1 X.2.1 dX4_split_46 rfl (lv_at hl 6 rfl) ?_
          refine va_calli (va_runS (As := [.ref (ad 1 i), .int (iI d)]) (rest := []) X.fix (c_X4_canLose l g s0 n ad C c0 hR i hi d hd) (va_cwS 2 X.2.2.2.2.1 gX4_split_X4_canLose rfl rfl rfl (by decide +kernel) ⟨Nat.le_of_ble_eq_true rfl, Nat.le_of_ble_eq_true rfl⟩) (q_preS X hP hS _) rfl rfl hl.1 rfl (lv_room (Nat.le_of_ble_eq_true rfl)) dX4_split_47 ⟨Nat.le_of_ble_eq_true rfl, Nat.le_of_ble_eq_true rfl⟩) hS q_id q_id1 (fun r u t H locs ht hvm hw hB hz1 hk1 hS => ?_)
          obtain ⟨rfl, ⟨h_12, rfl⟩ | ⟨h_12, rfl⟩⟩ := hw
          · have hP : q_P g s0 n ad (C) H := q_back hB ht
            have h_12 : c_can C i d := h_12
            refine q_if_eq (tgt := 57) X (by decide) dX4_split_50 (by decide) (fun h => absurd h (by decide)) (fun _ => ?_)
            refine lv_aload X.1 X.2.1 dX4_split_53 (lv_at hl 0 rfl) ?_
            refine lv_astore (lv' := [(7, .ref (ad 1 i)), (8, .ref (ad 1 i)), (6, .ref (ad 1 (((c_la C (a - 1).toNat i) - 1).toNat))), (0, .ref (ad 4 0)), (1, .int (iI a)), (2, .int (iI b)), (3, .int (iI d)), (4, .ref (ad 0 ((a - 1).toNat))), (5, .ref (ad 2 ((b - 1).toNat)))]) X.1 X.2.1 dX4_split_55 hl (by decide) rfl (fun ls hl => ?_)
            refine lv_aload X.1 X.2.1 dX4_split_57 (lv_at hl 1 rfl) ?_
            refine lv_astore (lv' := [(6, .ref (ad 1 i)), (7, .ref (ad 1 i)), (8, .ref (ad 1 i)), (0, .ref (ad 4 0)), (1, .int (iI a)), (2, .int (iI b)), (3, .int (iI d)), (4, .ref (ad 0 ((a - 1).toNat))), (5, .ref (ad 2 ((b - 1).toNat)))]) X.1 X.2.1 dX4_split_59 hl (by decide) rfl (fun ls hl => ?_)
            refine lv_aload X.1 X.2.1 dX4_split_61 (lv_at hl 2 rfl) ?_
            refine q_get (index := 141) (v := va_rf (q_rf ad 1 (c_find C (a - 1).toNat (n 1 - (i + 1)) (i + 1)))) X hP 1 6 i rfl rfl (by decide) in1 hi (by decide) (by decide +kernel) (q_vch ad 1 (c_R16 hR i (a - 1).toNat hi hjb)) dX4_split_63 ?_
            refine q_astore (lv' := [(8, va_rf (q_rf ad 1 (c_find C (a - 1).toNat (n 1 - (i + 1)) (i + 1)))), (6, .ref (ad 1 i)), (7, .ref (ad 1 i)), (0, .ref (ad 4 0)), (1, .int (iI a)), (2, .int (iI b)), (3, .int (iI d)), (4, .ref (ad 0 ((a - 1).toNat))), (5, .ref (ad 2 ((b - 1).toNat)))]) X dX4_split_66 hl (by decide) rfl (fun ls hl => ?_)
            refine lv_goto (tgt := 34) X.1 X.2.1 dX4_split_68 (by decide) ?_
            have e_14 : (.ref (ad 1 i) : Value) = va_rf (q_rf ad 1 (c_sr C (a - 1).toNat d (i + 1))) := by first | (rw [c_sr, if_pos hb2, q_rf1 _ _ hb2]; done) | (rw [c_sr, if_neg (fun q => q hb2), if_pos ⟨hjb, by assumption⟩, q_rf2]; done) | (rw [c_sr, if_neg (fun q => q hb2), if_neg (fun q => by have := q.2; contradiction)]; rfl)
            have e_15 : (.ref (ad 1 i) : Value) = va_rf (q_rf ad 1 (c_la C (a - 1).toNat (i + 1))) := by rw [c_la, if_pos hjb, q_rf2]
            have hl : lv_has ls 9 [(8, va_rf (q_rf ad 1 (c_find C (a - 1).toNat (n 1 - (i + 1)) (i + 1)))), (7, va_rf (q_rf ad 1 (c_sr C (a - 1).toNat d (i + 1)))), (6, va_rf (q_rf ad 1 (c_la C (a - 1).toNat (i + 1)))), (0, .ref (ad 4 0)), (1, .int (iI a)), (2, .int (iI b)), (3, .int (iI d)), (4, .ref (ad 0 ((a - 1).toNat))), (5, .ref (ad 2 ((b - 1).toNat)))] := lv_cong (show lv_has ls 9 [(8, va_rf (q_rf ad 1 (c_find C (a - 1).toNat (n 1 - (i + 1)) (i + 1)))), (7, .ref (ad 1 i)), (6, .ref (ad 1 i)), (0, .ref (ad 4 0)), (1, .int (iI a)), (2, .int (iI b)), (3, .int (iI d)), (4, .ref (ad 0 ((a - 1).toNat))), (5, .ref (ad 2 ((b - 1).toNat)))] from lv_sub hl [0, 2, 1, 3, 4, 5, 6, 7, 8] rfl) (lv_cs rfl (lv_cs e_14 (lv_cs e_15 (lv_cs rfl (lv_cs rfl (lv_cs rfl (lv_cs rfl (lv_cs rfl (lv_cs rfl rfl)))))))))
            exact ih (i + 1) _ _ ls (by omega) (by omega) hP hS hl
          · have hP : q_P g s0 n ad (C) H := q_back hB ht
            have h_12 : ¬ (c_can C i d) := h_12
            refine q_if_eq (tgt := 57) X (by decide) dX4_split_50 (by decide) (fun _ => ?_) (fun h => absurd h (by decide))
            refine lv_aload X.1 X.2.1 dX4_split_57 (lv_at hl 0 rfl) ?_
            refine lv_astore (lv' := [(6, .ref (ad 1 i)), (8, .ref (ad 1 i)), (7, .null), (0, .ref (ad 4 0)), (1, .int (iI a)), (2, .int (iI b)), (3, .int (iI d)), (4, .ref (ad 0 ((a - 1).toNat))), (5, .ref (ad 2 ((b - 1).toNat)))]) X.1 X.2.1 dX4_split_59 hl (by decide) rfl (fun ls hl => ?_)
            refine lv_aload X.1 X.2.1 dX4_split_61 (lv_at hl 1 rfl) ?_
            refine q_get (index := 141) (v := va_rf (q_rf ad 1 (c_find C (a - 1).toNat (n 1 - (i + 1)) (i + 1)))) X hP 1 6 i rfl rfl (by decide) in1 hi (by decide) (by decide +kernel) (q_vch ad 1 (c_R16 hR i (a - 1).toNat hi hjb)) dX4_split_63 ?_
            refine q_astore (lv' := [(8, va_rf (q_rf ad 1 (c_find C (a - 1).toNat (n 1 - (i + 1)) (i + 1)))), (6, .ref (ad 1 i)), (7, .null), (0, .ref (ad 4 0)), (1, .int (iI a)), (2, .int (iI b)), (3, .int (iI d)), (4, .ref (ad 0 ((a - 1).toNat))), (5, .ref (ad 2 ((b - 1).toNat)))]) X dX4_split_66 hl (by decide) rfl (fun ls hl => ?_)
            refine lv_goto (tgt := 34) X.1 X.2.1 dX4_split_68 (by decide) ?_
            have e_17 : (.null : Value) = va_rf (q_rf ad 1 (c_sr C (a - 1).toNat d (i + 1))) := by first | (rw [c_sr, if_pos hb2, q_rf1 _ _ hb2]; done) | (rw [c_sr, if_neg (fun q => q hb2), if_pos ⟨hjb, by assumption⟩, q_rf2]; done) | (rw [c_sr, if_neg (fun q => q hb2), if_neg (fun q => by have := q.2; contradiction)]; rfl)
            have e_18 : (.ref (ad 1 i) : Value) = va_rf (q_rf ad 1 (c_la C (a - 1).toNat (i + 1))) := by rw [c_la, if_pos hjb, q_rf2]
            have hl : lv_has ls 9 [(8, va_rf (q_rf ad 1 (c_find C (a - 1).toNat (n 1 - (i + 1)) (i + 1)))), (7, va_rf (q_rf ad 1 (c_sr C (a - 1).toNat d (i + 1)))), (6, va_rf (q_rf ad 1 (c_la C (a - 1).toNat (i + 1)))), (0, .ref (ad 4 0)), (1, .int (iI a)), (2, .int (iI b)), (3, .int (iI d)), (4, .ref (ad 0 ((a - 1).toNat))), (5, .ref (ad 2 ((b - 1).toNat)))] := lv_cong (show lv_has ls 9 [(8, va_rf (q_rf ad 1 (c_find C (a - 1).toNat (n 1 - (i + 1)) (i + 1)))), (7, .null), (6, .ref (ad 1 i)), (0, .ref (ad 4 0)), (1, .int (iI a)), (2, .int (iI b)), (3, .int (iI d)), (4, .ref (ad 0 ((a - 1).toNat))), (5, .ref (ad 2 ((b - 1).toNat)))] from lv_sub hl [0, 2, 1, 3, 4, 5, 6, 7, 8] rfl) (lv_cs rfl (lv_cs e_17 (lv_cs e_18 (lv_cs rfl (lv_cs rfl (lv_cs rfl (lv_cs rfl (lv_cs rfl (lv_cs rfl rfl)))))))))
            exact ih (i + 1) _ _ ls (by omega) (by omega) hP hS hl
      · rw [q_rf1 ad 1 hb2] at hl
        refine lv_aload X.1 X.2.1 dX4_split_34 (lv_at hl 0 rfl) ?_
        refine lv_ifnull X.1 X.2.1 dX4_split_36 ?_
        refine lv_aload X.1 X.2.1 dX4_split_39 (lv_at hl 1 rfl) ?_
        refine lv_ifnonnull (tgt := 57) X.1 X.2.1 dX4_split_41 (by decide) ?_
        refine lv_aload X.1 X.2.1 dX4_split_57 (lv_at hl 0 rfl) ?_
        refine lv_astore (lv' := [(6, .ref (ad 1 i)), (8, .ref (ad 1 i)), (7, .ref (ad 1 (((c_sr C (a - 1).toNat d i) - 1).toNat))), (0, .ref (ad 4 0)), (1, .int (iI a)), (2, .int (iI b)), (3, .int (iI d)), (4, .ref (ad 0 ((a - 1).toNat))), (5, .ref (ad 2 ((b - 1).toNat)))]) X.1 X.2.1 dX4_split_59 hl (by decide) rfl (fun ls hl => ?_)
        refine lv_aload X.1 X.2.1 dX4_split_61 (lv_at hl 1 rfl) ?_
        refine q_get (index := 141) (v := va_rf (q_rf ad 1 (c_find C (a - 1).toNat (n 1 - (i + 1)) (i + 1)))) X hP 1 6 i rfl rfl (by decide) in1 hi (by decide) (by decide +kernel) (q_vch ad 1 (c_R16 hR i (a - 1).toNat hi hjb)) dX4_split_63 ?_
        refine q_astore (lv' := [(8, va_rf (q_rf ad 1 (c_find C (a - 1).toNat (n 1 - (i + 1)) (i + 1)))), (6, .ref (ad 1 i)), (7, .ref (ad 1 (((c_sr C (a - 1).toNat d i) - 1).toNat))), (0, .ref (ad 4 0)), (1, .int (iI a)), (2, .int (iI b)), (3, .int (iI d)), (4, .ref (ad 0 ((a - 1).toNat))), (5, .ref (ad 2 ((b - 1).toNat)))]) X dX4_split_66 hl (by decide) rfl (fun ls hl => ?_)
        refine lv_goto (tgt := 34) X.1 X.2.1 dX4_split_68 (by decide) ?_
        have e_19 : (.ref (ad 1 (((c_sr C (a - 1).toNat d i) - 1).toNat)) : Value) = va_rf (q_rf ad 1 (c_sr C (a - 1).toNat d (i + 1))) := by first | (rw [c_sr, if_pos hb2, q_rf1 _ _ hb2]; done) | (rw [c_sr, if_neg (fun q => q hb2), if_pos ⟨hjb, by assumption⟩, q_rf2]; done) | (rw [c_sr, if_neg (fun q => q hb2), if_neg (fun q => by have := q.2; contradiction)]; rfl)
        have e_20 : (.ref (ad 1 i) : Value) = va_rf (q_rf ad 1 (c_la C (a - 1).toNat (i + 1))) := by rw [c_la, if_pos hjb, q_rf2]
        have hl : lv_has ls 9 [(8, va_rf (q_rf ad 1 (c_find C (a - 1).toNat (n 1 - (i + 1)) (i + 1)))), (7, va_rf (q_rf ad 1 (c_sr C (a - 1).toNat d (i + 1)))), (6, va_rf (q_rf ad 1 (c_la C (a - 1).toNat (i + 1)))), (0, .ref (ad 4 0)), (1, .int (iI a)), (2, .int (iI b)), (3, .int (iI d)), (4, .ref (ad 0 ((a - 1).toNat))), (5, .ref (ad 2 ((b - 1).toNat)))] := lv_cong (show lv_has ls 9 [(8, va_rf (q_rf ad 1 (c_find C (a - 1).toNat (n 1 - (i + 1)) (i + 1)))), (7, .ref (ad 1 (((c_sr C (a - 1).toNat d i) - 1).toNat))), (6, .ref (ad 1 i)), (0, .ref (ad 4 0)), (1, .int (iI a)), (2, .int (iI b)), (3, .int (iI d)), (4, .ref (ad 0 ((a - 1).toNat))), (5, .ref (ad 2 ((b - 1).toNat)))] from lv_sub hl [0, 2, 1, 3, 4, 5, 6, 7, 8] rfl) (lv_cs rfl (lv_cs e_19 (lv_cs e_20 (lv_cs rfl (lv_cs rfl (lv_cs rfl (lv_cs rfl (lv_cs rfl (lv_cs rfl rfl)))))))))
        exact ih (i + 1) _ _ ls (by omega) (by omega) hP hS hl
def tX4_split (n : Nat → Nat) (ad : Nat → Nat → Nat) (C : q_S) (a b d : Int) (r : Int32) (u : q_U) : Prop :=
  ((1 ≤ a ∧ a ≤ (n 0 : Int)) ∧ (1 ≤ b ∧ b ≤ (n 2 : Int)) ∧ ((1) ≤ d) ∧ ((c_sr C (a - 1).toNat d (n 1)) = 0) ∧ u = (n, ad, C) ∧ r = iI (0)) ∨
  (∃ (ad1 : Nat → Nat → Nat), (1 ≤ a ∧ a ≤ (n 0 : Int)) ∧ (1 ≤ b ∧ b ≤ (n 2 : Int)) ∧ ((1) ≤ d) ∧ (¬ (c_sr C (a - 1).toNat d (n 1)) = 0) ∧ (∀ k j, ¬ (k = 1 ∧ j = n 1) → ad1 k j = ad k j) ∧ u = (q_bump n 1, ad1, q_up (q_up (q_up (q_up (q_up C 1 2 (((c_sr C (a - 1).toNat d (n 1)) - 1).toNat) (((C 1 2 (((c_sr C (a - 1).toNat d (n 1)) - 1).toNat)) - d))) 1 0 ((n 1)) (((((a - 1).toNat) : Nat) : Int) + 1)) 1 1 ((n 1)) (((C 2 0 ((b - 1).toNat))))) 1 2 ((n 1)) d) 1 6 (((c_la C (a - 1).toNat (n 1)) - 1).toNat) (((n 1 : Nat) : Int) + 1)) ∧ r = iI (1)) ∨
  ((1 ≤ a ∧ a ≤ (n 0 : Int)) ∧ (1 ≤ b ∧ b ≤ (n 2 : Int)) ∧ (d < (1)) ∧ u = (n, ad, C) ∧ r = iI (0))
def xX4_split (n : Nat → Nat) (C : q_S) (a b d : Int) (E : String) : Prop :=
  (x_find (n 0) a E) ∨
  (x_find (n 2) b E ∧ (1 ≤ a ∧ a ≤ (n 0 : Int)))
set_option maxHeartbeats 4000000 in
set_option maxRecDepth 100000 in
theorem c_X4_split (l : Launch) (htr : l.stackTraces = false) (g : q_G) (s0 : Nat) (n : Nat → Nat) (ad : Nat → Nat → Nat) (C : q_S) (c0 : Nat) (hC : c_S C n) (hR : c_R C n c0) (hc0 : c0 ≤ 511) (a b d : Int) (ha : R32 a) (hb : R32 b) (hd : R32 d)  : vx_Met l yX4_split wsX4_split ({ frames := 7, cells := 3, slots := 19, locals := 112 }) (va_Pc [.ref (ad 4 0), .int (iI a), .int (iI b), .int (iI d)] (q_B g s0 (n, ad, C))) (va_Qi (tX4_split n ad C a b d) (q_B g s0) (q_A s0)) (q_XC g s0 (n, ad, C) (xX4_split n C a b d)) 3 19 (q_A s0) := by
  refine vx_ofW (cc := cX4_split) (maxL := 9) (ret := (some .int)) (by decide) rfl ?_
  intro p e s m args below meth c s₁ B hml hnx hv
  obtain ⟨rfl, hv⟩ := hv
  have hr := B.returns
  have hlocks := B.notSynchronized
  obtain ⟨X, hP⟩ := q_start B.exec B.bytes hml (show s.vm.findClass RX4 = some m.cls from findClass_of_methodNamed B.named) (atoms_spec (ws := wsX4_split) B.pre) hv
  have hP : q_P g s0 n ad C s.heap := hP
  have hS : va_S (q_A s0) s.heap s.heap [] := va_S.rf
  have in0 : ∀ w ∈ wsX00, w ∈ wsX4_split := by decide +kernel
  have in1 : ∀ w ∈ wsX10, w ∈ wsX4_split := by decide +kernel
  have in2 : ∀ w ∈ wsX20, w ∈ wsX4_split := by decide +kernel
  have in4 : ∀ w ∈ wsX40, w ∈ wsX4_split := by decide +kernel
  have hl := lv_entry ([.ref (ad 4 0), .int (iI a), .int (iI b), .int (iI d)]) (n := 9) (Nat.le_of_ble_eq_true rfl)
  rw [lg_entry_eq]
  generalize (lg_sl ([.ref (ad 4 0), .int (iI a), .int (iI b), .int (iI d)]) ++ List.replicate (9 - (lg_sl ([.ref (ad 4 0), .int (iI a), .int (iI b), .int (iI d)])).length) Slot.unset).toArray = ls at hl ⊢
  have hl : lv_has ls 9 [(0, .ref (ad 4 0)), (1, .int (iI a)), (2, .int (iI b)), (3, .int (iI d))] := hl
  refine lv_aload_n X.1 X.2.1 dX4_split_0 rfl (lv_at hl 0 rfl) ?_
  refine lv_iload_n X.1 X.2.1 dX4_split_1 rfl (lv_at hl 1 rfl) ?_
  refine vx_callq (vx_runV (As := [.int (iI a)]) (rest := []) X.fix (c_X4_findJob l htr g s0 n ad C c0 hC hR a ha) (cwV 1 X.2.2.2.2.1 gX4_split_X4_findJob rfl rfl rfl (by decide +kernel) ⟨Nat.le_of_ble_eq_true rfl, Nat.le_of_ble_eq_true rfl⟩) (q_preV X hP hS [.int (iI a)] (kd := 4) (by decide) rfl (c_v4 hC)) rfl rfl hl.1 rfl (lv_room (Nat.le_of_ble_eq_true rfl)) dX4_split_2 ⟨Nat.le_of_ble_eq_true rfl, Nat.le_of_ble_eq_true rfl⟩) hS q_id q_id1 q_id ?_ (fun r u t H locs ht hvm hw hB hz1 hk1 hS => ?_)
  · intro E ce q9 u t H locs ht hvm hpx hBX hz1 hk1 hS hce hcv hcl
    exact q_xout X hnx hlocks hBX ht hS hce hcv hcl (fun hxe => Or.inl (hxe)) (Nat.le_of_ble_eq_true rfl) (Nat.le_of_ble_eq_true rfl)
  · obtain ⟨rfl, h_1, rfl⟩ := hw
    have hP : q_P g s0 n ad (C) H := q_back hB ht
    rw [show va_rf (some (ad 0 ((a - 1).toNat))) = .ref (ad 0 ((a - 1).toNat)) from rfl]
    refine lv_astore (lv' := [(4, .ref (ad 0 ((a - 1).toNat))), (0, .ref (ad 4 0)), (1, .int (iI a)), (2, .int (iI b)), (3, .int (iI d))]) X.1 X.2.1 dX4_split_5 hl (by decide) rfl (fun ls hl => ?_)
    refine lv_aload_n X.1 X.2.1 dX4_split_7 rfl (lv_at hl 1 rfl) ?_
    refine lv_iload_n X.1 X.2.1 dX4_split_8 rfl (lv_at hl 3 rfl) ?_
    refine vx_callq (vx_runV (As := [.int (iI b)]) (rest := []) X.fix (c_X4_findPrinter l htr g s0 n ad C c0 hC hR b hb) (cwV 1 X.2.2.2.2.1 gX4_split_X4_findPrinter rfl rfl rfl (by decide +kernel) ⟨Nat.le_of_ble_eq_true rfl, Nat.le_of_ble_eq_true rfl⟩) (q_preV X hP hS [.int (iI b)] (kd := 4) (by decide) rfl (c_v4 hC)) rfl rfl hl.1 rfl (lv_room (Nat.le_of_ble_eq_true rfl)) dX4_split_9 ⟨Nat.le_of_ble_eq_true rfl, Nat.le_of_ble_eq_true rfl⟩) hS q_id q_id1 q_id ?_ (fun r u t H locs ht hvm hw hB hz1 hk1 hS => ?_)
    · intro E ce q9 u t H locs ht hvm hpx hBX hz1 hk1 hS hce hcv hcl
      exact q_xout X hnx hlocks hBX ht hS hce hcv hcl (fun hxe => Or.inr (⟨hxe, h_1⟩)) (Nat.le_of_ble_eq_true rfl) (Nat.le_of_ble_eq_true rfl)
    · obtain ⟨rfl, h_2, rfl⟩ := hw
      have hP : q_P g s0 n ad (C) H := q_back hB ht
      rw [show va_rf (some (ad 2 ((b - 1).toNat))) = .ref (ad 2 ((b - 1).toNat)) from rfl]
      refine lv_astore (lv' := [(5, .ref (ad 2 ((b - 1).toNat))), (4, .ref (ad 0 ((a - 1).toNat))), (0, .ref (ad 4 0)), (1, .int (iI a)), (2, .int (iI b)), (3, .int (iI d))]) X.1 X.2.1 dX4_split_12 hl (by decide) rfl (fun ls hl => ?_)
      refine lv_iload_n X.1 X.2.1 dX4_split_14 rfl (lv_at hl 5 rfl) ?_
      refine lv_iconst (v := iI (1)) X.1 X.2.1 dX4_split_15 rfl ?_
      refine q_icmp_ge (tgt := 21) X hd (by decide) dX4_split_16 (by decide) (fun h_3 => ?_) (fun h_3 => ?_)
      · refine lv_null X.1 X.2.1 dX4_split_21 ?_
        refine lv_astoreN (lv' := [(6, .null), (5, .ref (ad 2 ((b - 1).toNat))), (4, .ref (ad 0 ((a - 1).toNat))), (0, .ref (ad 4 0)), (1, .int (iI a)), (2, .int (iI b)), (3, .int (iI d))]) X.1 X.2.1 dX4_split_22 hl (by decide) rfl (fun ls hl => ?_)
        refine lv_null X.1 X.2.1 dX4_split_24 ?_
        refine lv_astoreN (lv' := [(7, .null), (6, .null), (5, .ref (ad 2 ((b - 1).toNat))), (4, .ref (ad 0 ((a - 1).toNat))), (0, .ref (ad 4 0)), (1, .int (iI a)), (2, .int (iI b)), (3, .int (iI d))]) X.1 X.2.1 dX4_split_25 hl (by decide) rfl (fun ls hl => ?_)
        refine lv_aload X.1 X.2.1 dX4_split_27 (lv_at hl 3 rfl) ?_
        refine q_get (index := 75) (v := va_rf (q_rf ad 1 (c_find C (a - 1).toNat (n 1) 0))) X hP 0 7 ((a - 1).toNat) rfl rfl (by decide) in0 (show (a - 1).toNat < n 0 by omega) (by decide) (by decide +kernel) (q_vch ad 1 (c_R07 hR (a - 1).toNat (by omega))) dX4_split_29 ?_
        refine q_astore (lv' := [(8, va_rf (q_rf ad 1 (c_find C (a - 1).toNat (n 1) 0))), (7, .null), (6, .null), (5, .ref (ad 2 ((b - 1).toNat))), (4, .ref (ad 0 ((a - 1).toNat))), (0, .ref (ad 4 0)), (1, .int (iI a)), (2, .int (iI b)), (3, .int (iI d))]) X dX4_split_32 hl (by decide) rfl (fun ls hl => ?_)
        have e_4 : (va_rf (q_rf ad 1 (c_find C (a - 1).toNat (n 1) 0)) : Value) = va_rf (q_rf ad 1 (c_find C (a - 1).toNat (n 1 - 0) 0)) := by rfl
        have e_5 : (.null : Value) = va_rf (q_rf ad 1 (c_sr C (a - 1).toNat d 0)) := by rfl
        have e_6 : (.null : Value) = va_rf (q_rf ad 1 (c_la C (a - 1).toNat 0)) := by rfl
        have hl : lv_has ls 9 [(8, va_rf (q_rf ad 1 (c_find C (a - 1).toNat (n 1 - 0) 0))), (7, va_rf (q_rf ad 1 (c_sr C (a - 1).toNat d 0))), (6, va_rf (q_rf ad 1 (c_la C (a - 1).toNat 0))), (0, .ref (ad 4 0)), (1, .int (iI a)), (2, .int (iI b)), (3, .int (iI d)), (4, .ref (ad 0 ((a - 1).toNat))), (5, .ref (ad 2 ((b - 1).toNat)))] := lv_cong (show lv_has ls 9 [(8, va_rf (q_rf ad 1 (c_find C (a - 1).toNat (n 1) 0))), (7, .null), (6, .null), (0, .ref (ad 4 0)), (1, .int (iI a)), (2, .int (iI b)), (3, .int (iI d)), (4, .ref (ad 0 ((a - 1).toNat))), (5, .ref (ad 2 ((b - 1).toNat)))] from lv_sub hl [0, 1, 2, 5, 6, 7, 8, 4, 3] rfl) (lv_cs e_4 (lv_cs e_5 (lv_cs e_6 (lv_cs rfl (lv_cs rfl (lv_cs rfl (lv_cs rfl (lv_cs rfl (lv_cs rfl rfl)))))))))
        have hj : (a - 1).toNat < n 0 := by omega
        have hp : (b - 1).toNat < n 2 := by omega
        refine w_X4_split X in0 in1 in2 in4 c0 hC hR hc0 a b d ha hb hd hj hp (fun H locs ls hP hS hl => ?_) (n 1 + 1) 0 _ _ ls (by omega) (by omega) hP hS hl
        by_cases hb2 : (c_sr C (a - 1).toNat d (n 1)) = 0
        · rw [q_rf0 ad 1 hb2] at hl
          refine lv_aloadN X.1 X.2.1 dX4_split_71 (lv_at hl 0 rfl) ?_
          refine lv_ifnullN (tgt := 81) X.1 X.2.1 dX4_split_73 (by decide) ?_
          refine lv_iconst (v := iI (0)) X.1 X.2.1 dX4_split_81 rfl ?_
          refine vx_ret ?_
          exact q_iret X hr hlocks hP hS (Or.inl (⟨h_1, h_2, h_3, hb2, rfl, rfl⟩)) (Nat.le_of_ble_eq_true rfl) (Nat.le_of_ble_eq_true rfl) dX4_split_82
        · rw [q_rf1 ad 1 hb2] at hl
          have hb3 := c_sr_la hb2
          rw [q_rf1 ad 1 hb3] at hl
          have v7 := c_sr_v hb2
          have v6 := c_la_v hb3
          refine lv_aload X.1 X.2.1 dX4_split_71 (lv_at hl 0 rfl) ?_
          refine lv_ifnull X.1 X.2.1 dX4_split_73 ?_
          refine lv_aload X.1 X.2.1 dX4_split_76 (lv_at hl 1 rfl) ?_
          refine lv_ifnonnull (tgt := 83) X.1 X.2.1 dX4_split_78 (by decide) ?_
          refine lv_aload X.1 X.2.1 dX4_split_83 (lv_at hl 0 rfl) ?_
          refine lv_dup X.1 X.2.1 dX4_split_85 rfl ?_
          refine q_get (index := 112) (v := .int (iI (C 1 2 (((c_sr C (a - 1).toNat d (n 1)) - 1).toNat)))) X hP 1 2 (((c_sr C (a - 1).toNat d (n 1)) - 1).toNat) rfl rfl (by decide) in1 v7 (by decide) (by decide +kernel) rfl dX4_split_86 ?_
          have f_7 := c_R12 hR (((c_sr C (a - 1).toNat d (n 1)) - 1).toNat)
          refine lv_iload_n X.1 X.2.1 dX4_split_89 rfl (lv_at hl 5 rfl) ?_
          refine q_isub X dX4_split_90 ?_
          refine q_put (index := 112) (v := .int (iI ((C 1 2 (((c_sr C (a - 1).toNat d (n 1)) - 1).toNat)) - d))) X hP hS 1 2 (((c_sr C (a - 1).toNat d (n 1)) - 1).toNat) (((C 1 2 (((c_sr C (a - 1).toNat d (n 1)) - 1).toNat)) - d)) rfl rfl (by decide) in1 tyX1 tyX1_ok nmX1 v7 (by decide) (by decide +kernel) rfl rfl rfl rfl (show R32 _ from (by omega)) dX4_split_91 (fun H locs hP hS => ?_)
          have hP : q_P g s0 n ad (q_up C 1 2 (((c_sr C (a - 1).toNat d (n 1)) - 1).toNat) (((C 1 2 (((c_sr C (a - 1).toNat d (n 1)) - 1).toNat)) - d))) H := hP
          refine lv_aload X.1 X.2.1 dX4_split_94 (lv_at hl 1 rfl) ?_
          refine q_new (index := 70) X hP hS 1 rfl rfl (by decide) in1 tyX1 tyX1_ok (by decide +kernel) (by decide +kernel) (by decide +kernel) (q_hz1 _) (Nat.le_of_ble_eq_true rfl) (Nat.le_of_ble_eq_true rfl) dX4_split_96 (fun ad1 H hpr1 hP hS => ?_)
          have e_8 : ad 1 (((c_la C (a - 1).toNat (n 1)) - 1).toNat) = ad1 1 (((c_la C (a - 1).toNat (n 1)) - 1).toNat) := (hpr1 1 (((c_la C (a - 1).toNat (n 1)) - 1).toNat) (fun q => by have := v6; have := q.2; omega)).symm
          have e_9 : ad 1 (((c_sr C (a - 1).toNat d (n 1)) - 1).toNat) = ad1 1 (((c_sr C (a - 1).toNat d (n 1)) - 1).toNat) := (hpr1 1 (((c_sr C (a - 1).toNat d (n 1)) - 1).toNat) (fun q => by have := v7; have := q.2; omega)).symm
          have e_10 : ad 4 0 = ad1 4 0 := (hpr1 4 0 (fun q => absurd q.1 (by decide))).symm
          have e_11 : ad 0 ((a - 1).toNat) = ad1 0 ((a - 1).toNat) := (hpr1 0 ((a - 1).toNat) (fun q => absurd q.1 (by decide))).symm
          have e_12 : ad 2 ((b - 1).toNat) = ad1 2 ((b - 1).toNat) := (hpr1 2 ((b - 1).toNat) (fun q => absurd q.1 (by decide))).symm
          have hl : lv_has ls 9 [(7, .ref (ad1 1 (((c_sr C (a - 1).toNat d (n 1)) - 1).toNat))), (6, .ref (ad1 1 (((c_la C (a - 1).toNat (n 1)) - 1).toNat))), (0, .ref (ad1 4 0)), (1, .int (iI a)), (2, .int (iI b)), (3, .int (iI d)), (4, .ref (ad1 0 ((a - 1).toNat))), (5, .ref (ad1 2 ((b - 1).toNat)))] := lv_cong hl (lv_cs (congrArg Value.ref e_9) (lv_cs (congrArg Value.ref e_8) (lv_cs (congrArg Value.ref e_10) (lv_cs rfl (lv_cs rfl (lv_cs rfl (lv_cs (congrArg Value.ref e_11) (lv_cs (congrArg Value.ref e_12) rfl))))))))
          have hpr1 : ∀ k j, ¬ (k = 1 ∧ j = n 1) → ad1 k j = ad k j := hpr1
          refine W.eq (g2 := F0 m 99 ls [.ref (ad1 1 (n 1)), .ref (ad1 1 (((c_la C (a - 1).toNat (n 1)) - 1).toNat))]) (by rw [e_8]; first | done | rfl) ?_
          have hP : q_P g s0 (q_bump n 1) ad1 (q_up C 1 2 (((c_sr C (a - 1).toNat d (n 1)) - 1).toNat) (((C 1 2 (((c_sr C (a - 1).toNat d (n 1)) - 1).toNat)) - d))) H := hP
          refine lv_dup X.1 X.2.1 dX4_split_99 rfl ?_
          refine lv_aload X.1 X.2.1 dX4_split_100 (lv_at hl 6 rfl) ?_
          refine lv_aload X.1 X.2.1 dX4_split_102 (lv_at hl 7 rfl) ?_
          refine q_get (index := 196) (v := .int (iI (C 2 0 ((b - 1).toNat)))) X hP 2 0 ((b - 1).toNat) rfl rfl (by decide) in2 (Nat.lt_of_lt_of_le (show (b - 1).toNat < n 2 by omega) (q_bump_le n 1 2)) (by decide) (by decide +kernel) rfl dX4_split_104 ?_
          refine lv_iload_n X.1 X.2.1 dX4_split_107 rfl (lv_at hl 5 rfl) ?_
          refine va_callv (va_runI (As := [.ref (ad1 0 ((a - 1).toNat)), .int (iI (C 2 0 ((b - 1).toNat))), .int (iI d)]) (rest := [.ref (ad1 1 (n 1)), .ref (ad1 1 (((c_la C (a - 1).toNat (n 1)) - 1).toNat))]) X.fix (c_X1_init l g s0 (q_bump n 1) ad1 (q_up C 1 2 (((c_sr C (a - 1).toNat d (n 1)) - 1).toNat) (((C 1 2 (((c_sr C (a - 1).toNat d (n 1)) - 1).toNat)) - d))) (n 1) (q_new_lt n 1) ((a - 1).toNat) (Nat.lt_of_lt_of_le (show (a - 1).toNat < n 0 by omega) (q_bump_le n 1 0)) (C 2 0 ((b - 1).toNat)) d (hP.tok 2 0 ((b - 1).toNat) rfl) hd) (cwI 3 X.2.2.2.2.1 gX4_split_X1_init rfl rfl rfl (X.2.2.2.2.1 (.initialized RX1) (by decide +kernel)) (X.2.2.2.2.1 (.methodLink RX4 72 yX1_init) (by decide +kernel)) (X.2.2.2.2.1 (.instanceMethod yX1_init) (by decide +kernel)) rfl (by decide +kernel) ⟨Nat.le_of_ble_eq_true rfl, Nat.le_of_ble_eq_true rfl⟩) (q_preS X hP hS _) rfl rfl hl.1 rfl (lv_room (Nat.le_of_ble_eq_true rfl)) dX4_split_108 ⟨Nat.le_of_ble_eq_true rfl, Nat.le_of_ble_eq_true rfl⟩) hS q_id q_id1 (fun u t H locs ht hvm hw hB hz1 hk1 hS => ?_)
          have hw : u = (q_bump n 1, ad1, q_up (q_up (q_up (q_up C 1 2 (((c_sr C (a - 1).toNat d (n 1)) - 1).toNat) (((C 1 2 (((c_sr C (a - 1).toNat d (n 1)) - 1).toNat)) - d))) 1 0 ((n 1)) (((((a - 1).toNat) : Nat) : Int) + 1)) 1 1 ((n 1)) (((C 2 0 ((b - 1).toNat))))) 1 2 ((n 1)) d) := hw
          subst hw
          have hP : q_P g s0 (q_bump n 1) ad1 (q_up (q_up (q_up (q_up C 1 2 (((c_sr C (a - 1).toNat d (n 1)) - 1).toNat) (((C 1 2 (((c_sr C (a - 1).toNat d (n 1)) - 1).toNat)) - d))) 1 0 ((n 1)) (((((a - 1).toNat) : Nat) : Int) + 1)) 1 1 ((n 1)) (((C 2 0 ((b - 1).toNat))))) 1 2 ((n 1)) d) H := q_back hB ht
          refine q_put (index := 141) (v := .ref (ad1 1 (n 1))) X hP hS 1 6 (((c_la C (a - 1).toNat (n 1)) - 1).toNat) (((n 1 : Nat) : Int) + 1) rfl rfl (by decide) in1 tyX1 tyX1_ok nmX1 (Nat.lt_of_lt_of_le v6 (q_bump_le n 1 1)) (by decide) (by decide +kernel) rfl (q_v2 ad1 1 (n 1)) rfl rfl (q_t2 (q_new_lt n 1)) dX4_split_111 (fun H locs hP hS => ?_)
          have hP : q_P g s0 (q_bump n 1) ad1 (q_up (q_up (q_up (q_up (q_up C 1 2 (((c_sr C (a - 1).toNat d (n 1)) - 1).toNat) (((C 1 2 (((c_sr C (a - 1).toNat d (n 1)) - 1).toNat)) - d))) 1 0 ((n 1)) (((((a - 1).toNat) : Nat) : Int) + 1)) 1 1 ((n 1)) (((C 2 0 ((b - 1).toNat))))) 1 2 ((n 1)) d) 1 6 (((c_la C (a - 1).toNat (n 1)) - 1).toNat) (((n 1 : Nat) : Int) + 1)) H := hP
          refine lv_iconst (v := iI (1)) X.1 X.2.1 dX4_split_114 rfl ?_
          refine vx_ret ?_
          exact q_iret X hr hlocks hP hS (Or.inr (Or.inl (⟨ad1, h_1, h_2, h_3, hb2, hpr1, rfl, rfl⟩))) (Nat.le_of_ble_eq_true rfl) (Nat.le_of_ble_eq_true rfl) dX4_split_115
      · refine lv_iconst (v := iI (0)) X.1 X.2.1 dX4_split_19 rfl ?_
        refine vx_ret ?_
        exact q_iret X hr hlocks hP hS (Or.inr (Or.inr (⟨h_1, h_2, h_3, rfl, rfl⟩))) (Nat.le_of_ble_eq_true rfl) (Nat.le_of_ble_eq_true rfl) dX4_split_20
set_option maxHeartbeats 4000000 in
set_option maxRecDepth 100000 in
theorem w_X4_print {p : Program} {l : Launch} {e : Env} {s : State} {m : MethodId} {args : Array Value} {below : List Frame} {meth : Method} {c : Code} {Q : State → Prop} {g : q_G} {s0 : Nat} {n : Nat → Nat} {ad : Nat → Nat → Nat} {C : q_S} (X : q_X p s m args c cX4_print 7 wsX4_print RX4 g s0) (in0 : ∀ w ∈ wsX00, w ∈ wsX4_print) (in1 : ∀ w ∈ wsX10, w ∈ wsX4_print) (in2 : ∀ w ∈ wsX20, w ∈ wsX4_print) (in4 : ∀ w ∈ wsX40, w ∈ wsX4_print) (c0 : Nat) (hC : c_S C n) (p0 : Nat) (hp : p0 < n 2) (i : Nat) (hi : i < n 1) (j : Nat) (hj : j < n 0) (hjb : C 1 0 i = (j : Int) + 1) (T : Nat) (hT : T < n 3) (htk : C 0 1 j = (T : Int) + 1) (h02 : 1 ≤ C 0 2 j ∧ C 0 2 j ≤ 500) (h15 : 0 ≤ C 1 5 i ∧ C 1 5 i < C 0 2 j) (h14 : 0 ≤ C 1 4 i ∧ C 1 4 i ≤ C 1 2 i) (h12 : C 1 2 i ≤ 100) (h32 : 0 ≤ C 3 2 T ∧ C 3 2 T ≤ 100000000) (h33 : 0 ≤ C 3 3 T ∧ C 3 3 T ≤ 100000000) (a b : Int) (ha : R32 a) (hb : 0 ≤ b ∧ b ≤ 50000) (h25 : C 2 5 p0 = 0 ∨ C 2 5 p0 = 1) (kx : ∀  (H : Heap) (locs : List Loc) (ls : Array Slot), q_P g s0 n ad ((c_ps C p0 i j T b 100)) H → va_S (q_A s0) s.heap H locs → lv_has ls 7 [(5, .int (iI (c_pq C p0 i j T b 100).2.2.1)), (0, .ref (ad 4 0)), (1, .int (iI a)), (2, .int (iI b)), (3, .ref (ad 2 p0)), (4, .ref (ad 1 i))] → W p l e ({ frames := 7, cells := 2, slots := 12, locals := 112 }) s m args below meth c H locs (0 + 1) (0 + 6) Q (F0 m 90 ls [])) :
    ∀ (N : Nat) (k : Nat) (H : Heap) (locs : List Loc) (ls : Array Slot), (100 < k + N) → (k ≤ 100) → q_P g s0 n ad ((c_ps C p0 i j T b k)) H → va_S (q_A s0) s.heap H locs → lv_has ls 7 [(6, .int (iI ((k : Nat) : Int))), (5, .int (iI (c_pq C p0 i j T b k).2.2.1)), (0, .ref (ad 4 0)), (1, .int (iI a)), (2, .int (iI b)), (3, .ref (ad 2 p0)), (4, .ref (ad 1 i))] → W p l e ({ frames := 7, cells := 2, slots := 12, locals := 112 }) s m args below meth c H locs (0 + 1) (0 + 6) Q (F0 m 43 ls []) := by
  intro N
  induction N with
  | zero =>
    intro k H locs ls h1 h2 hP hS hl
    exact absurd h1 (by omega)
  | succ N ih =>
    intro k H locs ls h1 h2 hP hS hl
    have fq : _ ∧ _ ∧ _ ∧ _ ∧ _ := c_sq_i (P := C 0 2 j) (K := C 1 2 i) (sd := C 3 1 T) (b := b) (w0 := C 1 4 i) (x0 := C 1 5 i) (s1 := C 3 3 T) (d0 := C 2 5 p0) h02 h15 h14 hb.1 h25 k
    rw [show c_sq (C 0 2 j) (C 1 2 i) (C 3 1 T) b (C 1 4 i) (C 1 5 i) (C 3 3 T) (C 2 5 p0) k = c_pq C p0 i j T b k from rfl] at fq
    refine lv_iload X.1 X.2.1 dX4_print_43 (lv_at hl 0 rfl) ?_
    refine lv_bipush (v := iI (100)) X.1 X.2.1 dX4_print_45 (by decide) ?_
    refine q_icmp_ge (tgt := 90) X (by omega) (by decide) dX4_print_47 (by decide) (fun h_1 => ?_) (fun h_1 => ?_)
    · have eq1 : (c_pq C p0 i j T b 100) = (c_pq C p0 i j T b k) := by first | (have e1 : k = 100 := by omega); (rw [e1]; done) | exact c_pq_st (by omega) (by omega)
      have eq2 : (c_ps C p0 i j T b 100) = (c_ps C p0 i j T b k) := by unfold c_ps; rw [eq1]
      have e_2 : (c_pq C p0 i j T b k).2.2.1 = (c_pq C p0 i j T b 100).2.2.1 := by rw [eq1]
      have hl : lv_has ls 7 [(5, .int (iI (c_pq C p0 i j T b 100).2.2.1)), (0, .ref (ad 4 0)), (1, .int (iI a)), (2, .int (iI b)), (3, .ref (ad 2 p0)), (4, .ref (ad 1 i))] := lv_cong (show lv_has ls 7 [(5, .int (iI (c_pq C p0 i j T b k).2.2.1)), (0, .ref (ad 4 0)), (1, .int (iI a)), (2, .int (iI b)), (3, .ref (ad 2 p0)), (4, .ref (ad 1 i))] from lv_sub hl [1, 2, 3, 4, 5, 6] rfl) (lv_cs (congrArg (fun z => Value.int (iI z)) e_2) (lv_cs rfl (lv_cs rfl (lv_cs rfl (lv_cs rfl (lv_cs rfl rfl))))))
      rw [← eq2] at hP
      exact kx _ _ ls hP hS hl
    · refine lv_iload X.1 X.2.1 dX4_print_50 (lv_at hl 1 rfl) ?_
      refine lv_iload_n X.1 X.2.1 dX4_print_52 rfl (lv_at hl 4 rfl) ?_
      refine q_icmp_ge (tgt := 90) X (by omega) (by omega) dX4_print_53 (by decide) (fun h_3 => ?_) (fun h_3 => ?_)
      · have eq1 : (c_pq C p0 i j T b 100) = (c_pq C p0 i j T b k) := by first | (have e1 : k = 100 := by omega); (rw [e1]; done) | exact c_pq_st (by omega) (by omega)
        have eq2 : (c_ps C p0 i j T b 100) = (c_ps C p0 i j T b k) := by unfold c_ps; rw [eq1]
        have e_4 : (c_pq C p0 i j T b k).2.2.1 = (c_pq C p0 i j T b 100).2.2.1 := by rw [eq1]
        have hl : lv_has ls 7 [(5, .int (iI (c_pq C p0 i j T b 100).2.2.1)), (0, .ref (ad 4 0)), (1, .int (iI a)), (2, .int (iI b)), (3, .ref (ad 2 p0)), (4, .ref (ad 1 i))] := lv_cong (show lv_has ls 7 [(5, .int (iI (c_pq C p0 i j T b k).2.2.1)), (0, .ref (ad 4 0)), (1, .int (iI a)), (2, .int (iI b)), (3, .ref (ad 2 p0)), (4, .ref (ad 1 i))] from lv_sub hl [1, 2, 3, 4, 5, 6] rfl) (lv_cs (congrArg (fun z => Value.int (iI z)) e_4) (lv_cs rfl (lv_cs rfl (lv_cs rfl (lv_cs rfl (lv_cs rfl rfl))))))
        rw [← eq2] at hP
        exact kx _ _ ls hP hS hl
      · refine lv_aload X.1 X.2.1 dX4_print_56 (lv_at hl 6 rfl) ?_
        refine q_get (index := 109) (v := .int (iI (c_pq C p0 i j T b k).1)) X hP 1 4 i rfl rfl (by decide) in1 hi (by decide) (by decide +kernel) (congrArg (fun z => Value.int (iI z)) (c_ps_14 C p0 i j T b k)) dX4_print_58 ?_
        refine lv_aload X.1 X.2.1 dX4_print_61 (lv_at hl 6 rfl) ?_
        refine q_get (index := 112) (v := .int (iI (C 1 2 i))) X hP 1 2 i rfl rfl (by decide) in1 hi (by decide) (by decide +kernel) rfl dX4_print_63 ?_
        refine q_icmp_ge (tgt := 90) X (by omega) (hP.tok 1 2 i rfl) dX4_print_66 (by decide) (fun h_5 => ?_) (fun h_5 => ?_)
        · have eq1 : (c_pq C p0 i j T b 100) = (c_pq C p0 i j T b k) := by first | (have e1 : k = 100 := by omega); (rw [e1]; done) | exact c_pq_st (by omega) (by omega)
          have eq2 : (c_ps C p0 i j T b 100) = (c_ps C p0 i j T b k) := by unfold c_ps; rw [eq1]
          have e_6 : (c_pq C p0 i j T b k).2.2.1 = (c_pq C p0 i j T b 100).2.2.1 := by rw [eq1]
          have hl : lv_has ls 7 [(5, .int (iI (c_pq C p0 i j T b 100).2.2.1)), (0, .ref (ad 4 0)), (1, .int (iI a)), (2, .int (iI b)), (3, .ref (ad 2 p0)), (4, .ref (ad 1 i))] := lv_cong (show lv_has ls 7 [(5, .int (iI (c_pq C p0 i j T b k).2.2.1)), (0, .ref (ad 4 0)), (1, .int (iI a)), (2, .int (iI b)), (3, .ref (ad 2 p0)), (4, .ref (ad 1 i))] from lv_sub hl [1, 2, 3, 4, 5, 6] rfl) (lv_cs (congrArg (fun z => Value.int (iI z)) e_6) (lv_cs rfl (lv_cs rfl (lv_cs rfl (lv_cs rfl (lv_cs rfl rfl))))))
          rw [← eq2] at hP
          exact kx _ _ ls hP hS hl
        · refine lv_iload X.1 X.2.1 dX4_print_69 (lv_at hl 1 rfl) ?_
          refine lv_aload_n X.1 X.2.1 dX4_print_71 rfl (lv_at hl 5 rfl) ?_
          refine lv_aload X.1 X.2.1 dX4_print_72 (lv_at hl 6 rfl) ?_
          refine lv_iload_n X.1 X.2.1 dX4_print_74 rfl (lv_at hl 4 rfl) ?_
          refine lv_iload X.1 X.2.1 dX4_print_75 (lv_at hl 1 rfl) ?_
          refine q_isub X dX4_print_77 ?_
          refine va_calli (va_runS (As := [.ref (ad 2 p0), .ref (ad 1 i), .int (iI (b - (c_pq C p0 i j T b k).2.2.1))]) (rest := [.int (iI (c_pq C p0 i j T b k).2.2.1)]) X.fix (c_X4_printInCopy l g s0 n ad (c_ps C p0 i j T b k) p0 hp i hi j hj hjb T hT htk h02 (by rw [c_ps_15]; exact ⟨by omega, by show _ < C 0 2 j; omega⟩) (by rw [c_ps_14]; omega) (by rw [c_ps_32]; omega) (by rw [c_ps_33]; omega) (b - (c_pq C p0 i j T b k).2.2.1) (by omega)) (va_cwS 3 X.2.2.2.2.1 gX4_print_X4_printInCopy rfl rfl rfl (by decide +kernel) ⟨Nat.le_of_ble_eq_true rfl, Nat.le_of_ble_eq_true rfl⟩) (q_preS X hP hS _) rfl rfl hl.1 rfl (lv_room (Nat.le_of_ble_eq_true rfl)) dX4_print_78 ⟨Nat.le_of_ble_eq_true rfl, Nat.le_of_ble_eq_true rfl⟩) hS q_id q_id1 (fun r u t H locs ht hvm hw hB hz1 hk1 hS => ?_)
          obtain ⟨rfl, rfl⟩ := hw
          have hP := q_back hB ht
          dsimp only at hP
          rw [c_ps_s ⟨by omega, by omega⟩] at hP
          have hP : q_P g s0 n ad (c_ps C p0 i j T b (k + 1)) H := hP
          rw [c_ps_15, show (c_ps C p0 i j T b k) 0 2 j = C 0 2 j from rfl]
          refine q_iadd X dX4_print_81 ?_
          refine lv_istore (lv' := [(5, .int (iI ((c_pq C p0 i j T b k).2.2.1 + (c_cn (C 0 2 j) (c_pq C p0 i j T b k).2.1 (b - (c_pq C p0 i j T b k).2.2.1))))), (6, .int (iI ((k : Nat) : Int))), (0, .ref (ad 4 0)), (1, .int (iI a)), (2, .int (iI b)), (3, .ref (ad 2 p0)), (4, .ref (ad 1 i))]) X.1 X.2.1 dX4_print_82 hl (by decide) rfl (fun ls hl => ?_)
          refine q_iinc (lv' := [(6, .int (iI (((k : Nat) : Int) + 1))), (5, .int (iI ((c_pq C p0 i j T b k).2.2.1 + (c_cn (C 0 2 j) (c_pq C p0 i j T b k).2.1 (b - (c_pq C p0 i j T b k).2.2.1))))), (0, .ref (ad 4 0)), (1, .int (iI a)), (2, .int (iI b)), (3, .ref (ad 2 p0)), (4, .ref (ad 1 i))]) (k := 1) X dX4_print_84 hl rfl (by decide) rfl (fun ls hl => ?_)
          refine lv_goto (tgt := 43) X.1 X.2.1 dX4_print_87 (by decide) ?_
          have e_7 : (((k : Nat) : Int) + 1) = (((k + 1) : Nat) : Int) := by omega
          have e_8 : ((c_pq C p0 i j T b k).2.2.1 + (c_cn (C 0 2 j) (c_pq C p0 i j T b k).2.1 (b - (c_pq C p0 i j T b k).2.2.1))) = (c_pq C p0 i j T b (k + 1)).2.2.1 := by rw [c_pq_s ⟨by omega, by omega⟩]
          have hl : lv_has ls 7 [(6, .int (iI (((k + 1) : Nat) : Int))), (5, .int (iI (c_pq C p0 i j T b (k + 1)).2.2.1)), (0, .ref (ad 4 0)), (1, .int (iI a)), (2, .int (iI b)), (3, .ref (ad 2 p0)), (4, .ref (ad 1 i))] := lv_cong (show lv_has ls 7 [(6, .int (iI (((k : Nat) : Int) + 1))), (5, .int (iI ((c_pq C p0 i j T b k).2.2.1 + (c_cn (C 0 2 j) (c_pq C p0 i j T b k).2.1 (b - (c_pq C p0 i j T b k).2.2.1))))), (0, .ref (ad 4 0)), (1, .int (iI a)), (2, .int (iI b)), (3, .ref (ad 2 p0)), (4, .ref (ad 1 i))] from lv_sub hl [0, 1, 2, 3, 4, 5, 6] rfl) (lv_cs (congrArg (fun z => Value.int (iI z)) e_7) (lv_cs (congrArg (fun z => Value.int (iI z)) e_8) (lv_cs rfl (lv_cs rfl (lv_cs rfl (lv_cs rfl (lv_cs rfl rfl)))))))
          exact ih (k + 1) _ _ ls (by omega) (by omega) hP hS hl
def tX4_print (n : Nat → Nat) (ad : Nat → Nat → Nat) (C : q_S) (a b : Int) (r : Int32) (u : q_U) : Prop :=
  ((1 ≤ a ∧ a ≤ (n 2 : Int)) ∧ ((0) ≤ b ∧ b ≤ (50000)) ∧ ((C 2 4 ((a - 1).toNat)) = 0) ∧ u = (n, ad, C) ∧ r = iI (0)) ∨
  ((1 ≤ a ∧ a ≤ (n 2 : Int)) ∧ ((0) ≤ b ∧ b ≤ (50000)) ∧ (¬ (C 2 4 ((a - 1).toNat)) = 0) ∧ ((c_pq C ((a - 1).toNat) (((C 2 4 ((a - 1).toNat)) - 1).toNat) ((C 1 0 (((C 2 4 ((a - 1).toNat)) - 1).toNat) - 1).toNat) ((C 0 1 ((C 1 0 (((C 2 4 ((a - 1).toNat)) - 1).toNat) - 1).toNat) - 1).toNat) b 100).1 < (C 1 2 (((C 2 4 ((a - 1).toNat)) - 1).toNat))) ∧ u = (n, ad, (c_ps C ((a - 1).toNat) (((C 2 4 ((a - 1).toNat)) - 1).toNat) ((C 1 0 (((C 2 4 ((a - 1).toNat)) - 1).toNat) - 1).toNat) ((C 0 1 ((C 1 0 (((C 2 4 ((a - 1).toNat)) - 1).toNat) - 1).toNat) - 1).toNat) b 100)) ∧ r = iI (c_pq C ((a - 1).toNat) (((C 2 4 ((a - 1).toNat)) - 1).toNat) ((C 1 0 (((C 2 4 ((a - 1).toNat)) - 1).toNat) - 1).toNat) ((C 0 1 ((C 1 0 (((C 2 4 ((a - 1).toNat)) - 1).toNat) - 1).toNat) - 1).toNat) b 100).2.2.1) ∨
  ((1 ≤ a ∧ a ≤ (n 2 : Int)) ∧ ((0) ≤ b ∧ b ≤ (50000)) ∧ (¬ (C 2 4 ((a - 1).toNat)) = 0) ∧ ((C 1 2 (((C 2 4 ((a - 1).toNat)) - 1).toNat)) ≤ (c_pq C ((a - 1).toNat) (((C 2 4 ((a - 1).toNat)) - 1).toNat) ((C 1 0 (((C 2 4 ((a - 1).toNat)) - 1).toNat) - 1).toNat) ((C 0 1 ((C 1 0 (((C 2 4 ((a - 1).toNat)) - 1).toNat) - 1).toNat) - 1).toNat) b 100).1) ∧ u = (n, ad, q_up (q_up ((c_ps C ((a - 1).toNat) (((C 2 4 ((a - 1).toNat)) - 1).toNat) ((C 1 0 (((C 2 4 ((a - 1).toNat)) - 1).toNat) - 1).toNat) ((C 0 1 ((C 1 0 (((C 2 4 ((a - 1).toNat)) - 1).toNat) - 1).toNat) - 1).toNat) b 100)) 1 3 (((C 2 4 ((a - 1).toNat)) - 1).toNat) ((2))) 2 4 ((a - 1).toNat) ((0))) ∧ r = iI (c_pq C ((a - 1).toNat) (((C 2 4 ((a - 1).toNat)) - 1).toNat) ((C 1 0 (((C 2 4 ((a - 1).toNat)) - 1).toNat) - 1).toNat) ((C 0 1 ((C 1 0 (((C 2 4 ((a - 1).toNat)) - 1).toNat) - 1).toNat) - 1).toNat) b 100).2.2.1)
def xX4_print (n : Nat → Nat) (C : q_S) (a b : Int) (E : String) : Prop :=
  (x_find (n 2) a E) ∨
  (E = "java/lang/IllegalArgumentException" ∧ (1 ≤ a ∧ a ≤ (n 2 : Int)) ∧ (¬ ((0) ≤ b ∧ b ≤ (50000))))
set_option maxHeartbeats 4000000 in
set_option maxRecDepth 100000 in
theorem c_X4_print (l : Launch) (htr : l.stackTraces = false) (g : q_G) (s0 : Nat) (n : Nat → Nat) (ad : Nat → Nat → Nat) (C : q_S) (c0 : Nat) (hC : c_S C n) (hR : c_R C n c0) (hc0 : c0 ≤ 511) (a b : Int) (ha : R32 a) (hb : R32 b) (hI : c_I C n) : vx_Met l yX4_print wsX4_print ({ frames := 7, cells := 2, slots := 12, locals := 112 }) (va_Pc [.ref (ad 4 0), .int (iI a), .int (iI b)] (q_B g s0 (n, ad, C))) (va_Qi (tX4_print n ad C a b) (q_B g s0) (q_A s0)) (q_XC g s0 (n, ad, C) (xX4_print n C a b)) 2 12 (q_A s0) := by
  refine vx_ofW (cc := cX4_print) (maxL := 7) (ret := (some .int)) (by decide) rfl ?_
  intro p e s m args below meth c s₁ B hml hnx hv
  obtain ⟨rfl, hv⟩ := hv
  have hr := B.returns
  have hlocks := B.notSynchronized
  obtain ⟨X, hP⟩ := q_start B.exec B.bytes hml (show s.vm.findClass RX4 = some m.cls from findClass_of_methodNamed B.named) (atoms_spec (ws := wsX4_print) B.pre) hv
  have hP : q_P g s0 n ad C s.heap := hP
  have hS : va_S (q_A s0) s.heap s.heap [] := va_S.rf
  have in0 : ∀ w ∈ wsX00, w ∈ wsX4_print := by decide +kernel
  have in1 : ∀ w ∈ wsX10, w ∈ wsX4_print := by decide +kernel
  have in2 : ∀ w ∈ wsX20, w ∈ wsX4_print := by decide +kernel
  have in4 : ∀ w ∈ wsX40, w ∈ wsX4_print := by decide +kernel
  have hl := lv_entry ([.ref (ad 4 0), .int (iI a), .int (iI b)]) (n := 7) (Nat.le_of_ble_eq_true rfl)
  rw [lg_entry_eq]
  generalize (lg_sl ([.ref (ad 4 0), .int (iI a), .int (iI b)]) ++ List.replicate (7 - (lg_sl ([.ref (ad 4 0), .int (iI a), .int (iI b)])).length) Slot.unset).toArray = ls at hl ⊢
  have hl : lv_has ls 7 [(0, .ref (ad 4 0)), (1, .int (iI a)), (2, .int (iI b))] := hl
  refine lv_aload_n X.1 X.2.1 dX4_print_0 rfl (lv_at hl 0 rfl) ?_
  refine lv_iload_n X.1 X.2.1 dX4_print_1 rfl (lv_at hl 1 rfl) ?_
  refine vx_callq (vx_runV (As := [.int (iI a)]) (rest := []) X.fix (c_X4_findPrinter l htr g s0 n ad C c0 hC hR a ha) (cwV 1 X.2.2.2.2.1 gX4_print_X4_findPrinter rfl rfl rfl (by decide +kernel) ⟨Nat.le_of_ble_eq_true rfl, Nat.le_of_ble_eq_true rfl⟩) (q_preV X hP hS [.int (iI a)] (kd := 4) (by decide) rfl (c_v4 hC)) rfl rfl hl.1 rfl (lv_room (Nat.le_of_ble_eq_true rfl)) dX4_print_2 ⟨Nat.le_of_ble_eq_true rfl, Nat.le_of_ble_eq_true rfl⟩) hS q_id q_id1 q_id ?_ (fun r u t H locs ht hvm hw hB hz1 hk1 hS => ?_)
  · intro E ce q9 u t H locs ht hvm hpx hBX hz1 hk1 hS hce hcv hcl
    exact q_xout X hnx hlocks hBX ht hS hce hcv hcl (fun hxe => Or.inl (hxe)) (Nat.le_of_ble_eq_true rfl) (Nat.le_of_ble_eq_true rfl)
  · obtain ⟨rfl, h_1, rfl⟩ := hw
    have hP : q_P g s0 n ad (C) H := q_back hB ht
    rw [show va_rf (some (ad 2 ((a - 1).toNat))) = .ref (ad 2 ((a - 1).toNat)) from rfl]
    refine lv_astore_n (lv' := [(3, .ref (ad 2 ((a - 1).toNat))), (0, .ref (ad 4 0)), (1, .int (iI a)), (2, .int (iI b))]) X.1 X.2.1 dX4_print_5 rfl hl (by decide) rfl (fun ls hl => ?_)
    refine lv_iload_n X.1 X.2.1 dX4_print_6 rfl (lv_at hl 3 rfl) ?_
    refine lv_iconst (v := iI (0)) X.1 X.2.1 dX4_print_7 rfl ?_
    refine q_ldc (v := 50000) (z := 50000) X (by decide) (by decide +kernel) dX4_print_8 ?_
    refine va_calli (va_runS (As := [.int (iI b), .int (iI (0)), .int (iI (50000))]) (rest := []) X.fix (c_X4_isWithin l g s0 n ad C b (0) (50000) hb (by decide) (by decide)) (va_cwS 3 X.2.2.2.2.1 gX4_print_X4_isWithin rfl rfl rfl (by decide +kernel) ⟨Nat.le_of_ble_eq_true rfl, Nat.le_of_ble_eq_true rfl⟩) (q_preS X hP hS _) rfl rfl hl.1 rfl (lv_room (Nat.le_of_ble_eq_true rfl)) dX4_print_10 ⟨Nat.le_of_ble_eq_true rfl, Nat.le_of_ble_eq_true rfl⟩) hS q_id q_id1 (fun r u t H locs ht hvm hw hB hz1 hk1 hS => ?_)
    obtain ⟨rfl, ⟨h_2, rfl⟩ | ⟨h_2, rfl⟩⟩ := hw
    · have hP : q_P g s0 n ad (C) H := q_back hB ht
      have h_2 : (0) ≤ b ∧ b ≤ (50000) := h_2
      refine q_if_ne (tgt := 24) X (by decide) dX4_print_13 (by decide) (fun _ => ?_) (fun h => absurd h (by decide))
      refine lv_aload_n X.1 X.2.1 dX4_print_24 rfl (lv_at hl 0 rfl) ?_
      refine q_get (index := 87) (v := va_rf (q_rf ad 1 (C 2 4 ((a - 1).toNat)))) X hP 2 4 ((a - 1).toNat) rfl rfl (by decide) in2 (show (a - 1).toNat < n 2 by omega) (by decide) (by decide +kernel) rfl dX4_print_25 ?_
      by_cases h_4 : (C 2 4 ((a - 1).toNat)) = 0
      · rw [q_rf0 ad 1 h_4]
        refine lv_astoreN (lv' := [(4, .null), (3, .ref (ad 2 ((a - 1).toNat))), (0, .ref (ad 4 0)), (1, .int (iI a)), (2, .int (iI b))]) X.1 X.2.1 dX4_print_28 hl (by decide) rfl (fun ls hl => ?_)
        refine lv_aloadN X.1 X.2.1 dX4_print_30 (lv_at hl 0 rfl) ?_
        refine lv_ifnonnullN X.1 X.2.1 dX4_print_32 ?_
        refine lv_iconst (v := iI (0)) X.1 X.2.1 dX4_print_35 rfl ?_
        refine vx_ret ?_
        exact q_iret X hr hlocks hP hS (Or.inl (⟨h_1, h_2, h_4, rfl, rfl⟩)) (Nat.le_of_ble_eq_true rfl) (Nat.le_of_ble_eq_true rfl) dX4_print_36
      · rw [q_rf1 ad 1 h_4]
        have vh_4 : ((C 2 4 ((a - 1).toNat)) - 1).toNat < n 1 := q_rfl (hP.tok 2 4 ((a - 1).toNat) rfl) h_4
        refine lv_astore (lv' := [(4, .ref (ad 1 (((C 2 4 ((a - 1).toNat)) - 1).toNat))), (3, .ref (ad 2 ((a - 1).toNat))), (0, .ref (ad 4 0)), (1, .int (iI a)), (2, .int (iI b))]) X.1 X.2.1 dX4_print_28 hl (by decide) rfl (fun ls hl => ?_)
        refine lv_aload X.1 X.2.1 dX4_print_30 (lv_at hl 0 rfl) ?_
        refine lv_ifnonnull (tgt := 37) X.1 X.2.1 dX4_print_32 (by decide) ?_
        refine lv_iconst (v := iI (0)) X.1 X.2.1 dX4_print_37 rfl ?_
        refine lv_istore (lv' := [(5, .int (iI (0))), (4, .ref (ad 1 (((C 2 4 ((a - 1).toNat)) - 1).toNat))), (3, .ref (ad 2 ((a - 1).toNat))), (0, .ref (ad 4 0)), (1, .int (iI a)), (2, .int (iI b))]) X.1 X.2.1 dX4_print_38 hl (by decide) rfl (fun ls hl => ?_)
        refine lv_iconst (v := iI (0)) X.1 X.2.1 dX4_print_40 rfl ?_
        refine lv_istore (lv' := [(6, .int (iI (0))), (5, .int (iI (0))), (4, .ref (ad 1 (((C 2 4 ((a - 1).toNat)) - 1).toNat))), (3, .ref (ad 2 ((a - 1).toNat))), (0, .ref (ad 4 0)), (1, .int (iI a)), (2, .int (iI b))]) X.1 X.2.1 dX4_print_41 hl (by decide) rfl (fun ls hl => ?_)
        have hp : (a - 1).toNat < n 2 := by omega
        have q10 := c_R10 hR (((C 2 4 ((a - 1).toNat)) - 1).toNat) vh_4
        have hj : (C 1 0 (((C 2 4 ((a - 1).toNat)) - 1).toNat) - 1).toNat < n 0 := by omega
        have q01 := c_R01 hR ((C 1 0 (((C 2 4 ((a - 1).toNat)) - 1).toNat) - 1).toNat) hj
        have hT : (C 0 1 ((C 1 0 (((C 2 4 ((a - 1).toNat)) - 1).toNat) - 1).toNat) - 1).toNat < n 3 := by omega
        have qI : 1 ≤ C 0 2 ((C 1 0 (((C 2 4 ((a - 1).toNat)) - 1).toNat) - 1).toNat) ∧ C 1 5 (((C 2 4 ((a - 1).toNat)) - 1).toNat) < C 0 2 ((C 1 0 (((C 2 4 ((a - 1).toNat)) - 1).toNat) - 1).toNat) ∧ C 1 4 (((C 2 4 ((a - 1).toNat)) - 1).toNat) ≤ C 1 2 (((C 2 4 ((a - 1).toNat)) - 1).toNat) := hI (((C 2 4 ((a - 1).toNat)) - 1).toNat) vh_4
        have q02 := c_R02 hR ((C 1 0 (((C 2 4 ((a - 1).toNat)) - 1).toNat) - 1).toNat)
        have q12 := c_R12 hR (((C 2 4 ((a - 1).toNat)) - 1).toNat)
        have q14 := c_R14 hR (((C 2 4 ((a - 1).toNat)) - 1).toNat)
        have q15 := c_R15 hR (((C 2 4 ((a - 1).toNat)) - 1).toNat)
        have q32 := c_R3 hR 2 ((C 0 1 ((C 1 0 (((C 2 4 ((a - 1).toNat)) - 1).toNat) - 1).toNat) - 1).toNat) (by decide) (by decide)
        have q33 := c_R3 hR 3 ((C 0 1 ((C 1 0 (((C 2 4 ((a - 1).toNat)) - 1).toNat) - 1).toNat) - 1).toNat) (by decide) (by decide)
        have q25 : _ ∨ _ := hP.tok 2 5 ((a - 1).toNat) rfl
        have e_5 : (0) = ((0 : Nat) : Int) := by rfl
        have e_6 : (0) = (c_pq C ((a - 1).toNat) (((C 2 4 ((a - 1).toNat)) - 1).toNat) ((C 1 0 (((C 2 4 ((a - 1).toNat)) - 1).toNat) - 1).toNat) ((C 0 1 ((C 1 0 (((C 2 4 ((a - 1).toNat)) - 1).toNat) - 1).toNat) - 1).toNat) b 0).2.2.1 := by rfl
        have hl : lv_has ls 7 [(6, .int (iI ((0 : Nat) : Int))), (5, .int (iI (c_pq C ((a - 1).toNat) (((C 2 4 ((a - 1).toNat)) - 1).toNat) ((C 1 0 (((C 2 4 ((a - 1).toNat)) - 1).toNat) - 1).toNat) ((C 0 1 ((C 1 0 (((C 2 4 ((a - 1).toNat)) - 1).toNat) - 1).toNat) - 1).toNat) b 0).2.2.1)), (0, .ref (ad 4 0)), (1, .int (iI a)), (2, .int (iI b)), (3, .ref (ad 2 ((a - 1).toNat))), (4, .ref (ad 1 (((C 2 4 ((a - 1).toNat)) - 1).toNat)))] := lv_cong (show lv_has ls 7 [(6, .int (iI (0))), (5, .int (iI (0))), (0, .ref (ad 4 0)), (1, .int (iI a)), (2, .int (iI b)), (3, .ref (ad 2 ((a - 1).toNat))), (4, .ref (ad 1 (((C 2 4 ((a - 1).toNat)) - 1).toNat)))] from lv_sub hl [0, 1, 4, 5, 6, 3, 2] rfl) (lv_cs (congrArg (fun z => Value.int (iI z)) e_5) (lv_cs (congrArg (fun z => Value.int (iI z)) e_6) (lv_cs rfl (lv_cs rfl (lv_cs rfl (lv_cs rfl (lv_cs rfl rfl)))))))
        rw [← c_ps_0 C ((a - 1).toNat) (((C 2 4 ((a - 1).toNat)) - 1).toNat) ((C 1 0 (((C 2 4 ((a - 1).toNat)) - 1).toNat) - 1).toNat) ((C 0 1 ((C 1 0 (((C 2 4 ((a - 1).toNat)) - 1).toNat) - 1).toNat) - 1).toNat) b] at hP
        have fq : _ ∧ _ ∧ _ ∧ _ ∧ _ := c_sq_i (P := C 0 2 ((C 1 0 (((C 2 4 ((a - 1).toNat)) - 1).toNat) - 1).toNat)) (K := C 1 2 (((C 2 4 ((a - 1).toNat)) - 1).toNat)) (sd := C 3 1 ((C 0 1 ((C 1 0 (((C 2 4 ((a - 1).toNat)) - 1).toNat) - 1).toNat) - 1).toNat)) (b := b) (w0 := C 1 4 (((C 2 4 ((a - 1).toNat)) - 1).toNat)) (x0 := C 1 5 (((C 2 4 ((a - 1).toNat)) - 1).toNat)) (s1 := C 3 3 ((C 0 1 ((C 1 0 (((C 2 4 ((a - 1).toNat)) - 1).toNat) - 1).toNat) - 1).toNat)) (d0 := C 2 5 ((a - 1).toNat)) ⟨by omega, by omega⟩ ⟨by omega, by omega⟩ ⟨by omega, by omega⟩ (by omega) q25 100
        rw [show c_sq (C 0 2 ((C 1 0 (((C 2 4 ((a - 1).toNat)) - 1).toNat) - 1).toNat)) (C 1 2 (((C 2 4 ((a - 1).toNat)) - 1).toNat)) (C 3 1 ((C 0 1 ((C 1 0 (((C 2 4 ((a - 1).toNat)) - 1).toNat) - 1).toNat) - 1).toNat)) b (C 1 4 (((C 2 4 ((a - 1).toNat)) - 1).toNat)) (C 1 5 (((C 2 4 ((a - 1).toNat)) - 1).toNat)) (C 3 3 ((C 0 1 ((C 1 0 (((C 2 4 ((a - 1).toNat)) - 1).toNat) - 1).toNat) - 1).toNat)) (C 2 5 ((a - 1).toNat)) 100 = (c_pq C ((a - 1).toNat) (((C 2 4 ((a - 1).toNat)) - 1).toNat) ((C 1 0 (((C 2 4 ((a - 1).toNat)) - 1).toNat) - 1).toNat) ((C 0 1 ((C 1 0 (((C 2 4 ((a - 1).toNat)) - 1).toNat) - 1).toNat) - 1).toNat) b 100) from rfl] at fq
        refine w_X4_print (C := C) X in0 in1 in2 in4 c0 hC ((a - 1).toNat) hp (((C 2 4 ((a - 1).toNat)) - 1).toNat) vh_4 ((C 1 0 (((C 2 4 ((a - 1).toNat)) - 1).toNat) - 1).toNat) hj (by omega) ((C 0 1 ((C 1 0 (((C 2 4 ((a - 1).toNat)) - 1).toNat) - 1).toNat) - 1).toNat) hT (by omega) ⟨by omega, by omega⟩ ⟨by omega, by omega⟩ ⟨by omega, by omega⟩ (by omega) ⟨by omega, by omega⟩ ⟨by omega, by omega⟩ a b ha (by omega) q25 (fun H locs ls hP hS hl => ?_) 101 0 _ _ ls (by omega) (by omega) hP hS hl
        refine lv_aload X.1 X.2.1 dX4_print_90 (lv_at hl 5 rfl) ?_
        refine q_get (index := 109) (v := .int (iI (c_pq C ((a - 1).toNat) (((C 2 4 ((a - 1).toNat)) - 1).toNat) ((C 1 0 (((C 2 4 ((a - 1).toNat)) - 1).toNat) - 1).toNat) ((C 0 1 ((C 1 0 (((C 2 4 ((a - 1).toNat)) - 1).toNat) - 1).toNat) - 1).toNat) b 100).1)) X hP 1 4 (((C 2 4 ((a - 1).toNat)) - 1).toNat) rfl rfl (by decide) in1 vh_4 (by decide) (by decide +kernel) (congrArg (fun z => Value.int (iI z)) (c_ps_14 C ((a - 1).toNat) (((C 2 4 ((a - 1).toNat)) - 1).toNat) ((C 1 0 (((C 2 4 ((a - 1).toNat)) - 1).toNat) - 1).toNat) ((C 0 1 ((C 1 0 (((C 2 4 ((a - 1).toNat)) - 1).toNat) - 1).toNat) - 1).toNat) b 100)) dX4_print_92 ?_
        refine lv_aload X.1 X.2.1 dX4_print_95 (lv_at hl 5 rfl) ?_
        refine q_get (index := 112) (v := .int (iI (C 1 2 (((C 2 4 ((a - 1).toNat)) - 1).toNat)))) X hP 1 2 (((C 2 4 ((a - 1).toNat)) - 1).toNat) rfl rfl (by decide) in1 vh_4 (by decide) (by decide +kernel) rfl dX4_print_97 ?_
        have f_7 := c_R12 hR (((C 2 4 ((a - 1).toNat)) - 1).toNat)
        refine q_icmp_lt (tgt := 114) X (by omega) (hP.tok 1 2 (((C 2 4 ((a - 1).toNat)) - 1).toNat) rfl) dX4_print_100 (by decide) (fun h_8 => ?_) (fun h_8 => ?_)
        · refine lv_iload X.1 X.2.1 dX4_print_114 (lv_at hl 0 rfl) ?_
          refine vx_ret ?_
          exact q_iret X hr hlocks hP hS (Or.inr (Or.inl (⟨h_1, h_2, h_4, h_8, rfl, rfl⟩))) (Nat.le_of_ble_eq_true rfl) (Nat.le_of_ble_eq_true rfl) dX4_print_116
        · refine lv_aload X.1 X.2.1 dX4_print_103 (lv_at hl 5 rfl) ?_
          refine lv_iconst (v := iI (2)) X.1 X.2.1 dX4_print_105 rfl ?_
          refine q_put (index := 119) (v := .int (iI (2))) X hP hS 1 3 (((C 2 4 ((a - 1).toNat)) - 1).toNat) ((2)) rfl rfl (by decide) in1 tyX1 tyX1_ok nmX1 vh_4 (by decide) (by decide +kernel) rfl rfl rfl rfl (show R32 _ from (by decide)) dX4_print_106 (fun H locs hP hS => ?_)
          have hP : q_P g s0 n ad (q_up ((c_ps C ((a - 1).toNat) (((C 2 4 ((a - 1).toNat)) - 1).toNat) ((C 1 0 (((C 2 4 ((a - 1).toNat)) - 1).toNat) - 1).toNat) ((C 0 1 ((C 1 0 (((C 2 4 ((a - 1).toNat)) - 1).toNat) - 1).toNat) - 1).toNat) b 100)) 1 3 (((C 2 4 ((a - 1).toNat)) - 1).toNat) ((2))) H := hP
          refine lv_aload_n X.1 X.2.1 dX4_print_109 rfl (lv_at hl 4 rfl) ?_
          refine lv_null X.1 X.2.1 dX4_print_110 ?_
          refine q_put (index := 87) (v := .null) X hP hS 2 4 ((a - 1).toNat) ((0)) rfl rfl (by decide) in2 tyX2 tyX2_ok nmX2 (show (a - 1).toNat < n 2 by omega) (by decide) (by decide +kernel) rfl rfl rfl rfl (q_t0 _ _) dX4_print_111 (fun H locs hP hS => ?_)
          have hP : q_P g s0 n ad (q_up (q_up ((c_ps C ((a - 1).toNat) (((C 2 4 ((a - 1).toNat)) - 1).toNat) ((C 1 0 (((C 2 4 ((a - 1).toNat)) - 1).toNat) - 1).toNat) ((C 0 1 ((C 1 0 (((C 2 4 ((a - 1).toNat)) - 1).toNat) - 1).toNat) - 1).toNat) b 100)) 1 3 (((C 2 4 ((a - 1).toNat)) - 1).toNat) ((2))) 2 4 ((a - 1).toNat) ((0))) H := hP
          refine lv_iload X.1 X.2.1 dX4_print_114 (lv_at hl 0 rfl) ?_
          refine vx_ret ?_
          exact q_iret X hr hlocks hP hS (Or.inr (Or.inr (⟨h_1, h_2, h_4, h_8, rfl, rfl⟩))) (Nat.le_of_ble_eq_true rfl) (Nat.le_of_ble_eq_true rfl) dX4_print_116
    · have hP : q_P g s0 n ad (C) H := q_back hB ht
      have h_2 : ¬ ((0) ≤ b ∧ b ≤ (50000)) := h_2
      refine q_if_ne (tgt := 24) X (by decide) dX4_print_13 (by decide) (fun h => absurd h (by decide)) (fun _ => ?_)
      exact q_throw X htr hnx hlocks (cls := "java/lang/IllegalArgumentException") (ik := 42) (ic := 44) (by decide) (by decide +kernel) (by decide +kernel) (by decide +kernel) xb_44 xg_42_44 hP hS hl.1 dX4_print_16 dX4_print_19 dX4_print_20 dX4_print_23 (Nat.le_of_ble_eq_true rfl) (Nat.le_of_ble_eq_true rfl) (Nat.le_of_ble_eq_true rfl) (Nat.le_of_ble_eq_true rfl) (Or.inr (⟨rfl, h_1, h_2⟩)) (Nat.le_of_ble_eq_true rfl) (Nat.le_of_ble_eq_true rfl)
