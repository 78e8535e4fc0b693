theorem c_unt_r {C : q_S} {n : Nat → Nat} {c : Nat} (h : c_R C n c) (i : Nat) : R32 (c_unt C i) := by
  have h1 := c_R12 h i
  have h2 := c_R14 h i
  unfold c_unt
  split <;> omega
abbrev c_can (C : q_S) (i : Nat) (a : Int) : Prop := C 1 3 i = 0 ∧ C 1 1 i = 0 ∧ a < c_unt C i
abbrev c_lk (C : q_S) (j p : Nat) : Prop := C 3 0 (c_tik C j) = C 2 2 p
abbrev c_bef (C : q_S) (j1 j2 p : Nat) : Prop := C 0 3 j2 < C 0 3 j1 ∨ (C 0 3 j1 = C 0 3 j2 ∧ ((C 2 3 p < C 4 9 0 ∧ c_lk C j1 p ∧ ¬ c_lk C j2 p) ∨ ((C 4 9 0 ≤ C 2 3 p ∨ (c_lk C j1 p ↔ c_lk C j2 p)) ∧ C 0 4 j1 < C 0 4 j2)))
def c_sh2 (a b d : Int) : Int := if ¬ d = 0 ∧ a % 2 = 1 then (a + b + 1) / 2 - (a + 1) / 2 + 1 else (a + b + 1) / 2 - (a + 1) / 2
/-- the part that is chosen among the first k jobs: its index and one; 0 -/
def c_ch (C : q_S) (n : Nat → Nat) (p : Nat) : Nat → Int
  | 0 => 0
  | k + 1 => if k < n 0 ∧ C 0 5 k = 0 ∧ C 0 4 k ≤ C 4 10 0 ∧ ¬ c_fp C k p (n 1) = 0 ∧ (c_ch C n p k = 0 ∨ c_bef C k (c_job C (c_ch C n p k - 1).toNat) p) then c_fp C k p (n 1) else c_ch C n p k
theorem c_ch_b (C : q_S) (n : Nat → Nat) (p : Nat) (k : Nat) : 0 ≤ c_ch C n p k ∧ c_ch C n p k ≤ (n 1 : Int) := by
  induction k with
  | zero => rw [c_ch]; omega
  | succ k ih =>
    rw [c_ch]
    split
    · rename_i h
      obtain ⟨i, h1, h2, -⟩ := c_fp_y C k p h.2.2.2.1
      omega
    · exact ih
def c_sf (C : q_S) (n : Nat → Nat) (j : Nat) : Nat → Int
  | 0 => 0
  | k + 1 => if k < n 2 ∧ ¬ c_fp C j k (n 1) = 0 then 1 else c_sf C n j k
theorem c_sf_b (C : q_S) (n : Nat → Nat) (j k : Nat) : c_sf C n j k = 0 ∨ c_sf C n j k = 1 := by
  induction k with
  | zero => left; rfl
  | succ k ih => rw [c_sf]; split <;> omega
/-- one turn of emptying the printers of a job -/
def c_e1 (E : q_S) (j k : Nat) : q_S := if ¬ E 6 k 0 = 0 ∧ ¬ E 2 4 (E 6 k 0 - 1).toNat = 0 ∧ (E 1 0 (E 2 4 (E 6 k 0 - 1).toNat - 1).toNat - 1).toNat = j then q_up E 2 4 (E 6 k 0 - 1).toNat 0 else E
def c_es (C : q_S) (j : Nat) : Nat → q_S
  | 0 => C
  | k + 1 => c_e1 (c_es C j k) j k
theorem c_find_eq {C D : q_S} (h : ∀ k, D 1 0 k = C 1 0 k) (j : Nat) : ∀ m k, c_find D j m k = c_find C j m k := by
  intro m
  induction m with
  | zero => intro k; rfl
  | succ m ih => intro k; rw [c_find, c_find, h k, ih (k + 1)]
theorem xb_199 : ∀ w ∈ (vx_at0 RX4 199 "java/util/NoSuchElementException" q_nm).filter (fun w => !goodWord w), w ∈ q_bad "java/util/NoSuchElementException" := by decide +kernel
theorem xg_197_199 : ∀ w ∈ Cond.classLink RX4 197 "java/util/NoSuchElementException" :: Cond.initialized "java/util/NoSuchElementException" :: vx_at0 RX4 199 "java/util/NoSuchElementException" q_nm, vx_ot w = true := by decide +kernel
theorem xb_44 : ∀ w ∈ (vx_at0 RX4 44 "java/lang/IllegalArgumentException" q_nm).filter (fun w => !goodWord w), w ∈ q_bad "java/lang/IllegalArgumentException" := by decide +kernel
theorem xg_42_44 : ∀ w ∈ Cond.classLink RX4 42 "java/lang/IllegalArgumentException" :: Cond.initialized "java/lang/IllegalArgumentException" :: vx_at0 RX4 44 "java/lang/IllegalArgumentException" q_nm, vx_ot w = true := by decide +kernel
theorem xb_50 : ∀ w ∈ (vx_at0 RX4 50 "java/lang/UnsupportedOperationException" q_nm).filter (fun w => !goodWord w), w ∈ q_bad "java/lang/UnsupportedOperationException" := by decide +kernel
theorem xg_48_50 : ∀ w ∈ Cond.classLink RX4 48 "java/lang/UnsupportedOperationException" :: Cond.initialized "java/lang/UnsupportedOperationException" :: vx_at0 RX4 50 "java/lang/UnsupportedOperationException" q_nm, vx_ot w = true := by decide +kernel
theorem xb_92 : ∀ w ∈ (vx_at0 RX4 92 "java/lang/IllegalStateException" q_nm).filter (fun w => !goodWord w), w ∈ q_bad "java/lang/IllegalStateException" := by decide +kernel
theorem xg_90_92 : ∀ w ∈ Cond.classLink RX4 90 "java/lang/IllegalStateException" :: Cond.initialized "java/lang/IllegalStateException" :: vx_at0 RX4 92 "java/lang/IllegalStateException" q_nm, vx_ot w = true := by decide +kernel
theorem xb_165 : ∀ w ∈ (vx_at0 RX4 165 "java/lang/IndexOutOfBoundsException" q_nm).filter (fun w => !goodWord w), w ∈ q_bad "java/lang/IndexOutOfBoundsException" := by decide +kernel
theorem xg_163_165 : ∀ w ∈ Cond.classLink RX4 163 "java/lang/IndexOutOfBoundsException" :: Cond.initialized "java/lang/IndexOutOfBoundsException" :: vx_at0 RX4 165 "java/lang/IndexOutOfBoundsException" q_nm, vx_ot w = true := by decide +kernel
def tX1_countPages (n : Nat → Nat) (ad : Nat → Nat → Nat) (C : q_S) (i j : Nat) (a : Int) (u : q_U) : Prop :=
  ((((C 1 5 i) + a) < (C 0 2 j)) ∧ u = (n, ad, q_up C 1 5 i (((C 1 5 i) + a)))) ∨
  (((C 0 2 j) ≤ ((C 1 5 i) + a)) ∧ u = (n, ad, q_up (q_up (q_up C 1 5 i (((C 1 5 i) + a))) 1 5 i ((0))) 1 4 i (((C 1 4 i) + (1)))))
set_option maxHeartbeats 4000000 in
set_option maxRecDepth 100000 in
theorem c_X1_countPages (l : Launch) (g : q_G) (s0 : Nat) (n : Nat → Nat) (ad : Nat → Nat → Nat) (C : q_S) (i : Nat) (hi : i < n 1) (j : Nat) (hj : j < n 0) (hjb : C 1 0 i = (j : Int) + 1) (h15 : 0 ≤ C 1 5 i ∧ C 1 5 i ≤ 500) (h14 : 0 ≤ C 1 4 i ∧ C 1 4 i ≤ 100) (a : Int) (ha : 0 ≤ a ∧ a ≤ 500) : Met l yX1_countPages wsX1_countPages ({ frames := 0, cells := 0, slots := 0, locals := 0 }) (va_Pc [.ref (ad 1 i), .int (iI a)] (q_B g s0 (n, ad, C))) (va_Qv (tX1_countPages n ad C i j a) (q_B g s0) (q_A s0)) 0 0 (q_A s0) := by
  refine Met.ofW (cc := cX1_countPages) (maxL := 2) (ret := none) (by decide) rfl ?_
  intro p e s m args below meth c s₁ B hml hv
  obtain ⟨rfl, hv⟩ := hv
  have hr := B.returns
  have hlocks := B.notSynchronized
  obtain ⟨X, hP⟩ := q_start B.exec B.bytes hml (show s.vm.findClass RX1 = some m.cls from findClass_of_methodNamed B.named) (atoms_spec (ws := wsX1_countPages) B.pre) hv
  have hP : q_P g s0 n ad C s.heap := hP
  have hS : va_S (q_A s0) s.heap s.heap [] := va_S.rf
  have in0 : ∀ w ∈ wsX00, w ∈ wsX1_countPages := by decide +kernel
  have in1 : ∀ w ∈ wsX10, w ∈ wsX1_countPages := by decide +kernel
  have hl := lv_entry ([.ref (ad 1 i), .int (iI a)]) (n := 2) (Nat.le_of_ble_eq_true rfl)
  rw [lg_entry_eq]
  generalize (lg_sl ([.ref (ad 1 i), .int (iI a)]) ++ List.replicate (2 - (lg_sl ([.ref (ad 1 i), .int (iI a)])).length) Slot.unset).toArray = ls at hl ⊢
  have hl : lv_has ls 2 [(0, .ref (ad 1 i)), (1, .int (iI a))] := hl
  refine lv_aload_n X.1 X.2.1 dX1_countPages_0 rfl (lv_at hl 0 rfl) ?_
  refine lv_dup X.1 X.2.1 dX1_countPages_1 rfl ?_
  refine q_get (index := 23) (v := .int (iI (C 1 5 i))) X hP 1 5 i rfl rfl (by decide) in1 hi (by decide) (by decide +kernel) rfl dX1_countPages_2 ?_
  refine lv_iload_n X.1 X.2.1 dX1_countPages_5 rfl (lv_at hl 1 rfl) ?_
  refine q_iadd X dX1_countPages_6 ?_
  refine q_put (index := 23) (v := .int (iI ((C 1 5 i) + a))) X hP hS 1 5 i (((C 1 5 i) + a)) rfl rfl (by decide) in1 tyX1 tyX1_ok nmX1 hi (by decide) (by decide +kernel) rfl rfl rfl rfl (show R32 _ from (by omega)) dX1_countPages_7 (fun H locs hP hS => ?_)
  have hP : q_P g s0 n ad (q_up C 1 5 i (((C 1 5 i) + a))) H := hP
  refine lv_aload_n X.1 X.2.1 dX1_countPages_10 rfl (lv_at hl 0 rfl) ?_
  refine q_get (index := 23) (v := .int (iI ((C 1 5 i) + a))) X hP 1 5 i rfl rfl (by decide) in1 hi (by decide) (by decide +kernel) (congrArg (fun z => Value.int (iI z)) (show (q_up C 1 5 i (((C 1 5 i) + a))) 1 5 i = ((C 1 5 i) + a) by simp [q_up])) dX1_countPages_11 ?_
  refine lv_aload_n X.1 X.2.1 dX1_countPages_14 rfl (lv_at hl 0 rfl) ?_
  refine q_get (index := 7) (v := .ref (ad 0 j)) X hP 1 0 i rfl rfl (by decide) in1 hi (by decide) (by decide +kernel) (q_vn ad 0 j hjb) dX1_countPages_15 ?_
  refine q_get (index := 26) (v := .int (iI (C 0 2 j))) X hP 0 2 j rfl rfl (by decide) in0 hj (by decide) (by decide +kernel) rfl dX1_countPages_18 ?_
  refine q_icmp_lt (tgt := 39) X (by omega) (hP.tok 0 2 j rfl) dX1_countPages_21 (by decide) (fun h_1 => ?_) (fun h_1 => ?_)
  · exact q_vret X hr hlocks hP hS (Or.inl (⟨h_1, rfl⟩)) (Nat.le_of_ble_eq_true rfl) (Nat.le_of_ble_eq_true rfl) dX1_countPages_39
  · refine lv_aload_n X.1 X.2.1 dX1_countPages_24 rfl (lv_at hl 0 rfl) ?_
    refine lv_iconst (v := iI (0)) X.1 X.2.1 dX1_countPages_25 rfl ?_
    refine q_put (index := 23) (v := .int (iI (0))) X hP hS 1 5 i ((0)) rfl rfl (by decide) in1 tyX1 tyX1_ok nmX1 hi (by decide) (by decide +kernel) rfl rfl rfl rfl (show R32 _ from (by decide)) dX1_countPages_26 (fun H locs hP hS => ?_)
    have hP : q_P g s0 n ad (q_up (q_up C 1 5 i (((C 1 5 i) + a))) 1 5 i ((0))) H := hP
    refine lv_aload_n X.1 X.2.1 dX1_countPages_29 rfl (lv_at hl 0 rfl) ?_
    refine lv_dup X.1 X.2.1 dX1_countPages_30 rfl ?_
    refine q_get (index := 20) (v := .int (iI (C 1 4 i))) X hP 1 4 i rfl rfl (by decide) in1 hi (by decide) (by decide +kernel) rfl dX1_countPages_31 ?_
    refine lv_iconst (v := iI (1)) X.1 X.2.1 dX1_countPages_34 rfl ?_
    refine q_iadd X dX1_countPages_35 ?_
    refine q_put (index := 20) (v := .int (iI ((C 1 4 i) + (1)))) X hP hS 1 4 i (((C 1 4 i) + (1))) rfl rfl (by decide) in1 tyX1 tyX1_ok nmX1 hi (by decide) (by decide +kernel) rfl rfl rfl rfl (show R32 _ from (by omega)) dX1_countPages_36 (fun H locs hP hS => ?_)
    have hP : q_P g s0 n ad (q_up (q_up (q_up C 1 5 i (((C 1 5 i) + a))) 1 5 i ((0))) 1 4 i (((C 1 4 i) + (1)))) H := hP
    exact q_vret X hr hlocks hP hS (Or.inr (⟨h_1, rfl⟩)) (Nat.le_of_ble_eq_true rfl) (Nat.le_of_ble_eq_true rfl) dX1_countPages_39
set_option maxHeartbeats 4000000 in
set_option maxRecDepth 100000 in
theorem c_X4_canLose (l : Launch) (g : q_G) (s0 : Nat) (n : Nat → Nat) (ad : Nat → Nat → Nat) (C : q_S) (c0 : Nat) (hR : c_R C n c0) (i : Nat) (hi : i < n 1) (a : Int) (ha : R32 a) : Met l yX4_canLose wsX4_canLose ({ frames := 1, cells := 0, slots := 0, locals := 20 }) (va_Pc [.ref (ad 1 i), .int (iI a)] (q_B g s0 (n, ad, C))) (va_Qi (fun r u => u = (n, ad, C) ∧ (((c_can C i a) ∧ r = iI 1) ∨ (¬ (c_can C i a) ∧ r = iI 0))) (q_B g s0) (q_A s0)) 0 0 (q_A s0) := by
  refine Met.ofW (cc := cX4_canLose) (maxL := 2) (ret := (some .boolean)) (by decide) rfl ?_
  intro p e s m args below meth c s₁ B hml hv
  obtain ⟨rfl, hv⟩ := hv
  have hr := B.returns
  have hlocks := B.notSynchronized
  obtain ⟨X, hP⟩ := q_start B.exec B.bytes hml (show s.vm.findClass RX4 = some m.cls from findClass_of_methodNamed B.named) (atoms_spec (ws := wsX4_canLose) B.pre) hv
  have hP : q_P g s0 n ad C s.heap := hP
  have hS : va_S (q_A s0) s.heap s.heap [] := va_S.rf
  have in1 : ∀ w ∈ wsX10, w ∈ wsX4_canLose := by decide +kernel
  have hl := lv_entry ([.ref (ad 1 i), .int (iI a)]) (n := 2) (Nat.le_of_ble_eq_true rfl)
  rw [lg_entry_eq]
  generalize (lg_sl ([.ref (ad 1 i), .int (iI a)]) ++ List.replicate (2 - (lg_sl ([.ref (ad 1 i), .int (iI a)])).length) Slot.unset).toArray = ls at hl ⊢
  have hl : lv_has ls 2 [(0, .ref (ad 1 i)), (1, .int (iI a))] := hl
  refine lv_aload_n X.1 X.2.1 dX4_canLose_0 rfl (lv_at hl 0 rfl) ?_
  refine q_get (index := 119) (v := .int (iI (C 1 3 i))) X hP 1 3 i rfl rfl (by decide) in1 hi (by decide) (by decide +kernel) rfl dX4_canLose_1 ?_
  refine q_if_ne (tgt := 26) X (hP.tok 1 3 i rfl) dX4_canLose_4 (by decide) (fun h_1 => ?_) (fun h_1 => ?_)
  · refine lv_iconst (v := iI (0)) X.1 X.2.1 dX4_canLose_26 rfl ?_
    exact q_zret X hr hlocks hP hS (z := (0)) (by decide) ⟨rfl, Or.inr ⟨by unfold c_can; omega, rfl⟩⟩ (Nat.le_of_ble_eq_true rfl) (Nat.le_of_ble_eq_true rfl) dX4_canLose_27
  · refine lv_aload_n X.1 X.2.1 dX4_canLose_7 rfl (lv_at hl 0 rfl) ?_
    refine q_get (index := 249) (v := .int (iI (C 1 1 i))) X hP 1 1 i rfl rfl (by decide) in1 hi (by decide) (by decide +kernel) rfl dX4_canLose_8 ?_
    refine q_if_ne (tgt := 26) X (hP.tok 1 1 i rfl) dX4_canLose_11 (by decide) (fun h_2 => ?_) (fun h_2 => ?_)
    · refine lv_iconst (v := iI (0)) X.1 X.2.1 dX4_canLose_26 rfl ?_
      exact q_zret X hr hlocks hP hS (z := (0)) (by decide) ⟨rfl, Or.inr ⟨by unfold c_can; omega, rfl⟩⟩ (Nat.le_of_ble_eq_true rfl) (Nat.le_of_ble_eq_true rfl) dX4_canLose_27
    · refine lv_aload_n X.1 X.2.1 dX4_canLose_14 rfl (lv_at hl 0 rfl) ?_
      refine va_calli (va_runV (As := []) (rest := []) X.fix (c_X1_untouchedCopies l g s0 n ad C i hi) (cwV 0 X.2.2.2.2.1 gX4_canLose_X1_untouchedCopies rfl rfl rfl (by decide +kernel) ⟨Nat.le_of_ble_eq_true rfl, Nat.le_of_ble_eq_true rfl⟩) (q_preV X hP hS [] (kd := 1) (by decide) rfl hi) rfl rfl hl.1 rfl (lv_room (Nat.le_of_ble_eq_true rfl)) dX4_canLose_15 ⟨Nat.le_of_ble_eq_true rfl, Nat.le_of_ble_eq_true rfl⟩) hS q_id q_id1 (fun r u t H locs ht hvm hw hB hz1 hk1 hS => ?_)
      obtain ⟨rfl, rfl⟩ := hw
      have hP : q_P g s0 n ad (C) H := q_back hB ht
      refine lv_iload_n X.1 X.2.1 dX4_canLose_18 rfl (lv_at hl 1 rfl) ?_
      refine q_icmp_le (tgt := 26) X (c_unt_r hR i) ha dX4_canLose_19 (by decide) (fun h_3 => ?_) (fun h_3 => ?_)
      · refine lv_iconst (v := iI (0)) X.1 X.2.1 dX4_canLose_26 rfl ?_
        exact q_zret X hr hlocks hP hS (z := (0)) (by decide) ⟨rfl, Or.inr ⟨by unfold c_can; omega, rfl⟩⟩ (Nat.le_of_ble_eq_true rfl) (Nat.le_of_ble_eq_true rfl) dX4_canLose_27
      · refine lv_iconst (v := iI (1)) X.1 X.2.1 dX4_canLose_22 rfl ?_
        refine lv_goto (tgt := 27) X.1 X.2.1 dX4_canLose_23 (by decide) ?_
        exact q_zret X hr hlocks hP hS (z := (1)) (by decide) ⟨rfl, Or.inl ⟨by unfold c_can; omega, rfl⟩⟩ (Nat.le_of_ble_eq_true rfl) (Nat.le_of_ble_eq_true rfl) dX4_canLose_27
set_option maxHeartbeats 4000000 in
set_option maxRecDepth 100000 in
theorem c_X4_goesBefore (l : Launch) (g : q_G) (s0 : Nat) (n : Nat → Nat) (ad : Nat → Nat → Nat) (C : q_S) (c0 : Nat) (hC : c_S C n) (hR : c_R C n c0) (j1 j2 p0 : Nat) (hj1 : j1 < n 0) (hj2 : j2 < n 0) (hp : p0 < n 2) : Met l yX4_goesBefore wsX4_goesBefore ({ frames := 0, cells := 0, slots := 0, locals := 0 }) (va_Pc [.ref (ad 4 0), .ref (ad 0 j1), .ref (ad 0 j2), .ref (ad 2 p0)] (q_B g s0 (n, ad, C))) (va_Qi (fun r u => u = (n, ad, C) ∧ (((c_bef C j1 j2 p0) ∧ r = iI 1) ∨ (¬ (c_bef C j1 j2 p0) ∧ r = iI 0))) (q_B g s0) (q_A s0)) 0 0 (q_A s0) := by
  refine Met.ofW (cc := cX4_goesBefore) (maxL := 6) (ret := (some .boolean)) (by decide) rfl ?_
  intro p e s m args below meth c s₁ B hml hv
  obtain ⟨rfl, hv⟩ := hv
  have hr := B.returns
  have hlocks := B.notSynchronized
  obtain ⟨X, hP⟩ := q_start B.exec B.bytes hml (show s.vm.findClass RX4 = some m.cls from findClass_of_methodNamed B.named) (atoms_spec (ws := wsX4_goesBefore) B.pre) hv
  have hP : q_P g s0 n ad C s.heap := hP
  have hS : va_S (q_A s0) s.heap s.heap [] := va_S.rf
  have in0 : ∀ w ∈ wsX00, w ∈ wsX4_goesBefore := by decide +kernel
  have in2 : ∀ w ∈ wsX20, w ∈ wsX4_goesBefore := by decide +kernel
  have in3 : ∀ w ∈ wsX30, w ∈ wsX4_goesBefore := by decide +kernel
  have in4 : ∀ w ∈ wsX40, w ∈ wsX4_goesBefore := by decide +kernel
  have hl := lv_entry ([.ref (ad 4 0), .ref (ad 0 j1), .ref (ad 0 j2), .ref (ad 2 p0)]) (n := 6) (Nat.le_of_ble_eq_true rfl)
  rw [lg_entry_eq]
  generalize (lg_sl ([.ref (ad 4 0), .ref (ad 0 j1), .ref (ad 0 j2), .ref (ad 2 p0)]) ++ List.replicate (6 - (lg_sl ([.ref (ad 4 0), .ref (ad 0 j1), .ref (ad 0 j2), .ref (ad 2 p0)])).length) Slot.unset).toArray = ls at hl ⊢
  have hl : lv_has ls 6 [(0, .ref (ad 4 0)), (1, .ref (ad 0 j1)), (2, .ref (ad 0 j2)), (3, .ref (ad 2 p0))] := hl
  refine lv_aload_n X.1 X.2.1 dX4_goesBefore_0 rfl (lv_at hl 1 rfl) ?_
  refine q_get (index := 212) (v := .int (iI (C 0 3 j1))) X hP 0 3 j1 rfl rfl (by decide) in0 hj1 (by decide) (by decide +kernel) rfl dX4_goesBefore_1 ?_
  refine lv_aload_n X.1 X.2.1 dX4_goesBefore_4 rfl (lv_at hl 2 rfl) ?_
  refine q_get (index := 212) (v := .int (iI (C 0 3 j2))) X hP 0 3 j2 rfl rfl (by decide) in0 hj2 (by decide) (by decide +kernel) rfl dX4_goesBefore_5 ?_
  refine q_icmp_eq (tgt := 28) X (hP.tok 0 3 j1 rfl) (hP.tok 0 3 j2 rfl) dX4_goesBefore_8 (by decide) (fun h_1 => ?_) (fun h_1 => ?_)
  · refine lv_aload_n X.1 X.2.1 dX4_goesBefore_28 rfl (lv_at hl 1 rfl) ?_
    refine q_get (index := 215) (v := .ref (ad 3 ((C 0 1 j1 - 1).toNat))) X hP 0 1 j1 rfl rfl (by decide) in0 hj1 (by decide) (by decide +kernel) (q_vnn ad 3 (c_tn hR j1 hj1)) dX4_goesBefore_29 ?_
    refine q_get (index := 219) (v := .int (iI (C 3 0 ((C 0 1 j1 - 1).toNat)))) X hP 3 0 ((C 0 1 j1 - 1).toNat) rfl rfl (by decide) in3 (q_rfl (hP.tok 0 1 j1 rfl) (c_tn hR j1 hj1)) (by decide) (by decide +kernel) rfl dX4_goesBefore_32 ?_
    refine lv_aload_n X.1 X.2.1 dX4_goesBefore_35 rfl (lv_at hl 3 rfl) ?_
    refine q_get (index := 222) (v := .int (iI (C 2 2 p0))) X hP 2 2 p0 rfl rfl (by decide) in2 hp (by decide) (by decide +kernel) rfl dX4_goesBefore_36 ?_
    refine q_icmp_ne (tgt := 46) X (hP.tok 3 0 ((C 0 1 j1 - 1).toNat) rfl) (hP.tok 2 2 p0 rfl) dX4_goesBefore_39 (by decide) (fun h_2 => ?_) (fun h_2 => ?_)
    · refine lv_iconst (v := iI (0)) X.1 X.2.1 dX4_goesBefore_46 rfl ?_
      refine lv_istore (lv' := [(4, .int (iI (0))), (0, .ref (ad 4 0)), (1, .ref (ad 0 j1)), (2, .ref (ad 0 j2)), (3, .ref (ad 2 p0))]) X.1 X.2.1 dX4_goesBefore_47 hl (by decide) rfl (fun ls hl => ?_)
      refine lv_aload_n X.1 X.2.1 dX4_goesBefore_49 rfl (lv_at hl 3 rfl) ?_
      refine q_get (index := 215) (v := .ref (ad 3 ((C 0 1 j2 - 1).toNat))) X hP 0 1 j2 rfl rfl (by decide) in0 hj2 (by decide) (by decide +kernel) (q_vnn ad 3 (c_tn hR j2 hj2)) dX4_goesBefore_50 ?_
      refine q_get (index := 219) (v := .int (iI (C 3 0 ((C 0 1 j2 - 1).toNat)))) X hP 3 0 ((C 0 1 j2 - 1).toNat) rfl rfl (by decide) in3 (q_rfl (hP.tok 0 1 j2 rfl) (c_tn hR j2 hj2)) (by decide) (by decide +kernel) rfl dX4_goesBefore_53 ?_
      refine lv_aload_n X.1 X.2.1 dX4_goesBefore_56 rfl (lv_at hl 4 rfl) ?_
      refine q_get (index := 222) (v := .int (iI (C 2 2 p0))) X hP 2 2 p0 rfl rfl (by decide) in2 hp (by decide) (by decide +kernel) rfl dX4_goesBefore_57 ?_
      refine q_icmp_ne (tgt := 67) X (hP.tok 3 0 ((C 0 1 j2 - 1).toNat) rfl) (hP.tok 2 2 p0 rfl) dX4_goesBefore_60 (by decide) (fun h_3 => ?_) (fun h_3 => ?_)
      · refine lv_iconst (v := iI (0)) X.1 X.2.1 dX4_goesBefore_67 rfl ?_
        refine lv_istore (lv' := [(5, .int (iI (0))), (4, .int (iI (0))), (0, .ref (ad 4 0)), (1, .ref (ad 0 j1)), (2, .ref (ad 0 j2)), (3, .ref (ad 2 p0))]) X.1 X.2.1 dX4_goesBefore_68 hl (by decide) rfl (fun ls hl => ?_)
        refine lv_aload_n X.1 X.2.1 dX4_goesBefore_70 rfl (lv_at hl 5 rfl) ?_
        refine q_get (index := 223) (v := .int (iI (C 2 3 p0))) X hP 2 3 p0 rfl rfl (by decide) in2 hp (by decide) (by decide +kernel) rfl dX4_goesBefore_71 ?_
        have f_4 := c_R23 hR p0
        refine lv_aload_n X.1 X.2.1 dX4_goesBefore_74 rfl (lv_at hl 2 rfl) ?_
        refine q_get (index := 34) (v := .int (iI (C 4 9 0))) X hP 4 9 0 rfl rfl (by decide) in4 (c_v4 hC) (by decide) (by decide +kernel) rfl dX4_goesBefore_75 ?_
        refine q_icmp_ge (tgt := 91) X (hP.tok 2 3 p0 rfl) (hP.tok 4 9 0 rfl) dX4_goesBefore_78 (by decide) (fun h_5 => ?_) (fun h_5 => ?_)
        · refine lv_aload_n X.1 X.2.1 dX4_goesBefore_91 rfl (lv_at hl 3 rfl) ?_
          refine q_get (index := 185) (v := .long (jI (C 0 4 j1))) X hP 0 4 j1 rfl rfl (by decide) in0 hj1 (by decide) (by decide +kernel) rfl dX4_goesBefore_92 ?_
          refine lv_aload_n X.1 X.2.1 dX4_goesBefore_95 rfl (lv_at hl 4 rfl) ?_
          refine q_get (index := 185) (v := .long (jI (C 0 4 j2))) X hP 0 4 j2 rfl rfl (by decide) in0 hj2 (by decide) (by decide +kernel) rfl dX4_goesBefore_96 ?_
          refine q_lcmp_ge (tgt := 107) X (hP.tok 0 4 j1 rfl) (hP.tok 0 4 j2 rfl) dX4_goesBefore_99 dX4_goesBefore_100 (by decide) (fun h_6 => ?_) (fun h_6 => ?_)
          · refine lv_iconst (v := iI (0)) X.1 X.2.1 dX4_goesBefore_107 rfl ?_
            exact q_zret X hr hlocks hP hS (z := (0)) (by decide) ⟨rfl, Or.inr ⟨by unfold c_bef c_lk c_tik; omega, rfl⟩⟩ (Nat.le_of_ble_eq_true rfl) (Nat.le_of_ble_eq_true rfl) dX4_goesBefore_108
          · refine lv_iconst (v := iI (1)) X.1 X.2.1 dX4_goesBefore_103 rfl ?_
            refine lv_goto (tgt := 108) X.1 X.2.1 dX4_goesBefore_104 (by decide) ?_
            exact q_zret X hr hlocks hP hS (z := (1)) (by decide) ⟨rfl, Or.inl ⟨by unfold c_bef c_lk c_tik; omega, rfl⟩⟩ (Nat.le_of_ble_eq_true rfl) (Nat.le_of_ble_eq_true rfl) dX4_goesBefore_108
        · refine lv_iload X.1 X.2.1 dX4_goesBefore_81 (lv_at hl 1 rfl) ?_
          refine lv_iload X.1 X.2.1 dX4_goesBefore_83 (lv_at hl 0 rfl) ?_
          refine q_icmp_eq (tgt := 91) X (by decide) (by decide) dX4_goesBefore_85 (by decide) (fun _ => ?_) (fun h => absurd h (by decide))
          refine lv_aload_n X.1 X.2.1 dX4_goesBefore_91 rfl (lv_at hl 3 rfl) ?_
          refine q_get (index := 185) (v := .long (jI (C 0 4 j1))) X hP 0 4 j1 rfl rfl (by decide) in0 hj1 (by decide) (by decide +kernel) rfl dX4_goesBefore_92 ?_
          refine lv_aload_n X.1 X.2.1 dX4_goesBefore_95 rfl (lv_at hl 4 rfl) ?_
          refine q_get (index := 185) (v := .long (jI (C 0 4 j2))) X hP 0 4 j2 rfl rfl (by decide) in0 hj2 (by decide) (by decide +kernel) rfl dX4_goesBefore_96 ?_
          refine q_lcmp_ge (tgt := 107) X (hP.tok 0 4 j1 rfl) (hP.tok 0 4 j2 rfl) dX4_goesBefore_99 dX4_goesBefore_100 (by decide) (fun h_8 => ?_) (fun h_8 => ?_)
          · refine lv_iconst (v := iI (0)) X.1 X.2.1 dX4_goesBefore_107 rfl ?_
            exact q_zret X hr hlocks hP hS (z := (0)) (by decide) ⟨rfl, Or.inr ⟨by unfold c_bef c_lk c_tik; omega, rfl⟩⟩ (Nat.le_of_ble_eq_true rfl) (Nat.le_of_ble_eq_true rfl) dX4_goesBefore_108
          · refine lv_iconst (v := iI (1)) X.1 X.2.1 dX4_goesBefore_103 rfl ?_
            refine lv_goto (tgt := 108) X.1 X.2.1 dX4_goesBefore_104 (by decide) ?_
            exact q_zret X hr hlocks hP hS (z := (1)) (by decide) ⟨rfl, Or.inl ⟨by unfold c_bef c_lk c_tik; omega, rfl⟩⟩ (Nat.le_of_ble_eq_true rfl) (Nat.le_of_ble_eq_true rfl) dX4_goesBefore_108
      · refine lv_iconst (v := iI (1)) X.1 X.2.1 dX4_goesBefore_63 rfl ?_
        refine lv_goto (tgt := 68) X.1 X.2.1 dX4_goesBefore_64 (by decide) ?_
        refine lv_istore (lv' := [(5, .int (iI (1))), (4, .int (iI (0))), (0, .ref (ad 4 0)), (1, .ref (ad 0 j1)), (2, .ref (ad 0 j2)), (3, .ref (ad 2 p0))]) X.1 X.2.1 dX4_goesBefore_68 hl (by decide) rfl (fun ls hl => ?_)
        refine lv_aload_n X.1 X.2.1 dX4_goesBefore_70 rfl (lv_at hl 5 rfl) ?_
        refine q_get (index := 223) (v := .int (iI (C 2 3 p0))) X hP 2 3 p0 rfl rfl (by decide) in2 hp (by decide) (by decide +kernel) rfl dX4_goesBefore_71 ?_
        have f_9 := c_R23 hR p0
        refine lv_aload_n X.1 X.2.1 dX4_goesBefore_74 rfl (lv_at hl 2 rfl) ?_
        refine q_get (index := 34) (v := .int (iI (C 4 9 0))) X hP 4 9 0 rfl rfl (by decide) in4 (c_v4 hC) (by decide) (by decide +kernel) rfl dX4_goesBefore_75 ?_
        refine q_icmp_ge (tgt := 91) X (hP.tok 2 3 p0 rfl) (hP.tok 4 9 0 rfl) dX4_goesBefore_78 (by decide) (fun h_10 => ?_) (fun h_10 => ?_)
        · refine lv_aload_n X.1 X.2.1 dX4_goesBefore_91 rfl (lv_at hl 3 rfl) ?_
          refine q_get (index := 185) (v := .long (jI (C 0 4 j1))) X hP 0 4 j1 rfl rfl (by decide) in0 hj1 (by decide) (by decide +kernel) rfl dX4_goesBefore_92 ?_
          refine lv_aload_n X.1 X.2.1 dX4_goesBefore_95 rfl (lv_at hl 4 rfl) ?_
          refine q_get (index := 185) (v := .long (jI (C 0 4 j2))) X hP 0 4 j2 rfl rfl (by decide) in0 hj2 (by decide) (by decide +kernel) rfl dX4_goesBefore_96 ?_
          refine q_lcmp_ge (tgt := 107) X (hP.tok 0 4 j1 rfl) (hP.tok 0 4 j2 rfl) dX4_goesBefore_99 dX4_goesBefore_100 (by decide) (fun h_11 => ?_) (fun h_11 => ?_)
          · refine lv_iconst (v := iI (0)) X.1 X.2.1 dX4_goesBefore_107 rfl ?_
            exact q_zret X hr hlocks hP hS (z := (0)) (by decide) ⟨rfl, Or.inr ⟨by unfold c_bef c_lk c_tik; omega, rfl⟩⟩ (Nat.le_of_ble_eq_true rfl) (Nat.le_of_ble_eq_true rfl) dX4_goesBefore_108
          · refine lv_iconst (v := iI (1)) X.1 X.2.1 dX4_goesBefore_103 rfl ?_
            refine lv_goto (tgt := 108) X.1 X.2.1 dX4_goesBefore_104 (by decide) ?_
            exact q_zret X hr hlocks hP hS (z := (1)) (by decide) ⟨rfl, Or.inl ⟨by unfold c_bef c_lk c_tik; omega, rfl⟩⟩ (Nat.le_of_ble_eq_true rfl) (Nat.le_of_ble_eq_true rfl) dX4_goesBefore_108
        · refine lv_iload X.1 X.2.1 dX4_goesBefore_81 (lv_at hl 1 rfl) ?_
          refine lv_iload X.1 X.2.1 dX4_goesBefore_83 (lv_at hl 0 rfl) ?_
          refine q_icmp_eq (tgt := 91) X (by decide) (by decide) dX4_goesBefore_85 (by decide) (fun h => absurd h (by decide)) (fun _ => ?_)
          refine lv_iload X.1 X.2.1 dX4_goesBefore_88 (lv_at hl 1 rfl) ?_
          exact q_zret X hr hlocks hP hS (z := (0)) (by decide) ⟨rfl, Or.inr ⟨by unfold c_bef c_lk c_tik; omega, rfl⟩⟩ (Nat.le_of_ble_eq_true rfl) (Nat.le_of_ble_eq_true rfl) dX4_goesBefore_90
    · refine lv_iconst (v := iI (1)) X.1 X.2.1 dX4_goesBefore_42 rfl ?_
      refine lv_goto (tgt := 47) X.1 X.2.1 dX4_goesBefore_43 (by decide) ?_
      refine lv_istore (lv' := [(4, .int (iI (1))), (0, .ref (ad 4 0)), (1, .ref (ad 0 j1)), (2, .ref (ad 0 j2)), (3, .ref (ad 2 p0))]) X.1 X.2.1 dX4_goesBefore_47 hl (by decide) rfl (fun ls hl => ?_)
      refine lv_aload_n X.1 X.2.1 dX4_goesBefore_49 rfl (lv_at hl 3 rfl) ?_
      refine q_get (index := 215) (v := .ref (ad 3 ((C 0 1 j2 - 1).toNat))) X hP 0 1 j2 rfl rfl (by decide) in0 hj2 (by decide) (by decide +kernel) (q_vnn ad 3 (c_tn hR j2 hj2)) dX4_goesBefore_50 ?_
      refine q_get (index := 219) (v := .int (iI (C 3 0 ((C 0 1 j2 - 1).toNat)))) X hP 3 0 ((C 0 1 j2 - 1).toNat) rfl rfl (by decide) in3 (q_rfl (hP.tok 0 1 j2 rfl) (c_tn hR j2 hj2)) (by decide) (by decide +kernel) rfl dX4_goesBefore_53 ?_
      refine lv_aload_n X.1 X.2.1 dX4_goesBefore_56 rfl (lv_at hl 4 rfl) ?_
      refine q_get (index := 222) (v := .int (iI (C 2 2 p0))) X hP 2 2 p0 rfl rfl (by decide) in2 hp (by decide) (by decide +kernel) rfl dX4_goesBefore_57 ?_
      refine q_icmp_ne (tgt := 67) X (hP.tok 3 0 ((C 0 1 j2 - 1).toNat) rfl) (hP.tok 2 2 p0 rfl) dX4_goesBefore_60 (by decide) (fun h_13 => ?_) (fun h_13 => ?_)
      · refine lv_iconst (v := iI (0)) X.1 X.2.1 dX4_goesBefore_67 rfl ?_
        refine lv_istore (lv' := [(5, .int (iI (0))), (4, .int (iI (1))), (0, .ref (ad 4 0)), (1, .ref (ad 0 j1)), (2, .ref (ad 0 j2)), (3, .ref (ad 2 p0))]) X.1 X.2.1 dX4_goesBefore_68 hl (by decide) rfl (fun ls hl => ?_)
        refine lv_aload_n X.1 X.2.1 dX4_goesBefore_70 rfl (lv_at hl 5 rfl) ?_
        refine q_get (index := 223) (v := .int (iI (C 2 3 p0))) X hP 2 3 p0 rfl rfl (by decide) in2 hp (by decide) (by decide +kernel) rfl dX4_goesBefore_71 ?_
        have f_14 := c_R23 hR p0
        refine lv_aload_n X.1 X.2.1 dX4_goesBefore_74 rfl (lv_at hl 2 rfl) ?_
        refine q_get (index := 34) (v := .int (iI (C 4 9 0))) X hP 4 9 0 rfl rfl (by decide) in4 (c_v4 hC) (by decide) (by decide +kernel) rfl dX4_goesBefore_75 ?_
        refine q_icmp_ge (tgt := 91) X (hP.tok 2 3 p0 rfl) (hP.tok 4 9 0 rfl) dX4_goesBefore_78 (by decide) (fun h_15 => ?_) (fun h_15 => ?_)
        · refine lv_aload_n X.1 X.2.1 dX4_goesBefore_91 rfl (lv_at hl 3 rfl) ?_
          refine q_get (index := 185) (v := .long (jI (C 0 4 j1))) X hP 0 4 j1 rfl rfl (by decide) in0 hj1 (by decide) (by decide +kernel) rfl dX4_goesBefore_92 ?_
          refine lv_aload_n X.1 X.2.1 dX4_goesBefore_95 rfl (lv_at hl 4 rfl) ?_
          refine q_get (index := 185) (v := .long (jI (C 0 4 j2))) X hP 0 4 j2 rfl rfl (by decide) in0 hj2 (by decide) (by decide +kernel) rfl dX4_goesBefore_96 ?_
          refine q_lcmp_ge (tgt := 107) X (hP.tok 0 4 j1 rfl) (hP.tok 0 4 j2 rfl) dX4_goesBefore_99 dX4_goesBefore_100 (by decide) (fun h_16 => ?_) (fun h_16 => ?_)
          · refine lv_iconst (v := iI (0)) X.1 X.2.1 dX4_goesBefore_107 rfl ?_
            exact q_zret X hr hlocks hP hS (z := (0)) (by decide) ⟨rfl, Or.inr ⟨by unfold c_bef c_lk c_tik; omega, rfl⟩⟩ (Nat.le_of_ble_eq_true rfl) (Nat.le_of_ble_eq_true rfl) dX4_goesBefore_108
          · refine lv_iconst (v := iI (1)) X.1 X.2.1 dX4_goesBefore_103 rfl ?_
            refine lv_goto (tgt := 108) X.1 X.2.1 dX4_goesBefore_104 (by decide) ?_
            exact q_zret X hr hlocks hP hS (z := (1)) (by decide) ⟨rfl, Or.inl ⟨by unfold c_bef c_lk c_tik; omega, rfl⟩⟩ (Nat.le_of_ble_eq_true rfl) (Nat.le_of_ble_eq_true rfl) dX4_goesBefore_108
        · refine lv_iload X.1 X.2.1 dX4_goesBefore_81 (lv_at hl 1 rfl) ?_
          refine lv_iload X.1 X.2.1 dX4_goesBefore_83 (lv_at hl 0 rfl) ?_
          refine q_icmp_eq (tgt := 91) X (by decide) (by decide) dX4_goesBefore_85 (by decide) (fun h => absurd h (by decide)) (fun _ => ?_)
          refine lv_iload X.1 X.2.1 dX4_goesBefore_88 (lv_at hl 1 rfl) ?_
          exact q_zret X hr hlocks hP hS (z := (1)) (by decide) ⟨rfl, Or.inl ⟨by unfold c_bef c_lk c_tik; omega, rfl⟩⟩ (Nat.le_of_ble_eq_true rfl) (Nat.le_of_ble_eq_true rfl) dX4_goesBefore_90
      · refine lv_iconst (v := iI (1)) X.1 X.2.1 dX4_goesBefore_63 rfl ?_
        refine lv_goto (tgt := 68) X.1 X.2.1 dX4_goesBefore_64 (by decide) ?_
        refine lv_istore (lv' := [(5, .int (iI (1))), (4, .int (iI (1))), (0, .ref (ad 4 0)), (1, .ref (ad 0 j1)), (2, .ref (ad 0 j2)), (3, .ref (ad 2 p0))]) X.1 X.2.1 dX4_goesBefore_68 hl (by decide) rfl (fun ls hl => ?_)
        refine lv_aload_n X.1 X.2.1 dX4_goesBefore_70 rfl (lv_at hl 5 rfl) ?_
        refine q_get (index := 223) (v := .int (iI (C 2 3 p0))) X hP 2 3 p0 rfl rfl (by decide) in2 hp (by decide) (by decide +kernel) rfl dX4_goesBefore_71 ?_
        have f_18 := c_R23 hR p0
        refine lv_aload_n X.1 X.2.1 dX4_goesBefore_74 rfl (lv_at hl 2 rfl) ?_
        refine q_get (index := 34) (v := .int (iI (C 4 9 0))) X hP 4 9 0 rfl rfl (by decide) in4 (c_v4 hC) (by decide) (by decide +kernel) rfl dX4_goesBefore_75 ?_
        refine q_icmp_ge (tgt := 91) X (hP.tok 2 3 p0 rfl) (hP.tok 4 9 0 rfl) dX4_goesBefore_78 (by decide) (fun h_19 => ?_) (fun h_19 => ?_)
        · refine lv_aload_n X.1 X.2.1 dX4_goesBefore_91 rfl (lv_at hl 3 rfl) ?_
          refine q_get (index := 185) (v := .long (jI (C 0 4 j1))) X hP 0 4 j1 rfl rfl (by decide) in0 hj1 (by decide) (by decide +kernel) rfl dX4_goesBefore_92 ?_
          refine lv_aload_n X.1 X.2.1 dX4_goesBefore_95 rfl (lv_at hl 4 rfl) ?_
          refine q_get (index := 185) (v := .long (jI (C 0 4 j2))) X hP 0 4 j2 rfl rfl (by decide) in0 hj2 (by decide) (by decide +kernel) rfl dX4_goesBefore_96 ?_
          refine q_lcmp_ge (tgt := 107) X (hP.tok 0 4 j1 rfl) (hP.tok 0 4 j2 rfl) dX4_goesBefore_99 dX4_goesBefore_100 (by decide) (fun h_20 => ?_) (fun h_20 => ?_)
          · refine lv_iconst (v := iI (0)) X.1 X.2.1 dX4_goesBefore_107 rfl ?_
            exact q_zret X hr hlocks hP hS (z := (0)) (by decide) ⟨rfl, Or.inr ⟨by unfold c_bef c_lk c_tik; omega, rfl⟩⟩ (Nat.le_of_ble_eq_true rfl) (Nat.le_of_ble_eq_true rfl) dX4_goesBefore_108
          · refine lv_iconst (v := iI (1)) X.1 X.2.1 dX4_goesBefore_103 rfl ?_
            refine lv_goto (tgt := 108) X.1 X.2.1 dX4_goesBefore_104 (by decide) ?_
            exact q_zret X hr hlocks hP hS (z := (1)) (by decide) ⟨rfl, Or.inl ⟨by unfold c_bef c_lk c_tik; omega, rfl⟩⟩ (Nat.le_of_ble_eq_true rfl) (Nat.le_of_ble_eq_true rfl) dX4_goesBefore_108
        · refine lv_iload X.1 X.2.1 dX4_goesBefore_81 (lv_at hl 1 rfl) ?_
          refine lv_iload X.1 X.2.1 dX4_goesBefore_83 (lv_at hl 0 rfl) ?_
          refine q_icmp_eq (tgt := 91) X (by decide) (by decide) dX4_goesBefore_85 (by decide) (fun _ => ?_) (fun h => absurd h (by decide))
          refine lv_aload_n X.1 X.2.1 dX4_goesBefore_91 rfl (lv_at hl 3 rfl) ?_
          refine q_get (index := 185) (v := .long (jI (C 0 4 j1))) X hP 0 4 j1 rfl rfl (by decide) in0 hj1 (by decide) (by decide +kernel) rfl dX4_goesBefore_92 ?_
          refine lv_aload_n X.1 X.2.1 dX4_goesBefore_95 rfl (lv_at hl 4 rfl) ?_
          refine q_get (index := 185) (v := .long (jI (C 0 4 j2))) X hP 0 4 j2 rfl rfl (by decide) in0 hj2 (by decide) (by decide +kernel) rfl dX4_goesBefore_96 ?_
          refine q_lcmp_ge (tgt := 107) X (hP.tok 0 4 j1 rfl) (hP.tok 0 4 j2 rfl) dX4_goesBefore_99 dX4_goesBefore_100 (by decide) (fun h_22 => ?_) (fun h_22 => ?_)
          · refine lv_iconst (v := iI (0)) X.1 X.2.1 dX4_goesBefore_107 rfl ?_
            exact q_zret X hr hlocks hP hS (z := (0)) (by decide) ⟨rfl, Or.inr ⟨by unfold c_bef c_lk c_tik; omega, rfl⟩⟩ (Nat.le_of_ble_eq_true rfl) (Nat.le_of_ble_eq_true rfl) dX4_goesBefore_108
          · refine lv_iconst (v := iI (1)) X.1 X.2.1 dX4_goesBefore_103 rfl ?_
            refine lv_goto (tgt := 108) X.1 X.2.1 dX4_goesBefore_104 (by decide) ?_
            exact q_zret X hr hlocks hP hS (z := (1)) (by decide) ⟨rfl, Or.inl ⟨by unfold c_bef c_lk c_tik; omega, rfl⟩⟩ (Nat.le_of_ble_eq_true rfl) (Nat.le_of_ble_eq_true rfl) dX4_goesBefore_108
  · refine lv_aload_n X.1 X.2.1 dX4_goesBefore_11 rfl (lv_at hl 1 rfl) ?_
    refine q_get (index := 212) (v := .int (iI (C 0 3 j1))) X hP 0 3 j1 rfl rfl (by decide) in0 hj1 (by decide) (by decide +kernel) rfl dX4_goesBefore_12 ?_
    refine lv_aload_n X.1 X.2.1 dX4_goesBefore_15 rfl (lv_at hl 2 rfl) ?_
    refine q_get (index := 212) (v := .int (iI (C 0 3 j2))) X hP 0 3 j2 rfl rfl (by decide) in0 hj2 (by decide) (by decide +kernel) rfl dX4_goesBefore_16 ?_
    refine q_icmp_le (tgt := 26) X (hP.tok 0 3 j1 rfl) (hP.tok 0 3 j2 rfl) dX4_goesBefore_19 (by decide) (fun h_23 => ?_) (fun h_23 => ?_)
    · refine lv_iconst (v := iI (0)) X.1 X.2.1 dX4_goesBefore_26 rfl ?_
      exact q_zret X hr hlocks hP hS (z := (0)) (by decide) ⟨rfl, Or.inr ⟨by unfold c_bef c_lk c_tik; omega, rfl⟩⟩ (Nat.le_of_ble_eq_true rfl) (Nat.le_of_ble_eq_true rfl) dX4_goesBefore_27
    · refine lv_iconst (v := iI (1)) X.1 X.2.1 dX4_goesBefore_22 rfl ?_
      refine lv_goto (tgt := 27) X.1 X.2.1 dX4_goesBefore_23 (by decide) ?_
      exact q_zret X hr hlocks hP hS (z := (1)) (by decide) ⟨rfl, Or.inl ⟨by unfold c_bef c_lk c_tik; omega, rfl⟩⟩ (Nat.le_of_ble_eq_true rfl) (Nat.le_of_ble_eq_true rfl) dX4_goesBefore_27
def tX4_bringTo (n : Nat → Nat) (ad : Nat → Nat → Nat) (C : q_S) (p0 i : Nat) (u : q_U) : Prop :=
  (((C 3 0 ((C 0 1 ((C 1 0 i - 1).toNat) - 1).toNat)) = (C 2 2 p0)) ∧ u = (n, ad, q_up (q_up (q_up (q_up C 2 3 p0 (((C 2 3 p0) + (1)))) 1 3 i ((1))) 2 4 p0 (((i : Nat) : Int) + 1)) 2 5 p0 ((1)))) ∨
  ((¬ (C 3 0 ((C 0 1 ((C 1 0 i - 1).toNat) - 1).toNat)) = (C 2 2 p0)) ∧ u = (n, ad, q_up (q_up (q_up (q_up (q_up (q_up C 2 2 p0 ((C 3 0 ((C 0 1 ((C 1 0 i - 1).toNat) - 1).toNat)))) 2 3 p0 ((0))) 3 4 ((C 0 1 ((C 1 0 i - 1).toNat) - 1).toNat) (((C 3 4 ((C 0 1 ((C 1 0 i - 1).toNat) - 1).toNat)) + (1)))) 1 3 i ((1))) 2 4 p0 (((i : Nat) : Int) + 1)) 2 5 p0 ((1))))
set_option maxHeartbeats 4000000 in
set_option maxRecDepth 100000 in
theorem c_X4_bringTo (l : Launch) (g : q_G) (s0 : Nat) (n : Nat → Nat) (ad : Nat → Nat → Nat) (C : q_S) (c0 : Nat) (hR : c_R C n c0) (hc0 : c0 ≤ 600) (p0 : Nat) (hp : p0 < n 2) (i : Nat) (hi : i < n 1) : Met l yX4_bringTo wsX4_bringTo ({ frames := 0, cells := 0, slots := 0, locals := 0 }) (va_Pc [.ref (ad 2 p0), .ref (ad 1 i)] (q_B g s0 (n, ad, C))) (va_Qv (tX4_bringTo n ad C p0 i) (q_B g s0) (q_A s0)) 0 0 (q_A s0) := by
  refine Met.ofW (cc := cX4_bringTo) (maxL := 3) (ret := none) (by decide) rfl ?_
  intro p e s m args below meth c s₁ B hml hv
  obtain ⟨rfl, hv⟩ := hv
  have hr := B.returns
  have hlocks := B.notSynchronized
  obtain ⟨X, hP⟩ := q_start B.exec B.bytes hml (show s.vm.findClass RX4 = some m.cls from findClass_of_methodNamed B.named) (atoms_spec (ws := wsX4_bringTo) B.pre) hv
  have hP : q_P g s0 n ad C s.heap := hP
  have hS : va_S (q_A s0) s.heap s.heap [] := va_S.rf
  have in0 : ∀ w ∈ wsX00, w ∈ wsX4_bringTo := by decide +kernel
  have in1 : ∀ w ∈ wsX10, w ∈ wsX4_bringTo := by decide +kernel
  have in2 : ∀ w ∈ wsX20, w ∈ wsX4_bringTo := by decide +kernel
  have in3 : ∀ w ∈ wsX30, w ∈ wsX4_bringTo := by decide +kernel
  have hl := lv_entry ([.ref (ad 2 p0), .ref (ad 1 i)]) (n := 3) (Nat.le_of_ble_eq_true rfl)
  rw [lg_entry_eq]
  generalize (lg_sl ([.ref (ad 2 p0), .ref (ad 1 i)]) ++ List.replicate (3 - (lg_sl ([.ref (ad 2 p0), .ref (ad 1 i)])).length) Slot.unset).toArray = ls at hl ⊢
  have hl : lv_has ls 3 [(0, .ref (ad 2 p0)), (1, .ref (ad 1 i))] := hl
  refine lv_aload_n X.1 X.2.1 dX4_bringTo_0 rfl (lv_at hl 1 rfl) ?_
  refine q_get (index := 101) (v := .ref (ad 0 ((C 1 0 i - 1).toNat))) X hP 1 0 i rfl rfl (by decide) in1 hi (by decide) (by decide +kernel) (q_vnn ad 0 (c_jn hR i hi)) dX4_bringTo_1 ?_
  refine q_get (index := 215) (v := .ref (ad 3 ((C 0 1 ((C 1 0 i - 1).toNat) - 1).toNat))) X hP 0 1 ((C 1 0 i - 1).toNat) rfl rfl (by decide) in0 (q_rfl (hP.tok 1 0 i rfl) (c_jn hR i hi)) (by decide) (by decide +kernel) (q_vnn ad 3 (c_tn hR ((C 1 0 i - 1).toNat) (q_rfl (hP.tok 1 0 i rfl) (c_jn hR i hi)))) dX4_bringTo_4 ?_
  refine lv_astore_n (lv' := [(2, .ref (ad 3 ((C 0 1 ((C 1 0 i - 1).toNat) - 1).toNat))), (0, .ref (ad 2 p0)), (1, .ref (ad 1 i))]) X.1 X.2.1 dX4_bringTo_7 rfl hl (by decide) rfl (fun ls hl => ?_)
  refine lv_aload_n X.1 X.2.1 dX4_bringTo_8 rfl (lv_at hl 0 rfl) ?_
  refine q_get (index := 219) (v := .int (iI (C 3 0 ((C 0 1 ((C 1 0 i - 1).toNat) - 1).toNat)))) X hP 3 0 ((C 0 1 ((C 1 0 i - 1).toNat) - 1).toNat) rfl rfl (by decide) in3 (q_rfl (hP.tok 0 1 ((C 1 0 i - 1).toNat) rfl) (c_tn hR ((C 1 0 i - 1).toNat) (q_rfl (hP.tok 1 0 i rfl) (c_jn hR i hi)))) (by decide) (by decide +kernel) rfl dX4_bringTo_9 ?_
  refine lv_aload_n X.1 X.2.1 dX4_bringTo_12 rfl (lv_at hl 1 rfl) ?_
  refine q_get (index := 222) (v := .int (iI (C 2 2 p0))) X hP 2 2 p0 rfl rfl (by decide) in2 hp (by decide) (by decide +kernel) rfl dX4_bringTo_13 ?_
  refine q_icmp_eq (tgt := 45) X (hP.tok 3 0 ((C 0 1 ((C 1 0 i - 1).toNat) - 1).toNat) rfl) (hP.tok 2 2 p0 rfl) dX4_bringTo_16 (by decide) (fun h_1 => ?_) (fun h_1 => ?_)
  · refine lv_aload_n X.1 X.2.1 dX4_bringTo_45 rfl (lv_at hl 1 rfl) ?_
    refine lv_dup X.1 X.2.1 dX4_bringTo_46 rfl ?_
    refine q_get (index := 223) (v := .int (iI (C 2 3 p0))) X hP 2 3 p0 rfl rfl (by decide) in2 hp (by decide) (by decide +kernel) rfl dX4_bringTo_47 ?_
    have f_2 := c_R23 hR p0
    refine lv_iconst (v := iI (1)) X.1 X.2.1 dX4_bringTo_50 rfl ?_
    refine q_iadd X dX4_bringTo_51 ?_
    refine q_put (index := 223) (v := .int (iI ((C 2 3 p0) + (1)))) X hP hS 2 3 p0 (((C 2 3 p0) + (1))) rfl rfl (by decide) in2 tyX2 tyX2_ok nmX2 hp (by decide) (by decide +kernel) rfl rfl rfl rfl (show R32 _ from (by omega)) dX4_bringTo_52 (fun H locs hP hS => ?_)
    have hP : q_P g s0 n ad (q_up C 2 3 p0 (((C 2 3 p0) + (1)))) H := hP
    refine lv_aload_n X.1 X.2.1 dX4_bringTo_55 rfl (lv_at hl 2 rfl) ?_
    refine lv_iconst (v := iI (1)) X.1 X.2.1 dX4_bringTo_56 rfl ?_
    refine q_put (index := 119) (v := .int (iI (1))) X hP hS 1 3 i ((1)) rfl rfl (by decide) in1 tyX1 tyX1_ok nmX1 hi (by decide) (by decide +kernel) rfl rfl rfl rfl (show R32 _ from (by decide)) dX4_bringTo_57 (fun H locs hP hS => ?_)
    have hP : q_P g s0 n ad (q_up (q_up C 2 3 p0 (((C 2 3 p0) + (1)))) 1 3 i ((1))) H := hP
    refine lv_aload_n X.1 X.2.1 dX4_bringTo_60 rfl (lv_at hl 1 rfl) ?_
    refine lv_aload_n X.1 X.2.1 dX4_bringTo_61 rfl (lv_at hl 2 rfl) ?_
    refine q_put (index := 87) (v := .ref (ad 1 i)) X hP hS 2 4 p0 (((i : Nat) : Int) + 1) rfl rfl (by decide) in2 tyX2 tyX2_ok nmX2 hp (by decide) (by decide +kernel) rfl (q_v2 ad 1 i) rfl rfl (q_t2 hi) dX4_bringTo_62 (fun H locs hP hS => ?_)
    have hP : q_P g s0 n ad (q_up (q_up (q_up C 2 3 p0 (((C 2 3 p0) + (1)))) 1 3 i ((1))) 2 4 p0 (((i : Nat) : Int) + 1)) H := hP
    refine lv_aload_n X.1 X.2.1 dX4_bringTo_65 rfl (lv_at hl 1 rfl) ?_
    refine lv_iconst (v := iI (1)) X.1 X.2.1 dX4_bringTo_66 rfl ?_
    refine q_put (index := 226) (v := .int (iI (1))) X hP hS 2 5 p0 ((1)) rfl rfl (by decide) in2 tyX2 tyX2_ok nmX2 hp (by decide) (by decide +kernel) rfl rfl (q_zn (Or.inr rfl)) (q_zf (Or.inr rfl)) (Or.inr rfl) dX4_bringTo_67 (fun H locs hP hS => ?_)
    have hP : q_P g s0 n ad (q_up (q_up (q_up (q_up C 2 3 p0 (((C 2 3 p0) + (1)))) 1 3 i ((1))) 2 4 p0 (((i : Nat) : Int) + 1)) 2 5 p0 ((1))) H := hP
    exact q_vret X hr hlocks hP hS (Or.inl (⟨h_1, rfl⟩)) (Nat.le_of_ble_eq_true rfl) (Nat.le_of_ble_eq_true rfl) dX4_bringTo_70
  · refine lv_aload_n X.1 X.2.1 dX4_bringTo_19 rfl (lv_at hl 1 rfl) ?_
    refine lv_aload_n X.1 X.2.1 dX4_bringTo_20 rfl (lv_at hl 0 rfl) ?_
    refine q_get (index := 219) (v := .int (iI (C 3 0 ((C 0 1 ((C 1 0 i - 1).toNat) - 1).toNat)))) X hP 3 0 ((C 0 1 ((C 1 0 i - 1).toNat) - 1).toNat) rfl rfl (by decide) in3 (q_rfl (hP.tok 0 1 ((C 1 0 i - 1).toNat) rfl) (c_tn hR ((C 1 0 i - 1).toNat) (q_rfl (hP.tok 1 0 i rfl) (c_jn hR i hi)))) (by decide) (by decide +kernel) rfl dX4_bringTo_21 ?_
    refine q_put (index := 222) (v := .int (iI (C 3 0 ((C 0 1 ((C 1 0 i - 1).toNat) - 1).toNat)))) X hP hS 2 2 p0 ((C 3 0 ((C 0 1 ((C 1 0 i - 1).toNat) - 1).toNat))) rfl rfl (by decide) in2 tyX2 tyX2_ok nmX2 hp (by decide) (by decide +kernel) rfl rfl rfl rfl (show R32 _ from (hP.tok 3 0 ((C 0 1 ((C 1 0 i - 1).toNat) - 1).toNat) rfl)) dX4_bringTo_24 (fun H locs hP hS => ?_)
    have hP : q_P g s0 n ad (q_up C 2 2 p0 ((C 3 0 ((C 0 1 ((C 1 0 i - 1).toNat) - 1).toNat)))) H := hP
    refine lv_aload_n X.1 X.2.1 dX4_bringTo_27 rfl (lv_at hl 1 rfl) ?_
    refine lv_iconst (v := iI (0)) X.1 X.2.1 dX4_bringTo_28 rfl ?_
    refine q_put (index := 223) (v := .int (iI (0))) X hP hS 2 3 p0 ((0)) rfl rfl (by decide) in2 tyX2 tyX2_ok nmX2 hp (by decide) (by decide +kernel) rfl rfl rfl rfl (show R32 _ from (by decide)) dX4_bringTo_29 (fun H locs hP hS => ?_)
    have hP : q_P g s0 n ad (q_up (q_up C 2 2 p0 ((C 3 0 ((C 0 1 ((C 1 0 i - 1).toNat) - 1).toNat)))) 2 3 p0 ((0))) H := hP
    refine lv_aload_n X.1 X.2.1 dX4_bringTo_32 rfl (lv_at hl 0 rfl) ?_
    refine lv_dup X.1 X.2.1 dX4_bringTo_33 rfl ?_
    refine q_get (index := 175) (v := .long (jI (C 3 4 ((C 0 1 ((C 1 0 i - 1).toNat) - 1).toNat)))) X hP 3 4 ((C 0 1 ((C 1 0 i - 1).toNat) - 1).toNat) rfl rfl (by decide) in3 (q_rfl (hP.tok 0 1 ((C 1 0 i - 1).toNat) rfl) (c_tn hR ((C 1 0 i - 1).toNat) (q_rfl (hP.tok 1 0 i rfl) (c_jn hR i hi)))) (by decide) (by decide +kernel) rfl dX4_bringTo_34 ?_
    have f_3 := c_R3 hR 4 ((C 0 1 ((C 1 0 i - 1).toNat) - 1).toNat) (by decide) (by decide)
    refine lv_lconst (v := jI (1)) X.1 X.2.1 dX4_bringTo_37 (by decide) ?_
    refine q_ladd X dX4_bringTo_38 ?_
    refine q_put (index := 175) (v := .long (jI ((C 3 4 ((C 0 1 ((C 1 0 i - 1).toNat) - 1).toNat)) + (1)))) X hP hS 3 4 ((C 0 1 ((C 1 0 i - 1).toNat) - 1).toNat) (((C 3 4 ((C 0 1 ((C 1 0 i - 1).toNat) - 1).toNat)) + (1))) rfl rfl (by decide) in3 tyX3 tyX3_ok nmX3 (q_rfl (hP.tok 0 1 ((C 1 0 i - 1).toNat) rfl) (c_tn hR ((C 1 0 i - 1).toNat) (q_rfl (hP.tok 1 0 i rfl) (c_jn hR i hi)))) (by decide) (by decide +kernel) rfl rfl rfl rfl (show R64 _ from (by omega)) dX4_bringTo_39 (fun H locs hP hS => ?_)
    have hP : q_P g s0 n ad (q_up (q_up (q_up C 2 2 p0 ((C 3 0 ((C 0 1 ((C 1 0 i - 1).toNat) - 1).toNat)))) 2 3 p0 ((0))) 3 4 ((C 0 1 ((C 1 0 i - 1).toNat) - 1).toNat) (((C 3 4 ((C 0 1 ((C 1 0 i - 1).toNat) - 1).toNat)) + (1)))) H := hP
    refine lv_goto (tgt := 55) X.1 X.2.1 dX4_bringTo_42 (by decide) ?_
    refine lv_aload_n X.1 X.2.1 dX4_bringTo_55 rfl (lv_at hl 2 rfl) ?_
    refine lv_iconst (v := iI (1)) X.1 X.2.1 dX4_bringTo_56 rfl ?_
    refine q_put (index := 119) (v := .int (iI (1))) X hP hS 1 3 i ((1)) rfl rfl (by decide) in1 tyX1 tyX1_ok nmX1 hi (by decide) (by decide +kernel) rfl rfl rfl rfl (show R32 _ from (by decide)) dX4_bringTo_57 (fun H locs hP hS => ?_)
    have hP : q_P g s0 n ad (q_up (q_up (q_up (q_up C 2 2 p0 ((C 3 0 ((C 0 1 ((C 1 0 i - 1).toNat) - 1).toNat)))) 2 3 p0 ((0))) 3 4 ((C 0 1 ((C 1 0 i - 1).toNat) - 1).toNat) (((C 3 4 ((C 0 1 ((C 1 0 i - 1).toNat) - 1).toNat)) + (1)))) 1 3 i ((1))) H := hP
    refine lv_aload_n X.1 X.2.1 dX4_bringTo_60 rfl (lv_at hl 1 rfl) ?_
    refine lv_aload_n X.1 X.2.1 dX4_bringTo_61 rfl (lv_at hl 2 rfl) ?_
    refine q_put (index := 87) (v := .ref (ad 1 i)) X hP hS 2 4 p0 (((i : Nat) : Int) + 1) rfl rfl (by decide) in2 tyX2 tyX2_ok nmX2 hp (by decide) (by decide +kernel) rfl (q_v2 ad 1 i) rfl rfl (q_t2 hi) dX4_bringTo_62 (fun H locs hP hS => ?_)
    have hP : q_P g s0 n ad (q_up (q_up (q_up (q_up (q_up C 2 2 p0 ((C 3 0 ((C 0 1 ((C 1 0 i - 1).toNat) - 1).toNat)))) 2 3 p0 ((0))) 3 4 ((C 0 1 ((C 1 0 i - 1).toNat) - 1).toNat) (((C 3 4 ((C 0 1 ((C 1 0 i - 1).toNat) - 1).toNat)) + (1)))) 1 3 i ((1))) 2 4 p0 (((i : Nat) : Int) + 1)) H := hP
    refine lv_aload_n X.1 X.2.1 dX4_bringTo_65 rfl (lv_at hl 1 rfl) ?_
    refine lv_iconst (v := iI (1)) X.1 X.2.1 dX4_bringTo_66 rfl ?_
    refine q_put (index := 226) (v := .int (iI (1))) X hP hS 2 5 p0 ((1)) rfl rfl (by decide) in2 tyX2 tyX2_ok nmX2 hp (by decide) (by decide +kernel) rfl rfl (q_zn (Or.inr rfl)) (q_zf (Or.inr rfl)) (Or.inr rfl) dX4_bringTo_67 (fun H locs hP hS => ?_)
    have hP : q_P g s0 n ad (q_up (q_up (q_up (q_up (q_up (q_up C 2 2 p0 ((C 3 0 ((C 0 1 ((C 1 0 i - 1).toNat) - 1).toNat)))) 2 3 p0 ((0))) 3 4 ((C 0 1 ((C 1 0 i - 1).toNat) - 1).toNat) (((C 3 4 ((C 0 1 ((C 1 0 i - 1).toNat) - 1).toNat)) + (1)))) 1 3 i ((1))) 2 4 p0 (((i : Nat) : Int) + 1)) 2 5 p0 ((1))) H := hP
    exact q_vret X hr hlocks hP hS (Or.inr (⟨h_1, rfl⟩)) (Nat.le_of_ble_eq_true rfl) (Nat.le_of_ble_eq_true rfl) dX4_bringTo_70
set_option maxHeartbeats 4000000 in
set_option maxRecDepth 100000 in
theorem c_X4_sheetsOfTwoSides (l : Launch) (g : q_G) (s0 : Nat) (n : Nat → Nat) (ad : Nat → Nat → Nat) (C : q_S) (a b d : Int) (ha : 0 ≤ a ∧ a ≤ 1000) (hb : 0 ≤ b ∧ b ≤ 1000) (hd : d = 0 ∨ d = 1) : Met l yX4_sheetsOfTwoSides wsX4_sheetsOfTwoSides ({ frames := 0, cells := 0, slots := 0, locals := 0 }) (va_Pc [.int (iI a), .int (iI b), .int (iI d)] (q_B g s0 (n, ad, C))) (va_Qi (fun r u => u = (n, ad, C) ∧ r = iI (c_sh2 a b d)) (q_B g s0) (q_A s0)) 0 0 (q_A s0) := by
  refine Met.ofW (cc := cX4_sheetsOfTwoSides) (maxL := 5) (ret := (some .int)) (by decide) rfl ?_
  intro p e s m args below meth c s₁ B hml hv
  obtain ⟨rfl, hv⟩ := hv
  have hr := B.returns
  have hlocks := B.notSynchronized
  obtain ⟨X, hP⟩ := q_start B.exec B.bytes hml (show s.vm.findClass RX4 = some m.cls from findClass_of_methodNamed B.named) (atoms_spec (ws := wsX4_sheetsOfTwoSides) B.pre) hv
  have hP : q_P g s0 n ad C s.heap := hP
  have hS : va_S (q_A s0) s.heap s.heap [] := va_S.rf
  have hl := lv_entry ([.int (iI a), .int (iI b), .int (iI d)]) (n := 5) (Nat.le_of_ble_eq_true rfl)
  rw [lg_entry_eq]
  generalize (lg_sl ([.int (iI a), .int (iI b), .int (iI d)]) ++ List.replicate (5 - (lg_sl ([.int (iI a), .int (iI b), .int (iI d)])).length) Slot.unset).toArray = ls at hl ⊢
  have hl : lv_has ls 5 [(0, .int (iI a)), (1, .int (iI b)), (2, .int (iI d))] := hl
  refine lv_iload_n X.1 X.2.1 dX4_sheetsOfTwoSides_0 rfl (lv_at hl 0 rfl) ?_
  refine lv_iload_n X.1 X.2.1 dX4_sheetsOfTwoSides_1 rfl (lv_at hl 1 rfl) ?_
  refine q_iadd X dX4_sheetsOfTwoSides_2 ?_
  refine lv_iconst (v := iI (1)) X.1 X.2.1 dX4_sheetsOfTwoSides_3 rfl ?_
  refine q_iadd X dX4_sheetsOfTwoSides_4 ?_
  refine lv_iconst (v := iI (2)) X.1 X.2.1 dX4_sheetsOfTwoSides_5 rfl ?_
  refine q_idiv X (by omega) (by decide) dX4_sheetsOfTwoSides_6 ?_
  refine lv_iload_n X.1 X.2.1 dX4_sheetsOfTwoSides_7 rfl (lv_at hl 0 rfl) ?_
  refine lv_iconst (v := iI (1)) X.1 X.2.1 dX4_sheetsOfTwoSides_8 rfl ?_
  refine q_iadd X dX4_sheetsOfTwoSides_9 ?_
  refine lv_iconst (v := iI (2)) X.1 X.2.1 dX4_sheetsOfTwoSides_10 rfl ?_
  refine q_idiv X (by omega) (by decide) dX4_sheetsOfTwoSides_11 ?_
  refine q_isub X dX4_sheetsOfTwoSides_12 ?_
  refine lv_istore_n (lv' := [(3, .int (iI ((((a + b) + (1)) / (2)) - ((a + (1)) / (2))))), (0, .int (iI a)), (1, .int (iI b)), (2, .int (iI d))]) X.1 X.2.1 dX4_sheetsOfTwoSides_13 rfl hl (by decide) rfl (fun ls hl => ?_)
  refine lv_iload_n X.1 X.2.1 dX4_sheetsOfTwoSides_14 rfl (lv_at hl 1 rfl) ?_
  refine lv_iconst (v := iI (2)) X.1 X.2.1 dX4_sheetsOfTwoSides_15 rfl ?_
  refine q_irem X (by omega) (by decide) dX4_sheetsOfTwoSides_16 ?_
  refine lv_iconst (v := iI (1)) X.1 X.2.1 dX4_sheetsOfTwoSides_17 rfl ?_
  refine q_icmp_ne (tgt := 25) X (by omega) (by decide) dX4_sheetsOfTwoSides_18 (by decide) (fun h_1 => ?_) (fun h_1 => ?_)
  · refine lv_iconst (v := iI (0)) X.1 X.2.1 dX4_sheetsOfTwoSides_25 rfl ?_
    refine lv_istore (lv' := [(4, .int (iI (0))), (3, .int (iI ((((a + b) + (1)) / (2)) - ((a + (1)) / (2))))), (0, .int (iI a)), (1, .int (iI b)), (2, .int (iI d))]) X.1 X.2.1 dX4_sheetsOfTwoSides_26 hl (by decide) rfl (fun ls hl => ?_)
    refine lv_iload_n X.1 X.2.1 dX4_sheetsOfTwoSides_28 rfl (lv_at hl 4 rfl) ?_
    refine q_if_eq (tgt := 43) X (q_b32 hd) dX4_sheetsOfTwoSides_29 (by decide) (fun h_2 => ?_) (fun h_2 => ?_)
    · refine lv_iload_n X.1 X.2.1 dX4_sheetsOfTwoSides_43 rfl (lv_at hl 1 rfl) ?_
      exact q_iret X hr hlocks hP hS ⟨rfl, congrArg iI (by unfold c_sh2; first | (rw [if_pos ⟨by omega, by omega⟩]; done) | (rw [if_neg (fun q => by obtain ⟨q1, q2⟩ := q; omega)]; done))⟩ (Nat.le_of_ble_eq_true rfl) (Nat.le_of_ble_eq_true rfl) dX4_sheetsOfTwoSides_44
    · refine lv_iload X.1 X.2.1 dX4_sheetsOfTwoSides_32 (lv_at hl 0 rfl) ?_
      refine q_if_eq (tgt := 43) X (by decide) dX4_sheetsOfTwoSides_34 (by decide) (fun _ => ?_) (fun h => absurd h (by decide))
      refine lv_iload_n X.1 X.2.1 dX4_sheetsOfTwoSides_43 rfl (lv_at hl 1 rfl) ?_
      exact q_iret X hr hlocks hP hS ⟨rfl, congrArg iI (by unfold c_sh2; first | (rw [if_pos ⟨by omega, by omega⟩]; done) | (rw [if_neg (fun q => by obtain ⟨q1, q2⟩ := q; omega)]; done))⟩ (Nat.le_of_ble_eq_true rfl) (Nat.le_of_ble_eq_true rfl) dX4_sheetsOfTwoSides_44
  · refine lv_iconst (v := iI (1)) X.1 X.2.1 dX4_sheetsOfTwoSides_21 rfl ?_
    refine lv_goto (tgt := 26) X.1 X.2.1 dX4_sheetsOfTwoSides_22 (by decide) ?_
    refine lv_istore (lv' := [(4, .int (iI (1))), (3, .int (iI ((((a + b) + (1)) / (2)) - ((a + (1)) / (2))))), (0, .int (iI a)), (1, .int (iI b)), (2, .int (iI d))]) X.1 X.2.1 dX4_sheetsOfTwoSides_26 hl (by decide) rfl (fun ls hl => ?_)
    refine lv_iload_n X.1 X.2.1 dX4_sheetsOfTwoSides_28 rfl (lv_at hl 4 rfl) ?_
    refine q_if_eq (tgt := 43) X (q_b32 hd) dX4_sheetsOfTwoSides_29 (by decide) (fun h_4 => ?_) (fun h_4 => ?_)
    · refine lv_iload_n X.1 X.2.1 dX4_sheetsOfTwoSides_43 rfl (lv_at hl 1 rfl) ?_
      exact q_iret X hr hlocks hP hS ⟨rfl, congrArg iI (by unfold c_sh2; first | (rw [if_pos ⟨by omega, by omega⟩]; done) | (rw [if_neg (fun q => by obtain ⟨q1, q2⟩ := q; omega)]; done))⟩ (Nat.le_of_ble_eq_true rfl) (Nat.le_of_ble_eq_true rfl) dX4_sheetsOfTwoSides_44
    · refine lv_iload X.1 X.2.1 dX4_sheetsOfTwoSides_32 (lv_at hl 0 rfl) ?_
      refine q_if_eq (tgt := 43) X (by decide) dX4_sheetsOfTwoSides_34 (by decide) (fun h => absurd h (by decide)) (fun _ => ?_)
      refine lv_iload_n X.1 X.2.1 dX4_sheetsOfTwoSides_37 rfl (lv_at hl 1 rfl) ?_
      refine lv_iconst (v := iI (1)) X.1 X.2.1 dX4_sheetsOfTwoSides_38 rfl ?_
      refine q_iadd X dX4_sheetsOfTwoSides_39 ?_
      refine lv_goto (tgt := 44) X.1 X.2.1 dX4_sheetsOfTwoSides_40 (by decide) ?_
      exact q_iret X hr hlocks hP hS ⟨rfl, congrArg iI (by unfold c_sh2; first | (rw [if_pos ⟨by omega, by omega⟩]; done) | (rw [if_neg (fun q => by obtain ⟨q1, q2⟩ := q; omega)]; done))⟩ (Nat.le_of_ble_eq_true rfl) (Nat.le_of_ble_eq_true rfl) dX4_sheetsOfTwoSides_44
def tX4_doubleLastPage (n : Nat → Nat) (ad : Nat → Nat → Nat) (C : q_S) (i : Nat) (u : q_U) : Prop :=
  (((256) ≤ (C 4 8 0)) ∧ u = (n, ad, q_up (q_up C 1 5 i (((C 1 5 i) - (1)))) 3 5 ((C 0 1 ((C 1 0 i - 1).toNat) - 1).toNat) (((C 3 5 ((C 0 1 ((C 1 0 i - 1).toNat) - 1).toNat)) + (1))))) ∨
  (((C 4 8 0) < (256)) ∧ u = (n, ad, q_up (q_up (q_up (q_up (q_up C 9 (((C 4 8 0)).toNat) 0 ((C 0 0 ((C 1 0 i - 1).toNat)))) 10 (((C 4 8 0)).toNat) 0 ((((1000) * ((C 1 4 i) + (1))) + (C 1 5 i)))) 4 8 0 (((C 4 8 0) + (1)))) 1 5 i (((C 1 5 i) - (1)))) 3 5 ((C 0 1 ((C 1 0 i - 1).toNat) - 1).toNat) (((C 3 5 ((C 0 1 ((C 1 0 i - 1).toNat) - 1).toNat)) + (1)))))
set_option maxHeartbeats 4000000 in
set_option maxRecDepth 100000 in
theorem c_X4_doubleLastPage (l : Launch) (g : q_G) (s0 : Nat) (n : Nat → Nat) (ad : Nat → Nat → Nat) (C : q_S) (c0 : Nat) (hC : c_S C n) (hR : c_R C n c0) (hc0 : c0 ≤ 600) (i : Nat) (hi : i < n 1) : Met l yX4_doubleLastPage wsX4_doubleLastPage ({ frames := 0, cells := 0, slots := 0, locals := 0 }) (va_Pc [.ref (ad 4 0), .ref (ad 1 i)] (q_B g s0 (n, ad, C))) (va_Qv (tX4_doubleLastPage n ad C i) (q_B g s0) (q_A s0)) 0 0 (q_A s0) := by
  refine Met.ofW (cc := cX4_doubleLastPage) (maxL := 2) (ret := none) (by decide) rfl ?_
  intro p e s m args below meth c s₁ B hml hv
  obtain ⟨rfl, hv⟩ := hv
  have hr := B.returns
  have hlocks := B.notSynchronized
  obtain ⟨X, hP⟩ := q_start B.exec B.bytes hml (show s.vm.findClass RX4 = some m.cls from findClass_of_methodNamed B.named) (atoms_spec (ws := wsX4_doubleLastPage) B.pre) hv
  have hP : q_P g s0 n ad C s.heap := hP
  have hS : va_S (q_A s0) s.heap s.heap [] := va_S.rf
  have in0 : ∀ w ∈ wsX00, w ∈ wsX4_doubleLastPage := by decide +kernel
  have in1 : ∀ w ∈ wsX10, w ∈ wsX4_doubleLastPage := by decide +kernel
  have in3 : ∀ w ∈ wsX30, w ∈ wsX4_doubleLastPage := by decide +kernel
  have in4 : ∀ w ∈ wsX40, w ∈ wsX4_doubleLastPage := by decide +kernel
  have hl := lv_entry ([.ref (ad 4 0), .ref (ad 1 i)]) (n := 2) (Nat.le_of_ble_eq_true rfl)
  rw [lg_entry_eq]
  generalize (lg_sl ([.ref (ad 4 0), .ref (ad 1 i)]) ++ List.replicate (2 - (lg_sl ([.ref (ad 4 0), .ref (ad 1 i)])).length) Slot.unset).toArray = ls at hl ⊢
  have hl : lv_has ls 2 [(0, .ref (ad 4 0)), (1, .ref (ad 1 i))] := hl
  refine lv_aload_n X.1 X.2.1 dX4_doubleLastPage_0 rfl (lv_at hl 0 rfl) ?_
  refine q_get (index := 166) (v := .int (iI (C 4 8 0))) X hP 4 8 0 rfl rfl (by decide) in4 (c_v4 hC) (by decide) (by decide +kernel) rfl dX4_doubleLastPage_1 ?_
  have f_1 := c_Rd hR
  refine lv_sipush (v := iI (256)) X.1 X.2.1 dX4_doubleLastPage_4 (by decide) ?_
  refine q_icmp_ge (tgt := 60) X (hP.tok 4 8 0 rfl) (by decide) dX4_doubleLastPage_7 (by decide) (fun h_2 => ?_) (fun h_2 => ?_)
  · refine lv_aload_n X.1 X.2.1 dX4_doubleLastPage_60 rfl (lv_at hl 1 rfl) ?_
    refine lv_dup X.1 X.2.1 dX4_doubleLastPage_61 rfl ?_
    refine q_get (index := 122) (v := .int (iI (C 1 5 i))) X hP 1 5 i rfl rfl (by decide) in1 hi (by decide) (by decide +kernel) rfl dX4_doubleLastPage_62 ?_
    have f_3 := c_R15 hR i
    refine lv_iconst (v := iI (1)) X.1 X.2.1 dX4_doubleLastPage_65 rfl ?_
    refine q_isub X dX4_doubleLastPage_66 ?_
    refine q_put (index := 122) (v := .int (iI ((C 1 5 i) - (1)))) X hP hS 1 5 i (((C 1 5 i) - (1))) rfl rfl (by decide) in1 tyX1 tyX1_ok nmX1 hi (by decide) (by decide +kernel) rfl rfl rfl rfl (show R32 _ from (by omega)) dX4_doubleLastPage_67 (fun H locs hP hS => ?_)
    have hP : q_P g s0 n ad (q_up C 1 5 i (((C 1 5 i) - (1)))) H := hP
    refine lv_aload_n X.1 X.2.1 dX4_doubleLastPage_70 rfl (lv_at hl 1 rfl) ?_
    refine q_get (index := 101) (v := .ref (ad 0 ((C 1 0 i - 1).toNat))) X hP 1 0 i rfl rfl (by decide) in1 hi (by decide) (by decide +kernel) (q_vnn ad 0 (c_jn hR i hi)) dX4_doubleLastPage_71 ?_
    refine q_get (index := 215) (v := .ref (ad 3 ((C 0 1 ((C 1 0 i - 1).toNat) - 1).toNat))) X hP 0 1 ((C 1 0 i - 1).toNat) rfl rfl (by decide) in0 (q_rfl (hP.tok 1 0 i rfl) (c_jn hR i hi)) (by decide) (by decide +kernel) (q_vnn ad 3 (c_tn hR ((C 1 0 i - 1).toNat) (q_rfl (hP.tok 1 0 i rfl) (c_jn hR i hi)))) dX4_doubleLastPage_74 ?_
    refine lv_dup X.1 X.2.1 dX4_doubleLastPage_77 rfl ?_
    refine q_get (index := 178) (v := .long (jI (C 3 5 ((C 0 1 ((C 1 0 i - 1).toNat) - 1).toNat)))) X hP 3 5 ((C 0 1 ((C 1 0 i - 1).toNat) - 1).toNat) rfl rfl (by decide) in3 (q_rfl (hP.tok 0 1 ((C 1 0 i - 1).toNat) rfl) (c_tn hR ((C 1 0 i - 1).toNat) (q_rfl (hP.tok 1 0 i rfl) (c_jn hR i hi)))) (by decide) (by decide +kernel) rfl dX4_doubleLastPage_78 ?_
    have f_4 := c_R3 hR 5 ((C 0 1 ((C 1 0 i - 1).toNat) - 1).toNat) (by decide) (by decide)
    refine lv_lconst (v := jI (1)) X.1 X.2.1 dX4_doubleLastPage_81 (by decide) ?_
    refine q_ladd X dX4_doubleLastPage_82 ?_
    refine q_put (index := 178) (v := .long (jI ((C 3 5 ((C 0 1 ((C 1 0 i - 1).toNat) - 1).toNat)) + (1)))) X hP hS 3 5 ((C 0 1 ((C 1 0 i - 1).toNat) - 1).toNat) (((C 3 5 ((C 0 1 ((C 1 0 i - 1).toNat) - 1).toNat)) + (1))) rfl rfl (by decide) in3 tyX3 tyX3_ok nmX3 (q_rfl (hP.tok 0 1 ((C 1 0 i - 1).toNat) rfl) (c_tn hR ((C 1 0 i - 1).toNat) (q_rfl (hP.tok 1 0 i rfl) (c_jn hR i hi)))) (by decide) (by decide +kernel) rfl rfl rfl rfl (show R64 _ from (by omega)) dX4_doubleLastPage_83 (fun H locs hP hS => ?_)
    have hP : q_P g s0 n ad (q_up (q_up C 1 5 i (((C 1 5 i) - (1)))) 3 5 ((C 0 1 ((C 1 0 i - 1).toNat) - 1).toNat) (((C 3 5 ((C 0 1 ((C 1 0 i - 1).toNat) - 1).toNat)) + (1)))) H := hP
    exact q_vret X hr hlocks hP hS (Or.inl (⟨h_2, rfl⟩)) (Nat.le_of_ble_eq_true rfl) (Nat.le_of_ble_eq_true rfl) dX4_doubleLastPage_86
  · refine lv_aload_n X.1 X.2.1 dX4_doubleLastPage_10 rfl (lv_at hl 0 rfl) ?_
    refine q_get (index := 27) (v := .ref (ad 9 0)) X hP 4 6 0 rfl rfl (by decide) in4 (c_v4 hC) (by decide) (by decide +kernel) (c_r hC ad 6 9 (by decide)) dX4_doubleLastPage_11 ?_
    refine lv_aload_n X.1 X.2.1 dX4_doubleLastPage_14 rfl (lv_at hl 0 rfl) ?_
    refine q_get (index := 166) (v := .int (iI (C 4 8 0))) X hP 4 8 0 rfl rfl (by decide) in4 (c_v4 hC) (by decide) (by decide +kernel) rfl dX4_doubleLastPage_15 ?_
    refine lv_aload_n X.1 X.2.1 dX4_doubleLastPage_18 rfl (lv_at hl 1 rfl) ?_
    refine q_get (index := 101) (v := .ref (ad 0 ((C 1 0 i - 1).toNat))) X hP 1 0 i rfl rfl (by decide) in1 hi (by decide) (by decide +kernel) (q_vnn ad 0 (c_jn hR i hi)) dX4_doubleLastPage_19 ?_
    refine q_get (index := 105) (v := .int (iI (C 0 0 ((C 1 0 i - 1).toNat)))) X hP 0 0 ((C 1 0 i - 1).toNat) rfl rfl (by decide) in0 (q_rfl (hP.tok 1 0 i rfl) (c_jn hR i hi)) (by decide) (by decide +kernel) rfl dX4_doubleLastPage_22 ?_
    refine q_istv (len := 256) (x := (C 0 0 ((C 1 0 i - 1).toNat))) (z := (C 4 8 0)) X hP hS 9 0 (by decide) rfl rfl (c_va hC 6 9 (by decide)) rfl (by omega) (by omega) (hP.tok 0 0 ((C 1 0 i - 1).toNat) rfl) dX4_doubleLastPage_25 (fun H locs hP hS => ?_)
    have hP : q_P g s0 n ad (q_up C 9 (((C 4 8 0)).toNat) 0 ((C 0 0 ((C 1 0 i - 1).toNat)))) H := hP
    refine lv_aload_n X.1 X.2.1 dX4_doubleLastPage_26 rfl (lv_at hl 0 rfl) ?_
    refine q_get (index := 31) (v := .ref (ad 10 0)) X hP 4 7 0 rfl rfl (by decide) in4 (c_v4 hC) (by decide) (by decide +kernel) (c_r hC ad 7 10 (by decide)) dX4_doubleLastPage_27 ?_
    refine lv_aload_n X.1 X.2.1 dX4_doubleLastPage_30 rfl (lv_at hl 0 rfl) ?_
    refine q_get (index := 166) (v := .int (iI (C 4 8 0))) X hP 4 8 0 rfl rfl (by decide) in4 (c_v4 hC) (by decide) (by decide +kernel) rfl dX4_doubleLastPage_31 ?_
    refine lv_sipush (v := iI (1000)) X.1 X.2.1 dX4_doubleLastPage_34 (by decide) ?_
    refine lv_aload_n X.1 X.2.1 dX4_doubleLastPage_37 rfl (lv_at hl 1 rfl) ?_
    refine q_get (index := 109) (v := .int (iI (C 1 4 i))) X hP 1 4 i rfl rfl (by decide) in1 hi (by decide) (by decide +kernel) rfl dX4_doubleLastPage_38 ?_
    have f_5 := c_R14 hR i
    refine lv_iconst (v := iI (1)) X.1 X.2.1 dX4_doubleLastPage_41 rfl ?_
    refine q_iadd X dX4_doubleLastPage_42 ?_
    refine q_imul X dX4_doubleLastPage_43 ?_
    refine lv_aload_n X.1 X.2.1 dX4_doubleLastPage_44 rfl (lv_at hl 1 rfl) ?_
    refine q_get (index := 122) (v := .int (iI (C 1 5 i))) X hP 1 5 i rfl rfl (by decide) in1 hi (by decide) (by decide +kernel) rfl dX4_doubleLastPage_45 ?_
    have f_6 := c_R15 hR i
    refine q_iadd X dX4_doubleLastPage_48 ?_
    refine q_istv (len := 256) (x := (((1000) * ((C 1 4 i) + (1))) + (C 1 5 i))) (z := (C 4 8 0)) X hP hS 10 0 (by decide) rfl rfl (c_va hC 7 10 (by decide)) rfl (by omega) (by omega) (by omega) dX4_doubleLastPage_49 (fun H locs hP hS => ?_)
    have hP : q_P g s0 n ad (q_up (q_up C 9 (((C 4 8 0)).toNat) 0 ((C 0 0 ((C 1 0 i - 1).toNat)))) 10 (((C 4 8 0)).toNat) 0 ((((1000) * ((C 1 4 i) + (1))) + (C 1 5 i)))) H := hP
    refine lv_aload_n X.1 X.2.1 dX4_doubleLastPage_50 rfl (lv_at hl 0 rfl) ?_
    refine lv_dup X.1 X.2.1 dX4_doubleLastPage_51 rfl ?_
    refine q_get (index := 166) (v := .int (iI (C 4 8 0))) X hP 4 8 0 rfl rfl (by decide) in4 (c_v4 hC) (by decide) (by decide +kernel) rfl dX4_doubleLastPage_52 ?_
    refine lv_iconst (v := iI (1)) X.1 X.2.1 dX4_doubleLastPage_55 rfl ?_
    refine q_iadd X dX4_doubleLastPage_56 ?_
    refine q_put (index := 166) (v := .int (iI ((C 4 8 0) + (1)))) X hP hS 4 8 0 (((C 4 8 0) + (1))) rfl rfl (by decide) in4 tyX4 tyX4_ok nmX4 (c_v4 hC) (by decide) (by decide +kernel) rfl rfl rfl rfl (show R32 _ from (by omega)) dX4_doubleLastPage_57 (fun H locs hP hS => ?_)
    have hP : q_P g s0 n ad (q_up (q_up (q_up C 9 (((C 4 8 0)).toNat) 0 ((C 0 0 ((C 1 0 i - 1).toNat)))) 10 (((C 4 8 0)).toNat) 0 ((((1000) * ((C 1 4 i) + (1))) + (C 1 5 i)))) 4 8 0 (((C 4 8 0) + (1)))) H := hP
    refine lv_aload_n X.1 X.2.1 dX4_doubleLastPage_60 rfl (lv_at hl 1 rfl) ?_
    refine lv_dup X.1 X.2.1 dX4_doubleLastPage_61 rfl ?_
    refine q_get (index := 122) (v := .int (iI (C 1 5 i))) X hP 1 5 i rfl rfl (by decide) in1 hi (by decide) (by decide +kernel) rfl dX4_doubleLastPage_62 ?_
    refine lv_iconst (v := iI (1)) X.1 X.2.1 dX4_doubleLastPage_65 rfl ?_
    refine q_isub X dX4_doubleLastPage_66 ?_
    refine q_put (index := 122) (v := .int (iI ((C 1 5 i) - (1)))) X hP hS 1 5 i (((C 1 5 i) - (1))) rfl rfl (by decide) in1 tyX1 tyX1_ok nmX1 hi (by decide) (by decide +kernel) rfl rfl rfl rfl (show R32 _ from (by omega)) dX4_doubleLastPage_67 (fun H locs hP hS => ?_)
    have hP : q_P g s0 n ad (q_up (q_up (q_up (q_up C 9 (((C 4 8 0)).toNat) 0 ((C 0 0 ((C 1 0 i - 1).toNat)))) 10 (((C 4 8 0)).toNat) 0 ((((1000) * ((C 1 4 i) + (1))) + (C 1 5 i)))) 4 8 0 (((C 4 8 0) + (1)))) 1 5 i (((C 1 5 i) - (1)))) H := hP
    refine lv_aload_n X.1 X.2.1 dX4_doubleLastPage_70 rfl (lv_at hl 1 rfl) ?_
    refine q_get (index := 101) (v := .ref (ad 0 ((C 1 0 i - 1).toNat))) X hP 1 0 i rfl rfl (by decide) in1 hi (by decide) (by decide +kernel) (q_vnn ad 0 (c_jn hR i hi)) dX4_doubleLastPage_71 ?_
    refine q_get (index := 215) (v := .ref (ad 3 ((C 0 1 ((C 1 0 i - 1).toNat) - 1).toNat))) X hP 0 1 ((C 1 0 i - 1).toNat) rfl rfl (by decide) in0 (q_rfl (hP.tok 1 0 i rfl) (c_jn hR i hi)) (by decide) (by decide +kernel) (q_vnn ad 3 (c_tn hR ((C 1 0 i - 1).toNat) (q_rfl (hP.tok 1 0 i rfl) (c_jn hR i hi)))) dX4_doubleLastPage_74 ?_
    refine lv_dup X.1 X.2.1 dX4_doubleLastPage_77 rfl ?_
    refine q_get (index := 178) (v := .long (jI (C 3 5 ((C 0 1 ((C 1 0 i - 1).toNat) - 1).toNat)))) X hP 3 5 ((C 0 1 ((C 1 0 i - 1).toNat) - 1).toNat) rfl rfl (by decide) in3 (q_rfl (hP.tok 0 1 ((C 1 0 i - 1).toNat) rfl) (c_tn hR ((C 1 0 i - 1).toNat) (q_rfl (hP.tok 1 0 i rfl) (c_jn hR i hi)))) (by decide) (by decide +kernel) rfl dX4_doubleLastPage_78 ?_
    have f_7 := c_R3 hR 5 ((C 0 1 ((C 1 0 i - 1).toNat) - 1).toNat) (by decide) (by decide)
    refine lv_lconst (v := jI (1)) X.1 X.2.1 dX4_doubleLastPage_81 (by decide) ?_
    refine q_ladd X dX4_doubleLastPage_82 ?_
    refine q_put (index := 178) (v := .long (jI ((C 3 5 ((C 0 1 ((C 1 0 i - 1).toNat) - 1).toNat)) + (1)))) X hP hS 3 5 ((C 0 1 ((C 1 0 i - 1).toNat) - 1).toNat) (((C 3 5 ((C 0 1 ((C 1 0 i - 1).toNat) - 1).toNat)) + (1))) rfl rfl (by decide) in3 tyX3 tyX3_ok nmX3 (q_rfl (hP.tok 0 1 ((C 1 0 i - 1).toNat) rfl) (c_tn hR ((C 1 0 i - 1).toNat) (q_rfl (hP.tok 1 0 i rfl) (c_jn hR i hi)))) (by decide) (by decide +kernel) rfl rfl rfl rfl (show R64 _ from (by omega)) dX4_doubleLastPage_83 (fun H locs hP hS => ?_)
    have hP : q_P g s0 n ad (q_up (q_up (q_up (q_up (q_up C 9 (((C 4 8 0)).toNat) 0 ((C 0 0 ((C 1 0 i - 1).toNat)))) 10 (((C 4 8 0)).toNat) 0 ((((1000) * ((C 1 4 i) + (1))) + (C 1 5 i)))) 4 8 0 (((C 4 8 0) + (1)))) 1 5 i (((C 1 5 i) - (1)))) 3 5 ((C 0 1 ((C 1 0 i - 1).toNat) - 1).toNat) (((C 3 5 ((C 0 1 ((C 1 0 i - 1).toNat) - 1).toNat)) + (1)))) H := hP
    exact q_vret X hr hlocks hP hS (Or.inr (⟨h_2, rfl⟩)) (Nat.le_of_ble_eq_true rfl) (Nat.le_of_ble_eq_true rfl) dX4_doubleLastPage_86
def tX0_init (n : Nat → Nat) (ad : Nat → Nat → Nat) (C : q_S) (i z : Nat) (a b d y : Int) (u : q_U) : Prop :=
  (u = (n, ad, q_up (q_up (q_up (q_up (q_up C 0 0 i a) 0 1 i (((z : Nat) : Int) + 1)) 0 2 i b) 0 3 i d) 0 4 i y))
set_option maxHeartbeats 4000000 in
set_option maxRecDepth 100000 in
theorem c_X0_init (l : Launch) (g : q_G) (s0 : Nat) (n : Nat → Nat) (ad : Nat → Nat → Nat) (C : q_S) (i : Nat) (hi : i < n 0) (z : Nat) (hz : z < n 3) (a b d y : Int) (ha : R32 a) (hb : R32 b) (hd : R32 d) (hy : R64 y) : Met l yX0_init wsX0_init ({ frames := 1, cells := 0, slots := 0, locals := 24 }) (va_Pc [.ref (ad 0 i), .int (iI a), .ref (ad 3 z), .int (iI b), .int (iI d), .long (jI y)] (q_B g s0 (n, ad, C))) (va_Qv (tX0_init n ad C i z a b d y) (q_B g s0) (q_A s0)) 0 0 (q_A s0) := by
  refine Met.ofW (cc := cX0_init) (maxL := 7) (ret := none) (by decide) rfl ?_
  intro p e s m args below meth c s₁ B hml hv
  obtain ⟨rfl, hv⟩ := hv
  have hr := B.returns
  have hlocks := B.notSynchronized
  have hin : meth.name = "<init>" := (name_of_methodNamed B.named B.method).1
  obtain ⟨X, hP⟩ := q_start B.exec B.bytes hml (show s.vm.findClass RX0 = some m.cls from findClass_of_methodNamed B.named) (atoms_spec (ws := wsX0_init) B.pre) hv
  have hP : q_P g s0 n ad C s.heap := hP
  have hS : va_S (q_A s0) s.heap s.heap [] := va_S.rf
  have in0 : ∀ w ∈ wsX00, w ∈ wsX0_init := by decide +kernel
  have hl := lv_entry ([.ref (ad 0 i), .int (iI a), .ref (ad 3 z), .int (iI b), .int (iI d), .long (jI y)]) (n := 7) (Nat.le_of_ble_eq_true rfl)
  rw [lg_entry_eq]
  generalize (lg_sl ([.ref (ad 0 i), .int (iI a), .ref (ad 3 z), .int (iI b), .int (iI d), .long (jI y)]) ++ List.replicate (7 - (lg_sl ([.ref (ad 0 i), .int (iI a), .ref (ad 3 z), .int (iI b), .int (iI d), .long (jI y)])).length) Slot.unset).toArray = ls at hl ⊢
  have hl : lv_has ls 7 [(0, .ref (ad 0 i)), (1, .int (iI a)), (2, .ref (ad 3 z)), (3, .int (iI b)), (4, .int (iI d)), (5, .long (jI y))] := hl
  refine lv_aload_n X.1 X.2.1 dX0_init_0 rfl (lv_at hl 0 rfl) ?_
  refine W.objInit X.1 X.2.1 X.2.2.2.1 (X.2.2.2.2.1 (.methodLink RX0 3 objectInit) (by decide +kernel)) (X.2.2.2.2.1 (.instanceMethod objectInit) (by decide +kernel)) (X.2.2.2.2.1 (.code objectInit ⟨#[0xb1]⟩ 1 none) (by decide +kernel)) rfl (by rw [X.2.2.1]; exact hl.1) rfl dX0_init_1 (Nat.le_of_ble_eq_true rfl) (Nat.le_of_ble_eq_true rfl) ?_
  refine W.eq (g2 := F0 m 4 ls []) rfl ?_
  refine lv_aload_n X.1 X.2.1 dX0_init_4 rfl (lv_at hl 0 rfl) ?_
  refine lv_iload_n X.1 X.2.1 dX0_init_5 rfl (lv_at hl 1 rfl) ?_
  refine q_putF (index := 9) (v := .int (iI a)) X hP hS 0 0 i a rfl rfl (by decide) in0 tyX0 tyX0_ok nmX0 hi (by decide) (by decide +kernel) rfl hin rfl rfl rfl rfl (show R32 _ from ha) dX0_init_6 (fun H locs hP hS => ?_)
  have hP : q_P g s0 n ad (q_up C 0 0 i a) H := hP
  refine lv_aload_n X.1 X.2.1 dX0_init_9 rfl (lv_at hl 0 rfl) ?_
  refine lv_aload_n X.1 X.2.1 dX0_init_10 rfl (lv_at hl 2 rfl) ?_
  refine q_putF (index := 15) (v := .ref (ad 3 z)) X hP hS 0 1 i (((z : Nat) : Int) + 1) rfl rfl (by decide) in0 tyX0 tyX0_ok nmX0 hi (by decide) (by decide +kernel) rfl hin rfl (q_v2 ad 3 z) rfl rfl (q_t2 hz) dX0_init_11 (fun H locs hP hS => ?_)
  have hP : q_P g s0 n ad (q_up (q_up C 0 0 i a) 0 1 i (((z : Nat) : Int) + 1)) H := hP
  refine lv_aload_n X.1 X.2.1 dX0_init_14 rfl (lv_at hl 0 rfl) ?_
  refine lv_iload_n X.1 X.2.1 dX0_init_15 rfl (lv_at hl 3 rfl) ?_
  refine q_putF (index := 19) (v := .int (iI b)) X hP hS 0 2 i b rfl rfl (by decide) in0 tyX0 tyX0_ok nmX0 hi (by decide) (by decide +kernel) rfl hin rfl rfl rfl rfl (show R32 _ from hb) dX0_init_16 (fun H locs hP hS => ?_)
  have hP : q_P g s0 n ad (q_up (q_up (q_up C 0 0 i a) 0 1 i (((z : Nat) : Int) + 1)) 0 2 i b) H := hP
  refine lv_aload_n X.1 X.2.1 dX0_init_19 rfl (lv_at hl 0 rfl) ?_
  refine lv_iload X.1 X.2.1 dX0_init_20 (lv_at hl 4 rfl) ?_
  refine q_putF (index := 22) (v := .int (iI d)) X hP hS 0 3 i d rfl rfl (by decide) in0 tyX0 tyX0_ok nmX0 hi (by decide) (by decide +kernel) rfl hin rfl rfl rfl rfl (show R32 _ from hd) dX0_init_22 (fun H locs hP hS => ?_)
  have hP : q_P g s0 n ad (q_up (q_up (q_up (q_up C 0 0 i a) 0 1 i (((z : Nat) : Int) + 1)) 0 2 i b) 0 3 i d) H := hP
  refine lv_aload_n X.1 X.2.1 dX0_init_25 rfl (lv_at hl 0 rfl) ?_
  refine lv_lload X.1 X.2.1 dX0_init_26 (lv_at hl 5 rfl) ?_
  refine q_putF (index := 25) (v := .long (jI y)) X hP hS 0 4 i y rfl rfl (by decide) in0 tyX0 tyX0_ok nmX0 hi (by decide) (by decide +kernel) rfl hin rfl rfl rfl rfl (show R64 _ from hy) dX0_init_28 (fun H locs hP hS => ?_)
  have hP : q_P g s0 n ad (q_up (q_up (q_up (q_up (q_up C 0 0 i a) 0 1 i (((z : Nat) : Int) + 1)) 0 2 i b) 0 3 i d) 0 4 i y) H := hP
  exact q_vret X hr hlocks hP hS (rfl) (Nat.le_of_ble_eq_true rfl) (Nat.le_of_ble_eq_true rfl) dX0_init_31
def tX1_init (n : Nat → Nat) (ad : Nat → Nat → Nat) (C : q_S) (i j : Nat) (a b : Int) (u : q_U) : Prop :=
  (u = (n, ad, q_up (q_up (q_up C 1 0 i (((j : Nat) : Int) + 1)) 1 1 i a) 1 2 i b))
set_option maxHeartbeats 4000000 in
set_option maxRecDepth 100000 in
theorem c_X1_init (l : Launch) (g : q_G) (s0 : Nat) (n : Nat → Nat) (ad : Nat → Nat → Nat) (C : q_S) (i : Nat) (hi : i < n 1) (j : Nat) (hj : j < n 0) (a b : Int) (ha : R32 a) (hb : R32 b) : Met l yX1_init wsX1_init ({ frames := 1, cells := 0, slots := 0, locals := 24 }) (va_Pc [.ref (ad 1 i), .ref (ad 0 j), .int (iI a), .int (iI b)] (q_B g s0 (n, ad, C))) (va_Qv (tX1_init n ad C i j a b) (q_B g s0) (q_A s0)) 0 0 (q_A s0) := by
  refine Met.ofW (cc := cX1_init) (maxL := 4) (ret := none) (by decide) rfl ?_
  intro p e s m args below meth c s₁ B hml hv
  obtain ⟨rfl, hv⟩ := hv
  have hr := B.returns
  have hlocks := B.notSynchronized
  have hin : meth.name = "<init>" := (name_of_methodNamed B.named B.method).1
  obtain ⟨X, hP⟩ := q_start B.exec B.bytes hml (show s.vm.findClass RX1 = some m.cls from findClass_of_methodNamed B.named) (atoms_spec (ws := wsX1_init) B.pre) hv
  have hP : q_P g s0 n ad C s.heap := hP
  have hS : va_S (q_A s0) s.heap s.heap [] := va_S.rf
  have in1 : ∀ w ∈ wsX10, w ∈ wsX1_init := by decide +kernel
  have hl := lv_entry ([.ref (ad 1 i), .ref (ad 0 j), .int (iI a), .int (iI b)]) (n := 4) (Nat.le_of_ble_eq_true rfl)
  rw [lg_entry_eq]
  generalize (lg_sl ([.ref (ad 1 i), .ref (ad 0 j), .int (iI a), .int (iI b)]) ++ List.replicate (4 - (lg_sl ([.ref (ad 1 i), .ref (ad 0 j), .int (iI a), .int (iI b)])).length) Slot.unset).toArray = ls at hl ⊢
  have hl : lv_has ls 4 [(0, .ref (ad 1 i)), (1, .ref (ad 0 j)), (2, .int (iI a)), (3, .int (iI b))] := hl
  refine lv_aload_n X.1 X.2.1 dX1_init_0 rfl (lv_at hl 0 rfl) ?_
  refine W.objInit X.1 X.2.1 X.2.2.2.1 (X.2.2.2.2.1 (.methodLink RX1 1 objectInit) (by decide +kernel)) (X.2.2.2.2.1 (.instanceMethod objectInit) (by decide +kernel)) (X.2.2.2.2.1 (.code objectInit ⟨#[0xb1]⟩ 1 none) (by decide +kernel)) rfl (by rw [X.2.2.1]; exact hl.1) rfl dX1_init_1 (Nat.le_of_ble_eq_true rfl) (Nat.le_of_ble_eq_true rfl) ?_
  refine W.eq (g2 := F0 m 4 ls []) rfl ?_
  refine lv_aload_n X.1 X.2.1 dX1_init_4 rfl (lv_at hl 0 rfl) ?_
  refine lv_aload_n X.1 X.2.1 dX1_init_5 rfl (lv_at hl 1 rfl) ?_
  refine q_putF (index := 7) (v := .ref (ad 0 j)) X hP hS 1 0 i (((j : Nat) : Int) + 1) rfl rfl (by decide) in1 tyX1 tyX1_ok nmX1 hi (by decide) (by decide +kernel) rfl hin rfl (q_v2 ad 0 j) rfl rfl (q_t2 hj) dX1_init_6 (fun H locs hP hS => ?_)
  have hP : q_P g s0 n ad (q_up C 1 0 i (((j : Nat) : Int) + 1)) H := hP
  refine lv_aload_n X.1 X.2.1 dX1_init_9 rfl (lv_at hl 0 rfl) ?_
  refine lv_iload_n X.1 X.2.1 dX1_init_10 rfl (lv_at hl 2 rfl) ?_
  refine q_putF (index := 13) (v := .int (iI a)) X hP hS 1 1 i a rfl rfl (by decide) in1 tyX1 tyX1_ok nmX1 hi (by decide) (by decide +kernel) rfl hin rfl rfl rfl rfl (show R32 _ from ha) dX1_init_11 (fun H locs hP hS => ?_)
  have hP : q_P g s0 n ad (q_up (q_up C 1 0 i (((j : Nat) : Int) + 1)) 1 1 i a) H := hP
  refine lv_aload_n X.1 X.2.1 dX1_init_14 rfl (lv_at hl 0 rfl) ?_
  refine lv_iload_n X.1 X.2.1 dX1_init_15 rfl (lv_at hl 3 rfl) ?_
  refine q_put (index := 17) (v := .int (iI b)) X hP hS 1 2 i b rfl rfl (by decide) in1 tyX1 tyX1_ok nmX1 hi (by decide) (by decide +kernel) rfl rfl rfl rfl (show R32 _ from hb) dX1_init_16 (fun H locs hP hS => ?_)
  have hP : q_P g s0 n ad (q_up (q_up (q_up C 1 0 i (((j : Nat) : Int) + 1)) 1 1 i a) 1 2 i b) H := hP
  exact q_vret X hr hlocks hP hS (rfl) (Nat.le_of_ble_eq_true rfl) (Nat.le_of_ble_eq_true rfl) dX1_init_19
def tX2_init (n : Nat → Nat) (ad : Nat → Nat → Nat) (C : q_S) (i : Nat) (a b d : Int) (u : q_U) : Prop :=
  (u = (n, ad, q_up (q_up (q_up C 2 0 i a) 2 2 i b) 2 1 i d))
set_option maxHeartbeats 4000000 in
set_option maxRecDepth 100000 in
theorem c_X2_init (l : Launch) (g : q_G) (s0 : Nat) (n : Nat → Nat) (ad : Nat → Nat → Nat) (C : q_S) (i : Nat) (hi : i < n 2) (a b d : Int) (ha : R32 a) (hb : R32 b) (hd : R32 d) : Met l yX2_init wsX2_init ({ frames := 1, cells := 0, slots := 0, locals := 24 }) (va_Pc [.ref (ad 2 i), .int (iI a), .int (iI b), .int (iI d)] (q_B g s0 (n, ad, C))) (va_Qv (tX2_init n ad C i a b d) (q_B g s0) (q_A s0)) 0 0 (q_A s0) := by
  refine Met.ofW (cc := cX2_init) (maxL := 4) (ret := none) (by decide) rfl ?_
  intro p e s m args below meth c s₁ B hml hv
  obtain ⟨rfl, hv⟩ := hv
  have hr := B.returns
  have hlocks := B.notSynchronized
  have hin : meth.name = "<init>" := (name_of_methodNamed B.named B.method).1
  obtain ⟨X, hP⟩ := q_start B.exec B.bytes hml (show s.vm.findClass RX2 = some m.cls from findClass_of_methodNamed B.named) (atoms_spec (ws := wsX2_init) B.pre) hv
  have hP : q_P g s0 n ad C s.heap := hP
  have hS : va_S (q_A s0) s.heap s.heap [] := va_S.rf
  have in2 : ∀ w ∈ wsX20, w ∈ wsX2_init := by decide +kernel
  have hl := lv_entry ([.ref (ad 2 i), .int (iI a), .int (iI b), .int (iI d)]) (n := 4) (Nat.le_of_ble_eq_true rfl)
  rw [lg_entry_eq]
  generalize (lg_sl ([.ref (ad 2 i), .int (iI a), .int (iI b), .int (iI d)]) ++ List.replicate (4 - (lg_sl ([.ref (ad 2 i), .int (iI a), .int (iI b), .int (iI d)])).length) Slot.unset).toArray = ls at hl ⊢
  have hl : lv_has ls 4 [(0, .ref (ad 2 i)), (1, .int (iI a)), (2, .int (iI b)), (3, .int (iI d))] := hl
  refine lv_aload_n X.1 X.2.1 dX2_init_0 rfl (lv_at hl 0 rfl) ?_
  refine W.objInit X.1 X.2.1 X.2.2.2.1 (X.2.2.2.2.1 (.methodLink RX2 3 objectInit) (by decide +kernel)) (X.2.2.2.2.1 (.instanceMethod objectInit) (by decide +kernel)) (X.2.2.2.2.1 (.code objectInit ⟨#[0xb1]⟩ 1 none) (by decide +kernel)) rfl (by rw [X.2.2.1]; exact hl.1) rfl dX2_init_1 (Nat.le_of_ble_eq_true rfl) (Nat.le_of_ble_eq_true rfl) ?_
  refine W.eq (g2 := F0 m 4 ls []) rfl ?_
  refine lv_aload_n X.1 X.2.1 dX2_init_4 rfl (lv_at hl 0 rfl) ?_
  refine lv_iload_n X.1 X.2.1 dX2_init_5 rfl (lv_at hl 1 rfl) ?_
  refine q_putF (index := 9) (v := .int (iI a)) X hP hS 2 0 i a rfl rfl (by decide) in2 tyX2 tyX2_ok nmX2 hi (by decide) (by decide +kernel) rfl hin rfl rfl rfl rfl (show R32 _ from ha) dX2_init_6 (fun H locs hP hS => ?_)
  have hP : q_P g s0 n ad (q_up C 2 0 i a) H := hP
  refine lv_aload_n X.1 X.2.1 dX2_init_9 rfl (lv_at hl 0 rfl) ?_
  refine lv_iload_n X.1 X.2.1 dX2_init_10 rfl (lv_at hl 2 rfl) ?_
  refine q_put (index := 15) (v := .int (iI b)) X hP hS 2 2 i b rfl rfl (by decide) in2 tyX2 tyX2_ok nmX2 hi (by decide) (by decide +kernel) rfl rfl rfl rfl (show R32 _ from hb) dX2_init_11 (fun H locs hP hS => ?_)
  have hP : q_P g s0 n ad (q_up (q_up C 2 0 i a) 2 2 i b) H := hP
  refine lv_aload_n X.1 X.2.1 dX2_init_14 rfl (lv_at hl 0 rfl) ?_
  refine lv_iload_n X.1 X.2.1 dX2_init_15 rfl (lv_at hl 3 rfl) ?_
  refine q_putF (index := 18) (v := .int (iI d)) X hP hS 2 1 i d rfl rfl (by decide) in2 tyX2 tyX2_ok nmX2 hi (by decide) (by decide +kernel) rfl hin rfl rfl rfl rfl (show R32 _ from hd) dX2_init_16 (fun H locs hP hS => ?_)
  have hP : q_P g s0 n ad (q_up (q_up (q_up C 2 0 i a) 2 2 i b) 2 1 i d) H := hP
  exact q_vret X hr hlocks hP hS (rfl) (Nat.le_of_ble_eq_true rfl) (Nat.le_of_ble_eq_true rfl) dX2_init_19
def tX3_init (n : Nat → Nat) (ad : Nat → Nat → Nat) (C : q_S) (i : Nat) (a b : Int) (u : q_U) : Prop :=
  (u = (n, ad, q_up (q_up C 3 0 i a) 3 1 i b))
set_option maxHeartbeats 4000000 in
set_option maxRecDepth 100000 in
theorem c_X3_init (l : Launch) (g : q_G) (s0 : Nat) (n : Nat → Nat) (ad : Nat → Nat → Nat) (C : q_S) (i : Nat) (hi : i < n 3) (a b : Int) (ha : R32 a) (hb : R32 b) : Met l yX3_init wsX3_init ({ frames := 1, cells := 0, slots := 0, locals := 24 }) (va_Pc [.ref (ad 3 i), .int (iI a), .int (iI b)] (q_B g s0 (n, ad, C))) (va_Qv (tX3_init n ad C i a b) (q_B g s0) (q_A s0)) 0 0 (q_A s0) := by
  refine Met.ofW (cc := cX3_init) (maxL := 3) (ret := none) (by decide) rfl ?_
  intro p e s m args below meth c s₁ B hml hv
  obtain ⟨rfl, hv⟩ := hv
  have hr := B.returns
  have hlocks := B.notSynchronized
  have hin : meth.name = "<init>" := (name_of_methodNamed B.named B.method).1
  obtain ⟨X, hP⟩ := q_start B.exec B.bytes hml (show s.vm.findClass RX3 = some m.cls from findClass_of_methodNamed B.named) (atoms_spec (ws := wsX3_init) B.pre) hv
  have hP : q_P g s0 n ad C s.heap := hP
  have hS : va_S (q_A s0) s.heap s.heap [] := va_S.rf
  have in3 : ∀ w ∈ wsX30, w ∈ wsX3_init := by decide +kernel
  have hl := lv_entry ([.ref (ad 3 i), .int (iI a), .int (iI b)]) (n := 3) (Nat.le_of_ble_eq_true rfl)
  rw [lg_entry_eq]
  generalize (lg_sl ([.ref (ad 3 i), .int (iI a), .int (iI b)]) ++ List.replicate (3 - (lg_sl ([.ref (ad 3 i), .int (iI a), .int (iI b)])).length) Slot.unset).toArray = ls at hl ⊢
  have hl : lv_has ls 3 [(0, .ref (ad 3 i)), (1, .int (iI a)), (2, .int (iI b))] := hl
  refine lv_aload_n X.1 X.2.1 dX3_init_0 rfl (lv_at hl 0 rfl) ?_
  refine W.objInit X.1 X.2.1 X.2.2.2.1 (X.2.2.2.2.1 (.methodLink RX3 1 objectInit) (by decide +kernel)) (X.2.2.2.2.1 (.instanceMethod objectInit) (by decide +kernel)) (X.2.2.2.2.1 (.code objectInit ⟨#[0xb1]⟩ 1 none) (by decide +kernel)) rfl (by rw [X.2.2.1]; exact hl.1) rfl dX3_init_1 (Nat.le_of_ble_eq_true rfl) (Nat.le_of_ble_eq_true rfl) ?_
  refine W.eq (g2 := F0 m 4 ls []) rfl ?_
  refine lv_aload_n X.1 X.2.1 dX3_init_4 rfl (lv_at hl 0 rfl) ?_
  refine lv_iload_n X.1 X.2.1 dX3_init_5 rfl (lv_at hl 1 rfl) ?_
  refine q_putF (index := 7) (v := .int (iI a)) X hP hS 3 0 i a rfl rfl (by decide) in3 tyX3 tyX3_ok nmX3 hi (by decide) (by decide +kernel) rfl hin rfl rfl rfl rfl (show R32 _ from ha) dX3_init_6 (fun H locs hP hS => ?_)
  have hP : q_P g s0 n ad (q_up C 3 0 i a) H := hP
  refine lv_aload_n X.1 X.2.1 dX3_init_9 rfl (lv_at hl 0 rfl) ?_
  refine lv_iload_n X.1 X.2.1 dX3_init_10 rfl (lv_at hl 2 rfl) ?_
  refine q_putF (index := 13) (v := .int (iI b)) X hP hS 3 1 i b rfl rfl (by decide) in3 tyX3 tyX3_ok nmX3 hi (by decide) (by decide +kernel) rfl hin rfl rfl rfl rfl (show R32 _ from hb) dX3_init_11 (fun H locs hP hS => ?_)
  have hP : q_P g s0 n ad (q_up (q_up C 3 0 i a) 3 1 i b) H := hP
  exact q_vret X hr hlocks hP hS (rfl) (Nat.le_of_ble_eq_true rfl) (Nat.le_of_ble_eq_true rfl) dX3_init_14
