set_option maxHeartbeats 4000000 in
set_option maxRecDepth 100000 in
theorem c_X4_isWithin (l : Launch) (g : q_G) (s0 : Nat) (n : Nat → Nat) (ad : Nat → Nat → Nat) (C : q_S) (a b d : Int) (ha : R32 a) (hb : R32 b) (hd : R32 d) : Met l yX4_isWithin wsX4_isWithin ({ frames := 0, cells := 0, slots := 0, locals := 0 }) (va_Pc [.int (iI a), .int (iI b), .int (iI d)] (q_B g s0 (n, ad, C))) (va_Qi (fun r u => u = (n, ad, C) ∧ (((b ≤ a ∧ a ≤ d) ∧ r = iI 1) ∨ (¬ (b ≤ a ∧ a ≤ d) ∧ r = iI 0))) (q_B g s0) (q_A s0)) 0 0 (q_A s0) := by
  refine Met.ofW (cc := cX4_isWithin) (maxL := 3) (ret := (some .boolean)) (by decide) rfl ?_
  intro p e s m args below meth c s₁ B hml hv
  obtain ⟨rfl, hv⟩ := hv
  have hr := B.returns
  have hlocks := B.notSynchronized
  obtain ⟨X, hP⟩ := q_start B.exec B.bytes hml (show s.vm.findClass RX4 = some m.cls from findClass_of_methodNamed B.named) (atoms_spec (ws := wsX4_isWithin) B.pre) hv
  have hP : q_P g s0 n ad C s.heap := hP
  have hS : va_S (q_A s0) s.heap s.heap [] := va_S.rf
  have hl := lv_entry ([.int (iI a), .int (iI b), .int (iI d)]) (n := 3) (Nat.le_of_ble_eq_true rfl)
  rw [lg_entry_eq]
  generalize (lg_sl ([.int (iI a), .int (iI b), .int (iI d)]) ++ List.replicate (3 - (lg_sl ([.int (iI a), .int (iI b), .int (iI d)])).length) Slot.unset).toArray = ls at hl ⊢
  have hl : lv_has ls 3 [(0, .int (iI a)), (1, .int (iI b)), (2, .int (iI d))] := hl
  refine lv_iload_n X.1 X.2.1 dX4_isWithin_0 rfl (lv_at hl 0 rfl) ?_
  refine lv_iload_n X.1 X.2.1 dX4_isWithin_1 rfl (lv_at hl 1 rfl) ?_
  refine q_icmp_lt (tgt := 14) X ha hb dX4_isWithin_2 (by decide) (fun h_1 => ?_) (fun h_1 => ?_)
  · refine lv_iconst (v := iI (0)) X.1 X.2.1 dX4_isWithin_14 rfl ?_
    exact q_zret X hr hlocks hP hS (z := (0)) (by decide) ⟨rfl, Or.inr ⟨by omega, rfl⟩⟩ (Nat.le_of_ble_eq_true rfl) (Nat.le_of_ble_eq_true rfl) dX4_isWithin_15
  · refine lv_iload_n X.1 X.2.1 dX4_isWithin_5 rfl (lv_at hl 0 rfl) ?_
    refine lv_iload_n X.1 X.2.1 dX4_isWithin_6 rfl (lv_at hl 2 rfl) ?_
    refine q_icmp_gt (tgt := 14) X ha hd dX4_isWithin_7 (by decide) (fun h_2 => ?_) (fun h_2 => ?_)
    · refine lv_iconst (v := iI (0)) X.1 X.2.1 dX4_isWithin_14 rfl ?_
      exact q_zret X hr hlocks hP hS (z := (0)) (by decide) ⟨rfl, Or.inr ⟨by omega, rfl⟩⟩ (Nat.le_of_ble_eq_true rfl) (Nat.le_of_ble_eq_true rfl) dX4_isWithin_15
    · refine lv_iconst (v := iI (1)) X.1 X.2.1 dX4_isWithin_10 rfl ?_
      refine lv_goto (tgt := 15) X.1 X.2.1 dX4_isWithin_11 (by decide) ?_
      exact q_zret X hr hlocks hP hS (z := (1)) (by decide) ⟨rfl, Or.inl ⟨by omega, rfl⟩⟩ (Nat.le_of_ble_eq_true rfl) (Nat.le_of_ble_eq_true rfl) dX4_isWithin_15
set_option maxHeartbeats 4000000 in
set_option maxRecDepth 100000 in
theorem c_X4_asNumber (l : Launch) (g : q_G) (s0 : Nat) (n : Nat → Nat) (ad : Nat → Nat → Nat) (C : q_S) (a : Int) (ha : a = 0 ∨ a = 1) : Met l yX4_asNumber wsX4_asNumber ({ frames := 0, cells := 0, slots := 0, locals := 0 }) (va_Pc [.int (iI a)] (q_B g s0 (n, ad, C))) (va_Qi (fun r u => u = (n, ad, C) ∧ r = iI a) (q_B g s0) (q_A s0)) 0 0 (q_A s0) := by
  refine Met.ofW (cc := cX4_asNumber) (maxL := 1) (ret := (some .int)) (by decide) rfl ?_
  intro p e s m args below meth c s₁ B hml hv
  obtain ⟨rfl, hv⟩ := hv
  have hr := B.returns
  have hlocks := B.notSynchronized
  obtain ⟨X, hP⟩ := q_start B.exec B.bytes hml (show s.vm.findClass RX4 = some m.cls from findClass_of_methodNamed B.named) (atoms_spec (ws := wsX4_asNumber) B.pre) hv
  have hP : q_P g s0 n ad C s.heap := hP
  have hS : va_S (q_A s0) s.heap s.heap [] := va_S.rf
  have hl := lv_entry ([.int (iI a)]) (n := 1) (Nat.le_of_ble_eq_true rfl)
  rw [lg_entry_eq]
  generalize (lg_sl ([.int (iI a)]) ++ List.replicate (1 - (lg_sl ([.int (iI a)])).length) Slot.unset).toArray = ls at hl ⊢
  have hl : lv_has ls 1 [(0, .int (iI a))] := hl
  refine lv_iload_n X.1 X.2.1 dX4_asNumber_0 rfl (lv_at hl 0 rfl) ?_
  refine q_if_eq (tgt := 8) X (q_b32 ha) dX4_asNumber_1 (by decide) (fun h_1 => ?_) (fun h_1 => ?_)
  · refine lv_iconst (v := iI (0)) X.1 X.2.1 dX4_asNumber_8 rfl ?_
    exact q_iret X hr hlocks hP hS ⟨rfl, congrArg iI (by omega)⟩ (Nat.le_of_ble_eq_true rfl) (Nat.le_of_ble_eq_true rfl) dX4_asNumber_9
  · refine lv_iconst (v := iI (1)) X.1 X.2.1 dX4_asNumber_4 rfl ?_
    refine lv_goto (tgt := 9) X.1 X.2.1 dX4_asNumber_5 (by decide) ?_
    exact q_iret X hr hlocks hP hS ⟨rfl, congrArg iI (by omega)⟩ (Nat.le_of_ble_eq_true rfl) (Nat.le_of_ble_eq_true rfl) dX4_asNumber_9
set_option maxHeartbeats 4000000 in
set_option maxRecDepth 100000 in
theorem c_X1_untouchedCopies (l : Launch) (g : q_G) (s0 : Nat) (n : Nat → Nat) (ad : Nat → Nat → Nat) (C : q_S) (i : Nat) (hi : i < n 1) : Met l yX1_untouchedCopies wsX1_untouchedCopies ({ frames := 0, cells := 0, slots := 0, locals := 0 }) (va_Pc [.ref (ad 1 i)] (q_B g s0 (n, ad, C))) (va_Qi (fun r u => u = (n, ad, C) ∧ r = iI (c_unt C i)) (q_B g s0) (q_A s0)) 0 0 (q_A s0) := by
  refine Met.ofW (cc := cX1_untouchedCopies) (maxL := 1) (ret := (some .int)) (by decide) rfl ?_
  intro p e s m args below meth c s₁ B hml hv
  obtain ⟨rfl, hv⟩ := hv
  have hr := B.returns
  have hlocks := B.notSynchronized
  obtain ⟨X, hP⟩ := q_start B.exec B.bytes hml (show s.vm.findClass RX1 = some m.cls from findClass_of_methodNamed B.named) (atoms_spec (ws := wsX1_untouchedCopies) B.pre) hv
  have hP : q_P g s0 n ad C s.heap := hP
  have hS : va_S (q_A s0) s.heap s.heap [] := va_S.rf
  have in1 : ∀ w ∈ wsX10, w ∈ wsX1_untouchedCopies := by decide +kernel
  have hl := lv_entry ([.ref (ad 1 i)]) (n := 1) (Nat.le_of_ble_eq_true rfl)
  rw [lg_entry_eq]
  generalize (lg_sl ([.ref (ad 1 i)]) ++ List.replicate (1 - (lg_sl ([.ref (ad 1 i)])).length) Slot.unset).toArray = ls at hl ⊢
  have hl : lv_has ls 1 [(0, .ref (ad 1 i))] := hl
  refine lv_aload_n X.1 X.2.1 dX1_untouchedCopies_0 rfl (lv_at hl 0 rfl) ?_
  refine q_get (index := 17) (v := .int (iI (C 1 2 i))) X hP 1 2 i rfl rfl (by decide) in1 hi (by decide) (by decide +kernel) rfl dX1_untouchedCopies_1 ?_
  refine lv_aload_n X.1 X.2.1 dX1_untouchedCopies_4 rfl (lv_at hl 0 rfl) ?_
  refine q_get (index := 20) (v := .int (iI (C 1 4 i))) X hP 1 4 i rfl rfl (by decide) in1 hi (by decide) (by decide +kernel) rfl dX1_untouchedCopies_5 ?_
  refine q_isub X dX1_untouchedCopies_8 ?_
  refine lv_aload_n X.1 X.2.1 dX1_untouchedCopies_9 rfl (lv_at hl 0 rfl) ?_
  refine q_get (index := 23) (v := .int (iI (C 1 5 i))) X hP 1 5 i rfl rfl (by decide) in1 hi (by decide) (by decide +kernel) rfl dX1_untouchedCopies_10 ?_
  refine q_if_le (tgt := 20) X (hP.tok 1 5 i rfl) dX1_untouchedCopies_13 (by decide) (fun h_1 => ?_) (fun h_1 => ?_)
  · refine lv_iconst (v := iI (0)) X.1 X.2.1 dX1_untouchedCopies_20 rfl ?_
    refine q_isub X dX1_untouchedCopies_21 ?_
    exact q_iret X hr hlocks hP hS ⟨rfl, congrArg iI (by unfold c_unt; first | (rw [if_pos (by assumption)]; done) | (rw [if_neg (by omega)]; done))⟩ (Nat.le_of_ble_eq_true rfl) (Nat.le_of_ble_eq_true rfl) dX1_untouchedCopies_22
  · refine lv_iconst (v := iI (1)) X.1 X.2.1 dX1_untouchedCopies_16 rfl ?_
    refine lv_goto (tgt := 21) X.1 X.2.1 dX1_untouchedCopies_17 (by decide) ?_
    refine q_isub X dX1_untouchedCopies_21 ?_
    exact q_iret X hr hlocks hP hS ⟨rfl, congrArg iI (by unfold c_unt; first | (rw [if_pos (by assumption)]; done) | (rw [if_neg (by omega)]; done))⟩ (Nat.le_of_ble_eq_true rfl) (Nat.le_of_ble_eq_true rfl) dX1_untouchedCopies_22
set_option maxHeartbeats 4000000 in
set_option maxRecDepth 100000 in
theorem c_X2_fits (l : Launch) (g : q_G) (s0 : Nat) (n : Nat → Nat) (ad : Nat → Nat → Nat) (C : q_S) (c0 : Nat) (hR : c_R C n c0) (p0 : Nat) (hp : p0 < n 2) (i : Nat) (hi : i < n 1) : Met l yX2_fits wsX2_fits ({ frames := 0, cells := 0, slots := 0, locals := 0 }) (va_Pc [.ref (ad 2 p0), .ref (ad 1 i)] (q_B g s0 (n, ad, C))) (va_Qi (fun r u => u = (n, ad, C) ∧ (((c_fits C p0 i) ∧ r = iI 1) ∨ (¬ (c_fits C p0 i) ∧ r = iI 0))) (q_B g s0) (q_A s0)) 0 0 (q_A s0) := by
  refine Met.ofW (cc := cX2_fits) (maxL := 2) (ret := (some .boolean)) (by decide) rfl ?_
  intro p e s m args below meth c s₁ B hml hv
  obtain ⟨rfl, hv⟩ := hv
  have hr := B.returns
  have hlocks := B.notSynchronized
  obtain ⟨X, hP⟩ := q_start B.exec B.bytes hml (show s.vm.findClass RX2 = some m.cls from findClass_of_methodNamed B.named) (atoms_spec (ws := wsX2_fits) B.pre) hv
  have hP : q_P g s0 n ad C s.heap := hP
  have hS : va_S (q_A s0) s.heap s.heap [] := va_S.rf
  have in0 : ∀ w ∈ wsX00, w ∈ wsX2_fits := by decide +kernel
  have in1 : ∀ w ∈ wsX10, w ∈ wsX2_fits := by decide +kernel
  have in2 : ∀ w ∈ wsX20, w ∈ wsX2_fits := by decide +kernel
  have in3 : ∀ w ∈ wsX30, w ∈ wsX2_fits := by decide +kernel
  have hl := lv_entry ([.ref (ad 2 p0), .ref (ad 1 i)]) (n := 2) (Nat.le_of_ble_eq_true rfl)
  rw [lg_entry_eq]
  generalize (lg_sl ([.ref (ad 2 p0), .ref (ad 1 i)]) ++ List.replicate (2 - (lg_sl ([.ref (ad 2 p0), .ref (ad 1 i)])).length) Slot.unset).toArray = ls at hl ⊢
  have hl : lv_has ls 2 [(0, .ref (ad 2 p0)), (1, .ref (ad 1 i))] := hl
  refine lv_aload_n X.1 X.2.1 dX2_fits_0 rfl (lv_at hl 0 rfl) ?_
  refine q_get (index := 18) (v := .int (iI (C 2 1 p0))) X hP 2 1 p0 rfl rfl (by decide) in2 hp (by decide) (by decide +kernel) rfl dX2_fits_1 ?_
  refine lv_aload_n X.1 X.2.1 dX2_fits_4 rfl (lv_at hl 1 rfl) ?_
  refine q_get (index := 21) (v := .ref (ad 0 ((C 1 0 i - 1).toNat))) X hP 1 0 i rfl rfl (by decide) in1 hi (by decide) (by decide +kernel) (q_vnn ad 0 (c_jn hR i hi)) dX2_fits_5 ?_
  refine q_get (index := 27) (v := .ref (ad 3 ((C 0 1 ((C 1 0 i - 1).toNat) - 1).toNat))) X hP 0 1 ((C 1 0 i - 1).toNat) rfl rfl (by decide) in0 (q_rfl (hP.tok 1 0 i rfl) (c_jn hR i hi)) (by decide) (by decide +kernel) (q_vnn ad 3 (c_tn hR ((C 1 0 i - 1).toNat) (q_rfl (hP.tok 1 0 i rfl) (c_jn hR i hi)))) dX2_fits_8 ?_
  refine q_get (index := 33) (v := .int (iI (C 3 1 ((C 0 1 ((C 1 0 i - 1).toNat) - 1).toNat)))) X hP 3 1 ((C 0 1 ((C 1 0 i - 1).toNat) - 1).toNat) rfl rfl (by decide) in3 (q_rfl (hP.tok 0 1 ((C 1 0 i - 1).toNat) rfl) (c_tn hR ((C 1 0 i - 1).toNat) (q_rfl (hP.tok 1 0 i rfl) (c_jn hR i hi)))) (by decide) (by decide +kernel) rfl dX2_fits_11 ?_
  refine q_icmp_lt (tgt := 39) X (hP.tok 2 1 p0 rfl) (hP.tok 3 1 ((C 0 1 ((C 1 0 i - 1).toNat) - 1).toNat) rfl) dX2_fits_14 (by decide) (fun h_1 => ?_) (fun h_1 => ?_)
  · refine lv_iconst (v := iI (0)) X.1 X.2.1 dX2_fits_39 rfl ?_
    exact q_zret X hr hlocks hP hS (z := (0)) (by decide) ⟨rfl, Or.inr ⟨by unfold c_fits c_tik c_job; omega, rfl⟩⟩ (Nat.le_of_ble_eq_true rfl) (Nat.le_of_ble_eq_true rfl) dX2_fits_40
  · refine lv_aload_n X.1 X.2.1 dX2_fits_17 rfl (lv_at hl 1 rfl) ?_
    refine q_get (index := 36) (v := .int (iI (C 1 1 i))) X hP 1 1 i rfl rfl (by decide) in1 hi (by decide) (by decide +kernel) rfl dX2_fits_18 ?_
    refine q_if_eq (tgt := 35) X (hP.tok 1 1 i rfl) dX2_fits_21 (by decide) (fun h_2 => ?_) (fun h_2 => ?_)
    · refine lv_iconst (v := iI (1)) X.1 X.2.1 dX2_fits_35 rfl ?_
      refine lv_goto (tgt := 40) X.1 X.2.1 dX2_fits_36 (by decide) ?_
      exact q_zret X hr hlocks hP hS (z := (1)) (by decide) ⟨rfl, Or.inl ⟨by unfold c_fits c_tik c_job; omega, rfl⟩⟩ (Nat.le_of_ble_eq_true rfl) (Nat.le_of_ble_eq_true rfl) dX2_fits_40
    · refine lv_aload_n X.1 X.2.1 dX2_fits_24 rfl (lv_at hl 1 rfl) ?_
      refine q_get (index := 36) (v := .int (iI (C 1 1 i))) X hP 1 1 i rfl rfl (by decide) in1 hi (by decide) (by decide +kernel) rfl dX2_fits_25 ?_
      refine lv_aload_n X.1 X.2.1 dX2_fits_28 rfl (lv_at hl 0 rfl) ?_
      refine q_get (index := 9) (v := .int (iI (C 2 0 p0))) X hP 2 0 p0 rfl rfl (by decide) in2 hp (by decide) (by decide +kernel) rfl dX2_fits_29 ?_
      refine q_icmp_ne (tgt := 39) X (hP.tok 1 1 i rfl) (hP.tok 2 0 p0 rfl) dX2_fits_32 (by decide) (fun h_3 => ?_) (fun h_3 => ?_)
      · refine lv_iconst (v := iI (0)) X.1 X.2.1 dX2_fits_39 rfl ?_
        exact q_zret X hr hlocks hP hS (z := (0)) (by decide) ⟨rfl, Or.inr ⟨by unfold c_fits c_tik c_job; omega, rfl⟩⟩ (Nat.le_of_ble_eq_true rfl) (Nat.le_of_ble_eq_true rfl) dX2_fits_40
      · refine lv_iconst (v := iI (1)) X.1 X.2.1 dX2_fits_35 rfl ?_
        refine lv_goto (tgt := 40) X.1 X.2.1 dX2_fits_36 (by decide) ?_
        exact q_zret X hr hlocks hP hS (z := (1)) (by decide) ⟨rfl, Or.inl ⟨by unfold c_fits c_tik c_job; omega, rfl⟩⟩ (Nat.le_of_ble_eq_true rfl) (Nat.le_of_ble_eq_true rfl) dX2_fits_40
set_option maxHeartbeats 4000000 in
set_option maxRecDepth 100000 in
theorem w_X0_partsHad {p : Program} {l : Launch} {e : Env} {s : State} {m : MethodId} {args : Array Value} {below : List Frame} {meth : Method} {c : Code} {Q : State → Prop} {g : q_G} {s0 : Nat} {n : Nat → Nat} {ad : Nat → Nat → Nat} {C : q_S} (X : q_X p s m args c cX0_partsHad 3 wsX0_partsHad RX0 g s0) (in0 : ∀ w ∈ wsX00, w ∈ wsX0_partsHad) (in1 : ∀ w ∈ wsX10, w ∈ wsX0_partsHad) (c0 : Nat) (hR : c_R C n c0) (j : Nat) (hj : j < n 0) (kx : ∀  (H : Heap) (locs : List Loc) (ls : Array Slot), q_P g s0 n ad C H → va_S (q_A s0) s.heap H locs → lv_has ls 3 [(1, .int (iI (c_acc C j (fun _ => 1) (n 1)))), (0, .ref (ad 0 j))] → W p l e ({ frames := 0, cells := 0, slots := 0, locals := 0 }) s m args below meth c H locs 0 0 Q (F0 m 22 ls [])) :
    ∀ (N : Nat) (k : Nat) (H : Heap) (locs : List Loc) (ls : Array Slot), (n 1 < k + N) → (k ≤ n 1) → q_P g s0 n ad C H → va_S (q_A s0) s.heap H locs → lv_has ls 3 [(2, va_rf (q_rf ad 1 (c_find C j (n 1 - k) k))), (1, .int (iI (c_acc C j (fun _ => 1) k))), (0, .ref (ad 0 j))] → W p l e ({ frames := 0, cells := 0, slots := 0, locals := 0 }) s m args below meth c H locs 0 0 Q (F0 m 7 ls []) := by
  intro N
  induction N with
  | zero =>
    intro k H locs ls h1 h2 hP hS hl
    exact absurd h1 (by omega)
  | succ N ih =>
    intro k H locs ls h1 h2 hP hS hl
    rcases c_find_c C j (n 1 - k) k with ⟨hv, hnone⟩ | ⟨i, hv, hki, hin, hjb, hbet⟩
    · rw [hv] at hl
      have hl : lv_has ls 3 [(2, .null), (1, .int (iI (c_acc C j (fun _ => 1) k))), (0, .ref (ad 0 j))] := hl
      have e_1 : (c_acc C j (fun _ => 1) k) = (c_acc C j (fun _ => 1) (n 1)) := by exact (c_skip (fun k => (c_acc C j (fun _ => 1) k)) C j (fun k h => c_acc_s C j _ k h) h2 (fun i h5 h6 => hnone i h5 (by omega))).symm
      have hl : lv_has ls 3 [(2, .null), (1, .int (iI (c_acc C j (fun _ => 1) (n 1)))), (0, .ref (ad 0 j))] := lv_cong (show lv_has ls 3 [(2, .null), (1, .int (iI (c_acc C j (fun _ => 1) k))), (0, .ref (ad 0 j))] from lv_sub hl [0, 1, 2] rfl) (lv_cs rfl (lv_cs (congrArg (fun z => Value.int (iI z)) e_1) (lv_cs rfl rfl)))
      refine lv_aload_nN X.1 X.2.1 dX0_partsHad_7 rfl (lv_at hl 0 rfl) ?_
      refine lv_ifnullN (tgt := 22) X.1 X.2.1 dX0_partsHad_8 (by decide) ?_
      have hl : lv_has ls 3 [(1, .int (iI (c_acc C j (fun _ => 1) (n 1)))), (0, .ref (ad 0 j))] := lv_sub hl [1, 2] rfl
      exact kx _ _ ls hP hS hl
    · rw [hv, q_rf2] at hl
      have hl : lv_has ls 3 [(2, .ref (ad 1 i)), (1, .int (iI (c_acc C j (fun _ => 1) k))), (0, .ref (ad 0 j))] := hl
      have hi : i < n 1 := by omega
      have e_2 : (c_acc C j (fun _ => 1) k) = (c_acc C j (fun _ => 1) i) := by exact (c_skip (fun k => (c_acc C j (fun _ => 1) k)) C j (fun k h => c_acc_s C j _ k h) hki hbet).symm
      have hl : lv_has ls 3 [(2, .ref (ad 1 i)), (1, .int (iI (c_acc C j (fun _ => 1) i))), (0, .ref (ad 0 j))] := lv_cong (show lv_has ls 3 [(2, .ref (ad 1 i)), (1, .int (iI (c_acc C j (fun _ => 1) k))), (0, .ref (ad 0 j))] from lv_sub hl [0, 1, 2] rfl) (lv_cs rfl (lv_cs (congrArg (fun z => Value.int (iI z)) e_2) (lv_cs rfl rfl)))
      refine lv_aload_n X.1 X.2.1 dX0_partsHad_7 rfl (lv_at hl 0 rfl) ?_
      refine lv_ifnull X.1 X.2.1 dX0_partsHad_8 ?_
      refine q_iinc (lv' := [(1, .int (iI ((c_acc C j (fun _ => 1) i) + 1))), (2, .ref (ad 1 i)), (0, .ref (ad 0 j))]) (k := 1) X dX0_partsHad_11 hl rfl (by decide) rfl (fun ls hl => ?_)
      refine lv_aload_n X.1 X.2.1 dX0_partsHad_14 rfl (lv_at hl 1 rfl) ?_
      refine q_get (index := 38) (v := va_rf (q_rf ad 1 (c_find C j (n 1 - (i + 1)) (i + 1)))) X hP 1 6 i rfl rfl (by decide) in1 hi (by decide) (by decide +kernel) (q_vch ad 1 (c_R16 hR i j hi hjb)) dX0_partsHad_15 ?_
      refine q_astore_n (lv' := [(2, va_rf (q_rf ad 1 (c_find C j (n 1 - (i + 1)) (i + 1)))), (1, .int (iI ((c_acc C j (fun _ => 1) i) + 1))), (0, .ref (ad 0 j))]) X dX0_partsHad_18 rfl hl (by decide) rfl (fun ls hl => ?_)
      refine lv_goto (tgt := 7) X.1 X.2.1 dX0_partsHad_19 (by decide) ?_
      have e_3 : ((c_acc C j (fun _ => 1) i) + 1) = (c_acc C j (fun _ => 1) (i + 1)) := by rw [c_acc, if_pos hjb]
      have hl : lv_has ls 3 [(2, va_rf (q_rf ad 1 (c_find C j (n 1 - (i + 1)) (i + 1)))), (1, .int (iI (c_acc C j (fun _ => 1) (i + 1)))), (0, .ref (ad 0 j))] := lv_cong (show lv_has ls 3 [(2, va_rf (q_rf ad 1 (c_find C j (n 1 - (i + 1)) (i + 1)))), (1, .int (iI ((c_acc C j (fun _ => 1) i) + 1))), (0, .ref (ad 0 j))] from lv_sub hl [0, 1, 2] rfl) (lv_cs rfl (lv_cs (congrArg (fun z => Value.int (iI z)) e_3) (lv_cs rfl rfl)))
      exact ih (i + 1) _ _ ls (by omega) (by omega) hP hS hl
set_option maxHeartbeats 4000000 in
set_option maxRecDepth 100000 in
theorem c_X0_partsHad (l : Launch) (g : q_G) (s0 : Nat) (n : Nat → Nat) (ad : Nat → Nat → Nat) (C : q_S) (c0 : Nat) (hR : c_R C n c0) (j : Nat) (hj : j < n 0) : Met l yX0_partsHad wsX0_partsHad ({ frames := 0, cells := 0, slots := 0, locals := 0 }) (va_Pc [.ref (ad 0 j)] (q_B g s0 (n, ad, C))) (va_Qi (fun r u => u = (n, ad, C) ∧ r = iI (c_acc C j (fun _ => 1) (n 1))) (q_B g s0) (q_A s0)) 0 0 (q_A s0) := by
  refine Met.ofW (cc := cX0_partsHad) (maxL := 3) (ret := (some .int)) (by decide) rfl ?_
  intro p e s m args below meth c s₁ B hml hv
  obtain ⟨rfl, hv⟩ := hv
  have hr := B.returns
  have hlocks := B.notSynchronized
  obtain ⟨X, hP⟩ := q_start B.exec B.bytes hml (show s.vm.findClass RX0 = some m.cls from findClass_of_methodNamed B.named) (atoms_spec (ws := wsX0_partsHad) B.pre) hv
  have hP : q_P g s0 n ad C s.heap := hP
  have hS : va_S (q_A s0) s.heap s.heap [] := va_S.rf
  have in0 : ∀ w ∈ wsX00, w ∈ wsX0_partsHad := by decide +kernel
  have in1 : ∀ w ∈ wsX10, w ∈ wsX0_partsHad := by decide +kernel
  have hl := lv_entry ([.ref (ad 0 j)]) (n := 3) (Nat.le_of_ble_eq_true rfl)
  rw [lg_entry_eq]
  generalize (lg_sl ([.ref (ad 0 j)]) ++ List.replicate (3 - (lg_sl ([.ref (ad 0 j)])).length) Slot.unset).toArray = ls at hl ⊢
  have hl : lv_has ls 3 [(0, .ref (ad 0 j))] := hl
  refine lv_iconst (v := iI (0)) X.1 X.2.1 dX0_partsHad_0 rfl ?_
  refine lv_istore_n (lv' := [(1, .int (iI (0))), (0, .ref (ad 0 j))]) X.1 X.2.1 dX0_partsHad_1 rfl hl (by decide) rfl (fun ls hl => ?_)
  refine lv_aload_n X.1 X.2.1 dX0_partsHad_2 rfl (lv_at hl 1 rfl) ?_
  refine q_get (index := 29) (v := va_rf (q_rf ad 1 (c_find C j (n 1) 0))) X hP 0 7 j rfl rfl (by decide) in0 hj (by decide) (by decide +kernel) (q_vch ad 1 (c_R07 hR j hj)) dX0_partsHad_3 ?_
  refine q_astore_n (lv' := [(2, va_rf (q_rf ad 1 (c_find C j (n 1) 0))), (1, .int (iI (0))), (0, .ref (ad 0 j))]) X dX0_partsHad_6 rfl hl (by decide) rfl (fun ls hl => ?_)
  have e_1 : (va_rf (q_rf ad 1 (c_find C j (n 1) 0)) : Value) = va_rf (q_rf ad 1 (c_find C j (n 1 - 0) 0)) := by rfl
  have e_2 : (0) = (c_acc C j (fun _ => 1) 0) := by rfl
  have hl : lv_has ls 3 [(2, va_rf (q_rf ad 1 (c_find C j (n 1 - 0) 0))), (1, .int (iI (c_acc C j (fun _ => 1) 0))), (0, .ref (ad 0 j))] := lv_cong (show lv_has ls 3 [(2, va_rf (q_rf ad 1 (c_find C j (n 1) 0))), (1, .int (iI (0))), (0, .ref (ad 0 j))] from lv_sub hl [0, 1, 2] rfl) (lv_cs e_1 (lv_cs (congrArg (fun z => Value.int (iI z)) e_2) (lv_cs rfl rfl)))
  refine w_X0_partsHad X in0 in1 c0 hR j hj (fun H locs ls hP hS hl => ?_) (n 1 + 1) 0 _ _ ls (by omega) (by omega) hP hS hl
  refine lv_iload_n X.1 X.2.1 dX0_partsHad_22 rfl (lv_at hl 0 rfl) ?_
  exact q_iret X hr hlocks hP hS ⟨rfl, rfl⟩ (Nat.le_of_ble_eq_true rfl) (Nat.le_of_ble_eq_true rfl) dX0_partsHad_23
set_option maxHeartbeats 4000000 in
set_option maxRecDepth 100000 in
theorem w_X0_wholeCopies {p : Program} {l : Launch} {e : Env} {s : State} {m : MethodId} {args : Array Value} {below : List Frame} {meth : Method} {c : Code} {Q : State → Prop} {g : q_G} {s0 : Nat} {n : Nat → Nat} {ad : Nat → Nat → Nat} {C : q_S} (X : q_X p s m args c cX0_wholeCopies 3 wsX0_wholeCopies RX0 g s0) (in0 : ∀ w ∈ wsX00, w ∈ wsX0_wholeCopies) (in1 : ∀ w ∈ wsX10, w ∈ wsX0_wholeCopies) (c0 : Nat) (hR : c_R C n c0) (j : Nat) (hj : j < n 0) (kx : ∀  (H : Heap) (locs : List Loc) (ls : Array Slot), q_P g s0 n ad C H → va_S (q_A s0) s.heap H locs → lv_has ls 3 [(1, .int (iI (c_acc C j (fun k => C 1 4 k) (n 1)))), (0, .ref (ad 0 j))] → W p l e ({ frames := 0, cells := 0, slots := 0, locals := 0 }) s m args below meth c H locs 0 0 Q (F0 m 26 ls [])) :
    ∀ (N : Nat) (k : Nat) (H : Heap) (locs : List Loc) (ls : Array Slot), (n 1 < k + N) → (k ≤ n 1) → q_P g s0 n ad C H → va_S (q_A s0) s.heap H locs → lv_has ls 3 [(2, va_rf (q_rf ad 1 (c_find C j (n 1 - k) k))), (1, .int (iI (c_acc C j (fun k => C 1 4 k) k))), (0, .ref (ad 0 j))] → W p l e ({ frames := 0, cells := 0, slots := 0, locals := 0 }) s m args below meth c H locs 0 0 Q (F0 m 7 ls []) := by
  intro N
  induction N with
  | zero =>
    intro k H locs ls h1 h2 hP hS hl
    exact absurd h1 (by omega)
  | succ N ih =>
    intro k H locs ls h1 h2 hP hS hl
    rcases c_find_c C j (n 1 - k) k with ⟨hv, hnone⟩ | ⟨i, hv, hki, hin, hjb, hbet⟩
    · rw [hv] at hl
      have hl : lv_has ls 3 [(2, .null), (1, .int (iI (c_acc C j (fun k => C 1 4 k) k))), (0, .ref (ad 0 j))] := hl
      have e_1 : (c_acc C j (fun k => C 1 4 k) k) = (c_acc C j (fun k => C 1 4 k) (n 1)) := by exact (c_skip (fun k => (c_acc C j (fun k => C 1 4 k) k)) C j (fun k h => c_acc_s C j _ k h) h2 (fun i h5 h6 => hnone i h5 (by omega))).symm
      have hl : lv_has ls 3 [(2, .null), (1, .int (iI (c_acc C j (fun k => C 1 4 k) (n 1)))), (0, .ref (ad 0 j))] := lv_cong (show lv_has ls 3 [(2, .null), (1, .int (iI (c_acc C j (fun k => C 1 4 k) k))), (0, .ref (ad 0 j))] from lv_sub hl [0, 1, 2] rfl) (lv_cs rfl (lv_cs (congrArg (fun z => Value.int (iI z)) e_1) (lv_cs rfl rfl)))
      refine lv_aload_nN X.1 X.2.1 dX0_wholeCopies_7 rfl (lv_at hl 0 rfl) ?_
      refine lv_ifnullN (tgt := 26) X.1 X.2.1 dX0_wholeCopies_8 (by decide) ?_
      have hl : lv_has ls 3 [(1, .int (iI (c_acc C j (fun k => C 1 4 k) (n 1)))), (0, .ref (ad 0 j))] := lv_sub hl [1, 2] rfl
      exact kx _ _ ls hP hS hl
    · rw [hv, q_rf2] at hl
      have hl : lv_has ls 3 [(2, .ref (ad 1 i)), (1, .int (iI (c_acc C j (fun k => C 1 4 k) k))), (0, .ref (ad 0 j))] := hl
      have hi : i < n 1 := by omega
      have e_2 : (c_acc C j (fun k => C 1 4 k) k) = (c_acc C j (fun k => C 1 4 k) i) := by exact (c_skip (fun k => (c_acc C j (fun k => C 1 4 k) k)) C j (fun k h => c_acc_s C j _ k h) hki hbet).symm
      have hl : lv_has ls 3 [(2, .ref (ad 1 i)), (1, .int (iI (c_acc C j (fun k => C 1 4 k) i))), (0, .ref (ad 0 j))] := lv_cong (show lv_has ls 3 [(2, .ref (ad 1 i)), (1, .int (iI (c_acc C j (fun k => C 1 4 k) k))), (0, .ref (ad 0 j))] from lv_sub hl [0, 1, 2] rfl) (lv_cs rfl (lv_cs (congrArg (fun z => Value.int (iI z)) e_2) (lv_cs rfl rfl)))
      refine lv_aload_n X.1 X.2.1 dX0_wholeCopies_7 rfl (lv_at hl 0 rfl) ?_
      refine lv_ifnull X.1 X.2.1 dX0_wholeCopies_8 ?_
      refine lv_iload_n X.1 X.2.1 dX0_wholeCopies_11 rfl (lv_at hl 1 rfl) ?_
      refine lv_aload_n X.1 X.2.1 dX0_wholeCopies_12 rfl (lv_at hl 0 rfl) ?_
      refine q_get (index := 41) (v := .int (iI (C 1 4 i))) X hP 1 4 i rfl rfl (by decide) in1 hi (by decide) (by decide +kernel) rfl dX0_wholeCopies_13 ?_
      have f_3 := c_R14 hR i
      refine q_iadd X dX0_wholeCopies_16 ?_
      refine lv_istore_n (lv' := [(1, .int (iI ((c_acc C j (fun k => C 1 4 k) i) + (C 1 4 i)))), (2, .ref (ad 1 i)), (0, .ref (ad 0 j))]) X.1 X.2.1 dX0_wholeCopies_17 rfl hl (by decide) rfl (fun ls hl => ?_)
      refine lv_aload_n X.1 X.2.1 dX0_wholeCopies_18 rfl (lv_at hl 1 rfl) ?_
      refine q_get (index := 38) (v := va_rf (q_rf ad 1 (c_find C j (n 1 - (i + 1)) (i + 1)))) X hP 1 6 i rfl rfl (by decide) in1 hi (by decide) (by decide +kernel) (q_vch ad 1 (c_R16 hR i j hi hjb)) dX0_wholeCopies_19 ?_
      refine q_astore_n (lv' := [(2, va_rf (q_rf ad 1 (c_find C j (n 1 - (i + 1)) (i + 1)))), (1, .int (iI ((c_acc C j (fun k => C 1 4 k) i) + (C 1 4 i)))), (0, .ref (ad 0 j))]) X dX0_wholeCopies_22 rfl hl (by decide) rfl (fun ls hl => ?_)
      refine lv_goto (tgt := 7) X.1 X.2.1 dX0_wholeCopies_23 (by decide) ?_
      have e_4 : ((c_acc C j (fun k => C 1 4 k) i) + (C 1 4 i)) = (c_acc C j (fun k => C 1 4 k) (i + 1)) := by rw [c_acc, if_pos hjb]
      have hl : lv_has ls 3 [(2, va_rf (q_rf ad 1 (c_find C j (n 1 - (i + 1)) (i + 1)))), (1, .int (iI (c_acc C j (fun k => C 1 4 k) (i + 1)))), (0, .ref (ad 0 j))] := lv_cong (show lv_has ls 3 [(2, va_rf (q_rf ad 1 (c_find C j (n 1 - (i + 1)) (i + 1)))), (1, .int (iI ((c_acc C j (fun k => C 1 4 k) i) + (C 1 4 i)))), (0, .ref (ad 0 j))] from lv_sub hl [0, 1, 2] rfl) (lv_cs rfl (lv_cs (congrArg (fun z => Value.int (iI z)) e_4) (lv_cs rfl rfl)))
      exact ih (i + 1) _ _ ls (by omega) (by omega) hP hS hl
set_option maxHeartbeats 4000000 in
set_option maxRecDepth 100000 in
theorem c_X0_wholeCopies (l : Launch) (g : q_G) (s0 : Nat) (n : Nat → Nat) (ad : Nat → Nat → Nat) (C : q_S) (c0 : Nat) (hR : c_R C n c0) (j : Nat) (hj : j < n 0) : Met l yX0_wholeCopies wsX0_wholeCopies ({ frames := 0, cells := 0, slots := 0, locals := 0 }) (va_Pc [.ref (ad 0 j)] (q_B g s0 (n, ad, C))) (va_Qi (fun r u => u = (n, ad, C) ∧ r = iI (c_acc C j (fun k => C 1 4 k) (n 1))) (q_B g s0) (q_A s0)) 0 0 (q_A s0) := by
  refine Met.ofW (cc := cX0_wholeCopies) (maxL := 3) (ret := (some .int)) (by decide) rfl ?_
  intro p e s m args below meth c s₁ B hml hv
  obtain ⟨rfl, hv⟩ := hv
  have hr := B.returns
  have hlocks := B.notSynchronized
  obtain ⟨X, hP⟩ := q_start B.exec B.bytes hml (show s.vm.findClass RX0 = some m.cls from findClass_of_methodNamed B.named) (atoms_spec (ws := wsX0_wholeCopies) B.pre) hv
  have hP : q_P g s0 n ad C s.heap := hP
  have hS : va_S (q_A s0) s.heap s.heap [] := va_S.rf
  have in0 : ∀ w ∈ wsX00, w ∈ wsX0_wholeCopies := by decide +kernel
  have in1 : ∀ w ∈ wsX10, w ∈ wsX0_wholeCopies := by decide +kernel
  have hl := lv_entry ([.ref (ad 0 j)]) (n := 3) (Nat.le_of_ble_eq_true rfl)
  rw [lg_entry_eq]
  generalize (lg_sl ([.ref (ad 0 j)]) ++ List.replicate (3 - (lg_sl ([.ref (ad 0 j)])).length) Slot.unset).toArray = ls at hl ⊢
  have hl : lv_has ls 3 [(0, .ref (ad 0 j))] := hl
  refine lv_iconst (v := iI (0)) X.1 X.2.1 dX0_wholeCopies_0 rfl ?_
  refine lv_istore_n (lv' := [(1, .int (iI (0))), (0, .ref (ad 0 j))]) X.1 X.2.1 dX0_wholeCopies_1 rfl hl (by decide) rfl (fun ls hl => ?_)
  refine lv_aload_n X.1 X.2.1 dX0_wholeCopies_2 rfl (lv_at hl 1 rfl) ?_
  refine q_get (index := 29) (v := va_rf (q_rf ad 1 (c_find C j (n 1) 0))) X hP 0 7 j rfl rfl (by decide) in0 hj (by decide) (by decide +kernel) (q_vch ad 1 (c_R07 hR j hj)) dX0_wholeCopies_3 ?_
  refine q_astore_n (lv' := [(2, va_rf (q_rf ad 1 (c_find C j (n 1) 0))), (1, .int (iI (0))), (0, .ref (ad 0 j))]) X dX0_wholeCopies_6 rfl hl (by decide) rfl (fun ls hl => ?_)
  have e_1 : (va_rf (q_rf ad 1 (c_find C j (n 1) 0)) : Value) = va_rf (q_rf ad 1 (c_find C j (n 1 - 0) 0)) := by rfl
  have e_2 : (0) = (c_acc C j (fun k => C 1 4 k) 0) := by rfl
  have hl : lv_has ls 3 [(2, va_rf (q_rf ad 1 (c_find C j (n 1 - 0) 0))), (1, .int (iI (c_acc C j (fun k => C 1 4 k) 0))), (0, .ref (ad 0 j))] := lv_cong (show lv_has ls 3 [(2, va_rf (q_rf ad 1 (c_find C j (n 1) 0))), (1, .int (iI (0))), (0, .ref (ad 0 j))] from lv_sub hl [0, 1, 2] rfl) (lv_cs e_1 (lv_cs (congrArg (fun z => Value.int (iI z)) e_2) (lv_cs rfl rfl)))
  refine w_X0_wholeCopies X in0 in1 c0 hR j hj (fun H locs ls hP hS hl => ?_) (n 1 + 1) 0 _ _ ls (by omega) (by omega) hP hS hl
  refine lv_iload_n X.1 X.2.1 dX0_wholeCopies_26 rfl (lv_at hl 0 rfl) ?_
  exact q_iret X hr hlocks hP hS ⟨rfl, rfl⟩ (Nat.le_of_ble_eq_true rfl) (Nat.le_of_ble_eq_true rfl) dX0_wholeCopies_27
set_option maxHeartbeats 4000000 in
set_option maxRecDepth 100000 in
theorem w_X0_pagesThatCount {p : Program} {l : Launch} {e : Env} {s : State} {m : MethodId} {args : Array Value} {below : List Frame} {meth : Method} {c : Code} {Q : State → Prop} {g : q_G} {s0 : Nat} {n : Nat → Nat} {ad : Nat → Nat → Nat} {C : q_S} (X : q_X p s m args c cX0_pagesThatCount 3 wsX0_pagesThatCount RX0 g s0) (in0 : ∀ w ∈ wsX00, w ∈ wsX0_pagesThatCount) (in1 : ∀ w ∈ wsX10, w ∈ wsX0_pagesThatCount) (c0 : Nat) (hR : c_R C n c0) (j : Nat) (hj : j < n 0) (kx : ∀  (H : Heap) (locs : List Loc) (ls : Array Slot), q_P g s0 n ad C H → va_S (q_A s0) s.heap H locs → lv_has ls 3 [(1, .int (iI (c_acc C j (fun k => C 1 4 k * C 0 2 j + C 1 5 k) (n 1)))), (0, .ref (ad 0 j))] → W p l e ({ frames := 0, cells := 0, slots := 0, locals := 0 }) s m args below meth c H locs 0 0 Q (F0 m 36 ls [])) :
    ∀ (N : Nat) (k : Nat) (H : Heap) (locs : List Loc) (ls : Array Slot), (n 1 < k + N) → (k ≤ n 1) → q_P g s0 n ad C H → va_S (q_A s0) s.heap H locs → lv_has ls 3 [(2, va_rf (q_rf ad 1 (c_find C j (n 1 - k) k))), (1, .int (iI (c_acc C j (fun k => C 1 4 k * C 0 2 j + C 1 5 k) k))), (0, .ref (ad 0 j))] → W p l e ({ frames := 0, cells := 0, slots := 0, locals := 0 }) s m args below meth c H locs 0 0 Q (F0 m 7 ls []) := by
  intro N
  induction N with
  | zero =>
    intro k H locs ls h1 h2 hP hS hl
    exact absurd h1 (by omega)
  | succ N ih =>
    intro k H locs ls h1 h2 hP hS hl
    rcases c_find_c C j (n 1 - k) k with ⟨hv, hnone⟩ | ⟨i, hv, hki, hin, hjb, hbet⟩
    · rw [hv] at hl
      have hl : lv_has ls 3 [(2, .null), (1, .int (iI (c_acc C j (fun k => C 1 4 k * C 0 2 j + C 1 5 k) k))), (0, .ref (ad 0 j))] := hl
      have e_1 : (c_acc C j (fun k => C 1 4 k * C 0 2 j + C 1 5 k) k) = (c_acc C j (fun k => C 1 4 k * C 0 2 j + C 1 5 k) (n 1)) := by exact (c_skip (fun k => (c_acc C j (fun k => C 1 4 k * C 0 2 j + C 1 5 k) k)) C j (fun k h => c_acc_s C j _ k h) h2 (fun i h5 h6 => hnone i h5 (by omega))).symm
      have hl : lv_has ls 3 [(2, .null), (1, .int (iI (c_acc C j (fun k => C 1 4 k * C 0 2 j + C 1 5 k) (n 1)))), (0, .ref (ad 0 j))] := lv_cong (show lv_has ls 3 [(2, .null), (1, .int (iI (c_acc C j (fun k => C 1 4 k * C 0 2 j + C 1 5 k) k))), (0, .ref (ad 0 j))] from lv_sub hl [0, 1, 2] rfl) (lv_cs rfl (lv_cs (congrArg (fun z => Value.int (iI z)) e_1) (lv_cs rfl rfl)))
      refine lv_aload_nN X.1 X.2.1 dX0_pagesThatCount_7 rfl (lv_at hl 0 rfl) ?_
      refine lv_ifnullN (tgt := 36) X.1 X.2.1 dX0_pagesThatCount_8 (by decide) ?_
      have hl : lv_has ls 3 [(1, .int (iI (c_acc C j (fun k => C 1 4 k * C 0 2 j + C 1 5 k) (n 1)))), (0, .ref (ad 0 j))] := lv_sub hl [1, 2] rfl
      exact kx _ _ ls hP hS hl
    · rw [hv, q_rf2] at hl
      have hl : lv_has ls 3 [(2, .ref (ad 1 i)), (1, .int (iI (c_acc C j (fun k => C 1 4 k * C 0 2 j + C 1 5 k) k))), (0, .ref (ad 0 j))] := hl
      have hi : i < n 1 := by omega
      have e_2 : (c_acc C j (fun k => C 1 4 k * C 0 2 j + C 1 5 k) k) = (c_acc C j (fun k => C 1 4 k * C 0 2 j + C 1 5 k) i) := by exact (c_skip (fun k => (c_acc C j (fun k => C 1 4 k * C 0 2 j + C 1 5 k) k)) C j (fun k h => c_acc_s C j _ k h) hki hbet).symm
      have hl : lv_has ls 3 [(2, .ref (ad 1 i)), (1, .int (iI (c_acc C j (fun k => C 1 4 k * C 0 2 j + C 1 5 k) i))), (0, .ref (ad 0 j))] := lv_cong (show lv_has ls 3 [(2, .ref (ad 1 i)), (1, .int (iI (c_acc C j (fun k => C 1 4 k * C 0 2 j + C 1 5 k) k))), (0, .ref (ad 0 j))] from lv_sub hl [0, 1, 2] rfl) (lv_cs rfl (lv_cs (congrArg (fun z => Value.int (iI z)) e_2) (lv_cs rfl rfl)))
      refine lv_aload_n X.1 X.2.1 dX0_pagesThatCount_7 rfl (lv_at hl 0 rfl) ?_
      refine lv_ifnull X.1 X.2.1 dX0_pagesThatCount_8 ?_
      refine lv_iload_n X.1 X.2.1 dX0_pagesThatCount_11 rfl (lv_at hl 1 rfl) ?_
      refine lv_aload_n X.1 X.2.1 dX0_pagesThatCount_12 rfl (lv_at hl 0 rfl) ?_
      refine q_get (index := 41) (v := .int (iI (C 1 4 i))) X hP 1 4 i rfl rfl (by decide) in1 hi (by decide) (by decide +kernel) rfl dX0_pagesThatCount_13 ?_
      have f_3 := c_R14 hR i
      refine lv_aload_n X.1 X.2.1 dX0_pagesThatCount_16 rfl (lv_at hl 2 rfl) ?_
      refine q_get (index := 19) (v := .int (iI (C 0 2 j))) X hP 0 2 j rfl rfl (by decide) in0 hj (by decide) (by decide +kernel) rfl dX0_pagesThatCount_17 ?_
      have f_4 := c_R02 hR j
      refine q_imul X dX0_pagesThatCount_20 ?_
      refine lv_aload_n X.1 X.2.1 dX0_pagesThatCount_21 rfl (lv_at hl 0 rfl) ?_
      refine q_get (index := 44) (v := .int (iI (C 1 5 i))) X hP 1 5 i rfl rfl (by decide) in1 hi (by decide) (by decide +kernel) rfl dX0_pagesThatCount_22 ?_
      have f_5 := c_R15 hR i
      refine q_iadd X dX0_pagesThatCount_25 ?_
      refine q_iadd X dX0_pagesThatCount_26 ?_
      refine lv_istore_n (lv' := [(1, .int (iI ((c_acc C j (fun k => C 1 4 k * C 0 2 j + C 1 5 k) i) + (((C 1 4 i) * (C 0 2 j)) + (C 1 5 i))))), (2, .ref (ad 1 i)), (0, .ref (ad 0 j))]) X.1 X.2.1 dX0_pagesThatCount_27 rfl hl (by decide) rfl (fun ls hl => ?_)
      refine lv_aload_n X.1 X.2.1 dX0_pagesThatCount_28 rfl (lv_at hl 1 rfl) ?_
      refine q_get (index := 38) (v := va_rf (q_rf ad 1 (c_find C j (n 1 - (i + 1)) (i + 1)))) X hP 1 6 i rfl rfl (by decide) in1 hi (by decide) (by decide +kernel) (q_vch ad 1 (c_R16 hR i j hi hjb)) dX0_pagesThatCount_29 ?_
      refine q_astore_n (lv' := [(2, va_rf (q_rf ad 1 (c_find C j (n 1 - (i + 1)) (i + 1)))), (1, .int (iI ((c_acc C j (fun k => C 1 4 k * C 0 2 j + C 1 5 k) i) + (((C 1 4 i) * (C 0 2 j)) + (C 1 5 i))))), (0, .ref (ad 0 j))]) X dX0_pagesThatCount_32 rfl hl (by decide) rfl (fun ls hl => ?_)
      refine lv_goto (tgt := 7) X.1 X.2.1 dX0_pagesThatCount_33 (by decide) ?_
      have e_6 : ((c_acc C j (fun k => C 1 4 k * C 0 2 j + C 1 5 k) i) + (((C 1 4 i) * (C 0 2 j)) + (C 1 5 i))) = (c_acc C j (fun k => C 1 4 k * C 0 2 j + C 1 5 k) (i + 1)) := by rw [c_acc, if_pos hjb]
      have hl : lv_has ls 3 [(2, va_rf (q_rf ad 1 (c_find C j (n 1 - (i + 1)) (i + 1)))), (1, .int (iI (c_acc C j (fun k => C 1 4 k * C 0 2 j + C 1 5 k) (i + 1)))), (0, .ref (ad 0 j))] := lv_cong (show lv_has ls 3 [(2, va_rf (q_rf ad 1 (c_find C j (n 1 - (i + 1)) (i + 1)))), (1, .int (iI ((c_acc C j (fun k => C 1 4 k * C 0 2 j + C 1 5 k) i) + (((C 1 4 i) * (C 0 2 j)) + (C 1 5 i))))), (0, .ref (ad 0 j))] from lv_sub hl [0, 1, 2] rfl) (lv_cs rfl (lv_cs (congrArg (fun z => Value.int (iI z)) e_6) (lv_cs rfl rfl)))
      exact ih (i + 1) _ _ ls (by omega) (by omega) hP hS hl
set_option maxHeartbeats 4000000 in
set_option maxRecDepth 100000 in
theorem c_X0_pagesThatCount (l : Launch) (g : q_G) (s0 : Nat) (n : Nat → Nat) (ad : Nat → Nat → Nat) (C : q_S) (c0 : Nat) (hR : c_R C n c0) (j : Nat) (hj : j < n 0) : Met l yX0_pagesThatCount wsX0_pagesThatCount ({ frames := 0, cells := 0, slots := 0, locals := 0 }) (va_Pc [.ref (ad 0 j)] (q_B g s0 (n, ad, C))) (va_Qi (fun r u => u = (n, ad, C) ∧ r = iI (c_acc C j (fun k => C 1 4 k * C 0 2 j + C 1 5 k) (n 1))) (q_B g s0) (q_A s0)) 0 0 (q_A s0) := by
  refine Met.ofW (cc := cX0_pagesThatCount) (maxL := 3) (ret := (some .int)) (by decide) rfl ?_
  intro p e s m args below meth c s₁ B hml hv
  obtain ⟨rfl, hv⟩ := hv
  have hr := B.returns
  have hlocks := B.notSynchronized
  obtain ⟨X, hP⟩ := q_start B.exec B.bytes hml (show s.vm.findClass RX0 = some m.cls from findClass_of_methodNamed B.named) (atoms_spec (ws := wsX0_pagesThatCount) B.pre) hv
  have hP : q_P g s0 n ad C s.heap := hP
  have hS : va_S (q_A s0) s.heap s.heap [] := va_S.rf
  have in0 : ∀ w ∈ wsX00, w ∈ wsX0_pagesThatCount := by decide +kernel
  have in1 : ∀ w ∈ wsX10, w ∈ wsX0_pagesThatCount := by decide +kernel
  have hl := lv_entry ([.ref (ad 0 j)]) (n := 3) (Nat.le_of_ble_eq_true rfl)
  rw [lg_entry_eq]
  generalize (lg_sl ([.ref (ad 0 j)]) ++ List.replicate (3 - (lg_sl ([.ref (ad 0 j)])).length) Slot.unset).toArray = ls at hl ⊢
  have hl : lv_has ls 3 [(0, .ref (ad 0 j))] := hl
  refine lv_iconst (v := iI (0)) X.1 X.2.1 dX0_pagesThatCount_0 rfl ?_
  refine lv_istore_n (lv' := [(1, .int (iI (0))), (0, .ref (ad 0 j))]) X.1 X.2.1 dX0_pagesThatCount_1 rfl hl (by decide) rfl (fun ls hl => ?_)
  refine lv_aload_n X.1 X.2.1 dX0_pagesThatCount_2 rfl (lv_at hl 1 rfl) ?_
  refine q_get (index := 29) (v := va_rf (q_rf ad 1 (c_find C j (n 1) 0))) X hP 0 7 j rfl rfl (by decide) in0 hj (by decide) (by decide +kernel) (q_vch ad 1 (c_R07 hR j hj)) dX0_pagesThatCount_3 ?_
  refine q_astore_n (lv' := [(2, va_rf (q_rf ad 1 (c_find C j (n 1) 0))), (1, .int (iI (0))), (0, .ref (ad 0 j))]) X dX0_pagesThatCount_6 rfl hl (by decide) rfl (fun ls hl => ?_)
  have e_1 : (va_rf (q_rf ad 1 (c_find C j (n 1) 0)) : Value) = va_rf (q_rf ad 1 (c_find C j (n 1 - 0) 0)) := by rfl
  have e_2 : (0) = (c_acc C j (fun k => C 1 4 k * C 0 2 j + C 1 5 k) 0) := by rfl
  have hl : lv_has ls 3 [(2, va_rf (q_rf ad 1 (c_find C j (n 1 - 0) 0))), (1, .int (iI (c_acc C j (fun k => C 1 4 k * C 0 2 j + C 1 5 k) 0))), (0, .ref (ad 0 j))] := lv_cong (show lv_has ls 3 [(2, va_rf (q_rf ad 1 (c_find C j (n 1) 0))), (1, .int (iI (0))), (0, .ref (ad 0 j))] from lv_sub hl [0, 1, 2] rfl) (lv_cs e_1 (lv_cs (congrArg (fun z => Value.int (iI z)) e_2) (lv_cs rfl rfl)))
  refine w_X0_pagesThatCount X in0 in1 c0 hR j hj (fun H locs ls hP hS hl => ?_) (n 1 + 1) 0 _ _ ls (by omega) (by omega) hP hS hl
  refine lv_iload_n X.1 X.2.1 dX0_pagesThatCount_36 rfl (lv_at hl 0 rfl) ?_
  exact q_iret X hr hlocks hP hS ⟨rfl, rfl⟩ (Nat.le_of_ble_eq_true rfl) (Nat.le_of_ble_eq_true rfl) dX0_pagesThatCount_37
set_option maxHeartbeats 4000000 in
set_option maxRecDepth 100000 in
theorem w_X0_hasPartThat {p : Program} {l : Launch} {e : Env} {s : State} {m : MethodId} {args : Array Value} {below : List Frame} {meth : Method} {c : Code} {Q : State → Prop} {g : q_G} {s0 : Nat} {n : Nat → Nat} {ad : Nat → Nat → Nat} {C : q_S} (X : q_X p s m args c cX0_hasPartThat 3 wsX0_hasPartThat RX0 g s0) (in0 : ∀ w ∈ wsX00, w ∈ wsX0_hasPartThat) (in1 : ∀ w ∈ wsX10, w ∈ wsX0_hasPartThat) (c0 : Nat) (hR : c_R C n c0) (j : Nat) (hj : j < n 0) (a : Int) (ha : R32 a) (kx : ∀  (H : Heap) (locs : List Loc) (ls : Array Slot), ¬ c_hs C n j a → q_P g s0 n ad C H → va_S (q_A s0) s.heap H locs → lv_has ls 3 [(0, .ref (ad 0 j)), (1, .int (iI a))] → W p l e ({ frames := 0, cells := 0, slots := 0, locals := 0 }) s m args below meth c H locs 0 0 Q (F0 m 27 ls [])) (ky : ∀  (H : Heap) (locs : List Loc) (ls : Array Slot), c_hs C n j a → q_P g s0 n ad C H → va_S (q_A s0) s.heap H locs → lv_has ls 3 [(0, .ref (ad 0 j)), (1, .int (iI a))] → W p l e ({ frames := 0, cells := 0, slots := 0, locals := 0 }) s m args below meth c H locs 0 0 Q (F0 m 17 ls [])) :
    ∀ (N : Nat) (k : Nat) (H : Heap) (locs : List Loc) (ls : Array Slot), (n 1 < k + N) → (k ≤ n 1) → (∀ z, z < k → C 1 0 z = (j : Int) + 1 → C 1 3 z = a → False) → q_P g s0 n ad C H → va_S (q_A s0) s.heap H locs → lv_has ls 3 [(2, va_rf (q_rf ad 1 (c_find C j (n 1 - k) k))), (0, .ref (ad 0 j)), (1, .int (iI a))] → W p l e ({ frames := 0, cells := 0, slots := 0, locals := 0 }) s m args below meth c H locs 0 0 Q (F0 m 5 ls []) := by
  intro N
  induction N with
  | zero =>
    intro k H locs ls h1 h2 h3 hP hS hl
    exact absurd h1 (by omega)
  | succ N ih =>
    intro k H locs ls h1 h2 h3 hP hS hl
    rcases c_find_c C j (n 1 - k) k with ⟨hv, hnone⟩ | ⟨i, hv, hki, hin, hjb, hbet⟩
    · rw [hv] at hl
      have hl : lv_has ls 3 [(2, .null), (0, .ref (ad 0 j)), (1, .int (iI a))] := hl
      refine lv_aload_nN X.1 X.2.1 dX0_hasPartThat_5 rfl (lv_at hl 0 rfl) ?_
      refine lv_ifnullN (tgt := 27) X.1 X.2.1 dX0_hasPartThat_6 (by decide) ?_
      have hl : lv_has ls 3 [(0, .ref (ad 0 j)), (1, .int (iI a))] := lv_sub hl [1, 2] rfl
      exact kx _ _ ls (fun q => by obtain ⟨z, z1, z2, z3⟩ := q; exact (if hq : z < k then h3 z hq z2 z3 else hnone z (by omega) (by omega) z2)) hP hS hl
    · rw [hv, q_rf2] at hl
      have hl : lv_has ls 3 [(2, .ref (ad 1 i)), (0, .ref (ad 0 j)), (1, .int (iI a))] := hl
      have hi : i < n 1 := by omega
      refine lv_aload_n X.1 X.2.1 dX0_hasPartThat_5 rfl (lv_at hl 0 rfl) ?_
      refine lv_ifnull X.1 X.2.1 dX0_hasPartThat_6 ?_
      refine lv_aload_n X.1 X.2.1 dX0_hasPartThat_9 rfl (lv_at hl 0 rfl) ?_
      refine q_get (index := 33) (v := .int (iI (C 1 3 i))) X hP 1 3 i rfl rfl (by decide) in1 hi (by decide) (by decide +kernel) rfl dX0_hasPartThat_10 ?_
      refine lv_iload_n X.1 X.2.1 dX0_hasPartThat_13 rfl (lv_at hl 2 rfl) ?_
      refine q_icmp_ne (tgt := 19) X (hP.tok 1 3 i rfl) ha dX0_hasPartThat_14 (by decide) (fun h_1 => ?_) (fun h_1 => ?_)
      · refine lv_aload_n X.1 X.2.1 dX0_hasPartThat_19 rfl (lv_at hl 0 rfl) ?_
        refine q_get (index := 38) (v := va_rf (q_rf ad 1 (c_find C j (n 1 - (i + 1)) (i + 1)))) X hP 1 6 i rfl rfl (by decide) in1 hi (by decide) (by decide +kernel) (q_vch ad 1 (c_R16 hR i j hi hjb)) dX0_hasPartThat_20 ?_
        refine q_astore_n (lv' := [(2, va_rf (q_rf ad 1 (c_find C j (n 1 - (i + 1)) (i + 1)))), (0, .ref (ad 0 j)), (1, .int (iI a))]) X dX0_hasPartThat_23 rfl hl (by decide) rfl (fun ls hl => ?_)
        refine lv_goto (tgt := 5) X.1 X.2.1 dX0_hasPartThat_24 (by decide) ?_
        have hl : lv_has ls 3 [(2, va_rf (q_rf ad 1 (c_find C j (n 1 - (i + 1)) (i + 1)))), (0, .ref (ad 0 j)), (1, .int (iI a))] := lv_sub hl [0, 1, 2] rfl
        exact ih (i + 1) _ _ ls (by omega) (by omega) (fun z hz1 hz2 hz3 => if e1 : z = i then (by subst e1; contradiction) else if hq : z < k then h3 z hq hz2 hz3 else hbet z (by omega) (by omega) hz2) hP hS hl
      · have hl : lv_has ls 3 [(0, .ref (ad 0 j)), (1, .int (iI a))] := lv_sub hl [1, 2] rfl
        exact ky _ _ ls ⟨i, hi, hjb, by assumption⟩ hP hS hl
set_option maxHeartbeats 4000000 in
set_option maxRecDepth 100000 in
theorem c_X0_hasPartThat (l : Launch) (g : q_G) (s0 : Nat) (n : Nat → Nat) (ad : Nat → Nat → Nat) (C : q_S) (c0 : Nat) (hR : c_R C n c0) (j : Nat) (hj : j < n 0) (a : Int) (ha : R32 a) : Met l yX0_hasPartThat wsX0_hasPartThat ({ frames := 0, cells := 0, slots := 0, locals := 0 }) (va_Pc [.ref (ad 0 j), .int (iI a)] (q_B g s0 (n, ad, C))) (va_Qi (fun r u => u = (n, ad, C) ∧ (((c_hs C n j a) ∧ r = iI 1) ∨ (¬ (c_hs C n j a) ∧ r = iI 0))) (q_B g s0) (q_A s0)) 0 0 (q_A s0) := by
  refine Met.ofW (cc := cX0_hasPartThat) (maxL := 3) (ret := (some .boolean)) (by decide) rfl ?_
  intro p e s m args below meth c s₁ B hml hv
  obtain ⟨rfl, hv⟩ := hv
  have hr := B.returns
  have hlocks := B.notSynchronized
  obtain ⟨X, hP⟩ := q_start B.exec B.bytes hml (show s.vm.findClass RX0 = some m.cls from findClass_of_methodNamed B.named) (atoms_spec (ws := wsX0_hasPartThat) B.pre) hv
  have hP : q_P g s0 n ad C s.heap := hP
  have hS : va_S (q_A s0) s.heap s.heap [] := va_S.rf
  have in0 : ∀ w ∈ wsX00, w ∈ wsX0_hasPartThat := by decide +kernel
  have in1 : ∀ w ∈ wsX10, w ∈ wsX0_hasPartThat := by decide +kernel
  have hl := lv_entry ([.ref (ad 0 j), .int (iI a)]) (n := 3) (Nat.le_of_ble_eq_true rfl)
  rw [lg_entry_eq]
  generalize (lg_sl ([.ref (ad 0 j), .int (iI a)]) ++ List.replicate (3 - (lg_sl ([.ref (ad 0 j), .int (iI a)])).length) Slot.unset).toArray = ls at hl ⊢
  have hl : lv_has ls 3 [(0, .ref (ad 0 j)), (1, .int (iI a))] := hl
  refine lv_aload_n X.1 X.2.1 dX0_hasPartThat_0 rfl (lv_at hl 0 rfl) ?_
  refine q_get (index := 29) (v := va_rf (q_rf ad 1 (c_find C j (n 1) 0))) X hP 0 7 j rfl rfl (by decide) in0 hj (by decide) (by decide +kernel) (q_vch ad 1 (c_R07 hR j hj)) dX0_hasPartThat_1 ?_
  refine q_astore_n (lv' := [(2, va_rf (q_rf ad 1 (c_find C j (n 1) 0))), (0, .ref (ad 0 j)), (1, .int (iI a))]) X dX0_hasPartThat_4 rfl hl (by decide) rfl (fun ls hl => ?_)
  have e_1 : (va_rf (q_rf ad 1 (c_find C j (n 1) 0)) : Value) = va_rf (q_rf ad 1 (c_find C j (n 1 - 0) 0)) := by rfl
  have hl : lv_has ls 3 [(2, va_rf (q_rf ad 1 (c_find C j (n 1 - 0) 0))), (0, .ref (ad 0 j)), (1, .int (iI a))] := lv_cong (show lv_has ls 3 [(2, va_rf (q_rf ad 1 (c_find C j (n 1) 0))), (0, .ref (ad 0 j)), (1, .int (iI a))] from lv_sub hl [0, 1, 2] rfl) (lv_cs e_1 (lv_cs rfl (lv_cs rfl rfl)))
  refine w_X0_hasPartThat X in0 in1 c0 hR j hj a ha (fun H locs ls hf hP hS hl => ?_) (fun H locs ls hf hP hS hl => ?_) (n 1 + 1) 0 _ _ ls (by omega) (by omega) (fun z hz => by omega) hP hS hl
  · refine lv_iconst (v := iI (0)) X.1 X.2.1 dX0_hasPartThat_27 rfl ?_
    exact q_zret X hr hlocks hP hS (z := (0)) (by decide) ⟨rfl, Or.inr ⟨hf, rfl⟩⟩ (Nat.le_of_ble_eq_true rfl) (Nat.le_of_ble_eq_true rfl) dX0_hasPartThat_28
  · refine lv_iconst (v := iI (1)) X.1 X.2.1 dX0_hasPartThat_17 rfl ?_
    exact q_zret X hr hlocks hP hS (z := (1)) (by decide) ⟨rfl, Or.inl ⟨hf, rfl⟩⟩ (Nat.le_of_ble_eq_true rfl) (Nat.le_of_ble_eq_true rfl) dX0_hasPartThat_18
set_option maxHeartbeats 4000000 in
set_option maxRecDepth 100000 in
theorem c_X0_condition (l : Launch) (g : q_G) (s0 : Nat) (n : Nat → Nat) (ad : Nat → Nat → Nat) (C : q_S) (c0 : Nat) (hR : c_R C n c0) (j : Nat) (hj : j < n 0) : Met l yX0_condition wsX0_condition ({ frames := 1, cells := 0, slots := 0, locals := 22 }) (va_Pc [.ref (ad 0 j)] (q_B g s0 (n, ad, C))) (va_Qi (fun r u => u = (n, ad, C) ∧ r = iI (c_con C n j)) (q_B g s0) (q_A s0)) 0 0 (q_A s0) := by
  refine Met.ofW (cc := cX0_condition) (maxL := 1) (ret := (some .int)) (by decide) rfl ?_
  intro p e s m args below meth c s₁ B hml hv
  obtain ⟨rfl, hv⟩ := hv
  have hr := B.returns
  have hlocks := B.notSynchronized
  obtain ⟨X, hP⟩ := q_start B.exec B.bytes hml (show s.vm.findClass RX0 = some m.cls from findClass_of_methodNamed B.named) (atoms_spec (ws := wsX0_condition) B.pre) hv
  have hP : q_P g s0 n ad C s.heap := hP
  have hS : va_S (q_A s0) s.heap s.heap [] := va_S.rf
  have in0 : ∀ w ∈ wsX00, w ∈ wsX0_condition := by decide +kernel
  have in1 : ∀ w ∈ wsX10, w ∈ wsX0_condition := by decide +kernel
  have hl := lv_entry ([.ref (ad 0 j)]) (n := 1) (Nat.le_of_ble_eq_true rfl)
  rw [lg_entry_eq]
  generalize (lg_sl ([.ref (ad 0 j)]) ++ List.replicate (1 - (lg_sl ([.ref (ad 0 j)])).length) Slot.unset).toArray = ls at hl ⊢
  have hl : lv_has ls 1 [(0, .ref (ad 0 j))] := hl
  refine lv_aload_n X.1 X.2.1 dX0_condition_0 rfl (lv_at hl 0 rfl) ?_
  refine q_get (index := 47) (v := .int (iI (C 0 6 j))) X hP 0 6 j rfl rfl (by decide) in0 hj (by decide) (by decide +kernel) rfl dX0_condition_1 ?_
  refine q_if_eq (tgt := 9) X (q_b32 (hP.tok 0 6 j rfl)) dX0_condition_4 (by decide) (fun h_1 => ?_) (fun h_1 => ?_)
  · refine lv_aload_n X.1 X.2.1 dX0_condition_9 rfl (lv_at hl 0 rfl) ?_
    refine lv_iconst (v := iI (1)) X.1 X.2.1 dX0_condition_10 rfl ?_
    refine va_calli (va_runV (As := [.int (iI (1))]) (rest := []) X.fix (c_X0_hasPartThat l g s0 n ad C c0 hR j hj (1) (by decide)) (cwV 1 X.2.2.2.2.1 gX0_condition_X0_hasPartThat rfl rfl rfl (by decide +kernel) ⟨Nat.le_of_ble_eq_true rfl, Nat.le_of_ble_eq_true rfl⟩) (q_preV X hP hS [.int (iI (1))] (kd := 0) (by decide) rfl hj) rfl rfl hl.1 rfl (lv_room (Nat.le_of_ble_eq_true rfl)) dX0_condition_11 ⟨Nat.le_of_ble_eq_true rfl, Nat.le_of_ble_eq_true rfl⟩) hS q_id q_id1 (fun r u t H locs ht hvm hw hB hz1 hk1 hS => ?_)
    obtain ⟨rfl, ⟨h_2, rfl⟩ | ⟨h_2, rfl⟩⟩ := hw
    · have hP : q_P g s0 n ad (C) H := q_back hB ht
      have h_2 : c_hs C n j (1) := h_2
      refine q_if_eq (tgt := 19) X (by decide) dX0_condition_14 (by decide) (fun h => absurd h (by decide)) (fun _ => ?_)
      refine lv_iconst (v := iI (1)) X.1 X.2.1 dX0_condition_17 rfl ?_
      exact q_iret X hr hlocks hP hS ⟨rfl, congrArg iI (by unfold c_con; first | (rw [if_pos (by assumption)]; done) | (rw [if_neg (by omega), if_pos (by assumption)]; done) | (rw [if_neg (by omega), if_neg (by assumption), if_pos (by assumption)]; done) | (rw [if_neg (by omega), if_neg (by assumption), if_neg (by assumption)]; done))⟩ (Nat.le_of_ble_eq_true rfl) (Nat.le_of_ble_eq_true rfl) dX0_condition_18
    · have hP : q_P g s0 n ad (C) H := q_back hB ht
      have h_2 : ¬ (c_hs C n j (1)) := h_2
      refine q_if_eq (tgt := 19) X (by decide) dX0_condition_14 (by decide) (fun _ => ?_) (fun h => absurd h (by decide))
      refine lv_aload_n X.1 X.2.1 dX0_condition_19 rfl (lv_at hl 0 rfl) ?_
      refine lv_iconst (v := iI (0)) X.1 X.2.1 dX0_condition_20 rfl ?_
      refine va_calli (va_runV (As := [.int (iI (0))]) (rest := []) X.fix (c_X0_hasPartThat l g s0 n ad C c0 hR j hj (0) (by decide)) (cwV 1 X.2.2.2.2.1 gX0_condition_X0_hasPartThat rfl rfl rfl (by decide +kernel) ⟨Nat.le_of_ble_eq_true rfl, Nat.le_of_ble_eq_true rfl⟩) (q_preV X hP hS [.int (iI (0))] (kd := 0) (by decide) rfl hj) rfl rfl hl.1 rfl (lv_room (Nat.le_of_ble_eq_true rfl)) dX0_condition_21 ⟨Nat.le_of_ble_eq_true rfl, Nat.le_of_ble_eq_true rfl⟩) hS q_id q_id1 (fun r u t H locs ht hvm hw hB hz1 hk1 hS => ?_)
      obtain ⟨rfl, ⟨h_5, rfl⟩ | ⟨h_5, rfl⟩⟩ := hw
      · have hP : q_P g s0 n ad (C) H := q_back hB ht
        have h_5 : c_hs C n j (0) := h_5
        refine q_if_eq (tgt := 31) X (by decide) dX0_condition_24 (by decide) (fun h => absurd h (by decide)) (fun _ => ?_)
        refine lv_iconst (v := iI (0)) X.1 X.2.1 dX0_condition_27 rfl ?_
        refine lv_goto (tgt := 32) X.1 X.2.1 dX0_condition_28 (by decide) ?_
        exact q_iret X hr hlocks hP hS ⟨rfl, congrArg iI (by unfold c_con; first | (rw [if_pos (by assumption)]; done) | (rw [if_neg (by omega), if_pos (by assumption)]; done) | (rw [if_neg (by omega), if_neg (by assumption), if_pos (by assumption)]; done) | (rw [if_neg (by omega), if_neg (by assumption), if_neg (by assumption)]; done))⟩ (Nat.le_of_ble_eq_true rfl) (Nat.le_of_ble_eq_true rfl) dX0_condition_32
      · have hP : q_P g s0 n ad (C) H := q_back hB ht
        have h_5 : ¬ (c_hs C n j (0)) := h_5
        refine q_if_eq (tgt := 31) X (by decide) dX0_condition_24 (by decide) (fun _ => ?_) (fun h => absurd h (by decide))
        refine lv_iconst (v := iI (2)) X.1 X.2.1 dX0_condition_31 rfl ?_
        exact q_iret X hr hlocks hP hS ⟨rfl, congrArg iI (by unfold c_con; first | (rw [if_pos (by assumption)]; done) | (rw [if_neg (by omega), if_pos (by assumption)]; done) | (rw [if_neg (by omega), if_neg (by assumption), if_pos (by assumption)]; done) | (rw [if_neg (by omega), if_neg (by assumption), if_neg (by assumption)]; done))⟩ (Nat.le_of_ble_eq_true rfl) (Nat.le_of_ble_eq_true rfl) dX0_condition_32
  · refine lv_iconst (v := iI (3)) X.1 X.2.1 dX0_condition_7 rfl ?_
    exact q_iret X hr hlocks hP hS ⟨rfl, congrArg iI (by unfold c_con; first | (rw [if_pos (by assumption)]; done) | (rw [if_neg (by omega), if_pos (by assumption)]; done) | (rw [if_neg (by omega), if_neg (by assumption), if_pos (by assumption)]; done) | (rw [if_neg (by omega), if_neg (by assumption), if_neg (by assumption)]; done))⟩ (Nat.le_of_ble_eq_true rfl) (Nat.le_of_ble_eq_true rfl) dX0_condition_8
set_option maxHeartbeats 4000000 in
set_option maxRecDepth 100000 in
theorem w_X4_firstPartFor {p : Program} {l : Launch} {e : Env} {s : State} {m : MethodId} {args : Array Value} {below : List Frame} {meth : Method} {c : Code} {Q : State → Prop} {g : q_G} {s0 : Nat} {n : Nat → Nat} {ad : Nat → Nat → Nat} {C : q_S} (X : q_X p s m args c cX4_firstPartFor 3 wsX4_firstPartFor RX4 g s0) (in0 : ∀ w ∈ wsX00, w ∈ wsX4_firstPartFor) (in1 : ∀ w ∈ wsX10, w ∈ wsX4_firstPartFor) (in2 : ∀ w ∈ wsX20, w ∈ wsX4_firstPartFor) (in3 : ∀ w ∈ wsX30, w ∈ wsX4_firstPartFor) (c0 : Nat) (hR : c_R C n c0) (j : Nat) (hj : j < n 0) (p0 : Nat) (hp : p0 < n 2) (kx : ∀  (H : Heap) (locs : List Loc) (ls : Array Slot), c_fp C j p0 (n 1) = 0 → q_P g s0 n ad C H → va_S (q_A s0) s.heap H locs → lv_has ls 3 [(0, .ref (ad 0 j)), (1, .ref (ad 2 p0))] → W p l e ({ frames := 1, cells := 0, slots := 0, locals := 21 }) s m args below meth c H locs 0 0 Q (F0 m 34 ls [])) (ky : ∀ (i : Nat) (H : Heap) (locs : List Loc) (ls : Array Slot), i < n 1 → c_fp C j p0 (n 1) = (i : Int) + 1 → q_P g s0 n ad C H → va_S (q_A s0) s.heap H locs → lv_has ls 3 [(2, .ref (ad 1 i)), (0, .ref (ad 0 j)), (1, .ref (ad 2 p0))] → W p l e ({ frames := 1, cells := 0, slots := 0, locals := 21 }) s m args below meth c H locs 0 0 Q (F0 m 24 ls [])) :
    ∀ (N : Nat) (k : Nat) (H : Heap) (locs : List Loc) (ls : Array Slot), (n 1 < k + N) → (k ≤ n 1) → (c_fp C j p0 k = 0) → q_P g s0 n ad C H → va_S (q_A s0) s.heap H locs → lv_has ls 3 [(2, va_rf (q_rf ad 1 (c_find C j (n 1 - k) k))), (0, .ref (ad 0 j)), (1, .ref (ad 2 p0))] → W p l e ({ frames := 1, cells := 0, slots := 0, locals := 21 }) s m args below meth c H locs 0 0 Q (F0 m 5 ls []) := by
  intro N
  induction N with
  | zero =>
    intro k H locs ls h1 h2 h3 hP hS hl
    exact absurd h1 (by omega)
  | succ N ih =>
    intro k H locs ls h1 h2 h3 hP hS hl
    rcases c_find_c C j (n 1 - k) k with ⟨hv, hnone⟩ | ⟨i, hv, hki, hin, hjb, hbet⟩
    · rw [hv] at hl
      have hl : lv_has ls 3 [(2, .null), (0, .ref (ad 0 j)), (1, .ref (ad 2 p0))] := hl
      refine lv_aload_nN X.1 X.2.1 dX4_firstPartFor_5 rfl (lv_at hl 0 rfl) ?_
      refine lv_ifnullN (tgt := 34) X.1 X.2.1 dX4_firstPartFor_6 (by decide) ?_
      have hs := c_skip (fun k => c_fp C j p0 k) C j (fun k h => c_fp_s C j p0 k h) h2 (fun i h5 h6 => hnone i h5 (by omega))
      have hl : lv_has ls 3 [(0, .ref (ad 0 j)), (1, .ref (ad 2 p0))] := lv_sub hl [1, 2] rfl
      exact kx _ _ ls (hs.trans h3) hP hS hl
    · rw [hv, q_rf2] at hl
      have hl : lv_has ls 3 [(2, .ref (ad 1 i)), (0, .ref (ad 0 j)), (1, .ref (ad 2 p0))] := hl
      have hi : i < n 1 := by omega
      refine lv_aload_n X.1 X.2.1 dX4_firstPartFor_5 rfl (lv_at hl 0 rfl) ?_
      refine lv_ifnull X.1 X.2.1 dX4_firstPartFor_6 ?_
      have hfi : c_fp C j p0 i = 0 := (c_skip (fun k => c_fp C j p0 k) C j (fun k h => c_fp_s C j p0 k h) hki hbet).trans h3
      refine lv_aload_n X.1 X.2.1 dX4_firstPartFor_9 rfl (lv_at hl 0 rfl) ?_
      refine q_get (index := 119) (v := .int (iI (C 1 3 i))) X hP 1 3 i rfl rfl (by decide) in1 hi (by decide) (by decide +kernel) rfl dX4_firstPartFor_10 ?_
      refine q_if_ne (tgt := 26) X (hP.tok 1 3 i rfl) dX4_firstPartFor_13 (by decide) (fun h_1 => ?_) (fun h_1 => ?_)
      · refine lv_aload_n X.1 X.2.1 dX4_firstPartFor_26 rfl (lv_at hl 0 rfl) ?_
        refine q_get (index := 141) (v := va_rf (q_rf ad 1 (c_find C j (n 1 - (i + 1)) (i + 1)))) X hP 1 6 i rfl rfl (by decide) in1 hi (by decide) (by decide +kernel) (q_vch ad 1 (c_R16 hR i j hi hjb)) dX4_firstPartFor_27 ?_
        refine q_astore_n (lv' := [(2, va_rf (q_rf ad 1 (c_find C j (n 1 - (i + 1)) (i + 1)))), (0, .ref (ad 0 j)), (1, .ref (ad 2 p0))]) X dX4_firstPartFor_30 rfl hl (by decide) rfl (fun ls hl => ?_)
        refine lv_goto (tgt := 5) X.1 X.2.1 dX4_firstPartFor_31 (by decide) ?_
        have hs : c_fp C j p0 (i + 1) = 0 := by rw [c_fp, if_neg (fun q => q hfi), if_neg (fun q => by obtain ⟨q1, q2, q3⟩ := q; first | contradiction | omega)]
        have hl : lv_has ls 3 [(2, va_rf (q_rf ad 1 (c_find C j (n 1 - (i + 1)) (i + 1)))), (0, .ref (ad 0 j)), (1, .ref (ad 2 p0))] := lv_sub hl [0, 1, 2] rfl
        exact ih (i + 1) _ _ ls (by omega) (by omega) hs hP hS hl
      · refine lv_aload_n X.1 X.2.1 dX4_firstPartFor_16 rfl (lv_at hl 2 rfl) ?_
        refine lv_aload_n X.1 X.2.1 dX4_firstPartFor_17 rfl (lv_at hl 0 rfl) ?_
        refine va_calli (va_runV (As := [.ref (ad 1 i)]) (rest := []) X.fix (c_X2_fits l g s0 n ad C c0 hR p0 hp i hi) (cwV 1 X.2.2.2.2.1 gX4_firstPartFor_X2_fits rfl rfl rfl (by decide +kernel) ⟨Nat.le_of_ble_eq_true rfl, Nat.le_of_ble_eq_true rfl⟩) (q_preV X hP hS [.ref (ad 1 i)] (kd := 2) (by decide) rfl hp) rfl rfl hl.1 rfl (lv_room (Nat.le_of_ble_eq_true rfl)) dX4_firstPartFor_18 ⟨Nat.le_of_ble_eq_true rfl, Nat.le_of_ble_eq_true rfl⟩) hS q_id q_id1 (fun r u t H locs ht hvm hw hB hz1 hk1 hS => ?_)
        obtain ⟨rfl, ⟨h_2, rfl⟩ | ⟨h_2, rfl⟩⟩ := hw
        · have hP : q_P g s0 n ad (C) H := q_back hB ht
          have h_2 : c_fits C p0 i := h_2
          refine q_if_eq (tgt := 26) X (by decide) dX4_firstPartFor_21 (by decide) (fun h => absurd h (by decide)) (fun _ => ?_)
          have hs : c_fp C j p0 (i + 1) = (i : Int) + 1 := by rw [c_fp, if_neg (fun q => q hfi), if_pos ⟨hjb, by assumption, by assumption⟩]
          have hs2 : c_fp C j p0 (n 1) = (i : Int) + 1 := by have h9 := c_fp_st C j p0 (k := i + 1) (by omega) (n 1 - (i + 1)); rw [show i + 1 + (n 1 - (i + 1)) = n 1 by omega] at h9; rw [h9]; exact hs
          have hl : lv_has ls 3 [(2, .ref (ad 1 i)), (0, .ref (ad 0 j)), (1, .ref (ad 2 p0))] := lv_sub hl [0, 1, 2] rfl
          exact ky i _ _ ls hi hs2 hP hS hl
        · have hP : q_P g s0 n ad (C) H := q_back hB ht
          have h_2 : ¬ (c_fits C p0 i) := h_2
          refine q_if_eq (tgt := 26) X (by decide) dX4_firstPartFor_21 (by decide) (fun _ => ?_) (fun h => absurd h (by decide))
          refine lv_aload_n X.1 X.2.1 dX4_firstPartFor_26 rfl (lv_at hl 0 rfl) ?_
          refine q_get (index := 141) (v := va_rf (q_rf ad 1 (c_find C j (n 1 - (i + 1)) (i + 1)))) X hP 1 6 i rfl rfl (by decide) in1 hi (by decide) (by decide +kernel) (q_vch ad 1 (c_R16 hR i j hi hjb)) dX4_firstPartFor_27 ?_
          refine q_astore_n (lv' := [(2, va_rf (q_rf ad 1 (c_find C j (n 1 - (i + 1)) (i + 1)))), (0, .ref (ad 0 j)), (1, .ref (ad 2 p0))]) X dX4_firstPartFor_30 rfl hl (by decide) rfl (fun ls hl => ?_)
          refine lv_goto (tgt := 5) X.1 X.2.1 dX4_firstPartFor_31 (by decide) ?_
          have hs : c_fp C j p0 (i + 1) = 0 := by rw [c_fp, if_neg (fun q => q hfi), if_neg (fun q => by obtain ⟨q1, q2, q3⟩ := q; first | contradiction | omega)]
          have hl : lv_has ls 3 [(2, va_rf (q_rf ad 1 (c_find C j (n 1 - (i + 1)) (i + 1)))), (0, .ref (ad 0 j)), (1, .ref (ad 2 p0))] := lv_sub hl [0, 1, 2] rfl
          exact ih (i + 1) _ _ ls (by omega) (by omega) hs hP hS hl
set_option maxHeartbeats 4000000 in
set_option maxRecDepth 100000 in
theorem c_X4_firstPartFor (l : Launch) (g : q_G) (s0 : Nat) (n : Nat → Nat) (ad : Nat → Nat → Nat) (C : q_S) (c0 : Nat) (hR : c_R C n c0) (j : Nat) (hj : j < n 0) (p0 : Nat) (hp : p0 < n 2) : Met l yX4_firstPartFor wsX4_firstPartFor ({ frames := 1, cells := 0, slots := 0, locals := 21 }) (va_Pc [.ref (ad 0 j), .ref (ad 2 p0)] (q_B g s0 (n, ad, C))) (va_Qq (fun r u => u = (n, ad, C) ∧ r = q_rf ad 1 (c_fp C j p0 (n 1))) (q_B g s0) (q_A s0)) 0 0 (q_A s0) := by
  refine Met.ofW (cc := cX4_firstPartFor) (maxL := 3) (ret := (some (.object "PrintQueue$Part"))) (by decide) rfl ?_
  intro p e s m args below meth c s₁ B hml hv
  obtain ⟨rfl, hv⟩ := hv
  have hr := B.returns
  have hlocks := B.notSynchronized
  obtain ⟨X, hP⟩ := q_start B.exec B.bytes hml (show s.vm.findClass RX4 = some m.cls from findClass_of_methodNamed B.named) (atoms_spec (ws := wsX4_firstPartFor) B.pre) hv
  have hP : q_P g s0 n ad C s.heap := hP
  have hS : va_S (q_A s0) s.heap s.heap [] := va_S.rf
  have in0 : ∀ w ∈ wsX00, w ∈ wsX4_firstPartFor := by decide +kernel
  have in1 : ∀ w ∈ wsX10, w ∈ wsX4_firstPartFor := by decide +kernel
  have in2 : ∀ w ∈ wsX20, w ∈ wsX4_firstPartFor := by decide +kernel
  have in3 : ∀ w ∈ wsX30, w ∈ wsX4_firstPartFor := by decide +kernel
  have hl := lv_entry ([.ref (ad 0 j), .ref (ad 2 p0)]) (n := 3) (Nat.le_of_ble_eq_true rfl)
  rw [lg_entry_eq]
  generalize (lg_sl ([.ref (ad 0 j), .ref (ad 2 p0)]) ++ List.replicate (3 - (lg_sl ([.ref (ad 0 j), .ref (ad 2 p0)])).length) Slot.unset).toArray = ls at hl ⊢
  have hl : lv_has ls 3 [(0, .ref (ad 0 j)), (1, .ref (ad 2 p0))] := hl
  refine lv_aload_n X.1 X.2.1 dX4_firstPartFor_0 rfl (lv_at hl 0 rfl) ?_
  refine q_get (index := 75) (v := va_rf (q_rf ad 1 (c_find C j (n 1) 0))) X hP 0 7 j rfl rfl (by decide) in0 hj (by decide) (by decide +kernel) (q_vch ad 1 (c_R07 hR j hj)) dX4_firstPartFor_1 ?_
  refine q_astore_n (lv' := [(2, va_rf (q_rf ad 1 (c_find C j (n 1) 0))), (0, .ref (ad 0 j)), (1, .ref (ad 2 p0))]) X dX4_firstPartFor_4 rfl hl (by decide) rfl (fun ls hl => ?_)
  have e_1 : (va_rf (q_rf ad 1 (c_find C j (n 1) 0)) : Value) = va_rf (q_rf ad 1 (c_find C j (n 1 - 0) 0)) := by rfl
  have hl : lv_has ls 3 [(2, va_rf (q_rf ad 1 (c_find C j (n 1 - 0) 0))), (0, .ref (ad 0 j)), (1, .ref (ad 2 p0))] := lv_cong (show lv_has ls 3 [(2, va_rf (q_rf ad 1 (c_find C j (n 1) 0))), (0, .ref (ad 0 j)), (1, .ref (ad 2 p0))] from lv_sub hl [0, 1, 2] rfl) (lv_cs e_1 (lv_cs rfl (lv_cs rfl rfl)))
  refine w_X4_firstPartFor X in0 in1 in2 in3 c0 hR j hj p0 hp (fun H locs ls hf hP hS hl => ?_) (fun i H locs ls hi hf hP hS hl => ?_) (n 1 + 1) 0 _ _ ls (by omega) (by omega) rfl hP hS hl
  · refine lv_null X.1 X.2.1 dX4_firstPartFor_34 ?_
    exact q_aret (r := none) X hr hlocks hP hS ⟨rfl, by rw [hf]; first | rfl | exact (q_rfs ad 1 i).symm⟩ (Nat.le_of_ble_eq_true rfl) (Nat.le_of_ble_eq_true rfl) dX4_firstPartFor_35
  · refine lv_aload_n X.1 X.2.1 dX4_firstPartFor_24 rfl (lv_at hl 0 rfl) ?_
    exact q_aret (r := (some (ad 1 i))) X hr hlocks hP hS ⟨rfl, by rw [hf]; first | rfl | exact (q_rfs ad 1 i).symm⟩ (Nat.le_of_ble_eq_true rfl) (Nat.le_of_ble_eq_true rfl) dX4_firstPartFor_25
