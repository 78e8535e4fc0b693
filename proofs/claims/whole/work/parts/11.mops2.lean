def tX5_fault (n : Nat → Nat) (ad : Nat → Nat → Nat) (C : q_S) (a : Int) (r : Int32) (u : q_U) : Prop :=
  ((1 ≤ a ∧ a ≤ C 5 1 0) ∧ (¬ (C 25 ((a).toNat) 0) = (-1)) ∧ (((C 42 ((m_hk C a)) 0) % (C 32 (((C 38 ((m_hk C a)) 0)).toNat) 0)) ≤ (0)) ∧ u = (n, ad, q_up (m_leave (q_up C 5 0 0 ((0))) a) 44 ((m_hk C a)) 0 ((1))) ∧ r = iI (((C 42 ((m_hk C a)) 0) % (C 32 (((C 38 ((m_hk C a)) 0)).toNat) 0)) + (1))) ∨
  ((1 ≤ a ∧ a ≤ C 5 1 0) ∧ (¬ (C 25 ((a).toNat) 0) = (-1)) ∧ ((0) < ((C 42 ((m_hk C a)) 0) % (C 32 (((C 38 ((m_hk C a)) 0)).toNat) 0))) ∧ u = (n, ad, q_up (m_leave (q_up (q_up (q_up (q_up (q_up (q_up C 5 0 0 ((0))) 46 (((C 5 25 0)).toNat) 0 ((C 38 ((m_hk C a)) 0))) 47 (((C 5 25 0)).toNat) 0 ((((1000) * (((C 42 ((m_hk C a)) 0) / (C 32 (((C 38 ((m_hk C a)) 0)).toNat) 0)) + (1))) + ((C 42 ((m_hk C a)) 0) % (C 32 (((C 38 ((m_hk C a)) 0)).toNat) 0))))) 5 25 0 (((C 5 25 0) + (1)))) 42 ((m_hk C a)) 0 (((C 42 ((m_hk C a)) 0) - (1)))) 29 (((((4) * (C 31 (((C 38 ((m_hk C a)) 0)).toNat) 0)) - (1))).toNat) 0 (((C 29 (((((4) * (C 31 (((C 38 ((m_hk C a)) 0)).toNat) 0)) - (1))).toNat) 0) + (1)))) a) 44 ((m_hk C a)) 0 ((1))) ∧ r = iI ((((C 42 ((m_hk C a)) 0) - (1)) % (C 32 (((C 38 ((m_hk C a)) 0)).toNat) 0)) + (1))) ∨
  ((1 ≤ a ∧ a ≤ C 5 1 0) ∧ ((C 25 ((a).toNat) 0) = (-1)) ∧ u = (n, ad, q_up C 5 0 0 ((0))) ∧ r = iI (0)) ∨
  ((¬ (1 ≤ a ∧ a ≤ C 5 1 0)) ∧ u = (n, ad, q_up C 5 0 0 ((1))) ∧ r = iI (0))
set_option maxHeartbeats 4000000 in
set_option maxRecDepth 100000 in
theorem c_X5_fault (l : Launch) (g : q_G) (s0 : Nat) (n : Nat → Nat) (ad : Nat → Nat → Nat) (C : q_S) (c0 : Nat) (hM : m_S C n) (hR : m_R C c0) (hc0 : c0 ≤ 600) (a : Int) (ha : R32 a)  : Met l yX5_fault wsX5_fault ({ frames := 2, cells := 0, slots := 0, locals := 46 }) (va_Pc [.ref (ad 5 0), .int (iI a)] (q_B g s0 (n, ad, C))) (va_Qi (tX5_fault n ad C a) (q_B g s0) (q_A s0)) 0 0 (q_A s0) := by
  refine Met.ofW (cc := cX5_fault) (maxL := 5) (ret := (some .int)) (by decide) rfl ?_
  intro p e s m args below meth c s₁ B hml hv
  obtain ⟨rfl, hv⟩ := hv
  have hr := B.returns
  have hlocks := B.notSynchronized
  obtain ⟨X, hP⟩ := q_start B.exec B.bytes hml (show s.vm.findClass RX5 = some m.cls from findClass_of_methodNamed B.named) (atoms_spec (ws := wsX5_fault) B.pre) hv
  have hP : q_P g s0 n ad C s.heap := hP
  have hS : va_S (q_A s0) s.heap s.heap [] := va_S.rf
  have in5 : ∀ w ∈ wsX50, w ∈ wsX5_fault := by decide +kernel
  have f0 := m_Rp hR
  have f00 := m_Rk hR
  have f01 := m_R25 hR a.toNat
  have hl := lv_entry ([.ref (ad 5 0), .int (iI a)]) (n := 5) (Nat.le_of_ble_eq_true rfl)
  rw [lg_entry_eq]
  generalize (lg_sl ([.ref (ad 5 0), .int (iI a)]) ++ List.replicate (5 - (lg_sl ([.ref (ad 5 0), .int (iI a)])).length) Slot.unset).toArray = ls at hl ⊢
  have hl : lv_has ls 5 [(0, .ref (ad 5 0)), (1, .int (iI a))] := hl
  refine lv_aload_n X.1 X.2.1 dX5_fault_0 rfl (lv_at hl 0 rfl) ?_
  refine lv_aload_n X.1 X.2.1 dX5_fault_1 rfl (lv_at hl 0 rfl) ?_
  refine lv_iload_n X.1 X.2.1 dX5_fault_2 rfl (lv_at hl 1 rfl) ?_
  refine va_calli (va_runV (As := [.int (iI a)]) (rest := [.ref (ad 5 0)]) X.fix (c_X5_isPrinter l g s0 n ad C c0 hM hR a ha) (cwV 1 X.2.2.2.2.1 gX5_fault_X5_isPrinter rfl rfl rfl (by decide +kernel) ⟨Nat.le_of_ble_eq_true rfl, Nat.le_of_ble_eq_true rfl⟩) (q_preV X hP hS [.int (iI a)] (kd := 5) (by decide) rfl (m_v5 hM)) rfl rfl hl.1 rfl (lv_room (Nat.le_of_ble_eq_true rfl)) dX5_fault_3 ⟨Nat.le_of_ble_eq_true rfl, Nat.le_of_ble_eq_true rfl⟩) hS q_id q_id1 (fun r u t H locs ht hvm hw hB hz1 hk1 hS => ?_)
  obtain ⟨rfl, ⟨h_1, rfl⟩ | ⟨h_1, rfl⟩⟩ := hw
  · have hP : q_P g s0 n ad (C) H := q_back hB ht
    have h_1 : 1 ≤ a ∧ a ≤ C 5 1 0 := h_1
    refine q_if_eq (tgt := 13) X (by decide) dX5_fault_6 (by decide) (fun h => absurd h (by decide)) (fun _ => ?_)
    refine lv_iconst (v := iI (0)) X.1 X.2.1 dX5_fault_9 rfl ?_
    refine lv_goto (tgt := 14) X.1 X.2.1 dX5_fault_10 (by decide) ?_
    refine q_put (index := 82) (v := .int (iI (0))) X hP hS 5 0 0 ((0)) rfl rfl (by decide) in5 tyX5 tyX5_ok nmX5 (m_v5 hM) (by decide) (by decide +kernel) rfl rfl rfl rfl (show R32 _ from (by decide)) dX5_fault_14 (fun H locs hP hS => ?_)
    have hP : q_P g s0 n ad (q_up C 5 0 0 ((0))) H := hP
    refine lv_aload_n X.1 X.2.1 dX5_fault_17 rfl (lv_at hl 0 rfl) ?_
    refine q_get (index := 82) (v := .int (iI (0))) X hP 5 0 0 rfl rfl (by decide) in5 (m_v5 hM) (by decide) (by decide +kernel) rfl dX5_fault_18 ?_
    refine q_if_gt (tgt := 34) X (by decide) dX5_fault_21 (by decide) (fun h => absurd h (by decide)) (fun _ => ?_)
    refine lv_aload_n X.1 X.2.1 dX5_fault_24 rfl (lv_at hl 0 rfl) ?_
    refine q_get (index := 19) (v := .ref (ad 25 0)) X hP 5 5 0 rfl rfl (by decide) in5 (m_v5 hM) (by decide) (by decide +kernel) (m_r hM ad 5 25 (by decide)) dX5_fault_25 ?_
    refine lv_iload_n X.1 X.2.1 dX5_fault_28 rfl (lv_at hl 1 rfl) ?_
    refine q_ildv (len := 9) (v := (C 25 ((a).toNat) 0)) X hP 25 0 (by decide) rfl rfl (m_va hM 5 (by decide) rfl) rfl (by omega) (by omega) rfl dX5_fault_29 ?_
    have f_4 := m_R25 hR ((a).toNat)
    refine lv_iconst (v := iI (-1)) X.1 X.2.1 dX5_fault_30 rfl ?_
    refine q_icmp_ne (tgt := 36) X (hP.tok 25 ((a).toNat) 0 rfl) (by decide) dX5_fault_31 (by decide) (fun h_5 => ?_) (fun h_5 => ?_)
    · refine lv_aload_n X.1 X.2.1 dX5_fault_36 rfl (lv_at hl 0 rfl) ?_
      refine q_get (index := 19) (v := .ref (ad 25 0)) X hP 5 5 0 rfl rfl (by decide) in5 (m_v5 hM) (by decide) (by decide +kernel) (m_r hM ad 5 25 (by decide)) dX5_fault_37 ?_
      refine lv_iload_n X.1 X.2.1 dX5_fault_40 rfl (lv_at hl 1 rfl) ?_
      refine q_ildv (len := 9) (v := (C 25 ((a).toNat) 0)) X hP 25 0 (by decide) rfl rfl (m_va hM 5 (by decide) rfl) rfl (by omega) (by omega) rfl dX5_fault_41 ?_
      rw [m_hk_e (C := C) (a := a) (by omega)]
      have f_6 : ((m_hk C a : Nat) : Int) < C 5 17 0 := by rw [← m_hk_e (C := C) (a := a) (by omega)]; exact m_hl hR _ (by omega)
      have f_7 := m_pg hR (m_hk C a) f_6
      have f_8 := m_R42 hR (m_hk C a)
      have f_9 := m_md (a := C 42 (m_hk C a) 0) (b := C 32 (C 38 (m_hk C a) 0).toNat 0) (by omega)
      have f_10 := m_dv (a := C 42 (m_hk C a) 0) (b := C 32 (C 38 (m_hk C a) 0).toNat 0) (by omega) (by omega)
      refine lv_istore_n (lv' := [(2, .int (iI (((m_hk C a) : Nat) : Int))), (0, .ref (ad 5 0)), (1, .int (iI a))]) X.1 X.2.1 dX5_fault_42 rfl hl (by decide) rfl (fun ls hl => ?_)
      refine lv_aload_n X.1 X.2.1 dX5_fault_43 rfl (lv_at hl 1 rfl) ?_
      refine q_get (index := 51) (v := .ref (ad 38 0)) X hP 5 18 0 rfl rfl (by decide) in5 (m_v5 hM) (by decide) (by decide +kernel) (m_r hM ad 18 38 (by decide)) dX5_fault_44 ?_
      refine lv_iload_n X.1 X.2.1 dX5_fault_47 rfl (lv_at hl 0 rfl) ?_
      refine q_ildv (len := 4200) (v := (C 38 ((m_hk C a)) 0)) X hP 38 0 (by decide) rfl rfl (m_va hM 18 (by decide) rfl) rfl (by omega) (by omega) rfl dX5_fault_48 ?_
      have f_11 := m_R38 hR ((m_hk C a))
      refine lv_istore_n (lv' := [(3, .int (iI (C 38 ((m_hk C a)) 0))), (2, .int (iI (((m_hk C a) : Nat) : Int))), (0, .ref (ad 5 0)), (1, .int (iI a))]) X.1 X.2.1 dX5_fault_49 rfl hl (by decide) rfl (fun ls hl => ?_)
      refine lv_aload_n X.1 X.2.1 dX5_fault_50 rfl (lv_at hl 2 rfl) ?_
      refine q_get (index := 63) (v := .ref (ad 42 0)) X hP 5 22 0 rfl rfl (by decide) in5 (m_v5 hM) (by decide) (by decide +kernel) (m_r hM ad 22 42 (by decide)) dX5_fault_51 ?_
      refine lv_iload_n X.1 X.2.1 dX5_fault_54 rfl (lv_at hl 1 rfl) ?_
      refine q_ildv (len := 4200) (v := (C 42 ((m_hk C a)) 0)) X hP 42 0 (by decide) rfl rfl (m_va hM 22 (by decide) rfl) rfl (by omega) (by omega) rfl dX5_fault_55 ?_
      have f_12 := m_R42 hR ((m_hk C a))
      refine lv_aload_n X.1 X.2.1 dX5_fault_56 rfl (lv_at hl 2 rfl) ?_
      refine q_get (index := 35) (v := .ref (ad 32 0)) X hP 5 12 0 rfl rfl (by decide) in5 (m_v5 hM) (by decide) (by decide +kernel) (m_r hM ad 12 32 (by decide)) dX5_fault_57 ?_
      refine lv_iload_n X.1 X.2.1 dX5_fault_60 rfl (lv_at hl 0 rfl) ?_
      refine q_ildv (len := 61) (v := (C 32 (((C 38 ((m_hk C a)) 0)).toNat) 0)) X hP 32 0 (by decide) rfl rfl (m_va hM 12 (by decide) rfl) rfl (by omega) (by omega) rfl dX5_fault_61 ?_
      have f_13 := m_R32 hR (((C 38 ((m_hk C a)) 0)).toNat)
      refine q_irem X (by omega) (by omega) dX5_fault_62 ?_
      refine lv_istore (lv' := [(4, .int (iI ((C 42 ((m_hk C a)) 0) % (C 32 (((C 38 ((m_hk C a)) 0)).toNat) 0)))), (3, .int (iI (C 38 ((m_hk C a)) 0))), (2, .int (iI (((m_hk C a) : Nat) : Int))), (0, .ref (ad 5 0)), (1, .int (iI a))]) X.1 X.2.1 dX5_fault_63 hl (by decide) rfl (fun ls hl => ?_)
      refine lv_iload X.1 X.2.1 dX5_fault_65 (lv_at hl 0 rfl) ?_
      refine q_if_le (tgt := 150) X (by omega) dX5_fault_67 (by decide) (fun h_14 => ?_) (fun h_14 => ?_)
      · refine lv_aload_n X.1 X.2.1 dX5_fault_150 rfl (lv_at hl 3 rfl) ?_
        refine lv_iload_n X.1 X.2.1 dX5_fault_151 rfl (lv_at hl 4 rfl) ?_
        refine va_callv (va_runV (As := [.int (iI a)]) (rest := []) X.fix (c_X5_leave l g s0 n ad (q_up C 5 0 0 ((0))) (m_S.up hM (Or.inr (by decide))) a (by omega) (show 0 ≤ C 25 a.toNat 0 ∧ C 25 a.toNat 0 < 4200 from by omega)) (cwV 1 X.2.2.2.2.1 gX5_fault_X5_leave rfl rfl rfl (by decide +kernel) ⟨Nat.le_of_ble_eq_true rfl, Nat.le_of_ble_eq_true rfl⟩) (q_preV X hP hS [.int (iI a)] (kd := 5) (by decide) rfl (m_v5 hM)) rfl rfl hl.1 rfl (lv_room (Nat.le_of_ble_eq_true rfl)) dX5_fault_152 ⟨Nat.le_of_ble_eq_true rfl, Nat.le_of_ble_eq_true rfl⟩) hS q_id q_id1 (fun u t H locs ht hvm hw hB hz1 hk1 hS => ?_)
        obtain rfl := hw
        have hP : q_P g s0 n ad (m_leave (q_up C 5 0 0 ((0))) a) H := q_back hB ht
        refine lv_aload_n X.1 X.2.1 dX5_fault_155 rfl (lv_at hl 3 rfl) ?_
        refine q_get (index := 69) (v := .ref (ad 44 0)) X hP 5 24 0 rfl rfl (by decide) in5 (m_v5 hM) (by decide) (by decide +kernel) (m_r hM ad 24 44 (by decide)) dX5_fault_156 ?_
        refine lv_iload_n X.1 X.2.1 dX5_fault_159 rfl (lv_at hl 2 rfl) ?_
        refine lv_iconst (v := iI (1)) X.1 X.2.1 dX5_fault_160 rfl ?_
        refine q_zstv (len := 4200) (x := (1)) (z := (((m_hk C a) : Nat) : Int)) X hP hS 44 0 (by decide) rfl rfl (m_va hM 24 (by decide) rfl) rfl (by omega) (by omega) (by decide) dX5_fault_161 (fun H locs hP hS => ?_)
        have hP : q_P g s0 n ad (q_up (m_leave (q_up C 5 0 0 ((0))) a) 44 ((m_hk C a)) 0 ((1))) H := hP
        refine lv_aload_n X.1 X.2.1 dX5_fault_162 rfl (lv_at hl 3 rfl) ?_
        refine q_get (index := 63) (v := .ref (ad 42 0)) X hP 5 22 0 rfl rfl (by decide) in5 (m_v5 hM) (by decide) (by decide +kernel) (m_r hM ad 22 42 (by decide)) dX5_fault_163 ?_
        refine lv_iload_n X.1 X.2.1 dX5_fault_166 rfl (lv_at hl 2 rfl) ?_
        refine q_ildv (len := 4200) (v := (C 42 ((m_hk C a)) 0)) X hP 42 0 (by decide) rfl rfl (m_va hM 22 (by decide) rfl) rfl (by omega) (by omega) rfl dX5_fault_167 ?_
        refine lv_aload_n X.1 X.2.1 dX5_fault_168 rfl (lv_at hl 3 rfl) ?_
        refine q_get (index := 35) (v := .ref (ad 32 0)) X hP 5 12 0 rfl rfl (by decide) in5 (m_v5 hM) (by decide) (by decide +kernel) (m_r hM ad 12 32 (by decide)) dX5_fault_169 ?_
        refine lv_iload_n X.1 X.2.1 dX5_fault_172 rfl (lv_at hl 1 rfl) ?_
        refine q_ildv (len := 61) (v := (C 32 (((C 38 ((m_hk C a)) 0)).toNat) 0)) X hP 32 0 (by decide) rfl rfl (m_va hM 12 (by decide) rfl) rfl (by omega) (by omega) rfl dX5_fault_173 ?_
        refine q_irem X (by omega) (by omega) dX5_fault_174 ?_
        refine lv_iconst (v := iI (1)) X.1 X.2.1 dX5_fault_175 rfl ?_
        refine q_iadd X dX5_fault_176 ?_
        exact q_iret X hr hlocks hP hS (Or.inl (⟨h_1, h_5, h_14, rfl, rfl⟩)) (Nat.le_of_ble_eq_true rfl) (Nat.le_of_ble_eq_true rfl) dX5_fault_177
      · have f_15 := m_p1 h_14 (by omega)
        refine lv_aload_n X.1 X.2.1 dX5_fault_70 rfl (lv_at hl 3 rfl) ?_
        refine q_get (index := 72) (v := .ref (ad 46 0)) X hP 5 26 0 rfl rfl (by decide) in5 (m_v5 hM) (by decide) (by decide +kernel) (m_r hM ad 26 46 (by decide)) dX5_fault_71 ?_
        refine lv_aload_n X.1 X.2.1 dX5_fault_74 rfl (lv_at hl 3 rfl) ?_
        refine q_get (index := 156) (v := .int (iI (C 5 25 0))) X hP 5 25 0 rfl rfl (by decide) in5 (m_v5 hM) (by decide) (by decide +kernel) rfl dX5_fault_75 ?_
        have f_16 := m_Rw hR
        refine lv_iload_n X.1 X.2.1 dX5_fault_78 rfl (lv_at hl 1 rfl) ?_
        refine q_istv (len := 4200) (x := (C 38 ((m_hk C a)) 0)) (z := (C 5 25 0)) X hP hS 46 0 (by decide) rfl rfl (m_va hM 26 (by decide) rfl) rfl (by omega) (by omega) (hP.tok 38 ((m_hk C a)) 0 rfl) dX5_fault_79 (fun H locs hP hS => ?_)
        have hP : q_P g s0 n ad (q_up (q_up C 5 0 0 ((0))) 46 (((C 5 25 0)).toNat) 0 ((C 38 ((m_hk C a)) 0))) H := hP
        refine lv_aload_n X.1 X.2.1 dX5_fault_80 rfl (lv_at hl 3 rfl) ?_
        refine q_get (index := 75) (v := .ref (ad 47 0)) X hP 5 27 0 rfl rfl (by decide) in5 (m_v5 hM) (by decide) (by decide +kernel) (m_r hM ad 27 47 (by decide)) dX5_fault_81 ?_
        refine lv_aload_n X.1 X.2.1 dX5_fault_84 rfl (lv_at hl 3 rfl) ?_
        refine q_get (index := 156) (v := .int (iI (C 5 25 0))) X hP 5 25 0 rfl rfl (by decide) in5 (m_v5 hM) (by decide) (by decide +kernel) rfl dX5_fault_85 ?_
        refine lv_sipush (v := iI (1000)) X.1 X.2.1 dX5_fault_88 (by decide) ?_
        refine lv_aload_n X.1 X.2.1 dX5_fault_91 rfl (lv_at hl 3 rfl) ?_
        refine q_get (index := 63) (v := .ref (ad 42 0)) X hP 5 22 0 rfl rfl (by decide) in5 (m_v5 hM) (by decide) (by decide +kernel) (m_r hM ad 22 42 (by decide)) dX5_fault_92 ?_
        refine lv_iload_n X.1 X.2.1 dX5_fault_95 rfl (lv_at hl 2 rfl) ?_
        refine q_ildv (len := 4200) (v := (C 42 ((m_hk C a)) 0)) X hP 42 0 (by decide) rfl rfl (m_va hM 22 (by decide) rfl) rfl (by omega) (by omega) rfl dX5_fault_96 ?_
        refine lv_aload_n X.1 X.2.1 dX5_fault_97 rfl (lv_at hl 3 rfl) ?_
        refine q_get (index := 35) (v := .ref (ad 32 0)) X hP 5 12 0 rfl rfl (by decide) in5 (m_v5 hM) (by decide) (by decide +kernel) (m_r hM ad 12 32 (by decide)) dX5_fault_98 ?_
        refine lv_iload_n X.1 X.2.1 dX5_fault_101 rfl (lv_at hl 1 rfl) ?_
        refine q_ildv (len := 61) (v := (C 32 (((C 38 ((m_hk C a)) 0)).toNat) 0)) X hP 32 0 (by decide) rfl rfl (m_va hM 12 (by decide) rfl) rfl (by omega) (by omega) rfl dX5_fault_102 ?_
        refine q_idiv X (by omega) (by omega) dX5_fault_103 ?_
        refine lv_iconst (v := iI (1)) X.1 X.2.1 dX5_fault_104 rfl ?_
        refine q_iadd X dX5_fault_105 ?_
        refine q_imul X dX5_fault_106 ?_
        refine lv_iload X.1 X.2.1 dX5_fault_107 (lv_at hl 0 rfl) ?_
        refine q_iadd X dX5_fault_109 ?_
        refine q_istv (len := 4200) (x := (((1000) * (((C 42 ((m_hk C a)) 0) / (C 32 (((C 38 ((m_hk C a)) 0)).toNat) 0)) + (1))) + ((C 42 ((m_hk C a)) 0) % (C 32 (((C 38 ((m_hk C a)) 0)).toNat) 0)))) (z := (C 5 25 0)) X hP hS 47 0 (by decide) rfl rfl (m_va hM 27 (by decide) rfl) rfl (by omega) (by omega) (by omega) dX5_fault_110 (fun H locs hP hS => ?_)
        have hP : q_P g s0 n ad (q_up (q_up (q_up C 5 0 0 ((0))) 46 (((C 5 25 0)).toNat) 0 ((C 38 ((m_hk C a)) 0))) 47 (((C 5 25 0)).toNat) 0 ((((1000) * (((C 42 ((m_hk C a)) 0) / (C 32 (((C 38 ((m_hk C a)) 0)).toNat) 0)) + (1))) + ((C 42 ((m_hk C a)) 0) % (C 32 (((C 38 ((m_hk C a)) 0)).toNat) 0))))) H := hP
        refine lv_aload_n X.1 X.2.1 dX5_fault_111 rfl (lv_at hl 3 rfl) ?_
        refine lv_dup X.1 X.2.1 dX5_fault_112 rfl ?_
        refine q_get (index := 156) (v := .int (iI (C 5 25 0))) X hP 5 25 0 rfl rfl (by decide) in5 (m_v5 hM) (by decide) (by decide +kernel) rfl dX5_fault_113 ?_
        refine lv_iconst (v := iI (1)) X.1 X.2.1 dX5_fault_116 rfl ?_
        refine q_iadd X dX5_fault_117 ?_
        refine q_put (index := 156) (v := .int (iI ((C 5 25 0) + (1)))) X hP hS 5 25 0 (((C 5 25 0) + (1))) rfl rfl (by decide) in5 tyX5 tyX5_ok nmX5 (m_v5 hM) (by decide) (by decide +kernel) rfl rfl rfl rfl (show R32 _ from (by omega)) dX5_fault_118 (fun H locs hP hS => ?_)
        have hP : q_P g s0 n ad (q_up (q_up (q_up (q_up C 5 0 0 ((0))) 46 (((C 5 25 0)).toNat) 0 ((C 38 ((m_hk C a)) 0))) 47 (((C 5 25 0)).toNat) 0 ((((1000) * (((C 42 ((m_hk C a)) 0) / (C 32 (((C 38 ((m_hk C a)) 0)).toNat) 0)) + (1))) + ((C 42 ((m_hk C a)) 0) % (C 32 (((C 38 ((m_hk C a)) 0)).toNat) 0))))) 5 25 0 (((C 5 25 0) + (1)))) H := hP
        refine lv_aload_n X.1 X.2.1 dX5_fault_121 rfl (lv_at hl 3 rfl) ?_
        refine q_get (index := 63) (v := .ref (ad 42 0)) X hP 5 22 0 rfl rfl (by decide) in5 (m_v5 hM) (by decide) (by decide +kernel) (m_r hM ad 22 42 (by decide)) dX5_fault_122 ?_
        refine lv_iload_n X.1 X.2.1 dX5_fault_125 rfl (lv_at hl 2 rfl) ?_
        refine lv_dup2_11 X.1 X.2.1 dX5_fault_126 rfl rfl ?_
        refine q_ildv (len := 4200) (v := (C 42 ((m_hk C a)) 0)) X hP 42 0 (by decide) rfl rfl (m_va hM 22 (by decide) rfl) rfl (by omega) (by omega) rfl dX5_fault_127 ?_
        refine lv_iconst (v := iI (1)) X.1 X.2.1 dX5_fault_128 rfl ?_
        refine q_isub X dX5_fault_129 ?_
        refine q_istv (len := 4200) (x := ((C 42 ((m_hk C a)) 0) - (1))) (z := (((m_hk C a) : Nat) : Int)) X hP hS 42 0 (by decide) rfl rfl (m_va hM 22 (by decide) rfl) rfl (by omega) (by omega) (by omega) dX5_fault_130 (fun H locs hP hS => ?_)
        have hP : q_P g s0 n ad (q_up (q_up (q_up (q_up (q_up C 5 0 0 ((0))) 46 (((C 5 25 0)).toNat) 0 ((C 38 ((m_hk C a)) 0))) 47 (((C 5 25 0)).toNat) 0 ((((1000) * (((C 42 ((m_hk C a)) 0) / (C 32 (((C 38 ((m_hk C a)) 0)).toNat) 0)) + (1))) + ((C 42 ((m_hk C a)) 0) % (C 32 (((C 38 ((m_hk C a)) 0)).toNat) 0))))) 5 25 0 (((C 5 25 0) + (1)))) 42 ((m_hk C a)) 0 (((C 42 ((m_hk C a)) 0) - (1)))) H := hP
        refine lv_aload_n X.1 X.2.1 dX5_fault_131 rfl (lv_at hl 3 rfl) ?_
        refine q_get (index := 28) (v := .ref (ad 29 0)) X hP 5 9 0 rfl rfl (by decide) in5 (m_v5 hM) (by decide) (by decide +kernel) (m_r hM ad 9 29 (by decide)) dX5_fault_132 ?_
        refine lv_iconst (v := iI (4)) X.1 X.2.1 dX5_fault_135 rfl ?_
        refine lv_aload_n X.1 X.2.1 dX5_fault_136 rfl (lv_at hl 3 rfl) ?_
        refine q_get (index := 32) (v := .ref (ad 31 0)) X hP 5 11 0 rfl rfl (by decide) in5 (m_v5 hM) (by decide) (by decide +kernel) (m_r hM ad 11 31 (by decide)) dX5_fault_137 ?_
        refine lv_iload_n X.1 X.2.1 dX5_fault_140 rfl (lv_at hl 1 rfl) ?_
        refine q_ildv (len := 61) (v := (C 31 (((C 38 ((m_hk C a)) 0)).toNat) 0)) X hP 31 0 (by decide) rfl rfl (m_va hM 11 (by decide) rfl) rfl (by omega) (by omega) rfl dX5_fault_141 ?_
        have f_17 := m_R31 hR (((C 38 ((m_hk C a)) 0)).toNat)
        refine q_imul X dX5_fault_142 ?_
        refine lv_iconst (v := iI (1)) X.1 X.2.1 dX5_fault_143 rfl ?_
        refine q_isub X dX5_fault_144 ?_
        refine lv_dup2_11 X.1 X.2.1 dX5_fault_145 rfl rfl ?_
        refine q_lldv (len := 84) (v := (C 29 (((((4) * (C 31 (((C 38 ((m_hk C a)) 0)).toNat) 0)) - (1))).toNat) 0)) X hP 29 0 (by decide) rfl rfl (m_va hM 9 (by decide) rfl) rfl (by omega) (by omega) rfl dX5_fault_146 ?_
        have f_18 := m_R29 hR (((((4) * (C 31 (((C 38 ((m_hk C a)) 0)).toNat) 0)) - (1))).toNat)
        refine lv_lconst (v := jI (1)) X.1 X.2.1 dX5_fault_147 (by decide) ?_
        refine q_ladd X dX5_fault_148 ?_
        refine q_lstv (len := 84) (x := ((C 29 (((((4) * (C 31 (((C 38 ((m_hk C a)) 0)).toNat) 0)) - (1))).toNat) 0) + (1))) (z := (((4) * (C 31 (((C 38 ((m_hk C a)) 0)).toNat) 0)) - (1))) X hP hS 29 0 (by decide) rfl rfl (m_va hM 9 (by decide) rfl) rfl (by omega) (by omega) (by omega) dX5_fault_149 (fun H locs hP hS => ?_)
        have hP : q_P g s0 n ad (q_up (q_up (q_up (q_up (q_up (q_up C 5 0 0 ((0))) 46 (((C 5 25 0)).toNat) 0 ((C 38 ((m_hk C a)) 0))) 47 (((C 5 25 0)).toNat) 0 ((((1000) * (((C 42 ((m_hk C a)) 0) / (C 32 (((C 38 ((m_hk C a)) 0)).toNat) 0)) + (1))) + ((C 42 ((m_hk C a)) 0) % (C 32 (((C 38 ((m_hk C a)) 0)).toNat) 0))))) 5 25 0 (((C 5 25 0) + (1)))) 42 ((m_hk C a)) 0 (((C 42 ((m_hk C a)) 0) - (1)))) 29 (((((4) * (C 31 (((C 38 ((m_hk C a)) 0)).toNat) 0)) - (1))).toNat) 0 (((C 29 (((((4) * (C 31 (((C 38 ((m_hk C a)) 0)).toNat) 0)) - (1))).toNat) 0) + (1)))) H := hP
        refine lv_aload_n X.1 X.2.1 dX5_fault_150 rfl (lv_at hl 3 rfl) ?_
        refine lv_iload_n X.1 X.2.1 dX5_fault_151 rfl (lv_at hl 4 rfl) ?_
        refine va_callv (va_runV (As := [.int (iI a)]) (rest := []) X.fix (c_X5_leave l g s0 n ad (q_up (q_up (q_up (q_up (q_up (q_up C 5 0 0 ((0))) 46 (((C 5 25 0)).toNat) 0 ((C 38 ((m_hk C a)) 0))) 47 (((C 5 25 0)).toNat) 0 ((((1000) * (((C 42 ((m_hk C a)) 0) / (C 32 (((C 38 ((m_hk C a)) 0)).toNat) 0)) + (1))) + ((C 42 ((m_hk C a)) 0) % (C 32 (((C 38 ((m_hk C a)) 0)).toNat) 0))))) 5 25 0 (((C 5 25 0) + (1)))) 42 ((m_hk C a)) 0 (((C 42 ((m_hk C a)) 0) - (1)))) 29 (((((4) * (C 31 (((C 38 ((m_hk C a)) 0)).toNat) 0)) - (1))).toNat) 0 (((C 29 (((((4) * (C 31 (((C 38 ((m_hk C a)) 0)).toNat) 0)) - (1))).toNat) 0) + (1)))) (m_S.up (m_S.up (m_S.up (m_S.up (m_S.up (m_S.up hM (Or.inr (by decide))) (Or.inl (by decide))) (Or.inl (by decide))) (Or.inr (by decide))) (Or.inl (by decide))) (Or.inl (by decide))) a (by omega) (show 0 ≤ C 25 a.toNat 0 ∧ C 25 a.toNat 0 < 4200 from by omega)) (cwV 1 X.2.2.2.2.1 gX5_fault_X5_leave rfl rfl rfl (by decide +kernel) ⟨Nat.le_of_ble_eq_true rfl, Nat.le_of_ble_eq_true rfl⟩) (q_preV X hP hS [.int (iI a)] (kd := 5) (by decide) rfl (m_v5 hM)) rfl rfl hl.1 rfl (lv_room (Nat.le_of_ble_eq_true rfl)) dX5_fault_152 ⟨Nat.le_of_ble_eq_true rfl, Nat.le_of_ble_eq_true rfl⟩) hS q_id q_id1 (fun u t H locs ht hvm hw hB hz1 hk1 hS => ?_)
        obtain rfl := hw
        have hP : q_P g s0 n ad (m_leave (q_up (q_up (q_up (q_up (q_up (q_up C 5 0 0 ((0))) 46 (((C 5 25 0)).toNat) 0 ((C 38 ((m_hk C a)) 0))) 47 (((C 5 25 0)).toNat) 0 ((((1000) * (((C 42 ((m_hk C a)) 0) / (C 32 (((C 38 ((m_hk C a)) 0)).toNat) 0)) + (1))) + ((C 42 ((m_hk C a)) 0) % (C 32 (((C 38 ((m_hk C a)) 0)).toNat) 0))))) 5 25 0 (((C 5 25 0) + (1)))) 42 ((m_hk C a)) 0 (((C 42 ((m_hk C a)) 0) - (1)))) 29 (((((4) * (C 31 (((C 38 ((m_hk C a)) 0)).toNat) 0)) - (1))).toNat) 0 (((C 29 (((((4) * (C 31 (((C 38 ((m_hk C a)) 0)).toNat) 0)) - (1))).toNat) 0) + (1)))) a) H := q_back hB ht
        refine lv_aload_n X.1 X.2.1 dX5_fault_155 rfl (lv_at hl 3 rfl) ?_
        refine q_get (index := 69) (v := .ref (ad 44 0)) X hP 5 24 0 rfl rfl (by decide) in5 (m_v5 hM) (by decide) (by decide +kernel) (m_r hM ad 24 44 (by decide)) dX5_fault_156 ?_
        refine lv_iload_n X.1 X.2.1 dX5_fault_159 rfl (lv_at hl 2 rfl) ?_
        refine lv_iconst (v := iI (1)) X.1 X.2.1 dX5_fault_160 rfl ?_
        refine q_zstv (len := 4200) (x := (1)) (z := (((m_hk C a) : Nat) : Int)) X hP hS 44 0 (by decide) rfl rfl (m_va hM 24 (by decide) rfl) rfl (by omega) (by omega) (by decide) dX5_fault_161 (fun H locs hP hS => ?_)
        have hP : q_P g s0 n ad (q_up (m_leave (q_up (q_up (q_up (q_up (q_up (q_up C 5 0 0 ((0))) 46 (((C 5 25 0)).toNat) 0 ((C 38 ((m_hk C a)) 0))) 47 (((C 5 25 0)).toNat) 0 ((((1000) * (((C 42 ((m_hk C a)) 0) / (C 32 (((C 38 ((m_hk C a)) 0)).toNat) 0)) + (1))) + ((C 42 ((m_hk C a)) 0) % (C 32 (((C 38 ((m_hk C a)) 0)).toNat) 0))))) 5 25 0 (((C 5 25 0) + (1)))) 42 ((m_hk C a)) 0 (((C 42 ((m_hk C a)) 0) - (1)))) 29 (((((4) * (C 31 (((C 38 ((m_hk C a)) 0)).toNat) 0)) - (1))).toNat) 0 (((C 29 (((((4) * (C 31 (((C 38 ((m_hk C a)) 0)).toNat) 0)) - (1))).toNat) 0) + (1)))) a) 44 ((m_hk C a)) 0 ((1))) H := hP
        refine lv_aload_n X.1 X.2.1 dX5_fault_162 rfl (lv_at hl 3 rfl) ?_
        refine q_get (index := 63) (v := .ref (ad 42 0)) X hP 5 22 0 rfl rfl (by decide) in5 (m_v5 hM) (by decide) (by decide +kernel) (m_r hM ad 22 42 (by decide)) dX5_fault_163 ?_
        refine lv_iload_n X.1 X.2.1 dX5_fault_166 rfl (lv_at hl 2 rfl) ?_
        refine q_ildv (len := 4200) (v := ((C 42 ((m_hk C a)) 0) - (1))) X hP 42 0 (by decide) rfl rfl (m_va hM 22 (by decide) rfl) rfl (by omega) (by omega) (by simp [q_up, m_leave]) dX5_fault_167 ?_
        refine lv_aload_n X.1 X.2.1 dX5_fault_168 rfl (lv_at hl 3 rfl) ?_
        refine q_get (index := 35) (v := .ref (ad 32 0)) X hP 5 12 0 rfl rfl (by decide) in5 (m_v5 hM) (by decide) (by decide +kernel) (m_r hM ad 12 32 (by decide)) dX5_fault_169 ?_
        refine lv_iload_n X.1 X.2.1 dX5_fault_172 rfl (lv_at hl 1 rfl) ?_
        refine q_ildv (len := 61) (v := (C 32 (((C 38 ((m_hk C a)) 0)).toNat) 0)) X hP 32 0 (by decide) rfl rfl (m_va hM 12 (by decide) rfl) rfl (by omega) (by omega) rfl dX5_fault_173 ?_
        refine q_irem X (by omega) (by omega) dX5_fault_174 ?_
        refine lv_iconst (v := iI (1)) X.1 X.2.1 dX5_fault_175 rfl ?_
        refine q_iadd X dX5_fault_176 ?_
        exact q_iret X hr hlocks hP hS (Or.inr (Or.inl (⟨h_1, h_5, h_14, rfl, rfl⟩))) (Nat.le_of_ble_eq_true rfl) (Nat.le_of_ble_eq_true rfl) dX5_fault_177
    · refine lv_iconst (v := iI (0)) X.1 X.2.1 dX5_fault_34 rfl ?_
      exact q_iret X hr hlocks hP hS (Or.inr (Or.inr (Or.inl (⟨h_1, h_5, rfl, rfl⟩)))) (Nat.le_of_ble_eq_true rfl) (Nat.le_of_ble_eq_true rfl) dX5_fault_35
  · have hP : q_P g s0 n ad (C) H := q_back hB ht
    have h_1 : ¬ (1 ≤ a ∧ a ≤ C 5 1 0) := h_1
    refine q_if_eq (tgt := 13) X (by decide) dX5_fault_6 (by decide) (fun _ => ?_) (fun h => absurd h (by decide))
    refine lv_iconst (v := iI (1)) X.1 X.2.1 dX5_fault_13 rfl ?_
    refine q_put (index := 82) (v := .int (iI (1))) X hP hS 5 0 0 ((1)) rfl rfl (by decide) in5 tyX5 tyX5_ok nmX5 (m_v5 hM) (by decide) (by decide +kernel) rfl rfl rfl rfl (show R32 _ from (by decide)) dX5_fault_14 (fun H locs hP hS => ?_)
    have hP : q_P g s0 n ad (q_up C 5 0 0 ((1))) H := hP
    refine lv_aload_n X.1 X.2.1 dX5_fault_17 rfl (lv_at hl 0 rfl) ?_
    refine q_get (index := 82) (v := .int (iI (1))) X hP 5 0 0 rfl rfl (by decide) in5 (m_v5 hM) (by decide) (by decide +kernel) rfl dX5_fault_18 ?_
    refine q_if_gt (tgt := 34) X (by decide) dX5_fault_21 (by decide) (fun _ => ?_) (fun h => absurd h (by decide))
    refine lv_iconst (v := iI (0)) X.1 X.2.1 dX5_fault_34 rfl ?_
    exact q_iret X hr hlocks hP hS (Or.inr (Or.inr (Or.inr (⟨h_1, rfl, rfl⟩)))) (Nat.le_of_ble_eq_true rfl) (Nat.le_of_ble_eq_true rfl) dX5_fault_35
def tX5_print (n : Nat → Nat) (ad : Nat → Nat → Nat) (C : q_S) (a b : Int) (r : Int32) (u : q_U) : Prop :=
  ((1 ≤ a ∧ a ≤ C 5 1 0) ∧ ((0) ≤ b ∧ b ≤ (50000)) ∧ (¬ (C 25 ((a).toNat) 0) = (-1)) ∧ (m_over (q_up (q_up (q_up (q_up (q_up C 5 0 0 ((0))) 29 (((((4) * (C 31 (((C 38 ((m_hk C a)) 0)).toNat) 0)) - (4))).toNat) 0 (((C 29 (((((4) * (C 31 (((C 38 ((m_hk C a)) 0)).toNat) 0)) - (4))).toNat) 0) + (m_out C a b)))) 29 ((((((4) * (C 31 (((C 38 ((m_hk C a)) 0)).toNat) 0)) - (4)) + (1))).toNat) 0 (((C 29 ((((4) * (C 31 (C 38 (m_hk C a) 0).toNat 0)) - (4)) + (1)).toNat 0) + (m_she C a b)))) 42 ((m_hk C a)) 0 (((C 42 ((m_hk C a)) 0) + (m_out C a b)))) 43 ((m_hk C a)) 0 ((m_frs C a b))) ((m_hk C a))) ∧ u = (n, ad, m_leave (q_up (q_up (q_up (q_up (q_up C 5 0 0 ((0))) 29 (((((4) * (C 31 (((C 38 ((m_hk C a)) 0)).toNat) 0)) - (4))).toNat) 0 (((C 29 (((((4) * (C 31 (((C 38 ((m_hk C a)) 0)).toNat) 0)) - (4))).toNat) 0) + (m_out C a b)))) 29 ((((((4) * (C 31 (((C 38 ((m_hk C a)) 0)).toNat) 0)) - (4)) + (1))).toNat) 0 (((C 29 ((((4) * (C 31 (C 38 (m_hk C a) 0).toNat 0)) - (4)) + (1)).toNat 0) + (m_she C a b)))) 42 ((m_hk C a)) 0 (((C 42 ((m_hk C a)) 0) + (m_out C a b)))) 43 ((m_hk C a)) 0 ((m_frs C a b))) a) ∧ r = iI (m_out C a b)) ∨
  ((1 ≤ a ∧ a ≤ C 5 1 0) ∧ ((0) ≤ b ∧ b ≤ (50000)) ∧ (¬ (C 25 ((a).toNat) 0) = (-1)) ∧ (¬ (m_over (q_up (q_up (q_up (q_up (q_up C 5 0 0 ((0))) 29 (((((4) * (C 31 (((C 38 ((m_hk C a)) 0)).toNat) 0)) - (4))).toNat) 0 (((C 29 (((((4) * (C 31 (((C 38 ((m_hk C a)) 0)).toNat) 0)) - (4))).toNat) 0) + (m_out C a b)))) 29 ((((((4) * (C 31 (((C 38 ((m_hk C a)) 0)).toNat) 0)) - (4)) + (1))).toNat) 0 (((C 29 ((((4) * (C 31 (C 38 (m_hk C a) 0).toNat 0)) - (4)) + (1)).toNat 0) + (m_she C a b)))) 42 ((m_hk C a)) 0 (((C 42 ((m_hk C a)) 0) + (m_out C a b)))) 43 ((m_hk C a)) 0 ((m_frs C a b))) ((m_hk C a)))) ∧ u = (n, ad, q_up (q_up (q_up (q_up (q_up C 5 0 0 ((0))) 29 (((((4) * (C 31 (((C 38 ((m_hk C a)) 0)).toNat) 0)) - (4))).toNat) 0 (((C 29 (((((4) * (C 31 (((C 38 ((m_hk C a)) 0)).toNat) 0)) - (4))).toNat) 0) + (m_out C a b)))) 29 ((((((4) * (C 31 (((C 38 ((m_hk C a)) 0)).toNat) 0)) - (4)) + (1))).toNat) 0 (((C 29 ((((4) * (C 31 (C 38 (m_hk C a) 0).toNat 0)) - (4)) + (1)).toNat 0) + (m_she C a b)))) 42 ((m_hk C a)) 0 (((C 42 ((m_hk C a)) 0) + (m_out C a b)))) 43 ((m_hk C a)) 0 ((m_frs C a b))) ∧ r = iI (m_out C a b)) ∨
  ((1 ≤ a ∧ a ≤ C 5 1 0) ∧ ((0) ≤ b ∧ b ≤ (50000)) ∧ ((C 25 ((a).toNat) 0) = (-1)) ∧ u = (n, ad, q_up C 5 0 0 ((0))) ∧ r = iI (0)) ∨
  ((1 ≤ a ∧ a ≤ C 5 1 0) ∧ (¬ ((0) ≤ b ∧ b ≤ (50000))) ∧ u = (n, ad, q_up C 5 0 0 ((2))) ∧ r = iI (0)) ∨
  ((¬ (1 ≤ a ∧ a ≤ C 5 1 0)) ∧ u = (n, ad, q_up C 5 0 0 ((1))) ∧ r = iI (0))
set_option maxHeartbeats 4000000 in
set_option maxRecDepth 100000 in
theorem c_X5_print (l : Launch) (g : q_G) (s0 : Nat) (n : Nat → Nat) (ad : Nat → Nat → Nat) (C : q_S) (c0 : Nat) (hM : m_S C n) (hR : m_R C c0) (hc0 : c0 ≤ 600) (a b : Int) (ha : R32 a) (hb : R32 b)  : Met l yX5_print wsX5_print ({ frames := 2, cells := 0, slots := 0, locals := 46 }) (va_Pc [.ref (ad 5 0), .int (iI a), .int (iI b)] (q_B g s0 (n, ad, C))) (va_Qi (tX5_print n ad C a b) (q_B g s0) (q_A s0)) 0 0 (q_A s0) := by
  refine Met.ofW (cc := cX5_print) (maxL := 11) (ret := (some .int)) (by decide) rfl ?_
  intro p e s m args below meth c s₁ B hml hv
  obtain ⟨rfl, hv⟩ := hv
  have hr := B.returns
  have hlocks := B.notSynchronized
  obtain ⟨X, hP⟩ := q_start B.exec B.bytes hml (show s.vm.findClass RX5 = some m.cls from findClass_of_methodNamed B.named) (atoms_spec (ws := wsX5_print) B.pre) hv
  have hP : q_P g s0 n ad C s.heap := hP
  have hS : va_S (q_A s0) s.heap s.heap [] := va_S.rf
  have in5 : ∀ w ∈ wsX50, w ∈ wsX5_print := by decide +kernel
  have f0 := m_Rp hR
  have f00 := m_Rk hR
  have f01 := m_R25 hR a.toNat
  have f02 := m_mul (m_R39 hR (m_hk C a)) (m_R32 hR (C 38 (m_hk C a) 0).toNat)
  have hl := lv_entry ([.ref (ad 5 0), .int (iI a), .int (iI b)]) (n := 11) (Nat.le_of_ble_eq_true rfl)
  rw [lg_entry_eq]
  generalize (lg_sl ([.ref (ad 5 0), .int (iI a), .int (iI b)]) ++ List.replicate (11 - (lg_sl ([.ref (ad 5 0), .int (iI a), .int (iI b)])).length) Slot.unset).toArray = ls at hl ⊢
  have hl : lv_has ls 11 [(0, .ref (ad 5 0)), (1, .int (iI a)), (2, .int (iI b))] := hl
  refine lv_aload_n X.1 X.2.1 dX5_print_0 rfl (lv_at hl 0 rfl) ?_
  refine lv_aload_n X.1 X.2.1 dX5_print_1 rfl (lv_at hl 0 rfl) ?_
  refine lv_iload_n X.1 X.2.1 dX5_print_2 rfl (lv_at hl 1 rfl) ?_
  refine va_calli (va_runV (As := [.int (iI a)]) (rest := [.ref (ad 5 0)]) X.fix (c_X5_isPrinter l g s0 n ad C c0 hM hR a ha) (cwV 1 X.2.2.2.2.1 gX5_print_X5_isPrinter rfl rfl rfl (by decide +kernel) ⟨Nat.le_of_ble_eq_true rfl, Nat.le_of_ble_eq_true rfl⟩) (q_preV X hP hS [.int (iI a)] (kd := 5) (by decide) rfl (m_v5 hM)) rfl rfl hl.1 rfl (lv_room (Nat.le_of_ble_eq_true rfl)) dX5_print_3 ⟨Nat.le_of_ble_eq_true rfl, Nat.le_of_ble_eq_true rfl⟩) hS q_id q_id1 (fun r u t H locs ht hvm hw hB hz1 hk1 hS => ?_)
  obtain ⟨rfl, ⟨h_1, rfl⟩ | ⟨h_1, rfl⟩⟩ := hw
  · have hP : q_P g s0 n ad (C) H := q_back hB ht
    have h_1 : 1 ≤ a ∧ a ≤ C 5 1 0 := h_1
    refine q_if_ne (tgt := 13) X (by decide) dX5_print_6 (by decide) (fun _ => ?_) (fun h => absurd h (by decide))
    refine lv_iload_n X.1 X.2.1 dX5_print_13 rfl (lv_at hl 2 rfl) ?_
    refine q_i2l X hb dX5_print_14 ?_
    refine lv_lconst (v := jI (0)) X.1 X.2.1 dX5_print_15 (by decide) ?_
    refine q_ldc2 (v := 50000) (z := 50000) X (by decide) (by decide +kernel) dX5_print_16 ?_
    refine va_calli (va_runS (As := [.long (jI b), .long (jI (0)), .long (jI (50000))]) (rest := [.ref (ad 5 0)]) X.fix (c_X5_in l g s0 n ad C b (0) (50000) (q_3264 hb) (by decide) (by decide)) (va_cwS 3 X.2.2.2.2.1 gX5_print_X5_in rfl rfl rfl (by decide +kernel) ⟨Nat.le_of_ble_eq_true rfl, Nat.le_of_ble_eq_true rfl⟩) (q_preS X hP hS _) rfl rfl hl.1 rfl (lv_room (Nat.le_of_ble_eq_true rfl)) dX5_print_19 ⟨Nat.le_of_ble_eq_true rfl, Nat.le_of_ble_eq_true rfl⟩) hS q_id q_id1 (fun r u t H locs ht hvm hw hB hz1 hk1 hS => ?_)
    obtain ⟨rfl, ⟨h_3, rfl⟩ | ⟨h_3, rfl⟩⟩ := hw
    · have hP : q_P g s0 n ad (C) H := q_back hB ht
      have h_3 : (0) ≤ b ∧ b ≤ (50000) := h_3
      refine q_if_ne (tgt := 29) X (by decide) dX5_print_22 (by decide) (fun _ => ?_) (fun h => absurd h (by decide))
      refine lv_iconst (v := iI (0)) X.1 X.2.1 dX5_print_29 rfl ?_
      refine q_put (index := 82) (v := .int (iI (0))) X hP hS 5 0 0 ((0)) rfl rfl (by decide) in5 tyX5 tyX5_ok nmX5 (m_v5 hM) (by decide) (by decide +kernel) rfl rfl rfl rfl (show R32 _ from (by decide)) dX5_print_30 (fun H locs hP hS => ?_)
      have hP : q_P g s0 n ad (q_up C 5 0 0 ((0))) H := hP
      refine lv_aload_n X.1 X.2.1 dX5_print_33 rfl (lv_at hl 0 rfl) ?_
      refine q_get (index := 82) (v := .int (iI (0))) X hP 5 0 0 rfl rfl (by decide) in5 (m_v5 hM) (by decide) (by decide +kernel) rfl dX5_print_34 ?_
      refine q_if_gt (tgt := 50) X (by decide) dX5_print_37 (by decide) (fun h => absurd h (by decide)) (fun _ => ?_)
      refine lv_aload_n X.1 X.2.1 dX5_print_40 rfl (lv_at hl 0 rfl) ?_
      refine q_get (index := 19) (v := .ref (ad 25 0)) X hP 5 5 0 rfl rfl (by decide) in5 (m_v5 hM) (by decide) (by decide +kernel) (m_r hM ad 5 25 (by decide)) dX5_print_41 ?_
      refine lv_iload_n X.1 X.2.1 dX5_print_44 rfl (lv_at hl 1 rfl) ?_
      refine q_ildv (len := 9) (v := (C 25 ((a).toNat) 0)) X hP 25 0 (by decide) rfl rfl (m_va hM 5 (by decide) rfl) rfl (by omega) (by omega) rfl dX5_print_45 ?_
      have f_6 := m_R25 hR ((a).toNat)
      refine lv_iconst (v := iI (-1)) X.1 X.2.1 dX5_print_46 rfl ?_
      refine q_icmp_ne (tgt := 52) X (hP.tok 25 ((a).toNat) 0 rfl) (by decide) dX5_print_47 (by decide) (fun h_7 => ?_) (fun h_7 => ?_)
      · refine lv_aload_n X.1 X.2.1 dX5_print_52 rfl (lv_at hl 0 rfl) ?_
        refine q_get (index := 19) (v := .ref (ad 25 0)) X hP 5 5 0 rfl rfl (by decide) in5 (m_v5 hM) (by decide) (by decide +kernel) (m_r hM ad 5 25 (by decide)) dX5_print_53 ?_
        refine lv_iload_n X.1 X.2.1 dX5_print_56 rfl (lv_at hl 1 rfl) ?_
        refine q_ildv (len := 9) (v := (C 25 ((a).toNat) 0)) X hP 25 0 (by decide) rfl rfl (m_va hM 5 (by decide) rfl) rfl (by omega) (by omega) rfl dX5_print_57 ?_
        rw [m_hk_e (C := C) (a := a) (by omega)]
        have f_8 : ((m_hk C a : Nat) : Int) < C 5 17 0 := by rw [← m_hk_e (C := C) (a := a) (by omega)]; exact m_hl hR _ (by omega)
        have f_9 := m_pg hR (m_hk C a) f_8
        have f_10 := m_R42 hR (m_hk C a)
        have f_11 := m_md (a := C 42 (m_hk C a) 0) (b := C 32 (C 38 (m_hk C a) 0).toNat 0) (by omega)
        have f_12 := m_dv (a := C 42 (m_hk C a) 0) (b := C 32 (C 38 (m_hk C a) 0).toNat 0) (by omega) (by omega)
        refine lv_istore_n (lv' := [(3, .int (iI (((m_hk C a) : Nat) : Int))), (0, .ref (ad 5 0)), (1, .int (iI a)), (2, .int (iI b))]) X.1 X.2.1 dX5_print_58 rfl hl (by decide) rfl (fun ls hl => ?_)
        refine lv_aload_n X.1 X.2.1 dX5_print_59 rfl (lv_at hl 1 rfl) ?_
        refine q_get (index := 51) (v := .ref (ad 38 0)) X hP 5 18 0 rfl rfl (by decide) in5 (m_v5 hM) (by decide) (by decide +kernel) (m_r hM ad 18 38 (by decide)) dX5_print_60 ?_
        refine lv_iload_n X.1 X.2.1 dX5_print_63 rfl (lv_at hl 0 rfl) ?_
        refine q_ildv (len := 4200) (v := (C 38 ((m_hk C a)) 0)) X hP 38 0 (by decide) rfl rfl (m_va hM 18 (by decide) rfl) rfl (by omega) (by omega) rfl dX5_print_64 ?_
        have f_13 := m_R38 hR ((m_hk C a))
        refine lv_istore (lv' := [(4, .int (iI (C 38 ((m_hk C a)) 0))), (3, .int (iI (((m_hk C a) : Nat) : Int))), (0, .ref (ad 5 0)), (1, .int (iI a)), (2, .int (iI b))]) X.1 X.2.1 dX5_print_65 hl (by decide) rfl (fun ls hl => ?_)
        refine lv_aload_n X.1 X.2.1 dX5_print_67 rfl (lv_at hl 2 rfl) ?_
        refine q_get (index := 35) (v := .ref (ad 32 0)) X hP 5 12 0 rfl rfl (by decide) in5 (m_v5 hM) (by decide) (by decide +kernel) (m_r hM ad 12 32 (by decide)) dX5_print_68 ?_
        refine lv_iload X.1 X.2.1 dX5_print_71 (lv_at hl 0 rfl) ?_
        refine q_ildv (len := 61) (v := (C 32 (((C 38 ((m_hk C a)) 0)).toNat) 0)) X hP 32 0 (by decide) rfl rfl (m_va hM 12 (by decide) rfl) rfl (by omega) (by omega) rfl dX5_print_73 ?_
        have f_14 := m_R32 hR (((C 38 ((m_hk C a)) 0)).toNat)
        refine lv_istore (lv' := [(5, .int (iI (C 32 (((C 38 ((m_hk C a)) 0)).toNat) 0))), (4, .int (iI (C 38 ((m_hk C a)) 0))), (3, .int (iI (((m_hk C a) : Nat) : Int))), (0, .ref (ad 5 0)), (1, .int (iI a)), (2, .int (iI b))]) X.1 X.2.1 dX5_print_74 hl (by decide) rfl (fun ls hl => ?_)
        refine lv_aload_n X.1 X.2.1 dX5_print_76 rfl (lv_at hl 3 rfl) ?_
        refine q_get (index := 54) (v := .ref (ad 39 0)) X hP 5 19 0 rfl rfl (by decide) in5 (m_v5 hM) (by decide) (by decide +kernel) (m_r hM ad 19 39 (by decide)) dX5_print_77 ?_
        refine lv_iload_n X.1 X.2.1 dX5_print_80 rfl (lv_at hl 2 rfl) ?_
        refine q_ildv (len := 4200) (v := (C 39 ((m_hk C a)) 0)) X hP 39 0 (by decide) rfl rfl (m_va hM 19 (by decide) rfl) rfl (by omega) (by omega) rfl dX5_print_81 ?_
        have f_15 := m_R39 hR ((m_hk C a))
        refine lv_iload X.1 X.2.1 dX5_print_82 (lv_at hl 0 rfl) ?_
        refine q_imul X dX5_print_84 ?_
        refine lv_aload_n X.1 X.2.1 dX5_print_85 rfl (lv_at hl 3 rfl) ?_
        refine q_get (index := 63) (v := .ref (ad 42 0)) X hP 5 22 0 rfl rfl (by decide) in5 (m_v5 hM) (by decide) (by decide +kernel) (m_r hM ad 22 42 (by decide)) dX5_print_86 ?_
        refine lv_iload_n X.1 X.2.1 dX5_print_89 rfl (lv_at hl 2 rfl) ?_
        refine q_ildv (len := 4200) (v := (C 42 ((m_hk C a)) 0)) X hP 42 0 (by decide) rfl rfl (m_va hM 22 (by decide) rfl) rfl (by omega) (by omega) rfl dX5_print_90 ?_
        have f_16 := m_R42 hR ((m_hk C a))
        refine q_isub X dX5_print_91 ?_
        refine lv_istore (lv' := [(6, .int (iI (((C 39 ((m_hk C a)) 0) * (C 32 (((C 38 ((m_hk C a)) 0)).toNat) 0)) - (C 42 ((m_hk C a)) 0)))), (5, .int (iI (C 32 (((C 38 ((m_hk C a)) 0)).toNat) 0))), (4, .int (iI (C 38 ((m_hk C a)) 0))), (3, .int (iI (((m_hk C a) : Nat) : Int))), (0, .ref (ad 5 0)), (1, .int (iI a)), (2, .int (iI b))]) X.1 X.2.1 dX5_print_92 hl (by decide) rfl (fun ls hl => ?_)
        refine q_join (g := g) (s0 := s0) (n := n) (ad := ad) (C := q_up C 5 0 0 ((0))) (nL := 11) (lv := [(5, .int (iI (C 32 (((C 38 ((m_hk C a)) 0)).toNat) 0))), (4, .int (iI (C 38 ((m_hk C a)) 0))), (3, .int (iI (((m_hk C a) : Nat) : Int))), (0, .ref (ad 5 0)), (1, .int (iI a)), (2, .int (iI b)), (7, .int (iI (m_out C a b)))]) (pcj := 108) (st := []) (fun H locs ls hP hS hl => ?_) (fun kj => ?_)
        · have f_17 := m_out_b hR a b (by omega)
          have f_18 := m_she_b hR a b (by omega) (by omega)
          refine lv_iconst (v := iI (4)) X.1 X.2.1 dX5_print_108 rfl ?_
          refine lv_aload_n X.1 X.2.1 dX5_print_109 rfl (lv_at hl 3 rfl) ?_
          refine q_get (index := 32) (v := .ref (ad 31 0)) X hP 5 11 0 rfl rfl (by decide) in5 (m_v5 hM) (by decide) (by decide +kernel) (m_r hM ad 11 31 (by decide)) dX5_print_110 ?_
          refine lv_iload X.1 X.2.1 dX5_print_113 (lv_at hl 1 rfl) ?_
          refine q_ildv (len := 61) (v := (C 31 (((C 38 ((m_hk C a)) 0)).toNat) 0)) X hP 31 0 (by decide) rfl rfl (m_va hM 11 (by decide) rfl) rfl (by omega) (by omega) rfl dX5_print_115 ?_
          have f_19 := m_R31 hR (((C 38 ((m_hk C a)) 0)).toNat)
          refine q_imul X dX5_print_116 ?_
          refine lv_iconst (v := iI (4)) X.1 X.2.1 dX5_print_117 rfl ?_
          refine q_isub X dX5_print_118 ?_
          refine lv_istore (lv' := [(8, .int (iI (((4) * (C 31 (((C 38 ((m_hk C a)) 0)).toNat) 0)) - (4)))), (5, .int (iI (C 32 (((C 38 ((m_hk C a)) 0)).toNat) 0))), (4, .int (iI (C 38 ((m_hk C a)) 0))), (3, .int (iI (((m_hk C a) : Nat) : Int))), (0, .ref (ad 5 0)), (1, .int (iI a)), (2, .int (iI b)), (7, .int (iI (m_out C a b)))]) X.1 X.2.1 dX5_print_119 hl (by decide) rfl (fun ls hl => ?_)
          refine lv_aload_n X.1 X.2.1 dX5_print_121 rfl (lv_at hl 4 rfl) ?_
          refine q_get (index := 63) (v := .ref (ad 42 0)) X hP 5 22 0 rfl rfl (by decide) in5 (m_v5 hM) (by decide) (by decide +kernel) (m_r hM ad 22 42 (by decide)) dX5_print_122 ?_
          refine lv_iload_n X.1 X.2.1 dX5_print_125 rfl (lv_at hl 3 rfl) ?_
          refine q_ildv (len := 4200) (v := (C 42 ((m_hk C a)) 0)) X hP 42 0 (by decide) rfl rfl (m_va hM 22 (by decide) rfl) rfl (by omega) (by omega) rfl dX5_print_126 ?_
          refine lv_istore (lv' := [(9, .int (iI (C 42 ((m_hk C a)) 0))), (8, .int (iI (((4) * (C 31 (((C 38 ((m_hk C a)) 0)).toNat) 0)) - (4)))), (5, .int (iI (C 32 (((C 38 ((m_hk C a)) 0)).toNat) 0))), (4, .int (iI (C 38 ((m_hk C a)) 0))), (3, .int (iI (((m_hk C a) : Nat) : Int))), (0, .ref (ad 5 0)), (1, .int (iI a)), (2, .int (iI b)), (7, .int (iI (m_out C a b)))]) X.1 X.2.1 dX5_print_127 hl (by decide) rfl (fun ls hl => ?_)
          refine q_join (g := g) (s0 := s0) (n := n) (ad := ad) (C := q_up C 5 0 0 ((0))) (nL := 11) (lv := [(9, .int (iI (C 42 ((m_hk C a)) 0))), (8, .int (iI (((4) * (C 31 (((C 38 ((m_hk C a)) 0)).toNat) 0)) - (4)))), (3, .int (iI (((m_hk C a) : Nat) : Int))), (0, .ref (ad 5 0)), (1, .int (iI a)), (7, .int (iI (m_out C a b))), (10, .int (iI (m_she C a b)))]) (pcj := 205) (st := []) (fun H locs ls hP hS hl => ?_) (fun kj => ?_)
          · refine lv_aload_n X.1 X.2.1 dX5_print_205 rfl (lv_at hl 3 rfl) ?_
            refine q_get (index := 28) (v := .ref (ad 29 0)) X hP 5 9 0 rfl rfl (by decide) in5 (m_v5 hM) (by decide) (by decide +kernel) (m_r hM ad 9 29 (by decide)) dX5_print_206 ?_
            refine lv_iload X.1 X.2.1 dX5_print_209 (lv_at hl 1 rfl) ?_
            refine lv_aload_n X.1 X.2.1 dX5_print_211 rfl (lv_at hl 3 rfl) ?_
            refine q_get (index := 28) (v := .ref (ad 29 0)) X hP 5 9 0 rfl rfl (by decide) in5 (m_v5 hM) (by decide) (by decide +kernel) (m_r hM ad 9 29 (by decide)) dX5_print_212 ?_
            refine lv_iload X.1 X.2.1 dX5_print_215 (lv_at hl 1 rfl) ?_
            refine q_lldv (len := 84) (v := (C 29 (((((4) * (C 31 (((C 38 ((m_hk C a)) 0)).toNat) 0)) - (4))).toNat) 0)) X hP 29 0 (by decide) rfl rfl (m_va hM 9 (by decide) rfl) rfl (by omega) (by omega) rfl dX5_print_217 ?_
            have f_20 := m_R29 hR (((((4) * (C 31 (((C 38 ((m_hk C a)) 0)).toNat) 0)) - (4))).toNat)
            refine lv_iload X.1 X.2.1 dX5_print_218 (lv_at hl 5 rfl) ?_
            refine q_i2l X (by omega) dX5_print_220 ?_
            refine q_ladd X dX5_print_221 ?_
            refine q_lstv (len := 84) (x := ((C 29 (((((4) * (C 31 (((C 38 ((m_hk C a)) 0)).toNat) 0)) - (4))).toNat) 0) + (m_out C a b))) (z := (((4) * (C 31 (((C 38 ((m_hk C a)) 0)).toNat) 0)) - (4))) X hP hS 29 0 (by decide) rfl rfl (m_va hM 9 (by decide) rfl) rfl (by omega) (by omega) (by omega) dX5_print_222 (fun H locs hP hS => ?_)
            have hP : q_P g s0 n ad (q_up (q_up C 5 0 0 ((0))) 29 (((((4) * (C 31 (((C 38 ((m_hk C a)) 0)).toNat) 0)) - (4))).toNat) 0 (((C 29 (((((4) * (C 31 (((C 38 ((m_hk C a)) 0)).toNat) 0)) - (4))).toNat) 0) + (m_out C a b)))) H := hP
            refine lv_aload_n X.1 X.2.1 dX5_print_223 rfl (lv_at hl 3 rfl) ?_
            refine q_get (index := 28) (v := .ref (ad 29 0)) X hP 5 9 0 rfl rfl (by decide) in5 (m_v5 hM) (by decide) (by decide +kernel) (m_r hM ad 9 29 (by decide)) dX5_print_224 ?_
            refine lv_iload X.1 X.2.1 dX5_print_227 (lv_at hl 1 rfl) ?_
            refine lv_iconst (v := iI (1)) X.1 X.2.1 dX5_print_229 rfl ?_
            refine q_iadd X dX5_print_230 ?_
            refine lv_aload_n X.1 X.2.1 dX5_print_231 rfl (lv_at hl 3 rfl) ?_
            refine q_get (index := 28) (v := .ref (ad 29 0)) X hP 5 9 0 rfl rfl (by decide) in5 (m_v5 hM) (by decide) (by decide +kernel) (m_r hM ad 9 29 (by decide)) dX5_print_232 ?_
            refine lv_iload X.1 X.2.1 dX5_print_235 (lv_at hl 1 rfl) ?_
            refine lv_iconst (v := iI (1)) X.1 X.2.1 dX5_print_237 rfl ?_
            refine q_iadd X dX5_print_238 ?_
            refine q_lldv (len := 84) (v := (C 29 ((((4) * (C 31 (C 38 (m_hk C a) 0).toNat 0)) - (4)) + (1)).toNat 0)) X hP 29 0 (by decide) rfl rfl (m_va hM 9 (by decide) rfl) rfl (by omega) (by omega) (q_up_e _ _ (by omega)) dX5_print_239 ?_
            have f_21 := m_R29 hR ((((((4) * (C 31 (((C 38 ((m_hk C a)) 0)).toNat) 0)) - (4)) + (1))).toNat)
            refine lv_iload X.1 X.2.1 dX5_print_240 (lv_at hl 6 rfl) ?_
            refine q_i2l X (by omega) dX5_print_242 ?_
            refine q_ladd X dX5_print_243 ?_
            refine q_lstv (len := 84) (x := ((C 29 ((((4) * (C 31 (C 38 (m_hk C a) 0).toNat 0)) - (4)) + (1)).toNat 0) + (m_she C a b))) (z := ((((4) * (C 31 (((C 38 ((m_hk C a)) 0)).toNat) 0)) - (4)) + (1))) X hP hS 29 0 (by decide) rfl rfl (m_va hM 9 (by decide) rfl) rfl (by omega) (by omega) (by omega) dX5_print_244 (fun H locs hP hS => ?_)
            have hP : q_P g s0 n ad (q_up (q_up (q_up C 5 0 0 ((0))) 29 (((((4) * (C 31 (((C 38 ((m_hk C a)) 0)).toNat) 0)) - (4))).toNat) 0 (((C 29 (((((4) * (C 31 (((C 38 ((m_hk C a)) 0)).toNat) 0)) - (4))).toNat) 0) + (m_out C a b)))) 29 ((((((4) * (C 31 (((C 38 ((m_hk C a)) 0)).toNat) 0)) - (4)) + (1))).toNat) 0 (((C 29 ((((4) * (C 31 (C 38 (m_hk C a) 0).toNat 0)) - (4)) + (1)).toNat 0) + (m_she C a b)))) H := hP
            refine lv_aload_n X.1 X.2.1 dX5_print_245 rfl (lv_at hl 3 rfl) ?_
            refine q_get (index := 63) (v := .ref (ad 42 0)) X hP 5 22 0 rfl rfl (by decide) in5 (m_v5 hM) (by decide) (by decide +kernel) (m_r hM ad 22 42 (by decide)) dX5_print_246 ?_
            refine lv_iload_n X.1 X.2.1 dX5_print_249 rfl (lv_at hl 2 rfl) ?_
            refine lv_iload X.1 X.2.1 dX5_print_250 (lv_at hl 0 rfl) ?_
            refine lv_iload X.1 X.2.1 dX5_print_252 (lv_at hl 5 rfl) ?_
            refine q_iadd X dX5_print_254 ?_
            refine q_istv (len := 4200) (x := ((C 42 ((m_hk C a)) 0) + (m_out C a b))) (z := (((m_hk C a) : Nat) : Int)) X hP hS 42 0 (by decide) rfl rfl (m_va hM 22 (by decide) rfl) rfl (by omega) (by omega) (by omega) dX5_print_255 (fun H locs hP hS => ?_)
            have hP : q_P g s0 n ad (q_up (q_up (q_up (q_up C 5 0 0 ((0))) 29 (((((4) * (C 31 (((C 38 ((m_hk C a)) 0)).toNat) 0)) - (4))).toNat) 0 (((C 29 (((((4) * (C 31 (((C 38 ((m_hk C a)) 0)).toNat) 0)) - (4))).toNat) 0) + (m_out C a b)))) 29 ((((((4) * (C 31 (((C 38 ((m_hk C a)) 0)).toNat) 0)) - (4)) + (1))).toNat) 0 (((C 29 ((((4) * (C 31 (C 38 (m_hk C a) 0).toNat 0)) - (4)) + (1)).toNat 0) + (m_she C a b)))) 42 ((m_hk C a)) 0 (((C 42 ((m_hk C a)) 0) + (m_out C a b)))) H := hP
            refine lv_aload_n X.1 X.2.1 dX5_print_256 rfl (lv_at hl 3 rfl) ?_
            refine q_get (index := 66) (v := .ref (ad 43 0)) X hP 5 23 0 rfl rfl (by decide) in5 (m_v5 hM) (by decide) (by decide +kernel) (m_r hM ad 23 43 (by decide)) dX5_print_257 ?_
            refine lv_iload_n X.1 X.2.1 dX5_print_260 rfl (lv_at hl 2 rfl) ?_
            refine q_join (g := g) (s0 := s0) (n := n) (ad := ad) (C := q_up (q_up (q_up (q_up C 5 0 0 ((0))) 29 (((((4) * (C 31 (((C 38 ((m_hk C a)) 0)).toNat) 0)) - (4))).toNat) 0 (((C 29 (((((4) * (C 31 (((C 38 ((m_hk C a)) 0)).toNat) 0)) - (4))).toNat) 0) + (m_out C a b)))) 29 ((((((4) * (C 31 (((C 38 ((m_hk C a)) 0)).toNat) 0)) - (4)) + (1))).toNat) 0 (((C 29 ((((4) * (C 31 (C 38 (m_hk C a) 0).toNat 0)) - (4)) + (1)).toNat 0) + (m_she C a b)))) 42 ((m_hk C a)) 0 (((C 42 ((m_hk C a)) 0) + (m_out C a b)))) (nL := 11) (lv := [(9, .int (iI (C 42 ((m_hk C a)) 0))), (8, .int (iI (((4) * (C 31 (((C 38 ((m_hk C a)) 0)).toNat) 0)) - (4)))), (3, .int (iI (((m_hk C a) : Nat) : Int))), (0, .ref (ad 5 0)), (1, .int (iI a)), (7, .int (iI (m_out C a b))), (10, .int (iI (m_she C a b)))]) (pcj := 280) (st := [.int (iI (m_frs C a b)), .int (iI (((m_hk C a) : Nat) : Int)), .ref (ad 43 0)]) (fun H locs ls hP hS hl => ?_) (fun kj => ?_)
            · refine q_zstv (len := 4200) (x := (m_frs C a b)) (z := (((m_hk C a) : Nat) : Int)) X hP hS 43 0 (by decide) rfl rfl (m_va hM 23 (by decide) rfl) rfl (by omega) (by omega) (by unfold m_frs; split <;> omega) dX5_print_280 (fun H locs hP hS => ?_)
              have hP : q_P g s0 n ad (q_up (q_up (q_up (q_up (q_up C 5 0 0 ((0))) 29 (((((4) * (C 31 (((C 38 ((m_hk C a)) 0)).toNat) 0)) - (4))).toNat) 0 (((C 29 (((((4) * (C 31 (((C 38 ((m_hk C a)) 0)).toNat) 0)) - (4))).toNat) 0) + (m_out C a b)))) 29 ((((((4) * (C 31 (((C 38 ((m_hk C a)) 0)).toNat) 0)) - (4)) + (1))).toNat) 0 (((C 29 ((((4) * (C 31 (C 38 (m_hk C a) 0).toNat 0)) - (4)) + (1)).toNat 0) + (m_she C a b)))) 42 ((m_hk C a)) 0 (((C 42 ((m_hk C a)) 0) + (m_out C a b)))) 43 ((m_hk C a)) 0 ((m_frs C a b))) H := hP
              refine lv_aload_n X.1 X.2.1 dX5_print_281 rfl (lv_at hl 3 rfl) ?_
              refine lv_iload_n X.1 X.2.1 dX5_print_282 rfl (lv_at hl 2 rfl) ?_
              refine va_calli (va_runV (As := [.int (iI (((m_hk C a) : Nat) : Int))]) (rest := []) X.fix (c_X5_isOver l g s0 n ad (q_up (q_up (q_up (q_up (q_up C 5 0 0 ((0))) 29 (((((4) * (C 31 (((C 38 ((m_hk C a)) 0)).toNat) 0)) - (4))).toNat) 0 (((C 29 (((((4) * (C 31 (((C 38 ((m_hk C a)) 0)).toNat) 0)) - (4))).toNat) 0) + (m_out C a b)))) 29 ((((((4) * (C 31 (((C 38 ((m_hk C a)) 0)).toNat) 0)) - (4)) + (1))).toNat) 0 (((C 29 ((((4) * (C 31 (C 38 (m_hk C a) 0).toNat 0)) - (4)) + (1)).toNat 0) + (m_she C a b)))) 42 ((m_hk C a)) 0 (((C 42 ((m_hk C a)) 0) + (m_out C a b)))) 43 ((m_hk C a)) 0 ((m_frs C a b))) (m_S.up (m_S.up (m_S.up (m_S.up (m_S.up hM (Or.inr (by decide))) (Or.inl (by decide))) (Or.inl (by decide))) (Or.inl (by decide))) (Or.inl (by decide))) ((m_hk C a)) (by omega) (m_R38 hR _) (m_R39 hR _) (m_R32 hR _)) (cwV 1 X.2.2.2.2.1 gX5_print_X5_isOver rfl rfl rfl (by decide +kernel) ⟨Nat.le_of_ble_eq_true rfl, Nat.le_of_ble_eq_true rfl⟩) (q_preV X hP hS [.int (iI (((m_hk C a) : Nat) : Int))] (kd := 5) (by decide) rfl (m_v5 hM)) rfl rfl hl.1 rfl (lv_room (Nat.le_of_ble_eq_true rfl)) dX5_print_283 ⟨Nat.le_of_ble_eq_true rfl, Nat.le_of_ble_eq_true rfl⟩) hS q_id q_id1 (fun r u t H locs ht hvm hw hB hz1 hk1 hS => ?_)
              obtain ⟨rfl, ⟨h_22, rfl⟩ | ⟨h_22, rfl⟩⟩ := hw
              · have hP : q_P g s0 n ad (q_up (q_up (q_up (q_up (q_up C 5 0 0 ((0))) 29 (((((4) * (C 31 (((C 38 ((m_hk C a)) 0)).toNat) 0)) - (4))).toNat) 0 (((C 29 (((((4) * (C 31 (((C 38 ((m_hk C a)) 0)).toNat) 0)) - (4))).toNat) 0) + (m_out C a b)))) 29 ((((((4) * (C 31 (((C 38 ((m_hk C a)) 0)).toNat) 0)) - (4)) + (1))).toNat) 0 (((C 29 ((((4) * (C 31 (C 38 (m_hk C a) 0).toNat 0)) - (4)) + (1)).toNat 0) + (m_she C a b)))) 42 ((m_hk C a)) 0 (((C 42 ((m_hk C a)) 0) + (m_out C a b)))) 43 ((m_hk C a)) 0 ((m_frs C a b))) H := q_back hB ht
                have h_22 : m_over (q_up (q_up (q_up (q_up (q_up C 5 0 0 ((0))) 29 (((((4) * (C 31 (((C 38 ((m_hk C a)) 0)).toNat) 0)) - (4))).toNat) 0 (((C 29 (((((4) * (C 31 (((C 38 ((m_hk C a)) 0)).toNat) 0)) - (4))).toNat) 0) + (m_out C a b)))) 29 ((((((4) * (C 31 (((C 38 ((m_hk C a)) 0)).toNat) 0)) - (4)) + (1))).toNat) 0 (((C 29 ((((4) * (C 31 (C 38 (m_hk C a) 0).toNat 0)) - (4)) + (1)).toNat 0) + (m_she C a b)))) 42 ((m_hk C a)) 0 (((C 42 ((m_hk C a)) 0) + (m_out C a b)))) 43 ((m_hk C a)) 0 ((m_frs C a b))) ((m_hk C a)) := h_22
                refine q_if_eq (tgt := 294) X (by decide) dX5_print_286 (by decide) (fun h => absurd h (by decide)) (fun _ => ?_)
                refine lv_aload_n X.1 X.2.1 dX5_print_289 rfl (lv_at hl 3 rfl) ?_
                refine lv_iload_n X.1 X.2.1 dX5_print_290 rfl (lv_at hl 4 rfl) ?_
                refine va_callv (va_runV (As := [.int (iI a)]) (rest := []) X.fix (c_X5_leave l g s0 n ad (q_up (q_up (q_up (q_up (q_up C 5 0 0 ((0))) 29 (((((4) * (C 31 (((C 38 ((m_hk C a)) 0)).toNat) 0)) - (4))).toNat) 0 (((C 29 (((((4) * (C 31 (((C 38 ((m_hk C a)) 0)).toNat) 0)) - (4))).toNat) 0) + (m_out C a b)))) 29 ((((((4) * (C 31 (((C 38 ((m_hk C a)) 0)).toNat) 0)) - (4)) + (1))).toNat) 0 (((C 29 ((((4) * (C 31 (C 38 (m_hk C a) 0).toNat 0)) - (4)) + (1)).toNat 0) + (m_she C a b)))) 42 ((m_hk C a)) 0 (((C 42 ((m_hk C a)) 0) + (m_out C a b)))) 43 ((m_hk C a)) 0 ((m_frs C a b))) (m_S.up (m_S.up (m_S.up (m_S.up (m_S.up hM (Or.inr (by decide))) (Or.inl (by decide))) (Or.inl (by decide))) (Or.inl (by decide))) (Or.inl (by decide))) a (by omega) (show 0 ≤ C 25 a.toNat 0 ∧ C 25 a.toNat 0 < 4200 from by omega)) (cwV 1 X.2.2.2.2.1 gX5_print_X5_leave rfl rfl rfl (by decide +kernel) ⟨Nat.le_of_ble_eq_true rfl, Nat.le_of_ble_eq_true rfl⟩) (q_preV X hP hS [.int (iI a)] (kd := 5) (by decide) rfl (m_v5 hM)) rfl rfl hl.1 rfl (lv_room (Nat.le_of_ble_eq_true rfl)) dX5_print_291 ⟨Nat.le_of_ble_eq_true rfl, Nat.le_of_ble_eq_true rfl⟩) hS q_id q_id1 (fun u t H locs ht hvm hw hB hz1 hk1 hS => ?_)
                obtain rfl := hw
                have hP : q_P g s0 n ad (m_leave (q_up (q_up (q_up (q_up (q_up C 5 0 0 ((0))) 29 (((((4) * (C 31 (((C 38 ((m_hk C a)) 0)).toNat) 0)) - (4))).toNat) 0 (((C 29 (((((4) * (C 31 (((C 38 ((m_hk C a)) 0)).toNat) 0)) - (4))).toNat) 0) + (m_out C a b)))) 29 ((((((4) * (C 31 (((C 38 ((m_hk C a)) 0)).toNat) 0)) - (4)) + (1))).toNat) 0 (((C 29 ((((4) * (C 31 (C 38 (m_hk C a) 0).toNat 0)) - (4)) + (1)).toNat 0) + (m_she C a b)))) 42 ((m_hk C a)) 0 (((C 42 ((m_hk C a)) 0) + (m_out C a b)))) 43 ((m_hk C a)) 0 ((m_frs C a b))) a) H := q_back hB ht
                refine lv_iload X.1 X.2.1 dX5_print_294 (lv_at hl 5 rfl) ?_
                exact q_iret X hr hlocks hP hS (Or.inl (⟨h_1, h_3, h_7, h_22, rfl, rfl⟩)) (Nat.le_of_ble_eq_true rfl) (Nat.le_of_ble_eq_true rfl) dX5_print_296
              · have hP : q_P g s0 n ad (q_up (q_up (q_up (q_up (q_up C 5 0 0 ((0))) 29 (((((4) * (C 31 (((C 38 ((m_hk C a)) 0)).toNat) 0)) - (4))).toNat) 0 (((C 29 (((((4) * (C 31 (((C 38 ((m_hk C a)) 0)).toNat) 0)) - (4))).toNat) 0) + (m_out C a b)))) 29 ((((((4) * (C 31 (((C 38 ((m_hk C a)) 0)).toNat) 0)) - (4)) + (1))).toNat) 0 (((C 29 ((((4) * (C 31 (C 38 (m_hk C a) 0).toNat 0)) - (4)) + (1)).toNat 0) + (m_she C a b)))) 42 ((m_hk C a)) 0 (((C 42 ((m_hk C a)) 0) + (m_out C a b)))) 43 ((m_hk C a)) 0 ((m_frs C a b))) H := q_back hB ht
                have h_22 : ¬ (m_over (q_up (q_up (q_up (q_up (q_up C 5 0 0 ((0))) 29 (((((4) * (C 31 (((C 38 ((m_hk C a)) 0)).toNat) 0)) - (4))).toNat) 0 (((C 29 (((((4) * (C 31 (((C 38 ((m_hk C a)) 0)).toNat) 0)) - (4))).toNat) 0) + (m_out C a b)))) 29 ((((((4) * (C 31 (((C 38 ((m_hk C a)) 0)).toNat) 0)) - (4)) + (1))).toNat) 0 (((C 29 ((((4) * (C 31 (C 38 (m_hk C a) 0).toNat 0)) - (4)) + (1)).toNat 0) + (m_she C a b)))) 42 ((m_hk C a)) 0 (((C 42 ((m_hk C a)) 0) + (m_out C a b)))) 43 ((m_hk C a)) 0 ((m_frs C a b))) ((m_hk C a))) := h_22
                refine q_if_eq (tgt := 294) X (by decide) dX5_print_286 (by decide) (fun _ => ?_) (fun h => absurd h (by decide))
                refine lv_iload X.1 X.2.1 dX5_print_294 (lv_at hl 5 rfl) ?_
                exact q_iret X hr hlocks hP hS (Or.inr (Or.inl (⟨h_1, h_3, h_7, h_22, rfl, rfl⟩))) (Nat.le_of_ble_eq_true rfl) (Nat.le_of_ble_eq_true rfl) dX5_print_296
            · refine lv_aload_n X.1 X.2.1 dX5_print_261 rfl (lv_at hl 3 rfl) ?_
              refine q_get (index := 66) (v := .ref (ad 43 0)) X hP 5 23 0 rfl rfl (by decide) in5 (m_v5 hM) (by decide) (by decide +kernel) (m_r hM ad 23 43 (by decide)) dX5_print_262 ?_
              refine lv_iload_n X.1 X.2.1 dX5_print_265 rfl (lv_at hl 2 rfl) ?_
              refine q_zldv (len := 4200) (v := (C 43 ((m_hk C a)) 0)) X hP 43 0 (by decide) rfl rfl (m_va hM 23 (by decide) rfl) rfl (by omega) (by omega) rfl dX5_print_266 ?_
              refine q_if_eq (tgt := 279) X (q_b32 (hP.tok 43 ((m_hk C a)) 0 rfl)) dX5_print_267 (by decide) (fun h_25 => ?_) (fun h_25 => ?_)
              · refine lv_iconst (v := iI (0)) X.1 X.2.1 dX5_print_279 rfl ?_
                have hl : lv_has ls 11 [(9, .int (iI (C 42 ((m_hk C a)) 0))), (8, .int (iI (((4) * (C 31 (((C 38 ((m_hk C a)) 0)).toNat) 0)) - (4)))), (3, .int (iI (((m_hk C a) : Nat) : Int))), (0, .ref (ad 5 0)), (1, .int (iI a)), (7, .int (iI (m_out C a b))), (10, .int (iI (m_she C a b)))] := lv_sub hl [0, 1, 2, 3, 4, 5, 6] rfl
                rw [show (0) = (m_frs C a b) from by unfold m_frs; first | (rw [if_pos ⟨by omega, by omega⟩]; done) | (rw [if_neg (fun q => by obtain ⟨q1, q2⟩ := q; omega)]; done)]
                exact kj _ _ ls hP hS hl
              · refine lv_iload X.1 X.2.1 dX5_print_270 (lv_at hl 5 rfl) ?_
                refine q_if_ne (tgt := 279) X (by omega) dX5_print_272 (by decide) (fun h_26 => ?_) (fun h_26 => ?_)
                · refine lv_iconst (v := iI (0)) X.1 X.2.1 dX5_print_279 rfl ?_
                  have hl : lv_has ls 11 [(9, .int (iI (C 42 ((m_hk C a)) 0))), (8, .int (iI (((4) * (C 31 (((C 38 ((m_hk C a)) 0)).toNat) 0)) - (4)))), (3, .int (iI (((m_hk C a) : Nat) : Int))), (0, .ref (ad 5 0)), (1, .int (iI a)), (7, .int (iI (m_out C a b))), (10, .int (iI (m_she C a b)))] := lv_sub hl [0, 1, 2, 3, 4, 5, 6] rfl
                  rw [show (0) = (m_frs C a b) from by unfold m_frs; first | (rw [if_pos ⟨by omega, by omega⟩]; done) | (rw [if_neg (fun q => by obtain ⟨q1, q2⟩ := q; omega)]; done)]
                  exact kj _ _ ls hP hS hl
                · refine lv_iconst (v := iI (1)) X.1 X.2.1 dX5_print_275 rfl ?_
                  refine lv_goto (tgt := 280) X.1 X.2.1 dX5_print_276 (by decide) ?_
                  have hl : lv_has ls 11 [(9, .int (iI (C 42 ((m_hk C a)) 0))), (8, .int (iI (((4) * (C 31 (((C 38 ((m_hk C a)) 0)).toNat) 0)) - (4)))), (3, .int (iI (((m_hk C a) : Nat) : Int))), (0, .ref (ad 5 0)), (1, .int (iI a)), (7, .int (iI (m_out C a b))), (10, .int (iI (m_she C a b)))] := lv_sub hl [0, 1, 2, 3, 4, 5, 6] rfl
                  rw [show (1) = (m_frs C a b) from by unfold m_frs; first | (rw [if_pos ⟨by omega, by omega⟩]; done) | (rw [if_neg (fun q => by obtain ⟨q1, q2⟩ := q; omega)]; done)]
                  exact kj _ _ ls hP hS hl
          · refine lv_iload X.1 X.2.1 dX5_print_129 (lv_at hl 8 rfl) ?_
            refine lv_istore (lv' := [(10, .int (iI (m_out C a b))), (9, .int (iI (C 42 ((m_hk C a)) 0))), (8, .int (iI (((4) * (C 31 (((C 38 ((m_hk C a)) 0)).toNat) 0)) - (4)))), (5, .int (iI (C 32 (((C 38 ((m_hk C a)) 0)).toNat) 0))), (4, .int (iI (C 38 ((m_hk C a)) 0))), (3, .int (iI (((m_hk C a) : Nat) : Int))), (0, .ref (ad 5 0)), (1, .int (iI a)), (2, .int (iI b)), (7, .int (iI (m_out C a b)))]) X.1 X.2.1 dX5_print_131 hl (by decide) rfl (fun ls hl => ?_)
            refine lv_aload_n X.1 X.2.1 dX5_print_133 rfl (lv_at hl 6 rfl) ?_
            refine q_get (index := 25) (v := .ref (ad 28 0)) X hP 5 8 0 rfl rfl (by decide) in5 (m_v5 hM) (by decide) (by decide +kernel) (m_r hM ad 8 28 (by decide)) dX5_print_134 ?_
            refine lv_aload_n X.1 X.2.1 dX5_print_137 rfl (lv_at hl 6 rfl) ?_
            refine q_get (index := 32) (v := .ref (ad 31 0)) X hP 5 11 0 rfl rfl (by decide) in5 (m_v5 hM) (by decide) (by decide +kernel) (m_r hM ad 11 31 (by decide)) dX5_print_138 ?_
            refine lv_iload X.1 X.2.1 dX5_print_141 (lv_at hl 4 rfl) ?_
            refine q_ildv (len := 61) (v := (C 31 (((C 38 ((m_hk C a)) 0)).toNat) 0)) X hP 31 0 (by decide) rfl rfl (m_va hM 11 (by decide) rfl) rfl (by omega) (by omega) rfl dX5_print_143 ?_
            refine q_ildv (len := 21) (v := (C 28 (((C 31 (((C 38 ((m_hk C a)) 0)).toNat) 0)).toNat) 0)) X hP 28 0 (by decide) rfl rfl (m_va hM 8 (by decide) rfl) rfl (by omega) (by omega) rfl dX5_print_144 ?_
            refine lv_iconst (v := iI (2)) X.1 X.2.1 dX5_print_145 rfl ?_
            refine q_icmp_ne (tgt := 205) X (hP.tok 28 (((C 31 (((C 38 ((m_hk C a)) 0)).toNat) 0)).toNat) 0 rfl) (by decide) dX5_print_146 (by decide) (fun h_27 => ?_) (fun h_27 => ?_)
            · have e_28 : (m_out C a b) = (m_she C a b) := by unfold m_she; first | (rw [if_neg (by assumption)]; done) | (rw [if_pos (by assumption)]; first | (rw [if_pos ⟨by omega, by omega, by omega⟩]; done) | (rw [if_neg (fun q => by obtain ⟨q1, q2, q3⟩ := q; omega)]; done))
              have hl : lv_has ls 11 [(9, .int (iI (C 42 ((m_hk C a)) 0))), (8, .int (iI (((4) * (C 31 (((C 38 ((m_hk C a)) 0)).toNat) 0)) - (4)))), (3, .int (iI (((m_hk C a) : Nat) : Int))), (0, .ref (ad 5 0)), (1, .int (iI a)), (7, .int (iI (m_out C a b))), (10, .int (iI (m_she C a b)))] := lv_cong (show lv_has ls 11 [(9, .int (iI (C 42 ((m_hk C a)) 0))), (8, .int (iI (((4) * (C 31 (((C 38 ((m_hk C a)) 0)).toNat) 0)) - (4)))), (3, .int (iI (((m_hk C a) : Nat) : Int))), (0, .ref (ad 5 0)), (1, .int (iI a)), (7, .int (iI (m_out C a b))), (10, .int (iI (m_out C a b)))] from lv_sub hl [1, 2, 5, 6, 7, 9, 0] rfl) (lv_cs rfl (lv_cs rfl (lv_cs rfl (lv_cs rfl (lv_cs rfl (lv_cs rfl (lv_cs (congrArg (fun z => Value.int (iI z)) e_28) rfl)))))))
              exact kj _ _ ls hP hS hl
            · refine lv_iload X.1 X.2.1 dX5_print_149 (lv_at hl 3 rfl) ?_
              refine lv_iload X.1 X.2.1 dX5_print_151 (lv_at hl 1 rfl) ?_
              refine lv_iload X.1 X.2.1 dX5_print_153 (lv_at hl 9 rfl) ?_
              refine q_iadd X dX5_print_155 ?_
              refine va_calli (va_runS (As := [.int (iI (C 32 (((C 38 ((m_hk C a)) 0)).toNat) 0)), .int (iI ((C 42 ((m_hk C a)) 0) + (m_out C a b)))]) (rest := []) X.fix (c_X5_odd l g s0 n ad (q_up C 5 0 0 ((0))) (C 32 (((C 38 ((m_hk C a)) 0)).toNat) 0) ((C 42 ((m_hk C a)) 0) + (m_out C a b)) (by omega) (by omega)) (va_cwS 2 X.2.2.2.2.1 gX5_print_X5_odd rfl rfl rfl (by decide +kernel) ⟨Nat.le_of_ble_eq_true rfl, Nat.le_of_ble_eq_true rfl⟩) (q_preS X hP hS _) rfl rfl hl.1 rfl (lv_room (Nat.le_of_ble_eq_true rfl)) dX5_print_156 ⟨Nat.le_of_ble_eq_true rfl, Nat.le_of_ble_eq_true rfl⟩) hS q_id q_id1 (fun r u t H locs ht hvm hw hB hz1 hk1 hS => ?_)
              obtain ⟨rfl, rfl⟩ := hw
              have hP : q_P g s0 n ad (q_up C 5 0 0 ((0))) H := q_back hB ht
              refine lv_iload X.1 X.2.1 dX5_print_159 (lv_at hl 3 rfl) ?_
              refine lv_iload X.1 X.2.1 dX5_print_161 (lv_at hl 1 rfl) ?_
              refine va_calli (va_runS (As := [.int (iI (C 32 (((C 38 ((m_hk C a)) 0)).toNat) 0)), .int (iI (C 42 ((m_hk C a)) 0))]) (rest := [.int (iI (m_odd (C 32 (((C 38 ((m_hk C a)) 0)).toNat) 0) ((C 42 ((m_hk C a)) 0) + (m_out C a b))))]) X.fix (c_X5_odd l g s0 n ad (q_up C 5 0 0 ((0))) (C 32 (((C 38 ((m_hk C a)) 0)).toNat) 0) (C 42 ((m_hk C a)) 0) (by omega) (by omega)) (va_cwS 2 X.2.2.2.2.1 gX5_print_X5_odd rfl rfl rfl (by decide +kernel) ⟨Nat.le_of_ble_eq_true rfl, Nat.le_of_ble_eq_true rfl⟩) (q_preS X hP hS _) rfl rfl hl.1 rfl (lv_room (Nat.le_of_ble_eq_true rfl)) dX5_print_163 ⟨Nat.le_of_ble_eq_true rfl, Nat.le_of_ble_eq_true rfl⟩) hS q_id q_id1 (fun r u t H locs ht hvm hw hB hz1 hk1 hS => ?_)
              obtain ⟨rfl, rfl⟩ := hw
              have hP : q_P g s0 n ad (q_up C 5 0 0 ((0))) H := q_back hB ht
              refine q_isub X dX5_print_166 ?_
              refine lv_istore (lv' := [(10, .int (iI ((m_odd (C 32 (((C 38 ((m_hk C a)) 0)).toNat) 0) ((C 42 ((m_hk C a)) 0) + (m_out C a b))) - (m_odd (C 32 (((C 38 ((m_hk C a)) 0)).toNat) 0) (C 42 ((m_hk C a)) 0))))), (9, .int (iI (C 42 ((m_hk C a)) 0))), (8, .int (iI (((4) * (C 31 (((C 38 ((m_hk C a)) 0)).toNat) 0)) - (4)))), (5, .int (iI (C 32 (((C 38 ((m_hk C a)) 0)).toNat) 0))), (4, .int (iI (C 38 ((m_hk C a)) 0))), (3, .int (iI (((m_hk C a) : Nat) : Int))), (0, .ref (ad 5 0)), (1, .int (iI a)), (2, .int (iI b)), (7, .int (iI (m_out C a b)))]) X.1 X.2.1 dX5_print_167 hl (by decide) rfl (fun ls hl => ?_)
              refine lv_iload X.1 X.2.1 dX5_print_169 (lv_at hl 9 rfl) ?_
              refine q_if_le (tgt := 201) X (by omega) dX5_print_171 (by decide) (fun h_29 => ?_) (fun h_29 => ?_)
              · refine lv_iload X.1 X.2.1 dX5_print_201 (lv_at hl 0 rfl) ?_
                refine lv_istore (lv' := [(10, .int (iI ((m_odd (C 32 (((C 38 ((m_hk C a)) 0)).toNat) 0) ((C 42 ((m_hk C a)) 0) + (m_out C a b))) - (m_odd (C 32 (((C 38 ((m_hk C a)) 0)).toNat) 0) (C 42 ((m_hk C a)) 0))))), (9, .int (iI (C 42 ((m_hk C a)) 0))), (8, .int (iI (((4) * (C 31 (((C 38 ((m_hk C a)) 0)).toNat) 0)) - (4)))), (5, .int (iI (C 32 (((C 38 ((m_hk C a)) 0)).toNat) 0))), (4, .int (iI (C 38 ((m_hk C a)) 0))), (3, .int (iI (((m_hk C a) : Nat) : Int))), (0, .ref (ad 5 0)), (1, .int (iI a)), (2, .int (iI b)), (7, .int (iI (m_out C a b)))]) X.1 X.2.1 dX5_print_203 hl (by decide) rfl (fun ls hl => ?_)
                have e_30 : ((m_odd (C 32 (((C 38 ((m_hk C a)) 0)).toNat) 0) ((C 42 ((m_hk C a)) 0) + (m_out C a b))) - (m_odd (C 32 (((C 38 ((m_hk C a)) 0)).toNat) 0) (C 42 ((m_hk C a)) 0))) = (m_she C a b) := by unfold m_she; first | (rw [if_neg (by assumption)]; done) | (rw [if_pos (by assumption)]; first | (rw [if_pos ⟨by omega, by omega, by omega⟩]; done) | (rw [if_neg (fun q => by obtain ⟨q1, q2, q3⟩ := q; omega)]; done))
                have hl : lv_has ls 11 [(9, .int (iI (C 42 ((m_hk C a)) 0))), (8, .int (iI (((4) * (C 31 (((C 38 ((m_hk C a)) 0)).toNat) 0)) - (4)))), (3, .int (iI (((m_hk C a) : Nat) : Int))), (0, .ref (ad 5 0)), (1, .int (iI a)), (7, .int (iI (m_out C a b))), (10, .int (iI (m_she C a b)))] := lv_cong (show lv_has ls 11 [(9, .int (iI (C 42 ((m_hk C a)) 0))), (8, .int (iI (((4) * (C 31 (((C 38 ((m_hk C a)) 0)).toNat) 0)) - (4)))), (3, .int (iI (((m_hk C a) : Nat) : Int))), (0, .ref (ad 5 0)), (1, .int (iI a)), (7, .int (iI (m_out C a b))), (10, .int (iI ((m_odd (C 32 (((C 38 ((m_hk C a)) 0)).toNat) 0) ((C 42 ((m_hk C a)) 0) + (m_out C a b))) - (m_odd (C 32 (((C 38 ((m_hk C a)) 0)).toNat) 0) (C 42 ((m_hk C a)) 0)))))] from lv_sub hl [1, 2, 5, 6, 7, 9, 0] rfl) (lv_cs rfl (lv_cs rfl (lv_cs rfl (lv_cs rfl (lv_cs rfl (lv_cs rfl (lv_cs (congrArg (fun z => Value.int (iI z)) e_30) rfl)))))))
                exact kj _ _ ls hP hS hl
              · refine lv_aload_n X.1 X.2.1 dX5_print_174 rfl (lv_at hl 6 rfl) ?_
                refine q_get (index := 66) (v := .ref (ad 43 0)) X hP 5 23 0 rfl rfl (by decide) in5 (m_v5 hM) (by decide) (by decide +kernel) (m_r hM ad 23 43 (by decide)) dX5_print_175 ?_
                refine lv_iload_n X.1 X.2.1 dX5_print_178 rfl (lv_at hl 5 rfl) ?_
                refine q_zldv (len := 4200) (v := (C 43 ((m_hk C a)) 0)) X hP 43 0 (by decide) rfl rfl (m_va hM 23 (by decide) rfl) rfl (by omega) (by omega) rfl dX5_print_179 ?_
                refine q_if_eq (tgt := 201) X (q_b32 (hP.tok 43 ((m_hk C a)) 0 rfl)) dX5_print_180 (by decide) (fun h_31 => ?_) (fun h_31 => ?_)
                · refine lv_iload X.1 X.2.1 dX5_print_201 (lv_at hl 0 rfl) ?_
                  refine lv_istore (lv' := [(10, .int (iI ((m_odd (C 32 (((C 38 ((m_hk C a)) 0)).toNat) 0) ((C 42 ((m_hk C a)) 0) + (m_out C a b))) - (m_odd (C 32 (((C 38 ((m_hk C a)) 0)).toNat) 0) (C 42 ((m_hk C a)) 0))))), (9, .int (iI (C 42 ((m_hk C a)) 0))), (8, .int (iI (((4) * (C 31 (((C 38 ((m_hk C a)) 0)).toNat) 0)) - (4)))), (5, .int (iI (C 32 (((C 38 ((m_hk C a)) 0)).toNat) 0))), (4, .int (iI (C 38 ((m_hk C a)) 0))), (3, .int (iI (((m_hk C a) : Nat) : Int))), (0, .ref (ad 5 0)), (1, .int (iI a)), (2, .int (iI b)), (7, .int (iI (m_out C a b)))]) X.1 X.2.1 dX5_print_203 hl (by decide) rfl (fun ls hl => ?_)
                  have e_32 : ((m_odd (C 32 (((C 38 ((m_hk C a)) 0)).toNat) 0) ((C 42 ((m_hk C a)) 0) + (m_out C a b))) - (m_odd (C 32 (((C 38 ((m_hk C a)) 0)).toNat) 0) (C 42 ((m_hk C a)) 0))) = (m_she C a b) := by unfold m_she; first | (rw [if_neg (by assumption)]; done) | (rw [if_pos (by assumption)]; first | (rw [if_pos ⟨by omega, by omega, by omega⟩]; done) | (rw [if_neg (fun q => by obtain ⟨q1, q2, q3⟩ := q; omega)]; done))
                  have hl : lv_has ls 11 [(9, .int (iI (C 42 ((m_hk C a)) 0))), (8, .int (iI (((4) * (C 31 (((C 38 ((m_hk C a)) 0)).toNat) 0)) - (4)))), (3, .int (iI (((m_hk C a) : Nat) : Int))), (0, .ref (ad 5 0)), (1, .int (iI a)), (7, .int (iI (m_out C a b))), (10, .int (iI (m_she C a b)))] := lv_cong (show lv_has ls 11 [(9, .int (iI (C 42 ((m_hk C a)) 0))), (8, .int (iI (((4) * (C 31 (((C 38 ((m_hk C a)) 0)).toNat) 0)) - (4)))), (3, .int (iI (((m_hk C a) : Nat) : Int))), (0, .ref (ad 5 0)), (1, .int (iI a)), (7, .int (iI (m_out C a b))), (10, .int (iI ((m_odd (C 32 (((C 38 ((m_hk C a)) 0)).toNat) 0) ((C 42 ((m_hk C a)) 0) + (m_out C a b))) - (m_odd (C 32 (((C 38 ((m_hk C a)) 0)).toNat) 0) (C 42 ((m_hk C a)) 0)))))] from lv_sub hl [1, 2, 5, 6, 7, 9, 0] rfl) (lv_cs rfl (lv_cs rfl (lv_cs rfl (lv_cs rfl (lv_cs rfl (lv_cs rfl (lv_cs (congrArg (fun z => Value.int (iI z)) e_32) rfl)))))))
                  exact kj _ _ ls hP hS hl
                · refine lv_iload X.1 X.2.1 dX5_print_183 (lv_at hl 1 rfl) ?_
                  refine lv_iload X.1 X.2.1 dX5_print_185 (lv_at hl 3 rfl) ?_
                  refine q_irem X (by omega) (by omega) dX5_print_187 ?_
                  refine lv_iconst (v := iI (2)) X.1 X.2.1 dX5_print_188 rfl ?_
                  refine q_irem X (by omega) (by decide) dX5_print_189 ?_
                  refine lv_iconst (v := iI (1)) X.1 X.2.1 dX5_print_190 rfl ?_
                  refine q_icmp_ne (tgt := 201) X (by omega) (by decide) dX5_print_191 (by decide) (fun h_33 => ?_) (fun h_33 => ?_)
                  · refine lv_iload X.1 X.2.1 dX5_print_201 (lv_at hl 0 rfl) ?_
                    refine lv_istore (lv' := [(10, .int (iI ((m_odd (C 32 (((C 38 ((m_hk C a)) 0)).toNat) 0) ((C 42 ((m_hk C a)) 0) + (m_out C a b))) - (m_odd (C 32 (((C 38 ((m_hk C a)) 0)).toNat) 0) (C 42 ((m_hk C a)) 0))))), (9, .int (iI (C 42 ((m_hk C a)) 0))), (8, .int (iI (((4) * (C 31 (((C 38 ((m_hk C a)) 0)).toNat) 0)) - (4)))), (5, .int (iI (C 32 (((C 38 ((m_hk C a)) 0)).toNat) 0))), (4, .int (iI (C 38 ((m_hk C a)) 0))), (3, .int (iI (((m_hk C a) : Nat) : Int))), (0, .ref (ad 5 0)), (1, .int (iI a)), (2, .int (iI b)), (7, .int (iI (m_out C a b)))]) X.1 X.2.1 dX5_print_203 hl (by decide) rfl (fun ls hl => ?_)
                    have e_34 : ((m_odd (C 32 (((C 38 ((m_hk C a)) 0)).toNat) 0) ((C 42 ((m_hk C a)) 0) + (m_out C a b))) - (m_odd (C 32 (((C 38 ((m_hk C a)) 0)).toNat) 0) (C 42 ((m_hk C a)) 0))) = (m_she C a b) := by unfold m_she; first | (rw [if_neg (by assumption)]; done) | (rw [if_pos (by assumption)]; first | (rw [if_pos ⟨by omega, by omega, by omega⟩]; done) | (rw [if_neg (fun q => by obtain ⟨q1, q2, q3⟩ := q; omega)]; done))
                    have hl : lv_has ls 11 [(9, .int (iI (C 42 ((m_hk C a)) 0))), (8, .int (iI (((4) * (C 31 (((C 38 ((m_hk C a)) 0)).toNat) 0)) - (4)))), (3, .int (iI (((m_hk C a) : Nat) : Int))), (0, .ref (ad 5 0)), (1, .int (iI a)), (7, .int (iI (m_out C a b))), (10, .int (iI (m_she C a b)))] := lv_cong (show lv_has ls 11 [(9, .int (iI (C 42 ((m_hk C a)) 0))), (8, .int (iI (((4) * (C 31 (((C 38 ((m_hk C a)) 0)).toNat) 0)) - (4)))), (3, .int (iI (((m_hk C a) : Nat) : Int))), (0, .ref (ad 5 0)), (1, .int (iI a)), (7, .int (iI (m_out C a b))), (10, .int (iI ((m_odd (C 32 (((C 38 ((m_hk C a)) 0)).toNat) 0) ((C 42 ((m_hk C a)) 0) + (m_out C a b))) - (m_odd (C 32 (((C 38 ((m_hk C a)) 0)).toNat) 0) (C 42 ((m_hk C a)) 0)))))] from lv_sub hl [1, 2, 5, 6, 7, 9, 0] rfl) (lv_cs rfl (lv_cs rfl (lv_cs rfl (lv_cs rfl (lv_cs rfl (lv_cs rfl (lv_cs (congrArg (fun z => Value.int (iI z)) e_34) rfl)))))))
                    exact kj _ _ ls hP hS hl
                  · refine lv_iload X.1 X.2.1 dX5_print_194 (lv_at hl 0 rfl) ?_
                    refine lv_iconst (v := iI (1)) X.1 X.2.1 dX5_print_196 rfl ?_
                    refine q_iadd X dX5_print_197 ?_
                    refine lv_goto (tgt := 203) X.1 X.2.1 dX5_print_198 (by decide) ?_
                    refine lv_istore (lv' := [(10, .int (iI (((m_odd (C 32 (((C 38 ((m_hk C a)) 0)).toNat) 0) ((C 42 ((m_hk C a)) 0) + (m_out C a b))) - (m_odd (C 32 (((C 38 ((m_hk C a)) 0)).toNat) 0) (C 42 ((m_hk C a)) 0))) + (1)))), (9, .int (iI (C 42 ((m_hk C a)) 0))), (8, .int (iI (((4) * (C 31 (((C 38 ((m_hk C a)) 0)).toNat) 0)) - (4)))), (5, .int (iI (C 32 (((C 38 ((m_hk C a)) 0)).toNat) 0))), (4, .int (iI (C 38 ((m_hk C a)) 0))), (3, .int (iI (((m_hk C a) : Nat) : Int))), (0, .ref (ad 5 0)), (1, .int (iI a)), (2, .int (iI b)), (7, .int (iI (m_out C a b)))]) X.1 X.2.1 dX5_print_203 hl (by decide) rfl (fun ls hl => ?_)
                    have e_35 : (((m_odd (C 32 (((C 38 ((m_hk C a)) 0)).toNat) 0) ((C 42 ((m_hk C a)) 0) + (m_out C a b))) - (m_odd (C 32 (((C 38 ((m_hk C a)) 0)).toNat) 0) (C 42 ((m_hk C a)) 0))) + (1)) = (m_she C a b) := by unfold m_she; first | (rw [if_neg (by assumption)]; done) | (rw [if_pos (by assumption)]; first | (rw [if_pos ⟨by omega, by omega, by omega⟩]; done) | (rw [if_neg (fun q => by obtain ⟨q1, q2, q3⟩ := q; omega)]; done))
                    have hl : lv_has ls 11 [(9, .int (iI (C 42 ((m_hk C a)) 0))), (8, .int (iI (((4) * (C 31 (((C 38 ((m_hk C a)) 0)).toNat) 0)) - (4)))), (3, .int (iI (((m_hk C a) : Nat) : Int))), (0, .ref (ad 5 0)), (1, .int (iI a)), (7, .int (iI (m_out C a b))), (10, .int (iI (m_she C a b)))] := lv_cong (show lv_has ls 11 [(9, .int (iI (C 42 ((m_hk C a)) 0))), (8, .int (iI (((4) * (C 31 (((C 38 ((m_hk C a)) 0)).toNat) 0)) - (4)))), (3, .int (iI (((m_hk C a) : Nat) : Int))), (0, .ref (ad 5 0)), (1, .int (iI a)), (7, .int (iI (m_out C a b))), (10, .int (iI (((m_odd (C 32 (((C 38 ((m_hk C a)) 0)).toNat) 0) ((C 42 ((m_hk C a)) 0) + (m_out C a b))) - (m_odd (C 32 (((C 38 ((m_hk C a)) 0)).toNat) 0) (C 42 ((m_hk C a)) 0))) + (1))))] from lv_sub hl [1, 2, 5, 6, 7, 9, 0] rfl) (lv_cs rfl (lv_cs rfl (lv_cs rfl (lv_cs rfl (lv_cs rfl (lv_cs rfl (lv_cs (congrArg (fun z => Value.int (iI z)) e_35) rfl)))))))
                    exact kj _ _ ls hP hS hl
        · refine lv_iload_n X.1 X.2.1 dX5_print_94 rfl (lv_at hl 6 rfl) ?_
          refine lv_iload X.1 X.2.1 dX5_print_95 (lv_at hl 0 rfl) ?_
          refine q_icmp_ge (tgt := 104) X hb (by omega) dX5_print_97 (by decide) (fun h_36 => ?_) (fun h_36 => ?_)
          · refine lv_iload X.1 X.2.1 dX5_print_104 (lv_at hl 0 rfl) ?_
            refine lv_istore (lv' := [(7, .int (iI (((C 39 ((m_hk C a)) 0) * (C 32 (((C 38 ((m_hk C a)) 0)).toNat) 0)) - (C 42 ((m_hk C a)) 0)))), (6, .int (iI (((C 39 ((m_hk C a)) 0) * (C 32 (((C 38 ((m_hk C a)) 0)).toNat) 0)) - (C 42 ((m_hk C a)) 0)))), (5, .int (iI (C 32 (((C 38 ((m_hk C a)) 0)).toNat) 0))), (4, .int (iI (C 38 ((m_hk C a)) 0))), (3, .int (iI (((m_hk C a) : Nat) : Int))), (0, .ref (ad 5 0)), (1, .int (iI a)), (2, .int (iI b))]) X.1 X.2.1 dX5_print_106 hl (by decide) rfl (fun ls hl => ?_)
            have e_37 : (((C 39 ((m_hk C a)) 0) * (C 32 (((C 38 ((m_hk C a)) 0)).toNat) 0)) - (C 42 ((m_hk C a)) 0)) = (m_out C a b) := by unfold m_out; first | (rw [if_pos (by assumption)]; done) | (rw [if_neg (by omega)]; done)
            have hl : lv_has ls 11 [(5, .int (iI (C 32 (((C 38 ((m_hk C a)) 0)).toNat) 0))), (4, .int (iI (C 38 ((m_hk C a)) 0))), (3, .int (iI (((m_hk C a) : Nat) : Int))), (0, .ref (ad 5 0)), (1, .int (iI a)), (2, .int (iI b)), (7, .int (iI (m_out C a b)))] := lv_cong (show lv_has ls 11 [(5, .int (iI (C 32 (((C 38 ((m_hk C a)) 0)).toNat) 0))), (4, .int (iI (C 38 ((m_hk C a)) 0))), (3, .int (iI (((m_hk C a) : Nat) : Int))), (0, .ref (ad 5 0)), (1, .int (iI a)), (2, .int (iI b)), (7, .int (iI (((C 39 ((m_hk C a)) 0) * (C 32 (((C 38 ((m_hk C a)) 0)).toNat) 0)) - (C 42 ((m_hk C a)) 0))))] from lv_sub hl [2, 3, 4, 5, 6, 7, 0] rfl) (lv_cs rfl (lv_cs rfl (lv_cs rfl (lv_cs rfl (lv_cs rfl (lv_cs rfl (lv_cs (congrArg (fun z => Value.int (iI z)) e_37) rfl)))))))
            exact kj _ _ ls hP hS hl
          · refine lv_iload_n X.1 X.2.1 dX5_print_100 rfl (lv_at hl 6 rfl) ?_
            refine lv_goto (tgt := 106) X.1 X.2.1 dX5_print_101 (by decide) ?_
            refine lv_istore (lv' := [(7, .int (iI b)), (6, .int (iI (((C 39 ((m_hk C a)) 0) * (C 32 (((C 38 ((m_hk C a)) 0)).toNat) 0)) - (C 42 ((m_hk C a)) 0)))), (5, .int (iI (C 32 (((C 38 ((m_hk C a)) 0)).toNat) 0))), (4, .int (iI (C 38 ((m_hk C a)) 0))), (3, .int (iI (((m_hk C a) : Nat) : Int))), (0, .ref (ad 5 0)), (1, .int (iI a)), (2, .int (iI b))]) X.1 X.2.1 dX5_print_106 hl (by decide) rfl (fun ls hl => ?_)
            have e_38 : b = (m_out C a b) := by unfold m_out; first | (rw [if_pos (by assumption)]; done) | (rw [if_neg (by omega)]; done)
            have hl : lv_has ls 11 [(5, .int (iI (C 32 (((C 38 ((m_hk C a)) 0)).toNat) 0))), (4, .int (iI (C 38 ((m_hk C a)) 0))), (3, .int (iI (((m_hk C a) : Nat) : Int))), (0, .ref (ad 5 0)), (1, .int (iI a)), (2, .int (iI b)), (7, .int (iI (m_out C a b)))] := lv_cong (show lv_has ls 11 [(5, .int (iI (C 32 (((C 38 ((m_hk C a)) 0)).toNat) 0))), (4, .int (iI (C 38 ((m_hk C a)) 0))), (3, .int (iI (((m_hk C a) : Nat) : Int))), (0, .ref (ad 5 0)), (1, .int (iI a)), (2, .int (iI b)), (7, .int (iI b))] from lv_sub hl [2, 3, 4, 5, 6, 7, 0] rfl) (lv_cs rfl (lv_cs rfl (lv_cs rfl (lv_cs rfl (lv_cs rfl (lv_cs rfl (lv_cs (congrArg (fun z => Value.int (iI z)) e_38) rfl)))))))
            exact kj _ _ ls hP hS hl
      · refine lv_iconst (v := iI (0)) X.1 X.2.1 dX5_print_50 rfl ?_
        exact q_iret X hr hlocks hP hS (Or.inr (Or.inr (Or.inl (⟨h_1, h_3, h_7, rfl, rfl⟩)))) (Nat.le_of_ble_eq_true rfl) (Nat.le_of_ble_eq_true rfl) dX5_print_51
    · have hP : q_P g s0 n ad (C) H := q_back hB ht
      have h_3 : ¬ ((0) ≤ b ∧ b ≤ (50000)) := h_3
      refine q_if_ne (tgt := 29) X (by decide) dX5_print_22 (by decide) (fun h => absurd h (by decide)) (fun _ => ?_)
      refine lv_iconst (v := iI (2)) X.1 X.2.1 dX5_print_25 rfl ?_
      refine lv_goto (tgt := 30) X.1 X.2.1 dX5_print_26 (by decide) ?_
      refine q_put (index := 82) (v := .int (iI (2))) X hP hS 5 0 0 ((2)) rfl rfl (by decide) in5 tyX5 tyX5_ok nmX5 (m_v5 hM) (by decide) (by decide +kernel) rfl rfl rfl rfl (show R32 _ from (by decide)) dX5_print_30 (fun H locs hP hS => ?_)
      have hP : q_P g s0 n ad (q_up C 5 0 0 ((2))) H := hP
      refine lv_aload_n X.1 X.2.1 dX5_print_33 rfl (lv_at hl 0 rfl) ?_
      refine q_get (index := 82) (v := .int (iI (2))) X hP 5 0 0 rfl rfl (by decide) in5 (m_v5 hM) (by decide) (by decide +kernel) rfl dX5_print_34 ?_
      refine q_if_gt (tgt := 50) X (by decide) dX5_print_37 (by decide) (fun _ => ?_) (fun h => absurd h (by decide))
      refine lv_iconst (v := iI (0)) X.1 X.2.1 dX5_print_50 rfl ?_
      exact q_iret X hr hlocks hP hS (Or.inr (Or.inr (Or.inr (Or.inl (⟨h_1, h_3, rfl, rfl⟩))))) (Nat.le_of_ble_eq_true rfl) (Nat.le_of_ble_eq_true rfl) dX5_print_51
  · have hP : q_P g s0 n ad (C) H := q_back hB ht
    have h_1 : ¬ (1 ≤ a ∧ a ≤ C 5 1 0) := h_1
    refine q_if_ne (tgt := 13) X (by decide) dX5_print_6 (by decide) (fun h => absurd h (by decide)) (fun _ => ?_)
    refine lv_iconst (v := iI (1)) X.1 X.2.1 dX5_print_9 rfl ?_
    refine lv_goto (tgt := 30) X.1 X.2.1 dX5_print_10 (by decide) ?_
    refine q_put (index := 82) (v := .int (iI (1))) X hP hS 5 0 0 ((1)) rfl rfl (by decide) in5 tyX5 tyX5_ok nmX5 (m_v5 hM) (by decide) (by decide +kernel) rfl rfl rfl rfl (show R32 _ from (by decide)) dX5_print_30 (fun H locs hP hS => ?_)
    have hP : q_P g s0 n ad (q_up C 5 0 0 ((1))) H := hP
    refine lv_aload_n X.1 X.2.1 dX5_print_33 rfl (lv_at hl 0 rfl) ?_
    refine q_get (index := 82) (v := .int (iI (1))) X hP 5 0 0 rfl rfl (by decide) in5 (m_v5 hM) (by decide) (by decide +kernel) rfl dX5_print_34 ?_
    refine q_if_gt (tgt := 50) X (by decide) dX5_print_37 (by decide) (fun _ => ?_) (fun h => absurd h (by decide))
    refine lv_iconst (v := iI (0)) X.1 X.2.1 dX5_print_50 rfl ?_
    exact q_iret X hr hlocks hP hS (Or.inr (Or.inr (Or.inr (Or.inr (⟨h_1, rfl, rfl⟩))))) (Nat.le_of_ble_eq_true rfl) (Nat.le_of_ble_eq_true rfl) dX5_print_51
