set_option maxHeartbeats 4000000 in
set_option maxRecDepth 100000 in
theorem c_X5_in (l : Launch) (g : q_G) (s0 : Nat) (n : Nat → Nat) (ad : Nat → Nat → Nat) (C : q_S) (a b d : Int) (ha : R64 a) (hb : R64 b) (hd : R64 d) : Met l yX5_in wsX5_in ({ frames := 0, cells := 0, slots := 0, locals := 0 }) (va_Pc [.long (jI a), .long (jI b), .long (jI d)] (q_B g s0 (n, ad, C))) (va_Qi (fun r u => u = (n, ad, C) ∧ (((b ≤ a ∧ a ≤ d) ∧ r = iI 1) ∨ (¬ (b ≤ a ∧ a ≤ d) ∧ r = iI 0))) (q_B g s0) (q_A s0)) 0 0 (q_A s0) := by
  refine Met.ofW (cc := cX5_in) (maxL := 6) (ret := (some .boolean)) (by decide) rfl ?_
  intro p e s m args below meth c s₁ B hml hv
  obtain ⟨rfl, hv⟩ := hv
  have hr := B.returns
  have hlocks := B.notSynchronized
  obtain ⟨X, hP⟩ := q_start B.exec B.bytes hml (show s.vm.findClass RX5 = some m.cls from findClass_of_methodNamed B.named) (atoms_spec (ws := wsX5_in) B.pre) hv
  have hP : q_P g s0 n ad C s.heap := hP
  have hS : va_S (q_A s0) s.heap s.heap [] := va_S.rf
  have hl := lv_entry ([.long (jI a), .long (jI b), .long (jI d)]) (n := 6) (Nat.le_of_ble_eq_true rfl)
  rw [lg_entry_eq]
  generalize (lg_sl ([.long (jI a), .long (jI b), .long (jI d)]) ++ List.replicate (6 - (lg_sl ([.long (jI a), .long (jI b), .long (jI d)])).length) Slot.unset).toArray = ls at hl ⊢
  have hl : lv_has ls 6 [(0, .long (jI a)), (2, .long (jI b)), (4, .long (jI d))] := hl
  refine lv_lload_n X.1 X.2.1 dX5_in_0 rfl (lv_at hl 0 rfl) ?_
  refine lv_lload_n X.1 X.2.1 dX5_in_1 rfl (lv_at hl 1 rfl) ?_
  refine q_lcmp_lt (tgt := 17) X ha hb dX5_in_2 dX5_in_3 (by decide) (fun h_1 => ?_) (fun h_1 => ?_)
  · refine lv_iconst (v := iI (0)) X.1 X.2.1 dX5_in_17 rfl ?_
    exact q_zret X hr hlocks hP hS (z := (0)) (by decide) ⟨rfl, Or.inr ⟨by omega, rfl⟩⟩ (Nat.le_of_ble_eq_true rfl) (Nat.le_of_ble_eq_true rfl) dX5_in_18
  · refine lv_lload_n X.1 X.2.1 dX5_in_6 rfl (lv_at hl 0 rfl) ?_
    refine lv_lload X.1 X.2.1 dX5_in_7 (lv_at hl 2 rfl) ?_
    refine q_lcmp_gt (tgt := 17) X ha hd dX5_in_9 dX5_in_10 (by decide) (fun h_2 => ?_) (fun h_2 => ?_)
    · refine lv_iconst (v := iI (0)) X.1 X.2.1 dX5_in_17 rfl ?_
      exact q_zret X hr hlocks hP hS (z := (0)) (by decide) ⟨rfl, Or.inr ⟨by omega, rfl⟩⟩ (Nat.le_of_ble_eq_true rfl) (Nat.le_of_ble_eq_true rfl) dX5_in_18
    · refine lv_iconst (v := iI (1)) X.1 X.2.1 dX5_in_13 rfl ?_
      refine lv_goto (tgt := 18) X.1 X.2.1 dX5_in_14 (by decide) ?_
      exact q_zret X hr hlocks hP hS (z := (1)) (by decide) ⟨rfl, Or.inl ⟨by omega, rfl⟩⟩ (Nat.le_of_ble_eq_true rfl) (Nat.le_of_ble_eq_true rfl) dX5_in_18
set_option maxHeartbeats 4000000 in
set_option maxRecDepth 100000 in
theorem c_X5_thrown (l : Launch) (g : q_G) (s0 : Nat) (n : Nat → Nat) (ad : Nat → Nat → Nat) (C : q_S) (hM : m_S C n) : Met l yX5_thrown wsX5_thrown ({ frames := 0, cells := 0, slots := 0, locals := 0 }) (va_Pc [.ref (ad 5 0)] (q_B g s0 (n, ad, C))) (va_Qi (fun r u => u = (n, ad, C) ∧ r = iI (C 5 0 0)) (q_B g s0) (q_A s0)) 0 0 (q_A s0) := by
  refine Met.ofW (cc := cX5_thrown) (maxL := 1) (ret := (some .int)) (by decide) rfl ?_
  intro p e s m args below meth c s₁ B hml hv
  obtain ⟨rfl, hv⟩ := hv
  have hr := B.returns
  have hlocks := B.notSynchronized
  obtain ⟨X, hP⟩ := q_start B.exec B.bytes hml (show s.vm.findClass RX5 = some m.cls from findClass_of_methodNamed B.named) (atoms_spec (ws := wsX5_thrown) B.pre) hv
  have hP : q_P g s0 n ad C s.heap := hP
  have hS : va_S (q_A s0) s.heap s.heap [] := va_S.rf
  have in5 : ∀ w ∈ wsX50, w ∈ wsX5_thrown := by decide +kernel
  have hl := lv_entry ([.ref (ad 5 0)]) (n := 1) (Nat.le_of_ble_eq_true rfl)
  rw [lg_entry_eq]
  generalize (lg_sl ([.ref (ad 5 0)]) ++ List.replicate (1 - (lg_sl ([.ref (ad 5 0)])).length) Slot.unset).toArray = ls at hl ⊢
  have hl : lv_has ls 1 [(0, .ref (ad 5 0))] := hl
  refine lv_aload_n X.1 X.2.1 dX5_thrown_0 rfl (lv_at hl 0 rfl) ?_
  refine q_get (index := 82) (v := .int (iI (C 5 0 0))) X hP 5 0 0 rfl rfl (by decide) in5 (m_v5 hM) (by decide) (by decide +kernel) rfl dX5_thrown_1 ?_
  exact q_iret X hr hlocks hP hS ⟨rfl, rfl⟩ (Nat.le_of_ble_eq_true rfl) (Nat.le_of_ble_eq_true rfl) dX5_thrown_4
set_option maxHeartbeats 4000000 in
set_option maxRecDepth 100000 in
theorem c_X5_isPrinter (l : Launch) (g : q_G) (s0 : Nat) (n : Nat → Nat) (ad : Nat → Nat → Nat) (C : q_S) (c0 : Nat) (hM : m_S C n) (hR : m_R C c0) (a : Int) (ha : R32 a) : Met l yX5_isPrinter wsX5_isPrinter ({ frames := 1, cells := 0, slots := 0, locals := 25 }) (va_Pc [.ref (ad 5 0), .int (iI a)] (q_B g s0 (n, ad, C))) (va_Qi (fun r u => u = (n, ad, C) ∧ (((1 ≤ a ∧ a ≤ C 5 1 0) ∧ r = iI 1) ∨ (¬ (1 ≤ a ∧ a ≤ C 5 1 0) ∧ r = iI 0))) (q_B g s0) (q_A s0)) 0 0 (q_A s0) := by
  refine Met.ofW (cc := cX5_isPrinter) (maxL := 2) (ret := (some .boolean)) (by decide) rfl ?_
  intro p e s m args below meth c s₁ B hml hv
  obtain ⟨rfl, hv⟩ := hv
  have hr := B.returns
  have hlocks := B.notSynchronized
  obtain ⟨X, hP⟩ := q_start B.exec B.bytes hml (show s.vm.findClass RX5 = some m.cls from findClass_of_methodNamed B.named) (atoms_spec (ws := wsX5_isPrinter) B.pre) hv
  have hP : q_P g s0 n ad C s.heap := hP
  have hS : va_S (q_A s0) s.heap s.heap [] := va_S.rf
  have in5 : ∀ w ∈ wsX50, w ∈ wsX5_isPrinter := by decide +kernel
  have hl := lv_entry ([.ref (ad 5 0), .int (iI a)]) (n := 2) (Nat.le_of_ble_eq_true rfl)
  rw [lg_entry_eq]
  generalize (lg_sl ([.ref (ad 5 0), .int (iI a)]) ++ List.replicate (2 - (lg_sl ([.ref (ad 5 0), .int (iI a)])).length) Slot.unset).toArray = ls at hl ⊢
  have hl : lv_has ls 2 [(0, .ref (ad 5 0)), (1, .int (iI a))] := hl
  refine lv_iload_n X.1 X.2.1 dX5_isPrinter_0 rfl (lv_at hl 1 rfl) ?_
  refine q_i2l X ha dX5_isPrinter_1 ?_
  refine lv_lconst (v := jI (1)) X.1 X.2.1 dX5_isPrinter_2 (by decide) ?_
  refine lv_aload_n X.1 X.2.1 dX5_isPrinter_3 rfl (lv_at hl 0 rfl) ?_
  refine q_get (index := 93) (v := .int (iI (C 5 1 0))) X hP 5 1 0 rfl rfl (by decide) in5 (m_v5 hM) (by decide) (by decide +kernel) rfl dX5_isPrinter_4 ?_
  have f_1 := m_Rp hR
  refine q_i2l X (hP.tok 5 1 0 rfl) dX5_isPrinter_7 ?_
  refine va_calli (va_runS (As := [.long (jI a), .long (jI (1)), .long (jI (C 5 1 0))]) (rest := []) X.fix (c_X5_in l g s0 n ad C a (1) (C 5 1 0) (q_3264 ha) (by decide) (q_3264 (hP.tok 5 1 0 rfl))) (va_cwS 3 X.2.2.2.2.1 gX5_isPrinter_X5_in rfl rfl rfl (by decide +kernel) ⟨Nat.le_of_ble_eq_true rfl, Nat.le_of_ble_eq_true rfl⟩) (q_preS X hP hS _) rfl rfl hl.1 rfl (lv_room (Nat.le_of_ble_eq_true rfl)) dX5_isPrinter_8 ⟨Nat.le_of_ble_eq_true rfl, Nat.le_of_ble_eq_true rfl⟩) hS q_id q_id1 (fun r u t H locs ht hvm hw hB hz1 hk1 hS => ?_)
  obtain ⟨rfl, ⟨h_2, rfl⟩ | ⟨h_2, rfl⟩⟩ := hw
  · have hP : q_P g s0 n ad (C) H := q_back hB ht
    have h_2 : (1) ≤ a ∧ a ≤ (C 5 1 0) := h_2
    exact q_zret X hr hlocks hP hS (z := (1)) (by decide) ⟨rfl, Or.inl ⟨by omega, rfl⟩⟩ (Nat.le_of_ble_eq_true rfl) (Nat.le_of_ble_eq_true rfl) dX5_isPrinter_11
  · have hP : q_P g s0 n ad (C) H := q_back hB ht
    have h_2 : ¬ ((1) ≤ a ∧ a ≤ (C 5 1 0)) := h_2
    exact q_zret X hr hlocks hP hS (z := (0)) (by decide) ⟨rfl, Or.inr ⟨by omega, rfl⟩⟩ (Nat.le_of_ble_eq_true rfl) (Nat.le_of_ble_eq_true rfl) dX5_isPrinter_11
set_option maxHeartbeats 4000000 in
set_option maxRecDepth 100000 in
theorem c_X5_isJob (l : Launch) (g : q_G) (s0 : Nat) (n : Nat → Nat) (ad : Nat → Nat → Nat) (C : q_S) (c0 : Nat) (hM : m_S C n) (hR : m_R C c0) (a : Int) (ha : R32 a) : Met l yX5_isJob wsX5_isJob ({ frames := 1, cells := 0, slots := 0, locals := 25 }) (va_Pc [.ref (ad 5 0), .int (iI a)] (q_B g s0 (n, ad, C))) (va_Qi (fun r u => u = (n, ad, C) ∧ (((1 ≤ a ∧ a ≤ C 5 10 0) ∧ r = iI 1) ∨ (¬ (1 ≤ a ∧ a ≤ C 5 10 0) ∧ r = iI 0))) (q_B g s0) (q_A s0)) 0 0 (q_A s0) := by
  refine Met.ofW (cc := cX5_isJob) (maxL := 2) (ret := (some .boolean)) (by decide) rfl ?_
  intro p e s m args below meth c s₁ B hml hv
  obtain ⟨rfl, hv⟩ := hv
  have hr := B.returns
  have hlocks := B.notSynchronized
  obtain ⟨X, hP⟩ := q_start B.exec B.bytes hml (show s.vm.findClass RX5 = some m.cls from findClass_of_methodNamed B.named) (atoms_spec (ws := wsX5_isJob) B.pre) hv
  have hP : q_P g s0 n ad C s.heap := hP
  have hS : va_S (q_A s0) s.heap s.heap [] := va_S.rf
  have in5 : ∀ w ∈ wsX50, w ∈ wsX5_isJob := by decide +kernel
  have hl := lv_entry ([.ref (ad 5 0), .int (iI a)]) (n := 2) (Nat.le_of_ble_eq_true rfl)
  rw [lg_entry_eq]
  generalize (lg_sl ([.ref (ad 5 0), .int (iI a)]) ++ List.replicate (2 - (lg_sl ([.ref (ad 5 0), .int (iI a)])).length) Slot.unset).toArray = ls at hl ⊢
  have hl : lv_has ls 2 [(0, .ref (ad 5 0)), (1, .int (iI a))] := hl
  refine lv_iload_n X.1 X.2.1 dX5_isJob_0 rfl (lv_at hl 1 rfl) ?_
  refine q_i2l X ha dX5_isJob_1 ?_
  refine lv_lconst (v := jI (1)) X.1 X.2.1 dX5_isJob_2 (by decide) ?_
  refine lv_aload_n X.1 X.2.1 dX5_isJob_3 rfl (lv_at hl 0 rfl) ?_
  refine q_get (index := 110) (v := .int (iI (C 5 10 0))) X hP 5 10 0 rfl rfl (by decide) in5 (m_v5 hM) (by decide) (by decide +kernel) rfl dX5_isJob_4 ?_
  have f_1 := m_Rj hR
  refine q_i2l X (hP.tok 5 10 0 rfl) dX5_isJob_7 ?_
  refine va_calli (va_runS (As := [.long (jI a), .long (jI (1)), .long (jI (C 5 10 0))]) (rest := []) X.fix (c_X5_in l g s0 n ad C a (1) (C 5 10 0) (q_3264 ha) (by decide) (q_3264 (hP.tok 5 10 0 rfl))) (va_cwS 3 X.2.2.2.2.1 gX5_isJob_X5_in rfl rfl rfl (by decide +kernel) ⟨Nat.le_of_ble_eq_true rfl, Nat.le_of_ble_eq_true rfl⟩) (q_preS X hP hS _) rfl rfl hl.1 rfl (lv_room (Nat.le_of_ble_eq_true rfl)) dX5_isJob_8 ⟨Nat.le_of_ble_eq_true rfl, Nat.le_of_ble_eq_true rfl⟩) hS q_id q_id1 (fun r u t H locs ht hvm hw hB hz1 hk1 hS => ?_)
  obtain ⟨rfl, ⟨h_2, rfl⟩ | ⟨h_2, rfl⟩⟩ := hw
  · have hP : q_P g s0 n ad (C) H := q_back hB ht
    have h_2 : (1) ≤ a ∧ a ≤ (C 5 10 0) := h_2
    exact q_zret X hr hlocks hP hS (z := (1)) (by decide) ⟨rfl, Or.inl ⟨by omega, rfl⟩⟩ (Nat.le_of_ble_eq_true rfl) (Nat.le_of_ble_eq_true rfl) dX5_isJob_11
  · have hP : q_P g s0 n ad (C) H := q_back hB ht
    have h_2 : ¬ ((1) ≤ a ∧ a ≤ (C 5 10 0)) := h_2
    exact q_zret X hr hlocks hP hS (z := (0)) (by decide) ⟨rfl, Or.inr ⟨by omega, rfl⟩⟩ (Nat.le_of_ble_eq_true rfl) (Nat.le_of_ble_eq_true rfl) dX5_isJob_11
set_option maxHeartbeats 4000000 in
set_option maxRecDepth 100000 in
theorem c_X5_fits (l : Launch) (g : q_G) (s0 : Nat) (n : Nat → Nat) (ad : Nat → Nat → Nat) (C : q_S) (c0 : Nat) (hM : m_S C n) (hR : m_R C c0) (k : Nat) (hk : k < 4200) (a : Int) (ha : 0 ≤ a ∧ a ≤ 8) : Met l yX5_fits wsX5_fits ({ frames := 0, cells := 0, slots := 0, locals := 0 }) (va_Pc [.ref (ad 5 0), .int (iI ((k : Nat) : Int)), .int (iI a)] (q_B g s0 (n, ad, C))) (va_Qi (fun r u => u = (n, ad, C) ∧ (((m_fits C k a) ∧ r = iI 1) ∨ (¬ (m_fits C k a) ∧ r = iI 0))) (q_B g s0) (q_A s0)) 0 0 (q_A s0) := by
  refine Met.ofW (cc := cX5_fits) (maxL := 3) (ret := (some .boolean)) (by decide) rfl ?_
  intro p e s m args below meth c s₁ B hml hv
  obtain ⟨rfl, hv⟩ := hv
  have hr := B.returns
  have hlocks := B.notSynchronized
  obtain ⟨X, hP⟩ := q_start B.exec B.bytes hml (show s.vm.findClass RX5 = some m.cls from findClass_of_methodNamed B.named) (atoms_spec (ws := wsX5_fits) B.pre) hv
  have hP : q_P g s0 n ad C s.heap := hP
  have hS : va_S (q_A s0) s.heap s.heap [] := va_S.rf
  have in5 : ∀ w ∈ wsX50, w ∈ wsX5_fits := by decide +kernel
  have hl := lv_entry ([.ref (ad 5 0), .int (iI ((k : Nat) : Int)), .int (iI a)]) (n := 3) (Nat.le_of_ble_eq_true rfl)
  rw [lg_entry_eq]
  generalize (lg_sl ([.ref (ad 5 0), .int (iI ((k : Nat) : Int)), .int (iI a)]) ++ List.replicate (3 - (lg_sl ([.ref (ad 5 0), .int (iI ((k : Nat) : Int)), .int (iI a)])).length) Slot.unset).toArray = ls at hl ⊢
  have hl : lv_has ls 3 [(0, .ref (ad 5 0)), (1, .int (iI ((k : Nat) : Int))), (2, .int (iI a))] := hl
  refine lv_aload_n X.1 X.2.1 dX5_fits_0 rfl (lv_at hl 0 rfl) ?_
  refine q_get (index := 25) (v := .ref (ad 28 0)) X hP 5 8 0 rfl rfl (by decide) in5 (m_v5 hM) (by decide) (by decide +kernel) (m_r hM ad 8 28 (by decide)) dX5_fits_1 ?_
  refine lv_aload_n X.1 X.2.1 dX5_fits_4 rfl (lv_at hl 0 rfl) ?_
  refine q_get (index := 32) (v := .ref (ad 31 0)) X hP 5 11 0 rfl rfl (by decide) in5 (m_v5 hM) (by decide) (by decide +kernel) (m_r hM ad 11 31 (by decide)) dX5_fits_5 ?_
  refine lv_aload_n X.1 X.2.1 dX5_fits_8 rfl (lv_at hl 0 rfl) ?_
  refine q_get (index := 51) (v := .ref (ad 38 0)) X hP 5 18 0 rfl rfl (by decide) in5 (m_v5 hM) (by decide) (by decide +kernel) (m_r hM ad 18 38 (by decide)) dX5_fits_9 ?_
  refine lv_iload_n X.1 X.2.1 dX5_fits_12 rfl (lv_at hl 1 rfl) ?_
  refine q_ildv (len := 4200) (v := (C 38 k 0)) X hP 38 0 (by decide) rfl rfl (m_va hM 18 (by decide) rfl) rfl (by omega) (by omega) rfl dX5_fits_13 ?_
  have f_1 := m_R38 hR k
  refine q_ildv (len := 61) (v := (C 31 (((C 38 k 0)).toNat) 0)) X hP 31 0 (by decide) rfl rfl (m_va hM 11 (by decide) rfl) rfl (by omega) (by omega) rfl dX5_fits_14 ?_
  have f_2 := m_R31 hR (((C 38 k 0)).toNat)
  refine q_ildv (len := 21) (v := (C 28 (((C 31 (((C 38 k 0)).toNat) 0)).toNat) 0)) X hP 28 0 (by decide) rfl rfl (m_va hM 8 (by decide) rfl) rfl (by omega) (by omega) rfl dX5_fits_15 ?_
  refine lv_aload_n X.1 X.2.1 dX5_fits_16 rfl (lv_at hl 0 rfl) ?_
  refine q_get (index := 13) (v := .ref (ad 23 0)) X hP 5 3 0 rfl rfl (by decide) in5 (m_v5 hM) (by decide) (by decide +kernel) (m_r hM ad 3 23 (by decide)) dX5_fits_17 ?_
  refine lv_iload_n X.1 X.2.1 dX5_fits_20 rfl (lv_at hl 2 rfl) ?_
  refine q_ildv (len := 9) (v := (C 23 ((a).toNat) 0)) X hP 23 0 (by decide) rfl rfl (m_va hM 3 (by decide) rfl) rfl (by omega) (by omega) rfl dX5_fits_21 ?_
  refine q_icmp_gt (tgt := 48) X (hP.tok 28 (((C 31 (((C 38 k 0)).toNat) 0)).toNat) 0 rfl) (hP.tok 23 ((a).toNat) 0 rfl) dX5_fits_22 (by decide) (fun h_3 => ?_) (fun h_3 => ?_)
  · refine lv_iconst (v := iI (0)) X.1 X.2.1 dX5_fits_48 rfl ?_
    exact q_zret X hr hlocks hP hS (z := (0)) (by decide) ⟨rfl, Or.inr ⟨by unfold m_fits; omega, rfl⟩⟩ (Nat.le_of_ble_eq_true rfl) (Nat.le_of_ble_eq_true rfl) dX5_fits_49
  · refine lv_aload_n X.1 X.2.1 dX5_fits_25 rfl (lv_at hl 0 rfl) ?_
    refine q_get (index := 57) (v := .ref (ad 40 0)) X hP 5 20 0 rfl rfl (by decide) in5 (m_v5 hM) (by decide) (by decide +kernel) (m_r hM ad 20 40 (by decide)) dX5_fits_26 ?_
    refine lv_iload_n X.1 X.2.1 dX5_fits_29 rfl (lv_at hl 1 rfl) ?_
    refine q_ildv (len := 4200) (v := (C 40 k 0)) X hP 40 0 (by decide) rfl rfl (m_va hM 20 (by decide) rfl) rfl (by omega) (by omega) rfl dX5_fits_30 ?_
    have f_4 := m_R40 hR k
    refine q_if_eq (tgt := 44) X (hP.tok 40 k 0 rfl) dX5_fits_31 (by decide) (fun h_5 => ?_) (fun h_5 => ?_)
    · refine lv_iconst (v := iI (1)) X.1 X.2.1 dX5_fits_44 rfl ?_
      refine lv_goto (tgt := 49) X.1 X.2.1 dX5_fits_45 (by decide) ?_
      exact q_zret X hr hlocks hP hS (z := (1)) (by decide) ⟨rfl, Or.inl ⟨by unfold m_fits; omega, rfl⟩⟩ (Nat.le_of_ble_eq_true rfl) (Nat.le_of_ble_eq_true rfl) dX5_fits_49
    · refine lv_aload_n X.1 X.2.1 dX5_fits_34 rfl (lv_at hl 0 rfl) ?_
      refine q_get (index := 57) (v := .ref (ad 40 0)) X hP 5 20 0 rfl rfl (by decide) in5 (m_v5 hM) (by decide) (by decide +kernel) (m_r hM ad 20 40 (by decide)) dX5_fits_35 ?_
      refine lv_iload_n X.1 X.2.1 dX5_fits_38 rfl (lv_at hl 1 rfl) ?_
      refine q_ildv (len := 4200) (v := (C 40 k 0)) X hP 40 0 (by decide) rfl rfl (m_va hM 20 (by decide) rfl) rfl (by omega) (by omega) rfl dX5_fits_39 ?_
      refine lv_iload_n X.1 X.2.1 dX5_fits_40 rfl (lv_at hl 2 rfl) ?_
      refine q_icmp_ne (tgt := 48) X (hP.tok 40 k 0 rfl) (m_p32 ha) dX5_fits_41 (by decide) (fun h_6 => ?_) (fun h_6 => ?_)
      · refine lv_iconst (v := iI (0)) X.1 X.2.1 dX5_fits_48 rfl ?_
        exact q_zret X hr hlocks hP hS (z := (0)) (by decide) ⟨rfl, Or.inr ⟨by unfold m_fits; omega, rfl⟩⟩ (Nat.le_of_ble_eq_true rfl) (Nat.le_of_ble_eq_true rfl) dX5_fits_49
      · refine lv_iconst (v := iI (1)) X.1 X.2.1 dX5_fits_44 rfl ?_
        refine lv_goto (tgt := 49) X.1 X.2.1 dX5_fits_45 (by decide) ?_
        exact q_zret X hr hlocks hP hS (z := (1)) (by decide) ⟨rfl, Or.inl ⟨by unfold m_fits; omega, rfl⟩⟩ (Nat.le_of_ble_eq_true rfl) (Nat.le_of_ble_eq_true rfl) dX5_fits_49
set_option maxHeartbeats 4000000 in
set_option maxRecDepth 100000 in
theorem c_X5_mayTake (l : Launch) (g : q_G) (s0 : Nat) (n : Nat → Nat) (ad : Nat → Nat → Nat) (C : q_S) (c0 : Nat) (hM : m_S C n) (hR : m_R C c0) (k : Nat) (hk : k < 4200) (a : Int) (ha : 0 ≤ a ∧ a ≤ 8) : Met l yX5_mayTake wsX5_mayTake ({ frames := 1, cells := 0, slots := 0, locals := 22 }) (va_Pc [.ref (ad 5 0), .int (iI ((k : Nat) : Int)), .int (iI a)] (q_B g s0 (n, ad, C))) (va_Qi (fun r u => u = (n, ad, C) ∧ (((m_may C k a) ∧ r = iI 1) ∨ (¬ (m_may C k a) ∧ r = iI 0))) (q_B g s0) (q_A s0)) 0 0 (q_A s0) := by
  refine Met.ofW (cc := cX5_mayTake) (maxL := 4) (ret := (some .boolean)) (by decide) rfl ?_
  intro p e s m args below meth c s₁ B hml hv
  obtain ⟨rfl, hv⟩ := hv
  have hr := B.returns
  have hlocks := B.notSynchronized
  obtain ⟨X, hP⟩ := q_start B.exec B.bytes hml (show s.vm.findClass RX5 = some m.cls from findClass_of_methodNamed B.named) (atoms_spec (ws := wsX5_mayTake) B.pre) hv
  have hP : q_P g s0 n ad C s.heap := hP
  have hS : va_S (q_A s0) s.heap s.heap [] := va_S.rf
  have in5 : ∀ w ∈ wsX50, w ∈ wsX5_mayTake := by decide +kernel
  have hl := lv_entry ([.ref (ad 5 0), .int (iI ((k : Nat) : Int)), .int (iI a)]) (n := 4) (Nat.le_of_ble_eq_true rfl)
  rw [lg_entry_eq]
  generalize (lg_sl ([.ref (ad 5 0), .int (iI ((k : Nat) : Int)), .int (iI a)]) ++ List.replicate (4 - (lg_sl ([.ref (ad 5 0), .int (iI ((k : Nat) : Int)), .int (iI a)])).length) Slot.unset).toArray = ls at hl ⊢
  have hl : lv_has ls 4 [(0, .ref (ad 5 0)), (1, .int (iI ((k : Nat) : Int))), (2, .int (iI a))] := hl
  refine lv_aload_n X.1 X.2.1 dX5_mayTake_0 rfl (lv_at hl 0 rfl) ?_
  refine q_get (index := 51) (v := .ref (ad 38 0)) X hP 5 18 0 rfl rfl (by decide) in5 (m_v5 hM) (by decide) (by decide +kernel) (m_r hM ad 18 38 (by decide)) dX5_mayTake_1 ?_
  refine lv_iload_n X.1 X.2.1 dX5_mayTake_4 rfl (lv_at hl 1 rfl) ?_
  refine q_ildv (len := 4200) (v := (C 38 k 0)) X hP 38 0 (by decide) rfl rfl (m_va hM 18 (by decide) rfl) rfl (by omega) (by omega) rfl dX5_mayTake_5 ?_
  have f_1 := m_R38 hR k
  refine lv_istore_n (lv' := [(3, .int (iI (C 38 k 0))), (0, .ref (ad 5 0)), (1, .int (iI ((k : Nat) : Int))), (2, .int (iI a))]) X.1 X.2.1 dX5_mayTake_6 rfl hl (by decide) rfl (fun ls hl => ?_)
  refine lv_aload_n X.1 X.2.1 dX5_mayTake_7 rfl (lv_at hl 1 rfl) ?_
  refine q_get (index := 69) (v := .ref (ad 44 0)) X hP 5 24 0 rfl rfl (by decide) in5 (m_v5 hM) (by decide) (by decide +kernel) (m_r hM ad 24 44 (by decide)) dX5_mayTake_8 ?_
  refine lv_iload_n X.1 X.2.1 dX5_mayTake_11 rfl (lv_at hl 2 rfl) ?_
  refine q_zldv (len := 4200) (v := (C 44 k 0)) X hP 44 0 (by decide) rfl rfl (m_va hM 24 (by decide) rfl) rfl (by omega) (by omega) rfl dX5_mayTake_12 ?_
  refine q_if_eq (tgt := 52) X (q_b32 (hP.tok 44 k 0 rfl)) dX5_mayTake_13 (by decide) (fun h_2 => ?_) (fun h_2 => ?_)
  · refine lv_iconst (v := iI (0)) X.1 X.2.1 dX5_mayTake_52 rfl ?_
    exact q_zret X hr hlocks hP hS (z := (0)) (by decide) ⟨rfl, Or.inr ⟨fun hq => by obtain ⟨q1, q2, q3, q4⟩ := hq; first | omega | contradiction, rfl⟩⟩ (Nat.le_of_ble_eq_true rfl) (Nat.le_of_ble_eq_true rfl) dX5_mayTake_53
  · refine lv_aload_n X.1 X.2.1 dX5_mayTake_16 rfl (lv_at hl 1 rfl) ?_
    refine q_get (index := 44) (v := .ref (ad 35 0)) X hP 5 15 0 rfl rfl (by decide) in5 (m_v5 hM) (by decide) (by decide +kernel) (m_r hM ad 15 35 (by decide)) dX5_mayTake_17 ?_
    refine lv_iload_n X.1 X.2.1 dX5_mayTake_20 rfl (lv_at hl 0 rfl) ?_
    refine q_zldv (len := 61) (v := (C 35 (((C 38 k 0)).toNat) 0)) X hP 35 0 (by decide) rfl rfl (m_va hM 15 (by decide) rfl) rfl (by omega) (by omega) rfl dX5_mayTake_21 ?_
    refine q_if_ne (tgt := 52) X (q_b32 (hP.tok 35 (((C 38 k 0)).toNat) 0 rfl)) dX5_mayTake_22 (by decide) (fun h_3 => ?_) (fun h_3 => ?_)
    · refine lv_iconst (v := iI (0)) X.1 X.2.1 dX5_mayTake_52 rfl ?_
      exact q_zret X hr hlocks hP hS (z := (0)) (by decide) ⟨rfl, Or.inr ⟨fun hq => by obtain ⟨q1, q2, q3, q4⟩ := hq; first | omega | contradiction, rfl⟩⟩ (Nat.le_of_ble_eq_true rfl) (Nat.le_of_ble_eq_true rfl) dX5_mayTake_53
    · refine lv_aload_n X.1 X.2.1 dX5_mayTake_25 rfl (lv_at hl 1 rfl) ?_
      refine q_get (index := 41) (v := .ref (ad 34 0)) X hP 5 14 0 rfl rfl (by decide) in5 (m_v5 hM) (by decide) (by decide +kernel) (m_r hM ad 14 34 (by decide)) dX5_mayTake_26 ?_
      refine lv_iload_n X.1 X.2.1 dX5_mayTake_29 rfl (lv_at hl 0 rfl) ?_
      refine q_lldv (len := 61) (v := (C 34 (((C 38 k 0)).toNat) 0)) X hP 34 0 (by decide) rfl rfl (m_va hM 14 (by decide) rfl) rfl (by omega) (by omega) rfl dX5_mayTake_30 ?_
      refine lv_aload_n X.1 X.2.1 dX5_mayTake_31 rfl (lv_at hl 1 rfl) ?_
      refine q_get (index := 117) (v := .long (jI (C 5 28 0))) X hP 5 28 0 rfl rfl (by decide) in5 (m_v5 hM) (by decide) (by decide +kernel) rfl dX5_mayTake_32 ?_
      refine q_lcmp_gt (tgt := 52) X (hP.tok 34 (((C 38 k 0)).toNat) 0 rfl) (hP.tok 5 28 0 rfl) dX5_mayTake_35 dX5_mayTake_36 (by decide) (fun h_4 => ?_) (fun h_4 => ?_)
      · refine lv_iconst (v := iI (0)) X.1 X.2.1 dX5_mayTake_52 rfl ?_
        exact q_zret X hr hlocks hP hS (z := (0)) (by decide) ⟨rfl, Or.inr ⟨fun hq => by obtain ⟨q1, q2, q3, q4⟩ := hq; first | omega | contradiction, rfl⟩⟩ (Nat.le_of_ble_eq_true rfl) (Nat.le_of_ble_eq_true rfl) dX5_mayTake_53
      · refine lv_aload_n X.1 X.2.1 dX5_mayTake_39 rfl (lv_at hl 1 rfl) ?_
        refine lv_iload_n X.1 X.2.1 dX5_mayTake_40 rfl (lv_at hl 2 rfl) ?_
        refine lv_iload_n X.1 X.2.1 dX5_mayTake_41 rfl (lv_at hl 3 rfl) ?_
        refine va_calli (va_runV (As := [.int (iI ((k : Nat) : Int)), .int (iI a)]) (rest := []) X.fix (c_X5_fits l g s0 n ad C c0 hM hR k (by omega) a ha) (cwV 2 X.2.2.2.2.1 gX5_mayTake_X5_fits rfl rfl rfl (by decide +kernel) ⟨Nat.le_of_ble_eq_true rfl, Nat.le_of_ble_eq_true rfl⟩) (q_preV X hP hS [.int (iI ((k : Nat) : Int)), .int (iI a)] (kd := 5) (by decide) rfl (m_v5 hM)) rfl rfl hl.1 rfl (lv_room (Nat.le_of_ble_eq_true rfl)) dX5_mayTake_42 ⟨Nat.le_of_ble_eq_true rfl, Nat.le_of_ble_eq_true rfl⟩) hS q_id q_id1 (fun r u t H locs ht hvm hw hB hz1 hk1 hS => ?_)
        obtain ⟨rfl, ⟨h_5, rfl⟩ | ⟨h_5, rfl⟩⟩ := hw
        · have hP : q_P g s0 n ad (C) H := q_back hB ht
          have h_5 : m_fits C k a := h_5
          refine q_if_eq (tgt := 52) X (by decide) dX5_mayTake_45 (by decide) (fun h => absurd h (by decide)) (fun _ => ?_)
          refine lv_iconst (v := iI (1)) X.1 X.2.1 dX5_mayTake_48 rfl ?_
          refine lv_goto (tgt := 53) X.1 X.2.1 dX5_mayTake_49 (by decide) ?_
          exact q_zret X hr hlocks hP hS (z := (1)) (by decide) ⟨rfl, Or.inl ⟨⟨by omega, by omega, by omega, by assumption⟩, rfl⟩⟩ (Nat.le_of_ble_eq_true rfl) (Nat.le_of_ble_eq_true rfl) dX5_mayTake_53
        · have hP : q_P g s0 n ad (C) H := q_back hB ht
          have h_5 : ¬ (m_fits C k a) := h_5
          refine q_if_eq (tgt := 52) X (by decide) dX5_mayTake_45 (by decide) (fun _ => ?_) (fun h => absurd h (by decide))
          refine lv_iconst (v := iI (0)) X.1 X.2.1 dX5_mayTake_52 rfl ?_
          exact q_zret X hr hlocks hP hS (z := (0)) (by decide) ⟨rfl, Or.inr ⟨fun hq => by obtain ⟨q1, q2, q3, q4⟩ := hq; first | omega | contradiction, rfl⟩⟩ (Nat.le_of_ble_eq_true rfl) (Nat.le_of_ble_eq_true rfl) dX5_mayTake_53
set_option maxHeartbeats 4000000 in
set_option maxRecDepth 100000 in
theorem c_X5_mediaOf (l : Launch) (g : q_G) (s0 : Nat) (n : Nat → Nat) (ad : Nat → Nat → Nat) (C : q_S) (hM : m_S C n) (k : Nat) (hk : k < 4200) (h38 : 0 ≤ C 38 k 0 ∧ C 38 k 0 ≤ 60) (h31 : 0 ≤ C 31 (C 38 k 0).toNat 0 ∧ C 31 (C 38 k 0).toNat 0 ≤ 20) : Met l yX5_mediaOf wsX5_mediaOf ({ frames := 0, cells := 0, slots := 0, locals := 0 }) (va_Pc [.ref (ad 5 0), .int (iI ((k : Nat) : Int))] (q_B g s0 (n, ad, C))) (va_Qi (fun r u => u = (n, ad, C) ∧ r = iI (m_med C k)) (q_B g s0) (q_A s0)) 0 0 (q_A s0) := by
  refine Met.ofW (cc := cX5_mediaOf) (maxL := 2) (ret := (some .int)) (by decide) rfl ?_
  intro p e s m args below meth c s₁ B hml hv
  obtain ⟨rfl, hv⟩ := hv
  have hr := B.returns
  have hlocks := B.notSynchronized
  obtain ⟨X, hP⟩ := q_start B.exec B.bytes hml (show s.vm.findClass RX5 = some m.cls from findClass_of_methodNamed B.named) (atoms_spec (ws := wsX5_mediaOf) B.pre) hv
  have hP : q_P g s0 n ad C s.heap := hP
  have hS : va_S (q_A s0) s.heap s.heap [] := va_S.rf
  have in5 : ∀ w ∈ wsX50, w ∈ wsX5_mediaOf := by decide +kernel
  have hl := lv_entry ([.ref (ad 5 0), .int (iI ((k : Nat) : Int))]) (n := 2) (Nat.le_of_ble_eq_true rfl)
  rw [lg_entry_eq]
  generalize (lg_sl ([.ref (ad 5 0), .int (iI ((k : Nat) : Int))]) ++ List.replicate (2 - (lg_sl ([.ref (ad 5 0), .int (iI ((k : Nat) : Int))])).length) Slot.unset).toArray = ls at hl ⊢
  have hl : lv_has ls 2 [(0, .ref (ad 5 0)), (1, .int (iI ((k : Nat) : Int)))] := hl
  refine lv_aload_n X.1 X.2.1 dX5_mediaOf_0 rfl (lv_at hl 0 rfl) ?_
  refine q_get (index := 22) (v := .ref (ad 27 0)) X hP 5 7 0 rfl rfl (by decide) in5 (m_v5 hM) (by decide) (by decide +kernel) (m_r hM ad 7 27 (by decide)) dX5_mediaOf_1 ?_
  refine lv_aload_n X.1 X.2.1 dX5_mediaOf_4 rfl (lv_at hl 0 rfl) ?_
  refine q_get (index := 32) (v := .ref (ad 31 0)) X hP 5 11 0 rfl rfl (by decide) in5 (m_v5 hM) (by decide) (by decide +kernel) (m_r hM ad 11 31 (by decide)) dX5_mediaOf_5 ?_
  refine lv_aload_n X.1 X.2.1 dX5_mediaOf_8 rfl (lv_at hl 0 rfl) ?_
  refine q_get (index := 51) (v := .ref (ad 38 0)) X hP 5 18 0 rfl rfl (by decide) in5 (m_v5 hM) (by decide) (by decide +kernel) (m_r hM ad 18 38 (by decide)) dX5_mediaOf_9 ?_
  refine lv_iload_n X.1 X.2.1 dX5_mediaOf_12 rfl (lv_at hl 1 rfl) ?_
  refine q_ildv (len := 4200) (v := (C 38 k 0)) X hP 38 0 (by decide) rfl rfl (m_va hM 18 (by decide) rfl) rfl (by omega) (by omega) rfl dX5_mediaOf_13 ?_
  have f_1 := h38
  refine q_ildv (len := 61) (v := (C 31 (((C 38 k 0)).toNat) 0)) X hP 31 0 (by decide) rfl rfl (m_va hM 11 (by decide) rfl) rfl (by omega) (by omega) rfl dX5_mediaOf_14 ?_
  have f_2 := h31
  refine q_ildv (len := 21) (v := (C 27 (((C 31 (((C 38 k 0)).toNat) 0)).toNat) 0)) X hP 27 0 (by decide) rfl rfl (m_va hM 7 (by decide) rfl) rfl (by omega) (by omega) rfl dX5_mediaOf_15 ?_
  exact q_iret X hr hlocks hP hS ⟨rfl, rfl⟩ (Nat.le_of_ble_eq_true rfl) (Nat.le_of_ble_eq_true rfl) dX5_mediaOf_16
set_option maxHeartbeats 4000000 in
set_option maxRecDepth 100000 in
theorem c_X5_isOver (l : Launch) (g : q_G) (s0 : Nat) (n : Nat → Nat) (ad : Nat → Nat → Nat) (C : q_S) (hM : m_S C n) (k : Nat) (hk : k < 4200) (h38 : 0 ≤ C 38 k 0 ∧ C 38 k 0 ≤ 60) (h39 : 0 ≤ C 39 k 0 ∧ C 39 k 0 ≤ 100) (h32 : 0 ≤ C 32 (C 38 k 0).toNat 0 ∧ C 32 (C 38 k 0).toNat 0 ≤ 500) : Met l yX5_isOver wsX5_isOver ({ frames := 0, cells := 0, slots := 0, locals := 0 }) (va_Pc [.ref (ad 5 0), .int (iI ((k : Nat) : Int))] (q_B g s0 (n, ad, C))) (va_Qi (fun r u => u = (n, ad, C) ∧ (((m_over C k) ∧ r = iI 1) ∨ (¬ (m_over C k) ∧ r = iI 0))) (q_B g s0) (q_A s0)) 0 0 (q_A s0) := by
  refine Met.ofW (cc := cX5_isOver) (maxL := 2) (ret := (some .boolean)) (by decide) rfl ?_
  intro p e s m args below meth c s₁ B hml hv
  obtain ⟨rfl, hv⟩ := hv
  have hr := B.returns
  have hlocks := B.notSynchronized
  obtain ⟨X, hP⟩ := q_start B.exec B.bytes hml (show s.vm.findClass RX5 = some m.cls from findClass_of_methodNamed B.named) (atoms_spec (ws := wsX5_isOver) B.pre) hv
  have hP : q_P g s0 n ad C s.heap := hP
  have hS : va_S (q_A s0) s.heap s.heap [] := va_S.rf
  have in5 : ∀ w ∈ wsX50, w ∈ wsX5_isOver := by decide +kernel
  have hl := lv_entry ([.ref (ad 5 0), .int (iI ((k : Nat) : Int))]) (n := 2) (Nat.le_of_ble_eq_true rfl)
  rw [lg_entry_eq]
  generalize (lg_sl ([.ref (ad 5 0), .int (iI ((k : Nat) : Int))]) ++ List.replicate (2 - (lg_sl ([.ref (ad 5 0), .int (iI ((k : Nat) : Int))])).length) Slot.unset).toArray = ls at hl ⊢
  have hl : lv_has ls 2 [(0, .ref (ad 5 0)), (1, .int (iI ((k : Nat) : Int)))] := hl
  refine lv_aload_n X.1 X.2.1 dX5_isOver_0 rfl (lv_at hl 0 rfl) ?_
  refine q_get (index := 63) (v := .ref (ad 42 0)) X hP 5 22 0 rfl rfl (by decide) in5 (m_v5 hM) (by decide) (by decide +kernel) (m_r hM ad 22 42 (by decide)) dX5_isOver_1 ?_
  refine lv_iload_n X.1 X.2.1 dX5_isOver_4 rfl (lv_at hl 1 rfl) ?_
  refine q_ildv (len := 4200) (v := (C 42 k 0)) X hP 42 0 (by decide) rfl rfl (m_va hM 22 (by decide) rfl) rfl (by omega) (by omega) rfl dX5_isOver_5 ?_
  refine lv_aload_n X.1 X.2.1 dX5_isOver_6 rfl (lv_at hl 0 rfl) ?_
  refine q_get (index := 54) (v := .ref (ad 39 0)) X hP 5 19 0 rfl rfl (by decide) in5 (m_v5 hM) (by decide) (by decide +kernel) (m_r hM ad 19 39 (by decide)) dX5_isOver_7 ?_
  refine lv_iload_n X.1 X.2.1 dX5_isOver_10 rfl (lv_at hl 1 rfl) ?_
  refine q_ildv (len := 4200) (v := (C 39 k 0)) X hP 39 0 (by decide) rfl rfl (m_va hM 19 (by decide) rfl) rfl (by omega) (by omega) rfl dX5_isOver_11 ?_
  have f_1 := h39
  refine lv_aload_n X.1 X.2.1 dX5_isOver_12 rfl (lv_at hl 0 rfl) ?_
  refine q_get (index := 35) (v := .ref (ad 32 0)) X hP 5 12 0 rfl rfl (by decide) in5 (m_v5 hM) (by decide) (by decide +kernel) (m_r hM ad 12 32 (by decide)) dX5_isOver_13 ?_
  refine lv_aload_n X.1 X.2.1 dX5_isOver_16 rfl (lv_at hl 0 rfl) ?_
  refine q_get (index := 51) (v := .ref (ad 38 0)) X hP 5 18 0 rfl rfl (by decide) in5 (m_v5 hM) (by decide) (by decide +kernel) (m_r hM ad 18 38 (by decide)) dX5_isOver_17 ?_
  refine lv_iload_n X.1 X.2.1 dX5_isOver_20 rfl (lv_at hl 1 rfl) ?_
  refine q_ildv (len := 4200) (v := (C 38 k 0)) X hP 38 0 (by decide) rfl rfl (m_va hM 18 (by decide) rfl) rfl (by omega) (by omega) rfl dX5_isOver_21 ?_
  have f_2 := h38
  refine q_ildv (len := 61) (v := (C 32 (((C 38 k 0)).toNat) 0)) X hP 32 0 (by decide) rfl rfl (m_va hM 12 (by decide) rfl) rfl (by omega) (by omega) rfl dX5_isOver_22 ?_
  have f_3 := h32
  refine q_imul X dX5_isOver_23 ?_
  refine q_icmp_ne (tgt := 31) X (hP.tok 42 k 0 rfl) (m_mul32 h39 h32) dX5_isOver_24 (by decide) (fun h_4 => ?_) (fun h_4 => ?_)
  · refine lv_iconst (v := iI (0)) X.1 X.2.1 dX5_isOver_31 rfl ?_
    exact q_zret X hr hlocks hP hS (z := (0)) (by decide) ⟨rfl, Or.inr ⟨by assumption, rfl⟩⟩ (Nat.le_of_ble_eq_true rfl) (Nat.le_of_ble_eq_true rfl) dX5_isOver_32
  · refine lv_iconst (v := iI (1)) X.1 X.2.1 dX5_isOver_27 rfl ?_
    refine lv_goto (tgt := 32) X.1 X.2.1 dX5_isOver_28 (by decide) ?_
    exact q_zret X hr hlocks hP hS (z := (1)) (by decide) ⟨rfl, Or.inl ⟨by assumption, rfl⟩⟩ (Nat.le_of_ble_eq_true rfl) (Nat.le_of_ble_eq_true rfl) dX5_isOver_32
set_option maxHeartbeats 4000000 in
set_option maxRecDepth 100000 in
theorem c_X5_leave (l : Launch) (g : q_G) (s0 : Nat) (n : Nat → Nat) (ad : Nat → Nat → Nat) (C : q_S) (hM : m_S C n) (a : Int) (ha : 0 ≤ a ∧ a ≤ 8) (hh : 0 ≤ C 25 a.toNat 0 ∧ C 25 a.toNat 0 < 4200) : Met l yX5_leave wsX5_leave ({ frames := 0, cells := 0, slots := 0, locals := 0 }) (va_Pc [.ref (ad 5 0), .int (iI a)] (q_B g s0 (n, ad, C))) (va_Qv (fun u => u = (n, ad, m_leave C a)) (q_B g s0) (q_A s0)) 0 0 (q_A s0) := by
  refine Met.ofW (cc := cX5_leave) (maxL := 2) (ret := none) (by decide) rfl ?_
  intro p e s m args below meth c s₁ B hml hv
  obtain ⟨rfl, hv⟩ := hv
  have hr := B.returns
  have hlocks := B.notSynchronized
  obtain ⟨X, hP⟩ := q_start B.exec B.bytes hml (show s.vm.findClass RX5 = some m.cls from findClass_of_methodNamed B.named) (atoms_spec (ws := wsX5_leave) B.pre) hv
  have hP : q_P g s0 n ad C s.heap := hP
  have hS : va_S (q_A s0) s.heap s.heap [] := va_S.rf
  have in5 : ∀ w ∈ wsX50, w ∈ wsX5_leave := by decide +kernel
  have hl := lv_entry ([.ref (ad 5 0), .int (iI a)]) (n := 2) (Nat.le_of_ble_eq_true rfl)
  rw [lg_entry_eq]
  generalize (lg_sl ([.ref (ad 5 0), .int (iI a)]) ++ List.replicate (2 - (lg_sl ([.ref (ad 5 0), .int (iI a)])).length) Slot.unset).toArray = ls at hl ⊢
  have hl : lv_has ls 2 [(0, .ref (ad 5 0)), (1, .int (iI a))] := hl
  refine lv_aload_n X.1 X.2.1 dX5_leave_0 rfl (lv_at hl 0 rfl) ?_
  refine q_get (index := 60) (v := .ref (ad 41 0)) X hP 5 21 0 rfl rfl (by decide) in5 (m_v5 hM) (by decide) (by decide +kernel) (m_r hM ad 21 41 (by decide)) dX5_leave_1 ?_
  refine lv_aload_n X.1 X.2.1 dX5_leave_4 rfl (lv_at hl 0 rfl) ?_
  refine q_get (index := 19) (v := .ref (ad 25 0)) X hP 5 5 0 rfl rfl (by decide) in5 (m_v5 hM) (by decide) (by decide +kernel) (m_r hM ad 5 25 (by decide)) dX5_leave_5 ?_
  refine lv_iload_n X.1 X.2.1 dX5_leave_8 rfl (lv_at hl 1 rfl) ?_
  refine q_ildv (len := 9) (v := (C 25 ((a).toNat) 0)) X hP 25 0 (by decide) rfl rfl (m_va hM 5 (by decide) rfl) rfl (by omega) (by omega) rfl dX5_leave_9 ?_
  have f_1 := hh
  refine lv_iconst (v := iI (0)) X.1 X.2.1 dX5_leave_10 rfl ?_
  refine q_istv (len := 4200) (x := (0)) (z := (C 25 ((a).toNat) 0)) X hP hS 41 0 (by decide) rfl rfl (m_va hM 21 (by decide) rfl) rfl (by omega) (by omega) (by decide) dX5_leave_11 (fun H locs hP hS => ?_)
  have hP : q_P g s0 n ad (q_up C 41 (((C 25 ((a).toNat) 0)).toNat) 0 ((0))) H := hP
  refine lv_aload_n X.1 X.2.1 dX5_leave_12 rfl (lv_at hl 0 rfl) ?_
  refine q_get (index := 19) (v := .ref (ad 25 0)) X hP 5 5 0 rfl rfl (by decide) in5 (m_v5 hM) (by decide) (by decide +kernel) (m_r hM ad 5 25 (by decide)) dX5_leave_13 ?_
  refine lv_iload_n X.1 X.2.1 dX5_leave_16 rfl (lv_at hl 1 rfl) ?_
  refine lv_iconst (v := iI (-1)) X.1 X.2.1 dX5_leave_17 rfl ?_
  refine q_istv (len := 9) (x := (-1)) (z := a) X hP hS 25 0 (by decide) rfl rfl (m_va hM 5 (by decide) rfl) rfl (by omega) (by omega) (by decide) dX5_leave_18 (fun H locs hP hS => ?_)
  have hP : q_P g s0 n ad (q_up (q_up C 41 (((C 25 ((a).toNat) 0)).toNat) 0 ((0))) 25 ((a).toNat) 0 ((-1))) H := hP
  exact q_vret X hr hlocks hP hS rfl (Nat.le_of_ble_eq_true rfl) (Nat.le_of_ble_eq_true rfl) dX5_leave_19
set_option maxHeartbeats 4000000 in
set_option maxRecDepth 100000 in
theorem c_X5_odd (l : Launch) (g : q_G) (s0 : Nat) (n : Nat → Nat) (ad : Nat → Nat → Nat) (C : q_S) (a b : Int) (ha : 1 ≤ a ∧ a ≤ 500) (hb : 0 ≤ b ∧ b ≤ 100000) : Met l yX5_odd wsX5_odd ({ frames := 0, cells := 0, slots := 0, locals := 0 }) (va_Pc [.int (iI a), .int (iI b)] (q_B g s0 (n, ad, C))) (va_Qi (fun r u => u = (n, ad, C) ∧ r = iI (m_odd a b)) (q_B g s0) (q_A s0)) 0 0 (q_A s0) := by
  refine Met.ofW (cc := cX5_odd) (maxL := 2) (ret := (some .int)) (by decide) rfl ?_
  intro p e s m args below meth c s₁ B hml hv
  obtain ⟨rfl, hv⟩ := hv
  have hr := B.returns
  have hlocks := B.notSynchronized
  obtain ⟨X, hP⟩ := q_start B.exec B.bytes hml (show s.vm.findClass RX5 = some m.cls from findClass_of_methodNamed B.named) (atoms_spec (ws := wsX5_odd) B.pre) hv
  have hP : q_P g s0 n ad C s.heap := hP
  have hS : va_S (q_A s0) s.heap s.heap [] := va_S.rf
  have e1 := Int.emod_nonneg b (show a ≠ 0 by omega)
  have e2 := Int.emod_lt_of_pos b (show 0 < a by omega)
  have hl := lv_entry ([.int (iI a), .int (iI b)]) (n := 2) (Nat.le_of_ble_eq_true rfl)
  rw [lg_entry_eq]
  generalize (lg_sl ([.int (iI a), .int (iI b)]) ++ List.replicate (2 - (lg_sl ([.int (iI a), .int (iI b)])).length) Slot.unset).toArray = ls at hl ⊢
  have hl : lv_has ls 2 [(0, .int (iI a)), (1, .int (iI b))] := hl
  refine lv_iload_n X.1 X.2.1 dX5_odd_0 rfl (lv_at hl 1 rfl) ?_
  refine lv_iload_n X.1 X.2.1 dX5_odd_1 rfl (lv_at hl 0 rfl) ?_
  refine q_idiv X (by omega) (by omega) dX5_odd_2 ?_
  refine lv_iload_n X.1 X.2.1 dX5_odd_3 rfl (lv_at hl 0 rfl) ?_
  refine lv_iconst (v := iI (1)) X.1 X.2.1 dX5_odd_4 rfl ?_
  refine q_iadd X dX5_odd_5 ?_
  refine lv_iconst (v := iI (2)) X.1 X.2.1 dX5_odd_6 rfl ?_
  refine q_idiv X (by omega) (by decide) dX5_odd_7 ?_
  refine q_imul X dX5_odd_8 ?_
  refine lv_iload_n X.1 X.2.1 dX5_odd_9 rfl (lv_at hl 1 rfl) ?_
  refine lv_iload_n X.1 X.2.1 dX5_odd_10 rfl (lv_at hl 0 rfl) ?_
  refine q_irem X (by omega) (by omega) dX5_odd_11 ?_
  refine lv_iconst (v := iI (1)) X.1 X.2.1 dX5_odd_12 rfl ?_
  refine q_iadd X dX5_odd_13 ?_
  refine lv_iconst (v := iI (2)) X.1 X.2.1 dX5_odd_14 rfl ?_
  refine q_idiv X (by omega) (by decide) dX5_odd_15 ?_
  refine q_iadd X dX5_odd_16 ?_
  exact q_iret X hr hlocks hP hS ⟨rfl, rfl⟩ (Nat.le_of_ble_eq_true rfl) (Nat.le_of_ble_eq_true rfl) dX5_odd_17
set_option maxHeartbeats 4000000 in
set_option maxRecDepth 100000 in
theorem c_X5_addPart (l : Launch) (g : q_G) (s0 : Nat) (n : Nat → Nat) (ad : Nat → Nat → Nat) (C : q_S) (hM : m_S C n) (hk : 0 ≤ C 5 17 0 ∧ C 5 17 0 < 4200) (a b d : Int) (ha : R32 a) (hb : R32 b) (hd : R32 d) : Met l yX5_addPart wsX5_addPart ({ frames := 0, cells := 0, slots := 0, locals := 0 }) (va_Pc [.ref (ad 5 0), .int (iI a), .int (iI b), .int (iI d)] (q_B g s0 (n, ad, C))) (va_Qv (fun u => u = (n, ad, m_add C a b d)) (q_B g s0) (q_A s0)) 0 0 (q_A s0) := by
  refine Met.ofW (cc := cX5_addPart) (maxL := 4) (ret := none) (by decide) rfl ?_
  intro p e s m args below meth c s₁ B hml hv
  obtain ⟨rfl, hv⟩ := hv
  have hr := B.returns
  have hlocks := B.notSynchronized
  obtain ⟨X, hP⟩ := q_start B.exec B.bytes hml (show s.vm.findClass RX5 = some m.cls from findClass_of_methodNamed B.named) (atoms_spec (ws := wsX5_addPart) B.pre) hv
  have hP : q_P g s0 n ad C s.heap := hP
  have hS : va_S (q_A s0) s.heap s.heap [] := va_S.rf
  have in5 : ∀ w ∈ wsX50, w ∈ wsX5_addPart := by decide +kernel
  have hl := lv_entry ([.ref (ad 5 0), .int (iI a), .int (iI b), .int (iI d)]) (n := 4) (Nat.le_of_ble_eq_true rfl)
  rw [lg_entry_eq]
  generalize (lg_sl ([.ref (ad 5 0), .int (iI a), .int (iI b), .int (iI d)]) ++ List.replicate (4 - (lg_sl ([.ref (ad 5 0), .int (iI a), .int (iI b), .int (iI d)])).length) Slot.unset).toArray = ls at hl ⊢
  have hl : lv_has ls 4 [(0, .ref (ad 5 0)), (1, .int (iI a)), (2, .int (iI b)), (3, .int (iI d))] := hl
  refine lv_aload_n X.1 X.2.1 dX5_addPart_0 rfl (lv_at hl 0 rfl) ?_
  refine q_get (index := 51) (v := .ref (ad 38 0)) X hP 5 18 0 rfl rfl (by decide) in5 (m_v5 hM) (by decide) (by decide +kernel) (m_r hM ad 18 38 (by decide)) dX5_addPart_1 ?_
  refine lv_aload_n X.1 X.2.1 dX5_addPart_4 rfl (lv_at hl 0 rfl) ?_
  refine q_get (index := 101) (v := .int (iI (C 5 17 0))) X hP 5 17 0 rfl rfl (by decide) in5 (m_v5 hM) (by decide) (by decide +kernel) rfl dX5_addPart_5 ?_
  have f_1 := hk
  refine lv_iload_n X.1 X.2.1 dX5_addPart_8 rfl (lv_at hl 1 rfl) ?_
  refine q_istv (len := 4200) (x := a) (z := (C 5 17 0)) X hP hS 38 0 (by decide) rfl rfl (m_va hM 18 (by decide) rfl) rfl (by omega) (by omega) ha dX5_addPart_9 (fun H locs hP hS => ?_)
  have hP : q_P g s0 n ad (q_up C 38 (((C 5 17 0)).toNat) 0 a) H := hP
  refine lv_aload_n X.1 X.2.1 dX5_addPart_10 rfl (lv_at hl 0 rfl) ?_
  refine q_get (index := 54) (v := .ref (ad 39 0)) X hP 5 19 0 rfl rfl (by decide) in5 (m_v5 hM) (by decide) (by decide +kernel) (m_r hM ad 19 39 (by decide)) dX5_addPart_11 ?_
  refine lv_aload_n X.1 X.2.1 dX5_addPart_14 rfl (lv_at hl 0 rfl) ?_
  refine q_get (index := 101) (v := .int (iI (C 5 17 0))) X hP 5 17 0 rfl rfl (by decide) in5 (m_v5 hM) (by decide) (by decide +kernel) rfl dX5_addPart_15 ?_
  refine lv_iload_n X.1 X.2.1 dX5_addPart_18 rfl (lv_at hl 2 rfl) ?_
  refine q_istv (len := 4200) (x := b) (z := (C 5 17 0)) X hP hS 39 0 (by decide) rfl rfl (m_va hM 19 (by decide) rfl) rfl (by omega) (by omega) hb dX5_addPart_19 (fun H locs hP hS => ?_)
  have hP : q_P g s0 n ad (q_up (q_up C 38 (((C 5 17 0)).toNat) 0 a) 39 (((C 5 17 0)).toNat) 0 b) H := hP
  refine lv_aload_n X.1 X.2.1 dX5_addPart_20 rfl (lv_at hl 0 rfl) ?_
  refine q_get (index := 57) (v := .ref (ad 40 0)) X hP 5 20 0 rfl rfl (by decide) in5 (m_v5 hM) (by decide) (by decide +kernel) (m_r hM ad 20 40 (by decide)) dX5_addPart_21 ?_
  refine lv_aload_n X.1 X.2.1 dX5_addPart_24 rfl (lv_at hl 0 rfl) ?_
  refine q_get (index := 101) (v := .int (iI (C 5 17 0))) X hP 5 17 0 rfl rfl (by decide) in5 (m_v5 hM) (by decide) (by decide +kernel) rfl dX5_addPart_25 ?_
  refine lv_iload_n X.1 X.2.1 dX5_addPart_28 rfl (lv_at hl 3 rfl) ?_
  refine q_istv (len := 4200) (x := d) (z := (C 5 17 0)) X hP hS 40 0 (by decide) rfl rfl (m_va hM 20 (by decide) rfl) rfl (by omega) (by omega) hd dX5_addPart_29 (fun H locs hP hS => ?_)
  have hP : q_P g s0 n ad (q_up (q_up (q_up C 38 (((C 5 17 0)).toNat) 0 a) 39 (((C 5 17 0)).toNat) 0 b) 40 (((C 5 17 0)).toNat) 0 d) H := hP
  refine lv_aload_n X.1 X.2.1 dX5_addPart_30 rfl (lv_at hl 0 rfl) ?_
  refine q_get (index := 60) (v := .ref (ad 41 0)) X hP 5 21 0 rfl rfl (by decide) in5 (m_v5 hM) (by decide) (by decide +kernel) (m_r hM ad 21 41 (by decide)) dX5_addPart_31 ?_
  refine lv_aload_n X.1 X.2.1 dX5_addPart_34 rfl (lv_at hl 0 rfl) ?_
  refine q_get (index := 101) (v := .int (iI (C 5 17 0))) X hP 5 17 0 rfl rfl (by decide) in5 (m_v5 hM) (by decide) (by decide +kernel) rfl dX5_addPart_35 ?_
  refine lv_iconst (v := iI (0)) X.1 X.2.1 dX5_addPart_38 rfl ?_
  refine q_istv (len := 4200) (x := (0)) (z := (C 5 17 0)) X hP hS 41 0 (by decide) rfl rfl (m_va hM 21 (by decide) rfl) rfl (by omega) (by omega) (by decide) dX5_addPart_39 (fun H locs hP hS => ?_)
  have hP : q_P g s0 n ad (q_up (q_up (q_up (q_up C 38 (((C 5 17 0)).toNat) 0 a) 39 (((C 5 17 0)).toNat) 0 b) 40 (((C 5 17 0)).toNat) 0 d) 41 (((C 5 17 0)).toNat) 0 ((0))) H := hP
  refine lv_aload_n X.1 X.2.1 dX5_addPart_40 rfl (lv_at hl 0 rfl) ?_
  refine q_get (index := 63) (v := .ref (ad 42 0)) X hP 5 22 0 rfl rfl (by decide) in5 (m_v5 hM) (by decide) (by decide +kernel) (m_r hM ad 22 42 (by decide)) dX5_addPart_41 ?_
  refine lv_aload_n X.1 X.2.1 dX5_addPart_44 rfl (lv_at hl 0 rfl) ?_
  refine q_get (index := 101) (v := .int (iI (C 5 17 0))) X hP 5 17 0 rfl rfl (by decide) in5 (m_v5 hM) (by decide) (by decide +kernel) rfl dX5_addPart_45 ?_
  refine lv_iconst (v := iI (0)) X.1 X.2.1 dX5_addPart_48 rfl ?_
  refine q_istv (len := 4200) (x := (0)) (z := (C 5 17 0)) X hP hS 42 0 (by decide) rfl rfl (m_va hM 22 (by decide) rfl) rfl (by omega) (by omega) (by decide) dX5_addPart_49 (fun H locs hP hS => ?_)
  have hP : q_P g s0 n ad (q_up (q_up (q_up (q_up (q_up C 38 (((C 5 17 0)).toNat) 0 a) 39 (((C 5 17 0)).toNat) 0 b) 40 (((C 5 17 0)).toNat) 0 d) 41 (((C 5 17 0)).toNat) 0 ((0))) 42 (((C 5 17 0)).toNat) 0 ((0))) H := hP
  refine lv_aload_n X.1 X.2.1 dX5_addPart_50 rfl (lv_at hl 0 rfl) ?_
  refine q_get (index := 69) (v := .ref (ad 44 0)) X hP 5 24 0 rfl rfl (by decide) in5 (m_v5 hM) (by decide) (by decide +kernel) (m_r hM ad 24 44 (by decide)) dX5_addPart_51 ?_
  refine lv_aload_n X.1 X.2.1 dX5_addPart_54 rfl (lv_at hl 0 rfl) ?_
  refine q_get (index := 101) (v := .int (iI (C 5 17 0))) X hP 5 17 0 rfl rfl (by decide) in5 (m_v5 hM) (by decide) (by decide +kernel) rfl dX5_addPart_55 ?_
  refine lv_iconst (v := iI (1)) X.1 X.2.1 dX5_addPart_58 rfl ?_
  refine q_zstv (len := 4200) (x := (1)) (z := (C 5 17 0)) X hP hS 44 0 (by decide) rfl rfl (m_va hM 24 (by decide) rfl) rfl (by omega) (by omega) (by decide) dX5_addPart_59 (fun H locs hP hS => ?_)
  have hP : q_P g s0 n ad (q_up (q_up (q_up (q_up (q_up (q_up C 38 (((C 5 17 0)).toNat) 0 a) 39 (((C 5 17 0)).toNat) 0 b) 40 (((C 5 17 0)).toNat) 0 d) 41 (((C 5 17 0)).toNat) 0 ((0))) 42 (((C 5 17 0)).toNat) 0 ((0))) 44 (((C 5 17 0)).toNat) 0 ((1))) H := hP
  refine lv_aload_n X.1 X.2.1 dX5_addPart_60 rfl (lv_at hl 0 rfl) ?_
  refine lv_dup X.1 X.2.1 dX5_addPart_61 rfl ?_
  refine q_get (index := 101) (v := .int (iI (C 5 17 0))) X hP 5 17 0 rfl rfl (by decide) in5 (m_v5 hM) (by decide) (by decide +kernel) rfl dX5_addPart_62 ?_
  refine lv_iconst (v := iI (1)) X.1 X.2.1 dX5_addPart_65 rfl ?_
  refine q_iadd X dX5_addPart_66 ?_
  refine q_put (index := 101) (v := .int (iI ((C 5 17 0) + (1)))) X hP hS 5 17 0 (((C 5 17 0) + (1))) rfl rfl (by decide) in5 tyX5 tyX5_ok nmX5 (m_v5 hM) (by decide) (by decide +kernel) rfl rfl rfl rfl (show R32 _ from (by omega)) dX5_addPart_67 (fun H locs hP hS => ?_)
  have hP : q_P g s0 n ad (q_up (q_up (q_up (q_up (q_up (q_up (q_up C 38 (((C 5 17 0)).toNat) 0 a) 39 (((C 5 17 0)).toNat) 0 b) 40 (((C 5 17 0)).toNat) 0 d) 41 (((C 5 17 0)).toNat) 0 ((0))) 42 (((C 5 17 0)).toNat) 0 ((0))) 44 (((C 5 17 0)).toNat) 0 ((1))) 5 17 0 (((C 5 17 0) + (1)))) H := hP
  exact q_vret X hr hlocks hP hS rfl (Nat.le_of_ble_eq_true rfl) (Nat.le_of_ble_eq_true rfl) dX5_addPart_70
