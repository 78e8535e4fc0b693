set_option maxHeartbeats 4000000 in
set_option maxRecDepth 100000 in
theorem c_X5_in (l : Launch) (g : q_G) (s0 : Nat) (n : Nat → Nat) (ad : Nat → Nat → Nat) (C : q_S) (a b d : Int) (ha : R64 a) (hb : R64 b) (hd : R64 d) : Met l yX5_in wsX5_in ({ frames := 0, cells := 0, slots := 0, locals := 0 }) (va_Pc [.long (jI a), .long (jI b), .long (jI d)] (q_B g s0 (n, ad, C))) (va_Qi (fun r u => u = (n, ad, C) ∧ (((b ≤ a ∧ a ≤ d) ∧ r = iI 1) ∨ (¬ (b ≤ a ∧ a ≤ d) ∧ r = iI 0))) (q_B g s0) (q_A s0)) 0 0 (q_A s0) := by
  refine Met.ofW (cc := cX5_in) (maxL := 6) (ret := (some .boolean)) (by decide) rfl ?_
  intro p e s m args below meth c s₁ B hml hv
  obtain ⟨rfl, hv⟩ := hv
  have hr := B.returns
  have hlocks := B.notSynchronized
  obtain ⟨X, hP⟩ := q_start B.exec B.bytes hml (show s.vm.findClass RX5 = some m.cls from findClass_of_methodNamed B.named) (atoms_spec (ws := wsX5_in) B.pre) hv
  have hP : q_P g s0 n ad C s.heap := hP
  have hS : va_S (q_A s0) s.heap s.heap [] := va_S.rf
  have hl := lv_entry ([.long (jI a), .long (jI b), .long (jI d)]) (n := 6) (Nat.le_of_ble_eq_true rfl)
  rw [lg_entry_eq]
  generalize (lg_sl ([.long (jI a), .long (jI b), .long (jI d)]) ++ List.replicate (6 - (lg_sl ([.long (jI a), .long (jI b), .long (jI d)])).length) Slot.unset).toArray = ls at hl ⊢
  have hl : lv_has ls 6 [(0, .long (jI a)), (2, .long (jI b)), (4, .long (jI d))] := hl
  refine lv_lload_n X.1 X.2.1 dX5_in_0 rfl (lv_at hl 0 rfl) ?_
  refine lv_lload_n X.1 X.2.1 dX5_in_1 rfl (lv_at hl 1 rfl) ?_
  refine q_lcmp_lt (tgt := 17) X ha hb dX5_in_2 dX5_in_3 (by decide) (fun h_1 => ?_) (fun h_1 => ?_)
  · refine lv_iconst (v := iI (0)) X.1 X.2.1 dX5_in_17 rfl ?_
    exact q_zret X hr hlocks hP hS (z := (0)) (by decide) ⟨rfl, Or.inr ⟨by omega, rfl⟩⟩ (Nat.le_of_ble_eq_true rfl) (Nat.le_of_ble_eq_true rfl) dX5_in_18
  · refine lv_lload_n X.1 X.2.1 dX5_in_6 rfl (lv_at hl 0 rfl) ?_
    refine lv_lload X.1 X.2.1 dX5_in_7 (lv_at hl 2 rfl) ?_
    refine q_lcmp_gt (tgt := 17) X ha hd dX5_in_9 dX5_in_10 (by decide) (fun h_2 => ?_) (fun h_2 => ?_)
    · refine lv_iconst (v := iI (0)) X.1 X.2.1 dX5_in_17 rfl ?_
      exact q_zret X hr hlocks hP hS (z := (0)) (by decide) ⟨rfl, Or.inr ⟨by omega, rfl⟩⟩ (Nat.le_of_ble_eq_true rfl) (Nat.le_of_ble_eq_true rfl) dX5_in_18
    · refine lv_iconst (v := iI (1)) X.1 X.2.1 dX5_in_13 rfl ?_
      refine lv_goto (tgt := 18) X.1 X.2.1 dX5_in_14 (by decide) ?_
      exact q_zret X hr hlocks hP hS (z := (1)) (by decide) ⟨rfl, Or.inl ⟨by omega, rfl⟩⟩ (Nat.le_of_ble_eq_true rfl) (Nat.le_of_ble_eq_true rfl) dX5_in_18
set_option maxHeartbeats 4000000 in
set_option maxRecDepth 100000 in
theorem c_X5_thrown (l : Launch) (g : q_G) (s0 : Nat) (n : Nat → Nat) (ad : Nat → Nat → Nat) (C : q_S) (hM : m_S C n) : Met l yX5_thrown wsX5_thrown ({ frames := 0, cells := 0, slots := 0, locals := 0 }) (va_Pc [.ref (ad 5 0)] (q_B g s0 (n, ad, C))) (va_Qi (fun r u => u = (n, ad, C) ∧ r = iI (C 5 0 0)) (q_B g s0) (q_A s0)) 0 0 (q_A s0) := by
  refine Met.ofW (cc := cX5_thrown) (maxL := 1) (ret := (some .int)) (by decide) rfl ?_
  intro p e s m args below meth c s₁ B hml hv
  obtain ⟨rfl, hv⟩ := hv
  have hr := B.returns
  have hlocks := B.notSynchronized
  obtain ⟨X, hP⟩ := q_start B.exec B.bytes hml (show s.vm.findClass RX5 = some m.cls from findClass_of_methodNamed B.named) (atoms_spec (ws := wsX5_thrown) B.pre) hv
  have hP : q_P g s0 n ad C s.heap := hP
  have hS : va_S (q_A s0) s.heap s.heap [] := va_S.rf
  have in5 : ∀ w ∈ wsX50, w ∈ wsX5_thrown := by decide +kernel
  have hl := lv_entry ([.ref (ad 5 0)]) (n := 1) (Nat.le_of_ble_eq_true rfl)
  rw [lg_entry_eq]
  generalize (lg_sl ([.ref (ad 5 0)]) ++ List.replicate (1 - (lg_sl ([.ref (ad 5 0)])).length) Slot.unset).toArray = ls at hl ⊢
  have hl : lv_has ls 1 [(0, .ref (ad 5 0))] := hl
  refine lv_aload_n X.1 X.2.1 dX5_thrown_0 rfl (lv_at hl 0 rfl) ?_
  refine q_get (index := 82) (v := .int (iI (C 5 0 0))) X hP 5 0 0 rfl rfl (by decide) in5 (m_v5 hM) (by decide) (by decide +kernel) rfl dX5_thrown_1 ?_
  exact q_iret X hr hlocks hP hS ⟨rfl, rfl⟩ (Nat.le_of_ble_eq_true rfl) (Nat.le_of_ble_eq_true rfl) dX5_thrown_4
set_option maxHeartbeats 4000000 in
set_option maxRecDepth 100000 in
theorem c_X5_isPrinter (l : Launch) (g : q_G) (s0 : Nat) (n : Nat → Nat) (ad : Nat → Nat → Nat) (C : q_S) (c0 : Nat) (hM : m_S C n) (hR : m_R C c0) (a : Int) (ha : R32 a) : Met l yX5_isPrinter wsX5_isPrinter ({ frames := 1, cells := 0, slots := 0, locals := 25 }) (va_Pc [.ref (ad 5 0), .int (iI a)] (q_B g s0 (n, ad, C))) (va_Qi (fun r u => u = (n, ad, C) ∧ (((1 ≤ a ∧ a ≤ C 5 1 0) ∧ r = iI 1) ∨ (¬ (1 ≤ a ∧ a ≤ C 5 1 0) ∧ r = iI 0))) (q_B g s0) (q_A s0)) 0 0 (q_A s0) := by
  refine Met.ofW (cc := cX5_isPrinter) (maxL := 2) (ret := (some .boolean)) (by decide) rfl ?_
  intro p e s m args below meth c s₁ B hml hv
  obtain ⟨rfl, hv⟩ := hv
  have hr := B.returns
  have hlocks := B.notSynchronized
  obtain ⟨X, hP⟩ := q_start B.exec B.bytes hml (show s.vm.findClass RX5 = some m.cls from findClass_of_methodNamed B.named) (atoms_spec (ws := wsX5_isPrinter) B.pre) hv
  have hP : q_P g s0 n ad C s.heap := hP
  have hS : va_S (q_A s0) s.heap s.heap [] := va_S.rf
  have in5 : ∀ w ∈ wsX50, w ∈ wsX5_isPrinter := by decide +kernel
  have hl := lv_entry ([.ref (ad 5 0), .int (iI a)]) (n := 2) (Nat.le_of_ble_eq_true rfl)
  rw [lg_entry_eq]
  generalize (lg_sl ([.ref (ad 5 0), .int (iI a)]) ++ List.replicate (2 - (lg_sl ([.ref (ad 5 0), .int (iI a)])).length) Slot.unset).toArray = ls at hl ⊢
  have hl : lv_has ls 2 [(0, .ref (ad 5 0)), (1, .int (iI a))] := hl
  refine lv_iload_n X.1 X.2.1 dX5_isPrinter_0 rfl (lv_at hl 1 rfl) ?_
  refine q_i2l X ha dX5_isPrinter_1 ?_
  refine lv_lconst (v := jI (1)) X.1 X.2.1 dX5_isPrinter_2 (by decide) ?_
  refine lv_aload_n X.1 X.2.1 dX5_isPrinter_3 rfl (lv_at hl 0 rfl) ?_
  refine q_get (index := 93) (v := .int (iI (C 5 1 0))) X hP 5 1 0 rfl rfl (by decide) in5 (m_v5 hM) (by decide) (by decide +kernel) rfl dX5_isPrinter_4 ?_
  have f_1 := m_Rp hR
  refine q_i2l X (hP.tok 5 1 0 rfl) dX5_isPrinter_7 ?_
  refine va_calli (va_runS (As := [.long (jI a), .long (jI (1)), .long (jI (C 5 1 0))]) (rest := []) X.fix (c_X5_in l g s0 n ad C a (1) (C 5 1 0) (q_3264 ha) (by decide) (q_3264 (hP.tok 5 1 0 rfl))) (va_cwS 3 X.2.2.2.2.1 gX5_isPrinter_X5_in rfl rfl rfl (by decide +kernel) ⟨Nat.le_of_ble_eq_true rfl, Nat.le_of_ble_eq_true rfl⟩) (q_preS X hP hS _) rfl rfl hl.1 rfl (lv_room (Nat.le_of_ble_eq_true rfl)) dX5_isPrinter_8 ⟨Nat.le_of_ble_eq_true rfl, Nat.le_of_ble_eq_true rfl⟩) hS q_id q_id1 (fun r u t H locs ht hvm hw hB hz1 hk1 hS => ?_)
  obtain ⟨rfl, ⟨h_2, rfl⟩ | ⟨h_2, rfl⟩⟩ := hw
  · have hP : q_P g s0 n ad (C) H := q_back hB ht
    exact q_zret X hr hlocks hP hS (z := (1)) (by decide) ⟨rfl, Or.inl ⟨by omega, rfl⟩⟩ (Nat.le_of_ble_eq_true rfl) (Nat.le_of_ble_eq_true rfl) dX5_isPrinter_11
  · have hP : q_P g s0 n ad (C) H := q_back hB ht
    exact q_zret X hr hlocks hP hS (z := (0)) (by decide) ⟨rfl, Or.inr ⟨by omega, rfl⟩⟩ (Nat.le_of_ble_eq_true rfl) (Nat.le_of_ble_eq_true rfl) dX5_isPrinter_11
set_option maxHeartbeats 4000000 in
set_option maxRecDepth 100000 in
theorem c_X5_isJob (l : Launch) (g : q_G) (s0 : Nat) (n : Nat → Nat) (ad : Nat → Nat → Nat) (C : q_S) (c0 : Nat) (hM : m_S C n) (hR : m_R C c0) (a : Int) (ha : R32 a) : Met l yX5_isJob wsX5_isJob ({ frames := 1, cells := 0, slots := 0, locals := 25 }) (va_Pc [.ref (ad 5 0), .int (iI a)] (q_B g s0 (n, ad, C))) (va_Qi (fun r u => u = (n, ad, C) ∧ (((1 ≤ a ∧ a ≤ C 5 10 0) ∧ r = iI 1) ∨ (¬ (1 ≤ a ∧ a ≤ C 5 10 0) ∧ r = iI 0))) (q_B g s0) (q_A s0)) 0 0 (q_A s0) := by
  refine Met.ofW (cc := cX5_isJob) (maxL := 2) (ret := (some .boolean)) (by decide) rfl ?_
  intro p e s m args below meth c s₁ B hml hv
  obtain ⟨rfl, hv⟩ := hv
  have hr := B.returns
  have hlocks := B.notSynchronized
  obtain ⟨X, hP⟩ := q_start B.exec B.bytes hml (show s.vm.findClass RX5 = some m.cls from findClass_of_methodNamed B.named) (atoms_spec (ws := wsX5_isJob) B.pre) hv
  have hP : q_P g s0 n ad C s.heap := hP
  have hS : va_S (q_A s0) s.heap s.heap [] := va_S.rf
  have in5 : ∀ w ∈ wsX50, w ∈ wsX5_isJob := by decide +kernel
  have hl := lv_entry ([.ref (ad 5 0), .int (iI a)]) (n := 2) (Nat.le_of_ble_eq_true rfl)
  rw [lg_entry_eq]
  generalize (lg_sl ([.ref (ad 5 0), .int (iI a)]) ++ List.replicate (2 - (lg_sl ([.ref (ad 5 0), .int (iI a)])).length) Slot.unset).toArray = ls at hl ⊢
  have hl : lv_has ls 2 [(0, .ref (ad 5 0)), (1, .int (iI a))] := hl
  refine lv_iload_n X.1 X.2.1 dX5_isJob_0 rfl (lv_at hl 1 rfl) ?_
  refine q_i2l X ha dX5_isJob_1 ?_
  refine lv_lconst (v := jI (1)) X.1 X.2.1 dX5_isJob_2 (by decide) ?_
  refine lv_aload_n X.1 X.2.1 dX5_isJob_3 rfl (lv_at hl 0 rfl) ?_
  refine q_get (index := 110) (v := .int (iI (C 5 10 0))) X hP 5 10 0 rfl rfl (by decide) in5 (m_v5 hM) (by decide) (by decide +kernel) rfl dX5_isJob_4 ?_
  have f_1 := m_Rj hR
  refine q_i2l X (hP.tok 5 10 0 rfl) dX5_isJob_7 ?_
  refine va_calli (va_runS (As := [.long (jI a), .long (jI (1)), .long (jI (C 5 10 0))]) (rest := []) X.fix (c_X5_in l g s0 n ad C a (1) (C 5 10 0) (q_3264 ha) (by decide) (q_3264 (hP.tok 5 10 0 rfl))) (va_cwS 3 X.2.2.2.2.1 gX5_isJob_X5_in rfl rfl rfl (by decide +kernel) ⟨Nat.le_of_ble_eq_true rfl, Nat.le_of_ble_eq_true rfl⟩) (q_preS X hP hS _) rfl rfl hl.1 rfl (lv_room (Nat.le_of_ble_eq_true rfl)) dX5_isJob_8 ⟨Nat.le_of_ble_eq_true rfl, Nat.le_of_ble_eq_true rfl⟩) hS q_id q_id1 (fun r u t H locs ht hvm hw hB hz1 hk1 hS => ?_)
  obtain ⟨rfl, ⟨h_2, rfl⟩ | ⟨h_2, rfl⟩⟩ := hw
  · have hP : q_P g s0 n ad (C) H := q_back hB ht
    exact q_zret X hr hlocks hP hS (z := (1)) (by decide) ⟨rfl, Or.inl ⟨by omega, rfl⟩⟩ (Nat.le_of_ble_eq_true rfl) (Nat.le_of_ble_eq_true rfl) dX5_isJob_11
  · have hP : q_P g s0 n ad (C) H := q_back hB ht
    exact q_zret X hr hlocks hP hS (z := (0)) (by decide) ⟨rfl, Or.inr ⟨by omega, rfl⟩⟩ (Nat.le_of_ble_eq_true rfl) (Nat.le_of_ble_eq_true rfl) dX5_isJob_11
