theorem q_new_lt (n : Nat → Nat) (kd : Nat) : n kd < q_bump n kd kd := by rw [q_bump_s]; omega
def tX4_like (n : Nat → Nat) (ad : Nat → Nat → Nat) (C : q_S) (a : Int) (r : Int32) (u : q_U) : Prop :=
  (((0) ≤ a ∧ a ≤ (100)) ∧ u = (n, ad, q_up C 4 9 0 a) ∧ r = iI (C 4 9 0))
def xX4_like (n : Nat → Nat) (C : q_S) (a : Int) (E : String) : Prop :=
  (E = "java/lang/IllegalArgumentException" ∧ (¬ ((0) ≤ a ∧ a ≤ (100))))
set_option maxHeartbeats 4000000 in
set_option maxRecDepth 100000 in
theorem c_X4_like (l : Launch) (htr : l.stackTraces = false) (g : q_G) (s0 : Nat) (n : Nat → Nat) (ad : Nat → Nat → Nat) (C : q_S) (c0 : Nat) (hC : c_S C n) (hR : c_R C n c0) (hc0 : c0 ≤ 511) (a : Int) (ha : R32 a)  : vx_Met l yX4_like wsX4_like ({ frames := 6, cells := 1, slots := 6, locals := 90 }) (va_Pc [.ref (ad 4 0), .int (iI a)] (q_B g s0 (n, ad, C))) (va_Qi (tX4_like n ad C a) (q_B g s0) (q_A s0)) (q_XC g s0 (n, ad, C) (xX4_like n C a)) 1 6 (q_A s0) := by
  refine vx_ofW (cc := cX4_like) (maxL := 3) (ret := (some .int)) (by decide) rfl ?_
  intro p e s m args below meth c s₁ B hml hnx hv
  obtain ⟨rfl, hv⟩ := hv
  have hr := B.returns
  have hlocks := B.notSynchronized
  obtain ⟨X, hP⟩ := q_start B.exec B.bytes hml (show s.vm.findClass RX4 = some m.cls from findClass_of_methodNamed B.named) (atoms_spec (ws := wsX4_like) B.pre) hv
  have hP : q_P g s0 n ad C s.heap := hP
  have hS : va_S (q_A s0) s.heap s.heap [] := va_S.rf
  have in4 : ∀ w ∈ wsX40, w ∈ wsX4_like := by decide +kernel
  have hl := lv_entry ([.ref (ad 4 0), .int (iI a)]) (n := 3) (Nat.le_of_ble_eq_true rfl)
  rw [lg_entry_eq]
  generalize (lg_sl ([.ref (ad 4 0), .int (iI a)]) ++ List.replicate (3 - (lg_sl ([.ref (ad 4 0), .int (iI a)])).length) Slot.unset).toArray = ls at hl ⊢
  have hl : lv_has ls 3 [(0, .ref (ad 4 0)), (1, .int (iI a))] := hl
  refine lv_iload_n X.1 X.2.1 dX4_like_0 rfl (lv_at hl 1 rfl) ?_
  refine lv_iconst (v := iI (0)) X.1 X.2.1 dX4_like_1 rfl ?_
  refine lv_bipush (v := iI (100)) X.1 X.2.1 dX4_like_2 (by decide) ?_
  refine va_calli (va_runS (As := [.int (iI a), .int (iI (0)), .int (iI (100))]) (rest := []) X.fix (c_X4_isWithin l g s0 n ad C a (0) (100) ha (by decide) (by decide)) (va_cwS 3 X.2.2.2.2.1 gX4_like_X4_isWithin rfl rfl rfl (by decide +kernel) ⟨Nat.le_of_ble_eq_true rfl, Nat.le_of_ble_eq_true rfl⟩) (q_preS X hP hS _) rfl rfl hl.1 rfl (lv_room (Nat.le_of_ble_eq_true rfl)) dX4_like_4 ⟨Nat.le_of_ble_eq_true rfl, Nat.le_of_ble_eq_true rfl⟩) hS q_id q_id1 (fun r u t H locs ht hvm hw hB hz1 hk1 hS => ?_)
  obtain ⟨rfl, ⟨h_1, rfl⟩ | ⟨h_1, rfl⟩⟩ := hw
  · have hP : q_P g s0 n ad (C) H := q_back hB ht
    have h_1 : (0) ≤ a ∧ a ≤ (100) := h_1
    refine q_if_ne (tgt := 18) X (by decide) dX4_like_7 (by decide) (fun _ => ?_) (fun h => absurd h (by decide))
    refine lv_aload_n X.1 X.2.1 dX4_like_18 rfl (lv_at hl 0 rfl) ?_
    refine q_get (index := 34) (v := .int (iI (C 4 9 0))) X hP 4 9 0 rfl rfl (by decide) in4 (c_v4 hC) (by decide) (by decide +kernel) rfl dX4_like_19 ?_
    refine lv_istore_n (lv' := [(2, .int (iI (C 4 9 0))), (0, .ref (ad 4 0)), (1, .int (iI a))]) X.1 X.2.1 dX4_like_22 rfl hl (by decide) rfl (fun ls hl => ?_)
    refine lv_aload_n X.1 X.2.1 dX4_like_23 rfl (lv_at hl 1 rfl) ?_
    refine lv_iload_n X.1 X.2.1 dX4_like_24 rfl (lv_at hl 2 rfl) ?_
    refine q_put (index := 34) (v := .int (iI a)) X hP hS 4 9 0 a rfl rfl (by decide) in4 tyX4 tyX4_ok nmX4 (c_v4 hC) (by decide) (by decide +kernel) rfl rfl rfl rfl (show R32 _ from ha) dX4_like_25 (fun H locs hP hS => ?_)
    have hP : q_P g s0 n ad (q_up C 4 9 0 a) H := hP
    refine lv_iload_n X.1 X.2.1 dX4_like_28 rfl (lv_at hl 0 rfl) ?_
    refine vx_ret ?_
    exact q_iret X hr hlocks hP hS (⟨h_1, rfl, rfl⟩) (Nat.le_of_ble_eq_true rfl) (Nat.le_of_ble_eq_true rfl) dX4_like_29
  · have hP : q_P g s0 n ad (C) H := q_back hB ht
    have h_1 : ¬ ((0) ≤ a ∧ a ≤ (100)) := h_1
    refine q_if_ne (tgt := 18) X (by decide) dX4_like_7 (by decide) (fun h => absurd h (by decide)) (fun _ => ?_)
    exact q_throw X htr hnx hlocks (cls := "java/lang/IllegalArgumentException") (ik := 42) (ic := 44) (by decide) (by decide +kernel) (by decide +kernel) (by decide +kernel) xb_44 xg_42_44 hP hS hl.1 dX4_like_10 dX4_like_13 dX4_like_14 dX4_like_17 (Nat.le_of_ble_eq_true rfl) (Nat.le_of_ble_eq_true rfl) (Nat.le_of_ble_eq_true rfl) (Nat.le_of_ble_eq_true rfl) (⟨rfl, h_1⟩) (Nat.le_of_ble_eq_true rfl) (Nat.le_of_ble_eq_true rfl)
def tX4_hold (n : Nat → Nat) (ad : Nat → Nat → Nat) (C : q_S) (a b : Int) (r : Int32) (u : q_U) : Prop :=
  
def xX4_hold (n : Nat → Nat) (C : q_S) (a b : Int) (E : String) : Prop :=
  (x_find (n 0) a E)
set_option maxHeartbeats 4000000 in
set_option maxRecDepth 100000 in
theorem c_X4_hold (l : Launch) (htr : l.stackTraces = false) (g : q_G) (s0 : Nat) (n : Nat → Nat) (ad : Nat → Nat → Nat) (C : q_S) (c0 : Nat) (hC : c_S C n) (hR : c_R C n c0) (hc0 : c0 ≤ 511) (a b : Int) (ha : R32 a) (hb : R32 b) (hz : b = 0 ∨ b = 1) : vx_Met l yX4_hold wsX4_hold ({ frames := 7, cells := 1, slots := 6, locals := 112 }) (va_Pc [.ref (ad 4 0), .int (iI a), .int (iI b)] (q_B g s0 (n, ad, C))) (va_Qi (tX4_hold n ad C a b) (q_B g s0) (q_A s0)) (q_XC g s0 (n, ad, C) (xX4_hold n C a b)) 1 6 (q_A s0) := by
  refine vx_ofW (cc := cX4_hold) (maxL := 5) (ret := (some .int)) (by decide) rfl ?_
  intro p e s m args below meth c s₁ B hml hnx hv
  obtain ⟨rfl, hv⟩ := hv
  have hr := B.returns
  have hlocks := B.notSynchronized
  obtain ⟨X, hP⟩ := q_start B.exec B.bytes hml (show s.vm.findClass RX4 = some m.cls from findClass_of_methodNamed B.named) (atoms_spec (ws := wsX4_hold) B.pre) hv
  have hP : q_P g s0 n ad C s.heap := hP
  have hS : va_S (q_A s0) s.heap s.heap [] := va_S.rf
  have in0 : ∀ w ∈ wsX00, w ∈ wsX4_hold := by decide +kernel
  have in4 : ∀ w ∈ wsX40, w ∈ wsX4_hold := by decide +kernel
  have hl := lv_entry ([.ref (ad 4 0), .int (iI a), .int (iI b)]) (n := 5) (Nat.le_of_ble_eq_true rfl)
  rw [lg_entry_eq]
  generalize (lg_sl ([.ref (ad 4 0), .int (iI a), .int (iI b)]) ++ List.replicate (5 - (lg_sl ([.ref (ad 4 0), .int (iI a), .int (iI b)])).length) Slot.unset).toArray = ls at hl ⊢
  have hl : lv_has ls 5 [(0, .ref (ad 4 0)), (1, .int (iI a)), (2, .int (iI b))] := hl
  refine lv_aload_n X.1 X.2.1 dX4_hold_0 rfl (lv_at hl 0 rfl) ?_
  refine lv_iload_n X.1 X.2.1 dX4_hold_1 rfl (lv_at hl 1 rfl) ?_
  refine vx_callq (vx_runV (As := [.int (iI a)]) (rest := []) X.fix (c_X4_findJob l htr g s0 n ad C c0 hC hR a ha) (cwV 1 X.2.2.2.2.1 gX4_hold_X4_findJob rfl rfl rfl (by decide +kernel) ⟨Nat.le_of_ble_eq_true rfl, Nat.le_of_ble_eq_true rfl⟩) (q_preV X hP hS [.int (iI a)] (kd := 4) (by decide) rfl (c_v4 hC)) rfl rfl hl.1 rfl (lv_room (Nat.le_of_ble_eq_true rfl)) dX4_hold_2 ⟨Nat.le_of_ble_eq_true rfl, Nat.le_of_ble_eq_true rfl⟩) hS q_id q_id1 q_id ?_ (fun r u t H locs ht hvm hw hB hz1 hk1 hS => ?_)
  · intro E ce q9 u t H locs ht hvm hpx hBX hz1 hk1 hS hce hcv hcl
    exact q_xout X hnx hlocks hBX ht hS hce hcv hcl (fun hxe => hxe) (Nat.le_of_ble_eq_true rfl) (Nat.le_of_ble_eq_true rfl)
  · obtain ⟨rfl, h_1, rfl⟩ := hw
    have hP : q_P g s0 n ad (C) H := q_back hB ht
    rw [show va_rf (some (ad 0 ((a - 1).toNat))) = .ref (ad 0 ((a - 1).toNat)) from rfl]
def tX4_account (n : Nat → Nat) (ad : Nat → Nat → Nat) (C : q_S) (a b : Int) (r : Int64) (u : q_U) : Prop :=
  
def xX4_account (n : Nat → Nat) (C : q_S) (a b : Int) (E : String) : Prop :=
  (x_find (n 3) a E)
set_option maxHeartbeats 4000000 in
set_option maxRecDepth 100000 in
theorem c_X4_account (l : Launch) (htr : l.stackTraces = false) (g : q_G) (s0 : Nat) (n : Nat → Nat) (ad : Nat → Nat → Nat) (C : q_S) (c0 : Nat) (hC : c_S C n) (hR : c_R C n c0) (hc0 : c0 ≤ 511) (a b : Int) (ha : R32 a) (hb : R32 b)  : vx_Met l yX4_account wsX4_account ({ frames := 7, cells := 2, slots := 12, locals := 112 }) (va_Pc [.ref (ad 4 0), .int (iI a), .int (iI b)] (q_B g s0 (n, ad, C))) (va_Ql (tX4_account n ad C a b) (q_B g s0) (q_A s0)) (q_XC g s0 (n, ad, C) (xX4_account n C a b)) 2 12 (q_A s0) := by
  refine vx_ofW (cc := cX4_account) (maxL := 4) (ret := (some .long)) (by decide) rfl ?_
  intro p e s m args below meth c s₁ B hml hnx hv
  obtain ⟨rfl, hv⟩ := hv
  have hr := B.returns
  have hlocks := B.notSynchronized
  obtain ⟨X, hP⟩ := q_start B.exec B.bytes hml (show s.vm.findClass RX4 = some m.cls from findClass_of_methodNamed B.named) (atoms_spec (ws := wsX4_account) B.pre) hv
  have hP : q_P g s0 n ad C s.heap := hP
  have hS : va_S (q_A s0) s.heap s.heap [] := va_S.rf
  have in3 : ∀ w ∈ wsX30, w ∈ wsX4_account := by decide +kernel
  have in4 : ∀ w ∈ wsX40, w ∈ wsX4_account := by decide +kernel
  have hl := lv_entry ([.ref (ad 4 0), .int (iI a), .int (iI b)]) (n := 4) (Nat.le_of_ble_eq_true rfl)
  rw [lg_entry_eq]
  generalize (lg_sl ([.ref (ad 4 0), .int (iI a), .int (iI b)]) ++ List.replicate (4 - (lg_sl ([.ref (ad 4 0), .int (iI a), .int (iI b)])).length) Slot.unset).toArray = ls at hl ⊢
  have hl : lv_has ls 4 [(0, .ref (ad 4 0)), (1, .int (iI a)), (2, .int (iI b))] := hl
  refine lv_aload_n X.1 X.2.1 dX4_account_0 rfl (lv_at hl 0 rfl) ?_
  refine lv_iload_n X.1 X.2.1 dX4_account_1 rfl (lv_at hl 1 rfl) ?_
  refine vx_callq (vx_runV (As := [.int (iI a)]) (rest := []) X.fix (c_X4_findTicket l htr g s0 n ad C c0 hC hR a ha) (cwV 1 X.2.2.2.2.1 gX4_account_X4_findTicket rfl rfl rfl (by decide +kernel) ⟨Nat.le_of_ble_eq_true rfl, Nat.le_of_ble_eq_true rfl⟩) (q_preV X hP hS [.int (iI a)] (kd := 4) (by decide) rfl (c_v4 hC)) rfl rfl hl.1 rfl (lv_room (Nat.le_of_ble_eq_true rfl)) dX4_account_2 ⟨Nat.le_of_ble_eq_true rfl, Nat.le_of_ble_eq_true rfl⟩) hS q_id q_id1 q_id ?_ (fun r u t H locs ht hvm hw hB hz1 hk1 hS => ?_)
  · intro E ce q9 u t H locs ht hvm hpx hBX hz1 hk1 hS hce hcv hcl
    exact q_xout X hnx hlocks hBX ht hS hce hcv hcl (fun hxe => hxe) (Nat.le_of_ble_eq_true rfl) (Nat.le_of_ble_eq_true rfl)
  · obtain ⟨rfl, h_1, rfl⟩ := hw
    have hP : q_P g s0 n ad (C) H := q_back hB ht
    rw [show va_rf (some (ad 3 ((a - 1).toNat))) = .ref (ad 3 ((a - 1).toNat)) from rfl]
def tX4_printer (n : Nat → Nat) (ad : Nat → Nat → Nat) (C : q_S) (a b : Int) (r : Int32) (u : q_U) : Prop :=
  (∃ (ad1 : Nat → Nat → Nat), ((0) ≤ a ∧ a ≤ (7)) ∧ ((1) ≤ b ∧ b ≤ (2)) ∧ ((C 4 3 0) < (8)) ∧ (∀ k j, ¬ (k = 2 ∧ j = n 2) → ad1 k j = ad k j) ∧ u = (q_bump n 2, ad1, q_up (q_up (q_up (q_up (q_up C 2 0 ((n 2)) ((((C 4 3 0) + (1))))) 2 2 ((n 2)) a) 2 1 ((n 2)) b) 6 (((C 4 3 0)).toNat) 0 (((n 2 : Nat) : Int) + 1)) 4 3 0 (((C 4 3 0) + (1)))) ∧ r = iI ((C 4 3 0) + (1)))
def xX4_printer (n : Nat → Nat) (C : q_S) (a b : Int) (E : String) : Prop :=
  (E = "java/lang/UnsupportedOperationException" ∧ ((0) ≤ a ∧ a ≤ (7)) ∧ ((1) ≤ b ∧ b ≤ (2)) ∧ ((8) ≤ (C 4 3 0))) ∨
  (E = "java/lang/IllegalArgumentException" ∧ ((0) ≤ a ∧ a ≤ (7)) ∧ (¬ ((1) ≤ b ∧ b ≤ (2)))) ∨
  (E = "java/lang/IllegalArgumentException" ∧ (¬ ((0) ≤ a ∧ a ≤ (7))))
set_option maxHeartbeats 4000000 in
set_option maxRecDepth 100000 in
theorem c_X4_printer (l : Launch) (htr : l.stackTraces = false) (g : q_G) (s0 : Nat) (n : Nat → Nat) (ad : Nat → Nat → Nat) (C : q_S) (c0 : Nat) (hC : c_S C n) (hR : c_R C n c0) (hc0 : c0 ≤ 511) (a b : Int) (ha : R32 a) (hb : R32 b)  : vx_Met l yX4_printer wsX4_printer ({ frames := 6, cells := 1, slots := 6, locals := 90 }) (va_Pc [.ref (ad 4 0), .int (iI a), .int (iI b)] (q_B g s0 (n, ad, C))) (va_Qi (tX4_printer n ad C a b) (q_B g s0) (q_A s0)) (q_XC g s0 (n, ad, C) (xX4_printer n C a b)) 1 6 (q_A s0) := by
  refine vx_ofW (cc := cX4_printer) (maxL := 3) (ret := (some .int)) (by decide) rfl ?_
  intro p e s m args below meth c s₁ B hml hnx hv
  obtain ⟨rfl, hv⟩ := hv
  have hr := B.returns
  have hlocks := B.notSynchronized
  obtain ⟨X, hP⟩ := q_start B.exec B.bytes hml (show s.vm.findClass RX4 = some m.cls from findClass_of_methodNamed B.named) (atoms_spec (ws := wsX4_printer) B.pre) hv
  have hP : q_P g s0 n ad C s.heap := hP
  have hS : va_S (q_A s0) s.heap s.heap [] := va_S.rf
  have in2 : ∀ w ∈ wsX20, w ∈ wsX4_printer := by decide +kernel
  have in4 : ∀ w ∈ wsX40, w ∈ wsX4_printer := by decide +kernel
  have f0 := c_Rp hR
  have hl := lv_entry ([.ref (ad 4 0), .int (iI a), .int (iI b)]) (n := 3) (Nat.le_of_ble_eq_true rfl)
  rw [lg_entry_eq]
  generalize (lg_sl ([.ref (ad 4 0), .int (iI a), .int (iI b)]) ++ List.replicate (3 - (lg_sl ([.ref (ad 4 0), .int (iI a), .int (iI b)])).length) Slot.unset).toArray = ls at hl ⊢
  have hl : lv_has ls 3 [(0, .ref (ad 4 0)), (1, .int (iI a)), (2, .int (iI b))] := hl
  refine lv_iload_n X.1 X.2.1 dX4_printer_0 rfl (lv_at hl 1 rfl) ?_
  refine lv_iconst (v := iI (0)) X.1 X.2.1 dX4_printer_1 rfl ?_
  refine lv_bipush (v := iI (7)) X.1 X.2.1 dX4_printer_2 (by decide) ?_
  refine va_calli (va_runS (As := [.int (iI a), .int (iI (0)), .int (iI (7))]) (rest := []) X.fix (c_X4_isWithin l g s0 n ad C a (0) (7) ha (by decide) (by decide)) (va_cwS 3 X.2.2.2.2.1 gX4_printer_X4_isWithin rfl rfl rfl (by decide +kernel) ⟨Nat.le_of_ble_eq_true rfl, Nat.le_of_ble_eq_true rfl⟩) (q_preS X hP hS _) rfl rfl hl.1 rfl (lv_room (Nat.le_of_ble_eq_true rfl)) dX4_printer_4 ⟨Nat.le_of_ble_eq_true rfl, Nat.le_of_ble_eq_true rfl⟩) hS q_id q_id1 (fun r u t H locs ht hvm hw hB hz1 hk1 hS => ?_)
  obtain ⟨rfl, ⟨h_1, rfl⟩ | ⟨h_1, rfl⟩⟩ := hw
  · have hP : q_P g s0 n ad (C) H := q_back hB ht
    have h_1 : (0) ≤ a ∧ a ≤ (7) := h_1
    refine q_if_eq (tgt := 19) X (by decide) dX4_printer_7 (by decide) (fun h => absurd h (by decide)) (fun _ => ?_)
    refine lv_iload_n X.1 X.2.1 dX4_printer_10 rfl (lv_at hl 2 rfl) ?_
    refine lv_iconst (v := iI (1)) X.1 X.2.1 dX4_printer_11 rfl ?_
    refine lv_iconst (v := iI (2)) X.1 X.2.1 dX4_printer_12 rfl ?_
    refine va_calli (va_runS (As := [.int (iI b), .int (iI (1)), .int (iI (2))]) (rest := []) X.fix (c_X4_isWithin l g s0 n ad C b (1) (2) hb (by decide) (by decide)) (va_cwS 3 X.2.2.2.2.1 gX4_printer_X4_isWithin rfl rfl rfl (by decide +kernel) ⟨Nat.le_of_ble_eq_true rfl, Nat.le_of_ble_eq_true rfl⟩) (q_preS X hP hS _) rfl rfl hl.1 rfl (lv_room (Nat.le_of_ble_eq_true rfl)) dX4_printer_13 ⟨Nat.le_of_ble_eq_true rfl, Nat.le_of_ble_eq_true rfl⟩) hS q_id q_id1 (fun r u t H locs ht hvm hw hB hz1 hk1 hS => ?_)
    obtain ⟨rfl, ⟨h_3, rfl⟩ | ⟨h_3, rfl⟩⟩ := hw
    · have hP : q_P g s0 n ad (C) H := q_back hB ht
      have h_3 : (1) ≤ b ∧ b ≤ (2) := h_3
      refine q_if_ne (tgt := 27) X (by decide) dX4_printer_16 (by decide) (fun _ => ?_) (fun h => absurd h (by decide))
      refine lv_aload_n X.1 X.2.1 dX4_printer_27 rfl (lv_at hl 0 rfl) ?_
      refine q_get (index := 45) (v := .int (iI (C 4 3 0))) X hP 4 3 0 rfl rfl (by decide) in4 (c_v4 hC) (by decide) (by decide +kernel) rfl dX4_printer_28 ?_
      have f_5 := c_Rp hR
      refine lv_aload_n X.1 X.2.1 dX4_printer_31 rfl (lv_at hl 0 rfl) ?_
      refine q_get (index := 11) (v := .ref (ad 6 0)) X hP 4 0 0 rfl rfl (by decide) in4 (c_v4 hC) (by decide) (by decide +kernel) (c_r hC ad 0 6 (by decide)) dX4_printer_32 ?_
      refine q_len (z := 8) X hP 6 0 3 (by decide) rfl rfl (c_va hC 0 6 (by decide)) rfl dX4_printer_35 ?_
      refine q_icmp_lt (tgt := 47) X (hP.tok 4 3 0 rfl) (by decide) dX4_printer_36 (by decide) (fun h_6 => ?_) (fun h_6 => ?_)
      · refine lv_aload_n X.1 X.2.1 dX4_printer_47 rfl (lv_at hl 0 rfl) ?_
        refine q_get (index := 11) (v := .ref (ad 6 0)) X hP 4 0 0 rfl rfl (by decide) in4 (c_v4 hC) (by decide) (by decide +kernel) (c_r hC ad 0 6 (by decide)) dX4_printer_48 ?_
        refine lv_aload_n X.1 X.2.1 dX4_printer_51 rfl (lv_at hl 0 rfl) ?_
        refine q_get (index := 45) (v := .int (iI (C 4 3 0))) X hP 4 3 0 rfl rfl (by decide) in4 (c_v4 hC) (by decide) (by decide +kernel) rfl dX4_printer_52 ?_
        refine q_new (index := 9) X hP hS 2 rfl rfl (by decide) in2 tyX2 tyX2_ok (by decide +kernel) (by decide +kernel) (by decide +kernel) (q_hz2 _) (Nat.le_of_ble_eq_true rfl) (Nat.le_of_ble_eq_true rfl) dX4_printer_55 (fun ad1 H hpr1 hP hS => ?_)
        have e_7 : ad 6 0 = ad1 6 0 := (hpr1 6 0 (fun q => absurd q.1 (by decide))).symm
        have e_8 : ad 4 0 = ad1 4 0 := (hpr1 4 0 (fun q => absurd q.1 (by decide))).symm
        have hl : lv_has ls 3 [(0, .ref (ad1 4 0)), (1, .int (iI a)), (2, .int (iI b))] := lv_cong hl (lv_cs (congrArg Value.ref e_8) (lv_cs rfl (lv_cs rfl rfl)))
        have hpr1 : ∀ k j, ¬ (k = 2 ∧ j = n 2) → ad1 k j = ad k j := hpr1
        refine W.eq (g2 := F0 m 58 ls [.ref (ad1 2 (n 2)), .int (iI (C 4 3 0)), .ref (ad1 6 0)]) (by rw [e_7]) ?_
        have hP : q_P g s0 (q_bump n 2) ad1 (C) H := hP
        refine lv_dup X.1 X.2.1 dX4_printer_58 rfl ?_
        refine lv_aload_n X.1 X.2.1 dX4_printer_59 rfl (lv_at hl 0 rfl) ?_
        refine q_get (index := 45) (v := .int (iI (C 4 3 0))) X hP 4 3 0 rfl rfl (by decide) in4 (Nat.lt_of_lt_of_le (c_v4 hC) (q_bump_le n 2 4)) (by decide) (by decide +kernel) rfl dX4_printer_60 ?_
        refine lv_iconst (v := iI (1)) X.1 X.2.1 dX4_printer_63 rfl ?_
        refine q_iadd X dX4_printer_64 ?_
        refine lv_iload_n X.1 X.2.1 dX4_printer_65 rfl (lv_at hl 1 rfl) ?_
        refine lv_iload_n X.1 X.2.1 dX4_printer_66 rfl (lv_at hl 2 rfl) ?_
        refine va_callv (va_runI (As := [.int (iI ((C 4 3 0) + (1))), .int (iI a), .int (iI b)]) (rest := [.ref (ad1 2 (n 2)), .int (iI (C 4 3 0)), .ref (ad1 6 0)]) X.fix (c_X2_init l g s0 (q_bump n 2) ad1 C (n 2) (q_new_lt n 2) ((C 4 3 0) + (1)) a b (by omega) ha hb) (cwI 3 X.2.2.2.2.1 gX4_printer_X2_init rfl rfl rfl (X.2.2.2.2.1 (.initialized RX2) (by decide +kernel)) (X.2.2.2.2.1 (.methodLink RX4 51 yX2_init) (by decide +kernel)) (X.2.2.2.2.1 (.instanceMethod yX2_init) (by decide +kernel)) rfl (by decide +kernel) ⟨Nat.le_of_ble_eq_true rfl, Nat.le_of_ble_eq_true rfl⟩) (q_preS X hP hS _) rfl rfl hl.1 rfl (lv_room (Nat.le_of_ble_eq_true rfl)) dX4_printer_67 ⟨Nat.le_of_ble_eq_true rfl, Nat.le_of_ble_eq_true rfl⟩) hS q_id q_id1 (fun u t H locs ht hvm hw hB hz1 hk1 hS => ?_)
        have hw : u = (q_bump n 2, ad1, q_up (q_up (q_up C 2 0 ((n 2)) ((((C 4 3 0) + (1))))) 2 2 ((n 2)) a) 2 1 ((n 2)) b) := hw
        subst hw
        have hP : q_P g s0 (q_bump n 2) ad1 (q_up (q_up (q_up C 2 0 ((n 2)) ((((C 4 3 0) + (1))))) 2 2 ((n 2)) a) 2 1 ((n 2)) b) H := q_back hB ht
        refine q_ast (len := 8) (z := (C 4 3 0)) X hP hS 6 0 2 (n 2) 3 (by decide) rfl (by decide) rfl rfl rfl (Nat.lt_of_lt_of_le (c_va hC 0 6 (by decide)) (q_bump_le n 2 6)) (q_new_lt n 2) rfl (by omega) (by omega) dX4_printer_70 (fun H locs hP hS => ?_)
        have hP : q_P g s0 (q_bump n 2) ad1 (q_up (q_up (q_up (q_up C 2 0 ((n 2)) ((((C 4 3 0) + (1))))) 2 2 ((n 2)) a) 2 1 ((n 2)) b) 6 (((C 4 3 0)).toNat) 0 (((n 2 : Nat) : Int) + 1)) H := hP
        refine lv_aload_n X.1 X.2.1 dX4_printer_71 rfl (lv_at hl 0 rfl) ?_
        refine lv_dup X.1 X.2.1 dX4_printer_72 rfl ?_
        refine q_get (index := 45) (v := .int (iI (C 4 3 0))) X hP 4 3 0 rfl rfl (by decide) in4 (Nat.lt_of_lt_of_le (c_v4 hC) (q_bump_le n 2 4)) (by decide) (by decide +kernel) rfl dX4_printer_73 ?_
        refine lv_iconst (v := iI (1)) X.1 X.2.1 dX4_printer_76 rfl ?_
        refine q_iadd X dX4_printer_77 ?_
        refine q_put (index := 45) (v := .int (iI ((C 4 3 0) + (1)))) X hP hS 4 3 0 (((C 4 3 0) + (1))) rfl rfl (by decide) in4 tyX4 tyX4_ok nmX4 (Nat.lt_of_lt_of_le (c_v4 hC) (q_bump_le n 2 4)) (by decide) (by decide +kernel) rfl rfl rfl rfl (show R32 _ from (by omega)) dX4_printer_78 (fun H locs hP hS => ?_)
        have hP : q_P g s0 (q_bump n 2) ad1 (q_up (q_up (q_up (q_up (q_up C 2 0 ((n 2)) ((((C 4 3 0) + (1))))) 2 2 ((n 2)) a) 2 1 ((n 2)) b) 6 (((C 4 3 0)).toNat) 0 (((n 2 : Nat) : Int) + 1)) 4 3 0 (((C 4 3 0) + (1)))) H := hP
        refine lv_aload_n X.1 X.2.1 dX4_printer_81 rfl (lv_at hl 0 rfl) ?_
        refine q_get (index := 45) (v := .int (iI ((C 4 3 0) + (1)))) X hP 4 3 0 rfl rfl (by decide) in4 (Nat.lt_of_lt_of_le (c_v4 hC) (q_bump_le n 2 4)) (by decide) (by decide +kernel) rfl dX4_printer_82 ?_
        refine vx_ret ?_
        exact q_iret X hr hlocks hP hS (⟨ad1, h_1, h_3, h_6, hpr1, rfl, rfl⟩) (Nat.le_of_ble_eq_true rfl) (Nat.le_of_ble_eq_true rfl) dX4_printer_85
      · exact q_throw X htr hnx hlocks (cls := "java/lang/UnsupportedOperationException") (ik := 48) (ic := 50) (by decide) (by decide +kernel) (by decide +kernel) (by decide +kernel) xb_50 xg_48_50 hP hS hl.1 dX4_printer_39 dX4_printer_42 dX4_printer_43 dX4_printer_46 (Nat.le_of_ble_eq_true rfl) (Nat.le_of_ble_eq_true rfl) (Nat.le_of_ble_eq_true rfl) (Nat.le_of_ble_eq_true rfl) (Or.inl (⟨rfl, h_1, h_3, h_6⟩)) (Nat.le_of_ble_eq_true rfl) (Nat.le_of_ble_eq_true rfl)
    · have hP : q_P g s0 n ad (C) H := q_back hB ht
      have h_3 : ¬ ((1) ≤ b ∧ b ≤ (2)) := h_3
      refine q_if_ne (tgt := 27) X (by decide) dX4_printer_16 (by decide) (fun h => absurd h (by decide)) (fun _ => ?_)
      exact q_throw X htr hnx hlocks (cls := "java/lang/IllegalArgumentException") (ik := 42) (ic := 44) (by decide) (by decide +kernel) (by decide +kernel) (by decide +kernel) xb_44 xg_42_44 hP hS hl.1 dX4_printer_19 dX4_printer_22 dX4_printer_23 dX4_printer_26 (Nat.le_of_ble_eq_true rfl) (Nat.le_of_ble_eq_true rfl) (Nat.le_of_ble_eq_true rfl) (Nat.le_of_ble_eq_true rfl) (Or.inr (Or.inl (⟨rfl, h_1, h_3⟩))) (Nat.le_of_ble_eq_true rfl) (Nat.le_of_ble_eq_true rfl)
  · have hP : q_P g s0 n ad (C) H := q_back hB ht
    have h_1 : ¬ ((0) ≤ a ∧ a ≤ (7)) := h_1
    refine q_if_eq (tgt := 19) X (by decide) dX4_printer_7 (by decide) (fun _ => ?_) (fun h => absurd h (by decide))
    exact q_throw X htr hnx hlocks (cls := "java/lang/IllegalArgumentException") (ik := 42) (ic := 44) (by decide) (by decide +kernel) (by decide +kernel) (by decide +kernel) xb_44 xg_42_44 hP hS hl.1 dX4_printer_19 dX4_printer_22 dX4_printer_23 dX4_printer_26 (Nat.le_of_ble_eq_true rfl) (Nat.le_of_ble_eq_true rfl) (Nat.le_of_ble_eq_true rfl) (Nat.le_of_ble_eq_true rfl) (Or.inr (Or.inr (⟨rfl, h_1⟩))) (Nat.le_of_ble_eq_true rfl) (Nat.le_of_ble_eq_true rfl)
def tX4_ticket (n : Nat → Nat) (ad : Nat → Nat → Nat) (C : q_S) (a b d : Int) (r : Int32) (u : q_U) : Prop :=
  (∃ (ad1 : Nat → Nat → Nat), ((0) ≤ a ∧ a ≤ (7)) ∧ ((1) ≤ b ∧ b ≤ (2)) ∧ ((0) ≤ d ∧ d ≤ (3)) ∧ ((C 4 4 0) < (20)) ∧ (∀ k j, ¬ (k = 3 ∧ j = n 3) → ad1 k j = ad k j) ∧ u = (q_bump n 3, ad1, q_up (q_up (q_up (q_up C 3 0 ((n 3)) a) 3 1 ((n 3)) b) 7 (((C 4 4 0)).toNat) 0 (((n 3 : Nat) : Int) + 1)) 4 4 0 (((C 4 4 0) + (1)))) ∧ r = iI ((C 4 4 0) + (1)))
def xX4_ticket (n : Nat → Nat) (C : q_S) (a b d : Int) (E : String) : Prop :=
  (E = "java/lang/UnsupportedOperationException" ∧ ((0) ≤ a ∧ a ≤ (7)) ∧ ((1) ≤ b ∧ b ≤ (2)) ∧ ((0) ≤ d ∧ d ≤ (3)) ∧ ((20) ≤ (C 4 4 0))) ∨
  (E = "java/lang/IllegalArgumentException" ∧ ((0) ≤ a ∧ a ≤ (7)) ∧ ((1) ≤ b ∧ b ≤ (2)) ∧ (¬ ((0) ≤ d ∧ d ≤ (3)))) ∨
  (E = "java/lang/IllegalArgumentException" ∧ ((0) ≤ a ∧ a ≤ (7)) ∧ (¬ ((1) ≤ b ∧ b ≤ (2)))) ∨
  (E = "java/lang/IllegalArgumentException" ∧ (¬ ((0) ≤ a ∧ a ≤ (7))))
set_option maxHeartbeats 4000000 in
set_option maxRecDepth 100000 in
theorem c_X4_ticket (l : Launch) (htr : l.stackTraces = false) (g : q_G) (s0 : Nat) (n : Nat → Nat) (ad : Nat → Nat → Nat) (C : q_S) (c0 : Nat) (hC : c_S C n) (hR : c_R C n c0) (hc0 : c0 ≤ 511) (a b d : Int) (ha : R32 a) (hb : R32 b) (hd : R32 d)  : vx_Met l yX4_ticket wsX4_ticket ({ frames := 6, cells := 1, slots := 6, locals := 90 }) (va_Pc [.ref (ad 4 0), .int (iI a), .int (iI b), .int (iI d)] (q_B g s0 (n, ad, C))) (va_Qi (tX4_ticket n ad C a b d) (q_B g s0) (q_A s0)) (q_XC g s0 (n, ad, C) (xX4_ticket n C a b d)) 1 6 (q_A s0) := by
  refine vx_ofW (cc := cX4_ticket) (maxL := 4) (ret := (some .int)) (by decide) rfl ?_
  intro p e s m args below meth c s₁ B hml hnx hv
  obtain ⟨rfl, hv⟩ := hv
  have hr := B.returns
  have hlocks := B.notSynchronized
  obtain ⟨X, hP⟩ := q_start B.exec B.bytes hml (show s.vm.findClass RX4 = some m.cls from findClass_of_methodNamed B.named) (atoms_spec (ws := wsX4_ticket) B.pre) hv
  have hP : q_P g s0 n ad C s.heap := hP
  have hS : va_S (q_A s0) s.heap s.heap [] := va_S.rf
  have in3 : ∀ w ∈ wsX30, w ∈ wsX4_ticket := by decide +kernel
  have in4 : ∀ w ∈ wsX40, w ∈ wsX4_ticket := by decide +kernel
  have f0 := c_Rt hR
  have hl := lv_entry ([.ref (ad 4 0), .int (iI a), .int (iI b), .int (iI d)]) (n := 4) (Nat.le_of_ble_eq_true rfl)
  rw [lg_entry_eq]
  generalize (lg_sl ([.ref (ad 4 0), .int (iI a), .int (iI b), .int (iI d)]) ++ List.replicate (4 - (lg_sl ([.ref (ad 4 0), .int (iI a), .int (iI b), .int (iI d)])).length) Slot.unset).toArray = ls at hl ⊢
  have hl : lv_has ls 4 [(0, .ref (ad 4 0)), (1, .int (iI a)), (2, .int (iI b)), (3, .int (iI d))] := hl
  refine lv_iload_n X.1 X.2.1 dX4_ticket_0 rfl (lv_at hl 1 rfl) ?_
  refine lv_iconst (v := iI (0)) X.1 X.2.1 dX4_ticket_1 rfl ?_
  refine lv_bipush (v := iI (7)) X.1 X.2.1 dX4_ticket_2 (by decide) ?_
  refine va_calli (va_runS (As := [.int (iI a), .int (iI (0)), .int (iI (7))]) (rest := []) X.fix (c_X4_isWithin l g s0 n ad C a (0) (7) ha (by decide) (by decide)) (va_cwS 3 X.2.2.2.2.1 gX4_ticket_X4_isWithin rfl rfl rfl (by decide +kernel) ⟨Nat.le_of_ble_eq_true rfl, Nat.le_of_ble_eq_true rfl⟩) (q_preS X hP hS _) rfl rfl hl.1 rfl (lv_room (Nat.le_of_ble_eq_true rfl)) dX4_ticket_4 ⟨Nat.le_of_ble_eq_true rfl, Nat.le_of_ble_eq_true rfl⟩) hS q_id q_id1 (fun r u t H locs ht hvm hw hB hz1 hk1 hS => ?_)
  obtain ⟨rfl, ⟨h_1, rfl⟩ | ⟨h_1, rfl⟩⟩ := hw
  · have hP : q_P g s0 n ad (C) H := q_back hB ht
    have h_1 : (0) ≤ a ∧ a ≤ (7) := h_1
    refine q_if_eq (tgt := 28) X (by decide) dX4_ticket_7 (by decide) (fun h => absurd h (by decide)) (fun _ => ?_)
    refine lv_iload_n X.1 X.2.1 dX4_ticket_10 rfl (lv_at hl 2 rfl) ?_
    refine lv_iconst (v := iI (1)) X.1 X.2.1 dX4_ticket_11 rfl ?_
    refine lv_iconst (v := iI (2)) X.1 X.2.1 dX4_ticket_12 rfl ?_
    refine va_calli (va_runS (As := [.int (iI b), .int (iI (1)), .int (iI (2))]) (rest := []) X.fix (c_X4_isWithin l g s0 n ad C b (1) (2) hb (by decide) (by decide)) (va_cwS 3 X.2.2.2.2.1 gX4_ticket_X4_isWithin rfl rfl rfl (by decide +kernel) ⟨Nat.le_of_ble_eq_true rfl, Nat.le_of_ble_eq_true rfl⟩) (q_preS X hP hS _) rfl rfl hl.1 rfl (lv_room (Nat.le_of_ble_eq_true rfl)) dX4_ticket_13 ⟨Nat.le_of_ble_eq_true rfl, Nat.le_of_ble_eq_true rfl⟩) hS q_id q_id1 (fun r u t H locs ht hvm hw hB hz1 hk1 hS => ?_)
    obtain ⟨rfl, ⟨h_3, rfl⟩ | ⟨h_3, rfl⟩⟩ := hw
    · have hP : q_P g s0 n ad (C) H := q_back hB ht
      have h_3 : (1) ≤ b ∧ b ≤ (2) := h_3
      refine q_if_eq (tgt := 28) X (by decide) dX4_ticket_16 (by decide) (fun h => absurd h (by decide)) (fun _ => ?_)
      refine lv_iload_n X.1 X.2.1 dX4_ticket_19 rfl (lv_at hl 3 rfl) ?_
      refine lv_iconst (v := iI (0)) X.1 X.2.1 dX4_ticket_20 rfl ?_
      refine lv_iconst (v := iI (3)) X.1 X.2.1 dX4_ticket_21 rfl ?_
      refine va_calli (va_runS (As := [.int (iI d), .int (iI (0)), .int (iI (3))]) (rest := []) X.fix (c_X4_isWithin l g s0 n ad C d (0) (3) hd (by decide) (by decide)) (va_cwS 3 X.2.2.2.2.1 gX4_ticket_X4_isWithin rfl rfl rfl (by decide +kernel) ⟨Nat.le_of_ble_eq_true rfl, Nat.le_of_ble_eq_true rfl⟩) (q_preS X hP hS _) rfl rfl hl.1 rfl (lv_room (Nat.le_of_ble_eq_true rfl)) dX4_ticket_22 ⟨Nat.le_of_ble_eq_true rfl, Nat.le_of_ble_eq_true rfl⟩) hS q_id q_id1 (fun r u t H locs ht hvm hw hB hz1 hk1 hS => ?_)
      obtain ⟨rfl, ⟨h_5, rfl⟩ | ⟨h_5, rfl⟩⟩ := hw
      · have hP : q_P g s0 n ad (C) H := q_back hB ht
        have h_5 : (0) ≤ d ∧ d ≤ (3) := h_5
        refine q_if_ne (tgt := 36) X (by decide) dX4_ticket_25 (by decide) (fun _ => ?_) (fun h => absurd h (by decide))
        refine lv_aload_n X.1 X.2.1 dX4_ticket_36 rfl (lv_at hl 0 rfl) ?_
        refine q_get (index := 54) (v := .int (iI (C 4 4 0))) X hP 4 4 0 rfl rfl (by decide) in4 (c_v4 hC) (by decide) (by decide +kernel) rfl dX4_ticket_37 ?_
        have f_7 := c_Rt hR
        refine lv_aload_n X.1 X.2.1 dX4_ticket_40 rfl (lv_at hl 0 rfl) ?_
        refine q_get (index := 17) (v := .ref (ad 7 0)) X hP 4 1 0 rfl rfl (by decide) in4 (c_v4 hC) (by decide) (by decide +kernel) (c_r hC ad 1 7 (by decide)) dX4_ticket_41 ?_
        refine q_len (z := 20) X hP 7 0 4 (by decide) rfl rfl (c_va hC 1 7 (by decide)) rfl dX4_ticket_44 ?_
        refine q_icmp_lt (tgt := 56) X (hP.tok 4 4 0 rfl) (by decide) dX4_ticket_45 (by decide) (fun h_8 => ?_) (fun h_8 => ?_)
        · refine lv_aload_n X.1 X.2.1 dX4_ticket_56 rfl (lv_at hl 0 rfl) ?_
          refine q_get (index := 17) (v := .ref (ad 7 0)) X hP 4 1 0 rfl rfl (by decide) in4 (c_v4 hC) (by decide) (by decide +kernel) (c_r hC ad 1 7 (by decide)) dX4_ticket_57 ?_
          refine lv_aload_n X.1 X.2.1 dX4_ticket_60 rfl (lv_at hl 0 rfl) ?_
          refine q_get (index := 54) (v := .int (iI (C 4 4 0))) X hP 4 4 0 rfl rfl (by decide) in4 (c_v4 hC) (by decide) (by decide +kernel) rfl dX4_ticket_61 ?_
          refine q_new (index := 15) X hP hS 3 rfl rfl (by decide) in3 tyX3 tyX3_ok (by decide +kernel) (by decide +kernel) (by decide +kernel) (q_hz3 _) (Nat.le_of_ble_eq_true rfl) (Nat.le_of_ble_eq_true rfl) dX4_ticket_64 (fun ad1 H hpr1 hP hS => ?_)
          have e_9 : ad 7 0 = ad1 7 0 := (hpr1 7 0 (fun q => absurd q.1 (by decide))).symm
          have e_10 : ad 4 0 = ad1 4 0 := (hpr1 4 0 (fun q => absurd q.1 (by decide))).symm
          have hl : lv_has ls 4 [(0, .ref (ad1 4 0)), (1, .int (iI a)), (2, .int (iI b)), (3, .int (iI d))] := lv_cong hl (lv_cs (congrArg Value.ref e_10) (lv_cs rfl (lv_cs rfl (lv_cs rfl rfl))))
          have hpr1 : ∀ k j, ¬ (k = 3 ∧ j = n 3) → ad1 k j = ad k j := hpr1
          refine W.eq (g2 := F0 m 67 ls [.ref (ad1 3 (n 3)), .int (iI (C 4 4 0)), .ref (ad1 7 0)]) (by rw [e_9]) ?_
          have hP : q_P g s0 (q_bump n 3) ad1 (C) H := hP
          refine lv_dup X.1 X.2.1 dX4_ticket_67 rfl ?_
          refine lv_iload_n X.1 X.2.1 dX4_ticket_68 rfl (lv_at hl 1 rfl) ?_
          refine lv_iload_n X.1 X.2.1 dX4_ticket_69 rfl (lv_at hl 2 rfl) ?_
          refine va_callv (va_runI (As := [.int (iI a), .int (iI b)]) (rest := [.ref (ad1 3 (n 3)), .int (iI (C 4 4 0)), .ref (ad1 7 0)]) X.fix (c_X3_init l g s0 (q_bump n 3) ad1 C (n 3) (q_new_lt n 3) a b ha hb) (cwI 2 X.2.2.2.2.1 gX4_ticket_X3_init rfl rfl rfl (X.2.2.2.2.1 (.initialized RX3) (by decide +kernel)) (X.2.2.2.2.1 (.methodLink RX4 57 yX3_init) (by decide +kernel)) (X.2.2.2.2.1 (.instanceMethod yX3_init) (by decide +kernel)) rfl (by decide +kernel) ⟨Nat.le_of_ble_eq_true rfl, Nat.le_of_ble_eq_true rfl⟩) (q_preS X hP hS _) rfl rfl hl.1 rfl (lv_room (Nat.le_of_ble_eq_true rfl)) dX4_ticket_70 ⟨Nat.le_of_ble_eq_true rfl, Nat.le_of_ble_eq_true rfl⟩) hS q_id q_id1 (fun u t H locs ht hvm hw hB hz1 hk1 hS => ?_)
          have hw : u = (q_bump n 3, ad1, q_up (q_up C 3 0 ((n 3)) a) 3 1 ((n 3)) b) := hw
          subst hw
          have hP : q_P g s0 (q_bump n 3) ad1 (q_up (q_up C 3 0 ((n 3)) a) 3 1 ((n 3)) b) H := q_back hB ht
          refine q_ast (len := 20) (z := (C 4 4 0)) X hP hS 7 0 3 (n 3) 4 (by decide) rfl (by decide) rfl rfl rfl (Nat.lt_of_lt_of_le (c_va hC 1 7 (by decide)) (q_bump_le n 3 7)) (q_new_lt n 3) rfl (by omega) (by omega) dX4_ticket_73 (fun H locs hP hS => ?_)
          have hP : q_P g s0 (q_bump n 3) ad1 (q_up (q_up (q_up C 3 0 ((n 3)) a) 3 1 ((n 3)) b) 7 (((C 4 4 0)).toNat) 0 (((n 3 : Nat) : Int) + 1)) H := hP
          refine lv_aload_n X.1 X.2.1 dX4_ticket_74 rfl (lv_at hl 0 rfl) ?_
          refine lv_dup X.1 X.2.1 dX4_ticket_75 rfl ?_
          refine q_get (index := 54) (v := .int (iI (C 4 4 0))) X hP 4 4 0 rfl rfl (by decide) in4 (Nat.lt_of_lt_of_le (c_v4 hC) (q_bump_le n 3 4)) (by decide) (by decide +kernel) rfl dX4_ticket_76 ?_
          refine lv_iconst (v := iI (1)) X.1 X.2.1 dX4_ticket_79 rfl ?_
          refine q_iadd X dX4_ticket_80 ?_
          refine q_put (index := 54) (v := .int (iI ((C 4 4 0) + (1)))) X hP hS 4 4 0 (((C 4 4 0) + (1))) rfl rfl (by decide) in4 tyX4 tyX4_ok nmX4 (Nat.lt_of_lt_of_le (c_v4 hC) (q_bump_le n 3 4)) (by decide) (by decide +kernel) rfl rfl rfl rfl (show R32 _ from (by omega)) dX4_ticket_81 (fun H locs hP hS => ?_)
          have hP : q_P g s0 (q_bump n 3) ad1 (q_up (q_up (q_up (q_up C 3 0 ((n 3)) a) 3 1 ((n 3)) b) 7 (((C 4 4 0)).toNat) 0 (((n 3 : Nat) : Int) + 1)) 4 4 0 (((C 4 4 0) + (1)))) H := hP
          refine lv_aload_n X.1 X.2.1 dX4_ticket_84 rfl (lv_at hl 0 rfl) ?_
          refine q_get (index := 54) (v := .int (iI ((C 4 4 0) + (1)))) X hP 4 4 0 rfl rfl (by decide) in4 (Nat.lt_of_lt_of_le (c_v4 hC) (q_bump_le n 3 4)) (by decide) (by decide +kernel) rfl dX4_ticket_85 ?_
          refine vx_ret ?_
          exact q_iret X hr hlocks hP hS (⟨ad1, h_1, h_3, h_5, h_8, hpr1, rfl, rfl⟩) (Nat.le_of_ble_eq_true rfl) (Nat.le_of_ble_eq_true rfl) dX4_ticket_88
        · exact q_throw X htr hnx hlocks (cls := "java/lang/UnsupportedOperationException") (ik := 48) (ic := 50) (by decide) (by decide +kernel) (by decide +kernel) (by decide +kernel) xb_50 xg_48_50 hP hS hl.1 dX4_ticket_48 dX4_ticket_51 dX4_ticket_52 dX4_ticket_55 (Nat.le_of_ble_eq_true rfl) (Nat.le_of_ble_eq_true rfl) (Nat.le_of_ble_eq_true rfl) (Nat.le_of_ble_eq_true rfl) (Or.inl (⟨rfl, h_1, h_3, h_5, h_8⟩)) (Nat.le_of_ble_eq_true rfl) (Nat.le_of_ble_eq_true rfl)
      · have hP : q_P g s0 n ad (C) H := q_back hB ht
        have h_5 : ¬ ((0) ≤ d ∧ d ≤ (3)) := h_5
        refine q_if_ne (tgt := 36) X (by decide) dX4_ticket_25 (by decide) (fun h => absurd h (by decide)) (fun _ => ?_)
        exact q_throw X htr hnx hlocks (cls := "java/lang/IllegalArgumentException") (ik := 42) (ic := 44) (by decide) (by decide +kernel) (by decide +kernel) (by decide +kernel) xb_44 xg_42_44 hP hS hl.1 dX4_ticket_28 dX4_ticket_31 dX4_ticket_32 dX4_ticket_35 (Nat.le_of_ble_eq_true rfl) (Nat.le_of_ble_eq_true rfl) (Nat.le_of_ble_eq_true rfl) (Nat.le_of_ble_eq_true rfl) (Or.inr (Or.inl (⟨rfl, h_1, h_3, h_5⟩))) (Nat.le_of_ble_eq_true rfl) (Nat.le_of_ble_eq_true rfl)
    · have hP : q_P g s0 n ad (C) H := q_back hB ht
      have h_3 : ¬ ((1) ≤ b ∧ b ≤ (2)) := h_3
      refine q_if_eq (tgt := 28) X (by decide) dX4_ticket_16 (by decide) (fun _ => ?_) (fun h => absurd h (by decide))
      exact q_throw X htr hnx hlocks (cls := "java/lang/IllegalArgumentException") (ik := 42) (ic := 44) (by decide) (by decide +kernel) (by decide +kernel) (by decide +kernel) xb_44 xg_42_44 hP hS hl.1 dX4_ticket_28 dX4_ticket_31 dX4_ticket_32 dX4_ticket_35 (Nat.le_of_ble_eq_true rfl) (Nat.le_of_ble_eq_true rfl) (Nat.le_of_ble_eq_true rfl) (Nat.le_of_ble_eq_true rfl) (Or.inr (Or.inr (Or.inl (⟨rfl, h_1, h_3⟩)))) (Nat.le_of_ble_eq_true rfl) (Nat.le_of_ble_eq_true rfl)
  · have hP : q_P g s0 n ad (C) H := q_back hB ht
    have h_1 : ¬ ((0) ≤ a ∧ a ≤ (7)) := h_1
    refine q_if_eq (tgt := 28) X (by decide) dX4_ticket_7 (by decide) (fun _ => ?_) (fun h => absurd h (by decide))
    exact q_throw X htr hnx hlocks (cls := "java/lang/IllegalArgumentException") (ik := 42) (ic := 44) (by decide) (by decide +kernel) (by decide +kernel) (by decide +kernel) xb_44 xg_42_44 hP hS hl.1 dX4_ticket_28 dX4_ticket_31 dX4_ticket_32 dX4_ticket_35 (Nat.le_of_ble_eq_true rfl) (Nat.le_of_ble_eq_true rfl) (Nat.le_of_ble_eq_true rfl) (Nat.le_of_ble_eq_true rfl) (Or.inr (Or.inr (Or.inr (⟨rfl, h_1⟩)))) (Nat.le_of_ble_eq_true rfl) (Nat.le_of_ble_eq_true rfl)
def tX4_job (n : Nat → Nat) (ad : Nat → Nat → Nat) (C : q_S) (a b d f y : Int) (r : Int32) (u : q_U) : Prop :=
  
def xX4_job (n : Nat → Nat) (C : q_S) (a b d f y : Int) (E : String) : Prop :=
  (x_find (n 3) a E)
set_option maxHeartbeats 4000000 in
set_option maxRecDepth 100000 in
theorem c_X4_job (l : Launch) (htr : l.stackTraces = false) (g : q_G) (s0 : Nat) (n : Nat → Nat) (ad : Nat → Nat → Nat) (C : q_S) (c0 : Nat) (hC : c_S C n) (hR : c_R C n c0) (hc0 : c0 ≤ 511) (a b d f y : Int) (ha : R32 a) (hb : R32 b) (hd : R32 d) (hf : R32 f) (hy : R64 y)  : vx_Met l yX4_job wsX4_job ({ frames := 7, cells := 3, slots := 21, locals := 112 }) (va_Pc [.ref (ad 4 0), .int (iI a), .int (iI b), .int (iI d), .int (iI f), .long (jI y)] (q_B g s0 (n, ad, C))) (va_Qi (tX4_job n ad C a b d f y) (q_B g s0) (q_A s0)) (q_XC g s0 (n, ad, C) (xX4_job n C a b d f y)) 3 21 (q_A s0) := by
  refine vx_ofW (cc := cX4_job) (maxL := 9) (ret := (some .int)) (by decide) rfl ?_
  intro p e s m args below meth c s₁ B hml hnx hv
  obtain ⟨rfl, hv⟩ := hv
  have hr := B.returns
  have hlocks := B.notSynchronized
  obtain ⟨X, hP⟩ := q_start B.exec B.bytes hml (show s.vm.findClass RX4 = some m.cls from findClass_of_methodNamed B.named) (atoms_spec (ws := wsX4_job) B.pre) hv
  have hP : q_P g s0 n ad C s.heap := hP
  have hS : va_S (q_A s0) s.heap s.heap [] := va_S.rf
  have in0 : ∀ w ∈ wsX00, w ∈ wsX4_job := by decide +kernel
  have in1 : ∀ w ∈ wsX10, w ∈ wsX4_job := by decide +kernel
  have in4 : ∀ w ∈ wsX40, w ∈ wsX4_job := by decide +kernel
  have f0 := c_Rj hR
  have hl := lv_entry ([.ref (ad 4 0), .int (iI a), .int (iI b), .int (iI d), .int (iI f), .long (jI y)]) (n := 9) (Nat.le_of_ble_eq_true rfl)
  rw [lg_entry_eq]
  generalize (lg_sl ([.ref (ad 4 0), .int (iI a), .int (iI b), .int (iI d), .int (iI f), .long (jI y)]) ++ List.replicate (9 - (lg_sl ([.ref (ad 4 0), .int (iI a), .int (iI b), .int (iI d), .int (iI f), .long (jI y)])).length) Slot.unset).toArray = ls at hl ⊢
  have hl : lv_has ls 9 [(0, .ref (ad 4 0)), (1, .int (iI a)), (2, .int (iI b)), (3, .int (iI d)), (4, .int (iI f)), (5, .long (jI y))] := hl
  refine lv_aload_n X.1 X.2.1 dX4_job_0 rfl (lv_at hl 0 rfl) ?_
  refine lv_iload_n X.1 X.2.1 dX4_job_1 rfl (lv_at hl 1 rfl) ?_
  refine vx_callq (vx_runV (As := [.int (iI a)]) (rest := []) X.fix (c_X4_findTicket l htr g s0 n ad C c0 hC hR a ha) (cwV 1 X.2.2.2.2.1 gX4_job_X4_findTicket rfl rfl rfl (by decide +kernel) ⟨Nat.le_of_ble_eq_true rfl, Nat.le_of_ble_eq_true rfl⟩) (q_preV X hP hS [.int (iI a)] (kd := 4) (by decide) rfl (c_v4 hC)) rfl rfl hl.1 rfl (lv_room (Nat.le_of_ble_eq_true rfl)) dX4_job_2 ⟨Nat.le_of_ble_eq_true rfl, Nat.le_of_ble_eq_true rfl⟩) hS q_id q_id1 q_id ?_ (fun r u t H locs ht hvm hw hB hz1 hk1 hS => ?_)
  · intro E ce q9 u t H locs ht hvm hpx hBX hz1 hk1 hS hce hcv hcl
    exact q_xout X hnx hlocks hBX ht hS hce hcv hcl (fun hxe => hxe) (Nat.le_of_ble_eq_true rfl) (Nat.le_of_ble_eq_true rfl)
  · obtain ⟨rfl, h_1, rfl⟩ := hw
    have hP : q_P g s0 n ad (C) H := q_back hB ht
    rw [show va_rf (some (ad 3 ((a - 1).toNat))) = .ref (ad 3 ((a - 1).toNat)) from rfl]
def tX4_state (n : Nat → Nat) (ad : Nat → Nat → Nat) (C : q_S) (a b : Int) (r : Int32) (u : q_U) : Prop :=
  
def xX4_state (n : Nat → Nat) (C : q_S) (a b : Int) (E : String) : Prop :=
  (x_find (n 0) a E)
set_option maxHeartbeats 4000000 in
set_option maxRecDepth 100000 in
theorem c_X4_state (l : Launch) (htr : l.stackTraces = false) (g : q_G) (s0 : Nat) (n : Nat → Nat) (ad : Nat → Nat → Nat) (C : q_S) (c0 : Nat) (hC : c_S C n) (hR : c_R C n c0) (hc0 : c0 ≤ 511) (a b : Int) (ha : R32 a) (hb : R32 b)  : vx_Met l yX4_state wsX4_state ({ frames := 7, cells := 2, slots := 12, locals := 112 }) (va_Pc [.ref (ad 4 0), .int (iI a), .int (iI b)] (q_B g s0 (n, ad, C))) (va_Qi (tX4_state n ad C a b) (q_B g s0) (q_A s0)) (q_XC g s0 (n, ad, C) (xX4_state n C a b)) 2 12 (q_A s0) := by
  refine vx_ofW (cc := cX4_state) (maxL := 4) (ret := (some .int)) (by decide) rfl ?_
  intro p e s m args below meth c s₁ B hml hnx hv
  obtain ⟨rfl, hv⟩ := hv
  have hr := B.returns
  have hlocks := B.notSynchronized
  obtain ⟨X, hP⟩ := q_start B.exec B.bytes hml (show s.vm.findClass RX4 = some m.cls from findClass_of_methodNamed B.named) (atoms_spec (ws := wsX4_state) B.pre) hv
  have hP : q_P g s0 n ad C s.heap := hP
  have hS : va_S (q_A s0) s.heap s.heap [] := va_S.rf
  have in0 : ∀ w ∈ wsX00, w ∈ wsX4_state := by decide +kernel
  have in1 : ∀ w ∈ wsX10, w ∈ wsX4_state := by decide +kernel
  have in4 : ∀ w ∈ wsX40, w ∈ wsX4_state := by decide +kernel
  have hl := lv_entry ([.ref (ad 4 0), .int (iI a), .int (iI b)]) (n := 4) (Nat.le_of_ble_eq_true rfl)
  rw [lg_entry_eq]
  generalize (lg_sl ([.ref (ad 4 0), .int (iI a), .int (iI b)]) ++ List.replicate (4 - (lg_sl ([.ref (ad 4 0), .int (iI a), .int (iI b)])).length) Slot.unset).toArray = ls at hl ⊢
  have hl : lv_has ls 4 [(0, .ref (ad 4 0)), (1, .int (iI a)), (2, .int (iI b))] := hl
  refine lv_aload_n X.1 X.2.1 dX4_state_0 rfl (lv_at hl 0 rfl) ?_
  refine lv_iload_n X.1 X.2.1 dX4_state_1 rfl (lv_at hl 1 rfl) ?_
  refine vx_callq (vx_runV (As := [.int (iI a)]) (rest := []) X.fix (c_X4_findJob l htr g s0 n ad C c0 hC hR a ha) (cwV 1 X.2.2.2.2.1 gX4_state_X4_findJob rfl rfl rfl (by decide +kernel) ⟨Nat.le_of_ble_eq_true rfl, Nat.le_of_ble_eq_true rfl⟩) (q_preV X hP hS [.int (iI a)] (kd := 4) (by decide) rfl (c_v4 hC)) rfl rfl hl.1 rfl (lv_room (Nat.le_of_ble_eq_true rfl)) dX4_state_2 ⟨Nat.le_of_ble_eq_true rfl, Nat.le_of_ble_eq_true rfl⟩) hS q_id q_id1 q_id ?_ (fun r u t H locs ht hvm hw hB hz1 hk1 hS => ?_)
  · intro E ce q9 u t H locs ht hvm hpx hBX hz1 hk1 hS hce hcv hcl
    exact q_xout X hnx hlocks hBX ht hS hce hcv hcl (fun hxe => hxe) (Nat.le_of_ble_eq_true rfl) (Nat.le_of_ble_eq_true rfl)
  · obtain ⟨rfl, h_1, rfl⟩ := hw
    have hP : q_P g s0 n ad (C) H := q_back hB ht
    rw [show va_rf (some (ad 0 ((a - 1).toNat))) = .ref (ad 0 ((a - 1).toNat)) from rfl]
