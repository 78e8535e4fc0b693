theorem q_new_lt (n : Nat → Nat) (kd : Nat) : n kd < q_bump n kd kd := by rw [q_bump_s]; omega
def tX4_like (n : Nat → Nat) (ad : Nat → Nat → Nat) (C : q_S) (a : Int) (r : Int32) (u : q_U) : Prop :=
  (((0) ≤ a ∧ a ≤ (100)) ∧ u = (n, ad, q_up C 4 9 0 a) ∧ r = iI (C 4 9 0))
def xX4_like (n : Nat → Nat) (C : q_S) (a : Int) (E : String) : Prop :=
  (E = "java/lang/IllegalArgumentException" ∧ (¬ ((0) ≤ a ∧ a ≤ (100))))
set_option maxHeartbeats 4000000 in
set_option maxRecDepth 100000 in
theorem c_X4_like (l : Launch) (htr : l.stackTraces = false) (g : q_G) (s0 : Nat) (n : Nat → Nat) (ad : Nat → Nat → Nat) (C : q_S) (c0 : Nat) (hC : c_S C n) (hR : c_R C n c0) (hc0 : c0 ≤ 511) (a : Int) (ha : R32 a)  : vx_Met l yX4_like wsX4_like ({ frames := 6, cells := 1, slots := 6, locals := 90 }) (va_Pc [.ref (ad 4 0), .int (iI a)] (q_B g s0 (n, ad, C))) (va_Qi (tX4_like n ad C a) (q_B g s0) (q_A s0)) (q_XC g s0 (n, ad, C) (xX4_like n C a)) 1 6 (q_A s0) := by
  refine vx_ofW (cc := cX4_like) (maxL := 3) (ret := (some .int)) (by decide) rfl ?_
  intro p e s m args below meth c s₁ B hml hnx hv
  obtain ⟨rfl, hv⟩ := hv
  have hr := B.returns
  have hlocks := B.notSynchronized
  obtain ⟨X, hP⟩ := q_start B.exec B.bytes hml (show s.vm.findClass RX4 = some m.cls from findClass_of_methodNamed B.named) (atoms_spec (ws := wsX4_like) B.pre) hv
  have hP : q_P g s0 n ad C s.heap := hP
  have hS : va_S (q_A s0) s.heap s.heap [] := va_S.rf
  have in4 : ∀ w ∈ wsX40, w ∈ wsX4_like := by decide +kernel
  have hl := lv_entry ([.ref (ad 4 0), .int (iI a)]) (n := 3) (Nat.le_of_ble_eq_true rfl)
  rw [lg_entry_eq]
  generalize (lg_sl ([.ref (ad 4 0), .int (iI a)]) ++ List.replicate (3 - (lg_sl ([.ref (ad 4 0), .int (iI a)])).length) Slot.unset).toArray = ls at hl ⊢
  have hl : lv_has ls 3 [(0, .ref (ad 4 0)), (1, .int (iI a))] := hl
  refine lv_iload_n X.1 X.2.1 dX4_like_0 rfl (lv_at hl 1 rfl) ?_
  refine lv_iconst (v := iI (0)) X.1 X.2.1 dX4_like_1 rfl ?_
  refine lv_bipush (v := iI (100)) X.1 X.2.1 dX4_like_2 (by decide) ?_
  refine va_calli (va_runS (As := [.int (iI a), .int (iI (0)), .int (iI (100))]) (rest := []) X.fix (c_X4_isWithin l g s0 n ad C a (0) (100) ha (by decide) (by decide)) (va_cwS 3 X.2.2.2.2.1 gX4_like_X4_isWithin rfl rfl rfl (by decide +kernel) ⟨Nat.le_of_ble_eq_true rfl, Nat.le_of_ble_eq_true rfl⟩) (q_preS X hP hS _) rfl rfl hl.1 rfl (lv_room (Nat.le_of_ble_eq_true rfl)) dX4_like_4 ⟨Nat.le_of_ble_eq_true rfl, Nat.le_of_ble_eq_true rfl⟩) hS q_id q_id1 (fun r u t H locs ht hvm hw hB hz1 hk1 hS => ?_)
  obtain ⟨rfl, ⟨h_1, rfl⟩ | ⟨h_1, rfl⟩⟩ := hw
  · have hP : q_P g s0 n ad (C) H := q_back hB ht
    have h_1 : (0) ≤ a ∧ a ≤ (100) := h_1
    refine q_if_ne (tgt := 18) X (by decide) dX4_like_7 (by decide) (fun _ => ?_) (fun h => absurd h (by decide))
    refine lv_aload_n X.1 X.2.1 dX4_like_18 rfl (lv_at hl 0 rfl) ?_
    refine q_get (index := 34) (v := .int (iI (C 4 9 0))) X hP 4 9 0 rfl rfl (by decide) in4 (c_v4 hC) (by decide) (by decide +kernel) rfl dX4_like_19 ?_
    refine lv_istore_n (lv' := [(2, .int (iI (C 4 9 0))), (0, .ref (ad 4 0)), (1, .int (iI a))]) X.1 X.2.1 dX4_like_22 rfl hl (by decide) rfl (fun ls hl => ?_)
    refine lv_aload_n X.1 X.2.1 dX4_like_23 rfl (lv_at hl 1 rfl) ?_
    refine lv_iload_n X.1 X.2.1 dX4_like_24 rfl (lv_at hl 2 rfl) ?_
    refine q_put (index := 34) (v := .int (iI a)) X hP hS 4 9 0 a rfl rfl (by decide) in4 tyX4 tyX4_ok nmX4 (c_v4 hC) (by decide) (by decide +kernel) rfl rfl rfl rfl (show R32 _ from ha) dX4_like_25 (fun H locs hP hS => ?_)
    have hP : q_P g s0 n ad (q_up C 4 9 0 a) H := hP
    refine lv_iload_n X.1 X.2.1 dX4_like_28 rfl (lv_at hl 0 rfl) ?_
    refine vx_ret ?_
    exact q_iret X hr hlocks hP hS (⟨h_1, rfl, rfl⟩) (Nat.le_of_ble_eq_true rfl) (Nat.le_of_ble_eq_true rfl) dX4_like_29
  · have hP : q_P g s0 n ad (C) H := q_back hB ht
    have h_1 : ¬ ((0) ≤ a ∧ a ≤ (100)) := h_1
    refine q_if_ne (tgt := 18) X (by decide) dX4_like_7 (by decide) (fun h => absurd h (by decide)) (fun _ => ?_)
    exact q_throw X htr hnx hlocks (cls := "java/lang/IllegalArgumentException") (ik := 42) (ic := 44) (by decide) (by decide +kernel) (by decide +kernel) (by decide +kernel) xb_44 xg_42_44 hP hS hl.1 dX4_like_10 dX4_like_13 dX4_like_14 dX4_like_17 (Nat.le_of_ble_eq_true rfl) (Nat.le_of_ble_eq_true rfl) (Nat.le_of_ble_eq_true rfl) (Nat.le_of_ble_eq_true rfl) (⟨rfl, h_1⟩) (Nat.le_of_ble_eq_true rfl) (Nat.le_of_ble_eq_true rfl)
def tX4_hold (n : Nat → Nat) (ad : Nat → Nat → Nat) (C : q_S) (a b : Int) (r : Int32) (u : q_U) : Prop :=
  ((1 ≤ a ∧ a ≤ (n 0 : Int)) ∧ u = (n, ad, q_up C 0 5 ((a - 1).toNat) b) ∧ r = iI (C 0 5 ((a - 1).toNat)))
def xX4_hold (n : Nat → Nat) (C : q_S) (a b : Int) (E : String) : Prop :=
  (x_find (n 0) a E)
set_option maxHeartbeats 4000000 in
set_option maxRecDepth 100000 in
theorem c_X4_hold (l : Launch) (htr : l.stackTraces = false) (g : q_G) (s0 : Nat) (n : Nat → Nat) (ad : Nat → Nat → Nat) (C : q_S) (c0 : Nat) (hC : c_S C n) (hR : c_R C n c0) (hc0 : c0 ≤ 511) (a b : Int) (ha : R32 a) (hb : R32 b) (hz : b = 0 ∨ b = 1) : vx_Met l yX4_hold wsX4_hold ({ frames := 7, cells := 1, slots := 6, locals := 112 }) (va_Pc [.ref (ad 4 0), .int (iI a), .int (iI b)] (q_B g s0 (n, ad, C))) (va_Qi (tX4_hold n ad C a b) (q_B g s0) (q_A s0)) (q_XC g s0 (n, ad, C) (xX4_hold n C a b)) 1 6 (q_A s0) := by
  refine vx_ofW (cc := cX4_hold) (maxL := 5) (ret := (some .int)) (by decide) rfl ?_
  intro p e s m args below meth c s₁ B hml hnx hv
  obtain ⟨rfl, hv⟩ := hv
  have hr := B.returns
  have hlocks := B.notSynchronized
  obtain ⟨X, hP⟩ := q_start B.exec B.bytes hml (show s.vm.findClass RX4 = some m.cls from findClass_of_methodNamed B.named) (atoms_spec (ws := wsX4_hold) B.pre) hv
  have hP : q_P g s0 n ad C s.heap := hP
  have hS : va_S (q_A s0) s.heap s.heap [] := va_S.rf
  have in0 : ∀ w ∈ wsX00, w ∈ wsX4_hold := by decide +kernel
  have in4 : ∀ w ∈ wsX40, w ∈ wsX4_hold := by decide +kernel
  have hl := lv_entry ([.ref (ad 4 0), .int (iI a), .int (iI b)]) (n := 5) (Nat.le_of_ble_eq_true rfl)
  rw [lg_entry_eq]
  generalize (lg_sl ([.ref (ad 4 0), .int (iI a), .int (iI b)]) ++ List.replicate (5 - (lg_sl ([.ref (ad 4 0), .int (iI a), .int (iI b)])).length) Slot.unset).toArray = ls at hl ⊢
  have hl : lv_has ls 5 [(0, .ref (ad 4 0)), (1, .int (iI a)), (2, .int (iI b))] := hl
  refine lv_aload_n X.1 X.2.1 dX4_hold_0 rfl (lv_at hl 0 rfl) ?_
  refine lv_iload_n X.1 X.2.1 dX4_hold_1 rfl (lv_at hl 1 rfl) ?_
  refine vx_callq (vx_runV (As := [.int (iI a)]) (rest := []) X.fix (c_X4_findJob l htr g s0 n ad C c0 hC hR a ha) (cwV 1 X.2.2.2.2.1 gX4_hold_X4_findJob rfl rfl rfl (by decide +kernel) ⟨Nat.le_of_ble_eq_true rfl, Nat.le_of_ble_eq_true rfl⟩) (q_preV X hP hS [.int (iI a)] (kd := 4) (by decide) rfl (c_v4 hC)) rfl rfl hl.1 rfl (lv_room (Nat.le_of_ble_eq_true rfl)) dX4_hold_2 ⟨Nat.le_of_ble_eq_true rfl, Nat.le_of_ble_eq_true rfl⟩) hS q_id q_id1 q_id ?_ (fun r u t H locs ht hvm hw hB hz1 hk1 hS => ?_)
  · intro E ce q9 u t H locs ht hvm hpx hBX hz1 hk1 hS hce hcv hcl
    exact q_xout X hnx hlocks hBX ht hS hce hcv hcl (fun hxe => hxe) (Nat.le_of_ble_eq_true rfl) (Nat.le_of_ble_eq_true rfl)
  · obtain ⟨rfl, h_1, rfl⟩ := hw
    have hP : q_P g s0 n ad (C) H := q_back hB ht
    rw [show va_rf (some (ad 0 ((a - 1).toNat))) = .ref (ad 0 ((a - 1).toNat)) from rfl]
    refine lv_astore_n (lv' := [(3, .ref (ad 0 ((a - 1).toNat))), (0, .ref (ad 4 0)), (1, .int (iI a)), (2, .int (iI b))]) X.1 X.2.1 dX4_hold_5 rfl hl (by decide) rfl (fun ls hl => ?_)
    refine lv_aload_n X.1 X.2.1 dX4_hold_6 rfl (lv_at hl 0 rfl) ?_
    refine q_get (index := 133) (v := .int (iI (C 0 5 ((a - 1).toNat)))) X hP 0 5 ((a - 1).toNat) rfl rfl (by decide) in0 (show (a - 1).toNat < n 0 by omega) (by decide) (by decide +kernel) rfl dX4_hold_7 ?_
    refine va_calli (va_runS (As := [.int (iI (C 0 5 ((a - 1).toNat)))]) (rest := []) X.fix (c_X4_asNumber l g s0 n ad C (C 0 5 ((a - 1).toNat)) (hP.tok 0 5 _ rfl)) (va_cwS 1 X.2.2.2.2.1 gX4_hold_X4_asNumber rfl rfl rfl (by decide +kernel) ⟨Nat.le_of_ble_eq_true rfl, Nat.le_of_ble_eq_true rfl⟩) (q_preS X hP hS _) rfl rfl hl.1 rfl (lv_room (Nat.le_of_ble_eq_true rfl)) dX4_hold_10 ⟨Nat.le_of_ble_eq_true rfl, Nat.le_of_ble_eq_true rfl⟩) hS q_id q_id1 (fun r u t H locs ht hvm hw hB hz1 hk1 hS => ?_)
    obtain ⟨rfl, rfl⟩ := hw
    have hP : q_P g s0 n ad (C) H := q_back hB ht
    refine lv_istore (lv' := [(4, .int (iI (C 0 5 ((a - 1).toNat)))), (3, .ref (ad 0 ((a - 1).toNat))), (0, .ref (ad 4 0)), (1, .int (iI a)), (2, .int (iI b))]) X.1 X.2.1 dX4_hold_13 hl (by decide) rfl (fun ls hl => ?_)
    refine lv_aload_n X.1 X.2.1 dX4_hold_15 rfl (lv_at hl 1 rfl) ?_
    refine lv_iload_n X.1 X.2.1 dX4_hold_16 rfl (lv_at hl 4 rfl) ?_
    refine q_put (index := 133) (v := .int (iI b)) X hP hS 0 5 ((a - 1).toNat) b rfl rfl (by decide) in0 tyX0 tyX0_ok nmX0 (show (a - 1).toNat < n 0 by omega) (by decide) (by decide +kernel) rfl rfl (q_zn hz) (q_zf hz) hz dX4_hold_17 (fun H locs hP hS => ?_)
    have hP : q_P g s0 n ad (q_up C 0 5 ((a - 1).toNat) b) H := hP
    refine lv_iload X.1 X.2.1 dX4_hold_20 (lv_at hl 0 rfl) ?_
    refine vx_ret ?_
    exact q_iret X hr hlocks hP hS (⟨h_1, rfl, rfl⟩) (Nat.le_of_ble_eq_true rfl) (Nat.le_of_ble_eq_true rfl) dX4_hold_22
def tX4_account (n : Nat → Nat) (ad : Nat → Nat → Nat) (C : q_S) (a b : Int) (r : Int64) (u : q_U) : Prop :=
  ((1 ≤ a ∧ a ≤ (n 3 : Int)) ∧ (b = 0) ∧ u = (n, ad, C) ∧ r = jI (C 3 2 ((a - 1).toNat))) ∨
  ((1 ≤ a ∧ a ≤ (n 3 : Int)) ∧ (¬ b = 0) ∧ (b = 1) ∧ u = (n, ad, C) ∧ r = jI (C 3 3 ((a - 1).toNat))) ∨
  ((1 ≤ a ∧ a ≤ (n 3 : Int)) ∧ (¬ b = 0) ∧ (¬ b = 1) ∧ (b = 2) ∧ u = (n, ad, C) ∧ r = jI (C 3 4 ((a - 1).toNat))) ∨
  ((1 ≤ a ∧ a ≤ (n 3 : Int)) ∧ (¬ b = 0) ∧ (¬ b = 1) ∧ (¬ b = 2) ∧ (b = 3) ∧ u = (n, ad, C) ∧ r = jI (C 3 5 ((a - 1).toNat)))
def xX4_account (n : Nat → Nat) (C : q_S) (a b : Int) (E : String) : Prop :=
  (x_find (n 3) a E) ∨
  (E = "java/lang/IndexOutOfBoundsException" ∧ (1 ≤ a ∧ a ≤ (n 3 : Int)) ∧ (¬ b = 0) ∧ (¬ b = 1) ∧ (¬ b = 2) ∧ (¬ b = 3))
set_option maxHeartbeats 4000000 in
set_option maxRecDepth 100000 in
theorem c_X4_account (l : Launch) (htr : l.stackTraces = false) (g : q_G) (s0 : Nat) (n : Nat → Nat) (ad : Nat → Nat → Nat) (C : q_S) (c0 : Nat) (hC : c_S C n) (hR : c_R C n c0) (hc0 : c0 ≤ 511) (a b : Int) (ha : R32 a) (hb : R32 b)  : vx_Met l yX4_account wsX4_account ({ frames := 7, cells := 2, slots := 12, locals := 112 }) (va_Pc [.ref (ad 4 0), .int (iI a), .int (iI b)] (q_B g s0 (n, ad, C))) (va_Ql (tX4_account n ad C a b) (q_B g s0) (q_A s0)) (q_XC g s0 (n, ad, C) (xX4_account n C a b)) 2 12 (q_A s0) := by
  refine vx_ofW (cc := cX4_account) (maxL := 4) (ret := (some .long)) (by decide) rfl ?_
  intro p e s m args below meth c s₁ B hml hnx hv
  obtain ⟨rfl, hv⟩ := hv
  have hr := B.returns
  have hlocks := B.notSynchronized
  obtain ⟨X, hP⟩ := q_start B.exec B.bytes hml (show s.vm.findClass RX4 = some m.cls from findClass_of_methodNamed B.named) (atoms_spec (ws := wsX4_account) B.pre) hv
  have hP : q_P g s0 n ad C s.heap := hP
  have hS : va_S (q_A s0) s.heap s.heap [] := va_S.rf
  have in3 : ∀ w ∈ wsX30, w ∈ wsX4_account := by decide +kernel
  have in4 : ∀ w ∈ wsX40, w ∈ wsX4_account := by decide +kernel
  have hl := lv_entry ([.ref (ad 4 0), .int (iI a), .int (iI b)]) (n := 4) (Nat.le_of_ble_eq_true rfl)
  rw [lg_entry_eq]
  generalize (lg_sl ([.ref (ad 4 0), .int (iI a), .int (iI b)]) ++ List.replicate (4 - (lg_sl ([.ref (ad 4 0), .int (iI a), .int (iI b)])).length) Slot.unset).toArray = ls at hl ⊢
  have hl : lv_has ls 4 [(0, .ref (ad 4 0)), (1, .int (iI a)), (2, .int (iI b))] := hl
  refine lv_aload_n X.1 X.2.1 dX4_account_0 rfl (lv_at hl 0 rfl) ?_
  refine lv_iload_n X.1 X.2.1 dX4_account_1 rfl (lv_at hl 1 rfl) ?_
  refine vx_callq (vx_runV (As := [.int (iI a)]) (rest := []) X.fix (c_X4_findTicket l htr g s0 n ad C c0 hC hR a ha) (cwV 1 X.2.2.2.2.1 gX4_account_X4_findTicket rfl rfl rfl (by decide +kernel) ⟨Nat.le_of_ble_eq_true rfl, Nat.le_of_ble_eq_true rfl⟩) (q_preV X hP hS [.int (iI a)] (kd := 4) (by decide) rfl (c_v4 hC)) rfl rfl hl.1 rfl (lv_room (Nat.le_of_ble_eq_true rfl)) dX4_account_2 ⟨Nat.le_of_ble_eq_true rfl, Nat.le_of_ble_eq_true rfl⟩) hS q_id q_id1 q_id ?_ (fun r u t H locs ht hvm hw hB hz1 hk1 hS => ?_)
  · intro E ce q9 u t H locs ht hvm hpx hBX hz1 hk1 hS hce hcv hcl
    exact q_xout X hnx hlocks hBX ht hS hce hcv hcl (fun hxe => Or.inl (hxe)) (Nat.le_of_ble_eq_true rfl) (Nat.le_of_ble_eq_true rfl)
  · obtain ⟨rfl, h_1, rfl⟩ := hw
    have hP : q_P g s0 n ad (C) H := q_back hB ht
    rw [show va_rf (some (ad 3 ((a - 1).toNat))) = .ref (ad 3 ((a - 1).toNat)) from rfl]
    refine lv_astore_n (lv' := [(3, .ref (ad 3 ((a - 1).toNat))), (0, .ref (ad 4 0)), (1, .int (iI a)), (2, .int (iI b))]) X.1 X.2.1 dX4_account_5 rfl hl (by decide) rfl (fun ls hl => ?_)
    refine lv_iload_n X.1 X.2.1 dX4_account_6 rfl (lv_at hl 3 rfl) ?_
    by_cases h_2 : b = 0
    · refine q_tsi (tgt := 36) X hb dX4_account_7 (by omega) (by omega) (by rw [h_2]; rfl) (by decide) ?_
      refine lv_aload_n X.1 X.2.1 dX4_account_36 rfl (lv_at hl 0 rfl) ?_
      refine q_get (index := 169) (v := .long (jI (C 3 2 ((a - 1).toNat)))) X hP 3 2 ((a - 1).toNat) rfl rfl (by decide) in3 (show (a - 1).toNat < n 3 by omega) (by decide) (by decide +kernel) rfl dX4_account_37 ?_
      have f_3 := c_R3 hR 2 ((a - 1).toNat) (by decide) (by decide)
      refine vx_ret ?_
      exact q_lret X hr hlocks hP hS (Or.inl (⟨h_1, h_2, rfl, rfl⟩)) (Nat.le_of_ble_eq_true rfl) (Nat.le_of_ble_eq_true rfl) dX4_account_40
    · by_cases h_4 : b = 1
      · refine q_tsi (tgt := 41) X hb dX4_account_7 (by omega) (by omega) (by rw [h_4]; rfl) (by decide) ?_
        refine lv_aload_n X.1 X.2.1 dX4_account_41 rfl (lv_at hl 0 rfl) ?_
        refine q_get (index := 172) (v := .long (jI (C 3 3 ((a - 1).toNat)))) X hP 3 3 ((a - 1).toNat) rfl rfl (by decide) in3 (show (a - 1).toNat < n 3 by omega) (by decide) (by decide +kernel) rfl dX4_account_42 ?_
        have f_5 := c_R3 hR 3 ((a - 1).toNat) (by decide) (by decide)
        refine vx_ret ?_
        exact q_lret X hr hlocks hP hS (Or.inr (Or.inl (⟨h_1, h_2, h_4, rfl, rfl⟩))) (Nat.le_of_ble_eq_true rfl) (Nat.le_of_ble_eq_true rfl) dX4_account_45
      · by_cases h_6 : b = 2
        · refine q_tsi (tgt := 46) X hb dX4_account_7 (by omega) (by omega) (by rw [h_6]; rfl) (by decide) ?_
          refine lv_aload_n X.1 X.2.1 dX4_account_46 rfl (lv_at hl 0 rfl) ?_
          refine q_get (index := 175) (v := .long (jI (C 3 4 ((a - 1).toNat)))) X hP 3 4 ((a - 1).toNat) rfl rfl (by decide) in3 (show (a - 1).toNat < n 3 by omega) (by decide) (by decide +kernel) rfl dX4_account_47 ?_
          have f_7 := c_R3 hR 4 ((a - 1).toNat) (by decide) (by decide)
          refine vx_ret ?_
          exact q_lret X hr hlocks hP hS (Or.inr (Or.inr (Or.inl (⟨h_1, h_2, h_4, h_6, rfl, rfl⟩)))) (Nat.le_of_ble_eq_true rfl) (Nat.le_of_ble_eq_true rfl) dX4_account_50
        · by_cases h_8 : b = 3
          · refine q_tsi (tgt := 51) X hb dX4_account_7 (by omega) (by omega) (by rw [h_8]; rfl) (by decide) ?_
            refine lv_aload_n X.1 X.2.1 dX4_account_51 rfl (lv_at hl 0 rfl) ?_
            refine q_get (index := 178) (v := .long (jI (C 3 5 ((a - 1).toNat)))) X hP 3 5 ((a - 1).toNat) rfl rfl (by decide) in3 (show (a - 1).toNat < n 3 by omega) (by decide) (by decide +kernel) rfl dX4_account_52 ?_
            have f_9 := c_R3 hR 5 ((a - 1).toNat) (by decide) (by decide)
            refine vx_ret ?_
            exact q_lret X hr hlocks hP hS (Or.inr (Or.inr (Or.inr (⟨h_1, h_2, h_4, h_6, h_8, rfl, rfl⟩)))) (Nat.le_of_ble_eq_true rfl) (Nat.le_of_ble_eq_true rfl) dX4_account_55
          · refine q_tso (tgt := 56) X hb dX4_account_7 (by omega) (by decide) ?_
            exact q_throw X htr hnx hlocks (cls := "java/lang/IndexOutOfBoundsException") (ik := 163) (ic := 165) (by decide) (by decide +kernel) (by decide +kernel) (by decide +kernel) xb_165 xg_163_165 hP hS hl.1 dX4_account_56 dX4_account_59 dX4_account_60 dX4_account_63 (Nat.le_of_ble_eq_true rfl) (Nat.le_of_ble_eq_true rfl) (Nat.le_of_ble_eq_true rfl) (Nat.le_of_ble_eq_true rfl) (Or.inr (⟨rfl, h_1, h_2, h_4, h_6, h_8⟩)) (Nat.le_of_ble_eq_true rfl) (Nat.le_of_ble_eq_true rfl)
def tX4_printer (n : Nat → Nat) (ad : Nat → Nat → Nat) (C : q_S) (a b : Int) (r : Int32) (u : q_U) : Prop :=
  (∃ (ad1 : Nat → Nat → Nat), ((0) ≤ a ∧ a ≤ (7)) ∧ ((1) ≤ b ∧ b ≤ (2)) ∧ ((C 4 3 0) < (8)) ∧ (∀ k j, ¬ (k = 2 ∧ j = n 2) → ad1 k j = ad k j) ∧ u = (q_bump n 2, ad1, q_up (q_up (q_up (q_up (q_up C 2 0 ((n 2)) ((((C 4 3 0) + (1))))) 2 2 ((n 2)) a) 2 1 ((n 2)) b) 6 (((C 4 3 0)).toNat) 0 (((n 2 : Nat) : Int) + 1)) 4 3 0 (((C 4 3 0) + (1)))) ∧ r = iI ((C 4 3 0) + (1)))
def xX4_printer (n : Nat → Nat) (C : q_S) (a b : Int) (E : String) : Prop :=
  (E = "java/lang/UnsupportedOperationException" ∧ ((0) ≤ a ∧ a ≤ (7)) ∧ ((1) ≤ b ∧ b ≤ (2)) ∧ ((8) ≤ (C 4 3 0))) ∨
  (E = "java/lang/IllegalArgumentException" ∧ ((0) ≤ a ∧ a ≤ (7)) ∧ (¬ ((1) ≤ b ∧ b ≤ (2)))) ∨
  (E = "java/lang/IllegalArgumentException" ∧ (¬ ((0) ≤ a ∧ a ≤ (7))))
set_option maxHeartbeats 4000000 in
set_option maxRecDepth 100000 in
theorem c_X4_printer (l : Launch) (htr : l.stackTraces = false) (g : q_G) (s0 : Nat) (n : Nat → Nat) (ad : Nat → Nat → Nat) (C : q_S) (c0 : Nat) (hC : c_S C n) (hR : c_R C n c0) (hc0 : c0 ≤ 511) (a b : Int) (ha : R32 a) (hb : R32 b)  : vx_Met l yX4_printer wsX4_printer ({ frames := 6, cells := 1, slots := 6, locals := 90 }) (va_Pc [.ref (ad 4 0), .int (iI a), .int (iI b)] (q_B g s0 (n, ad, C))) (va_Qi (tX4_printer n ad C a b) (q_B g s0) (q_A s0)) (q_XC g s0 (n, ad, C) (xX4_printer n C a b)) 1 6 (q_A s0) := by
  refine vx_ofW (cc := cX4_printer) (maxL := 3) (ret := (some .int)) (by decide) rfl ?_
  intro p e s m args below meth c s₁ B hml hnx hv
  obtain ⟨rfl, hv⟩ := hv
  have hr := B.returns
  have hlocks := B.notSynchronized
  obtain ⟨X, hP⟩ := q_start B.exec B.bytes hml (show s.vm.findClass RX4 = some m.cls from findClass_of_methodNamed B.named) (atoms_spec (ws := wsX4_printer) B.pre) hv
  have hP : q_P g s0 n ad C s.heap := hP
  have hS : va_S (q_A s0) s.heap s.heap [] := va_S.rf
  have in2 : ∀ w ∈ wsX20, w ∈ wsX4_printer := by decide +kernel
  have in4 : ∀ w ∈ wsX40, w ∈ wsX4_printer := by decide +kernel
  have f0 := c_Rp hR
  have hl := lv_entry ([.ref (ad 4 0), .int (iI a), .int (iI b)]) (n := 3) (Nat.le_of_ble_eq_true rfl)
  rw [lg_entry_eq]
  generalize (lg_sl ([.ref (ad 4 0), .int (iI a), .int (iI b)]) ++ List.replicate (3 - (lg_sl ([.ref (ad 4 0), .int (iI a), .int (iI b)])).length) Slot.unset).toArray = ls at hl ⊢
  have hl : lv_has ls 3 [(0, .ref (ad 4 0)), (1, .int (iI a)), (2, .int (iI b))] := hl
  refine lv_iload_n X.1 X.2.1 dX4_printer_0 rfl (lv_at hl 1 rfl) ?_
  refine lv_iconst (v := iI (0)) X.1 X.2.1 dX4_printer_1 rfl ?_
  refine lv_bipush (v := iI (7)) X.1 X.2.1 dX4_printer_2 (by decide) ?_
  refine va_calli (va_runS (As := [.int (iI a), .int (iI (0)), .int (iI (7))]) (rest := []) X.fix (c_X4_isWithin l g s0 n ad C a (0) (7) ha (by decide) (by decide)) (va_cwS 3 X.2.2.2.2.1 gX4_printer_X4_isWithin rfl rfl rfl (by decide +kernel) ⟨Nat.le_of_ble_eq_true rfl, Nat.le_of_ble_eq_true rfl⟩) (q_preS X hP hS _) rfl rfl hl.1 rfl (lv_room (Nat.le_of_ble_eq_true rfl)) dX4_printer_4 ⟨Nat.le_of_ble_eq_true rfl, Nat.le_of_ble_eq_true rfl⟩) hS q_id q_id1 (fun r u t H locs ht hvm hw hB hz1 hk1 hS => ?_)
  obtain ⟨rfl, ⟨h_1, rfl⟩ | ⟨h_1, rfl⟩⟩ := hw
  · have hP : q_P g s0 n ad (C) H := q_back hB ht
    have h_1 : (0) ≤ a ∧ a ≤ (7) := h_1
    refine q_if_eq (tgt := 19) X (by decide) dX4_printer_7 (by decide) (fun h => absurd h (by decide)) (fun _ => ?_)
    refine lv_iload_n X.1 X.2.1 dX4_printer_10 rfl (lv_at hl 2 rfl) ?_
    refine lv_iconst (v := iI (1)) X.1 X.2.1 dX4_printer_11 rfl ?_
    refine lv_iconst (v := iI (2)) X.1 X.2.1 dX4_printer_12 rfl ?_
    refine va_calli (va_runS (As := [.int (iI b), .int (iI (1)), .int (iI (2))]) (rest := []) X.fix (c_X4_isWithin l g s0 n ad C b (1) (2) hb (by decide) (by decide)) (va_cwS 3 X.2.2.2.2.1 gX4_printer_X4_isWithin rfl rfl rfl (by decide +kernel) ⟨Nat.le_of_ble_eq_true rfl, Nat.le_of_ble_eq_true rfl⟩) (q_preS X hP hS _) rfl rfl hl.1 rfl (lv_room (Nat.le_of_ble_eq_true rfl)) dX4_printer_13 ⟨Nat.le_of_ble_eq_true rfl, Nat.le_of_ble_eq_true rfl⟩) hS q_id q_id1 (fun r u t H locs ht hvm hw hB hz1 hk1 hS => ?_)
    obtain ⟨rfl, ⟨h_3, rfl⟩ | ⟨h_3, rfl⟩⟩ := hw
    · have hP : q_P g s0 n ad (C) H := q_back hB ht
      have h_3 : (1) ≤ b ∧ b ≤ (2) := h_3
      refine q_if_ne (tgt := 27) X (by decide) dX4_printer_16 (by decide) (fun _ => ?_) (fun h => absurd h (by decide))
      refine lv_aload_n X.1 X.2.1 dX4_printer_27 rfl (lv_at hl 0 rfl) ?_
      refine q_get (index := 45) (v := .int (iI (C 4 3 0))) X hP 4 3 0 rfl rfl (by decide) in4 (c_v4 hC) (by decide) (by decide +kernel) rfl dX4_printer_28 ?_
      have f_5 := c_Rp hR
      refine lv_aload_n X.1 X.2.1 dX4_printer_31 rfl (lv_at hl 0 rfl) ?_
      refine q_get (index := 11) (v := .ref (ad 6 0)) X hP 4 0 0 rfl rfl (by decide) in4 (c_v4 hC) (by decide) (by decide +kernel) (c_r hC ad 0 6 (by decide)) dX4_printer_32 ?_
      refine q_len (z := 8) X hP 6 0 3 (by decide) rfl rfl (c_va hC 0 6 (by decide)) rfl dX4_printer_35 ?_
      refine q_icmp_lt (tgt := 47) X (hP.tok 4 3 0 rfl) (by decide) dX4_printer_36 (by decide) (fun h_6 => ?_) (fun h_6 => ?_)
      · refine lv_aload_n X.1 X.2.1 dX4_printer_47 rfl (lv_at hl 0 rfl) ?_
        refine q_get (index := 11) (v := .ref (ad 6 0)) X hP 4 0 0 rfl rfl (by decide) in4 (c_v4 hC) (by decide) (by decide +kernel) (c_r hC ad 0 6 (by decide)) dX4_printer_48 ?_
        refine lv_aload_n X.1 X.2.1 dX4_printer_51 rfl (lv_at hl 0 rfl) ?_
        refine q_get (index := 45) (v := .int (iI (C 4 3 0))) X hP 4 3 0 rfl rfl (by decide) in4 (c_v4 hC) (by decide) (by decide +kernel) rfl dX4_printer_52 ?_
        refine q_new (index := 9) X hP hS 2 rfl rfl (by decide) in2 tyX2 tyX2_ok (by decide +kernel) (by decide +kernel) (by decide +kernel) (q_hz2 _) (Nat.le_of_ble_eq_true rfl) (Nat.le_of_ble_eq_true rfl) dX4_printer_55 (fun ad1 H hpr1 hP hS => ?_)
        have e_7 : ad 6 0 = ad1 6 0 := (hpr1 6 0 (fun q => absurd q.1 (by decide))).symm
        have e_8 : ad 4 0 = ad1 4 0 := (hpr1 4 0 (fun q => absurd q.1 (by decide))).symm
        have hl : lv_has ls 3 [(0, .ref (ad1 4 0)), (1, .int (iI a)), (2, .int (iI b))] := lv_cong hl (lv_cs (congrArg Value.ref e_8) (lv_cs rfl (lv_cs rfl rfl)))
        have hpr1 : ∀ k j, ¬ (k = 2 ∧ j = n 2) → ad1 k j = ad k j := hpr1
        refine W.eq (g2 := F0 m 58 ls [.ref (ad1 2 (n 2)), .int (iI (C 4 3 0)), .ref (ad1 6 0)]) (by rw [e_7]; first | done | rfl) ?_
        have hP : q_P g s0 (q_bump n 2) ad1 (C) H := hP
        refine lv_dup X.1 X.2.1 dX4_printer_58 rfl ?_
        refine lv_aload_n X.1 X.2.1 dX4_printer_59 rfl (lv_at hl 0 rfl) ?_
        refine q_get (index := 45) (v := .int (iI (C 4 3 0))) X hP 4 3 0 rfl rfl (by decide) in4 (Nat.lt_of_lt_of_le (c_v4 hC) (q_bump_le n 2 4)) (by decide) (by decide +kernel) rfl dX4_printer_60 ?_
        refine lv_iconst (v := iI (1)) X.1 X.2.1 dX4_printer_63 rfl ?_
        refine q_iadd X dX4_printer_64 ?_
        refine lv_iload_n X.1 X.2.1 dX4_printer_65 rfl (lv_at hl 1 rfl) ?_
        refine lv_iload_n X.1 X.2.1 dX4_printer_66 rfl (lv_at hl 2 rfl) ?_
        refine va_callv (va_runI (As := [.int (iI ((C 4 3 0) + (1))), .int (iI a), .int (iI b)]) (rest := [.ref (ad1 2 (n 2)), .int (iI (C 4 3 0)), .ref (ad1 6 0)]) X.fix (c_X2_init l g s0 (q_bump n 2) ad1 C (n 2) (q_new_lt n 2) ((C 4 3 0) + (1)) a b (by omega) ha hb) (cwI 3 X.2.2.2.2.1 gX4_printer_X2_init rfl rfl rfl (X.2.2.2.2.1 (.initialized RX2) (by decide +kernel)) (X.2.2.2.2.1 (.methodLink RX4 51 yX2_init) (by decide +kernel)) (X.2.2.2.2.1 (.instanceMethod yX2_init) (by decide +kernel)) rfl (by decide +kernel) ⟨Nat.le_of_ble_eq_true rfl, Nat.le_of_ble_eq_true rfl⟩) (q_preS X hP hS _) rfl rfl hl.1 rfl (lv_room (Nat.le_of_ble_eq_true rfl)) dX4_printer_67 ⟨Nat.le_of_ble_eq_true rfl, Nat.le_of_ble_eq_true rfl⟩) hS q_id q_id1 (fun u t H locs ht hvm hw hB hz1 hk1 hS => ?_)
        have hw : u = (q_bump n 2, ad1, q_up (q_up (q_up C 2 0 ((n 2)) ((((C 4 3 0) + (1))))) 2 2 ((n 2)) a) 2 1 ((n 2)) b) := hw
        subst hw
        have hP : q_P g s0 (q_bump n 2) ad1 (q_up (q_up (q_up C 2 0 ((n 2)) ((((C 4 3 0) + (1))))) 2 2 ((n 2)) a) 2 1 ((n 2)) b) H := q_back hB ht
        refine q_ast (len := 8) (z := (C 4 3 0)) X hP hS 6 0 2 (n 2) 3 (by decide) rfl (by decide) rfl rfl rfl (Nat.lt_of_lt_of_le (c_va hC 0 6 (by decide)) (q_bump_le n 2 6)) (q_new_lt n 2) rfl (by omega) (by omega) dX4_printer_70 (fun H locs hP hS => ?_)
        have hP : q_P g s0 (q_bump n 2) ad1 (q_up (q_up (q_up (q_up C 2 0 ((n 2)) ((((C 4 3 0) + (1))))) 2 2 ((n 2)) a) 2 1 ((n 2)) b) 6 (((C 4 3 0)).toNat) 0 (((n 2 : Nat) : Int) + 1)) H := hP
        refine lv_aload_n X.1 X.2.1 dX4_printer_71 rfl (lv_at hl 0 rfl) ?_
        refine lv_dup X.1 X.2.1 dX4_printer_72 rfl ?_
        refine q_get (index := 45) (v := .int (iI (C 4 3 0))) X hP 4 3 0 rfl rfl (by decide) in4 (Nat.lt_of_lt_of_le (c_v4 hC) (q_bump_le n 2 4)) (by decide) (by decide +kernel) rfl dX4_printer_73 ?_
        refine lv_iconst (v := iI (1)) X.1 X.2.1 dX4_printer_76 rfl ?_
        refine q_iadd X dX4_printer_77 ?_
        refine q_put (index := 45) (v := .int (iI ((C 4 3 0) + (1)))) X hP hS 4 3 0 (((C 4 3 0) + (1))) rfl rfl (by decide) in4 tyX4 tyX4_ok nmX4 (Nat.lt_of_lt_of_le (c_v4 hC) (q_bump_le n 2 4)) (by decide) (by decide +kernel) rfl rfl rfl rfl (show R32 _ from (by omega)) dX4_printer_78 (fun H locs hP hS => ?_)
        have hP : q_P g s0 (q_bump n 2) ad1 (q_up (q_up (q_up (q_up (q_up C 2 0 ((n 2)) ((((C 4 3 0) + (1))))) 2 2 ((n 2)) a) 2 1 ((n 2)) b) 6 (((C 4 3 0)).toNat) 0 (((n 2 : Nat) : Int) + 1)) 4 3 0 (((C 4 3 0) + (1)))) H := hP
        refine lv_aload_n X.1 X.2.1 dX4_printer_81 rfl (lv_at hl 0 rfl) ?_
        refine q_get (index := 45) (v := .int (iI ((C 4 3 0) + (1)))) X hP 4 3 0 rfl rfl (by decide) in4 (Nat.lt_of_lt_of_le (c_v4 hC) (q_bump_le n 2 4)) (by decide) (by decide +kernel) rfl dX4_printer_82 ?_
        refine vx_ret ?_
        exact q_iret X hr hlocks hP hS (⟨ad1, h_1, h_3, h_6, hpr1, rfl, rfl⟩) (Nat.le_of_ble_eq_true rfl) (Nat.le_of_ble_eq_true rfl) dX4_printer_85
      · exact q_throw X htr hnx hlocks (cls := "java/lang/UnsupportedOperationException") (ik := 48) (ic := 50) (by decide) (by decide +kernel) (by decide +kernel) (by decide +kernel) xb_50 xg_48_50 hP hS hl.1 dX4_printer_39 dX4_printer_42 dX4_printer_43 dX4_printer_46 (Nat.le_of_ble_eq_true rfl) (Nat.le_of_ble_eq_true rfl) (Nat.le_of_ble_eq_true rfl) (Nat.le_of_ble_eq_true rfl) (Or.inl (⟨rfl, h_1, h_3, h_6⟩)) (Nat.le_of_ble_eq_true rfl) (Nat.le_of_ble_eq_true rfl)
    · have hP : q_P g s0 n ad (C) H := q_back hB ht
      have h_3 : ¬ ((1) ≤ b ∧ b ≤ (2)) := h_3
      refine q_if_ne (tgt := 27) X (by decide) dX4_printer_16 (by decide) (fun h => absurd h (by decide)) (fun _ => ?_)
      exact q_throw X htr hnx hlocks (cls := "java/lang/IllegalArgumentException") (ik := 42) (ic := 44) (by decide) (by decide +kernel) (by decide +kernel) (by decide +kernel) xb_44 xg_42_44 hP hS hl.1 dX4_printer_19 dX4_printer_22 dX4_printer_23 dX4_printer_26 (Nat.le_of_ble_eq_true rfl) (Nat.le_of_ble_eq_true rfl) (Nat.le_of_ble_eq_true rfl) (Nat.le_of_ble_eq_true rfl) (Or.inr (Or.inl (⟨rfl, h_1, h_3⟩))) (Nat.le_of_ble_eq_true rfl) (Nat.le_of_ble_eq_true rfl)
  · have hP : q_P g s0 n ad (C) H := q_back hB ht
    have h_1 : ¬ ((0) ≤ a ∧ a ≤ (7)) := h_1
    refine q_if_eq (tgt := 19) X (by decide) dX4_printer_7 (by decide) (fun _ => ?_) (fun h => absurd h (by decide))
    exact q_throw X htr hnx hlocks (cls := "java/lang/IllegalArgumentException") (ik := 42) (ic := 44) (by decide) (by decide +kernel) (by decide +kernel) (by decide +kernel) xb_44 xg_42_44 hP hS hl.1 dX4_printer_19 dX4_printer_22 dX4_printer_23 dX4_printer_26 (Nat.le_of_ble_eq_true rfl) (Nat.le_of_ble_eq_true rfl) (Nat.le_of_ble_eq_true rfl) (Nat.le_of_ble_eq_true rfl) (Or.inr (Or.inr (⟨rfl, h_1⟩))) (Nat.le_of_ble_eq_true rfl) (Nat.le_of_ble_eq_true rfl)
def tX4_ticket (n : Nat → Nat) (ad : Nat → Nat → Nat) (C : q_S) (a b d : Int) (r : Int32) (u : q_U) : Prop :=
  (∃ (ad1 : Nat → Nat → Nat), ((0) ≤ a ∧ a ≤ (7)) ∧ ((1) ≤ b ∧ b ≤ (2)) ∧ ((0) ≤ d ∧ d ≤ (3)) ∧ ((C 4 4 0) < (20)) ∧ (∀ k j, ¬ (k = 3 ∧ j = n 3) → ad1 k j = ad k j) ∧ u = (q_bump n 3, ad1, q_up (q_up (q_up (q_up C 3 0 ((n 3)) a) 3 1 ((n 3)) b) 7 (((C 4 4 0)).toNat) 0 (((n 3 : Nat) : Int) + 1)) 4 4 0 (((C 4 4 0) + (1)))) ∧ r = iI ((C 4 4 0) + (1)))
def xX4_ticket (n : Nat → Nat) (C : q_S) (a b d : Int) (E : String) : Prop :=
  (E = "java/lang/UnsupportedOperationException" ∧ ((0) ≤ a ∧ a ≤ (7)) ∧ ((1) ≤ b ∧ b ≤ (2)) ∧ ((0) ≤ d ∧ d ≤ (3)) ∧ ((20) ≤ (C 4 4 0))) ∨
  (E = "java/lang/IllegalArgumentException" ∧ ((0) ≤ a ∧ a ≤ (7)) ∧ ((1) ≤ b ∧ b ≤ (2)) ∧ (¬ ((0) ≤ d ∧ d ≤ (3)))) ∨
  (E = "java/lang/IllegalArgumentException" ∧ ((0) ≤ a ∧ a ≤ (7)) ∧ (¬ ((1) ≤ b ∧ b ≤ (2)))) ∨
  (E = "java/lang/IllegalArgumentException" ∧ (¬ ((0) ≤ a ∧ a ≤ (7))))
set_option maxHeartbeats 4000000 in
set_option maxRecDepth 100000 in
theorem c_X4_ticket (l : Launch) (htr : l.stackTraces = false) (g : q_G) (s0 : Nat) (n : Nat → Nat) (ad : Nat → Nat → Nat) (C : q_S) (c0 : Nat) (hC : c_S C n) (hR : c_R C n c0) (hc0 : c0 ≤ 511) (a b d : Int) (ha : R32 a) (hb : R32 b) (hd : R32 d)  : vx_Met l yX4_ticket wsX4_ticket ({ frames := 6, cells := 1, slots := 6, locals := 90 }) (va_Pc [.ref (ad 4 0), .int (iI a), .int (iI b), .int (iI d)] (q_B g s0 (n, ad, C))) (va_Qi (tX4_ticket n ad C a b d) (q_B g s0) (q_A s0)) (q_XC g s0 (n, ad, C) (xX4_ticket n C a b d)) 1 6 (q_A s0) := by
  refine vx_ofW (cc := cX4_ticket) (maxL := 4) (ret := (some .int)) (by decide) rfl ?_
  intro p e s m args below meth c s₁ B hml hnx hv
  obtain ⟨rfl, hv⟩ := hv
  have hr := B.returns
  have hlocks := B.notSynchronized
  obtain ⟨X, hP⟩ := q_start B.exec B.bytes hml (show s.vm.findClass RX4 = some m.cls from findClass_of_methodNamed B.named) (atoms_spec (ws := wsX4_ticket) B.pre) hv
  have hP : q_P g s0 n ad C s.heap := hP
  have hS : va_S (q_A s0) s.heap s.heap [] := va_S.rf
  have in3 : ∀ w ∈ wsX30, w ∈ wsX4_ticket := by decide +kernel
  have in4 : ∀ w ∈ wsX40, w ∈ wsX4_ticket := by decide +kernel
  have f0 := c_Rt hR
  have hl := lv_entry ([.ref (ad 4 0), .int (iI a), .int (iI b), .int (iI d)]) (n := 4) (Nat.le_of_ble_eq_true rfl)
  rw [lg_entry_eq]
  generalize (lg_sl ([.ref (ad 4 0), .int (iI a), .int (iI b), .int (iI d)]) ++ List.replicate (4 - (lg_sl ([.ref (ad 4 0), .int (iI a), .int (iI b), .int (iI d)])).length) Slot.unset).toArray = ls at hl ⊢
  have hl : lv_has ls 4 [(0, .ref (ad 4 0)), (1, .int (iI a)), (2, .int (iI b)), (3, .int (iI d))] := hl
  refine lv_iload_n X.1 X.2.1 dX4_ticket_0 rfl (lv_at hl 1 rfl) ?_
  refine lv_iconst (v := iI (0)) X.1 X.2.1 dX4_ticket_1 rfl ?_
  refine lv_bipush (v := iI (7)) X.1 X.2.1 dX4_ticket_2 (by decide) ?_
  refine va_calli (va_runS (As := [.int (iI a), .int (iI (0)), .int (iI (7))]) (rest := []) X.fix (c_X4_isWithin l g s0 n ad C a (0) (7) ha (by decide) (by decide)) (va_cwS 3 X.2.2.2.2.1 gX4_ticket_X4_isWithin rfl rfl rfl (by decide +kernel) ⟨Nat.le_of_ble_eq_true rfl, Nat.le_of_ble_eq_true rfl⟩) (q_preS X hP hS _) rfl rfl hl.1 rfl (lv_room (Nat.le_of_ble_eq_true rfl)) dX4_ticket_4 ⟨Nat.le_of_ble_eq_true rfl, Nat.le_of_ble_eq_true rfl⟩) hS q_id q_id1 (fun r u t H locs ht hvm hw hB hz1 hk1 hS => ?_)
  obtain ⟨rfl, ⟨h_1, rfl⟩ | ⟨h_1, rfl⟩⟩ := hw
  · have hP : q_P g s0 n ad (C) H := q_back hB ht
    have h_1 : (0) ≤ a ∧ a ≤ (7) := h_1
    refine q_if_eq (tgt := 28) X (by decide) dX4_ticket_7 (by decide) (fun h => absurd h (by decide)) (fun _ => ?_)
    refine lv_iload_n X.1 X.2.1 dX4_ticket_10 rfl (lv_at hl 2 rfl) ?_
    refine lv_iconst (v := iI (1)) X.1 X.2.1 dX4_ticket_11 rfl ?_
    refine lv_iconst (v := iI (2)) X.1 X.2.1 dX4_ticket_12 rfl ?_
    refine va_calli (va_runS (As := [.int (iI b), .int (iI (1)), .int (iI (2))]) (rest := []) X.fix (c_X4_isWithin l g s0 n ad C b (1) (2) hb (by decide) (by decide)) (va_cwS 3 X.2.2.2.2.1 gX4_ticket_X4_isWithin rfl rfl rfl (by decide +kernel) ⟨Nat.le_of_ble_eq_true rfl, Nat.le_of_ble_eq_true rfl⟩) (q_preS X hP hS _) rfl rfl hl.1 rfl (lv_room (Nat.le_of_ble_eq_true rfl)) dX4_ticket_13 ⟨Nat.le_of_ble_eq_true rfl, Nat.le_of_ble_eq_true rfl⟩) hS q_id q_id1 (fun r u t H locs ht hvm hw hB hz1 hk1 hS => ?_)
    obtain ⟨rfl, ⟨h_3, rfl⟩ | ⟨h_3, rfl⟩⟩ := hw
    · have hP : q_P g s0 n ad (C) H := q_back hB ht
      have h_3 : (1) ≤ b ∧ b ≤ (2) := h_3
      refine q_if_eq (tgt := 28) X (by decide) dX4_ticket_16 (by decide) (fun h => absurd h (by decide)) (fun _ => ?_)
      refine lv_iload_n X.1 X.2.1 dX4_ticket_19 rfl (lv_at hl 3 rfl) ?_
      refine lv_iconst (v := iI (0)) X.1 X.2.1 dX4_ticket_20 rfl ?_
      refine lv_iconst (v := iI (3)) X.1 X.2.1 dX4_ticket_21 rfl ?_
      refine va_calli (va_runS (As := [.int (iI d), .int (iI (0)), .int (iI (3))]) (rest := []) X.fix (c_X4_isWithin l g s0 n ad C d (0) (3) hd (by decide) (by decide)) (va_cwS 3 X.2.2.2.2.1 gX4_ticket_X4_isWithin rfl rfl rfl (by decide +kernel) ⟨Nat.le_of_ble_eq_true rfl, Nat.le_of_ble_eq_true rfl⟩) (q_preS X hP hS _) rfl rfl hl.1 rfl (lv_room (Nat.le_of_ble_eq_true rfl)) dX4_ticket_22 ⟨Nat.le_of_ble_eq_true rfl, Nat.le_of_ble_eq_true rfl⟩) hS q_id q_id1 (fun r u t H locs ht hvm hw hB hz1 hk1 hS => ?_)
      obtain ⟨rfl, ⟨h_5, rfl⟩ | ⟨h_5, rfl⟩⟩ := hw
      · have hP : q_P g s0 n ad (C) H := q_back hB ht
        have h_5 : (0) ≤ d ∧ d ≤ (3) := h_5
        refine q_if_ne (tgt := 36) X (by decide) dX4_ticket_25 (by decide) (fun _ => ?_) (fun h => absurd h (by decide))
        refine lv_aload_n X.1 X.2.1 dX4_ticket_36 rfl (lv_at hl 0 rfl) ?_
        refine q_get (index := 54) (v := .int (iI (C 4 4 0))) X hP 4 4 0 rfl rfl (by decide) in4 (c_v4 hC) (by decide) (by decide +kernel) rfl dX4_ticket_37 ?_
        have f_7 := c_Rt hR
        refine lv_aload_n X.1 X.2.1 dX4_ticket_40 rfl (lv_at hl 0 rfl) ?_
        refine q_get (index := 17) (v := .ref (ad 7 0)) X hP 4 1 0 rfl rfl (by decide) in4 (c_v4 hC) (by decide) (by decide +kernel) (c_r hC ad 1 7 (by decide)) dX4_ticket_41 ?_
        refine q_len (z := 20) X hP 7 0 4 (by decide) rfl rfl (c_va hC 1 7 (by decide)) rfl dX4_ticket_44 ?_
        refine q_icmp_lt (tgt := 56) X (hP.tok 4 4 0 rfl) (by decide) dX4_ticket_45 (by decide) (fun h_8 => ?_) (fun h_8 => ?_)
        · refine lv_aload_n X.1 X.2.1 dX4_ticket_56 rfl (lv_at hl 0 rfl) ?_
          refine q_get (index := 17) (v := .ref (ad 7 0)) X hP 4 1 0 rfl rfl (by decide) in4 (c_v4 hC) (by decide) (by decide +kernel) (c_r hC ad 1 7 (by decide)) dX4_ticket_57 ?_
          refine lv_aload_n X.1 X.2.1 dX4_ticket_60 rfl (lv_at hl 0 rfl) ?_
          refine q_get (index := 54) (v := .int (iI (C 4 4 0))) X hP 4 4 0 rfl rfl (by decide) in4 (c_v4 hC) (by decide) (by decide +kernel) rfl dX4_ticket_61 ?_
          refine q_new (index := 15) X hP hS 3 rfl rfl (by decide) in3 tyX3 tyX3_ok (by decide +kernel) (by decide +kernel) (by decide +kernel) (q_hz3 _) (Nat.le_of_ble_eq_true rfl) (Nat.le_of_ble_eq_true rfl) dX4_ticket_64 (fun ad1 H hpr1 hP hS => ?_)
          have e_9 : ad 7 0 = ad1 7 0 := (hpr1 7 0 (fun q => absurd q.1 (by decide))).symm
          have e_10 : ad 4 0 = ad1 4 0 := (hpr1 4 0 (fun q => absurd q.1 (by decide))).symm
          have hl : lv_has ls 4 [(0, .ref (ad1 4 0)), (1, .int (iI a)), (2, .int (iI b)), (3, .int (iI d))] := lv_cong hl (lv_cs (congrArg Value.ref e_10) (lv_cs rfl (lv_cs rfl (lv_cs rfl rfl))))
          have hpr1 : ∀ k j, ¬ (k = 3 ∧ j = n 3) → ad1 k j = ad k j := hpr1
          refine W.eq (g2 := F0 m 67 ls [.ref (ad1 3 (n 3)), .int (iI (C 4 4 0)), .ref (ad1 7 0)]) (by rw [e_9]; first | done | rfl) ?_
          have hP : q_P g s0 (q_bump n 3) ad1 (C) H := hP
          refine lv_dup X.1 X.2.1 dX4_ticket_67 rfl ?_
          refine lv_iload_n X.1 X.2.1 dX4_ticket_68 rfl (lv_at hl 1 rfl) ?_
          refine lv_iload_n X.1 X.2.1 dX4_ticket_69 rfl (lv_at hl 2 rfl) ?_
          refine va_callv (va_runI (As := [.int (iI a), .int (iI b)]) (rest := [.ref (ad1 3 (n 3)), .int (iI (C 4 4 0)), .ref (ad1 7 0)]) X.fix (c_X3_init l g s0 (q_bump n 3) ad1 C (n 3) (q_new_lt n 3) a b ha hb) (cwI 2 X.2.2.2.2.1 gX4_ticket_X3_init rfl rfl rfl (X.2.2.2.2.1 (.initialized RX3) (by decide +kernel)) (X.2.2.2.2.1 (.methodLink RX4 57 yX3_init) (by decide +kernel)) (X.2.2.2.2.1 (.instanceMethod yX3_init) (by decide +kernel)) rfl (by decide +kernel) ⟨Nat.le_of_ble_eq_true rfl, Nat.le_of_ble_eq_true rfl⟩) (q_preS X hP hS _) rfl rfl hl.1 rfl (lv_room (Nat.le_of_ble_eq_true rfl)) dX4_ticket_70 ⟨Nat.le_of_ble_eq_true rfl, Nat.le_of_ble_eq_true rfl⟩) hS q_id q_id1 (fun u t H locs ht hvm hw hB hz1 hk1 hS => ?_)
          have hw : u = (q_bump n 3, ad1, q_up (q_up C 3 0 ((n 3)) a) 3 1 ((n 3)) b) := hw
          subst hw
          have hP : q_P g s0 (q_bump n 3) ad1 (q_up (q_up C 3 0 ((n 3)) a) 3 1 ((n 3)) b) H := q_back hB ht
          refine q_ast (len := 20) (z := (C 4 4 0)) X hP hS 7 0 3 (n 3) 4 (by decide) rfl (by decide) rfl rfl rfl (Nat.lt_of_lt_of_le (c_va hC 1 7 (by decide)) (q_bump_le n 3 7)) (q_new_lt n 3) rfl (by omega) (by omega) dX4_ticket_73 (fun H locs hP hS => ?_)
          have hP : q_P g s0 (q_bump n 3) ad1 (q_up (q_up (q_up C 3 0 ((n 3)) a) 3 1 ((n 3)) b) 7 (((C 4 4 0)).toNat) 0 (((n 3 : Nat) : Int) + 1)) H := hP
          refine lv_aload_n X.1 X.2.1 dX4_ticket_74 rfl (lv_at hl 0 rfl) ?_
          refine lv_dup X.1 X.2.1 dX4_ticket_75 rfl ?_
          refine q_get (index := 54) (v := .int (iI (C 4 4 0))) X hP 4 4 0 rfl rfl (by decide) in4 (Nat.lt_of_lt_of_le (c_v4 hC) (q_bump_le n 3 4)) (by decide) (by decide +kernel) rfl dX4_ticket_76 ?_
          refine lv_iconst (v := iI (1)) X.1 X.2.1 dX4_ticket_79 rfl ?_
          refine q_iadd X dX4_ticket_80 ?_
          refine q_put (index := 54) (v := .int (iI ((C 4 4 0) + (1)))) X hP hS 4 4 0 (((C 4 4 0) + (1))) rfl rfl (by decide) in4 tyX4 tyX4_ok nmX4 (Nat.lt_of_lt_of_le (c_v4 hC) (q_bump_le n 3 4)) (by decide) (by decide +kernel) rfl rfl rfl rfl (show R32 _ from (by omega)) dX4_ticket_81 (fun H locs hP hS => ?_)
          have hP : q_P g s0 (q_bump n 3) ad1 (q_up (q_up (q_up (q_up C 3 0 ((n 3)) a) 3 1 ((n 3)) b) 7 (((C 4 4 0)).toNat) 0 (((n 3 : Nat) : Int) + 1)) 4 4 0 (((C 4 4 0) + (1)))) H := hP
          refine lv_aload_n X.1 X.2.1 dX4_ticket_84 rfl (lv_at hl 0 rfl) ?_
          refine q_get (index := 54) (v := .int (iI ((C 4 4 0) + (1)))) X hP 4 4 0 rfl rfl (by decide) in4 (Nat.lt_of_lt_of_le (c_v4 hC) (q_bump_le n 3 4)) (by decide) (by decide +kernel) rfl dX4_ticket_85 ?_
          refine vx_ret ?_
          exact q_iret X hr hlocks hP hS (⟨ad1, h_1, h_3, h_5, h_8, hpr1, rfl, rfl⟩) (Nat.le_of_ble_eq_true rfl) (Nat.le_of_ble_eq_true rfl) dX4_ticket_88
        · exact q_throw X htr hnx hlocks (cls := "java/lang/UnsupportedOperationException") (ik := 48) (ic := 50) (by decide) (by decide +kernel) (by decide +kernel) (by decide +kernel) xb_50 xg_48_50 hP hS hl.1 dX4_ticket_48 dX4_ticket_51 dX4_ticket_52 dX4_ticket_55 (Nat.le_of_ble_eq_true rfl) (Nat.le_of_ble_eq_true rfl) (Nat.le_of_ble_eq_true rfl) (Nat.le_of_ble_eq_true rfl) (Or.inl (⟨rfl, h_1, h_3, h_5, h_8⟩)) (Nat.le_of_ble_eq_true rfl) (Nat.le_of_ble_eq_true rfl)
      · have hP : q_P g s0 n ad (C) H := q_back hB ht
        have h_5 : ¬ ((0) ≤ d ∧ d ≤ (3)) := h_5
        refine q_if_ne (tgt := 36) X (by decide) dX4_ticket_25 (by decide) (fun h => absurd h (by decide)) (fun _ => ?_)
        exact q_throw X htr hnx hlocks (cls := "java/lang/IllegalArgumentException") (ik := 42) (ic := 44) (by decide) (by decide +kernel) (by decide +kernel) (by decide +kernel) xb_44 xg_42_44 hP hS hl.1 dX4_ticket_28 dX4_ticket_31 dX4_ticket_32 dX4_ticket_35 (Nat.le_of_ble_eq_true rfl) (Nat.le_of_ble_eq_true rfl) (Nat.le_of_ble_eq_true rfl) (Nat.le_of_ble_eq_true rfl) (Or.inr (Or.inl (⟨rfl, h_1, h_3, h_5⟩))) (Nat.le_of_ble_eq_true rfl) (Nat.le_of_ble_eq_true rfl)
    · have hP : q_P g s0 n ad (C) H := q_back hB ht
      have h_3 : ¬ ((1) ≤ b ∧ b ≤ (2)) := h_3
      refine q_if_eq (tgt := 28) X (by decide) dX4_ticket_16 (by decide) (fun _ => ?_) (fun h => absurd h (by decide))
      exact q_throw X htr hnx hlocks (cls := "java/lang/IllegalArgumentException") (ik := 42) (ic := 44) (by decide) (by decide +kernel) (by decide +kernel) (by decide +kernel) xb_44 xg_42_44 hP hS hl.1 dX4_ticket_28 dX4_ticket_31 dX4_ticket_32 dX4_ticket_35 (Nat.le_of_ble_eq_true rfl) (Nat.le_of_ble_eq_true rfl) (Nat.le_of_ble_eq_true rfl) (Nat.le_of_ble_eq_true rfl) (Or.inr (Or.inr (Or.inl (⟨rfl, h_1, h_3⟩)))) (Nat.le_of_ble_eq_true rfl) (Nat.le_of_ble_eq_true rfl)
  · have hP : q_P g s0 n ad (C) H := q_back hB ht
    have h_1 : ¬ ((0) ≤ a ∧ a ≤ (7)) := h_1
    refine q_if_eq (tgt := 28) X (by decide) dX4_ticket_7 (by decide) (fun _ => ?_) (fun h => absurd h (by decide))
    exact q_throw X htr hnx hlocks (cls := "java/lang/IllegalArgumentException") (ik := 42) (ic := 44) (by decide) (by decide +kernel) (by decide +kernel) (by decide +kernel) xb_44 xg_42_44 hP hS hl.1 dX4_ticket_28 dX4_ticket_31 dX4_ticket_32 dX4_ticket_35 (Nat.le_of_ble_eq_true rfl) (Nat.le_of_ble_eq_true rfl) (Nat.le_of_ble_eq_true rfl) (Nat.le_of_ble_eq_true rfl) (Or.inr (Or.inr (Or.inr (⟨rfl, h_1⟩)))) (Nat.le_of_ble_eq_true rfl) (Nat.le_of_ble_eq_true rfl)
def tX4_job (n : Nat → Nat) (ad : Nat → Nat → Nat) (C : q_S) (a b d f y : Int) (r : Int32) (u : q_U) : Prop :=
  (∃ (ad1 ad2 : Nat → Nat → Nat), (1 ≤ a ∧ a ≤ (n 3 : Int)) ∧ ((1) ≤ b ∧ b ≤ (500)) ∧ ((1) ≤ d ∧ d ≤ (100)) ∧ ((0) ≤ f ∧ f ≤ (9)) ∧ ((0) ≤ y) ∧ ((C 4 5 0) < (60)) ∧ (∀ k j, ¬ (k = 0 ∧ j = n 0) → ad1 k j = ad k j) ∧ (∀ k j, ¬ (k = 1 ∧ j = n 1) → ad2 k j = ad1 k j) ∧ u = (q_bump (q_bump n 0) 1, ad2, q_up (q_up (q_up (q_up (q_up (q_up (q_up (q_up (q_up (q_up (q_up C 0 0 ((n 0)) ((((C 4 5 0) + (1))))) 0 1 ((n 0)) (((((a - 1).toNat) : Nat) : Int) + 1)) 0 2 ((n 0)) b) 0 3 ((n 0)) f) 0 4 ((n 0)) y) 1 0 ((n 1)) ((((n 0) : Nat) : Int) + 1)) 1 1 ((n 1)) (((0)))) 1 2 ((n 1)) d) 0 7 (n 0) (((n 1 : Nat) : Int) + 1)) 8 (((C 4 5 0)).toNat) 0 (((n 0 : Nat) : Int) + 1)) 4 5 0 (((C 4 5 0) + (1)))) ∧ r = iI ((C 4 5 0) + (1)))
def xX4_job (n : Nat → Nat) (C : q_S) (a b d f y : Int) (E : String) : Prop :=
  (x_find (n 3) a E) ∨
  (E = "java/lang/UnsupportedOperationException" ∧ (1 ≤ a ∧ a ≤ (n 3 : Int)) ∧ ((1) ≤ b ∧ b ≤ (500)) ∧ ((1) ≤ d ∧ d ≤ (100)) ∧ ((0) ≤ f ∧ f ≤ (9)) ∧ ((0) ≤ y) ∧ ((60) ≤ (C 4 5 0))) ∨
  (E = "java/lang/IllegalArgumentException" ∧ (1 ≤ a ∧ a ≤ (n 3 : Int)) ∧ ((1) ≤ b ∧ b ≤ (500)) ∧ ((1) ≤ d ∧ d ≤ (100)) ∧ ((0) ≤ f ∧ f ≤ (9)) ∧ (y < (0))) ∨
  (E = "java/lang/IllegalArgumentException" ∧ (1 ≤ a ∧ a ≤ (n 3 : Int)) ∧ ((1) ≤ b ∧ b ≤ (500)) ∧ ((1) ≤ d ∧ d ≤ (100)) ∧ (¬ ((0) ≤ f ∧ f ≤ (9)))) ∨
  (E = "java/lang/IllegalArgumentException" ∧ (1 ≤ a ∧ a ≤ (n 3 : Int)) ∧ ((1) ≤ b ∧ b ≤ (500)) ∧ (¬ ((1) ≤ d ∧ d ≤ (100)))) ∨
  (E = "java/lang/IllegalArgumentException" ∧ (1 ≤ a ∧ a ≤ (n 3 : Int)) ∧ (¬ ((1) ≤ b ∧ b ≤ (500))))
set_option maxHeartbeats 4000000 in
set_option maxRecDepth 100000 in
theorem c_X4_job (l : Launch) (htr : l.stackTraces = false) (g : q_G) (s0 : Nat) (n : Nat → Nat) (ad : Nat → Nat → Nat) (C : q_S) (c0 : Nat) (hC : c_S C n) (hR : c_R C n c0) (hc0 : c0 ≤ 511) (a b d f y : Int) (ha : R32 a) (hb : R32 b) (hd : R32 d) (hf : R32 f) (hy : R64 y)  : vx_Met l yX4_job wsX4_job ({ frames := 7, cells := 3, slots := 21, locals := 112 }) (va_Pc [.ref (ad 4 0), .int (iI a), .int (iI b), .int (iI d), .int (iI f), .long (jI y)] (q_B g s0 (n, ad, C))) (va_Qi (tX4_job n ad C a b d f y) (q_B g s0) (q_A s0)) (q_XC g s0 (n, ad, C) (xX4_job n C a b d f y)) 3 21 (q_A s0) := by
  refine vx_ofW (cc := cX4_job) (maxL := 9) (ret := (some .int)) (by decide) rfl ?_
  intro p e s m args below meth c s₁ B hml hnx hv
  obtain ⟨rfl, hv⟩ := hv
  have hr := B.returns
  have hlocks := B.notSynchronized
  obtain ⟨X, hP⟩ := q_start B.exec B.bytes hml (show s.vm.findClass RX4 = some m.cls from findClass_of_methodNamed B.named) (atoms_spec (ws := wsX4_job) B.pre) hv
  have hP : q_P g s0 n ad C s.heap := hP
  have hS : va_S (q_A s0) s.heap s.heap [] := va_S.rf
  have in0 : ∀ w ∈ wsX00, w ∈ wsX4_job := by decide +kernel
  have in1 : ∀ w ∈ wsX10, w ∈ wsX4_job := by decide +kernel
  have in4 : ∀ w ∈ wsX40, w ∈ wsX4_job := by decide +kernel
  have f0 := c_Rj hR
  have hl := lv_entry ([.ref (ad 4 0), .int (iI a), .int (iI b), .int (iI d), .int (iI f), .long (jI y)]) (n := 9) (Nat.le_of_ble_eq_true rfl)
  rw [lg_entry_eq]
  generalize (lg_sl ([.ref (ad 4 0), .int (iI a), .int (iI b), .int (iI d), .int (iI f), .long (jI y)]) ++ List.replicate (9 - (lg_sl ([.ref (ad 4 0), .int (iI a), .int (iI b), .int (iI d), .int (iI f), .long (jI y)])).length) Slot.unset).toArray = ls at hl ⊢
  have hl : lv_has ls 9 [(0, .ref (ad 4 0)), (1, .int (iI a)), (2, .int (iI b)), (3, .int (iI d)), (4, .int (iI f)), (5, .long (jI y))] := hl
  refine lv_aload_n X.1 X.2.1 dX4_job_0 rfl (lv_at hl 0 rfl) ?_
  refine lv_iload_n X.1 X.2.1 dX4_job_1 rfl (lv_at hl 1 rfl) ?_
  refine vx_callq (vx_runV (As := [.int (iI a)]) (rest := []) X.fix (c_X4_findTicket l htr g s0 n ad C c0 hC hR a ha) (cwV 1 X.2.2.2.2.1 gX4_job_X4_findTicket rfl rfl rfl (by decide +kernel) ⟨Nat.le_of_ble_eq_true rfl, Nat.le_of_ble_eq_true rfl⟩) (q_preV X hP hS [.int (iI a)] (kd := 4) (by decide) rfl (c_v4 hC)) rfl rfl hl.1 rfl (lv_room (Nat.le_of_ble_eq_true rfl)) dX4_job_2 ⟨Nat.le_of_ble_eq_true rfl, Nat.le_of_ble_eq_true rfl⟩) hS q_id q_id1 q_id ?_ (fun r u t H locs ht hvm hw hB hz1 hk1 hS => ?_)
  · intro E ce q9 u t H locs ht hvm hpx hBX hz1 hk1 hS hce hcv hcl
    exact q_xout X hnx hlocks hBX ht hS hce hcv hcl (fun hxe => Or.inl (hxe)) (Nat.le_of_ble_eq_true rfl) (Nat.le_of_ble_eq_true rfl)
  · obtain ⟨rfl, h_1, rfl⟩ := hw
    have hP : q_P g s0 n ad (C) H := q_back hB ht
    rw [show va_rf (some (ad 3 ((a - 1).toNat))) = .ref (ad 3 ((a - 1).toNat)) from rfl]
    refine lv_astore (lv' := [(7, .ref (ad 3 ((a - 1).toNat))), (0, .ref (ad 4 0)), (1, .int (iI a)), (2, .int (iI b)), (3, .int (iI d)), (4, .int (iI f)), (5, .long (jI y))]) X.1 X.2.1 dX4_job_5 hl (by decide) rfl (fun ls hl => ?_)
    refine lv_iload_n X.1 X.2.1 dX4_job_7 rfl (lv_at hl 3 rfl) ?_
    refine lv_iconst (v := iI (1)) X.1 X.2.1 dX4_job_8 rfl ?_
    refine lv_sipush (v := iI (500)) X.1 X.2.1 dX4_job_9 (by decide) ?_
    refine va_calli (va_runS (As := [.int (iI b), .int (iI (1)), .int (iI (500))]) (rest := []) X.fix (c_X4_isWithin l g s0 n ad C b (1) (500) hb (by decide) (by decide)) (va_cwS 3 X.2.2.2.2.1 gX4_job_X4_isWithin rfl rfl rfl (by decide +kernel) ⟨Nat.le_of_ble_eq_true rfl, Nat.le_of_ble_eq_true rfl⟩) (q_preS X hP hS _) rfl rfl hl.1 rfl (lv_room (Nat.le_of_ble_eq_true rfl)) dX4_job_12 ⟨Nat.le_of_ble_eq_true rfl, Nat.le_of_ble_eq_true rfl⟩) hS q_id q_id1 (fun r u t H locs ht hvm hw hB hz1 hk1 hS => ?_)
    obtain ⟨rfl, ⟨h_2, rfl⟩ | ⟨h_2, rfl⟩⟩ := hw
    · have hP : q_P g s0 n ad (C) H := q_back hB ht
      have h_2 : (1) ≤ b ∧ b ≤ (500) := h_2
      refine q_if_eq (tgt := 46) X (by decide) dX4_job_15 (by decide) (fun h => absurd h (by decide)) (fun _ => ?_)
      refine lv_iload_n X.1 X.2.1 dX4_job_18 rfl (lv_at hl 4 rfl) ?_
      refine lv_iconst (v := iI (1)) X.1 X.2.1 dX4_job_19 rfl ?_
      refine lv_bipush (v := iI (100)) X.1 X.2.1 dX4_job_20 (by decide) ?_
      refine va_calli (va_runS (As := [.int (iI d), .int (iI (1)), .int (iI (100))]) (rest := []) X.fix (c_X4_isWithin l g s0 n ad C d (1) (100) hd (by decide) (by decide)) (va_cwS 3 X.2.2.2.2.1 gX4_job_X4_isWithin rfl rfl rfl (by decide +kernel) ⟨Nat.le_of_ble_eq_true rfl, Nat.le_of_ble_eq_true rfl⟩) (q_preS X hP hS _) rfl rfl hl.1 rfl (lv_room (Nat.le_of_ble_eq_true rfl)) dX4_job_22 ⟨Nat.le_of_ble_eq_true rfl, Nat.le_of_ble_eq_true rfl⟩) hS q_id q_id1 (fun r u t H locs ht hvm hw hB hz1 hk1 hS => ?_)
      obtain ⟨rfl, ⟨h_4, rfl⟩ | ⟨h_4, rfl⟩⟩ := hw
      · have hP : q_P g s0 n ad (C) H := q_back hB ht
        have h_4 : (1) ≤ d ∧ d ≤ (100) := h_4
        refine q_if_eq (tgt := 46) X (by decide) dX4_job_25 (by decide) (fun h => absurd h (by decide)) (fun _ => ?_)
        refine lv_iload X.1 X.2.1 dX4_job_28 (lv_at hl 5 rfl) ?_
        refine lv_iconst (v := iI (0)) X.1 X.2.1 dX4_job_30 rfl ?_
        refine lv_bipush (v := iI (9)) X.1 X.2.1 dX4_job_31 (by decide) ?_
        refine va_calli (va_runS (As := [.int (iI f), .int (iI (0)), .int (iI (9))]) (rest := []) X.fix (c_X4_isWithin l g s0 n ad C f (0) (9) hf (by decide) (by decide)) (va_cwS 3 X.2.2.2.2.1 gX4_job_X4_isWithin rfl rfl rfl (by decide +kernel) ⟨Nat.le_of_ble_eq_true rfl, Nat.le_of_ble_eq_true rfl⟩) (q_preS X hP hS _) rfl rfl hl.1 rfl (lv_room (Nat.le_of_ble_eq_true rfl)) dX4_job_33 ⟨Nat.le_of_ble_eq_true rfl, Nat.le_of_ble_eq_true rfl⟩) hS q_id q_id1 (fun r u t H locs ht hvm hw hB hz1 hk1 hS => ?_)
        obtain ⟨rfl, ⟨h_6, rfl⟩ | ⟨h_6, rfl⟩⟩ := hw
        · have hP : q_P g s0 n ad (C) H := q_back hB ht
          have h_6 : (0) ≤ f ∧ f ≤ (9) := h_6
          refine q_if_eq (tgt := 46) X (by decide) dX4_job_36 (by decide) (fun h => absurd h (by decide)) (fun _ => ?_)
          refine lv_lload X.1 X.2.1 dX4_job_39 (lv_at hl 6 rfl) ?_
          refine lv_lconst (v := jI (0)) X.1 X.2.1 dX4_job_41 (by decide) ?_
          refine q_lcmp_ge (tgt := 54) X hy (by decide) dX4_job_42 dX4_job_43 (by decide) (fun h_8 => ?_) (fun h_8 => ?_)
          · refine lv_aload_n X.1 X.2.1 dX4_job_54 rfl (lv_at hl 1 rfl) ?_
            refine q_get (index := 64) (v := .int (iI (C 4 5 0))) X hP 4 5 0 rfl rfl (by decide) in4 (c_v4 hC) (by decide) (by decide +kernel) rfl dX4_job_55 ?_
            have f_9 := c_Rj hR
            refine lv_aload_n X.1 X.2.1 dX4_job_58 rfl (lv_at hl 1 rfl) ?_
            refine q_get (index := 23) (v := .ref (ad 8 0)) X hP 4 2 0 rfl rfl (by decide) in4 (c_v4 hC) (by decide) (by decide +kernel) (c_r hC ad 2 8 (by decide)) dX4_job_59 ?_
            refine q_len (z := 60) X hP 8 0 5 (by decide) rfl rfl (c_va hC 2 8 (by decide)) rfl dX4_job_62 ?_
            refine q_icmp_lt (tgt := 74) X (hP.tok 4 5 0 rfl) (by decide) dX4_job_63 (by decide) (fun h_10 => ?_) (fun h_10 => ?_)
            · refine q_new (index := 21) X hP hS 0 rfl rfl (by decide) in0 tyX0 tyX0_ok (by decide +kernel) (by decide +kernel) (by decide +kernel) (q_hz0 _) (Nat.le_of_ble_eq_true rfl) (Nat.le_of_ble_eq_true rfl) dX4_job_74 (fun ad1 H hpr1 hP hS => ?_)
              have e_11 : ad 3 ((a - 1).toNat) = ad1 3 ((a - 1).toNat) := (hpr1 3 ((a - 1).toNat) (fun q => absurd q.1 (by decide))).symm
              have e_12 : ad 4 0 = ad1 4 0 := (hpr1 4 0 (fun q => absurd q.1 (by decide))).symm
              have hl : lv_has ls 9 [(7, .ref (ad1 3 ((a - 1).toNat))), (0, .ref (ad1 4 0)), (1, .int (iI a)), (2, .int (iI b)), (3, .int (iI d)), (4, .int (iI f)), (5, .long (jI y))] := lv_cong hl (lv_cs (congrArg Value.ref e_11) (lv_cs (congrArg Value.ref e_12) (lv_cs rfl (lv_cs rfl (lv_cs rfl (lv_cs rfl (lv_cs rfl rfl)))))))
              have hpr1 : ∀ k j, ¬ (k = 0 ∧ j = n 0) → ad1 k j = ad k j := hpr1
              have hP : q_P g s0 (q_bump n 0) ad1 (C) H := hP
              refine lv_dup X.1 X.2.1 dX4_job_77 rfl ?_
              refine lv_aload_n X.1 X.2.1 dX4_job_78 rfl (lv_at hl 1 rfl) ?_
              refine q_get (index := 64) (v := .int (iI (C 4 5 0))) X hP 4 5 0 rfl rfl (by decide) in4 (Nat.lt_of_lt_of_le (c_v4 hC) (q_bump_le n 0 4)) (by decide) (by decide +kernel) rfl dX4_job_79 ?_
              refine lv_iconst (v := iI (1)) X.1 X.2.1 dX4_job_82 rfl ?_
              refine q_iadd X dX4_job_83 ?_
              refine lv_aload X.1 X.2.1 dX4_job_84 (lv_at hl 0 rfl) ?_
              refine lv_iload_n X.1 X.2.1 dX4_job_86 rfl (lv_at hl 3 rfl) ?_
              refine lv_iload X.1 X.2.1 dX4_job_87 (lv_at hl 5 rfl) ?_
              refine lv_lload X.1 X.2.1 dX4_job_89 (lv_at hl 6 rfl) ?_
              refine va_callv (va_runI (As := [.int (iI ((C 4 5 0) + (1))), .ref (ad1 3 ((a - 1).toNat)), .int (iI b), .int (iI f), .long (jI y)]) (rest := [.ref (ad1 0 (n 0))]) X.fix (c_X0_init l g s0 (q_bump n 0) ad1 C (n 0) (q_new_lt n 0) ((a - 1).toNat) (Nat.lt_of_lt_of_le (show (a - 1).toNat < n 3 by omega) (q_bump_le n 0 3)) ((C 4 5 0) + (1)) b f y (by omega) hb hf hy) (cwI 5 X.2.2.2.2.1 gX4_job_X0_init rfl rfl rfl (X.2.2.2.2.1 (.initialized RX0) (by decide +kernel)) (X.2.2.2.2.1 (.methodLink RX4 67 yX0_init) (by decide +kernel)) (X.2.2.2.2.1 (.instanceMethod yX0_init) (by decide +kernel)) rfl (by decide +kernel) ⟨Nat.le_of_ble_eq_true rfl, Nat.le_of_ble_eq_true rfl⟩) (q_preS X hP hS _) rfl rfl hl.1 rfl (lv_room (Nat.le_of_ble_eq_true rfl)) dX4_job_91 ⟨Nat.le_of_ble_eq_true rfl, Nat.le_of_ble_eq_true rfl⟩) hS q_id q_id1 (fun u t H locs ht hvm hw hB hz1 hk1 hS => ?_)
              have hw : u = (q_bump n 0, ad1, q_up (q_up (q_up (q_up (q_up C 0 0 ((n 0)) ((((C 4 5 0) + (1))))) 0 1 ((n 0)) (((((a - 1).toNat) : Nat) : Int) + 1)) 0 2 ((n 0)) b) 0 3 ((n 0)) f) 0 4 ((n 0)) y) := hw
              subst hw
              have hP : q_P g s0 (q_bump n 0) ad1 (q_up (q_up (q_up (q_up (q_up C 0 0 ((n 0)) ((((C 4 5 0) + (1))))) 0 1 ((n 0)) (((((a - 1).toNat) : Nat) : Int) + 1)) 0 2 ((n 0)) b) 0 3 ((n 0)) f) 0 4 ((n 0)) y) H := q_back hB ht
              refine lv_astore (lv' := [(8, .ref (ad1 0 (n 0))), (7, .ref (ad1 3 ((a - 1).toNat))), (0, .ref (ad1 4 0)), (1, .int (iI a)), (2, .int (iI b)), (3, .int (iI d)), (4, .int (iI f)), (5, .long (jI y))]) X.1 X.2.1 dX4_job_94 hl (by decide) rfl (fun ls hl => ?_)
              refine lv_aload X.1 X.2.1 dX4_job_96 (lv_at hl 0 rfl) ?_
              refine q_new (index := 70) X hP hS 1 rfl rfl (by decide) in1 tyX1 tyX1_ok (by decide +kernel) (by decide +kernel) (by decide +kernel) (q_hz1 _) (Nat.le_of_ble_eq_true rfl) (Nat.le_of_ble_eq_true rfl) dX4_job_98 (fun ad2 H hpr2 hP hS => ?_)
              have e_13 : ad1 0 (n 0) = ad2 0 (n 0) := (hpr2 0 (n 0) (fun q => absurd q.1 (by decide))).symm
              have e_14 : ad1 3 ((a - 1).toNat) = ad2 3 ((a - 1).toNat) := (hpr2 3 ((a - 1).toNat) (fun q => absurd q.1 (by decide))).symm
              have e_15 : ad1 4 0 = ad2 4 0 := (hpr2 4 0 (fun q => absurd q.1 (by decide))).symm
              have hl : lv_has ls 9 [(8, .ref (ad2 0 (n 0))), (7, .ref (ad2 3 ((a - 1).toNat))), (0, .ref (ad2 4 0)), (1, .int (iI a)), (2, .int (iI b)), (3, .int (iI d)), (4, .int (iI f)), (5, .long (jI y))] := lv_cong hl (lv_cs (congrArg Value.ref e_13) (lv_cs (congrArg Value.ref e_14) (lv_cs (congrArg Value.ref e_15) (lv_cs rfl (lv_cs rfl (lv_cs rfl (lv_cs rfl (lv_cs rfl rfl))))))))
              have hpr2 : ∀ k j, ¬ (k = 1 ∧ j = n 1) → ad2 k j = ad1 k j := hpr2
              refine W.eq (g2 := F0 m 101 ls [.ref (ad2 1 (n 1)), .ref (ad2 0 (n 0))]) (by rw [e_13]; first | done | rfl) ?_
              have hP : q_P g s0 (q_bump (q_bump n 0) 1) ad2 (q_up (q_up (q_up (q_up (q_up C 0 0 ((n 0)) ((((C 4 5 0) + (1))))) 0 1 ((n 0)) (((((a - 1).toNat) : Nat) : Int) + 1)) 0 2 ((n 0)) b) 0 3 ((n 0)) f) 0 4 ((n 0)) y) H := hP
              refine lv_dup X.1 X.2.1 dX4_job_101 rfl ?_
              refine lv_aload X.1 X.2.1 dX4_job_102 (lv_at hl 0 rfl) ?_
              refine lv_iconst (v := iI (0)) X.1 X.2.1 dX4_job_104 rfl ?_
              refine lv_iload_n X.1 X.2.1 dX4_job_105 rfl (lv_at hl 5 rfl) ?_
              refine va_callv (va_runI (As := [.ref (ad2 0 (n 0)), .int (iI (0)), .int (iI d)]) (rest := [.ref (ad2 1 (n 1)), .ref (ad2 0 (n 0))]) X.fix (c_X1_init l g s0 (q_bump (q_bump n 0) 1) ad2 (q_up (q_up (q_up (q_up (q_up C 0 0 ((n 0)) ((((C 4 5 0) + (1))))) 0 1 ((n 0)) (((((a - 1).toNat) : Nat) : Int) + 1)) 0 2 ((n 0)) b) 0 3 ((n 0)) f) 0 4 ((n 0)) y) (n 1) (q_new_lt (q_bump n 0) 1) (n 0) (Nat.lt_of_lt_of_le (q_new_lt n 0) (q_bump_le (q_bump n 0) 1 0)) (0) d (by decide) hd) (cwI 3 X.2.2.2.2.1 gX4_job_X1_init rfl rfl rfl (X.2.2.2.2.1 (.initialized RX1) (by decide +kernel)) (X.2.2.2.2.1 (.methodLink RX4 72 yX1_init) (by decide +kernel)) (X.2.2.2.2.1 (.instanceMethod yX1_init) (by decide +kernel)) rfl (by decide +kernel) ⟨Nat.le_of_ble_eq_true rfl, Nat.le_of_ble_eq_true rfl⟩) (q_preS X hP hS _) rfl rfl hl.1 rfl (lv_room (Nat.le_of_ble_eq_true rfl)) dX4_job_106 ⟨Nat.le_of_ble_eq_true rfl, Nat.le_of_ble_eq_true rfl⟩) hS q_id q_id1 (fun u t H locs ht hvm hw hB hz1 hk1 hS => ?_)
              have hw : u = (q_bump (q_bump n 0) 1, ad2, q_up (q_up (q_up (q_up (q_up (q_up (q_up (q_up C 0 0 ((n 0)) ((((C 4 5 0) + (1))))) 0 1 ((n 0)) (((((a - 1).toNat) : Nat) : Int) + 1)) 0 2 ((n 0)) b) 0 3 ((n 0)) f) 0 4 ((n 0)) y) 1 0 ((n 1)) ((((n 0) : Nat) : Int) + 1)) 1 1 ((n 1)) (((0)))) 1 2 ((n 1)) d) := hw
              subst hw
              have hP : q_P g s0 (q_bump (q_bump n 0) 1) ad2 (q_up (q_up (q_up (q_up (q_up (q_up (q_up (q_up C 0 0 ((n 0)) ((((C 4 5 0) + (1))))) 0 1 ((n 0)) (((((a - 1).toNat) : Nat) : Int) + 1)) 0 2 ((n 0)) b) 0 3 ((n 0)) f) 0 4 ((n 0)) y) 1 0 ((n 1)) ((((n 0) : Nat) : Int) + 1)) 1 1 ((n 1)) (((0)))) 1 2 ((n 1)) d) H := q_back hB ht
              refine q_put (index := 75) (v := .ref (ad2 1 (n 1))) X hP hS 0 7 (n 0) (((n 1 : Nat) : Int) + 1) rfl rfl (by decide) in0 tyX0 tyX0_ok nmX0 (Nat.lt_of_lt_of_le (q_new_lt n 0) (q_bump_le (q_bump n 0) 1 0)) (by decide) (by decide +kernel) rfl (q_v2 ad2 1 (n 1)) rfl rfl (q_t2 (q_new_lt (q_bump n 0) 1)) dX4_job_109 (fun H locs hP hS => ?_)
              have hP : q_P g s0 (q_bump (q_bump n 0) 1) ad2 (q_up (q_up (q_up (q_up (q_up (q_up (q_up (q_up (q_up C 0 0 ((n 0)) ((((C 4 5 0) + (1))))) 0 1 ((n 0)) (((((a - 1).toNat) : Nat) : Int) + 1)) 0 2 ((n 0)) b) 0 3 ((n 0)) f) 0 4 ((n 0)) y) 1 0 ((n 1)) ((((n 0) : Nat) : Int) + 1)) 1 1 ((n 1)) (((0)))) 1 2 ((n 1)) d) 0 7 (n 0) (((n 1 : Nat) : Int) + 1)) H := hP
              refine lv_aload_n X.1 X.2.1 dX4_job_112 rfl (lv_at hl 2 rfl) ?_
              refine q_get (index := 23) (v := .ref (ad2 8 0)) X hP 4 2 0 rfl rfl (by decide) in4 (Nat.lt_of_lt_of_le (Nat.lt_of_lt_of_le (c_v4 hC) (q_bump_le n 0 4)) (q_bump_le (q_bump n 0) 1 4)) (by decide) (by decide +kernel) (c_r hC ad2 2 8 (by decide)) dX4_job_113 ?_
              refine lv_aload_n X.1 X.2.1 dX4_job_116 rfl (lv_at hl 2 rfl) ?_
              refine q_get (index := 64) (v := .int (iI (C 4 5 0))) X hP 4 5 0 rfl rfl (by decide) in4 (Nat.lt_of_lt_of_le (Nat.lt_of_lt_of_le (c_v4 hC) (q_bump_le n 0 4)) (q_bump_le (q_bump n 0) 1 4)) (by decide) (by decide +kernel) rfl dX4_job_117 ?_
              refine lv_aload X.1 X.2.1 dX4_job_120 (lv_at hl 0 rfl) ?_
              refine q_ast (len := 60) (z := (C 4 5 0)) X hP hS 8 0 0 (n 0) 5 (by decide) rfl (by decide) rfl rfl rfl (Nat.lt_of_lt_of_le (Nat.lt_of_lt_of_le (c_va hC 2 8 (by decide)) (q_bump_le n 0 8)) (q_bump_le (q_bump n 0) 1 8)) (Nat.lt_of_lt_of_le (q_new_lt n 0) (q_bump_le (q_bump n 0) 1 0)) rfl (by omega) (by omega) dX4_job_122 (fun H locs hP hS => ?_)
              have hP : q_P g s0 (q_bump (q_bump n 0) 1) ad2 (q_up (q_up (q_up (q_up (q_up (q_up (q_up (q_up (q_up (q_up C 0 0 ((n 0)) ((((C 4 5 0) + (1))))) 0 1 ((n 0)) (((((a - 1).toNat) : Nat) : Int) + 1)) 0 2 ((n 0)) b) 0 3 ((n 0)) f) 0 4 ((n 0)) y) 1 0 ((n 1)) ((((n 0) : Nat) : Int) + 1)) 1 1 ((n 1)) (((0)))) 1 2 ((n 1)) d) 0 7 (n 0) (((n 1 : Nat) : Int) + 1)) 8 (((C 4 5 0)).toNat) 0 (((n 0 : Nat) : Int) + 1)) H := hP
              refine lv_aload_n X.1 X.2.1 dX4_job_123 rfl (lv_at hl 2 rfl) ?_
              refine lv_dup X.1 X.2.1 dX4_job_124 rfl ?_
              refine q_get (index := 64) (v := .int (iI (C 4 5 0))) X hP 4 5 0 rfl rfl (by decide) in4 (Nat.lt_of_lt_of_le (Nat.lt_of_lt_of_le (c_v4 hC) (q_bump_le n 0 4)) (q_bump_le (q_bump n 0) 1 4)) (by decide) (by decide +kernel) rfl dX4_job_125 ?_
              refine lv_iconst (v := iI (1)) X.1 X.2.1 dX4_job_128 rfl ?_
              refine q_iadd X dX4_job_129 ?_
              refine q_put (index := 64) (v := .int (iI ((C 4 5 0) + (1)))) X hP hS 4 5 0 (((C 4 5 0) + (1))) rfl rfl (by decide) in4 tyX4 tyX4_ok nmX4 (Nat.lt_of_lt_of_le (Nat.lt_of_lt_of_le (c_v4 hC) (q_bump_le n 0 4)) (q_bump_le (q_bump n 0) 1 4)) (by decide) (by decide +kernel) rfl rfl rfl rfl (show R32 _ from (by omega)) dX4_job_130 (fun H locs hP hS => ?_)
              have hP : q_P g s0 (q_bump (q_bump n 0) 1) ad2 (q_up (q_up (q_up (q_up (q_up (q_up (q_up (q_up (q_up (q_up (q_up C 0 0 ((n 0)) ((((C 4 5 0) + (1))))) 0 1 ((n 0)) (((((a - 1).toNat) : Nat) : Int) + 1)) 0 2 ((n 0)) b) 0 3 ((n 0)) f) 0 4 ((n 0)) y) 1 0 ((n 1)) ((((n 0) : Nat) : Int) + 1)) 1 1 ((n 1)) (((0)))) 1 2 ((n 1)) d) 0 7 (n 0) (((n 1 : Nat) : Int) + 1)) 8 (((C 4 5 0)).toNat) 0 (((n 0 : Nat) : Int) + 1)) 4 5 0 (((C 4 5 0) + (1)))) H := hP
              refine lv_aload_n X.1 X.2.1 dX4_job_133 rfl (lv_at hl 2 rfl) ?_
              refine q_get (index := 64) (v := .int (iI ((C 4 5 0) + (1)))) X hP 4 5 0 rfl rfl (by decide) in4 (Nat.lt_of_lt_of_le (Nat.lt_of_lt_of_le (c_v4 hC) (q_bump_le n 0 4)) (q_bump_le (q_bump n 0) 1 4)) (by decide) (by decide +kernel) rfl dX4_job_134 ?_
              refine vx_ret ?_
              exact q_iret X hr hlocks hP hS (⟨ad1, ad2, h_1, h_2, h_4, h_6, h_8, h_10, hpr1, hpr2, rfl, rfl⟩) (Nat.le_of_ble_eq_true rfl) (Nat.le_of_ble_eq_true rfl) dX4_job_137
            · exact q_throw X htr hnx hlocks (cls := "java/lang/UnsupportedOperationException") (ik := 48) (ic := 50) (by decide) (by decide +kernel) (by decide +kernel) (by decide +kernel) xb_50 xg_48_50 hP hS hl.1 dX4_job_66 dX4_job_69 dX4_job_70 dX4_job_73 (Nat.le_of_ble_eq_true rfl) (Nat.le_of_ble_eq_true rfl) (Nat.le_of_ble_eq_true rfl) (Nat.le_of_ble_eq_true rfl) (Or.inr (Or.inl (⟨rfl, h_1, h_2, h_4, h_6, h_8, h_10⟩))) (Nat.le_of_ble_eq_true rfl) (Nat.le_of_ble_eq_true rfl)
          · exact q_throw X htr hnx hlocks (cls := "java/lang/IllegalArgumentException") (ik := 42) (ic := 44) (by decide) (by decide +kernel) (by decide +kernel) (by decide +kernel) xb_44 xg_42_44 hP hS hl.1 dX4_job_46 dX4_job_49 dX4_job_50 dX4_job_53 (Nat.le_of_ble_eq_true rfl) (Nat.le_of_ble_eq_true rfl) (Nat.le_of_ble_eq_true rfl) (Nat.le_of_ble_eq_true rfl) (Or.inr (Or.inr (Or.inl (⟨rfl, h_1, h_2, h_4, h_6, h_8⟩)))) (Nat.le_of_ble_eq_true rfl) (Nat.le_of_ble_eq_true rfl)
        · have hP : q_P g s0 n ad (C) H := q_back hB ht
          have h_6 : ¬ ((0) ≤ f ∧ f ≤ (9)) := h_6
          refine q_if_eq (tgt := 46) X (by decide) dX4_job_36 (by decide) (fun _ => ?_) (fun h => absurd h (by decide))
          exact q_throw X htr hnx hlocks (cls := "java/lang/IllegalArgumentException") (ik := 42) (ic := 44) (by decide) (by decide +kernel) (by decide +kernel) (by decide +kernel) xb_44 xg_42_44 hP hS hl.1 dX4_job_46 dX4_job_49 dX4_job_50 dX4_job_53 (Nat.le_of_ble_eq_true rfl) (Nat.le_of_ble_eq_true rfl) (Nat.le_of_ble_eq_true rfl) (Nat.le_of_ble_eq_true rfl) (Or.inr (Or.inr (Or.inr (Or.inl (⟨rfl, h_1, h_2, h_4, h_6⟩))))) (Nat.le_of_ble_eq_true rfl) (Nat.le_of_ble_eq_true rfl)
      · have hP : q_P g s0 n ad (C) H := q_back hB ht
        have h_4 : ¬ ((1) ≤ d ∧ d ≤ (100)) := h_4
        refine q_if_eq (tgt := 46) X (by decide) dX4_job_25 (by decide) (fun _ => ?_) (fun h => absurd h (by decide))
        exact q_throw X htr hnx hlocks (cls := "java/lang/IllegalArgumentException") (ik := 42) (ic := 44) (by decide) (by decide +kernel) (by decide +kernel) (by decide +kernel) xb_44 xg_42_44 hP hS hl.1 dX4_job_46 dX4_job_49 dX4_job_50 dX4_job_53 (Nat.le_of_ble_eq_true rfl) (Nat.le_of_ble_eq_true rfl) (Nat.le_of_ble_eq_true rfl) (Nat.le_of_ble_eq_true rfl) (Or.inr (Or.inr (Or.inr (Or.inr (Or.inl (⟨rfl, h_1, h_2, h_4⟩)))))) (Nat.le_of_ble_eq_true rfl) (Nat.le_of_ble_eq_true rfl)
    · have hP : q_P g s0 n ad (C) H := q_back hB ht
      have h_2 : ¬ ((1) ≤ b ∧ b ≤ (500)) := h_2
      refine q_if_eq (tgt := 46) X (by decide) dX4_job_15 (by decide) (fun _ => ?_) (fun h => absurd h (by decide))
      exact q_throw X htr hnx hlocks (cls := "java/lang/IllegalArgumentException") (ik := 42) (ic := 44) (by decide) (by decide +kernel) (by decide +kernel) (by decide +kernel) xb_44 xg_42_44 hP hS hl.1 dX4_job_46 dX4_job_49 dX4_job_50 dX4_job_53 (Nat.le_of_ble_eq_true rfl) (Nat.le_of_ble_eq_true rfl) (Nat.le_of_ble_eq_true rfl) (Nat.le_of_ble_eq_true rfl) (Or.inr (Or.inr (Or.inr (Or.inr (Or.inr (⟨rfl, h_1, h_2⟩)))))) (Nat.le_of_ble_eq_true rfl) (Nat.le_of_ble_eq_true rfl)
def tX4_state (n : Nat → Nat) (ad : Nat → Nat → Nat) (C : q_S) (a b : Int) (r : Int32) (u : q_U) : Prop :=
  ((1 ≤ a ∧ a ≤ (n 0 : Int)) ∧ (b = 0) ∧ u = (n, ad, C) ∧ r = iI (c_con C n ((a - 1).toNat))) ∨
  ((1 ≤ a ∧ a ≤ (n 0 : Int)) ∧ (¬ b = 0) ∧ (b = 1) ∧ u = (n, ad, C) ∧ r = iI (c_acc C ((a - 1).toNat) (fun k => C 1 4 k * C 0 2 ((a - 1).toNat) + C 1 5 k) (n 1))) ∨
  ((1 ≤ a ∧ a ≤ (n 0 : Int)) ∧ (¬ b = 0) ∧ (¬ b = 1) ∧ (b = 2) ∧ u = (n, ad, C) ∧ r = iI (c_acc C ((a - 1).toNat) (fun k => C 1 4 k) (n 1))) ∨
  ((1 ≤ a ∧ a ≤ (n 0 : Int)) ∧ (¬ b = 0) ∧ (¬ b = 1) ∧ (¬ b = 2) ∧ (b = 3) ∧ u = (n, ad, C) ∧ r = iI (c_acc C ((a - 1).toNat) (fun _ => 1) (n 1))) ∨
  ((1 ≤ a ∧ a ≤ (n 0 : Int)) ∧ (¬ b = 0) ∧ (¬ b = 1) ∧ (¬ b = 2) ∧ (¬ b = 3) ∧ (b = 4) ∧ u = (n, ad, C) ∧ r = iI (C 0 5 ((a - 1).toNat)))
def xX4_state (n : Nat → Nat) (C : q_S) (a b : Int) (E : String) : Prop :=
  (x_find (n 0) a E) ∨
  (E = "java/lang/IndexOutOfBoundsException" ∧ (1 ≤ a ∧ a ≤ (n 0 : Int)) ∧ (¬ b = 0) ∧ (¬ b = 1) ∧ (¬ b = 2) ∧ (¬ b = 3) ∧ (¬ b = 4))
set_option maxHeartbeats 4000000 in
set_option maxRecDepth 100000 in
theorem c_X4_state (l : Launch) (htr : l.stackTraces = false) (g : q_G) (s0 : Nat) (n : Nat → Nat) (ad : Nat → Nat → Nat) (C : q_S) (c0 : Nat) (hC : c_S C n) (hR : c_R C n c0) (hc0 : c0 ≤ 511) (a b : Int) (ha : R32 a) (hb : R32 b)  : vx_Met l yX4_state wsX4_state ({ frames := 7, cells := 2, slots := 12, locals := 112 }) (va_Pc [.ref (ad 4 0), .int (iI a), .int (iI b)] (q_B g s0 (n, ad, C))) (va_Qi (tX4_state n ad C a b) (q_B g s0) (q_A s0)) (q_XC g s0 (n, ad, C) (xX4_state n C a b)) 2 12 (q_A s0) := by
  refine vx_ofW (cc := cX4_state) (maxL := 4) (ret := (some .int)) (by decide) rfl ?_
  intro p e s m args below meth c s₁ B hml hnx hv
  obtain ⟨rfl, hv⟩ := hv
  have hr := B.returns
  have hlocks := B.notSynchronized
  obtain ⟨X, hP⟩ := q_start B.exec B.bytes hml (show s.vm.findClass RX4 = some m.cls from findClass_of_methodNamed B.named) (atoms_spec (ws := wsX4_state) B.pre) hv
  have hP : q_P g s0 n ad C s.heap := hP
  have hS : va_S (q_A s0) s.heap s.heap [] := va_S.rf
  have in0 : ∀ w ∈ wsX00, w ∈ wsX4_state := by decide +kernel
  have in1 : ∀ w ∈ wsX10, w ∈ wsX4_state := by decide +kernel
  have in4 : ∀ w ∈ wsX40, w ∈ wsX4_state := by decide +kernel
  have hl := lv_entry ([.ref (ad 4 0), .int (iI a), .int (iI b)]) (n := 4) (Nat.le_of_ble_eq_true rfl)
  rw [lg_entry_eq]
  generalize (lg_sl ([.ref (ad 4 0), .int (iI a), .int (iI b)]) ++ List.replicate (4 - (lg_sl ([.ref (ad 4 0), .int (iI a), .int (iI b)])).length) Slot.unset).toArray = ls at hl ⊢
  have hl : lv_has ls 4 [(0, .ref (ad 4 0)), (1, .int (iI a)), (2, .int (iI b))] := hl
  refine lv_aload_n X.1 X.2.1 dX4_state_0 rfl (lv_at hl 0 rfl) ?_
  refine lv_iload_n X.1 X.2.1 dX4_state_1 rfl (lv_at hl 1 rfl) ?_
  refine vx_callq (vx_runV (As := [.int (iI a)]) (rest := []) X.fix (c_X4_findJob l htr g s0 n ad C c0 hC hR a ha) (cwV 1 X.2.2.2.2.1 gX4_state_X4_findJob rfl rfl rfl (by decide +kernel) ⟨Nat.le_of_ble_eq_true rfl, Nat.le_of_ble_eq_true rfl⟩) (q_preV X hP hS [.int (iI a)] (kd := 4) (by decide) rfl (c_v4 hC)) rfl rfl hl.1 rfl (lv_room (Nat.le_of_ble_eq_true rfl)) dX4_state_2 ⟨Nat.le_of_ble_eq_true rfl, Nat.le_of_ble_eq_true rfl⟩) hS q_id q_id1 q_id ?_ (fun r u t H locs ht hvm hw hB hz1 hk1 hS => ?_)
  · intro E ce q9 u t H locs ht hvm hpx hBX hz1 hk1 hS hce hcv hcl
    exact q_xout X hnx hlocks hBX ht hS hce hcv hcl (fun hxe => Or.inl (hxe)) (Nat.le_of_ble_eq_true rfl) (Nat.le_of_ble_eq_true rfl)
  · obtain ⟨rfl, h_1, rfl⟩ := hw
    have hP : q_P g s0 n ad (C) H := q_back hB ht
    rw [show va_rf (some (ad 0 ((a - 1).toNat))) = .ref (ad 0 ((a - 1).toNat)) from rfl]
    refine lv_astore_n (lv' := [(3, .ref (ad 0 ((a - 1).toNat))), (0, .ref (ad 4 0)), (1, .int (iI a)), (2, .int (iI b))]) X.1 X.2.1 dX4_state_5 rfl hl (by decide) rfl (fun ls hl => ?_)
    refine lv_iload_n X.1 X.2.1 dX4_state_6 rfl (lv_at hl 3 rfl) ?_
    by_cases h_2 : b = 0
    · refine q_tsi (tgt := 40) X hb dX4_state_7 (by omega) (by omega) (by rw [h_2]; rfl) (by decide) ?_
      refine lv_aload_n X.1 X.2.1 dX4_state_40 rfl (lv_at hl 0 rfl) ?_
      refine va_calli (va_runV (As := []) (rest := []) X.fix (c_X0_condition l g s0 n ad C c0 hR ((a - 1).toNat) (show (a - 1).toNat < n 0 by omega)) (cwV 0 X.2.2.2.2.1 gX4_state_X0_condition rfl rfl rfl (by decide +kernel) ⟨Nat.le_of_ble_eq_true rfl, Nat.le_of_ble_eq_true rfl⟩) (q_preV X hP hS [] (kd := 0) (by decide) rfl (show (a - 1).toNat < n 0 by omega)) rfl rfl hl.1 rfl (lv_room (Nat.le_of_ble_eq_true rfl)) dX4_state_41 ⟨Nat.le_of_ble_eq_true rfl, Nat.le_of_ble_eq_true rfl⟩) hS q_id q_id1 (fun r u t H locs ht hvm hw hB hz1 hk1 hS => ?_)
      obtain ⟨rfl, rfl⟩ := hw
      have hP : q_P g s0 n ad (C) H := q_back hB ht
      refine vx_ret ?_
      exact q_iret X hr hlocks hP hS (Or.inl (⟨h_1, h_2, rfl, rfl⟩)) (Nat.le_of_ble_eq_true rfl) (Nat.le_of_ble_eq_true rfl) dX4_state_44
    · by_cases h_3 : b = 1
      · refine q_tsi (tgt := 45) X hb dX4_state_7 (by omega) (by omega) (by rw [h_3]; rfl) (by decide) ?_
        refine lv_aload_n X.1 X.2.1 dX4_state_45 rfl (lv_at hl 0 rfl) ?_
        refine va_calli (va_runV (As := []) (rest := []) X.fix (c_X0_pagesThatCount l g s0 n ad C c0 hR ((a - 1).toNat) (show (a - 1).toNat < n 0 by omega)) (cwV 0 X.2.2.2.2.1 gX4_state_X0_pagesThatCount rfl rfl rfl (by decide +kernel) ⟨Nat.le_of_ble_eq_true rfl, Nat.le_of_ble_eq_true rfl⟩) (q_preV X hP hS [] (kd := 0) (by decide) rfl (show (a - 1).toNat < n 0 by omega)) rfl rfl hl.1 rfl (lv_room (Nat.le_of_ble_eq_true rfl)) dX4_state_46 ⟨Nat.le_of_ble_eq_true rfl, Nat.le_of_ble_eq_true rfl⟩) hS q_id q_id1 (fun r u t H locs ht hvm hw hB hz1 hk1 hS => ?_)
        obtain ⟨rfl, rfl⟩ := hw
        have hP : q_P g s0 n ad (C) H := q_back hB ht
        refine vx_ret ?_
        exact q_iret X hr hlocks hP hS (Or.inr (Or.inl (⟨h_1, h_2, h_3, rfl, rfl⟩))) (Nat.le_of_ble_eq_true rfl) (Nat.le_of_ble_eq_true rfl) dX4_state_49
      · by_cases h_4 : b = 2
        · refine q_tsi (tgt := 50) X hb dX4_state_7 (by omega) (by omega) (by rw [h_4]; rfl) (by decide) ?_
          refine lv_aload_n X.1 X.2.1 dX4_state_50 rfl (lv_at hl 0 rfl) ?_
          refine va_calli (va_runV (As := []) (rest := []) X.fix (c_X0_wholeCopies l g s0 n ad C c0 hR ((a - 1).toNat) (show (a - 1).toNat < n 0 by omega)) (cwV 0 X.2.2.2.2.1 gX4_state_X0_wholeCopies rfl rfl rfl (by decide +kernel) ⟨Nat.le_of_ble_eq_true rfl, Nat.le_of_ble_eq_true rfl⟩) (q_preV X hP hS [] (kd := 0) (by decide) rfl (show (a - 1).toNat < n 0 by omega)) rfl rfl hl.1 rfl (lv_room (Nat.le_of_ble_eq_true rfl)) dX4_state_51 ⟨Nat.le_of_ble_eq_true rfl, Nat.le_of_ble_eq_true rfl⟩) hS q_id q_id1 (fun r u t H locs ht hvm hw hB hz1 hk1 hS => ?_)
          obtain ⟨rfl, rfl⟩ := hw
          have hP : q_P g s0 n ad (C) H := q_back hB ht
          refine vx_ret ?_
          exact q_iret X hr hlocks hP hS (Or.inr (Or.inr (Or.inl (⟨h_1, h_2, h_3, h_4, rfl, rfl⟩)))) (Nat.le_of_ble_eq_true rfl) (Nat.le_of_ble_eq_true rfl) dX4_state_54
        · by_cases h_5 : b = 3
          · refine q_tsi (tgt := 55) X hb dX4_state_7 (by omega) (by omega) (by rw [h_5]; rfl) (by decide) ?_
            refine lv_aload_n X.1 X.2.1 dX4_state_55 rfl (lv_at hl 0 rfl) ?_
            refine va_calli (va_runV (As := []) (rest := []) X.fix (c_X0_partsHad l g s0 n ad C c0 hR ((a - 1).toNat) (show (a - 1).toNat < n 0 by omega)) (cwV 0 X.2.2.2.2.1 gX4_state_X0_partsHad rfl rfl rfl (by decide +kernel) ⟨Nat.le_of_ble_eq_true rfl, Nat.le_of_ble_eq_true rfl⟩) (q_preV X hP hS [] (kd := 0) (by decide) rfl (show (a - 1).toNat < n 0 by omega)) rfl rfl hl.1 rfl (lv_room (Nat.le_of_ble_eq_true rfl)) dX4_state_56 ⟨Nat.le_of_ble_eq_true rfl, Nat.le_of_ble_eq_true rfl⟩) hS q_id q_id1 (fun r u t H locs ht hvm hw hB hz1 hk1 hS => ?_)
            obtain ⟨rfl, rfl⟩ := hw
            have hP : q_P g s0 n ad (C) H := q_back hB ht
            refine vx_ret ?_
            exact q_iret X hr hlocks hP hS (Or.inr (Or.inr (Or.inr (Or.inl (⟨h_1, h_2, h_3, h_4, h_5, rfl, rfl⟩))))) (Nat.le_of_ble_eq_true rfl) (Nat.le_of_ble_eq_true rfl) dX4_state_59
          · by_cases h_6 : b = 4
            · refine q_tsi (tgt := 60) X hb dX4_state_7 (by omega) (by omega) (by rw [h_6]; rfl) (by decide) ?_
              refine lv_aload_n X.1 X.2.1 dX4_state_60 rfl (lv_at hl 0 rfl) ?_
              refine q_get (index := 133) (v := .int (iI (C 0 5 ((a - 1).toNat)))) X hP 0 5 ((a - 1).toNat) rfl rfl (by decide) in0 (show (a - 1).toNat < n 0 by omega) (by decide) (by decide +kernel) rfl dX4_state_61 ?_
              refine va_calli (va_runS (As := [.int (iI (C 0 5 ((a - 1).toNat)))]) (rest := []) X.fix (c_X4_asNumber l g s0 n ad C (C 0 5 ((a - 1).toNat)) (hP.tok 0 5 _ rfl)) (va_cwS 1 X.2.2.2.2.1 gX4_state_X4_asNumber rfl rfl rfl (by decide +kernel) ⟨Nat.le_of_ble_eq_true rfl, Nat.le_of_ble_eq_true rfl⟩) (q_preS X hP hS _) rfl rfl hl.1 rfl (lv_room (Nat.le_of_ble_eq_true rfl)) dX4_state_64 ⟨Nat.le_of_ble_eq_true rfl, Nat.le_of_ble_eq_true rfl⟩) hS q_id q_id1 (fun r u t H locs ht hvm hw hB hz1 hk1 hS => ?_)
              obtain ⟨rfl, rfl⟩ := hw
              have hP : q_P g s0 n ad (C) H := q_back hB ht
              refine vx_ret ?_
              exact q_iret X hr hlocks hP hS (Or.inr (Or.inr (Or.inr (Or.inr (⟨h_1, h_2, h_3, h_4, h_5, h_6, rfl, rfl⟩))))) (Nat.le_of_ble_eq_true rfl) (Nat.le_of_ble_eq_true rfl) dX4_state_67
            · refine q_tso (tgt := 68) X hb dX4_state_7 (by omega) (by decide) ?_
              exact q_throw X htr hnx hlocks (cls := "java/lang/IndexOutOfBoundsException") (ik := 163) (ic := 165) (by decide) (by decide +kernel) (by decide +kernel) (by decide +kernel) xb_165 xg_163_165 hP hS hl.1 dX4_state_68 dX4_state_71 dX4_state_72 dX4_state_75 (Nat.le_of_ble_eq_true rfl) (Nat.le_of_ble_eq_true rfl) (Nat.le_of_ble_eq_true rfl) (Nat.le_of_ble_eq_true rfl) (Or.inr (⟨rfl, h_1, h_2, h_3, h_4, h_5, h_6⟩)) (Nat.le_of_ble_eq_true rfl) (Nat.le_of_ble_eq_true rfl)
