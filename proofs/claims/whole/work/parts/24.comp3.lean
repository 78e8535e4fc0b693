theorem c_R6y {C : q_S} {n : Nat → Nat} {c : Nat} (h : c_R C n c) {z : Nat} (hz : ¬ C 6 z 0 = 0) : z < n 2 ∧ (C 6 z 0 - 1).toNat = z := by
  have := c_R6 h z
  by_cases q : z < n 2
  · rw [if_pos q] at this; exact ⟨q, by omega⟩
  · rw [if_neg q] at this; contradiction
theorem c_R6n {C : q_S} {n : Nat → Nat} {c : Nat} (h : c_R C n c) {z : Nat} (hz : C 6 z 0 = 0) : ¬ z < n 2 := by
  have := c_R6 h z
  intro q
  rw [if_pos q] at this; omega
theorem c_R7y {C : q_S} {n : Nat → Nat} {c : Nat} (h : c_R C n c) {z : Nat} (hz : ¬ C 7 z 0 = 0) : z < n 3 ∧ (C 7 z 0 - 1).toNat = z := by
  have := c_R7 h z
  by_cases q : z < n 3
  · rw [if_pos q] at this; exact ⟨q, by omega⟩
  · rw [if_neg q] at this; contradiction
theorem c_R7n {C : q_S} {n : Nat → Nat} {c : Nat} (h : c_R C n c) {z : Nat} (hz : C 7 z 0 = 0) : ¬ z < n 3 := by
  have := c_R7 h z
  intro q
  rw [if_pos q] at this; omega
theorem c_R8y {C : q_S} {n : Nat → Nat} {c : Nat} (h : c_R C n c) {z : Nat} (hz : ¬ C 8 z 0 = 0) : z < n 0 ∧ (C 8 z 0 - 1).toNat = z := by
  have := c_R8 h z
  by_cases q : z < n 0
  · rw [if_pos q] at this; exact ⟨q, by omega⟩
  · rw [if_neg q] at this; contradiction
theorem c_R8n {C : q_S} {n : Nat → Nat} {c : Nat} (h : c_R C n c) {z : Nat} (hz : C 8 z 0 = 0) : ¬ z < n 0 := by
  have := c_R8 h z
  intro q
  rw [if_pos q] at this; omega
theorem c_fp_v {C : q_S} {j p k : Nat} (h : ¬ c_fp C j p k = 0) : (c_fp C j p k - 1).toNat < k := by
  obtain ⟨i, h1, h2, -⟩ := c_fp_y C j p h
  omega
abbrev x_find (m : Nat) (a : Int) (E : String) : Prop := E = "java/util/NoSuchElementException" ∧ ¬ (1 ≤ a ∧ a ≤ (m : Int))
set_option maxHeartbeats 4000000 in
set_option maxRecDepth 100000 in
theorem c_X4_findPrinter (l : Launch) (htr : l.stackTraces = false) (g : q_G) (s0 : Nat) (n : Nat → Nat) (ad : Nat → Nat → Nat) (C : q_S) (c0 : Nat) (hC : c_S C n) (hR : c_R C n c0) (a : Int) (ha : R32 a) : vx_Met l yX4_findPrinter wsX4_findPrinter ({ frames := 6, cells := 1, slots := 6, locals := 90 }) (va_Pc [.ref (ad 4 0), .int (iI a)] (q_B g s0 (n, ad, C))) (va_Qq (fun r u => u = (n, ad, C) ∧ (1 ≤ a ∧ a ≤ (n 2 : Int)) ∧ r = some (ad 2 (a - 1).toNat)) (q_B g s0) (q_A s0)) (q_XC g s0 (n, ad, C) (x_find (n 2) a)) 1 6 (q_A s0) := by
  refine vx_ofW (cc := cX4_findPrinter) (maxL := 3) (ret := (some (.object "PrintQueue$Printer"))) (by decide) rfl ?_
  intro p e s m args below meth c s₁ B hml hnx hv
  obtain ⟨rfl, hv⟩ := hv
  have hr := B.returns
  have hlocks := B.notSynchronized
  obtain ⟨X, hP⟩ := q_start B.exec B.bytes hml (show s.vm.findClass RX4 = some m.cls from findClass_of_methodNamed B.named) (atoms_spec (ws := wsX4_findPrinter) B.pre) hv
  have hP : q_P g s0 n ad C s.heap := hP
  have hS : va_S (q_A s0) s.heap s.heap [] := va_S.rf
  have in4 : ∀ w ∈ wsX40, w ∈ wsX4_findPrinter := by decide +kernel
  have f0 := c_Rp hR
  have hl := lv_entry ([.ref (ad 4 0), .int (iI a)]) (n := 3) (Nat.le_of_ble_eq_true rfl)
  rw [lg_entry_eq]
  generalize (lg_sl ([.ref (ad 4 0), .int (iI a)]) ++ List.replicate (3 - (lg_sl ([.ref (ad 4 0), .int (iI a)])).length) Slot.unset).toArray = ls at hl ⊢
  have hl : lv_has ls 3 [(0, .ref (ad 4 0)), (1, .int (iI a))] := hl
  refine lv_iload_n X.1 X.2.1 dX4_findPrinter_0 rfl (lv_at hl 1 rfl) ?_
  refine lv_iconst (v := iI (1)) X.1 X.2.1 dX4_findPrinter_1 rfl ?_
  refine lv_aload_n X.1 X.2.1 dX4_findPrinter_2 rfl (lv_at hl 0 rfl) ?_
  refine q_get (index := 11) (v := .ref (ad 6 0)) X hP 4 0 0 rfl rfl (by decide) in4 (c_v4 hC) (by decide) (by decide +kernel) (c_r hC ad 0 6 (by decide)) dX4_findPrinter_3 ?_
  refine q_len (z := 8) X hP 6 0 3 (by decide) rfl rfl (c_va hC 0 6 (by decide)) rfl dX4_findPrinter_6 ?_
  refine va_calli (va_runS (As := [.int (iI a), .int (iI (1)), .int (iI (8))]) (rest := []) X.fix (c_X4_isWithin l g s0 n ad C a (1) (8) ha (by decide) (by decide)) (va_cwS 3 X.2.2.2.2.1 gX4_findPrinter_X4_isWithin rfl rfl rfl (by decide +kernel) ⟨Nat.le_of_ble_eq_true rfl, Nat.le_of_ble_eq_true rfl⟩) (q_preS X hP hS _) rfl rfl hl.1 rfl (lv_room (Nat.le_of_ble_eq_true rfl)) dX4_findPrinter_7 ⟨Nat.le_of_ble_eq_true rfl, Nat.le_of_ble_eq_true rfl⟩) hS q_id q_id1 (fun r u t H locs ht hvm hw hB hz1 hk1 hS => ?_)
  obtain ⟨rfl, ⟨h_1, rfl⟩ | ⟨h_1, rfl⟩⟩ := hw
  · have hP : q_P g s0 n ad (C) H := q_back hB ht
    have h_1 : (1) ≤ a ∧ a ≤ (8) := h_1
    refine q_if_eq (tgt := 24) X (by decide) dX4_findPrinter_10 (by decide) (fun h => absurd h (by decide)) (fun _ => ?_)
    refine lv_aload_n X.1 X.2.1 dX4_findPrinter_13 rfl (lv_at hl 0 rfl) ?_
    refine q_get (index := 11) (v := .ref (ad 6 0)) X hP 4 0 0 rfl rfl (by decide) in4 (c_v4 hC) (by decide) (by decide +kernel) (c_r hC ad 0 6 (by decide)) dX4_findPrinter_14 ?_
    refine lv_iload_n X.1 X.2.1 dX4_findPrinter_17 rfl (lv_at hl 1 rfl) ?_
    refine lv_iconst (v := iI (1)) X.1 X.2.1 dX4_findPrinter_18 rfl ?_
    refine q_isub X dX4_findPrinter_19 ?_
    refine q_rldv (len := 8) (v := (C 6 (((a - (1))).toNat) 0)) X hP 6 0 2 3 (by decide) rfl rfl rfl (c_va hC 0 6 (by decide)) rfl (by omega) (by omega) rfl dX4_findPrinter_20 ?_
    by_cases h_3 : (C 6 (((a - (1))).toNat) 0) = 0
    · rw [q_rf0 ad 2 h_3]
      refine lv_goto (tgt := 25) X.1 X.2.1 dX4_findPrinter_21 (by decide) ?_
      refine lv_astore_nN (lv' := [(2, .null), (0, .ref (ad 4 0)), (1, .int (iI a))]) X.1 X.2.1 dX4_findPrinter_25 rfl hl (by decide) rfl (fun ls hl => ?_)
      refine lv_aload_nN X.1 X.2.1 dX4_findPrinter_26 rfl (lv_at hl 0 rfl) ?_
      refine lv_ifnonnullN X.1 X.2.1 dX4_findPrinter_27 ?_
      exact q_throw X htr hnx hlocks (cls := "java/util/NoSuchElementException") (ik := 197) (ic := 199) (by decide) (by decide +kernel) (by decide +kernel) (by decide +kernel) xb_199 xg_197_199 hP hS hl.1 dX4_findPrinter_30 dX4_findPrinter_33 dX4_findPrinter_34 dX4_findPrinter_37 (Nat.le_of_ble_eq_true rfl) (Nat.le_of_ble_eq_true rfl) (Nat.le_of_ble_eq_true rfl) (Nat.le_of_ble_eq_true rfl) ⟨rfl, by have q := c_R6n hR h_3; omega⟩ (Nat.le_of_ble_eq_true rfl) (Nat.le_of_ble_eq_true rfl)
    · rw [q_rf1 ad 2 h_3]
      have vh_3 : ((C 6 (((a - (1))).toNat) 0) - 1).toNat < n 2 := q_rfl (hP.tok 6 (((a - (1))).toNat) 0 rfl) h_3
      refine lv_goto (tgt := 25) X.1 X.2.1 dX4_findPrinter_21 (by decide) ?_
      refine lv_astore_n (lv' := [(2, .ref (ad 2 (((C 6 (((a - (1))).toNat) 0) - 1).toNat))), (0, .ref (ad 4 0)), (1, .int (iI a))]) X.1 X.2.1 dX4_findPrinter_25 rfl hl (by decide) rfl (fun ls hl => ?_)
      refine lv_aload_n X.1 X.2.1 dX4_findPrinter_26 rfl (lv_at hl 0 rfl) ?_
      refine lv_ifnonnull (tgt := 38) X.1 X.2.1 dX4_findPrinter_27 (by decide) ?_
      refine lv_aload_n X.1 X.2.1 dX4_findPrinter_38 rfl (lv_at hl 0 rfl) ?_
      obtain ⟨q1, q2⟩ := c_R6y hR h_3
      refine vx_ret ?_
      exact q_aret (r := some (ad 2 (((C 6 (((a - (1))).toNat) 0) - 1).toNat))) X hr hlocks hP hS ⟨rfl, ⟨by omega, by omega⟩, by rw [q2]⟩ (Nat.le_of_ble_eq_true rfl) (Nat.le_of_ble_eq_true rfl) dX4_findPrinter_39
  · have hP : q_P g s0 n ad (C) H := q_back hB ht
    have h_1 : ¬ ((1) ≤ a ∧ a ≤ (8)) := h_1
    refine q_if_eq (tgt := 24) X (by decide) dX4_findPrinter_10 (by decide) (fun _ => ?_) (fun h => absurd h (by decide))
    refine lv_null X.1 X.2.1 dX4_findPrinter_24 ?_
    refine lv_astore_nN (lv' := [(2, .null), (0, .ref (ad 4 0)), (1, .int (iI a))]) X.1 X.2.1 dX4_findPrinter_25 rfl hl (by decide) rfl (fun ls hl => ?_)
    refine lv_aload_nN X.1 X.2.1 dX4_findPrinter_26 rfl (lv_at hl 0 rfl) ?_
    refine lv_ifnonnullN X.1 X.2.1 dX4_findPrinter_27 ?_
    exact q_throw X htr hnx hlocks (cls := "java/util/NoSuchElementException") (ik := 197) (ic := 199) (by decide) (by decide +kernel) (by decide +kernel) (by decide +kernel) xb_199 xg_197_199 hP hS hl.1 dX4_findPrinter_30 dX4_findPrinter_33 dX4_findPrinter_34 dX4_findPrinter_37 (Nat.le_of_ble_eq_true rfl) (Nat.le_of_ble_eq_true rfl) (Nat.le_of_ble_eq_true rfl) (Nat.le_of_ble_eq_true rfl) ⟨rfl, by omega⟩ (Nat.le_of_ble_eq_true rfl) (Nat.le_of_ble_eq_true rfl)
set_option maxHeartbeats 4000000 in
set_option maxRecDepth 100000 in
theorem c_X4_findTicket (l : Launch) (htr : l.stackTraces = false) (g : q_G) (s0 : Nat) (n : Nat → Nat) (ad : Nat → Nat → Nat) (C : q_S) (c0 : Nat) (hC : c_S C n) (hR : c_R C n c0) (a : Int) (ha : R32 a) : vx_Met l yX4_findTicket wsX4_findTicket ({ frames := 6, cells := 1, slots := 6, locals := 90 }) (va_Pc [.ref (ad 4 0), .int (iI a)] (q_B g s0 (n, ad, C))) (va_Qq (fun r u => u = (n, ad, C) ∧ (1 ≤ a ∧ a ≤ (n 3 : Int)) ∧ r = some (ad 3 (a - 1).toNat)) (q_B g s0) (q_A s0)) (q_XC g s0 (n, ad, C) (x_find (n 3) a)) 1 6 (q_A s0) := by
  refine vx_ofW (cc := cX4_findTicket) (maxL := 3) (ret := (some (.object "PrintQueue$Ticket"))) (by decide) rfl ?_
  intro p e s m args below meth c s₁ B hml hnx hv
  obtain ⟨rfl, hv⟩ := hv
  have hr := B.returns
  have hlocks := B.notSynchronized
  obtain ⟨X, hP⟩ := q_start B.exec B.bytes hml (show s.vm.findClass RX4 = some m.cls from findClass_of_methodNamed B.named) (atoms_spec (ws := wsX4_findTicket) B.pre) hv
  have hP : q_P g s0 n ad C s.heap := hP
  have hS : va_S (q_A s0) s.heap s.heap [] := va_S.rf
  have in4 : ∀ w ∈ wsX40, w ∈ wsX4_findTicket := by decide +kernel
  have f0 := c_Rt hR
  have hl := lv_entry ([.ref (ad 4 0), .int (iI a)]) (n := 3) (Nat.le_of_ble_eq_true rfl)
  rw [lg_entry_eq]
  generalize (lg_sl ([.ref (ad 4 0), .int (iI a)]) ++ List.replicate (3 - (lg_sl ([.ref (ad 4 0), .int (iI a)])).length) Slot.unset).toArray = ls at hl ⊢
  have hl : lv_has ls 3 [(0, .ref (ad 4 0)), (1, .int (iI a))] := hl
  refine lv_iload_n X.1 X.2.1 dX4_findTicket_0 rfl (lv_at hl 1 rfl) ?_
  refine lv_iconst (v := iI (1)) X.1 X.2.1 dX4_findTicket_1 rfl ?_
  refine lv_aload_n X.1 X.2.1 dX4_findTicket_2 rfl (lv_at hl 0 rfl) ?_
  refine q_get (index := 17) (v := .ref (ad 7 0)) X hP 4 1 0 rfl rfl (by decide) in4 (c_v4 hC) (by decide) (by decide +kernel) (c_r hC ad 1 7 (by decide)) dX4_findTicket_3 ?_
  refine q_len (z := 20) X hP 7 0 4 (by decide) rfl rfl (c_va hC 1 7 (by decide)) rfl dX4_findTicket_6 ?_
  refine va_calli (va_runS (As := [.int (iI a), .int (iI (1)), .int (iI (20))]) (rest := []) X.fix (c_X4_isWithin l g s0 n ad C a (1) (20) ha (by decide) (by decide)) (va_cwS 3 X.2.2.2.2.1 gX4_findTicket_X4_isWithin rfl rfl rfl (by decide +kernel) ⟨Nat.le_of_ble_eq_true rfl, Nat.le_of_ble_eq_true rfl⟩) (q_preS X hP hS _) rfl rfl hl.1 rfl (lv_room (Nat.le_of_ble_eq_true rfl)) dX4_findTicket_7 ⟨Nat.le_of_ble_eq_true rfl, Nat.le_of_ble_eq_true rfl⟩) hS q_id q_id1 (fun r u t H locs ht hvm hw hB hz1 hk1 hS => ?_)
  obtain ⟨rfl, ⟨h_1, rfl⟩ | ⟨h_1, rfl⟩⟩ := hw
  · have hP : q_P g s0 n ad (C) H := q_back hB ht
    have h_1 : (1) ≤ a ∧ a ≤ (20) := h_1
    refine q_if_eq (tgt := 24) X (by decide) dX4_findTicket_10 (by decide) (fun h => absurd h (by decide)) (fun _ => ?_)
    refine lv_aload_n X.1 X.2.1 dX4_findTicket_13 rfl (lv_at hl 0 rfl) ?_
    refine q_get (index := 17) (v := .ref (ad 7 0)) X hP 4 1 0 rfl rfl (by decide) in4 (c_v4 hC) (by decide) (by decide +kernel) (c_r hC ad 1 7 (by decide)) dX4_findTicket_14 ?_
    refine lv_iload_n X.1 X.2.1 dX4_findTicket_17 rfl (lv_at hl 1 rfl) ?_
    refine lv_iconst (v := iI (1)) X.1 X.2.1 dX4_findTicket_18 rfl ?_
    refine q_isub X dX4_findTicket_19 ?_
    refine q_rldv (len := 20) (v := (C 7 (((a - (1))).toNat) 0)) X hP 7 0 3 4 (by decide) rfl rfl rfl (c_va hC 1 7 (by decide)) rfl (by omega) (by omega) rfl dX4_findTicket_20 ?_
    by_cases h_3 : (C 7 (((a - (1))).toNat) 0) = 0
    · rw [q_rf0 ad 3 h_3]
      refine lv_goto (tgt := 25) X.1 X.2.1 dX4_findTicket_21 (by decide) ?_
      refine lv_astore_nN (lv' := [(2, .null), (0, .ref (ad 4 0)), (1, .int (iI a))]) X.1 X.2.1 dX4_findTicket_25 rfl hl (by decide) rfl (fun ls hl => ?_)
      refine lv_aload_nN X.1 X.2.1 dX4_findTicket_26 rfl (lv_at hl 0 rfl) ?_
      refine lv_ifnonnullN X.1 X.2.1 dX4_findTicket_27 ?_
      exact q_throw X htr hnx hlocks (cls := "java/util/NoSuchElementException") (ik := 197) (ic := 199) (by decide) (by decide +kernel) (by decide +kernel) (by decide +kernel) xb_199 xg_197_199 hP hS hl.1 dX4_findTicket_30 dX4_findTicket_33 dX4_findTicket_34 dX4_findTicket_37 (Nat.le_of_ble_eq_true rfl) (Nat.le_of_ble_eq_true rfl) (Nat.le_of_ble_eq_true rfl) (Nat.le_of_ble_eq_true rfl) ⟨rfl, by have q := c_R7n hR h_3; omega⟩ (Nat.le_of_ble_eq_true rfl) (Nat.le_of_ble_eq_true rfl)
    · rw [q_rf1 ad 3 h_3]
      have vh_3 : ((C 7 (((a - (1))).toNat) 0) - 1).toNat < n 3 := q_rfl (hP.tok 7 (((a - (1))).toNat) 0 rfl) h_3
      refine lv_goto (tgt := 25) X.1 X.2.1 dX4_findTicket_21 (by decide) ?_
      refine lv_astore_n (lv' := [(2, .ref (ad 3 (((C 7 (((a - (1))).toNat) 0) - 1).toNat))), (0, .ref (ad 4 0)), (1, .int (iI a))]) X.1 X.2.1 dX4_findTicket_25 rfl hl (by decide) rfl (fun ls hl => ?_)
      refine lv_aload_n X.1 X.2.1 dX4_findTicket_26 rfl (lv_at hl 0 rfl) ?_
      refine lv_ifnonnull (tgt := 38) X.1 X.2.1 dX4_findTicket_27 (by decide) ?_
      refine lv_aload_n X.1 X.2.1 dX4_findTicket_38 rfl (lv_at hl 0 rfl) ?_
      obtain ⟨q1, q2⟩ := c_R7y hR h_3
      refine vx_ret ?_
      exact q_aret (r := some (ad 3 (((C 7 (((a - (1))).toNat) 0) - 1).toNat))) X hr hlocks hP hS ⟨rfl, ⟨by omega, by omega⟩, by rw [q2]⟩ (Nat.le_of_ble_eq_true rfl) (Nat.le_of_ble_eq_true rfl) dX4_findTicket_39
  · have hP : q_P g s0 n ad (C) H := q_back hB ht
    have h_1 : ¬ ((1) ≤ a ∧ a ≤ (20)) := h_1
    refine q_if_eq (tgt := 24) X (by decide) dX4_findTicket_10 (by decide) (fun _ => ?_) (fun h => absurd h (by decide))
    refine lv_null X.1 X.2.1 dX4_findTicket_24 ?_
    refine lv_astore_nN (lv' := [(2, .null), (0, .ref (ad 4 0)), (1, .int (iI a))]) X.1 X.2.1 dX4_findTicket_25 rfl hl (by decide) rfl (fun ls hl => ?_)
    refine lv_aload_nN X.1 X.2.1 dX4_findTicket_26 rfl (lv_at hl 0 rfl) ?_
    refine lv_ifnonnullN X.1 X.2.1 dX4_findTicket_27 ?_
    exact q_throw X htr hnx hlocks (cls := "java/util/NoSuchElementException") (ik := 197) (ic := 199) (by decide) (by decide +kernel) (by decide +kernel) (by decide +kernel) xb_199 xg_197_199 hP hS hl.1 dX4_findTicket_30 dX4_findTicket_33 dX4_findTicket_34 dX4_findTicket_37 (Nat.le_of_ble_eq_true rfl) (Nat.le_of_ble_eq_true rfl) (Nat.le_of_ble_eq_true rfl) (Nat.le_of_ble_eq_true rfl) ⟨rfl, by omega⟩ (Nat.le_of_ble_eq_true rfl) (Nat.le_of_ble_eq_true rfl)
set_option maxHeartbeats 4000000 in
set_option maxRecDepth 100000 in
theorem c_X4_findJob (l : Launch) (htr : l.stackTraces = false) (g : q_G) (s0 : Nat) (n : Nat → Nat) (ad : Nat → Nat → Nat) (C : q_S) (c0 : Nat) (hC : c_S C n) (hR : c_R C n c0) (a : Int) (ha : R32 a) : vx_Met l yX4_findJob wsX4_findJob ({ frames := 6, cells := 1, slots := 6, locals := 90 }) (va_Pc [.ref (ad 4 0), .int (iI a)] (q_B g s0 (n, ad, C))) (va_Qq (fun r u => u = (n, ad, C) ∧ (1 ≤ a ∧ a ≤ (n 0 : Int)) ∧ r = some (ad 0 (a - 1).toNat)) (q_B g s0) (q_A s0)) (q_XC g s0 (n, ad, C) (x_find (n 0) a)) 1 6 (q_A s0) := by
  refine vx_ofW (cc := cX4_findJob) (maxL := 3) (ret := (some (.object "PrintQueue$Job"))) (by decide) rfl ?_
  intro p e s m args below meth c s₁ B hml hnx hv
  obtain ⟨rfl, hv⟩ := hv
  have hr := B.returns
  have hlocks := B.notSynchronized
  obtain ⟨X, hP⟩ := q_start B.exec B.bytes hml (show s.vm.findClass RX4 = some m.cls from findClass_of_methodNamed B.named) (atoms_spec (ws := wsX4_findJob) B.pre) hv
  have hP : q_P g s0 n ad C s.heap := hP
  have hS : va_S (q_A s0) s.heap s.heap [] := va_S.rf
  have in4 : ∀ w ∈ wsX40, w ∈ wsX4_findJob := by decide +kernel
  have f0 := c_Rj hR
  have hl := lv_entry ([.ref (ad 4 0), .int (iI a)]) (n := 3) (Nat.le_of_ble_eq_true rfl)
  rw [lg_entry_eq]
  generalize (lg_sl ([.ref (ad 4 0), .int (iI a)]) ++ List.replicate (3 - (lg_sl ([.ref (ad 4 0), .int (iI a)])).length) Slot.unset).toArray = ls at hl ⊢
  have hl : lv_has ls 3 [(0, .ref (ad 4 0)), (1, .int (iI a))] := hl
  refine lv_iload_n X.1 X.2.1 dX4_findJob_0 rfl (lv_at hl 1 rfl) ?_
  refine lv_iconst (v := iI (1)) X.1 X.2.1 dX4_findJob_1 rfl ?_
  refine lv_aload_n X.1 X.2.1 dX4_findJob_2 rfl (lv_at hl 0 rfl) ?_
  refine q_get (index := 23) (v := .ref (ad 8 0)) X hP 4 2 0 rfl rfl (by decide) in4 (c_v4 hC) (by decide) (by decide +kernel) (c_r hC ad 2 8 (by decide)) dX4_findJob_3 ?_
  refine q_len (z := 60) X hP 8 0 5 (by decide) rfl rfl (c_va hC 2 8 (by decide)) rfl dX4_findJob_6 ?_
  refine va_calli (va_runS (As := [.int (iI a), .int (iI (1)), .int (iI (60))]) (rest := []) X.fix (c_X4_isWithin l g s0 n ad C a (1) (60) ha (by decide) (by decide)) (va_cwS 3 X.2.2.2.2.1 gX4_findJob_X4_isWithin rfl rfl rfl (by decide +kernel) ⟨Nat.le_of_ble_eq_true rfl, Nat.le_of_ble_eq_true rfl⟩) (q_preS X hP hS _) rfl rfl hl.1 rfl (lv_room (Nat.le_of_ble_eq_true rfl)) dX4_findJob_7 ⟨Nat.le_of_ble_eq_true rfl, Nat.le_of_ble_eq_true rfl⟩) hS q_id q_id1 (fun r u t H locs ht hvm hw hB hz1 hk1 hS => ?_)
  obtain ⟨rfl, ⟨h_1, rfl⟩ | ⟨h_1, rfl⟩⟩ := hw
  · have hP : q_P g s0 n ad (C) H := q_back hB ht
    have h_1 : (1) ≤ a ∧ a ≤ (60) := h_1
    refine q_if_eq (tgt := 24) X (by decide) dX4_findJob_10 (by decide) (fun h => absurd h (by decide)) (fun _ => ?_)
    refine lv_aload_n X.1 X.2.1 dX4_findJob_13 rfl (lv_at hl 0 rfl) ?_
    refine q_get (index := 23) (v := .ref (ad 8 0)) X hP 4 2 0 rfl rfl (by decide) in4 (c_v4 hC) (by decide) (by decide +kernel) (c_r hC ad 2 8 (by decide)) dX4_findJob_14 ?_
    refine lv_iload_n X.1 X.2.1 dX4_findJob_17 rfl (lv_at hl 1 rfl) ?_
    refine lv_iconst (v := iI (1)) X.1 X.2.1 dX4_findJob_18 rfl ?_
    refine q_isub X dX4_findJob_19 ?_
    refine q_rldv (len := 60) (v := (C 8 (((a - (1))).toNat) 0)) X hP 8 0 0 5 (by decide) rfl rfl rfl (c_va hC 2 8 (by decide)) rfl (by omega) (by omega) rfl dX4_findJob_20 ?_
    by_cases h_3 : (C 8 (((a - (1))).toNat) 0) = 0
    · rw [q_rf0 ad 0 h_3]
      refine lv_goto (tgt := 25) X.1 X.2.1 dX4_findJob_21 (by decide) ?_
      refine lv_astore_nN (lv' := [(2, .null), (0, .ref (ad 4 0)), (1, .int (iI a))]) X.1 X.2.1 dX4_findJob_25 rfl hl (by decide) rfl (fun ls hl => ?_)
      refine lv_aload_nN X.1 X.2.1 dX4_findJob_26 rfl (lv_at hl 0 rfl) ?_
      refine lv_ifnonnullN X.1 X.2.1 dX4_findJob_27 ?_
      exact q_throw X htr hnx hlocks (cls := "java/util/NoSuchElementException") (ik := 197) (ic := 199) (by decide) (by decide +kernel) (by decide +kernel) (by decide +kernel) xb_199 xg_197_199 hP hS hl.1 dX4_findJob_30 dX4_findJob_33 dX4_findJob_34 dX4_findJob_37 (Nat.le_of_ble_eq_true rfl) (Nat.le_of_ble_eq_true rfl) (Nat.le_of_ble_eq_true rfl) (Nat.le_of_ble_eq_true rfl) ⟨rfl, by have q := c_R8n hR h_3; omega⟩ (Nat.le_of_ble_eq_true rfl) (Nat.le_of_ble_eq_true rfl)
    · rw [q_rf1 ad 0 h_3]
      have vh_3 : ((C 8 (((a - (1))).toNat) 0) - 1).toNat < n 0 := q_rfl (hP.tok 8 (((a - (1))).toNat) 0 rfl) h_3
      refine lv_goto (tgt := 25) X.1 X.2.1 dX4_findJob_21 (by decide) ?_
      refine lv_astore_n (lv' := [(2, .ref (ad 0 (((C 8 (((a - (1))).toNat) 0) - 1).toNat))), (0, .ref (ad 4 0)), (1, .int (iI a))]) X.1 X.2.1 dX4_findJob_25 rfl hl (by decide) rfl (fun ls hl => ?_)
      refine lv_aload_n X.1 X.2.1 dX4_findJob_26 rfl (lv_at hl 0 rfl) ?_
      refine lv_ifnonnull (tgt := 38) X.1 X.2.1 dX4_findJob_27 (by decide) ?_
      refine lv_aload_n X.1 X.2.1 dX4_findJob_38 rfl (lv_at hl 0 rfl) ?_
      obtain ⟨q1, q2⟩ := c_R8y hR h_3
      refine vx_ret ?_
      exact q_aret (r := some (ad 0 (((C 8 (((a - (1))).toNat) 0) - 1).toNat))) X hr hlocks hP hS ⟨rfl, ⟨by omega, by omega⟩, by rw [q2]⟩ (Nat.le_of_ble_eq_true rfl) (Nat.le_of_ble_eq_true rfl) dX4_findJob_39
  · have hP : q_P g s0 n ad (C) H := q_back hB ht
    have h_1 : ¬ ((1) ≤ a ∧ a ≤ (60)) := h_1
    refine q_if_eq (tgt := 24) X (by decide) dX4_findJob_10 (by decide) (fun _ => ?_) (fun h => absurd h (by decide))
    refine lv_null X.1 X.2.1 dX4_findJob_24 ?_
    refine lv_astore_nN (lv' := [(2, .null), (0, .ref (ad 4 0)), (1, .int (iI a))]) X.1 X.2.1 dX4_findJob_25 rfl hl (by decide) rfl (fun ls hl => ?_)
    refine lv_aload_nN X.1 X.2.1 dX4_findJob_26 rfl (lv_at hl 0 rfl) ?_
    refine lv_ifnonnullN X.1 X.2.1 dX4_findJob_27 ?_
    exact q_throw X htr hnx hlocks (cls := "java/util/NoSuchElementException") (ik := 197) (ic := 199) (by decide) (by decide +kernel) (by decide +kernel) (by decide +kernel) xb_199 xg_197_199 hP hS hl.1 dX4_findJob_30 dX4_findJob_33 dX4_findJob_34 dX4_findJob_37 (Nat.le_of_ble_eq_true rfl) (Nat.le_of_ble_eq_true rfl) (Nat.le_of_ble_eq_true rfl) (Nat.le_of_ble_eq_true rfl) ⟨rfl, by omega⟩ (Nat.le_of_ble_eq_true rfl) (Nat.le_of_ble_eq_true rfl)
set_option maxHeartbeats 4000000 in
set_option maxRecDepth 100000 in
theorem w_X4_reasonByPrinters {p : Program} {l : Launch} {e : Env} {s : State} {m : MethodId} {args : Array Value} {below : List Frame} {meth : Method} {c : Code} {Q : State → Prop} {g : q_G} {s0 : Nat} {n : Nat → Nat} {ad : Nat → Nat → Nat} {C : q_S} (X : q_X p s m args c cX4_reasonByPrinters 7 wsX4_reasonByPrinters RX4 g s0) (in0 : ∀ w ∈ wsX00, w ∈ wsX4_reasonByPrinters) (in1 : ∀ w ∈ wsX10, w ∈ wsX4_reasonByPrinters) (in2 : ∀ w ∈ wsX20, w ∈ wsX4_reasonByPrinters) (in3 : ∀ w ∈ wsX30, w ∈ wsX4_reasonByPrinters) (in4 : ∀ w ∈ wsX40, w ∈ wsX4_reasonByPrinters) (c0 : Nat) (hC : c_S C n) (hR : c_R C n c0) (j : Nat) (hj : j < n 0) (kx : ∀  (H : Heap) (locs : List Loc) (ls : Array Slot), (∀ z, z < n 2 → ¬ c_fp C j z (n 1) = 0 → ¬ C 2 4 z = 0) → q_P g s0 n ad C H → va_S (q_A s0) s.heap H locs → lv_has ls 7 [(2, .int (iI (c_sf C n j 8))), (0, .ref (ad 4 0)), (1, .ref (ad 0 j)), (3, .ref (ad 6 0)), (4, .int (iI (8)))] → W p l e ({ frames := 2, cells := 0, slots := 0, locals := 43 }) s m args below meth c H locs 0 0 Q (F0 m 59 ls [])) (ky : ∀  (H : Heap) (locs : List Loc) (ls : Array Slot), (∃ z, z < n 2 ∧ ¬ c_fp C j z (n 1) = 0 ∧ C 2 4 z = 0) → q_P g s0 n ad C H → va_S (q_A s0) s.heap H locs → lv_has ls 7 [(0, .ref (ad 4 0)), (1, .ref (ad 0 j)), (3, .ref (ad 6 0)), (4, .int (iI (8)))] → W p l e ({ frames := 2, cells := 0, slots := 0, locals := 43 }) s m args below meth c H locs 0 0 Q (F0 m 49 ls [])) :
    ∀ (N : Nat) (k : Nat) (H : Heap) (locs : List Loc) (ls : Array Slot), (8 < k + N) → (k ≤ 8) → (∀ z, z < k → z < n 2 → ¬ c_fp C j z (n 1) = 0 → ¬ C 2 4 z = 0) → q_P g s0 n ad C H → va_S (q_A s0) s.heap H locs → lv_has ls 7 [(5, .int (iI ((k : Nat) : Int))), (2, .int (iI (c_sf C n j k))), (0, .ref (ad 4 0)), (1, .ref (ad 0 j)), (3, .ref (ad 6 0)), (4, .int (iI (8)))] → W p l e ({ frames := 2, cells := 0, slots := 0, locals := 43 }) s m args below meth c H locs 0 0 Q (F0 m 14 ls []) := by
  intro N
  induction N with
  | zero =>
    intro k H locs ls h1 h2 h3 hP hS hl
    exact absurd h1 (by omega)
  | succ N ih =>
    intro k H locs ls h1 h2 h3 hP hS hl
    have f0 := c_Rp hR
    refine lv_iload X.1 X.2.1 dX4_reasonByPrinters_14 (lv_at hl 0 rfl) ?_
    refine lv_iload X.1 X.2.1 dX4_reasonByPrinters_16 (lv_at hl 5 rfl) ?_
    refine q_icmp_ge (tgt := 59) X (by omega) (by decide) dX4_reasonByPrinters_18 (by decide) (fun h_1 => ?_) (fun h_1 => ?_)
    · have ek : k = 8 := by omega
      have e_2 : (c_sf C n j k) = (c_sf C n j 8) := by rw [ek]
      have hl : lv_has ls 7 [(2, .int (iI (c_sf C n j 8))), (0, .ref (ad 4 0)), (1, .ref (ad 0 j)), (3, .ref (ad 6 0)), (4, .int (iI (8)))] := lv_cong (show lv_has ls 7 [(2, .int (iI (c_sf C n j k))), (0, .ref (ad 4 0)), (1, .ref (ad 0 j)), (3, .ref (ad 6 0)), (4, .int (iI (8)))] from lv_sub hl [1, 2, 3, 4, 5] rfl) (lv_cs (congrArg (fun z => Value.int (iI z)) e_2) (lv_cs rfl (lv_cs rfl (lv_cs rfl (lv_cs rfl rfl)))))
      exact kx _ _ ls (fun z z2 z3 => h3 z (by omega) z2 z3) hP hS hl
    · refine lv_aload_n X.1 X.2.1 dX4_reasonByPrinters_21 rfl (lv_at hl 4 rfl) ?_
      refine lv_iload X.1 X.2.1 dX4_reasonByPrinters_22 (lv_at hl 0 rfl) ?_
      by_cases h_3 : k < n 2
      · refine q_rldv (len := 8) (v := ((k : Nat) : Int) + 1) X hP 6 0 2 3 (by decide) rfl rfl rfl (c_va hC 0 6 (by decide)) rfl (by omega) (by omega) ((c_R6 hR k).trans (if_pos h_3)) dX4_reasonByPrinters_24 ?_
        rw [q_rf2]
        refine lv_astore (lv' := [(6, .ref (ad 2 k)), (5, .int (iI ((k : Nat) : Int))), (2, .int (iI (c_sf C n j k))), (0, .ref (ad 4 0)), (1, .ref (ad 0 j)), (3, .ref (ad 6 0)), (4, .int (iI (8)))]) X.1 X.2.1 dX4_reasonByPrinters_25 hl (by decide) rfl (fun ls hl => ?_)
        refine lv_aload X.1 X.2.1 dX4_reasonByPrinters_27 (lv_at hl 0 rfl) ?_
        refine lv_ifnull X.1 X.2.1 dX4_reasonByPrinters_29 ?_
        refine lv_aload_n X.1 X.2.1 dX4_reasonByPrinters_32 rfl (lv_at hl 4 rfl) ?_
        refine lv_aload X.1 X.2.1 dX4_reasonByPrinters_33 (lv_at hl 0 rfl) ?_
        refine va_callq (va_runS (As := [.ref (ad 0 j), .ref (ad 2 k)]) (rest := []) X.fix (c_X4_firstPartFor l g s0 n ad C c0 hR j hj k h_3) (va_cwS 2 X.2.2.2.2.1 gX4_reasonByPrinters_X4_firstPartFor rfl rfl rfl (by decide +kernel) ⟨Nat.le_of_ble_eq_true rfl, Nat.le_of_ble_eq_true rfl⟩) (q_preS X hP hS _) rfl rfl hl.1 rfl (lv_room (Nat.le_of_ble_eq_true rfl)) dX4_reasonByPrinters_35 ⟨Nat.le_of_ble_eq_true rfl, Nat.le_of_ble_eq_true rfl⟩) hS q_id q_id1 (fun r u t H locs ht hvm hw hB hz1 hk1 hS => ?_)
        obtain ⟨rfl, rfl⟩ := hw
        have hP : q_P g s0 n ad (C) H := q_back hB ht
        by_cases h_4 : (c_fp C j k (n 1)) = 0
        · rw [q_rf0 ad 1 h_4]
          refine lv_ifnullN (tgt := 53) X.1 X.2.1 dX4_reasonByPrinters_38 (by decide) ?_
          refine q_iinc (lv' := [(5, .int (iI (((k : Nat) : Int) + 1))), (6, .ref (ad 2 k)), (2, .int (iI (c_sf C n j k))), (0, .ref (ad 4 0)), (1, .ref (ad 0 j)), (3, .ref (ad 6 0)), (4, .int (iI (8)))]) (k := 1) X dX4_reasonByPrinters_53 hl rfl (by decide) rfl (fun ls hl => ?_)
          refine lv_goto (tgt := 14) X.1 X.2.1 dX4_reasonByPrinters_56 (by decide) ?_
          have h5 : ∀ z, z < k + 1 → z < n 2 → ¬ c_fp C j z (n 1) = 0 → ¬ C 2 4 z = 0 := fun z z1 z2 z3 => if e1 : z = k then (by subst e1; first | contradiction | assumption) else h3 z (by omega) z2 z3
          have e_5 : (((k : Nat) : Int) + 1) = (((k + 1) : Nat) : Int) := by omega
          have e_6 : (c_sf C n j k) = (c_sf C n j (k + 1)) := by rw [c_sf]; first | (rw [if_pos ⟨by assumption, by assumption⟩]; done) | (rw [if_neg (fun q => by obtain ⟨q1, q2⟩ := q; contradiction)]; done)
          have hl : lv_has ls 7 [(5, .int (iI (((k + 1) : Nat) : Int))), (2, .int (iI (c_sf C n j (k + 1)))), (0, .ref (ad 4 0)), (1, .ref (ad 0 j)), (3, .ref (ad 6 0)), (4, .int (iI (8)))] := lv_cong (show lv_has ls 7 [(5, .int (iI (((k : Nat) : Int) + 1))), (2, .int (iI (c_sf C n j k))), (0, .ref (ad 4 0)), (1, .ref (ad 0 j)), (3, .ref (ad 6 0)), (4, .int (iI (8)))] from lv_sub hl [0, 2, 3, 4, 5, 6] rfl) (lv_cs (congrArg (fun z => Value.int (iI z)) e_5) (lv_cs (congrArg (fun z => Value.int (iI z)) e_6) (lv_cs rfl (lv_cs rfl (lv_cs rfl (lv_cs rfl rfl))))))
          exact ih (k + 1) _ _ ls (by omega) (by omega) h5 hP hS hl
        · rw [q_rf1 ad 1 h_4]
          have vh_4 : ((c_fp C j k (n 1)) - 1).toNat < n 1 := c_fp_v h_4
          refine lv_ifnull X.1 X.2.1 dX4_reasonByPrinters_38 ?_
          refine lv_aload X.1 X.2.1 dX4_reasonByPrinters_41 (lv_at hl 0 rfl) ?_
          refine q_get (index := 87) (v := va_rf (q_rf ad 1 (C 2 4 k))) X hP 2 4 k rfl rfl (by decide) in2 h_3 (by decide) (by decide +kernel) rfl dX4_reasonByPrinters_43 ?_
          by_cases h_7 : (C 2 4 k) = 0
          · rw [q_rf0 ad 1 h_7]
            refine lv_ifnonnullN X.1 X.2.1 dX4_reasonByPrinters_46 ?_
            have hl : lv_has ls 7 [(0, .ref (ad 4 0)), (1, .ref (ad 0 j)), (3, .ref (ad 6 0)), (4, .int (iI (8)))] := lv_sub hl [3, 4, 5, 6] rfl
            exact ky _ _ ls ⟨k, by assumption, by assumption, by assumption⟩ hP hS hl
          · rw [q_rf1 ad 1 h_7]
            have vh_7 : ((C 2 4 k) - 1).toNat < n 1 := q_rfl (hP.tok 2 4 k rfl) h_7
            refine lv_ifnonnull (tgt := 51) X.1 X.2.1 dX4_reasonByPrinters_46 (by decide) ?_
            refine lv_iconst (v := iI (1)) X.1 X.2.1 dX4_reasonByPrinters_51 rfl ?_
            refine lv_istore_n (lv' := [(2, .int (iI (1))), (6, .ref (ad 2 k)), (5, .int (iI ((k : Nat) : Int))), (0, .ref (ad 4 0)), (1, .ref (ad 0 j)), (3, .ref (ad 6 0)), (4, .int (iI (8)))]) X.1 X.2.1 dX4_reasonByPrinters_52 rfl hl (by decide) rfl (fun ls hl => ?_)
            refine q_iinc (lv' := [(5, .int (iI (((k : Nat) : Int) + 1))), (2, .int (iI (1))), (6, .ref (ad 2 k)), (0, .ref (ad 4 0)), (1, .ref (ad 0 j)), (3, .ref (ad 6 0)), (4, .int (iI (8)))]) (k := 2) X dX4_reasonByPrinters_53 hl rfl (by decide) rfl (fun ls hl => ?_)
            refine lv_goto (tgt := 14) X.1 X.2.1 dX4_reasonByPrinters_56 (by decide) ?_
            have h5 : ∀ z, z < k + 1 → z < n 2 → ¬ c_fp C j z (n 1) = 0 → ¬ C 2 4 z = 0 := fun z z1 z2 z3 => if e1 : z = k then (by subst e1; first | contradiction | assumption) else h3 z (by omega) z2 z3
            have e_8 : (((k : Nat) : Int) + 1) = (((k + 1) : Nat) : Int) := by omega
            have e_9 : (1) = (c_sf C n j (k + 1)) := by rw [c_sf]; first | (rw [if_pos ⟨by assumption, by assumption⟩]; done) | (rw [if_neg (fun q => by obtain ⟨q1, q2⟩ := q; contradiction)]; done)
            have hl : lv_has ls 7 [(5, .int (iI (((k + 1) : Nat) : Int))), (2, .int (iI (c_sf C n j (k + 1)))), (0, .ref (ad 4 0)), (1, .ref (ad 0 j)), (3, .ref (ad 6 0)), (4, .int (iI (8)))] := lv_cong (show lv_has ls 7 [(5, .int (iI (((k : Nat) : Int) + 1))), (2, .int (iI (1))), (0, .ref (ad 4 0)), (1, .ref (ad 0 j)), (3, .ref (ad 6 0)), (4, .int (iI (8)))] from lv_sub hl [0, 1, 3, 4, 5, 6] rfl) (lv_cs (congrArg (fun z => Value.int (iI z)) e_8) (lv_cs (congrArg (fun z => Value.int (iI z)) e_9) (lv_cs rfl (lv_cs rfl (lv_cs rfl (lv_cs rfl rfl))))))
            exact ih (k + 1) _ _ ls (by omega) (by omega) h5 hP hS hl
      · refine q_rldv (len := 8) (v := 0) X hP 6 0 2 3 (by decide) rfl rfl rfl (c_va hC 0 6 (by decide)) rfl (by omega) (by omega) ((c_R6 hR k).trans (if_neg h_3)) dX4_reasonByPrinters_24 ?_
        rw [q_rf0 ad 2 rfl]
        refine lv_astoreN (lv' := [(6, .null), (5, .int (iI ((k : Nat) : Int))), (2, .int (iI (c_sf C n j k))), (0, .ref (ad 4 0)), (1, .ref (ad 0 j)), (3, .ref (ad 6 0)), (4, .int (iI (8)))]) X.1 X.2.1 dX4_reasonByPrinters_25 hl (by decide) rfl (fun ls hl => ?_)
        refine lv_aloadN X.1 X.2.1 dX4_reasonByPrinters_27 (lv_at hl 0 rfl) ?_
        refine lv_ifnullN (tgt := 53) X.1 X.2.1 dX4_reasonByPrinters_29 (by decide) ?_
        refine q_iinc (lv' := [(5, .int (iI (((k : Nat) : Int) + 1))), (6, .null), (2, .int (iI (c_sf C n j k))), (0, .ref (ad 4 0)), (1, .ref (ad 0 j)), (3, .ref (ad 6 0)), (4, .int (iI (8)))]) (k := 1) X dX4_reasonByPrinters_53 hl rfl (by decide) rfl (fun ls hl => ?_)
        refine lv_goto (tgt := 14) X.1 X.2.1 dX4_reasonByPrinters_56 (by decide) ?_
        have h5 : ∀ z, z < k + 1 → z < n 2 → ¬ c_fp C j z (n 1) = 0 → ¬ C 2 4 z = 0 := fun z z1 z2 z3 => if e1 : z = k then (by subst e1; first | contradiction | assumption) else h3 z (by omega) z2 z3
        have e_10 : (((k : Nat) : Int) + 1) = (((k + 1) : Nat) : Int) := by omega
        have e_11 : (c_sf C n j k) = (c_sf C n j (k + 1)) := by rw [c_sf]; first | (rw [if_pos ⟨by assumption, by assumption⟩]; done) | (rw [if_neg (fun q => by obtain ⟨q1, q2⟩ := q; contradiction)]; done)
        have hl : lv_has ls 7 [(5, .int (iI (((k + 1) : Nat) : Int))), (2, .int (iI (c_sf C n j (k + 1)))), (0, .ref (ad 4 0)), (1, .ref (ad 0 j)), (3, .ref (ad 6 0)), (4, .int (iI (8)))] := lv_cong (show lv_has ls 7 [(5, .int (iI (((k : Nat) : Int) + 1))), (2, .int (iI (c_sf C n j k))), (0, .ref (ad 4 0)), (1, .ref (ad 0 j)), (3, .ref (ad 6 0)), (4, .int (iI (8)))] from lv_sub hl [0, 2, 3, 4, 5, 6] rfl) (lv_cs (congrArg (fun z => Value.int (iI z)) e_10) (lv_cs (congrArg (fun z => Value.int (iI z)) e_11) (lv_cs rfl (lv_cs rfl (lv_cs rfl (lv_cs rfl rfl))))))
        exact ih (k + 1) _ _ ls (by omega) (by omega) h5 hP hS hl
def tX4_reasonByPrinters (n : Nat → Nat) (ad : Nat → Nat → Nat) (C : q_S) (j : Nat) (r : Int32) (u : q_U) : Prop :=
  (((∀ z, z < n 2 → ¬ c_fp C j z (n 1) = 0 → ¬ C 2 4 z = 0)) ∧ ((c_sf C n j 8) = (0)) ∧ u = (n, ad, C) ∧ r = iI (3)) ∨
  (((∀ z, z < n 2 → ¬ c_fp C j z (n 1) = 0 → ¬ C 2 4 z = 0)) ∧ (¬ (c_sf C n j 8) = (0)) ∧ u = (n, ad, C) ∧ r = iI (4)) ∨
  (((∃ z, z < n 2 ∧ ¬ c_fp C j z (n 1) = 0 ∧ C 2 4 z = 0)) ∧ u = (n, ad, C) ∧ r = iI (5))
set_option maxHeartbeats 4000000 in
set_option maxRecDepth 100000 in
theorem c_X4_reasonByPrinters (l : Launch) (g : q_G) (s0 : Nat) (n : Nat → Nat) (ad : Nat → Nat → Nat) (C : q_S) (c0 : Nat) (hC : c_S C n) (hR : c_R C n c0) (j : Nat) (hj : j < n 0) : Met l yX4_reasonByPrinters wsX4_reasonByPrinters ({ frames := 2, cells := 0, slots := 0, locals := 43 }) (va_Pc [.ref (ad 4 0), .ref (ad 0 j)] (q_B g s0 (n, ad, C))) (va_Qi (tX4_reasonByPrinters n ad C j) (q_B g s0) (q_A s0)) 0 0 (q_A s0) := by
  refine Met.ofW (cc := cX4_reasonByPrinters) (maxL := 7) (ret := (some .int)) (by decide) rfl ?_
  intro p e s m args below meth c s₁ B hml hv
  obtain ⟨rfl, hv⟩ := hv
  have hr := B.returns
  have hlocks := B.notSynchronized
  obtain ⟨X, hP⟩ := q_start B.exec B.bytes hml (show s.vm.findClass RX4 = some m.cls from findClass_of_methodNamed B.named) (atoms_spec (ws := wsX4_reasonByPrinters) B.pre) hv
  have hP : q_P g s0 n ad C s.heap := hP
  have hS : va_S (q_A s0) s.heap s.heap [] := va_S.rf
  have in0 : ∀ w ∈ wsX00, w ∈ wsX4_reasonByPrinters := by decide +kernel
  have in1 : ∀ w ∈ wsX10, w ∈ wsX4_reasonByPrinters := by decide +kernel
  have in2 : ∀ w ∈ wsX20, w ∈ wsX4_reasonByPrinters := by decide +kernel
  have in3 : ∀ w ∈ wsX30, w ∈ wsX4_reasonByPrinters := by decide +kernel
  have in4 : ∀ w ∈ wsX40, w ∈ wsX4_reasonByPrinters := by decide +kernel
  have hl := lv_entry ([.ref (ad 4 0), .ref (ad 0 j)]) (n := 7) (Nat.le_of_ble_eq_true rfl)
  rw [lg_entry_eq]
  generalize (lg_sl ([.ref (ad 4 0), .ref (ad 0 j)]) ++ List.replicate (7 - (lg_sl ([.ref (ad 4 0), .ref (ad 0 j)])).length) Slot.unset).toArray = ls at hl ⊢
  have hl : lv_has ls 7 [(0, .ref (ad 4 0)), (1, .ref (ad 0 j))] := hl
  refine lv_iconst (v := iI (0)) X.1 X.2.1 dX4_reasonByPrinters_0 rfl ?_
  refine lv_istore_n (lv' := [(2, .int (iI (0))), (0, .ref (ad 4 0)), (1, .ref (ad 0 j))]) X.1 X.2.1 dX4_reasonByPrinters_1 rfl hl (by decide) rfl (fun ls hl => ?_)
  refine lv_aload_n X.1 X.2.1 dX4_reasonByPrinters_2 rfl (lv_at hl 1 rfl) ?_
  refine q_get (index := 11) (v := .ref (ad 6 0)) X hP 4 0 0 rfl rfl (by decide) in4 (c_v4 hC) (by decide) (by decide +kernel) (c_r hC ad 0 6 (by decide)) dX4_reasonByPrinters_3 ?_
  refine lv_astore_n (lv' := [(3, .ref (ad 6 0)), (2, .int (iI (0))), (0, .ref (ad 4 0)), (1, .ref (ad 0 j))]) X.1 X.2.1 dX4_reasonByPrinters_6 rfl hl (by decide) rfl (fun ls hl => ?_)
  refine lv_aload_n X.1 X.2.1 dX4_reasonByPrinters_7 rfl (lv_at hl 0 rfl) ?_
  refine q_len (z := 8) X hP 6 0 3 (by decide) rfl rfl (c_va hC 0 6 (by decide)) rfl dX4_reasonByPrinters_8 ?_
  refine lv_istore (lv' := [(4, .int (iI (8))), (3, .ref (ad 6 0)), (2, .int (iI (0))), (0, .ref (ad 4 0)), (1, .ref (ad 0 j))]) X.1 X.2.1 dX4_reasonByPrinters_9 hl (by decide) rfl (fun ls hl => ?_)
  refine lv_iconst (v := iI (0)) X.1 X.2.1 dX4_reasonByPrinters_11 rfl ?_
  refine lv_istore (lv' := [(5, .int (iI (0))), (4, .int (iI (8))), (3, .ref (ad 6 0)), (2, .int (iI (0))), (0, .ref (ad 4 0)), (1, .ref (ad 0 j))]) X.1 X.2.1 dX4_reasonByPrinters_12 hl (by decide) rfl (fun ls hl => ?_)
  have e_1 : (0) = ((0 : Nat) : Int) := by rfl
  have e_2 : (0) = (c_sf C n j 0) := by rfl
  have hl : lv_has ls 7 [(5, .int (iI ((0 : Nat) : Int))), (2, .int (iI (c_sf C n j 0))), (0, .ref (ad 4 0)), (1, .ref (ad 0 j)), (3, .ref (ad 6 0)), (4, .int (iI (8)))] := lv_cong (show lv_has ls 7 [(5, .int (iI (0))), (2, .int (iI (0))), (0, .ref (ad 4 0)), (1, .ref (ad 0 j)), (3, .ref (ad 6 0)), (4, .int (iI (8)))] from lv_sub hl [0, 3, 4, 5, 2, 1] rfl) (lv_cs (congrArg (fun z => Value.int (iI z)) e_1) (lv_cs (congrArg (fun z => Value.int (iI z)) e_2) (lv_cs rfl (lv_cs rfl (lv_cs rfl (lv_cs rfl rfl))))))
  have f0 := c_Rp hR
  refine w_X4_reasonByPrinters X in0 in1 in2 in3 in4 c0 hC hR j hj (fun H locs ls hf hP hS hl => ?_) (fun H locs ls hf hP hS hl => ?_) 9 0 _ _ ls (by omega) (by omega) (fun z hz => by omega) hP hS hl
  · refine lv_iload_n X.1 X.2.1 dX4_reasonByPrinters_59 rfl (lv_at hl 0 rfl) ?_
    refine q_if_eq (tgt := 67) X (q_b32 (c_sf_b _ _ _ _)) dX4_reasonByPrinters_60 (by decide) (fun h_3 => ?_) (fun h_3 => ?_)
    · refine lv_iconst (v := iI (3)) X.1 X.2.1 dX4_reasonByPrinters_67 rfl ?_
      exact q_iret X hr hlocks hP hS (Or.inl (⟨hf, h_3, rfl, rfl⟩)) (Nat.le_of_ble_eq_true rfl) (Nat.le_of_ble_eq_true rfl) dX4_reasonByPrinters_68
    · refine lv_iconst (v := iI (4)) X.1 X.2.1 dX4_reasonByPrinters_63 rfl ?_
      refine lv_goto (tgt := 68) X.1 X.2.1 dX4_reasonByPrinters_64 (by decide) ?_
      exact q_iret X hr hlocks hP hS (Or.inr (Or.inl (⟨hf, h_3, rfl, rfl⟩))) (Nat.le_of_ble_eq_true rfl) (Nat.le_of_ble_eq_true rfl) dX4_reasonByPrinters_68
  · refine lv_iconst (v := iI (5)) X.1 X.2.1 dX4_reasonByPrinters_49 rfl ?_
    exact q_iret X hr hlocks hP hS (Or.inr (Or.inr (⟨hf, rfl, rfl⟩))) (Nat.le_of_ble_eq_true rfl) (Nat.le_of_ble_eq_true rfl) dX4_reasonByPrinters_50
set_option maxHeartbeats 4000000 in
set_option maxRecDepth 100000 in
theorem w_X4_choosePart {p : Program} {l : Launch} {e : Env} {s : State} {m : MethodId} {args : Array Value} {below : List Frame} {meth : Method} {c : Code} {Q : State → Prop} {g : q_G} {s0 : Nat} {n : Nat → Nat} {ad : Nat → Nat → Nat} {C : q_S} (X : q_X p s m args c cX4_choosePart 8 wsX4_choosePart RX4 g s0) (in0 : ∀ w ∈ wsX00, w ∈ wsX4_choosePart) (in1 : ∀ w ∈ wsX10, w ∈ wsX4_choosePart) (in2 : ∀ w ∈ wsX20, w ∈ wsX4_choosePart) (in3 : ∀ w ∈ wsX30, w ∈ wsX4_choosePart) (in4 : ∀ w ∈ wsX40, w ∈ wsX4_choosePart) (c0 : Nat) (hC : c_S C n) (hR : c_R C n c0) (p0 : Nat) (hp : p0 < n 2) (kx : ∀  (H : Heap) (locs : List Loc) (ls : Array Slot), q_P g s0 n ad C H → va_S (q_A s0) s.heap H locs → lv_has ls 8 [(2, va_rf (q_rf ad 1 (c_ch C n p0 60))), (0, .ref (ad 4 0)), (1, .ref (ad 2 p0)), (3, .ref (ad 8 0)), (4, .int (iI (60)))] → W p l e ({ frames := 2, cells := 0, slots := 0, locals := 43 }) s m args below meth c H locs 0 0 Q (F0 m 93 ls [])) :
    ∀ (N : Nat) (k : Nat) (H : Heap) (locs : List Loc) (ls : Array Slot), (60 < k + N) → (k ≤ 60) → q_P g s0 n ad C H → va_S (q_A s0) s.heap H locs → lv_has ls 8 [(5, .int (iI ((k : Nat) : Int))), (2, va_rf (q_rf ad 1 (c_ch C n p0 k))), (0, .ref (ad 4 0)), (1, .ref (ad 2 p0)), (3, .ref (ad 8 0)), (4, .int (iI (60)))] → W p l e ({ frames := 2, cells := 0, slots := 0, locals := 43 }) s m args below meth c H locs 0 0 Q (F0 m 14 ls []) := by
  intro N
  induction N with
  | zero =>
    intro k H locs ls h1 h2 hP hS hl
    exact absurd h1 (by omega)
  | succ N ih =>
    intro k H locs ls h1 h2 hP hS hl
    have f0 := c_Rj hR
    by_cases hb : (c_ch C n p0 k) = 0
    · rw [q_rf0 ad 1 hb] at hl
      refine lv_iload X.1 X.2.1 dX4_choosePart_14 (lv_at hl 0 rfl) ?_
      refine lv_iload X.1 X.2.1 dX4_choosePart_16 (lv_at hl 5 rfl) ?_
      refine q_icmp_ge (tgt := 93) X (by omega) (by decide) dX4_choosePart_18 (by decide) (fun h_1 => ?_) (fun h_1 => ?_)
      · have ek : k = 60 := by omega
        have e_2 : (.null : Value) = va_rf (q_rf ad 1 (c_ch C n p0 60)) := by subst ek; first | (rw [q_rf1 _ _ (by assumption)]; done) | (rw [q_rf0 _ _ (by assumption)]; done)
        have hl : lv_has ls 8 [(2, va_rf (q_rf ad 1 (c_ch C n p0 60))), (0, .ref (ad 4 0)), (1, .ref (ad 2 p0)), (3, .ref (ad 8 0)), (4, .int (iI (60)))] := lv_cong (show lv_has ls 8 [(2, .null), (0, .ref (ad 4 0)), (1, .ref (ad 2 p0)), (3, .ref (ad 8 0)), (4, .int (iI (60)))] from lv_sub hl [1, 2, 3, 4, 5] rfl) (lv_cs e_2 (lv_cs rfl (lv_cs rfl (lv_cs rfl (lv_cs rfl rfl)))))
        exact kx _ _ ls hP hS hl
      · refine lv_aload_n X.1 X.2.1 dX4_choosePart_21 rfl (lv_at hl 4 rfl) ?_
        refine lv_iload X.1 X.2.1 dX4_choosePart_22 (lv_at hl 0 rfl) ?_
        by_cases h_3 : k < n 0
        · refine q_rldv (len := 60) (v := ((k : Nat) : Int) + 1) X hP 8 0 0 5 (by decide) rfl rfl rfl (c_va hC 2 8 (by decide)) rfl (by omega) (by omega) ((c_R8 hR k).trans (if_pos h_3)) dX4_choosePart_24 ?_
          rw [q_rf2]
          refine lv_astore (lv' := [(6, .ref (ad 0 k)), (5, .int (iI ((k : Nat) : Int))), (2, .null), (0, .ref (ad 4 0)), (1, .ref (ad 2 p0)), (3, .ref (ad 8 0)), (4, .int (iI (60)))]) X.1 X.2.1 dX4_choosePart_25 hl (by decide) rfl (fun ls hl => ?_)
          refine lv_aload X.1 X.2.1 dX4_choosePart_27 (lv_at hl 0 rfl) ?_
          refine lv_ifnull X.1 X.2.1 dX4_choosePart_29 ?_
          refine lv_aload X.1 X.2.1 dX4_choosePart_32 (lv_at hl 0 rfl) ?_
          refine q_get (index := 133) (v := .int (iI (C 0 5 k))) X hP 0 5 k rfl rfl (by decide) in0 h_3 (by decide) (by decide +kernel) rfl dX4_choosePart_34 ?_
          refine q_if_ne (tgt := 87) X (q_b32 (hP.tok 0 5 k rfl)) dX4_choosePart_37 (by decide) (fun h_4 => ?_) (fun h_4 => ?_)
          · refine q_iinc (lv' := [(5, .int (iI (((k : Nat) : Int) + 1))), (6, .ref (ad 0 k)), (2, .null), (0, .ref (ad 4 0)), (1, .ref (ad 2 p0)), (3, .ref (ad 8 0)), (4, .int (iI (60)))]) (k := 1) X dX4_choosePart_87 hl rfl (by decide) rfl (fun ls hl => ?_)
            refine lv_goto (tgt := 14) X.1 X.2.1 dX4_choosePart_90 (by decide) ?_
            have e_5 : (((k : Nat) : Int) + 1) = (((k + 1) : Nat) : Int) := by omega
            have e_6 : (.null : Value) = va_rf (q_rf ad 1 (c_ch C n p0 (k + 1))) := by first | (rw [c_ch, if_pos ⟨by assumption, by assumption, by assumption, by assumption, by first | exact Or.inl (by assumption) | exact Or.inr (by assumption)⟩, q_rf1 _ _ (by assumption)]; done) | (rw [c_ch, if_neg (fun q => by obtain ⟨q1, q2, q3, q4, q5⟩ := q; first | contradiction | omega | (rcases q5 with q5 | q5 <;> contradiction))]; first | (rw [q_rf1 _ _ (by assumption)]; done) | (rw [q_rf0 _ _ (by assumption)]; done))
            have hl : lv_has ls 8 [(5, .int (iI (((k + 1) : Nat) : Int))), (2, va_rf (q_rf ad 1 (c_ch C n p0 (k + 1)))), (0, .ref (ad 4 0)), (1, .ref (ad 2 p0)), (3, .ref (ad 8 0)), (4, .int (iI (60)))] := lv_cong (show lv_has ls 8 [(5, .int (iI (((k : Nat) : Int) + 1))), (2, .null), (0, .ref (ad 4 0)), (1, .ref (ad 2 p0)), (3, .ref (ad 8 0)), (4, .int (iI (60)))] from lv_sub hl [0, 2, 3, 4, 5, 6] rfl) (lv_cs (congrArg (fun z => Value.int (iI z)) e_5) (lv_cs e_6 (lv_cs rfl (lv_cs rfl (lv_cs rfl (lv_cs rfl rfl))))))
            exact ih (k + 1) _ _ ls (by omega) (by omega) hP hS hl
          · refine lv_aload X.1 X.2.1 dX4_choosePart_40 (lv_at hl 0 rfl) ?_
            refine q_get (index := 185) (v := .long (jI (C 0 4 k))) X hP 0 4 k rfl rfl (by decide) in0 h_3 (by decide) (by decide +kernel) rfl dX4_choosePart_42 ?_
            refine lv_aload_n X.1 X.2.1 dX4_choosePart_45 rfl (lv_at hl 3 rfl) ?_
            refine q_get (index := 83) (v := .long (jI (C 4 10 0))) X hP 4 10 0 rfl rfl (by decide) in4 (c_v4 hC) (by decide) (by decide +kernel) rfl dX4_choosePart_46 ?_
            have f_7 := c_Rn hR
            refine q_lcmp_gt (tgt := 87) X (hP.tok 0 4 k rfl) (hP.tok 4 10 0 rfl) dX4_choosePart_49 dX4_choosePart_50 (by decide) (fun h_8 => ?_) (fun h_8 => ?_)
            · refine q_iinc (lv' := [(5, .int (iI (((k : Nat) : Int) + 1))), (6, .ref (ad 0 k)), (2, .null), (0, .ref (ad 4 0)), (1, .ref (ad 2 p0)), (3, .ref (ad 8 0)), (4, .int (iI (60)))]) (k := 1) X dX4_choosePart_87 hl rfl (by decide) rfl (fun ls hl => ?_)
              refine lv_goto (tgt := 14) X.1 X.2.1 dX4_choosePart_90 (by decide) ?_
              have e_9 : (((k : Nat) : Int) + 1) = (((k + 1) : Nat) : Int) := by omega
              have e_10 : (.null : Value) = va_rf (q_rf ad 1 (c_ch C n p0 (k + 1))) := by first | (rw [c_ch, if_pos ⟨by assumption, by assumption, by assumption, by assumption, by first | exact Or.inl (by assumption) | exact Or.inr (by assumption)⟩, q_rf1 _ _ (by assumption)]; done) | (rw [c_ch, if_neg (fun q => by obtain ⟨q1, q2, q3, q4, q5⟩ := q; first | contradiction | omega | (rcases q5 with q5 | q5 <;> contradiction))]; first | (rw [q_rf1 _ _ (by assumption)]; done) | (rw [q_rf0 _ _ (by assumption)]; done))
              have hl : lv_has ls 8 [(5, .int (iI (((k + 1) : Nat) : Int))), (2, va_rf (q_rf ad 1 (c_ch C n p0 (k + 1)))), (0, .ref (ad 4 0)), (1, .ref (ad 2 p0)), (3, .ref (ad 8 0)), (4, .int (iI (60)))] := lv_cong (show lv_has ls 8 [(5, .int (iI (((k : Nat) : Int) + 1))), (2, .null), (0, .ref (ad 4 0)), (1, .ref (ad 2 p0)), (3, .ref (ad 8 0)), (4, .int (iI (60)))] from lv_sub hl [0, 2, 3, 4, 5, 6] rfl) (lv_cs (congrArg (fun z => Value.int (iI z)) e_9) (lv_cs e_10 (lv_cs rfl (lv_cs rfl (lv_cs rfl (lv_cs rfl rfl))))))
              exact ih (k + 1) _ _ ls (by omega) (by omega) hP hS hl
            · refine lv_aload X.1 X.2.1 dX4_choosePart_53 (lv_at hl 0 rfl) ?_
              refine lv_aload_n X.1 X.2.1 dX4_choosePart_55 rfl (lv_at hl 4 rfl) ?_
              refine va_callq (va_runS (As := [.ref (ad 0 k), .ref (ad 2 p0)]) (rest := []) X.fix (c_X4_firstPartFor l g s0 n ad C c0 hR k h_3 p0 hp) (va_cwS 2 X.2.2.2.2.1 gX4_choosePart_X4_firstPartFor rfl rfl rfl (by decide +kernel) ⟨Nat.le_of_ble_eq_true rfl, Nat.le_of_ble_eq_true rfl⟩) (q_preS X hP hS _) rfl rfl hl.1 rfl (lv_room (Nat.le_of_ble_eq_true rfl)) dX4_choosePart_56 ⟨Nat.le_of_ble_eq_true rfl, Nat.le_of_ble_eq_true rfl⟩) hS q_id q_id1 (fun r u t H locs ht hvm hw hB hz1 hk1 hS => ?_)
              obtain ⟨rfl, rfl⟩ := hw
              have hP : q_P g s0 n ad (C) H := q_back hB ht
              by_cases h_11 : (c_fp C k p0 (n 1)) = 0
              · rw [q_rf0 ad 1 h_11]
                refine lv_astoreN (lv' := [(7, .null), (6, .ref (ad 0 k)), (5, .int (iI ((k : Nat) : Int))), (2, .null), (0, .ref (ad 4 0)), (1, .ref (ad 2 p0)), (3, .ref (ad 8 0)), (4, .int (iI (60)))]) X.1 X.2.1 dX4_choosePart_59 hl (by decide) rfl (fun ls hl => ?_)
                refine lv_aloadN X.1 X.2.1 dX4_choosePart_61 (lv_at hl 0 rfl) ?_
                refine lv_ifnullN (tgt := 87) X.1 X.2.1 dX4_choosePart_63 (by decide) ?_
                refine q_iinc (lv' := [(5, .int (iI (((k : Nat) : Int) + 1))), (7, .null), (6, .ref (ad 0 k)), (2, .null), (0, .ref (ad 4 0)), (1, .ref (ad 2 p0)), (3, .ref (ad 8 0)), (4, .int (iI (60)))]) (k := 2) X dX4_choosePart_87 hl rfl (by decide) rfl (fun ls hl => ?_)
                refine lv_goto (tgt := 14) X.1 X.2.1 dX4_choosePart_90 (by decide) ?_
                have e_12 : (((k : Nat) : Int) + 1) = (((k + 1) : Nat) : Int) := by omega
                have e_13 : (.null : Value) = va_rf (q_rf ad 1 (c_ch C n p0 (k + 1))) := by first | (rw [c_ch, if_pos ⟨by assumption, by assumption, by assumption, by assumption, by first | exact Or.inl (by assumption) | exact Or.inr (by assumption)⟩, q_rf1 _ _ (by assumption)]; done) | (rw [c_ch, if_neg (fun q => by obtain ⟨q1, q2, q3, q4, q5⟩ := q; first | contradiction | omega | (rcases q5 with q5 | q5 <;> contradiction))]; first | (rw [q_rf1 _ _ (by assumption)]; done) | (rw [q_rf0 _ _ (by assumption)]; done))
                have hl : lv_has ls 8 [(5, .int (iI (((k + 1) : Nat) : Int))), (2, va_rf (q_rf ad 1 (c_ch C n p0 (k + 1)))), (0, .ref (ad 4 0)), (1, .ref (ad 2 p0)), (3, .ref (ad 8 0)), (4, .int (iI (60)))] := lv_cong (show lv_has ls 8 [(5, .int (iI (((k : Nat) : Int) + 1))), (2, .null), (0, .ref (ad 4 0)), (1, .ref (ad 2 p0)), (3, .ref (ad 8 0)), (4, .int (iI (60)))] from lv_sub hl [0, 3, 4, 5, 6, 7] rfl) (lv_cs (congrArg (fun z => Value.int (iI z)) e_12) (lv_cs e_13 (lv_cs rfl (lv_cs rfl (lv_cs rfl (lv_cs rfl rfl))))))
                exact ih (k + 1) _ _ ls (by omega) (by omega) hP hS hl
              · rw [q_rf1 ad 1 h_11]
                have vh_11 : ((c_fp C k p0 (n 1)) - 1).toNat < n 1 := c_fp_v h_11
                refine lv_astore (lv' := [(7, .ref (ad 1 (((c_fp C k p0 (n 1)) - 1).toNat))), (6, .ref (ad 0 k)), (5, .int (iI ((k : Nat) : Int))), (2, .null), (0, .ref (ad 4 0)), (1, .ref (ad 2 p0)), (3, .ref (ad 8 0)), (4, .int (iI (60)))]) X.1 X.2.1 dX4_choosePart_59 hl (by decide) rfl (fun ls hl => ?_)
                refine lv_aload X.1 X.2.1 dX4_choosePart_61 (lv_at hl 0 rfl) ?_
                refine lv_ifnull X.1 X.2.1 dX4_choosePart_63 ?_
                refine lv_aload_nN X.1 X.2.1 dX4_choosePart_66 rfl (lv_at hl 3 rfl) ?_
                refine lv_ifnullN (tgt := 84) X.1 X.2.1 dX4_choosePart_67 (by decide) ?_
                refine lv_aload X.1 X.2.1 dX4_choosePart_84 (lv_at hl 0 rfl) ?_
                refine lv_astore_n (lv' := [(2, .ref (ad 1 (((c_fp C k p0 (n 1)) - 1).toNat))), (7, .ref (ad 1 (((c_fp C k p0 (n 1)) - 1).toNat))), (6, .ref (ad 0 k)), (5, .int (iI ((k : Nat) : Int))), (0, .ref (ad 4 0)), (1, .ref (ad 2 p0)), (3, .ref (ad 8 0)), (4, .int (iI (60)))]) X.1 X.2.1 dX4_choosePart_86 rfl hl (by decide) rfl (fun ls hl => ?_)
                refine q_iinc (lv' := [(5, .int (iI (((k : Nat) : Int) + 1))), (2, .ref (ad 1 (((c_fp C k p0 (n 1)) - 1).toNat))), (7, .ref (ad 1 (((c_fp C k p0 (n 1)) - 1).toNat))), (6, .ref (ad 0 k)), (0, .ref (ad 4 0)), (1, .ref (ad 2 p0)), (3, .ref (ad 8 0)), (4, .int (iI (60)))]) (k := 3) X dX4_choosePart_87 hl rfl (by decide) rfl (fun ls hl => ?_)
                refine lv_goto (tgt := 14) X.1 X.2.1 dX4_choosePart_90 (by decide) ?_
                have e_14 : (((k : Nat) : Int) + 1) = (((k + 1) : Nat) : Int) := by omega
                have e_15 : (.ref (ad 1 (((c_fp C k p0 (n 1)) - 1).toNat)) : Value) = va_rf (q_rf ad 1 (c_ch C n p0 (k + 1))) := by first | (rw [c_ch, if_pos ⟨by assumption, by assumption, by assumption, by assumption, by first | exact Or.inl (by assumption) | exact Or.inr (by assumption)⟩, q_rf1 _ _ (by assumption)]; done) | (rw [c_ch, if_neg (fun q => by obtain ⟨q1, q2, q3, q4, q5⟩ := q; first | contradiction | omega | (rcases q5 with q5 | q5 <;> contradiction))]; first | (rw [q_rf1 _ _ (by assumption)]; done) | (rw [q_rf0 _ _ (by assumption)]; done))
                have hl : lv_has ls 8 [(5, .int (iI (((k + 1) : Nat) : Int))), (2, va_rf (q_rf ad 1 (c_ch C n p0 (k + 1)))), (0, .ref (ad 4 0)), (1, .ref (ad 2 p0)), (3, .ref (ad 8 0)), (4, .int (iI (60)))] := lv_cong (show lv_has ls 8 [(5, .int (iI (((k : Nat) : Int) + 1))), (2, .ref (ad 1 (((c_fp C k p0 (n 1)) - 1).toNat))), (0, .ref (ad 4 0)), (1, .ref (ad 2 p0)), (3, .ref (ad 8 0)), (4, .int (iI (60)))] from lv_sub hl [0, 1, 4, 5, 6, 7] rfl) (lv_cs (congrArg (fun z => Value.int (iI z)) e_14) (lv_cs e_15 (lv_cs rfl (lv_cs rfl (lv_cs rfl (lv_cs rfl rfl))))))
                exact ih (k + 1) _ _ ls (by omega) (by omega) hP hS hl
        · refine q_rldv (len := 60) (v := 0) X hP 8 0 0 5 (by decide) rfl rfl rfl (c_va hC 2 8 (by decide)) rfl (by omega) (by omega) ((c_R8 hR k).trans (if_neg h_3)) dX4_choosePart_24 ?_
          rw [q_rf0 ad 0 rfl]
          refine lv_astoreN (lv' := [(6, .null), (5, .int (iI ((k : Nat) : Int))), (2, .null), (0, .ref (ad 4 0)), (1, .ref (ad 2 p0)), (3, .ref (ad 8 0)), (4, .int (iI (60)))]) X.1 X.2.1 dX4_choosePart_25 hl (by decide) rfl (fun ls hl => ?_)
          refine lv_aloadN X.1 X.2.1 dX4_choosePart_27 (lv_at hl 0 rfl) ?_
          refine lv_ifnullN (tgt := 87) X.1 X.2.1 dX4_choosePart_29 (by decide) ?_
          refine q_iinc (lv' := [(5, .int (iI (((k : Nat) : Int) + 1))), (6, .null), (2, .null), (0, .ref (ad 4 0)), (1, .ref (ad 2 p0)), (3, .ref (ad 8 0)), (4, .int (iI (60)))]) (k := 1) X dX4_choosePart_87 hl rfl (by decide) rfl (fun ls hl => ?_)
          refine lv_goto (tgt := 14) X.1 X.2.1 dX4_choosePart_90 (by decide) ?_
          have e_16 : (((k : Nat) : Int) + 1) = (((k + 1) : Nat) : Int) := by omega
          have e_17 : (.null : Value) = va_rf (q_rf ad 1 (c_ch C n p0 (k + 1))) := by first | (rw [c_ch, if_pos ⟨by assumption, by assumption, by assumption, by assumption, by first | exact Or.inl (by assumption) | exact Or.inr (by assumption)⟩, q_rf1 _ _ (by assumption)]; done) | (rw [c_ch, if_neg (fun q => by obtain ⟨q1, q2, q3, q4, q5⟩ := q; first | contradiction | omega | (rcases q5 with q5 | q5 <;> contradiction))]; first | (rw [q_rf1 _ _ (by assumption)]; done) | (rw [q_rf0 _ _ (by assumption)]; done))
          have hl : lv_has ls 8 [(5, .int (iI (((k + 1) : Nat) : Int))), (2, va_rf (q_rf ad 1 (c_ch C n p0 (k + 1)))), (0, .ref (ad 4 0)), (1, .ref (ad 2 p0)), (3, .ref (ad 8 0)), (4, .int (iI (60)))] := lv_cong (show lv_has ls 8 [(5, .int (iI (((k : Nat) : Int) + 1))), (2, .null), (0, .ref (ad 4 0)), (1, .ref (ad 2 p0)), (3, .ref (ad 8 0)), (4, .int (iI (60)))] from lv_sub hl [0, 2, 3, 4, 5, 6] rfl) (lv_cs (congrArg (fun z => Value.int (iI z)) e_16) (lv_cs e_17 (lv_cs rfl (lv_cs rfl (lv_cs rfl (lv_cs rfl rfl))))))
          exact ih (k + 1) _ _ ls (by omega) (by omega) hP hS hl
    · rw [q_rf1 ad 1 hb] at hl
      have vb : ((c_ch C n p0 k) - 1).toNat < n 1 := by have := c_ch_b C n p0 k; omega
      refine lv_iload X.1 X.2.1 dX4_choosePart_14 (lv_at hl 0 rfl) ?_
      refine lv_iload X.1 X.2.1 dX4_choosePart_16 (lv_at hl 5 rfl) ?_
      refine q_icmp_ge (tgt := 93) X (by omega) (by decide) dX4_choosePart_18 (by decide) (fun h_18 => ?_) (fun h_18 => ?_)
      · have ek : k = 60 := by omega
        have e_19 : (.ref (ad 1 (((c_ch C n p0 k) - 1).toNat)) : Value) = va_rf (q_rf ad 1 (c_ch C n p0 60)) := by subst ek; first | (rw [q_rf1 _ _ (by assumption)]; done) | (rw [q_rf0 _ _ (by assumption)]; done)
        have hl : lv_has ls 8 [(2, va_rf (q_rf ad 1 (c_ch C n p0 60))), (0, .ref (ad 4 0)), (1, .ref (ad 2 p0)), (3, .ref (ad 8 0)), (4, .int (iI (60)))] := lv_cong (show lv_has ls 8 [(2, .ref (ad 1 (((c_ch C n p0 k) - 1).toNat))), (0, .ref (ad 4 0)), (1, .ref (ad 2 p0)), (3, .ref (ad 8 0)), (4, .int (iI (60)))] from lv_sub hl [1, 2, 3, 4, 5] rfl) (lv_cs e_19 (lv_cs rfl (lv_cs rfl (lv_cs rfl (lv_cs rfl rfl)))))
        exact kx _ _ ls hP hS hl
      · refine lv_aload_n X.1 X.2.1 dX4_choosePart_21 rfl (lv_at hl 4 rfl) ?_
        refine lv_iload X.1 X.2.1 dX4_choosePart_22 (lv_at hl 0 rfl) ?_
        by_cases h_20 : k < n 0
        · refine q_rldv (len := 60) (v := ((k : Nat) : Int) + 1) X hP 8 0 0 5 (by decide) rfl rfl rfl (c_va hC 2 8 (by decide)) rfl (by omega) (by omega) ((c_R8 hR k).trans (if_pos h_20)) dX4_choosePart_24 ?_
          rw [q_rf2]
          refine lv_astore (lv' := [(6, .ref (ad 0 k)), (5, .int (iI ((k : Nat) : Int))), (2, .ref (ad 1 (((c_ch C n p0 k) - 1).toNat))), (0, .ref (ad 4 0)), (1, .ref (ad 2 p0)), (3, .ref (ad 8 0)), (4, .int (iI (60)))]) X.1 X.2.1 dX4_choosePart_25 hl (by decide) rfl (fun ls hl => ?_)
          refine lv_aload X.1 X.2.1 dX4_choosePart_27 (lv_at hl 0 rfl) ?_
          refine lv_ifnull X.1 X.2.1 dX4_choosePart_29 ?_
          refine lv_aload X.1 X.2.1 dX4_choosePart_32 (lv_at hl 0 rfl) ?_
          refine q_get (index := 133) (v := .int (iI (C 0 5 k))) X hP 0 5 k rfl rfl (by decide) in0 h_20 (by decide) (by decide +kernel) rfl dX4_choosePart_34 ?_
          refine q_if_ne (tgt := 87) X (q_b32 (hP.tok 0 5 k rfl)) dX4_choosePart_37 (by decide) (fun h_21 => ?_) (fun h_21 => ?_)
          · refine q_iinc (lv' := [(5, .int (iI (((k : Nat) : Int) + 1))), (6, .ref (ad 0 k)), (2, .ref (ad 1 (((c_ch C n p0 k) - 1).toNat))), (0, .ref (ad 4 0)), (1, .ref (ad 2 p0)), (3, .ref (ad 8 0)), (4, .int (iI (60)))]) (k := 1) X dX4_choosePart_87 hl rfl (by decide) rfl (fun ls hl => ?_)
            refine lv_goto (tgt := 14) X.1 X.2.1 dX4_choosePart_90 (by decide) ?_
            have e_22 : (((k : Nat) : Int) + 1) = (((k + 1) : Nat) : Int) := by omega
            have e_23 : (.ref (ad 1 (((c_ch C n p0 k) - 1).toNat)) : Value) = va_rf (q_rf ad 1 (c_ch C n p0 (k + 1))) := by first | (rw [c_ch, if_pos ⟨by assumption, by assumption, by assumption, by assumption, by first | exact Or.inl (by assumption) | exact Or.inr (by assumption)⟩, q_rf1 _ _ (by assumption)]; done) | (rw [c_ch, if_neg (fun q => by obtain ⟨q1, q2, q3, q4, q5⟩ := q; first | contradiction | omega | (rcases q5 with q5 | q5 <;> contradiction))]; first | (rw [q_rf1 _ _ (by assumption)]; done) | (rw [q_rf0 _ _ (by assumption)]; done))
            have hl : lv_has ls 8 [(5, .int (iI (((k + 1) : Nat) : Int))), (2, va_rf (q_rf ad 1 (c_ch C n p0 (k + 1)))), (0, .ref (ad 4 0)), (1, .ref (ad 2 p0)), (3, .ref (ad 8 0)), (4, .int (iI (60)))] := lv_cong (show lv_has ls 8 [(5, .int (iI (((k : Nat) : Int) + 1))), (2, .ref (ad 1 (((c_ch C n p0 k) - 1).toNat))), (0, .ref (ad 4 0)), (1, .ref (ad 2 p0)), (3, .ref (ad 8 0)), (4, .int (iI (60)))] from lv_sub hl [0, 2, 3, 4, 5, 6] rfl) (lv_cs (congrArg (fun z => Value.int (iI z)) e_22) (lv_cs e_23 (lv_cs rfl (lv_cs rfl (lv_cs rfl (lv_cs rfl rfl))))))
            exact ih (k + 1) _ _ ls (by omega) (by omega) hP hS hl
          · refine lv_aload X.1 X.2.1 dX4_choosePart_40 (lv_at hl 0 rfl) ?_
            refine q_get (index := 185) (v := .long (jI (C 0 4 k))) X hP 0 4 k rfl rfl (by decide) in0 h_20 (by decide) (by decide +kernel) rfl dX4_choosePart_42 ?_
            refine lv_aload_n X.1 X.2.1 dX4_choosePart_45 rfl (lv_at hl 3 rfl) ?_
            refine q_get (index := 83) (v := .long (jI (C 4 10 0))) X hP 4 10 0 rfl rfl (by decide) in4 (c_v4 hC) (by decide) (by decide +kernel) rfl dX4_choosePart_46 ?_
            have f_24 := c_Rn hR
            refine q_lcmp_gt (tgt := 87) X (hP.tok 0 4 k rfl) (hP.tok 4 10 0 rfl) dX4_choosePart_49 dX4_choosePart_50 (by decide) (fun h_25 => ?_) (fun h_25 => ?_)
            · refine q_iinc (lv' := [(5, .int (iI (((k : Nat) : Int) + 1))), (6, .ref (ad 0 k)), (2, .ref (ad 1 (((c_ch C n p0 k) - 1).toNat))), (0, .ref (ad 4 0)), (1, .ref (ad 2 p0)), (3, .ref (ad 8 0)), (4, .int (iI (60)))]) (k := 1) X dX4_choosePart_87 hl rfl (by decide) rfl (fun ls hl => ?_)
              refine lv_goto (tgt := 14) X.1 X.2.1 dX4_choosePart_90 (by decide) ?_
              have e_26 : (((k : Nat) : Int) + 1) = (((k + 1) : Nat) : Int) := by omega
              have e_27 : (.ref (ad 1 (((c_ch C n p0 k) - 1).toNat)) : Value) = va_rf (q_rf ad 1 (c_ch C n p0 (k + 1))) := by first | (rw [c_ch, if_pos ⟨by assumption, by assumption, by assumption, by assumption, by first | exact Or.inl (by assumption) | exact Or.inr (by assumption)⟩, q_rf1 _ _ (by assumption)]; done) | (rw [c_ch, if_neg (fun q => by obtain ⟨q1, q2, q3, q4, q5⟩ := q; first | contradiction | omega | (rcases q5 with q5 | q5 <;> contradiction))]; first | (rw [q_rf1 _ _ (by assumption)]; done) | (rw [q_rf0 _ _ (by assumption)]; done))
              have hl : lv_has ls 8 [(5, .int (iI (((k + 1) : Nat) : Int))), (2, va_rf (q_rf ad 1 (c_ch C n p0 (k + 1)))), (0, .ref (ad 4 0)), (1, .ref (ad 2 p0)), (3, .ref (ad 8 0)), (4, .int (iI (60)))] := lv_cong (show lv_has ls 8 [(5, .int (iI (((k : Nat) : Int) + 1))), (2, .ref (ad 1 (((c_ch C n p0 k) - 1).toNat))), (0, .ref (ad 4 0)), (1, .ref (ad 2 p0)), (3, .ref (ad 8 0)), (4, .int (iI (60)))] from lv_sub hl [0, 2, 3, 4, 5, 6] rfl) (lv_cs (congrArg (fun z => Value.int (iI z)) e_26) (lv_cs e_27 (lv_cs rfl (lv_cs rfl (lv_cs rfl (lv_cs rfl rfl))))))
              exact ih (k + 1) _ _ ls (by omega) (by omega) hP hS hl
            · refine lv_aload X.1 X.2.1 dX4_choosePart_53 (lv_at hl 0 rfl) ?_
              refine lv_aload_n X.1 X.2.1 dX4_choosePart_55 rfl (lv_at hl 4 rfl) ?_
              refine va_callq (va_runS (As := [.ref (ad 0 k), .ref (ad 2 p0)]) (rest := []) X.fix (c_X4_firstPartFor l g s0 n ad C c0 hR k h_20 p0 hp) (va_cwS 2 X.2.2.2.2.1 gX4_choosePart_X4_firstPartFor rfl rfl rfl (by decide +kernel) ⟨Nat.le_of_ble_eq_true rfl, Nat.le_of_ble_eq_true rfl⟩) (q_preS X hP hS _) rfl rfl hl.1 rfl (lv_room (Nat.le_of_ble_eq_true rfl)) dX4_choosePart_56 ⟨Nat.le_of_ble_eq_true rfl, Nat.le_of_ble_eq_true rfl⟩) hS q_id q_id1 (fun r u t H locs ht hvm hw hB hz1 hk1 hS => ?_)
              obtain ⟨rfl, rfl⟩ := hw
              have hP : q_P g s0 n ad (C) H := q_back hB ht
              by_cases h_28 : (c_fp C k p0 (n 1)) = 0
              · rw [q_rf0 ad 1 h_28]
                refine lv_astoreN (lv' := [(7, .null), (6, .ref (ad 0 k)), (5, .int (iI ((k : Nat) : Int))), (2, .ref (ad 1 (((c_ch C n p0 k) - 1).toNat))), (0, .ref (ad 4 0)), (1, .ref (ad 2 p0)), (3, .ref (ad 8 0)), (4, .int (iI (60)))]) X.1 X.2.1 dX4_choosePart_59 hl (by decide) rfl (fun ls hl => ?_)
                refine lv_aloadN X.1 X.2.1 dX4_choosePart_61 (lv_at hl 0 rfl) ?_
                refine lv_ifnullN (tgt := 87) X.1 X.2.1 dX4_choosePart_63 (by decide) ?_
                refine q_iinc (lv' := [(5, .int (iI (((k : Nat) : Int) + 1))), (7, .null), (6, .ref (ad 0 k)), (2, .ref (ad 1 (((c_ch C n p0 k) - 1).toNat))), (0, .ref (ad 4 0)), (1, .ref (ad 2 p0)), (3, .ref (ad 8 0)), (4, .int (iI (60)))]) (k := 2) X dX4_choosePart_87 hl rfl (by decide) rfl (fun ls hl => ?_)
                refine lv_goto (tgt := 14) X.1 X.2.1 dX4_choosePart_90 (by decide) ?_
                have e_29 : (((k : Nat) : Int) + 1) = (((k + 1) : Nat) : Int) := by omega
                have e_30 : (.ref (ad 1 (((c_ch C n p0 k) - 1).toNat)) : Value) = va_rf (q_rf ad 1 (c_ch C n p0 (k + 1))) := by first | (rw [c_ch, if_pos ⟨by assumption, by assumption, by assumption, by assumption, by first | exact Or.inl (by assumption) | exact Or.inr (by assumption)⟩, q_rf1 _ _ (by assumption)]; done) | (rw [c_ch, if_neg (fun q => by obtain ⟨q1, q2, q3, q4, q5⟩ := q; first | contradiction | omega | (rcases q5 with q5 | q5 <;> contradiction))]; first | (rw [q_rf1 _ _ (by assumption)]; done) | (rw [q_rf0 _ _ (by assumption)]; done))
                have hl : lv_has ls 8 [(5, .int (iI (((k + 1) : Nat) : Int))), (2, va_rf (q_rf ad 1 (c_ch C n p0 (k + 1)))), (0, .ref (ad 4 0)), (1, .ref (ad 2 p0)), (3, .ref (ad 8 0)), (4, .int (iI (60)))] := lv_cong (show lv_has ls 8 [(5, .int (iI (((k : Nat) : Int) + 1))), (2, .ref (ad 1 (((c_ch C n p0 k) - 1).toNat))), (0, .ref (ad 4 0)), (1, .ref (ad 2 p0)), (3, .ref (ad 8 0)), (4, .int (iI (60)))] from lv_sub hl [0, 3, 4, 5, 6, 7] rfl) (lv_cs (congrArg (fun z => Value.int (iI z)) e_29) (lv_cs e_30 (lv_cs rfl (lv_cs rfl (lv_cs rfl (lv_cs rfl rfl))))))
                exact ih (k + 1) _ _ ls (by omega) (by omega) hP hS hl
              · rw [q_rf1 ad 1 h_28]
                have vh_28 : ((c_fp C k p0 (n 1)) - 1).toNat < n 1 := c_fp_v h_28
                refine lv_astore (lv' := [(7, .ref (ad 1 (((c_fp C k p0 (n 1)) - 1).toNat))), (6, .ref (ad 0 k)), (5, .int (iI ((k : Nat) : Int))), (2, .ref (ad 1 (((c_ch C n p0 k) - 1).toNat))), (0, .ref (ad 4 0)), (1, .ref (ad 2 p0)), (3, .ref (ad 8 0)), (4, .int (iI (60)))]) X.1 X.2.1 dX4_choosePart_59 hl (by decide) rfl (fun ls hl => ?_)
                refine lv_aload X.1 X.2.1 dX4_choosePart_61 (lv_at hl 0 rfl) ?_
                refine lv_ifnull X.1 X.2.1 dX4_choosePart_63 ?_
                refine lv_aload_n X.1 X.2.1 dX4_choosePart_66 rfl (lv_at hl 3 rfl) ?_
                refine lv_ifnull X.1 X.2.1 dX4_choosePart_67 ?_
                refine lv_aload_n X.1 X.2.1 dX4_choosePart_70 rfl (lv_at hl 4 rfl) ?_
                refine lv_aload X.1 X.2.1 dX4_choosePart_71 (lv_at hl 1 rfl) ?_
                refine lv_aload_n X.1 X.2.1 dX4_choosePart_73 rfl (lv_at hl 3 rfl) ?_
                refine q_get (index := 101) (v := .ref (ad 0 ((C 1 0 (((c_ch C n p0 k) - 1).toNat) - 1).toNat))) X hP 1 0 (((c_ch C n p0 k) - 1).toNat) rfl rfl (by decide) in1 vb (by decide) (by decide +kernel) (q_vnn ad 0 (c_jn hR (((c_ch C n p0 k) - 1).toNat) vb)) dX4_choosePart_74 ?_
                refine lv_aload_n X.1 X.2.1 dX4_choosePart_77 rfl (lv_at hl 5 rfl) ?_
                refine va_calli (va_runV (As := [.ref (ad 0 k), .ref (ad 0 ((C 1 0 (((c_ch C n p0 k) - 1).toNat) - 1).toNat)), .ref (ad 2 p0)]) (rest := []) X.fix (c_X4_goesBefore l g s0 n ad C c0 hC hR k ((C 1 0 (((c_ch C n p0 k) - 1).toNat) - 1).toNat) p0 h_20 (q_rfl (hP.tok 1 0 (((c_ch C n p0 k) - 1).toNat) rfl) (c_jn hR (((c_ch C n p0 k) - 1).toNat) vb)) hp) (cwV 3 X.2.2.2.2.1 gX4_choosePart_X4_goesBefore rfl rfl rfl (by decide +kernel) ⟨Nat.le_of_ble_eq_true rfl, Nat.le_of_ble_eq_true rfl⟩) (q_preV X hP hS [.ref (ad 0 k), .ref (ad 0 ((C 1 0 (((c_ch C n p0 k) - 1).toNat) - 1).toNat)), .ref (ad 2 p0)] (kd := 4) (by decide) rfl (c_v4 hC)) rfl rfl hl.1 rfl (lv_room (Nat.le_of_ble_eq_true rfl)) dX4_choosePart_78 ⟨Nat.le_of_ble_eq_true rfl, Nat.le_of_ble_eq_true rfl⟩) hS q_id q_id1 (fun r u t H locs ht hvm hw hB hz1 hk1 hS => ?_)
                obtain ⟨rfl, ⟨h_31, rfl⟩ | ⟨h_31, rfl⟩⟩ := hw
                · have hP : q_P g s0 n ad (C) H := q_back hB ht
                  have h_31 : c_bef C k ((C 1 0 (((c_ch C n p0 k) - 1).toNat) - 1).toNat) p0 := h_31
                  refine q_if_eq (tgt := 87) X (by decide) dX4_choosePart_81 (by decide) (fun h => absurd h (by decide)) (fun _ => ?_)
                  refine lv_aload X.1 X.2.1 dX4_choosePart_84 (lv_at hl 0 rfl) ?_
                  refine lv_astore_n (lv' := [(2, .ref (ad 1 (((c_fp C k p0 (n 1)) - 1).toNat))), (7, .ref (ad 1 (((c_fp C k p0 (n 1)) - 1).toNat))), (6, .ref (ad 0 k)), (5, .int (iI ((k : Nat) : Int))), (0, .ref (ad 4 0)), (1, .ref (ad 2 p0)), (3, .ref (ad 8 0)), (4, .int (iI (60)))]) X.1 X.2.1 dX4_choosePart_86 rfl hl (by decide) rfl (fun ls hl => ?_)
                  refine q_iinc (lv' := [(5, .int (iI (((k : Nat) : Int) + 1))), (2, .ref (ad 1 (((c_fp C k p0 (n 1)) - 1).toNat))), (7, .ref (ad 1 (((c_fp C k p0 (n 1)) - 1).toNat))), (6, .ref (ad 0 k)), (0, .ref (ad 4 0)), (1, .ref (ad 2 p0)), (3, .ref (ad 8 0)), (4, .int (iI (60)))]) (k := 3) X dX4_choosePart_87 hl rfl (by decide) rfl (fun ls hl => ?_)
                  refine lv_goto (tgt := 14) X.1 X.2.1 dX4_choosePart_90 (by decide) ?_
                  have e_33 : (((k : Nat) : Int) + 1) = (((k + 1) : Nat) : Int) := by omega
                  have e_34 : (.ref (ad 1 (((c_fp C k p0 (n 1)) - 1).toNat)) : Value) = va_rf (q_rf ad 1 (c_ch C n p0 (k + 1))) := by first | (rw [c_ch, if_pos ⟨by assumption, by assumption, by assumption, by assumption, by first | exact Or.inl (by assumption) | exact Or.inr (by assumption)⟩, q_rf1 _ _ (by assumption)]; done) | (rw [c_ch, if_neg (fun q => by obtain ⟨q1, q2, q3, q4, q5⟩ := q; first | contradiction | omega | (rcases q5 with q5 | q5 <;> contradiction))]; first | (rw [q_rf1 _ _ (by assumption)]; done) | (rw [q_rf0 _ _ (by assumption)]; done))
                  have hl : lv_has ls 8 [(5, .int (iI (((k + 1) : Nat) : Int))), (2, va_rf (q_rf ad 1 (c_ch C n p0 (k + 1)))), (0, .ref (ad 4 0)), (1, .ref (ad 2 p0)), (3, .ref (ad 8 0)), (4, .int (iI (60)))] := lv_cong (show lv_has ls 8 [(5, .int (iI (((k : Nat) : Int) + 1))), (2, .ref (ad 1 (((c_fp C k p0 (n 1)) - 1).toNat))), (0, .ref (ad 4 0)), (1, .ref (ad 2 p0)), (3, .ref (ad 8 0)), (4, .int (iI (60)))] from lv_sub hl [0, 1, 4, 5, 6, 7] rfl) (lv_cs (congrArg (fun z => Value.int (iI z)) e_33) (lv_cs e_34 (lv_cs rfl (lv_cs rfl (lv_cs rfl (lv_cs rfl rfl))))))
                  exact ih (k + 1) _ _ ls (by omega) (by omega) hP hS hl
                · have hP : q_P g s0 n ad (C) H := q_back hB ht
                  have h_31 : ¬ (c_bef C k ((C 1 0 (((c_ch C n p0 k) - 1).toNat) - 1).toNat) p0) := h_31
                  refine q_if_eq (tgt := 87) X (by decide) dX4_choosePart_81 (by decide) (fun _ => ?_) (fun h => absurd h (by decide))
                  refine q_iinc (lv' := [(5, .int (iI (((k : Nat) : Int) + 1))), (7, .ref (ad 1 (((c_fp C k p0 (n 1)) - 1).toNat))), (6, .ref (ad 0 k)), (2, .ref (ad 1 (((c_ch C n p0 k) - 1).toNat))), (0, .ref (ad 4 0)), (1, .ref (ad 2 p0)), (3, .ref (ad 8 0)), (4, .int (iI (60)))]) (k := 2) X dX4_choosePart_87 hl rfl (by decide) rfl (fun ls hl => ?_)
                  refine lv_goto (tgt := 14) X.1 X.2.1 dX4_choosePart_90 (by decide) ?_
                  have e_36 : (((k : Nat) : Int) + 1) = (((k + 1) : Nat) : Int) := by omega
                  have e_37 : (.ref (ad 1 (((c_ch C n p0 k) - 1).toNat)) : Value) = va_rf (q_rf ad 1 (c_ch C n p0 (k + 1))) := by first | (rw [c_ch, if_pos ⟨by assumption, by assumption, by assumption, by assumption, by first | exact Or.inl (by assumption) | exact Or.inr (by assumption)⟩, q_rf1 _ _ (by assumption)]; done) | (rw [c_ch, if_neg (fun q => by obtain ⟨q1, q2, q3, q4, q5⟩ := q; first | contradiction | omega | (rcases q5 with q5 | q5 <;> contradiction))]; first | (rw [q_rf1 _ _ (by assumption)]; done) | (rw [q_rf0 _ _ (by assumption)]; done))
                  have hl : lv_has ls 8 [(5, .int (iI (((k + 1) : Nat) : Int))), (2, va_rf (q_rf ad 1 (c_ch C n p0 (k + 1)))), (0, .ref (ad 4 0)), (1, .ref (ad 2 p0)), (3, .ref (ad 8 0)), (4, .int (iI (60)))] := lv_cong (show lv_has ls 8 [(5, .int (iI (((k : Nat) : Int) + 1))), (2, .ref (ad 1 (((c_ch C n p0 k) - 1).toNat))), (0, .ref (ad 4 0)), (1, .ref (ad 2 p0)), (3, .ref (ad 8 0)), (4, .int (iI (60)))] from lv_sub hl [0, 3, 4, 5, 6, 7] rfl) (lv_cs (congrArg (fun z => Value.int (iI z)) e_36) (lv_cs e_37 (lv_cs rfl (lv_cs rfl (lv_cs rfl (lv_cs rfl rfl))))))
                  exact ih (k + 1) _ _ ls (by omega) (by omega) hP hS hl
        · refine q_rldv (len := 60) (v := 0) X hP 8 0 0 5 (by decide) rfl rfl rfl (c_va hC 2 8 (by decide)) rfl (by omega) (by omega) ((c_R8 hR k).trans (if_neg h_20)) dX4_choosePart_24 ?_
          rw [q_rf0 ad 0 rfl]
          refine lv_astoreN (lv' := [(6, .null), (5, .int (iI ((k : Nat) : Int))), (2, .ref (ad 1 (((c_ch C n p0 k) - 1).toNat))), (0, .ref (ad 4 0)), (1, .ref (ad 2 p0)), (3, .ref (ad 8 0)), (4, .int (iI (60)))]) X.1 X.2.1 dX4_choosePart_25 hl (by decide) rfl (fun ls hl => ?_)
          refine lv_aloadN X.1 X.2.1 dX4_choosePart_27 (lv_at hl 0 rfl) ?_
          refine lv_ifnullN (tgt := 87) X.1 X.2.1 dX4_choosePart_29 (by decide) ?_
          refine q_iinc (lv' := [(5, .int (iI (((k : Nat) : Int) + 1))), (6, .null), (2, .ref (ad 1 (((c_ch C n p0 k) - 1).toNat))), (0, .ref (ad 4 0)), (1, .ref (ad 2 p0)), (3, .ref (ad 8 0)), (4, .int (iI (60)))]) (k := 1) X dX4_choosePart_87 hl rfl (by decide) rfl (fun ls hl => ?_)
          refine lv_goto (tgt := 14) X.1 X.2.1 dX4_choosePart_90 (by decide) ?_
          have e_38 : (((k : Nat) : Int) + 1) = (((k + 1) : Nat) : Int) := by omega
          have e_39 : (.ref (ad 1 (((c_ch C n p0 k) - 1).toNat)) : Value) = va_rf (q_rf ad 1 (c_ch C n p0 (k + 1))) := by first | (rw [c_ch, if_pos ⟨by assumption, by assumption, by assumption, by assumption, by first | exact Or.inl (by assumption) | exact Or.inr (by assumption)⟩, q_rf1 _ _ (by assumption)]; done) | (rw [c_ch, if_neg (fun q => by obtain ⟨q1, q2, q3, q4, q5⟩ := q; first | contradiction | omega | (rcases q5 with q5 | q5 <;> contradiction))]; first | (rw [q_rf1 _ _ (by assumption)]; done) | (rw [q_rf0 _ _ (by assumption)]; done))
          have hl : lv_has ls 8 [(5, .int (iI (((k + 1) : Nat) : Int))), (2, va_rf (q_rf ad 1 (c_ch C n p0 (k + 1)))), (0, .ref (ad 4 0)), (1, .ref (ad 2 p0)), (3, .ref (ad 8 0)), (4, .int (iI (60)))] := lv_cong (show lv_has ls 8 [(5, .int (iI (((k : Nat) : Int) + 1))), (2, .ref (ad 1 (((c_ch C n p0 k) - 1).toNat))), (0, .ref (ad 4 0)), (1, .ref (ad 2 p0)), (3, .ref (ad 8 0)), (4, .int (iI (60)))] from lv_sub hl [0, 2, 3, 4, 5, 6] rfl) (lv_cs (congrArg (fun z => Value.int (iI z)) e_38) (lv_cs e_39 (lv_cs rfl (lv_cs rfl (lv_cs rfl (lv_cs rfl rfl))))))
          exact ih (k + 1) _ _ ls (by omega) (by omega) hP hS hl
set_option maxHeartbeats 4000000 in
set_option maxRecDepth 100000 in
theorem c_X4_choosePart (l : Launch) (g : q_G) (s0 : Nat) (n : Nat → Nat) (ad : Nat → Nat → Nat) (C : q_S) (c0 : Nat) (hC : c_S C n) (hR : c_R C n c0) (p0 : Nat) (hp : p0 < n 2) : Met l yX4_choosePart wsX4_choosePart ({ frames := 2, cells := 0, slots := 0, locals := 43 }) (va_Pc [.ref (ad 4 0), .ref (ad 2 p0)] (q_B g s0 (n, ad, C))) (va_Qq (fun r u => u = (n, ad, C) ∧ r = q_rf ad 1 (c_ch C n p0 60)) (q_B g s0) (q_A s0)) 0 0 (q_A s0) := by
  refine Met.ofW (cc := cX4_choosePart) (maxL := 8) (ret := (some (.object "PrintQueue$Part"))) (by decide) rfl ?_
  intro p e s m args below meth c s₁ B hml hv
  obtain ⟨rfl, hv⟩ := hv
  have hr := B.returns
  have hlocks := B.notSynchronized
  obtain ⟨X, hP⟩ := q_start B.exec B.bytes hml (show s.vm.findClass RX4 = some m.cls from findClass_of_methodNamed B.named) (atoms_spec (ws := wsX4_choosePart) B.pre) hv
  have hP : q_P g s0 n ad C s.heap := hP
  have hS : va_S (q_A s0) s.heap s.heap [] := va_S.rf
  have in0 : ∀ w ∈ wsX00, w ∈ wsX4_choosePart := by decide +kernel
  have in1 : ∀ w ∈ wsX10, w ∈ wsX4_choosePart := by decide +kernel
  have in2 : ∀ w ∈ wsX20, w ∈ wsX4_choosePart := by decide +kernel
  have in3 : ∀ w ∈ wsX30, w ∈ wsX4_choosePart := by decide +kernel
  have in4 : ∀ w ∈ wsX40, w ∈ wsX4_choosePart := by decide +kernel
  have hl := lv_entry ([.ref (ad 4 0), .ref (ad 2 p0)]) (n := 8) (Nat.le_of_ble_eq_true rfl)
  rw [lg_entry_eq]
  generalize (lg_sl ([.ref (ad 4 0), .ref (ad 2 p0)]) ++ List.replicate (8 - (lg_sl ([.ref (ad 4 0), .ref (ad 2 p0)])).length) Slot.unset).toArray = ls at hl ⊢
  have hl : lv_has ls 8 [(0, .ref (ad 4 0)), (1, .ref (ad 2 p0))] := hl
  refine lv_null X.1 X.2.1 dX4_choosePart_0 ?_
  refine lv_astore_nN (lv' := [(2, .null), (0, .ref (ad 4 0)), (1, .ref (ad 2 p0))]) X.1 X.2.1 dX4_choosePart_1 rfl hl (by decide) rfl (fun ls hl => ?_)
  refine lv_aload_n X.1 X.2.1 dX4_choosePart_2 rfl (lv_at hl 1 rfl) ?_
  refine q_get (index := 23) (v := .ref (ad 8 0)) X hP 4 2 0 rfl rfl (by decide) in4 (c_v4 hC) (by decide) (by decide +kernel) (c_r hC ad 2 8 (by decide)) dX4_choosePart_3 ?_
  refine lv_astore_n (lv' := [(3, .ref (ad 8 0)), (2, .null), (0, .ref (ad 4 0)), (1, .ref (ad 2 p0))]) X.1 X.2.1 dX4_choosePart_6 rfl hl (by decide) rfl (fun ls hl => ?_)
  refine lv_aload_n X.1 X.2.1 dX4_choosePart_7 rfl (lv_at hl 0 rfl) ?_
  refine q_len (z := 60) X hP 8 0 5 (by decide) rfl rfl (c_va hC 2 8 (by decide)) rfl dX4_choosePart_8 ?_
  refine lv_istore (lv' := [(4, .int (iI (60))), (3, .ref (ad 8 0)), (2, .null), (0, .ref (ad 4 0)), (1, .ref (ad 2 p0))]) X.1 X.2.1 dX4_choosePart_9 hl (by decide) rfl (fun ls hl => ?_)
  refine lv_iconst (v := iI (0)) X.1 X.2.1 dX4_choosePart_11 rfl ?_
  refine lv_istore (lv' := [(5, .int (iI (0))), (4, .int (iI (60))), (3, .ref (ad 8 0)), (2, .null), (0, .ref (ad 4 0)), (1, .ref (ad 2 p0))]) X.1 X.2.1 dX4_choosePart_12 hl (by decide) rfl (fun ls hl => ?_)
  have e_1 : (0) = ((0 : Nat) : Int) := by rfl
  have e_2 : (.null : Value) = va_rf (q_rf ad 1 (c_ch C n p0 0)) := by rfl
  have hl : lv_has ls 8 [(5, .int (iI ((0 : Nat) : Int))), (2, va_rf (q_rf ad 1 (c_ch C n p0 0))), (0, .ref (ad 4 0)), (1, .ref (ad 2 p0)), (3, .ref (ad 8 0)), (4, .int (iI (60)))] := lv_cong (show lv_has ls 8 [(5, .int (iI (0))), (2, .null), (0, .ref (ad 4 0)), (1, .ref (ad 2 p0)), (3, .ref (ad 8 0)), (4, .int (iI (60)))] from lv_sub hl [0, 3, 4, 5, 2, 1] rfl) (lv_cs (congrArg (fun z => Value.int (iI z)) e_1) (lv_cs e_2 (lv_cs rfl (lv_cs rfl (lv_cs rfl (lv_cs rfl rfl))))))
  refine w_X4_choosePart X in0 in1 in2 in3 in4 c0 hC hR p0 hp (fun H locs ls hP hS hl => ?_) 61 0 _ _ ls (by omega) (by omega) hP hS hl
  by_cases hb : (c_ch C n p0 60) = 0
  · rw [q_rf0 ad 1 hb] at hl
    refine lv_aload_nN X.1 X.2.1 dX4_choosePart_93 rfl (lv_at hl 0 rfl) ?_
    exact q_aret (r := none) X hr hlocks hP hS ⟨rfl, by unfold q_rf; first | (rw [if_pos hb]; done) | (rw [if_neg hb]; done)⟩ (Nat.le_of_ble_eq_true rfl) (Nat.le_of_ble_eq_true rfl) dX4_choosePart_94
  · rw [q_rf1 ad 1 hb] at hl
    refine lv_aload_n X.1 X.2.1 dX4_choosePart_93 rfl (lv_at hl 0 rfl) ?_
    exact q_aret (r := (some (ad 1 (((c_ch C n p0 60) - 1).toNat)))) X hr hlocks hP hS ⟨rfl, by unfold q_rf; first | (rw [if_pos hb]; done) | (rw [if_neg hb]; done)⟩ (Nat.le_of_ble_eq_true rfl) (Nat.le_of_ble_eq_true rfl) dX4_choosePart_94
