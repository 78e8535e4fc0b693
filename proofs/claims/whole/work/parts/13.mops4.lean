set_option maxHeartbeats 4000000 in
set_option maxRecDepth 100000 in
theorem w_X5_cancel {p : Program} {l : Launch} {e : Env} {s : State} {m : MethodId} {args : Array Value} {below : List Frame} {meth : Method} {c : Code} {Q : State → Prop} {g : q_G} {s0 : Nat} {n : Nat → Nat} {ad : Nat → Nat → Nat} {C : q_S} (X : q_X p s m args c cX5_cancel 4 wsX5_cancel RX5 g s0) (in5 : ∀ w ∈ wsX50, w ∈ wsX5_cancel) (c0 : Nat) (hc0 : c0 ≤ 600) (hkp : C 5 17 0 ≤ c0) (a : Int) (ha : R32 a) (hE : ∀ k, m_S (m_cs C a k) n ∧ m_R (m_cs C a k) c0 ∧ (∀ i, 0 < m_cs C a k 41 i 0 → 0 ≤ m_cs C a k 25 (m_cs C a k 41 i 0).toNat 0) ∧ m_cs C a k 5 17 0 = C 5 17 0) (kx : ∀  (H : Heap) (locs : List Loc) (ls : Array Slot), q_P g s0 n ad (m_cs C a (C 5 17 0).toNat) H → va_S (q_A s0) s.heap H locs → lv_has ls 4 [(2, .int (iI (m_cn C a (C 5 17 0).toNat))), (0, .ref (ad 5 0)), (1, .int (iI a))] → W p l e ({ frames := 2, cells := 0, slots := 0, locals := 46 }) s m args below meth c H locs 0 0 Q (F0 m 100 ls [])) :
    ∀ (N : Nat) (k : Nat) (H : Heap) (locs : List Loc) (ls : Array Slot), (C 5 17 0 < (k : Int) + N) → ((k : Int) ≤ C 5 17 0) → q_P g s0 n ad ((m_cs C a k)) H → va_S (q_A s0) s.heap H locs → lv_has ls 4 [(3, .int (iI ((k : Nat) : Int))), (2, .int (iI (m_cn C a k))), (0, .ref (ad 5 0)), (1, .int (iI a))] → W p l e ({ frames := 2, cells := 0, slots := 0, locals := 46 }) s m args below meth c H locs 0 0 Q (F0 m 39 ls []) := by
  intro N
  induction N with
  | zero =>
    intro k H locs ls h1 h2 hP hS hl
    exact absurd h1 (by omega)
  | succ N ih =>
    intro k H locs ls h1 h2 hP hS hl
    obtain ⟨hM, hR, hA, hK⟩ := hE k
    have f0 := m_Rk hR
    refine lv_iload_n X.1 X.2.1 dX5_cancel_39 rfl (lv_at hl 0 rfl) ?_
    refine lv_aload_n X.1 X.2.1 dX5_cancel_40 rfl (lv_at hl 2 rfl) ?_
    refine q_get (index := 101) (v := .int (iI (((m_cs C a k)) 5 17 0))) X hP 5 17 0 rfl rfl (by decide) in5 (m_v5 hM) (by decide) (by decide +kernel) rfl dX5_cancel_41 ?_
    have f_1 := m_Rk hR
    refine q_icmp_ge (tgt := 100) X (by omega) (hP.tok 5 17 0 rfl) dX5_cancel_44 (by decide) (fun h_2 => ?_) (fun h_2 => ?_)
    · have ek : k = (C 5 17 0).toNat := by omega
      rw [ek] at hP
      have e_3 : (m_cn C a k) = (m_cn C a (C 5 17 0).toNat) := by rw [ek]
      have hl : lv_has ls 4 [(2, .int (iI (m_cn C a (C 5 17 0).toNat))), (0, .ref (ad 5 0)), (1, .int (iI a))] := lv_cong (show lv_has ls 4 [(2, .int (iI (m_cn C a k))), (0, .ref (ad 5 0)), (1, .int (iI a))] from lv_sub hl [1, 2, 3] rfl) (lv_cs (congrArg (fun z => Value.int (iI z)) e_3) (lv_cs rfl (lv_cs rfl rfl)))
      exact kx _ _ ls hP hS hl
    · refine lv_aload_n X.1 X.2.1 dX5_cancel_47 rfl (lv_at hl 2 rfl) ?_
      refine q_get (index := 51) (v := .ref (ad 38 0)) X hP 5 18 0 rfl rfl (by decide) in5 (m_v5 hM) (by decide) (by decide +kernel) (m_r hM ad 18 38 (by decide)) dX5_cancel_48 ?_
      refine lv_iload_n X.1 X.2.1 dX5_cancel_51 rfl (lv_at hl 0 rfl) ?_
      refine q_ildv (len := 4200) (v := (((m_cs C a k)) 38 k 0)) X hP 38 0 (by decide) rfl rfl (m_va hM 18 (by decide) rfl) rfl (by omega) (by omega) rfl dX5_cancel_52 ?_
      have f_4 := m_R38 hR k
      refine lv_iload_n X.1 X.2.1 dX5_cancel_53 rfl (lv_at hl 3 rfl) ?_
      refine q_icmp_ne (tgt := 94) X (hP.tok 38 k 0 rfl) ha dX5_cancel_54 (by decide) (fun h_5 => ?_) (fun h_5 => ?_)
      · refine q_iinc (lv' := [(3, .int (iI (((k : Nat) : Int) + 1))), (2, .int (iI (m_cn C a k))), (0, .ref (ad 5 0)), (1, .int (iI a))]) (k := 0) X dX5_cancel_94 hl rfl (by decide) rfl (fun ls hl => ?_)
        refine lv_goto (tgt := 39) X.1 X.2.1 dX5_cancel_97 (by decide) ?_
        have e_6 : (((k : Nat) : Int) + 1) = (((k + 1) : Nat) : Int) := by omega
        have e_7 : (m_cn C a k) = (m_cn C a (k + 1)) := by rw [m_cn]; first | (rw [if_pos ⟨by assumption, by assumption⟩]; done) | (rw [if_neg (fun q => by obtain ⟨q1, q2⟩ := q; contradiction)]; done)
        have hl : lv_has ls 4 [(3, .int (iI (((k + 1) : Nat) : Int))), (2, .int (iI (m_cn C a (k + 1)))), (0, .ref (ad 5 0)), (1, .int (iI a))] := lv_cong (show lv_has ls 4 [(3, .int (iI (((k : Nat) : Int) + 1))), (2, .int (iI (m_cn C a k))), (0, .ref (ad 5 0)), (1, .int (iI a))] from lv_sub hl [0, 1, 2, 3] rfl) (lv_cs (congrArg (fun z => Value.int (iI z)) e_6) (lv_cs (congrArg (fun z => Value.int (iI z)) e_7) (lv_cs rfl (lv_cs rfl rfl))))
        have eC : m_cs C a (k + 1) = (m_cs C a k) := by rw [m_cs, m_c1]; first | (rw [if_pos ⟨by assumption, by assumption⟩]; first | (rw [if_pos (by assumption)]; done) | (rw [if_neg (by omega)]; done)) | (rw [if_neg (fun q => by obtain ⟨q1, q2⟩ := q; contradiction)]; done)
        rw [← eC] at hP
        exact ih (k + 1) _ _ ls (by omega) (by omega) hP hS hl
      · refine lv_aload_n X.1 X.2.1 dX5_cancel_57 rfl (lv_at hl 2 rfl) ?_
        refine lv_iload_n X.1 X.2.1 dX5_cancel_58 rfl (lv_at hl 0 rfl) ?_
        refine va_calli (va_runV (As := [.int (iI ((k : Nat) : Int))]) (rest := []) X.fix (c_X5_isOver l g s0 n ad ((m_cs C a k)) hM k (by omega) (m_R38 hR _) (m_R39 hR _) (m_R32 hR _)) (cwV 1 X.2.2.2.2.1 gX5_cancel_X5_isOver rfl rfl rfl (by decide +kernel) ⟨Nat.le_of_ble_eq_true rfl, Nat.le_of_ble_eq_true rfl⟩) (q_preV X hP hS [.int (iI ((k : Nat) : Int))] (kd := 5) (by decide) rfl (m_v5 hM)) rfl rfl hl.1 rfl (lv_room (Nat.le_of_ble_eq_true rfl)) dX5_cancel_59 ⟨Nat.le_of_ble_eq_true rfl, Nat.le_of_ble_eq_true rfl⟩) hS q_id q_id1 (fun r u t H locs ht hvm hw hB hz1 hk1 hS => ?_)
        obtain ⟨rfl, ⟨h_8, rfl⟩ | ⟨h_8, rfl⟩⟩ := hw
        · have hP : q_P g s0 n ad ((m_cs C a k)) H := q_back hB ht
          have h_8 : m_over ((m_cs C a k)) k := h_8
          refine q_if_ne (tgt := 94) X (by decide) dX5_cancel_62 (by decide) (fun _ => ?_) (fun h => absurd h (by decide))
          refine q_iinc (lv' := [(3, .int (iI (((k : Nat) : Int) + 1))), (2, .int (iI (m_cn C a k))), (0, .ref (ad 5 0)), (1, .int (iI a))]) (k := 0) X dX5_cancel_94 hl rfl (by decide) rfl (fun ls hl => ?_)
          refine lv_goto (tgt := 39) X.1 X.2.1 dX5_cancel_97 (by decide) ?_
          have e_10 : (((k : Nat) : Int) + 1) = (((k + 1) : Nat) : Int) := by omega
          have e_11 : (m_cn C a k) = (m_cn C a (k + 1)) := by rw [m_cn]; first | (rw [if_pos ⟨by assumption, by assumption⟩]; done) | (rw [if_neg (fun q => by obtain ⟨q1, q2⟩ := q; contradiction)]; done)
          have hl : lv_has ls 4 [(3, .int (iI (((k + 1) : Nat) : Int))), (2, .int (iI (m_cn C a (k + 1)))), (0, .ref (ad 5 0)), (1, .int (iI a))] := lv_cong (show lv_has ls 4 [(3, .int (iI (((k : Nat) : Int) + 1))), (2, .int (iI (m_cn C a k))), (0, .ref (ad 5 0)), (1, .int (iI a))] from lv_sub hl [0, 1, 2, 3] rfl) (lv_cs (congrArg (fun z => Value.int (iI z)) e_10) (lv_cs (congrArg (fun z => Value.int (iI z)) e_11) (lv_cs rfl (lv_cs rfl rfl))))
          have eC : m_cs C a (k + 1) = (m_cs C a k) := by rw [m_cs, m_c1]; first | (rw [if_pos ⟨by assumption, by assumption⟩]; first | (rw [if_pos (by assumption)]; done) | (rw [if_neg (by omega)]; done)) | (rw [if_neg (fun q => by obtain ⟨q1, q2⟩ := q; contradiction)]; done)
          rw [← eC] at hP
          exact ih (k + 1) _ _ ls (by omega) (by omega) hP hS hl
        · have hP : q_P g s0 n ad ((m_cs C a k)) H := q_back hB ht
          have h_8 : ¬ (m_over ((m_cs C a k)) k) := h_8
          refine q_if_ne (tgt := 94) X (by decide) dX5_cancel_62 (by decide) (fun h => absurd h (by decide)) (fun _ => ?_)
          refine q_iinc (lv' := [(2, .int (iI ((m_cn C a k) + 1))), (3, .int (iI ((k : Nat) : Int))), (0, .ref (ad 5 0)), (1, .int (iI a))]) (k := 1) X dX5_cancel_65 hl rfl (by decide) rfl (fun ls hl => ?_)
          refine lv_aload_n X.1 X.2.1 dX5_cancel_68 rfl (lv_at hl 2 rfl) ?_
          refine q_get (index := 69) (v := .ref (ad 44 0)) X hP 5 24 0 rfl rfl (by decide) in5 (m_v5 hM) (by decide) (by decide +kernel) (m_r hM ad 24 44 (by decide)) dX5_cancel_69 ?_
          refine lv_iload_n X.1 X.2.1 dX5_cancel_72 rfl (lv_at hl 1 rfl) ?_
          refine lv_iconst (v := iI (0)) X.1 X.2.1 dX5_cancel_73 rfl ?_
          refine q_zstv (len := 4200) (x := (0)) (z := ((k : Nat) : Int)) X hP hS 44 0 (by decide) rfl rfl (m_va hM 24 (by decide) rfl) rfl (by omega) (by omega) (by decide) dX5_cancel_74 (fun H locs hP hS => ?_)
          have hP : q_P g s0 n ad (q_up ((m_cs C a k)) 44 k 0 ((0))) H := hP
          refine lv_aload_n X.1 X.2.1 dX5_cancel_75 rfl (lv_at hl 2 rfl) ?_
          refine q_get (index := 60) (v := .ref (ad 41 0)) X hP 5 21 0 rfl rfl (by decide) in5 (m_v5 hM) (by decide) (by decide +kernel) (m_r hM ad 21 41 (by decide)) dX5_cancel_76 ?_
          refine lv_iload_n X.1 X.2.1 dX5_cancel_79 rfl (lv_at hl 1 rfl) ?_
          refine q_ildv (len := 4200) (v := (((m_cs C a k)) 41 k 0)) X hP 41 0 (by decide) rfl rfl (m_va hM 21 (by decide) rfl) rfl (by omega) (by omega) rfl dX5_cancel_80 ?_
          have f_13 := m_R41 hR k
          refine q_if_le (tgt := 94) X (hP.tok 41 k 0 rfl) dX5_cancel_81 (by decide) (fun h_14 => ?_) (fun h_14 => ?_)
          · refine q_iinc (lv' := [(3, .int (iI (((k : Nat) : Int) + 1))), (2, .int (iI ((m_cn C a k) + 1))), (0, .ref (ad 5 0)), (1, .int (iI a))]) (k := 1) X dX5_cancel_94 hl rfl (by decide) rfl (fun ls hl => ?_)
            refine lv_goto (tgt := 39) X.1 X.2.1 dX5_cancel_97 (by decide) ?_
            have e_15 : (((k : Nat) : Int) + 1) = (((k + 1) : Nat) : Int) := by omega
            have e_16 : ((m_cn C a k) + 1) = (m_cn C a (k + 1)) := by rw [m_cn]; first | (rw [if_pos ⟨by assumption, by assumption⟩]; done) | (rw [if_neg (fun q => by obtain ⟨q1, q2⟩ := q; contradiction)]; done)
            have hl : lv_has ls 4 [(3, .int (iI (((k + 1) : Nat) : Int))), (2, .int (iI (m_cn C a (k + 1)))), (0, .ref (ad 5 0)), (1, .int (iI a))] := lv_cong (show lv_has ls 4 [(3, .int (iI (((k : Nat) : Int) + 1))), (2, .int (iI ((m_cn C a k) + 1))), (0, .ref (ad 5 0)), (1, .int (iI a))] from lv_sub hl [0, 1, 2, 3] rfl) (lv_cs (congrArg (fun z => Value.int (iI z)) e_15) (lv_cs (congrArg (fun z => Value.int (iI z)) e_16) (lv_cs rfl (lv_cs rfl rfl))))
            have eC : m_cs C a (k + 1) = q_up ((m_cs C a k)) 44 k 0 ((0)) := by rw [m_cs, m_c1]; first | (rw [if_pos ⟨by assumption, by assumption⟩]; first | (rw [if_pos (by assumption)]; done) | (rw [if_neg (by omega)]; done)) | (rw [if_neg (fun q => by obtain ⟨q1, q2⟩ := q; contradiction)]; done)
            rw [← eC] at hP
            exact ih (k + 1) _ _ ls (by omega) (by omega) hP hS hl
          · refine lv_aload_n X.1 X.2.1 dX5_cancel_84 rfl (lv_at hl 2 rfl) ?_
            refine lv_aload_n X.1 X.2.1 dX5_cancel_85 rfl (lv_at hl 2 rfl) ?_
            refine q_get (index := 60) (v := .ref (ad 41 0)) X hP 5 21 0 rfl rfl (by decide) in5 (m_v5 hM) (by decide) (by decide +kernel) (m_r hM ad 21 41 (by decide)) dX5_cancel_86 ?_
            refine lv_iload_n X.1 X.2.1 dX5_cancel_89 rfl (lv_at hl 1 rfl) ?_
            refine q_ildv (len := 4200) (v := (((m_cs C a k)) 41 k 0)) X hP 41 0 (by decide) rfl rfl (m_va hM 21 (by decide) rfl) rfl (by omega) (by omega) rfl dX5_cancel_90 ?_
            refine va_callv (va_runV (As := [.int (iI (((m_cs C a k)) 41 k 0))]) (rest := []) X.fix (c_X5_leave l g s0 n ad (q_up ((m_cs C a k)) 44 k 0 ((0))) (m_S.up hM (Or.inl (by decide))) (((m_cs C a k)) 41 k 0) (m_R41 hR k) (show 0 ≤ (m_cs C a k) 25 ((m_cs C a k) 41 k 0).toNat 0 ∧ (m_cs C a k) 25 ((m_cs C a k) 41 k 0).toNat 0 < 4200 from ⟨hA k (by assumption), (m_R25 hR _).2⟩)) (cwV 1 X.2.2.2.2.1 gX5_cancel_X5_leave rfl rfl rfl (by decide +kernel) ⟨Nat.le_of_ble_eq_true rfl, Nat.le_of_ble_eq_true rfl⟩) (q_preV X hP hS [.int (iI (((m_cs C a k)) 41 k 0))] (kd := 5) (by decide) rfl (m_v5 hM)) rfl rfl hl.1 rfl (lv_room (Nat.le_of_ble_eq_true rfl)) dX5_cancel_91 ⟨Nat.le_of_ble_eq_true rfl, Nat.le_of_ble_eq_true rfl⟩) hS q_id q_id1 (fun u t H locs ht hvm hw hB hz1 hk1 hS => ?_)
            obtain rfl := hw
            have hP : q_P g s0 n ad (m_leave (q_up ((m_cs C a k)) 44 k 0 ((0))) (((m_cs C a k)) 41 k 0)) H := q_back hB ht
            refine q_iinc (lv' := [(3, .int (iI (((k : Nat) : Int) + 1))), (2, .int (iI ((m_cn C a k) + 1))), (0, .ref (ad 5 0)), (1, .int (iI a))]) (k := 1) X dX5_cancel_94 hl rfl (by decide) rfl (fun ls hl => ?_)
            refine lv_goto (tgt := 39) X.1 X.2.1 dX5_cancel_97 (by decide) ?_
            have e_17 : (((k : Nat) : Int) + 1) = (((k + 1) : Nat) : Int) := by omega
            have e_18 : ((m_cn C a k) + 1) = (m_cn C a (k + 1)) := by rw [m_cn]; first | (rw [if_pos ⟨by assumption, by assumption⟩]; done) | (rw [if_neg (fun q => by obtain ⟨q1, q2⟩ := q; contradiction)]; done)
            have hl : lv_has ls 4 [(3, .int (iI (((k + 1) : Nat) : Int))), (2, .int (iI (m_cn C a (k + 1)))), (0, .ref (ad 5 0)), (1, .int (iI a))] := lv_cong (show lv_has ls 4 [(3, .int (iI (((k : Nat) : Int) + 1))), (2, .int (iI ((m_cn C a k) + 1))), (0, .ref (ad 5 0)), (1, .int (iI a))] from lv_sub hl [0, 1, 2, 3] rfl) (lv_cs (congrArg (fun z => Value.int (iI z)) e_17) (lv_cs (congrArg (fun z => Value.int (iI z)) e_18) (lv_cs rfl (lv_cs rfl rfl))))
            have eC : m_cs C a (k + 1) = m_leave (q_up ((m_cs C a k)) 44 k 0 ((0))) (((m_cs C a k)) 41 k 0) := by rw [m_cs, m_c1]; first | (rw [if_pos ⟨by assumption, by assumption⟩]; first | (rw [if_pos (by assumption)]; done) | (rw [if_neg (by omega)]; done)) | (rw [if_neg (fun q => by obtain ⟨q1, q2⟩ := q; contradiction)]; done)
            rw [← eC] at hP
            exact ih (k + 1) _ _ ls (by omega) (by omega) hP hS hl
def tX5_cancel (n : Nat → Nat) (ad : Nat → Nat → Nat) (C : q_S) (a : Int) (r : Int32) (u : q_U) : Prop :=
  ((1 ≤ a ∧ a ≤ C 5 10 0) ∧ ((m_st (q_up C 5 0 0 ((0))) a) ≤ (1)) ∧ u = (n, ad, q_up (m_cs (q_up C 5 0 0 (0)) a (C 5 17 0).toNat) 36 ((a).toNat) 0 ((1))) ∧ r = iI (m_cn (q_up C 5 0 0 (0)) a (C 5 17 0).toNat)) ∨
  ((1 ≤ a ∧ a ≤ C 5 10 0) ∧ ((1) < (m_st (q_up C 5 0 0 ((0))) a)) ∧ u = (n, ad, q_up C 5 0 0 ((0))) ∧ r = iI (0)) ∨
  ((¬ (1 ≤ a ∧ a ≤ C 5 10 0)) ∧ u = (n, ad, q_up C 5 0 0 ((1))) ∧ r = iI (0))
set_option maxHeartbeats 4000000 in
set_option maxRecDepth 100000 in
theorem c_X5_cancel (l : Launch) (g : q_G) (s0 : Nat) (n : Nat → Nat) (ad : Nat → Nat → Nat) (C : q_S) (c0 : Nat) (hM : m_S C n) (hR : m_R C c0) (hc0 : c0 ≤ 600) (a : Int) (ha : R32 a) (hE : ∀ k, m_S (m_cs (q_up C 5 0 0 (0)) a k) n ∧ m_R (m_cs (q_up C 5 0 0 (0)) a k) c0 ∧ (∀ i, 0 < m_cs (q_up C 5 0 0 (0)) a k 41 i 0 → 0 ≤ m_cs (q_up C 5 0 0 (0)) a k 25 (m_cs (q_up C 5 0 0 (0)) a k 41 i 0).toNat 0) ∧ m_cs (q_up C 5 0 0 (0)) a k 5 17 0 = C 5 17 0) : Met l yX5_cancel wsX5_cancel ({ frames := 2, cells := 0, slots := 0, locals := 46 }) (va_Pc [.ref (ad 5 0), .int (iI a)] (q_B g s0 (n, ad, C))) (va_Qi (tX5_cancel n ad C a) (q_B g s0) (q_A s0)) 0 0 (q_A s0) := by
  refine Met.ofW (cc := cX5_cancel) (maxL := 4) (ret := (some .int)) (by decide) rfl ?_
  intro p e s m args below meth c s₁ B hml hv
  obtain ⟨rfl, hv⟩ := hv
  have hr := B.returns
  have hlocks := B.notSynchronized
  obtain ⟨X, hP⟩ := q_start B.exec B.bytes hml (show s.vm.findClass RX5 = some m.cls from findClass_of_methodNamed B.named) (atoms_spec (ws := wsX5_cancel) B.pre) hv
  have hP : q_P g s0 n ad C s.heap := hP
  have hS : va_S (q_A s0) s.heap s.heap [] := va_S.rf
  have in5 : ∀ w ∈ wsX50, w ∈ wsX5_cancel := by decide +kernel
  have f0 := m_Rj hR
  have hl := lv_entry ([.ref (ad 5 0), .int (iI a)]) (n := 4) (Nat.le_of_ble_eq_true rfl)
  rw [lg_entry_eq]
  generalize (lg_sl ([.ref (ad 5 0), .int (iI a)]) ++ List.replicate (4 - (lg_sl ([.ref (ad 5 0), .int (iI a)])).length) Slot.unset).toArray = ls at hl ⊢
  have hl : lv_has ls 4 [(0, .ref (ad 5 0)), (1, .int (iI a))] := hl
  refine lv_aload_n X.1 X.2.1 dX5_cancel_0 rfl (lv_at hl 0 rfl) ?_
  refine lv_aload_n X.1 X.2.1 dX5_cancel_1 rfl (lv_at hl 0 rfl) ?_
  refine lv_iload_n X.1 X.2.1 dX5_cancel_2 rfl (lv_at hl 1 rfl) ?_
  refine va_calli (va_runV (As := [.int (iI a)]) (rest := [.ref (ad 5 0)]) X.fix (c_X5_isJob l g s0 n ad C c0 hM hR a ha) (cwV 1 X.2.2.2.2.1 gX5_cancel_X5_isJob rfl rfl rfl (by decide +kernel) ⟨Nat.le_of_ble_eq_true rfl, Nat.le_of_ble_eq_true rfl⟩) (q_preV X hP hS [.int (iI a)] (kd := 5) (by decide) rfl (m_v5 hM)) rfl rfl hl.1 rfl (lv_room (Nat.le_of_ble_eq_true rfl)) dX5_cancel_3 ⟨Nat.le_of_ble_eq_true rfl, Nat.le_of_ble_eq_true rfl⟩) hS q_id q_id1 (fun r u t H locs ht hvm hw hB hz1 hk1 hS => ?_)
  obtain ⟨rfl, ⟨h_1, rfl⟩ | ⟨h_1, rfl⟩⟩ := hw
  · have hP : q_P g s0 n ad (C) H := q_back hB ht
    have h_1 : 1 ≤ a ∧ a ≤ C 5 10 0 := h_1
    refine q_if_eq (tgt := 13) X (by decide) dX5_cancel_6 (by decide) (fun h => absurd h (by decide)) (fun _ => ?_)
    refine lv_iconst (v := iI (0)) X.1 X.2.1 dX5_cancel_9 rfl ?_
    refine lv_goto (tgt := 14) X.1 X.2.1 dX5_cancel_10 (by decide) ?_
    refine q_put (index := 82) (v := .int (iI (0))) X hP hS 5 0 0 ((0)) rfl rfl (by decide) in5 tyX5 tyX5_ok nmX5 (m_v5 hM) (by decide) (by decide +kernel) rfl rfl rfl rfl (show R32 _ from (by decide)) dX5_cancel_14 (fun H locs hP hS => ?_)
    have hP : q_P g s0 n ad (q_up C 5 0 0 ((0))) H := hP
    refine lv_aload_n X.1 X.2.1 dX5_cancel_17 rfl (lv_at hl 0 rfl) ?_
    refine q_get (index := 82) (v := .int (iI (0))) X hP 5 0 0 rfl rfl (by decide) in5 (m_v5 hM) (by decide) (by decide +kernel) rfl dX5_cancel_18 ?_
    refine q_if_gt (tgt := 33) X (by decide) dX5_cancel_21 (by decide) (fun h => absurd h (by decide)) (fun _ => ?_)
    refine lv_aload_n X.1 X.2.1 dX5_cancel_24 rfl (lv_at hl 0 rfl) ?_
    refine lv_iload_n X.1 X.2.1 dX5_cancel_25 rfl (lv_at hl 1 rfl) ?_
    refine va_calli (va_runV (As := [.int (iI a)]) (rest := []) X.fix (c_X5_stateOf l g s0 n ad (q_up C 5 0 0 ((0))) c0 (m_S.up hM (Or.inr (by decide))) hR hc0 a ha (by omega)) (cwV 1 X.2.2.2.2.1 gX5_cancel_X5_stateOf rfl rfl rfl (by decide +kernel) ⟨Nat.le_of_ble_eq_true rfl, Nat.le_of_ble_eq_true rfl⟩) (q_preV X hP hS [.int (iI a)] (kd := 5) (by decide) rfl (m_v5 hM)) rfl rfl hl.1 rfl (lv_room (Nat.le_of_ble_eq_true rfl)) dX5_cancel_26 ⟨Nat.le_of_ble_eq_true rfl, Nat.le_of_ble_eq_true rfl⟩) hS q_id q_id1 (fun r u t H locs ht hvm hw hB hz1 hk1 hS => ?_)
    obtain ⟨rfl, rfl⟩ := hw
    have hP : q_P g s0 n ad (q_up C 5 0 0 ((0))) H := q_back hB ht
    refine lv_iconst (v := iI (1)) X.1 X.2.1 dX5_cancel_29 rfl ?_
    refine q_icmp_le (tgt := 35) X (m_st_r _ _) (by decide) dX5_cancel_30 (by decide) (fun h_4 => ?_) (fun h_4 => ?_)
    · refine lv_iconst (v := iI (0)) X.1 X.2.1 dX5_cancel_35 rfl ?_
      refine lv_istore_n (lv' := [(2, .int (iI (0))), (0, .ref (ad 5 0)), (1, .int (iI a))]) X.1 X.2.1 dX5_cancel_36 rfl hl (by decide) rfl (fun ls hl => ?_)
      refine lv_iconst (v := iI (0)) X.1 X.2.1 dX5_cancel_37 rfl ?_
      refine lv_istore_n (lv' := [(3, .int (iI (0))), (2, .int (iI (0))), (0, .ref (ad 5 0)), (1, .int (iI a))]) X.1 X.2.1 dX5_cancel_38 rfl hl (by decide) rfl (fun ls hl => ?_)
      have e_5 : (0) = ((0 : Nat) : Int) := by rfl
      have e_6 : (0) = (m_cn (q_up C 5 0 0 (0)) a 0) := by rfl
      have hl : lv_has ls 4 [(3, .int (iI ((0 : Nat) : Int))), (2, .int (iI (m_cn (q_up C 5 0 0 (0)) a 0))), (0, .ref (ad 5 0)), (1, .int (iI a))] := lv_cong (show lv_has ls 4 [(3, .int (iI (0))), (2, .int (iI (0))), (0, .ref (ad 5 0)), (1, .int (iI a))] from lv_sub hl [0, 1, 2, 3] rfl) (lv_cs (congrArg (fun z => Value.int (iI z)) e_5) (lv_cs (congrArg (fun z => Value.int (iI z)) e_6) (lv_cs rfl (lv_cs rfl rfl))))
      have f0 := m_Rk hR
      refine w_X5_cancel (C := (q_up C 5 0 0 (0))) X in5 c0 hc0 f0.2 a ha hE (fun H locs ls hP hS hl => ?_) ((C 5 17 0).toNat + 1) 0 _ _ ls (show C 5 17 0 < _ by omega) (show _ ≤ C 5 17 0 by omega) hP hS hl
      obtain ⟨hM, hR, hA, hK⟩ := hE (C 5 17 0).toNat
      have hP : q_P g s0 n ad (m_cs (q_up C 5 0 0 (0)) a (C 5 17 0).toNat) H := hP
      refine lv_aload_n X.1 X.2.1 dX5_cancel_100 rfl (lv_at hl 1 rfl) ?_
      refine q_get (index := 48) (v := .ref (ad 36 0)) X hP 5 16 0 rfl rfl (by decide) in5 (m_v5 hM) (by decide) (by decide +kernel) (m_r hM ad 16 36 (by decide)) dX5_cancel_101 ?_
      refine lv_iload_n X.1 X.2.1 dX5_cancel_104 rfl (lv_at hl 2 rfl) ?_
      refine lv_iconst (v := iI (1)) X.1 X.2.1 dX5_cancel_105 rfl ?_
      refine q_zstv (len := 61) (x := (1)) (z := a) X hP hS 36 0 (by decide) rfl rfl (m_va hM 16 (by decide) rfl) rfl (by omega) (by omega) (by decide) dX5_cancel_106 (fun H locs hP hS => ?_)
      have hP : q_P g s0 n ad (q_up (m_cs (q_up C 5 0 0 (0)) a (C 5 17 0).toNat) 36 ((a).toNat) 0 ((1))) H := hP
      refine lv_iload_n X.1 X.2.1 dX5_cancel_107 rfl (lv_at hl 0 rfl) ?_
      exact q_iret X hr hlocks hP hS (Or.inl (⟨h_1, h_4, rfl, rfl⟩)) (Nat.le_of_ble_eq_true rfl) (Nat.le_of_ble_eq_true rfl) dX5_cancel_108
    · refine lv_iconst (v := iI (0)) X.1 X.2.1 dX5_cancel_33 rfl ?_
      exact q_iret X hr hlocks hP hS (Or.inr (Or.inl (⟨h_1, h_4, rfl, rfl⟩))) (Nat.le_of_ble_eq_true rfl) (Nat.le_of_ble_eq_true rfl) dX5_cancel_34
  · have hP : q_P g s0 n ad (C) H := q_back hB ht
    have h_1 : ¬ (1 ≤ a ∧ a ≤ C 5 10 0) := h_1
    refine q_if_eq (tgt := 13) X (by decide) dX5_cancel_6 (by decide) (fun _ => ?_) (fun h => absurd h (by decide))
    refine lv_iconst (v := iI (1)) X.1 X.2.1 dX5_cancel_13 rfl ?_
    refine q_put (index := 82) (v := .int (iI (1))) X hP hS 5 0 0 ((1)) rfl rfl (by decide) in5 tyX5 tyX5_ok nmX5 (m_v5 hM) (by decide) (by decide +kernel) rfl rfl rfl rfl (show R32 _ from (by decide)) dX5_cancel_14 (fun H locs hP hS => ?_)
    have hP : q_P g s0 n ad (q_up C 5 0 0 ((1))) H := hP
    refine lv_aload_n X.1 X.2.1 dX5_cancel_17 rfl (lv_at hl 0 rfl) ?_
    refine q_get (index := 82) (v := .int (iI (1))) X hP 5 0 0 rfl rfl (by decide) in5 (m_v5 hM) (by decide) (by decide +kernel) rfl dX5_cancel_18 ?_
    refine q_if_gt (tgt := 33) X (by decide) dX5_cancel_21 (by decide) (fun _ => ?_) (fun h => absurd h (by decide))
    refine lv_iconst (v := iI (0)) X.1 X.2.1 dX5_cancel_33 rfl ?_
    exact q_iret X hr hlocks hP hS (Or.inr (Or.inr (⟨h_1, rfl, rfl⟩))) (Nat.le_of_ble_eq_true rfl) (Nat.le_of_ble_eq_true rfl) dX5_cancel_34
set_option maxHeartbeats 4000000 in
set_option maxRecDepth 100000 in
theorem w_X5_reason_i {p : Program} {l : Launch} {e : Env} {s : State} {m : MethodId} {args : Array Value} {below : List Frame} {meth : Method} {c : Code} {Q : State → Prop} {g : q_G} {s0 : Nat} {n : Nat → Nat} {ad : Nat → Nat → Nat} {C : q_S} (X : q_X p s m args c cX5_reason 7 wsX5_reason RX5 g s0) (in5 : ∀ w ∈ wsX50, w ∈ wsX5_reason) (c0 : Nat) (hM : m_S C n) (hR : m_R C c0) (hc0 : c0 ≤ 600) (a : Int) (ha : R32 a) (k : Nat) (hk : k < 4200) (hcd : C 38 k 0 = a ∧ ¬ C 44 k 0 = 0) (x2 x3 x4 : Int) (hx2 : x2 = 0 ∨ x2 = 1) (hx3 : x3 = 0 ∨ x3 = 1) (hx4 : x4 = 0 ∨ x4 = 1) (kx : ∀  (H : Heap) (locs : List Loc) (ls : Array Slot), q_P g s0 n ad (q_up C 5 0 0 (0)) H → va_S (q_A s0) s.heap H locs → lv_has ls 7 [(3, .int (iI (m_fi C k x3 (C 5 1 0).toNat))), (4, .int (iI (m_fr C k x4 (C 5 1 0).toNat))), (0, .ref (ad 5 0)), (1, .int (iI a)), (2, .int (iI x2)), (5, .int (iI ((k : Nat) : Int)))] → W p l e ({ frames := 2, cells := 0, slots := 0, locals := 46 }) s m args below meth c H locs 0 0 Q (F0 m 170 ls [])) :
    ∀ (N : Nat) (q : Nat) (H : Heap) (locs : List Loc) (ls : Array Slot), (C 5 1 0 < (q : Int) + N) → ((q : Int) ≤ C 5 1 0) → q_P g s0 n ad (q_up C 5 0 0 (0)) H → va_S (q_A s0) s.heap H locs → lv_has ls 7 [(6, .int (iI (((q + 1) : Nat) : Int))), (3, .int (iI (m_fi C k x3 q))), (4, .int (iI (m_fr C k x4 q))), (0, .ref (ad 5 0)), (1, .int (iI a)), (2, .int (iI x2)), (5, .int (iI ((k : Nat) : Int)))] → W p l e ({ frames := 2, cells := 0, slots := 0, locals := 46 }) s m args below meth c H locs 0 0 Q (F0 m 79 ls []) := by
  intro N
  induction N with
  | zero =>
    intro q H locs ls h1 h2 hP hS hl
    exact absurd h1 (by omega)
  | succ N ih =>
    intro q H locs ls h1 h2 hP hS hl
    have f0 := m_Rp hR
    refine lv_iload X.1 X.2.1 dX5_reason_79 (lv_at hl 0 rfl) ?_
    refine lv_aload_n X.1 X.2.1 dX5_reason_81 rfl (lv_at hl 3 rfl) ?_
    refine q_get (index := 93) (v := .int (iI (C 5 1 0))) X hP 5 1 0 rfl rfl (by decide) in5 (m_v5 hM) (by decide) (by decide +kernel) rfl dX5_reason_82 ?_
    have f_1 := m_Rp hR
    refine q_icmp_gt (tgt := 170) X (by omega) (hP.tok 5 1 0 rfl) dX5_reason_85 (by decide) (fun h_2 => ?_) (fun h_2 => ?_)
    · have ek : q = (C 5 1 0).toNat := by omega
      have e_3 : (m_fi C k x3 q) = (m_fi C k x3 (C 5 1 0).toNat) := by rw [ek]
      have e_4 : (m_fr C k x4 q) = (m_fr C k x4 (C 5 1 0).toNat) := by rw [ek]
      have hl : lv_has ls 7 [(3, .int (iI (m_fi C k x3 (C 5 1 0).toNat))), (4, .int (iI (m_fr C k x4 (C 5 1 0).toNat))), (0, .ref (ad 5 0)), (1, .int (iI a)), (2, .int (iI x2)), (5, .int (iI ((k : Nat) : Int)))] := lv_cong (show lv_has ls 7 [(3, .int (iI (m_fi C k x3 q))), (4, .int (iI (m_fr C k x4 q))), (0, .ref (ad 5 0)), (1, .int (iI a)), (2, .int (iI x2)), (5, .int (iI ((k : Nat) : Int)))] from lv_sub hl [1, 2, 3, 4, 5, 6] rfl) (lv_cs (congrArg (fun z => Value.int (iI z)) e_3) (lv_cs (congrArg (fun z => Value.int (iI z)) e_4) (lv_cs rfl (lv_cs rfl (lv_cs rfl (lv_cs rfl rfl))))))
      exact kx _ _ ls hP hS hl
    · refine lv_aload_n X.1 X.2.1 dX5_reason_88 rfl (lv_at hl 3 rfl) ?_
      refine q_get (index := 51) (v := .ref (ad 38 0)) X hP 5 18 0 rfl rfl (by decide) in5 (m_v5 hM) (by decide) (by decide +kernel) (m_r hM ad 18 38 (by decide)) dX5_reason_89 ?_
      refine lv_iload X.1 X.2.1 dX5_reason_92 (lv_at hl 6 rfl) ?_
      refine q_ildv (len := 4200) (v := (C 38 k 0)) X hP 38 0 (by decide) rfl rfl (m_va hM 18 (by decide) rfl) rfl (by omega) (by omega) rfl dX5_reason_94 ?_
      have f_5 := m_R38 hR k
      refine lv_iload_n X.1 X.2.1 dX5_reason_95 rfl (lv_at hl 4 rfl) ?_
      refine q_icmp_ne (tgt := 170) X (hP.tok 38 k 0 rfl) ha dX5_reason_96 (by decide) (fun h_6 => ?_) (fun h_6 => ?_)
      · first | exact absurd hcd.1 (by assumption) | exact absurd (by assumption) hcd.2
      · refine lv_aload_n X.1 X.2.1 dX5_reason_99 rfl (lv_at hl 3 rfl) ?_
        refine q_get (index := 69) (v := .ref (ad 44 0)) X hP 5 24 0 rfl rfl (by decide) in5 (m_v5 hM) (by decide) (by decide +kernel) (m_r hM ad 24 44 (by decide)) dX5_reason_100 ?_
        refine lv_iload X.1 X.2.1 dX5_reason_103 (lv_at hl 6 rfl) ?_
        refine q_zldv (len := 4200) (v := (C 44 k 0)) X hP 44 0 (by decide) rfl rfl (m_va hM 24 (by decide) rfl) rfl (by omega) (by omega) rfl dX5_reason_105 ?_
        refine q_if_eq (tgt := 170) X (q_b32 (hP.tok 44 k 0 rfl)) dX5_reason_106 (by decide) (fun h_7 => ?_) (fun h_7 => ?_)
        · first | exact absurd hcd.1 (by assumption) | exact absurd (by assumption) hcd.2
        · refine q_join (g := g) (s0 := s0) (n := n) (ad := ad) (C := q_up C 5 0 0 (0)) (nL := 7) (lv := [(6, .int (iI (((q + 1) : Nat) : Int))), (4, .int (iI (m_fr C k x4 q))), (0, .ref (ad 5 0)), (1, .int (iI a)), (2, .int (iI x2)), (5, .int (iI ((k : Nat) : Int))), (3, .int (iI (m_fi C k x3 (q + 1))))]) (pcj := 130) (st := []) (fun H locs ls hP hS hl => ?_) (fun kj => ?_)
          · refine lv_iload X.1 X.2.1 dX5_reason_130 (lv_at hl 1 rfl) ?_
            refine q_if_ne (tgt := 157) X (q_b32 (m_fr_b C k hx4 q)) dX5_reason_132 (by decide) (fun h_8 => ?_) (fun h_8 => ?_)
            · refine lv_iconst (v := iI (1)) X.1 X.2.1 dX5_reason_157 rfl ?_
              refine lv_goto (tgt := 162) X.1 X.2.1 dX5_reason_158 (by decide) ?_
              refine lv_istore (lv' := [(4, .int (iI (1))), (6, .int (iI (((q + 1) : Nat) : Int))), (0, .ref (ad 5 0)), (1, .int (iI a)), (2, .int (iI x2)), (5, .int (iI ((k : Nat) : Int))), (3, .int (iI (m_fi C k x3 (q + 1))))]) X.1 X.2.1 dX5_reason_162 hl (by decide) rfl (fun ls hl => ?_)
              refine q_iinc (lv' := [(6, .int (iI ((((q + 1) : Nat) : Int) + 1))), (4, .int (iI (1))), (0, .ref (ad 5 0)), (1, .int (iI a)), (2, .int (iI x2)), (5, .int (iI ((k : Nat) : Int))), (3, .int (iI (m_fi C k x3 (q + 1))))]) (k := 1) X dX5_reason_164 hl rfl (by decide) rfl (fun ls hl => ?_)
              refine lv_goto (tgt := 79) X.1 X.2.1 dX5_reason_167 (by decide) ?_
              have e_9 : ((((q + 1) : Nat) : Int) + 1) = (((q + 1 + 1) : Nat) : Int) := by omega
              have e_10 : (1) = (m_fr C k x4 (q + 1)) := by rw [m_fr]; first | (rw [if_pos (Or.inl (by assumption))]; done) | (rw [if_pos (Or.inr ⟨by assumption, by assumption⟩)]; done) | (rw [if_neg (fun z => by rcases z with z | ⟨z1, z2⟩ <;> first | contradiction | omega)]; done)
              have hl : lv_has ls 7 [(6, .int (iI (((q + 1 + 1) : Nat) : Int))), (3, .int (iI (m_fi C k x3 (q + 1)))), (4, .int (iI (m_fr C k x4 (q + 1)))), (0, .ref (ad 5 0)), (1, .int (iI a)), (2, .int (iI x2)), (5, .int (iI ((k : Nat) : Int)))] := lv_cong (show lv_has ls 7 [(6, .int (iI ((((q + 1) : Nat) : Int) + 1))), (3, .int (iI (m_fi C k x3 (q + 1)))), (4, .int (iI (1))), (0, .ref (ad 5 0)), (1, .int (iI a)), (2, .int (iI x2)), (5, .int (iI ((k : Nat) : Int)))] from lv_sub hl [0, 6, 1, 2, 3, 4, 5] rfl) (lv_cs (congrArg (fun z => Value.int (iI z)) e_9) (lv_cs rfl (lv_cs (congrArg (fun z => Value.int (iI z)) e_10) (lv_cs rfl (lv_cs rfl (lv_cs rfl (lv_cs rfl rfl)))))))
              exact ih (q + 1) _ _ ls (by omega) (by omega) hP hS hl
            · refine lv_aload_n X.1 X.2.1 dX5_reason_135 rfl (lv_at hl 2 rfl) ?_
              refine lv_iload X.1 X.2.1 dX5_reason_136 (lv_at hl 5 rfl) ?_
              refine lv_iload X.1 X.2.1 dX5_reason_138 (lv_at hl 0 rfl) ?_
              refine va_calli (va_runV (As := [.int (iI ((k : Nat) : Int)), .int (iI (((q + 1) : Nat) : Int))]) (rest := []) X.fix (c_X5_fits l g s0 n ad (q_up C 5 0 0 (0)) c0 (m_S.up hM (Or.inr (by decide))) hR k (by omega) (((q + 1) : Nat) : Int) (by omega)) (cwV 2 X.2.2.2.2.1 gX5_reason_X5_fits rfl rfl rfl (by decide +kernel) ⟨Nat.le_of_ble_eq_true rfl, Nat.le_of_ble_eq_true rfl⟩) (q_preV X hP hS [.int (iI ((k : Nat) : Int)), .int (iI (((q + 1) : Nat) : Int))] (kd := 5) (by decide) rfl (m_v5 hM)) rfl rfl hl.1 rfl (lv_room (Nat.le_of_ble_eq_true rfl)) dX5_reason_140 ⟨Nat.le_of_ble_eq_true rfl, Nat.le_of_ble_eq_true rfl⟩) hS q_id q_id1 (fun r u t H locs ht hvm hw hB hz1 hk1 hS => ?_)
              obtain ⟨rfl, ⟨h_11, rfl⟩ | ⟨h_11, rfl⟩⟩ := hw
              · have hP : q_P g s0 n ad (q_up C 5 0 0 (0)) H := q_back hB ht
                have h_11 : m_fits C k (((q + 1) : Nat) : Int) := h_11
                refine q_if_eq (tgt := 161) X (by decide) dX5_reason_143 (by decide) (fun h => absurd h (by decide)) (fun _ => ?_)
                refine lv_aload_n X.1 X.2.1 dX5_reason_146 rfl (lv_at hl 2 rfl) ?_
                refine q_get (index := 19) (v := .ref (ad 25 0)) X hP 5 5 0 rfl rfl (by decide) in5 (m_v5 hM) (by decide) (by decide +kernel) (m_r hM ad 5 25 (by decide)) dX5_reason_147 ?_
                refine lv_iload X.1 X.2.1 dX5_reason_150 (lv_at hl 0 rfl) ?_
                refine q_ildv (len := 9) (v := (C 25 ((q + 1)) 0)) X hP 25 0 (by decide) rfl rfl (m_va hM 5 (by decide) rfl) rfl (by omega) (by omega) rfl dX5_reason_152 ?_
                have f_13 := m_R25 hR ((q + 1))
                refine lv_iconst (v := iI (-1)) X.1 X.2.1 dX5_reason_153 rfl ?_
                refine q_icmp_ne (tgt := 161) X (hP.tok 25 ((q + 1)) 0 rfl) (by decide) dX5_reason_154 (by decide) (fun h_14 => ?_) (fun h_14 => ?_)
                · refine lv_iconst (v := iI (0)) X.1 X.2.1 dX5_reason_161 rfl ?_
                  refine lv_istore (lv' := [(4, .int (iI (0))), (6, .int (iI (((q + 1) : Nat) : Int))), (0, .ref (ad 5 0)), (1, .int (iI a)), (2, .int (iI x2)), (5, .int (iI ((k : Nat) : Int))), (3, .int (iI (m_fi C k x3 (q + 1))))]) X.1 X.2.1 dX5_reason_162 hl (by decide) rfl (fun ls hl => ?_)
                  refine q_iinc (lv' := [(6, .int (iI ((((q + 1) : Nat) : Int) + 1))), (4, .int (iI (0))), (0, .ref (ad 5 0)), (1, .int (iI a)), (2, .int (iI x2)), (5, .int (iI ((k : Nat) : Int))), (3, .int (iI (m_fi C k x3 (q + 1))))]) (k := 1) X dX5_reason_164 hl rfl (by decide) rfl (fun ls hl => ?_)
                  refine lv_goto (tgt := 79) X.1 X.2.1 dX5_reason_167 (by decide) ?_
                  have e_15 : ((((q + 1) : Nat) : Int) + 1) = (((q + 1 + 1) : Nat) : Int) := by omega
                  have e_16 : (0) = (m_fr C k x4 (q + 1)) := by rw [m_fr]; first | (rw [if_pos (Or.inl (by assumption))]; done) | (rw [if_pos (Or.inr ⟨by assumption, by assumption⟩)]; done) | (rw [if_neg (fun z => by rcases z with z | ⟨z1, z2⟩ <;> first | contradiction | omega)]; done)
                  have hl : lv_has ls 7 [(6, .int (iI (((q + 1 + 1) : Nat) : Int))), (3, .int (iI (m_fi C k x3 (q + 1)))), (4, .int (iI (m_fr C k x4 (q + 1)))), (0, .ref (ad 5 0)), (1, .int (iI a)), (2, .int (iI x2)), (5, .int (iI ((k : Nat) : Int)))] := lv_cong (show lv_has ls 7 [(6, .int (iI ((((q + 1) : Nat) : Int) + 1))), (3, .int (iI (m_fi C k x3 (q + 1)))), (4, .int (iI (0))), (0, .ref (ad 5 0)), (1, .int (iI a)), (2, .int (iI x2)), (5, .int (iI ((k : Nat) : Int)))] from lv_sub hl [0, 6, 1, 2, 3, 4, 5] rfl) (lv_cs (congrArg (fun z => Value.int (iI z)) e_15) (lv_cs rfl (lv_cs (congrArg (fun z => Value.int (iI z)) e_16) (lv_cs rfl (lv_cs rfl (lv_cs rfl (lv_cs rfl rfl)))))))
                  exact ih (q + 1) _ _ ls (by omega) (by omega) hP hS hl
                · refine lv_iconst (v := iI (1)) X.1 X.2.1 dX5_reason_157 rfl ?_
                  refine lv_goto (tgt := 162) X.1 X.2.1 dX5_reason_158 (by decide) ?_
                  refine lv_istore (lv' := [(4, .int (iI (1))), (6, .int (iI (((q + 1) : Nat) : Int))), (0, .ref (ad 5 0)), (1, .int (iI a)), (2, .int (iI x2)), (5, .int (iI ((k : Nat) : Int))), (3, .int (iI (m_fi C k x3 (q + 1))))]) X.1 X.2.1 dX5_reason_162 hl (by decide) rfl (fun ls hl => ?_)
                  refine q_iinc (lv' := [(6, .int (iI ((((q + 1) : Nat) : Int) + 1))), (4, .int (iI (1))), (0, .ref (ad 5 0)), (1, .int (iI a)), (2, .int (iI x2)), (5, .int (iI ((k : Nat) : Int))), (3, .int (iI (m_fi C k x3 (q + 1))))]) (k := 1) X dX5_reason_164 hl rfl (by decide) rfl (fun ls hl => ?_)
                  refine lv_goto (tgt := 79) X.1 X.2.1 dX5_reason_167 (by decide) ?_
                  have e_17 : ((((q + 1) : Nat) : Int) + 1) = (((q + 1 + 1) : Nat) : Int) := by omega
                  have e_18 : (1) = (m_fr C k x4 (q + 1)) := by rw [m_fr]; first | (rw [if_pos (Or.inl (by assumption))]; done) | (rw [if_pos (Or.inr ⟨by assumption, by assumption⟩)]; done) | (rw [if_neg (fun z => by rcases z with z | ⟨z1, z2⟩ <;> first | contradiction | omega)]; done)
                  have hl : lv_has ls 7 [(6, .int (iI (((q + 1 + 1) : Nat) : Int))), (3, .int (iI (m_fi C k x3 (q + 1)))), (4, .int (iI (m_fr C k x4 (q + 1)))), (0, .ref (ad 5 0)), (1, .int (iI a)), (2, .int (iI x2)), (5, .int (iI ((k : Nat) : Int)))] := lv_cong (show lv_has ls 7 [(6, .int (iI ((((q + 1) : Nat) : Int) + 1))), (3, .int (iI (m_fi C k x3 (q + 1)))), (4, .int (iI (1))), (0, .ref (ad 5 0)), (1, .int (iI a)), (2, .int (iI x2)), (5, .int (iI ((k : Nat) : Int)))] from lv_sub hl [0, 6, 1, 2, 3, 4, 5] rfl) (lv_cs (congrArg (fun z => Value.int (iI z)) e_17) (lv_cs rfl (lv_cs (congrArg (fun z => Value.int (iI z)) e_18) (lv_cs rfl (lv_cs rfl (lv_cs rfl (lv_cs rfl rfl)))))))
                  exact ih (q + 1) _ _ ls (by omega) (by omega) hP hS hl
              · have hP : q_P g s0 n ad (q_up C 5 0 0 (0)) H := q_back hB ht
                have h_11 : ¬ (m_fits C k (((q + 1) : Nat) : Int)) := h_11
                refine q_if_eq (tgt := 161) X (by decide) dX5_reason_143 (by decide) (fun _ => ?_) (fun h => absurd h (by decide))
                refine lv_iconst (v := iI (0)) X.1 X.2.1 dX5_reason_161 rfl ?_
                refine lv_istore (lv' := [(4, .int (iI (0))), (6, .int (iI (((q + 1) : Nat) : Int))), (0, .ref (ad 5 0)), (1, .int (iI a)), (2, .int (iI x2)), (5, .int (iI ((k : Nat) : Int))), (3, .int (iI (m_fi C k x3 (q + 1))))]) X.1 X.2.1 dX5_reason_162 hl (by decide) rfl (fun ls hl => ?_)
                refine q_iinc (lv' := [(6, .int (iI ((((q + 1) : Nat) : Int) + 1))), (4, .int (iI (0))), (0, .ref (ad 5 0)), (1, .int (iI a)), (2, .int (iI x2)), (5, .int (iI ((k : Nat) : Int))), (3, .int (iI (m_fi C k x3 (q + 1))))]) (k := 1) X dX5_reason_164 hl rfl (by decide) rfl (fun ls hl => ?_)
                refine lv_goto (tgt := 79) X.1 X.2.1 dX5_reason_167 (by decide) ?_
                have e_20 : ((((q + 1) : Nat) : Int) + 1) = (((q + 1 + 1) : Nat) : Int) := by omega
                have e_21 : (0) = (m_fr C k x4 (q + 1)) := by rw [m_fr]; first | (rw [if_pos (Or.inl (by assumption))]; done) | (rw [if_pos (Or.inr ⟨by assumption, by assumption⟩)]; done) | (rw [if_neg (fun z => by rcases z with z | ⟨z1, z2⟩ <;> first | contradiction | omega)]; done)
                have hl : lv_has ls 7 [(6, .int (iI (((q + 1 + 1) : Nat) : Int))), (3, .int (iI (m_fi C k x3 (q + 1)))), (4, .int (iI (m_fr C k x4 (q + 1)))), (0, .ref (ad 5 0)), (1, .int (iI a)), (2, .int (iI x2)), (5, .int (iI ((k : Nat) : Int)))] := lv_cong (show lv_has ls 7 [(6, .int (iI ((((q + 1) : Nat) : Int) + 1))), (3, .int (iI (m_fi C k x3 (q + 1)))), (4, .int (iI (0))), (0, .ref (ad 5 0)), (1, .int (iI a)), (2, .int (iI x2)), (5, .int (iI ((k : Nat) : Int)))] from lv_sub hl [0, 6, 1, 2, 3, 4, 5] rfl) (lv_cs (congrArg (fun z => Value.int (iI z)) e_20) (lv_cs rfl (lv_cs (congrArg (fun z => Value.int (iI z)) e_21) (lv_cs rfl (lv_cs rfl (lv_cs rfl (lv_cs rfl rfl)))))))
                exact ih (q + 1) _ _ ls (by omega) (by omega) hP hS hl
          · refine lv_iload_n X.1 X.2.1 dX5_reason_109 rfl (lv_at hl 1 rfl) ?_
            refine q_if_ne (tgt := 124) X (q_b32 (m_fi_b C k hx3 q)) dX5_reason_110 (by decide) (fun h_22 => ?_) (fun h_22 => ?_)
            · refine lv_iconst (v := iI (1)) X.1 X.2.1 dX5_reason_124 rfl ?_
              refine lv_goto (tgt := 129) X.1 X.2.1 dX5_reason_125 (by decide) ?_
              refine lv_istore_n (lv' := [(3, .int (iI (1))), (6, .int (iI (((q + 1) : Nat) : Int))), (4, .int (iI (m_fr C k x4 q))), (0, .ref (ad 5 0)), (1, .int (iI a)), (2, .int (iI x2)), (5, .int (iI ((k : Nat) : Int)))]) X.1 X.2.1 dX5_reason_129 rfl hl (by decide) rfl (fun ls hl => ?_)
              have e_23 : (1) = (m_fi C k x3 (q + 1)) := by rw [m_fi]; first | (rw [if_pos (Or.inl (by assumption))]; done) | (rw [if_pos (Or.inr (by assumption))]; done) | (rw [if_neg (fun z => by rcases z with z | z <;> contradiction)]; done)
              have hl : lv_has ls 7 [(6, .int (iI (((q + 1) : Nat) : Int))), (4, .int (iI (m_fr C k x4 q))), (0, .ref (ad 5 0)), (1, .int (iI a)), (2, .int (iI x2)), (5, .int (iI ((k : Nat) : Int))), (3, .int (iI (m_fi C k x3 (q + 1))))] := lv_cong (show lv_has ls 7 [(6, .int (iI (((q + 1) : Nat) : Int))), (4, .int (iI (m_fr C k x4 q))), (0, .ref (ad 5 0)), (1, .int (iI a)), (2, .int (iI x2)), (5, .int (iI ((k : Nat) : Int))), (3, .int (iI (1)))] from lv_sub hl [1, 2, 3, 4, 5, 6, 0] rfl) (lv_cs rfl (lv_cs rfl (lv_cs rfl (lv_cs rfl (lv_cs rfl (lv_cs rfl (lv_cs (congrArg (fun z => Value.int (iI z)) e_23) rfl)))))))
              exact kj _ _ ls hP hS hl
            · refine lv_aload_n X.1 X.2.1 dX5_reason_113 rfl (lv_at hl 3 rfl) ?_
              refine lv_iload X.1 X.2.1 dX5_reason_114 (lv_at hl 6 rfl) ?_
              refine lv_iload X.1 X.2.1 dX5_reason_116 (lv_at hl 0 rfl) ?_
              refine va_calli (va_runV (As := [.int (iI ((k : Nat) : Int)), .int (iI (((q + 1) : Nat) : Int))]) (rest := []) X.fix (c_X5_fits l g s0 n ad (q_up C 5 0 0 (0)) c0 (m_S.up hM (Or.inr (by decide))) hR k (by omega) (((q + 1) : Nat) : Int) (by omega)) (cwV 2 X.2.2.2.2.1 gX5_reason_X5_fits rfl rfl rfl (by decide +kernel) ⟨Nat.le_of_ble_eq_true rfl, Nat.le_of_ble_eq_true rfl⟩) (q_preV X hP hS [.int (iI ((k : Nat) : Int)), .int (iI (((q + 1) : Nat) : Int))] (kd := 5) (by decide) rfl (m_v5 hM)) rfl rfl hl.1 rfl (lv_room (Nat.le_of_ble_eq_true rfl)) dX5_reason_118 ⟨Nat.le_of_ble_eq_true rfl, Nat.le_of_ble_eq_true rfl⟩) hS q_id q_id1 (fun r u t H locs ht hvm hw hB hz1 hk1 hS => ?_)
              obtain ⟨rfl, ⟨h_24, rfl⟩ | ⟨h_24, rfl⟩⟩ := hw
              · have hP : q_P g s0 n ad (q_up C 5 0 0 (0)) H := q_back hB ht
                have h_24 : m_fits C k (((q + 1) : Nat) : Int) := h_24
                refine q_if_eq (tgt := 128) X (by decide) dX5_reason_121 (by decide) (fun h => absurd h (by decide)) (fun _ => ?_)
                refine lv_iconst (v := iI (1)) X.1 X.2.1 dX5_reason_124 rfl ?_
                refine lv_goto (tgt := 129) X.1 X.2.1 dX5_reason_125 (by decide) ?_
                refine lv_istore_n (lv' := [(3, .int (iI (1))), (6, .int (iI (((q + 1) : Nat) : Int))), (4, .int (iI (m_fr C k x4 q))), (0, .ref (ad 5 0)), (1, .int (iI a)), (2, .int (iI x2)), (5, .int (iI ((k : Nat) : Int)))]) X.1 X.2.1 dX5_reason_129 rfl hl (by decide) rfl (fun ls hl => ?_)
                have e_26 : (1) = (m_fi C k x3 (q + 1)) := by rw [m_fi]; first | (rw [if_pos (Or.inl (by assumption))]; done) | (rw [if_pos (Or.inr (by assumption))]; done) | (rw [if_neg (fun z => by rcases z with z | z <;> contradiction)]; done)
                have hl : lv_has ls 7 [(6, .int (iI (((q + 1) : Nat) : Int))), (4, .int (iI (m_fr C k x4 q))), (0, .ref (ad 5 0)), (1, .int (iI a)), (2, .int (iI x2)), (5, .int (iI ((k : Nat) : Int))), (3, .int (iI (m_fi C k x3 (q + 1))))] := lv_cong (show lv_has ls 7 [(6, .int (iI (((q + 1) : Nat) : Int))), (4, .int (iI (m_fr C k x4 q))), (0, .ref (ad 5 0)), (1, .int (iI a)), (2, .int (iI x2)), (5, .int (iI ((k : Nat) : Int))), (3, .int (iI (1)))] from lv_sub hl [1, 2, 3, 4, 5, 6, 0] rfl) (lv_cs rfl (lv_cs rfl (lv_cs rfl (lv_cs rfl (lv_cs rfl (lv_cs rfl (lv_cs (congrArg (fun z => Value.int (iI z)) e_26) rfl)))))))
                exact kj _ _ ls hP hS hl
              · have hP : q_P g s0 n ad (q_up C 5 0 0 (0)) H := q_back hB ht
                have h_24 : ¬ (m_fits C k (((q + 1) : Nat) : Int)) := h_24
                refine q_if_eq (tgt := 128) X (by decide) dX5_reason_121 (by decide) (fun _ => ?_) (fun h => absurd h (by decide))
                refine lv_iconst (v := iI (0)) X.1 X.2.1 dX5_reason_128 rfl ?_
                refine lv_istore_n (lv' := [(3, .int (iI (0))), (6, .int (iI (((q + 1) : Nat) : Int))), (4, .int (iI (m_fr C k x4 q))), (0, .ref (ad 5 0)), (1, .int (iI a)), (2, .int (iI x2)), (5, .int (iI ((k : Nat) : Int)))]) X.1 X.2.1 dX5_reason_129 rfl hl (by decide) rfl (fun ls hl => ?_)
                have e_28 : (0) = (m_fi C k x3 (q + 1)) := by rw [m_fi]; first | (rw [if_pos (Or.inl (by assumption))]; done) | (rw [if_pos (Or.inr (by assumption))]; done) | (rw [if_neg (fun z => by rcases z with z | z <;> contradiction)]; done)
                have hl : lv_has ls 7 [(6, .int (iI (((q + 1) : Nat) : Int))), (4, .int (iI (m_fr C k x4 q))), (0, .ref (ad 5 0)), (1, .int (iI a)), (2, .int (iI x2)), (5, .int (iI ((k : Nat) : Int))), (3, .int (iI (m_fi C k x3 (q + 1))))] := lv_cong (show lv_has ls 7 [(6, .int (iI (((q + 1) : Nat) : Int))), (4, .int (iI (m_fr C k x4 q))), (0, .ref (ad 5 0)), (1, .int (iI a)), (2, .int (iI x2)), (5, .int (iI ((k : Nat) : Int))), (3, .int (iI (0)))] from lv_sub hl [1, 2, 3, 4, 5, 6, 0] rfl) (lv_cs rfl (lv_cs rfl (lv_cs rfl (lv_cs rfl (lv_cs rfl (lv_cs rfl (lv_cs (congrArg (fun z => Value.int (iI z)) e_28) rfl)))))))
                exact kj _ _ ls hP hS hl
set_option maxHeartbeats 4000000 in
set_option maxRecDepth 100000 in
theorem w_X5_reason {p : Program} {l : Launch} {e : Env} {s : State} {m : MethodId} {args : Array Value} {below : List Frame} {meth : Method} {c : Code} {Q : State → Prop} {g : q_G} {s0 : Nat} {n : Nat → Nat} {ad : Nat → Nat → Nat} {C : q_S} (X : q_X p s m args c cX5_reason 7 wsX5_reason RX5 g s0) (in5 : ∀ w ∈ wsX50, w ∈ wsX5_reason) (c0 : Nat) (hM : m_S C n) (hR : m_R C c0) (hc0 : c0 ≤ 600) (a : Int) (ha : R32 a) (kx : ∀  (H : Heap) (locs : List Loc) (ls : Array Slot), q_P g s0 n ad (q_up C 5 0 0 (0)) H → va_S (q_A s0) s.heap H locs → lv_has ls 7 [(2, .int (iI (m_any C a (C 5 17 0).toNat))), (3, .int (iI (m_fit C a (C 5 17 0).toNat))), (4, .int (iI (m_fre C a (C 5 17 0).toNat))), (0, .ref (ad 5 0)), (1, .int (iI a))] → W p l e ({ frames := 2, cells := 0, slots := 0, locals := 46 }) s m args below meth c H locs 0 0 Q (F0 m 176 ls [])) :
    ∀ (N : Nat) (k : Nat) (H : Heap) (locs : List Loc) (ls : Array Slot), (C 5 17 0 < (k : Int) + N) → ((k : Int) ≤ C 5 17 0) → q_P g s0 n ad (q_up C 5 0 0 (0)) H → va_S (q_A s0) s.heap H locs → lv_has ls 7 [(5, .int (iI ((k : Nat) : Int))), (2, .int (iI (m_any C a k))), (3, .int (iI (m_fit C a k))), (4, .int (iI (m_fre C a k))), (0, .ref (ad 5 0)), (1, .int (iI a))] → W p l e ({ frames := 2, cells := 0, slots := 0, locals := 46 }) s m args below meth c H locs 0 0 Q (F0 m 36 ls []) := by
  intro N
  induction N with
  | zero =>
    intro k H locs ls h1 h2 hP hS hl
    exact absurd h1 (by omega)
  | succ N ih =>
    intro k H locs ls h1 h2 hP hS hl
    have f0 := m_Rk hR
    refine lv_iload X.1 X.2.1 dX5_reason_36 (lv_at hl 0 rfl) ?_
    refine lv_aload_n X.1 X.2.1 dX5_reason_38 rfl (lv_at hl 4 rfl) ?_
    refine q_get (index := 101) (v := .int (iI (C 5 17 0))) X hP 5 17 0 rfl rfl (by decide) in5 (m_v5 hM) (by decide) (by decide +kernel) rfl dX5_reason_39 ?_
    have f_1 := m_Rk hR
    refine q_icmp_ge (tgt := 176) X (by omega) (hP.tok 5 17 0 rfl) dX5_reason_42 (by decide) (fun h_2 => ?_) (fun h_2 => ?_)
    · have ek : k = (C 5 17 0).toNat := by omega
      have e_3 : (m_any C a k) = (m_any C a (C 5 17 0).toNat) := by rw [ek]
      have e_4 : (m_fit C a k) = (m_fit C a (C 5 17 0).toNat) := by rw [ek]
      have e_5 : (m_fre C a k) = (m_fre C a (C 5 17 0).toNat) := by rw [ek]
      have hl : lv_has ls 7 [(2, .int (iI (m_any C a (C 5 17 0).toNat))), (3, .int (iI (m_fit C a (C 5 17 0).toNat))), (4, .int (iI (m_fre C a (C 5 17 0).toNat))), (0, .ref (ad 5 0)), (1, .int (iI a))] := lv_cong (show lv_has ls 7 [(2, .int (iI (m_any C a k))), (3, .int (iI (m_fit C a k))), (4, .int (iI (m_fre C a k))), (0, .ref (ad 5 0)), (1, .int (iI a))] from lv_sub hl [1, 2, 3, 4, 5] rfl) (lv_cs (congrArg (fun z => Value.int (iI z)) e_3) (lv_cs (congrArg (fun z => Value.int (iI z)) e_4) (lv_cs (congrArg (fun z => Value.int (iI z)) e_5) (lv_cs rfl (lv_cs rfl rfl)))))
      exact kx _ _ ls hP hS hl
    · refine q_join (g := g) (s0 := s0) (n := n) (ad := ad) (C := q_up C 5 0 0 (0)) (nL := 7) (lv := [(5, .int (iI ((k : Nat) : Int))), (3, .int (iI (m_fit C a k))), (4, .int (iI (m_fre C a k))), (0, .ref (ad 5 0)), (1, .int (iI a)), (2, .int (iI (m_any C a (k + 1))))]) (pcj := 76) (st := []) (fun H locs ls hP hS hl => ?_) (fun kj => ?_)
      · refine lv_iconst (v := iI (1)) X.1 X.2.1 dX5_reason_76 rfl ?_
        refine lv_istore (lv' := [(6, .int (iI (1))), (5, .int (iI ((k : Nat) : Int))), (3, .int (iI (m_fit C a k))), (4, .int (iI (m_fre C a k))), (0, .ref (ad 5 0)), (1, .int (iI a)), (2, .int (iI (m_any C a (k + 1))))]) X.1 X.2.1 dX5_reason_77 hl (by decide) rfl (fun ls hl => ?_)
        by_cases hc : C 38 k 0 = a ∧ ¬ C 44 k 0 = 0
        · have e_6 : (1) = (((0 + 1) : Nat) : Int) := by rfl
          have e_7 : (m_fit C a k) = (m_fi C k (m_fit C a k) 0) := by rfl
          have e_8 : (m_fre C a k) = (m_fr C k (m_fre C a k) 0) := by rfl
          have hl : lv_has ls 7 [(6, .int (iI (((0 + 1) : Nat) : Int))), (3, .int (iI (m_fi C k (m_fit C a k) 0))), (4, .int (iI (m_fr C k (m_fre C a k) 0))), (0, .ref (ad 5 0)), (1, .int (iI a)), (2, .int (iI (m_any C a (k + 1)))), (5, .int (iI ((k : Nat) : Int)))] := lv_cong (show lv_has ls 7 [(6, .int (iI (1))), (3, .int (iI (m_fit C a k))), (4, .int (iI (m_fre C a k))), (0, .ref (ad 5 0)), (1, .int (iI a)), (2, .int (iI (m_any C a (k + 1)))), (5, .int (iI ((k : Nat) : Int)))] from lv_sub hl [0, 2, 3, 4, 5, 6, 1] rfl) (lv_cs (congrArg (fun z => Value.int (iI z)) e_6) (lv_cs (congrArg (fun z => Value.int (iI z)) e_7) (lv_cs (congrArg (fun z => Value.int (iI z)) e_8) (lv_cs rfl (lv_cs rfl (lv_cs rfl (lv_cs rfl rfl)))))))
          have f8 := m_Rp hR
          refine w_X5_reason_i X in5 c0 hM hR hc0 a ha k (by omega) hc (m_any C a (k + 1)) (m_fit C a k) (m_fre C a k) (m_any_b _ _ _) (m_fit_b _ _ _) (m_fre_b _ _ _) (fun H locs ls hP hS hl => ?_) ((C 5 1 0).toNat + 1) 0 _ _ ls (by omega) (by omega) hP hS hl
          refine q_iinc (lv' := [(5, .int (iI (((k : Nat) : Int) + 1))), (3, .int (iI (m_fi C k (m_fit C a k) (C 5 1 0).toNat))), (4, .int (iI (m_fr C k (m_fre C a k) (C 5 1 0).toNat))), (0, .ref (ad 5 0)), (1, .int (iI a)), (2, .int (iI (m_any C a (k + 1))))]) (k := 5) X dX5_reason_170 hl rfl (by decide) rfl (fun ls hl => ?_)
          refine lv_goto (tgt := 36) X.1 X.2.1 dX5_reason_173 (by decide) ?_
          have e_9 : (((k : Nat) : Int) + 1) = (((k + 1) : Nat) : Int) := by omega
          have e_10 : (m_fi C k (m_fit C a k) (C 5 1 0).toNat) = (m_fit C a (k + 1)) := by rw [m_fit]; first | (rw [if_pos hc]; done) | (rw [if_neg hc]; done)
          have e_11 : (m_fr C k (m_fre C a k) (C 5 1 0).toNat) = (m_fre C a (k + 1)) := by rw [m_fre]; first | (rw [if_pos hc]; done) | (rw [if_neg hc]; done)
          have hl : lv_has ls 7 [(5, .int (iI (((k + 1) : Nat) : Int))), (2, .int (iI (m_any C a (k + 1)))), (3, .int (iI (m_fit C a (k + 1)))), (4, .int (iI (m_fre C a (k + 1)))), (0, .ref (ad 5 0)), (1, .int (iI a))] := lv_cong (show lv_has ls 7 [(5, .int (iI (((k : Nat) : Int) + 1))), (2, .int (iI (m_any C a (k + 1)))), (3, .int (iI (m_fi C k (m_fit C a k) (C 5 1 0).toNat))), (4, .int (iI (m_fr C k (m_fre C a k) (C 5 1 0).toNat))), (0, .ref (ad 5 0)), (1, .int (iI a))] from lv_sub hl [0, 5, 1, 2, 3, 4] rfl) (lv_cs (congrArg (fun z => Value.int (iI z)) e_9) (lv_cs rfl (lv_cs (congrArg (fun z => Value.int (iI z)) e_10) (lv_cs (congrArg (fun z => Value.int (iI z)) e_11) (lv_cs rfl (lv_cs rfl rfl))))))
          exact ih (k + 1) _ _ ls (by omega) (by omega) hP hS hl
        · refine lv_iload X.1 X.2.1 dX5_reason_79 (lv_at hl 0 rfl) ?_
          refine lv_aload_n X.1 X.2.1 dX5_reason_81 rfl (lv_at hl 4 rfl) ?_
          refine q_get (index := 93) (v := .int (iI (C 5 1 0))) X hP 5 1 0 rfl rfl (by decide) in5 (m_v5 hM) (by decide) (by decide +kernel) rfl dX5_reason_82 ?_
          have f_12 := m_Rp hR
          refine q_icmp_gt (tgt := 170) X (by decide) (hP.tok 5 1 0 rfl) dX5_reason_85 (by decide) (fun h_13 => ?_) (fun h_13 => ?_)
          · refine q_iinc (lv' := [(5, .int (iI (((k : Nat) : Int) + 1))), (6, .int (iI (1))), (3, .int (iI (m_fit C a k))), (4, .int (iI (m_fre C a k))), (0, .ref (ad 5 0)), (1, .int (iI a)), (2, .int (iI (m_any C a (k + 1))))]) (k := 1) X dX5_reason_170 hl rfl (by decide) rfl (fun ls hl => ?_)
            refine lv_goto (tgt := 36) X.1 X.2.1 dX5_reason_173 (by decide) ?_
            have e_14 : (((k : Nat) : Int) + 1) = (((k + 1) : Nat) : Int) := by omega
            have e_15 : (m_fit C a k) = (m_fit C a (k + 1)) := by rw [m_fit]; first | (rw [if_pos hc]; done) | (rw [if_neg hc]; done)
            have e_16 : (m_fre C a k) = (m_fre C a (k + 1)) := by rw [m_fre]; first | (rw [if_pos hc]; done) | (rw [if_neg hc]; done)
            have hl : lv_has ls 7 [(5, .int (iI (((k + 1) : Nat) : Int))), (2, .int (iI (m_any C a (k + 1)))), (3, .int (iI (m_fit C a (k + 1)))), (4, .int (iI (m_fre C a (k + 1)))), (0, .ref (ad 5 0)), (1, .int (iI a))] := lv_cong (show lv_has ls 7 [(5, .int (iI (((k : Nat) : Int) + 1))), (2, .int (iI (m_any C a (k + 1)))), (3, .int (iI (m_fit C a k))), (4, .int (iI (m_fre C a k))), (0, .ref (ad 5 0)), (1, .int (iI a))] from lv_sub hl [0, 6, 2, 3, 4, 5] rfl) (lv_cs (congrArg (fun z => Value.int (iI z)) e_14) (lv_cs rfl (lv_cs (congrArg (fun z => Value.int (iI z)) e_15) (lv_cs (congrArg (fun z => Value.int (iI z)) e_16) (lv_cs rfl (lv_cs rfl rfl))))))
            exact ih (k + 1) _ _ ls (by omega) (by omega) hP hS hl
          · refine lv_aload_n X.1 X.2.1 dX5_reason_88 rfl (lv_at hl 4 rfl) ?_
            refine q_get (index := 51) (v := .ref (ad 38 0)) X hP 5 18 0 rfl rfl (by decide) in5 (m_v5 hM) (by decide) (by decide +kernel) (m_r hM ad 18 38 (by decide)) dX5_reason_89 ?_
            refine lv_iload X.1 X.2.1 dX5_reason_92 (lv_at hl 1 rfl) ?_
            refine q_ildv (len := 4200) (v := (C 38 k 0)) X hP 38 0 (by decide) rfl rfl (m_va hM 18 (by decide) rfl) rfl (by omega) (by omega) rfl dX5_reason_94 ?_
            have f_17 := m_R38 hR k
            refine lv_iload_n X.1 X.2.1 dX5_reason_95 rfl (lv_at hl 5 rfl) ?_
            refine q_icmp_ne (tgt := 170) X (hP.tok 38 k 0 rfl) ha dX5_reason_96 (by decide) (fun h_18 => ?_) (fun h_18 => ?_)
            · refine q_iinc (lv' := [(5, .int (iI (((k : Nat) : Int) + 1))), (6, .int (iI (1))), (3, .int (iI (m_fit C a k))), (4, .int (iI (m_fre C a k))), (0, .ref (ad 5 0)), (1, .int (iI a)), (2, .int (iI (m_any C a (k + 1))))]) (k := 1) X dX5_reason_170 hl rfl (by decide) rfl (fun ls hl => ?_)
              refine lv_goto (tgt := 36) X.1 X.2.1 dX5_reason_173 (by decide) ?_
              have e_19 : (((k : Nat) : Int) + 1) = (((k + 1) : Nat) : Int) := by omega
              have e_20 : (m_fit C a k) = (m_fit C a (k + 1)) := by rw [m_fit]; first | (rw [if_pos hc]; done) | (rw [if_neg hc]; done)
              have e_21 : (m_fre C a k) = (m_fre C a (k + 1)) := by rw [m_fre]; first | (rw [if_pos hc]; done) | (rw [if_neg hc]; done)
              have hl : lv_has ls 7 [(5, .int (iI (((k + 1) : Nat) : Int))), (2, .int (iI (m_any C a (k + 1)))), (3, .int (iI (m_fit C a (k + 1)))), (4, .int (iI (m_fre C a (k + 1)))), (0, .ref (ad 5 0)), (1, .int (iI a))] := lv_cong (show lv_has ls 7 [(5, .int (iI (((k : Nat) : Int) + 1))), (2, .int (iI (m_any C a (k + 1)))), (3, .int (iI (m_fit C a k))), (4, .int (iI (m_fre C a k))), (0, .ref (ad 5 0)), (1, .int (iI a))] from lv_sub hl [0, 6, 2, 3, 4, 5] rfl) (lv_cs (congrArg (fun z => Value.int (iI z)) e_19) (lv_cs rfl (lv_cs (congrArg (fun z => Value.int (iI z)) e_20) (lv_cs (congrArg (fun z => Value.int (iI z)) e_21) (lv_cs rfl (lv_cs rfl rfl))))))
              exact ih (k + 1) _ _ ls (by omega) (by omega) hP hS hl
            · refine lv_aload_n X.1 X.2.1 dX5_reason_99 rfl (lv_at hl 4 rfl) ?_
              refine q_get (index := 69) (v := .ref (ad 44 0)) X hP 5 24 0 rfl rfl (by decide) in5 (m_v5 hM) (by decide) (by decide +kernel) (m_r hM ad 24 44 (by decide)) dX5_reason_100 ?_
              refine lv_iload X.1 X.2.1 dX5_reason_103 (lv_at hl 1 rfl) ?_
              refine q_zldv (len := 4200) (v := (C 44 k 0)) X hP 44 0 (by decide) rfl rfl (m_va hM 24 (by decide) rfl) rfl (by omega) (by omega) rfl dX5_reason_105 ?_
              refine q_if_eq (tgt := 170) X (q_b32 (hP.tok 44 k 0 rfl)) dX5_reason_106 (by decide) (fun h_22 => ?_) (fun h_22 => ?_)
              · refine q_iinc (lv' := [(5, .int (iI (((k : Nat) : Int) + 1))), (6, .int (iI (1))), (3, .int (iI (m_fit C a k))), (4, .int (iI (m_fre C a k))), (0, .ref (ad 5 0)), (1, .int (iI a)), (2, .int (iI (m_any C a (k + 1))))]) (k := 1) X dX5_reason_170 hl rfl (by decide) rfl (fun ls hl => ?_)
                refine lv_goto (tgt := 36) X.1 X.2.1 dX5_reason_173 (by decide) ?_
                have e_23 : (((k : Nat) : Int) + 1) = (((k + 1) : Nat) : Int) := by omega
                have e_24 : (m_fit C a k) = (m_fit C a (k + 1)) := by rw [m_fit]; first | (rw [if_pos hc]; done) | (rw [if_neg hc]; done)
                have e_25 : (m_fre C a k) = (m_fre C a (k + 1)) := by rw [m_fre]; first | (rw [if_pos hc]; done) | (rw [if_neg hc]; done)
                have hl : lv_has ls 7 [(5, .int (iI (((k + 1) : Nat) : Int))), (2, .int (iI (m_any C a (k + 1)))), (3, .int (iI (m_fit C a (k + 1)))), (4, .int (iI (m_fre C a (k + 1)))), (0, .ref (ad 5 0)), (1, .int (iI a))] := lv_cong (show lv_has ls 7 [(5, .int (iI (((k : Nat) : Int) + 1))), (2, .int (iI (m_any C a (k + 1)))), (3, .int (iI (m_fit C a k))), (4, .int (iI (m_fre C a k))), (0, .ref (ad 5 0)), (1, .int (iI a))] from lv_sub hl [0, 6, 2, 3, 4, 5] rfl) (lv_cs (congrArg (fun z => Value.int (iI z)) e_23) (lv_cs rfl (lv_cs (congrArg (fun z => Value.int (iI z)) e_24) (lv_cs (congrArg (fun z => Value.int (iI z)) e_25) (lv_cs rfl (lv_cs rfl rfl))))))
                exact ih (k + 1) _ _ ls (by omega) (by omega) hP hS hl
              · exact absurd ⟨by assumption, by assumption⟩ hc
      · refine lv_iload_n X.1 X.2.1 dX5_reason_45 rfl (lv_at hl 1 rfl) ?_
        refine q_if_ne (tgt := 70) X (q_b32 (m_any_b _ _ _)) dX5_reason_46 (by decide) (fun h_26 => ?_) (fun h_26 => ?_)
        · refine lv_iconst (v := iI (1)) X.1 X.2.1 dX5_reason_70 rfl ?_
          refine lv_goto (tgt := 75) X.1 X.2.1 dX5_reason_71 (by decide) ?_
          refine lv_istore_n (lv' := [(2, .int (iI (1))), (5, .int (iI ((k : Nat) : Int))), (3, .int (iI (m_fit C a k))), (4, .int (iI (m_fre C a k))), (0, .ref (ad 5 0)), (1, .int (iI a))]) X.1 X.2.1 dX5_reason_75 rfl hl (by decide) rfl (fun ls hl => ?_)
          have e_27 : (1) = (m_any C a (k + 1)) := by rw [m_any]; first | (rw [if_pos (Or.inl (by assumption))]; done) | (rw [if_pos (Or.inr ⟨by assumption, by assumption⟩)]; done) | (rw [if_neg (fun z => by rcases z with z | ⟨z1, z2⟩ <;> contradiction)]; done)
          have hl : lv_has ls 7 [(5, .int (iI ((k : Nat) : Int))), (3, .int (iI (m_fit C a k))), (4, .int (iI (m_fre C a k))), (0, .ref (ad 5 0)), (1, .int (iI a)), (2, .int (iI (m_any C a (k + 1))))] := lv_cong (show lv_has ls 7 [(5, .int (iI ((k : Nat) : Int))), (3, .int (iI (m_fit C a k))), (4, .int (iI (m_fre C a k))), (0, .ref (ad 5 0)), (1, .int (iI a)), (2, .int (iI (1)))] from lv_sub hl [1, 2, 3, 4, 5, 0] rfl) (lv_cs rfl (lv_cs rfl (lv_cs rfl (lv_cs rfl (lv_cs rfl (lv_cs (congrArg (fun z => Value.int (iI z)) e_27) rfl))))))
          exact kj _ _ ls hP hS hl
        · refine lv_aload_n X.1 X.2.1 dX5_reason_49 rfl (lv_at hl 4 rfl) ?_
          refine q_get (index := 51) (v := .ref (ad 38 0)) X hP 5 18 0 rfl rfl (by decide) in5 (m_v5 hM) (by decide) (by decide +kernel) (m_r hM ad 18 38 (by decide)) dX5_reason_50 ?_
          refine lv_iload X.1 X.2.1 dX5_reason_53 (lv_at hl 0 rfl) ?_
          refine q_ildv (len := 4200) (v := (C 38 k 0)) X hP 38 0 (by decide) rfl rfl (m_va hM 18 (by decide) rfl) rfl (by omega) (by omega) rfl dX5_reason_55 ?_
          have f_28 := m_R38 hR k
          refine lv_iload_n X.1 X.2.1 dX5_reason_56 rfl (lv_at hl 5 rfl) ?_
          refine q_icmp_ne (tgt := 74) X (hP.tok 38 k 0 rfl) ha dX5_reason_57 (by decide) (fun h_29 => ?_) (fun h_29 => ?_)
          · refine lv_iconst (v := iI (0)) X.1 X.2.1 dX5_reason_74 rfl ?_
            refine lv_istore_n (lv' := [(2, .int (iI (0))), (5, .int (iI ((k : Nat) : Int))), (3, .int (iI (m_fit C a k))), (4, .int (iI (m_fre C a k))), (0, .ref (ad 5 0)), (1, .int (iI a))]) X.1 X.2.1 dX5_reason_75 rfl hl (by decide) rfl (fun ls hl => ?_)
            have e_30 : (0) = (m_any C a (k + 1)) := by rw [m_any]; first | (rw [if_pos (Or.inl (by assumption))]; done) | (rw [if_pos (Or.inr ⟨by assumption, by assumption⟩)]; done) | (rw [if_neg (fun z => by rcases z with z | ⟨z1, z2⟩ <;> contradiction)]; done)
            have hl : lv_has ls 7 [(5, .int (iI ((k : Nat) : Int))), (3, .int (iI (m_fit C a k))), (4, .int (iI (m_fre C a k))), (0, .ref (ad 5 0)), (1, .int (iI a)), (2, .int (iI (m_any C a (k + 1))))] := lv_cong (show lv_has ls 7 [(5, .int (iI ((k : Nat) : Int))), (3, .int (iI (m_fit C a k))), (4, .int (iI (m_fre C a k))), (0, .ref (ad 5 0)), (1, .int (iI a)), (2, .int (iI (0)))] from lv_sub hl [1, 2, 3, 4, 5, 0] rfl) (lv_cs rfl (lv_cs rfl (lv_cs rfl (lv_cs rfl (lv_cs rfl (lv_cs (congrArg (fun z => Value.int (iI z)) e_30) rfl))))))
            exact kj _ _ ls hP hS hl
          · refine lv_aload_n X.1 X.2.1 dX5_reason_60 rfl (lv_at hl 4 rfl) ?_
            refine q_get (index := 69) (v := .ref (ad 44 0)) X hP 5 24 0 rfl rfl (by decide) in5 (m_v5 hM) (by decide) (by decide +kernel) (m_r hM ad 24 44 (by decide)) dX5_reason_61 ?_
            refine lv_iload X.1 X.2.1 dX5_reason_64 (lv_at hl 0 rfl) ?_
            refine q_zldv (len := 4200) (v := (C 44 k 0)) X hP 44 0 (by decide) rfl rfl (m_va hM 24 (by decide) rfl) rfl (by omega) (by omega) rfl dX5_reason_66 ?_
            refine q_if_eq (tgt := 74) X (q_b32 (hP.tok 44 k 0 rfl)) dX5_reason_67 (by decide) (fun h_31 => ?_) (fun h_31 => ?_)
            · refine lv_iconst (v := iI (0)) X.1 X.2.1 dX5_reason_74 rfl ?_
              refine lv_istore_n (lv' := [(2, .int (iI (0))), (5, .int (iI ((k : Nat) : Int))), (3, .int (iI (m_fit C a k))), (4, .int (iI (m_fre C a k))), (0, .ref (ad 5 0)), (1, .int (iI a))]) X.1 X.2.1 dX5_reason_75 rfl hl (by decide) rfl (fun ls hl => ?_)
              have e_32 : (0) = (m_any C a (k + 1)) := by rw [m_any]; first | (rw [if_pos (Or.inl (by assumption))]; done) | (rw [if_pos (Or.inr ⟨by assumption, by assumption⟩)]; done) | (rw [if_neg (fun z => by rcases z with z | ⟨z1, z2⟩ <;> contradiction)]; done)
              have hl : lv_has ls 7 [(5, .int (iI ((k : Nat) : Int))), (3, .int (iI (m_fit C a k))), (4, .int (iI (m_fre C a k))), (0, .ref (ad 5 0)), (1, .int (iI a)), (2, .int (iI (m_any C a (k + 1))))] := lv_cong (show lv_has ls 7 [(5, .int (iI ((k : Nat) : Int))), (3, .int (iI (m_fit C a k))), (4, .int (iI (m_fre C a k))), (0, .ref (ad 5 0)), (1, .int (iI a)), (2, .int (iI (0)))] from lv_sub hl [1, 2, 3, 4, 5, 0] rfl) (lv_cs rfl (lv_cs rfl (lv_cs rfl (lv_cs rfl (lv_cs rfl (lv_cs (congrArg (fun z => Value.int (iI z)) e_32) rfl))))))
              exact kj _ _ ls hP hS hl
            · refine lv_iconst (v := iI (1)) X.1 X.2.1 dX5_reason_70 rfl ?_
              refine lv_goto (tgt := 75) X.1 X.2.1 dX5_reason_71 (by decide) ?_
              refine lv_istore_n (lv' := [(2, .int (iI (1))), (5, .int (iI ((k : Nat) : Int))), (3, .int (iI (m_fit C a k))), (4, .int (iI (m_fre C a k))), (0, .ref (ad 5 0)), (1, .int (iI a))]) X.1 X.2.1 dX5_reason_75 rfl hl (by decide) rfl (fun ls hl => ?_)
              have e_33 : (1) = (m_any C a (k + 1)) := by rw [m_any]; first | (rw [if_pos (Or.inl (by assumption))]; done) | (rw [if_pos (Or.inr ⟨by assumption, by assumption⟩)]; done) | (rw [if_neg (fun z => by rcases z with z | ⟨z1, z2⟩ <;> contradiction)]; done)
              have hl : lv_has ls 7 [(5, .int (iI ((k : Nat) : Int))), (3, .int (iI (m_fit C a k))), (4, .int (iI (m_fre C a k))), (0, .ref (ad 5 0)), (1, .int (iI a)), (2, .int (iI (m_any C a (k + 1))))] := lv_cong (show lv_has ls 7 [(5, .int (iI ((k : Nat) : Int))), (3, .int (iI (m_fit C a k))), (4, .int (iI (m_fre C a k))), (0, .ref (ad 5 0)), (1, .int (iI a)), (2, .int (iI (1)))] from lv_sub hl [1, 2, 3, 4, 5, 0] rfl) (lv_cs rfl (lv_cs rfl (lv_cs rfl (lv_cs rfl (lv_cs rfl (lv_cs (congrArg (fun z => Value.int (iI z)) e_33) rfl))))))
              exact kj _ _ ls hP hS hl
def tX5_reason (n : Nat → Nat) (ad : Nat → Nat → Nat) (C : q_S) (a : Int) (r : Int32) (u : q_U) : Prop :=
  ((1 ≤ a ∧ a ≤ C 5 10 0) ∧ (¬ (m_any C a (C 5 17 0).toNat) = (0)) ∧ ((C 35 ((a).toNat) 0) = (0)) ∧ ((C 34 ((a).toNat) 0) ≤ (C 5 28 0)) ∧ (¬ (m_fit C a (C 5 17 0).toNat) = (0)) ∧ (¬ (m_fre C a (C 5 17 0).toNat) = (0)) ∧ u = (n, ad, q_up C 5 0 0 ((0))) ∧ r = iI (5)) ∨
  ((1 ≤ a ∧ a ≤ C 5 10 0) ∧ (¬ (m_any C a (C 5 17 0).toNat) = (0)) ∧ ((C 35 ((a).toNat) 0) = (0)) ∧ ((C 34 ((a).toNat) 0) ≤ (C 5 28 0)) ∧ (¬ (m_fit C a (C 5 17 0).toNat) = (0)) ∧ ((m_fre C a (C 5 17 0).toNat) = (0)) ∧ u = (n, ad, q_up C 5 0 0 ((0))) ∧ r = iI (4)) ∨
  ((1 ≤ a ∧ a ≤ C 5 10 0) ∧ (¬ (m_any C a (C 5 17 0).toNat) = (0)) ∧ ((C 35 ((a).toNat) 0) = (0)) ∧ ((C 34 ((a).toNat) 0) ≤ (C 5 28 0)) ∧ ((m_fit C a (C 5 17 0).toNat) = (0)) ∧ u = (n, ad, q_up C 5 0 0 ((0))) ∧ r = iI (3)) ∨
  ((1 ≤ a ∧ a ≤ C 5 10 0) ∧ (¬ (m_any C a (C 5 17 0).toNat) = (0)) ∧ ((C 35 ((a).toNat) 0) = (0)) ∧ ((C 5 28 0) < (C 34 ((a).toNat) 0)) ∧ u = (n, ad, q_up C 5 0 0 ((0))) ∧ r = iI (2)) ∨
  ((1 ≤ a ∧ a ≤ C 5 10 0) ∧ (¬ (m_any C a (C 5 17 0).toNat) = (0)) ∧ (¬ (C 35 ((a).toNat) 0) = (0)) ∧ u = (n, ad, q_up C 5 0 0 ((0))) ∧ r = iI (1)) ∨
  ((1 ≤ a ∧ a ≤ C 5 10 0) ∧ ((m_any C a (C 5 17 0).toNat) = (0)) ∧ u = (n, ad, q_up C 5 0 0 ((0))) ∧ r = iI (0)) ∨
  ((¬ (1 ≤ a ∧ a ≤ C 5 10 0)) ∧ u = (n, ad, q_up C 5 0 0 ((1))) ∧ r = iI (0))
set_option maxHeartbeats 4000000 in
set_option maxRecDepth 100000 in
theorem c_X5_reason (l : Launch) (g : q_G) (s0 : Nat) (n : Nat → Nat) (ad : Nat → Nat → Nat) (C : q_S) (c0 : Nat) (hM : m_S C n) (hR : m_R C c0) (hc0 : c0 ≤ 600) (a : Int) (ha : R32 a)  : Met l yX5_reason wsX5_reason ({ frames := 2, cells := 0, slots := 0, locals := 46 }) (va_Pc [.ref (ad 5 0), .int (iI a)] (q_B g s0 (n, ad, C))) (va_Qi (tX5_reason n ad C a) (q_B g s0) (q_A s0)) 0 0 (q_A s0) := by
  refine Met.ofW (cc := cX5_reason) (maxL := 7) (ret := (some .int)) (by decide) rfl ?_
  intro p e s m args below meth c s₁ B hml hv
  obtain ⟨rfl, hv⟩ := hv
  have hr := B.returns
  have hlocks := B.notSynchronized
  obtain ⟨X, hP⟩ := q_start B.exec B.bytes hml (show s.vm.findClass RX5 = some m.cls from findClass_of_methodNamed B.named) (atoms_spec (ws := wsX5_reason) B.pre) hv
  have hP : q_P g s0 n ad C s.heap := hP
  have hS : va_S (q_A s0) s.heap s.heap [] := va_S.rf
  have in5 : ∀ w ∈ wsX50, w ∈ wsX5_reason := by decide +kernel
  have f00 := m_Rj hR
  have hl := lv_entry ([.ref (ad 5 0), .int (iI a)]) (n := 7) (Nat.le_of_ble_eq_true rfl)
  rw [lg_entry_eq]
  generalize (lg_sl ([.ref (ad 5 0), .int (iI a)]) ++ List.replicate (7 - (lg_sl ([.ref (ad 5 0), .int (iI a)])).length) Slot.unset).toArray = ls at hl ⊢
  have hl : lv_has ls 7 [(0, .ref (ad 5 0)), (1, .int (iI a))] := hl
  refine lv_aload_n X.1 X.2.1 dX5_reason_0 rfl (lv_at hl 0 rfl) ?_
  refine lv_aload_n X.1 X.2.1 dX5_reason_1 rfl (lv_at hl 0 rfl) ?_
  refine lv_iload_n X.1 X.2.1 dX5_reason_2 rfl (lv_at hl 1 rfl) ?_
  refine va_calli (va_runV (As := [.int (iI a)]) (rest := [.ref (ad 5 0)]) X.fix (c_X5_isJob l g s0 n ad C c0 hM hR a ha) (cwV 1 X.2.2.2.2.1 gX5_reason_X5_isJob rfl rfl rfl (by decide +kernel) ⟨Nat.le_of_ble_eq_true rfl, Nat.le_of_ble_eq_true rfl⟩) (q_preV X hP hS [.int (iI a)] (kd := 5) (by decide) rfl (m_v5 hM)) rfl rfl hl.1 rfl (lv_room (Nat.le_of_ble_eq_true rfl)) dX5_reason_3 ⟨Nat.le_of_ble_eq_true rfl, Nat.le_of_ble_eq_true rfl⟩) hS q_id q_id1 (fun r u t H locs ht hvm hw hB hz1 hk1 hS => ?_)
  obtain ⟨rfl, ⟨h_1, rfl⟩ | ⟨h_1, rfl⟩⟩ := hw
  · have hP : q_P g s0 n ad (C) H := q_back hB ht
    have h_1 : 1 ≤ a ∧ a ≤ C 5 10 0 := h_1
    refine q_if_eq (tgt := 13) X (by decide) dX5_reason_6 (by decide) (fun h => absurd h (by decide)) (fun _ => ?_)
    refine lv_iconst (v := iI (0)) X.1 X.2.1 dX5_reason_9 rfl ?_
    refine lv_goto (tgt := 14) X.1 X.2.1 dX5_reason_10 (by decide) ?_
    refine q_put (index := 82) (v := .int (iI (0))) X hP hS 5 0 0 ((0)) rfl rfl (by decide) in5 tyX5 tyX5_ok nmX5 (m_v5 hM) (by decide) (by decide +kernel) rfl rfl rfl rfl (show R32 _ from (by decide)) dX5_reason_14 (fun H locs hP hS => ?_)
    have hP : q_P g s0 n ad (q_up C 5 0 0 ((0))) H := hP
    refine lv_aload_n X.1 X.2.1 dX5_reason_17 rfl (lv_at hl 0 rfl) ?_
    refine q_get (index := 82) (v := .int (iI (0))) X hP 5 0 0 rfl rfl (by decide) in5 (m_v5 hM) (by decide) (by decide +kernel) rfl dX5_reason_18 ?_
    refine q_if_le (tgt := 26) X (by decide) dX5_reason_21 (by decide) (fun _ => ?_) (fun h => absurd h (by decide))
    refine lv_iconst (v := iI (0)) X.1 X.2.1 dX5_reason_26 rfl ?_
    refine lv_istore_n (lv' := [(2, .int (iI (0))), (0, .ref (ad 5 0)), (1, .int (iI a))]) X.1 X.2.1 dX5_reason_27 rfl hl (by decide) rfl (fun ls hl => ?_)
    refine lv_iconst (v := iI (0)) X.1 X.2.1 dX5_reason_28 rfl ?_
    refine lv_istore_n (lv' := [(3, .int (iI (0))), (2, .int (iI (0))), (0, .ref (ad 5 0)), (1, .int (iI a))]) X.1 X.2.1 dX5_reason_29 rfl hl (by decide) rfl (fun ls hl => ?_)
    refine lv_iconst (v := iI (0)) X.1 X.2.1 dX5_reason_30 rfl ?_
    refine lv_istore (lv' := [(4, .int (iI (0))), (3, .int (iI (0))), (2, .int (iI (0))), (0, .ref (ad 5 0)), (1, .int (iI a))]) X.1 X.2.1 dX5_reason_31 hl (by decide) rfl (fun ls hl => ?_)
    refine lv_iconst (v := iI (0)) X.1 X.2.1 dX5_reason_33 rfl ?_
    refine lv_istore (lv' := [(5, .int (iI (0))), (4, .int (iI (0))), (3, .int (iI (0))), (2, .int (iI (0))), (0, .ref (ad 5 0)), (1, .int (iI a))]) X.1 X.2.1 dX5_reason_34 hl (by decide) rfl (fun ls hl => ?_)
    have e_4 : (0) = ((0 : Nat) : Int) := by rfl
    have e_5 : (0) = (m_any C a 0) := by rfl
    have e_6 : (0) = (m_fit C a 0) := by rfl
    have e_7 : (0) = (m_fre C a 0) := by rfl
    have hl : lv_has ls 7 [(5, .int (iI ((0 : Nat) : Int))), (2, .int (iI (m_any C a 0))), (3, .int (iI (m_fit C a 0))), (4, .int (iI (m_fre C a 0))), (0, .ref (ad 5 0)), (1, .int (iI a))] := lv_cong (show lv_has ls 7 [(5, .int (iI (0))), (2, .int (iI (0))), (3, .int (iI (0))), (4, .int (iI (0))), (0, .ref (ad 5 0)), (1, .int (iI a))] from lv_sub hl [0, 3, 2, 1, 4, 5] rfl) (lv_cs (congrArg (fun z => Value.int (iI z)) e_4) (lv_cs (congrArg (fun z => Value.int (iI z)) e_5) (lv_cs (congrArg (fun z => Value.int (iI z)) e_6) (lv_cs (congrArg (fun z => Value.int (iI z)) e_7) (lv_cs rfl (lv_cs rfl rfl))))))
    have f0 := m_Rk hR
    refine w_X5_reason X in5 c0 hM hR hc0 a ha (fun H locs ls hP hS hl => ?_) ((C 5 17 0).toNat + 1) 0 _ _ ls (by omega) (by omega) hP hS hl
    refine lv_iload_n X.1 X.2.1 dX5_reason_176 rfl (lv_at hl 0 rfl) ?_
    refine q_if_ne (tgt := 182) X (q_b32 (m_any_b _ _ _)) dX5_reason_177 (by decide) (fun h_8 => ?_) (fun h_8 => ?_)
    · refine lv_aload_n X.1 X.2.1 dX5_reason_182 rfl (lv_at hl 3 rfl) ?_
      refine q_get (index := 44) (v := .ref (ad 35 0)) X hP 5 15 0 rfl rfl (by decide) in5 (m_v5 hM) (by decide) (by decide +kernel) (m_r hM ad 15 35 (by decide)) dX5_reason_183 ?_
      refine lv_iload_n X.1 X.2.1 dX5_reason_186 rfl (lv_at hl 4 rfl) ?_
      refine q_zldv (len := 61) (v := (C 35 ((a).toNat) 0)) X hP 35 0 (by decide) rfl rfl (m_va hM 15 (by decide) rfl) rfl (by omega) (by omega) rfl dX5_reason_187 ?_
      refine q_if_eq (tgt := 193) X (q_b32 (hP.tok 35 ((a).toNat) 0 rfl)) dX5_reason_188 (by decide) (fun h_9 => ?_) (fun h_9 => ?_)
      · refine lv_aload_n X.1 X.2.1 dX5_reason_193 rfl (lv_at hl 3 rfl) ?_
        refine q_get (index := 41) (v := .ref (ad 34 0)) X hP 5 14 0 rfl rfl (by decide) in5 (m_v5 hM) (by decide) (by decide +kernel) (m_r hM ad 14 34 (by decide)) dX5_reason_194 ?_
        refine lv_iload_n X.1 X.2.1 dX5_reason_197 rfl (lv_at hl 4 rfl) ?_
        refine q_lldv (len := 61) (v := (C 34 ((a).toNat) 0)) X hP 34 0 (by decide) rfl rfl (m_va hM 14 (by decide) rfl) rfl (by omega) (by omega) rfl dX5_reason_198 ?_
        refine lv_aload_n X.1 X.2.1 dX5_reason_199 rfl (lv_at hl 3 rfl) ?_
        refine q_get (index := 117) (v := .long (jI (C 5 28 0))) X hP 5 28 0 rfl rfl (by decide) in5 (m_v5 hM) (by decide) (by decide +kernel) rfl dX5_reason_200 ?_
        refine q_lcmp_le (tgt := 209) X (hP.tok 34 ((a).toNat) 0 rfl) (hP.tok 5 28 0 rfl) dX5_reason_203 dX5_reason_204 (by decide) (fun h_10 => ?_) (fun h_10 => ?_)
        · refine lv_iload_n X.1 X.2.1 dX5_reason_209 rfl (lv_at hl 1 rfl) ?_
          refine q_if_ne (tgt := 217) X (q_b32 (m_fit_b _ _ _)) dX5_reason_210 (by decide) (fun h_11 => ?_) (fun h_11 => ?_)
          · refine lv_iload X.1 X.2.1 dX5_reason_217 (lv_at hl 2 rfl) ?_
            refine q_if_ne (tgt := 226) X (q_b32 (m_fre_b _ _ _)) dX5_reason_219 (by decide) (fun h_12 => ?_) (fun h_12 => ?_)
            · refine lv_iconst (v := iI (5)) X.1 X.2.1 dX5_reason_226 rfl ?_
              exact q_iret X hr hlocks hP hS (Or.inl (⟨h_1, h_8, h_9, h_10, h_11, h_12, rfl, rfl⟩)) (Nat.le_of_ble_eq_true rfl) (Nat.le_of_ble_eq_true rfl) dX5_reason_227
            · refine lv_iconst (v := iI (4)) X.1 X.2.1 dX5_reason_222 rfl ?_
              refine lv_goto (tgt := 227) X.1 X.2.1 dX5_reason_223 (by decide) ?_
              exact q_iret X hr hlocks hP hS (Or.inr (Or.inl (⟨h_1, h_8, h_9, h_10, h_11, h_12, rfl, rfl⟩))) (Nat.le_of_ble_eq_true rfl) (Nat.le_of_ble_eq_true rfl) dX5_reason_227
          · refine lv_iconst (v := iI (3)) X.1 X.2.1 dX5_reason_213 rfl ?_
            refine lv_goto (tgt := 227) X.1 X.2.1 dX5_reason_214 (by decide) ?_
            exact q_iret X hr hlocks hP hS (Or.inr (Or.inr (Or.inl (⟨h_1, h_8, h_9, h_10, h_11, rfl, rfl⟩)))) (Nat.le_of_ble_eq_true rfl) (Nat.le_of_ble_eq_true rfl) dX5_reason_227
        · refine lv_iconst (v := iI (2)) X.1 X.2.1 dX5_reason_207 rfl ?_
          exact q_iret X hr hlocks hP hS (Or.inr (Or.inr (Or.inr (Or.inl (⟨h_1, h_8, h_9, h_10, rfl, rfl⟩))))) (Nat.le_of_ble_eq_true rfl) (Nat.le_of_ble_eq_true rfl) dX5_reason_208
      · refine lv_iconst (v := iI (1)) X.1 X.2.1 dX5_reason_191 rfl ?_
        exact q_iret X hr hlocks hP hS (Or.inr (Or.inr (Or.inr (Or.inr (Or.inl (⟨h_1, h_8, h_9, rfl, rfl⟩)))))) (Nat.le_of_ble_eq_true rfl) (Nat.le_of_ble_eq_true rfl) dX5_reason_192
    · refine lv_iconst (v := iI (0)) X.1 X.2.1 dX5_reason_180 rfl ?_
      exact q_iret X hr hlocks hP hS (Or.inr (Or.inr (Or.inr (Or.inr (Or.inr (Or.inl (⟨h_1, h_8, rfl, rfl⟩))))))) (Nat.le_of_ble_eq_true rfl) (Nat.le_of_ble_eq_true rfl) dX5_reason_181
  · have hP : q_P g s0 n ad (C) H := q_back hB ht
    have h_1 : ¬ (1 ≤ a ∧ a ≤ C 5 10 0) := h_1
    refine q_if_eq (tgt := 13) X (by decide) dX5_reason_6 (by decide) (fun _ => ?_) (fun h => absurd h (by decide))
    refine lv_iconst (v := iI (1)) X.1 X.2.1 dX5_reason_13 rfl ?_
    refine q_put (index := 82) (v := .int (iI (1))) X hP hS 5 0 0 ((1)) rfl rfl (by decide) in5 tyX5 tyX5_ok nmX5 (m_v5 hM) (by decide) (by decide +kernel) rfl rfl rfl rfl (show R32 _ from (by decide)) dX5_reason_14 (fun H locs hP hS => ?_)
    have hP : q_P g s0 n ad (q_up C 5 0 0 ((1))) H := hP
    refine lv_aload_n X.1 X.2.1 dX5_reason_17 rfl (lv_at hl 0 rfl) ?_
    refine q_get (index := 82) (v := .int (iI (1))) X hP 5 0 0 rfl rfl (by decide) in5 (m_v5 hM) (by decide) (by decide +kernel) rfl dX5_reason_18 ?_
    refine q_if_le (tgt := 26) X (by decide) dX5_reason_21 (by decide) (fun h => absurd h (by decide)) (fun _ => ?_)
    refine lv_iconst (v := iI (0)) X.1 X.2.1 dX5_reason_24 rfl ?_
    exact q_iret X hr hlocks hP hS (Or.inr (Or.inr (Or.inr (Or.inr (Or.inr (Or.inr (⟨h_1, rfl, rfl⟩))))))) (Nat.le_of_ble_eq_true rfl) (Nat.le_of_ble_eq_true rfl) dX5_reason_25
set_option maxHeartbeats 4000000 in
set_option maxRecDepth 100000 in
theorem w_X5_split {p : Program} {l : Launch} {e : Env} {s : State} {m : MethodId} {args : Array Value} {below : List Frame} {meth : Method} {c : Code} {Q : State → Prop} {g : q_G} {s0 : Nat} {n : Nat → Nat} {ad : Nat → Nat → Nat} {C : q_S} (X : q_X p s m args c cX5_split 6 wsX5_split RX5 g s0) (in5 : ∀ w ∈ wsX50, w ∈ wsX5_split) (c0 : Nat) (hM : m_S C n) (hR : m_R C c0) (hc0 : c0 ≤ 600) (a : Int) (ha : R32 a) (b : Int) (hb : R32 b) (d : Int) (hd : R32 d) (kx : ∀  (H : Heap) (locs : List Loc) (ls : Array Slot), (m_spf C a d (C 5 17 0).toNat) = (C 5 17 0).toNat → q_P g s0 n ad (q_up C 5 0 0 (0)) H → va_S (q_A s0) s.heap H locs → lv_has ls 6 [(0, .ref (ad 5 0)), (1, .int (iI a)), (2, .int (iI b)), (3, .int (iI d))] → W p l e ({ frames := 2, cells := 0, slots := 0, locals := 46 }) s m args below meth c H locs 0 0 Q (F0 m 185 ls [])) (ky : ∀  (H : Heap) (locs : List Loc) (ls : Array Slot), ((((m_spf C a d (C 5 17 0).toNat) : Nat) : Int) < C 5 17 0) → q_P g s0 n ad (q_up C 5 0 0 (0)) H → va_S (q_A s0) s.heap H locs → lv_has ls 6 [(4, .int (iI (((m_spf C a d (C 5 17 0).toNat) : Nat) : Int))), (0, .ref (ad 5 0)), (1, .int (iI a)), (2, .int (iI b)), (3, .int (iI d))] → W p l e ({ frames := 2, cells := 0, slots := 0, locals := 46 }) s m args below meth c H locs 0 0 Q (F0 m 154 ls [])) :
    ∀ (N : Nat) (k : Nat) (H : Heap) (locs : List Loc) (ls : Array Slot), (C 5 17 0 < (k : Int) + N) → ((k : Int) ≤ C 5 17 0) → (m_spf C a d k = k) → q_P g s0 n ad (q_up C 5 0 0 (0)) H → va_S (q_A s0) s.heap H locs → lv_has ls 6 [(4, .int (iI ((k : Nat) : Int))), (0, .ref (ad 5 0)), (1, .int (iI a)), (2, .int (iI b)), (3, .int (iI d))] → W p l e ({ frames := 2, cells := 0, slots := 0, locals := 46 }) s m args below meth c H locs 0 0 Q (F0 m 42 ls []) := by
  intro N
  induction N with
  | zero =>
    intro k H locs ls h1 h2 h3 hP hS hl
    exact absurd h1 (by omega)
  | succ N ih =>
    intro k H locs ls h1 h2 h3 hP hS hl
    have f0 := m_Rk hR
    refine lv_iload X.1 X.2.1 dX5_split_42 (lv_at hl 0 rfl) ?_
    refine lv_aload_n X.1 X.2.1 dX5_split_44 rfl (lv_at hl 1 rfl) ?_
    refine q_get (index := 101) (v := .int (iI (C 5 17 0))) X hP 5 17 0 rfl rfl (by decide) in5 (m_v5 hM) (by decide) (by decide +kernel) rfl dX5_split_45 ?_
    have f_1 := m_Rk hR
    refine q_icmp_ge (tgt := 185) X (by omega) (hP.tok 5 17 0 rfl) dX5_split_48 (by decide) (fun h_2 => ?_) (fun h_2 => ?_)
    · have ek : k = (C 5 17 0).toNat := by omega
      have hl : lv_has ls 6 [(0, .ref (ad 5 0)), (1, .int (iI a)), (2, .int (iI b)), (3, .int (iI d))] := lv_sub hl [1, 2, 3, 4] rfl
      exact kx _ _ ls (by rw [← ek]; exact h3) hP hS hl
    · have fp := (m_pg hR k (by omega)).2.2
      have fq := m_R42 hR k
      have fr := m_beg_b hR k fp
      have fs := m_dm fq fp
      have ft := m_dv fq fp
      have fu := m_R39 hR k
      refine lv_aload_n X.1 X.2.1 dX5_split_51 rfl (lv_at hl 1 rfl) ?_
      refine q_get (index := 63) (v := .ref (ad 42 0)) X hP 5 22 0 rfl rfl (by decide) in5 (m_v5 hM) (by decide) (by decide +kernel) (m_r hM ad 22 42 (by decide)) dX5_split_52 ?_
      refine lv_iload X.1 X.2.1 dX5_split_55 (lv_at hl 0 rfl) ?_
      refine q_ildv (len := 4200) (v := (C 42 k 0)) X hP 42 0 (by decide) rfl rfl (m_va hM 22 (by decide) rfl) rfl (by omega) (by omega) rfl dX5_split_57 ?_
      have f_3 := m_R42 hR k
      refine lv_aload_n X.1 X.2.1 dX5_split_58 rfl (lv_at hl 1 rfl) ?_
      refine q_get (index := 35) (v := .ref (ad 32 0)) X hP 5 12 0 rfl rfl (by decide) in5 (m_v5 hM) (by decide) (by decide +kernel) (m_r hM ad 12 32 (by decide)) dX5_split_59 ?_
      refine lv_aload_n X.1 X.2.1 dX5_split_62 rfl (lv_at hl 1 rfl) ?_
      refine q_get (index := 51) (v := .ref (ad 38 0)) X hP 5 18 0 rfl rfl (by decide) in5 (m_v5 hM) (by decide) (by decide +kernel) (m_r hM ad 18 38 (by decide)) dX5_split_63 ?_
      refine lv_iload X.1 X.2.1 dX5_split_66 (lv_at hl 0 rfl) ?_
      refine q_ildv (len := 4200) (v := (C 38 k 0)) X hP 38 0 (by decide) rfl rfl (m_va hM 18 (by decide) rfl) rfl (by omega) (by omega) rfl dX5_split_68 ?_
      have f_4 := m_R38 hR k
      refine q_ildv (len := 61) (v := (C 32 (((C 38 k 0)).toNat) 0)) X hP 32 0 (by decide) rfl rfl (m_va hM 12 (by decide) rfl) rfl (by omega) (by omega) rfl dX5_split_69 ?_
      have f_5 := m_R32 hR (((C 38 k 0)).toNat)
      refine q_idiv X (by omega) (by omega) dX5_split_70 ?_
      refine lv_istore (lv' := [(5, .int (iI ((C 42 k 0) / (C 32 (((C 38 k 0)).toNat) 0)))), (4, .int (iI ((k : Nat) : Int))), (0, .ref (ad 5 0)), (1, .int (iI a)), (2, .int (iI b)), (3, .int (iI d))]) X.1 X.2.1 dX5_split_71 hl (by decide) rfl (fun ls hl => ?_)
      refine q_join (g := g) (s0 := s0) (n := n) (ad := ad) (C := q_up C 5 0 0 (0)) (nL := 6) (lv := [(4, .int (iI ((k : Nat) : Int))), (0, .ref (ad 5 0)), (1, .int (iI a)), (2, .int (iI b)), (3, .int (iI d)), (5, .int (iI (m_beg C k)))]) (pcj := 109) (st := []) (fun H locs ls hP hS hl => ?_) (fun kj => ?_)
      · refine lv_aload_n X.1 X.2.1 dX5_split_109 rfl (lv_at hl 1 rfl) ?_
        refine q_get (index := 51) (v := .ref (ad 38 0)) X hP 5 18 0 rfl rfl (by decide) in5 (m_v5 hM) (by decide) (by decide +kernel) (m_r hM ad 18 38 (by decide)) dX5_split_110 ?_
        refine lv_iload X.1 X.2.1 dX5_split_113 (lv_at hl 0 rfl) ?_
        refine q_ildv (len := 4200) (v := (C 38 k 0)) X hP 38 0 (by decide) rfl rfl (m_va hM 18 (by decide) rfl) rfl (by omega) (by omega) rfl dX5_split_115 ?_
        refine lv_iload_n X.1 X.2.1 dX5_split_116 rfl (lv_at hl 2 rfl) ?_
        refine q_icmp_ne (tgt := 179) X (hP.tok 38 k 0 rfl) ha dX5_split_117 (by decide) (fun h_6 => ?_) (fun h_6 => ?_)
        · refine q_iinc (lv' := [(4, .int (iI (((k : Nat) : Int) + 1))), (0, .ref (ad 5 0)), (1, .int (iI a)), (2, .int (iI b)), (3, .int (iI d)), (5, .int (iI (m_beg C k)))]) (k := 0) X dX5_split_179 hl rfl (by decide) rfl (fun ls hl => ?_)
          refine lv_goto (tgt := 42) X.1 X.2.1 dX5_split_182 (by decide) ?_
          have hs : m_spf C a d (k + 1) = k + 1 := by rw [m_spf, if_neg (by omega), if_neg (fun q => by obtain ⟨q1, q2, q3, q4⟩ := q; first | contradiction | omega)]
          have e_7 : (((k : Nat) : Int) + 1) = (((k + 1) : Nat) : Int) := by omega
          have hl : lv_has ls 6 [(4, .int (iI (((k + 1) : Nat) : Int))), (0, .ref (ad 5 0)), (1, .int (iI a)), (2, .int (iI b)), (3, .int (iI d))] := lv_cong (show lv_has ls 6 [(4, .int (iI (((k : Nat) : Int) + 1))), (0, .ref (ad 5 0)), (1, .int (iI a)), (2, .int (iI b)), (3, .int (iI d))] from lv_sub hl [0, 1, 2, 3, 4] rfl) (lv_cs (congrArg (fun z => Value.int (iI z)) e_7) (lv_cs rfl (lv_cs rfl (lv_cs rfl (lv_cs rfl rfl)))))
          exact ih (k + 1) _ _ ls (by omega) (by omega) hs hP hS hl
        · refine lv_aload_n X.1 X.2.1 dX5_split_120 rfl (lv_at hl 1 rfl) ?_
          refine q_get (index := 57) (v := .ref (ad 40 0)) X hP 5 20 0 rfl rfl (by decide) in5 (m_v5 hM) (by decide) (by decide +kernel) (m_r hM ad 20 40 (by decide)) dX5_split_121 ?_
          refine lv_iload X.1 X.2.1 dX5_split_124 (lv_at hl 0 rfl) ?_
          refine q_ildv (len := 4200) (v := (C 40 k 0)) X hP 40 0 (by decide) rfl rfl (m_va hM 20 (by decide) rfl) rfl (by omega) (by omega) rfl dX5_split_126 ?_
          have f_8 := m_R40 hR k
          refine q_if_ne (tgt := 179) X (hP.tok 40 k 0 rfl) dX5_split_127 (by decide) (fun h_9 => ?_) (fun h_9 => ?_)
          · refine q_iinc (lv' := [(4, .int (iI (((k : Nat) : Int) + 1))), (0, .ref (ad 5 0)), (1, .int (iI a)), (2, .int (iI b)), (3, .int (iI d)), (5, .int (iI (m_beg C k)))]) (k := 0) X dX5_split_179 hl rfl (by decide) rfl (fun ls hl => ?_)
            refine lv_goto (tgt := 42) X.1 X.2.1 dX5_split_182 (by decide) ?_
            have hs : m_spf C a d (k + 1) = k + 1 := by rw [m_spf, if_neg (by omega), if_neg (fun q => by obtain ⟨q1, q2, q3, q4⟩ := q; first | contradiction | omega)]
            have e_10 : (((k : Nat) : Int) + 1) = (((k + 1) : Nat) : Int) := by omega
            have hl : lv_has ls 6 [(4, .int (iI (((k + 1) : Nat) : Int))), (0, .ref (ad 5 0)), (1, .int (iI a)), (2, .int (iI b)), (3, .int (iI d))] := lv_cong (show lv_has ls 6 [(4, .int (iI (((k : Nat) : Int) + 1))), (0, .ref (ad 5 0)), (1, .int (iI a)), (2, .int (iI b)), (3, .int (iI d))] from lv_sub hl [0, 1, 2, 3, 4] rfl) (lv_cs (congrArg (fun z => Value.int (iI z)) e_10) (lv_cs rfl (lv_cs rfl (lv_cs rfl (lv_cs rfl rfl)))))
            exact ih (k + 1) _ _ ls (by omega) (by omega) hs hP hS hl
          · refine lv_aload_n X.1 X.2.1 dX5_split_130 rfl (lv_at hl 1 rfl) ?_
            refine q_get (index := 69) (v := .ref (ad 44 0)) X hP 5 24 0 rfl rfl (by decide) in5 (m_v5 hM) (by decide) (by decide +kernel) (m_r hM ad 24 44 (by decide)) dX5_split_131 ?_
            refine lv_iload X.1 X.2.1 dX5_split_134 (lv_at hl 0 rfl) ?_
            refine q_zldv (len := 4200) (v := (C 44 k 0)) X hP 44 0 (by decide) rfl rfl (m_va hM 24 (by decide) rfl) rfl (by omega) (by omega) rfl dX5_split_136 ?_
            refine q_if_eq (tgt := 179) X (q_b32 (hP.tok 44 k 0 rfl)) dX5_split_137 (by decide) (fun h_11 => ?_) (fun h_11 => ?_)
            · refine q_iinc (lv' := [(4, .int (iI (((k : Nat) : Int) + 1))), (0, .ref (ad 5 0)), (1, .int (iI a)), (2, .int (iI b)), (3, .int (iI d)), (5, .int (iI (m_beg C k)))]) (k := 0) X dX5_split_179 hl rfl (by decide) rfl (fun ls hl => ?_)
              refine lv_goto (tgt := 42) X.1 X.2.1 dX5_split_182 (by decide) ?_
              have hs : m_spf C a d (k + 1) = k + 1 := by rw [m_spf, if_neg (by omega), if_neg (fun q => by obtain ⟨q1, q2, q3, q4⟩ := q; first | contradiction | omega)]
              have e_12 : (((k : Nat) : Int) + 1) = (((k + 1) : Nat) : Int) := by omega
              have hl : lv_has ls 6 [(4, .int (iI (((k + 1) : Nat) : Int))), (0, .ref (ad 5 0)), (1, .int (iI a)), (2, .int (iI b)), (3, .int (iI d))] := lv_cong (show lv_has ls 6 [(4, .int (iI (((k : Nat) : Int) + 1))), (0, .ref (ad 5 0)), (1, .int (iI a)), (2, .int (iI b)), (3, .int (iI d))] from lv_sub hl [0, 1, 2, 3, 4] rfl) (lv_cs (congrArg (fun z => Value.int (iI z)) e_12) (lv_cs rfl (lv_cs rfl (lv_cs rfl (lv_cs rfl rfl)))))
              exact ih (k + 1) _ _ ls (by omega) (by omega) hs hP hS hl
            · refine lv_aload_n X.1 X.2.1 dX5_split_140 rfl (lv_at hl 1 rfl) ?_
              refine q_get (index := 54) (v := .ref (ad 39 0)) X hP 5 19 0 rfl rfl (by decide) in5 (m_v5 hM) (by decide) (by decide +kernel) (m_r hM ad 19 39 (by decide)) dX5_split_141 ?_
              refine lv_iload X.1 X.2.1 dX5_split_144 (lv_at hl 0 rfl) ?_
              refine q_ildv (len := 4200) (v := (C 39 k 0)) X hP 39 0 (by decide) rfl rfl (m_va hM 19 (by decide) rfl) rfl (by omega) (by omega) rfl dX5_split_146 ?_
              have f_13 := m_R39 hR k
              refine lv_iload X.1 X.2.1 dX5_split_147 (lv_at hl 5 rfl) ?_
              refine q_isub X dX5_split_149 ?_
              refine lv_iload_n X.1 X.2.1 dX5_split_150 rfl (lv_at hl 4 rfl) ?_
              refine q_icmp_le (tgt := 179) X (by omega) hd dX5_split_151 (by decide) (fun h_14 => ?_) (fun h_14 => ?_)
              · refine q_iinc (lv' := [(4, .int (iI (((k : Nat) : Int) + 1))), (0, .ref (ad 5 0)), (1, .int (iI a)), (2, .int (iI b)), (3, .int (iI d)), (5, .int (iI (m_beg C k)))]) (k := 0) X dX5_split_179 hl rfl (by decide) rfl (fun ls hl => ?_)
                refine lv_goto (tgt := 42) X.1 X.2.1 dX5_split_182 (by decide) ?_
                have hs : m_spf C a d (k + 1) = k + 1 := by rw [m_spf, if_neg (by omega), if_neg (fun q => by obtain ⟨q1, q2, q3, q4⟩ := q; first | contradiction | omega)]
                have e_15 : (((k : Nat) : Int) + 1) = (((k + 1) : Nat) : Int) := by omega
                have hl : lv_has ls 6 [(4, .int (iI (((k + 1) : Nat) : Int))), (0, .ref (ad 5 0)), (1, .int (iI a)), (2, .int (iI b)), (3, .int (iI d))] := lv_cong (show lv_has ls 6 [(4, .int (iI (((k : Nat) : Int) + 1))), (0, .ref (ad 5 0)), (1, .int (iI a)), (2, .int (iI b)), (3, .int (iI d))] from lv_sub hl [0, 1, 2, 3, 4] rfl) (lv_cs (congrArg (fun z => Value.int (iI z)) e_15) (lv_cs rfl (lv_cs rfl (lv_cs rfl (lv_cs rfl rfl)))))
                exact ih (k + 1) _ _ ls (by omega) (by omega) hs hP hS hl
              · have hs : m_spf C a d (k + 1) = k := by rw [m_spf, if_neg (by omega), if_pos ⟨by assumption, by assumption, by assumption, by assumption⟩]
                have hs2 : (m_spf C a d (C 5 17 0).toNat) = k := by have h9 := m_spf_st C a d (k := k + 1) (by omega) ((C 5 17 0).toNat - (k + 1)); rw [show k + 1 + ((C 5 17 0).toNat - (k + 1)) = (C 5 17 0).toNat by omega] at h9; rw [h9]; exact hs
                have e_16 : ((k : Nat) : Int) = (((m_spf C a d (C 5 17 0).toNat) : Nat) : Int) := by rw [hs2]
                have hl : lv_has ls 6 [(4, .int (iI (((m_spf C a d (C 5 17 0).toNat) : Nat) : Int))), (0, .ref (ad 5 0)), (1, .int (iI a)), (2, .int (iI b)), (3, .int (iI d))] := lv_cong (show lv_has ls 6 [(4, .int (iI ((k : Nat) : Int))), (0, .ref (ad 5 0)), (1, .int (iI a)), (2, .int (iI b)), (3, .int (iI d))] from lv_sub hl [0, 1, 2, 3, 4] rfl) (lv_cs (congrArg (fun z => Value.int (iI z)) e_16) (lv_cs rfl (lv_cs rfl (lv_cs rfl (lv_cs rfl rfl)))))
                exact ky _ _ ls (by rw [hs2]; omega) hP hS hl
      · refine lv_iload X.1 X.2.1 dX5_split_73 (lv_at hl 0 rfl) ?_
        refine lv_aload_n X.1 X.2.1 dX5_split_75 rfl (lv_at hl 2 rfl) ?_
        refine q_get (index := 35) (v := .ref (ad 32 0)) X hP 5 12 0 rfl rfl (by decide) in5 (m_v5 hM) (by decide) (by decide +kernel) (m_r hM ad 12 32 (by decide)) dX5_split_76 ?_
        refine lv_aload_n X.1 X.2.1 dX5_split_79 rfl (lv_at hl 2 rfl) ?_
        refine q_get (index := 51) (v := .ref (ad 38 0)) X hP 5 18 0 rfl rfl (by decide) in5 (m_v5 hM) (by decide) (by decide +kernel) (m_r hM ad 18 38 (by decide)) dX5_split_80 ?_
        refine lv_iload X.1 X.2.1 dX5_split_83 (lv_at hl 1 rfl) ?_
        refine q_ildv (len := 4200) (v := (C 38 k 0)) X hP 38 0 (by decide) rfl rfl (m_va hM 18 (by decide) rfl) rfl (by omega) (by omega) rfl dX5_split_85 ?_
        refine q_ildv (len := 61) (v := (C 32 (((C 38 k 0)).toNat) 0)) X hP 32 0 (by decide) rfl rfl (m_va hM 12 (by decide) rfl) rfl (by omega) (by omega) rfl dX5_split_86 ?_
        refine q_imul X dX5_split_87 ?_
        refine lv_aload_n X.1 X.2.1 dX5_split_88 rfl (lv_at hl 2 rfl) ?_
        refine q_get (index := 63) (v := .ref (ad 42 0)) X hP 5 22 0 rfl rfl (by decide) in5 (m_v5 hM) (by decide) (by decide +kernel) (m_r hM ad 22 42 (by decide)) dX5_split_89 ?_
        refine lv_iload X.1 X.2.1 dX5_split_92 (lv_at hl 1 rfl) ?_
        refine q_ildv (len := 4200) (v := (C 42 k 0)) X hP 42 0 (by decide) rfl rfl (m_va hM 22 (by decide) rfl) rfl (by omega) (by omega) rfl dX5_split_94 ?_
        refine q_icmp_ge (tgt := 105) X (by omega) (hP.tok 42 k 0 rfl) dX5_split_95 (by decide) (fun h_17 => ?_) (fun h_17 => ?_)
        · refine lv_iload X.1 X.2.1 dX5_split_105 (lv_at hl 0 rfl) ?_
          refine lv_istore (lv' := [(5, .int (iI ((C 42 k 0) / (C 32 (((C 38 k 0)).toNat) 0)))), (4, .int (iI ((k : Nat) : Int))), (0, .ref (ad 5 0)), (1, .int (iI a)), (2, .int (iI b)), (3, .int (iI d))]) X.1 X.2.1 dX5_split_107 hl (by decide) rfl (fun ls hl => ?_)
          have e_18 : ((C 42 k 0) / (C 32 (((C 38 k 0)).toNat) 0)) = (m_beg C k) := by unfold m_beg; first | (rw [if_pos (by assumption)]; done) | (rw [if_neg (by omega)]; done)
          have hl : lv_has ls 6 [(4, .int (iI ((k : Nat) : Int))), (0, .ref (ad 5 0)), (1, .int (iI a)), (2, .int (iI b)), (3, .int (iI d)), (5, .int (iI (m_beg C k)))] := lv_cong (show lv_has ls 6 [(4, .int (iI ((k : Nat) : Int))), (0, .ref (ad 5 0)), (1, .int (iI a)), (2, .int (iI b)), (3, .int (iI d)), (5, .int (iI ((C 42 k 0) / (C 32 (((C 38 k 0)).toNat) 0))))] from lv_sub hl [1, 2, 3, 4, 5, 0] rfl) (lv_cs rfl (lv_cs rfl (lv_cs rfl (lv_cs rfl (lv_cs rfl (lv_cs (congrArg (fun z => Value.int (iI z)) e_18) rfl))))))
          exact kj _ _ ls hP hS hl
        · refine lv_iload X.1 X.2.1 dX5_split_98 (lv_at hl 0 rfl) ?_
          refine lv_iconst (v := iI (1)) X.1 X.2.1 dX5_split_100 rfl ?_
          refine q_iadd X dX5_split_101 ?_
          refine lv_goto (tgt := 107) X.1 X.2.1 dX5_split_102 (by decide) ?_
          refine lv_istore (lv' := [(5, .int (iI (((C 42 k 0) / (C 32 (((C 38 k 0)).toNat) 0)) + (1)))), (4, .int (iI ((k : Nat) : Int))), (0, .ref (ad 5 0)), (1, .int (iI a)), (2, .int (iI b)), (3, .int (iI d))]) X.1 X.2.1 dX5_split_107 hl (by decide) rfl (fun ls hl => ?_)
          have e_19 : (((C 42 k 0) / (C 32 (((C 38 k 0)).toNat) 0)) + (1)) = (m_beg C k) := by unfold m_beg; first | (rw [if_pos (by assumption)]; done) | (rw [if_neg (by omega)]; done)
          have hl : lv_has ls 6 [(4, .int (iI ((k : Nat) : Int))), (0, .ref (ad 5 0)), (1, .int (iI a)), (2, .int (iI b)), (3, .int (iI d)), (5, .int (iI (m_beg C k)))] := lv_cong (show lv_has ls 6 [(4, .int (iI ((k : Nat) : Int))), (0, .ref (ad 5 0)), (1, .int (iI a)), (2, .int (iI b)), (3, .int (iI d)), (5, .int (iI (((C 42 k 0) / (C 32 (((C 38 k 0)).toNat) 0)) + (1))))] from lv_sub hl [1, 2, 3, 4, 5, 0] rfl) (lv_cs rfl (lv_cs rfl (lv_cs rfl (lv_cs rfl (lv_cs rfl (lv_cs (congrArg (fun z => Value.int (iI z)) e_19) rfl))))))
          exact kj _ _ ls hP hS hl
def tX5_split (n : Nat → Nat) (ad : Nat → Nat → Nat) (C : q_S) (a b d : Int) (r : Int32) (u : q_U) : Prop :=
  ((1 ≤ a ∧ a ≤ C 5 10 0) ∧ (1 ≤ b ∧ b ≤ C 5 1 0) ∧ ((1) ≤ d) ∧ ((m_spf C a d (C 5 17 0).toNat) = (C 5 17 0).toNat) ∧ u = (n, ad, q_up C 5 0 0 ((0))) ∧ r = iI (0)) ∨
  ((1 ≤ a ∧ a ≤ C 5 10 0) ∧ (1 ≤ b ∧ b ≤ C 5 1 0) ∧ ((1) ≤ d) ∧ ((((m_spf C a d (C 5 17 0).toNat) : Nat) : Int) < C 5 17 0) ∧ u = (n, ad, m_add (q_up (q_up C 5 0 0 ((0))) 39 ((m_spf C a d (C 5 17 0).toNat)) 0 (((C 39 ((m_spf C a d (C 5 17 0).toNat)) 0) - d))) a d b) ∧ r = iI (1)) ∨
  ((1 ≤ a ∧ a ≤ C 5 10 0) ∧ (1 ≤ b ∧ b ≤ C 5 1 0) ∧ (d < (1)) ∧ u = (n, ad, q_up C 5 0 0 ((0))) ∧ r = iI (0)) ∨
  ((1 ≤ a ∧ a ≤ C 5 10 0) ∧ (¬ (1 ≤ b ∧ b ≤ C 5 1 0)) ∧ u = (n, ad, q_up C 5 0 0 ((1))) ∧ r = iI (0)) ∨
  ((¬ (1 ≤ a ∧ a ≤ C 5 10 0)) ∧ u = (n, ad, q_up C 5 0 0 ((1))) ∧ r = iI (0))
set_option maxHeartbeats 4000000 in
set_option maxRecDepth 100000 in
theorem c_X5_split (l : Launch) (g : q_G) (s0 : Nat) (n : Nat → Nat) (ad : Nat → Nat → Nat) (C : q_S) (c0 : Nat) (hM : m_S C n) (hR : m_R C c0) (hc0 : c0 ≤ 600) (a b d : Int) (ha : R32 a) (hb : R32 b) (hd : R32 d)  : Met l yX5_split wsX5_split ({ frames := 2, cells := 0, slots := 0, locals := 46 }) (va_Pc [.ref (ad 5 0), .int (iI a), .int (iI b), .int (iI d)] (q_B g s0 (n, ad, C))) (va_Qi (tX5_split n ad C a b d) (q_B g s0) (q_A s0)) 0 0 (q_A s0) := by
  refine Met.ofW (cc := cX5_split) (maxL := 6) (ret := (some .int)) (by decide) rfl ?_
  intro p e s m args below meth c s₁ B hml hv
  obtain ⟨rfl, hv⟩ := hv
  have hr := B.returns
  have hlocks := B.notSynchronized
  obtain ⟨X, hP⟩ := q_start B.exec B.bytes hml (show s.vm.findClass RX5 = some m.cls from findClass_of_methodNamed B.named) (atoms_spec (ws := wsX5_split) B.pre) hv
  have hP : q_P g s0 n ad C s.heap := hP
  have hS : va_S (q_A s0) s.heap s.heap [] := va_S.rf
  have in5 : ∀ w ∈ wsX50, w ∈ wsX5_split := by decide +kernel
  have f00 := m_Rj hR
  have f01 := m_Rp hR
  have hl := lv_entry ([.ref (ad 5 0), .int (iI a), .int (iI b), .int (iI d)]) (n := 6) (Nat.le_of_ble_eq_true rfl)
  rw [lg_entry_eq]
  generalize (lg_sl ([.ref (ad 5 0), .int (iI a), .int (iI b), .int (iI d)]) ++ List.replicate (6 - (lg_sl ([.ref (ad 5 0), .int (iI a), .int (iI b), .int (iI d)])).length) Slot.unset).toArray = ls at hl ⊢
  have hl : lv_has ls 6 [(0, .ref (ad 5 0)), (1, .int (iI a)), (2, .int (iI b)), (3, .int (iI d))] := hl
  refine lv_aload_n X.1 X.2.1 dX5_split_0 rfl (lv_at hl 0 rfl) ?_
  refine lv_aload_n X.1 X.2.1 dX5_split_1 rfl (lv_at hl 0 rfl) ?_
  refine lv_iload_n X.1 X.2.1 dX5_split_2 rfl (lv_at hl 1 rfl) ?_
  refine va_calli (va_runV (As := [.int (iI a)]) (rest := [.ref (ad 5 0)]) X.fix (c_X5_isJob l g s0 n ad C c0 hM hR a ha) (cwV 1 X.2.2.2.2.1 gX5_split_X5_isJob rfl rfl rfl (by decide +kernel) ⟨Nat.le_of_ble_eq_true rfl, Nat.le_of_ble_eq_true rfl⟩) (q_preV X hP hS [.int (iI a)] (kd := 5) (by decide) rfl (m_v5 hM)) rfl rfl hl.1 rfl (lv_room (Nat.le_of_ble_eq_true rfl)) dX5_split_3 ⟨Nat.le_of_ble_eq_true rfl, Nat.le_of_ble_eq_true rfl⟩) hS q_id q_id1 (fun r u t H locs ht hvm hw hB hz1 hk1 hS => ?_)
  obtain ⟨rfl, ⟨h_1, rfl⟩ | ⟨h_1, rfl⟩⟩ := hw
  · have hP : q_P g s0 n ad (C) H := q_back hB ht
    have h_1 : 1 ≤ a ∧ a ≤ C 5 10 0 := h_1
    refine q_if_eq (tgt := 21) X (by decide) dX5_split_6 (by decide) (fun h => absurd h (by decide)) (fun _ => ?_)
    refine lv_aload_n X.1 X.2.1 dX5_split_9 rfl (lv_at hl 0 rfl) ?_
    refine lv_iload_n X.1 X.2.1 dX5_split_10 rfl (lv_at hl 2 rfl) ?_
    refine va_calli (va_runV (As := [.int (iI b)]) (rest := [.ref (ad 5 0)]) X.fix (c_X5_isPrinter l g s0 n ad C c0 hM hR b hb) (cwV 1 X.2.2.2.2.1 gX5_split_X5_isPrinter rfl rfl rfl (by decide +kernel) ⟨Nat.le_of_ble_eq_true rfl, Nat.le_of_ble_eq_true rfl⟩) (q_preV X hP hS [.int (iI b)] (kd := 5) (by decide) rfl (m_v5 hM)) rfl rfl hl.1 rfl (lv_room (Nat.le_of_ble_eq_true rfl)) dX5_split_11 ⟨Nat.le_of_ble_eq_true rfl, Nat.le_of_ble_eq_true rfl⟩) hS q_id q_id1 (fun r u t H locs ht hvm hw hB hz1 hk1 hS => ?_)
    obtain ⟨rfl, ⟨h_3, rfl⟩ | ⟨h_3, rfl⟩⟩ := hw
    · have hP : q_P g s0 n ad (C) H := q_back hB ht
      have h_3 : 1 ≤ b ∧ b ≤ C 5 1 0 := h_3
      refine q_if_eq (tgt := 21) X (by decide) dX5_split_14 (by decide) (fun h => absurd h (by decide)) (fun _ => ?_)
      refine lv_iconst (v := iI (0)) X.1 X.2.1 dX5_split_17 rfl ?_
      refine lv_goto (tgt := 22) X.1 X.2.1 dX5_split_18 (by decide) ?_
      refine q_put (index := 82) (v := .int (iI (0))) X hP hS 5 0 0 ((0)) rfl rfl (by decide) in5 tyX5 tyX5_ok nmX5 (m_v5 hM) (by decide) (by decide +kernel) rfl rfl rfl rfl (show R32 _ from (by decide)) dX5_split_22 (fun H locs hP hS => ?_)
      have hP : q_P g s0 n ad (q_up C 5 0 0 ((0))) H := hP
      refine lv_aload_n X.1 X.2.1 dX5_split_25 rfl (lv_at hl 0 rfl) ?_
      refine q_get (index := 82) (v := .int (iI (0))) X hP 5 0 0 rfl rfl (by decide) in5 (m_v5 hM) (by decide) (by decide +kernel) rfl dX5_split_26 ?_
      refine q_if_gt (tgt := 37) X (by decide) dX5_split_29 (by decide) (fun h => absurd h (by decide)) (fun _ => ?_)
      refine lv_iload_n X.1 X.2.1 dX5_split_32 rfl (lv_at hl 3 rfl) ?_
      refine lv_iconst (v := iI (1)) X.1 X.2.1 dX5_split_33 rfl ?_
      refine q_icmp_ge (tgt := 39) X hd (by decide) dX5_split_34 (by decide) (fun h_6 => ?_) (fun h_6 => ?_)
      · refine lv_iconst (v := iI (0)) X.1 X.2.1 dX5_split_39 rfl ?_
        refine lv_istore (lv' := [(4, .int (iI (0))), (0, .ref (ad 5 0)), (1, .int (iI a)), (2, .int (iI b)), (3, .int (iI d))]) X.1 X.2.1 dX5_split_40 hl (by decide) rfl (fun ls hl => ?_)
        have e_7 : (0) = ((0 : Nat) : Int) := by rfl
        have hl : lv_has ls 6 [(4, .int (iI ((0 : Nat) : Int))), (0, .ref (ad 5 0)), (1, .int (iI a)), (2, .int (iI b)), (3, .int (iI d))] := lv_cong (show lv_has ls 6 [(4, .int (iI (0))), (0, .ref (ad 5 0)), (1, .int (iI a)), (2, .int (iI b)), (3, .int (iI d))] from lv_sub hl [0, 1, 2, 3, 4] rfl) (lv_cs (congrArg (fun z => Value.int (iI z)) e_7) (lv_cs rfl (lv_cs rfl (lv_cs rfl (lv_cs rfl rfl)))))
        have f0 := m_Rk hR
        refine w_X5_split X in5 c0 hM hR hc0 a ha b hb d hd (fun H locs ls hf hP hS hl => ?_) (fun H locs ls hf hP hS hl => ?_) ((C 5 17 0).toNat + 1) 0 _ _ ls (by omega) (by omega) rfl hP hS hl
        · refine lv_iconst (v := iI (0)) X.1 X.2.1 dX5_split_185 rfl ?_
          exact q_iret X hr hlocks hP hS (Or.inl (⟨h_1, h_3, h_6, hf, rfl, rfl⟩)) (Nat.le_of_ble_eq_true rfl) (Nat.le_of_ble_eq_true rfl) dX5_split_186
        · have fu := m_R39 hR (m_spf C a d (C 5 17 0).toNat)
          have fv := m_beg_b hR (m_spf C a d (C 5 17 0).toNat) (m_pg hR (m_spf C a d (C 5 17 0).toNat) hf).2.2
          have fw := m_spf_y C a d (k := (C 5 17 0).toNat) (by omega)
          have fx := fw.2.2.2
          refine lv_aload_n X.1 X.2.1 dX5_split_154 rfl (lv_at hl 1 rfl) ?_
          refine q_get (index := 54) (v := .ref (ad 39 0)) X hP 5 19 0 rfl rfl (by decide) in5 (m_v5 hM) (by decide) (by decide +kernel) (m_r hM ad 19 39 (by decide)) dX5_split_155 ?_
          refine lv_iload X.1 X.2.1 dX5_split_158 (lv_at hl 0 rfl) ?_
          refine lv_aload_n X.1 X.2.1 dX5_split_160 rfl (lv_at hl 1 rfl) ?_
          refine q_get (index := 54) (v := .ref (ad 39 0)) X hP 5 19 0 rfl rfl (by decide) in5 (m_v5 hM) (by decide) (by decide +kernel) (m_r hM ad 19 39 (by decide)) dX5_split_161 ?_
          refine lv_iload X.1 X.2.1 dX5_split_164 (lv_at hl 0 rfl) ?_
          refine q_ildv (len := 4200) (v := (C 39 ((m_spf C a d (C 5 17 0).toNat)) 0)) X hP 39 0 (by decide) rfl rfl (m_va hM 19 (by decide) rfl) rfl (by omega) (by omega) rfl dX5_split_166 ?_
          have f_8 := m_R39 hR ((m_spf C a d (C 5 17 0).toNat))
          refine lv_iload_n X.1 X.2.1 dX5_split_167 rfl (lv_at hl 4 rfl) ?_
          refine q_isub X dX5_split_168 ?_
          refine q_istv (len := 4200) (x := ((C 39 ((m_spf C a d (C 5 17 0).toNat)) 0) - d)) (z := (((m_spf C a d (C 5 17 0).toNat) : Nat) : Int)) X hP hS 39 0 (by decide) rfl rfl (m_va hM 19 (by decide) rfl) rfl (by omega) (by omega) (by omega) dX5_split_169 (fun H locs hP hS => ?_)
          have hP : q_P g s0 n ad (q_up (q_up C 5 0 0 ((0))) 39 ((m_spf C a d (C 5 17 0).toNat)) 0 (((C 39 ((m_spf C a d (C 5 17 0).toNat)) 0) - d))) H := hP
          refine lv_aload_n X.1 X.2.1 dX5_split_170 rfl (lv_at hl 1 rfl) ?_
          refine lv_iload_n X.1 X.2.1 dX5_split_171 rfl (lv_at hl 2 rfl) ?_
          refine lv_iload_n X.1 X.2.1 dX5_split_172 rfl (lv_at hl 4 rfl) ?_
          refine lv_iload_n X.1 X.2.1 dX5_split_173 rfl (lv_at hl 3 rfl) ?_
          refine va_callv (va_runV (As := [.int (iI a), .int (iI d), .int (iI b)]) (rest := []) X.fix (c_X5_addPart l g s0 n ad (q_up (q_up C 5 0 0 ((0))) 39 ((m_spf C a d (C 5 17 0).toNat)) 0 (((C 39 ((m_spf C a d (C 5 17 0).toNat)) 0) - d))) (m_S.up (m_S.up hM (Or.inr (by decide))) (Or.inl (by decide))) (show 0 ≤ C 5 17 0 ∧ C 5 17 0 < 4200 from by omega) a d b ha hd hb) (cwV 3 X.2.2.2.2.1 gX5_split_X5_addPart rfl rfl rfl (by decide +kernel) ⟨Nat.le_of_ble_eq_true rfl, Nat.le_of_ble_eq_true rfl⟩) (q_preV X hP hS [.int (iI a), .int (iI d), .int (iI b)] (kd := 5) (by decide) rfl (m_v5 hM)) rfl rfl hl.1 rfl (lv_room (Nat.le_of_ble_eq_true rfl)) dX5_split_174 ⟨Nat.le_of_ble_eq_true rfl, Nat.le_of_ble_eq_true rfl⟩) hS q_id q_id1 (fun u t H locs ht hvm hw hB hz1 hk1 hS => ?_)
          obtain rfl := hw
          have hP : q_P g s0 n ad (m_add (q_up (q_up C 5 0 0 ((0))) 39 ((m_spf C a d (C 5 17 0).toNat)) 0 (((C 39 ((m_spf C a d (C 5 17 0).toNat)) 0) - d))) a d b) H := q_back hB ht
          refine lv_iconst (v := iI (1)) X.1 X.2.1 dX5_split_177 rfl ?_
          exact q_iret X hr hlocks hP hS (Or.inr (Or.inl (⟨h_1, h_3, h_6, hf, rfl, rfl⟩))) (Nat.le_of_ble_eq_true rfl) (Nat.le_of_ble_eq_true rfl) dX5_split_178
      · refine lv_iconst (v := iI (0)) X.1 X.2.1 dX5_split_37 rfl ?_
        exact q_iret X hr hlocks hP hS (Or.inr (Or.inr (Or.inl (⟨h_1, h_3, h_6, rfl, rfl⟩)))) (Nat.le_of_ble_eq_true rfl) (Nat.le_of_ble_eq_true rfl) dX5_split_38
    · have hP : q_P g s0 n ad (C) H := q_back hB ht
      have h_3 : ¬ (1 ≤ b ∧ b ≤ C 5 1 0) := h_3
      refine q_if_eq (tgt := 21) X (by decide) dX5_split_14 (by decide) (fun _ => ?_) (fun h => absurd h (by decide))
      refine lv_iconst (v := iI (1)) X.1 X.2.1 dX5_split_21 rfl ?_
      refine q_put (index := 82) (v := .int (iI (1))) X hP hS 5 0 0 ((1)) rfl rfl (by decide) in5 tyX5 tyX5_ok nmX5 (m_v5 hM) (by decide) (by decide +kernel) rfl rfl rfl rfl (show R32 _ from (by decide)) dX5_split_22 (fun H locs hP hS => ?_)
      have hP : q_P g s0 n ad (q_up C 5 0 0 ((1))) H := hP
      refine lv_aload_n X.1 X.2.1 dX5_split_25 rfl (lv_at hl 0 rfl) ?_
      refine q_get (index := 82) (v := .int (iI (1))) X hP 5 0 0 rfl rfl (by decide) in5 (m_v5 hM) (by decide) (by decide +kernel) rfl dX5_split_26 ?_
      refine q_if_gt (tgt := 37) X (by decide) dX5_split_29 (by decide) (fun _ => ?_) (fun h => absurd h (by decide))
      refine lv_iconst (v := iI (0)) X.1 X.2.1 dX5_split_37 rfl ?_
      exact q_iret X hr hlocks hP hS (Or.inr (Or.inr (Or.inr (Or.inl (⟨h_1, h_3, rfl, rfl⟩))))) (Nat.le_of_ble_eq_true rfl) (Nat.le_of_ble_eq_true rfl) dX5_split_38
  · have hP : q_P g s0 n ad (C) H := q_back hB ht
    have h_1 : ¬ (1 ≤ a ∧ a ≤ C 5 10 0) := h_1
    refine q_if_eq (tgt := 21) X (by decide) dX5_split_6 (by decide) (fun _ => ?_) (fun h => absurd h (by decide))
    refine lv_iconst (v := iI (1)) X.1 X.2.1 dX5_split_21 rfl ?_
    refine q_put (index := 82) (v := .int (iI (1))) X hP hS 5 0 0 ((1)) rfl rfl (by decide) in5 tyX5 tyX5_ok nmX5 (m_v5 hM) (by decide) (by decide +kernel) rfl rfl rfl rfl (show R32 _ from (by decide)) dX5_split_22 (fun H locs hP hS => ?_)
    have hP : q_P g s0 n ad (q_up C 5 0 0 ((1))) H := hP
    refine lv_aload_n X.1 X.2.1 dX5_split_25 rfl (lv_at hl 0 rfl) ?_
    refine q_get (index := 82) (v := .int (iI (1))) X hP 5 0 0 rfl rfl (by decide) in5 (m_v5 hM) (by decide) (by decide +kernel) rfl dX5_split_26 ?_
    refine q_if_gt (tgt := 37) X (by decide) dX5_split_29 (by decide) (fun _ => ?_) (fun h => absurd h (by decide))
    refine lv_iconst (v := iI (0)) X.1 X.2.1 dX5_split_37 rfl ?_
    exact q_iret X hr hlocks hP hS (Or.inr (Or.inr (Or.inr (Or.inr (⟨h_1, rfl, rfl⟩))))) (Nat.le_of_ble_eq_true rfl) (Nat.le_of_ble_eq_true rfl) dX5_split_38
