/-! the model's searches -/
def m_best (C : q_S) (a : Int) : Nat → Int
  | 0 => -1
  | k + 1 => if m_may C k a ∧ m_best C a k < C 33 (C 38 k 0).toNat 0 then C 33 (C 38 k 0).toNat 0 else m_best C a k
theorem m_best_r (C : q_S) (a : Int) {c0 : Nat} (k : Nat) (hR : m_R C c0) : R32 (m_best C a k) := by
  induction k with
  | zero => rw [m_best]; exact ⟨by decide, by decide⟩
  | succ k ih =>
    rw [m_best]
    have := m_R33 hR (C 38 k 0).toNat
    split <;> omega
abbrev m_soon (C : q_S) (k : Nat) (b : Int) : Prop := b = -1 ∨ C 34 (C 38 k 0).toNat 0 < C 34 (C 38 b.toNat 0).toNat 0 ∨ (C 34 (C 38 k 0).toNat 0 = C 34 (C 38 b.toNat 0).toNat 0 ∧ C 38 k 0 < C 38 b.toNat 0)
def m_first (C : q_S) (a r0 b0 : Int) : Nat → Int
  | 0 => -1
  | k + 1 => if m_may C k a ∧ C 33 (C 38 k 0).toNat 0 = r0 ∧ (b0 = 0 ∨ m_med C k = C 22 a.toNat 0) ∧ m_soon C k (m_first C a r0 b0 k) then (k : Int) else m_first C a r0 b0 k
theorem m_first_b (C : q_S) (a r0 b0 : Int) (k : Nat) : -1 ≤ m_first C a r0 b0 k ∧ m_first C a r0 b0 k < k := by
  induction k with
  | zero => rw [m_first]; exact ⟨by decide, by decide⟩
  | succ k ih =>
    rw [m_first]
    split <;> omega
set_option maxHeartbeats 4000000 in
set_option maxRecDepth 100000 in
theorem w_X5_bestRank {p : Program} {l : Launch} {e : Env} {s : State} {m : MethodId} {args : Array Value} {below : List Frame} {meth : Method} {c : Code} {Q : State → Prop} {g : q_G} {s0 : Nat} {n : Nat → Nat} {ad : Nat → Nat → Nat} {C : q_S} (X : q_X p s m args c cX5_bestRank 4 wsX5_bestRank RX5 g s0) (in5 : ∀ w ∈ wsX50, w ∈ wsX5_bestRank) (c0 : Nat) (hM : m_S C n) (hR : m_R C c0) (hc0 : c0 ≤ 600) (a : Int) (ha : 0 ≤ a ∧ a ≤ 8) (kx : ∀  (H : Heap) (locs : List Loc) (ls : Array Slot), q_P g s0 n ad C H → va_S (q_A s0) s.heap H locs → lv_has ls 4 [(2, .int (iI (m_best C a (C 5 17 0).toNat))), (0, .ref (ad 5 0)), (1, .int (iI a))] → W p l e ({ frames := 2, cells := 0, slots := 0, locals := 45 }) s m args below meth c H locs 0 0 Q (F0 m 58 ls [])) :
    ∀ (N : Nat) (k : Nat) (H : Heap) (locs : List Loc) (ls : Array Slot), (C 5 17 0 < (k : Int) + N) → ((k : Int) ≤ C 5 17 0) → q_P g s0 n ad C H → va_S (q_A s0) s.heap H locs → lv_has ls 4 [(3, .int (iI ((k : Nat) : Int))), (2, .int (iI (m_best C a k))), (0, .ref (ad 5 0)), (1, .int (iI a))] → W p l e ({ frames := 2, cells := 0, slots := 0, locals := 45 }) s m args below meth c H locs 0 0 Q (F0 m 4 ls []) := by
  intro N
  induction N with
  | zero =>
    intro k H locs ls h1 h2 hP hS hl
    exact absurd h1 (by omega)
  | succ N ih =>
    intro k H locs ls h1 h2 hP hS hl
    refine lv_iload_n X.1 X.2.1 dX5_bestRank_4 rfl (lv_at hl 0 rfl) ?_
    refine lv_aload_n X.1 X.2.1 dX5_bestRank_5 rfl (lv_at hl 2 rfl) ?_
    refine q_get (index := 101) (v := .int (iI (C 5 17 0))) X hP 5 17 0 rfl rfl (by decide) in5 (m_v5 hM) (by decide) (by decide +kernel) rfl dX5_bestRank_6 ?_
    have f_1 := m_Rk hR
    refine q_icmp_ge (tgt := 58) X (by omega) (hP.tok 5 17 0 rfl) dX5_bestRank_9 (by decide) (fun h_2 => ?_) (fun h_2 => ?_)
    · have ek : k = (C 5 17 0).toNat := by omega
      have e_3 : (m_best C a k) = (m_best C a (C 5 17 0).toNat) := by rw [ek]
      have hl : lv_has ls 4 [(2, .int (iI (m_best C a (C 5 17 0).toNat))), (0, .ref (ad 5 0)), (1, .int (iI a))] := lv_cong (show lv_has ls 4 [(2, .int (iI (m_best C a k))), (0, .ref (ad 5 0)), (1, .int (iI a))] from lv_sub hl [1, 2, 3] rfl) (lv_cs (congrArg (fun z => Value.int (iI z)) e_3) (lv_cs rfl (lv_cs rfl rfl)))
      exact kx H locs ls hP hS hl
    · refine lv_aload_n X.1 X.2.1 dX5_bestRank_12 rfl (lv_at hl 2 rfl) ?_
      refine lv_iload_n X.1 X.2.1 dX5_bestRank_13 rfl (lv_at hl 0 rfl) ?_
      refine lv_iload_n X.1 X.2.1 dX5_bestRank_14 rfl (lv_at hl 3 rfl) ?_
      refine va_calli (va_runV (As := [.int (iI ((k : Nat) : Int)), .int (iI a)]) (rest := []) X.fix (c_X5_mayTake l g s0 n ad C c0 hM hR k (by omega) a ha) (cwV 2 X.2.2.2.2.1 gX5_bestRank_X5_mayTake rfl rfl rfl (by decide +kernel) ⟨Nat.le_of_ble_eq_true rfl, Nat.le_of_ble_eq_true rfl⟩) (q_preV X hP hS [.int (iI ((k : Nat) : Int)), .int (iI a)] (kd := 5) (by decide) rfl (m_v5 hM)) rfl rfl hl.1 rfl (lv_room (Nat.le_of_ble_eq_true rfl)) dX5_bestRank_15 ⟨Nat.le_of_ble_eq_true rfl, Nat.le_of_ble_eq_true rfl⟩) hS q_id q_id1 (fun r u t H locs ht hvm hw hB hz1 hk1 hS => ?_)
      obtain ⟨rfl, ⟨h_4, rfl⟩ | ⟨h_4, rfl⟩⟩ := hw
      · have hP : q_P g s0 n ad (C) H := q_back hB ht
        have h_4 : m_may C k a := h_4
        refine q_if_eq (tgt := 50) X (by decide) dX5_bestRank_18 (by decide) (fun h => absurd h (by decide)) (fun _ => ?_)
        refine lv_aload_n X.1 X.2.1 dX5_bestRank_21 rfl (lv_at hl 2 rfl) ?_
        refine q_get (index := 38) (v := .ref (ad 33 0)) X hP 5 13 0 rfl rfl (by decide) in5 (m_v5 hM) (by decide) (by decide +kernel) (m_r hM ad 13 33 (by decide)) dX5_bestRank_22 ?_
        refine lv_aload_n X.1 X.2.1 dX5_bestRank_25 rfl (lv_at hl 2 rfl) ?_
        refine q_get (index := 51) (v := .ref (ad 38 0)) X hP 5 18 0 rfl rfl (by decide) in5 (m_v5 hM) (by decide) (by decide +kernel) (m_r hM ad 18 38 (by decide)) dX5_bestRank_26 ?_
        refine lv_iload_n X.1 X.2.1 dX5_bestRank_29 rfl (lv_at hl 0 rfl) ?_
        refine q_ildv (len := 4200) (v := (C 38 k 0)) X hP 38 0 (by decide) rfl rfl (m_va hM 18 (by decide) rfl) rfl (by omega) (by omega) rfl dX5_bestRank_30 ?_
        have f_6 := m_R38 hR k
        refine q_ildv (len := 61) (v := (C 33 (((C 38 k 0)).toNat) 0)) X hP 33 0 (by decide) rfl rfl (m_va hM 13 (by decide) rfl) rfl (by omega) (by omega) rfl dX5_bestRank_31 ?_
        have f_7 := m_R33 hR (((C 38 k 0)).toNat)
        refine lv_iload_n X.1 X.2.1 dX5_bestRank_32 rfl (lv_at hl 1 rfl) ?_
        refine q_icmp_le (tgt := 50) X (hP.tok 33 (((C 38 k 0)).toNat) 0 rfl) (m_best_r C a k hR) dX5_bestRank_33 (by decide) (fun h_8 => ?_) (fun h_8 => ?_)
        · refine lv_iload_n X.1 X.2.1 dX5_bestRank_50 rfl (lv_at hl 1 rfl) ?_
          refine lv_istore_n (lv' := [(2, .int (iI (m_best C a k))), (3, .int (iI ((k : Nat) : Int))), (0, .ref (ad 5 0)), (1, .int (iI a))]) X.1 X.2.1 dX5_bestRank_51 rfl hl (by decide) rfl (fun ls hl => ?_)
          refine q_iinc (lv' := [(3, .int (iI (((k : Nat) : Int) + 1))), (2, .int (iI (m_best C a k))), (0, .ref (ad 5 0)), (1, .int (iI a))]) (k := 1) X dX5_bestRank_52 hl rfl (by decide) rfl (fun ls hl => ?_)
          refine lv_goto (tgt := 4) X.1 X.2.1 dX5_bestRank_55 (by decide) ?_
          have e_9 : (((k : Nat) : Int) + 1) = (((k + 1) : Nat) : Int) := by omega
          have e_10 : (m_best C a k) = (m_best C a (k + 1)) := by rw [m_best]; first | rw [if_pos ⟨by assumption, by assumption⟩] | rw [if_neg (fun q => by obtain ⟨q1, q2⟩ := q; first | contradiction | omega)]
          have hl : lv_has ls 4 [(3, .int (iI (((k + 1) : Nat) : Int))), (2, .int (iI (m_best C a (k + 1)))), (0, .ref (ad 5 0)), (1, .int (iI a))] := lv_cong (show lv_has ls 4 [(3, .int (iI (((k : Nat) : Int) + 1))), (2, .int (iI (m_best C a k))), (0, .ref (ad 5 0)), (1, .int (iI a))] from lv_sub hl [0, 1, 2, 3] rfl) (lv_cs (congrArg (fun z => Value.int (iI z)) e_9) (lv_cs (congrArg (fun z => Value.int (iI z)) e_10) (lv_cs rfl (lv_cs rfl rfl))))
          exact ih (k + 1) H locs ls (by omega) (by omega) hP hS hl
        · refine lv_aload_n X.1 X.2.1 dX5_bestRank_36 rfl (lv_at hl 2 rfl) ?_
          refine q_get (index := 38) (v := .ref (ad 33 0)) X hP 5 13 0 rfl rfl (by decide) in5 (m_v5 hM) (by decide) (by decide +kernel) (m_r hM ad 13 33 (by decide)) dX5_bestRank_37 ?_
          refine lv_aload_n X.1 X.2.1 dX5_bestRank_40 rfl (lv_at hl 2 rfl) ?_
          refine q_get (index := 51) (v := .ref (ad 38 0)) X hP 5 18 0 rfl rfl (by decide) in5 (m_v5 hM) (by decide) (by decide +kernel) (m_r hM ad 18 38 (by decide)) dX5_bestRank_41 ?_
          refine lv_iload_n X.1 X.2.1 dX5_bestRank_44 rfl (lv_at hl 0 rfl) ?_
          refine q_ildv (len := 4200) (v := (C 38 k 0)) X hP 38 0 (by decide) rfl rfl (m_va hM 18 (by decide) rfl) rfl (by omega) (by omega) rfl dX5_bestRank_45 ?_
          refine q_ildv (len := 61) (v := (C 33 (((C 38 k 0)).toNat) 0)) X hP 33 0 (by decide) rfl rfl (m_va hM 13 (by decide) rfl) rfl (by omega) (by omega) rfl dX5_bestRank_46 ?_
          refine lv_goto (tgt := 51) X.1 X.2.1 dX5_bestRank_47 (by decide) ?_
          refine lv_istore_n (lv' := [(2, .int (iI (C 33 (((C 38 k 0)).toNat) 0))), (3, .int (iI ((k : Nat) : Int))), (0, .ref (ad 5 0)), (1, .int (iI a))]) X.1 X.2.1 dX5_bestRank_51 rfl hl (by decide) rfl (fun ls hl => ?_)
          refine q_iinc (lv' := [(3, .int (iI (((k : Nat) : Int) + 1))), (2, .int (iI (C 33 (((C 38 k 0)).toNat) 0))), (0, .ref (ad 5 0)), (1, .int (iI a))]) (k := 1) X dX5_bestRank_52 hl rfl (by decide) rfl (fun ls hl => ?_)
          refine lv_goto (tgt := 4) X.1 X.2.1 dX5_bestRank_55 (by decide) ?_
          have e_11 : (((k : Nat) : Int) + 1) = (((k + 1) : Nat) : Int) := by omega
          have e_12 : (C 33 (((C 38 k 0)).toNat) 0) = (m_best C a (k + 1)) := by rw [m_best]; first | rw [if_pos ⟨by assumption, by assumption⟩] | rw [if_neg (fun q => by obtain ⟨q1, q2⟩ := q; first | contradiction | omega)]
          have hl : lv_has ls 4 [(3, .int (iI (((k + 1) : Nat) : Int))), (2, .int (iI (m_best C a (k + 1)))), (0, .ref (ad 5 0)), (1, .int (iI a))] := lv_cong (show lv_has ls 4 [(3, .int (iI (((k : Nat) : Int) + 1))), (2, .int (iI (C 33 (((C 38 k 0)).toNat) 0))), (0, .ref (ad 5 0)), (1, .int (iI a))] from lv_sub hl [0, 1, 2, 3] rfl) (lv_cs (congrArg (fun z => Value.int (iI z)) e_11) (lv_cs (congrArg (fun z => Value.int (iI z)) e_12) (lv_cs rfl (lv_cs rfl rfl))))
          exact ih (k + 1) H locs ls (by omega) (by omega) hP hS hl
      · have hP : q_P g s0 n ad (C) H := q_back hB ht
        have h_4 : ¬ (m_may C k a) := h_4
        refine q_if_eq (tgt := 50) X (by decide) dX5_bestRank_18 (by decide) (fun _ => ?_) (fun h => absurd h (by decide))
        refine lv_iload_n X.1 X.2.1 dX5_bestRank_50 rfl (lv_at hl 1 rfl) ?_
        refine lv_istore_n (lv' := [(2, .int (iI (m_best C a k))), (3, .int (iI ((k : Nat) : Int))), (0, .ref (ad 5 0)), (1, .int (iI a))]) X.1 X.2.1 dX5_bestRank_51 rfl hl (by decide) rfl (fun ls hl => ?_)
        refine q_iinc (lv' := [(3, .int (iI (((k : Nat) : Int) + 1))), (2, .int (iI (m_best C a k))), (0, .ref (ad 5 0)), (1, .int (iI a))]) (k := 1) X dX5_bestRank_52 hl rfl (by decide) rfl (fun ls hl => ?_)
        refine lv_goto (tgt := 4) X.1 X.2.1 dX5_bestRank_55 (by decide) ?_
        have e_14 : (((k : Nat) : Int) + 1) = (((k + 1) : Nat) : Int) := by omega
        have e_15 : (m_best C a k) = (m_best C a (k + 1)) := by rw [m_best]; first | rw [if_pos ⟨by assumption, by assumption⟩] | rw [if_neg (fun q => by obtain ⟨q1, q2⟩ := q; first | contradiction | omega)]
        have hl : lv_has ls 4 [(3, .int (iI (((k + 1) : Nat) : Int))), (2, .int (iI (m_best C a (k + 1)))), (0, .ref (ad 5 0)), (1, .int (iI a))] := lv_cong (show lv_has ls 4 [(3, .int (iI (((k : Nat) : Int) + 1))), (2, .int (iI (m_best C a k))), (0, .ref (ad 5 0)), (1, .int (iI a))] from lv_sub hl [0, 1, 2, 3] rfl) (lv_cs (congrArg (fun z => Value.int (iI z)) e_14) (lv_cs (congrArg (fun z => Value.int (iI z)) e_15) (lv_cs rfl (lv_cs rfl rfl))))
        exact ih (k + 1) H locs ls (by omega) (by omega) hP hS hl
set_option maxHeartbeats 4000000 in
set_option maxRecDepth 100000 in
theorem c_X5_bestRank (l : Launch) (g : q_G) (s0 : Nat) (n : Nat → Nat) (ad : Nat → Nat → Nat) (C : q_S) (c0 : Nat) (hM : m_S C n) (hR : m_R C c0) (hc0 : c0 ≤ 600) (a : Int) (ha : 0 ≤ a ∧ a ≤ 8) : Met l yX5_bestRank wsX5_bestRank ({ frames := 2, cells := 0, slots := 0, locals := 45 }) (va_Pc [.ref (ad 5 0), .int (iI a)] (q_B g s0 (n, ad, C))) (va_Qi (fun r u => u = (n, ad, C) ∧ r = iI (m_best C a (C 5 17 0).toNat)) (q_B g s0) (q_A s0)) 0 0 (q_A s0) := by
  refine Met.ofW (cc := cX5_bestRank) (maxL := 4) (ret := (some .int)) (by decide) rfl ?_
  intro p e s m args below meth c s₁ B hml hv
  obtain ⟨rfl, hv⟩ := hv
  have hr := B.returns
  have hlocks := B.notSynchronized
  obtain ⟨X, hP⟩ := q_start B.exec B.bytes hml (show s.vm.findClass RX5 = some m.cls from findClass_of_methodNamed B.named) (atoms_spec (ws := wsX5_bestRank) B.pre) hv
  have hP : q_P g s0 n ad C s.heap := hP
  have hS : va_S (q_A s0) s.heap s.heap [] := va_S.rf
  have in5 : ∀ w ∈ wsX50, w ∈ wsX5_bestRank := by decide +kernel
  have hl := lv_entry ([.ref (ad 5 0), .int (iI a)]) (n := 4) (Nat.le_of_ble_eq_true rfl)
  rw [lg_entry_eq]
  generalize (lg_sl ([.ref (ad 5 0), .int (iI a)]) ++ List.replicate (4 - (lg_sl ([.ref (ad 5 0), .int (iI a)])).length) Slot.unset).toArray = ls at hl ⊢
  have hl : lv_has ls 4 [(0, .ref (ad 5 0)), (1, .int (iI a))] := hl
  refine lv_iconst (v := iI (-1)) X.1 X.2.1 dX5_bestRank_0 rfl ?_
  refine lv_istore_n (lv' := [(2, .int (iI (-1))), (0, .ref (ad 5 0)), (1, .int (iI a))]) X.1 X.2.1 dX5_bestRank_1 rfl hl (by decide) rfl (fun ls hl => ?_)
  refine lv_iconst (v := iI (0)) X.1 X.2.1 dX5_bestRank_2 rfl ?_
  refine lv_istore_n (lv' := [(3, .int (iI (0))), (2, .int (iI (-1))), (0, .ref (ad 5 0)), (1, .int (iI a))]) X.1 X.2.1 dX5_bestRank_3 rfl hl (by decide) rfl (fun ls hl => ?_)
  have e_1 : (0) = ((0 : Nat) : Int) := by rfl
  have e_2 : (-1) = (m_best C a 0) := by rfl
  have hl : lv_has ls 4 [(3, .int (iI ((0 : Nat) : Int))), (2, .int (iI (m_best C a 0))), (0, .ref (ad 5 0)), (1, .int (iI a))] := lv_cong (show lv_has ls 4 [(3, .int (iI (0))), (2, .int (iI (-1))), (0, .ref (ad 5 0)), (1, .int (iI a))] from lv_sub hl [0, 1, 2, 3] rfl) (lv_cs (congrArg (fun z => Value.int (iI z)) e_1) (lv_cs (congrArg (fun z => Value.int (iI z)) e_2) (lv_cs rfl (lv_cs rfl rfl))))
  have f0 := m_Rk hR
  refine w_X5_bestRank X in5 c0 hM hR hc0 a ha (fun H locs ls hP hS hl => ?_) ((C 5 17 0).toNat + 1) 0 _ _ ls (by omega) (by omega) hP hS hl
  refine lv_iload_n X.1 X.2.1 dX5_bestRank_58 rfl (lv_at hl 0 rfl) ?_
  exact q_iret X hr hlocks hP hS ⟨rfl, rfl⟩ (Nat.le_of_ble_eq_true rfl) (Nat.le_of_ble_eq_true rfl) dX5_bestRank_59
set_option maxHeartbeats 4000000 in
set_option maxRecDepth 100000 in
theorem w_X5_firstOf {p : Program} {l : Launch} {e : Env} {s : State} {m : MethodId} {args : Array Value} {below : List Frame} {meth : Method} {c : Code} {Q : State → Prop} {g : q_G} {s0 : Nat} {n : Nat → Nat} {ad : Nat → Nat → Nat} {C : q_S} (X : q_X p s m args c cX5_firstOf 8 wsX5_firstOf RX5 g s0) (in5 : ∀ w ∈ wsX50, w ∈ wsX5_firstOf) (c0 : Nat) (hM : m_S C n) (hR : m_R C c0) (hc0 : c0 ≤ 600) (a : Int) (ha : 0 ≤ a ∧ a ≤ 8) (r0 : Int) (hr0 : R32 r0) (b0 : Int) (hb0 : b0 = 0 ∨ b0 = 1) (kx : ∀  (H : Heap) (locs : List Loc) (ls : Array Slot), q_P g s0 n ad C H → va_S (q_A s0) s.heap H locs → lv_has ls 8 [(4, .int (iI (m_first C a r0 b0 (C 5 17 0).toNat))), (0, .ref (ad 5 0)), (1, .int (iI a)), (2, .int (iI r0)), (3, .int (iI b0))] → W p l e ({ frames := 2, cells := 0, slots := 0, locals := 45 }) s m args below meth c H locs 0 0 Q (F0 m 160 ls [])) :
    ∀ (N : Nat) (k : Nat) (H : Heap) (locs : List Loc) (ls : Array Slot), (C 5 17 0 < (k : Int) + N) → ((k : Int) ≤ C 5 17 0) → q_P g s0 n ad C H → va_S (q_A s0) s.heap H locs → lv_has ls 8 [(5, .int (iI ((k : Nat) : Int))), (4, .int (iI (m_first C a r0 b0 k))), (0, .ref (ad 5 0)), (1, .int (iI a)), (2, .int (iI r0)), (3, .int (iI b0))] → W p l e ({ frames := 2, cells := 0, slots := 0, locals := 45 }) s m args below meth c H locs 0 0 Q (F0 m 6 ls []) := by
  intro N
  induction N with
  | zero =>
    intro k H locs ls h1 h2 hP hS hl
    exact absurd h1 (by omega)
  | succ N ih =>
    intro k H locs ls h1 h2 hP hS hl
    have f0 := m_Rk hR
    have f9 := m_first_b C a r0 b0 k
    refine lv_iload X.1 X.2.1 dX5_firstOf_6 (lv_at hl 0 rfl) ?_
    refine lv_aload_n X.1 X.2.1 dX5_firstOf_8 rfl (lv_at hl 2 rfl) ?_
    refine q_get (index := 101) (v := .int (iI (C 5 17 0))) X hP 5 17 0 rfl rfl (by decide) in5 (m_v5 hM) (by decide) (by decide +kernel) rfl dX5_firstOf_9 ?_
    have f_1 := m_Rk hR
    refine q_icmp_ge (tgt := 160) X (by omega) (hP.tok 5 17 0 rfl) dX5_firstOf_12 (by decide) (fun h_2 => ?_) (fun h_2 => ?_)
    · have ek : k = (C 5 17 0).toNat := by omega
      have e_3 : (m_first C a r0 b0 k) = (m_first C a r0 b0 (C 5 17 0).toNat) := by rw [ek]
      have hl : lv_has ls 8 [(4, .int (iI (m_first C a r0 b0 (C 5 17 0).toNat))), (0, .ref (ad 5 0)), (1, .int (iI a)), (2, .int (iI r0)), (3, .int (iI b0))] := lv_cong (show lv_has ls 8 [(4, .int (iI (m_first C a r0 b0 k))), (0, .ref (ad 5 0)), (1, .int (iI a)), (2, .int (iI r0)), (3, .int (iI b0))] from lv_sub hl [1, 2, 3, 4, 5] rfl) (lv_cs (congrArg (fun z => Value.int (iI z)) e_3) (lv_cs rfl (lv_cs rfl (lv_cs rfl (lv_cs rfl rfl)))))
      exact kx H locs ls hP hS hl
    · refine lv_aload_n X.1 X.2.1 dX5_firstOf_15 rfl (lv_at hl 2 rfl) ?_
      refine lv_iload X.1 X.2.1 dX5_firstOf_16 (lv_at hl 0 rfl) ?_
      refine lv_iload_n X.1 X.2.1 dX5_firstOf_18 rfl (lv_at hl 3 rfl) ?_
      refine va_calli (va_runV (As := [.int (iI ((k : Nat) : Int)), .int (iI a)]) (rest := []) X.fix (c_X5_mayTake l g s0 n ad C c0 hM hR k (by omega) a ha) (cwV 2 X.2.2.2.2.1 gX5_firstOf_X5_mayTake rfl rfl rfl (by decide +kernel) ⟨Nat.le_of_ble_eq_true rfl, Nat.le_of_ble_eq_true rfl⟩) (q_preV X hP hS [.int (iI ((k : Nat) : Int)), .int (iI a)] (kd := 5) (by decide) rfl (m_v5 hM)) rfl rfl hl.1 rfl (lv_room (Nat.le_of_ble_eq_true rfl)) dX5_firstOf_19 ⟨Nat.le_of_ble_eq_true rfl, Nat.le_of_ble_eq_true rfl⟩) hS q_id q_id1 (fun r u t H locs ht hvm hw hB hz1 hk1 hS => ?_)
      obtain ⟨rfl, ⟨h_4, rfl⟩ | ⟨h_4, rfl⟩⟩ := hw
      · have hP : q_P g s0 n ad (C) H := q_back hB ht
        have h_4 : m_may C k a := h_4
        refine q_if_eq (tgt := 154) X (by decide) dX5_firstOf_22 (by decide) (fun h => absurd h (by decide)) (fun _ => ?_)
        refine lv_aload_n X.1 X.2.1 dX5_firstOf_25 rfl (lv_at hl 2 rfl) ?_
        refine q_get (index := 38) (v := .ref (ad 33 0)) X hP 5 13 0 rfl rfl (by decide) in5 (m_v5 hM) (by decide) (by decide +kernel) (m_r hM ad 13 33 (by decide)) dX5_firstOf_26 ?_
        refine lv_aload_n X.1 X.2.1 dX5_firstOf_29 rfl (lv_at hl 2 rfl) ?_
        refine q_get (index := 51) (v := .ref (ad 38 0)) X hP 5 18 0 rfl rfl (by decide) in5 (m_v5 hM) (by decide) (by decide +kernel) (m_r hM ad 18 38 (by decide)) dX5_firstOf_30 ?_
        refine lv_iload X.1 X.2.1 dX5_firstOf_33 (lv_at hl 0 rfl) ?_
        refine q_ildv (len := 4200) (v := (C 38 k 0)) X hP 38 0 (by decide) rfl rfl (m_va hM 18 (by decide) rfl) rfl (by omega) (by omega) rfl dX5_firstOf_35 ?_
        have f_6 := m_R38 hR k
        refine q_ildv (len := 61) (v := (C 33 (((C 38 k 0)).toNat) 0)) X hP 33 0 (by decide) rfl rfl (m_va hM 13 (by decide) rfl) rfl (by omega) (by omega) rfl dX5_firstOf_36 ?_
        have f_7 := m_R33 hR (((C 38 k 0)).toNat)
        refine lv_iload_n X.1 X.2.1 dX5_firstOf_37 rfl (lv_at hl 4 rfl) ?_
        refine q_icmp_ne (tgt := 154) X (hP.tok 33 (((C 38 k 0)).toNat) 0 rfl) hr0 dX5_firstOf_38 (by decide) (fun h_8 => ?_) (fun h_8 => ?_)
        · refine q_iinc (lv' := [(5, .int (iI (((k : Nat) : Int) + 1))), (4, .int (iI (m_first C a r0 b0 k))), (0, .ref (ad 5 0)), (1, .int (iI a)), (2, .int (iI r0)), (3, .int (iI b0))]) (k := 0) X dX5_firstOf_154 hl rfl (by decide) rfl (fun ls hl => ?_)
          refine lv_goto (tgt := 6) X.1 X.2.1 dX5_firstOf_157 (by decide) ?_
          have e_9 : (((k : Nat) : Int) + 1) = (((k + 1) : Nat) : Int) := by omega
          have e_10 : (m_first C a r0 b0 k) = (m_first C a r0 b0 (k + 1)) := by rw [m_first]; first | (rw [if_pos ⟨by assumption, by assumption, by omega, by unfold m_soon; omega⟩]; done) | (rw [if_neg (fun q => by obtain ⟨q1, q2, q3, q4⟩ := q; unfold m_soon at q4; first | contradiction | omega)]; done)
          have hl : lv_has ls 8 [(5, .int (iI (((k + 1) : Nat) : Int))), (4, .int (iI (m_first C a r0 b0 (k + 1)))), (0, .ref (ad 5 0)), (1, .int (iI a)), (2, .int (iI r0)), (3, .int (iI b0))] := lv_cong (show lv_has ls 8 [(5, .int (iI (((k : Nat) : Int) + 1))), (4, .int (iI (m_first C a r0 b0 k))), (0, .ref (ad 5 0)), (1, .int (iI a)), (2, .int (iI r0)), (3, .int (iI b0))] from lv_sub hl [0, 1, 2, 3, 4, 5] rfl) (lv_cs (congrArg (fun z => Value.int (iI z)) e_9) (lv_cs (congrArg (fun z => Value.int (iI z)) e_10) (lv_cs rfl (lv_cs rfl (lv_cs rfl (lv_cs rfl rfl))))))
          exact ih (k + 1) H locs ls (by omega) (by omega) hP hS hl
        · refine lv_iload_n X.1 X.2.1 dX5_firstOf_41 rfl (lv_at hl 5 rfl) ?_
          refine q_if_eq (tgt := 60) X (q_b32 hb0) dX5_firstOf_42 (by decide) (fun h_11 => ?_) (fun h_11 => ?_)
          · refine lv_aload_n X.1 X.2.1 dX5_firstOf_60 rfl (lv_at hl 2 rfl) ?_
            refine q_get (index := 51) (v := .ref (ad 38 0)) X hP 5 18 0 rfl rfl (by decide) in5 (m_v5 hM) (by decide) (by decide +kernel) (m_r hM ad 18 38 (by decide)) dX5_firstOf_61 ?_
            refine lv_iload X.1 X.2.1 dX5_firstOf_64 (lv_at hl 0 rfl) ?_
            refine q_ildv (len := 4200) (v := (C 38 k 0)) X hP 38 0 (by decide) rfl rfl (m_va hM 18 (by decide) rfl) rfl (by omega) (by omega) rfl dX5_firstOf_66 ?_
            refine lv_istore (lv' := [(6, .int (iI (C 38 k 0))), (5, .int (iI ((k : Nat) : Int))), (4, .int (iI (m_first C a r0 b0 k))), (0, .ref (ad 5 0)), (1, .int (iI a)), (2, .int (iI r0)), (3, .int (iI b0))]) X.1 X.2.1 dX5_firstOf_67 hl (by decide) rfl (fun ls hl => ?_)
            refine lv_iload X.1 X.2.1 dX5_firstOf_69 (lv_at hl 2 rfl) ?_
            refine lv_iconst (v := iI (-1)) X.1 X.2.1 dX5_firstOf_71 rfl ?_
            refine q_icmp_eq (tgt := 133) X (by omega) (by decide) dX5_firstOf_72 (by decide) (fun h_12 => ?_) (fun h_12 => ?_)
            · refine lv_iconst (v := iI (1)) X.1 X.2.1 dX5_firstOf_133 rfl ?_
              refine lv_goto (tgt := 138) X.1 X.2.1 dX5_firstOf_134 (by decide) ?_
              refine lv_istore (lv' := [(7, .int (iI (1))), (6, .int (iI (C 38 k 0))), (5, .int (iI ((k : Nat) : Int))), (4, .int (iI (m_first C a r0 b0 k))), (0, .ref (ad 5 0)), (1, .int (iI a)), (2, .int (iI r0)), (3, .int (iI b0))]) X.1 X.2.1 dX5_firstOf_138 hl (by decide) rfl (fun ls hl => ?_)
              refine lv_iload X.1 X.2.1 dX5_firstOf_140 (lv_at hl 0 rfl) ?_
              refine q_if_eq (tgt := 150) X (by decide) dX5_firstOf_142 (by decide) (fun h => absurd h (by decide)) (fun _ => ?_)
              refine lv_iload X.1 X.2.1 dX5_firstOf_145 (lv_at hl 2 rfl) ?_
              refine lv_goto (tgt := 152) X.1 X.2.1 dX5_firstOf_147 (by decide) ?_
              refine lv_istore (lv' := [(4, .int (iI ((k : Nat) : Int))), (7, .int (iI (1))), (6, .int (iI (C 38 k 0))), (5, .int (iI ((k : Nat) : Int))), (0, .ref (ad 5 0)), (1, .int (iI a)), (2, .int (iI r0)), (3, .int (iI b0))]) X.1 X.2.1 dX5_firstOf_152 hl (by decide) rfl (fun ls hl => ?_)
              refine q_iinc (lv' := [(5, .int (iI (((k : Nat) : Int) + 1))), (4, .int (iI ((k : Nat) : Int))), (7, .int (iI (1))), (6, .int (iI (C 38 k 0))), (0, .ref (ad 5 0)), (1, .int (iI a)), (2, .int (iI r0)), (3, .int (iI b0))]) (k := 3) X dX5_firstOf_154 hl rfl (by decide) rfl (fun ls hl => ?_)
              refine lv_goto (tgt := 6) X.1 X.2.1 dX5_firstOf_157 (by decide) ?_
              have e_14 : (((k : Nat) : Int) + 1) = (((k + 1) : Nat) : Int) := by omega
              have e_15 : ((k : Nat) : Int) = (m_first C a r0 b0 (k + 1)) := by rw [m_first]; first | (rw [if_pos ⟨by assumption, by assumption, by omega, by unfold m_soon; omega⟩]; done) | (rw [if_neg (fun q => by obtain ⟨q1, q2, q3, q4⟩ := q; unfold m_soon at q4; first | contradiction | omega)]; done)
              have hl : lv_has ls 8 [(5, .int (iI (((k + 1) : Nat) : Int))), (4, .int (iI (m_first C a r0 b0 (k + 1)))), (0, .ref (ad 5 0)), (1, .int (iI a)), (2, .int (iI r0)), (3, .int (iI b0))] := lv_cong (show lv_has ls 8 [(5, .int (iI (((k : Nat) : Int) + 1))), (4, .int (iI ((k : Nat) : Int))), (0, .ref (ad 5 0)), (1, .int (iI a)), (2, .int (iI r0)), (3, .int (iI b0))] from lv_sub hl [0, 1, 4, 5, 6, 7] rfl) (lv_cs (congrArg (fun z => Value.int (iI z)) e_14) (lv_cs (congrArg (fun z => Value.int (iI z)) e_15) (lv_cs rfl (lv_cs rfl (lv_cs rfl (lv_cs rfl rfl))))))
              exact ih (k + 1) H locs ls (by omega) (by omega) hP hS hl
            · refine lv_aload_n X.1 X.2.1 dX5_firstOf_75 rfl (lv_at hl 3 rfl) ?_
              refine q_get (index := 41) (v := .ref (ad 34 0)) X hP 5 14 0 rfl rfl (by decide) in5 (m_v5 hM) (by decide) (by decide +kernel) (m_r hM ad 14 34 (by decide)) dX5_firstOf_76 ?_
              refine lv_iload X.1 X.2.1 dX5_firstOf_79 (lv_at hl 0 rfl) ?_
              refine q_lldv (len := 61) (v := (C 34 (((C 38 k 0)).toNat) 0)) X hP 34 0 (by decide) rfl rfl (m_va hM 14 (by decide) rfl) rfl (by omega) (by omega) rfl dX5_firstOf_81 ?_
              refine lv_aload_n X.1 X.2.1 dX5_firstOf_82 rfl (lv_at hl 3 rfl) ?_
              refine q_get (index := 41) (v := .ref (ad 34 0)) X hP 5 14 0 rfl rfl (by decide) in5 (m_v5 hM) (by decide) (by decide +kernel) (m_r hM ad 14 34 (by decide)) dX5_firstOf_83 ?_
              refine lv_aload_n X.1 X.2.1 dX5_firstOf_86 rfl (lv_at hl 3 rfl) ?_
              refine q_get (index := 51) (v := .ref (ad 38 0)) X hP 5 18 0 rfl rfl (by decide) in5 (m_v5 hM) (by decide) (by decide +kernel) (m_r hM ad 18 38 (by decide)) dX5_firstOf_87 ?_
              refine lv_iload X.1 X.2.1 dX5_firstOf_90 (lv_at hl 2 rfl) ?_
              refine q_ildv (len := 4200) (v := (C 38 (((m_first C a r0 b0 k)).toNat) 0)) X hP 38 0 (by decide) rfl rfl (m_va hM 18 (by decide) rfl) rfl (by omega) (by omega) rfl dX5_firstOf_92 ?_
              have f_16 := m_R38 hR (((m_first C a r0 b0 k)).toNat)
              refine q_lldv (len := 61) (v := (C 34 (((C 38 (((m_first C a r0 b0 k)).toNat) 0)).toNat) 0)) X hP 34 0 (by decide) rfl rfl (m_va hM 14 (by decide) rfl) rfl (by omega) (by omega) rfl dX5_firstOf_93 ?_
              refine q_lcmp_lt (tgt := 133) X (hP.tok 34 (((C 38 k 0)).toNat) 0 rfl) (hP.tok 34 (((C 38 (((m_first C a r0 b0 k)).toNat) 0)).toNat) 0 rfl) dX5_firstOf_94 dX5_firstOf_95 (by decide) (fun h_17 => ?_) (fun h_17 => ?_)
              · refine lv_iconst (v := iI (1)) X.1 X.2.1 dX5_firstOf_133 rfl ?_
                refine lv_goto (tgt := 138) X.1 X.2.1 dX5_firstOf_134 (by decide) ?_
                refine lv_istore (lv' := [(7, .int (iI (1))), (6, .int (iI (C 38 k 0))), (5, .int (iI ((k : Nat) : Int))), (4, .int (iI (m_first C a r0 b0 k))), (0, .ref (ad 5 0)), (1, .int (iI a)), (2, .int (iI r0)), (3, .int (iI b0))]) X.1 X.2.1 dX5_firstOf_138 hl (by decide) rfl (fun ls hl => ?_)
                refine lv_iload X.1 X.2.1 dX5_firstOf_140 (lv_at hl 0 rfl) ?_
                refine q_if_eq (tgt := 150) X (by decide) dX5_firstOf_142 (by decide) (fun h => absurd h (by decide)) (fun _ => ?_)
                refine lv_iload X.1 X.2.1 dX5_firstOf_145 (lv_at hl 2 rfl) ?_
                refine lv_goto (tgt := 152) X.1 X.2.1 dX5_firstOf_147 (by decide) ?_
                refine lv_istore (lv' := [(4, .int (iI ((k : Nat) : Int))), (7, .int (iI (1))), (6, .int (iI (C 38 k 0))), (5, .int (iI ((k : Nat) : Int))), (0, .ref (ad 5 0)), (1, .int (iI a)), (2, .int (iI r0)), (3, .int (iI b0))]) X.1 X.2.1 dX5_firstOf_152 hl (by decide) rfl (fun ls hl => ?_)
                refine q_iinc (lv' := [(5, .int (iI (((k : Nat) : Int) + 1))), (4, .int (iI ((k : Nat) : Int))), (7, .int (iI (1))), (6, .int (iI (C 38 k 0))), (0, .ref (ad 5 0)), (1, .int (iI a)), (2, .int (iI r0)), (3, .int (iI b0))]) (k := 3) X dX5_firstOf_154 hl rfl (by decide) rfl (fun ls hl => ?_)
                refine lv_goto (tgt := 6) X.1 X.2.1 dX5_firstOf_157 (by decide) ?_
                have e_19 : (((k : Nat) : Int) + 1) = (((k + 1) : Nat) : Int) := by omega
                have e_20 : ((k : Nat) : Int) = (m_first C a r0 b0 (k + 1)) := by rw [m_first]; first | (rw [if_pos ⟨by assumption, by assumption, by omega, by unfold m_soon; omega⟩]; done) | (rw [if_neg (fun q => by obtain ⟨q1, q2, q3, q4⟩ := q; unfold m_soon at q4; first | contradiction | omega)]; done)
                have hl : lv_has ls 8 [(5, .int (iI (((k + 1) : Nat) : Int))), (4, .int (iI (m_first C a r0 b0 (k + 1)))), (0, .ref (ad 5 0)), (1, .int (iI a)), (2, .int (iI r0)), (3, .int (iI b0))] := lv_cong (show lv_has ls 8 [(5, .int (iI (((k : Nat) : Int) + 1))), (4, .int (iI ((k : Nat) : Int))), (0, .ref (ad 5 0)), (1, .int (iI a)), (2, .int (iI r0)), (3, .int (iI b0))] from lv_sub hl [0, 1, 4, 5, 6, 7] rfl) (lv_cs (congrArg (fun z => Value.int (iI z)) e_19) (lv_cs (congrArg (fun z => Value.int (iI z)) e_20) (lv_cs rfl (lv_cs rfl (lv_cs rfl (lv_cs rfl rfl))))))
                exact ih (k + 1) H locs ls (by omega) (by omega) hP hS hl
              · refine lv_aload_n X.1 X.2.1 dX5_firstOf_98 rfl (lv_at hl 3 rfl) ?_
                refine q_get (index := 41) (v := .ref (ad 34 0)) X hP 5 14 0 rfl rfl (by decide) in5 (m_v5 hM) (by decide) (by decide +kernel) (m_r hM ad 14 34 (by decide)) dX5_firstOf_99 ?_
                refine lv_iload X.1 X.2.1 dX5_firstOf_102 (lv_at hl 0 rfl) ?_
                refine q_lldv (len := 61) (v := (C 34 (((C 38 k 0)).toNat) 0)) X hP 34 0 (by decide) rfl rfl (m_va hM 14 (by decide) rfl) rfl (by omega) (by omega) rfl dX5_firstOf_104 ?_
                refine lv_aload_n X.1 X.2.1 dX5_firstOf_105 rfl (lv_at hl 3 rfl) ?_
                refine q_get (index := 41) (v := .ref (ad 34 0)) X hP 5 14 0 rfl rfl (by decide) in5 (m_v5 hM) (by decide) (by decide +kernel) (m_r hM ad 14 34 (by decide)) dX5_firstOf_106 ?_
                refine lv_aload_n X.1 X.2.1 dX5_firstOf_109 rfl (lv_at hl 3 rfl) ?_
                refine q_get (index := 51) (v := .ref (ad 38 0)) X hP 5 18 0 rfl rfl (by decide) in5 (m_v5 hM) (by decide) (by decide +kernel) (m_r hM ad 18 38 (by decide)) dX5_firstOf_110 ?_
                refine lv_iload X.1 X.2.1 dX5_firstOf_113 (lv_at hl 2 rfl) ?_
                refine q_ildv (len := 4200) (v := (C 38 (((m_first C a r0 b0 k)).toNat) 0)) X hP 38 0 (by decide) rfl rfl (m_va hM 18 (by decide) rfl) rfl (by omega) (by omega) rfl dX5_firstOf_115 ?_
                refine q_lldv (len := 61) (v := (C 34 (((C 38 (((m_first C a r0 b0 k)).toNat) 0)).toNat) 0)) X hP 34 0 (by decide) rfl rfl (m_va hM 14 (by decide) rfl) rfl (by omega) (by omega) rfl dX5_firstOf_116 ?_
                refine q_lcmp_ne (tgt := 137) X (hP.tok 34 (((C 38 k 0)).toNat) 0 rfl) (hP.tok 34 (((C 38 (((m_first C a r0 b0 k)).toNat) 0)).toNat) 0 rfl) dX5_firstOf_117 dX5_firstOf_118 (by decide) (fun h_21 => ?_) (fun h_21 => ?_)
                · refine lv_iconst (v := iI (0)) X.1 X.2.1 dX5_firstOf_137 rfl ?_
                  refine lv_istore (lv' := [(7, .int (iI (0))), (6, .int (iI (C 38 k 0))), (5, .int (iI ((k : Nat) : Int))), (4, .int (iI (m_first C a r0 b0 k))), (0, .ref (ad 5 0)), (1, .int (iI a)), (2, .int (iI r0)), (3, .int (iI b0))]) X.1 X.2.1 dX5_firstOf_138 hl (by decide) rfl (fun ls hl => ?_)
                  refine lv_iload X.1 X.2.1 dX5_firstOf_140 (lv_at hl 0 rfl) ?_
                  refine q_if_eq (tgt := 150) X (by decide) dX5_firstOf_142 (by decide) (fun _ => ?_) (fun h => absurd h (by decide))
                  refine lv_iload X.1 X.2.1 dX5_firstOf_150 (lv_at hl 3 rfl) ?_
                  refine lv_istore (lv' := [(4, .int (iI (m_first C a r0 b0 k))), (7, .int (iI (0))), (6, .int (iI (C 38 k 0))), (5, .int (iI ((k : Nat) : Int))), (0, .ref (ad 5 0)), (1, .int (iI a)), (2, .int (iI r0)), (3, .int (iI b0))]) X.1 X.2.1 dX5_firstOf_152 hl (by decide) rfl (fun ls hl => ?_)
                  refine q_iinc (lv' := [(5, .int (iI (((k : Nat) : Int) + 1))), (4, .int (iI (m_first C a r0 b0 k))), (7, .int (iI (0))), (6, .int (iI (C 38 k 0))), (0, .ref (ad 5 0)), (1, .int (iI a)), (2, .int (iI r0)), (3, .int (iI b0))]) (k := 3) X dX5_firstOf_154 hl rfl (by decide) rfl (fun ls hl => ?_)
                  refine lv_goto (tgt := 6) X.1 X.2.1 dX5_firstOf_157 (by decide) ?_
                  have e_23 : (((k : Nat) : Int) + 1) = (((k + 1) : Nat) : Int) := by omega
                  have e_24 : (m_first C a r0 b0 k) = (m_first C a r0 b0 (k + 1)) := by rw [m_first]; first | (rw [if_pos ⟨by assumption, by assumption, by omega, by unfold m_soon; omega⟩]; done) | (rw [if_neg (fun q => by obtain ⟨q1, q2, q3, q4⟩ := q; unfold m_soon at q4; first | contradiction | omega)]; done)
                  have hl : lv_has ls 8 [(5, .int (iI (((k + 1) : Nat) : Int))), (4, .int (iI (m_first C a r0 b0 (k + 1)))), (0, .ref (ad 5 0)), (1, .int (iI a)), (2, .int (iI r0)), (3, .int (iI b0))] := lv_cong (show lv_has ls 8 [(5, .int (iI (((k : Nat) : Int) + 1))), (4, .int (iI (m_first C a r0 b0 k))), (0, .ref (ad 5 0)), (1, .int (iI a)), (2, .int (iI r0)), (3, .int (iI b0))] from lv_sub hl [0, 1, 4, 5, 6, 7] rfl) (lv_cs (congrArg (fun z => Value.int (iI z)) e_23) (lv_cs (congrArg (fun z => Value.int (iI z)) e_24) (lv_cs rfl (lv_cs rfl (lv_cs rfl (lv_cs rfl rfl))))))
                  exact ih (k + 1) H locs ls (by omega) (by omega) hP hS hl
                · refine lv_iload X.1 X.2.1 dX5_firstOf_121 (lv_at hl 0 rfl) ?_
                  refine lv_aload_n X.1 X.2.1 dX5_firstOf_123 rfl (lv_at hl 3 rfl) ?_
                  refine q_get (index := 51) (v := .ref (ad 38 0)) X hP 5 18 0 rfl rfl (by decide) in5 (m_v5 hM) (by decide) (by decide +kernel) (m_r hM ad 18 38 (by decide)) dX5_firstOf_124 ?_
                  refine lv_iload X.1 X.2.1 dX5_firstOf_127 (lv_at hl 2 rfl) ?_
                  refine q_ildv (len := 4200) (v := (C 38 (((m_first C a r0 b0 k)).toNat) 0)) X hP 38 0 (by decide) rfl rfl (m_va hM 18 (by decide) rfl) rfl (by omega) (by omega) rfl dX5_firstOf_129 ?_
                  refine q_icmp_ge (tgt := 137) X (hP.tok 38 k 0 rfl) (hP.tok 38 (((m_first C a r0 b0 k)).toNat) 0 rfl) dX5_firstOf_130 (by decide) (fun h_25 => ?_) (fun h_25 => ?_)
                  · refine lv_iconst (v := iI (0)) X.1 X.2.1 dX5_firstOf_137 rfl ?_
                    refine lv_istore (lv' := [(7, .int (iI (0))), (6, .int (iI (C 38 k 0))), (5, .int (iI ((k : Nat) : Int))), (4, .int (iI (m_first C a r0 b0 k))), (0, .ref (ad 5 0)), (1, .int (iI a)), (2, .int (iI r0)), (3, .int (iI b0))]) X.1 X.2.1 dX5_firstOf_138 hl (by decide) rfl (fun ls hl => ?_)
                    refine lv_iload X.1 X.2.1 dX5_firstOf_140 (lv_at hl 0 rfl) ?_
                    refine q_if_eq (tgt := 150) X (by decide) dX5_firstOf_142 (by decide) (fun _ => ?_) (fun h => absurd h (by decide))
                    refine lv_iload X.1 X.2.1 dX5_firstOf_150 (lv_at hl 3 rfl) ?_
                    refine lv_istore (lv' := [(4, .int (iI (m_first C a r0 b0 k))), (7, .int (iI (0))), (6, .int (iI (C 38 k 0))), (5, .int (iI ((k : Nat) : Int))), (0, .ref (ad 5 0)), (1, .int (iI a)), (2, .int (iI r0)), (3, .int (iI b0))]) X.1 X.2.1 dX5_firstOf_152 hl (by decide) rfl (fun ls hl => ?_)
                    refine q_iinc (lv' := [(5, .int (iI (((k : Nat) : Int) + 1))), (4, .int (iI (m_first C a r0 b0 k))), (7, .int (iI (0))), (6, .int (iI (C 38 k 0))), (0, .ref (ad 5 0)), (1, .int (iI a)), (2, .int (iI r0)), (3, .int (iI b0))]) (k := 3) X dX5_firstOf_154 hl rfl (by decide) rfl (fun ls hl => ?_)
                    refine lv_goto (tgt := 6) X.1 X.2.1 dX5_firstOf_157 (by decide) ?_
                    have e_27 : (((k : Nat) : Int) + 1) = (((k + 1) : Nat) : Int) := by omega
                    have e_28 : (m_first C a r0 b0 k) = (m_first C a r0 b0 (k + 1)) := by rw [m_first]; first | (rw [if_pos ⟨by assumption, by assumption, by omega, by unfold m_soon; omega⟩]; done) | (rw [if_neg (fun q => by obtain ⟨q1, q2, q3, q4⟩ := q; unfold m_soon at q4; first | contradiction | omega)]; done)
                    have hl : lv_has ls 8 [(5, .int (iI (((k + 1) : Nat) : Int))), (4, .int (iI (m_first C a r0 b0 (k + 1)))), (0, .ref (ad 5 0)), (1, .int (iI a)), (2, .int (iI r0)), (3, .int (iI b0))] := lv_cong (show lv_has ls 8 [(5, .int (iI (((k : Nat) : Int) + 1))), (4, .int (iI (m_first C a r0 b0 k))), (0, .ref (ad 5 0)), (1, .int (iI a)), (2, .int (iI r0)), (3, .int (iI b0))] from lv_sub hl [0, 1, 4, 5, 6, 7] rfl) (lv_cs (congrArg (fun z => Value.int (iI z)) e_27) (lv_cs (congrArg (fun z => Value.int (iI z)) e_28) (lv_cs rfl (lv_cs rfl (lv_cs rfl (lv_cs rfl rfl))))))
                    exact ih (k + 1) H locs ls (by omega) (by omega) hP hS hl
                  · refine lv_iconst (v := iI (1)) X.1 X.2.1 dX5_firstOf_133 rfl ?_
                    refine lv_goto (tgt := 138) X.1 X.2.1 dX5_firstOf_134 (by decide) ?_
                    refine lv_istore (lv' := [(7, .int (iI (1))), (6, .int (iI (C 38 k 0))), (5, .int (iI ((k : Nat) : Int))), (4, .int (iI (m_first C a r0 b0 k))), (0, .ref (ad 5 0)), (1, .int (iI a)), (2, .int (iI r0)), (3, .int (iI b0))]) X.1 X.2.1 dX5_firstOf_138 hl (by decide) rfl (fun ls hl => ?_)
                    refine lv_iload X.1 X.2.1 dX5_firstOf_140 (lv_at hl 0 rfl) ?_
                    refine q_if_eq (tgt := 150) X (by decide) dX5_firstOf_142 (by decide) (fun h => absurd h (by decide)) (fun _ => ?_)
                    refine lv_iload X.1 X.2.1 dX5_firstOf_145 (lv_at hl 2 rfl) ?_
                    refine lv_goto (tgt := 152) X.1 X.2.1 dX5_firstOf_147 (by decide) ?_
                    refine lv_istore (lv' := [(4, .int (iI ((k : Nat) : Int))), (7, .int (iI (1))), (6, .int (iI (C 38 k 0))), (5, .int (iI ((k : Nat) : Int))), (0, .ref (ad 5 0)), (1, .int (iI a)), (2, .int (iI r0)), (3, .int (iI b0))]) X.1 X.2.1 dX5_firstOf_152 hl (by decide) rfl (fun ls hl => ?_)
                    refine q_iinc (lv' := [(5, .int (iI (((k : Nat) : Int) + 1))), (4, .int (iI ((k : Nat) : Int))), (7, .int (iI (1))), (6, .int (iI (C 38 k 0))), (0, .ref (ad 5 0)), (1, .int (iI a)), (2, .int (iI r0)), (3, .int (iI b0))]) (k := 3) X dX5_firstOf_154 hl rfl (by decide) rfl (fun ls hl => ?_)
                    refine lv_goto (tgt := 6) X.1 X.2.1 dX5_firstOf_157 (by decide) ?_
                    have e_30 : (((k : Nat) : Int) + 1) = (((k + 1) : Nat) : Int) := by omega
                    have e_31 : ((k : Nat) : Int) = (m_first C a r0 b0 (k + 1)) := by rw [m_first]; first | (rw [if_pos ⟨by assumption, by assumption, by omega, by unfold m_soon; omega⟩]; done) | (rw [if_neg (fun q => by obtain ⟨q1, q2, q3, q4⟩ := q; unfold m_soon at q4; first | contradiction | omega)]; done)
                    have hl : lv_has ls 8 [(5, .int (iI (((k + 1) : Nat) : Int))), (4, .int (iI (m_first C a r0 b0 (k + 1)))), (0, .ref (ad 5 0)), (1, .int (iI a)), (2, .int (iI r0)), (3, .int (iI b0))] := lv_cong (show lv_has ls 8 [(5, .int (iI (((k : Nat) : Int) + 1))), (4, .int (iI ((k : Nat) : Int))), (0, .ref (ad 5 0)), (1, .int (iI a)), (2, .int (iI r0)), (3, .int (iI b0))] from lv_sub hl [0, 1, 4, 5, 6, 7] rfl) (lv_cs (congrArg (fun z => Value.int (iI z)) e_30) (lv_cs (congrArg (fun z => Value.int (iI z)) e_31) (lv_cs rfl (lv_cs rfl (lv_cs rfl (lv_cs rfl rfl))))))
                    exact ih (k + 1) H locs ls (by omega) (by omega) hP hS hl
          · refine lv_aload_n X.1 X.2.1 dX5_firstOf_45 rfl (lv_at hl 2 rfl) ?_
            refine lv_iload X.1 X.2.1 dX5_firstOf_46 (lv_at hl 0 rfl) ?_
            refine va_calli (va_runV (As := [.int (iI ((k : Nat) : Int))]) (rest := []) X.fix (c_X5_mediaOf l g s0 n ad C hM k (by omega) (m_R38 hR _) (m_R31 hR _)) (cwV 1 X.2.2.2.2.1 gX5_firstOf_X5_mediaOf rfl rfl rfl (by decide +kernel) ⟨Nat.le_of_ble_eq_true rfl, Nat.le_of_ble_eq_true rfl⟩) (q_preV X hP hS [.int (iI ((k : Nat) : Int))] (kd := 5) (by decide) rfl (m_v5 hM)) rfl rfl hl.1 rfl (lv_room (Nat.le_of_ble_eq_true rfl)) dX5_firstOf_48 ⟨Nat.le_of_ble_eq_true rfl, Nat.le_of_ble_eq_true rfl⟩) hS q_id q_id1 (fun r u t H locs ht hvm hw hB hz1 hk1 hS => ?_)
            obtain ⟨rfl, rfl⟩ := hw
            have hP : q_P g s0 n ad (C) H := q_back hB ht
            refine lv_aload_n X.1 X.2.1 dX5_firstOf_51 rfl (lv_at hl 2 rfl) ?_
            refine q_get (index := 7) (v := .ref (ad 22 0)) X hP 5 2 0 rfl rfl (by decide) in5 (m_v5 hM) (by decide) (by decide +kernel) (m_r hM ad 2 22 (by decide)) dX5_firstOf_52 ?_
            refine lv_iload_n X.1 X.2.1 dX5_firstOf_55 rfl (lv_at hl 3 rfl) ?_
            refine q_ildv (len := 9) (v := (C 22 ((a).toNat) 0)) X hP 22 0 (by decide) rfl rfl (m_va hM 2 (by decide) rfl) rfl (by omega) (by omega) rfl dX5_firstOf_56 ?_
            refine q_icmp_ne (tgt := 154) X (hP.tok 27 _ 0 rfl) (hP.tok 22 ((a).toNat) 0 rfl) dX5_firstOf_57 (by decide) (fun h_32 => ?_) (fun h_32 => ?_)
            · refine q_iinc (lv' := [(5, .int (iI (((k : Nat) : Int) + 1))), (4, .int (iI (m_first C a r0 b0 k))), (0, .ref (ad 5 0)), (1, .int (iI a)), (2, .int (iI r0)), (3, .int (iI b0))]) (k := 0) X dX5_firstOf_154 hl rfl (by decide) rfl (fun ls hl => ?_)
              refine lv_goto (tgt := 6) X.1 X.2.1 dX5_firstOf_157 (by decide) ?_
              have e_33 : (((k : Nat) : Int) + 1) = (((k + 1) : Nat) : Int) := by omega
              have e_34 : (m_first C a r0 b0 k) = (m_first C a r0 b0 (k + 1)) := by rw [m_first]; first | (rw [if_pos ⟨by assumption, by assumption, by omega, by unfold m_soon; omega⟩]; done) | (rw [if_neg (fun q => by obtain ⟨q1, q2, q3, q4⟩ := q; unfold m_soon at q4; first | contradiction | omega)]; done)
              have hl : lv_has ls 8 [(5, .int (iI (((k + 1) : Nat) : Int))), (4, .int (iI (m_first C a r0 b0 (k + 1)))), (0, .ref (ad 5 0)), (1, .int (iI a)), (2, .int (iI r0)), (3, .int (iI b0))] := lv_cong (show lv_has ls 8 [(5, .int (iI (((k : Nat) : Int) + 1))), (4, .int (iI (m_first C a r0 b0 k))), (0, .ref (ad 5 0)), (1, .int (iI a)), (2, .int (iI r0)), (3, .int (iI b0))] from lv_sub hl [0, 1, 2, 3, 4, 5] rfl) (lv_cs (congrArg (fun z => Value.int (iI z)) e_33) (lv_cs (congrArg (fun z => Value.int (iI z)) e_34) (lv_cs rfl (lv_cs rfl (lv_cs rfl (lv_cs rfl rfl))))))
              exact ih (k + 1) H locs ls (by omega) (by omega) hP hS hl
            · refine lv_aload_n X.1 X.2.1 dX5_firstOf_60 rfl (lv_at hl 2 rfl) ?_
              refine q_get (index := 51) (v := .ref (ad 38 0)) X hP 5 18 0 rfl rfl (by decide) in5 (m_v5 hM) (by decide) (by decide +kernel) (m_r hM ad 18 38 (by decide)) dX5_firstOf_61 ?_
              refine lv_iload X.1 X.2.1 dX5_firstOf_64 (lv_at hl 0 rfl) ?_
              refine q_ildv (len := 4200) (v := (C 38 k 0)) X hP 38 0 (by decide) rfl rfl (m_va hM 18 (by decide) rfl) rfl (by omega) (by omega) rfl dX5_firstOf_66 ?_
              refine lv_istore (lv' := [(6, .int (iI (C 38 k 0))), (5, .int (iI ((k : Nat) : Int))), (4, .int (iI (m_first C a r0 b0 k))), (0, .ref (ad 5 0)), (1, .int (iI a)), (2, .int (iI r0)), (3, .int (iI b0))]) X.1 X.2.1 dX5_firstOf_67 hl (by decide) rfl (fun ls hl => ?_)
              refine lv_iload X.1 X.2.1 dX5_firstOf_69 (lv_at hl 2 rfl) ?_
              refine lv_iconst (v := iI (-1)) X.1 X.2.1 dX5_firstOf_71 rfl ?_
              refine q_icmp_eq (tgt := 133) X (by omega) (by decide) dX5_firstOf_72 (by decide) (fun h_35 => ?_) (fun h_35 => ?_)
              · refine lv_iconst (v := iI (1)) X.1 X.2.1 dX5_firstOf_133 rfl ?_
                refine lv_goto (tgt := 138) X.1 X.2.1 dX5_firstOf_134 (by decide) ?_
                refine lv_istore (lv' := [(7, .int (iI (1))), (6, .int (iI (C 38 k 0))), (5, .int (iI ((k : Nat) : Int))), (4, .int (iI (m_first C a r0 b0 k))), (0, .ref (ad 5 0)), (1, .int (iI a)), (2, .int (iI r0)), (3, .int (iI b0))]) X.1 X.2.1 dX5_firstOf_138 hl (by decide) rfl (fun ls hl => ?_)
                refine lv_iload X.1 X.2.1 dX5_firstOf_140 (lv_at hl 0 rfl) ?_
                refine q_if_eq (tgt := 150) X (by decide) dX5_firstOf_142 (by decide) (fun h => absurd h (by decide)) (fun _ => ?_)
                refine lv_iload X.1 X.2.1 dX5_firstOf_145 (lv_at hl 2 rfl) ?_
                refine lv_goto (tgt := 152) X.1 X.2.1 dX5_firstOf_147 (by decide) ?_
                refine lv_istore (lv' := [(4, .int (iI ((k : Nat) : Int))), (7, .int (iI (1))), (6, .int (iI (C 38 k 0))), (5, .int (iI ((k : Nat) : Int))), (0, .ref (ad 5 0)), (1, .int (iI a)), (2, .int (iI r0)), (3, .int (iI b0))]) X.1 X.2.1 dX5_firstOf_152 hl (by decide) rfl (fun ls hl => ?_)
                refine q_iinc (lv' := [(5, .int (iI (((k : Nat) : Int) + 1))), (4, .int (iI ((k : Nat) : Int))), (7, .int (iI (1))), (6, .int (iI (C 38 k 0))), (0, .ref (ad 5 0)), (1, .int (iI a)), (2, .int (iI r0)), (3, .int (iI b0))]) (k := 3) X dX5_firstOf_154 hl rfl (by decide) rfl (fun ls hl => ?_)
                refine lv_goto (tgt := 6) X.1 X.2.1 dX5_firstOf_157 (by decide) ?_
                have e_37 : (((k : Nat) : Int) + 1) = (((k + 1) : Nat) : Int) := by omega
                have e_38 : ((k : Nat) : Int) = (m_first C a r0 b0 (k + 1)) := by rw [m_first]; first | (rw [if_pos ⟨by assumption, by assumption, by omega, by unfold m_soon; omega⟩]; done) | (rw [if_neg (fun q => by obtain ⟨q1, q2, q3, q4⟩ := q; unfold m_soon at q4; first | contradiction | omega)]; done)
                have hl : lv_has ls 8 [(5, .int (iI (((k + 1) : Nat) : Int))), (4, .int (iI (m_first C a r0 b0 (k + 1)))), (0, .ref (ad 5 0)), (1, .int (iI a)), (2, .int (iI r0)), (3, .int (iI b0))] := lv_cong (show lv_has ls 8 [(5, .int (iI (((k : Nat) : Int) + 1))), (4, .int (iI ((k : Nat) : Int))), (0, .ref (ad 5 0)), (1, .int (iI a)), (2, .int (iI r0)), (3, .int (iI b0))] from lv_sub hl [0, 1, 4, 5, 6, 7] rfl) (lv_cs (congrArg (fun z => Value.int (iI z)) e_37) (lv_cs (congrArg (fun z => Value.int (iI z)) e_38) (lv_cs rfl (lv_cs rfl (lv_cs rfl (lv_cs rfl rfl))))))
                exact ih (k + 1) H locs ls (by omega) (by omega) hP hS hl
              · refine lv_aload_n X.1 X.2.1 dX5_firstOf_75 rfl (lv_at hl 3 rfl) ?_
                refine q_get (index := 41) (v := .ref (ad 34 0)) X hP 5 14 0 rfl rfl (by decide) in5 (m_v5 hM) (by decide) (by decide +kernel) (m_r hM ad 14 34 (by decide)) dX5_firstOf_76 ?_
                refine lv_iload X.1 X.2.1 dX5_firstOf_79 (lv_at hl 0 rfl) ?_
                refine q_lldv (len := 61) (v := (C 34 (((C 38 k 0)).toNat) 0)) X hP 34 0 (by decide) rfl rfl (m_va hM 14 (by decide) rfl) rfl (by omega) (by omega) rfl dX5_firstOf_81 ?_
                refine lv_aload_n X.1 X.2.1 dX5_firstOf_82 rfl (lv_at hl 3 rfl) ?_
                refine q_get (index := 41) (v := .ref (ad 34 0)) X hP 5 14 0 rfl rfl (by decide) in5 (m_v5 hM) (by decide) (by decide +kernel) (m_r hM ad 14 34 (by decide)) dX5_firstOf_83 ?_
                refine lv_aload_n X.1 X.2.1 dX5_firstOf_86 rfl (lv_at hl 3 rfl) ?_
                refine q_get (index := 51) (v := .ref (ad 38 0)) X hP 5 18 0 rfl rfl (by decide) in5 (m_v5 hM) (by decide) (by decide +kernel) (m_r hM ad 18 38 (by decide)) dX5_firstOf_87 ?_
                refine lv_iload X.1 X.2.1 dX5_firstOf_90 (lv_at hl 2 rfl) ?_
                refine q_ildv (len := 4200) (v := (C 38 (((m_first C a r0 b0 k)).toNat) 0)) X hP 38 0 (by decide) rfl rfl (m_va hM 18 (by decide) rfl) rfl (by omega) (by omega) rfl dX5_firstOf_92 ?_
                have f_39 := m_R38 hR (((m_first C a r0 b0 k)).toNat)
                refine q_lldv (len := 61) (v := (C 34 (((C 38 (((m_first C a r0 b0 k)).toNat) 0)).toNat) 0)) X hP 34 0 (by decide) rfl rfl (m_va hM 14 (by decide) rfl) rfl (by omega) (by omega) rfl dX5_firstOf_93 ?_
                refine q_lcmp_lt (tgt := 133) X (hP.tok 34 (((C 38 k 0)).toNat) 0 rfl) (hP.tok 34 (((C 38 (((m_first C a r0 b0 k)).toNat) 0)).toNat) 0 rfl) dX5_firstOf_94 dX5_firstOf_95 (by decide) (fun h_40 => ?_) (fun h_40 => ?_)
                · refine lv_iconst (v := iI (1)) X.1 X.2.1 dX5_firstOf_133 rfl ?_
                  refine lv_goto (tgt := 138) X.1 X.2.1 dX5_firstOf_134 (by decide) ?_
                  refine lv_istore (lv' := [(7, .int (iI (1))), (6, .int (iI (C 38 k 0))), (5, .int (iI ((k : Nat) : Int))), (4, .int (iI (m_first C a r0 b0 k))), (0, .ref (ad 5 0)), (1, .int (iI a)), (2, .int (iI r0)), (3, .int (iI b0))]) X.1 X.2.1 dX5_firstOf_138 hl (by decide) rfl (fun ls hl => ?_)
                  refine lv_iload X.1 X.2.1 dX5_firstOf_140 (lv_at hl 0 rfl) ?_
                  refine q_if_eq (tgt := 150) X (by decide) dX5_firstOf_142 (by decide) (fun h => absurd h (by decide)) (fun _ => ?_)
                  refine lv_iload X.1 X.2.1 dX5_firstOf_145 (lv_at hl 2 rfl) ?_
                  refine lv_goto (tgt := 152) X.1 X.2.1 dX5_firstOf_147 (by decide) ?_
                  refine lv_istore (lv' := [(4, .int (iI ((k : Nat) : Int))), (7, .int (iI (1))), (6, .int (iI (C 38 k 0))), (5, .int (iI ((k : Nat) : Int))), (0, .ref (ad 5 0)), (1, .int (iI a)), (2, .int (iI r0)), (3, .int (iI b0))]) X.1 X.2.1 dX5_firstOf_152 hl (by decide) rfl (fun ls hl => ?_)
                  refine q_iinc (lv' := [(5, .int (iI (((k : Nat) : Int) + 1))), (4, .int (iI ((k : Nat) : Int))), (7, .int (iI (1))), (6, .int (iI (C 38 k 0))), (0, .ref (ad 5 0)), (1, .int (iI a)), (2, .int (iI r0)), (3, .int (iI b0))]) (k := 3) X dX5_firstOf_154 hl rfl (by decide) rfl (fun ls hl => ?_)
                  refine lv_goto (tgt := 6) X.1 X.2.1 dX5_firstOf_157 (by decide) ?_
                  have e_42 : (((k : Nat) : Int) + 1) = (((k + 1) : Nat) : Int) := by omega
                  have e_43 : ((k : Nat) : Int) = (m_first C a r0 b0 (k + 1)) := by rw [m_first]; first | (rw [if_pos ⟨by assumption, by assumption, by omega, by unfold m_soon; omega⟩]; done) | (rw [if_neg (fun q => by obtain ⟨q1, q2, q3, q4⟩ := q; unfold m_soon at q4; first | contradiction | omega)]; done)
                  have hl : lv_has ls 8 [(5, .int (iI (((k + 1) : Nat) : Int))), (4, .int (iI (m_first C a r0 b0 (k + 1)))), (0, .ref (ad 5 0)), (1, .int (iI a)), (2, .int (iI r0)), (3, .int (iI b0))] := lv_cong (show lv_has ls 8 [(5, .int (iI (((k : Nat) : Int) + 1))), (4, .int (iI ((k : Nat) : Int))), (0, .ref (ad 5 0)), (1, .int (iI a)), (2, .int (iI r0)), (3, .int (iI b0))] from lv_sub hl [0, 1, 4, 5, 6, 7] rfl) (lv_cs (congrArg (fun z => Value.int (iI z)) e_42) (lv_cs (congrArg (fun z => Value.int (iI z)) e_43) (lv_cs rfl (lv_cs rfl (lv_cs rfl (lv_cs rfl rfl))))))
                  exact ih (k + 1) H locs ls (by omega) (by omega) hP hS hl
                · refine lv_aload_n X.1 X.2.1 dX5_firstOf_98 rfl (lv_at hl 3 rfl) ?_
                  refine q_get (index := 41) (v := .ref (ad 34 0)) X hP 5 14 0 rfl rfl (by decide) in5 (m_v5 hM) (by decide) (by decide +kernel) (m_r hM ad 14 34 (by decide)) dX5_firstOf_99 ?_
                  refine lv_iload X.1 X.2.1 dX5_firstOf_102 (lv_at hl 0 rfl) ?_
                  refine q_lldv (len := 61) (v := (C 34 (((C 38 k 0)).toNat) 0)) X hP 34 0 (by decide) rfl rfl (m_va hM 14 (by decide) rfl) rfl (by omega) (by omega) rfl dX5_firstOf_104 ?_
                  refine lv_aload_n X.1 X.2.1 dX5_firstOf_105 rfl (lv_at hl 3 rfl) ?_
                  refine q_get (index := 41) (v := .ref (ad 34 0)) X hP 5 14 0 rfl rfl (by decide) in5 (m_v5 hM) (by decide) (by decide +kernel) (m_r hM ad 14 34 (by decide)) dX5_firstOf_106 ?_
                  refine lv_aload_n X.1 X.2.1 dX5_firstOf_109 rfl (lv_at hl 3 rfl) ?_
                  refine q_get (index := 51) (v := .ref (ad 38 0)) X hP 5 18 0 rfl rfl (by decide) in5 (m_v5 hM) (by decide) (by decide +kernel) (m_r hM ad 18 38 (by decide)) dX5_firstOf_110 ?_
                  refine lv_iload X.1 X.2.1 dX5_firstOf_113 (lv_at hl 2 rfl) ?_
                  refine q_ildv (len := 4200) (v := (C 38 (((m_first C a r0 b0 k)).toNat) 0)) X hP 38 0 (by decide) rfl rfl (m_va hM 18 (by decide) rfl) rfl (by omega) (by omega) rfl dX5_firstOf_115 ?_
                  refine q_lldv (len := 61) (v := (C 34 (((C 38 (((m_first C a r0 b0 k)).toNat) 0)).toNat) 0)) X hP 34 0 (by decide) rfl rfl (m_va hM 14 (by decide) rfl) rfl (by omega) (by omega) rfl dX5_firstOf_116 ?_
                  refine q_lcmp_ne (tgt := 137) X (hP.tok 34 (((C 38 k 0)).toNat) 0 rfl) (hP.tok 34 (((C 38 (((m_first C a r0 b0 k)).toNat) 0)).toNat) 0 rfl) dX5_firstOf_117 dX5_firstOf_118 (by decide) (fun h_44 => ?_) (fun h_44 => ?_)
                  · refine lv_iconst (v := iI (0)) X.1 X.2.1 dX5_firstOf_137 rfl ?_
                    refine lv_istore (lv' := [(7, .int (iI (0))), (6, .int (iI (C 38 k 0))), (5, .int (iI ((k : Nat) : Int))), (4, .int (iI (m_first C a r0 b0 k))), (0, .ref (ad 5 0)), (1, .int (iI a)), (2, .int (iI r0)), (3, .int (iI b0))]) X.1 X.2.1 dX5_firstOf_138 hl (by decide) rfl (fun ls hl => ?_)
                    refine lv_iload X.1 X.2.1 dX5_firstOf_140 (lv_at hl 0 rfl) ?_
                    refine q_if_eq (tgt := 150) X (by decide) dX5_firstOf_142 (by decide) (fun _ => ?_) (fun h => absurd h (by decide))
                    refine lv_iload X.1 X.2.1 dX5_firstOf_150 (lv_at hl 3 rfl) ?_
                    refine lv_istore (lv' := [(4, .int (iI (m_first C a r0 b0 k))), (7, .int (iI (0))), (6, .int (iI (C 38 k 0))), (5, .int (iI ((k : Nat) : Int))), (0, .ref (ad 5 0)), (1, .int (iI a)), (2, .int (iI r0)), (3, .int (iI b0))]) X.1 X.2.1 dX5_firstOf_152 hl (by decide) rfl (fun ls hl => ?_)
                    refine q_iinc (lv' := [(5, .int (iI (((k : Nat) : Int) + 1))), (4, .int (iI (m_first C a r0 b0 k))), (7, .int (iI (0))), (6, .int (iI (C 38 k 0))), (0, .ref (ad 5 0)), (1, .int (iI a)), (2, .int (iI r0)), (3, .int (iI b0))]) (k := 3) X dX5_firstOf_154 hl rfl (by decide) rfl (fun ls hl => ?_)
                    refine lv_goto (tgt := 6) X.1 X.2.1 dX5_firstOf_157 (by decide) ?_
                    have e_46 : (((k : Nat) : Int) + 1) = (((k + 1) : Nat) : Int) := by omega
                    have e_47 : (m_first C a r0 b0 k) = (m_first C a r0 b0 (k + 1)) := by rw [m_first]; first | (rw [if_pos ⟨by assumption, by assumption, by omega, by unfold m_soon; omega⟩]; done) | (rw [if_neg (fun q => by obtain ⟨q1, q2, q3, q4⟩ := q; unfold m_soon at q4; first | contradiction | omega)]; done)
                    have hl : lv_has ls 8 [(5, .int (iI (((k + 1) : Nat) : Int))), (4, .int (iI (m_first C a r0 b0 (k + 1)))), (0, .ref (ad 5 0)), (1, .int (iI a)), (2, .int (iI r0)), (3, .int (iI b0))] := lv_cong (show lv_has ls 8 [(5, .int (iI (((k : Nat) : Int) + 1))), (4, .int (iI (m_first C a r0 b0 k))), (0, .ref (ad 5 0)), (1, .int (iI a)), (2, .int (iI r0)), (3, .int (iI b0))] from lv_sub hl [0, 1, 4, 5, 6, 7] rfl) (lv_cs (congrArg (fun z => Value.int (iI z)) e_46) (lv_cs (congrArg (fun z => Value.int (iI z)) e_47) (lv_cs rfl (lv_cs rfl (lv_cs rfl (lv_cs rfl rfl))))))
                    exact ih (k + 1) H locs ls (by omega) (by omega) hP hS hl
                  · refine lv_iload X.1 X.2.1 dX5_firstOf_121 (lv_at hl 0 rfl) ?_
                    refine lv_aload_n X.1 X.2.1 dX5_firstOf_123 rfl (lv_at hl 3 rfl) ?_
                    refine q_get (index := 51) (v := .ref (ad 38 0)) X hP 5 18 0 rfl rfl (by decide) in5 (m_v5 hM) (by decide) (by decide +kernel) (m_r hM ad 18 38 (by decide)) dX5_firstOf_124 ?_
                    refine lv_iload X.1 X.2.1 dX5_firstOf_127 (lv_at hl 2 rfl) ?_
                    refine q_ildv (len := 4200) (v := (C 38 (((m_first C a r0 b0 k)).toNat) 0)) X hP 38 0 (by decide) rfl rfl (m_va hM 18 (by decide) rfl) rfl (by omega) (by omega) rfl dX5_firstOf_129 ?_
                    refine q_icmp_ge (tgt := 137) X (hP.tok 38 k 0 rfl) (hP.tok 38 (((m_first C a r0 b0 k)).toNat) 0 rfl) dX5_firstOf_130 (by decide) (fun h_48 => ?_) (fun h_48 => ?_)
                    · refine lv_iconst (v := iI (0)) X.1 X.2.1 dX5_firstOf_137 rfl ?_
                      refine lv_istore (lv' := [(7, .int (iI (0))), (6, .int (iI (C 38 k 0))), (5, .int (iI ((k : Nat) : Int))), (4, .int (iI (m_first C a r0 b0 k))), (0, .ref (ad 5 0)), (1, .int (iI a)), (2, .int (iI r0)), (3, .int (iI b0))]) X.1 X.2.1 dX5_firstOf_138 hl (by decide) rfl (fun ls hl => ?_)
                      refine lv_iload X.1 X.2.1 dX5_firstOf_140 (lv_at hl 0 rfl) ?_
                      refine q_if_eq (tgt := 150) X (by decide) dX5_firstOf_142 (by decide) (fun _ => ?_) (fun h => absurd h (by decide))
                      refine lv_iload X.1 X.2.1 dX5_firstOf_150 (lv_at hl 3 rfl) ?_
                      refine lv_istore (lv' := [(4, .int (iI (m_first C a r0 b0 k))), (7, .int (iI (0))), (6, .int (iI (C 38 k 0))), (5, .int (iI ((k : Nat) : Int))), (0, .ref (ad 5 0)), (1, .int (iI a)), (2, .int (iI r0)), (3, .int (iI b0))]) X.1 X.2.1 dX5_firstOf_152 hl (by decide) rfl (fun ls hl => ?_)
                      refine q_iinc (lv' := [(5, .int (iI (((k : Nat) : Int) + 1))), (4, .int (iI (m_first C a r0 b0 k))), (7, .int (iI (0))), (6, .int (iI (C 38 k 0))), (0, .ref (ad 5 0)), (1, .int (iI a)), (2, .int (iI r0)), (3, .int (iI b0))]) (k := 3) X dX5_firstOf_154 hl rfl (by decide) rfl (fun ls hl => ?_)
                      refine lv_goto (tgt := 6) X.1 X.2.1 dX5_firstOf_157 (by decide) ?_
                      have e_50 : (((k : Nat) : Int) + 1) = (((k + 1) : Nat) : Int) := by omega
                      have e_51 : (m_first C a r0 b0 k) = (m_first C a r0 b0 (k + 1)) := by rw [m_first]; first | (rw [if_pos ⟨by assumption, by assumption, by omega, by unfold m_soon; omega⟩]; done) | (rw [if_neg (fun q => by obtain ⟨q1, q2, q3, q4⟩ := q; unfold m_soon at q4; first | contradiction | omega)]; done)
                      have hl : lv_has ls 8 [(5, .int (iI (((k + 1) : Nat) : Int))), (4, .int (iI (m_first C a r0 b0 (k + 1)))), (0, .ref (ad 5 0)), (1, .int (iI a)), (2, .int (iI r0)), (3, .int (iI b0))] := lv_cong (show lv_has ls 8 [(5, .int (iI (((k : Nat) : Int) + 1))), (4, .int (iI (m_first C a r0 b0 k))), (0, .ref (ad 5 0)), (1, .int (iI a)), (2, .int (iI r0)), (3, .int (iI b0))] from lv_sub hl [0, 1, 4, 5, 6, 7] rfl) (lv_cs (congrArg (fun z => Value.int (iI z)) e_50) (lv_cs (congrArg (fun z => Value.int (iI z)) e_51) (lv_cs rfl (lv_cs rfl (lv_cs rfl (lv_cs rfl rfl))))))
                      exact ih (k + 1) H locs ls (by omega) (by omega) hP hS hl
                    · refine lv_iconst (v := iI (1)) X.1 X.2.1 dX5_firstOf_133 rfl ?_
                      refine lv_goto (tgt := 138) X.1 X.2.1 dX5_firstOf_134 (by decide) ?_
                      refine lv_istore (lv' := [(7, .int (iI (1))), (6, .int (iI (C 38 k 0))), (5, .int (iI ((k : Nat) : Int))), (4, .int (iI (m_first C a r0 b0 k))), (0, .ref (ad 5 0)), (1, .int (iI a)), (2, .int (iI r0)), (3, .int (iI b0))]) X.1 X.2.1 dX5_firstOf_138 hl (by decide) rfl (fun ls hl => ?_)
                      refine lv_iload X.1 X.2.1 dX5_firstOf_140 (lv_at hl 0 rfl) ?_
                      refine q_if_eq (tgt := 150) X (by decide) dX5_firstOf_142 (by decide) (fun h => absurd h (by decide)) (fun _ => ?_)
                      refine lv_iload X.1 X.2.1 dX5_firstOf_145 (lv_at hl 2 rfl) ?_
                      refine lv_goto (tgt := 152) X.1 X.2.1 dX5_firstOf_147 (by decide) ?_
                      refine lv_istore (lv' := [(4, .int (iI ((k : Nat) : Int))), (7, .int (iI (1))), (6, .int (iI (C 38 k 0))), (5, .int (iI ((k : Nat) : Int))), (0, .ref (ad 5 0)), (1, .int (iI a)), (2, .int (iI r0)), (3, .int (iI b0))]) X.1 X.2.1 dX5_firstOf_152 hl (by decide) rfl (fun ls hl => ?_)
                      refine q_iinc (lv' := [(5, .int (iI (((k : Nat) : Int) + 1))), (4, .int (iI ((k : Nat) : Int))), (7, .int (iI (1))), (6, .int (iI (C 38 k 0))), (0, .ref (ad 5 0)), (1, .int (iI a)), (2, .int (iI r0)), (3, .int (iI b0))]) (k := 3) X dX5_firstOf_154 hl rfl (by decide) rfl (fun ls hl => ?_)
                      refine lv_goto (tgt := 6) X.1 X.2.1 dX5_firstOf_157 (by decide) ?_
                      have e_53 : (((k : Nat) : Int) + 1) = (((k + 1) : Nat) : Int) := by omega
                      have e_54 : ((k : Nat) : Int) = (m_first C a r0 b0 (k + 1)) := by rw [m_first]; first | (rw [if_pos ⟨by assumption, by assumption, by omega, by unfold m_soon; omega⟩]; done) | (rw [if_neg (fun q => by obtain ⟨q1, q2, q3, q4⟩ := q; unfold m_soon at q4; first | contradiction | omega)]; done)
                      have hl : lv_has ls 8 [(5, .int (iI (((k + 1) : Nat) : Int))), (4, .int (iI (m_first C a r0 b0 (k + 1)))), (0, .ref (ad 5 0)), (1, .int (iI a)), (2, .int (iI r0)), (3, .int (iI b0))] := lv_cong (show lv_has ls 8 [(5, .int (iI (((k : Nat) : Int) + 1))), (4, .int (iI ((k : Nat) : Int))), (0, .ref (ad 5 0)), (1, .int (iI a)), (2, .int (iI r0)), (3, .int (iI b0))] from lv_sub hl [0, 1, 4, 5, 6, 7] rfl) (lv_cs (congrArg (fun z => Value.int (iI z)) e_53) (lv_cs (congrArg (fun z => Value.int (iI z)) e_54) (lv_cs rfl (lv_cs rfl (lv_cs rfl (lv_cs rfl rfl))))))
                      exact ih (k + 1) H locs ls (by omega) (by omega) hP hS hl
      · have hP : q_P g s0 n ad (C) H := q_back hB ht
        have h_4 : ¬ (m_may C k a) := h_4
        refine q_if_eq (tgt := 154) X (by decide) dX5_firstOf_22 (by decide) (fun _ => ?_) (fun h => absurd h (by decide))
        refine q_iinc (lv' := [(5, .int (iI (((k : Nat) : Int) + 1))), (4, .int (iI (m_first C a r0 b0 k))), (0, .ref (ad 5 0)), (1, .int (iI a)), (2, .int (iI r0)), (3, .int (iI b0))]) (k := 0) X dX5_firstOf_154 hl rfl (by decide) rfl (fun ls hl => ?_)
        refine lv_goto (tgt := 6) X.1 X.2.1 dX5_firstOf_157 (by decide) ?_
        have e_56 : (((k : Nat) : Int) + 1) = (((k + 1) : Nat) : Int) := by omega
        have e_57 : (m_first C a r0 b0 k) = (m_first C a r0 b0 (k + 1)) := by rw [m_first]; first | (rw [if_pos ⟨by assumption, by assumption, by omega, by unfold m_soon; omega⟩]; done) | (rw [if_neg (fun q => by obtain ⟨q1, q2, q3, q4⟩ := q; unfold m_soon at q4; first | contradiction | omega)]; done)
        have hl : lv_has ls 8 [(5, .int (iI (((k + 1) : Nat) : Int))), (4, .int (iI (m_first C a r0 b0 (k + 1)))), (0, .ref (ad 5 0)), (1, .int (iI a)), (2, .int (iI r0)), (3, .int (iI b0))] := lv_cong (show lv_has ls 8 [(5, .int (iI (((k : Nat) : Int) + 1))), (4, .int (iI (m_first C a r0 b0 k))), (0, .ref (ad 5 0)), (1, .int (iI a)), (2, .int (iI r0)), (3, .int (iI b0))] from lv_sub hl [0, 1, 2, 3, 4, 5] rfl) (lv_cs (congrArg (fun z => Value.int (iI z)) e_56) (lv_cs (congrArg (fun z => Value.int (iI z)) e_57) (lv_cs rfl (lv_cs rfl (lv_cs rfl (lv_cs rfl rfl))))))
        exact ih (k + 1) H locs ls (by omega) (by omega) hP hS hl
set_option maxHeartbeats 4000000 in
set_option maxRecDepth 100000 in
theorem c_X5_firstOf (l : Launch) (g : q_G) (s0 : Nat) (n : Nat → Nat) (ad : Nat → Nat → Nat) (C : q_S) (c0 : Nat) (hM : m_S C n) (hR : m_R C c0) (hc0 : c0 ≤ 600) (a : Int) (ha : 0 ≤ a ∧ a ≤ 8) (r0 : Int) (hr0 : R32 r0) (b0 : Int) (hb0 : b0 = 0 ∨ b0 = 1) : Met l yX5_firstOf wsX5_firstOf ({ frames := 2, cells := 0, slots := 0, locals := 45 }) (va_Pc [.ref (ad 5 0), .int (iI a), .int (iI r0), .int (iI b0)] (q_B g s0 (n, ad, C))) (va_Qi (fun r u => u = (n, ad, C) ∧ r = iI (m_first C a r0 b0 (C 5 17 0).toNat)) (q_B g s0) (q_A s0)) 0 0 (q_A s0) := by
  refine Met.ofW (cc := cX5_firstOf) (maxL := 8) (ret := (some .int)) (by decide) rfl ?_
  intro p e s m args below meth c s₁ B hml hv
  obtain ⟨rfl, hv⟩ := hv
  have hr := B.returns
  have hlocks := B.notSynchronized
  obtain ⟨X, hP⟩ := q_start B.exec B.bytes hml (show s.vm.findClass RX5 = some m.cls from findClass_of_methodNamed B.named) (atoms_spec (ws := wsX5_firstOf) B.pre) hv
  have hP : q_P g s0 n ad C s.heap := hP
  have hS : va_S (q_A s0) s.heap s.heap [] := va_S.rf
  have in5 : ∀ w ∈ wsX50, w ∈ wsX5_firstOf := by decide +kernel
  have hl := lv_entry ([.ref (ad 5 0), .int (iI a), .int (iI r0), .int (iI b0)]) (n := 8) (Nat.le_of_ble_eq_true rfl)
  rw [lg_entry_eq]
  generalize (lg_sl ([.ref (ad 5 0), .int (iI a), .int (iI r0), .int (iI b0)]) ++ List.replicate (8 - (lg_sl ([.ref (ad 5 0), .int (iI a), .int (iI r0), .int (iI b0)])).length) Slot.unset).toArray = ls at hl ⊢
  have hl : lv_has ls 8 [(0, .ref (ad 5 0)), (1, .int (iI a)), (2, .int (iI r0)), (3, .int (iI b0))] := hl
  refine lv_iconst (v := iI (-1)) X.1 X.2.1 dX5_firstOf_0 rfl ?_
  refine lv_istore (lv' := [(4, .int (iI (-1))), (0, .ref (ad 5 0)), (1, .int (iI a)), (2, .int (iI r0)), (3, .int (iI b0))]) X.1 X.2.1 dX5_firstOf_1 hl (by decide) rfl (fun ls hl => ?_)
  refine lv_iconst (v := iI (0)) X.1 X.2.1 dX5_firstOf_3 rfl ?_
  refine lv_istore (lv' := [(5, .int (iI (0))), (4, .int (iI (-1))), (0, .ref (ad 5 0)), (1, .int (iI a)), (2, .int (iI r0)), (3, .int (iI b0))]) X.1 X.2.1 dX5_firstOf_4 hl (by decide) rfl (fun ls hl => ?_)
  have e_1 : (0) = ((0 : Nat) : Int) := by rfl
  have e_2 : (-1) = (m_first C a r0 b0 0) := by rfl
  have hl : lv_has ls 8 [(5, .int (iI ((0 : Nat) : Int))), (4, .int (iI (m_first C a r0 b0 0))), (0, .ref (ad 5 0)), (1, .int (iI a)), (2, .int (iI r0)), (3, .int (iI b0))] := lv_cong (show lv_has ls 8 [(5, .int (iI (0))), (4, .int (iI (-1))), (0, .ref (ad 5 0)), (1, .int (iI a)), (2, .int (iI r0)), (3, .int (iI b0))] from lv_sub hl [0, 1, 2, 3, 4, 5] rfl) (lv_cs (congrArg (fun z => Value.int (iI z)) e_1) (lv_cs (congrArg (fun z => Value.int (iI z)) e_2) (lv_cs rfl (lv_cs rfl (lv_cs rfl (lv_cs rfl rfl))))))
  have f0 := m_Rk hR
  refine w_X5_firstOf X in5 c0 hM hR hc0 a ha r0 hr0 b0 hb0 (fun H locs ls hP hS hl => ?_) ((C 5 17 0).toNat + 1) 0 _ _ ls (by omega) (by omega) hP hS hl
  refine lv_iload X.1 X.2.1 dX5_firstOf_160 (lv_at hl 0 rfl) ?_
  exact q_iret X hr hlocks hP hS ⟨rfl, rfl⟩ (Nat.le_of_ble_eq_true rfl) (Nat.le_of_ble_eq_true rfl) dX5_firstOf_162
