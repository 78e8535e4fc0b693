/-! the model's scans -/
def m_prn (C : q_S) (j : Int) : Nat → Int
  | 0 => 0
  | k + 1 => if C 38 k 0 = j then (if ¬ m_prn C j k = 0 ∨ 0 < C 41 k 0 then 1 else 0) else m_prn C j k
def m_ovr (C : q_S) (j : Int) : Nat → Int
  | 0 => 1
  | k + 1 => if C 38 k 0 = j then (if ¬ m_ovr C j k = 0 ∧ m_over C k then 1 else 0) else m_ovr C j k
theorem m_prn_b (C : q_S) (j : Int) (k : Nat) : m_prn C j k = 0 ∨ m_prn C j k = 1 := by
  induction k with
  | zero => left; rfl
  | succ k ih => rw [m_prn]; split <;> (try split) <;> omega
theorem m_ovr_b (C : q_S) (j : Int) (k : Nat) : m_ovr C j k = 0 ∨ m_ovr C j k = 1 := by
  induction k with
  | zero => right; rfl
  | succ k ih => rw [m_ovr]; split <;> (try split) <;> omega
def m_st (C : q_S) (j : Int) : Int := if ¬ C 36 j.toNat 0 = 0 then 3 else if ¬ m_prn C j (C 5 17 0).toNat = 0 then 1 else if ¬ m_ovr C j (C 5 17 0).toNat = 0 then 2 else 0
def m_sum (C : q_S) (j w : Int) : Nat → Int
  | 0 => 0
  | k + 1 => if C 38 k 0 = j then m_sum C j w k + (if w = 1 then C 42 k 0 else if w = 2 then C 42 k 0 / C 32 j.toNat 0 else 1) else m_sum C j w k
def m_dn (C : q_S) (j : Int) : Nat → Int
  | 0 => 0
  | k + 1 => if C 46 k 0 = j then m_dn C j k + 1 else m_dn C j k
theorem m_dn_b (C : q_S) (j : Int) (k : Nat) : 0 ≤ m_dn C j k ∧ m_dn C j k ≤ k := by
  induction k with
  | zero => rw [m_dn]; omega
  | succ k ih => rw [m_dn]; split <;> omega
def m_dt (C : q_S) (j i : Int) : Nat → Int
  | 0 => -1
  | k + 1 => if C 46 k 0 = j ∧ m_dn C j k = i then C 47 k 0 else m_dt C j i k
theorem m_dt_r {g : q_G} {s0 : Nat} {n : Nat → Nat} {ad : Nat → Nat → Nat} {C : q_S} {H : Heap} (hP : q_P g s0 n ad C H) (j i : Int) (k : Nat) : R32 (m_dt C j i k) := by
  induction k with
  | zero => rw [m_dt]; decide
  | succ k ih =>
    rw [m_dt]
    have := hP.tok 47 k 0 (t := 0) rfl
    split
    · exact this
    · exact ih
/-- one turn of cancel's scan -/
def m_c1 (E : q_S) (j : Int) (k : Nat) : q_S := if E 38 k 0 = j ∧ ¬ m_over E k then (if 0 < E 41 k 0 then m_leave (q_up E 44 k 0 0) (E 41 k 0) else q_up E 44 k 0 0) else E
def m_cs (C : q_S) (j : Int) : Nat → q_S
  | 0 => C
  | k + 1 => m_c1 (m_cs C j k) j k
def m_cn (C : q_S) (j : Int) : Nat → Int
  | 0 => 0
  | k + 1 => if m_cs C j k 38 k 0 = j ∧ ¬ m_over (m_cs C j k) k then m_cn C j k + 1 else m_cn C j k
def m_any (C : q_S) (j : Int) : Nat → Int
  | 0 => 0
  | k + 1 => if ¬ m_any C j k = 0 ∨ (C 38 k 0 = j ∧ ¬ C 44 k 0 = 0) then 1 else 0
def m_fi (C : q_S) (k : Nat) (f : Int) : Nat → Int
  | 0 => f
  | q + 1 => if ¬ m_fi C k f q = 0 ∨ m_fits C k ((q : Int) + 1) then 1 else 0
def m_fr (C : q_S) (k : Nat) (f : Int) : Nat → Int
  | 0 => f
  | q + 1 => if ¬ m_fr C k f q = 0 ∨ (m_fits C k ((q : Int) + 1) ∧ C 25 (q + 1) 0 = -1) then 1 else 0
def m_fit (C : q_S) (j : Int) : Nat → Int
  | 0 => 0
  | k + 1 => if C 38 k 0 = j ∧ ¬ C 44 k 0 = 0 then m_fi C k (m_fit C j k) (C 5 1 0).toNat else m_fit C j k
def m_fre (C : q_S) (j : Int) : Nat → Int
  | 0 => 0
  | k + 1 => if C 38 k 0 = j ∧ ¬ C 44 k 0 = 0 then m_fr C k (m_fre C j k) (C 5 1 0).toNat else m_fre C j k
theorem m_any_b (C : q_S) (j : Int) (k : Nat) : m_any C j k = 0 ∨ m_any C j k = 1 := by
  cases k with
  | zero => left; rfl
  | succ k => rw [m_any]; split <;> omega
theorem m_fi_b (C : q_S) (k : Nat) {f : Int} (hf : f = 0 ∨ f = 1) (q : Nat) : m_fi C k f q = 0 ∨ m_fi C k f q = 1 := by
  cases q with
  | zero => exact hf
  | succ q => rw [m_fi]; split <;> omega
theorem m_fr_b (C : q_S) (k : Nat) {f : Int} (hf : f = 0 ∨ f = 1) (q : Nat) : m_fr C k f q = 0 ∨ m_fr C k f q = 1 := by
  cases q with
  | zero => exact hf
  | succ q => rw [m_fr]; split <;> omega
theorem m_fit_b (C : q_S) (j : Int) (k : Nat) : m_fit C j k = 0 ∨ m_fit C j k = 1 := by
  induction k with
  | zero => left; rfl
  | succ k ih =>
    rw [m_fit]
    split
    · exact m_fi_b C k ih _
    · exact ih
theorem m_fre_b (C : q_S) (j : Int) (k : Nat) : m_fre C j k = 0 ∨ m_fre C j k = 1 := by
  induction k with
  | zero => left; rfl
  | succ k ih =>
    rw [m_fre]
    split
    · exact m_fr_b C k ih _
    · exact ih
def m_beg (C : q_S) (k : Nat) : Int := if C 42 k 0 / C 32 (C 38 k 0).toNat 0 * C 32 (C 38 k 0).toNat 0 < C 42 k 0 then C 42 k 0 / C 32 (C 38 k 0).toNat 0 + 1 else C 42 k 0 / C 32 (C 38 k 0).toNat 0
abbrev m_spl (C : q_S) (j d : Int) (k : Nat) : Prop := C 38 k 0 = j ∧ C 40 k 0 = 0 ∧ ¬ C 44 k 0 = 0 ∧ d < C 39 k 0 - m_beg C k
def m_spf (C : q_S) (j d : Int) : Nat → Nat
  | 0 => 0
  | k + 1 => if m_spf C j d k < k then m_spf C j d k else if m_spl C j d k then k else k + 1
theorem m_spf_le (C : q_S) (j d : Int) (k : Nat) : m_spf C j d k ≤ k := by
  induction k with
  | zero => exact Nat.le_refl 0
  | succ k ih => rw [m_spf]; split <;> (try split) <;> omega
theorem m_spf_st (C : q_S) (j d : Int) {k : Nat} (h : m_spf C j d k < k) : ∀ i, m_spf C j d (k + i) = m_spf C j d k := by
  intro i
  induction i with
  | zero => rfl
  | succ i ih => rw [← Nat.add_assoc, m_spf, ih, if_pos (by omega)]
theorem m_spf_y (C : q_S) (j d : Int) {k : Nat} (h : m_spf C j d k < k) : m_spl C j d (m_spf C j d k) := by
  induction k with
  | zero => omega
  | succ k ih =>
    rw [m_spf] at h ⊢
    by_cases h1 : m_spf C j d k < k
    · rw [if_pos h1] at h ⊢
      exact ih h1
    · rw [if_neg h1] at h ⊢
      by_cases h2 : m_spl C j d k
      · rw [if_pos h2]; exact h2
      · rw [if_neg h2] at h; omega
theorem m_dm {a b : Int} (h : 0 ≤ a ∧ a ≤ 50000) (hb : 1 ≤ b) : 0 ≤ a / b * b ∧ a / b * b ≤ a := by
  have h1 := Int.emod_add_ediv_mul a b
  have h2 := m_md (a := a) hb
  have h3 := Int.mul_nonneg (Int.ediv_nonneg h.1 (show 0 ≤ b by omega)) (show 0 ≤ b by omega)
  omega
theorem m_beg_b {C : q_S} {c0 : Nat} (hR : m_R C c0) (k : Nat) (hp : 1 ≤ C 32 (C 38 k 0).toNat 0) : 0 ≤ m_beg C k ∧ m_beg C k ≤ 50001 := by
  have h := m_dv (m_R42 hR k) hp
  unfold m_beg
  split <;> omega
theorem m_st_r (C : q_S) (j : Int) : R32 (m_st C j) := by
  unfold m_st
  split
  · decide
  · split
    · decide
    · split <;> decide
theorem m_pj {C : q_S} {c0 : Nat} (hR : m_R C c0) (j : Int) (h1 : 1 ≤ j) (h2 : j ≤ C 5 10 0) : 1 ≤ C 32 j.toNat 0 := (hR.2.2.2.2.2.2.2.2.2.2.2.2.2.2.2.2.2.2.2.1 j.toNat (by omega) (by omega)).2.2
theorem m_dn_up (C : q_S) (j : Int) (k : Nat) (x : Int) : m_dn (q_up C 5 0 0 x) j k = m_dn C j k := by
  induction k with
  | zero => rfl
  | succ k ih => rw [m_dn, m_dn, ih]; rfl
theorem m_dt_up {C : q_S} {j i : Int} {k : Nat} {x : Int} (h : R32 (m_dt (q_up C 5 0 0 x) j i k)) : R32 (m_dt C j i k) := by
  have e : m_dt (q_up C 5 0 0 x) j i k = m_dt C j i k := by
    clear h
    induction k with
    | zero => rfl
    | succ k ih => rw [m_dt, m_dt, ih, m_dn_up]; rfl
  rw [← e]; exact h
set_option maxHeartbeats 4000000 in
set_option maxRecDepth 100000 in
theorem w_X5_stateOf {p : Program} {l : Launch} {e : Env} {s : State} {m : MethodId} {args : Array Value} {below : List Frame} {meth : Method} {c : Code} {Q : State → Prop} {g : q_G} {s0 : Nat} {n : Nat → Nat} {ad : Nat → Nat → Nat} {C : q_S} (X : q_X p s m args c cX5_stateOf 5 wsX5_stateOf RX5 g s0) (in5 : ∀ w ∈ wsX50, w ∈ wsX5_stateOf) (c0 : Nat) (hM : m_S C n) (hR : m_R C c0) (hc0 : c0 ≤ 600) (a : Int) (ha : R32 a) (kx : ∀  (H : Heap) (locs : List Loc) (ls : Array Slot), q_P g s0 n ad C H → va_S (q_A s0) s.heap H locs → lv_has ls 5 [(2, .int (iI (m_prn C a (C 5 17 0).toNat))), (3, .int (iI (m_ovr C a (C 5 17 0).toNat))), (0, .ref (ad 5 0)), (1, .int (iI a))] → W p l e ({ frames := 1, cells := 0, slots := 0, locals := 21 }) s m args below meth c H locs 0 0 Q (F0 m 83 ls [])) :
    ∀ (N : Nat) (k : Nat) (H : Heap) (locs : List Loc) (ls : Array Slot), (C 5 17 0 < (k : Int) + N) → ((k : Int) ≤ C 5 17 0) → q_P g s0 n ad C H → va_S (q_A s0) s.heap H locs → lv_has ls 5 [(4, .int (iI ((k : Nat) : Int))), (2, .int (iI (m_prn C a k))), (3, .int (iI (m_ovr C a k))), (0, .ref (ad 5 0)), (1, .int (iI a))] → W p l e ({ frames := 1, cells := 0, slots := 0, locals := 21 }) s m args below meth c H locs 0 0 Q (F0 m 18 ls []) := by
  intro N
  induction N with
  | zero =>
    intro k H locs ls h1 h2 hP hS hl
    exact absurd h1 (by omega)
  | succ N ih =>
    intro k H locs ls h1 h2 hP hS hl
    have f0 := m_Rk hR
    refine lv_iload X.1 X.2.1 dX5_stateOf_18 (lv_at hl 0 rfl) ?_
    refine lv_aload_n X.1 X.2.1 dX5_stateOf_20 rfl (lv_at hl 3 rfl) ?_
    refine q_get (index := 101) (v := .int (iI (C 5 17 0))) X hP 5 17 0 rfl rfl (by decide) in5 (m_v5 hM) (by decide) (by decide +kernel) rfl dX5_stateOf_21 ?_
    have f_1 := m_Rk hR
    refine q_icmp_ge (tgt := 83) X (by omega) (hP.tok 5 17 0 rfl) dX5_stateOf_24 (by decide) (fun h_2 => ?_) (fun h_2 => ?_)
    · have ek : k = (C 5 17 0).toNat := by omega
      have e_3 : (m_prn C a k) = (m_prn C a (C 5 17 0).toNat) := by rw [ek]
      have e_4 : (m_ovr C a k) = (m_ovr C a (C 5 17 0).toNat) := by rw [ek]
      have hl : lv_has ls 5 [(2, .int (iI (m_prn C a (C 5 17 0).toNat))), (3, .int (iI (m_ovr C a (C 5 17 0).toNat))), (0, .ref (ad 5 0)), (1, .int (iI a))] := lv_cong (show lv_has ls 5 [(2, .int (iI (m_prn C a k))), (3, .int (iI (m_ovr C a k))), (0, .ref (ad 5 0)), (1, .int (iI a))] from lv_sub hl [1, 2, 3, 4] rfl) (lv_cs (congrArg (fun z => Value.int (iI z)) e_3) (lv_cs (congrArg (fun z => Value.int (iI z)) e_4) (lv_cs rfl (lv_cs rfl rfl))))
      exact kx _ _ ls hP hS hl
    · refine lv_aload_n X.1 X.2.1 dX5_stateOf_27 rfl (lv_at hl 3 rfl) ?_
      refine q_get (index := 51) (v := .ref (ad 38 0)) X hP 5 18 0 rfl rfl (by decide) in5 (m_v5 hM) (by decide) (by decide +kernel) (m_r hM ad 18 38 (by decide)) dX5_stateOf_28 ?_
      refine lv_iload X.1 X.2.1 dX5_stateOf_31 (lv_at hl 0 rfl) ?_
      refine q_ildv (len := 4200) (v := (C 38 k 0)) X hP 38 0 (by decide) rfl rfl (m_va hM 18 (by decide) rfl) rfl (by omega) (by omega) rfl dX5_stateOf_33 ?_
      have f_5 := m_R38 hR k
      refine lv_iload_n X.1 X.2.1 dX5_stateOf_34 rfl (lv_at hl 4 rfl) ?_
      refine q_icmp_ne (tgt := 77) X (hP.tok 38 k 0 rfl) ha dX5_stateOf_35 (by decide) (fun h_6 => ?_) (fun h_6 => ?_)
      · refine q_iinc (lv' := [(4, .int (iI (((k : Nat) : Int) + 1))), (2, .int (iI (m_prn C a k))), (3, .int (iI (m_ovr C a k))), (0, .ref (ad 5 0)), (1, .int (iI a))]) (k := 0) X dX5_stateOf_77 hl rfl (by decide) rfl (fun ls hl => ?_)
        refine lv_goto (tgt := 18) X.1 X.2.1 dX5_stateOf_80 (by decide) ?_
        have e_7 : (((k : Nat) : Int) + 1) = (((k + 1) : Nat) : Int) := by omega
        have e_8 : (m_prn C a k) = (m_prn C a (k + 1)) := by rw [m_prn]; first | (rw [if_neg (by assumption)]; done) | (rw [if_pos (by assumption)]; first | (rw [if_pos (by omega)]; done) | (rw [if_neg (by omega)]; done))
        have e_9 : (m_ovr C a k) = (m_ovr C a (k + 1)) := by rw [m_ovr]; first | (rw [if_neg (by assumption)]; done) | (rw [if_pos (by assumption)]; first | (rw [if_pos ⟨by omega, by assumption⟩]; done) | (rw [if_neg (fun q => by obtain ⟨q1, q2⟩ := q; first | contradiction | omega)]; done))
        have hl : lv_has ls 5 [(4, .int (iI (((k + 1) : Nat) : Int))), (2, .int (iI (m_prn C a (k + 1)))), (3, .int (iI (m_ovr C a (k + 1)))), (0, .ref (ad 5 0)), (1, .int (iI a))] := lv_cong (show lv_has ls 5 [(4, .int (iI (((k : Nat) : Int) + 1))), (2, .int (iI (m_prn C a k))), (3, .int (iI (m_ovr C a k))), (0, .ref (ad 5 0)), (1, .int (iI a))] from lv_sub hl [0, 1, 2, 3, 4] rfl) (lv_cs (congrArg (fun z => Value.int (iI z)) e_7) (lv_cs (congrArg (fun z => Value.int (iI z)) e_8) (lv_cs (congrArg (fun z => Value.int (iI z)) e_9) (lv_cs rfl (lv_cs rfl rfl)))))
        exact ih (k + 1) _ _ ls (by omega) (by omega) hP hS hl
      · refine lv_iload_n X.1 X.2.1 dX5_stateOf_38 rfl (lv_at hl 1 rfl) ?_
        refine q_if_ne (tgt := 52) X (q_b32 (m_prn_b C a k)) dX5_stateOf_39 (by decide) (fun h_10 => ?_) (fun h_10 => ?_)
        · refine lv_iconst (v := iI (1)) X.1 X.2.1 dX5_stateOf_52 rfl ?_
          refine lv_goto (tgt := 57) X.1 X.2.1 dX5_stateOf_53 (by decide) ?_
          refine lv_istore_n (lv' := [(2, .int (iI (1))), (4, .int (iI ((k : Nat) : Int))), (3, .int (iI (m_ovr C a k))), (0, .ref (ad 5 0)), (1, .int (iI a))]) X.1 X.2.1 dX5_stateOf_57 rfl hl (by decide) rfl (fun ls hl => ?_)
          refine lv_iload_n X.1 X.2.1 dX5_stateOf_58 rfl (lv_at hl 2 rfl) ?_
          refine q_if_eq (tgt := 75) X (q_b32 (m_ovr_b C a k)) dX5_stateOf_59 (by decide) (fun h_11 => ?_) (fun h_11 => ?_)
          · refine lv_iconst (v := iI (0)) X.1 X.2.1 dX5_stateOf_75 rfl ?_
            refine lv_istore_n (lv' := [(3, .int (iI (0))), (2, .int (iI (1))), (4, .int (iI ((k : Nat) : Int))), (0, .ref (ad 5 0)), (1, .int (iI a))]) X.1 X.2.1 dX5_stateOf_76 rfl hl (by decide) rfl (fun ls hl => ?_)
            refine q_iinc (lv' := [(4, .int (iI (((k : Nat) : Int) + 1))), (3, .int (iI (0))), (2, .int (iI (1))), (0, .ref (ad 5 0)), (1, .int (iI a))]) (k := 2) X dX5_stateOf_77 hl rfl (by decide) rfl (fun ls hl => ?_)
            refine lv_goto (tgt := 18) X.1 X.2.1 dX5_stateOf_80 (by decide) ?_
            have e_12 : (((k : Nat) : Int) + 1) = (((k + 1) : Nat) : Int) := by omega
            have e_13 : (1) = (m_prn C a (k + 1)) := by rw [m_prn]; first | (rw [if_neg (by assumption)]; done) | (rw [if_pos (by assumption)]; first | (rw [if_pos (by omega)]; done) | (rw [if_neg (by omega)]; done))
            have e_14 : (0) = (m_ovr C a (k + 1)) := by rw [m_ovr]; first | (rw [if_neg (by assumption)]; done) | (rw [if_pos (by assumption)]; first | (rw [if_pos ⟨by omega, by assumption⟩]; done) | (rw [if_neg (fun q => by obtain ⟨q1, q2⟩ := q; first | contradiction | omega)]; done))
            have hl : lv_has ls 5 [(4, .int (iI (((k + 1) : Nat) : Int))), (2, .int (iI (m_prn C a (k + 1)))), (3, .int (iI (m_ovr C a (k + 1)))), (0, .ref (ad 5 0)), (1, .int (iI a))] := lv_cong (show lv_has ls 5 [(4, .int (iI (((k : Nat) : Int) + 1))), (2, .int (iI (1))), (3, .int (iI (0))), (0, .ref (ad 5 0)), (1, .int (iI a))] from lv_sub hl [0, 2, 1, 3, 4] rfl) (lv_cs (congrArg (fun z => Value.int (iI z)) e_12) (lv_cs (congrArg (fun z => Value.int (iI z)) e_13) (lv_cs (congrArg (fun z => Value.int (iI z)) e_14) (lv_cs rfl (lv_cs rfl rfl)))))
            exact ih (k + 1) _ _ ls (by omega) (by omega) hP hS hl
          · refine lv_aload_n X.1 X.2.1 dX5_stateOf_62 rfl (lv_at hl 3 rfl) ?_
            refine lv_iload X.1 X.2.1 dX5_stateOf_63 (lv_at hl 1 rfl) ?_
            refine va_calli (va_runV (As := [.int (iI ((k : Nat) : Int))]) (rest := []) X.fix (c_X5_isOver l g s0 n ad C hM k (by omega) (m_R38 hR _) (m_R39 hR _) (m_R32 hR _)) (cwV 1 X.2.2.2.2.1 gX5_stateOf_X5_isOver rfl rfl rfl (by decide +kernel) ⟨Nat.le_of_ble_eq_true rfl, Nat.le_of_ble_eq_true rfl⟩) (q_preV X hP hS [.int (iI ((k : Nat) : Int))] (kd := 5) (by decide) rfl (m_v5 hM)) rfl rfl hl.1 rfl (lv_room (Nat.le_of_ble_eq_true rfl)) dX5_stateOf_65 ⟨Nat.le_of_ble_eq_true rfl, Nat.le_of_ble_eq_true rfl⟩) hS q_id q_id1 (fun r u t H locs ht hvm hw hB hz1 hk1 hS => ?_)
            obtain ⟨rfl, ⟨h_15, rfl⟩ | ⟨h_15, rfl⟩⟩ := hw
            · have hP : q_P g s0 n ad (C) H := q_back hB ht
              have h_15 : m_over C k := h_15
              refine q_if_eq (tgt := 75) X (by decide) dX5_stateOf_68 (by decide) (fun h => absurd h (by decide)) (fun _ => ?_)
              refine lv_iconst (v := iI (1)) X.1 X.2.1 dX5_stateOf_71 rfl ?_
              refine lv_goto (tgt := 76) X.1 X.2.1 dX5_stateOf_72 (by decide) ?_
              refine lv_istore_n (lv' := [(3, .int (iI (1))), (2, .int (iI (1))), (4, .int (iI ((k : Nat) : Int))), (0, .ref (ad 5 0)), (1, .int (iI a))]) X.1 X.2.1 dX5_stateOf_76 rfl hl (by decide) rfl (fun ls hl => ?_)
              refine q_iinc (lv' := [(4, .int (iI (((k : Nat) : Int) + 1))), (3, .int (iI (1))), (2, .int (iI (1))), (0, .ref (ad 5 0)), (1, .int (iI a))]) (k := 2) X dX5_stateOf_77 hl rfl (by decide) rfl (fun ls hl => ?_)
              refine lv_goto (tgt := 18) X.1 X.2.1 dX5_stateOf_80 (by decide) ?_
              have e_17 : (((k : Nat) : Int) + 1) = (((k + 1) : Nat) : Int) := by omega
              have e_18 : (1) = (m_prn C a (k + 1)) := by rw [m_prn]; first | (rw [if_neg (by assumption)]; done) | (rw [if_pos (by assumption)]; first | (rw [if_pos (by omega)]; done) | (rw [if_neg (by omega)]; done))
              have e_19 : (1) = (m_ovr C a (k + 1)) := by rw [m_ovr]; first | (rw [if_neg (by assumption)]; done) | (rw [if_pos (by assumption)]; first | (rw [if_pos ⟨by omega, by assumption⟩]; done) | (rw [if_neg (fun q => by obtain ⟨q1, q2⟩ := q; first | contradiction | omega)]; done))
              have hl : lv_has ls 5 [(4, .int (iI (((k + 1) : Nat) : Int))), (2, .int (iI (m_prn C a (k + 1)))), (3, .int (iI (m_ovr C a (k + 1)))), (0, .ref (ad 5 0)), (1, .int (iI a))] := lv_cong (show lv_has ls 5 [(4, .int (iI (((k : Nat) : Int) + 1))), (2, .int (iI (1))), (3, .int (iI (1))), (0, .ref (ad 5 0)), (1, .int (iI a))] from lv_sub hl [0, 2, 1, 3, 4] rfl) (lv_cs (congrArg (fun z => Value.int (iI z)) e_17) (lv_cs (congrArg (fun z => Value.int (iI z)) e_18) (lv_cs (congrArg (fun z => Value.int (iI z)) e_19) (lv_cs rfl (lv_cs rfl rfl)))))
              exact ih (k + 1) _ _ ls (by omega) (by omega) hP hS hl
            · have hP : q_P g s0 n ad (C) H := q_back hB ht
              have h_15 : ¬ (m_over C k) := h_15
              refine q_if_eq (tgt := 75) X (by decide) dX5_stateOf_68 (by decide) (fun _ => ?_) (fun h => absurd h (by decide))
              refine lv_iconst (v := iI (0)) X.1 X.2.1 dX5_stateOf_75 rfl ?_
              refine lv_istore_n (lv' := [(3, .int (iI (0))), (2, .int (iI (1))), (4, .int (iI ((k : Nat) : Int))), (0, .ref (ad 5 0)), (1, .int (iI a))]) X.1 X.2.1 dX5_stateOf_76 rfl hl (by decide) rfl (fun ls hl => ?_)
              refine q_iinc (lv' := [(4, .int (iI (((k : Nat) : Int) + 1))), (3, .int (iI (0))), (2, .int (iI (1))), (0, .ref (ad 5 0)), (1, .int (iI a))]) (k := 2) X dX5_stateOf_77 hl rfl (by decide) rfl (fun ls hl => ?_)
              refine lv_goto (tgt := 18) X.1 X.2.1 dX5_stateOf_80 (by decide) ?_
              have e_21 : (((k : Nat) : Int) + 1) = (((k + 1) : Nat) : Int) := by omega
              have e_22 : (1) = (m_prn C a (k + 1)) := by rw [m_prn]; first | (rw [if_neg (by assumption)]; done) | (rw [if_pos (by assumption)]; first | (rw [if_pos (by omega)]; done) | (rw [if_neg (by omega)]; done))
              have e_23 : (0) = (m_ovr C a (k + 1)) := by rw [m_ovr]; first | (rw [if_neg (by assumption)]; done) | (rw [if_pos (by assumption)]; first | (rw [if_pos ⟨by omega, by assumption⟩]; done) | (rw [if_neg (fun q => by obtain ⟨q1, q2⟩ := q; first | contradiction | omega)]; done))
              have hl : lv_has ls 5 [(4, .int (iI (((k + 1) : Nat) : Int))), (2, .int (iI (m_prn C a (k + 1)))), (3, .int (iI (m_ovr C a (k + 1)))), (0, .ref (ad 5 0)), (1, .int (iI a))] := lv_cong (show lv_has ls 5 [(4, .int (iI (((k : Nat) : Int) + 1))), (2, .int (iI (1))), (3, .int (iI (0))), (0, .ref (ad 5 0)), (1, .int (iI a))] from lv_sub hl [0, 2, 1, 3, 4] rfl) (lv_cs (congrArg (fun z => Value.int (iI z)) e_21) (lv_cs (congrArg (fun z => Value.int (iI z)) e_22) (lv_cs (congrArg (fun z => Value.int (iI z)) e_23) (lv_cs rfl (lv_cs rfl rfl)))))
              exact ih (k + 1) _ _ ls (by omega) (by omega) hP hS hl
        · refine lv_aload_n X.1 X.2.1 dX5_stateOf_42 rfl (lv_at hl 3 rfl) ?_
          refine q_get (index := 60) (v := .ref (ad 41 0)) X hP 5 21 0 rfl rfl (by decide) in5 (m_v5 hM) (by decide) (by decide +kernel) (m_r hM ad 21 41 (by decide)) dX5_stateOf_43 ?_
          refine lv_iload X.1 X.2.1 dX5_stateOf_46 (lv_at hl 0 rfl) ?_
          refine q_ildv (len := 4200) (v := (C 41 k 0)) X hP 41 0 (by decide) rfl rfl (m_va hM 21 (by decide) rfl) rfl (by omega) (by omega) rfl dX5_stateOf_48 ?_
          have f_24 := m_R41 hR k
          refine q_if_le (tgt := 56) X (hP.tok 41 k 0 rfl) dX5_stateOf_49 (by decide) (fun h_25 => ?_) (fun h_25 => ?_)
          · refine lv_iconst (v := iI (0)) X.1 X.2.1 dX5_stateOf_56 rfl ?_
            refine lv_istore_n (lv' := [(2, .int (iI (0))), (4, .int (iI ((k : Nat) : Int))), (3, .int (iI (m_ovr C a k))), (0, .ref (ad 5 0)), (1, .int (iI a))]) X.1 X.2.1 dX5_stateOf_57 rfl hl (by decide) rfl (fun ls hl => ?_)
            refine lv_iload_n X.1 X.2.1 dX5_stateOf_58 rfl (lv_at hl 2 rfl) ?_
            refine q_if_eq (tgt := 75) X (q_b32 (m_ovr_b C a k)) dX5_stateOf_59 (by decide) (fun h_26 => ?_) (fun h_26 => ?_)
            · refine lv_iconst (v := iI (0)) X.1 X.2.1 dX5_stateOf_75 rfl ?_
              refine lv_istore_n (lv' := [(3, .int (iI (0))), (2, .int (iI (0))), (4, .int (iI ((k : Nat) : Int))), (0, .ref (ad 5 0)), (1, .int (iI a))]) X.1 X.2.1 dX5_stateOf_76 rfl hl (by decide) rfl (fun ls hl => ?_)
              refine q_iinc (lv' := [(4, .int (iI (((k : Nat) : Int) + 1))), (3, .int (iI (0))), (2, .int (iI (0))), (0, .ref (ad 5 0)), (1, .int (iI a))]) (k := 2) X dX5_stateOf_77 hl rfl (by decide) rfl (fun ls hl => ?_)
              refine lv_goto (tgt := 18) X.1 X.2.1 dX5_stateOf_80 (by decide) ?_
              have e_27 : (((k : Nat) : Int) + 1) = (((k + 1) : Nat) : Int) := by omega
              have e_28 : (0) = (m_prn C a (k + 1)) := by rw [m_prn]; first | (rw [if_neg (by assumption)]; done) | (rw [if_pos (by assumption)]; first | (rw [if_pos (by omega)]; done) | (rw [if_neg (by omega)]; done))
              have e_29 : (0) = (m_ovr C a (k + 1)) := by rw [m_ovr]; first | (rw [if_neg (by assumption)]; done) | (rw [if_pos (by assumption)]; first | (rw [if_pos ⟨by omega, by assumption⟩]; done) | (rw [if_neg (fun q => by obtain ⟨q1, q2⟩ := q; first | contradiction | omega)]; done))
              have hl : lv_has ls 5 [(4, .int (iI (((k + 1) : Nat) : Int))), (2, .int (iI (m_prn C a (k + 1)))), (3, .int (iI (m_ovr C a (k + 1)))), (0, .ref (ad 5 0)), (1, .int (iI a))] := lv_cong (show lv_has ls 5 [(4, .int (iI (((k : Nat) : Int) + 1))), (2, .int (iI (0))), (3, .int (iI (0))), (0, .ref (ad 5 0)), (1, .int (iI a))] from lv_sub hl [0, 2, 1, 3, 4] rfl) (lv_cs (congrArg (fun z => Value.int (iI z)) e_27) (lv_cs (congrArg (fun z => Value.int (iI z)) e_28) (lv_cs (congrArg (fun z => Value.int (iI z)) e_29) (lv_cs rfl (lv_cs rfl rfl)))))
              exact ih (k + 1) _ _ ls (by omega) (by omega) hP hS hl
            · refine lv_aload_n X.1 X.2.1 dX5_stateOf_62 rfl (lv_at hl 3 rfl) ?_
              refine lv_iload X.1 X.2.1 dX5_stateOf_63 (lv_at hl 1 rfl) ?_
              refine va_calli (va_runV (As := [.int (iI ((k : Nat) : Int))]) (rest := []) X.fix (c_X5_isOver l g s0 n ad C hM k (by omega) (m_R38 hR _) (m_R39 hR _) (m_R32 hR _)) (cwV 1 X.2.2.2.2.1 gX5_stateOf_X5_isOver rfl rfl rfl (by decide +kernel) ⟨Nat.le_of_ble_eq_true rfl, Nat.le_of_ble_eq_true rfl⟩) (q_preV X hP hS [.int (iI ((k : Nat) : Int))] (kd := 5) (by decide) rfl (m_v5 hM)) rfl rfl hl.1 rfl (lv_room (Nat.le_of_ble_eq_true rfl)) dX5_stateOf_65 ⟨Nat.le_of_ble_eq_true rfl, Nat.le_of_ble_eq_true rfl⟩) hS q_id q_id1 (fun r u t H locs ht hvm hw hB hz1 hk1 hS => ?_)
              obtain ⟨rfl, ⟨h_30, rfl⟩ | ⟨h_30, rfl⟩⟩ := hw
              · have hP : q_P g s0 n ad (C) H := q_back hB ht
                have h_30 : m_over C k := h_30
                refine q_if_eq (tgt := 75) X (by decide) dX5_stateOf_68 (by decide) (fun h => absurd h (by decide)) (fun _ => ?_)
                refine lv_iconst (v := iI (1)) X.1 X.2.1 dX5_stateOf_71 rfl ?_
                refine lv_goto (tgt := 76) X.1 X.2.1 dX5_stateOf_72 (by decide) ?_
                refine lv_istore_n (lv' := [(3, .int (iI (1))), (2, .int (iI (0))), (4, .int (iI ((k : Nat) : Int))), (0, .ref (ad 5 0)), (1, .int (iI a))]) X.1 X.2.1 dX5_stateOf_76 rfl hl (by decide) rfl (fun ls hl => ?_)
                refine q_iinc (lv' := [(4, .int (iI (((k : Nat) : Int) + 1))), (3, .int (iI (1))), (2, .int (iI (0))), (0, .ref (ad 5 0)), (1, .int (iI a))]) (k := 2) X dX5_stateOf_77 hl rfl (by decide) rfl (fun ls hl => ?_)
                refine lv_goto (tgt := 18) X.1 X.2.1 dX5_stateOf_80 (by decide) ?_
                have e_32 : (((k : Nat) : Int) + 1) = (((k + 1) : Nat) : Int) := by omega
                have e_33 : (0) = (m_prn C a (k + 1)) := by rw [m_prn]; first | (rw [if_neg (by assumption)]; done) | (rw [if_pos (by assumption)]; first | (rw [if_pos (by omega)]; done) | (rw [if_neg (by omega)]; done))
                have e_34 : (1) = (m_ovr C a (k + 1)) := by rw [m_ovr]; first | (rw [if_neg (by assumption)]; done) | (rw [if_pos (by assumption)]; first | (rw [if_pos ⟨by omega, by assumption⟩]; done) | (rw [if_neg (fun q => by obtain ⟨q1, q2⟩ := q; first | contradiction | omega)]; done))
                have hl : lv_has ls 5 [(4, .int (iI (((k + 1) : Nat) : Int))), (2, .int (iI (m_prn C a (k + 1)))), (3, .int (iI (m_ovr C a (k + 1)))), (0, .ref (ad 5 0)), (1, .int (iI a))] := lv_cong (show lv_has ls 5 [(4, .int (iI (((k : Nat) : Int) + 1))), (2, .int (iI (0))), (3, .int (iI (1))), (0, .ref (ad 5 0)), (1, .int (iI a))] from lv_sub hl [0, 2, 1, 3, 4] rfl) (lv_cs (congrArg (fun z => Value.int (iI z)) e_32) (lv_cs (congrArg (fun z => Value.int (iI z)) e_33) (lv_cs (congrArg (fun z => Value.int (iI z)) e_34) (lv_cs rfl (lv_cs rfl rfl)))))
                exact ih (k + 1) _ _ ls (by omega) (by omega) hP hS hl
              · have hP : q_P g s0 n ad (C) H := q_back hB ht
                have h_30 : ¬ (m_over C k) := h_30
                refine q_if_eq (tgt := 75) X (by decide) dX5_stateOf_68 (by decide) (fun _ => ?_) (fun h => absurd h (by decide))
                refine lv_iconst (v := iI (0)) X.1 X.2.1 dX5_stateOf_75 rfl ?_
                refine lv_istore_n (lv' := [(3, .int (iI (0))), (2, .int (iI (0))), (4, .int (iI ((k : Nat) : Int))), (0, .ref (ad 5 0)), (1, .int (iI a))]) X.1 X.2.1 dX5_stateOf_76 rfl hl (by decide) rfl (fun ls hl => ?_)
                refine q_iinc (lv' := [(4, .int (iI (((k : Nat) : Int) + 1))), (3, .int (iI (0))), (2, .int (iI (0))), (0, .ref (ad 5 0)), (1, .int (iI a))]) (k := 2) X dX5_stateOf_77 hl rfl (by decide) rfl (fun ls hl => ?_)
                refine lv_goto (tgt := 18) X.1 X.2.1 dX5_stateOf_80 (by decide) ?_
                have e_36 : (((k : Nat) : Int) + 1) = (((k + 1) : Nat) : Int) := by omega
                have e_37 : (0) = (m_prn C a (k + 1)) := by rw [m_prn]; first | (rw [if_neg (by assumption)]; done) | (rw [if_pos (by assumption)]; first | (rw [if_pos (by omega)]; done) | (rw [if_neg (by omega)]; done))
                have e_38 : (0) = (m_ovr C a (k + 1)) := by rw [m_ovr]; first | (rw [if_neg (by assumption)]; done) | (rw [if_pos (by assumption)]; first | (rw [if_pos ⟨by omega, by assumption⟩]; done) | (rw [if_neg (fun q => by obtain ⟨q1, q2⟩ := q; first | contradiction | omega)]; done))
                have hl : lv_has ls 5 [(4, .int (iI (((k + 1) : Nat) : Int))), (2, .int (iI (m_prn C a (k + 1)))), (3, .int (iI (m_ovr C a (k + 1)))), (0, .ref (ad 5 0)), (1, .int (iI a))] := lv_cong (show lv_has ls 5 [(4, .int (iI (((k : Nat) : Int) + 1))), (2, .int (iI (0))), (3, .int (iI (0))), (0, .ref (ad 5 0)), (1, .int (iI a))] from lv_sub hl [0, 2, 1, 3, 4] rfl) (lv_cs (congrArg (fun z => Value.int (iI z)) e_36) (lv_cs (congrArg (fun z => Value.int (iI z)) e_37) (lv_cs (congrArg (fun z => Value.int (iI z)) e_38) (lv_cs rfl (lv_cs rfl rfl)))))
                exact ih (k + 1) _ _ ls (by omega) (by omega) hP hS hl
          · refine lv_iconst (v := iI (1)) X.1 X.2.1 dX5_stateOf_52 rfl ?_
            refine lv_goto (tgt := 57) X.1 X.2.1 dX5_stateOf_53 (by decide) ?_
            refine lv_istore_n (lv' := [(2, .int (iI (1))), (4, .int (iI ((k : Nat) : Int))), (3, .int (iI (m_ovr C a k))), (0, .ref (ad 5 0)), (1, .int (iI a))]) X.1 X.2.1 dX5_stateOf_57 rfl hl (by decide) rfl (fun ls hl => ?_)
            refine lv_iload_n X.1 X.2.1 dX5_stateOf_58 rfl (lv_at hl 2 rfl) ?_
            refine q_if_eq (tgt := 75) X (q_b32 (m_ovr_b C a k)) dX5_stateOf_59 (by decide) (fun h_39 => ?_) (fun h_39 => ?_)
            · refine lv_iconst (v := iI (0)) X.1 X.2.1 dX5_stateOf_75 rfl ?_
              refine lv_istore_n (lv' := [(3, .int (iI (0))), (2, .int (iI (1))), (4, .int (iI ((k : Nat) : Int))), (0, .ref (ad 5 0)), (1, .int (iI a))]) X.1 X.2.1 dX5_stateOf_76 rfl hl (by decide) rfl (fun ls hl => ?_)
              refine q_iinc (lv' := [(4, .int (iI (((k : Nat) : Int) + 1))), (3, .int (iI (0))), (2, .int (iI (1))), (0, .ref (ad 5 0)), (1, .int (iI a))]) (k := 2) X dX5_stateOf_77 hl rfl (by decide) rfl (fun ls hl => ?_)
              refine lv_goto (tgt := 18) X.1 X.2.1 dX5_stateOf_80 (by decide) ?_
              have e_40 : (((k : Nat) : Int) + 1) = (((k + 1) : Nat) : Int) := by omega
              have e_41 : (1) = (m_prn C a (k + 1)) := by rw [m_prn]; first | (rw [if_neg (by assumption)]; done) | (rw [if_pos (by assumption)]; first | (rw [if_pos (by omega)]; done) | (rw [if_neg (by omega)]; done))
              have e_42 : (0) = (m_ovr C a (k + 1)) := by rw [m_ovr]; first | (rw [if_neg (by assumption)]; done) | (rw [if_pos (by assumption)]; first | (rw [if_pos ⟨by omega, by assumption⟩]; done) | (rw [if_neg (fun q => by obtain ⟨q1, q2⟩ := q; first | contradiction | omega)]; done))
              have hl : lv_has ls 5 [(4, .int (iI (((k + 1) : Nat) : Int))), (2, .int (iI (m_prn C a (k + 1)))), (3, .int (iI (m_ovr C a (k + 1)))), (0, .ref (ad 5 0)), (1, .int (iI a))] := lv_cong (show lv_has ls 5 [(4, .int (iI (((k : Nat) : Int) + 1))), (2, .int (iI (1))), (3, .int (iI (0))), (0, .ref (ad 5 0)), (1, .int (iI a))] from lv_sub hl [0, 2, 1, 3, 4] rfl) (lv_cs (congrArg (fun z => Value.int (iI z)) e_40) (lv_cs (congrArg (fun z => Value.int (iI z)) e_41) (lv_cs (congrArg (fun z => Value.int (iI z)) e_42) (lv_cs rfl (lv_cs rfl rfl)))))
              exact ih (k + 1) _ _ ls (by omega) (by omega) hP hS hl
            · refine lv_aload_n X.1 X.2.1 dX5_stateOf_62 rfl (lv_at hl 3 rfl) ?_
              refine lv_iload X.1 X.2.1 dX5_stateOf_63 (lv_at hl 1 rfl) ?_
              refine va_calli (va_runV (As := [.int (iI ((k : Nat) : Int))]) (rest := []) X.fix (c_X5_isOver l g s0 n ad C hM k (by omega) (m_R38 hR _) (m_R39 hR _) (m_R32 hR _)) (cwV 1 X.2.2.2.2.1 gX5_stateOf_X5_isOver rfl rfl rfl (by decide +kernel) ⟨Nat.le_of_ble_eq_true rfl, Nat.le_of_ble_eq_true rfl⟩) (q_preV X hP hS [.int (iI ((k : Nat) : Int))] (kd := 5) (by decide) rfl (m_v5 hM)) rfl rfl hl.1 rfl (lv_room (Nat.le_of_ble_eq_true rfl)) dX5_stateOf_65 ⟨Nat.le_of_ble_eq_true rfl, Nat.le_of_ble_eq_true rfl⟩) hS q_id q_id1 (fun r u t H locs ht hvm hw hB hz1 hk1 hS => ?_)
              obtain ⟨rfl, ⟨h_43, rfl⟩ | ⟨h_43, rfl⟩⟩ := hw
              · have hP : q_P g s0 n ad (C) H := q_back hB ht
                have h_43 : m_over C k := h_43
                refine q_if_eq (tgt := 75) X (by decide) dX5_stateOf_68 (by decide) (fun h => absurd h (by decide)) (fun _ => ?_)
                refine lv_iconst (v := iI (1)) X.1 X.2.1 dX5_stateOf_71 rfl ?_
                refine lv_goto (tgt := 76) X.1 X.2.1 dX5_stateOf_72 (by decide) ?_
                refine lv_istore_n (lv' := [(3, .int (iI (1))), (2, .int (iI (1))), (4, .int (iI ((k : Nat) : Int))), (0, .ref (ad 5 0)), (1, .int (iI a))]) X.1 X.2.1 dX5_stateOf_76 rfl hl (by decide) rfl (fun ls hl => ?_)
                refine q_iinc (lv' := [(4, .int (iI (((k : Nat) : Int) + 1))), (3, .int (iI (1))), (2, .int (iI (1))), (0, .ref (ad 5 0)), (1, .int (iI a))]) (k := 2) X dX5_stateOf_77 hl rfl (by decide) rfl (fun ls hl => ?_)
                refine lv_goto (tgt := 18) X.1 X.2.1 dX5_stateOf_80 (by decide) ?_
                have e_45 : (((k : Nat) : Int) + 1) = (((k + 1) : Nat) : Int) := by omega
                have e_46 : (1) = (m_prn C a (k + 1)) := by rw [m_prn]; first | (rw [if_neg (by assumption)]; done) | (rw [if_pos (by assumption)]; first | (rw [if_pos (by omega)]; done) | (rw [if_neg (by omega)]; done))
                have e_47 : (1) = (m_ovr C a (k + 1)) := by rw [m_ovr]; first | (rw [if_neg (by assumption)]; done) | (rw [if_pos (by assumption)]; first | (rw [if_pos ⟨by omega, by assumption⟩]; done) | (rw [if_neg (fun q => by obtain ⟨q1, q2⟩ := q; first | contradiction | omega)]; done))
                have hl : lv_has ls 5 [(4, .int (iI (((k + 1) : Nat) : Int))), (2, .int (iI (m_prn C a (k + 1)))), (3, .int (iI (m_ovr C a (k + 1)))), (0, .ref (ad 5 0)), (1, .int (iI a))] := lv_cong (show lv_has ls 5 [(4, .int (iI (((k : Nat) : Int) + 1))), (2, .int (iI (1))), (3, .int (iI (1))), (0, .ref (ad 5 0)), (1, .int (iI a))] from lv_sub hl [0, 2, 1, 3, 4] rfl) (lv_cs (congrArg (fun z => Value.int (iI z)) e_45) (lv_cs (congrArg (fun z => Value.int (iI z)) e_46) (lv_cs (congrArg (fun z => Value.int (iI z)) e_47) (lv_cs rfl (lv_cs rfl rfl)))))
                exact ih (k + 1) _ _ ls (by omega) (by omega) hP hS hl
              · have hP : q_P g s0 n ad (C) H := q_back hB ht
                have h_43 : ¬ (m_over C k) := h_43
                refine q_if_eq (tgt := 75) X (by decide) dX5_stateOf_68 (by decide) (fun _ => ?_) (fun h => absurd h (by decide))
                refine lv_iconst (v := iI (0)) X.1 X.2.1 dX5_stateOf_75 rfl ?_
                refine lv_istore_n (lv' := [(3, .int (iI (0))), (2, .int (iI (1))), (4, .int (iI ((k : Nat) : Int))), (0, .ref (ad 5 0)), (1, .int (iI a))]) X.1 X.2.1 dX5_stateOf_76 rfl hl (by decide) rfl (fun ls hl => ?_)
                refine q_iinc (lv' := [(4, .int (iI (((k : Nat) : Int) + 1))), (3, .int (iI (0))), (2, .int (iI (1))), (0, .ref (ad 5 0)), (1, .int (iI a))]) (k := 2) X dX5_stateOf_77 hl rfl (by decide) rfl (fun ls hl => ?_)
                refine lv_goto (tgt := 18) X.1 X.2.1 dX5_stateOf_80 (by decide) ?_
                have e_49 : (((k : Nat) : Int) + 1) = (((k + 1) : Nat) : Int) := by omega
                have e_50 : (1) = (m_prn C a (k + 1)) := by rw [m_prn]; first | (rw [if_neg (by assumption)]; done) | (rw [if_pos (by assumption)]; first | (rw [if_pos (by omega)]; done) | (rw [if_neg (by omega)]; done))
                have e_51 : (0) = (m_ovr C a (k + 1)) := by rw [m_ovr]; first | (rw [if_neg (by assumption)]; done) | (rw [if_pos (by assumption)]; first | (rw [if_pos ⟨by omega, by assumption⟩]; done) | (rw [if_neg (fun q => by obtain ⟨q1, q2⟩ := q; first | contradiction | omega)]; done))
                have hl : lv_has ls 5 [(4, .int (iI (((k + 1) : Nat) : Int))), (2, .int (iI (m_prn C a (k + 1)))), (3, .int (iI (m_ovr C a (k + 1)))), (0, .ref (ad 5 0)), (1, .int (iI a))] := lv_cong (show lv_has ls 5 [(4, .int (iI (((k : Nat) : Int) + 1))), (2, .int (iI (1))), (3, .int (iI (0))), (0, .ref (ad 5 0)), (1, .int (iI a))] from lv_sub hl [0, 2, 1, 3, 4] rfl) (lv_cs (congrArg (fun z => Value.int (iI z)) e_49) (lv_cs (congrArg (fun z => Value.int (iI z)) e_50) (lv_cs (congrArg (fun z => Value.int (iI z)) e_51) (lv_cs rfl (lv_cs rfl rfl)))))
                exact ih (k + 1) _ _ ls (by omega) (by omega) hP hS hl
set_option maxHeartbeats 4000000 in
set_option maxRecDepth 100000 in
theorem c_X5_stateOf (l : Launch) (g : q_G) (s0 : Nat) (n : Nat → Nat) (ad : Nat → Nat → Nat) (C : q_S) (c0 : Nat) (hM : m_S C n) (hR : m_R C c0) (hc0 : c0 ≤ 600) (a : Int) (ha : R32 a) (hb : 0 ≤ a ∧ a ≤ 60) : Met l yX5_stateOf wsX5_stateOf ({ frames := 1, cells := 0, slots := 0, locals := 21 }) (va_Pc [.ref (ad 5 0), .int (iI a)] (q_B g s0 (n, ad, C))) (va_Qi (fun r u => u = (n, ad, C) ∧ r = iI (m_st C a)) (q_B g s0) (q_A s0)) 0 0 (q_A s0) := by
  refine Met.ofW (cc := cX5_stateOf) (maxL := 5) (ret := (some .int)) (by decide) rfl ?_
  intro p e s m args below meth c s₁ B hml hv
  obtain ⟨rfl, hv⟩ := hv
  have hr := B.returns
  have hlocks := B.notSynchronized
  obtain ⟨X, hP⟩ := q_start B.exec B.bytes hml (show s.vm.findClass RX5 = some m.cls from findClass_of_methodNamed B.named) (atoms_spec (ws := wsX5_stateOf) B.pre) hv
  have hP : q_P g s0 n ad C s.heap := hP
  have hS : va_S (q_A s0) s.heap s.heap [] := va_S.rf
  have in5 : ∀ w ∈ wsX50, w ∈ wsX5_stateOf := by decide +kernel
  have hl := lv_entry ([.ref (ad 5 0), .int (iI a)]) (n := 5) (Nat.le_of_ble_eq_true rfl)
  rw [lg_entry_eq]
  generalize (lg_sl ([.ref (ad 5 0), .int (iI a)]) ++ List.replicate (5 - (lg_sl ([.ref (ad 5 0), .int (iI a)])).length) Slot.unset).toArray = ls at hl ⊢
  have hl : lv_has ls 5 [(0, .ref (ad 5 0)), (1, .int (iI a))] := hl
  refine lv_aload_n X.1 X.2.1 dX5_stateOf_0 rfl (lv_at hl 0 rfl) ?_
  refine q_get (index := 48) (v := .ref (ad 36 0)) X hP 5 16 0 rfl rfl (by decide) in5 (m_v5 hM) (by decide) (by decide +kernel) (m_r hM ad 16 36 (by decide)) dX5_stateOf_1 ?_
  refine lv_iload_n X.1 X.2.1 dX5_stateOf_4 rfl (lv_at hl 1 rfl) ?_
  refine q_zldv (len := 61) (v := (C 36 ((a).toNat) 0)) X hP 36 0 (by decide) rfl rfl (m_va hM 16 (by decide) rfl) rfl (by omega) (by omega) rfl dX5_stateOf_5 ?_
  refine q_if_eq (tgt := 11) X (q_b32 (hP.tok 36 ((a).toNat) 0 rfl)) dX5_stateOf_6 (by decide) (fun h_1 => ?_) (fun h_1 => ?_)
  · refine lv_iconst (v := iI (0)) X.1 X.2.1 dX5_stateOf_11 rfl ?_
    refine lv_istore_n (lv' := [(2, .int (iI (0))), (0, .ref (ad 5 0)), (1, .int (iI a))]) X.1 X.2.1 dX5_stateOf_12 rfl hl (by decide) rfl (fun ls hl => ?_)
    refine lv_iconst (v := iI (1)) X.1 X.2.1 dX5_stateOf_13 rfl ?_
    refine lv_istore_n (lv' := [(3, .int (iI (1))), (2, .int (iI (0))), (0, .ref (ad 5 0)), (1, .int (iI a))]) X.1 X.2.1 dX5_stateOf_14 rfl hl (by decide) rfl (fun ls hl => ?_)
    refine lv_iconst (v := iI (0)) X.1 X.2.1 dX5_stateOf_15 rfl ?_
    refine lv_istore (lv' := [(4, .int (iI (0))), (3, .int (iI (1))), (2, .int (iI (0))), (0, .ref (ad 5 0)), (1, .int (iI a))]) X.1 X.2.1 dX5_stateOf_16 hl (by decide) rfl (fun ls hl => ?_)
    have e_2 : (0) = ((0 : Nat) : Int) := by rfl
    have e_3 : (0) = (m_prn C a 0) := by rfl
    have e_4 : (1) = (m_ovr C a 0) := by rfl
    have hl : lv_has ls 5 [(4, .int (iI ((0 : Nat) : Int))), (2, .int (iI (m_prn C a 0))), (3, .int (iI (m_ovr C a 0))), (0, .ref (ad 5 0)), (1, .int (iI a))] := lv_cong (show lv_has ls 5 [(4, .int (iI (0))), (2, .int (iI (0))), (3, .int (iI (1))), (0, .ref (ad 5 0)), (1, .int (iI a))] from lv_sub hl [0, 2, 1, 3, 4] rfl) (lv_cs (congrArg (fun z => Value.int (iI z)) e_2) (lv_cs (congrArg (fun z => Value.int (iI z)) e_3) (lv_cs (congrArg (fun z => Value.int (iI z)) e_4) (lv_cs rfl (lv_cs rfl rfl)))))
    have f0 := m_Rk hR
    refine w_X5_stateOf X in5 c0 hM hR hc0 a ha (fun H locs ls hP hS hl => ?_) ((C 5 17 0).toNat + 1) 0 _ _ ls (by omega) (by omega) hP hS hl
    refine lv_iload_n X.1 X.2.1 dX5_stateOf_83 rfl (lv_at hl 0 rfl) ?_
    refine q_if_eq (tgt := 91) X (q_b32 (m_prn_b _ _ _)) dX5_stateOf_84 (by decide) (fun h_5 => ?_) (fun h_5 => ?_)
    · refine lv_iload_n X.1 X.2.1 dX5_stateOf_91 rfl (lv_at hl 1 rfl) ?_
      refine q_if_eq (tgt := 99) X (q_b32 (m_ovr_b _ _ _)) dX5_stateOf_92 (by decide) (fun h_6 => ?_) (fun h_6 => ?_)
      · refine lv_iconst (v := iI (0)) X.1 X.2.1 dX5_stateOf_99 rfl ?_
        exact q_iret X hr hlocks hP hS ⟨rfl, by unfold m_st; first | (rw [if_pos (by assumption)]; done) | (rw [if_neg (by omega), if_pos (by assumption)]; done) | (rw [if_neg (by omega), if_neg (by omega), if_pos (by assumption)]; done) | (rw [if_neg (by omega), if_neg (by omega), if_neg (by omega)]; done)⟩ (Nat.le_of_ble_eq_true rfl) (Nat.le_of_ble_eq_true rfl) dX5_stateOf_100
      · refine lv_iconst (v := iI (2)) X.1 X.2.1 dX5_stateOf_95 rfl ?_
        refine lv_goto (tgt := 100) X.1 X.2.1 dX5_stateOf_96 (by decide) ?_
        exact q_iret X hr hlocks hP hS ⟨rfl, by unfold m_st; first | (rw [if_pos (by assumption)]; done) | (rw [if_neg (by omega), if_pos (by assumption)]; done) | (rw [if_neg (by omega), if_neg (by omega), if_pos (by assumption)]; done) | (rw [if_neg (by omega), if_neg (by omega), if_neg (by omega)]; done)⟩ (Nat.le_of_ble_eq_true rfl) (Nat.le_of_ble_eq_true rfl) dX5_stateOf_100
    · refine lv_iconst (v := iI (1)) X.1 X.2.1 dX5_stateOf_87 rfl ?_
      refine lv_goto (tgt := 100) X.1 X.2.1 dX5_stateOf_88 (by decide) ?_
      exact q_iret X hr hlocks hP hS ⟨rfl, by unfold m_st; first | (rw [if_pos (by assumption)]; done) | (rw [if_neg (by omega), if_pos (by assumption)]; done) | (rw [if_neg (by omega), if_neg (by omega), if_pos (by assumption)]; done) | (rw [if_neg (by omega), if_neg (by omega), if_neg (by omega)]; done)⟩ (Nat.le_of_ble_eq_true rfl) (Nat.le_of_ble_eq_true rfl) dX5_stateOf_100
  · refine lv_iconst (v := iI (3)) X.1 X.2.1 dX5_stateOf_9 rfl ?_
    exact q_iret X hr hlocks hP hS ⟨rfl, by unfold m_st; first | (rw [if_pos (by assumption)]; done) | (rw [if_neg (by omega), if_pos (by assumption)]; done) | (rw [if_neg (by omega), if_neg (by omega), if_pos (by assumption)]; done) | (rw [if_neg (by omega), if_neg (by omega), if_neg (by omega)]; done)⟩ (Nat.le_of_ble_eq_true rfl) (Nat.le_of_ble_eq_true rfl) dX5_stateOf_10
set_option maxHeartbeats 4000000 in
set_option maxRecDepth 100000 in
theorem w_X5_state {p : Program} {l : Launch} {e : Env} {s : State} {m : MethodId} {args : Array Value} {below : List Frame} {meth : Method} {c : Code} {Q : State → Prop} {g : q_G} {s0 : Nat} {n : Nat → Nat} {ad : Nat → Nat → Nat} {C : q_S} (X : q_X p s m args c cX5_state 5 wsX5_state RX5 g s0) (in5 : ∀ w ∈ wsX50, w ∈ wsX5_state) (c0 : Nat) (hM : m_S C n) (hR : m_R C c0) (hc0 : c0 ≤ 600) (a : Int) (ha : R32 a) (b : Int) (hb : R32 b) (hj : 0 ≤ a ∧ a ≤ 60) (hq : 1 ≤ C 32 a.toNat 0) (kx : ∀  (H : Heap) (locs : List Loc) (ls : Array Slot), q_P g s0 n ad (q_up C 5 0 0 (0)) H → va_S (q_A s0) s.heap H locs → lv_has ls 5 [(3, .int (iI (m_sum C a b (C 5 17 0).toNat))), (0, .ref (ad 5 0)), (1, .int (iI a)), (2, .int (iI b))] → W p l e ({ frames := 2, cells := 0, slots := 0, locals := 46 }) s m args below meth c H locs 0 0 Q (F0 m 144 ls [])) :
    ∀ (N : Nat) (k : Nat) (H : Heap) (locs : List Loc) (ls : Array Slot), (C 5 17 0 < (k : Int) + N) → ((k : Int) ≤ C 5 17 0) → q_P g s0 n ad (q_up C 5 0 0 (0)) H → va_S (q_A s0) s.heap H locs → lv_has ls 5 [(4, .int (iI ((k : Nat) : Int))), (3, .int (iI (m_sum C a b k))), (0, .ref (ad 5 0)), (1, .int (iI a)), (2, .int (iI b))] → W p l e ({ frames := 2, cells := 0, slots := 0, locals := 46 }) s m args below meth c H locs 0 0 Q (F0 m 77 ls []) := by
  intro N
  induction N with
  | zero =>
    intro k H locs ls h1 h2 hP hS hl
    exact absurd h1 (by omega)
  | succ N ih =>
    intro k H locs ls h1 h2 hP hS hl
    have f0 := m_Rk hR
    refine lv_iload X.1 X.2.1 dX5_state_77 (lv_at hl 0 rfl) ?_
    refine lv_aload_n X.1 X.2.1 dX5_state_79 rfl (lv_at hl 2 rfl) ?_
    refine q_get (index := 101) (v := .int (iI (C 5 17 0))) X hP 5 17 0 rfl rfl (by decide) in5 (m_v5 hM) (by decide) (by decide +kernel) rfl dX5_state_80 ?_
    have f_1 := m_Rk hR
    refine q_icmp_ge (tgt := 144) X (by omega) (hP.tok 5 17 0 rfl) dX5_state_83 (by decide) (fun h_2 => ?_) (fun h_2 => ?_)
    · have ek : k = (C 5 17 0).toNat := by omega
      have e_3 : (m_sum C a b k) = (m_sum C a b (C 5 17 0).toNat) := by rw [ek]
      have hl : lv_has ls 5 [(3, .int (iI (m_sum C a b (C 5 17 0).toNat))), (0, .ref (ad 5 0)), (1, .int (iI a)), (2, .int (iI b))] := lv_cong (show lv_has ls 5 [(3, .int (iI (m_sum C a b k))), (0, .ref (ad 5 0)), (1, .int (iI a)), (2, .int (iI b))] from lv_sub hl [1, 2, 3, 4] rfl) (lv_cs (congrArg (fun z => Value.int (iI z)) e_3) (lv_cs rfl (lv_cs rfl (lv_cs rfl rfl))))
      exact kx _ _ ls hP hS hl
    · refine lv_aload_n X.1 X.2.1 dX5_state_86 rfl (lv_at hl 2 rfl) ?_
      refine q_get (index := 51) (v := .ref (ad 38 0)) X hP 5 18 0 rfl rfl (by decide) in5 (m_v5 hM) (by decide) (by decide +kernel) (m_r hM ad 18 38 (by decide)) dX5_state_87 ?_
      refine lv_iload X.1 X.2.1 dX5_state_90 (lv_at hl 0 rfl) ?_
      refine q_ildv (len := 4200) (v := (C 38 k 0)) X hP 38 0 (by decide) rfl rfl (m_va hM 18 (by decide) rfl) rfl (by omega) (by omega) rfl dX5_state_92 ?_
      have f_4 := m_R38 hR k
      refine lv_iload_n X.1 X.2.1 dX5_state_93 rfl (lv_at hl 3 rfl) ?_
      refine q_icmp_ne (tgt := 138) X (hP.tok 38 k 0 rfl) ha dX5_state_94 (by decide) (fun h_5 => ?_) (fun h_5 => ?_)
      · refine q_iinc (lv' := [(4, .int (iI (((k : Nat) : Int) + 1))), (3, .int (iI (m_sum C a b k))), (0, .ref (ad 5 0)), (1, .int (iI a)), (2, .int (iI b))]) (k := 0) X dX5_state_138 hl rfl (by decide) rfl (fun ls hl => ?_)
        refine lv_goto (tgt := 77) X.1 X.2.1 dX5_state_141 (by decide) ?_
        have e_6 : (((k : Nat) : Int) + 1) = (((k + 1) : Nat) : Int) := by omega
        have e_7 : (m_sum C a b k) = (m_sum C a b (k + 1)) := by rw [m_sum]; first | (rw [if_neg (by assumption)]; done) | (rw [if_pos (by assumption)]; first | (rw [if_pos (by assumption)]; done) | (rw [if_neg (by assumption), if_pos (by assumption)]; done) | (rw [if_neg (by assumption), if_neg (by assumption)]; done))
        have hl : lv_has ls 5 [(4, .int (iI (((k + 1) : Nat) : Int))), (3, .int (iI (m_sum C a b (k + 1)))), (0, .ref (ad 5 0)), (1, .int (iI a)), (2, .int (iI b))] := lv_cong (show lv_has ls 5 [(4, .int (iI (((k : Nat) : Int) + 1))), (3, .int (iI (m_sum C a b k))), (0, .ref (ad 5 0)), (1, .int (iI a)), (2, .int (iI b))] from lv_sub hl [0, 1, 2, 3, 4] rfl) (lv_cs (congrArg (fun z => Value.int (iI z)) e_6) (lv_cs (congrArg (fun z => Value.int (iI z)) e_7) (lv_cs rfl (lv_cs rfl (lv_cs rfl rfl)))))
        exact ih (k + 1) _ _ ls (by omega) (by omega) hP hS hl
      · refine lv_iload_n X.1 X.2.1 dX5_state_97 rfl (lv_at hl 1 rfl) ?_
        refine lv_iload_n X.1 X.2.1 dX5_state_98 rfl (lv_at hl 4 rfl) ?_
        refine lv_iconst (v := iI (1)) X.1 X.2.1 dX5_state_99 rfl ?_
        refine q_icmp_ne (tgt := 113) X hb (by decide) dX5_state_100 (by decide) (fun h_8 => ?_) (fun h_8 => ?_)
        · refine lv_iload_n X.1 X.2.1 dX5_state_113 rfl (lv_at hl 4 rfl) ?_
          refine lv_iconst (v := iI (2)) X.1 X.2.1 dX5_state_114 rfl ?_
          refine q_icmp_ne (tgt := 135) X hb (by decide) dX5_state_115 (by decide) (fun h_9 => ?_) (fun h_9 => ?_)
          · refine lv_iconst (v := iI (1)) X.1 X.2.1 dX5_state_135 rfl ?_
            refine q_iadd X dX5_state_136 ?_
            refine lv_istore_n (lv' := [(3, .int (iI ((m_sum C a b k) + (1)))), (4, .int (iI ((k : Nat) : Int))), (0, .ref (ad 5 0)), (1, .int (iI a)), (2, .int (iI b))]) X.1 X.2.1 dX5_state_137 rfl hl (by decide) rfl (fun ls hl => ?_)
            refine q_iinc (lv' := [(4, .int (iI (((k : Nat) : Int) + 1))), (3, .int (iI ((m_sum C a b k) + (1)))), (0, .ref (ad 5 0)), (1, .int (iI a)), (2, .int (iI b))]) (k := 1) X dX5_state_138 hl rfl (by decide) rfl (fun ls hl => ?_)
            refine lv_goto (tgt := 77) X.1 X.2.1 dX5_state_141 (by decide) ?_
            have e_10 : (((k : Nat) : Int) + 1) = (((k + 1) : Nat) : Int) := by omega
            have e_11 : ((m_sum C a b k) + (1)) = (m_sum C a b (k + 1)) := by rw [m_sum]; first | (rw [if_neg (by assumption)]; done) | (rw [if_pos (by assumption)]; first | (rw [if_pos (by assumption)]; done) | (rw [if_neg (by assumption), if_pos (by assumption)]; done) | (rw [if_neg (by assumption), if_neg (by assumption)]; done))
            have hl : lv_has ls 5 [(4, .int (iI (((k + 1) : Nat) : Int))), (3, .int (iI (m_sum C a b (k + 1)))), (0, .ref (ad 5 0)), (1, .int (iI a)), (2, .int (iI b))] := lv_cong (show lv_has ls 5 [(4, .int (iI (((k : Nat) : Int) + 1))), (3, .int (iI ((m_sum C a b k) + (1)))), (0, .ref (ad 5 0)), (1, .int (iI a)), (2, .int (iI b))] from lv_sub hl [0, 1, 2, 3, 4] rfl) (lv_cs (congrArg (fun z => Value.int (iI z)) e_10) (lv_cs (congrArg (fun z => Value.int (iI z)) e_11) (lv_cs rfl (lv_cs rfl (lv_cs rfl rfl)))))
            exact ih (k + 1) _ _ ls (by omega) (by omega) hP hS hl
          · refine lv_aload_n X.1 X.2.1 dX5_state_118 rfl (lv_at hl 2 rfl) ?_
            refine q_get (index := 63) (v := .ref (ad 42 0)) X hP 5 22 0 rfl rfl (by decide) in5 (m_v5 hM) (by decide) (by decide +kernel) (m_r hM ad 22 42 (by decide)) dX5_state_119 ?_
            refine lv_iload X.1 X.2.1 dX5_state_122 (lv_at hl 0 rfl) ?_
            refine q_ildv (len := 4200) (v := (C 42 k 0)) X hP 42 0 (by decide) rfl rfl (m_va hM 22 (by decide) rfl) rfl (by omega) (by omega) rfl dX5_state_124 ?_
            have f_12 := m_R42 hR k
            refine lv_aload_n X.1 X.2.1 dX5_state_125 rfl (lv_at hl 2 rfl) ?_
            refine q_get (index := 35) (v := .ref (ad 32 0)) X hP 5 12 0 rfl rfl (by decide) in5 (m_v5 hM) (by decide) (by decide +kernel) (m_r hM ad 12 32 (by decide)) dX5_state_126 ?_
            refine lv_iload_n X.1 X.2.1 dX5_state_129 rfl (lv_at hl 3 rfl) ?_
            refine q_ildv (len := 61) (v := (C 32 ((a).toNat) 0)) X hP 32 0 (by decide) rfl rfl (m_va hM 12 (by decide) rfl) rfl (by omega) (by omega) rfl dX5_state_130 ?_
            have f_13 := m_R32 hR ((a).toNat)
            refine q_idiv X (by omega) (by omega) dX5_state_131 ?_
            refine lv_goto (tgt := 136) X.1 X.2.1 dX5_state_132 (by decide) ?_
            refine q_iadd X dX5_state_136 ?_
            refine lv_istore_n (lv' := [(3, .int (iI ((m_sum C a b k) + ((C 42 k 0) / (C 32 ((a).toNat) 0))))), (4, .int (iI ((k : Nat) : Int))), (0, .ref (ad 5 0)), (1, .int (iI a)), (2, .int (iI b))]) X.1 X.2.1 dX5_state_137 rfl hl (by decide) rfl (fun ls hl => ?_)
            refine q_iinc (lv' := [(4, .int (iI (((k : Nat) : Int) + 1))), (3, .int (iI ((m_sum C a b k) + ((C 42 k 0) / (C 32 ((a).toNat) 0))))), (0, .ref (ad 5 0)), (1, .int (iI a)), (2, .int (iI b))]) (k := 1) X dX5_state_138 hl rfl (by decide) rfl (fun ls hl => ?_)
            refine lv_goto (tgt := 77) X.1 X.2.1 dX5_state_141 (by decide) ?_
            have e_14 : (((k : Nat) : Int) + 1) = (((k + 1) : Nat) : Int) := by omega
            have e_15 : ((m_sum C a b k) + ((C 42 k 0) / (C 32 ((a).toNat) 0))) = (m_sum C a b (k + 1)) := by rw [m_sum]; first | (rw [if_neg (by assumption)]; done) | (rw [if_pos (by assumption)]; first | (rw [if_pos (by assumption)]; done) | (rw [if_neg (by assumption), if_pos (by assumption)]; done) | (rw [if_neg (by assumption), if_neg (by assumption)]; done))
            have hl : lv_has ls 5 [(4, .int (iI (((k + 1) : Nat) : Int))), (3, .int (iI (m_sum C a b (k + 1)))), (0, .ref (ad 5 0)), (1, .int (iI a)), (2, .int (iI b))] := lv_cong (show lv_has ls 5 [(4, .int (iI (((k : Nat) : Int) + 1))), (3, .int (iI ((m_sum C a b k) + ((C 42 k 0) / (C 32 ((a).toNat) 0))))), (0, .ref (ad 5 0)), (1, .int (iI a)), (2, .int (iI b))] from lv_sub hl [0, 1, 2, 3, 4] rfl) (lv_cs (congrArg (fun z => Value.int (iI z)) e_14) (lv_cs (congrArg (fun z => Value.int (iI z)) e_15) (lv_cs rfl (lv_cs rfl (lv_cs rfl rfl)))))
            exact ih (k + 1) _ _ ls (by omega) (by omega) hP hS hl
        · refine lv_aload_n X.1 X.2.1 dX5_state_103 rfl (lv_at hl 2 rfl) ?_
          refine q_get (index := 63) (v := .ref (ad 42 0)) X hP 5 22 0 rfl rfl (by decide) in5 (m_v5 hM) (by decide) (by decide +kernel) (m_r hM ad 22 42 (by decide)) dX5_state_104 ?_
          refine lv_iload X.1 X.2.1 dX5_state_107 (lv_at hl 0 rfl) ?_
          refine q_ildv (len := 4200) (v := (C 42 k 0)) X hP 42 0 (by decide) rfl rfl (m_va hM 22 (by decide) rfl) rfl (by omega) (by omega) rfl dX5_state_109 ?_
          have f_16 := m_R42 hR k
          refine lv_goto (tgt := 136) X.1 X.2.1 dX5_state_110 (by decide) ?_
          refine q_iadd X dX5_state_136 ?_
          refine lv_istore_n (lv' := [(3, .int (iI ((m_sum C a b k) + (C 42 k 0)))), (4, .int (iI ((k : Nat) : Int))), (0, .ref (ad 5 0)), (1, .int (iI a)), (2, .int (iI b))]) X.1 X.2.1 dX5_state_137 rfl hl (by decide) rfl (fun ls hl => ?_)
          refine q_iinc (lv' := [(4, .int (iI (((k : Nat) : Int) + 1))), (3, .int (iI ((m_sum C a b k) + (C 42 k 0)))), (0, .ref (ad 5 0)), (1, .int (iI a)), (2, .int (iI b))]) (k := 1) X dX5_state_138 hl rfl (by decide) rfl (fun ls hl => ?_)
          refine lv_goto (tgt := 77) X.1 X.2.1 dX5_state_141 (by decide) ?_
          have e_17 : (((k : Nat) : Int) + 1) = (((k + 1) : Nat) : Int) := by omega
          have e_18 : ((m_sum C a b k) + (C 42 k 0)) = (m_sum C a b (k + 1)) := by rw [m_sum]; first | (rw [if_neg (by assumption)]; done) | (rw [if_pos (by assumption)]; first | (rw [if_pos (by assumption)]; done) | (rw [if_neg (by assumption), if_pos (by assumption)]; done) | (rw [if_neg (by assumption), if_neg (by assumption)]; done))
          have hl : lv_has ls 5 [(4, .int (iI (((k + 1) : Nat) : Int))), (3, .int (iI (m_sum C a b (k + 1)))), (0, .ref (ad 5 0)), (1, .int (iI a)), (2, .int (iI b))] := lv_cong (show lv_has ls 5 [(4, .int (iI (((k : Nat) : Int) + 1))), (3, .int (iI ((m_sum C a b k) + (C 42 k 0)))), (0, .ref (ad 5 0)), (1, .int (iI a)), (2, .int (iI b))] from lv_sub hl [0, 1, 2, 3, 4] rfl) (lv_cs (congrArg (fun z => Value.int (iI z)) e_17) (lv_cs (congrArg (fun z => Value.int (iI z)) e_18) (lv_cs rfl (lv_cs rfl (lv_cs rfl rfl)))))
          exact ih (k + 1) _ _ ls (by omega) (by omega) hP hS hl
def tX5_state (n : Nat → Nat) (ad : Nat → Nat → Nat) (C : q_S) (a b : Int) (r : Int32) (u : q_U) : Prop :=
  ((1 ≤ a ∧ a ≤ C 5 10 0) ∧ ((0) ≤ b ∧ b ≤ (4)) ∧ (¬ b = (0)) ∧ (¬ b = (4)) ∧ u = (n, ad, q_up C 5 0 0 ((0))) ∧ r = iI (m_sum C a b (C 5 17 0).toNat)) ∨
  ((1 ≤ a ∧ a ≤ C 5 10 0) ∧ ((0) ≤ b ∧ b ≤ (4)) ∧ (¬ b = (0)) ∧ (b = (4)) ∧ ((C 35 ((a).toNat) 0) = (0)) ∧ u = (n, ad, q_up C 5 0 0 ((0))) ∧ r = iI (0)) ∨
  ((1 ≤ a ∧ a ≤ C 5 10 0) ∧ ((0) ≤ b ∧ b ≤ (4)) ∧ (¬ b = (0)) ∧ (b = (4)) ∧ (¬ (C 35 ((a).toNat) 0) = (0)) ∧ u = (n, ad, q_up C 5 0 0 ((0))) ∧ r = iI (1)) ∨
  ((1 ≤ a ∧ a ≤ C 5 10 0) ∧ ((0) ≤ b ∧ b ≤ (4)) ∧ (b = (0)) ∧ u = (n, ad, q_up C 5 0 0 ((0))) ∧ r = iI (m_st (q_up C 5 0 0 ((0))) a)) ∨
  ((1 ≤ a ∧ a ≤ C 5 10 0) ∧ (¬ ((0) ≤ b ∧ b ≤ (4))) ∧ u = (n, ad, q_up C 5 0 0 ((2))) ∧ r = iI (0)) ∨
  ((¬ (1 ≤ a ∧ a ≤ C 5 10 0)) ∧ u = (n, ad, q_up C 5 0 0 ((1))) ∧ r = iI (0))
set_option maxHeartbeats 4000000 in
set_option maxRecDepth 100000 in
theorem c_X5_state (l : Launch) (g : q_G) (s0 : Nat) (n : Nat → Nat) (ad : Nat → Nat → Nat) (C : q_S) (c0 : Nat) (hM : m_S C n) (hR : m_R C c0) (hc0 : c0 ≤ 600) (a b : Int) (ha : R32 a) (hb : R32 b)  : Met l yX5_state wsX5_state ({ frames := 2, cells := 0, slots := 0, locals := 46 }) (va_Pc [.ref (ad 5 0), .int (iI a), .int (iI b)] (q_B g s0 (n, ad, C))) (va_Qi (tX5_state n ad C a b) (q_B g s0) (q_A s0)) 0 0 (q_A s0) := by
  refine Met.ofW (cc := cX5_state) (maxL := 5) (ret := (some .int)) (by decide) rfl ?_
  intro p e s m args below meth c s₁ B hml hv
  obtain ⟨rfl, hv⟩ := hv
  have hr := B.returns
  have hlocks := B.notSynchronized
  obtain ⟨X, hP⟩ := q_start B.exec B.bytes hml (show s.vm.findClass RX5 = some m.cls from findClass_of_methodNamed B.named) (atoms_spec (ws := wsX5_state) B.pre) hv
  have hP : q_P g s0 n ad C s.heap := hP
  have hS : va_S (q_A s0) s.heap s.heap [] := va_S.rf
  have in5 : ∀ w ∈ wsX50, w ∈ wsX5_state := by decide +kernel
  have f0 := m_Rj hR
  have hl := lv_entry ([.ref (ad 5 0), .int (iI a), .int (iI b)]) (n := 5) (Nat.le_of_ble_eq_true rfl)
  rw [lg_entry_eq]
  generalize (lg_sl ([.ref (ad 5 0), .int (iI a), .int (iI b)]) ++ List.replicate (5 - (lg_sl ([.ref (ad 5 0), .int (iI a), .int (iI b)])).length) Slot.unset).toArray = ls at hl ⊢
  have hl : lv_has ls 5 [(0, .ref (ad 5 0)), (1, .int (iI a)), (2, .int (iI b))] := hl
  refine lv_aload_n X.1 X.2.1 dX5_state_0 rfl (lv_at hl 0 rfl) ?_
  refine lv_aload_n X.1 X.2.1 dX5_state_1 rfl (lv_at hl 0 rfl) ?_
  refine lv_iload_n X.1 X.2.1 dX5_state_2 rfl (lv_at hl 1 rfl) ?_
  refine va_calli (va_runV (As := [.int (iI a)]) (rest := [.ref (ad 5 0)]) X.fix (c_X5_isJob l g s0 n ad C c0 hM hR a ha) (cwV 1 X.2.2.2.2.1 gX5_state_X5_isJob rfl rfl rfl (by decide +kernel) ⟨Nat.le_of_ble_eq_true rfl, Nat.le_of_ble_eq_true rfl⟩) (q_preV X hP hS [.int (iI a)] (kd := 5) (by decide) rfl (m_v5 hM)) rfl rfl hl.1 rfl (lv_room (Nat.le_of_ble_eq_true rfl)) dX5_state_3 ⟨Nat.le_of_ble_eq_true rfl, Nat.le_of_ble_eq_true rfl⟩) hS q_id q_id1 (fun r u t H locs ht hvm hw hB hz1 hk1 hS => ?_)
  obtain ⟨rfl, ⟨h_1, rfl⟩ | ⟨h_1, rfl⟩⟩ := hw
  · have hP : q_P g s0 n ad (C) H := q_back hB ht
    have h_1 : 1 ≤ a ∧ a ≤ C 5 10 0 := h_1
    refine q_if_ne (tgt := 13) X (by decide) dX5_state_6 (by decide) (fun _ => ?_) (fun h => absurd h (by decide))
    refine lv_iload_n X.1 X.2.1 dX5_state_13 rfl (lv_at hl 2 rfl) ?_
    refine q_i2l X hb dX5_state_14 ?_
    refine lv_lconst (v := jI (0)) X.1 X.2.1 dX5_state_15 (by decide) ?_
    refine q_ldc2 (v := 4) (z := 4) X (by decide) (by decide +kernel) dX5_state_16 ?_
    refine va_calli (va_runS (As := [.long (jI b), .long (jI (0)), .long (jI (4))]) (rest := [.ref (ad 5 0)]) X.fix (c_X5_in l g s0 n ad C b (0) (4) (q_3264 hb) (by decide) (by decide)) (va_cwS 3 X.2.2.2.2.1 gX5_state_X5_in rfl rfl rfl (by decide +kernel) ⟨Nat.le_of_ble_eq_true rfl, Nat.le_of_ble_eq_true rfl⟩) (q_preS X hP hS _) rfl rfl hl.1 rfl (lv_room (Nat.le_of_ble_eq_true rfl)) dX5_state_19 ⟨Nat.le_of_ble_eq_true rfl, Nat.le_of_ble_eq_true rfl⟩) hS q_id q_id1 (fun r u t H locs ht hvm hw hB hz1 hk1 hS => ?_)
    obtain ⟨rfl, ⟨h_3, rfl⟩ | ⟨h_3, rfl⟩⟩ := hw
    · have hP : q_P g s0 n ad (C) H := q_back hB ht
      have h_3 : (0) ≤ b ∧ b ≤ (4) := h_3
      refine q_if_ne (tgt := 29) X (by decide) dX5_state_22 (by decide) (fun _ => ?_) (fun h => absurd h (by decide))
      refine lv_iconst (v := iI (0)) X.1 X.2.1 dX5_state_29 rfl ?_
      refine q_put (index := 82) (v := .int (iI (0))) X hP hS 5 0 0 ((0)) rfl rfl (by decide) in5 tyX5 tyX5_ok nmX5 (m_v5 hM) (by decide) (by decide +kernel) rfl rfl rfl rfl (show R32 _ from (by decide)) dX5_state_30 (fun H locs hP hS => ?_)
      have hP : q_P g s0 n ad (q_up C 5 0 0 ((0))) H := hP
      refine lv_aload_n X.1 X.2.1 dX5_state_33 rfl (lv_at hl 0 rfl) ?_
      refine q_get (index := 82) (v := .int (iI (0))) X hP 5 0 0 rfl rfl (by decide) in5 (m_v5 hM) (by decide) (by decide +kernel) rfl dX5_state_34 ?_
      refine q_if_le (tgt := 42) X (by decide) dX5_state_37 (by decide) (fun _ => ?_) (fun h => absurd h (by decide))
      refine lv_iload_n X.1 X.2.1 dX5_state_42 rfl (lv_at hl 2 rfl) ?_
      refine q_if_ne (tgt := 52) X hb dX5_state_43 (by decide) (fun h_6 => ?_) (fun h_6 => ?_)
      · refine lv_iload_n X.1 X.2.1 dX5_state_52 rfl (lv_at hl 2 rfl) ?_
        refine lv_iconst (v := iI (4)) X.1 X.2.1 dX5_state_53 rfl ?_
        refine q_icmp_ne (tgt := 72) X hb (by decide) dX5_state_54 (by decide) (fun h_7 => ?_) (fun h_7 => ?_)
        · refine lv_iconst (v := iI (0)) X.1 X.2.1 dX5_state_72 rfl ?_
          refine lv_istore_n (lv' := [(3, .int (iI (0))), (0, .ref (ad 5 0)), (1, .int (iI a)), (2, .int (iI b))]) X.1 X.2.1 dX5_state_73 rfl hl (by decide) rfl (fun ls hl => ?_)
          refine lv_iconst (v := iI (0)) X.1 X.2.1 dX5_state_74 rfl ?_
          refine lv_istore (lv' := [(4, .int (iI (0))), (3, .int (iI (0))), (0, .ref (ad 5 0)), (1, .int (iI a)), (2, .int (iI b))]) X.1 X.2.1 dX5_state_75 hl (by decide) rfl (fun ls hl => ?_)
          have e_8 : (0) = ((0 : Nat) : Int) := by rfl
          have e_9 : (0) = (m_sum C a b 0) := by rfl
          have hl : lv_has ls 5 [(4, .int (iI ((0 : Nat) : Int))), (3, .int (iI (m_sum C a b 0))), (0, .ref (ad 5 0)), (1, .int (iI a)), (2, .int (iI b))] := lv_cong (show lv_has ls 5 [(4, .int (iI (0))), (3, .int (iI (0))), (0, .ref (ad 5 0)), (1, .int (iI a)), (2, .int (iI b))] from lv_sub hl [0, 1, 2, 3, 4] rfl) (lv_cs (congrArg (fun z => Value.int (iI z)) e_8) (lv_cs (congrArg (fun z => Value.int (iI z)) e_9) (lv_cs rfl (lv_cs rfl (lv_cs rfl rfl)))))
          have f0 := m_Rk hR
          refine w_X5_state X in5 c0 hM hR hc0 a ha b hb (by omega) (m_pj hR a (by omega) (by omega)) (fun H locs ls hP hS hl => ?_) ((C 5 17 0).toNat + 1) 0 _ _ ls (by omega) (by omega) hP hS hl
          refine lv_iload_n X.1 X.2.1 dX5_state_144 rfl (lv_at hl 0 rfl) ?_
          exact q_iret X hr hlocks hP hS (Or.inl (⟨h_1, h_3, h_6, h_7, rfl, rfl⟩)) (Nat.le_of_ble_eq_true rfl) (Nat.le_of_ble_eq_true rfl) dX5_state_145
        · refine lv_aload_n X.1 X.2.1 dX5_state_57 rfl (lv_at hl 0 rfl) ?_
          refine q_get (index := 44) (v := .ref (ad 35 0)) X hP 5 15 0 rfl rfl (by decide) in5 (m_v5 hM) (by decide) (by decide +kernel) (m_r hM ad 15 35 (by decide)) dX5_state_58 ?_
          refine lv_iload_n X.1 X.2.1 dX5_state_61 rfl (lv_at hl 1 rfl) ?_
          refine q_zldv (len := 61) (v := (C 35 ((a).toNat) 0)) X hP 35 0 (by decide) rfl rfl (m_va hM 15 (by decide) rfl) rfl (by omega) (by omega) rfl dX5_state_62 ?_
          refine q_if_eq (tgt := 70) X (q_b32 (hP.tok 35 ((a).toNat) 0 rfl)) dX5_state_63 (by decide) (fun h_10 => ?_) (fun h_10 => ?_)
          · refine lv_iconst (v := iI (0)) X.1 X.2.1 dX5_state_70 rfl ?_
            exact q_iret X hr hlocks hP hS (Or.inr (Or.inl (⟨h_1, h_3, h_6, h_7, h_10, rfl, rfl⟩))) (Nat.le_of_ble_eq_true rfl) (Nat.le_of_ble_eq_true rfl) dX5_state_71
          · refine lv_iconst (v := iI (1)) X.1 X.2.1 dX5_state_66 rfl ?_
            refine lv_goto (tgt := 71) X.1 X.2.1 dX5_state_67 (by decide) ?_
            exact q_iret X hr hlocks hP hS (Or.inr (Or.inr (Or.inl (⟨h_1, h_3, h_6, h_7, h_10, rfl, rfl⟩)))) (Nat.le_of_ble_eq_true rfl) (Nat.le_of_ble_eq_true rfl) dX5_state_71
      · refine lv_aload_n X.1 X.2.1 dX5_state_46 rfl (lv_at hl 0 rfl) ?_
        refine lv_iload_n X.1 X.2.1 dX5_state_47 rfl (lv_at hl 1 rfl) ?_
        refine va_calli (va_runV (As := [.int (iI a)]) (rest := []) X.fix (c_X5_stateOf l g s0 n ad (q_up C 5 0 0 ((0))) c0 (m_S.up hM (Or.inr (by decide))) hR hc0 a ha (by omega)) (cwV 1 X.2.2.2.2.1 gX5_state_X5_stateOf rfl rfl rfl (by decide +kernel) ⟨Nat.le_of_ble_eq_true rfl, Nat.le_of_ble_eq_true rfl⟩) (q_preV X hP hS [.int (iI a)] (kd := 5) (by decide) rfl (m_v5 hM)) rfl rfl hl.1 rfl (lv_room (Nat.le_of_ble_eq_true rfl)) dX5_state_48 ⟨Nat.le_of_ble_eq_true rfl, Nat.le_of_ble_eq_true rfl⟩) hS q_id q_id1 (fun r u t H locs ht hvm hw hB hz1 hk1 hS => ?_)
        obtain ⟨rfl, rfl⟩ := hw
        have hP : q_P g s0 n ad (q_up C 5 0 0 ((0))) H := q_back hB ht
        exact q_iret X hr hlocks hP hS (Or.inr (Or.inr (Or.inr (Or.inl (⟨h_1, h_3, h_6, rfl, rfl⟩))))) (Nat.le_of_ble_eq_true rfl) (Nat.le_of_ble_eq_true rfl) dX5_state_51
    · have hP : q_P g s0 n ad (C) H := q_back hB ht
      have h_3 : ¬ ((0) ≤ b ∧ b ≤ (4)) := h_3
      refine q_if_ne (tgt := 29) X (by decide) dX5_state_22 (by decide) (fun h => absurd h (by decide)) (fun _ => ?_)
      refine lv_iconst (v := iI (2)) X.1 X.2.1 dX5_state_25 rfl ?_
      refine lv_goto (tgt := 30) X.1 X.2.1 dX5_state_26 (by decide) ?_
      refine q_put (index := 82) (v := .int (iI (2))) X hP hS 5 0 0 ((2)) rfl rfl (by decide) in5 tyX5 tyX5_ok nmX5 (m_v5 hM) (by decide) (by decide +kernel) rfl rfl rfl rfl (show R32 _ from (by decide)) dX5_state_30 (fun H locs hP hS => ?_)
      have hP : q_P g s0 n ad (q_up C 5 0 0 ((2))) H := hP
      refine lv_aload_n X.1 X.2.1 dX5_state_33 rfl (lv_at hl 0 rfl) ?_
      refine q_get (index := 82) (v := .int (iI (2))) X hP 5 0 0 rfl rfl (by decide) in5 (m_v5 hM) (by decide) (by decide +kernel) rfl dX5_state_34 ?_
      refine q_if_le (tgt := 42) X (by decide) dX5_state_37 (by decide) (fun h => absurd h (by decide)) (fun _ => ?_)
      refine lv_iconst (v := iI (0)) X.1 X.2.1 dX5_state_40 rfl ?_
      exact q_iret X hr hlocks hP hS (Or.inr (Or.inr (Or.inr (Or.inr (Or.inl (⟨h_1, h_3, rfl, rfl⟩)))))) (Nat.le_of_ble_eq_true rfl) (Nat.le_of_ble_eq_true rfl) dX5_state_41
  · have hP : q_P g s0 n ad (C) H := q_back hB ht
    have h_1 : ¬ (1 ≤ a ∧ a ≤ C 5 10 0) := h_1
    refine q_if_ne (tgt := 13) X (by decide) dX5_state_6 (by decide) (fun h => absurd h (by decide)) (fun _ => ?_)
    refine lv_iconst (v := iI (1)) X.1 X.2.1 dX5_state_9 rfl ?_
    refine lv_goto (tgt := 30) X.1 X.2.1 dX5_state_10 (by decide) ?_
    refine q_put (index := 82) (v := .int (iI (1))) X hP hS 5 0 0 ((1)) rfl rfl (by decide) in5 tyX5 tyX5_ok nmX5 (m_v5 hM) (by decide) (by decide +kernel) rfl rfl rfl rfl (show R32 _ from (by decide)) dX5_state_30 (fun H locs hP hS => ?_)
    have hP : q_P g s0 n ad (q_up C 5 0 0 ((1))) H := hP
    refine lv_aload_n X.1 X.2.1 dX5_state_33 rfl (lv_at hl 0 rfl) ?_
    refine q_get (index := 82) (v := .int (iI (1))) X hP 5 0 0 rfl rfl (by decide) in5 (m_v5 hM) (by decide) (by decide +kernel) rfl dX5_state_34 ?_
    refine q_if_le (tgt := 42) X (by decide) dX5_state_37 (by decide) (fun h => absurd h (by decide)) (fun _ => ?_)
    refine lv_iconst (v := iI (0)) X.1 X.2.1 dX5_state_40 rfl ?_
    exact q_iret X hr hlocks hP hS (Or.inr (Or.inr (Or.inr (Or.inr (Or.inr (⟨h_1, rfl, rfl⟩)))))) (Nat.le_of_ble_eq_true rfl) (Nat.le_of_ble_eq_true rfl) dX5_state_41
set_option maxHeartbeats 4000000 in
set_option maxRecDepth 100000 in
theorem w_X5_doubled {p : Program} {l : Launch} {e : Env} {s : State} {m : MethodId} {args : Array Value} {below : List Frame} {meth : Method} {c : Code} {Q : State → Prop} {g : q_G} {s0 : Nat} {n : Nat → Nat} {ad : Nat → Nat → Nat} {C : q_S} (X : q_X p s m args c cX5_doubled 6 wsX5_doubled RX5 g s0) (in5 : ∀ w ∈ wsX50, w ∈ wsX5_doubled) (c0 : Nat) (hM : m_S C n) (hR : m_R C c0) (hc0 : c0 ≤ 600) (a : Int) (ha : R32 a) (b : Int) (hb : R32 b) (kx : ∀  (H : Heap) (locs : List Loc) (ls : Array Slot), q_P g s0 n ad (q_up C 5 0 0 (0)) H → va_S (q_A s0) s.heap H locs → lv_has ls 6 [(3, .int (iI (m_dn C a (C 5 25 0).toNat))), (4, .int (iI (m_dt C a b (C 5 25 0).toNat))), (0, .ref (ad 5 0)), (1, .int (iI a)), (2, .int (iI b))] → W p l e ({ frames := 2, cells := 0, slots := 0, locals := 46 }) s m args below meth c H locs 0 0 Q (F0 m 82 ls [])) :
    ∀ (N : Nat) (k : Nat) (H : Heap) (locs : List Loc) (ls : Array Slot), (C 5 25 0 < (k : Int) + N) → ((k : Int) ≤ C 5 25 0) → q_P g s0 n ad (q_up C 5 0 0 (0)) H → va_S (q_A s0) s.heap H locs → lv_has ls 6 [(5, .int (iI ((k : Nat) : Int))), (3, .int (iI (m_dn C a k))), (4, .int (iI (m_dt C a b k))), (0, .ref (ad 5 0)), (1, .int (iI a)), (2, .int (iI b))] → W p l e ({ frames := 2, cells := 0, slots := 0, locals := 46 }) s m args below meth c H locs 0 0 Q (F0 m 34 ls []) := by
  intro N
  induction N with
  | zero =>
    intro k H locs ls h1 h2 hP hS hl
    exact absurd h1 (by omega)
  | succ N ih =>
    intro k H locs ls h1 h2 hP hS hl
    have f0 := m_Rw hR
    have f9 := m_dn_b C a k
    refine lv_iload X.1 X.2.1 dX5_doubled_34 (lv_at hl 0 rfl) ?_
    refine lv_aload_n X.1 X.2.1 dX5_doubled_36 rfl (lv_at hl 3 rfl) ?_
    refine q_get (index := 156) (v := .int (iI (C 5 25 0))) X hP 5 25 0 rfl rfl (by decide) in5 (m_v5 hM) (by decide) (by decide +kernel) rfl dX5_doubled_37 ?_
    have f_1 := m_Rw hR
    refine q_icmp_ge (tgt := 82) X (by omega) (hP.tok 5 25 0 rfl) dX5_doubled_40 (by decide) (fun h_2 => ?_) (fun h_2 => ?_)
    · have ek : k = (C 5 25 0).toNat := by omega
      have e_3 : (m_dn C a k) = (m_dn C a (C 5 25 0).toNat) := by rw [ek]
      have e_4 : (m_dt C a b k) = (m_dt C a b (C 5 25 0).toNat) := by rw [ek]
      have hl : lv_has ls 6 [(3, .int (iI (m_dn C a (C 5 25 0).toNat))), (4, .int (iI (m_dt C a b (C 5 25 0).toNat))), (0, .ref (ad 5 0)), (1, .int (iI a)), (2, .int (iI b))] := lv_cong (show lv_has ls 6 [(3, .int (iI (m_dn C a k))), (4, .int (iI (m_dt C a b k))), (0, .ref (ad 5 0)), (1, .int (iI a)), (2, .int (iI b))] from lv_sub hl [1, 2, 3, 4, 5] rfl) (lv_cs (congrArg (fun z => Value.int (iI z)) e_3) (lv_cs (congrArg (fun z => Value.int (iI z)) e_4) (lv_cs rfl (lv_cs rfl (lv_cs rfl rfl)))))
      exact kx _ _ ls hP hS hl
    · refine lv_aload_n X.1 X.2.1 dX5_doubled_43 rfl (lv_at hl 3 rfl) ?_
      refine q_get (index := 72) (v := .ref (ad 46 0)) X hP 5 26 0 rfl rfl (by decide) in5 (m_v5 hM) (by decide) (by decide +kernel) (m_r hM ad 26 46 (by decide)) dX5_doubled_44 ?_
      refine lv_iload X.1 X.2.1 dX5_doubled_47 (lv_at hl 0 rfl) ?_
      refine q_ildv (len := 4200) (v := (C 46 k 0)) X hP 46 0 (by decide) rfl rfl (m_va hM 26 (by decide) rfl) rfl (by omega) (by omega) rfl dX5_doubled_49 ?_
      refine lv_iload_n X.1 X.2.1 dX5_doubled_50 rfl (lv_at hl 4 rfl) ?_
      refine q_icmp_ne (tgt := 76) X (hP.tok 46 k 0 rfl) ha dX5_doubled_51 (by decide) (fun h_5 => ?_) (fun h_5 => ?_)
      · refine q_iinc (lv' := [(5, .int (iI (((k : Nat) : Int) + 1))), (3, .int (iI (m_dn C a k))), (4, .int (iI (m_dt C a b k))), (0, .ref (ad 5 0)), (1, .int (iI a)), (2, .int (iI b))]) (k := 0) X dX5_doubled_76 hl rfl (by decide) rfl (fun ls hl => ?_)
        refine lv_goto (tgt := 34) X.1 X.2.1 dX5_doubled_79 (by decide) ?_
        have e_6 : (((k : Nat) : Int) + 1) = (((k + 1) : Nat) : Int) := by omega
        have e_7 : (m_dn C a k) = (m_dn C a (k + 1)) := by rw [m_dn]; first | (rw [if_neg (by assumption)]; done) | (rw [if_pos (by assumption)]; skip)
        have e_8 : (m_dt C a b k) = (m_dt C a b (k + 1)) := by rw [m_dt]; first | (rw [if_pos ⟨by assumption, by assumption⟩]; done) | (rw [if_neg (fun q => by obtain ⟨q1, q2⟩ := q; contradiction)]; done)
        have hl : lv_has ls 6 [(5, .int (iI (((k + 1) : Nat) : Int))), (3, .int (iI (m_dn C a (k + 1)))), (4, .int (iI (m_dt C a b (k + 1)))), (0, .ref (ad 5 0)), (1, .int (iI a)), (2, .int (iI b))] := lv_cong (show lv_has ls 6 [(5, .int (iI (((k : Nat) : Int) + 1))), (3, .int (iI (m_dn C a k))), (4, .int (iI (m_dt C a b k))), (0, .ref (ad 5 0)), (1, .int (iI a)), (2, .int (iI b))] from lv_sub hl [0, 1, 2, 3, 4, 5] rfl) (lv_cs (congrArg (fun z => Value.int (iI z)) e_6) (lv_cs (congrArg (fun z => Value.int (iI z)) e_7) (lv_cs (congrArg (fun z => Value.int (iI z)) e_8) (lv_cs rfl (lv_cs rfl (lv_cs rfl rfl))))))
        exact ih (k + 1) _ _ ls (by omega) (by omega) hP hS hl
      · refine lv_iload_n X.1 X.2.1 dX5_doubled_54 rfl (lv_at hl 1 rfl) ?_
        refine lv_iload_n X.1 X.2.1 dX5_doubled_55 rfl (lv_at hl 5 rfl) ?_
        refine q_icmp_ne (tgt := 69) X (by omega) hb dX5_doubled_56 (by decide) (fun h_9 => ?_) (fun h_9 => ?_)
        · refine lv_iload X.1 X.2.1 dX5_doubled_69 (lv_at hl 2 rfl) ?_
          refine lv_istore (lv' := [(4, .int (iI (m_dt C a b k))), (5, .int (iI ((k : Nat) : Int))), (3, .int (iI (m_dn C a k))), (0, .ref (ad 5 0)), (1, .int (iI a)), (2, .int (iI b))]) X.1 X.2.1 dX5_doubled_71 hl (by decide) rfl (fun ls hl => ?_)
          refine q_iinc (lv' := [(3, .int (iI ((m_dn C a k) + 1))), (4, .int (iI (m_dt C a b k))), (5, .int (iI ((k : Nat) : Int))), (0, .ref (ad 5 0)), (1, .int (iI a)), (2, .int (iI b))]) (k := 2) X dX5_doubled_73 hl rfl (by decide) rfl (fun ls hl => ?_)
          refine q_iinc (lv' := [(5, .int (iI (((k : Nat) : Int) + 1))), (3, .int (iI ((m_dn C a k) + 1))), (4, .int (iI (m_dt C a b k))), (0, .ref (ad 5 0)), (1, .int (iI a)), (2, .int (iI b))]) (k := 2) X dX5_doubled_76 hl rfl (by decide) rfl (fun ls hl => ?_)
          refine lv_goto (tgt := 34) X.1 X.2.1 dX5_doubled_79 (by decide) ?_
          have e_10 : (((k : Nat) : Int) + 1) = (((k + 1) : Nat) : Int) := by omega
          have e_11 : ((m_dn C a k) + 1) = (m_dn C a (k + 1)) := by rw [m_dn]; first | (rw [if_neg (by assumption)]; done) | (rw [if_pos (by assumption)]; skip)
          have e_12 : (m_dt C a b k) = (m_dt C a b (k + 1)) := by rw [m_dt]; first | (rw [if_pos ⟨by assumption, by assumption⟩]; done) | (rw [if_neg (fun q => by obtain ⟨q1, q2⟩ := q; contradiction)]; done)
          have hl : lv_has ls 6 [(5, .int (iI (((k + 1) : Nat) : Int))), (3, .int (iI (m_dn C a (k + 1)))), (4, .int (iI (m_dt C a b (k + 1)))), (0, .ref (ad 5 0)), (1, .int (iI a)), (2, .int (iI b))] := lv_cong (show lv_has ls 6 [(5, .int (iI (((k : Nat) : Int) + 1))), (3, .int (iI ((m_dn C a k) + 1))), (4, .int (iI (m_dt C a b k))), (0, .ref (ad 5 0)), (1, .int (iI a)), (2, .int (iI b))] from lv_sub hl [0, 1, 2, 3, 4, 5] rfl) (lv_cs (congrArg (fun z => Value.int (iI z)) e_10) (lv_cs (congrArg (fun z => Value.int (iI z)) e_11) (lv_cs (congrArg (fun z => Value.int (iI z)) e_12) (lv_cs rfl (lv_cs rfl (lv_cs rfl rfl))))))
          exact ih (k + 1) _ _ ls (by omega) (by omega) hP hS hl
        · refine lv_aload_n X.1 X.2.1 dX5_doubled_59 rfl (lv_at hl 3 rfl) ?_
          refine q_get (index := 75) (v := .ref (ad 47 0)) X hP 5 27 0 rfl rfl (by decide) in5 (m_v5 hM) (by decide) (by decide +kernel) (m_r hM ad 27 47 (by decide)) dX5_doubled_60 ?_
          refine lv_iload X.1 X.2.1 dX5_doubled_63 (lv_at hl 0 rfl) ?_
          refine q_ildv (len := 4200) (v := (C 47 k 0)) X hP 47 0 (by decide) rfl rfl (m_va hM 27 (by decide) rfl) rfl (by omega) (by omega) rfl dX5_doubled_65 ?_
          refine lv_goto (tgt := 71) X.1 X.2.1 dX5_doubled_66 (by decide) ?_
          refine lv_istore (lv' := [(4, .int (iI (C 47 k 0))), (5, .int (iI ((k : Nat) : Int))), (3, .int (iI (m_dn C a k))), (0, .ref (ad 5 0)), (1, .int (iI a)), (2, .int (iI b))]) X.1 X.2.1 dX5_doubled_71 hl (by decide) rfl (fun ls hl => ?_)
          refine q_iinc (lv' := [(3, .int (iI ((m_dn C a k) + 1))), (4, .int (iI (C 47 k 0))), (5, .int (iI ((k : Nat) : Int))), (0, .ref (ad 5 0)), (1, .int (iI a)), (2, .int (iI b))]) (k := 2) X dX5_doubled_73 hl rfl (by decide) rfl (fun ls hl => ?_)
          refine q_iinc (lv' := [(5, .int (iI (((k : Nat) : Int) + 1))), (3, .int (iI ((m_dn C a k) + 1))), (4, .int (iI (C 47 k 0))), (0, .ref (ad 5 0)), (1, .int (iI a)), (2, .int (iI b))]) (k := 2) X dX5_doubled_76 hl rfl (by decide) rfl (fun ls hl => ?_)
          refine lv_goto (tgt := 34) X.1 X.2.1 dX5_doubled_79 (by decide) ?_
          have e_13 : (((k : Nat) : Int) + 1) = (((k + 1) : Nat) : Int) := by omega
          have e_14 : ((m_dn C a k) + 1) = (m_dn C a (k + 1)) := by rw [m_dn]; first | (rw [if_neg (by assumption)]; done) | (rw [if_pos (by assumption)]; skip)
          have e_15 : (C 47 k 0) = (m_dt C a b (k + 1)) := by rw [m_dt]; first | (rw [if_pos ⟨by assumption, by assumption⟩]; done) | (rw [if_neg (fun q => by obtain ⟨q1, q2⟩ := q; contradiction)]; done)
          have hl : lv_has ls 6 [(5, .int (iI (((k + 1) : Nat) : Int))), (3, .int (iI (m_dn C a (k + 1)))), (4, .int (iI (m_dt C a b (k + 1)))), (0, .ref (ad 5 0)), (1, .int (iI a)), (2, .int (iI b))] := lv_cong (show lv_has ls 6 [(5, .int (iI (((k : Nat) : Int) + 1))), (3, .int (iI ((m_dn C a k) + 1))), (4, .int (iI (C 47 k 0))), (0, .ref (ad 5 0)), (1, .int (iI a)), (2, .int (iI b))] from lv_sub hl [0, 1, 2, 3, 4, 5] rfl) (lv_cs (congrArg (fun z => Value.int (iI z)) e_13) (lv_cs (congrArg (fun z => Value.int (iI z)) e_14) (lv_cs (congrArg (fun z => Value.int (iI z)) e_15) (lv_cs rfl (lv_cs rfl (lv_cs rfl rfl))))))
          exact ih (k + 1) _ _ ls (by omega) (by omega) hP hS hl
def tX5_doubled (n : Nat → Nat) (ad : Nat → Nat → Nat) (C : q_S) (a b : Int) (r : Int32) (u : q_U) : Prop :=
  ((1 ≤ a ∧ a ≤ C 5 10 0) ∧ (¬ b = (-1)) ∧ (¬ (m_dt C a b (C 5 25 0).toNat) = (-1)) ∧ u = (n, ad, q_up (q_up C 5 0 0 ((0))) 5 0 0 ((0))) ∧ r = iI (m_dt C a b (C 5 25 0).toNat)) ∨
  ((1 ≤ a ∧ a ≤ C 5 10 0) ∧ (¬ b = (-1)) ∧ ((m_dt C a b (C 5 25 0).toNat) = (-1)) ∧ u = (n, ad, q_up (q_up C 5 0 0 ((0))) 5 0 0 ((2))) ∧ r = iI (0)) ∨
  ((1 ≤ a ∧ a ≤ C 5 10 0) ∧ (b = (-1)) ∧ u = (n, ad, q_up C 5 0 0 ((0))) ∧ r = iI (m_dn C a (C 5 25 0).toNat)) ∨
  ((¬ (1 ≤ a ∧ a ≤ C 5 10 0)) ∧ u = (n, ad, q_up C 5 0 0 ((1))) ∧ r = iI (0))
set_option maxHeartbeats 4000000 in
set_option maxRecDepth 100000 in
theorem c_X5_doubled (l : Launch) (g : q_G) (s0 : Nat) (n : Nat → Nat) (ad : Nat → Nat → Nat) (C : q_S) (c0 : Nat) (hM : m_S C n) (hR : m_R C c0) (hc0 : c0 ≤ 600) (a b : Int) (ha : R32 a) (hb : R32 b)  : Met l yX5_doubled wsX5_doubled ({ frames := 2, cells := 0, slots := 0, locals := 46 }) (va_Pc [.ref (ad 5 0), .int (iI a), .int (iI b)] (q_B g s0 (n, ad, C))) (va_Qi (tX5_doubled n ad C a b) (q_B g s0) (q_A s0)) 0 0 (q_A s0) := by
  refine Met.ofW (cc := cX5_doubled) (maxL := 6) (ret := (some .int)) (by decide) rfl ?_
  intro p e s m args below meth c s₁ B hml hv
  obtain ⟨rfl, hv⟩ := hv
  have hr := B.returns
  have hlocks := B.notSynchronized
  obtain ⟨X, hP⟩ := q_start B.exec B.bytes hml (show s.vm.findClass RX5 = some m.cls from findClass_of_methodNamed B.named) (atoms_spec (ws := wsX5_doubled) B.pre) hv
  have hP : q_P g s0 n ad C s.heap := hP
  have hS : va_S (q_A s0) s.heap s.heap [] := va_S.rf
  have in5 : ∀ w ∈ wsX50, w ∈ wsX5_doubled := by decide +kernel
  have f0 := m_Rj hR
  have hl := lv_entry ([.ref (ad 5 0), .int (iI a), .int (iI b)]) (n := 6) (Nat.le_of_ble_eq_true rfl)
  rw [lg_entry_eq]
  generalize (lg_sl ([.ref (ad 5 0), .int (iI a), .int (iI b)]) ++ List.replicate (6 - (lg_sl ([.ref (ad 5 0), .int (iI a), .int (iI b)])).length) Slot.unset).toArray = ls at hl ⊢
  have hl : lv_has ls 6 [(0, .ref (ad 5 0)), (1, .int (iI a)), (2, .int (iI b))] := hl
  refine lv_aload_n X.1 X.2.1 dX5_doubled_0 rfl (lv_at hl 0 rfl) ?_
  refine lv_aload_n X.1 X.2.1 dX5_doubled_1 rfl (lv_at hl 0 rfl) ?_
  refine lv_iload_n X.1 X.2.1 dX5_doubled_2 rfl (lv_at hl 1 rfl) ?_
  refine va_calli (va_runV (As := [.int (iI a)]) (rest := [.ref (ad 5 0)]) X.fix (c_X5_isJob l g s0 n ad C c0 hM hR a ha) (cwV 1 X.2.2.2.2.1 gX5_doubled_X5_isJob rfl rfl rfl (by decide +kernel) ⟨Nat.le_of_ble_eq_true rfl, Nat.le_of_ble_eq_true rfl⟩) (q_preV X hP hS [.int (iI a)] (kd := 5) (by decide) rfl (m_v5 hM)) rfl rfl hl.1 rfl (lv_room (Nat.le_of_ble_eq_true rfl)) dX5_doubled_3 ⟨Nat.le_of_ble_eq_true rfl, Nat.le_of_ble_eq_true rfl⟩) hS q_id q_id1 (fun r u t H locs ht hvm hw hB hz1 hk1 hS => ?_)
  obtain ⟨rfl, ⟨h_1, rfl⟩ | ⟨h_1, rfl⟩⟩ := hw
  · have hP : q_P g s0 n ad (C) H := q_back hB ht
    have h_1 : 1 ≤ a ∧ a ≤ C 5 10 0 := h_1
    refine q_if_eq (tgt := 13) X (by decide) dX5_doubled_6 (by decide) (fun h => absurd h (by decide)) (fun _ => ?_)
    refine lv_iconst (v := iI (0)) X.1 X.2.1 dX5_doubled_9 rfl ?_
    refine lv_goto (tgt := 14) X.1 X.2.1 dX5_doubled_10 (by decide) ?_
    refine q_put (index := 82) (v := .int (iI (0))) X hP hS 5 0 0 ((0)) rfl rfl (by decide) in5 tyX5 tyX5_ok nmX5 (m_v5 hM) (by decide) (by decide +kernel) rfl rfl rfl rfl (show R32 _ from (by decide)) dX5_doubled_14 (fun H locs hP hS => ?_)
    have hP : q_P g s0 n ad (q_up C 5 0 0 ((0))) H := hP
    refine lv_aload_n X.1 X.2.1 dX5_doubled_17 rfl (lv_at hl 0 rfl) ?_
    refine q_get (index := 82) (v := .int (iI (0))) X hP 5 0 0 rfl rfl (by decide) in5 (m_v5 hM) (by decide) (by decide +kernel) rfl dX5_doubled_18 ?_
    refine q_if_le (tgt := 26) X (by decide) dX5_doubled_21 (by decide) (fun _ => ?_) (fun h => absurd h (by decide))
    refine lv_iconst (v := iI (0)) X.1 X.2.1 dX5_doubled_26 rfl ?_
    refine lv_istore_n (lv' := [(3, .int (iI (0))), (0, .ref (ad 5 0)), (1, .int (iI a)), (2, .int (iI b))]) X.1 X.2.1 dX5_doubled_27 rfl hl (by decide) rfl (fun ls hl => ?_)
    refine lv_iconst (v := iI (-1)) X.1 X.2.1 dX5_doubled_28 rfl ?_
    refine lv_istore (lv' := [(4, .int (iI (-1))), (3, .int (iI (0))), (0, .ref (ad 5 0)), (1, .int (iI a)), (2, .int (iI b))]) X.1 X.2.1 dX5_doubled_29 hl (by decide) rfl (fun ls hl => ?_)
    refine lv_iconst (v := iI (0)) X.1 X.2.1 dX5_doubled_31 rfl ?_
    refine lv_istore (lv' := [(5, .int (iI (0))), (4, .int (iI (-1))), (3, .int (iI (0))), (0, .ref (ad 5 0)), (1, .int (iI a)), (2, .int (iI b))]) X.1 X.2.1 dX5_doubled_32 hl (by decide) rfl (fun ls hl => ?_)
    have e_4 : (0) = ((0 : Nat) : Int) := by rfl
    have e_5 : (0) = (m_dn C a 0) := by rfl
    have e_6 : (-1) = (m_dt C a b 0) := by rfl
    have hl : lv_has ls 6 [(5, .int (iI ((0 : Nat) : Int))), (3, .int (iI (m_dn C a 0))), (4, .int (iI (m_dt C a b 0))), (0, .ref (ad 5 0)), (1, .int (iI a)), (2, .int (iI b))] := lv_cong (show lv_has ls 6 [(5, .int (iI (0))), (3, .int (iI (0))), (4, .int (iI (-1))), (0, .ref (ad 5 0)), (1, .int (iI a)), (2, .int (iI b))] from lv_sub hl [0, 2, 1, 3, 4, 5] rfl) (lv_cs (congrArg (fun z => Value.int (iI z)) e_4) (lv_cs (congrArg (fun z => Value.int (iI z)) e_5) (lv_cs (congrArg (fun z => Value.int (iI z)) e_6) (lv_cs rfl (lv_cs rfl (lv_cs rfl rfl))))))
    have f0 := m_Rw hR
    refine w_X5_doubled X in5 c0 hM hR hc0 a ha b hb (fun H locs ls hP hS hl => ?_) ((C 5 25 0).toNat + 1) 0 _ _ ls (by omega) (by omega) hP hS hl
    have f8 := m_dt_r (hP) a b (C 5 25 0).toNat
    have f7 : R32 (m_dt C a b (C 5 25 0).toNat) := m_dt_up f8
    refine lv_iload_n X.1 X.2.1 dX5_doubled_82 rfl (lv_at hl 4 rfl) ?_
    refine lv_iconst (v := iI (-1)) X.1 X.2.1 dX5_doubled_83 rfl ?_
    refine q_icmp_ne (tgt := 89) X hb (by decide) dX5_doubled_84 (by decide) (fun h_7 => ?_) (fun h_7 => ?_)
    · refine lv_aload_n X.1 X.2.1 dX5_doubled_89 rfl (lv_at hl 2 rfl) ?_
      refine lv_iload X.1 X.2.1 dX5_doubled_90 (lv_at hl 1 rfl) ?_
      refine lv_iconst (v := iI (-1)) X.1 X.2.1 dX5_doubled_92 rfl ?_
      refine q_icmp_ne (tgt := 100) X f7 (by decide) dX5_doubled_93 (by decide) (fun h_8 => ?_) (fun h_8 => ?_)
      · refine lv_iconst (v := iI (0)) X.1 X.2.1 dX5_doubled_100 rfl ?_
        refine q_put (index := 82) (v := .int (iI (0))) X hP hS 5 0 0 ((0)) rfl rfl (by decide) in5 tyX5 tyX5_ok nmX5 (m_v5 hM) (by decide) (by decide +kernel) rfl rfl rfl rfl (show R32 _ from (by decide)) dX5_doubled_101 (fun H locs hP hS => ?_)
        have hP : q_P g s0 n ad (q_up (q_up C 5 0 0 ((0))) 5 0 0 ((0))) H := hP
        refine lv_aload_n X.1 X.2.1 dX5_doubled_104 rfl (lv_at hl 2 rfl) ?_
        refine q_get (index := 82) (v := .int (iI (0))) X hP 5 0 0 rfl rfl (by decide) in5 (m_v5 hM) (by decide) (by decide +kernel) rfl dX5_doubled_105 ?_
        refine q_if_le (tgt := 115) X (by decide) dX5_doubled_108 (by decide) (fun _ => ?_) (fun h => absurd h (by decide))
        refine lv_iload X.1 X.2.1 dX5_doubled_115 (lv_at hl 1 rfl) ?_
        exact q_iret X hr hlocks hP hS (Or.inl (⟨h_1, h_7, h_8, rfl, rfl⟩)) (Nat.le_of_ble_eq_true rfl) (Nat.le_of_ble_eq_true rfl) dX5_doubled_117
      · refine lv_iconst (v := iI (2)) X.1 X.2.1 dX5_doubled_96 rfl ?_
        refine lv_goto (tgt := 101) X.1 X.2.1 dX5_doubled_97 (by decide) ?_
        refine q_put (index := 82) (v := .int (iI (2))) X hP hS 5 0 0 ((2)) rfl rfl (by decide) in5 tyX5 tyX5_ok nmX5 (m_v5 hM) (by decide) (by decide +kernel) rfl rfl rfl rfl (show R32 _ from (by decide)) dX5_doubled_101 (fun H locs hP hS => ?_)
        have hP : q_P g s0 n ad (q_up (q_up C 5 0 0 ((0))) 5 0 0 ((2))) H := hP
        refine lv_aload_n X.1 X.2.1 dX5_doubled_104 rfl (lv_at hl 2 rfl) ?_
        refine q_get (index := 82) (v := .int (iI (2))) X hP 5 0 0 rfl rfl (by decide) in5 (m_v5 hM) (by decide) (by decide +kernel) rfl dX5_doubled_105 ?_
        refine q_if_le (tgt := 115) X (by decide) dX5_doubled_108 (by decide) (fun h => absurd h (by decide)) (fun _ => ?_)
        refine lv_iconst (v := iI (0)) X.1 X.2.1 dX5_doubled_111 rfl ?_
        refine lv_goto (tgt := 117) X.1 X.2.1 dX5_doubled_112 (by decide) ?_
        exact q_iret X hr hlocks hP hS (Or.inr (Or.inl (⟨h_1, h_7, h_8, rfl, rfl⟩))) (Nat.le_of_ble_eq_true rfl) (Nat.le_of_ble_eq_true rfl) dX5_doubled_117
    · refine lv_iload_n X.1 X.2.1 dX5_doubled_87 rfl (lv_at hl 0 rfl) ?_
      exact q_iret X hr hlocks hP hS (Or.inr (Or.inr (Or.inl (⟨h_1, h_7, rfl, rfl⟩)))) (Nat.le_of_ble_eq_true rfl) (Nat.le_of_ble_eq_true rfl) dX5_doubled_88
  · have hP : q_P g s0 n ad (C) H := q_back hB ht
    have h_1 : ¬ (1 ≤ a ∧ a ≤ C 5 10 0) := h_1
    refine q_if_eq (tgt := 13) X (by decide) dX5_doubled_6 (by decide) (fun _ => ?_) (fun h => absurd h (by decide))
    refine lv_iconst (v := iI (1)) X.1 X.2.1 dX5_doubled_13 rfl ?_
    refine q_put (index := 82) (v := .int (iI (1))) X hP hS 5 0 0 ((1)) rfl rfl (by decide) in5 tyX5 tyX5_ok nmX5 (m_v5 hM) (by decide) (by decide +kernel) rfl rfl rfl rfl (show R32 _ from (by decide)) dX5_doubled_14 (fun H locs hP hS => ?_)
    have hP : q_P g s0 n ad (q_up C 5 0 0 ((1))) H := hP
    refine lv_aload_n X.1 X.2.1 dX5_doubled_17 rfl (lv_at hl 0 rfl) ?_
    refine q_get (index := 82) (v := .int (iI (1))) X hP 5 0 0 rfl rfl (by decide) in5 (m_v5 hM) (by decide) (by decide +kernel) rfl dX5_doubled_18 ?_
    refine q_if_le (tgt := 26) X (by decide) dX5_doubled_21 (by decide) (fun h => absurd h (by decide)) (fun _ => ?_)
    refine lv_iconst (v := iI (0)) X.1 X.2.1 dX5_doubled_24 rfl ?_
    exact q_iret X hr hlocks hP hS (Or.inr (Or.inr (Or.inr (⟨h_1, rfl, rfl⟩)))) (Nat.le_of_ble_eq_true rfl) (Nat.le_of_ble_eq_true rfl) dX5_doubled_25
