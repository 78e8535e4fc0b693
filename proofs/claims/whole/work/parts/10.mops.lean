/-! the model's operations: each contract's post is the table of its paths -/
theorem m_pg {C : q_S} {c0 : Nat} (hR : m_R C c0) (k : Nat) (hk : (k : Int) < C 5 17 0) : 1 ≤ C 38 k 0 ∧ 1 ≤ C 31 (C 38 k 0).toNat 0 ∧ 1 ≤ C 32 (C 38 k 0).toNat 0 := by
  have h1 := hR.2.2.2.2.2.2.2.2.2.2.2.2.2.2.2.2.2.2.1 k hk
  have h2 := hR.2.2.2.2.2.2.2.2.2.2.2.2.2.2.2.2.2.2.2.1 (C 38 k 0).toNat (by omega) (by omega)
  exact ⟨h1.1, h2.1, h2.2.2⟩
theorem m_hl {C : q_S} {c0 : Nat} (hR : m_R C c0) (k : Nat) (hk : k ≤ 8) : C 25 k 0 < C 5 17 0 := hR.2.2.2.2.2.2.2.2.2.2.2.2.2.2.2.2.2.2.2.2.1 k hk
theorem m_now0 {C : q_S} {c0 : Nat} (hR : m_R C c0) : 0 ≤ C 5 28 0 := hR.2.2.2.2.2.1
def m_now (C : q_S) (y : Int) : q_S := q_up (q_up C 5 0 0 0) 5 28 0 y
theorem m_R_now {C : q_S} {c0 : Nat} (h : m_R C c0) {y : Int} (hy : 0 ≤ y) : m_R (m_now C y) c0 := ⟨h.1, h.2.1, h.2.2.1, h.2.2.2.1, h.2.2.2.2.1, hy, h.2.2.2.2.2.2⟩
theorem m_S_now {C : q_S} {n : Nat → Nat} (h : m_S C n) (y : Int) : m_S (m_now C y) n := (h.up (Or.inr (by decide))).up (Or.inr (by decide))
theorem m_first_ne (C : q_S) (a : Int) (k : Nat) (h : ¬ m_best C a k = -1) : ¬ m_first C a (m_best C a k) 0 k = -1 := by
  induction k with
  | zero => exact absurd rfl h
  | succ k ih =>
    by_cases hc : m_may C k a ∧ m_best C a k < C 33 (C 38 k 0).toNat 0
    · have e : m_best C a (k + 1) = C 33 (C 38 k 0).toNat 0 := by rw [m_best, if_pos hc]
      rw [e, m_first]
      split
      · omega
      · rename_i hn
        intro he
        exact hn ⟨hc.1, rfl, Or.inl rfl, Or.inl he⟩
    · have e : m_best C a (k + 1) = m_best C a k := by rw [m_best, if_neg hc]
      rw [e] at h ⊢
      rw [m_first]
      split
      · omega
      · exact ih h
/-- the part that a printer takes -/
def m_pt (C : q_S) (a y : Int) : Nat := if C 24 a.toNat 0 < C 5 29 0 ∧ ¬ m_first (m_now C y) a (m_best (m_now C y) a (C 5 17 0).toNat) 1 (C 5 17 0).toNat = -1 then (m_first (m_now C y) a (m_best (m_now C y) a (C 5 17 0).toNat) 1 (C 5 17 0).toNat).toNat else (m_first (m_now C y) a (m_best (m_now C y) a (C 5 17 0).toNat) 0 (C 5 17 0).toNat).toNat
theorem m_pt_t {C : q_S} {a y : Int} (h1 : C 24 a.toNat 0 < C 5 29 0) (h2 : ¬ m_first (m_now C y) a (m_best (m_now C y) a (C 5 17 0).toNat) 1 (C 5 17 0).toNat = -1) : m_first (m_now C y) a (m_best (m_now C y) a (C 5 17 0).toNat) 1 (C 5 17 0).toNat = ((m_pt C a y : Nat) : Int) := by
  have := m_first_b (m_now C y) a (m_best (m_now C y) a (C 5 17 0).toNat) 1 (C 5 17 0).toNat
  unfold m_pt
  rw [if_pos ⟨h1, h2⟩]
  omega
theorem m_pt_f {C : q_S} {a y : Int} (h0 : ¬ m_best (m_now C y) a (C 5 17 0).toNat = -1) (h : C 5 29 0 ≤ C 24 a.toNat 0 ∨ m_first (m_now C y) a (m_best (m_now C y) a (C 5 17 0).toNat) 1 (C 5 17 0).toNat = -1) : m_first (m_now C y) a (m_best (m_now C y) a (C 5 17 0).toNat) 0 (C 5 17 0).toNat = ((m_pt C a y : Nat) : Int) := by
  have h1 := m_first_b (m_now C y) a (m_best (m_now C y) a (C 5 17 0).toNat) 0 (C 5 17 0).toNat
  have h2 := m_first_ne (m_now C y) a _ h0
  unfold m_pt
  rw [if_neg (by omega)]
  omega
theorem m_pt_b {C : q_S} {a y : Int} (h0 : ¬ m_best (m_now C y) a (C 5 17 0).toNat = -1) (hk : 0 ≤ C 5 17 0) : (m_pt C a y : Int) < C 5 17 0 := by
  have h1 := m_first_b (m_now C y) a (m_best (m_now C y) a (C 5 17 0).toNat) 0 (C 5 17 0).toNat
  have h3 := m_first_b (m_now C y) a (m_best (m_now C y) a (C 5 17 0).toNat) 1 (C 5 17 0).toNat
  have h2 := m_first_ne (m_now C y) a _ h0
  unfold m_pt
  split <;> omega
/-- the part at a printer -/
def m_hk (C : q_S) (a : Int) : Nat := (C 25 a.toNat 0).toNat
theorem m_hk_e {C : q_S} {a : Int} (h : 0 ≤ C 25 a.toNat 0) : C 25 a.toNat 0 = ((m_hk C a : Nat) : Int) := by unfold m_hk; omega
theorem m_dv {a b : Int} (h : 0 ≤ a ∧ a ≤ 50000) (hb : 1 ≤ b) : 0 ≤ a / b ∧ a / b ≤ 50000 := by
  refine ⟨Int.ediv_nonneg h.1 (by omega), ?_⟩
  have := Int.ediv_le_self b h.1
  omega
theorem m_md {a b : Int} (hb : 1 ≤ b) : 0 ≤ a % b ∧ a % b < b := ⟨Int.emod_nonneg a (by omega), Int.emod_lt_of_pos a (by omega)⟩
theorem m_p1 {a b : Int} (h : 0 < a % b) (ha : 0 ≤ a) : 1 ≤ a := by
  rcases Int.lt_or_le 0 a with q | q
  · exact q
  · have : a = 0 := by omega
    subst this
    simp at h
theorem m_odd_b {a b : Int} (ha : 1 ≤ a) (hb : 0 ≤ b) : 0 ≤ m_odd a b ∧ m_odd a b ≤ b := by
  unfold m_odd
  have h1 := m_md (a := b) ha
  have h2 := Int.ediv_nonneg hb (show 0 ≤ a by omega)
  have h3 := Int.emod_add_ediv_mul b a
  have h5 : 0 ≤ (a + 1) / 2 ∧ (a + 1) / 2 ≤ a := by omega
  have h6 := Int.mul_nonneg h2 h5.1
  have h7 := Int.mul_le_mul_of_nonneg_left h5.2 h2
  have h8 : (b % a + 1) / 2 ≤ b % a := by omega
  have h9 : 0 ≤ (b % a + 1) / 2 := by omega
  omega
/-- pages that come out, sheets, the mark of a fresh part -/
def m_out (C : q_S) (a b : Int) : Int := if b < C 39 (m_hk C a) 0 * C 32 (C 38 (m_hk C a) 0).toNat 0 - C 42 (m_hk C a) 0 then b else C 39 (m_hk C a) 0 * C 32 (C 38 (m_hk C a) 0).toNat 0 - C 42 (m_hk C a) 0
def m_she (C : q_S) (a b : Int) : Int := if C 28 (C 31 (C 38 (m_hk C a) 0).toNat 0).toNat 0 = 2 then (if 0 < m_out C a b ∧ ¬ C 43 (m_hk C a) 0 = 0 ∧ C 42 (m_hk C a) 0 % C 32 (C 38 (m_hk C a) 0).toNat 0 % 2 = 1 then m_odd (C 32 (C 38 (m_hk C a) 0).toNat 0) (C 42 (m_hk C a) 0 + m_out C a b) - m_odd (C 32 (C 38 (m_hk C a) 0).toNat 0) (C 42 (m_hk C a) 0) + 1 else m_odd (C 32 (C 38 (m_hk C a) 0).toNat 0) (C 42 (m_hk C a) 0 + m_out C a b) - m_odd (C 32 (C 38 (m_hk C a) 0).toNat 0) (C 42 (m_hk C a) 0)) else m_out C a b
def m_frs (C : q_S) (a b : Int) : Int := if ¬ C 43 (m_hk C a) 0 = 0 ∧ m_out C a b = 0 then 1 else 0
theorem m_out_b {C : q_S} {c0 : Nat} (hR : m_R C c0) (a b : Int) (hb : 0 ≤ b ∧ b ≤ 50000) : -50000 ≤ m_out C a b ∧ m_out C a b ≤ 50000 ∧ 0 ≤ C 42 (m_hk C a) 0 + m_out C a b ∧ C 42 (m_hk C a) 0 + m_out C a b ≤ 100000 := by
  have h1 := m_mul (m_R39 hR (m_hk C a)) (m_R32 hR (C 38 (m_hk C a) 0).toNat)
  have h2 := m_R42 hR (m_hk C a)
  unfold m_out
  split <;> omega
theorem m_she_b {C : q_S} {c0 : Nat} (hR : m_R C c0) (a b : Int) (hb : 0 ≤ b ∧ b ≤ 50000) (hp : 1 ≤ C 32 (C 38 (m_hk C a) 0).toNat 0) : -100000 ≤ m_she C a b ∧ m_she C a b ≤ 100001 := by
  have h1 := m_out_b hR a b hb
  have h2 := m_R42 hR (m_hk C a)
  have h3 := m_odd_b (b := C 42 (m_hk C a) 0 + m_out C a b) hp h1.2.2.1
  have h4 := m_odd_b (b := C 42 (m_hk C a) 0) hp h2.1
  unfold m_she
  split
  · split <;> omega
  · omega
def tX5_printer (n : Nat → Nat) (ad : Nat → Nat → Nat) (C : q_S) (a b : Int) (r : Int32) (u : q_U) : Prop :=
  (((0) ≤ a ∧ a ≤ (7)) ∧ ((1) ≤ b ∧ b ≤ (2)) ∧ (¬ (C 5 1 0) = (8)) ∧ u = (n, ad, q_up (q_up (q_up (q_up C 5 0 0 ((0))) 5 1 0 (((C 5 1 0) + (1)))) 22 ((((C 5 1 0) + (1))).toNat) 0 a) 23 ((((C 5 1 0) + (1))).toNat) 0 b) ∧ r = iI ((C 5 1 0) + (1))) ∨
  (((0) ≤ a ∧ a ≤ (7)) ∧ ((1) ≤ b ∧ b ≤ (2)) ∧ ((C 5 1 0) = (8)) ∧ u = (n, ad, q_up C 5 0 0 ((2))) ∧ r = iI (0)) ∨
  (((0) ≤ a ∧ a ≤ (7)) ∧ (¬ ((1) ≤ b ∧ b ≤ (2))) ∧ u = (n, ad, q_up C 5 0 0 ((1))) ∧ r = iI (0)) ∨
  ((¬ ((0) ≤ a ∧ a ≤ (7))) ∧ u = (n, ad, q_up C 5 0 0 ((1))) ∧ r = iI (0))
set_option maxHeartbeats 4000000 in
set_option maxRecDepth 100000 in
theorem c_X5_printer (l : Launch) (g : q_G) (s0 : Nat) (n : Nat → Nat) (ad : Nat → Nat → Nat) (C : q_S) (c0 : Nat) (hM : m_S C n) (hR : m_R C c0) (hc0 : c0 ≤ 600) (a b : Int) (ha : R32 a) (hb : R32 b)  : Met l yX5_printer wsX5_printer ({ frames := 1, cells := 0, slots := 0, locals := 25 }) (va_Pc [.ref (ad 5 0), .int (iI a), .int (iI b)] (q_B g s0 (n, ad, C))) (va_Qi (tX5_printer n ad C a b) (q_B g s0) (q_A s0)) 0 0 (q_A s0) := by
  refine Met.ofW (cc := cX5_printer) (maxL := 3) (ret := (some .int)) (by decide) rfl ?_
  intro p e s m args below meth c s₁ B hml hv
  obtain ⟨rfl, hv⟩ := hv
  have hr := B.returns
  have hlocks := B.notSynchronized
  obtain ⟨X, hP⟩ := q_start B.exec B.bytes hml (show s.vm.findClass RX5 = some m.cls from findClass_of_methodNamed B.named) (atoms_spec (ws := wsX5_printer) B.pre) hv
  have hP : q_P g s0 n ad C s.heap := hP
  have hS : va_S (q_A s0) s.heap s.heap [] := va_S.rf
  have in5 : ∀ w ∈ wsX50, w ∈ wsX5_printer := by decide +kernel
  have hl := lv_entry ([.ref (ad 5 0), .int (iI a), .int (iI b)]) (n := 3) (Nat.le_of_ble_eq_true rfl)
  rw [lg_entry_eq]
  generalize (lg_sl ([.ref (ad 5 0), .int (iI a), .int (iI b)]) ++ List.replicate (3 - (lg_sl ([.ref (ad 5 0), .int (iI a), .int (iI b)])).length) Slot.unset).toArray = ls at hl ⊢
  have hl : lv_has ls 3 [(0, .ref (ad 5 0)), (1, .int (iI a)), (2, .int (iI b))] := hl
  refine lv_aload_n X.1 X.2.1 dX5_printer_0 rfl (lv_at hl 0 rfl) ?_
  refine lv_iload_n X.1 X.2.1 dX5_printer_1 rfl (lv_at hl 1 rfl) ?_
  refine q_i2l X ha dX5_printer_2 ?_
  refine lv_lconst (v := jI (0)) X.1 X.2.1 dX5_printer_3 (by decide) ?_
  refine q_ldc2 (v := 7) (z := 7) X (by decide) (by decide +kernel) dX5_printer_4 ?_
  refine va_calli (va_runS (As := [.long (jI a), .long (jI (0)), .long (jI (7))]) (rest := [.ref (ad 5 0)]) X.fix (c_X5_in l g s0 n ad C a (0) (7) (q_3264 ha) (by decide) (by decide)) (va_cwS 3 X.2.2.2.2.1 gX5_printer_X5_in rfl rfl rfl (by decide +kernel) ⟨Nat.le_of_ble_eq_true rfl, Nat.le_of_ble_eq_true rfl⟩) (q_preS X hP hS _) rfl rfl hl.1 rfl (lv_room (Nat.le_of_ble_eq_true rfl)) dX5_printer_7 ⟨Nat.le_of_ble_eq_true rfl, Nat.le_of_ble_eq_true rfl⟩) hS q_id q_id1 (fun r u t H locs ht hvm hw hB hz1 hk1 hS => ?_)
  obtain ⟨rfl, ⟨h_1, rfl⟩ | ⟨h_1, rfl⟩⟩ := hw
  · have hP : q_P g s0 n ad (C) H := q_back hB ht
    have h_1 : (0) ≤ a ∧ a ≤ (7) := h_1
    refine q_if_eq (tgt := 25) X (by decide) dX5_printer_10 (by decide) (fun h => absurd h (by decide)) (fun _ => ?_)
    refine lv_iload_n X.1 X.2.1 dX5_printer_13 rfl (lv_at hl 2 rfl) ?_
    refine q_i2l X hb dX5_printer_14 ?_
    refine lv_lconst (v := jI (1)) X.1 X.2.1 dX5_printer_15 (by decide) ?_
    refine q_ldc2 (v := 2) (z := 2) X (by decide) (by decide +kernel) dX5_printer_16 ?_
    refine va_calli (va_runS (As := [.long (jI b), .long (jI (1)), .long (jI (2))]) (rest := [.ref (ad 5 0)]) X.fix (c_X5_in l g s0 n ad C b (1) (2) (q_3264 hb) (by decide) (by decide)) (va_cwS 3 X.2.2.2.2.1 gX5_printer_X5_in rfl rfl rfl (by decide +kernel) ⟨Nat.le_of_ble_eq_true rfl, Nat.le_of_ble_eq_true rfl⟩) (q_preS X hP hS _) rfl rfl hl.1 rfl (lv_room (Nat.le_of_ble_eq_true rfl)) dX5_printer_19 ⟨Nat.le_of_ble_eq_true rfl, Nat.le_of_ble_eq_true rfl⟩) hS q_id q_id1 (fun r u t H locs ht hvm hw hB hz1 hk1 hS => ?_)
    obtain ⟨rfl, ⟨h_3, rfl⟩ | ⟨h_3, rfl⟩⟩ := hw
    · have hP : q_P g s0 n ad (C) H := q_back hB ht
      have h_3 : (1) ≤ b ∧ b ≤ (2) := h_3
      refine q_if_ne (tgt := 29) X (by decide) dX5_printer_22 (by decide) (fun _ => ?_) (fun h => absurd h (by decide))
      refine lv_aload_n X.1 X.2.1 dX5_printer_29 rfl (lv_at hl 0 rfl) ?_
      refine q_get (index := 93) (v := .int (iI (C 5 1 0))) X hP 5 1 0 rfl rfl (by decide) in5 (m_v5 hM) (by decide) (by decide +kernel) rfl dX5_printer_30 ?_
      have f_5 := m_Rp hR
      refine lv_bipush (v := iI (8)) X.1 X.2.1 dX5_printer_33 (by decide) ?_
      refine q_icmp_ne (tgt := 42) X (hP.tok 5 1 0 rfl) (by decide) dX5_printer_35 (by decide) (fun h_6 => ?_) (fun h_6 => ?_)
      · refine lv_iconst (v := iI (0)) X.1 X.2.1 dX5_printer_42 rfl ?_
        refine q_put (index := 82) (v := .int (iI (0))) X hP hS 5 0 0 ((0)) rfl rfl (by decide) in5 tyX5 tyX5_ok nmX5 (m_v5 hM) (by decide) (by decide +kernel) rfl rfl rfl rfl (show R32 _ from (by decide)) dX5_printer_43 (fun H locs hP hS => ?_)
        have hP : q_P g s0 n ad (q_up C 5 0 0 ((0))) H := hP
        refine lv_aload_n X.1 X.2.1 dX5_printer_46 rfl (lv_at hl 0 rfl) ?_
        refine q_get (index := 82) (v := .int (iI (0))) X hP 5 0 0 rfl rfl (by decide) in5 (m_v5 hM) (by decide) (by decide +kernel) rfl dX5_printer_47 ?_
        refine q_if_le (tgt := 55) X (by decide) dX5_printer_50 (by decide) (fun _ => ?_) (fun h => absurd h (by decide))
        refine lv_aload_n X.1 X.2.1 dX5_printer_55 rfl (lv_at hl 0 rfl) ?_
        refine lv_dup X.1 X.2.1 dX5_printer_56 rfl ?_
        refine q_get (index := 93) (v := .int (iI (C 5 1 0))) X hP 5 1 0 rfl rfl (by decide) in5 (m_v5 hM) (by decide) (by decide +kernel) rfl dX5_printer_57 ?_
        refine lv_iconst (v := iI (1)) X.1 X.2.1 dX5_printer_60 rfl ?_
        refine q_iadd X dX5_printer_61 ?_
        refine q_put (index := 93) (v := .int (iI ((C 5 1 0) + (1)))) X hP hS 5 1 0 (((C 5 1 0) + (1))) rfl rfl (by decide) in5 tyX5 tyX5_ok nmX5 (m_v5 hM) (by decide) (by decide +kernel) rfl rfl rfl rfl (show R32 _ from (by omega)) dX5_printer_62 (fun H locs hP hS => ?_)
        have hP : q_P g s0 n ad (q_up (q_up C 5 0 0 ((0))) 5 1 0 (((C 5 1 0) + (1)))) H := hP
        refine lv_aload_n X.1 X.2.1 dX5_printer_65 rfl (lv_at hl 0 rfl) ?_
        refine q_get (index := 7) (v := .ref (ad 22 0)) X hP 5 2 0 rfl rfl (by decide) in5 (m_v5 hM) (by decide) (by decide +kernel) (m_r hM ad 2 22 (by decide)) dX5_printer_66 ?_
        refine lv_aload_n X.1 X.2.1 dX5_printer_69 rfl (lv_at hl 0 rfl) ?_
        refine q_get (index := 93) (v := .int (iI ((C 5 1 0) + (1)))) X hP 5 1 0 rfl rfl (by decide) in5 (m_v5 hM) (by decide) (by decide +kernel) rfl dX5_printer_70 ?_
        refine lv_iload_n X.1 X.2.1 dX5_printer_73 rfl (lv_at hl 1 rfl) ?_
        refine q_istv (len := 9) (x := a) (z := ((C 5 1 0) + (1))) X hP hS 22 0 (by decide) rfl rfl (m_va hM 2 (by decide) rfl) rfl (by omega) (by omega) ha dX5_printer_74 (fun H locs hP hS => ?_)
        have hP : q_P g s0 n ad (q_up (q_up (q_up C 5 0 0 ((0))) 5 1 0 (((C 5 1 0) + (1)))) 22 ((((C 5 1 0) + (1))).toNat) 0 a) H := hP
        refine lv_aload_n X.1 X.2.1 dX5_printer_75 rfl (lv_at hl 0 rfl) ?_
        refine q_get (index := 13) (v := .ref (ad 23 0)) X hP 5 3 0 rfl rfl (by decide) in5 (m_v5 hM) (by decide) (by decide +kernel) (m_r hM ad 3 23 (by decide)) dX5_printer_76 ?_
        refine lv_aload_n X.1 X.2.1 dX5_printer_79 rfl (lv_at hl 0 rfl) ?_
        refine q_get (index := 93) (v := .int (iI ((C 5 1 0) + (1)))) X hP 5 1 0 rfl rfl (by decide) in5 (m_v5 hM) (by decide) (by decide +kernel) rfl dX5_printer_80 ?_
        refine lv_iload_n X.1 X.2.1 dX5_printer_83 rfl (lv_at hl 2 rfl) ?_
        refine q_istv (len := 9) (x := b) (z := ((C 5 1 0) + (1))) X hP hS 23 0 (by decide) rfl rfl (m_va hM 3 (by decide) rfl) rfl (by omega) (by omega) hb dX5_printer_84 (fun H locs hP hS => ?_)
        have hP : q_P g s0 n ad (q_up (q_up (q_up (q_up C 5 0 0 ((0))) 5 1 0 (((C 5 1 0) + (1)))) 22 ((((C 5 1 0) + (1))).toNat) 0 a) 23 ((((C 5 1 0) + (1))).toNat) 0 b) H := hP
        refine lv_aload_n X.1 X.2.1 dX5_printer_85 rfl (lv_at hl 0 rfl) ?_
        refine q_get (index := 93) (v := .int (iI ((C 5 1 0) + (1)))) X hP 5 1 0 rfl rfl (by decide) in5 (m_v5 hM) (by decide) (by decide +kernel) rfl dX5_printer_86 ?_
        exact q_iret X hr hlocks hP hS (Or.inl (⟨h_1, h_3, h_6, rfl, rfl⟩)) (Nat.le_of_ble_eq_true rfl) (Nat.le_of_ble_eq_true rfl) dX5_printer_89
      · refine lv_iconst (v := iI (2)) X.1 X.2.1 dX5_printer_38 rfl ?_
        refine lv_goto (tgt := 43) X.1 X.2.1 dX5_printer_39 (by decide) ?_
        refine q_put (index := 82) (v := .int (iI (2))) X hP hS 5 0 0 ((2)) rfl rfl (by decide) in5 tyX5 tyX5_ok nmX5 (m_v5 hM) (by decide) (by decide +kernel) rfl rfl rfl rfl (show R32 _ from (by decide)) dX5_printer_43 (fun H locs hP hS => ?_)
        have hP : q_P g s0 n ad (q_up C 5 0 0 ((2))) H := hP
        refine lv_aload_n X.1 X.2.1 dX5_printer_46 rfl (lv_at hl 0 rfl) ?_
        refine q_get (index := 82) (v := .int (iI (2))) X hP 5 0 0 rfl rfl (by decide) in5 (m_v5 hM) (by decide) (by decide +kernel) rfl dX5_printer_47 ?_
        refine q_if_le (tgt := 55) X (by decide) dX5_printer_50 (by decide) (fun h => absurd h (by decide)) (fun _ => ?_)
        refine lv_iconst (v := iI (0)) X.1 X.2.1 dX5_printer_53 rfl ?_
        exact q_iret X hr hlocks hP hS (Or.inr (Or.inl (⟨h_1, h_3, h_6, rfl, rfl⟩))) (Nat.le_of_ble_eq_true rfl) (Nat.le_of_ble_eq_true rfl) dX5_printer_54
    · have hP : q_P g s0 n ad (C) H := q_back hB ht
      have h_3 : ¬ ((1) ≤ b ∧ b ≤ (2)) := h_3
      refine q_if_ne (tgt := 29) X (by decide) dX5_printer_22 (by decide) (fun h => absurd h (by decide)) (fun _ => ?_)
      refine lv_iconst (v := iI (1)) X.1 X.2.1 dX5_printer_25 rfl ?_
      refine lv_goto (tgt := 43) X.1 X.2.1 dX5_printer_26 (by decide) ?_
      refine q_put (index := 82) (v := .int (iI (1))) X hP hS 5 0 0 ((1)) rfl rfl (by decide) in5 tyX5 tyX5_ok nmX5 (m_v5 hM) (by decide) (by decide +kernel) rfl rfl rfl rfl (show R32 _ from (by decide)) dX5_printer_43 (fun H locs hP hS => ?_)
      have hP : q_P g s0 n ad (q_up C 5 0 0 ((1))) H := hP
      refine lv_aload_n X.1 X.2.1 dX5_printer_46 rfl (lv_at hl 0 rfl) ?_
      refine q_get (index := 82) (v := .int (iI (1))) X hP 5 0 0 rfl rfl (by decide) in5 (m_v5 hM) (by decide) (by decide +kernel) rfl dX5_printer_47 ?_
      refine q_if_le (tgt := 55) X (by decide) dX5_printer_50 (by decide) (fun h => absurd h (by decide)) (fun _ => ?_)
      refine lv_iconst (v := iI (0)) X.1 X.2.1 dX5_printer_53 rfl ?_
      exact q_iret X hr hlocks hP hS (Or.inr (Or.inr (Or.inl (⟨h_1, h_3, rfl, rfl⟩)))) (Nat.le_of_ble_eq_true rfl) (Nat.le_of_ble_eq_true rfl) dX5_printer_54
  · have hP : q_P g s0 n ad (C) H := q_back hB ht
    have h_1 : ¬ ((0) ≤ a ∧ a ≤ (7)) := h_1
    refine q_if_eq (tgt := 25) X (by decide) dX5_printer_10 (by decide) (fun _ => ?_) (fun h => absurd h (by decide))
    refine lv_iconst (v := iI (1)) X.1 X.2.1 dX5_printer_25 rfl ?_
    refine lv_goto (tgt := 43) X.1 X.2.1 dX5_printer_26 (by decide) ?_
    refine q_put (index := 82) (v := .int (iI (1))) X hP hS 5 0 0 ((1)) rfl rfl (by decide) in5 tyX5 tyX5_ok nmX5 (m_v5 hM) (by decide) (by decide +kernel) rfl rfl rfl rfl (show R32 _ from (by decide)) dX5_printer_43 (fun H locs hP hS => ?_)
    have hP : q_P g s0 n ad (q_up C 5 0 0 ((1))) H := hP
    refine lv_aload_n X.1 X.2.1 dX5_printer_46 rfl (lv_at hl 0 rfl) ?_
    refine q_get (index := 82) (v := .int (iI (1))) X hP 5 0 0 rfl rfl (by decide) in5 (m_v5 hM) (by decide) (by decide +kernel) rfl dX5_printer_47 ?_
    refine q_if_le (tgt := 55) X (by decide) dX5_printer_50 (by decide) (fun h => absurd h (by decide)) (fun _ => ?_)
    refine lv_iconst (v := iI (0)) X.1 X.2.1 dX5_printer_53 rfl ?_
    exact q_iret X hr hlocks hP hS (Or.inr (Or.inr (Or.inr (⟨h_1, rfl, rfl⟩)))) (Nat.le_of_ble_eq_true rfl) (Nat.le_of_ble_eq_true rfl) dX5_printer_54
def tX5_ticket (n : Nat → Nat) (ad : Nat → Nat → Nat) (C : q_S) (a b d : Int) (r : Int32) (u : q_U) : Prop :=
  (((0) ≤ a ∧ a ≤ (7)) ∧ ((1) ≤ b ∧ b ≤ (2)) ∧ ((0) ≤ d ∧ d ≤ (3)) ∧ (¬ (C 5 6 0) = (20)) ∧ u = (n, ad, q_up (q_up (q_up (q_up C 5 0 0 ((0))) 5 6 0 (((C 5 6 0) + (1)))) 27 ((((C 5 6 0) + (1))).toNat) 0 a) 28 ((((C 5 6 0) + (1))).toNat) 0 b) ∧ r = iI ((C 5 6 0) + (1))) ∨
  (((0) ≤ a ∧ a ≤ (7)) ∧ ((1) ≤ b ∧ b ≤ (2)) ∧ ((0) ≤ d ∧ d ≤ (3)) ∧ ((C 5 6 0) = (20)) ∧ u = (n, ad, q_up C 5 0 0 ((2))) ∧ r = iI (0)) ∨
  (((0) ≤ a ∧ a ≤ (7)) ∧ ((1) ≤ b ∧ b ≤ (2)) ∧ (¬ ((0) ≤ d ∧ d ≤ (3))) ∧ u = (n, ad, q_up C 5 0 0 ((1))) ∧ r = iI (0)) ∨
  (((0) ≤ a ∧ a ≤ (7)) ∧ (¬ ((1) ≤ b ∧ b ≤ (2))) ∧ u = (n, ad, q_up C 5 0 0 ((1))) ∧ r = iI (0)) ∨
  ((¬ ((0) ≤ a ∧ a ≤ (7))) ∧ u = (n, ad, q_up C 5 0 0 ((1))) ∧ r = iI (0))
set_option maxHeartbeats 4000000 in
set_option maxRecDepth 100000 in
theorem c_X5_ticket (l : Launch) (g : q_G) (s0 : Nat) (n : Nat → Nat) (ad : Nat → Nat → Nat) (C : q_S) (c0 : Nat) (hM : m_S C n) (hR : m_R C c0) (hc0 : c0 ≤ 600) (a b d : Int) (ha : R32 a) (hb : R32 b) (hd : R32 d)  : Met l yX5_ticket wsX5_ticket ({ frames := 1, cells := 0, slots := 0, locals := 25 }) (va_Pc [.ref (ad 5 0), .int (iI a), .int (iI b), .int (iI d)] (q_B g s0 (n, ad, C))) (va_Qi (tX5_ticket n ad C a b d) (q_B g s0) (q_A s0)) 0 0 (q_A s0) := by
  refine Met.ofW (cc := cX5_ticket) (maxL := 4) (ret := (some .int)) (by decide) rfl ?_
  intro p e s m args below meth c s₁ B hml hv
  obtain ⟨rfl, hv⟩ := hv
  have hr := B.returns
  have hlocks := B.notSynchronized
  obtain ⟨X, hP⟩ := q_start B.exec B.bytes hml (show s.vm.findClass RX5 = some m.cls from findClass_of_methodNamed B.named) (atoms_spec (ws := wsX5_ticket) B.pre) hv
  have hP : q_P g s0 n ad C s.heap := hP
  have hS : va_S (q_A s0) s.heap s.heap [] := va_S.rf
  have in5 : ∀ w ∈ wsX50, w ∈ wsX5_ticket := by decide +kernel
  have hl := lv_entry ([.ref (ad 5 0), .int (iI a), .int (iI b), .int (iI d)]) (n := 4) (Nat.le_of_ble_eq_true rfl)
  rw [lg_entry_eq]
  generalize (lg_sl ([.ref (ad 5 0), .int (iI a), .int (iI b), .int (iI d)]) ++ List.replicate (4 - (lg_sl ([.ref (ad 5 0), .int (iI a), .int (iI b), .int (iI d)])).length) Slot.unset).toArray = ls at hl ⊢
  have hl : lv_has ls 4 [(0, .ref (ad 5 0)), (1, .int (iI a)), (2, .int (iI b)), (3, .int (iI d))] := hl
  refine lv_aload_n X.1 X.2.1 dX5_ticket_0 rfl (lv_at hl 0 rfl) ?_
  refine lv_iload_n X.1 X.2.1 dX5_ticket_1 rfl (lv_at hl 1 rfl) ?_
  refine q_i2l X ha dX5_ticket_2 ?_
  refine lv_lconst (v := jI (0)) X.1 X.2.1 dX5_ticket_3 (by decide) ?_
  refine q_ldc2 (v := 7) (z := 7) X (by decide) (by decide +kernel) dX5_ticket_4 ?_
  refine va_calli (va_runS (As := [.long (jI a), .long (jI (0)), .long (jI (7))]) (rest := [.ref (ad 5 0)]) X.fix (c_X5_in l g s0 n ad C a (0) (7) (q_3264 ha) (by decide) (by decide)) (va_cwS 3 X.2.2.2.2.1 gX5_ticket_X5_in rfl rfl rfl (by decide +kernel) ⟨Nat.le_of_ble_eq_true rfl, Nat.le_of_ble_eq_true rfl⟩) (q_preS X hP hS _) rfl rfl hl.1 rfl (lv_room (Nat.le_of_ble_eq_true rfl)) dX5_ticket_7 ⟨Nat.le_of_ble_eq_true rfl, Nat.le_of_ble_eq_true rfl⟩) hS q_id q_id1 (fun r u t H locs ht hvm hw hB hz1 hk1 hS => ?_)
  obtain ⟨rfl, ⟨h_1, rfl⟩ | ⟨h_1, rfl⟩⟩ := hw
  · have hP : q_P g s0 n ad (C) H := q_back hB ht
    have h_1 : (0) ≤ a ∧ a ≤ (7) := h_1
    refine q_if_eq (tgt := 37) X (by decide) dX5_ticket_10 (by decide) (fun h => absurd h (by decide)) (fun _ => ?_)
    refine lv_iload_n X.1 X.2.1 dX5_ticket_13 rfl (lv_at hl 2 rfl) ?_
    refine q_i2l X hb dX5_ticket_14 ?_
    refine lv_lconst (v := jI (1)) X.1 X.2.1 dX5_ticket_15 (by decide) ?_
    refine q_ldc2 (v := 2) (z := 2) X (by decide) (by decide +kernel) dX5_ticket_16 ?_
    refine va_calli (va_runS (As := [.long (jI b), .long (jI (1)), .long (jI (2))]) (rest := [.ref (ad 5 0)]) X.fix (c_X5_in l g s0 n ad C b (1) (2) (q_3264 hb) (by decide) (by decide)) (va_cwS 3 X.2.2.2.2.1 gX5_ticket_X5_in rfl rfl rfl (by decide +kernel) ⟨Nat.le_of_ble_eq_true rfl, Nat.le_of_ble_eq_true rfl⟩) (q_preS X hP hS _) rfl rfl hl.1 rfl (lv_room (Nat.le_of_ble_eq_true rfl)) dX5_ticket_19 ⟨Nat.le_of_ble_eq_true rfl, Nat.le_of_ble_eq_true rfl⟩) hS q_id q_id1 (fun r u t H locs ht hvm hw hB hz1 hk1 hS => ?_)
    obtain ⟨rfl, ⟨h_3, rfl⟩ | ⟨h_3, rfl⟩⟩ := hw
    · have hP : q_P g s0 n ad (C) H := q_back hB ht
      have h_3 : (1) ≤ b ∧ b ≤ (2) := h_3
      refine q_if_eq (tgt := 37) X (by decide) dX5_ticket_22 (by decide) (fun h => absurd h (by decide)) (fun _ => ?_)
      refine lv_iload_n X.1 X.2.1 dX5_ticket_25 rfl (lv_at hl 3 rfl) ?_
      refine q_i2l X hd dX5_ticket_26 ?_
      refine lv_lconst (v := jI (0)) X.1 X.2.1 dX5_ticket_27 (by decide) ?_
      refine q_ldc2 (v := 3) (z := 3) X (by decide) (by decide +kernel) dX5_ticket_28 ?_
      refine va_calli (va_runS (As := [.long (jI d), .long (jI (0)), .long (jI (3))]) (rest := [.ref (ad 5 0)]) X.fix (c_X5_in l g s0 n ad C d (0) (3) (q_3264 hd) (by decide) (by decide)) (va_cwS 3 X.2.2.2.2.1 gX5_ticket_X5_in rfl rfl rfl (by decide +kernel) ⟨Nat.le_of_ble_eq_true rfl, Nat.le_of_ble_eq_true rfl⟩) (q_preS X hP hS _) rfl rfl hl.1 rfl (lv_room (Nat.le_of_ble_eq_true rfl)) dX5_ticket_31 ⟨Nat.le_of_ble_eq_true rfl, Nat.le_of_ble_eq_true rfl⟩) hS q_id q_id1 (fun r u t H locs ht hvm hw hB hz1 hk1 hS => ?_)
      obtain ⟨rfl, ⟨h_5, rfl⟩ | ⟨h_5, rfl⟩⟩ := hw
      · have hP : q_P g s0 n ad (C) H := q_back hB ht
        have h_5 : (0) ≤ d ∧ d ≤ (3) := h_5
        refine q_if_ne (tgt := 41) X (by decide) dX5_ticket_34 (by decide) (fun _ => ?_) (fun h => absurd h (by decide))
        refine lv_aload_n X.1 X.2.1 dX5_ticket_41 rfl (lv_at hl 0 rfl) ?_
        refine q_get (index := 98) (v := .int (iI (C 5 6 0))) X hP 5 6 0 rfl rfl (by decide) in5 (m_v5 hM) (by decide) (by decide +kernel) rfl dX5_ticket_42 ?_
        have f_7 := m_Rt hR
        refine lv_bipush (v := iI (20)) X.1 X.2.1 dX5_ticket_45 (by decide) ?_
        refine q_icmp_ne (tgt := 54) X (hP.tok 5 6 0 rfl) (by decide) dX5_ticket_47 (by decide) (fun h_8 => ?_) (fun h_8 => ?_)
        · refine lv_iconst (v := iI (0)) X.1 X.2.1 dX5_ticket_54 rfl ?_
          refine q_put (index := 82) (v := .int (iI (0))) X hP hS 5 0 0 ((0)) rfl rfl (by decide) in5 tyX5 tyX5_ok nmX5 (m_v5 hM) (by decide) (by decide +kernel) rfl rfl rfl rfl (show R32 _ from (by decide)) dX5_ticket_55 (fun H locs hP hS => ?_)
          have hP : q_P g s0 n ad (q_up C 5 0 0 ((0))) H := hP
          refine lv_aload_n X.1 X.2.1 dX5_ticket_58 rfl (lv_at hl 0 rfl) ?_
          refine q_get (index := 82) (v := .int (iI (0))) X hP 5 0 0 rfl rfl (by decide) in5 (m_v5 hM) (by decide) (by decide +kernel) rfl dX5_ticket_59 ?_
          refine q_if_le (tgt := 67) X (by decide) dX5_ticket_62 (by decide) (fun _ => ?_) (fun h => absurd h (by decide))
          refine lv_aload_n X.1 X.2.1 dX5_ticket_67 rfl (lv_at hl 0 rfl) ?_
          refine lv_dup X.1 X.2.1 dX5_ticket_68 rfl ?_
          refine q_get (index := 98) (v := .int (iI (C 5 6 0))) X hP 5 6 0 rfl rfl (by decide) in5 (m_v5 hM) (by decide) (by decide +kernel) rfl dX5_ticket_69 ?_
          refine lv_iconst (v := iI (1)) X.1 X.2.1 dX5_ticket_72 rfl ?_
          refine q_iadd X dX5_ticket_73 ?_
          refine q_put (index := 98) (v := .int (iI ((C 5 6 0) + (1)))) X hP hS 5 6 0 (((C 5 6 0) + (1))) rfl rfl (by decide) in5 tyX5 tyX5_ok nmX5 (m_v5 hM) (by decide) (by decide +kernel) rfl rfl rfl rfl (show R32 _ from (by omega)) dX5_ticket_74 (fun H locs hP hS => ?_)
          have hP : q_P g s0 n ad (q_up (q_up C 5 0 0 ((0))) 5 6 0 (((C 5 6 0) + (1)))) H := hP
          refine lv_aload_n X.1 X.2.1 dX5_ticket_77 rfl (lv_at hl 0 rfl) ?_
          refine q_get (index := 22) (v := .ref (ad 27 0)) X hP 5 7 0 rfl rfl (by decide) in5 (m_v5 hM) (by decide) (by decide +kernel) (m_r hM ad 7 27 (by decide)) dX5_ticket_78 ?_
          refine lv_aload_n X.1 X.2.1 dX5_ticket_81 rfl (lv_at hl 0 rfl) ?_
          refine q_get (index := 98) (v := .int (iI ((C 5 6 0) + (1)))) X hP 5 6 0 rfl rfl (by decide) in5 (m_v5 hM) (by decide) (by decide +kernel) rfl dX5_ticket_82 ?_
          refine lv_iload_n X.1 X.2.1 dX5_ticket_85 rfl (lv_at hl 1 rfl) ?_
          refine q_istv (len := 21) (x := a) (z := ((C 5 6 0) + (1))) X hP hS 27 0 (by decide) rfl rfl (m_va hM 7 (by decide) rfl) rfl (by omega) (by omega) ha dX5_ticket_86 (fun H locs hP hS => ?_)
          have hP : q_P g s0 n ad (q_up (q_up (q_up C 5 0 0 ((0))) 5 6 0 (((C 5 6 0) + (1)))) 27 ((((C 5 6 0) + (1))).toNat) 0 a) H := hP
          refine lv_aload_n X.1 X.2.1 dX5_ticket_87 rfl (lv_at hl 0 rfl) ?_
          refine q_get (index := 25) (v := .ref (ad 28 0)) X hP 5 8 0 rfl rfl (by decide) in5 (m_v5 hM) (by decide) (by decide +kernel) (m_r hM ad 8 28 (by decide)) dX5_ticket_88 ?_
          refine lv_aload_n X.1 X.2.1 dX5_ticket_91 rfl (lv_at hl 0 rfl) ?_
          refine q_get (index := 98) (v := .int (iI ((C 5 6 0) + (1)))) X hP 5 6 0 rfl rfl (by decide) in5 (m_v5 hM) (by decide) (by decide +kernel) rfl dX5_ticket_92 ?_
          refine lv_iload_n X.1 X.2.1 dX5_ticket_95 rfl (lv_at hl 2 rfl) ?_
          refine q_istv (len := 21) (x := b) (z := ((C 5 6 0) + (1))) X hP hS 28 0 (by decide) rfl rfl (m_va hM 8 (by decide) rfl) rfl (by omega) (by omega) hb dX5_ticket_96 (fun H locs hP hS => ?_)
          have hP : q_P g s0 n ad (q_up (q_up (q_up (q_up C 5 0 0 ((0))) 5 6 0 (((C 5 6 0) + (1)))) 27 ((((C 5 6 0) + (1))).toNat) 0 a) 28 ((((C 5 6 0) + (1))).toNat) 0 b) H := hP
          refine lv_aload_n X.1 X.2.1 dX5_ticket_97 rfl (lv_at hl 0 rfl) ?_
          refine q_get (index := 98) (v := .int (iI ((C 5 6 0) + (1)))) X hP 5 6 0 rfl rfl (by decide) in5 (m_v5 hM) (by decide) (by decide +kernel) rfl dX5_ticket_98 ?_
          exact q_iret X hr hlocks hP hS (Or.inl (⟨h_1, h_3, h_5, h_8, rfl, rfl⟩)) (Nat.le_of_ble_eq_true rfl) (Nat.le_of_ble_eq_true rfl) dX5_ticket_101
        · refine lv_iconst (v := iI (2)) X.1 X.2.1 dX5_ticket_50 rfl ?_
          refine lv_goto (tgt := 55) X.1 X.2.1 dX5_ticket_51 (by decide) ?_
          refine q_put (index := 82) (v := .int (iI (2))) X hP hS 5 0 0 ((2)) rfl rfl (by decide) in5 tyX5 tyX5_ok nmX5 (m_v5 hM) (by decide) (by decide +kernel) rfl rfl rfl rfl (show R32 _ from (by decide)) dX5_ticket_55 (fun H locs hP hS => ?_)
          have hP : q_P g s0 n ad (q_up C 5 0 0 ((2))) H := hP
          refine lv_aload_n X.1 X.2.1 dX5_ticket_58 rfl (lv_at hl 0 rfl) ?_
          refine q_get (index := 82) (v := .int (iI (2))) X hP 5 0 0 rfl rfl (by decide) in5 (m_v5 hM) (by decide) (by decide +kernel) rfl dX5_ticket_59 ?_
          refine q_if_le (tgt := 67) X (by decide) dX5_ticket_62 (by decide) (fun h => absurd h (by decide)) (fun _ => ?_)
          refine lv_iconst (v := iI (0)) X.1 X.2.1 dX5_ticket_65 rfl ?_
          exact q_iret X hr hlocks hP hS (Or.inr (Or.inl (⟨h_1, h_3, h_5, h_8, rfl, rfl⟩))) (Nat.le_of_ble_eq_true rfl) (Nat.le_of_ble_eq_true rfl) dX5_ticket_66
      · have hP : q_P g s0 n ad (C) H := q_back hB ht
        have h_5 : ¬ ((0) ≤ d ∧ d ≤ (3)) := h_5
        refine q_if_ne (tgt := 41) X (by decide) dX5_ticket_34 (by decide) (fun h => absurd h (by decide)) (fun _ => ?_)
        refine lv_iconst (v := iI (1)) X.1 X.2.1 dX5_ticket_37 rfl ?_
        refine lv_goto (tgt := 55) X.1 X.2.1 dX5_ticket_38 (by decide) ?_
        refine q_put (index := 82) (v := .int (iI (1))) X hP hS 5 0 0 ((1)) rfl rfl (by decide) in5 tyX5 tyX5_ok nmX5 (m_v5 hM) (by decide) (by decide +kernel) rfl rfl rfl rfl (show R32 _ from (by decide)) dX5_ticket_55 (fun H locs hP hS => ?_)
        have hP : q_P g s0 n ad (q_up C 5 0 0 ((1))) H := hP
        refine lv_aload_n X.1 X.2.1 dX5_ticket_58 rfl (lv_at hl 0 rfl) ?_
        refine q_get (index := 82) (v := .int (iI (1))) X hP 5 0 0 rfl rfl (by decide) in5 (m_v5 hM) (by decide) (by decide +kernel) rfl dX5_ticket_59 ?_
        refine q_if_le (tgt := 67) X (by decide) dX5_ticket_62 (by decide) (fun h => absurd h (by decide)) (fun _ => ?_)
        refine lv_iconst (v := iI (0)) X.1 X.2.1 dX5_ticket_65 rfl ?_
        exact q_iret X hr hlocks hP hS (Or.inr (Or.inr (Or.inl (⟨h_1, h_3, h_5, rfl, rfl⟩)))) (Nat.le_of_ble_eq_true rfl) (Nat.le_of_ble_eq_true rfl) dX5_ticket_66
    · have hP : q_P g s0 n ad (C) H := q_back hB ht
      have h_3 : ¬ ((1) ≤ b ∧ b ≤ (2)) := h_3
      refine q_if_eq (tgt := 37) X (by decide) dX5_ticket_22 (by decide) (fun _ => ?_) (fun h => absurd h (by decide))
      refine lv_iconst (v := iI (1)) X.1 X.2.1 dX5_ticket_37 rfl ?_
      refine lv_goto (tgt := 55) X.1 X.2.1 dX5_ticket_38 (by decide) ?_
      refine q_put (index := 82) (v := .int (iI (1))) X hP hS 5 0 0 ((1)) rfl rfl (by decide) in5 tyX5 tyX5_ok nmX5 (m_v5 hM) (by decide) (by decide +kernel) rfl rfl rfl rfl (show R32 _ from (by decide)) dX5_ticket_55 (fun H locs hP hS => ?_)
      have hP : q_P g s0 n ad (q_up C 5 0 0 ((1))) H := hP
      refine lv_aload_n X.1 X.2.1 dX5_ticket_58 rfl (lv_at hl 0 rfl) ?_
      refine q_get (index := 82) (v := .int (iI (1))) X hP 5 0 0 rfl rfl (by decide) in5 (m_v5 hM) (by decide) (by decide +kernel) rfl dX5_ticket_59 ?_
      refine q_if_le (tgt := 67) X (by decide) dX5_ticket_62 (by decide) (fun h => absurd h (by decide)) (fun _ => ?_)
      refine lv_iconst (v := iI (0)) X.1 X.2.1 dX5_ticket_65 rfl ?_
      exact q_iret X hr hlocks hP hS (Or.inr (Or.inr (Or.inr (Or.inl (⟨h_1, h_3, rfl, rfl⟩))))) (Nat.le_of_ble_eq_true rfl) (Nat.le_of_ble_eq_true rfl) dX5_ticket_66
  · have hP : q_P g s0 n ad (C) H := q_back hB ht
    have h_1 : ¬ ((0) ≤ a ∧ a ≤ (7)) := h_1
    refine q_if_eq (tgt := 37) X (by decide) dX5_ticket_10 (by decide) (fun _ => ?_) (fun h => absurd h (by decide))
    refine lv_iconst (v := iI (1)) X.1 X.2.1 dX5_ticket_37 rfl ?_
    refine lv_goto (tgt := 55) X.1 X.2.1 dX5_ticket_38 (by decide) ?_
    refine q_put (index := 82) (v := .int (iI (1))) X hP hS 5 0 0 ((1)) rfl rfl (by decide) in5 tyX5 tyX5_ok nmX5 (m_v5 hM) (by decide) (by decide +kernel) rfl rfl rfl rfl (show R32 _ from (by decide)) dX5_ticket_55 (fun H locs hP hS => ?_)
    have hP : q_P g s0 n ad (q_up C 5 0 0 ((1))) H := hP
    refine lv_aload_n X.1 X.2.1 dX5_ticket_58 rfl (lv_at hl 0 rfl) ?_
    refine q_get (index := 82) (v := .int (iI (1))) X hP 5 0 0 rfl rfl (by decide) in5 (m_v5 hM) (by decide) (by decide +kernel) rfl dX5_ticket_59 ?_
    refine q_if_le (tgt := 67) X (by decide) dX5_ticket_62 (by decide) (fun h => absurd h (by decide)) (fun _ => ?_)
    refine lv_iconst (v := iI (0)) X.1 X.2.1 dX5_ticket_65 rfl ?_
    exact q_iret X hr hlocks hP hS (Or.inr (Or.inr (Or.inr (Or.inr (⟨h_1, rfl, rfl⟩))))) (Nat.le_of_ble_eq_true rfl) (Nat.le_of_ble_eq_true rfl) dX5_ticket_66
def tX5_like (n : Nat → Nat) (ad : Nat → Nat → Nat) (C : q_S) (a : Int) (r : Int32) (u : q_U) : Prop :=
  (((0) ≤ a ∧ a ≤ (100)) ∧ u = (n, ad, q_up (q_up C 5 0 0 ((0))) 5 29 0 a) ∧ r = iI (C 5 29 0)) ∨
  ((¬ ((0) ≤ a ∧ a ≤ (100))) ∧ u = (n, ad, q_up C 5 0 0 ((1))) ∧ r = iI (0))
set_option maxHeartbeats 4000000 in
set_option maxRecDepth 100000 in
theorem c_X5_like (l : Launch) (g : q_G) (s0 : Nat) (n : Nat → Nat) (ad : Nat → Nat → Nat) (C : q_S) (c0 : Nat) (hM : m_S C n) (hR : m_R C c0) (hc0 : c0 ≤ 600) (a : Int) (ha : R32 a)  : Met l yX5_like wsX5_like ({ frames := 1, cells := 0, slots := 0, locals := 25 }) (va_Pc [.ref (ad 5 0), .int (iI a)] (q_B g s0 (n, ad, C))) (va_Qi (tX5_like n ad C a) (q_B g s0) (q_A s0)) 0 0 (q_A s0) := by
  refine Met.ofW (cc := cX5_like) (maxL := 3) (ret := (some .int)) (by decide) rfl ?_
  intro p e s m args below meth c s₁ B hml hv
  obtain ⟨rfl, hv⟩ := hv
  have hr := B.returns
  have hlocks := B.notSynchronized
  obtain ⟨X, hP⟩ := q_start B.exec B.bytes hml (show s.vm.findClass RX5 = some m.cls from findClass_of_methodNamed B.named) (atoms_spec (ws := wsX5_like) B.pre) hv
  have hP : q_P g s0 n ad C s.heap := hP
  have hS : va_S (q_A s0) s.heap s.heap [] := va_S.rf
  have in5 : ∀ w ∈ wsX50, w ∈ wsX5_like := by decide +kernel
  have hl := lv_entry ([.ref (ad 5 0), .int (iI a)]) (n := 3) (Nat.le_of_ble_eq_true rfl)
  rw [lg_entry_eq]
  generalize (lg_sl ([.ref (ad 5 0), .int (iI a)]) ++ List.replicate (3 - (lg_sl ([.ref (ad 5 0), .int (iI a)])).length) Slot.unset).toArray = ls at hl ⊢
  have hl : lv_has ls 3 [(0, .ref (ad 5 0)), (1, .int (iI a))] := hl
  refine lv_aload_n X.1 X.2.1 dX5_like_0 rfl (lv_at hl 0 rfl) ?_
  refine lv_iload_n X.1 X.2.1 dX5_like_1 rfl (lv_at hl 1 rfl) ?_
  refine q_i2l X ha dX5_like_2 ?_
  refine lv_lconst (v := jI (0)) X.1 X.2.1 dX5_like_3 (by decide) ?_
  refine q_ldc2 (v := 100) (z := 100) X (by decide) (by decide +kernel) dX5_like_4 ?_
  refine va_calli (va_runS (As := [.long (jI a), .long (jI (0)), .long (jI (100))]) (rest := [.ref (ad 5 0)]) X.fix (c_X5_in l g s0 n ad C a (0) (100) (q_3264 ha) (by decide) (by decide)) (va_cwS 3 X.2.2.2.2.1 gX5_like_X5_in rfl rfl rfl (by decide +kernel) ⟨Nat.le_of_ble_eq_true rfl, Nat.le_of_ble_eq_true rfl⟩) (q_preS X hP hS _) rfl rfl hl.1 rfl (lv_room (Nat.le_of_ble_eq_true rfl)) dX5_like_7 ⟨Nat.le_of_ble_eq_true rfl, Nat.le_of_ble_eq_true rfl⟩) hS q_id q_id1 (fun r u t H locs ht hvm hw hB hz1 hk1 hS => ?_)
  obtain ⟨rfl, ⟨h_1, rfl⟩ | ⟨h_1, rfl⟩⟩ := hw
  · have hP : q_P g s0 n ad (C) H := q_back hB ht
    have h_1 : (0) ≤ a ∧ a ≤ (100) := h_1
    refine q_if_eq (tgt := 17) X (by decide) dX5_like_10 (by decide) (fun h => absurd h (by decide)) (fun _ => ?_)
    refine lv_iconst (v := iI (0)) X.1 X.2.1 dX5_like_13 rfl ?_
    refine lv_goto (tgt := 18) X.1 X.2.1 dX5_like_14 (by decide) ?_
    refine q_put (index := 82) (v := .int (iI (0))) X hP hS 5 0 0 ((0)) rfl rfl (by decide) in5 tyX5 tyX5_ok nmX5 (m_v5 hM) (by decide) (by decide +kernel) rfl rfl rfl rfl (show R32 _ from (by decide)) dX5_like_18 (fun H locs hP hS => ?_)
    have hP : q_P g s0 n ad (q_up C 5 0 0 ((0))) H := hP
    refine lv_aload_n X.1 X.2.1 dX5_like_21 rfl (lv_at hl 0 rfl) ?_
    refine q_get (index := 82) (v := .int (iI (0))) X hP 5 0 0 rfl rfl (by decide) in5 (m_v5 hM) (by decide) (by decide +kernel) rfl dX5_like_22 ?_
    refine q_if_le (tgt := 30) X (by decide) dX5_like_25 (by decide) (fun _ => ?_) (fun h => absurd h (by decide))
    refine lv_aload_n X.1 X.2.1 dX5_like_30 rfl (lv_at hl 0 rfl) ?_
    refine q_get (index := 78) (v := .int (iI (C 5 29 0))) X hP 5 29 0 rfl rfl (by decide) in5 (m_v5 hM) (by decide) (by decide +kernel) rfl dX5_like_31 ?_
    refine lv_istore_n (lv' := [(2, .int (iI (C 5 29 0))), (0, .ref (ad 5 0)), (1, .int (iI a))]) X.1 X.2.1 dX5_like_34 rfl hl (by decide) rfl (fun ls hl => ?_)
    refine lv_aload_n X.1 X.2.1 dX5_like_35 rfl (lv_at hl 1 rfl) ?_
    refine lv_iload_n X.1 X.2.1 dX5_like_36 rfl (lv_at hl 2 rfl) ?_
    refine q_put (index := 78) (v := .int (iI a)) X hP hS 5 29 0 a rfl rfl (by decide) in5 tyX5 tyX5_ok nmX5 (m_v5 hM) (by decide) (by decide +kernel) rfl rfl rfl rfl (show R32 _ from ha) dX5_like_37 (fun H locs hP hS => ?_)
    have hP : q_P g s0 n ad (q_up (q_up C 5 0 0 ((0))) 5 29 0 a) H := hP
    refine lv_iload_n X.1 X.2.1 dX5_like_40 rfl (lv_at hl 0 rfl) ?_
    exact q_iret X hr hlocks hP hS (Or.inl (⟨h_1, rfl, rfl⟩)) (Nat.le_of_ble_eq_true rfl) (Nat.le_of_ble_eq_true rfl) dX5_like_41
  · have hP : q_P g s0 n ad (C) H := q_back hB ht
    have h_1 : ¬ ((0) ≤ a ∧ a ≤ (100)) := h_1
    refine q_if_eq (tgt := 17) X (by decide) dX5_like_10 (by decide) (fun _ => ?_) (fun h => absurd h (by decide))
    refine lv_iconst (v := iI (1)) X.1 X.2.1 dX5_like_17 rfl ?_
    refine q_put (index := 82) (v := .int (iI (1))) X hP hS 5 0 0 ((1)) rfl rfl (by decide) in5 tyX5 tyX5_ok nmX5 (m_v5 hM) (by decide) (by decide +kernel) rfl rfl rfl rfl (show R32 _ from (by decide)) dX5_like_18 (fun H locs hP hS => ?_)
    have hP : q_P g s0 n ad (q_up C 5 0 0 ((1))) H := hP
    refine lv_aload_n X.1 X.2.1 dX5_like_21 rfl (lv_at hl 0 rfl) ?_
    refine q_get (index := 82) (v := .int (iI (1))) X hP 5 0 0 rfl rfl (by decide) in5 (m_v5 hM) (by decide) (by decide +kernel) rfl dX5_like_22 ?_
    refine q_if_le (tgt := 30) X (by decide) dX5_like_25 (by decide) (fun h => absurd h (by decide)) (fun _ => ?_)
    refine lv_iconst (v := iI (0)) X.1 X.2.1 dX5_like_28 rfl ?_
    exact q_iret X hr hlocks hP hS (Or.inr (⟨h_1, rfl, rfl⟩)) (Nat.le_of_ble_eq_true rfl) (Nat.le_of_ble_eq_true rfl) dX5_like_29
def tX5_hold (n : Nat → Nat) (ad : Nat → Nat → Nat) (C : q_S) (a b : Int) (r : Int32) (u : q_U) : Prop :=
  ((1 ≤ a ∧ a ≤ C 5 10 0) ∧ ((C 35 ((a).toNat) 0) = (0)) ∧ u = (n, ad, q_up (q_up C 5 0 0 ((0))) 35 ((a).toNat) 0 b) ∧ r = iI (0)) ∨
  ((1 ≤ a ∧ a ≤ C 5 10 0) ∧ (¬ (C 35 ((a).toNat) 0) = (0)) ∧ u = (n, ad, q_up (q_up C 5 0 0 ((0))) 35 ((a).toNat) 0 b) ∧ r = iI (1)) ∨
  ((¬ (1 ≤ a ∧ a ≤ C 5 10 0)) ∧ u = (n, ad, q_up C 5 0 0 ((1))) ∧ r = iI (0))
set_option maxHeartbeats 4000000 in
set_option maxRecDepth 100000 in
theorem c_X5_hold (l : Launch) (g : q_G) (s0 : Nat) (n : Nat → Nat) (ad : Nat → Nat → Nat) (C : q_S) (c0 : Nat) (hM : m_S C n) (hR : m_R C c0) (hc0 : c0 ≤ 600) (a b : Int) (ha : R32 a) (hb : R32 b) (hz : b = 0 ∨ b = 1) : Met l yX5_hold wsX5_hold ({ frames := 2, cells := 0, slots := 0, locals := 46 }) (va_Pc [.ref (ad 5 0), .int (iI a), .int (iI b)] (q_B g s0 (n, ad, C))) (va_Qi (tX5_hold n ad C a b) (q_B g s0) (q_A s0)) 0 0 (q_A s0) := by
  refine Met.ofW (cc := cX5_hold) (maxL := 4) (ret := (some .int)) (by decide) rfl ?_
  intro p e s m args below meth c s₁ B hml hv
  obtain ⟨rfl, hv⟩ := hv
  have hr := B.returns
  have hlocks := B.notSynchronized
  obtain ⟨X, hP⟩ := q_start B.exec B.bytes hml (show s.vm.findClass RX5 = some m.cls from findClass_of_methodNamed B.named) (atoms_spec (ws := wsX5_hold) B.pre) hv
  have hP : q_P g s0 n ad C s.heap := hP
  have hS : va_S (q_A s0) s.heap s.heap [] := va_S.rf
  have in5 : ∀ w ∈ wsX50, w ∈ wsX5_hold := by decide +kernel
  have f0 := m_Rj hR
  have hl := lv_entry ([.ref (ad 5 0), .int (iI a), .int (iI b)]) (n := 4) (Nat.le_of_ble_eq_true rfl)
  rw [lg_entry_eq]
  generalize (lg_sl ([.ref (ad 5 0), .int (iI a), .int (iI b)]) ++ List.replicate (4 - (lg_sl ([.ref (ad 5 0), .int (iI a), .int (iI b)])).length) Slot.unset).toArray = ls at hl ⊢
  have hl : lv_has ls 4 [(0, .ref (ad 5 0)), (1, .int (iI a)), (2, .int (iI b))] := hl
  refine lv_aload_n X.1 X.2.1 dX5_hold_0 rfl (lv_at hl 0 rfl) ?_
  refine lv_aload_n X.1 X.2.1 dX5_hold_1 rfl (lv_at hl 0 rfl) ?_
  refine lv_iload_n X.1 X.2.1 dX5_hold_2 rfl (lv_at hl 1 rfl) ?_
  refine va_calli (va_runV (As := [.int (iI a)]) (rest := [.ref (ad 5 0)]) X.fix (c_X5_isJob l g s0 n ad C c0 hM hR a ha) (cwV 1 X.2.2.2.2.1 gX5_hold_X5_isJob rfl rfl rfl (by decide +kernel) ⟨Nat.le_of_ble_eq_true rfl, Nat.le_of_ble_eq_true rfl⟩) (q_preV X hP hS [.int (iI a)] (kd := 5) (by decide) rfl (m_v5 hM)) rfl rfl hl.1 rfl (lv_room (Nat.le_of_ble_eq_true rfl)) dX5_hold_3 ⟨Nat.le_of_ble_eq_true rfl, Nat.le_of_ble_eq_true rfl⟩) hS q_id q_id1 (fun r u t H locs ht hvm hw hB hz1 hk1 hS => ?_)
  obtain ⟨rfl, ⟨h_1, rfl⟩ | ⟨h_1, rfl⟩⟩ := hw
  · have hP : q_P g s0 n ad (C) H := q_back hB ht
    have h_1 : 1 ≤ a ∧ a ≤ C 5 10 0 := h_1
    refine q_if_eq (tgt := 13) X (by decide) dX5_hold_6 (by decide) (fun h => absurd h (by decide)) (fun _ => ?_)
    refine lv_iconst (v := iI (0)) X.1 X.2.1 dX5_hold_9 rfl ?_
    refine lv_goto (tgt := 14) X.1 X.2.1 dX5_hold_10 (by decide) ?_
    refine q_put (index := 82) (v := .int (iI (0))) X hP hS 5 0 0 ((0)) rfl rfl (by decide) in5 tyX5 tyX5_ok nmX5 (m_v5 hM) (by decide) (by decide +kernel) rfl rfl rfl rfl (show R32 _ from (by decide)) dX5_hold_14 (fun H locs hP hS => ?_)
    have hP : q_P g s0 n ad (q_up C 5 0 0 ((0))) H := hP
    refine lv_aload_n X.1 X.2.1 dX5_hold_17 rfl (lv_at hl 0 rfl) ?_
    refine q_get (index := 82) (v := .int (iI (0))) X hP 5 0 0 rfl rfl (by decide) in5 (m_v5 hM) (by decide) (by decide +kernel) rfl dX5_hold_18 ?_
    refine q_if_le (tgt := 26) X (by decide) dX5_hold_21 (by decide) (fun _ => ?_) (fun h => absurd h (by decide))
    refine lv_aload_n X.1 X.2.1 dX5_hold_26 rfl (lv_at hl 0 rfl) ?_
    refine q_get (index := 44) (v := .ref (ad 35 0)) X hP 5 15 0 rfl rfl (by decide) in5 (m_v5 hM) (by decide) (by decide +kernel) (m_r hM ad 15 35 (by decide)) dX5_hold_27 ?_
    refine lv_iload_n X.1 X.2.1 dX5_hold_30 rfl (lv_at hl 1 rfl) ?_
    refine q_zldv (len := 61) (v := (C 35 ((a).toNat) 0)) X hP 35 0 (by decide) rfl rfl (m_va hM 15 (by decide) rfl) rfl (by omega) (by omega) rfl dX5_hold_31 ?_
    refine q_if_eq (tgt := 39) X (q_b32 (hP.tok 35 ((a).toNat) 0 rfl)) dX5_hold_32 (by decide) (fun h_4 => ?_) (fun h_4 => ?_)
    · refine lv_iconst (v := iI (0)) X.1 X.2.1 dX5_hold_39 rfl ?_
      refine lv_istore_n (lv' := [(3, .int (iI (0))), (0, .ref (ad 5 0)), (1, .int (iI a)), (2, .int (iI b))]) X.1 X.2.1 dX5_hold_40 rfl hl (by decide) rfl (fun ls hl => ?_)
      refine lv_aload_n X.1 X.2.1 dX5_hold_41 rfl (lv_at hl 1 rfl) ?_
      refine q_get (index := 44) (v := .ref (ad 35 0)) X hP 5 15 0 rfl rfl (by decide) in5 (m_v5 hM) (by decide) (by decide +kernel) (m_r hM ad 15 35 (by decide)) dX5_hold_42 ?_
      refine lv_iload_n X.1 X.2.1 dX5_hold_45 rfl (lv_at hl 2 rfl) ?_
      refine lv_iload_n X.1 X.2.1 dX5_hold_46 rfl (lv_at hl 3 rfl) ?_
      refine q_zstv (len := 61) (x := b) (z := a) X hP hS 35 0 (by decide) rfl rfl (m_va hM 15 (by decide) rfl) rfl (by omega) (by omega) (by omega) dX5_hold_47 (fun H locs hP hS => ?_)
      have hP : q_P g s0 n ad (q_up (q_up C 5 0 0 ((0))) 35 ((a).toNat) 0 b) H := hP
      refine lv_iload_n X.1 X.2.1 dX5_hold_48 rfl (lv_at hl 0 rfl) ?_
      exact q_iret X hr hlocks hP hS (Or.inl (⟨h_1, h_4, rfl, rfl⟩)) (Nat.le_of_ble_eq_true rfl) (Nat.le_of_ble_eq_true rfl) dX5_hold_49
    · refine lv_iconst (v := iI (1)) X.1 X.2.1 dX5_hold_35 rfl ?_
      refine lv_goto (tgt := 40) X.1 X.2.1 dX5_hold_36 (by decide) ?_
      refine lv_istore_n (lv' := [(3, .int (iI (1))), (0, .ref (ad 5 0)), (1, .int (iI a)), (2, .int (iI b))]) X.1 X.2.1 dX5_hold_40 rfl hl (by decide) rfl (fun ls hl => ?_)
      refine lv_aload_n X.1 X.2.1 dX5_hold_41 rfl (lv_at hl 1 rfl) ?_
      refine q_get (index := 44) (v := .ref (ad 35 0)) X hP 5 15 0 rfl rfl (by decide) in5 (m_v5 hM) (by decide) (by decide +kernel) (m_r hM ad 15 35 (by decide)) dX5_hold_42 ?_
      refine lv_iload_n X.1 X.2.1 dX5_hold_45 rfl (lv_at hl 2 rfl) ?_
      refine lv_iload_n X.1 X.2.1 dX5_hold_46 rfl (lv_at hl 3 rfl) ?_
      refine q_zstv (len := 61) (x := b) (z := a) X hP hS 35 0 (by decide) rfl rfl (m_va hM 15 (by decide) rfl) rfl (by omega) (by omega) (by omega) dX5_hold_47 (fun H locs hP hS => ?_)
      have hP : q_P g s0 n ad (q_up (q_up C 5 0 0 ((0))) 35 ((a).toNat) 0 b) H := hP
      refine lv_iload_n X.1 X.2.1 dX5_hold_48 rfl (lv_at hl 0 rfl) ?_
      exact q_iret X hr hlocks hP hS (Or.inr (Or.inl (⟨h_1, h_4, rfl, rfl⟩))) (Nat.le_of_ble_eq_true rfl) (Nat.le_of_ble_eq_true rfl) dX5_hold_49
  · have hP : q_P g s0 n ad (C) H := q_back hB ht
    have h_1 : ¬ (1 ≤ a ∧ a ≤ C 5 10 0) := h_1
    refine q_if_eq (tgt := 13) X (by decide) dX5_hold_6 (by decide) (fun _ => ?_) (fun h => absurd h (by decide))
    refine lv_iconst (v := iI (1)) X.1 X.2.1 dX5_hold_13 rfl ?_
    refine q_put (index := 82) (v := .int (iI (1))) X hP hS 5 0 0 ((1)) rfl rfl (by decide) in5 tyX5 tyX5_ok nmX5 (m_v5 hM) (by decide) (by decide +kernel) rfl rfl rfl rfl (show R32 _ from (by decide)) dX5_hold_14 (fun H locs hP hS => ?_)
    have hP : q_P g s0 n ad (q_up C 5 0 0 ((1))) H := hP
    refine lv_aload_n X.1 X.2.1 dX5_hold_17 rfl (lv_at hl 0 rfl) ?_
    refine q_get (index := 82) (v := .int (iI (1))) X hP 5 0 0 rfl rfl (by decide) in5 (m_v5 hM) (by decide) (by decide +kernel) rfl dX5_hold_18 ?_
    refine q_if_le (tgt := 26) X (by decide) dX5_hold_21 (by decide) (fun h => absurd h (by decide)) (fun _ => ?_)
    refine lv_iconst (v := iI (0)) X.1 X.2.1 dX5_hold_24 rfl ?_
    exact q_iret X hr hlocks hP hS (Or.inr (Or.inr (⟨h_1, rfl, rfl⟩))) (Nat.le_of_ble_eq_true rfl) (Nat.le_of_ble_eq_true rfl) dX5_hold_25
def tX5_job (n : Nat → Nat) (ad : Nat → Nat → Nat) (C : q_S) (a b d f y : Int) (r : Int32) (u : q_U) : Prop :=
  (((1) ≤ b ∧ b ≤ (500)) ∧ ((1) ≤ d ∧ d ≤ (100)) ∧ ((0) ≤ f ∧ f ≤ (9)) ∧ (y < (0)) ∧ ((1) ≤ a ∧ a ≤ (C 5 6 0)) ∧ u = (n, ad, q_up C 5 0 0 ((2))) ∧ r = iI (0)) ∨
  (((1) ≤ b ∧ b ≤ (500)) ∧ ((1) ≤ d ∧ d ≤ (100)) ∧ ((0) ≤ f ∧ f ≤ (9)) ∧ (y < (0)) ∧ (¬ ((1) ≤ a ∧ a ≤ (C 5 6 0))) ∧ u = (n, ad, q_up C 5 0 0 ((1))) ∧ r = iI (0)) ∨
  (((1) ≤ b ∧ b ≤ (500)) ∧ ((1) ≤ d ∧ d ≤ (100)) ∧ ((0) ≤ f ∧ f ≤ (9)) ∧ ((0) ≤ y) ∧ ((1) ≤ a ∧ a ≤ (C 5 6 0)) ∧ (¬ (C 5 10 0) = (60)) ∧ u = (n, ad, m_add (q_up (q_up (q_up (q_up (q_up (q_up C 5 0 0 ((0))) 5 10 0 (((C 5 10 0) + (1)))) 31 ((((C 5 10 0) + (1))).toNat) 0 a) 32 ((((C 5 10 0) + (1))).toNat) 0 b) 33 ((((C 5 10 0) + (1))).toNat) 0 f) 34 ((((C 5 10 0) + (1))).toNat) 0 y) ((C 5 10 0) + (1)) d (0)) ∧ r = iI ((C 5 10 0) + (1))) ∨
  (((1) ≤ b ∧ b ≤ (500)) ∧ ((1) ≤ d ∧ d ≤ (100)) ∧ ((0) ≤ f ∧ f ≤ (9)) ∧ ((0) ≤ y) ∧ ((1) ≤ a ∧ a ≤ (C 5 6 0)) ∧ ((C 5 10 0) = (60)) ∧ u = (n, ad, q_up C 5 0 0 ((3))) ∧ r = iI (0)) ∨
  (((1) ≤ b ∧ b ≤ (500)) ∧ ((1) ≤ d ∧ d ≤ (100)) ∧ ((0) ≤ f ∧ f ≤ (9)) ∧ ((0) ≤ y) ∧ (¬ ((1) ≤ a ∧ a ≤ (C 5 6 0))) ∧ u = (n, ad, q_up C 5 0 0 ((1))) ∧ r = iI (0)) ∨
  (((1) ≤ b ∧ b ≤ (500)) ∧ ((1) ≤ d ∧ d ≤ (100)) ∧ (¬ ((0) ≤ f ∧ f ≤ (9))) ∧ ((1) ≤ a ∧ a ≤ (C 5 6 0)) ∧ u = (n, ad, q_up C 5 0 0 ((2))) ∧ r = iI (0)) ∨
  (((1) ≤ b ∧ b ≤ (500)) ∧ ((1) ≤ d ∧ d ≤ (100)) ∧ (¬ ((0) ≤ f ∧ f ≤ (9))) ∧ (¬ ((1) ≤ a ∧ a ≤ (C 5 6 0))) ∧ u = (n, ad, q_up C 5 0 0 ((1))) ∧ r = iI (0)) ∨
  (((1) ≤ b ∧ b ≤ (500)) ∧ (¬ ((1) ≤ d ∧ d ≤ (100))) ∧ ((1) ≤ a ∧ a ≤ (C 5 6 0)) ∧ u = (n, ad, q_up C 5 0 0 ((2))) ∧ r = iI (0)) ∨
  (((1) ≤ b ∧ b ≤ (500)) ∧ (¬ ((1) ≤ d ∧ d ≤ (100))) ∧ (¬ ((1) ≤ a ∧ a ≤ (C 5 6 0))) ∧ u = (n, ad, q_up C 5 0 0 ((1))) ∧ r = iI (0)) ∨
  ((¬ ((1) ≤ b ∧ b ≤ (500))) ∧ ((1) ≤ a ∧ a ≤ (C 5 6 0)) ∧ u = (n, ad, q_up C 5 0 0 ((2))) ∧ r = iI (0)) ∨
  ((¬ ((1) ≤ b ∧ b ≤ (500))) ∧ (¬ ((1) ≤ a ∧ a ≤ (C 5 6 0))) ∧ u = (n, ad, q_up C 5 0 0 ((1))) ∧ r = iI (0))
set_option maxHeartbeats 4000000 in
set_option maxRecDepth 100000 in
theorem c_X5_job (l : Launch) (g : q_G) (s0 : Nat) (n : Nat → Nat) (ad : Nat → Nat → Nat) (C : q_S) (c0 : Nat) (hM : m_S C n) (hR : m_R C c0) (hc0 : c0 ≤ 600) (a b d f y : Int) (ha : R32 a) (hb : R32 b) (hd : R32 d) (hf : R32 f) (hy : R64 y)  : Met l yX5_job wsX5_job ({ frames := 1, cells := 0, slots := 0, locals := 25 }) (va_Pc [.ref (ad 5 0), .int (iI a), .int (iI b), .int (iI d), .int (iI f), .long (jI y)] (q_B g s0 (n, ad, C))) (va_Qi (tX5_job n ad C a b d f y) (q_B g s0) (q_A s0)) 0 0 (q_A s0) := by
  refine Met.ofW (cc := cX5_job) (maxL := 8) (ret := (some .int)) (by decide) rfl ?_
  intro p e s m args below meth c s₁ B hml hv
  obtain ⟨rfl, hv⟩ := hv
  have hr := B.returns
  have hlocks := B.notSynchronized
  obtain ⟨X, hP⟩ := q_start B.exec B.bytes hml (show s.vm.findClass RX5 = some m.cls from findClass_of_methodNamed B.named) (atoms_spec (ws := wsX5_job) B.pre) hv
  have hP : q_P g s0 n ad C s.heap := hP
  have hS : va_S (q_A s0) s.heap s.heap [] := va_S.rf
  have in5 : ∀ w ∈ wsX50, w ∈ wsX5_job := by decide +kernel
  have f0 := m_Rk hR
  have hl := lv_entry ([.ref (ad 5 0), .int (iI a), .int (iI b), .int (iI d), .int (iI f), .long (jI y)]) (n := 8) (Nat.le_of_ble_eq_true rfl)
  rw [lg_entry_eq]
  generalize (lg_sl ([.ref (ad 5 0), .int (iI a), .int (iI b), .int (iI d), .int (iI f), .long (jI y)]) ++ List.replicate (8 - (lg_sl ([.ref (ad 5 0), .int (iI a), .int (iI b), .int (iI d), .int (iI f), .long (jI y)])).length) Slot.unset).toArray = ls at hl ⊢
  have hl : lv_has ls 8 [(0, .ref (ad 5 0)), (1, .int (iI a)), (2, .int (iI b)), (3, .int (iI d)), (4, .int (iI f)), (5, .long (jI y))] := hl
  refine lv_iload_n X.1 X.2.1 dX5_job_0 rfl (lv_at hl 2 rfl) ?_
  refine q_i2l X hb dX5_job_1 ?_
  refine lv_lconst (v := jI (1)) X.1 X.2.1 dX5_job_2 (by decide) ?_
  refine q_ldc2 (v := 500) (z := 500) X (by decide) (by decide +kernel) dX5_job_3 ?_
  refine va_calli (va_runS (As := [.long (jI b), .long (jI (1)), .long (jI (500))]) (rest := []) X.fix (c_X5_in l g s0 n ad C b (1) (500) (q_3264 hb) (by decide) (by decide)) (va_cwS 3 X.2.2.2.2.1 gX5_job_X5_in rfl rfl rfl (by decide +kernel) ⟨Nat.le_of_ble_eq_true rfl, Nat.le_of_ble_eq_true rfl⟩) (q_preS X hP hS _) rfl rfl hl.1 rfl (lv_room (Nat.le_of_ble_eq_true rfl)) dX5_job_6 ⟨Nat.le_of_ble_eq_true rfl, Nat.le_of_ble_eq_true rfl⟩) hS q_id q_id1 (fun r u t H locs ht hvm hw hB hz1 hk1 hS => ?_)
  obtain ⟨rfl, ⟨h_1, rfl⟩ | ⟨h_1, rfl⟩⟩ := hw
  · have hP : q_P g s0 n ad (C) H := q_back hB ht
    have h_1 : (1) ≤ b ∧ b ≤ (500) := h_1
    refine q_if_eq (tgt := 48) X (by decide) dX5_job_9 (by decide) (fun h => absurd h (by decide)) (fun _ => ?_)
    refine lv_iload_n X.1 X.2.1 dX5_job_12 rfl (lv_at hl 3 rfl) ?_
    refine q_i2l X hd dX5_job_13 ?_
    refine lv_lconst (v := jI (1)) X.1 X.2.1 dX5_job_14 (by decide) ?_
    refine q_ldc2 (v := 100) (z := 100) X (by decide) (by decide +kernel) dX5_job_15 ?_
    refine va_calli (va_runS (As := [.long (jI d), .long (jI (1)), .long (jI (100))]) (rest := []) X.fix (c_X5_in l g s0 n ad C d (1) (100) (q_3264 hd) (by decide) (by decide)) (va_cwS 3 X.2.2.2.2.1 gX5_job_X5_in rfl rfl rfl (by decide +kernel) ⟨Nat.le_of_ble_eq_true rfl, Nat.le_of_ble_eq_true rfl⟩) (q_preS X hP hS _) rfl rfl hl.1 rfl (lv_room (Nat.le_of_ble_eq_true rfl)) dX5_job_18 ⟨Nat.le_of_ble_eq_true rfl, Nat.le_of_ble_eq_true rfl⟩) hS q_id q_id1 (fun r u t H locs ht hvm hw hB hz1 hk1 hS => ?_)
    obtain ⟨rfl, ⟨h_3, rfl⟩ | ⟨h_3, rfl⟩⟩ := hw
    · have hP : q_P g s0 n ad (C) H := q_back hB ht
      have h_3 : (1) ≤ d ∧ d ≤ (100) := h_3
      refine q_if_eq (tgt := 48) X (by decide) dX5_job_21 (by decide) (fun h => absurd h (by decide)) (fun _ => ?_)
      refine lv_iload X.1 X.2.1 dX5_job_24 (lv_at hl 4 rfl) ?_
      refine q_i2l X hf dX5_job_26 ?_
      refine lv_lconst (v := jI (0)) X.1 X.2.1 dX5_job_27 (by decide) ?_
      refine q_ldc2 (v := 9) (z := 9) X (by decide) (by decide +kernel) dX5_job_28 ?_
      refine va_calli (va_runS (As := [.long (jI f), .long (jI (0)), .long (jI (9))]) (rest := []) X.fix (c_X5_in l g s0 n ad C f (0) (9) (q_3264 hf) (by decide) (by decide)) (va_cwS 3 X.2.2.2.2.1 gX5_job_X5_in rfl rfl rfl (by decide +kernel) ⟨Nat.le_of_ble_eq_true rfl, Nat.le_of_ble_eq_true rfl⟩) (q_preS X hP hS _) rfl rfl hl.1 rfl (lv_room (Nat.le_of_ble_eq_true rfl)) dX5_job_31 ⟨Nat.le_of_ble_eq_true rfl, Nat.le_of_ble_eq_true rfl⟩) hS q_id q_id1 (fun r u t H locs ht hvm hw hB hz1 hk1 hS => ?_)
      obtain ⟨rfl, ⟨h_5, rfl⟩ | ⟨h_5, rfl⟩⟩ := hw
      · have hP : q_P g s0 n ad (C) H := q_back hB ht
        have h_5 : (0) ≤ f ∧ f ≤ (9) := h_5
        refine q_if_eq (tgt := 48) X (by decide) dX5_job_34 (by decide) (fun h => absurd h (by decide)) (fun _ => ?_)
        refine lv_lload X.1 X.2.1 dX5_job_37 (lv_at hl 5 rfl) ?_
        refine lv_lconst (v := jI (0)) X.1 X.2.1 dX5_job_39 (by decide) ?_
        refine q_lcmp_lt (tgt := 48) X hy (by decide) dX5_job_40 dX5_job_41 (by decide) (fun h_7 => ?_) (fun h_7 => ?_)
        · refine lv_iconst (v := iI (0)) X.1 X.2.1 dX5_job_48 rfl ?_
          refine lv_istore (lv' := [(7, .int (iI (0))), (0, .ref (ad 5 0)), (1, .int (iI a)), (2, .int (iI b)), (3, .int (iI d)), (4, .int (iI f)), (5, .long (jI y))]) X.1 X.2.1 dX5_job_49 hl (by decide) rfl (fun ls hl => ?_)
          refine lv_aload_n X.1 X.2.1 dX5_job_51 rfl (lv_at hl 1 rfl) ?_
          refine lv_iload_n X.1 X.2.1 dX5_job_52 rfl (lv_at hl 2 rfl) ?_
          refine q_i2l X ha dX5_job_53 ?_
          refine lv_lconst (v := jI (1)) X.1 X.2.1 dX5_job_54 (by decide) ?_
          refine lv_aload_n X.1 X.2.1 dX5_job_55 rfl (lv_at hl 1 rfl) ?_
          refine q_get (index := 98) (v := .int (iI (C 5 6 0))) X hP 5 6 0 rfl rfl (by decide) in5 (m_v5 hM) (by decide) (by decide +kernel) rfl dX5_job_56 ?_
          have f_8 := m_Rt hR
          refine q_i2l X (hP.tok 5 6 0 rfl) dX5_job_59 ?_
          refine va_calli (va_runS (As := [.long (jI a), .long (jI (1)), .long (jI (C 5 6 0))]) (rest := [.ref (ad 5 0)]) X.fix (c_X5_in l g s0 n ad C a (1) (C 5 6 0) (q_3264 ha) (by decide) (q_3264 (hP.tok 5 6 0 rfl))) (va_cwS 3 X.2.2.2.2.1 gX5_job_X5_in rfl rfl rfl (by decide +kernel) ⟨Nat.le_of_ble_eq_true rfl, Nat.le_of_ble_eq_true rfl⟩) (q_preS X hP hS _) rfl rfl hl.1 rfl (lv_room (Nat.le_of_ble_eq_true rfl)) dX5_job_60 ⟨Nat.le_of_ble_eq_true rfl, Nat.le_of_ble_eq_true rfl⟩) hS q_id q_id1 (fun r u t H locs ht hvm hw hB hz1 hk1 hS => ?_)
          obtain ⟨rfl, ⟨h_9, rfl⟩ | ⟨h_9, rfl⟩⟩ := hw
          · have hP : q_P g s0 n ad (C) H := q_back hB ht
            have h_9 : (1) ≤ a ∧ a ≤ (C 5 6 0) := h_9
            refine q_if_ne (tgt := 70) X (by decide) dX5_job_63 (by decide) (fun _ => ?_) (fun h => absurd h (by decide))
            refine lv_iload X.1 X.2.1 dX5_job_70 (lv_at hl 0 rfl) ?_
            refine q_if_ne (tgt := 79) X (by decide) dX5_job_72 (by decide) (fun h => absurd h (by decide)) (fun _ => ?_)
            refine lv_iconst (v := iI (2)) X.1 X.2.1 dX5_job_75 rfl ?_
            refine lv_goto (tgt := 93) X.1 X.2.1 dX5_job_76 (by decide) ?_
            refine q_put (index := 82) (v := .int (iI (2))) X hP hS 5 0 0 ((2)) rfl rfl (by decide) in5 tyX5 tyX5_ok nmX5 (m_v5 hM) (by decide) (by decide +kernel) rfl rfl rfl rfl (show R32 _ from (by decide)) dX5_job_93 (fun H locs hP hS => ?_)
            have hP : q_P g s0 n ad (q_up C 5 0 0 ((2))) H := hP
            refine lv_aload_n X.1 X.2.1 dX5_job_96 rfl (lv_at hl 1 rfl) ?_
            refine q_get (index := 82) (v := .int (iI (2))) X hP 5 0 0 rfl rfl (by decide) in5 (m_v5 hM) (by decide) (by decide +kernel) rfl dX5_job_97 ?_
            refine q_if_le (tgt := 105) X (by decide) dX5_job_100 (by decide) (fun h => absurd h (by decide)) (fun _ => ?_)
            refine lv_iconst (v := iI (0)) X.1 X.2.1 dX5_job_103 rfl ?_
            exact q_iret X hr hlocks hP hS (Or.inl (⟨h_1, h_3, h_5, h_7, h_9, rfl, rfl⟩)) (Nat.le_of_ble_eq_true rfl) (Nat.le_of_ble_eq_true rfl) dX5_job_104
          · have hP : q_P g s0 n ad (C) H := q_back hB ht
            have h_9 : ¬ ((1) ≤ a ∧ a ≤ (C 5 6 0)) := h_9
            refine q_if_ne (tgt := 70) X (by decide) dX5_job_63 (by decide) (fun h => absurd h (by decide)) (fun _ => ?_)
            refine lv_iconst (v := iI (1)) X.1 X.2.1 dX5_job_66 rfl ?_
            refine lv_goto (tgt := 93) X.1 X.2.1 dX5_job_67 (by decide) ?_
            refine q_put (index := 82) (v := .int (iI (1))) X hP hS 5 0 0 ((1)) rfl rfl (by decide) in5 tyX5 tyX5_ok nmX5 (m_v5 hM) (by decide) (by decide +kernel) rfl rfl rfl rfl (show R32 _ from (by decide)) dX5_job_93 (fun H locs hP hS => ?_)
            have hP : q_P g s0 n ad (q_up C 5 0 0 ((1))) H := hP
            refine lv_aload_n X.1 X.2.1 dX5_job_96 rfl (lv_at hl 1 rfl) ?_
            refine q_get (index := 82) (v := .int (iI (1))) X hP 5 0 0 rfl rfl (by decide) in5 (m_v5 hM) (by decide) (by decide +kernel) rfl dX5_job_97 ?_
            refine q_if_le (tgt := 105) X (by decide) dX5_job_100 (by decide) (fun h => absurd h (by decide)) (fun _ => ?_)
            refine lv_iconst (v := iI (0)) X.1 X.2.1 dX5_job_103 rfl ?_
            exact q_iret X hr hlocks hP hS (Or.inr (Or.inl (⟨h_1, h_3, h_5, h_7, h_9, rfl, rfl⟩))) (Nat.le_of_ble_eq_true rfl) (Nat.le_of_ble_eq_true rfl) dX5_job_104
        · refine lv_iconst (v := iI (1)) X.1 X.2.1 dX5_job_44 rfl ?_
          refine lv_goto (tgt := 49) X.1 X.2.1 dX5_job_45 (by decide) ?_
          refine lv_istore (lv' := [(7, .int (iI (1))), (0, .ref (ad 5 0)), (1, .int (iI a)), (2, .int (iI b)), (3, .int (iI d)), (4, .int (iI f)), (5, .long (jI y))]) X.1 X.2.1 dX5_job_49 hl (by decide) rfl (fun ls hl => ?_)
          refine lv_aload_n X.1 X.2.1 dX5_job_51 rfl (lv_at hl 1 rfl) ?_
          refine lv_iload_n X.1 X.2.1 dX5_job_52 rfl (lv_at hl 2 rfl) ?_
          refine q_i2l X ha dX5_job_53 ?_
          refine lv_lconst (v := jI (1)) X.1 X.2.1 dX5_job_54 (by decide) ?_
          refine lv_aload_n X.1 X.2.1 dX5_job_55 rfl (lv_at hl 1 rfl) ?_
          refine q_get (index := 98) (v := .int (iI (C 5 6 0))) X hP 5 6 0 rfl rfl (by decide) in5 (m_v5 hM) (by decide) (by decide +kernel) rfl dX5_job_56 ?_
          have f_15 := m_Rt hR
          refine q_i2l X (hP.tok 5 6 0 rfl) dX5_job_59 ?_
          refine va_calli (va_runS (As := [.long (jI a), .long (jI (1)), .long (jI (C 5 6 0))]) (rest := [.ref (ad 5 0)]) X.fix (c_X5_in l g s0 n ad C a (1) (C 5 6 0) (q_3264 ha) (by decide) (q_3264 (hP.tok 5 6 0 rfl))) (va_cwS 3 X.2.2.2.2.1 gX5_job_X5_in rfl rfl rfl (by decide +kernel) ⟨Nat.le_of_ble_eq_true rfl, Nat.le_of_ble_eq_true rfl⟩) (q_preS X hP hS _) rfl rfl hl.1 rfl (lv_room (Nat.le_of_ble_eq_true rfl)) dX5_job_60 ⟨Nat.le_of_ble_eq_true rfl, Nat.le_of_ble_eq_true rfl⟩) hS q_id q_id1 (fun r u t H locs ht hvm hw hB hz1 hk1 hS => ?_)
          obtain ⟨rfl, ⟨h_16, rfl⟩ | ⟨h_16, rfl⟩⟩ := hw
          · have hP : q_P g s0 n ad (C) H := q_back hB ht
            have h_16 : (1) ≤ a ∧ a ≤ (C 5 6 0) := h_16
            refine q_if_ne (tgt := 70) X (by decide) dX5_job_63 (by decide) (fun _ => ?_) (fun h => absurd h (by decide))
            refine lv_iload X.1 X.2.1 dX5_job_70 (lv_at hl 0 rfl) ?_
            refine q_if_ne (tgt := 79) X (by decide) dX5_job_72 (by decide) (fun _ => ?_) (fun h => absurd h (by decide))
            refine lv_aload_n X.1 X.2.1 dX5_job_79 rfl (lv_at hl 1 rfl) ?_
            refine q_get (index := 110) (v := .int (iI (C 5 10 0))) X hP 5 10 0 rfl rfl (by decide) in5 (m_v5 hM) (by decide) (by decide +kernel) rfl dX5_job_80 ?_
            have f_19 := m_Rj hR
            refine lv_bipush (v := iI (60)) X.1 X.2.1 dX5_job_83 (by decide) ?_
            refine q_icmp_ne (tgt := 92) X (hP.tok 5 10 0 rfl) (by decide) dX5_job_85 (by decide) (fun h_20 => ?_) (fun h_20 => ?_)
            · refine lv_iconst (v := iI (0)) X.1 X.2.1 dX5_job_92 rfl ?_
              refine q_put (index := 82) (v := .int (iI (0))) X hP hS 5 0 0 ((0)) rfl rfl (by decide) in5 tyX5 tyX5_ok nmX5 (m_v5 hM) (by decide) (by decide +kernel) rfl rfl rfl rfl (show R32 _ from (by decide)) dX5_job_93 (fun H locs hP hS => ?_)
              have hP : q_P g s0 n ad (q_up C 5 0 0 ((0))) H := hP
              refine lv_aload_n X.1 X.2.1 dX5_job_96 rfl (lv_at hl 1 rfl) ?_
              refine q_get (index := 82) (v := .int (iI (0))) X hP 5 0 0 rfl rfl (by decide) in5 (m_v5 hM) (by decide) (by decide +kernel) rfl dX5_job_97 ?_
              refine q_if_le (tgt := 105) X (by decide) dX5_job_100 (by decide) (fun _ => ?_) (fun h => absurd h (by decide))
              refine lv_aload_n X.1 X.2.1 dX5_job_105 rfl (lv_at hl 1 rfl) ?_
              refine lv_dup X.1 X.2.1 dX5_job_106 rfl ?_
              refine q_get (index := 110) (v := .int (iI (C 5 10 0))) X hP 5 10 0 rfl rfl (by decide) in5 (m_v5 hM) (by decide) (by decide +kernel) rfl dX5_job_107 ?_
              refine lv_iconst (v := iI (1)) X.1 X.2.1 dX5_job_110 rfl ?_
              refine q_iadd X dX5_job_111 ?_
              refine q_put (index := 110) (v := .int (iI ((C 5 10 0) + (1)))) X hP hS 5 10 0 (((C 5 10 0) + (1))) rfl rfl (by decide) in5 tyX5 tyX5_ok nmX5 (m_v5 hM) (by decide) (by decide +kernel) rfl rfl rfl rfl (show R32 _ from (by omega)) dX5_job_112 (fun H locs hP hS => ?_)
              have hP : q_P g s0 n ad (q_up (q_up C 5 0 0 ((0))) 5 10 0 (((C 5 10 0) + (1)))) H := hP
              refine lv_aload_n X.1 X.2.1 dX5_job_115 rfl (lv_at hl 1 rfl) ?_
              refine q_get (index := 32) (v := .ref (ad 31 0)) X hP 5 11 0 rfl rfl (by decide) in5 (m_v5 hM) (by decide) (by decide +kernel) (m_r hM ad 11 31 (by decide)) dX5_job_116 ?_
              refine lv_aload_n X.1 X.2.1 dX5_job_119 rfl (lv_at hl 1 rfl) ?_
              refine q_get (index := 110) (v := .int (iI ((C 5 10 0) + (1)))) X hP 5 10 0 rfl rfl (by decide) in5 (m_v5 hM) (by decide) (by decide +kernel) rfl dX5_job_120 ?_
              refine lv_iload_n X.1 X.2.1 dX5_job_123 rfl (lv_at hl 2 rfl) ?_
              refine q_istv (len := 61) (x := a) (z := ((C 5 10 0) + (1))) X hP hS 31 0 (by decide) rfl rfl (m_va hM 11 (by decide) rfl) rfl (by omega) (by omega) ha dX5_job_124 (fun H locs hP hS => ?_)
              have hP : q_P g s0 n ad (q_up (q_up (q_up C 5 0 0 ((0))) 5 10 0 (((C 5 10 0) + (1)))) 31 ((((C 5 10 0) + (1))).toNat) 0 a) H := hP
              refine lv_aload_n X.1 X.2.1 dX5_job_125 rfl (lv_at hl 1 rfl) ?_
              refine q_get (index := 35) (v := .ref (ad 32 0)) X hP 5 12 0 rfl rfl (by decide) in5 (m_v5 hM) (by decide) (by decide +kernel) (m_r hM ad 12 32 (by decide)) dX5_job_126 ?_
              refine lv_aload_n X.1 X.2.1 dX5_job_129 rfl (lv_at hl 1 rfl) ?_
              refine q_get (index := 110) (v := .int (iI ((C 5 10 0) + (1)))) X hP 5 10 0 rfl rfl (by decide) in5 (m_v5 hM) (by decide) (by decide +kernel) rfl dX5_job_130 ?_
              refine lv_iload_n X.1 X.2.1 dX5_job_133 rfl (lv_at hl 3 rfl) ?_
              refine q_istv (len := 61) (x := b) (z := ((C 5 10 0) + (1))) X hP hS 32 0 (by decide) rfl rfl (m_va hM 12 (by decide) rfl) rfl (by omega) (by omega) hb dX5_job_134 (fun H locs hP hS => ?_)
              have hP : q_P g s0 n ad (q_up (q_up (q_up (q_up C 5 0 0 ((0))) 5 10 0 (((C 5 10 0) + (1)))) 31 ((((C 5 10 0) + (1))).toNat) 0 a) 32 ((((C 5 10 0) + (1))).toNat) 0 b) H := hP
              refine lv_aload_n X.1 X.2.1 dX5_job_135 rfl (lv_at hl 1 rfl) ?_
              refine q_get (index := 38) (v := .ref (ad 33 0)) X hP 5 13 0 rfl rfl (by decide) in5 (m_v5 hM) (by decide) (by decide +kernel) (m_r hM ad 13 33 (by decide)) dX5_job_136 ?_
              refine lv_aload_n X.1 X.2.1 dX5_job_139 rfl (lv_at hl 1 rfl) ?_
              refine q_get (index := 110) (v := .int (iI ((C 5 10 0) + (1)))) X hP 5 10 0 rfl rfl (by decide) in5 (m_v5 hM) (by decide) (by decide +kernel) rfl dX5_job_140 ?_
              refine lv_iload X.1 X.2.1 dX5_job_143 (lv_at hl 5 rfl) ?_
              refine q_istv (len := 61) (x := f) (z := ((C 5 10 0) + (1))) X hP hS 33 0 (by decide) rfl rfl (m_va hM 13 (by decide) rfl) rfl (by omega) (by omega) hf dX5_job_145 (fun H locs hP hS => ?_)
              have hP : q_P g s0 n ad (q_up (q_up (q_up (q_up (q_up C 5 0 0 ((0))) 5 10 0 (((C 5 10 0) + (1)))) 31 ((((C 5 10 0) + (1))).toNat) 0 a) 32 ((((C 5 10 0) + (1))).toNat) 0 b) 33 ((((C 5 10 0) + (1))).toNat) 0 f) H := hP
              refine lv_aload_n X.1 X.2.1 dX5_job_146 rfl (lv_at hl 1 rfl) ?_
              refine q_get (index := 41) (v := .ref (ad 34 0)) X hP 5 14 0 rfl rfl (by decide) in5 (m_v5 hM) (by decide) (by decide +kernel) (m_r hM ad 14 34 (by decide)) dX5_job_147 ?_
              refine lv_aload_n X.1 X.2.1 dX5_job_150 rfl (lv_at hl 1 rfl) ?_
              refine q_get (index := 110) (v := .int (iI ((C 5 10 0) + (1)))) X hP 5 10 0 rfl rfl (by decide) in5 (m_v5 hM) (by decide) (by decide +kernel) rfl dX5_job_151 ?_
              refine lv_lload X.1 X.2.1 dX5_job_154 (lv_at hl 6 rfl) ?_
              refine q_lstv (len := 61) (x := y) (z := ((C 5 10 0) + (1))) X hP hS 34 0 (by decide) rfl rfl (m_va hM 14 (by decide) rfl) rfl (by omega) (by omega) hy dX5_job_156 (fun H locs hP hS => ?_)
              have hP : q_P g s0 n ad (q_up (q_up (q_up (q_up (q_up (q_up C 5 0 0 ((0))) 5 10 0 (((C 5 10 0) + (1)))) 31 ((((C 5 10 0) + (1))).toNat) 0 a) 32 ((((C 5 10 0) + (1))).toNat) 0 b) 33 ((((C 5 10 0) + (1))).toNat) 0 f) 34 ((((C 5 10 0) + (1))).toNat) 0 y) H := hP
              refine lv_aload_n X.1 X.2.1 dX5_job_157 rfl (lv_at hl 1 rfl) ?_
              refine lv_aload_n X.1 X.2.1 dX5_job_158 rfl (lv_at hl 1 rfl) ?_
              refine q_get (index := 110) (v := .int (iI ((C 5 10 0) + (1)))) X hP 5 10 0 rfl rfl (by decide) in5 (m_v5 hM) (by decide) (by decide +kernel) rfl dX5_job_159 ?_
              refine lv_iload_n X.1 X.2.1 dX5_job_162 rfl (lv_at hl 4 rfl) ?_
              refine lv_iconst (v := iI (0)) X.1 X.2.1 dX5_job_163 rfl ?_
              refine va_callv (va_runV (As := [.int (iI ((C 5 10 0) + (1))), .int (iI d), .int (iI (0))]) (rest := []) X.fix (c_X5_addPart l g s0 n ad (q_up (q_up (q_up (q_up (q_up (q_up C 5 0 0 ((0))) 5 10 0 (((C 5 10 0) + (1)))) 31 ((((C 5 10 0) + (1))).toNat) 0 a) 32 ((((C 5 10 0) + (1))).toNat) 0 b) 33 ((((C 5 10 0) + (1))).toNat) 0 f) 34 ((((C 5 10 0) + (1))).toNat) 0 y) (m_S.up (m_S.up (m_S.up (m_S.up (m_S.up (m_S.up hM (Or.inr (by decide))) (Or.inr (by decide))) (Or.inl (by decide))) (Or.inl (by decide))) (Or.inl (by decide))) (Or.inl (by decide))) (show 0 ≤ C 5 17 0 ∧ C 5 17 0 < 4200 from by omega) ((C 5 10 0) + (1)) d (0) (by omega) hd (by decide)) (cwV 3 X.2.2.2.2.1 gX5_job_X5_addPart rfl rfl rfl (by decide +kernel) ⟨Nat.le_of_ble_eq_true rfl, Nat.le_of_ble_eq_true rfl⟩) (q_preV X hP hS [.int (iI ((C 5 10 0) + (1))), .int (iI d), .int (iI (0))] (kd := 5) (by decide) rfl (m_v5 hM)) rfl rfl hl.1 rfl (lv_room (Nat.le_of_ble_eq_true rfl)) dX5_job_164 ⟨Nat.le_of_ble_eq_true rfl, Nat.le_of_ble_eq_true rfl⟩) hS q_id q_id1 (fun u t H locs ht hvm hw hB hz1 hk1 hS => ?_)
              obtain rfl := hw
              have hP : q_P g s0 n ad (m_add (q_up (q_up (q_up (q_up (q_up (q_up C 5 0 0 ((0))) 5 10 0 (((C 5 10 0) + (1)))) 31 ((((C 5 10 0) + (1))).toNat) 0 a) 32 ((((C 5 10 0) + (1))).toNat) 0 b) 33 ((((C 5 10 0) + (1))).toNat) 0 f) 34 ((((C 5 10 0) + (1))).toNat) 0 y) ((C 5 10 0) + (1)) d (0)) H := q_back hB ht
              refine lv_aload_n X.1 X.2.1 dX5_job_167 rfl (lv_at hl 1 rfl) ?_
              refine q_get (index := 110) (v := .int (iI ((C 5 10 0) + (1)))) X hP 5 10 0 rfl rfl (by decide) in5 (m_v5 hM) (by decide) (by decide +kernel) rfl dX5_job_168 ?_
              exact q_iret X hr hlocks hP hS (Or.inr (Or.inr (Or.inl (⟨h_1, h_3, h_5, h_7, h_16, h_20, rfl, rfl⟩)))) (Nat.le_of_ble_eq_true rfl) (Nat.le_of_ble_eq_true rfl) dX5_job_171
            · refine lv_iconst (v := iI (3)) X.1 X.2.1 dX5_job_88 rfl ?_
              refine lv_goto (tgt := 93) X.1 X.2.1 dX5_job_89 (by decide) ?_
              refine q_put (index := 82) (v := .int (iI (3))) X hP hS 5 0 0 ((3)) rfl rfl (by decide) in5 tyX5 tyX5_ok nmX5 (m_v5 hM) (by decide) (by decide +kernel) rfl rfl rfl rfl (show R32 _ from (by decide)) dX5_job_93 (fun H locs hP hS => ?_)
              have hP : q_P g s0 n ad (q_up C 5 0 0 ((3))) H := hP
              refine lv_aload_n X.1 X.2.1 dX5_job_96 rfl (lv_at hl 1 rfl) ?_
              refine q_get (index := 82) (v := .int (iI (3))) X hP 5 0 0 rfl rfl (by decide) in5 (m_v5 hM) (by decide) (by decide +kernel) rfl dX5_job_97 ?_
              refine q_if_le (tgt := 105) X (by decide) dX5_job_100 (by decide) (fun h => absurd h (by decide)) (fun _ => ?_)
              refine lv_iconst (v := iI (0)) X.1 X.2.1 dX5_job_103 rfl ?_
              exact q_iret X hr hlocks hP hS (Or.inr (Or.inr (Or.inr (Or.inl (⟨h_1, h_3, h_5, h_7, h_16, h_20, rfl, rfl⟩))))) (Nat.le_of_ble_eq_true rfl) (Nat.le_of_ble_eq_true rfl) dX5_job_104
          · have hP : q_P g s0 n ad (C) H := q_back hB ht
            have h_16 : ¬ ((1) ≤ a ∧ a ≤ (C 5 6 0)) := h_16
            refine q_if_ne (tgt := 70) X (by decide) dX5_job_63 (by decide) (fun h => absurd h (by decide)) (fun _ => ?_)
            refine lv_iconst (v := iI (1)) X.1 X.2.1 dX5_job_66 rfl ?_
            refine lv_goto (tgt := 93) X.1 X.2.1 dX5_job_67 (by decide) ?_
            refine q_put (index := 82) (v := .int (iI (1))) X hP hS 5 0 0 ((1)) rfl rfl (by decide) in5 tyX5 tyX5_ok nmX5 (m_v5 hM) (by decide) (by decide +kernel) rfl rfl rfl rfl (show R32 _ from (by decide)) dX5_job_93 (fun H locs hP hS => ?_)
            have hP : q_P g s0 n ad (q_up C 5 0 0 ((1))) H := hP
            refine lv_aload_n X.1 X.2.1 dX5_job_96 rfl (lv_at hl 1 rfl) ?_
            refine q_get (index := 82) (v := .int (iI (1))) X hP 5 0 0 rfl rfl (by decide) in5 (m_v5 hM) (by decide) (by decide +kernel) rfl dX5_job_97 ?_
            refine q_if_le (tgt := 105) X (by decide) dX5_job_100 (by decide) (fun h => absurd h (by decide)) (fun _ => ?_)
            refine lv_iconst (v := iI (0)) X.1 X.2.1 dX5_job_103 rfl ?_
            exact q_iret X hr hlocks hP hS (Or.inr (Or.inr (Or.inr (Or.inr (Or.inl (⟨h_1, h_3, h_5, h_7, h_16, rfl, rfl⟩)))))) (Nat.le_of_ble_eq_true rfl) (Nat.le_of_ble_eq_true rfl) dX5_job_104
      · have hP : q_P g s0 n ad (C) H := q_back hB ht
        have h_5 : ¬ ((0) ≤ f ∧ f ≤ (9)) := h_5
        refine q_if_eq (tgt := 48) X (by decide) dX5_job_34 (by decide) (fun _ => ?_) (fun h => absurd h (by decide))
        refine lv_iconst (v := iI (0)) X.1 X.2.1 dX5_job_48 rfl ?_
        refine lv_istore (lv' := [(7, .int (iI (0))), (0, .ref (ad 5 0)), (1, .int (iI a)), (2, .int (iI b)), (3, .int (iI d)), (4, .int (iI f)), (5, .long (jI y))]) X.1 X.2.1 dX5_job_49 hl (by decide) rfl (fun ls hl => ?_)
        refine lv_aload_n X.1 X.2.1 dX5_job_51 rfl (lv_at hl 1 rfl) ?_
        refine lv_iload_n X.1 X.2.1 dX5_job_52 rfl (lv_at hl 2 rfl) ?_
        refine q_i2l X ha dX5_job_53 ?_
        refine lv_lconst (v := jI (1)) X.1 X.2.1 dX5_job_54 (by decide) ?_
        refine lv_aload_n X.1 X.2.1 dX5_job_55 rfl (lv_at hl 1 rfl) ?_
        refine q_get (index := 98) (v := .int (iI (C 5 6 0))) X hP 5 6 0 rfl rfl (by decide) in5 (m_v5 hM) (by decide) (by decide +kernel) rfl dX5_job_56 ?_
        have f_26 := m_Rt hR
        refine q_i2l X (hP.tok 5 6 0 rfl) dX5_job_59 ?_
        refine va_calli (va_runS (As := [.long (jI a), .long (jI (1)), .long (jI (C 5 6 0))]) (rest := [.ref (ad 5 0)]) X.fix (c_X5_in l g s0 n ad C a (1) (C 5 6 0) (q_3264 ha) (by decide) (q_3264 (hP.tok 5 6 0 rfl))) (va_cwS 3 X.2.2.2.2.1 gX5_job_X5_in rfl rfl rfl (by decide +kernel) ⟨Nat.le_of_ble_eq_true rfl, Nat.le_of_ble_eq_true rfl⟩) (q_preS X hP hS _) rfl rfl hl.1 rfl (lv_room (Nat.le_of_ble_eq_true rfl)) dX5_job_60 ⟨Nat.le_of_ble_eq_true rfl, Nat.le_of_ble_eq_true rfl⟩) hS q_id q_id1 (fun r u t H locs ht hvm hw hB hz1 hk1 hS => ?_)
        obtain ⟨rfl, ⟨h_27, rfl⟩ | ⟨h_27, rfl⟩⟩ := hw
        · have hP : q_P g s0 n ad (C) H := q_back hB ht
          have h_27 : (1) ≤ a ∧ a ≤ (C 5 6 0) := h_27
          refine q_if_ne (tgt := 70) X (by decide) dX5_job_63 (by decide) (fun _ => ?_) (fun h => absurd h (by decide))
          refine lv_iload X.1 X.2.1 dX5_job_70 (lv_at hl 0 rfl) ?_
          refine q_if_ne (tgt := 79) X (by decide) dX5_job_72 (by decide) (fun h => absurd h (by decide)) (fun _ => ?_)
          refine lv_iconst (v := iI (2)) X.1 X.2.1 dX5_job_75 rfl ?_
          refine lv_goto (tgt := 93) X.1 X.2.1 dX5_job_76 (by decide) ?_
          refine q_put (index := 82) (v := .int (iI (2))) X hP hS 5 0 0 ((2)) rfl rfl (by decide) in5 tyX5 tyX5_ok nmX5 (m_v5 hM) (by decide) (by decide +kernel) rfl rfl rfl rfl (show R32 _ from (by decide)) dX5_job_93 (fun H locs hP hS => ?_)
          have hP : q_P g s0 n ad (q_up C 5 0 0 ((2))) H := hP
          refine lv_aload_n X.1 X.2.1 dX5_job_96 rfl (lv_at hl 1 rfl) ?_
          refine q_get (index := 82) (v := .int (iI (2))) X hP 5 0 0 rfl rfl (by decide) in5 (m_v5 hM) (by decide) (by decide +kernel) rfl dX5_job_97 ?_
          refine q_if_le (tgt := 105) X (by decide) dX5_job_100 (by decide) (fun h => absurd h (by decide)) (fun _ => ?_)
          refine lv_iconst (v := iI (0)) X.1 X.2.1 dX5_job_103 rfl ?_
          exact q_iret X hr hlocks hP hS (Or.inr (Or.inr (Or.inr (Or.inr (Or.inr (Or.inl (⟨h_1, h_3, h_5, h_27, rfl, rfl⟩))))))) (Nat.le_of_ble_eq_true rfl) (Nat.le_of_ble_eq_true rfl) dX5_job_104
        · have hP : q_P g s0 n ad (C) H := q_back hB ht
          have h_27 : ¬ ((1) ≤ a ∧ a ≤ (C 5 6 0)) := h_27
          refine q_if_ne (tgt := 70) X (by decide) dX5_job_63 (by decide) (fun h => absurd h (by decide)) (fun _ => ?_)
          refine lv_iconst (v := iI (1)) X.1 X.2.1 dX5_job_66 rfl ?_
          refine lv_goto (tgt := 93) X.1 X.2.1 dX5_job_67 (by decide) ?_
          refine q_put (index := 82) (v := .int (iI (1))) X hP hS 5 0 0 ((1)) rfl rfl (by decide) in5 tyX5 tyX5_ok nmX5 (m_v5 hM) (by decide) (by decide +kernel) rfl rfl rfl rfl (show R32 _ from (by decide)) dX5_job_93 (fun H locs hP hS => ?_)
          have hP : q_P g s0 n ad (q_up C 5 0 0 ((1))) H := hP
          refine lv_aload_n X.1 X.2.1 dX5_job_96 rfl (lv_at hl 1 rfl) ?_
          refine q_get (index := 82) (v := .int (iI (1))) X hP 5 0 0 rfl rfl (by decide) in5 (m_v5 hM) (by decide) (by decide +kernel) rfl dX5_job_97 ?_
          refine q_if_le (tgt := 105) X (by decide) dX5_job_100 (by decide) (fun h => absurd h (by decide)) (fun _ => ?_)
          refine lv_iconst (v := iI (0)) X.1 X.2.1 dX5_job_103 rfl ?_
          exact q_iret X hr hlocks hP hS (Or.inr (Or.inr (Or.inr (Or.inr (Or.inr (Or.inr (Or.inl (⟨h_1, h_3, h_5, h_27, rfl, rfl⟩)))))))) (Nat.le_of_ble_eq_true rfl) (Nat.le_of_ble_eq_true rfl) dX5_job_104
    · have hP : q_P g s0 n ad (C) H := q_back hB ht
      have h_3 : ¬ ((1) ≤ d ∧ d ≤ (100)) := h_3
      refine q_if_eq (tgt := 48) X (by decide) dX5_job_21 (by decide) (fun _ => ?_) (fun h => absurd h (by decide))
      refine lv_iconst (v := iI (0)) X.1 X.2.1 dX5_job_48 rfl ?_
      refine lv_istore (lv' := [(7, .int (iI (0))), (0, .ref (ad 5 0)), (1, .int (iI a)), (2, .int (iI b)), (3, .int (iI d)), (4, .int (iI f)), (5, .long (jI y))]) X.1 X.2.1 dX5_job_49 hl (by decide) rfl (fun ls hl => ?_)
      refine lv_aload_n X.1 X.2.1 dX5_job_51 rfl (lv_at hl 1 rfl) ?_
      refine lv_iload_n X.1 X.2.1 dX5_job_52 rfl (lv_at hl 2 rfl) ?_
      refine q_i2l X ha dX5_job_53 ?_
      refine lv_lconst (v := jI (1)) X.1 X.2.1 dX5_job_54 (by decide) ?_
      refine lv_aload_n X.1 X.2.1 dX5_job_55 rfl (lv_at hl 1 rfl) ?_
      refine q_get (index := 98) (v := .int (iI (C 5 6 0))) X hP 5 6 0 rfl rfl (by decide) in5 (m_v5 hM) (by decide) (by decide +kernel) rfl dX5_job_56 ?_
      have f_34 := m_Rt hR
      refine q_i2l X (hP.tok 5 6 0 rfl) dX5_job_59 ?_
      refine va_calli (va_runS (As := [.long (jI a), .long (jI (1)), .long (jI (C 5 6 0))]) (rest := [.ref (ad 5 0)]) X.fix (c_X5_in l g s0 n ad C a (1) (C 5 6 0) (q_3264 ha) (by decide) (q_3264 (hP.tok 5 6 0 rfl))) (va_cwS 3 X.2.2.2.2.1 gX5_job_X5_in rfl rfl rfl (by decide +kernel) ⟨Nat.le_of_ble_eq_true rfl, Nat.le_of_ble_eq_true rfl⟩) (q_preS X hP hS _) rfl rfl hl.1 rfl (lv_room (Nat.le_of_ble_eq_true rfl)) dX5_job_60 ⟨Nat.le_of_ble_eq_true rfl, Nat.le_of_ble_eq_true rfl⟩) hS q_id q_id1 (fun r u t H locs ht hvm hw hB hz1 hk1 hS => ?_)
      obtain ⟨rfl, ⟨h_35, rfl⟩ | ⟨h_35, rfl⟩⟩ := hw
      · have hP : q_P g s0 n ad (C) H := q_back hB ht
        have h_35 : (1) ≤ a ∧ a ≤ (C 5 6 0) := h_35
        refine q_if_ne (tgt := 70) X (by decide) dX5_job_63 (by decide) (fun _ => ?_) (fun h => absurd h (by decide))
        refine lv_iload X.1 X.2.1 dX5_job_70 (lv_at hl 0 rfl) ?_
        refine q_if_ne (tgt := 79) X (by decide) dX5_job_72 (by decide) (fun h => absurd h (by decide)) (fun _ => ?_)
        refine lv_iconst (v := iI (2)) X.1 X.2.1 dX5_job_75 rfl ?_
        refine lv_goto (tgt := 93) X.1 X.2.1 dX5_job_76 (by decide) ?_
        refine q_put (index := 82) (v := .int (iI (2))) X hP hS 5 0 0 ((2)) rfl rfl (by decide) in5 tyX5 tyX5_ok nmX5 (m_v5 hM) (by decide) (by decide +kernel) rfl rfl rfl rfl (show R32 _ from (by decide)) dX5_job_93 (fun H locs hP hS => ?_)
        have hP : q_P g s0 n ad (q_up C 5 0 0 ((2))) H := hP
        refine lv_aload_n X.1 X.2.1 dX5_job_96 rfl (lv_at hl 1 rfl) ?_
        refine q_get (index := 82) (v := .int (iI (2))) X hP 5 0 0 rfl rfl (by decide) in5 (m_v5 hM) (by decide) (by decide +kernel) rfl dX5_job_97 ?_
        refine q_if_le (tgt := 105) X (by decide) dX5_job_100 (by decide) (fun h => absurd h (by decide)) (fun _ => ?_)
        refine lv_iconst (v := iI (0)) X.1 X.2.1 dX5_job_103 rfl ?_
        exact q_iret X hr hlocks hP hS (Or.inr (Or.inr (Or.inr (Or.inr (Or.inr (Or.inr (Or.inr (Or.inl (⟨h_1, h_3, h_35, rfl, rfl⟩))))))))) (Nat.le_of_ble_eq_true rfl) (Nat.le_of_ble_eq_true rfl) dX5_job_104
      · have hP : q_P g s0 n ad (C) H := q_back hB ht
        have h_35 : ¬ ((1) ≤ a ∧ a ≤ (C 5 6 0)) := h_35
        refine q_if_ne (tgt := 70) X (by decide) dX5_job_63 (by decide) (fun h => absurd h (by decide)) (fun _ => ?_)
        refine lv_iconst (v := iI (1)) X.1 X.2.1 dX5_job_66 rfl ?_
        refine lv_goto (tgt := 93) X.1 X.2.1 dX5_job_67 (by decide) ?_
        refine q_put (index := 82) (v := .int (iI (1))) X hP hS 5 0 0 ((1)) rfl rfl (by decide) in5 tyX5 tyX5_ok nmX5 (m_v5 hM) (by decide) (by decide +kernel) rfl rfl rfl rfl (show R32 _ from (by decide)) dX5_job_93 (fun H locs hP hS => ?_)
        have hP : q_P g s0 n ad (q_up C 5 0 0 ((1))) H := hP
        refine lv_aload_n X.1 X.2.1 dX5_job_96 rfl (lv_at hl 1 rfl) ?_
        refine q_get (index := 82) (v := .int (iI (1))) X hP 5 0 0 rfl rfl (by decide) in5 (m_v5 hM) (by decide) (by decide +kernel) rfl dX5_job_97 ?_
        refine q_if_le (tgt := 105) X (by decide) dX5_job_100 (by decide) (fun h => absurd h (by decide)) (fun _ => ?_)
        refine lv_iconst (v := iI (0)) X.1 X.2.1 dX5_job_103 rfl ?_
        exact q_iret X hr hlocks hP hS (Or.inr (Or.inr (Or.inr (Or.inr (Or.inr (Or.inr (Or.inr (Or.inr (Or.inl (⟨h_1, h_3, h_35, rfl, rfl⟩)))))))))) (Nat.le_of_ble_eq_true rfl) (Nat.le_of_ble_eq_true rfl) dX5_job_104
  · have hP : q_P g s0 n ad (C) H := q_back hB ht
    have h_1 : ¬ ((1) ≤ b ∧ b ≤ (500)) := h_1
    refine q_if_eq (tgt := 48) X (by decide) dX5_job_9 (by decide) (fun _ => ?_) (fun h => absurd h (by decide))
    refine lv_iconst (v := iI (0)) X.1 X.2.1 dX5_job_48 rfl ?_
    refine lv_istore (lv' := [(7, .int (iI (0))), (0, .ref (ad 5 0)), (1, .int (iI a)), (2, .int (iI b)), (3, .int (iI d)), (4, .int (iI f)), (5, .long (jI y))]) X.1 X.2.1 dX5_job_49 hl (by decide) rfl (fun ls hl => ?_)
    refine lv_aload_n X.1 X.2.1 dX5_job_51 rfl (lv_at hl 1 rfl) ?_
    refine lv_iload_n X.1 X.2.1 dX5_job_52 rfl (lv_at hl 2 rfl) ?_
    refine q_i2l X ha dX5_job_53 ?_
    refine lv_lconst (v := jI (1)) X.1 X.2.1 dX5_job_54 (by decide) ?_
    refine lv_aload_n X.1 X.2.1 dX5_job_55 rfl (lv_at hl 1 rfl) ?_
    refine q_get (index := 98) (v := .int (iI (C 5 6 0))) X hP 5 6 0 rfl rfl (by decide) in5 (m_v5 hM) (by decide) (by decide +kernel) rfl dX5_job_56 ?_
    have f_42 := m_Rt hR
    refine q_i2l X (hP.tok 5 6 0 rfl) dX5_job_59 ?_
    refine va_calli (va_runS (As := [.long (jI a), .long (jI (1)), .long (jI (C 5 6 0))]) (rest := [.ref (ad 5 0)]) X.fix (c_X5_in l g s0 n ad C a (1) (C 5 6 0) (q_3264 ha) (by decide) (q_3264 (hP.tok 5 6 0 rfl))) (va_cwS 3 X.2.2.2.2.1 gX5_job_X5_in rfl rfl rfl (by decide +kernel) ⟨Nat.le_of_ble_eq_true rfl, Nat.le_of_ble_eq_true rfl⟩) (q_preS X hP hS _) rfl rfl hl.1 rfl (lv_room (Nat.le_of_ble_eq_true rfl)) dX5_job_60 ⟨Nat.le_of_ble_eq_true rfl, Nat.le_of_ble_eq_true rfl⟩) hS q_id q_id1 (fun r u t H locs ht hvm hw hB hz1 hk1 hS => ?_)
    obtain ⟨rfl, ⟨h_43, rfl⟩ | ⟨h_43, rfl⟩⟩ := hw
    · have hP : q_P g s0 n ad (C) H := q_back hB ht
      have h_43 : (1) ≤ a ∧ a ≤ (C 5 6 0) := h_43
      refine q_if_ne (tgt := 70) X (by decide) dX5_job_63 (by decide) (fun _ => ?_) (fun h => absurd h (by decide))
      refine lv_iload X.1 X.2.1 dX5_job_70 (lv_at hl 0 rfl) ?_
      refine q_if_ne (tgt := 79) X (by decide) dX5_job_72 (by decide) (fun h => absurd h (by decide)) (fun _ => ?_)
      refine lv_iconst (v := iI (2)) X.1 X.2.1 dX5_job_75 rfl ?_
      refine lv_goto (tgt := 93) X.1 X.2.1 dX5_job_76 (by decide) ?_
      refine q_put (index := 82) (v := .int (iI (2))) X hP hS 5 0 0 ((2)) rfl rfl (by decide) in5 tyX5 tyX5_ok nmX5 (m_v5 hM) (by decide) (by decide +kernel) rfl rfl rfl rfl (show R32 _ from (by decide)) dX5_job_93 (fun H locs hP hS => ?_)
      have hP : q_P g s0 n ad (q_up C 5 0 0 ((2))) H := hP
      refine lv_aload_n X.1 X.2.1 dX5_job_96 rfl (lv_at hl 1 rfl) ?_
      refine q_get (index := 82) (v := .int (iI (2))) X hP 5 0 0 rfl rfl (by decide) in5 (m_v5 hM) (by decide) (by decide +kernel) rfl dX5_job_97 ?_
      refine q_if_le (tgt := 105) X (by decide) dX5_job_100 (by decide) (fun h => absurd h (by decide)) (fun _ => ?_)
      refine lv_iconst (v := iI (0)) X.1 X.2.1 dX5_job_103 rfl ?_
      exact q_iret X hr hlocks hP hS (Or.inr (Or.inr (Or.inr (Or.inr (Or.inr (Or.inr (Or.inr (Or.inr (Or.inr (Or.inl (⟨h_1, h_43, rfl, rfl⟩))))))))))) (Nat.le_of_ble_eq_true rfl) (Nat.le_of_ble_eq_true rfl) dX5_job_104
    · have hP : q_P g s0 n ad (C) H := q_back hB ht
      have h_43 : ¬ ((1) ≤ a ∧ a ≤ (C 5 6 0)) := h_43
      refine q_if_ne (tgt := 70) X (by decide) dX5_job_63 (by decide) (fun h => absurd h (by decide)) (fun _ => ?_)
      refine lv_iconst (v := iI (1)) X.1 X.2.1 dX5_job_66 rfl ?_
      refine lv_goto (tgt := 93) X.1 X.2.1 dX5_job_67 (by decide) ?_
      refine q_put (index := 82) (v := .int (iI (1))) X hP hS 5 0 0 ((1)) rfl rfl (by decide) in5 tyX5 tyX5_ok nmX5 (m_v5 hM) (by decide) (by decide +kernel) rfl rfl rfl rfl (show R32 _ from (by decide)) dX5_job_93 (fun H locs hP hS => ?_)
      have hP : q_P g s0 n ad (q_up C 5 0 0 ((1))) H := hP
      refine lv_aload_n X.1 X.2.1 dX5_job_96 rfl (lv_at hl 1 rfl) ?_
      refine q_get (index := 82) (v := .int (iI (1))) X hP 5 0 0 rfl rfl (by decide) in5 (m_v5 hM) (by decide) (by decide +kernel) rfl dX5_job_97 ?_
      refine q_if_le (tgt := 105) X (by decide) dX5_job_100 (by decide) (fun h => absurd h (by decide)) (fun _ => ?_)
      refine lv_iconst (v := iI (0)) X.1 X.2.1 dX5_job_103 rfl ?_
      exact q_iret X hr hlocks hP hS (Or.inr (Or.inr (Or.inr (Or.inr (Or.inr (Or.inr (Or.inr (Or.inr (Or.inr (Or.inr (⟨h_1, h_43, rfl, rfl⟩))))))))))) (Nat.le_of_ble_eq_true rfl) (Nat.le_of_ble_eq_true rfl) dX5_job_104
def tX5_account (n : Nat → Nat) (ad : Nat → Nat → Nat) (C : q_S) (a b : Int) (r : Int64) (u : q_U) : Prop :=
  (((1) ≤ a ∧ a ≤ (C 5 6 0)) ∧ ((0) ≤ b ∧ b ≤ (3)) ∧ u = (n, ad, q_up C 5 0 0 ((0))) ∧ r = jI (C 29 ((((((4) * a) - (4)) + b)).toNat) 0)) ∨
  (((1) ≤ a ∧ a ≤ (C 5 6 0)) ∧ (¬ ((0) ≤ b ∧ b ≤ (3))) ∧ u = (n, ad, q_up C 5 0 0 ((2))) ∧ r = jI (0)) ∨
  ((¬ ((1) ≤ a ∧ a ≤ (C 5 6 0))) ∧ u = (n, ad, q_up C 5 0 0 ((1))) ∧ r = jI (0))
set_option maxHeartbeats 4000000 in
set_option maxRecDepth 100000 in
theorem c_X5_account (l : Launch) (g : q_G) (s0 : Nat) (n : Nat → Nat) (ad : Nat → Nat → Nat) (C : q_S) (c0 : Nat) (hM : m_S C n) (hR : m_R C c0) (hc0 : c0 ≤ 600) (a b : Int) (ha : R32 a) (hb : R32 b)  : Met l yX5_account wsX5_account ({ frames := 1, cells := 0, slots := 0, locals := 25 }) (va_Pc [.ref (ad 5 0), .int (iI a), .int (iI b)] (q_B g s0 (n, ad, C))) (va_Ql (tX5_account n ad C a b) (q_B g s0) (q_A s0)) 0 0 (q_A s0) := by
  refine Met.ofW (cc := cX5_account) (maxL := 3) (ret := (some .long)) (by decide) rfl ?_
  intro p e s m args below meth c s₁ B hml hv
  obtain ⟨rfl, hv⟩ := hv
  have hr := B.returns
  have hlocks := B.notSynchronized
  obtain ⟨X, hP⟩ := q_start B.exec B.bytes hml (show s.vm.findClass RX5 = some m.cls from findClass_of_methodNamed B.named) (atoms_spec (ws := wsX5_account) B.pre) hv
  have hP : q_P g s0 n ad C s.heap := hP
  have hS : va_S (q_A s0) s.heap s.heap [] := va_S.rf
  have in5 : ∀ w ∈ wsX50, w ∈ wsX5_account := by decide +kernel
  have f0 := m_Rt hR
  have hl := lv_entry ([.ref (ad 5 0), .int (iI a), .int (iI b)]) (n := 3) (Nat.le_of_ble_eq_true rfl)
  rw [lg_entry_eq]
  generalize (lg_sl ([.ref (ad 5 0), .int (iI a), .int (iI b)]) ++ List.replicate (3 - (lg_sl ([.ref (ad 5 0), .int (iI a), .int (iI b)])).length) Slot.unset).toArray = ls at hl ⊢
  have hl : lv_has ls 3 [(0, .ref (ad 5 0)), (1, .int (iI a)), (2, .int (iI b))] := hl
  refine lv_aload_n X.1 X.2.1 dX5_account_0 rfl (lv_at hl 0 rfl) ?_
  refine lv_iload_n X.1 X.2.1 dX5_account_1 rfl (lv_at hl 1 rfl) ?_
  refine q_i2l X ha dX5_account_2 ?_
  refine lv_lconst (v := jI (1)) X.1 X.2.1 dX5_account_3 (by decide) ?_
  refine lv_aload_n X.1 X.2.1 dX5_account_4 rfl (lv_at hl 0 rfl) ?_
  refine q_get (index := 98) (v := .int (iI (C 5 6 0))) X hP 5 6 0 rfl rfl (by decide) in5 (m_v5 hM) (by decide) (by decide +kernel) rfl dX5_account_5 ?_
  have f_1 := m_Rt hR
  refine q_i2l X (hP.tok 5 6 0 rfl) dX5_account_8 ?_
  refine va_calli (va_runS (As := [.long (jI a), .long (jI (1)), .long (jI (C 5 6 0))]) (rest := [.ref (ad 5 0)]) X.fix (c_X5_in l g s0 n ad C a (1) (C 5 6 0) (q_3264 ha) (by decide) (q_3264 (hP.tok 5 6 0 rfl))) (va_cwS 3 X.2.2.2.2.1 gX5_account_X5_in rfl rfl rfl (by decide +kernel) ⟨Nat.le_of_ble_eq_true rfl, Nat.le_of_ble_eq_true rfl⟩) (q_preS X hP hS _) rfl rfl hl.1 rfl (lv_room (Nat.le_of_ble_eq_true rfl)) dX5_account_9 ⟨Nat.le_of_ble_eq_true rfl, Nat.le_of_ble_eq_true rfl⟩) hS q_id q_id1 (fun r u t H locs ht hvm hw hB hz1 hk1 hS => ?_)
  obtain ⟨rfl, ⟨h_2, rfl⟩ | ⟨h_2, rfl⟩⟩ := hw
  · have hP : q_P g s0 n ad (C) H := q_back hB ht
    have h_2 : (1) ≤ a ∧ a ≤ (C 5 6 0) := h_2
    refine q_if_ne (tgt := 19) X (by decide) dX5_account_12 (by decide) (fun _ => ?_) (fun h => absurd h (by decide))
    refine lv_iload_n X.1 X.2.1 dX5_account_19 rfl (lv_at hl 2 rfl) ?_
    refine q_i2l X hb dX5_account_20 ?_
    refine lv_lconst (v := jI (0)) X.1 X.2.1 dX5_account_21 (by decide) ?_
    refine q_ldc2 (v := 3) (z := 3) X (by decide) (by decide +kernel) dX5_account_22 ?_
    refine va_calli (va_runS (As := [.long (jI b), .long (jI (0)), .long (jI (3))]) (rest := [.ref (ad 5 0)]) X.fix (c_X5_in l g s0 n ad C b (0) (3) (q_3264 hb) (by decide) (by decide)) (va_cwS 3 X.2.2.2.2.1 gX5_account_X5_in rfl rfl rfl (by decide +kernel) ⟨Nat.le_of_ble_eq_true rfl, Nat.le_of_ble_eq_true rfl⟩) (q_preS X hP hS _) rfl rfl hl.1 rfl (lv_room (Nat.le_of_ble_eq_true rfl)) dX5_account_25 ⟨Nat.le_of_ble_eq_true rfl, Nat.le_of_ble_eq_true rfl⟩) hS q_id q_id1 (fun r u t H locs ht hvm hw hB hz1 hk1 hS => ?_)
    obtain ⟨rfl, ⟨h_4, rfl⟩ | ⟨h_4, rfl⟩⟩ := hw
    · have hP : q_P g s0 n ad (C) H := q_back hB ht
      have h_4 : (0) ≤ b ∧ b ≤ (3) := h_4
      refine q_if_ne (tgt := 35) X (by decide) dX5_account_28 (by decide) (fun _ => ?_) (fun h => absurd h (by decide))
      refine lv_iconst (v := iI (0)) X.1 X.2.1 dX5_account_35 rfl ?_
      refine q_put (index := 82) (v := .int (iI (0))) X hP hS 5 0 0 ((0)) rfl rfl (by decide) in5 tyX5 tyX5_ok nmX5 (m_v5 hM) (by decide) (by decide +kernel) rfl rfl rfl rfl (show R32 _ from (by decide)) dX5_account_36 (fun H locs hP hS => ?_)
      have hP : q_P g s0 n ad (q_up C 5 0 0 ((0))) H := hP
      refine lv_aload_n X.1 X.2.1 dX5_account_39 rfl (lv_at hl 0 rfl) ?_
      refine q_get (index := 82) (v := .int (iI (0))) X hP 5 0 0 rfl rfl (by decide) in5 (m_v5 hM) (by decide) (by decide +kernel) rfl dX5_account_40 ?_
      refine q_if_le (tgt := 50) X (by decide) dX5_account_43 (by decide) (fun _ => ?_) (fun h => absurd h (by decide))
      refine lv_aload_n X.1 X.2.1 dX5_account_50 rfl (lv_at hl 0 rfl) ?_
      refine q_get (index := 28) (v := .ref (ad 29 0)) X hP 5 9 0 rfl rfl (by decide) in5 (m_v5 hM) (by decide) (by decide +kernel) (m_r hM ad 9 29 (by decide)) dX5_account_51 ?_
      refine lv_iconst (v := iI (4)) X.1 X.2.1 dX5_account_54 rfl ?_
      refine lv_iload_n X.1 X.2.1 dX5_account_55 rfl (lv_at hl 1 rfl) ?_
      refine q_imul X dX5_account_56 ?_
      refine lv_iconst (v := iI (4)) X.1 X.2.1 dX5_account_57 rfl ?_
      refine q_isub X dX5_account_58 ?_
      refine lv_iload_n X.1 X.2.1 dX5_account_59 rfl (lv_at hl 2 rfl) ?_
      refine q_iadd X dX5_account_60 ?_
      refine q_lldv (len := 84) (v := (C 29 ((((((4) * a) - (4)) + b)).toNat) 0)) X hP 29 0 (by decide) rfl rfl (m_va hM 9 (by decide) rfl) rfl (by omega) (by omega) rfl dX5_account_61 ?_
      have f_7 := m_R29 hR ((((((4) * a) - (4)) + b)).toNat)
      exact q_lret X hr hlocks hP hS (Or.inl (⟨h_2, h_4, rfl, rfl⟩)) (Nat.le_of_ble_eq_true rfl) (Nat.le_of_ble_eq_true rfl) dX5_account_62
    · have hP : q_P g s0 n ad (C) H := q_back hB ht
      have h_4 : ¬ ((0) ≤ b ∧ b ≤ (3)) := h_4
      refine q_if_ne (tgt := 35) X (by decide) dX5_account_28 (by decide) (fun h => absurd h (by decide)) (fun _ => ?_)
      refine lv_iconst (v := iI (2)) X.1 X.2.1 dX5_account_31 rfl ?_
      refine lv_goto (tgt := 36) X.1 X.2.1 dX5_account_32 (by decide) ?_
      refine q_put (index := 82) (v := .int (iI (2))) X hP hS 5 0 0 ((2)) rfl rfl (by decide) in5 tyX5 tyX5_ok nmX5 (m_v5 hM) (by decide) (by decide +kernel) rfl rfl rfl rfl (show R32 _ from (by decide)) dX5_account_36 (fun H locs hP hS => ?_)
      have hP : q_P g s0 n ad (q_up C 5 0 0 ((2))) H := hP
      refine lv_aload_n X.1 X.2.1 dX5_account_39 rfl (lv_at hl 0 rfl) ?_
      refine q_get (index := 82) (v := .int (iI (2))) X hP 5 0 0 rfl rfl (by decide) in5 (m_v5 hM) (by decide) (by decide +kernel) rfl dX5_account_40 ?_
      refine q_if_le (tgt := 50) X (by decide) dX5_account_43 (by decide) (fun h => absurd h (by decide)) (fun _ => ?_)
      refine lv_lconst (v := jI (0)) X.1 X.2.1 dX5_account_46 (by decide) ?_
      refine lv_goto (tgt := 62) X.1 X.2.1 dX5_account_47 (by decide) ?_
      exact q_lret X hr hlocks hP hS (Or.inr (Or.inl (⟨h_2, h_4, rfl, rfl⟩))) (Nat.le_of_ble_eq_true rfl) (Nat.le_of_ble_eq_true rfl) dX5_account_62
  · have hP : q_P g s0 n ad (C) H := q_back hB ht
    have h_2 : ¬ ((1) ≤ a ∧ a ≤ (C 5 6 0)) := h_2
    refine q_if_ne (tgt := 19) X (by decide) dX5_account_12 (by decide) (fun h => absurd h (by decide)) (fun _ => ?_)
    refine lv_iconst (v := iI (1)) X.1 X.2.1 dX5_account_15 rfl ?_
    refine lv_goto (tgt := 36) X.1 X.2.1 dX5_account_16 (by decide) ?_
    refine q_put (index := 82) (v := .int (iI (1))) X hP hS 5 0 0 ((1)) rfl rfl (by decide) in5 tyX5 tyX5_ok nmX5 (m_v5 hM) (by decide) (by decide +kernel) rfl rfl rfl rfl (show R32 _ from (by decide)) dX5_account_36 (fun H locs hP hS => ?_)
    have hP : q_P g s0 n ad (q_up C 5 0 0 ((1))) H := hP
    refine lv_aload_n X.1 X.2.1 dX5_account_39 rfl (lv_at hl 0 rfl) ?_
    refine q_get (index := 82) (v := .int (iI (1))) X hP 5 0 0 rfl rfl (by decide) in5 (m_v5 hM) (by decide) (by decide +kernel) rfl dX5_account_40 ?_
    refine q_if_le (tgt := 50) X (by decide) dX5_account_43 (by decide) (fun h => absurd h (by decide)) (fun _ => ?_)
    refine lv_lconst (v := jI (0)) X.1 X.2.1 dX5_account_46 (by decide) ?_
    refine lv_goto (tgt := 62) X.1 X.2.1 dX5_account_47 (by decide) ?_
    exact q_lret X hr hlocks hP hS (Or.inr (Or.inr (⟨h_2, rfl, rfl⟩))) (Nat.le_of_ble_eq_true rfl) (Nat.le_of_ble_eq_true rfl) dX5_account_62
def tX5_take (n : Nat → Nat) (ad : Nat → Nat → Nat) (C : q_S) (a y : Int) (r : Int32) (u : q_U) : Prop :=
  ((1 ≤ a ∧ a ≤ C 5 1 0) ∧ ((C 5 28 0) ≤ y) ∧ ((C 25 ((a).toNat) 0) = (-1)) ∧ (¬ (m_best (m_now C y) a (C 5 17 0).toNat) = (-1)) ∧ (¬ (m_med C ((m_pt C a y))) = (C 22 ((a).toNat) 0)) ∧ u = (n, ad, q_up (q_up (q_up (q_up (q_up (q_up (q_up (m_now C y) 44 ((m_pt C a y)) 0 ((0))) 43 ((m_pt C a y)) 0 ((1))) 41 ((m_pt C a y)) 0 a) 25 ((a).toNat) 0 ((((m_pt C a y) : Nat) : Int))) 22 ((a).toNat) 0 ((m_med C ((m_pt C a y))))) 24 ((a).toNat) 0 ((0))) 29 (((((4) * (C 31 (((C 38 ((m_pt C a y)) 0)).toNat) 0)) - (2))).toNat) 0 (((C 29 (((((4) * (C 31 (((C 38 ((m_pt C a y)) 0)).toNat) 0)) - (2))).toNat) 0) + (1)))) ∧ r = iI (C 38 ((m_pt C a y)) 0)) ∨
  ((1 ≤ a ∧ a ≤ C 5 1 0) ∧ ((C 5 28 0) ≤ y) ∧ ((C 25 ((a).toNat) 0) = (-1)) ∧ (¬ (m_best (m_now C y) a (C 5 17 0).toNat) = (-1)) ∧ ((m_med C ((m_pt C a y))) = (C 22 ((a).toNat) 0)) ∧ u = (n, ad, q_up (q_up (q_up (q_up (q_up (m_now C y) 44 ((m_pt C a y)) 0 ((0))) 43 ((m_pt C a y)) 0 ((1))) 41 ((m_pt C a y)) 0 a) 25 ((a).toNat) 0 ((((m_pt C a y) : Nat) : Int))) 24 ((a).toNat) 0 (((C 24 ((a).toNat) 0) + (1)))) ∧ r = iI (C 38 ((m_pt C a y)) 0)) ∨
  ((1 ≤ a ∧ a ≤ C 5 1 0) ∧ ((C 5 28 0) ≤ y) ∧ ((C 25 ((a).toNat) 0) = (-1)) ∧ ((m_best (m_now C y) a (C 5 17 0).toNat) = (-1)) ∧ u = (n, ad, m_now C y) ∧ r = iI (0)) ∨
  ((1 ≤ a ∧ a ≤ C 5 1 0) ∧ ((C 5 28 0) ≤ y) ∧ (¬ (C 25 ((a).toNat) 0) = (-1)) ∧ u = (n, ad, q_up C 5 0 0 ((3))) ∧ r = iI (0)) ∨
  ((1 ≤ a ∧ a ≤ C 5 1 0) ∧ (y < (C 5 28 0)) ∧ u = (n, ad, q_up C 5 0 0 ((2))) ∧ r = iI (0)) ∨
  ((¬ (1 ≤ a ∧ a ≤ C 5 1 0)) ∧ u = (n, ad, q_up C 5 0 0 ((1))) ∧ r = iI (0))
set_option maxHeartbeats 4000000 in
set_option maxRecDepth 100000 in
theorem c_X5_take (l : Launch) (g : q_G) (s0 : Nat) (n : Nat → Nat) (ad : Nat → Nat → Nat) (C : q_S) (c0 : Nat) (hM : m_S C n) (hR : m_R C c0) (hc0 : c0 ≤ 600) (a y : Int) (ha : R32 a) (hy : R64 y)  : Met l yX5_take wsX5_take ({ frames := 3, cells := 0, slots := 0, locals := 72 }) (va_Pc [.ref (ad 5 0), .int (iI a), .long (jI y)] (q_B g s0 (n, ad, C))) (va_Qi (tX5_take n ad C a y) (q_B g s0) (q_A s0)) 0 0 (q_A s0) := by
  refine Met.ofW (cc := cX5_take) (maxL := 6) (ret := (some .int)) (by decide) rfl ?_
  intro p e s m args below meth c s₁ B hml hv
  obtain ⟨rfl, hv⟩ := hv
  have hr := B.returns
  have hlocks := B.notSynchronized
  obtain ⟨X, hP⟩ := q_start B.exec B.bytes hml (show s.vm.findClass RX5 = some m.cls from findClass_of_methodNamed B.named) (atoms_spec (ws := wsX5_take) B.pre) hv
  have hP : q_P g s0 n ad C s.heap := hP
  have hS : va_S (q_A s0) s.heap s.heap [] := va_S.rf
  have in5 : ∀ w ∈ wsX50, w ∈ wsX5_take := by decide +kernel
  have f0 := m_Rp hR
  have f00 := m_Rk hR
  have f01 := m_now0 hR
  have hl := lv_entry ([.ref (ad 5 0), .int (iI a), .long (jI y)]) (n := 6) (Nat.le_of_ble_eq_true rfl)
  rw [lg_entry_eq]
  generalize (lg_sl ([.ref (ad 5 0), .int (iI a), .long (jI y)]) ++ List.replicate (6 - (lg_sl ([.ref (ad 5 0), .int (iI a), .long (jI y)])).length) Slot.unset).toArray = ls at hl ⊢
  have hl : lv_has ls 6 [(0, .ref (ad 5 0)), (1, .int (iI a)), (2, .long (jI y))] := hl
  refine lv_aload_n X.1 X.2.1 dX5_take_0 rfl (lv_at hl 0 rfl) ?_
  refine lv_aload_n X.1 X.2.1 dX5_take_1 rfl (lv_at hl 0 rfl) ?_
  refine lv_iload_n X.1 X.2.1 dX5_take_2 rfl (lv_at hl 1 rfl) ?_
  refine va_calli (va_runV (As := [.int (iI a)]) (rest := [.ref (ad 5 0)]) X.fix (c_X5_isPrinter l g s0 n ad C c0 hM hR a ha) (cwV 1 X.2.2.2.2.1 gX5_take_X5_isPrinter rfl rfl rfl (by decide +kernel) ⟨Nat.le_of_ble_eq_true rfl, Nat.le_of_ble_eq_true rfl⟩) (q_preV X hP hS [.int (iI a)] (kd := 5) (by decide) rfl (m_v5 hM)) rfl rfl hl.1 rfl (lv_room (Nat.le_of_ble_eq_true rfl)) dX5_take_3 ⟨Nat.le_of_ble_eq_true rfl, Nat.le_of_ble_eq_true rfl⟩) hS q_id q_id1 (fun r u t H locs ht hvm hw hB hz1 hk1 hS => ?_)
  obtain ⟨rfl, ⟨h_1, rfl⟩ | ⟨h_1, rfl⟩⟩ := hw
  · have hP : q_P g s0 n ad (C) H := q_back hB ht
    have h_1 : 1 ≤ a ∧ a ≤ C 5 1 0 := h_1
    refine q_if_ne (tgt := 13) X (by decide) dX5_take_6 (by decide) (fun _ => ?_) (fun h => absurd h (by decide))
    refine lv_lload_n X.1 X.2.1 dX5_take_13 rfl (lv_at hl 2 rfl) ?_
    refine lv_aload_n X.1 X.2.1 dX5_take_14 rfl (lv_at hl 0 rfl) ?_
    refine q_get (index := 117) (v := .long (jI (C 5 28 0))) X hP 5 28 0 rfl rfl (by decide) in5 (m_v5 hM) (by decide) (by decide +kernel) rfl dX5_take_15 ?_
    refine q_lcmp_ge (tgt := 26) X hy (hP.tok 5 28 0 rfl) dX5_take_18 dX5_take_19 (by decide) (fun h_3 => ?_) (fun h_3 => ?_)
    · refine lv_aload_n X.1 X.2.1 dX5_take_26 rfl (lv_at hl 0 rfl) ?_
      refine q_get (index := 19) (v := .ref (ad 25 0)) X hP 5 5 0 rfl rfl (by decide) in5 (m_v5 hM) (by decide) (by decide +kernel) (m_r hM ad 5 25 (by decide)) dX5_take_27 ?_
      refine lv_iload_n X.1 X.2.1 dX5_take_30 rfl (lv_at hl 1 rfl) ?_
      refine q_ildv (len := 9) (v := (C 25 ((a).toNat) 0)) X hP 25 0 (by decide) rfl rfl (m_va hM 5 (by decide) rfl) rfl (by omega) (by omega) rfl dX5_take_31 ?_
      have f_4 := m_R25 hR ((a).toNat)
      refine lv_iconst (v := iI (-1)) X.1 X.2.1 dX5_take_32 rfl ?_
      refine q_icmp_eq (tgt := 40) X (hP.tok 25 ((a).toNat) 0 rfl) (by decide) dX5_take_33 (by decide) (fun h_5 => ?_) (fun h_5 => ?_)
      · refine lv_iconst (v := iI (0)) X.1 X.2.1 dX5_take_40 rfl ?_
        refine q_put (index := 82) (v := .int (iI (0))) X hP hS 5 0 0 ((0)) rfl rfl (by decide) in5 tyX5 tyX5_ok nmX5 (m_v5 hM) (by decide) (by decide +kernel) rfl rfl rfl rfl (show R32 _ from (by decide)) dX5_take_41 (fun H locs hP hS => ?_)
        have hP : q_P g s0 n ad (q_up C 5 0 0 ((0))) H := hP
        refine lv_aload_n X.1 X.2.1 dX5_take_44 rfl (lv_at hl 0 rfl) ?_
        refine q_get (index := 82) (v := .int (iI (0))) X hP 5 0 0 rfl rfl (by decide) in5 (m_v5 hM) (by decide) (by decide +kernel) rfl dX5_take_45 ?_
        refine q_if_le (tgt := 53) X (by decide) dX5_take_48 (by decide) (fun _ => ?_) (fun h => absurd h (by decide))
        refine lv_aload_n X.1 X.2.1 dX5_take_53 rfl (lv_at hl 0 rfl) ?_
        refine lv_lload_n X.1 X.2.1 dX5_take_54 rfl (lv_at hl 2 rfl) ?_
        refine q_put (index := 117) (v := .long (jI y)) X hP hS 5 28 0 y rfl rfl (by decide) in5 tyX5 tyX5_ok nmX5 (m_v5 hM) (by decide) (by decide +kernel) rfl rfl rfl rfl (show R64 _ from hy) dX5_take_55 (fun H locs hP hS => ?_)
        have hP : q_P g s0 n ad (q_up (q_up C 5 0 0 ((0))) 5 28 0 y) H := hP
        have hP : q_P g s0 n ad (m_now C y) H := hP
        refine lv_aload_n X.1 X.2.1 dX5_take_58 rfl (lv_at hl 0 rfl) ?_
        refine lv_iload_n X.1 X.2.1 dX5_take_59 rfl (lv_at hl 1 rfl) ?_
        refine va_calli (va_runV (As := [.int (iI a)]) (rest := []) X.fix (c_X5_bestRank l g s0 n ad (m_now C y) c0 (m_S_now hM y) (m_R_now hR (by omega)) hc0 a (by omega)) (cwV 1 X.2.2.2.2.1 gX5_take_X5_bestRank rfl rfl rfl (by decide +kernel) ⟨Nat.le_of_ble_eq_true rfl, Nat.le_of_ble_eq_true rfl⟩) (q_preV X hP hS [.int (iI a)] (kd := 5) (by decide) rfl (m_v5 hM)) rfl rfl hl.1 rfl (lv_room (Nat.le_of_ble_eq_true rfl)) dX5_take_60 ⟨Nat.le_of_ble_eq_true rfl, Nat.le_of_ble_eq_true rfl⟩) hS q_id q_id1 (fun r u t H locs ht hvm hw hB hz1 hk1 hS => ?_)
        obtain ⟨rfl, rfl⟩ := hw
        have hP : q_P g s0 n ad (m_now C y) H := q_back hB ht
        refine lv_istore (lv' := [(4, .int (iI (m_best (m_now C y) a (C 5 17 0).toNat))), (0, .ref (ad 5 0)), (1, .int (iI a)), (2, .long (jI y))]) X.1 X.2.1 dX5_take_63 hl (by decide) rfl (fun ls hl => ?_)
        refine lv_iload X.1 X.2.1 dX5_take_65 (lv_at hl 0 rfl) ?_
        refine lv_iconst (v := iI (-1)) X.1 X.2.1 dX5_take_67 rfl ?_
        refine q_icmp_ne (tgt := 73) X (m_best_r _ _ _ (m_R_now hR (by omega))) (by decide) dX5_take_68 (by decide) (fun h_7 => ?_) (fun h_7 => ?_)
        · refine q_join (g := g) (s0 := s0) (n := n) (ad := ad) (C := m_now C y) (nL := 6) (lv := [(5, .int (iI (((m_pt C a y) : Nat) : Int))), (0, .ref (ad 5 0)), (1, .int (iI a))]) (pcj := 121) (st := []) (fun H locs ls hP hS hl => ?_) (fun kj => ?_)
          · have f_8 := m_pt_b h_7 (by omega)
            have f_9 := m_pg hR (m_pt C a y) (by omega)
            have f_10 := m_R31 hR (C 38 (m_pt C a y) 0).toNat
            refine lv_aload_n X.1 X.2.1 dX5_take_121 rfl (lv_at hl 1 rfl) ?_
            refine q_get (index := 69) (v := .ref (ad 44 0)) X hP 5 24 0 rfl rfl (by decide) in5 (m_v5 hM) (by decide) (by decide +kernel) (m_r hM ad 24 44 (by decide)) dX5_take_122 ?_
            refine lv_iload X.1 X.2.1 dX5_take_125 (lv_at hl 0 rfl) ?_
            refine lv_iconst (v := iI (0)) X.1 X.2.1 dX5_take_127 rfl ?_
            refine q_zstv (len := 4200) (x := (0)) (z := (((m_pt C a y) : Nat) : Int)) X hP hS 44 0 (by decide) rfl rfl (m_va hM 24 (by decide) rfl) rfl (by omega) (by omega) (by decide) dX5_take_128 (fun H locs hP hS => ?_)
            have hP : q_P g s0 n ad (q_up (m_now C y) 44 ((m_pt C a y)) 0 ((0))) H := hP
            refine lv_aload_n X.1 X.2.1 dX5_take_129 rfl (lv_at hl 1 rfl) ?_
            refine q_get (index := 66) (v := .ref (ad 43 0)) X hP 5 23 0 rfl rfl (by decide) in5 (m_v5 hM) (by decide) (by decide +kernel) (m_r hM ad 23 43 (by decide)) dX5_take_130 ?_
            refine lv_iload X.1 X.2.1 dX5_take_133 (lv_at hl 0 rfl) ?_
            refine lv_iconst (v := iI (1)) X.1 X.2.1 dX5_take_135 rfl ?_
            refine q_zstv (len := 4200) (x := (1)) (z := (((m_pt C a y) : Nat) : Int)) X hP hS 43 0 (by decide) rfl rfl (m_va hM 23 (by decide) rfl) rfl (by omega) (by omega) (by decide) dX5_take_136 (fun H locs hP hS => ?_)
            have hP : q_P g s0 n ad (q_up (q_up (m_now C y) 44 ((m_pt C a y)) 0 ((0))) 43 ((m_pt C a y)) 0 ((1))) H := hP
            refine lv_aload_n X.1 X.2.1 dX5_take_137 rfl (lv_at hl 1 rfl) ?_
            refine q_get (index := 60) (v := .ref (ad 41 0)) X hP 5 21 0 rfl rfl (by decide) in5 (m_v5 hM) (by decide) (by decide +kernel) (m_r hM ad 21 41 (by decide)) dX5_take_138 ?_
            refine lv_iload X.1 X.2.1 dX5_take_141 (lv_at hl 0 rfl) ?_
            refine lv_iload_n X.1 X.2.1 dX5_take_143 rfl (lv_at hl 2 rfl) ?_
            refine q_istv (len := 4200) (x := a) (z := (((m_pt C a y) : Nat) : Int)) X hP hS 41 0 (by decide) rfl rfl (m_va hM 21 (by decide) rfl) rfl (by omega) (by omega) ha dX5_take_144 (fun H locs hP hS => ?_)
            have hP : q_P g s0 n ad (q_up (q_up (q_up (m_now C y) 44 ((m_pt C a y)) 0 ((0))) 43 ((m_pt C a y)) 0 ((1))) 41 ((m_pt C a y)) 0 a) H := hP
            refine lv_aload_n X.1 X.2.1 dX5_take_145 rfl (lv_at hl 1 rfl) ?_
            refine q_get (index := 19) (v := .ref (ad 25 0)) X hP 5 5 0 rfl rfl (by decide) in5 (m_v5 hM) (by decide) (by decide +kernel) (m_r hM ad 5 25 (by decide)) dX5_take_146 ?_
            refine lv_iload_n X.1 X.2.1 dX5_take_149 rfl (lv_at hl 2 rfl) ?_
            refine lv_iload X.1 X.2.1 dX5_take_150 (lv_at hl 0 rfl) ?_
            refine q_istv (len := 9) (x := (((m_pt C a y) : Nat) : Int)) (z := a) X hP hS 25 0 (by decide) rfl rfl (m_va hM 5 (by decide) rfl) rfl (by omega) (by omega) (by omega) dX5_take_152 (fun H locs hP hS => ?_)
            have hP : q_P g s0 n ad (q_up (q_up (q_up (q_up (m_now C y) 44 ((m_pt C a y)) 0 ((0))) 43 ((m_pt C a y)) 0 ((1))) 41 ((m_pt C a y)) 0 a) 25 ((a).toNat) 0 ((((m_pt C a y) : Nat) : Int))) H := hP
            refine lv_aload_n X.1 X.2.1 dX5_take_153 rfl (lv_at hl 1 rfl) ?_
            refine lv_iload X.1 X.2.1 dX5_take_154 (lv_at hl 0 rfl) ?_
            refine va_calli (va_runV (As := [.int (iI (((m_pt C a y) : Nat) : Int))]) (rest := []) X.fix (c_X5_mediaOf l g s0 n ad (q_up (q_up (q_up (q_up (m_now C y) 44 ((m_pt C a y)) 0 ((0))) 43 ((m_pt C a y)) 0 ((1))) 41 ((m_pt C a y)) 0 a) 25 ((a).toNat) 0 ((((m_pt C a y) : Nat) : Int))) (m_S.up (m_S.up (m_S.up (m_S.up (m_S.up (m_S.up hM (Or.inr (by decide))) (Or.inr (by decide))) (Or.inl (by decide))) (Or.inl (by decide))) (Or.inl (by decide))) (Or.inl (by decide))) ((m_pt C a y)) (by omega) (m_R38 hR _) (m_R31 hR _)) (cwV 1 X.2.2.2.2.1 gX5_take_X5_mediaOf rfl rfl rfl (by decide +kernel) ⟨Nat.le_of_ble_eq_true rfl, Nat.le_of_ble_eq_true rfl⟩) (q_preV X hP hS [.int (iI (((m_pt C a y) : Nat) : Int))] (kd := 5) (by decide) rfl (m_v5 hM)) rfl rfl hl.1 rfl (lv_room (Nat.le_of_ble_eq_true rfl)) dX5_take_156 ⟨Nat.le_of_ble_eq_true rfl, Nat.le_of_ble_eq_true rfl⟩) hS q_id q_id1 (fun r u t H locs ht hvm hw hB hz1 hk1 hS => ?_)
            obtain ⟨rfl, rfl⟩ := hw
            have hP : q_P g s0 n ad (q_up (q_up (q_up (q_up (m_now C y) 44 ((m_pt C a y)) 0 ((0))) 43 ((m_pt C a y)) 0 ((1))) 41 ((m_pt C a y)) 0 a) 25 ((a).toNat) 0 ((((m_pt C a y) : Nat) : Int))) H := q_back hB ht
            refine lv_aload_n X.1 X.2.1 dX5_take_159 rfl (lv_at hl 1 rfl) ?_
            refine q_get (index := 7) (v := .ref (ad 22 0)) X hP 5 2 0 rfl rfl (by decide) in5 (m_v5 hM) (by decide) (by decide +kernel) (m_r hM ad 2 22 (by decide)) dX5_take_160 ?_
            refine lv_iload_n X.1 X.2.1 dX5_take_163 rfl (lv_at hl 2 rfl) ?_
            refine q_ildv (len := 9) (v := (C 22 ((a).toNat) 0)) X hP 22 0 (by decide) rfl rfl (m_va hM 2 (by decide) rfl) rfl (by omega) (by omega) rfl dX5_take_164 ?_
            refine q_icmp_ne (tgt := 181) X (hP.tok 27 _ 0 rfl) (hP.tok 22 ((a).toNat) 0 rfl) dX5_take_165 (by decide) (fun h_11 => ?_) (fun h_11 => ?_)
            · refine lv_aload_n X.1 X.2.1 dX5_take_181 rfl (lv_at hl 1 rfl) ?_
              refine q_get (index := 7) (v := .ref (ad 22 0)) X hP 5 2 0 rfl rfl (by decide) in5 (m_v5 hM) (by decide) (by decide +kernel) (m_r hM ad 2 22 (by decide)) dX5_take_182 ?_
              refine lv_iload_n X.1 X.2.1 dX5_take_185 rfl (lv_at hl 2 rfl) ?_
              refine lv_aload_n X.1 X.2.1 dX5_take_186 rfl (lv_at hl 1 rfl) ?_
              refine lv_iload X.1 X.2.1 dX5_take_187 (lv_at hl 0 rfl) ?_
              refine va_calli (va_runV (As := [.int (iI (((m_pt C a y) : Nat) : Int))]) (rest := [.int (iI a), .ref (ad 22 0)]) X.fix (c_X5_mediaOf l g s0 n ad (q_up (q_up (q_up (q_up (m_now C y) 44 ((m_pt C a y)) 0 ((0))) 43 ((m_pt C a y)) 0 ((1))) 41 ((m_pt C a y)) 0 a) 25 ((a).toNat) 0 ((((m_pt C a y) : Nat) : Int))) (m_S.up (m_S.up (m_S.up (m_S.up (m_S.up (m_S.up hM (Or.inr (by decide))) (Or.inr (by decide))) (Or.inl (by decide))) (Or.inl (by decide))) (Or.inl (by decide))) (Or.inl (by decide))) ((m_pt C a y)) (by omega) (m_R38 hR _) (m_R31 hR _)) (cwV 1 X.2.2.2.2.1 gX5_take_X5_mediaOf rfl rfl rfl (by decide +kernel) ⟨Nat.le_of_ble_eq_true rfl, Nat.le_of_ble_eq_true rfl⟩) (q_preV X hP hS [.int (iI (((m_pt C a y) : Nat) : Int))] (kd := 5) (by decide) rfl (m_v5 hM)) rfl rfl hl.1 rfl (lv_room (Nat.le_of_ble_eq_true rfl)) dX5_take_189 ⟨Nat.le_of_ble_eq_true rfl, Nat.le_of_ble_eq_true rfl⟩) hS q_id q_id1 (fun r u t H locs ht hvm hw hB hz1 hk1 hS => ?_)
              obtain ⟨rfl, rfl⟩ := hw
              have hP : q_P g s0 n ad (q_up (q_up (q_up (q_up (m_now C y) 44 ((m_pt C a y)) 0 ((0))) 43 ((m_pt C a y)) 0 ((1))) 41 ((m_pt C a y)) 0 a) 25 ((a).toNat) 0 ((((m_pt C a y) : Nat) : Int))) H := q_back hB ht
              refine q_istv (len := 9) (x := (m_med C ((m_pt C a y)))) (z := a) X hP hS 22 0 (by decide) rfl rfl (m_va hM 2 (by decide) rfl) rfl (by omega) (by omega) (hP.tok 27 _ 0 rfl) dX5_take_192 (fun H locs hP hS => ?_)
              have hP : q_P g s0 n ad (q_up (q_up (q_up (q_up (q_up (m_now C y) 44 ((m_pt C a y)) 0 ((0))) 43 ((m_pt C a y)) 0 ((1))) 41 ((m_pt C a y)) 0 a) 25 ((a).toNat) 0 ((((m_pt C a y) : Nat) : Int))) 22 ((a).toNat) 0 ((m_med C ((m_pt C a y))))) H := hP
              refine lv_aload_n X.1 X.2.1 dX5_take_193 rfl (lv_at hl 1 rfl) ?_
              refine q_get (index := 16) (v := .ref (ad 24 0)) X hP 5 4 0 rfl rfl (by decide) in5 (m_v5 hM) (by decide) (by decide +kernel) (m_r hM ad 4 24 (by decide)) dX5_take_194 ?_
              refine lv_iload_n X.1 X.2.1 dX5_take_197 rfl (lv_at hl 2 rfl) ?_
              refine lv_iconst (v := iI (0)) X.1 X.2.1 dX5_take_198 rfl ?_
              refine q_istv (len := 9) (x := (0)) (z := a) X hP hS 24 0 (by decide) rfl rfl (m_va hM 4 (by decide) rfl) rfl (by omega) (by omega) (by decide) dX5_take_199 (fun H locs hP hS => ?_)
              have hP : q_P g s0 n ad (q_up (q_up (q_up (q_up (q_up (q_up (m_now C y) 44 ((m_pt C a y)) 0 ((0))) 43 ((m_pt C a y)) 0 ((1))) 41 ((m_pt C a y)) 0 a) 25 ((a).toNat) 0 ((((m_pt C a y) : Nat) : Int))) 22 ((a).toNat) 0 ((m_med C ((m_pt C a y))))) 24 ((a).toNat) 0 ((0))) H := hP
              refine lv_aload_n X.1 X.2.1 dX5_take_200 rfl (lv_at hl 1 rfl) ?_
              refine q_get (index := 28) (v := .ref (ad 29 0)) X hP 5 9 0 rfl rfl (by decide) in5 (m_v5 hM) (by decide) (by decide +kernel) (m_r hM ad 9 29 (by decide)) dX5_take_201 ?_
              refine lv_iconst (v := iI (4)) X.1 X.2.1 dX5_take_204 rfl ?_
              refine lv_aload_n X.1 X.2.1 dX5_take_205 rfl (lv_at hl 1 rfl) ?_
              refine q_get (index := 32) (v := .ref (ad 31 0)) X hP 5 11 0 rfl rfl (by decide) in5 (m_v5 hM) (by decide) (by decide +kernel) (m_r hM ad 11 31 (by decide)) dX5_take_206 ?_
              refine lv_aload_n X.1 X.2.1 dX5_take_209 rfl (lv_at hl 1 rfl) ?_
              refine q_get (index := 51) (v := .ref (ad 38 0)) X hP 5 18 0 rfl rfl (by decide) in5 (m_v5 hM) (by decide) (by decide +kernel) (m_r hM ad 18 38 (by decide)) dX5_take_210 ?_
              refine lv_iload X.1 X.2.1 dX5_take_213 (lv_at hl 0 rfl) ?_
              refine q_ildv (len := 4200) (v := (C 38 ((m_pt C a y)) 0)) X hP 38 0 (by decide) rfl rfl (m_va hM 18 (by decide) rfl) rfl (by omega) (by omega) rfl dX5_take_215 ?_
              have f_12 := m_R38 hR ((m_pt C a y))
              refine q_ildv (len := 61) (v := (C 31 (((C 38 ((m_pt C a y)) 0)).toNat) 0)) X hP 31 0 (by decide) rfl rfl (m_va hM 11 (by decide) rfl) rfl (by omega) (by omega) rfl dX5_take_216 ?_
              have f_13 := m_R31 hR (((C 38 ((m_pt C a y)) 0)).toNat)
              refine q_imul X dX5_take_217 ?_
              refine lv_iconst (v := iI (2)) X.1 X.2.1 dX5_take_218 rfl ?_
              refine q_isub X dX5_take_219 ?_
              refine lv_dup2_11 X.1 X.2.1 dX5_take_220 rfl rfl ?_
              refine q_lldv (len := 84) (v := (C 29 (((((4) * (C 31 (((C 38 ((m_pt C a y)) 0)).toNat) 0)) - (2))).toNat) 0)) X hP 29 0 (by decide) rfl rfl (m_va hM 9 (by decide) rfl) rfl (by omega) (by omega) rfl dX5_take_221 ?_
              have f_14 := m_R29 hR (((((4) * (C 31 (((C 38 ((m_pt C a y)) 0)).toNat) 0)) - (2))).toNat)
              refine lv_lconst (v := jI (1)) X.1 X.2.1 dX5_take_222 (by decide) ?_
              refine q_ladd X dX5_take_223 ?_
              refine q_lstv (len := 84) (x := ((C 29 (((((4) * (C 31 (((C 38 ((m_pt C a y)) 0)).toNat) 0)) - (2))).toNat) 0) + (1))) (z := (((4) * (C 31 (((C 38 ((m_pt C a y)) 0)).toNat) 0)) - (2))) X hP hS 29 0 (by decide) rfl rfl (m_va hM 9 (by decide) rfl) rfl (by omega) (by omega) (by omega) dX5_take_224 (fun H locs hP hS => ?_)
              have hP : q_P g s0 n ad (q_up (q_up (q_up (q_up (q_up (q_up (q_up (m_now C y) 44 ((m_pt C a y)) 0 ((0))) 43 ((m_pt C a y)) 0 ((1))) 41 ((m_pt C a y)) 0 a) 25 ((a).toNat) 0 ((((m_pt C a y) : Nat) : Int))) 22 ((a).toNat) 0 ((m_med C ((m_pt C a y))))) 24 ((a).toNat) 0 ((0))) 29 (((((4) * (C 31 (((C 38 ((m_pt C a y)) 0)).toNat) 0)) - (2))).toNat) 0 (((C 29 (((((4) * (C 31 (((C 38 ((m_pt C a y)) 0)).toNat) 0)) - (2))).toNat) 0) + (1)))) H := hP
              refine lv_aload_n X.1 X.2.1 dX5_take_225 rfl (lv_at hl 1 rfl) ?_
              refine q_get (index := 51) (v := .ref (ad 38 0)) X hP 5 18 0 rfl rfl (by decide) in5 (m_v5 hM) (by decide) (by decide +kernel) (m_r hM ad 18 38 (by decide)) dX5_take_226 ?_
              refine lv_iload X.1 X.2.1 dX5_take_229 (lv_at hl 0 rfl) ?_
              refine q_ildv (len := 4200) (v := (C 38 ((m_pt C a y)) 0)) X hP 38 0 (by decide) rfl rfl (m_va hM 18 (by decide) rfl) rfl (by omega) (by omega) rfl dX5_take_231 ?_
              exact q_iret X hr hlocks hP hS (Or.inl (⟨h_1, h_3, h_5, h_7, h_11, rfl, rfl⟩)) (Nat.le_of_ble_eq_true rfl) (Nat.le_of_ble_eq_true rfl) dX5_take_232
            · refine lv_aload_n X.1 X.2.1 dX5_take_168 rfl (lv_at hl 1 rfl) ?_
              refine q_get (index := 16) (v := .ref (ad 24 0)) X hP 5 4 0 rfl rfl (by decide) in5 (m_v5 hM) (by decide) (by decide +kernel) (m_r hM ad 4 24 (by decide)) dX5_take_169 ?_
              refine lv_iload_n X.1 X.2.1 dX5_take_172 rfl (lv_at hl 2 rfl) ?_
              refine lv_dup2_11 X.1 X.2.1 dX5_take_173 rfl rfl ?_
              refine q_ildv (len := 9) (v := (C 24 ((a).toNat) 0)) X hP 24 0 (by decide) rfl rfl (m_va hM 4 (by decide) rfl) rfl (by omega) (by omega) rfl dX5_take_174 ?_
              have f_15 := m_R24 hR ((a).toNat)
              refine lv_iconst (v := iI (1)) X.1 X.2.1 dX5_take_175 rfl ?_
              refine q_iadd X dX5_take_176 ?_
              refine q_istv (len := 9) (x := ((C 24 ((a).toNat) 0) + (1))) (z := a) X hP hS 24 0 (by decide) rfl rfl (m_va hM 4 (by decide) rfl) rfl (by omega) (by omega) (by omega) dX5_take_177 (fun H locs hP hS => ?_)
              have hP : q_P g s0 n ad (q_up (q_up (q_up (q_up (q_up (m_now C y) 44 ((m_pt C a y)) 0 ((0))) 43 ((m_pt C a y)) 0 ((1))) 41 ((m_pt C a y)) 0 a) 25 ((a).toNat) 0 ((((m_pt C a y) : Nat) : Int))) 24 ((a).toNat) 0 (((C 24 ((a).toNat) 0) + (1)))) H := hP
              refine lv_goto (tgt := 225) X.1 X.2.1 dX5_take_178 (by decide) ?_
              refine lv_aload_n X.1 X.2.1 dX5_take_225 rfl (lv_at hl 1 rfl) ?_
              refine q_get (index := 51) (v := .ref (ad 38 0)) X hP 5 18 0 rfl rfl (by decide) in5 (m_v5 hM) (by decide) (by decide +kernel) (m_r hM ad 18 38 (by decide)) dX5_take_226 ?_
              refine lv_iload X.1 X.2.1 dX5_take_229 (lv_at hl 0 rfl) ?_
              refine q_ildv (len := 4200) (v := (C 38 ((m_pt C a y)) 0)) X hP 38 0 (by decide) rfl rfl (m_va hM 18 (by decide) rfl) rfl (by omega) (by omega) rfl dX5_take_231 ?_
              have f_16 := m_R38 hR ((m_pt C a y))
              exact q_iret X hr hlocks hP hS (Or.inr (Or.inl (⟨h_1, h_3, h_5, h_7, h_11, rfl, rfl⟩))) (Nat.le_of_ble_eq_true rfl) (Nat.le_of_ble_eq_true rfl) dX5_take_232
          · refine lv_aload_n X.1 X.2.1 dX5_take_73 rfl (lv_at hl 1 rfl) ?_
            refine q_get (index := 16) (v := .ref (ad 24 0)) X hP 5 4 0 rfl rfl (by decide) in5 (m_v5 hM) (by decide) (by decide +kernel) (m_r hM ad 4 24 (by decide)) dX5_take_74 ?_
            refine lv_iload_n X.1 X.2.1 dX5_take_77 rfl (lv_at hl 2 rfl) ?_
            refine q_ildv (len := 9) (v := (C 24 ((a).toNat) 0)) X hP 24 0 (by decide) rfl rfl (m_va hM 4 (by decide) rfl) rfl (by omega) (by omega) rfl dX5_take_78 ?_
            have f_17 := m_R24 hR ((a).toNat)
            refine lv_aload_n X.1 X.2.1 dX5_take_79 rfl (lv_at hl 1 rfl) ?_
            refine q_get (index := 78) (v := .int (iI (C 5 29 0))) X hP 5 29 0 rfl rfl (by decide) in5 (m_v5 hM) (by decide) (by decide +kernel) rfl dX5_take_80 ?_
            refine q_icmp_ge (tgt := 97) X (hP.tok 24 ((a).toNat) 0 rfl) (hP.tok 5 29 0 rfl) dX5_take_83 (by decide) (fun h_18 => ?_) (fun h_18 => ?_)
            · refine lv_iconst (v := iI (-1)) X.1 X.2.1 dX5_take_97 rfl ?_
              refine lv_istore (lv' := [(5, .int (iI (-1))), (4, .int (iI (m_best (m_now C y) a (C 5 17 0).toNat))), (0, .ref (ad 5 0)), (1, .int (iI a)), (2, .long (jI y))]) X.1 X.2.1 dX5_take_98 hl (by decide) rfl (fun ls hl => ?_)
              refine lv_iload X.1 X.2.1 dX5_take_100 (lv_at hl 0 rfl) ?_
              refine lv_iconst (v := iI (-1)) X.1 X.2.1 dX5_take_102 rfl ?_
              refine q_icmp_ne (tgt := 117) X (by decide) (by decide) dX5_take_103 (by decide) (fun h => absurd h (by decide)) (fun _ => ?_)
              refine lv_aload_n X.1 X.2.1 dX5_take_106 rfl (lv_at hl 2 rfl) ?_
              refine lv_iload_n X.1 X.2.1 dX5_take_107 rfl (lv_at hl 3 rfl) ?_
              refine lv_iload X.1 X.2.1 dX5_take_108 (lv_at hl 1 rfl) ?_
              refine lv_iconst (v := iI (0)) X.1 X.2.1 dX5_take_110 rfl ?_
              refine va_calli (va_runV (As := [.int (iI a), .int (iI (m_best (m_now C y) a (C 5 17 0).toNat)), .int (iI (0))]) (rest := []) X.fix (c_X5_firstOf l g s0 n ad (m_now C y) c0 (m_S_now hM y) (m_R_now hR (by omega)) hc0 a (by omega) (m_best (m_now C y) a (C 5 17 0).toNat) (m_best_r _ _ _ (m_R_now hR (by omega))) (0) (by decide)) (cwV 3 X.2.2.2.2.1 gX5_take_X5_firstOf rfl rfl rfl (by decide +kernel) ⟨Nat.le_of_ble_eq_true rfl, Nat.le_of_ble_eq_true rfl⟩) (q_preV X hP hS [.int (iI a), .int (iI (m_best (m_now C y) a (C 5 17 0).toNat)), .int (iI (0))] (kd := 5) (by decide) rfl (m_v5 hM)) rfl rfl hl.1 rfl (lv_room (Nat.le_of_ble_eq_true rfl)) dX5_take_111 ⟨Nat.le_of_ble_eq_true rfl, Nat.le_of_ble_eq_true rfl⟩) hS q_id q_id1 (fun r u t H locs ht hvm hw hB hz1 hk1 hS => ?_)
              obtain ⟨rfl, rfl⟩ := hw
              have hP : q_P g s0 n ad (m_now C y) H := q_back hB ht
              have f_20 := m_first_b (m_now C y) a (m_best (m_now C y) a (C 5 17 0).toNat) 0 (C 5 17 0).toNat
              refine lv_goto (tgt := 119) X.1 X.2.1 dX5_take_114 (by decide) ?_
              refine lv_istore (lv' := [(5, .int (iI (m_first (m_now C y) a (m_best (m_now C y) a (C 5 17 0).toNat) 0 (C 5 17 0).toNat))), (4, .int (iI (m_best (m_now C y) a (C 5 17 0).toNat))), (0, .ref (ad 5 0)), (1, .int (iI a)), (2, .long (jI y))]) X.1 X.2.1 dX5_take_119 hl (by decide) rfl (fun ls hl => ?_)
              have e_21 : (m_first (m_now C y) a (m_best (m_now C y) a (C 5 17 0).toNat) 0 (C 5 17 0).toNat) = (((m_pt C a y) : Nat) : Int) := by first | exact m_pt_t (by assumption) (by assumption) | exact m_pt_f h_7 (by omega)
              have hl : lv_has ls 6 [(5, .int (iI (((m_pt C a y) : Nat) : Int))), (0, .ref (ad 5 0)), (1, .int (iI a))] := lv_cong (show lv_has ls 6 [(5, .int (iI (m_first (m_now C y) a (m_best (m_now C y) a (C 5 17 0).toNat) 0 (C 5 17 0).toNat))), (0, .ref (ad 5 0)), (1, .int (iI a))] from lv_sub hl [0, 2, 3] rfl) (lv_cs (congrArg (fun z => Value.int (iI z)) e_21) (lv_cs rfl (lv_cs rfl rfl)))
              exact kj _ _ ls hP hS hl
            · refine lv_aload_n X.1 X.2.1 dX5_take_86 rfl (lv_at hl 1 rfl) ?_
              refine lv_iload_n X.1 X.2.1 dX5_take_87 rfl (lv_at hl 2 rfl) ?_
              refine lv_iload X.1 X.2.1 dX5_take_88 (lv_at hl 0 rfl) ?_
              refine lv_iconst (v := iI (1)) X.1 X.2.1 dX5_take_90 rfl ?_
              refine va_calli (va_runV (As := [.int (iI a), .int (iI (m_best (m_now C y) a (C 5 17 0).toNat)), .int (iI (1))]) (rest := []) X.fix (c_X5_firstOf l g s0 n ad (m_now C y) c0 (m_S_now hM y) (m_R_now hR (by omega)) hc0 a (by omega) (m_best (m_now C y) a (C 5 17 0).toNat) (m_best_r _ _ _ (m_R_now hR (by omega))) (1) (by decide)) (cwV 3 X.2.2.2.2.1 gX5_take_X5_firstOf rfl rfl rfl (by decide +kernel) ⟨Nat.le_of_ble_eq_true rfl, Nat.le_of_ble_eq_true rfl⟩) (q_preV X hP hS [.int (iI a), .int (iI (m_best (m_now C y) a (C 5 17 0).toNat)), .int (iI (1))] (kd := 5) (by decide) rfl (m_v5 hM)) rfl rfl hl.1 rfl (lv_room (Nat.le_of_ble_eq_true rfl)) dX5_take_91 ⟨Nat.le_of_ble_eq_true rfl, Nat.le_of_ble_eq_true rfl⟩) hS q_id q_id1 (fun r u t H locs ht hvm hw hB hz1 hk1 hS => ?_)
              obtain ⟨rfl, rfl⟩ := hw
              have hP : q_P g s0 n ad (m_now C y) H := q_back hB ht
              have f_22 := m_first_b (m_now C y) a (m_best (m_now C y) a (C 5 17 0).toNat) 1 (C 5 17 0).toNat
              refine lv_goto (tgt := 98) X.1 X.2.1 dX5_take_94 (by decide) ?_
              refine lv_istore (lv' := [(5, .int (iI (m_first (m_now C y) a (m_best (m_now C y) a (C 5 17 0).toNat) 1 (C 5 17 0).toNat))), (4, .int (iI (m_best (m_now C y) a (C 5 17 0).toNat))), (0, .ref (ad 5 0)), (1, .int (iI a)), (2, .long (jI y))]) X.1 X.2.1 dX5_take_98 hl (by decide) rfl (fun ls hl => ?_)
              refine lv_iload X.1 X.2.1 dX5_take_100 (lv_at hl 0 rfl) ?_
              refine lv_iconst (v := iI (-1)) X.1 X.2.1 dX5_take_102 rfl ?_
              refine q_icmp_ne (tgt := 117) X (by omega) (by decide) dX5_take_103 (by decide) (fun h_23 => ?_) (fun h_23 => ?_)
              · refine lv_iload X.1 X.2.1 dX5_take_117 (lv_at hl 0 rfl) ?_
                refine lv_istore (lv' := [(5, .int (iI (m_first (m_now C y) a (m_best (m_now C y) a (C 5 17 0).toNat) 1 (C 5 17 0).toNat))), (4, .int (iI (m_best (m_now C y) a (C 5 17 0).toNat))), (0, .ref (ad 5 0)), (1, .int (iI a)), (2, .long (jI y))]) X.1 X.2.1 dX5_take_119 hl (by decide) rfl (fun ls hl => ?_)
                have e_24 : (m_first (m_now C y) a (m_best (m_now C y) a (C 5 17 0).toNat) 1 (C 5 17 0).toNat) = (((m_pt C a y) : Nat) : Int) := by first | exact m_pt_t (by assumption) (by assumption) | exact m_pt_f h_7 (by omega)
                have hl : lv_has ls 6 [(5, .int (iI (((m_pt C a y) : Nat) : Int))), (0, .ref (ad 5 0)), (1, .int (iI a))] := lv_cong (show lv_has ls 6 [(5, .int (iI (m_first (m_now C y) a (m_best (m_now C y) a (C 5 17 0).toNat) 1 (C 5 17 0).toNat))), (0, .ref (ad 5 0)), (1, .int (iI a))] from lv_sub hl [0, 2, 3] rfl) (lv_cs (congrArg (fun z => Value.int (iI z)) e_24) (lv_cs rfl (lv_cs rfl rfl)))
                exact kj _ _ ls hP hS hl
              · refine lv_aload_n X.1 X.2.1 dX5_take_106 rfl (lv_at hl 2 rfl) ?_
                refine lv_iload_n X.1 X.2.1 dX5_take_107 rfl (lv_at hl 3 rfl) ?_
                refine lv_iload X.1 X.2.1 dX5_take_108 (lv_at hl 1 rfl) ?_
                refine lv_iconst (v := iI (0)) X.1 X.2.1 dX5_take_110 rfl ?_
                refine va_calli (va_runV (As := [.int (iI a), .int (iI (m_best (m_now C y) a (C 5 17 0).toNat)), .int (iI (0))]) (rest := []) X.fix (c_X5_firstOf l g s0 n ad (m_now C y) c0 (m_S_now hM y) (m_R_now hR (by omega)) hc0 a (by omega) (m_best (m_now C y) a (C 5 17 0).toNat) (m_best_r _ _ _ (m_R_now hR (by omega))) (0) (by decide)) (cwV 3 X.2.2.2.2.1 gX5_take_X5_firstOf rfl rfl rfl (by decide +kernel) ⟨Nat.le_of_ble_eq_true rfl, Nat.le_of_ble_eq_true rfl⟩) (q_preV X hP hS [.int (iI a), .int (iI (m_best (m_now C y) a (C 5 17 0).toNat)), .int (iI (0))] (kd := 5) (by decide) rfl (m_v5 hM)) rfl rfl hl.1 rfl (lv_room (Nat.le_of_ble_eq_true rfl)) dX5_take_111 ⟨Nat.le_of_ble_eq_true rfl, Nat.le_of_ble_eq_true rfl⟩) hS q_id q_id1 (fun r u t H locs ht hvm hw hB hz1 hk1 hS => ?_)
                obtain ⟨rfl, rfl⟩ := hw
                have hP : q_P g s0 n ad (m_now C y) H := q_back hB ht
                have f_25 := m_first_b (m_now C y) a (m_best (m_now C y) a (C 5 17 0).toNat) 0 (C 5 17 0).toNat
                refine lv_goto (tgt := 119) X.1 X.2.1 dX5_take_114 (by decide) ?_
                refine lv_istore (lv' := [(5, .int (iI (m_first (m_now C y) a (m_best (m_now C y) a (C 5 17 0).toNat) 0 (C 5 17 0).toNat))), (4, .int (iI (m_best (m_now C y) a (C 5 17 0).toNat))), (0, .ref (ad 5 0)), (1, .int (iI a)), (2, .long (jI y))]) X.1 X.2.1 dX5_take_119 hl (by decide) rfl (fun ls hl => ?_)
                have e_26 : (m_first (m_now C y) a (m_best (m_now C y) a (C 5 17 0).toNat) 0 (C 5 17 0).toNat) = (((m_pt C a y) : Nat) : Int) := by first | exact m_pt_t (by assumption) (by assumption) | exact m_pt_f h_7 (by omega)
                have hl : lv_has ls 6 [(5, .int (iI (((m_pt C a y) : Nat) : Int))), (0, .ref (ad 5 0)), (1, .int (iI a))] := lv_cong (show lv_has ls 6 [(5, .int (iI (m_first (m_now C y) a (m_best (m_now C y) a (C 5 17 0).toNat) 0 (C 5 17 0).toNat))), (0, .ref (ad 5 0)), (1, .int (iI a))] from lv_sub hl [0, 2, 3] rfl) (lv_cs (congrArg (fun z => Value.int (iI z)) e_26) (lv_cs rfl (lv_cs rfl rfl)))
                exact kj _ _ ls hP hS hl
        · refine lv_iconst (v := iI (0)) X.1 X.2.1 dX5_take_71 rfl ?_
          exact q_iret X hr hlocks hP hS (Or.inr (Or.inr (Or.inl (⟨h_1, h_3, h_5, h_7, rfl, rfl⟩)))) (Nat.le_of_ble_eq_true rfl) (Nat.le_of_ble_eq_true rfl) dX5_take_72
      · refine lv_iconst (v := iI (3)) X.1 X.2.1 dX5_take_36 rfl ?_
        refine lv_goto (tgt := 41) X.1 X.2.1 dX5_take_37 (by decide) ?_
        refine q_put (index := 82) (v := .int (iI (3))) X hP hS 5 0 0 ((3)) rfl rfl (by decide) in5 tyX5 tyX5_ok nmX5 (m_v5 hM) (by decide) (by decide +kernel) rfl rfl rfl rfl (show R32 _ from (by decide)) dX5_take_41 (fun H locs hP hS => ?_)
        have hP : q_P g s0 n ad (q_up C 5 0 0 ((3))) H := hP
        refine lv_aload_n X.1 X.2.1 dX5_take_44 rfl (lv_at hl 0 rfl) ?_
        refine q_get (index := 82) (v := .int (iI (3))) X hP 5 0 0 rfl rfl (by decide) in5 (m_v5 hM) (by decide) (by decide +kernel) rfl dX5_take_45 ?_
        refine q_if_le (tgt := 53) X (by decide) dX5_take_48 (by decide) (fun h => absurd h (by decide)) (fun _ => ?_)
        refine lv_iconst (v := iI (0)) X.1 X.2.1 dX5_take_51 rfl ?_
        exact q_iret X hr hlocks hP hS (Or.inr (Or.inr (Or.inr (Or.inl (⟨h_1, h_3, h_5, rfl, rfl⟩))))) (Nat.le_of_ble_eq_true rfl) (Nat.le_of_ble_eq_true rfl) dX5_take_52
    · refine lv_iconst (v := iI (2)) X.1 X.2.1 dX5_take_22 rfl ?_
      refine lv_goto (tgt := 41) X.1 X.2.1 dX5_take_23 (by decide) ?_
      refine q_put (index := 82) (v := .int (iI (2))) X hP hS 5 0 0 ((2)) rfl rfl (by decide) in5 tyX5 tyX5_ok nmX5 (m_v5 hM) (by decide) (by decide +kernel) rfl rfl rfl rfl (show R32 _ from (by decide)) dX5_take_41 (fun H locs hP hS => ?_)
      have hP : q_P g s0 n ad (q_up C 5 0 0 ((2))) H := hP
      refine lv_aload_n X.1 X.2.1 dX5_take_44 rfl (lv_at hl 0 rfl) ?_
      refine q_get (index := 82) (v := .int (iI (2))) X hP 5 0 0 rfl rfl (by decide) in5 (m_v5 hM) (by decide) (by decide +kernel) rfl dX5_take_45 ?_
      refine q_if_le (tgt := 53) X (by decide) dX5_take_48 (by decide) (fun h => absurd h (by decide)) (fun _ => ?_)
      refine lv_iconst (v := iI (0)) X.1 X.2.1 dX5_take_51 rfl ?_
      exact q_iret X hr hlocks hP hS (Or.inr (Or.inr (Or.inr (Or.inr (Or.inl (⟨h_1, h_3, rfl, rfl⟩)))))) (Nat.le_of_ble_eq_true rfl) (Nat.le_of_ble_eq_true rfl) dX5_take_52
  · have hP : q_P g s0 n ad (C) H := q_back hB ht
    have h_1 : ¬ (1 ≤ a ∧ a ≤ C 5 1 0) := h_1
    refine q_if_ne (tgt := 13) X (by decide) dX5_take_6 (by decide) (fun h => absurd h (by decide)) (fun _ => ?_)
    refine lv_iconst (v := iI (1)) X.1 X.2.1 dX5_take_9 rfl ?_
    refine lv_goto (tgt := 41) X.1 X.2.1 dX5_take_10 (by decide) ?_
    refine q_put (index := 82) (v := .int (iI (1))) X hP hS 5 0 0 ((1)) rfl rfl (by decide) in5 tyX5 tyX5_ok nmX5 (m_v5 hM) (by decide) (by decide +kernel) rfl rfl rfl rfl (show R32 _ from (by decide)) dX5_take_41 (fun H locs hP hS => ?_)
    have hP : q_P g s0 n ad (q_up C 5 0 0 ((1))) H := hP
    refine lv_aload_n X.1 X.2.1 dX5_take_44 rfl (lv_at hl 0 rfl) ?_
    refine q_get (index := 82) (v := .int (iI (1))) X hP 5 0 0 rfl rfl (by decide) in5 (m_v5 hM) (by decide) (by decide +kernel) rfl dX5_take_45 ?_
    refine q_if_le (tgt := 53) X (by decide) dX5_take_48 (by decide) (fun h => absurd h (by decide)) (fun _ => ?_)
    refine lv_iconst (v := iI (0)) X.1 X.2.1 dX5_take_51 rfl ?_
    exact q_iret X hr hlocks hP hS (Or.inr (Or.inr (Or.inr (Or.inr (Or.inr (⟨h_1, rfl, rfl⟩)))))) (Nat.le_of_ble_eq_true rfl) (Nat.le_of_ble_eq_true rfl) dX5_take_52
