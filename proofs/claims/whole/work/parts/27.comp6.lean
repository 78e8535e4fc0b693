/-- the slots that c_S and c_R speak of -/
def c_rel : Nat → Nat → Bool
  | 0, s => s == 0 || s == 1 || s == 2 || s == 7
  | 1, s => s == 0 || s == 2 || s == 4 || s == 5 || s == 6
  | 2, s => s == 0 || s == 3
  | 3, s => decide (2 ≤ s ∧ s ≤ 5)
  | 4, s => !(s == 9) && !(s == 10)
  | 6, _ => true
  | 7, _ => true
  | 8, _ => true
  | _, _ => false
theorem c_R_cg {C D : q_S} {n : Nat → Nat} {c : Nat} (h : c_R C n c) (he : ∀ kd s i, c_rel kd s = true → D kd s i = C kd s i) (h10 : 0 ≤ D 4 10 0) : c_R D n c := by
  refine ⟨?_, ?_, ?_, c_Rk h, ?_, fun j => ?_, fun j => ?_, fun j => ?_, fun i hi => ?_, fun i hi => ?_, fun j hj => ?_, fun i j hi e => ?_, fun i => ?_, fun i => ?_, fun i => ?_, fun i => ?_, fun i => ?_, fun s i h1 h2 => ?_, fun i hi => ?_, fun i hi => ?_, h10⟩
  · rw [he 4 3 0 rfl]; exact c_Rp h
  · rw [he 4 4 0 rfl]; exact c_Rt h
  · rw [he 4 5 0 rfl]; exact c_Rj h
  · rw [he 4 8 0 rfl]; exact c_Rd h
  · rw [he 6 j 0 rfl]; exact c_R6 h j
  · rw [he 7 j 0 rfl]; exact c_R7 h j
  · rw [he 8 j 0 rfl]; exact c_R8 h j
  · rw [he 1 0 i rfl]; exact c_R10 h i hi
  · rw [he 0 1 i rfl]; exact c_R01 h i hi
  · rw [he 0 7 j rfl, c_find_eq (fun k => he 1 0 k rfl)]; exact c_R07 h j hj
  · rw [he 1 6 i rfl, c_find_eq (fun k => he 1 0 k rfl)]; exact c_R16 h i j hi (by rw [← he 1 0 i rfl]; exact e)
  · rw [he 0 2 i rfl]; exact c_R02 h i
  · rw [he 1 2 i rfl]; exact c_R12 h i
  · rw [he 1 4 i rfl]; exact c_R14 h i
  · rw [he 1 5 i rfl]; exact c_R15 h i
  · rw [he 2 3 i rfl]; exact c_R23 h i
  · rw [he 3 s i (by simp [c_rel, h1, h2])]; exact c_R3 h s i h1 h2
  · rw [he 0 0 i rfl]; exact c_R00 h i hi
  · rw [he 2 0 i rfl]; exact c_R20 h i hi
theorem c_S_cg {C D : q_S} {n : Nat → Nat} (h : c_S C n) (he : ∀ kd s i, c_rel kd s = true → D kd s i = C kd s i) : c_S D n := by
  refine ⟨h.1, fun z hz => ⟨?_, (h.2 z hz).2⟩⟩
  rw [he 4 z.1 0, (h.2 z hz).1]
  unfold c_sl at hz
  simp only [List.mem_cons, List.not_mem_nil, or_false] at hz
  rcases hz with rfl | rfl | rfl | rfl | rfl <;> rfl
theorem q_up_rel (C : q_S) {kd s i : Nat} {x : Int} (h : c_rel kd s = false) : ∀ kd' s' i', c_rel kd' s' = true → q_up C kd s i x kd' s' i' = C kd' s' i' := by
  intro a b d hq
  unfold q_up
  rw [if_neg]
  rintro ⟨rfl, rfl, -⟩
  rw [h] at hq
  exact absurd hq (by decide)
theorem c_R.up {C : q_S} {n : Nat → Nat} {c kd s i : Nat} {x : Int} (h : c_R C n c) (hk : c_rel kd s = false) (hn : ¬ (kd = 4 ∧ s = 10)) : c_R (q_up C kd s i x) n c := by
  refine c_R_cg h (q_up_rel C hk) ?_
  unfold q_up
  rw [if_neg (fun q => hn ⟨q.1.symm, q.2.1.symm⟩)]
  exact c_Rn h
theorem c_R.now {C : q_S} {n : Nat → Nat} {c : Nat} {x : Int} (h : c_R C n c) (hx : 0 ≤ x) : c_R (q_up C 4 10 0 x) n c := c_R_cg h (q_up_rel C rfl) hx
theorem c_S.up {C : q_S} {n : Nat → Nat} {kd s i : Nat} {x : Int} (h : c_S C n) (hk : c_rel kd s = false) : c_S (q_up C kd s i x) n := c_S_cg h (q_up_rel C hk)
/-- how many of the first k doubled pages are of a job -/
def c_dn (C : q_S) (a : Int) : Nat → Int
  | 0 => 0
  | k + 1 => if C 9 k 0 = a then c_dn C a k + 1 else c_dn C a k
theorem c_dn_b (C : q_S) (a : Int) (k : Nat) : 0 ≤ c_dn C a k ∧ c_dn C a k ≤ k := by
  induction k with
  | zero => rw [c_dn]; omega
  | succ k ih => rw [c_dn]; split <;> omega
/-- the printers' parts, where the first k printers have lost those of a job -/
def c_ep (C : q_S) (j k : Nat) : q_S := fun kd s i => if kd = 2 ∧ s = 4 ∧ i < k ∧ ¬ C 2 4 i = 0 ∧ C 1 0 (C 2 4 i - 1).toNat = (j : Int) + 1 then 0 else C kd s i
theorem c_ep_0 (C : q_S) (j : Nat) : c_ep C j 0 = C := by
  funext a b d
  unfold c_ep
  rw [if_neg]
  rintro ⟨-, -, h, -⟩
  omega
theorem c_ep_k (C : q_S) (j k : Nat) : c_ep C j k 2 4 k = C 2 4 k := by
  unfold c_ep
  rw [if_neg]
  rintro ⟨-, -, h, -⟩
  omega
theorem c_ep_y {C : q_S} {j k : Nat} (h1 : ¬ C 2 4 k = 0) (h2 : C 1 0 (C 2 4 k - 1).toNat = (j : Int) + 1) : q_up (c_ep C j k) 2 4 k 0 = c_ep C j (k + 1) := by
  funext a b d
  unfold q_up c_ep
  by_cases h : a = 2 ∧ b = 4 ∧ d = k
  · rw [if_pos h]
    obtain ⟨rfl, rfl, rfl⟩ := h
    rw [if_pos ⟨rfl, rfl, by omega, h1, h2⟩]
  · rw [if_neg h]
    by_cases q : a = 2 ∧ b = 4 ∧ d < k ∧ ¬ C 2 4 d = 0 ∧ C 1 0 (C 2 4 d - 1).toNat = (j : Int) + 1
    · rw [if_pos q, if_pos ⟨q.1, q.2.1, by omega, q.2.2.2⟩]
    · rw [if_neg q, if_neg]
      rintro ⟨q1, q2, q3, q4⟩
      exact q ⟨q1, q2, by have : ¬ d = k := fun e => h ⟨q1, q2, e⟩; omega, q4⟩
theorem c_ep_n {C : q_S} {j k : Nat} (h : C 2 4 k = 0 ∨ ¬ C 1 0 (C 2 4 k - 1).toNat = (j : Int) + 1) : c_ep C j k = c_ep C j (k + 1) := by
  funext a b d
  unfold c_ep
  by_cases q : a = 2 ∧ b = 4 ∧ d < k ∧ ¬ C 2 4 d = 0 ∧ C 1 0 (C 2 4 d - 1).toNat = (j : Int) + 1
  · rw [if_pos q, if_pos ⟨q.1, q.2.1, by omega, q.2.2.2⟩]
  · rw [if_neg q, if_neg]
    rintro ⟨q1, q2, q3, q4, q5⟩
    by_cases e : d = k
    · subst e
      rcases h with h | h
      · exact q4 h
      · exact h q5
    · exact q ⟨q1, q2, by omega, q4, q5⟩
theorem c_ep_rel (C : q_S) (j k : Nat) : ∀ kd s i, c_rel kd s = true → c_ep C j k kd s i = C kd s i := by
  intro a b d h
  unfold c_ep
  rw [if_neg]
  rintro ⟨rfl, rfl, -⟩
  exact absurd h (by decide)
theorem q_rf_inj {g : q_G} {s0 : Nat} {n : Nat → Nat} {ad : Nat → Nat → Nat} {C : q_S} {H : Heap} (hP : q_P g s0 n ad C H) {kd i j : Nat} (hi : i < n kd) (hj : j < n kd) (h : some (ad kd i) = some (ad kd j)) : i = j := (hP.2.1 kd i kd j hi hj (Option.some.inj h)).2
def tX4_take (n : Nat → Nat) (ad : Nat → Nat → Nat) (C : q_S) (a y : Int) (r : Int32) (u : q_U) : Prop :=
  ((1 ≤ a ∧ a ≤ (n 2 : Int)) ∧ ((C 4 10 0) ≤ y) ∧ ((C 2 4 ((a - 1).toNat)) = 0) ∧ ((c_ch (q_up C 4 10 0 y) n ((a - 1).toNat) 60) = 0) ∧ u = (n, ad, q_up C 4 10 0 y) ∧ r = iI (0)) ∨
  ((1 ≤ a ∧ a ≤ (n 2 : Int)) ∧ ((C 4 10 0) ≤ y) ∧ ((C 2 4 ((a - 1).toNat)) = 0) ∧ (¬ (c_ch (q_up C 4 10 0 y) n ((a - 1).toNat) 60) = 0) ∧ ((C 3 0 ((C 0 1 ((C 1 0 (((c_ch (q_up C 4 10 0 y) n ((a - 1).toNat) 60) - 1).toNat) - 1).toNat) - 1).toNat)) = (C 2 2 ((a - 1).toNat))) ∧ u = (n, ad, q_up (q_up (q_up (q_up (q_up C 4 10 0 y) 2 3 (((a - 1).toNat)) (((C 2 3 ((a - 1).toNat)) + (1)))) 1 3 ((((c_ch (q_up C 4 10 0 y) n ((a - 1).toNat) 60) - 1).toNat)) ((1))) 2 4 (((a - 1).toNat)) ((((((c_ch (q_up C 4 10 0 y) n ((a - 1).toNat) 60) - 1).toNat) : Nat) : Int) + 1)) 2 5 (((a - 1).toNat)) ((1))) ∧ r = iI (C 0 0 ((C 1 0 (((c_ch (q_up C 4 10 0 y) n ((a - 1).toNat) 60) - 1).toNat) - 1).toNat))) ∨
  ((1 ≤ a ∧ a ≤ (n 2 : Int)) ∧ ((C 4 10 0) ≤ y) ∧ ((C 2 4 ((a - 1).toNat)) = 0) ∧ (¬ (c_ch (q_up C 4 10 0 y) n ((a - 1).toNat) 60) = 0) ∧ (¬ (C 3 0 ((C 0 1 ((C 1 0 (((c_ch (q_up C 4 10 0 y) n ((a - 1).toNat) 60) - 1).toNat) - 1).toNat) - 1).toNat)) = (C 2 2 ((a - 1).toNat))) ∧ u = (n, ad, q_up (q_up (q_up (q_up (q_up (q_up (q_up C 4 10 0 y) 2 2 (((a - 1).toNat)) ((C 3 0 ((C 0 1 ((C 1 0 (((c_ch (q_up C 4 10 0 y) n ((a - 1).toNat) 60) - 1).toNat) - 1).toNat) - 1).toNat)))) 2 3 (((a - 1).toNat)) ((0))) 3 4 ((C 0 1 ((C 1 0 (((c_ch (q_up C 4 10 0 y) n ((a - 1).toNat) 60) - 1).toNat) - 1).toNat) - 1).toNat) (((C 3 4 ((C 0 1 ((C 1 0 (((c_ch (q_up C 4 10 0 y) n ((a - 1).toNat) 60) - 1).toNat) - 1).toNat) - 1).toNat)) + (1)))) 1 3 ((((c_ch (q_up C 4 10 0 y) n ((a - 1).toNat) 60) - 1).toNat)) ((1))) 2 4 (((a - 1).toNat)) ((((((c_ch (q_up C 4 10 0 y) n ((a - 1).toNat) 60) - 1).toNat) : Nat) : Int) + 1)) 2 5 (((a - 1).toNat)) ((1))) ∧ r = iI (C 0 0 ((C 1 0 (((c_ch (q_up C 4 10 0 y) n ((a - 1).toNat) 60) - 1).toNat) - 1).toNat)))
def xX4_take (n : Nat → Nat) (C : q_S) (a y : Int) (E : String) : Prop :=
  (x_find (n 2) a E) ∨
  (E = "java/lang/IllegalStateException" ∧ (1 ≤ a ∧ a ≤ (n 2 : Int)) ∧ ((C 4 10 0) ≤ y) ∧ (¬ (C 2 4 ((a - 1).toNat)) = 0)) ∨
  (E = "java/lang/IllegalArgumentException" ∧ (1 ≤ a ∧ a ≤ (n 2 : Int)) ∧ (y < (C 4 10 0)))
set_option maxHeartbeats 4000000 in
set_option maxRecDepth 100000 in
theorem c_X4_take (l : Launch) (htr : l.stackTraces = false) (g : q_G) (s0 : Nat) (n : Nat → Nat) (ad : Nat → Nat → Nat) (C : q_S) (c0 : Nat) (hC : c_S C n) (hR : c_R C n c0) (hc0 : c0 ≤ 511) (a y : Int) (ha : R32 a) (hy : R64 y)  : vx_Met l yX4_take wsX4_take ({ frames := 7, cells := 2, slots := 12, locals := 112 }) (va_Pc [.ref (ad 4 0), .int (iI a), .long (jI y)] (q_B g s0 (n, ad, C))) (va_Qi (tX4_take n ad C a y) (q_B g s0) (q_A s0)) (q_XC g s0 (n, ad, C) (xX4_take n C a y)) 2 12 (q_A s0) := by
  refine vx_ofW (cc := cX4_take) (maxL := 6) (ret := (some .int)) (by decide) rfl ?_
  intro p e s m args below meth c s₁ B hml hnx hv
  obtain ⟨rfl, hv⟩ := hv
  have hr := B.returns
  have hlocks := B.notSynchronized
  obtain ⟨X, hP⟩ := q_start B.exec B.bytes hml (show s.vm.findClass RX4 = some m.cls from findClass_of_methodNamed B.named) (atoms_spec (ws := wsX4_take) B.pre) hv
  have hP : q_P g s0 n ad C s.heap := hP
  have hS : va_S (q_A s0) s.heap s.heap [] := va_S.rf
  have in0 : ∀ w ∈ wsX00, w ∈ wsX4_take := by decide +kernel
  have in1 : ∀ w ∈ wsX10, w ∈ wsX4_take := by decide +kernel
  have in2 : ∀ w ∈ wsX20, w ∈ wsX4_take := by decide +kernel
  have in3 : ∀ w ∈ wsX30, w ∈ wsX4_take := by decide +kernel
  have in4 : ∀ w ∈ wsX40, w ∈ wsX4_take := by decide +kernel
  have f9 := c_Rn hR
  have hl := lv_entry ([.ref (ad 4 0), .int (iI a), .long (jI y)]) (n := 6) (Nat.le_of_ble_eq_true rfl)
  rw [lg_entry_eq]
  generalize (lg_sl ([.ref (ad 4 0), .int (iI a), .long (jI y)]) ++ List.replicate (6 - (lg_sl ([.ref (ad 4 0), .int (iI a), .long (jI y)])).length) Slot.unset).toArray = ls at hl ⊢
  have hl : lv_has ls 6 [(0, .ref (ad 4 0)), (1, .int (iI a)), (2, .long (jI y))] := hl
  refine lv_aload_n X.1 X.2.1 dX4_take_0 rfl (lv_at hl 0 rfl) ?_
  refine lv_iload_n X.1 X.2.1 dX4_take_1 rfl (lv_at hl 1 rfl) ?_
  refine vx_callq (vx_runV (As := [.int (iI a)]) (rest := []) X.fix (c_X4_findPrinter l htr g s0 n ad C c0 hC hR a ha) (cwV 1 X.2.2.2.2.1 gX4_take_X4_findPrinter rfl rfl rfl (by decide +kernel) ⟨Nat.le_of_ble_eq_true rfl, Nat.le_of_ble_eq_true rfl⟩) (q_preV X hP hS [.int (iI a)] (kd := 4) (by decide) rfl (c_v4 hC)) rfl rfl hl.1 rfl (lv_room (Nat.le_of_ble_eq_true rfl)) dX4_take_2 ⟨Nat.le_of_ble_eq_true rfl, Nat.le_of_ble_eq_true rfl⟩) hS q_id q_id1 q_id ?_ (fun r u t H locs ht hvm hw hB hz1 hk1 hS => ?_)
  · intro E ce q9 u t H locs ht hvm hpx hBX hz1 hk1 hS hce hcv hcl
    exact q_xout X hnx hlocks hBX ht hS hce hcv hcl (fun hxe => Or.inl (hxe)) (Nat.le_of_ble_eq_true rfl) (Nat.le_of_ble_eq_true rfl)
  · obtain ⟨rfl, h_1, rfl⟩ := hw
    have hP : q_P g s0 n ad (C) H := q_back hB ht
    rw [show va_rf (some (ad 2 ((a - 1).toNat))) = .ref (ad 2 ((a - 1).toNat)) from rfl]
    refine lv_astore (lv' := [(4, .ref (ad 2 ((a - 1).toNat))), (0, .ref (ad 4 0)), (1, .int (iI a)), (2, .long (jI y))]) X.1 X.2.1 dX4_take_5 hl (by decide) rfl (fun ls hl => ?_)
    refine lv_lload_n X.1 X.2.1 dX4_take_7 rfl (lv_at hl 3 rfl) ?_
    refine lv_aload_n X.1 X.2.1 dX4_take_8 rfl (lv_at hl 1 rfl) ?_
    refine q_get (index := 83) (v := .long (jI (C 4 10 0))) X hP 4 10 0 rfl rfl (by decide) in4 (c_v4 hC) (by decide) (by decide +kernel) rfl dX4_take_9 ?_
    have f_2 := c_Rn hR
    refine q_lcmp_ge (tgt := 24) X hy (hP.tok 4 10 0 rfl) dX4_take_12 dX4_take_13 (by decide) (fun h_3 => ?_) (fun h_3 => ?_)
    · refine lv_aload X.1 X.2.1 dX4_take_24 (lv_at hl 0 rfl) ?_
      refine q_get (index := 87) (v := va_rf (q_rf ad 1 (C 2 4 ((a - 1).toNat)))) X hP 2 4 ((a - 1).toNat) rfl rfl (by decide) in2 (show (a - 1).toNat < n 2 by omega) (by decide) (by decide +kernel) rfl dX4_take_26 ?_
      by_cases h_4 : (C 2 4 ((a - 1).toNat)) = 0
      · rw [q_rf0 ad 1 h_4]
        refine lv_ifnullN (tgt := 40) X.1 X.2.1 dX4_take_29 (by decide) ?_
        refine lv_aload_n X.1 X.2.1 dX4_take_40 rfl (lv_at hl 1 rfl) ?_
        refine lv_lload_n X.1 X.2.1 dX4_take_41 rfl (lv_at hl 3 rfl) ?_
        refine q_put (index := 83) (v := .long (jI y)) X hP hS 4 10 0 y rfl rfl (by decide) in4 tyX4 tyX4_ok nmX4 (c_v4 hC) (by decide) (by decide +kernel) rfl rfl rfl rfl (show R64 _ from hy) dX4_take_42 (fun H locs hP hS => ?_)
        have hP : q_P g s0 n ad (q_up C 4 10 0 y) H := hP
        refine lv_aload_n X.1 X.2.1 dX4_take_45 rfl (lv_at hl 1 rfl) ?_
        refine lv_aload X.1 X.2.1 dX4_take_46 (lv_at hl 0 rfl) ?_
        refine va_callq (va_runV (As := [.ref (ad 2 ((a - 1).toNat))]) (rest := []) X.fix (c_X4_choosePart l g s0 n ad (q_up C 4 10 0 y) c0 (hC.up rfl) (hR.now (by omega)) ((a - 1).toNat) (show (a - 1).toNat < n 2 by omega)) (cwV 1 X.2.2.2.2.1 gX4_take_X4_choosePart rfl rfl rfl (by decide +kernel) ⟨Nat.le_of_ble_eq_true rfl, Nat.le_of_ble_eq_true rfl⟩) (q_preV X hP hS [.ref (ad 2 ((a - 1).toNat))] (kd := 4) (by decide) rfl (c_v4 hC)) rfl rfl hl.1 rfl (lv_room (Nat.le_of_ble_eq_true rfl)) dX4_take_48 ⟨Nat.le_of_ble_eq_true rfl, Nat.le_of_ble_eq_true rfl⟩) hS q_id q_id1 (fun r u t H locs ht hvm hw hB hz1 hk1 hS => ?_)
        obtain ⟨rfl, rfl⟩ := hw
        have hP : q_P g s0 n ad (q_up C 4 10 0 y) H := q_back hB ht
        by_cases h_5 : (c_ch (q_up C 4 10 0 y) n ((a - 1).toNat) 60) = 0
        · rw [q_rf0 ad 1 h_5]
          refine lv_astoreN (lv' := [(5, .null), (4, .ref (ad 2 ((a - 1).toNat))), (0, .ref (ad 4 0)), (1, .int (iI a)), (2, .long (jI y))]) X.1 X.2.1 dX4_take_51 hl (by decide) rfl (fun ls hl => ?_)
          refine lv_aloadN X.1 X.2.1 dX4_take_53 (lv_at hl 0 rfl) ?_
          refine lv_ifnonnullN X.1 X.2.1 dX4_take_55 ?_
          refine lv_iconst (v := iI (0)) X.1 X.2.1 dX4_take_58 rfl ?_
          refine vx_ret ?_
          exact q_iret X hr hlocks hP hS (Or.inl (⟨h_1, h_3, h_4, h_5, rfl, rfl⟩)) (Nat.le_of_ble_eq_true rfl) (Nat.le_of_ble_eq_true rfl) dX4_take_59
        · rw [q_rf1 ad 1 h_5]
          have vh_5 : ((c_ch (q_up C 4 10 0 y) n ((a - 1).toNat) 60) - 1).toNat < n 1 := by have := c_ch_b (q_up C 4 10 0 y) n ((a - 1).toNat) 60; omega
          refine lv_astore (lv' := [(5, .ref (ad 1 (((c_ch (q_up C 4 10 0 y) n ((a - 1).toNat) 60) - 1).toNat))), (4, .ref (ad 2 ((a - 1).toNat))), (0, .ref (ad 4 0)), (1, .int (iI a)), (2, .long (jI y))]) X.1 X.2.1 dX4_take_51 hl (by decide) rfl (fun ls hl => ?_)
          refine lv_aload X.1 X.2.1 dX4_take_53 (lv_at hl 0 rfl) ?_
          refine lv_ifnonnull (tgt := 60) X.1 X.2.1 dX4_take_55 (by decide) ?_
          refine lv_aload X.1 X.2.1 dX4_take_60 (lv_at hl 1 rfl) ?_
          refine lv_aload X.1 X.2.1 dX4_take_62 (lv_at hl 0 rfl) ?_
          refine va_callv (va_runS (As := [.ref (ad 2 ((a - 1).toNat)), .ref (ad 1 (((c_ch (q_up C 4 10 0 y) n ((a - 1).toNat) 60) - 1).toNat))]) (rest := []) X.fix (c_X4_bringTo l g s0 n ad (q_up C 4 10 0 y) c0 (hR.now (by omega)) (by omega) ((a - 1).toNat) (show (a - 1).toNat < n 2 by omega) (((c_ch (q_up C 4 10 0 y) n ((a - 1).toNat) 60) - 1).toNat) vh_5) (va_cwS 2 X.2.2.2.2.1 gX4_take_X4_bringTo rfl rfl rfl (by decide +kernel) ⟨Nat.le_of_ble_eq_true rfl, Nat.le_of_ble_eq_true rfl⟩) (q_preS X hP hS _) rfl rfl hl.1 rfl (lv_room (Nat.le_of_ble_eq_true rfl)) dX4_take_64 ⟨Nat.le_of_ble_eq_true rfl, Nat.le_of_ble_eq_true rfl⟩) hS q_id q_id1 (fun u t H locs ht hvm hw hB hz1 hk1 hS => ?_)
          rcases hw with ⟨h_6_0, rfl⟩ | ⟨h_6_0, rfl⟩
          · have h_6_0 : (C 3 0 ((C 0 1 ((C 1 0 (((c_ch (q_up C 4 10 0 y) n ((a - 1).toNat) 60) - 1).toNat) - 1).toNat) - 1).toNat)) = (C 2 2 ((a - 1).toNat)) := h_6_0
            have hP : q_P g s0 n ad (q_up (q_up (q_up (q_up (q_up C 4 10 0 y) 2 3 (((a - 1).toNat)) (((C 2 3 ((a - 1).toNat)) + (1)))) 1 3 ((((c_ch (q_up C 4 10 0 y) n ((a - 1).toNat) 60) - 1).toNat)) ((1))) 2 4 (((a - 1).toNat)) ((((((c_ch (q_up C 4 10 0 y) n ((a - 1).toNat) 60) - 1).toNat) : Nat) : Int) + 1)) 2 5 (((a - 1).toNat)) ((1))) H := q_back hB ht
            refine lv_aload X.1 X.2.1 dX4_take_67 (lv_at hl 0 rfl) ?_
            refine q_get (index := 101) (v := .ref (ad 0 ((C 1 0 (((c_ch (q_up C 4 10 0 y) n ((a - 1).toNat) 60) - 1).toNat) - 1).toNat))) X hP 1 0 (((c_ch (q_up C 4 10 0 y) n ((a - 1).toNat) 60) - 1).toNat) rfl rfl (by decide) in1 vh_5 (by decide) (by decide +kernel) (q_vnn ad 0 (c_jn hR (((c_ch (q_up C 4 10 0 y) n ((a - 1).toNat) 60) - 1).toNat) vh_5)) dX4_take_69 ?_
            refine q_get (index := 105) (v := .int (iI (C 0 0 ((C 1 0 (((c_ch (q_up C 4 10 0 y) n ((a - 1).toNat) 60) - 1).toNat) - 1).toNat)))) X hP 0 0 ((C 1 0 (((c_ch (q_up C 4 10 0 y) n ((a - 1).toNat) 60) - 1).toNat) - 1).toNat) rfl rfl (by decide) in0 (q_rfl (hP.tok 1 0 (((c_ch (q_up C 4 10 0 y) n ((a - 1).toNat) 60) - 1).toNat) rfl) (c_jn hR (((c_ch (q_up C 4 10 0 y) n ((a - 1).toNat) 60) - 1).toNat) vh_5)) (by decide) (by decide +kernel) rfl dX4_take_72 ?_
            refine vx_ret ?_
            exact q_iret X hr hlocks hP hS (Or.inr (Or.inl (⟨h_1, h_3, h_4, h_5, h_6_0, rfl, rfl⟩))) (Nat.le_of_ble_eq_true rfl) (Nat.le_of_ble_eq_true rfl) dX4_take_75
          · have h_6_0 : ¬ (C 3 0 ((C 0 1 ((C 1 0 (((c_ch (q_up C 4 10 0 y) n ((a - 1).toNat) 60) - 1).toNat) - 1).toNat) - 1).toNat)) = (C 2 2 ((a - 1).toNat)) := h_6_0
            have hP : q_P g s0 n ad (q_up (q_up (q_up (q_up (q_up (q_up (q_up C 4 10 0 y) 2 2 (((a - 1).toNat)) ((C 3 0 ((C 0 1 ((C 1 0 (((c_ch (q_up C 4 10 0 y) n ((a - 1).toNat) 60) - 1).toNat) - 1).toNat) - 1).toNat)))) 2 3 (((a - 1).toNat)) ((0))) 3 4 ((C 0 1 ((C 1 0 (((c_ch (q_up C 4 10 0 y) n ((a - 1).toNat) 60) - 1).toNat) - 1).toNat) - 1).toNat) (((C 3 4 ((C 0 1 ((C 1 0 (((c_ch (q_up C 4 10 0 y) n ((a - 1).toNat) 60) - 1).toNat) - 1).toNat) - 1).toNat)) + (1)))) 1 3 ((((c_ch (q_up C 4 10 0 y) n ((a - 1).toNat) 60) - 1).toNat)) ((1))) 2 4 (((a - 1).toNat)) ((((((c_ch (q_up C 4 10 0 y) n ((a - 1).toNat) 60) - 1).toNat) : Nat) : Int) + 1)) 2 5 (((a - 1).toNat)) ((1))) H := q_back hB ht
            refine lv_aload X.1 X.2.1 dX4_take_67 (lv_at hl 0 rfl) ?_
            refine q_get (index := 101) (v := .ref (ad 0 ((C 1 0 (((c_ch (q_up C 4 10 0 y) n ((a - 1).toNat) 60) - 1).toNat) - 1).toNat))) X hP 1 0 (((c_ch (q_up C 4 10 0 y) n ((a - 1).toNat) 60) - 1).toNat) rfl rfl (by decide) in1 vh_5 (by decide) (by decide +kernel) (q_vnn ad 0 (c_jn hR (((c_ch (q_up C 4 10 0 y) n ((a - 1).toNat) 60) - 1).toNat) vh_5)) dX4_take_69 ?_
            refine q_get (index := 105) (v := .int (iI (C 0 0 ((C 1 0 (((c_ch (q_up C 4 10 0 y) n ((a - 1).toNat) 60) - 1).toNat) - 1).toNat)))) X hP 0 0 ((C 1 0 (((c_ch (q_up C 4 10 0 y) n ((a - 1).toNat) 60) - 1).toNat) - 1).toNat) rfl rfl (by decide) in0 (q_rfl (hP.tok 1 0 (((c_ch (q_up C 4 10 0 y) n ((a - 1).toNat) 60) - 1).toNat) rfl) (c_jn hR (((c_ch (q_up C 4 10 0 y) n ((a - 1).toNat) 60) - 1).toNat) vh_5)) (by decide) (by decide +kernel) rfl dX4_take_72 ?_
            refine vx_ret ?_
            exact q_iret X hr hlocks hP hS (Or.inr (Or.inr (⟨h_1, h_3, h_4, h_5, h_6_0, rfl, rfl⟩))) (Nat.le_of_ble_eq_true rfl) (Nat.le_of_ble_eq_true rfl) dX4_take_75
      · rw [q_rf1 ad 1 h_4]
        have vh_4 : ((C 2 4 ((a - 1).toNat)) - 1).toNat < n 1 := q_rfl (hP.tok 2 4 ((a - 1).toNat) rfl) h_4
        refine lv_ifnull X.1 X.2.1 dX4_take_29 ?_
        exact q_throw X htr hnx hlocks (cls := "java/lang/IllegalStateException") (ik := 90) (ic := 92) (by decide) (by decide +kernel) (by decide +kernel) (by decide +kernel) xb_92 xg_90_92 hP hS hl.1 dX4_take_32 dX4_take_35 dX4_take_36 dX4_take_39 (Nat.le_of_ble_eq_true rfl) (Nat.le_of_ble_eq_true rfl) (Nat.le_of_ble_eq_true rfl) (Nat.le_of_ble_eq_true rfl) (Or.inr (Or.inl (⟨rfl, h_1, h_3, h_4⟩))) (Nat.le_of_ble_eq_true rfl) (Nat.le_of_ble_eq_true rfl)
    · exact q_throw X htr hnx hlocks (cls := "java/lang/IllegalArgumentException") (ik := 42) (ic := 44) (by decide) (by decide +kernel) (by decide +kernel) (by decide +kernel) xb_44 xg_42_44 hP hS hl.1 dX4_take_16 dX4_take_19 dX4_take_20 dX4_take_23 (Nat.le_of_ble_eq_true rfl) (Nat.le_of_ble_eq_true rfl) (Nat.le_of_ble_eq_true rfl) (Nat.le_of_ble_eq_true rfl) (Or.inr (Or.inr (⟨rfl, h_1, h_3⟩))) (Nat.le_of_ble_eq_true rfl) (Nat.le_of_ble_eq_true rfl)
def tX4_fault (n : Nat → Nat) (ad : Nat → Nat → Nat) (C : q_S) (a : Int) (r : Int32) (u : q_U) : Prop :=
  ((1 ≤ a ∧ a ≤ (n 2 : Int)) ∧ ((C 2 4 ((a - 1).toNat)) = 0) ∧ u = (n, ad, C) ∧ r = iI (0)) ∨
  ((1 ≤ a ∧ a ≤ (n 2 : Int)) ∧ (¬ (C 2 4 ((a - 1).toNat)) = 0) ∧ ((C 1 5 (((C 2 4 ((a - 1).toNat)) - 1).toNat)) ≤ (0)) ∧ u = (n, ad, q_up (q_up C 2 4 ((a - 1).toNat) ((0))) 1 3 (((C 2 4 ((a - 1).toNat)) - 1).toNat) ((0))) ∧ r = iI ((C 1 5 (((C 2 4 ((a - 1).toNat)) - 1).toNat)) + (1))) ∨
  ((1 ≤ a ∧ a ≤ (n 2 : Int)) ∧ (¬ (C 2 4 ((a - 1).toNat)) = 0) ∧ ((0) < (C 1 5 (((C 2 4 ((a - 1).toNat)) - 1).toNat))) ∧ ((256) ≤ (C 4 8 0)) ∧ u = (n, ad, q_up (q_up (q_up (q_up C 2 4 ((a - 1).toNat) ((0))) 1 3 (((C 2 4 ((a - 1).toNat)) - 1).toNat) ((0))) 1 5 ((((C 2 4 ((a - 1).toNat)) - 1).toNat)) (((C 1 5 (((C 2 4 ((a - 1).toNat)) - 1).toNat)) - (1)))) 3 5 ((C 0 1 ((C 1 0 (((C 2 4 ((a - 1).toNat)) - 1).toNat) - 1).toNat) - 1).toNat) (((C 3 5 ((C 0 1 ((C 1 0 (((C 2 4 ((a - 1).toNat)) - 1).toNat) - 1).toNat) - 1).toNat)) + (1)))) ∧ r = iI (((q_up (q_up (q_up (q_up C 2 4 ((a - 1).toNat) ((0))) 1 3 (((C 2 4 ((a - 1).toNat)) - 1).toNat) ((0))) 1 5 ((((C 2 4 ((a - 1).toNat)) - 1).toNat)) (((C 1 5 (((C 2 4 ((a - 1).toNat)) - 1).toNat)) - (1)))) 3 5 ((C 0 1 ((C 1 0 (((C 2 4 ((a - 1).toNat)) - 1).toNat) - 1).toNat) - 1).toNat) (((C 3 5 ((C 0 1 ((C 1 0 (((C 2 4 ((a - 1).toNat)) - 1).toNat) - 1).toNat) - 1).toNat)) + (1)))) 1 5 (((C 2 4 ((a - 1).toNat)) - 1).toNat)) + (1))) ∨
  ((1 ≤ a ∧ a ≤ (n 2 : Int)) ∧ (¬ (C 2 4 ((a - 1).toNat)) = 0) ∧ ((0) < (C 1 5 (((C 2 4 ((a - 1).toNat)) - 1).toNat))) ∧ ((C 4 8 0) < (256)) ∧ u = (n, ad, q_up (q_up (q_up (q_up (q_up (q_up (q_up C 2 4 ((a - 1).toNat) ((0))) 1 3 (((C 2 4 ((a - 1).toNat)) - 1).toNat) ((0))) 9 (((C 4 8 0)).toNat) 0 ((C 0 0 ((C 1 0 (((C 2 4 ((a - 1).toNat)) - 1).toNat) - 1).toNat)))) 10 (((C 4 8 0)).toNat) 0 ((((1000) * ((C 1 4 (((C 2 4 ((a - 1).toNat)) - 1).toNat)) + (1))) + (C 1 5 (((C 2 4 ((a - 1).toNat)) - 1).toNat))))) 4 8 0 (((C 4 8 0) + (1)))) 1 5 ((((C 2 4 ((a - 1).toNat)) - 1).toNat)) (((C 1 5 (((C 2 4 ((a - 1).toNat)) - 1).toNat)) - (1)))) 3 5 ((C 0 1 ((C 1 0 (((C 2 4 ((a - 1).toNat)) - 1).toNat) - 1).toNat) - 1).toNat) (((C 3 5 ((C 0 1 ((C 1 0 (((C 2 4 ((a - 1).toNat)) - 1).toNat) - 1).toNat) - 1).toNat)) + (1)))) ∧ r = iI (((q_up (q_up (q_up (q_up (q_up (q_up (q_up C 2 4 ((a - 1).toNat) ((0))) 1 3 (((C 2 4 ((a - 1).toNat)) - 1).toNat) ((0))) 9 (((C 4 8 0)).toNat) 0 ((C 0 0 ((C 1 0 (((C 2 4 ((a - 1).toNat)) - 1).toNat) - 1).toNat)))) 10 (((C 4 8 0)).toNat) 0 ((((1000) * ((C 1 4 (((C 2 4 ((a - 1).toNat)) - 1).toNat)) + (1))) + (C 1 5 (((C 2 4 ((a - 1).toNat)) - 1).toNat))))) 4 8 0 (((C 4 8 0) + (1)))) 1 5 ((((C 2 4 ((a - 1).toNat)) - 1).toNat)) (((C 1 5 (((C 2 4 ((a - 1).toNat)) - 1).toNat)) - (1)))) 3 5 ((C 0 1 ((C 1 0 (((C 2 4 ((a - 1).toNat)) - 1).toNat) - 1).toNat) - 1).toNat) (((C 3 5 ((C 0 1 ((C 1 0 (((C 2 4 ((a - 1).toNat)) - 1).toNat) - 1).toNat) - 1).toNat)) + (1)))) 1 5 (((C 2 4 ((a - 1).toNat)) - 1).toNat)) + (1)))
def xX4_fault (n : Nat → Nat) (C : q_S) (a : Int) (E : String) : Prop :=
  (x_find (n 2) a E)
set_option maxHeartbeats 4000000 in
set_option maxRecDepth 100000 in
theorem c_X4_fault (l : Launch) (htr : l.stackTraces = false) (g : q_G) (s0 : Nat) (n : Nat → Nat) (ad : Nat → Nat → Nat) (C : q_S) (c0 : Nat) (hC : c_S C n) (hR : c_R C n c0) (hc0 : c0 ≤ 511) (a : Int) (ha : R32 a)  : vx_Met l yX4_fault wsX4_fault ({ frames := 7, cells := 1, slots := 6, locals := 112 }) (va_Pc [.ref (ad 4 0), .int (iI a)] (q_B g s0 (n, ad, C))) (va_Qi (tX4_fault n ad C a) (q_B g s0) (q_A s0)) (q_XC g s0 (n, ad, C) (xX4_fault n C a)) 1 6 (q_A s0) := by
  refine vx_ofW (cc := cX4_fault) (maxL := 4) (ret := (some .int)) (by decide) rfl ?_
  intro p e s m args below meth c s₁ B hml hnx hv
  obtain ⟨rfl, hv⟩ := hv
  have hr := B.returns
  have hlocks := B.notSynchronized
  obtain ⟨X, hP⟩ := q_start B.exec B.bytes hml (show s.vm.findClass RX4 = some m.cls from findClass_of_methodNamed B.named) (atoms_spec (ws := wsX4_fault) B.pre) hv
  have hP : q_P g s0 n ad C s.heap := hP
  have hS : va_S (q_A s0) s.heap s.heap [] := va_S.rf
  have in1 : ∀ w ∈ wsX10, w ∈ wsX4_fault := by decide +kernel
  have in2 : ∀ w ∈ wsX20, w ∈ wsX4_fault := by decide +kernel
  have in4 : ∀ w ∈ wsX40, w ∈ wsX4_fault := by decide +kernel
  have hl := lv_entry ([.ref (ad 4 0), .int (iI a)]) (n := 4) (Nat.le_of_ble_eq_true rfl)
  rw [lg_entry_eq]
  generalize (lg_sl ([.ref (ad 4 0), .int (iI a)]) ++ List.replicate (4 - (lg_sl ([.ref (ad 4 0), .int (iI a)])).length) Slot.unset).toArray = ls at hl ⊢
  have hl : lv_has ls 4 [(0, .ref (ad 4 0)), (1, .int (iI a))] := hl
  refine lv_aload_n X.1 X.2.1 dX4_fault_0 rfl (lv_at hl 0 rfl) ?_
  refine lv_iload_n X.1 X.2.1 dX4_fault_1 rfl (lv_at hl 1 rfl) ?_
  refine vx_callq (vx_runV (As := [.int (iI a)]) (rest := []) X.fix (c_X4_findPrinter l htr g s0 n ad C c0 hC hR a ha) (cwV 1 X.2.2.2.2.1 gX4_fault_X4_findPrinter rfl rfl rfl (by decide +kernel) ⟨Nat.le_of_ble_eq_true rfl, Nat.le_of_ble_eq_true rfl⟩) (q_preV X hP hS [.int (iI a)] (kd := 4) (by decide) rfl (c_v4 hC)) rfl rfl hl.1 rfl (lv_room (Nat.le_of_ble_eq_true rfl)) dX4_fault_2 ⟨Nat.le_of_ble_eq_true rfl, Nat.le_of_ble_eq_true rfl⟩) hS q_id q_id1 q_id ?_ (fun r u t H locs ht hvm hw hB hz1 hk1 hS => ?_)
  · intro E ce q9 u t H locs ht hvm hpx hBX hz1 hk1 hS hce hcv hcl
    exact q_xout X hnx hlocks hBX ht hS hce hcv hcl (fun hxe => hxe) (Nat.le_of_ble_eq_true rfl) (Nat.le_of_ble_eq_true rfl)
  · obtain ⟨rfl, h_1, rfl⟩ := hw
    have hP : q_P g s0 n ad (C) H := q_back hB ht
    rw [show va_rf (some (ad 2 ((a - 1).toNat))) = .ref (ad 2 ((a - 1).toNat)) from rfl]
    refine lv_astore_n (lv' := [(2, .ref (ad 2 ((a - 1).toNat))), (0, .ref (ad 4 0)), (1, .int (iI a))]) X.1 X.2.1 dX4_fault_5 rfl hl (by decide) rfl (fun ls hl => ?_)
    refine lv_aload_n X.1 X.2.1 dX4_fault_6 rfl (lv_at hl 0 rfl) ?_
    refine q_get (index := 87) (v := va_rf (q_rf ad 1 (C 2 4 ((a - 1).toNat)))) X hP 2 4 ((a - 1).toNat) rfl rfl (by decide) in2 (show (a - 1).toNat < n 2 by omega) (by decide) (by decide +kernel) rfl dX4_fault_7 ?_
    by_cases h_2 : (C 2 4 ((a - 1).toNat)) = 0
    · rw [q_rf0 ad 1 h_2]
      refine lv_astore_nN (lv' := [(3, .null), (2, .ref (ad 2 ((a - 1).toNat))), (0, .ref (ad 4 0)), (1, .int (iI a))]) X.1 X.2.1 dX4_fault_10 rfl hl (by decide) rfl (fun ls hl => ?_)
      refine lv_aload_nN X.1 X.2.1 dX4_fault_11 rfl (lv_at hl 0 rfl) ?_
      refine lv_ifnonnullN X.1 X.2.1 dX4_fault_12 ?_
      refine lv_iconst (v := iI (0)) X.1 X.2.1 dX4_fault_15 rfl ?_
      refine vx_ret ?_
      exact q_iret X hr hlocks hP hS (Or.inl (⟨h_1, h_2, rfl, rfl⟩)) (Nat.le_of_ble_eq_true rfl) (Nat.le_of_ble_eq_true rfl) dX4_fault_16
    · rw [q_rf1 ad 1 h_2]
      have vh_2 : ((C 2 4 ((a - 1).toNat)) - 1).toNat < n 1 := q_rfl (hP.tok 2 4 ((a - 1).toNat) rfl) h_2
      refine lv_astore_n (lv' := [(3, .ref (ad 1 (((C 2 4 ((a - 1).toNat)) - 1).toNat))), (2, .ref (ad 2 ((a - 1).toNat))), (0, .ref (ad 4 0)), (1, .int (iI a))]) X.1 X.2.1 dX4_fault_10 rfl hl (by decide) rfl (fun ls hl => ?_)
      refine lv_aload_n X.1 X.2.1 dX4_fault_11 rfl (lv_at hl 0 rfl) ?_
      refine lv_ifnonnull (tgt := 17) X.1 X.2.1 dX4_fault_12 (by decide) ?_
      refine lv_aload_n X.1 X.2.1 dX4_fault_17 rfl (lv_at hl 1 rfl) ?_
      refine lv_null X.1 X.2.1 dX4_fault_18 ?_
      refine q_put (index := 87) (v := .null) X hP hS 2 4 ((a - 1).toNat) ((0)) rfl rfl (by decide) in2 tyX2 tyX2_ok nmX2 (show (a - 1).toNat < n 2 by omega) (by decide) (by decide +kernel) rfl rfl rfl rfl (q_t0 _ _) dX4_fault_19 (fun H locs hP hS => ?_)
      have hP : q_P g s0 n ad (q_up C 2 4 ((a - 1).toNat) ((0))) H := hP
      refine lv_aload_n X.1 X.2.1 dX4_fault_22 rfl (lv_at hl 0 rfl) ?_
      refine lv_iconst (v := iI (0)) X.1 X.2.1 dX4_fault_23 rfl ?_
      refine q_put (index := 119) (v := .int (iI (0))) X hP hS 1 3 (((C 2 4 ((a - 1).toNat)) - 1).toNat) ((0)) rfl rfl (by decide) in1 tyX1 tyX1_ok nmX1 vh_2 (by decide) (by decide +kernel) rfl rfl rfl rfl (show R32 _ from (by decide)) dX4_fault_24 (fun H locs hP hS => ?_)
      have hP : q_P g s0 n ad (q_up (q_up C 2 4 ((a - 1).toNat) ((0))) 1 3 (((C 2 4 ((a - 1).toNat)) - 1).toNat) ((0))) H := hP
      refine lv_aload_n X.1 X.2.1 dX4_fault_27 rfl (lv_at hl 0 rfl) ?_
      refine q_get (index := 122) (v := .int (iI (C 1 5 (((C 2 4 ((a - 1).toNat)) - 1).toNat)))) X hP 1 5 (((C 2 4 ((a - 1).toNat)) - 1).toNat) rfl rfl (by decide) in1 vh_2 (by decide) (by decide +kernel) rfl dX4_fault_28 ?_
      have f_3 := c_R15 hR (((C 2 4 ((a - 1).toNat)) - 1).toNat)
      refine q_if_le (tgt := 39) X (hP.tok 1 5 (((C 2 4 ((a - 1).toNat)) - 1).toNat) rfl) dX4_fault_31 (by decide) (fun h_4 => ?_) (fun h_4 => ?_)
      · refine lv_aload_n X.1 X.2.1 dX4_fault_39 rfl (lv_at hl 0 rfl) ?_
        refine q_get (index := 122) (v := .int (iI (C 1 5 (((C 2 4 ((a - 1).toNat)) - 1).toNat)))) X hP 1 5 (((C 2 4 ((a - 1).toNat)) - 1).toNat) rfl rfl (by decide) in1 vh_2 (by decide) (by decide +kernel) rfl dX4_fault_40 ?_
        refine lv_iconst (v := iI (1)) X.1 X.2.1 dX4_fault_43 rfl ?_
        refine q_iadd X dX4_fault_44 ?_
        refine vx_ret ?_
        exact q_iret X hr hlocks hP hS (Or.inr (Or.inl (⟨h_1, h_2, h_4, rfl, rfl⟩))) (Nat.le_of_ble_eq_true rfl) (Nat.le_of_ble_eq_true rfl) dX4_fault_45
      · refine lv_aload_n X.1 X.2.1 dX4_fault_34 rfl (lv_at hl 2 rfl) ?_
        refine lv_aload_n X.1 X.2.1 dX4_fault_35 rfl (lv_at hl 0 rfl) ?_
        refine va_callv (va_runV (As := [.ref (ad 1 (((C 2 4 ((a - 1).toNat)) - 1).toNat))]) (rest := []) X.fix (c_X4_doubleLastPage l g s0 n ad (q_up (q_up C 2 4 ((a - 1).toNat) ((0))) 1 3 (((C 2 4 ((a - 1).toNat)) - 1).toNat) ((0))) c0 ((hC.up rfl).up rfl) ((hR.up rfl (by decide)).up rfl (by decide)) (by omega) (((C 2 4 ((a - 1).toNat)) - 1).toNat) vh_2) (cwV 1 X.2.2.2.2.1 gX4_fault_X4_doubleLastPage rfl rfl rfl (by decide +kernel) ⟨Nat.le_of_ble_eq_true rfl, Nat.le_of_ble_eq_true rfl⟩) (q_preV X hP hS [.ref (ad 1 (((C 2 4 ((a - 1).toNat)) - 1).toNat))] (kd := 4) (by decide) rfl (c_v4 hC)) rfl rfl hl.1 rfl (lv_room (Nat.le_of_ble_eq_true rfl)) dX4_fault_36 ⟨Nat.le_of_ble_eq_true rfl, Nat.le_of_ble_eq_true rfl⟩) hS q_id q_id1 (fun u t H locs ht hvm hw hB hz1 hk1 hS => ?_)
        rcases hw with ⟨h_5_0, rfl⟩ | ⟨h_5_0, rfl⟩
        · have h_5_0 : (256) ≤ (C 4 8 0) := h_5_0
          have hP : q_P g s0 n ad (q_up (q_up (q_up (q_up C 2 4 ((a - 1).toNat) ((0))) 1 3 (((C 2 4 ((a - 1).toNat)) - 1).toNat) ((0))) 1 5 ((((C 2 4 ((a - 1).toNat)) - 1).toNat)) (((C 1 5 (((C 2 4 ((a - 1).toNat)) - 1).toNat)) - (1)))) 3 5 ((C 0 1 ((C 1 0 (((C 2 4 ((a - 1).toNat)) - 1).toNat) - 1).toNat) - 1).toNat) (((C 3 5 ((C 0 1 ((C 1 0 (((C 2 4 ((a - 1).toNat)) - 1).toNat) - 1).toNat) - 1).toNat)) + (1)))) H := q_back hB ht
          refine lv_aload_n X.1 X.2.1 dX4_fault_39 rfl (lv_at hl 0 rfl) ?_
          refine q_get (index := 122) (v := .int (iI ((q_up (q_up (q_up (q_up C 2 4 ((a - 1).toNat) ((0))) 1 3 (((C 2 4 ((a - 1).toNat)) - 1).toNat) ((0))) 1 5 ((((C 2 4 ((a - 1).toNat)) - 1).toNat)) (((C 1 5 (((C 2 4 ((a - 1).toNat)) - 1).toNat)) - (1)))) 3 5 ((C 0 1 ((C 1 0 (((C 2 4 ((a - 1).toNat)) - 1).toNat) - 1).toNat) - 1).toNat) (((C 3 5 ((C 0 1 ((C 1 0 (((C 2 4 ((a - 1).toNat)) - 1).toNat) - 1).toNat) - 1).toNat)) + (1)))) 1 5 (((C 2 4 ((a - 1).toNat)) - 1).toNat)))) X hP 1 5 (((C 2 4 ((a - 1).toNat)) - 1).toNat) rfl rfl (by decide) in1 vh_2 (by decide) (by decide +kernel) rfl dX4_fault_40 ?_
          refine lv_iconst (v := iI (1)) X.1 X.2.1 dX4_fault_43 rfl ?_
          refine q_iadd X dX4_fault_44 ?_
          refine vx_ret ?_
          exact q_iret X hr hlocks hP hS (Or.inr (Or.inr (Or.inl (⟨h_1, h_2, h_4, h_5_0, rfl, rfl⟩)))) (Nat.le_of_ble_eq_true rfl) (Nat.le_of_ble_eq_true rfl) dX4_fault_45
        · have h_5_0 : (C 4 8 0) < (256) := h_5_0
          have hP : q_P g s0 n ad (q_up (q_up (q_up (q_up (q_up (q_up (q_up C 2 4 ((a - 1).toNat) ((0))) 1 3 (((C 2 4 ((a - 1).toNat)) - 1).toNat) ((0))) 9 (((C 4 8 0)).toNat) 0 ((C 0 0 ((C 1 0 (((C 2 4 ((a - 1).toNat)) - 1).toNat) - 1).toNat)))) 10 (((C 4 8 0)).toNat) 0 ((((1000) * ((C 1 4 (((C 2 4 ((a - 1).toNat)) - 1).toNat)) + (1))) + (C 1 5 (((C 2 4 ((a - 1).toNat)) - 1).toNat))))) 4 8 0 (((C 4 8 0) + (1)))) 1 5 ((((C 2 4 ((a - 1).toNat)) - 1).toNat)) (((C 1 5 (((C 2 4 ((a - 1).toNat)) - 1).toNat)) - (1)))) 3 5 ((C 0 1 ((C 1 0 (((C 2 4 ((a - 1).toNat)) - 1).toNat) - 1).toNat) - 1).toNat) (((C 3 5 ((C 0 1 ((C 1 0 (((C 2 4 ((a - 1).toNat)) - 1).toNat) - 1).toNat) - 1).toNat)) + (1)))) H := q_back hB ht
          refine lv_aload_n X.1 X.2.1 dX4_fault_39 rfl (lv_at hl 0 rfl) ?_
          refine q_get (index := 122) (v := .int (iI ((q_up (q_up (q_up (q_up (q_up (q_up (q_up C 2 4 ((a - 1).toNat) ((0))) 1 3 (((C 2 4 ((a - 1).toNat)) - 1).toNat) ((0))) 9 (((C 4 8 0)).toNat) 0 ((C 0 0 ((C 1 0 (((C 2 4 ((a - 1).toNat)) - 1).toNat) - 1).toNat)))) 10 (((C 4 8 0)).toNat) 0 ((((1000) * ((C 1 4 (((C 2 4 ((a - 1).toNat)) - 1).toNat)) + (1))) + (C 1 5 (((C 2 4 ((a - 1).toNat)) - 1).toNat))))) 4 8 0 (((C 4 8 0) + (1)))) 1 5 ((((C 2 4 ((a - 1).toNat)) - 1).toNat)) (((C 1 5 (((C 2 4 ((a - 1).toNat)) - 1).toNat)) - (1)))) 3 5 ((C 0 1 ((C 1 0 (((C 2 4 ((a - 1).toNat)) - 1).toNat) - 1).toNat) - 1).toNat) (((C 3 5 ((C 0 1 ((C 1 0 (((C 2 4 ((a - 1).toNat)) - 1).toNat) - 1).toNat) - 1).toNat)) + (1)))) 1 5 (((C 2 4 ((a - 1).toNat)) - 1).toNat)))) X hP 1 5 (((C 2 4 ((a - 1).toNat)) - 1).toNat) rfl rfl (by decide) in1 vh_2 (by decide) (by decide +kernel) rfl dX4_fault_40 ?_
          refine lv_iconst (v := iI (1)) X.1 X.2.1 dX4_fault_43 rfl ?_
          refine q_iadd X dX4_fault_44 ?_
          refine vx_ret ?_
          exact q_iret X hr hlocks hP hS (Or.inr (Or.inr (Or.inr (⟨h_1, h_2, h_4, h_5_0, rfl, rfl⟩)))) (Nat.le_of_ble_eq_true rfl) (Nat.le_of_ble_eq_true rfl) dX4_fault_45
def tX4_reason (n : Nat → Nat) (ad : Nat → Nat → Nat) (C : q_S) (a : Int) (r : Int32) (u : q_U) : Prop :=
  ((1 ≤ a ∧ a ≤ (n 0 : Int)) ∧ (c_hs C n ((a - 1).toNat) (0)) ∧ ((C 0 5 ((a - 1).toNat)) = (0)) ∧ ((C 0 4 ((a - 1).toNat)) ≤ (C 4 10 0)) ∧ ((∀ z, z < n 2 → ¬ c_fp C ((a - 1).toNat) z (n 1) = 0 → ¬ C 2 4 z = 0)) ∧ ((c_sf C n ((a - 1).toNat) 8) = (0)) ∧ u = (n, ad, C) ∧ r = iI (3)) ∨
  ((1 ≤ a ∧ a ≤ (n 0 : Int)) ∧ (c_hs C n ((a - 1).toNat) (0)) ∧ ((C 0 5 ((a - 1).toNat)) = (0)) ∧ ((C 0 4 ((a - 1).toNat)) ≤ (C 4 10 0)) ∧ ((∀ z, z < n 2 → ¬ c_fp C ((a - 1).toNat) z (n 1) = 0 → ¬ C 2 4 z = 0)) ∧ (¬ (c_sf C n ((a - 1).toNat) 8) = (0)) ∧ u = (n, ad, C) ∧ r = iI (4)) ∨
  ((1 ≤ a ∧ a ≤ (n 0 : Int)) ∧ (c_hs C n ((a - 1).toNat) (0)) ∧ ((C 0 5 ((a - 1).toNat)) = (0)) ∧ ((C 0 4 ((a - 1).toNat)) ≤ (C 4 10 0)) ∧ ((∃ z, z < n 2 ∧ ¬ c_fp C ((a - 1).toNat) z (n 1) = 0 ∧ C 2 4 z = 0)) ∧ u = (n, ad, C) ∧ r = iI (5)) ∨
  ((1 ≤ a ∧ a ≤ (n 0 : Int)) ∧ (c_hs C n ((a - 1).toNat) (0)) ∧ ((C 0 5 ((a - 1).toNat)) = (0)) ∧ ((C 4 10 0) < (C 0 4 ((a - 1).toNat))) ∧ u = (n, ad, C) ∧ r = iI (2)) ∨
  ((1 ≤ a ∧ a ≤ (n 0 : Int)) ∧ (c_hs C n ((a - 1).toNat) (0)) ∧ (¬ (C 0 5 ((a - 1).toNat)) = (0)) ∧ u = (n, ad, C) ∧ r = iI (1)) ∨
  ((1 ≤ a ∧ a ≤ (n 0 : Int)) ∧ (¬ (c_hs C n ((a - 1).toNat) (0))) ∧ u = (n, ad, C) ∧ r = iI (0))
def xX4_reason (n : Nat → Nat) (C : q_S) (a : Int) (E : String) : Prop :=
  (x_find (n 0) a E)
set_option maxHeartbeats 4000000 in
set_option maxRecDepth 100000 in
theorem c_X4_reason (l : Launch) (htr : l.stackTraces = false) (g : q_G) (s0 : Nat) (n : Nat → Nat) (ad : Nat → Nat → Nat) (C : q_S) (c0 : Nat) (hC : c_S C n) (hR : c_R C n c0) (hc0 : c0 ≤ 511) (a : Int) (ha : R32 a)  : vx_Met l yX4_reason wsX4_reason ({ frames := 7, cells := 1, slots := 6, locals := 112 }) (va_Pc [.ref (ad 4 0), .int (iI a)] (q_B g s0 (n, ad, C))) (va_Qi (tX4_reason n ad C a) (q_B g s0) (q_A s0)) (q_XC g s0 (n, ad, C) (xX4_reason n C a)) 1 6 (q_A s0) := by
  refine vx_ofW (cc := cX4_reason) (maxL := 3) (ret := (some .int)) (by decide) rfl ?_
  intro p e s m args below meth c s₁ B hml hnx hv
  obtain ⟨rfl, hv⟩ := hv
  have hr := B.returns
  have hlocks := B.notSynchronized
  obtain ⟨X, hP⟩ := q_start B.exec B.bytes hml (show s.vm.findClass RX4 = some m.cls from findClass_of_methodNamed B.named) (atoms_spec (ws := wsX4_reason) B.pre) hv
  have hP : q_P g s0 n ad C s.heap := hP
  have hS : va_S (q_A s0) s.heap s.heap [] := va_S.rf
  have in0 : ∀ w ∈ wsX00, w ∈ wsX4_reason := by decide +kernel
  have in4 : ∀ w ∈ wsX40, w ∈ wsX4_reason := by decide +kernel
  have hl := lv_entry ([.ref (ad 4 0), .int (iI a)]) (n := 3) (Nat.le_of_ble_eq_true rfl)
  rw [lg_entry_eq]
  generalize (lg_sl ([.ref (ad 4 0), .int (iI a)]) ++ List.replicate (3 - (lg_sl ([.ref (ad 4 0), .int (iI a)])).length) Slot.unset).toArray = ls at hl ⊢
  have hl : lv_has ls 3 [(0, .ref (ad 4 0)), (1, .int (iI a))] := hl
  refine lv_aload_n X.1 X.2.1 dX4_reason_0 rfl (lv_at hl 0 rfl) ?_
  refine lv_iload_n X.1 X.2.1 dX4_reason_1 rfl (lv_at hl 1 rfl) ?_
  refine vx_callq (vx_runV (As := [.int (iI a)]) (rest := []) X.fix (c_X4_findJob l htr g s0 n ad C c0 hC hR a ha) (cwV 1 X.2.2.2.2.1 gX4_reason_X4_findJob rfl rfl rfl (by decide +kernel) ⟨Nat.le_of_ble_eq_true rfl, Nat.le_of_ble_eq_true rfl⟩) (q_preV X hP hS [.int (iI a)] (kd := 4) (by decide) rfl (c_v4 hC)) rfl rfl hl.1 rfl (lv_room (Nat.le_of_ble_eq_true rfl)) dX4_reason_2 ⟨Nat.le_of_ble_eq_true rfl, Nat.le_of_ble_eq_true rfl⟩) hS q_id q_id1 q_id ?_ (fun r u t H locs ht hvm hw hB hz1 hk1 hS => ?_)
  · intro E ce q9 u t H locs ht hvm hpx hBX hz1 hk1 hS hce hcv hcl
    exact q_xout X hnx hlocks hBX ht hS hce hcv hcl (fun hxe => hxe) (Nat.le_of_ble_eq_true rfl) (Nat.le_of_ble_eq_true rfl)
  · obtain ⟨rfl, h_1, rfl⟩ := hw
    have hP : q_P g s0 n ad (C) H := q_back hB ht
    rw [show va_rf (some (ad 0 ((a - 1).toNat))) = .ref (ad 0 ((a - 1).toNat)) from rfl]
    refine lv_astore_n (lv' := [(2, .ref (ad 0 ((a - 1).toNat))), (0, .ref (ad 4 0)), (1, .int (iI a))]) X.1 X.2.1 dX4_reason_5 rfl hl (by decide) rfl (fun ls hl => ?_)
    refine lv_aload_n X.1 X.2.1 dX4_reason_6 rfl (lv_at hl 0 rfl) ?_
    refine lv_iconst (v := iI (0)) X.1 X.2.1 dX4_reason_7 rfl ?_
    refine va_calli (va_runV (As := [.int (iI (0))]) (rest := []) X.fix (c_X0_hasPartThat l g s0 n ad C c0 hR ((a - 1).toNat) (show (a - 1).toNat < n 0 by omega) (0) (by decide)) (cwV 1 X.2.2.2.2.1 gX4_reason_X0_hasPartThat rfl rfl rfl (by decide +kernel) ⟨Nat.le_of_ble_eq_true rfl, Nat.le_of_ble_eq_true rfl⟩) (q_preV X hP hS [.int (iI (0))] (kd := 0) (by decide) rfl (show (a - 1).toNat < n 0 by omega)) rfl rfl hl.1 rfl (lv_room (Nat.le_of_ble_eq_true rfl)) dX4_reason_8 ⟨Nat.le_of_ble_eq_true rfl, Nat.le_of_ble_eq_true rfl⟩) hS q_id q_id1 (fun r u t H locs ht hvm hw hB hz1 hk1 hS => ?_)
    obtain ⟨rfl, ⟨h_2, rfl⟩ | ⟨h_2, rfl⟩⟩ := hw
    · have hP : q_P g s0 n ad (C) H := q_back hB ht
      have h_2 : c_hs C n ((a - 1).toNat) (0) := h_2
      refine q_if_ne (tgt := 16) X (by decide) dX4_reason_11 (by decide) (fun _ => ?_) (fun h => absurd h (by decide))
      refine lv_aload_n X.1 X.2.1 dX4_reason_16 rfl (lv_at hl 0 rfl) ?_
      refine q_get (index := 133) (v := .int (iI (C 0 5 ((a - 1).toNat)))) X hP 0 5 ((a - 1).toNat) rfl rfl (by decide) in0 (show (a - 1).toNat < n 0 by omega) (by decide) (by decide +kernel) rfl dX4_reason_17 ?_
      refine q_if_eq (tgt := 25) X (q_b32 (hP.tok 0 5 ((a - 1).toNat) rfl)) dX4_reason_20 (by decide) (fun h_4 => ?_) (fun h_4 => ?_)
      · refine lv_aload_n X.1 X.2.1 dX4_reason_25 rfl (lv_at hl 0 rfl) ?_
        refine q_get (index := 185) (v := .long (jI (C 0 4 ((a - 1).toNat)))) X hP 0 4 ((a - 1).toNat) rfl rfl (by decide) in0 (show (a - 1).toNat < n 0 by omega) (by decide) (by decide +kernel) rfl dX4_reason_26 ?_
        refine lv_aload_n X.1 X.2.1 dX4_reason_29 rfl (lv_at hl 1 rfl) ?_
        refine q_get (index := 83) (v := .long (jI (C 4 10 0))) X hP 4 10 0 rfl rfl (by decide) in4 (c_v4 hC) (by decide) (by decide +kernel) rfl dX4_reason_30 ?_
        have f_5 := c_Rn hR
        refine q_lcmp_le (tgt := 39) X (hP.tok 0 4 ((a - 1).toNat) rfl) (hP.tok 4 10 0 rfl) dX4_reason_33 dX4_reason_34 (by decide) (fun h_6 => ?_) (fun h_6 => ?_)
        · refine lv_aload_n X.1 X.2.1 dX4_reason_39 rfl (lv_at hl 1 rfl) ?_
          refine lv_aload_n X.1 X.2.1 dX4_reason_40 rfl (lv_at hl 0 rfl) ?_
          refine va_calli (va_runV (As := [.ref (ad 0 ((a - 1).toNat))]) (rest := []) X.fix (c_X4_reasonByPrinters l g s0 n ad C c0 hC hR ((a - 1).toNat) (show (a - 1).toNat < n 0 by omega)) (cwV 1 X.2.2.2.2.1 gX4_reason_X4_reasonByPrinters rfl rfl rfl (by decide +kernel) ⟨Nat.le_of_ble_eq_true rfl, Nat.le_of_ble_eq_true rfl⟩) (q_preV X hP hS [.ref (ad 0 ((a - 1).toNat))] (kd := 4) (by decide) rfl (c_v4 hC)) rfl rfl hl.1 rfl (lv_room (Nat.le_of_ble_eq_true rfl)) dX4_reason_41 ⟨Nat.le_of_ble_eq_true rfl, Nat.le_of_ble_eq_true rfl⟩) hS q_id q_id1 (fun r u t H locs ht hvm hw hB hz1 hk1 hS => ?_)
          rcases hw with ⟨h_7_0, h_7_1, rfl, rfl⟩ | ⟨h_7_0, h_7_1, rfl, rfl⟩ | ⟨h_7_0, rfl, rfl⟩
          · have h_7_0 : (∀ z, z < n 2 → ¬ c_fp C ((a - 1).toNat) z (n 1) = 0 → ¬ C 2 4 z = 0) := h_7_0
            have h_7_1 : (c_sf C n ((a - 1).toNat) 8) = (0) := h_7_1
            have hP : q_P g s0 n ad (C) H := q_back hB ht
            refine vx_ret ?_
            exact q_iret X hr hlocks hP hS (Or.inl (⟨h_1, h_2, h_4, h_6, h_7_0, h_7_1, rfl, rfl⟩)) (Nat.le_of_ble_eq_true rfl) (Nat.le_of_ble_eq_true rfl) dX4_reason_44
          · have h_7_0 : (∀ z, z < n 2 → ¬ c_fp C ((a - 1).toNat) z (n 1) = 0 → ¬ C 2 4 z = 0) := h_7_0
            have h_7_1 : ¬ (c_sf C n ((a - 1).toNat) 8) = (0) := h_7_1
            have hP : q_P g s0 n ad (C) H := q_back hB ht
            refine vx_ret ?_
            exact q_iret X hr hlocks hP hS (Or.inr (Or.inl (⟨h_1, h_2, h_4, h_6, h_7_0, h_7_1, rfl, rfl⟩))) (Nat.le_of_ble_eq_true rfl) (Nat.le_of_ble_eq_true rfl) dX4_reason_44
          · have h_7_0 : (∃ z, z < n 2 ∧ ¬ c_fp C ((a - 1).toNat) z (n 1) = 0 ∧ C 2 4 z = 0) := h_7_0
            have hP : q_P g s0 n ad (C) H := q_back hB ht
            refine vx_ret ?_
            exact q_iret X hr hlocks hP hS (Or.inr (Or.inr (Or.inl (⟨h_1, h_2, h_4, h_6, h_7_0, rfl, rfl⟩)))) (Nat.le_of_ble_eq_true rfl) (Nat.le_of_ble_eq_true rfl) dX4_reason_44
        · refine lv_iconst (v := iI (2)) X.1 X.2.1 dX4_reason_37 rfl ?_
          refine vx_ret ?_
          exact q_iret X hr hlocks hP hS (Or.inr (Or.inr (Or.inr (Or.inl (⟨h_1, h_2, h_4, h_6, rfl, rfl⟩))))) (Nat.le_of_ble_eq_true rfl) (Nat.le_of_ble_eq_true rfl) dX4_reason_38
      · refine lv_iconst (v := iI (1)) X.1 X.2.1 dX4_reason_23 rfl ?_
        refine vx_ret ?_
        exact q_iret X hr hlocks hP hS (Or.inr (Or.inr (Or.inr (Or.inr (Or.inl (⟨h_1, h_2, h_4, rfl, rfl⟩)))))) (Nat.le_of_ble_eq_true rfl) (Nat.le_of_ble_eq_true rfl) dX4_reason_24
    · have hP : q_P g s0 n ad (C) H := q_back hB ht
      have h_2 : ¬ (c_hs C n ((a - 1).toNat) (0)) := h_2
      refine q_if_ne (tgt := 16) X (by decide) dX4_reason_11 (by decide) (fun h => absurd h (by decide)) (fun _ => ?_)
      refine lv_iconst (v := iI (0)) X.1 X.2.1 dX4_reason_14 rfl ?_
      refine vx_ret ?_
      exact q_iret X hr hlocks hP hS (Or.inr (Or.inr (Or.inr (Or.inr (Or.inr (⟨h_1, h_2, rfl, rfl⟩)))))) (Nat.le_of_ble_eq_true rfl) (Nat.le_of_ble_eq_true rfl) dX4_reason_15
set_option maxHeartbeats 4000000 in
set_option maxRecDepth 100000 in
theorem w_X4_doubled {p : Program} {l : Launch} {e : Env} {s : State} {m : MethodId} {args : Array Value} {below : List Frame} {meth : Method} {c : Code} {Q : State → Prop} {g : q_G} {s0 : Nat} {n : Nat → Nat} {ad : Nat → Nat → Nat} {C : q_S} (X : q_X p s m args c cX4_doubled 6 wsX4_doubled RX4 g s0) (in0 : ∀ w ∈ wsX00, w ∈ wsX4_doubled) (in4 : ∀ w ∈ wsX40, w ∈ wsX4_doubled) (c0 : Nat) (hC : c_S C n) (hR : c_R C n c0) (hc0 : c0 ≤ 511) (a b : Int) (ha : R32 a) (hb : R32 b) (hj : (a - 1).toNat < n 0) (kx : ∀  (H : Heap) (locs : List Loc) (ls : Array Slot), (∀ z : Nat, z < (C 4 8 0).toNat → C 9 z 0 = C 0 0 (a - 1).toNat → ¬ (c_dn C (C 0 0 (a - 1).toNat) z) = b) → q_P g s0 n ad C H → va_S (q_A s0) s.heap H locs → lv_has ls 6 [(4, .int (iI (c_dn C (C 0 0 (a - 1).toNat) (C 4 8 0).toNat))), (0, .ref (ad 4 0)), (1, .int (iI a)), (2, .int (iI b)), (3, .ref (ad 0 ((a - 1).toNat)))] → W p l e ({ frames := 7, cells := 2, slots := 12, locals := 112 }) s m args below meth c H locs (0 + 1) (0 + 6) Q (F0 m 66 ls [])) (ky : ∀ (k : Nat) (H : Heap) (locs : List Loc) (ls : Array Slot), (k : Int) < C 4 8 0 → C 9 k 0 = C 0 0 (a - 1).toNat → (c_dn C (C 0 0 (a - 1).toNat) k) = b → q_P g s0 n ad C H → va_S (q_A s0) s.heap H locs → lv_has ls 6 [(5, .int (iI ((k : Nat) : Int))), (0, .ref (ad 4 0)), (1, .int (iI a)), (2, .int (iI b)), (3, .ref (ad 0 ((a - 1).toNat)))] → W p l e ({ frames := 7, cells := 2, slots := 12, locals := 112 }) s m args below meth c H locs (0 + 1) (0 + 6) Q (F0 m 49 ls [])) :
    ∀ (N : Nat) (k : Nat) (H : Heap) (locs : List Loc) (ls : Array Slot), (C 4 8 0 < (k : Int) + N) → ((k : Int) ≤ C 4 8 0) → ((∀ z : Nat, z < k → C 9 z 0 = C 0 0 (a - 1).toNat → ¬ (c_dn C (C 0 0 (a - 1).toNat) z) = b)) → q_P g s0 n ad C H → va_S (q_A s0) s.heap H locs → lv_has ls 6 [(5, .int (iI ((k : Nat) : Int))), (4, .int (iI (c_dn C (C 0 0 (a - 1).toNat) k))), (0, .ref (ad 4 0)), (1, .int (iI a)), (2, .int (iI b)), (3, .ref (ad 0 ((a - 1).toNat)))] → W p l e ({ frames := 7, cells := 2, slots := 12, locals := 112 }) s m args below meth c H locs (0 + 1) (0 + 6) Q (F0 m 12 ls []) := by
  intro N
  induction N with
  | zero =>
    intro k H locs ls h1 h2 h3 hP hS hl
    exact absurd h1 (by omega)
  | succ N ih =>
    intro k H locs ls h1 h2 h3 hP hS hl
    have f0 := c_Rd hR
    refine lv_iload X.1 X.2.1 dX4_doubled_12 (lv_at hl 0 rfl) ?_
    refine lv_aload_n X.1 X.2.1 dX4_doubled_14 rfl (lv_at hl 2 rfl) ?_
    refine q_get (index := 166) (v := .int (iI (C 4 8 0))) X hP 4 8 0 rfl rfl (by decide) in4 (c_v4 hC) (by decide) (by decide +kernel) rfl dX4_doubled_15 ?_
    have f_1 := c_Rd hR
    refine q_icmp_ge (tgt := 66) X (by omega) (hP.tok 4 8 0 rfl) dX4_doubled_18 (by decide) (fun h_2 => ?_) (fun h_2 => ?_)
    · have ek : k = (C 4 8 0).toNat := by omega
      have e_3 : (c_dn C (C 0 0 (a - 1).toNat) k) = (c_dn C (C 0 0 (a - 1).toNat) (C 4 8 0).toNat) := by rw [ek]
      have hl : lv_has ls 6 [(4, .int (iI (c_dn C (C 0 0 (a - 1).toNat) (C 4 8 0).toNat))), (0, .ref (ad 4 0)), (1, .int (iI a)), (2, .int (iI b)), (3, .ref (ad 0 ((a - 1).toNat)))] := lv_cong (show lv_has ls 6 [(4, .int (iI (c_dn C (C 0 0 (a - 1).toNat) k))), (0, .ref (ad 4 0)), (1, .int (iI a)), (2, .int (iI b)), (3, .ref (ad 0 ((a - 1).toNat)))] from lv_sub hl [1, 2, 3, 4, 5] rfl) (lv_cs (congrArg (fun z => Value.int (iI z)) e_3) (lv_cs rfl (lv_cs rfl (lv_cs rfl (lv_cs rfl rfl)))))
      exact kx _ _ ls (fun z z1 => h3 z (by omega)) hP hS hl
    · refine lv_iload X.1 X.2.1 dX4_doubled_21 (lv_at hl 0 rfl) ?_
      refine lv_sipush (v := iI (256)) X.1 X.2.1 dX4_doubled_23 (by decide) ?_
      refine q_icmp_ge (tgt := 66) X (by omega) (by decide) dX4_doubled_26 (by decide) (fun h_4 => ?_) (fun h_4 => ?_)
      · have ek : k = (C 4 8 0).toNat := by omega
        have e_5 : (c_dn C (C 0 0 (a - 1).toNat) k) = (c_dn C (C 0 0 (a - 1).toNat) (C 4 8 0).toNat) := by rw [ek]
        have hl : lv_has ls 6 [(4, .int (iI (c_dn C (C 0 0 (a - 1).toNat) (C 4 8 0).toNat))), (0, .ref (ad 4 0)), (1, .int (iI a)), (2, .int (iI b)), (3, .ref (ad 0 ((a - 1).toNat)))] := lv_cong (show lv_has ls 6 [(4, .int (iI (c_dn C (C 0 0 (a - 1).toNat) k))), (0, .ref (ad 4 0)), (1, .int (iI a)), (2, .int (iI b)), (3, .ref (ad 0 ((a - 1).toNat)))] from lv_sub hl [1, 2, 3, 4, 5] rfl) (lv_cs (congrArg (fun z => Value.int (iI z)) e_5) (lv_cs rfl (lv_cs rfl (lv_cs rfl (lv_cs rfl rfl)))))
        exact kx _ _ ls (fun z z1 => h3 z (by omega)) hP hS hl
      · refine lv_aload_n X.1 X.2.1 dX4_doubled_29 rfl (lv_at hl 2 rfl) ?_
        refine q_get (index := 27) (v := .ref (ad 9 0)) X hP 4 6 0 rfl rfl (by decide) in4 (c_v4 hC) (by decide) (by decide +kernel) (c_r hC ad 6 9 (by decide)) dX4_doubled_30 ?_
        refine lv_iload X.1 X.2.1 dX4_doubled_33 (lv_at hl 0 rfl) ?_
        refine q_ildv (len := 256) (v := (C 9 k 0)) X hP 9 0 (by decide) rfl rfl (c_va hC 6 9 (by decide)) rfl (by omega) (by omega) rfl dX4_doubled_35 ?_
        refine lv_aload_n X.1 X.2.1 dX4_doubled_36 rfl (lv_at hl 5 rfl) ?_
        refine q_get (index := 105) (v := .int (iI (C 0 0 ((a - 1).toNat)))) X hP 0 0 ((a - 1).toNat) rfl rfl (by decide) in0 hj (by decide) (by decide +kernel) rfl dX4_doubled_37 ?_
        refine q_icmp_ne (tgt := 60) X (hP.tok 9 k 0 rfl) (hP.tok 0 0 ((a - 1).toNat) rfl) dX4_doubled_40 (by decide) (fun h_6 => ?_) (fun h_6 => ?_)
        · refine q_iinc (lv' := [(5, .int (iI (((k : Nat) : Int) + 1))), (4, .int (iI (c_dn C (C 0 0 (a - 1).toNat) k))), (0, .ref (ad 4 0)), (1, .int (iI a)), (2, .int (iI b)), (3, .ref (ad 0 ((a - 1).toNat)))]) (k := 0) X dX4_doubled_60 hl rfl (by decide) rfl (fun ls hl => ?_)
          refine lv_goto (tgt := 12) X.1 X.2.1 dX4_doubled_63 (by decide) ?_
          have h5 : ∀ z : Nat, z < k + 1 → C 9 z 0 = C 0 0 (a - 1).toNat → ¬ (c_dn C (C 0 0 (a - 1).toNat) z) = b := fun z z1 z2 => if e1 : z = k then (by subst e1; first | contradiction | assumption) else h3 z (by omega) z2
          have e_7 : (((k : Nat) : Int) + 1) = (((k + 1) : Nat) : Int) := by omega
          have e_8 : (c_dn C (C 0 0 (a - 1).toNat) k) = (c_dn C (C 0 0 (a - 1).toNat) (k + 1)) := by rw [c_dn]; first | (rw [if_pos (by assumption)]; done) | (rw [if_neg (by assumption)]; done)
          have hl : lv_has ls 6 [(5, .int (iI (((k + 1) : Nat) : Int))), (4, .int (iI (c_dn C (C 0 0 (a - 1).toNat) (k + 1)))), (0, .ref (ad 4 0)), (1, .int (iI a)), (2, .int (iI b)), (3, .ref (ad 0 ((a - 1).toNat)))] := lv_cong (show lv_has ls 6 [(5, .int (iI (((k : Nat) : Int) + 1))), (4, .int (iI (c_dn C (C 0 0 (a - 1).toNat) k))), (0, .ref (ad 4 0)), (1, .int (iI a)), (2, .int (iI b)), (3, .ref (ad 0 ((a - 1).toNat)))] from lv_sub hl [0, 1, 2, 3, 4, 5] rfl) (lv_cs (congrArg (fun z => Value.int (iI z)) e_7) (lv_cs (congrArg (fun z => Value.int (iI z)) e_8) (lv_cs rfl (lv_cs rfl (lv_cs rfl (lv_cs rfl rfl))))))
          exact ih (k + 1) _ _ ls (by omega) (by omega) h5 hP hS hl
        · refine lv_iload X.1 X.2.1 dX4_doubled_43 (lv_at hl 1 rfl) ?_
          refine lv_iload_n X.1 X.2.1 dX4_doubled_45 rfl (lv_at hl 4 rfl) ?_
          refine q_icmp_ne (tgt := 57) X (by have := c_dn_b C (C 0 0 (a - 1).toNat) k; omega) hb dX4_doubled_46 (by decide) (fun h_9 => ?_) (fun h_9 => ?_)
          · refine q_iinc (lv' := [(4, .int (iI ((c_dn C (C 0 0 (a - 1).toNat) k) + 1))), (5, .int (iI ((k : Nat) : Int))), (0, .ref (ad 4 0)), (1, .int (iI a)), (2, .int (iI b)), (3, .ref (ad 0 ((a - 1).toNat)))]) (k := 1) X dX4_doubled_57 hl rfl (by decide) rfl (fun ls hl => ?_)
            refine q_iinc (lv' := [(5, .int (iI (((k : Nat) : Int) + 1))), (4, .int (iI ((c_dn C (C 0 0 (a - 1).toNat) k) + 1))), (0, .ref (ad 4 0)), (1, .int (iI a)), (2, .int (iI b)), (3, .ref (ad 0 ((a - 1).toNat)))]) (k := 1) X dX4_doubled_60 hl rfl (by decide) rfl (fun ls hl => ?_)
            refine lv_goto (tgt := 12) X.1 X.2.1 dX4_doubled_63 (by decide) ?_
            have h5 : ∀ z : Nat, z < k + 1 → C 9 z 0 = C 0 0 (a - 1).toNat → ¬ (c_dn C (C 0 0 (a - 1).toNat) z) = b := fun z z1 z2 => if e1 : z = k then (by subst e1; first | contradiction | assumption) else h3 z (by omega) z2
            have e_10 : (((k : Nat) : Int) + 1) = (((k + 1) : Nat) : Int) := by omega
            have e_11 : ((c_dn C (C 0 0 (a - 1).toNat) k) + 1) = (c_dn C (C 0 0 (a - 1).toNat) (k + 1)) := by rw [c_dn]; first | (rw [if_pos (by assumption)]; done) | (rw [if_neg (by assumption)]; done)
            have hl : lv_has ls 6 [(5, .int (iI (((k + 1) : Nat) : Int))), (4, .int (iI (c_dn C (C 0 0 (a - 1).toNat) (k + 1)))), (0, .ref (ad 4 0)), (1, .int (iI a)), (2, .int (iI b)), (3, .ref (ad 0 ((a - 1).toNat)))] := lv_cong (show lv_has ls 6 [(5, .int (iI (((k : Nat) : Int) + 1))), (4, .int (iI ((c_dn C (C 0 0 (a - 1).toNat) k) + 1))), (0, .ref (ad 4 0)), (1, .int (iI a)), (2, .int (iI b)), (3, .ref (ad 0 ((a - 1).toNat)))] from lv_sub hl [0, 1, 2, 3, 4, 5] rfl) (lv_cs (congrArg (fun z => Value.int (iI z)) e_10) (lv_cs (congrArg (fun z => Value.int (iI z)) e_11) (lv_cs rfl (lv_cs rfl (lv_cs rfl (lv_cs rfl rfl))))))
            exact ih (k + 1) _ _ ls (by omega) (by omega) h5 hP hS hl
          · have hl : lv_has ls 6 [(5, .int (iI ((k : Nat) : Int))), (0, .ref (ad 4 0)), (1, .int (iI a)), (2, .int (iI b)), (3, .ref (ad 0 ((a - 1).toNat)))] := lv_sub hl [0, 2, 3, 4, 5] rfl
            exact ky k _ _ ls (by omega) (by assumption) (by assumption) hP hS hl
def tX4_doubled (n : Nat → Nat) (ad : Nat → Nat → Nat) (C : q_S) (a b : Int) (r : Int32) (u : q_U) : Prop :=
  ((1 ≤ a ∧ a ≤ (n 0 : Int)) ∧ ((∀ z : Nat, z < (C 4 8 0).toNat → C 9 z 0 = C 0 0 (a - 1).toNat → ¬ (c_dn C (C 0 0 (a - 1).toNat) z) = b)) ∧ (b = (-1)) ∧ u = (n, ad, C) ∧ r = iI (c_dn C (C 0 0 (a - 1).toNat) (C 4 8 0).toNat)) ∨
  (∃ (k : Nat), (1 ≤ a ∧ a ≤ (n 0 : Int)) ∧ ((k : Int) < C 4 8 0) ∧ (C 9 k 0 = C 0 0 (a - 1).toNat) ∧ ((c_dn C (C 0 0 (a - 1).toNat) k) = b) ∧ u = (n, ad, C) ∧ r = iI (C 10 k 0))
def xX4_doubled (n : Nat → Nat) (C : q_S) (a b : Int) (E : String) : Prop :=
  (x_find (n 0) a E) ∨
  (E = "java/lang/IndexOutOfBoundsException" ∧ (1 ≤ a ∧ a ≤ (n 0 : Int)) ∧ ((∀ z : Nat, z < (C 4 8 0).toNat → C 9 z 0 = C 0 0 (a - 1).toNat → ¬ (c_dn C (C 0 0 (a - 1).toNat) z) = b)) ∧ (¬ b = (-1)))
set_option maxHeartbeats 4000000 in
set_option maxRecDepth 100000 in
theorem c_X4_doubled (l : Launch) (htr : l.stackTraces = false) (g : q_G) (s0 : Nat) (n : Nat → Nat) (ad : Nat → Nat → Nat) (C : q_S) (c0 : Nat) (hC : c_S C n) (hR : c_R C n c0) (hc0 : c0 ≤ 511) (a b : Int) (ha : R32 a) (hb : R32 b)  : vx_Met l yX4_doubled wsX4_doubled ({ frames := 7, cells := 2, slots := 12, locals := 112 }) (va_Pc [.ref (ad 4 0), .int (iI a), .int (iI b)] (q_B g s0 (n, ad, C))) (va_Qi (tX4_doubled n ad C a b) (q_B g s0) (q_A s0)) (q_XC g s0 (n, ad, C) (xX4_doubled n C a b)) 2 12 (q_A s0) := by
  refine vx_ofW (cc := cX4_doubled) (maxL := 6) (ret := (some .int)) (by decide) rfl ?_
  intro p e s m args below meth c s₁ B hml hnx hv
  obtain ⟨rfl, hv⟩ := hv
  have hr := B.returns
  have hlocks := B.notSynchronized
  obtain ⟨X, hP⟩ := q_start B.exec B.bytes hml (show s.vm.findClass RX4 = some m.cls from findClass_of_methodNamed B.named) (atoms_spec (ws := wsX4_doubled) B.pre) hv
  have hP : q_P g s0 n ad C s.heap := hP
  have hS : va_S (q_A s0) s.heap s.heap [] := va_S.rf
  have in0 : ∀ w ∈ wsX00, w ∈ wsX4_doubled := by decide +kernel
  have in4 : ∀ w ∈ wsX40, w ∈ wsX4_doubled := by decide +kernel
  have hl := lv_entry ([.ref (ad 4 0), .int (iI a), .int (iI b)]) (n := 6) (Nat.le_of_ble_eq_true rfl)
  rw [lg_entry_eq]
  generalize (lg_sl ([.ref (ad 4 0), .int (iI a), .int (iI b)]) ++ List.replicate (6 - (lg_sl ([.ref (ad 4 0), .int (iI a), .int (iI b)])).length) Slot.unset).toArray = ls at hl ⊢
  have hl : lv_has ls 6 [(0, .ref (ad 4 0)), (1, .int (iI a)), (2, .int (iI b))] := hl
  refine lv_aload_n X.1 X.2.1 dX4_doubled_0 rfl (lv_at hl 0 rfl) ?_
  refine lv_iload_n X.1 X.2.1 dX4_doubled_1 rfl (lv_at hl 1 rfl) ?_
  refine vx_callq (vx_runV (As := [.int (iI a)]) (rest := []) X.fix (c_X4_findJob l htr g s0 n ad C c0 hC hR a ha) (cwV 1 X.2.2.2.2.1 gX4_doubled_X4_findJob rfl rfl rfl (by decide +kernel) ⟨Nat.le_of_ble_eq_true rfl, Nat.le_of_ble_eq_true rfl⟩) (q_preV X hP hS [.int (iI a)] (kd := 4) (by decide) rfl (c_v4 hC)) rfl rfl hl.1 rfl (lv_room (Nat.le_of_ble_eq_true rfl)) dX4_doubled_2 ⟨Nat.le_of_ble_eq_true rfl, Nat.le_of_ble_eq_true rfl⟩) hS q_id q_id1 q_id ?_ (fun r u t H locs ht hvm hw hB hz1 hk1 hS => ?_)
  · intro E ce q9 u t H locs ht hvm hpx hBX hz1 hk1 hS hce hcv hcl
    exact q_xout X hnx hlocks hBX ht hS hce hcv hcl (fun hxe => Or.inl (hxe)) (Nat.le_of_ble_eq_true rfl) (Nat.le_of_ble_eq_true rfl)
  · obtain ⟨rfl, h_1, rfl⟩ := hw
    have hP : q_P g s0 n ad (C) H := q_back hB ht
    rw [show va_rf (some (ad 0 ((a - 1).toNat))) = .ref (ad 0 ((a - 1).toNat)) from rfl]
    refine lv_astore_n (lv' := [(3, .ref (ad 0 ((a - 1).toNat))), (0, .ref (ad 4 0)), (1, .int (iI a)), (2, .int (iI b))]) X.1 X.2.1 dX4_doubled_5 rfl hl (by decide) rfl (fun ls hl => ?_)
    refine lv_iconst (v := iI (0)) X.1 X.2.1 dX4_doubled_6 rfl ?_
    refine lv_istore (lv' := [(4, .int (iI (0))), (3, .ref (ad 0 ((a - 1).toNat))), (0, .ref (ad 4 0)), (1, .int (iI a)), (2, .int (iI b))]) X.1 X.2.1 dX4_doubled_7 hl (by decide) rfl (fun ls hl => ?_)
    refine lv_iconst (v := iI (0)) X.1 X.2.1 dX4_doubled_9 rfl ?_
    refine lv_istore (lv' := [(5, .int (iI (0))), (4, .int (iI (0))), (3, .ref (ad 0 ((a - 1).toNat))), (0, .ref (ad 4 0)), (1, .int (iI a)), (2, .int (iI b))]) X.1 X.2.1 dX4_doubled_10 hl (by decide) rfl (fun ls hl => ?_)
    have e_2 : (0) = ((0 : Nat) : Int) := by rfl
    have e_3 : (0) = (c_dn C (C 0 0 (a - 1).toNat) 0) := by rfl
    have hl : lv_has ls 6 [(5, .int (iI ((0 : Nat) : Int))), (4, .int (iI (c_dn C (C 0 0 (a - 1).toNat) 0))), (0, .ref (ad 4 0)), (1, .int (iI a)), (2, .int (iI b)), (3, .ref (ad 0 ((a - 1).toNat)))] := lv_cong (show lv_has ls 6 [(5, .int (iI (0))), (4, .int (iI (0))), (0, .ref (ad 4 0)), (1, .int (iI a)), (2, .int (iI b)), (3, .ref (ad 0 ((a - 1).toNat)))] from lv_sub hl [0, 1, 3, 4, 5, 2] rfl) (lv_cs (congrArg (fun z => Value.int (iI z)) e_2) (lv_cs (congrArg (fun z => Value.int (iI z)) e_3) (lv_cs rfl (lv_cs rfl (lv_cs rfl (lv_cs rfl rfl))))))
    have hj : (a - 1).toNat < n 0 := by omega
    have f0 := c_Rd hR
    refine w_X4_doubled X in0 in4 c0 hC hR hc0 a b ha hb hj (fun H locs ls hf hP hS hl => ?_) (fun k H locs ls hk hf1 hf2 hP hS hl => ?_) ((C 4 8 0).toNat + 1) 0 _ _ ls (by omega) (by omega) (fun z hz => by omega) hP hS hl
    · refine lv_iload_n X.1 X.2.1 dX4_doubled_66 rfl (lv_at hl 3 rfl) ?_
      refine lv_iconst (v := iI (-1)) X.1 X.2.1 dX4_doubled_67 rfl ?_
      refine q_icmp_eq (tgt := 79) X hb (by decide) dX4_doubled_68 (by decide) (fun h_4 => ?_) (fun h_4 => ?_)
      · refine lv_iload X.1 X.2.1 dX4_doubled_79 (lv_at hl 0 rfl) ?_
        refine vx_ret ?_
        exact q_iret X hr hlocks hP hS (Or.inl (⟨h_1, hf, h_4, rfl, rfl⟩)) (Nat.le_of_ble_eq_true rfl) (Nat.le_of_ble_eq_true rfl) dX4_doubled_81
      · exact q_throw X htr hnx hlocks (cls := "java/lang/IndexOutOfBoundsException") (ik := 163) (ic := 165) (by decide) (by decide +kernel) (by decide +kernel) (by decide +kernel) xb_165 xg_163_165 hP hS hl.1 dX4_doubled_71 dX4_doubled_74 dX4_doubled_75 dX4_doubled_78 (Nat.le_of_ble_eq_true rfl) (Nat.le_of_ble_eq_true rfl) (Nat.le_of_ble_eq_true rfl) (Nat.le_of_ble_eq_true rfl) (Or.inr (⟨rfl, h_1, hf, h_4⟩)) (Nat.le_of_ble_eq_true rfl) (Nat.le_of_ble_eq_true rfl)
    · refine lv_aload_n X.1 X.2.1 dX4_doubled_49 rfl (lv_at hl 1 rfl) ?_
      refine q_get (index := 31) (v := .ref (ad 10 0)) X hP 4 7 0 rfl rfl (by decide) in4 (c_v4 hC) (by decide) (by decide +kernel) (c_r hC ad 7 10 (by decide)) dX4_doubled_50 ?_
      refine lv_iload X.1 X.2.1 dX4_doubled_53 (lv_at hl 0 rfl) ?_
      refine q_ildv (len := 256) (v := (C 10 k 0)) X hP 10 0 (by decide) rfl rfl (c_va hC 7 10 (by decide)) rfl (by omega) (by omega) rfl dX4_doubled_55 ?_
      refine vx_ret ?_
      exact q_iret X hr hlocks hP hS (Or.inr (⟨k, h_1, hk, hf1, hf2, rfl, rfl⟩)) (Nat.le_of_ble_eq_true rfl) (Nat.le_of_ble_eq_true rfl) dX4_doubled_56
set_option maxHeartbeats 4000000 in
set_option maxRecDepth 100000 in
theorem w_X4_emptyPrintersOf {p : Program} {l : Launch} {e : Env} {s : State} {m : MethodId} {args : Array Value} {below : List Frame} {meth : Method} {c : Code} {Q : State → Prop} {g : q_G} {s0 : Nat} {n : Nat → Nat} {ad : Nat → Nat → Nat} {C : q_S} (X : q_X p s m args c cX4_emptyPrintersOf 6 wsX4_emptyPrintersOf RX4 g s0) (in1 : ∀ w ∈ wsX10, w ∈ wsX4_emptyPrintersOf) (in2 : ∀ w ∈ wsX20, w ∈ wsX4_emptyPrintersOf) (in4 : ∀ w ∈ wsX40, w ∈ wsX4_emptyPrintersOf) (c0 : Nat) (hC : c_S C n) (hR : c_R C n c0) (hz : ∀ k, n 2 ≤ k → C 2 4 k = 0) (j : Nat) (hj : j < n 0) (kx : ∀  (H : Heap) (locs : List Loc) (ls : Array Slot), q_P g s0 n ad ((c_ep C j 8)) H → va_S (q_A s0) s.heap H locs → lv_has ls 6 [(0, .ref (ad 4 0)), (1, .ref (ad 0 j)), (2, .ref (ad 6 0)), (3, .int (iI (8)))] → W p l e ({ frames := 0, cells := 0, slots := 0, locals := 0 }) s m args below meth c H locs 0 0 Q (F0 m 60 ls [])) :
    ∀ (N : Nat) (k : Nat) (H : Heap) (locs : List Loc) (ls : Array Slot), (8 < k + N) → (k ≤ 8) → q_P g s0 n ad ((c_ep C j k)) H → va_S (q_A s0) s.heap H locs → lv_has ls 6 [(4, .int (iI ((k : Nat) : Int))), (0, .ref (ad 4 0)), (1, .ref (ad 0 j)), (2, .ref (ad 6 0)), (3, .int (iI (8)))] → W p l e ({ frames := 0, cells := 0, slots := 0, locals := 0 }) s m args below meth c H locs 0 0 Q (F0 m 11 ls []) := by
  intro N
  induction N with
  | zero =>
    intro k H locs ls h1 h2 hP hS hl
    exact absurd h1 (by omega)
  | succ N ih =>
    intro k H locs ls h1 h2 hP hS hl
    have f0 := c_Rp hR
    refine lv_iload X.1 X.2.1 dX4_emptyPrintersOf_11 (lv_at hl 0 rfl) ?_
    refine lv_iload_n X.1 X.2.1 dX4_emptyPrintersOf_13 rfl (lv_at hl 4 rfl) ?_
    refine q_icmp_ge (tgt := 60) X (by omega) (by decide) dX4_emptyPrintersOf_14 (by decide) (fun h_1 => ?_) (fun h_1 => ?_)
    · have ek : k = 8 := by omega
      have hl : lv_has ls 6 [(0, .ref (ad 4 0)), (1, .ref (ad 0 j)), (2, .ref (ad 6 0)), (3, .int (iI (8)))] := lv_sub hl [1, 2, 3, 4] rfl
      rw [ek] at hP
      exact kx _ _ ls hP hS hl
    · refine lv_aload_n X.1 X.2.1 dX4_emptyPrintersOf_17 rfl (lv_at hl 3 rfl) ?_
      refine lv_iload X.1 X.2.1 dX4_emptyPrintersOf_18 (lv_at hl 0 rfl) ?_
      by_cases h_2 : k < n 2
      · refine q_rldv (len := 8) (v := ((k : Nat) : Int) + 1) X hP 6 0 2 3 (by decide) rfl rfl rfl (c_va hC 0 6 (by decide)) rfl (by omega) (by omega) ((c_R6 hR k).trans (if_pos h_2)) dX4_emptyPrintersOf_20 ?_
        rw [q_rf2]
        refine lv_astore (lv' := [(5, .ref (ad 2 k)), (4, .int (iI ((k : Nat) : Int))), (0, .ref (ad 4 0)), (1, .ref (ad 0 j)), (2, .ref (ad 6 0)), (3, .int (iI (8)))]) X.1 X.2.1 dX4_emptyPrintersOf_21 hl (by decide) rfl (fun ls hl => ?_)
        refine lv_aload X.1 X.2.1 dX4_emptyPrintersOf_23 (lv_at hl 0 rfl) ?_
        refine lv_ifnull X.1 X.2.1 dX4_emptyPrintersOf_25 ?_
        refine lv_aload X.1 X.2.1 dX4_emptyPrintersOf_28 (lv_at hl 0 rfl) ?_
        refine q_get (index := 87) (v := va_rf (q_rf ad 1 (C 2 4 k))) X hP 2 4 k rfl rfl (by decide) in2 h_2 (by decide) (by decide +kernel) (q_vch ad 1 (c_ep_k C j k)) dX4_emptyPrintersOf_30 ?_
        by_cases h_3 : (C 2 4 k) = 0
        · rw [q_rf0 ad 1 h_3]
          refine lv_ifnullN (tgt := 54) X.1 X.2.1 dX4_emptyPrintersOf_33 (by decide) ?_
          refine q_iinc (lv' := [(4, .int (iI (((k : Nat) : Int) + 1))), (5, .ref (ad 2 k)), (0, .ref (ad 4 0)), (1, .ref (ad 0 j)), (2, .ref (ad 6 0)), (3, .int (iI (8)))]) (k := 1) X dX4_emptyPrintersOf_54 hl rfl (by decide) rfl (fun ls hl => ?_)
          refine lv_goto (tgt := 11) X.1 X.2.1 dX4_emptyPrintersOf_57 (by decide) ?_
          have e_4 : (((k : Nat) : Int) + 1) = (((k + 1) : Nat) : Int) := by omega
          have hl : lv_has ls 6 [(4, .int (iI (((k + 1) : Nat) : Int))), (0, .ref (ad 4 0)), (1, .ref (ad 0 j)), (2, .ref (ad 6 0)), (3, .int (iI (8)))] := lv_cong (show lv_has ls 6 [(4, .int (iI (((k : Nat) : Int) + 1))), (0, .ref (ad 4 0)), (1, .ref (ad 0 j)), (2, .ref (ad 6 0)), (3, .int (iI (8)))] from lv_sub hl [0, 2, 3, 4, 5] rfl) (lv_cs (congrArg (fun z => Value.int (iI z)) e_4) (lv_cs rfl (lv_cs rfl (lv_cs rfl (lv_cs rfl rfl)))))
          rw [c_ep_n (C := C) (j := j) (k := k) (by first | exact Or.inl (by assumption) | exact Or.inl (hz k (by omega)) | exact Or.inr (fun q => by apply (by assumption : ¬ some (ad 0 (C 1 0 (C 2 4 k - 1).toNat - 1).toNat) = some (ad 0 j)); rw [q]; congr 2; omega))] at hP
          exact ih (k + 1) _ _ ls (by omega) (by omega) hP hS hl
        · rw [q_rf1 ad 1 h_3]
          have vh_3 : ((C 2 4 k) - 1).toNat < n 1 := q_rfl (by have q := hP.tok 2 4 k rfl; rw [c_ep_k] at q; exact q) h_3
          refine lv_ifnull X.1 X.2.1 dX4_emptyPrintersOf_33 ?_
          refine lv_aload X.1 X.2.1 dX4_emptyPrintersOf_36 (lv_at hl 0 rfl) ?_
          refine q_get (index := 87) (v := va_rf (q_rf ad 1 (C 2 4 k))) X hP 2 4 k rfl rfl (by decide) in2 h_2 (by decide) (by decide +kernel) (q_vch ad 1 (c_ep_k C j k)) dX4_emptyPrintersOf_38 ?_
          by_cases h_5 : (C 2 4 k) = 0
          · rw [q_rf0 ad 1 h_5]
            contradiction
          · rw [q_rf1 ad 1 h_5]
            have vh_5 : ((C 2 4 k) - 1).toNat < n 1 := q_rfl (by have q := hP.tok 2 4 k rfl; rw [c_ep_k] at q; exact q) h_5
            refine q_get (index := 101) (v := .ref (ad 0 ((C 1 0 (((C 2 4 k) - 1).toNat) - 1).toNat))) X hP 1 0 (((C 2 4 k) - 1).toNat) rfl rfl (by decide) in1 vh_5 (by decide) (by decide +kernel) (q_vnn ad 0 (c_jn hR (((C 2 4 k) - 1).toNat) vh_5)) dX4_emptyPrintersOf_41 ?_
            refine lv_aload_n X.1 X.2.1 dX4_emptyPrintersOf_44 rfl (lv_at hl 3 rfl) ?_
            refine lv_acmp_ne (tgt := 54) (rx := (some (ad 0 ((C 1 0 (((C 2 4 k) - 1).toNat) - 1).toNat)))) (ry := (some (ad 0 j))) X.1 X.2.1 dX4_emptyPrintersOf_45 (by decide) (fun h_6 => ?_) (fun h_6 => ?_)
            · refine q_iinc (lv' := [(4, .int (iI (((k : Nat) : Int) + 1))), (5, .ref (ad 2 k)), (0, .ref (ad 4 0)), (1, .ref (ad 0 j)), (2, .ref (ad 6 0)), (3, .int (iI (8)))]) (k := 1) X dX4_emptyPrintersOf_54 hl rfl (by decide) rfl (fun ls hl => ?_)
              refine lv_goto (tgt := 11) X.1 X.2.1 dX4_emptyPrintersOf_57 (by decide) ?_
              have e_7 : (((k : Nat) : Int) + 1) = (((k + 1) : Nat) : Int) := by omega
              have hl : lv_has ls 6 [(4, .int (iI (((k + 1) : Nat) : Int))), (0, .ref (ad 4 0)), (1, .ref (ad 0 j)), (2, .ref (ad 6 0)), (3, .int (iI (8)))] := lv_cong (show lv_has ls 6 [(4, .int (iI (((k : Nat) : Int) + 1))), (0, .ref (ad 4 0)), (1, .ref (ad 0 j)), (2, .ref (ad 6 0)), (3, .int (iI (8)))] from lv_sub hl [0, 2, 3, 4, 5] rfl) (lv_cs (congrArg (fun z => Value.int (iI z)) e_7) (lv_cs rfl (lv_cs rfl (lv_cs rfl (lv_cs rfl rfl)))))
              rw [c_ep_n (C := C) (j := j) (k := k) (by first | exact Or.inl (by assumption) | exact Or.inl (hz k (by omega)) | exact Or.inr (fun q => by apply (by assumption : ¬ some (ad 0 (C 1 0 (C 2 4 k - 1).toNat - 1).toNat) = some (ad 0 j)); rw [q]; congr 2; omega))] at hP
              exact ih (k + 1) _ _ ls (by omega) (by omega) hP hS hl
            · refine lv_aload X.1 X.2.1 dX4_emptyPrintersOf_48 (lv_at hl 0 rfl) ?_
              refine lv_null X.1 X.2.1 dX4_emptyPrintersOf_50 ?_
              refine q_put (index := 87) (v := .null) X hP hS 2 4 k ((0)) rfl rfl (by decide) in2 tyX2 tyX2_ok nmX2 h_2 (by decide) (by decide +kernel) rfl rfl rfl rfl (q_t0 _ _) dX4_emptyPrintersOf_51 (fun H locs hP hS => ?_)
              have hP : q_P g s0 n ad (q_up ((c_ep C j k)) 2 4 k ((0))) H := hP
              refine q_iinc (lv' := [(4, .int (iI (((k : Nat) : Int) + 1))), (5, .ref (ad 2 k)), (0, .ref (ad 4 0)), (1, .ref (ad 0 j)), (2, .ref (ad 6 0)), (3, .int (iI (8)))]) (k := 1) X dX4_emptyPrintersOf_54 hl rfl (by decide) rfl (fun ls hl => ?_)
              refine lv_goto (tgt := 11) X.1 X.2.1 dX4_emptyPrintersOf_57 (by decide) ?_
              have e_8 : (((k : Nat) : Int) + 1) = (((k + 1) : Nat) : Int) := by omega
              have hl : lv_has ls 6 [(4, .int (iI (((k + 1) : Nat) : Int))), (0, .ref (ad 4 0)), (1, .ref (ad 0 j)), (2, .ref (ad 6 0)), (3, .int (iI (8)))] := lv_cong (show lv_has ls 6 [(4, .int (iI (((k : Nat) : Int) + 1))), (0, .ref (ad 4 0)), (1, .ref (ad 0 j)), (2, .ref (ad 6 0)), (3, .int (iI (8)))] from lv_sub hl [0, 2, 3, 4, 5] rfl) (lv_cs (congrArg (fun z => Value.int (iI z)) e_8) (lv_cs rfl (lv_cs rfl (lv_cs rfl (lv_cs rfl rfl)))))
              have hj2 : C 1 0 (C 2 4 k - 1).toNat = (j : Int) + 1 := by have q2 := c_R10 hR (C 2 4 k - 1).toNat (by assumption); have q := q_rf_inj hP (i := (C 1 0 (C 2 4 k - 1).toNat - 1).toNat) (by omega) hj h_6; omega
              rw [c_ep_y (by assumption) hj2] at hP
              exact ih (k + 1) _ _ ls (by omega) (by omega) hP hS hl
      · refine q_rldv (len := 8) (v := 0) X hP 6 0 2 3 (by decide) rfl rfl rfl (c_va hC 0 6 (by decide)) rfl (by omega) (by omega) ((c_R6 hR k).trans (if_neg h_2)) dX4_emptyPrintersOf_20 ?_
        rw [q_rf0 ad 2 rfl]
        refine lv_astoreN (lv' := [(5, .null), (4, .int (iI ((k : Nat) : Int))), (0, .ref (ad 4 0)), (1, .ref (ad 0 j)), (2, .ref (ad 6 0)), (3, .int (iI (8)))]) X.1 X.2.1 dX4_emptyPrintersOf_21 hl (by decide) rfl (fun ls hl => ?_)
        refine lv_aloadN X.1 X.2.1 dX4_emptyPrintersOf_23 (lv_at hl 0 rfl) ?_
        refine lv_ifnullN (tgt := 54) X.1 X.2.1 dX4_emptyPrintersOf_25 (by decide) ?_
        refine q_iinc (lv' := [(4, .int (iI (((k : Nat) : Int) + 1))), (5, .null), (0, .ref (ad 4 0)), (1, .ref (ad 0 j)), (2, .ref (ad 6 0)), (3, .int (iI (8)))]) (k := 1) X dX4_emptyPrintersOf_54 hl rfl (by decide) rfl (fun ls hl => ?_)
        refine lv_goto (tgt := 11) X.1 X.2.1 dX4_emptyPrintersOf_57 (by decide) ?_
        have e_9 : (((k : Nat) : Int) + 1) = (((k + 1) : Nat) : Int) := by omega
        have hl : lv_has ls 6 [(4, .int (iI (((k + 1) : Nat) : Int))), (0, .ref (ad 4 0)), (1, .ref (ad 0 j)), (2, .ref (ad 6 0)), (3, .int (iI (8)))] := lv_cong (show lv_has ls 6 [(4, .int (iI (((k : Nat) : Int) + 1))), (0, .ref (ad 4 0)), (1, .ref (ad 0 j)), (2, .ref (ad 6 0)), (3, .int (iI (8)))] from lv_sub hl [0, 2, 3, 4, 5] rfl) (lv_cs (congrArg (fun z => Value.int (iI z)) e_9) (lv_cs rfl (lv_cs rfl (lv_cs rfl (lv_cs rfl rfl)))))
        rw [c_ep_n (C := C) (j := j) (k := k) (by first | exact Or.inl (by assumption) | exact Or.inl (hz k (by omega)) | exact Or.inr (fun q => by apply (by assumption : ¬ some (ad 0 (C 1 0 (C 2 4 k - 1).toNat - 1).toNat) = some (ad 0 j)); rw [q]; congr 2; omega))] at hP
        exact ih (k + 1) _ _ ls (by omega) (by omega) hP hS hl
set_option maxHeartbeats 4000000 in
set_option maxRecDepth 100000 in
theorem c_X4_emptyPrintersOf (l : Launch) (g : q_G) (s0 : Nat) (n : Nat → Nat) (ad : Nat → Nat → Nat) (C : q_S) (c0 : Nat) (hC : c_S C n) (hR : c_R C n c0) (hz : ∀ k, n 2 ≤ k → C 2 4 k = 0) (j : Nat) (hj : j < n 0) : Met l yX4_emptyPrintersOf wsX4_emptyPrintersOf ({ frames := 0, cells := 0, slots := 0, locals := 0 }) (va_Pc [.ref (ad 4 0), .ref (ad 0 j)] (q_B g s0 (n, ad, C))) (va_Qv (fun u => u = (n, ad, c_ep C j 8)) (q_B g s0) (q_A s0)) 0 0 (q_A s0) := by
  refine Met.ofW (cc := cX4_emptyPrintersOf) (maxL := 6) (ret := none) (by decide) rfl ?_
  intro p e s m args below meth c s₁ B hml hv
  obtain ⟨rfl, hv⟩ := hv
  have hr := B.returns
  have hlocks := B.notSynchronized
  obtain ⟨X, hP⟩ := q_start B.exec B.bytes hml (show s.vm.findClass RX4 = some m.cls from findClass_of_methodNamed B.named) (atoms_spec (ws := wsX4_emptyPrintersOf) B.pre) hv
  have hP : q_P g s0 n ad C s.heap := hP
  have hS : va_S (q_A s0) s.heap s.heap [] := va_S.rf
  have in1 : ∀ w ∈ wsX10, w ∈ wsX4_emptyPrintersOf := by decide +kernel
  have in2 : ∀ w ∈ wsX20, w ∈ wsX4_emptyPrintersOf := by decide +kernel
  have in4 : ∀ w ∈ wsX40, w ∈ wsX4_emptyPrintersOf := by decide +kernel
  have hl := lv_entry ([.ref (ad 4 0), .ref (ad 0 j)]) (n := 6) (Nat.le_of_ble_eq_true rfl)
  rw [lg_entry_eq]
  generalize (lg_sl ([.ref (ad 4 0), .ref (ad 0 j)]) ++ List.replicate (6 - (lg_sl ([.ref (ad 4 0), .ref (ad 0 j)])).length) Slot.unset).toArray = ls at hl ⊢
  have hl : lv_has ls 6 [(0, .ref (ad 4 0)), (1, .ref (ad 0 j))] := hl
  refine lv_aload_n X.1 X.2.1 dX4_emptyPrintersOf_0 rfl (lv_at hl 0 rfl) ?_
  refine q_get (index := 11) (v := .ref (ad 6 0)) X hP 4 0 0 rfl rfl (by decide) in4 (c_v4 hC) (by decide) (by decide +kernel) (c_r hC ad 0 6 (by decide)) dX4_emptyPrintersOf_1 ?_
  refine lv_astore_n (lv' := [(2, .ref (ad 6 0)), (0, .ref (ad 4 0)), (1, .ref (ad 0 j))]) X.1 X.2.1 dX4_emptyPrintersOf_4 rfl hl (by decide) rfl (fun ls hl => ?_)
  refine lv_aload_n X.1 X.2.1 dX4_emptyPrintersOf_5 rfl (lv_at hl 0 rfl) ?_
  refine q_len (z := 8) X hP 6 0 3 (by decide) rfl rfl (c_va hC 0 6 (by decide)) rfl dX4_emptyPrintersOf_6 ?_
  refine lv_istore_n (lv' := [(3, .int (iI (8))), (2, .ref (ad 6 0)), (0, .ref (ad 4 0)), (1, .ref (ad 0 j))]) X.1 X.2.1 dX4_emptyPrintersOf_7 rfl hl (by decide) rfl (fun ls hl => ?_)
  refine lv_iconst (v := iI (0)) X.1 X.2.1 dX4_emptyPrintersOf_8 rfl ?_
  refine lv_istore (lv' := [(4, .int (iI (0))), (3, .int (iI (8))), (2, .ref (ad 6 0)), (0, .ref (ad 4 0)), (1, .ref (ad 0 j))]) X.1 X.2.1 dX4_emptyPrintersOf_9 hl (by decide) rfl (fun ls hl => ?_)
  have e_1 : (0) = ((0 : Nat) : Int) := by rfl
  have hl : lv_has ls 6 [(4, .int (iI ((0 : Nat) : Int))), (0, .ref (ad 4 0)), (1, .ref (ad 0 j)), (2, .ref (ad 6 0)), (3, .int (iI (8)))] := lv_cong (show lv_has ls 6 [(4, .int (iI (0))), (0, .ref (ad 4 0)), (1, .ref (ad 0 j)), (2, .ref (ad 6 0)), (3, .int (iI (8)))] from lv_sub hl [0, 3, 4, 2, 1] rfl) (lv_cs (congrArg (fun z => Value.int (iI z)) e_1) (lv_cs rfl (lv_cs rfl (lv_cs rfl (lv_cs rfl rfl)))))
  have hP : q_P g s0 n ad (c_ep C j 0) s.heap := by rw [c_ep_0]; exact hP
  refine w_X4_emptyPrintersOf X in1 in2 in4 c0 hC hR hz j hj (fun H locs ls hP hS hl => ?_) 9 0 _ _ ls (by omega) (by omega) hP hS hl
  exact q_vret X hr hlocks hP hS rfl (Nat.le_of_ble_eq_true rfl) (Nat.le_of_ble_eq_true rfl) dX4_emptyPrintersOf_60
