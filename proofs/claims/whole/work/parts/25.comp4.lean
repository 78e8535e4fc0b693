section QTSW
variable {p : Program} {l : Launch} {e : Env} {R : Room} {s : State} {m : MethodId} {args : Array Value} {below : List Frame} {meth : Method} {c : Code} {H : Heap} {locs : List Loc} {cells slots : Nat} {Q : State → Prop}
variable {cc : ByteArray} {pc nL : Nat} {ls : Array Slot} {rest : List Value} {g : q_G} {s0 : Nat} {Ts : List Cond} {own : String}
theorem q_tsi (X : q_X p s m args c cc nL Ts own g s0) {dflt lo hi : Int} {offs : Array Int} {len : Nat} {a : Int} {off : Int} {tgt : Nat} (ha : R32 a) (hdg : decode cc pc = .ok (.tableswitch dflt lo hi offs, len)) (h1 : ¬ a < lo) (h2 : ¬ hi < a) (ho : offs[(a - lo).toNat]? = some off) (ht : (pc : Int) + off = (tgt : Int))
    (k : W p l e R s m args below meth c H locs cells slots Q (F0 m tgt ls rest)) : W p l e R s m args below meth c H locs cells slots Q (F0 m pc ls (.int (iI a) :: rest)) := lv_tableIn X.1 X.2.1 hdg (by rw [iI_t ha]; exact h1) (by rw [iI_t ha]; exact h2) (by rw [iI_t ha]; exact ho) ht k
theorem q_tso (X : q_X p s m args c cc nL Ts own g s0) {dflt lo hi : Int} {offs : Array Int} {len : Nat} {a : Int} {tgt : Nat} (ha : R32 a) (hdg : decode cc pc = .ok (.tableswitch dflt lo hi offs, len)) (h : a < lo ∨ hi < a) (ht : (pc : Int) + dflt = (tgt : Int))
    (k : W p l e R s m args below meth c H locs cells slots Q (F0 m tgt ls rest)) : W p l e R s m args below meth c H locs cells slots Q (F0 m pc ls (.int (iI a) :: rest)) := lv_tableOut X.1 X.2.1 hdg (by rw [iI_t ha]; exact h) ht k
end QTSW
theorem q_hz0 (ad : Nat → Nat → Nat) : ∀ k, k < 8 → defaultValue (tyX0 k) = q_val ad (q_ty 0 k) 0 := by
  intro k hk
  rcases (show k = 0 ∨ k = 1 ∨ k = 2 ∨ k = 3 ∨ k = 4 ∨ k = 5 ∨ k = 6 ∨ k = 7 by omega) with rfl | rfl | rfl | rfl | rfl | rfl | rfl | rfl <;> rfl
theorem q_hz1 (ad : Nat → Nat → Nat) : ∀ k, k < 7 → defaultValue (tyX1 k) = q_val ad (q_ty 1 k) 0 := by
  intro k hk
  rcases (show k = 0 ∨ k = 1 ∨ k = 2 ∨ k = 3 ∨ k = 4 ∨ k = 5 ∨ k = 6 by omega) with rfl | rfl | rfl | rfl | rfl | rfl | rfl <;> rfl
theorem q_hz2 (ad : Nat → Nat → Nat) : ∀ k, k < 6 → defaultValue (tyX2 k) = q_val ad (q_ty 2 k) 0 := by
  intro k hk
  rcases (show k = 0 ∨ k = 1 ∨ k = 2 ∨ k = 3 ∨ k = 4 ∨ k = 5 by omega) with rfl | rfl | rfl | rfl | rfl | rfl <;> rfl
theorem q_hz3 (ad : Nat → Nat → Nat) : ∀ k, k < 6 → defaultValue (tyX3 k) = q_val ad (q_ty 3 k) 0 := by
  intro k hk
  rcases (show k = 0 ∨ k = 1 ∨ k = 2 ∨ k = 3 ∨ k = 4 ∨ k = 5 by omega) with rfl | rfl | rfl | rfl | rfl | rfl <;> rfl
theorem q_up_up (C : q_S) (kd s i : Nat) (x y : Int) : q_up (q_up C kd s i x) kd s i y = q_up C kd s i y := by
  funext a b d
  unfold q_up
  split <;> rfl
theorem q_up_own {C : q_S} {kd s i : Nat} {x : Int} (h : x = C kd s i) : q_up C kd s i x = C := by
  funext a b d
  unfold q_up
  split
  · rename_i q
    obtain ⟨rfl, rfl, rfl⟩ := q
    exact h
  · rfl
theorem q_P_own {g : q_G} {s0 : Nat} {n : Nat → Nat} {ad : Nat → Nat → Nat} {D : q_S} {H : Heap} {kd s i : Nat} {x : Int} (e : D kd s i = x) (h : q_P g s0 n ad D H) : q_P g s0 n ad (q_up D kd s i x) H := by rw [q_up_own e.symm]; exact h
/-- what printing changes: a ticket's pages and sheets, a printer's mark, a part's pages and copies -/
def c_pst (C : q_S) (p i T : Nat) (x1 x2 x3 x4 x5 : Int) : q_S := q_up (q_up (q_up (q_up (q_up C 3 2 T x1) 3 3 T x2) 2 5 p x3) 1 5 i x4) 1 4 i x5
theorem c_pst_c (C : q_S) (p i T : Nat) (x1 x2 x3 x4 x5 y1 y2 y3 y4 y5 : Int) : c_pst (c_pst C p i T x1 x2 x3 x4 x5) p i T y1 y2 y3 y4 y5 = c_pst C p i T y1 y2 y3 y4 y5 := by
  funext a b d
  simp only [c_pst, q_up]
  by_cases h1 : a = 1 ∧ b = 4 ∧ d = i
  · simp [h1]
  · by_cases h2 : a = 1 ∧ b = 5 ∧ d = i
    · simp [h2]
    · by_cases h3 : a = 2 ∧ b = 5 ∧ d = p
      · simp [h3]
      · by_cases h4 : a = 3 ∧ b = 3 ∧ d = T
        · simp [h4]
        · by_cases h5 : a = 3 ∧ b = 2 ∧ d = T
          · simp [h5]
          · simp only [if_neg h1, if_neg h2, if_neg h3, if_neg h4, if_neg h5]
theorem c_pst_0 (C : q_S) (p i T : Nat) : c_pst C p i T (C 3 2 T) (C 3 3 T) (C 2 5 p) (C 1 5 i) (C 1 4 i) = C := by
  unfold c_pst
  rw [q_up_own (C := C) rfl, q_up_own (C := C) rfl, q_up_own (C := C) rfl, q_up_own (C := C) rfl, q_up_own (C := C) rfl]
def c_cn (P x a : Int) : Int := if P - x < a then P - x else a
def c_xn (P x c : Int) : Int := if P ≤ x + c then 0 else x + c
def c_wn (P x c w : Int) : Int := if P ≤ x + c then w + 1 else w
def c_sn (sd x c d : Int) : Int := if sd = 1 then c else c_sh2 x c d
/-- printing copy by copy: copies, pages of the copy that is begun, pages that came out, sheets, the mark -/
def c_sq (P K sd b w0 x0 s1 d0 : Int) : Nat → Int × Int × Int × Int × Int
  | 0 => (w0, x0, 0, s1, d0)
  | t + 1 => if (c_sq P K sd b w0 x0 s1 d0 t).2.2.1 < b ∧ (c_sq P K sd b w0 x0 s1 d0 t).1 < K then
      (c_wn P (c_sq P K sd b w0 x0 s1 d0 t).2.1 (c_cn P (c_sq P K sd b w0 x0 s1 d0 t).2.1 (b - (c_sq P K sd b w0 x0 s1 d0 t).2.2.1)) (c_sq P K sd b w0 x0 s1 d0 t).1,
       c_xn P (c_sq P K sd b w0 x0 s1 d0 t).2.1 (c_cn P (c_sq P K sd b w0 x0 s1 d0 t).2.1 (b - (c_sq P K sd b w0 x0 s1 d0 t).2.2.1)),
       (c_sq P K sd b w0 x0 s1 d0 t).2.2.1 + c_cn P (c_sq P K sd b w0 x0 s1 d0 t).2.1 (b - (c_sq P K sd b w0 x0 s1 d0 t).2.2.1),
       (c_sq P K sd b w0 x0 s1 d0 t).2.2.2.1 + c_sn sd (c_sq P K sd b w0 x0 s1 d0 t).2.1 (c_cn P (c_sq P K sd b w0 x0 s1 d0 t).2.1 (b - (c_sq P K sd b w0 x0 s1 d0 t).2.2.1)) (c_sq P K sd b w0 x0 s1 d0 t).2.2.2.2, 0)
    else c_sq P K sd b w0 x0 s1 d0 t
theorem c_sq_st {P K sd b w0 x0 s1 d0 : Int} {t : Nat} (h : ¬ ((c_sq P K sd b w0 x0 s1 d0 t).2.2.1 < b ∧ (c_sq P K sd b w0 x0 s1 d0 t).1 < K)) : ∀ i, c_sq P K sd b w0 x0 s1 d0 (t + i) = c_sq P K sd b w0 x0 s1 d0 t := by
  intro i
  induction i with
  | zero => rfl
  | succ i ih => rw [← Nat.add_assoc, c_sq, ih, if_neg h]
theorem c_sh2_b {a b d : Int} (ha : 0 ≤ a) (hb : 0 ≤ b) : 0 ≤ c_sh2 a b d ∧ c_sh2 a b d ≤ b + 1 := by
  unfold c_sh2
  split <;> omega
theorem c_sn_b {sd x c d : Int} (hx : 0 ≤ x) (hc : 0 ≤ c) : 0 ≤ c_sn sd x c d ∧ c_sn sd x c d ≤ c + 1 := by
  have := c_sh2_b (d := d) hx hc
  unfold c_sn
  split <;> omega
theorem c_sq_i {P K sd b w0 x0 s1 d0 : Int} (hP : 1 ≤ P ∧ P ≤ 500) (hx : 0 ≤ x0 ∧ x0 < P) (hw : 0 ≤ w0 ∧ w0 ≤ K) (hb : 0 ≤ b) (hd : d0 = 0 ∨ d0 = 1) (t : Nat) :
    (0 ≤ (c_sq P K sd b w0 x0 s1 d0 t).1 ∧ (c_sq P K sd b w0 x0 s1 d0 t).1 ≤ K) ∧ (0 ≤ (c_sq P K sd b w0 x0 s1 d0 t).2.1 ∧ (c_sq P K sd b w0 x0 s1 d0 t).2.1 < P) ∧ (0 ≤ (c_sq P K sd b w0 x0 s1 d0 t).2.2.1 ∧ (c_sq P K sd b w0 x0 s1 d0 t).2.2.1 ≤ b) ∧
    (s1 ≤ (c_sq P K sd b w0 x0 s1 d0 t).2.2.2.1 ∧ (c_sq P K sd b w0 x0 s1 d0 t).2.2.2.1 ≤ s1 + (c_sq P K sd b w0 x0 s1 d0 t).2.2.1 + t) ∧ ((c_sq P K sd b w0 x0 s1 d0 t).2.2.2.2 = 0 ∨ (c_sq P K sd b w0 x0 s1 d0 t).2.2.2.2 = 1) := by
  induction t with
  | zero => simp only [c_sq]; omega
  | succ t ih =>
    rw [c_sq]
    generalize c_sq P K sd b w0 x0 s1 d0 t = q at ih ⊢
    obtain ⟨w, x, o, s, d⟩ := q
    simp only at ih ⊢
    split
    · rename_i h
      have h1 : 0 ≤ c_cn P x (b - o) ∧ c_cn P x (b - o) ≤ b - o ∧ x + c_cn P x (b - o) ≤ P := by
        unfold c_cn
        split <;> omega
      have h2 := c_sn_b (sd := sd) (d := d) ih.2.1.1 h1.1
      have h3 : 0 ≤ c_xn P x (c_cn P x (b - o)) ∧ c_xn P x (c_cn P x (b - o)) < P := by
        unfold c_xn
        split <;> omega
      have h4 : w ≤ c_wn P x (c_cn P x (b - o)) w ∧ c_wn P x (c_cn P x (b - o)) w ≤ w + 1 := by
        unfold c_wn
        split <;> omega
      refine ⟨⟨?_, ?_⟩, ⟨?_, ?_⟩, ⟨?_, ?_⟩, ⟨?_, ?_⟩, Or.inl rfl⟩ <;> simp only <;> omega
    · refine ⟨⟨?_, ?_⟩, ⟨?_, ?_⟩, ⟨?_, ?_⟩, ⟨?_, ?_⟩, ih.2.2.2.2⟩ <;> simp only <;> omega
set_option maxHeartbeats 4000000 in
set_option maxRecDepth 100000 in
theorem c_X4_printInCopy (l : Launch) (g : q_G) (s0 : Nat) (n : Nat → Nat) (ad : Nat → Nat → Nat) (C : q_S) (p0 : Nat) (hp : p0 < n 2) (i : Nat) (hi : i < n 1) (j : Nat) (hj : j < n 0) (hjb : C 1 0 i = (j : Int) + 1) (T : Nat) (hT : T < n 3) (htk : C 0 1 j = (T : Int) + 1) (h02 : 1 ≤ C 0 2 j ∧ C 0 2 j ≤ 500) (h15 : 0 ≤ C 1 5 i ∧ C 1 5 i < C 0 2 j) (h14 : 0 ≤ C 1 4 i ∧ C 1 4 i ≤ 99) (h32 : 0 ≤ C 3 2 T ∧ C 3 2 T ≤ 1000000000) (h33 : 0 ≤ C 3 3 T ∧ C 3 3 T ≤ 1000000000) (a : Int) (ha : 0 ≤ a ∧ a ≤ 50000) : Met l yX4_printInCopy wsX4_printInCopy ({ frames := 1, cells := 0, slots := 0, locals := 24 }) (va_Pc [.ref (ad 2 p0), .ref (ad 1 i), .int (iI a)] (q_B g s0 (n, ad, C))) (va_Qi (fun r u => u = (n, ad, c_pst C p0 i T (C 3 2 T + (c_cn (C 0 2 j) (C 1 5 i) a)) (C 3 3 T + c_sn (C 3 1 T) (C 1 5 i) (c_cn (C 0 2 j) (C 1 5 i) a) (C 2 5 p0)) 0 (c_xn (C 0 2 j) (C 1 5 i) (c_cn (C 0 2 j) (C 1 5 i) a)) (c_wn (C 0 2 j) (C 1 5 i) (c_cn (C 0 2 j) (C 1 5 i) a) (C 1 4 i))) ∧ r = iI (c_cn (C 0 2 j) (C 1 5 i) a)) (q_B g s0) (q_A s0)) 0 0 (q_A s0) := by
  refine Met.ofW (cc := cX4_printInCopy) (maxL := 6) (ret := (some .int)) (by decide) rfl ?_
  intro p e s m args below meth c s₁ B hml hv
  obtain ⟨rfl, hv⟩ := hv
  have hr := B.returns
  have hlocks := B.notSynchronized
  obtain ⟨X, hP⟩ := q_start B.exec B.bytes hml (show s.vm.findClass RX4 = some m.cls from findClass_of_methodNamed B.named) (atoms_spec (ws := wsX4_printInCopy) B.pre) hv
  have hP : q_P g s0 n ad C s.heap := hP
  have hS : va_S (q_A s0) s.heap s.heap [] := va_S.rf
  have in0 : ∀ w ∈ wsX00, w ∈ wsX4_printInCopy := by decide +kernel
  have in1 : ∀ w ∈ wsX10, w ∈ wsX4_printInCopy := by decide +kernel
  have in2 : ∀ w ∈ wsX20, w ∈ wsX4_printInCopy := by decide +kernel
  have in3 : ∀ w ∈ wsX30, w ∈ wsX4_printInCopy := by decide +kernel
  have hl := lv_entry ([.ref (ad 2 p0), .ref (ad 1 i), .int (iI a)]) (n := 6) (Nat.le_of_ble_eq_true rfl)
  rw [lg_entry_eq]
  generalize (lg_sl ([.ref (ad 2 p0), .ref (ad 1 i), .int (iI a)]) ++ List.replicate (6 - (lg_sl ([.ref (ad 2 p0), .ref (ad 1 i), .int (iI a)])).length) Slot.unset).toArray = ls at hl ⊢
  have hl : lv_has ls 6 [(0, .ref (ad 2 p0)), (1, .ref (ad 1 i)), (2, .int (iI a))] := hl
  refine lv_aload_n X.1 X.2.1 dX4_printInCopy_0 rfl (lv_at hl 1 rfl) ?_
  refine q_get (index := 122) (v := .int (iI (C 1 5 i))) X hP 1 5 i rfl rfl (by decide) in1 hi (by decide) (by decide +kernel) rfl dX4_printInCopy_1 ?_
  refine lv_istore_n (lv' := [(3, .int (iI (C 1 5 i))), (0, .ref (ad 2 p0)), (1, .ref (ad 1 i)), (2, .int (iI a))]) X.1 X.2.1 dX4_printInCopy_4 rfl hl (by decide) rfl (fun ls hl => ?_)
  refine lv_iload_n X.1 X.2.1 dX4_printInCopy_5 rfl (lv_at hl 3 rfl) ?_
  refine lv_aload_n X.1 X.2.1 dX4_printInCopy_6 rfl (lv_at hl 2 rfl) ?_
  refine q_get (index := 101) (v := .ref (ad 0 j)) X hP 1 0 i rfl rfl (by decide) in1 hi (by decide) (by decide +kernel) (q_vn ad 0 j hjb) dX4_printInCopy_7 ?_
  refine q_get (index := 229) (v := .int (iI (C 0 2 j))) X hP 0 2 j rfl rfl (by decide) in0 hj (by decide) (by decide +kernel) rfl dX4_printInCopy_10 ?_
  refine lv_iload_n X.1 X.2.1 dX4_printInCopy_13 rfl (lv_at hl 0 rfl) ?_
  refine q_isub X dX4_printInCopy_14 ?_
  refine q_mmin (z := (c_cn (C 0 2 j) (C 1 5 i) a)) X (by rw [hl.1]; exact X.2.2.1) (by omega) (by omega) rfl (by decide +kernel) (by decide +kernel) (by decide +kernel) (by decide +kernel) (Nat.le_of_ble_eq_true rfl) (Nat.le_of_ble_eq_true rfl) (Nat.le_of_ble_eq_true rfl) (Nat.le_of_ble_eq_true rfl) dX4_printInCopy_15 ?_
  have fc : 0 ≤ (c_cn (C 0 2 j) (C 1 5 i) a) ∧ (c_cn (C 0 2 j) (C 1 5 i) a) ≤ 500 ∧ (c_cn (C 0 2 j) (C 1 5 i) a) ≤ a ∧ C 1 5 i + (c_cn (C 0 2 j) (C 1 5 i) a) ≤ C 0 2 j := by unfold c_cn; split <;> omega
  refine lv_istore (lv' := [(4, .int (iI (c_cn (C 0 2 j) (C 1 5 i) a))), (3, .int (iI (C 1 5 i))), (0, .ref (ad 2 p0)), (1, .ref (ad 1 i)), (2, .int (iI a))]) X.1 X.2.1 dX4_printInCopy_18 hl (by decide) rfl (fun ls hl => ?_)
  refine lv_aload_n X.1 X.2.1 dX4_printInCopy_20 rfl (lv_at hl 3 rfl) ?_
  refine q_get (index := 101) (v := .ref (ad 0 j)) X hP 1 0 i rfl rfl (by decide) in1 hi (by decide) (by decide +kernel) (q_vn ad 0 j hjb) dX4_printInCopy_21 ?_
  refine q_get (index := 215) (v := .ref (ad 3 T)) X hP 0 1 j rfl rfl (by decide) in0 hj (by decide) (by decide +kernel) (q_vn ad 3 T htk) dX4_printInCopy_24 ?_
  refine lv_astore (lv' := [(5, .ref (ad 3 T)), (4, .int (iI (c_cn (C 0 2 j) (C 1 5 i) a))), (3, .int (iI (C 1 5 i))), (0, .ref (ad 2 p0)), (1, .ref (ad 1 i)), (2, .int (iI a))]) X.1 X.2.1 dX4_printInCopy_27 hl (by decide) rfl (fun ls hl => ?_)
  refine lv_aload X.1 X.2.1 dX4_printInCopy_29 (lv_at hl 0 rfl) ?_
  refine lv_dup X.1 X.2.1 dX4_printInCopy_31 rfl ?_
  refine q_get (index := 169) (v := .long (jI (C 3 2 T))) X hP 3 2 T rfl rfl (by decide) in3 hT (by decide) (by decide +kernel) rfl dX4_printInCopy_32 ?_
  refine lv_iload X.1 X.2.1 dX4_printInCopy_35 (lv_at hl 1 rfl) ?_
  refine q_i2l X (by omega) dX4_printInCopy_37 ?_
  refine q_ladd X dX4_printInCopy_38 ?_
  refine q_put (index := 169) (v := .long (jI ((C 3 2 T) + (c_cn (C 0 2 j) (C 1 5 i) a)))) X hP hS 3 2 T (((C 3 2 T) + (c_cn (C 0 2 j) (C 1 5 i) a))) rfl rfl (by decide) in3 tyX3 tyX3_ok nmX3 hT (by decide) (by decide +kernel) rfl rfl rfl rfl (show R64 _ from (by omega)) dX4_printInCopy_39 (fun H locs hP hS => ?_)
  have hP : q_P g s0 n ad (q_up C 3 2 T (((C 3 2 T) + (c_cn (C 0 2 j) (C 1 5 i) a)))) H := hP
  refine lv_aload X.1 X.2.1 dX4_printInCopy_42 (lv_at hl 0 rfl) ?_
  refine lv_dup X.1 X.2.1 dX4_printInCopy_44 rfl ?_
  refine q_get (index := 172) (v := .long (jI (C 3 3 T))) X hP 3 3 T rfl rfl (by decide) in3 hT (by decide) (by decide +kernel) rfl dX4_printInCopy_45 ?_
  refine lv_aload X.1 X.2.1 dX4_printInCopy_48 (lv_at hl 0 rfl) ?_
  refine q_get (index := 238) (v := .int (iI (C 3 1 T))) X hP 3 1 T rfl rfl (by decide) in3 hT (by decide) (by decide +kernel) rfl dX4_printInCopy_50 ?_
  refine lv_iconst (v := iI (1)) X.1 X.2.1 dX4_printInCopy_53 rfl ?_
  refine q_icmp_ne (tgt := 63) X (hP.tok 3 1 T rfl) (by decide) dX4_printInCopy_54 (by decide) (fun h_1 => ?_) (fun h_1 => ?_)
  · refine lv_iload_n X.1 X.2.1 dX4_printInCopy_63 rfl (lv_at hl 2 rfl) ?_
    refine lv_iload X.1 X.2.1 dX4_printInCopy_64 (lv_at hl 1 rfl) ?_
    refine lv_aload_n X.1 X.2.1 dX4_printInCopy_66 rfl (lv_at hl 3 rfl) ?_
    refine q_get (index := 226) (v := .int (iI (C 2 5 p0))) X hP 2 5 p0 rfl rfl (by decide) in2 hp (by decide) (by decide +kernel) rfl dX4_printInCopy_67 ?_
    refine va_calli (va_runS (As := [.int (iI (C 1 5 i)), .int (iI (c_cn (C 0 2 j) (C 1 5 i) a)), .int (iI (C 2 5 p0))]) (rest := [.long (jI (C 3 3 T)), .ref (ad 3 T)]) X.fix (c_X4_sheetsOfTwoSides l g s0 n ad (q_up C 3 2 T (((C 3 2 T) + (c_cn (C 0 2 j) (C 1 5 i) a)))) (C 1 5 i) (c_cn (C 0 2 j) (C 1 5 i) a) (C 2 5 p0) (by omega) (by omega) (hP.tok 2 5 p0 rfl)) (va_cwS 3 X.2.2.2.2.1 gX4_printInCopy_X4_sheetsOfTwoSides rfl rfl rfl (by decide +kernel) ⟨Nat.le_of_ble_eq_true rfl, Nat.le_of_ble_eq_true rfl⟩) (q_preS X hP hS _) rfl rfl hl.1 rfl (lv_room (Nat.le_of_ble_eq_true rfl)) dX4_printInCopy_70 ⟨Nat.le_of_ble_eq_true rfl, Nat.le_of_ble_eq_true rfl⟩) hS q_id q_id1 (fun r u t H locs ht hvm hw hB hz1 hk1 hS => ?_)
    obtain ⟨rfl, rfl⟩ := hw
    have hP : q_P g s0 n ad (q_up C 3 2 T (((C 3 2 T) + (c_cn (C 0 2 j) (C 1 5 i) a)))) H := q_back hB ht
    have fs := c_sh2_b (a := C 1 5 i) (b := (c_cn (C 0 2 j) (C 1 5 i) a)) (d := C 2 5 p0) (by omega) (by omega)
    refine q_i2l X (by omega) dX4_printInCopy_73 ?_
    refine q_ladd X dX4_printInCopy_74 ?_
    refine q_put (index := 172) (v := .long (jI ((C 3 3 T) + (c_sh2 (C 1 5 i) (c_cn (C 0 2 j) (C 1 5 i) a) (C 2 5 p0))))) X hP hS 3 3 T (((C 3 3 T) + (c_sh2 (C 1 5 i) (c_cn (C 0 2 j) (C 1 5 i) a) (C 2 5 p0)))) rfl rfl (by decide) in3 tyX3 tyX3_ok nmX3 hT (by decide) (by decide +kernel) rfl rfl rfl rfl (show R64 _ from (by omega)) dX4_printInCopy_75 (fun H locs hP hS => ?_)
    have hP : q_P g s0 n ad (q_up (q_up C 3 2 T (((C 3 2 T) + (c_cn (C 0 2 j) (C 1 5 i) a)))) 3 3 T (((C 3 3 T) + (c_sh2 (C 1 5 i) (c_cn (C 0 2 j) (C 1 5 i) a) (C 2 5 p0))))) H := hP
    refine lv_aload_n X.1 X.2.1 dX4_printInCopy_78 rfl (lv_at hl 3 rfl) ?_
    refine lv_iconst (v := iI (0)) X.1 X.2.1 dX4_printInCopy_79 rfl ?_
    refine q_put (index := 226) (v := .int (iI (0))) X hP hS 2 5 p0 ((0)) rfl rfl (by decide) in2 tyX2 tyX2_ok nmX2 hp (by decide) (by decide +kernel) rfl rfl (q_zn (Or.inl rfl)) (q_zf (Or.inl rfl)) (Or.inl rfl) dX4_printInCopy_80 (fun H locs hP hS => ?_)
    have hP : q_P g s0 n ad (q_up (q_up (q_up C 3 2 T (((C 3 2 T) + (c_cn (C 0 2 j) (C 1 5 i) a)))) 3 3 T (((C 3 3 T) + (c_sh2 (C 1 5 i) (c_cn (C 0 2 j) (C 1 5 i) a) (C 2 5 p0))))) 2 5 p0 ((0))) H := hP
    refine lv_aload_n X.1 X.2.1 dX4_printInCopy_83 rfl (lv_at hl 4 rfl) ?_
    refine lv_iload X.1 X.2.1 dX4_printInCopy_84 (lv_at hl 1 rfl) ?_
    refine va_callv (va_runV (As := [.int (iI (c_cn (C 0 2 j) (C 1 5 i) a))]) (rest := []) X.fix (c_X1_countPages l g s0 n ad (q_up (q_up (q_up C 3 2 T (((C 3 2 T) + (c_cn (C 0 2 j) (C 1 5 i) a)))) 3 3 T (((C 3 3 T) + (c_sh2 (C 1 5 i) (c_cn (C 0 2 j) (C 1 5 i) a) (C 2 5 p0))))) 2 5 p0 ((0))) i hi j hj hjb (show 0 ≤ C 1 5 i ∧ C 1 5 i ≤ 500 from by omega) (show 0 ≤ C 1 4 i ∧ C 1 4 i ≤ 100 from by omega) (c_cn (C 0 2 j) (C 1 5 i) a) (by omega)) (cwV 1 X.2.2.2.2.1 gX4_printInCopy_X1_countPages rfl rfl rfl (by decide +kernel) ⟨Nat.le_of_ble_eq_true rfl, Nat.le_of_ble_eq_true rfl⟩) (q_preV X hP hS [.int (iI (c_cn (C 0 2 j) (C 1 5 i) a))] (kd := 1) (by decide) rfl hi) rfl rfl hl.1 rfl (lv_room (Nat.le_of_ble_eq_true rfl)) dX4_printInCopy_86 ⟨Nat.le_of_ble_eq_true rfl, Nat.le_of_ble_eq_true rfl⟩) hS q_id q_id1 (fun u t H locs ht hvm hw hB hz1 hk1 hS => ?_)
    have hP : q_P g s0 n ad (c_pst C p0 i T (C 3 2 T + (c_cn (C 0 2 j) (C 1 5 i) a)) (C 3 3 T + c_sn (C 3 1 T) (C 1 5 i) (c_cn (C 0 2 j) (C 1 5 i) a) (C 2 5 p0)) 0 (c_xn (C 0 2 j) (C 1 5 i) (c_cn (C 0 2 j) (C 1 5 i) a)) (c_wn (C 0 2 j) (C 1 5 i) (c_cn (C 0 2 j) (C 1 5 i) a) (C 1 4 i))) H := by
      have es : (c_sh2 (C 1 5 i) (c_cn (C 0 2 j) (C 1 5 i) a) (C 2 5 p0)) = c_sn (C 3 1 T) (C 1 5 i) (c_cn (C 0 2 j) (C 1 5 i) a) (C 2 5 p0) := by unfold c_sn; first | (rw [if_pos (by assumption)]; done) | (rw [if_neg (by assumption)]; done)
      rcases hw with ⟨hx, rfl⟩ | ⟨hx, rfl⟩
      · have hx : C 1 5 i + (c_cn (C 0 2 j) (C 1 5 i) a) < C 0 2 j := hx
        have hP0 := q_back hB ht
        dsimp only at hP0
        unfold c_pst c_xn c_wn; rw [if_neg (by omega), if_neg (by omega), ← es]; exact q_P_own rfl hP0
      · have hx : C 0 2 j ≤ C 1 5 i + (c_cn (C 0 2 j) (C 1 5 i) a) := hx
        have hP0 := q_back hB ht
        dsimp only at hP0
        rw [q_up_up] at hP0
        unfold c_pst c_xn c_wn; rw [if_pos hx, if_pos hx, ← es]; exact hP0
    obtain ⟨u0, hu0⟩ : ∃ u0 : q_U, u0 = u := ⟨_, rfl⟩
    refine lv_iload X.1 X.2.1 dX4_printInCopy_89 (lv_at hl 1 rfl) ?_
    exact q_iret X hr hlocks hP hS ⟨rfl, rfl⟩ (Nat.le_of_ble_eq_true rfl) (Nat.le_of_ble_eq_true rfl) dX4_printInCopy_91
  · refine lv_iload X.1 X.2.1 dX4_printInCopy_57 (lv_at hl 1 rfl) ?_
    refine q_i2l X (by omega) dX4_printInCopy_59 ?_
    refine lv_goto (tgt := 74) X.1 X.2.1 dX4_printInCopy_60 (by decide) ?_
    refine q_ladd X dX4_printInCopy_74 ?_
    refine q_put (index := 172) (v := .long (jI ((C 3 3 T) + (c_cn (C 0 2 j) (C 1 5 i) a)))) X hP hS 3 3 T (((C 3 3 T) + (c_cn (C 0 2 j) (C 1 5 i) a))) rfl rfl (by decide) in3 tyX3 tyX3_ok nmX3 hT (by decide) (by decide +kernel) rfl rfl rfl rfl (show R64 _ from (by omega)) dX4_printInCopy_75 (fun H locs hP hS => ?_)
    have hP : q_P g s0 n ad (q_up (q_up C 3 2 T (((C 3 2 T) + (c_cn (C 0 2 j) (C 1 5 i) a)))) 3 3 T (((C 3 3 T) + (c_cn (C 0 2 j) (C 1 5 i) a)))) H := hP
    refine lv_aload_n X.1 X.2.1 dX4_printInCopy_78 rfl (lv_at hl 3 rfl) ?_
    refine lv_iconst (v := iI (0)) X.1 X.2.1 dX4_printInCopy_79 rfl ?_
    refine q_put (index := 226) (v := .int (iI (0))) X hP hS 2 5 p0 ((0)) rfl rfl (by decide) in2 tyX2 tyX2_ok nmX2 hp (by decide) (by decide +kernel) rfl rfl (q_zn (Or.inl rfl)) (q_zf (Or.inl rfl)) (Or.inl rfl) dX4_printInCopy_80 (fun H locs hP hS => ?_)
    have hP : q_P g s0 n ad (q_up (q_up (q_up C 3 2 T (((C 3 2 T) + (c_cn (C 0 2 j) (C 1 5 i) a)))) 3 3 T (((C 3 3 T) + (c_cn (C 0 2 j) (C 1 5 i) a)))) 2 5 p0 ((0))) H := hP
    refine lv_aload_n X.1 X.2.1 dX4_printInCopy_83 rfl (lv_at hl 4 rfl) ?_
    refine lv_iload X.1 X.2.1 dX4_printInCopy_84 (lv_at hl 1 rfl) ?_
    refine va_callv (va_runV (As := [.int (iI (c_cn (C 0 2 j) (C 1 5 i) a))]) (rest := []) X.fix (c_X1_countPages l g s0 n ad (q_up (q_up (q_up C 3 2 T (((C 3 2 T) + (c_cn (C 0 2 j) (C 1 5 i) a)))) 3 3 T (((C 3 3 T) + (c_cn (C 0 2 j) (C 1 5 i) a)))) 2 5 p0 ((0))) i hi j hj hjb (show 0 ≤ C 1 5 i ∧ C 1 5 i ≤ 500 from by omega) (show 0 ≤ C 1 4 i ∧ C 1 4 i ≤ 100 from by omega) (c_cn (C 0 2 j) (C 1 5 i) a) (by omega)) (cwV 1 X.2.2.2.2.1 gX4_printInCopy_X1_countPages rfl rfl rfl (by decide +kernel) ⟨Nat.le_of_ble_eq_true rfl, Nat.le_of_ble_eq_true rfl⟩) (q_preV X hP hS [.int (iI (c_cn (C 0 2 j) (C 1 5 i) a))] (kd := 1) (by decide) rfl hi) rfl rfl hl.1 rfl (lv_room (Nat.le_of_ble_eq_true rfl)) dX4_printInCopy_86 ⟨Nat.le_of_ble_eq_true rfl, Nat.le_of_ble_eq_true rfl⟩) hS q_id q_id1 (fun u t H locs ht hvm hw hB hz1 hk1 hS => ?_)
    have hP : q_P g s0 n ad (c_pst C p0 i T (C 3 2 T + (c_cn (C 0 2 j) (C 1 5 i) a)) (C 3 3 T + c_sn (C 3 1 T) (C 1 5 i) (c_cn (C 0 2 j) (C 1 5 i) a) (C 2 5 p0)) 0 (c_xn (C 0 2 j) (C 1 5 i) (c_cn (C 0 2 j) (C 1 5 i) a)) (c_wn (C 0 2 j) (C 1 5 i) (c_cn (C 0 2 j) (C 1 5 i) a) (C 1 4 i))) H := by
      have es : (c_cn (C 0 2 j) (C 1 5 i) a) = c_sn (C 3 1 T) (C 1 5 i) (c_cn (C 0 2 j) (C 1 5 i) a) (C 2 5 p0) := by unfold c_sn; first | (rw [if_pos (by assumption)]; done) | (rw [if_neg (by assumption)]; done)
      rcases hw with ⟨hx, rfl⟩ | ⟨hx, rfl⟩
      · have hx : C 1 5 i + (c_cn (C 0 2 j) (C 1 5 i) a) < C 0 2 j := hx
        have hP0 := q_back hB ht
        dsimp only at hP0
        unfold c_pst c_xn c_wn; rw [if_neg (by omega), if_neg (by omega), ← es]; exact q_P_own rfl hP0
      · have hx : C 0 2 j ≤ C 1 5 i + (c_cn (C 0 2 j) (C 1 5 i) a) := hx
        have hP0 := q_back hB ht
        dsimp only at hP0
        rw [q_up_up] at hP0
        unfold c_pst c_xn c_wn; rw [if_pos hx, if_pos hx, ← es]; exact hP0
    obtain ⟨u0, hu0⟩ : ∃ u0 : q_U, u0 = u := ⟨_, rfl⟩
    refine lv_iload X.1 X.2.1 dX4_printInCopy_89 (lv_at hl 1 rfl) ?_
    exact q_iret X hr hlocks hP hS ⟨rfl, rfl⟩ (Nat.le_of_ble_eq_true rfl) (Nat.le_of_ble_eq_true rfl) dX4_printInCopy_91
