/-! THE CLAIM OUT OF ONE WALK OF THE LAW'S BODY. Your part is whole_start (and what it stands on); all else here is the same for every law, but numbers. -/
def R_law : String := "PrintQueueLaw"
def lw_P (b : Addr) (xs : List Int32) (args : Array Value) (s : State) : Prop := args = #[.ref b] ∧ s.IntsAt b xs ∧ xs.length ≤ 3584 ∧ (Jvm.Cond.and given_1 narrow_1).before args s = true
def lw_Q (_ : Array Value) (s : State) (o : Outcome) (t : State) : Prop := o = .returned (some (.int 1)) ∧ Framed s o t [] 601024 7293034
def lw_Z (below : List Frame) (a : Array Value) (s : State) : State → Prop := fun t => ∃ o, t.status = .running ∧ Ended t below o ∧ lw_Q a s o t
/-- the law's own end, with 1 on the stack, nothing written that was there before, its room as the claim has it -/
theorem lw_ret {p : Program} {l : Launch} {e : Env} {s : State} {m : MethodId} {below : List Frame} {meth : Method} {c : Code} {b : Nat} (hx : p.tables.exec = Jvm.exec) (hb : c.code = code) (hr : meth.sig.returnType = ret) (hlocks : meth.locks = false) {pc : Nat} {H : Heap} {ls : Array Slot} (hdg : decode code pc = .ok (.ireturn, 1)) : W p l e room_1 s m #[Value.ref b] below meth c H [] 601024 7293034 (lw_Z below #[Value.ref b] s) (F0 m pc ls [.int 1]) := by
  intro T hT X
  obtain ⟨fs, hret, hrun, hended, hW, hframe⟩ := X.leave (v := some (.int 1)) (hlocks := hlocks) (fun h => by rw [hr] at h; cases h)
  have hmeth' : T.vm.method? m = some meth := X.method'
  refine ⟨T.setFrames fs, ?_, .returned (some (.int 1)), hrun, hended, rfl, ⟨_, rfl⟩, hW, hframe⟩
  jvm_step X.here [X.here.top, hx, hb, hdg, hmeth', hr, ret, narrow_b1]
  (try refine ⟨rfl, ?_⟩); (try refine ⟨rfl, ?_⟩)
  first | (intro acts; rw [hret _ acts rfl rfl rfl]) | rw [hret _ _ rfl rfl rfl]
  exact Steps.refl _
/-- what holds at the law's entry: the machine, the code, the tables' words (any of lw_tbl by 'hts w (by decide +kernel)'), the script of L ints xs at the cell b, what the Statement gives of the start (any of its parts by flat_of_before) -/
def lw_At (p : Program) (s : State) (m : MethodId) (meth : Method) (c : Code) (b L : Nat) (xs : Nat → Int32) : Prop :=
  p.tables.exec = Jvm.exec ∧ c.code = code ∧ meth.sig.returnType = ret ∧ c.maxLocals = 8 ∧ s.vm.findClass R_law = some m.cls ∧ (∀ w ∈ lw_tbl, w.before #[Value.ref b] s = true) ∧ va_X b L xs s s.heap ∧ b < s.heap.size ∧ meth.locks = false ∧ (Jvm.Cond.and given_1 narrow_1).before #[Value.ref b] s = true
theorem q_AT {s : State} {args : Array Value} {ty : FieldType} (h : (Cond.arrayClass ty).before args s = true) (hn : ∀ C, ty ≠ .object C) : ∃ cA, ArrOfT s cA ty ∧ va_RA s cA ty := by
  obtain ⟨cA, kA, comp, h1, h2, h3⟩ := Cond.arrayClass_spec h
  refine ⟨cA, fun n z => ⟨fun k h => (by cases h), kA, h2, comp, h3⟩, ?_⟩
  cases ty with
  | object C => exact absurd rfl (hn C)
  | _ => exact h1
theorem q_AR {s : State} {C : String} (h : va_AO C s) : ∃ cA, ArrOfT s cA (.object C) ∧ va_RA s cA (.object C) := by
  obtain ⟨comp, cA, kA, h1, -, h3, h4, h5⟩ := Cond.arrayOver_spec h
  exact ⟨cA, fun n z => ⟨fun k h => (by cases h), kA, h3, comp, h4⟩, kA, comp, h3, h4, h1, h5⟩
set_option maxHeartbeats 4000000 in
set_option maxRecDepth 100000 in
theorem whole_start {p : Program} {e : Env} {s : State} {m : MethodId} {below : List Frame} {meth : Method} {c : Code} (l : Launch) (htr : l.stackTraces = false) {b L : Nat} {xs : Nat → Int32} (hL : L ≤ 3584) (C0 : lw_At p s m meth c b L xs) : W p l e room_1 s m #[Value.ref b] below meth c s.heap [] 0 0 (lw_Z below #[Value.ref b] s) (entryFrame m ([Value.ref b] : List Value).toArray 8) := by
  obtain ⟨hx, hb, hr, hml, hown, hts, hXs, hbl, hlocks, hgv⟩ := C0
  have hfl := flat_of_before _ hgv
  have hw : ∀ w ∈ wsL_law, w.before #[Value.ref b] s = true := fun w h => hts w (wsL_law_in w h)
  obtain ⟨c0, iS0, hKn0⟩ := u_known (C := RX0) (T := TX0) (N := 8) (n := 8) hw inlX0 (hts (.instantiable RX0 8) (by decide +kernel))
  obtain ⟨c1, iS1, hKn1⟩ := u_known (C := RX1) (T := TX1) (N := 7) (n := 7) hw inlX1 (hts (.instantiable RX1 7) (by decide +kernel))
  obtain ⟨c2, iS2, hKn2⟩ := u_known (C := RX2) (T := TX2) (N := 6) (n := 6) hw inlX2 (hts (.instantiable RX2 6) (by decide +kernel))
  obtain ⟨c3, iS3, hKn3⟩ := u_known (C := RX3) (T := TX3) (N := 6) (n := 6) hw inlX3 (hts (.instantiable RX3 6) (by decide +kernel))
  obtain ⟨c4, iS4, hKn4⟩ := u_known (C := RX4) (T := TX4) (N := 11) (n := 11) hw inlX4 (hts (.instantiable RX4 11) (by decide +kernel))
  obtain ⟨c5, iS5, hKn5⟩ := u_known (C := RX5) (T := TX5) (N := 30) (n := 30) hw inlX5 (hts (.instantiable RX5 30) (by decide +kernel))
  have hO : q_O s := fun x hx => by
    unfold q_on at hx
    simp only [List.mem_cons, List.not_mem_nil, or_false] at hx
    rcases hx with rfl | rfl | rfl
    · exact va_AO.of (hts (.arrayOver (.object RX0)) (by decide +kernel))
    · exact va_AO.of (hts (.arrayOver (.object RX2)) (by decide +kernel))
    · exact va_AO.of (hts (.arrayOver (.object RX3)) (by decide +kernel))
  obtain ⟨a0, ha0⟩ := q_AT (hts (.arrayClass .int) (by decide +kernel)) (fun _ h => by cases h)
  obtain ⟨a1, ha1⟩ := q_AT (hts (.arrayClass .long) (by decide +kernel)) (fun _ h => by cases h)
  obtain ⟨a2, ha2⟩ := q_AT (hts (.arrayClass .boolean) (by decide +kernel)) (fun _ h => by cases h)
  obtain ⟨a3, ha3⟩ := q_AR (hO RX2 (by decide))
  obtain ⟨a4, ha4⟩ := q_AR (hO RX3 (by decide))
  obtain ⟨a5, ha5⟩ := q_AR (hO RX0 (by decide))
  obtain ⟨g, hK⟩ : ∃ g : q_G, q_K g s := by
    refine ⟨(fun k => if k = 0 then c0 else if k = 1 then c1 else if k = 2 then c2 else if k = 3 then c3 else if k = 4 then c4 else c5, fun k => if k = 0 then iS0 else if k = 1 then iS1 else if k = 2 then iS2 else if k = 3 then iS3 else if k = 4 then iS4 else iS5, fun k => if k = 0 then a0 else if k = 1 then a1 else if k = 2 then a2 else if k = 3 then a3 else if k = 4 then a4 else a5), ?_, ?_⟩
    · intro k q hq
      match k, hq with
      | 0, hq => cases hq; exact hKn0
      | 1, hq => cases hq; exact hKn1
      | 2, hq => cases hq; exact hKn2
      | 3, hq => cases hq; exact hKn3
      | 4, hq => cases hq; exact hKn4
      | 5, hq => cases hq; exact hKn5
      | k + 6, hq => simp [vwCl] at hq
    · intro k q hq
      match k, hq with
      | 0, hq => cases hq; exact ha0
      | 1, hq => cases hq; exact ha1
      | 2, hq => cases hq; exact ha2
      | 3, hq => cases hq; exact ha3
      | 4, hq => cases hq; exact ha4
      | 5, hq => cases hq; exact ha5
      | k + 6, hq => simp [q_tys] at hq
  have hW : q_W s := by
    refine ⟨fun x hx => ?_, fun x hx => ?_, fun x hx y hy hn => ?_⟩
    · unfold q_dl at hx
      simp only [List.mem_cons, List.not_mem_nil, or_false] at hx
      rcases hx with rfl | rfl | rfl
      · exact va_tabs rfl rfl (hts (.declares (Bundle.init0 "java/lang/RuntimeException")) (by decide +kernel))
      · exact va_tabs rfl rfl (hts (.declares (Bundle.init0 "java/lang/Exception")) (by decide +kernel))
      · exact va_tabs rfl rfl (hts (.declares (Bundle.init0 Bundle.tN)) (by decide +kernel))
    · unfold q_xn at hx
      simp only [List.mem_cons, List.not_mem_nil, or_false] at hx
      rcases hx with rfl | rfl | rfl | rfl | rfl
      · exact va_tabs rfl rfl (hts (.castable "java/lang/IllegalArgumentException" "java/lang/IllegalArgumentException") (by decide +kernel))
      · exact va_tabs rfl rfl (hts (.castable "java/lang/UnsupportedOperationException" "java/lang/UnsupportedOperationException") (by decide +kernel))
      · exact va_tabs rfl rfl (hts (.castable "java/util/NoSuchElementException" "java/util/NoSuchElementException") (by decide +kernel))
      · exact va_tabs rfl rfl (hts (.castable "java/lang/IllegalStateException" "java/lang/IllegalStateException") (by decide +kernel))
      · exact va_tabs rfl rfl (hts (.castable "java/lang/IndexOutOfBoundsException" "java/lang/IndexOutOfBoundsException") (by decide +kernel))
    · unfold q_xn at hx hy
      simp only [List.mem_cons, List.not_mem_nil, or_false] at hx hy
      rcases hx with rfl | rfl | rfl | rfl | rfl <;> rcases hy with rfl | rfl | rfl | rfl | rfl
      · exact absurd rfl hn
      · exact va_Nc.of (hfl (.not (.castable "java/lang/IllegalArgumentException" "java/lang/UnsupportedOperationException")) (by decide +kernel))
      · exact va_Nc.of (hfl (.not (.castable "java/lang/IllegalArgumentException" "java/util/NoSuchElementException")) (by decide +kernel))
      · exact va_Nc.of (hfl (.not (.castable "java/lang/IllegalArgumentException" "java/lang/IllegalStateException")) (by decide +kernel))
      · exact va_Nc.of (hfl (.not (.castable "java/lang/IllegalArgumentException" "java/lang/IndexOutOfBoundsException")) (by decide +kernel))
      · exact va_Nc.of (hfl (.not (.castable "java/lang/UnsupportedOperationException" "java/lang/IllegalArgumentException")) (by decide +kernel))
      · exact absurd rfl hn
      · exact va_Nc.of (hfl (.not (.castable "java/lang/UnsupportedOperationException" "java/util/NoSuchElementException")) (by decide +kernel))
      · exact va_Nc.of (hfl (.not (.castable "java/lang/UnsupportedOperationException" "java/lang/IllegalStateException")) (by decide +kernel))
      · exact va_Nc.of (hfl (.not (.castable "java/lang/UnsupportedOperationException" "java/lang/IndexOutOfBoundsException")) (by decide +kernel))
      · exact va_Nc.of (hfl (.not (.castable "java/util/NoSuchElementException" "java/lang/IllegalArgumentException")) (by decide +kernel))
      · exact va_Nc.of (hfl (.not (.castable "java/util/NoSuchElementException" "java/lang/UnsupportedOperationException")) (by decide +kernel))
      · exact absurd rfl hn
      · exact va_Nc.of (hfl (.not (.castable "java/util/NoSuchElementException" "java/lang/IllegalStateException")) (by decide +kernel))
      · exact va_Nc.of (hfl (.not (.castable "java/util/NoSuchElementException" "java/lang/IndexOutOfBoundsException")) (by decide +kernel))
      · exact va_Nc.of (hfl (.not (.castable "java/lang/IllegalStateException" "java/lang/IllegalArgumentException")) (by decide +kernel))
      · exact va_Nc.of (hfl (.not (.castable "java/lang/IllegalStateException" "java/lang/UnsupportedOperationException")) (by decide +kernel))
      · exact va_Nc.of (hfl (.not (.castable "java/lang/IllegalStateException" "java/util/NoSuchElementException")) (by decide +kernel))
      · exact absurd rfl hn
      · exact va_Nc.of (hfl (.not (.castable "java/lang/IllegalStateException" "java/lang/IndexOutOfBoundsException")) (by decide +kernel))
      · exact va_Nc.of (hfl (.not (.castable "java/lang/IndexOutOfBoundsException" "java/lang/IllegalArgumentException")) (by decide +kernel))
      · exact va_Nc.of (hfl (.not (.castable "java/lang/IndexOutOfBoundsException" "java/lang/UnsupportedOperationException")) (by decide +kernel))
      · exact va_Nc.of (hfl (.not (.castable "java/lang/IndexOutOfBoundsException" "java/util/NoSuchElementException")) (by decide +kernel))
      · exact va_Nc.of (hfl (.not (.castable "java/lang/IndexOutOfBoundsException" "java/lang/IllegalStateException")) (by decide +kernel))
      · exact absurd rfl hn
  have hZ : q_Z s.heap.size s s.heap := ⟨vx_Zqof (hts (.laysStatic Bundle.tN "UNASSIGNED_STACK" Bundle.steD) (by decide +kernel)) (hts (.initialized Bundle.tN) (by decide +kernel)) (hfl (.isRef (.static Bundle.tN "UNASSIGNED_STACK" Bundle.steD)) (by decide +kernel)) (fun a ha q => absurd q (Nat.not_le.mpr ha)), vx_Zqof (hts (.laysStatic Bundle.tN "SUPPRESSED_SENTINEL" Bundle.listD) (by decide +kernel)) (hts (.initialized Bundle.tN) (by decide +kernel)) (hfl (.isRef (.static Bundle.tN "SUPPRESSED_SENTINEL" Bundle.listD)) (by decide +kernel)) (fun a ha q => absurd q (Nat.not_le.mpr ha)), hW⟩
  have X : q_X p s m #[Value.ref b] c cL_law 8 wsL_law RL g s.heap.size := ⟨hx, hb, hml, hown, hw, hK, hZ, Nat.le_refl _⟩
  have hS : va_S (q_A s.heap.size) s.heap s.heap [] := va_S.rf
  have hP := q_P0 g s.heap.size (fun _ _ => 0) s.heap
  have hl := lv_entry ([.ref b]) (n := 8) (Nat.le_of_ble_eq_true rfl)
  rw [lg_entry_eq]
  generalize (lg_sl ([.ref b]) ++ List.replicate (8 - (lg_sl ([.ref b])).length) Slot.unset).toArray = ls at hl ⊢
  have hl : lv_has ls 8 [(0, .ref b)] := hl
  refine q_new (index := 8) X hP hS 4 rfl rfl (by decide) inlX4 tyX4 tyX4_ok (by decide +kernel) (by decide +kernel) (by decide +kernel) (q_hz4 _) (Nat.le_of_ble_eq_true rfl) (Nat.le_of_ble_eq_true rfl) dL_law_0 (fun d1 H p1 hP hS => ?_)
  have hP : q_P g s.heap.size n_1 d1 (fun _ _ _ => 0) H := hP
  refine lv_dup X.1 X.2.1 dL_law_3 rfl ?_
  refine va_callv (va_runI (As := []) (rest := [.ref (d1 4 0)]) X.fix (c_X4_init l g s.heap.size n_1 d1 (fun _ _ _ => 0) 0 (by decide)) (cwI 0 X.2.2.2.2.1 gL_law_X4_init rfl rfl rfl (X.2.2.2.2.1 (.initialized RX4) (by decide +kernel)) (X.2.2.2.2.1 (.methodLink RL 68 yX4_init) (by decide +kernel)) (X.2.2.2.2.1 (.instanceMethod yX4_init) (by decide +kernel)) rfl (by decide +kernel) ⟨Nat.le_of_ble_eq_true rfl, Nat.le_of_ble_eq_true rfl⟩) (q_preSO X hO hP hS _) rfl rfl hl.1 rfl (lv_room (Nat.le_of_ble_eq_true rfl)) dL_law_4 ⟨(Nat.le_of_ble_eq_true rfl), (Nat.le_of_ble_eq_true rfl)⟩) hS q_id q_id1 (fun u t H locs ht hvm hw4 hB hz1 hk1 hS => ?_)
  obtain ⟨e1, e2, e3, e4, e5, r1, r2, r3, r4, r5, rfl⟩ := hw4
  have hP : q_P g s.heap.size n_2 e5 C_2 H := q_back hB ht
  have E4 : d1 4 0 = e5 4 0 := (((((r5 4 0 (fun z => absurd z.1 (by decide))).trans (r4 4 0 (fun z => absurd z.1 (by decide)))).trans (r3 4 0 (fun z => absurd z.1 (by decide)))).trans (r2 4 0 (fun z => absurd z.1 (by decide)))).trans (r1 4 0 (fun z => absurd z.1 (by decide)))).symm
  rw [E4]
  refine lv_astore_n (lv' := [(1, .ref (e5 4 0)), (0, .ref b)]) X.1 X.2.1 dL_law_7 rfl hl (by decide) rfl (fun ls hl => ?_)
  refine q_new (index := 69) X hP hS 5 rfl rfl (by decide) inlX5 tyX5 tyX5_ok (by decide +kernel) (by decide +kernel) (by decide +kernel) (q_hz5 _) (Nat.le_of_ble_eq_true rfl) (Nat.le_of_ble_eq_true rfl) dL_law_8 (fun d2 H p2 hP hS => ?_)
  have hP : q_P g s.heap.size n_3 d2 C_2 H := hP
  have E4b : e5 4 0 = d2 4 0 := (p2 4 0 (fun z => absurd z.1 (by decide))).symm
  rw [E4b] at hl
  refine lv_dup X.1 X.2.1 dL_law_11 rfl ?_
  refine va_callv (va_runI (As := []) (rest := [.ref (d2 5 0)]) X.fix (c_X5_init l g s.heap.size n_3 d2 C_2 0 (by decide)) (cwI 0 X.2.2.2.2.1 gL_law_X5_init rfl rfl rfl (X.2.2.2.2.1 (.initialized RX5) (by decide +kernel)) (X.2.2.2.2.1 (.methodLink RL 71 yX5_init) (by decide +kernel)) (X.2.2.2.2.1 (.instanceMethod yX5_init) (by decide +kernel)) rfl (by decide +kernel) ⟨Nat.le_of_ble_eq_true rfl, Nat.le_of_ble_eq_true rfl⟩) (q_preS X hP hS _) rfl rfl hl.1 rfl (lv_room (Nat.le_of_ble_eq_true rfl)) dL_law_12 ⟨(Nat.le_of_ble_eq_true rfl), (Nat.le_of_ble_eq_true rfl)⟩) hS q_id q_id1 (fun u t H locs ht hvm hw5 hB hz1 hk1 hS => ?_)
  obtain ⟨f1, f2, f3, f4, f5, f6, f7, f8, f9, f10, f11, f12, f13, f14, f15, f16, f17, f18, f19, f20, f21, f22, t1, t2, t3, t4, t5, t6, t7, t8, t9, t10, t11, t12, t13, t14, t15, t16, t17, t18, t19, t20, t21, t22, rfl⟩ := hw5
  have hP : q_P g s.heap.size n_4 f22 C_4 H := q_back hB ht
  have E4c : d2 4 0 = f22 4 0 := ((((((((((((((((((((((t22 4 0 (fun z => absurd z.1 (by decide))).trans (t21 4 0 (fun z => absurd z.1 (by decide)))).trans (t20 4 0 (fun z => absurd z.1 (by decide)))).trans (t19 4 0 (fun z => absurd z.1 (by decide)))).trans (t18 4 0 (fun z => absurd z.1 (by decide)))).trans (t17 4 0 (fun z => absurd z.1 (by decide)))).trans (t16 4 0 (fun z => absurd z.1 (by decide)))).trans (t15 4 0 (fun z => absurd z.1 (by decide)))).trans (t14 4 0 (fun z => absurd z.1 (by decide)))).trans (t13 4 0 (fun z => absurd z.1 (by decide)))).trans (t12 4 0 (fun z => absurd z.1 (by decide)))).trans (t11 4 0 (fun z => absurd z.1 (by decide)))).trans (t10 4 0 (fun z => absurd z.1 (by decide)))).trans (t9 4 0 (fun z => absurd z.1 (by decide)))).trans (t8 4 0 (fun z => absurd z.1 (by decide)))).trans (t7 4 0 (fun z => absurd z.1 (by decide)))).trans (t6 4 0 (fun z => absurd z.1 (by decide)))).trans (t5 4 0 (fun z => absurd z.1 (by decide)))).trans (t4 4 0 (fun z => absurd z.1 (by decide)))).trans (t3 4 0 (fun z => absurd z.1 (by decide)))).trans (t2 4 0 (fun z => absurd z.1 (by decide)))).trans (t1 4 0 (fun z => absurd z.1 (by decide)))).symm
  have E5 : d2 5 0 = f22 5 0 := ((((((((((((((((((((((t22 5 0 (fun z => absurd z.1 (by decide))).trans (t21 5 0 (fun z => absurd z.1 (by decide)))).trans (t20 5 0 (fun z => absurd z.1 (by decide)))).trans (t19 5 0 (fun z => absurd z.1 (by decide)))).trans (t18 5 0 (fun z => absurd z.1 (by decide)))).trans (t17 5 0 (fun z => absurd z.1 (by decide)))).trans (t16 5 0 (fun z => absurd z.1 (by decide)))).trans (t15 5 0 (fun z => absurd z.1 (by decide)))).trans (t14 5 0 (fun z => absurd z.1 (by decide)))).trans (t13 5 0 (fun z => absurd z.1 (by decide)))).trans (t12 5 0 (fun z => absurd z.1 (by decide)))).trans (t11 5 0 (fun z => absurd z.1 (by decide)))).trans (t10 5 0 (fun z => absurd z.1 (by decide)))).trans (t9 5 0 (fun z => absurd z.1 (by decide)))).trans (t8 5 0 (fun z => absurd z.1 (by decide)))).trans (t7 5 0 (fun z => absurd z.1 (by decide)))).trans (t6 5 0 (fun z => absurd z.1 (by decide)))).trans (t5 5 0 (fun z => absurd z.1 (by decide)))).trans (t4 5 0 (fun z => absurd z.1 (by decide)))).trans (t3 5 0 (fun z => absurd z.1 (by decide)))).trans (t2 5 0 (fun z => absurd z.1 (by decide)))).trans (t1 5 0 (fun z => absurd z.1 (by decide)))).symm
  rw [E4c] at hl
  rw [E5]
  refine lv_astore_n (lv' := [(2, .ref (f22 5 0)), (1, .ref (f22 4 0)), (0, .ref b)]) X.1 X.2.1 dL_law_15 rfl hl (by decide) rfl (fun ls hl => ?_)
  refine lv_iconst (v := iI (1)) X.1 X.2.1 dL_law_16 rfl ?_
  refine q_newA (len := 1) (atype := .long) X hP hS 50 1 1 (by decide) rfl rfl rfl rfl (by decide) rfl (by decide +kernel) rfl (by decide) (Nat.le_of_ble_eq_true rfl) (Nat.le_of_ble_eq_true rfl) dL_law_17 (fun d3 H p3 hP hS => ?_)
  have hP : q_P g s.heap.size n_5 d3 C_4 H := hP
  have E4d : f22 4 0 = d3 4 0 := (p3 4 0 (fun z => absurd z.1 (by decide))).symm
  have E5d : f22 5 0 = d3 5 0 := (p3 5 0 (fun z => absurd z.1 (by decide))).symm
  rw [E4d, E5d] at hl
  refine lv_astore_n (lv' := [(3, .ref (d3 50 0)), (2, .ref (d3 5 0)), (1, .ref (d3 4 0)), (0, .ref b)]) X.1 X.2.1 dL_law_19 rfl hl (by decide) rfl (fun ls hl => ?_)
  refine lv_iconst (v := iI (0)) X.1 X.2.1 dL_law_20 rfl ?_
  refine lv_istore (lv' := [(4, .int (iI (0))), (3, .ref (d3 50 0)), (2, .ref (d3 5 0)), (1, .ref (d3 4 0)), (0, .ref b)]) X.1 X.2.1 dL_law_21 hl (by decide) rfl (fun ls hl => ?_)
  refine W.widen (by decide : _ ≤ 30 + 3 * 0) (by decide : _ ≤ 38970 + 21 * 0) ?_
  refine law_loop htr X hXs hbl hbl hL (fun q H locs ls hq hS => ?_) 513 0 n_5 d3 C_4 _ _ ls (by omega) (by omega) Rel_0 hP hS (lv_sub hl [0, 4, 3, 2, 1] rfl)
  refine va_forget hS.2.2 ?_
  refine W.widen (k := 601024) (n := 7293034) (by omega) (by omega) ?_
  refine lv_iconst (v := 1) X.1 X.2.1 dL_law_1163 (by decide) ?_
  exact lw_ret hx hb hr hlocks dL_law_1164
set_option maxHeartbeats 4000000 in
theorem lw_walk (l : Launch) (htr : l.stackTraces = false) (b : Addr) (xs : List Int32) : MetFree l x (headSpec (Jvm.Cond.code x code maxLocals ret :: tables_1) room_1) (lw_P b xs) (fun _ _ _ _ _ => True) lw_Q := by
  refine MetFree.of_bodyS (code := code) (maxLocals := maxLocals) (ret := ret) (by decide) ?_ ?_
  · intro args s m h hn
    obtain ⟨meth, c, h1, h2, h3, h4, h5, h6, -, -⟩ := Cond.code_spec hn (atoms_spec (ws := Jvm.Cond.code x code maxLocals ret :: tables_1) h _ List.mem_cons_self)
    exact ⟨meth, c, h1, h2, h3, h4, h5, h6⟩
  · intro p e s m args below meth c s₁ B hml0 hP _
    obtain ⟨rfl, hx, hbd, hgv⟩ := hP
    obtain ⟨scr, harrAt, hlist, hof, hsmall⟩ := hx
    obtain ⟨hcb, hkn, -, -⟩ := State.arrayAt?_spec harrAt
    have hown : s.vm.findClass R_law = some m.cls := findClass_of_methodNamed B.named
    have hts0 : ∀ c ∈ (Jvm.Cond.code x code maxLocals ret :: tables_1), c.before #[Value.ref b] s = true := atoms_spec (ws := Jvm.Cond.code x code maxLocals ret :: tables_1) B.pre
    have hts : ∀ w ∈ lw_tbl, w.before #[Value.ref b] s = true := k2_hts_sels lw_privs (fun w hw => hts0 w (List.mem_cons_of_mem _ hw)) lw_privs_ok
    have hml : c.maxLocals = 8 := B.maxLocals_eq (hts0 _ List.mem_cons_self)
    have X₀ : Stand p l e room_1 s m #[Value.ref b] below meth c s₁ [] 0 0 := Stand.of_body B
    have hh0 : s₁.heap = s.heap := by rw [B.state]; rfl
    have hsz : scr.slots.size = xs.length := by rw [← Array.length_toList, hlist, List.length_map]
    have hval : ∀ j : Nat, j < xs.length → scr.slots[j]? = some (.int (xs.getD j 0)) := fun j hj => by
      rw [← Array.getElem?_toList, hlist]
      simp [hj]
    have hbl : b < s.heap.size := (Array.getElem?_eq_some_iff.mp hcb).1
    have hX : va_X b xs.length (fun j => xs.getD j 0) s s.heap := ⟨scr, hcb, hof, hkn, hsz, hval⟩
    have K : W p l e room_1 s m #[Value.ref b] below meth c s₁.heap [] 0 0 (lw_Z below #[Value.ref b] s) (entryFrame m ([Value.ref b] : List Value).toArray 8) := by
      rw [hh0]
      exact whole_start l htr hbd ⟨B.exec, B.bytes, B.returns, hml, hown, hts, hX, hbl, B.notSynchronized, hgv⟩
    obtain ⟨t, a1, o, b1, b2, b3⟩ := K s₁ rfl X₀
    exact ⟨t, o, a1, b1, b2, b3⟩
theorem lw_pre_spec {args : Array Value} {s : State} (h : (Jvm.Cond.and given_1 narrow_1).before args s = true) (hr : rest_1_c.before args s = true) : ∃ (b : Addr) (xs : List Int32), lw_P b xs args s := by
  have hs := flat_of_before _ h
  have hq := flat_of_before _ hr
  have hc : (Cond.count 1).before args s = true := hs _ (by decide +kernel)
  have harr : (Cond.arrayOf (.arg 0) .int).before args s = true := hs _ (by decide +kernel)
  have hle : (Cond.le (.length (.arg 0)) (.int 3584)).before args s = true := hs _ (by decide +kernel)
  have hlen : (Cond.isInt (.length (.arg 0))).before args s = true := hq _ (by decide +kernel)
  have hall : (Cond.all (.arg 0) (.isInt (.elem (.arg 0) (.index 0)))).before args s = true := hq _ (by decide +kernel)
  obtain ⟨b, xs, hb, hx⟩ := State.ints_of_pre rfl harr hlen hall
  have hsm : xs.length < 2 ^ 31 := hx.choose_spec.2.2.2
  have hev : (Term.length (.arg 0)).eval args s none [] s = some (.int xs.length.toInt32) := hx.length_eval hb
  have hv := Cond.le_ints hev (show (Term.int 3584).eval args s none [] s = some (.int 3584) from rfl)
  have hd : xs.length.toInt32 ≤ 3584 := by
    simpa [Cond.before, Cond.holds, hv] using hle
  have hN : xs.length ≤ 3584 := (Int32.ofNat_le_ofNat hsm (by decide)).mp (show Int32.ofNat xs.length ≤ Int32.ofNat 3584 from hd)
  exact ⟨b, xs, Cond.one_arg hc (show args[0]? = some (.ref b) from hb), hx, hN, h⟩
theorem lw_comes (l : Launch) (htr : l.stackTraces = false) : Comes l x (Jvm.Cond.code x code maxLocals ret :: tables_1) room_1 (fun tb e args s => Calls_1 tb e args s ∧ rest_1 tb e args s ∧ Pre_1 tb e args s)
    (fun _ _ args s o t => lw_Q args s o t) := by
  intro p e ha hc hk s m args below hf hfit hheap happ hpre
  obtain ⟨b, xs, hP⟩ := lw_pre_spec hpre.2.2 hpre.2.1
  obtain ⟨k, o, h1, h2, h3, hQ⟩ := lw_walk l htr b xs p e ha hc hk s m args below hf ((Spec.applies_iff_loose hf).mp happ).1 hP trivial
  exact ⟨k, o, h1, h2, h3, hQ⟩
theorem lw_frame {s t : State} {o : Outcome} {args : Array Value} (h : Framed s o t [] 601024 7293034) :
    Framed s o t (fieldLocs frame_1_writes args s ++ arrayLocs frame_1_arrays args s ++ staticLocs frame_1_statics s) 601024 7293034 := h
theorem lw_limb (L : Cond) (hL : ∀ (args : Array Value) (s t : State), L.after args s (.returned (some (.int 1))) t = true) :
    ArmFor flags0 classFile x code maxLocals ret World_1 tables_1 room_1 Calls_1 rest_1 Pre_1
      (fun tb e a s o t => postC L tb e a s o t ∧ Framed s o t (fieldLocs frame_1_writes a s ++ arrayLocs frame_1_arrays a s ++ staticLocs frame_1_statics s) 601024 7293034) := by
  intro l hfg _ _ p e ha hc hk s m args below hf hfit hheap happ hpre
  obtain ⟨k, o, h1, h2, h3, rfl, hF⟩ := lw_comes l (by unfold Launch.stackTraces; rw [hfg]; decide) p e ha hc hk s m args below hf hfit hheap happ hpre
  exact ⟨k, _, h1, h2, h3, hL args s _, lw_frame hF⟩
theorem i_vc : Claimed_1_1 ∧ Claimed_1_2 := ⟨lw_limb limb_1_1 (fun args s t => by simp [limb_1_1, Cond.after, Cond.holds, Cond.value]), lw_limb limb_1_2 (fun args s t => Cond.after_iff.mpr (by
  first | (rw [show limb_1_2 = Cond.eq .result (.int 1) from rfl, Cond.eq_ints (x := 1) (y := 1) rfl rfl]; simp; done) | (simp [limb_1_2, Cond.value, Term.eval]; done)))⟩
