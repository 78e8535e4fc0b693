section
-- ===== PART A: goes FIRST, ahead of the names: the tables' words, and 'selects' of the private methods out of them =====
/-- a private method of a class that the tables say can be made, by its rows of tables_1 -/
def lw_okq (q : MethodName × Nat) : Prop := (q.1.cls ≠ "java/lang/invoke/MethodHandle" ∧ q.1.cls ≠ "java/lang/invoke/VarHandle") ∧ Cond.instantiable q.1.cls q.2 ∈ tables_1 ∧ Cond.privateMethod q.1 ∈ tables_1 ∧ Cond.instanceMethod q.1 ∈ tables_1
theorem lw_p0 : lw_okq (⟨"java/lang/Throwable", "fillInStackTrace", "(I)Ljava/lang/Throwable;"⟩, 6) := ⟨⟨by decide +kernel, by decide +kernel⟩, List.mem_of_getElem? (i := 118) (by decide +kernel), List.mem_of_getElem? (i := 116) (by decide +kernel), List.mem_of_getElem? (i := 117) (by decide +kernel)⟩
theorem lw_p1 : lw_okq (⟨"PrintQueue", "findTicket", "(I)LPrintQueue$Ticket;"⟩, 11) := ⟨⟨by decide +kernel, by decide +kernel⟩, List.mem_of_getElem? (i := 17) (by decide +kernel), List.mem_of_getElem? (i := 226) (by decide +kernel), List.mem_of_getElem? (i := 227) (by decide +kernel)⟩
theorem lw_p2 : lw_okq (⟨"PrintQueue", "findPrinter", "(I)LPrintQueue$Printer;"⟩, 11) := ⟨⟨by decide +kernel, by decide +kernel⟩, List.mem_of_getElem? (i := 17) (by decide +kernel), List.mem_of_getElem? (i := 331) (by decide +kernel), List.mem_of_getElem? (i := 332) (by decide +kernel)⟩
theorem lw_p3 : lw_okq (⟨"PrintQueue", "choosePart", "(LPrintQueue$Printer;)LPrintQueue$Part;"⟩, 11) := ⟨⟨by decide +kernel, by decide +kernel⟩, List.mem_of_getElem? (i := 17) (by decide +kernel), List.mem_of_getElem? (i := 350) (by decide +kernel), List.mem_of_getElem? (i := 351) (by decide +kernel)⟩
theorem lw_p4 : lw_okq (⟨"PrintQueue", "goesBefore", "(LPrintQueue$Job;LPrintQueue$Job;LPrintQueue$Printer;)Z"⟩, 11) := ⟨⟨by decide +kernel, by decide +kernel⟩, List.mem_of_getElem? (i := 17) (by decide +kernel), List.mem_of_getElem? (i := 361) (by decide +kernel), List.mem_of_getElem? (i := 362) (by decide +kernel)⟩
theorem lw_p5 : lw_okq (⟨"PrintQueue", "doubleLastPage", "(LPrintQueue$Part;)V"⟩, 11) := ⟨⟨by decide +kernel, by decide +kernel⟩, List.mem_of_getElem? (i := 17) (by decide +kernel), List.mem_of_getElem? (i := 396) (by decide +kernel), List.mem_of_getElem? (i := 397) (by decide +kernel)⟩
theorem lw_p6 : lw_okq (⟨"PrintQueue", "findJob", "(I)LPrintQueue$Job;"⟩, 11) := ⟨⟨by decide +kernel, by decide +kernel⟩, List.mem_of_getElem? (i := 17) (by decide +kernel), List.mem_of_getElem? (i := 407) (by decide +kernel), List.mem_of_getElem? (i := 408) (by decide +kernel)⟩
theorem lw_p7 : lw_okq (⟨"PrintQueue", "emptyPrintersOf", "(LPrintQueue$Job;)V"⟩, 11) := ⟨⟨by decide +kernel, by decide +kernel⟩, List.mem_of_getElem? (i := 17) (by decide +kernel), List.mem_of_getElem? (i := 421) (by decide +kernel), List.mem_of_getElem? (i := 422) (by decide +kernel)⟩
theorem lw_p8 : lw_okq (⟨"PrintQueue", "reasonByPrinters", "(LPrintQueue$Job;)I"⟩, 11) := ⟨⟨by decide +kernel, by decide +kernel⟩, List.mem_of_getElem? (i := 17) (by decide +kernel), List.mem_of_getElem? (i := 490) (by decide +kernel), List.mem_of_getElem? (i := 491) (by decide +kernel)⟩
theorem lw_p9 : lw_okq (⟨"PrintQueueModel", "addPart", "(III)V"⟩, 30) := ⟨⟨by decide +kernel, by decide +kernel⟩, List.mem_of_getElem? (i := 515) (by decide +kernel), List.mem_of_getElem? (i := 639) (by decide +kernel), List.mem_of_getElem? (i := 640) (by decide +kernel)⟩
theorem lw_p10 : lw_okq (⟨"PrintQueueModel", "isPrinter", "(I)Z"⟩, 30) := ⟨⟨by decide +kernel, by decide +kernel⟩, List.mem_of_getElem? (i := 515) (by decide +kernel), List.mem_of_getElem? (i := 647) (by decide +kernel), List.mem_of_getElem? (i := 648) (by decide +kernel)⟩
theorem lw_p11 : lw_okq (⟨"PrintQueueModel", "bestRank", "(I)I"⟩, 30) := ⟨⟨by decide +kernel, by decide +kernel⟩, List.mem_of_getElem? (i := 515) (by decide +kernel), List.mem_of_getElem? (i := 651) (by decide +kernel), List.mem_of_getElem? (i := 652) (by decide +kernel)⟩
theorem lw_p12 : lw_okq (⟨"PrintQueueModel", "mayTake", "(II)Z"⟩, 30) := ⟨⟨by decide +kernel, by decide +kernel⟩, List.mem_of_getElem? (i := 515) (by decide +kernel), List.mem_of_getElem? (i := 655) (by decide +kernel), List.mem_of_getElem? (i := 656) (by decide +kernel)⟩
theorem lw_p13 : lw_okq (⟨"PrintQueueModel", "fits", "(II)Z"⟩, 30) := ⟨⟨by decide +kernel, by decide +kernel⟩, List.mem_of_getElem? (i := 515) (by decide +kernel), List.mem_of_getElem? (i := 659) (by decide +kernel), List.mem_of_getElem? (i := 660) (by decide +kernel)⟩
theorem lw_p14 : lw_okq (⟨"PrintQueueModel", "firstOf", "(IIZ)I"⟩, 30) := ⟨⟨by decide +kernel, by decide +kernel⟩, List.mem_of_getElem? (i := 515) (by decide +kernel), List.mem_of_getElem? (i := 663) (by decide +kernel), List.mem_of_getElem? (i := 664) (by decide +kernel)⟩
theorem lw_p15 : lw_okq (⟨"PrintQueueModel", "mediaOf", "(I)I"⟩, 30) := ⟨⟨by decide +kernel, by decide +kernel⟩, List.mem_of_getElem? (i := 515) (by decide +kernel), List.mem_of_getElem? (i := 667) (by decide +kernel), List.mem_of_getElem? (i := 668) (by decide +kernel)⟩
def lw_privs_1 : List (MethodName × Nat) := [(⟨"java/lang/Throwable", "fillInStackTrace", "(I)Ljava/lang/Throwable;"⟩, 6), (⟨"PrintQueue", "findTicket", "(I)LPrintQueue$Ticket;"⟩, 11), (⟨"PrintQueue", "findPrinter", "(I)LPrintQueue$Printer;"⟩, 11), (⟨"PrintQueue", "choosePart", "(LPrintQueue$Printer;)LPrintQueue$Part;"⟩, 11), (⟨"PrintQueue", "goesBefore", "(LPrintQueue$Job;LPrintQueue$Job;LPrintQueue$Printer;)Z"⟩, 11), (⟨"PrintQueue", "doubleLastPage", "(LPrintQueue$Part;)V"⟩, 11), (⟨"PrintQueue", "findJob", "(I)LPrintQueue$Job;"⟩, 11), (⟨"PrintQueue", "emptyPrintersOf", "(LPrintQueue$Job;)V"⟩, 11), (⟨"PrintQueue", "reasonByPrinters", "(LPrintQueue$Job;)I"⟩, 11), (⟨"PrintQueueModel", "addPart", "(III)V"⟩, 30), (⟨"PrintQueueModel", "isPrinter", "(I)Z"⟩, 30), (⟨"PrintQueueModel", "bestRank", "(I)I"⟩, 30), (⟨"PrintQueueModel", "mayTake", "(II)Z"⟩, 30), (⟨"PrintQueueModel", "fits", "(II)Z"⟩, 30), (⟨"PrintQueueModel", "firstOf", "(IIZ)I"⟩, 30), (⟨"PrintQueueModel", "mediaOf", "(I)I"⟩, 30)]
theorem lw_r1 : ∀ q ∈ lw_privs_1, lw_okq q := List.forall_mem_cons.mpr ⟨lw_p0, List.forall_mem_cons.mpr ⟨lw_p1, List.forall_mem_cons.mpr ⟨lw_p2, List.forall_mem_cons.mpr ⟨lw_p3, List.forall_mem_cons.mpr ⟨lw_p4, List.forall_mem_cons.mpr ⟨lw_p5, List.forall_mem_cons.mpr ⟨lw_p6, List.forall_mem_cons.mpr ⟨lw_p7, List.forall_mem_cons.mpr ⟨lw_p8, List.forall_mem_cons.mpr ⟨lw_p9, List.forall_mem_cons.mpr ⟨lw_p10, List.forall_mem_cons.mpr ⟨lw_p11, List.forall_mem_cons.mpr ⟨lw_p12, List.forall_mem_cons.mpr ⟨lw_p13, List.forall_mem_cons.mpr ⟨lw_p14, List.forall_mem_cons.mpr ⟨lw_p15, fun _ h => absurd h List.not_mem_nil⟩⟩⟩⟩⟩⟩⟩⟩⟩⟩⟩⟩⟩⟩⟩⟩
theorem lw_p16 : lw_okq (⟨"PrintQueueModel", "isOver", "(I)Z"⟩, 30) := ⟨⟨by decide +kernel, by decide +kernel⟩, List.mem_of_getElem? (i := 515) (by decide +kernel), List.mem_of_getElem? (i := 679) (by decide +kernel), List.mem_of_getElem? (i := 680) (by decide +kernel)⟩
theorem lw_p17 : lw_okq (⟨"PrintQueueModel", "leave", "(I)V"⟩, 30) := ⟨⟨by decide +kernel, by decide +kernel⟩, List.mem_of_getElem? (i := 515) (by decide +kernel), List.mem_of_getElem? (i := 683) (by decide +kernel), List.mem_of_getElem? (i := 684) (by decide +kernel)⟩
theorem lw_p18 : lw_okq (⟨"PrintQueueModel", "isJob", "(I)Z"⟩, 30) := ⟨⟨by decide +kernel, by decide +kernel⟩, List.mem_of_getElem? (i := 515) (by decide +kernel), List.mem_of_getElem? (i := 695) (by decide +kernel), List.mem_of_getElem? (i := 696) (by decide +kernel)⟩
theorem lw_p19 : lw_okq (⟨"PrintQueueModel", "stateOf", "(I)I"⟩, 30) := ⟨⟨by decide +kernel, by decide +kernel⟩, List.mem_of_getElem? (i := 515) (by decide +kernel), List.mem_of_getElem? (i := 703) (by decide +kernel), List.mem_of_getElem? (i := 704) (by decide +kernel)⟩
def lw_privs_2 : List (MethodName × Nat) := [(⟨"PrintQueueModel", "isOver", "(I)Z"⟩, 30), (⟨"PrintQueueModel", "leave", "(I)V"⟩, 30), (⟨"PrintQueueModel", "isJob", "(I)Z"⟩, 30), (⟨"PrintQueueModel", "stateOf", "(I)I"⟩, 30)]
theorem lw_r2 : ∀ q ∈ lw_privs_2, lw_okq q := List.forall_mem_cons.mpr ⟨lw_p16, List.forall_mem_cons.mpr ⟨lw_p17, List.forall_mem_cons.mpr ⟨lw_p18, List.forall_mem_cons.mpr ⟨lw_p19, fun _ h => absurd h List.not_mem_nil⟩⟩⟩⟩
def lw_privs : List (MethodName × Nat) := lw_privs_1 ++ (lw_privs_2)
def lw_tbl : List Cond := k2_sels lw_privs ++ tables_1
theorem lw_privs_ok : ∀ q ∈ lw_privs, lw_okq q := by
  show ∀ q ∈ lw_privs_1 ++ (lw_privs_2), lw_okq q
  exact List.forall_mem_append.mpr ⟨lw_r1, lw_r2⟩
end
section
/-! ===== BEGIN words of one list among another's, by their places ===== -/
theorem goodIn_r {big : List Cond} (ws : List Cond) (ps : List Nat) (hp : ws = ps.filterMap (fun i => big[i]?)) (h : ws.all goodWord = true) : GoodIn big ws := by
  intro w hw
  have h1 := List.all_eq_true.mp h w hw
  rw [hp] at hw
  obtain ⟨i, -, hi⟩ := List.mem_filterMap.mp hw
  have hm : w ∈ big := by first | exact List.mem_of_getElem? hi | exact List.getElem?_mem hi
  exact ⟨hm, good_of_word h1⟩
theorem goodIn_app {big a b : List Cond} (ha : GoodIn big a) (hb : GoodIn big b) : GoodIn big (a ++ b) := fun w h => (List.mem_append.mp h).elim (ha w) (hb w)
theorem goodIn_ca {big a b : List Cond} {c : Cond} (ha : GoodIn big (c :: a)) (hb : GoodIn big b) : GoodIn big (c :: (a ++ b)) := fun w h => (List.mem_cons.mp h).elim (fun e => ha w (List.mem_cons.mpr (Or.inl e))) (fun h => (List.mem_append.mp h).elim (fun h => ha w (List.mem_cons.mpr (Or.inr h))) (hb w))
theorem goodIn_sub {big ws : List Cond} (hm : ∀ w ∈ ws, w ∈ big) (h : ws.all goodWord = true) : GoodIn big ws := fun w hw => ⟨hm w hw, good_of_word (List.all_eq_true.mp h w hw)⟩
/-! ===== END ===== -/

/-! ===== BEGIN exceptions that leave a method, and their catching by the caller (launches without stack traces) ===== -/
section VXA
/-! The laws vx_back, vx_callV, vx_callS, vx_callSW, vx_throw0, vx_throwS follow proofs of the library, with one case more: JvmDerived/Free/Laws.lean (Back.of_free), Shelf42/LK1.lean (callV, callS), Shelf/KitTraced.lean (throwNew0V, throwNewS). -/
/-- where a method has thrown q: the class by its name, the cell, what was written, the world -/
def vx_T (XC : String → State → State → Prop) (st : State) (q : Addr) (t : State) (mc ms : Nat) (free : Addr → Prop) : Prop :=
  ∃ (E : String) (ce : Cell) (L : List Loc), XC E st t ∧ t.heap[q]? = some ce ∧ ce.vm = .none ∧ st.vm.findClass E = some ce.cls ∧ st.WarmedH t.vm ∧ st.sameButNew ({ t with vm := st.vm } : State) L mc ms ∧ ∀ z ∈ L, free z.base
def vx_Q (Qc : Array Value → State → Outcome → State → Prop) (XC : String → State → State → Prop) (mc ms : Nat) (free : Addr → Prop) : Array Value → State → Outcome → State → Prop := fun a st o t =>
  (Qc a st o t ∧ ∃ L, FrameEnd st o t L mc ms ∧ ∀ q ∈ L, free q.base) ∨ ∃ q, o = .threw q ∧ vx_T XC st q t mc ms free
/-- a callee that returns or throws -/
def vx_Met (l : Launch) (y : MethodName) (ws : List Cond) (rm : Room) (Pc : Array Value → State → Prop) (Qc : Array Value → State → Outcome → State → Prop) (XC : String → State → State → Prop) (mc ms : Nat) (free : Addr → Prop) : Prop :=
  MetFree l y (headSpec ws rm) Pc (fun _ _ _ _ _ => True) (vx_Q Qc XC mc ms free)
def vx_Post (XC : String → State → State → Prop) (mc ms : Nat) (free : Addr → Prop) : Pt → Array Value → Addr → Pt → Prop := fun A a q B =>
  ∃ (g : JFrame) (mk : MethodId) (t : State) (L : List Loc) (E : String) (ce : Cell), B.U.heap = t.heap ∧ B.U.vm = t.vm ∧ XC E (A.U.calling g mk a) t ∧ t.heap[q]? = some ce ∧ ce.vm = .none ∧ A.U.vm.findClass E = some ce.cls ∧ B.locs = A.locs ++ L ∧ (∀ z ∈ L, free z.base) ∧ B.cells = A.cells + mc ∧ B.slots = A.slots + ms
def vx_Back (l : Launch) (R : Room) (p : Program) (e : Env) (below : List Frame) (s : State) (sargs : Array Value) (y : MethodName) (len W9 : Nat)
    (Pre : Pt → Array Value → Prop) (Post : Pt → Array Value → Option Value → Pt → Prop) (PostX : Pt → Array Value → Addr → Pt → Prop) : Prop :=
  ∀ (m : MethodId) (meth : Method) (c : Code) (A : Pt) (g : JFrame) (ig : Instr) (mk : MethodId) (a : Array Value),
    Stand p l e R s m sargs below meth c A.U A.locs A.cells A.slots → g.method = m → g.locals.size = c.maxLocals → decode c.code g.pc = .ok (ig, len) →
    2 * g.monitorRoom + (g.stack.map fun v => v.category).sum ≤ W9 → A.U.methodNamed? y = some mk → Pre A a →
    (∃ (v : Option Value) (B : Pt), Stand p l e R s m sargs below meth c B.U B.locs B.cells B.slots ∧ Post A a v B ∧
      Steps p.tables e below (doInvoke e (A.U.setTop g) [] mk a).1 (B.U.setTop { g with pc := g.pc + len, stack := v.toList ++ g.stack })) ∨
    (∃ (q : Addr) (B : Pt), Stand p l e R s m sargs below meth c B.U B.locs B.cells B.slots ∧ PostX A a q B ∧
      Steps p.tables e below (doInvoke e (A.U.setTop g) [] mk a).1 ((B.U.setTop g).pushFrame (.throwing q)))
section Payer
variable {l : Launch} {R : Room} {p : Program} {e : Env} {below : List Frame} {s : State} {sargs : Array Value} {y : MethodName} {len W9 : Nat}
theorem vx_back {ws : List Cond} {rm : Room} {Pc : Array Value → State → Prop} {Qc : Array Value → State → Outcome → State → Prop} {XC : String → State → State → Prop} {mc ms : Nat} {free : Addr → Prop} {bytes : ByteArray} {maxL : Nat} {ret : Option FieldType}
    (hM : vx_Met l y ws rm Pc Qc XC mc ms free) (hblind : FrameBlind Pc) (hrc : rm.cells = mc) (hrs : rm.slots = ms)
    (hframes : rm.frames + 1 ≤ R.frames) (hlocals : W9 + (maxL + 11) + rm.locals ≤ R.locals)
    (hws : ∀ w ∈ ws, ∀ a' U, s.WarmedH U.vm → w.before a' U = true) (hcode : Cond.code y bytes maxL ret ∈ ws) (hinit : ∀ a' U, s.WarmedH U.vm → (Cond.initialized y.cls).before a' U = true) :
    vx_Back l R p e below s sargs y len W9 (PreOf R mc ms Pc) (PostOf Qc mc ms free) (vx_Post XC mc ms free) := by
  intro m meth c A g ig mk a X hg hsize hdg hW hn hp
  have h1 : (headSpec ws rm).pre.before a A.U = true := atoms_intro fun w hw => hws w hw _ _ X.warmed
  have h2 : (Cond.code y bytes maxL ret).before a A.U = true := hws _ hcode _ _ X.warmed
  have h3 : (Cond.initialized y.cls).before a A.U = true := hinit _ _ X.warmed
  have h4 : A.cells + (headSpec ws rm).room.cells ≤ R.cells := by rw [show (headSpec ws rm).room.cells = mc from hrc]; exact hp.1
  have h5 : A.slots + (headSpec ws rm).room.slots ≤ R.slots := by rw [show (headSpec ws rm).room.slots = ms from hrs]; exact hp.2.1
  have hPc : Pc a (A.U.calling g mk a) := hblind _ _ _ _ hp.2.2
  obtain ⟨U, Ls, c0, s0⟩ := A
  dsimp only [Pt.U, Pt.locs, Pt.cells, Pt.slots] at h1 h2 h3 h4 h5 X hn hPc ⊢
  obtain ⟨methY, cY, hmY, hcY, -, hlY, -, -, -, -⟩ := Cond.code_spec hn h2
  obtain ⟨kY, hkY, -⟩ := className_of_methodNamed hn
  have hinitY : kY.init = .initialized := Cond.initialized_spec (findClass_of_methodNamed hn) hkY h3
  have h : At U g.method c below := by rw [hg]; exact X.here
  have hlocals9 : W9 + (maxL + 11) + (headSpec ws rm).room.locals ≤ R.locals := hlocals
  have happ : (headSpec ws rm).appliesLoose y e.platform (U.calling g mk a) = true :=
    Spec.appliesLoose_calling (g := g) h hdg hn hkY hinitY
      (X.room_calling (g := g) (R' := (headSpec ws rm).room) hsize hmY hcY hframes (by rw [hlY]; omega) h4 h5) h1
  obtain ⟨mid, hmid⟩ := h.above
  have hfr : (U.setTop g).frames = (.java g :: mid) ++ below := by rw [State.frames_setTop' g h.top, hmid]; rfl
  obtain ⟨o, s₂, hsteps, -, hend, hq⟩ := Steps.callFree hM p X.admits X.cas X.clock (acts := []) hfr happ hPc trivial
  have hq' : vx_Q Qc XC mc ms free a (U.calling g mk a) o s₂ := hq
  rw [State.frames_setTop' g h.top] at hend
  obtain ⟨g₀, hg0⟩ := Option.isSome_iff_exists.mp h.top
  obtain ⟨r, hr⟩ := State.topJava?_eq_some.mp hg0
  have hr' : (({ U with heap := s₂.heap, slotsUsed := s₂.slotsUsed } : State).setVm s₂.vm).frames = .java g₀ :: r := hr
  rcases hq' with ⟨hqc, L, hfe, hL⟩ | ⟨q, rfl, E, ce, L, hx, hce, hcv, hcl, hW₂, hsm, hL⟩
  · obtain ⟨⟨v, rfl⟩, hW₂, e2, q2, q3, q4, q5, q6⟩ := id hfe
    have e3 : s₂ = ({ (U.calling g mk a).setFrames s₂.frames with heap := s₂.heap, slotsUsed := s₂.slotsUsed } : State).setVm s₂.vm := by
      have : s₂ = ({ s₂ with vm := (U.calling g mk a).vm } : State).setVm s₂.vm := rfl
      rw [e2] at this
      exact this
    obtain ⟨c₂, i₂, len₂, hc₂, hd₂, hf₂⟩ := hend
    have hW' : U.WarmedH s₂.vm := hW₂
    have hcc : c₂ = c := by
      have h1 : s₂.code? g.method = U.code? g.method := by
        rw [State.code?_eq, State.code?_eq, hW'.alike.method?]
      exact Option.some.inj (hc₂.symm.trans (h1.trans h.code))
    subst hcc
    have hlen : len₂ = len := by rw [hdg] at hd₂; cases hd₂; rfl
    subst hlen
    have hs₂ : s₂ = (({ U with heap := s₂.heap, slotsUsed := s₂.slotsUsed } : State).setVm s₂.vm).setTop { g with pc := g.pc + len₂, stack := v.toList ++ g.stack } := by
      refine e3.trans ?_
      rw [hf₂, State.calling_eq h.top, State.setFrames_setFrames, State.setTop_of_frames _ hr', hr]
      rfl
    have hsame : U.sameButNew ({ U with heap := s₂.heap, slotsUsed := s₂.slotsUsed } : State) L mc ms := by
      refine ⟨?_, q2, q3, q4, q5, q6⟩
      obtain ⟨t, ht, -⟩ := State.frames_cons hr
      show ({ U with heap := s₂.heap, slotsUsed := s₂.slotsUsed } : State) = { U.setFrames U.frames with heap := s₂.heap, slotsUsed := s₂.slotsUsed }
      rw [State.setFrames_self ht]
    subst hg
    refine Or.inl ⟨v, ⟨(({ U with heap := s₂.heap, slotsUsed := s₂.slotsUsed } : State).setVm s₂.vm), Ls ++ L, c0 + mc, s0 + ms⟩,
      ⟨X.admits, X.cas, X.clock, X.frames, X.room, X.hears, X.method, X.code, (X.here.setHeapUsed s₂.heap s₂.slotsUsed).setVm hW'.alike, X.tail, State.WarmedH.trans X.warmed hW', X.limits, X.bytes, X.same.trans (hsame.setVm s.vm)⟩,
      ⟨g, mk, s₂, L, rfl, rfl, hqc, rfl, hL, rfl, rfl⟩, ?_⟩
    show Steps p.tables e below _ ((({ U with heap := s₂.heap, slotsUsed := s₂.slotsUsed } : State).setVm s₂.vm).setTop { g with pc := g.pc + len₂, stack := v.toList ++ g.stack })
    rw [← hs₂]
    exact hsteps
  · obtain ⟨e2, q2, q3, q4, q5, q6⟩ := id hsm
    have e3 : s₂ = ({ (U.calling g mk a).setFrames s₂.frames with heap := s₂.heap, slotsUsed := s₂.slotsUsed } : State).setVm s₂.vm := by
      have : s₂ = ({ s₂ with vm := (U.calling g mk a).vm } : State).setVm s₂.vm := rfl
      rw [e2] at this
      exact this
    have hf₂ : s₂.frames = .throwing q :: .java g :: U.frames.tail := hend
    have hW' : U.WarmedH s₂.vm := hW₂
    have hs₂ : s₂ = ((({ U with heap := s₂.heap, slotsUsed := s₂.slotsUsed } : State).setVm s₂.vm).setTop g).pushFrame (.throwing q) := by
      refine e3.trans ?_
      rw [hf₂, State.calling_eq h.top, State.setFrames_setFrames, State.pushFrame, State.frames_setTop _ hr', State.setTop_of_frames _ hr', State.setFrames_setFrames, hr]
      rfl
    have hsame : U.sameButNew ({ U with heap := s₂.heap, slotsUsed := s₂.slotsUsed } : State) L mc ms := by
      refine ⟨?_, q2, q3, q4, q5, q6⟩
      obtain ⟨t, ht, -⟩ := State.frames_cons hr
      show ({ U with heap := s₂.heap, slotsUsed := s₂.slotsUsed } : State) = { U.setFrames U.frames with heap := s₂.heap, slotsUsed := s₂.slotsUsed }
      rw [State.setFrames_self ht]
    subst hg
    refine Or.inr ⟨q, ⟨(({ U with heap := s₂.heap, slotsUsed := s₂.slotsUsed } : State).setVm s₂.vm), Ls ++ L, c0 + mc, s0 + ms⟩,
      ⟨X.admits, X.cas, X.clock, X.frames, X.room, X.hears, X.method, X.code, (X.here.setHeapUsed s₂.heap s₂.slotsUsed).setVm hW'.alike, X.tail, State.WarmedH.trans X.warmed hW', X.limits, X.bytes, X.same.trans (hsame.setVm s.vm)⟩,
      ⟨g, mk, s₂, L, E, ce, rfl, rfl, hx, hce, hcv, hcl, rfl, hL, rfl, rfl⟩, ?_⟩
    show Steps p.tables e below _ (((({ U with heap := s₂.heap, slotsUsed := s₂.slotsUsed } : State).setVm s₂.vm).setTop g).pushFrame (.throwing q))
    rw [← hs₂]
    exact hsteps
end Payer
section Calls
variable {p : Program} {l : Launch} {e : Env} {R : Room} {s : State} {m : MethodId} {args : Array Value} {below : List Frame} {meth : Method} {c : Code} {T : State} {locs : List Loc} {cells slots : Nat}
theorem vx_callV (X : Stand p l e R s m args below meth c T locs cells slots) (hexec : p.tables.exec = Jvm.exec) {own C : String} {index : Nat} {y : MethodName} {bytes : ByteArray} {maxL : Nat} {ret : Option FieldType}
    (hown : s.vm.findClass own = some m.cls) (hlink : (Cond.methodLink own index y).before args s = true) (hinst : (Cond.instanceMethod y).before args s = true) (hsel : (Cond.selects C y y).before args s = true)
    (hcode : (Cond.code y bytes maxL ret).before args s = true) (hy : y.cls ≠ "java/lang/invoke/MethodHandle" ∧ y.cls ≠ "java/lang/invoke/VarHandle")
    {W9 : Nat} {Pre : Pt → Array Value → Prop} {Post : Pt → Array Value → Option Value → Pt → Prop} {PostX : Pt → Array Value → Addr → Pt → Prop} (hK : vx_Back l R p e below s args y 3 W9 Pre Post PostX)
    {b : Addr} {cellB : Cell} (hcell : T.heap[b]? = some cellB) (hobj : cellB.vm.isStatics = false) (hcls : s.vm.findClass C = some cellB.cls)
    {g : JFrame} (hg : g.method = m) (hsize : g.locals.size = c.maxLocals) {argsL rest : List Value} (hlen : ∀ sig, parseMethodDescriptor y.desc = some sig → argsL.length = sig.parameters.length)
    (hstack : g.stack = argsL.reverse ++ .ref b :: rest) (hW : 2 * g.monitorRoom + (rest.map fun v => v.category).sum ≤ W9) (hdg : decode c.code g.pc = .ok (.invokevirtual index, 3))
    (hpre : ∀ vm₁, s.WarmedH vm₁ → Pre ⟨T.setVm vm₁, locs, cells, slots⟩ (Value.ref b :: argsL).toArray) :
    (∃ (v : Option Value) (vm₁ : Vm) (B : Pt), s.WarmedH vm₁ ∧ Stand p l e R s m args below meth c B.U B.locs B.cells B.slots ∧ Post ⟨T.setVm vm₁, locs, cells, slots⟩ (Value.ref b :: argsL).toArray v B ∧
      ∀ target, Steps p.tables e below (B.U.setTop { g with pc := g.pc + 3, stack := v.toList ++ rest }) target → Steps p.tables e below (T.setTop g) target) ∨
    (∃ (q : Addr) (vm₁ : Vm) (B : Pt), s.WarmedH vm₁ ∧ Stand p l e R s m args below meth c B.U B.locs B.cells B.slots ∧ PostX ⟨T.setVm vm₁, locs, cells, slots⟩ (Value.ref b :: argsL).toArray q B ∧
      Steps p.tables e below (T.setTop g) ((B.U.setTop { g with stack := rest }).pushFrame (.throwing q))) := by
  obtain ⟨mk, methM, hnamed, hmethM, hstM, habM⟩ := Cond.instanceMethod_spec hinst
  obtain ⟨methM', cM, hmethM', -, -, -, -, -, -, hsigM⟩ := Cond.code_spec hnamed hcode
  cases hmethM.symm.trans hmethM'
  obtain ⟨c2, r2, m2, q1, q2, q3, q4, kP, hkP, hkPi⟩ := Cond.selects_spec hsel
  cases hcls.symm.trans q1
  cases (State.methodFound?_of_named hnamed hy).symm.trans q2
  cases hnamed.symm.trans q3
  have hselP : selectMethod e.platform s.vm cellB.cls mk = .method mk := by rw [Launch.admits_selectMethod X.admits]; exact q4
  obtain ⟨vm₁, X₁, hstep₁⟩ := X.invokevirtual hexec hown hlink hnamed hmethM hstM hkP hkPi hy (a := b) (cell := cellB) hcell
    (fun z h => by rw [h] at hobj; cases hobj) hselP hmethM habM hkP hkPi (g := g) hg (argsL := argsL) (rest := rest) (hlen _ hsigM) hstack hdg
  rcases hK m meth c ⟨T.setVm vm₁, locs, cells, slots⟩ { g with stack := rest } (.invokevirtual index) mk (Value.ref b :: argsL).toArray X₁ hg hsize hdg hW (X₁.named hnamed) (hpre vm₁ X₁.warmed) with ⟨v, B, X', hpost, hsteps⟩ | ⟨q, B, X', hpost, hsteps⟩
  · exact Or.inl ⟨v, vm₁, B, X₁.warmed, X', hpost, fun target h => hstep₁ _ fun acts => by rw [doInvoke_state]; exact hsteps.trans h⟩
  · exact Or.inr ⟨q, vm₁, B, X₁.warmed, X', hpost, hstep₁ _ fun acts => by rw [doInvoke_state]; exact hsteps⟩
theorem vx_callS (X : Stand p l e R s m args below meth c T locs cells slots) (hexec : p.tables.exec = Jvm.exec) {own : String} {index : Nat} {y : MethodName} {bytes : ByteArray} {maxL : Nat} {ret : Option FieldType}
    (hown : s.vm.findClass own = some m.cls) (hlink : (Cond.methodLink own index y).before args s = true) (hstat : (Cond.static y).before args s = true) (hinit : (Cond.initialized y.cls).before args s = true)
    (hcode : (Cond.code y bytes maxL ret).before args s = true) (hy : y.cls ≠ "java/lang/invoke/MethodHandle" ∧ y.cls ≠ "java/lang/invoke/VarHandle")
    {W9 : Nat} {Pre : Pt → Array Value → Prop} {Post : Pt → Array Value → Option Value → Pt → Prop} {PostX : Pt → Array Value → Addr → Pt → Prop} (hK : vx_Back l R p e below s args y 3 W9 Pre Post PostX)
    {g : JFrame} (hg : g.method = m) (hsize : g.locals.size = c.maxLocals) {argsL rest : List Value} (hlen : ∀ sig, parseMethodDescriptor y.desc = some sig → argsL.length = sig.parameters.length)
    (hstack : g.stack = argsL.reverse ++ rest) (hW : 2 * g.monitorRoom + (rest.map fun v => v.category).sum ≤ W9) (hdg : decode c.code g.pc = .ok (.invokestatic index, 3))
    (hpre : ∀ vm₁, s.WarmedH vm₁ → Pre ⟨T.setVm vm₁, locs, cells, slots⟩ argsL.toArray) :
    (∃ (v : Option Value) (vm₁ : Vm) (B : Pt), s.WarmedH vm₁ ∧ Stand p l e R s m args below meth c B.U B.locs B.cells B.slots ∧ Post ⟨T.setVm vm₁, locs, cells, slots⟩ argsL.toArray v B ∧
      ∀ target, Steps p.tables e below (B.U.setTop { g with pc := g.pc + 3, stack := v.toList ++ rest }) target → Steps p.tables e below (T.setTop g) target) ∨
    (∃ (q : Addr) (vm₁ : Vm) (B : Pt), s.WarmedH vm₁ ∧ Stand p l e R s m args below meth c B.U B.locs B.cells B.slots ∧ PostX ⟨T.setVm vm₁, locs, cells, slots⟩ argsL.toArray q B ∧
      Steps p.tables e below (T.setTop g) ((B.U.setTop { g with stack := rest }).pushFrame (.throwing q))) := by
  obtain ⟨mk, hnamed⟩ := Cond.code_named hcode
  obtain ⟨methM, cM, hmethM, -, -, -, -, -, -, hsigM⟩ := Cond.code_spec hnamed hcode
  have hstatic : methM.isStatic = true := Cond.static_spec hnamed hmethM hstat
  obtain ⟨kP, hkP, -⟩ := className_of_methodNamed hnamed
  have hinitP : kP.init = .initialized := Cond.initialized_spec (findClass_of_methodNamed hnamed) hkP hinit
  obtain ⟨vm₁, X₁, hstep₁⟩ := X.invokestatic hexec hown hlink hnamed hmethM hstatic hkP hinitP hy (g := g) hg (argsL := argsL) (rest := rest) (hlen _ hsigM) hstack hdg
  rcases hK m meth c ⟨T.setVm vm₁, locs, cells, slots⟩ { g with stack := rest } (.invokestatic index) mk argsL.toArray X₁ hg hsize hdg hW (X₁.named hnamed) (hpre vm₁ X₁.warmed) with ⟨v, B, X', hpost, hsteps⟩ | ⟨q, B, X', hpost, hsteps⟩
  · exact Or.inl ⟨v, vm₁, B, X₁.warmed, X', hpost, fun target h => hstep₁ _ fun acts => by rw [doInvoke_state]; exact hsteps.trans h⟩
  · exact Or.inr ⟨q, vm₁, B, X₁.warmed, X', hpost, hstep₁ _ fun acts => by rw [doInvoke_state]; exact hsteps⟩
end Calls
theorem vx_cls {s : State} {T : State} {vm₁ : Vm} {E : String} {k : ClassId} (hW : s.WarmedH vm₁) (h : (T.setVm vm₁).vm.findClass E = some k) : s.vm.findClass E = some k := by
  have h1 : vm₁.findClass E = some k := h
  rw [hW.alike.findClass] at h1
  exact h1
/-- the method's frame g, with q thrown over it -/
def vx_W (p : Program) (l : Launch) (e : Env) (R : Room) (s : State) (m : MethodId) (args : Array Value) (below : List Frame) (meth : Method) (c : Code) (H : Heap) (locs : List Loc) (cells slots : Nat) (Q : State → Prop) (g : JFrame) (q : Addr) : Prop :=
  ∀ T : State, T.heap = H → Stand p l e R s m args below meth c T locs cells slots → ∃ t, Steps p.tables e below ((T.setTop g).pushFrame (.throwing q)) t ∧ Q t
def vx_Run (p : Program) (l : Launch) (e : Env) (R : Room) (s : State) (m : MethodId) (args : Array Value) (below : List Frame) (meth : Method) (c : Code) (H : Heap) (locs : List Loc) (cells slots mc ms : Nat) (g : JFrame) (rest : List Value) (Qa : State → Outcome → State → Prop) (XC : String → State → State → Prop) (free : Addr → Prop) : Prop :=
  ∀ T : State, T.heap = H → Stand p l e R s m args below meth c T locs cells slots →
    (∃ (v : Option Value) (st₀ t T' : State) (L : List Loc), st₀.heap = H ∧ Stand p l e R s m args below meth c T' (locs ++ L) (cells + mc) (slots + ms) ∧ (∀ q ∈ L, free q.base) ∧ T'.heap = t.heap ∧ T'.vm = t.vm ∧ Qa st₀ (.returned v) t ∧
      Goes p e below T g T' { g with pc := g.pc + 3, stack := v.toList ++ rest }) ∨
    (∃ (q : Addr) (st₀ t T' : State) (L : List Loc) (E : String) (ce : Cell), st₀.heap = H ∧ Stand p l e R s m args below meth c T' (locs ++ L) (cells + mc) (slots + ms) ∧ (∀ z ∈ L, free z.base) ∧ T'.heap = t.heap ∧ T'.vm = t.vm ∧ XC E st₀ t ∧ t.heap[q]? = some ce ∧ ce.vm = .none ∧ s.vm.findClass E = some ce.cls ∧
      Steps p.tables e below (T.setTop g) ((T'.setTop { g with stack := rest }).pushFrame (.throwing q)))
def vx_X {S : Type} (px : S → Prop) (B : String → S → State → Prop) (A : Nat → Prop) : String → State → State → Prop := fun E st t => ∃ u : S, px u ∧ B E u t ∧ va_F A st t
section Runs
variable {p : Program} {l : Launch} {e : Env} {R : Room} {s : State} {m : MethodId} {args : Array Value} {below : List Frame} {meth : Method} {c : Code} {H : Heap} {locs : List Loc} {cells slots : Nat}
variable {y : MethodName} {bytes cc : ByteArray} {maxL nL mc ms n index : Nat} {ret : Option FieldType} {ws : List Cond} {rm : Room} {Pc : Array Value → State → Prop} {Qc : Array Value → State → Outcome → State → Prop} {XC : String → State → State → Prop} {free : Addr → Prop} {Ts : List Cond} {own C : String} {b : Addr} {As rest : List Value} {g : JFrame}
theorem vx_callBack (cb : CallB R s args own index y bytes maxL ret ws rm mc ms n) (hM : vx_Met l y ws rm Pc Qc XC mc ms free) (hbl : FrameBlind Pc) : vx_Back l R p e below s args y 3 8 (PreOf R mc ms Pc) (PostOf Qc mc ms free) (vx_Post XC mc ms free) := by
  obtain ⟨hrc, hrs, hfr, hlo, hws, hcw, -, hini, -⟩ := cb
  exact vx_back (bytes := bytes) (maxL := maxL) (ret := ret) hM hbl hrc hrs hfr hlo hws hcw (fun a' U hW => word_at hW (Or.inl (by first | rfl | simp [Cond.onTables, Cond.keeps, Cond.steady])) hini)
theorem vx_runV (S : CallFix p m c cc nL s args Ts own) (hM : vx_Met l y ws rm Pc Qc XC mc ms free) (cw : CallW R s args own C index y bytes maxL ret ws rm mc ms n) (hp : PreV s H C b Pc As)
    (hg : g.method = m) (hn : As.length = n) (hsize : g.locals.size = nL) (hstack : g.stack = As.reverse ++ .ref b :: rest) (hW : 2 * g.monitorRoom + (rest.map fun v => v.category).sum ≤ 8) (hdg : decode cc g.pc = .ok (.invokevirtual index, 3)) (hf : cells + mc ≤ R.cells ∧ slots + ms ≤ R.slots) :
    vx_Run p l e R s m args below meth c H locs cells slots mc ms g rest (Qc (Value.ref b :: As).toArray) XC free := by
  have hK : vx_Back l R p e below s args y 3 8 (PreOf R mc ms Pc) (PostOf Qc mc ms free) (vx_Post XC mc ms free) := vx_callBack cw.1 hM hp.1
  obtain ⟨⟨-, -, -, -, -, -, hcode, -, hy, hlen, hl⟩, hin, hse⟩ := cw
  obtain ⟨hx, hb, hml, ho, -⟩ := S
  obtain ⟨-, ⟨cellB, hcB, hoB, hclB⟩, hPc⟩ := hp
  intro T hT X
  rcases vx_callV X hx (C := C) (bytes := bytes) (maxL := maxL) (ret := ret) ho hl hin hse hcode hy hK (by rw [hT]; exact hcB) hoB hclB hg (hsize.trans hml.symm) (argsL := As) (rest := rest) (fun sig h => hn.trans (hlen sig h)) hstack hW (by rw [hb]; exact hdg)
    (fun vm₁ hW₁ => ⟨hf.1, hf.2, hPc (T.setVm vm₁) hT hW₁⟩) with ⟨v, vm₁, ⟨U', l2, c2, s2⟩, hW₁, X', ⟨g', mk, t, L, e1, e2, hq, h1, hL, h2, h3⟩, st⟩ | ⟨q, vm₁, ⟨U', l2, c2, s2⟩, hW₁, X', ⟨g', mk, t, L, E, ce, e1, e2, hq, hce, hcv, hcl, h1, hL, h2, h3⟩, st⟩
  · dsimp only [Pt.U, Pt.locs, Pt.cells, Pt.slots] at X' e1 e2 h1 h2 h3 st
    subst h1; subst h2; subst h3
    exact Or.inl ⟨v, (T.setVm vm₁).calling g' mk (Value.ref b :: As).toArray, t, U', L, hT, X', hL, e1, e2, hq, st⟩
  · dsimp only [Pt.U, Pt.locs, Pt.cells, Pt.slots] at X' e1 e2 h1 h2 h3 st hcl
    subst h1; subst h2; subst h3
    exact Or.inr ⟨q, (T.setVm vm₁).calling g' mk (Value.ref b :: As).toArray, t, U', L, E, ce, hT, X', hL, e1, e2, hq, hce, hcv, vx_cls hW₁ hcl, st⟩
theorem vx_runS (S : CallFix p m c cc nL s args Ts own) (hM : vx_Met l y ws rm Pc Qc XC mc ms free) (cw : CallB R s args own index y bytes maxL ret ws rm mc ms n ∧ (Cond.static y).before args s = true) (hp : PreS s H Pc As)
    (hg : g.method = m) (hn : As.length = n) (hsize : g.locals.size = nL) (hstack : g.stack = As.reverse ++ rest) (hW : 2 * g.monitorRoom + (rest.map fun v => v.category).sum ≤ 8) (hdg : decode cc g.pc = .ok (.invokestatic index, 3)) (hf : cells + mc ≤ R.cells ∧ slots + ms ≤ R.slots) :
    vx_Run p l e R s m args below meth c H locs cells slots mc ms g rest (Qc As.toArray) XC free := by
  have hK : vx_Back l R p e below s args y 3 8 (PreOf R mc ms Pc) (PostOf Qc mc ms free) (vx_Post XC mc ms free) := vx_callBack cw.1 hM hp.1
  obtain ⟨⟨-, -, -, -, -, -, hcode, hini, hy, hlen, hl⟩, hstt⟩ := cw
  obtain ⟨hx, hb, hml, ho, -⟩ := S
  intro T hT X
  rcases vx_callS X hx (bytes := bytes) (maxL := maxL) (ret := ret) ho hl hstt hini hcode hy hK hg (hsize.trans hml.symm) (argsL := As) (rest := rest) (fun sig h => hn.trans (hlen sig h)) hstack hW (by rw [hb]; exact hdg)
    (fun vm₁ hW₁ => ⟨hf.1, hf.2, hp.2 (T.setVm vm₁) hT hW₁⟩) with ⟨v, vm₁, ⟨U', l2, c2, s2⟩, hW₁, X', ⟨g', mk, t, L, e1, e2, hq, h1, hL, h2, h3⟩, st⟩ | ⟨q, vm₁, ⟨U', l2, c2, s2⟩, hW₁, X', ⟨g', mk, t, L, E, ce, e1, e2, hq, hce, hcv, hcl, h1, hL, h2, h3⟩, st⟩
  · dsimp only [Pt.U, Pt.locs, Pt.cells, Pt.slots] at X' e1 e2 h1 h2 h3 st
    subst h1; subst h2; subst h3
    exact Or.inl ⟨v, (T.setVm vm₁).calling g' mk As.toArray, t, U', L, hT, X', hL, e1, e2, hq, st⟩
  · dsimp only [Pt.U, Pt.locs, Pt.cells, Pt.slots] at X' e1 e2 h1 h2 h3 st hcl
    subst h1; subst h2; subst h3
    exact Or.inr ⟨q, (T.setVm vm₁).calling g' mk As.toArray, t, U', L, E, ce, hT, X', hL, e1, e2, hq, hce, hcv, vx_cls hW₁ hcl, st⟩
end Runs
section Rows
variable {p : Program} {l : Launch} {e : Env} {R : Room} {s : State} {m : MethodId} {args : Array Value} {below : List Frame} {meth : Method} {c : Code} {H : Heap} {locs : List Loc} {cells slots : Nat} {Q : State → Prop}
variable {mc ms : Nat} {free : Addr → Prop} {A0 A1 : Nat → Prop} {H0 : Heap} {a : Array Value} {pc : Nat} {ls : Array Slot} {st0 rest : List Value}
theorem vx_keep {st₀ t T' : State} {L : List Loc} (h0 : st₀.heap = H) (e1 : T'.heap = t.heap) (hS : va_S A0 H0 H locs) (hA : ∀ q, q < H.size → A1 q → A0 q) (hf : ∀ q, free q → A0 q) (hL : ∀ q ∈ L, free q.base) (hF : va_F A1 st₀ t) :
    H.size ≤ T'.heap.size ∧ (∀ q : Nat, q < H.size → ¬ A1 q → T'.heap[q]? = H[q]?) ∧ va_S A0 H0 T'.heap (locs ++ L) := by
  obtain ⟨hz, hk⟩ := hF
  rw [h0] at hz hk
  exact ⟨by rw [e1]; exact hz, fun q h1 h2 => by rw [e1]; exact hk q h1 h2,
    ⟨Nat.le_trans hS.1 (by rw [e1]; exact hz), fun q h1 h2 => by rw [e1, hk q (Nat.lt_of_lt_of_le h1 hS.1) (fun z => h2 (hA q (Nat.lt_of_lt_of_le h1 hS.1) z))]; exact hS.2.1 q h1 h2, fun q hq => by
      rcases List.mem_append.mp hq with h | h
      · exact hS.2.2 q h
      · exact hf _ (hL q h)⟩⟩
theorem vx_calli {S SX : Type} {post : Int32 → S → Prop} {px : SX → Prop} {B : S → State → Prop} {BX : String → SX → State → Prop} {AX : Nat → Prop} (hr : vx_Run p l e R s m args below meth c H locs cells slots mc ms (F0 m pc ls st0) rest (va_Qi post B A1 a) (vx_X px BX AX) free) (hS : va_S A0 H0 H locs) (hA : ∀ q, q < H.size → A1 q → A0 q) (hf : ∀ q, free q → A0 q) (hAX : ∀ q, q < H.size → AX q → A0 q)
    (kx : ∀ (E : String) (ce : Cell) (q9 : Addr) (u : SX) (t : State) (H1 : Heap) (locs1 : List Loc), t.heap = H1 → s.vm.Alike t.vm → px u → BX E u t → H.size ≤ H1.size → (∀ q : Nat, q < H.size → ¬ AX q → H1[q]? = H[q]?) → va_S A0 H0 H1 locs1 → H1[q9]? = some ce → ce.vm = .none → s.vm.findClass E = some ce.cls → vx_W p l e R s m args below meth c H1 locs1 (cells + mc) (slots + ms) Q (F0 m pc ls rest) q9)
    (kk : ∀ (r : Int32) (u : S) (t : State) (H1 : Heap) (locs1 : List Loc), t.heap = H1 → s.vm.Alike t.vm → post r u → B u t → H.size ≤ H1.size → (∀ q : Nat, q < H.size → ¬ A1 q → H1[q]? = H[q]?) → va_S A0 H0 H1 locs1 → W p l e R s m args below meth c H1 locs1 (cells + mc) (slots + ms) Q (F0 m (pc + 3) ls (.int r :: rest))) : W p l e R s m args below meth c H locs cells slots Q (F0 m pc ls st0) := by
  intro T hT X
  rcases hr T hT X with ⟨v, st₀, t, T', L, h0, X', hL, e1, e2, ⟨⟨r, u, hv, hp, hb⟩, hF⟩, st⟩ | ⟨q, st₀, t, T', L, E, ce, h0, X', hL, e1, e2, ⟨u, hp, hb, hF⟩, hce, hcv, hcl, st⟩
  · cases hv
    obtain ⟨k1, k2, k3⟩ := vx_keep h0 e1 hS hA hf hL hF
    obtain ⟨t2, a1, b1⟩ := kk r u t T'.heap (locs ++ L) e1.symm (by rw [← e2]; exact X'.warmed.alike) hp hb k1 k2 k3 T' rfl X'
    exact ⟨t2, st t2 a1, b1⟩
  · obtain ⟨k1, k2, k3⟩ := vx_keep h0 e1 hS hAX hf hL hF
    obtain ⟨t2, a1, b1⟩ := kx E ce q u t T'.heap (locs ++ L) e1.symm (by rw [← e2]; exact X'.warmed.alike) hp hb k1 k2 k3 (by rw [e1]; exact hce) hcv hcl T' rfl X'
    exact ⟨t2, st.trans a1, b1⟩
theorem vx_calll {S SX : Type} {post : Int64 → S → Prop} {px : SX → Prop} {B : S → State → Prop} {BX : String → SX → State → Prop} {AX : Nat → Prop} (hr : vx_Run p l e R s m args below meth c H locs cells slots mc ms (F0 m pc ls st0) rest (va_Ql post B A1 a) (vx_X px BX AX) free) (hS : va_S A0 H0 H locs) (hA : ∀ q, q < H.size → A1 q → A0 q) (hf : ∀ q, free q → A0 q) (hAX : ∀ q, q < H.size → AX q → A0 q)
    (kx : ∀ (E : String) (ce : Cell) (q9 : Addr) (u : SX) (t : State) (H1 : Heap) (locs1 : List Loc), t.heap = H1 → s.vm.Alike t.vm → px u → BX E u t → H.size ≤ H1.size → (∀ q : Nat, q < H.size → ¬ AX q → H1[q]? = H[q]?) → va_S A0 H0 H1 locs1 → H1[q9]? = some ce → ce.vm = .none → s.vm.findClass E = some ce.cls → vx_W p l e R s m args below meth c H1 locs1 (cells + mc) (slots + ms) Q (F0 m pc ls rest) q9)
    (kk : ∀ (r : Int64) (u : S) (t : State) (H1 : Heap) (locs1 : List Loc), t.heap = H1 → s.vm.Alike t.vm → post r u → B u t → H.size ≤ H1.size → (∀ q : Nat, q < H.size → ¬ A1 q → H1[q]? = H[q]?) → va_S A0 H0 H1 locs1 → W p l e R s m args below meth c H1 locs1 (cells + mc) (slots + ms) Q (F0 m (pc + 3) ls (.long r :: rest))) : W p l e R s m args below meth c H locs cells slots Q (F0 m pc ls st0) := by
  intro T hT X
  rcases hr T hT X with ⟨v, st₀, t, T', L, h0, X', hL, e1, e2, ⟨⟨r, u, hv, hp, hb⟩, hF⟩, st⟩ | ⟨q, st₀, t, T', L, E, ce, h0, X', hL, e1, e2, ⟨u, hp, hb, hF⟩, hce, hcv, hcl, st⟩
  · cases hv
    obtain ⟨k1, k2, k3⟩ := vx_keep h0 e1 hS hA hf hL hF
    obtain ⟨t2, a1, b1⟩ := kk r u t T'.heap (locs ++ L) e1.symm (by rw [← e2]; exact X'.warmed.alike) hp hb k1 k2 k3 T' rfl X'
    exact ⟨t2, st t2 a1, b1⟩
  · obtain ⟨k1, k2, k3⟩ := vx_keep h0 e1 hS hAX hf hL hF
    obtain ⟨t2, a1, b1⟩ := kx E ce q u t T'.heap (locs ++ L) e1.symm (by rw [← e2]; exact X'.warmed.alike) hp hb k1 k2 k3 (by rw [e1]; exact hce) hcv hcl T' rfl X'
    exact ⟨t2, st.trans a1, b1⟩
theorem vx_callf {S SX : Type} {post : UInt32 → S → Prop} {px : SX → Prop} {B : S → State → Prop} {BX : String → SX → State → Prop} {AX : Nat → Prop} (hr : vx_Run p l e R s m args below meth c H locs cells slots mc ms (F0 m pc ls st0) rest (va_Qf post B A1 a) (vx_X px BX AX) free) (hS : va_S A0 H0 H locs) (hA : ∀ q, q < H.size → A1 q → A0 q) (hf : ∀ q, free q → A0 q) (hAX : ∀ q, q < H.size → AX q → A0 q)
    (kx : ∀ (E : String) (ce : Cell) (q9 : Addr) (u : SX) (t : State) (H1 : Heap) (locs1 : List Loc), t.heap = H1 → s.vm.Alike t.vm → px u → BX E u t → H.size ≤ H1.size → (∀ q : Nat, q < H.size → ¬ AX q → H1[q]? = H[q]?) → va_S A0 H0 H1 locs1 → H1[q9]? = some ce → ce.vm = .none → s.vm.findClass E = some ce.cls → vx_W p l e R s m args below meth c H1 locs1 (cells + mc) (slots + ms) Q (F0 m pc ls rest) q9)
    (kk : ∀ (r : UInt32) (u : S) (t : State) (H1 : Heap) (locs1 : List Loc), t.heap = H1 → s.vm.Alike t.vm → post r u → B u t → H.size ≤ H1.size → (∀ q : Nat, q < H.size → ¬ A1 q → H1[q]? = H[q]?) → va_S A0 H0 H1 locs1 → W p l e R s m args below meth c H1 locs1 (cells + mc) (slots + ms) Q (F0 m (pc + 3) ls (.float r :: rest))) : W p l e R s m args below meth c H locs cells slots Q (F0 m pc ls st0) := by
  intro T hT X
  rcases hr T hT X with ⟨v, st₀, t, T', L, h0, X', hL, e1, e2, ⟨⟨r, u, hv, hp, hb⟩, hF⟩, st⟩ | ⟨q, st₀, t, T', L, E, ce, h0, X', hL, e1, e2, ⟨u, hp, hb, hF⟩, hce, hcv, hcl, st⟩
  · cases hv
    obtain ⟨k1, k2, k3⟩ := vx_keep h0 e1 hS hA hf hL hF
    obtain ⟨t2, a1, b1⟩ := kk r u t T'.heap (locs ++ L) e1.symm (by rw [← e2]; exact X'.warmed.alike) hp hb k1 k2 k3 T' rfl X'
    exact ⟨t2, st t2 a1, b1⟩
  · obtain ⟨k1, k2, k3⟩ := vx_keep h0 e1 hS hAX hf hL hF
    obtain ⟨t2, a1, b1⟩ := kx E ce q u t T'.heap (locs ++ L) e1.symm (by rw [← e2]; exact X'.warmed.alike) hp hb k1 k2 k3 (by rw [e1]; exact hce) hcv hcl T' rfl X'
    exact ⟨t2, st.trans a1, b1⟩
theorem vx_calld {S SX : Type} {post : UInt64 → S → Prop} {px : SX → Prop} {B : S → State → Prop} {BX : String → SX → State → Prop} {AX : Nat → Prop} (hr : vx_Run p l e R s m args below meth c H locs cells slots mc ms (F0 m pc ls st0) rest (va_Qd post B A1 a) (vx_X px BX AX) free) (hS : va_S A0 H0 H locs) (hA : ∀ q, q < H.size → A1 q → A0 q) (hf : ∀ q, free q → A0 q) (hAX : ∀ q, q < H.size → AX q → A0 q)
    (kx : ∀ (E : String) (ce : Cell) (q9 : Addr) (u : SX) (t : State) (H1 : Heap) (locs1 : List Loc), t.heap = H1 → s.vm.Alike t.vm → px u → BX E u t → H.size ≤ H1.size → (∀ q : Nat, q < H.size → ¬ AX q → H1[q]? = H[q]?) → va_S A0 H0 H1 locs1 → H1[q9]? = some ce → ce.vm = .none → s.vm.findClass E = some ce.cls → vx_W p l e R s m args below meth c H1 locs1 (cells + mc) (slots + ms) Q (F0 m pc ls rest) q9)
    (kk : ∀ (r : UInt64) (u : S) (t : State) (H1 : Heap) (locs1 : List Loc), t.heap = H1 → s.vm.Alike t.vm → post r u → B u t → H.size ≤ H1.size → (∀ q : Nat, q < H.size → ¬ A1 q → H1[q]? = H[q]?) → va_S A0 H0 H1 locs1 → W p l e R s m args below meth c H1 locs1 (cells + mc) (slots + ms) Q (F0 m (pc + 3) ls (.double r :: rest))) : W p l e R s m args below meth c H locs cells slots Q (F0 m pc ls st0) := by
  intro T hT X
  rcases hr T hT X with ⟨v, st₀, t, T', L, h0, X', hL, e1, e2, ⟨⟨r, u, hv, hp, hb⟩, hF⟩, st⟩ | ⟨q, st₀, t, T', L, E, ce, h0, X', hL, e1, e2, ⟨u, hp, hb, hF⟩, hce, hcv, hcl, st⟩
  · cases hv
    obtain ⟨k1, k2, k3⟩ := vx_keep h0 e1 hS hA hf hL hF
    obtain ⟨t2, a1, b1⟩ := kk r u t T'.heap (locs ++ L) e1.symm (by rw [← e2]; exact X'.warmed.alike) hp hb k1 k2 k3 T' rfl X'
    exact ⟨t2, st t2 a1, b1⟩
  · obtain ⟨k1, k2, k3⟩ := vx_keep h0 e1 hS hAX hf hL hF
    obtain ⟨t2, a1, b1⟩ := kx E ce q u t T'.heap (locs ++ L) e1.symm (by rw [← e2]; exact X'.warmed.alike) hp hb k1 k2 k3 (by rw [e1]; exact hce) hcv hcl T' rfl X'
    exact ⟨t2, st.trans a1, b1⟩
theorem vx_callv {S SX : Type} {post : S → Prop} {px : SX → Prop} {B : S → State → Prop} {BX : String → SX → State → Prop} {AX : Nat → Prop} (hr : vx_Run p l e R s m args below meth c H locs cells slots mc ms (F0 m pc ls st0) rest (va_Qv post B A1 a) (vx_X px BX AX) free) (hS : va_S A0 H0 H locs) (hA : ∀ q, q < H.size → A1 q → A0 q) (hf : ∀ q, free q → A0 q) (hAX : ∀ q, q < H.size → AX q → A0 q)
    (kx : ∀ (E : String) (ce : Cell) (q9 : Addr) (u : SX) (t : State) (H1 : Heap) (locs1 : List Loc), t.heap = H1 → s.vm.Alike t.vm → px u → BX E u t → H.size ≤ H1.size → (∀ q : Nat, q < H.size → ¬ AX q → H1[q]? = H[q]?) → va_S A0 H0 H1 locs1 → H1[q9]? = some ce → ce.vm = .none → s.vm.findClass E = some ce.cls → vx_W p l e R s m args below meth c H1 locs1 (cells + mc) (slots + ms) Q (F0 m pc ls rest) q9)
    (kk : ∀ (u : S) (t : State) (H1 : Heap) (locs1 : List Loc), t.heap = H1 → s.vm.Alike t.vm → post u → B u t → H.size ≤ H1.size → (∀ q : Nat, q < H.size → ¬ A1 q → H1[q]? = H[q]?) → va_S A0 H0 H1 locs1 → W p l e R s m args below meth c H1 locs1 (cells + mc) (slots + ms) Q (F0 m (pc + 3) ls (rest))) : W p l e R s m args below meth c H locs cells slots Q (F0 m pc ls st0) := by
  intro T hT X
  rcases hr T hT X with ⟨v, st₀, t, T', L, h0, X', hL, e1, e2, ⟨⟨u, hv, hp, hb⟩, hF⟩, st⟩ | ⟨q, st₀, t, T', L, E, ce, h0, X', hL, e1, e2, ⟨u, hp, hb, hF⟩, hce, hcv, hcl, st⟩
  · cases hv
    obtain ⟨k1, k2, k3⟩ := vx_keep h0 e1 hS hA hf hL hF
    obtain ⟨t2, a1, b1⟩ := kk u t T'.heap (locs ++ L) e1.symm (by rw [← e2]; exact X'.warmed.alike) hp hb k1 k2 k3 T' rfl X'
    exact ⟨t2, st t2 a1, b1⟩
  · obtain ⟨k1, k2, k3⟩ := vx_keep h0 e1 hS hAX hf hL hF
    obtain ⟨t2, a1, b1⟩ := kx E ce q u t T'.heap (locs ++ L) e1.symm (by rw [← e2]; exact X'.warmed.alike) hp hb k1 k2 k3 (by rw [e1]; exact hce) hcv hcl T' rfl X'
    exact ⟨t2, st.trans a1, b1⟩
/-- caught by the row x of this method's table; the rows ahead don't take it -/
theorem vx_catch {own name : String} {E : String} {ce : Cell} {q : Addr} (hown : s.vm.findClass own = some m.cls) (pre : List ExceptionTableEntry) (x : ExceptionTableEntry) (suf : List ExceptionTableEntry) (hsplit : c.exceptionTable.toList = pre ++ x :: suf)
    (hpass : ∀ z ∈ pre, covers z pc = false ∨ (z.catchType ≠ 0 ∧ ∃ nm : String, (Cond.classLink own z.catchType nm).before args s = true ∧ va_Nc E nm s)) (hx : covers x pc = true) (h0 : x.catchType ≠ 0)
    (hlink : (Cond.classLink own x.catchType name).before args s = true) (hcast : (Cond.castable E name).before args s = true) (hcell : H[q]? = some ce) (hv : ce.vm = .none) (hcl : s.vm.findClass E = some ce.cls)
    (kk : W p l e R s m args below meth c H locs cells slots Q (F0 m x.handlerPc ls [.ref q])) : vx_W p l e R s m args below meth c H locs cells slots Q (F0 m pc ls rest) q := by
  intro T hT X
  have hpl : e.platform.magicAccessors = ({} : Platform).magicAccessors := by rw [X.admits.platform]
  obtain ⟨c3, c4, hc3, hc4, hasg⟩ := Cond.castable_spec hcast
  cases Option.some.inj (hc3.symm.trans hcl)
  obtain ⟨c5, hc5, hcl5⟩ := Cond.classLink_spec hown hlink e.platform hpl
  cases Option.some.inj (hc4.symm.trans hc5)
  obtain ⟨vm', X', st⟩ := Jvm.Stand.thenCaughtThrough X q (g := F0 m pc ls rest) rfl (Steps.refl _) (by rw [hT]; exact hcell) (by rw [hv]; rfl) (by obtain ⟨k9, h9, -⟩ := Vm.findClass_spec hcl; exact ⟨k9, h9⟩) pre x suf hsplit
    (fun z hz => by
      rcases hpass z hz with h | ⟨hz0, nm, hl1, hn1⟩
      · exact Or.inl h
      · obtain ⟨c6, hc6, hcl6⟩ := Cond.classLink_spec hown hl1 e.platform hpl
        obtain ⟨a8, b8, h1, h2, h3⟩ := hn1
        cases Option.some.inj (h1.symm.trans hcl)
        cases Option.some.inj (h2.symm.trans hc6)
        exact Or.inr ⟨hz0, _, hcl6, h3⟩) hx (Or.inr ⟨h0, c4, hcl5, hasg⟩)
  obtain ⟨t, a1, b1⟩ := kk (T.setVm vm') hT X'
  exact ⟨t, st.trans a1, b1⟩
end Rows
section Ends
variable {p : Program} {l : Launch} {e : Env} {R : Room} {s : State} {m : MethodId} {args : Array Value} {below : List Frame} {meth : Method} {c : Code} {H : Heap} {locs : List Loc} {cells slots : Nat} {Q : State → Prop}
variable {mc ms : Nat} {free : Addr → Prop} {A0 A1 : Nat → Prop} {H0 : Heap} {a : Array Value} {ls : Array Slot} {st0 rest : List Value}
variable {Qc : Array Value → State → Outcome → State → Prop} {XC : String → State → State → Prop}
/-- what a body that may throw owes at its end -/
def vx_MQ (below : List Frame) (Qc : Array Value → State → Outcome → State → Prop) (XC : String → State → State → Prop) (a : Array Value) (s : State) (mc ms : Nat) (free : Addr → Prop) : State → Prop := fun t =>
  ∃ o, t.status = .running ∧ Ended t below o ∧ vx_Q Qc XC mc ms free a s o t
theorem vx_ret {g : JFrame} {mc ms : Nat} (k : W p l e R s m args below meth c H locs cells slots (MQ below Qc args s mc ms free) g) : W p l e R s m args below meth c H locs cells slots (vx_MQ below Qc XC args s mc ms free) g := by
  intro T hT X
  obtain ⟨t, a1, o, b1, b2, b3, b4⟩ := k T hT X
  exact ⟨t, a1, o, b1, b2, Or.inl ⟨b3, b4⟩⟩
/-- not caught here: it goes on to the caller -/
theorem vx_widen {g : JFrame} {q : Addr} {k n : Nat} (h1 : cells ≤ k) (h2 : slots ≤ n) (kk : vx_W p l e R s m args below meth c H locs k n Q g q) : vx_W p l e R s m args below meth c H locs cells slots Q g q := fun T hT X => kk T hT (stand_widen X h1 h2)
theorem vx_out {pc : Nat} {E : String} {ce : Cell} {q : Addr} {mc ms : Nat} (hout : ∀ x ∈ c.exceptionTable.toList, covers x pc = false) (hlocks : meth.locks = false) (hcell : H[q]? = some ce) (hv : ce.vm = .none) (hcl : s.vm.findClass E = some ce.cls)
    (hx : ∀ t : State, t.heap = H → s.vm.Alike t.vm → XC E s t) (hf : ∀ z ∈ locs, free z.base) (hc : cells ≤ mc) (hs : slots ≤ ms) :
    vx_W p l e R s m args below meth c H locs cells slots (vx_MQ below Qc XC args s mc ms free) (F0 m pc ls rest) q := by
  intro T hT X
  obtain ⟨st1, hrun, hend, hW, hsm⟩ := X.leaveThrown q (g := F0 m pc ls rest) rfl rfl rfl hout hlocks
  have hcell9 : (T.setFrames (.throwing q :: below)).heap[q]? = some ce := by
    show T.heap[q]? = some ce
    rw [hT]; exact hcell
  exact ⟨_, st1, .threw q, hrun, hend, Or.inr ⟨q, rfl, E, ce, locs, hx _ hT hW.alike, hcell9, hv, hcl, hW, hsm.mono hc hs, hf⟩⟩
theorem vx_frame {U : State} {k n : Nat} (h : s.sameButNew ({ U with vm := s.vm } : State) locs k n) : s.heap.size ≤ U.heap.size ∧ ∀ q : Nat, q < s.heap.size → (∀ z ∈ locs, z.base ≠ q) → U.heap[q]? = s.heap[q]? := by
  obtain ⟨-, h2, -, -, -, h6⟩ := h
  refine ⟨h2, fun q hq hz => ?_⟩
  obtain ⟨c9, e1, e2, e3, e4⟩ := h6 q _ (Array.getElem?_eq_getElem hq)
  have hs : c9.slots = (s.heap[q]).slots := Array.ext_getElem? fun i => e4 i fun hm => hz _ hm rfl
  have h9 : c9 = s.heap[q] := by
    rw [hs] at e2
    exact e2
  have e5 : U.heap[q]? = some c9 := e1
  rw [e5, h9, Array.getElem?_eq_getElem hq]
/-- the words of a throw but the four that speak of the heap -/
def vx_no (w : Cond) : Bool := decide (w ≠ .isRef (.static Bundle.tN "UNASSIGNED_STACK" Bundle.steD)) && decide (w ≠ .isRef (.static Bundle.tN "SUPPRESSED_SENTINEL" Bundle.listD)) && decide (w ≠ .laysStatic Bundle.tN "UNASSIGNED_STACK" Bundle.steD) && decide (w ≠ .laysStatic Bundle.tN "SUPPRESSED_SENTINEL" Bundle.listD)
def vx_at0 (own : String) (ic : Nat) (X : String) (names : List String) : List Cond := (Bundle.ownAtoms0 own ic X names).filter vx_no
def vx_atS (own : String) (ic : Nat) (X : String) (names : List String) : List Cond := (Bundle.ownAtoms own ic X names).filter vx_no
/-- a word that the tables alone decide, or a good one -/
def vx_ot (w : Cond) : Bool := w.onTables || goodWord w
theorem vx_ot_at {args a' : Array Value} {s U : State} {w : Cond} (hW : s.WarmedH U.vm) (hvm : s.vm = U.vm) (hg : vx_ot w = true) (h : w.before args s = true) : w.before a' U = true := by
  simp only [vx_ot, Bool.or_eq_true] at hg
  rcases hg with hg | hg
  · exact va_tabs hg hvm h
  · exact word_at hW (good_of_word hg) h
/-- a list's words: the good ones out of the method's own list, the others by premises of their own -/
theorem vx_hat {args : Array Value} {s : State} {L B : List Cond} (h1 : ∀ w ∈ L.filter goodWord, w.before args s = true) (h2 : ∀ w ∈ L.filter (fun w => !goodWord w), w ∈ B) (h3 : ∀ w ∈ B, w.before args s = true) : ∀ w ∈ L, w.before args s = true := by
  intro w hw
  by_cases g : goodWord w = true
  · exact h1 w (List.mem_filter.mpr ⟨hw, g⟩)
  · refine h3 w (h2 w (List.mem_filter.mpr ⟨hw, ?_⟩))
    show (!goodWord w) = true
    cases hgw : goodWord w
    · rfl
    · exact absurd hgw g
theorem vx_c {args : Array Value} {s : State} {w : Cond} {B : List Cond} (h : w.before args s = true) (t : ∀ w ∈ B, w.before args s = true) : ∀ w' ∈ w :: B, w'.before args s = true := fun w' h' => (List.mem_cons.mp h').elim (fun e => by rw [e]; exact h) (t w')
theorem vx_n {args : Array Value} {s : State} : ∀ w ∈ ([] : List Cond), w.before args s = true := fun _ h => nomatch h
theorem vx_own {args : Array Value} {s : State} {L : List Cond} (h1 : ∀ w ∈ L.filter vx_no, w.before args s = true)
    (hU : (Cond.isRef (.static Bundle.tN "UNASSIGNED_STACK" Bundle.steD)).before args s = true) (hN : (Cond.isRef (.static Bundle.tN "SUPPRESSED_SENTINEL" Bundle.listD)).before args s = true)
    (lU : (Cond.laysStatic Bundle.tN "UNASSIGNED_STACK" Bundle.steD).before args s = true) (lN : (Cond.laysStatic Bundle.tN "SUPPRESSED_SENTINEL" Bundle.listD).before args s = true) : ∀ w ∈ L, w.before args s = true := by
  intro w hw
  by_cases e1 : w = .isRef (.static Bundle.tN "UNASSIGNED_STACK" Bundle.steD)
  · rw [e1]; exact hU
  · by_cases e2 : w = .isRef (.static Bundle.tN "SUPPRESSED_SENTINEL" Bundle.listD)
    · rw [e2]; exact hN
    · by_cases e3 : w = .laysStatic Bundle.tN "UNASSIGNED_STACK" Bundle.steD
      · rw [e3]; exact lU
      · by_cases e4 : w = .laysStatic Bundle.tN "SUPPRESSED_SENTINEL" Bundle.listD
        · rw [e4]; exact lN
        · exact h1 w (List.mem_filter.mpr ⟨hw, by unfold vx_no; rw [decide_eq_true e1, decide_eq_true e2, decide_eq_true e3, decide_eq_true e4]; rfl⟩)
/-- where a static field lies, its class's statics cell in H -/
def vx_L (C n d : String) (A : Nat → Prop) (U : State) (H : Heap) : Prop := ∃ (c : ClassId) (k : Class) (i : Nat) (f : Field) (a : Nat) (cell : Cell), U.vm.findClass C = some c ∧ U.fieldFound? C n d = some (c, k, i, f) ∧ f.isStatic = true ∧ k.statics = some a ∧ H[a]? = some cell ∧ cell.vm.isStatics = true ∧ cell.cls = c ∧ f.slot < cell.slots.size ∧ k.staticTypes[f.slot]? = some f.type ∧ ¬ A a
theorem vx_L.moved {C n d : String} {A : Nat → Prop} {u U : State} {H : Heap} (hvm : u.vm.Alike U.vm) (h : vx_L C n d A u H) : vx_L C n d A U H := by
  obtain ⟨c, k, i, f, a, cell, h1, h2, h3, h4, h5, h6, h7, h8, h9, h10⟩ := h
  obtain ⟨k', hi', he⟩ := State.fieldFound?_setVm hvm h2
  exact ⟨c, k', i, f, a, cell, by rw [hvm.findClass]; exact h1, hi', h3, by rw [he]; exact h4, h5, h6, h7, h8, by rw [he]; exact h9, h10⟩
theorem vx_L.kept {C n d : String} {A : Nat → Prop} {U : State} {H H1 : Heap} (h : vx_L C n d A U H) (hq : ∀ a : Nat, a < H.size → ¬ A a → H1[a]? = H[a]?) : vx_L C n d A U H1 := by
  obtain ⟨c, k, i, f, a, cell, h1, h2, h3, h4, h5, h6, h7, h8, h9, h10⟩ := h
  exact ⟨c, k, i, f, a, cell, h1, h2, h3, h4, by rw [hq a (Array.getElem?_eq_some_iff.mp h5).1 h10]; exact h5, h6, h7, h8, h9, h10⟩
theorem vx_L.narrow {C n d : String} {A B : Nat → Prop} {U : State} {H : Heap} (h : vx_L C n d A U H) (hAB : ∀ q, B q → A q) : vx_L C n d B U H := by
  obtain ⟨c, k, i, f, a, cell, h1, h2, h3, h4, h5, h6, h7, h8, h9, h10⟩ := h
  exact ⟨c, k, i, f, a, cell, h1, h2, h3, h4, h5, h6, h7, h8, h9, fun z => h10 (hAB _ z)⟩
theorem vx_L.word {C n d : String} {A : Nat → Prop} {s : State} {args : Array Value} (h : vx_L C n d A s s.heap) : (Cond.laysStatic C n d).before args s = true := by
  obtain ⟨c, k, i, f, a, cell, h1, h2, h3, h4, h5, h6, h7, h8, h9, -⟩ := h
  show (Cond.laysStatic C n d).holds args s none s [] = true
  exact Cond.laysStatic_of h1 h2 h3 h4 h5 h6 h7 h8 h9
/-- .. and what it holds: null or some reference -/
def vx_Zq (C n d : String) (A : Nat → Prop) (U : State) (H : Heap) : Prop := va_Zq C n d A U H ∧ vx_L C n d A U H
theorem vx_Zq.moved {C n d : String} {A : Nat → Prop} {u U : State} {H : Heap} (hvm : u.vm.Alike U.vm) (h : vx_Zq C n d A u H) : vx_Zq C n d A U H := ⟨va_Zq.moved hvm h.1, vx_L.moved hvm h.2⟩
theorem vx_Zq.kept {C n d : String} {A : Nat → Prop} {U : State} {H H1 : Heap} (h : vx_Zq C n d A U H) (hq : ∀ a : Nat, a < H.size → ¬ A a → H1[a]? = H[a]?) : vx_Zq C n d A U H1 := ⟨va_Zq.kept h.1 hq, vx_L.kept h.2 hq⟩
theorem vx_Zq.narrow {C n d : String} {A B : Nat → Prop} {U : State} {H : Heap} (h : vx_Zq C n d A U H) (hAB : ∀ q, B q → A q) : vx_Zq C n d B U H := ⟨va_Zq.narrow h.1 hAB, vx_L.narrow h.2 hAB⟩
theorem vx_Zqof {args : Array Value} {s : State} {C n d : String} {A : Nat → Prop} (hl : (Cond.laysStatic C n d).before args s = true) (hini : (Cond.initialized C).before args s = true) (h : (Cond.isRef (.static C n d)).before args s = true) (hA : ∀ a : Nat, a < s.heap.size → ¬ A a) : vx_Zq C n d A s s.heap := by
  refine ⟨va_Zqof hl hini h hA, ?_⟩
  obtain ⟨c, k, i, f, a, cell, h1, h2, h3, h4, h5, h6, h7, h8, h9⟩ := Cond.laysStatic_spec hl
  exact ⟨c, k, i, f, a, cell, h1, h2, h3, h4, h5, h6, h7, h8, h9, hA a (Array.getElem?_eq_some_iff.mp h5).1⟩
theorem vx_isRef {C n d : String} {v : Value} {A : Nat → Prop} {s : State} {args : Array Value} (h : va_Z C n d v A s s.heap) (hv : v.isRef = true) : (Cond.isRef (.static C n d)).before args s = true := by
  obtain ⟨cf, kf, fi, f, a, cell, h1, h2, h3, h4, h5, h6, h7, -⟩ := h
  have he : (Term.static C n d).eval args s none [] s = some v := by
    simp [Term.eval, State.fieldNamed?, h1, h2, h4, h5, h6, h7]
  simp only [Cond.before, Cond.holds, Cond.value, he]
  cases v <;> simp_all [Value.isRef]
theorem vx_isRefq {C n d : String} {A : Nat → Prop} {s : State} {args : Array Value} (h : va_Zq C n d A s s.heap) : (Cond.isRef (.static C n d)).before args s = true := by
  rcases h with h | ⟨t, h⟩
  · exact vx_isRef h rfl
  · exact vx_isRef h rfl
/-- the same frame, seen from here: as if the method were called anew in this heap -/
theorem vx_rebase {T : State} (X : Stand p l e R s m args below meth c T locs cells slots) {R' : Room} (hf : R'.frames ≤ R.frames) (hl : R'.locals ≤ R.locals) (hc : cells + R'.cells ≤ R.cells) (hs : slots + R'.slots ≤ R.slots) :
    Stand p l e R' ((T.setVm s.vm).setFrames (.invoking m args :: below)) m args below meth c T [] 0 0 := by
  have htop : (T.setVm s.vm).topJava?.isSome := X.here.top
  have hF : ((T.setVm s.vm).setFrames (.invoking m args :: below)).frames = .invoking m args :: below := State.frames_setFrames _ (State.cur_lt_of_top htop)
  obtain ⟨g₀, hg0⟩ := Option.isSome_iff_exists.mp htop
  obtain ⟨r, hr⟩ := State.topJava?_eq_some.mp hg0
  have hl9 : e.platform.stackLimits (T.setVm s.vm).me = e.platform.stackLimits s.me := X.limits
  have hb9 : (T.setVm s.vm).me.stackBytes = s.me.stackBytes := X.bytes
  refine ⟨X.admits, X.cas, X.clock, hF, ?_, X.hears, X.method, X.code, X.here, X.tail, X.warmed, ?_, ?_, ?_⟩
  · have h := X.room
    have hU : ((T.setVm s.vm).setFrames (.invoking m args :: below)).localsInUse = s.localsInUse := by
      rw [State.localsInUse_invoking hF (meth := meth) (c := c) X.method X.code, State.localsInUse_invoking X.frames X.method X.code]
    simp only [State.hasRoom, Bool.and_eq_true, decide_eq_true_eq] at h ⊢
    obtain ⟨⟨⟨⟨h1, h2, h3, h4, h5, h6⟩, h7⟩, h8⟩, h9⟩ := h
    rw [X.frames, List.length_cons] at h2 h3
    have q1 := X.heapSize
    have q2 := X.used
    simp only [hF, hU, List.length_cons, State.stackLimits_setFrames, State.stackBytes_setFrames, hl9, hb9]
    refine ⟨⟨⟨⟨by omega, by omega, by omega, by omega, by omega, h6⟩, ?_⟩, ?_⟩, X.book⟩
    · show T.heap.size + R'.cells ≤ e.platform.maxCells
      omega
    · show T.slotsUsed + R'.slots ≤ e.platform.maxSlots
      omega
  · rw [State.stackLimits_setFrames]; rfl
  · rw [State.stackBytes_setFrames]; rfl
  · refine ⟨?_, Nat.le_refl _, Nat.le_refl _, ?_, ?_, fun a c9 h9 => ⟨c9, h9, rfl, rfl, fun _ _ => rfl⟩⟩
    · obtain ⟨t, ht, -⟩ := State.frames_cons hr
      show T.setVm s.vm = { ((T.setVm s.vm).setFrames (.invoking m args :: below)).setFrames (T.setVm s.vm).frames with heap := T.heap, slotsUsed := T.slotsUsed }
      rw [State.setFrames_setFrames, State.setFrames_self ht]
      rfl
    · show T.slotsUsed = T.slotsUsed + ((T.heap.toList.drop T.heap.size).map (·.slots.size)).sum
      rw [List.drop_eq_nil_of_le (Nat.le_of_eq Array.length_toList)]
      rfl
    · show ((T.heap.toList.drop T.heap.size).map (·.slots.size)).sum ≤ 0
      rw [List.drop_eq_nil_of_le (Nat.le_of_eq Array.length_toList)]
      exact Nat.le_refl _
/-- 'throw new E()': new; dup; invokespecial; athrow -/
theorem vx_throw0 {cc : ByteArray} {pc : Nat} (hexec : p.tables.exec = Jvm.exec) (hb : c.code = cc) (hl : l.stackTraces = false) {own cls : String} {names : List String} {ik ic mc ms : Nat} {A : Nat → Prop}
    (hown : s.vm.findClass own = some m.cls) (hcls : Bundle.fit cls = true) (hnames : ∀ n ∈ names, Bundle.fit n = true)
    (hk : (Cond.classLink own ik cls).before args s = true) (hini : (Cond.initialized cls).before args s = true) (hat : ∀ w ∈ vx_at0 own ic cls names, w.before args s = true)
    (hgood : ∀ w ∈ Cond.classLink own ik cls :: Cond.initialized cls :: vx_at0 own ic cls names, vx_ot w = true)
    (hU : vx_Zq Bundle.tN "UNASSIGNED_STACK" Bundle.steD A s s.heap) (hN : vx_Zq Bundle.tN "SUPPRESSED_SENTINEL" Bundle.listD A s s.heap) (hS : va_S A s.heap H locs) (hsize : ls.size = c.maxLocals)
    (d0 : decode cc pc = .ok (.new ik, 3)) (d3 : decode cc (pc + 3) = .ok (.dup, 1)) (d4 : decode cc (pc + 4) = .ok (.invokespecial ic, 3)) (d7 : decode cc (pc + 7) = .ok (.athrow, 1))
    (hout : ∀ x ∈ c.exceptionTable.toList, covers x (pc + 7) = false)
    (hRframes : names.length + 3 < R.frames) (hRlocals : (rest.map fun v => v.category).sum + (13 * (names.length + 1) + 42) ≤ R.locals) (hRcells : cells + 1 ≤ R.cells) (hRslots : slots + 6 ≤ R.slots) (hlocks : meth.locks = false)
    (hx : ∀ t : State, s.vm.Alike t.vm → H.size ≤ t.heap.size → (∀ q : Nat, q < H.size → t.heap[q]? = H[q]?) → XC cls s t)
    (hf : ∀ z ∈ locs, free z.base) (hc : cells + 1 ≤ mc) (hs : slots + 6 ≤ ms) :
    W p l e R s m args below meth c H locs cells slots (vx_MQ below Qc XC args s mc ms free) (F0 m pc ls rest) := by
  intro T hT X
  have htr : e.platform.stackTraces = false := (show e.platform.stackTraces = l.stackTraces by rw [X.admits.platform]).trans hl
  have Y := vx_rebase X (R' := { frames := R.frames, locals := R.locals, cells := 1, slots := 6 }) (Nat.le_refl _) (Nat.le_refl _) hRcells hRslots
  obtain ⟨s', hA⟩ : ∃ z, z = (T.setVm s.vm).setFrames (.invoking m args :: below) := ⟨_, rfl⟩
  rw [← hA] at Y
  have hvm : s'.vm = s.vm := by rw [hA]; rfl
  have hhp : s'.heap = H := by rw [hA]; exact hT
  have hW0 : s.WarmedH s'.vm := by rw [hvm]; exact State.WarmedH.refl s
  have hat' : ∀ w ∈ vx_at0 own ic cls names, w.before args s' = true := fun w hw => vx_ot_at hW0 hvm.symm (hgood w (List.mem_cons_of_mem _ (List.mem_cons_of_mem _ hw))) (hat w hw)
  have hk' : (Cond.classLink own ik cls).before args s' = true := vx_ot_at hW0 hvm.symm (hgood _ List.mem_cons_self) hk
  have hini' : (Cond.initialized cls).before args s' = true := vx_ot_at hW0 hvm.symm (hgood _ (List.mem_cons_of_mem _ List.mem_cons_self)) hini
  have hU' : vx_Zq Bundle.tN "UNASSIGNED_STACK" Bundle.steD A s' s'.heap := by rw [hhp]; exact vx_Zq.moved hW0.alike (hU.kept hS.2.1)
  have hN' : vx_Zq Bundle.tN "SUPPRESSED_SENTINEL" Bundle.listD A s' s'.heap := by rw [hhp]; exact vx_Zq.moved hW0.alike (hN.kept hS.2.1)
  have h : ∀ w ∈ Bundle.ownAtoms0 own ic cls names, w.before args s' = true := vx_own hat' (vx_isRefq hU'.1) (vx_isRefq hN'.1) hU'.2.word hN'.2.word
  have hown' : s'.vm.findClass own = some m.cls := by rw [hvm]; exact hown
  have hins : (Cond.instantiable cls 6).before args s' = true := h _ (by simp [Bundle.ownAtoms0])
  obtain ⟨vm₁, cX, kX, hfX, hkX, -, -, X₁, st1⟩ := Y.newCold hexec (own := own) (C := cls) (index := ik) (n := 6) hown' hk' hins hini'
    (g := F0 m pc ls rest) rfl (by rw [hb]; exact d0) (Nat.le_refl _) (Nat.le_refl _)
  generalize hT1 : (T.setVm vm₁).pushCell { cls := cX, slots := kX.instanceTypes.map defaultValue, vm := .none } = T1 at X₁ st1
  have hcat : (Value.ref T.heap.size).category = 1 := rfl
  have hcellA : T1.heap[T.heap.size]? = some (freshCell cX kX) := by rw [← hT1]; exact State.heap_pushCell_size _ _
  have d3' : decode c.code (pc + 3) = .ok (.dup, 1) := by rw [hb]; exact d3
  obtain ⟨U, hsteps, hrun, hend, hW, hsame, ce, hce, hO⟩ := X₁.ctorThrow0 hexec htr (own := own) (cls := cls) (names := names) (ic := ic) hown' hcls hnames h (fun x hx => nomatch hx) hfX hkX hcellA (by rw [hhp, hT]; exact Nat.le_refl _)
    (g := { method := m, pc := pc + 4, locals := ls, stack := .ref T.heap.size :: .ref T.heap.size :: rest, locked := none }) rfl hsize rfl rfl (rest := rest) rfl
    (by rw [hb]; exact d4) (by rw [hb]; exact d7) hout hRframes (by simp only [List.map_cons, List.sum_cons, hcat]; omega) hlocks
  obtain ⟨f1, f2⟩ := vx_frame hsame
  rw [hhp] at f1 f2
  have hWs : s.WarmedH U.vm := State.WarmedH.trans hW0 hW
  have hcl : s.vm.findClass cls = some ce.cls := by
    have h9 := hO.cls
    rw [hvm] at h9
    exact h9
  have hall : s.sameButNew ({ U with vm := s.vm } : State) locs mc ms := by
    subst hA
    obtain ⟨e1, e2⟩ := hsame
    rw [State.setFrames_setFrames] at e1
    have h2 : (T.setVm s.vm).sameButNew ({ U with vm := s.vm } : State) [] (0 + 1) (0 + 6) := ⟨e1, e2⟩
    have h3 := X.same.trans h2
    rw [List.append_nil] at h3
    exact h3.mono hc hs
  refine ⟨U, ?_, .threw T.heap.size, hrun, hend, Or.inr ⟨T.heap.size, rfl, cls, ce, locs, hx U hWs.alike f1 (fun q hq => f2 q hq (fun z hz => nomatch hz)), hce, hO.vm, hcl, hWs, hall, hf⟩⟩
  refine st1 _ ?_
  show Steps p.tables e below (T1.setTop { method := m, pc := pc + 3, locals := ls, stack := .ref T.heap.size :: rest, locked := none }) _
  jvm_step X₁.here [X₁.here.top, hexec, d3', Value.category]
  exact hsteps
/-- 'throw new E("text")': new; dup; ldc; invokespecial; athrow -/
theorem vx_throwS {cc : ByteArray} {pc : Nat} (hexec : p.tables.exec = Jvm.exec) (hb : c.code = cc) (hl : l.stackTraces = false) {own cls text : String} {names : List String} {ik is ic mc ms sa : Nat} {A : Nat → Prop}
    (hown : s.vm.findClass own = some m.cls) (hcls : Bundle.fit cls = true) (hnames : ∀ n ∈ names, Bundle.fit n = true)
    (hk : (Cond.classLink own ik cls).before args s = true) (hini : (Cond.initialized cls).before args s = true) (hstr : vk_R own is text sa s) (hat : ∀ w ∈ vx_atS own ic cls names, w.before args s = true)
    (hgood : ∀ w ∈ Cond.classLink own ik cls :: Cond.initialized cls :: vx_atS own ic cls names, vx_ot w = true)
    (hU : vx_Zq Bundle.tN "UNASSIGNED_STACK" Bundle.steD A s s.heap) (hN : vx_Zq Bundle.tN "SUPPRESSED_SENTINEL" Bundle.listD A s s.heap) (hS : va_S A s.heap H locs) (hsize : ls.size = c.maxLocals)
    (d0 : decode cc pc = .ok (.new ik, 3)) (d3 : decode cc (pc + 3) = .ok (.dup, 1)) (d4 : decode cc (pc + 4) = .ok (.ldc is, 2)) (d6 : decode cc (pc + 6) = .ok (.invokespecial ic, 3)) (d9 : decode cc (pc + 9) = .ok (.athrow, 1))
    (hout : ∀ x ∈ c.exceptionTable.toList, covers x (pc + 9) = false)
    (hRframes : names.length + 3 < R.frames) (hRlocals : (rest.map fun v => v.category).sum + (13 * (names.length + 1) + 43) ≤ R.locals) (hRcells : cells + 1 ≤ R.cells) (hRslots : slots + 6 ≤ R.slots) (hlocks : meth.locks = false)
    (hx : ∀ t : State, s.vm.Alike t.vm → H.size ≤ t.heap.size → (∀ q : Nat, q < H.size → t.heap[q]? = H[q]?) → XC cls s t)
    (hf : ∀ z ∈ locs, free z.base) (hc : cells + 1 ≤ mc) (hs : slots + 6 ≤ ms) :
    W p l e R s m args below meth c H locs cells slots (vx_MQ below Qc XC args s mc ms free) (F0 m pc ls rest) := by
  intro T hT X
  have htr : e.platform.stackTraces = false := (show e.platform.stackTraces = l.stackTraces by rw [X.admits.platform]).trans hl
  have Y := vx_rebase X (R' := { frames := R.frames, locals := R.locals, cells := 1, slots := 6 }) (Nat.le_refl _) (Nat.le_refl _) hRcells hRslots
  obtain ⟨s', hA⟩ : ∃ z, z = (T.setVm s.vm).setFrames (.invoking m args :: below) := ⟨_, rfl⟩
  rw [← hA] at Y
  have hvm : s'.vm = s.vm := by rw [hA]; rfl
  have hhp : s'.heap = H := by rw [hA]; exact hT
  have hW0 : s.WarmedH s'.vm := by rw [hvm]; exact State.WarmedH.refl s
  have hat' : ∀ w ∈ vx_atS own ic cls names, w.before args s' = true := fun w hw => vx_ot_at hW0 hvm.symm (hgood w (List.mem_cons_of_mem _ (List.mem_cons_of_mem _ hw))) (hat w hw)
  have hk' : (Cond.classLink own ik cls).before args s' = true := vx_ot_at hW0 hvm.symm (hgood _ List.mem_cons_self) hk
  have hini' : (Cond.initialized cls).before args s' = true := vx_ot_at hW0 hvm.symm (hgood _ (List.mem_cons_of_mem _ List.mem_cons_self)) hini
  have hU' : vx_Zq Bundle.tN "UNASSIGNED_STACK" Bundle.steD A s' s'.heap := by rw [hhp]; exact vx_Zq.moved hW0.alike (hU.kept hS.2.1)
  have hN' : vx_Zq Bundle.tN "SUPPRESSED_SENTINEL" Bundle.listD A s' s'.heap := by rw [hhp]; exact vx_Zq.moved hW0.alike (hN.kept hS.2.1)
  have h : ∀ w ∈ Bundle.ownAtoms own ic cls names, w.before args s' = true := vx_own hat' (vx_isRefq hU'.1) (vx_isRefq hN'.1) hU'.2.word hN'.2.word
  have hown' : s'.vm.findClass own = some m.cls := by rw [hvm]; exact hown
  have hins : (Cond.instantiable cls 6).before args s' = true := h _ (by simp [Bundle.ownAtoms])
  obtain ⟨vm₁, cX, kX, hfX, hkX, -, -, X₁, st1⟩ := Y.newCold hexec (own := own) (C := cls) (index := ik) (n := 6) hown' hk' hins hini'
    (g := F0 m pc ls rest) rfl (by rw [hb]; exact d0) (Nat.le_refl _) (Nat.le_refl _)
  generalize hT1 : (T.setVm vm₁).pushCell { cls := cX, slots := kX.instanceTypes.map defaultValue, vm := .none } = T1 at X₁ st1
  have hcat : (Value.ref T.heap.size).category = 1 := rfl
  have hcellA : T1.heap[T.heap.size]? = some (freshCell cX kX) := by rw [← hT1]; exact State.heap_pushCell_size _ _
  have d3' : decode c.code (pc + 3) = .ok (.dup, 1) := by rw [hb]; exact d3
  have d4' : decode c.code (pc + 4) = .ok (.ldc is, 2) := by rw [hb]; exact d4
  have hstr' : vk_R own is text sa s' := vk_R.warm hW0 hstr
  obtain ⟨U, hsteps, hrun, hend, hW, hsame, ce, hce, hO⟩ := X₁.ctorThrowS hexec htr (own := own) (cls := cls) (names := names) (ic := ic) hown' hcls hnames h (fun x hx => nomatch hx) hfX hkX hcellA (by rw [hhp, hT]; exact Nat.le_refl _) (msg := .ref sa) rfl
    (g := { method := m, pc := pc + 6, locals := ls, stack := .ref sa :: .ref T.heap.size :: .ref T.heap.size :: rest, locked := none }) rfl hsize rfl rfl (rest := rest) rfl
    (by rw [hb]; exact d6) (by rw [hb]; exact d9) hout hRframes (by simp only [List.map_cons, List.sum_cons, hcat]; omega) hlocks
  obtain ⟨f1, f2⟩ := vx_frame hsame
  rw [hhp] at f1 f2
  have hWs : s.WarmedH U.vm := State.WarmedH.trans hW0 hW
  have hcl : s.vm.findClass cls = some ce.cls := by
    have h9 := hO.cls
    rw [hvm] at h9
    exact h9
  have hall : s.sameButNew ({ U with vm := s.vm } : State) locs mc ms := by
    subst hA
    obtain ⟨e1, e2⟩ := hsame
    rw [State.setFrames_setFrames] at e1
    have h2 : (T.setVm s.vm).sameButNew ({ U with vm := s.vm } : State) [] (0 + 1) (0 + 6) := ⟨e1, e2⟩
    have h3 := X.same.trans h2
    rw [List.append_nil] at h3
    exact h3.mono hc hs
  refine ⟨U, ?_, .threw T.heap.size, hrun, hend, Or.inr ⟨T.heap.size, rfl, cls, ce, locs, hx U hWs.alike f1 (fun q hq => f2 q hq (fun z hz => nomatch hz)), hce, hO.vm, hcl, hWs, hall, hf⟩⟩
  refine st1 _ ?_
  show Steps p.tables e below (T1.setTop { method := m, pc := pc + 3, locals := ls, stack := .ref T.heap.size :: rest, locked := none }) _
  jvm_step X₁.here [X₁.here.top, hexec, d3', Value.category]
  exact X₁.ldcString hexec (own := own) (text := text) (index := is) (a := sa) hown' hstr'.1 hstr'.2
    (g := { method := m, pc := pc + 4, locals := ls, stack := .ref T.heap.size :: .ref T.heap.size :: rest, locked := none }) rfl d4' _ hsteps
/-- 'throw new E("text")', the text by a wide index -/
theorem vx_throwSW {cc : ByteArray} {pc : Nat} (hexec : p.tables.exec = Jvm.exec) (hb : c.code = cc) (hl : l.stackTraces = false) {own cls text : String} {names : List String} {ik is ic mc ms sa : Nat} {A : Nat → Prop}
    (hown : s.vm.findClass own = some m.cls) (hcls : Bundle.fit cls = true) (hnames : ∀ n ∈ names, Bundle.fit n = true)
    (hk : (Cond.classLink own ik cls).before args s = true) (hini : (Cond.initialized cls).before args s = true) (hstr : vk_R own is text sa s) (hat : ∀ w ∈ vx_atS own ic cls names, w.before args s = true)
    (hgood : ∀ w ∈ Cond.classLink own ik cls :: Cond.initialized cls :: vx_atS own ic cls names, vx_ot w = true)
    (hU : vx_Zq Bundle.tN "UNASSIGNED_STACK" Bundle.steD A s s.heap) (hN : vx_Zq Bundle.tN "SUPPRESSED_SENTINEL" Bundle.listD A s s.heap) (hS : va_S A s.heap H locs) (hsize : ls.size = c.maxLocals)
    (d0 : decode cc pc = .ok (.new ik, 3)) (d3 : decode cc (pc + 3) = .ok (.dup, 1)) (d4 : decode cc (pc + 4) = .ok (.ldc_w is, 3)) (d7 : decode cc (pc + 7) = .ok (.invokespecial ic, 3)) (d10 : decode cc (pc + 10) = .ok (.athrow, 1))
    (hout : ∀ x ∈ c.exceptionTable.toList, covers x (pc + 10) = false)
    (hRframes : names.length + 3 < R.frames) (hRlocals : (rest.map fun v => v.category).sum + (13 * (names.length + 1) + 43) ≤ R.locals) (hRcells : cells + 1 ≤ R.cells) (hRslots : slots + 6 ≤ R.slots) (hlocks : meth.locks = false)
    (hx : ∀ t : State, s.vm.Alike t.vm → H.size ≤ t.heap.size → (∀ q : Nat, q < H.size → t.heap[q]? = H[q]?) → XC cls s t)
    (hf : ∀ z ∈ locs, free z.base) (hc : cells + 1 ≤ mc) (hs : slots + 6 ≤ ms) :
    W p l e R s m args below meth c H locs cells slots (vx_MQ below Qc XC args s mc ms free) (F0 m pc ls rest) := by
  intro T hT X
  have htr : e.platform.stackTraces = false := (show e.platform.stackTraces = l.stackTraces by rw [X.admits.platform]).trans hl
  have Y := vx_rebase X (R' := { frames := R.frames, locals := R.locals, cells := 1, slots := 6 }) (Nat.le_refl _) (Nat.le_refl _) hRcells hRslots
  obtain ⟨s', hA⟩ : ∃ z, z = (T.setVm s.vm).setFrames (.invoking m args :: below) := ⟨_, rfl⟩
  rw [← hA] at Y
  have hvm : s'.vm = s.vm := by rw [hA]; rfl
  have hhp : s'.heap = H := by rw [hA]; exact hT
  have hW0 : s.WarmedH s'.vm := by rw [hvm]; exact State.WarmedH.refl s
  have hat' : ∀ w ∈ vx_atS own ic cls names, w.before args s' = true := fun w hw => vx_ot_at hW0 hvm.symm (hgood w (List.mem_cons_of_mem _ (List.mem_cons_of_mem _ hw))) (hat w hw)
  have hk' : (Cond.classLink own ik cls).before args s' = true := vx_ot_at hW0 hvm.symm (hgood _ List.mem_cons_self) hk
  have hini' : (Cond.initialized cls).before args s' = true := vx_ot_at hW0 hvm.symm (hgood _ (List.mem_cons_of_mem _ List.mem_cons_self)) hini
  have hU' : vx_Zq Bundle.tN "UNASSIGNED_STACK" Bundle.steD A s' s'.heap := by rw [hhp]; exact vx_Zq.moved hW0.alike (hU.kept hS.2.1)
  have hN' : vx_Zq Bundle.tN "SUPPRESSED_SENTINEL" Bundle.listD A s' s'.heap := by rw [hhp]; exact vx_Zq.moved hW0.alike (hN.kept hS.2.1)
  have h : ∀ w ∈ Bundle.ownAtoms own ic cls names, w.before args s' = true := vx_own hat' (vx_isRefq hU'.1) (vx_isRefq hN'.1) hU'.2.word hN'.2.word
  have hown' : s'.vm.findClass own = some m.cls := by rw [hvm]; exact hown
  have hins : (Cond.instantiable cls 6).before args s' = true := h _ (by simp [Bundle.ownAtoms])
  obtain ⟨vm₁, cX, kX, hfX, hkX, -, -, X₁, st1⟩ := Y.newCold hexec (own := own) (C := cls) (index := ik) (n := 6) hown' hk' hins hini'
    (g := F0 m pc ls rest) rfl (by rw [hb]; exact d0) (Nat.le_refl _) (Nat.le_refl _)
  generalize hT1 : (T.setVm vm₁).pushCell { cls := cX, slots := kX.instanceTypes.map defaultValue, vm := .none } = T1 at X₁ st1
  have hcat : (Value.ref T.heap.size).category = 1 := rfl
  have hcellA : T1.heap[T.heap.size]? = some (freshCell cX kX) := by rw [← hT1]; exact State.heap_pushCell_size _ _
  have d3' : decode c.code (pc + 3) = .ok (.dup, 1) := by rw [hb]; exact d3
  have d4' : decode c.code (pc + 4) = .ok (.ldc_w is, 3) := by rw [hb]; exact d4
  have hstr' : vk_R own is text sa s' := vk_R.warm hW0 hstr
  obtain ⟨U, hsteps, hrun, hend, hW, hsame, ce, hce, hO⟩ := X₁.ctorThrowS hexec htr (own := own) (cls := cls) (names := names) (ic := ic) hown' hcls hnames h (fun x hx => nomatch hx) hfX hkX hcellA (by rw [hhp, hT]; exact Nat.le_refl _) (msg := .ref sa) rfl
    (g := { method := m, pc := pc + 7, locals := ls, stack := .ref sa :: .ref T.heap.size :: .ref T.heap.size :: rest, locked := none }) rfl hsize rfl rfl (rest := rest) rfl
    (by rw [hb]; exact d7) (by rw [hb]; exact d10) hout hRframes (by simp only [List.map_cons, List.sum_cons, hcat]; omega) hlocks
  obtain ⟨f1, f2⟩ := vx_frame hsame
  rw [hhp] at f1 f2
  have hWs : s.WarmedH U.vm := State.WarmedH.trans hW0 hW
  have hcl : s.vm.findClass cls = some ce.cls := by
    have h9 := hO.cls
    rw [hvm] at h9
    exact h9
  have hall : s.sameButNew ({ U with vm := s.vm } : State) locs mc ms := by
    subst hA
    obtain ⟨e1, e2⟩ := hsame
    rw [State.setFrames_setFrames] at e1
    have h2 : (T.setVm s.vm).sameButNew ({ U with vm := s.vm } : State) [] (0 + 1) (0 + 6) := ⟨e1, e2⟩
    have h3 := X.same.trans h2
    rw [List.append_nil] at h3
    exact h3.mono hc hs
  refine ⟨U, ?_, .threw T.heap.size, hrun, hend, Or.inr ⟨T.heap.size, rfl, cls, ce, locs, hx U hWs.alike f1 (fun q hq => f2 q hq (fun z hz => nomatch hz)), hce, hO.vm, hcl, hWs, hall, hf⟩⟩
  refine st1 _ ?_
  show Steps p.tables e below (T1.setTop { method := m, pc := pc + 3, locals := ls, stack := .ref T.heap.size :: rest, locked := none }) _
  jvm_step X₁.here [X₁.here.top, hexec, d3', Value.category]
  exact X₁.ldcStringW hexec (own := own) (text := text) (index := is) (a := sa) hown' hstr'.1 hstr'.2
    (g := { method := m, pc := pc + 4, locals := ls, stack := .ref T.heap.size :: .ref T.heap.size :: rest, locked := none }) rfl d4' _ hsteps
end Ends
section Bodies
variable {l : Launch}
theorem vx_ofW {y : MethodName} {ws ws' : List Cond} {rm : Room} {Pc : Array Value → State → Prop} {Qc : Array Value → State → Outcome → State → Prop} {XC : String → State → State → Prop} {mc ms : Nat} {free : Addr → Prop} {cc : ByteArray} {maxL : Nat} {ret : Option FieldType}
    (hy : plainName y.cls = true) (hw : ws = Cond.code y cc maxL ret :: ws')
    (body : ∀ p e s m args below meth c s₁, BodyLoose p l y (headSpec ws rm) cc maxL ret e s m args below meth c s₁ → c.maxLocals = maxL → (∀ x ∈ c.exceptionTable.toList, False) → Pc args s →
      W p l e (headSpec ws rm).room s m args below meth c s.heap [] 0 0 (vx_MQ below Qc XC args s mc ms free) (entryFrame m args maxL)) : vx_Met l y ws rm Pc Qc XC mc ms free := by
  refine MetFree.of_bodyS (code := cc) (maxLocals := maxL) (ret := ret) hy ?_ ?_
  · intro args s m h hn
    obtain ⟨meth, c, h1, h2, h3, h4, h5, h6, -, -⟩ := Cond.code_spec hn (atoms_spec (ws := ws) h _ (by rw [hw]; exact List.mem_cons_self))
    exact ⟨meth, c, h1, h2, h3, h4, h5, h6⟩
  · intro p e s m args below meth c s₁ B hml hP _
    have hh0 : s₁.heap = s.heap := by rw [B.state]; rfl
    have ht : ∀ x ∈ c.exceptionTable.toList, False := by
      obtain ⟨meth9, c9, h1, h2, -, -, -, -, h7, -⟩ := Cond.code_spec B.named (atoms_spec (ws := ws) B.pre _ (by rw [hw]; exact List.mem_cons_self))
      cases Option.some.inj (h1.symm.trans B.method)
      cases Option.some.inj (h2.symm.trans (Stand.of_body B).code)
      intro x hx
      rw [Array.isEmpty_iff.mp h7] at hx
      cases hx
    obtain ⟨t, a1, o, b1, b2, b3⟩ := body p e s m args below meth c s₁ B hml ht hP s₁ hh0 (Stand.of_body B)
    exact ⟨t, o, a1, b1, b2, b3⟩
/-- the table of a body with handlers -/
theorem vx_table {p : Program} {x y : MethodName} {S : Spec} {cc bytes : ByteArray} {maxL maxL' : Nat} {ret ret' : Option FieldType} {e : Env} {s s₁ : State} {m : MethodId} {args : Array Value} {below : List Frame} {meth : Method} {c : Code} {hh : List (Nat × Nat × Nat × Nat)}
    (B : BodyLoose p l y S cc maxL ret e s m args below meth c s₁) (h : (Cond.codeWith y bytes maxL' ret' hh).before args s = true) : c.exceptionTable.toList = tableOf hh := by
  obtain ⟨m9, meth9, c9, hn9, h1, h2, -, -, h6, -⟩ := Cond.codeWith_spec h
  cases Option.some.inj (hn9.symm.trans B.named)
  cases Option.some.inj (h1.symm.trans B.method)
  cases Option.some.inj (h2.symm.trans (Stand.of_body B).code)
  rw [← h6, table_eq]
end Bodies
end VXA
/-! ===== END ===== -/
/-! ===== BEGIN a static call of a method with an exception table ===== -/
section VXS
variable {p : Program} {l : Launch} {e : Env} {R : Room} {s : State} {m : MethodId} {args : Array Value} {below : List Frame} {meth : Method} {c : Code} {T : State} {H : Heap} {locs : List Loc} {cells slots : Nat}
abbrev vx_CSW (R : Room) (s : State) (args : Array Value) (own : String) (index : Nat) (y : MethodName) (bytes : ByteArray) (maxL : Nat) (ret : Option FieldType) (hh : List (Nat × Nat × Nat × Nat)) (ws : List Cond) (rm : Room) (mc ms n : Nat) : Prop :=
  (rm.cells = mc ∧ rm.slots = ms ∧ rm.frames + 1 ≤ R.frames ∧ 8 + (maxL + 11) + rm.locals ≤ R.locals ∧ (∀ w ∈ ws, ∀ (a' : Array Value) (U : State), s.WarmedH U.vm → w.before a' U = true) ∧ Cond.codeWith y bytes maxL ret hh ∈ ws) ∧
  (Cond.codeWith y bytes maxL ret hh).before args s = true ∧ (Cond.initialized y.cls).before args s = true ∧ (y.cls ≠ "java/lang/invoke/MethodHandle" ∧ y.cls ≠ "java/lang/invoke/VarHandle") ∧
  (∀ sig, parseMethodDescriptor y.desc = some sig → n = sig.parameters.length) ∧ (Cond.methodLink own index y).before args s = true ∧ (Cond.static y).before args s = true
theorem vx_cwSW {own : String} {index maxL mc ms : Nat} {y : MethodName} {bytes : ByteArray} {ret : Option FieldType} {hh : List (Nat × Nat × Nat × Nat)} {Ts ws ws' : List Cond} {rm : Room} (n : Nat) (ht : ∀ w ∈ Ts, w.before args s = true) (hT : GoodIn Ts (va_wsS own index y ws)) (hw : ws = Cond.codeWith y bytes maxL ret hh :: ws') (hrc : rm.cells = mc) (hrs : rm.slots = ms)
    (hd : y.cls ≠ "java/lang/invoke/MethodHandle" ∧ y.cls ≠ "java/lang/invoke/VarHandle" ∧ (parseMethodDescriptor y.desc).map (fun d => d.parameters.length) = some n) (hR : rm.frames + 1 ≤ R.frames ∧ 8 + (maxL + 11) + rm.locals ≤ R.locals) :
    vx_CSW R s args own index y bytes maxL ret hh ws rm mc ms n := by
  have ok : ∀ w ∈ va_wsS own index y ws, w.before args s = true := fun w h => ht w (hT w h).1
  have hG : GoodIn Ts ws := fun w h => hT w (by unfold va_wsS; exact List.mem_append_right _ h)
  have hc : Cond.codeWith y bytes maxL ret hh ∈ ws := by rw [hw]; exact List.mem_cons_self
  refine ⟨⟨hrc, hrs, hR.1, hR.2, pay_in ht hG, hc⟩, ht _ (hG _ hc).1, ok _ (by simp [va_wsS]), ⟨hd.1, hd.2.1⟩, fun sig h => ?_, ok _ (by simp [va_wsS]), ok _ (by simp [va_wsS])⟩
  have h2 := hd.2.2
  rw [h] at h2
  exact (Option.some.inj h2).symm
theorem vx_callSW (X : Stand p l e R s m args below meth c T locs cells slots) (hexec : p.tables.exec = Jvm.exec) {own : String} {index : Nat} {y : MethodName} {bytes : ByteArray} {maxL : Nat} {ret : Option FieldType} {hh : List (Nat × Nat × Nat × Nat)}
    (hown : s.vm.findClass own = some m.cls) (hlink : (Cond.methodLink own index y).before args s = true) (hstat : (Cond.static y).before args s = true) (hinit : (Cond.initialized y.cls).before args s = true)
    (hcode : (Cond.codeWith y bytes maxL ret hh).before args s = true) (hy : y.cls ≠ "java/lang/invoke/MethodHandle" ∧ y.cls ≠ "java/lang/invoke/VarHandle")
    {W9 : Nat} {Pre : Pt → Array Value → Prop} {Post : Pt → Array Value → Option Value → Pt → Prop} (hK : Back l R p e below s args y 3 W9 Pre Post)
    {g : JFrame} (hg : g.method = m) (hsize : g.locals.size = c.maxLocals) {argsL rest : List Value} (hlen : ∀ sig, parseMethodDescriptor y.desc = some sig → argsL.length = sig.parameters.length)
    (hstack : g.stack = argsL.reverse ++ rest) (hW : 2 * g.monitorRoom + (rest.map fun v => v.category).sum ≤ W9) (hdg : decode c.code g.pc = .ok (.invokestatic index, 3))
    (hpre : ∀ vm₁, s.WarmedH vm₁ → Pre ⟨T.setVm vm₁, locs, cells, slots⟩ argsL.toArray) :
    ∃ (v : Option Value) (vm₁ : Vm) (B : Pt), s.WarmedH vm₁ ∧ Stand p l e R s m args below meth c B.U B.locs B.cells B.slots ∧ Post ⟨T.setVm vm₁, locs, cells, slots⟩ argsL.toArray v B ∧
      ∀ target, Steps p.tables e below (B.U.setTop { g with pc := g.pc + 3, stack := v.toList ++ rest }) target → Steps p.tables e below (T.setTop g) target := by
  obtain ⟨mk, methM, cM, hnamed, hmethM, -, -, -, -, -, -, hsigM⟩ := Cond.codeWith_spec hcode
  have hstatic : methM.isStatic = true := Cond.static_spec hnamed hmethM hstat
  obtain ⟨kP, hkP, -⟩ := className_of_methodNamed hnamed
  have hinitP : kP.init = .initialized := Cond.initialized_spec (findClass_of_methodNamed hnamed) hkP hinit
  obtain ⟨vm₁, X₁, hstep₁⟩ := X.invokestatic hexec hown hlink hnamed hmethM hstatic hkP hinitP hy (g := g) hg (argsL := argsL) (rest := rest) (hlen _ hsigM) hstack hdg
  obtain ⟨v, B, X', hpost, hsteps⟩ := hK m meth c ⟨T.setVm vm₁, locs, cells, slots⟩ { g with stack := rest } (.invokestatic index) mk argsL.toArray X₁ hg hsize hdg hW (X₁.named hnamed) (hpre vm₁ X₁.warmed)
  exact ⟨v, vm₁, B, X₁.warmed, X', hpost, fun target h => hstep₁ _ fun acts => by rw [doInvoke_state]; exact hsteps.trans h⟩
theorem vx_runSW {y : MethodName} {bytes cc : ByteArray} {maxL nL mc ms n index : Nat} {ret : Option FieldType} {hh : List (Nat × Nat × Nat × Nat)} {ws : List Cond} {rm : Room} {Pc : Array Value → State → Prop} {Qc : Array Value → State → Outcome → State → Prop} {free : Addr → Prop} {Ts : List Cond} {own : String} {As rest : List Value} {g : JFrame}
    (S : CallFix p m c cc nL s args Ts own) (hM : Met l y ws rm Pc Qc mc ms free) (cw : vx_CSW R s args own index y bytes maxL ret hh ws rm mc ms n) (hp : PreS s H Pc As)
    (hg : g.method = m) (hn : As.length = n) (hsize : g.locals.size = nL) (hstack : g.stack = As.reverse ++ rest) (hW : 2 * g.monitorRoom + (rest.map fun v => v.category).sum ≤ 8) (hdg : decode cc g.pc = .ok (.invokestatic index, 3)) (hf : cells + mc ≤ R.cells ∧ slots + ms ≤ R.slots) :
    va_Run p l e R s m args below meth c H locs cells slots mc ms g rest (Qc As.toArray) (free) := by
  obtain ⟨⟨hrc, hrs, hfr, hlo, hws, hcw⟩, hcode, hini, hy, hlen, hl, hstt⟩ := cw
  have hK : Back l R p e below s args y 3 8 (PreOf R mc ms Pc) (PostOf Qc mc ms free) := va_backW (hh := hh) (bytes := bytes) (maxL := maxL) (ret := ret) hM hp.1 hrc hrs hfr hlo hws hcw (fun a' U hW => word_at hW (Or.inl (by first | rfl | simp [Cond.onTables, Cond.keeps, Cond.steady])) hini)
  obtain ⟨hx, hb, hml, ho, -⟩ := S
  intro T hT X
  obtain ⟨v, vm₁, ⟨U', l2, c2, s2⟩, hW₁, X', ⟨g', mk, t, L, e1, e2, hq, h1, hL, h2, h3⟩, st⟩ := vx_callSW X hx (hh := hh) (bytes := bytes) (maxL := maxL) (ret := ret) ho hl hstt hini hcode hy hK hg (hsize.trans hml.symm) (argsL := As) (rest := rest) (fun sig h => hn.trans (hlen sig h)) hstack hW (by rw [hb]; exact hdg)
    (fun vm₁ hW₁ => ⟨hf.1, hf.2, hp.2 (T.setVm vm₁) hT hW₁⟩)
  dsimp only [Pt.U, Pt.locs, Pt.cells, Pt.slots] at X' e1 e2 h1 h2 h3 st
  subst h1; subst h2; subst h3
  exact ⟨v, (T.setVm vm₁).calling g' mk As.toArray, t, U', L, hT, X', hL, e1, e2, hq, st⟩
/-- not caught here, past rows that name other classes: it goes on to the caller -/
theorem vx_outP {p : Program} {l : Launch} {e : Env} {R : Room} {s : State} {m : MethodId} {args : Array Value} {below : List Frame} {meth : Method} {c : Code} {H : Heap} {locs : List Loc} {cells slots : Nat} {free : Addr → Prop} {ls : Array Slot} {rest : List Value} {Qc : Array Value → State → Outcome → State → Prop} {XC : String → State → State → Prop}
    {pc : Nat} {own E : String} {ce : Cell} {q : Addr} {mc ms : Nat} (hown : s.vm.findClass own = some m.cls) (hlocks : meth.locks = false)
    (hpass : ∀ z ∈ c.exceptionTable.toList, covers z pc = false ∨ (z.catchType ≠ 0 ∧ ∃ nm : String, (Cond.classLink own z.catchType nm).before args s = true ∧ va_Nc E nm s)) (hcell : H[q]? = some ce) (hv : ce.vm = .none) (hcl : s.vm.findClass E = some ce.cls)
    (hx : ∀ t : State, t.heap = H → s.vm.Alike t.vm → XC E s t) (hf : ∀ z ∈ locs, free z.base) (hc : cells ≤ mc) (hs : slots ≤ ms) :
    vx_W p l e R s m args below meth c H locs cells slots (vx_MQ below Qc XC args s mc ms free) (F0 m pc ls rest) q := by
  intro T hT X
  have hpl : e.platform.magicAccessors = ({} : Platform).magicAccessors := by rw [X.admits.platform]
  obtain ⟨vm', hW', X', st⟩ := Jvm.Stand.outThrough X hlocks q (g := F0 m pc ls rest) rfl rfl rfl (cell := ce) (by rw [hT]; exact hcell) (by rw [hv]; rfl)
    (by obtain ⟨k9, h9, -⟩ := Vm.findClass_spec hcl; exact ⟨k9, h9⟩) (fun z hz => by
      rcases hpass z hz with h | ⟨hz0, nm, hl1, hn1⟩
      · exact Or.inl h
      · obtain ⟨c6, hc6, hcl6⟩ := Cond.classLink_spec hown hl1 e.platform hpl
        obtain ⟨a8, b8, h1, h2, h3⟩ := hn1
        cases Option.some.inj (h1.symm.trans hcl)
        cases Option.some.inj (h2.symm.trans hc6)
        exact Or.inr ⟨hz0, _, hcl6, h3⟩)
  obtain ⟨g₀, hfr⟩ := X'.frames_eq
  have hcell9 : ((T.setVm vm').setFrames (.throwing q :: below)).heap[q]? = some ce := by
    show T.heap[q]? = some ce
    rw [hT]; exact hcell
  have hend : Ended ((T.setVm vm').setFrames (.throwing q :: below)) below (.threw q) := State.frames_setFrames _ (State.cur_lt_of_frames hfr)
  refine ⟨(T.setVm vm').setFrames (.throwing q :: below), ?_, .threw q, X'.here.running, hend, Or.inr ⟨q, rfl, E, ce, locs, hx _ hT (X'.ends _).1.alike, hcell9, hv, hcl, (X'.ends _).1, (X'.ends _).2.mono hc hs, hf⟩⟩
  rw [X.pushThrowing_eq]
  exact st
/-- a thing of a world lies in the heap -/
theorem vx_lt {D : va_G} {cl : List vw_C} {ws : va_W} {H1 : Heap} (h : va_P D cl ws H1) {k : Nat} {q : Nat × va_E} (hk : ws[k]? = some q) : q.1 < H1.size := (h k q hk).lt
end VXS
/-! ===== END ===== -/
/-! ===== BEGIN methods with a table of their own: called by a name, returning or throwing ===== -/
section VXH
/-! vx_backW, vx_callVX, vx_callSX, vx_callVW, vx_runVW, vx_runVX, vx_runSX, vx_ofWH follow the same proofs as their sisters above (Free/Laws.lean, Shelf42/LK1.lean); vx_outP calls Shelf42/NT130.lean (outThrough). -/
section
variable {l : Launch} {R : Room} {p : Program} {e : Env} {below : List Frame} {s : State} {sargs : Array Value} {y : MethodName} {len W9 : Nat}
theorem vx_backW {ws : List Cond} {rm : Room} {Pc : Array Value → State → Prop} {Qc : Array Value → State → Outcome → State → Prop} {XC : String → State → State → Prop} {mc ms : Nat} {free : Addr → Prop} {bytes : ByteArray} {maxL : Nat} {ret : Option FieldType} {hh : List (Nat × Nat × Nat × Nat)}
    (hM : vx_Met l y ws rm Pc Qc XC mc ms free) (hblind : FrameBlind Pc) (hrc : rm.cells = mc) (hrs : rm.slots = ms)
    (hframes : rm.frames + 1 ≤ R.frames) (hlocals : W9 + (maxL + 11) + rm.locals ≤ R.locals)
    (hws : ∀ w ∈ ws, ∀ a' U, s.WarmedH U.vm → w.before a' U = true) (hcode : Cond.codeWith y bytes maxL ret hh ∈ ws) (hinit : ∀ a' U, s.WarmedH U.vm → (Cond.initialized y.cls).before a' U = true) :
    vx_Back l R p e below s sargs y len W9 (PreOf R mc ms Pc) (PostOf Qc mc ms free) (vx_Post XC mc ms free) := by
  intro m meth c A g ig mk a X hg hsize hdg hW hn hp
  have h1 : (headSpec ws rm).pre.before a A.U = true := atoms_intro fun w hw => hws w hw _ _ X.warmed
  have h2 : (Cond.codeWith y bytes maxL ret hh).before a A.U = true := hws _ hcode _ _ X.warmed
  have h3 : (Cond.initialized y.cls).before a A.U = true := hinit _ _ X.warmed
  have h4 : A.cells + (headSpec ws rm).room.cells ≤ R.cells := by rw [show (headSpec ws rm).room.cells = mc from hrc]; exact hp.1
  have h5 : A.slots + (headSpec ws rm).room.slots ≤ R.slots := by rw [show (headSpec ws rm).room.slots = ms from hrs]; exact hp.2.1
  have hPc : Pc a (A.U.calling g mk a) := hblind _ _ _ _ hp.2.2
  obtain ⟨U, Ls, c0, s0⟩ := A
  dsimp only [Pt.U, Pt.locs, Pt.cells, Pt.slots] at h1 h2 h3 h4 h5 X hn hPc ⊢
  obtain ⟨m9, methY, cY, hn9, hmY, hcY, -, hlY, -⟩ := Cond.codeWith_spec h2
  cases Option.some.inj (hn9.symm.trans hn)
  obtain ⟨kY, hkY, -⟩ := className_of_methodNamed hn
  have hinitY : kY.init = .initialized := Cond.initialized_spec (findClass_of_methodNamed hn) hkY h3
  have h : At U g.method c below := by rw [hg]; exact X.here
  have hlocals9 : W9 + (maxL + 11) + (headSpec ws rm).room.locals ≤ R.locals := hlocals
  have happ : (headSpec ws rm).appliesLoose y e.platform (U.calling g mk a) = true :=
    Spec.appliesLoose_calling (g := g) h hdg hn hkY hinitY
      (X.room_calling (g := g) (R' := (headSpec ws rm).room) hsize hmY hcY hframes (by rw [hlY]; omega) h4 h5) h1
  obtain ⟨mid, hmid⟩ := h.above
  have hfr : (U.setTop g).frames = (.java g :: mid) ++ below := by rw [State.frames_setTop' g h.top, hmid]; rfl
  obtain ⟨o, s₂, hsteps, -, hend, hq⟩ := Steps.callFree hM p X.admits X.cas X.clock (acts := []) hfr happ hPc trivial
  have hq' : vx_Q Qc XC mc ms free a (U.calling g mk a) o s₂ := hq
  rw [State.frames_setTop' g h.top] at hend
  obtain ⟨g₀, hg0⟩ := Option.isSome_iff_exists.mp h.top
  obtain ⟨r, hr⟩ := State.topJava?_eq_some.mp hg0
  have hr' : (({ U with heap := s₂.heap, slotsUsed := s₂.slotsUsed } : State).setVm s₂.vm).frames = .java g₀ :: r := hr
  rcases hq' with ⟨hqc, L, hfe, hL⟩ | ⟨q, rfl, E, ce, L, hx, hce, hcv, hcl, hW₂, hsm, hL⟩
  · obtain ⟨⟨v, rfl⟩, hW₂, e2, q2, q3, q4, q5, q6⟩ := id hfe
    have e3 : s₂ = ({ (U.calling g mk a).setFrames s₂.frames with heap := s₂.heap, slotsUsed := s₂.slotsUsed } : State).setVm s₂.vm := by
      have : s₂ = ({ s₂ with vm := (U.calling g mk a).vm } : State).setVm s₂.vm := rfl
      rw [e2] at this
      exact this
    obtain ⟨c₂, i₂, len₂, hc₂, hd₂, hf₂⟩ := hend
    have hW' : U.WarmedH s₂.vm := hW₂
    have hcc : c₂ = c := by
      have h1 : s₂.code? g.method = U.code? g.method := by
        rw [State.code?_eq, State.code?_eq, hW'.alike.method?]
      exact Option.some.inj (hc₂.symm.trans (h1.trans h.code))
    subst hcc
    have hlen : len₂ = len := by rw [hdg] at hd₂; cases hd₂; rfl
    subst hlen
    have hs₂ : s₂ = (({ U with heap := s₂.heap, slotsUsed := s₂.slotsUsed } : State).setVm s₂.vm).setTop { g with pc := g.pc + len₂, stack := v.toList ++ g.stack } := by
      refine e3.trans ?_
      rw [hf₂, State.calling_eq h.top, State.setFrames_setFrames, State.setTop_of_frames _ hr', hr]
      rfl
    have hsame : U.sameButNew ({ U with heap := s₂.heap, slotsUsed := s₂.slotsUsed } : State) L mc ms := by
      refine ⟨?_, q2, q3, q4, q5, q6⟩
      obtain ⟨t, ht, -⟩ := State.frames_cons hr
      show ({ U with heap := s₂.heap, slotsUsed := s₂.slotsUsed } : State) = { U.setFrames U.frames with heap := s₂.heap, slotsUsed := s₂.slotsUsed }
      rw [State.setFrames_self ht]
    subst hg
    refine Or.inl ⟨v, ⟨(({ U with heap := s₂.heap, slotsUsed := s₂.slotsUsed } : State).setVm s₂.vm), Ls ++ L, c0 + mc, s0 + ms⟩,
      ⟨X.admits, X.cas, X.clock, X.frames, X.room, X.hears, X.method, X.code, (X.here.setHeapUsed s₂.heap s₂.slotsUsed).setVm hW'.alike, X.tail, State.WarmedH.trans X.warmed hW', X.limits, X.bytes, X.same.trans (hsame.setVm s.vm)⟩,
      ⟨g, mk, s₂, L, rfl, rfl, hqc, rfl, hL, rfl, rfl⟩, ?_⟩
    show Steps p.tables e below _ ((({ U with heap := s₂.heap, slotsUsed := s₂.slotsUsed } : State).setVm s₂.vm).setTop { g with pc := g.pc + len₂, stack := v.toList ++ g.stack })
    rw [← hs₂]
    exact hsteps
  · obtain ⟨e2, q2, q3, q4, q5, q6⟩ := id hsm
    have e3 : s₂ = ({ (U.calling g mk a).setFrames s₂.frames with heap := s₂.heap, slotsUsed := s₂.slotsUsed } : State).setVm s₂.vm := by
      have : s₂ = ({ s₂ with vm := (U.calling g mk a).vm } : State).setVm s₂.vm := rfl
      rw [e2] at this
      exact this
    have hf₂ : s₂.frames = .throwing q :: .java g :: U.frames.tail := hend
    have hW' : U.WarmedH s₂.vm := hW₂
    have hs₂ : s₂ = ((({ U with heap := s₂.heap, slotsUsed := s₂.slotsUsed } : State).setVm s₂.vm).setTop g).pushFrame (.throwing q) := by
      refine e3.trans ?_
      rw [hf₂, State.calling_eq h.top, State.setFrames_setFrames, State.pushFrame, State.frames_setTop _ hr', State.setTop_of_frames _ hr', State.setFrames_setFrames, hr]
      rfl
    have hsame : U.sameButNew ({ U with heap := s₂.heap, slotsUsed := s₂.slotsUsed } : State) L mc ms := by
      refine ⟨?_, q2, q3, q4, q5, q6⟩
      obtain ⟨t, ht, -⟩ := State.frames_cons hr
      show ({ U with heap := s₂.heap, slotsUsed := s₂.slotsUsed } : State) = { U.setFrames U.frames with heap := s₂.heap, slotsUsed := s₂.slotsUsed }
      rw [State.setFrames_self ht]
    subst hg
    refine Or.inr ⟨q, ⟨(({ U with heap := s₂.heap, slotsUsed := s₂.slotsUsed } : State).setVm s₂.vm), Ls ++ L, c0 + mc, s0 + ms⟩,
      ⟨X.admits, X.cas, X.clock, X.frames, X.room, X.hears, X.method, X.code, (X.here.setHeapUsed s₂.heap s₂.slotsUsed).setVm hW'.alike, X.tail, State.WarmedH.trans X.warmed hW', X.limits, X.bytes, X.same.trans (hsame.setVm s.vm)⟩,
      ⟨g, mk, s₂, L, E, ce, rfl, rfl, hx, hce, hcv, hcl, rfl, hL, rfl, rfl⟩, ?_⟩
    show Steps p.tables e below _ (((({ U with heap := s₂.heap, slotsUsed := s₂.slotsUsed } : State).setVm s₂.vm).setTop g).pushFrame (.throwing q))
    rw [← hs₂]
    exact hsteps
end
variable {p : Program} {l : Launch} {e : Env} {R : Room} {s : State} {m : MethodId} {args : Array Value} {below : List Frame} {meth : Method} {c : Code} {T : State} {H : Heap} {locs : List Loc} {cells slots : Nat}
theorem vx_callVX (X : Stand p l e R s m args below meth c T locs cells slots) (hexec : p.tables.exec = Jvm.exec) {own C : String} {index : Nat} {y : MethodName} {bytes : ByteArray} {maxL : Nat} {ret : Option FieldType} {hh : List (Nat × Nat × Nat × Nat)}
    (hown : s.vm.findClass own = some m.cls) (hlink : (Cond.methodLink own index y).before args s = true) (hinst : (Cond.instanceMethod y).before args s = true) (hsel : (Cond.selects C y y).before args s = true)
    (hcode : (Cond.codeWith y bytes maxL ret hh).before args s = true) (hy : y.cls ≠ "java/lang/invoke/MethodHandle" ∧ y.cls ≠ "java/lang/invoke/VarHandle")
    {W9 : Nat} {Pre : Pt → Array Value → Prop} {Post : Pt → Array Value → Option Value → Pt → Prop} {PostX : Pt → Array Value → Addr → Pt → Prop} (hK : vx_Back l R p e below s args y 3 W9 Pre Post PostX)
    {b : Addr} {cellB : Cell} (hcell : T.heap[b]? = some cellB) (hobj : cellB.vm.isStatics = false) (hcls : s.vm.findClass C = some cellB.cls)
    {g : JFrame} (hg : g.method = m) (hsize : g.locals.size = c.maxLocals) {argsL rest : List Value} (hlen : ∀ sig, parseMethodDescriptor y.desc = some sig → argsL.length = sig.parameters.length)
    (hstack : g.stack = argsL.reverse ++ .ref b :: rest) (hW : 2 * g.monitorRoom + (rest.map fun v => v.category).sum ≤ W9) (hdg : decode c.code g.pc = .ok (.invokevirtual index, 3))
    (hpre : ∀ vm₁, s.WarmedH vm₁ → Pre ⟨T.setVm vm₁, locs, cells, slots⟩ (Value.ref b :: argsL).toArray) :
    (∃ (v : Option Value) (vm₁ : Vm) (B : Pt), s.WarmedH vm₁ ∧ Stand p l e R s m args below meth c B.U B.locs B.cells B.slots ∧ Post ⟨T.setVm vm₁, locs, cells, slots⟩ (Value.ref b :: argsL).toArray v B ∧
      ∀ target, Steps p.tables e below (B.U.setTop { g with pc := g.pc + 3, stack := v.toList ++ rest }) target → Steps p.tables e below (T.setTop g) target) ∨
    (∃ (q : Addr) (vm₁ : Vm) (B : Pt), s.WarmedH vm₁ ∧ Stand p l e R s m args below meth c B.U B.locs B.cells B.slots ∧ PostX ⟨T.setVm vm₁, locs, cells, slots⟩ (Value.ref b :: argsL).toArray q B ∧
      Steps p.tables e below (T.setTop g) ((B.U.setTop { g with stack := rest }).pushFrame (.throwing q))) := by
  obtain ⟨mk, methM, hnamed, hmethM, hstM, habM⟩ := Cond.instanceMethod_spec hinst
  obtain ⟨m8, methM', cM, hn8, hmethM', -, -, -, -, -, -, hsigM⟩ := Cond.codeWith_spec hcode
  cases Option.some.inj (hn8.symm.trans hnamed)
  cases hmethM.symm.trans hmethM'
  obtain ⟨c2, r2, m2, q1, q2, q3, q4, kP, hkP, hkPi⟩ := Cond.selects_spec hsel
  cases hcls.symm.trans q1
  cases (State.methodFound?_of_named hnamed hy).symm.trans q2
  cases hnamed.symm.trans q3
  have hselP : selectMethod e.platform s.vm cellB.cls mk = .method mk := by rw [Launch.admits_selectMethod X.admits]; exact q4
  obtain ⟨vm₁, X₁, hstep₁⟩ := X.invokevirtual hexec hown hlink hnamed hmethM hstM hkP hkPi hy (a := b) (cell := cellB) hcell
    (fun z h => by rw [h] at hobj; cases hobj) hselP hmethM habM hkP hkPi (g := g) hg (argsL := argsL) (rest := rest) (hlen _ hsigM) hstack hdg
  rcases hK m meth c ⟨T.setVm vm₁, locs, cells, slots⟩ { g with stack := rest } (.invokevirtual index) mk (Value.ref b :: argsL).toArray X₁ hg hsize hdg hW (X₁.named hnamed) (hpre vm₁ X₁.warmed) with ⟨v, B, X', hpost, hsteps⟩ | ⟨q, B, X', hpost, hsteps⟩
  · exact Or.inl ⟨v, vm₁, B, X₁.warmed, X', hpost, fun target h => hstep₁ _ fun acts => by rw [doInvoke_state]; exact hsteps.trans h⟩
  · exact Or.inr ⟨q, vm₁, B, X₁.warmed, X', hpost, hstep₁ _ fun acts => by rw [doInvoke_state]; exact hsteps⟩
theorem vx_callSX (X : Stand p l e R s m args below meth c T locs cells slots) (hexec : p.tables.exec = Jvm.exec) {own : String} {index : Nat} {y : MethodName} {bytes : ByteArray} {maxL : Nat} {ret : Option FieldType} {hh : List (Nat × Nat × Nat × Nat)}
    (hown : s.vm.findClass own = some m.cls) (hlink : (Cond.methodLink own index y).before args s = true) (hstat : (Cond.static y).before args s = true) (hinit : (Cond.initialized y.cls).before args s = true)
    (hcode : (Cond.codeWith y bytes maxL ret hh).before args s = true) (hy : y.cls ≠ "java/lang/invoke/MethodHandle" ∧ y.cls ≠ "java/lang/invoke/VarHandle")
    {W9 : Nat} {Pre : Pt → Array Value → Prop} {Post : Pt → Array Value → Option Value → Pt → Prop} {PostX : Pt → Array Value → Addr → Pt → Prop} (hK : vx_Back l R p e below s args y 3 W9 Pre Post PostX)
    {g : JFrame} (hg : g.method = m) (hsize : g.locals.size = c.maxLocals) {argsL rest : List Value} (hlen : ∀ sig, parseMethodDescriptor y.desc = some sig → argsL.length = sig.parameters.length)
    (hstack : g.stack = argsL.reverse ++ rest) (hW : 2 * g.monitorRoom + (rest.map fun v => v.category).sum ≤ W9) (hdg : decode c.code g.pc = .ok (.invokestatic index, 3))
    (hpre : ∀ vm₁, s.WarmedH vm₁ → Pre ⟨T.setVm vm₁, locs, cells, slots⟩ argsL.toArray) :
    (∃ (v : Option Value) (vm₁ : Vm) (B : Pt), s.WarmedH vm₁ ∧ Stand p l e R s m args below meth c B.U B.locs B.cells B.slots ∧ Post ⟨T.setVm vm₁, locs, cells, slots⟩ argsL.toArray v B ∧
      ∀ target, Steps p.tables e below (B.U.setTop { g with pc := g.pc + 3, stack := v.toList ++ rest }) target → Steps p.tables e below (T.setTop g) target) ∨
    (∃ (q : Addr) (vm₁ : Vm) (B : Pt), s.WarmedH vm₁ ∧ Stand p l e R s m args below meth c B.U B.locs B.cells B.slots ∧ PostX ⟨T.setVm vm₁, locs, cells, slots⟩ argsL.toArray q B ∧
      Steps p.tables e below (T.setTop g) ((B.U.setTop { g with stack := rest }).pushFrame (.throwing q))) := by
  obtain ⟨mk, methM, cM, hnamed, hmethM, -, -, -, -, -, -, hsigM⟩ := Cond.codeWith_spec hcode
  have hstatic : methM.isStatic = true := Cond.static_spec hnamed hmethM hstat
  obtain ⟨kP, hkP, -⟩ := className_of_methodNamed hnamed
  have hinitP : kP.init = .initialized := Cond.initialized_spec (findClass_of_methodNamed hnamed) hkP hinit
  obtain ⟨vm₁, X₁, hstep₁⟩ := X.invokestatic hexec hown hlink hnamed hmethM hstatic hkP hinitP hy (g := g) hg (argsL := argsL) (rest := rest) (hlen _ hsigM) hstack hdg
  rcases hK m meth c ⟨T.setVm vm₁, locs, cells, slots⟩ { g with stack := rest } (.invokestatic index) mk argsL.toArray X₁ hg hsize hdg hW (X₁.named hnamed) (hpre vm₁ X₁.warmed) with ⟨v, B, X', hpost, hsteps⟩ | ⟨q, B, X', hpost, hsteps⟩
  · exact Or.inl ⟨v, vm₁, B, X₁.warmed, X', hpost, fun target h => hstep₁ _ fun acts => by rw [doInvoke_state]; exact hsteps.trans h⟩
  · exact Or.inr ⟨q, vm₁, B, X₁.warmed, X', hpost, hstep₁ _ fun acts => by rw [doInvoke_state]; exact hsteps⟩
theorem vx_callVW (X : Stand p l e R s m args below meth c T locs cells slots) (hexec : p.tables.exec = Jvm.exec) {own C : String} {index : Nat} {y : MethodName} {bytes : ByteArray} {maxL : Nat} {ret : Option FieldType} {hh : List (Nat × Nat × Nat × Nat)}
    (hown : s.vm.findClass own = some m.cls) (hlink : (Cond.methodLink own index y).before args s = true) (hinst : (Cond.instanceMethod y).before args s = true) (hsel : (Cond.selects C y y).before args s = true)
    (hcode : (Cond.codeWith y bytes maxL ret hh).before args s = true) (hy : y.cls ≠ "java/lang/invoke/MethodHandle" ∧ y.cls ≠ "java/lang/invoke/VarHandle")
    {W9 : Nat} {Pre : Pt → Array Value → Prop} {Post : Pt → Array Value → Option Value → Pt → Prop} (hK : Back l R p e below s args y 3 W9 Pre Post)
    {b : Addr} {cellB : Cell} (hcell : T.heap[b]? = some cellB) (hobj : cellB.vm.isStatics = false) (hcls : s.vm.findClass C = some cellB.cls)
    {g : JFrame} (hg : g.method = m) (hsize : g.locals.size = c.maxLocals) {argsL rest : List Value} (hlen : ∀ sig, parseMethodDescriptor y.desc = some sig → argsL.length = sig.parameters.length)
    (hstack : g.stack = argsL.reverse ++ .ref b :: rest) (hW : 2 * g.monitorRoom + (rest.map fun v => v.category).sum ≤ W9) (hdg : decode c.code g.pc = .ok (.invokevirtual index, 3))
    (hpre : ∀ vm₁, s.WarmedH vm₁ → Pre ⟨T.setVm vm₁, locs, cells, slots⟩ (Value.ref b :: argsL).toArray) :
    ∃ (v : Option Value) (vm₁ : Vm) (B : Pt), s.WarmedH vm₁ ∧ Stand p l e R s m args below meth c B.U B.locs B.cells B.slots ∧ Post ⟨T.setVm vm₁, locs, cells, slots⟩ (Value.ref b :: argsL).toArray v B ∧
      ∀ target, Steps p.tables e below (B.U.setTop { g with pc := g.pc + 3, stack := v.toList ++ rest }) target → Steps p.tables e below (T.setTop g) target := by
  obtain ⟨mk, methM, hnamed, hmethM, hstM, habM⟩ := Cond.instanceMethod_spec hinst
  obtain ⟨m8, methM', cM, hn8, hmethM', -, -, -, -, -, -, hsigM⟩ := Cond.codeWith_spec hcode
  cases Option.some.inj (hn8.symm.trans hnamed)
  cases hmethM.symm.trans hmethM'
  obtain ⟨c2, r2, m2, q1, q2, q3, q4, kP, hkP, hkPi⟩ := Cond.selects_spec hsel
  cases hcls.symm.trans q1
  cases (State.methodFound?_of_named hnamed hy).symm.trans q2
  cases hnamed.symm.trans q3
  have hselP : selectMethod e.platform s.vm cellB.cls mk = .method mk := by rw [Launch.admits_selectMethod X.admits]; exact q4
  obtain ⟨vm₁, X₁, hstep₁⟩ := X.invokevirtual hexec hown hlink hnamed hmethM hstM hkP hkPi hy (a := b) (cell := cellB) hcell
    (fun z h => by rw [h] at hobj; cases hobj) hselP hmethM habM hkP hkPi (g := g) hg (argsL := argsL) (rest := rest) (hlen _ hsigM) hstack hdg
  obtain ⟨v, B, X', hpost, hsteps⟩ := hK m meth c ⟨T.setVm vm₁, locs, cells, slots⟩ { g with stack := rest } (.invokevirtual index) mk (Value.ref b :: argsL).toArray X₁ hg hsize hdg hW (X₁.named hnamed) (hpre vm₁ X₁.warmed)
  exact ⟨v, vm₁, B, X₁.warmed, X', hpost, fun target h => hstep₁ _ fun acts => by rw [doInvoke_state]; exact hsteps.trans h⟩
abbrev vx_CVW (R : Room) (s : State) (args : Array Value) (own C : String) (index : Nat) (y : MethodName) (bytes : ByteArray) (maxL : Nat) (ret : Option FieldType) (hh : List (Nat × Nat × Nat × Nat)) (ws : List Cond) (rm : Room) (mc ms n : Nat) : Prop :=
  (rm.cells = mc ∧ rm.slots = ms ∧ rm.frames + 1 ≤ R.frames ∧ 8 + (maxL + 11) + rm.locals ≤ R.locals ∧ (∀ w ∈ ws, ∀ (a' : Array Value) (U : State), s.WarmedH U.vm → w.before a' U = true) ∧ Cond.codeWith y bytes maxL ret hh ∈ ws) ∧
  (Cond.codeWith y bytes maxL ret hh).before args s = true ∧ (Cond.initialized y.cls).before args s = true ∧ (y.cls ≠ "java/lang/invoke/MethodHandle" ∧ y.cls ≠ "java/lang/invoke/VarHandle") ∧
  (∀ sig, parseMethodDescriptor y.desc = some sig → n = sig.parameters.length) ∧ (Cond.methodLink own index y).before args s = true ∧ (Cond.instanceMethod y).before args s = true ∧ (Cond.selects C y y).before args s = true
theorem vx_cwVW {own C : String} {index maxL mc ms : Nat} {y : MethodName} {bytes : ByteArray} {ret : Option FieldType} {hh : List (Nat × Nat × Nat × Nat)} {Ts ws ws' : List Cond} {rm : Room} (n : Nat) (ht : ∀ w ∈ Ts, w.before args s = true) (hT : GoodIn Ts (wsV own index C y ws)) (hw : ws = Cond.codeWith y bytes maxL ret hh :: ws') (hrc : rm.cells = mc) (hrs : rm.slots = ms)
    (hd : y.cls = C ∧ y.cls ≠ "java/lang/invoke/MethodHandle" ∧ y.cls ≠ "java/lang/invoke/VarHandle" ∧ (parseMethodDescriptor y.desc).map (fun d => d.parameters.length) = some n) (hR : rm.frames + 1 ≤ R.frames ∧ 8 + (maxL + 11) + rm.locals ≤ R.locals) :
    vx_CVW R s args own C index y bytes maxL ret hh ws rm mc ms n := by
  obtain ⟨hC, hd⟩ := hd
  subst hC
  have ok : ∀ w ∈ wsV own index y.cls y ws, w.before args s = true := fun w h => ht w (hT w h).1
  have hG : GoodIn Ts ws := fun w h => hT w (by unfold wsV; exact List.mem_append_right _ h)
  have hc : Cond.codeWith y bytes maxL ret hh ∈ ws := by rw [hw]; exact List.mem_cons_self
  refine ⟨⟨hrc, hrs, hR.1, hR.2, pay_in ht hG, hc⟩, ht _ (hG _ hc).1, ok _ (by simp [wsV]), ⟨hd.1, hd.2.1⟩, fun sig h => ?_, ok _ (by simp [wsV]), ok _ (by simp [wsV]), ok _ (by simp [wsV])⟩
  have h2 := hd.2.2
  rw [h] at h2
  exact (Option.some.inj h2).symm
theorem vx_runVW {y : MethodName} {bytes cc : ByteArray} {maxL nL mc ms n index : Nat} {ret : Option FieldType} {hh : List (Nat × Nat × Nat × Nat)} {ws : List Cond} {rm : Room} {Pc : Array Value → State → Prop} {Qc : Array Value → State → Outcome → State → Prop} {free : Addr → Prop} {Ts : List Cond} {own C : String} {b : Addr} {As rest : List Value} {g : JFrame}
    (S : CallFix p m c cc nL s args Ts own) (hM : Met l y ws rm Pc Qc mc ms free) (cw : vx_CVW R s args own C index y bytes maxL ret hh ws rm mc ms n) (hp : PreV s H C b Pc As)
    (hg : g.method = m) (hn : As.length = n) (hsize : g.locals.size = nL) (hstack : g.stack = As.reverse ++ .ref b :: rest) (hW : 2 * g.monitorRoom + (rest.map fun v => v.category).sum ≤ 8) (hdg : decode cc g.pc = .ok (.invokevirtual index, 3)) (hf : cells + mc ≤ R.cells ∧ slots + ms ≤ R.slots) :
    va_Run p l e R s m args below meth c H locs cells slots mc ms g rest (Qc (Value.ref b :: As).toArray) free := by
  obtain ⟨⟨hrc, hrs, hfr, hlo, hws, hcw⟩, hcode, hini, hy, hlen, hl, hin, hse⟩ := cw
  have hK : Back l R p e below s args y 3 8 (PreOf R mc ms Pc) (PostOf Qc mc ms free) := va_backW (hh := hh) (bytes := bytes) (maxL := maxL) (ret := ret) hM hp.1 hrc hrs hfr hlo hws hcw (fun a' U hW => word_at hW (Or.inl (by first | rfl | simp [Cond.onTables, Cond.keeps, Cond.steady])) hini)
  obtain ⟨hx, hb, hml, ho, -⟩ := S
  obtain ⟨-, ⟨cellB, hcB, hoB, hclB⟩, hPc⟩ := hp
  intro T hT X
  obtain ⟨v, vm₁, ⟨U', l2, c2, s2⟩, hW₁, X', ⟨g', mk, t, L, e1, e2, hq, h1, hL, h2, h3⟩, st⟩ := vx_callVW X hx (C := C) (hh := hh) (bytes := bytes) (maxL := maxL) (ret := ret) ho hl hin hse hcode hy hK (by rw [hT]; exact hcB) hoB hclB hg (hsize.trans hml.symm) (argsL := As) (rest := rest) (fun sig h => hn.trans (hlen sig h)) hstack hW (by rw [hb]; exact hdg)
    (fun vm₁ hW₁ => ⟨hf.1, hf.2, hPc (T.setVm vm₁) hT hW₁⟩)
  dsimp only [Pt.U, Pt.locs, Pt.cells, Pt.slots] at X' e1 e2 h1 h2 h3 st
  subst h1; subst h2; subst h3
  exact ⟨v, (T.setVm vm₁).calling g' mk (Value.ref b :: As).toArray, t, U', L, hT, X', hL, e1, e2, hq, st⟩
section
variable {y : MethodName} {bytes cc : ByteArray} {maxL nL mc ms n index : Nat} {ret : Option FieldType} {ws : List Cond} {rm : Room} {Pc : Array Value → State → Prop} {Qc : Array Value → State → Outcome → State → Prop} {XC : String → State → State → Prop} {free : Addr → Prop} {Ts : List Cond} {own C : String} {b : Addr} {As rest : List Value} {g : JFrame}
theorem vx_runVX {hh : List (Nat × Nat × Nat × Nat)} (S : CallFix p m c cc nL s args Ts own) (hM : vx_Met l y ws rm Pc Qc XC mc ms free) (cw : vx_CVW R s args own C index y bytes maxL ret hh ws rm mc ms n) (hp : PreV s H C b Pc As)
    (hg : g.method = m) (hn : As.length = n) (hsize : g.locals.size = nL) (hstack : g.stack = As.reverse ++ .ref b :: rest) (hW : 2 * g.monitorRoom + (rest.map fun v => v.category).sum ≤ 8) (hdg : decode cc g.pc = .ok (.invokevirtual index, 3)) (hf : cells + mc ≤ R.cells ∧ slots + ms ≤ R.slots) :
    vx_Run p l e R s m args below meth c H locs cells slots mc ms g rest (Qc (Value.ref b :: As).toArray) XC free := by
  obtain ⟨⟨hrc, hrs, hfr, hlo, hws, hcw⟩, hcode, hini, hy, hlen, hl, hin, hse⟩ := cw
  have hK : vx_Back l R p e below s args y 3 8 (PreOf R mc ms Pc) (PostOf Qc mc ms free) (vx_Post XC mc ms free) := vx_backW (hh := hh) (bytes := bytes) (maxL := maxL) (ret := ret) hM hp.1 hrc hrs hfr hlo hws hcw (fun a' U hW => word_at hW (Or.inl (by first | rfl | simp [Cond.onTables, Cond.keeps, Cond.steady])) hini)
  obtain ⟨hx, hb, hml, ho, -⟩ := S
  obtain ⟨-, ⟨cellB, hcB, hoB, hclB⟩, hPc⟩ := hp
  intro T hT X
  rcases vx_callVX X hx (C := C) (hh := hh) (bytes := bytes) (maxL := maxL) (ret := ret) ho hl hin hse hcode hy hK (by rw [hT]; exact hcB) hoB hclB hg (hsize.trans hml.symm) (argsL := As) (rest := rest) (fun sig h => hn.trans (hlen sig h)) hstack hW (by rw [hb]; exact hdg)
    (fun vm₁ hW₁ => ⟨hf.1, hf.2, hPc (T.setVm vm₁) hT hW₁⟩) with ⟨v, vm₁, ⟨U', l2, c2, s2⟩, hW₁, X', ⟨g', mk, t, L, e1, e2, hq, h1, hL, h2, h3⟩, st⟩ | ⟨q, vm₁, ⟨U', l2, c2, s2⟩, hW₁, X', ⟨g', mk, t, L, E, ce, e1, e2, hq, hce, hcv, hcl, h1, hL, h2, h3⟩, st⟩
  · dsimp only [Pt.U, Pt.locs, Pt.cells, Pt.slots] at X' e1 e2 h1 h2 h3 st
    subst h1; subst h2; subst h3
    exact Or.inl ⟨v, (T.setVm vm₁).calling g' mk (Value.ref b :: As).toArray, t, U', L, hT, X', hL, e1, e2, hq, st⟩
  · dsimp only [Pt.U, Pt.locs, Pt.cells, Pt.slots] at X' e1 e2 h1 h2 h3 st hcl
    subst h1; subst h2; subst h3
    exact Or.inr ⟨q, (T.setVm vm₁).calling g' mk (Value.ref b :: As).toArray, t, U', L, E, ce, hT, X', hL, e1, e2, hq, hce, hcv, vx_cls hW₁ hcl, st⟩
theorem vx_runSX {hh : List (Nat × Nat × Nat × Nat)} (S : CallFix p m c cc nL s args Ts own) (hM : vx_Met l y ws rm Pc Qc XC mc ms free) (cw : vx_CSW R s args own index y bytes maxL ret hh ws rm mc ms n) (hp : PreS s H Pc As)
    (hg : g.method = m) (hn : As.length = n) (hsize : g.locals.size = nL) (hstack : g.stack = As.reverse ++ rest) (hW : 2 * g.monitorRoom + (rest.map fun v => v.category).sum ≤ 8) (hdg : decode cc g.pc = .ok (.invokestatic index, 3)) (hf : cells + mc ≤ R.cells ∧ slots + ms ≤ R.slots) :
    vx_Run p l e R s m args below meth c H locs cells slots mc ms g rest (Qc As.toArray) XC free := by
  obtain ⟨⟨hrc, hrs, hfr, hlo, hws, hcw⟩, hcode, hini, hy, hlen, hl, hstt⟩ := cw
  have hK : vx_Back l R p e below s args y 3 8 (PreOf R mc ms Pc) (PostOf Qc mc ms free) (vx_Post XC mc ms free) := vx_backW (hh := hh) (bytes := bytes) (maxL := maxL) (ret := ret) hM hp.1 hrc hrs hfr hlo hws hcw (fun a' U hW => word_at hW (Or.inl (by first | rfl | simp [Cond.onTables, Cond.keeps, Cond.steady])) hini)
  obtain ⟨hx, hb, hml, ho, -⟩ := S
  intro T hT X
  rcases vx_callSX X hx (hh := hh) (bytes := bytes) (maxL := maxL) (ret := ret) ho hl hstt hini hcode hy hK hg (hsize.trans hml.symm) (argsL := As) (rest := rest) (fun sig h => hn.trans (hlen sig h)) hstack hW (by rw [hb]; exact hdg)
    (fun vm₁ hW₁ => ⟨hf.1, hf.2, hp.2 (T.setVm vm₁) hT hW₁⟩) with ⟨v, vm₁, ⟨U', l2, c2, s2⟩, hW₁, X', ⟨g', mk, t, L, e1, e2, hq, h1, hL, h2, h3⟩, st⟩ | ⟨q, vm₁, ⟨U', l2, c2, s2⟩, hW₁, X', ⟨g', mk, t, L, E, ce, e1, e2, hq, hce, hcv, hcl, h1, hL, h2, h3⟩, st⟩
  · dsimp only [Pt.U, Pt.locs, Pt.cells, Pt.slots] at X' e1 e2 h1 h2 h3 st
    subst h1; subst h2; subst h3
    exact Or.inl ⟨v, (T.setVm vm₁).calling g' mk As.toArray, t, U', L, hT, X', hL, e1, e2, hq, st⟩
  · dsimp only [Pt.U, Pt.locs, Pt.cells, Pt.slots] at X' e1 e2 h1 h2 h3 st hcl
    subst h1; subst h2; subst h3
    exact Or.inr ⟨q, (T.setVm vm₁).calling g' mk As.toArray, t, U', L, E, ce, hT, X', hL, e1, e2, hq, hce, hcv, vx_cls hW₁ hcl, st⟩
end
end VXH
theorem vx_ofWH {l : Launch} {y : MethodName} {ws ws' : List Cond} {rm : Room} {Pc : Array Value → State → Prop} {Qc : Array Value → State → Outcome → State → Prop} {XC : String → State → State → Prop} {mc ms : Nat} {free : Addr → Prop} {cc : ByteArray} {maxL : Nat} {ret : Option FieldType} {hh : List (Nat × Nat × Nat × Nat)}
    (hy : plainName y.cls = true) (hw : ws = Cond.codeWith y cc maxL ret hh :: ws')
    (body : ∀ p e s m args below meth c s₁, BodyLoose p l y (headSpec ws rm) cc maxL ret e s m args below meth c s₁ → c.maxLocals = maxL → Pc args s →
      W p l e (headSpec ws rm).room s m args below meth c s.heap [] 0 0 (vx_MQ below Qc XC args s mc ms free) (entryFrame m args maxL)) : vx_Met l y ws rm Pc Qc XC mc ms free := by
  refine MetFree.of_bodyS (code := cc) (maxLocals := maxL) (ret := ret) hy ?_ ?_
  · intro args s m h hn
    obtain ⟨m9, meth, c, hn9, h1, h2, h3, h4, -, h5, h6, -⟩ := Cond.codeWith_spec (atoms_spec (ws := ws) h _ (by rw [hw]; exact List.mem_cons_self))
    cases hn.symm.trans hn9
    exact ⟨meth, c, h1, h2, h3, h4, h5, h6⟩
  · intro p e s m args below meth c s₁ B hml hP _
    have hh0 : s₁.heap = s.heap := by rw [B.state]; rfl
    obtain ⟨t, a1, o, b1, b2, b3⟩ := body p e s m args below meth c s₁ B hml hP s₁ hh0 (Stand.of_body B)
    exact ⟨t, o, a1, b1, b2, b3⟩
/-! ===== END ===== -/
end
section
/-! ===== BEGIN printed: names, fields, word lists, decode rows ===== -/
def RX0 : String := "PrintQueue$Job"
def TX0 : u_T := fun k => match k with
  | 0 => ("PrintQueue$Job", "number", "I", true)
  | 1 => ("PrintQueue$Job", "ticket", "LPrintQueue$Ticket;", true)
  | 2 => ("PrintQueue$Job", "pages", "I", true)
  | 3 => ("PrintQueue$Job", "rank", "I", true)
  | 4 => ("PrintQueue$Job", "time", "J", true)
  | 5 => ("PrintQueue$Job", "held", "Z", false)
  | 6 => ("PrintQueue$Job", "cancelled", "Z", false)
  | _ => ("PrintQueue$Job", "firstPart", "LPrintQueue$Part;", false)
def tyX0 : Nat → FieldType := fun k => match k with
  | 0 => .int
  | 1 => .object "PrintQueue$Ticket"
  | 2 => .int
  | 3 => .int
  | 4 => .long
  | 5 => .boolean
  | 6 => .boolean
  | _ => .object "PrintQueue$Part"
abbrev wsX00 : List Cond := u_ws RX0 TX0 8
theorem nmX0 : ∀ a, a < 8 → ∀ b, b < 8 → a ≠ b → (TX0 a).2.1 ≠ (TX0 b).2.1 := by decide +kernel
theorem tyX0_ok : ∀ k, k < 8 → parseFieldDescriptor (TX0 k).2.2.1 = some (tyX0 k) := by decide +kernel
abbrev cX0_init : ByteArray := prog_2_method_1_code
def yX0_init : MethodName := ⟨RX0, "<init>", "(ILPrintQueue$Ticket;IIJ)V"⟩
abbrev cX0_hasPartThat : ByteArray := prog_2_method_2_code
def yX0_hasPartThat : MethodName := ⟨RX0, "hasPartThat", "(I)Z"⟩
abbrev cX0_partsHad : ByteArray := prog_2_method_3_code
def yX0_partsHad : MethodName := ⟨RX0, "partsHad", "()I"⟩
abbrev cX0_wholeCopies : ByteArray := prog_2_method_4_code
def yX0_wholeCopies : MethodName := ⟨RX0, "wholeCopies", "()I"⟩
abbrev cX0_pagesThatCount : ByteArray := prog_2_method_5_code
def yX0_pagesThatCount : MethodName := ⟨RX0, "pagesThatCount", "()I"⟩
abbrev cX0_condition : ByteArray := prog_2_method_6_code
def yX0_condition : MethodName := ⟨RX0, "condition", "()I"⟩
def RX1 : String := "PrintQueue$Part"
def TX1 : u_T := fun k => match k with
  | 0 => ("PrintQueue$Part", "job", "LPrintQueue$Job;", true)
  | 1 => ("PrintQueue$Part", "onlyPrinter", "I", true)
  | 2 => ("PrintQueue$Part", "copies", "I", false)
  | 3 => ("PrintQueue$Part", "stage", "I", false)
  | 4 => ("PrintQueue$Part", "wholeCopies", "I", false)
  | 5 => ("PrintQueue$Part", "pagesOfCopy", "I", false)
  | _ => ("PrintQueue$Part", "next", "LPrintQueue$Part;", false)
def tyX1 : Nat → FieldType := fun k => match k with
  | 0 => .object "PrintQueue$Job"
  | 1 => .int
  | 2 => .int
  | 3 => .int
  | 4 => .int
  | 5 => .int
  | _ => .object "PrintQueue$Part"
abbrev wsX10 : List Cond := u_ws RX1 TX1 7
theorem nmX1 : ∀ a, a < 7 → ∀ b, b < 7 → a ≠ b → (TX1 a).2.1 ≠ (TX1 b).2.1 := by decide +kernel
theorem tyX1_ok : ∀ k, k < 7 → parseFieldDescriptor (TX1 k).2.2.1 = some (tyX1 k) := by decide +kernel
abbrev cX1_init : ByteArray := prog_3_method_1_code
def yX1_init : MethodName := ⟨RX1, "<init>", "(LPrintQueue$Job;II)V"⟩
abbrev cX1_untouchedCopies : ByteArray := prog_3_method_2_code
def yX1_untouchedCopies : MethodName := ⟨RX1, "untouchedCopies", "()I"⟩
abbrev cX1_countPages : ByteArray := prog_3_method_3_code
def yX1_countPages : MethodName := ⟨RX1, "countPages", "(I)V"⟩
def RX2 : String := "PrintQueue$Printer"
def TX2 : u_T := fun k => match k with
  | 0 => ("PrintQueue$Printer", "number", "I", true)
  | 1 => ("PrintQueue$Printer", "sides", "I", true)
  | 2 => ("PrintQueue$Printer", "media", "I", false)
  | 3 => ("PrintQueue$Printer", "likeNumber", "I", false)
  | 4 => ("PrintQueue$Printer", "part", "LPrintQueue$Part;", false)
  | _ => ("PrintQueue$Printer", "sheetIsDue", "Z", false)
def tyX2 : Nat → FieldType := fun k => match k with
  | 0 => .int
  | 1 => .int
  | 2 => .int
  | 3 => .int
  | 4 => .object "PrintQueue$Part"
  | _ => .boolean
abbrev wsX20 : List Cond := u_ws RX2 TX2 6
theorem nmX2 : ∀ a, a < 6 → ∀ b, b < 6 → a ≠ b → (TX2 a).2.1 ≠ (TX2 b).2.1 := by decide +kernel
theorem tyX2_ok : ∀ k, k < 6 → parseFieldDescriptor (TX2 k).2.2.1 = some (tyX2 k) := by decide +kernel
abbrev cX2_init : ByteArray := prog_4_method_1_code
def yX2_init : MethodName := ⟨RX2, "<init>", "(III)V"⟩
abbrev cX2_fits : ByteArray := prog_4_method_2_code
def yX2_fits : MethodName := ⟨RX2, "fits", "(LPrintQueue$Part;)Z"⟩
def RX3 : String := "PrintQueue$Ticket"
def TX3 : u_T := fun k => match k with
  | 0 => ("PrintQueue$Ticket", "media", "I", true)
  | 1 => ("PrintQueue$Ticket", "sides", "I", true)
  | 2 => ("PrintQueue$Ticket", "pagesOut", "J", false)
  | 3 => ("PrintQueue$Ticket", "sheets", "J", false)
  | 4 => ("PrintQueue$Ticket", "changes", "J", false)
  | _ => ("PrintQueue$Ticket", "pagesDoubled", "J", false)
def tyX3 : Nat → FieldType := fun k => match k with
  | 0 => .int
  | 1 => .int
  | 2 => .long
  | 3 => .long
  | 4 => .long
  | _ => .long
abbrev wsX30 : List Cond := u_ws RX3 TX3 6
theorem nmX3 : ∀ a, a < 6 → ∀ b, b < 6 → a ≠ b → (TX3 a).2.1 ≠ (TX3 b).2.1 := by decide +kernel
theorem tyX3_ok : ∀ k, k < 6 → parseFieldDescriptor (TX3 k).2.2.1 = some (tyX3 k) := by decide +kernel
abbrev cX3_init : ByteArray := prog_5_method_1_code
def yX3_init : MethodName := ⟨RX3, "<init>", "(II)V"⟩
def RX4 : String := "PrintQueue"
def TX4 : u_T := fun k => match k with
  | 0 => ("PrintQueue", "printers", "[LPrintQueue$Printer;", true)
  | 1 => ("PrintQueue", "tickets", "[LPrintQueue$Ticket;", true)
  | 2 => ("PrintQueue", "jobs", "[LPrintQueue$Job;", true)
  | 3 => ("PrintQueue", "printerCount", "I", false)
  | 4 => ("PrintQueue", "ticketCount", "I", false)
  | 5 => ("PrintQueue", "jobCount", "I", false)
  | 6 => ("PrintQueue", "doubledJobs", "[I", true)
  | 7 => ("PrintQueue", "doubledPages", "[I", true)
  | 8 => ("PrintQueue", "doubledCount", "I", false)
  | 9 => ("PrintQueue", "bound", "I", false)
  | _ => ("PrintQueue", "now", "J", false)
def tyX4 : Nat → FieldType := fun k => match k with
  | 0 => .array (.object "PrintQueue$Printer")
  | 1 => .array (.object "PrintQueue$Ticket")
  | 2 => .array (.object "PrintQueue$Job")
  | 3 => .int
  | 4 => .int
  | 5 => .int
  | 6 => .array .int
  | 7 => .array .int
  | 8 => .int
  | 9 => .int
  | _ => .long
abbrev wsX40 : List Cond := u_ws RX4 TX4 11
theorem nmX4 : ∀ a, a < 11 → ∀ b, b < 11 → a ≠ b → (TX4 a).2.1 ≠ (TX4 b).2.1 := by decide +kernel
theorem tyX4_ok : ∀ k, k < 11 → parseFieldDescriptor (TX4 k).2.2.1 = some (tyX4 k) := by decide +kernel
abbrev cX4_init : ByteArray := prog_1_method_1_code
def yX4_init : MethodName := ⟨RX4, "<init>", "()V"⟩
abbrev cX4_printer : ByteArray := prog_1_method_2_code
def yX4_printer : MethodName := ⟨RX4, "printer", "(II)I"⟩
abbrev cX4_ticket : ByteArray := prog_1_method_3_code
def yX4_ticket : MethodName := ⟨RX4, "ticket", "(III)I"⟩
abbrev cX4_job : ByteArray := prog_1_method_4_code
def yX4_job : MethodName := ⟨RX4, "job", "(IIIIJ)I"⟩
abbrev cX4_take : ByteArray := prog_1_method_5_code
def yX4_take : MethodName := ⟨RX4, "take", "(IJ)I"⟩
abbrev cX4_print : ByteArray := prog_1_method_6_code
def yX4_print : MethodName := ⟨RX4, "print", "(II)I"⟩
abbrev cX4_fault : ByteArray := prog_1_method_7_code
def yX4_fault : MethodName := ⟨RX4, "fault", "(I)I"⟩
abbrev cX4_hold : ByteArray := prog_1_method_8_code
def yX4_hold : MethodName := ⟨RX4, "hold", "(IZ)I"⟩
abbrev cX4_cancel : ByteArray := prog_1_method_9_code
def yX4_cancel : MethodName := ⟨RX4, "cancel", "(I)I"⟩
abbrev cX4_state : ByteArray := prog_1_method_10_code
def yX4_state : MethodName := ⟨RX4, "state", "(II)I"⟩
abbrev cX4_doubled : ByteArray := prog_1_method_11_code
def yX4_doubled : MethodName := ⟨RX4, "doubled", "(II)I"⟩
abbrev cX4_account : ByteArray := prog_1_method_12_code
def yX4_account : MethodName := ⟨RX4, "account", "(II)J"⟩
abbrev cX4_reason : ByteArray := prog_1_method_13_code
def yX4_reason : MethodName := ⟨RX4, "reason", "(I)I"⟩
abbrev cX4_split : ByteArray := prog_1_method_14_code
def yX4_split : MethodName := ⟨RX4, "split", "(III)I"⟩
abbrev cX4_like : ByteArray := prog_1_method_15_code
def yX4_like : MethodName := ⟨RX4, "like", "(I)I"⟩
abbrev cX4_isWithin : ByteArray := prog_1_method_16_code
def yX4_isWithin : MethodName := ⟨RX4, "isWithin", "(III)Z"⟩
abbrev cX4_asNumber : ByteArray := prog_1_method_17_code
def yX4_asNumber : MethodName := ⟨RX4, "asNumber", "(Z)I"⟩
abbrev cX4_findPrinter : ByteArray := prog_1_method_18_code
def yX4_findPrinter : MethodName := ⟨RX4, "findPrinter", "(I)LPrintQueue$Printer;"⟩
abbrev cX4_findTicket : ByteArray := prog_1_method_19_code
def yX4_findTicket : MethodName := ⟨RX4, "findTicket", "(I)LPrintQueue$Ticket;"⟩
abbrev cX4_findJob : ByteArray := prog_1_method_20_code
def yX4_findJob : MethodName := ⟨RX4, "findJob", "(I)LPrintQueue$Job;"⟩
abbrev cX4_choosePart : ByteArray := prog_1_method_21_code
def yX4_choosePart : MethodName := ⟨RX4, "choosePart", "(LPrintQueue$Printer;)LPrintQueue$Part;"⟩
abbrev cX4_firstPartFor : ByteArray := prog_1_method_22_code
def yX4_firstPartFor : MethodName := ⟨RX4, "firstPartFor", "(LPrintQueue$Job;LPrintQueue$Printer;)LPrintQueue$Part;"⟩
abbrev cX4_goesBefore : ByteArray := prog_1_method_23_code
def yX4_goesBefore : MethodName := ⟨RX4, "goesBefore", "(LPrintQueue$Job;LPrintQueue$Job;LPrintQueue$Printer;)Z"⟩
abbrev cX4_bringTo : ByteArray := prog_1_method_24_code
def yX4_bringTo : MethodName := ⟨RX4, "bringTo", "(LPrintQueue$Printer;LPrintQueue$Part;)V"⟩
abbrev cX4_printInCopy : ByteArray := prog_1_method_25_code
def yX4_printInCopy : MethodName := ⟨RX4, "printInCopy", "(LPrintQueue$Printer;LPrintQueue$Part;I)I"⟩
abbrev cX4_sheetsOfTwoSides : ByteArray := prog_1_method_26_code
def yX4_sheetsOfTwoSides : MethodName := ⟨RX4, "sheetsOfTwoSides", "(IIZ)I"⟩
abbrev cX4_doubleLastPage : ByteArray := prog_1_method_27_code
def yX4_doubleLastPage : MethodName := ⟨RX4, "doubleLastPage", "(LPrintQueue$Part;)V"⟩
abbrev cX4_emptyPrintersOf : ByteArray := prog_1_method_28_code
def yX4_emptyPrintersOf : MethodName := ⟨RX4, "emptyPrintersOf", "(LPrintQueue$Job;)V"⟩
abbrev cX4_reasonByPrinters : ByteArray := prog_1_method_29_code
def yX4_reasonByPrinters : MethodName := ⟨RX4, "reasonByPrinters", "(LPrintQueue$Job;)I"⟩
abbrev cX4_canLose : ByteArray := prog_1_method_30_code
def yX4_canLose : MethodName := ⟨RX4, "canLose", "(LPrintQueue$Part;I)Z"⟩
def RX5 : String := "PrintQueueModel"
def TX5 : u_T := fun k => match k with
  | 0 => ("PrintQueueModel", "thrown", "I", false)
  | 1 => ("PrintQueueModel", "printers", "I", false)
  | 2 => ("PrintQueueModel", "media", "[I", true)
  | 3 => ("PrintQueueModel", "sides", "[I", true)
  | 4 => ("PrintQueueModel", "like", "[I", true)
  | 5 => ("PrintQueueModel", "has", "[I", true)
  | 6 => ("PrintQueueModel", "tickets", "I", false)
  | 7 => ("PrintQueueModel", "ticketMedia", "[I", true)
  | 8 => ("PrintQueueModel", "ticketSides", "[I", true)
  | 9 => ("PrintQueueModel", "accounts", "[J", true)
  | 10 => ("PrintQueueModel", "jobs", "I", false)
  | 11 => ("PrintQueueModel", "ticketOf", "[I", true)
  | 12 => ("PrintQueueModel", "pagesOf", "[I", true)
  | 13 => ("PrintQueueModel", "rank", "[I", true)
  | 14 => ("PrintQueueModel", "time", "[J", true)
  | 15 => ("PrintQueueModel", "held", "[Z", true)
  | 16 => ("PrintQueueModel", "cancelled", "[Z", true)
  | 17 => ("PrintQueueModel", "parts", "I", false)
  | 18 => ("PrintQueueModel", "jobOf", "[I", true)
  | 19 => ("PrintQueueModel", "copies", "[I", true)
  | 20 => ("PrintQueueModel", "only", "[I", true)
  | 21 => ("PrintQueueModel", "at", "[I", true)
  | 22 => ("PrintQueueModel", "printed", "[I", true)
  | 23 => ("PrintQueueModel", "fresh", "[Z", true)
  | 24 => ("PrintQueueModel", "waits", "[Z", true)
  | 25 => ("PrintQueueModel", "twice", "I", false)
  | 26 => ("PrintQueueModel", "twiceJob", "[I", true)
  | 27 => ("PrintQueueModel", "twicePage", "[I", true)
  | 28 => ("PrintQueueModel", "now", "J", false)
  | _ => ("PrintQueueModel", "most", "I", false)
def tyX5 : Nat → FieldType := fun k => match k with
  | 0 => .int
  | 1 => .int
  | 2 => .array .int
  | 3 => .array .int
  | 4 => .array .int
  | 5 => .array .int
  | 6 => .int
  | 7 => .array .int
  | 8 => .array .int
  | 9 => .array .long
  | 10 => .int
  | 11 => .array .int
  | 12 => .array .int
  | 13 => .array .int
  | 14 => .array .long
  | 15 => .array .boolean
  | 16 => .array .boolean
  | 17 => .int
  | 18 => .array .int
  | 19 => .array .int
  | 20 => .array .int
  | 21 => .array .int
  | 22 => .array .int
  | 23 => .array .boolean
  | 24 => .array .boolean
  | 25 => .int
  | 26 => .array .int
  | 27 => .array .int
  | 28 => .long
  | _ => .int
abbrev wsX50 : List Cond := u_ws RX5 TX5 30
theorem nmX5 : ∀ a, a < 30 → ∀ b, b < 30 → a ≠ b → (TX5 a).2.1 ≠ (TX5 b).2.1 := by decide +kernel
theorem tyX5_ok : ∀ k, k < 30 → parseFieldDescriptor (TX5 k).2.2.1 = some (tyX5 k) := by decide +kernel
abbrev cX5_init : ByteArray := prog_7_method_1_code
def yX5_init : MethodName := ⟨RX5, "<init>", "()V"⟩
abbrev cX5_thrown : ByteArray := prog_7_method_2_code
def yX5_thrown : MethodName := ⟨RX5, "thrown", "()I"⟩
abbrev cX5_in : ByteArray := prog_7_method_3_code
def yX5_in : MethodName := ⟨RX5, "in", "(JJJ)Z"⟩
abbrev cX5_printer : ByteArray := prog_7_method_4_code
def yX5_printer : MethodName := ⟨RX5, "printer", "(II)I"⟩
abbrev cX5_ticket : ByteArray := prog_7_method_5_code
def yX5_ticket : MethodName := ⟨RX5, "ticket", "(III)I"⟩
abbrev cX5_addPart : ByteArray := prog_7_method_6_code
def yX5_addPart : MethodName := ⟨RX5, "addPart", "(III)V"⟩
abbrev cX5_job : ByteArray := prog_7_method_7_code
def yX5_job : MethodName := ⟨RX5, "job", "(IIIIJ)I"⟩
abbrev cX5_isPrinter : ByteArray := prog_7_method_8_code
def yX5_isPrinter : MethodName := ⟨RX5, "isPrinter", "(I)Z"⟩
abbrev cX5_isJob : ByteArray := prog_7_method_9_code
def yX5_isJob : MethodName := ⟨RX5, "isJob", "(I)Z"⟩
abbrev cX5_fits : ByteArray := prog_7_method_10_code
def yX5_fits : MethodName := ⟨RX5, "fits", "(II)Z"⟩
abbrev cX5_mayTake : ByteArray := prog_7_method_11_code
def yX5_mayTake : MethodName := ⟨RX5, "mayTake", "(II)Z"⟩
abbrev cX5_bestRank : ByteArray := prog_7_method_12_code
def yX5_bestRank : MethodName := ⟨RX5, "bestRank", "(I)I"⟩
abbrev cX5_mediaOf : ByteArray := prog_7_method_13_code
def yX5_mediaOf : MethodName := ⟨RX5, "mediaOf", "(I)I"⟩
abbrev cX5_firstOf : ByteArray := prog_7_method_14_code
def yX5_firstOf : MethodName := ⟨RX5, "firstOf", "(IIZ)I"⟩
abbrev cX5_take : ByteArray := prog_7_method_15_code
def yX5_take : MethodName := ⟨RX5, "take", "(IJ)I"⟩
abbrev cX5_isOver : ByteArray := prog_7_method_16_code
def yX5_isOver : MethodName := ⟨RX5, "isOver", "(I)Z"⟩
abbrev cX5_leave : ByteArray := prog_7_method_17_code
def yX5_leave : MethodName := ⟨RX5, "leave", "(I)V"⟩
abbrev cX5_odd : ByteArray := prog_7_method_18_code
def yX5_odd : MethodName := ⟨RX5, "odd", "(II)I"⟩
abbrev cX5_print : ByteArray := prog_7_method_19_code
def yX5_print : MethodName := ⟨RX5, "print", "(II)I"⟩
abbrev cX5_fault : ByteArray := prog_7_method_20_code
def yX5_fault : MethodName := ⟨RX5, "fault", "(I)I"⟩
abbrev cX5_hold : ByteArray := prog_7_method_21_code
def yX5_hold : MethodName := ⟨RX5, "hold", "(IZ)I"⟩
abbrev cX5_stateOf : ByteArray := prog_7_method_22_code
def yX5_stateOf : MethodName := ⟨RX5, "stateOf", "(I)I"⟩
abbrev cX5_cancel : ByteArray := prog_7_method_23_code
def yX5_cancel : MethodName := ⟨RX5, "cancel", "(I)I"⟩
abbrev cX5_state : ByteArray := prog_7_method_24_code
def yX5_state : MethodName := ⟨RX5, "state", "(II)I"⟩
abbrev cX5_doubled : ByteArray := prog_7_method_25_code
def yX5_doubled : MethodName := ⟨RX5, "doubled", "(II)I"⟩
abbrev cX5_account : ByteArray := prog_7_method_26_code
def yX5_account : MethodName := ⟨RX5, "account", "(II)J"⟩
abbrev cX5_reason : ByteArray := prog_7_method_27_code
def yX5_reason : MethodName := ⟨RX5, "reason", "(I)I"⟩
abbrev cX5_split : ByteArray := prog_7_method_28_code
def yX5_split : MethodName := ⟨RX5, "split", "(III)I"⟩
abbrev cX5_like : ByteArray := prog_7_method_29_code
def yX5_like : MethodName := ⟨RX5, "like", "(I)I"⟩
def RJx145de : String := "java/io/Serializable"
def TJx145de : u_T := fun k => match k with
  | _ => ("", "", "", false)
def tyJx145de : Nat → FieldType := fun k => match k with
  | _ => .int
abbrev wsJx145de0 : List Cond := u_ws RJx145de TJx145de 0
theorem nmJx145de : ∀ a, a < 0 → ∀ b, b < 0 → a ≠ b → (TJx145de a).2.1 ≠ (TJx145de b).2.1 := by decide +kernel
theorem tyJx145de_ok : ∀ k, k < 0 → parseFieldDescriptor (TJx145de k).2.2.1 = some (tyJx145de k) := by decide +kernel
def RJ9 : String := "java/lang/Math"
def TJ9 : u_T := fun k => match k with
  | _ => ("", "", "", false)
def tyJ9 : Nat → FieldType := fun k => match k with
  | _ => .int
abbrev wsJ90 : List Cond := u_ws RJ9 TJ9 0
theorem nmJ9 : ∀ a, a < 0 → ∀ b, b < 0 → a ≠ b → (TJ9 a).2.1 ≠ (TJ9 b).2.1 := by decide +kernel
theorem tyJ9_ok : ∀ k, k < 0 → parseFieldDescriptor (TJ9 k).2.2.1 = some (tyJ9 k) := by decide +kernel
abbrev cJ9_min_7cf53 : ByteArray := prog_13_method_69_code
def yJ9_min_7cf53 : MethodName := ⟨RJ9, "min", "(II)I"⟩
def RL : String := "PrintQueueLaw"
abbrev cL_printer : ByteArray := method_3_code
def yL_printer : MethodName := ⟨RL, "printer", "(LPrintQueue;II[J)I"⟩
abbrev cL_ticket : ByteArray := method_4_code
def yL_ticket : MethodName := ⟨RL, "ticket", "(LPrintQueue;III[J)I"⟩
abbrev cL_job : ByteArray := method_5_code
def yL_job : MethodName := ⟨RL, "job", "(LPrintQueue;IIIIJ[J)I"⟩
abbrev cL_take : ByteArray := method_6_code
def yL_take : MethodName := ⟨RL, "take", "(LPrintQueue;IJ[J)I"⟩
abbrev cL_print : ByteArray := method_7_code
def yL_print : MethodName := ⟨RL, "print", "(LPrintQueue;II[J)I"⟩
abbrev cL_fault : ByteArray := method_8_code
def yL_fault : MethodName := ⟨RL, "fault", "(LPrintQueue;I[J)I"⟩
abbrev cL_hold : ByteArray := method_9_code
def yL_hold : MethodName := ⟨RL, "hold", "(LPrintQueue;IZ[J)I"⟩
abbrev cL_cancel : ByteArray := method_10_code
def yL_cancel : MethodName := ⟨RL, "cancel", "(LPrintQueue;I[J)I"⟩
abbrev cL_state : ByteArray := method_11_code
def yL_state : MethodName := ⟨RL, "state", "(LPrintQueue;II[J)I"⟩
abbrev cL_doubled : ByteArray := method_12_code
def yL_doubled : MethodName := ⟨RL, "doubled", "(LPrintQueue;II[J)I"⟩
abbrev cL_account : ByteArray := method_13_code
def yL_account : MethodName := ⟨RL, "account", "(LPrintQueue;II[J)I"⟩
abbrev cL_reason : ByteArray := method_14_code
def yL_reason : MethodName := ⟨RL, "reason", "(LPrintQueue;I[J)I"⟩
abbrev cL_split : ByteArray := method_15_code
def yL_split : MethodName := ⟨RL, "split", "(LPrintQueue;III[J)I"⟩
abbrev cL_like : ByteArray := method_16_code
def yL_like : MethodName := ⟨RL, "like", "(LPrintQueue;I[J)I"⟩
abbrev cL_law : ByteArray := code
def yL_law : MethodName := ⟨RL, "law", "([I)Z"⟩
def wsX0_init : List Cond := .code yX0_init cX0_init 7 none :: ([.methodLink RX0 3 objectInit, .instanceMethod objectInit, .code objectInit ⟨#[0xb1]⟩ 1 none, .fieldLink RX0 9 "PrintQueue$Job" "number" "I", .fieldLink RX0 15 "PrintQueue$Job" "ticket" "LPrintQueue$Ticket;", .fieldLink RX0 19 "PrintQueue$Job" "pages" "I", .fieldLink RX0 22 "PrintQueue$Job" "rank" "I", .fieldLink RX0 25 "PrintQueue$Job" "time" "J"] ++ wsX00)
def wsX0_hasPartThat : List Cond := .code yX0_hasPartThat cX0_hasPartThat 3 (some .boolean) :: ([.fieldLink RX0 29 "PrintQueue$Job" "firstPart" "LPrintQueue$Part;", .fieldLink RX0 33 "PrintQueue$Part" "stage" "I", .fieldLink RX0 38 "PrintQueue$Part" "next" "LPrintQueue$Part;"] ++ wsX00 ++ wsX10)
def wsX0_partsHad : List Cond := .code yX0_partsHad cX0_partsHad 3 (some .int) :: ([.fieldLink RX0 29 "PrintQueue$Job" "firstPart" "LPrintQueue$Part;", .fieldLink RX0 38 "PrintQueue$Part" "next" "LPrintQueue$Part;"] ++ wsX00 ++ wsX10)
def wsX0_wholeCopies : List Cond := .code yX0_wholeCopies cX0_wholeCopies 3 (some .int) :: ([.fieldLink RX0 29 "PrintQueue$Job" "firstPart" "LPrintQueue$Part;", .fieldLink RX0 41 "PrintQueue$Part" "wholeCopies" "I", .fieldLink RX0 38 "PrintQueue$Part" "next" "LPrintQueue$Part;"] ++ wsX00 ++ wsX10)
def wsX0_pagesThatCount : List Cond := .code yX0_pagesThatCount cX0_pagesThatCount 3 (some .int) :: ([.fieldLink RX0 29 "PrintQueue$Job" "firstPart" "LPrintQueue$Part;", .fieldLink RX0 41 "PrintQueue$Part" "wholeCopies" "I", .fieldLink RX0 19 "PrintQueue$Job" "pages" "I", .fieldLink RX0 44 "PrintQueue$Part" "pagesOfCopy" "I", .fieldLink RX0 38 "PrintQueue$Part" "next" "LPrintQueue$Part;"] ++ wsX00 ++ wsX10)
def wsX0_condition : List Cond := .code yX0_condition cX0_condition 1 (some .int) :: ([.fieldLink RX0 47 "PrintQueue$Job" "cancelled" "Z", .methodLink RX0 51 yX0_hasPartThat, .instanceMethod yX0_hasPartThat, .selects RX0 yX0_hasPartThat yX0_hasPartThat, .initialized RX0, .code yX0_hasPartThat cX0_hasPartThat 3 (some .boolean), .fieldLink RX0 29 "PrintQueue$Job" "firstPart" "LPrintQueue$Part;", .fieldLink RX0 33 "PrintQueue$Part" "stage" "I", .fieldLink RX0 38 "PrintQueue$Part" "next" "LPrintQueue$Part;"] ++ wsX00 ++ wsX10)
def wsX1_init : List Cond := .code yX1_init cX1_init 4 none :: ([.methodLink RX1 1 objectInit, .instanceMethod objectInit, .code objectInit ⟨#[0xb1]⟩ 1 none, .fieldLink RX1 7 "PrintQueue$Part" "job" "LPrintQueue$Job;", .fieldLink RX1 13 "PrintQueue$Part" "onlyPrinter" "I", .fieldLink RX1 17 "PrintQueue$Part" "copies" "I"] ++ wsX10)
def wsX1_untouchedCopies : List Cond := .code yX1_untouchedCopies cX1_untouchedCopies 1 (some .int) :: ([.fieldLink RX1 17 "PrintQueue$Part" "copies" "I", .fieldLink RX1 20 "PrintQueue$Part" "wholeCopies" "I", .fieldLink RX1 23 "PrintQueue$Part" "pagesOfCopy" "I"] ++ wsX10)
def wsX1_countPages : List Cond := .code yX1_countPages cX1_countPages 2 none :: ([.fieldLink RX1 23 "PrintQueue$Part" "pagesOfCopy" "I", .fieldLink RX1 7 "PrintQueue$Part" "job" "LPrintQueue$Job;", .fieldLink RX1 26 "PrintQueue$Job" "pages" "I", .fieldLink RX1 20 "PrintQueue$Part" "wholeCopies" "I"] ++ wsX10 ++ wsX00)
def wsX2_init : List Cond := .code yX2_init cX2_init 4 none :: ([.methodLink RX2 3 objectInit, .instanceMethod objectInit, .code objectInit ⟨#[0xb1]⟩ 1 none, .fieldLink RX2 9 "PrintQueue$Printer" "number" "I", .fieldLink RX2 15 "PrintQueue$Printer" "media" "I", .fieldLink RX2 18 "PrintQueue$Printer" "sides" "I"] ++ wsX20)
def wsX2_fits : List Cond := .code yX2_fits cX2_fits 2 (some .boolean) :: ([.fieldLink RX2 18 "PrintQueue$Printer" "sides" "I", .fieldLink RX2 21 "PrintQueue$Part" "job" "LPrintQueue$Job;", .fieldLink RX2 27 "PrintQueue$Job" "ticket" "LPrintQueue$Ticket;", .fieldLink RX2 33 "PrintQueue$Ticket" "sides" "I", .fieldLink RX2 36 "PrintQueue$Part" "onlyPrinter" "I", .fieldLink RX2 9 "PrintQueue$Printer" "number" "I"] ++ wsX20 ++ wsX10 ++ wsX00 ++ wsX30)
def wsX3_init : List Cond := .code yX3_init cX3_init 3 none :: ([.methodLink RX3 1 objectInit, .instanceMethod objectInit, .code objectInit ⟨#[0xb1]⟩ 1 none, .fieldLink RX3 7 "PrintQueue$Ticket" "media" "I", .fieldLink RX3 13 "PrintQueue$Ticket" "sides" "I"] ++ wsX30)
def wsX4_init : List Cond := .code yX4_init cX4_init 1 none :: ([.methodLink RX4 1 objectInit, .instanceMethod objectInit, .code objectInit ⟨#[0xb1]⟩ 1 none, .classLink RX4 9 RX2, .fieldLink RX4 11 "PrintQueue" "printers" "[LPrintQueue$Printer;", .classLink RX4 15 RX3, .fieldLink RX4 17 "PrintQueue" "tickets" "[LPrintQueue$Ticket;", .classLink RX4 21 RX0, .fieldLink RX4 23 "PrintQueue" "jobs" "[LPrintQueue$Job;", .arrayClass .int, .fieldLink RX4 27 "PrintQueue" "doubledJobs" "[I", .fieldLink RX4 31 "PrintQueue" "doubledPages" "[I", .fieldLink RX4 34 "PrintQueue" "bound" "I"] ++ wsX40)
def wsX4_isWithin : List Cond := .code yX4_isWithin cX4_isWithin 3 (some .boolean) :: ([])
def wsX4_printer : List Cond := .code yX4_printer cX4_printer 3 (some .int) :: ([.classLink RX4 42 "java/lang/IllegalArgumentException", .initialized "java/lang/IllegalArgumentException", .classLink RX4 48 "java/lang/UnsupportedOperationException", .initialized "java/lang/UnsupportedOperationException", .fieldLink RX4 45 "PrintQueue" "printerCount" "I", .fieldLink RX4 11 "PrintQueue" "printers" "[LPrintQueue$Printer;", .classLink RX4 9 RX2, .instantiable RX2 6, .initialized RX2, .methodLink RX4 38 yX4_isWithin, .static yX4_isWithin, .initialized RX4, .code yX4_isWithin cX4_isWithin 3 (some .boolean), .methodLink RX4 51 yX2_init, .instanceMethod yX2_init, .code yX2_init cX2_init 4 none, .methodLink RX2 3 objectInit, .instanceMethod objectInit, .code objectInit ⟨#[0xb1]⟩ 1 none, .fieldLink RX2 9 "PrintQueue$Printer" "number" "I", .fieldLink RX2 15 "PrintQueue$Printer" "media" "I", .fieldLink RX2 18 "PrintQueue$Printer" "sides" "I"] ++ wsX40 ++ wsX20 ++ (vx_at0 RX4 44 "java/lang/IllegalArgumentException" ["java/lang/RuntimeException", "java/lang/Exception"]).filter goodWord ++ (vx_at0 RX4 50 "java/lang/UnsupportedOperationException" ["java/lang/RuntimeException", "java/lang/Exception"]).filter goodWord)
def wsX4_ticket : List Cond := .code yX4_ticket cX4_ticket 4 (some .int) :: ([.classLink RX4 42 "java/lang/IllegalArgumentException", .initialized "java/lang/IllegalArgumentException", .classLink RX4 48 "java/lang/UnsupportedOperationException", .initialized "java/lang/UnsupportedOperationException", .fieldLink RX4 54 "PrintQueue" "ticketCount" "I", .fieldLink RX4 17 "PrintQueue" "tickets" "[LPrintQueue$Ticket;", .classLink RX4 15 RX3, .instantiable RX3 6, .initialized RX3, .methodLink RX4 38 yX4_isWithin, .static yX4_isWithin, .initialized RX4, .code yX4_isWithin cX4_isWithin 3 (some .boolean), .methodLink RX4 57 yX3_init, .instanceMethod yX3_init, .code yX3_init cX3_init 3 none, .methodLink RX3 1 objectInit, .instanceMethod objectInit, .code objectInit ⟨#[0xb1]⟩ 1 none, .fieldLink RX3 7 "PrintQueue$Ticket" "media" "I", .fieldLink RX3 13 "PrintQueue$Ticket" "sides" "I"] ++ wsX40 ++ wsX30 ++ (vx_at0 RX4 44 "java/lang/IllegalArgumentException" ["java/lang/RuntimeException", "java/lang/Exception"]).filter goodWord ++ (vx_at0 RX4 50 "java/lang/UnsupportedOperationException" ["java/lang/RuntimeException", "java/lang/Exception"]).filter goodWord)
def wsX4_findTicket : List Cond := .code yX4_findTicket cX4_findTicket 3 (some (.object "PrintQueue$Ticket")) :: ([.classLink RX4 197 "java/util/NoSuchElementException", .initialized "java/util/NoSuchElementException", .fieldLink RX4 17 "PrintQueue" "tickets" "[LPrintQueue$Ticket;", .methodLink RX4 38 yX4_isWithin, .static yX4_isWithin, .initialized RX4, .code yX4_isWithin cX4_isWithin 3 (some .boolean)] ++ wsX40 ++ (vx_at0 RX4 199 "java/util/NoSuchElementException" ["java/lang/RuntimeException", "java/lang/Exception"]).filter goodWord)
def wsX4_job_r1 : List Cond := [Cond.classLink RX4 42 "java/lang/IllegalArgumentException", Cond.initialized "java/lang/IllegalArgumentException", Cond.classLink RX4 48 "java/lang/UnsupportedOperationException", Cond.initialized "java/lang/UnsupportedOperationException", Cond.fieldLink RX4 64 "PrintQueue" "jobCount" "I", Cond.fieldLink RX4 23 "PrintQueue" "jobs" "[LPrintQueue$Job;", Cond.classLink RX4 21 RX0, Cond.instantiable RX0 8, Cond.initialized RX0, Cond.classLink RX4 70 RX1, Cond.instantiable RX1 7, Cond.initialized RX1, Cond.fieldLink RX4 75 "PrintQueue$Job" "firstPart" "LPrintQueue$Part;", Cond.methodLink RX4 60 yX4_findTicket, Cond.instanceMethod yX4_findTicket, Cond.selects RX4 yX4_findTicket yX4_findTicket, Cond.initialized RX4, Cond.code yX4_findTicket cX4_findTicket 3 (some (.object "PrintQueue$Ticket")), Cond.classLink RX4 197 "java/util/NoSuchElementException", Cond.initialized "java/util/NoSuchElementException", Cond.fieldLink RX4 17 "PrintQueue" "tickets" "[LPrintQueue$Ticket;", Cond.methodLink RX4 38 yX4_isWithin, Cond.static yX4_isWithin, Cond.code yX4_isWithin cX4_isWithin 3 (some .boolean)]
def wsX4_job_r2 : List Cond := [Cond.methodLink RX4 67 yX0_init, Cond.instanceMethod yX0_init, Cond.code yX0_init cX0_init 7 none, Cond.methodLink RX0 3 objectInit, Cond.instanceMethod objectInit, Cond.code objectInit ⟨#[0xb1]⟩ 1 none, Cond.fieldLink RX0 9 "PrintQueue$Job" "number" "I", Cond.fieldLink RX0 15 "PrintQueue$Job" "ticket" "LPrintQueue$Ticket;", Cond.fieldLink RX0 19 "PrintQueue$Job" "pages" "I", Cond.fieldLink RX0 22 "PrintQueue$Job" "rank" "I", Cond.fieldLink RX0 25 "PrintQueue$Job" "time" "J", Cond.methodLink RX4 72 yX1_init, Cond.instanceMethod yX1_init, Cond.code yX1_init cX1_init 4 none, Cond.methodLink RX1 1 objectInit, Cond.fieldLink RX1 7 "PrintQueue$Part" "job" "LPrintQueue$Job;", Cond.fieldLink RX1 13 "PrintQueue$Part" "onlyPrinter" "I", Cond.fieldLink RX1 17 "PrintQueue$Part" "copies" "I"]
def wsX4_job : List Cond := .code yX4_job cX4_job 9 (some .int) :: ((wsX4_job_r1 ++ wsX4_job_r2) ++ wsX40 ++ wsX00 ++ wsX10 ++ (vx_at0 RX4 44 "java/lang/IllegalArgumentException" ["java/lang/RuntimeException", "java/lang/Exception"]).filter goodWord ++ (vx_at0 RX4 50 "java/lang/UnsupportedOperationException" ["java/lang/RuntimeException", "java/lang/Exception"]).filter goodWord ++ (vx_at0 RX4 199 "java/util/NoSuchElementException" ["java/lang/RuntimeException", "java/lang/Exception"]).filter goodWord)
def wsX4_findPrinter : List Cond := .code yX4_findPrinter cX4_findPrinter 3 (some (.object "PrintQueue$Printer")) :: ([.classLink RX4 197 "java/util/NoSuchElementException", .initialized "java/util/NoSuchElementException", .fieldLink RX4 11 "PrintQueue" "printers" "[LPrintQueue$Printer;", .methodLink RX4 38 yX4_isWithin, .static yX4_isWithin, .initialized RX4, .code yX4_isWithin cX4_isWithin 3 (some .boolean)] ++ wsX40 ++ (vx_at0 RX4 199 "java/util/NoSuchElementException" ["java/lang/RuntimeException", "java/lang/Exception"]).filter goodWord)
def wsX4_firstPartFor : List Cond := .code yX4_firstPartFor cX4_firstPartFor 3 (some (.object "PrintQueue$Part")) :: ([.fieldLink RX4 75 "PrintQueue$Job" "firstPart" "LPrintQueue$Part;", .fieldLink RX4 119 "PrintQueue$Part" "stage" "I", .fieldLink RX4 141 "PrintQueue$Part" "next" "LPrintQueue$Part;", .methodLink RX4 208 yX2_fits, .instanceMethod yX2_fits, .selects RX2 yX2_fits yX2_fits, .initialized RX2, .code yX2_fits cX2_fits 2 (some .boolean), .fieldLink RX2 18 "PrintQueue$Printer" "sides" "I", .fieldLink RX2 21 "PrintQueue$Part" "job" "LPrintQueue$Job;", .fieldLink RX2 27 "PrintQueue$Job" "ticket" "LPrintQueue$Ticket;", .fieldLink RX2 33 "PrintQueue$Ticket" "sides" "I", .fieldLink RX2 36 "PrintQueue$Part" "onlyPrinter" "I", .fieldLink RX2 9 "PrintQueue$Printer" "number" "I"] ++ wsX00 ++ wsX10 ++ wsX20 ++ wsX30)
def wsX4_goesBefore : List Cond := .code yX4_goesBefore cX4_goesBefore 6 (some .boolean) :: ([.fieldLink RX4 212 "PrintQueue$Job" "rank" "I", .fieldLink RX4 215 "PrintQueue$Job" "ticket" "LPrintQueue$Ticket;", .fieldLink RX4 219 "PrintQueue$Ticket" "media" "I", .fieldLink RX4 222 "PrintQueue$Printer" "media" "I", .fieldLink RX4 223 "PrintQueue$Printer" "likeNumber" "I", .fieldLink RX4 34 "PrintQueue" "bound" "I", .fieldLink RX4 185 "PrintQueue$Job" "time" "J"] ++ wsX00 ++ wsX30 ++ wsX20 ++ wsX40)
def wsX4_choosePart_r1 : List Cond := [Cond.fieldLink RX4 23 "PrintQueue" "jobs" "[LPrintQueue$Job;", Cond.fieldLink RX4 133 "PrintQueue$Job" "held" "Z", Cond.fieldLink RX4 185 "PrintQueue$Job" "time" "J", Cond.fieldLink RX4 83 "PrintQueue" "now" "J", Cond.fieldLink RX4 101 "PrintQueue$Part" "job" "LPrintQueue$Job;", Cond.methodLink RX4 200 yX4_firstPartFor, Cond.static yX4_firstPartFor, Cond.initialized RX4, Cond.code yX4_firstPartFor cX4_firstPartFor 3 (some (.object "PrintQueue$Part")), Cond.fieldLink RX4 75 "PrintQueue$Job" "firstPart" "LPrintQueue$Part;", Cond.fieldLink RX4 119 "PrintQueue$Part" "stage" "I", Cond.fieldLink RX4 141 "PrintQueue$Part" "next" "LPrintQueue$Part;", Cond.methodLink RX4 208 yX2_fits, Cond.instanceMethod yX2_fits, Cond.selects RX2 yX2_fits yX2_fits, Cond.initialized RX2, Cond.code yX2_fits cX2_fits 2 (some .boolean), Cond.fieldLink RX2 18 "PrintQueue$Printer" "sides" "I", Cond.fieldLink RX2 21 "PrintQueue$Part" "job" "LPrintQueue$Job;", Cond.fieldLink RX2 27 "PrintQueue$Job" "ticket" "LPrintQueue$Ticket;", Cond.fieldLink RX2 33 "PrintQueue$Ticket" "sides" "I", Cond.fieldLink RX2 36 "PrintQueue$Part" "onlyPrinter" "I", Cond.fieldLink RX2 9 "PrintQueue$Printer" "number" "I", Cond.methodLink RX4 204 yX4_goesBefore]
def wsX4_choosePart_r2 : List Cond := [Cond.instanceMethod yX4_goesBefore, Cond.selects RX4 yX4_goesBefore yX4_goesBefore, Cond.code yX4_goesBefore cX4_goesBefore 6 (some .boolean), Cond.fieldLink RX4 212 "PrintQueue$Job" "rank" "I", Cond.fieldLink RX4 215 "PrintQueue$Job" "ticket" "LPrintQueue$Ticket;", Cond.fieldLink RX4 219 "PrintQueue$Ticket" "media" "I", Cond.fieldLink RX4 222 "PrintQueue$Printer" "media" "I", Cond.fieldLink RX4 223 "PrintQueue$Printer" "likeNumber" "I", Cond.fieldLink RX4 34 "PrintQueue" "bound" "I"]
def wsX4_choosePart : List Cond := .code yX4_choosePart cX4_choosePart 8 (some (.object "PrintQueue$Part")) :: ((wsX4_choosePart_r1 ++ wsX4_choosePart_r2) ++ wsX40 ++ wsX00 ++ wsX10 ++ wsX20 ++ wsX30)
def wsX4_bringTo : List Cond := .code yX4_bringTo cX4_bringTo 3 none :: ([.fieldLink RX4 101 "PrintQueue$Part" "job" "LPrintQueue$Job;", .fieldLink RX4 215 "PrintQueue$Job" "ticket" "LPrintQueue$Ticket;", .fieldLink RX4 219 "PrintQueue$Ticket" "media" "I", .fieldLink RX4 222 "PrintQueue$Printer" "media" "I", .fieldLink RX4 223 "PrintQueue$Printer" "likeNumber" "I", .fieldLink RX4 175 "PrintQueue$Ticket" "changes" "J", .fieldLink RX4 119 "PrintQueue$Part" "stage" "I", .fieldLink RX4 87 "PrintQueue$Printer" "part" "LPrintQueue$Part;", .fieldLink RX4 226 "PrintQueue$Printer" "sheetIsDue" "Z"] ++ wsX10 ++ wsX00 ++ wsX30 ++ wsX20)
def wsX4_take_r1 : List Cond := [Cond.classLink RX4 42 "java/lang/IllegalArgumentException", Cond.initialized "java/lang/IllegalArgumentException", Cond.classLink RX4 90 "java/lang/IllegalStateException", Cond.initialized "java/lang/IllegalStateException", Cond.fieldLink RX4 83 "PrintQueue" "now" "J", Cond.fieldLink RX4 87 "PrintQueue$Printer" "part" "LPrintQueue$Part;", Cond.fieldLink RX4 101 "PrintQueue$Part" "job" "LPrintQueue$Job;", Cond.fieldLink RX4 105 "PrintQueue$Job" "number" "I", Cond.methodLink RX4 79 yX4_findPrinter, Cond.instanceMethod yX4_findPrinter, Cond.selects RX4 yX4_findPrinter yX4_findPrinter, Cond.initialized RX4, Cond.code yX4_findPrinter cX4_findPrinter 3 (some (.object "PrintQueue$Printer")), Cond.classLink RX4 197 "java/util/NoSuchElementException", Cond.initialized "java/util/NoSuchElementException", Cond.fieldLink RX4 11 "PrintQueue" "printers" "[LPrintQueue$Printer;", Cond.methodLink RX4 38 yX4_isWithin, Cond.static yX4_isWithin, Cond.code yX4_isWithin cX4_isWithin 3 (some .boolean), Cond.methodLink RX4 93 yX4_choosePart, Cond.instanceMethod yX4_choosePart, Cond.selects RX4 yX4_choosePart yX4_choosePart, Cond.code yX4_choosePart cX4_choosePart 8 (some (.object "PrintQueue$Part")), Cond.fieldLink RX4 23 "PrintQueue" "jobs" "[LPrintQueue$Job;"]
def wsX4_take_r2 : List Cond := [Cond.fieldLink RX4 133 "PrintQueue$Job" "held" "Z", Cond.fieldLink RX4 185 "PrintQueue$Job" "time" "J", Cond.methodLink RX4 200 yX4_firstPartFor, Cond.static yX4_firstPartFor, Cond.code yX4_firstPartFor cX4_firstPartFor 3 (some (.object "PrintQueue$Part")), Cond.fieldLink RX4 75 "PrintQueue$Job" "firstPart" "LPrintQueue$Part;", Cond.fieldLink RX4 119 "PrintQueue$Part" "stage" "I", Cond.fieldLink RX4 141 "PrintQueue$Part" "next" "LPrintQueue$Part;", Cond.methodLink RX4 208 yX2_fits, Cond.instanceMethod yX2_fits, Cond.selects RX2 yX2_fits yX2_fits, Cond.initialized RX2, Cond.code yX2_fits cX2_fits 2 (some .boolean), Cond.fieldLink RX2 18 "PrintQueue$Printer" "sides" "I", Cond.fieldLink RX2 21 "PrintQueue$Part" "job" "LPrintQueue$Job;", Cond.fieldLink RX2 27 "PrintQueue$Job" "ticket" "LPrintQueue$Ticket;", Cond.fieldLink RX2 33 "PrintQueue$Ticket" "sides" "I", Cond.fieldLink RX2 36 "PrintQueue$Part" "onlyPrinter" "I", Cond.fieldLink RX2 9 "PrintQueue$Printer" "number" "I", Cond.methodLink RX4 204 yX4_goesBefore, Cond.instanceMethod yX4_goesBefore, Cond.selects RX4 yX4_goesBefore yX4_goesBefore, Cond.code yX4_goesBefore cX4_goesBefore 6 (some .boolean), Cond.fieldLink RX4 212 "PrintQueue$Job" "rank" "I"]
def wsX4_take_r3 : List Cond := [Cond.fieldLink RX4 215 "PrintQueue$Job" "ticket" "LPrintQueue$Ticket;", Cond.fieldLink RX4 219 "PrintQueue$Ticket" "media" "I", Cond.fieldLink RX4 222 "PrintQueue$Printer" "media" "I", Cond.fieldLink RX4 223 "PrintQueue$Printer" "likeNumber" "I", Cond.fieldLink RX4 34 "PrintQueue" "bound" "I", Cond.methodLink RX4 97 yX4_bringTo, Cond.static yX4_bringTo, Cond.code yX4_bringTo cX4_bringTo 3 none, Cond.fieldLink RX4 175 "PrintQueue$Ticket" "changes" "J", Cond.fieldLink RX4 226 "PrintQueue$Printer" "sheetIsDue" "Z"]
def wsX4_take : List Cond := .code yX4_take cX4_take 6 (some .int) :: ((wsX4_take_r1 ++ (wsX4_take_r2 ++ wsX4_take_r3)) ++ wsX40 ++ wsX20 ++ wsX10 ++ wsX00 ++ wsX30 ++ (vx_at0 RX4 44 "java/lang/IllegalArgumentException" ["java/lang/RuntimeException", "java/lang/Exception"]).filter goodWord ++ (vx_at0 RX4 92 "java/lang/IllegalStateException" ["java/lang/RuntimeException", "java/lang/Exception"]).filter goodWord ++ (vx_at0 RX4 199 "java/util/NoSuchElementException" ["java/lang/RuntimeException", "java/lang/Exception"]).filter goodWord)
def wsX4_sheetsOfTwoSides : List Cond := .code yX4_sheetsOfTwoSides cX4_sheetsOfTwoSides 5 (some .int) :: ([])
def wsX4_printInCopy_r1 : List Cond := [Cond.fieldLink RX4 122 "PrintQueue$Part" "pagesOfCopy" "I", Cond.fieldLink RX4 101 "PrintQueue$Part" "job" "LPrintQueue$Job;", Cond.fieldLink RX4 229 "PrintQueue$Job" "pages" "I", Cond.methodLink RX4 232 Lib.Math.min.name, Cond.static Lib.Math.min.name, Cond.initialized "java/lang/Math", Cond.code Lib.Math.min.name Lib.Math.min.code 2 (some .int), Cond.fieldLink RX4 215 "PrintQueue$Job" "ticket" "LPrintQueue$Ticket;", Cond.fieldLink RX4 169 "PrintQueue$Ticket" "pagesOut" "J", Cond.fieldLink RX4 172 "PrintQueue$Ticket" "sheets" "J", Cond.fieldLink RX4 238 "PrintQueue$Ticket" "sides" "I", Cond.fieldLink RX4 226 "PrintQueue$Printer" "sheetIsDue" "Z", Cond.methodLink RX4 241 yX4_sheetsOfTwoSides, Cond.static yX4_sheetsOfTwoSides, Cond.initialized RX4, Cond.code yX4_sheetsOfTwoSides cX4_sheetsOfTwoSides 5 (some .int), Cond.methodLink RX4 245 yX1_countPages, Cond.instanceMethod yX1_countPages, Cond.selects RX1 yX1_countPages yX1_countPages, Cond.initialized RX1, Cond.code yX1_countPages cX1_countPages 2 none, Cond.fieldLink RX1 23 "PrintQueue$Part" "pagesOfCopy" "I", Cond.fieldLink RX1 7 "PrintQueue$Part" "job" "LPrintQueue$Job;", Cond.fieldLink RX1 26 "PrintQueue$Job" "pages" "I"]
def wsX4_printInCopy_r2 : List Cond := [Cond.fieldLink RX1 20 "PrintQueue$Part" "wholeCopies" "I"]
def wsX4_printInCopy : List Cond := .code yX4_printInCopy cX4_printInCopy 6 (some .int) :: ((wsX4_printInCopy_r1 ++ wsX4_printInCopy_r2) ++ wsX10 ++ wsX00 ++ wsX30 ++ wsX20)
def wsX4_print_r1 : List Cond := [Cond.classLink RX4 42 "java/lang/IllegalArgumentException", Cond.initialized "java/lang/IllegalArgumentException", Cond.constant RX4 108 (50000), Cond.fieldLink RX4 87 "PrintQueue$Printer" "part" "LPrintQueue$Part;", Cond.fieldLink RX4 109 "PrintQueue$Part" "wholeCopies" "I", Cond.fieldLink RX4 112 "PrintQueue$Part" "copies" "I", Cond.fieldLink RX4 119 "PrintQueue$Part" "stage" "I", Cond.methodLink RX4 79 yX4_findPrinter, Cond.instanceMethod yX4_findPrinter, Cond.selects RX4 yX4_findPrinter yX4_findPrinter, Cond.initialized RX4, Cond.code yX4_findPrinter cX4_findPrinter 3 (some (.object "PrintQueue$Printer")), Cond.classLink RX4 197 "java/util/NoSuchElementException", Cond.initialized "java/util/NoSuchElementException", Cond.fieldLink RX4 11 "PrintQueue" "printers" "[LPrintQueue$Printer;", Cond.methodLink RX4 38 yX4_isWithin, Cond.static yX4_isWithin, Cond.code yX4_isWithin cX4_isWithin 3 (some .boolean), Cond.methodLink RX4 115 yX4_printInCopy, Cond.static yX4_printInCopy, Cond.code yX4_printInCopy cX4_printInCopy 6 (some .int), Cond.fieldLink RX4 122 "PrintQueue$Part" "pagesOfCopy" "I", Cond.fieldLink RX4 101 "PrintQueue$Part" "job" "LPrintQueue$Job;", Cond.fieldLink RX4 229 "PrintQueue$Job" "pages" "I"]
def wsX4_print_r2 : List Cond := [Cond.methodLink RX4 232 Lib.Math.min.name, Cond.static Lib.Math.min.name, Cond.initialized "java/lang/Math", Cond.code Lib.Math.min.name Lib.Math.min.code 2 (some .int), Cond.fieldLink RX4 215 "PrintQueue$Job" "ticket" "LPrintQueue$Ticket;", Cond.fieldLink RX4 169 "PrintQueue$Ticket" "pagesOut" "J", Cond.fieldLink RX4 172 "PrintQueue$Ticket" "sheets" "J", Cond.fieldLink RX4 238 "PrintQueue$Ticket" "sides" "I", Cond.fieldLink RX4 226 "PrintQueue$Printer" "sheetIsDue" "Z", Cond.methodLink RX4 241 yX4_sheetsOfTwoSides, Cond.static yX4_sheetsOfTwoSides, Cond.code yX4_sheetsOfTwoSides cX4_sheetsOfTwoSides 5 (some .int), Cond.methodLink RX4 245 yX1_countPages, Cond.instanceMethod yX1_countPages, Cond.selects RX1 yX1_countPages yX1_countPages, Cond.initialized RX1, Cond.code yX1_countPages cX1_countPages 2 none, Cond.fieldLink RX1 23 "PrintQueue$Part" "pagesOfCopy" "I", Cond.fieldLink RX1 7 "PrintQueue$Part" "job" "LPrintQueue$Job;", Cond.fieldLink RX1 26 "PrintQueue$Job" "pages" "I", Cond.fieldLink RX1 20 "PrintQueue$Part" "wholeCopies" "I"]
def wsX4_print : List Cond := .code yX4_print cX4_print 7 (some .int) :: ((wsX4_print_r1 ++ wsX4_print_r2) ++ wsX20 ++ wsX10 ++ wsX40 ++ wsX00 ++ wsX30 ++ (vx_at0 RX4 44 "java/lang/IllegalArgumentException" ["java/lang/RuntimeException", "java/lang/Exception"]).filter goodWord ++ (vx_at0 RX4 199 "java/util/NoSuchElementException" ["java/lang/RuntimeException", "java/lang/Exception"]).filter goodWord)
def wsX4_doubleLastPage : List Cond := .code yX4_doubleLastPage cX4_doubleLastPage 2 none :: ([.fieldLink RX4 166 "PrintQueue" "doubledCount" "I", .fieldLink RX4 27 "PrintQueue" "doubledJobs" "[I", .fieldLink RX4 101 "PrintQueue$Part" "job" "LPrintQueue$Job;", .fieldLink RX4 105 "PrintQueue$Job" "number" "I", .fieldLink RX4 31 "PrintQueue" "doubledPages" "[I", .fieldLink RX4 109 "PrintQueue$Part" "wholeCopies" "I", .fieldLink RX4 122 "PrintQueue$Part" "pagesOfCopy" "I", .fieldLink RX4 215 "PrintQueue$Job" "ticket" "LPrintQueue$Ticket;", .fieldLink RX4 178 "PrintQueue$Ticket" "pagesDoubled" "J"] ++ wsX40 ++ wsX10 ++ wsX00 ++ wsX30)
def wsX4_fault_r1 : List Cond := [Cond.fieldLink RX4 87 "PrintQueue$Printer" "part" "LPrintQueue$Part;", Cond.fieldLink RX4 119 "PrintQueue$Part" "stage" "I", Cond.fieldLink RX4 122 "PrintQueue$Part" "pagesOfCopy" "I", Cond.methodLink RX4 79 yX4_findPrinter, Cond.instanceMethod yX4_findPrinter, Cond.selects RX4 yX4_findPrinter yX4_findPrinter, Cond.initialized RX4, Cond.code yX4_findPrinter cX4_findPrinter 3 (some (.object "PrintQueue$Printer")), Cond.classLink RX4 197 "java/util/NoSuchElementException", Cond.initialized "java/util/NoSuchElementException", Cond.fieldLink RX4 11 "PrintQueue" "printers" "[LPrintQueue$Printer;", Cond.methodLink RX4 38 yX4_isWithin, Cond.static yX4_isWithin, Cond.code yX4_isWithin cX4_isWithin 3 (some .boolean), Cond.methodLink RX4 125 yX4_doubleLastPage, Cond.instanceMethod yX4_doubleLastPage, Cond.selects RX4 yX4_doubleLastPage yX4_doubleLastPage, Cond.code yX4_doubleLastPage cX4_doubleLastPage 2 none, Cond.fieldLink RX4 166 "PrintQueue" "doubledCount" "I", Cond.fieldLink RX4 27 "PrintQueue" "doubledJobs" "[I", Cond.fieldLink RX4 101 "PrintQueue$Part" "job" "LPrintQueue$Job;", Cond.fieldLink RX4 105 "PrintQueue$Job" "number" "I", Cond.fieldLink RX4 31 "PrintQueue" "doubledPages" "[I", Cond.fieldLink RX4 109 "PrintQueue$Part" "wholeCopies" "I"]
def wsX4_fault_r2 : List Cond := [Cond.fieldLink RX4 215 "PrintQueue$Job" "ticket" "LPrintQueue$Ticket;", Cond.fieldLink RX4 178 "PrintQueue$Ticket" "pagesDoubled" "J"]
def wsX4_fault : List Cond := .code yX4_fault cX4_fault 4 (some .int) :: ((wsX4_fault_r1 ++ wsX4_fault_r2) ++ wsX20 ++ wsX10 ++ wsX40 ++ wsX00 ++ wsX30 ++ (vx_at0 RX4 199 "java/util/NoSuchElementException" ["java/lang/RuntimeException", "java/lang/Exception"]).filter goodWord)
def wsX4_findJob : List Cond := .code yX4_findJob cX4_findJob 3 (some (.object "PrintQueue$Job")) :: ([.classLink RX4 197 "java/util/NoSuchElementException", .initialized "java/util/NoSuchElementException", .fieldLink RX4 23 "PrintQueue" "jobs" "[LPrintQueue$Job;", .methodLink RX4 38 yX4_isWithin, .static yX4_isWithin, .initialized RX4, .code yX4_isWithin cX4_isWithin 3 (some .boolean)] ++ wsX40 ++ (vx_at0 RX4 199 "java/util/NoSuchElementException" ["java/lang/RuntimeException", "java/lang/Exception"]).filter goodWord)
def wsX4_asNumber : List Cond := .code yX4_asNumber cX4_asNumber 1 (some .int) :: ([])
def wsX4_hold : List Cond := .code yX4_hold cX4_hold 5 (some .int) :: ([.fieldLink RX4 133 "PrintQueue$Job" "held" "Z", .methodLink RX4 129 yX4_findJob, .instanceMethod yX4_findJob, .selects RX4 yX4_findJob yX4_findJob, .initialized RX4, .code yX4_findJob cX4_findJob 3 (some (.object "PrintQueue$Job")), .classLink RX4 197 "java/util/NoSuchElementException", .initialized "java/util/NoSuchElementException", .fieldLink RX4 23 "PrintQueue" "jobs" "[LPrintQueue$Job;", .methodLink RX4 38 yX4_isWithin, .static yX4_isWithin, .code yX4_isWithin cX4_isWithin 3 (some .boolean), .methodLink RX4 137 yX4_asNumber, .static yX4_asNumber, .code yX4_asNumber cX4_asNumber 1 (some .int)] ++ wsX00 ++ wsX40 ++ (vx_at0 RX4 199 "java/util/NoSuchElementException" ["java/lang/RuntimeException", "java/lang/Exception"]).filter goodWord)
def wsX4_emptyPrintersOf : List Cond := .code yX4_emptyPrintersOf cX4_emptyPrintersOf 6 none :: ([.fieldLink RX4 11 "PrintQueue" "printers" "[LPrintQueue$Printer;", .fieldLink RX4 87 "PrintQueue$Printer" "part" "LPrintQueue$Part;", .fieldLink RX4 101 "PrintQueue$Part" "job" "LPrintQueue$Job;"] ++ wsX40 ++ wsX20 ++ wsX10)
def wsX4_cancel : List Cond := .code yX4_cancel cX4_cancel 5 (some .int) :: ([.fieldLink RX4 75 "PrintQueue$Job" "firstPart" "LPrintQueue$Part;", .fieldLink RX4 119 "PrintQueue$Part" "stage" "I", .fieldLink RX4 141 "PrintQueue$Part" "next" "LPrintQueue$Part;", .fieldLink RX4 144 "PrintQueue$Job" "cancelled" "Z", .methodLink RX4 129 yX4_findJob, .instanceMethod yX4_findJob, .selects RX4 yX4_findJob yX4_findJob, .initialized RX4, .code yX4_findJob cX4_findJob 3 (some (.object "PrintQueue$Job")), .classLink RX4 197 "java/util/NoSuchElementException", .initialized "java/util/NoSuchElementException", .fieldLink RX4 23 "PrintQueue" "jobs" "[LPrintQueue$Job;", .methodLink RX4 38 yX4_isWithin, .static yX4_isWithin, .code yX4_isWithin cX4_isWithin 3 (some .boolean), .methodLink RX4 147 yX4_emptyPrintersOf, .instanceMethod yX4_emptyPrintersOf, .selects RX4 yX4_emptyPrintersOf yX4_emptyPrintersOf, .code yX4_emptyPrintersOf cX4_emptyPrintersOf 6 none, .fieldLink RX4 11 "PrintQueue" "printers" "[LPrintQueue$Printer;", .fieldLink RX4 87 "PrintQueue$Printer" "part" "LPrintQueue$Part;", .fieldLink RX4 101 "PrintQueue$Part" "job" "LPrintQueue$Job;"] ++ wsX00 ++ wsX10 ++ wsX40 ++ wsX20 ++ (vx_at0 RX4 199 "java/util/NoSuchElementException" ["java/lang/RuntimeException", "java/lang/Exception"]).filter goodWord)
def wsX4_state_r1 : List Cond := [Cond.classLink RX4 163 "java/lang/IndexOutOfBoundsException", Cond.initialized "java/lang/IndexOutOfBoundsException", Cond.fieldLink RX4 133 "PrintQueue$Job" "held" "Z", Cond.methodLink RX4 129 yX4_findJob, Cond.instanceMethod yX4_findJob, Cond.selects RX4 yX4_findJob yX4_findJob, Cond.initialized RX4, Cond.code yX4_findJob cX4_findJob 3 (some (.object "PrintQueue$Job")), Cond.classLink RX4 197 "java/util/NoSuchElementException", Cond.initialized "java/util/NoSuchElementException", Cond.fieldLink RX4 23 "PrintQueue" "jobs" "[LPrintQueue$Job;", Cond.methodLink RX4 38 yX4_isWithin, Cond.static yX4_isWithin, Cond.code yX4_isWithin cX4_isWithin 3 (some .boolean), Cond.methodLink RX4 151 yX0_condition, Cond.instanceMethod yX0_condition, Cond.selects RX0 yX0_condition yX0_condition, Cond.initialized RX0, Cond.code yX0_condition cX0_condition 1 (some .int), Cond.fieldLink RX0 47 "PrintQueue$Job" "cancelled" "Z", Cond.methodLink RX0 51 yX0_hasPartThat, Cond.instanceMethod yX0_hasPartThat, Cond.selects RX0 yX0_hasPartThat yX0_hasPartThat, Cond.code yX0_hasPartThat cX0_hasPartThat 3 (some .boolean)]
def wsX4_state_r2 : List Cond := [Cond.fieldLink RX0 29 "PrintQueue$Job" "firstPart" "LPrintQueue$Part;", Cond.fieldLink RX0 33 "PrintQueue$Part" "stage" "I", Cond.fieldLink RX0 38 "PrintQueue$Part" "next" "LPrintQueue$Part;", Cond.methodLink RX4 155 yX0_pagesThatCount, Cond.instanceMethod yX0_pagesThatCount, Cond.selects RX0 yX0_pagesThatCount yX0_pagesThatCount, Cond.code yX0_pagesThatCount cX0_pagesThatCount 3 (some .int), Cond.fieldLink RX0 41 "PrintQueue$Part" "wholeCopies" "I", Cond.fieldLink RX0 19 "PrintQueue$Job" "pages" "I", Cond.fieldLink RX0 44 "PrintQueue$Part" "pagesOfCopy" "I", Cond.methodLink RX4 158 yX0_wholeCopies, Cond.instanceMethod yX0_wholeCopies, Cond.selects RX0 yX0_wholeCopies yX0_wholeCopies, Cond.code yX0_wholeCopies cX0_wholeCopies 3 (some .int), Cond.methodLink RX4 160 yX0_partsHad, Cond.instanceMethod yX0_partsHad, Cond.selects RX0 yX0_partsHad yX0_partsHad, Cond.code yX0_partsHad cX0_partsHad 3 (some .int), Cond.methodLink RX4 137 yX4_asNumber, Cond.static yX4_asNumber, Cond.code yX4_asNumber cX4_asNumber 1 (some .int)]
def wsX4_state : List Cond := .code yX4_state cX4_state 4 (some .int) :: ((wsX4_state_r1 ++ wsX4_state_r2) ++ wsX00 ++ wsX40 ++ wsX10 ++ (vx_at0 RX4 165 "java/lang/IndexOutOfBoundsException" ["java/lang/RuntimeException", "java/lang/Exception"]).filter goodWord ++ (vx_at0 RX4 199 "java/util/NoSuchElementException" ["java/lang/RuntimeException", "java/lang/Exception"]).filter goodWord)
def wsX4_doubled : List Cond := .code yX4_doubled cX4_doubled 6 (some .int) :: ([.classLink RX4 163 "java/lang/IndexOutOfBoundsException", .initialized "java/lang/IndexOutOfBoundsException", .fieldLink RX4 166 "PrintQueue" "doubledCount" "I", .fieldLink RX4 27 "PrintQueue" "doubledJobs" "[I", .fieldLink RX4 105 "PrintQueue$Job" "number" "I", .fieldLink RX4 31 "PrintQueue" "doubledPages" "[I", .methodLink RX4 129 yX4_findJob, .instanceMethod yX4_findJob, .selects RX4 yX4_findJob yX4_findJob, .initialized RX4, .code yX4_findJob cX4_findJob 3 (some (.object "PrintQueue$Job")), .classLink RX4 197 "java/util/NoSuchElementException", .initialized "java/util/NoSuchElementException", .fieldLink RX4 23 "PrintQueue" "jobs" "[LPrintQueue$Job;", .methodLink RX4 38 yX4_isWithin, .static yX4_isWithin, .code yX4_isWithin cX4_isWithin 3 (some .boolean)] ++ wsX40 ++ wsX00 ++ (vx_at0 RX4 165 "java/lang/IndexOutOfBoundsException" ["java/lang/RuntimeException", "java/lang/Exception"]).filter goodWord ++ (vx_at0 RX4 199 "java/util/NoSuchElementException" ["java/lang/RuntimeException", "java/lang/Exception"]).filter goodWord)
def wsX4_account : List Cond := .code yX4_account cX4_account 4 (some .long) :: ([.classLink RX4 163 "java/lang/IndexOutOfBoundsException", .initialized "java/lang/IndexOutOfBoundsException", .fieldLink RX4 169 "PrintQueue$Ticket" "pagesOut" "J", .fieldLink RX4 172 "PrintQueue$Ticket" "sheets" "J", .fieldLink RX4 175 "PrintQueue$Ticket" "changes" "J", .fieldLink RX4 178 "PrintQueue$Ticket" "pagesDoubled" "J", .methodLink RX4 60 yX4_findTicket, .instanceMethod yX4_findTicket, .selects RX4 yX4_findTicket yX4_findTicket, .initialized RX4, .code yX4_findTicket cX4_findTicket 3 (some (.object "PrintQueue$Ticket")), .classLink RX4 197 "java/util/NoSuchElementException", .initialized "java/util/NoSuchElementException", .fieldLink RX4 17 "PrintQueue" "tickets" "[LPrintQueue$Ticket;", .methodLink RX4 38 yX4_isWithin, .static yX4_isWithin, .code yX4_isWithin cX4_isWithin 3 (some .boolean)] ++ wsX30 ++ wsX40 ++ (vx_at0 RX4 165 "java/lang/IndexOutOfBoundsException" ["java/lang/RuntimeException", "java/lang/Exception"]).filter goodWord ++ (vx_at0 RX4 199 "java/util/NoSuchElementException" ["java/lang/RuntimeException", "java/lang/Exception"]).filter goodWord)
def wsX4_reasonByPrinters : List Cond := .code yX4_reasonByPrinters cX4_reasonByPrinters 7 (some .int) :: ([.fieldLink RX4 11 "PrintQueue" "printers" "[LPrintQueue$Printer;", .fieldLink RX4 87 "PrintQueue$Printer" "part" "LPrintQueue$Part;", .methodLink RX4 200 yX4_firstPartFor, .static yX4_firstPartFor, .initialized RX4, .code yX4_firstPartFor cX4_firstPartFor 3 (some (.object "PrintQueue$Part")), .fieldLink RX4 75 "PrintQueue$Job" "firstPart" "LPrintQueue$Part;", .fieldLink RX4 119 "PrintQueue$Part" "stage" "I", .fieldLink RX4 141 "PrintQueue$Part" "next" "LPrintQueue$Part;", .methodLink RX4 208 yX2_fits, .instanceMethod yX2_fits, .selects RX2 yX2_fits yX2_fits, .initialized RX2, .code yX2_fits cX2_fits 2 (some .boolean), .fieldLink RX2 18 "PrintQueue$Printer" "sides" "I", .fieldLink RX2 21 "PrintQueue$Part" "job" "LPrintQueue$Job;", .fieldLink RX2 27 "PrintQueue$Job" "ticket" "LPrintQueue$Ticket;", .fieldLink RX2 33 "PrintQueue$Ticket" "sides" "I", .fieldLink RX2 36 "PrintQueue$Part" "onlyPrinter" "I", .fieldLink RX2 9 "PrintQueue$Printer" "number" "I"] ++ wsX40 ++ wsX20 ++ wsX00 ++ wsX10 ++ wsX30)
def wsX4_reason_r1 : List Cond := [Cond.fieldLink RX4 133 "PrintQueue$Job" "held" "Z", Cond.fieldLink RX4 185 "PrintQueue$Job" "time" "J", Cond.fieldLink RX4 83 "PrintQueue" "now" "J", Cond.methodLink RX4 129 yX4_findJob, Cond.instanceMethod yX4_findJob, Cond.selects RX4 yX4_findJob yX4_findJob, Cond.initialized RX4, Cond.code yX4_findJob cX4_findJob 3 (some (.object "PrintQueue$Job")), Cond.classLink RX4 197 "java/util/NoSuchElementException", Cond.initialized "java/util/NoSuchElementException", Cond.fieldLink RX4 23 "PrintQueue" "jobs" "[LPrintQueue$Job;", Cond.methodLink RX4 38 yX4_isWithin, Cond.static yX4_isWithin, Cond.code yX4_isWithin cX4_isWithin 3 (some .boolean), Cond.methodLink RX4 181 yX0_hasPartThat, Cond.instanceMethod yX0_hasPartThat, Cond.selects RX0 yX0_hasPartThat yX0_hasPartThat, Cond.initialized RX0, Cond.code yX0_hasPartThat cX0_hasPartThat 3 (some .boolean), Cond.fieldLink RX0 29 "PrintQueue$Job" "firstPart" "LPrintQueue$Part;", Cond.fieldLink RX0 33 "PrintQueue$Part" "stage" "I", Cond.fieldLink RX0 38 "PrintQueue$Part" "next" "LPrintQueue$Part;", Cond.methodLink RX4 188 yX4_reasonByPrinters, Cond.instanceMethod yX4_reasonByPrinters]
def wsX4_reason_r2 : List Cond := [Cond.selects RX4 yX4_reasonByPrinters yX4_reasonByPrinters, Cond.code yX4_reasonByPrinters cX4_reasonByPrinters 7 (some .int), Cond.fieldLink RX4 11 "PrintQueue" "printers" "[LPrintQueue$Printer;", Cond.fieldLink RX4 87 "PrintQueue$Printer" "part" "LPrintQueue$Part;", Cond.methodLink RX4 200 yX4_firstPartFor, Cond.static yX4_firstPartFor, Cond.code yX4_firstPartFor cX4_firstPartFor 3 (some (.object "PrintQueue$Part")), Cond.fieldLink RX4 75 "PrintQueue$Job" "firstPart" "LPrintQueue$Part;", Cond.fieldLink RX4 119 "PrintQueue$Part" "stage" "I", Cond.fieldLink RX4 141 "PrintQueue$Part" "next" "LPrintQueue$Part;", Cond.methodLink RX4 208 yX2_fits, Cond.instanceMethod yX2_fits, Cond.selects RX2 yX2_fits yX2_fits, Cond.initialized RX2, Cond.code yX2_fits cX2_fits 2 (some .boolean), Cond.fieldLink RX2 18 "PrintQueue$Printer" "sides" "I", Cond.fieldLink RX2 21 "PrintQueue$Part" "job" "LPrintQueue$Job;", Cond.fieldLink RX2 27 "PrintQueue$Job" "ticket" "LPrintQueue$Ticket;", Cond.fieldLink RX2 33 "PrintQueue$Ticket" "sides" "I", Cond.fieldLink RX2 36 "PrintQueue$Part" "onlyPrinter" "I", Cond.fieldLink RX2 9 "PrintQueue$Printer" "number" "I"]
def wsX4_reason : List Cond := .code yX4_reason cX4_reason 3 (some .int) :: ((wsX4_reason_r1 ++ wsX4_reason_r2) ++ wsX00 ++ wsX40 ++ wsX10 ++ wsX20 ++ wsX30 ++ (vx_at0 RX4 199 "java/util/NoSuchElementException" ["java/lang/RuntimeException", "java/lang/Exception"]).filter goodWord)
def wsX4_canLose : List Cond := .code yX4_canLose cX4_canLose 2 (some .boolean) :: ([.fieldLink RX4 119 "PrintQueue$Part" "stage" "I", .fieldLink RX4 249 "PrintQueue$Part" "onlyPrinter" "I", .methodLink RX4 252 yX1_untouchedCopies, .instanceMethod yX1_untouchedCopies, .selects RX1 yX1_untouchedCopies yX1_untouchedCopies, .initialized RX1, .code yX1_untouchedCopies cX1_untouchedCopies 1 (some .int), .fieldLink RX1 17 "PrintQueue$Part" "copies" "I", .fieldLink RX1 20 "PrintQueue$Part" "wholeCopies" "I", .fieldLink RX1 23 "PrintQueue$Part" "pagesOfCopy" "I"] ++ wsX10)
def wsX4_split_r1 : List Cond := [Cond.fieldLink RX4 75 "PrintQueue$Job" "firstPart" "LPrintQueue$Part;", Cond.fieldLink RX4 141 "PrintQueue$Part" "next" "LPrintQueue$Part;", Cond.fieldLink RX4 112 "PrintQueue$Part" "copies" "I", Cond.classLink RX4 70 RX1, Cond.instantiable RX1 7, Cond.initialized RX1, Cond.fieldLink RX4 196 "PrintQueue$Printer" "number" "I", Cond.methodLink RX4 129 yX4_findJob, Cond.instanceMethod yX4_findJob, Cond.selects RX4 yX4_findJob yX4_findJob, Cond.initialized RX4, Cond.code yX4_findJob cX4_findJob 3 (some (.object "PrintQueue$Job")), Cond.classLink RX4 197 "java/util/NoSuchElementException", Cond.initialized "java/util/NoSuchElementException", Cond.fieldLink RX4 23 "PrintQueue" "jobs" "[LPrintQueue$Job;", Cond.methodLink RX4 38 yX4_isWithin, Cond.static yX4_isWithin, Cond.code yX4_isWithin cX4_isWithin 3 (some .boolean), Cond.methodLink RX4 79 yX4_findPrinter, Cond.instanceMethod yX4_findPrinter, Cond.selects RX4 yX4_findPrinter yX4_findPrinter, Cond.code yX4_findPrinter cX4_findPrinter 3 (some (.object "PrintQueue$Printer")), Cond.fieldLink RX4 11 "PrintQueue" "printers" "[LPrintQueue$Printer;", Cond.methodLink RX4 192 yX4_canLose]
def wsX4_split_r2 : List Cond := [Cond.static yX4_canLose, Cond.code yX4_canLose cX4_canLose 2 (some .boolean), Cond.fieldLink RX4 119 "PrintQueue$Part" "stage" "I", Cond.fieldLink RX4 249 "PrintQueue$Part" "onlyPrinter" "I", Cond.methodLink RX4 252 yX1_untouchedCopies, Cond.instanceMethod yX1_untouchedCopies, Cond.selects RX1 yX1_untouchedCopies yX1_untouchedCopies, Cond.code yX1_untouchedCopies cX1_untouchedCopies 1 (some .int), Cond.fieldLink RX1 17 "PrintQueue$Part" "copies" "I", Cond.fieldLink RX1 20 "PrintQueue$Part" "wholeCopies" "I", Cond.fieldLink RX1 23 "PrintQueue$Part" "pagesOfCopy" "I", Cond.methodLink RX4 72 yX1_init, Cond.instanceMethod yX1_init, Cond.code yX1_init cX1_init 4 none, Cond.methodLink RX1 1 objectInit, Cond.instanceMethod objectInit, Cond.code objectInit ⟨#[0xb1]⟩ 1 none, Cond.fieldLink RX1 7 "PrintQueue$Part" "job" "LPrintQueue$Job;", Cond.fieldLink RX1 13 "PrintQueue$Part" "onlyPrinter" "I"]
def wsX4_split : List Cond := .code yX4_split cX4_split 9 (some .int) :: ((wsX4_split_r1 ++ wsX4_split_r2) ++ wsX00 ++ wsX10 ++ wsX20 ++ wsX40 ++ (vx_at0 RX4 199 "java/util/NoSuchElementException" ["java/lang/RuntimeException", "java/lang/Exception"]).filter goodWord)
def wsX4_like : List Cond := .code yX4_like cX4_like 3 (some .int) :: ([.classLink RX4 42 "java/lang/IllegalArgumentException", .initialized "java/lang/IllegalArgumentException", .fieldLink RX4 34 "PrintQueue" "bound" "I", .methodLink RX4 38 yX4_isWithin, .static yX4_isWithin, .initialized RX4, .code yX4_isWithin cX4_isWithin 3 (some .boolean)] ++ wsX40 ++ (vx_at0 RX4 44 "java/lang/IllegalArgumentException" ["java/lang/RuntimeException", "java/lang/Exception"]).filter goodWord)
def wsX5_init_r1 : List Cond := [Cond.methodLink RX5 1 objectInit, Cond.instanceMethod objectInit, Cond.code objectInit ⟨#[0xb1]⟩ 1 none, Cond.arrayClass .int, Cond.fieldLink RX5 7 "PrintQueueModel" "media" "[I", Cond.fieldLink RX5 13 "PrintQueueModel" "sides" "[I", Cond.fieldLink RX5 16 "PrintQueueModel" "like" "[I", Cond.fieldLink RX5 19 "PrintQueueModel" "has" "[I", Cond.fieldLink RX5 22 "PrintQueueModel" "ticketMedia" "[I", Cond.fieldLink RX5 25 "PrintQueueModel" "ticketSides" "[I", Cond.arrayClass .long, Cond.fieldLink RX5 28 "PrintQueueModel" "accounts" "[J", Cond.fieldLink RX5 32 "PrintQueueModel" "ticketOf" "[I", Cond.fieldLink RX5 35 "PrintQueueModel" "pagesOf" "[I", Cond.fieldLink RX5 38 "PrintQueueModel" "rank" "[I", Cond.fieldLink RX5 41 "PrintQueueModel" "time" "[J", Cond.arrayClass .boolean, Cond.fieldLink RX5 44 "PrintQueueModel" "held" "[Z", Cond.fieldLink RX5 48 "PrintQueueModel" "cancelled" "[Z", Cond.fieldLink RX5 51 "PrintQueueModel" "jobOf" "[I", Cond.fieldLink RX5 54 "PrintQueueModel" "copies" "[I", Cond.fieldLink RX5 57 "PrintQueueModel" "only" "[I", Cond.fieldLink RX5 60 "PrintQueueModel" "at" "[I", Cond.fieldLink RX5 63 "PrintQueueModel" "printed" "[I"]
def wsX5_init_r2 : List Cond := [Cond.fieldLink RX5 66 "PrintQueueModel" "fresh" "[Z", Cond.fieldLink RX5 69 "PrintQueueModel" "waits" "[Z", Cond.fieldLink RX5 72 "PrintQueueModel" "twiceJob" "[I", Cond.fieldLink RX5 75 "PrintQueueModel" "twicePage" "[I", Cond.fieldLink RX5 78 "PrintQueueModel" "most" "I"]
def wsX5_init : List Cond := .code yX5_init cX5_init 2 none :: ((wsX5_init_r1 ++ wsX5_init_r2) ++ wsX50)
def wsX5_thrown : List Cond := .code yX5_thrown cX5_thrown 1 (some .int) :: ([.fieldLink RX5 82 "PrintQueueModel" "thrown" "I"] ++ wsX50)
def wsX5_in : List Cond := .code yX5_in cX5_in 6 (some .boolean) :: ([])
def wsX5_printer : List Cond := .code yX5_printer cX5_printer 3 (some .int) :: ([.constantLong RX5 85 (7), .constantLong RX5 91 (2), .fieldLink RX5 93 "PrintQueueModel" "printers" "I", .fieldLink RX5 82 "PrintQueueModel" "thrown" "I", .fieldLink RX5 7 "PrintQueueModel" "media" "[I", .fieldLink RX5 13 "PrintQueueModel" "sides" "[I", .methodLink RX5 87 yX5_in, .static yX5_in, .initialized RX5, .code yX5_in cX5_in 6 (some .boolean)] ++ wsX50)
def wsX5_ticket : List Cond := .code yX5_ticket cX5_ticket 4 (some .int) :: ([.constantLong RX5 85 (7), .constantLong RX5 91 (2), .constantLong RX5 96 (3), .fieldLink RX5 98 "PrintQueueModel" "tickets" "I", .fieldLink RX5 82 "PrintQueueModel" "thrown" "I", .fieldLink RX5 22 "PrintQueueModel" "ticketMedia" "[I", .fieldLink RX5 25 "PrintQueueModel" "ticketSides" "[I", .methodLink RX5 87 yX5_in, .static yX5_in, .initialized RX5, .code yX5_in cX5_in 6 (some .boolean)] ++ wsX50)
def wsX5_addPart : List Cond := .code yX5_addPart cX5_addPart 4 none :: ([.fieldLink RX5 51 "PrintQueueModel" "jobOf" "[I", .fieldLink RX5 101 "PrintQueueModel" "parts" "I", .fieldLink RX5 54 "PrintQueueModel" "copies" "[I", .fieldLink RX5 57 "PrintQueueModel" "only" "[I", .fieldLink RX5 60 "PrintQueueModel" "at" "[I", .fieldLink RX5 63 "PrintQueueModel" "printed" "[I", .fieldLink RX5 69 "PrintQueueModel" "waits" "[Z"] ++ wsX50)
def wsX5_job_r1 : List Cond := [Cond.constantLong RX5 104 (500), Cond.constantLong RX5 106 (100), Cond.constantLong RX5 108 (9), Cond.fieldLink RX5 98 "PrintQueueModel" "tickets" "I", Cond.fieldLink RX5 110 "PrintQueueModel" "jobs" "I", Cond.fieldLink RX5 82 "PrintQueueModel" "thrown" "I", Cond.fieldLink RX5 32 "PrintQueueModel" "ticketOf" "[I", Cond.fieldLink RX5 35 "PrintQueueModel" "pagesOf" "[I", Cond.fieldLink RX5 38 "PrintQueueModel" "rank" "[I", Cond.fieldLink RX5 41 "PrintQueueModel" "time" "[J", Cond.methodLink RX5 87 yX5_in, Cond.static yX5_in, Cond.initialized RX5, Cond.code yX5_in cX5_in 6 (some .boolean), Cond.methodLink RX5 113 yX5_addPart, Cond.instanceMethod yX5_addPart, Cond.selects RX5 yX5_addPart yX5_addPart, Cond.code yX5_addPart cX5_addPart 4 none, Cond.fieldLink RX5 51 "PrintQueueModel" "jobOf" "[I", Cond.fieldLink RX5 101 "PrintQueueModel" "parts" "I", Cond.fieldLink RX5 54 "PrintQueueModel" "copies" "[I", Cond.fieldLink RX5 57 "PrintQueueModel" "only" "[I", Cond.fieldLink RX5 60 "PrintQueueModel" "at" "[I", Cond.fieldLink RX5 63 "PrintQueueModel" "printed" "[I"]
def wsX5_job_r2 : List Cond := [Cond.fieldLink RX5 69 "PrintQueueModel" "waits" "[Z"]
def wsX5_job : List Cond := .code yX5_job cX5_job 8 (some .int) :: ((wsX5_job_r1 ++ wsX5_job_r2) ++ wsX50)
def wsX5_isPrinter : List Cond := .code yX5_isPrinter cX5_isPrinter 2 (some .boolean) :: ([.fieldLink RX5 93 "PrintQueueModel" "printers" "I", .methodLink RX5 87 yX5_in, .static yX5_in, .initialized RX5, .code yX5_in cX5_in 6 (some .boolean)] ++ wsX50)
def wsX5_isJob : List Cond := .code yX5_isJob cX5_isJob 2 (some .boolean) :: ([.fieldLink RX5 110 "PrintQueueModel" "jobs" "I", .methodLink RX5 87 yX5_in, .static yX5_in, .initialized RX5, .code yX5_in cX5_in 6 (some .boolean)] ++ wsX50)
def wsX5_fits : List Cond := .code yX5_fits cX5_fits 3 (some .boolean) :: ([.fieldLink RX5 25 "PrintQueueModel" "ticketSides" "[I", .fieldLink RX5 32 "PrintQueueModel" "ticketOf" "[I", .fieldLink RX5 51 "PrintQueueModel" "jobOf" "[I", .fieldLink RX5 13 "PrintQueueModel" "sides" "[I", .fieldLink RX5 57 "PrintQueueModel" "only" "[I"] ++ wsX50)
def wsX5_mayTake : List Cond := .code yX5_mayTake cX5_mayTake 4 (some .boolean) :: ([.fieldLink RX5 51 "PrintQueueModel" "jobOf" "[I", .fieldLink RX5 69 "PrintQueueModel" "waits" "[Z", .fieldLink RX5 44 "PrintQueueModel" "held" "[Z", .fieldLink RX5 41 "PrintQueueModel" "time" "[J", .fieldLink RX5 117 "PrintQueueModel" "now" "J", .methodLink RX5 121 yX5_fits, .instanceMethod yX5_fits, .selects RX5 yX5_fits yX5_fits, .initialized RX5, .code yX5_fits cX5_fits 3 (some .boolean), .fieldLink RX5 25 "PrintQueueModel" "ticketSides" "[I", .fieldLink RX5 32 "PrintQueueModel" "ticketOf" "[I", .fieldLink RX5 13 "PrintQueueModel" "sides" "[I", .fieldLink RX5 57 "PrintQueueModel" "only" "[I"] ++ wsX50)
def wsX5_bestRank : List Cond := .code yX5_bestRank cX5_bestRank 4 (some .int) :: ([.fieldLink RX5 101 "PrintQueueModel" "parts" "I", .fieldLink RX5 38 "PrintQueueModel" "rank" "[I", .fieldLink RX5 51 "PrintQueueModel" "jobOf" "[I", .methodLink RX5 125 yX5_mayTake, .instanceMethod yX5_mayTake, .selects RX5 yX5_mayTake yX5_mayTake, .initialized RX5, .code yX5_mayTake cX5_mayTake 4 (some .boolean), .fieldLink RX5 69 "PrintQueueModel" "waits" "[Z", .fieldLink RX5 44 "PrintQueueModel" "held" "[Z", .fieldLink RX5 41 "PrintQueueModel" "time" "[J", .fieldLink RX5 117 "PrintQueueModel" "now" "J", .methodLink RX5 121 yX5_fits, .instanceMethod yX5_fits, .selects RX5 yX5_fits yX5_fits, .code yX5_fits cX5_fits 3 (some .boolean), .fieldLink RX5 25 "PrintQueueModel" "ticketSides" "[I", .fieldLink RX5 32 "PrintQueueModel" "ticketOf" "[I", .fieldLink RX5 13 "PrintQueueModel" "sides" "[I", .fieldLink RX5 57 "PrintQueueModel" "only" "[I"] ++ wsX50)
def wsX5_mediaOf : List Cond := .code yX5_mediaOf cX5_mediaOf 2 (some .int) :: ([.fieldLink RX5 22 "PrintQueueModel" "ticketMedia" "[I", .fieldLink RX5 32 "PrintQueueModel" "ticketOf" "[I", .fieldLink RX5 51 "PrintQueueModel" "jobOf" "[I"] ++ wsX50)
def wsX5_firstOf_r1 : List Cond := [Cond.fieldLink RX5 101 "PrintQueueModel" "parts" "I", Cond.fieldLink RX5 38 "PrintQueueModel" "rank" "[I", Cond.fieldLink RX5 51 "PrintQueueModel" "jobOf" "[I", Cond.fieldLink RX5 7 "PrintQueueModel" "media" "[I", Cond.fieldLink RX5 41 "PrintQueueModel" "time" "[J", Cond.methodLink RX5 125 yX5_mayTake, Cond.instanceMethod yX5_mayTake, Cond.selects RX5 yX5_mayTake yX5_mayTake, Cond.initialized RX5, Cond.code yX5_mayTake cX5_mayTake 4 (some .boolean), Cond.fieldLink RX5 69 "PrintQueueModel" "waits" "[Z", Cond.fieldLink RX5 44 "PrintQueueModel" "held" "[Z", Cond.fieldLink RX5 117 "PrintQueueModel" "now" "J", Cond.methodLink RX5 121 yX5_fits, Cond.instanceMethod yX5_fits, Cond.selects RX5 yX5_fits yX5_fits, Cond.code yX5_fits cX5_fits 3 (some .boolean), Cond.fieldLink RX5 25 "PrintQueueModel" "ticketSides" "[I", Cond.fieldLink RX5 32 "PrintQueueModel" "ticketOf" "[I", Cond.fieldLink RX5 13 "PrintQueueModel" "sides" "[I", Cond.fieldLink RX5 57 "PrintQueueModel" "only" "[I", Cond.methodLink RX5 128 yX5_mediaOf, Cond.instanceMethod yX5_mediaOf, Cond.selects RX5 yX5_mediaOf yX5_mediaOf]
def wsX5_firstOf_r2 : List Cond := [Cond.code yX5_mediaOf cX5_mediaOf 2 (some .int), Cond.fieldLink RX5 22 "PrintQueueModel" "ticketMedia" "[I"]
def wsX5_firstOf : List Cond := .code yX5_firstOf cX5_firstOf 8 (some .int) :: ((wsX5_firstOf_r1 ++ wsX5_firstOf_r2) ++ wsX50)
def wsX5_take_r1 : List Cond := [Cond.fieldLink RX5 117 "PrintQueueModel" "now" "J", Cond.fieldLink RX5 19 "PrintQueueModel" "has" "[I", Cond.fieldLink RX5 82 "PrintQueueModel" "thrown" "I", Cond.fieldLink RX5 16 "PrintQueueModel" "like" "[I", Cond.fieldLink RX5 78 "PrintQueueModel" "most" "I", Cond.fieldLink RX5 69 "PrintQueueModel" "waits" "[Z", Cond.fieldLink RX5 66 "PrintQueueModel" "fresh" "[Z", Cond.fieldLink RX5 60 "PrintQueueModel" "at" "[I", Cond.fieldLink RX5 7 "PrintQueueModel" "media" "[I", Cond.fieldLink RX5 28 "PrintQueueModel" "accounts" "[J", Cond.fieldLink RX5 32 "PrintQueueModel" "ticketOf" "[I", Cond.fieldLink RX5 51 "PrintQueueModel" "jobOf" "[I", Cond.methodLink RX5 132 yX5_isPrinter, Cond.instanceMethod yX5_isPrinter, Cond.selects RX5 yX5_isPrinter yX5_isPrinter, Cond.initialized RX5, Cond.code yX5_isPrinter cX5_isPrinter 2 (some .boolean), Cond.fieldLink RX5 93 "PrintQueueModel" "printers" "I", Cond.methodLink RX5 87 yX5_in, Cond.static yX5_in, Cond.code yX5_in cX5_in 6 (some .boolean), Cond.methodLink RX5 136 yX5_bestRank, Cond.instanceMethod yX5_bestRank, Cond.selects RX5 yX5_bestRank yX5_bestRank]
def wsX5_take_r2 : List Cond := [Cond.code yX5_bestRank cX5_bestRank 4 (some .int), Cond.fieldLink RX5 101 "PrintQueueModel" "parts" "I", Cond.fieldLink RX5 38 "PrintQueueModel" "rank" "[I", Cond.methodLink RX5 125 yX5_mayTake, Cond.instanceMethod yX5_mayTake, Cond.selects RX5 yX5_mayTake yX5_mayTake, Cond.code yX5_mayTake cX5_mayTake 4 (some .boolean), Cond.fieldLink RX5 44 "PrintQueueModel" "held" "[Z", Cond.fieldLink RX5 41 "PrintQueueModel" "time" "[J", Cond.methodLink RX5 121 yX5_fits, Cond.instanceMethod yX5_fits, Cond.selects RX5 yX5_fits yX5_fits, Cond.code yX5_fits cX5_fits 3 (some .boolean), Cond.fieldLink RX5 25 "PrintQueueModel" "ticketSides" "[I", Cond.fieldLink RX5 13 "PrintQueueModel" "sides" "[I", Cond.fieldLink RX5 57 "PrintQueueModel" "only" "[I", Cond.methodLink RX5 139 yX5_firstOf, Cond.instanceMethod yX5_firstOf, Cond.selects RX5 yX5_firstOf yX5_firstOf, Cond.code yX5_firstOf cX5_firstOf 8 (some .int), Cond.methodLink RX5 128 yX5_mediaOf, Cond.instanceMethod yX5_mediaOf, Cond.selects RX5 yX5_mediaOf yX5_mediaOf, Cond.code yX5_mediaOf cX5_mediaOf 2 (some .int)]
def wsX5_take_r3 : List Cond := [Cond.fieldLink RX5 22 "PrintQueueModel" "ticketMedia" "[I"]
def wsX5_take : List Cond := .code yX5_take cX5_take 6 (some .int) :: ((wsX5_take_r1 ++ (wsX5_take_r2 ++ wsX5_take_r3)) ++ wsX50)
def wsX5_isOver : List Cond := .code yX5_isOver cX5_isOver 2 (some .boolean) :: ([.fieldLink RX5 63 "PrintQueueModel" "printed" "[I", .fieldLink RX5 54 "PrintQueueModel" "copies" "[I", .fieldLink RX5 35 "PrintQueueModel" "pagesOf" "[I", .fieldLink RX5 51 "PrintQueueModel" "jobOf" "[I"] ++ wsX50)
def wsX5_leave : List Cond := .code yX5_leave cX5_leave 2 none :: ([.fieldLink RX5 60 "PrintQueueModel" "at" "[I", .fieldLink RX5 19 "PrintQueueModel" "has" "[I"] ++ wsX50)
def wsX5_odd : List Cond := .code yX5_odd cX5_odd 2 (some .int) :: ([])
def wsX5_print_r1 : List Cond := [Cond.constantLong RX5 143 (50000), Cond.fieldLink RX5 82 "PrintQueueModel" "thrown" "I", Cond.fieldLink RX5 19 "PrintQueueModel" "has" "[I", Cond.fieldLink RX5 51 "PrintQueueModel" "jobOf" "[I", Cond.fieldLink RX5 35 "PrintQueueModel" "pagesOf" "[I", Cond.fieldLink RX5 54 "PrintQueueModel" "copies" "[I", Cond.fieldLink RX5 63 "PrintQueueModel" "printed" "[I", Cond.fieldLink RX5 32 "PrintQueueModel" "ticketOf" "[I", Cond.fieldLink RX5 25 "PrintQueueModel" "ticketSides" "[I", Cond.fieldLink RX5 66 "PrintQueueModel" "fresh" "[Z", Cond.fieldLink RX5 28 "PrintQueueModel" "accounts" "[J", Cond.methodLink RX5 132 yX5_isPrinter, Cond.instanceMethod yX5_isPrinter, Cond.selects RX5 yX5_isPrinter yX5_isPrinter, Cond.initialized RX5, Cond.code yX5_isPrinter cX5_isPrinter 2 (some .boolean), Cond.fieldLink RX5 93 "PrintQueueModel" "printers" "I", Cond.methodLink RX5 87 yX5_in, Cond.static yX5_in, Cond.code yX5_in cX5_in 6 (some .boolean), Cond.methodLink RX5 145 yX5_odd, Cond.static yX5_odd, Cond.code yX5_odd cX5_odd 2 (some .int), Cond.methodLink RX5 149 yX5_isOver]
def wsX5_print_r2 : List Cond := [Cond.instanceMethod yX5_isOver, Cond.selects RX5 yX5_isOver yX5_isOver, Cond.code yX5_isOver cX5_isOver 2 (some .boolean), Cond.methodLink RX5 152 yX5_leave, Cond.instanceMethod yX5_leave, Cond.selects RX5 yX5_leave yX5_leave, Cond.code yX5_leave cX5_leave 2 none, Cond.fieldLink RX5 60 "PrintQueueModel" "at" "[I"]
def wsX5_print : List Cond := .code yX5_print cX5_print 11 (some .int) :: ((wsX5_print_r1 ++ wsX5_print_r2) ++ wsX50)
def wsX5_fault_r1 : List Cond := [Cond.fieldLink RX5 82 "PrintQueueModel" "thrown" "I", Cond.fieldLink RX5 19 "PrintQueueModel" "has" "[I", Cond.fieldLink RX5 51 "PrintQueueModel" "jobOf" "[I", Cond.fieldLink RX5 63 "PrintQueueModel" "printed" "[I", Cond.fieldLink RX5 35 "PrintQueueModel" "pagesOf" "[I", Cond.fieldLink RX5 72 "PrintQueueModel" "twiceJob" "[I", Cond.fieldLink RX5 156 "PrintQueueModel" "twice" "I", Cond.fieldLink RX5 75 "PrintQueueModel" "twicePage" "[I", Cond.fieldLink RX5 28 "PrintQueueModel" "accounts" "[J", Cond.fieldLink RX5 32 "PrintQueueModel" "ticketOf" "[I", Cond.fieldLink RX5 69 "PrintQueueModel" "waits" "[Z", Cond.methodLink RX5 132 yX5_isPrinter, Cond.instanceMethod yX5_isPrinter, Cond.selects RX5 yX5_isPrinter yX5_isPrinter, Cond.initialized RX5, Cond.code yX5_isPrinter cX5_isPrinter 2 (some .boolean), Cond.fieldLink RX5 93 "PrintQueueModel" "printers" "I", Cond.methodLink RX5 87 yX5_in, Cond.static yX5_in, Cond.code yX5_in cX5_in 6 (some .boolean), Cond.methodLink RX5 152 yX5_leave, Cond.instanceMethod yX5_leave, Cond.selects RX5 yX5_leave yX5_leave, Cond.code yX5_leave cX5_leave 2 none]
def wsX5_fault_r2 : List Cond := [Cond.fieldLink RX5 60 "PrintQueueModel" "at" "[I"]
def wsX5_fault : List Cond := .code yX5_fault cX5_fault 5 (some .int) :: ((wsX5_fault_r1 ++ wsX5_fault_r2) ++ wsX50)
def wsX5_hold : List Cond := .code yX5_hold cX5_hold 4 (some .int) :: ([.fieldLink RX5 82 "PrintQueueModel" "thrown" "I", .fieldLink RX5 44 "PrintQueueModel" "held" "[Z", .methodLink RX5 159 yX5_isJob, .instanceMethod yX5_isJob, .selects RX5 yX5_isJob yX5_isJob, .initialized RX5, .code yX5_isJob cX5_isJob 2 (some .boolean), .fieldLink RX5 110 "PrintQueueModel" "jobs" "I", .methodLink RX5 87 yX5_in, .static yX5_in, .code yX5_in cX5_in 6 (some .boolean)] ++ wsX50)
def wsX5_stateOf : List Cond := .code yX5_stateOf cX5_stateOf 5 (some .int) :: ([.fieldLink RX5 48 "PrintQueueModel" "cancelled" "[Z", .fieldLink RX5 101 "PrintQueueModel" "parts" "I", .fieldLink RX5 51 "PrintQueueModel" "jobOf" "[I", .fieldLink RX5 60 "PrintQueueModel" "at" "[I", .methodLink RX5 149 yX5_isOver, .instanceMethod yX5_isOver, .selects RX5 yX5_isOver yX5_isOver, .initialized RX5, .code yX5_isOver cX5_isOver 2 (some .boolean), .fieldLink RX5 63 "PrintQueueModel" "printed" "[I", .fieldLink RX5 54 "PrintQueueModel" "copies" "[I", .fieldLink RX5 35 "PrintQueueModel" "pagesOf" "[I"] ++ wsX50)
def wsX5_cancel_r1 : List Cond := [Cond.fieldLink RX5 82 "PrintQueueModel" "thrown" "I", Cond.fieldLink RX5 101 "PrintQueueModel" "parts" "I", Cond.fieldLink RX5 51 "PrintQueueModel" "jobOf" "[I", Cond.fieldLink RX5 69 "PrintQueueModel" "waits" "[Z", Cond.fieldLink RX5 60 "PrintQueueModel" "at" "[I", Cond.fieldLink RX5 48 "PrintQueueModel" "cancelled" "[Z", Cond.methodLink RX5 159 yX5_isJob, Cond.instanceMethod yX5_isJob, Cond.selects RX5 yX5_isJob yX5_isJob, Cond.initialized RX5, Cond.code yX5_isJob cX5_isJob 2 (some .boolean), Cond.fieldLink RX5 110 "PrintQueueModel" "jobs" "I", Cond.methodLink RX5 87 yX5_in, Cond.static yX5_in, Cond.code yX5_in cX5_in 6 (some .boolean), Cond.methodLink RX5 162 yX5_stateOf, Cond.instanceMethod yX5_stateOf, Cond.selects RX5 yX5_stateOf yX5_stateOf, Cond.code yX5_stateOf cX5_stateOf 5 (some .int), Cond.methodLink RX5 149 yX5_isOver, Cond.instanceMethod yX5_isOver, Cond.selects RX5 yX5_isOver yX5_isOver, Cond.code yX5_isOver cX5_isOver 2 (some .boolean), Cond.fieldLink RX5 63 "PrintQueueModel" "printed" "[I"]
def wsX5_cancel_r2 : List Cond := [Cond.fieldLink RX5 54 "PrintQueueModel" "copies" "[I", Cond.fieldLink RX5 35 "PrintQueueModel" "pagesOf" "[I", Cond.methodLink RX5 152 yX5_leave, Cond.instanceMethod yX5_leave, Cond.selects RX5 yX5_leave yX5_leave, Cond.code yX5_leave cX5_leave 2 none, Cond.fieldLink RX5 19 "PrintQueueModel" "has" "[I"]
def wsX5_cancel : List Cond := .code yX5_cancel cX5_cancel 4 (some .int) :: ((wsX5_cancel_r1 ++ wsX5_cancel_r2) ++ wsX50)
def wsX5_state_r1 : List Cond := [Cond.constantLong RX5 165 (4), Cond.fieldLink RX5 82 "PrintQueueModel" "thrown" "I", Cond.fieldLink RX5 44 "PrintQueueModel" "held" "[Z", Cond.fieldLink RX5 101 "PrintQueueModel" "parts" "I", Cond.fieldLink RX5 51 "PrintQueueModel" "jobOf" "[I", Cond.fieldLink RX5 63 "PrintQueueModel" "printed" "[I", Cond.fieldLink RX5 35 "PrintQueueModel" "pagesOf" "[I", Cond.methodLink RX5 159 yX5_isJob, Cond.instanceMethod yX5_isJob, Cond.selects RX5 yX5_isJob yX5_isJob, Cond.initialized RX5, Cond.code yX5_isJob cX5_isJob 2 (some .boolean), Cond.fieldLink RX5 110 "PrintQueueModel" "jobs" "I", Cond.methodLink RX5 87 yX5_in, Cond.static yX5_in, Cond.code yX5_in cX5_in 6 (some .boolean), Cond.methodLink RX5 162 yX5_stateOf, Cond.instanceMethod yX5_stateOf, Cond.selects RX5 yX5_stateOf yX5_stateOf, Cond.code yX5_stateOf cX5_stateOf 5 (some .int), Cond.fieldLink RX5 48 "PrintQueueModel" "cancelled" "[Z", Cond.fieldLink RX5 60 "PrintQueueModel" "at" "[I", Cond.methodLink RX5 149 yX5_isOver, Cond.instanceMethod yX5_isOver]
def wsX5_state_r2 : List Cond := [Cond.selects RX5 yX5_isOver yX5_isOver, Cond.code yX5_isOver cX5_isOver 2 (some .boolean), Cond.fieldLink RX5 54 "PrintQueueModel" "copies" "[I"]
def wsX5_state : List Cond := .code yX5_state cX5_state 5 (some .int) :: ((wsX5_state_r1 ++ wsX5_state_r2) ++ wsX50)
def wsX5_doubled : List Cond := .code yX5_doubled cX5_doubled 6 (some .int) :: ([.fieldLink RX5 82 "PrintQueueModel" "thrown" "I", .fieldLink RX5 156 "PrintQueueModel" "twice" "I", .fieldLink RX5 72 "PrintQueueModel" "twiceJob" "[I", .fieldLink RX5 75 "PrintQueueModel" "twicePage" "[I", .methodLink RX5 159 yX5_isJob, .instanceMethod yX5_isJob, .selects RX5 yX5_isJob yX5_isJob, .initialized RX5, .code yX5_isJob cX5_isJob 2 (some .boolean), .fieldLink RX5 110 "PrintQueueModel" "jobs" "I", .methodLink RX5 87 yX5_in, .static yX5_in, .code yX5_in cX5_in 6 (some .boolean)] ++ wsX50)
def wsX5_account : List Cond := .code yX5_account cX5_account 3 (some .long) :: ([.fieldLink RX5 98 "PrintQueueModel" "tickets" "I", .constantLong RX5 96 (3), .fieldLink RX5 82 "PrintQueueModel" "thrown" "I", .fieldLink RX5 28 "PrintQueueModel" "accounts" "[J", .methodLink RX5 87 yX5_in, .static yX5_in, .initialized RX5, .code yX5_in cX5_in 6 (some .boolean)] ++ wsX50)
def wsX5_reason_r1 : List Cond := [Cond.fieldLink RX5 82 "PrintQueueModel" "thrown" "I", Cond.fieldLink RX5 101 "PrintQueueModel" "parts" "I", Cond.fieldLink RX5 51 "PrintQueueModel" "jobOf" "[I", Cond.fieldLink RX5 69 "PrintQueueModel" "waits" "[Z", Cond.fieldLink RX5 93 "PrintQueueModel" "printers" "I", Cond.fieldLink RX5 19 "PrintQueueModel" "has" "[I", Cond.fieldLink RX5 44 "PrintQueueModel" "held" "[Z", Cond.fieldLink RX5 41 "PrintQueueModel" "time" "[J", Cond.fieldLink RX5 117 "PrintQueueModel" "now" "J", Cond.methodLink RX5 159 yX5_isJob, Cond.instanceMethod yX5_isJob, Cond.selects RX5 yX5_isJob yX5_isJob, Cond.initialized RX5, Cond.code yX5_isJob cX5_isJob 2 (some .boolean), Cond.fieldLink RX5 110 "PrintQueueModel" "jobs" "I", Cond.methodLink RX5 87 yX5_in, Cond.static yX5_in, Cond.code yX5_in cX5_in 6 (some .boolean), Cond.methodLink RX5 121 yX5_fits, Cond.instanceMethod yX5_fits, Cond.selects RX5 yX5_fits yX5_fits, Cond.code yX5_fits cX5_fits 3 (some .boolean), Cond.fieldLink RX5 25 "PrintQueueModel" "ticketSides" "[I", Cond.fieldLink RX5 32 "PrintQueueModel" "ticketOf" "[I"]
def wsX5_reason_r2 : List Cond := [Cond.fieldLink RX5 13 "PrintQueueModel" "sides" "[I", Cond.fieldLink RX5 57 "PrintQueueModel" "only" "[I"]
def wsX5_reason : List Cond := .code yX5_reason cX5_reason 7 (some .int) :: ((wsX5_reason_r1 ++ wsX5_reason_r2) ++ wsX50)
def wsX5_split_r1 : List Cond := [Cond.fieldLink RX5 82 "PrintQueueModel" "thrown" "I", Cond.fieldLink RX5 101 "PrintQueueModel" "parts" "I", Cond.fieldLink RX5 63 "PrintQueueModel" "printed" "[I", Cond.fieldLink RX5 35 "PrintQueueModel" "pagesOf" "[I", Cond.fieldLink RX5 51 "PrintQueueModel" "jobOf" "[I", Cond.fieldLink RX5 57 "PrintQueueModel" "only" "[I", Cond.fieldLink RX5 69 "PrintQueueModel" "waits" "[Z", Cond.fieldLink RX5 54 "PrintQueueModel" "copies" "[I", Cond.methodLink RX5 159 yX5_isJob, Cond.instanceMethod yX5_isJob, Cond.selects RX5 yX5_isJob yX5_isJob, Cond.initialized RX5, Cond.code yX5_isJob cX5_isJob 2 (some .boolean), Cond.fieldLink RX5 110 "PrintQueueModel" "jobs" "I", Cond.methodLink RX5 87 yX5_in, Cond.static yX5_in, Cond.code yX5_in cX5_in 6 (some .boolean), Cond.methodLink RX5 132 yX5_isPrinter, Cond.instanceMethod yX5_isPrinter, Cond.selects RX5 yX5_isPrinter yX5_isPrinter, Cond.code yX5_isPrinter cX5_isPrinter 2 (some .boolean), Cond.fieldLink RX5 93 "PrintQueueModel" "printers" "I", Cond.methodLink RX5 113 yX5_addPart, Cond.instanceMethod yX5_addPart]
def wsX5_split_r2 : List Cond := [Cond.selects RX5 yX5_addPart yX5_addPart, Cond.code yX5_addPart cX5_addPart 4 none, Cond.fieldLink RX5 60 "PrintQueueModel" "at" "[I"]
def wsX5_split : List Cond := .code yX5_split cX5_split 6 (some .int) :: ((wsX5_split_r1 ++ wsX5_split_r2) ++ wsX50)
def wsX5_like : List Cond := .code yX5_like cX5_like 3 (some .int) :: ([.constantLong RX5 106 (100), .fieldLink RX5 82 "PrintQueueModel" "thrown" "I", .fieldLink RX5 78 "PrintQueueModel" "most" "I", .methodLink RX5 87 yX5_in, .static yX5_in, .initialized RX5, .code yX5_in cX5_in 6 (some .boolean)] ++ wsX50)
def wsJ9_min_7cf53 : List Cond := .code yJ9_min_7cf53 cJ9_min_7cf53 2 (some .int) :: ([])
def wsL_printer_r1 : List Cond := [Cond.classLink RL 13 "java/lang/IllegalArgumentException", Cond.classLink RL 15 "java/lang/UnsupportedOperationException", Cond.methodLink RL 7 yX4_printer, Cond.instanceMethod yX4_printer, Cond.selects RX4 yX4_printer yX4_printer, Cond.initialized RX4, Cond.code yX4_printer cX4_printer 3 (some .int), Cond.classLink RX4 42 "java/lang/IllegalArgumentException", Cond.initialized "java/lang/IllegalArgumentException", Cond.classLink RX4 48 "java/lang/UnsupportedOperationException", Cond.initialized "java/lang/UnsupportedOperationException", Cond.fieldLink RX4 45 "PrintQueue" "printerCount" "I", Cond.fieldLink RX4 11 "PrintQueue" "printers" "[LPrintQueue$Printer;", Cond.classLink RX4 9 RX2, Cond.instantiable RX2 6, Cond.initialized RX2, Cond.methodLink RX4 38 yX4_isWithin, Cond.static yX4_isWithin, Cond.code yX4_isWithin cX4_isWithin 3 (some .boolean), Cond.methodLink RX4 51 yX2_init, Cond.instanceMethod yX2_init, Cond.code yX2_init cX2_init 4 none, Cond.methodLink RX2 3 objectInit, Cond.instanceMethod objectInit]
def wsL_printer_r2 : List Cond := [Cond.code objectInit ⟨#[0xb1]⟩ 1 none, Cond.fieldLink RX2 9 "PrintQueue$Printer" "number" "I", Cond.fieldLink RX2 15 "PrintQueue$Printer" "media" "I", Cond.fieldLink RX2 18 "PrintQueue$Printer" "sides" "I"]
def wsL_printer : List Cond := .codeWith yL_printer cL_printer 5 (some .int) [(0, 10, 13, 13), (0, 10, 17, 15)] :: ((wsL_printer_r1 ++ wsL_printer_r2) ++ wsX40 ++ wsX20 ++ (vx_at0 RX4 44 "java/lang/IllegalArgumentException" ["java/lang/RuntimeException", "java/lang/Exception"]).filter goodWord ++ (vx_at0 RX4 50 "java/lang/UnsupportedOperationException" ["java/lang/RuntimeException", "java/lang/Exception"]).filter goodWord)
def wsL_ticket_r1 : List Cond := [Cond.classLink RL 13 "java/lang/IllegalArgumentException", Cond.classLink RL 15 "java/lang/UnsupportedOperationException", Cond.methodLink RL 17 yX4_ticket, Cond.instanceMethod yX4_ticket, Cond.selects RX4 yX4_ticket yX4_ticket, Cond.initialized RX4, Cond.code yX4_ticket cX4_ticket 4 (some .int), Cond.classLink RX4 42 "java/lang/IllegalArgumentException", Cond.initialized "java/lang/IllegalArgumentException", Cond.classLink RX4 48 "java/lang/UnsupportedOperationException", Cond.initialized "java/lang/UnsupportedOperationException", Cond.fieldLink RX4 54 "PrintQueue" "ticketCount" "I", Cond.fieldLink RX4 17 "PrintQueue" "tickets" "[LPrintQueue$Ticket;", Cond.classLink RX4 15 RX3, Cond.instantiable RX3 6, Cond.initialized RX3, Cond.methodLink RX4 38 yX4_isWithin, Cond.static yX4_isWithin, Cond.code yX4_isWithin cX4_isWithin 3 (some .boolean), Cond.methodLink RX4 57 yX3_init, Cond.instanceMethod yX3_init, Cond.code yX3_init cX3_init 3 none, Cond.methodLink RX3 1 objectInit, Cond.instanceMethod objectInit]
def wsL_ticket_r2 : List Cond := [Cond.code objectInit ⟨#[0xb1]⟩ 1 none, Cond.fieldLink RX3 7 "PrintQueue$Ticket" "media" "I", Cond.fieldLink RX3 13 "PrintQueue$Ticket" "sides" "I"]
def wsL_ticket : List Cond := .codeWith yL_ticket cL_ticket 6 (some .int) [(0, 12, 15, 13), (0, 12, 19, 15)] :: ((wsL_ticket_r1 ++ wsL_ticket_r2) ++ wsX40 ++ wsX30 ++ (vx_at0 RX4 44 "java/lang/IllegalArgumentException" ["java/lang/RuntimeException", "java/lang/Exception"]).filter goodWord ++ (vx_at0 RX4 50 "java/lang/UnsupportedOperationException" ["java/lang/RuntimeException", "java/lang/Exception"]).filter goodWord)
def wsL_job_r1 : List Cond := [Cond.classLink RL 25 "java/util/NoSuchElementException", Cond.classLink RL 13 "java/lang/IllegalArgumentException", Cond.classLink RL 15 "java/lang/UnsupportedOperationException", Cond.methodLink RL 21 yX4_job, Cond.instanceMethod yX4_job, Cond.selects RX4 yX4_job yX4_job, Cond.initialized RX4, Cond.code yX4_job cX4_job 9 (some .int), Cond.classLink RX4 42 "java/lang/IllegalArgumentException", Cond.initialized "java/lang/IllegalArgumentException", Cond.classLink RX4 48 "java/lang/UnsupportedOperationException", Cond.initialized "java/lang/UnsupportedOperationException", Cond.fieldLink RX4 64 "PrintQueue" "jobCount" "I", Cond.fieldLink RX4 23 "PrintQueue" "jobs" "[LPrintQueue$Job;", Cond.classLink RX4 21 RX0, Cond.instantiable RX0 8, Cond.initialized RX0, Cond.classLink RX4 70 RX1, Cond.instantiable RX1 7, Cond.initialized RX1, Cond.fieldLink RX4 75 "PrintQueue$Job" "firstPart" "LPrintQueue$Part;", Cond.methodLink RX4 60 yX4_findTicket, Cond.instanceMethod yX4_findTicket, Cond.selects RX4 yX4_findTicket yX4_findTicket]
def wsL_job_r2 : List Cond := [Cond.code yX4_findTicket cX4_findTicket 3 (some (.object "PrintQueue$Ticket")), Cond.classLink RX4 197 "java/util/NoSuchElementException", Cond.initialized "java/util/NoSuchElementException", Cond.fieldLink RX4 17 "PrintQueue" "tickets" "[LPrintQueue$Ticket;", Cond.methodLink RX4 38 yX4_isWithin, Cond.static yX4_isWithin, Cond.code yX4_isWithin cX4_isWithin 3 (some .boolean), Cond.methodLink RX4 67 yX0_init, Cond.instanceMethod yX0_init, Cond.code yX0_init cX0_init 7 none, Cond.methodLink RX0 3 objectInit, Cond.instanceMethod objectInit, Cond.code objectInit ⟨#[0xb1]⟩ 1 none, Cond.fieldLink RX0 9 "PrintQueue$Job" "number" "I", Cond.fieldLink RX0 15 "PrintQueue$Job" "ticket" "LPrintQueue$Ticket;", Cond.fieldLink RX0 19 "PrintQueue$Job" "pages" "I", Cond.fieldLink RX0 22 "PrintQueue$Job" "rank" "I", Cond.fieldLink RX0 25 "PrintQueue$Job" "time" "J", Cond.methodLink RX4 72 yX1_init, Cond.instanceMethod yX1_init, Cond.code yX1_init cX1_init 4 none, Cond.methodLink RX1 1 objectInit, Cond.fieldLink RX1 7 "PrintQueue$Part" "job" "LPrintQueue$Job;", Cond.fieldLink RX1 13 "PrintQueue$Part" "onlyPrinter" "I"]
def wsL_job_r3 : List Cond := [Cond.fieldLink RX1 17 "PrintQueue$Part" "copies" "I"]
def wsL_job : List Cond := .codeWith yL_job cL_job 9 (some .int) [(0, 16, 19, 25), (0, 16, 23, 13), (0, 16, 27, 15)] :: ((wsL_job_r1 ++ (wsL_job_r2 ++ wsL_job_r3)) ++ wsX40 ++ wsX00 ++ wsX10 ++ (vx_at0 RX4 44 "java/lang/IllegalArgumentException" ["java/lang/RuntimeException", "java/lang/Exception"]).filter goodWord ++ (vx_at0 RX4 50 "java/lang/UnsupportedOperationException" ["java/lang/RuntimeException", "java/lang/Exception"]).filter goodWord ++ (vx_at0 RX4 199 "java/util/NoSuchElementException" ["java/lang/RuntimeException", "java/lang/Exception"]).filter goodWord)
def wsL_take_r1 : List Cond := [Cond.classLink RL 25 "java/util/NoSuchElementException", Cond.classLink RL 13 "java/lang/IllegalArgumentException", Cond.classLink RL 31 "java/lang/IllegalStateException", Cond.methodLink RL 27 yX4_take, Cond.instanceMethod yX4_take, Cond.selects RX4 yX4_take yX4_take, Cond.initialized RX4, Cond.code yX4_take cX4_take 6 (some .int), Cond.classLink RX4 42 "java/lang/IllegalArgumentException", Cond.initialized "java/lang/IllegalArgumentException", Cond.classLink RX4 90 "java/lang/IllegalStateException", Cond.initialized "java/lang/IllegalStateException", Cond.fieldLink RX4 83 "PrintQueue" "now" "J", Cond.fieldLink RX4 87 "PrintQueue$Printer" "part" "LPrintQueue$Part;", Cond.fieldLink RX4 101 "PrintQueue$Part" "job" "LPrintQueue$Job;", Cond.fieldLink RX4 105 "PrintQueue$Job" "number" "I", Cond.methodLink RX4 79 yX4_findPrinter, Cond.instanceMethod yX4_findPrinter, Cond.selects RX4 yX4_findPrinter yX4_findPrinter, Cond.code yX4_findPrinter cX4_findPrinter 3 (some (.object "PrintQueue$Printer")), Cond.classLink RX4 197 "java/util/NoSuchElementException", Cond.initialized "java/util/NoSuchElementException", Cond.fieldLink RX4 11 "PrintQueue" "printers" "[LPrintQueue$Printer;", Cond.methodLink RX4 38 yX4_isWithin]
def wsL_take_r2 : List Cond := [Cond.static yX4_isWithin, Cond.code yX4_isWithin cX4_isWithin 3 (some .boolean), Cond.methodLink RX4 93 yX4_choosePart, Cond.instanceMethod yX4_choosePart, Cond.selects RX4 yX4_choosePart yX4_choosePart, Cond.code yX4_choosePart cX4_choosePart 8 (some (.object "PrintQueue$Part")), Cond.fieldLink RX4 23 "PrintQueue" "jobs" "[LPrintQueue$Job;", Cond.fieldLink RX4 133 "PrintQueue$Job" "held" "Z", Cond.fieldLink RX4 185 "PrintQueue$Job" "time" "J", Cond.methodLink RX4 200 yX4_firstPartFor, Cond.static yX4_firstPartFor, Cond.code yX4_firstPartFor cX4_firstPartFor 3 (some (.object "PrintQueue$Part")), Cond.fieldLink RX4 75 "PrintQueue$Job" "firstPart" "LPrintQueue$Part;", Cond.fieldLink RX4 119 "PrintQueue$Part" "stage" "I", Cond.fieldLink RX4 141 "PrintQueue$Part" "next" "LPrintQueue$Part;", Cond.methodLink RX4 208 yX2_fits, Cond.instanceMethod yX2_fits, Cond.selects RX2 yX2_fits yX2_fits, Cond.initialized RX2, Cond.code yX2_fits cX2_fits 2 (some .boolean), Cond.fieldLink RX2 18 "PrintQueue$Printer" "sides" "I", Cond.fieldLink RX2 21 "PrintQueue$Part" "job" "LPrintQueue$Job;", Cond.fieldLink RX2 27 "PrintQueue$Job" "ticket" "LPrintQueue$Ticket;", Cond.fieldLink RX2 33 "PrintQueue$Ticket" "sides" "I"]
def wsL_take_r3 : List Cond := [Cond.fieldLink RX2 36 "PrintQueue$Part" "onlyPrinter" "I", Cond.fieldLink RX2 9 "PrintQueue$Printer" "number" "I", Cond.methodLink RX4 204 yX4_goesBefore, Cond.instanceMethod yX4_goesBefore, Cond.selects RX4 yX4_goesBefore yX4_goesBefore, Cond.code yX4_goesBefore cX4_goesBefore 6 (some .boolean), Cond.fieldLink RX4 212 "PrintQueue$Job" "rank" "I", Cond.fieldLink RX4 215 "PrintQueue$Job" "ticket" "LPrintQueue$Ticket;", Cond.fieldLink RX4 219 "PrintQueue$Ticket" "media" "I", Cond.fieldLink RX4 222 "PrintQueue$Printer" "media" "I", Cond.fieldLink RX4 223 "PrintQueue$Printer" "likeNumber" "I", Cond.fieldLink RX4 34 "PrintQueue" "bound" "I", Cond.methodLink RX4 97 yX4_bringTo, Cond.static yX4_bringTo, Cond.code yX4_bringTo cX4_bringTo 3 none, Cond.fieldLink RX4 175 "PrintQueue$Ticket" "changes" "J", Cond.fieldLink RX4 226 "PrintQueue$Printer" "sheetIsDue" "Z"]
def wsL_take : List Cond := .codeWith yL_take cL_take 6 (some .int) [(0, 11, 14, 25), (0, 11, 18, 13), (0, 11, 22, 31)] :: ((wsL_take_r1 ++ (wsL_take_r2 ++ wsL_take_r3)) ++ wsX40 ++ wsX20 ++ wsX10 ++ wsX00 ++ wsX30 ++ (vx_at0 RX4 44 "java/lang/IllegalArgumentException" ["java/lang/RuntimeException", "java/lang/Exception"]).filter goodWord ++ (vx_at0 RX4 92 "java/lang/IllegalStateException" ["java/lang/RuntimeException", "java/lang/Exception"]).filter goodWord ++ (vx_at0 RX4 199 "java/util/NoSuchElementException" ["java/lang/RuntimeException", "java/lang/Exception"]).filter goodWord)
def wsL_print_r1 : List Cond := [Cond.classLink RL 25 "java/util/NoSuchElementException", Cond.classLink RL 13 "java/lang/IllegalArgumentException", Cond.methodLink RL 33 yX4_print, Cond.instanceMethod yX4_print, Cond.selects RX4 yX4_print yX4_print, Cond.initialized RX4, Cond.code yX4_print cX4_print 7 (some .int), Cond.classLink RX4 42 "java/lang/IllegalArgumentException", Cond.initialized "java/lang/IllegalArgumentException", Cond.constant RX4 108 (50000), Cond.fieldLink RX4 87 "PrintQueue$Printer" "part" "LPrintQueue$Part;", Cond.fieldLink RX4 109 "PrintQueue$Part" "wholeCopies" "I", Cond.fieldLink RX4 112 "PrintQueue$Part" "copies" "I", Cond.fieldLink RX4 119 "PrintQueue$Part" "stage" "I", Cond.methodLink RX4 79 yX4_findPrinter, Cond.instanceMethod yX4_findPrinter, Cond.selects RX4 yX4_findPrinter yX4_findPrinter, Cond.code yX4_findPrinter cX4_findPrinter 3 (some (.object "PrintQueue$Printer")), Cond.classLink RX4 197 "java/util/NoSuchElementException", Cond.initialized "java/util/NoSuchElementException", Cond.fieldLink RX4 11 "PrintQueue" "printers" "[LPrintQueue$Printer;", Cond.methodLink RX4 38 yX4_isWithin, Cond.static yX4_isWithin, Cond.code yX4_isWithin cX4_isWithin 3 (some .boolean)]
def wsL_print_r2 : List Cond := [Cond.methodLink RX4 115 yX4_printInCopy, Cond.static yX4_printInCopy, Cond.code yX4_printInCopy cX4_printInCopy 6 (some .int), Cond.fieldLink RX4 122 "PrintQueue$Part" "pagesOfCopy" "I", Cond.fieldLink RX4 101 "PrintQueue$Part" "job" "LPrintQueue$Job;", Cond.fieldLink RX4 229 "PrintQueue$Job" "pages" "I", Cond.methodLink RX4 232 Lib.Math.min.name, Cond.static Lib.Math.min.name, Cond.initialized "java/lang/Math", Cond.code Lib.Math.min.name Lib.Math.min.code 2 (some .int), Cond.fieldLink RX4 215 "PrintQueue$Job" "ticket" "LPrintQueue$Ticket;", Cond.fieldLink RX4 169 "PrintQueue$Ticket" "pagesOut" "J", Cond.fieldLink RX4 172 "PrintQueue$Ticket" "sheets" "J", Cond.fieldLink RX4 238 "PrintQueue$Ticket" "sides" "I", Cond.fieldLink RX4 226 "PrintQueue$Printer" "sheetIsDue" "Z", Cond.methodLink RX4 241 yX4_sheetsOfTwoSides, Cond.static yX4_sheetsOfTwoSides, Cond.code yX4_sheetsOfTwoSides cX4_sheetsOfTwoSides 5 (some .int), Cond.methodLink RX4 245 yX1_countPages, Cond.instanceMethod yX1_countPages, Cond.selects RX1 yX1_countPages yX1_countPages, Cond.initialized RX1, Cond.code yX1_countPages cX1_countPages 2 none, Cond.fieldLink RX1 23 "PrintQueue$Part" "pagesOfCopy" "I"]
def wsL_print_r3 : List Cond := [Cond.fieldLink RX1 7 "PrintQueue$Part" "job" "LPrintQueue$Job;", Cond.fieldLink RX1 26 "PrintQueue$Job" "pages" "I", Cond.fieldLink RX1 20 "PrintQueue$Part" "wholeCopies" "I"]
def wsL_print : List Cond := .codeWith yL_print cL_print 5 (some .int) [(0, 10, 13, 25), (0, 10, 17, 13)] :: ((wsL_print_r1 ++ (wsL_print_r2 ++ wsL_print_r3)) ++ wsX20 ++ wsX10 ++ wsX40 ++ wsX00 ++ wsX30 ++ (vx_at0 RX4 44 "java/lang/IllegalArgumentException" ["java/lang/RuntimeException", "java/lang/Exception"]).filter goodWord ++ (vx_at0 RX4 199 "java/util/NoSuchElementException" ["java/lang/RuntimeException", "java/lang/Exception"]).filter goodWord)
def wsL_fault_r1 : List Cond := [Cond.classLink RL 25 "java/util/NoSuchElementException", Cond.methodLink RL 36 yX4_fault, Cond.instanceMethod yX4_fault, Cond.selects RX4 yX4_fault yX4_fault, Cond.initialized RX4, Cond.code yX4_fault cX4_fault 4 (some .int), Cond.fieldLink RX4 87 "PrintQueue$Printer" "part" "LPrintQueue$Part;", Cond.fieldLink RX4 119 "PrintQueue$Part" "stage" "I", Cond.fieldLink RX4 122 "PrintQueue$Part" "pagesOfCopy" "I", Cond.methodLink RX4 79 yX4_findPrinter, Cond.instanceMethod yX4_findPrinter, Cond.selects RX4 yX4_findPrinter yX4_findPrinter, Cond.code yX4_findPrinter cX4_findPrinter 3 (some (.object "PrintQueue$Printer")), Cond.classLink RX4 197 "java/util/NoSuchElementException", Cond.initialized "java/util/NoSuchElementException", Cond.fieldLink RX4 11 "PrintQueue" "printers" "[LPrintQueue$Printer;", Cond.methodLink RX4 38 yX4_isWithin, Cond.static yX4_isWithin, Cond.code yX4_isWithin cX4_isWithin 3 (some .boolean), Cond.methodLink RX4 125 yX4_doubleLastPage, Cond.instanceMethod yX4_doubleLastPage, Cond.selects RX4 yX4_doubleLastPage yX4_doubleLastPage, Cond.code yX4_doubleLastPage cX4_doubleLastPage 2 none, Cond.fieldLink RX4 166 "PrintQueue" "doubledCount" "I"]
def wsL_fault_r2 : List Cond := [Cond.fieldLink RX4 27 "PrintQueue" "doubledJobs" "[I", Cond.fieldLink RX4 101 "PrintQueue$Part" "job" "LPrintQueue$Job;", Cond.fieldLink RX4 105 "PrintQueue$Job" "number" "I", Cond.fieldLink RX4 31 "PrintQueue" "doubledPages" "[I", Cond.fieldLink RX4 109 "PrintQueue$Part" "wholeCopies" "I", Cond.fieldLink RX4 215 "PrintQueue$Job" "ticket" "LPrintQueue$Ticket;", Cond.fieldLink RX4 178 "PrintQueue$Ticket" "pagesDoubled" "J"]
def wsL_fault : List Cond := .codeWith yL_fault cL_fault 4 (some .int) [(0, 9, 12, 25)] :: ((wsL_fault_r1 ++ wsL_fault_r2) ++ wsX20 ++ wsX10 ++ wsX40 ++ wsX00 ++ wsX30 ++ (vx_at0 RX4 199 "java/util/NoSuchElementException" ["java/lang/RuntimeException", "java/lang/Exception"]).filter goodWord)
def wsL_hold : List Cond := .codeWith yL_hold cL_hold 5 (some .int) [(0, 10, 13, 25)] :: ([.classLink RL 25 "java/util/NoSuchElementException", .methodLink RL 40 yX4_hold, .instanceMethod yX4_hold, .selects RX4 yX4_hold yX4_hold, .initialized RX4, .code yX4_hold cX4_hold 5 (some .int), .fieldLink RX4 133 "PrintQueue$Job" "held" "Z", .methodLink RX4 129 yX4_findJob, .instanceMethod yX4_findJob, .selects RX4 yX4_findJob yX4_findJob, .code yX4_findJob cX4_findJob 3 (some (.object "PrintQueue$Job")), .classLink RX4 197 "java/util/NoSuchElementException", .initialized "java/util/NoSuchElementException", .fieldLink RX4 23 "PrintQueue" "jobs" "[LPrintQueue$Job;", .methodLink RX4 38 yX4_isWithin, .static yX4_isWithin, .code yX4_isWithin cX4_isWithin 3 (some .boolean), .methodLink RX4 137 yX4_asNumber, .static yX4_asNumber, .code yX4_asNumber cX4_asNumber 1 (some .int)] ++ wsX00 ++ wsX40 ++ (vx_at0 RX4 199 "java/util/NoSuchElementException" ["java/lang/RuntimeException", "java/lang/Exception"]).filter goodWord)
def wsL_cancel_r1 : List Cond := [Cond.classLink RL 25 "java/util/NoSuchElementException", Cond.methodLink RL 44 yX4_cancel, Cond.instanceMethod yX4_cancel, Cond.selects RX4 yX4_cancel yX4_cancel, Cond.initialized RX4, Cond.code yX4_cancel cX4_cancel 5 (some .int), Cond.fieldLink RX4 75 "PrintQueue$Job" "firstPart" "LPrintQueue$Part;", Cond.fieldLink RX4 119 "PrintQueue$Part" "stage" "I", Cond.fieldLink RX4 141 "PrintQueue$Part" "next" "LPrintQueue$Part;", Cond.fieldLink RX4 144 "PrintQueue$Job" "cancelled" "Z", Cond.methodLink RX4 129 yX4_findJob, Cond.instanceMethod yX4_findJob, Cond.selects RX4 yX4_findJob yX4_findJob, Cond.code yX4_findJob cX4_findJob 3 (some (.object "PrintQueue$Job")), Cond.classLink RX4 197 "java/util/NoSuchElementException", Cond.initialized "java/util/NoSuchElementException", Cond.fieldLink RX4 23 "PrintQueue" "jobs" "[LPrintQueue$Job;", Cond.methodLink RX4 38 yX4_isWithin, Cond.static yX4_isWithin, Cond.code yX4_isWithin cX4_isWithin 3 (some .boolean), Cond.methodLink RX4 147 yX4_emptyPrintersOf, Cond.instanceMethod yX4_emptyPrintersOf, Cond.selects RX4 yX4_emptyPrintersOf yX4_emptyPrintersOf, Cond.code yX4_emptyPrintersOf cX4_emptyPrintersOf 6 none]
def wsL_cancel_r2 : List Cond := [Cond.fieldLink RX4 11 "PrintQueue" "printers" "[LPrintQueue$Printer;", Cond.fieldLink RX4 87 "PrintQueue$Printer" "part" "LPrintQueue$Part;", Cond.fieldLink RX4 101 "PrintQueue$Part" "job" "LPrintQueue$Job;"]
def wsL_cancel : List Cond := .codeWith yL_cancel cL_cancel 4 (some .int) [(0, 9, 12, 25)] :: ((wsL_cancel_r1 ++ wsL_cancel_r2) ++ wsX00 ++ wsX10 ++ wsX40 ++ wsX20 ++ (vx_at0 RX4 199 "java/util/NoSuchElementException" ["java/lang/RuntimeException", "java/lang/Exception"]).filter goodWord)
def wsL_state_r1 : List Cond := [Cond.classLink RL 25 "java/util/NoSuchElementException", Cond.classLink RL 50 "java/lang/IndexOutOfBoundsException", Cond.methodLink RL 47 yX4_state, Cond.instanceMethod yX4_state, Cond.selects RX4 yX4_state yX4_state, Cond.initialized RX4, Cond.code yX4_state cX4_state 4 (some .int), Cond.classLink RX4 163 "java/lang/IndexOutOfBoundsException", Cond.initialized "java/lang/IndexOutOfBoundsException", Cond.fieldLink RX4 133 "PrintQueue$Job" "held" "Z", Cond.methodLink RX4 129 yX4_findJob, Cond.instanceMethod yX4_findJob, Cond.selects RX4 yX4_findJob yX4_findJob, Cond.code yX4_findJob cX4_findJob 3 (some (.object "PrintQueue$Job")), Cond.classLink RX4 197 "java/util/NoSuchElementException", Cond.initialized "java/util/NoSuchElementException", Cond.fieldLink RX4 23 "PrintQueue" "jobs" "[LPrintQueue$Job;", Cond.methodLink RX4 38 yX4_isWithin, Cond.static yX4_isWithin, Cond.code yX4_isWithin cX4_isWithin 3 (some .boolean), Cond.methodLink RX4 151 yX0_condition, Cond.instanceMethod yX0_condition, Cond.selects RX0 yX0_condition yX0_condition, Cond.initialized RX0]
def wsL_state_r2 : List Cond := [Cond.code yX0_condition cX0_condition 1 (some .int), Cond.fieldLink RX0 47 "PrintQueue$Job" "cancelled" "Z", Cond.methodLink RX0 51 yX0_hasPartThat, Cond.instanceMethod yX0_hasPartThat, Cond.selects RX0 yX0_hasPartThat yX0_hasPartThat, Cond.code yX0_hasPartThat cX0_hasPartThat 3 (some .boolean), Cond.fieldLink RX0 29 "PrintQueue$Job" "firstPart" "LPrintQueue$Part;", Cond.fieldLink RX0 33 "PrintQueue$Part" "stage" "I", Cond.fieldLink RX0 38 "PrintQueue$Part" "next" "LPrintQueue$Part;", Cond.methodLink RX4 155 yX0_pagesThatCount, Cond.instanceMethod yX0_pagesThatCount, Cond.selects RX0 yX0_pagesThatCount yX0_pagesThatCount, Cond.code yX0_pagesThatCount cX0_pagesThatCount 3 (some .int), Cond.fieldLink RX0 41 "PrintQueue$Part" "wholeCopies" "I", Cond.fieldLink RX0 19 "PrintQueue$Job" "pages" "I", Cond.fieldLink RX0 44 "PrintQueue$Part" "pagesOfCopy" "I", Cond.methodLink RX4 158 yX0_wholeCopies, Cond.instanceMethod yX0_wholeCopies, Cond.selects RX0 yX0_wholeCopies yX0_wholeCopies, Cond.code yX0_wholeCopies cX0_wholeCopies 3 (some .int), Cond.methodLink RX4 160 yX0_partsHad, Cond.instanceMethod yX0_partsHad, Cond.selects RX0 yX0_partsHad yX0_partsHad, Cond.code yX0_partsHad cX0_partsHad 3 (some .int)]
def wsL_state_r3 : List Cond := [Cond.methodLink RX4 137 yX4_asNumber, Cond.static yX4_asNumber, Cond.code yX4_asNumber cX4_asNumber 1 (some .int)]
def wsL_state : List Cond := .codeWith yL_state cL_state 5 (some .int) [(0, 10, 13, 25), (0, 10, 17, 50)] :: ((wsL_state_r1 ++ (wsL_state_r2 ++ wsL_state_r3)) ++ wsX00 ++ wsX40 ++ wsX10 ++ (vx_at0 RX4 165 "java/lang/IndexOutOfBoundsException" ["java/lang/RuntimeException", "java/lang/Exception"]).filter goodWord ++ (vx_at0 RX4 199 "java/util/NoSuchElementException" ["java/lang/RuntimeException", "java/lang/Exception"]).filter goodWord)
def wsL_doubled : List Cond := .codeWith yL_doubled cL_doubled 5 (some .int) [(0, 10, 13, 25), (0, 10, 17, 50)] :: ([.classLink RL 25 "java/util/NoSuchElementException", .classLink RL 50 "java/lang/IndexOutOfBoundsException", .methodLink RL 52 yX4_doubled, .instanceMethod yX4_doubled, .selects RX4 yX4_doubled yX4_doubled, .initialized RX4, .code yX4_doubled cX4_doubled 6 (some .int), .classLink RX4 163 "java/lang/IndexOutOfBoundsException", .initialized "java/lang/IndexOutOfBoundsException", .fieldLink RX4 166 "PrintQueue" "doubledCount" "I", .fieldLink RX4 27 "PrintQueue" "doubledJobs" "[I", .fieldLink RX4 105 "PrintQueue$Job" "number" "I", .fieldLink RX4 31 "PrintQueue" "doubledPages" "[I", .methodLink RX4 129 yX4_findJob, .instanceMethod yX4_findJob, .selects RX4 yX4_findJob yX4_findJob, .code yX4_findJob cX4_findJob 3 (some (.object "PrintQueue$Job")), .classLink RX4 197 "java/util/NoSuchElementException", .initialized "java/util/NoSuchElementException", .fieldLink RX4 23 "PrintQueue" "jobs" "[LPrintQueue$Job;", .methodLink RX4 38 yX4_isWithin, .static yX4_isWithin, .code yX4_isWithin cX4_isWithin 3 (some .boolean)] ++ wsX40 ++ wsX00 ++ (vx_at0 RX4 165 "java/lang/IndexOutOfBoundsException" ["java/lang/RuntimeException", "java/lang/Exception"]).filter goodWord ++ (vx_at0 RX4 199 "java/util/NoSuchElementException" ["java/lang/RuntimeException", "java/lang/Exception"]).filter goodWord)
def wsL_account : List Cond := .codeWith yL_account cL_account 5 (some .int) [(0, 9, 12, 25), (0, 9, 16, 50)] :: ([.classLink RL 25 "java/util/NoSuchElementException", .classLink RL 50 "java/lang/IndexOutOfBoundsException", .methodLink RL 55 yX4_account, .instanceMethod yX4_account, .selects RX4 yX4_account yX4_account, .initialized RX4, .code yX4_account cX4_account 4 (some .long), .classLink RX4 163 "java/lang/IndexOutOfBoundsException", .initialized "java/lang/IndexOutOfBoundsException", .fieldLink RX4 169 "PrintQueue$Ticket" "pagesOut" "J", .fieldLink RX4 172 "PrintQueue$Ticket" "sheets" "J", .fieldLink RX4 175 "PrintQueue$Ticket" "changes" "J", .fieldLink RX4 178 "PrintQueue$Ticket" "pagesDoubled" "J", .methodLink RX4 60 yX4_findTicket, .instanceMethod yX4_findTicket, .selects RX4 yX4_findTicket yX4_findTicket, .code yX4_findTicket cX4_findTicket 3 (some (.object "PrintQueue$Ticket")), .classLink RX4 197 "java/util/NoSuchElementException", .initialized "java/util/NoSuchElementException", .fieldLink RX4 17 "PrintQueue" "tickets" "[LPrintQueue$Ticket;", .methodLink RX4 38 yX4_isWithin, .static yX4_isWithin, .code yX4_isWithin cX4_isWithin 3 (some .boolean)] ++ wsX30 ++ wsX40 ++ (vx_at0 RX4 165 "java/lang/IndexOutOfBoundsException" ["java/lang/RuntimeException", "java/lang/Exception"]).filter goodWord ++ (vx_at0 RX4 199 "java/util/NoSuchElementException" ["java/lang/RuntimeException", "java/lang/Exception"]).filter goodWord)
def wsL_reason_r1 : List Cond := [Cond.classLink RL 25 "java/util/NoSuchElementException", Cond.methodLink RL 59 yX4_reason, Cond.instanceMethod yX4_reason, Cond.selects RX4 yX4_reason yX4_reason, Cond.initialized RX4, Cond.code yX4_reason cX4_reason 3 (some .int), Cond.fieldLink RX4 133 "PrintQueue$Job" "held" "Z", Cond.fieldLink RX4 185 "PrintQueue$Job" "time" "J", Cond.fieldLink RX4 83 "PrintQueue" "now" "J", Cond.methodLink RX4 129 yX4_findJob, Cond.instanceMethod yX4_findJob, Cond.selects RX4 yX4_findJob yX4_findJob, Cond.code yX4_findJob cX4_findJob 3 (some (.object "PrintQueue$Job")), Cond.classLink RX4 197 "java/util/NoSuchElementException", Cond.initialized "java/util/NoSuchElementException", Cond.fieldLink RX4 23 "PrintQueue" "jobs" "[LPrintQueue$Job;", Cond.methodLink RX4 38 yX4_isWithin, Cond.static yX4_isWithin, Cond.code yX4_isWithin cX4_isWithin 3 (some .boolean), Cond.methodLink RX4 181 yX0_hasPartThat, Cond.instanceMethod yX0_hasPartThat, Cond.selects RX0 yX0_hasPartThat yX0_hasPartThat, Cond.initialized RX0, Cond.code yX0_hasPartThat cX0_hasPartThat 3 (some .boolean)]
def wsL_reason_r2 : List Cond := [Cond.fieldLink RX0 29 "PrintQueue$Job" "firstPart" "LPrintQueue$Part;", Cond.fieldLink RX0 33 "PrintQueue$Part" "stage" "I", Cond.fieldLink RX0 38 "PrintQueue$Part" "next" "LPrintQueue$Part;", Cond.methodLink RX4 188 yX4_reasonByPrinters, Cond.instanceMethod yX4_reasonByPrinters, Cond.selects RX4 yX4_reasonByPrinters yX4_reasonByPrinters, Cond.code yX4_reasonByPrinters cX4_reasonByPrinters 7 (some .int), Cond.fieldLink RX4 11 "PrintQueue" "printers" "[LPrintQueue$Printer;", Cond.fieldLink RX4 87 "PrintQueue$Printer" "part" "LPrintQueue$Part;", Cond.methodLink RX4 200 yX4_firstPartFor, Cond.static yX4_firstPartFor, Cond.code yX4_firstPartFor cX4_firstPartFor 3 (some (.object "PrintQueue$Part")), Cond.fieldLink RX4 75 "PrintQueue$Job" "firstPart" "LPrintQueue$Part;", Cond.fieldLink RX4 119 "PrintQueue$Part" "stage" "I", Cond.fieldLink RX4 141 "PrintQueue$Part" "next" "LPrintQueue$Part;", Cond.methodLink RX4 208 yX2_fits, Cond.instanceMethod yX2_fits, Cond.selects RX2 yX2_fits yX2_fits, Cond.initialized RX2, Cond.code yX2_fits cX2_fits 2 (some .boolean), Cond.fieldLink RX2 18 "PrintQueue$Printer" "sides" "I", Cond.fieldLink RX2 21 "PrintQueue$Part" "job" "LPrintQueue$Job;", Cond.fieldLink RX2 27 "PrintQueue$Job" "ticket" "LPrintQueue$Ticket;", Cond.fieldLink RX2 33 "PrintQueue$Ticket" "sides" "I"]
def wsL_reason_r3 : List Cond := [Cond.fieldLink RX2 36 "PrintQueue$Part" "onlyPrinter" "I", Cond.fieldLink RX2 9 "PrintQueue$Printer" "number" "I"]
def wsL_reason : List Cond := .codeWith yL_reason cL_reason 4 (some .int) [(0, 9, 12, 25)] :: ((wsL_reason_r1 ++ (wsL_reason_r2 ++ wsL_reason_r3)) ++ wsX00 ++ wsX40 ++ wsX10 ++ wsX20 ++ wsX30 ++ (vx_at0 RX4 199 "java/util/NoSuchElementException" ["java/lang/RuntimeException", "java/lang/Exception"]).filter goodWord)
def wsL_split_r1 : List Cond := [Cond.classLink RL 25 "java/util/NoSuchElementException", Cond.methodLink RL 62 yX4_split, Cond.instanceMethod yX4_split, Cond.selects RX4 yX4_split yX4_split, Cond.initialized RX4, Cond.code yX4_split cX4_split 9 (some .int), Cond.fieldLink RX4 75 "PrintQueue$Job" "firstPart" "LPrintQueue$Part;", Cond.fieldLink RX4 141 "PrintQueue$Part" "next" "LPrintQueue$Part;", Cond.fieldLink RX4 112 "PrintQueue$Part" "copies" "I", Cond.classLink RX4 70 RX1, Cond.instantiable RX1 7, Cond.initialized RX1, Cond.fieldLink RX4 196 "PrintQueue$Printer" "number" "I", Cond.methodLink RX4 129 yX4_findJob, Cond.instanceMethod yX4_findJob, Cond.selects RX4 yX4_findJob yX4_findJob, Cond.code yX4_findJob cX4_findJob 3 (some (.object "PrintQueue$Job")), Cond.classLink RX4 197 "java/util/NoSuchElementException", Cond.initialized "java/util/NoSuchElementException", Cond.fieldLink RX4 23 "PrintQueue" "jobs" "[LPrintQueue$Job;", Cond.methodLink RX4 38 yX4_isWithin, Cond.static yX4_isWithin, Cond.code yX4_isWithin cX4_isWithin 3 (some .boolean), Cond.methodLink RX4 79 yX4_findPrinter]
def wsL_split_r2 : List Cond := [Cond.instanceMethod yX4_findPrinter, Cond.selects RX4 yX4_findPrinter yX4_findPrinter, Cond.code yX4_findPrinter cX4_findPrinter 3 (some (.object "PrintQueue$Printer")), Cond.fieldLink RX4 11 "PrintQueue" "printers" "[LPrintQueue$Printer;", Cond.methodLink RX4 192 yX4_canLose, Cond.static yX4_canLose, Cond.code yX4_canLose cX4_canLose 2 (some .boolean), Cond.fieldLink RX4 119 "PrintQueue$Part" "stage" "I", Cond.fieldLink RX4 249 "PrintQueue$Part" "onlyPrinter" "I", Cond.methodLink RX4 252 yX1_untouchedCopies, Cond.instanceMethod yX1_untouchedCopies, Cond.selects RX1 yX1_untouchedCopies yX1_untouchedCopies, Cond.code yX1_untouchedCopies cX1_untouchedCopies 1 (some .int), Cond.fieldLink RX1 17 "PrintQueue$Part" "copies" "I", Cond.fieldLink RX1 20 "PrintQueue$Part" "wholeCopies" "I", Cond.fieldLink RX1 23 "PrintQueue$Part" "pagesOfCopy" "I", Cond.methodLink RX4 72 yX1_init, Cond.instanceMethod yX1_init, Cond.code yX1_init cX1_init 4 none, Cond.methodLink RX1 1 objectInit, Cond.instanceMethod objectInit, Cond.code objectInit ⟨#[0xb1]⟩ 1 none, Cond.fieldLink RX1 7 "PrintQueue$Part" "job" "LPrintQueue$Job;", Cond.fieldLink RX1 13 "PrintQueue$Part" "onlyPrinter" "I"]
def wsL_split : List Cond := .codeWith yL_split cL_split 6 (some .int) [(0, 12, 15, 25)] :: ((wsL_split_r1 ++ wsL_split_r2) ++ wsX00 ++ wsX10 ++ wsX20 ++ wsX40 ++ (vx_at0 RX4 199 "java/util/NoSuchElementException" ["java/lang/RuntimeException", "java/lang/Exception"]).filter goodWord)
def wsL_like : List Cond := .codeWith yL_like cL_like 4 (some .int) [(0, 9, 12, 13)] :: ([.classLink RL 13 "java/lang/IllegalArgumentException", .methodLink RL 65 yX4_like, .instanceMethod yX4_like, .selects RX4 yX4_like yX4_like, .initialized RX4, .code yX4_like cX4_like 3 (some .int), .classLink RX4 42 "java/lang/IllegalArgumentException", .initialized "java/lang/IllegalArgumentException", .fieldLink RX4 34 "PrintQueue" "bound" "I", .methodLink RX4 38 yX4_isWithin, .static yX4_isWithin, .code yX4_isWithin cX4_isWithin 3 (some .boolean)] ++ wsX40 ++ (vx_at0 RX4 44 "java/lang/IllegalArgumentException" ["java/lang/RuntimeException", "java/lang/Exception"]).filter goodWord)
abbrev vwCl : List vw_C := [(RX0, TX0, 8), (RX1, TX1, 7), (RX2, TX2, 6), (RX3, TX3, 6), (RX4, TX4, 11), (RX5, TX5, 30)]
end
section
theorem dX0_init_0 : decode cX0_init 0 = .ok (.aload_n 0, 1) := by decide +kernel
theorem dX0_init_1 : decode cX0_init 1 = .ok (.invokespecial 3, 3) := by decide +kernel
theorem dX0_init_4 : decode cX0_init 4 = .ok (.aload_n 0, 1) := by decide +kernel
theorem dX0_init_5 : decode cX0_init 5 = .ok (.iload_n 1, 1) := by decide +kernel
theorem dX0_init_6 : decode cX0_init 6 = .ok (.putfield 9, 3) := by decide +kernel
theorem dX0_init_9 : decode cX0_init 9 = .ok (.aload_n 0, 1) := by decide +kernel
theorem dX0_init_10 : decode cX0_init 10 = .ok (.aload_n 2, 1) := by decide +kernel
theorem dX0_init_11 : decode cX0_init 11 = .ok (.putfield 15, 3) := by decide +kernel
theorem dX0_init_14 : decode cX0_init 14 = .ok (.aload_n 0, 1) := by decide +kernel
theorem dX0_init_15 : decode cX0_init 15 = .ok (.iload_n 3, 1) := by decide +kernel
theorem dX0_init_16 : decode cX0_init 16 = .ok (.putfield 19, 3) := by decide +kernel
theorem dX0_init_19 : decode cX0_init 19 = .ok (.aload_n 0, 1) := by decide +kernel
theorem dX0_init_20 : decode cX0_init 20 = .ok (.iload 4, 2) := by decide +kernel
theorem dX0_init_22 : decode cX0_init 22 = .ok (.putfield 22, 3) := by decide +kernel
theorem dX0_init_25 : decode cX0_init 25 = .ok (.aload_n 0, 1) := by decide +kernel
theorem dX0_init_26 : decode cX0_init 26 = .ok (.lload 5, 2) := by decide +kernel
theorem dX0_init_28 : decode cX0_init 28 = .ok (.putfield 25, 3) := by decide +kernel
theorem dX0_init_31 : decode cX0_init 31 = .ok (.return_, 1) := by decide +kernel
theorem dX0_hasPartThat_0 : decode cX0_hasPartThat 0 = .ok (.aload_n 0, 1) := by decide +kernel
theorem dX0_hasPartThat_1 : decode cX0_hasPartThat 1 = .ok (.getfield 29, 3) := by decide +kernel
theorem dX0_hasPartThat_4 : decode cX0_hasPartThat 4 = .ok (.astore_n 2, 1) := by decide +kernel
theorem dX0_hasPartThat_5 : decode cX0_hasPartThat 5 = .ok (.aload_n 2, 1) := by decide +kernel
theorem dX0_hasPartThat_6 : decode cX0_hasPartThat 6 = .ok (.ifnull 21, 3) := by decide +kernel
theorem dX0_hasPartThat_9 : decode cX0_hasPartThat 9 = .ok (.aload_n 2, 1) := by decide +kernel
theorem dX0_hasPartThat_10 : decode cX0_hasPartThat 10 = .ok (.getfield 33, 3) := by decide +kernel
theorem dX0_hasPartThat_13 : decode cX0_hasPartThat 13 = .ok (.iload_n 1, 1) := by decide +kernel
theorem dX0_hasPartThat_14 : decode cX0_hasPartThat 14 = .ok (.if_icmp .ne 5, 3) := by decide +kernel
theorem dX0_hasPartThat_17 : decode cX0_hasPartThat 17 = .ok (.iconst 1, 1) := by decide +kernel
theorem dX0_hasPartThat_18 : decode cX0_hasPartThat 18 = .ok (.ireturn, 1) := by decide +kernel
theorem dX0_hasPartThat_19 : decode cX0_hasPartThat 19 = .ok (.aload_n 2, 1) := by decide +kernel
theorem dX0_hasPartThat_20 : decode cX0_hasPartThat 20 = .ok (.getfield 38, 3) := by decide +kernel
theorem dX0_hasPartThat_23 : decode cX0_hasPartThat 23 = .ok (.astore_n 2, 1) := by decide +kernel
theorem dX0_hasPartThat_24 : decode cX0_hasPartThat 24 = .ok (.goto (-19), 3) := by decide +kernel
theorem dX0_hasPartThat_27 : decode cX0_hasPartThat 27 = .ok (.iconst 0, 1) := by decide +kernel
theorem dX0_hasPartThat_28 : decode cX0_hasPartThat 28 = .ok (.ireturn, 1) := by decide +kernel
theorem dX0_partsHad_0 : decode cX0_partsHad 0 = .ok (.iconst 0, 1) := by decide +kernel
theorem dX0_partsHad_1 : decode cX0_partsHad 1 = .ok (.istore_n 1, 1) := by decide +kernel
theorem dX0_partsHad_2 : decode cX0_partsHad 2 = .ok (.aload_n 0, 1) := by decide +kernel
theorem dX0_partsHad_3 : decode cX0_partsHad 3 = .ok (.getfield 29, 3) := by decide +kernel
theorem dX0_partsHad_6 : decode cX0_partsHad 6 = .ok (.astore_n 2, 1) := by decide +kernel
theorem dX0_partsHad_7 : decode cX0_partsHad 7 = .ok (.aload_n 2, 1) := by decide +kernel
theorem dX0_partsHad_8 : decode cX0_partsHad 8 = .ok (.ifnull 14, 3) := by decide +kernel
theorem dX0_partsHad_11 : decode cX0_partsHad 11 = .ok (.iinc 1 1, 3) := by decide +kernel
theorem dX0_partsHad_14 : decode cX0_partsHad 14 = .ok (.aload_n 2, 1) := by decide +kernel
theorem dX0_partsHad_15 : decode cX0_partsHad 15 = .ok (.getfield 38, 3) := by decide +kernel
theorem dX0_partsHad_18 : decode cX0_partsHad 18 = .ok (.astore_n 2, 1) := by decide +kernel
theorem dX0_partsHad_19 : decode cX0_partsHad 19 = .ok (.goto (-12), 3) := by decide +kernel
theorem dX0_partsHad_22 : decode cX0_partsHad 22 = .ok (.iload_n 1, 1) := by decide +kernel
theorem dX0_partsHad_23 : decode cX0_partsHad 23 = .ok (.ireturn, 1) := by decide +kernel
theorem dX0_wholeCopies_0 : decode cX0_wholeCopies 0 = .ok (.iconst 0, 1) := by decide +kernel
theorem dX0_wholeCopies_1 : decode cX0_wholeCopies 1 = .ok (.istore_n 1, 1) := by decide +kernel
theorem dX0_wholeCopies_2 : decode cX0_wholeCopies 2 = .ok (.aload_n 0, 1) := by decide +kernel
theorem dX0_wholeCopies_3 : decode cX0_wholeCopies 3 = .ok (.getfield 29, 3) := by decide +kernel
theorem dX0_wholeCopies_6 : decode cX0_wholeCopies 6 = .ok (.astore_n 2, 1) := by decide +kernel
theorem dX0_wholeCopies_7 : decode cX0_wholeCopies 7 = .ok (.aload_n 2, 1) := by decide +kernel
theorem dX0_wholeCopies_8 : decode cX0_wholeCopies 8 = .ok (.ifnull 18, 3) := by decide +kernel
theorem dX0_wholeCopies_11 : decode cX0_wholeCopies 11 = .ok (.iload_n 1, 1) := by decide +kernel
theorem dX0_wholeCopies_12 : decode cX0_wholeCopies 12 = .ok (.aload_n 2, 1) := by decide +kernel
theorem dX0_wholeCopies_13 : decode cX0_wholeCopies 13 = .ok (.getfield 41, 3) := by decide +kernel
theorem dX0_wholeCopies_16 : decode cX0_wholeCopies 16 = .ok (.iadd, 1) := by decide +kernel
theorem dX0_wholeCopies_17 : decode cX0_wholeCopies 17 = .ok (.istore_n 1, 1) := by decide +kernel
theorem dX0_wholeCopies_18 : decode cX0_wholeCopies 18 = .ok (.aload_n 2, 1) := by decide +kernel
theorem dX0_wholeCopies_19 : decode cX0_wholeCopies 19 = .ok (.getfield 38, 3) := by decide +kernel
theorem dX0_wholeCopies_22 : decode cX0_wholeCopies 22 = .ok (.astore_n 2, 1) := by decide +kernel
theorem dX0_wholeCopies_23 : decode cX0_wholeCopies 23 = .ok (.goto (-16), 3) := by decide +kernel
theorem dX0_wholeCopies_26 : decode cX0_wholeCopies 26 = .ok (.iload_n 1, 1) := by decide +kernel
theorem dX0_wholeCopies_27 : decode cX0_wholeCopies 27 = .ok (.ireturn, 1) := by decide +kernel
theorem dX0_pagesThatCount_0 : decode cX0_pagesThatCount 0 = .ok (.iconst 0, 1) := by decide +kernel
theorem dX0_pagesThatCount_1 : decode cX0_pagesThatCount 1 = .ok (.istore_n 1, 1) := by decide +kernel
theorem dX0_pagesThatCount_2 : decode cX0_pagesThatCount 2 = .ok (.aload_n 0, 1) := by decide +kernel
theorem dX0_pagesThatCount_3 : decode cX0_pagesThatCount 3 = .ok (.getfield 29, 3) := by decide +kernel
theorem dX0_pagesThatCount_6 : decode cX0_pagesThatCount 6 = .ok (.astore_n 2, 1) := by decide +kernel
theorem dX0_pagesThatCount_7 : decode cX0_pagesThatCount 7 = .ok (.aload_n 2, 1) := by decide +kernel
theorem dX0_pagesThatCount_8 : decode cX0_pagesThatCount 8 = .ok (.ifnull 28, 3) := by decide +kernel
theorem dX0_pagesThatCount_11 : decode cX0_pagesThatCount 11 = .ok (.iload_n 1, 1) := by decide +kernel
theorem dX0_pagesThatCount_12 : decode cX0_pagesThatCount 12 = .ok (.aload_n 2, 1) := by decide +kernel
theorem dX0_pagesThatCount_13 : decode cX0_pagesThatCount 13 = .ok (.getfield 41, 3) := by decide +kernel
theorem dX0_pagesThatCount_16 : decode cX0_pagesThatCount 16 = .ok (.aload_n 0, 1) := by decide +kernel
theorem dX0_pagesThatCount_17 : decode cX0_pagesThatCount 17 = .ok (.getfield 19, 3) := by decide +kernel
theorem dX0_pagesThatCount_20 : decode cX0_pagesThatCount 20 = .ok (.imul, 1) := by decide +kernel
theorem dX0_pagesThatCount_21 : decode cX0_pagesThatCount 21 = .ok (.aload_n 2, 1) := by decide +kernel
theorem dX0_pagesThatCount_22 : decode cX0_pagesThatCount 22 = .ok (.getfield 44, 3) := by decide +kernel
theorem dX0_pagesThatCount_25 : decode cX0_pagesThatCount 25 = .ok (.iadd, 1) := by decide +kernel
theorem dX0_pagesThatCount_26 : decode cX0_pagesThatCount 26 = .ok (.iadd, 1) := by decide +kernel
theorem dX0_pagesThatCount_27 : decode cX0_pagesThatCount 27 = .ok (.istore_n 1, 1) := by decide +kernel
theorem dX0_pagesThatCount_28 : decode cX0_pagesThatCount 28 = .ok (.aload_n 2, 1) := by decide +kernel
theorem dX0_pagesThatCount_29 : decode cX0_pagesThatCount 29 = .ok (.getfield 38, 3) := by decide +kernel
theorem dX0_pagesThatCount_32 : decode cX0_pagesThatCount 32 = .ok (.astore_n 2, 1) := by decide +kernel
theorem dX0_pagesThatCount_33 : decode cX0_pagesThatCount 33 = .ok (.goto (-26), 3) := by decide +kernel
theorem dX0_pagesThatCount_36 : decode cX0_pagesThatCount 36 = .ok (.iload_n 1, 1) := by decide +kernel
theorem dX0_pagesThatCount_37 : decode cX0_pagesThatCount 37 = .ok (.ireturn, 1) := by decide +kernel
set_option maxRecDepth 20000 in
theorem ggX0_condition_X0_hasPartThat : GoodIn wsX0_condition wsX0_hasPartThat := goodIn_r _ [6, 7, 8, 9, 10, 11, 12, 13, 14, 15, 16, 17, 18, 19, 20, 21, 22, 23, 24] (by decide +kernel) (by decide +kernel)
set_option maxRecDepth 20000 in
theorem gX0_condition_X0_hasPartThat : GoodIn wsX0_condition (wsV RX0 51 RX0 yX0_hasPartThat wsX0_hasPartThat) := goodIn_app (goodIn_of _ (by decide +kernel)) ggX0_condition_X0_hasPartThat
theorem dX0_condition_0 : decode cX0_condition 0 = .ok (.aload_n 0, 1) := by decide +kernel
theorem dX0_condition_1 : decode cX0_condition 1 = .ok (.getfield 47, 3) := by decide +kernel
theorem dX0_condition_4 : decode cX0_condition 4 = .ok (.ifCond .eq 5, 3) := by decide +kernel
theorem dX0_condition_7 : decode cX0_condition 7 = .ok (.iconst 3, 1) := by decide +kernel
theorem dX0_condition_8 : decode cX0_condition 8 = .ok (.ireturn, 1) := by decide +kernel
theorem dX0_condition_9 : decode cX0_condition 9 = .ok (.aload_n 0, 1) := by decide +kernel
theorem dX0_condition_10 : decode cX0_condition 10 = .ok (.iconst 1, 1) := by decide +kernel
theorem dX0_condition_11 : decode cX0_condition 11 = .ok (.invokevirtual 51, 3) := by decide +kernel
theorem dX0_condition_14 : decode cX0_condition 14 = .ok (.ifCond .eq 5, 3) := by decide +kernel
theorem dX0_condition_17 : decode cX0_condition 17 = .ok (.iconst 1, 1) := by decide +kernel
theorem dX0_condition_18 : decode cX0_condition 18 = .ok (.ireturn, 1) := by decide +kernel
theorem dX0_condition_19 : decode cX0_condition 19 = .ok (.aload_n 0, 1) := by decide +kernel
theorem dX0_condition_20 : decode cX0_condition 20 = .ok (.iconst 0, 1) := by decide +kernel
theorem dX0_condition_21 : decode cX0_condition 21 = .ok (.invokevirtual 51, 3) := by decide +kernel
theorem dX0_condition_24 : decode cX0_condition 24 = .ok (.ifCond .eq 7, 3) := by decide +kernel
theorem dX0_condition_27 : decode cX0_condition 27 = .ok (.iconst 0, 1) := by decide +kernel
theorem dX0_condition_28 : decode cX0_condition 28 = .ok (.goto 4, 3) := by decide +kernel
theorem dX0_condition_31 : decode cX0_condition 31 = .ok (.iconst 2, 1) := by decide +kernel
theorem dX0_condition_32 : decode cX0_condition 32 = .ok (.ireturn, 1) := by decide +kernel
theorem dX1_init_0 : decode cX1_init 0 = .ok (.aload_n 0, 1) := by decide +kernel
theorem dX1_init_1 : decode cX1_init 1 = .ok (.invokespecial 1, 3) := by decide +kernel
theorem dX1_init_4 : decode cX1_init 4 = .ok (.aload_n 0, 1) := by decide +kernel
theorem dX1_init_5 : decode cX1_init 5 = .ok (.aload_n 1, 1) := by decide +kernel
theorem dX1_init_6 : decode cX1_init 6 = .ok (.putfield 7, 3) := by decide +kernel
theorem dX1_init_9 : decode cX1_init 9 = .ok (.aload_n 0, 1) := by decide +kernel
theorem dX1_init_10 : decode cX1_init 10 = .ok (.iload_n 2, 1) := by decide +kernel
theorem dX1_init_11 : decode cX1_init 11 = .ok (.putfield 13, 3) := by decide +kernel
theorem dX1_init_14 : decode cX1_init 14 = .ok (.aload_n 0, 1) := by decide +kernel
theorem dX1_init_15 : decode cX1_init 15 = .ok (.iload_n 3, 1) := by decide +kernel
theorem dX1_init_16 : decode cX1_init 16 = .ok (.putfield 17, 3) := by decide +kernel
theorem dX1_init_19 : decode cX1_init 19 = .ok (.return_, 1) := by decide +kernel
theorem dX1_untouchedCopies_0 : decode cX1_untouchedCopies 0 = .ok (.aload_n 0, 1) := by decide +kernel
theorem dX1_untouchedCopies_1 : decode cX1_untouchedCopies 1 = .ok (.getfield 17, 3) := by decide +kernel
theorem dX1_untouchedCopies_4 : decode cX1_untouchedCopies 4 = .ok (.aload_n 0, 1) := by decide +kernel
theorem dX1_untouchedCopies_5 : decode cX1_untouchedCopies 5 = .ok (.getfield 20, 3) := by decide +kernel
theorem dX1_untouchedCopies_8 : decode cX1_untouchedCopies 8 = .ok (.isub, 1) := by decide +kernel
theorem dX1_untouchedCopies_9 : decode cX1_untouchedCopies 9 = .ok (.aload_n 0, 1) := by decide +kernel
theorem dX1_untouchedCopies_10 : decode cX1_untouchedCopies 10 = .ok (.getfield 23, 3) := by decide +kernel
theorem dX1_untouchedCopies_13 : decode cX1_untouchedCopies 13 = .ok (.ifCond .le 7, 3) := by decide +kernel
theorem dX1_untouchedCopies_16 : decode cX1_untouchedCopies 16 = .ok (.iconst 1, 1) := by decide +kernel
theorem dX1_untouchedCopies_17 : decode cX1_untouchedCopies 17 = .ok (.goto 4, 3) := by decide +kernel
theorem dX1_untouchedCopies_20 : decode cX1_untouchedCopies 20 = .ok (.iconst 0, 1) := by decide +kernel
theorem dX1_untouchedCopies_21 : decode cX1_untouchedCopies 21 = .ok (.isub, 1) := by decide +kernel
theorem dX1_untouchedCopies_22 : decode cX1_untouchedCopies 22 = .ok (.ireturn, 1) := by decide +kernel
theorem dX1_countPages_0 : decode cX1_countPages 0 = .ok (.aload_n 0, 1) := by decide +kernel
theorem dX1_countPages_1 : decode cX1_countPages 1 = .ok (.dup, 1) := by decide +kernel
theorem dX1_countPages_2 : decode cX1_countPages 2 = .ok (.getfield 23, 3) := by decide +kernel
theorem dX1_countPages_5 : decode cX1_countPages 5 = .ok (.iload_n 1, 1) := by decide +kernel
theorem dX1_countPages_6 : decode cX1_countPages 6 = .ok (.iadd, 1) := by decide +kernel
theorem dX1_countPages_7 : decode cX1_countPages 7 = .ok (.putfield 23, 3) := by decide +kernel
theorem dX1_countPages_10 : decode cX1_countPages 10 = .ok (.aload_n 0, 1) := by decide +kernel
theorem dX1_countPages_11 : decode cX1_countPages 11 = .ok (.getfield 23, 3) := by decide +kernel
theorem dX1_countPages_14 : decode cX1_countPages 14 = .ok (.aload_n 0, 1) := by decide +kernel
theorem dX1_countPages_15 : decode cX1_countPages 15 = .ok (.getfield 7, 3) := by decide +kernel
theorem dX1_countPages_18 : decode cX1_countPages 18 = .ok (.getfield 26, 3) := by decide +kernel
theorem dX1_countPages_21 : decode cX1_countPages 21 = .ok (.if_icmp .lt 18, 3) := by decide +kernel
theorem dX1_countPages_24 : decode cX1_countPages 24 = .ok (.aload_n 0, 1) := by decide +kernel
theorem dX1_countPages_25 : decode cX1_countPages 25 = .ok (.iconst 0, 1) := by decide +kernel
theorem dX1_countPages_26 : decode cX1_countPages 26 = .ok (.putfield 23, 3) := by decide +kernel
theorem dX1_countPages_29 : decode cX1_countPages 29 = .ok (.aload_n 0, 1) := by decide +kernel
theorem dX1_countPages_30 : decode cX1_countPages 30 = .ok (.dup, 1) := by decide +kernel
theorem dX1_countPages_31 : decode cX1_countPages 31 = .ok (.getfield 20, 3) := by decide +kernel
theorem dX1_countPages_34 : decode cX1_countPages 34 = .ok (.iconst 1, 1) := by decide +kernel
theorem dX1_countPages_35 : decode cX1_countPages 35 = .ok (.iadd, 1) := by decide +kernel
theorem dX1_countPages_36 : decode cX1_countPages 36 = .ok (.putfield 20, 3) := by decide +kernel
theorem dX1_countPages_39 : decode cX1_countPages 39 = .ok (.return_, 1) := by decide +kernel
theorem dX2_init_0 : decode cX2_init 0 = .ok (.aload_n 0, 1) := by decide +kernel
theorem dX2_init_1 : decode cX2_init 1 = .ok (.invokespecial 3, 3) := by decide +kernel
theorem dX2_init_4 : decode cX2_init 4 = .ok (.aload_n 0, 1) := by decide +kernel
theorem dX2_init_5 : decode cX2_init 5 = .ok (.iload_n 1, 1) := by decide +kernel
theorem dX2_init_6 : decode cX2_init 6 = .ok (.putfield 9, 3) := by decide +kernel
theorem dX2_init_9 : decode cX2_init 9 = .ok (.aload_n 0, 1) := by decide +kernel
theorem dX2_init_10 : decode cX2_init 10 = .ok (.iload_n 2, 1) := by decide +kernel
theorem dX2_init_11 : decode cX2_init 11 = .ok (.putfield 15, 3) := by decide +kernel
theorem dX2_init_14 : decode cX2_init 14 = .ok (.aload_n 0, 1) := by decide +kernel
theorem dX2_init_15 : decode cX2_init 15 = .ok (.iload_n 3, 1) := by decide +kernel
theorem dX2_init_16 : decode cX2_init 16 = .ok (.putfield 18, 3) := by decide +kernel
theorem dX2_init_19 : decode cX2_init 19 = .ok (.return_, 1) := by decide +kernel
theorem dX2_fits_0 : decode cX2_fits 0 = .ok (.aload_n 0, 1) := by decide +kernel
theorem dX2_fits_1 : decode cX2_fits 1 = .ok (.getfield 18, 3) := by decide +kernel
theorem dX2_fits_4 : decode cX2_fits 4 = .ok (.aload_n 1, 1) := by decide +kernel
theorem dX2_fits_5 : decode cX2_fits 5 = .ok (.getfield 21, 3) := by decide +kernel
theorem dX2_fits_8 : decode cX2_fits 8 = .ok (.getfield 27, 3) := by decide +kernel
theorem dX2_fits_11 : decode cX2_fits 11 = .ok (.getfield 33, 3) := by decide +kernel
theorem dX2_fits_14 : decode cX2_fits 14 = .ok (.if_icmp .lt 25, 3) := by decide +kernel
theorem dX2_fits_17 : decode cX2_fits 17 = .ok (.aload_n 1, 1) := by decide +kernel
theorem dX2_fits_18 : decode cX2_fits 18 = .ok (.getfield 36, 3) := by decide +kernel
theorem dX2_fits_21 : decode cX2_fits 21 = .ok (.ifCond .eq 14, 3) := by decide +kernel
theorem dX2_fits_24 : decode cX2_fits 24 = .ok (.aload_n 1, 1) := by decide +kernel
theorem dX2_fits_25 : decode cX2_fits 25 = .ok (.getfield 36, 3) := by decide +kernel
theorem dX2_fits_28 : decode cX2_fits 28 = .ok (.aload_n 0, 1) := by decide +kernel
theorem dX2_fits_29 : decode cX2_fits 29 = .ok (.getfield 9, 3) := by decide +kernel
theorem dX2_fits_32 : decode cX2_fits 32 = .ok (.if_icmp .ne 7, 3) := by decide +kernel
theorem dX2_fits_35 : decode cX2_fits 35 = .ok (.iconst 1, 1) := by decide +kernel
theorem dX2_fits_36 : decode cX2_fits 36 = .ok (.goto 4, 3) := by decide +kernel
theorem dX2_fits_39 : decode cX2_fits 39 = .ok (.iconst 0, 1) := by decide +kernel
theorem dX2_fits_40 : decode cX2_fits 40 = .ok (.ireturn, 1) := by decide +kernel
theorem dX3_init_0 : decode cX3_init 0 = .ok (.aload_n 0, 1) := by decide +kernel
theorem dX3_init_1 : decode cX3_init 1 = .ok (.invokespecial 1, 3) := by decide +kernel
theorem dX3_init_4 : decode cX3_init 4 = .ok (.aload_n 0, 1) := by decide +kernel
theorem dX3_init_5 : decode cX3_init 5 = .ok (.iload_n 1, 1) := by decide +kernel
theorem dX3_init_6 : decode cX3_init 6 = .ok (.putfield 7, 3) := by decide +kernel
theorem dX3_init_9 : decode cX3_init 9 = .ok (.aload_n 0, 1) := by decide +kernel
theorem dX3_init_10 : decode cX3_init 10 = .ok (.iload_n 2, 1) := by decide +kernel
theorem dX3_init_11 : decode cX3_init 11 = .ok (.putfield 13, 3) := by decide +kernel
theorem dX3_init_14 : decode cX3_init 14 = .ok (.return_, 1) := by decide +kernel
theorem dX4_init_0 : decode cX4_init 0 = .ok (.aload_n 0, 1) := by decide +kernel
theorem dX4_init_1 : decode cX4_init 1 = .ok (.invokespecial 1, 3) := by decide +kernel
theorem dX4_init_4 : decode cX4_init 4 = .ok (.aload_n 0, 1) := by decide +kernel
theorem dX4_init_5 : decode cX4_init 5 = .ok (.bipush 8, 2) := by decide +kernel
theorem dX4_init_7 : decode cX4_init 7 = .ok (.anewarray 9, 3) := by decide +kernel
theorem dX4_init_10 : decode cX4_init 10 = .ok (.putfield 11, 3) := by decide +kernel
theorem dX4_init_13 : decode cX4_init 13 = .ok (.aload_n 0, 1) := by decide +kernel
theorem dX4_init_14 : decode cX4_init 14 = .ok (.bipush 20, 2) := by decide +kernel
theorem dX4_init_16 : decode cX4_init 16 = .ok (.anewarray 15, 3) := by decide +kernel
theorem dX4_init_19 : decode cX4_init 19 = .ok (.putfield 17, 3) := by decide +kernel
theorem dX4_init_22 : decode cX4_init 22 = .ok (.aload_n 0, 1) := by decide +kernel
theorem dX4_init_23 : decode cX4_init 23 = .ok (.bipush 60, 2) := by decide +kernel
theorem dX4_init_25 : decode cX4_init 25 = .ok (.anewarray 21, 3) := by decide +kernel
theorem dX4_init_28 : decode cX4_init 28 = .ok (.putfield 23, 3) := by decide +kernel
theorem dX4_init_31 : decode cX4_init 31 = .ok (.aload_n 0, 1) := by decide +kernel
theorem dX4_init_32 : decode cX4_init 32 = .ok (.sipush 256, 3) := by decide +kernel
theorem dX4_init_35 : decode cX4_init 35 = .ok (.newarray .int, 2) := by decide +kernel
theorem dX4_init_37 : decode cX4_init 37 = .ok (.putfield 27, 3) := by decide +kernel
theorem dX4_init_40 : decode cX4_init 40 = .ok (.aload_n 0, 1) := by decide +kernel
theorem dX4_init_41 : decode cX4_init 41 = .ok (.sipush 256, 3) := by decide +kernel
theorem dX4_init_44 : decode cX4_init 44 = .ok (.newarray .int, 2) := by decide +kernel
theorem dX4_init_46 : decode cX4_init 46 = .ok (.putfield 31, 3) := by decide +kernel
theorem dX4_init_49 : decode cX4_init 49 = .ok (.aload_n 0, 1) := by decide +kernel
theorem dX4_init_50 : decode cX4_init 50 = .ok (.iconst 3, 1) := by decide +kernel
theorem dX4_init_51 : decode cX4_init 51 = .ok (.putfield 34, 3) := by decide +kernel
theorem dX4_init_54 : decode cX4_init 54 = .ok (.return_, 1) := by decide +kernel
set_option maxRecDepth 20000 in
theorem ggX4_printer_X4_isWithin : GoodIn wsX4_printer wsX4_isWithin := goodIn_r _ [13] (by decide +kernel) (by decide +kernel)
set_option maxRecDepth 20000 in
theorem gX4_printer_X4_isWithin : GoodIn wsX4_printer (va_wsS RX4 38 yX4_isWithin wsX4_isWithin) := goodIn_app (goodIn_of _ (by decide +kernel)) ggX4_printer_X4_isWithin
set_option maxRecDepth 20000 in
theorem ggX4_printer_X2_init : GoodIn wsX4_printer wsX2_init := goodIn_r _ [16, 17, 18, 19, 20, 21, 22, 34, 35, 36, 37, 38, 39] (by decide +kernel) (by decide +kernel)
set_option maxRecDepth 20000 in
theorem gX4_printer_X2_init : GoodIn wsX4_printer (wsX2_init) := ggX4_printer_X2_init
theorem dX4_printer_0 : decode cX4_printer 0 = .ok (.iload_n 1, 1) := by decide +kernel
theorem dX4_printer_1 : decode cX4_printer 1 = .ok (.iconst 0, 1) := by decide +kernel
theorem dX4_printer_2 : decode cX4_printer 2 = .ok (.bipush 7, 2) := by decide +kernel
theorem dX4_printer_4 : decode cX4_printer 4 = .ok (.invokestatic 38, 3) := by decide +kernel
theorem dX4_printer_7 : decode cX4_printer 7 = .ok (.ifCond .eq 12, 3) := by decide +kernel
theorem dX4_printer_10 : decode cX4_printer 10 = .ok (.iload_n 2, 1) := by decide +kernel
theorem dX4_printer_11 : decode cX4_printer 11 = .ok (.iconst 1, 1) := by decide +kernel
theorem dX4_printer_12 : decode cX4_printer 12 = .ok (.iconst 2, 1) := by decide +kernel
theorem dX4_printer_13 : decode cX4_printer 13 = .ok (.invokestatic 38, 3) := by decide +kernel
theorem dX4_printer_16 : decode cX4_printer 16 = .ok (.ifCond .ne 11, 3) := by decide +kernel
theorem dX4_printer_19 : decode cX4_printer 19 = .ok (.new 42, 3) := by decide +kernel
theorem dX4_printer_22 : decode cX4_printer 22 = .ok (.dup, 1) := by decide +kernel
theorem dX4_printer_23 : decode cX4_printer 23 = .ok (.invokespecial 44, 3) := by decide +kernel
theorem dX4_printer_26 : decode cX4_printer 26 = .ok (.athrow, 1) := by decide +kernel
theorem dX4_printer_27 : decode cX4_printer 27 = .ok (.aload_n 0, 1) := by decide +kernel
theorem dX4_printer_28 : decode cX4_printer 28 = .ok (.getfield 45, 3) := by decide +kernel
theorem dX4_printer_31 : decode cX4_printer 31 = .ok (.aload_n 0, 1) := by decide +kernel
theorem dX4_printer_32 : decode cX4_printer 32 = .ok (.getfield 11, 3) := by decide +kernel
theorem dX4_printer_35 : decode cX4_printer 35 = .ok (.arraylength, 1) := by decide +kernel
theorem dX4_printer_36 : decode cX4_printer 36 = .ok (.if_icmp .lt 11, 3) := by decide +kernel
theorem dX4_printer_39 : decode cX4_printer 39 = .ok (.new 48, 3) := by decide +kernel
theorem dX4_printer_42 : decode cX4_printer 42 = .ok (.dup, 1) := by decide +kernel
theorem dX4_printer_43 : decode cX4_printer 43 = .ok (.invokespecial 50, 3) := by decide +kernel
theorem dX4_printer_46 : decode cX4_printer 46 = .ok (.athrow, 1) := by decide +kernel
theorem dX4_printer_47 : decode cX4_printer 47 = .ok (.aload_n 0, 1) := by decide +kernel
theorem dX4_printer_48 : decode cX4_printer 48 = .ok (.getfield 11, 3) := by decide +kernel
theorem dX4_printer_51 : decode cX4_printer 51 = .ok (.aload_n 0, 1) := by decide +kernel
theorem dX4_printer_52 : decode cX4_printer 52 = .ok (.getfield 45, 3) := by decide +kernel
theorem dX4_printer_55 : decode cX4_printer 55 = .ok (.new 9, 3) := by decide +kernel
theorem dX4_printer_58 : decode cX4_printer 58 = .ok (.dup, 1) := by decide +kernel
theorem dX4_printer_59 : decode cX4_printer 59 = .ok (.aload_n 0, 1) := by decide +kernel
theorem dX4_printer_60 : decode cX4_printer 60 = .ok (.getfield 45, 3) := by decide +kernel
theorem dX4_printer_63 : decode cX4_printer 63 = .ok (.iconst 1, 1) := by decide +kernel
theorem dX4_printer_64 : decode cX4_printer 64 = .ok (.iadd, 1) := by decide +kernel
theorem dX4_printer_65 : decode cX4_printer 65 = .ok (.iload_n 1, 1) := by decide +kernel
theorem dX4_printer_66 : decode cX4_printer 66 = .ok (.iload_n 2, 1) := by decide +kernel
theorem dX4_printer_67 : decode cX4_printer 67 = .ok (.invokespecial 51, 3) := by decide +kernel
theorem dX4_printer_70 : decode cX4_printer 70 = .ok (.aastore, 1) := by decide +kernel
theorem dX4_printer_71 : decode cX4_printer 71 = .ok (.aload_n 0, 1) := by decide +kernel
theorem dX4_printer_72 : decode cX4_printer 72 = .ok (.dup, 1) := by decide +kernel
theorem dX4_printer_73 : decode cX4_printer 73 = .ok (.getfield 45, 3) := by decide +kernel
theorem dX4_printer_76 : decode cX4_printer 76 = .ok (.iconst 1, 1) := by decide +kernel
theorem dX4_printer_77 : decode cX4_printer 77 = .ok (.iadd, 1) := by decide +kernel
theorem dX4_printer_78 : decode cX4_printer 78 = .ok (.putfield 45, 3) := by decide +kernel
theorem dX4_printer_81 : decode cX4_printer 81 = .ok (.aload_n 0, 1) := by decide +kernel
theorem dX4_printer_82 : decode cX4_printer 82 = .ok (.getfield 45, 3) := by decide +kernel
theorem dX4_printer_85 : decode cX4_printer 85 = .ok (.ireturn, 1) := by decide +kernel
set_option maxRecDepth 20000 in
theorem ggX4_ticket_X4_isWithin : GoodIn wsX4_ticket wsX4_isWithin := goodIn_r _ [13] (by decide +kernel) (by decide +kernel)
set_option maxRecDepth 20000 in
theorem gX4_ticket_X4_isWithin : GoodIn wsX4_ticket (va_wsS RX4 38 yX4_isWithin wsX4_isWithin) := goodIn_app (goodIn_of _ (by decide +kernel)) ggX4_ticket_X4_isWithin
set_option maxRecDepth 20000 in
theorem ggX4_ticket_X3_init : GoodIn wsX4_ticket wsX3_init := goodIn_r _ [16, 17, 18, 19, 20, 21, 33, 34, 35, 36, 37, 38] (by decide +kernel) (by decide +kernel)
set_option maxRecDepth 20000 in
theorem gX4_ticket_X3_init : GoodIn wsX4_ticket (wsX3_init) := ggX4_ticket_X3_init
theorem dX4_ticket_0 : decode cX4_ticket 0 = .ok (.iload_n 1, 1) := by decide +kernel
theorem dX4_ticket_1 : decode cX4_ticket 1 = .ok (.iconst 0, 1) := by decide +kernel
theorem dX4_ticket_2 : decode cX4_ticket 2 = .ok (.bipush 7, 2) := by decide +kernel
theorem dX4_ticket_4 : decode cX4_ticket 4 = .ok (.invokestatic 38, 3) := by decide +kernel
theorem dX4_ticket_7 : decode cX4_ticket 7 = .ok (.ifCond .eq 21, 3) := by decide +kernel
theorem dX4_ticket_10 : decode cX4_ticket 10 = .ok (.iload_n 2, 1) := by decide +kernel
theorem dX4_ticket_11 : decode cX4_ticket 11 = .ok (.iconst 1, 1) := by decide +kernel
theorem dX4_ticket_12 : decode cX4_ticket 12 = .ok (.iconst 2, 1) := by decide +kernel
theorem dX4_ticket_13 : decode cX4_ticket 13 = .ok (.invokestatic 38, 3) := by decide +kernel
theorem dX4_ticket_16 : decode cX4_ticket 16 = .ok (.ifCond .eq 12, 3) := by decide +kernel
theorem dX4_ticket_19 : decode cX4_ticket 19 = .ok (.iload_n 3, 1) := by decide +kernel
theorem dX4_ticket_20 : decode cX4_ticket 20 = .ok (.iconst 0, 1) := by decide +kernel
theorem dX4_ticket_21 : decode cX4_ticket 21 = .ok (.iconst 3, 1) := by decide +kernel
theorem dX4_ticket_22 : decode cX4_ticket 22 = .ok (.invokestatic 38, 3) := by decide +kernel
theorem dX4_ticket_25 : decode cX4_ticket 25 = .ok (.ifCond .ne 11, 3) := by decide +kernel
theorem dX4_ticket_28 : decode cX4_ticket 28 = .ok (.new 42, 3) := by decide +kernel
theorem dX4_ticket_31 : decode cX4_ticket 31 = .ok (.dup, 1) := by decide +kernel
theorem dX4_ticket_32 : decode cX4_ticket 32 = .ok (.invokespecial 44, 3) := by decide +kernel
theorem dX4_ticket_35 : decode cX4_ticket 35 = .ok (.athrow, 1) := by decide +kernel
theorem dX4_ticket_36 : decode cX4_ticket 36 = .ok (.aload_n 0, 1) := by decide +kernel
theorem dX4_ticket_37 : decode cX4_ticket 37 = .ok (.getfield 54, 3) := by decide +kernel
theorem dX4_ticket_40 : decode cX4_ticket 40 = .ok (.aload_n 0, 1) := by decide +kernel
theorem dX4_ticket_41 : decode cX4_ticket 41 = .ok (.getfield 17, 3) := by decide +kernel
theorem dX4_ticket_44 : decode cX4_ticket 44 = .ok (.arraylength, 1) := by decide +kernel
theorem dX4_ticket_45 : decode cX4_ticket 45 = .ok (.if_icmp .lt 11, 3) := by decide +kernel
theorem dX4_ticket_48 : decode cX4_ticket 48 = .ok (.new 48, 3) := by decide +kernel
theorem dX4_ticket_51 : decode cX4_ticket 51 = .ok (.dup, 1) := by decide +kernel
theorem dX4_ticket_52 : decode cX4_ticket 52 = .ok (.invokespecial 50, 3) := by decide +kernel
theorem dX4_ticket_55 : decode cX4_ticket 55 = .ok (.athrow, 1) := by decide +kernel
theorem dX4_ticket_56 : decode cX4_ticket 56 = .ok (.aload_n 0, 1) := by decide +kernel
theorem dX4_ticket_57 : decode cX4_ticket 57 = .ok (.getfield 17, 3) := by decide +kernel
theorem dX4_ticket_60 : decode cX4_ticket 60 = .ok (.aload_n 0, 1) := by decide +kernel
theorem dX4_ticket_61 : decode cX4_ticket 61 = .ok (.getfield 54, 3) := by decide +kernel
theorem dX4_ticket_64 : decode cX4_ticket 64 = .ok (.new 15, 3) := by decide +kernel
theorem dX4_ticket_67 : decode cX4_ticket 67 = .ok (.dup, 1) := by decide +kernel
theorem dX4_ticket_68 : decode cX4_ticket 68 = .ok (.iload_n 1, 1) := by decide +kernel
theorem dX4_ticket_69 : decode cX4_ticket 69 = .ok (.iload_n 2, 1) := by decide +kernel
theorem dX4_ticket_70 : decode cX4_ticket 70 = .ok (.invokespecial 57, 3) := by decide +kernel
theorem dX4_ticket_73 : decode cX4_ticket 73 = .ok (.aastore, 1) := by decide +kernel
theorem dX4_ticket_74 : decode cX4_ticket 74 = .ok (.aload_n 0, 1) := by decide +kernel
theorem dX4_ticket_75 : decode cX4_ticket 75 = .ok (.dup, 1) := by decide +kernel
theorem dX4_ticket_76 : decode cX4_ticket 76 = .ok (.getfield 54, 3) := by decide +kernel
theorem dX4_ticket_79 : decode cX4_ticket 79 = .ok (.iconst 1, 1) := by decide +kernel
theorem dX4_ticket_80 : decode cX4_ticket 80 = .ok (.iadd, 1) := by decide +kernel
theorem dX4_ticket_81 : decode cX4_ticket 81 = .ok (.putfield 54, 3) := by decide +kernel
theorem dX4_ticket_84 : decode cX4_ticket 84 = .ok (.aload_n 0, 1) := by decide +kernel
theorem dX4_ticket_85 : decode cX4_ticket 85 = .ok (.getfield 54, 3) := by decide +kernel
theorem dX4_ticket_88 : decode cX4_ticket 88 = .ok (.ireturn, 1) := by decide +kernel
set_option maxRecDepth 20000 in
theorem ggX4_job_X4_findTicket : GoodIn wsX4_job wsX4_findTicket := goodIn_ca (goodIn_r _ [18, 19, 20, 21, 22, 23, 17, 24, 43, 44, 45, 46, 47, 48, 49, 50, 51, 52, 53] (by decide +kernel) (by decide +kernel)) (goodIn_sub (fun _ h => List.mem_cons_of_mem _ (List.mem_append_right _ h)) (by decide +kernel))
set_option maxRecDepth 20000 in
theorem gX4_job_X4_findTicket : GoodIn wsX4_job (wsV RX4 60 RX4 yX4_findTicket wsX4_findTicket) := goodIn_app (goodIn_of _ (by decide +kernel)) ggX4_job_X4_findTicket
set_option maxRecDepth 20000 in
theorem ggX4_job_X4_isWithin : GoodIn wsX4_job wsX4_isWithin := goodIn_r _ [24] (by decide +kernel) (by decide +kernel)
set_option maxRecDepth 20000 in
theorem gX4_job_X4_isWithin : GoodIn wsX4_job (va_wsS RX4 38 yX4_isWithin wsX4_isWithin) := goodIn_app (goodIn_of _ (by decide +kernel)) ggX4_job_X4_isWithin
set_option maxRecDepth 20000 in
theorem ggX4_job_X0_init : GoodIn wsX4_job wsX0_init := goodIn_r _ [27, 28, 29, 30, 31, 32, 33, 34, 35, 54, 55, 56, 57, 58, 59, 60, 61] (by decide +kernel) (by decide +kernel)
set_option maxRecDepth 20000 in
theorem gX4_job_X0_init : GoodIn wsX4_job (wsX0_init) := ggX4_job_X0_init
set_option maxRecDepth 20000 in
theorem ggX4_job_X1_init : GoodIn wsX4_job wsX1_init := goodIn_r _ [38, 39, 29, 30, 40, 41, 42, 62, 63, 64, 65, 66, 67, 68] (by decide +kernel) (by decide +kernel)
set_option maxRecDepth 20000 in
theorem gX4_job_X1_init : GoodIn wsX4_job (wsX1_init) := ggX4_job_X1_init
theorem dX4_job_0 : decode cX4_job 0 = .ok (.aload_n 0, 1) := by decide +kernel
theorem dX4_job_1 : decode cX4_job 1 = .ok (.iload_n 1, 1) := by decide +kernel
theorem dX4_job_2 : decode cX4_job 2 = .ok (.invokevirtual 60, 3) := by decide +kernel
theorem dX4_job_5 : decode cX4_job 5 = .ok (.astore 7, 2) := by decide +kernel
theorem dX4_job_7 : decode cX4_job 7 = .ok (.iload_n 2, 1) := by decide +kernel
theorem dX4_job_8 : decode cX4_job 8 = .ok (.iconst 1, 1) := by decide +kernel
theorem dX4_job_9 : decode cX4_job 9 = .ok (.sipush 500, 3) := by decide +kernel
theorem dX4_job_12 : decode cX4_job 12 = .ok (.invokestatic 38, 3) := by decide +kernel
theorem dX4_job_15 : decode cX4_job 15 = .ok (.ifCond .eq 31, 3) := by decide +kernel
theorem dX4_job_18 : decode cX4_job 18 = .ok (.iload_n 3, 1) := by decide +kernel
theorem dX4_job_19 : decode cX4_job 19 = .ok (.iconst 1, 1) := by decide +kernel
theorem dX4_job_20 : decode cX4_job 20 = .ok (.bipush 100, 2) := by decide +kernel
theorem dX4_job_22 : decode cX4_job 22 = .ok (.invokestatic 38, 3) := by decide +kernel
theorem dX4_job_25 : decode cX4_job 25 = .ok (.ifCond .eq 21, 3) := by decide +kernel
theorem dX4_job_28 : decode cX4_job 28 = .ok (.iload 4, 2) := by decide +kernel
theorem dX4_job_30 : decode cX4_job 30 = .ok (.iconst 0, 1) := by decide +kernel
theorem dX4_job_31 : decode cX4_job 31 = .ok (.bipush 9, 2) := by decide +kernel
theorem dX4_job_33 : decode cX4_job 33 = .ok (.invokestatic 38, 3) := by decide +kernel
theorem dX4_job_36 : decode cX4_job 36 = .ok (.ifCond .eq 10, 3) := by decide +kernel
theorem dX4_job_39 : decode cX4_job 39 = .ok (.lload 5, 2) := by decide +kernel
theorem dX4_job_41 : decode cX4_job 41 = .ok (.lconst 0, 1) := by decide +kernel
theorem dX4_job_42 : decode cX4_job 42 = .ok (.lcmp, 1) := by decide +kernel
theorem dX4_job_43 : decode cX4_job 43 = .ok (.ifCond .ge 11, 3) := by decide +kernel
theorem dX4_job_46 : decode cX4_job 46 = .ok (.new 42, 3) := by decide +kernel
theorem dX4_job_49 : decode cX4_job 49 = .ok (.dup, 1) := by decide +kernel
theorem dX4_job_50 : decode cX4_job 50 = .ok (.invokespecial 44, 3) := by decide +kernel
theorem dX4_job_53 : decode cX4_job 53 = .ok (.athrow, 1) := by decide +kernel
theorem dX4_job_54 : decode cX4_job 54 = .ok (.aload_n 0, 1) := by decide +kernel
theorem dX4_job_55 : decode cX4_job 55 = .ok (.getfield 64, 3) := by decide +kernel
theorem dX4_job_58 : decode cX4_job 58 = .ok (.aload_n 0, 1) := by decide +kernel
theorem dX4_job_59 : decode cX4_job 59 = .ok (.getfield 23, 3) := by decide +kernel
theorem dX4_job_62 : decode cX4_job 62 = .ok (.arraylength, 1) := by decide +kernel
theorem dX4_job_63 : decode cX4_job 63 = .ok (.if_icmp .lt 11, 3) := by decide +kernel
theorem dX4_job_66 : decode cX4_job 66 = .ok (.new 48, 3) := by decide +kernel
theorem dX4_job_69 : decode cX4_job 69 = .ok (.dup, 1) := by decide +kernel
theorem dX4_job_70 : decode cX4_job 70 = .ok (.invokespecial 50, 3) := by decide +kernel
theorem dX4_job_73 : decode cX4_job 73 = .ok (.athrow, 1) := by decide +kernel
theorem dX4_job_74 : decode cX4_job 74 = .ok (.new 21, 3) := by decide +kernel
theorem dX4_job_77 : decode cX4_job 77 = .ok (.dup, 1) := by decide +kernel
theorem dX4_job_78 : decode cX4_job 78 = .ok (.aload_n 0, 1) := by decide +kernel
theorem dX4_job_79 : decode cX4_job 79 = .ok (.getfield 64, 3) := by decide +kernel
theorem dX4_job_82 : decode cX4_job 82 = .ok (.iconst 1, 1) := by decide +kernel
theorem dX4_job_83 : decode cX4_job 83 = .ok (.iadd, 1) := by decide +kernel
theorem dX4_job_84 : decode cX4_job 84 = .ok (.aload 7, 2) := by decide +kernel
theorem dX4_job_86 : decode cX4_job 86 = .ok (.iload_n 2, 1) := by decide +kernel
theorem dX4_job_87 : decode cX4_job 87 = .ok (.iload 4, 2) := by decide +kernel
theorem dX4_job_89 : decode cX4_job 89 = .ok (.lload 5, 2) := by decide +kernel
theorem dX4_job_91 : decode cX4_job 91 = .ok (.invokespecial 67, 3) := by decide +kernel
theorem dX4_job_94 : decode cX4_job 94 = .ok (.astore 8, 2) := by decide +kernel
theorem dX4_job_96 : decode cX4_job 96 = .ok (.aload 8, 2) := by decide +kernel
theorem dX4_job_98 : decode cX4_job 98 = .ok (.new 70, 3) := by decide +kernel
theorem dX4_job_101 : decode cX4_job 101 = .ok (.dup, 1) := by decide +kernel
theorem dX4_job_102 : decode cX4_job 102 = .ok (.aload 8, 2) := by decide +kernel
theorem dX4_job_104 : decode cX4_job 104 = .ok (.iconst 0, 1) := by decide +kernel
theorem dX4_job_105 : decode cX4_job 105 = .ok (.iload_n 3, 1) := by decide +kernel
theorem dX4_job_106 : decode cX4_job 106 = .ok (.invokespecial 72, 3) := by decide +kernel
theorem dX4_job_109 : decode cX4_job 109 = .ok (.putfield 75, 3) := by decide +kernel
theorem dX4_job_112 : decode cX4_job 112 = .ok (.aload_n 0, 1) := by decide +kernel
theorem dX4_job_113 : decode cX4_job 113 = .ok (.getfield 23, 3) := by decide +kernel
theorem dX4_job_116 : decode cX4_job 116 = .ok (.aload_n 0, 1) := by decide +kernel
theorem dX4_job_117 : decode cX4_job 117 = .ok (.getfield 64, 3) := by decide +kernel
theorem dX4_job_120 : decode cX4_job 120 = .ok (.aload 8, 2) := by decide +kernel
theorem dX4_job_122 : decode cX4_job 122 = .ok (.aastore, 1) := by decide +kernel
theorem dX4_job_123 : decode cX4_job 123 = .ok (.aload_n 0, 1) := by decide +kernel
theorem dX4_job_124 : decode cX4_job 124 = .ok (.dup, 1) := by decide +kernel
theorem dX4_job_125 : decode cX4_job 125 = .ok (.getfield 64, 3) := by decide +kernel
theorem dX4_job_128 : decode cX4_job 128 = .ok (.iconst 1, 1) := by decide +kernel
theorem dX4_job_129 : decode cX4_job 129 = .ok (.iadd, 1) := by decide +kernel
theorem dX4_job_130 : decode cX4_job 130 = .ok (.putfield 64, 3) := by decide +kernel
theorem dX4_job_133 : decode cX4_job 133 = .ok (.aload_n 0, 1) := by decide +kernel
theorem dX4_job_134 : decode cX4_job 134 = .ok (.getfield 64, 3) := by decide +kernel
theorem dX4_job_137 : decode cX4_job 137 = .ok (.ireturn, 1) := by decide +kernel
set_option maxRecDepth 20000 in
theorem ggX4_take_X4_findPrinter : GoodIn wsX4_take wsX4_findPrinter := goodIn_ca (goodIn_r _ [13, 14, 15, 16, 17, 18, 12, 19, 59, 60, 61, 62, 63, 64, 65, 66, 67, 68, 69] (by decide +kernel) (by decide +kernel)) (goodIn_sub (fun _ h => List.mem_cons_of_mem _ (List.mem_append_right _ h)) (by decide +kernel))
set_option maxRecDepth 20000 in
theorem gX4_take_X4_findPrinter : GoodIn wsX4_take (wsV RX4 79 RX4 yX4_findPrinter wsX4_findPrinter) := goodIn_app (goodIn_of _ (by decide +kernel)) ggX4_take_X4_findPrinter
set_option maxRecDepth 20000 in
theorem ggX4_take_X4_choosePart : GoodIn wsX4_take wsX4_choosePart := goodIn_r _ [23, 24, 25, 26, 5, 7, 27, 28, 12, 29, 30, 31, 32, 33, 34, 35, 36, 37, 38, 39, 40, 41, 42, 43, 44, 45, 46, 47, 48, 49, 50, 51, 52, 53, 59, 60, 61, 62, 63, 64, 65, 66, 67, 68, 69, 83, 84, 85, 86, 87, 88, 89, 90, 76, 77, 78, 79, 80, 81, 82, 70, 71, 72, 73, 74, 75, 91, 92, 93, 94, 95, 96] (by decide +kernel) (by decide +kernel)
set_option maxRecDepth 20000 in
theorem gX4_take_X4_choosePart : GoodIn wsX4_take (wsV RX4 93 RX4 yX4_choosePart wsX4_choosePart) := goodIn_app (goodIn_of _ (by decide +kernel)) ggX4_take_X4_choosePart
set_option maxRecDepth 20000 in
theorem ggX4_take_X4_bringTo : GoodIn wsX4_take wsX4_bringTo := goodIn_r _ [56, 7, 49, 50, 51, 52, 57, 31, 6, 58, 76, 77, 78, 79, 80, 81, 82, 83, 84, 85, 86, 87, 88, 89, 90, 91, 92, 93, 94, 95, 96, 70, 71, 72, 73, 74, 75] (by decide +kernel) (by decide +kernel)
set_option maxRecDepth 20000 in
theorem gX4_take_X4_bringTo : GoodIn wsX4_take (va_wsS RX4 97 yX4_bringTo wsX4_bringTo) := goodIn_app (goodIn_of _ (by decide +kernel)) ggX4_take_X4_bringTo
theorem dX4_take_0 : decode cX4_take 0 = .ok (.aload_n 0, 1) := by decide +kernel
theorem dX4_take_1 : decode cX4_take 1 = .ok (.iload_n 1, 1) := by decide +kernel
theorem dX4_take_2 : decode cX4_take 2 = .ok (.invokevirtual 79, 3) := by decide +kernel
theorem dX4_take_5 : decode cX4_take 5 = .ok (.astore 4, 2) := by decide +kernel
theorem dX4_take_7 : decode cX4_take 7 = .ok (.lload_n 2, 1) := by decide +kernel
theorem dX4_take_8 : decode cX4_take 8 = .ok (.aload_n 0, 1) := by decide +kernel
theorem dX4_take_9 : decode cX4_take 9 = .ok (.getfield 83, 3) := by decide +kernel
theorem dX4_take_12 : decode cX4_take 12 = .ok (.lcmp, 1) := by decide +kernel
theorem dX4_take_13 : decode cX4_take 13 = .ok (.ifCond .ge 11, 3) := by decide +kernel
theorem dX4_take_16 : decode cX4_take 16 = .ok (.new 42, 3) := by decide +kernel
theorem dX4_take_19 : decode cX4_take 19 = .ok (.dup, 1) := by decide +kernel
theorem dX4_take_20 : decode cX4_take 20 = .ok (.invokespecial 44, 3) := by decide +kernel
theorem dX4_take_23 : decode cX4_take 23 = .ok (.athrow, 1) := by decide +kernel
theorem dX4_take_24 : decode cX4_take 24 = .ok (.aload 4, 2) := by decide +kernel
theorem dX4_take_26 : decode cX4_take 26 = .ok (.getfield 87, 3) := by decide +kernel
theorem dX4_take_29 : decode cX4_take 29 = .ok (.ifnull 11, 3) := by decide +kernel
theorem dX4_take_32 : decode cX4_take 32 = .ok (.new 90, 3) := by decide +kernel
theorem dX4_take_35 : decode cX4_take 35 = .ok (.dup, 1) := by decide +kernel
theorem dX4_take_36 : decode cX4_take 36 = .ok (.invokespecial 92, 3) := by decide +kernel
theorem dX4_take_39 : decode cX4_take 39 = .ok (.athrow, 1) := by decide +kernel
theorem dX4_take_40 : decode cX4_take 40 = .ok (.aload_n 0, 1) := by decide +kernel
theorem dX4_take_41 : decode cX4_take 41 = .ok (.lload_n 2, 1) := by decide +kernel
theorem dX4_take_42 : decode cX4_take 42 = .ok (.putfield 83, 3) := by decide +kernel
theorem dX4_take_45 : decode cX4_take 45 = .ok (.aload_n 0, 1) := by decide +kernel
theorem dX4_take_46 : decode cX4_take 46 = .ok (.aload 4, 2) := by decide +kernel
theorem dX4_take_48 : decode cX4_take 48 = .ok (.invokevirtual 93, 3) := by decide +kernel
theorem dX4_take_51 : decode cX4_take 51 = .ok (.astore 5, 2) := by decide +kernel
theorem dX4_take_53 : decode cX4_take 53 = .ok (.aload 5, 2) := by decide +kernel
theorem dX4_take_55 : decode cX4_take 55 = .ok (.ifnonnull 5, 3) := by decide +kernel
theorem dX4_take_58 : decode cX4_take 58 = .ok (.iconst 0, 1) := by decide +kernel
theorem dX4_take_59 : decode cX4_take 59 = .ok (.ireturn, 1) := by decide +kernel
theorem dX4_take_60 : decode cX4_take 60 = .ok (.aload 4, 2) := by decide +kernel
theorem dX4_take_62 : decode cX4_take 62 = .ok (.aload 5, 2) := by decide +kernel
theorem dX4_take_64 : decode cX4_take 64 = .ok (.invokestatic 97, 3) := by decide +kernel
theorem dX4_take_67 : decode cX4_take 67 = .ok (.aload 5, 2) := by decide +kernel
theorem dX4_take_69 : decode cX4_take 69 = .ok (.getfield 101, 3) := by decide +kernel
theorem dX4_take_72 : decode cX4_take 72 = .ok (.getfield 105, 3) := by decide +kernel
theorem dX4_take_75 : decode cX4_take 75 = .ok (.ireturn, 1) := by decide +kernel
set_option maxRecDepth 20000 in
theorem ggX4_print_X4_findPrinter : GoodIn wsX4_print wsX4_findPrinter := goodIn_ca (goodIn_r _ [12, 13, 14, 15, 16, 17, 11, 18, 59, 60, 61, 62, 63, 64, 65, 66, 67, 68, 69] (by decide +kernel) (by decide +kernel)) (goodIn_sub (fun _ h => List.mem_cons_of_mem _ (List.mem_append_right _ h)) (by decide +kernel))
set_option maxRecDepth 20000 in
theorem gX4_print_X4_findPrinter : GoodIn wsX4_print (wsV RX4 79 RX4 yX4_findPrinter wsX4_findPrinter) := goodIn_app (goodIn_of _ (by decide +kernel)) ggX4_print_X4_findPrinter
set_option maxRecDepth 20000 in
theorem ggX4_print_X4_isWithin : GoodIn wsX4_print wsX4_isWithin := goodIn_r _ [18] (by decide +kernel) (by decide +kernel)
set_option maxRecDepth 20000 in
theorem gX4_print_X4_isWithin : GoodIn wsX4_print (va_wsS RX4 38 yX4_isWithin wsX4_isWithin) := goodIn_app (goodIn_of _ (by decide +kernel)) ggX4_print_X4_isWithin
set_option maxRecDepth 20000 in
theorem ggX4_print_X4_printInCopy : GoodIn wsX4_print wsX4_printInCopy := goodIn_r _ [21, 22, 23, 24, 25, 26, 27, 28, 29, 30, 31, 32, 33, 34, 35, 11, 36, 37, 38, 39, 40, 41, 42, 43, 44, 45, 52, 53, 54, 55, 56, 57, 58, 70, 71, 72, 73, 74, 75, 76, 77, 78, 79, 80, 81, 82, 83, 46, 47, 48, 49, 50, 51] (by decide +kernel) (by decide +kernel)
set_option maxRecDepth 20000 in
theorem gX4_print_X4_printInCopy : GoodIn wsX4_print (va_wsS RX4 115 yX4_printInCopy wsX4_printInCopy) := goodIn_app (goodIn_of _ (by decide +kernel)) ggX4_print_X4_printInCopy
theorem dX4_print_0 : decode cX4_print 0 = .ok (.aload_n 0, 1) := by decide +kernel
theorem dX4_print_1 : decode cX4_print 1 = .ok (.iload_n 1, 1) := by decide +kernel
theorem dX4_print_2 : decode cX4_print 2 = .ok (.invokevirtual 79, 3) := by decide +kernel
theorem dX4_print_5 : decode cX4_print 5 = .ok (.astore_n 3, 1) := by decide +kernel
theorem dX4_print_6 : decode cX4_print 6 = .ok (.iload_n 2, 1) := by decide +kernel
theorem dX4_print_7 : decode cX4_print 7 = .ok (.iconst 0, 1) := by decide +kernel
theorem dX4_print_8 : decode cX4_print 8 = .ok (.ldc 108, 2) := by decide +kernel
theorem dX4_print_10 : decode cX4_print 10 = .ok (.invokestatic 38, 3) := by decide +kernel
theorem dX4_print_13 : decode cX4_print 13 = .ok (.ifCond .ne 11, 3) := by decide +kernel
theorem dX4_print_16 : decode cX4_print 16 = .ok (.new 42, 3) := by decide +kernel
theorem dX4_print_19 : decode cX4_print 19 = .ok (.dup, 1) := by decide +kernel
theorem dX4_print_20 : decode cX4_print 20 = .ok (.invokespecial 44, 3) := by decide +kernel
theorem dX4_print_23 : decode cX4_print 23 = .ok (.athrow, 1) := by decide +kernel
theorem dX4_print_24 : decode cX4_print 24 = .ok (.aload_n 3, 1) := by decide +kernel
theorem dX4_print_25 : decode cX4_print 25 = .ok (.getfield 87, 3) := by decide +kernel
theorem dX4_print_28 : decode cX4_print 28 = .ok (.astore 4, 2) := by decide +kernel
theorem dX4_print_30 : decode cX4_print 30 = .ok (.aload 4, 2) := by decide +kernel
theorem dX4_print_32 : decode cX4_print 32 = .ok (.ifnonnull 5, 3) := by decide +kernel
theorem dX4_print_35 : decode cX4_print 35 = .ok (.iconst 0, 1) := by decide +kernel
theorem dX4_print_36 : decode cX4_print 36 = .ok (.ireturn, 1) := by decide +kernel
theorem dX4_print_37 : decode cX4_print 37 = .ok (.iconst 0, 1) := by decide +kernel
theorem dX4_print_38 : decode cX4_print 38 = .ok (.istore 5, 2) := by decide +kernel
theorem dX4_print_40 : decode cX4_print 40 = .ok (.iconst 0, 1) := by decide +kernel
theorem dX4_print_41 : decode cX4_print 41 = .ok (.istore 6, 2) := by decide +kernel
theorem dX4_print_43 : decode cX4_print 43 = .ok (.iload 6, 2) := by decide +kernel
theorem dX4_print_45 : decode cX4_print 45 = .ok (.bipush 100, 2) := by decide +kernel
theorem dX4_print_47 : decode cX4_print 47 = .ok (.if_icmp .ge 43, 3) := by decide +kernel
theorem dX4_print_50 : decode cX4_print 50 = .ok (.iload 5, 2) := by decide +kernel
theorem dX4_print_52 : decode cX4_print 52 = .ok (.iload_n 2, 1) := by decide +kernel
theorem dX4_print_53 : decode cX4_print 53 = .ok (.if_icmp .ge 37, 3) := by decide +kernel
theorem dX4_print_56 : decode cX4_print 56 = .ok (.aload 4, 2) := by decide +kernel
theorem dX4_print_58 : decode cX4_print 58 = .ok (.getfield 109, 3) := by decide +kernel
theorem dX4_print_61 : decode cX4_print 61 = .ok (.aload 4, 2) := by decide +kernel
theorem dX4_print_63 : decode cX4_print 63 = .ok (.getfield 112, 3) := by decide +kernel
theorem dX4_print_66 : decode cX4_print 66 = .ok (.if_icmp .ge 24, 3) := by decide +kernel
theorem dX4_print_69 : decode cX4_print 69 = .ok (.iload 5, 2) := by decide +kernel
theorem dX4_print_71 : decode cX4_print 71 = .ok (.aload_n 3, 1) := by decide +kernel
theorem dX4_print_72 : decode cX4_print 72 = .ok (.aload 4, 2) := by decide +kernel
theorem dX4_print_74 : decode cX4_print 74 = .ok (.iload_n 2, 1) := by decide +kernel
theorem dX4_print_75 : decode cX4_print 75 = .ok (.iload 5, 2) := by decide +kernel
theorem dX4_print_77 : decode cX4_print 77 = .ok (.isub, 1) := by decide +kernel
theorem dX4_print_78 : decode cX4_print 78 = .ok (.invokestatic 115, 3) := by decide +kernel
theorem dX4_print_81 : decode cX4_print 81 = .ok (.iadd, 1) := by decide +kernel
theorem dX4_print_82 : decode cX4_print 82 = .ok (.istore 5, 2) := by decide +kernel
theorem dX4_print_84 : decode cX4_print 84 = .ok (.iinc 6 1, 3) := by decide +kernel
theorem dX4_print_87 : decode cX4_print 87 = .ok (.goto (-44), 3) := by decide +kernel
theorem dX4_print_90 : decode cX4_print 90 = .ok (.aload 4, 2) := by decide +kernel
theorem dX4_print_92 : decode cX4_print 92 = .ok (.getfield 109, 3) := by decide +kernel
theorem dX4_print_95 : decode cX4_print 95 = .ok (.aload 4, 2) := by decide +kernel
theorem dX4_print_97 : decode cX4_print 97 = .ok (.getfield 112, 3) := by decide +kernel
theorem dX4_print_100 : decode cX4_print 100 = .ok (.if_icmp .lt 14, 3) := by decide +kernel
theorem dX4_print_103 : decode cX4_print 103 = .ok (.aload 4, 2) := by decide +kernel
theorem dX4_print_105 : decode cX4_print 105 = .ok (.iconst 2, 1) := by decide +kernel
theorem dX4_print_106 : decode cX4_print 106 = .ok (.putfield 119, 3) := by decide +kernel
theorem dX4_print_109 : decode cX4_print 109 = .ok (.aload_n 3, 1) := by decide +kernel
theorem dX4_print_110 : decode cX4_print 110 = .ok (.aconst_null, 1) := by decide +kernel
theorem dX4_print_111 : decode cX4_print 111 = .ok (.putfield 87, 3) := by decide +kernel
theorem dX4_print_114 : decode cX4_print 114 = .ok (.iload 5, 2) := by decide +kernel
theorem dX4_print_116 : decode cX4_print 116 = .ok (.ireturn, 1) := by decide +kernel
set_option maxRecDepth 20000 in
theorem ggX4_fault_X4_findPrinter : GoodIn wsX4_fault wsX4_findPrinter := goodIn_ca (goodIn_r _ [8, 9, 10, 11, 12, 13, 7, 14, 40, 41, 42, 43, 44, 45, 46, 47, 48, 49, 50] (by decide +kernel) (by decide +kernel)) (goodIn_sub (fun _ h => List.mem_cons_of_mem _ (List.mem_append_right _ h)) (by decide +kernel))
set_option maxRecDepth 20000 in
theorem gX4_fault_X4_findPrinter : GoodIn wsX4_fault (wsV RX4 79 RX4 yX4_findPrinter wsX4_findPrinter) := goodIn_app (goodIn_of _ (by decide +kernel)) ggX4_fault_X4_findPrinter
set_option maxRecDepth 20000 in
theorem ggX4_fault_X4_doubleLastPage : GoodIn wsX4_fault wsX4_doubleLastPage := goodIn_r _ [18, 19, 20, 21, 22, 23, 24, 3, 25, 26, 40, 41, 42, 43, 44, 45, 46, 47, 48, 49, 50, 33, 34, 35, 36, 37, 38, 39, 51, 52, 53, 54, 55, 56, 57, 58, 59, 60, 61, 62, 63, 64] (by decide +kernel) (by decide +kernel)
set_option maxRecDepth 20000 in
theorem gX4_fault_X4_doubleLastPage : GoodIn wsX4_fault (wsV RX4 125 RX4 yX4_doubleLastPage wsX4_doubleLastPage) := goodIn_app (goodIn_of _ (by decide +kernel)) ggX4_fault_X4_doubleLastPage
theorem dX4_fault_0 : decode cX4_fault 0 = .ok (.aload_n 0, 1) := by decide +kernel
theorem dX4_fault_1 : decode cX4_fault 1 = .ok (.iload_n 1, 1) := by decide +kernel
theorem dX4_fault_2 : decode cX4_fault 2 = .ok (.invokevirtual 79, 3) := by decide +kernel
theorem dX4_fault_5 : decode cX4_fault 5 = .ok (.astore_n 2, 1) := by decide +kernel
theorem dX4_fault_6 : decode cX4_fault 6 = .ok (.aload_n 2, 1) := by decide +kernel
theorem dX4_fault_7 : decode cX4_fault 7 = .ok (.getfield 87, 3) := by decide +kernel
theorem dX4_fault_10 : decode cX4_fault 10 = .ok (.astore_n 3, 1) := by decide +kernel
theorem dX4_fault_11 : decode cX4_fault 11 = .ok (.aload_n 3, 1) := by decide +kernel
theorem dX4_fault_12 : decode cX4_fault 12 = .ok (.ifnonnull 5, 3) := by decide +kernel
theorem dX4_fault_15 : decode cX4_fault 15 = .ok (.iconst 0, 1) := by decide +kernel
theorem dX4_fault_16 : decode cX4_fault 16 = .ok (.ireturn, 1) := by decide +kernel
theorem dX4_fault_17 : decode cX4_fault 17 = .ok (.aload_n 2, 1) := by decide +kernel
theorem dX4_fault_18 : decode cX4_fault 18 = .ok (.aconst_null, 1) := by decide +kernel
theorem dX4_fault_19 : decode cX4_fault 19 = .ok (.putfield 87, 3) := by decide +kernel
theorem dX4_fault_22 : decode cX4_fault 22 = .ok (.aload_n 3, 1) := by decide +kernel
theorem dX4_fault_23 : decode cX4_fault 23 = .ok (.iconst 0, 1) := by decide +kernel
theorem dX4_fault_24 : decode cX4_fault 24 = .ok (.putfield 119, 3) := by decide +kernel
theorem dX4_fault_27 : decode cX4_fault 27 = .ok (.aload_n 3, 1) := by decide +kernel
theorem dX4_fault_28 : decode cX4_fault 28 = .ok (.getfield 122, 3) := by decide +kernel
theorem dX4_fault_31 : decode cX4_fault 31 = .ok (.ifCond .le 8, 3) := by decide +kernel
theorem dX4_fault_34 : decode cX4_fault 34 = .ok (.aload_n 0, 1) := by decide +kernel
theorem dX4_fault_35 : decode cX4_fault 35 = .ok (.aload_n 3, 1) := by decide +kernel
theorem dX4_fault_36 : decode cX4_fault 36 = .ok (.invokevirtual 125, 3) := by decide +kernel
theorem dX4_fault_39 : decode cX4_fault 39 = .ok (.aload_n 3, 1) := by decide +kernel
theorem dX4_fault_40 : decode cX4_fault 40 = .ok (.getfield 122, 3) := by decide +kernel
theorem dX4_fault_43 : decode cX4_fault 43 = .ok (.iconst 1, 1) := by decide +kernel
theorem dX4_fault_44 : decode cX4_fault 44 = .ok (.iadd, 1) := by decide +kernel
theorem dX4_fault_45 : decode cX4_fault 45 = .ok (.ireturn, 1) := by decide +kernel
set_option maxRecDepth 20000 in
theorem ggX4_hold_X4_findJob : GoodIn wsX4_hold wsX4_findJob := goodIn_ca (goodIn_r _ [6, 7, 8, 9, 10, 11, 5, 12, 24, 25, 26, 27, 28, 29, 30, 31, 32, 33, 34] (by decide +kernel) (by decide +kernel)) (goodIn_sub (fun _ h => List.mem_cons_of_mem _ (List.mem_append_right _ h)) (by decide +kernel))
set_option maxRecDepth 20000 in
theorem gX4_hold_X4_findJob : GoodIn wsX4_hold (wsV RX4 129 RX4 yX4_findJob wsX4_findJob) := goodIn_app (goodIn_of _ (by decide +kernel)) ggX4_hold_X4_findJob
set_option maxRecDepth 20000 in
theorem ggX4_hold_X4_asNumber : GoodIn wsX4_hold wsX4_asNumber := goodIn_r _ [15] (by decide +kernel) (by decide +kernel)
set_option maxRecDepth 20000 in
theorem gX4_hold_X4_asNumber : GoodIn wsX4_hold (va_wsS RX4 137 yX4_asNumber wsX4_asNumber) := goodIn_app (goodIn_of _ (by decide +kernel)) ggX4_hold_X4_asNumber
theorem dX4_hold_0 : decode cX4_hold 0 = .ok (.aload_n 0, 1) := by decide +kernel
theorem dX4_hold_1 : decode cX4_hold 1 = .ok (.iload_n 1, 1) := by decide +kernel
theorem dX4_hold_2 : decode cX4_hold 2 = .ok (.invokevirtual 129, 3) := by decide +kernel
theorem dX4_hold_5 : decode cX4_hold 5 = .ok (.astore_n 3, 1) := by decide +kernel
theorem dX4_hold_6 : decode cX4_hold 6 = .ok (.aload_n 3, 1) := by decide +kernel
theorem dX4_hold_7 : decode cX4_hold 7 = .ok (.getfield 133, 3) := by decide +kernel
theorem dX4_hold_10 : decode cX4_hold 10 = .ok (.invokestatic 137, 3) := by decide +kernel
theorem dX4_hold_13 : decode cX4_hold 13 = .ok (.istore 4, 2) := by decide +kernel
theorem dX4_hold_15 : decode cX4_hold 15 = .ok (.aload_n 3, 1) := by decide +kernel
theorem dX4_hold_16 : decode cX4_hold 16 = .ok (.iload_n 2, 1) := by decide +kernel
theorem dX4_hold_17 : decode cX4_hold 17 = .ok (.putfield 133, 3) := by decide +kernel
theorem dX4_hold_20 : decode cX4_hold 20 = .ok (.iload 4, 2) := by decide +kernel
theorem dX4_hold_22 : decode cX4_hold 22 = .ok (.ireturn, 1) := by decide +kernel
set_option maxRecDepth 20000 in
theorem ggX4_cancel_X4_findJob : GoodIn wsX4_cancel wsX4_findJob := goodIn_ca (goodIn_r _ [9, 10, 11, 12, 13, 14, 8, 15, 38, 39, 40, 41, 42, 43, 44, 45, 46, 47, 48] (by decide +kernel) (by decide +kernel)) (goodIn_sub (fun _ h => List.mem_cons_of_mem _ (List.mem_append_right _ h)) (by decide +kernel))
set_option maxRecDepth 20000 in
theorem gX4_cancel_X4_findJob : GoodIn wsX4_cancel (wsV RX4 129 RX4 yX4_findJob wsX4_findJob) := goodIn_app (goodIn_of _ (by decide +kernel)) ggX4_cancel_X4_findJob
set_option maxRecDepth 20000 in
theorem ggX4_cancel_X4_emptyPrintersOf : GoodIn wsX4_cancel wsX4_emptyPrintersOf := goodIn_r _ [19, 20, 21, 22, 38, 39, 40, 41, 42, 43, 44, 45, 46, 47, 48, 49, 50, 51, 52, 53, 54, 31, 32, 33, 34, 35, 36, 37] (by decide +kernel) (by decide +kernel)
set_option maxRecDepth 20000 in
theorem gX4_cancel_X4_emptyPrintersOf : GoodIn wsX4_cancel (wsV RX4 147 RX4 yX4_emptyPrintersOf wsX4_emptyPrintersOf) := goodIn_app (goodIn_of _ (by decide +kernel)) ggX4_cancel_X4_emptyPrintersOf
theorem dX4_cancel_0 : decode cX4_cancel 0 = .ok (.aload_n 0, 1) := by decide +kernel
theorem dX4_cancel_1 : decode cX4_cancel 1 = .ok (.iload_n 1, 1) := by decide +kernel
theorem dX4_cancel_2 : decode cX4_cancel 2 = .ok (.invokevirtual 129, 3) := by decide +kernel
theorem dX4_cancel_5 : decode cX4_cancel 5 = .ok (.astore_n 2, 1) := by decide +kernel
theorem dX4_cancel_6 : decode cX4_cancel 6 = .ok (.iconst 0, 1) := by decide +kernel
theorem dX4_cancel_7 : decode cX4_cancel 7 = .ok (.istore_n 3, 1) := by decide +kernel
theorem dX4_cancel_8 : decode cX4_cancel 8 = .ok (.aload_n 2, 1) := by decide +kernel
theorem dX4_cancel_9 : decode cX4_cancel 9 = .ok (.getfield 75, 3) := by decide +kernel
theorem dX4_cancel_12 : decode cX4_cancel 12 = .ok (.astore 4, 2) := by decide +kernel
theorem dX4_cancel_14 : decode cX4_cancel 14 = .ok (.aload 4, 2) := by decide +kernel
theorem dX4_cancel_16 : decode cX4_cancel 16 = .ok (.ifnull 31, 3) := by decide +kernel
theorem dX4_cancel_19 : decode cX4_cancel 19 = .ok (.aload 4, 2) := by decide +kernel
theorem dX4_cancel_21 : decode cX4_cancel 21 = .ok (.getfield 119, 3) := by decide +kernel
theorem dX4_cancel_24 : decode cX4_cancel 24 = .ok (.iconst 2, 1) := by decide +kernel
theorem dX4_cancel_25 : decode cX4_cancel 25 = .ok (.if_icmp .eq 12, 3) := by decide +kernel
theorem dX4_cancel_28 : decode cX4_cancel 28 = .ok (.aload 4, 2) := by decide +kernel
theorem dX4_cancel_30 : decode cX4_cancel 30 = .ok (.iconst 2, 1) := by decide +kernel
theorem dX4_cancel_31 : decode cX4_cancel 31 = .ok (.putfield 119, 3) := by decide +kernel
theorem dX4_cancel_34 : decode cX4_cancel 34 = .ok (.iinc 3 1, 3) := by decide +kernel
theorem dX4_cancel_37 : decode cX4_cancel 37 = .ok (.aload 4, 2) := by decide +kernel
theorem dX4_cancel_39 : decode cX4_cancel 39 = .ok (.getfield 141, 3) := by decide +kernel
theorem dX4_cancel_42 : decode cX4_cancel 42 = .ok (.astore 4, 2) := by decide +kernel
theorem dX4_cancel_44 : decode cX4_cancel 44 = .ok (.goto (-30), 3) := by decide +kernel
theorem dX4_cancel_47 : decode cX4_cancel 47 = .ok (.iload_n 3, 1) := by decide +kernel
theorem dX4_cancel_48 : decode cX4_cancel 48 = .ok (.ifCond .le 13, 3) := by decide +kernel
theorem dX4_cancel_51 : decode cX4_cancel 51 = .ok (.aload_n 2, 1) := by decide +kernel
theorem dX4_cancel_52 : decode cX4_cancel 52 = .ok (.iconst 1, 1) := by decide +kernel
theorem dX4_cancel_53 : decode cX4_cancel 53 = .ok (.putfield 144, 3) := by decide +kernel
theorem dX4_cancel_56 : decode cX4_cancel 56 = .ok (.aload_n 0, 1) := by decide +kernel
theorem dX4_cancel_57 : decode cX4_cancel 57 = .ok (.aload_n 2, 1) := by decide +kernel
theorem dX4_cancel_58 : decode cX4_cancel 58 = .ok (.invokevirtual 147, 3) := by decide +kernel
theorem dX4_cancel_61 : decode cX4_cancel 61 = .ok (.iload_n 3, 1) := by decide +kernel
theorem dX4_cancel_62 : decode cX4_cancel 62 = .ok (.ireturn, 1) := by decide +kernel
set_option maxRecDepth 20000 in
theorem ggX4_state_X4_findJob : GoodIn wsX4_state wsX4_findJob := goodIn_ca (goodIn_r _ [8, 9, 10, 11, 12, 13, 7, 14, 54, 55, 56, 57, 58, 59, 60, 61, 62, 63, 64] (by decide +kernel) (by decide +kernel)) (goodIn_sub (fun _ h => List.mem_cons_of_mem _ (List.mem_append_right _ h)) (by decide +kernel))
set_option maxRecDepth 20000 in
theorem gX4_state_X4_findJob : GoodIn wsX4_state (wsV RX4 129 RX4 yX4_findJob wsX4_findJob) := goodIn_app (goodIn_of _ (by decide +kernel)) ggX4_state_X4_findJob
set_option maxRecDepth 20000 in
theorem ggX4_state_X0_condition : GoodIn wsX4_state wsX0_condition := goodIn_r _ [19, 20, 21, 22, 23, 18, 24, 25, 26, 27, 46, 47, 48, 49, 50, 51, 52, 53, 65, 66, 67, 68, 69, 70, 71] (by decide +kernel) (by decide +kernel)
set_option maxRecDepth 20000 in
theorem gX4_state_X0_condition : GoodIn wsX4_state (wsV RX4 151 RX0 yX0_condition wsX0_condition) := goodIn_app (goodIn_of _ (by decide +kernel)) ggX4_state_X0_condition
set_option maxRecDepth 20000 in
theorem ggX4_state_X0_pagesThatCount : GoodIn wsX4_state wsX0_pagesThatCount := goodIn_r _ [31, 25, 32, 33, 34, 27, 46, 47, 48, 49, 50, 51, 52, 53, 65, 66, 67, 68, 69, 70, 71] (by decide +kernel) (by decide +kernel)
set_option maxRecDepth 20000 in
theorem gX4_state_X0_pagesThatCount : GoodIn wsX4_state (wsV RX4 155 RX0 yX0_pagesThatCount wsX0_pagesThatCount) := goodIn_app (goodIn_of _ (by decide +kernel)) ggX4_state_X0_pagesThatCount
set_option maxRecDepth 20000 in
theorem ggX4_state_X0_wholeCopies : GoodIn wsX4_state wsX0_wholeCopies := goodIn_r _ [38, 25, 32, 27, 46, 47, 48, 49, 50, 51, 52, 53, 65, 66, 67, 68, 69, 70, 71] (by decide +kernel) (by decide +kernel)
set_option maxRecDepth 20000 in
theorem gX4_state_X0_wholeCopies : GoodIn wsX4_state (wsV RX4 158 RX0 yX0_wholeCopies wsX0_wholeCopies) := goodIn_app (goodIn_of _ (by decide +kernel)) ggX4_state_X0_wholeCopies
set_option maxRecDepth 20000 in
theorem ggX4_state_X0_partsHad : GoodIn wsX4_state wsX0_partsHad := goodIn_r _ [42, 25, 27, 46, 47, 48, 49, 50, 51, 52, 53, 65, 66, 67, 68, 69, 70, 71] (by decide +kernel) (by decide +kernel)
set_option maxRecDepth 20000 in
theorem gX4_state_X0_partsHad : GoodIn wsX4_state (wsV RX4 160 RX0 yX0_partsHad wsX0_partsHad) := goodIn_app (goodIn_of _ (by decide +kernel)) ggX4_state_X0_partsHad
set_option maxRecDepth 20000 in
theorem ggX4_state_X4_asNumber : GoodIn wsX4_state wsX4_asNumber := goodIn_r _ [45] (by decide +kernel) (by decide +kernel)
set_option maxRecDepth 20000 in
theorem gX4_state_X4_asNumber : GoodIn wsX4_state (va_wsS RX4 137 yX4_asNumber wsX4_asNumber) := goodIn_app (goodIn_of _ (by decide +kernel)) ggX4_state_X4_asNumber
theorem dX4_state_0 : decode cX4_state 0 = .ok (.aload_n 0, 1) := by decide +kernel
theorem dX4_state_1 : decode cX4_state 1 = .ok (.iload_n 1, 1) := by decide +kernel
theorem dX4_state_2 : decode cX4_state 2 = .ok (.invokevirtual 129, 3) := by decide +kernel
theorem dX4_state_5 : decode cX4_state 5 = .ok (.astore_n 3, 1) := by decide +kernel
theorem dX4_state_6 : decode cX4_state 6 = .ok (.iload_n 2, 1) := by decide +kernel
theorem dX4_state_7 : decode cX4_state 7 = .ok (.tableswitch 61 0 4 #[33, 38, 43, 48, 53], 33) := by decide +kernel
theorem dX4_state_40 : decode cX4_state 40 = .ok (.aload_n 3, 1) := by decide +kernel
theorem dX4_state_41 : decode cX4_state 41 = .ok (.invokevirtual 151, 3) := by decide +kernel
theorem dX4_state_44 : decode cX4_state 44 = .ok (.ireturn, 1) := by decide +kernel
theorem dX4_state_45 : decode cX4_state 45 = .ok (.aload_n 3, 1) := by decide +kernel
theorem dX4_state_46 : decode cX4_state 46 = .ok (.invokevirtual 155, 3) := by decide +kernel
theorem dX4_state_49 : decode cX4_state 49 = .ok (.ireturn, 1) := by decide +kernel
theorem dX4_state_50 : decode cX4_state 50 = .ok (.aload_n 3, 1) := by decide +kernel
theorem dX4_state_51 : decode cX4_state 51 = .ok (.invokevirtual 158, 3) := by decide +kernel
theorem dX4_state_54 : decode cX4_state 54 = .ok (.ireturn, 1) := by decide +kernel
theorem dX4_state_55 : decode cX4_state 55 = .ok (.aload_n 3, 1) := by decide +kernel
theorem dX4_state_56 : decode cX4_state 56 = .ok (.invokevirtual 160, 3) := by decide +kernel
theorem dX4_state_59 : decode cX4_state 59 = .ok (.ireturn, 1) := by decide +kernel
theorem dX4_state_60 : decode cX4_state 60 = .ok (.aload_n 3, 1) := by decide +kernel
theorem dX4_state_61 : decode cX4_state 61 = .ok (.getfield 133, 3) := by decide +kernel
theorem dX4_state_64 : decode cX4_state 64 = .ok (.invokestatic 137, 3) := by decide +kernel
theorem dX4_state_67 : decode cX4_state 67 = .ok (.ireturn, 1) := by decide +kernel
theorem dX4_state_68 : decode cX4_state 68 = .ok (.new 163, 3) := by decide +kernel
theorem dX4_state_71 : decode cX4_state 71 = .ok (.dup, 1) := by decide +kernel
theorem dX4_state_72 : decode cX4_state 72 = .ok (.invokespecial 165, 3) := by decide +kernel
theorem dX4_state_75 : decode cX4_state 75 = .ok (.athrow, 1) := by decide +kernel
set_option maxRecDepth 20000 in
theorem ggX4_doubled_X4_findJob : GoodIn wsX4_doubled wsX4_findJob := goodIn_ca (goodIn_r _ [11, 12, 13, 14, 15, 16, 10, 17, 18, 19, 20, 21, 22, 23, 24, 25, 26, 27, 28] (by decide +kernel) (by decide +kernel)) (goodIn_sub (fun _ h => List.mem_cons_of_mem _ (List.mem_append_right _ h)) (by decide +kernel))
set_option maxRecDepth 20000 in
theorem gX4_doubled_X4_findJob : GoodIn wsX4_doubled (wsV RX4 129 RX4 yX4_findJob wsX4_findJob) := goodIn_app (goodIn_of _ (by decide +kernel)) ggX4_doubled_X4_findJob
theorem dX4_doubled_0 : decode cX4_doubled 0 = .ok (.aload_n 0, 1) := by decide +kernel
theorem dX4_doubled_1 : decode cX4_doubled 1 = .ok (.iload_n 1, 1) := by decide +kernel
theorem dX4_doubled_2 : decode cX4_doubled 2 = .ok (.invokevirtual 129, 3) := by decide +kernel
theorem dX4_doubled_5 : decode cX4_doubled 5 = .ok (.astore_n 3, 1) := by decide +kernel
theorem dX4_doubled_6 : decode cX4_doubled 6 = .ok (.iconst 0, 1) := by decide +kernel
theorem dX4_doubled_7 : decode cX4_doubled 7 = .ok (.istore 4, 2) := by decide +kernel
theorem dX4_doubled_9 : decode cX4_doubled 9 = .ok (.iconst 0, 1) := by decide +kernel
theorem dX4_doubled_10 : decode cX4_doubled 10 = .ok (.istore 5, 2) := by decide +kernel
theorem dX4_doubled_12 : decode cX4_doubled 12 = .ok (.iload 5, 2) := by decide +kernel
theorem dX4_doubled_14 : decode cX4_doubled 14 = .ok (.aload_n 0, 1) := by decide +kernel
theorem dX4_doubled_15 : decode cX4_doubled 15 = .ok (.getfield 166, 3) := by decide +kernel
theorem dX4_doubled_18 : decode cX4_doubled 18 = .ok (.if_icmp .ge 48, 3) := by decide +kernel
theorem dX4_doubled_21 : decode cX4_doubled 21 = .ok (.iload 5, 2) := by decide +kernel
theorem dX4_doubled_23 : decode cX4_doubled 23 = .ok (.sipush 256, 3) := by decide +kernel
theorem dX4_doubled_26 : decode cX4_doubled 26 = .ok (.if_icmp .ge 40, 3) := by decide +kernel
theorem dX4_doubled_29 : decode cX4_doubled 29 = .ok (.aload_n 0, 1) := by decide +kernel
theorem dX4_doubled_30 : decode cX4_doubled 30 = .ok (.getfield 27, 3) := by decide +kernel
theorem dX4_doubled_33 : decode cX4_doubled 33 = .ok (.iload 5, 2) := by decide +kernel
theorem dX4_doubled_35 : decode cX4_doubled 35 = .ok (.iaload, 1) := by decide +kernel
theorem dX4_doubled_36 : decode cX4_doubled 36 = .ok (.aload_n 3, 1) := by decide +kernel
theorem dX4_doubled_37 : decode cX4_doubled 37 = .ok (.getfield 105, 3) := by decide +kernel
theorem dX4_doubled_40 : decode cX4_doubled 40 = .ok (.if_icmp .ne 20, 3) := by decide +kernel
theorem dX4_doubled_43 : decode cX4_doubled 43 = .ok (.iload 4, 2) := by decide +kernel
theorem dX4_doubled_45 : decode cX4_doubled 45 = .ok (.iload_n 2, 1) := by decide +kernel
theorem dX4_doubled_46 : decode cX4_doubled 46 = .ok (.if_icmp .ne 11, 3) := by decide +kernel
theorem dX4_doubled_49 : decode cX4_doubled 49 = .ok (.aload_n 0, 1) := by decide +kernel
theorem dX4_doubled_50 : decode cX4_doubled 50 = .ok (.getfield 31, 3) := by decide +kernel
theorem dX4_doubled_53 : decode cX4_doubled 53 = .ok (.iload 5, 2) := by decide +kernel
theorem dX4_doubled_55 : decode cX4_doubled 55 = .ok (.iaload, 1) := by decide +kernel
theorem dX4_doubled_56 : decode cX4_doubled 56 = .ok (.ireturn, 1) := by decide +kernel
theorem dX4_doubled_57 : decode cX4_doubled 57 = .ok (.iinc 4 1, 3) := by decide +kernel
theorem dX4_doubled_60 : decode cX4_doubled 60 = .ok (.iinc 5 1, 3) := by decide +kernel
theorem dX4_doubled_63 : decode cX4_doubled 63 = .ok (.goto (-51), 3) := by decide +kernel
theorem dX4_doubled_66 : decode cX4_doubled 66 = .ok (.iload_n 2, 1) := by decide +kernel
theorem dX4_doubled_67 : decode cX4_doubled 67 = .ok (.iconst (-1), 1) := by decide +kernel
theorem dX4_doubled_68 : decode cX4_doubled 68 = .ok (.if_icmp .eq 11, 3) := by decide +kernel
theorem dX4_doubled_71 : decode cX4_doubled 71 = .ok (.new 163, 3) := by decide +kernel
theorem dX4_doubled_74 : decode cX4_doubled 74 = .ok (.dup, 1) := by decide +kernel
theorem dX4_doubled_75 : decode cX4_doubled 75 = .ok (.invokespecial 165, 3) := by decide +kernel
theorem dX4_doubled_78 : decode cX4_doubled 78 = .ok (.athrow, 1) := by decide +kernel
theorem dX4_doubled_79 : decode cX4_doubled 79 = .ok (.iload 4, 2) := by decide +kernel
theorem dX4_doubled_81 : decode cX4_doubled 81 = .ok (.ireturn, 1) := by decide +kernel
set_option maxRecDepth 20000 in
theorem ggX4_account_X4_findTicket : GoodIn wsX4_account wsX4_findTicket := goodIn_ca (goodIn_r _ [11, 12, 13, 14, 15, 16, 10, 17, 24, 25, 26, 27, 28, 29, 30, 31, 32, 33, 34] (by decide +kernel) (by decide +kernel)) (goodIn_sub (fun _ h => List.mem_cons_of_mem _ (List.mem_append_right _ h)) (by decide +kernel))
set_option maxRecDepth 20000 in
theorem gX4_account_X4_findTicket : GoodIn wsX4_account (wsV RX4 60 RX4 yX4_findTicket wsX4_findTicket) := goodIn_app (goodIn_of _ (by decide +kernel)) ggX4_account_X4_findTicket
theorem dX4_account_0 : decode cX4_account 0 = .ok (.aload_n 0, 1) := by decide +kernel
theorem dX4_account_1 : decode cX4_account 1 = .ok (.iload_n 1, 1) := by decide +kernel
theorem dX4_account_2 : decode cX4_account 2 = .ok (.invokevirtual 60, 3) := by decide +kernel
theorem dX4_account_5 : decode cX4_account 5 = .ok (.astore_n 3, 1) := by decide +kernel
theorem dX4_account_6 : decode cX4_account 6 = .ok (.iload_n 2, 1) := by decide +kernel
theorem dX4_account_7 : decode cX4_account 7 = .ok (.tableswitch 49 0 3 #[29, 34, 39, 44], 29) := by decide +kernel
theorem dX4_account_36 : decode cX4_account 36 = .ok (.aload_n 3, 1) := by decide +kernel
theorem dX4_account_37 : decode cX4_account 37 = .ok (.getfield 169, 3) := by decide +kernel
theorem dX4_account_40 : decode cX4_account 40 = .ok (.lreturn, 1) := by decide +kernel
theorem dX4_account_41 : decode cX4_account 41 = .ok (.aload_n 3, 1) := by decide +kernel
theorem dX4_account_42 : decode cX4_account 42 = .ok (.getfield 172, 3) := by decide +kernel
theorem dX4_account_45 : decode cX4_account 45 = .ok (.lreturn, 1) := by decide +kernel
theorem dX4_account_46 : decode cX4_account 46 = .ok (.aload_n 3, 1) := by decide +kernel
theorem dX4_account_47 : decode cX4_account 47 = .ok (.getfield 175, 3) := by decide +kernel
theorem dX4_account_50 : decode cX4_account 50 = .ok (.lreturn, 1) := by decide +kernel
theorem dX4_account_51 : decode cX4_account 51 = .ok (.aload_n 3, 1) := by decide +kernel
theorem dX4_account_52 : decode cX4_account 52 = .ok (.getfield 178, 3) := by decide +kernel
theorem dX4_account_55 : decode cX4_account 55 = .ok (.lreturn, 1) := by decide +kernel
theorem dX4_account_56 : decode cX4_account 56 = .ok (.new 163, 3) := by decide +kernel
theorem dX4_account_59 : decode cX4_account 59 = .ok (.dup, 1) := by decide +kernel
theorem dX4_account_60 : decode cX4_account 60 = .ok (.invokespecial 165, 3) := by decide +kernel
theorem dX4_account_63 : decode cX4_account 63 = .ok (.athrow, 1) := by decide +kernel
set_option maxRecDepth 20000 in
theorem ggX4_reason_X4_findJob : GoodIn wsX4_reason wsX4_findJob := goodIn_ca (goodIn_r _ [8, 9, 10, 11, 12, 13, 7, 14, 54, 55, 56, 57, 58, 59, 60, 61, 62, 63, 64] (by decide +kernel) (by decide +kernel)) (goodIn_sub (fun _ h => List.mem_cons_of_mem _ (List.mem_append_right _ h)) (by decide +kernel))
set_option maxRecDepth 20000 in
theorem gX4_reason_X4_findJob : GoodIn wsX4_reason (wsV RX4 129 RX4 yX4_findJob wsX4_findJob) := goodIn_app (goodIn_of _ (by decide +kernel)) ggX4_reason_X4_findJob
set_option maxRecDepth 20000 in
theorem ggX4_reason_X0_hasPartThat : GoodIn wsX4_reason wsX0_hasPartThat := goodIn_r _ [19, 20, 21, 22, 46, 47, 48, 49, 50, 51, 52, 53, 65, 66, 67, 68, 69, 70, 71] (by decide +kernel) (by decide +kernel)
set_option maxRecDepth 20000 in
theorem gX4_reason_X0_hasPartThat : GoodIn wsX4_reason (wsV RX4 181 RX0 yX0_hasPartThat wsX0_hasPartThat) := goodIn_app (goodIn_of _ (by decide +kernel)) ggX4_reason_X0_hasPartThat
set_option maxRecDepth 20000 in
theorem ggX4_reason_X4_reasonByPrinters : GoodIn wsX4_reason wsX4_reasonByPrinters := goodIn_r _ [26, 27, 28, 29, 30, 7, 31, 32, 33, 34, 35, 36, 37, 38, 39, 40, 41, 42, 43, 44, 45, 54, 55, 56, 57, 58, 59, 60, 61, 62, 63, 64, 72, 73, 74, 75, 76, 77, 46, 47, 48, 49, 50, 51, 52, 53, 65, 66, 67, 68, 69, 70, 71, 78, 79, 80, 81, 82, 83] (by decide +kernel) (by decide +kernel)
set_option maxRecDepth 20000 in
theorem gX4_reason_X4_reasonByPrinters : GoodIn wsX4_reason (wsV RX4 188 RX4 yX4_reasonByPrinters wsX4_reasonByPrinters) := goodIn_app (goodIn_of _ (by decide +kernel)) ggX4_reason_X4_reasonByPrinters
theorem dX4_reason_0 : decode cX4_reason 0 = .ok (.aload_n 0, 1) := by decide +kernel
theorem dX4_reason_1 : decode cX4_reason 1 = .ok (.iload_n 1, 1) := by decide +kernel
theorem dX4_reason_2 : decode cX4_reason 2 = .ok (.invokevirtual 129, 3) := by decide +kernel
theorem dX4_reason_5 : decode cX4_reason 5 = .ok (.astore_n 2, 1) := by decide +kernel
theorem dX4_reason_6 : decode cX4_reason 6 = .ok (.aload_n 2, 1) := by decide +kernel
theorem dX4_reason_7 : decode cX4_reason 7 = .ok (.iconst 0, 1) := by decide +kernel
theorem dX4_reason_8 : decode cX4_reason 8 = .ok (.invokevirtual 181, 3) := by decide +kernel
theorem dX4_reason_11 : decode cX4_reason 11 = .ok (.ifCond .ne 5, 3) := by decide +kernel
theorem dX4_reason_14 : decode cX4_reason 14 = .ok (.iconst 0, 1) := by decide +kernel
theorem dX4_reason_15 : decode cX4_reason 15 = .ok (.ireturn, 1) := by decide +kernel
theorem dX4_reason_16 : decode cX4_reason 16 = .ok (.aload_n 2, 1) := by decide +kernel
theorem dX4_reason_17 : decode cX4_reason 17 = .ok (.getfield 133, 3) := by decide +kernel
theorem dX4_reason_20 : decode cX4_reason 20 = .ok (.ifCond .eq 5, 3) := by decide +kernel
theorem dX4_reason_23 : decode cX4_reason 23 = .ok (.iconst 1, 1) := by decide +kernel
theorem dX4_reason_24 : decode cX4_reason 24 = .ok (.ireturn, 1) := by decide +kernel
theorem dX4_reason_25 : decode cX4_reason 25 = .ok (.aload_n 2, 1) := by decide +kernel
theorem dX4_reason_26 : decode cX4_reason 26 = .ok (.getfield 185, 3) := by decide +kernel
theorem dX4_reason_29 : decode cX4_reason 29 = .ok (.aload_n 0, 1) := by decide +kernel
theorem dX4_reason_30 : decode cX4_reason 30 = .ok (.getfield 83, 3) := by decide +kernel
theorem dX4_reason_33 : decode cX4_reason 33 = .ok (.lcmp, 1) := by decide +kernel
theorem dX4_reason_34 : decode cX4_reason 34 = .ok (.ifCond .le 5, 3) := by decide +kernel
theorem dX4_reason_37 : decode cX4_reason 37 = .ok (.iconst 2, 1) := by decide +kernel
theorem dX4_reason_38 : decode cX4_reason 38 = .ok (.ireturn, 1) := by decide +kernel
theorem dX4_reason_39 : decode cX4_reason 39 = .ok (.aload_n 0, 1) := by decide +kernel
theorem dX4_reason_40 : decode cX4_reason 40 = .ok (.aload_n 2, 1) := by decide +kernel
theorem dX4_reason_41 : decode cX4_reason 41 = .ok (.invokevirtual 188, 3) := by decide +kernel
theorem dX4_reason_44 : decode cX4_reason 44 = .ok (.ireturn, 1) := by decide +kernel
set_option maxRecDepth 20000 in
theorem ggX4_split_X4_findJob : GoodIn wsX4_split wsX4_findJob := goodIn_ca (goodIn_r _ [12, 13, 14, 15, 16, 17, 11, 18, 65, 66, 67, 68, 69, 70, 71, 72, 73, 74, 75] (by decide +kernel) (by decide +kernel)) (goodIn_sub (fun _ h => List.mem_cons_of_mem _ (List.mem_append_right _ h)) (by decide +kernel))
set_option maxRecDepth 20000 in
theorem gX4_split_X4_findJob : GoodIn wsX4_split (wsV RX4 129 RX4 yX4_findJob wsX4_findJob) := goodIn_app (goodIn_of _ (by decide +kernel)) ggX4_split_X4_findJob
set_option maxRecDepth 20000 in
theorem ggX4_split_X4_findPrinter : GoodIn wsX4_split wsX4_findPrinter := goodIn_ca (goodIn_r _ [22, 13, 14, 23, 16, 17, 11, 18, 65, 66, 67, 68, 69, 70, 71, 72, 73, 74, 75] (by decide +kernel) (by decide +kernel)) (goodIn_sub (fun _ h => List.mem_cons_of_mem _ (List.mem_append_right _ h)) (by decide +kernel))
set_option maxRecDepth 20000 in
theorem gX4_split_X4_findPrinter : GoodIn wsX4_split (wsV RX4 79 RX4 yX4_findPrinter wsX4_findPrinter) := goodIn_app (goodIn_of _ (by decide +kernel)) ggX4_split_X4_findPrinter
set_option maxRecDepth 20000 in
theorem ggX4_split_X4_canLose : GoodIn wsX4_split wsX4_canLose := goodIn_r _ [26, 27, 28, 29, 30, 31, 6, 32, 33, 34, 35, 52, 53, 54, 55, 56, 57, 58] (by decide +kernel) (by decide +kernel)
set_option maxRecDepth 20000 in
theorem gX4_split_X4_canLose : GoodIn wsX4_split (va_wsS RX4 192 yX4_canLose wsX4_canLose) := goodIn_app (goodIn_of _ (by decide +kernel)) ggX4_split_X4_canLose
set_option maxRecDepth 20000 in
theorem ggX4_split_X1_init : GoodIn wsX4_split wsX1_init := goodIn_r _ [38, 39, 40, 41, 42, 43, 33, 52, 53, 54, 55, 56, 57, 58] (by decide +kernel) (by decide +kernel)
set_option maxRecDepth 20000 in
theorem gX4_split_X1_init : GoodIn wsX4_split (wsX1_init) := ggX4_split_X1_init
theorem dX4_split_0 : decode cX4_split 0 = .ok (.aload_n 0, 1) := by decide +kernel
theorem dX4_split_1 : decode cX4_split 1 = .ok (.iload_n 1, 1) := by decide +kernel
theorem dX4_split_2 : decode cX4_split 2 = .ok (.invokevirtual 129, 3) := by decide +kernel
theorem dX4_split_5 : decode cX4_split 5 = .ok (.astore 4, 2) := by decide +kernel
theorem dX4_split_7 : decode cX4_split 7 = .ok (.aload_n 0, 1) := by decide +kernel
theorem dX4_split_8 : decode cX4_split 8 = .ok (.iload_n 2, 1) := by decide +kernel
theorem dX4_split_9 : decode cX4_split 9 = .ok (.invokevirtual 79, 3) := by decide +kernel
theorem dX4_split_12 : decode cX4_split 12 = .ok (.astore 5, 2) := by decide +kernel
theorem dX4_split_14 : decode cX4_split 14 = .ok (.iload_n 3, 1) := by decide +kernel
theorem dX4_split_15 : decode cX4_split 15 = .ok (.iconst 1, 1) := by decide +kernel
theorem dX4_split_16 : decode cX4_split 16 = .ok (.if_icmp .ge 5, 3) := by decide +kernel
theorem dX4_split_19 : decode cX4_split 19 = .ok (.iconst 0, 1) := by decide +kernel
theorem dX4_split_20 : decode cX4_split 20 = .ok (.ireturn, 1) := by decide +kernel
theorem dX4_split_21 : decode cX4_split 21 = .ok (.aconst_null, 1) := by decide +kernel
theorem dX4_split_22 : decode cX4_split 22 = .ok (.astore 6, 2) := by decide +kernel
theorem dX4_split_24 : decode cX4_split 24 = .ok (.aconst_null, 1) := by decide +kernel
theorem dX4_split_25 : decode cX4_split 25 = .ok (.astore 7, 2) := by decide +kernel
theorem dX4_split_27 : decode cX4_split 27 = .ok (.aload 4, 2) := by decide +kernel
theorem dX4_split_29 : decode cX4_split 29 = .ok (.getfield 75, 3) := by decide +kernel
theorem dX4_split_32 : decode cX4_split 32 = .ok (.astore 8, 2) := by decide +kernel
theorem dX4_split_34 : decode cX4_split 34 = .ok (.aload 8, 2) := by decide +kernel
theorem dX4_split_36 : decode cX4_split 36 = .ok (.ifnull 35, 3) := by decide +kernel
theorem dX4_split_39 : decode cX4_split 39 = .ok (.aload 7, 2) := by decide +kernel
theorem dX4_split_41 : decode cX4_split 41 = .ok (.ifnonnull 16, 3) := by decide +kernel
theorem dX4_split_44 : decode cX4_split 44 = .ok (.aload 8, 2) := by decide +kernel
theorem dX4_split_46 : decode cX4_split 46 = .ok (.iload_n 3, 1) := by decide +kernel
theorem dX4_split_47 : decode cX4_split 47 = .ok (.invokestatic 192, 3) := by decide +kernel
theorem dX4_split_50 : decode cX4_split 50 = .ok (.ifCond .eq 7, 3) := by decide +kernel
theorem dX4_split_53 : decode cX4_split 53 = .ok (.aload 8, 2) := by decide +kernel
theorem dX4_split_55 : decode cX4_split 55 = .ok (.astore 7, 2) := by decide +kernel
theorem dX4_split_57 : decode cX4_split 57 = .ok (.aload 8, 2) := by decide +kernel
theorem dX4_split_59 : decode cX4_split 59 = .ok (.astore 6, 2) := by decide +kernel
theorem dX4_split_61 : decode cX4_split 61 = .ok (.aload 8, 2) := by decide +kernel
theorem dX4_split_63 : decode cX4_split 63 = .ok (.getfield 141, 3) := by decide +kernel
theorem dX4_split_66 : decode cX4_split 66 = .ok (.astore 8, 2) := by decide +kernel
theorem dX4_split_68 : decode cX4_split 68 = .ok (.goto (-34), 3) := by decide +kernel
theorem dX4_split_71 : decode cX4_split 71 = .ok (.aload 7, 2) := by decide +kernel
theorem dX4_split_73 : decode cX4_split 73 = .ok (.ifnull 8, 3) := by decide +kernel
theorem dX4_split_76 : decode cX4_split 76 = .ok (.aload 6, 2) := by decide +kernel
theorem dX4_split_78 : decode cX4_split 78 = .ok (.ifnonnull 5, 3) := by decide +kernel
theorem dX4_split_81 : decode cX4_split 81 = .ok (.iconst 0, 1) := by decide +kernel
theorem dX4_split_82 : decode cX4_split 82 = .ok (.ireturn, 1) := by decide +kernel
theorem dX4_split_83 : decode cX4_split 83 = .ok (.aload 7, 2) := by decide +kernel
theorem dX4_split_85 : decode cX4_split 85 = .ok (.dup, 1) := by decide +kernel
theorem dX4_split_86 : decode cX4_split 86 = .ok (.getfield 112, 3) := by decide +kernel
theorem dX4_split_89 : decode cX4_split 89 = .ok (.iload_n 3, 1) := by decide +kernel
theorem dX4_split_90 : decode cX4_split 90 = .ok (.isub, 1) := by decide +kernel
theorem dX4_split_91 : decode cX4_split 91 = .ok (.putfield 112, 3) := by decide +kernel
theorem dX4_split_94 : decode cX4_split 94 = .ok (.aload 6, 2) := by decide +kernel
theorem dX4_split_96 : decode cX4_split 96 = .ok (.new 70, 3) := by decide +kernel
theorem dX4_split_99 : decode cX4_split 99 = .ok (.dup, 1) := by decide +kernel
theorem dX4_split_100 : decode cX4_split 100 = .ok (.aload 4, 2) := by decide +kernel
theorem dX4_split_102 : decode cX4_split 102 = .ok (.aload 5, 2) := by decide +kernel
theorem dX4_split_104 : decode cX4_split 104 = .ok (.getfield 196, 3) := by decide +kernel
theorem dX4_split_107 : decode cX4_split 107 = .ok (.iload_n 3, 1) := by decide +kernel
theorem dX4_split_108 : decode cX4_split 108 = .ok (.invokespecial 72, 3) := by decide +kernel
theorem dX4_split_111 : decode cX4_split 111 = .ok (.putfield 141, 3) := by decide +kernel
theorem dX4_split_114 : decode cX4_split 114 = .ok (.iconst 1, 1) := by decide +kernel
theorem dX4_split_115 : decode cX4_split 115 = .ok (.ireturn, 1) := by decide +kernel
set_option maxRecDepth 20000 in
theorem ggX4_like_X4_isWithin : GoodIn wsX4_like wsX4_isWithin := goodIn_r _ [7] (by decide +kernel) (by decide +kernel)
set_option maxRecDepth 20000 in
theorem gX4_like_X4_isWithin : GoodIn wsX4_like (va_wsS RX4 38 yX4_isWithin wsX4_isWithin) := goodIn_app (goodIn_of _ (by decide +kernel)) ggX4_like_X4_isWithin
theorem dX4_like_0 : decode cX4_like 0 = .ok (.iload_n 1, 1) := by decide +kernel
theorem dX4_like_1 : decode cX4_like 1 = .ok (.iconst 0, 1) := by decide +kernel
theorem dX4_like_2 : decode cX4_like 2 = .ok (.bipush 100, 2) := by decide +kernel
theorem dX4_like_4 : decode cX4_like 4 = .ok (.invokestatic 38, 3) := by decide +kernel
theorem dX4_like_7 : decode cX4_like 7 = .ok (.ifCond .ne 11, 3) := by decide +kernel
theorem dX4_like_10 : decode cX4_like 10 = .ok (.new 42, 3) := by decide +kernel
theorem dX4_like_13 : decode cX4_like 13 = .ok (.dup, 1) := by decide +kernel
theorem dX4_like_14 : decode cX4_like 14 = .ok (.invokespecial 44, 3) := by decide +kernel
theorem dX4_like_17 : decode cX4_like 17 = .ok (.athrow, 1) := by decide +kernel
theorem dX4_like_18 : decode cX4_like 18 = .ok (.aload_n 0, 1) := by decide +kernel
theorem dX4_like_19 : decode cX4_like 19 = .ok (.getfield 34, 3) := by decide +kernel
theorem dX4_like_22 : decode cX4_like 22 = .ok (.istore_n 2, 1) := by decide +kernel
theorem dX4_like_23 : decode cX4_like 23 = .ok (.aload_n 0, 1) := by decide +kernel
theorem dX4_like_24 : decode cX4_like 24 = .ok (.iload_n 1, 1) := by decide +kernel
theorem dX4_like_25 : decode cX4_like 25 = .ok (.putfield 34, 3) := by decide +kernel
theorem dX4_like_28 : decode cX4_like 28 = .ok (.iload_n 2, 1) := by decide +kernel
theorem dX4_like_29 : decode cX4_like 29 = .ok (.ireturn, 1) := by decide +kernel
theorem dX4_isWithin_0 : decode cX4_isWithin 0 = .ok (.iload_n 0, 1) := by decide +kernel
theorem dX4_isWithin_1 : decode cX4_isWithin 1 = .ok (.iload_n 1, 1) := by decide +kernel
theorem dX4_isWithin_2 : decode cX4_isWithin 2 = .ok (.if_icmp .lt 12, 3) := by decide +kernel
theorem dX4_isWithin_5 : decode cX4_isWithin 5 = .ok (.iload_n 0, 1) := by decide +kernel
theorem dX4_isWithin_6 : decode cX4_isWithin 6 = .ok (.iload_n 2, 1) := by decide +kernel
theorem dX4_isWithin_7 : decode cX4_isWithin 7 = .ok (.if_icmp .gt 7, 3) := by decide +kernel
theorem dX4_isWithin_10 : decode cX4_isWithin 10 = .ok (.iconst 1, 1) := by decide +kernel
theorem dX4_isWithin_11 : decode cX4_isWithin 11 = .ok (.goto 4, 3) := by decide +kernel
theorem dX4_isWithin_14 : decode cX4_isWithin 14 = .ok (.iconst 0, 1) := by decide +kernel
theorem dX4_isWithin_15 : decode cX4_isWithin 15 = .ok (.ireturn, 1) := by decide +kernel
theorem dX4_asNumber_0 : decode cX4_asNumber 0 = .ok (.iload_n 0, 1) := by decide +kernel
theorem dX4_asNumber_1 : decode cX4_asNumber 1 = .ok (.ifCond .eq 7, 3) := by decide +kernel
theorem dX4_asNumber_4 : decode cX4_asNumber 4 = .ok (.iconst 1, 1) := by decide +kernel
theorem dX4_asNumber_5 : decode cX4_asNumber 5 = .ok (.goto 4, 3) := by decide +kernel
theorem dX4_asNumber_8 : decode cX4_asNumber 8 = .ok (.iconst 0, 1) := by decide +kernel
theorem dX4_asNumber_9 : decode cX4_asNumber 9 = .ok (.ireturn, 1) := by decide +kernel
set_option maxRecDepth 20000 in
theorem ggX4_findPrinter_X4_isWithin : GoodIn wsX4_findPrinter wsX4_isWithin := goodIn_r _ [7] (by decide +kernel) (by decide +kernel)
set_option maxRecDepth 20000 in
theorem gX4_findPrinter_X4_isWithin : GoodIn wsX4_findPrinter (va_wsS RX4 38 yX4_isWithin wsX4_isWithin) := goodIn_app (goodIn_of _ (by decide +kernel)) ggX4_findPrinter_X4_isWithin
theorem dX4_findPrinter_0 : decode cX4_findPrinter 0 = .ok (.iload_n 1, 1) := by decide +kernel
theorem dX4_findPrinter_1 : decode cX4_findPrinter 1 = .ok (.iconst 1, 1) := by decide +kernel
theorem dX4_findPrinter_2 : decode cX4_findPrinter 2 = .ok (.aload_n 0, 1) := by decide +kernel
theorem dX4_findPrinter_3 : decode cX4_findPrinter 3 = .ok (.getfield 11, 3) := by decide +kernel
theorem dX4_findPrinter_6 : decode cX4_findPrinter 6 = .ok (.arraylength, 1) := by decide +kernel
theorem dX4_findPrinter_7 : decode cX4_findPrinter 7 = .ok (.invokestatic 38, 3) := by decide +kernel
theorem dX4_findPrinter_10 : decode cX4_findPrinter 10 = .ok (.ifCond .eq 14, 3) := by decide +kernel
theorem dX4_findPrinter_13 : decode cX4_findPrinter 13 = .ok (.aload_n 0, 1) := by decide +kernel
theorem dX4_findPrinter_14 : decode cX4_findPrinter 14 = .ok (.getfield 11, 3) := by decide +kernel
theorem dX4_findPrinter_17 : decode cX4_findPrinter 17 = .ok (.iload_n 1, 1) := by decide +kernel
theorem dX4_findPrinter_18 : decode cX4_findPrinter 18 = .ok (.iconst 1, 1) := by decide +kernel
theorem dX4_findPrinter_19 : decode cX4_findPrinter 19 = .ok (.isub, 1) := by decide +kernel
theorem dX4_findPrinter_20 : decode cX4_findPrinter 20 = .ok (.aaload, 1) := by decide +kernel
theorem dX4_findPrinter_21 : decode cX4_findPrinter 21 = .ok (.goto 4, 3) := by decide +kernel
theorem dX4_findPrinter_24 : decode cX4_findPrinter 24 = .ok (.aconst_null, 1) := by decide +kernel
theorem dX4_findPrinter_25 : decode cX4_findPrinter 25 = .ok (.astore_n 2, 1) := by decide +kernel
theorem dX4_findPrinter_26 : decode cX4_findPrinter 26 = .ok (.aload_n 2, 1) := by decide +kernel
theorem dX4_findPrinter_27 : decode cX4_findPrinter 27 = .ok (.ifnonnull 11, 3) := by decide +kernel
theorem dX4_findPrinter_30 : decode cX4_findPrinter 30 = .ok (.new 197, 3) := by decide +kernel
theorem dX4_findPrinter_33 : decode cX4_findPrinter 33 = .ok (.dup, 1) := by decide +kernel
theorem dX4_findPrinter_34 : decode cX4_findPrinter 34 = .ok (.invokespecial 199, 3) := by decide +kernel
theorem dX4_findPrinter_37 : decode cX4_findPrinter 37 = .ok (.athrow, 1) := by decide +kernel
theorem dX4_findPrinter_38 : decode cX4_findPrinter 38 = .ok (.aload_n 2, 1) := by decide +kernel
theorem dX4_findPrinter_39 : decode cX4_findPrinter 39 = .ok (.areturn, 1) := by decide +kernel
set_option maxRecDepth 20000 in
theorem ggX4_findTicket_X4_isWithin : GoodIn wsX4_findTicket wsX4_isWithin := goodIn_r _ [7] (by decide +kernel) (by decide +kernel)
set_option maxRecDepth 20000 in
theorem gX4_findTicket_X4_isWithin : GoodIn wsX4_findTicket (va_wsS RX4 38 yX4_isWithin wsX4_isWithin) := goodIn_app (goodIn_of _ (by decide +kernel)) ggX4_findTicket_X4_isWithin
theorem dX4_findTicket_0 : decode cX4_findTicket 0 = .ok (.iload_n 1, 1) := by decide +kernel
theorem dX4_findTicket_1 : decode cX4_findTicket 1 = .ok (.iconst 1, 1) := by decide +kernel
theorem dX4_findTicket_2 : decode cX4_findTicket 2 = .ok (.aload_n 0, 1) := by decide +kernel
theorem dX4_findTicket_3 : decode cX4_findTicket 3 = .ok (.getfield 17, 3) := by decide +kernel
theorem dX4_findTicket_6 : decode cX4_findTicket 6 = .ok (.arraylength, 1) := by decide +kernel
theorem dX4_findTicket_7 : decode cX4_findTicket 7 = .ok (.invokestatic 38, 3) := by decide +kernel
theorem dX4_findTicket_10 : decode cX4_findTicket 10 = .ok (.ifCond .eq 14, 3) := by decide +kernel
theorem dX4_findTicket_13 : decode cX4_findTicket 13 = .ok (.aload_n 0, 1) := by decide +kernel
theorem dX4_findTicket_14 : decode cX4_findTicket 14 = .ok (.getfield 17, 3) := by decide +kernel
theorem dX4_findTicket_17 : decode cX4_findTicket 17 = .ok (.iload_n 1, 1) := by decide +kernel
theorem dX4_findTicket_18 : decode cX4_findTicket 18 = .ok (.iconst 1, 1) := by decide +kernel
theorem dX4_findTicket_19 : decode cX4_findTicket 19 = .ok (.isub, 1) := by decide +kernel
theorem dX4_findTicket_20 : decode cX4_findTicket 20 = .ok (.aaload, 1) := by decide +kernel
theorem dX4_findTicket_21 : decode cX4_findTicket 21 = .ok (.goto 4, 3) := by decide +kernel
theorem dX4_findTicket_24 : decode cX4_findTicket 24 = .ok (.aconst_null, 1) := by decide +kernel
theorem dX4_findTicket_25 : decode cX4_findTicket 25 = .ok (.astore_n 2, 1) := by decide +kernel
theorem dX4_findTicket_26 : decode cX4_findTicket 26 = .ok (.aload_n 2, 1) := by decide +kernel
theorem dX4_findTicket_27 : decode cX4_findTicket 27 = .ok (.ifnonnull 11, 3) := by decide +kernel
theorem dX4_findTicket_30 : decode cX4_findTicket 30 = .ok (.new 197, 3) := by decide +kernel
theorem dX4_findTicket_33 : decode cX4_findTicket 33 = .ok (.dup, 1) := by decide +kernel
theorem dX4_findTicket_34 : decode cX4_findTicket 34 = .ok (.invokespecial 199, 3) := by decide +kernel
theorem dX4_findTicket_37 : decode cX4_findTicket 37 = .ok (.athrow, 1) := by decide +kernel
theorem dX4_findTicket_38 : decode cX4_findTicket 38 = .ok (.aload_n 2, 1) := by decide +kernel
theorem dX4_findTicket_39 : decode cX4_findTicket 39 = .ok (.areturn, 1) := by decide +kernel
set_option maxRecDepth 20000 in
theorem ggX4_findJob_X4_isWithin : GoodIn wsX4_findJob wsX4_isWithin := goodIn_r _ [7] (by decide +kernel) (by decide +kernel)
set_option maxRecDepth 20000 in
theorem gX4_findJob_X4_isWithin : GoodIn wsX4_findJob (va_wsS RX4 38 yX4_isWithin wsX4_isWithin) := goodIn_app (goodIn_of _ (by decide +kernel)) ggX4_findJob_X4_isWithin
theorem dX4_findJob_0 : decode cX4_findJob 0 = .ok (.iload_n 1, 1) := by decide +kernel
theorem dX4_findJob_1 : decode cX4_findJob 1 = .ok (.iconst 1, 1) := by decide +kernel
theorem dX4_findJob_2 : decode cX4_findJob 2 = .ok (.aload_n 0, 1) := by decide +kernel
theorem dX4_findJob_3 : decode cX4_findJob 3 = .ok (.getfield 23, 3) := by decide +kernel
theorem dX4_findJob_6 : decode cX4_findJob 6 = .ok (.arraylength, 1) := by decide +kernel
theorem dX4_findJob_7 : decode cX4_findJob 7 = .ok (.invokestatic 38, 3) := by decide +kernel
theorem dX4_findJob_10 : decode cX4_findJob 10 = .ok (.ifCond .eq 14, 3) := by decide +kernel
theorem dX4_findJob_13 : decode cX4_findJob 13 = .ok (.aload_n 0, 1) := by decide +kernel
theorem dX4_findJob_14 : decode cX4_findJob 14 = .ok (.getfield 23, 3) := by decide +kernel
theorem dX4_findJob_17 : decode cX4_findJob 17 = .ok (.iload_n 1, 1) := by decide +kernel
theorem dX4_findJob_18 : decode cX4_findJob 18 = .ok (.iconst 1, 1) := by decide +kernel
theorem dX4_findJob_19 : decode cX4_findJob 19 = .ok (.isub, 1) := by decide +kernel
theorem dX4_findJob_20 : decode cX4_findJob 20 = .ok (.aaload, 1) := by decide +kernel
theorem dX4_findJob_21 : decode cX4_findJob 21 = .ok (.goto 4, 3) := by decide +kernel
theorem dX4_findJob_24 : decode cX4_findJob 24 = .ok (.aconst_null, 1) := by decide +kernel
theorem dX4_findJob_25 : decode cX4_findJob 25 = .ok (.astore_n 2, 1) := by decide +kernel
theorem dX4_findJob_26 : decode cX4_findJob 26 = .ok (.aload_n 2, 1) := by decide +kernel
theorem dX4_findJob_27 : decode cX4_findJob 27 = .ok (.ifnonnull 11, 3) := by decide +kernel
theorem dX4_findJob_30 : decode cX4_findJob 30 = .ok (.new 197, 3) := by decide +kernel
theorem dX4_findJob_33 : decode cX4_findJob 33 = .ok (.dup, 1) := by decide +kernel
theorem dX4_findJob_34 : decode cX4_findJob 34 = .ok (.invokespecial 199, 3) := by decide +kernel
theorem dX4_findJob_37 : decode cX4_findJob 37 = .ok (.athrow, 1) := by decide +kernel
theorem dX4_findJob_38 : decode cX4_findJob 38 = .ok (.aload_n 2, 1) := by decide +kernel
theorem dX4_findJob_39 : decode cX4_findJob 39 = .ok (.areturn, 1) := by decide +kernel
set_option maxRecDepth 20000 in
theorem ggX4_choosePart_X4_firstPartFor : GoodIn wsX4_choosePart wsX4_firstPartFor := goodIn_r _ [9, 10, 11, 12, 13, 14, 15, 16, 17, 18, 19, 20, 21, 22, 23, 45, 46, 47, 48, 49, 50, 51, 52, 53, 54, 55, 56, 57, 58, 59, 60, 61, 62, 63, 64, 65, 66, 67, 68, 69, 70, 71] (by decide +kernel) (by decide +kernel)
set_option maxRecDepth 20000 in
theorem gX4_choosePart_X4_firstPartFor : GoodIn wsX4_choosePart (va_wsS RX4 200 yX4_firstPartFor wsX4_firstPartFor) := goodIn_app (goodIn_of _ (by decide +kernel)) ggX4_choosePart_X4_firstPartFor
set_option maxRecDepth 20000 in
theorem ggX4_choosePart_X4_goesBefore : GoodIn wsX4_choosePart wsX4_goesBefore := goodIn_r _ [27, 28, 29, 30, 31, 32, 33, 3, 45, 46, 47, 48, 49, 50, 51, 52, 66, 67, 68, 69, 70, 71, 60, 61, 62, 63, 64, 65, 34, 35, 36, 37, 38, 39, 40, 41, 42, 43, 44] (by decide +kernel) (by decide +kernel)
set_option maxRecDepth 20000 in
theorem gX4_choosePart_X4_goesBefore : GoodIn wsX4_choosePart (wsV RX4 204 RX4 yX4_goesBefore wsX4_goesBefore) := goodIn_app (goodIn_of _ (by decide +kernel)) ggX4_choosePart_X4_goesBefore
theorem dX4_choosePart_0 : decode cX4_choosePart 0 = .ok (.aconst_null, 1) := by decide +kernel
theorem dX4_choosePart_1 : decode cX4_choosePart 1 = .ok (.astore_n 2, 1) := by decide +kernel
theorem dX4_choosePart_2 : decode cX4_choosePart 2 = .ok (.aload_n 0, 1) := by decide +kernel
theorem dX4_choosePart_3 : decode cX4_choosePart 3 = .ok (.getfield 23, 3) := by decide +kernel
theorem dX4_choosePart_6 : decode cX4_choosePart 6 = .ok (.astore_n 3, 1) := by decide +kernel
theorem dX4_choosePart_7 : decode cX4_choosePart 7 = .ok (.aload_n 3, 1) := by decide +kernel
theorem dX4_choosePart_8 : decode cX4_choosePart 8 = .ok (.arraylength, 1) := by decide +kernel
theorem dX4_choosePart_9 : decode cX4_choosePart 9 = .ok (.istore 4, 2) := by decide +kernel
theorem dX4_choosePart_11 : decode cX4_choosePart 11 = .ok (.iconst 0, 1) := by decide +kernel
theorem dX4_choosePart_12 : decode cX4_choosePart 12 = .ok (.istore 5, 2) := by decide +kernel
theorem dX4_choosePart_14 : decode cX4_choosePart 14 = .ok (.iload 5, 2) := by decide +kernel
theorem dX4_choosePart_16 : decode cX4_choosePart 16 = .ok (.iload 4, 2) := by decide +kernel
theorem dX4_choosePart_18 : decode cX4_choosePart 18 = .ok (.if_icmp .ge 75, 3) := by decide +kernel
theorem dX4_choosePart_21 : decode cX4_choosePart 21 = .ok (.aload_n 3, 1) := by decide +kernel
theorem dX4_choosePart_22 : decode cX4_choosePart 22 = .ok (.iload 5, 2) := by decide +kernel
theorem dX4_choosePart_24 : decode cX4_choosePart 24 = .ok (.aaload, 1) := by decide +kernel
theorem dX4_choosePart_25 : decode cX4_choosePart 25 = .ok (.astore 6, 2) := by decide +kernel
theorem dX4_choosePart_27 : decode cX4_choosePart 27 = .ok (.aload 6, 2) := by decide +kernel
theorem dX4_choosePart_29 : decode cX4_choosePart 29 = .ok (.ifnull 58, 3) := by decide +kernel
theorem dX4_choosePart_32 : decode cX4_choosePart 32 = .ok (.aload 6, 2) := by decide +kernel
theorem dX4_choosePart_34 : decode cX4_choosePart 34 = .ok (.getfield 133, 3) := by decide +kernel
theorem dX4_choosePart_37 : decode cX4_choosePart 37 = .ok (.ifCond .ne 50, 3) := by decide +kernel
theorem dX4_choosePart_40 : decode cX4_choosePart 40 = .ok (.aload 6, 2) := by decide +kernel
theorem dX4_choosePart_42 : decode cX4_choosePart 42 = .ok (.getfield 185, 3) := by decide +kernel
theorem dX4_choosePart_45 : decode cX4_choosePart 45 = .ok (.aload_n 0, 1) := by decide +kernel
theorem dX4_choosePart_46 : decode cX4_choosePart 46 = .ok (.getfield 83, 3) := by decide +kernel
theorem dX4_choosePart_49 : decode cX4_choosePart 49 = .ok (.lcmp, 1) := by decide +kernel
theorem dX4_choosePart_50 : decode cX4_choosePart 50 = .ok (.ifCond .gt 37, 3) := by decide +kernel
theorem dX4_choosePart_53 : decode cX4_choosePart 53 = .ok (.aload 6, 2) := by decide +kernel
theorem dX4_choosePart_55 : decode cX4_choosePart 55 = .ok (.aload_n 1, 1) := by decide +kernel
theorem dX4_choosePart_56 : decode cX4_choosePart 56 = .ok (.invokestatic 200, 3) := by decide +kernel
theorem dX4_choosePart_59 : decode cX4_choosePart 59 = .ok (.astore 7, 2) := by decide +kernel
theorem dX4_choosePart_61 : decode cX4_choosePart 61 = .ok (.aload 7, 2) := by decide +kernel
theorem dX4_choosePart_63 : decode cX4_choosePart 63 = .ok (.ifnull 24, 3) := by decide +kernel
theorem dX4_choosePart_66 : decode cX4_choosePart 66 = .ok (.aload_n 2, 1) := by decide +kernel
theorem dX4_choosePart_67 : decode cX4_choosePart 67 = .ok (.ifnull 17, 3) := by decide +kernel
theorem dX4_choosePart_70 : decode cX4_choosePart 70 = .ok (.aload_n 0, 1) := by decide +kernel
theorem dX4_choosePart_71 : decode cX4_choosePart 71 = .ok (.aload 6, 2) := by decide +kernel
theorem dX4_choosePart_73 : decode cX4_choosePart 73 = .ok (.aload_n 2, 1) := by decide +kernel
theorem dX4_choosePart_74 : decode cX4_choosePart 74 = .ok (.getfield 101, 3) := by decide +kernel
theorem dX4_choosePart_77 : decode cX4_choosePart 77 = .ok (.aload_n 1, 1) := by decide +kernel
theorem dX4_choosePart_78 : decode cX4_choosePart 78 = .ok (.invokevirtual 204, 3) := by decide +kernel
theorem dX4_choosePart_81 : decode cX4_choosePart 81 = .ok (.ifCond .eq 6, 3) := by decide +kernel
theorem dX4_choosePart_84 : decode cX4_choosePart 84 = .ok (.aload 7, 2) := by decide +kernel
theorem dX4_choosePart_86 : decode cX4_choosePart 86 = .ok (.astore_n 2, 1) := by decide +kernel
theorem dX4_choosePart_87 : decode cX4_choosePart 87 = .ok (.iinc 5 1, 3) := by decide +kernel
theorem dX4_choosePart_90 : decode cX4_choosePart 90 = .ok (.goto (-76), 3) := by decide +kernel
theorem dX4_choosePart_93 : decode cX4_choosePart 93 = .ok (.aload_n 2, 1) := by decide +kernel
theorem dX4_choosePart_94 : decode cX4_choosePart 94 = .ok (.areturn, 1) := by decide +kernel
set_option maxRecDepth 20000 in
theorem ggX4_firstPartFor_X2_fits : GoodIn wsX4_firstPartFor wsX2_fits := goodIn_r _ [8, 9, 10, 11, 12, 13, 14, 30, 31, 32, 33, 34, 35, 23, 24, 25, 26, 27, 28, 29, 15, 16, 17, 18, 19, 20, 21, 22, 36, 37, 38, 39, 40, 41] (by decide +kernel) (by decide +kernel)
set_option maxRecDepth 20000 in
theorem gX4_firstPartFor_X2_fits : GoodIn wsX4_firstPartFor (wsV RX4 208 RX2 yX2_fits wsX2_fits) := goodIn_app (goodIn_of _ (by decide +kernel)) ggX4_firstPartFor_X2_fits
theorem dX4_firstPartFor_0 : decode cX4_firstPartFor 0 = .ok (.aload_n 0, 1) := by decide +kernel
theorem dX4_firstPartFor_1 : decode cX4_firstPartFor 1 = .ok (.getfield 75, 3) := by decide +kernel
theorem dX4_firstPartFor_4 : decode cX4_firstPartFor 4 = .ok (.astore_n 2, 1) := by decide +kernel
theorem dX4_firstPartFor_5 : decode cX4_firstPartFor 5 = .ok (.aload_n 2, 1) := by decide +kernel
theorem dX4_firstPartFor_6 : decode cX4_firstPartFor 6 = .ok (.ifnull 28, 3) := by decide +kernel
theorem dX4_firstPartFor_9 : decode cX4_firstPartFor 9 = .ok (.aload_n 2, 1) := by decide +kernel
theorem dX4_firstPartFor_10 : decode cX4_firstPartFor 10 = .ok (.getfield 119, 3) := by decide +kernel
theorem dX4_firstPartFor_13 : decode cX4_firstPartFor 13 = .ok (.ifCond .ne 13, 3) := by decide +kernel
theorem dX4_firstPartFor_16 : decode cX4_firstPartFor 16 = .ok (.aload_n 1, 1) := by decide +kernel
theorem dX4_firstPartFor_17 : decode cX4_firstPartFor 17 = .ok (.aload_n 2, 1) := by decide +kernel
theorem dX4_firstPartFor_18 : decode cX4_firstPartFor 18 = .ok (.invokevirtual 208, 3) := by decide +kernel
theorem dX4_firstPartFor_21 : decode cX4_firstPartFor 21 = .ok (.ifCond .eq 5, 3) := by decide +kernel
theorem dX4_firstPartFor_24 : decode cX4_firstPartFor 24 = .ok (.aload_n 2, 1) := by decide +kernel
theorem dX4_firstPartFor_25 : decode cX4_firstPartFor 25 = .ok (.areturn, 1) := by decide +kernel
theorem dX4_firstPartFor_26 : decode cX4_firstPartFor 26 = .ok (.aload_n 2, 1) := by decide +kernel
theorem dX4_firstPartFor_27 : decode cX4_firstPartFor 27 = .ok (.getfield 141, 3) := by decide +kernel
theorem dX4_firstPartFor_30 : decode cX4_firstPartFor 30 = .ok (.astore_n 2, 1) := by decide +kernel
theorem dX4_firstPartFor_31 : decode cX4_firstPartFor 31 = .ok (.goto (-26), 3) := by decide +kernel
theorem dX4_firstPartFor_34 : decode cX4_firstPartFor 34 = .ok (.aconst_null, 1) := by decide +kernel
theorem dX4_firstPartFor_35 : decode cX4_firstPartFor 35 = .ok (.areturn, 1) := by decide +kernel
theorem dX4_goesBefore_0 : decode cX4_goesBefore 0 = .ok (.aload_n 1, 1) := by decide +kernel
theorem dX4_goesBefore_1 : decode cX4_goesBefore 1 = .ok (.getfield 212, 3) := by decide +kernel
theorem dX4_goesBefore_4 : decode cX4_goesBefore 4 = .ok (.aload_n 2, 1) := by decide +kernel
theorem dX4_goesBefore_5 : decode cX4_goesBefore 5 = .ok (.getfield 212, 3) := by decide +kernel
theorem dX4_goesBefore_8 : decode cX4_goesBefore 8 = .ok (.if_icmp .eq 20, 3) := by decide +kernel
theorem dX4_goesBefore_11 : decode cX4_goesBefore 11 = .ok (.aload_n 1, 1) := by decide +kernel
theorem dX4_goesBefore_12 : decode cX4_goesBefore 12 = .ok (.getfield 212, 3) := by decide +kernel
theorem dX4_goesBefore_15 : decode cX4_goesBefore 15 = .ok (.aload_n 2, 1) := by decide +kernel
theorem dX4_goesBefore_16 : decode cX4_goesBefore 16 = .ok (.getfield 212, 3) := by decide +kernel
theorem dX4_goesBefore_19 : decode cX4_goesBefore 19 = .ok (.if_icmp .le 7, 3) := by decide +kernel
theorem dX4_goesBefore_22 : decode cX4_goesBefore 22 = .ok (.iconst 1, 1) := by decide +kernel
theorem dX4_goesBefore_23 : decode cX4_goesBefore 23 = .ok (.goto 4, 3) := by decide +kernel
theorem dX4_goesBefore_26 : decode cX4_goesBefore 26 = .ok (.iconst 0, 1) := by decide +kernel
theorem dX4_goesBefore_27 : decode cX4_goesBefore 27 = .ok (.ireturn, 1) := by decide +kernel
theorem dX4_goesBefore_28 : decode cX4_goesBefore 28 = .ok (.aload_n 1, 1) := by decide +kernel
theorem dX4_goesBefore_29 : decode cX4_goesBefore 29 = .ok (.getfield 215, 3) := by decide +kernel
theorem dX4_goesBefore_32 : decode cX4_goesBefore 32 = .ok (.getfield 219, 3) := by decide +kernel
theorem dX4_goesBefore_35 : decode cX4_goesBefore 35 = .ok (.aload_n 3, 1) := by decide +kernel
theorem dX4_goesBefore_36 : decode cX4_goesBefore 36 = .ok (.getfield 222, 3) := by decide +kernel
theorem dX4_goesBefore_39 : decode cX4_goesBefore 39 = .ok (.if_icmp .ne 7, 3) := by decide +kernel
theorem dX4_goesBefore_42 : decode cX4_goesBefore 42 = .ok (.iconst 1, 1) := by decide +kernel
theorem dX4_goesBefore_43 : decode cX4_goesBefore 43 = .ok (.goto 4, 3) := by decide +kernel
theorem dX4_goesBefore_46 : decode cX4_goesBefore 46 = .ok (.iconst 0, 1) := by decide +kernel
theorem dX4_goesBefore_47 : decode cX4_goesBefore 47 = .ok (.istore 4, 2) := by decide +kernel
theorem dX4_goesBefore_49 : decode cX4_goesBefore 49 = .ok (.aload_n 2, 1) := by decide +kernel
theorem dX4_goesBefore_50 : decode cX4_goesBefore 50 = .ok (.getfield 215, 3) := by decide +kernel
theorem dX4_goesBefore_53 : decode cX4_goesBefore 53 = .ok (.getfield 219, 3) := by decide +kernel
theorem dX4_goesBefore_56 : decode cX4_goesBefore 56 = .ok (.aload_n 3, 1) := by decide +kernel
theorem dX4_goesBefore_57 : decode cX4_goesBefore 57 = .ok (.getfield 222, 3) := by decide +kernel
theorem dX4_goesBefore_60 : decode cX4_goesBefore 60 = .ok (.if_icmp .ne 7, 3) := by decide +kernel
theorem dX4_goesBefore_63 : decode cX4_goesBefore 63 = .ok (.iconst 1, 1) := by decide +kernel
theorem dX4_goesBefore_64 : decode cX4_goesBefore 64 = .ok (.goto 4, 3) := by decide +kernel
theorem dX4_goesBefore_67 : decode cX4_goesBefore 67 = .ok (.iconst 0, 1) := by decide +kernel
theorem dX4_goesBefore_68 : decode cX4_goesBefore 68 = .ok (.istore 5, 2) := by decide +kernel
theorem dX4_goesBefore_70 : decode cX4_goesBefore 70 = .ok (.aload_n 3, 1) := by decide +kernel
theorem dX4_goesBefore_71 : decode cX4_goesBefore 71 = .ok (.getfield 223, 3) := by decide +kernel
theorem dX4_goesBefore_74 : decode cX4_goesBefore 74 = .ok (.aload_n 0, 1) := by decide +kernel
theorem dX4_goesBefore_75 : decode cX4_goesBefore 75 = .ok (.getfield 34, 3) := by decide +kernel
theorem dX4_goesBefore_78 : decode cX4_goesBefore 78 = .ok (.if_icmp .ge 13, 3) := by decide +kernel
theorem dX4_goesBefore_81 : decode cX4_goesBefore 81 = .ok (.iload 4, 2) := by decide +kernel
theorem dX4_goesBefore_83 : decode cX4_goesBefore 83 = .ok (.iload 5, 2) := by decide +kernel
theorem dX4_goesBefore_85 : decode cX4_goesBefore 85 = .ok (.if_icmp .eq 6, 3) := by decide +kernel
theorem dX4_goesBefore_88 : decode cX4_goesBefore 88 = .ok (.iload 4, 2) := by decide +kernel
theorem dX4_goesBefore_90 : decode cX4_goesBefore 90 = .ok (.ireturn, 1) := by decide +kernel
theorem dX4_goesBefore_91 : decode cX4_goesBefore 91 = .ok (.aload_n 1, 1) := by decide +kernel
theorem dX4_goesBefore_92 : decode cX4_goesBefore 92 = .ok (.getfield 185, 3) := by decide +kernel
theorem dX4_goesBefore_95 : decode cX4_goesBefore 95 = .ok (.aload_n 2, 1) := by decide +kernel
theorem dX4_goesBefore_96 : decode cX4_goesBefore 96 = .ok (.getfield 185, 3) := by decide +kernel
theorem dX4_goesBefore_99 : decode cX4_goesBefore 99 = .ok (.lcmp, 1) := by decide +kernel
theorem dX4_goesBefore_100 : decode cX4_goesBefore 100 = .ok (.ifCond .ge 7, 3) := by decide +kernel
theorem dX4_goesBefore_103 : decode cX4_goesBefore 103 = .ok (.iconst 1, 1) := by decide +kernel
theorem dX4_goesBefore_104 : decode cX4_goesBefore 104 = .ok (.goto 4, 3) := by decide +kernel
theorem dX4_goesBefore_107 : decode cX4_goesBefore 107 = .ok (.iconst 0, 1) := by decide +kernel
theorem dX4_goesBefore_108 : decode cX4_goesBefore 108 = .ok (.ireturn, 1) := by decide +kernel
theorem dX4_bringTo_0 : decode cX4_bringTo 0 = .ok (.aload_n 1, 1) := by decide +kernel
theorem dX4_bringTo_1 : decode cX4_bringTo 1 = .ok (.getfield 101, 3) := by decide +kernel
theorem dX4_bringTo_4 : decode cX4_bringTo 4 = .ok (.getfield 215, 3) := by decide +kernel
theorem dX4_bringTo_7 : decode cX4_bringTo 7 = .ok (.astore_n 2, 1) := by decide +kernel
theorem dX4_bringTo_8 : decode cX4_bringTo 8 = .ok (.aload_n 2, 1) := by decide +kernel
theorem dX4_bringTo_9 : decode cX4_bringTo 9 = .ok (.getfield 219, 3) := by decide +kernel
theorem dX4_bringTo_12 : decode cX4_bringTo 12 = .ok (.aload_n 0, 1) := by decide +kernel
theorem dX4_bringTo_13 : decode cX4_bringTo 13 = .ok (.getfield 222, 3) := by decide +kernel
theorem dX4_bringTo_16 : decode cX4_bringTo 16 = .ok (.if_icmp .eq 29, 3) := by decide +kernel
theorem dX4_bringTo_19 : decode cX4_bringTo 19 = .ok (.aload_n 0, 1) := by decide +kernel
theorem dX4_bringTo_20 : decode cX4_bringTo 20 = .ok (.aload_n 2, 1) := by decide +kernel
theorem dX4_bringTo_21 : decode cX4_bringTo 21 = .ok (.getfield 219, 3) := by decide +kernel
theorem dX4_bringTo_24 : decode cX4_bringTo 24 = .ok (.putfield 222, 3) := by decide +kernel
theorem dX4_bringTo_27 : decode cX4_bringTo 27 = .ok (.aload_n 0, 1) := by decide +kernel
theorem dX4_bringTo_28 : decode cX4_bringTo 28 = .ok (.iconst 0, 1) := by decide +kernel
theorem dX4_bringTo_29 : decode cX4_bringTo 29 = .ok (.putfield 223, 3) := by decide +kernel
theorem dX4_bringTo_32 : decode cX4_bringTo 32 = .ok (.aload_n 2, 1) := by decide +kernel
theorem dX4_bringTo_33 : decode cX4_bringTo 33 = .ok (.dup, 1) := by decide +kernel
theorem dX4_bringTo_34 : decode cX4_bringTo 34 = .ok (.getfield 175, 3) := by decide +kernel
theorem dX4_bringTo_37 : decode cX4_bringTo 37 = .ok (.lconst 1, 1) := by decide +kernel
theorem dX4_bringTo_38 : decode cX4_bringTo 38 = .ok (.ladd, 1) := by decide +kernel
theorem dX4_bringTo_39 : decode cX4_bringTo 39 = .ok (.putfield 175, 3) := by decide +kernel
theorem dX4_bringTo_42 : decode cX4_bringTo 42 = .ok (.goto 13, 3) := by decide +kernel
theorem dX4_bringTo_45 : decode cX4_bringTo 45 = .ok (.aload_n 0, 1) := by decide +kernel
theorem dX4_bringTo_46 : decode cX4_bringTo 46 = .ok (.dup, 1) := by decide +kernel
theorem dX4_bringTo_47 : decode cX4_bringTo 47 = .ok (.getfield 223, 3) := by decide +kernel
theorem dX4_bringTo_50 : decode cX4_bringTo 50 = .ok (.iconst 1, 1) := by decide +kernel
theorem dX4_bringTo_51 : decode cX4_bringTo 51 = .ok (.iadd, 1) := by decide +kernel
theorem dX4_bringTo_52 : decode cX4_bringTo 52 = .ok (.putfield 223, 3) := by decide +kernel
theorem dX4_bringTo_55 : decode cX4_bringTo 55 = .ok (.aload_n 1, 1) := by decide +kernel
theorem dX4_bringTo_56 : decode cX4_bringTo 56 = .ok (.iconst 1, 1) := by decide +kernel
theorem dX4_bringTo_57 : decode cX4_bringTo 57 = .ok (.putfield 119, 3) := by decide +kernel
theorem dX4_bringTo_60 : decode cX4_bringTo 60 = .ok (.aload_n 0, 1) := by decide +kernel
theorem dX4_bringTo_61 : decode cX4_bringTo 61 = .ok (.aload_n 1, 1) := by decide +kernel
theorem dX4_bringTo_62 : decode cX4_bringTo 62 = .ok (.putfield 87, 3) := by decide +kernel
theorem dX4_bringTo_65 : decode cX4_bringTo 65 = .ok (.aload_n 0, 1) := by decide +kernel
theorem dX4_bringTo_66 : decode cX4_bringTo 66 = .ok (.iconst 1, 1) := by decide +kernel
theorem dX4_bringTo_67 : decode cX4_bringTo 67 = .ok (.putfield 226, 3) := by decide +kernel
theorem dX4_bringTo_70 : decode cX4_bringTo 70 = .ok (.return_, 1) := by decide +kernel
set_option maxRecDepth 20000 in
theorem ggX4_printInCopy_X4_sheetsOfTwoSides : GoodIn wsX4_printInCopy wsX4_sheetsOfTwoSides := goodIn_r _ [16] (by decide +kernel) (by decide +kernel)
set_option maxRecDepth 20000 in
theorem gX4_printInCopy_X4_sheetsOfTwoSides : GoodIn wsX4_printInCopy (va_wsS RX4 241 yX4_sheetsOfTwoSides wsX4_sheetsOfTwoSides) := goodIn_app (goodIn_of _ (by decide +kernel)) ggX4_printInCopy_X4_sheetsOfTwoSides
set_option maxRecDepth 20000 in
theorem ggX4_printInCopy_X1_countPages : GoodIn wsX4_printInCopy wsX1_countPages := goodIn_r _ [21, 22, 23, 24, 25, 26, 27, 28, 29, 30, 31, 32, 33, 34, 35, 36, 37, 38, 39, 40] (by decide +kernel) (by decide +kernel)
set_option maxRecDepth 20000 in
theorem gX4_printInCopy_X1_countPages : GoodIn wsX4_printInCopy (wsV RX4 245 RX1 yX1_countPages wsX1_countPages) := goodIn_app (goodIn_of _ (by decide +kernel)) ggX4_printInCopy_X1_countPages
theorem dX4_printInCopy_0 : decode cX4_printInCopy 0 = .ok (.aload_n 1, 1) := by decide +kernel
theorem dX4_printInCopy_1 : decode cX4_printInCopy 1 = .ok (.getfield 122, 3) := by decide +kernel
theorem dX4_printInCopy_4 : decode cX4_printInCopy 4 = .ok (.istore_n 3, 1) := by decide +kernel
theorem dX4_printInCopy_5 : decode cX4_printInCopy 5 = .ok (.iload_n 2, 1) := by decide +kernel
theorem dX4_printInCopy_6 : decode cX4_printInCopy 6 = .ok (.aload_n 1, 1) := by decide +kernel
theorem dX4_printInCopy_7 : decode cX4_printInCopy 7 = .ok (.getfield 101, 3) := by decide +kernel
theorem dX4_printInCopy_10 : decode cX4_printInCopy 10 = .ok (.getfield 229, 3) := by decide +kernel
theorem dX4_printInCopy_13 : decode cX4_printInCopy 13 = .ok (.iload_n 3, 1) := by decide +kernel
theorem dX4_printInCopy_14 : decode cX4_printInCopy 14 = .ok (.isub, 1) := by decide +kernel
theorem dX4_printInCopy_15 : decode cX4_printInCopy 15 = .ok (.invokestatic 232, 3) := by decide +kernel
theorem dX4_printInCopy_18 : decode cX4_printInCopy 18 = .ok (.istore 4, 2) := by decide +kernel
theorem dX4_printInCopy_20 : decode cX4_printInCopy 20 = .ok (.aload_n 1, 1) := by decide +kernel
theorem dX4_printInCopy_21 : decode cX4_printInCopy 21 = .ok (.getfield 101, 3) := by decide +kernel
theorem dX4_printInCopy_24 : decode cX4_printInCopy 24 = .ok (.getfield 215, 3) := by decide +kernel
theorem dX4_printInCopy_27 : decode cX4_printInCopy 27 = .ok (.astore 5, 2) := by decide +kernel
theorem dX4_printInCopy_29 : decode cX4_printInCopy 29 = .ok (.aload 5, 2) := by decide +kernel
theorem dX4_printInCopy_31 : decode cX4_printInCopy 31 = .ok (.dup, 1) := by decide +kernel
theorem dX4_printInCopy_32 : decode cX4_printInCopy 32 = .ok (.getfield 169, 3) := by decide +kernel
theorem dX4_printInCopy_35 : decode cX4_printInCopy 35 = .ok (.iload 4, 2) := by decide +kernel
theorem dX4_printInCopy_37 : decode cX4_printInCopy 37 = .ok (.i2l, 1) := by decide +kernel
theorem dX4_printInCopy_38 : decode cX4_printInCopy 38 = .ok (.ladd, 1) := by decide +kernel
theorem dX4_printInCopy_39 : decode cX4_printInCopy 39 = .ok (.putfield 169, 3) := by decide +kernel
theorem dX4_printInCopy_42 : decode cX4_printInCopy 42 = .ok (.aload 5, 2) := by decide +kernel
theorem dX4_printInCopy_44 : decode cX4_printInCopy 44 = .ok (.dup, 1) := by decide +kernel
theorem dX4_printInCopy_45 : decode cX4_printInCopy 45 = .ok (.getfield 172, 3) := by decide +kernel
theorem dX4_printInCopy_48 : decode cX4_printInCopy 48 = .ok (.aload 5, 2) := by decide +kernel
theorem dX4_printInCopy_50 : decode cX4_printInCopy 50 = .ok (.getfield 238, 3) := by decide +kernel
theorem dX4_printInCopy_53 : decode cX4_printInCopy 53 = .ok (.iconst 1, 1) := by decide +kernel
theorem dX4_printInCopy_54 : decode cX4_printInCopy 54 = .ok (.if_icmp .ne 9, 3) := by decide +kernel
theorem dX4_printInCopy_57 : decode cX4_printInCopy 57 = .ok (.iload 4, 2) := by decide +kernel
theorem dX4_printInCopy_59 : decode cX4_printInCopy 59 = .ok (.i2l, 1) := by decide +kernel
theorem dX4_printInCopy_60 : decode cX4_printInCopy 60 = .ok (.goto 14, 3) := by decide +kernel
theorem dX4_printInCopy_63 : decode cX4_printInCopy 63 = .ok (.iload_n 3, 1) := by decide +kernel
theorem dX4_printInCopy_64 : decode cX4_printInCopy 64 = .ok (.iload 4, 2) := by decide +kernel
theorem dX4_printInCopy_66 : decode cX4_printInCopy 66 = .ok (.aload_n 0, 1) := by decide +kernel
theorem dX4_printInCopy_67 : decode cX4_printInCopy 67 = .ok (.getfield 226, 3) := by decide +kernel
theorem dX4_printInCopy_70 : decode cX4_printInCopy 70 = .ok (.invokestatic 241, 3) := by decide +kernel
theorem dX4_printInCopy_73 : decode cX4_printInCopy 73 = .ok (.i2l, 1) := by decide +kernel
theorem dX4_printInCopy_74 : decode cX4_printInCopy 74 = .ok (.ladd, 1) := by decide +kernel
theorem dX4_printInCopy_75 : decode cX4_printInCopy 75 = .ok (.putfield 172, 3) := by decide +kernel
theorem dX4_printInCopy_78 : decode cX4_printInCopy 78 = .ok (.aload_n 0, 1) := by decide +kernel
theorem dX4_printInCopy_79 : decode cX4_printInCopy 79 = .ok (.iconst 0, 1) := by decide +kernel
theorem dX4_printInCopy_80 : decode cX4_printInCopy 80 = .ok (.putfield 226, 3) := by decide +kernel
theorem dX4_printInCopy_83 : decode cX4_printInCopy 83 = .ok (.aload_n 1, 1) := by decide +kernel
theorem dX4_printInCopy_84 : decode cX4_printInCopy 84 = .ok (.iload 4, 2) := by decide +kernel
theorem dX4_printInCopy_86 : decode cX4_printInCopy 86 = .ok (.invokevirtual 245, 3) := by decide +kernel
theorem dX4_printInCopy_89 : decode cX4_printInCopy 89 = .ok (.iload 4, 2) := by decide +kernel
theorem dX4_printInCopy_91 : decode cX4_printInCopy 91 = .ok (.ireturn, 1) := by decide +kernel
theorem dX4_sheetsOfTwoSides_0 : decode cX4_sheetsOfTwoSides 0 = .ok (.iload_n 0, 1) := by decide +kernel
theorem dX4_sheetsOfTwoSides_1 : decode cX4_sheetsOfTwoSides 1 = .ok (.iload_n 1, 1) := by decide +kernel
theorem dX4_sheetsOfTwoSides_2 : decode cX4_sheetsOfTwoSides 2 = .ok (.iadd, 1) := by decide +kernel
theorem dX4_sheetsOfTwoSides_3 : decode cX4_sheetsOfTwoSides 3 = .ok (.iconst 1, 1) := by decide +kernel
theorem dX4_sheetsOfTwoSides_4 : decode cX4_sheetsOfTwoSides 4 = .ok (.iadd, 1) := by decide +kernel
theorem dX4_sheetsOfTwoSides_5 : decode cX4_sheetsOfTwoSides 5 = .ok (.iconst 2, 1) := by decide +kernel
theorem dX4_sheetsOfTwoSides_6 : decode cX4_sheetsOfTwoSides 6 = .ok (.idiv, 1) := by decide +kernel
theorem dX4_sheetsOfTwoSides_7 : decode cX4_sheetsOfTwoSides 7 = .ok (.iload_n 0, 1) := by decide +kernel
theorem dX4_sheetsOfTwoSides_8 : decode cX4_sheetsOfTwoSides 8 = .ok (.iconst 1, 1) := by decide +kernel
theorem dX4_sheetsOfTwoSides_9 : decode cX4_sheetsOfTwoSides 9 = .ok (.iadd, 1) := by decide +kernel
theorem dX4_sheetsOfTwoSides_10 : decode cX4_sheetsOfTwoSides 10 = .ok (.iconst 2, 1) := by decide +kernel
theorem dX4_sheetsOfTwoSides_11 : decode cX4_sheetsOfTwoSides 11 = .ok (.idiv, 1) := by decide +kernel
theorem dX4_sheetsOfTwoSides_12 : decode cX4_sheetsOfTwoSides 12 = .ok (.isub, 1) := by decide +kernel
theorem dX4_sheetsOfTwoSides_13 : decode cX4_sheetsOfTwoSides 13 = .ok (.istore_n 3, 1) := by decide +kernel
theorem dX4_sheetsOfTwoSides_14 : decode cX4_sheetsOfTwoSides 14 = .ok (.iload_n 0, 1) := by decide +kernel
theorem dX4_sheetsOfTwoSides_15 : decode cX4_sheetsOfTwoSides 15 = .ok (.iconst 2, 1) := by decide +kernel
theorem dX4_sheetsOfTwoSides_16 : decode cX4_sheetsOfTwoSides 16 = .ok (.irem, 1) := by decide +kernel
theorem dX4_sheetsOfTwoSides_17 : decode cX4_sheetsOfTwoSides 17 = .ok (.iconst 1, 1) := by decide +kernel
theorem dX4_sheetsOfTwoSides_18 : decode cX4_sheetsOfTwoSides 18 = .ok (.if_icmp .ne 7, 3) := by decide +kernel
theorem dX4_sheetsOfTwoSides_21 : decode cX4_sheetsOfTwoSides 21 = .ok (.iconst 1, 1) := by decide +kernel
theorem dX4_sheetsOfTwoSides_22 : decode cX4_sheetsOfTwoSides 22 = .ok (.goto 4, 3) := by decide +kernel
theorem dX4_sheetsOfTwoSides_25 : decode cX4_sheetsOfTwoSides 25 = .ok (.iconst 0, 1) := by decide +kernel
theorem dX4_sheetsOfTwoSides_26 : decode cX4_sheetsOfTwoSides 26 = .ok (.istore 4, 2) := by decide +kernel
theorem dX4_sheetsOfTwoSides_28 : decode cX4_sheetsOfTwoSides 28 = .ok (.iload_n 2, 1) := by decide +kernel
theorem dX4_sheetsOfTwoSides_29 : decode cX4_sheetsOfTwoSides 29 = .ok (.ifCond .eq 14, 3) := by decide +kernel
theorem dX4_sheetsOfTwoSides_32 : decode cX4_sheetsOfTwoSides 32 = .ok (.iload 4, 2) := by decide +kernel
theorem dX4_sheetsOfTwoSides_34 : decode cX4_sheetsOfTwoSides 34 = .ok (.ifCond .eq 9, 3) := by decide +kernel
theorem dX4_sheetsOfTwoSides_37 : decode cX4_sheetsOfTwoSides 37 = .ok (.iload_n 3, 1) := by decide +kernel
theorem dX4_sheetsOfTwoSides_38 : decode cX4_sheetsOfTwoSides 38 = .ok (.iconst 1, 1) := by decide +kernel
theorem dX4_sheetsOfTwoSides_39 : decode cX4_sheetsOfTwoSides 39 = .ok (.iadd, 1) := by decide +kernel
theorem dX4_sheetsOfTwoSides_40 : decode cX4_sheetsOfTwoSides 40 = .ok (.goto 4, 3) := by decide +kernel
theorem dX4_sheetsOfTwoSides_43 : decode cX4_sheetsOfTwoSides 43 = .ok (.iload_n 3, 1) := by decide +kernel
theorem dX4_sheetsOfTwoSides_44 : decode cX4_sheetsOfTwoSides 44 = .ok (.ireturn, 1) := by decide +kernel
theorem dX4_doubleLastPage_0 : decode cX4_doubleLastPage 0 = .ok (.aload_n 0, 1) := by decide +kernel
theorem dX4_doubleLastPage_1 : decode cX4_doubleLastPage 1 = .ok (.getfield 166, 3) := by decide +kernel
theorem dX4_doubleLastPage_4 : decode cX4_doubleLastPage 4 = .ok (.sipush 256, 3) := by decide +kernel
theorem dX4_doubleLastPage_7 : decode cX4_doubleLastPage 7 = .ok (.if_icmp .ge 53, 3) := by decide +kernel
theorem dX4_doubleLastPage_10 : decode cX4_doubleLastPage 10 = .ok (.aload_n 0, 1) := by decide +kernel
theorem dX4_doubleLastPage_11 : decode cX4_doubleLastPage 11 = .ok (.getfield 27, 3) := by decide +kernel
theorem dX4_doubleLastPage_14 : decode cX4_doubleLastPage 14 = .ok (.aload_n 0, 1) := by decide +kernel
theorem dX4_doubleLastPage_15 : decode cX4_doubleLastPage 15 = .ok (.getfield 166, 3) := by decide +kernel
theorem dX4_doubleLastPage_18 : decode cX4_doubleLastPage 18 = .ok (.aload_n 1, 1) := by decide +kernel
theorem dX4_doubleLastPage_19 : decode cX4_doubleLastPage 19 = .ok (.getfield 101, 3) := by decide +kernel
theorem dX4_doubleLastPage_22 : decode cX4_doubleLastPage 22 = .ok (.getfield 105, 3) := by decide +kernel
theorem dX4_doubleLastPage_25 : decode cX4_doubleLastPage 25 = .ok (.iastore, 1) := by decide +kernel
theorem dX4_doubleLastPage_26 : decode cX4_doubleLastPage 26 = .ok (.aload_n 0, 1) := by decide +kernel
theorem dX4_doubleLastPage_27 : decode cX4_doubleLastPage 27 = .ok (.getfield 31, 3) := by decide +kernel
theorem dX4_doubleLastPage_30 : decode cX4_doubleLastPage 30 = .ok (.aload_n 0, 1) := by decide +kernel
theorem dX4_doubleLastPage_31 : decode cX4_doubleLastPage 31 = .ok (.getfield 166, 3) := by decide +kernel
theorem dX4_doubleLastPage_34 : decode cX4_doubleLastPage 34 = .ok (.sipush 1000, 3) := by decide +kernel
theorem dX4_doubleLastPage_37 : decode cX4_doubleLastPage 37 = .ok (.aload_n 1, 1) := by decide +kernel
theorem dX4_doubleLastPage_38 : decode cX4_doubleLastPage 38 = .ok (.getfield 109, 3) := by decide +kernel
theorem dX4_doubleLastPage_41 : decode cX4_doubleLastPage 41 = .ok (.iconst 1, 1) := by decide +kernel
theorem dX4_doubleLastPage_42 : decode cX4_doubleLastPage 42 = .ok (.iadd, 1) := by decide +kernel
theorem dX4_doubleLastPage_43 : decode cX4_doubleLastPage 43 = .ok (.imul, 1) := by decide +kernel
theorem dX4_doubleLastPage_44 : decode cX4_doubleLastPage 44 = .ok (.aload_n 1, 1) := by decide +kernel
theorem dX4_doubleLastPage_45 : decode cX4_doubleLastPage 45 = .ok (.getfield 122, 3) := by decide +kernel
theorem dX4_doubleLastPage_48 : decode cX4_doubleLastPage 48 = .ok (.iadd, 1) := by decide +kernel
theorem dX4_doubleLastPage_49 : decode cX4_doubleLastPage 49 = .ok (.iastore, 1) := by decide +kernel
theorem dX4_doubleLastPage_50 : decode cX4_doubleLastPage 50 = .ok (.aload_n 0, 1) := by decide +kernel
theorem dX4_doubleLastPage_51 : decode cX4_doubleLastPage 51 = .ok (.dup, 1) := by decide +kernel
theorem dX4_doubleLastPage_52 : decode cX4_doubleLastPage 52 = .ok (.getfield 166, 3) := by decide +kernel
theorem dX4_doubleLastPage_55 : decode cX4_doubleLastPage 55 = .ok (.iconst 1, 1) := by decide +kernel
theorem dX4_doubleLastPage_56 : decode cX4_doubleLastPage 56 = .ok (.iadd, 1) := by decide +kernel
theorem dX4_doubleLastPage_57 : decode cX4_doubleLastPage 57 = .ok (.putfield 166, 3) := by decide +kernel
theorem dX4_doubleLastPage_60 : decode cX4_doubleLastPage 60 = .ok (.aload_n 1, 1) := by decide +kernel
theorem dX4_doubleLastPage_61 : decode cX4_doubleLastPage 61 = .ok (.dup, 1) := by decide +kernel
theorem dX4_doubleLastPage_62 : decode cX4_doubleLastPage 62 = .ok (.getfield 122, 3) := by decide +kernel
theorem dX4_doubleLastPage_65 : decode cX4_doubleLastPage 65 = .ok (.iconst 1, 1) := by decide +kernel
theorem dX4_doubleLastPage_66 : decode cX4_doubleLastPage 66 = .ok (.isub, 1) := by decide +kernel
theorem dX4_doubleLastPage_67 : decode cX4_doubleLastPage 67 = .ok (.putfield 122, 3) := by decide +kernel
theorem dX4_doubleLastPage_70 : decode cX4_doubleLastPage 70 = .ok (.aload_n 1, 1) := by decide +kernel
theorem dX4_doubleLastPage_71 : decode cX4_doubleLastPage 71 = .ok (.getfield 101, 3) := by decide +kernel
theorem dX4_doubleLastPage_74 : decode cX4_doubleLastPage 74 = .ok (.getfield 215, 3) := by decide +kernel
theorem dX4_doubleLastPage_77 : decode cX4_doubleLastPage 77 = .ok (.dup, 1) := by decide +kernel
theorem dX4_doubleLastPage_78 : decode cX4_doubleLastPage 78 = .ok (.getfield 178, 3) := by decide +kernel
theorem dX4_doubleLastPage_81 : decode cX4_doubleLastPage 81 = .ok (.lconst 1, 1) := by decide +kernel
theorem dX4_doubleLastPage_82 : decode cX4_doubleLastPage 82 = .ok (.ladd, 1) := by decide +kernel
theorem dX4_doubleLastPage_83 : decode cX4_doubleLastPage 83 = .ok (.putfield 178, 3) := by decide +kernel
theorem dX4_doubleLastPage_86 : decode cX4_doubleLastPage 86 = .ok (.return_, 1) := by decide +kernel
theorem dX4_emptyPrintersOf_0 : decode cX4_emptyPrintersOf 0 = .ok (.aload_n 0, 1) := by decide +kernel
theorem dX4_emptyPrintersOf_1 : decode cX4_emptyPrintersOf 1 = .ok (.getfield 11, 3) := by decide +kernel
theorem dX4_emptyPrintersOf_4 : decode cX4_emptyPrintersOf 4 = .ok (.astore_n 2, 1) := by decide +kernel
theorem dX4_emptyPrintersOf_5 : decode cX4_emptyPrintersOf 5 = .ok (.aload_n 2, 1) := by decide +kernel
theorem dX4_emptyPrintersOf_6 : decode cX4_emptyPrintersOf 6 = .ok (.arraylength, 1) := by decide +kernel
theorem dX4_emptyPrintersOf_7 : decode cX4_emptyPrintersOf 7 = .ok (.istore_n 3, 1) := by decide +kernel
theorem dX4_emptyPrintersOf_8 : decode cX4_emptyPrintersOf 8 = .ok (.iconst 0, 1) := by decide +kernel
theorem dX4_emptyPrintersOf_9 : decode cX4_emptyPrintersOf 9 = .ok (.istore 4, 2) := by decide +kernel
theorem dX4_emptyPrintersOf_11 : decode cX4_emptyPrintersOf 11 = .ok (.iload 4, 2) := by decide +kernel
theorem dX4_emptyPrintersOf_13 : decode cX4_emptyPrintersOf 13 = .ok (.iload_n 3, 1) := by decide +kernel
theorem dX4_emptyPrintersOf_14 : decode cX4_emptyPrintersOf 14 = .ok (.if_icmp .ge 46, 3) := by decide +kernel
theorem dX4_emptyPrintersOf_17 : decode cX4_emptyPrintersOf 17 = .ok (.aload_n 2, 1) := by decide +kernel
theorem dX4_emptyPrintersOf_18 : decode cX4_emptyPrintersOf 18 = .ok (.iload 4, 2) := by decide +kernel
theorem dX4_emptyPrintersOf_20 : decode cX4_emptyPrintersOf 20 = .ok (.aaload, 1) := by decide +kernel
theorem dX4_emptyPrintersOf_21 : decode cX4_emptyPrintersOf 21 = .ok (.astore 5, 2) := by decide +kernel
theorem dX4_emptyPrintersOf_23 : decode cX4_emptyPrintersOf 23 = .ok (.aload 5, 2) := by decide +kernel
theorem dX4_emptyPrintersOf_25 : decode cX4_emptyPrintersOf 25 = .ok (.ifnull 29, 3) := by decide +kernel
theorem dX4_emptyPrintersOf_28 : decode cX4_emptyPrintersOf 28 = .ok (.aload 5, 2) := by decide +kernel
theorem dX4_emptyPrintersOf_30 : decode cX4_emptyPrintersOf 30 = .ok (.getfield 87, 3) := by decide +kernel
theorem dX4_emptyPrintersOf_33 : decode cX4_emptyPrintersOf 33 = .ok (.ifnull 21, 3) := by decide +kernel
theorem dX4_emptyPrintersOf_36 : decode cX4_emptyPrintersOf 36 = .ok (.aload 5, 2) := by decide +kernel
theorem dX4_emptyPrintersOf_38 : decode cX4_emptyPrintersOf 38 = .ok (.getfield 87, 3) := by decide +kernel
theorem dX4_emptyPrintersOf_41 : decode cX4_emptyPrintersOf 41 = .ok (.getfield 101, 3) := by decide +kernel
theorem dX4_emptyPrintersOf_44 : decode cX4_emptyPrintersOf 44 = .ok (.aload_n 1, 1) := by decide +kernel
theorem dX4_emptyPrintersOf_45 : decode cX4_emptyPrintersOf 45 = .ok (.if_acmp .ne 9, 3) := by decide +kernel
theorem dX4_emptyPrintersOf_48 : decode cX4_emptyPrintersOf 48 = .ok (.aload 5, 2) := by decide +kernel
theorem dX4_emptyPrintersOf_50 : decode cX4_emptyPrintersOf 50 = .ok (.aconst_null, 1) := by decide +kernel
theorem dX4_emptyPrintersOf_51 : decode cX4_emptyPrintersOf 51 = .ok (.putfield 87, 3) := by decide +kernel
theorem dX4_emptyPrintersOf_54 : decode cX4_emptyPrintersOf 54 = .ok (.iinc 4 1, 3) := by decide +kernel
theorem dX4_emptyPrintersOf_57 : decode cX4_emptyPrintersOf 57 = .ok (.goto (-46), 3) := by decide +kernel
theorem dX4_emptyPrintersOf_60 : decode cX4_emptyPrintersOf 60 = .ok (.return_, 1) := by decide +kernel
set_option maxRecDepth 20000 in
theorem ggX4_reasonByPrinters_X4_firstPartFor : GoodIn wsX4_reasonByPrinters wsX4_firstPartFor := goodIn_r _ [6, 7, 8, 9, 10, 11, 12, 13, 14, 15, 16, 17, 18, 19, 20, 38, 39, 40, 41, 42, 43, 44, 45, 46, 47, 48, 49, 50, 51, 52, 32, 33, 34, 35, 36, 37, 53, 54, 55, 56, 57, 58] (by decide +kernel) (by decide +kernel)
set_option maxRecDepth 20000 in
theorem gX4_reasonByPrinters_X4_firstPartFor : GoodIn wsX4_reasonByPrinters (va_wsS RX4 200 yX4_firstPartFor wsX4_firstPartFor) := goodIn_app (goodIn_of _ (by decide +kernel)) ggX4_reasonByPrinters_X4_firstPartFor
theorem dX4_reasonByPrinters_0 : decode cX4_reasonByPrinters 0 = .ok (.iconst 0, 1) := by decide +kernel
theorem dX4_reasonByPrinters_1 : decode cX4_reasonByPrinters 1 = .ok (.istore_n 2, 1) := by decide +kernel
theorem dX4_reasonByPrinters_2 : decode cX4_reasonByPrinters 2 = .ok (.aload_n 0, 1) := by decide +kernel
theorem dX4_reasonByPrinters_3 : decode cX4_reasonByPrinters 3 = .ok (.getfield 11, 3) := by decide +kernel
theorem dX4_reasonByPrinters_6 : decode cX4_reasonByPrinters 6 = .ok (.astore_n 3, 1) := by decide +kernel
theorem dX4_reasonByPrinters_7 : decode cX4_reasonByPrinters 7 = .ok (.aload_n 3, 1) := by decide +kernel
theorem dX4_reasonByPrinters_8 : decode cX4_reasonByPrinters 8 = .ok (.arraylength, 1) := by decide +kernel
theorem dX4_reasonByPrinters_9 : decode cX4_reasonByPrinters 9 = .ok (.istore 4, 2) := by decide +kernel
theorem dX4_reasonByPrinters_11 : decode cX4_reasonByPrinters 11 = .ok (.iconst 0, 1) := by decide +kernel
theorem dX4_reasonByPrinters_12 : decode cX4_reasonByPrinters 12 = .ok (.istore 5, 2) := by decide +kernel
theorem dX4_reasonByPrinters_14 : decode cX4_reasonByPrinters 14 = .ok (.iload 5, 2) := by decide +kernel
theorem dX4_reasonByPrinters_16 : decode cX4_reasonByPrinters 16 = .ok (.iload 4, 2) := by decide +kernel
theorem dX4_reasonByPrinters_18 : decode cX4_reasonByPrinters 18 = .ok (.if_icmp .ge 41, 3) := by decide +kernel
theorem dX4_reasonByPrinters_21 : decode cX4_reasonByPrinters 21 = .ok (.aload_n 3, 1) := by decide +kernel
theorem dX4_reasonByPrinters_22 : decode cX4_reasonByPrinters 22 = .ok (.iload 5, 2) := by decide +kernel
theorem dX4_reasonByPrinters_24 : decode cX4_reasonByPrinters 24 = .ok (.aaload, 1) := by decide +kernel
theorem dX4_reasonByPrinters_25 : decode cX4_reasonByPrinters 25 = .ok (.astore 6, 2) := by decide +kernel
theorem dX4_reasonByPrinters_27 : decode cX4_reasonByPrinters 27 = .ok (.aload 6, 2) := by decide +kernel
theorem dX4_reasonByPrinters_29 : decode cX4_reasonByPrinters 29 = .ok (.ifnull 24, 3) := by decide +kernel
theorem dX4_reasonByPrinters_32 : decode cX4_reasonByPrinters 32 = .ok (.aload_n 1, 1) := by decide +kernel
theorem dX4_reasonByPrinters_33 : decode cX4_reasonByPrinters 33 = .ok (.aload 6, 2) := by decide +kernel
theorem dX4_reasonByPrinters_35 : decode cX4_reasonByPrinters 35 = .ok (.invokestatic 200, 3) := by decide +kernel
theorem dX4_reasonByPrinters_38 : decode cX4_reasonByPrinters 38 = .ok (.ifnull 15, 3) := by decide +kernel
theorem dX4_reasonByPrinters_41 : decode cX4_reasonByPrinters 41 = .ok (.aload 6, 2) := by decide +kernel
theorem dX4_reasonByPrinters_43 : decode cX4_reasonByPrinters 43 = .ok (.getfield 87, 3) := by decide +kernel
theorem dX4_reasonByPrinters_46 : decode cX4_reasonByPrinters 46 = .ok (.ifnonnull 5, 3) := by decide +kernel
theorem dX4_reasonByPrinters_49 : decode cX4_reasonByPrinters 49 = .ok (.iconst 5, 1) := by decide +kernel
theorem dX4_reasonByPrinters_50 : decode cX4_reasonByPrinters 50 = .ok (.ireturn, 1) := by decide +kernel
theorem dX4_reasonByPrinters_51 : decode cX4_reasonByPrinters 51 = .ok (.iconst 1, 1) := by decide +kernel
theorem dX4_reasonByPrinters_52 : decode cX4_reasonByPrinters 52 = .ok (.istore_n 2, 1) := by decide +kernel
theorem dX4_reasonByPrinters_53 : decode cX4_reasonByPrinters 53 = .ok (.iinc 5 1, 3) := by decide +kernel
theorem dX4_reasonByPrinters_56 : decode cX4_reasonByPrinters 56 = .ok (.goto (-42), 3) := by decide +kernel
theorem dX4_reasonByPrinters_59 : decode cX4_reasonByPrinters 59 = .ok (.iload_n 2, 1) := by decide +kernel
theorem dX4_reasonByPrinters_60 : decode cX4_reasonByPrinters 60 = .ok (.ifCond .eq 7, 3) := by decide +kernel
theorem dX4_reasonByPrinters_63 : decode cX4_reasonByPrinters 63 = .ok (.iconst 4, 1) := by decide +kernel
theorem dX4_reasonByPrinters_64 : decode cX4_reasonByPrinters 64 = .ok (.goto 4, 3) := by decide +kernel
theorem dX4_reasonByPrinters_67 : decode cX4_reasonByPrinters 67 = .ok (.iconst 3, 1) := by decide +kernel
theorem dX4_reasonByPrinters_68 : decode cX4_reasonByPrinters 68 = .ok (.ireturn, 1) := by decide +kernel
set_option maxRecDepth 20000 in
theorem ggX4_canLose_X1_untouchedCopies : GoodIn wsX4_canLose wsX1_untouchedCopies := goodIn_r _ [7, 8, 9, 10, 11, 12, 13, 14, 15, 16, 17] (by decide +kernel) (by decide +kernel)
set_option maxRecDepth 20000 in
theorem gX4_canLose_X1_untouchedCopies : GoodIn wsX4_canLose (wsV RX4 252 RX1 yX1_untouchedCopies wsX1_untouchedCopies) := goodIn_app (goodIn_of _ (by decide +kernel)) ggX4_canLose_X1_untouchedCopies
theorem dX4_canLose_0 : decode cX4_canLose 0 = .ok (.aload_n 0, 1) := by decide +kernel
theorem dX4_canLose_1 : decode cX4_canLose 1 = .ok (.getfield 119, 3) := by decide +kernel
theorem dX4_canLose_4 : decode cX4_canLose 4 = .ok (.ifCond .ne 22, 3) := by decide +kernel
theorem dX4_canLose_7 : decode cX4_canLose 7 = .ok (.aload_n 0, 1) := by decide +kernel
theorem dX4_canLose_8 : decode cX4_canLose 8 = .ok (.getfield 249, 3) := by decide +kernel
theorem dX4_canLose_11 : decode cX4_canLose 11 = .ok (.ifCond .ne 15, 3) := by decide +kernel
theorem dX4_canLose_14 : decode cX4_canLose 14 = .ok (.aload_n 0, 1) := by decide +kernel
theorem dX4_canLose_15 : decode cX4_canLose 15 = .ok (.invokevirtual 252, 3) := by decide +kernel
theorem dX4_canLose_18 : decode cX4_canLose 18 = .ok (.iload_n 1, 1) := by decide +kernel
theorem dX4_canLose_19 : decode cX4_canLose 19 = .ok (.if_icmp .le 7, 3) := by decide +kernel
theorem dX4_canLose_22 : decode cX4_canLose 22 = .ok (.iconst 1, 1) := by decide +kernel
theorem dX4_canLose_23 : decode cX4_canLose 23 = .ok (.goto 4, 3) := by decide +kernel
theorem dX4_canLose_26 : decode cX4_canLose 26 = .ok (.iconst 0, 1) := by decide +kernel
theorem dX4_canLose_27 : decode cX4_canLose 27 = .ok (.ireturn, 1) := by decide +kernel
theorem dJ9_min_7cf53_0 : decode cJ9_min_7cf53 0 = .ok (.iload_n 0, 1) := by decide +kernel
theorem dJ9_min_7cf53_1 : decode cJ9_min_7cf53 1 = .ok (.iload_n 1, 1) := by decide +kernel
theorem dJ9_min_7cf53_2 : decode cJ9_min_7cf53 2 = .ok (.if_icmp .gt 7, 3) := by decide +kernel
theorem dJ9_min_7cf53_5 : decode cJ9_min_7cf53 5 = .ok (.iload_n 0, 1) := by decide +kernel
theorem dJ9_min_7cf53_6 : decode cJ9_min_7cf53 6 = .ok (.goto 4, 3) := by decide +kernel
theorem dJ9_min_7cf53_9 : decode cJ9_min_7cf53 9 = .ok (.iload_n 1, 1) := by decide +kernel
theorem dJ9_min_7cf53_10 : decode cJ9_min_7cf53 10 = .ok (.ireturn, 1) := by decide +kernel
end
section
theorem dX5_init_0 : decode cX5_init 0 = .ok (.aload_n 0, 1) := by decide +kernel
theorem dX5_init_1 : decode cX5_init 1 = .ok (.invokespecial 1, 3) := by decide +kernel
theorem dX5_init_4 : decode cX5_init 4 = .ok (.aload_n 0, 1) := by decide +kernel
theorem dX5_init_5 : decode cX5_init 5 = .ok (.bipush 9, 2) := by decide +kernel
theorem dX5_init_7 : decode cX5_init 7 = .ok (.newarray .int, 2) := by decide +kernel
theorem dX5_init_9 : decode cX5_init 9 = .ok (.putfield 7, 3) := by decide +kernel
theorem dX5_init_12 : decode cX5_init 12 = .ok (.aload_n 0, 1) := by decide +kernel
theorem dX5_init_13 : decode cX5_init 13 = .ok (.bipush 9, 2) := by decide +kernel
theorem dX5_init_15 : decode cX5_init 15 = .ok (.newarray .int, 2) := by decide +kernel
theorem dX5_init_17 : decode cX5_init 17 = .ok (.putfield 13, 3) := by decide +kernel
theorem dX5_init_20 : decode cX5_init 20 = .ok (.aload_n 0, 1) := by decide +kernel
theorem dX5_init_21 : decode cX5_init 21 = .ok (.bipush 9, 2) := by decide +kernel
theorem dX5_init_23 : decode cX5_init 23 = .ok (.newarray .int, 2) := by decide +kernel
theorem dX5_init_25 : decode cX5_init 25 = .ok (.putfield 16, 3) := by decide +kernel
theorem dX5_init_28 : decode cX5_init 28 = .ok (.aload_n 0, 1) := by decide +kernel
theorem dX5_init_29 : decode cX5_init 29 = .ok (.bipush 9, 2) := by decide +kernel
theorem dX5_init_31 : decode cX5_init 31 = .ok (.newarray .int, 2) := by decide +kernel
theorem dX5_init_33 : decode cX5_init 33 = .ok (.putfield 19, 3) := by decide +kernel
theorem dX5_init_36 : decode cX5_init 36 = .ok (.aload_n 0, 1) := by decide +kernel
theorem dX5_init_37 : decode cX5_init 37 = .ok (.bipush 21, 2) := by decide +kernel
theorem dX5_init_39 : decode cX5_init 39 = .ok (.newarray .int, 2) := by decide +kernel
theorem dX5_init_41 : decode cX5_init 41 = .ok (.putfield 22, 3) := by decide +kernel
theorem dX5_init_44 : decode cX5_init 44 = .ok (.aload_n 0, 1) := by decide +kernel
theorem dX5_init_45 : decode cX5_init 45 = .ok (.bipush 21, 2) := by decide +kernel
theorem dX5_init_47 : decode cX5_init 47 = .ok (.newarray .int, 2) := by decide +kernel
theorem dX5_init_49 : decode cX5_init 49 = .ok (.putfield 25, 3) := by decide +kernel
theorem dX5_init_52 : decode cX5_init 52 = .ok (.aload_n 0, 1) := by decide +kernel
theorem dX5_init_53 : decode cX5_init 53 = .ok (.bipush 84, 2) := by decide +kernel
theorem dX5_init_55 : decode cX5_init 55 = .ok (.newarray .long, 2) := by decide +kernel
theorem dX5_init_57 : decode cX5_init 57 = .ok (.putfield 28, 3) := by decide +kernel
theorem dX5_init_60 : decode cX5_init 60 = .ok (.aload_n 0, 1) := by decide +kernel
theorem dX5_init_61 : decode cX5_init 61 = .ok (.bipush 61, 2) := by decide +kernel
theorem dX5_init_63 : decode cX5_init 63 = .ok (.newarray .int, 2) := by decide +kernel
theorem dX5_init_65 : decode cX5_init 65 = .ok (.putfield 32, 3) := by decide +kernel
theorem dX5_init_68 : decode cX5_init 68 = .ok (.aload_n 0, 1) := by decide +kernel
theorem dX5_init_69 : decode cX5_init 69 = .ok (.bipush 61, 2) := by decide +kernel
theorem dX5_init_71 : decode cX5_init 71 = .ok (.newarray .int, 2) := by decide +kernel
theorem dX5_init_73 : decode cX5_init 73 = .ok (.putfield 35, 3) := by decide +kernel
theorem dX5_init_76 : decode cX5_init 76 = .ok (.aload_n 0, 1) := by decide +kernel
theorem dX5_init_77 : decode cX5_init 77 = .ok (.bipush 61, 2) := by decide +kernel
theorem dX5_init_79 : decode cX5_init 79 = .ok (.newarray .int, 2) := by decide +kernel
theorem dX5_init_81 : decode cX5_init 81 = .ok (.putfield 38, 3) := by decide +kernel
theorem dX5_init_84 : decode cX5_init 84 = .ok (.aload_n 0, 1) := by decide +kernel
theorem dX5_init_85 : decode cX5_init 85 = .ok (.bipush 61, 2) := by decide +kernel
theorem dX5_init_87 : decode cX5_init 87 = .ok (.newarray .long, 2) := by decide +kernel
theorem dX5_init_89 : decode cX5_init 89 = .ok (.putfield 41, 3) := by decide +kernel
theorem dX5_init_92 : decode cX5_init 92 = .ok (.aload_n 0, 1) := by decide +kernel
theorem dX5_init_93 : decode cX5_init 93 = .ok (.bipush 61, 2) := by decide +kernel
theorem dX5_init_95 : decode cX5_init 95 = .ok (.newarray .boolean, 2) := by decide +kernel
theorem dX5_init_97 : decode cX5_init 97 = .ok (.putfield 44, 3) := by decide +kernel
theorem dX5_init_100 : decode cX5_init 100 = .ok (.aload_n 0, 1) := by decide +kernel
theorem dX5_init_101 : decode cX5_init 101 = .ok (.bipush 61, 2) := by decide +kernel
theorem dX5_init_103 : decode cX5_init 103 = .ok (.newarray .boolean, 2) := by decide +kernel
theorem dX5_init_105 : decode cX5_init 105 = .ok (.putfield 48, 3) := by decide +kernel
theorem dX5_init_108 : decode cX5_init 108 = .ok (.aload_n 0, 1) := by decide +kernel
theorem dX5_init_109 : decode cX5_init 109 = .ok (.sipush 4200, 3) := by decide +kernel
theorem dX5_init_112 : decode cX5_init 112 = .ok (.newarray .int, 2) := by decide +kernel
theorem dX5_init_114 : decode cX5_init 114 = .ok (.putfield 51, 3) := by decide +kernel
theorem dX5_init_117 : decode cX5_init 117 = .ok (.aload_n 0, 1) := by decide +kernel
theorem dX5_init_118 : decode cX5_init 118 = .ok (.sipush 4200, 3) := by decide +kernel
theorem dX5_init_121 : decode cX5_init 121 = .ok (.newarray .int, 2) := by decide +kernel
theorem dX5_init_123 : decode cX5_init 123 = .ok (.putfield 54, 3) := by decide +kernel
theorem dX5_init_126 : decode cX5_init 126 = .ok (.aload_n 0, 1) := by decide +kernel
theorem dX5_init_127 : decode cX5_init 127 = .ok (.sipush 4200, 3) := by decide +kernel
theorem dX5_init_130 : decode cX5_init 130 = .ok (.newarray .int, 2) := by decide +kernel
theorem dX5_init_132 : decode cX5_init 132 = .ok (.putfield 57, 3) := by decide +kernel
theorem dX5_init_135 : decode cX5_init 135 = .ok (.aload_n 0, 1) := by decide +kernel
theorem dX5_init_136 : decode cX5_init 136 = .ok (.sipush 4200, 3) := by decide +kernel
theorem dX5_init_139 : decode cX5_init 139 = .ok (.newarray .int, 2) := by decide +kernel
theorem dX5_init_141 : decode cX5_init 141 = .ok (.putfield 60, 3) := by decide +kernel
theorem dX5_init_144 : decode cX5_init 144 = .ok (.aload_n 0, 1) := by decide +kernel
theorem dX5_init_145 : decode cX5_init 145 = .ok (.sipush 4200, 3) := by decide +kernel
theorem dX5_init_148 : decode cX5_init 148 = .ok (.newarray .int, 2) := by decide +kernel
theorem dX5_init_150 : decode cX5_init 150 = .ok (.putfield 63, 3) := by decide +kernel
theorem dX5_init_153 : decode cX5_init 153 = .ok (.aload_n 0, 1) := by decide +kernel
theorem dX5_init_154 : decode cX5_init 154 = .ok (.sipush 4200, 3) := by decide +kernel
theorem dX5_init_157 : decode cX5_init 157 = .ok (.newarray .boolean, 2) := by decide +kernel
theorem dX5_init_159 : decode cX5_init 159 = .ok (.putfield 66, 3) := by decide +kernel
theorem dX5_init_162 : decode cX5_init 162 = .ok (.aload_n 0, 1) := by decide +kernel
theorem dX5_init_163 : decode cX5_init 163 = .ok (.sipush 4200, 3) := by decide +kernel
theorem dX5_init_166 : decode cX5_init 166 = .ok (.newarray .boolean, 2) := by decide +kernel
theorem dX5_init_168 : decode cX5_init 168 = .ok (.putfield 69, 3) := by decide +kernel
theorem dX5_init_171 : decode cX5_init 171 = .ok (.aload_n 0, 1) := by decide +kernel
theorem dX5_init_172 : decode cX5_init 172 = .ok (.sipush 4200, 3) := by decide +kernel
theorem dX5_init_175 : decode cX5_init 175 = .ok (.newarray .int, 2) := by decide +kernel
theorem dX5_init_177 : decode cX5_init 177 = .ok (.putfield 72, 3) := by decide +kernel
theorem dX5_init_180 : decode cX5_init 180 = .ok (.aload_n 0, 1) := by decide +kernel
theorem dX5_init_181 : decode cX5_init 181 = .ok (.sipush 4200, 3) := by decide +kernel
theorem dX5_init_184 : decode cX5_init 184 = .ok (.newarray .int, 2) := by decide +kernel
theorem dX5_init_186 : decode cX5_init 186 = .ok (.putfield 75, 3) := by decide +kernel
theorem dX5_init_189 : decode cX5_init 189 = .ok (.aload_n 0, 1) := by decide +kernel
theorem dX5_init_190 : decode cX5_init 190 = .ok (.iconst 3, 1) := by decide +kernel
theorem dX5_init_191 : decode cX5_init 191 = .ok (.putfield 78, 3) := by decide +kernel
theorem dX5_init_194 : decode cX5_init 194 = .ok (.iconst 0, 1) := by decide +kernel
theorem dX5_init_195 : decode cX5_init 195 = .ok (.istore_n 1, 1) := by decide +kernel
theorem dX5_init_196 : decode cX5_init 196 = .ok (.iload_n 1, 1) := by decide +kernel
theorem dX5_init_197 : decode cX5_init 197 = .ok (.bipush 9, 2) := by decide +kernel
theorem dX5_init_199 : decode cX5_init 199 = .ok (.if_icmp .ge 16, 3) := by decide +kernel
theorem dX5_init_202 : decode cX5_init 202 = .ok (.aload_n 0, 1) := by decide +kernel
theorem dX5_init_203 : decode cX5_init 203 = .ok (.getfield 19, 3) := by decide +kernel
theorem dX5_init_206 : decode cX5_init 206 = .ok (.iload_n 1, 1) := by decide +kernel
theorem dX5_init_207 : decode cX5_init 207 = .ok (.iconst (-1), 1) := by decide +kernel
theorem dX5_init_208 : decode cX5_init 208 = .ok (.iastore, 1) := by decide +kernel
theorem dX5_init_209 : decode cX5_init 209 = .ok (.iinc 1 1, 3) := by decide +kernel
theorem dX5_init_212 : decode cX5_init 212 = .ok (.goto (-16), 3) := by decide +kernel
theorem dX5_init_215 : decode cX5_init 215 = .ok (.return_, 1) := by decide +kernel
theorem dX5_thrown_0 : decode cX5_thrown 0 = .ok (.aload_n 0, 1) := by decide +kernel
theorem dX5_thrown_1 : decode cX5_thrown 1 = .ok (.getfield 82, 3) := by decide +kernel
theorem dX5_thrown_4 : decode cX5_thrown 4 = .ok (.ireturn, 1) := by decide +kernel
theorem dX5_in_0 : decode cX5_in 0 = .ok (.lload_n 0, 1) := by decide +kernel
theorem dX5_in_1 : decode cX5_in 1 = .ok (.lload_n 2, 1) := by decide +kernel
theorem dX5_in_2 : decode cX5_in 2 = .ok (.lcmp, 1) := by decide +kernel
theorem dX5_in_3 : decode cX5_in 3 = .ok (.ifCond .lt 14, 3) := by decide +kernel
theorem dX5_in_6 : decode cX5_in 6 = .ok (.lload_n 0, 1) := by decide +kernel
theorem dX5_in_7 : decode cX5_in 7 = .ok (.lload 4, 2) := by decide +kernel
theorem dX5_in_9 : decode cX5_in 9 = .ok (.lcmp, 1) := by decide +kernel
theorem dX5_in_10 : decode cX5_in 10 = .ok (.ifCond .gt 7, 3) := by decide +kernel
theorem dX5_in_13 : decode cX5_in 13 = .ok (.iconst 1, 1) := by decide +kernel
theorem dX5_in_14 : decode cX5_in 14 = .ok (.goto 4, 3) := by decide +kernel
theorem dX5_in_17 : decode cX5_in 17 = .ok (.iconst 0, 1) := by decide +kernel
theorem dX5_in_18 : decode cX5_in 18 = .ok (.ireturn, 1) := by decide +kernel
set_option maxRecDepth 20000 in
theorem ggX5_printer_X5_in : GoodIn wsX5_printer wsX5_in := goodIn_r _ [10] (by decide +kernel) (by decide +kernel)
set_option maxRecDepth 20000 in
theorem gX5_printer_X5_in : GoodIn wsX5_printer (va_wsS RX5 87 yX5_in wsX5_in) := goodIn_app (goodIn_of _ (by decide +kernel)) ggX5_printer_X5_in
theorem dX5_printer_0 : decode cX5_printer 0 = .ok (.aload_n 0, 1) := by decide +kernel
theorem dX5_printer_1 : decode cX5_printer 1 = .ok (.iload_n 1, 1) := by decide +kernel
theorem dX5_printer_2 : decode cX5_printer 2 = .ok (.i2l, 1) := by decide +kernel
theorem dX5_printer_3 : decode cX5_printer 3 = .ok (.lconst 0, 1) := by decide +kernel
theorem dX5_printer_4 : decode cX5_printer 4 = .ok (.ldc2_w 85, 3) := by decide +kernel
theorem dX5_printer_7 : decode cX5_printer 7 = .ok (.invokestatic 87, 3) := by decide +kernel
theorem dX5_printer_10 : decode cX5_printer 10 = .ok (.ifCond .eq 15, 3) := by decide +kernel
theorem dX5_printer_13 : decode cX5_printer 13 = .ok (.iload_n 2, 1) := by decide +kernel
theorem dX5_printer_14 : decode cX5_printer 14 = .ok (.i2l, 1) := by decide +kernel
theorem dX5_printer_15 : decode cX5_printer 15 = .ok (.lconst 1, 1) := by decide +kernel
theorem dX5_printer_16 : decode cX5_printer 16 = .ok (.ldc2_w 91, 3) := by decide +kernel
theorem dX5_printer_19 : decode cX5_printer 19 = .ok (.invokestatic 87, 3) := by decide +kernel
theorem dX5_printer_22 : decode cX5_printer 22 = .ok (.ifCond .ne 7, 3) := by decide +kernel
theorem dX5_printer_25 : decode cX5_printer 25 = .ok (.iconst 1, 1) := by decide +kernel
theorem dX5_printer_26 : decode cX5_printer 26 = .ok (.goto 17, 3) := by decide +kernel
theorem dX5_printer_29 : decode cX5_printer 29 = .ok (.aload_n 0, 1) := by decide +kernel
theorem dX5_printer_30 : decode cX5_printer 30 = .ok (.getfield 93, 3) := by decide +kernel
theorem dX5_printer_33 : decode cX5_printer 33 = .ok (.bipush 8, 2) := by decide +kernel
theorem dX5_printer_35 : decode cX5_printer 35 = .ok (.if_icmp .ne 7, 3) := by decide +kernel
theorem dX5_printer_38 : decode cX5_printer 38 = .ok (.iconst 2, 1) := by decide +kernel
theorem dX5_printer_39 : decode cX5_printer 39 = .ok (.goto 4, 3) := by decide +kernel
theorem dX5_printer_42 : decode cX5_printer 42 = .ok (.iconst 0, 1) := by decide +kernel
theorem dX5_printer_43 : decode cX5_printer 43 = .ok (.putfield 82, 3) := by decide +kernel
theorem dX5_printer_46 : decode cX5_printer 46 = .ok (.aload_n 0, 1) := by decide +kernel
theorem dX5_printer_47 : decode cX5_printer 47 = .ok (.getfield 82, 3) := by decide +kernel
theorem dX5_printer_50 : decode cX5_printer 50 = .ok (.ifCond .le 5, 3) := by decide +kernel
theorem dX5_printer_53 : decode cX5_printer 53 = .ok (.iconst 0, 1) := by decide +kernel
theorem dX5_printer_54 : decode cX5_printer 54 = .ok (.ireturn, 1) := by decide +kernel
theorem dX5_printer_55 : decode cX5_printer 55 = .ok (.aload_n 0, 1) := by decide +kernel
theorem dX5_printer_56 : decode cX5_printer 56 = .ok (.dup, 1) := by decide +kernel
theorem dX5_printer_57 : decode cX5_printer 57 = .ok (.getfield 93, 3) := by decide +kernel
theorem dX5_printer_60 : decode cX5_printer 60 = .ok (.iconst 1, 1) := by decide +kernel
theorem dX5_printer_61 : decode cX5_printer 61 = .ok (.iadd, 1) := by decide +kernel
theorem dX5_printer_62 : decode cX5_printer 62 = .ok (.putfield 93, 3) := by decide +kernel
theorem dX5_printer_65 : decode cX5_printer 65 = .ok (.aload_n 0, 1) := by decide +kernel
theorem dX5_printer_66 : decode cX5_printer 66 = .ok (.getfield 7, 3) := by decide +kernel
theorem dX5_printer_69 : decode cX5_printer 69 = .ok (.aload_n 0, 1) := by decide +kernel
theorem dX5_printer_70 : decode cX5_printer 70 = .ok (.getfield 93, 3) := by decide +kernel
theorem dX5_printer_73 : decode cX5_printer 73 = .ok (.iload_n 1, 1) := by decide +kernel
theorem dX5_printer_74 : decode cX5_printer 74 = .ok (.iastore, 1) := by decide +kernel
theorem dX5_printer_75 : decode cX5_printer 75 = .ok (.aload_n 0, 1) := by decide +kernel
theorem dX5_printer_76 : decode cX5_printer 76 = .ok (.getfield 13, 3) := by decide +kernel
theorem dX5_printer_79 : decode cX5_printer 79 = .ok (.aload_n 0, 1) := by decide +kernel
theorem dX5_printer_80 : decode cX5_printer 80 = .ok (.getfield 93, 3) := by decide +kernel
theorem dX5_printer_83 : decode cX5_printer 83 = .ok (.iload_n 2, 1) := by decide +kernel
theorem dX5_printer_84 : decode cX5_printer 84 = .ok (.iastore, 1) := by decide +kernel
theorem dX5_printer_85 : decode cX5_printer 85 = .ok (.aload_n 0, 1) := by decide +kernel
theorem dX5_printer_86 : decode cX5_printer 86 = .ok (.getfield 93, 3) := by decide +kernel
theorem dX5_printer_89 : decode cX5_printer 89 = .ok (.ireturn, 1) := by decide +kernel
set_option maxRecDepth 20000 in
theorem ggX5_ticket_X5_in : GoodIn wsX5_ticket wsX5_in := goodIn_r _ [11] (by decide +kernel) (by decide +kernel)
set_option maxRecDepth 20000 in
theorem gX5_ticket_X5_in : GoodIn wsX5_ticket (va_wsS RX5 87 yX5_in wsX5_in) := goodIn_app (goodIn_of _ (by decide +kernel)) ggX5_ticket_X5_in
theorem dX5_ticket_0 : decode cX5_ticket 0 = .ok (.aload_n 0, 1) := by decide +kernel
theorem dX5_ticket_1 : decode cX5_ticket 1 = .ok (.iload_n 1, 1) := by decide +kernel
theorem dX5_ticket_2 : decode cX5_ticket 2 = .ok (.i2l, 1) := by decide +kernel
theorem dX5_ticket_3 : decode cX5_ticket 3 = .ok (.lconst 0, 1) := by decide +kernel
theorem dX5_ticket_4 : decode cX5_ticket 4 = .ok (.ldc2_w 85, 3) := by decide +kernel
theorem dX5_ticket_7 : decode cX5_ticket 7 = .ok (.invokestatic 87, 3) := by decide +kernel
theorem dX5_ticket_10 : decode cX5_ticket 10 = .ok (.ifCond .eq 27, 3) := by decide +kernel
theorem dX5_ticket_13 : decode cX5_ticket 13 = .ok (.iload_n 2, 1) := by decide +kernel
theorem dX5_ticket_14 : decode cX5_ticket 14 = .ok (.i2l, 1) := by decide +kernel
theorem dX5_ticket_15 : decode cX5_ticket 15 = .ok (.lconst 1, 1) := by decide +kernel
theorem dX5_ticket_16 : decode cX5_ticket 16 = .ok (.ldc2_w 91, 3) := by decide +kernel
theorem dX5_ticket_19 : decode cX5_ticket 19 = .ok (.invokestatic 87, 3) := by decide +kernel
theorem dX5_ticket_22 : decode cX5_ticket 22 = .ok (.ifCond .eq 15, 3) := by decide +kernel
theorem dX5_ticket_25 : decode cX5_ticket 25 = .ok (.iload_n 3, 1) := by decide +kernel
theorem dX5_ticket_26 : decode cX5_ticket 26 = .ok (.i2l, 1) := by decide +kernel
theorem dX5_ticket_27 : decode cX5_ticket 27 = .ok (.lconst 0, 1) := by decide +kernel
theorem dX5_ticket_28 : decode cX5_ticket 28 = .ok (.ldc2_w 96, 3) := by decide +kernel
theorem dX5_ticket_31 : decode cX5_ticket 31 = .ok (.invokestatic 87, 3) := by decide +kernel
theorem dX5_ticket_34 : decode cX5_ticket 34 = .ok (.ifCond .ne 7, 3) := by decide +kernel
theorem dX5_ticket_37 : decode cX5_ticket 37 = .ok (.iconst 1, 1) := by decide +kernel
theorem dX5_ticket_38 : decode cX5_ticket 38 = .ok (.goto 17, 3) := by decide +kernel
theorem dX5_ticket_41 : decode cX5_ticket 41 = .ok (.aload_n 0, 1) := by decide +kernel
theorem dX5_ticket_42 : decode cX5_ticket 42 = .ok (.getfield 98, 3) := by decide +kernel
theorem dX5_ticket_45 : decode cX5_ticket 45 = .ok (.bipush 20, 2) := by decide +kernel
theorem dX5_ticket_47 : decode cX5_ticket 47 = .ok (.if_icmp .ne 7, 3) := by decide +kernel
theorem dX5_ticket_50 : decode cX5_ticket 50 = .ok (.iconst 2, 1) := by decide +kernel
theorem dX5_ticket_51 : decode cX5_ticket 51 = .ok (.goto 4, 3) := by decide +kernel
theorem dX5_ticket_54 : decode cX5_ticket 54 = .ok (.iconst 0, 1) := by decide +kernel
theorem dX5_ticket_55 : decode cX5_ticket 55 = .ok (.putfield 82, 3) := by decide +kernel
theorem dX5_ticket_58 : decode cX5_ticket 58 = .ok (.aload_n 0, 1) := by decide +kernel
theorem dX5_ticket_59 : decode cX5_ticket 59 = .ok (.getfield 82, 3) := by decide +kernel
theorem dX5_ticket_62 : decode cX5_ticket 62 = .ok (.ifCond .le 5, 3) := by decide +kernel
theorem dX5_ticket_65 : decode cX5_ticket 65 = .ok (.iconst 0, 1) := by decide +kernel
theorem dX5_ticket_66 : decode cX5_ticket 66 = .ok (.ireturn, 1) := by decide +kernel
theorem dX5_ticket_67 : decode cX5_ticket 67 = .ok (.aload_n 0, 1) := by decide +kernel
theorem dX5_ticket_68 : decode cX5_ticket 68 = .ok (.dup, 1) := by decide +kernel
theorem dX5_ticket_69 : decode cX5_ticket 69 = .ok (.getfield 98, 3) := by decide +kernel
theorem dX5_ticket_72 : decode cX5_ticket 72 = .ok (.iconst 1, 1) := by decide +kernel
theorem dX5_ticket_73 : decode cX5_ticket 73 = .ok (.iadd, 1) := by decide +kernel
theorem dX5_ticket_74 : decode cX5_ticket 74 = .ok (.putfield 98, 3) := by decide +kernel
theorem dX5_ticket_77 : decode cX5_ticket 77 = .ok (.aload_n 0, 1) := by decide +kernel
theorem dX5_ticket_78 : decode cX5_ticket 78 = .ok (.getfield 22, 3) := by decide +kernel
theorem dX5_ticket_81 : decode cX5_ticket 81 = .ok (.aload_n 0, 1) := by decide +kernel
theorem dX5_ticket_82 : decode cX5_ticket 82 = .ok (.getfield 98, 3) := by decide +kernel
theorem dX5_ticket_85 : decode cX5_ticket 85 = .ok (.iload_n 1, 1) := by decide +kernel
theorem dX5_ticket_86 : decode cX5_ticket 86 = .ok (.iastore, 1) := by decide +kernel
theorem dX5_ticket_87 : decode cX5_ticket 87 = .ok (.aload_n 0, 1) := by decide +kernel
theorem dX5_ticket_88 : decode cX5_ticket 88 = .ok (.getfield 25, 3) := by decide +kernel
theorem dX5_ticket_91 : decode cX5_ticket 91 = .ok (.aload_n 0, 1) := by decide +kernel
theorem dX5_ticket_92 : decode cX5_ticket 92 = .ok (.getfield 98, 3) := by decide +kernel
theorem dX5_ticket_95 : decode cX5_ticket 95 = .ok (.iload_n 2, 1) := by decide +kernel
theorem dX5_ticket_96 : decode cX5_ticket 96 = .ok (.iastore, 1) := by decide +kernel
theorem dX5_ticket_97 : decode cX5_ticket 97 = .ok (.aload_n 0, 1) := by decide +kernel
theorem dX5_ticket_98 : decode cX5_ticket 98 = .ok (.getfield 98, 3) := by decide +kernel
theorem dX5_ticket_101 : decode cX5_ticket 101 = .ok (.ireturn, 1) := by decide +kernel
theorem dX5_addPart_0 : decode cX5_addPart 0 = .ok (.aload_n 0, 1) := by decide +kernel
theorem dX5_addPart_1 : decode cX5_addPart 1 = .ok (.getfield 51, 3) := by decide +kernel
theorem dX5_addPart_4 : decode cX5_addPart 4 = .ok (.aload_n 0, 1) := by decide +kernel
theorem dX5_addPart_5 : decode cX5_addPart 5 = .ok (.getfield 101, 3) := by decide +kernel
theorem dX5_addPart_8 : decode cX5_addPart 8 = .ok (.iload_n 1, 1) := by decide +kernel
theorem dX5_addPart_9 : decode cX5_addPart 9 = .ok (.iastore, 1) := by decide +kernel
theorem dX5_addPart_10 : decode cX5_addPart 10 = .ok (.aload_n 0, 1) := by decide +kernel
theorem dX5_addPart_11 : decode cX5_addPart 11 = .ok (.getfield 54, 3) := by decide +kernel
theorem dX5_addPart_14 : decode cX5_addPart 14 = .ok (.aload_n 0, 1) := by decide +kernel
theorem dX5_addPart_15 : decode cX5_addPart 15 = .ok (.getfield 101, 3) := by decide +kernel
theorem dX5_addPart_18 : decode cX5_addPart 18 = .ok (.iload_n 2, 1) := by decide +kernel
theorem dX5_addPart_19 : decode cX5_addPart 19 = .ok (.iastore, 1) := by decide +kernel
theorem dX5_addPart_20 : decode cX5_addPart 20 = .ok (.aload_n 0, 1) := by decide +kernel
theorem dX5_addPart_21 : decode cX5_addPart 21 = .ok (.getfield 57, 3) := by decide +kernel
theorem dX5_addPart_24 : decode cX5_addPart 24 = .ok (.aload_n 0, 1) := by decide +kernel
theorem dX5_addPart_25 : decode cX5_addPart 25 = .ok (.getfield 101, 3) := by decide +kernel
theorem dX5_addPart_28 : decode cX5_addPart 28 = .ok (.iload_n 3, 1) := by decide +kernel
theorem dX5_addPart_29 : decode cX5_addPart 29 = .ok (.iastore, 1) := by decide +kernel
theorem dX5_addPart_30 : decode cX5_addPart 30 = .ok (.aload_n 0, 1) := by decide +kernel
theorem dX5_addPart_31 : decode cX5_addPart 31 = .ok (.getfield 60, 3) := by decide +kernel
theorem dX5_addPart_34 : decode cX5_addPart 34 = .ok (.aload_n 0, 1) := by decide +kernel
theorem dX5_addPart_35 : decode cX5_addPart 35 = .ok (.getfield 101, 3) := by decide +kernel
theorem dX5_addPart_38 : decode cX5_addPart 38 = .ok (.iconst 0, 1) := by decide +kernel
theorem dX5_addPart_39 : decode cX5_addPart 39 = .ok (.iastore, 1) := by decide +kernel
theorem dX5_addPart_40 : decode cX5_addPart 40 = .ok (.aload_n 0, 1) := by decide +kernel
theorem dX5_addPart_41 : decode cX5_addPart 41 = .ok (.getfield 63, 3) := by decide +kernel
theorem dX5_addPart_44 : decode cX5_addPart 44 = .ok (.aload_n 0, 1) := by decide +kernel
theorem dX5_addPart_45 : decode cX5_addPart 45 = .ok (.getfield 101, 3) := by decide +kernel
theorem dX5_addPart_48 : decode cX5_addPart 48 = .ok (.iconst 0, 1) := by decide +kernel
theorem dX5_addPart_49 : decode cX5_addPart 49 = .ok (.iastore, 1) := by decide +kernel
theorem dX5_addPart_50 : decode cX5_addPart 50 = .ok (.aload_n 0, 1) := by decide +kernel
theorem dX5_addPart_51 : decode cX5_addPart 51 = .ok (.getfield 69, 3) := by decide +kernel
theorem dX5_addPart_54 : decode cX5_addPart 54 = .ok (.aload_n 0, 1) := by decide +kernel
theorem dX5_addPart_55 : decode cX5_addPart 55 = .ok (.getfield 101, 3) := by decide +kernel
theorem dX5_addPart_58 : decode cX5_addPart 58 = .ok (.iconst 1, 1) := by decide +kernel
theorem dX5_addPart_59 : decode cX5_addPart 59 = .ok (.bastore, 1) := by decide +kernel
theorem dX5_addPart_60 : decode cX5_addPart 60 = .ok (.aload_n 0, 1) := by decide +kernel
theorem dX5_addPart_61 : decode cX5_addPart 61 = .ok (.dup, 1) := by decide +kernel
theorem dX5_addPart_62 : decode cX5_addPart 62 = .ok (.getfield 101, 3) := by decide +kernel
theorem dX5_addPart_65 : decode cX5_addPart 65 = .ok (.iconst 1, 1) := by decide +kernel
theorem dX5_addPart_66 : decode cX5_addPart 66 = .ok (.iadd, 1) := by decide +kernel
theorem dX5_addPart_67 : decode cX5_addPart 67 = .ok (.putfield 101, 3) := by decide +kernel
theorem dX5_addPart_70 : decode cX5_addPart 70 = .ok (.return_, 1) := by decide +kernel
set_option maxRecDepth 20000 in
theorem ggX5_job_X5_in : GoodIn wsX5_job wsX5_in := goodIn_r _ [14] (by decide +kernel) (by decide +kernel)
set_option maxRecDepth 20000 in
theorem gX5_job_X5_in : GoodIn wsX5_job (va_wsS RX5 87 yX5_in wsX5_in) := goodIn_app (goodIn_of _ (by decide +kernel)) ggX5_job_X5_in
set_option maxRecDepth 20000 in
theorem ggX5_job_X5_addPart : GoodIn wsX5_job wsX5_addPart := goodIn_r _ [18, 19, 20, 21, 22, 23, 24, 25, 26, 27, 28, 29, 30, 31, 32, 33, 34, 35, 36, 37, 38, 39, 40, 41, 42, 43, 44, 45, 46, 47, 48, 49, 50, 51, 52, 53, 54, 55] (by decide +kernel) (by decide +kernel)
set_option maxRecDepth 20000 in
theorem gX5_job_X5_addPart : GoodIn wsX5_job (wsV RX5 113 RX5 yX5_addPart wsX5_addPart) := goodIn_app (goodIn_of _ (by decide +kernel)) ggX5_job_X5_addPart
theorem dX5_job_0 : decode cX5_job 0 = .ok (.iload_n 2, 1) := by decide +kernel
theorem dX5_job_1 : decode cX5_job 1 = .ok (.i2l, 1) := by decide +kernel
theorem dX5_job_2 : decode cX5_job 2 = .ok (.lconst 1, 1) := by decide +kernel
theorem dX5_job_3 : decode cX5_job 3 = .ok (.ldc2_w 104, 3) := by decide +kernel
theorem dX5_job_6 : decode cX5_job 6 = .ok (.invokestatic 87, 3) := by decide +kernel
theorem dX5_job_9 : decode cX5_job 9 = .ok (.ifCond .eq 39, 3) := by decide +kernel
theorem dX5_job_12 : decode cX5_job 12 = .ok (.iload_n 3, 1) := by decide +kernel
theorem dX5_job_13 : decode cX5_job 13 = .ok (.i2l, 1) := by decide +kernel
theorem dX5_job_14 : decode cX5_job 14 = .ok (.lconst 1, 1) := by decide +kernel
theorem dX5_job_15 : decode cX5_job 15 = .ok (.ldc2_w 106, 3) := by decide +kernel
theorem dX5_job_18 : decode cX5_job 18 = .ok (.invokestatic 87, 3) := by decide +kernel
theorem dX5_job_21 : decode cX5_job 21 = .ok (.ifCond .eq 27, 3) := by decide +kernel
theorem dX5_job_24 : decode cX5_job 24 = .ok (.iload 4, 2) := by decide +kernel
theorem dX5_job_26 : decode cX5_job 26 = .ok (.i2l, 1) := by decide +kernel
theorem dX5_job_27 : decode cX5_job 27 = .ok (.lconst 0, 1) := by decide +kernel
theorem dX5_job_28 : decode cX5_job 28 = .ok (.ldc2_w 108, 3) := by decide +kernel
theorem dX5_job_31 : decode cX5_job 31 = .ok (.invokestatic 87, 3) := by decide +kernel
theorem dX5_job_34 : decode cX5_job 34 = .ok (.ifCond .eq 14, 3) := by decide +kernel
theorem dX5_job_37 : decode cX5_job 37 = .ok (.lload 5, 2) := by decide +kernel
theorem dX5_job_39 : decode cX5_job 39 = .ok (.lconst 0, 1) := by decide +kernel
theorem dX5_job_40 : decode cX5_job 40 = .ok (.lcmp, 1) := by decide +kernel
theorem dX5_job_41 : decode cX5_job 41 = .ok (.ifCond .lt 7, 3) := by decide +kernel
theorem dX5_job_44 : decode cX5_job 44 = .ok (.iconst 1, 1) := by decide +kernel
theorem dX5_job_45 : decode cX5_job 45 = .ok (.goto 4, 3) := by decide +kernel
theorem dX5_job_48 : decode cX5_job 48 = .ok (.iconst 0, 1) := by decide +kernel
theorem dX5_job_49 : decode cX5_job 49 = .ok (.istore 7, 2) := by decide +kernel
theorem dX5_job_51 : decode cX5_job 51 = .ok (.aload_n 0, 1) := by decide +kernel
theorem dX5_job_52 : decode cX5_job 52 = .ok (.iload_n 1, 1) := by decide +kernel
theorem dX5_job_53 : decode cX5_job 53 = .ok (.i2l, 1) := by decide +kernel
theorem dX5_job_54 : decode cX5_job 54 = .ok (.lconst 1, 1) := by decide +kernel
theorem dX5_job_55 : decode cX5_job 55 = .ok (.aload_n 0, 1) := by decide +kernel
theorem dX5_job_56 : decode cX5_job 56 = .ok (.getfield 98, 3) := by decide +kernel
theorem dX5_job_59 : decode cX5_job 59 = .ok (.i2l, 1) := by decide +kernel
theorem dX5_job_60 : decode cX5_job 60 = .ok (.invokestatic 87, 3) := by decide +kernel
theorem dX5_job_63 : decode cX5_job 63 = .ok (.ifCond .ne 7, 3) := by decide +kernel
theorem dX5_job_66 : decode cX5_job 66 = .ok (.iconst 1, 1) := by decide +kernel
theorem dX5_job_67 : decode cX5_job 67 = .ok (.goto 26, 3) := by decide +kernel
theorem dX5_job_70 : decode cX5_job 70 = .ok (.iload 7, 2) := by decide +kernel
theorem dX5_job_72 : decode cX5_job 72 = .ok (.ifCond .ne 7, 3) := by decide +kernel
theorem dX5_job_75 : decode cX5_job 75 = .ok (.iconst 2, 1) := by decide +kernel
theorem dX5_job_76 : decode cX5_job 76 = .ok (.goto 17, 3) := by decide +kernel
theorem dX5_job_79 : decode cX5_job 79 = .ok (.aload_n 0, 1) := by decide +kernel
theorem dX5_job_80 : decode cX5_job 80 = .ok (.getfield 110, 3) := by decide +kernel
theorem dX5_job_83 : decode cX5_job 83 = .ok (.bipush 60, 2) := by decide +kernel
theorem dX5_job_85 : decode cX5_job 85 = .ok (.if_icmp .ne 7, 3) := by decide +kernel
theorem dX5_job_88 : decode cX5_job 88 = .ok (.iconst 3, 1) := by decide +kernel
theorem dX5_job_89 : decode cX5_job 89 = .ok (.goto 4, 3) := by decide +kernel
theorem dX5_job_92 : decode cX5_job 92 = .ok (.iconst 0, 1) := by decide +kernel
theorem dX5_job_93 : decode cX5_job 93 = .ok (.putfield 82, 3) := by decide +kernel
theorem dX5_job_96 : decode cX5_job 96 = .ok (.aload_n 0, 1) := by decide +kernel
theorem dX5_job_97 : decode cX5_job 97 = .ok (.getfield 82, 3) := by decide +kernel
theorem dX5_job_100 : decode cX5_job 100 = .ok (.ifCond .le 5, 3) := by decide +kernel
theorem dX5_job_103 : decode cX5_job 103 = .ok (.iconst 0, 1) := by decide +kernel
theorem dX5_job_104 : decode cX5_job 104 = .ok (.ireturn, 1) := by decide +kernel
theorem dX5_job_105 : decode cX5_job 105 = .ok (.aload_n 0, 1) := by decide +kernel
theorem dX5_job_106 : decode cX5_job 106 = .ok (.dup, 1) := by decide +kernel
theorem dX5_job_107 : decode cX5_job 107 = .ok (.getfield 110, 3) := by decide +kernel
theorem dX5_job_110 : decode cX5_job 110 = .ok (.iconst 1, 1) := by decide +kernel
theorem dX5_job_111 : decode cX5_job 111 = .ok (.iadd, 1) := by decide +kernel
theorem dX5_job_112 : decode cX5_job 112 = .ok (.putfield 110, 3) := by decide +kernel
theorem dX5_job_115 : decode cX5_job 115 = .ok (.aload_n 0, 1) := by decide +kernel
theorem dX5_job_116 : decode cX5_job 116 = .ok (.getfield 32, 3) := by decide +kernel
theorem dX5_job_119 : decode cX5_job 119 = .ok (.aload_n 0, 1) := by decide +kernel
theorem dX5_job_120 : decode cX5_job 120 = .ok (.getfield 110, 3) := by decide +kernel
theorem dX5_job_123 : decode cX5_job 123 = .ok (.iload_n 1, 1) := by decide +kernel
theorem dX5_job_124 : decode cX5_job 124 = .ok (.iastore, 1) := by decide +kernel
theorem dX5_job_125 : decode cX5_job 125 = .ok (.aload_n 0, 1) := by decide +kernel
theorem dX5_job_126 : decode cX5_job 126 = .ok (.getfield 35, 3) := by decide +kernel
theorem dX5_job_129 : decode cX5_job 129 = .ok (.aload_n 0, 1) := by decide +kernel
theorem dX5_job_130 : decode cX5_job 130 = .ok (.getfield 110, 3) := by decide +kernel
theorem dX5_job_133 : decode cX5_job 133 = .ok (.iload_n 2, 1) := by decide +kernel
theorem dX5_job_134 : decode cX5_job 134 = .ok (.iastore, 1) := by decide +kernel
theorem dX5_job_135 : decode cX5_job 135 = .ok (.aload_n 0, 1) := by decide +kernel
theorem dX5_job_136 : decode cX5_job 136 = .ok (.getfield 38, 3) := by decide +kernel
theorem dX5_job_139 : decode cX5_job 139 = .ok (.aload_n 0, 1) := by decide +kernel
theorem dX5_job_140 : decode cX5_job 140 = .ok (.getfield 110, 3) := by decide +kernel
theorem dX5_job_143 : decode cX5_job 143 = .ok (.iload 4, 2) := by decide +kernel
theorem dX5_job_145 : decode cX5_job 145 = .ok (.iastore, 1) := by decide +kernel
theorem dX5_job_146 : decode cX5_job 146 = .ok (.aload_n 0, 1) := by decide +kernel
theorem dX5_job_147 : decode cX5_job 147 = .ok (.getfield 41, 3) := by decide +kernel
theorem dX5_job_150 : decode cX5_job 150 = .ok (.aload_n 0, 1) := by decide +kernel
theorem dX5_job_151 : decode cX5_job 151 = .ok (.getfield 110, 3) := by decide +kernel
theorem dX5_job_154 : decode cX5_job 154 = .ok (.lload 5, 2) := by decide +kernel
theorem dX5_job_156 : decode cX5_job 156 = .ok (.lastore, 1) := by decide +kernel
theorem dX5_job_157 : decode cX5_job 157 = .ok (.aload_n 0, 1) := by decide +kernel
theorem dX5_job_158 : decode cX5_job 158 = .ok (.aload_n 0, 1) := by decide +kernel
theorem dX5_job_159 : decode cX5_job 159 = .ok (.getfield 110, 3) := by decide +kernel
theorem dX5_job_162 : decode cX5_job 162 = .ok (.iload_n 3, 1) := by decide +kernel
theorem dX5_job_163 : decode cX5_job 163 = .ok (.iconst 0, 1) := by decide +kernel
theorem dX5_job_164 : decode cX5_job 164 = .ok (.invokevirtual 113, 3) := by decide +kernel
theorem dX5_job_167 : decode cX5_job 167 = .ok (.aload_n 0, 1) := by decide +kernel
theorem dX5_job_168 : decode cX5_job 168 = .ok (.getfield 110, 3) := by decide +kernel
theorem dX5_job_171 : decode cX5_job 171 = .ok (.ireturn, 1) := by decide +kernel
set_option maxRecDepth 20000 in
theorem ggX5_isPrinter_X5_in : GoodIn wsX5_isPrinter wsX5_in := goodIn_r _ [5] (by decide +kernel) (by decide +kernel)
set_option maxRecDepth 20000 in
theorem gX5_isPrinter_X5_in : GoodIn wsX5_isPrinter (va_wsS RX5 87 yX5_in wsX5_in) := goodIn_app (goodIn_of _ (by decide +kernel)) ggX5_isPrinter_X5_in
theorem dX5_isPrinter_0 : decode cX5_isPrinter 0 = .ok (.iload_n 1, 1) := by decide +kernel
theorem dX5_isPrinter_1 : decode cX5_isPrinter 1 = .ok (.i2l, 1) := by decide +kernel
theorem dX5_isPrinter_2 : decode cX5_isPrinter 2 = .ok (.lconst 1, 1) := by decide +kernel
theorem dX5_isPrinter_3 : decode cX5_isPrinter 3 = .ok (.aload_n 0, 1) := by decide +kernel
theorem dX5_isPrinter_4 : decode cX5_isPrinter 4 = .ok (.getfield 93, 3) := by decide +kernel
theorem dX5_isPrinter_7 : decode cX5_isPrinter 7 = .ok (.i2l, 1) := by decide +kernel
theorem dX5_isPrinter_8 : decode cX5_isPrinter 8 = .ok (.invokestatic 87, 3) := by decide +kernel
theorem dX5_isPrinter_11 : decode cX5_isPrinter 11 = .ok (.ireturn, 1) := by decide +kernel
set_option maxRecDepth 20000 in
theorem ggX5_isJob_X5_in : GoodIn wsX5_isJob wsX5_in := goodIn_r _ [5] (by decide +kernel) (by decide +kernel)
set_option maxRecDepth 20000 in
theorem gX5_isJob_X5_in : GoodIn wsX5_isJob (va_wsS RX5 87 yX5_in wsX5_in) := goodIn_app (goodIn_of _ (by decide +kernel)) ggX5_isJob_X5_in
theorem dX5_isJob_0 : decode cX5_isJob 0 = .ok (.iload_n 1, 1) := by decide +kernel
theorem dX5_isJob_1 : decode cX5_isJob 1 = .ok (.i2l, 1) := by decide +kernel
theorem dX5_isJob_2 : decode cX5_isJob 2 = .ok (.lconst 1, 1) := by decide +kernel
theorem dX5_isJob_3 : decode cX5_isJob 3 = .ok (.aload_n 0, 1) := by decide +kernel
theorem dX5_isJob_4 : decode cX5_isJob 4 = .ok (.getfield 110, 3) := by decide +kernel
theorem dX5_isJob_7 : decode cX5_isJob 7 = .ok (.i2l, 1) := by decide +kernel
theorem dX5_isJob_8 : decode cX5_isJob 8 = .ok (.invokestatic 87, 3) := by decide +kernel
theorem dX5_isJob_11 : decode cX5_isJob 11 = .ok (.ireturn, 1) := by decide +kernel
theorem dX5_fits_0 : decode cX5_fits 0 = .ok (.aload_n 0, 1) := by decide +kernel
theorem dX5_fits_1 : decode cX5_fits 1 = .ok (.getfield 25, 3) := by decide +kernel
theorem dX5_fits_4 : decode cX5_fits 4 = .ok (.aload_n 0, 1) := by decide +kernel
theorem dX5_fits_5 : decode cX5_fits 5 = .ok (.getfield 32, 3) := by decide +kernel
theorem dX5_fits_8 : decode cX5_fits 8 = .ok (.aload_n 0, 1) := by decide +kernel
theorem dX5_fits_9 : decode cX5_fits 9 = .ok (.getfield 51, 3) := by decide +kernel
theorem dX5_fits_12 : decode cX5_fits 12 = .ok (.iload_n 1, 1) := by decide +kernel
theorem dX5_fits_13 : decode cX5_fits 13 = .ok (.iaload, 1) := by decide +kernel
theorem dX5_fits_14 : decode cX5_fits 14 = .ok (.iaload, 1) := by decide +kernel
theorem dX5_fits_15 : decode cX5_fits 15 = .ok (.iaload, 1) := by decide +kernel
theorem dX5_fits_16 : decode cX5_fits 16 = .ok (.aload_n 0, 1) := by decide +kernel
theorem dX5_fits_17 : decode cX5_fits 17 = .ok (.getfield 13, 3) := by decide +kernel
theorem dX5_fits_20 : decode cX5_fits 20 = .ok (.iload_n 2, 1) := by decide +kernel
theorem dX5_fits_21 : decode cX5_fits 21 = .ok (.iaload, 1) := by decide +kernel
theorem dX5_fits_22 : decode cX5_fits 22 = .ok (.if_icmp .gt 26, 3) := by decide +kernel
theorem dX5_fits_25 : decode cX5_fits 25 = .ok (.aload_n 0, 1) := by decide +kernel
theorem dX5_fits_26 : decode cX5_fits 26 = .ok (.getfield 57, 3) := by decide +kernel
theorem dX5_fits_29 : decode cX5_fits 29 = .ok (.iload_n 1, 1) := by decide +kernel
theorem dX5_fits_30 : decode cX5_fits 30 = .ok (.iaload, 1) := by decide +kernel
theorem dX5_fits_31 : decode cX5_fits 31 = .ok (.ifCond .eq 13, 3) := by decide +kernel
theorem dX5_fits_34 : decode cX5_fits 34 = .ok (.aload_n 0, 1) := by decide +kernel
theorem dX5_fits_35 : decode cX5_fits 35 = .ok (.getfield 57, 3) := by decide +kernel
theorem dX5_fits_38 : decode cX5_fits 38 = .ok (.iload_n 1, 1) := by decide +kernel
theorem dX5_fits_39 : decode cX5_fits 39 = .ok (.iaload, 1) := by decide +kernel
theorem dX5_fits_40 : decode cX5_fits 40 = .ok (.iload_n 2, 1) := by decide +kernel
theorem dX5_fits_41 : decode cX5_fits 41 = .ok (.if_icmp .ne 7, 3) := by decide +kernel
theorem dX5_fits_44 : decode cX5_fits 44 = .ok (.iconst 1, 1) := by decide +kernel
theorem dX5_fits_45 : decode cX5_fits 45 = .ok (.goto 4, 3) := by decide +kernel
theorem dX5_fits_48 : decode cX5_fits 48 = .ok (.iconst 0, 1) := by decide +kernel
theorem dX5_fits_49 : decode cX5_fits 49 = .ok (.ireturn, 1) := by decide +kernel
set_option maxRecDepth 20000 in
theorem ggX5_mayTake_X5_fits : GoodIn wsX5_mayTake wsX5_fits := goodIn_r _ [10, 11, 12, 1, 13, 14, 15, 16, 17, 18, 19, 20, 21, 22, 23, 24, 25, 26, 27, 28, 29, 30, 31, 32, 33, 34, 35, 36, 37, 38, 39, 40, 41, 42, 43, 44] (by decide +kernel) (by decide +kernel)
set_option maxRecDepth 20000 in
theorem gX5_mayTake_X5_fits : GoodIn wsX5_mayTake (wsV RX5 121 RX5 yX5_fits wsX5_fits) := goodIn_app (goodIn_of _ (by decide +kernel)) ggX5_mayTake_X5_fits
theorem dX5_mayTake_0 : decode cX5_mayTake 0 = .ok (.aload_n 0, 1) := by decide +kernel
theorem dX5_mayTake_1 : decode cX5_mayTake 1 = .ok (.getfield 51, 3) := by decide +kernel
theorem dX5_mayTake_4 : decode cX5_mayTake 4 = .ok (.iload_n 1, 1) := by decide +kernel
theorem dX5_mayTake_5 : decode cX5_mayTake 5 = .ok (.iaload, 1) := by decide +kernel
theorem dX5_mayTake_6 : decode cX5_mayTake 6 = .ok (.istore_n 3, 1) := by decide +kernel
theorem dX5_mayTake_7 : decode cX5_mayTake 7 = .ok (.aload_n 0, 1) := by decide +kernel
theorem dX5_mayTake_8 : decode cX5_mayTake 8 = .ok (.getfield 69, 3) := by decide +kernel
theorem dX5_mayTake_11 : decode cX5_mayTake 11 = .ok (.iload_n 1, 1) := by decide +kernel
theorem dX5_mayTake_12 : decode cX5_mayTake 12 = .ok (.baload, 1) := by decide +kernel
theorem dX5_mayTake_13 : decode cX5_mayTake 13 = .ok (.ifCond .eq 39, 3) := by decide +kernel
theorem dX5_mayTake_16 : decode cX5_mayTake 16 = .ok (.aload_n 0, 1) := by decide +kernel
theorem dX5_mayTake_17 : decode cX5_mayTake 17 = .ok (.getfield 44, 3) := by decide +kernel
theorem dX5_mayTake_20 : decode cX5_mayTake 20 = .ok (.iload_n 3, 1) := by decide +kernel
theorem dX5_mayTake_21 : decode cX5_mayTake 21 = .ok (.baload, 1) := by decide +kernel
theorem dX5_mayTake_22 : decode cX5_mayTake 22 = .ok (.ifCond .ne 30, 3) := by decide +kernel
theorem dX5_mayTake_25 : decode cX5_mayTake 25 = .ok (.aload_n 0, 1) := by decide +kernel
theorem dX5_mayTake_26 : decode cX5_mayTake 26 = .ok (.getfield 41, 3) := by decide +kernel
theorem dX5_mayTake_29 : decode cX5_mayTake 29 = .ok (.iload_n 3, 1) := by decide +kernel
theorem dX5_mayTake_30 : decode cX5_mayTake 30 = .ok (.laload, 1) := by decide +kernel
theorem dX5_mayTake_31 : decode cX5_mayTake 31 = .ok (.aload_n 0, 1) := by decide +kernel
theorem dX5_mayTake_32 : decode cX5_mayTake 32 = .ok (.getfield 117, 3) := by decide +kernel
theorem dX5_mayTake_35 : decode cX5_mayTake 35 = .ok (.lcmp, 1) := by decide +kernel
theorem dX5_mayTake_36 : decode cX5_mayTake 36 = .ok (.ifCond .gt 16, 3) := by decide +kernel
theorem dX5_mayTake_39 : decode cX5_mayTake 39 = .ok (.aload_n 0, 1) := by decide +kernel
theorem dX5_mayTake_40 : decode cX5_mayTake 40 = .ok (.iload_n 1, 1) := by decide +kernel
theorem dX5_mayTake_41 : decode cX5_mayTake 41 = .ok (.iload_n 2, 1) := by decide +kernel
theorem dX5_mayTake_42 : decode cX5_mayTake 42 = .ok (.invokevirtual 121, 3) := by decide +kernel
theorem dX5_mayTake_45 : decode cX5_mayTake 45 = .ok (.ifCond .eq 7, 3) := by decide +kernel
theorem dX5_mayTake_48 : decode cX5_mayTake 48 = .ok (.iconst 1, 1) := by decide +kernel
theorem dX5_mayTake_49 : decode cX5_mayTake 49 = .ok (.goto 4, 3) := by decide +kernel
theorem dX5_mayTake_52 : decode cX5_mayTake 52 = .ok (.iconst 0, 1) := by decide +kernel
theorem dX5_mayTake_53 : decode cX5_mayTake 53 = .ok (.ireturn, 1) := by decide +kernel
set_option maxRecDepth 20000 in
theorem ggX5_bestRank_X5_mayTake : GoodIn wsX5_bestRank wsX5_mayTake := goodIn_r _ [8, 3, 9, 10, 11, 12, 13, 14, 15, 7, 16, 17, 18, 19, 20, 21, 22, 23, 24, 25, 26, 27, 28, 29, 30, 31, 32, 33, 34, 35, 36, 37, 38, 39, 40, 41, 42, 43, 44, 45, 46, 47, 48, 49, 50] (by decide +kernel) (by decide +kernel)
set_option maxRecDepth 20000 in
theorem gX5_bestRank_X5_mayTake : GoodIn wsX5_bestRank (wsV RX5 125 RX5 yX5_mayTake wsX5_mayTake) := goodIn_app (goodIn_of _ (by decide +kernel)) ggX5_bestRank_X5_mayTake
theorem dX5_bestRank_0 : decode cX5_bestRank 0 = .ok (.iconst (-1), 1) := by decide +kernel
theorem dX5_bestRank_1 : decode cX5_bestRank 1 = .ok (.istore_n 2, 1) := by decide +kernel
theorem dX5_bestRank_2 : decode cX5_bestRank 2 = .ok (.iconst 0, 1) := by decide +kernel
theorem dX5_bestRank_3 : decode cX5_bestRank 3 = .ok (.istore_n 3, 1) := by decide +kernel
theorem dX5_bestRank_4 : decode cX5_bestRank 4 = .ok (.iload_n 3, 1) := by decide +kernel
theorem dX5_bestRank_5 : decode cX5_bestRank 5 = .ok (.aload_n 0, 1) := by decide +kernel
theorem dX5_bestRank_6 : decode cX5_bestRank 6 = .ok (.getfield 101, 3) := by decide +kernel
theorem dX5_bestRank_9 : decode cX5_bestRank 9 = .ok (.if_icmp .ge 49, 3) := by decide +kernel
theorem dX5_bestRank_12 : decode cX5_bestRank 12 = .ok (.aload_n 0, 1) := by decide +kernel
theorem dX5_bestRank_13 : decode cX5_bestRank 13 = .ok (.iload_n 3, 1) := by decide +kernel
theorem dX5_bestRank_14 : decode cX5_bestRank 14 = .ok (.iload_n 1, 1) := by decide +kernel
theorem dX5_bestRank_15 : decode cX5_bestRank 15 = .ok (.invokevirtual 125, 3) := by decide +kernel
theorem dX5_bestRank_18 : decode cX5_bestRank 18 = .ok (.ifCond .eq 32, 3) := by decide +kernel
theorem dX5_bestRank_21 : decode cX5_bestRank 21 = .ok (.aload_n 0, 1) := by decide +kernel
theorem dX5_bestRank_22 : decode cX5_bestRank 22 = .ok (.getfield 38, 3) := by decide +kernel
theorem dX5_bestRank_25 : decode cX5_bestRank 25 = .ok (.aload_n 0, 1) := by decide +kernel
theorem dX5_bestRank_26 : decode cX5_bestRank 26 = .ok (.getfield 51, 3) := by decide +kernel
theorem dX5_bestRank_29 : decode cX5_bestRank 29 = .ok (.iload_n 3, 1) := by decide +kernel
theorem dX5_bestRank_30 : decode cX5_bestRank 30 = .ok (.iaload, 1) := by decide +kernel
theorem dX5_bestRank_31 : decode cX5_bestRank 31 = .ok (.iaload, 1) := by decide +kernel
theorem dX5_bestRank_32 : decode cX5_bestRank 32 = .ok (.iload_n 2, 1) := by decide +kernel
theorem dX5_bestRank_33 : decode cX5_bestRank 33 = .ok (.if_icmp .le 17, 3) := by decide +kernel
theorem dX5_bestRank_36 : decode cX5_bestRank 36 = .ok (.aload_n 0, 1) := by decide +kernel
theorem dX5_bestRank_37 : decode cX5_bestRank 37 = .ok (.getfield 38, 3) := by decide +kernel
theorem dX5_bestRank_40 : decode cX5_bestRank 40 = .ok (.aload_n 0, 1) := by decide +kernel
theorem dX5_bestRank_41 : decode cX5_bestRank 41 = .ok (.getfield 51, 3) := by decide +kernel
theorem dX5_bestRank_44 : decode cX5_bestRank 44 = .ok (.iload_n 3, 1) := by decide +kernel
theorem dX5_bestRank_45 : decode cX5_bestRank 45 = .ok (.iaload, 1) := by decide +kernel
theorem dX5_bestRank_46 : decode cX5_bestRank 46 = .ok (.iaload, 1) := by decide +kernel
theorem dX5_bestRank_47 : decode cX5_bestRank 47 = .ok (.goto 4, 3) := by decide +kernel
theorem dX5_bestRank_50 : decode cX5_bestRank 50 = .ok (.iload_n 2, 1) := by decide +kernel
theorem dX5_bestRank_51 : decode cX5_bestRank 51 = .ok (.istore_n 2, 1) := by decide +kernel
theorem dX5_bestRank_52 : decode cX5_bestRank 52 = .ok (.iinc 3 1, 3) := by decide +kernel
theorem dX5_bestRank_55 : decode cX5_bestRank 55 = .ok (.goto (-51), 3) := by decide +kernel
theorem dX5_bestRank_58 : decode cX5_bestRank 58 = .ok (.iload_n 2, 1) := by decide +kernel
theorem dX5_bestRank_59 : decode cX5_bestRank 59 = .ok (.ireturn, 1) := by decide +kernel
theorem dX5_mediaOf_0 : decode cX5_mediaOf 0 = .ok (.aload_n 0, 1) := by decide +kernel
theorem dX5_mediaOf_1 : decode cX5_mediaOf 1 = .ok (.getfield 22, 3) := by decide +kernel
theorem dX5_mediaOf_4 : decode cX5_mediaOf 4 = .ok (.aload_n 0, 1) := by decide +kernel
theorem dX5_mediaOf_5 : decode cX5_mediaOf 5 = .ok (.getfield 32, 3) := by decide +kernel
theorem dX5_mediaOf_8 : decode cX5_mediaOf 8 = .ok (.aload_n 0, 1) := by decide +kernel
theorem dX5_mediaOf_9 : decode cX5_mediaOf 9 = .ok (.getfield 51, 3) := by decide +kernel
theorem dX5_mediaOf_12 : decode cX5_mediaOf 12 = .ok (.iload_n 1, 1) := by decide +kernel
theorem dX5_mediaOf_13 : decode cX5_mediaOf 13 = .ok (.iaload, 1) := by decide +kernel
theorem dX5_mediaOf_14 : decode cX5_mediaOf 14 = .ok (.iaload, 1) := by decide +kernel
theorem dX5_mediaOf_15 : decode cX5_mediaOf 15 = .ok (.iaload, 1) := by decide +kernel
theorem dX5_mediaOf_16 : decode cX5_mediaOf 16 = .ok (.ireturn, 1) := by decide +kernel
set_option maxRecDepth 20000 in
theorem ggX5_firstOf_X5_mayTake : GoodIn wsX5_firstOf wsX5_mayTake := goodIn_r _ [10, 3, 11, 12, 5, 13, 14, 15, 16, 9, 17, 18, 19, 20, 21, 27, 28, 29, 30, 31, 32, 33, 34, 35, 36, 37, 38, 39, 40, 41, 42, 43, 44, 45, 46, 47, 48, 49, 50, 51, 52, 53, 54, 55, 56] (by decide +kernel) (by decide +kernel)
set_option maxRecDepth 20000 in
theorem gX5_firstOf_X5_mayTake : GoodIn wsX5_firstOf (wsV RX5 125 RX5 yX5_mayTake wsX5_mayTake) := goodIn_app (goodIn_of _ (by decide +kernel)) ggX5_firstOf_X5_mayTake
set_option maxRecDepth 20000 in
theorem ggX5_firstOf_X5_mediaOf : GoodIn wsX5_firstOf wsX5_mediaOf := goodIn_r _ [25, 26, 19, 3, 27, 28, 29, 30, 31, 32, 33, 34, 35, 36, 37, 38, 39, 40, 41, 42, 43, 44, 45, 46, 47, 48, 49, 50, 51, 52, 53, 54, 55, 56] (by decide +kernel) (by decide +kernel)
set_option maxRecDepth 20000 in
theorem gX5_firstOf_X5_mediaOf : GoodIn wsX5_firstOf (wsV RX5 128 RX5 yX5_mediaOf wsX5_mediaOf) := goodIn_app (goodIn_of _ (by decide +kernel)) ggX5_firstOf_X5_mediaOf
theorem dX5_firstOf_0 : decode cX5_firstOf 0 = .ok (.iconst (-1), 1) := by decide +kernel
theorem dX5_firstOf_1 : decode cX5_firstOf 1 = .ok (.istore 4, 2) := by decide +kernel
theorem dX5_firstOf_3 : decode cX5_firstOf 3 = .ok (.iconst 0, 1) := by decide +kernel
theorem dX5_firstOf_4 : decode cX5_firstOf 4 = .ok (.istore 5, 2) := by decide +kernel
theorem dX5_firstOf_6 : decode cX5_firstOf 6 = .ok (.iload 5, 2) := by decide +kernel
theorem dX5_firstOf_8 : decode cX5_firstOf 8 = .ok (.aload_n 0, 1) := by decide +kernel
theorem dX5_firstOf_9 : decode cX5_firstOf 9 = .ok (.getfield 101, 3) := by decide +kernel
theorem dX5_firstOf_12 : decode cX5_firstOf 12 = .ok (.if_icmp .ge 148, 3) := by decide +kernel
theorem dX5_firstOf_15 : decode cX5_firstOf 15 = .ok (.aload_n 0, 1) := by decide +kernel
theorem dX5_firstOf_16 : decode cX5_firstOf 16 = .ok (.iload 5, 2) := by decide +kernel
theorem dX5_firstOf_18 : decode cX5_firstOf 18 = .ok (.iload_n 1, 1) := by decide +kernel
theorem dX5_firstOf_19 : decode cX5_firstOf 19 = .ok (.invokevirtual 125, 3) := by decide +kernel
theorem dX5_firstOf_22 : decode cX5_firstOf 22 = .ok (.ifCond .eq 132, 3) := by decide +kernel
theorem dX5_firstOf_25 : decode cX5_firstOf 25 = .ok (.aload_n 0, 1) := by decide +kernel
theorem dX5_firstOf_26 : decode cX5_firstOf 26 = .ok (.getfield 38, 3) := by decide +kernel
theorem dX5_firstOf_29 : decode cX5_firstOf 29 = .ok (.aload_n 0, 1) := by decide +kernel
theorem dX5_firstOf_30 : decode cX5_firstOf 30 = .ok (.getfield 51, 3) := by decide +kernel
theorem dX5_firstOf_33 : decode cX5_firstOf 33 = .ok (.iload 5, 2) := by decide +kernel
theorem dX5_firstOf_35 : decode cX5_firstOf 35 = .ok (.iaload, 1) := by decide +kernel
theorem dX5_firstOf_36 : decode cX5_firstOf 36 = .ok (.iaload, 1) := by decide +kernel
theorem dX5_firstOf_37 : decode cX5_firstOf 37 = .ok (.iload_n 2, 1) := by decide +kernel
theorem dX5_firstOf_38 : decode cX5_firstOf 38 = .ok (.if_icmp .ne 116, 3) := by decide +kernel
theorem dX5_firstOf_41 : decode cX5_firstOf 41 = .ok (.iload_n 3, 1) := by decide +kernel
theorem dX5_firstOf_42 : decode cX5_firstOf 42 = .ok (.ifCond .eq 18, 3) := by decide +kernel
theorem dX5_firstOf_45 : decode cX5_firstOf 45 = .ok (.aload_n 0, 1) := by decide +kernel
theorem dX5_firstOf_46 : decode cX5_firstOf 46 = .ok (.iload 5, 2) := by decide +kernel
theorem dX5_firstOf_48 : decode cX5_firstOf 48 = .ok (.invokevirtual 128, 3) := by decide +kernel
theorem dX5_firstOf_51 : decode cX5_firstOf 51 = .ok (.aload_n 0, 1) := by decide +kernel
theorem dX5_firstOf_52 : decode cX5_firstOf 52 = .ok (.getfield 7, 3) := by decide +kernel
theorem dX5_firstOf_55 : decode cX5_firstOf 55 = .ok (.iload_n 1, 1) := by decide +kernel
theorem dX5_firstOf_56 : decode cX5_firstOf 56 = .ok (.iaload, 1) := by decide +kernel
theorem dX5_firstOf_57 : decode cX5_firstOf 57 = .ok (.if_icmp .ne 97, 3) := by decide +kernel
theorem dX5_firstOf_60 : decode cX5_firstOf 60 = .ok (.aload_n 0, 1) := by decide +kernel
theorem dX5_firstOf_61 : decode cX5_firstOf 61 = .ok (.getfield 51, 3) := by decide +kernel
theorem dX5_firstOf_64 : decode cX5_firstOf 64 = .ok (.iload 5, 2) := by decide +kernel
theorem dX5_firstOf_66 : decode cX5_firstOf 66 = .ok (.iaload, 1) := by decide +kernel
theorem dX5_firstOf_67 : decode cX5_firstOf 67 = .ok (.istore 6, 2) := by decide +kernel
theorem dX5_firstOf_69 : decode cX5_firstOf 69 = .ok (.iload 4, 2) := by decide +kernel
theorem dX5_firstOf_71 : decode cX5_firstOf 71 = .ok (.iconst (-1), 1) := by decide +kernel
theorem dX5_firstOf_72 : decode cX5_firstOf 72 = .ok (.if_icmp .eq 61, 3) := by decide +kernel
theorem dX5_firstOf_75 : decode cX5_firstOf 75 = .ok (.aload_n 0, 1) := by decide +kernel
theorem dX5_firstOf_76 : decode cX5_firstOf 76 = .ok (.getfield 41, 3) := by decide +kernel
theorem dX5_firstOf_79 : decode cX5_firstOf 79 = .ok (.iload 6, 2) := by decide +kernel
theorem dX5_firstOf_81 : decode cX5_firstOf 81 = .ok (.laload, 1) := by decide +kernel
theorem dX5_firstOf_82 : decode cX5_firstOf 82 = .ok (.aload_n 0, 1) := by decide +kernel
theorem dX5_firstOf_83 : decode cX5_firstOf 83 = .ok (.getfield 41, 3) := by decide +kernel
theorem dX5_firstOf_86 : decode cX5_firstOf 86 = .ok (.aload_n 0, 1) := by decide +kernel
theorem dX5_firstOf_87 : decode cX5_firstOf 87 = .ok (.getfield 51, 3) := by decide +kernel
theorem dX5_firstOf_90 : decode cX5_firstOf 90 = .ok (.iload 4, 2) := by decide +kernel
theorem dX5_firstOf_92 : decode cX5_firstOf 92 = .ok (.iaload, 1) := by decide +kernel
theorem dX5_firstOf_93 : decode cX5_firstOf 93 = .ok (.laload, 1) := by decide +kernel
theorem dX5_firstOf_94 : decode cX5_firstOf 94 = .ok (.lcmp, 1) := by decide +kernel
theorem dX5_firstOf_95 : decode cX5_firstOf 95 = .ok (.ifCond .lt 38, 3) := by decide +kernel
theorem dX5_firstOf_98 : decode cX5_firstOf 98 = .ok (.aload_n 0, 1) := by decide +kernel
theorem dX5_firstOf_99 : decode cX5_firstOf 99 = .ok (.getfield 41, 3) := by decide +kernel
theorem dX5_firstOf_102 : decode cX5_firstOf 102 = .ok (.iload 6, 2) := by decide +kernel
theorem dX5_firstOf_104 : decode cX5_firstOf 104 = .ok (.laload, 1) := by decide +kernel
theorem dX5_firstOf_105 : decode cX5_firstOf 105 = .ok (.aload_n 0, 1) := by decide +kernel
theorem dX5_firstOf_106 : decode cX5_firstOf 106 = .ok (.getfield 41, 3) := by decide +kernel
theorem dX5_firstOf_109 : decode cX5_firstOf 109 = .ok (.aload_n 0, 1) := by decide +kernel
theorem dX5_firstOf_110 : decode cX5_firstOf 110 = .ok (.getfield 51, 3) := by decide +kernel
theorem dX5_firstOf_113 : decode cX5_firstOf 113 = .ok (.iload 4, 2) := by decide +kernel
theorem dX5_firstOf_115 : decode cX5_firstOf 115 = .ok (.iaload, 1) := by decide +kernel
theorem dX5_firstOf_116 : decode cX5_firstOf 116 = .ok (.laload, 1) := by decide +kernel
theorem dX5_firstOf_117 : decode cX5_firstOf 117 = .ok (.lcmp, 1) := by decide +kernel
theorem dX5_firstOf_118 : decode cX5_firstOf 118 = .ok (.ifCond .ne 19, 3) := by decide +kernel
theorem dX5_firstOf_121 : decode cX5_firstOf 121 = .ok (.iload 6, 2) := by decide +kernel
theorem dX5_firstOf_123 : decode cX5_firstOf 123 = .ok (.aload_n 0, 1) := by decide +kernel
theorem dX5_firstOf_124 : decode cX5_firstOf 124 = .ok (.getfield 51, 3) := by decide +kernel
theorem dX5_firstOf_127 : decode cX5_firstOf 127 = .ok (.iload 4, 2) := by decide +kernel
theorem dX5_firstOf_129 : decode cX5_firstOf 129 = .ok (.iaload, 1) := by decide +kernel
theorem dX5_firstOf_130 : decode cX5_firstOf 130 = .ok (.if_icmp .ge 7, 3) := by decide +kernel
theorem dX5_firstOf_133 : decode cX5_firstOf 133 = .ok (.iconst 1, 1) := by decide +kernel
theorem dX5_firstOf_134 : decode cX5_firstOf 134 = .ok (.goto 4, 3) := by decide +kernel
theorem dX5_firstOf_137 : decode cX5_firstOf 137 = .ok (.iconst 0, 1) := by decide +kernel
theorem dX5_firstOf_138 : decode cX5_firstOf 138 = .ok (.istore 7, 2) := by decide +kernel
theorem dX5_firstOf_140 : decode cX5_firstOf 140 = .ok (.iload 7, 2) := by decide +kernel
theorem dX5_firstOf_142 : decode cX5_firstOf 142 = .ok (.ifCond .eq 8, 3) := by decide +kernel
theorem dX5_firstOf_145 : decode cX5_firstOf 145 = .ok (.iload 5, 2) := by decide +kernel
theorem dX5_firstOf_147 : decode cX5_firstOf 147 = .ok (.goto 5, 3) := by decide +kernel
theorem dX5_firstOf_150 : decode cX5_firstOf 150 = .ok (.iload 4, 2) := by decide +kernel
theorem dX5_firstOf_152 : decode cX5_firstOf 152 = .ok (.istore 4, 2) := by decide +kernel
theorem dX5_firstOf_154 : decode cX5_firstOf 154 = .ok (.iinc 5 1, 3) := by decide +kernel
theorem dX5_firstOf_157 : decode cX5_firstOf 157 = .ok (.goto (-151), 3) := by decide +kernel
theorem dX5_firstOf_160 : decode cX5_firstOf 160 = .ok (.iload 4, 2) := by decide +kernel
theorem dX5_firstOf_162 : decode cX5_firstOf 162 = .ok (.ireturn, 1) := by decide +kernel
set_option maxRecDepth 20000 in
theorem ggX5_take_X5_isPrinter : GoodIn wsX5_take wsX5_isPrinter := goodIn_r _ [17, 18, 19, 20, 16, 21, 50, 51, 52, 53, 54, 55, 56, 57, 58, 59, 60, 61, 62, 63, 64, 65, 66, 67, 68, 69, 70, 71, 72, 73, 74, 75, 76, 77, 78, 79] (by decide +kernel) (by decide +kernel)
set_option maxRecDepth 20000 in
theorem gX5_take_X5_isPrinter : GoodIn wsX5_take (wsV RX5 132 RX5 yX5_isPrinter wsX5_isPrinter) := goodIn_app (goodIn_of _ (by decide +kernel)) ggX5_take_X5_isPrinter
set_option maxRecDepth 20000 in
theorem ggX5_take_X5_bestRank : GoodIn wsX5_take wsX5_bestRank := goodIn_r _ [25, 26, 27, 12, 28, 29, 30, 16, 31, 6, 32, 33, 1, 34, 35, 36, 37, 38, 11, 39, 40, 50, 51, 52, 53, 54, 55, 56, 57, 58, 59, 60, 61, 62, 63, 64, 65, 66, 67, 68, 69, 70, 71, 72, 73, 74, 75, 76, 77, 78, 79] (by decide +kernel) (by decide +kernel)
set_option maxRecDepth 20000 in
theorem gX5_take_X5_bestRank : GoodIn wsX5_take (wsV RX5 136 RX5 yX5_bestRank wsX5_bestRank) := goodIn_app (goodIn_of _ (by decide +kernel)) ggX5_take_X5_bestRank
set_option maxRecDepth 20000 in
theorem ggX5_take_X5_firstOf : GoodIn wsX5_take wsX5_firstOf := goodIn_r _ [44, 26, 27, 12, 9, 33, 28, 29, 30, 16, 31, 6, 32, 1, 34, 35, 36, 37, 38, 11, 39, 40, 45, 46, 47, 48, 49, 50, 51, 52, 53, 54, 55, 56, 57, 58, 59, 60, 61, 62, 63, 64, 65, 66, 67, 68, 69, 70, 71, 72, 73, 74, 75, 76, 77, 78, 79] (by decide +kernel) (by decide +kernel)
set_option maxRecDepth 20000 in
theorem gX5_take_X5_firstOf : GoodIn wsX5_take (wsV RX5 139 RX5 yX5_firstOf wsX5_firstOf) := goodIn_app (goodIn_of _ (by decide +kernel)) ggX5_take_X5_firstOf
set_option maxRecDepth 20000 in
theorem ggX5_take_X5_mediaOf : GoodIn wsX5_take wsX5_mediaOf := goodIn_r _ [48, 49, 11, 12, 50, 51, 52, 53, 54, 55, 56, 57, 58, 59, 60, 61, 62, 63, 64, 65, 66, 67, 68, 69, 70, 71, 72, 73, 74, 75, 76, 77, 78, 79] (by decide +kernel) (by decide +kernel)
set_option maxRecDepth 20000 in
theorem gX5_take_X5_mediaOf : GoodIn wsX5_take (wsV RX5 128 RX5 yX5_mediaOf wsX5_mediaOf) := goodIn_app (goodIn_of _ (by decide +kernel)) ggX5_take_X5_mediaOf
theorem dX5_take_0 : decode cX5_take 0 = .ok (.aload_n 0, 1) := by decide +kernel
theorem dX5_take_1 : decode cX5_take 1 = .ok (.aload_n 0, 1) := by decide +kernel
theorem dX5_take_2 : decode cX5_take 2 = .ok (.iload_n 1, 1) := by decide +kernel
theorem dX5_take_3 : decode cX5_take 3 = .ok (.invokevirtual 132, 3) := by decide +kernel
theorem dX5_take_6 : decode cX5_take 6 = .ok (.ifCond .ne 7, 3) := by decide +kernel
theorem dX5_take_9 : decode cX5_take 9 = .ok (.iconst 1, 1) := by decide +kernel
theorem dX5_take_10 : decode cX5_take 10 = .ok (.goto 31, 3) := by decide +kernel
theorem dX5_take_13 : decode cX5_take 13 = .ok (.lload_n 2, 1) := by decide +kernel
theorem dX5_take_14 : decode cX5_take 14 = .ok (.aload_n 0, 1) := by decide +kernel
theorem dX5_take_15 : decode cX5_take 15 = .ok (.getfield 117, 3) := by decide +kernel
theorem dX5_take_18 : decode cX5_take 18 = .ok (.lcmp, 1) := by decide +kernel
theorem dX5_take_19 : decode cX5_take 19 = .ok (.ifCond .ge 7, 3) := by decide +kernel
theorem dX5_take_22 : decode cX5_take 22 = .ok (.iconst 2, 1) := by decide +kernel
theorem dX5_take_23 : decode cX5_take 23 = .ok (.goto 18, 3) := by decide +kernel
theorem dX5_take_26 : decode cX5_take 26 = .ok (.aload_n 0, 1) := by decide +kernel
theorem dX5_take_27 : decode cX5_take 27 = .ok (.getfield 19, 3) := by decide +kernel
theorem dX5_take_30 : decode cX5_take 30 = .ok (.iload_n 1, 1) := by decide +kernel
theorem dX5_take_31 : decode cX5_take 31 = .ok (.iaload, 1) := by decide +kernel
theorem dX5_take_32 : decode cX5_take 32 = .ok (.iconst (-1), 1) := by decide +kernel
theorem dX5_take_33 : decode cX5_take 33 = .ok (.if_icmp .eq 7, 3) := by decide +kernel
theorem dX5_take_36 : decode cX5_take 36 = .ok (.iconst 3, 1) := by decide +kernel
theorem dX5_take_37 : decode cX5_take 37 = .ok (.goto 4, 3) := by decide +kernel
theorem dX5_take_40 : decode cX5_take 40 = .ok (.iconst 0, 1) := by decide +kernel
theorem dX5_take_41 : decode cX5_take 41 = .ok (.putfield 82, 3) := by decide +kernel
theorem dX5_take_44 : decode cX5_take 44 = .ok (.aload_n 0, 1) := by decide +kernel
theorem dX5_take_45 : decode cX5_take 45 = .ok (.getfield 82, 3) := by decide +kernel
theorem dX5_take_48 : decode cX5_take 48 = .ok (.ifCond .le 5, 3) := by decide +kernel
theorem dX5_take_51 : decode cX5_take 51 = .ok (.iconst 0, 1) := by decide +kernel
theorem dX5_take_52 : decode cX5_take 52 = .ok (.ireturn, 1) := by decide +kernel
theorem dX5_take_53 : decode cX5_take 53 = .ok (.aload_n 0, 1) := by decide +kernel
theorem dX5_take_54 : decode cX5_take 54 = .ok (.lload_n 2, 1) := by decide +kernel
theorem dX5_take_55 : decode cX5_take 55 = .ok (.putfield 117, 3) := by decide +kernel
theorem dX5_take_58 : decode cX5_take 58 = .ok (.aload_n 0, 1) := by decide +kernel
theorem dX5_take_59 : decode cX5_take 59 = .ok (.iload_n 1, 1) := by decide +kernel
theorem dX5_take_60 : decode cX5_take 60 = .ok (.invokevirtual 136, 3) := by decide +kernel
theorem dX5_take_63 : decode cX5_take 63 = .ok (.istore 4, 2) := by decide +kernel
theorem dX5_take_65 : decode cX5_take 65 = .ok (.iload 4, 2) := by decide +kernel
theorem dX5_take_67 : decode cX5_take 67 = .ok (.iconst (-1), 1) := by decide +kernel
theorem dX5_take_68 : decode cX5_take 68 = .ok (.if_icmp .ne 5, 3) := by decide +kernel
theorem dX5_take_71 : decode cX5_take 71 = .ok (.iconst 0, 1) := by decide +kernel
theorem dX5_take_72 : decode cX5_take 72 = .ok (.ireturn, 1) := by decide +kernel
theorem dX5_take_73 : decode cX5_take 73 = .ok (.aload_n 0, 1) := by decide +kernel
theorem dX5_take_74 : decode cX5_take 74 = .ok (.getfield 16, 3) := by decide +kernel
theorem dX5_take_77 : decode cX5_take 77 = .ok (.iload_n 1, 1) := by decide +kernel
theorem dX5_take_78 : decode cX5_take 78 = .ok (.iaload, 1) := by decide +kernel
theorem dX5_take_79 : decode cX5_take 79 = .ok (.aload_n 0, 1) := by decide +kernel
theorem dX5_take_80 : decode cX5_take 80 = .ok (.getfield 78, 3) := by decide +kernel
theorem dX5_take_83 : decode cX5_take 83 = .ok (.if_icmp .ge 14, 3) := by decide +kernel
theorem dX5_take_86 : decode cX5_take 86 = .ok (.aload_n 0, 1) := by decide +kernel
theorem dX5_take_87 : decode cX5_take 87 = .ok (.iload_n 1, 1) := by decide +kernel
theorem dX5_take_88 : decode cX5_take 88 = .ok (.iload 4, 2) := by decide +kernel
theorem dX5_take_90 : decode cX5_take 90 = .ok (.iconst 1, 1) := by decide +kernel
theorem dX5_take_91 : decode cX5_take 91 = .ok (.invokevirtual 139, 3) := by decide +kernel
theorem dX5_take_94 : decode cX5_take 94 = .ok (.goto 4, 3) := by decide +kernel
theorem dX5_take_97 : decode cX5_take 97 = .ok (.iconst (-1), 1) := by decide +kernel
theorem dX5_take_98 : decode cX5_take 98 = .ok (.istore 5, 2) := by decide +kernel
theorem dX5_take_100 : decode cX5_take 100 = .ok (.iload 5, 2) := by decide +kernel
theorem dX5_take_102 : decode cX5_take 102 = .ok (.iconst (-1), 1) := by decide +kernel
theorem dX5_take_103 : decode cX5_take 103 = .ok (.if_icmp .ne 14, 3) := by decide +kernel
theorem dX5_take_106 : decode cX5_take 106 = .ok (.aload_n 0, 1) := by decide +kernel
theorem dX5_take_107 : decode cX5_take 107 = .ok (.iload_n 1, 1) := by decide +kernel
theorem dX5_take_108 : decode cX5_take 108 = .ok (.iload 4, 2) := by decide +kernel
theorem dX5_take_110 : decode cX5_take 110 = .ok (.iconst 0, 1) := by decide +kernel
theorem dX5_take_111 : decode cX5_take 111 = .ok (.invokevirtual 139, 3) := by decide +kernel
theorem dX5_take_114 : decode cX5_take 114 = .ok (.goto 5, 3) := by decide +kernel
theorem dX5_take_117 : decode cX5_take 117 = .ok (.iload 5, 2) := by decide +kernel
theorem dX5_take_119 : decode cX5_take 119 = .ok (.istore 5, 2) := by decide +kernel
theorem dX5_take_121 : decode cX5_take 121 = .ok (.aload_n 0, 1) := by decide +kernel
theorem dX5_take_122 : decode cX5_take 122 = .ok (.getfield 69, 3) := by decide +kernel
theorem dX5_take_125 : decode cX5_take 125 = .ok (.iload 5, 2) := by decide +kernel
theorem dX5_take_127 : decode cX5_take 127 = .ok (.iconst 0, 1) := by decide +kernel
theorem dX5_take_128 : decode cX5_take 128 = .ok (.bastore, 1) := by decide +kernel
theorem dX5_take_129 : decode cX5_take 129 = .ok (.aload_n 0, 1) := by decide +kernel
theorem dX5_take_130 : decode cX5_take 130 = .ok (.getfield 66, 3) := by decide +kernel
theorem dX5_take_133 : decode cX5_take 133 = .ok (.iload 5, 2) := by decide +kernel
theorem dX5_take_135 : decode cX5_take 135 = .ok (.iconst 1, 1) := by decide +kernel
theorem dX5_take_136 : decode cX5_take 136 = .ok (.bastore, 1) := by decide +kernel
theorem dX5_take_137 : decode cX5_take 137 = .ok (.aload_n 0, 1) := by decide +kernel
theorem dX5_take_138 : decode cX5_take 138 = .ok (.getfield 60, 3) := by decide +kernel
theorem dX5_take_141 : decode cX5_take 141 = .ok (.iload 5, 2) := by decide +kernel
theorem dX5_take_143 : decode cX5_take 143 = .ok (.iload_n 1, 1) := by decide +kernel
theorem dX5_take_144 : decode cX5_take 144 = .ok (.iastore, 1) := by decide +kernel
theorem dX5_take_145 : decode cX5_take 145 = .ok (.aload_n 0, 1) := by decide +kernel
theorem dX5_take_146 : decode cX5_take 146 = .ok (.getfield 19, 3) := by decide +kernel
theorem dX5_take_149 : decode cX5_take 149 = .ok (.iload_n 1, 1) := by decide +kernel
theorem dX5_take_150 : decode cX5_take 150 = .ok (.iload 5, 2) := by decide +kernel
theorem dX5_take_152 : decode cX5_take 152 = .ok (.iastore, 1) := by decide +kernel
theorem dX5_take_153 : decode cX5_take 153 = .ok (.aload_n 0, 1) := by decide +kernel
theorem dX5_take_154 : decode cX5_take 154 = .ok (.iload 5, 2) := by decide +kernel
theorem dX5_take_156 : decode cX5_take 156 = .ok (.invokevirtual 128, 3) := by decide +kernel
theorem dX5_take_159 : decode cX5_take 159 = .ok (.aload_n 0, 1) := by decide +kernel
theorem dX5_take_160 : decode cX5_take 160 = .ok (.getfield 7, 3) := by decide +kernel
theorem dX5_take_163 : decode cX5_take 163 = .ok (.iload_n 1, 1) := by decide +kernel
theorem dX5_take_164 : decode cX5_take 164 = .ok (.iaload, 1) := by decide +kernel
theorem dX5_take_165 : decode cX5_take 165 = .ok (.if_icmp .ne 16, 3) := by decide +kernel
theorem dX5_take_168 : decode cX5_take 168 = .ok (.aload_n 0, 1) := by decide +kernel
theorem dX5_take_169 : decode cX5_take 169 = .ok (.getfield 16, 3) := by decide +kernel
theorem dX5_take_172 : decode cX5_take 172 = .ok (.iload_n 1, 1) := by decide +kernel
theorem dX5_take_173 : decode cX5_take 173 = .ok (.dup2, 1) := by decide +kernel
theorem dX5_take_174 : decode cX5_take 174 = .ok (.iaload, 1) := by decide +kernel
theorem dX5_take_175 : decode cX5_take 175 = .ok (.iconst 1, 1) := by decide +kernel
theorem dX5_take_176 : decode cX5_take 176 = .ok (.iadd, 1) := by decide +kernel
theorem dX5_take_177 : decode cX5_take 177 = .ok (.iastore, 1) := by decide +kernel
theorem dX5_take_178 : decode cX5_take 178 = .ok (.goto 47, 3) := by decide +kernel
theorem dX5_take_181 : decode cX5_take 181 = .ok (.aload_n 0, 1) := by decide +kernel
theorem dX5_take_182 : decode cX5_take 182 = .ok (.getfield 7, 3) := by decide +kernel
theorem dX5_take_185 : decode cX5_take 185 = .ok (.iload_n 1, 1) := by decide +kernel
theorem dX5_take_186 : decode cX5_take 186 = .ok (.aload_n 0, 1) := by decide +kernel
theorem dX5_take_187 : decode cX5_take 187 = .ok (.iload 5, 2) := by decide +kernel
theorem dX5_take_189 : decode cX5_take 189 = .ok (.invokevirtual 128, 3) := by decide +kernel
theorem dX5_take_192 : decode cX5_take 192 = .ok (.iastore, 1) := by decide +kernel
theorem dX5_take_193 : decode cX5_take 193 = .ok (.aload_n 0, 1) := by decide +kernel
theorem dX5_take_194 : decode cX5_take 194 = .ok (.getfield 16, 3) := by decide +kernel
theorem dX5_take_197 : decode cX5_take 197 = .ok (.iload_n 1, 1) := by decide +kernel
theorem dX5_take_198 : decode cX5_take 198 = .ok (.iconst 0, 1) := by decide +kernel
theorem dX5_take_199 : decode cX5_take 199 = .ok (.iastore, 1) := by decide +kernel
theorem dX5_take_200 : decode cX5_take 200 = .ok (.aload_n 0, 1) := by decide +kernel
theorem dX5_take_201 : decode cX5_take 201 = .ok (.getfield 28, 3) := by decide +kernel
theorem dX5_take_204 : decode cX5_take 204 = .ok (.iconst 4, 1) := by decide +kernel
theorem dX5_take_205 : decode cX5_take 205 = .ok (.aload_n 0, 1) := by decide +kernel
theorem dX5_take_206 : decode cX5_take 206 = .ok (.getfield 32, 3) := by decide +kernel
theorem dX5_take_209 : decode cX5_take 209 = .ok (.aload_n 0, 1) := by decide +kernel
theorem dX5_take_210 : decode cX5_take 210 = .ok (.getfield 51, 3) := by decide +kernel
theorem dX5_take_213 : decode cX5_take 213 = .ok (.iload 5, 2) := by decide +kernel
theorem dX5_take_215 : decode cX5_take 215 = .ok (.iaload, 1) := by decide +kernel
theorem dX5_take_216 : decode cX5_take 216 = .ok (.iaload, 1) := by decide +kernel
theorem dX5_take_217 : decode cX5_take 217 = .ok (.imul, 1) := by decide +kernel
theorem dX5_take_218 : decode cX5_take 218 = .ok (.iconst 2, 1) := by decide +kernel
theorem dX5_take_219 : decode cX5_take 219 = .ok (.isub, 1) := by decide +kernel
theorem dX5_take_220 : decode cX5_take 220 = .ok (.dup2, 1) := by decide +kernel
theorem dX5_take_221 : decode cX5_take 221 = .ok (.laload, 1) := by decide +kernel
theorem dX5_take_222 : decode cX5_take 222 = .ok (.lconst 1, 1) := by decide +kernel
theorem dX5_take_223 : decode cX5_take 223 = .ok (.ladd, 1) := by decide +kernel
theorem dX5_take_224 : decode cX5_take 224 = .ok (.lastore, 1) := by decide +kernel
theorem dX5_take_225 : decode cX5_take 225 = .ok (.aload_n 0, 1) := by decide +kernel
theorem dX5_take_226 : decode cX5_take 226 = .ok (.getfield 51, 3) := by decide +kernel
theorem dX5_take_229 : decode cX5_take 229 = .ok (.iload 5, 2) := by decide +kernel
theorem dX5_take_231 : decode cX5_take 231 = .ok (.iaload, 1) := by decide +kernel
theorem dX5_take_232 : decode cX5_take 232 = .ok (.ireturn, 1) := by decide +kernel
theorem dX5_isOver_0 : decode cX5_isOver 0 = .ok (.aload_n 0, 1) := by decide +kernel
theorem dX5_isOver_1 : decode cX5_isOver 1 = .ok (.getfield 63, 3) := by decide +kernel
theorem dX5_isOver_4 : decode cX5_isOver 4 = .ok (.iload_n 1, 1) := by decide +kernel
theorem dX5_isOver_5 : decode cX5_isOver 5 = .ok (.iaload, 1) := by decide +kernel
theorem dX5_isOver_6 : decode cX5_isOver 6 = .ok (.aload_n 0, 1) := by decide +kernel
theorem dX5_isOver_7 : decode cX5_isOver 7 = .ok (.getfield 54, 3) := by decide +kernel
theorem dX5_isOver_10 : decode cX5_isOver 10 = .ok (.iload_n 1, 1) := by decide +kernel
theorem dX5_isOver_11 : decode cX5_isOver 11 = .ok (.iaload, 1) := by decide +kernel
theorem dX5_isOver_12 : decode cX5_isOver 12 = .ok (.aload_n 0, 1) := by decide +kernel
theorem dX5_isOver_13 : decode cX5_isOver 13 = .ok (.getfield 35, 3) := by decide +kernel
theorem dX5_isOver_16 : decode cX5_isOver 16 = .ok (.aload_n 0, 1) := by decide +kernel
theorem dX5_isOver_17 : decode cX5_isOver 17 = .ok (.getfield 51, 3) := by decide +kernel
theorem dX5_isOver_20 : decode cX5_isOver 20 = .ok (.iload_n 1, 1) := by decide +kernel
theorem dX5_isOver_21 : decode cX5_isOver 21 = .ok (.iaload, 1) := by decide +kernel
theorem dX5_isOver_22 : decode cX5_isOver 22 = .ok (.iaload, 1) := by decide +kernel
theorem dX5_isOver_23 : decode cX5_isOver 23 = .ok (.imul, 1) := by decide +kernel
theorem dX5_isOver_24 : decode cX5_isOver 24 = .ok (.if_icmp .ne 7, 3) := by decide +kernel
theorem dX5_isOver_27 : decode cX5_isOver 27 = .ok (.iconst 1, 1) := by decide +kernel
theorem dX5_isOver_28 : decode cX5_isOver 28 = .ok (.goto 4, 3) := by decide +kernel
theorem dX5_isOver_31 : decode cX5_isOver 31 = .ok (.iconst 0, 1) := by decide +kernel
theorem dX5_isOver_32 : decode cX5_isOver 32 = .ok (.ireturn, 1) := by decide +kernel
theorem dX5_leave_0 : decode cX5_leave 0 = .ok (.aload_n 0, 1) := by decide +kernel
theorem dX5_leave_1 : decode cX5_leave 1 = .ok (.getfield 60, 3) := by decide +kernel
theorem dX5_leave_4 : decode cX5_leave 4 = .ok (.aload_n 0, 1) := by decide +kernel
theorem dX5_leave_5 : decode cX5_leave 5 = .ok (.getfield 19, 3) := by decide +kernel
theorem dX5_leave_8 : decode cX5_leave 8 = .ok (.iload_n 1, 1) := by decide +kernel
theorem dX5_leave_9 : decode cX5_leave 9 = .ok (.iaload, 1) := by decide +kernel
theorem dX5_leave_10 : decode cX5_leave 10 = .ok (.iconst 0, 1) := by decide +kernel
theorem dX5_leave_11 : decode cX5_leave 11 = .ok (.iastore, 1) := by decide +kernel
theorem dX5_leave_12 : decode cX5_leave 12 = .ok (.aload_n 0, 1) := by decide +kernel
theorem dX5_leave_13 : decode cX5_leave 13 = .ok (.getfield 19, 3) := by decide +kernel
theorem dX5_leave_16 : decode cX5_leave 16 = .ok (.iload_n 1, 1) := by decide +kernel
theorem dX5_leave_17 : decode cX5_leave 17 = .ok (.iconst (-1), 1) := by decide +kernel
theorem dX5_leave_18 : decode cX5_leave 18 = .ok (.iastore, 1) := by decide +kernel
theorem dX5_leave_19 : decode cX5_leave 19 = .ok (.return_, 1) := by decide +kernel
theorem dX5_odd_0 : decode cX5_odd 0 = .ok (.iload_n 1, 1) := by decide +kernel
theorem dX5_odd_1 : decode cX5_odd 1 = .ok (.iload_n 0, 1) := by decide +kernel
theorem dX5_odd_2 : decode cX5_odd 2 = .ok (.idiv, 1) := by decide +kernel
theorem dX5_odd_3 : decode cX5_odd 3 = .ok (.iload_n 0, 1) := by decide +kernel
theorem dX5_odd_4 : decode cX5_odd 4 = .ok (.iconst 1, 1) := by decide +kernel
theorem dX5_odd_5 : decode cX5_odd 5 = .ok (.iadd, 1) := by decide +kernel
theorem dX5_odd_6 : decode cX5_odd 6 = .ok (.iconst 2, 1) := by decide +kernel
theorem dX5_odd_7 : decode cX5_odd 7 = .ok (.idiv, 1) := by decide +kernel
theorem dX5_odd_8 : decode cX5_odd 8 = .ok (.imul, 1) := by decide +kernel
theorem dX5_odd_9 : decode cX5_odd 9 = .ok (.iload_n 1, 1) := by decide +kernel
theorem dX5_odd_10 : decode cX5_odd 10 = .ok (.iload_n 0, 1) := by decide +kernel
theorem dX5_odd_11 : decode cX5_odd 11 = .ok (.irem, 1) := by decide +kernel
theorem dX5_odd_12 : decode cX5_odd 12 = .ok (.iconst 1, 1) := by decide +kernel
theorem dX5_odd_13 : decode cX5_odd 13 = .ok (.iadd, 1) := by decide +kernel
theorem dX5_odd_14 : decode cX5_odd 14 = .ok (.iconst 2, 1) := by decide +kernel
theorem dX5_odd_15 : decode cX5_odd 15 = .ok (.idiv, 1) := by decide +kernel
theorem dX5_odd_16 : decode cX5_odd 16 = .ok (.iadd, 1) := by decide +kernel
theorem dX5_odd_17 : decode cX5_odd 17 = .ok (.ireturn, 1) := by decide +kernel
set_option maxRecDepth 20000 in
theorem ggX5_print_X5_isPrinter : GoodIn wsX5_print wsX5_isPrinter := goodIn_r _ [16, 17, 18, 19, 15, 20, 33, 34, 35, 36, 37, 38, 39, 40, 41, 42, 43, 44, 45, 46, 47, 48, 49, 50, 51, 52, 53, 54, 55, 56, 57, 58, 59, 60, 61, 62] (by decide +kernel) (by decide +kernel)
set_option maxRecDepth 20000 in
theorem gX5_print_X5_isPrinter : GoodIn wsX5_print (wsV RX5 132 RX5 yX5_isPrinter wsX5_isPrinter) := goodIn_app (goodIn_of _ (by decide +kernel)) ggX5_print_X5_isPrinter
set_option maxRecDepth 20000 in
theorem ggX5_print_X5_in : GoodIn wsX5_print wsX5_in := goodIn_r _ [20] (by decide +kernel) (by decide +kernel)
set_option maxRecDepth 20000 in
theorem gX5_print_X5_in : GoodIn wsX5_print (va_wsS RX5 87 yX5_in wsX5_in) := goodIn_app (goodIn_of _ (by decide +kernel)) ggX5_print_X5_in
set_option maxRecDepth 20000 in
theorem ggX5_print_X5_odd : GoodIn wsX5_print wsX5_odd := goodIn_r _ [23] (by decide +kernel) (by decide +kernel)
set_option maxRecDepth 20000 in
theorem gX5_print_X5_odd : GoodIn wsX5_print (va_wsS RX5 145 yX5_odd wsX5_odd) := goodIn_app (goodIn_of _ (by decide +kernel)) ggX5_print_X5_odd
set_option maxRecDepth 20000 in
theorem ggX5_print_X5_isOver : GoodIn wsX5_print wsX5_isOver := goodIn_r _ [27, 7, 6, 5, 4, 33, 34, 35, 36, 37, 38, 39, 40, 41, 42, 43, 44, 45, 46, 47, 48, 49, 50, 51, 52, 53, 54, 55, 56, 57, 58, 59, 60, 61, 62] (by decide +kernel) (by decide +kernel)
set_option maxRecDepth 20000 in
theorem gX5_print_X5_isOver : GoodIn wsX5_print (wsV RX5 149 RX5 yX5_isOver wsX5_isOver) := goodIn_app (goodIn_of _ (by decide +kernel)) ggX5_print_X5_isOver
set_option maxRecDepth 20000 in
theorem ggX5_print_X5_leave : GoodIn wsX5_print wsX5_leave := goodIn_r _ [31, 32, 3, 33, 34, 35, 36, 37, 38, 39, 40, 41, 42, 43, 44, 45, 46, 47, 48, 49, 50, 51, 52, 53, 54, 55, 56, 57, 58, 59, 60, 61, 62] (by decide +kernel) (by decide +kernel)
set_option maxRecDepth 20000 in
theorem gX5_print_X5_leave : GoodIn wsX5_print (wsV RX5 152 RX5 yX5_leave wsX5_leave) := goodIn_app (goodIn_of _ (by decide +kernel)) ggX5_print_X5_leave
theorem dX5_print_0 : decode cX5_print 0 = .ok (.aload_n 0, 1) := by decide +kernel
theorem dX5_print_1 : decode cX5_print 1 = .ok (.aload_n 0, 1) := by decide +kernel
theorem dX5_print_2 : decode cX5_print 2 = .ok (.iload_n 1, 1) := by decide +kernel
theorem dX5_print_3 : decode cX5_print 3 = .ok (.invokevirtual 132, 3) := by decide +kernel
theorem dX5_print_6 : decode cX5_print 6 = .ok (.ifCond .ne 7, 3) := by decide +kernel
theorem dX5_print_9 : decode cX5_print 9 = .ok (.iconst 1, 1) := by decide +kernel
theorem dX5_print_10 : decode cX5_print 10 = .ok (.goto 20, 3) := by decide +kernel
theorem dX5_print_13 : decode cX5_print 13 = .ok (.iload_n 2, 1) := by decide +kernel
theorem dX5_print_14 : decode cX5_print 14 = .ok (.i2l, 1) := by decide +kernel
theorem dX5_print_15 : decode cX5_print 15 = .ok (.lconst 0, 1) := by decide +kernel
theorem dX5_print_16 : decode cX5_print 16 = .ok (.ldc2_w 143, 3) := by decide +kernel
theorem dX5_print_19 : decode cX5_print 19 = .ok (.invokestatic 87, 3) := by decide +kernel
theorem dX5_print_22 : decode cX5_print 22 = .ok (.ifCond .ne 7, 3) := by decide +kernel
theorem dX5_print_25 : decode cX5_print 25 = .ok (.iconst 2, 1) := by decide +kernel
theorem dX5_print_26 : decode cX5_print 26 = .ok (.goto 4, 3) := by decide +kernel
theorem dX5_print_29 : decode cX5_print 29 = .ok (.iconst 0, 1) := by decide +kernel
theorem dX5_print_30 : decode cX5_print 30 = .ok (.putfield 82, 3) := by decide +kernel
theorem dX5_print_33 : decode cX5_print 33 = .ok (.aload_n 0, 1) := by decide +kernel
theorem dX5_print_34 : decode cX5_print 34 = .ok (.getfield 82, 3) := by decide +kernel
theorem dX5_print_37 : decode cX5_print 37 = .ok (.ifCond .gt 13, 3) := by decide +kernel
theorem dX5_print_40 : decode cX5_print 40 = .ok (.aload_n 0, 1) := by decide +kernel
theorem dX5_print_41 : decode cX5_print 41 = .ok (.getfield 19, 3) := by decide +kernel
theorem dX5_print_44 : decode cX5_print 44 = .ok (.iload_n 1, 1) := by decide +kernel
theorem dX5_print_45 : decode cX5_print 45 = .ok (.iaload, 1) := by decide +kernel
theorem dX5_print_46 : decode cX5_print 46 = .ok (.iconst (-1), 1) := by decide +kernel
theorem dX5_print_47 : decode cX5_print 47 = .ok (.if_icmp .ne 5, 3) := by decide +kernel
theorem dX5_print_50 : decode cX5_print 50 = .ok (.iconst 0, 1) := by decide +kernel
theorem dX5_print_51 : decode cX5_print 51 = .ok (.ireturn, 1) := by decide +kernel
theorem dX5_print_52 : decode cX5_print 52 = .ok (.aload_n 0, 1) := by decide +kernel
theorem dX5_print_53 : decode cX5_print 53 = .ok (.getfield 19, 3) := by decide +kernel
theorem dX5_print_56 : decode cX5_print 56 = .ok (.iload_n 1, 1) := by decide +kernel
theorem dX5_print_57 : decode cX5_print 57 = .ok (.iaload, 1) := by decide +kernel
theorem dX5_print_58 : decode cX5_print 58 = .ok (.istore_n 3, 1) := by decide +kernel
theorem dX5_print_59 : decode cX5_print 59 = .ok (.aload_n 0, 1) := by decide +kernel
theorem dX5_print_60 : decode cX5_print 60 = .ok (.getfield 51, 3) := by decide +kernel
theorem dX5_print_63 : decode cX5_print 63 = .ok (.iload_n 3, 1) := by decide +kernel
theorem dX5_print_64 : decode cX5_print 64 = .ok (.iaload, 1) := by decide +kernel
theorem dX5_print_65 : decode cX5_print 65 = .ok (.istore 4, 2) := by decide +kernel
theorem dX5_print_67 : decode cX5_print 67 = .ok (.aload_n 0, 1) := by decide +kernel
theorem dX5_print_68 : decode cX5_print 68 = .ok (.getfield 35, 3) := by decide +kernel
theorem dX5_print_71 : decode cX5_print 71 = .ok (.iload 4, 2) := by decide +kernel
theorem dX5_print_73 : decode cX5_print 73 = .ok (.iaload, 1) := by decide +kernel
theorem dX5_print_74 : decode cX5_print 74 = .ok (.istore 5, 2) := by decide +kernel
theorem dX5_print_76 : decode cX5_print 76 = .ok (.aload_n 0, 1) := by decide +kernel
theorem dX5_print_77 : decode cX5_print 77 = .ok (.getfield 54, 3) := by decide +kernel
theorem dX5_print_80 : decode cX5_print 80 = .ok (.iload_n 3, 1) := by decide +kernel
theorem dX5_print_81 : decode cX5_print 81 = .ok (.iaload, 1) := by decide +kernel
theorem dX5_print_82 : decode cX5_print 82 = .ok (.iload 5, 2) := by decide +kernel
theorem dX5_print_84 : decode cX5_print 84 = .ok (.imul, 1) := by decide +kernel
theorem dX5_print_85 : decode cX5_print 85 = .ok (.aload_n 0, 1) := by decide +kernel
theorem dX5_print_86 : decode cX5_print 86 = .ok (.getfield 63, 3) := by decide +kernel
theorem dX5_print_89 : decode cX5_print 89 = .ok (.iload_n 3, 1) := by decide +kernel
theorem dX5_print_90 : decode cX5_print 90 = .ok (.iaload, 1) := by decide +kernel
theorem dX5_print_91 : decode cX5_print 91 = .ok (.isub, 1) := by decide +kernel
theorem dX5_print_92 : decode cX5_print 92 = .ok (.istore 6, 2) := by decide +kernel
theorem dX5_print_94 : decode cX5_print 94 = .ok (.iload_n 2, 1) := by decide +kernel
theorem dX5_print_95 : decode cX5_print 95 = .ok (.iload 6, 2) := by decide +kernel
theorem dX5_print_97 : decode cX5_print 97 = .ok (.if_icmp .ge 7, 3) := by decide +kernel
theorem dX5_print_100 : decode cX5_print 100 = .ok (.iload_n 2, 1) := by decide +kernel
theorem dX5_print_101 : decode cX5_print 101 = .ok (.goto 5, 3) := by decide +kernel
theorem dX5_print_104 : decode cX5_print 104 = .ok (.iload 6, 2) := by decide +kernel
theorem dX5_print_106 : decode cX5_print 106 = .ok (.istore 7, 2) := by decide +kernel
theorem dX5_print_108 : decode cX5_print 108 = .ok (.iconst 4, 1) := by decide +kernel
theorem dX5_print_109 : decode cX5_print 109 = .ok (.aload_n 0, 1) := by decide +kernel
theorem dX5_print_110 : decode cX5_print 110 = .ok (.getfield 32, 3) := by decide +kernel
theorem dX5_print_113 : decode cX5_print 113 = .ok (.iload 4, 2) := by decide +kernel
theorem dX5_print_115 : decode cX5_print 115 = .ok (.iaload, 1) := by decide +kernel
theorem dX5_print_116 : decode cX5_print 116 = .ok (.imul, 1) := by decide +kernel
theorem dX5_print_117 : decode cX5_print 117 = .ok (.iconst 4, 1) := by decide +kernel
theorem dX5_print_118 : decode cX5_print 118 = .ok (.isub, 1) := by decide +kernel
theorem dX5_print_119 : decode cX5_print 119 = .ok (.istore 8, 2) := by decide +kernel
theorem dX5_print_121 : decode cX5_print 121 = .ok (.aload_n 0, 1) := by decide +kernel
theorem dX5_print_122 : decode cX5_print 122 = .ok (.getfield 63, 3) := by decide +kernel
theorem dX5_print_125 : decode cX5_print 125 = .ok (.iload_n 3, 1) := by decide +kernel
theorem dX5_print_126 : decode cX5_print 126 = .ok (.iaload, 1) := by decide +kernel
theorem dX5_print_127 : decode cX5_print 127 = .ok (.istore 9, 2) := by decide +kernel
theorem dX5_print_129 : decode cX5_print 129 = .ok (.iload 7, 2) := by decide +kernel
theorem dX5_print_131 : decode cX5_print 131 = .ok (.istore 10, 2) := by decide +kernel
theorem dX5_print_133 : decode cX5_print 133 = .ok (.aload_n 0, 1) := by decide +kernel
theorem dX5_print_134 : decode cX5_print 134 = .ok (.getfield 25, 3) := by decide +kernel
theorem dX5_print_137 : decode cX5_print 137 = .ok (.aload_n 0, 1) := by decide +kernel
theorem dX5_print_138 : decode cX5_print 138 = .ok (.getfield 32, 3) := by decide +kernel
theorem dX5_print_141 : decode cX5_print 141 = .ok (.iload 4, 2) := by decide +kernel
theorem dX5_print_143 : decode cX5_print 143 = .ok (.iaload, 1) := by decide +kernel
theorem dX5_print_144 : decode cX5_print 144 = .ok (.iaload, 1) := by decide +kernel
theorem dX5_print_145 : decode cX5_print 145 = .ok (.iconst 2, 1) := by decide +kernel
theorem dX5_print_146 : decode cX5_print 146 = .ok (.if_icmp .ne 59, 3) := by decide +kernel
theorem dX5_print_149 : decode cX5_print 149 = .ok (.iload 5, 2) := by decide +kernel
theorem dX5_print_151 : decode cX5_print 151 = .ok (.iload 9, 2) := by decide +kernel
theorem dX5_print_153 : decode cX5_print 153 = .ok (.iload 7, 2) := by decide +kernel
theorem dX5_print_155 : decode cX5_print 155 = .ok (.iadd, 1) := by decide +kernel
theorem dX5_print_156 : decode cX5_print 156 = .ok (.invokestatic 145, 3) := by decide +kernel
theorem dX5_print_159 : decode cX5_print 159 = .ok (.iload 5, 2) := by decide +kernel
theorem dX5_print_161 : decode cX5_print 161 = .ok (.iload 9, 2) := by decide +kernel
theorem dX5_print_163 : decode cX5_print 163 = .ok (.invokestatic 145, 3) := by decide +kernel
theorem dX5_print_166 : decode cX5_print 166 = .ok (.isub, 1) := by decide +kernel
theorem dX5_print_167 : decode cX5_print 167 = .ok (.istore 10, 2) := by decide +kernel
theorem dX5_print_169 : decode cX5_print 169 = .ok (.iload 7, 2) := by decide +kernel
theorem dX5_print_171 : decode cX5_print 171 = .ok (.ifCond .le 30, 3) := by decide +kernel
theorem dX5_print_174 : decode cX5_print 174 = .ok (.aload_n 0, 1) := by decide +kernel
theorem dX5_print_175 : decode cX5_print 175 = .ok (.getfield 66, 3) := by decide +kernel
theorem dX5_print_178 : decode cX5_print 178 = .ok (.iload_n 3, 1) := by decide +kernel
theorem dX5_print_179 : decode cX5_print 179 = .ok (.baload, 1) := by decide +kernel
theorem dX5_print_180 : decode cX5_print 180 = .ok (.ifCond .eq 21, 3) := by decide +kernel
theorem dX5_print_183 : decode cX5_print 183 = .ok (.iload 9, 2) := by decide +kernel
theorem dX5_print_185 : decode cX5_print 185 = .ok (.iload 5, 2) := by decide +kernel
theorem dX5_print_187 : decode cX5_print 187 = .ok (.irem, 1) := by decide +kernel
theorem dX5_print_188 : decode cX5_print 188 = .ok (.iconst 2, 1) := by decide +kernel
theorem dX5_print_189 : decode cX5_print 189 = .ok (.irem, 1) := by decide +kernel
theorem dX5_print_190 : decode cX5_print 190 = .ok (.iconst 1, 1) := by decide +kernel
theorem dX5_print_191 : decode cX5_print 191 = .ok (.if_icmp .ne 10, 3) := by decide +kernel
theorem dX5_print_194 : decode cX5_print 194 = .ok (.iload 10, 2) := by decide +kernel
theorem dX5_print_196 : decode cX5_print 196 = .ok (.iconst 1, 1) := by decide +kernel
theorem dX5_print_197 : decode cX5_print 197 = .ok (.iadd, 1) := by decide +kernel
theorem dX5_print_198 : decode cX5_print 198 = .ok (.goto 5, 3) := by decide +kernel
theorem dX5_print_201 : decode cX5_print 201 = .ok (.iload 10, 2) := by decide +kernel
theorem dX5_print_203 : decode cX5_print 203 = .ok (.istore 10, 2) := by decide +kernel
theorem dX5_print_205 : decode cX5_print 205 = .ok (.aload_n 0, 1) := by decide +kernel
theorem dX5_print_206 : decode cX5_print 206 = .ok (.getfield 28, 3) := by decide +kernel
theorem dX5_print_209 : decode cX5_print 209 = .ok (.iload 8, 2) := by decide +kernel
theorem dX5_print_211 : decode cX5_print 211 = .ok (.aload_n 0, 1) := by decide +kernel
theorem dX5_print_212 : decode cX5_print 212 = .ok (.getfield 28, 3) := by decide +kernel
theorem dX5_print_215 : decode cX5_print 215 = .ok (.iload 8, 2) := by decide +kernel
theorem dX5_print_217 : decode cX5_print 217 = .ok (.laload, 1) := by decide +kernel
theorem dX5_print_218 : decode cX5_print 218 = .ok (.iload 7, 2) := by decide +kernel
theorem dX5_print_220 : decode cX5_print 220 = .ok (.i2l, 1) := by decide +kernel
theorem dX5_print_221 : decode cX5_print 221 = .ok (.ladd, 1) := by decide +kernel
theorem dX5_print_222 : decode cX5_print 222 = .ok (.lastore, 1) := by decide +kernel
theorem dX5_print_223 : decode cX5_print 223 = .ok (.aload_n 0, 1) := by decide +kernel
theorem dX5_print_224 : decode cX5_print 224 = .ok (.getfield 28, 3) := by decide +kernel
theorem dX5_print_227 : decode cX5_print 227 = .ok (.iload 8, 2) := by decide +kernel
theorem dX5_print_229 : decode cX5_print 229 = .ok (.iconst 1, 1) := by decide +kernel
theorem dX5_print_230 : decode cX5_print 230 = .ok (.iadd, 1) := by decide +kernel
theorem dX5_print_231 : decode cX5_print 231 = .ok (.aload_n 0, 1) := by decide +kernel
theorem dX5_print_232 : decode cX5_print 232 = .ok (.getfield 28, 3) := by decide +kernel
theorem dX5_print_235 : decode cX5_print 235 = .ok (.iload 8, 2) := by decide +kernel
theorem dX5_print_237 : decode cX5_print 237 = .ok (.iconst 1, 1) := by decide +kernel
theorem dX5_print_238 : decode cX5_print 238 = .ok (.iadd, 1) := by decide +kernel
theorem dX5_print_239 : decode cX5_print 239 = .ok (.laload, 1) := by decide +kernel
theorem dX5_print_240 : decode cX5_print 240 = .ok (.iload 10, 2) := by decide +kernel
theorem dX5_print_242 : decode cX5_print 242 = .ok (.i2l, 1) := by decide +kernel
theorem dX5_print_243 : decode cX5_print 243 = .ok (.ladd, 1) := by decide +kernel
theorem dX5_print_244 : decode cX5_print 244 = .ok (.lastore, 1) := by decide +kernel
theorem dX5_print_245 : decode cX5_print 245 = .ok (.aload_n 0, 1) := by decide +kernel
theorem dX5_print_246 : decode cX5_print 246 = .ok (.getfield 63, 3) := by decide +kernel
theorem dX5_print_249 : decode cX5_print 249 = .ok (.iload_n 3, 1) := by decide +kernel
theorem dX5_print_250 : decode cX5_print 250 = .ok (.iload 9, 2) := by decide +kernel
theorem dX5_print_252 : decode cX5_print 252 = .ok (.iload 7, 2) := by decide +kernel
theorem dX5_print_254 : decode cX5_print 254 = .ok (.iadd, 1) := by decide +kernel
theorem dX5_print_255 : decode cX5_print 255 = .ok (.iastore, 1) := by decide +kernel
theorem dX5_print_256 : decode cX5_print 256 = .ok (.aload_n 0, 1) := by decide +kernel
theorem dX5_print_257 : decode cX5_print 257 = .ok (.getfield 66, 3) := by decide +kernel
theorem dX5_print_260 : decode cX5_print 260 = .ok (.iload_n 3, 1) := by decide +kernel
theorem dX5_print_261 : decode cX5_print 261 = .ok (.aload_n 0, 1) := by decide +kernel
theorem dX5_print_262 : decode cX5_print 262 = .ok (.getfield 66, 3) := by decide +kernel
theorem dX5_print_265 : decode cX5_print 265 = .ok (.iload_n 3, 1) := by decide +kernel
theorem dX5_print_266 : decode cX5_print 266 = .ok (.baload, 1) := by decide +kernel
theorem dX5_print_267 : decode cX5_print 267 = .ok (.ifCond .eq 12, 3) := by decide +kernel
theorem dX5_print_270 : decode cX5_print 270 = .ok (.iload 7, 2) := by decide +kernel
theorem dX5_print_272 : decode cX5_print 272 = .ok (.ifCond .ne 7, 3) := by decide +kernel
theorem dX5_print_275 : decode cX5_print 275 = .ok (.iconst 1, 1) := by decide +kernel
theorem dX5_print_276 : decode cX5_print 276 = .ok (.goto 4, 3) := by decide +kernel
theorem dX5_print_279 : decode cX5_print 279 = .ok (.iconst 0, 1) := by decide +kernel
theorem dX5_print_280 : decode cX5_print 280 = .ok (.bastore, 1) := by decide +kernel
theorem dX5_print_281 : decode cX5_print 281 = .ok (.aload_n 0, 1) := by decide +kernel
theorem dX5_print_282 : decode cX5_print 282 = .ok (.iload_n 3, 1) := by decide +kernel
theorem dX5_print_283 : decode cX5_print 283 = .ok (.invokevirtual 149, 3) := by decide +kernel
theorem dX5_print_286 : decode cX5_print 286 = .ok (.ifCond .eq 8, 3) := by decide +kernel
theorem dX5_print_289 : decode cX5_print 289 = .ok (.aload_n 0, 1) := by decide +kernel
theorem dX5_print_290 : decode cX5_print 290 = .ok (.iload_n 1, 1) := by decide +kernel
theorem dX5_print_291 : decode cX5_print 291 = .ok (.invokevirtual 152, 3) := by decide +kernel
theorem dX5_print_294 : decode cX5_print 294 = .ok (.iload 7, 2) := by decide +kernel
theorem dX5_print_296 : decode cX5_print 296 = .ok (.ireturn, 1) := by decide +kernel
set_option maxRecDepth 20000 in
theorem ggX5_fault_X5_isPrinter : GoodIn wsX5_fault wsX5_isPrinter := goodIn_r _ [16, 17, 18, 19, 15, 20, 26, 27, 28, 29, 30, 31, 32, 33, 34, 35, 36, 37, 38, 39, 40, 41, 42, 43, 44, 45, 46, 47, 48, 49, 50, 51, 52, 53, 54, 55] (by decide +kernel) (by decide +kernel)
set_option maxRecDepth 20000 in
theorem gX5_fault_X5_isPrinter : GoodIn wsX5_fault (wsV RX5 132 RX5 yX5_isPrinter wsX5_isPrinter) := goodIn_app (goodIn_of _ (by decide +kernel)) ggX5_fault_X5_isPrinter
set_option maxRecDepth 20000 in
theorem ggX5_fault_X5_leave : GoodIn wsX5_fault wsX5_leave := goodIn_r _ [24, 25, 2, 26, 27, 28, 29, 30, 31, 32, 33, 34, 35, 36, 37, 38, 39, 40, 41, 42, 43, 44, 45, 46, 47, 48, 49, 50, 51, 52, 53, 54, 55] (by decide +kernel) (by decide +kernel)
set_option maxRecDepth 20000 in
theorem gX5_fault_X5_leave : GoodIn wsX5_fault (wsV RX5 152 RX5 yX5_leave wsX5_leave) := goodIn_app (goodIn_of _ (by decide +kernel)) ggX5_fault_X5_leave
theorem dX5_fault_0 : decode cX5_fault 0 = .ok (.aload_n 0, 1) := by decide +kernel
theorem dX5_fault_1 : decode cX5_fault 1 = .ok (.aload_n 0, 1) := by decide +kernel
theorem dX5_fault_2 : decode cX5_fault 2 = .ok (.iload_n 1, 1) := by decide +kernel
theorem dX5_fault_3 : decode cX5_fault 3 = .ok (.invokevirtual 132, 3) := by decide +kernel
theorem dX5_fault_6 : decode cX5_fault 6 = .ok (.ifCond .eq 7, 3) := by decide +kernel
theorem dX5_fault_9 : decode cX5_fault 9 = .ok (.iconst 0, 1) := by decide +kernel
theorem dX5_fault_10 : decode cX5_fault 10 = .ok (.goto 4, 3) := by decide +kernel
theorem dX5_fault_13 : decode cX5_fault 13 = .ok (.iconst 1, 1) := by decide +kernel
theorem dX5_fault_14 : decode cX5_fault 14 = .ok (.putfield 82, 3) := by decide +kernel
theorem dX5_fault_17 : decode cX5_fault 17 = .ok (.aload_n 0, 1) := by decide +kernel
theorem dX5_fault_18 : decode cX5_fault 18 = .ok (.getfield 82, 3) := by decide +kernel
theorem dX5_fault_21 : decode cX5_fault 21 = .ok (.ifCond .gt 13, 3) := by decide +kernel
theorem dX5_fault_24 : decode cX5_fault 24 = .ok (.aload_n 0, 1) := by decide +kernel
theorem dX5_fault_25 : decode cX5_fault 25 = .ok (.getfield 19, 3) := by decide +kernel
theorem dX5_fault_28 : decode cX5_fault 28 = .ok (.iload_n 1, 1) := by decide +kernel
theorem dX5_fault_29 : decode cX5_fault 29 = .ok (.iaload, 1) := by decide +kernel
theorem dX5_fault_30 : decode cX5_fault 30 = .ok (.iconst (-1), 1) := by decide +kernel
theorem dX5_fault_31 : decode cX5_fault 31 = .ok (.if_icmp .ne 5, 3) := by decide +kernel
theorem dX5_fault_34 : decode cX5_fault 34 = .ok (.iconst 0, 1) := by decide +kernel
theorem dX5_fault_35 : decode cX5_fault 35 = .ok (.ireturn, 1) := by decide +kernel
theorem dX5_fault_36 : decode cX5_fault 36 = .ok (.aload_n 0, 1) := by decide +kernel
theorem dX5_fault_37 : decode cX5_fault 37 = .ok (.getfield 19, 3) := by decide +kernel
theorem dX5_fault_40 : decode cX5_fault 40 = .ok (.iload_n 1, 1) := by decide +kernel
theorem dX5_fault_41 : decode cX5_fault 41 = .ok (.iaload, 1) := by decide +kernel
theorem dX5_fault_42 : decode cX5_fault 42 = .ok (.istore_n 2, 1) := by decide +kernel
theorem dX5_fault_43 : decode cX5_fault 43 = .ok (.aload_n 0, 1) := by decide +kernel
theorem dX5_fault_44 : decode cX5_fault 44 = .ok (.getfield 51, 3) := by decide +kernel
theorem dX5_fault_47 : decode cX5_fault 47 = .ok (.iload_n 2, 1) := by decide +kernel
theorem dX5_fault_48 : decode cX5_fault 48 = .ok (.iaload, 1) := by decide +kernel
theorem dX5_fault_49 : decode cX5_fault 49 = .ok (.istore_n 3, 1) := by decide +kernel
theorem dX5_fault_50 : decode cX5_fault 50 = .ok (.aload_n 0, 1) := by decide +kernel
theorem dX5_fault_51 : decode cX5_fault 51 = .ok (.getfield 63, 3) := by decide +kernel
theorem dX5_fault_54 : decode cX5_fault 54 = .ok (.iload_n 2, 1) := by decide +kernel
theorem dX5_fault_55 : decode cX5_fault 55 = .ok (.iaload, 1) := by decide +kernel
theorem dX5_fault_56 : decode cX5_fault 56 = .ok (.aload_n 0, 1) := by decide +kernel
theorem dX5_fault_57 : decode cX5_fault 57 = .ok (.getfield 35, 3) := by decide +kernel
theorem dX5_fault_60 : decode cX5_fault 60 = .ok (.iload_n 3, 1) := by decide +kernel
theorem dX5_fault_61 : decode cX5_fault 61 = .ok (.iaload, 1) := by decide +kernel
theorem dX5_fault_62 : decode cX5_fault 62 = .ok (.irem, 1) := by decide +kernel
theorem dX5_fault_63 : decode cX5_fault 63 = .ok (.istore 4, 2) := by decide +kernel
theorem dX5_fault_65 : decode cX5_fault 65 = .ok (.iload 4, 2) := by decide +kernel
theorem dX5_fault_67 : decode cX5_fault 67 = .ok (.ifCond .le 83, 3) := by decide +kernel
theorem dX5_fault_70 : decode cX5_fault 70 = .ok (.aload_n 0, 1) := by decide +kernel
theorem dX5_fault_71 : decode cX5_fault 71 = .ok (.getfield 72, 3) := by decide +kernel
theorem dX5_fault_74 : decode cX5_fault 74 = .ok (.aload_n 0, 1) := by decide +kernel
theorem dX5_fault_75 : decode cX5_fault 75 = .ok (.getfield 156, 3) := by decide +kernel
theorem dX5_fault_78 : decode cX5_fault 78 = .ok (.iload_n 3, 1) := by decide +kernel
theorem dX5_fault_79 : decode cX5_fault 79 = .ok (.iastore, 1) := by decide +kernel
theorem dX5_fault_80 : decode cX5_fault 80 = .ok (.aload_n 0, 1) := by decide +kernel
theorem dX5_fault_81 : decode cX5_fault 81 = .ok (.getfield 75, 3) := by decide +kernel
theorem dX5_fault_84 : decode cX5_fault 84 = .ok (.aload_n 0, 1) := by decide +kernel
theorem dX5_fault_85 : decode cX5_fault 85 = .ok (.getfield 156, 3) := by decide +kernel
theorem dX5_fault_88 : decode cX5_fault 88 = .ok (.sipush 1000, 3) := by decide +kernel
theorem dX5_fault_91 : decode cX5_fault 91 = .ok (.aload_n 0, 1) := by decide +kernel
theorem dX5_fault_92 : decode cX5_fault 92 = .ok (.getfield 63, 3) := by decide +kernel
theorem dX5_fault_95 : decode cX5_fault 95 = .ok (.iload_n 2, 1) := by decide +kernel
theorem dX5_fault_96 : decode cX5_fault 96 = .ok (.iaload, 1) := by decide +kernel
theorem dX5_fault_97 : decode cX5_fault 97 = .ok (.aload_n 0, 1) := by decide +kernel
theorem dX5_fault_98 : decode cX5_fault 98 = .ok (.getfield 35, 3) := by decide +kernel
theorem dX5_fault_101 : decode cX5_fault 101 = .ok (.iload_n 3, 1) := by decide +kernel
theorem dX5_fault_102 : decode cX5_fault 102 = .ok (.iaload, 1) := by decide +kernel
theorem dX5_fault_103 : decode cX5_fault 103 = .ok (.idiv, 1) := by decide +kernel
theorem dX5_fault_104 : decode cX5_fault 104 = .ok (.iconst 1, 1) := by decide +kernel
theorem dX5_fault_105 : decode cX5_fault 105 = .ok (.iadd, 1) := by decide +kernel
theorem dX5_fault_106 : decode cX5_fault 106 = .ok (.imul, 1) := by decide +kernel
theorem dX5_fault_107 : decode cX5_fault 107 = .ok (.iload 4, 2) := by decide +kernel
theorem dX5_fault_109 : decode cX5_fault 109 = .ok (.iadd, 1) := by decide +kernel
theorem dX5_fault_110 : decode cX5_fault 110 = .ok (.iastore, 1) := by decide +kernel
theorem dX5_fault_111 : decode cX5_fault 111 = .ok (.aload_n 0, 1) := by decide +kernel
theorem dX5_fault_112 : decode cX5_fault 112 = .ok (.dup, 1) := by decide +kernel
theorem dX5_fault_113 : decode cX5_fault 113 = .ok (.getfield 156, 3) := by decide +kernel
theorem dX5_fault_116 : decode cX5_fault 116 = .ok (.iconst 1, 1) := by decide +kernel
theorem dX5_fault_117 : decode cX5_fault 117 = .ok (.iadd, 1) := by decide +kernel
theorem dX5_fault_118 : decode cX5_fault 118 = .ok (.putfield 156, 3) := by decide +kernel
theorem dX5_fault_121 : decode cX5_fault 121 = .ok (.aload_n 0, 1) := by decide +kernel
theorem dX5_fault_122 : decode cX5_fault 122 = .ok (.getfield 63, 3) := by decide +kernel
theorem dX5_fault_125 : decode cX5_fault 125 = .ok (.iload_n 2, 1) := by decide +kernel
theorem dX5_fault_126 : decode cX5_fault 126 = .ok (.dup2, 1) := by decide +kernel
theorem dX5_fault_127 : decode cX5_fault 127 = .ok (.iaload, 1) := by decide +kernel
theorem dX5_fault_128 : decode cX5_fault 128 = .ok (.iconst 1, 1) := by decide +kernel
theorem dX5_fault_129 : decode cX5_fault 129 = .ok (.isub, 1) := by decide +kernel
theorem dX5_fault_130 : decode cX5_fault 130 = .ok (.iastore, 1) := by decide +kernel
theorem dX5_fault_131 : decode cX5_fault 131 = .ok (.aload_n 0, 1) := by decide +kernel
theorem dX5_fault_132 : decode cX5_fault 132 = .ok (.getfield 28, 3) := by decide +kernel
theorem dX5_fault_135 : decode cX5_fault 135 = .ok (.iconst 4, 1) := by decide +kernel
theorem dX5_fault_136 : decode cX5_fault 136 = .ok (.aload_n 0, 1) := by decide +kernel
theorem dX5_fault_137 : decode cX5_fault 137 = .ok (.getfield 32, 3) := by decide +kernel
theorem dX5_fault_140 : decode cX5_fault 140 = .ok (.iload_n 3, 1) := by decide +kernel
theorem dX5_fault_141 : decode cX5_fault 141 = .ok (.iaload, 1) := by decide +kernel
theorem dX5_fault_142 : decode cX5_fault 142 = .ok (.imul, 1) := by decide +kernel
theorem dX5_fault_143 : decode cX5_fault 143 = .ok (.iconst 1, 1) := by decide +kernel
theorem dX5_fault_144 : decode cX5_fault 144 = .ok (.isub, 1) := by decide +kernel
theorem dX5_fault_145 : decode cX5_fault 145 = .ok (.dup2, 1) := by decide +kernel
theorem dX5_fault_146 : decode cX5_fault 146 = .ok (.laload, 1) := by decide +kernel
theorem dX5_fault_147 : decode cX5_fault 147 = .ok (.lconst 1, 1) := by decide +kernel
theorem dX5_fault_148 : decode cX5_fault 148 = .ok (.ladd, 1) := by decide +kernel
theorem dX5_fault_149 : decode cX5_fault 149 = .ok (.lastore, 1) := by decide +kernel
theorem dX5_fault_150 : decode cX5_fault 150 = .ok (.aload_n 0, 1) := by decide +kernel
theorem dX5_fault_151 : decode cX5_fault 151 = .ok (.iload_n 1, 1) := by decide +kernel
theorem dX5_fault_152 : decode cX5_fault 152 = .ok (.invokevirtual 152, 3) := by decide +kernel
theorem dX5_fault_155 : decode cX5_fault 155 = .ok (.aload_n 0, 1) := by decide +kernel
theorem dX5_fault_156 : decode cX5_fault 156 = .ok (.getfield 69, 3) := by decide +kernel
theorem dX5_fault_159 : decode cX5_fault 159 = .ok (.iload_n 2, 1) := by decide +kernel
theorem dX5_fault_160 : decode cX5_fault 160 = .ok (.iconst 1, 1) := by decide +kernel
theorem dX5_fault_161 : decode cX5_fault 161 = .ok (.bastore, 1) := by decide +kernel
theorem dX5_fault_162 : decode cX5_fault 162 = .ok (.aload_n 0, 1) := by decide +kernel
theorem dX5_fault_163 : decode cX5_fault 163 = .ok (.getfield 63, 3) := by decide +kernel
theorem dX5_fault_166 : decode cX5_fault 166 = .ok (.iload_n 2, 1) := by decide +kernel
theorem dX5_fault_167 : decode cX5_fault 167 = .ok (.iaload, 1) := by decide +kernel
theorem dX5_fault_168 : decode cX5_fault 168 = .ok (.aload_n 0, 1) := by decide +kernel
theorem dX5_fault_169 : decode cX5_fault 169 = .ok (.getfield 35, 3) := by decide +kernel
theorem dX5_fault_172 : decode cX5_fault 172 = .ok (.iload_n 3, 1) := by decide +kernel
theorem dX5_fault_173 : decode cX5_fault 173 = .ok (.iaload, 1) := by decide +kernel
theorem dX5_fault_174 : decode cX5_fault 174 = .ok (.irem, 1) := by decide +kernel
theorem dX5_fault_175 : decode cX5_fault 175 = .ok (.iconst 1, 1) := by decide +kernel
theorem dX5_fault_176 : decode cX5_fault 176 = .ok (.iadd, 1) := by decide +kernel
theorem dX5_fault_177 : decode cX5_fault 177 = .ok (.ireturn, 1) := by decide +kernel
set_option maxRecDepth 20000 in
theorem ggX5_hold_X5_isJob : GoodIn wsX5_hold wsX5_isJob := goodIn_r _ [7, 8, 9, 10, 6, 11, 12, 13, 14, 15, 16, 17, 18, 19, 20, 21, 22, 23, 24, 25, 26, 27, 28, 29, 30, 31, 32, 33, 34, 35, 36, 37, 38, 39, 40, 41] (by decide +kernel) (by decide +kernel)
set_option maxRecDepth 20000 in
theorem gX5_hold_X5_isJob : GoodIn wsX5_hold (wsV RX5 159 RX5 yX5_isJob wsX5_isJob) := goodIn_app (goodIn_of _ (by decide +kernel)) ggX5_hold_X5_isJob
theorem dX5_hold_0 : decode cX5_hold 0 = .ok (.aload_n 0, 1) := by decide +kernel
theorem dX5_hold_1 : decode cX5_hold 1 = .ok (.aload_n 0, 1) := by decide +kernel
theorem dX5_hold_2 : decode cX5_hold 2 = .ok (.iload_n 1, 1) := by decide +kernel
theorem dX5_hold_3 : decode cX5_hold 3 = .ok (.invokevirtual 159, 3) := by decide +kernel
theorem dX5_hold_6 : decode cX5_hold 6 = .ok (.ifCond .eq 7, 3) := by decide +kernel
theorem dX5_hold_9 : decode cX5_hold 9 = .ok (.iconst 0, 1) := by decide +kernel
theorem dX5_hold_10 : decode cX5_hold 10 = .ok (.goto 4, 3) := by decide +kernel
theorem dX5_hold_13 : decode cX5_hold 13 = .ok (.iconst 1, 1) := by decide +kernel
theorem dX5_hold_14 : decode cX5_hold 14 = .ok (.putfield 82, 3) := by decide +kernel
theorem dX5_hold_17 : decode cX5_hold 17 = .ok (.aload_n 0, 1) := by decide +kernel
theorem dX5_hold_18 : decode cX5_hold 18 = .ok (.getfield 82, 3) := by decide +kernel
theorem dX5_hold_21 : decode cX5_hold 21 = .ok (.ifCond .le 5, 3) := by decide +kernel
theorem dX5_hold_24 : decode cX5_hold 24 = .ok (.iconst 0, 1) := by decide +kernel
theorem dX5_hold_25 : decode cX5_hold 25 = .ok (.ireturn, 1) := by decide +kernel
theorem dX5_hold_26 : decode cX5_hold 26 = .ok (.aload_n 0, 1) := by decide +kernel
theorem dX5_hold_27 : decode cX5_hold 27 = .ok (.getfield 44, 3) := by decide +kernel
theorem dX5_hold_30 : decode cX5_hold 30 = .ok (.iload_n 1, 1) := by decide +kernel
theorem dX5_hold_31 : decode cX5_hold 31 = .ok (.baload, 1) := by decide +kernel
theorem dX5_hold_32 : decode cX5_hold 32 = .ok (.ifCond .eq 7, 3) := by decide +kernel
theorem dX5_hold_35 : decode cX5_hold 35 = .ok (.iconst 1, 1) := by decide +kernel
theorem dX5_hold_36 : decode cX5_hold 36 = .ok (.goto 4, 3) := by decide +kernel
theorem dX5_hold_39 : decode cX5_hold 39 = .ok (.iconst 0, 1) := by decide +kernel
theorem dX5_hold_40 : decode cX5_hold 40 = .ok (.istore_n 3, 1) := by decide +kernel
theorem dX5_hold_41 : decode cX5_hold 41 = .ok (.aload_n 0, 1) := by decide +kernel
theorem dX5_hold_42 : decode cX5_hold 42 = .ok (.getfield 44, 3) := by decide +kernel
theorem dX5_hold_45 : decode cX5_hold 45 = .ok (.iload_n 1, 1) := by decide +kernel
theorem dX5_hold_46 : decode cX5_hold 46 = .ok (.iload_n 2, 1) := by decide +kernel
theorem dX5_hold_47 : decode cX5_hold 47 = .ok (.bastore, 1) := by decide +kernel
theorem dX5_hold_48 : decode cX5_hold 48 = .ok (.iload_n 3, 1) := by decide +kernel
theorem dX5_hold_49 : decode cX5_hold 49 = .ok (.ireturn, 1) := by decide +kernel
set_option maxRecDepth 20000 in
theorem ggX5_stateOf_X5_isOver : GoodIn wsX5_stateOf wsX5_isOver := goodIn_r _ [9, 10, 11, 12, 3, 13, 14, 15, 16, 17, 18, 19, 20, 21, 22, 23, 24, 25, 26, 27, 28, 29, 30, 31, 32, 33, 34, 35, 36, 37, 38, 39, 40, 41, 42] (by decide +kernel) (by decide +kernel)
set_option maxRecDepth 20000 in
theorem gX5_stateOf_X5_isOver : GoodIn wsX5_stateOf (wsV RX5 149 RX5 yX5_isOver wsX5_isOver) := goodIn_app (goodIn_of _ (by decide +kernel)) ggX5_stateOf_X5_isOver
theorem dX5_stateOf_0 : decode cX5_stateOf 0 = .ok (.aload_n 0, 1) := by decide +kernel
theorem dX5_stateOf_1 : decode cX5_stateOf 1 = .ok (.getfield 48, 3) := by decide +kernel
theorem dX5_stateOf_4 : decode cX5_stateOf 4 = .ok (.iload_n 1, 1) := by decide +kernel
theorem dX5_stateOf_5 : decode cX5_stateOf 5 = .ok (.baload, 1) := by decide +kernel
theorem dX5_stateOf_6 : decode cX5_stateOf 6 = .ok (.ifCond .eq 5, 3) := by decide +kernel
theorem dX5_stateOf_9 : decode cX5_stateOf 9 = .ok (.iconst 3, 1) := by decide +kernel
theorem dX5_stateOf_10 : decode cX5_stateOf 10 = .ok (.ireturn, 1) := by decide +kernel
theorem dX5_stateOf_11 : decode cX5_stateOf 11 = .ok (.iconst 0, 1) := by decide +kernel
theorem dX5_stateOf_12 : decode cX5_stateOf 12 = .ok (.istore_n 2, 1) := by decide +kernel
theorem dX5_stateOf_13 : decode cX5_stateOf 13 = .ok (.iconst 1, 1) := by decide +kernel
theorem dX5_stateOf_14 : decode cX5_stateOf 14 = .ok (.istore_n 3, 1) := by decide +kernel
theorem dX5_stateOf_15 : decode cX5_stateOf 15 = .ok (.iconst 0, 1) := by decide +kernel
theorem dX5_stateOf_16 : decode cX5_stateOf 16 = .ok (.istore 4, 2) := by decide +kernel
theorem dX5_stateOf_18 : decode cX5_stateOf 18 = .ok (.iload 4, 2) := by decide +kernel
theorem dX5_stateOf_20 : decode cX5_stateOf 20 = .ok (.aload_n 0, 1) := by decide +kernel
theorem dX5_stateOf_21 : decode cX5_stateOf 21 = .ok (.getfield 101, 3) := by decide +kernel
theorem dX5_stateOf_24 : decode cX5_stateOf 24 = .ok (.if_icmp .ge 59, 3) := by decide +kernel
theorem dX5_stateOf_27 : decode cX5_stateOf 27 = .ok (.aload_n 0, 1) := by decide +kernel
theorem dX5_stateOf_28 : decode cX5_stateOf 28 = .ok (.getfield 51, 3) := by decide +kernel
theorem dX5_stateOf_31 : decode cX5_stateOf 31 = .ok (.iload 4, 2) := by decide +kernel
theorem dX5_stateOf_33 : decode cX5_stateOf 33 = .ok (.iaload, 1) := by decide +kernel
theorem dX5_stateOf_34 : decode cX5_stateOf 34 = .ok (.iload_n 1, 1) := by decide +kernel
theorem dX5_stateOf_35 : decode cX5_stateOf 35 = .ok (.if_icmp .ne 42, 3) := by decide +kernel
theorem dX5_stateOf_38 : decode cX5_stateOf 38 = .ok (.iload_n 2, 1) := by decide +kernel
theorem dX5_stateOf_39 : decode cX5_stateOf 39 = .ok (.ifCond .ne 13, 3) := by decide +kernel
theorem dX5_stateOf_42 : decode cX5_stateOf 42 = .ok (.aload_n 0, 1) := by decide +kernel
theorem dX5_stateOf_43 : decode cX5_stateOf 43 = .ok (.getfield 60, 3) := by decide +kernel
theorem dX5_stateOf_46 : decode cX5_stateOf 46 = .ok (.iload 4, 2) := by decide +kernel
theorem dX5_stateOf_48 : decode cX5_stateOf 48 = .ok (.iaload, 1) := by decide +kernel
theorem dX5_stateOf_49 : decode cX5_stateOf 49 = .ok (.ifCond .le 7, 3) := by decide +kernel
theorem dX5_stateOf_52 : decode cX5_stateOf 52 = .ok (.iconst 1, 1) := by decide +kernel
theorem dX5_stateOf_53 : decode cX5_stateOf 53 = .ok (.goto 4, 3) := by decide +kernel
theorem dX5_stateOf_56 : decode cX5_stateOf 56 = .ok (.iconst 0, 1) := by decide +kernel
theorem dX5_stateOf_57 : decode cX5_stateOf 57 = .ok (.istore_n 2, 1) := by decide +kernel
theorem dX5_stateOf_58 : decode cX5_stateOf 58 = .ok (.iload_n 3, 1) := by decide +kernel
theorem dX5_stateOf_59 : decode cX5_stateOf 59 = .ok (.ifCond .eq 16, 3) := by decide +kernel
theorem dX5_stateOf_62 : decode cX5_stateOf 62 = .ok (.aload_n 0, 1) := by decide +kernel
theorem dX5_stateOf_63 : decode cX5_stateOf 63 = .ok (.iload 4, 2) := by decide +kernel
theorem dX5_stateOf_65 : decode cX5_stateOf 65 = .ok (.invokevirtual 149, 3) := by decide +kernel
theorem dX5_stateOf_68 : decode cX5_stateOf 68 = .ok (.ifCond .eq 7, 3) := by decide +kernel
theorem dX5_stateOf_71 : decode cX5_stateOf 71 = .ok (.iconst 1, 1) := by decide +kernel
theorem dX5_stateOf_72 : decode cX5_stateOf 72 = .ok (.goto 4, 3) := by decide +kernel
theorem dX5_stateOf_75 : decode cX5_stateOf 75 = .ok (.iconst 0, 1) := by decide +kernel
theorem dX5_stateOf_76 : decode cX5_stateOf 76 = .ok (.istore_n 3, 1) := by decide +kernel
theorem dX5_stateOf_77 : decode cX5_stateOf 77 = .ok (.iinc 4 1, 3) := by decide +kernel
theorem dX5_stateOf_80 : decode cX5_stateOf 80 = .ok (.goto (-62), 3) := by decide +kernel
theorem dX5_stateOf_83 : decode cX5_stateOf 83 = .ok (.iload_n 2, 1) := by decide +kernel
theorem dX5_stateOf_84 : decode cX5_stateOf 84 = .ok (.ifCond .eq 7, 3) := by decide +kernel
theorem dX5_stateOf_87 : decode cX5_stateOf 87 = .ok (.iconst 1, 1) := by decide +kernel
theorem dX5_stateOf_88 : decode cX5_stateOf 88 = .ok (.goto 12, 3) := by decide +kernel
theorem dX5_stateOf_91 : decode cX5_stateOf 91 = .ok (.iload_n 3, 1) := by decide +kernel
theorem dX5_stateOf_92 : decode cX5_stateOf 92 = .ok (.ifCond .eq 7, 3) := by decide +kernel
theorem dX5_stateOf_95 : decode cX5_stateOf 95 = .ok (.iconst 2, 1) := by decide +kernel
theorem dX5_stateOf_96 : decode cX5_stateOf 96 = .ok (.goto 4, 3) := by decide +kernel
theorem dX5_stateOf_99 : decode cX5_stateOf 99 = .ok (.iconst 0, 1) := by decide +kernel
theorem dX5_stateOf_100 : decode cX5_stateOf 100 = .ok (.ireturn, 1) := by decide +kernel
set_option maxRecDepth 20000 in
theorem ggX5_cancel_X5_isJob : GoodIn wsX5_cancel wsX5_isJob := goodIn_r _ [11, 12, 13, 14, 10, 15, 32, 33, 34, 35, 36, 37, 38, 39, 40, 41, 42, 43, 44, 45, 46, 47, 48, 49, 50, 51, 52, 53, 54, 55, 56, 57, 58, 59, 60, 61] (by decide +kernel) (by decide +kernel)
set_option maxRecDepth 20000 in
theorem gX5_cancel_X5_isJob : GoodIn wsX5_cancel (wsV RX5 159 RX5 yX5_isJob wsX5_isJob) := goodIn_app (goodIn_of _ (by decide +kernel)) ggX5_cancel_X5_isJob
set_option maxRecDepth 20000 in
theorem ggX5_cancel_X5_stateOf : GoodIn wsX5_cancel wsX5_stateOf := goodIn_r _ [19, 6, 2, 3, 5, 20, 21, 22, 10, 23, 24, 25, 26, 32, 33, 34, 35, 36, 37, 38, 39, 40, 41, 42, 43, 44, 45, 46, 47, 48, 49, 50, 51, 52, 53, 54, 55, 56, 57, 58, 59, 60, 61] (by decide +kernel) (by decide +kernel)
set_option maxRecDepth 20000 in
theorem gX5_cancel_X5_stateOf : GoodIn wsX5_cancel (wsV RX5 162 RX5 yX5_stateOf wsX5_stateOf) := goodIn_app (goodIn_of _ (by decide +kernel)) ggX5_cancel_X5_stateOf
set_option maxRecDepth 20000 in
theorem ggX5_cancel_X5_isOver : GoodIn wsX5_cancel wsX5_isOver := goodIn_r _ [23, 24, 25, 26, 3, 32, 33, 34, 35, 36, 37, 38, 39, 40, 41, 42, 43, 44, 45, 46, 47, 48, 49, 50, 51, 52, 53, 54, 55, 56, 57, 58, 59, 60, 61] (by decide +kernel) (by decide +kernel)
set_option maxRecDepth 20000 in
theorem gX5_cancel_X5_isOver : GoodIn wsX5_cancel (wsV RX5 149 RX5 yX5_isOver wsX5_isOver) := goodIn_app (goodIn_of _ (by decide +kernel)) ggX5_cancel_X5_isOver
set_option maxRecDepth 20000 in
theorem ggX5_cancel_X5_leave : GoodIn wsX5_cancel wsX5_leave := goodIn_r _ [30, 5, 31, 32, 33, 34, 35, 36, 37, 38, 39, 40, 41, 42, 43, 44, 45, 46, 47, 48, 49, 50, 51, 52, 53, 54, 55, 56, 57, 58, 59, 60, 61] (by decide +kernel) (by decide +kernel)
set_option maxRecDepth 20000 in
theorem gX5_cancel_X5_leave : GoodIn wsX5_cancel (wsV RX5 152 RX5 yX5_leave wsX5_leave) := goodIn_app (goodIn_of _ (by decide +kernel)) ggX5_cancel_X5_leave
theorem dX5_cancel_0 : decode cX5_cancel 0 = .ok (.aload_n 0, 1) := by decide +kernel
theorem dX5_cancel_1 : decode cX5_cancel 1 = .ok (.aload_n 0, 1) := by decide +kernel
theorem dX5_cancel_2 : decode cX5_cancel 2 = .ok (.iload_n 1, 1) := by decide +kernel
theorem dX5_cancel_3 : decode cX5_cancel 3 = .ok (.invokevirtual 159, 3) := by decide +kernel
theorem dX5_cancel_6 : decode cX5_cancel 6 = .ok (.ifCond .eq 7, 3) := by decide +kernel
theorem dX5_cancel_9 : decode cX5_cancel 9 = .ok (.iconst 0, 1) := by decide +kernel
theorem dX5_cancel_10 : decode cX5_cancel 10 = .ok (.goto 4, 3) := by decide +kernel
theorem dX5_cancel_13 : decode cX5_cancel 13 = .ok (.iconst 1, 1) := by decide +kernel
theorem dX5_cancel_14 : decode cX5_cancel 14 = .ok (.putfield 82, 3) := by decide +kernel
theorem dX5_cancel_17 : decode cX5_cancel 17 = .ok (.aload_n 0, 1) := by decide +kernel
theorem dX5_cancel_18 : decode cX5_cancel 18 = .ok (.getfield 82, 3) := by decide +kernel
theorem dX5_cancel_21 : decode cX5_cancel 21 = .ok (.ifCond .gt 12, 3) := by decide +kernel
theorem dX5_cancel_24 : decode cX5_cancel 24 = .ok (.aload_n 0, 1) := by decide +kernel
theorem dX5_cancel_25 : decode cX5_cancel 25 = .ok (.iload_n 1, 1) := by decide +kernel
theorem dX5_cancel_26 : decode cX5_cancel 26 = .ok (.invokevirtual 162, 3) := by decide +kernel
theorem dX5_cancel_29 : decode cX5_cancel 29 = .ok (.iconst 1, 1) := by decide +kernel
theorem dX5_cancel_30 : decode cX5_cancel 30 = .ok (.if_icmp .le 5, 3) := by decide +kernel
theorem dX5_cancel_33 : decode cX5_cancel 33 = .ok (.iconst 0, 1) := by decide +kernel
theorem dX5_cancel_34 : decode cX5_cancel 34 = .ok (.ireturn, 1) := by decide +kernel
theorem dX5_cancel_35 : decode cX5_cancel 35 = .ok (.iconst 0, 1) := by decide +kernel
theorem dX5_cancel_36 : decode cX5_cancel 36 = .ok (.istore_n 2, 1) := by decide +kernel
theorem dX5_cancel_37 : decode cX5_cancel 37 = .ok (.iconst 0, 1) := by decide +kernel
theorem dX5_cancel_38 : decode cX5_cancel 38 = .ok (.istore_n 3, 1) := by decide +kernel
theorem dX5_cancel_39 : decode cX5_cancel 39 = .ok (.iload_n 3, 1) := by decide +kernel
theorem dX5_cancel_40 : decode cX5_cancel 40 = .ok (.aload_n 0, 1) := by decide +kernel
theorem dX5_cancel_41 : decode cX5_cancel 41 = .ok (.getfield 101, 3) := by decide +kernel
theorem dX5_cancel_44 : decode cX5_cancel 44 = .ok (.if_icmp .ge 56, 3) := by decide +kernel
theorem dX5_cancel_47 : decode cX5_cancel 47 = .ok (.aload_n 0, 1) := by decide +kernel
theorem dX5_cancel_48 : decode cX5_cancel 48 = .ok (.getfield 51, 3) := by decide +kernel
theorem dX5_cancel_51 : decode cX5_cancel 51 = .ok (.iload_n 3, 1) := by decide +kernel
theorem dX5_cancel_52 : decode cX5_cancel 52 = .ok (.iaload, 1) := by decide +kernel
theorem dX5_cancel_53 : decode cX5_cancel 53 = .ok (.iload_n 1, 1) := by decide +kernel
theorem dX5_cancel_54 : decode cX5_cancel 54 = .ok (.if_icmp .ne 40, 3) := by decide +kernel
theorem dX5_cancel_57 : decode cX5_cancel 57 = .ok (.aload_n 0, 1) := by decide +kernel
theorem dX5_cancel_58 : decode cX5_cancel 58 = .ok (.iload_n 3, 1) := by decide +kernel
theorem dX5_cancel_59 : decode cX5_cancel 59 = .ok (.invokevirtual 149, 3) := by decide +kernel
theorem dX5_cancel_62 : decode cX5_cancel 62 = .ok (.ifCond .ne 32, 3) := by decide +kernel
theorem dX5_cancel_65 : decode cX5_cancel 65 = .ok (.iinc 2 1, 3) := by decide +kernel
theorem dX5_cancel_68 : decode cX5_cancel 68 = .ok (.aload_n 0, 1) := by decide +kernel
theorem dX5_cancel_69 : decode cX5_cancel 69 = .ok (.getfield 69, 3) := by decide +kernel
theorem dX5_cancel_72 : decode cX5_cancel 72 = .ok (.iload_n 3, 1) := by decide +kernel
theorem dX5_cancel_73 : decode cX5_cancel 73 = .ok (.iconst 0, 1) := by decide +kernel
theorem dX5_cancel_74 : decode cX5_cancel 74 = .ok (.bastore, 1) := by decide +kernel
theorem dX5_cancel_75 : decode cX5_cancel 75 = .ok (.aload_n 0, 1) := by decide +kernel
theorem dX5_cancel_76 : decode cX5_cancel 76 = .ok (.getfield 60, 3) := by decide +kernel
theorem dX5_cancel_79 : decode cX5_cancel 79 = .ok (.iload_n 3, 1) := by decide +kernel
theorem dX5_cancel_80 : decode cX5_cancel 80 = .ok (.iaload, 1) := by decide +kernel
theorem dX5_cancel_81 : decode cX5_cancel 81 = .ok (.ifCond .le 13, 3) := by decide +kernel
theorem dX5_cancel_84 : decode cX5_cancel 84 = .ok (.aload_n 0, 1) := by decide +kernel
theorem dX5_cancel_85 : decode cX5_cancel 85 = .ok (.aload_n 0, 1) := by decide +kernel
theorem dX5_cancel_86 : decode cX5_cancel 86 = .ok (.getfield 60, 3) := by decide +kernel
theorem dX5_cancel_89 : decode cX5_cancel 89 = .ok (.iload_n 3, 1) := by decide +kernel
theorem dX5_cancel_90 : decode cX5_cancel 90 = .ok (.iaload, 1) := by decide +kernel
theorem dX5_cancel_91 : decode cX5_cancel 91 = .ok (.invokevirtual 152, 3) := by decide +kernel
theorem dX5_cancel_94 : decode cX5_cancel 94 = .ok (.iinc 3 1, 3) := by decide +kernel
theorem dX5_cancel_97 : decode cX5_cancel 97 = .ok (.goto (-58), 3) := by decide +kernel
theorem dX5_cancel_100 : decode cX5_cancel 100 = .ok (.aload_n 0, 1) := by decide +kernel
theorem dX5_cancel_101 : decode cX5_cancel 101 = .ok (.getfield 48, 3) := by decide +kernel
theorem dX5_cancel_104 : decode cX5_cancel 104 = .ok (.iload_n 1, 1) := by decide +kernel
theorem dX5_cancel_105 : decode cX5_cancel 105 = .ok (.iconst 1, 1) := by decide +kernel
theorem dX5_cancel_106 : decode cX5_cancel 106 = .ok (.bastore, 1) := by decide +kernel
theorem dX5_cancel_107 : decode cX5_cancel 107 = .ok (.iload_n 2, 1) := by decide +kernel
theorem dX5_cancel_108 : decode cX5_cancel 108 = .ok (.ireturn, 1) := by decide +kernel
set_option maxRecDepth 20000 in
theorem ggX5_state_X5_isJob : GoodIn wsX5_state wsX5_isJob := goodIn_r _ [12, 13, 14, 15, 11, 16, 28, 29, 30, 31, 32, 33, 34, 35, 36, 37, 38, 39, 40, 41, 42, 43, 44, 45, 46, 47, 48, 49, 50, 51, 52, 53, 54, 55, 56, 57] (by decide +kernel) (by decide +kernel)
set_option maxRecDepth 20000 in
theorem gX5_state_X5_isJob : GoodIn wsX5_state (wsV RX5 159 RX5 yX5_isJob wsX5_isJob) := goodIn_app (goodIn_of _ (by decide +kernel)) ggX5_state_X5_isJob
set_option maxRecDepth 20000 in
theorem ggX5_state_X5_in : GoodIn wsX5_state wsX5_in := goodIn_r _ [16] (by decide +kernel) (by decide +kernel)
set_option maxRecDepth 20000 in
theorem gX5_state_X5_in : GoodIn wsX5_state (va_wsS RX5 87 yX5_in wsX5_in) := goodIn_app (goodIn_of _ (by decide +kernel)) ggX5_state_X5_in
set_option maxRecDepth 20000 in
theorem ggX5_state_X5_stateOf : GoodIn wsX5_state wsX5_stateOf := goodIn_r _ [20, 21, 4, 5, 22, 23, 24, 25, 11, 26, 6, 27, 7, 28, 29, 30, 31, 32, 33, 34, 35, 36, 37, 38, 39, 40, 41, 42, 43, 44, 45, 46, 47, 48, 49, 50, 51, 52, 53, 54, 55, 56, 57] (by decide +kernel) (by decide +kernel)
set_option maxRecDepth 20000 in
theorem gX5_state_X5_stateOf : GoodIn wsX5_state (wsV RX5 162 RX5 yX5_stateOf wsX5_stateOf) := goodIn_app (goodIn_of _ (by decide +kernel)) ggX5_state_X5_stateOf
theorem dX5_state_0 : decode cX5_state 0 = .ok (.aload_n 0, 1) := by decide +kernel
theorem dX5_state_1 : decode cX5_state 1 = .ok (.aload_n 0, 1) := by decide +kernel
theorem dX5_state_2 : decode cX5_state 2 = .ok (.iload_n 1, 1) := by decide +kernel
theorem dX5_state_3 : decode cX5_state 3 = .ok (.invokevirtual 159, 3) := by decide +kernel
theorem dX5_state_6 : decode cX5_state 6 = .ok (.ifCond .ne 7, 3) := by decide +kernel
theorem dX5_state_9 : decode cX5_state 9 = .ok (.iconst 1, 1) := by decide +kernel
theorem dX5_state_10 : decode cX5_state 10 = .ok (.goto 20, 3) := by decide +kernel
theorem dX5_state_13 : decode cX5_state 13 = .ok (.iload_n 2, 1) := by decide +kernel
theorem dX5_state_14 : decode cX5_state 14 = .ok (.i2l, 1) := by decide +kernel
theorem dX5_state_15 : decode cX5_state 15 = .ok (.lconst 0, 1) := by decide +kernel
theorem dX5_state_16 : decode cX5_state 16 = .ok (.ldc2_w 165, 3) := by decide +kernel
theorem dX5_state_19 : decode cX5_state 19 = .ok (.invokestatic 87, 3) := by decide +kernel
theorem dX5_state_22 : decode cX5_state 22 = .ok (.ifCond .ne 7, 3) := by decide +kernel
theorem dX5_state_25 : decode cX5_state 25 = .ok (.iconst 2, 1) := by decide +kernel
theorem dX5_state_26 : decode cX5_state 26 = .ok (.goto 4, 3) := by decide +kernel
theorem dX5_state_29 : decode cX5_state 29 = .ok (.iconst 0, 1) := by decide +kernel
theorem dX5_state_30 : decode cX5_state 30 = .ok (.putfield 82, 3) := by decide +kernel
theorem dX5_state_33 : decode cX5_state 33 = .ok (.aload_n 0, 1) := by decide +kernel
theorem dX5_state_34 : decode cX5_state 34 = .ok (.getfield 82, 3) := by decide +kernel
theorem dX5_state_37 : decode cX5_state 37 = .ok (.ifCond .le 5, 3) := by decide +kernel
theorem dX5_state_40 : decode cX5_state 40 = .ok (.iconst 0, 1) := by decide +kernel
theorem dX5_state_41 : decode cX5_state 41 = .ok (.ireturn, 1) := by decide +kernel
theorem dX5_state_42 : decode cX5_state 42 = .ok (.iload_n 2, 1) := by decide +kernel
theorem dX5_state_43 : decode cX5_state 43 = .ok (.ifCond .ne 9, 3) := by decide +kernel
theorem dX5_state_46 : decode cX5_state 46 = .ok (.aload_n 0, 1) := by decide +kernel
theorem dX5_state_47 : decode cX5_state 47 = .ok (.iload_n 1, 1) := by decide +kernel
theorem dX5_state_48 : decode cX5_state 48 = .ok (.invokevirtual 162, 3) := by decide +kernel
theorem dX5_state_51 : decode cX5_state 51 = .ok (.ireturn, 1) := by decide +kernel
theorem dX5_state_52 : decode cX5_state 52 = .ok (.iload_n 2, 1) := by decide +kernel
theorem dX5_state_53 : decode cX5_state 53 = .ok (.iconst 4, 1) := by decide +kernel
theorem dX5_state_54 : decode cX5_state 54 = .ok (.if_icmp .ne 18, 3) := by decide +kernel
theorem dX5_state_57 : decode cX5_state 57 = .ok (.aload_n 0, 1) := by decide +kernel
theorem dX5_state_58 : decode cX5_state 58 = .ok (.getfield 44, 3) := by decide +kernel
theorem dX5_state_61 : decode cX5_state 61 = .ok (.iload_n 1, 1) := by decide +kernel
theorem dX5_state_62 : decode cX5_state 62 = .ok (.baload, 1) := by decide +kernel
theorem dX5_state_63 : decode cX5_state 63 = .ok (.ifCond .eq 7, 3) := by decide +kernel
theorem dX5_state_66 : decode cX5_state 66 = .ok (.iconst 1, 1) := by decide +kernel
theorem dX5_state_67 : decode cX5_state 67 = .ok (.goto 4, 3) := by decide +kernel
theorem dX5_state_70 : decode cX5_state 70 = .ok (.iconst 0, 1) := by decide +kernel
theorem dX5_state_71 : decode cX5_state 71 = .ok (.ireturn, 1) := by decide +kernel
theorem dX5_state_72 : decode cX5_state 72 = .ok (.iconst 0, 1) := by decide +kernel
theorem dX5_state_73 : decode cX5_state 73 = .ok (.istore_n 3, 1) := by decide +kernel
theorem dX5_state_74 : decode cX5_state 74 = .ok (.iconst 0, 1) := by decide +kernel
theorem dX5_state_75 : decode cX5_state 75 = .ok (.istore 4, 2) := by decide +kernel
theorem dX5_state_77 : decode cX5_state 77 = .ok (.iload 4, 2) := by decide +kernel
theorem dX5_state_79 : decode cX5_state 79 = .ok (.aload_n 0, 1) := by decide +kernel
theorem dX5_state_80 : decode cX5_state 80 = .ok (.getfield 101, 3) := by decide +kernel
theorem dX5_state_83 : decode cX5_state 83 = .ok (.if_icmp .ge 61, 3) := by decide +kernel
theorem dX5_state_86 : decode cX5_state 86 = .ok (.aload_n 0, 1) := by decide +kernel
theorem dX5_state_87 : decode cX5_state 87 = .ok (.getfield 51, 3) := by decide +kernel
theorem dX5_state_90 : decode cX5_state 90 = .ok (.iload 4, 2) := by decide +kernel
theorem dX5_state_92 : decode cX5_state 92 = .ok (.iaload, 1) := by decide +kernel
theorem dX5_state_93 : decode cX5_state 93 = .ok (.iload_n 1, 1) := by decide +kernel
theorem dX5_state_94 : decode cX5_state 94 = .ok (.if_icmp .ne 44, 3) := by decide +kernel
theorem dX5_state_97 : decode cX5_state 97 = .ok (.iload_n 3, 1) := by decide +kernel
theorem dX5_state_98 : decode cX5_state 98 = .ok (.iload_n 2, 1) := by decide +kernel
theorem dX5_state_99 : decode cX5_state 99 = .ok (.iconst 1, 1) := by decide +kernel
theorem dX5_state_100 : decode cX5_state 100 = .ok (.if_icmp .ne 13, 3) := by decide +kernel
theorem dX5_state_103 : decode cX5_state 103 = .ok (.aload_n 0, 1) := by decide +kernel
theorem dX5_state_104 : decode cX5_state 104 = .ok (.getfield 63, 3) := by decide +kernel
theorem dX5_state_107 : decode cX5_state 107 = .ok (.iload 4, 2) := by decide +kernel
theorem dX5_state_109 : decode cX5_state 109 = .ok (.iaload, 1) := by decide +kernel
theorem dX5_state_110 : decode cX5_state 110 = .ok (.goto 26, 3) := by decide +kernel
theorem dX5_state_113 : decode cX5_state 113 = .ok (.iload_n 2, 1) := by decide +kernel
theorem dX5_state_114 : decode cX5_state 114 = .ok (.iconst 2, 1) := by decide +kernel
theorem dX5_state_115 : decode cX5_state 115 = .ok (.if_icmp .ne 20, 3) := by decide +kernel
theorem dX5_state_118 : decode cX5_state 118 = .ok (.aload_n 0, 1) := by decide +kernel
theorem dX5_state_119 : decode cX5_state 119 = .ok (.getfield 63, 3) := by decide +kernel
theorem dX5_state_122 : decode cX5_state 122 = .ok (.iload 4, 2) := by decide +kernel
theorem dX5_state_124 : decode cX5_state 124 = .ok (.iaload, 1) := by decide +kernel
theorem dX5_state_125 : decode cX5_state 125 = .ok (.aload_n 0, 1) := by decide +kernel
theorem dX5_state_126 : decode cX5_state 126 = .ok (.getfield 35, 3) := by decide +kernel
theorem dX5_state_129 : decode cX5_state 129 = .ok (.iload_n 1, 1) := by decide +kernel
theorem dX5_state_130 : decode cX5_state 130 = .ok (.iaload, 1) := by decide +kernel
theorem dX5_state_131 : decode cX5_state 131 = .ok (.idiv, 1) := by decide +kernel
theorem dX5_state_132 : decode cX5_state 132 = .ok (.goto 4, 3) := by decide +kernel
theorem dX5_state_135 : decode cX5_state 135 = .ok (.iconst 1, 1) := by decide +kernel
theorem dX5_state_136 : decode cX5_state 136 = .ok (.iadd, 1) := by decide +kernel
theorem dX5_state_137 : decode cX5_state 137 = .ok (.istore_n 3, 1) := by decide +kernel
theorem dX5_state_138 : decode cX5_state 138 = .ok (.iinc 4 1, 3) := by decide +kernel
theorem dX5_state_141 : decode cX5_state 141 = .ok (.goto (-64), 3) := by decide +kernel
theorem dX5_state_144 : decode cX5_state 144 = .ok (.iload_n 3, 1) := by decide +kernel
theorem dX5_state_145 : decode cX5_state 145 = .ok (.ireturn, 1) := by decide +kernel
set_option maxRecDepth 20000 in
theorem ggX5_doubled_X5_isJob : GoodIn wsX5_doubled wsX5_isJob := goodIn_r _ [9, 10, 11, 12, 8, 13, 14, 15, 16, 17, 18, 19, 20, 21, 22, 23, 24, 25, 26, 27, 28, 29, 30, 31, 32, 33, 34, 35, 36, 37, 38, 39, 40, 41, 42, 43] (by decide +kernel) (by decide +kernel)
set_option maxRecDepth 20000 in
theorem gX5_doubled_X5_isJob : GoodIn wsX5_doubled (wsV RX5 159 RX5 yX5_isJob wsX5_isJob) := goodIn_app (goodIn_of _ (by decide +kernel)) ggX5_doubled_X5_isJob
theorem dX5_doubled_0 : decode cX5_doubled 0 = .ok (.aload_n 0, 1) := by decide +kernel
theorem dX5_doubled_1 : decode cX5_doubled 1 = .ok (.aload_n 0, 1) := by decide +kernel
theorem dX5_doubled_2 : decode cX5_doubled 2 = .ok (.iload_n 1, 1) := by decide +kernel
theorem dX5_doubled_3 : decode cX5_doubled 3 = .ok (.invokevirtual 159, 3) := by decide +kernel
theorem dX5_doubled_6 : decode cX5_doubled 6 = .ok (.ifCond .eq 7, 3) := by decide +kernel
theorem dX5_doubled_9 : decode cX5_doubled 9 = .ok (.iconst 0, 1) := by decide +kernel
theorem dX5_doubled_10 : decode cX5_doubled 10 = .ok (.goto 4, 3) := by decide +kernel
theorem dX5_doubled_13 : decode cX5_doubled 13 = .ok (.iconst 1, 1) := by decide +kernel
theorem dX5_doubled_14 : decode cX5_doubled 14 = .ok (.putfield 82, 3) := by decide +kernel
theorem dX5_doubled_17 : decode cX5_doubled 17 = .ok (.aload_n 0, 1) := by decide +kernel
theorem dX5_doubled_18 : decode cX5_doubled 18 = .ok (.getfield 82, 3) := by decide +kernel
theorem dX5_doubled_21 : decode cX5_doubled 21 = .ok (.ifCond .le 5, 3) := by decide +kernel
theorem dX5_doubled_24 : decode cX5_doubled 24 = .ok (.iconst 0, 1) := by decide +kernel
theorem dX5_doubled_25 : decode cX5_doubled 25 = .ok (.ireturn, 1) := by decide +kernel
theorem dX5_doubled_26 : decode cX5_doubled 26 = .ok (.iconst 0, 1) := by decide +kernel
theorem dX5_doubled_27 : decode cX5_doubled 27 = .ok (.istore_n 3, 1) := by decide +kernel
theorem dX5_doubled_28 : decode cX5_doubled 28 = .ok (.iconst (-1), 1) := by decide +kernel
theorem dX5_doubled_29 : decode cX5_doubled 29 = .ok (.istore 4, 2) := by decide +kernel
theorem dX5_doubled_31 : decode cX5_doubled 31 = .ok (.iconst 0, 1) := by decide +kernel
theorem dX5_doubled_32 : decode cX5_doubled 32 = .ok (.istore 5, 2) := by decide +kernel
theorem dX5_doubled_34 : decode cX5_doubled 34 = .ok (.iload 5, 2) := by decide +kernel
theorem dX5_doubled_36 : decode cX5_doubled 36 = .ok (.aload_n 0, 1) := by decide +kernel
theorem dX5_doubled_37 : decode cX5_doubled 37 = .ok (.getfield 156, 3) := by decide +kernel
theorem dX5_doubled_40 : decode cX5_doubled 40 = .ok (.if_icmp .ge 42, 3) := by decide +kernel
theorem dX5_doubled_43 : decode cX5_doubled 43 = .ok (.aload_n 0, 1) := by decide +kernel
theorem dX5_doubled_44 : decode cX5_doubled 44 = .ok (.getfield 72, 3) := by decide +kernel
theorem dX5_doubled_47 : decode cX5_doubled 47 = .ok (.iload 5, 2) := by decide +kernel
theorem dX5_doubled_49 : decode cX5_doubled 49 = .ok (.iaload, 1) := by decide +kernel
theorem dX5_doubled_50 : decode cX5_doubled 50 = .ok (.iload_n 1, 1) := by decide +kernel
theorem dX5_doubled_51 : decode cX5_doubled 51 = .ok (.if_icmp .ne 25, 3) := by decide +kernel
theorem dX5_doubled_54 : decode cX5_doubled 54 = .ok (.iload_n 3, 1) := by decide +kernel
theorem dX5_doubled_55 : decode cX5_doubled 55 = .ok (.iload_n 2, 1) := by decide +kernel
theorem dX5_doubled_56 : decode cX5_doubled 56 = .ok (.if_icmp .ne 13, 3) := by decide +kernel
theorem dX5_doubled_59 : decode cX5_doubled 59 = .ok (.aload_n 0, 1) := by decide +kernel
theorem dX5_doubled_60 : decode cX5_doubled 60 = .ok (.getfield 75, 3) := by decide +kernel
theorem dX5_doubled_63 : decode cX5_doubled 63 = .ok (.iload 5, 2) := by decide +kernel
theorem dX5_doubled_65 : decode cX5_doubled 65 = .ok (.iaload, 1) := by decide +kernel
theorem dX5_doubled_66 : decode cX5_doubled 66 = .ok (.goto 5, 3) := by decide +kernel
theorem dX5_doubled_69 : decode cX5_doubled 69 = .ok (.iload 4, 2) := by decide +kernel
theorem dX5_doubled_71 : decode cX5_doubled 71 = .ok (.istore 4, 2) := by decide +kernel
theorem dX5_doubled_73 : decode cX5_doubled 73 = .ok (.iinc 3 1, 3) := by decide +kernel
theorem dX5_doubled_76 : decode cX5_doubled 76 = .ok (.iinc 5 1, 3) := by decide +kernel
theorem dX5_doubled_79 : decode cX5_doubled 79 = .ok (.goto (-45), 3) := by decide +kernel
theorem dX5_doubled_82 : decode cX5_doubled 82 = .ok (.iload_n 2, 1) := by decide +kernel
theorem dX5_doubled_83 : decode cX5_doubled 83 = .ok (.iconst (-1), 1) := by decide +kernel
theorem dX5_doubled_84 : decode cX5_doubled 84 = .ok (.if_icmp .ne 5, 3) := by decide +kernel
theorem dX5_doubled_87 : decode cX5_doubled 87 = .ok (.iload_n 3, 1) := by decide +kernel
theorem dX5_doubled_88 : decode cX5_doubled 88 = .ok (.ireturn, 1) := by decide +kernel
theorem dX5_doubled_89 : decode cX5_doubled 89 = .ok (.aload_n 0, 1) := by decide +kernel
theorem dX5_doubled_90 : decode cX5_doubled 90 = .ok (.iload 4, 2) := by decide +kernel
theorem dX5_doubled_92 : decode cX5_doubled 92 = .ok (.iconst (-1), 1) := by decide +kernel
theorem dX5_doubled_93 : decode cX5_doubled 93 = .ok (.if_icmp .ne 7, 3) := by decide +kernel
theorem dX5_doubled_96 : decode cX5_doubled 96 = .ok (.iconst 2, 1) := by decide +kernel
theorem dX5_doubled_97 : decode cX5_doubled 97 = .ok (.goto 4, 3) := by decide +kernel
theorem dX5_doubled_100 : decode cX5_doubled 100 = .ok (.iconst 0, 1) := by decide +kernel
theorem dX5_doubled_101 : decode cX5_doubled 101 = .ok (.putfield 82, 3) := by decide +kernel
theorem dX5_doubled_104 : decode cX5_doubled 104 = .ok (.aload_n 0, 1) := by decide +kernel
theorem dX5_doubled_105 : decode cX5_doubled 105 = .ok (.getfield 82, 3) := by decide +kernel
theorem dX5_doubled_108 : decode cX5_doubled 108 = .ok (.ifCond .le 7, 3) := by decide +kernel
theorem dX5_doubled_111 : decode cX5_doubled 111 = .ok (.iconst 0, 1) := by decide +kernel
theorem dX5_doubled_112 : decode cX5_doubled 112 = .ok (.goto 5, 3) := by decide +kernel
theorem dX5_doubled_115 : decode cX5_doubled 115 = .ok (.iload 4, 2) := by decide +kernel
theorem dX5_doubled_117 : decode cX5_doubled 117 = .ok (.ireturn, 1) := by decide +kernel
set_option maxRecDepth 20000 in
theorem ggX5_account_X5_in : GoodIn wsX5_account wsX5_in := goodIn_r _ [8] (by decide +kernel) (by decide +kernel)
set_option maxRecDepth 20000 in
theorem gX5_account_X5_in : GoodIn wsX5_account (va_wsS RX5 87 yX5_in wsX5_in) := goodIn_app (goodIn_of _ (by decide +kernel)) ggX5_account_X5_in
theorem dX5_account_0 : decode cX5_account 0 = .ok (.aload_n 0, 1) := by decide +kernel
theorem dX5_account_1 : decode cX5_account 1 = .ok (.iload_n 1, 1) := by decide +kernel
theorem dX5_account_2 : decode cX5_account 2 = .ok (.i2l, 1) := by decide +kernel
theorem dX5_account_3 : decode cX5_account 3 = .ok (.lconst 1, 1) := by decide +kernel
theorem dX5_account_4 : decode cX5_account 4 = .ok (.aload_n 0, 1) := by decide +kernel
theorem dX5_account_5 : decode cX5_account 5 = .ok (.getfield 98, 3) := by decide +kernel
theorem dX5_account_8 : decode cX5_account 8 = .ok (.i2l, 1) := by decide +kernel
theorem dX5_account_9 : decode cX5_account 9 = .ok (.invokestatic 87, 3) := by decide +kernel
theorem dX5_account_12 : decode cX5_account 12 = .ok (.ifCond .ne 7, 3) := by decide +kernel
theorem dX5_account_15 : decode cX5_account 15 = .ok (.iconst 1, 1) := by decide +kernel
theorem dX5_account_16 : decode cX5_account 16 = .ok (.goto 20, 3) := by decide +kernel
theorem dX5_account_19 : decode cX5_account 19 = .ok (.iload_n 2, 1) := by decide +kernel
theorem dX5_account_20 : decode cX5_account 20 = .ok (.i2l, 1) := by decide +kernel
theorem dX5_account_21 : decode cX5_account 21 = .ok (.lconst 0, 1) := by decide +kernel
theorem dX5_account_22 : decode cX5_account 22 = .ok (.ldc2_w 96, 3) := by decide +kernel
theorem dX5_account_25 : decode cX5_account 25 = .ok (.invokestatic 87, 3) := by decide +kernel
theorem dX5_account_28 : decode cX5_account 28 = .ok (.ifCond .ne 7, 3) := by decide +kernel
theorem dX5_account_31 : decode cX5_account 31 = .ok (.iconst 2, 1) := by decide +kernel
theorem dX5_account_32 : decode cX5_account 32 = .ok (.goto 4, 3) := by decide +kernel
theorem dX5_account_35 : decode cX5_account 35 = .ok (.iconst 0, 1) := by decide +kernel
theorem dX5_account_36 : decode cX5_account 36 = .ok (.putfield 82, 3) := by decide +kernel
theorem dX5_account_39 : decode cX5_account 39 = .ok (.aload_n 0, 1) := by decide +kernel
theorem dX5_account_40 : decode cX5_account 40 = .ok (.getfield 82, 3) := by decide +kernel
theorem dX5_account_43 : decode cX5_account 43 = .ok (.ifCond .le 7, 3) := by decide +kernel
theorem dX5_account_46 : decode cX5_account 46 = .ok (.lconst 0, 1) := by decide +kernel
theorem dX5_account_47 : decode cX5_account 47 = .ok (.goto 15, 3) := by decide +kernel
theorem dX5_account_50 : decode cX5_account 50 = .ok (.aload_n 0, 1) := by decide +kernel
theorem dX5_account_51 : decode cX5_account 51 = .ok (.getfield 28, 3) := by decide +kernel
theorem dX5_account_54 : decode cX5_account 54 = .ok (.iconst 4, 1) := by decide +kernel
theorem dX5_account_55 : decode cX5_account 55 = .ok (.iload_n 1, 1) := by decide +kernel
theorem dX5_account_56 : decode cX5_account 56 = .ok (.imul, 1) := by decide +kernel
theorem dX5_account_57 : decode cX5_account 57 = .ok (.iconst 4, 1) := by decide +kernel
theorem dX5_account_58 : decode cX5_account 58 = .ok (.isub, 1) := by decide +kernel
theorem dX5_account_59 : decode cX5_account 59 = .ok (.iload_n 2, 1) := by decide +kernel
theorem dX5_account_60 : decode cX5_account 60 = .ok (.iadd, 1) := by decide +kernel
theorem dX5_account_61 : decode cX5_account 61 = .ok (.laload, 1) := by decide +kernel
theorem dX5_account_62 : decode cX5_account 62 = .ok (.lreturn, 1) := by decide +kernel
set_option maxRecDepth 20000 in
theorem ggX5_reason_X5_isJob : GoodIn wsX5_reason wsX5_isJob := goodIn_r _ [14, 15, 16, 17, 13, 18, 27, 28, 29, 30, 31, 32, 33, 34, 35, 36, 37, 38, 39, 40, 41, 42, 43, 44, 45, 46, 47, 48, 49, 50, 51, 52, 53, 54, 55, 56] (by decide +kernel) (by decide +kernel)
set_option maxRecDepth 20000 in
theorem gX5_reason_X5_isJob : GoodIn wsX5_reason (wsV RX5 159 RX5 yX5_isJob wsX5_isJob) := goodIn_app (goodIn_of _ (by decide +kernel)) ggX5_reason_X5_isJob
set_option maxRecDepth 20000 in
theorem ggX5_reason_X5_fits : GoodIn wsX5_reason wsX5_fits := goodIn_r _ [22, 23, 24, 3, 25, 26, 27, 28, 29, 30, 31, 32, 33, 34, 35, 36, 37, 38, 39, 40, 41, 42, 43, 44, 45, 46, 47, 48, 49, 50, 51, 52, 53, 54, 55, 56] (by decide +kernel) (by decide +kernel)
set_option maxRecDepth 20000 in
theorem gX5_reason_X5_fits : GoodIn wsX5_reason (wsV RX5 121 RX5 yX5_fits wsX5_fits) := goodIn_app (goodIn_of _ (by decide +kernel)) ggX5_reason_X5_fits
theorem dX5_reason_0 : decode cX5_reason 0 = .ok (.aload_n 0, 1) := by decide +kernel
theorem dX5_reason_1 : decode cX5_reason 1 = .ok (.aload_n 0, 1) := by decide +kernel
theorem dX5_reason_2 : decode cX5_reason 2 = .ok (.iload_n 1, 1) := by decide +kernel
theorem dX5_reason_3 : decode cX5_reason 3 = .ok (.invokevirtual 159, 3) := by decide +kernel
theorem dX5_reason_6 : decode cX5_reason 6 = .ok (.ifCond .eq 7, 3) := by decide +kernel
theorem dX5_reason_9 : decode cX5_reason 9 = .ok (.iconst 0, 1) := by decide +kernel
theorem dX5_reason_10 : decode cX5_reason 10 = .ok (.goto 4, 3) := by decide +kernel
theorem dX5_reason_13 : decode cX5_reason 13 = .ok (.iconst 1, 1) := by decide +kernel
theorem dX5_reason_14 : decode cX5_reason 14 = .ok (.putfield 82, 3) := by decide +kernel
theorem dX5_reason_17 : decode cX5_reason 17 = .ok (.aload_n 0, 1) := by decide +kernel
theorem dX5_reason_18 : decode cX5_reason 18 = .ok (.getfield 82, 3) := by decide +kernel
theorem dX5_reason_21 : decode cX5_reason 21 = .ok (.ifCond .le 5, 3) := by decide +kernel
theorem dX5_reason_24 : decode cX5_reason 24 = .ok (.iconst 0, 1) := by decide +kernel
theorem dX5_reason_25 : decode cX5_reason 25 = .ok (.ireturn, 1) := by decide +kernel
theorem dX5_reason_26 : decode cX5_reason 26 = .ok (.iconst 0, 1) := by decide +kernel
theorem dX5_reason_27 : decode cX5_reason 27 = .ok (.istore_n 2, 1) := by decide +kernel
theorem dX5_reason_28 : decode cX5_reason 28 = .ok (.iconst 0, 1) := by decide +kernel
theorem dX5_reason_29 : decode cX5_reason 29 = .ok (.istore_n 3, 1) := by decide +kernel
theorem dX5_reason_30 : decode cX5_reason 30 = .ok (.iconst 0, 1) := by decide +kernel
theorem dX5_reason_31 : decode cX5_reason 31 = .ok (.istore 4, 2) := by decide +kernel
theorem dX5_reason_33 : decode cX5_reason 33 = .ok (.iconst 0, 1) := by decide +kernel
theorem dX5_reason_34 : decode cX5_reason 34 = .ok (.istore 5, 2) := by decide +kernel
theorem dX5_reason_36 : decode cX5_reason 36 = .ok (.iload 5, 2) := by decide +kernel
theorem dX5_reason_38 : decode cX5_reason 38 = .ok (.aload_n 0, 1) := by decide +kernel
theorem dX5_reason_39 : decode cX5_reason 39 = .ok (.getfield 101, 3) := by decide +kernel
theorem dX5_reason_42 : decode cX5_reason 42 = .ok (.if_icmp .ge 134, 3) := by decide +kernel
theorem dX5_reason_45 : decode cX5_reason 45 = .ok (.iload_n 2, 1) := by decide +kernel
theorem dX5_reason_46 : decode cX5_reason 46 = .ok (.ifCond .ne 24, 3) := by decide +kernel
theorem dX5_reason_49 : decode cX5_reason 49 = .ok (.aload_n 0, 1) := by decide +kernel
theorem dX5_reason_50 : decode cX5_reason 50 = .ok (.getfield 51, 3) := by decide +kernel
theorem dX5_reason_53 : decode cX5_reason 53 = .ok (.iload 5, 2) := by decide +kernel
theorem dX5_reason_55 : decode cX5_reason 55 = .ok (.iaload, 1) := by decide +kernel
theorem dX5_reason_56 : decode cX5_reason 56 = .ok (.iload_n 1, 1) := by decide +kernel
theorem dX5_reason_57 : decode cX5_reason 57 = .ok (.if_icmp .ne 17, 3) := by decide +kernel
theorem dX5_reason_60 : decode cX5_reason 60 = .ok (.aload_n 0, 1) := by decide +kernel
theorem dX5_reason_61 : decode cX5_reason 61 = .ok (.getfield 69, 3) := by decide +kernel
theorem dX5_reason_64 : decode cX5_reason 64 = .ok (.iload 5, 2) := by decide +kernel
theorem dX5_reason_66 : decode cX5_reason 66 = .ok (.baload, 1) := by decide +kernel
theorem dX5_reason_67 : decode cX5_reason 67 = .ok (.ifCond .eq 7, 3) := by decide +kernel
theorem dX5_reason_70 : decode cX5_reason 70 = .ok (.iconst 1, 1) := by decide +kernel
theorem dX5_reason_71 : decode cX5_reason 71 = .ok (.goto 4, 3) := by decide +kernel
theorem dX5_reason_74 : decode cX5_reason 74 = .ok (.iconst 0, 1) := by decide +kernel
theorem dX5_reason_75 : decode cX5_reason 75 = .ok (.istore_n 2, 1) := by decide +kernel
theorem dX5_reason_76 : decode cX5_reason 76 = .ok (.iconst 1, 1) := by decide +kernel
theorem dX5_reason_77 : decode cX5_reason 77 = .ok (.istore 6, 2) := by decide +kernel
theorem dX5_reason_79 : decode cX5_reason 79 = .ok (.iload 6, 2) := by decide +kernel
theorem dX5_reason_81 : decode cX5_reason 81 = .ok (.aload_n 0, 1) := by decide +kernel
theorem dX5_reason_82 : decode cX5_reason 82 = .ok (.getfield 93, 3) := by decide +kernel
theorem dX5_reason_85 : decode cX5_reason 85 = .ok (.if_icmp .gt 85, 3) := by decide +kernel
theorem dX5_reason_88 : decode cX5_reason 88 = .ok (.aload_n 0, 1) := by decide +kernel
theorem dX5_reason_89 : decode cX5_reason 89 = .ok (.getfield 51, 3) := by decide +kernel
theorem dX5_reason_92 : decode cX5_reason 92 = .ok (.iload 5, 2) := by decide +kernel
theorem dX5_reason_94 : decode cX5_reason 94 = .ok (.iaload, 1) := by decide +kernel
theorem dX5_reason_95 : decode cX5_reason 95 = .ok (.iload_n 1, 1) := by decide +kernel
theorem dX5_reason_96 : decode cX5_reason 96 = .ok (.if_icmp .ne 74, 3) := by decide +kernel
theorem dX5_reason_99 : decode cX5_reason 99 = .ok (.aload_n 0, 1) := by decide +kernel
theorem dX5_reason_100 : decode cX5_reason 100 = .ok (.getfield 69, 3) := by decide +kernel
theorem dX5_reason_103 : decode cX5_reason 103 = .ok (.iload 5, 2) := by decide +kernel
theorem dX5_reason_105 : decode cX5_reason 105 = .ok (.baload, 1) := by decide +kernel
theorem dX5_reason_106 : decode cX5_reason 106 = .ok (.ifCond .eq 64, 3) := by decide +kernel
theorem dX5_reason_109 : decode cX5_reason 109 = .ok (.iload_n 3, 1) := by decide +kernel
theorem dX5_reason_110 : decode cX5_reason 110 = .ok (.ifCond .ne 14, 3) := by decide +kernel
theorem dX5_reason_113 : decode cX5_reason 113 = .ok (.aload_n 0, 1) := by decide +kernel
theorem dX5_reason_114 : decode cX5_reason 114 = .ok (.iload 5, 2) := by decide +kernel
theorem dX5_reason_116 : decode cX5_reason 116 = .ok (.iload 6, 2) := by decide +kernel
theorem dX5_reason_118 : decode cX5_reason 118 = .ok (.invokevirtual 121, 3) := by decide +kernel
theorem dX5_reason_121 : decode cX5_reason 121 = .ok (.ifCond .eq 7, 3) := by decide +kernel
theorem dX5_reason_124 : decode cX5_reason 124 = .ok (.iconst 1, 1) := by decide +kernel
theorem dX5_reason_125 : decode cX5_reason 125 = .ok (.goto 4, 3) := by decide +kernel
theorem dX5_reason_128 : decode cX5_reason 128 = .ok (.iconst 0, 1) := by decide +kernel
theorem dX5_reason_129 : decode cX5_reason 129 = .ok (.istore_n 3, 1) := by decide +kernel
theorem dX5_reason_130 : decode cX5_reason 130 = .ok (.iload 4, 2) := by decide +kernel
theorem dX5_reason_132 : decode cX5_reason 132 = .ok (.ifCond .ne 25, 3) := by decide +kernel
theorem dX5_reason_135 : decode cX5_reason 135 = .ok (.aload_n 0, 1) := by decide +kernel
theorem dX5_reason_136 : decode cX5_reason 136 = .ok (.iload 5, 2) := by decide +kernel
theorem dX5_reason_138 : decode cX5_reason 138 = .ok (.iload 6, 2) := by decide +kernel
theorem dX5_reason_140 : decode cX5_reason 140 = .ok (.invokevirtual 121, 3) := by decide +kernel
theorem dX5_reason_143 : decode cX5_reason 143 = .ok (.ifCond .eq 18, 3) := by decide +kernel
theorem dX5_reason_146 : decode cX5_reason 146 = .ok (.aload_n 0, 1) := by decide +kernel
theorem dX5_reason_147 : decode cX5_reason 147 = .ok (.getfield 19, 3) := by decide +kernel
theorem dX5_reason_150 : decode cX5_reason 150 = .ok (.iload 6, 2) := by decide +kernel
theorem dX5_reason_152 : decode cX5_reason 152 = .ok (.iaload, 1) := by decide +kernel
theorem dX5_reason_153 : decode cX5_reason 153 = .ok (.iconst (-1), 1) := by decide +kernel
theorem dX5_reason_154 : decode cX5_reason 154 = .ok (.if_icmp .ne 7, 3) := by decide +kernel
theorem dX5_reason_157 : decode cX5_reason 157 = .ok (.iconst 1, 1) := by decide +kernel
theorem dX5_reason_158 : decode cX5_reason 158 = .ok (.goto 4, 3) := by decide +kernel
theorem dX5_reason_161 : decode cX5_reason 161 = .ok (.iconst 0, 1) := by decide +kernel
theorem dX5_reason_162 : decode cX5_reason 162 = .ok (.istore 4, 2) := by decide +kernel
theorem dX5_reason_164 : decode cX5_reason 164 = .ok (.iinc 6 1, 3) := by decide +kernel
theorem dX5_reason_167 : decode cX5_reason 167 = .ok (.goto (-88), 3) := by decide +kernel
theorem dX5_reason_170 : decode cX5_reason 170 = .ok (.iinc 5 1, 3) := by decide +kernel
theorem dX5_reason_173 : decode cX5_reason 173 = .ok (.goto (-137), 3) := by decide +kernel
theorem dX5_reason_176 : decode cX5_reason 176 = .ok (.iload_n 2, 1) := by decide +kernel
theorem dX5_reason_177 : decode cX5_reason 177 = .ok (.ifCond .ne 5, 3) := by decide +kernel
theorem dX5_reason_180 : decode cX5_reason 180 = .ok (.iconst 0, 1) := by decide +kernel
theorem dX5_reason_181 : decode cX5_reason 181 = .ok (.ireturn, 1) := by decide +kernel
theorem dX5_reason_182 : decode cX5_reason 182 = .ok (.aload_n 0, 1) := by decide +kernel
theorem dX5_reason_183 : decode cX5_reason 183 = .ok (.getfield 44, 3) := by decide +kernel
theorem dX5_reason_186 : decode cX5_reason 186 = .ok (.iload_n 1, 1) := by decide +kernel
theorem dX5_reason_187 : decode cX5_reason 187 = .ok (.baload, 1) := by decide +kernel
theorem dX5_reason_188 : decode cX5_reason 188 = .ok (.ifCond .eq 5, 3) := by decide +kernel
theorem dX5_reason_191 : decode cX5_reason 191 = .ok (.iconst 1, 1) := by decide +kernel
theorem dX5_reason_192 : decode cX5_reason 192 = .ok (.ireturn, 1) := by decide +kernel
theorem dX5_reason_193 : decode cX5_reason 193 = .ok (.aload_n 0, 1) := by decide +kernel
theorem dX5_reason_194 : decode cX5_reason 194 = .ok (.getfield 41, 3) := by decide +kernel
theorem dX5_reason_197 : decode cX5_reason 197 = .ok (.iload_n 1, 1) := by decide +kernel
theorem dX5_reason_198 : decode cX5_reason 198 = .ok (.laload, 1) := by decide +kernel
theorem dX5_reason_199 : decode cX5_reason 199 = .ok (.aload_n 0, 1) := by decide +kernel
theorem dX5_reason_200 : decode cX5_reason 200 = .ok (.getfield 117, 3) := by decide +kernel
theorem dX5_reason_203 : decode cX5_reason 203 = .ok (.lcmp, 1) := by decide +kernel
theorem dX5_reason_204 : decode cX5_reason 204 = .ok (.ifCond .le 5, 3) := by decide +kernel
theorem dX5_reason_207 : decode cX5_reason 207 = .ok (.iconst 2, 1) := by decide +kernel
theorem dX5_reason_208 : decode cX5_reason 208 = .ok (.ireturn, 1) := by decide +kernel
theorem dX5_reason_209 : decode cX5_reason 209 = .ok (.iload_n 3, 1) := by decide +kernel
theorem dX5_reason_210 : decode cX5_reason 210 = .ok (.ifCond .ne 7, 3) := by decide +kernel
theorem dX5_reason_213 : decode cX5_reason 213 = .ok (.iconst 3, 1) := by decide +kernel
theorem dX5_reason_214 : decode cX5_reason 214 = .ok (.goto 13, 3) := by decide +kernel
theorem dX5_reason_217 : decode cX5_reason 217 = .ok (.iload 4, 2) := by decide +kernel
theorem dX5_reason_219 : decode cX5_reason 219 = .ok (.ifCond .ne 7, 3) := by decide +kernel
theorem dX5_reason_222 : decode cX5_reason 222 = .ok (.iconst 4, 1) := by decide +kernel
theorem dX5_reason_223 : decode cX5_reason 223 = .ok (.goto 4, 3) := by decide +kernel
theorem dX5_reason_226 : decode cX5_reason 226 = .ok (.iconst 5, 1) := by decide +kernel
theorem dX5_reason_227 : decode cX5_reason 227 = .ok (.ireturn, 1) := by decide +kernel
set_option maxRecDepth 20000 in
theorem ggX5_split_X5_isJob : GoodIn wsX5_split wsX5_isJob := goodIn_r _ [13, 14, 15, 16, 12, 17, 28, 29, 30, 31, 32, 33, 34, 35, 36, 37, 38, 39, 40, 41, 42, 43, 44, 45, 46, 47, 48, 49, 50, 51, 52, 53, 54, 55, 56, 57] (by decide +kernel) (by decide +kernel)
set_option maxRecDepth 20000 in
theorem gX5_split_X5_isJob : GoodIn wsX5_split (wsV RX5 159 RX5 yX5_isJob wsX5_isJob) := goodIn_app (goodIn_of _ (by decide +kernel)) ggX5_split_X5_isJob
set_option maxRecDepth 20000 in
theorem ggX5_split_X5_isPrinter : GoodIn wsX5_split wsX5_isPrinter := goodIn_r _ [21, 22, 15, 16, 12, 17, 28, 29, 30, 31, 32, 33, 34, 35, 36, 37, 38, 39, 40, 41, 42, 43, 44, 45, 46, 47, 48, 49, 50, 51, 52, 53, 54, 55, 56, 57] (by decide +kernel) (by decide +kernel)
set_option maxRecDepth 20000 in
theorem gX5_split_X5_isPrinter : GoodIn wsX5_split (wsV RX5 132 RX5 yX5_isPrinter wsX5_isPrinter) := goodIn_app (goodIn_of _ (by decide +kernel)) ggX5_split_X5_isPrinter
set_option maxRecDepth 20000 in
theorem ggX5_split_X5_addPart : GoodIn wsX5_split wsX5_addPart := goodIn_r _ [26, 5, 2, 8, 6, 27, 3, 7, 28, 29, 30, 31, 32, 33, 34, 35, 36, 37, 38, 39, 40, 41, 42, 43, 44, 45, 46, 47, 48, 49, 50, 51, 52, 53, 54, 55, 56, 57] (by decide +kernel) (by decide +kernel)
set_option maxRecDepth 20000 in
theorem gX5_split_X5_addPart : GoodIn wsX5_split (wsV RX5 113 RX5 yX5_addPart wsX5_addPart) := goodIn_app (goodIn_of _ (by decide +kernel)) ggX5_split_X5_addPart
theorem dX5_split_0 : decode cX5_split 0 = .ok (.aload_n 0, 1) := by decide +kernel
theorem dX5_split_1 : decode cX5_split 1 = .ok (.aload_n 0, 1) := by decide +kernel
theorem dX5_split_2 : decode cX5_split 2 = .ok (.iload_n 1, 1) := by decide +kernel
theorem dX5_split_3 : decode cX5_split 3 = .ok (.invokevirtual 159, 3) := by decide +kernel
theorem dX5_split_6 : decode cX5_split 6 = .ok (.ifCond .eq 15, 3) := by decide +kernel
theorem dX5_split_9 : decode cX5_split 9 = .ok (.aload_n 0, 1) := by decide +kernel
theorem dX5_split_10 : decode cX5_split 10 = .ok (.iload_n 2, 1) := by decide +kernel
theorem dX5_split_11 : decode cX5_split 11 = .ok (.invokevirtual 132, 3) := by decide +kernel
theorem dX5_split_14 : decode cX5_split 14 = .ok (.ifCond .eq 7, 3) := by decide +kernel
theorem dX5_split_17 : decode cX5_split 17 = .ok (.iconst 0, 1) := by decide +kernel
theorem dX5_split_18 : decode cX5_split 18 = .ok (.goto 4, 3) := by decide +kernel
theorem dX5_split_21 : decode cX5_split 21 = .ok (.iconst 1, 1) := by decide +kernel
theorem dX5_split_22 : decode cX5_split 22 = .ok (.putfield 82, 3) := by decide +kernel
theorem dX5_split_25 : decode cX5_split 25 = .ok (.aload_n 0, 1) := by decide +kernel
theorem dX5_split_26 : decode cX5_split 26 = .ok (.getfield 82, 3) := by decide +kernel
theorem dX5_split_29 : decode cX5_split 29 = .ok (.ifCond .gt 8, 3) := by decide +kernel
theorem dX5_split_32 : decode cX5_split 32 = .ok (.iload_n 3, 1) := by decide +kernel
theorem dX5_split_33 : decode cX5_split 33 = .ok (.iconst 1, 1) := by decide +kernel
theorem dX5_split_34 : decode cX5_split 34 = .ok (.if_icmp .ge 5, 3) := by decide +kernel
theorem dX5_split_37 : decode cX5_split 37 = .ok (.iconst 0, 1) := by decide +kernel
theorem dX5_split_38 : decode cX5_split 38 = .ok (.ireturn, 1) := by decide +kernel
theorem dX5_split_39 : decode cX5_split 39 = .ok (.iconst 0, 1) := by decide +kernel
theorem dX5_split_40 : decode cX5_split 40 = .ok (.istore 4, 2) := by decide +kernel
theorem dX5_split_42 : decode cX5_split 42 = .ok (.iload 4, 2) := by decide +kernel
theorem dX5_split_44 : decode cX5_split 44 = .ok (.aload_n 0, 1) := by decide +kernel
theorem dX5_split_45 : decode cX5_split 45 = .ok (.getfield 101, 3) := by decide +kernel
theorem dX5_split_48 : decode cX5_split 48 = .ok (.if_icmp .ge 137, 3) := by decide +kernel
theorem dX5_split_51 : decode cX5_split 51 = .ok (.aload_n 0, 1) := by decide +kernel
theorem dX5_split_52 : decode cX5_split 52 = .ok (.getfield 63, 3) := by decide +kernel
theorem dX5_split_55 : decode cX5_split 55 = .ok (.iload 4, 2) := by decide +kernel
theorem dX5_split_57 : decode cX5_split 57 = .ok (.iaload, 1) := by decide +kernel
theorem dX5_split_58 : decode cX5_split 58 = .ok (.aload_n 0, 1) := by decide +kernel
theorem dX5_split_59 : decode cX5_split 59 = .ok (.getfield 35, 3) := by decide +kernel
theorem dX5_split_62 : decode cX5_split 62 = .ok (.aload_n 0, 1) := by decide +kernel
theorem dX5_split_63 : decode cX5_split 63 = .ok (.getfield 51, 3) := by decide +kernel
theorem dX5_split_66 : decode cX5_split 66 = .ok (.iload 4, 2) := by decide +kernel
theorem dX5_split_68 : decode cX5_split 68 = .ok (.iaload, 1) := by decide +kernel
theorem dX5_split_69 : decode cX5_split 69 = .ok (.iaload, 1) := by decide +kernel
theorem dX5_split_70 : decode cX5_split 70 = .ok (.idiv, 1) := by decide +kernel
theorem dX5_split_71 : decode cX5_split 71 = .ok (.istore 5, 2) := by decide +kernel
theorem dX5_split_73 : decode cX5_split 73 = .ok (.iload 5, 2) := by decide +kernel
theorem dX5_split_75 : decode cX5_split 75 = .ok (.aload_n 0, 1) := by decide +kernel
theorem dX5_split_76 : decode cX5_split 76 = .ok (.getfield 35, 3) := by decide +kernel
theorem dX5_split_79 : decode cX5_split 79 = .ok (.aload_n 0, 1) := by decide +kernel
theorem dX5_split_80 : decode cX5_split 80 = .ok (.getfield 51, 3) := by decide +kernel
theorem dX5_split_83 : decode cX5_split 83 = .ok (.iload 4, 2) := by decide +kernel
theorem dX5_split_85 : decode cX5_split 85 = .ok (.iaload, 1) := by decide +kernel
theorem dX5_split_86 : decode cX5_split 86 = .ok (.iaload, 1) := by decide +kernel
theorem dX5_split_87 : decode cX5_split 87 = .ok (.imul, 1) := by decide +kernel
theorem dX5_split_88 : decode cX5_split 88 = .ok (.aload_n 0, 1) := by decide +kernel
theorem dX5_split_89 : decode cX5_split 89 = .ok (.getfield 63, 3) := by decide +kernel
theorem dX5_split_92 : decode cX5_split 92 = .ok (.iload 4, 2) := by decide +kernel
theorem dX5_split_94 : decode cX5_split 94 = .ok (.iaload, 1) := by decide +kernel
theorem dX5_split_95 : decode cX5_split 95 = .ok (.if_icmp .ge 10, 3) := by decide +kernel
theorem dX5_split_98 : decode cX5_split 98 = .ok (.iload 5, 2) := by decide +kernel
theorem dX5_split_100 : decode cX5_split 100 = .ok (.iconst 1, 1) := by decide +kernel
theorem dX5_split_101 : decode cX5_split 101 = .ok (.iadd, 1) := by decide +kernel
theorem dX5_split_102 : decode cX5_split 102 = .ok (.goto 5, 3) := by decide +kernel
theorem dX5_split_105 : decode cX5_split 105 = .ok (.iload 5, 2) := by decide +kernel
theorem dX5_split_107 : decode cX5_split 107 = .ok (.istore 5, 2) := by decide +kernel
theorem dX5_split_109 : decode cX5_split 109 = .ok (.aload_n 0, 1) := by decide +kernel
theorem dX5_split_110 : decode cX5_split 110 = .ok (.getfield 51, 3) := by decide +kernel
theorem dX5_split_113 : decode cX5_split 113 = .ok (.iload 4, 2) := by decide +kernel
theorem dX5_split_115 : decode cX5_split 115 = .ok (.iaload, 1) := by decide +kernel
theorem dX5_split_116 : decode cX5_split 116 = .ok (.iload_n 1, 1) := by decide +kernel
theorem dX5_split_117 : decode cX5_split 117 = .ok (.if_icmp .ne 62, 3) := by decide +kernel
theorem dX5_split_120 : decode cX5_split 120 = .ok (.aload_n 0, 1) := by decide +kernel
theorem dX5_split_121 : decode cX5_split 121 = .ok (.getfield 57, 3) := by decide +kernel
theorem dX5_split_124 : decode cX5_split 124 = .ok (.iload 4, 2) := by decide +kernel
theorem dX5_split_126 : decode cX5_split 126 = .ok (.iaload, 1) := by decide +kernel
theorem dX5_split_127 : decode cX5_split 127 = .ok (.ifCond .ne 52, 3) := by decide +kernel
theorem dX5_split_130 : decode cX5_split 130 = .ok (.aload_n 0, 1) := by decide +kernel
theorem dX5_split_131 : decode cX5_split 131 = .ok (.getfield 69, 3) := by decide +kernel
theorem dX5_split_134 : decode cX5_split 134 = .ok (.iload 4, 2) := by decide +kernel
theorem dX5_split_136 : decode cX5_split 136 = .ok (.baload, 1) := by decide +kernel
theorem dX5_split_137 : decode cX5_split 137 = .ok (.ifCond .eq 42, 3) := by decide +kernel
theorem dX5_split_140 : decode cX5_split 140 = .ok (.aload_n 0, 1) := by decide +kernel
theorem dX5_split_141 : decode cX5_split 141 = .ok (.getfield 54, 3) := by decide +kernel
theorem dX5_split_144 : decode cX5_split 144 = .ok (.iload 4, 2) := by decide +kernel
theorem dX5_split_146 : decode cX5_split 146 = .ok (.iaload, 1) := by decide +kernel
theorem dX5_split_147 : decode cX5_split 147 = .ok (.iload 5, 2) := by decide +kernel
theorem dX5_split_149 : decode cX5_split 149 = .ok (.isub, 1) := by decide +kernel
theorem dX5_split_150 : decode cX5_split 150 = .ok (.iload_n 3, 1) := by decide +kernel
theorem dX5_split_151 : decode cX5_split 151 = .ok (.if_icmp .le 28, 3) := by decide +kernel
theorem dX5_split_154 : decode cX5_split 154 = .ok (.aload_n 0, 1) := by decide +kernel
theorem dX5_split_155 : decode cX5_split 155 = .ok (.getfield 54, 3) := by decide +kernel
theorem dX5_split_158 : decode cX5_split 158 = .ok (.iload 4, 2) := by decide +kernel
theorem dX5_split_160 : decode cX5_split 160 = .ok (.aload_n 0, 1) := by decide +kernel
theorem dX5_split_161 : decode cX5_split 161 = .ok (.getfield 54, 3) := by decide +kernel
theorem dX5_split_164 : decode cX5_split 164 = .ok (.iload 4, 2) := by decide +kernel
theorem dX5_split_166 : decode cX5_split 166 = .ok (.iaload, 1) := by decide +kernel
theorem dX5_split_167 : decode cX5_split 167 = .ok (.iload_n 3, 1) := by decide +kernel
theorem dX5_split_168 : decode cX5_split 168 = .ok (.isub, 1) := by decide +kernel
theorem dX5_split_169 : decode cX5_split 169 = .ok (.iastore, 1) := by decide +kernel
theorem dX5_split_170 : decode cX5_split 170 = .ok (.aload_n 0, 1) := by decide +kernel
theorem dX5_split_171 : decode cX5_split 171 = .ok (.iload_n 1, 1) := by decide +kernel
theorem dX5_split_172 : decode cX5_split 172 = .ok (.iload_n 3, 1) := by decide +kernel
theorem dX5_split_173 : decode cX5_split 173 = .ok (.iload_n 2, 1) := by decide +kernel
theorem dX5_split_174 : decode cX5_split 174 = .ok (.invokevirtual 113, 3) := by decide +kernel
theorem dX5_split_177 : decode cX5_split 177 = .ok (.iconst 1, 1) := by decide +kernel
theorem dX5_split_178 : decode cX5_split 178 = .ok (.ireturn, 1) := by decide +kernel
theorem dX5_split_179 : decode cX5_split 179 = .ok (.iinc 4 1, 3) := by decide +kernel
theorem dX5_split_182 : decode cX5_split 182 = .ok (.goto (-140), 3) := by decide +kernel
theorem dX5_split_185 : decode cX5_split 185 = .ok (.iconst 0, 1) := by decide +kernel
theorem dX5_split_186 : decode cX5_split 186 = .ok (.ireturn, 1) := by decide +kernel
set_option maxRecDepth 20000 in
theorem ggX5_like_X5_in : GoodIn wsX5_like wsX5_in := goodIn_r _ [7] (by decide +kernel) (by decide +kernel)
set_option maxRecDepth 20000 in
theorem gX5_like_X5_in : GoodIn wsX5_like (va_wsS RX5 87 yX5_in wsX5_in) := goodIn_app (goodIn_of _ (by decide +kernel)) ggX5_like_X5_in
theorem dX5_like_0 : decode cX5_like 0 = .ok (.aload_n 0, 1) := by decide +kernel
theorem dX5_like_1 : decode cX5_like 1 = .ok (.iload_n 1, 1) := by decide +kernel
theorem dX5_like_2 : decode cX5_like 2 = .ok (.i2l, 1) := by decide +kernel
theorem dX5_like_3 : decode cX5_like 3 = .ok (.lconst 0, 1) := by decide +kernel
theorem dX5_like_4 : decode cX5_like 4 = .ok (.ldc2_w 106, 3) := by decide +kernel
theorem dX5_like_7 : decode cX5_like 7 = .ok (.invokestatic 87, 3) := by decide +kernel
theorem dX5_like_10 : decode cX5_like 10 = .ok (.ifCond .eq 7, 3) := by decide +kernel
theorem dX5_like_13 : decode cX5_like 13 = .ok (.iconst 0, 1) := by decide +kernel
theorem dX5_like_14 : decode cX5_like 14 = .ok (.goto 4, 3) := by decide +kernel
theorem dX5_like_17 : decode cX5_like 17 = .ok (.iconst 1, 1) := by decide +kernel
theorem dX5_like_18 : decode cX5_like 18 = .ok (.putfield 82, 3) := by decide +kernel
theorem dX5_like_21 : decode cX5_like 21 = .ok (.aload_n 0, 1) := by decide +kernel
theorem dX5_like_22 : decode cX5_like 22 = .ok (.getfield 82, 3) := by decide +kernel
theorem dX5_like_25 : decode cX5_like 25 = .ok (.ifCond .le 5, 3) := by decide +kernel
theorem dX5_like_28 : decode cX5_like 28 = .ok (.iconst 0, 1) := by decide +kernel
theorem dX5_like_29 : decode cX5_like 29 = .ok (.ireturn, 1) := by decide +kernel
theorem dX5_like_30 : decode cX5_like 30 = .ok (.aload_n 0, 1) := by decide +kernel
theorem dX5_like_31 : decode cX5_like 31 = .ok (.getfield 78, 3) := by decide +kernel
theorem dX5_like_34 : decode cX5_like 34 = .ok (.istore_n 2, 1) := by decide +kernel
theorem dX5_like_35 : decode cX5_like 35 = .ok (.aload_n 0, 1) := by decide +kernel
theorem dX5_like_36 : decode cX5_like 36 = .ok (.iload_n 1, 1) := by decide +kernel
theorem dX5_like_37 : decode cX5_like 37 = .ok (.putfield 78, 3) := by decide +kernel
theorem dX5_like_40 : decode cX5_like 40 = .ok (.iload_n 2, 1) := by decide +kernel
theorem dX5_like_41 : decode cX5_like 41 = .ok (.ireturn, 1) := by decide +kernel
end
section
/-! THE STATE of all objects: C kd s i is slot (or element) s of the object i of kind kd, as a whole number; a reference is 0 (null) or the object's index and one. -/
abbrev iI (z : Int) : Int32 := Int32.ofInt z
abbrev jI (z : Int) : Int64 := Int64.ofInt z
abbrev q_S : Type := Nat → Nat → Nat → Int
def q_up (C : q_S) (kd s i : Nat) (x : Int) : q_S := fun kd' s' i' => if kd' = kd ∧ s' = s ∧ i' = i then x else C kd' s' i'
def q_tabO : List (List Nat) := [[0,6,0,0,1,2,2,4],[3,0,0,0,0,0,4],[0,0,0,0,4,2],[0,0,1,1,1,1],[9,10,11,0,0,0,12,13,0,0,1],[0,0,25,26,27,28,0,30,31,32,0,34,35,36,37,38,39,0,41,42,43,44,45,46,47,0,49,50,1,0]]
/-- arrays, kinds 6 ..: the elements' type, the length, the class -/
def q_tabA : List (Nat × Nat × Nat) := [(5,8,3),(6,20,4),(3,60,5),(0,256,0),(0,256,0),(0,0,0),(0,0,0),(0,0,0),(0,0,0),(0,0,0),(0,0,0),(0,0,0),(0,0,0),(0,0,0),(0,0,0),(0,0,0),(0,9,0),(0,9,0),(0,9,0),(0,9,0),(0,0,0),(0,21,0),(0,21,0),(1,84,1),(0,0,0),(0,61,0),(0,61,0),(0,61,0),(1,61,1),(2,61,2),(2,61,2),(0,0,0),(0,4200,0),(0,4200,0),(0,4200,0),(0,4200,0),(0,4200,0),(2,4200,2),(2,4200,2),(0,0,0),(0,4200,0),(0,4200,0),(0,0,0),(0,0,0),(1,1,1)]
def q_arr (kd : Nat) : Nat × Nat × Nat := q_tabA.getD (kd - 6) (0, 0, 0)
def q_nf (kd : Nat) : Nat := (q_tabO.getD kd []).length
def q_ty (kd s : Nat) : Nat := if kd < 6 then (q_tabO.getD kd []).getD s 0 else (q_arr kd).1
def q_rf (ad : Nat → Nat → Nat) (k : Nat) (v : Int) : Option Nat := if v = 0 then none else some (ad k (v - 1).toNat)
def q_val (ad : Nat → Nat → Nat) (t : Nat) (v : Int) : Value := match t with
  | 0 => .int (iI v)
  | 1 => .long (jI v)
  | 2 => .int (iI v)
  | k + 3 => va_rf (q_rf ad k v)
def q_cont (ad : Nat → Nat → Nat) (t : Nat) (f : Nat → Int) : (Nat → Int32) ⊕ (Nat → Int64) ⊕ (Nat → UInt32) ⊕ (Nat → UInt64) ⊕ (Nat → Option Nat) := match t with
  | 0 => .inl (fun j => iI (f j))
  | 1 => .inr (.inl (fun j => jI (f j)))
  | 2 => .inl (fun j => iI (f j))
  | k + 3 => .inr (.inr (.inr (.inr (fun j => q_rf ad k (f j)))))
abbrev q_G : Type := (Nat → ClassId) × (Nat → Nat → Nat) × (Nat → ClassId)
def q_ent (g : q_G) (ad : Nat → Nat → Nat) (C : q_S) (kd i : Nat) : va_E := if kd < 6 then .inr (kd, (List.range (q_nf kd)).map (fun s => q_val ad (q_ty kd s) (C kd s i))) else .inl (g.2.2 (q_arr kd).2.2, (q_arr kd).2.1, q_cont ad (q_arr kd).1 (fun j => C kd j i))
def q_tok (n : Nat → Nat) (t : Nat) (v : Int) : Prop := match t with
  | 0 => -2147483648 ≤ v ∧ v ≤ 2147483647
  | 1 => -9223372036854775808 ≤ v ∧ v ≤ 9223372036854775807
  | 2 => v = 0 ∨ v = 1
  | k + 3 => 0 ≤ v ∧ v ≤ (n k : Int)
def q_tys (g : q_G) : List (ClassId × FieldType) := [(g.2.2 0, .int), (g.2.2 1, .long), (g.2.2 2, .boolean), (g.2.2 3, .object RX2), (g.2.2 4, .object RX3), (g.2.2 5, .object RX0)]
def q_K (g : q_G) (U : State) : Prop := va_K (g.1, g.2.1) vwCl (q_tys g) U
def q_P (g : q_G) (s0 : Nat) (n : Nat → Nat) (ad : Nat → Nat → Nat) (C : q_S) (H : Heap) : Prop :=
  (∀ kd i, i < n kd → s0 ≤ ad kd i ∧ va_at (g.1, g.2.1) vwCl (ad kd i, q_ent g ad C kd i) H) ∧
  (∀ kd i kd' i', i < n kd → i' < n kd' → ad kd i = ad kd' i' → kd = kd' ∧ i = i') ∧
  (∀ kd s i, q_tok n (q_ty kd s) (C kd s i)) ∧ (∀ kd s i, n kd ≤ i → C kd s i = 0)
abbrev q_A (s0 : Nat) : Nat → Prop := fun q => s0 ≤ q
def q_xn : List String := ["java/lang/IllegalArgumentException", "java/lang/UnsupportedOperationException", "java/util/NoSuchElementException", "java/lang/IllegalStateException", "java/lang/IndexOutOfBoundsException"]
def q_nm : List String := ["java/lang/RuntimeException", "java/lang/Exception"]
def q_dl : List MethodName := [Bundle.init0 "java/lang/RuntimeException", Bundle.init0 "java/lang/Exception", Bundle.init0 Bundle.tN]
/-- words on the exceptions' classes that aren't in the methods' lists -/
def q_W (U : State) : Prop := (∀ x ∈ q_dl, va_Nw (.declares x) U) ∧ (∀ x ∈ q_xn, va_Nw (.castable x x) U) ∧ (∀ x ∈ q_xn, ∀ y ∈ q_xn, x ≠ y → va_Nc x y U)
theorem q_W.moved {u U : State} (hvm : u.vm.Alike U.vm) (h : q_W u) : q_W U :=
  ⟨fun x hx => va_tabs rfl (rfl : (u.setVm U.vm).vm = U.vm) (by rw [Cond.declares_setVm hvm]; exact h.1 x hx), fun x hx => va_tabs rfl (rfl : (u.setVm U.vm).vm = U.vm) (by rw [Cond.castable_setVm hvm]; exact h.2.1 x hx), fun x hx y hy hn => (h.2.2 x hx y hy hn).moved hvm⟩
def q_Z (s0 : Nat) (U : State) (H : Heap) : Prop := vx_Zq Bundle.tN "UNASSIGNED_STACK" Bundle.steD (q_A s0) U H ∧ vx_Zq Bundle.tN "SUPPRESSED_SENTINEL" Bundle.listD (q_A s0) U H ∧ q_W U
abbrev q_U : Type := (Nat → Nat) × (Nat → Nat → Nat) × q_S
def q_B (g : q_G) (s0 : Nat) (u : q_U) (U : State) : Prop := s0 ≤ U.heap.size ∧ q_P g s0 u.1 u.2.1 u.2.2 U.heap ∧ q_K g U ∧ q_Z s0 U U.heap
-- facts on q_up
theorem q_up_s (C : q_S) (kd s i : Nat) (x : Int) : q_up C kd s i x kd s i = x := by simp [q_up]
theorem q_up_k (C : q_S) {kd s i kd' s' i' : Nat} (x : Int) (h : ¬ kd' = kd) : q_up C kd s i x kd' s' i' = C kd' s' i' := by simp [q_up, h]
theorem q_up_e (C : q_S) {kd s i kd' s' i' : Nat} (x : Int) (h : ¬ s' = s) : q_up C kd s i x kd' s' i' = C kd' s' i' := by simp [q_up, h]
theorem q_up_i (C : q_S) {kd s i kd' s' i' : Nat} (x : Int) (h : ¬ i' = i) : q_up C kd s i x kd' s' i' = C kd' s' i' := by simp [q_up, h]
theorem q_up_n (C : q_S) {kd s i kd' s' i' : Nat} (x : Int) (h : ¬ (kd' = kd ∧ i' = i)) : q_up C kd s i x kd' s' i' = C kd' s' i' := by
  unfold q_up
  rw [if_neg]
  rintro ⟨a, -, b⟩
  exact h ⟨a, b⟩
theorem q_ent_n (g : q_G) (ad : Nat → Nat → Nat) (C : q_S) {kd s i kd' i' : Nat} (x : Int) (h : ¬ (kd' = kd ∧ i' = i)) : q_ent g ad (q_up C kd s i x) kd' i' = q_ent g ad C kd' i' := by
  unfold q_ent
  have e : ∀ s', q_up C kd s i x kd' s' i' = C kd' s' i' := fun s' => q_up_n C x h
  simp only [e]
theorem q_P.tok {g : q_G} {s0 : Nat} {n : Nat → Nat} {ad : Nat → Nat → Nat} {C : q_S} {H : Heap} (h : q_P g s0 n ad C H) (kd s i : Nat) {t : Nat} (ht : q_ty kd s = t) : q_tok n t (C kd s i) := by
  subst ht
  exact h.2.2.1 kd s i
theorem q_P.lt {g : q_G} {s0 : Nat} {n : Nat → Nat} {ad : Nat → Nat → Nat} {C : q_S} {H : Heap} (h : q_P g s0 n ad C H) {kd i : Nat} (hi : i < n kd) : ad kd i < H.size := (h.1 kd i hi).2.lt
theorem q_P.set {g : q_G} {s0 : Nat} {n : Nat → Nat} {ad : Nat → Nat → Nat} {C : q_S} {H H1 : Heap} (hP : q_P g s0 n ad C H) {kd s i : Nat} {x : Int} (hi : i < n kd) (hx : q_tok n (q_ty kd s) x)
    (he : va_at (g.1, g.2.1) vwCl (ad kd i, q_ent g ad (q_up C kd s i x) kd i) H1) (oq : ∀ q : Nat, q ≠ ad kd i → H1[q]? = H[q]?) : q_P g s0 n ad (q_up C kd s i x) H1 := by
  refine ⟨fun kd' i' h' => ⟨(hP.1 kd' i' h').1, ?_⟩, hP.2.1, fun kd' s' i' => ?_, fun kd' s' i' h' => ?_⟩
  · by_cases hq : kd' = kd ∧ i' = i
    · obtain ⟨rfl, rfl⟩ := hq
      exact he
    · rw [q_ent_n g ad C x hq]
      exact (hP.1 kd' i' h').2.kept (oq _ (fun e => hq (hP.2.1 kd' i' kd i h' hi e)))
  · unfold q_up
    split
    · rename_i hh
      obtain ⟨rfl, rfl, rfl⟩ := hh
      exact hx
    · exact hP.2.2.1 kd' s' i'
  · unfold q_up
    rw [if_neg]
    · exact hP.2.2.2 kd' s' i' h'
    · rintro ⟨rfl, -, rfl⟩
      omega
theorem q_vp (N : Nat) (f : Nat → Value) {j : Nat} (h : j < N) : vp_V ((List.range N).map f) j = f j := by
  simp [vp_V, List.getD, h]
theorem q_entO (g : q_G) (ad : Nat → Nat → Nat) (C : q_S) {kd : Nat} (i : Nat) (h : kd < 6) : q_ent g ad C kd i = .inr (kd, (List.range (q_nf kd)).map (fun s => q_val ad (q_ty kd s) (C kd s i))) := by
  unfold q_ent; rw [if_pos h]
theorem q_entA (g : q_G) (ad : Nat → Nat → Nat) (C : q_S) {kd : Nat} (i : Nat) (h : ¬ kd < 6) : q_ent g ad C kd i = .inl (g.2.2 (q_arr kd).2.2, (q_arr kd).2.1, q_cont ad (q_arr kd).1 (fun j => C kd j i)) := by
  unfold q_ent; rw [if_neg h]
theorem q_one {D : va_G} {cl : List vw_C} {a : Nat} {e : va_E} {H : Heap} (h : va_at D cl (a, e) H) : va_P D cl [(a, e)] H := by
  intro k q hk
  match k, hk with
  | 0, hk => cases hk; exact h
  | k + 1, hk => simp at hk
theorem q_moved {g : q_G} {u U : State} (hvm : u.vm.Alike U.vm) (h : q_K g u) : q_K g U := va_K.moved hvm h
theorem q_Z.moved {s0 : Nat} {u U : State} {H : Heap} (hvm : u.vm.Alike U.vm) (h : q_Z s0 u H) : q_Z s0 U H := ⟨h.1.moved hvm, h.2.1.moved hvm, h.2.2.moved hvm⟩
theorem q_Z.kept {s0 : Nat} {U : State} {H H1 : Heap} (h : q_Z s0 U H) (hq : ∀ a : Nat, a < H.size → ¬ q_A s0 a → H1[a]? = H[a]?) : q_Z s0 U H1 := ⟨h.1.kept hq, h.2.1.kept hq, h.2.2⟩
-- numbers
abbrev R32 (z : Int) : Prop := -2147483648 ≤ z ∧ z ≤ 2147483647
abbrev R64 (z : Int) : Prop := -9223372036854775808 ≤ z ∧ z ≤ 9223372036854775807
theorem iI_t {z : Int} (h : R32 z) : (iI z).toInt = z := Int32.toInt_ofInt_of_le (by omega) (by omega)
theorem jI_t {z : Int} (h : R64 z) : (jI z).toInt = z := Int64.toInt_ofInt_of_le (by omega) (by omega)
theorem iI_lt {a b : Int} (ha : R32 a) (hb : R32 b) : iI a < iI b ↔ a < b := by rw [Int32.lt_iff_toInt_lt, iI_t ha, iI_t hb]
theorem iI_le {a b : Int} (ha : R32 a) (hb : R32 b) : iI a ≤ iI b ↔ a ≤ b := by rw [Int32.le_iff_toInt_le, iI_t ha, iI_t hb]
theorem iI_eq {a b : Int} (ha : R32 a) (hb : R32 b) : iI a = iI b ↔ a = b := by rw [← Int32.toInt_inj, iI_t ha, iI_t hb]
theorem jI_lt {a b : Int} (ha : R64 a) (hb : R64 b) : jI a < jI b ↔ a < b := by rw [Int64.lt_iff_toInt_lt, jI_t ha, jI_t hb]
theorem jI_eq {a b : Int} (ha : R64 a) (hb : R64 b) : jI a = jI b ↔ a = b := by rw [← Int64.toInt_inj, jI_t ha, jI_t hb]
theorem iI_cl {z : Int} (h : R32 z) : (iI z).toNatClampNeg = z.toNat := Int32.toNatClampNeg_ofInt_of_le (by omega) (by omega)
theorem iI_in {z : Int} {n : Nat} (h0 : 0 ≤ z) (h : z < (n : Int)) (hn : n < 2147483648) : vp_in (iI z) n := by
  have hr : R32 z := ⟨by omega, by omega⟩
  rw [vp_in_iff, iI_t hr]
  exact ⟨h0, h⟩
theorem iI_l {z : Int} (h : R32 z) : (iI z).toInt64 = jI z := Int32.toInt64_ofInt (by show -2147483648 ≤ z; omega) (by show z ≤ 2147483647; omega)
theorem iI_of (x : Int32) : ∃ z : Int, R32 z ∧ x = iI z := ⟨x.toInt, ⟨by have := x.le_toInt; omega, by have := x.toInt_lt; omega⟩, (Int32.ofInt_toInt x).symm⟩
theorem jI_of (x : Int64) : ∃ z : Int, R64 z ∧ x = jI z := ⟨x.toInt, ⟨by have := x.le_toInt; omega, by have := x.toInt_lt; omega⟩, (Int64.ofInt_toInt x).symm⟩
theorem iI_0 : iI 0 = 0 := rfl
theorem iI_div {a b : Int} (ha : 0 ≤ a) (ha2 : a ≤ 2147483647) (hb : 0 < b) (hb2 : b ≤ 2147483647) : iI a / iI b = iI (a / b) := by
  rw [← Int.tdiv_eq_ediv_of_nonneg ha]
  exact (Int32.ofInt_tdiv (by show -2147483648 ≤ a; omega) (by show a ≤ 2147483647; omega) (by show -2147483648 ≤ b; omega) (by show b ≤ 2147483647; omega)).symm
theorem iI_rem {a b : Int} (ha : 0 ≤ a) (ha2 : a ≤ 2147483647) (hb : 0 < b) (hb2 : b ≤ 2147483647) : iI a - iI a / iI b * iI b = iI (a % b) := by
  rw [iI_div ha ha2 hb hb2, ← Int32.ofInt_mul, ← Int32.ofInt_sub]
  congr 1
  have := Int.emod_add_ediv_mul a b
  omega
theorem q_zn {z : Int} (h : z = 0 ∨ z = 1) : narrow .boolean (.int (iI z)) = .int (iI z) := by
  rcases h with rfl | rfl <;> rfl
theorem q_zf {z : Int} (h : z = 0 ∨ z = 1) : fits .boolean (.int (iI z)) = true := by
  rcases h with rfl | rfl <;> rfl
end
section
/-! ROWS over the state q_P: reading and writing slots and elements, new objects, returns, starts of calls -/
section QROWS
variable {p : Program} {l : Launch} {e : Env} {R : Room} {s : State} {m : MethodId} {args : Array Value} {below : List Frame} {meth : Method} {c : Code} {H : Heap} {locs : List Loc} {cells slots : Nat} {Q : State → Prop}
variable {cc : ByteArray} {pc nL : Nat} {ls : Array Slot} {rest : List Value} {g : q_G} {s0 : Nat} {n : Nat → Nat} {ad : Nat → Nat → Nat} {C : q_S} {Ts : List Cond} {own : String}
def q_X (p : Program) (s : State) (m : MethodId) (args : Array Value) (c : Code) (cc : ByteArray) (nL : Nat) (Ts : List Cond) (own : String) (g : q_G) (s0 : Nat) : Prop :=
  p.tables.exec = Jvm.exec ∧ c.code = cc ∧ c.maxLocals = nL ∧ s.vm.findClass own = some m.cls ∧ (∀ w ∈ Ts, w.before args s = true) ∧ q_K g s ∧ q_Z s0 s s.heap ∧ s0 ≤ s.heap.size
theorem q_X.fix (X : q_X p s m args c cc nL Ts own g s0) : CallFix p m c cc nL s args Ts own := ⟨X.1, X.2.1, X.2.2.1, X.2.2.2.1, X.2.2.2.2.1⟩
theorem q_get (X : q_X p s m args c cc nL Ts own g s0) {Cn : String} {T : u_T} {N index : Nat} (hP : q_P g s0 n ad C H) (kd k i : Nat) (hc : vwCl[kd]? = some (Cn, T, N)) (hN : q_nf kd = N) (hkd : kd < 6) (hin : ∀ w ∈ u_ws Cn T N, w ∈ Ts) (hi : i < n kd) (hk : k < N)
    (hlink : Cond.fieldLink own index (T k).1 (T k).2.1 (T k).2.2.1 ∈ Ts) {v : Value} (hv : q_val ad (q_ty kd k) (C kd k i) = v) (hdg : decode cc pc = .ok (.getfield index, 3))
    (kk : W p l e R s m args below meth c H locs cells slots Q (F0 m (pc + 3) ls (v :: rest))) : W p l e R s m args below meth c H locs cells slots Q (F0 m pc ls (.ref (ad kd i) :: rest)) := by
  obtain ⟨hx, hb, -, hown, hts, hK, -⟩ := X
  have he := (hP.1 kd i hi).2
  rw [q_entO g ad C i hkd] at he
  refine va_get (D := (g.1, g.2.1)) (ci := kd) (v := v) (C := Cn) (T := T) (N := N) hx hb hts hin hown hK (q_one he) 0 rfl hc k hk (hts _ hlink) (fun _ h => h) ?_ hdg kk
  rw [List.getElem?_map, List.getElem?_range (by rw [hN]; exact hk)]
  exact congrArg some hv
theorem q_put (X : q_X p s m args c cc nL Ts own g s0) {Cn : String} {T : u_T} {N index : Nat} (hP : q_P g s0 n ad C H) (hS : va_S (q_A s0) s.heap H locs) (kd k i : Nat) (x : Int) (hc : vwCl[kd]? = some (Cn, T, N)) (hN : q_nf kd = N) (hkd : kd < 6) (hin : ∀ w ∈ u_ws Cn T N, w ∈ Ts)
    (ty0 : Nat → FieldType) (hty : ∀ k, k < N → parseFieldDescriptor (T k).2.2.1 = some (ty0 k)) (hnm : ∀ a, a < N → ∀ b, b < N → a ≠ b → (T a).2.1 ≠ (T b).2.1) (hi : i < n kd) (hk : k < N)
    (hlink : Cond.fieldLink own index (T k).1 (T k).2.1 (T k).2.2.1 ∈ Ts) (hfin : (T k).2.2.2 = false) {v : Value} (hv : q_val ad (q_ty kd k) x = v) (hn : narrow (ty0 k) v = v) (hfit : fits (ty0 k) v = true) (htok : q_tok n (q_ty kd k) x) (hdg : decode cc pc = .ok (.putfield index, 3))
    (kk : ∀ (H1 : Heap) (locs1 : List Loc), q_P g s0 n ad (q_up C kd k i x) H1 → va_S (q_A s0) s.heap H1 locs1 → W p l e R s m args below meth c H1 locs1 cells slots Q (F0 m (pc + 3) ls rest)) : W p l e R s m args below meth c H locs cells slots Q (F0 m pc ls (v :: .ref (ad kd i) :: rest)) := by
  obtain ⟨hx, hb, -, hown, hts, hK, -⟩ := X
  have hap := va_apart (own := own) hts hin ty0 hty hnm hK hc
  have he := (hP.1 kd i hi).2
  rw [q_entO g ad C i hkd] at he
  obtain ⟨r, h1, cell, q1, q2, q3, q4⟩ := he
  have hr : r = (Cn, T, N) := Option.some.inj (h1.symm.trans hc)
  subst hr
  obtain ⟨hSl, hfc, kC, hkC, hkind⟩ := hK.1 kd _ hc
  obtain ⟨cf, kf, fi, f, hif, hsl⟩ := hSl k hk
  have hlay := hts _ (hin _ (u_in_lay hk))
  unfold u_lay at hlay
  rw [if_neg (by rw [hfin]; decide)] at hlay
  have hst := (u_facts hfc hkC (u_lays hts hin hk) hif).1
  have h6 := u_store hfc hkC hkind hlay hif (hty k hk) hn hfit
  refine W.putK hx hb (f := f) ⟨hown, hts _ hlink, ⟨_, _, _, hif⟩, hst⟩ (by rw [q2]; exact h6) q1 q3 (by rw [hsl]; exact k2_hasslot (q4 k hk)) rfl rfl hdg fun H' e1 e2 e3 => ?_
  rw [hsl] at e1 ⊢
  refine kk H' _ (hP.set hi htok ?_ e3) (hS.put e2 e3 (hP.1 kd i hi).1)
  rw [q_entO g ad _ i hkd]
  refine ⟨_, hc, t_OB.to (V := updV (vp_V ((List.range (q_nf kd)).map (fun s => q_val ad (q_ty kd s) (C kd s i)))) k v) ⟨_, e1, q2, q3, t_set q4 hap hk v⟩ (fun j hj => ?_)⟩
  have hj' : j < q_nf kd := by rw [hN]; exact hj
  show updV _ k v j = vp_V _ j
  rw [q_vp _ _ hj']
  by_cases hjk : j = k
  · subst hjk
    rw [q_up_s]
    simp [updV, hv]
  · rw [q_up_e C x hjk]
    simp only [updV, if_neg hjk]
    rw [q_vp _ _ hj']
theorem q_putF (X : q_X p s m args c cc nL Ts own g s0) {Cn : String} {T : u_T} {N index : Nat} (hP : q_P g s0 n ad C H) (hS : va_S (q_A s0) s.heap H locs) (kd k i : Nat) (x : Int) (hc : vwCl[kd]? = some (Cn, T, N)) (hN : q_nf kd = N) (hkd : kd < 6) (hin : ∀ w ∈ u_ws Cn T N, w ∈ Ts)
    (ty0 : Nat → FieldType) (hty : ∀ k, k < N → parseFieldDescriptor (T k).2.2.1 = some (ty0 k)) (hnm : ∀ a, a < N → ∀ b, b < N → a ≠ b → (T a).2.1 ≠ (T b).2.1) (hi : i < n kd) (hk : k < N)
    (hlink : Cond.fieldLink own index (T k).1 (T k).2.1 (T k).2.2.1 ∈ Ts) (hfin : (T k).2.2.2 = true) (hin2 : meth.name = "<init>") (hdecl : (T k).1 = own) {v : Value} (hv : q_val ad (q_ty kd k) x = v) (hn : narrow (ty0 k) v = v) (hfit : fits (ty0 k) v = true) (htok : q_tok n (q_ty kd k) x) (hdg : decode cc pc = .ok (.putfield index, 3))
    (kk : ∀ (H1 : Heap) (locs1 : List Loc), q_P g s0 n ad (q_up C kd k i x) H1 → va_S (q_A s0) s.heap H1 locs1 → W p l e R s m args below meth c H1 locs1 cells slots Q (F0 m (pc + 3) ls rest)) : W p l e R s m args below meth c H locs cells slots Q (F0 m pc ls (v :: .ref (ad kd i) :: rest)) := by
  obtain ⟨hx, hb, -, hown, hts, hK, -⟩ := X
  have hap := va_apart (own := own) hts hin ty0 hty hnm hK hc
  have he := (hP.1 kd i hi).2
  rw [q_entO g ad C i hkd] at he
  obtain ⟨r, h1, cell, q1, q2, q3, q4⟩ := he
  have hr : r = (Cn, T, N) := Option.some.inj (h1.symm.trans hc)
  subst hr
  obtain ⟨hSl, hfc, kC, hkC, hkind⟩ := hK.1 kd _ hc
  obtain ⟨cf, kf, fi, f, hif, hsl⟩ := hSl k hk
  have hlay := hts _ (hin _ (u_in_lay hk))
  unfold u_lay at hlay
  rw [if_pos hfin] at hlay
  have hst := (u_facts hfc hkC (u_lays hts hin hk) hif).1
  have hcf : m.cls = cf := by
    obtain ⟨_, _, c', _, _, _, -, -, hf', -, -, -, hown2, -⟩ := Cond.laysFinal_spec hlay
    have e1 : c' = cf := by have := hif.symm.trans hf'; simp at this; exact this.1.symm
    rw [hdecl] at hown2
    rw [← e1]; exact Option.some.inj (hown.symm.trans hown2)
  have h6 := u_fits hfc hkC hkind (Or.inr hlay) hif (hty k hk) hn hfit
  refine W.putFinK hx hb hown (hts _ hlink) hif hst hcf hin2 (by rw [q2]; exact h6) q1 q3 (by rw [hsl]; exact k2_hasslot (q4 k hk)) rfl rfl hdg fun H' e1 e2 e3 => ?_
  rw [hsl] at e1 ⊢
  refine kk H' _ (hP.set hi htok ?_ e3) (hS.put e2 e3 (hP.1 kd i hi).1)
  rw [q_entO g ad _ i hkd]
  refine ⟨_, hc, t_OB.to (V := updV (vp_V ((List.range (q_nf kd)).map (fun s => q_val ad (q_ty kd s) (C kd s i)))) k v) ⟨_, e1, q2, q3, t_set q4 hap hk v⟩ (fun j hj => ?_)⟩
  have hj' : j < q_nf kd := by rw [hN]; exact hj
  show updV _ k v j = vp_V _ j
  rw [q_vp _ _ hj']
  by_cases hjk : j = k
  · subst hjk
    rw [q_up_s]
    simp [updV, hv]
  · rw [q_up_e C x hjk]
    simp only [updV, if_neg hjk]
    rw [q_vp _ _ hj']
-- arrays
theorem q_alt (kd : Nat) : (q_arr kd).2.1 < 2147483648 := by
  unfold q_arr
  rw [List.getD_eq_getElem?_getD]
  cases h : q_tabA[kd - 6]? with
  | none => simp
  | some x =>
    have hm := List.mem_of_getElem? h
    have : ∀ x ∈ q_tabA, x.2.1 < 2147483648 := by decide
    simpa using this x hm
theorem q_ald {t : Nat} {H : Heap} {kd i : Nat} (hP : q_P g s0 n ad C H) (hkd : ¬ kd < 6) (hi : i < n kd) (ht : (q_arr kd).1 = t) {k : Nat} (hc : (q_arr kd).2.2 = k) : va_at (g.1, g.2.1) vwCl (ad kd i, .inl (g.2.2 k, (q_arr kd).2.1, q_cont ad t (fun j => C kd j i))) H := by
  have he := (hP.1 kd i hi).2
  rw [q_entA g ad C i hkd, ht, hc] at he
  exact he
theorem q_ild (X : q_X p s m args c cc nL Ts own g s0) (hP : q_P g s0 n ad C H) (kd i : Nat) {z : Int} (hkd : ¬ kd < 6) (ht : (q_arr kd).1 = 0) (hc : (q_arr kd).2.2 = 0) (hi : i < n kd) (h0 : 0 ≤ z) (h1 : z < ((q_arr kd).2.1 : Int)) (hdg : decode cc pc = .ok (.iaload, 1))
    (kk : W p l e R s m args below meth c H locs cells slots Q (F0 m (pc + 1) ls (.int (iI (C kd z.toNat i)) :: rest))) : W p l e R s m args below meth c H locs cells slots Q (F0 m pc ls (.int (iI z) :: .ref (ad kd i) :: rest)) := by
  have hl := q_alt kd
  refine va_iald (f := fun j => iI (C kd j i)) X.1 X.2.1 X.2.2.2.2.2.1 (q_one (q_ald hP hkd hi ht hc)) 0 0 rfl rfl (iI_in h0 h1 hl) hdg ?_
  rw [iI_cl ⟨by omega, by omega⟩]
  exact kk
theorem q_lld (X : q_X p s m args c cc nL Ts own g s0) (hP : q_P g s0 n ad C H) (kd i : Nat) {z : Int} (hkd : ¬ kd < 6) (ht : (q_arr kd).1 = 1) (hc : (q_arr kd).2.2 = 1) (hi : i < n kd) (h0 : 0 ≤ z) (h1 : z < ((q_arr kd).2.1 : Int)) (hdg : decode cc pc = .ok (.laload, 1))
    (kk : W p l e R s m args below meth c H locs cells slots Q (F0 m (pc + 1) ls (.long (jI (C kd z.toNat i)) :: rest))) : W p l e R s m args below meth c H locs cells slots Q (F0 m pc ls (.int (iI z) :: .ref (ad kd i) :: rest)) := by
  have hl := q_alt kd
  refine va_lald (f := fun j => jI (C kd j i)) X.1 X.2.1 X.2.2.2.2.2.1 (q_one (q_ald hP hkd hi ht hc)) 0 1 rfl rfl (iI_in h0 h1 hl) hdg ?_
  rw [iI_cl ⟨by omega, by omega⟩]
  exact kk
theorem q_zld (X : q_X p s m args c cc nL Ts own g s0) (hP : q_P g s0 n ad C H) (kd i : Nat) {z : Int} (hkd : ¬ kd < 6) (ht : (q_arr kd).1 = 2) (hc : (q_arr kd).2.2 = 2) (hi : i < n kd) (h0 : 0 ≤ z) (h1 : z < ((q_arr kd).2.1 : Int)) (hdg : decode cc pc = .ok (.baload, 1))
    (kk : W p l e R s m args below meth c H locs cells slots Q (F0 m (pc + 1) ls (.int (iI (C kd z.toNat i)) :: rest))) : W p l e R s m args below meth c H locs cells slots Q (F0 m pc ls (.int (iI z) :: .ref (ad kd i) :: rest)) := by
  have hl := q_alt kd
  refine va_zald (f := fun j => iI (C kd j i)) X.1 X.2.1 X.2.2.2.2.2.1 (q_one (q_ald hP hkd hi ht hc)) 0 2 rfl rfl (iI_in h0 h1 hl) hdg ?_
  rw [iI_cl ⟨by omega, by omega⟩]
  exact kk
theorem q_rld (X : q_X p s m args c cc nL Ts own g s0) (hP : q_P g s0 n ad C H) (kd i k t0 : Nat) {z : Int} {cA : ClassId} {Cn : String} (hkd : ¬ kd < 6) (ht : (q_arr kd).1 = k + 3) (hc : (q_arr kd).2.2 = t0) (hty : (q_tys g)[t0]? = some (g.2.2 t0, .object Cn)) (hi : i < n kd) (h0 : 0 ≤ z) (h1 : z < ((q_arr kd).2.1 : Int)) (hdg : decode cc pc = .ok (.aaload, 1))
    (kk : W p l e R s m args below meth c H locs cells slots Q (F0 m (pc + 1) ls (va_rf (q_rf ad k (C kd z.toNat i)) :: rest))) : W p l e R s m args below meth c H locs cells slots Q (F0 m pc ls (.int (iI z) :: .ref (ad kd i) :: rest)) := by
  have hl := q_alt kd
  refine va_aldq (f := fun j => q_rf ad k (C kd j i)) X.1 X.2.1 X.2.2.2.2.2.1 (q_one (q_ald hP hkd hi ht hc)) 0 t0 rfl hty (iI_in h0 h1 hl) hdg ?_
  rw [iI_cl ⟨by omega, by omega⟩]
  exact kk
theorem q_len (X : q_X p s m args c cc nL Ts own g s0) (hP : q_P g s0 n ad C H) (kd i t0 : Nat) {z : Int} {ty : FieldType} (hkd : ¬ kd < 6) (hc : (q_arr kd).2.2 = t0) (hty : (q_tys g)[t0]? = some (g.2.2 t0, ty)) (hi : i < n kd) (hz : ((q_arr kd).2.1 : Int) = z) (hdg : decode cc pc = .ok (.arraylength, 1))
    (kk : W p l e R s m args below meth c H locs cells slots Q (F0 m (pc + 1) ls (.int (iI z) :: rest))) : W p l e R s m args below meth c H locs cells slots Q (F0 m pc ls (.ref (ad kd i) :: rest)) := by
  refine va_alen (v := iI z) X.1 X.2.1 X.2.2.2.2.2.1 (q_one (q_ald hP hkd hi rfl hc)) 0 t0 rfl hty ?_ hdg kk
  show Int32.ofNat (q_arr kd).2.1 = iI z
  rw [← hz]
  exact (Int32.ofInt_eq_ofNat).symm
theorem q_ist (X : q_X p s m args c cc nL Ts own g s0) (hP : q_P g s0 n ad C H) (hS : va_S (q_A s0) s.heap H locs) (kd i : Nat) {z x : Int} (hkd : ¬ kd < 6) (ht : (q_arr kd).1 = 0) (hc : (q_arr kd).2.2 = 0) (hi : i < n kd) (h0 : 0 ≤ z) (h1 : z < ((q_arr kd).2.1 : Int)) (hx : R32 x) (hdg : decode cc pc = .ok (.iastore, 1))
    (kk : ∀ (H1 : Heap) (locs1 : List Loc), q_P g s0 n ad (q_up C kd z.toNat i x) H1 → va_S (q_A s0) s.heap H1 locs1 → W p l e R s m args below meth c H1 locs1 cells slots Q (F0 m (pc + 1) ls rest)) : W p l e R s m args below meth c H locs cells slots Q (F0 m pc ls (.int (iI x) :: .int (iI z) :: .ref (ad kd i) :: rest)) := by
  have hl := q_alt kd
  refine W.iast X.1 X.2.1 (q_ald hP hkd hi ht hc) ((X.2.2.2.2.2.1.2 0 _ rfl).1 _ (fun j => .int (iI (C kd j i)))) (fun q => by cases q) (by show ¬ (iI z < 0 ∨ (arrV _ _ _).slots.size ≤ _); rw [arrV_size]; exact iI_in h0 h1 hl) rfl rfl hdg fun H1 e z1 oq => ?_
  refine kk H1 _ (hP.set hi (by unfold q_ty; rw [if_neg hkd, ht]; exact hx) ?_ oq) (hS.put z1 oq (hP.1 kd i hi).1)
  rw [q_entA g ad _ i hkd, ht, hc]
  show H1[ad kd i]? = some (vp_cell _ _)
  rw [e]
  show some (Cell.setSlot (arrV (g.2.2 0) (q_arr kd).2.1 (fun j => Value.int (iI (C kd j i)))) _ _) = some (arrV (g.2.2 0) (q_arr kd).2.1 (fun j => Value.int (iI (q_up C kd z.toNat i x kd j i))))
  rw [arrV_store, iI_cl ⟨by omega, by omega⟩]
  congr 2
  funext j
  by_cases hq : j = z.toNat
  · subst hq
    simp [updV, q_up]
  · simp [updV, q_up, hq]
theorem q_lst (X : q_X p s m args c cc nL Ts own g s0) (hP : q_P g s0 n ad C H) (hS : va_S (q_A s0) s.heap H locs) (kd i : Nat) {z x : Int} (hkd : ¬ kd < 6) (ht : (q_arr kd).1 = 1) (hc : (q_arr kd).2.2 = 1) (hi : i < n kd) (h0 : 0 ≤ z) (h1 : z < ((q_arr kd).2.1 : Int)) (hx : R64 x) (hdg : decode cc pc = .ok (.lastore, 1))
    (kk : ∀ (H1 : Heap) (locs1 : List Loc), q_P g s0 n ad (q_up C kd z.toNat i x) H1 → va_S (q_A s0) s.heap H1 locs1 → W p l e R s m args below meth c H1 locs1 cells slots Q (F0 m (pc + 1) ls rest)) : W p l e R s m args below meth c H locs cells slots Q (F0 m pc ls (.long (jI x) :: .int (iI z) :: .ref (ad kd i) :: rest)) := by
  have hl := q_alt kd
  refine W.last X.1 X.2.1 (q_ald hP hkd hi ht hc) ((X.2.2.2.2.2.1.2 1 _ rfl).1 _ (fun j => .long (jI (C kd j i)))) (fun q => by cases q) (by show ¬ (iI z < 0 ∨ (arrV _ _ _).slots.size ≤ _); rw [arrV_size]; exact iI_in h0 h1 hl) rfl rfl hdg fun H1 e z1 oq => ?_
  refine kk H1 _ (hP.set hi (by unfold q_ty; rw [if_neg hkd, ht]; exact hx) ?_ oq) (hS.put z1 oq (hP.1 kd i hi).1)
  rw [q_entA g ad _ i hkd, ht, hc]
  show H1[ad kd i]? = some (vp_cell _ _)
  rw [e]
  show some (Cell.setSlot (arrV (g.2.2 1) (q_arr kd).2.1 (fun j => Value.long (jI (C kd j i)))) _ _) = some (arrV (g.2.2 1) (q_arr kd).2.1 (fun j => Value.long (jI (q_up C kd z.toNat i x kd j i))))
  rw [arrV_store, iI_cl ⟨by omega, by omega⟩]
  congr 2
  funext j
  by_cases hq : j = z.toNat
  · subst hq
    simp [updV, q_up]
  · simp [updV, q_up, hq]
theorem q_zst (X : q_X p s m args c cc nL Ts own g s0) (hP : q_P g s0 n ad C H) (hS : va_S (q_A s0) s.heap H locs) (kd i : Nat) {z x : Int} (hkd : ¬ kd < 6) (ht : (q_arr kd).1 = 2) (hc : (q_arr kd).2.2 = 2) (hi : i < n kd) (h0 : 0 ≤ z) (h1 : z < ((q_arr kd).2.1 : Int)) (hx : x = 0 ∨ x = 1) (hdg : decode cc pc = .ok (.bastore, 1))
    (kk : ∀ (H1 : Heap) (locs1 : List Loc), q_P g s0 n ad (q_up C kd z.toNat i x) H1 → va_S (q_A s0) s.heap H1 locs1 → W p l e R s m args below meth c H1 locs1 cells slots Q (F0 m (pc + 1) ls rest)) : W p l e R s m args below meth c H locs cells slots Q (F0 m pc ls (.int (iI x) :: .int (iI z) :: .ref (ad kd i) :: rest)) := by
  have hl := q_alt kd
  refine W.zast X.1 X.2.1 (q_ald hP hkd hi ht hc) ((X.2.2.2.2.2.1.2 2 _ rfl).1 _ (fun j => .int (iI (C kd j i)))) (fun q => by cases q) (by show ¬ (iI z < 0 ∨ (arrV _ _ _).slots.size ≤ _); rw [arrV_size]; exact iI_in h0 h1 hl) rfl rfl hdg fun H1 e z1 oq => ?_
  refine kk H1 _ (hP.set hi (by unfold q_ty; rw [if_neg hkd, ht]; exact hx) ?_ oq) (hS.put z1 oq (hP.1 kd i hi).1)
  rw [q_entA g ad _ i hkd, ht, hc]
  show H1[ad kd i]? = some (vp_cell _ _)
  rw [e, q_zn hx]
  show some (Cell.setSlot (arrV (g.2.2 2) (q_arr kd).2.1 (fun j => Value.int (iI (C kd j i)))) _ _) = some (arrV (g.2.2 2) (q_arr kd).2.1 (fun j => Value.int (iI (q_up C kd z.toNat i x kd j i))))
  rw [arrV_store, iI_cl ⟨by omega, by omega⟩]
  congr 2
  funext j
  by_cases hq : j = z.toNat
  · subst hq
    simp [updV, q_up]
  · simp [updV, q_up, hq]
-- ends
theorem q_F {t : State} (hS : va_S (q_A s0) s.heap H locs) (ht : t.heap = H) : va_F (q_A s0) s t := hS.F ht
theorem q_end {t : State} (X : q_X p s m args c cc nL Ts own g s0) (hP : q_P g s0 n ad C H) (hS : va_S (q_A s0) s.heap H locs) (ht : t.heap = H) (hW : s.WarmedH t.vm) : q_B g s0 (n, ad, C) t := by
  obtain ⟨-, -, -, -, -, hK, hZ, h0⟩ := X
  refine ⟨by rw [ht]; exact Nat.le_trans h0 hS.1, by rw [ht]; exact hP, q_moved hW.alike hK, ?_⟩
  rw [ht]
  exact (hZ.kept hS.2.1).moved hW.alike
theorem q_iret (X : q_X p s m args c cc nL Ts own g s0) (hr : meth.sig.returnType = some .int) (hlocks : meth.locks = false) (hP : q_P g s0 n ad C H) (hS : va_S (q_A s0) s.heap H locs) {post : Int32 → q_U → Prop} {z : Int32} {mc ms : Nat} (hp : post z (n, ad, C)) (hc : cells ≤ mc) (hs : slots ≤ ms) (hdg : decode cc pc = .ok (.ireturn, 1)) :
    W p l e R s m args below meth c H locs cells slots (MQ below (va_Qi post (q_B g s0) (q_A s0)) args s mc ms (q_A s0)) (F0 m pc ls [.int z]) := by
  refine W.widen hc hs ?_
  exact W.iret (v := z) X.1 X.2.1 hr (fun t ht hW => ⟨⟨z, (n, ad, C), rfl, hp, q_end X hP hS ht hW⟩, hS.F ht⟩) hS.2.2 hdg hlocks
theorem q_zret (X : q_X p s m args c cc nL Ts own g s0) (hr : meth.sig.returnType = some .boolean) (hlocks : meth.locks = false) (hP : q_P g s0 n ad C H) (hS : va_S (q_A s0) s.heap H locs) {post : Int32 → q_U → Prop} {z : Int} {mc ms : Nat} (hz : z = 0 ∨ z = 1) (hp : post (iI z) (n, ad, C)) (hc : cells ≤ mc) (hs : slots ≤ ms) (hdg : decode cc pc = .ok (.ireturn, 1)) :
    W p l e R s m args below meth c H locs cells slots (MQ below (va_Qi post (q_B g s0) (q_A s0)) args s mc ms (q_A s0)) (F0 m pc ls [.int (iI z)]) := by
  refine W.widen hc hs ?_
  exact W.zret (v := iI z) X.1 X.2.1 hr (q_zn hz) (fun t ht hW => ⟨⟨iI z, (n, ad, C), rfl, hp, q_end X hP hS ht hW⟩, hS.F ht⟩) hS.2.2 hdg hlocks
theorem q_lret (X : q_X p s m args c cc nL Ts own g s0) (hr : meth.sig.returnType = some .long) (hlocks : meth.locks = false) (hP : q_P g s0 n ad C H) (hS : va_S (q_A s0) s.heap H locs) {post : Int64 → q_U → Prop} {z : Int64} {mc ms : Nat} (hp : post z (n, ad, C)) (hc : cells ≤ mc) (hs : slots ≤ ms) (hdg : decode cc pc = .ok (.lreturn, 1)) :
    W p l e R s m args below meth c H locs cells slots (MQ below (va_Ql post (q_B g s0) (q_A s0)) args s mc ms (q_A s0)) (F0 m pc ls [.long z]) := by
  refine W.widen hc hs ?_
  exact W.lret (v := z) X.1 X.2.1 hr (fun t ht hW => ⟨⟨z, (n, ad, C), rfl, hp, q_end X hP hS ht hW⟩, hS.F ht⟩) hS.2.2 hdg hlocks
theorem q_vret (X : q_X p s m args c cc nL Ts own g s0) (hr : meth.sig.returnType = none) (hlocks : meth.locks = false) (hP : q_P g s0 n ad C H) (hS : va_S (q_A s0) s.heap H locs) {post : q_U → Prop} {mc ms : Nat} (hp : post (n, ad, C)) (hc : cells ≤ mc) (hs : slots ≤ ms) (hdg : decode cc pc = .ok (.return_, 1)) :
    W p l e R s m args below meth c H locs cells slots (MQ below (va_Qv post (q_B g s0) (q_A s0)) args s mc ms (q_A s0)) (F0 m pc ls []) := by
  refine W.widen hc hs ?_
  exact W.vret X.1 X.2.1 hr (fun t ht hW => ⟨⟨(n, ad, C), rfl, hp, q_end X hP hS ht hW⟩, hS.F ht⟩) hS.2.2 hdg hlocks
theorem q_aret (X : q_X p s m args c cc nL Ts own g s0) {Cn : String} (hr : meth.sig.returnType = some (.object Cn)) (hlocks : meth.locks = false) (hP : q_P g s0 n ad C H) (hS : va_S (q_A s0) s.heap H locs) {post : Option Nat → q_U → Prop} {r : Option Nat} {mc ms : Nat} (hp : post r (n, ad, C)) (hc : cells ≤ mc) (hs : slots ≤ ms) (hdg : decode cc pc = .ok (.areturn, 1)) :
    W p l e R s m args below meth c H locs cells slots (MQ below (va_Qq post (q_B g s0) (q_A s0)) args s mc ms (q_A s0)) (F0 m pc ls [va_rf r]) := by
  refine W.widen hc hs ?_
  exact W.aret (v := va_rf r) X.1 X.2.1 hr (Or.inl ⟨_, rfl⟩) (va_rf_or r) (fun t ht hW => ⟨⟨r, (n, ad, C), rfl, hp, q_end X hP hS ht hW⟩, hS.F ht⟩) hS.2.2 hdg hlocks
-- starts of calls
theorem q_blind (av : List Value) (u : q_U) : FrameBlind (va_Pc av (q_B g s0 u)) := by
  intro a U g' mk q
  obtain ⟨q0, q1, q2, q3, q4⟩ := q
  exact ⟨q0, q1, q2, q_moved (u := U) (U := U.calling g' mk a) (Vm.Alike.refl U.vm) q3, q4.moved (u := U) (U := U.calling g' mk a) (Vm.Alike.refl U.vm)⟩
theorem q_at {U : State} (X : q_X p s m args c cc nL Ts own g s0) (hP : q_P g s0 n ad C H) (hS : va_S (q_A s0) s.heap H locs) (hU : U.heap = H) (hW : s.WarmedH U.vm) : q_B g s0 (n, ad, C) U := q_end X hP hS hU hW
theorem q_preS (X : q_X p s m args c cc nL Ts own g s0) (hP : q_P g s0 n ad C H) (hS : va_S (q_A s0) s.heap H locs) (As : List Value) : PreS s H (va_Pc As (q_B g s0 (n, ad, C))) As := ⟨q_blind _ _, fun U hU hW => ⟨rfl, q_at X hP hS hU hW⟩⟩
theorem q_recv (X : q_X p s m args c cc nL Ts own g s0) (hP : q_P g s0 n ad C H) {kd i : Nat} {r : vw_C} (hkd : kd < 6) (hc : vwCl[kd]? = some r) (hi : i < n kd) : ∃ cell : Cell, H[ad kd i]? = some cell ∧ cell.vm.isStatics = false ∧ s.vm.findClass r.1 = some cell.cls := by
  have he := (hP.1 kd i hi).2
  rw [q_entO g ad C i hkd] at he
  exact va_recv X.2.2.2.2.2.1 (q_one he) hc (q0 := 0) rfl
theorem q_preV (X : q_X p s m args c cc nL Ts own g s0) (hP : q_P g s0 n ad C H) (hS : va_S (q_A s0) s.heap H locs) (As : List Value) {kd i : Nat} {r : vw_C} (hkd : kd < 6) (hc : vwCl[kd]? = some r) (hi : i < n kd) : PreV s H r.1 (ad kd i) (va_Pc (.ref (ad kd i) :: As) (q_B g s0 (n, ad, C))) As := ⟨q_blind _ _, q_recv X hP hkd hc hi, fun U hU hW => ⟨rfl, q_at X hP hS hU hW⟩⟩
theorem q_id {H : Heap} : ∀ q, q < H.size → q_A s0 q → q_A s0 q := fun _ _ h => h
theorem q_id1 : ∀ q, q_A s0 q → q_A s0 q := fun _ h => h
theorem q_back {u : q_U} {t : State} {H1 : Heap} (hB : q_B g s0 u t) (ht : t.heap = H1) : q_P g s0 u.1 u.2.1 u.2.2 H1 := by rw [← ht]; exact hB.2.1
theorem q_start (hx : p.tables.exec = Jvm.exec) (hb : c.code = cc) (hml : c.maxLocals = nL) (hown : s.vm.findClass own = some m.cls) (hts : ∀ w ∈ Ts, w.before args s = true) {u : q_U} (hv : q_B g s0 u s) : q_X p s m args c cc nL Ts own g s0 ∧ q_P g s0 u.1 u.2.1 u.2.2 s.heap := ⟨⟨hx, hb, hml, hown, hts, hv.2.2.1, hv.2.2.2, hv.1⟩, hv.2.1⟩
end QROWS
end
section
section QINT
variable {p : Program} {l : Launch} {e : Env} {R : Room} {s : State} {m : MethodId} {args : Array Value} {below : List Frame} {meth : Method} {c : Code} {H : Heap} {locs : List Loc} {cells slots : Nat} {Q : State → Prop}
variable {cc : ByteArray} {pc nL : Nat} {ls : Array Slot} {rest : List Value} {g : q_G} {s0 : Nat} {n : Nat → Nat} {ad : Nat → Nat → Nat} {C : q_S} {Ts : List Cond} {own : String}

theorem q_iadd (X : q_X p s m args c cc nL Ts own g s0) {a b : Int} (hdg : decode cc pc = .ok (.iadd, 1)) (kk : W p l e R s m args below meth c H locs cells slots Q (F0 m (pc + 1) ls (.int (iI (a + b)) :: rest))) : W p l e R s m args below meth c H locs cells slots Q (F0 m pc ls (.int (iI b) :: .int (iI a) :: rest)) := by
  refine lv_iadd X.1 X.2.1 hdg ?_
  rw [← Int32.ofInt_add]
  exact kk
theorem q_isub (X : q_X p s m args c cc nL Ts own g s0) {a b : Int} (hdg : decode cc pc = .ok (.isub, 1)) (kk : W p l e R s m args below meth c H locs cells slots Q (F0 m (pc + 1) ls (.int (iI (a - b)) :: rest))) : W p l e R s m args below meth c H locs cells slots Q (F0 m pc ls (.int (iI b) :: .int (iI a) :: rest)) := by
  refine lv_isub X.1 X.2.1 hdg ?_
  rw [← Int32.ofInt_sub]
  exact kk
theorem q_imul (X : q_X p s m args c cc nL Ts own g s0) {a b : Int} (hdg : decode cc pc = .ok (.imul, 1)) (kk : W p l e R s m args below meth c H locs cells slots Q (F0 m (pc + 1) ls (.int (iI (a * b)) :: rest))) : W p l e R s m args below meth c H locs cells slots Q (F0 m pc ls (.int (iI b) :: .int (iI a) :: rest)) := by
  refine lv_imul X.1 X.2.1 hdg ?_
  rw [← Int32.ofInt_mul]
  exact kk
theorem q_ladd (X : q_X p s m args c cc nL Ts own g s0) {a b : Int} (hdg : decode cc pc = .ok (.ladd, 1)) (kk : W p l e R s m args below meth c H locs cells slots Q (F0 m (pc + 1) ls (.long (jI (a + b)) :: rest))) : W p l e R s m args below meth c H locs cells slots Q (F0 m pc ls (.long (jI b) :: .long (jI a) :: rest)) := by
  refine lv_ladd X.1 X.2.1 hdg ?_
  rw [← Int64.ofInt_add]
  exact kk
theorem q_lsub (X : q_X p s m args c cc nL Ts own g s0) {a b : Int} (hdg : decode cc pc = .ok (.lsub, 1)) (kk : W p l e R s m args below meth c H locs cells slots Q (F0 m (pc + 1) ls (.long (jI (a - b)) :: rest))) : W p l e R s m args below meth c H locs cells slots Q (F0 m pc ls (.long (jI b) :: .long (jI a) :: rest)) := by
  refine lv_lsub X.1 X.2.1 hdg ?_
  rw [← Int64.ofInt_sub]
  exact kk
theorem q_idiv (X : q_X p s m args c cc nL Ts own g s0) {a b : Int} (ha : 0 ≤ a ∧ a ≤ 2147483647) (hb : 0 < b ∧ b ≤ 2147483647) (hdg : decode cc pc = .ok (.idiv, 1)) (kk : W p l e R s m args below meth c H locs cells slots Q (F0 m (pc + 1) ls (.int (iI (a / b)) :: rest))) : W p l e R s m args below meth c H locs cells slots Q (F0 m pc ls (.int (iI b) :: .int (iI a) :: rest)) := by
  refine lv_idiv X.1 X.2.1 hdg (fun h => ?_) ?_
  · have := (iI_eq (a := b) (b := 0) ⟨by omega, by omega⟩ ⟨by omega, by omega⟩).mp h
    omega
  · rw [iI_div ha.1 ha.2 hb.1 hb.2]
    exact kk
theorem q_irem (X : q_X p s m args c cc nL Ts own g s0) {a b : Int} (ha : 0 ≤ a ∧ a ≤ 2147483647) (hb : 0 < b ∧ b ≤ 2147483647) (hdg : decode cc pc = .ok (.irem, 1)) (kk : W p l e R s m args below meth c H locs cells slots Q (F0 m (pc + 1) ls (.int (iI (a % b)) :: rest))) : W p l e R s m args below meth c H locs cells slots Q (F0 m pc ls (.int (iI b) :: .int (iI a) :: rest)) := by
  refine lv_irem X.1 X.2.1 hdg (fun h => ?_) ?_
  · have := (iI_eq (a := b) (b := 0) ⟨by omega, by omega⟩ ⟨by omega, by omega⟩).mp h
    omega
  · rw [iI_rem ha.1 ha.2 hb.1 hb.2]
    exact kk
theorem q_i2l (X : q_X p s m args c cc nL Ts own g s0) {a : Int} (ha : R32 a) (hdg : decode cc pc = .ok (.i2l, 1)) (kk : W p l e R s m args below meth c H locs cells slots Q (F0 m (pc + 1) ls (.long (jI a) :: rest))) : W p l e R s m args below meth c H locs cells slots Q (F0 m pc ls (.int (iI a) :: rest)) := lv_i2l X.1 X.2.1 hdg (iI_l ha) kk
theorem q_ldc2 (X : q_X p s m args c cc nL Ts own g s0) {index : Nat} {v : Int64} {z : Int} (hv : v = jI z) (hc : Cond.constantLong own index v ∈ Ts) (hdg : decode cc pc = .ok (.ldc2_w index, 3)) (kk : W p l e R s m args below meth c H locs cells slots Q (F0 m (pc + 3) ls (.long (jI z) :: rest))) : W p l e R s m args below meth c H locs cells slots Q (F0 m pc ls rest) := by
  subst hv
  exact lv_ldc2 X.1 X.2.1 X.2.2.2.1 (X.2.2.2.2.1 _ hc) hdg kk
theorem q_ldc (X : q_X p s m args c cc nL Ts own g s0) {index : Nat} {v : Int32} {z : Int} (hv : v = iI z) (hc : Cond.constant own index v ∈ Ts) (hdg : decode cc pc = .ok (.ldc index, 2)) (kk : W p l e R s m args below meth c H locs cells slots Q (F0 m (pc + 2) ls (.int (iI z) :: rest))) : W p l e R s m args below meth c H locs cells slots Q (F0 m pc ls rest) := by
  subst hv
  exact lv_ldc X.1 X.2.1 X.2.2.2.1 (X.2.2.2.2.1 _ hc) hdg kk
theorem q_iinc (X : q_X p s m args c cc nL Ts own g s0) {i k : Nat} {d a : Int} {lv lv' : List (Nat × Value)} (hdg : decode cc pc = .ok (.iinc i d, 3)) (h : lv_has ls nL lv) (hk : lv[k]? = some (i, .int (iI a))) (hn : i < nL) (hl : (i, Value.int (iI (a + d))) :: lv.filter (fun q => !(q.1 == i) && !(q.1 + 1 == i && q.2.category == 2)) = lv')
    (kk : ∀ ls' : Array Slot, lv_has ls' nL lv' → W p l e R s m args below meth c H locs cells slots Q (F0 m (pc + 3) ls' rest)) : W p l e R s m args below meth c H locs cells slots Q (F0 m pc ls rest) := lv_iinc (v := iI (a + d)) X.1 X.2.1 hdg h hk (Int32.ofInt_add a d).symm hn hl kk
theorem q_mmin (X : q_X p s m args c cc nL Ts own g s0) (hml : c.maxLocals = ls.size) {index : Nat} {a b z : Int} (ha : R32 a) (hb : R32 b) (hz : z = if b < a then b else a) (h1 : Cond.methodLink own index Lib.Math.min.name ∈ Ts) (h2 : Cond.static Lib.Math.min.name ∈ Ts) (h3 : Cond.initialized "java/lang/Math" ∈ Ts) (h4 : Cond.code Lib.Math.min.name Lib.Math.min.code 2 (some .int) ∈ Ts)
    (hframes : 1 ≤ R.frames) (hlocals : (rest.map fun v => v.category).sum + 13 ≤ R.locals) (hc : cells ≤ R.cells) (hs : slots ≤ R.slots) (hdg : decode cc pc = .ok (.invokestatic index, 3))
    (kk : W p l e R s m args below meth c H locs cells slots Q (F0 m (pc + 3) ls (.int (iI z) :: rest))) : W p l e R s m args below meth c H locs cells slots Q (F0 m pc ls (.int (iI b) :: .int (iI a) :: rest)) := by
  have hts := X.2.2.2.2.1
  refine va_mmin X.1 X.2.1 hml X.2.2.2.1 (hts _ h1) (hts _ h2) (hts _ h3) (hts _ h4) hframes hlocals hc hs hdg ?_
  have e : (if iI b < iI a then iI b else iI a) = iI z := by
    rw [hz]
    by_cases h : b < a
    · rw [if_pos h, if_pos ((iI_lt hb ha).mpr h)]
    · rw [if_neg h, if_neg (fun q => h ((iI_lt hb ha).mp q))]
  rw [e]
  exact kk
theorem q_icmp_eq (X : q_X p s m args c cc nL Ts own g s0) {a b : Int} {off : Int} {tgt : Nat} (ha : R32 a) (hb : R32 b) (hdg : decode cc pc = .ok (.if_icmp .eq off, 3)) (ht : (pc : Int) + off = (tgt : Int)) (kt : a = b → W p l e R s m args below meth c H locs cells slots Q (F0 m tgt ls rest)) (kf : ¬ a = b → W p l e R s m args below meth c H locs cells slots Q (F0 m (pc + 3) ls rest)) : W p l e R s m args below meth c H locs cells slots Q (F0 m pc ls (.int (iI b) :: .int (iI a) :: rest)) := lv_icmp_eq X.1 X.2.1 hdg ht (fun h => kt ((iI_eq ha hb).mp h)) (fun h => kf (fun q => h ((iI_eq ha hb).mpr q)))
theorem q_if_eq (X : q_X p s m args c cc nL Ts own g s0) {a : Int} {off : Int} {tgt : Nat} (ha : R32 a) (hdg : decode cc pc = .ok (.ifCond .eq off, 3)) (ht : (pc : Int) + off = (tgt : Int)) (kt : a = 0 → W p l e R s m args below meth c H locs cells slots Q (F0 m tgt ls rest)) (kf : ¬ a = 0 → W p l e R s m args below meth c H locs cells slots Q (F0 m (pc + 3) ls rest)) : W p l e R s m args below meth c H locs cells slots Q (F0 m pc ls (.int (iI a) :: rest)) := by
  have hb : R32 0 := by decide
  exact lv_if_eq X.1 X.2.1 hdg ht (fun h => kt ((iI_eq ha hb).mp h)) (fun h => kf (fun q => h ((iI_eq ha hb).mpr q)))
theorem q_lcmp_eq (X : q_X p s m args c cc nL Ts own g s0) {a b : Int} {off : Int} {tgt : Nat} (ha : R64 a) (hb : R64 b) (hd1 : decode cc pc = .ok (.lcmp, 1)) (hdg : decode cc (pc + 1) = .ok (.ifCond .eq off, 3)) (ht : ((pc + 1 : Nat) : Int) + off = (tgt : Int)) (kt : a = b → W p l e R s m args below meth c H locs cells slots Q (F0 m tgt ls rest)) (kf : ¬ a = b → W p l e R s m args below meth c H locs cells slots Q (F0 m (pc + 1 + 3) ls rest)) : W p l e R s m args below meth c H locs cells slots Q (F0 m pc ls (.long (jI b) :: .long (jI a) :: rest)) := by
  refine W.lcmp X.1 X.2.1 hd1 ?_
  have e : lg_cmp (jI a) (jI b) = iI (if b < a then 1 else if a = b then 0 else -1) := by
    unfold lg_cmp
    simp only [gt_iff_lt, jI_lt hb ha, jI_eq ha hb]
    split
    · rfl
    · split <;> rfl
  rw [e]
  have hr : R32 (if b < a then (1 : Int) else if a = b then 0 else -1) := by
    by_cases h1 : b < a
    · rw [if_pos h1]; decide
    · rw [if_neg h1]
      by_cases h2 : a = b
      · rw [if_pos h2]; decide
      · rw [if_neg h2]; decide
  refine q_if_eq X hr hdg ht (fun h => kt ?_) (fun h => kf ?_)
  · split at h
    · omega
    · split at h <;> omega
  · split at h
    · omega
    · split at h <;> omega
theorem q_icmp_ne (X : q_X p s m args c cc nL Ts own g s0) {a b : Int} {off : Int} {tgt : Nat} (ha : R32 a) (hb : R32 b) (hdg : decode cc pc = .ok (.if_icmp .ne off, 3)) (ht : (pc : Int) + off = (tgt : Int)) (kt : ¬ a = b → W p l e R s m args below meth c H locs cells slots Q (F0 m tgt ls rest)) (kf : a = b → W p l e R s m args below meth c H locs cells slots Q (F0 m (pc + 3) ls rest)) : W p l e R s m args below meth c H locs cells slots Q (F0 m pc ls (.int (iI b) :: .int (iI a) :: rest)) := lv_icmp_ne X.1 X.2.1 hdg ht (fun h => kt (fun q => h ((iI_eq ha hb).mpr q))) (fun h => kf ((iI_eq ha hb).mp h))
theorem q_if_ne (X : q_X p s m args c cc nL Ts own g s0) {a : Int} {off : Int} {tgt : Nat} (ha : R32 a) (hdg : decode cc pc = .ok (.ifCond .ne off, 3)) (ht : (pc : Int) + off = (tgt : Int)) (kt : ¬ a = 0 → W p l e R s m args below meth c H locs cells slots Q (F0 m tgt ls rest)) (kf : a = 0 → W p l e R s m args below meth c H locs cells slots Q (F0 m (pc + 3) ls rest)) : W p l e R s m args below meth c H locs cells slots Q (F0 m pc ls (.int (iI a) :: rest)) := by
  have hb : R32 0 := by decide
  exact lv_if_ne X.1 X.2.1 hdg ht (fun h => kt (fun q => h ((iI_eq ha hb).mpr q))) (fun h => kf ((iI_eq ha hb).mp h))
theorem q_lcmp_ne (X : q_X p s m args c cc nL Ts own g s0) {a b : Int} {off : Int} {tgt : Nat} (ha : R64 a) (hb : R64 b) (hd1 : decode cc pc = .ok (.lcmp, 1)) (hdg : decode cc (pc + 1) = .ok (.ifCond .ne off, 3)) (ht : ((pc + 1 : Nat) : Int) + off = (tgt : Int)) (kt : ¬ a = b → W p l e R s m args below meth c H locs cells slots Q (F0 m tgt ls rest)) (kf : a = b → W p l e R s m args below meth c H locs cells slots Q (F0 m (pc + 1 + 3) ls rest)) : W p l e R s m args below meth c H locs cells slots Q (F0 m pc ls (.long (jI b) :: .long (jI a) :: rest)) := by
  refine W.lcmp X.1 X.2.1 hd1 ?_
  have e : lg_cmp (jI a) (jI b) = iI (if b < a then 1 else if a = b then 0 else -1) := by
    unfold lg_cmp
    simp only [gt_iff_lt, jI_lt hb ha, jI_eq ha hb]
    split
    · rfl
    · split <;> rfl
  rw [e]
  have hr : R32 (if b < a then (1 : Int) else if a = b then 0 else -1) := by
    by_cases h1 : b < a
    · rw [if_pos h1]; decide
    · rw [if_neg h1]
      by_cases h2 : a = b
      · rw [if_pos h2]; decide
      · rw [if_neg h2]; decide
  refine q_if_ne X hr hdg ht (fun h => kt ?_) (fun h => kf ?_)
  · split at h
    · omega
    · split at h <;> omega
  · split at h
    · omega
    · split at h <;> omega
theorem q_icmp_lt (X : q_X p s m args c cc nL Ts own g s0) {a b : Int} {off : Int} {tgt : Nat} (ha : R32 a) (hb : R32 b) (hdg : decode cc pc = .ok (.if_icmp .lt off, 3)) (ht : (pc : Int) + off = (tgt : Int)) (kt : a < b → W p l e R s m args below meth c H locs cells slots Q (F0 m tgt ls rest)) (kf : b ≤ a → W p l e R s m args below meth c H locs cells slots Q (F0 m (pc + 3) ls rest)) : W p l e R s m args below meth c H locs cells slots Q (F0 m pc ls (.int (iI b) :: .int (iI a) :: rest)) := lv_icmp_lt X.1 X.2.1 hdg ht (fun h => kt ((iI_lt ha hb).mp h)) (fun h => kf (Int.not_lt.mp fun q => h ((iI_lt ha hb).mpr q)))
theorem q_if_lt (X : q_X p s m args c cc nL Ts own g s0) {a : Int} {off : Int} {tgt : Nat} (ha : R32 a) (hdg : decode cc pc = .ok (.ifCond .lt off, 3)) (ht : (pc : Int) + off = (tgt : Int)) (kt : a < 0 → W p l e R s m args below meth c H locs cells slots Q (F0 m tgt ls rest)) (kf : 0 ≤ a → W p l e R s m args below meth c H locs cells slots Q (F0 m (pc + 3) ls rest)) : W p l e R s m args below meth c H locs cells slots Q (F0 m pc ls (.int (iI a) :: rest)) := by
  have hb : R32 0 := by decide
  exact lv_if_lt X.1 X.2.1 hdg ht (fun h => kt ((iI_lt ha hb).mp h)) (fun h => kf (Int.not_lt.mp fun q => h ((iI_lt ha hb).mpr q)))
theorem q_lcmp_lt (X : q_X p s m args c cc nL Ts own g s0) {a b : Int} {off : Int} {tgt : Nat} (ha : R64 a) (hb : R64 b) (hd1 : decode cc pc = .ok (.lcmp, 1)) (hdg : decode cc (pc + 1) = .ok (.ifCond .lt off, 3)) (ht : ((pc + 1 : Nat) : Int) + off = (tgt : Int)) (kt : a < b → W p l e R s m args below meth c H locs cells slots Q (F0 m tgt ls rest)) (kf : b ≤ a → W p l e R s m args below meth c H locs cells slots Q (F0 m (pc + 1 + 3) ls rest)) : W p l e R s m args below meth c H locs cells slots Q (F0 m pc ls (.long (jI b) :: .long (jI a) :: rest)) := by
  refine W.lcmp X.1 X.2.1 hd1 ?_
  have e : lg_cmp (jI a) (jI b) = iI (if b < a then 1 else if a = b then 0 else -1) := by
    unfold lg_cmp
    simp only [gt_iff_lt, jI_lt hb ha, jI_eq ha hb]
    split
    · rfl
    · split <;> rfl
  rw [e]
  have hr : R32 (if b < a then (1 : Int) else if a = b then 0 else -1) := by
    by_cases h1 : b < a
    · rw [if_pos h1]; decide
    · rw [if_neg h1]
      by_cases h2 : a = b
      · rw [if_pos h2]; decide
      · rw [if_neg h2]; decide
  refine q_if_lt X hr hdg ht (fun h => kt ?_) (fun h => kf ?_)
  · split at h
    · omega
    · split at h <;> omega
  · split at h
    · omega
    · split at h <;> omega
theorem q_icmp_ge (X : q_X p s m args c cc nL Ts own g s0) {a b : Int} {off : Int} {tgt : Nat} (ha : R32 a) (hb : R32 b) (hdg : decode cc pc = .ok (.if_icmp .ge off, 3)) (ht : (pc : Int) + off = (tgt : Int)) (kt : b ≤ a → W p l e R s m args below meth c H locs cells slots Q (F0 m tgt ls rest)) (kf : a < b → W p l e R s m args below meth c H locs cells slots Q (F0 m (pc + 3) ls rest)) : W p l e R s m args below meth c H locs cells slots Q (F0 m pc ls (.int (iI b) :: .int (iI a) :: rest)) := lv_icmp_ge X.1 X.2.1 hdg ht (fun h => kt ((iI_le hb ha).mp h)) (fun h => kf (Int.not_le.mp fun q => h ((iI_le hb ha).mpr q)))
theorem q_if_ge (X : q_X p s m args c cc nL Ts own g s0) {a : Int} {off : Int} {tgt : Nat} (ha : R32 a) (hdg : decode cc pc = .ok (.ifCond .ge off, 3)) (ht : (pc : Int) + off = (tgt : Int)) (kt : 0 ≤ a → W p l e R s m args below meth c H locs cells slots Q (F0 m tgt ls rest)) (kf : a < 0 → W p l e R s m args below meth c H locs cells slots Q (F0 m (pc + 3) ls rest)) : W p l e R s m args below meth c H locs cells slots Q (F0 m pc ls (.int (iI a) :: rest)) := by
  have hb : R32 0 := by decide
  exact lv_if_ge X.1 X.2.1 hdg ht (fun h => kt ((iI_le hb ha).mp h)) (fun h => kf (Int.not_le.mp fun q => h ((iI_le hb ha).mpr q)))
theorem q_lcmp_ge (X : q_X p s m args c cc nL Ts own g s0) {a b : Int} {off : Int} {tgt : Nat} (ha : R64 a) (hb : R64 b) (hd1 : decode cc pc = .ok (.lcmp, 1)) (hdg : decode cc (pc + 1) = .ok (.ifCond .ge off, 3)) (ht : ((pc + 1 : Nat) : Int) + off = (tgt : Int)) (kt : b ≤ a → W p l e R s m args below meth c H locs cells slots Q (F0 m tgt ls rest)) (kf : a < b → W p l e R s m args below meth c H locs cells slots Q (F0 m (pc + 1 + 3) ls rest)) : W p l e R s m args below meth c H locs cells slots Q (F0 m pc ls (.long (jI b) :: .long (jI a) :: rest)) := by
  refine W.lcmp X.1 X.2.1 hd1 ?_
  have e : lg_cmp (jI a) (jI b) = iI (if b < a then 1 else if a = b then 0 else -1) := by
    unfold lg_cmp
    simp only [gt_iff_lt, jI_lt hb ha, jI_eq ha hb]
    split
    · rfl
    · split <;> rfl
  rw [e]
  have hr : R32 (if b < a then (1 : Int) else if a = b then 0 else -1) := by
    by_cases h1 : b < a
    · rw [if_pos h1]; decide
    · rw [if_neg h1]
      by_cases h2 : a = b
      · rw [if_pos h2]; decide
      · rw [if_neg h2]; decide
  refine q_if_ge X hr hdg ht (fun h => kt ?_) (fun h => kf ?_)
  · split at h
    · omega
    · split at h <;> omega
  · split at h
    · omega
    · split at h <;> omega
theorem q_icmp_gt (X : q_X p s m args c cc nL Ts own g s0) {a b : Int} {off : Int} {tgt : Nat} (ha : R32 a) (hb : R32 b) (hdg : decode cc pc = .ok (.if_icmp .gt off, 3)) (ht : (pc : Int) + off = (tgt : Int)) (kt : b < a → W p l e R s m args below meth c H locs cells slots Q (F0 m tgt ls rest)) (kf : a ≤ b → W p l e R s m args below meth c H locs cells slots Q (F0 m (pc + 3) ls rest)) : W p l e R s m args below meth c H locs cells slots Q (F0 m pc ls (.int (iI b) :: .int (iI a) :: rest)) := lv_icmp_gt X.1 X.2.1 hdg ht (fun h => kt ((iI_lt hb ha).mp h)) (fun h => kf (Int.not_lt.mp fun q => h ((iI_lt hb ha).mpr q)))
theorem q_if_gt (X : q_X p s m args c cc nL Ts own g s0) {a : Int} {off : Int} {tgt : Nat} (ha : R32 a) (hdg : decode cc pc = .ok (.ifCond .gt off, 3)) (ht : (pc : Int) + off = (tgt : Int)) (kt : 0 < a → W p l e R s m args below meth c H locs cells slots Q (F0 m tgt ls rest)) (kf : a ≤ 0 → W p l e R s m args below meth c H locs cells slots Q (F0 m (pc + 3) ls rest)) : W p l e R s m args below meth c H locs cells slots Q (F0 m pc ls (.int (iI a) :: rest)) := by
  have hb : R32 0 := by decide
  exact lv_if_gt X.1 X.2.1 hdg ht (fun h => kt ((iI_lt hb ha).mp h)) (fun h => kf (Int.not_lt.mp fun q => h ((iI_lt hb ha).mpr q)))
theorem q_lcmp_gt (X : q_X p s m args c cc nL Ts own g s0) {a b : Int} {off : Int} {tgt : Nat} (ha : R64 a) (hb : R64 b) (hd1 : decode cc pc = .ok (.lcmp, 1)) (hdg : decode cc (pc + 1) = .ok (.ifCond .gt off, 3)) (ht : ((pc + 1 : Nat) : Int) + off = (tgt : Int)) (kt : b < a → W p l e R s m args below meth c H locs cells slots Q (F0 m tgt ls rest)) (kf : a ≤ b → W p l e R s m args below meth c H locs cells slots Q (F0 m (pc + 1 + 3) ls rest)) : W p l e R s m args below meth c H locs cells slots Q (F0 m pc ls (.long (jI b) :: .long (jI a) :: rest)) := by
  refine W.lcmp X.1 X.2.1 hd1 ?_
  have e : lg_cmp (jI a) (jI b) = iI (if b < a then 1 else if a = b then 0 else -1) := by
    unfold lg_cmp
    simp only [gt_iff_lt, jI_lt hb ha, jI_eq ha hb]
    split
    · rfl
    · split <;> rfl
  rw [e]
  have hr : R32 (if b < a then (1 : Int) else if a = b then 0 else -1) := by
    by_cases h1 : b < a
    · rw [if_pos h1]; decide
    · rw [if_neg h1]
      by_cases h2 : a = b
      · rw [if_pos h2]; decide
      · rw [if_neg h2]; decide
  refine q_if_gt X hr hdg ht (fun h => kt ?_) (fun h => kf ?_)
  · split at h
    · omega
    · split at h <;> omega
  · split at h
    · omega
    · split at h <;> omega
theorem q_icmp_le (X : q_X p s m args c cc nL Ts own g s0) {a b : Int} {off : Int} {tgt : Nat} (ha : R32 a) (hb : R32 b) (hdg : decode cc pc = .ok (.if_icmp .le off, 3)) (ht : (pc : Int) + off = (tgt : Int)) (kt : a ≤ b → W p l e R s m args below meth c H locs cells slots Q (F0 m tgt ls rest)) (kf : b < a → W p l e R s m args below meth c H locs cells slots Q (F0 m (pc + 3) ls rest)) : W p l e R s m args below meth c H locs cells slots Q (F0 m pc ls (.int (iI b) :: .int (iI a) :: rest)) := lv_icmp_le X.1 X.2.1 hdg ht (fun h => kt ((iI_le ha hb).mp h)) (fun h => kf (Int.not_le.mp fun q => h ((iI_le ha hb).mpr q)))
theorem q_if_le (X : q_X p s m args c cc nL Ts own g s0) {a : Int} {off : Int} {tgt : Nat} (ha : R32 a) (hdg : decode cc pc = .ok (.ifCond .le off, 3)) (ht : (pc : Int) + off = (tgt : Int)) (kt : a ≤ 0 → W p l e R s m args below meth c H locs cells slots Q (F0 m tgt ls rest)) (kf : 0 < a → W p l e R s m args below meth c H locs cells slots Q (F0 m (pc + 3) ls rest)) : W p l e R s m args below meth c H locs cells slots Q (F0 m pc ls (.int (iI a) :: rest)) := by
  have hb : R32 0 := by decide
  exact lv_if_le X.1 X.2.1 hdg ht (fun h => kt ((iI_le ha hb).mp h)) (fun h => kf (Int.not_le.mp fun q => h ((iI_le ha hb).mpr q)))
theorem q_lcmp_le (X : q_X p s m args c cc nL Ts own g s0) {a b : Int} {off : Int} {tgt : Nat} (ha : R64 a) (hb : R64 b) (hd1 : decode cc pc = .ok (.lcmp, 1)) (hdg : decode cc (pc + 1) = .ok (.ifCond .le off, 3)) (ht : ((pc + 1 : Nat) : Int) + off = (tgt : Int)) (kt : a ≤ b → W p l e R s m args below meth c H locs cells slots Q (F0 m tgt ls rest)) (kf : b < a → W p l e R s m args below meth c H locs cells slots Q (F0 m (pc + 1 + 3) ls rest)) : W p l e R s m args below meth c H locs cells slots Q (F0 m pc ls (.long (jI b) :: .long (jI a) :: rest)) := by
  refine W.lcmp X.1 X.2.1 hd1 ?_
  have e : lg_cmp (jI a) (jI b) = iI (if b < a then 1 else if a = b then 0 else -1) := by
    unfold lg_cmp
    simp only [gt_iff_lt, jI_lt hb ha, jI_eq ha hb]
    split
    · rfl
    · split <;> rfl
  rw [e]
  have hr : R32 (if b < a then (1 : Int) else if a = b then 0 else -1) := by
    by_cases h1 : b < a
    · rw [if_pos h1]; decide
    · rw [if_neg h1]
      by_cases h2 : a = b
      · rw [if_pos h2]; decide
      · rw [if_neg h2]; decide
  refine q_if_le X hr hdg ht (fun h => kt ?_) (fun h => kf ?_)
  · split at h
    · omega
    · split at h <;> omega
  · split at h
    · omega
    · split at h <;> omega
theorem q_ildv (X : q_X p s m args c cc nL Ts own g s0) (hP : q_P g s0 n ad C H) (kd i : Nat) {z v : Int} {len : Nat} (hkd : ¬ kd < 6) (ht : (q_arr kd).1 = 0) (hc : (q_arr kd).2.2 = 0) (hi : i < n kd) (hlen : (q_arr kd).2.1 = len) (h0 : 0 ≤ z) (h1 : z < (len : Int)) (hv : C kd z.toNat i = v) (hdg : decode cc pc = .ok (.iaload, 1)) (kk : W p l e R s m args below meth c H locs cells slots Q (F0 m (pc + 1) ls (.int (iI v) :: rest))) : W p l e R s m args below meth c H locs cells slots Q (F0 m pc ls (.int (iI z) :: .ref (ad kd i) :: rest)) := by
  subst hv; subst hlen
  exact q_ild X hP kd i hkd ht hc hi h0 h1 hdg kk
theorem q_zldv (X : q_X p s m args c cc nL Ts own g s0) (hP : q_P g s0 n ad C H) (kd i : Nat) {z v : Int} {len : Nat} (hkd : ¬ kd < 6) (ht : (q_arr kd).1 = 2) (hc : (q_arr kd).2.2 = 2) (hi : i < n kd) (hlen : (q_arr kd).2.1 = len) (h0 : 0 ≤ z) (h1 : z < (len : Int)) (hv : C kd z.toNat i = v) (hdg : decode cc pc = .ok (.baload, 1)) (kk : W p l e R s m args below meth c H locs cells slots Q (F0 m (pc + 1) ls (.int (iI v) :: rest))) : W p l e R s m args below meth c H locs cells slots Q (F0 m pc ls (.int (iI z) :: .ref (ad kd i) :: rest)) := by
  subst hv; subst hlen
  exact q_zld X hP kd i hkd ht hc hi h0 h1 hdg kk
theorem q_lldv (X : q_X p s m args c cc nL Ts own g s0) (hP : q_P g s0 n ad C H) (kd i : Nat) {z v : Int} {len : Nat} (hkd : ¬ kd < 6) (ht : (q_arr kd).1 = 1) (hc : (q_arr kd).2.2 = 1) (hi : i < n kd) (hlen : (q_arr kd).2.1 = len) (h0 : 0 ≤ z) (h1 : z < (len : Int)) (hv : C kd z.toNat i = v) (hdg : decode cc pc = .ok (.laload, 1)) (kk : W p l e R s m args below meth c H locs cells slots Q (F0 m (pc + 1) ls (.long (jI v) :: rest))) : W p l e R s m args below meth c H locs cells slots Q (F0 m pc ls (.int (iI z) :: .ref (ad kd i) :: rest)) := by
  subst hv; subst hlen
  exact q_lld X hP kd i hkd ht hc hi h0 h1 hdg kk
theorem q_istv (X : q_X p s m args c cc nL Ts own g s0) (hP : q_P g s0 n ad C H) (hS : va_S (q_A s0) s.heap H locs) (kd i : Nat) {z x : Int} {len : Nat} (hkd : ¬ kd < 6) (ht : (q_arr kd).1 = 0) (hc : (q_arr kd).2.2 = 0) (hi : i < n kd) (hlen : (q_arr kd).2.1 = len) (h0 : 0 ≤ z) (h1 : z < (len : Int)) (hx : R32 x) (hdg : decode cc pc = .ok (.iastore, 1)) (kk : ∀ (H1 : Heap) (locs1 : List Loc), q_P g s0 n ad (q_up C kd z.toNat i x) H1 → va_S (q_A s0) s.heap H1 locs1 → W p l e R s m args below meth c H1 locs1 cells slots Q (F0 m (pc + 1) ls rest)) : W p l e R s m args below meth c H locs cells slots Q (F0 m pc ls (.int (iI x) :: .int (iI z) :: .ref (ad kd i) :: rest)) := by
  subst hlen
  exact q_ist X hP hS kd i hkd ht hc hi h0 h1 hx hdg kk
theorem q_zstv (X : q_X p s m args c cc nL Ts own g s0) (hP : q_P g s0 n ad C H) (hS : va_S (q_A s0) s.heap H locs) (kd i : Nat) {z x : Int} {len : Nat} (hkd : ¬ kd < 6) (ht : (q_arr kd).1 = 2) (hc : (q_arr kd).2.2 = 2) (hi : i < n kd) (hlen : (q_arr kd).2.1 = len) (h0 : 0 ≤ z) (h1 : z < (len : Int)) (hx : x = 0 ∨ x = 1) (hdg : decode cc pc = .ok (.bastore, 1)) (kk : ∀ (H1 : Heap) (locs1 : List Loc), q_P g s0 n ad (q_up C kd z.toNat i x) H1 → va_S (q_A s0) s.heap H1 locs1 → W p l e R s m args below meth c H1 locs1 cells slots Q (F0 m (pc + 1) ls rest)) : W p l e R s m args below meth c H locs cells slots Q (F0 m pc ls (.int (iI x) :: .int (iI z) :: .ref (ad kd i) :: rest)) := by
  subst hlen
  exact q_zst X hP hS kd i hkd ht hc hi h0 h1 hx hdg kk
theorem q_lstv (X : q_X p s m args c cc nL Ts own g s0) (hP : q_P g s0 n ad C H) (hS : va_S (q_A s0) s.heap H locs) (kd i : Nat) {z x : Int} {len : Nat} (hkd : ¬ kd < 6) (ht : (q_arr kd).1 = 1) (hc : (q_arr kd).2.2 = 1) (hi : i < n kd) (hlen : (q_arr kd).2.1 = len) (h0 : 0 ≤ z) (h1 : z < (len : Int)) (hx : R64 x) (hdg : decode cc pc = .ok (.lastore, 1)) (kk : ∀ (H1 : Heap) (locs1 : List Loc), q_P g s0 n ad (q_up C kd z.toNat i x) H1 → va_S (q_A s0) s.heap H1 locs1 → W p l e R s m args below meth c H1 locs1 cells slots Q (F0 m (pc + 1) ls rest)) : W p l e R s m args below meth c H locs cells slots Q (F0 m pc ls (.long (jI x) :: .int (iI z) :: .ref (ad kd i) :: rest)) := by
  subst hlen
  exact q_lst X hP hS kd i hkd ht hc hi h0 h1 hx hdg kk
theorem q_rldv (X : q_X p s m args c cc nL Ts own g s0) (hP : q_P g s0 n ad C H) (kd i k t0 : Nat) {z v : Int} {len : Nat} {Cn : String} (hkd : ¬ kd < 6) (ht : (q_arr kd).1 = k + 3) (hc : (q_arr kd).2.2 = t0) (hty : (q_tys g)[t0]? = some (g.2.2 t0, .object Cn)) (hi : i < n kd) (hlen : (q_arr kd).2.1 = len) (h0 : 0 ≤ z) (h1 : z < (len : Int)) (hv : C kd z.toNat i = v) (hdg : decode cc pc = .ok (.aaload, 1)) (kk : W p l e R s m args below meth c H locs cells slots Q (F0 m (pc + 1) ls (va_rf (q_rf ad k v) :: rest))) : W p l e R s m args below meth c H locs cells slots Q (F0 m pc ls (.int (iI z) :: .ref (ad kd i) :: rest)) := by
  subst hv; subst hlen
  exact q_rld (cA := 0) X hP kd i k t0 hkd ht hc hty hi h0 h1 hdg kk
theorem q_b32 {v : Int} (h : v = 0 ∨ v = 1) : R32 v := by omega
theorem q_rf0 (ad : Nat → Nat → Nat) (k : Nat) {v : Int} (h : v = 0) : va_rf (q_rf ad k v) = .null := by rw [h]; rfl
theorem q_rf1 (ad : Nat → Nat → Nat) (k : Nat) {v : Int} (h : ¬ v = 0) : va_rf (q_rf ad k v) = .ref (ad k (v - 1).toNat) := by unfold q_rf; rw [if_neg h]; rfl
theorem q_rf2 (ad : Nat → Nat → Nat) (k i : Nat) : va_rf (q_rf ad k ((i : Int) + 1)) = .ref (ad k i) := by rw [q_rf1 ad k (by omega)]; congr 2; omega
theorem q_join {lv : List (Nat × Value)} {pcj : Nat} {st : List Value} {f : JFrame} (hj : ∀ (H1 : Heap) (locs1 : List Loc) (ls : Array Slot), q_P g s0 n ad C H1 → va_S (q_A s0) s.heap H1 locs1 → lv_has ls nL lv → W p l e R s m args below meth c H1 locs1 cells slots Q (F0 m pcj ls st)) (kk : (∀ (H1 : Heap) (locs1 : List Loc) (ls : Array Slot), q_P g s0 n ad C H1 → va_S (q_A s0) s.heap H1 locs1 → lv_has ls nL lv → W p l e R s m args below meth c H1 locs1 cells slots Q (F0 m pcj ls st)) → W p l e R s m args below meth c H locs cells slots Q f) : W p l e R s m args below meth c H locs cells slots Q f := kk hj
theorem q_sel {pcj : Nat} {z0 : Int} (hj : W p l e R s m args below meth c H locs cells slots Q (F0 m pcj ls (.int (iI z0) :: rest))) {f : JFrame} (kk : (∀ z : Int, z = z0 → W p l e R s m args below meth c H locs cells slots Q (F0 m pcj ls (.int (iI z) :: rest))) → W p l e R s m args below meth c H locs cells slots Q f) : W p l e R s m args below meth c H locs cells slots Q f := kk (fun z hz => by rw [hz]; exact hj)
theorem lv_cong {ls : Array Slot} {nL : Nat} {l1 l2 : List (Nat × Value)} (h : lv_has ls nL l1) (e : l1 = l2) : lv_has ls nL l2 := e ▸ h
theorem lv_cs {k : Nat} {a b : Value} {l1 l2 : List (Nat × Value)} (h : a = b) (t : l1 = l2) : (k, a) :: l1 = (k, b) :: l2 := by rw [h, t]
theorem m_mul {a b : Int} (h1 : 0 ≤ a ∧ a ≤ 100) (h2 : 0 ≤ b ∧ b ≤ 500) : 0 ≤ a * b ∧ a * b ≤ 50000 := by
  refine ⟨Int.mul_nonneg h1.1 h2.1, ?_⟩
  have := Int.mul_le_mul h1.2 h2.2 h2.1 (by omega)
  omega
theorem m_mul32 {a b : Int} (h1 : 0 ≤ a ∧ a ≤ 100) (h2 : 0 ≤ b ∧ b ≤ 500) : R32 (a * b) := by
  have := m_mul h1 h2
  omega
theorem q_3264 {v : Int} (h : R32 v) : R64 v := ⟨by omega, by omega⟩
theorem q_v1 (ad : Nat → Nat → Nat) (k : Nat) {v : Int} (h : v = 1) : q_val ad (k + 3) v = .ref (ad k 0) := by subst h; rfl
theorem q_v2 (ad : Nat → Nat → Nat) (k i : Nat) : q_val ad (k + 3) ((i : Int) + 1) = .ref (ad k i) := q_rf2 ad k i
theorem q_vn (ad : Nat → Nat → Nat) (k i : Nat) {v : Int} (h : v = (i : Int) + 1) : q_val ad (k + 3) v = .ref (ad k i) := by subst h; exact q_rf2 ad k i
theorem q_t2 {n : Nat → Nat} {k i : Nat} (h : i < n k) : q_tok n (k + 3) ((i : Int) + 1) := ⟨by omega, by omega⟩
theorem q_t0 (n : Nat → Nat) (k : Nat) : q_tok n (k + 3) 0 := ⟨by omega, by omega⟩
theorem q_rfl {n : Nat → Nat} {k : Nat} {v : Int} (h : q_tok n (k + 3) v) (h0 : ¬ v = 0) : (v - 1).toNat < n k := by
  have h1 : 0 ≤ v ∧ v ≤ (n k : Int) := h
  omega
end QINT
end
section
/-! THE MODEL: its object (kind 5, index 0), its arrays (kinds 20 + slot, index 0) -/
def m_sl : List Nat := [2,3,4,5,7,8,9,11,12,13,14,15,16,18,19,20,21,22,23,24,26,27]
def m_S (C : q_S) (n : Nat → Nat) : Prop := n 5 = 1 ∧ ∀ s ∈ m_sl, C 5 s 0 = 1 ∧ n (20 + s) = 1
theorem m_v5 {C : q_S} {n : Nat → Nat} (h : m_S C n) : 0 < n 5 := by rw [h.1]; decide
theorem m_va {C : q_S} {n : Nat → Nat} (h : m_S C n) (s : Nat) {kd : Nat} (hs : s ∈ m_sl) (hk : 20 + s = kd) : 0 < n kd := by
  rw [← hk, (h.2 s hs).2]; decide
theorem m_r {C : q_S} {n : Nat → Nat} (h : m_S C n) (ad : Nat → Nat → Nat) (s k : Nat) (hs : s ∈ m_sl) : q_val ad (k + 3) (C 5 s 0) = .ref (ad k 0) := q_v1 ad k (h.2 s hs).1
theorem m_S.up {C : q_S} {n : Nat → Nat} (h : m_S C n) {kd s i : Nat} {x : Int} (hk : ¬ kd = 5 ∨ s ∉ m_sl) : m_S (q_up C kd s i x) n := by
  refine ⟨h.1, fun s' hs' => ⟨?_, (h.2 s' hs').2⟩⟩
  rw [← (h.2 s' hs').1]
  unfold q_up
  rw [if_neg]
  rintro ⟨a, b, -⟩
  rcases hk with q | q
  · exact q a.symm
  · exact q (b ▸ hs')
/-- what the numbers of the model keep to, c calls behind the start -/
def m_R (C : q_S) (c : Nat) : Prop :=
  (0 ≤ C 5 1 0 ∧ C 5 1 0 ≤ 8) ∧ (0 ≤ C 5 6 0 ∧ C 5 6 0 ≤ 20) ∧ (0 ≤ C 5 10 0 ∧ C 5 10 0 ≤ 60) ∧ (0 ≤ C 5 17 0 ∧ C 5 17 0 ≤ c) ∧ (0 ≤ C 5 25 0 ∧ C 5 25 0 ≤ c) ∧ (0 ≤ C 5 28 0) ∧
  (∀ k, 0 ≤ C 38 k 0 ∧ C 38 k 0 ≤ 60) ∧ (∀ k, 0 ≤ C 31 k 0 ∧ C 31 k 0 ≤ 20) ∧ (∀ k, 0 ≤ C 32 k 0 ∧ C 32 k 0 ≤ 500) ∧ (∀ k, -1 ≤ C 25 k 0 ∧ C 25 k 0 < 4200) ∧ (∀ k, 0 ≤ C 41 k 0 ∧ C 41 k 0 ≤ 8) ∧
  (∀ k, 0 ≤ C 39 k 0 ∧ C 39 k 0 ≤ 100) ∧ (∀ k, 0 ≤ C 42 k 0 ∧ C 42 k 0 ≤ 50000) ∧ (∀ k, 0 ≤ C 40 k 0 ∧ C 40 k 0 ≤ 8) ∧ (∀ k, 0 ≤ C 29 k 0 ∧ C 29 k 0 ≤ 60000 * (c : Int)) ∧ (∀ k, 0 ≤ C 24 k 0 ∧ C 24 k 0 ≤ c) ∧ (∀ k, 0 ≤ C 34 k 0) ∧ (∀ k, 0 ≤ C 33 k 0 ∧ C 33 k 0 ≤ 9) ∧
  (∀ k : Nat, (k : Int) < C 5 17 0 → 1 ≤ C 38 k 0 ∧ C 38 k 0 ≤ C 5 10 0) ∧ (∀ j : Nat, 1 ≤ j → (j : Int) ≤ C 5 10 0 → 1 ≤ C 31 j 0 ∧ C 31 j 0 ≤ C 5 6 0 ∧ 1 ≤ C 32 j 0) ∧ (∀ k : Nat, C 25 k 0 < C 5 17 0) ∧ (∀ k : Nat, C 41 k 0 ≤ C 5 1 0) ∧ (∀ k : Nat, 0 ≤ C 47 k 0)
theorem m_R38 {C : q_S} {c : Nat} (h : m_R C c) (k : Nat) : 0 ≤ C 38 k 0 ∧ C 38 k 0 ≤ 60 := h.2.2.2.2.2.2.1 k
theorem m_R31 {C : q_S} {c : Nat} (h : m_R C c) (k : Nat) : 0 ≤ C 31 k 0 ∧ C 31 k 0 ≤ 20 := h.2.2.2.2.2.2.2.1 k
theorem m_R32 {C : q_S} {c : Nat} (h : m_R C c) (k : Nat) : 0 ≤ C 32 k 0 ∧ C 32 k 0 ≤ 500 := h.2.2.2.2.2.2.2.2.1 k
theorem m_R25 {C : q_S} {c : Nat} (h : m_R C c) (k : Nat) : -1 ≤ C 25 k 0 ∧ C 25 k 0 < 4200 := h.2.2.2.2.2.2.2.2.2.1 k
theorem m_R41 {C : q_S} {c : Nat} (h : m_R C c) (k : Nat) : 0 ≤ C 41 k 0 ∧ C 41 k 0 ≤ 8 := h.2.2.2.2.2.2.2.2.2.2.1 k
theorem m_R39 {C : q_S} {c : Nat} (h : m_R C c) (k : Nat) : 0 ≤ C 39 k 0 ∧ C 39 k 0 ≤ 100 := h.2.2.2.2.2.2.2.2.2.2.2.1 k
theorem m_R42 {C : q_S} {c : Nat} (h : m_R C c) (k : Nat) : 0 ≤ C 42 k 0 ∧ C 42 k 0 ≤ 50000 := h.2.2.2.2.2.2.2.2.2.2.2.2.1 k
theorem m_R40 {C : q_S} {c : Nat} (h : m_R C c) (k : Nat) : 0 ≤ C 40 k 0 ∧ C 40 k 0 ≤ 8 := h.2.2.2.2.2.2.2.2.2.2.2.2.2.1 k
theorem m_R29 {C : q_S} {c : Nat} (h : m_R C c) (k : Nat) : 0 ≤ C 29 k 0 ∧ C 29 k 0 ≤ 60000 * (c : Int) := h.2.2.2.2.2.2.2.2.2.2.2.2.2.2.1 k
theorem m_R24 {C : q_S} {c : Nat} (h : m_R C c) (k : Nat) : 0 ≤ C 24 k 0 ∧ C 24 k 0 ≤ c := h.2.2.2.2.2.2.2.2.2.2.2.2.2.2.2.1 k
theorem m_R33 {C : q_S} {c : Nat} (h : m_R C c) (k : Nat) : 0 ≤ C 33 k 0 ∧ C 33 k 0 ≤ 9 := h.2.2.2.2.2.2.2.2.2.2.2.2.2.2.2.2.2.1 k
theorem m_Rp {C : q_S} {c : Nat} (h : m_R C c) : 0 ≤ C 5 1 0 ∧ C 5 1 0 ≤ 8 := h.1
theorem m_Rt {C : q_S} {c : Nat} (h : m_R C c) : 0 ≤ C 5 6 0 ∧ C 5 6 0 ≤ 20 := h.2.1
theorem m_Rj {C : q_S} {c : Nat} (h : m_R C c) : 0 ≤ C 5 10 0 ∧ C 5 10 0 ≤ 60 := h.2.2.1
theorem m_Rk {C : q_S} {c : Nat} (h : m_R C c) : 0 ≤ C 5 17 0 ∧ C 5 17 0 ≤ c := h.2.2.2.1
theorem m_Rw {C : q_S} {c : Nat} (h : m_R C c) : 0 ≤ C 5 25 0 ∧ C 5 25 0 ≤ c := h.2.2.2.2.1
-- what the methods answer
abbrev m_fits (C : q_S) (k : Nat) (p : Int) : Prop := C 28 (C 31 (C 38 k 0).toNat 0).toNat 0 ≤ C 23 p.toNat 0 ∧ (C 40 k 0 = 0 ∨ C 40 k 0 = p)
abbrev m_may (C : q_S) (k : Nat) (p : Int) : Prop := ¬ C 44 k 0 = 0 ∧ C 35 (C 38 k 0).toNat 0 = 0 ∧ C 34 (C 38 k 0).toNat 0 ≤ C 5 28 0 ∧ m_fits C k p
abbrev m_over (C : q_S) (k : Nat) : Prop := C 42 k 0 = C 39 k 0 * C 32 (C 38 k 0).toNat 0
def m_med (C : q_S) (k : Nat) : Int := C 27 (C 31 (C 38 k 0).toNat 0).toNat 0
def m_odd (a b : Int) : Int := b / a * ((a + 1) / 2) + (b % a + 1) / 2
def m_leave (C : q_S) (a : Int) : q_S := q_up (q_up C 41 (C 25 a.toNat 0).toNat 0 0) 25 a.toNat 0 (-1)
def m_add (C : q_S) (a b d : Int) : q_S := q_up (q_up (q_up (q_up (q_up (q_up (q_up C 38 (C 5 17 0).toNat 0 a) 39 (C 5 17 0).toNat 0 b) 40 (C 5 17 0).toNat 0 d) 41 (C 5 17 0).toNat 0 0) 42 (C 5 17 0).toNat 0 0) 44 (C 5 17 0).toNat 0 1) 5 17 0 (C 5 17 0 + 1)
theorem m_k32 {k : Nat} (h : k < 4200) : R32 (k : Int) := ⟨by omega, by omega⟩
theorem m_p32 {a : Int} (h : 0 ≤ a ∧ a ≤ 8) : R32 a := ⟨by omega, by omega⟩
end
section
/-! new objects, references into arrays, exceptions -/
theorem q_P.kept {g : q_G} {s0 : Nat} {n : Nat → Nat} {ad : Nat → Nat → Nat} {C : q_S} {H H1 : Heap} (h : q_P g s0 n ad C H) (hq : ∀ q : Nat, q < H.size → H1[q]? = H[q]?) : q_P g s0 n ad C H1 := ⟨fun kd i hi => ⟨(h.1 kd i hi).1, (h.1 kd i hi).2.kept (hq _ (h.lt hi))⟩, h.2⟩
def q_bump (n : Nat → Nat) (kd : Nat) : Nat → Nat := fun k => if k = kd then n kd + 1 else n k
theorem q_bump_s (n : Nat → Nat) (kd : Nat) : q_bump n kd kd = n kd + 1 := by simp [q_bump]
theorem q_bump_n (n : Nat → Nat) {kd k : Nat} (h : ¬ k = kd) : q_bump n kd k = n k := by simp [q_bump, h]
theorem q_bump_le (n : Nat → Nat) (kd k : Nat) : n k ≤ q_bump n kd k := by
  unfold q_bump
  split
  · rename_i h; subst h; omega
  · exact Nat.le_refl _
theorem q_tok_up {n n' : Nat → Nat} (h : ∀ k, n k ≤ n' k) {t : Nat} {v : Int} (hv : q_tok n t v) : q_tok n' t v := by
  match t, hv with
  | 0, hv => exact hv
  | 1, hv => exact hv
  | 2, hv => exact hv
  | k + 3, hv =>
    have h1 : 0 ≤ v ∧ v ≤ (n k : Int) := hv
    have := h k
    exact ⟨h1.1, by omega⟩
theorem q_rf_ad {n : Nat → Nat} {ad ad' : Nat → Nat → Nat} (h : ∀ k j, j < n k → ad' k j = ad k j) {k : Nat} {v : Int} (hv : q_tok n (k + 3) v) : q_rf ad' k v = q_rf ad k v := by
  have h1 : 0 ≤ v ∧ v ≤ (n k : Int) := hv
  unfold q_rf
  split
  · rfl
  · rw [h k _ (by omega)]
theorem q_val_ad {n : Nat → Nat} {ad ad' : Nat → Nat → Nat} (h : ∀ k j, j < n k → ad' k j = ad k j) {t : Nat} {v : Int} (hv : q_tok n t v) : q_val ad' t v = q_val ad t v := by
  match t, hv with
  | 0, hv => rfl
  | 1, hv => rfl
  | 2, hv => rfl
  | k + 3, hv =>
    show va_rf _ = va_rf _
    rw [q_rf_ad h hv]
theorem q_ent_ad {g : q_G} {n : Nat → Nat} {ad ad' : Nat → Nat → Nat} {C : q_S} (h : ∀ k j, j < n k → ad' k j = ad k j) (ht : ∀ kd s i, q_tok n (q_ty kd s) (C kd s i)) (kd i : Nat) : q_ent g ad' C kd i = q_ent g ad C kd i := by
  by_cases hk : kd < 6
  · rw [q_entO g ad' C i hk, q_entO g ad C i hk]
    congr 2
    apply List.map_congr_left
    intro s _
    exact q_val_ad h (ht kd s i)
  · rw [q_entA g ad' C i hk, q_entA g ad C i hk]
    congr 3
    have e : ∀ j, q_tok n (q_arr kd).1 (C kd j i) := fun j => by
      have := ht kd j i
      unfold q_ty at this
      rw [if_neg hk] at this
      exact this
    generalize hgt : (q_arr kd).1 = t at e
    match t, e with
    | 0, e => rfl
    | 1, e => rfl
    | 2, e => rfl
    | k + 3, e =>
      have hf : (fun j => q_rf ad' k (C kd j i)) = (fun j => q_rf ad k (C kd j i)) := funext fun j => q_rf_ad h (e j)
      show Sum.inr (Sum.inr (Sum.inr (Sum.inr (fun j => q_rf ad' k (C kd j i))))) = Sum.inr (Sum.inr (Sum.inr (Sum.inr (fun j => q_rf ad k (C kd j i)))))
      rw [hf]
section QEXC
variable {p : Program} {l : Launch} {e : Env} {R : Room} {s : State} {m : MethodId} {args : Array Value} {below : List Frame} {meth : Method} {c : Code} {H : Heap} {locs : List Loc} {cells slots : Nat} {Q : State → Prop}
variable {cc : ByteArray} {pc nL : Nat} {ls : Array Slot} {rest : List Value} {g : q_G} {s0 : Nat} {n : Nat → Nat} {ad : Nat → Nat → Nat} {C : q_S} {Ts : List Cond} {own : String}
/-- a new cell q of kind kd, with all slots 0, in H1 -/
theorem q_P.push {H1 : Heap} {q kd : Nat} (hP : q_P g s0 n ad C H) (hs : H.size ≤ q) (h0 : s0 ≤ q) (hq : ∀ z : Nat, z < H.size → H1[z]? = H[z]?) (he : va_at (g.1, g.2.1) vwCl (q, q_ent g ad C kd (n kd)) H1) :
    ∃ ad' : Nat → Nat → Nat, (∀ k j, ¬ (k = kd ∧ j = n kd) → ad' k j = ad k j) ∧ ad' kd (n kd) = q ∧ q_P g s0 (q_bump n kd) ad' C H1 := by
  obtain ⟨ad', h2, h1⟩ : ∃ ad' : Nat → Nat → Nat, ad' kd (n kd) = q ∧ ∀ k j, ¬ (k = kd ∧ j = n kd) → ad' k j = ad k j := ⟨fun k j => if k = kd ∧ j = n kd then q else ad k j, if_pos ⟨rfl, rfl⟩, fun k j h => if_neg h⟩
  refine ⟨ad', h1, h2, ?_⟩
  have hn : ∀ k j, j < n k → ad' k j = ad k j := fun k j h => h1 k j (by rintro ⟨rfl, rfl⟩; omega)
  have hcase : ∀ kd' i', i' < q_bump n kd kd' → (kd' = kd ∧ i' = n kd) ∨ i' < n kd' := by
    intro kd' i' h
    unfold q_bump at h
    by_cases h1 : kd' = kd
    · subst h1
      rw [if_pos rfl] at h
      omega
    · rw [if_neg h1] at h
      exact Or.inr h
  refine ⟨fun kd' i' h => ?_, fun kd1 i1 kd2 i2 h3 h4 e12 => ?_, fun kd' s' i' => q_tok_up (q_bump_le n kd) (hP.2.2.1 kd' s' i'), fun kd' s' i' h => hP.2.2.2 kd' s' i' (Nat.le_trans (q_bump_le n kd kd') h)⟩
  · rw [q_ent_ad hn hP.2.2.1]
    rcases hcase kd' i' h with ⟨rfl, rfl⟩ | h'
    · rw [h2]
      exact ⟨h0, he⟩
    · rw [hn kd' i' h']
      exact ⟨(hP.1 kd' i' h').1, (hP.1 kd' i' h').2.kept (hq _ (hP.lt h'))⟩
  · rcases hcase kd1 i1 h3 with ⟨e1, e2⟩ | h3' <;> rcases hcase kd2 i2 h4 with ⟨e3, e4⟩ | h4'
    · exact ⟨e1.trans e3.symm, e2.trans e4.symm⟩
    · rw [e1, e2, h2, hn kd2 i2 h4'] at e12
      have := hP.lt h4'
      omega
    · rw [e3, e4, h2, hn kd1 i1 h3'] at e12
      have := hP.lt h3'
      omega
    · rw [hn kd1 i1 h3', hn kd2 i2 h4'] at e12
      exact hP.2.1 kd1 i1 kd2 i2 h3' h4' e12
theorem q_new (X : q_X p s m args c cc nL Ts own g s0) {Cn : String} {T : u_T} {N index : Nat} (hP : q_P g s0 n ad C H) (hS : va_S (q_A s0) s.heap H locs) (kd : Nat) (hc : vwCl[kd]? = some (Cn, T, N)) (hN : q_nf kd = N) (hkd : kd < 6) (hin : ∀ w ∈ u_ws Cn T N, w ∈ Ts)
    (ty0 : Nat → FieldType) (hty : ∀ k, k < N → parseFieldDescriptor (T k).2.2.1 = some (ty0 k)) (hcl : Cond.classLink own index Cn ∈ Ts) (hinst : Cond.instantiable Cn N ∈ Ts) (hini : Cond.initialized Cn ∈ Ts) (hz : ∀ k, k < N → defaultValue (ty0 k) = q_val ad (q_ty kd k) 0)
    (hcells : cells + 1 ≤ R.cells) (hslots : slots + N ≤ R.slots) (hdg : decode cc pc = .ok (.new index, 3))
    (kk : ∀ (ad' : Nat → Nat → Nat) (H1 : Heap), (∀ k j, ¬ (k = kd ∧ j = n kd) → ad' k j = ad k j) → q_P g s0 (q_bump n kd) ad' C H1 → va_S (q_A s0) s.heap H1 locs → W p l e R s m args below meth c H1 locs (cells + 1) (slots + N) Q (F0 m (pc + 3) ls (.ref (ad' kd (n kd)) :: rest))) : W p l e R s m args below meth c H locs cells slots Q (F0 m pc ls rest) := by
  obtain ⟨hx, hb, -, hown, hts, hK, -, h0⟩ := X
  have hKn := hK.1 kd _ hc
  refine W.newcK hx hb hown (hts _ hcl) (hts _ hinst) (hts _ hini) rfl hdg hcells hslots hKn.2.1 rfl fun H1 kC hkC e1 z1 o1 => ?_
  have hs0 : s0 ≤ H.size := Nat.le_trans h0 hS.1
  have he : va_at (g.1, g.2.1) vwCl (H.size, q_ent g ad C kd (n kd)) H1 := by
    rw [q_entO g ad C _ hkd]
    refine ⟨_, hc, (u_born ty0 hts hin hKn hkC e1 hty).to (fun j hj => ?_)⟩
    have hj' : j < q_nf kd := by rw [hN]; exact hj
    rw [q_vp _ _ hj', hP.2.2.2 kd j (n kd) (Nat.le_refl _)]
    exact hz j hj
  obtain ⟨ad', h1, h2, h3⟩ := hP.push (Nat.le_refl _) hs0 o1 he
  rw [← h2]
  exact kk ad' H1 h1 h3 ⟨Nat.le_trans hS.1 (by omega), fun x hx1 hx2 => (o1 x (Nat.lt_of_lt_of_le hx1 hS.1)).trans (hS.2.1 x hx1 hx2), hS.2.2⟩
theorem q_ast (X : q_X p s m args c cc nL Ts own g s0) (hP : q_P g s0 n ad C H) (hS : va_S (q_A s0) s.heap H locs) (kd i k j t0 : Nat) {z : Int} {len : Nat} {r : vw_C} (hkd : ¬ kd < 6) (ht : (q_arr kd).1 = k + 3) (hk : k < 6) (hc : (q_arr kd).2.2 = t0) (hvc : vwCl[k]? = some r) (hty : (q_tys g)[t0]? = some (g.2.2 t0, .object r.1)) (hi : i < n kd) (hj : j < n k) (hlen : (q_arr kd).2.1 = len) (h0 : 0 ≤ z) (h1 : z < (len : Int)) (hdg : decode cc pc = .ok (.aastore, 1))
    (kk : ∀ (H1 : Heap) (locs1 : List Loc), q_P g s0 n ad (q_up C kd z.toNat i ((j : Int) + 1)) H1 → va_S (q_A s0) s.heap H1 locs1 → W p l e R s m args below meth c H1 locs1 cells slots Q (F0 m (pc + 1) ls rest)) : W p l e R s m args below meth c H locs cells slots Q (F0 m pc ls (.ref (ad k j) :: .int (iI z) :: .ref (ad kd i) :: rest)) := by
  subst hlen
  have hl := q_alt kd
  have hin := iI_in h0 h1 hl
  have hK := X.2.2.2.2.2.1
  have hlt : (iI z).toNatClampNeg < (q_arr kd).2.1 := Nat.not_le.mp fun q => hin (Or.inr q)
  have hz0 : ¬ iI z < 0 := fun q => hin (Or.inl q)
  have hvj := (hP.1 k j hj).2
  rw [q_entO g ad C j hk] at hvj
  obtain ⟨r', hr', cellV, g1, g2, g3, -⟩ := hvj
  have hcls := (hK.1 k r hvc).2
  obtain ⟨kA, comp, k1, k2, k3, -⟩ := (hK.2 t0 _ hty).2
  have hcomp : comp = g.1 k := Option.some.inj (k3.symm.trans hcls.1)
  subst hcomp
  obtain ⟨kC, hkC, -⟩ := hcls.2
  refine W.aast X.1 X.2.1 (q_ald hP hkd hi ht hc) (fun q h => by cases h) (fun h => by cases h) k1 k2 rfl hkC ⟨hz0, by show _ < (arrV _ _ _).slots.size; rw [arrV_size]; exact hlt⟩ g1 (fun q h => by rw [g3] at h; cases h) (by rw [g2]; exact hkC) (by rw [g2]; exact va_assign hcls) rfl rfl hdg fun H1 e z1 oq => ?_
  refine kk H1 _ (hP.set hi (by unfold q_ty; rw [if_neg hkd, ht]; exact q_t2 hj) ?_ oq) (hS.put z1 oq (hP.1 kd i hi).1)
  rw [q_entA g ad _ i hkd, ht, hc]
  show H1[ad kd i]? = some (vp_cell _ _)
  rw [e]
  show some (Cell.setSlot (arrV (g.2.2 t0) (q_arr kd).2.1 (fun q => va_rf (q_rf ad k (C kd q i)))) _ _) = some (arrV (g.2.2 t0) (q_arr kd).2.1 (fun q => va_rf (q_rf ad k (q_up C kd z.toNat i ((j : Int) + 1) kd q i))))
  rw [arrV_store, iI_cl ⟨by omega, by omega⟩]
  congr 2
  funext q
  by_cases hq : q = z.toNat
  · subst hq
    rw [q_up_s, q_rf2]
    simp [updV]
  · rw [q_up_e C _ hq]
    simp [updV, hq]
abbrev q_XC (g : q_G) (s0 : Nat) (u0 : q_U) (XE : String → Prop) : String → State → State → Prop := vx_X (fun _ : Unit => True) (fun E _ t => XE E ∧ q_B g s0 u0 t) (q_A s0)
def q_bad (cls : String) : List Cond := [.declares (Bundle.init0 "java/lang/RuntimeException"), .declares (Bundle.init0 "java/lang/Exception"), .declares (Bundle.init0 Bundle.tN), .castable cls cls]
theorem q_fit : ∀ x ∈ q_xn, Bundle.fit x = true := by decide +kernel
theorem q_fitn : ∀ x ∈ q_nm, Bundle.fit x = true := by decide +kernel
theorem q_throw (X : q_X p s m args c cc nL Ts own g s0) (htr : l.stackTraces = false) (hnx : ∀ x ∈ c.exceptionTable.toList, False) (hlocks : meth.locks = false) {cls : String} {ik ic mc ms : Nat} {Qc : Array Value → State → Outcome → State → Prop} (hcx : cls ∈ q_xn) (hk : Cond.classLink own ik cls ∈ Ts) (hini : Cond.initialized cls ∈ Ts)
    (hat : ∀ w ∈ (vx_at0 own ic cls q_nm).filter goodWord, w ∈ Ts) (hbad : ∀ w ∈ (vx_at0 own ic cls q_nm).filter (fun w => !goodWord w), w ∈ q_bad cls) (hgd : ∀ w ∈ Cond.classLink own ik cls :: Cond.initialized cls :: vx_at0 own ic cls q_nm, vx_ot w = true)
    (hP : q_P g s0 n ad C H) (hS : va_S (q_A s0) s.heap H locs) (hsize : ls.size = nL)
    (d0 : decode cc pc = .ok (.new ik, 3)) (d3 : decode cc (pc + 3) = .ok (.dup, 1)) (d4 : decode cc (pc + 4) = .ok (.invokespecial ic, 3)) (d7 : decode cc (pc + 7) = .ok (.athrow, 1))
    (hRf : 5 < R.frames) (hRl : (rest.map fun v => v.category).sum + 81 ≤ R.locals) (hRc : cells + 1 ≤ R.cells) (hRs : slots + 6 ≤ R.slots) {XE : String → Prop} (hx : XE cls) (hc : cells + 1 ≤ mc) (hs : slots + 6 ≤ ms) :
    W p l e R s m args below meth c H locs cells slots (vx_MQ below Qc (q_XC g s0 (n, ad, C) XE) args s mc ms (q_A s0)) (F0 m pc ls rest) := by
  obtain ⟨hx1, hb, hml, hown, hts, hK, hZ, h0⟩ := id X
  have hbadp : ∀ w ∈ q_bad cls, w.before args s = true := by
    refine vx_c (va_Nw.use rfl (hZ.2.2.1 _ (by simp [q_dl]))) (vx_c (va_Nw.use rfl (hZ.2.2.1 _ (by simp [q_dl]))) (vx_c (va_Nw.use rfl (hZ.2.2.1 _ (by simp [q_dl]))) (vx_c (va_Nw.use rfl (hZ.2.2.2.1 _ hcx)) vx_n)))
  refine vx_throw0 (A := q_A s0) hx1 hb htr hown (q_fit _ hcx) q_fitn (hts _ hk) (hts _ hini) (vx_hat (fun w hw => hts w (hat w hw)) hbad hbadp) hgd hZ.1 hZ.2.1 hS (by rw [hml]; exact hsize) d0 d3 d4 d7 (fun x hx => (hnx x hx).elim) hRf hRl hRc hRs hlocks (fun t hvm hz hkk => ?_) hS.2.2 hc hs
  refine ⟨(), trivial, ⟨hx, Nat.le_trans h0 (Nat.le_trans hS.1 hz), hP.kept hkk, q_moved hvm hK, ?_⟩, Nat.le_trans hS.1 hz, fun q h1 h2 => (hkk q (Nat.lt_of_lt_of_le h1 hS.1)).trans (hS.2.1 q h1 h2)⟩
  refine (hZ.kept (fun a h1 h2 => ?_)).moved hvm
  exact (hkk a (Nat.lt_of_lt_of_le h1 hS.1)).trans (hS.2.1 a h1 h2)
theorem q_xout (X : q_X p s m args c cc nL Ts own g s0) (hnx : ∀ x ∈ c.exceptionTable.toList, False) (hlocks : meth.locks = false) {Qc : Array Value → State → Outcome → State → Prop} {E : String} {ce : Cell} {q9 : Addr} {mc ms : Nat} {XE0 XE : String → Prop} {u0 : q_U} {t : State} {st : List Value}
    (hBX : XE0 E ∧ q_B g s0 u0 t) (ht : t.heap = H) (hS : va_S (q_A s0) s.heap H locs) (hce : H[q9]? = some ce) (hcv : ce.vm = .none) (hcl : s.vm.findClass E = some ce.cls) (hx : XE0 E → XE E) (hc : cells ≤ mc) (hs : slots ≤ ms) :
    vx_W p l e R s m args below meth c H locs cells slots (vx_MQ below Qc (q_XC g s0 u0 XE) args s mc ms (q_A s0)) (F0 m pc ls st) q9 := by
  refine vx_out (fun x hx => (hnx x hx).elim) hlocks hce hcv hcl (fun t' ht' hvm => ?_) hS.2.2 hc hs
  obtain ⟨h1, h2⟩ := hBX
  refine ⟨(), trivial, ⟨hx h1, ?_, ?_, q_moved hvm X.2.2.2.2.2.1, ?_⟩, hS.F ht'⟩
  · rw [ht', ← ht]; exact h2.1
  · rw [ht', ← ht]; exact h2.2.1
  · rw [ht']; exact (X.2.2.2.2.2.2.1.kept hS.2.1).moved hvm
end QEXC
section QCALLQ
variable {p : Program} {l : Launch} {e : Env} {R : Room} {s : State} {m : MethodId} {args : Array Value} {below : List Frame} {meth : Method} {c : Code} {H : Heap} {locs : List Loc} {cells slots : Nat} {Q : State → Prop}
variable {mc ms : Nat} {free : Addr → Prop} {A0 A1 : Nat → Prop} {H0 : Heap} {a : Array Value} {pc : Nat} {ls : Array Slot} {st0 rest : List Value}
theorem vx_callq {S SX : Type} {post : Option Nat → S → Prop} {px : SX → Prop} {B : S → State → Prop} {BX : String → SX → State → Prop} {AX : Nat → Prop} (hr : vx_Run p l e R s m args below meth c H locs cells slots mc ms (F0 m pc ls st0) rest (va_Qq post B A1 a) (vx_X px BX AX) free) (hS : va_S A0 H0 H locs) (hA : ∀ q, q < H.size → A1 q → A0 q) (hf : ∀ q, free q → A0 q) (hAX : ∀ q, q < H.size → AX q → A0 q)
    (kx : ∀ (E : String) (ce : Cell) (q9 : Addr) (u : SX) (t : State) (H1 : Heap) (locs1 : List Loc), t.heap = H1 → s.vm.Alike t.vm → px u → BX E u t → H.size ≤ H1.size → (∀ q : Nat, q < H.size → ¬ AX q → H1[q]? = H[q]?) → va_S A0 H0 H1 locs1 → H1[q9]? = some ce → ce.vm = .none → s.vm.findClass E = some ce.cls → vx_W p l e R s m args below meth c H1 locs1 (cells + mc) (slots + ms) Q (F0 m pc ls rest) q9)
    (kk : ∀ (r : Option Nat) (u : S) (t : State) (H1 : Heap) (locs1 : List Loc), t.heap = H1 → s.vm.Alike t.vm → post r u → B u t → H.size ≤ H1.size → (∀ q : Nat, q < H.size → ¬ A1 q → H1[q]? = H[q]?) → va_S A0 H0 H1 locs1 → W p l e R s m args below meth c H1 locs1 (cells + mc) (slots + ms) Q (F0 m (pc + 3) ls (va_rf r :: rest))) : W p l e R s m args below meth c H locs cells slots Q (F0 m pc ls st0) := by
  intro T hT X
  rcases hr T hT X with ⟨v, st₀, t, T', L, h0, X', hL, e1, e2, ⟨⟨r, u, hv, hp, hb⟩, hF⟩, st⟩ | ⟨q, st₀, t, T', L, E, ce, h0, X', hL, e1, e2, ⟨u, hp, hb, hF⟩, hce, hcv, hcl, st⟩
  · cases hv
    obtain ⟨k1, k2, k3⟩ := vx_keep h0 e1 hS hA hf hL hF
    obtain ⟨t2, a1, b1⟩ := kk r u t T'.heap (locs ++ L) e1.symm (by rw [← e2]; exact X'.warmed.alike) hp hb k1 k2 k3 T' rfl X'
    exact ⟨t2, st t2 a1, b1⟩
  · obtain ⟨k1, k2, k3⟩ := vx_keep h0 e1 hS hAX hf hL hF
    obtain ⟨t2, a1, b1⟩ := kx E ce q u t T'.heap (locs ++ L) e1.symm (by rw [← e2]; exact X'.warmed.alike) hp hb k1 k2 k3 (by rw [e1]; exact hce) hcv hcl T' rfl X'
    exact ⟨t2, st.trans a1, b1⟩
end QCALLQ
end
section
/-! THE CLASS: its object (kind 4, index 0), its arrays (kinds 6 .. 10, index 0), jobs (0), parts (1), printers (2), tickets (3) -/
def c_sl : List (Nat × Nat) := [(0, 6), (1, 7), (2, 8), (6, 9), (7, 10)]
def c_S (C : q_S) (n : Nat → Nat) : Prop := n 4 = 1 ∧ ∀ z ∈ c_sl, C 4 z.1 0 = 1 ∧ n z.2 = 1
theorem c_v4 {C : q_S} {n : Nat → Nat} (h : c_S C n) : 0 < n 4 := by rw [h.1]; decide
theorem c_va {C : q_S} {n : Nat → Nat} (h : c_S C n) (s kd : Nat) (hs : (s, kd) ∈ c_sl) : 0 < n kd := by rw [(h.2 (s, kd) hs).2]; decide
theorem c_r {C : q_S} {n : Nat → Nat} (h : c_S C n) (ad : Nat → Nat → Nat) (s k : Nat) (hs : (s, k) ∈ c_sl) : q_val ad (k + 3) (C 4 s 0) = .ref (ad k 0) := q_v1 ad k (h.2 (s, k) hs).1
/-- the first part of the job j from k on, m places looked at: its index and one; 0 -/
def c_find (C : q_S) (j : Nat) : Nat → Nat → Int
  | 0, _ => 0
  | m + 1, k => if C 1 0 k = (j : Int) + 1 then (k : Int) + 1 else c_find C j m (k + 1)
theorem c_find_c (C : q_S) (j : Nat) : ∀ (m k : Nat), (c_find C j m k = 0 ∧ ∀ i, k ≤ i → i < k + m → ¬ C 1 0 i = (j : Int) + 1) ∨ ∃ i : Nat, c_find C j m k = (i : Int) + 1 ∧ k ≤ i ∧ i < k + m ∧ C 1 0 i = (j : Int) + 1 ∧ ∀ i', k ≤ i' → i' < i → ¬ C 1 0 i' = (j : Int) + 1 := by
  intro m
  induction m with
  | zero => intro k; exact Or.inl ⟨rfl, fun i h1 h2 => by omega⟩
  | succ m ih =>
    intro k
    rw [c_find]
    by_cases h : C 1 0 k = (j : Int) + 1
    · rw [if_pos h]
      exact Or.inr ⟨k, rfl, Nat.le_refl k, by omega, h, fun i' h1 h2 => by omega⟩
    · rw [if_neg h]
      rcases ih (k + 1) with ⟨h1, h2⟩ | ⟨i, h1, h2, h3, h4, h5⟩
      · refine Or.inl ⟨h1, fun i h3 h4 => ?_⟩
        by_cases e : i = k
        · rw [e]; exact h
        · exact h2 i (by omega) (by omega)
      · refine Or.inr ⟨i, h1, by omega, by omega, h4, fun i' h6 h7 => ?_⟩
        by_cases e : i' = k
        · rw [e]; exact h
        · exact h5 i' (by omega) h7
theorem c_skip {α : Type} (f : Nat → α) (C : q_S) (j : Nat) (hf : ∀ k, ¬ C 1 0 k = (j : Int) + 1 → f (k + 1) = f k) {k i : Nat} (hki : k ≤ i) (hb : ∀ i', k ≤ i' → i' < i → ¬ C 1 0 i' = (j : Int) + 1) : f i = f k := by
  obtain ⟨d, rfl⟩ : ∃ d, i = k + d := ⟨i - k, by omega⟩
  induction d with
  | zero => rfl
  | succ d ih =>
    rw [← ih (by omega) (fun i' h1 h2 => hb i' h1 (by omega))]
    exact hf (k + d) (hb (k + d) (by omega) (by omega))
/-- what the class keeps to, c calls behind the start -/
def c_R (C : q_S) (n : Nat → Nat) (c : Nat) : Prop :=
  (C 4 3 0 = (n 2 : Int) ∧ n 2 ≤ 8) ∧ (C 4 4 0 = (n 3 : Int) ∧ n 3 ≤ 20) ∧ (C 4 5 0 = (n 0 : Int) ∧ n 0 ≤ 60) ∧ n 1 ≤ c ∧ (0 ≤ C 4 8 0 ∧ 2 * C 4 8 0 ≤ c) ∧
  (∀ j : Nat, C 6 j 0 = if j < n 2 then (j : Int) + 1 else 0) ∧ (∀ j : Nat, C 7 j 0 = if j < n 3 then (j : Int) + 1 else 0) ∧ (∀ j : Nat, C 8 j 0 = if j < n 0 then (j : Int) + 1 else 0) ∧
  (∀ i, i < n 1 → 1 ≤ C 1 0 i ∧ C 1 0 i ≤ (n 0 : Int)) ∧ (∀ i, i < n 0 → 1 ≤ C 0 1 i ∧ C 0 1 i ≤ (n 3 : Int)) ∧
  (∀ j, j < n 0 → C 0 7 j = c_find C j (n 1) 0) ∧ (∀ i j, i < n 1 → C 1 0 i = ((j : Nat) : Int) + 1 → C 1 6 i = c_find C j (n 1 - (i + 1)) (i + 1)) ∧
  (∀ i, 0 ≤ C 0 2 i ∧ C 0 2 i ≤ 500) ∧ (∀ i, 0 ≤ C 1 2 i ∧ C 1 2 i ≤ 100) ∧ (∀ i, 0 ≤ C 1 4 i ∧ C 1 4 i ≤ 100) ∧ (∀ i, 0 ≤ C 1 5 i ∧ C 1 5 i ≤ 500) ∧ (∀ i, 0 ≤ C 2 3 i ∧ C 2 3 i ≤ c) ∧
  (∀ s i, 2 ≤ s → s ≤ 5 → 0 ≤ C 3 s i ∧ C 3 s i ≤ 60000 * (c : Int)) ∧ (∀ i, i < n 0 → C 0 0 i = (i : Int) + 1) ∧ (∀ i, i < n 2 → C 2 0 i = (i : Int) + 1) ∧ 0 ≤ C 4 10 0
theorem c_Rp {C : q_S} {n : Nat → Nat} {c : Nat} (h : c_R C n c) : C 4 3 0 = (n 2 : Int) ∧ n 2 ≤ 8 := h.1
theorem c_Rt {C : q_S} {n : Nat → Nat} {c : Nat} (h : c_R C n c) : C 4 4 0 = (n 3 : Int) ∧ n 3 ≤ 20 := h.2.1
theorem c_Rj {C : q_S} {n : Nat → Nat} {c : Nat} (h : c_R C n c) : C 4 5 0 = (n 0 : Int) ∧ n 0 ≤ 60 := h.2.2.1
theorem c_Rk {C : q_S} {n : Nat → Nat} {c : Nat} (h : c_R C n c) : n 1 ≤ c := h.2.2.2.1
theorem c_Rd {C : q_S} {n : Nat → Nat} {c : Nat} (h : c_R C n c) : 0 ≤ C 4 8 0 ∧ 2 * C 4 8 0 ≤ c := h.2.2.2.2.1
theorem c_R6 {C : q_S} {n : Nat → Nat} {c : Nat} (h : c_R C n c) (j : Nat) : C 6 j 0 = if j < n 2 then (j : Int) + 1 else 0 := h.2.2.2.2.2.1 j
theorem c_R7 {C : q_S} {n : Nat → Nat} {c : Nat} (h : c_R C n c) (j : Nat) : C 7 j 0 = if j < n 3 then (j : Int) + 1 else 0 := h.2.2.2.2.2.2.1 j
theorem c_R8 {C : q_S} {n : Nat → Nat} {c : Nat} (h : c_R C n c) (j : Nat) : C 8 j 0 = if j < n 0 then (j : Int) + 1 else 0 := h.2.2.2.2.2.2.2.1 j
theorem c_R10 {C : q_S} {n : Nat → Nat} {c : Nat} (h : c_R C n c) (i : Nat) (hi : i < n 1) : 1 ≤ C 1 0 i ∧ C 1 0 i ≤ (n 0 : Int) := h.2.2.2.2.2.2.2.2.1 i hi
theorem c_R01 {C : q_S} {n : Nat → Nat} {c : Nat} (h : c_R C n c) (i : Nat) (hi : i < n 0) : 1 ≤ C 0 1 i ∧ C 0 1 i ≤ (n 3 : Int) := h.2.2.2.2.2.2.2.2.2.1 i hi
theorem c_R07 {C : q_S} {n : Nat → Nat} {c : Nat} (h : c_R C n c) (j : Nat) (hj : j < n 0) : C 0 7 j = c_find C j (n 1) 0 := h.2.2.2.2.2.2.2.2.2.2.1 j hj
theorem c_R16 {C : q_S} {n : Nat → Nat} {c : Nat} (h : c_R C n c) (i j : Nat) (hi : i < n 1) (e : C 1 0 i = (j : Int) + 1) : C 1 6 i = c_find C j (n 1 - (i + 1)) (i + 1) := h.2.2.2.2.2.2.2.2.2.2.2.1 i j hi e
theorem c_R02 {C : q_S} {n : Nat → Nat} {c : Nat} (h : c_R C n c) (i : Nat) : 0 ≤ C 0 2 i ∧ C 0 2 i ≤ 500 := h.2.2.2.2.2.2.2.2.2.2.2.2.1 i
theorem c_R12 {C : q_S} {n : Nat → Nat} {c : Nat} (h : c_R C n c) (i : Nat) : 0 ≤ C 1 2 i ∧ C 1 2 i ≤ 100 := h.2.2.2.2.2.2.2.2.2.2.2.2.2.1 i
theorem c_R14 {C : q_S} {n : Nat → Nat} {c : Nat} (h : c_R C n c) (i : Nat) : 0 ≤ C 1 4 i ∧ C 1 4 i ≤ 100 := h.2.2.2.2.2.2.2.2.2.2.2.2.2.2.1 i
theorem c_R15 {C : q_S} {n : Nat → Nat} {c : Nat} (h : c_R C n c) (i : Nat) : 0 ≤ C 1 5 i ∧ C 1 5 i ≤ 500 := h.2.2.2.2.2.2.2.2.2.2.2.2.2.2.2.1 i
theorem c_R23 {C : q_S} {n : Nat → Nat} {c : Nat} (h : c_R C n c) (i : Nat) : 0 ≤ C 2 3 i ∧ C 2 3 i ≤ c := h.2.2.2.2.2.2.2.2.2.2.2.2.2.2.2.2.1 i
theorem c_R3 {C : q_S} {n : Nat → Nat} {c : Nat} (h : c_R C n c) (s i : Nat) (h1 : 2 ≤ s) (h2 : s ≤ 5) : 0 ≤ C 3 s i ∧ C 3 s i ≤ 60000 * (c : Int) := h.2.2.2.2.2.2.2.2.2.2.2.2.2.2.2.2.2.1 s i h1 h2
theorem c_R00 {C : q_S} {n : Nat → Nat} {c : Nat} (h : c_R C n c) (i : Nat) (hi : i < n 0) : C 0 0 i = (i : Int) + 1 := h.2.2.2.2.2.2.2.2.2.2.2.2.2.2.2.2.2.2.1 i hi
theorem c_R20 {C : q_S} {n : Nat → Nat} {c : Nat} (h : c_R C n c) (i : Nat) (hi : i < n 2) : C 2 0 i = (i : Int) + 1 := h.2.2.2.2.2.2.2.2.2.2.2.2.2.2.2.2.2.2.2.1 i hi
theorem c_Rn {C : q_S} {n : Nat → Nat} {c : Nat} (h : c_R C n c) : 0 ≤ C 4 10 0 := h.2.2.2.2.2.2.2.2.2.2.2.2.2.2.2.2.2.2.2.2
theorem c_jn {C : q_S} {n : Nat → Nat} {c : Nat} (h : c_R C n c) (i : Nat) (hi : i < n 1) : ¬ C 1 0 i = 0 := by have := c_R10 h i hi; omega
theorem c_tn {C : q_S} {n : Nat → Nat} {c : Nat} (h : c_R C n c) (i : Nat) (hi : i < n 0) : ¬ C 0 1 i = 0 := by have := c_R01 h i hi; omega
theorem q_vnn (ad : Nat → Nat → Nat) (k : Nat) {v : Int} (h : ¬ v = 0) : q_val ad (k + 3) v = .ref (ad k (v - 1).toNat) := q_rf1 ad k h
theorem q_vch (ad : Nat → Nat → Nat) (k : Nat) {v w : Int} (h : v = w) : q_val ad (k + 3) v = va_rf (q_rf ad k w) := by rw [h]; rfl
theorem q_rfs (ad : Nat → Nat → Nat) (k i : Nat) : q_rf ad k ((i : Int) + 1) = some (ad k i) := by
  unfold q_rf
  rw [if_neg (by omega)]
  congr 2
  omega
section QAST
variable {p : Program} {l : Launch} {e : Env} {R : Room} {s : State} {m : MethodId} {args : Array Value} {below : List Frame} {meth : Method} {c : Code} {H : Heap} {locs : List Loc} {cells slots : Nat} {Q : State → Prop}
variable {cc : ByteArray} {pc nL : Nat} {ls : Array Slot} {rest : List Value} {g : q_G} {s0 : Nat} {Ts : List Cond} {own : String}
theorem q_astore_n (X : q_X p s m args c cc nL Ts own g s0) {k : Fin 4} {i : Nat} {r : Option Nat} {lv lv' : List (Nat × Value)} (hdg : decode cc pc = .ok (.astore_n k, 1)) (hi : (k : Nat) = i) (h : lv_has ls nL lv) (hn : i < nL) (hl : (i, va_rf r) :: lv.filter (fun q => !(q.1 == i) && !(q.1 + 1 == i && q.2.category == 2)) = lv')
    (kk : ∀ ls' : Array Slot, lv_has ls' nL lv' → W p l e R s m args below meth c H locs cells slots Q (F0 m (pc + 1) ls' rest)) : W p l e R s m args below meth c H locs cells slots Q (F0 m pc ls (va_rf r :: rest)) := by
  cases r with
  | none => exact lv_astore_nN X.1 X.2.1 hdg hi h hn hl kk
  | some a => exact lv_astore_n X.1 X.2.1 hdg hi h hn hl kk
theorem q_astore (X : q_X p s m args c cc nL Ts own g s0) {i : Nat} {r : Option Nat} {lv lv' : List (Nat × Value)} (hdg : decode cc pc = .ok (.astore i, 2)) (h : lv_has ls nL lv) (hn : i < nL) (hl : (i, va_rf r) :: lv.filter (fun q => !(q.1 == i) && !(q.1 + 1 == i && q.2.category == 2)) = lv')
    (kk : ∀ ls' : Array Slot, lv_has ls' nL lv' → W p l e R s m args below meth c H locs cells slots Q (F0 m (pc + 2) ls' rest)) : W p l e R s m args below meth c H locs cells slots Q (F0 m pc ls (va_rf r :: rest)) := by
  cases r with
  | none => exact lv_astoreN X.1 X.2.1 hdg h hn hl kk
  | some a => exact lv_astore X.1 X.2.1 hdg h hn hl kk
end QAST
-- what the small methods answer
def c_unt (C : q_S) (i : Nat) : Int := C 1 2 i - C 1 4 i - (if 0 < C 1 5 i then 1 else 0)
abbrev c_job (C : q_S) (k : Nat) : Nat := (C 1 0 k - 1).toNat
abbrev c_tik (C : q_S) (j : Nat) : Nat := (C 0 1 j - 1).toNat
abbrev c_fits (C : q_S) (p k : Nat) : Prop := C 3 1 (c_tik C (c_job C k)) ≤ C 2 1 p ∧ (C 1 1 k = 0 ∨ C 1 1 k = C 2 0 p)
def c_acc (C : q_S) (j : Nat) (f : Nat → Int) : Nat → Int
  | 0 => 0
  | k + 1 => if C 1 0 k = (j : Int) + 1 then c_acc C j f k + f k else c_acc C j f k
theorem c_acc_s (C : q_S) (j : Nat) (f : Nat → Int) (k : Nat) (h : ¬ C 1 0 k = (j : Int) + 1) : c_acc C j f (k + 1) = c_acc C j f k := by rw [c_acc, if_neg h]
abbrev c_hs (C : q_S) (n : Nat → Nat) (j : Nat) (a : Int) : Prop := ∃ k, k < n 1 ∧ C 1 0 k = (j : Int) + 1 ∧ C 1 3 k = a
/-- the first part of a job that waits and that a printer fits -/
def c_fp (C : q_S) (j p : Nat) : Nat → Int
  | 0 => 0
  | k + 1 => if ¬ c_fp C j p k = 0 then c_fp C j p k else if C 1 0 k = (j : Int) + 1 ∧ C 1 3 k = 0 ∧ c_fits C p k then (k : Int) + 1 else 0
theorem c_fp_st (C : q_S) (j p : Nat) {k : Nat} (h : ¬ c_fp C j p k = 0) : ∀ i, c_fp C j p (k + i) = c_fp C j p k := by
  intro i
  induction i with
  | zero => rfl
  | succ i ih => rw [← Nat.add_assoc, c_fp, ih, if_pos h]
theorem c_fp_s (C : q_S) (j p : Nat) (k : Nat) (h : ¬ C 1 0 k = (j : Int) + 1) : c_fp C j p (k + 1) = c_fp C j p k := by
  rw [c_fp]
  by_cases h1 : c_fp C j p k = 0
  · rw [if_neg (fun q => q h1), if_neg (fun q => h q.1), h1]
  · rw [if_pos h1]
theorem c_fp_y (C : q_S) (j p : Nat) {k : Nat} (h : ¬ c_fp C j p k = 0) : ∃ i : Nat, c_fp C j p k = (i : Int) + 1 ∧ i < k ∧ C 1 0 i = (j : Int) + 1 ∧ C 1 3 i = 0 ∧ c_fits C p i := by
  induction k with
  | zero => exact absurd rfl h
  | succ k ih =>
    rw [c_fp] at h ⊢
    by_cases h1 : c_fp C j p k = 0
    · rw [if_neg (fun q => q h1)] at h ⊢
      by_cases h2 : C 1 0 k = (j : Int) + 1 ∧ C 1 3 k = 0 ∧ c_fits C p k
      · rw [if_pos h2]
        exact ⟨k, rfl, by omega, h2⟩
      · rw [if_neg h2] at h
        exact absurd rfl h
    · rw [if_pos h1] at h ⊢
      obtain ⟨i, h3, h4, h5⟩ := ih h
      exact ⟨i, h3, by omega, h5⟩
noncomputable def c_con (C : q_S) (n : Nat → Nat) (j : Nat) : Int := @ite Int (¬ C 0 6 j = 0) (Classical.propDecidable _) 3 (@ite Int (c_hs C n j 1) (Classical.propDecidable _) 1 (@ite Int (c_hs C n j 0) (Classical.propDecidable _) 0 2))
end
section
set_option maxHeartbeats 4000000 in
set_option maxRecDepth 100000 in
theorem c_X4_isWithin (l : Launch) (g : q_G) (s0 : Nat) (n : Nat → Nat) (ad : Nat → Nat → Nat) (C : q_S) (a b d : Int) (ha : R32 a) (hb : R32 b) (hd : R32 d) : Met l yX4_isWithin wsX4_isWithin ({ frames := 0, cells := 0, slots := 0, locals := 0 }) (va_Pc [.int (iI a), .int (iI b), .int (iI d)] (q_B g s0 (n, ad, C))) (va_Qi (fun r u => u = (n, ad, C) ∧ (((b ≤ a ∧ a ≤ d) ∧ r = iI 1) ∨ (¬ (b ≤ a ∧ a ≤ d) ∧ r = iI 0))) (q_B g s0) (q_A s0)) 0 0 (q_A s0) := by
  refine Met.ofW (cc := cX4_isWithin) (maxL := 3) (ret := (some .boolean)) (by decide) rfl ?_
  intro p e s m args below meth c s₁ B hml hv
  obtain ⟨rfl, hv⟩ := hv
  have hr := B.returns
  have hlocks := B.notSynchronized
  obtain ⟨X, hP⟩ := q_start B.exec B.bytes hml (show s.vm.findClass RX4 = some m.cls from findClass_of_methodNamed B.named) (atoms_spec (ws := wsX4_isWithin) B.pre) hv
  have hP : q_P g s0 n ad C s.heap := hP
  have hS : va_S (q_A s0) s.heap s.heap [] := va_S.rf
  have hl := lv_entry ([.int (iI a), .int (iI b), .int (iI d)]) (n := 3) (Nat.le_of_ble_eq_true rfl)
  rw [lg_entry_eq]
  generalize (lg_sl ([.int (iI a), .int (iI b), .int (iI d)]) ++ List.replicate (3 - (lg_sl ([.int (iI a), .int (iI b), .int (iI d)])).length) Slot.unset).toArray = ls at hl ⊢
  have hl : lv_has ls 3 [(0, .int (iI a)), (1, .int (iI b)), (2, .int (iI d))] := hl
  refine lv_iload_n X.1 X.2.1 dX4_isWithin_0 rfl (lv_at hl 0 rfl) ?_
  refine lv_iload_n X.1 X.2.1 dX4_isWithin_1 rfl (lv_at hl 1 rfl) ?_
  refine q_icmp_lt (tgt := 14) X ha hb dX4_isWithin_2 (by decide) (fun h_1 => ?_) (fun h_1 => ?_)
  · refine lv_iconst (v := iI (0)) X.1 X.2.1 dX4_isWithin_14 rfl ?_
    exact q_zret X hr hlocks hP hS (z := (0)) (by decide) ⟨rfl, Or.inr ⟨by omega, rfl⟩⟩ (Nat.le_of_ble_eq_true rfl) (Nat.le_of_ble_eq_true rfl) dX4_isWithin_15
  · refine lv_iload_n X.1 X.2.1 dX4_isWithin_5 rfl (lv_at hl 0 rfl) ?_
    refine lv_iload_n X.1 X.2.1 dX4_isWithin_6 rfl (lv_at hl 2 rfl) ?_
    refine q_icmp_gt (tgt := 14) X ha hd dX4_isWithin_7 (by decide) (fun h_2 => ?_) (fun h_2 => ?_)
    · refine lv_iconst (v := iI (0)) X.1 X.2.1 dX4_isWithin_14 rfl ?_
      exact q_zret X hr hlocks hP hS (z := (0)) (by decide) ⟨rfl, Or.inr ⟨by omega, rfl⟩⟩ (Nat.le_of_ble_eq_true rfl) (Nat.le_of_ble_eq_true rfl) dX4_isWithin_15
    · refine lv_iconst (v := iI (1)) X.1 X.2.1 dX4_isWithin_10 rfl ?_
      refine lv_goto (tgt := 15) X.1 X.2.1 dX4_isWithin_11 (by decide) ?_
      exact q_zret X hr hlocks hP hS (z := (1)) (by decide) ⟨rfl, Or.inl ⟨by omega, rfl⟩⟩ (Nat.le_of_ble_eq_true rfl) (Nat.le_of_ble_eq_true rfl) dX4_isWithin_15
set_option maxHeartbeats 4000000 in
set_option maxRecDepth 100000 in
theorem c_X4_asNumber (l : Launch) (g : q_G) (s0 : Nat) (n : Nat → Nat) (ad : Nat → Nat → Nat) (C : q_S) (a : Int) (ha : a = 0 ∨ a = 1) : Met l yX4_asNumber wsX4_asNumber ({ frames := 0, cells := 0, slots := 0, locals := 0 }) (va_Pc [.int (iI a)] (q_B g s0 (n, ad, C))) (va_Qi (fun r u => u = (n, ad, C) ∧ r = iI a) (q_B g s0) (q_A s0)) 0 0 (q_A s0) := by
  refine Met.ofW (cc := cX4_asNumber) (maxL := 1) (ret := (some .int)) (by decide) rfl ?_
  intro p e s m args below meth c s₁ B hml hv
  obtain ⟨rfl, hv⟩ := hv
  have hr := B.returns
  have hlocks := B.notSynchronized
  obtain ⟨X, hP⟩ := q_start B.exec B.bytes hml (show s.vm.findClass RX4 = some m.cls from findClass_of_methodNamed B.named) (atoms_spec (ws := wsX4_asNumber) B.pre) hv
  have hP : q_P g s0 n ad C s.heap := hP
  have hS : va_S (q_A s0) s.heap s.heap [] := va_S.rf
  have hl := lv_entry ([.int (iI a)]) (n := 1) (Nat.le_of_ble_eq_true rfl)
  rw [lg_entry_eq]
  generalize (lg_sl ([.int (iI a)]) ++ List.replicate (1 - (lg_sl ([.int (iI a)])).length) Slot.unset).toArray = ls at hl ⊢
  have hl : lv_has ls 1 [(0, .int (iI a))] := hl
  refine lv_iload_n X.1 X.2.1 dX4_asNumber_0 rfl (lv_at hl 0 rfl) ?_
  refine q_if_eq (tgt := 8) X (q_b32 ha) dX4_asNumber_1 (by decide) (fun h_1 => ?_) (fun h_1 => ?_)
  · refine lv_iconst (v := iI (0)) X.1 X.2.1 dX4_asNumber_8 rfl ?_
    exact q_iret X hr hlocks hP hS ⟨rfl, congrArg iI (by omega)⟩ (Nat.le_of_ble_eq_true rfl) (Nat.le_of_ble_eq_true rfl) dX4_asNumber_9
  · refine lv_iconst (v := iI (1)) X.1 X.2.1 dX4_asNumber_4 rfl ?_
    refine lv_goto (tgt := 9) X.1 X.2.1 dX4_asNumber_5 (by decide) ?_
    exact q_iret X hr hlocks hP hS ⟨rfl, congrArg iI (by omega)⟩ (Nat.le_of_ble_eq_true rfl) (Nat.le_of_ble_eq_true rfl) dX4_asNumber_9
set_option maxHeartbeats 4000000 in
set_option maxRecDepth 100000 in
theorem c_X1_untouchedCopies (l : Launch) (g : q_G) (s0 : Nat) (n : Nat → Nat) (ad : Nat → Nat → Nat) (C : q_S) (i : Nat) (hi : i < n 1) : Met l yX1_untouchedCopies wsX1_untouchedCopies ({ frames := 0, cells := 0, slots := 0, locals := 0 }) (va_Pc [.ref (ad 1 i)] (q_B g s0 (n, ad, C))) (va_Qi (fun r u => u = (n, ad, C) ∧ r = iI (c_unt C i)) (q_B g s0) (q_A s0)) 0 0 (q_A s0) := by
  refine Met.ofW (cc := cX1_untouchedCopies) (maxL := 1) (ret := (some .int)) (by decide) rfl ?_
  intro p e s m args below meth c s₁ B hml hv
  obtain ⟨rfl, hv⟩ := hv
  have hr := B.returns
  have hlocks := B.notSynchronized
  obtain ⟨X, hP⟩ := q_start B.exec B.bytes hml (show s.vm.findClass RX1 = some m.cls from findClass_of_methodNamed B.named) (atoms_spec (ws := wsX1_untouchedCopies) B.pre) hv
  have hP : q_P g s0 n ad C s.heap := hP
  have hS : va_S (q_A s0) s.heap s.heap [] := va_S.rf
  have in1 : ∀ w ∈ wsX10, w ∈ wsX1_untouchedCopies := by decide +kernel
  have hl := lv_entry ([.ref (ad 1 i)]) (n := 1) (Nat.le_of_ble_eq_true rfl)
  rw [lg_entry_eq]
  generalize (lg_sl ([.ref (ad 1 i)]) ++ List.replicate (1 - (lg_sl ([.ref (ad 1 i)])).length) Slot.unset).toArray = ls at hl ⊢
  have hl : lv_has ls 1 [(0, .ref (ad 1 i))] := hl
  refine lv_aload_n X.1 X.2.1 dX1_untouchedCopies_0 rfl (lv_at hl 0 rfl) ?_
  refine q_get (index := 17) (v := .int (iI (C 1 2 i))) X hP 1 2 i rfl rfl (by decide) in1 hi (by decide) (by decide +kernel) rfl dX1_untouchedCopies_1 ?_
  refine lv_aload_n X.1 X.2.1 dX1_untouchedCopies_4 rfl (lv_at hl 0 rfl) ?_
  refine q_get (index := 20) (v := .int (iI (C 1 4 i))) X hP 1 4 i rfl rfl (by decide) in1 hi (by decide) (by decide +kernel) rfl dX1_untouchedCopies_5 ?_
  refine q_isub X dX1_untouchedCopies_8 ?_
  refine lv_aload_n X.1 X.2.1 dX1_untouchedCopies_9 rfl (lv_at hl 0 rfl) ?_
  refine q_get (index := 23) (v := .int (iI (C 1 5 i))) X hP 1 5 i rfl rfl (by decide) in1 hi (by decide) (by decide +kernel) rfl dX1_untouchedCopies_10 ?_
  refine q_if_le (tgt := 20) X (hP.tok 1 5 i rfl) dX1_untouchedCopies_13 (by decide) (fun h_1 => ?_) (fun h_1 => ?_)
  · refine lv_iconst (v := iI (0)) X.1 X.2.1 dX1_untouchedCopies_20 rfl ?_
    refine q_isub X dX1_untouchedCopies_21 ?_
    exact q_iret X hr hlocks hP hS ⟨rfl, congrArg iI (by unfold c_unt; first | (rw [if_pos (by assumption)]; done) | (rw [if_neg (by omega)]; done))⟩ (Nat.le_of_ble_eq_true rfl) (Nat.le_of_ble_eq_true rfl) dX1_untouchedCopies_22
  · refine lv_iconst (v := iI (1)) X.1 X.2.1 dX1_untouchedCopies_16 rfl ?_
    refine lv_goto (tgt := 21) X.1 X.2.1 dX1_untouchedCopies_17 (by decide) ?_
    refine q_isub X dX1_untouchedCopies_21 ?_
    exact q_iret X hr hlocks hP hS ⟨rfl, congrArg iI (by unfold c_unt; first | (rw [if_pos (by assumption)]; done) | (rw [if_neg (by omega)]; done))⟩ (Nat.le_of_ble_eq_true rfl) (Nat.le_of_ble_eq_true rfl) dX1_untouchedCopies_22
set_option maxHeartbeats 4000000 in
set_option maxRecDepth 100000 in
theorem c_X2_fits (l : Launch) (g : q_G) (s0 : Nat) (n : Nat → Nat) (ad : Nat → Nat → Nat) (C : q_S) (c0 : Nat) (hR : c_R C n c0) (p0 : Nat) (hp : p0 < n 2) (i : Nat) (hi : i < n 1) : Met l yX2_fits wsX2_fits ({ frames := 0, cells := 0, slots := 0, locals := 0 }) (va_Pc [.ref (ad 2 p0), .ref (ad 1 i)] (q_B g s0 (n, ad, C))) (va_Qi (fun r u => u = (n, ad, C) ∧ (((c_fits C p0 i) ∧ r = iI 1) ∨ (¬ (c_fits C p0 i) ∧ r = iI 0))) (q_B g s0) (q_A s0)) 0 0 (q_A s0) := by
  refine Met.ofW (cc := cX2_fits) (maxL := 2) (ret := (some .boolean)) (by decide) rfl ?_
  intro p e s m args below meth c s₁ B hml hv
  obtain ⟨rfl, hv⟩ := hv
  have hr := B.returns
  have hlocks := B.notSynchronized
  obtain ⟨X, hP⟩ := q_start B.exec B.bytes hml (show s.vm.findClass RX2 = some m.cls from findClass_of_methodNamed B.named) (atoms_spec (ws := wsX2_fits) B.pre) hv
  have hP : q_P g s0 n ad C s.heap := hP
  have hS : va_S (q_A s0) s.heap s.heap [] := va_S.rf
  have in0 : ∀ w ∈ wsX00, w ∈ wsX2_fits := by decide +kernel
  have in1 : ∀ w ∈ wsX10, w ∈ wsX2_fits := by decide +kernel
  have in2 : ∀ w ∈ wsX20, w ∈ wsX2_fits := by decide +kernel
  have in3 : ∀ w ∈ wsX30, w ∈ wsX2_fits := by decide +kernel
  have hl := lv_entry ([.ref (ad 2 p0), .ref (ad 1 i)]) (n := 2) (Nat.le_of_ble_eq_true rfl)
  rw [lg_entry_eq]
  generalize (lg_sl ([.ref (ad 2 p0), .ref (ad 1 i)]) ++ List.replicate (2 - (lg_sl ([.ref (ad 2 p0), .ref (ad 1 i)])).length) Slot.unset).toArray = ls at hl ⊢
  have hl : lv_has ls 2 [(0, .ref (ad 2 p0)), (1, .ref (ad 1 i))] := hl
  refine lv_aload_n X.1 X.2.1 dX2_fits_0 rfl (lv_at hl 0 rfl) ?_
  refine q_get (index := 18) (v := .int (iI (C 2 1 p0))) X hP 2 1 p0 rfl rfl (by decide) in2 hp (by decide) (by decide +kernel) rfl dX2_fits_1 ?_
  refine lv_aload_n X.1 X.2.1 dX2_fits_4 rfl (lv_at hl 1 rfl) ?_
  refine q_get (index := 21) (v := .ref (ad 0 ((C 1 0 i - 1).toNat))) X hP 1 0 i rfl rfl (by decide) in1 hi (by decide) (by decide +kernel) (q_vnn ad 0 (c_jn hR i hi)) dX2_fits_5 ?_
  refine q_get (index := 27) (v := .ref (ad 3 ((C 0 1 ((C 1 0 i - 1).toNat) - 1).toNat))) X hP 0 1 ((C 1 0 i - 1).toNat) rfl rfl (by decide) in0 (q_rfl (hP.tok 1 0 i rfl) (c_jn hR i hi)) (by decide) (by decide +kernel) (q_vnn ad 3 (c_tn hR ((C 1 0 i - 1).toNat) (q_rfl (hP.tok 1 0 i rfl) (c_jn hR i hi)))) dX2_fits_8 ?_
  refine q_get (index := 33) (v := .int (iI (C 3 1 ((C 0 1 ((C 1 0 i - 1).toNat) - 1).toNat)))) X hP 3 1 ((C 0 1 ((C 1 0 i - 1).toNat) - 1).toNat) rfl rfl (by decide) in3 (q_rfl (hP.tok 0 1 ((C 1 0 i - 1).toNat) rfl) (c_tn hR ((C 1 0 i - 1).toNat) (q_rfl (hP.tok 1 0 i rfl) (c_jn hR i hi)))) (by decide) (by decide +kernel) rfl dX2_fits_11 ?_
  refine q_icmp_lt (tgt := 39) X (hP.tok 2 1 p0 rfl) (hP.tok 3 1 ((C 0 1 ((C 1 0 i - 1).toNat) - 1).toNat) rfl) dX2_fits_14 (by decide) (fun h_1 => ?_) (fun h_1 => ?_)
  · refine lv_iconst (v := iI (0)) X.1 X.2.1 dX2_fits_39 rfl ?_
    exact q_zret X hr hlocks hP hS (z := (0)) (by decide) ⟨rfl, Or.inr ⟨by unfold c_fits c_tik c_job; omega, rfl⟩⟩ (Nat.le_of_ble_eq_true rfl) (Nat.le_of_ble_eq_true rfl) dX2_fits_40
  · refine lv_aload_n X.1 X.2.1 dX2_fits_17 rfl (lv_at hl 1 rfl) ?_
    refine q_get (index := 36) (v := .int (iI (C 1 1 i))) X hP 1 1 i rfl rfl (by decide) in1 hi (by decide) (by decide +kernel) rfl dX2_fits_18 ?_
    refine q_if_eq (tgt := 35) X (hP.tok 1 1 i rfl) dX2_fits_21 (by decide) (fun h_2 => ?_) (fun h_2 => ?_)
    · refine lv_iconst (v := iI (1)) X.1 X.2.1 dX2_fits_35 rfl ?_
      refine lv_goto (tgt := 40) X.1 X.2.1 dX2_fits_36 (by decide) ?_
      exact q_zret X hr hlocks hP hS (z := (1)) (by decide) ⟨rfl, Or.inl ⟨by unfold c_fits c_tik c_job; omega, rfl⟩⟩ (Nat.le_of_ble_eq_true rfl) (Nat.le_of_ble_eq_true rfl) dX2_fits_40
    · refine lv_aload_n X.1 X.2.1 dX2_fits_24 rfl (lv_at hl 1 rfl) ?_
      refine q_get (index := 36) (v := .int (iI (C 1 1 i))) X hP 1 1 i rfl rfl (by decide) in1 hi (by decide) (by decide +kernel) rfl dX2_fits_25 ?_
      refine lv_aload_n X.1 X.2.1 dX2_fits_28 rfl (lv_at hl 0 rfl) ?_
      refine q_get (index := 9) (v := .int (iI (C 2 0 p0))) X hP 2 0 p0 rfl rfl (by decide) in2 hp (by decide) (by decide +kernel) rfl dX2_fits_29 ?_
      refine q_icmp_ne (tgt := 39) X (hP.tok 1 1 i rfl) (hP.tok 2 0 p0 rfl) dX2_fits_32 (by decide) (fun h_3 => ?_) (fun h_3 => ?_)
      · refine lv_iconst (v := iI (0)) X.1 X.2.1 dX2_fits_39 rfl ?_
        exact q_zret X hr hlocks hP hS (z := (0)) (by decide) ⟨rfl, Or.inr ⟨by unfold c_fits c_tik c_job; omega, rfl⟩⟩ (Nat.le_of_ble_eq_true rfl) (Nat.le_of_ble_eq_true rfl) dX2_fits_40
      · refine lv_iconst (v := iI (1)) X.1 X.2.1 dX2_fits_35 rfl ?_
        refine lv_goto (tgt := 40) X.1 X.2.1 dX2_fits_36 (by decide) ?_
        exact q_zret X hr hlocks hP hS (z := (1)) (by decide) ⟨rfl, Or.inl ⟨by unfold c_fits c_tik c_job; omega, rfl⟩⟩ (Nat.le_of_ble_eq_true rfl) (Nat.le_of_ble_eq_true rfl) dX2_fits_40
set_option maxHeartbeats 4000000 in
set_option maxRecDepth 100000 in
theorem w_X0_partsHad {p : Program} {l : Launch} {e : Env} {s : State} {m : MethodId} {args : Array Value} {below : List Frame} {meth : Method} {c : Code} {Q : State → Prop} {g : q_G} {s0 : Nat} {n : Nat → Nat} {ad : Nat → Nat → Nat} {C : q_S} (X : q_X p s m args c cX0_partsHad 3 wsX0_partsHad RX0 g s0) (in0 : ∀ w ∈ wsX00, w ∈ wsX0_partsHad) (in1 : ∀ w ∈ wsX10, w ∈ wsX0_partsHad) (c0 : Nat) (hR : c_R C n c0) (j : Nat) (hj : j < n 0) (kx : ∀  (H : Heap) (locs : List Loc) (ls : Array Slot), q_P g s0 n ad C H → va_S (q_A s0) s.heap H locs → lv_has ls 3 [(1, .int (iI (c_acc C j (fun _ => 1) (n 1)))), (0, .ref (ad 0 j))] → W p l e ({ frames := 0, cells := 0, slots := 0, locals := 0 }) s m args below meth c H locs 0 0 Q (F0 m 22 ls [])) :
    ∀ (N : Nat) (k : Nat) (H : Heap) (locs : List Loc) (ls : Array Slot), (n 1 < k + N) → (k ≤ n 1) → q_P g s0 n ad C H → va_S (q_A s0) s.heap H locs → lv_has ls 3 [(2, va_rf (q_rf ad 1 (c_find C j (n 1 - k) k))), (1, .int (iI (c_acc C j (fun _ => 1) k))), (0, .ref (ad 0 j))] → W p l e ({ frames := 0, cells := 0, slots := 0, locals := 0 }) s m args below meth c H locs 0 0 Q (F0 m 7 ls []) := by
  intro N
  induction N with
  | zero =>
    intro k H locs ls h1 h2 hP hS hl
    exact absurd h1 (by omega)
  | succ N ih =>
    intro k H locs ls h1 h2 hP hS hl
    rcases c_find_c C j (n 1 - k) k with ⟨hv, hnone⟩ | ⟨i, hv, hki, hin, hjb, hbet⟩
    · rw [hv] at hl
      have hl : lv_has ls 3 [(2, .null), (1, .int (iI (c_acc C j (fun _ => 1) k))), (0, .ref (ad 0 j))] := hl
      have e_1 : (c_acc C j (fun _ => 1) k) = (c_acc C j (fun _ => 1) (n 1)) := by exact (c_skip (fun k => (c_acc C j (fun _ => 1) k)) C j (fun k h => c_acc_s C j _ k h) h2 (fun i h5 h6 => hnone i h5 (by omega))).symm
      have hl : lv_has ls 3 [(2, .null), (1, .int (iI (c_acc C j (fun _ => 1) (n 1)))), (0, .ref (ad 0 j))] := lv_cong (show lv_has ls 3 [(2, .null), (1, .int (iI (c_acc C j (fun _ => 1) k))), (0, .ref (ad 0 j))] from lv_sub hl [0, 1, 2] rfl) (lv_cs rfl (lv_cs (congrArg (fun z => Value.int (iI z)) e_1) (lv_cs rfl rfl)))
      refine lv_aload_nN X.1 X.2.1 dX0_partsHad_7 rfl (lv_at hl 0 rfl) ?_
      refine lv_ifnullN (tgt := 22) X.1 X.2.1 dX0_partsHad_8 (by decide) ?_
      have hl : lv_has ls 3 [(1, .int (iI (c_acc C j (fun _ => 1) (n 1)))), (0, .ref (ad 0 j))] := lv_sub hl [1, 2] rfl
      exact kx _ _ ls hP hS hl
    · rw [hv, q_rf2] at hl
      have hl : lv_has ls 3 [(2, .ref (ad 1 i)), (1, .int (iI (c_acc C j (fun _ => 1) k))), (0, .ref (ad 0 j))] := hl
      have hi : i < n 1 := by omega
      have e_2 : (c_acc C j (fun _ => 1) k) = (c_acc C j (fun _ => 1) i) := by exact (c_skip (fun k => (c_acc C j (fun _ => 1) k)) C j (fun k h => c_acc_s C j _ k h) hki hbet).symm
      have hl : lv_has ls 3 [(2, .ref (ad 1 i)), (1, .int (iI (c_acc C j (fun _ => 1) i))), (0, .ref (ad 0 j))] := lv_cong (show lv_has ls 3 [(2, .ref (ad 1 i)), (1, .int (iI (c_acc C j (fun _ => 1) k))), (0, .ref (ad 0 j))] from lv_sub hl [0, 1, 2] rfl) (lv_cs rfl (lv_cs (congrArg (fun z => Value.int (iI z)) e_2) (lv_cs rfl rfl)))
      refine lv_aload_n X.1 X.2.1 dX0_partsHad_7 rfl (lv_at hl 0 rfl) ?_
      refine lv_ifnull X.1 X.2.1 dX0_partsHad_8 ?_
      refine q_iinc (lv' := [(1, .int (iI ((c_acc C j (fun _ => 1) i) + 1))), (2, .ref (ad 1 i)), (0, .ref (ad 0 j))]) (k := 1) X dX0_partsHad_11 hl rfl (by decide) rfl (fun ls hl => ?_)
      refine lv_aload_n X.1 X.2.1 dX0_partsHad_14 rfl (lv_at hl 1 rfl) ?_
      refine q_get (index := 38) (v := va_rf (q_rf ad 1 (c_find C j (n 1 - (i + 1)) (i + 1)))) X hP 1 6 i rfl rfl (by decide) in1 hi (by decide) (by decide +kernel) (q_vch ad 1 (c_R16 hR i j hi hjb)) dX0_partsHad_15 ?_
      refine q_astore_n (lv' := [(2, va_rf (q_rf ad 1 (c_find C j (n 1 - (i + 1)) (i + 1)))), (1, .int (iI ((c_acc C j (fun _ => 1) i) + 1))), (0, .ref (ad 0 j))]) X dX0_partsHad_18 rfl hl (by decide) rfl (fun ls hl => ?_)
      refine lv_goto (tgt := 7) X.1 X.2.1 dX0_partsHad_19 (by decide) ?_
      have e_3 : ((c_acc C j (fun _ => 1) i) + 1) = (c_acc C j (fun _ => 1) (i + 1)) := by rw [c_acc, if_pos hjb]
      have hl : lv_has ls 3 [(2, va_rf (q_rf ad 1 (c_find C j (n 1 - (i + 1)) (i + 1)))), (1, .int (iI (c_acc C j (fun _ => 1) (i + 1)))), (0, .ref (ad 0 j))] := lv_cong (show lv_has ls 3 [(2, va_rf (q_rf ad 1 (c_find C j (n 1 - (i + 1)) (i + 1)))), (1, .int (iI ((c_acc C j (fun _ => 1) i) + 1))), (0, .ref (ad 0 j))] from lv_sub hl [0, 1, 2] rfl) (lv_cs rfl (lv_cs (congrArg (fun z => Value.int (iI z)) e_3) (lv_cs rfl rfl)))
      exact ih (i + 1) _ _ ls (by omega) (by omega) hP hS hl
set_option maxHeartbeats 4000000 in
set_option maxRecDepth 100000 in
theorem c_X0_partsHad (l : Launch) (g : q_G) (s0 : Nat) (n : Nat → Nat) (ad : Nat → Nat → Nat) (C : q_S) (c0 : Nat) (hR : c_R C n c0) (j : Nat) (hj : j < n 0) : Met l yX0_partsHad wsX0_partsHad ({ frames := 0, cells := 0, slots := 0, locals := 0 }) (va_Pc [.ref (ad 0 j)] (q_B g s0 (n, ad, C))) (va_Qi (fun r u => u = (n, ad, C) ∧ r = iI (c_acc C j (fun _ => 1) (n 1))) (q_B g s0) (q_A s0)) 0 0 (q_A s0) := by
  refine Met.ofW (cc := cX0_partsHad) (maxL := 3) (ret := (some .int)) (by decide) rfl ?_
  intro p e s m args below meth c s₁ B hml hv
  obtain ⟨rfl, hv⟩ := hv
  have hr := B.returns
  have hlocks := B.notSynchronized
  obtain ⟨X, hP⟩ := q_start B.exec B.bytes hml (show s.vm.findClass RX0 = some m.cls from findClass_of_methodNamed B.named) (atoms_spec (ws := wsX0_partsHad) B.pre) hv
  have hP : q_P g s0 n ad C s.heap := hP
  have hS : va_S (q_A s0) s.heap s.heap [] := va_S.rf
  have in0 : ∀ w ∈ wsX00, w ∈ wsX0_partsHad := by decide +kernel
  have in1 : ∀ w ∈ wsX10, w ∈ wsX0_partsHad := by decide +kernel
  have hl := lv_entry ([.ref (ad 0 j)]) (n := 3) (Nat.le_of_ble_eq_true rfl)
  rw [lg_entry_eq]
  generalize (lg_sl ([.ref (ad 0 j)]) ++ List.replicate (3 - (lg_sl ([.ref (ad 0 j)])).length) Slot.unset).toArray = ls at hl ⊢
  have hl : lv_has ls 3 [(0, .ref (ad 0 j))] := hl
  refine lv_iconst (v := iI (0)) X.1 X.2.1 dX0_partsHad_0 rfl ?_
  refine lv_istore_n (lv' := [(1, .int (iI (0))), (0, .ref (ad 0 j))]) X.1 X.2.1 dX0_partsHad_1 rfl hl (by decide) rfl (fun ls hl => ?_)
  refine lv_aload_n X.1 X.2.1 dX0_partsHad_2 rfl (lv_at hl 1 rfl) ?_
  refine q_get (index := 29) (v := va_rf (q_rf ad 1 (c_find C j (n 1) 0))) X hP 0 7 j rfl rfl (by decide) in0 hj (by decide) (by decide +kernel) (q_vch ad 1 (c_R07 hR j hj)) dX0_partsHad_3 ?_
  refine q_astore_n (lv' := [(2, va_rf (q_rf ad 1 (c_find C j (n 1) 0))), (1, .int (iI (0))), (0, .ref (ad 0 j))]) X dX0_partsHad_6 rfl hl (by decide) rfl (fun ls hl => ?_)
  have e_1 : (va_rf (q_rf ad 1 (c_find C j (n 1) 0)) : Value) = va_rf (q_rf ad 1 (c_find C j (n 1 - 0) 0)) := by rfl
  have e_2 : (0) = (c_acc C j (fun _ => 1) 0) := by rfl
  have hl : lv_has ls 3 [(2, va_rf (q_rf ad 1 (c_find C j (n 1 - 0) 0))), (1, .int (iI (c_acc C j (fun _ => 1) 0))), (0, .ref (ad 0 j))] := lv_cong (show lv_has ls 3 [(2, va_rf (q_rf ad 1 (c_find C j (n 1) 0))), (1, .int (iI (0))), (0, .ref (ad 0 j))] from lv_sub hl [0, 1, 2] rfl) (lv_cs e_1 (lv_cs (congrArg (fun z => Value.int (iI z)) e_2) (lv_cs rfl rfl)))
  refine w_X0_partsHad X in0 in1 c0 hR j hj (fun H locs ls hP hS hl => ?_) (n 1 + 1) 0 _ _ ls (by omega) (by omega) hP hS hl
  refine lv_iload_n X.1 X.2.1 dX0_partsHad_22 rfl (lv_at hl 0 rfl) ?_
  exact q_iret X hr hlocks hP hS ⟨rfl, rfl⟩ (Nat.le_of_ble_eq_true rfl) (Nat.le_of_ble_eq_true rfl) dX0_partsHad_23
set_option maxHeartbeats 4000000 in
set_option maxRecDepth 100000 in
theorem w_X0_wholeCopies {p : Program} {l : Launch} {e : Env} {s : State} {m : MethodId} {args : Array Value} {below : List Frame} {meth : Method} {c : Code} {Q : State → Prop} {g : q_G} {s0 : Nat} {n : Nat → Nat} {ad : Nat → Nat → Nat} {C : q_S} (X : q_X p s m args c cX0_wholeCopies 3 wsX0_wholeCopies RX0 g s0) (in0 : ∀ w ∈ wsX00, w ∈ wsX0_wholeCopies) (in1 : ∀ w ∈ wsX10, w ∈ wsX0_wholeCopies) (c0 : Nat) (hR : c_R C n c0) (j : Nat) (hj : j < n 0) (kx : ∀  (H : Heap) (locs : List Loc) (ls : Array Slot), q_P g s0 n ad C H → va_S (q_A s0) s.heap H locs → lv_has ls 3 [(1, .int (iI (c_acc C j (fun k => C 1 4 k) (n 1)))), (0, .ref (ad 0 j))] → W p l e ({ frames := 0, cells := 0, slots := 0, locals := 0 }) s m args below meth c H locs 0 0 Q (F0 m 26 ls [])) :
    ∀ (N : Nat) (k : Nat) (H : Heap) (locs : List Loc) (ls : Array Slot), (n 1 < k + N) → (k ≤ n 1) → q_P g s0 n ad C H → va_S (q_A s0) s.heap H locs → lv_has ls 3 [(2, va_rf (q_rf ad 1 (c_find C j (n 1 - k) k))), (1, .int (iI (c_acc C j (fun k => C 1 4 k) k))), (0, .ref (ad 0 j))] → W p l e ({ frames := 0, cells := 0, slots := 0, locals := 0 }) s m args below meth c H locs 0 0 Q (F0 m 7 ls []) := by
  intro N
  induction N with
  | zero =>
    intro k H locs ls h1 h2 hP hS hl
    exact absurd h1 (by omega)
  | succ N ih =>
    intro k H locs ls h1 h2 hP hS hl
    rcases c_find_c C j (n 1 - k) k with ⟨hv, hnone⟩ | ⟨i, hv, hki, hin, hjb, hbet⟩
    · rw [hv] at hl
      have hl : lv_has ls 3 [(2, .null), (1, .int (iI (c_acc C j (fun k => C 1 4 k) k))), (0, .ref (ad 0 j))] := hl
      have e_1 : (c_acc C j (fun k => C 1 4 k) k) = (c_acc C j (fun k => C 1 4 k) (n 1)) := by exact (c_skip (fun k => (c_acc C j (fun k => C 1 4 k) k)) C j (fun k h => c_acc_s C j _ k h) h2 (fun i h5 h6 => hnone i h5 (by omega))).symm
      have hl : lv_has ls 3 [(2, .null), (1, .int (iI (c_acc C j (fun k => C 1 4 k) (n 1)))), (0, .ref (ad 0 j))] := lv_cong (show lv_has ls 3 [(2, .null), (1, .int (iI (c_acc C j (fun k => C 1 4 k) k))), (0, .ref (ad 0 j))] from lv_sub hl [0, 1, 2] rfl) (lv_cs rfl (lv_cs (congrArg (fun z => Value.int (iI z)) e_1) (lv_cs rfl rfl)))
      refine lv_aload_nN X.1 X.2.1 dX0_wholeCopies_7 rfl (lv_at hl 0 rfl) ?_
      refine lv_ifnullN (tgt := 26) X.1 X.2.1 dX0_wholeCopies_8 (by decide) ?_
      have hl : lv_has ls 3 [(1, .int (iI (c_acc C j (fun k => C 1 4 k) (n 1)))), (0, .ref (ad 0 j))] := lv_sub hl [1, 2] rfl
      exact kx _ _ ls hP hS hl
    · rw [hv, q_rf2] at hl
      have hl : lv_has ls 3 [(2, .ref (ad 1 i)), (1, .int (iI (c_acc C j (fun k => C 1 4 k) k))), (0, .ref (ad 0 j))] := hl
      have hi : i < n 1 := by omega
      have e_2 : (c_acc C j (fun k => C 1 4 k) k) = (c_acc C j (fun k => C 1 4 k) i) := by exact (c_skip (fun k => (c_acc C j (fun k => C 1 4 k) k)) C j (fun k h => c_acc_s C j _ k h) hki hbet).symm
      have hl : lv_has ls 3 [(2, .ref (ad 1 i)), (1, .int (iI (c_acc C j (fun k => C 1 4 k) i))), (0, .ref (ad 0 j))] := lv_cong (show lv_has ls 3 [(2, .ref (ad 1 i)), (1, .int (iI (c_acc C j (fun k => C 1 4 k) k))), (0, .ref (ad 0 j))] from lv_sub hl [0, 1, 2] rfl) (lv_cs rfl (lv_cs (congrArg (fun z => Value.int (iI z)) e_2) (lv_cs rfl rfl)))
      refine lv_aload_n X.1 X.2.1 dX0_wholeCopies_7 rfl (lv_at hl 0 rfl) ?_
      refine lv_ifnull X.1 X.2.1 dX0_wholeCopies_8 ?_
      refine lv_iload_n X.1 X.2.1 dX0_wholeCopies_11 rfl (lv_at hl 1 rfl) ?_
      refine lv_aload_n X.1 X.2.1 dX0_wholeCopies_12 rfl (lv_at hl 0 rfl) ?_
      refine q_get (index := 41) (v := .int (iI (C 1 4 i))) X hP 1 4 i rfl rfl (by decide) in1 hi (by decide) (by decide +kernel) rfl dX0_wholeCopies_13 ?_
      have f_3 := c_R14 hR i
      refine q_iadd X dX0_wholeCopies_16 ?_
      refine lv_istore_n (lv' := [(1, .int (iI ((c_acc C j (fun k => C 1 4 k) i) + (C 1 4 i)))), (2, .ref (ad 1 i)), (0, .ref (ad 0 j))]) X.1 X.2.1 dX0_wholeCopies_17 rfl hl (by decide) rfl (fun ls hl => ?_)
      refine lv_aload_n X.1 X.2.1 dX0_wholeCopies_18 rfl (lv_at hl 1 rfl) ?_
      refine q_get (index := 38) (v := va_rf (q_rf ad 1 (c_find C j (n 1 - (i + 1)) (i + 1)))) X hP 1 6 i rfl rfl (by decide) in1 hi (by decide) (by decide +kernel) (q_vch ad 1 (c_R16 hR i j hi hjb)) dX0_wholeCopies_19 ?_
      refine q_astore_n (lv' := [(2, va_rf (q_rf ad 1 (c_find C j (n 1 - (i + 1)) (i + 1)))), (1, .int (iI ((c_acc C j (fun k => C 1 4 k) i) + (C 1 4 i)))), (0, .ref (ad 0 j))]) X dX0_wholeCopies_22 rfl hl (by decide) rfl (fun ls hl => ?_)
      refine lv_goto (tgt := 7) X.1 X.2.1 dX0_wholeCopies_23 (by decide) ?_
      have e_4 : ((c_acc C j (fun k => C 1 4 k) i) + (C 1 4 i)) = (c_acc C j (fun k => C 1 4 k) (i + 1)) := by rw [c_acc, if_pos hjb]
      have hl : lv_has ls 3 [(2, va_rf (q_rf ad 1 (c_find C j (n 1 - (i + 1)) (i + 1)))), (1, .int (iI (c_acc C j (fun k => C 1 4 k) (i + 1)))), (0, .ref (ad 0 j))] := lv_cong (show lv_has ls 3 [(2, va_rf (q_rf ad 1 (c_find C j (n 1 - (i + 1)) (i + 1)))), (1, .int (iI ((c_acc C j (fun k => C 1 4 k) i) + (C 1 4 i)))), (0, .ref (ad 0 j))] from lv_sub hl [0, 1, 2] rfl) (lv_cs rfl (lv_cs (congrArg (fun z => Value.int (iI z)) e_4) (lv_cs rfl rfl)))
      exact ih (i + 1) _ _ ls (by omega) (by omega) hP hS hl
set_option maxHeartbeats 4000000 in
set_option maxRecDepth 100000 in
theorem c_X0_wholeCopies (l : Launch) (g : q_G) (s0 : Nat) (n : Nat → Nat) (ad : Nat → Nat → Nat) (C : q_S) (c0 : Nat) (hR : c_R C n c0) (j : Nat) (hj : j < n 0) : Met l yX0_wholeCopies wsX0_wholeCopies ({ frames := 0, cells := 0, slots := 0, locals := 0 }) (va_Pc [.ref (ad 0 j)] (q_B g s0 (n, ad, C))) (va_Qi (fun r u => u = (n, ad, C) ∧ r = iI (c_acc C j (fun k => C 1 4 k) (n 1))) (q_B g s0) (q_A s0)) 0 0 (q_A s0) := by
  refine Met.ofW (cc := cX0_wholeCopies) (maxL := 3) (ret := (some .int)) (by decide) rfl ?_
  intro p e s m args below meth c s₁ B hml hv
  obtain ⟨rfl, hv⟩ := hv
  have hr := B.returns
  have hlocks := B.notSynchronized
  obtain ⟨X, hP⟩ := q_start B.exec B.bytes hml (show s.vm.findClass RX0 = some m.cls from findClass_of_methodNamed B.named) (atoms_spec (ws := wsX0_wholeCopies) B.pre) hv
  have hP : q_P g s0 n ad C s.heap := hP
  have hS : va_S (q_A s0) s.heap s.heap [] := va_S.rf
  have in0 : ∀ w ∈ wsX00, w ∈ wsX0_wholeCopies := by decide +kernel
  have in1 : ∀ w ∈ wsX10, w ∈ wsX0_wholeCopies := by decide +kernel
  have hl := lv_entry ([.ref (ad 0 j)]) (n := 3) (Nat.le_of_ble_eq_true rfl)
  rw [lg_entry_eq]
  generalize (lg_sl ([.ref (ad 0 j)]) ++ List.replicate (3 - (lg_sl ([.ref (ad 0 j)])).length) Slot.unset).toArray = ls at hl ⊢
  have hl : lv_has ls 3 [(0, .ref (ad 0 j))] := hl
  refine lv_iconst (v := iI (0)) X.1 X.2.1 dX0_wholeCopies_0 rfl ?_
  refine lv_istore_n (lv' := [(1, .int (iI (0))), (0, .ref (ad 0 j))]) X.1 X.2.1 dX0_wholeCopies_1 rfl hl (by decide) rfl (fun ls hl => ?_)
  refine lv_aload_n X.1 X.2.1 dX0_wholeCopies_2 rfl (lv_at hl 1 rfl) ?_
  refine q_get (index := 29) (v := va_rf (q_rf ad 1 (c_find C j (n 1) 0))) X hP 0 7 j rfl rfl (by decide) in0 hj (by decide) (by decide +kernel) (q_vch ad 1 (c_R07 hR j hj)) dX0_wholeCopies_3 ?_
  refine q_astore_n (lv' := [(2, va_rf (q_rf ad 1 (c_find C j (n 1) 0))), (1, .int (iI (0))), (0, .ref (ad 0 j))]) X dX0_wholeCopies_6 rfl hl (by decide) rfl (fun ls hl => ?_)
  have e_1 : (va_rf (q_rf ad 1 (c_find C j (n 1) 0)) : Value) = va_rf (q_rf ad 1 (c_find C j (n 1 - 0) 0)) := by rfl
  have e_2 : (0) = (c_acc C j (fun k => C 1 4 k) 0) := by rfl
  have hl : lv_has ls 3 [(2, va_rf (q_rf ad 1 (c_find C j (n 1 - 0) 0))), (1, .int (iI (c_acc C j (fun k => C 1 4 k) 0))), (0, .ref (ad 0 j))] := lv_cong (show lv_has ls 3 [(2, va_rf (q_rf ad 1 (c_find C j (n 1) 0))), (1, .int (iI (0))), (0, .ref (ad 0 j))] from lv_sub hl [0, 1, 2] rfl) (lv_cs e_1 (lv_cs (congrArg (fun z => Value.int (iI z)) e_2) (lv_cs rfl rfl)))
  refine w_X0_wholeCopies X in0 in1 c0 hR j hj (fun H locs ls hP hS hl => ?_) (n 1 + 1) 0 _ _ ls (by omega) (by omega) hP hS hl
  refine lv_iload_n X.1 X.2.1 dX0_wholeCopies_26 rfl (lv_at hl 0 rfl) ?_
  exact q_iret X hr hlocks hP hS ⟨rfl, rfl⟩ (Nat.le_of_ble_eq_true rfl) (Nat.le_of_ble_eq_true rfl) dX0_wholeCopies_27
set_option maxHeartbeats 4000000 in
set_option maxRecDepth 100000 in
theorem w_X0_pagesThatCount {p : Program} {l : Launch} {e : Env} {s : State} {m : MethodId} {args : Array Value} {below : List Frame} {meth : Method} {c : Code} {Q : State → Prop} {g : q_G} {s0 : Nat} {n : Nat → Nat} {ad : Nat → Nat → Nat} {C : q_S} (X : q_X p s m args c cX0_pagesThatCount 3 wsX0_pagesThatCount RX0 g s0) (in0 : ∀ w ∈ wsX00, w ∈ wsX0_pagesThatCount) (in1 : ∀ w ∈ wsX10, w ∈ wsX0_pagesThatCount) (c0 : Nat) (hR : c_R C n c0) (j : Nat) (hj : j < n 0) (kx : ∀  (H : Heap) (locs : List Loc) (ls : Array Slot), q_P g s0 n ad C H → va_S (q_A s0) s.heap H locs → lv_has ls 3 [(1, .int (iI (c_acc C j (fun k => C 1 4 k * C 0 2 j + C 1 5 k) (n 1)))), (0, .ref (ad 0 j))] → W p l e ({ frames := 0, cells := 0, slots := 0, locals := 0 }) s m args below meth c H locs 0 0 Q (F0 m 36 ls [])) :
    ∀ (N : Nat) (k : Nat) (H : Heap) (locs : List Loc) (ls : Array Slot), (n 1 < k + N) → (k ≤ n 1) → q_P g s0 n ad C H → va_S (q_A s0) s.heap H locs → lv_has ls 3 [(2, va_rf (q_rf ad 1 (c_find C j (n 1 - k) k))), (1, .int (iI (c_acc C j (fun k => C 1 4 k * C 0 2 j + C 1 5 k) k))), (0, .ref (ad 0 j))] → W p l e ({ frames := 0, cells := 0, slots := 0, locals := 0 }) s m args below meth c H locs 0 0 Q (F0 m 7 ls []) := by
  intro N
  induction N with
  | zero =>
    intro k H locs ls h1 h2 hP hS hl
    exact absurd h1 (by omega)
  | succ N ih =>
    intro k H locs ls h1 h2 hP hS hl
    rcases c_find_c C j (n 1 - k) k with ⟨hv, hnone⟩ | ⟨i, hv, hki, hin, hjb, hbet⟩
    · rw [hv] at hl
      have hl : lv_has ls 3 [(2, .null), (1, .int (iI (c_acc C j (fun k => C 1 4 k * C 0 2 j + C 1 5 k) k))), (0, .ref (ad 0 j))] := hl
      have e_1 : (c_acc C j (fun k => C 1 4 k * C 0 2 j + C 1 5 k) k) = (c_acc C j (fun k => C 1 4 k * C 0 2 j + C 1 5 k) (n 1)) := by exact (c_skip (fun k => (c_acc C j (fun k => C 1 4 k * C 0 2 j + C 1 5 k) k)) C j (fun k h => c_acc_s C j _ k h) h2 (fun i h5 h6 => hnone i h5 (by omega))).symm
      have hl : lv_has ls 3 [(2, .null), (1, .int (iI (c_acc C j (fun k => C 1 4 k * C 0 2 j + C 1 5 k) (n 1)))), (0, .ref (ad 0 j))] := lv_cong (show lv_has ls 3 [(2, .null), (1, .int (iI (c_acc C j (fun k => C 1 4 k * C 0 2 j + C 1 5 k) k))), (0, .ref (ad 0 j))] from lv_sub hl [0, 1, 2] rfl) (lv_cs rfl (lv_cs (congrArg (fun z => Value.int (iI z)) e_1) (lv_cs rfl rfl)))
      refine lv_aload_nN X.1 X.2.1 dX0_pagesThatCount_7 rfl (lv_at hl 0 rfl) ?_
      refine lv_ifnullN (tgt := 36) X.1 X.2.1 dX0_pagesThatCount_8 (by decide) ?_
      have hl : lv_has ls 3 [(1, .int (iI (c_acc C j (fun k => C 1 4 k * C 0 2 j + C 1 5 k) (n 1)))), (0, .ref (ad 0 j))] := lv_sub hl [1, 2] rfl
      exact kx _ _ ls hP hS hl
    · rw [hv, q_rf2] at hl
      have hl : lv_has ls 3 [(2, .ref (ad 1 i)), (1, .int (iI (c_acc C j (fun k => C 1 4 k * C 0 2 j + C 1 5 k) k))), (0, .ref (ad 0 j))] := hl
      have hi : i < n 1 := by omega
      have e_2 : (c_acc C j (fun k => C 1 4 k * C 0 2 j + C 1 5 k) k) = (c_acc C j (fun k => C 1 4 k * C 0 2 j + C 1 5 k) i) := by exact (c_skip (fun k => (c_acc C j (fun k => C 1 4 k * C 0 2 j + C 1 5 k) k)) C j (fun k h => c_acc_s C j _ k h) hki hbet).symm
      have hl : lv_has ls 3 [(2, .ref (ad 1 i)), (1, .int (iI (c_acc C j (fun k => C 1 4 k * C 0 2 j + C 1 5 k) i))), (0, .ref (ad 0 j))] := lv_cong (show lv_has ls 3 [(2, .ref (ad 1 i)), (1, .int (iI (c_acc C j (fun k => C 1 4 k * C 0 2 j + C 1 5 k) k))), (0, .ref (ad 0 j))] from lv_sub hl [0, 1, 2] rfl) (lv_cs rfl (lv_cs (congrArg (fun z => Value.int (iI z)) e_2) (lv_cs rfl rfl)))
      refine lv_aload_n X.1 X.2.1 dX0_pagesThatCount_7 rfl (lv_at hl 0 rfl) ?_
      refine lv_ifnull X.1 X.2.1 dX0_pagesThatCount_8 ?_
      refine lv_iload_n X.1 X.2.1 dX0_pagesThatCount_11 rfl (lv_at hl 1 rfl) ?_
      refine lv_aload_n X.1 X.2.1 dX0_pagesThatCount_12 rfl (lv_at hl 0 rfl) ?_
      refine q_get (index := 41) (v := .int (iI (C 1 4 i))) X hP 1 4 i rfl rfl (by decide) in1 hi (by decide) (by decide +kernel) rfl dX0_pagesThatCount_13 ?_
      have f_3 := c_R14 hR i
      refine lv_aload_n X.1 X.2.1 dX0_pagesThatCount_16 rfl (lv_at hl 2 rfl) ?_
      refine q_get (index := 19) (v := .int (iI (C 0 2 j))) X hP 0 2 j rfl rfl (by decide) in0 hj (by decide) (by decide +kernel) rfl dX0_pagesThatCount_17 ?_
      have f_4 := c_R02 hR j
      refine q_imul X dX0_pagesThatCount_20 ?_
      refine lv_aload_n X.1 X.2.1 dX0_pagesThatCount_21 rfl (lv_at hl 0 rfl) ?_
      refine q_get (index := 44) (v := .int (iI (C 1 5 i))) X hP 1 5 i rfl rfl (by decide) in1 hi (by decide) (by decide +kernel) rfl dX0_pagesThatCount_22 ?_
      have f_5 := c_R15 hR i
      refine q_iadd X dX0_pagesThatCount_25 ?_
      refine q_iadd X dX0_pagesThatCount_26 ?_
      refine lv_istore_n (lv' := [(1, .int (iI ((c_acc C j (fun k => C 1 4 k * C 0 2 j + C 1 5 k) i) + (((C 1 4 i) * (C 0 2 j)) + (C 1 5 i))))), (2, .ref (ad 1 i)), (0, .ref (ad 0 j))]) X.1 X.2.1 dX0_pagesThatCount_27 rfl hl (by decide) rfl (fun ls hl => ?_)
      refine lv_aload_n X.1 X.2.1 dX0_pagesThatCount_28 rfl (lv_at hl 1 rfl) ?_
      refine q_get (index := 38) (v := va_rf (q_rf ad 1 (c_find C j (n 1 - (i + 1)) (i + 1)))) X hP 1 6 i rfl rfl (by decide) in1 hi (by decide) (by decide +kernel) (q_vch ad 1 (c_R16 hR i j hi hjb)) dX0_pagesThatCount_29 ?_
      refine q_astore_n (lv' := [(2, va_rf (q_rf ad 1 (c_find C j (n 1 - (i + 1)) (i + 1)))), (1, .int (iI ((c_acc C j (fun k => C 1 4 k * C 0 2 j + C 1 5 k) i) + (((C 1 4 i) * (C 0 2 j)) + (C 1 5 i))))), (0, .ref (ad 0 j))]) X dX0_pagesThatCount_32 rfl hl (by decide) rfl (fun ls hl => ?_)
      refine lv_goto (tgt := 7) X.1 X.2.1 dX0_pagesThatCount_33 (by decide) ?_
      have e_6 : ((c_acc C j (fun k => C 1 4 k * C 0 2 j + C 1 5 k) i) + (((C 1 4 i) * (C 0 2 j)) + (C 1 5 i))) = (c_acc C j (fun k => C 1 4 k * C 0 2 j + C 1 5 k) (i + 1)) := by rw [c_acc, if_pos hjb]
      have hl : lv_has ls 3 [(2, va_rf (q_rf ad 1 (c_find C j (n 1 - (i + 1)) (i + 1)))), (1, .int (iI (c_acc C j (fun k => C 1 4 k * C 0 2 j + C 1 5 k) (i + 1)))), (0, .ref (ad 0 j))] := lv_cong (show lv_has ls 3 [(2, va_rf (q_rf ad 1 (c_find C j (n 1 - (i + 1)) (i + 1)))), (1, .int (iI ((c_acc C j (fun k => C 1 4 k * C 0 2 j + C 1 5 k) i) + (((C 1 4 i) * (C 0 2 j)) + (C 1 5 i))))), (0, .ref (ad 0 j))] from lv_sub hl [0, 1, 2] rfl) (lv_cs rfl (lv_cs (congrArg (fun z => Value.int (iI z)) e_6) (lv_cs rfl rfl)))
      exact ih (i + 1) _ _ ls (by omega) (by omega) hP hS hl
set_option maxHeartbeats 4000000 in
set_option maxRecDepth 100000 in
theorem c_X0_pagesThatCount (l : Launch) (g : q_G) (s0 : Nat) (n : Nat → Nat) (ad : Nat → Nat → Nat) (C : q_S) (c0 : Nat) (hR : c_R C n c0) (j : Nat) (hj : j < n 0) : Met l yX0_pagesThatCount wsX0_pagesThatCount ({ frames := 0, cells := 0, slots := 0, locals := 0 }) (va_Pc [.ref (ad 0 j)] (q_B g s0 (n, ad, C))) (va_Qi (fun r u => u = (n, ad, C) ∧ r = iI (c_acc C j (fun k => C 1 4 k * C 0 2 j + C 1 5 k) (n 1))) (q_B g s0) (q_A s0)) 0 0 (q_A s0) := by
  refine Met.ofW (cc := cX0_pagesThatCount) (maxL := 3) (ret := (some .int)) (by decide) rfl ?_
  intro p e s m args below meth c s₁ B hml hv
  obtain ⟨rfl, hv⟩ := hv
  have hr := B.returns
  have hlocks := B.notSynchronized
  obtain ⟨X, hP⟩ := q_start B.exec B.bytes hml (show s.vm.findClass RX0 = some m.cls from findClass_of_methodNamed B.named) (atoms_spec (ws := wsX0_pagesThatCount) B.pre) hv
  have hP : q_P g s0 n ad C s.heap := hP
  have hS : va_S (q_A s0) s.heap s.heap [] := va_S.rf
  have in0 : ∀ w ∈ wsX00, w ∈ wsX0_pagesThatCount := by decide +kernel
  have in1 : ∀ w ∈ wsX10, w ∈ wsX0_pagesThatCount := by decide +kernel
  have hl := lv_entry ([.ref (ad 0 j)]) (n := 3) (Nat.le_of_ble_eq_true rfl)
  rw [lg_entry_eq]
  generalize (lg_sl ([.ref (ad 0 j)]) ++ List.replicate (3 - (lg_sl ([.ref (ad 0 j)])).length) Slot.unset).toArray = ls at hl ⊢
  have hl : lv_has ls 3 [(0, .ref (ad 0 j))] := hl
  refine lv_iconst (v := iI (0)) X.1 X.2.1 dX0_pagesThatCount_0 rfl ?_
  refine lv_istore_n (lv' := [(1, .int (iI (0))), (0, .ref (ad 0 j))]) X.1 X.2.1 dX0_pagesThatCount_1 rfl hl (by decide) rfl (fun ls hl => ?_)
  refine lv_aload_n X.1 X.2.1 dX0_pagesThatCount_2 rfl (lv_at hl 1 rfl) ?_
  refine q_get (index := 29) (v := va_rf (q_rf ad 1 (c_find C j (n 1) 0))) X hP 0 7 j rfl rfl (by decide) in0 hj (by decide) (by decide +kernel) (q_vch ad 1 (c_R07 hR j hj)) dX0_pagesThatCount_3 ?_
  refine q_astore_n (lv' := [(2, va_rf (q_rf ad 1 (c_find C j (n 1) 0))), (1, .int (iI (0))), (0, .ref (ad 0 j))]) X dX0_pagesThatCount_6 rfl hl (by decide) rfl (fun ls hl => ?_)
  have e_1 : (va_rf (q_rf ad 1 (c_find C j (n 1) 0)) : Value) = va_rf (q_rf ad 1 (c_find C j (n 1 - 0) 0)) := by rfl
  have e_2 : (0) = (c_acc C j (fun k => C 1 4 k * C 0 2 j + C 1 5 k) 0) := by rfl
  have hl : lv_has ls 3 [(2, va_rf (q_rf ad 1 (c_find C j (n 1 - 0) 0))), (1, .int (iI (c_acc C j (fun k => C 1 4 k * C 0 2 j + C 1 5 k) 0))), (0, .ref (ad 0 j))] := lv_cong (show lv_has ls 3 [(2, va_rf (q_rf ad 1 (c_find C j (n 1) 0))), (1, .int (iI (0))), (0, .ref (ad 0 j))] from lv_sub hl [0, 1, 2] rfl) (lv_cs e_1 (lv_cs (congrArg (fun z => Value.int (iI z)) e_2) (lv_cs rfl rfl)))
  refine w_X0_pagesThatCount X in0 in1 c0 hR j hj (fun H locs ls hP hS hl => ?_) (n 1 + 1) 0 _ _ ls (by omega) (by omega) hP hS hl
  refine lv_iload_n X.1 X.2.1 dX0_pagesThatCount_36 rfl (lv_at hl 0 rfl) ?_
  exact q_iret X hr hlocks hP hS ⟨rfl, rfl⟩ (Nat.le_of_ble_eq_true rfl) (Nat.le_of_ble_eq_true rfl) dX0_pagesThatCount_37
set_option maxHeartbeats 4000000 in
set_option maxRecDepth 100000 in
theorem w_X0_hasPartThat {p : Program} {l : Launch} {e : Env} {s : State} {m : MethodId} {args : Array Value} {below : List Frame} {meth : Method} {c : Code} {Q : State → Prop} {g : q_G} {s0 : Nat} {n : Nat → Nat} {ad : Nat → Nat → Nat} {C : q_S} (X : q_X p s m args c cX0_hasPartThat 3 wsX0_hasPartThat RX0 g s0) (in0 : ∀ w ∈ wsX00, w ∈ wsX0_hasPartThat) (in1 : ∀ w ∈ wsX10, w ∈ wsX0_hasPartThat) (c0 : Nat) (hR : c_R C n c0) (j : Nat) (hj : j < n 0) (a : Int) (ha : R32 a) (kx : ∀  (H : Heap) (locs : List Loc) (ls : Array Slot), ¬ c_hs C n j a → q_P g s0 n ad C H → va_S (q_A s0) s.heap H locs → lv_has ls 3 [(0, .ref (ad 0 j)), (1, .int (iI a))] → W p l e ({ frames := 0, cells := 0, slots := 0, locals := 0 }) s m args below meth c H locs 0 0 Q (F0 m 27 ls [])) (ky : ∀  (H : Heap) (locs : List Loc) (ls : Array Slot), c_hs C n j a → q_P g s0 n ad C H → va_S (q_A s0) s.heap H locs → lv_has ls 3 [(0, .ref (ad 0 j)), (1, .int (iI a))] → W p l e ({ frames := 0, cells := 0, slots := 0, locals := 0 }) s m args below meth c H locs 0 0 Q (F0 m 17 ls [])) :
    ∀ (N : Nat) (k : Nat) (H : Heap) (locs : List Loc) (ls : Array Slot), (n 1 < k + N) → (k ≤ n 1) → (∀ z, z < k → C 1 0 z = (j : Int) + 1 → C 1 3 z = a → False) → q_P g s0 n ad C H → va_S (q_A s0) s.heap H locs → lv_has ls 3 [(2, va_rf (q_rf ad 1 (c_find C j (n 1 - k) k))), (0, .ref (ad 0 j)), (1, .int (iI a))] → W p l e ({ frames := 0, cells := 0, slots := 0, locals := 0 }) s m args below meth c H locs 0 0 Q (F0 m 5 ls []) := by
  intro N
  induction N with
  | zero =>
    intro k H locs ls h1 h2 h3 hP hS hl
    exact absurd h1 (by omega)
  | succ N ih =>
    intro k H locs ls h1 h2 h3 hP hS hl
    rcases c_find_c C j (n 1 - k) k with ⟨hv, hnone⟩ | ⟨i, hv, hki, hin, hjb, hbet⟩
    · rw [hv] at hl
      have hl : lv_has ls 3 [(2, .null), (0, .ref (ad 0 j)), (1, .int (iI a))] := hl
      refine lv_aload_nN X.1 X.2.1 dX0_hasPartThat_5 rfl (lv_at hl 0 rfl) ?_
      refine lv_ifnullN (tgt := 27) X.1 X.2.1 dX0_hasPartThat_6 (by decide) ?_
      have hl : lv_has ls 3 [(0, .ref (ad 0 j)), (1, .int (iI a))] := lv_sub hl [1, 2] rfl
      exact kx _ _ ls (fun q => by obtain ⟨z, z1, z2, z3⟩ := q; exact (if hq : z < k then h3 z hq z2 z3 else hnone z (by omega) (by omega) z2)) hP hS hl
    · rw [hv, q_rf2] at hl
      have hl : lv_has ls 3 [(2, .ref (ad 1 i)), (0, .ref (ad 0 j)), (1, .int (iI a))] := hl
      have hi : i < n 1 := by omega
      refine lv_aload_n X.1 X.2.1 dX0_hasPartThat_5 rfl (lv_at hl 0 rfl) ?_
      refine lv_ifnull X.1 X.2.1 dX0_hasPartThat_6 ?_
      refine lv_aload_n X.1 X.2.1 dX0_hasPartThat_9 rfl (lv_at hl 0 rfl) ?_
      refine q_get (index := 33) (v := .int (iI (C 1 3 i))) X hP 1 3 i rfl rfl (by decide) in1 hi (by decide) (by decide +kernel) rfl dX0_hasPartThat_10 ?_
      refine lv_iload_n X.1 X.2.1 dX0_hasPartThat_13 rfl (lv_at hl 2 rfl) ?_
      refine q_icmp_ne (tgt := 19) X (hP.tok 1 3 i rfl) ha dX0_hasPartThat_14 (by decide) (fun h_1 => ?_) (fun h_1 => ?_)
      · refine lv_aload_n X.1 X.2.1 dX0_hasPartThat_19 rfl (lv_at hl 0 rfl) ?_
        refine q_get (index := 38) (v := va_rf (q_rf ad 1 (c_find C j (n 1 - (i + 1)) (i + 1)))) X hP 1 6 i rfl rfl (by decide) in1 hi (by decide) (by decide +kernel) (q_vch ad 1 (c_R16 hR i j hi hjb)) dX0_hasPartThat_20 ?_
        refine q_astore_n (lv' := [(2, va_rf (q_rf ad 1 (c_find C j (n 1 - (i + 1)) (i + 1)))), (0, .ref (ad 0 j)), (1, .int (iI a))]) X dX0_hasPartThat_23 rfl hl (by decide) rfl (fun ls hl => ?_)
        refine lv_goto (tgt := 5) X.1 X.2.1 dX0_hasPartThat_24 (by decide) ?_
        have hl : lv_has ls 3 [(2, va_rf (q_rf ad 1 (c_find C j (n 1 - (i + 1)) (i + 1)))), (0, .ref (ad 0 j)), (1, .int (iI a))] := lv_sub hl [0, 1, 2] rfl
        exact ih (i + 1) _ _ ls (by omega) (by omega) (fun z hz1 hz2 hz3 => if e1 : z = i then (by subst e1; contradiction) else if hq : z < k then h3 z hq hz2 hz3 else hbet z (by omega) (by omega) hz2) hP hS hl
      · have hl : lv_has ls 3 [(0, .ref (ad 0 j)), (1, .int (iI a))] := lv_sub hl [1, 2] rfl
        exact ky _ _ ls ⟨i, hi, hjb, by assumption⟩ hP hS hl
set_option maxHeartbeats 4000000 in
set_option maxRecDepth 100000 in
theorem c_X0_hasPartThat (l : Launch) (g : q_G) (s0 : Nat) (n : Nat → Nat) (ad : Nat → Nat → Nat) (C : q_S) (c0 : Nat) (hR : c_R C n c0) (j : Nat) (hj : j < n 0) (a : Int) (ha : R32 a) : Met l yX0_hasPartThat wsX0_hasPartThat ({ frames := 0, cells := 0, slots := 0, locals := 0 }) (va_Pc [.ref (ad 0 j), .int (iI a)] (q_B g s0 (n, ad, C))) (va_Qi (fun r u => u = (n, ad, C) ∧ (((c_hs C n j a) ∧ r = iI 1) ∨ (¬ (c_hs C n j a) ∧ r = iI 0))) (q_B g s0) (q_A s0)) 0 0 (q_A s0) := by
  refine Met.ofW (cc := cX0_hasPartThat) (maxL := 3) (ret := (some .boolean)) (by decide) rfl ?_
  intro p e s m args below meth c s₁ B hml hv
  obtain ⟨rfl, hv⟩ := hv
  have hr := B.returns
  have hlocks := B.notSynchronized
  obtain ⟨X, hP⟩ := q_start B.exec B.bytes hml (show s.vm.findClass RX0 = some m.cls from findClass_of_methodNamed B.named) (atoms_spec (ws := wsX0_hasPartThat) B.pre) hv
  have hP : q_P g s0 n ad C s.heap := hP
  have hS : va_S (q_A s0) s.heap s.heap [] := va_S.rf
  have in0 : ∀ w ∈ wsX00, w ∈ wsX0_hasPartThat := by decide +kernel
  have in1 : ∀ w ∈ wsX10, w ∈ wsX0_hasPartThat := by decide +kernel
  have hl := lv_entry ([.ref (ad 0 j), .int (iI a)]) (n := 3) (Nat.le_of_ble_eq_true rfl)
  rw [lg_entry_eq]
  generalize (lg_sl ([.ref (ad 0 j), .int (iI a)]) ++ List.replicate (3 - (lg_sl ([.ref (ad 0 j), .int (iI a)])).length) Slot.unset).toArray = ls at hl ⊢
  have hl : lv_has ls 3 [(0, .ref (ad 0 j)), (1, .int (iI a))] := hl
  refine lv_aload_n X.1 X.2.1 dX0_hasPartThat_0 rfl (lv_at hl 0 rfl) ?_
  refine q_get (index := 29) (v := va_rf (q_rf ad 1 (c_find C j (n 1) 0))) X hP 0 7 j rfl rfl (by decide) in0 hj (by decide) (by decide +kernel) (q_vch ad 1 (c_R07 hR j hj)) dX0_hasPartThat_1 ?_
  refine q_astore_n (lv' := [(2, va_rf (q_rf ad 1 (c_find C j (n 1) 0))), (0, .ref (ad 0 j)), (1, .int (iI a))]) X dX0_hasPartThat_4 rfl hl (by decide) rfl (fun ls hl => ?_)
  have e_1 : (va_rf (q_rf ad 1 (c_find C j (n 1) 0)) : Value) = va_rf (q_rf ad 1 (c_find C j (n 1 - 0) 0)) := by rfl
  have hl : lv_has ls 3 [(2, va_rf (q_rf ad 1 (c_find C j (n 1 - 0) 0))), (0, .ref (ad 0 j)), (1, .int (iI a))] := lv_cong (show lv_has ls 3 [(2, va_rf (q_rf ad 1 (c_find C j (n 1) 0))), (0, .ref (ad 0 j)), (1, .int (iI a))] from lv_sub hl [0, 1, 2] rfl) (lv_cs e_1 (lv_cs rfl (lv_cs rfl rfl)))
  refine w_X0_hasPartThat X in0 in1 c0 hR j hj a ha (fun H locs ls hf hP hS hl => ?_) (fun H locs ls hf hP hS hl => ?_) (n 1 + 1) 0 _ _ ls (by omega) (by omega) (fun z hz => by omega) hP hS hl
  · refine lv_iconst (v := iI (0)) X.1 X.2.1 dX0_hasPartThat_27 rfl ?_
    exact q_zret X hr hlocks hP hS (z := (0)) (by decide) ⟨rfl, Or.inr ⟨hf, rfl⟩⟩ (Nat.le_of_ble_eq_true rfl) (Nat.le_of_ble_eq_true rfl) dX0_hasPartThat_28
  · refine lv_iconst (v := iI (1)) X.1 X.2.1 dX0_hasPartThat_17 rfl ?_
    exact q_zret X hr hlocks hP hS (z := (1)) (by decide) ⟨rfl, Or.inl ⟨hf, rfl⟩⟩ (Nat.le_of_ble_eq_true rfl) (Nat.le_of_ble_eq_true rfl) dX0_hasPartThat_18
set_option maxHeartbeats 4000000 in
set_option maxRecDepth 100000 in
theorem c_X0_condition (l : Launch) (g : q_G) (s0 : Nat) (n : Nat → Nat) (ad : Nat → Nat → Nat) (C : q_S) (c0 : Nat) (hR : c_R C n c0) (j : Nat) (hj : j < n 0) : Met l yX0_condition wsX0_condition ({ frames := 1, cells := 0, slots := 0, locals := 22 }) (va_Pc [.ref (ad 0 j)] (q_B g s0 (n, ad, C))) (va_Qi (fun r u => u = (n, ad, C) ∧ r = iI (c_con C n j)) (q_B g s0) (q_A s0)) 0 0 (q_A s0) := by
  refine Met.ofW (cc := cX0_condition) (maxL := 1) (ret := (some .int)) (by decide) rfl ?_
  intro p e s m args below meth c s₁ B hml hv
  obtain ⟨rfl, hv⟩ := hv
  have hr := B.returns
  have hlocks := B.notSynchronized
  obtain ⟨X, hP⟩ := q_start B.exec B.bytes hml (show s.vm.findClass RX0 = some m.cls from findClass_of_methodNamed B.named) (atoms_spec (ws := wsX0_condition) B.pre) hv
  have hP : q_P g s0 n ad C s.heap := hP
  have hS : va_S (q_A s0) s.heap s.heap [] := va_S.rf
  have in0 : ∀ w ∈ wsX00, w ∈ wsX0_condition := by decide +kernel
  have in1 : ∀ w ∈ wsX10, w ∈ wsX0_condition := by decide +kernel
  have hl := lv_entry ([.ref (ad 0 j)]) (n := 1) (Nat.le_of_ble_eq_true rfl)
  rw [lg_entry_eq]
  generalize (lg_sl ([.ref (ad 0 j)]) ++ List.replicate (1 - (lg_sl ([.ref (ad 0 j)])).length) Slot.unset).toArray = ls at hl ⊢
  have hl : lv_has ls 1 [(0, .ref (ad 0 j))] := hl
  refine lv_aload_n X.1 X.2.1 dX0_condition_0 rfl (lv_at hl 0 rfl) ?_
  refine q_get (index := 47) (v := .int (iI (C 0 6 j))) X hP 0 6 j rfl rfl (by decide) in0 hj (by decide) (by decide +kernel) rfl dX0_condition_1 ?_
  refine q_if_eq (tgt := 9) X (q_b32 (hP.tok 0 6 j rfl)) dX0_condition_4 (by decide) (fun h_1 => ?_) (fun h_1 => ?_)
  · refine lv_aload_n X.1 X.2.1 dX0_condition_9 rfl (lv_at hl 0 rfl) ?_
    refine lv_iconst (v := iI (1)) X.1 X.2.1 dX0_condition_10 rfl ?_
    refine va_calli (va_runV (As := [.int (iI (1))]) (rest := []) X.fix (c_X0_hasPartThat l g s0 n ad C c0 hR j hj (1) (by decide)) (cwV 1 X.2.2.2.2.1 gX0_condition_X0_hasPartThat rfl rfl rfl (by decide +kernel) ⟨Nat.le_of_ble_eq_true rfl, Nat.le_of_ble_eq_true rfl⟩) (q_preV X hP hS [.int (iI (1))] (kd := 0) (by decide) rfl hj) rfl rfl hl.1 rfl (lv_room (Nat.le_of_ble_eq_true rfl)) dX0_condition_11 ⟨Nat.le_of_ble_eq_true rfl, Nat.le_of_ble_eq_true rfl⟩) hS q_id q_id1 (fun r u t H locs ht hvm hw hB hz1 hk1 hS => ?_)
    obtain ⟨rfl, ⟨h_2, rfl⟩ | ⟨h_2, rfl⟩⟩ := hw
    · have hP : q_P g s0 n ad (C) H := q_back hB ht
      have h_2 : c_hs C n j (1) := h_2
      refine q_if_eq (tgt := 19) X (by decide) dX0_condition_14 (by decide) (fun h => absurd h (by decide)) (fun _ => ?_)
      refine lv_iconst (v := iI (1)) X.1 X.2.1 dX0_condition_17 rfl ?_
      exact q_iret X hr hlocks hP hS ⟨rfl, congrArg iI (by unfold c_con; first | (rw [if_pos (by assumption)]; done) | (rw [if_neg (by omega), if_pos (by assumption)]; done) | (rw [if_neg (by omega), if_neg (by assumption), if_pos (by assumption)]; done) | (rw [if_neg (by omega), if_neg (by assumption), if_neg (by assumption)]; done))⟩ (Nat.le_of_ble_eq_true rfl) (Nat.le_of_ble_eq_true rfl) dX0_condition_18
    · have hP : q_P g s0 n ad (C) H := q_back hB ht
      have h_2 : ¬ (c_hs C n j (1)) := h_2
      refine q_if_eq (tgt := 19) X (by decide) dX0_condition_14 (by decide) (fun _ => ?_) (fun h => absurd h (by decide))
      refine lv_aload_n X.1 X.2.1 dX0_condition_19 rfl (lv_at hl 0 rfl) ?_
      refine lv_iconst (v := iI (0)) X.1 X.2.1 dX0_condition_20 rfl ?_
      refine va_calli (va_runV (As := [.int (iI (0))]) (rest := []) X.fix (c_X0_hasPartThat l g s0 n ad C c0 hR j hj (0) (by decide)) (cwV 1 X.2.2.2.2.1 gX0_condition_X0_hasPartThat rfl rfl rfl (by decide +kernel) ⟨Nat.le_of_ble_eq_true rfl, Nat.le_of_ble_eq_true rfl⟩) (q_preV X hP hS [.int (iI (0))] (kd := 0) (by decide) rfl hj) rfl rfl hl.1 rfl (lv_room (Nat.le_of_ble_eq_true rfl)) dX0_condition_21 ⟨Nat.le_of_ble_eq_true rfl, Nat.le_of_ble_eq_true rfl⟩) hS q_id q_id1 (fun r u t H locs ht hvm hw hB hz1 hk1 hS => ?_)
      obtain ⟨rfl, ⟨h_5, rfl⟩ | ⟨h_5, rfl⟩⟩ := hw
      · have hP : q_P g s0 n ad (C) H := q_back hB ht
        have h_5 : c_hs C n j (0) := h_5
        refine q_if_eq (tgt := 31) X (by decide) dX0_condition_24 (by decide) (fun h => absurd h (by decide)) (fun _ => ?_)
        refine lv_iconst (v := iI (0)) X.1 X.2.1 dX0_condition_27 rfl ?_
        refine lv_goto (tgt := 32) X.1 X.2.1 dX0_condition_28 (by decide) ?_
        exact q_iret X hr hlocks hP hS ⟨rfl, congrArg iI (by unfold c_con; first | (rw [if_pos (by assumption)]; done) | (rw [if_neg (by omega), if_pos (by assumption)]; done) | (rw [if_neg (by omega), if_neg (by assumption), if_pos (by assumption)]; done) | (rw [if_neg (by omega), if_neg (by assumption), if_neg (by assumption)]; done))⟩ (Nat.le_of_ble_eq_true rfl) (Nat.le_of_ble_eq_true rfl) dX0_condition_32
      · have hP : q_P g s0 n ad (C) H := q_back hB ht
        have h_5 : ¬ (c_hs C n j (0)) := h_5
        refine q_if_eq (tgt := 31) X (by decide) dX0_condition_24 (by decide) (fun _ => ?_) (fun h => absurd h (by decide))
        refine lv_iconst (v := iI (2)) X.1 X.2.1 dX0_condition_31 rfl ?_
        exact q_iret X hr hlocks hP hS ⟨rfl, congrArg iI (by unfold c_con; first | (rw [if_pos (by assumption)]; done) | (rw [if_neg (by omega), if_pos (by assumption)]; done) | (rw [if_neg (by omega), if_neg (by assumption), if_pos (by assumption)]; done) | (rw [if_neg (by omega), if_neg (by assumption), if_neg (by assumption)]; done))⟩ (Nat.le_of_ble_eq_true rfl) (Nat.le_of_ble_eq_true rfl) dX0_condition_32
  · refine lv_iconst (v := iI (3)) X.1 X.2.1 dX0_condition_7 rfl ?_
    exact q_iret X hr hlocks hP hS ⟨rfl, congrArg iI (by unfold c_con; first | (rw [if_pos (by assumption)]; done) | (rw [if_neg (by omega), if_pos (by assumption)]; done) | (rw [if_neg (by omega), if_neg (by assumption), if_pos (by assumption)]; done) | (rw [if_neg (by omega), if_neg (by assumption), if_neg (by assumption)]; done))⟩ (Nat.le_of_ble_eq_true rfl) (Nat.le_of_ble_eq_true rfl) dX0_condition_8
set_option maxHeartbeats 4000000 in
set_option maxRecDepth 100000 in
theorem w_X4_firstPartFor {p : Program} {l : Launch} {e : Env} {s : State} {m : MethodId} {args : Array Value} {below : List Frame} {meth : Method} {c : Code} {Q : State → Prop} {g : q_G} {s0 : Nat} {n : Nat → Nat} {ad : Nat → Nat → Nat} {C : q_S} (X : q_X p s m args c cX4_firstPartFor 3 wsX4_firstPartFor RX4 g s0) (in0 : ∀ w ∈ wsX00, w ∈ wsX4_firstPartFor) (in1 : ∀ w ∈ wsX10, w ∈ wsX4_firstPartFor) (in2 : ∀ w ∈ wsX20, w ∈ wsX4_firstPartFor) (in3 : ∀ w ∈ wsX30, w ∈ wsX4_firstPartFor) (c0 : Nat) (hR : c_R C n c0) (j : Nat) (hj : j < n 0) (p0 : Nat) (hp : p0 < n 2) (kx : ∀  (H : Heap) (locs : List Loc) (ls : Array Slot), c_fp C j p0 (n 1) = 0 → q_P g s0 n ad C H → va_S (q_A s0) s.heap H locs → lv_has ls 3 [(0, .ref (ad 0 j)), (1, .ref (ad 2 p0))] → W p l e ({ frames := 1, cells := 0, slots := 0, locals := 21 }) s m args below meth c H locs 0 0 Q (F0 m 34 ls [])) (ky : ∀ (i : Nat) (H : Heap) (locs : List Loc) (ls : Array Slot), i < n 1 → c_fp C j p0 (n 1) = (i : Int) + 1 → q_P g s0 n ad C H → va_S (q_A s0) s.heap H locs → lv_has ls 3 [(2, .ref (ad 1 i)), (0, .ref (ad 0 j)), (1, .ref (ad 2 p0))] → W p l e ({ frames := 1, cells := 0, slots := 0, locals := 21 }) s m args below meth c H locs 0 0 Q (F0 m 24 ls [])) :
    ∀ (N : Nat) (k : Nat) (H : Heap) (locs : List Loc) (ls : Array Slot), (n 1 < k + N) → (k ≤ n 1) → (c_fp C j p0 k = 0) → q_P g s0 n ad C H → va_S (q_A s0) s.heap H locs → lv_has ls 3 [(2, va_rf (q_rf ad 1 (c_find C j (n 1 - k) k))), (0, .ref (ad 0 j)), (1, .ref (ad 2 p0))] → W p l e ({ frames := 1, cells := 0, slots := 0, locals := 21 }) s m args below meth c H locs 0 0 Q (F0 m 5 ls []) := by
  intro N
  induction N with
  | zero =>
    intro k H locs ls h1 h2 h3 hP hS hl
    exact absurd h1 (by omega)
  | succ N ih =>
    intro k H locs ls h1 h2 h3 hP hS hl
    rcases c_find_c C j (n 1 - k) k with ⟨hv, hnone⟩ | ⟨i, hv, hki, hin, hjb, hbet⟩
    · rw [hv] at hl
      have hl : lv_has ls 3 [(2, .null), (0, .ref (ad 0 j)), (1, .ref (ad 2 p0))] := hl
      refine lv_aload_nN X.1 X.2.1 dX4_firstPartFor_5 rfl (lv_at hl 0 rfl) ?_
      refine lv_ifnullN (tgt := 34) X.1 X.2.1 dX4_firstPartFor_6 (by decide) ?_
      have hs := c_skip (fun k => c_fp C j p0 k) C j (fun k h => c_fp_s C j p0 k h) h2 (fun i h5 h6 => hnone i h5 (by omega))
      have hl : lv_has ls 3 [(0, .ref (ad 0 j)), (1, .ref (ad 2 p0))] := lv_sub hl [1, 2] rfl
      exact kx _ _ ls (hs.trans h3) hP hS hl
    · rw [hv, q_rf2] at hl
      have hl : lv_has ls 3 [(2, .ref (ad 1 i)), (0, .ref (ad 0 j)), (1, .ref (ad 2 p0))] := hl
      have hi : i < n 1 := by omega
      refine lv_aload_n X.1 X.2.1 dX4_firstPartFor_5 rfl (lv_at hl 0 rfl) ?_
      refine lv_ifnull X.1 X.2.1 dX4_firstPartFor_6 ?_
      have hfi : c_fp C j p0 i = 0 := (c_skip (fun k => c_fp C j p0 k) C j (fun k h => c_fp_s C j p0 k h) hki hbet).trans h3
      refine lv_aload_n X.1 X.2.1 dX4_firstPartFor_9 rfl (lv_at hl 0 rfl) ?_
      refine q_get (index := 119) (v := .int (iI (C 1 3 i))) X hP 1 3 i rfl rfl (by decide) in1 hi (by decide) (by decide +kernel) rfl dX4_firstPartFor_10 ?_
      refine q_if_ne (tgt := 26) X (hP.tok 1 3 i rfl) dX4_firstPartFor_13 (by decide) (fun h_1 => ?_) (fun h_1 => ?_)
      · refine lv_aload_n X.1 X.2.1 dX4_firstPartFor_26 rfl (lv_at hl 0 rfl) ?_
        refine q_get (index := 141) (v := va_rf (q_rf ad 1 (c_find C j (n 1 - (i + 1)) (i + 1)))) X hP 1 6 i rfl rfl (by decide) in1 hi (by decide) (by decide +kernel) (q_vch ad 1 (c_R16 hR i j hi hjb)) dX4_firstPartFor_27 ?_
        refine q_astore_n (lv' := [(2, va_rf (q_rf ad 1 (c_find C j (n 1 - (i + 1)) (i + 1)))), (0, .ref (ad 0 j)), (1, .ref (ad 2 p0))]) X dX4_firstPartFor_30 rfl hl (by decide) rfl (fun ls hl => ?_)
        refine lv_goto (tgt := 5) X.1 X.2.1 dX4_firstPartFor_31 (by decide) ?_
        have hs : c_fp C j p0 (i + 1) = 0 := by rw [c_fp, if_neg (fun q => q hfi), if_neg (fun q => by obtain ⟨q1, q2, q3⟩ := q; first | contradiction | omega)]
        have hl : lv_has ls 3 [(2, va_rf (q_rf ad 1 (c_find C j (n 1 - (i + 1)) (i + 1)))), (0, .ref (ad 0 j)), (1, .ref (ad 2 p0))] := lv_sub hl [0, 1, 2] rfl
        exact ih (i + 1) _ _ ls (by omega) (by omega) hs hP hS hl
      · refine lv_aload_n X.1 X.2.1 dX4_firstPartFor_16 rfl (lv_at hl 2 rfl) ?_
        refine lv_aload_n X.1 X.2.1 dX4_firstPartFor_17 rfl (lv_at hl 0 rfl) ?_
        refine va_calli (va_runV (As := [.ref (ad 1 i)]) (rest := []) X.fix (c_X2_fits l g s0 n ad C c0 hR p0 hp i hi) (cwV 1 X.2.2.2.2.1 gX4_firstPartFor_X2_fits rfl rfl rfl (by decide +kernel) ⟨Nat.le_of_ble_eq_true rfl, Nat.le_of_ble_eq_true rfl⟩) (q_preV X hP hS [.ref (ad 1 i)] (kd := 2) (by decide) rfl hp) rfl rfl hl.1 rfl (lv_room (Nat.le_of_ble_eq_true rfl)) dX4_firstPartFor_18 ⟨Nat.le_of_ble_eq_true rfl, Nat.le_of_ble_eq_true rfl⟩) hS q_id q_id1 (fun r u t H locs ht hvm hw hB hz1 hk1 hS => ?_)
        obtain ⟨rfl, ⟨h_2, rfl⟩ | ⟨h_2, rfl⟩⟩ := hw
        · have hP : q_P g s0 n ad (C) H := q_back hB ht
          have h_2 : c_fits C p0 i := h_2
          refine q_if_eq (tgt := 26) X (by decide) dX4_firstPartFor_21 (by decide) (fun h => absurd h (by decide)) (fun _ => ?_)
          have hs : c_fp C j p0 (i + 1) = (i : Int) + 1 := by rw [c_fp, if_neg (fun q => q hfi), if_pos ⟨hjb, by assumption, by assumption⟩]
          have hs2 : c_fp C j p0 (n 1) = (i : Int) + 1 := by have h9 := c_fp_st C j p0 (k := i + 1) (by omega) (n 1 - (i + 1)); rw [show i + 1 + (n 1 - (i + 1)) = n 1 by omega] at h9; rw [h9]; exact hs
          have hl : lv_has ls 3 [(2, .ref (ad 1 i)), (0, .ref (ad 0 j)), (1, .ref (ad 2 p0))] := lv_sub hl [0, 1, 2] rfl
          exact ky i _ _ ls hi hs2 hP hS hl
        · have hP : q_P g s0 n ad (C) H := q_back hB ht
          have h_2 : ¬ (c_fits C p0 i) := h_2
          refine q_if_eq (tgt := 26) X (by decide) dX4_firstPartFor_21 (by decide) (fun _ => ?_) (fun h => absurd h (by decide))
          refine lv_aload_n X.1 X.2.1 dX4_firstPartFor_26 rfl (lv_at hl 0 rfl) ?_
          refine q_get (index := 141) (v := va_rf (q_rf ad 1 (c_find C j (n 1 - (i + 1)) (i + 1)))) X hP 1 6 i rfl rfl (by decide) in1 hi (by decide) (by decide +kernel) (q_vch ad 1 (c_R16 hR i j hi hjb)) dX4_firstPartFor_27 ?_
          refine q_astore_n (lv' := [(2, va_rf (q_rf ad 1 (c_find C j (n 1 - (i + 1)) (i + 1)))), (0, .ref (ad 0 j)), (1, .ref (ad 2 p0))]) X dX4_firstPartFor_30 rfl hl (by decide) rfl (fun ls hl => ?_)
          refine lv_goto (tgt := 5) X.1 X.2.1 dX4_firstPartFor_31 (by decide) ?_
          have hs : c_fp C j p0 (i + 1) = 0 := by rw [c_fp, if_neg (fun q => q hfi), if_neg (fun q => by obtain ⟨q1, q2, q3⟩ := q; first | contradiction | omega)]
          have hl : lv_has ls 3 [(2, va_rf (q_rf ad 1 (c_find C j (n 1 - (i + 1)) (i + 1)))), (0, .ref (ad 0 j)), (1, .ref (ad 2 p0))] := lv_sub hl [0, 1, 2] rfl
          exact ih (i + 1) _ _ ls (by omega) (by omega) hs hP hS hl
set_option maxHeartbeats 4000000 in
set_option maxRecDepth 100000 in
theorem c_X4_firstPartFor (l : Launch) (g : q_G) (s0 : Nat) (n : Nat → Nat) (ad : Nat → Nat → Nat) (C : q_S) (c0 : Nat) (hR : c_R C n c0) (j : Nat) (hj : j < n 0) (p0 : Nat) (hp : p0 < n 2) : Met l yX4_firstPartFor wsX4_firstPartFor ({ frames := 1, cells := 0, slots := 0, locals := 21 }) (va_Pc [.ref (ad 0 j), .ref (ad 2 p0)] (q_B g s0 (n, ad, C))) (va_Qq (fun r u => u = (n, ad, C) ∧ r = q_rf ad 1 (c_fp C j p0 (n 1))) (q_B g s0) (q_A s0)) 0 0 (q_A s0) := by
  refine Met.ofW (cc := cX4_firstPartFor) (maxL := 3) (ret := (some (.object "PrintQueue$Part"))) (by decide) rfl ?_
  intro p e s m args below meth c s₁ B hml hv
  obtain ⟨rfl, hv⟩ := hv
  have hr := B.returns
  have hlocks := B.notSynchronized
  obtain ⟨X, hP⟩ := q_start B.exec B.bytes hml (show s.vm.findClass RX4 = some m.cls from findClass_of_methodNamed B.named) (atoms_spec (ws := wsX4_firstPartFor) B.pre) hv
  have hP : q_P g s0 n ad C s.heap := hP
  have hS : va_S (q_A s0) s.heap s.heap [] := va_S.rf
  have in0 : ∀ w ∈ wsX00, w ∈ wsX4_firstPartFor := by decide +kernel
  have in1 : ∀ w ∈ wsX10, w ∈ wsX4_firstPartFor := by decide +kernel
  have in2 : ∀ w ∈ wsX20, w ∈ wsX4_firstPartFor := by decide +kernel
  have in3 : ∀ w ∈ wsX30, w ∈ wsX4_firstPartFor := by decide +kernel
  have hl := lv_entry ([.ref (ad 0 j), .ref (ad 2 p0)]) (n := 3) (Nat.le_of_ble_eq_true rfl)
  rw [lg_entry_eq]
  generalize (lg_sl ([.ref (ad 0 j), .ref (ad 2 p0)]) ++ List.replicate (3 - (lg_sl ([.ref (ad 0 j), .ref (ad 2 p0)])).length) Slot.unset).toArray = ls at hl ⊢
  have hl : lv_has ls 3 [(0, .ref (ad 0 j)), (1, .ref (ad 2 p0))] := hl
  refine lv_aload_n X.1 X.2.1 dX4_firstPartFor_0 rfl (lv_at hl 0 rfl) ?_
  refine q_get (index := 75) (v := va_rf (q_rf ad 1 (c_find C j (n 1) 0))) X hP 0 7 j rfl rfl (by decide) in0 hj (by decide) (by decide +kernel) (q_vch ad 1 (c_R07 hR j hj)) dX4_firstPartFor_1 ?_
  refine q_astore_n (lv' := [(2, va_rf (q_rf ad 1 (c_find C j (n 1) 0))), (0, .ref (ad 0 j)), (1, .ref (ad 2 p0))]) X dX4_firstPartFor_4 rfl hl (by decide) rfl (fun ls hl => ?_)
  have e_1 : (va_rf (q_rf ad 1 (c_find C j (n 1) 0)) : Value) = va_rf (q_rf ad 1 (c_find C j (n 1 - 0) 0)) := by rfl
  have hl : lv_has ls 3 [(2, va_rf (q_rf ad 1 (c_find C j (n 1 - 0) 0))), (0, .ref (ad 0 j)), (1, .ref (ad 2 p0))] := lv_cong (show lv_has ls 3 [(2, va_rf (q_rf ad 1 (c_find C j (n 1) 0))), (0, .ref (ad 0 j)), (1, .ref (ad 2 p0))] from lv_sub hl [0, 1, 2] rfl) (lv_cs e_1 (lv_cs rfl (lv_cs rfl rfl)))
  refine w_X4_firstPartFor X in0 in1 in2 in3 c0 hR j hj p0 hp (fun H locs ls hf hP hS hl => ?_) (fun i H locs ls hi hf hP hS hl => ?_) (n 1 + 1) 0 _ _ ls (by omega) (by omega) rfl hP hS hl
  · refine lv_null X.1 X.2.1 dX4_firstPartFor_34 ?_
    exact q_aret (r := none) X hr hlocks hP hS ⟨rfl, by rw [hf]; first | rfl | exact (q_rfs ad 1 i).symm⟩ (Nat.le_of_ble_eq_true rfl) (Nat.le_of_ble_eq_true rfl) dX4_firstPartFor_35
  · refine lv_aload_n X.1 X.2.1 dX4_firstPartFor_24 rfl (lv_at hl 0 rfl) ?_
    exact q_aret (r := (some (ad 1 i))) X hr hlocks hP hS ⟨rfl, by rw [hf]; first | rfl | exact (q_rfs ad 1 i).symm⟩ (Nat.le_of_ble_eq_true rfl) (Nat.le_of_ble_eq_true rfl) dX4_firstPartFor_25
end
section
theorem c_unt_r {C : q_S} {n : Nat → Nat} {c : Nat} (h : c_R C n c) (i : Nat) : R32 (c_unt C i) := by
  have h1 := c_R12 h i
  have h2 := c_R14 h i
  unfold c_unt
  split <;> omega
abbrev c_can (C : q_S) (i : Nat) (a : Int) : Prop := C 1 3 i = 0 ∧ C 1 1 i = 0 ∧ a < c_unt C i
abbrev c_lk (C : q_S) (j p : Nat) : Prop := C 3 0 (c_tik C j) = C 2 2 p
abbrev c_bef (C : q_S) (j1 j2 p : Nat) : Prop := C 0 3 j2 < C 0 3 j1 ∨ (C 0 3 j1 = C 0 3 j2 ∧ ((C 2 3 p < C 4 9 0 ∧ c_lk C j1 p ∧ ¬ c_lk C j2 p) ∨ ((C 4 9 0 ≤ C 2 3 p ∨ (c_lk C j1 p ↔ c_lk C j2 p)) ∧ C 0 4 j1 < C 0 4 j2)))
def c_sh2 (a b d : Int) : Int := if ¬ d = 0 ∧ a % 2 = 1 then (a + b + 1) / 2 - (a + 1) / 2 + 1 else (a + b + 1) / 2 - (a + 1) / 2
/-- the part that is chosen among the first k jobs: its index and one; 0 -/
def c_ch (C : q_S) (n : Nat → Nat) (p : Nat) : Nat → Int
  | 0 => 0
  | k + 1 => if k < n 0 ∧ C 0 5 k = 0 ∧ C 0 4 k ≤ C 4 10 0 ∧ ¬ c_fp C k p (n 1) = 0 ∧ (c_ch C n p k = 0 ∨ c_bef C k (c_job C (c_ch C n p k - 1).toNat) p) then c_fp C k p (n 1) else c_ch C n p k
theorem c_ch_b (C : q_S) (n : Nat → Nat) (p : Nat) (k : Nat) : 0 ≤ c_ch C n p k ∧ c_ch C n p k ≤ (n 1 : Int) := by
  induction k with
  | zero => rw [c_ch]; omega
  | succ k ih =>
    rw [c_ch]
    split
    · rename_i h
      obtain ⟨i, h1, h2, -⟩ := c_fp_y C k p h.2.2.2.1
      omega
    · exact ih
def c_sf (C : q_S) (n : Nat → Nat) (j : Nat) : Nat → Int
  | 0 => 0
  | k + 1 => if k < n 2 ∧ ¬ c_fp C j k (n 1) = 0 then 1 else c_sf C n j k
theorem c_sf_b (C : q_S) (n : Nat → Nat) (j k : Nat) : c_sf C n j k = 0 ∨ c_sf C n j k = 1 := by
  induction k with
  | zero => left; rfl
  | succ k ih => rw [c_sf]; split <;> omega
/-- one turn of emptying the printers of a job -/
def c_e1 (E : q_S) (j k : Nat) : q_S := if ¬ E 6 k 0 = 0 ∧ ¬ E 2 4 (E 6 k 0 - 1).toNat = 0 ∧ (E 1 0 (E 2 4 (E 6 k 0 - 1).toNat - 1).toNat - 1).toNat = j then q_up E 2 4 (E 6 k 0 - 1).toNat 0 else E
def c_es (C : q_S) (j : Nat) : Nat → q_S
  | 0 => C
  | k + 1 => c_e1 (c_es C j k) j k
theorem c_find_eq {C D : q_S} (h : ∀ k, D 1 0 k = C 1 0 k) (j : Nat) : ∀ m k, c_find D j m k = c_find C j m k := by
  intro m
  induction m with
  | zero => intro k; rfl
  | succ m ih => intro k; rw [c_find, c_find, h k, ih (k + 1)]
theorem xb_199 : ∀ w ∈ (vx_at0 RX4 199 "java/util/NoSuchElementException" q_nm).filter (fun w => !goodWord w), w ∈ q_bad "java/util/NoSuchElementException" := by decide +kernel
theorem xg_197_199 : ∀ w ∈ Cond.classLink RX4 197 "java/util/NoSuchElementException" :: Cond.initialized "java/util/NoSuchElementException" :: vx_at0 RX4 199 "java/util/NoSuchElementException" q_nm, vx_ot w = true := by decide +kernel
theorem xb_44 : ∀ w ∈ (vx_at0 RX4 44 "java/lang/IllegalArgumentException" q_nm).filter (fun w => !goodWord w), w ∈ q_bad "java/lang/IllegalArgumentException" := by decide +kernel
theorem xg_42_44 : ∀ w ∈ Cond.classLink RX4 42 "java/lang/IllegalArgumentException" :: Cond.initialized "java/lang/IllegalArgumentException" :: vx_at0 RX4 44 "java/lang/IllegalArgumentException" q_nm, vx_ot w = true := by decide +kernel
theorem xb_50 : ∀ w ∈ (vx_at0 RX4 50 "java/lang/UnsupportedOperationException" q_nm).filter (fun w => !goodWord w), w ∈ q_bad "java/lang/UnsupportedOperationException" := by decide +kernel
theorem xg_48_50 : ∀ w ∈ Cond.classLink RX4 48 "java/lang/UnsupportedOperationException" :: Cond.initialized "java/lang/UnsupportedOperationException" :: vx_at0 RX4 50 "java/lang/UnsupportedOperationException" q_nm, vx_ot w = true := by decide +kernel
theorem xb_92 : ∀ w ∈ (vx_at0 RX4 92 "java/lang/IllegalStateException" q_nm).filter (fun w => !goodWord w), w ∈ q_bad "java/lang/IllegalStateException" := by decide +kernel
theorem xg_90_92 : ∀ w ∈ Cond.classLink RX4 90 "java/lang/IllegalStateException" :: Cond.initialized "java/lang/IllegalStateException" :: vx_at0 RX4 92 "java/lang/IllegalStateException" q_nm, vx_ot w = true := by decide +kernel
theorem xb_165 : ∀ w ∈ (vx_at0 RX4 165 "java/lang/IndexOutOfBoundsException" q_nm).filter (fun w => !goodWord w), w ∈ q_bad "java/lang/IndexOutOfBoundsException" := by decide +kernel
theorem xg_163_165 : ∀ w ∈ Cond.classLink RX4 163 "java/lang/IndexOutOfBoundsException" :: Cond.initialized "java/lang/IndexOutOfBoundsException" :: vx_at0 RX4 165 "java/lang/IndexOutOfBoundsException" q_nm, vx_ot w = true := by decide +kernel
def tX1_countPages (n : Nat → Nat) (ad : Nat → Nat → Nat) (C : q_S) (i j : Nat) (a : Int) (u : q_U) : Prop :=
  ((((C 1 5 i) + a) < (C 0 2 j)) ∧ u = (n, ad, q_up C 1 5 i (((C 1 5 i) + a)))) ∨
  (((C 0 2 j) ≤ ((C 1 5 i) + a)) ∧ u = (n, ad, q_up (q_up (q_up C 1 5 i (((C 1 5 i) + a))) 1 5 i ((0))) 1 4 i (((C 1 4 i) + (1)))))
set_option maxHeartbeats 4000000 in
set_option maxRecDepth 100000 in
theorem c_X1_countPages (l : Launch) (g : q_G) (s0 : Nat) (n : Nat → Nat) (ad : Nat → Nat → Nat) (C : q_S) (i : Nat) (hi : i < n 1) (j : Nat) (hj : j < n 0) (hjb : C 1 0 i = (j : Int) + 1) (h15 : 0 ≤ C 1 5 i ∧ C 1 5 i ≤ 500) (h14 : 0 ≤ C 1 4 i ∧ C 1 4 i ≤ 100) (a : Int) (ha : 0 ≤ a ∧ a ≤ 500) : Met l yX1_countPages wsX1_countPages ({ frames := 0, cells := 0, slots := 0, locals := 0 }) (va_Pc [.ref (ad 1 i), .int (iI a)] (q_B g s0 (n, ad, C))) (va_Qv (tX1_countPages n ad C i j a) (q_B g s0) (q_A s0)) 0 0 (q_A s0) := by
  refine Met.ofW (cc := cX1_countPages) (maxL := 2) (ret := none) (by decide) rfl ?_
  intro p e s m args below meth c s₁ B hml hv
  obtain ⟨rfl, hv⟩ := hv
  have hr := B.returns
  have hlocks := B.notSynchronized
  obtain ⟨X, hP⟩ := q_start B.exec B.bytes hml (show s.vm.findClass RX1 = some m.cls from findClass_of_methodNamed B.named) (atoms_spec (ws := wsX1_countPages) B.pre) hv
  have hP : q_P g s0 n ad C s.heap := hP
  have hS : va_S (q_A s0) s.heap s.heap [] := va_S.rf
  have in0 : ∀ w ∈ wsX00, w ∈ wsX1_countPages := by decide +kernel
  have in1 : ∀ w ∈ wsX10, w ∈ wsX1_countPages := by decide +kernel
  have hl := lv_entry ([.ref (ad 1 i), .int (iI a)]) (n := 2) (Nat.le_of_ble_eq_true rfl)
  rw [lg_entry_eq]
  generalize (lg_sl ([.ref (ad 1 i), .int (iI a)]) ++ List.replicate (2 - (lg_sl ([.ref (ad 1 i), .int (iI a)])).length) Slot.unset).toArray = ls at hl ⊢
  have hl : lv_has ls 2 [(0, .ref (ad 1 i)), (1, .int (iI a))] := hl
  refine lv_aload_n X.1 X.2.1 dX1_countPages_0 rfl (lv_at hl 0 rfl) ?_
  refine lv_dup X.1 X.2.1 dX1_countPages_1 rfl ?_
  refine q_get (index := 23) (v := .int (iI (C 1 5 i))) X hP 1 5 i rfl rfl (by decide) in1 hi (by decide) (by decide +kernel) rfl dX1_countPages_2 ?_
  refine lv_iload_n X.1 X.2.1 dX1_countPages_5 rfl (lv_at hl 1 rfl) ?_
  refine q_iadd X dX1_countPages_6 ?_
  refine q_put (index := 23) (v := .int (iI ((C 1 5 i) + a))) X hP hS 1 5 i (((C 1 5 i) + a)) rfl rfl (by decide) in1 tyX1 tyX1_ok nmX1 hi (by decide) (by decide +kernel) rfl rfl rfl rfl (show R32 _ from (by omega)) dX1_countPages_7 (fun H locs hP hS => ?_)
  have hP : q_P g s0 n ad (q_up C 1 5 i (((C 1 5 i) + a))) H := hP
  refine lv_aload_n X.1 X.2.1 dX1_countPages_10 rfl (lv_at hl 0 rfl) ?_
  refine q_get (index := 23) (v := .int (iI ((C 1 5 i) + a))) X hP 1 5 i rfl rfl (by decide) in1 hi (by decide) (by decide +kernel) (congrArg (fun z => Value.int (iI z)) (show (q_up C 1 5 i (((C 1 5 i) + a))) 1 5 i = ((C 1 5 i) + a) by simp [q_up])) dX1_countPages_11 ?_
  refine lv_aload_n X.1 X.2.1 dX1_countPages_14 rfl (lv_at hl 0 rfl) ?_
  refine q_get (index := 7) (v := .ref (ad 0 j)) X hP 1 0 i rfl rfl (by decide) in1 hi (by decide) (by decide +kernel) (q_vn ad 0 j hjb) dX1_countPages_15 ?_
  refine q_get (index := 26) (v := .int (iI (C 0 2 j))) X hP 0 2 j rfl rfl (by decide) in0 hj (by decide) (by decide +kernel) rfl dX1_countPages_18 ?_
  refine q_icmp_lt (tgt := 39) X (by omega) (hP.tok 0 2 j rfl) dX1_countPages_21 (by decide) (fun h_1 => ?_) (fun h_1 => ?_)
  · exact q_vret X hr hlocks hP hS (Or.inl (⟨h_1, rfl⟩)) (Nat.le_of_ble_eq_true rfl) (Nat.le_of_ble_eq_true rfl) dX1_countPages_39
  · refine lv_aload_n X.1 X.2.1 dX1_countPages_24 rfl (lv_at hl 0 rfl) ?_
    refine lv_iconst (v := iI (0)) X.1 X.2.1 dX1_countPages_25 rfl ?_
    refine q_put (index := 23) (v := .int (iI (0))) X hP hS 1 5 i ((0)) rfl rfl (by decide) in1 tyX1 tyX1_ok nmX1 hi (by decide) (by decide +kernel) rfl rfl rfl rfl (show R32 _ from (by decide)) dX1_countPages_26 (fun H locs hP hS => ?_)
    have hP : q_P g s0 n ad (q_up (q_up C 1 5 i (((C 1 5 i) + a))) 1 5 i ((0))) H := hP
    refine lv_aload_n X.1 X.2.1 dX1_countPages_29 rfl (lv_at hl 0 rfl) ?_
    refine lv_dup X.1 X.2.1 dX1_countPages_30 rfl ?_
    refine q_get (index := 20) (v := .int (iI (C 1 4 i))) X hP 1 4 i rfl rfl (by decide) in1 hi (by decide) (by decide +kernel) rfl dX1_countPages_31 ?_
    refine lv_iconst (v := iI (1)) X.1 X.2.1 dX1_countPages_34 rfl ?_
    refine q_iadd X dX1_countPages_35 ?_
    refine q_put (index := 20) (v := .int (iI ((C 1 4 i) + (1)))) X hP hS 1 4 i (((C 1 4 i) + (1))) rfl rfl (by decide) in1 tyX1 tyX1_ok nmX1 hi (by decide) (by decide +kernel) rfl rfl rfl rfl (show R32 _ from (by omega)) dX1_countPages_36 (fun H locs hP hS => ?_)
    have hP : q_P g s0 n ad (q_up (q_up (q_up C 1 5 i (((C 1 5 i) + a))) 1 5 i ((0))) 1 4 i (((C 1 4 i) + (1)))) H := hP
    exact q_vret X hr hlocks hP hS (Or.inr (⟨h_1, rfl⟩)) (Nat.le_of_ble_eq_true rfl) (Nat.le_of_ble_eq_true rfl) dX1_countPages_39
set_option maxHeartbeats 4000000 in
set_option maxRecDepth 100000 in
theorem c_X4_canLose (l : Launch) (g : q_G) (s0 : Nat) (n : Nat → Nat) (ad : Nat → Nat → Nat) (C : q_S) (c0 : Nat) (hR : c_R C n c0) (i : Nat) (hi : i < n 1) (a : Int) (ha : R32 a) : Met l yX4_canLose wsX4_canLose ({ frames := 1, cells := 0, slots := 0, locals := 20 }) (va_Pc [.ref (ad 1 i), .int (iI a)] (q_B g s0 (n, ad, C))) (va_Qi (fun r u => u = (n, ad, C) ∧ (((c_can C i a) ∧ r = iI 1) ∨ (¬ (c_can C i a) ∧ r = iI 0))) (q_B g s0) (q_A s0)) 0 0 (q_A s0) := by
  refine Met.ofW (cc := cX4_canLose) (maxL := 2) (ret := (some .boolean)) (by decide) rfl ?_
  intro p e s m args below meth c s₁ B hml hv
  obtain ⟨rfl, hv⟩ := hv
  have hr := B.returns
  have hlocks := B.notSynchronized
  obtain ⟨X, hP⟩ := q_start B.exec B.bytes hml (show s.vm.findClass RX4 = some m.cls from findClass_of_methodNamed B.named) (atoms_spec (ws := wsX4_canLose) B.pre) hv
  have hP : q_P g s0 n ad C s.heap := hP
  have hS : va_S (q_A s0) s.heap s.heap [] := va_S.rf
  have in1 : ∀ w ∈ wsX10, w ∈ wsX4_canLose := by decide +kernel
  have hl := lv_entry ([.ref (ad 1 i), .int (iI a)]) (n := 2) (Nat.le_of_ble_eq_true rfl)
  rw [lg_entry_eq]
  generalize (lg_sl ([.ref (ad 1 i), .int (iI a)]) ++ List.replicate (2 - (lg_sl ([.ref (ad 1 i), .int (iI a)])).length) Slot.unset).toArray = ls at hl ⊢
  have hl : lv_has ls 2 [(0, .ref (ad 1 i)), (1, .int (iI a))] := hl
  refine lv_aload_n X.1 X.2.1 dX4_canLose_0 rfl (lv_at hl 0 rfl) ?_
  refine q_get (index := 119) (v := .int (iI (C 1 3 i))) X hP 1 3 i rfl rfl (by decide) in1 hi (by decide) (by decide +kernel) rfl dX4_canLose_1 ?_
  refine q_if_ne (tgt := 26) X (hP.tok 1 3 i rfl) dX4_canLose_4 (by decide) (fun h_1 => ?_) (fun h_1 => ?_)
  · refine lv_iconst (v := iI (0)) X.1 X.2.1 dX4_canLose_26 rfl ?_
    exact q_zret X hr hlocks hP hS (z := (0)) (by decide) ⟨rfl, Or.inr ⟨by unfold c_can; omega, rfl⟩⟩ (Nat.le_of_ble_eq_true rfl) (Nat.le_of_ble_eq_true rfl) dX4_canLose_27
  · refine lv_aload_n X.1 X.2.1 dX4_canLose_7 rfl (lv_at hl 0 rfl) ?_
    refine q_get (index := 249) (v := .int (iI (C 1 1 i))) X hP 1 1 i rfl rfl (by decide) in1 hi (by decide) (by decide +kernel) rfl dX4_canLose_8 ?_
    refine q_if_ne (tgt := 26) X (hP.tok 1 1 i rfl) dX4_canLose_11 (by decide) (fun h_2 => ?_) (fun h_2 => ?_)
    · refine lv_iconst (v := iI (0)) X.1 X.2.1 dX4_canLose_26 rfl ?_
      exact q_zret X hr hlocks hP hS (z := (0)) (by decide) ⟨rfl, Or.inr ⟨by unfold c_can; omega, rfl⟩⟩ (Nat.le_of_ble_eq_true rfl) (Nat.le_of_ble_eq_true rfl) dX4_canLose_27
    · refine lv_aload_n X.1 X.2.1 dX4_canLose_14 rfl (lv_at hl 0 rfl) ?_
      refine va_calli (va_runV (As := []) (rest := []) X.fix (c_X1_untouchedCopies l g s0 n ad C i hi) (cwV 0 X.2.2.2.2.1 gX4_canLose_X1_untouchedCopies rfl rfl rfl (by decide +kernel) ⟨Nat.le_of_ble_eq_true rfl, Nat.le_of_ble_eq_true rfl⟩) (q_preV X hP hS [] (kd := 1) (by decide) rfl hi) rfl rfl hl.1 rfl (lv_room (Nat.le_of_ble_eq_true rfl)) dX4_canLose_15 ⟨Nat.le_of_ble_eq_true rfl, Nat.le_of_ble_eq_true rfl⟩) hS q_id q_id1 (fun r u t H locs ht hvm hw hB hz1 hk1 hS => ?_)
      obtain ⟨rfl, rfl⟩ := hw
      have hP : q_P g s0 n ad (C) H := q_back hB ht
      refine lv_iload_n X.1 X.2.1 dX4_canLose_18 rfl (lv_at hl 1 rfl) ?_
      refine q_icmp_le (tgt := 26) X (c_unt_r hR i) ha dX4_canLose_19 (by decide) (fun h_3 => ?_) (fun h_3 => ?_)
      · refine lv_iconst (v := iI (0)) X.1 X.2.1 dX4_canLose_26 rfl ?_
        exact q_zret X hr hlocks hP hS (z := (0)) (by decide) ⟨rfl, Or.inr ⟨by unfold c_can; omega, rfl⟩⟩ (Nat.le_of_ble_eq_true rfl) (Nat.le_of_ble_eq_true rfl) dX4_canLose_27
      · refine lv_iconst (v := iI (1)) X.1 X.2.1 dX4_canLose_22 rfl ?_
        refine lv_goto (tgt := 27) X.1 X.2.1 dX4_canLose_23 (by decide) ?_
        exact q_zret X hr hlocks hP hS (z := (1)) (by decide) ⟨rfl, Or.inl ⟨by unfold c_can; omega, rfl⟩⟩ (Nat.le_of_ble_eq_true rfl) (Nat.le_of_ble_eq_true rfl) dX4_canLose_27
set_option maxHeartbeats 4000000 in
set_option maxRecDepth 100000 in
theorem c_X4_goesBefore (l : Launch) (g : q_G) (s0 : Nat) (n : Nat → Nat) (ad : Nat → Nat → Nat) (C : q_S) (c0 : Nat) (hC : c_S C n) (hR : c_R C n c0) (j1 j2 p0 : Nat) (hj1 : j1 < n 0) (hj2 : j2 < n 0) (hp : p0 < n 2) : Met l yX4_goesBefore wsX4_goesBefore ({ frames := 0, cells := 0, slots := 0, locals := 0 }) (va_Pc [.ref (ad 4 0), .ref (ad 0 j1), .ref (ad 0 j2), .ref (ad 2 p0)] (q_B g s0 (n, ad, C))) (va_Qi (fun r u => u = (n, ad, C) ∧ (((c_bef C j1 j2 p0) ∧ r = iI 1) ∨ (¬ (c_bef C j1 j2 p0) ∧ r = iI 0))) (q_B g s0) (q_A s0)) 0 0 (q_A s0) := by
  refine Met.ofW (cc := cX4_goesBefore) (maxL := 6) (ret := (some .boolean)) (by decide) rfl ?_
  intro p e s m args below meth c s₁ B hml hv
  obtain ⟨rfl, hv⟩ := hv
  have hr := B.returns
  have hlocks := B.notSynchronized
  obtain ⟨X, hP⟩ := q_start B.exec B.bytes hml (show s.vm.findClass RX4 = some m.cls from findClass_of_methodNamed B.named) (atoms_spec (ws := wsX4_goesBefore) B.pre) hv
  have hP : q_P g s0 n ad C s.heap := hP
  have hS : va_S (q_A s0) s.heap s.heap [] := va_S.rf
  have in0 : ∀ w ∈ wsX00, w ∈ wsX4_goesBefore := by decide +kernel
  have in2 : ∀ w ∈ wsX20, w ∈ wsX4_goesBefore := by decide +kernel
  have in3 : ∀ w ∈ wsX30, w ∈ wsX4_goesBefore := by decide +kernel
  have in4 : ∀ w ∈ wsX40, w ∈ wsX4_goesBefore := by decide +kernel
  have hl := lv_entry ([.ref (ad 4 0), .ref (ad 0 j1), .ref (ad 0 j2), .ref (ad 2 p0)]) (n := 6) (Nat.le_of_ble_eq_true rfl)
  rw [lg_entry_eq]
  generalize (lg_sl ([.ref (ad 4 0), .ref (ad 0 j1), .ref (ad 0 j2), .ref (ad 2 p0)]) ++ List.replicate (6 - (lg_sl ([.ref (ad 4 0), .ref (ad 0 j1), .ref (ad 0 j2), .ref (ad 2 p0)])).length) Slot.unset).toArray = ls at hl ⊢
  have hl : lv_has ls 6 [(0, .ref (ad 4 0)), (1, .ref (ad 0 j1)), (2, .ref (ad 0 j2)), (3, .ref (ad 2 p0))] := hl
  refine lv_aload_n X.1 X.2.1 dX4_goesBefore_0 rfl (lv_at hl 1 rfl) ?_
  refine q_get (index := 212) (v := .int (iI (C 0 3 j1))) X hP 0 3 j1 rfl rfl (by decide) in0 hj1 (by decide) (by decide +kernel) rfl dX4_goesBefore_1 ?_
  refine lv_aload_n X.1 X.2.1 dX4_goesBefore_4 rfl (lv_at hl 2 rfl) ?_
  refine q_get (index := 212) (v := .int (iI (C 0 3 j2))) X hP 0 3 j2 rfl rfl (by decide) in0 hj2 (by decide) (by decide +kernel) rfl dX4_goesBefore_5 ?_
  refine q_icmp_eq (tgt := 28) X (hP.tok 0 3 j1 rfl) (hP.tok 0 3 j2 rfl) dX4_goesBefore_8 (by decide) (fun h_1 => ?_) (fun h_1 => ?_)
  · refine lv_aload_n X.1 X.2.1 dX4_goesBefore_28 rfl (lv_at hl 1 rfl) ?_
    refine q_get (index := 215) (v := .ref (ad 3 ((C 0 1 j1 - 1).toNat))) X hP 0 1 j1 rfl rfl (by decide) in0 hj1 (by decide) (by decide +kernel) (q_vnn ad 3 (c_tn hR j1 hj1)) dX4_goesBefore_29 ?_
    refine q_get (index := 219) (v := .int (iI (C 3 0 ((C 0 1 j1 - 1).toNat)))) X hP 3 0 ((C 0 1 j1 - 1).toNat) rfl rfl (by decide) in3 (q_rfl (hP.tok 0 1 j1 rfl) (c_tn hR j1 hj1)) (by decide) (by decide +kernel) rfl dX4_goesBefore_32 ?_
    refine lv_aload_n X.1 X.2.1 dX4_goesBefore_35 rfl (lv_at hl 3 rfl) ?_
    refine q_get (index := 222) (v := .int (iI (C 2 2 p0))) X hP 2 2 p0 rfl rfl (by decide) in2 hp (by decide) (by decide +kernel) rfl dX4_goesBefore_36 ?_
    refine q_icmp_ne (tgt := 46) X (hP.tok 3 0 ((C 0 1 j1 - 1).toNat) rfl) (hP.tok 2 2 p0 rfl) dX4_goesBefore_39 (by decide) (fun h_2 => ?_) (fun h_2 => ?_)
    · refine lv_iconst (v := iI (0)) X.1 X.2.1 dX4_goesBefore_46 rfl ?_
      refine lv_istore (lv' := [(4, .int (iI (0))), (0, .ref (ad 4 0)), (1, .ref (ad 0 j1)), (2, .ref (ad 0 j2)), (3, .ref (ad 2 p0))]) X.1 X.2.1 dX4_goesBefore_47 hl (by decide) rfl (fun ls hl => ?_)
      refine lv_aload_n X.1 X.2.1 dX4_goesBefore_49 rfl (lv_at hl 3 rfl) ?_
      refine q_get (index := 215) (v := .ref (ad 3 ((C 0 1 j2 - 1).toNat))) X hP 0 1 j2 rfl rfl (by decide) in0 hj2 (by decide) (by decide +kernel) (q_vnn ad 3 (c_tn hR j2 hj2)) dX4_goesBefore_50 ?_
      refine q_get (index := 219) (v := .int (iI (C 3 0 ((C 0 1 j2 - 1).toNat)))) X hP 3 0 ((C 0 1 j2 - 1).toNat) rfl rfl (by decide) in3 (q_rfl (hP.tok 0 1 j2 rfl) (c_tn hR j2 hj2)) (by decide) (by decide +kernel) rfl dX4_goesBefore_53 ?_
      refine lv_aload_n X.1 X.2.1 dX4_goesBefore_56 rfl (lv_at hl 4 rfl) ?_
      refine q_get (index := 222) (v := .int (iI (C 2 2 p0))) X hP 2 2 p0 rfl rfl (by decide) in2 hp (by decide) (by decide +kernel) rfl dX4_goesBefore_57 ?_
      refine q_icmp_ne (tgt := 67) X (hP.tok 3 0 ((C 0 1 j2 - 1).toNat) rfl) (hP.tok 2 2 p0 rfl) dX4_goesBefore_60 (by decide) (fun h_3 => ?_) (fun h_3 => ?_)
      · refine lv_iconst (v := iI (0)) X.1 X.2.1 dX4_goesBefore_67 rfl ?_
        refine lv_istore (lv' := [(5, .int (iI (0))), (4, .int (iI (0))), (0, .ref (ad 4 0)), (1, .ref (ad 0 j1)), (2, .ref (ad 0 j2)), (3, .ref (ad 2 p0))]) X.1 X.2.1 dX4_goesBefore_68 hl (by decide) rfl (fun ls hl => ?_)
        refine lv_aload_n X.1 X.2.1 dX4_goesBefore_70 rfl (lv_at hl 5 rfl) ?_
        refine q_get (index := 223) (v := .int (iI (C 2 3 p0))) X hP 2 3 p0 rfl rfl (by decide) in2 hp (by decide) (by decide +kernel) rfl dX4_goesBefore_71 ?_
        have f_4 := c_R23 hR p0
        refine lv_aload_n X.1 X.2.1 dX4_goesBefore_74 rfl (lv_at hl 2 rfl) ?_
        refine q_get (index := 34) (v := .int (iI (C 4 9 0))) X hP 4 9 0 rfl rfl (by decide) in4 (c_v4 hC) (by decide) (by decide +kernel) rfl dX4_goesBefore_75 ?_
        refine q_icmp_ge (tgt := 91) X (hP.tok 2 3 p0 rfl) (hP.tok 4 9 0 rfl) dX4_goesBefore_78 (by decide) (fun h_5 => ?_) (fun h_5 => ?_)
        · refine lv_aload_n X.1 X.2.1 dX4_goesBefore_91 rfl (lv_at hl 3 rfl) ?_
          refine q_get (index := 185) (v := .long (jI (C 0 4 j1))) X hP 0 4 j1 rfl rfl (by decide) in0 hj1 (by decide) (by decide +kernel) rfl dX4_goesBefore_92 ?_
          refine lv_aload_n X.1 X.2.1 dX4_goesBefore_95 rfl (lv_at hl 4 rfl) ?_
          refine q_get (index := 185) (v := .long (jI (C 0 4 j2))) X hP 0 4 j2 rfl rfl (by decide) in0 hj2 (by decide) (by decide +kernel) rfl dX4_goesBefore_96 ?_
          refine q_lcmp_ge (tgt := 107) X (hP.tok 0 4 j1 rfl) (hP.tok 0 4 j2 rfl) dX4_goesBefore_99 dX4_goesBefore_100 (by decide) (fun h_6 => ?_) (fun h_6 => ?_)
          · refine lv_iconst (v := iI (0)) X.1 X.2.1 dX4_goesBefore_107 rfl ?_
            exact q_zret X hr hlocks hP hS (z := (0)) (by decide) ⟨rfl, Or.inr ⟨by unfold c_bef c_lk c_tik; omega, rfl⟩⟩ (Nat.le_of_ble_eq_true rfl) (Nat.le_of_ble_eq_true rfl) dX4_goesBefore_108
          · refine lv_iconst (v := iI (1)) X.1 X.2.1 dX4_goesBefore_103 rfl ?_
            refine lv_goto (tgt := 108) X.1 X.2.1 dX4_goesBefore_104 (by decide) ?_
            exact q_zret X hr hlocks hP hS (z := (1)) (by decide) ⟨rfl, Or.inl ⟨by unfold c_bef c_lk c_tik; omega, rfl⟩⟩ (Nat.le_of_ble_eq_true rfl) (Nat.le_of_ble_eq_true rfl) dX4_goesBefore_108
        · refine lv_iload X.1 X.2.1 dX4_goesBefore_81 (lv_at hl 1 rfl) ?_
          refine lv_iload X.1 X.2.1 dX4_goesBefore_83 (lv_at hl 0 rfl) ?_
          refine q_icmp_eq (tgt := 91) X (by decide) (by decide) dX4_goesBefore_85 (by decide) (fun _ => ?_) (fun h => absurd h (by decide))
          refine lv_aload_n X.1 X.2.1 dX4_goesBefore_91 rfl (lv_at hl 3 rfl) ?_
          refine q_get (index := 185) (v := .long (jI (C 0 4 j1))) X hP 0 4 j1 rfl rfl (by decide) in0 hj1 (by decide) (by decide +kernel) rfl dX4_goesBefore_92 ?_
          refine lv_aload_n X.1 X.2.1 dX4_goesBefore_95 rfl (lv_at hl 4 rfl) ?_
          refine q_get (index := 185) (v := .long (jI (C 0 4 j2))) X hP 0 4 j2 rfl rfl (by decide) in0 hj2 (by decide) (by decide +kernel) rfl dX4_goesBefore_96 ?_
          refine q_lcmp_ge (tgt := 107) X (hP.tok 0 4 j1 rfl) (hP.tok 0 4 j2 rfl) dX4_goesBefore_99 dX4_goesBefore_100 (by decide) (fun h_8 => ?_) (fun h_8 => ?_)
          · refine lv_iconst (v := iI (0)) X.1 X.2.1 dX4_goesBefore_107 rfl ?_
            exact q_zret X hr hlocks hP hS (z := (0)) (by decide) ⟨rfl, Or.inr ⟨by unfold c_bef c_lk c_tik; omega, rfl⟩⟩ (Nat.le_of_ble_eq_true rfl) (Nat.le_of_ble_eq_true rfl) dX4_goesBefore_108
          · refine lv_iconst (v := iI (1)) X.1 X.2.1 dX4_goesBefore_103 rfl ?_
            refine lv_goto (tgt := 108) X.1 X.2.1 dX4_goesBefore_104 (by decide) ?_
            exact q_zret X hr hlocks hP hS (z := (1)) (by decide) ⟨rfl, Or.inl ⟨by unfold c_bef c_lk c_tik; omega, rfl⟩⟩ (Nat.le_of_ble_eq_true rfl) (Nat.le_of_ble_eq_true rfl) dX4_goesBefore_108
      · refine lv_iconst (v := iI (1)) X.1 X.2.1 dX4_goesBefore_63 rfl ?_
        refine lv_goto (tgt := 68) X.1 X.2.1 dX4_goesBefore_64 (by decide) ?_
        refine lv_istore (lv' := [(5, .int (iI (1))), (4, .int (iI (0))), (0, .ref (ad 4 0)), (1, .ref (ad 0 j1)), (2, .ref (ad 0 j2)), (3, .ref (ad 2 p0))]) X.1 X.2.1 dX4_goesBefore_68 hl (by decide) rfl (fun ls hl => ?_)
        refine lv_aload_n X.1 X.2.1 dX4_goesBefore_70 rfl (lv_at hl 5 rfl) ?_
        refine q_get (index := 223) (v := .int (iI (C 2 3 p0))) X hP 2 3 p0 rfl rfl (by decide) in2 hp (by decide) (by decide +kernel) rfl dX4_goesBefore_71 ?_
        have f_9 := c_R23 hR p0
        refine lv_aload_n X.1 X.2.1 dX4_goesBefore_74 rfl (lv_at hl 2 rfl) ?_
        refine q_get (index := 34) (v := .int (iI (C 4 9 0))) X hP 4 9 0 rfl rfl (by decide) in4 (c_v4 hC) (by decide) (by decide +kernel) rfl dX4_goesBefore_75 ?_
        refine q_icmp_ge (tgt := 91) X (hP.tok 2 3 p0 rfl) (hP.tok 4 9 0 rfl) dX4_goesBefore_78 (by decide) (fun h_10 => ?_) (fun h_10 => ?_)
        · refine lv_aload_n X.1 X.2.1 dX4_goesBefore_91 rfl (lv_at hl 3 rfl) ?_
          refine q_get (index := 185) (v := .long (jI (C 0 4 j1))) X hP 0 4 j1 rfl rfl (by decide) in0 hj1 (by decide) (by decide +kernel) rfl dX4_goesBefore_92 ?_
          refine lv_aload_n X.1 X.2.1 dX4_goesBefore_95 rfl (lv_at hl 4 rfl) ?_
          refine q_get (index := 185) (v := .long (jI (C 0 4 j2))) X hP 0 4 j2 rfl rfl (by decide) in0 hj2 (by decide) (by decide +kernel) rfl dX4_goesBefore_96 ?_
          refine q_lcmp_ge (tgt := 107) X (hP.tok 0 4 j1 rfl) (hP.tok 0 4 j2 rfl) dX4_goesBefore_99 dX4_goesBefore_100 (by decide) (fun h_11 => ?_) (fun h_11 => ?_)
          · refine lv_iconst (v := iI (0)) X.1 X.2.1 dX4_goesBefore_107 rfl ?_
            exact q_zret X hr hlocks hP hS (z := (0)) (by decide) ⟨rfl, Or.inr ⟨by unfold c_bef c_lk c_tik; omega, rfl⟩⟩ (Nat.le_of_ble_eq_true rfl) (Nat.le_of_ble_eq_true rfl) dX4_goesBefore_108
          · refine lv_iconst (v := iI (1)) X.1 X.2.1 dX4_goesBefore_103 rfl ?_
            refine lv_goto (tgt := 108) X.1 X.2.1 dX4_goesBefore_104 (by decide) ?_
            exact q_zret X hr hlocks hP hS (z := (1)) (by decide) ⟨rfl, Or.inl ⟨by unfold c_bef c_lk c_tik; omega, rfl⟩⟩ (Nat.le_of_ble_eq_true rfl) (Nat.le_of_ble_eq_true rfl) dX4_goesBefore_108
        · refine lv_iload X.1 X.2.1 dX4_goesBefore_81 (lv_at hl 1 rfl) ?_
          refine lv_iload X.1 X.2.1 dX4_goesBefore_83 (lv_at hl 0 rfl) ?_
          refine q_icmp_eq (tgt := 91) X (by decide) (by decide) dX4_goesBefore_85 (by decide) (fun h => absurd h (by decide)) (fun _ => ?_)
          refine lv_iload X.1 X.2.1 dX4_goesBefore_88 (lv_at hl 1 rfl) ?_
          exact q_zret X hr hlocks hP hS (z := (0)) (by decide) ⟨rfl, Or.inr ⟨by unfold c_bef c_lk c_tik; omega, rfl⟩⟩ (Nat.le_of_ble_eq_true rfl) (Nat.le_of_ble_eq_true rfl) dX4_goesBefore_90
    · refine lv_iconst (v := iI (1)) X.1 X.2.1 dX4_goesBefore_42 rfl ?_
      refine lv_goto (tgt := 47) X.1 X.2.1 dX4_goesBefore_43 (by decide) ?_
      refine lv_istore (lv' := [(4, .int (iI (1))), (0, .ref (ad 4 0)), (1, .ref (ad 0 j1)), (2, .ref (ad 0 j2)), (3, .ref (ad 2 p0))]) X.1 X.2.1 dX4_goesBefore_47 hl (by decide) rfl (fun ls hl => ?_)
      refine lv_aload_n X.1 X.2.1 dX4_goesBefore_49 rfl (lv_at hl 3 rfl) ?_
      refine q_get (index := 215) (v := .ref (ad 3 ((C 0 1 j2 - 1).toNat))) X hP 0 1 j2 rfl rfl (by decide) in0 hj2 (by decide) (by decide +kernel) (q_vnn ad 3 (c_tn hR j2 hj2)) dX4_goesBefore_50 ?_
      refine q_get (index := 219) (v := .int (iI (C 3 0 ((C 0 1 j2 - 1).toNat)))) X hP 3 0 ((C 0 1 j2 - 1).toNat) rfl rfl (by decide) in3 (q_rfl (hP.tok 0 1 j2 rfl) (c_tn hR j2 hj2)) (by decide) (by decide +kernel) rfl dX4_goesBefore_53 ?_
      refine lv_aload_n X.1 X.2.1 dX4_goesBefore_56 rfl (lv_at hl 4 rfl) ?_
      refine q_get (index := 222) (v := .int (iI (C 2 2 p0))) X hP 2 2 p0 rfl rfl (by decide) in2 hp (by decide) (by decide +kernel) rfl dX4_goesBefore_57 ?_
      refine q_icmp_ne (tgt := 67) X (hP.tok 3 0 ((C 0 1 j2 - 1).toNat) rfl) (hP.tok 2 2 p0 rfl) dX4_goesBefore_60 (by decide) (fun h_13 => ?_) (fun h_13 => ?_)
      · refine lv_iconst (v := iI (0)) X.1 X.2.1 dX4_goesBefore_67 rfl ?_
        refine lv_istore (lv' := [(5, .int (iI (0))), (4, .int (iI (1))), (0, .ref (ad 4 0)), (1, .ref (ad 0 j1)), (2, .ref (ad 0 j2)), (3, .ref (ad 2 p0))]) X.1 X.2.1 dX4_goesBefore_68 hl (by decide) rfl (fun ls hl => ?_)
        refine lv_aload_n X.1 X.2.1 dX4_goesBefore_70 rfl (lv_at hl 5 rfl) ?_
        refine q_get (index := 223) (v := .int (iI (C 2 3 p0))) X hP 2 3 p0 rfl rfl (by decide) in2 hp (by decide) (by decide +kernel) rfl dX4_goesBefore_71 ?_
        have f_14 := c_R23 hR p0
        refine lv_aload_n X.1 X.2.1 dX4_goesBefore_74 rfl (lv_at hl 2 rfl) ?_
        refine q_get (index := 34) (v := .int (iI (C 4 9 0))) X hP 4 9 0 rfl rfl (by decide) in4 (c_v4 hC) (by decide) (by decide +kernel) rfl dX4_goesBefore_75 ?_
        refine q_icmp_ge (tgt := 91) X (hP.tok 2 3 p0 rfl) (hP.tok 4 9 0 rfl) dX4_goesBefore_78 (by decide) (fun h_15 => ?_) (fun h_15 => ?_)
        · refine lv_aload_n X.1 X.2.1 dX4_goesBefore_91 rfl (lv_at hl 3 rfl) ?_
          refine q_get (index := 185) (v := .long (jI (C 0 4 j1))) X hP 0 4 j1 rfl rfl (by decide) in0 hj1 (by decide) (by decide +kernel) rfl dX4_goesBefore_92 ?_
          refine lv_aload_n X.1 X.2.1 dX4_goesBefore_95 rfl (lv_at hl 4 rfl) ?_
          refine q_get (index := 185) (v := .long (jI (C 0 4 j2))) X hP 0 4 j2 rfl rfl (by decide) in0 hj2 (by decide) (by decide +kernel) rfl dX4_goesBefore_96 ?_
          refine q_lcmp_ge (tgt := 107) X (hP.tok 0 4 j1 rfl) (hP.tok 0 4 j2 rfl) dX4_goesBefore_99 dX4_goesBefore_100 (by decide) (fun h_16 => ?_) (fun h_16 => ?_)
          · refine lv_iconst (v := iI (0)) X.1 X.2.1 dX4_goesBefore_107 rfl ?_
            exact q_zret X hr hlocks hP hS (z := (0)) (by decide) ⟨rfl, Or.inr ⟨by unfold c_bef c_lk c_tik; omega, rfl⟩⟩ (Nat.le_of_ble_eq_true rfl) (Nat.le_of_ble_eq_true rfl) dX4_goesBefore_108
          · refine lv_iconst (v := iI (1)) X.1 X.2.1 dX4_goesBefore_103 rfl ?_
            refine lv_goto (tgt := 108) X.1 X.2.1 dX4_goesBefore_104 (by decide) ?_
            exact q_zret X hr hlocks hP hS (z := (1)) (by decide) ⟨rfl, Or.inl ⟨by unfold c_bef c_lk c_tik; omega, rfl⟩⟩ (Nat.le_of_ble_eq_true rfl) (Nat.le_of_ble_eq_true rfl) dX4_goesBefore_108
        · refine lv_iload X.1 X.2.1 dX4_goesBefore_81 (lv_at hl 1 rfl) ?_
          refine lv_iload X.1 X.2.1 dX4_goesBefore_83 (lv_at hl 0 rfl) ?_
          refine q_icmp_eq (tgt := 91) X (by decide) (by decide) dX4_goesBefore_85 (by decide) (fun h => absurd h (by decide)) (fun _ => ?_)
          refine lv_iload X.1 X.2.1 dX4_goesBefore_88 (lv_at hl 1 rfl) ?_
          exact q_zret X hr hlocks hP hS (z := (1)) (by decide) ⟨rfl, Or.inl ⟨by unfold c_bef c_lk c_tik; omega, rfl⟩⟩ (Nat.le_of_ble_eq_true rfl) (Nat.le_of_ble_eq_true rfl) dX4_goesBefore_90
      · refine lv_iconst (v := iI (1)) X.1 X.2.1 dX4_goesBefore_63 rfl ?_
        refine lv_goto (tgt := 68) X.1 X.2.1 dX4_goesBefore_64 (by decide) ?_
        refine lv_istore (lv' := [(5, .int (iI (1))), (4, .int (iI (1))), (0, .ref (ad 4 0)), (1, .ref (ad 0 j1)), (2, .ref (ad 0 j2)), (3, .ref (ad 2 p0))]) X.1 X.2.1 dX4_goesBefore_68 hl (by decide) rfl (fun ls hl => ?_)
        refine lv_aload_n X.1 X.2.1 dX4_goesBefore_70 rfl (lv_at hl 5 rfl) ?_
        refine q_get (index := 223) (v := .int (iI (C 2 3 p0))) X hP 2 3 p0 rfl rfl (by decide) in2 hp (by decide) (by decide +kernel) rfl dX4_goesBefore_71 ?_
        have f_18 := c_R23 hR p0
        refine lv_aload_n X.1 X.2.1 dX4_goesBefore_74 rfl (lv_at hl 2 rfl) ?_
        refine q_get (index := 34) (v := .int (iI (C 4 9 0))) X hP 4 9 0 rfl rfl (by decide) in4 (c_v4 hC) (by decide) (by decide +kernel) rfl dX4_goesBefore_75 ?_
        refine q_icmp_ge (tgt := 91) X (hP.tok 2 3 p0 rfl) (hP.tok 4 9 0 rfl) dX4_goesBefore_78 (by decide) (fun h_19 => ?_) (fun h_19 => ?_)
        · refine lv_aload_n X.1 X.2.1 dX4_goesBefore_91 rfl (lv_at hl 3 rfl) ?_
          refine q_get (index := 185) (v := .long (jI (C 0 4 j1))) X hP 0 4 j1 rfl rfl (by decide) in0 hj1 (by decide) (by decide +kernel) rfl dX4_goesBefore_92 ?_
          refine lv_aload_n X.1 X.2.1 dX4_goesBefore_95 rfl (lv_at hl 4 rfl) ?_
          refine q_get (index := 185) (v := .long (jI (C 0 4 j2))) X hP 0 4 j2 rfl rfl (by decide) in0 hj2 (by decide) (by decide +kernel) rfl dX4_goesBefore_96 ?_
          refine q_lcmp_ge (tgt := 107) X (hP.tok 0 4 j1 rfl) (hP.tok 0 4 j2 rfl) dX4_goesBefore_99 dX4_goesBefore_100 (by decide) (fun h_20 => ?_) (fun h_20 => ?_)
          · refine lv_iconst (v := iI (0)) X.1 X.2.1 dX4_goesBefore_107 rfl ?_
            exact q_zret X hr hlocks hP hS (z := (0)) (by decide) ⟨rfl, Or.inr ⟨by unfold c_bef c_lk c_tik; omega, rfl⟩⟩ (Nat.le_of_ble_eq_true rfl) (Nat.le_of_ble_eq_true rfl) dX4_goesBefore_108
          · refine lv_iconst (v := iI (1)) X.1 X.2.1 dX4_goesBefore_103 rfl ?_
            refine lv_goto (tgt := 108) X.1 X.2.1 dX4_goesBefore_104 (by decide) ?_
            exact q_zret X hr hlocks hP hS (z := (1)) (by decide) ⟨rfl, Or.inl ⟨by unfold c_bef c_lk c_tik; omega, rfl⟩⟩ (Nat.le_of_ble_eq_true rfl) (Nat.le_of_ble_eq_true rfl) dX4_goesBefore_108
        · refine lv_iload X.1 X.2.1 dX4_goesBefore_81 (lv_at hl 1 rfl) ?_
          refine lv_iload X.1 X.2.1 dX4_goesBefore_83 (lv_at hl 0 rfl) ?_
          refine q_icmp_eq (tgt := 91) X (by decide) (by decide) dX4_goesBefore_85 (by decide) (fun _ => ?_) (fun h => absurd h (by decide))
          refine lv_aload_n X.1 X.2.1 dX4_goesBefore_91 rfl (lv_at hl 3 rfl) ?_
          refine q_get (index := 185) (v := .long (jI (C 0 4 j1))) X hP 0 4 j1 rfl rfl (by decide) in0 hj1 (by decide) (by decide +kernel) rfl dX4_goesBefore_92 ?_
          refine lv_aload_n X.1 X.2.1 dX4_goesBefore_95 rfl (lv_at hl 4 rfl) ?_
          refine q_get (index := 185) (v := .long (jI (C 0 4 j2))) X hP 0 4 j2 rfl rfl (by decide) in0 hj2 (by decide) (by decide +kernel) rfl dX4_goesBefore_96 ?_
          refine q_lcmp_ge (tgt := 107) X (hP.tok 0 4 j1 rfl) (hP.tok 0 4 j2 rfl) dX4_goesBefore_99 dX4_goesBefore_100 (by decide) (fun h_22 => ?_) (fun h_22 => ?_)
          · refine lv_iconst (v := iI (0)) X.1 X.2.1 dX4_goesBefore_107 rfl ?_
            exact q_zret X hr hlocks hP hS (z := (0)) (by decide) ⟨rfl, Or.inr ⟨by unfold c_bef c_lk c_tik; omega, rfl⟩⟩ (Nat.le_of_ble_eq_true rfl) (Nat.le_of_ble_eq_true rfl) dX4_goesBefore_108
          · refine lv_iconst (v := iI (1)) X.1 X.2.1 dX4_goesBefore_103 rfl ?_
            refine lv_goto (tgt := 108) X.1 X.2.1 dX4_goesBefore_104 (by decide) ?_
            exact q_zret X hr hlocks hP hS (z := (1)) (by decide) ⟨rfl, Or.inl ⟨by unfold c_bef c_lk c_tik; omega, rfl⟩⟩ (Nat.le_of_ble_eq_true rfl) (Nat.le_of_ble_eq_true rfl) dX4_goesBefore_108
  · refine lv_aload_n X.1 X.2.1 dX4_goesBefore_11 rfl (lv_at hl 1 rfl) ?_
    refine q_get (index := 212) (v := .int (iI (C 0 3 j1))) X hP 0 3 j1 rfl rfl (by decide) in0 hj1 (by decide) (by decide +kernel) rfl dX4_goesBefore_12 ?_
    refine lv_aload_n X.1 X.2.1 dX4_goesBefore_15 rfl (lv_at hl 2 rfl) ?_
    refine q_get (index := 212) (v := .int (iI (C 0 3 j2))) X hP 0 3 j2 rfl rfl (by decide) in0 hj2 (by decide) (by decide +kernel) rfl dX4_goesBefore_16 ?_
    refine q_icmp_le (tgt := 26) X (hP.tok 0 3 j1 rfl) (hP.tok 0 3 j2 rfl) dX4_goesBefore_19 (by decide) (fun h_23 => ?_) (fun h_23 => ?_)
    · refine lv_iconst (v := iI (0)) X.1 X.2.1 dX4_goesBefore_26 rfl ?_
      exact q_zret X hr hlocks hP hS (z := (0)) (by decide) ⟨rfl, Or.inr ⟨by unfold c_bef c_lk c_tik; omega, rfl⟩⟩ (Nat.le_of_ble_eq_true rfl) (Nat.le_of_ble_eq_true rfl) dX4_goesBefore_27
    · refine lv_iconst (v := iI (1)) X.1 X.2.1 dX4_goesBefore_22 rfl ?_
      refine lv_goto (tgt := 27) X.1 X.2.1 dX4_goesBefore_23 (by decide) ?_
      exact q_zret X hr hlocks hP hS (z := (1)) (by decide) ⟨rfl, Or.inl ⟨by unfold c_bef c_lk c_tik; omega, rfl⟩⟩ (Nat.le_of_ble_eq_true rfl) (Nat.le_of_ble_eq_true rfl) dX4_goesBefore_27
def tX4_bringTo (n : Nat → Nat) (ad : Nat → Nat → Nat) (C : q_S) (p0 i : Nat) (u : q_U) : Prop :=
  (((C 3 0 ((C 0 1 ((C 1 0 i - 1).toNat) - 1).toNat)) = (C 2 2 p0)) ∧ u = (n, ad, q_up (q_up (q_up (q_up C 2 3 p0 (((C 2 3 p0) + (1)))) 1 3 i ((1))) 2 4 p0 (((i : Nat) : Int) + 1)) 2 5 p0 ((1)))) ∨
  ((¬ (C 3 0 ((C 0 1 ((C 1 0 i - 1).toNat) - 1).toNat)) = (C 2 2 p0)) ∧ u = (n, ad, q_up (q_up (q_up (q_up (q_up (q_up C 2 2 p0 ((C 3 0 ((C 0 1 ((C 1 0 i - 1).toNat) - 1).toNat)))) 2 3 p0 ((0))) 3 4 ((C 0 1 ((C 1 0 i - 1).toNat) - 1).toNat) (((C 3 4 ((C 0 1 ((C 1 0 i - 1).toNat) - 1).toNat)) + (1)))) 1 3 i ((1))) 2 4 p0 (((i : Nat) : Int) + 1)) 2 5 p0 ((1))))
set_option maxHeartbeats 4000000 in
set_option maxRecDepth 100000 in
theorem c_X4_bringTo (l : Launch) (g : q_G) (s0 : Nat) (n : Nat → Nat) (ad : Nat → Nat → Nat) (C : q_S) (c0 : Nat) (hR : c_R C n c0) (hc0 : c0 ≤ 600) (p0 : Nat) (hp : p0 < n 2) (i : Nat) (hi : i < n 1) : Met l yX4_bringTo wsX4_bringTo ({ frames := 0, cells := 0, slots := 0, locals := 0 }) (va_Pc [.ref (ad 2 p0), .ref (ad 1 i)] (q_B g s0 (n, ad, C))) (va_Qv (tX4_bringTo n ad C p0 i) (q_B g s0) (q_A s0)) 0 0 (q_A s0) := by
  refine Met.ofW (cc := cX4_bringTo) (maxL := 3) (ret := none) (by decide) rfl ?_
  intro p e s m args below meth c s₁ B hml hv
  obtain ⟨rfl, hv⟩ := hv
  have hr := B.returns
  have hlocks := B.notSynchronized
  obtain ⟨X, hP⟩ := q_start B.exec B.bytes hml (show s.vm.findClass RX4 = some m.cls from findClass_of_methodNamed B.named) (atoms_spec (ws := wsX4_bringTo) B.pre) hv
  have hP : q_P g s0 n ad C s.heap := hP
  have hS : va_S (q_A s0) s.heap s.heap [] := va_S.rf
  have in0 : ∀ w ∈ wsX00, w ∈ wsX4_bringTo := by decide +kernel
  have in1 : ∀ w ∈ wsX10, w ∈ wsX4_bringTo := by decide +kernel
  have in2 : ∀ w ∈ wsX20, w ∈ wsX4_bringTo := by decide +kernel
  have in3 : ∀ w ∈ wsX30, w ∈ wsX4_bringTo := by decide +kernel
  have hl := lv_entry ([.ref (ad 2 p0), .ref (ad 1 i)]) (n := 3) (Nat.le_of_ble_eq_true rfl)
  rw [lg_entry_eq]
  generalize (lg_sl ([.ref (ad 2 p0), .ref (ad 1 i)]) ++ List.replicate (3 - (lg_sl ([.ref (ad 2 p0), .ref (ad 1 i)])).length) Slot.unset).toArray = ls at hl ⊢
  have hl : lv_has ls 3 [(0, .ref (ad 2 p0)), (1, .ref (ad 1 i))] := hl
  refine lv_aload_n X.1 X.2.1 dX4_bringTo_0 rfl (lv_at hl 1 rfl) ?_
  refine q_get (index := 101) (v := .ref (ad 0 ((C 1 0 i - 1).toNat))) X hP 1 0 i rfl rfl (by decide) in1 hi (by decide) (by decide +kernel) (q_vnn ad 0 (c_jn hR i hi)) dX4_bringTo_1 ?_
  refine q_get (index := 215) (v := .ref (ad 3 ((C 0 1 ((C 1 0 i - 1).toNat) - 1).toNat))) X hP 0 1 ((C 1 0 i - 1).toNat) rfl rfl (by decide) in0 (q_rfl (hP.tok 1 0 i rfl) (c_jn hR i hi)) (by decide) (by decide +kernel) (q_vnn ad 3 (c_tn hR ((C 1 0 i - 1).toNat) (q_rfl (hP.tok 1 0 i rfl) (c_jn hR i hi)))) dX4_bringTo_4 ?_
  refine lv_astore_n (lv' := [(2, .ref (ad 3 ((C 0 1 ((C 1 0 i - 1).toNat) - 1).toNat))), (0, .ref (ad 2 p0)), (1, .ref (ad 1 i))]) X.1 X.2.1 dX4_bringTo_7 rfl hl (by decide) rfl (fun ls hl => ?_)
  refine lv_aload_n X.1 X.2.1 dX4_bringTo_8 rfl (lv_at hl 0 rfl) ?_
  refine q_get (index := 219) (v := .int (iI (C 3 0 ((C 0 1 ((C 1 0 i - 1).toNat) - 1).toNat)))) X hP 3 0 ((C 0 1 ((C 1 0 i - 1).toNat) - 1).toNat) rfl rfl (by decide) in3 (q_rfl (hP.tok 0 1 ((C 1 0 i - 1).toNat) rfl) (c_tn hR ((C 1 0 i - 1).toNat) (q_rfl (hP.tok 1 0 i rfl) (c_jn hR i hi)))) (by decide) (by decide +kernel) rfl dX4_bringTo_9 ?_
  refine lv_aload_n X.1 X.2.1 dX4_bringTo_12 rfl (lv_at hl 1 rfl) ?_
  refine q_get (index := 222) (v := .int (iI (C 2 2 p0))) X hP 2 2 p0 rfl rfl (by decide) in2 hp (by decide) (by decide +kernel) rfl dX4_bringTo_13 ?_
  refine q_icmp_eq (tgt := 45) X (hP.tok 3 0 ((C 0 1 ((C 1 0 i - 1).toNat) - 1).toNat) rfl) (hP.tok 2 2 p0 rfl) dX4_bringTo_16 (by decide) (fun h_1 => ?_) (fun h_1 => ?_)
  · refine lv_aload_n X.1 X.2.1 dX4_bringTo_45 rfl (lv_at hl 1 rfl) ?_
    refine lv_dup X.1 X.2.1 dX4_bringTo_46 rfl ?_
    refine q_get (index := 223) (v := .int (iI (C 2 3 p0))) X hP 2 3 p0 rfl rfl (by decide) in2 hp (by decide) (by decide +kernel) rfl dX4_bringTo_47 ?_
    have f_2 := c_R23 hR p0
    refine lv_iconst (v := iI (1)) X.1 X.2.1 dX4_bringTo_50 rfl ?_
    refine q_iadd X dX4_bringTo_51 ?_
    refine q_put (index := 223) (v := .int (iI ((C 2 3 p0) + (1)))) X hP hS 2 3 p0 (((C 2 3 p0) + (1))) rfl rfl (by decide) in2 tyX2 tyX2_ok nmX2 hp (by decide) (by decide +kernel) rfl rfl rfl rfl (show R32 _ from (by omega)) dX4_bringTo_52 (fun H locs hP hS => ?_)
    have hP : q_P g s0 n ad (q_up C 2 3 p0 (((C 2 3 p0) + (1)))) H := hP
    refine lv_aload_n X.1 X.2.1 dX4_bringTo_55 rfl (lv_at hl 2 rfl) ?_
    refine lv_iconst (v := iI (1)) X.1 X.2.1 dX4_bringTo_56 rfl ?_
    refine q_put (index := 119) (v := .int (iI (1))) X hP hS 1 3 i ((1)) rfl rfl (by decide) in1 tyX1 tyX1_ok nmX1 hi (by decide) (by decide +kernel) rfl rfl rfl rfl (show R32 _ from (by decide)) dX4_bringTo_57 (fun H locs hP hS => ?_)
    have hP : q_P g s0 n ad (q_up (q_up C 2 3 p0 (((C 2 3 p0) + (1)))) 1 3 i ((1))) H := hP
    refine lv_aload_n X.1 X.2.1 dX4_bringTo_60 rfl (lv_at hl 1 rfl) ?_
    refine lv_aload_n X.1 X.2.1 dX4_bringTo_61 rfl (lv_at hl 2 rfl) ?_
    refine q_put (index := 87) (v := .ref (ad 1 i)) X hP hS 2 4 p0 (((i : Nat) : Int) + 1) rfl rfl (by decide) in2 tyX2 tyX2_ok nmX2 hp (by decide) (by decide +kernel) rfl (q_v2 ad 1 i) rfl rfl (q_t2 hi) dX4_bringTo_62 (fun H locs hP hS => ?_)
    have hP : q_P g s0 n ad (q_up (q_up (q_up C 2 3 p0 (((C 2 3 p0) + (1)))) 1 3 i ((1))) 2 4 p0 (((i : Nat) : Int) + 1)) H := hP
    refine lv_aload_n X.1 X.2.1 dX4_bringTo_65 rfl (lv_at hl 1 rfl) ?_
    refine lv_iconst (v := iI (1)) X.1 X.2.1 dX4_bringTo_66 rfl ?_
    refine q_put (index := 226) (v := .int (iI (1))) X hP hS 2 5 p0 ((1)) rfl rfl (by decide) in2 tyX2 tyX2_ok nmX2 hp (by decide) (by decide +kernel) rfl rfl (q_zn (Or.inr rfl)) (q_zf (Or.inr rfl)) (Or.inr rfl) dX4_bringTo_67 (fun H locs hP hS => ?_)
    have hP : q_P g s0 n ad (q_up (q_up (q_up (q_up C 2 3 p0 (((C 2 3 p0) + (1)))) 1 3 i ((1))) 2 4 p0 (((i : Nat) : Int) + 1)) 2 5 p0 ((1))) H := hP
    exact q_vret X hr hlocks hP hS (Or.inl (⟨h_1, rfl⟩)) (Nat.le_of_ble_eq_true rfl) (Nat.le_of_ble_eq_true rfl) dX4_bringTo_70
  · refine lv_aload_n X.1 X.2.1 dX4_bringTo_19 rfl (lv_at hl 1 rfl) ?_
    refine lv_aload_n X.1 X.2.1 dX4_bringTo_20 rfl (lv_at hl 0 rfl) ?_
    refine q_get (index := 219) (v := .int (iI (C 3 0 ((C 0 1 ((C 1 0 i - 1).toNat) - 1).toNat)))) X hP 3 0 ((C 0 1 ((C 1 0 i - 1).toNat) - 1).toNat) rfl rfl (by decide) in3 (q_rfl (hP.tok 0 1 ((C 1 0 i - 1).toNat) rfl) (c_tn hR ((C 1 0 i - 1).toNat) (q_rfl (hP.tok 1 0 i rfl) (c_jn hR i hi)))) (by decide) (by decide +kernel) rfl dX4_bringTo_21 ?_
    refine q_put (index := 222) (v := .int (iI (C 3 0 ((C 0 1 ((C 1 0 i - 1).toNat) - 1).toNat)))) X hP hS 2 2 p0 ((C 3 0 ((C 0 1 ((C 1 0 i - 1).toNat) - 1).toNat))) rfl rfl (by decide) in2 tyX2 tyX2_ok nmX2 hp (by decide) (by decide +kernel) rfl rfl rfl rfl (show R32 _ from (hP.tok 3 0 ((C 0 1 ((C 1 0 i - 1).toNat) - 1).toNat) rfl)) dX4_bringTo_24 (fun H locs hP hS => ?_)
    have hP : q_P g s0 n ad (q_up C 2 2 p0 ((C 3 0 ((C 0 1 ((C 1 0 i - 1).toNat) - 1).toNat)))) H := hP
    refine lv_aload_n X.1 X.2.1 dX4_bringTo_27 rfl (lv_at hl 1 rfl) ?_
    refine lv_iconst (v := iI (0)) X.1 X.2.1 dX4_bringTo_28 rfl ?_
    refine q_put (index := 223) (v := .int (iI (0))) X hP hS 2 3 p0 ((0)) rfl rfl (by decide) in2 tyX2 tyX2_ok nmX2 hp (by decide) (by decide +kernel) rfl rfl rfl rfl (show R32 _ from (by decide)) dX4_bringTo_29 (fun H locs hP hS => ?_)
    have hP : q_P g s0 n ad (q_up (q_up C 2 2 p0 ((C 3 0 ((C 0 1 ((C 1 0 i - 1).toNat) - 1).toNat)))) 2 3 p0 ((0))) H := hP
    refine lv_aload_n X.1 X.2.1 dX4_bringTo_32 rfl (lv_at hl 0 rfl) ?_
    refine lv_dup X.1 X.2.1 dX4_bringTo_33 rfl ?_
    refine q_get (index := 175) (v := .long (jI (C 3 4 ((C 0 1 ((C 1 0 i - 1).toNat) - 1).toNat)))) X hP 3 4 ((C 0 1 ((C 1 0 i - 1).toNat) - 1).toNat) rfl rfl (by decide) in3 (q_rfl (hP.tok 0 1 ((C 1 0 i - 1).toNat) rfl) (c_tn hR ((C 1 0 i - 1).toNat) (q_rfl (hP.tok 1 0 i rfl) (c_jn hR i hi)))) (by decide) (by decide +kernel) rfl dX4_bringTo_34 ?_
    have f_3 := c_R3 hR 4 ((C 0 1 ((C 1 0 i - 1).toNat) - 1).toNat) (by decide) (by decide)
    refine lv_lconst (v := jI (1)) X.1 X.2.1 dX4_bringTo_37 (by decide) ?_
    refine q_ladd X dX4_bringTo_38 ?_
    refine q_put (index := 175) (v := .long (jI ((C 3 4 ((C 0 1 ((C 1 0 i - 1).toNat) - 1).toNat)) + (1)))) X hP hS 3 4 ((C 0 1 ((C 1 0 i - 1).toNat) - 1).toNat) (((C 3 4 ((C 0 1 ((C 1 0 i - 1).toNat) - 1).toNat)) + (1))) rfl rfl (by decide) in3 tyX3 tyX3_ok nmX3 (q_rfl (hP.tok 0 1 ((C 1 0 i - 1).toNat) rfl) (c_tn hR ((C 1 0 i - 1).toNat) (q_rfl (hP.tok 1 0 i rfl) (c_jn hR i hi)))) (by decide) (by decide +kernel) rfl rfl rfl rfl (show R64 _ from (by omega)) dX4_bringTo_39 (fun H locs hP hS => ?_)
    have hP : q_P g s0 n ad (q_up (q_up (q_up C 2 2 p0 ((C 3 0 ((C 0 1 ((C 1 0 i - 1).toNat) - 1).toNat)))) 2 3 p0 ((0))) 3 4 ((C 0 1 ((C 1 0 i - 1).toNat) - 1).toNat) (((C 3 4 ((C 0 1 ((C 1 0 i - 1).toNat) - 1).toNat)) + (1)))) H := hP
    refine lv_goto (tgt := 55) X.1 X.2.1 dX4_bringTo_42 (by decide) ?_
    refine lv_aload_n X.1 X.2.1 dX4_bringTo_55 rfl (lv_at hl 2 rfl) ?_
    refine lv_iconst (v := iI (1)) X.1 X.2.1 dX4_bringTo_56 rfl ?_
    refine q_put (index := 119) (v := .int (iI (1))) X hP hS 1 3 i ((1)) rfl rfl (by decide) in1 tyX1 tyX1_ok nmX1 hi (by decide) (by decide +kernel) rfl rfl rfl rfl (show R32 _ from (by decide)) dX4_bringTo_57 (fun H locs hP hS => ?_)
    have hP : q_P g s0 n ad (q_up (q_up (q_up (q_up C 2 2 p0 ((C 3 0 ((C 0 1 ((C 1 0 i - 1).toNat) - 1).toNat)))) 2 3 p0 ((0))) 3 4 ((C 0 1 ((C 1 0 i - 1).toNat) - 1).toNat) (((C 3 4 ((C 0 1 ((C 1 0 i - 1).toNat) - 1).toNat)) + (1)))) 1 3 i ((1))) H := hP
    refine lv_aload_n X.1 X.2.1 dX4_bringTo_60 rfl (lv_at hl 1 rfl) ?_
    refine lv_aload_n X.1 X.2.1 dX4_bringTo_61 rfl (lv_at hl 2 rfl) ?_
    refine q_put (index := 87) (v := .ref (ad 1 i)) X hP hS 2 4 p0 (((i : Nat) : Int) + 1) rfl rfl (by decide) in2 tyX2 tyX2_ok nmX2 hp (by decide) (by decide +kernel) rfl (q_v2 ad 1 i) rfl rfl (q_t2 hi) dX4_bringTo_62 (fun H locs hP hS => ?_)
    have hP : q_P g s0 n ad (q_up (q_up (q_up (q_up (q_up C 2 2 p0 ((C 3 0 ((C 0 1 ((C 1 0 i - 1).toNat) - 1).toNat)))) 2 3 p0 ((0))) 3 4 ((C 0 1 ((C 1 0 i - 1).toNat) - 1).toNat) (((C 3 4 ((C 0 1 ((C 1 0 i - 1).toNat) - 1).toNat)) + (1)))) 1 3 i ((1))) 2 4 p0 (((i : Nat) : Int) + 1)) H := hP
    refine lv_aload_n X.1 X.2.1 dX4_bringTo_65 rfl (lv_at hl 1 rfl) ?_
    refine lv_iconst (v := iI (1)) X.1 X.2.1 dX4_bringTo_66 rfl ?_
    refine q_put (index := 226) (v := .int (iI (1))) X hP hS 2 5 p0 ((1)) rfl rfl (by decide) in2 tyX2 tyX2_ok nmX2 hp (by decide) (by decide +kernel) rfl rfl (q_zn (Or.inr rfl)) (q_zf (Or.inr rfl)) (Or.inr rfl) dX4_bringTo_67 (fun H locs hP hS => ?_)
    have hP : q_P g s0 n ad (q_up (q_up (q_up (q_up (q_up (q_up C 2 2 p0 ((C 3 0 ((C 0 1 ((C 1 0 i - 1).toNat) - 1).toNat)))) 2 3 p0 ((0))) 3 4 ((C 0 1 ((C 1 0 i - 1).toNat) - 1).toNat) (((C 3 4 ((C 0 1 ((C 1 0 i - 1).toNat) - 1).toNat)) + (1)))) 1 3 i ((1))) 2 4 p0 (((i : Nat) : Int) + 1)) 2 5 p0 ((1))) H := hP
    exact q_vret X hr hlocks hP hS (Or.inr (⟨h_1, rfl⟩)) (Nat.le_of_ble_eq_true rfl) (Nat.le_of_ble_eq_true rfl) dX4_bringTo_70
set_option maxHeartbeats 4000000 in
set_option maxRecDepth 100000 in
theorem c_X4_sheetsOfTwoSides (l : Launch) (g : q_G) (s0 : Nat) (n : Nat → Nat) (ad : Nat → Nat → Nat) (C : q_S) (a b d : Int) (ha : 0 ≤ a ∧ a ≤ 1000) (hb : 0 ≤ b ∧ b ≤ 1000) (hd : d = 0 ∨ d = 1) : Met l yX4_sheetsOfTwoSides wsX4_sheetsOfTwoSides ({ frames := 0, cells := 0, slots := 0, locals := 0 }) (va_Pc [.int (iI a), .int (iI b), .int (iI d)] (q_B g s0 (n, ad, C))) (va_Qi (fun r u => u = (n, ad, C) ∧ r = iI (c_sh2 a b d)) (q_B g s0) (q_A s0)) 0 0 (q_A s0) := by
  refine Met.ofW (cc := cX4_sheetsOfTwoSides) (maxL := 5) (ret := (some .int)) (by decide) rfl ?_
  intro p e s m args below meth c s₁ B hml hv
  obtain ⟨rfl, hv⟩ := hv
  have hr := B.returns
  have hlocks := B.notSynchronized
  obtain ⟨X, hP⟩ := q_start B.exec B.bytes hml (show s.vm.findClass RX4 = some m.cls from findClass_of_methodNamed B.named) (atoms_spec (ws := wsX4_sheetsOfTwoSides) B.pre) hv
  have hP : q_P g s0 n ad C s.heap := hP
  have hS : va_S (q_A s0) s.heap s.heap [] := va_S.rf
  have hl := lv_entry ([.int (iI a), .int (iI b), .int (iI d)]) (n := 5) (Nat.le_of_ble_eq_true rfl)
  rw [lg_entry_eq]
  generalize (lg_sl ([.int (iI a), .int (iI b), .int (iI d)]) ++ List.replicate (5 - (lg_sl ([.int (iI a), .int (iI b), .int (iI d)])).length) Slot.unset).toArray = ls at hl ⊢
  have hl : lv_has ls 5 [(0, .int (iI a)), (1, .int (iI b)), (2, .int (iI d))] := hl
  refine lv_iload_n X.1 X.2.1 dX4_sheetsOfTwoSides_0 rfl (lv_at hl 0 rfl) ?_
  refine lv_iload_n X.1 X.2.1 dX4_sheetsOfTwoSides_1 rfl (lv_at hl 1 rfl) ?_
  refine q_iadd X dX4_sheetsOfTwoSides_2 ?_
  refine lv_iconst (v := iI (1)) X.1 X.2.1 dX4_sheetsOfTwoSides_3 rfl ?_
  refine q_iadd X dX4_sheetsOfTwoSides_4 ?_
  refine lv_iconst (v := iI (2)) X.1 X.2.1 dX4_sheetsOfTwoSides_5 rfl ?_
  refine q_idiv X (by omega) (by decide) dX4_sheetsOfTwoSides_6 ?_
  refine lv_iload_n X.1 X.2.1 dX4_sheetsOfTwoSides_7 rfl (lv_at hl 0 rfl) ?_
  refine lv_iconst (v := iI (1)) X.1 X.2.1 dX4_sheetsOfTwoSides_8 rfl ?_
  refine q_iadd X dX4_sheetsOfTwoSides_9 ?_
  refine lv_iconst (v := iI (2)) X.1 X.2.1 dX4_sheetsOfTwoSides_10 rfl ?_
  refine q_idiv X (by omega) (by decide) dX4_sheetsOfTwoSides_11 ?_
  refine q_isub X dX4_sheetsOfTwoSides_12 ?_
  refine lv_istore_n (lv' := [(3, .int (iI ((((a + b) + (1)) / (2)) - ((a + (1)) / (2))))), (0, .int (iI a)), (1, .int (iI b)), (2, .int (iI d))]) X.1 X.2.1 dX4_sheetsOfTwoSides_13 rfl hl (by decide) rfl (fun ls hl => ?_)
  refine lv_iload_n X.1 X.2.1 dX4_sheetsOfTwoSides_14 rfl (lv_at hl 1 rfl) ?_
  refine lv_iconst (v := iI (2)) X.1 X.2.1 dX4_sheetsOfTwoSides_15 rfl ?_
  refine q_irem X (by omega) (by decide) dX4_sheetsOfTwoSides_16 ?_
  refine lv_iconst (v := iI (1)) X.1 X.2.1 dX4_sheetsOfTwoSides_17 rfl ?_
  refine q_icmp_ne (tgt := 25) X (by omega) (by decide) dX4_sheetsOfTwoSides_18 (by decide) (fun h_1 => ?_) (fun h_1 => ?_)
  · refine lv_iconst (v := iI (0)) X.1 X.2.1 dX4_sheetsOfTwoSides_25 rfl ?_
    refine lv_istore (lv' := [(4, .int (iI (0))), (3, .int (iI ((((a + b) + (1)) / (2)) - ((a + (1)) / (2))))), (0, .int (iI a)), (1, .int (iI b)), (2, .int (iI d))]) X.1 X.2.1 dX4_sheetsOfTwoSides_26 hl (by decide) rfl (fun ls hl => ?_)
    refine lv_iload_n X.1 X.2.1 dX4_sheetsOfTwoSides_28 rfl (lv_at hl 4 rfl) ?_
    refine q_if_eq (tgt := 43) X (q_b32 hd) dX4_sheetsOfTwoSides_29 (by decide) (fun h_2 => ?_) (fun h_2 => ?_)
    · refine lv_iload_n X.1 X.2.1 dX4_sheetsOfTwoSides_43 rfl (lv_at hl 1 rfl) ?_
      exact q_iret X hr hlocks hP hS ⟨rfl, congrArg iI (by unfold c_sh2; first | (rw [if_pos ⟨by omega, by omega⟩]; done) | (rw [if_neg (fun q => by obtain ⟨q1, q2⟩ := q; omega)]; done))⟩ (Nat.le_of_ble_eq_true rfl) (Nat.le_of_ble_eq_true rfl) dX4_sheetsOfTwoSides_44
    · refine lv_iload X.1 X.2.1 dX4_sheetsOfTwoSides_32 (lv_at hl 0 rfl) ?_
      refine q_if_eq (tgt := 43) X (by decide) dX4_sheetsOfTwoSides_34 (by decide) (fun _ => ?_) (fun h => absurd h (by decide))
      refine lv_iload_n X.1 X.2.1 dX4_sheetsOfTwoSides_43 rfl (lv_at hl 1 rfl) ?_
      exact q_iret X hr hlocks hP hS ⟨rfl, congrArg iI (by unfold c_sh2; first | (rw [if_pos ⟨by omega, by omega⟩]; done) | (rw [if_neg (fun q => by obtain ⟨q1, q2⟩ := q; omega)]; done))⟩ (Nat.le_of_ble_eq_true rfl) (Nat.le_of_ble_eq_true rfl) dX4_sheetsOfTwoSides_44
  · refine lv_iconst (v := iI (1)) X.1 X.2.1 dX4_sheetsOfTwoSides_21 rfl ?_
    refine lv_goto (tgt := 26) X.1 X.2.1 dX4_sheetsOfTwoSides_22 (by decide) ?_
    refine lv_istore (lv' := [(4, .int (iI (1))), (3, .int (iI ((((a + b) + (1)) / (2)) - ((a + (1)) / (2))))), (0, .int (iI a)), (1, .int (iI b)), (2, .int (iI d))]) X.1 X.2.1 dX4_sheetsOfTwoSides_26 hl (by decide) rfl (fun ls hl => ?_)
    refine lv_iload_n X.1 X.2.1 dX4_sheetsOfTwoSides_28 rfl (lv_at hl 4 rfl) ?_
    refine q_if_eq (tgt := 43) X (q_b32 hd) dX4_sheetsOfTwoSides_29 (by decide) (fun h_4 => ?_) (fun h_4 => ?_)
    · refine lv_iload_n X.1 X.2.1 dX4_sheetsOfTwoSides_43 rfl (lv_at hl 1 rfl) ?_
      exact q_iret X hr hlocks hP hS ⟨rfl, congrArg iI (by unfold c_sh2; first | (rw [if_pos ⟨by omega, by omega⟩]; done) | (rw [if_neg (fun q => by obtain ⟨q1, q2⟩ := q; omega)]; done))⟩ (Nat.le_of_ble_eq_true rfl) (Nat.le_of_ble_eq_true rfl) dX4_sheetsOfTwoSides_44
    · refine lv_iload X.1 X.2.1 dX4_sheetsOfTwoSides_32 (lv_at hl 0 rfl) ?_
      refine q_if_eq (tgt := 43) X (by decide) dX4_sheetsOfTwoSides_34 (by decide) (fun h => absurd h (by decide)) (fun _ => ?_)
      refine lv_iload_n X.1 X.2.1 dX4_sheetsOfTwoSides_37 rfl (lv_at hl 1 rfl) ?_
      refine lv_iconst (v := iI (1)) X.1 X.2.1 dX4_sheetsOfTwoSides_38 rfl ?_
      refine q_iadd X dX4_sheetsOfTwoSides_39 ?_
      refine lv_goto (tgt := 44) X.1 X.2.1 dX4_sheetsOfTwoSides_40 (by decide) ?_
      exact q_iret X hr hlocks hP hS ⟨rfl, congrArg iI (by unfold c_sh2; first | (rw [if_pos ⟨by omega, by omega⟩]; done) | (rw [if_neg (fun q => by obtain ⟨q1, q2⟩ := q; omega)]; done))⟩ (Nat.le_of_ble_eq_true rfl) (Nat.le_of_ble_eq_true rfl) dX4_sheetsOfTwoSides_44
def tX4_doubleLastPage (n : Nat → Nat) (ad : Nat → Nat → Nat) (C : q_S) (i : Nat) (u : q_U) : Prop :=
  (((256) ≤ (C 4 8 0)) ∧ u = (n, ad, q_up (q_up C 1 5 i (((C 1 5 i) - (1)))) 3 5 ((C 0 1 ((C 1 0 i - 1).toNat) - 1).toNat) (((C 3 5 ((C 0 1 ((C 1 0 i - 1).toNat) - 1).toNat)) + (1))))) ∨
  (((C 4 8 0) < (256)) ∧ u = (n, ad, q_up (q_up (q_up (q_up (q_up C 9 (((C 4 8 0)).toNat) 0 ((C 0 0 ((C 1 0 i - 1).toNat)))) 10 (((C 4 8 0)).toNat) 0 ((((1000) * ((C 1 4 i) + (1))) + (C 1 5 i)))) 4 8 0 (((C 4 8 0) + (1)))) 1 5 i (((C 1 5 i) - (1)))) 3 5 ((C 0 1 ((C 1 0 i - 1).toNat) - 1).toNat) (((C 3 5 ((C 0 1 ((C 1 0 i - 1).toNat) - 1).toNat)) + (1)))))
set_option maxHeartbeats 4000000 in
set_option maxRecDepth 100000 in
theorem c_X4_doubleLastPage (l : Launch) (g : q_G) (s0 : Nat) (n : Nat → Nat) (ad : Nat → Nat → Nat) (C : q_S) (c0 : Nat) (hC : c_S C n) (hR : c_R C n c0) (hc0 : c0 ≤ 600) (i : Nat) (hi : i < n 1) : Met l yX4_doubleLastPage wsX4_doubleLastPage ({ frames := 0, cells := 0, slots := 0, locals := 0 }) (va_Pc [.ref (ad 4 0), .ref (ad 1 i)] (q_B g s0 (n, ad, C))) (va_Qv (tX4_doubleLastPage n ad C i) (q_B g s0) (q_A s0)) 0 0 (q_A s0) := by
  refine Met.ofW (cc := cX4_doubleLastPage) (maxL := 2) (ret := none) (by decide) rfl ?_
  intro p e s m args below meth c s₁ B hml hv
  obtain ⟨rfl, hv⟩ := hv
  have hr := B.returns
  have hlocks := B.notSynchronized
  obtain ⟨X, hP⟩ := q_start B.exec B.bytes hml (show s.vm.findClass RX4 = some m.cls from findClass_of_methodNamed B.named) (atoms_spec (ws := wsX4_doubleLastPage) B.pre) hv
  have hP : q_P g s0 n ad C s.heap := hP
  have hS : va_S (q_A s0) s.heap s.heap [] := va_S.rf
  have in0 : ∀ w ∈ wsX00, w ∈ wsX4_doubleLastPage := by decide +kernel
  have in1 : ∀ w ∈ wsX10, w ∈ wsX4_doubleLastPage := by decide +kernel
  have in3 : ∀ w ∈ wsX30, w ∈ wsX4_doubleLastPage := by decide +kernel
  have in4 : ∀ w ∈ wsX40, w ∈ wsX4_doubleLastPage := by decide +kernel
  have hl := lv_entry ([.ref (ad 4 0), .ref (ad 1 i)]) (n := 2) (Nat.le_of_ble_eq_true rfl)
  rw [lg_entry_eq]
  generalize (lg_sl ([.ref (ad 4 0), .ref (ad 1 i)]) ++ List.replicate (2 - (lg_sl ([.ref (ad 4 0), .ref (ad 1 i)])).length) Slot.unset).toArray = ls at hl ⊢
  have hl : lv_has ls 2 [(0, .ref (ad 4 0)), (1, .ref (ad 1 i))] := hl
  refine lv_aload_n X.1 X.2.1 dX4_doubleLastPage_0 rfl (lv_at hl 0 rfl) ?_
  refine q_get (index := 166) (v := .int (iI (C 4 8 0))) X hP 4 8 0 rfl rfl (by decide) in4 (c_v4 hC) (by decide) (by decide +kernel) rfl dX4_doubleLastPage_1 ?_
  have f_1 := c_Rd hR
  refine lv_sipush (v := iI (256)) X.1 X.2.1 dX4_doubleLastPage_4 (by decide) ?_
  refine q_icmp_ge (tgt := 60) X (hP.tok 4 8 0 rfl) (by decide) dX4_doubleLastPage_7 (by decide) (fun h_2 => ?_) (fun h_2 => ?_)
  · refine lv_aload_n X.1 X.2.1 dX4_doubleLastPage_60 rfl (lv_at hl 1 rfl) ?_
    refine lv_dup X.1 X.2.1 dX4_doubleLastPage_61 rfl ?_
    refine q_get (index := 122) (v := .int (iI (C 1 5 i))) X hP 1 5 i rfl rfl (by decide) in1 hi (by decide) (by decide +kernel) rfl dX4_doubleLastPage_62 ?_
    have f_3 := c_R15 hR i
    refine lv_iconst (v := iI (1)) X.1 X.2.1 dX4_doubleLastPage_65 rfl ?_
    refine q_isub X dX4_doubleLastPage_66 ?_
    refine q_put (index := 122) (v := .int (iI ((C 1 5 i) - (1)))) X hP hS 1 5 i (((C 1 5 i) - (1))) rfl rfl (by decide) in1 tyX1 tyX1_ok nmX1 hi (by decide) (by decide +kernel) rfl rfl rfl rfl (show R32 _ from (by omega)) dX4_doubleLastPage_67 (fun H locs hP hS => ?_)
    have hP : q_P g s0 n ad (q_up C 1 5 i (((C 1 5 i) - (1)))) H := hP
    refine lv_aload_n X.1 X.2.1 dX4_doubleLastPage_70 rfl (lv_at hl 1 rfl) ?_
    refine q_get (index := 101) (v := .ref (ad 0 ((C 1 0 i - 1).toNat))) X hP 1 0 i rfl rfl (by decide) in1 hi (by decide) (by decide +kernel) (q_vnn ad 0 (c_jn hR i hi)) dX4_doubleLastPage_71 ?_
    refine q_get (index := 215) (v := .ref (ad 3 ((C 0 1 ((C 1 0 i - 1).toNat) - 1).toNat))) X hP 0 1 ((C 1 0 i - 1).toNat) rfl rfl (by decide) in0 (q_rfl (hP.tok 1 0 i rfl) (c_jn hR i hi)) (by decide) (by decide +kernel) (q_vnn ad 3 (c_tn hR ((C 1 0 i - 1).toNat) (q_rfl (hP.tok 1 0 i rfl) (c_jn hR i hi)))) dX4_doubleLastPage_74 ?_
    refine lv_dup X.1 X.2.1 dX4_doubleLastPage_77 rfl ?_
    refine q_get (index := 178) (v := .long (jI (C 3 5 ((C 0 1 ((C 1 0 i - 1).toNat) - 1).toNat)))) X hP 3 5 ((C 0 1 ((C 1 0 i - 1).toNat) - 1).toNat) rfl rfl (by decide) in3 (q_rfl (hP.tok 0 1 ((C 1 0 i - 1).toNat) rfl) (c_tn hR ((C 1 0 i - 1).toNat) (q_rfl (hP.tok 1 0 i rfl) (c_jn hR i hi)))) (by decide) (by decide +kernel) rfl dX4_doubleLastPage_78 ?_
    have f_4 := c_R3 hR 5 ((C 0 1 ((C 1 0 i - 1).toNat) - 1).toNat) (by decide) (by decide)
    refine lv_lconst (v := jI (1)) X.1 X.2.1 dX4_doubleLastPage_81 (by decide) ?_
    refine q_ladd X dX4_doubleLastPage_82 ?_
    refine q_put (index := 178) (v := .long (jI ((C 3 5 ((C 0 1 ((C 1 0 i - 1).toNat) - 1).toNat)) + (1)))) X hP hS 3 5 ((C 0 1 ((C 1 0 i - 1).toNat) - 1).toNat) (((C 3 5 ((C 0 1 ((C 1 0 i - 1).toNat) - 1).toNat)) + (1))) rfl rfl (by decide) in3 tyX3 tyX3_ok nmX3 (q_rfl (hP.tok 0 1 ((C 1 0 i - 1).toNat) rfl) (c_tn hR ((C 1 0 i - 1).toNat) (q_rfl (hP.tok 1 0 i rfl) (c_jn hR i hi)))) (by decide) (by decide +kernel) rfl rfl rfl rfl (show R64 _ from (by omega)) dX4_doubleLastPage_83 (fun H locs hP hS => ?_)
    have hP : q_P g s0 n ad (q_up (q_up C 1 5 i (((C 1 5 i) - (1)))) 3 5 ((C 0 1 ((C 1 0 i - 1).toNat) - 1).toNat) (((C 3 5 ((C 0 1 ((C 1 0 i - 1).toNat) - 1).toNat)) + (1)))) H := hP
    exact q_vret X hr hlocks hP hS (Or.inl (⟨h_2, rfl⟩)) (Nat.le_of_ble_eq_true rfl) (Nat.le_of_ble_eq_true rfl) dX4_doubleLastPage_86
  · refine lv_aload_n X.1 X.2.1 dX4_doubleLastPage_10 rfl (lv_at hl 0 rfl) ?_
    refine q_get (index := 27) (v := .ref (ad 9 0)) X hP 4 6 0 rfl rfl (by decide) in4 (c_v4 hC) (by decide) (by decide +kernel) (c_r hC ad 6 9 (by decide)) dX4_doubleLastPage_11 ?_
    refine lv_aload_n X.1 X.2.1 dX4_doubleLastPage_14 rfl (lv_at hl 0 rfl) ?_
    refine q_get (index := 166) (v := .int (iI (C 4 8 0))) X hP 4 8 0 rfl rfl (by decide) in4 (c_v4 hC) (by decide) (by decide +kernel) rfl dX4_doubleLastPage_15 ?_
    refine lv_aload_n X.1 X.2.1 dX4_doubleLastPage_18 rfl (lv_at hl 1 rfl) ?_
    refine q_get (index := 101) (v := .ref (ad 0 ((C 1 0 i - 1).toNat))) X hP 1 0 i rfl rfl (by decide) in1 hi (by decide) (by decide +kernel) (q_vnn ad 0 (c_jn hR i hi)) dX4_doubleLastPage_19 ?_
    refine q_get (index := 105) (v := .int (iI (C 0 0 ((C 1 0 i - 1).toNat)))) X hP 0 0 ((C 1 0 i - 1).toNat) rfl rfl (by decide) in0 (q_rfl (hP.tok 1 0 i rfl) (c_jn hR i hi)) (by decide) (by decide +kernel) rfl dX4_doubleLastPage_22 ?_
    refine q_istv (len := 256) (x := (C 0 0 ((C 1 0 i - 1).toNat))) (z := (C 4 8 0)) X hP hS 9 0 (by decide) rfl rfl (c_va hC 6 9 (by decide)) rfl (by omega) (by omega) (hP.tok 0 0 ((C 1 0 i - 1).toNat) rfl) dX4_doubleLastPage_25 (fun H locs hP hS => ?_)
    have hP : q_P g s0 n ad (q_up C 9 (((C 4 8 0)).toNat) 0 ((C 0 0 ((C 1 0 i - 1).toNat)))) H := hP
    refine lv_aload_n X.1 X.2.1 dX4_doubleLastPage_26 rfl (lv_at hl 0 rfl) ?_
    refine q_get (index := 31) (v := .ref (ad 10 0)) X hP 4 7 0 rfl rfl (by decide) in4 (c_v4 hC) (by decide) (by decide +kernel) (c_r hC ad 7 10 (by decide)) dX4_doubleLastPage_27 ?_
    refine lv_aload_n X.1 X.2.1 dX4_doubleLastPage_30 rfl (lv_at hl 0 rfl) ?_
    refine q_get (index := 166) (v := .int (iI (C 4 8 0))) X hP 4 8 0 rfl rfl (by decide) in4 (c_v4 hC) (by decide) (by decide +kernel) rfl dX4_doubleLastPage_31 ?_
    refine lv_sipush (v := iI (1000)) X.1 X.2.1 dX4_doubleLastPage_34 (by decide) ?_
    refine lv_aload_n X.1 X.2.1 dX4_doubleLastPage_37 rfl (lv_at hl 1 rfl) ?_
    refine q_get (index := 109) (v := .int (iI (C 1 4 i))) X hP 1 4 i rfl rfl (by decide) in1 hi (by decide) (by decide +kernel) rfl dX4_doubleLastPage_38 ?_
    have f_5 := c_R14 hR i
    refine lv_iconst (v := iI (1)) X.1 X.2.1 dX4_doubleLastPage_41 rfl ?_
    refine q_iadd X dX4_doubleLastPage_42 ?_
    refine q_imul X dX4_doubleLastPage_43 ?_
    refine lv_aload_n X.1 X.2.1 dX4_doubleLastPage_44 rfl (lv_at hl 1 rfl) ?_
    refine q_get (index := 122) (v := .int (iI (C 1 5 i))) X hP 1 5 i rfl rfl (by decide) in1 hi (by decide) (by decide +kernel) rfl dX4_doubleLastPage_45 ?_
    have f_6 := c_R15 hR i
    refine q_iadd X dX4_doubleLastPage_48 ?_
    refine q_istv (len := 256) (x := (((1000) * ((C 1 4 i) + (1))) + (C 1 5 i))) (z := (C 4 8 0)) X hP hS 10 0 (by decide) rfl rfl (c_va hC 7 10 (by decide)) rfl (by omega) (by omega) (by omega) dX4_doubleLastPage_49 (fun H locs hP hS => ?_)
    have hP : q_P g s0 n ad (q_up (q_up C 9 (((C 4 8 0)).toNat) 0 ((C 0 0 ((C 1 0 i - 1).toNat)))) 10 (((C 4 8 0)).toNat) 0 ((((1000) * ((C 1 4 i) + (1))) + (C 1 5 i)))) H := hP
    refine lv_aload_n X.1 X.2.1 dX4_doubleLastPage_50 rfl (lv_at hl 0 rfl) ?_
    refine lv_dup X.1 X.2.1 dX4_doubleLastPage_51 rfl ?_
    refine q_get (index := 166) (v := .int (iI (C 4 8 0))) X hP 4 8 0 rfl rfl (by decide) in4 (c_v4 hC) (by decide) (by decide +kernel) rfl dX4_doubleLastPage_52 ?_
    refine lv_iconst (v := iI (1)) X.1 X.2.1 dX4_doubleLastPage_55 rfl ?_
    refine q_iadd X dX4_doubleLastPage_56 ?_
    refine q_put (index := 166) (v := .int (iI ((C 4 8 0) + (1)))) X hP hS 4 8 0 (((C 4 8 0) + (1))) rfl rfl (by decide) in4 tyX4 tyX4_ok nmX4 (c_v4 hC) (by decide) (by decide +kernel) rfl rfl rfl rfl (show R32 _ from (by omega)) dX4_doubleLastPage_57 (fun H locs hP hS => ?_)
    have hP : q_P g s0 n ad (q_up (q_up (q_up C 9 (((C 4 8 0)).toNat) 0 ((C 0 0 ((C 1 0 i - 1).toNat)))) 10 (((C 4 8 0)).toNat) 0 ((((1000) * ((C 1 4 i) + (1))) + (C 1 5 i)))) 4 8 0 (((C 4 8 0) + (1)))) H := hP
    refine lv_aload_n X.1 X.2.1 dX4_doubleLastPage_60 rfl (lv_at hl 1 rfl) ?_
    refine lv_dup X.1 X.2.1 dX4_doubleLastPage_61 rfl ?_
    refine q_get (index := 122) (v := .int (iI (C 1 5 i))) X hP 1 5 i rfl rfl (by decide) in1 hi (by decide) (by decide +kernel) rfl dX4_doubleLastPage_62 ?_
    refine lv_iconst (v := iI (1)) X.1 X.2.1 dX4_doubleLastPage_65 rfl ?_
    refine q_isub X dX4_doubleLastPage_66 ?_
    refine q_put (index := 122) (v := .int (iI ((C 1 5 i) - (1)))) X hP hS 1 5 i (((C 1 5 i) - (1))) rfl rfl (by decide) in1 tyX1 tyX1_ok nmX1 hi (by decide) (by decide +kernel) rfl rfl rfl rfl (show R32 _ from (by omega)) dX4_doubleLastPage_67 (fun H locs hP hS => ?_)
    have hP : q_P g s0 n ad (q_up (q_up (q_up (q_up C 9 (((C 4 8 0)).toNat) 0 ((C 0 0 ((C 1 0 i - 1).toNat)))) 10 (((C 4 8 0)).toNat) 0 ((((1000) * ((C 1 4 i) + (1))) + (C 1 5 i)))) 4 8 0 (((C 4 8 0) + (1)))) 1 5 i (((C 1 5 i) - (1)))) H := hP
    refine lv_aload_n X.1 X.2.1 dX4_doubleLastPage_70 rfl (lv_at hl 1 rfl) ?_
    refine q_get (index := 101) (v := .ref (ad 0 ((C 1 0 i - 1).toNat))) X hP 1 0 i rfl rfl (by decide) in1 hi (by decide) (by decide +kernel) (q_vnn ad 0 (c_jn hR i hi)) dX4_doubleLastPage_71 ?_
    refine q_get (index := 215) (v := .ref (ad 3 ((C 0 1 ((C 1 0 i - 1).toNat) - 1).toNat))) X hP 0 1 ((C 1 0 i - 1).toNat) rfl rfl (by decide) in0 (q_rfl (hP.tok 1 0 i rfl) (c_jn hR i hi)) (by decide) (by decide +kernel) (q_vnn ad 3 (c_tn hR ((C 1 0 i - 1).toNat) (q_rfl (hP.tok 1 0 i rfl) (c_jn hR i hi)))) dX4_doubleLastPage_74 ?_
    refine lv_dup X.1 X.2.1 dX4_doubleLastPage_77 rfl ?_
    refine q_get (index := 178) (v := .long (jI (C 3 5 ((C 0 1 ((C 1 0 i - 1).toNat) - 1).toNat)))) X hP 3 5 ((C 0 1 ((C 1 0 i - 1).toNat) - 1).toNat) rfl rfl (by decide) in3 (q_rfl (hP.tok 0 1 ((C 1 0 i - 1).toNat) rfl) (c_tn hR ((C 1 0 i - 1).toNat) (q_rfl (hP.tok 1 0 i rfl) (c_jn hR i hi)))) (by decide) (by decide +kernel) rfl dX4_doubleLastPage_78 ?_
    have f_7 := c_R3 hR 5 ((C 0 1 ((C 1 0 i - 1).toNat) - 1).toNat) (by decide) (by decide)
    refine lv_lconst (v := jI (1)) X.1 X.2.1 dX4_doubleLastPage_81 (by decide) ?_
    refine q_ladd X dX4_doubleLastPage_82 ?_
    refine q_put (index := 178) (v := .long (jI ((C 3 5 ((C 0 1 ((C 1 0 i - 1).toNat) - 1).toNat)) + (1)))) X hP hS 3 5 ((C 0 1 ((C 1 0 i - 1).toNat) - 1).toNat) (((C 3 5 ((C 0 1 ((C 1 0 i - 1).toNat) - 1).toNat)) + (1))) rfl rfl (by decide) in3 tyX3 tyX3_ok nmX3 (q_rfl (hP.tok 0 1 ((C 1 0 i - 1).toNat) rfl) (c_tn hR ((C 1 0 i - 1).toNat) (q_rfl (hP.tok 1 0 i rfl) (c_jn hR i hi)))) (by decide) (by decide +kernel) rfl rfl rfl rfl (show R64 _ from (by omega)) dX4_doubleLastPage_83 (fun H locs hP hS => ?_)
    have hP : q_P g s0 n ad (q_up (q_up (q_up (q_up (q_up C 9 (((C 4 8 0)).toNat) 0 ((C 0 0 ((C 1 0 i - 1).toNat)))) 10 (((C 4 8 0)).toNat) 0 ((((1000) * ((C 1 4 i) + (1))) + (C 1 5 i)))) 4 8 0 (((C 4 8 0) + (1)))) 1 5 i (((C 1 5 i) - (1)))) 3 5 ((C 0 1 ((C 1 0 i - 1).toNat) - 1).toNat) (((C 3 5 ((C 0 1 ((C 1 0 i - 1).toNat) - 1).toNat)) + (1)))) H := hP
    exact q_vret X hr hlocks hP hS (Or.inr (⟨h_2, rfl⟩)) (Nat.le_of_ble_eq_true rfl) (Nat.le_of_ble_eq_true rfl) dX4_doubleLastPage_86
def tX0_init (n : Nat → Nat) (ad : Nat → Nat → Nat) (C : q_S) (i z : Nat) (a b d y : Int) (u : q_U) : Prop :=
  (u = (n, ad, q_up (q_up (q_up (q_up (q_up C 0 0 i a) 0 1 i (((z : Nat) : Int) + 1)) 0 2 i b) 0 3 i d) 0 4 i y))
set_option maxHeartbeats 4000000 in
set_option maxRecDepth 100000 in
theorem c_X0_init (l : Launch) (g : q_G) (s0 : Nat) (n : Nat → Nat) (ad : Nat → Nat → Nat) (C : q_S) (i : Nat) (hi : i < n 0) (z : Nat) (hz : z < n 3) (a b d y : Int) (ha : R32 a) (hb : R32 b) (hd : R32 d) (hy : R64 y) : Met l yX0_init wsX0_init ({ frames := 1, cells := 0, slots := 0, locals := 24 }) (va_Pc [.ref (ad 0 i), .int (iI a), .ref (ad 3 z), .int (iI b), .int (iI d), .long (jI y)] (q_B g s0 (n, ad, C))) (va_Qv (tX0_init n ad C i z a b d y) (q_B g s0) (q_A s0)) 0 0 (q_A s0) := by
  refine Met.ofW (cc := cX0_init) (maxL := 7) (ret := none) (by decide) rfl ?_
  intro p e s m args below meth c s₁ B hml hv
  obtain ⟨rfl, hv⟩ := hv
  have hr := B.returns
  have hlocks := B.notSynchronized
  have hin : meth.name = "<init>" := (name_of_methodNamed B.named B.method).1
  obtain ⟨X, hP⟩ := q_start B.exec B.bytes hml (show s.vm.findClass RX0 = some m.cls from findClass_of_methodNamed B.named) (atoms_spec (ws := wsX0_init) B.pre) hv
  have hP : q_P g s0 n ad C s.heap := hP
  have hS : va_S (q_A s0) s.heap s.heap [] := va_S.rf
  have in0 : ∀ w ∈ wsX00, w ∈ wsX0_init := by decide +kernel
  have hl := lv_entry ([.ref (ad 0 i), .int (iI a), .ref (ad 3 z), .int (iI b), .int (iI d), .long (jI y)]) (n := 7) (Nat.le_of_ble_eq_true rfl)
  rw [lg_entry_eq]
  generalize (lg_sl ([.ref (ad 0 i), .int (iI a), .ref (ad 3 z), .int (iI b), .int (iI d), .long (jI y)]) ++ List.replicate (7 - (lg_sl ([.ref (ad 0 i), .int (iI a), .ref (ad 3 z), .int (iI b), .int (iI d), .long (jI y)])).length) Slot.unset).toArray = ls at hl ⊢
  have hl : lv_has ls 7 [(0, .ref (ad 0 i)), (1, .int (iI a)), (2, .ref (ad 3 z)), (3, .int (iI b)), (4, .int (iI d)), (5, .long (jI y))] := hl
  refine lv_aload_n X.1 X.2.1 dX0_init_0 rfl (lv_at hl 0 rfl) ?_
  refine W.objInit X.1 X.2.1 X.2.2.2.1 (X.2.2.2.2.1 (.methodLink RX0 3 objectInit) (by decide +kernel)) (X.2.2.2.2.1 (.instanceMethod objectInit) (by decide +kernel)) (X.2.2.2.2.1 (.code objectInit ⟨#[0xb1]⟩ 1 none) (by decide +kernel)) rfl (by rw [X.2.2.1]; exact hl.1) rfl dX0_init_1 (Nat.le_of_ble_eq_true rfl) (Nat.le_of_ble_eq_true rfl) ?_
  refine W.eq (g2 := F0 m 4 ls []) rfl ?_
  refine lv_aload_n X.1 X.2.1 dX0_init_4 rfl (lv_at hl 0 rfl) ?_
  refine lv_iload_n X.1 X.2.1 dX0_init_5 rfl (lv_at hl 1 rfl) ?_
  refine q_putF (index := 9) (v := .int (iI a)) X hP hS 0 0 i a rfl rfl (by decide) in0 tyX0 tyX0_ok nmX0 hi (by decide) (by decide +kernel) rfl hin rfl rfl rfl rfl (show R32 _ from ha) dX0_init_6 (fun H locs hP hS => ?_)
  have hP : q_P g s0 n ad (q_up C 0 0 i a) H := hP
  refine lv_aload_n X.1 X.2.1 dX0_init_9 rfl (lv_at hl 0 rfl) ?_
  refine lv_aload_n X.1 X.2.1 dX0_init_10 rfl (lv_at hl 2 rfl) ?_
  refine q_putF (index := 15) (v := .ref (ad 3 z)) X hP hS 0 1 i (((z : Nat) : Int) + 1) rfl rfl (by decide) in0 tyX0 tyX0_ok nmX0 hi (by decide) (by decide +kernel) rfl hin rfl (q_v2 ad 3 z) rfl rfl (q_t2 hz) dX0_init_11 (fun H locs hP hS => ?_)
  have hP : q_P g s0 n ad (q_up (q_up C 0 0 i a) 0 1 i (((z : Nat) : Int) + 1)) H := hP
  refine lv_aload_n X.1 X.2.1 dX0_init_14 rfl (lv_at hl 0 rfl) ?_
  refine lv_iload_n X.1 X.2.1 dX0_init_15 rfl (lv_at hl 3 rfl) ?_
  refine q_putF (index := 19) (v := .int (iI b)) X hP hS 0 2 i b rfl rfl (by decide) in0 tyX0 tyX0_ok nmX0 hi (by decide) (by decide +kernel) rfl hin rfl rfl rfl rfl (show R32 _ from hb) dX0_init_16 (fun H locs hP hS => ?_)
  have hP : q_P g s0 n ad (q_up (q_up (q_up C 0 0 i a) 0 1 i (((z : Nat) : Int) + 1)) 0 2 i b) H := hP
  refine lv_aload_n X.1 X.2.1 dX0_init_19 rfl (lv_at hl 0 rfl) ?_
  refine lv_iload X.1 X.2.1 dX0_init_20 (lv_at hl 4 rfl) ?_
  refine q_putF (index := 22) (v := .int (iI d)) X hP hS 0 3 i d rfl rfl (by decide) in0 tyX0 tyX0_ok nmX0 hi (by decide) (by decide +kernel) rfl hin rfl rfl rfl rfl (show R32 _ from hd) dX0_init_22 (fun H locs hP hS => ?_)
  have hP : q_P g s0 n ad (q_up (q_up (q_up (q_up C 0 0 i a) 0 1 i (((z : Nat) : Int) + 1)) 0 2 i b) 0 3 i d) H := hP
  refine lv_aload_n X.1 X.2.1 dX0_init_25 rfl (lv_at hl 0 rfl) ?_
  refine lv_lload X.1 X.2.1 dX0_init_26 (lv_at hl 5 rfl) ?_
  refine q_putF (index := 25) (v := .long (jI y)) X hP hS 0 4 i y rfl rfl (by decide) in0 tyX0 tyX0_ok nmX0 hi (by decide) (by decide +kernel) rfl hin rfl rfl rfl rfl (show R64 _ from hy) dX0_init_28 (fun H locs hP hS => ?_)
  have hP : q_P g s0 n ad (q_up (q_up (q_up (q_up (q_up C 0 0 i a) 0 1 i (((z : Nat) : Int) + 1)) 0 2 i b) 0 3 i d) 0 4 i y) H := hP
  exact q_vret X hr hlocks hP hS (rfl) (Nat.le_of_ble_eq_true rfl) (Nat.le_of_ble_eq_true rfl) dX0_init_31
def tX1_init (n : Nat → Nat) (ad : Nat → Nat → Nat) (C : q_S) (i j : Nat) (a b : Int) (u : q_U) : Prop :=
  (u = (n, ad, q_up (q_up (q_up C 1 0 i (((j : Nat) : Int) + 1)) 1 1 i a) 1 2 i b))
set_option maxHeartbeats 4000000 in
set_option maxRecDepth 100000 in
theorem c_X1_init (l : Launch) (g : q_G) (s0 : Nat) (n : Nat → Nat) (ad : Nat → Nat → Nat) (C : q_S) (i : Nat) (hi : i < n 1) (j : Nat) (hj : j < n 0) (a b : Int) (ha : R32 a) (hb : R32 b) : Met l yX1_init wsX1_init ({ frames := 1, cells := 0, slots := 0, locals := 24 }) (va_Pc [.ref (ad 1 i), .ref (ad 0 j), .int (iI a), .int (iI b)] (q_B g s0 (n, ad, C))) (va_Qv (tX1_init n ad C i j a b) (q_B g s0) (q_A s0)) 0 0 (q_A s0) := by
  refine Met.ofW (cc := cX1_init) (maxL := 4) (ret := none) (by decide) rfl ?_
  intro p e s m args below meth c s₁ B hml hv
  obtain ⟨rfl, hv⟩ := hv
  have hr := B.returns
  have hlocks := B.notSynchronized
  have hin : meth.name = "<init>" := (name_of_methodNamed B.named B.method).1
  obtain ⟨X, hP⟩ := q_start B.exec B.bytes hml (show s.vm.findClass RX1 = some m.cls from findClass_of_methodNamed B.named) (atoms_spec (ws := wsX1_init) B.pre) hv
  have hP : q_P g s0 n ad C s.heap := hP
  have hS : va_S (q_A s0) s.heap s.heap [] := va_S.rf
  have in1 : ∀ w ∈ wsX10, w ∈ wsX1_init := by decide +kernel
  have hl := lv_entry ([.ref (ad 1 i), .ref (ad 0 j), .int (iI a), .int (iI b)]) (n := 4) (Nat.le_of_ble_eq_true rfl)
  rw [lg_entry_eq]
  generalize (lg_sl ([.ref (ad 1 i), .ref (ad 0 j), .int (iI a), .int (iI b)]) ++ List.replicate (4 - (lg_sl ([.ref (ad 1 i), .ref (ad 0 j), .int (iI a), .int (iI b)])).length) Slot.unset).toArray = ls at hl ⊢
  have hl : lv_has ls 4 [(0, .ref (ad 1 i)), (1, .ref (ad 0 j)), (2, .int (iI a)), (3, .int (iI b))] := hl
  refine lv_aload_n X.1 X.2.1 dX1_init_0 rfl (lv_at hl 0 rfl) ?_
  refine W.objInit X.1 X.2.1 X.2.2.2.1 (X.2.2.2.2.1 (.methodLink RX1 1 objectInit) (by decide +kernel)) (X.2.2.2.2.1 (.instanceMethod objectInit) (by decide +kernel)) (X.2.2.2.2.1 (.code objectInit ⟨#[0xb1]⟩ 1 none) (by decide +kernel)) rfl (by rw [X.2.2.1]; exact hl.1) rfl dX1_init_1 (Nat.le_of_ble_eq_true rfl) (Nat.le_of_ble_eq_true rfl) ?_
  refine W.eq (g2 := F0 m 4 ls []) rfl ?_
  refine lv_aload_n X.1 X.2.1 dX1_init_4 rfl (lv_at hl 0 rfl) ?_
  refine lv_aload_n X.1 X.2.1 dX1_init_5 rfl (lv_at hl 1 rfl) ?_
  refine q_putF (index := 7) (v := .ref (ad 0 j)) X hP hS 1 0 i (((j : Nat) : Int) + 1) rfl rfl (by decide) in1 tyX1 tyX1_ok nmX1 hi (by decide) (by decide +kernel) rfl hin rfl (q_v2 ad 0 j) rfl rfl (q_t2 hj) dX1_init_6 (fun H locs hP hS => ?_)
  have hP : q_P g s0 n ad (q_up C 1 0 i (((j : Nat) : Int) + 1)) H := hP
  refine lv_aload_n X.1 X.2.1 dX1_init_9 rfl (lv_at hl 0 rfl) ?_
  refine lv_iload_n X.1 X.2.1 dX1_init_10 rfl (lv_at hl 2 rfl) ?_
  refine q_putF (index := 13) (v := .int (iI a)) X hP hS 1 1 i a rfl rfl (by decide) in1 tyX1 tyX1_ok nmX1 hi (by decide) (by decide +kernel) rfl hin rfl rfl rfl rfl (show R32 _ from ha) dX1_init_11 (fun H locs hP hS => ?_)
  have hP : q_P g s0 n ad (q_up (q_up C 1 0 i (((j : Nat) : Int) + 1)) 1 1 i a) H := hP
  refine lv_aload_n X.1 X.2.1 dX1_init_14 rfl (lv_at hl 0 rfl) ?_
  refine lv_iload_n X.1 X.2.1 dX1_init_15 rfl (lv_at hl 3 rfl) ?_
  refine q_put (index := 17) (v := .int (iI b)) X hP hS 1 2 i b rfl rfl (by decide) in1 tyX1 tyX1_ok nmX1 hi (by decide) (by decide +kernel) rfl rfl rfl rfl (show R32 _ from hb) dX1_init_16 (fun H locs hP hS => ?_)
  have hP : q_P g s0 n ad (q_up (q_up (q_up C 1 0 i (((j : Nat) : Int) + 1)) 1 1 i a) 1 2 i b) H := hP
  exact q_vret X hr hlocks hP hS (rfl) (Nat.le_of_ble_eq_true rfl) (Nat.le_of_ble_eq_true rfl) dX1_init_19
def tX2_init (n : Nat → Nat) (ad : Nat → Nat → Nat) (C : q_S) (i : Nat) (a b d : Int) (u : q_U) : Prop :=
  (u = (n, ad, q_up (q_up (q_up C 2 0 i a) 2 2 i b) 2 1 i d))
set_option maxHeartbeats 4000000 in
set_option maxRecDepth 100000 in
theorem c_X2_init (l : Launch) (g : q_G) (s0 : Nat) (n : Nat → Nat) (ad : Nat → Nat → Nat) (C : q_S) (i : Nat) (hi : i < n 2) (a b d : Int) (ha : R32 a) (hb : R32 b) (hd : R32 d) : Met l yX2_init wsX2_init ({ frames := 1, cells := 0, slots := 0, locals := 24 }) (va_Pc [.ref (ad 2 i), .int (iI a), .int (iI b), .int (iI d)] (q_B g s0 (n, ad, C))) (va_Qv (tX2_init n ad C i a b d) (q_B g s0) (q_A s0)) 0 0 (q_A s0) := by
  refine Met.ofW (cc := cX2_init) (maxL := 4) (ret := none) (by decide) rfl ?_
  intro p e s m args below meth c s₁ B hml hv
  obtain ⟨rfl, hv⟩ := hv
  have hr := B.returns
  have hlocks := B.notSynchronized
  have hin : meth.name = "<init>" := (name_of_methodNamed B.named B.method).1
  obtain ⟨X, hP⟩ := q_start B.exec B.bytes hml (show s.vm.findClass RX2 = some m.cls from findClass_of_methodNamed B.named) (atoms_spec (ws := wsX2_init) B.pre) hv
  have hP : q_P g s0 n ad C s.heap := hP
  have hS : va_S (q_A s0) s.heap s.heap [] := va_S.rf
  have in2 : ∀ w ∈ wsX20, w ∈ wsX2_init := by decide +kernel
  have hl := lv_entry ([.ref (ad 2 i), .int (iI a), .int (iI b), .int (iI d)]) (n := 4) (Nat.le_of_ble_eq_true rfl)
  rw [lg_entry_eq]
  generalize (lg_sl ([.ref (ad 2 i), .int (iI a), .int (iI b), .int (iI d)]) ++ List.replicate (4 - (lg_sl ([.ref (ad 2 i), .int (iI a), .int (iI b), .int (iI d)])).length) Slot.unset).toArray = ls at hl ⊢
  have hl : lv_has ls 4 [(0, .ref (ad 2 i)), (1, .int (iI a)), (2, .int (iI b)), (3, .int (iI d))] := hl
  refine lv_aload_n X.1 X.2.1 dX2_init_0 rfl (lv_at hl 0 rfl) ?_
  refine W.objInit X.1 X.2.1 X.2.2.2.1 (X.2.2.2.2.1 (.methodLink RX2 3 objectInit) (by decide +kernel)) (X.2.2.2.2.1 (.instanceMethod objectInit) (by decide +kernel)) (X.2.2.2.2.1 (.code objectInit ⟨#[0xb1]⟩ 1 none) (by decide +kernel)) rfl (by rw [X.2.2.1]; exact hl.1) rfl dX2_init_1 (Nat.le_of_ble_eq_true rfl) (Nat.le_of_ble_eq_true rfl) ?_
  refine W.eq (g2 := F0 m 4 ls []) rfl ?_
  refine lv_aload_n X.1 X.2.1 dX2_init_4 rfl (lv_at hl 0 rfl) ?_
  refine lv_iload_n X.1 X.2.1 dX2_init_5 rfl (lv_at hl 1 rfl) ?_
  refine q_putF (index := 9) (v := .int (iI a)) X hP hS 2 0 i a rfl rfl (by decide) in2 tyX2 tyX2_ok nmX2 hi (by decide) (by decide +kernel) rfl hin rfl rfl rfl rfl (show R32 _ from ha) dX2_init_6 (fun H locs hP hS => ?_)
  have hP : q_P g s0 n ad (q_up C 2 0 i a) H := hP
  refine lv_aload_n X.1 X.2.1 dX2_init_9 rfl (lv_at hl 0 rfl) ?_
  refine lv_iload_n X.1 X.2.1 dX2_init_10 rfl (lv_at hl 2 rfl) ?_
  refine q_put (index := 15) (v := .int (iI b)) X hP hS 2 2 i b rfl rfl (by decide) in2 tyX2 tyX2_ok nmX2 hi (by decide) (by decide +kernel) rfl rfl rfl rfl (show R32 _ from hb) dX2_init_11 (fun H locs hP hS => ?_)
  have hP : q_P g s0 n ad (q_up (q_up C 2 0 i a) 2 2 i b) H := hP
  refine lv_aload_n X.1 X.2.1 dX2_init_14 rfl (lv_at hl 0 rfl) ?_
  refine lv_iload_n X.1 X.2.1 dX2_init_15 rfl (lv_at hl 3 rfl) ?_
  refine q_putF (index := 18) (v := .int (iI d)) X hP hS 2 1 i d rfl rfl (by decide) in2 tyX2 tyX2_ok nmX2 hi (by decide) (by decide +kernel) rfl hin rfl rfl rfl rfl (show R32 _ from hd) dX2_init_16 (fun H locs hP hS => ?_)
  have hP : q_P g s0 n ad (q_up (q_up (q_up C 2 0 i a) 2 2 i b) 2 1 i d) H := hP
  exact q_vret X hr hlocks hP hS (rfl) (Nat.le_of_ble_eq_true rfl) (Nat.le_of_ble_eq_true rfl) dX2_init_19
def tX3_init (n : Nat → Nat) (ad : Nat → Nat → Nat) (C : q_S) (i : Nat) (a b : Int) (u : q_U) : Prop :=
  (u = (n, ad, q_up (q_up C 3 0 i a) 3 1 i b))
set_option maxHeartbeats 4000000 in
set_option maxRecDepth 100000 in
theorem c_X3_init (l : Launch) (g : q_G) (s0 : Nat) (n : Nat → Nat) (ad : Nat → Nat → Nat) (C : q_S) (i : Nat) (hi : i < n 3) (a b : Int) (ha : R32 a) (hb : R32 b) : Met l yX3_init wsX3_init ({ frames := 1, cells := 0, slots := 0, locals := 24 }) (va_Pc [.ref (ad 3 i), .int (iI a), .int (iI b)] (q_B g s0 (n, ad, C))) (va_Qv (tX3_init n ad C i a b) (q_B g s0) (q_A s0)) 0 0 (q_A s0) := by
  refine Met.ofW (cc := cX3_init) (maxL := 3) (ret := none) (by decide) rfl ?_
  intro p e s m args below meth c s₁ B hml hv
  obtain ⟨rfl, hv⟩ := hv
  have hr := B.returns
  have hlocks := B.notSynchronized
  have hin : meth.name = "<init>" := (name_of_methodNamed B.named B.method).1
  obtain ⟨X, hP⟩ := q_start B.exec B.bytes hml (show s.vm.findClass RX3 = some m.cls from findClass_of_methodNamed B.named) (atoms_spec (ws := wsX3_init) B.pre) hv
  have hP : q_P g s0 n ad C s.heap := hP
  have hS : va_S (q_A s0) s.heap s.heap [] := va_S.rf
  have in3 : ∀ w ∈ wsX30, w ∈ wsX3_init := by decide +kernel
  have hl := lv_entry ([.ref (ad 3 i), .int (iI a), .int (iI b)]) (n := 3) (Nat.le_of_ble_eq_true rfl)
  rw [lg_entry_eq]
  generalize (lg_sl ([.ref (ad 3 i), .int (iI a), .int (iI b)]) ++ List.replicate (3 - (lg_sl ([.ref (ad 3 i), .int (iI a), .int (iI b)])).length) Slot.unset).toArray = ls at hl ⊢
  have hl : lv_has ls 3 [(0, .ref (ad 3 i)), (1, .int (iI a)), (2, .int (iI b))] := hl
  refine lv_aload_n X.1 X.2.1 dX3_init_0 rfl (lv_at hl 0 rfl) ?_
  refine W.objInit X.1 X.2.1 X.2.2.2.1 (X.2.2.2.2.1 (.methodLink RX3 1 objectInit) (by decide +kernel)) (X.2.2.2.2.1 (.instanceMethod objectInit) (by decide +kernel)) (X.2.2.2.2.1 (.code objectInit ⟨#[0xb1]⟩ 1 none) (by decide +kernel)) rfl (by rw [X.2.2.1]; exact hl.1) rfl dX3_init_1 (Nat.le_of_ble_eq_true rfl) (Nat.le_of_ble_eq_true rfl) ?_
  refine W.eq (g2 := F0 m 4 ls []) rfl ?_
  refine lv_aload_n X.1 X.2.1 dX3_init_4 rfl (lv_at hl 0 rfl) ?_
  refine lv_iload_n X.1 X.2.1 dX3_init_5 rfl (lv_at hl 1 rfl) ?_
  refine q_putF (index := 7) (v := .int (iI a)) X hP hS 3 0 i a rfl rfl (by decide) in3 tyX3 tyX3_ok nmX3 hi (by decide) (by decide +kernel) rfl hin rfl rfl rfl rfl (show R32 _ from ha) dX3_init_6 (fun H locs hP hS => ?_)
  have hP : q_P g s0 n ad (q_up C 3 0 i a) H := hP
  refine lv_aload_n X.1 X.2.1 dX3_init_9 rfl (lv_at hl 0 rfl) ?_
  refine lv_iload_n X.1 X.2.1 dX3_init_10 rfl (lv_at hl 2 rfl) ?_
  refine q_putF (index := 13) (v := .int (iI b)) X hP hS 3 1 i b rfl rfl (by decide) in3 tyX3 tyX3_ok nmX3 hi (by decide) (by decide +kernel) rfl hin rfl rfl rfl rfl (show R32 _ from hb) dX3_init_11 (fun H locs hP hS => ?_)
  have hP : q_P g s0 n ad (q_up (q_up C 3 0 i a) 3 1 i b) H := hP
  exact q_vret X hr hlocks hP hS (rfl) (Nat.le_of_ble_eq_true rfl) (Nat.le_of_ble_eq_true rfl) dX3_init_14
end
section
theorem c_R6y {C : q_S} {n : Nat → Nat} {c : Nat} (h : c_R C n c) {z : Nat} (hz : ¬ C 6 z 0 = 0) : z < n 2 ∧ (C 6 z 0 - 1).toNat = z := by
  have := c_R6 h z
  by_cases q : z < n 2
  · rw [if_pos q] at this; exact ⟨q, by omega⟩
  · rw [if_neg q] at this; contradiction
theorem c_R6n {C : q_S} {n : Nat → Nat} {c : Nat} (h : c_R C n c) {z : Nat} (hz : C 6 z 0 = 0) : ¬ z < n 2 := by
  have := c_R6 h z
  intro q
  rw [if_pos q] at this; omega
theorem c_R7y {C : q_S} {n : Nat → Nat} {c : Nat} (h : c_R C n c) {z : Nat} (hz : ¬ C 7 z 0 = 0) : z < n 3 ∧ (C 7 z 0 - 1).toNat = z := by
  have := c_R7 h z
  by_cases q : z < n 3
  · rw [if_pos q] at this; exact ⟨q, by omega⟩
  · rw [if_neg q] at this; contradiction
theorem c_R7n {C : q_S} {n : Nat → Nat} {c : Nat} (h : c_R C n c) {z : Nat} (hz : C 7 z 0 = 0) : ¬ z < n 3 := by
  have := c_R7 h z
  intro q
  rw [if_pos q] at this; omega
theorem c_R8y {C : q_S} {n : Nat → Nat} {c : Nat} (h : c_R C n c) {z : Nat} (hz : ¬ C 8 z 0 = 0) : z < n 0 ∧ (C 8 z 0 - 1).toNat = z := by
  have := c_R8 h z
  by_cases q : z < n 0
  · rw [if_pos q] at this; exact ⟨q, by omega⟩
  · rw [if_neg q] at this; contradiction
theorem c_R8n {C : q_S} {n : Nat → Nat} {c : Nat} (h : c_R C n c) {z : Nat} (hz : C 8 z 0 = 0) : ¬ z < n 0 := by
  have := c_R8 h z
  intro q
  rw [if_pos q] at this; omega
theorem c_fp_v {C : q_S} {j p k : Nat} (h : ¬ c_fp C j p k = 0) : (c_fp C j p k - 1).toNat < k := by
  obtain ⟨i, h1, h2, -⟩ := c_fp_y C j p h
  omega
abbrev x_find (m : Nat) (a : Int) (E : String) : Prop := E = "java/util/NoSuchElementException" ∧ ¬ (1 ≤ a ∧ a ≤ (m : Int))
set_option maxHeartbeats 4000000 in
set_option maxRecDepth 100000 in
theorem c_X4_findPrinter (l : Launch) (htr : l.stackTraces = false) (g : q_G) (s0 : Nat) (n : Nat → Nat) (ad : Nat → Nat → Nat) (C : q_S) (c0 : Nat) (hC : c_S C n) (hR : c_R C n c0) (a : Int) (ha : R32 a) : vx_Met l yX4_findPrinter wsX4_findPrinter ({ frames := 6, cells := 1, slots := 6, locals := 90 }) (va_Pc [.ref (ad 4 0), .int (iI a)] (q_B g s0 (n, ad, C))) (va_Qq (fun r u => u = (n, ad, C) ∧ (1 ≤ a ∧ a ≤ (n 2 : Int)) ∧ r = some (ad 2 (a - 1).toNat)) (q_B g s0) (q_A s0)) (q_XC g s0 (n, ad, C) (x_find (n 2) a)) 1 6 (q_A s0) := by
  refine vx_ofW (cc := cX4_findPrinter) (maxL := 3) (ret := (some (.object "PrintQueue$Printer"))) (by decide) rfl ?_
  intro p e s m args below meth c s₁ B hml hnx hv
  obtain ⟨rfl, hv⟩ := hv
  have hr := B.returns
  have hlocks := B.notSynchronized
  obtain ⟨X, hP⟩ := q_start B.exec B.bytes hml (show s.vm.findClass RX4 = some m.cls from findClass_of_methodNamed B.named) (atoms_spec (ws := wsX4_findPrinter) B.pre) hv
  have hP : q_P g s0 n ad C s.heap := hP
  have hS : va_S (q_A s0) s.heap s.heap [] := va_S.rf
  have in4 : ∀ w ∈ wsX40, w ∈ wsX4_findPrinter := by decide +kernel
  have f0 := c_Rp hR
  have hl := lv_entry ([.ref (ad 4 0), .int (iI a)]) (n := 3) (Nat.le_of_ble_eq_true rfl)
  rw [lg_entry_eq]
  generalize (lg_sl ([.ref (ad 4 0), .int (iI a)]) ++ List.replicate (3 - (lg_sl ([.ref (ad 4 0), .int (iI a)])).length) Slot.unset).toArray = ls at hl ⊢
  have hl : lv_has ls 3 [(0, .ref (ad 4 0)), (1, .int (iI a))] := hl
  refine lv_iload_n X.1 X.2.1 dX4_findPrinter_0 rfl (lv_at hl 1 rfl) ?_
  refine lv_iconst (v := iI (1)) X.1 X.2.1 dX4_findPrinter_1 rfl ?_
  refine lv_aload_n X.1 X.2.1 dX4_findPrinter_2 rfl (lv_at hl 0 rfl) ?_
  refine q_get (index := 11) (v := .ref (ad 6 0)) X hP 4 0 0 rfl rfl (by decide) in4 (c_v4 hC) (by decide) (by decide +kernel) (c_r hC ad 0 6 (by decide)) dX4_findPrinter_3 ?_
  refine q_len (z := 8) X hP 6 0 3 (by decide) rfl rfl (c_va hC 0 6 (by decide)) rfl dX4_findPrinter_6 ?_
  refine va_calli (va_runS (As := [.int (iI a), .int (iI (1)), .int (iI (8))]) (rest := []) X.fix (c_X4_isWithin l g s0 n ad C a (1) (8) ha (by decide) (by decide)) (va_cwS 3 X.2.2.2.2.1 gX4_findPrinter_X4_isWithin rfl rfl rfl (by decide +kernel) ⟨Nat.le_of_ble_eq_true rfl, Nat.le_of_ble_eq_true rfl⟩) (q_preS X hP hS _) rfl rfl hl.1 rfl (lv_room (Nat.le_of_ble_eq_true rfl)) dX4_findPrinter_7 ⟨Nat.le_of_ble_eq_true rfl, Nat.le_of_ble_eq_true rfl⟩) hS q_id q_id1 (fun r u t H locs ht hvm hw hB hz1 hk1 hS => ?_)
  obtain ⟨rfl, ⟨h_1, rfl⟩ | ⟨h_1, rfl⟩⟩ := hw
  · have hP : q_P g s0 n ad (C) H := q_back hB ht
    have h_1 : (1) ≤ a ∧ a ≤ (8) := h_1
    refine q_if_eq (tgt := 24) X (by decide) dX4_findPrinter_10 (by decide) (fun h => absurd h (by decide)) (fun _ => ?_)
    refine lv_aload_n X.1 X.2.1 dX4_findPrinter_13 rfl (lv_at hl 0 rfl) ?_
    refine q_get (index := 11) (v := .ref (ad 6 0)) X hP 4 0 0 rfl rfl (by decide) in4 (c_v4 hC) (by decide) (by decide +kernel) (c_r hC ad 0 6 (by decide)) dX4_findPrinter_14 ?_
    refine lv_iload_n X.1 X.2.1 dX4_findPrinter_17 rfl (lv_at hl 1 rfl) ?_
    refine lv_iconst (v := iI (1)) X.1 X.2.1 dX4_findPrinter_18 rfl ?_
    refine q_isub X dX4_findPrinter_19 ?_
    refine q_rldv (len := 8) (v := (C 6 (((a - (1))).toNat) 0)) X hP 6 0 2 3 (by decide) rfl rfl rfl (c_va hC 0 6 (by decide)) rfl (by omega) (by omega) rfl dX4_findPrinter_20 ?_
    by_cases h_3 : (C 6 (((a - (1))).toNat) 0) = 0
    · rw [q_rf0 ad 2 h_3]
      refine lv_goto (tgt := 25) X.1 X.2.1 dX4_findPrinter_21 (by decide) ?_
      refine lv_astore_nN (lv' := [(2, .null), (0, .ref (ad 4 0)), (1, .int (iI a))]) X.1 X.2.1 dX4_findPrinter_25 rfl hl (by decide) rfl (fun ls hl => ?_)
      refine lv_aload_nN X.1 X.2.1 dX4_findPrinter_26 rfl (lv_at hl 0 rfl) ?_
      refine lv_ifnonnullN X.1 X.2.1 dX4_findPrinter_27 ?_
      exact q_throw X htr hnx hlocks (cls := "java/util/NoSuchElementException") (ik := 197) (ic := 199) (by decide) (by decide +kernel) (by decide +kernel) (by decide +kernel) xb_199 xg_197_199 hP hS hl.1 dX4_findPrinter_30 dX4_findPrinter_33 dX4_findPrinter_34 dX4_findPrinter_37 (Nat.le_of_ble_eq_true rfl) (Nat.le_of_ble_eq_true rfl) (Nat.le_of_ble_eq_true rfl) (Nat.le_of_ble_eq_true rfl) ⟨rfl, by have q := c_R6n hR h_3; omega⟩ (Nat.le_of_ble_eq_true rfl) (Nat.le_of_ble_eq_true rfl)
    · rw [q_rf1 ad 2 h_3]
      have vh_3 : ((C 6 (((a - (1))).toNat) 0) - 1).toNat < n 2 := q_rfl (hP.tok 6 (((a - (1))).toNat) 0 rfl) h_3
      refine lv_goto (tgt := 25) X.1 X.2.1 dX4_findPrinter_21 (by decide) ?_
      refine lv_astore_n (lv' := [(2, .ref (ad 2 (((C 6 (((a - (1))).toNat) 0) - 1).toNat))), (0, .ref (ad 4 0)), (1, .int (iI a))]) X.1 X.2.1 dX4_findPrinter_25 rfl hl (by decide) rfl (fun ls hl => ?_)
      refine lv_aload_n X.1 X.2.1 dX4_findPrinter_26 rfl (lv_at hl 0 rfl) ?_
      refine lv_ifnonnull (tgt := 38) X.1 X.2.1 dX4_findPrinter_27 (by decide) ?_
      refine lv_aload_n X.1 X.2.1 dX4_findPrinter_38 rfl (lv_at hl 0 rfl) ?_
      obtain ⟨q1, q2⟩ := c_R6y hR h_3
      refine vx_ret ?_
      exact q_aret (r := some (ad 2 (((C 6 (((a - (1))).toNat) 0) - 1).toNat))) X hr hlocks hP hS ⟨rfl, ⟨by omega, by omega⟩, by rw [q2]⟩ (Nat.le_of_ble_eq_true rfl) (Nat.le_of_ble_eq_true rfl) dX4_findPrinter_39
  · have hP : q_P g s0 n ad (C) H := q_back hB ht
    have h_1 : ¬ ((1) ≤ a ∧ a ≤ (8)) := h_1
    refine q_if_eq (tgt := 24) X (by decide) dX4_findPrinter_10 (by decide) (fun _ => ?_) (fun h => absurd h (by decide))
    refine lv_null X.1 X.2.1 dX4_findPrinter_24 ?_
    refine lv_astore_nN (lv' := [(2, .null), (0, .ref (ad 4 0)), (1, .int (iI a))]) X.1 X.2.1 dX4_findPrinter_25 rfl hl (by decide) rfl (fun ls hl => ?_)
    refine lv_aload_nN X.1 X.2.1 dX4_findPrinter_26 rfl (lv_at hl 0 rfl) ?_
    refine lv_ifnonnullN X.1 X.2.1 dX4_findPrinter_27 ?_
    exact q_throw X htr hnx hlocks (cls := "java/util/NoSuchElementException") (ik := 197) (ic := 199) (by decide) (by decide +kernel) (by decide +kernel) (by decide +kernel) xb_199 xg_197_199 hP hS hl.1 dX4_findPrinter_30 dX4_findPrinter_33 dX4_findPrinter_34 dX4_findPrinter_37 (Nat.le_of_ble_eq_true rfl) (Nat.le_of_ble_eq_true rfl) (Nat.le_of_ble_eq_true rfl) (Nat.le_of_ble_eq_true rfl) ⟨rfl, by omega⟩ (Nat.le_of_ble_eq_true rfl) (Nat.le_of_ble_eq_true rfl)
set_option maxHeartbeats 4000000 in
set_option maxRecDepth 100000 in
theorem c_X4_findTicket (l : Launch) (htr : l.stackTraces = false) (g : q_G) (s0 : Nat) (n : Nat → Nat) (ad : Nat → Nat → Nat) (C : q_S) (c0 : Nat) (hC : c_S C n) (hR : c_R C n c0) (a : Int) (ha : R32 a) : vx_Met l yX4_findTicket wsX4_findTicket ({ frames := 6, cells := 1, slots := 6, locals := 90 }) (va_Pc [.ref (ad 4 0), .int (iI a)] (q_B g s0 (n, ad, C))) (va_Qq (fun r u => u = (n, ad, C) ∧ (1 ≤ a ∧ a ≤ (n 3 : Int)) ∧ r = some (ad 3 (a - 1).toNat)) (q_B g s0) (q_A s0)) (q_XC g s0 (n, ad, C) (x_find (n 3) a)) 1 6 (q_A s0) := by
  refine vx_ofW (cc := cX4_findTicket) (maxL := 3) (ret := (some (.object "PrintQueue$Ticket"))) (by decide) rfl ?_
  intro p e s m args below meth c s₁ B hml hnx hv
  obtain ⟨rfl, hv⟩ := hv
  have hr := B.returns
  have hlocks := B.notSynchronized
  obtain ⟨X, hP⟩ := q_start B.exec B.bytes hml (show s.vm.findClass RX4 = some m.cls from findClass_of_methodNamed B.named) (atoms_spec (ws := wsX4_findTicket) B.pre) hv
  have hP : q_P g s0 n ad C s.heap := hP
  have hS : va_S (q_A s0) s.heap s.heap [] := va_S.rf
  have in4 : ∀ w ∈ wsX40, w ∈ wsX4_findTicket := by decide +kernel
  have f0 := c_Rt hR
  have hl := lv_entry ([.ref (ad 4 0), .int (iI a)]) (n := 3) (Nat.le_of_ble_eq_true rfl)
  rw [lg_entry_eq]
  generalize (lg_sl ([.ref (ad 4 0), .int (iI a)]) ++ List.replicate (3 - (lg_sl ([.ref (ad 4 0), .int (iI a)])).length) Slot.unset).toArray = ls at hl ⊢
  have hl : lv_has ls 3 [(0, .ref (ad 4 0)), (1, .int (iI a))] := hl
  refine lv_iload_n X.1 X.2.1 dX4_findTicket_0 rfl (lv_at hl 1 rfl) ?_
  refine lv_iconst (v := iI (1)) X.1 X.2.1 dX4_findTicket_1 rfl ?_
  refine lv_aload_n X.1 X.2.1 dX4_findTicket_2 rfl (lv_at hl 0 rfl) ?_
  refine q_get (index := 17) (v := .ref (ad 7 0)) X hP 4 1 0 rfl rfl (by decide) in4 (c_v4 hC) (by decide) (by decide +kernel) (c_r hC ad 1 7 (by decide)) dX4_findTicket_3 ?_
  refine q_len (z := 20) X hP 7 0 4 (by decide) rfl rfl (c_va hC 1 7 (by decide)) rfl dX4_findTicket_6 ?_
  refine va_calli (va_runS (As := [.int (iI a), .int (iI (1)), .int (iI (20))]) (rest := []) X.fix (c_X4_isWithin l g s0 n ad C a (1) (20) ha (by decide) (by decide)) (va_cwS 3 X.2.2.2.2.1 gX4_findTicket_X4_isWithin rfl rfl rfl (by decide +kernel) ⟨Nat.le_of_ble_eq_true rfl, Nat.le_of_ble_eq_true rfl⟩) (q_preS X hP hS _) rfl rfl hl.1 rfl (lv_room (Nat.le_of_ble_eq_true rfl)) dX4_findTicket_7 ⟨Nat.le_of_ble_eq_true rfl, Nat.le_of_ble_eq_true rfl⟩) hS q_id q_id1 (fun r u t H locs ht hvm hw hB hz1 hk1 hS => ?_)
  obtain ⟨rfl, ⟨h_1, rfl⟩ | ⟨h_1, rfl⟩⟩ := hw
  · have hP : q_P g s0 n ad (C) H := q_back hB ht
    have h_1 : (1) ≤ a ∧ a ≤ (20) := h_1
    refine q_if_eq (tgt := 24) X (by decide) dX4_findTicket_10 (by decide) (fun h => absurd h (by decide)) (fun _ => ?_)
    refine lv_aload_n X.1 X.2.1 dX4_findTicket_13 rfl (lv_at hl 0 rfl) ?_
    refine q_get (index := 17) (v := .ref (ad 7 0)) X hP 4 1 0 rfl rfl (by decide) in4 (c_v4 hC) (by decide) (by decide +kernel) (c_r hC ad 1 7 (by decide)) dX4_findTicket_14 ?_
    refine lv_iload_n X.1 X.2.1 dX4_findTicket_17 rfl (lv_at hl 1 rfl) ?_
    refine lv_iconst (v := iI (1)) X.1 X.2.1 dX4_findTicket_18 rfl ?_
    refine q_isub X dX4_findTicket_19 ?_
    refine q_rldv (len := 20) (v := (C 7 (((a - (1))).toNat) 0)) X hP 7 0 3 4 (by decide) rfl rfl rfl (c_va hC 1 7 (by decide)) rfl (by omega) (by omega) rfl dX4_findTicket_20 ?_
    by_cases h_3 : (C 7 (((a - (1))).toNat) 0) = 0
    · rw [q_rf0 ad 3 h_3]
      refine lv_goto (tgt := 25) X.1 X.2.1 dX4_findTicket_21 (by decide) ?_
      refine lv_astore_nN (lv' := [(2, .null), (0, .ref (ad 4 0)), (1, .int (iI a))]) X.1 X.2.1 dX4_findTicket_25 rfl hl (by decide) rfl (fun ls hl => ?_)
      refine lv_aload_nN X.1 X.2.1 dX4_findTicket_26 rfl (lv_at hl 0 rfl) ?_
      refine lv_ifnonnullN X.1 X.2.1 dX4_findTicket_27 ?_
      exact q_throw X htr hnx hlocks (cls := "java/util/NoSuchElementException") (ik := 197) (ic := 199) (by decide) (by decide +kernel) (by decide +kernel) (by decide +kernel) xb_199 xg_197_199 hP hS hl.1 dX4_findTicket_30 dX4_findTicket_33 dX4_findTicket_34 dX4_findTicket_37 (Nat.le_of_ble_eq_true rfl) (Nat.le_of_ble_eq_true rfl) (Nat.le_of_ble_eq_true rfl) (Nat.le_of_ble_eq_true rfl) ⟨rfl, by have q := c_R7n hR h_3; omega⟩ (Nat.le_of_ble_eq_true rfl) (Nat.le_of_ble_eq_true rfl)
    · rw [q_rf1 ad 3 h_3]
      have vh_3 : ((C 7 (((a - (1))).toNat) 0) - 1).toNat < n 3 := q_rfl (hP.tok 7 (((a - (1))).toNat) 0 rfl) h_3
      refine lv_goto (tgt := 25) X.1 X.2.1 dX4_findTicket_21 (by decide) ?_
      refine lv_astore_n (lv' := [(2, .ref (ad 3 (((C 7 (((a - (1))).toNat) 0) - 1).toNat))), (0, .ref (ad 4 0)), (1, .int (iI a))]) X.1 X.2.1 dX4_findTicket_25 rfl hl (by decide) rfl (fun ls hl => ?_)
      refine lv_aload_n X.1 X.2.1 dX4_findTicket_26 rfl (lv_at hl 0 rfl) ?_
      refine lv_ifnonnull (tgt := 38) X.1 X.2.1 dX4_findTicket_27 (by decide) ?_
      refine lv_aload_n X.1 X.2.1 dX4_findTicket_38 rfl (lv_at hl 0 rfl) ?_
      obtain ⟨q1, q2⟩ := c_R7y hR h_3
      refine vx_ret ?_
      exact q_aret (r := some (ad 3 (((C 7 (((a - (1))).toNat) 0) - 1).toNat))) X hr hlocks hP hS ⟨rfl, ⟨by omega, by omega⟩, by rw [q2]⟩ (Nat.le_of_ble_eq_true rfl) (Nat.le_of_ble_eq_true rfl) dX4_findTicket_39
  · have hP : q_P g s0 n ad (C) H := q_back hB ht
    have h_1 : ¬ ((1) ≤ a ∧ a ≤ (20)) := h_1
    refine q_if_eq (tgt := 24) X (by decide) dX4_findTicket_10 (by decide) (fun _ => ?_) (fun h => absurd h (by decide))
    refine lv_null X.1 X.2.1 dX4_findTicket_24 ?_
    refine lv_astore_nN (lv' := [(2, .null), (0, .ref (ad 4 0)), (1, .int (iI a))]) X.1 X.2.1 dX4_findTicket_25 rfl hl (by decide) rfl (fun ls hl => ?_)
    refine lv_aload_nN X.1 X.2.1 dX4_findTicket_26 rfl (lv_at hl 0 rfl) ?_
    refine lv_ifnonnullN X.1 X.2.1 dX4_findTicket_27 ?_
    exact q_throw X htr hnx hlocks (cls := "java/util/NoSuchElementException") (ik := 197) (ic := 199) (by decide) (by decide +kernel) (by decide +kernel) (by decide +kernel) xb_199 xg_197_199 hP hS hl.1 dX4_findTicket_30 dX4_findTicket_33 dX4_findTicket_34 dX4_findTicket_37 (Nat.le_of_ble_eq_true rfl) (Nat.le_of_ble_eq_true rfl) (Nat.le_of_ble_eq_true rfl) (Nat.le_of_ble_eq_true rfl) ⟨rfl, by omega⟩ (Nat.le_of_ble_eq_true rfl) (Nat.le_of_ble_eq_true rfl)
set_option maxHeartbeats 4000000 in
set_option maxRecDepth 100000 in
theorem c_X4_findJob (l : Launch) (htr : l.stackTraces = false) (g : q_G) (s0 : Nat) (n : Nat → Nat) (ad : Nat → Nat → Nat) (C : q_S) (c0 : Nat) (hC : c_S C n) (hR : c_R C n c0) (a : Int) (ha : R32 a) : vx_Met l yX4_findJob wsX4_findJob ({ frames := 6, cells := 1, slots := 6, locals := 90 }) (va_Pc [.ref (ad 4 0), .int (iI a)] (q_B g s0 (n, ad, C))) (va_Qq (fun r u => u = (n, ad, C) ∧ (1 ≤ a ∧ a ≤ (n 0 : Int)) ∧ r = some (ad 0 (a - 1).toNat)) (q_B g s0) (q_A s0)) (q_XC g s0 (n, ad, C) (x_find (n 0) a)) 1 6 (q_A s0) := by
  refine vx_ofW (cc := cX4_findJob) (maxL := 3) (ret := (some (.object "PrintQueue$Job"))) (by decide) rfl ?_
  intro p e s m args below meth c s₁ B hml hnx hv
  obtain ⟨rfl, hv⟩ := hv
  have hr := B.returns
  have hlocks := B.notSynchronized
  obtain ⟨X, hP⟩ := q_start B.exec B.bytes hml (show s.vm.findClass RX4 = some m.cls from findClass_of_methodNamed B.named) (atoms_spec (ws := wsX4_findJob) B.pre) hv
  have hP : q_P g s0 n ad C s.heap := hP
  have hS : va_S (q_A s0) s.heap s.heap [] := va_S.rf
  have in4 : ∀ w ∈ wsX40, w ∈ wsX4_findJob := by decide +kernel
  have f0 := c_Rj hR
  have hl := lv_entry ([.ref (ad 4 0), .int (iI a)]) (n := 3) (Nat.le_of_ble_eq_true rfl)
  rw [lg_entry_eq]
  generalize (lg_sl ([.ref (ad 4 0), .int (iI a)]) ++ List.replicate (3 - (lg_sl ([.ref (ad 4 0), .int (iI a)])).length) Slot.unset).toArray = ls at hl ⊢
  have hl : lv_has ls 3 [(0, .ref (ad 4 0)), (1, .int (iI a))] := hl
  refine lv_iload_n X.1 X.2.1 dX4_findJob_0 rfl (lv_at hl 1 rfl) ?_
  refine lv_iconst (v := iI (1)) X.1 X.2.1 dX4_findJob_1 rfl ?_
  refine lv_aload_n X.1 X.2.1 dX4_findJob_2 rfl (lv_at hl 0 rfl) ?_
  refine q_get (index := 23) (v := .ref (ad 8 0)) X hP 4 2 0 rfl rfl (by decide) in4 (c_v4 hC) (by decide) (by decide +kernel) (c_r hC ad 2 8 (by decide)) dX4_findJob_3 ?_
  refine q_len (z := 60) X hP 8 0 5 (by decide) rfl rfl (c_va hC 2 8 (by decide)) rfl dX4_findJob_6 ?_
  refine va_calli (va_runS (As := [.int (iI a), .int (iI (1)), .int (iI (60))]) (rest := []) X.fix (c_X4_isWithin l g s0 n ad C a (1) (60) ha (by decide) (by decide)) (va_cwS 3 X.2.2.2.2.1 gX4_findJob_X4_isWithin rfl rfl rfl (by decide +kernel) ⟨Nat.le_of_ble_eq_true rfl, Nat.le_of_ble_eq_true rfl⟩) (q_preS X hP hS _) rfl rfl hl.1 rfl (lv_room (Nat.le_of_ble_eq_true rfl)) dX4_findJob_7 ⟨Nat.le_of_ble_eq_true rfl, Nat.le_of_ble_eq_true rfl⟩) hS q_id q_id1 (fun r u t H locs ht hvm hw hB hz1 hk1 hS => ?_)
  obtain ⟨rfl, ⟨h_1, rfl⟩ | ⟨h_1, rfl⟩⟩ := hw
  · have hP : q_P g s0 n ad (C) H := q_back hB ht
    have h_1 : (1) ≤ a ∧ a ≤ (60) := h_1
    refine q_if_eq (tgt := 24) X (by decide) dX4_findJob_10 (by decide) (fun h => absurd h (by decide)) (fun _ => ?_)
    refine lv_aload_n X.1 X.2.1 dX4_findJob_13 rfl (lv_at hl 0 rfl) ?_
    refine q_get (index := 23) (v := .ref (ad 8 0)) X hP 4 2 0 rfl rfl (by decide) in4 (c_v4 hC) (by decide) (by decide +kernel) (c_r hC ad 2 8 (by decide)) dX4_findJob_14 ?_
    refine lv_iload_n X.1 X.2.1 dX4_findJob_17 rfl (lv_at hl 1 rfl) ?_
    refine lv_iconst (v := iI (1)) X.1 X.2.1 dX4_findJob_18 rfl ?_
    refine q_isub X dX4_findJob_19 ?_
    refine q_rldv (len := 60) (v := (C 8 (((a - (1))).toNat) 0)) X hP 8 0 0 5 (by decide) rfl rfl rfl (c_va hC 2 8 (by decide)) rfl (by omega) (by omega) rfl dX4_findJob_20 ?_
    by_cases h_3 : (C 8 (((a - (1))).toNat) 0) = 0
    · rw [q_rf0 ad 0 h_3]
      refine lv_goto (tgt := 25) X.1 X.2.1 dX4_findJob_21 (by decide) ?_
      refine lv_astore_nN (lv' := [(2, .null), (0, .ref (ad 4 0)), (1, .int (iI a))]) X.1 X.2.1 dX4_findJob_25 rfl hl (by decide) rfl (fun ls hl => ?_)
      refine lv_aload_nN X.1 X.2.1 dX4_findJob_26 rfl (lv_at hl 0 rfl) ?_
      refine lv_ifnonnullN X.1 X.2.1 dX4_findJob_27 ?_
      exact q_throw X htr hnx hlocks (cls := "java/util/NoSuchElementException") (ik := 197) (ic := 199) (by decide) (by decide +kernel) (by decide +kernel) (by decide +kernel) xb_199 xg_197_199 hP hS hl.1 dX4_findJob_30 dX4_findJob_33 dX4_findJob_34 dX4_findJob_37 (Nat.le_of_ble_eq_true rfl) (Nat.le_of_ble_eq_true rfl) (Nat.le_of_ble_eq_true rfl) (Nat.le_of_ble_eq_true rfl) ⟨rfl, by have q := c_R8n hR h_3; omega⟩ (Nat.le_of_ble_eq_true rfl) (Nat.le_of_ble_eq_true rfl)
    · rw [q_rf1 ad 0 h_3]
      have vh_3 : ((C 8 (((a - (1))).toNat) 0) - 1).toNat < n 0 := q_rfl (hP.tok 8 (((a - (1))).toNat) 0 rfl) h_3
      refine lv_goto (tgt := 25) X.1 X.2.1 dX4_findJob_21 (by decide) ?_
      refine lv_astore_n (lv' := [(2, .ref (ad 0 (((C 8 (((a - (1))).toNat) 0) - 1).toNat))), (0, .ref (ad 4 0)), (1, .int (iI a))]) X.1 X.2.1 dX4_findJob_25 rfl hl (by decide) rfl (fun ls hl => ?_)
      refine lv_aload_n X.1 X.2.1 dX4_findJob_26 rfl (lv_at hl 0 rfl) ?_
      refine lv_ifnonnull (tgt := 38) X.1 X.2.1 dX4_findJob_27 (by decide) ?_
      refine lv_aload_n X.1 X.2.1 dX4_findJob_38 rfl (lv_at hl 0 rfl) ?_
      obtain ⟨q1, q2⟩ := c_R8y hR h_3
      refine vx_ret ?_
      exact q_aret (r := some (ad 0 (((C 8 (((a - (1))).toNat) 0) - 1).toNat))) X hr hlocks hP hS ⟨rfl, ⟨by omega, by omega⟩, by rw [q2]⟩ (Nat.le_of_ble_eq_true rfl) (Nat.le_of_ble_eq_true rfl) dX4_findJob_39
  · have hP : q_P g s0 n ad (C) H := q_back hB ht
    have h_1 : ¬ ((1) ≤ a ∧ a ≤ (60)) := h_1
    refine q_if_eq (tgt := 24) X (by decide) dX4_findJob_10 (by decide) (fun _ => ?_) (fun h => absurd h (by decide))
    refine lv_null X.1 X.2.1 dX4_findJob_24 ?_
    refine lv_astore_nN (lv' := [(2, .null), (0, .ref (ad 4 0)), (1, .int (iI a))]) X.1 X.2.1 dX4_findJob_25 rfl hl (by decide) rfl (fun ls hl => ?_)
    refine lv_aload_nN X.1 X.2.1 dX4_findJob_26 rfl (lv_at hl 0 rfl) ?_
    refine lv_ifnonnullN X.1 X.2.1 dX4_findJob_27 ?_
    exact q_throw X htr hnx hlocks (cls := "java/util/NoSuchElementException") (ik := 197) (ic := 199) (by decide) (by decide +kernel) (by decide +kernel) (by decide +kernel) xb_199 xg_197_199 hP hS hl.1 dX4_findJob_30 dX4_findJob_33 dX4_findJob_34 dX4_findJob_37 (Nat.le_of_ble_eq_true rfl) (Nat.le_of_ble_eq_true rfl) (Nat.le_of_ble_eq_true rfl) (Nat.le_of_ble_eq_true rfl) ⟨rfl, by omega⟩ (Nat.le_of_ble_eq_true rfl) (Nat.le_of_ble_eq_true rfl)
set_option maxHeartbeats 4000000 in
set_option maxRecDepth 100000 in
theorem w_X4_reasonByPrinters {p : Program} {l : Launch} {e : Env} {s : State} {m : MethodId} {args : Array Value} {below : List Frame} {meth : Method} {c : Code} {Q : State → Prop} {g : q_G} {s0 : Nat} {n : Nat → Nat} {ad : Nat → Nat → Nat} {C : q_S} (X : q_X p s m args c cX4_reasonByPrinters 7 wsX4_reasonByPrinters RX4 g s0) (in0 : ∀ w ∈ wsX00, w ∈ wsX4_reasonByPrinters) (in1 : ∀ w ∈ wsX10, w ∈ wsX4_reasonByPrinters) (in2 : ∀ w ∈ wsX20, w ∈ wsX4_reasonByPrinters) (in3 : ∀ w ∈ wsX30, w ∈ wsX4_reasonByPrinters) (in4 : ∀ w ∈ wsX40, w ∈ wsX4_reasonByPrinters) (c0 : Nat) (hC : c_S C n) (hR : c_R C n c0) (j : Nat) (hj : j < n 0) (kx : ∀  (H : Heap) (locs : List Loc) (ls : Array Slot), (∀ z, z < n 2 → ¬ c_fp C j z (n 1) = 0 → ¬ C 2 4 z = 0) → q_P g s0 n ad C H → va_S (q_A s0) s.heap H locs → lv_has ls 7 [(2, .int (iI (c_sf C n j 8))), (0, .ref (ad 4 0)), (1, .ref (ad 0 j)), (3, .ref (ad 6 0)), (4, .int (iI (8)))] → W p l e ({ frames := 2, cells := 0, slots := 0, locals := 43 }) s m args below meth c H locs 0 0 Q (F0 m 59 ls [])) (ky : ∀  (H : Heap) (locs : List Loc) (ls : Array Slot), (∃ z, z < n 2 ∧ ¬ c_fp C j z (n 1) = 0 ∧ C 2 4 z = 0) → q_P g s0 n ad C H → va_S (q_A s0) s.heap H locs → lv_has ls 7 [(0, .ref (ad 4 0)), (1, .ref (ad 0 j)), (3, .ref (ad 6 0)), (4, .int (iI (8)))] → W p l e ({ frames := 2, cells := 0, slots := 0, locals := 43 }) s m args below meth c H locs 0 0 Q (F0 m 49 ls [])) :
    ∀ (N : Nat) (k : Nat) (H : Heap) (locs : List Loc) (ls : Array Slot), (8 < k + N) → (k ≤ 8) → (∀ z, z < k → z < n 2 → ¬ c_fp C j z (n 1) = 0 → ¬ C 2 4 z = 0) → q_P g s0 n ad C H → va_S (q_A s0) s.heap H locs → lv_has ls 7 [(5, .int (iI ((k : Nat) : Int))), (2, .int (iI (c_sf C n j k))), (0, .ref (ad 4 0)), (1, .ref (ad 0 j)), (3, .ref (ad 6 0)), (4, .int (iI (8)))] → W p l e ({ frames := 2, cells := 0, slots := 0, locals := 43 }) s m args below meth c H locs 0 0 Q (F0 m 14 ls []) := by
  intro N
  induction N with
  | zero =>
    intro k H locs ls h1 h2 h3 hP hS hl
    exact absurd h1 (by omega)
  | succ N ih =>
    intro k H locs ls h1 h2 h3 hP hS hl
    have f0 := c_Rp hR
    refine lv_iload X.1 X.2.1 dX4_reasonByPrinters_14 (lv_at hl 0 rfl) ?_
    refine lv_iload X.1 X.2.1 dX4_reasonByPrinters_16 (lv_at hl 5 rfl) ?_
    refine q_icmp_ge (tgt := 59) X (by omega) (by decide) dX4_reasonByPrinters_18 (by decide) (fun h_1 => ?_) (fun h_1 => ?_)
    · have ek : k = 8 := by omega
      have e_2 : (c_sf C n j k) = (c_sf C n j 8) := by rw [ek]
      have hl : lv_has ls 7 [(2, .int (iI (c_sf C n j 8))), (0, .ref (ad 4 0)), (1, .ref (ad 0 j)), (3, .ref (ad 6 0)), (4, .int (iI (8)))] := lv_cong (show lv_has ls 7 [(2, .int (iI (c_sf C n j k))), (0, .ref (ad 4 0)), (1, .ref (ad 0 j)), (3, .ref (ad 6 0)), (4, .int (iI (8)))] from lv_sub hl [1, 2, 3, 4, 5] rfl) (lv_cs (congrArg (fun z => Value.int (iI z)) e_2) (lv_cs rfl (lv_cs rfl (lv_cs rfl (lv_cs rfl rfl)))))
      exact kx _ _ ls (fun z z2 z3 => h3 z (by omega) z2 z3) hP hS hl
    · refine lv_aload_n X.1 X.2.1 dX4_reasonByPrinters_21 rfl (lv_at hl 4 rfl) ?_
      refine lv_iload X.1 X.2.1 dX4_reasonByPrinters_22 (lv_at hl 0 rfl) ?_
      by_cases h_3 : k < n 2
      · refine q_rldv (len := 8) (v := ((k : Nat) : Int) + 1) X hP 6 0 2 3 (by decide) rfl rfl rfl (c_va hC 0 6 (by decide)) rfl (by omega) (by omega) ((c_R6 hR k).trans (if_pos h_3)) dX4_reasonByPrinters_24 ?_
        rw [q_rf2]
        refine lv_astore (lv' := [(6, .ref (ad 2 k)), (5, .int (iI ((k : Nat) : Int))), (2, .int (iI (c_sf C n j k))), (0, .ref (ad 4 0)), (1, .ref (ad 0 j)), (3, .ref (ad 6 0)), (4, .int (iI (8)))]) X.1 X.2.1 dX4_reasonByPrinters_25 hl (by decide) rfl (fun ls hl => ?_)
        refine lv_aload X.1 X.2.1 dX4_reasonByPrinters_27 (lv_at hl 0 rfl) ?_
        refine lv_ifnull X.1 X.2.1 dX4_reasonByPrinters_29 ?_
        refine lv_aload_n X.1 X.2.1 dX4_reasonByPrinters_32 rfl (lv_at hl 4 rfl) ?_
        refine lv_aload X.1 X.2.1 dX4_reasonByPrinters_33 (lv_at hl 0 rfl) ?_
        refine va_callq (va_runS (As := [.ref (ad 0 j), .ref (ad 2 k)]) (rest := []) X.fix (c_X4_firstPartFor l g s0 n ad C c0 hR j hj k h_3) (va_cwS 2 X.2.2.2.2.1 gX4_reasonByPrinters_X4_firstPartFor rfl rfl rfl (by decide +kernel) ⟨Nat.le_of_ble_eq_true rfl, Nat.le_of_ble_eq_true rfl⟩) (q_preS X hP hS _) rfl rfl hl.1 rfl (lv_room (Nat.le_of_ble_eq_true rfl)) dX4_reasonByPrinters_35 ⟨Nat.le_of_ble_eq_true rfl, Nat.le_of_ble_eq_true rfl⟩) hS q_id q_id1 (fun r u t H locs ht hvm hw hB hz1 hk1 hS => ?_)
        obtain ⟨rfl, rfl⟩ := hw
        have hP : q_P g s0 n ad (C) H := q_back hB ht
        by_cases h_4 : (c_fp C j k (n 1)) = 0
        · rw [q_rf0 ad 1 h_4]
          refine lv_ifnullN (tgt := 53) X.1 X.2.1 dX4_reasonByPrinters_38 (by decide) ?_
          refine q_iinc (lv' := [(5, .int (iI (((k : Nat) : Int) + 1))), (6, .ref (ad 2 k)), (2, .int (iI (c_sf C n j k))), (0, .ref (ad 4 0)), (1, .ref (ad 0 j)), (3, .ref (ad 6 0)), (4, .int (iI (8)))]) (k := 1) X dX4_reasonByPrinters_53 hl rfl (by decide) rfl (fun ls hl => ?_)
          refine lv_goto (tgt := 14) X.1 X.2.1 dX4_reasonByPrinters_56 (by decide) ?_
          have h5 : ∀ z, z < k + 1 → z < n 2 → ¬ c_fp C j z (n 1) = 0 → ¬ C 2 4 z = 0 := fun z z1 z2 z3 => if e1 : z = k then (by subst e1; first | contradiction | assumption) else h3 z (by omega) z2 z3
          have e_5 : (((k : Nat) : Int) + 1) = (((k + 1) : Nat) : Int) := by omega
          have e_6 : (c_sf C n j k) = (c_sf C n j (k + 1)) := by rw [c_sf]; first | (rw [if_pos ⟨by assumption, by assumption⟩]; done) | (rw [if_neg (fun q => by obtain ⟨q1, q2⟩ := q; contradiction)]; done)
          have hl : lv_has ls 7 [(5, .int (iI (((k + 1) : Nat) : Int))), (2, .int (iI (c_sf C n j (k + 1)))), (0, .ref (ad 4 0)), (1, .ref (ad 0 j)), (3, .ref (ad 6 0)), (4, .int (iI (8)))] := lv_cong (show lv_has ls 7 [(5, .int (iI (((k : Nat) : Int) + 1))), (2, .int (iI (c_sf C n j k))), (0, .ref (ad 4 0)), (1, .ref (ad 0 j)), (3, .ref (ad 6 0)), (4, .int (iI (8)))] from lv_sub hl [0, 2, 3, 4, 5, 6] rfl) (lv_cs (congrArg (fun z => Value.int (iI z)) e_5) (lv_cs (congrArg (fun z => Value.int (iI z)) e_6) (lv_cs rfl (lv_cs rfl (lv_cs rfl (lv_cs rfl rfl))))))
          exact ih (k + 1) _ _ ls (by omega) (by omega) h5 hP hS hl
        · rw [q_rf1 ad 1 h_4]
          have vh_4 : ((c_fp C j k (n 1)) - 1).toNat < n 1 := c_fp_v h_4
          refine lv_ifnull X.1 X.2.1 dX4_reasonByPrinters_38 ?_
          refine lv_aload X.1 X.2.1 dX4_reasonByPrinters_41 (lv_at hl 0 rfl) ?_
          refine q_get (index := 87) (v := va_rf (q_rf ad 1 (C 2 4 k))) X hP 2 4 k rfl rfl (by decide) in2 h_3 (by decide) (by decide +kernel) rfl dX4_reasonByPrinters_43 ?_
          by_cases h_7 : (C 2 4 k) = 0
          · rw [q_rf0 ad 1 h_7]
            refine lv_ifnonnullN X.1 X.2.1 dX4_reasonByPrinters_46 ?_
            have hl : lv_has ls 7 [(0, .ref (ad 4 0)), (1, .ref (ad 0 j)), (3, .ref (ad 6 0)), (4, .int (iI (8)))] := lv_sub hl [3, 4, 5, 6] rfl
            exact ky _ _ ls ⟨k, by assumption, by assumption, by assumption⟩ hP hS hl
          · rw [q_rf1 ad 1 h_7]
            have vh_7 : ((C 2 4 k) - 1).toNat < n 1 := q_rfl (hP.tok 2 4 k rfl) h_7
            refine lv_ifnonnull (tgt := 51) X.1 X.2.1 dX4_reasonByPrinters_46 (by decide) ?_
            refine lv_iconst (v := iI (1)) X.1 X.2.1 dX4_reasonByPrinters_51 rfl ?_
            refine lv_istore_n (lv' := [(2, .int (iI (1))), (6, .ref (ad 2 k)), (5, .int (iI ((k : Nat) : Int))), (0, .ref (ad 4 0)), (1, .ref (ad 0 j)), (3, .ref (ad 6 0)), (4, .int (iI (8)))]) X.1 X.2.1 dX4_reasonByPrinters_52 rfl hl (by decide) rfl (fun ls hl => ?_)
            refine q_iinc (lv' := [(5, .int (iI (((k : Nat) : Int) + 1))), (2, .int (iI (1))), (6, .ref (ad 2 k)), (0, .ref (ad 4 0)), (1, .ref (ad 0 j)), (3, .ref (ad 6 0)), (4, .int (iI (8)))]) (k := 2) X dX4_reasonByPrinters_53 hl rfl (by decide) rfl (fun ls hl => ?_)
            refine lv_goto (tgt := 14) X.1 X.2.1 dX4_reasonByPrinters_56 (by decide) ?_
            have h5 : ∀ z, z < k + 1 → z < n 2 → ¬ c_fp C j z (n 1) = 0 → ¬ C 2 4 z = 0 := fun z z1 z2 z3 => if e1 : z = k then (by subst e1; first | contradiction | assumption) else h3 z (by omega) z2 z3
            have e_8 : (((k : Nat) : Int) + 1) = (((k + 1) : Nat) : Int) := by omega
            have e_9 : (1) = (c_sf C n j (k + 1)) := by rw [c_sf]; first | (rw [if_pos ⟨by assumption, by assumption⟩]; done) | (rw [if_neg (fun q => by obtain ⟨q1, q2⟩ := q; contradiction)]; done)
            have hl : lv_has ls 7 [(5, .int (iI (((k + 1) : Nat) : Int))), (2, .int (iI (c_sf C n j (k + 1)))), (0, .ref (ad 4 0)), (1, .ref (ad 0 j)), (3, .ref (ad 6 0)), (4, .int (iI (8)))] := lv_cong (show lv_has ls 7 [(5, .int (iI (((k : Nat) : Int) + 1))), (2, .int (iI (1))), (0, .ref (ad 4 0)), (1, .ref (ad 0 j)), (3, .ref (ad 6 0)), (4, .int (iI (8)))] from lv_sub hl [0, 1, 3, 4, 5, 6] rfl) (lv_cs (congrArg (fun z => Value.int (iI z)) e_8) (lv_cs (congrArg (fun z => Value.int (iI z)) e_9) (lv_cs rfl (lv_cs rfl (lv_cs rfl (lv_cs rfl rfl))))))
            exact ih (k + 1) _ _ ls (by omega) (by omega) h5 hP hS hl
      · refine q_rldv (len := 8) (v := 0) X hP 6 0 2 3 (by decide) rfl rfl rfl (c_va hC 0 6 (by decide)) rfl (by omega) (by omega) ((c_R6 hR k).trans (if_neg h_3)) dX4_reasonByPrinters_24 ?_
        rw [q_rf0 ad 2 rfl]
        refine lv_astoreN (lv' := [(6, .null), (5, .int (iI ((k : Nat) : Int))), (2, .int (iI (c_sf C n j k))), (0, .ref (ad 4 0)), (1, .ref (ad 0 j)), (3, .ref (ad 6 0)), (4, .int (iI (8)))]) X.1 X.2.1 dX4_reasonByPrinters_25 hl (by decide) rfl (fun ls hl => ?_)
        refine lv_aloadN X.1 X.2.1 dX4_reasonByPrinters_27 (lv_at hl 0 rfl) ?_
        refine lv_ifnullN (tgt := 53) X.1 X.2.1 dX4_reasonByPrinters_29 (by decide) ?_
        refine q_iinc (lv' := [(5, .int (iI (((k : Nat) : Int) + 1))), (6, .null), (2, .int (iI (c_sf C n j k))), (0, .ref (ad 4 0)), (1, .ref (ad 0 j)), (3, .ref (ad 6 0)), (4, .int (iI (8)))]) (k := 1) X dX4_reasonByPrinters_53 hl rfl (by decide) rfl (fun ls hl => ?_)
        refine lv_goto (tgt := 14) X.1 X.2.1 dX4_reasonByPrinters_56 (by decide) ?_
        have h5 : ∀ z, z < k + 1 → z < n 2 → ¬ c_fp C j z (n 1) = 0 → ¬ C 2 4 z = 0 := fun z z1 z2 z3 => if e1 : z = k then (by subst e1; first | contradiction | assumption) else h3 z (by omega) z2 z3
        have e_10 : (((k : Nat) : Int) + 1) = (((k + 1) : Nat) : Int) := by omega
        have e_11 : (c_sf C n j k) = (c_sf C n j (k + 1)) := by rw [c_sf]; first | (rw [if_pos ⟨by assumption, by assumption⟩]; done) | (rw [if_neg (fun q => by obtain ⟨q1, q2⟩ := q; contradiction)]; done)
        have hl : lv_has ls 7 [(5, .int (iI (((k + 1) : Nat) : Int))), (2, .int (iI (c_sf C n j (k + 1)))), (0, .ref (ad 4 0)), (1, .ref (ad 0 j)), (3, .ref (ad 6 0)), (4, .int (iI (8)))] := lv_cong (show lv_has ls 7 [(5, .int (iI (((k : Nat) : Int) + 1))), (2, .int (iI (c_sf C n j k))), (0, .ref (ad 4 0)), (1, .ref (ad 0 j)), (3, .ref (ad 6 0)), (4, .int (iI (8)))] from lv_sub hl [0, 2, 3, 4, 5, 6] rfl) (lv_cs (congrArg (fun z => Value.int (iI z)) e_10) (lv_cs (congrArg (fun z => Value.int (iI z)) e_11) (lv_cs rfl (lv_cs rfl (lv_cs rfl (lv_cs rfl rfl))))))
        exact ih (k + 1) _ _ ls (by omega) (by omega) h5 hP hS hl
def tX4_reasonByPrinters (n : Nat → Nat) (ad : Nat → Nat → Nat) (C : q_S) (j : Nat) (r : Int32) (u : q_U) : Prop :=
  (((∀ z, z < n 2 → ¬ c_fp C j z (n 1) = 0 → ¬ C 2 4 z = 0)) ∧ ((c_sf C n j 8) = (0)) ∧ u = (n, ad, C) ∧ r = iI (3)) ∨
  (((∀ z, z < n 2 → ¬ c_fp C j z (n 1) = 0 → ¬ C 2 4 z = 0)) ∧ (¬ (c_sf C n j 8) = (0)) ∧ u = (n, ad, C) ∧ r = iI (4)) ∨
  (((∃ z, z < n 2 ∧ ¬ c_fp C j z (n 1) = 0 ∧ C 2 4 z = 0)) ∧ u = (n, ad, C) ∧ r = iI (5))
set_option maxHeartbeats 4000000 in
set_option maxRecDepth 100000 in
theorem c_X4_reasonByPrinters (l : Launch) (g : q_G) (s0 : Nat) (n : Nat → Nat) (ad : Nat → Nat → Nat) (C : q_S) (c0 : Nat) (hC : c_S C n) (hR : c_R C n c0) (j : Nat) (hj : j < n 0) : Met l yX4_reasonByPrinters wsX4_reasonByPrinters ({ frames := 2, cells := 0, slots := 0, locals := 43 }) (va_Pc [.ref (ad 4 0), .ref (ad 0 j)] (q_B g s0 (n, ad, C))) (va_Qi (tX4_reasonByPrinters n ad C j) (q_B g s0) (q_A s0)) 0 0 (q_A s0) := by
  refine Met.ofW (cc := cX4_reasonByPrinters) (maxL := 7) (ret := (some .int)) (by decide) rfl ?_
  intro p e s m args below meth c s₁ B hml hv
  obtain ⟨rfl, hv⟩ := hv
  have hr := B.returns
  have hlocks := B.notSynchronized
  obtain ⟨X, hP⟩ := q_start B.exec B.bytes hml (show s.vm.findClass RX4 = some m.cls from findClass_of_methodNamed B.named) (atoms_spec (ws := wsX4_reasonByPrinters) B.pre) hv
  have hP : q_P g s0 n ad C s.heap := hP
  have hS : va_S (q_A s0) s.heap s.heap [] := va_S.rf
  have in0 : ∀ w ∈ wsX00, w ∈ wsX4_reasonByPrinters := by decide +kernel
  have in1 : ∀ w ∈ wsX10, w ∈ wsX4_reasonByPrinters := by decide +kernel
  have in2 : ∀ w ∈ wsX20, w ∈ wsX4_reasonByPrinters := by decide +kernel
  have in3 : ∀ w ∈ wsX30, w ∈ wsX4_reasonByPrinters := by decide +kernel
  have in4 : ∀ w ∈ wsX40, w ∈ wsX4_reasonByPrinters := by decide +kernel
  have hl := lv_entry ([.ref (ad 4 0), .ref (ad 0 j)]) (n := 7) (Nat.le_of_ble_eq_true rfl)
  rw [lg_entry_eq]
  generalize (lg_sl ([.ref (ad 4 0), .ref (ad 0 j)]) ++ List.replicate (7 - (lg_sl ([.ref (ad 4 0), .ref (ad 0 j)])).length) Slot.unset).toArray = ls at hl ⊢
  have hl : lv_has ls 7 [(0, .ref (ad 4 0)), (1, .ref (ad 0 j))] := hl
  refine lv_iconst (v := iI (0)) X.1 X.2.1 dX4_reasonByPrinters_0 rfl ?_
  refine lv_istore_n (lv' := [(2, .int (iI (0))), (0, .ref (ad 4 0)), (1, .ref (ad 0 j))]) X.1 X.2.1 dX4_reasonByPrinters_1 rfl hl (by decide) rfl (fun ls hl => ?_)
  refine lv_aload_n X.1 X.2.1 dX4_reasonByPrinters_2 rfl (lv_at hl 1 rfl) ?_
  refine q_get (index := 11) (v := .ref (ad 6 0)) X hP 4 0 0 rfl rfl (by decide) in4 (c_v4 hC) (by decide) (by decide +kernel) (c_r hC ad 0 6 (by decide)) dX4_reasonByPrinters_3 ?_
  refine lv_astore_n (lv' := [(3, .ref (ad 6 0)), (2, .int (iI (0))), (0, .ref (ad 4 0)), (1, .ref (ad 0 j))]) X.1 X.2.1 dX4_reasonByPrinters_6 rfl hl (by decide) rfl (fun ls hl => ?_)
  refine lv_aload_n X.1 X.2.1 dX4_reasonByPrinters_7 rfl (lv_at hl 0 rfl) ?_
  refine q_len (z := 8) X hP 6 0 3 (by decide) rfl rfl (c_va hC 0 6 (by decide)) rfl dX4_reasonByPrinters_8 ?_
  refine lv_istore (lv' := [(4, .int (iI (8))), (3, .ref (ad 6 0)), (2, .int (iI (0))), (0, .ref (ad 4 0)), (1, .ref (ad 0 j))]) X.1 X.2.1 dX4_reasonByPrinters_9 hl (by decide) rfl (fun ls hl => ?_)
  refine lv_iconst (v := iI (0)) X.1 X.2.1 dX4_reasonByPrinters_11 rfl ?_
  refine lv_istore (lv' := [(5, .int (iI (0))), (4, .int (iI (8))), (3, .ref (ad 6 0)), (2, .int (iI (0))), (0, .ref (ad 4 0)), (1, .ref (ad 0 j))]) X.1 X.2.1 dX4_reasonByPrinters_12 hl (by decide) rfl (fun ls hl => ?_)
  have e_1 : (0) = ((0 : Nat) : Int) := by rfl
  have e_2 : (0) = (c_sf C n j 0) := by rfl
  have hl : lv_has ls 7 [(5, .int (iI ((0 : Nat) : Int))), (2, .int (iI (c_sf C n j 0))), (0, .ref (ad 4 0)), (1, .ref (ad 0 j)), (3, .ref (ad 6 0)), (4, .int (iI (8)))] := lv_cong (show lv_has ls 7 [(5, .int (iI (0))), (2, .int (iI (0))), (0, .ref (ad 4 0)), (1, .ref (ad 0 j)), (3, .ref (ad 6 0)), (4, .int (iI (8)))] from lv_sub hl [0, 3, 4, 5, 2, 1] rfl) (lv_cs (congrArg (fun z => Value.int (iI z)) e_1) (lv_cs (congrArg (fun z => Value.int (iI z)) e_2) (lv_cs rfl (lv_cs rfl (lv_cs rfl (lv_cs rfl rfl))))))
  have f0 := c_Rp hR
  refine w_X4_reasonByPrinters X in0 in1 in2 in3 in4 c0 hC hR j hj (fun H locs ls hf hP hS hl => ?_) (fun H locs ls hf hP hS hl => ?_) 9 0 _ _ ls (by omega) (by omega) (fun z hz => by omega) hP hS hl
  · refine lv_iload_n X.1 X.2.1 dX4_reasonByPrinters_59 rfl (lv_at hl 0 rfl) ?_
    refine q_if_eq (tgt := 67) X (q_b32 (c_sf_b _ _ _ _)) dX4_reasonByPrinters_60 (by decide) (fun h_3 => ?_) (fun h_3 => ?_)
    · refine lv_iconst (v := iI (3)) X.1 X.2.1 dX4_reasonByPrinters_67 rfl ?_
      exact q_iret X hr hlocks hP hS (Or.inl (⟨hf, h_3, rfl, rfl⟩)) (Nat.le_of_ble_eq_true rfl) (Nat.le_of_ble_eq_true rfl) dX4_reasonByPrinters_68
    · refine lv_iconst (v := iI (4)) X.1 X.2.1 dX4_reasonByPrinters_63 rfl ?_
      refine lv_goto (tgt := 68) X.1 X.2.1 dX4_reasonByPrinters_64 (by decide) ?_
      exact q_iret X hr hlocks hP hS (Or.inr (Or.inl (⟨hf, h_3, rfl, rfl⟩))) (Nat.le_of_ble_eq_true rfl) (Nat.le_of_ble_eq_true rfl) dX4_reasonByPrinters_68
  · refine lv_iconst (v := iI (5)) X.1 X.2.1 dX4_reasonByPrinters_49 rfl ?_
    exact q_iret X hr hlocks hP hS (Or.inr (Or.inr (⟨hf, rfl, rfl⟩))) (Nat.le_of_ble_eq_true rfl) (Nat.le_of_ble_eq_true rfl) dX4_reasonByPrinters_50
set_option maxHeartbeats 4000000 in
set_option maxRecDepth 100000 in
theorem w_X4_choosePart {p : Program} {l : Launch} {e : Env} {s : State} {m : MethodId} {args : Array Value} {below : List Frame} {meth : Method} {c : Code} {Q : State → Prop} {g : q_G} {s0 : Nat} {n : Nat → Nat} {ad : Nat → Nat → Nat} {C : q_S} (X : q_X p s m args c cX4_choosePart 8 wsX4_choosePart RX4 g s0) (in0 : ∀ w ∈ wsX00, w ∈ wsX4_choosePart) (in1 : ∀ w ∈ wsX10, w ∈ wsX4_choosePart) (in2 : ∀ w ∈ wsX20, w ∈ wsX4_choosePart) (in3 : ∀ w ∈ wsX30, w ∈ wsX4_choosePart) (in4 : ∀ w ∈ wsX40, w ∈ wsX4_choosePart) (c0 : Nat) (hC : c_S C n) (hR : c_R C n c0) (p0 : Nat) (hp : p0 < n 2) (kx : ∀  (H : Heap) (locs : List Loc) (ls : Array Slot), q_P g s0 n ad C H → va_S (q_A s0) s.heap H locs → lv_has ls 8 [(2, va_rf (q_rf ad 1 (c_ch C n p0 60))), (0, .ref (ad 4 0)), (1, .ref (ad 2 p0)), (3, .ref (ad 8 0)), (4, .int (iI (60)))] → W p l e ({ frames := 2, cells := 0, slots := 0, locals := 43 }) s m args below meth c H locs 0 0 Q (F0 m 93 ls [])) :
    ∀ (N : Nat) (k : Nat) (H : Heap) (locs : List Loc) (ls : Array Slot), (60 < k + N) → (k ≤ 60) → q_P g s0 n ad C H → va_S (q_A s0) s.heap H locs → lv_has ls 8 [(5, .int (iI ((k : Nat) : Int))), (2, va_rf (q_rf ad 1 (c_ch C n p0 k))), (0, .ref (ad 4 0)), (1, .ref (ad 2 p0)), (3, .ref (ad 8 0)), (4, .int (iI (60)))] → W p l e ({ frames := 2, cells := 0, slots := 0, locals := 43 }) s m args below meth c H locs 0 0 Q (F0 m 14 ls []) := by
  intro N
  induction N with
  | zero =>
    intro k H locs ls h1 h2 hP hS hl
    exact absurd h1 (by omega)
  | succ N ih =>
    intro k H locs ls h1 h2 hP hS hl
    have f0 := c_Rj hR
    by_cases hb : (c_ch C n p0 k) = 0
    · rw [q_rf0 ad 1 hb] at hl
      refine lv_iload X.1 X.2.1 dX4_choosePart_14 (lv_at hl 0 rfl) ?_
      refine lv_iload X.1 X.2.1 dX4_choosePart_16 (lv_at hl 5 rfl) ?_
      refine q_icmp_ge (tgt := 93) X (by omega) (by decide) dX4_choosePart_18 (by decide) (fun h_1 => ?_) (fun h_1 => ?_)
      · have ek : k = 60 := by omega
        have e_2 : (.null : Value) = va_rf (q_rf ad 1 (c_ch C n p0 60)) := by subst ek; first | (rw [q_rf1 _ _ (by assumption)]; done) | (rw [q_rf0 _ _ (by assumption)]; done)
        have hl : lv_has ls 8 [(2, va_rf (q_rf ad 1 (c_ch C n p0 60))), (0, .ref (ad 4 0)), (1, .ref (ad 2 p0)), (3, .ref (ad 8 0)), (4, .int (iI (60)))] := lv_cong (show lv_has ls 8 [(2, .null), (0, .ref (ad 4 0)), (1, .ref (ad 2 p0)), (3, .ref (ad 8 0)), (4, .int (iI (60)))] from lv_sub hl [1, 2, 3, 4, 5] rfl) (lv_cs e_2 (lv_cs rfl (lv_cs rfl (lv_cs rfl (lv_cs rfl rfl)))))
        exact kx _ _ ls hP hS hl
      · refine lv_aload_n X.1 X.2.1 dX4_choosePart_21 rfl (lv_at hl 4 rfl) ?_
        refine lv_iload X.1 X.2.1 dX4_choosePart_22 (lv_at hl 0 rfl) ?_
        by_cases h_3 : k < n 0
        · refine q_rldv (len := 60) (v := ((k : Nat) : Int) + 1) X hP 8 0 0 5 (by decide) rfl rfl rfl (c_va hC 2 8 (by decide)) rfl (by omega) (by omega) ((c_R8 hR k).trans (if_pos h_3)) dX4_choosePart_24 ?_
          rw [q_rf2]
          refine lv_astore (lv' := [(6, .ref (ad 0 k)), (5, .int (iI ((k : Nat) : Int))), (2, .null), (0, .ref (ad 4 0)), (1, .ref (ad 2 p0)), (3, .ref (ad 8 0)), (4, .int (iI (60)))]) X.1 X.2.1 dX4_choosePart_25 hl (by decide) rfl (fun ls hl => ?_)
          refine lv_aload X.1 X.2.1 dX4_choosePart_27 (lv_at hl 0 rfl) ?_
          refine lv_ifnull X.1 X.2.1 dX4_choosePart_29 ?_
          refine lv_aload X.1 X.2.1 dX4_choosePart_32 (lv_at hl 0 rfl) ?_
          refine q_get (index := 133) (v := .int (iI (C 0 5 k))) X hP 0 5 k rfl rfl (by decide) in0 h_3 (by decide) (by decide +kernel) rfl dX4_choosePart_34 ?_
          refine q_if_ne (tgt := 87) X (q_b32 (hP.tok 0 5 k rfl)) dX4_choosePart_37 (by decide) (fun h_4 => ?_) (fun h_4 => ?_)
          · refine q_iinc (lv' := [(5, .int (iI (((k : Nat) : Int) + 1))), (6, .ref (ad 0 k)), (2, .null), (0, .ref (ad 4 0)), (1, .ref (ad 2 p0)), (3, .ref (ad 8 0)), (4, .int (iI (60)))]) (k := 1) X dX4_choosePart_87 hl rfl (by decide) rfl (fun ls hl => ?_)
            refine lv_goto (tgt := 14) X.1 X.2.1 dX4_choosePart_90 (by decide) ?_
            have e_5 : (((k : Nat) : Int) + 1) = (((k + 1) : Nat) : Int) := by omega
            have e_6 : (.null : Value) = va_rf (q_rf ad 1 (c_ch C n p0 (k + 1))) := by first | (rw [c_ch, if_pos ⟨by assumption, by assumption, by assumption, by assumption, by first | exact Or.inl (by assumption) | exact Or.inr (by assumption)⟩, q_rf1 _ _ (by assumption)]; done) | (rw [c_ch, if_neg (fun q => by obtain ⟨q1, q2, q3, q4, q5⟩ := q; first | contradiction | omega | (rcases q5 with q5 | q5 <;> contradiction))]; first | (rw [q_rf1 _ _ (by assumption)]; done) | (rw [q_rf0 _ _ (by assumption)]; done))
            have hl : lv_has ls 8 [(5, .int (iI (((k + 1) : Nat) : Int))), (2, va_rf (q_rf ad 1 (c_ch C n p0 (k + 1)))), (0, .ref (ad 4 0)), (1, .ref (ad 2 p0)), (3, .ref (ad 8 0)), (4, .int (iI (60)))] := lv_cong (show lv_has ls 8 [(5, .int (iI (((k : Nat) : Int) + 1))), (2, .null), (0, .ref (ad 4 0)), (1, .ref (ad 2 p0)), (3, .ref (ad 8 0)), (4, .int (iI (60)))] from lv_sub hl [0, 2, 3, 4, 5, 6] rfl) (lv_cs (congrArg (fun z => Value.int (iI z)) e_5) (lv_cs e_6 (lv_cs rfl (lv_cs rfl (lv_cs rfl (lv_cs rfl rfl))))))
            exact ih (k + 1) _ _ ls (by omega) (by omega) hP hS hl
          · refine lv_aload X.1 X.2.1 dX4_choosePart_40 (lv_at hl 0 rfl) ?_
            refine q_get (index := 185) (v := .long (jI (C 0 4 k))) X hP 0 4 k rfl rfl (by decide) in0 h_3 (by decide) (by decide +kernel) rfl dX4_choosePart_42 ?_
            refine lv_aload_n X.1 X.2.1 dX4_choosePart_45 rfl (lv_at hl 3 rfl) ?_
            refine q_get (index := 83) (v := .long (jI (C 4 10 0))) X hP 4 10 0 rfl rfl (by decide) in4 (c_v4 hC) (by decide) (by decide +kernel) rfl dX4_choosePart_46 ?_
            have f_7 := c_Rn hR
            refine q_lcmp_gt (tgt := 87) X (hP.tok 0 4 k rfl) (hP.tok 4 10 0 rfl) dX4_choosePart_49 dX4_choosePart_50 (by decide) (fun h_8 => ?_) (fun h_8 => ?_)
            · refine q_iinc (lv' := [(5, .int (iI (((k : Nat) : Int) + 1))), (6, .ref (ad 0 k)), (2, .null), (0, .ref (ad 4 0)), (1, .ref (ad 2 p0)), (3, .ref (ad 8 0)), (4, .int (iI (60)))]) (k := 1) X dX4_choosePart_87 hl rfl (by decide) rfl (fun ls hl => ?_)
              refine lv_goto (tgt := 14) X.1 X.2.1 dX4_choosePart_90 (by decide) ?_
              have e_9 : (((k : Nat) : Int) + 1) = (((k + 1) : Nat) : Int) := by omega
              have e_10 : (.null : Value) = va_rf (q_rf ad 1 (c_ch C n p0 (k + 1))) := by first | (rw [c_ch, if_pos ⟨by assumption, by assumption, by assumption, by assumption, by first | exact Or.inl (by assumption) | exact Or.inr (by assumption)⟩, q_rf1 _ _ (by assumption)]; done) | (rw [c_ch, if_neg (fun q => by obtain ⟨q1, q2, q3, q4, q5⟩ := q; first | contradiction | omega | (rcases q5 with q5 | q5 <;> contradiction))]; first | (rw [q_rf1 _ _ (by assumption)]; done) | (rw [q_rf0 _ _ (by assumption)]; done))
              have hl : lv_has ls 8 [(5, .int (iI (((k + 1) : Nat) : Int))), (2, va_rf (q_rf ad 1 (c_ch C n p0 (k + 1)))), (0, .ref (ad 4 0)), (1, .ref (ad 2 p0)), (3, .ref (ad 8 0)), (4, .int (iI (60)))] := lv_cong (show lv_has ls 8 [(5, .int (iI (((k : Nat) : Int) + 1))), (2, .null), (0, .ref (ad 4 0)), (1, .ref (ad 2 p0)), (3, .ref (ad 8 0)), (4, .int (iI (60)))] from lv_sub hl [0, 2, 3, 4, 5, 6] rfl) (lv_cs (congrArg (fun z => Value.int (iI z)) e_9) (lv_cs e_10 (lv_cs rfl (lv_cs rfl (lv_cs rfl (lv_cs rfl rfl))))))
              exact ih (k + 1) _ _ ls (by omega) (by omega) hP hS hl
            · refine lv_aload X.1 X.2.1 dX4_choosePart_53 (lv_at hl 0 rfl) ?_
              refine lv_aload_n X.1 X.2.1 dX4_choosePart_55 rfl (lv_at hl 4 rfl) ?_
              refine va_callq (va_runS (As := [.ref (ad 0 k), .ref (ad 2 p0)]) (rest := []) X.fix (c_X4_firstPartFor l g s0 n ad C c0 hR k h_3 p0 hp) (va_cwS 2 X.2.2.2.2.1 gX4_choosePart_X4_firstPartFor rfl rfl rfl (by decide +kernel) ⟨Nat.le_of_ble_eq_true rfl, Nat.le_of_ble_eq_true rfl⟩) (q_preS X hP hS _) rfl rfl hl.1 rfl (lv_room (Nat.le_of_ble_eq_true rfl)) dX4_choosePart_56 ⟨Nat.le_of_ble_eq_true rfl, Nat.le_of_ble_eq_true rfl⟩) hS q_id q_id1 (fun r u t H locs ht hvm hw hB hz1 hk1 hS => ?_)
              obtain ⟨rfl, rfl⟩ := hw
              have hP : q_P g s0 n ad (C) H := q_back hB ht
              by_cases h_11 : (c_fp C k p0 (n 1)) = 0
              · rw [q_rf0 ad 1 h_11]
                refine lv_astoreN (lv' := [(7, .null), (6, .ref (ad 0 k)), (5, .int (iI ((k : Nat) : Int))), (2, .null), (0, .ref (ad 4 0)), (1, .ref (ad 2 p0)), (3, .ref (ad 8 0)), (4, .int (iI (60)))]) X.1 X.2.1 dX4_choosePart_59 hl (by decide) rfl (fun ls hl => ?_)
                refine lv_aloadN X.1 X.2.1 dX4_choosePart_61 (lv_at hl 0 rfl) ?_
                refine lv_ifnullN (tgt := 87) X.1 X.2.1 dX4_choosePart_63 (by decide) ?_
                refine q_iinc (lv' := [(5, .int (iI (((k : Nat) : Int) + 1))), (7, .null), (6, .ref (ad 0 k)), (2, .null), (0, .ref (ad 4 0)), (1, .ref (ad 2 p0)), (3, .ref (ad 8 0)), (4, .int (iI (60)))]) (k := 2) X dX4_choosePart_87 hl rfl (by decide) rfl (fun ls hl => ?_)
                refine lv_goto (tgt := 14) X.1 X.2.1 dX4_choosePart_90 (by decide) ?_
                have e_12 : (((k : Nat) : Int) + 1) = (((k + 1) : Nat) : Int) := by omega
                have e_13 : (.null : Value) = va_rf (q_rf ad 1 (c_ch C n p0 (k + 1))) := by first | (rw [c_ch, if_pos ⟨by assumption, by assumption, by assumption, by assumption, by first | exact Or.inl (by assumption) | exact Or.inr (by assumption)⟩, q_rf1 _ _ (by assumption)]; done) | (rw [c_ch, if_neg (fun q => by obtain ⟨q1, q2, q3, q4, q5⟩ := q; first | contradiction | omega | (rcases q5 with q5 | q5 <;> contradiction))]; first | (rw [q_rf1 _ _ (by assumption)]; done) | (rw [q_rf0 _ _ (by assumption)]; done))
                have hl : lv_has ls 8 [(5, .int (iI (((k + 1) : Nat) : Int))), (2, va_rf (q_rf ad 1 (c_ch C n p0 (k + 1)))), (0, .ref (ad 4 0)), (1, .ref (ad 2 p0)), (3, .ref (ad 8 0)), (4, .int (iI (60)))] := lv_cong (show lv_has ls 8 [(5, .int (iI (((k : Nat) : Int) + 1))), (2, .null), (0, .ref (ad 4 0)), (1, .ref (ad 2 p0)), (3, .ref (ad 8 0)), (4, .int (iI (60)))] from lv_sub hl [0, 3, 4, 5, 6, 7] rfl) (lv_cs (congrArg (fun z => Value.int (iI z)) e_12) (lv_cs e_13 (lv_cs rfl (lv_cs rfl (lv_cs rfl (lv_cs rfl rfl))))))
                exact ih (k + 1) _ _ ls (by omega) (by omega) hP hS hl
              · rw [q_rf1 ad 1 h_11]
                have vh_11 : ((c_fp C k p0 (n 1)) - 1).toNat < n 1 := c_fp_v h_11
                refine lv_astore (lv' := [(7, .ref (ad 1 (((c_fp C k p0 (n 1)) - 1).toNat))), (6, .ref (ad 0 k)), (5, .int (iI ((k : Nat) : Int))), (2, .null), (0, .ref (ad 4 0)), (1, .ref (ad 2 p0)), (3, .ref (ad 8 0)), (4, .int (iI (60)))]) X.1 X.2.1 dX4_choosePart_59 hl (by decide) rfl (fun ls hl => ?_)
                refine lv_aload X.1 X.2.1 dX4_choosePart_61 (lv_at hl 0 rfl) ?_
                refine lv_ifnull X.1 X.2.1 dX4_choosePart_63 ?_
                refine lv_aload_nN X.1 X.2.1 dX4_choosePart_66 rfl (lv_at hl 3 rfl) ?_
                refine lv_ifnullN (tgt := 84) X.1 X.2.1 dX4_choosePart_67 (by decide) ?_
                refine lv_aload X.1 X.2.1 dX4_choosePart_84 (lv_at hl 0 rfl) ?_
                refine lv_astore_n (lv' := [(2, .ref (ad 1 (((c_fp C k p0 (n 1)) - 1).toNat))), (7, .ref (ad 1 (((c_fp C k p0 (n 1)) - 1).toNat))), (6, .ref (ad 0 k)), (5, .int (iI ((k : Nat) : Int))), (0, .ref (ad 4 0)), (1, .ref (ad 2 p0)), (3, .ref (ad 8 0)), (4, .int (iI (60)))]) X.1 X.2.1 dX4_choosePart_86 rfl hl (by decide) rfl (fun ls hl => ?_)
                refine q_iinc (lv' := [(5, .int (iI (((k : Nat) : Int) + 1))), (2, .ref (ad 1 (((c_fp C k p0 (n 1)) - 1).toNat))), (7, .ref (ad 1 (((c_fp C k p0 (n 1)) - 1).toNat))), (6, .ref (ad 0 k)), (0, .ref (ad 4 0)), (1, .ref (ad 2 p0)), (3, .ref (ad 8 0)), (4, .int (iI (60)))]) (k := 3) X dX4_choosePart_87 hl rfl (by decide) rfl (fun ls hl => ?_)
                refine lv_goto (tgt := 14) X.1 X.2.1 dX4_choosePart_90 (by decide) ?_
                have e_14 : (((k : Nat) : Int) + 1) = (((k + 1) : Nat) : Int) := by omega
                have e_15 : (.ref (ad 1 (((c_fp C k p0 (n 1)) - 1).toNat)) : Value) = va_rf (q_rf ad 1 (c_ch C n p0 (k + 1))) := by first | (rw [c_ch, if_pos ⟨by assumption, by assumption, by assumption, by assumption, by first | exact Or.inl (by assumption) | exact Or.inr (by assumption)⟩, q_rf1 _ _ (by assumption)]; done) | (rw [c_ch, if_neg (fun q => by obtain ⟨q1, q2, q3, q4, q5⟩ := q; first | contradiction | omega | (rcases q5 with q5 | q5 <;> contradiction))]; first | (rw [q_rf1 _ _ (by assumption)]; done) | (rw [q_rf0 _ _ (by assumption)]; done))
                have hl : lv_has ls 8 [(5, .int (iI (((k + 1) : Nat) : Int))), (2, va_rf (q_rf ad 1 (c_ch C n p0 (k + 1)))), (0, .ref (ad 4 0)), (1, .ref (ad 2 p0)), (3, .ref (ad 8 0)), (4, .int (iI (60)))] := lv_cong (show lv_has ls 8 [(5, .int (iI (((k : Nat) : Int) + 1))), (2, .ref (ad 1 (((c_fp C k p0 (n 1)) - 1).toNat))), (0, .ref (ad 4 0)), (1, .ref (ad 2 p0)), (3, .ref (ad 8 0)), (4, .int (iI (60)))] from lv_sub hl [0, 1, 4, 5, 6, 7] rfl) (lv_cs (congrArg (fun z => Value.int (iI z)) e_14) (lv_cs e_15 (lv_cs rfl (lv_cs rfl (lv_cs rfl (lv_cs rfl rfl))))))
                exact ih (k + 1) _ _ ls (by omega) (by omega) hP hS hl
        · refine q_rldv (len := 60) (v := 0) X hP 8 0 0 5 (by decide) rfl rfl rfl (c_va hC 2 8 (by decide)) rfl (by omega) (by omega) ((c_R8 hR k).trans (if_neg h_3)) dX4_choosePart_24 ?_
          rw [q_rf0 ad 0 rfl]
          refine lv_astoreN (lv' := [(6, .null), (5, .int (iI ((k : Nat) : Int))), (2, .null), (0, .ref (ad 4 0)), (1, .ref (ad 2 p0)), (3, .ref (ad 8 0)), (4, .int (iI (60)))]) X.1 X.2.1 dX4_choosePart_25 hl (by decide) rfl (fun ls hl => ?_)
          refine lv_aloadN X.1 X.2.1 dX4_choosePart_27 (lv_at hl 0 rfl) ?_
          refine lv_ifnullN (tgt := 87) X.1 X.2.1 dX4_choosePart_29 (by decide) ?_
          refine q_iinc (lv' := [(5, .int (iI (((k : Nat) : Int) + 1))), (6, .null), (2, .null), (0, .ref (ad 4 0)), (1, .ref (ad 2 p0)), (3, .ref (ad 8 0)), (4, .int (iI (60)))]) (k := 1) X dX4_choosePart_87 hl rfl (by decide) rfl (fun ls hl => ?_)
          refine lv_goto (tgt := 14) X.1 X.2.1 dX4_choosePart_90 (by decide) ?_
          have e_16 : (((k : Nat) : Int) + 1) = (((k + 1) : Nat) : Int) := by omega
          have e_17 : (.null : Value) = va_rf (q_rf ad 1 (c_ch C n p0 (k + 1))) := by first | (rw [c_ch, if_pos ⟨by assumption, by assumption, by assumption, by assumption, by first | exact Or.inl (by assumption) | exact Or.inr (by assumption)⟩, q_rf1 _ _ (by assumption)]; done) | (rw [c_ch, if_neg (fun q => by obtain ⟨q1, q2, q3, q4, q5⟩ := q; first | contradiction | omega | (rcases q5 with q5 | q5 <;> contradiction))]; first | (rw [q_rf1 _ _ (by assumption)]; done) | (rw [q_rf0 _ _ (by assumption)]; done))
          have hl : lv_has ls 8 [(5, .int (iI (((k + 1) : Nat) : Int))), (2, va_rf (q_rf ad 1 (c_ch C n p0 (k + 1)))), (0, .ref (ad 4 0)), (1, .ref (ad 2 p0)), (3, .ref (ad 8 0)), (4, .int (iI (60)))] := lv_cong (show lv_has ls 8 [(5, .int (iI (((k : Nat) : Int) + 1))), (2, .null), (0, .ref (ad 4 0)), (1, .ref (ad 2 p0)), (3, .ref (ad 8 0)), (4, .int (iI (60)))] from lv_sub hl [0, 2, 3, 4, 5, 6] rfl) (lv_cs (congrArg (fun z => Value.int (iI z)) e_16) (lv_cs e_17 (lv_cs rfl (lv_cs rfl (lv_cs rfl (lv_cs rfl rfl))))))
          exact ih (k + 1) _ _ ls (by omega) (by omega) hP hS hl
    · rw [q_rf1 ad 1 hb] at hl
      have vb : ((c_ch C n p0 k) - 1).toNat < n 1 := by have := c_ch_b C n p0 k; omega
      refine lv_iload X.1 X.2.1 dX4_choosePart_14 (lv_at hl 0 rfl) ?_
      refine lv_iload X.1 X.2.1 dX4_choosePart_16 (lv_at hl 5 rfl) ?_
      refine q_icmp_ge (tgt := 93) X (by omega) (by decide) dX4_choosePart_18 (by decide) (fun h_18 => ?_) (fun h_18 => ?_)
      · have ek : k = 60 := by omega
        have e_19 : (.ref (ad 1 (((c_ch C n p0 k) - 1).toNat)) : Value) = va_rf (q_rf ad 1 (c_ch C n p0 60)) := by subst ek; first | (rw [q_rf1 _ _ (by assumption)]; done) | (rw [q_rf0 _ _ (by assumption)]; done)
        have hl : lv_has ls 8 [(2, va_rf (q_rf ad 1 (c_ch C n p0 60))), (0, .ref (ad 4 0)), (1, .ref (ad 2 p0)), (3, .ref (ad 8 0)), (4, .int (iI (60)))] := lv_cong (show lv_has ls 8 [(2, .ref (ad 1 (((c_ch C n p0 k) - 1).toNat))), (0, .ref (ad 4 0)), (1, .ref (ad 2 p0)), (3, .ref (ad 8 0)), (4, .int (iI (60)))] from lv_sub hl [1, 2, 3, 4, 5] rfl) (lv_cs e_19 (lv_cs rfl (lv_cs rfl (lv_cs rfl (lv_cs rfl rfl)))))
        exact kx _ _ ls hP hS hl
      · refine lv_aload_n X.1 X.2.1 dX4_choosePart_21 rfl (lv_at hl 4 rfl) ?_
        refine lv_iload X.1 X.2.1 dX4_choosePart_22 (lv_at hl 0 rfl) ?_
        by_cases h_20 : k < n 0
        · refine q_rldv (len := 60) (v := ((k : Nat) : Int) + 1) X hP 8 0 0 5 (by decide) rfl rfl rfl (c_va hC 2 8 (by decide)) rfl (by omega) (by omega) ((c_R8 hR k).trans (if_pos h_20)) dX4_choosePart_24 ?_
          rw [q_rf2]
          refine lv_astore (lv' := [(6, .ref (ad 0 k)), (5, .int (iI ((k : Nat) : Int))), (2, .ref (ad 1 (((c_ch C n p0 k) - 1).toNat))), (0, .ref (ad 4 0)), (1, .ref (ad 2 p0)), (3, .ref (ad 8 0)), (4, .int (iI (60)))]) X.1 X.2.1 dX4_choosePart_25 hl (by decide) rfl (fun ls hl => ?_)
          refine lv_aload X.1 X.2.1 dX4_choosePart_27 (lv_at hl 0 rfl) ?_
          refine lv_ifnull X.1 X.2.1 dX4_choosePart_29 ?_
          refine lv_aload X.1 X.2.1 dX4_choosePart_32 (lv_at hl 0 rfl) ?_
          refine q_get (index := 133) (v := .int (iI (C 0 5 k))) X hP 0 5 k rfl rfl (by decide) in0 h_20 (by decide) (by decide +kernel) rfl dX4_choosePart_34 ?_
          refine q_if_ne (tgt := 87) X (q_b32 (hP.tok 0 5 k rfl)) dX4_choosePart_37 (by decide) (fun h_21 => ?_) (fun h_21 => ?_)
          · refine q_iinc (lv' := [(5, .int (iI (((k : Nat) : Int) + 1))), (6, .ref (ad 0 k)), (2, .ref (ad 1 (((c_ch C n p0 k) - 1).toNat))), (0, .ref (ad 4 0)), (1, .ref (ad 2 p0)), (3, .ref (ad 8 0)), (4, .int (iI (60)))]) (k := 1) X dX4_choosePart_87 hl rfl (by decide) rfl (fun ls hl => ?_)
            refine lv_goto (tgt := 14) X.1 X.2.1 dX4_choosePart_90 (by decide) ?_
            have e_22 : (((k : Nat) : Int) + 1) = (((k + 1) : Nat) : Int) := by omega
            have e_23 : (.ref (ad 1 (((c_ch C n p0 k) - 1).toNat)) : Value) = va_rf (q_rf ad 1 (c_ch C n p0 (k + 1))) := by first | (rw [c_ch, if_pos ⟨by assumption, by assumption, by assumption, by assumption, by first | exact Or.inl (by assumption) | exact Or.inr (by assumption)⟩, q_rf1 _ _ (by assumption)]; done) | (rw [c_ch, if_neg (fun q => by obtain ⟨q1, q2, q3, q4, q5⟩ := q; first | contradiction | omega | (rcases q5 with q5 | q5 <;> contradiction))]; first | (rw [q_rf1 _ _ (by assumption)]; done) | (rw [q_rf0 _ _ (by assumption)]; done))
            have hl : lv_has ls 8 [(5, .int (iI (((k + 1) : Nat) : Int))), (2, va_rf (q_rf ad 1 (c_ch C n p0 (k + 1)))), (0, .ref (ad 4 0)), (1, .ref (ad 2 p0)), (3, .ref (ad 8 0)), (4, .int (iI (60)))] := lv_cong (show lv_has ls 8 [(5, .int (iI (((k : Nat) : Int) + 1))), (2, .ref (ad 1 (((c_ch C n p0 k) - 1).toNat))), (0, .ref (ad 4 0)), (1, .ref (ad 2 p0)), (3, .ref (ad 8 0)), (4, .int (iI (60)))] from lv_sub hl [0, 2, 3, 4, 5, 6] rfl) (lv_cs (congrArg (fun z => Value.int (iI z)) e_22) (lv_cs e_23 (lv_cs rfl (lv_cs rfl (lv_cs rfl (lv_cs rfl rfl))))))
            exact ih (k + 1) _ _ ls (by omega) (by omega) hP hS hl
          · refine lv_aload X.1 X.2.1 dX4_choosePart_40 (lv_at hl 0 rfl) ?_
            refine q_get (index := 185) (v := .long (jI (C 0 4 k))) X hP 0 4 k rfl rfl (by decide) in0 h_20 (by decide) (by decide +kernel) rfl dX4_choosePart_42 ?_
            refine lv_aload_n X.1 X.2.1 dX4_choosePart_45 rfl (lv_at hl 3 rfl) ?_
            refine q_get (index := 83) (v := .long (jI (C 4 10 0))) X hP 4 10 0 rfl rfl (by decide) in4 (c_v4 hC) (by decide) (by decide +kernel) rfl dX4_choosePart_46 ?_
            have f_24 := c_Rn hR
            refine q_lcmp_gt (tgt := 87) X (hP.tok 0 4 k rfl) (hP.tok 4 10 0 rfl) dX4_choosePart_49 dX4_choosePart_50 (by decide) (fun h_25 => ?_) (fun h_25 => ?_)
            · refine q_iinc (lv' := [(5, .int (iI (((k : Nat) : Int) + 1))), (6, .ref (ad 0 k)), (2, .ref (ad 1 (((c_ch C n p0 k) - 1).toNat))), (0, .ref (ad 4 0)), (1, .ref (ad 2 p0)), (3, .ref (ad 8 0)), (4, .int (iI (60)))]) (k := 1) X dX4_choosePart_87 hl rfl (by decide) rfl (fun ls hl => ?_)
              refine lv_goto (tgt := 14) X.1 X.2.1 dX4_choosePart_90 (by decide) ?_
              have e_26 : (((k : Nat) : Int) + 1) = (((k + 1) : Nat) : Int) := by omega
              have e_27 : (.ref (ad 1 (((c_ch C n p0 k) - 1).toNat)) : Value) = va_rf (q_rf ad 1 (c_ch C n p0 (k + 1))) := by first | (rw [c_ch, if_pos ⟨by assumption, by assumption, by assumption, by assumption, by first | exact Or.inl (by assumption) | exact Or.inr (by assumption)⟩, q_rf1 _ _ (by assumption)]; done) | (rw [c_ch, if_neg (fun q => by obtain ⟨q1, q2, q3, q4, q5⟩ := q; first | contradiction | omega | (rcases q5 with q5 | q5 <;> contradiction))]; first | (rw [q_rf1 _ _ (by assumption)]; done) | (rw [q_rf0 _ _ (by assumption)]; done))
              have hl : lv_has ls 8 [(5, .int (iI (((k + 1) : Nat) : Int))), (2, va_rf (q_rf ad 1 (c_ch C n p0 (k + 1)))), (0, .ref (ad 4 0)), (1, .ref (ad 2 p0)), (3, .ref (ad 8 0)), (4, .int (iI (60)))] := lv_cong (show lv_has ls 8 [(5, .int (iI (((k : Nat) : Int) + 1))), (2, .ref (ad 1 (((c_ch C n p0 k) - 1).toNat))), (0, .ref (ad 4 0)), (1, .ref (ad 2 p0)), (3, .ref (ad 8 0)), (4, .int (iI (60)))] from lv_sub hl [0, 2, 3, 4, 5, 6] rfl) (lv_cs (congrArg (fun z => Value.int (iI z)) e_26) (lv_cs e_27 (lv_cs rfl (lv_cs rfl (lv_cs rfl (lv_cs rfl rfl))))))
              exact ih (k + 1) _ _ ls (by omega) (by omega) hP hS hl
            · refine lv_aload X.1 X.2.1 dX4_choosePart_53 (lv_at hl 0 rfl) ?_
              refine lv_aload_n X.1 X.2.1 dX4_choosePart_55 rfl (lv_at hl 4 rfl) ?_
              refine va_callq (va_runS (As := [.ref (ad 0 k), .ref (ad 2 p0)]) (rest := []) X.fix (c_X4_firstPartFor l g s0 n ad C c0 hR k h_20 p0 hp) (va_cwS 2 X.2.2.2.2.1 gX4_choosePart_X4_firstPartFor rfl rfl rfl (by decide +kernel) ⟨Nat.le_of_ble_eq_true rfl, Nat.le_of_ble_eq_true rfl⟩) (q_preS X hP hS _) rfl rfl hl.1 rfl (lv_room (Nat.le_of_ble_eq_true rfl)) dX4_choosePart_56 ⟨Nat.le_of_ble_eq_true rfl, Nat.le_of_ble_eq_true rfl⟩) hS q_id q_id1 (fun r u t H locs ht hvm hw hB hz1 hk1 hS => ?_)
              obtain ⟨rfl, rfl⟩ := hw
              have hP : q_P g s0 n ad (C) H := q_back hB ht
              by_cases h_28 : (c_fp C k p0 (n 1)) = 0
              · rw [q_rf0 ad 1 h_28]
                refine lv_astoreN (lv' := [(7, .null), (6, .ref (ad 0 k)), (5, .int (iI ((k : Nat) : Int))), (2, .ref (ad 1 (((c_ch C n p0 k) - 1).toNat))), (0, .ref (ad 4 0)), (1, .ref (ad 2 p0)), (3, .ref (ad 8 0)), (4, .int (iI (60)))]) X.1 X.2.1 dX4_choosePart_59 hl (by decide) rfl (fun ls hl => ?_)
                refine lv_aloadN X.1 X.2.1 dX4_choosePart_61 (lv_at hl 0 rfl) ?_
                refine lv_ifnullN (tgt := 87) X.1 X.2.1 dX4_choosePart_63 (by decide) ?_
                refine q_iinc (lv' := [(5, .int (iI (((k : Nat) : Int) + 1))), (7, .null), (6, .ref (ad 0 k)), (2, .ref (ad 1 (((c_ch C n p0 k) - 1).toNat))), (0, .ref (ad 4 0)), (1, .ref (ad 2 p0)), (3, .ref (ad 8 0)), (4, .int (iI (60)))]) (k := 2) X dX4_choosePart_87 hl rfl (by decide) rfl (fun ls hl => ?_)
                refine lv_goto (tgt := 14) X.1 X.2.1 dX4_choosePart_90 (by decide) ?_
                have e_29 : (((k : Nat) : Int) + 1) = (((k + 1) : Nat) : Int) := by omega
                have e_30 : (.ref (ad 1 (((c_ch C n p0 k) - 1).toNat)) : Value) = va_rf (q_rf ad 1 (c_ch C n p0 (k + 1))) := by first | (rw [c_ch, if_pos ⟨by assumption, by assumption, by assumption, by assumption, by first | exact Or.inl (by assumption) | exact Or.inr (by assumption)⟩, q_rf1 _ _ (by assumption)]; done) | (rw [c_ch, if_neg (fun q => by obtain ⟨q1, q2, q3, q4, q5⟩ := q; first | contradiction | omega | (rcases q5 with q5 | q5 <;> contradiction))]; first | (rw [q_rf1 _ _ (by assumption)]; done) | (rw [q_rf0 _ _ (by assumption)]; done))
                have hl : lv_has ls 8 [(5, .int (iI (((k + 1) : Nat) : Int))), (2, va_rf (q_rf ad 1 (c_ch C n p0 (k + 1)))), (0, .ref (ad 4 0)), (1, .ref (ad 2 p0)), (3, .ref (ad 8 0)), (4, .int (iI (60)))] := lv_cong (show lv_has ls 8 [(5, .int (iI (((k : Nat) : Int) + 1))), (2, .ref (ad 1 (((c_ch C n p0 k) - 1).toNat))), (0, .ref (ad 4 0)), (1, .ref (ad 2 p0)), (3, .ref (ad 8 0)), (4, .int (iI (60)))] from lv_sub hl [0, 3, 4, 5, 6, 7] rfl) (lv_cs (congrArg (fun z => Value.int (iI z)) e_29) (lv_cs e_30 (lv_cs rfl (lv_cs rfl (lv_cs rfl (lv_cs rfl rfl))))))
                exact ih (k + 1) _ _ ls (by omega) (by omega) hP hS hl
              · rw [q_rf1 ad 1 h_28]
                have vh_28 : ((c_fp C k p0 (n 1)) - 1).toNat < n 1 := c_fp_v h_28
                refine lv_astore (lv' := [(7, .ref (ad 1 (((c_fp C k p0 (n 1)) - 1).toNat))), (6, .ref (ad 0 k)), (5, .int (iI ((k : Nat) : Int))), (2, .ref (ad 1 (((c_ch C n p0 k) - 1).toNat))), (0, .ref (ad 4 0)), (1, .ref (ad 2 p0)), (3, .ref (ad 8 0)), (4, .int (iI (60)))]) X.1 X.2.1 dX4_choosePart_59 hl (by decide) rfl (fun ls hl => ?_)
                refine lv_aload X.1 X.2.1 dX4_choosePart_61 (lv_at hl 0 rfl) ?_
                refine lv_ifnull X.1 X.2.1 dX4_choosePart_63 ?_
                refine lv_aload_n X.1 X.2.1 dX4_choosePart_66 rfl (lv_at hl 3 rfl) ?_
                refine lv_ifnull X.1 X.2.1 dX4_choosePart_67 ?_
                refine lv_aload_n X.1 X.2.1 dX4_choosePart_70 rfl (lv_at hl 4 rfl) ?_
                refine lv_aload X.1 X.2.1 dX4_choosePart_71 (lv_at hl 1 rfl) ?_
                refine lv_aload_n X.1 X.2.1 dX4_choosePart_73 rfl (lv_at hl 3 rfl) ?_
                refine q_get (index := 101) (v := .ref (ad 0 ((C 1 0 (((c_ch C n p0 k) - 1).toNat) - 1).toNat))) X hP 1 0 (((c_ch C n p0 k) - 1).toNat) rfl rfl (by decide) in1 vb (by decide) (by decide +kernel) (q_vnn ad 0 (c_jn hR (((c_ch C n p0 k) - 1).toNat) vb)) dX4_choosePart_74 ?_
                refine lv_aload_n X.1 X.2.1 dX4_choosePart_77 rfl (lv_at hl 5 rfl) ?_
                refine va_calli (va_runV (As := [.ref (ad 0 k), .ref (ad 0 ((C 1 0 (((c_ch C n p0 k) - 1).toNat) - 1).toNat)), .ref (ad 2 p0)]) (rest := []) X.fix (c_X4_goesBefore l g s0 n ad C c0 hC hR k ((C 1 0 (((c_ch C n p0 k) - 1).toNat) - 1).toNat) p0 h_20 (q_rfl (hP.tok 1 0 (((c_ch C n p0 k) - 1).toNat) rfl) (c_jn hR (((c_ch C n p0 k) - 1).toNat) vb)) hp) (cwV 3 X.2.2.2.2.1 gX4_choosePart_X4_goesBefore rfl rfl rfl (by decide +kernel) ⟨Nat.le_of_ble_eq_true rfl, Nat.le_of_ble_eq_true rfl⟩) (q_preV X hP hS [.ref (ad 0 k), .ref (ad 0 ((C 1 0 (((c_ch C n p0 k) - 1).toNat) - 1).toNat)), .ref (ad 2 p0)] (kd := 4) (by decide) rfl (c_v4 hC)) rfl rfl hl.1 rfl (lv_room (Nat.le_of_ble_eq_true rfl)) dX4_choosePart_78 ⟨Nat.le_of_ble_eq_true rfl, Nat.le_of_ble_eq_true rfl⟩) hS q_id q_id1 (fun r u t H locs ht hvm hw hB hz1 hk1 hS => ?_)
                obtain ⟨rfl, ⟨h_31, rfl⟩ | ⟨h_31, rfl⟩⟩ := hw
                · have hP : q_P g s0 n ad (C) H := q_back hB ht
                  have h_31 : c_bef C k ((C 1 0 (((c_ch C n p0 k) - 1).toNat) - 1).toNat) p0 := h_31
                  refine q_if_eq (tgt := 87) X (by decide) dX4_choosePart_81 (by decide) (fun h => absurd h (by decide)) (fun _ => ?_)
                  refine lv_aload X.1 X.2.1 dX4_choosePart_84 (lv_at hl 0 rfl) ?_
                  refine lv_astore_n (lv' := [(2, .ref (ad 1 (((c_fp C k p0 (n 1)) - 1).toNat))), (7, .ref (ad 1 (((c_fp C k p0 (n 1)) - 1).toNat))), (6, .ref (ad 0 k)), (5, .int (iI ((k : Nat) : Int))), (0, .ref (ad 4 0)), (1, .ref (ad 2 p0)), (3, .ref (ad 8 0)), (4, .int (iI (60)))]) X.1 X.2.1 dX4_choosePart_86 rfl hl (by decide) rfl (fun ls hl => ?_)
                  refine q_iinc (lv' := [(5, .int (iI (((k : Nat) : Int) + 1))), (2, .ref (ad 1 (((c_fp C k p0 (n 1)) - 1).toNat))), (7, .ref (ad 1 (((c_fp C k p0 (n 1)) - 1).toNat))), (6, .ref (ad 0 k)), (0, .ref (ad 4 0)), (1, .ref (ad 2 p0)), (3, .ref (ad 8 0)), (4, .int (iI (60)))]) (k := 3) X dX4_choosePart_87 hl rfl (by decide) rfl (fun ls hl => ?_)
                  refine lv_goto (tgt := 14) X.1 X.2.1 dX4_choosePart_90 (by decide) ?_
                  have e_33 : (((k : Nat) : Int) + 1) = (((k + 1) : Nat) : Int) := by omega
                  have e_34 : (.ref (ad 1 (((c_fp C k p0 (n 1)) - 1).toNat)) : Value) = va_rf (q_rf ad 1 (c_ch C n p0 (k + 1))) := by first | (rw [c_ch, if_pos ⟨by assumption, by assumption, by assumption, by assumption, by first | exact Or.inl (by assumption) | exact Or.inr (by assumption)⟩, q_rf1 _ _ (by assumption)]; done) | (rw [c_ch, if_neg (fun q => by obtain ⟨q1, q2, q3, q4, q5⟩ := q; first | contradiction | omega | (rcases q5 with q5 | q5 <;> contradiction))]; first | (rw [q_rf1 _ _ (by assumption)]; done) | (rw [q_rf0 _ _ (by assumption)]; done))
                  have hl : lv_has ls 8 [(5, .int (iI (((k + 1) : Nat) : Int))), (2, va_rf (q_rf ad 1 (c_ch C n p0 (k + 1)))), (0, .ref (ad 4 0)), (1, .ref (ad 2 p0)), (3, .ref (ad 8 0)), (4, .int (iI (60)))] := lv_cong (show lv_has ls 8 [(5, .int (iI (((k : Nat) : Int) + 1))), (2, .ref (ad 1 (((c_fp C k p0 (n 1)) - 1).toNat))), (0, .ref (ad 4 0)), (1, .ref (ad 2 p0)), (3, .ref (ad 8 0)), (4, .int (iI (60)))] from lv_sub hl [0, 1, 4, 5, 6, 7] rfl) (lv_cs (congrArg (fun z => Value.int (iI z)) e_33) (lv_cs e_34 (lv_cs rfl (lv_cs rfl (lv_cs rfl (lv_cs rfl rfl))))))
                  exact ih (k + 1) _ _ ls (by omega) (by omega) hP hS hl
                · have hP : q_P g s0 n ad (C) H := q_back hB ht
                  have h_31 : ¬ (c_bef C k ((C 1 0 (((c_ch C n p0 k) - 1).toNat) - 1).toNat) p0) := h_31
                  refine q_if_eq (tgt := 87) X (by decide) dX4_choosePart_81 (by decide) (fun _ => ?_) (fun h => absurd h (by decide))
                  refine q_iinc (lv' := [(5, .int (iI (((k : Nat) : Int) + 1))), (7, .ref (ad 1 (((c_fp C k p0 (n 1)) - 1).toNat))), (6, .ref (ad 0 k)), (2, .ref (ad 1 (((c_ch C n p0 k) - 1).toNat))), (0, .ref (ad 4 0)), (1, .ref (ad 2 p0)), (3, .ref (ad 8 0)), (4, .int (iI (60)))]) (k := 2) X dX4_choosePart_87 hl rfl (by decide) rfl (fun ls hl => ?_)
                  refine lv_goto (tgt := 14) X.1 X.2.1 dX4_choosePart_90 (by decide) ?_
                  have e_36 : (((k : Nat) : Int) + 1) = (((k + 1) : Nat) : Int) := by omega
                  have e_37 : (.ref (ad 1 (((c_ch C n p0 k) - 1).toNat)) : Value) = va_rf (q_rf ad 1 (c_ch C n p0 (k + 1))) := by first | (rw [c_ch, if_pos ⟨by assumption, by assumption, by assumption, by assumption, by first | exact Or.inl (by assumption) | exact Or.inr (by assumption)⟩, q_rf1 _ _ (by assumption)]; done) | (rw [c_ch, if_neg (fun q => by obtain ⟨q1, q2, q3, q4, q5⟩ := q; first | contradiction | omega | (rcases q5 with q5 | q5 <;> contradiction))]; first | (rw [q_rf1 _ _ (by assumption)]; done) | (rw [q_rf0 _ _ (by assumption)]; done))
                  have hl : lv_has ls 8 [(5, .int (iI (((k + 1) : Nat) : Int))), (2, va_rf (q_rf ad 1 (c_ch C n p0 (k + 1)))), (0, .ref (ad 4 0)), (1, .ref (ad 2 p0)), (3, .ref (ad 8 0)), (4, .int (iI (60)))] := lv_cong (show lv_has ls 8 [(5, .int (iI (((k : Nat) : Int) + 1))), (2, .ref (ad 1 (((c_ch C n p0 k) - 1).toNat))), (0, .ref (ad 4 0)), (1, .ref (ad 2 p0)), (3, .ref (ad 8 0)), (4, .int (iI (60)))] from lv_sub hl [0, 3, 4, 5, 6, 7] rfl) (lv_cs (congrArg (fun z => Value.int (iI z)) e_36) (lv_cs e_37 (lv_cs rfl (lv_cs rfl (lv_cs rfl (lv_cs rfl rfl))))))
                  exact ih (k + 1) _ _ ls (by omega) (by omega) hP hS hl
        · refine q_rldv (len := 60) (v := 0) X hP 8 0 0 5 (by decide) rfl rfl rfl (c_va hC 2 8 (by decide)) rfl (by omega) (by omega) ((c_R8 hR k).trans (if_neg h_20)) dX4_choosePart_24 ?_
          rw [q_rf0 ad 0 rfl]
          refine lv_astoreN (lv' := [(6, .null), (5, .int (iI ((k : Nat) : Int))), (2, .ref (ad 1 (((c_ch C n p0 k) - 1).toNat))), (0, .ref (ad 4 0)), (1, .ref (ad 2 p0)), (3, .ref (ad 8 0)), (4, .int (iI (60)))]) X.1 X.2.1 dX4_choosePart_25 hl (by decide) rfl (fun ls hl => ?_)
          refine lv_aloadN X.1 X.2.1 dX4_choosePart_27 (lv_at hl 0 rfl) ?_
          refine lv_ifnullN (tgt := 87) X.1 X.2.1 dX4_choosePart_29 (by decide) ?_
          refine q_iinc (lv' := [(5, .int (iI (((k : Nat) : Int) + 1))), (6, .null), (2, .ref (ad 1 (((c_ch C n p0 k) - 1).toNat))), (0, .ref (ad 4 0)), (1, .ref (ad 2 p0)), (3, .ref (ad 8 0)), (4, .int (iI (60)))]) (k := 1) X dX4_choosePart_87 hl rfl (by decide) rfl (fun ls hl => ?_)
          refine lv_goto (tgt := 14) X.1 X.2.1 dX4_choosePart_90 (by decide) ?_
          have e_38 : (((k : Nat) : Int) + 1) = (((k + 1) : Nat) : Int) := by omega
          have e_39 : (.ref (ad 1 (((c_ch C n p0 k) - 1).toNat)) : Value) = va_rf (q_rf ad 1 (c_ch C n p0 (k + 1))) := by first | (rw [c_ch, if_pos ⟨by assumption, by assumption, by assumption, by assumption, by first | exact Or.inl (by assumption) | exact Or.inr (by assumption)⟩, q_rf1 _ _ (by assumption)]; done) | (rw [c_ch, if_neg (fun q => by obtain ⟨q1, q2, q3, q4, q5⟩ := q; first | contradiction | omega | (rcases q5 with q5 | q5 <;> contradiction))]; first | (rw [q_rf1 _ _ (by assumption)]; done) | (rw [q_rf0 _ _ (by assumption)]; done))
          have hl : lv_has ls 8 [(5, .int (iI (((k + 1) : Nat) : Int))), (2, va_rf (q_rf ad 1 (c_ch C n p0 (k + 1)))), (0, .ref (ad 4 0)), (1, .ref (ad 2 p0)), (3, .ref (ad 8 0)), (4, .int (iI (60)))] := lv_cong (show lv_has ls 8 [(5, .int (iI (((k : Nat) : Int) + 1))), (2, .ref (ad 1 (((c_ch C n p0 k) - 1).toNat))), (0, .ref (ad 4 0)), (1, .ref (ad 2 p0)), (3, .ref (ad 8 0)), (4, .int (iI (60)))] from lv_sub hl [0, 2, 3, 4, 5, 6] rfl) (lv_cs (congrArg (fun z => Value.int (iI z)) e_38) (lv_cs e_39 (lv_cs rfl (lv_cs rfl (lv_cs rfl (lv_cs rfl rfl))))))
          exact ih (k + 1) _ _ ls (by omega) (by omega) hP hS hl
set_option maxHeartbeats 4000000 in
set_option maxRecDepth 100000 in
theorem c_X4_choosePart (l : Launch) (g : q_G) (s0 : Nat) (n : Nat → Nat) (ad : Nat → Nat → Nat) (C : q_S) (c0 : Nat) (hC : c_S C n) (hR : c_R C n c0) (p0 : Nat) (hp : p0 < n 2) : Met l yX4_choosePart wsX4_choosePart ({ frames := 2, cells := 0, slots := 0, locals := 43 }) (va_Pc [.ref (ad 4 0), .ref (ad 2 p0)] (q_B g s0 (n, ad, C))) (va_Qq (fun r u => u = (n, ad, C) ∧ r = q_rf ad 1 (c_ch C n p0 60)) (q_B g s0) (q_A s0)) 0 0 (q_A s0) := by
  refine Met.ofW (cc := cX4_choosePart) (maxL := 8) (ret := (some (.object "PrintQueue$Part"))) (by decide) rfl ?_
  intro p e s m args below meth c s₁ B hml hv
  obtain ⟨rfl, hv⟩ := hv
  have hr := B.returns
  have hlocks := B.notSynchronized
  obtain ⟨X, hP⟩ := q_start B.exec B.bytes hml (show s.vm.findClass RX4 = some m.cls from findClass_of_methodNamed B.named) (atoms_spec (ws := wsX4_choosePart) B.pre) hv
  have hP : q_P g s0 n ad C s.heap := hP
  have hS : va_S (q_A s0) s.heap s.heap [] := va_S.rf
  have in0 : ∀ w ∈ wsX00, w ∈ wsX4_choosePart := by decide +kernel
  have in1 : ∀ w ∈ wsX10, w ∈ wsX4_choosePart := by decide +kernel
  have in2 : ∀ w ∈ wsX20, w ∈ wsX4_choosePart := by decide +kernel
  have in3 : ∀ w ∈ wsX30, w ∈ wsX4_choosePart := by decide +kernel
  have in4 : ∀ w ∈ wsX40, w ∈ wsX4_choosePart := by decide +kernel
  have hl := lv_entry ([.ref (ad 4 0), .ref (ad 2 p0)]) (n := 8) (Nat.le_of_ble_eq_true rfl)
  rw [lg_entry_eq]
  generalize (lg_sl ([.ref (ad 4 0), .ref (ad 2 p0)]) ++ List.replicate (8 - (lg_sl ([.ref (ad 4 0), .ref (ad 2 p0)])).length) Slot.unset).toArray = ls at hl ⊢
  have hl : lv_has ls 8 [(0, .ref (ad 4 0)), (1, .ref (ad 2 p0))] := hl
  refine lv_null X.1 X.2.1 dX4_choosePart_0 ?_
  refine lv_astore_nN (lv' := [(2, .null), (0, .ref (ad 4 0)), (1, .ref (ad 2 p0))]) X.1 X.2.1 dX4_choosePart_1 rfl hl (by decide) rfl (fun ls hl => ?_)
  refine lv_aload_n X.1 X.2.1 dX4_choosePart_2 rfl (lv_at hl 1 rfl) ?_
  refine q_get (index := 23) (v := .ref (ad 8 0)) X hP 4 2 0 rfl rfl (by decide) in4 (c_v4 hC) (by decide) (by decide +kernel) (c_r hC ad 2 8 (by decide)) dX4_choosePart_3 ?_
  refine lv_astore_n (lv' := [(3, .ref (ad 8 0)), (2, .null), (0, .ref (ad 4 0)), (1, .ref (ad 2 p0))]) X.1 X.2.1 dX4_choosePart_6 rfl hl (by decide) rfl (fun ls hl => ?_)
  refine lv_aload_n X.1 X.2.1 dX4_choosePart_7 rfl (lv_at hl 0 rfl) ?_
  refine q_len (z := 60) X hP 8 0 5 (by decide) rfl rfl (c_va hC 2 8 (by decide)) rfl dX4_choosePart_8 ?_
  refine lv_istore (lv' := [(4, .int (iI (60))), (3, .ref (ad 8 0)), (2, .null), (0, .ref (ad 4 0)), (1, .ref (ad 2 p0))]) X.1 X.2.1 dX4_choosePart_9 hl (by decide) rfl (fun ls hl => ?_)
  refine lv_iconst (v := iI (0)) X.1 X.2.1 dX4_choosePart_11 rfl ?_
  refine lv_istore (lv' := [(5, .int (iI (0))), (4, .int (iI (60))), (3, .ref (ad 8 0)), (2, .null), (0, .ref (ad 4 0)), (1, .ref (ad 2 p0))]) X.1 X.2.1 dX4_choosePart_12 hl (by decide) rfl (fun ls hl => ?_)
  have e_1 : (0) = ((0 : Nat) : Int) := by rfl
  have e_2 : (.null : Value) = va_rf (q_rf ad 1 (c_ch C n p0 0)) := by rfl
  have hl : lv_has ls 8 [(5, .int (iI ((0 : Nat) : Int))), (2, va_rf (q_rf ad 1 (c_ch C n p0 0))), (0, .ref (ad 4 0)), (1, .ref (ad 2 p0)), (3, .ref (ad 8 0)), (4, .int (iI (60)))] := lv_cong (show lv_has ls 8 [(5, .int (iI (0))), (2, .null), (0, .ref (ad 4 0)), (1, .ref (ad 2 p0)), (3, .ref (ad 8 0)), (4, .int (iI (60)))] from lv_sub hl [0, 3, 4, 5, 2, 1] rfl) (lv_cs (congrArg (fun z => Value.int (iI z)) e_1) (lv_cs e_2 (lv_cs rfl (lv_cs rfl (lv_cs rfl (lv_cs rfl rfl))))))
  refine w_X4_choosePart X in0 in1 in2 in3 in4 c0 hC hR p0 hp (fun H locs ls hP hS hl => ?_) 61 0 _ _ ls (by omega) (by omega) hP hS hl
  by_cases hb : (c_ch C n p0 60) = 0
  · rw [q_rf0 ad 1 hb] at hl
    refine lv_aload_nN X.1 X.2.1 dX4_choosePart_93 rfl (lv_at hl 0 rfl) ?_
    exact q_aret (r := none) X hr hlocks hP hS ⟨rfl, by unfold q_rf; first | (rw [if_pos hb]; done) | (rw [if_neg hb]; done)⟩ (Nat.le_of_ble_eq_true rfl) (Nat.le_of_ble_eq_true rfl) dX4_choosePart_94
  · rw [q_rf1 ad 1 hb] at hl
    refine lv_aload_n X.1 X.2.1 dX4_choosePart_93 rfl (lv_at hl 0 rfl) ?_
    exact q_aret (r := (some (ad 1 (((c_ch C n p0 60) - 1).toNat)))) X hr hlocks hP hS ⟨rfl, by unfold q_rf; first | (rw [if_pos hb]; done) | (rw [if_neg hb]; done)⟩ (Nat.le_of_ble_eq_true rfl) (Nat.le_of_ble_eq_true rfl) dX4_choosePart_94
end
section
section QTSW
variable {p : Program} {l : Launch} {e : Env} {R : Room} {s : State} {m : MethodId} {args : Array Value} {below : List Frame} {meth : Method} {c : Code} {H : Heap} {locs : List Loc} {cells slots : Nat} {Q : State → Prop}
variable {cc : ByteArray} {pc nL : Nat} {ls : Array Slot} {rest : List Value} {g : q_G} {s0 : Nat} {Ts : List Cond} {own : String}
theorem q_tsi (X : q_X p s m args c cc nL Ts own g s0) {dflt lo hi : Int} {offs : Array Int} {len : Nat} {a : Int} {off : Int} {tgt : Nat} (ha : R32 a) (hdg : decode cc pc = .ok (.tableswitch dflt lo hi offs, len)) (h1 : ¬ a < lo) (h2 : ¬ hi < a) (ho : offs[(a - lo).toNat]? = some off) (ht : (pc : Int) + off = (tgt : Int))
    (k : W p l e R s m args below meth c H locs cells slots Q (F0 m tgt ls rest)) : W p l e R s m args below meth c H locs cells slots Q (F0 m pc ls (.int (iI a) :: rest)) := lv_tableIn X.1 X.2.1 hdg (by rw [iI_t ha]; exact h1) (by rw [iI_t ha]; exact h2) (by rw [iI_t ha]; exact ho) ht k
theorem q_tso (X : q_X p s m args c cc nL Ts own g s0) {dflt lo hi : Int} {offs : Array Int} {len : Nat} {a : Int} {tgt : Nat} (ha : R32 a) (hdg : decode cc pc = .ok (.tableswitch dflt lo hi offs, len)) (h : a < lo ∨ hi < a) (ht : (pc : Int) + dflt = (tgt : Int))
    (k : W p l e R s m args below meth c H locs cells slots Q (F0 m tgt ls rest)) : W p l e R s m args below meth c H locs cells slots Q (F0 m pc ls (.int (iI a) :: rest)) := lv_tableOut X.1 X.2.1 hdg (by rw [iI_t ha]; exact h) ht k
end QTSW
theorem q_hz0 (ad : Nat → Nat → Nat) : ∀ k, k < 8 → defaultValue (tyX0 k) = q_val ad (q_ty 0 k) 0 := by
  intro k hk
  rcases (show k = 0 ∨ k = 1 ∨ k = 2 ∨ k = 3 ∨ k = 4 ∨ k = 5 ∨ k = 6 ∨ k = 7 by omega) with rfl | rfl | rfl | rfl | rfl | rfl | rfl | rfl <;> rfl
theorem q_hz1 (ad : Nat → Nat → Nat) : ∀ k, k < 7 → defaultValue (tyX1 k) = q_val ad (q_ty 1 k) 0 := by
  intro k hk
  rcases (show k = 0 ∨ k = 1 ∨ k = 2 ∨ k = 3 ∨ k = 4 ∨ k = 5 ∨ k = 6 by omega) with rfl | rfl | rfl | rfl | rfl | rfl | rfl <;> rfl
theorem q_hz2 (ad : Nat → Nat → Nat) : ∀ k, k < 6 → defaultValue (tyX2 k) = q_val ad (q_ty 2 k) 0 := by
  intro k hk
  rcases (show k = 0 ∨ k = 1 ∨ k = 2 ∨ k = 3 ∨ k = 4 ∨ k = 5 by omega) with rfl | rfl | rfl | rfl | rfl | rfl <;> rfl
theorem q_hz3 (ad : Nat → Nat → Nat) : ∀ k, k < 6 → defaultValue (tyX3 k) = q_val ad (q_ty 3 k) 0 := by
  intro k hk
  rcases (show k = 0 ∨ k = 1 ∨ k = 2 ∨ k = 3 ∨ k = 4 ∨ k = 5 by omega) with rfl | rfl | rfl | rfl | rfl | rfl <;> rfl
theorem q_up_up (C : q_S) (kd s i : Nat) (x y : Int) : q_up (q_up C kd s i x) kd s i y = q_up C kd s i y := by
  funext a b d
  unfold q_up
  split <;> rfl
theorem q_up_own {C : q_S} {kd s i : Nat} {x : Int} (h : x = C kd s i) : q_up C kd s i x = C := by
  funext a b d
  unfold q_up
  split
  · rename_i q
    obtain ⟨rfl, rfl, rfl⟩ := q
    exact h
  · rfl
theorem q_P_own {g : q_G} {s0 : Nat} {n : Nat → Nat} {ad : Nat → Nat → Nat} {D : q_S} {H : Heap} {kd s i : Nat} {x : Int} (e : D kd s i = x) (h : q_P g s0 n ad D H) : q_P g s0 n ad (q_up D kd s i x) H := by rw [q_up_own e.symm]; exact h
/-- what printing changes: a ticket's pages and sheets, a printer's mark, a part's pages and copies -/
def c_pst (C : q_S) (p i T : Nat) (x1 x2 x3 x4 x5 : Int) : q_S := q_up (q_up (q_up (q_up (q_up C 3 2 T x1) 3 3 T x2) 2 5 p x3) 1 5 i x4) 1 4 i x5
theorem c_pst_c (C : q_S) (p i T : Nat) (x1 x2 x3 x4 x5 y1 y2 y3 y4 y5 : Int) : c_pst (c_pst C p i T x1 x2 x3 x4 x5) p i T y1 y2 y3 y4 y5 = c_pst C p i T y1 y2 y3 y4 y5 := by
  funext a b d
  simp only [c_pst, q_up]
  by_cases h1 : a = 1 ∧ b = 4 ∧ d = i
  · simp [h1]
  · by_cases h2 : a = 1 ∧ b = 5 ∧ d = i
    · simp [h2]
    · by_cases h3 : a = 2 ∧ b = 5 ∧ d = p
      · simp [h3]
      · by_cases h4 : a = 3 ∧ b = 3 ∧ d = T
        · simp [h4]
        · by_cases h5 : a = 3 ∧ b = 2 ∧ d = T
          · simp [h5]
          · simp only [if_neg h1, if_neg h2, if_neg h3, if_neg h4, if_neg h5]
theorem c_pst_0 (C : q_S) (p i T : Nat) : c_pst C p i T (C 3 2 T) (C 3 3 T) (C 2 5 p) (C 1 5 i) (C 1 4 i) = C := by
  unfold c_pst
  rw [q_up_own (C := C) rfl, q_up_own (C := C) rfl, q_up_own (C := C) rfl, q_up_own (C := C) rfl, q_up_own (C := C) rfl]
def c_cn (P x a : Int) : Int := if P - x < a then P - x else a
def c_xn (P x c : Int) : Int := if P ≤ x + c then 0 else x + c
def c_wn (P x c w : Int) : Int := if P ≤ x + c then w + 1 else w
def c_sn (sd x c d : Int) : Int := if sd = 1 then c else c_sh2 x c d
/-- printing copy by copy: copies, pages of the copy that is begun, pages that came out, sheets, the mark -/
def c_sq (P K sd b w0 x0 s1 d0 : Int) : Nat → Int × Int × Int × Int × Int
  | 0 => (w0, x0, 0, s1, d0)
  | t + 1 => if (c_sq P K sd b w0 x0 s1 d0 t).2.2.1 < b ∧ (c_sq P K sd b w0 x0 s1 d0 t).1 < K then
      (c_wn P (c_sq P K sd b w0 x0 s1 d0 t).2.1 (c_cn P (c_sq P K sd b w0 x0 s1 d0 t).2.1 (b - (c_sq P K sd b w0 x0 s1 d0 t).2.2.1)) (c_sq P K sd b w0 x0 s1 d0 t).1,
       c_xn P (c_sq P K sd b w0 x0 s1 d0 t).2.1 (c_cn P (c_sq P K sd b w0 x0 s1 d0 t).2.1 (b - (c_sq P K sd b w0 x0 s1 d0 t).2.2.1)),
       (c_sq P K sd b w0 x0 s1 d0 t).2.2.1 + c_cn P (c_sq P K sd b w0 x0 s1 d0 t).2.1 (b - (c_sq P K sd b w0 x0 s1 d0 t).2.2.1),
       (c_sq P K sd b w0 x0 s1 d0 t).2.2.2.1 + c_sn sd (c_sq P K sd b w0 x0 s1 d0 t).2.1 (c_cn P (c_sq P K sd b w0 x0 s1 d0 t).2.1 (b - (c_sq P K sd b w0 x0 s1 d0 t).2.2.1)) (c_sq P K sd b w0 x0 s1 d0 t).2.2.2.2, 0)
    else c_sq P K sd b w0 x0 s1 d0 t
theorem c_sq_st {P K sd b w0 x0 s1 d0 : Int} {t : Nat} (h : ¬ ((c_sq P K sd b w0 x0 s1 d0 t).2.2.1 < b ∧ (c_sq P K sd b w0 x0 s1 d0 t).1 < K)) : ∀ i, c_sq P K sd b w0 x0 s1 d0 (t + i) = c_sq P K sd b w0 x0 s1 d0 t := by
  intro i
  induction i with
  | zero => rfl
  | succ i ih => rw [← Nat.add_assoc, c_sq, ih, if_neg h]
theorem c_sh2_b {a b d : Int} (ha : 0 ≤ a) (hb : 0 ≤ b) : 0 ≤ c_sh2 a b d ∧ c_sh2 a b d ≤ b + 1 := by
  unfold c_sh2
  split <;> omega
theorem c_sn_b {sd x c d : Int} (hx : 0 ≤ x) (hc : 0 ≤ c) : 0 ≤ c_sn sd x c d ∧ c_sn sd x c d ≤ c + 1 := by
  have := c_sh2_b (d := d) hx hc
  unfold c_sn
  split <;> omega
theorem c_sq_i {P K sd b w0 x0 s1 d0 : Int} (hP : 1 ≤ P ∧ P ≤ 500) (hx : 0 ≤ x0 ∧ x0 < P) (hw : 0 ≤ w0 ∧ w0 ≤ K) (hb : 0 ≤ b) (hd : d0 = 0 ∨ d0 = 1) (t : Nat) :
    (0 ≤ (c_sq P K sd b w0 x0 s1 d0 t).1 ∧ (c_sq P K sd b w0 x0 s1 d0 t).1 ≤ K) ∧ (0 ≤ (c_sq P K sd b w0 x0 s1 d0 t).2.1 ∧ (c_sq P K sd b w0 x0 s1 d0 t).2.1 < P) ∧ (0 ≤ (c_sq P K sd b w0 x0 s1 d0 t).2.2.1 ∧ (c_sq P K sd b w0 x0 s1 d0 t).2.2.1 ≤ b) ∧
    (s1 ≤ (c_sq P K sd b w0 x0 s1 d0 t).2.2.2.1 ∧ (c_sq P K sd b w0 x0 s1 d0 t).2.2.2.1 ≤ s1 + (c_sq P K sd b w0 x0 s1 d0 t).2.2.1 + t) ∧ ((c_sq P K sd b w0 x0 s1 d0 t).2.2.2.2 = 0 ∨ (c_sq P K sd b w0 x0 s1 d0 t).2.2.2.2 = 1) := by
  induction t with
  | zero => simp only [c_sq]; omega
  | succ t ih =>
    rw [c_sq]
    generalize c_sq P K sd b w0 x0 s1 d0 t = q at ih ⊢
    obtain ⟨w, x, o, s, d⟩ := q
    simp only at ih ⊢
    split
    · rename_i h
      have h1 : 0 ≤ c_cn P x (b - o) ∧ c_cn P x (b - o) ≤ b - o ∧ x + c_cn P x (b - o) ≤ P := by
        unfold c_cn
        split <;> omega
      have h2 := c_sn_b (sd := sd) (d := d) ih.2.1.1 h1.1
      have h3 : 0 ≤ c_xn P x (c_cn P x (b - o)) ∧ c_xn P x (c_cn P x (b - o)) < P := by
        unfold c_xn
        split <;> omega
      have h4 : w ≤ c_wn P x (c_cn P x (b - o)) w ∧ c_wn P x (c_cn P x (b - o)) w ≤ w + 1 := by
        unfold c_wn
        split <;> omega
      refine ⟨⟨?_, ?_⟩, ⟨?_, ?_⟩, ⟨?_, ?_⟩, ⟨?_, ?_⟩, Or.inl rfl⟩ <;> simp only <;> omega
    · refine ⟨⟨?_, ?_⟩, ⟨?_, ?_⟩, ⟨?_, ?_⟩, ⟨?_, ?_⟩, ih.2.2.2.2⟩ <;> simp only <;> omega
set_option maxHeartbeats 4000000 in
set_option maxRecDepth 100000 in
theorem c_X4_printInCopy (l : Launch) (g : q_G) (s0 : Nat) (n : Nat → Nat) (ad : Nat → Nat → Nat) (C : q_S) (p0 : Nat) (hp : p0 < n 2) (i : Nat) (hi : i < n 1) (j : Nat) (hj : j < n 0) (hjb : C 1 0 i = (j : Int) + 1) (T : Nat) (hT : T < n 3) (htk : C 0 1 j = (T : Int) + 1) (h02 : 1 ≤ C 0 2 j ∧ C 0 2 j ≤ 500) (h15 : 0 ≤ C 1 5 i ∧ C 1 5 i < C 0 2 j) (h14 : 0 ≤ C 1 4 i ∧ C 1 4 i ≤ 99) (h32 : 0 ≤ C 3 2 T ∧ C 3 2 T ≤ 1000000000) (h33 : 0 ≤ C 3 3 T ∧ C 3 3 T ≤ 1000000000) (a : Int) (ha : 0 ≤ a ∧ a ≤ 50000) : Met l yX4_printInCopy wsX4_printInCopy ({ frames := 1, cells := 0, slots := 0, locals := 24 }) (va_Pc [.ref (ad 2 p0), .ref (ad 1 i), .int (iI a)] (q_B g s0 (n, ad, C))) (va_Qi (fun r u => u = (n, ad, c_pst C p0 i T (C 3 2 T + (c_cn (C 0 2 j) (C 1 5 i) a)) (C 3 3 T + c_sn (C 3 1 T) (C 1 5 i) (c_cn (C 0 2 j) (C 1 5 i) a) (C 2 5 p0)) 0 (c_xn (C 0 2 j) (C 1 5 i) (c_cn (C 0 2 j) (C 1 5 i) a)) (c_wn (C 0 2 j) (C 1 5 i) (c_cn (C 0 2 j) (C 1 5 i) a) (C 1 4 i))) ∧ r = iI (c_cn (C 0 2 j) (C 1 5 i) a)) (q_B g s0) (q_A s0)) 0 0 (q_A s0) := by
  refine Met.ofW (cc := cX4_printInCopy) (maxL := 6) (ret := (some .int)) (by decide) rfl ?_
  intro p e s m args below meth c s₁ B hml hv
  obtain ⟨rfl, hv⟩ := hv
  have hr := B.returns
  have hlocks := B.notSynchronized
  obtain ⟨X, hP⟩ := q_start B.exec B.bytes hml (show s.vm.findClass RX4 = some m.cls from findClass_of_methodNamed B.named) (atoms_spec (ws := wsX4_printInCopy) B.pre) hv
  have hP : q_P g s0 n ad C s.heap := hP
  have hS : va_S (q_A s0) s.heap s.heap [] := va_S.rf
  have in0 : ∀ w ∈ wsX00, w ∈ wsX4_printInCopy := by decide +kernel
  have in1 : ∀ w ∈ wsX10, w ∈ wsX4_printInCopy := by decide +kernel
  have in2 : ∀ w ∈ wsX20, w ∈ wsX4_printInCopy := by decide +kernel
  have in3 : ∀ w ∈ wsX30, w ∈ wsX4_printInCopy := by decide +kernel
  have hl := lv_entry ([.ref (ad 2 p0), .ref (ad 1 i), .int (iI a)]) (n := 6) (Nat.le_of_ble_eq_true rfl)
  rw [lg_entry_eq]
  generalize (lg_sl ([.ref (ad 2 p0), .ref (ad 1 i), .int (iI a)]) ++ List.replicate (6 - (lg_sl ([.ref (ad 2 p0), .ref (ad 1 i), .int (iI a)])).length) Slot.unset).toArray = ls at hl ⊢
  have hl : lv_has ls 6 [(0, .ref (ad 2 p0)), (1, .ref (ad 1 i)), (2, .int (iI a))] := hl
  refine lv_aload_n X.1 X.2.1 dX4_printInCopy_0 rfl (lv_at hl 1 rfl) ?_
  refine q_get (index := 122) (v := .int (iI (C 1 5 i))) X hP 1 5 i rfl rfl (by decide) in1 hi (by decide) (by decide +kernel) rfl dX4_printInCopy_1 ?_
  refine lv_istore_n (lv' := [(3, .int (iI (C 1 5 i))), (0, .ref (ad 2 p0)), (1, .ref (ad 1 i)), (2, .int (iI a))]) X.1 X.2.1 dX4_printInCopy_4 rfl hl (by decide) rfl (fun ls hl => ?_)
  refine lv_iload_n X.1 X.2.1 dX4_printInCopy_5 rfl (lv_at hl 3 rfl) ?_
  refine lv_aload_n X.1 X.2.1 dX4_printInCopy_6 rfl (lv_at hl 2 rfl) ?_
  refine q_get (index := 101) (v := .ref (ad 0 j)) X hP 1 0 i rfl rfl (by decide) in1 hi (by decide) (by decide +kernel) (q_vn ad 0 j hjb) dX4_printInCopy_7 ?_
  refine q_get (index := 229) (v := .int (iI (C 0 2 j))) X hP 0 2 j rfl rfl (by decide) in0 hj (by decide) (by decide +kernel) rfl dX4_printInCopy_10 ?_
  refine lv_iload_n X.1 X.2.1 dX4_printInCopy_13 rfl (lv_at hl 0 rfl) ?_
  refine q_isub X dX4_printInCopy_14 ?_
  refine q_mmin (z := (c_cn (C 0 2 j) (C 1 5 i) a)) X (by rw [hl.1]; exact X.2.2.1) (by omega) (by omega) rfl (by decide +kernel) (by decide +kernel) (by decide +kernel) (by decide +kernel) (Nat.le_of_ble_eq_true rfl) (Nat.le_of_ble_eq_true rfl) (Nat.le_of_ble_eq_true rfl) (Nat.le_of_ble_eq_true rfl) dX4_printInCopy_15 ?_
  have fc : 0 ≤ (c_cn (C 0 2 j) (C 1 5 i) a) ∧ (c_cn (C 0 2 j) (C 1 5 i) a) ≤ 500 ∧ (c_cn (C 0 2 j) (C 1 5 i) a) ≤ a ∧ C 1 5 i + (c_cn (C 0 2 j) (C 1 5 i) a) ≤ C 0 2 j := by unfold c_cn; split <;> omega
  refine lv_istore (lv' := [(4, .int (iI (c_cn (C 0 2 j) (C 1 5 i) a))), (3, .int (iI (C 1 5 i))), (0, .ref (ad 2 p0)), (1, .ref (ad 1 i)), (2, .int (iI a))]) X.1 X.2.1 dX4_printInCopy_18 hl (by decide) rfl (fun ls hl => ?_)
  refine lv_aload_n X.1 X.2.1 dX4_printInCopy_20 rfl (lv_at hl 3 rfl) ?_
  refine q_get (index := 101) (v := .ref (ad 0 j)) X hP 1 0 i rfl rfl (by decide) in1 hi (by decide) (by decide +kernel) (q_vn ad 0 j hjb) dX4_printInCopy_21 ?_
  refine q_get (index := 215) (v := .ref (ad 3 T)) X hP 0 1 j rfl rfl (by decide) in0 hj (by decide) (by decide +kernel) (q_vn ad 3 T htk) dX4_printInCopy_24 ?_
  refine lv_astore (lv' := [(5, .ref (ad 3 T)), (4, .int (iI (c_cn (C 0 2 j) (C 1 5 i) a))), (3, .int (iI (C 1 5 i))), (0, .ref (ad 2 p0)), (1, .ref (ad 1 i)), (2, .int (iI a))]) X.1 X.2.1 dX4_printInCopy_27 hl (by decide) rfl (fun ls hl => ?_)
  refine lv_aload X.1 X.2.1 dX4_printInCopy_29 (lv_at hl 0 rfl) ?_
  refine lv_dup X.1 X.2.1 dX4_printInCopy_31 rfl ?_
  refine q_get (index := 169) (v := .long (jI (C 3 2 T))) X hP 3 2 T rfl rfl (by decide) in3 hT (by decide) (by decide +kernel) rfl dX4_printInCopy_32 ?_
  refine lv_iload X.1 X.2.1 dX4_printInCopy_35 (lv_at hl 1 rfl) ?_
  refine q_i2l X (by omega) dX4_printInCopy_37 ?_
  refine q_ladd X dX4_printInCopy_38 ?_
  refine q_put (index := 169) (v := .long (jI ((C 3 2 T) + (c_cn (C 0 2 j) (C 1 5 i) a)))) X hP hS 3 2 T (((C 3 2 T) + (c_cn (C 0 2 j) (C 1 5 i) a))) rfl rfl (by decide) in3 tyX3 tyX3_ok nmX3 hT (by decide) (by decide +kernel) rfl rfl rfl rfl (show R64 _ from (by omega)) dX4_printInCopy_39 (fun H locs hP hS => ?_)
  have hP : q_P g s0 n ad (q_up C 3 2 T (((C 3 2 T) + (c_cn (C 0 2 j) (C 1 5 i) a)))) H := hP
  refine lv_aload X.1 X.2.1 dX4_printInCopy_42 (lv_at hl 0 rfl) ?_
  refine lv_dup X.1 X.2.1 dX4_printInCopy_44 rfl ?_
  refine q_get (index := 172) (v := .long (jI (C 3 3 T))) X hP 3 3 T rfl rfl (by decide) in3 hT (by decide) (by decide +kernel) rfl dX4_printInCopy_45 ?_
  refine lv_aload X.1 X.2.1 dX4_printInCopy_48 (lv_at hl 0 rfl) ?_
  refine q_get (index := 238) (v := .int (iI (C 3 1 T))) X hP 3 1 T rfl rfl (by decide) in3 hT (by decide) (by decide +kernel) rfl dX4_printInCopy_50 ?_
  refine lv_iconst (v := iI (1)) X.1 X.2.1 dX4_printInCopy_53 rfl ?_
  refine q_icmp_ne (tgt := 63) X (hP.tok 3 1 T rfl) (by decide) dX4_printInCopy_54 (by decide) (fun h_1 => ?_) (fun h_1 => ?_)
  · refine lv_iload_n X.1 X.2.1 dX4_printInCopy_63 rfl (lv_at hl 2 rfl) ?_
    refine lv_iload X.1 X.2.1 dX4_printInCopy_64 (lv_at hl 1 rfl) ?_
    refine lv_aload_n X.1 X.2.1 dX4_printInCopy_66 rfl (lv_at hl 3 rfl) ?_
    refine q_get (index := 226) (v := .int (iI (C 2 5 p0))) X hP 2 5 p0 rfl rfl (by decide) in2 hp (by decide) (by decide +kernel) rfl dX4_printInCopy_67 ?_
    refine va_calli (va_runS (As := [.int (iI (C 1 5 i)), .int (iI (c_cn (C 0 2 j) (C 1 5 i) a)), .int (iI (C 2 5 p0))]) (rest := [.long (jI (C 3 3 T)), .ref (ad 3 T)]) X.fix (c_X4_sheetsOfTwoSides l g s0 n ad (q_up C 3 2 T (((C 3 2 T) + (c_cn (C 0 2 j) (C 1 5 i) a)))) (C 1 5 i) (c_cn (C 0 2 j) (C 1 5 i) a) (C 2 5 p0) (by omega) (by omega) (hP.tok 2 5 p0 rfl)) (va_cwS 3 X.2.2.2.2.1 gX4_printInCopy_X4_sheetsOfTwoSides rfl rfl rfl (by decide +kernel) ⟨Nat.le_of_ble_eq_true rfl, Nat.le_of_ble_eq_true rfl⟩) (q_preS X hP hS _) rfl rfl hl.1 rfl (lv_room (Nat.le_of_ble_eq_true rfl)) dX4_printInCopy_70 ⟨Nat.le_of_ble_eq_true rfl, Nat.le_of_ble_eq_true rfl⟩) hS q_id q_id1 (fun r u t H locs ht hvm hw hB hz1 hk1 hS => ?_)
    obtain ⟨rfl, rfl⟩ := hw
    have hP : q_P g s0 n ad (q_up C 3 2 T (((C 3 2 T) + (c_cn (C 0 2 j) (C 1 5 i) a)))) H := q_back hB ht
    have fs := c_sh2_b (a := C 1 5 i) (b := (c_cn (C 0 2 j) (C 1 5 i) a)) (d := C 2 5 p0) (by omega) (by omega)
    refine q_i2l X (by omega) dX4_printInCopy_73 ?_
    refine q_ladd X dX4_printInCopy_74 ?_
    refine q_put (index := 172) (v := .long (jI ((C 3 3 T) + (c_sh2 (C 1 5 i) (c_cn (C 0 2 j) (C 1 5 i) a) (C 2 5 p0))))) X hP hS 3 3 T (((C 3 3 T) + (c_sh2 (C 1 5 i) (c_cn (C 0 2 j) (C 1 5 i) a) (C 2 5 p0)))) rfl rfl (by decide) in3 tyX3 tyX3_ok nmX3 hT (by decide) (by decide +kernel) rfl rfl rfl rfl (show R64 _ from (by omega)) dX4_printInCopy_75 (fun H locs hP hS => ?_)
    have hP : q_P g s0 n ad (q_up (q_up C 3 2 T (((C 3 2 T) + (c_cn (C 0 2 j) (C 1 5 i) a)))) 3 3 T (((C 3 3 T) + (c_sh2 (C 1 5 i) (c_cn (C 0 2 j) (C 1 5 i) a) (C 2 5 p0))))) H := hP
    refine lv_aload_n X.1 X.2.1 dX4_printInCopy_78 rfl (lv_at hl 3 rfl) ?_
    refine lv_iconst (v := iI (0)) X.1 X.2.1 dX4_printInCopy_79 rfl ?_
    refine q_put (index := 226) (v := .int (iI (0))) X hP hS 2 5 p0 ((0)) rfl rfl (by decide) in2 tyX2 tyX2_ok nmX2 hp (by decide) (by decide +kernel) rfl rfl (q_zn (Or.inl rfl)) (q_zf (Or.inl rfl)) (Or.inl rfl) dX4_printInCopy_80 (fun H locs hP hS => ?_)
    have hP : q_P g s0 n ad (q_up (q_up (q_up C 3 2 T (((C 3 2 T) + (c_cn (C 0 2 j) (C 1 5 i) a)))) 3 3 T (((C 3 3 T) + (c_sh2 (C 1 5 i) (c_cn (C 0 2 j) (C 1 5 i) a) (C 2 5 p0))))) 2 5 p0 ((0))) H := hP
    refine lv_aload_n X.1 X.2.1 dX4_printInCopy_83 rfl (lv_at hl 4 rfl) ?_
    refine lv_iload X.1 X.2.1 dX4_printInCopy_84 (lv_at hl 1 rfl) ?_
    refine va_callv (va_runV (As := [.int (iI (c_cn (C 0 2 j) (C 1 5 i) a))]) (rest := []) X.fix (c_X1_countPages l g s0 n ad (q_up (q_up (q_up C 3 2 T (((C 3 2 T) + (c_cn (C 0 2 j) (C 1 5 i) a)))) 3 3 T (((C 3 3 T) + (c_sh2 (C 1 5 i) (c_cn (C 0 2 j) (C 1 5 i) a) (C 2 5 p0))))) 2 5 p0 ((0))) i hi j hj hjb (show 0 ≤ C 1 5 i ∧ C 1 5 i ≤ 500 from by omega) (show 0 ≤ C 1 4 i ∧ C 1 4 i ≤ 100 from by omega) (c_cn (C 0 2 j) (C 1 5 i) a) (by omega)) (cwV 1 X.2.2.2.2.1 gX4_printInCopy_X1_countPages rfl rfl rfl (by decide +kernel) ⟨Nat.le_of_ble_eq_true rfl, Nat.le_of_ble_eq_true rfl⟩) (q_preV X hP hS [.int (iI (c_cn (C 0 2 j) (C 1 5 i) a))] (kd := 1) (by decide) rfl hi) rfl rfl hl.1 rfl (lv_room (Nat.le_of_ble_eq_true rfl)) dX4_printInCopy_86 ⟨Nat.le_of_ble_eq_true rfl, Nat.le_of_ble_eq_true rfl⟩) hS q_id q_id1 (fun u t H locs ht hvm hw hB hz1 hk1 hS => ?_)
    have hP : q_P g s0 n ad (c_pst C p0 i T (C 3 2 T + (c_cn (C 0 2 j) (C 1 5 i) a)) (C 3 3 T + c_sn (C 3 1 T) (C 1 5 i) (c_cn (C 0 2 j) (C 1 5 i) a) (C 2 5 p0)) 0 (c_xn (C 0 2 j) (C 1 5 i) (c_cn (C 0 2 j) (C 1 5 i) a)) (c_wn (C 0 2 j) (C 1 5 i) (c_cn (C 0 2 j) (C 1 5 i) a) (C 1 4 i))) H := by
      have es : (c_sh2 (C 1 5 i) (c_cn (C 0 2 j) (C 1 5 i) a) (C 2 5 p0)) = c_sn (C 3 1 T) (C 1 5 i) (c_cn (C 0 2 j) (C 1 5 i) a) (C 2 5 p0) := by unfold c_sn; first | (rw [if_pos (by assumption)]; done) | (rw [if_neg (by assumption)]; done)
      rcases hw with ⟨hx, rfl⟩ | ⟨hx, rfl⟩
      · have hx : C 1 5 i + (c_cn (C 0 2 j) (C 1 5 i) a) < C 0 2 j := hx
        have hP0 := q_back hB ht
        dsimp only at hP0
        unfold c_pst c_xn c_wn; rw [if_neg (by omega), if_neg (by omega), ← es]; exact q_P_own rfl hP0
      · have hx : C 0 2 j ≤ C 1 5 i + (c_cn (C 0 2 j) (C 1 5 i) a) := hx
        have hP0 := q_back hB ht
        dsimp only at hP0
        rw [q_up_up] at hP0
        unfold c_pst c_xn c_wn; rw [if_pos hx, if_pos hx, ← es]; exact hP0
    obtain ⟨u0, hu0⟩ : ∃ u0 : q_U, u0 = u := ⟨_, rfl⟩
    refine lv_iload X.1 X.2.1 dX4_printInCopy_89 (lv_at hl 1 rfl) ?_
    exact q_iret X hr hlocks hP hS ⟨rfl, rfl⟩ (Nat.le_of_ble_eq_true rfl) (Nat.le_of_ble_eq_true rfl) dX4_printInCopy_91
  · refine lv_iload X.1 X.2.1 dX4_printInCopy_57 (lv_at hl 1 rfl) ?_
    refine q_i2l X (by omega) dX4_printInCopy_59 ?_
    refine lv_goto (tgt := 74) X.1 X.2.1 dX4_printInCopy_60 (by decide) ?_
    refine q_ladd X dX4_printInCopy_74 ?_
    refine q_put (index := 172) (v := .long (jI ((C 3 3 T) + (c_cn (C 0 2 j) (C 1 5 i) a)))) X hP hS 3 3 T (((C 3 3 T) + (c_cn (C 0 2 j) (C 1 5 i) a))) rfl rfl (by decide) in3 tyX3 tyX3_ok nmX3 hT (by decide) (by decide +kernel) rfl rfl rfl rfl (show R64 _ from (by omega)) dX4_printInCopy_75 (fun H locs hP hS => ?_)
    have hP : q_P g s0 n ad (q_up (q_up C 3 2 T (((C 3 2 T) + (c_cn (C 0 2 j) (C 1 5 i) a)))) 3 3 T (((C 3 3 T) + (c_cn (C 0 2 j) (C 1 5 i) a)))) H := hP
    refine lv_aload_n X.1 X.2.1 dX4_printInCopy_78 rfl (lv_at hl 3 rfl) ?_
    refine lv_iconst (v := iI (0)) X.1 X.2.1 dX4_printInCopy_79 rfl ?_
    refine q_put (index := 226) (v := .int (iI (0))) X hP hS 2 5 p0 ((0)) rfl rfl (by decide) in2 tyX2 tyX2_ok nmX2 hp (by decide) (by decide +kernel) rfl rfl (q_zn (Or.inl rfl)) (q_zf (Or.inl rfl)) (Or.inl rfl) dX4_printInCopy_80 (fun H locs hP hS => ?_)
    have hP : q_P g s0 n ad (q_up (q_up (q_up C 3 2 T (((C 3 2 T) + (c_cn (C 0 2 j) (C 1 5 i) a)))) 3 3 T (((C 3 3 T) + (c_cn (C 0 2 j) (C 1 5 i) a)))) 2 5 p0 ((0))) H := hP
    refine lv_aload_n X.1 X.2.1 dX4_printInCopy_83 rfl (lv_at hl 4 rfl) ?_
    refine lv_iload X.1 X.2.1 dX4_printInCopy_84 (lv_at hl 1 rfl) ?_
    refine va_callv (va_runV (As := [.int (iI (c_cn (C 0 2 j) (C 1 5 i) a))]) (rest := []) X.fix (c_X1_countPages l g s0 n ad (q_up (q_up (q_up C 3 2 T (((C 3 2 T) + (c_cn (C 0 2 j) (C 1 5 i) a)))) 3 3 T (((C 3 3 T) + (c_cn (C 0 2 j) (C 1 5 i) a)))) 2 5 p0 ((0))) i hi j hj hjb (show 0 ≤ C 1 5 i ∧ C 1 5 i ≤ 500 from by omega) (show 0 ≤ C 1 4 i ∧ C 1 4 i ≤ 100 from by omega) (c_cn (C 0 2 j) (C 1 5 i) a) (by omega)) (cwV 1 X.2.2.2.2.1 gX4_printInCopy_X1_countPages rfl rfl rfl (by decide +kernel) ⟨Nat.le_of_ble_eq_true rfl, Nat.le_of_ble_eq_true rfl⟩) (q_preV X hP hS [.int (iI (c_cn (C 0 2 j) (C 1 5 i) a))] (kd := 1) (by decide) rfl hi) rfl rfl hl.1 rfl (lv_room (Nat.le_of_ble_eq_true rfl)) dX4_printInCopy_86 ⟨Nat.le_of_ble_eq_true rfl, Nat.le_of_ble_eq_true rfl⟩) hS q_id q_id1 (fun u t H locs ht hvm hw hB hz1 hk1 hS => ?_)
    have hP : q_P g s0 n ad (c_pst C p0 i T (C 3 2 T + (c_cn (C 0 2 j) (C 1 5 i) a)) (C 3 3 T + c_sn (C 3 1 T) (C 1 5 i) (c_cn (C 0 2 j) (C 1 5 i) a) (C 2 5 p0)) 0 (c_xn (C 0 2 j) (C 1 5 i) (c_cn (C 0 2 j) (C 1 5 i) a)) (c_wn (C 0 2 j) (C 1 5 i) (c_cn (C 0 2 j) (C 1 5 i) a) (C 1 4 i))) H := by
      have es : (c_cn (C 0 2 j) (C 1 5 i) a) = c_sn (C 3 1 T) (C 1 5 i) (c_cn (C 0 2 j) (C 1 5 i) a) (C 2 5 p0) := by unfold c_sn; first | (rw [if_pos (by assumption)]; done) | (rw [if_neg (by assumption)]; done)
      rcases hw with ⟨hx, rfl⟩ | ⟨hx, rfl⟩
      · have hx : C 1 5 i + (c_cn (C 0 2 j) (C 1 5 i) a) < C 0 2 j := hx
        have hP0 := q_back hB ht
        dsimp only at hP0
        unfold c_pst c_xn c_wn; rw [if_neg (by omega), if_neg (by omega), ← es]; exact q_P_own rfl hP0
      · have hx : C 0 2 j ≤ C 1 5 i + (c_cn (C 0 2 j) (C 1 5 i) a) := hx
        have hP0 := q_back hB ht
        dsimp only at hP0
        rw [q_up_up] at hP0
        unfold c_pst c_xn c_wn; rw [if_pos hx, if_pos hx, ← es]; exact hP0
    obtain ⟨u0, hu0⟩ : ∃ u0 : q_U, u0 = u := ⟨_, rfl⟩
    refine lv_iload X.1 X.2.1 dX4_printInCopy_89 (lv_at hl 1 rfl) ?_
    exact q_iret X hr hlocks hP hS ⟨rfl, rfl⟩ (Nat.le_of_ble_eq_true rfl) (Nat.le_of_ble_eq_true rfl) dX4_printInCopy_91
end
section
theorem q_new_lt (n : Nat → Nat) (kd : Nat) : n kd < q_bump n kd kd := by rw [q_bump_s]; omega
def tX4_like (n : Nat → Nat) (ad : Nat → Nat → Nat) (C : q_S) (a : Int) (r : Int32) (u : q_U) : Prop :=
  (((0) ≤ a ∧ a ≤ (100)) ∧ u = (n, ad, q_up C 4 9 0 a) ∧ r = iI (C 4 9 0))
def xX4_like (n : Nat → Nat) (C : q_S) (a : Int) (E : String) : Prop :=
  (E = "java/lang/IllegalArgumentException" ∧ (¬ ((0) ≤ a ∧ a ≤ (100))))
set_option maxHeartbeats 4000000 in
set_option maxRecDepth 100000 in
theorem c_X4_like (l : Launch) (htr : l.stackTraces = false) (g : q_G) (s0 : Nat) (n : Nat → Nat) (ad : Nat → Nat → Nat) (C : q_S) (c0 : Nat) (hC : c_S C n) (hR : c_R C n c0) (hc0 : c0 ≤ 511) (a : Int) (ha : R32 a)  : vx_Met l yX4_like wsX4_like ({ frames := 6, cells := 1, slots := 6, locals := 90 }) (va_Pc [.ref (ad 4 0), .int (iI a)] (q_B g s0 (n, ad, C))) (va_Qi (tX4_like n ad C a) (q_B g s0) (q_A s0)) (q_XC g s0 (n, ad, C) (xX4_like n C a)) 1 6 (q_A s0) := by
  refine vx_ofW (cc := cX4_like) (maxL := 3) (ret := (some .int)) (by decide) rfl ?_
  intro p e s m args below meth c s₁ B hml hnx hv
  obtain ⟨rfl, hv⟩ := hv
  have hr := B.returns
  have hlocks := B.notSynchronized
  obtain ⟨X, hP⟩ := q_start B.exec B.bytes hml (show s.vm.findClass RX4 = some m.cls from findClass_of_methodNamed B.named) (atoms_spec (ws := wsX4_like) B.pre) hv
  have hP : q_P g s0 n ad C s.heap := hP
  have hS : va_S (q_A s0) s.heap s.heap [] := va_S.rf
  have in4 : ∀ w ∈ wsX40, w ∈ wsX4_like := by decide +kernel
  have hl := lv_entry ([.ref (ad 4 0), .int (iI a)]) (n := 3) (Nat.le_of_ble_eq_true rfl)
  rw [lg_entry_eq]
  generalize (lg_sl ([.ref (ad 4 0), .int (iI a)]) ++ List.replicate (3 - (lg_sl ([.ref (ad 4 0), .int (iI a)])).length) Slot.unset).toArray = ls at hl ⊢
  have hl : lv_has ls 3 [(0, .ref (ad 4 0)), (1, .int (iI a))] := hl
  refine lv_iload_n X.1 X.2.1 dX4_like_0 rfl (lv_at hl 1 rfl) ?_
  refine lv_iconst (v := iI (0)) X.1 X.2.1 dX4_like_1 rfl ?_
  refine lv_bipush (v := iI (100)) X.1 X.2.1 dX4_like_2 (by decide) ?_
  refine va_calli (va_runS (As := [.int (iI a), .int (iI (0)), .int (iI (100))]) (rest := []) X.fix (c_X4_isWithin l g s0 n ad C a (0) (100) ha (by decide) (by decide)) (va_cwS 3 X.2.2.2.2.1 gX4_like_X4_isWithin rfl rfl rfl (by decide +kernel) ⟨Nat.le_of_ble_eq_true rfl, Nat.le_of_ble_eq_true rfl⟩) (q_preS X hP hS _) rfl rfl hl.1 rfl (lv_room (Nat.le_of_ble_eq_true rfl)) dX4_like_4 ⟨Nat.le_of_ble_eq_true rfl, Nat.le_of_ble_eq_true rfl⟩) hS q_id q_id1 (fun r u t H locs ht hvm hw hB hz1 hk1 hS => ?_)
  obtain ⟨rfl, ⟨h_1, rfl⟩ | ⟨h_1, rfl⟩⟩ := hw
  · have hP : q_P g s0 n ad (C) H := q_back hB ht
    have h_1 : (0) ≤ a ∧ a ≤ (100) := h_1
    refine q_if_ne (tgt := 18) X (by decide) dX4_like_7 (by decide) (fun _ => ?_) (fun h => absurd h (by decide))
    refine lv_aload_n X.1 X.2.1 dX4_like_18 rfl (lv_at hl 0 rfl) ?_
    refine q_get (index := 34) (v := .int (iI (C 4 9 0))) X hP 4 9 0 rfl rfl (by decide) in4 (c_v4 hC) (by decide) (by decide +kernel) rfl dX4_like_19 ?_
    refine lv_istore_n (lv' := [(2, .int (iI (C 4 9 0))), (0, .ref (ad 4 0)), (1, .int (iI a))]) X.1 X.2.1 dX4_like_22 rfl hl (by decide) rfl (fun ls hl => ?_)
    refine lv_aload_n X.1 X.2.1 dX4_like_23 rfl (lv_at hl 1 rfl) ?_
    refine lv_iload_n X.1 X.2.1 dX4_like_24 rfl (lv_at hl 2 rfl) ?_
    refine q_put (index := 34) (v := .int (iI a)) X hP hS 4 9 0 a rfl rfl (by decide) in4 tyX4 tyX4_ok nmX4 (c_v4 hC) (by decide) (by decide +kernel) rfl rfl rfl rfl (show R32 _ from ha) dX4_like_25 (fun H locs hP hS => ?_)
    have hP : q_P g s0 n ad (q_up C 4 9 0 a) H := hP
    refine lv_iload_n X.1 X.2.1 dX4_like_28 rfl (lv_at hl 0 rfl) ?_
    refine vx_ret ?_
    exact q_iret X hr hlocks hP hS (⟨h_1, rfl, rfl⟩) (Nat.le_of_ble_eq_true rfl) (Nat.le_of_ble_eq_true rfl) dX4_like_29
  · have hP : q_P g s0 n ad (C) H := q_back hB ht
    have h_1 : ¬ ((0) ≤ a ∧ a ≤ (100)) := h_1
    refine q_if_ne (tgt := 18) X (by decide) dX4_like_7 (by decide) (fun h => absurd h (by decide)) (fun _ => ?_)
    exact q_throw X htr hnx hlocks (cls := "java/lang/IllegalArgumentException") (ik := 42) (ic := 44) (by decide) (by decide +kernel) (by decide +kernel) (by decide +kernel) xb_44 xg_42_44 hP hS hl.1 dX4_like_10 dX4_like_13 dX4_like_14 dX4_like_17 (Nat.le_of_ble_eq_true rfl) (Nat.le_of_ble_eq_true rfl) (Nat.le_of_ble_eq_true rfl) (Nat.le_of_ble_eq_true rfl) (⟨rfl, h_1⟩) (Nat.le_of_ble_eq_true rfl) (Nat.le_of_ble_eq_true rfl)
def tX4_hold (n : Nat → Nat) (ad : Nat → Nat → Nat) (C : q_S) (a b : Int) (r : Int32) (u : q_U) : Prop :=
  ((1 ≤ a ∧ a ≤ (n 0 : Int)) ∧ u = (n, ad, q_up C 0 5 ((a - 1).toNat) b) ∧ r = iI (C 0 5 ((a - 1).toNat)))
def xX4_hold (n : Nat → Nat) (C : q_S) (a b : Int) (E : String) : Prop :=
  (x_find (n 0) a E)
set_option maxHeartbeats 4000000 in
set_option maxRecDepth 100000 in
theorem c_X4_hold (l : Launch) (htr : l.stackTraces = false) (g : q_G) (s0 : Nat) (n : Nat → Nat) (ad : Nat → Nat → Nat) (C : q_S) (c0 : Nat) (hC : c_S C n) (hR : c_R C n c0) (hc0 : c0 ≤ 511) (a b : Int) (ha : R32 a) (hb : R32 b) (hz : b = 0 ∨ b = 1) : vx_Met l yX4_hold wsX4_hold ({ frames := 7, cells := 1, slots := 6, locals := 112 }) (va_Pc [.ref (ad 4 0), .int (iI a), .int (iI b)] (q_B g s0 (n, ad, C))) (va_Qi (tX4_hold n ad C a b) (q_B g s0) (q_A s0)) (q_XC g s0 (n, ad, C) (xX4_hold n C a b)) 1 6 (q_A s0) := by
  refine vx_ofW (cc := cX4_hold) (maxL := 5) (ret := (some .int)) (by decide) rfl ?_
  intro p e s m args below meth c s₁ B hml hnx hv
  obtain ⟨rfl, hv⟩ := hv
  have hr := B.returns
  have hlocks := B.notSynchronized
  obtain ⟨X, hP⟩ := q_start B.exec B.bytes hml (show s.vm.findClass RX4 = some m.cls from findClass_of_methodNamed B.named) (atoms_spec (ws := wsX4_hold) B.pre) hv
  have hP : q_P g s0 n ad C s.heap := hP
  have hS : va_S (q_A s0) s.heap s.heap [] := va_S.rf
  have in0 : ∀ w ∈ wsX00, w ∈ wsX4_hold := by decide +kernel
  have in4 : ∀ w ∈ wsX40, w ∈ wsX4_hold := by decide +kernel
  have hl := lv_entry ([.ref (ad 4 0), .int (iI a), .int (iI b)]) (n := 5) (Nat.le_of_ble_eq_true rfl)
  rw [lg_entry_eq]
  generalize (lg_sl ([.ref (ad 4 0), .int (iI a), .int (iI b)]) ++ List.replicate (5 - (lg_sl ([.ref (ad 4 0), .int (iI a), .int (iI b)])).length) Slot.unset).toArray = ls at hl ⊢
  have hl : lv_has ls 5 [(0, .ref (ad 4 0)), (1, .int (iI a)), (2, .int (iI b))] := hl
  refine lv_aload_n X.1 X.2.1 dX4_hold_0 rfl (lv_at hl 0 rfl) ?_
  refine lv_iload_n X.1 X.2.1 dX4_hold_1 rfl (lv_at hl 1 rfl) ?_
  refine vx_callq (vx_runV (As := [.int (iI a)]) (rest := []) X.fix (c_X4_findJob l htr g s0 n ad C c0 hC hR a ha) (cwV 1 X.2.2.2.2.1 gX4_hold_X4_findJob rfl rfl rfl (by decide +kernel) ⟨Nat.le_of_ble_eq_true rfl, Nat.le_of_ble_eq_true rfl⟩) (q_preV X hP hS [.int (iI a)] (kd := 4) (by decide) rfl (c_v4 hC)) rfl rfl hl.1 rfl (lv_room (Nat.le_of_ble_eq_true rfl)) dX4_hold_2 ⟨Nat.le_of_ble_eq_true rfl, Nat.le_of_ble_eq_true rfl⟩) hS q_id q_id1 q_id ?_ (fun r u t H locs ht hvm hw hB hz1 hk1 hS => ?_)
  · intro E ce q9 u t H locs ht hvm hpx hBX hz1 hk1 hS hce hcv hcl
    exact q_xout X hnx hlocks hBX ht hS hce hcv hcl (fun hxe => hxe) (Nat.le_of_ble_eq_true rfl) (Nat.le_of_ble_eq_true rfl)
  · obtain ⟨rfl, h_1, rfl⟩ := hw
    have hP : q_P g s0 n ad (C) H := q_back hB ht
    rw [show va_rf (some (ad 0 ((a - 1).toNat))) = .ref (ad 0 ((a - 1).toNat)) from rfl]
    refine lv_astore_n (lv' := [(3, .ref (ad 0 ((a - 1).toNat))), (0, .ref (ad 4 0)), (1, .int (iI a)), (2, .int (iI b))]) X.1 X.2.1 dX4_hold_5 rfl hl (by decide) rfl (fun ls hl => ?_)
    refine lv_aload_n X.1 X.2.1 dX4_hold_6 rfl (lv_at hl 0 rfl) ?_
    refine q_get (index := 133) (v := .int (iI (C 0 5 ((a - 1).toNat)))) X hP 0 5 ((a - 1).toNat) rfl rfl (by decide) in0 (show (a - 1).toNat < n 0 by omega) (by decide) (by decide +kernel) rfl dX4_hold_7 ?_
    refine va_calli (va_runS (As := [.int (iI (C 0 5 ((a - 1).toNat)))]) (rest := []) X.fix (c_X4_asNumber l g s0 n ad C (C 0 5 ((a - 1).toNat)) (hP.tok 0 5 _ rfl)) (va_cwS 1 X.2.2.2.2.1 gX4_hold_X4_asNumber rfl rfl rfl (by decide +kernel) ⟨Nat.le_of_ble_eq_true rfl, Nat.le_of_ble_eq_true rfl⟩) (q_preS X hP hS _) rfl rfl hl.1 rfl (lv_room (Nat.le_of_ble_eq_true rfl)) dX4_hold_10 ⟨Nat.le_of_ble_eq_true rfl, Nat.le_of_ble_eq_true rfl⟩) hS q_id q_id1 (fun r u t H locs ht hvm hw hB hz1 hk1 hS => ?_)
    obtain ⟨rfl, rfl⟩ := hw
    have hP : q_P g s0 n ad (C) H := q_back hB ht
    refine lv_istore (lv' := [(4, .int (iI (C 0 5 ((a - 1).toNat)))), (3, .ref (ad 0 ((a - 1).toNat))), (0, .ref (ad 4 0)), (1, .int (iI a)), (2, .int (iI b))]) X.1 X.2.1 dX4_hold_13 hl (by decide) rfl (fun ls hl => ?_)
    refine lv_aload_n X.1 X.2.1 dX4_hold_15 rfl (lv_at hl 1 rfl) ?_
    refine lv_iload_n X.1 X.2.1 dX4_hold_16 rfl (lv_at hl 4 rfl) ?_
    refine q_put (index := 133) (v := .int (iI b)) X hP hS 0 5 ((a - 1).toNat) b rfl rfl (by decide) in0 tyX0 tyX0_ok nmX0 (show (a - 1).toNat < n 0 by omega) (by decide) (by decide +kernel) rfl rfl (q_zn hz) (q_zf hz) hz dX4_hold_17 (fun H locs hP hS => ?_)
    have hP : q_P g s0 n ad (q_up C 0 5 ((a - 1).toNat) b) H := hP
    refine lv_iload X.1 X.2.1 dX4_hold_20 (lv_at hl 0 rfl) ?_
    refine vx_ret ?_
    exact q_iret X hr hlocks hP hS (⟨h_1, rfl, rfl⟩) (Nat.le_of_ble_eq_true rfl) (Nat.le_of_ble_eq_true rfl) dX4_hold_22
def tX4_account (n : Nat → Nat) (ad : Nat → Nat → Nat) (C : q_S) (a b : Int) (r : Int64) (u : q_U) : Prop :=
  ((1 ≤ a ∧ a ≤ (n 3 : Int)) ∧ (b = 0) ∧ u = (n, ad, C) ∧ r = jI (C 3 2 ((a - 1).toNat))) ∨
  ((1 ≤ a ∧ a ≤ (n 3 : Int)) ∧ (¬ b = 0) ∧ (b = 1) ∧ u = (n, ad, C) ∧ r = jI (C 3 3 ((a - 1).toNat))) ∨
  ((1 ≤ a ∧ a ≤ (n 3 : Int)) ∧ (¬ b = 0) ∧ (¬ b = 1) ∧ (b = 2) ∧ u = (n, ad, C) ∧ r = jI (C 3 4 ((a - 1).toNat))) ∨
  ((1 ≤ a ∧ a ≤ (n 3 : Int)) ∧ (¬ b = 0) ∧ (¬ b = 1) ∧ (¬ b = 2) ∧ (b = 3) ∧ u = (n, ad, C) ∧ r = jI (C 3 5 ((a - 1).toNat)))
def xX4_account (n : Nat → Nat) (C : q_S) (a b : Int) (E : String) : Prop :=
  (x_find (n 3) a E) ∨
  (E = "java/lang/IndexOutOfBoundsException" ∧ (1 ≤ a ∧ a ≤ (n 3 : Int)) ∧ (¬ b = 0) ∧ (¬ b = 1) ∧ (¬ b = 2) ∧ (¬ b = 3))
set_option maxHeartbeats 4000000 in
set_option maxRecDepth 100000 in
theorem c_X4_account (l : Launch) (htr : l.stackTraces = false) (g : q_G) (s0 : Nat) (n : Nat → Nat) (ad : Nat → Nat → Nat) (C : q_S) (c0 : Nat) (hC : c_S C n) (hR : c_R C n c0) (hc0 : c0 ≤ 511) (a b : Int) (ha : R32 a) (hb : R32 b)  : vx_Met l yX4_account wsX4_account ({ frames := 7, cells := 2, slots := 12, locals := 112 }) (va_Pc [.ref (ad 4 0), .int (iI a), .int (iI b)] (q_B g s0 (n, ad, C))) (va_Ql (tX4_account n ad C a b) (q_B g s0) (q_A s0)) (q_XC g s0 (n, ad, C) (xX4_account n C a b)) 2 12 (q_A s0) := by
  refine vx_ofW (cc := cX4_account) (maxL := 4) (ret := (some .long)) (by decide) rfl ?_
  intro p e s m args below meth c s₁ B hml hnx hv
  obtain ⟨rfl, hv⟩ := hv
  have hr := B.returns
  have hlocks := B.notSynchronized
  obtain ⟨X, hP⟩ := q_start B.exec B.bytes hml (show s.vm.findClass RX4 = some m.cls from findClass_of_methodNamed B.named) (atoms_spec (ws := wsX4_account) B.pre) hv
  have hP : q_P g s0 n ad C s.heap := hP
  have hS : va_S (q_A s0) s.heap s.heap [] := va_S.rf
  have in3 : ∀ w ∈ wsX30, w ∈ wsX4_account := by decide +kernel
  have in4 : ∀ w ∈ wsX40, w ∈ wsX4_account := by decide +kernel
  have hl := lv_entry ([.ref (ad 4 0), .int (iI a), .int (iI b)]) (n := 4) (Nat.le_of_ble_eq_true rfl)
  rw [lg_entry_eq]
  generalize (lg_sl ([.ref (ad 4 0), .int (iI a), .int (iI b)]) ++ List.replicate (4 - (lg_sl ([.ref (ad 4 0), .int (iI a), .int (iI b)])).length) Slot.unset).toArray = ls at hl ⊢
  have hl : lv_has ls 4 [(0, .ref (ad 4 0)), (1, .int (iI a)), (2, .int (iI b))] := hl
  refine lv_aload_n X.1 X.2.1 dX4_account_0 rfl (lv_at hl 0 rfl) ?_
  refine lv_iload_n X.1 X.2.1 dX4_account_1 rfl (lv_at hl 1 rfl) ?_
  refine vx_callq (vx_runV (As := [.int (iI a)]) (rest := []) X.fix (c_X4_findTicket l htr g s0 n ad C c0 hC hR a ha) (cwV 1 X.2.2.2.2.1 gX4_account_X4_findTicket rfl rfl rfl (by decide +kernel) ⟨Nat.le_of_ble_eq_true rfl, Nat.le_of_ble_eq_true rfl⟩) (q_preV X hP hS [.int (iI a)] (kd := 4) (by decide) rfl (c_v4 hC)) rfl rfl hl.1 rfl (lv_room (Nat.le_of_ble_eq_true rfl)) dX4_account_2 ⟨Nat.le_of_ble_eq_true rfl, Nat.le_of_ble_eq_true rfl⟩) hS q_id q_id1 q_id ?_ (fun r u t H locs ht hvm hw hB hz1 hk1 hS => ?_)
  · intro E ce q9 u t H locs ht hvm hpx hBX hz1 hk1 hS hce hcv hcl
    exact q_xout X hnx hlocks hBX ht hS hce hcv hcl (fun hxe => Or.inl (hxe)) (Nat.le_of_ble_eq_true rfl) (Nat.le_of_ble_eq_true rfl)
  · obtain ⟨rfl, h_1, rfl⟩ := hw
    have hP : q_P g s0 n ad (C) H := q_back hB ht
    rw [show va_rf (some (ad 3 ((a - 1).toNat))) = .ref (ad 3 ((a - 1).toNat)) from rfl]
    refine lv_astore_n (lv' := [(3, .ref (ad 3 ((a - 1).toNat))), (0, .ref (ad 4 0)), (1, .int (iI a)), (2, .int (iI b))]) X.1 X.2.1 dX4_account_5 rfl hl (by decide) rfl (fun ls hl => ?_)
    refine lv_iload_n X.1 X.2.1 dX4_account_6 rfl (lv_at hl 3 rfl) ?_
    by_cases h_2 : b = 0
    · refine q_tsi (tgt := 36) X hb dX4_account_7 (by omega) (by omega) (by rw [h_2]; rfl) (by decide) ?_
      refine lv_aload_n X.1 X.2.1 dX4_account_36 rfl (lv_at hl 0 rfl) ?_
      refine q_get (index := 169) (v := .long (jI (C 3 2 ((a - 1).toNat)))) X hP 3 2 ((a - 1).toNat) rfl rfl (by decide) in3 (show (a - 1).toNat < n 3 by omega) (by decide) (by decide +kernel) rfl dX4_account_37 ?_
      have f_3 := c_R3 hR 2 ((a - 1).toNat) (by decide) (by decide)
      refine vx_ret ?_
      exact q_lret X hr hlocks hP hS (Or.inl (⟨h_1, h_2, rfl, rfl⟩)) (Nat.le_of_ble_eq_true rfl) (Nat.le_of_ble_eq_true rfl) dX4_account_40
    · by_cases h_4 : b = 1
      · refine q_tsi (tgt := 41) X hb dX4_account_7 (by omega) (by omega) (by rw [h_4]; rfl) (by decide) ?_
        refine lv_aload_n X.1 X.2.1 dX4_account_41 rfl (lv_at hl 0 rfl) ?_
        refine q_get (index := 172) (v := .long (jI (C 3 3 ((a - 1).toNat)))) X hP 3 3 ((a - 1).toNat) rfl rfl (by decide) in3 (show (a - 1).toNat < n 3 by omega) (by decide) (by decide +kernel) rfl dX4_account_42 ?_
        have f_5 := c_R3 hR 3 ((a - 1).toNat) (by decide) (by decide)
        refine vx_ret ?_
        exact q_lret X hr hlocks hP hS (Or.inr (Or.inl (⟨h_1, h_2, h_4, rfl, rfl⟩))) (Nat.le_of_ble_eq_true rfl) (Nat.le_of_ble_eq_true rfl) dX4_account_45
      · by_cases h_6 : b = 2
        · refine q_tsi (tgt := 46) X hb dX4_account_7 (by omega) (by omega) (by rw [h_6]; rfl) (by decide) ?_
          refine lv_aload_n X.1 X.2.1 dX4_account_46 rfl (lv_at hl 0 rfl) ?_
          refine q_get (index := 175) (v := .long (jI (C 3 4 ((a - 1).toNat)))) X hP 3 4 ((a - 1).toNat) rfl rfl (by decide) in3 (show (a - 1).toNat < n 3 by omega) (by decide) (by decide +kernel) rfl dX4_account_47 ?_
          have f_7 := c_R3 hR 4 ((a - 1).toNat) (by decide) (by decide)
          refine vx_ret ?_
          exact q_lret X hr hlocks hP hS (Or.inr (Or.inr (Or.inl (⟨h_1, h_2, h_4, h_6, rfl, rfl⟩)))) (Nat.le_of_ble_eq_true rfl) (Nat.le_of_ble_eq_true rfl) dX4_account_50
        · by_cases h_8 : b = 3
          · refine q_tsi (tgt := 51) X hb dX4_account_7 (by omega) (by omega) (by rw [h_8]; rfl) (by decide) ?_
            refine lv_aload_n X.1 X.2.1 dX4_account_51 rfl (lv_at hl 0 rfl) ?_
            refine q_get (index := 178) (v := .long (jI (C 3 5 ((a - 1).toNat)))) X hP 3 5 ((a - 1).toNat) rfl rfl (by decide) in3 (show (a - 1).toNat < n 3 by omega) (by decide) (by decide +kernel) rfl dX4_account_52 ?_
            have f_9 := c_R3 hR 5 ((a - 1).toNat) (by decide) (by decide)
            refine vx_ret ?_
            exact q_lret X hr hlocks hP hS (Or.inr (Or.inr (Or.inr (⟨h_1, h_2, h_4, h_6, h_8, rfl, rfl⟩)))) (Nat.le_of_ble_eq_true rfl) (Nat.le_of_ble_eq_true rfl) dX4_account_55
          · refine q_tso (tgt := 56) X hb dX4_account_7 (by omega) (by decide) ?_
            exact q_throw X htr hnx hlocks (cls := "java/lang/IndexOutOfBoundsException") (ik := 163) (ic := 165) (by decide) (by decide +kernel) (by decide +kernel) (by decide +kernel) xb_165 xg_163_165 hP hS hl.1 dX4_account_56 dX4_account_59 dX4_account_60 dX4_account_63 (Nat.le_of_ble_eq_true rfl) (Nat.le_of_ble_eq_true rfl) (Nat.le_of_ble_eq_true rfl) (Nat.le_of_ble_eq_true rfl) (Or.inr (⟨rfl, h_1, h_2, h_4, h_6, h_8⟩)) (Nat.le_of_ble_eq_true rfl) (Nat.le_of_ble_eq_true rfl)
def tX4_printer (n : Nat → Nat) (ad : Nat → Nat → Nat) (C : q_S) (a b : Int) (r : Int32) (u : q_U) : Prop :=
  (∃ (ad1 : Nat → Nat → Nat), ((0) ≤ a ∧ a ≤ (7)) ∧ ((1) ≤ b ∧ b ≤ (2)) ∧ ((C 4 3 0) < (8)) ∧ (∀ k j, ¬ (k = 2 ∧ j = n 2) → ad1 k j = ad k j) ∧ u = (q_bump n 2, ad1, q_up (q_up (q_up (q_up (q_up C 2 0 ((n 2)) ((((C 4 3 0) + (1))))) 2 2 ((n 2)) a) 2 1 ((n 2)) b) 6 (((C 4 3 0)).toNat) 0 (((n 2 : Nat) : Int) + 1)) 4 3 0 (((C 4 3 0) + (1)))) ∧ r = iI ((C 4 3 0) + (1)))
def xX4_printer (n : Nat → Nat) (C : q_S) (a b : Int) (E : String) : Prop :=
  (E = "java/lang/UnsupportedOperationException" ∧ ((0) ≤ a ∧ a ≤ (7)) ∧ ((1) ≤ b ∧ b ≤ (2)) ∧ ((8) ≤ (C 4 3 0))) ∨
  (E = "java/lang/IllegalArgumentException" ∧ ((0) ≤ a ∧ a ≤ (7)) ∧ (¬ ((1) ≤ b ∧ b ≤ (2)))) ∨
  (E = "java/lang/IllegalArgumentException" ∧ (¬ ((0) ≤ a ∧ a ≤ (7))))
set_option maxHeartbeats 4000000 in
set_option maxRecDepth 100000 in
theorem c_X4_printer (l : Launch) (htr : l.stackTraces = false) (g : q_G) (s0 : Nat) (n : Nat → Nat) (ad : Nat → Nat → Nat) (C : q_S) (c0 : Nat) (hC : c_S C n) (hR : c_R C n c0) (hc0 : c0 ≤ 511) (a b : Int) (ha : R32 a) (hb : R32 b)  : vx_Met l yX4_printer wsX4_printer ({ frames := 6, cells := 1, slots := 6, locals := 90 }) (va_Pc [.ref (ad 4 0), .int (iI a), .int (iI b)] (q_B g s0 (n, ad, C))) (va_Qi (tX4_printer n ad C a b) (q_B g s0) (q_A s0)) (q_XC g s0 (n, ad, C) (xX4_printer n C a b)) 1 6 (q_A s0) := by
  refine vx_ofW (cc := cX4_printer) (maxL := 3) (ret := (some .int)) (by decide) rfl ?_
  intro p e s m args below meth c s₁ B hml hnx hv
  obtain ⟨rfl, hv⟩ := hv
  have hr := B.returns
  have hlocks := B.notSynchronized
  obtain ⟨X, hP⟩ := q_start B.exec B.bytes hml (show s.vm.findClass RX4 = some m.cls from findClass_of_methodNamed B.named) (atoms_spec (ws := wsX4_printer) B.pre) hv
  have hP : q_P g s0 n ad C s.heap := hP
  have hS : va_S (q_A s0) s.heap s.heap [] := va_S.rf
  have in2 : ∀ w ∈ wsX20, w ∈ wsX4_printer := by decide +kernel
  have in4 : ∀ w ∈ wsX40, w ∈ wsX4_printer := by decide +kernel
  have f0 := c_Rp hR
  have hl := lv_entry ([.ref (ad 4 0), .int (iI a), .int (iI b)]) (n := 3) (Nat.le_of_ble_eq_true rfl)
  rw [lg_entry_eq]
  generalize (lg_sl ([.ref (ad 4 0), .int (iI a), .int (iI b)]) ++ List.replicate (3 - (lg_sl ([.ref (ad 4 0), .int (iI a), .int (iI b)])).length) Slot.unset).toArray = ls at hl ⊢
  have hl : lv_has ls 3 [(0, .ref (ad 4 0)), (1, .int (iI a)), (2, .int (iI b))] := hl
  refine lv_iload_n X.1 X.2.1 dX4_printer_0 rfl (lv_at hl 1 rfl) ?_
  refine lv_iconst (v := iI (0)) X.1 X.2.1 dX4_printer_1 rfl ?_
  refine lv_bipush (v := iI (7)) X.1 X.2.1 dX4_printer_2 (by decide) ?_
  refine va_calli (va_runS (As := [.int (iI a), .int (iI (0)), .int (iI (7))]) (rest := []) X.fix (c_X4_isWithin l g s0 n ad C a (0) (7) ha (by decide) (by decide)) (va_cwS 3 X.2.2.2.2.1 gX4_printer_X4_isWithin rfl rfl rfl (by decide +kernel) ⟨Nat.le_of_ble_eq_true rfl, Nat.le_of_ble_eq_true rfl⟩) (q_preS X hP hS _) rfl rfl hl.1 rfl (lv_room (Nat.le_of_ble_eq_true rfl)) dX4_printer_4 ⟨Nat.le_of_ble_eq_true rfl, Nat.le_of_ble_eq_true rfl⟩) hS q_id q_id1 (fun r u t H locs ht hvm hw hB hz1 hk1 hS => ?_)
  obtain ⟨rfl, ⟨h_1, rfl⟩ | ⟨h_1, rfl⟩⟩ := hw
  · have hP : q_P g s0 n ad (C) H := q_back hB ht
    have h_1 : (0) ≤ a ∧ a ≤ (7) := h_1
    refine q_if_eq (tgt := 19) X (by decide) dX4_printer_7 (by decide) (fun h => absurd h (by decide)) (fun _ => ?_)
    refine lv_iload_n X.1 X.2.1 dX4_printer_10 rfl (lv_at hl 2 rfl) ?_
    refine lv_iconst (v := iI (1)) X.1 X.2.1 dX4_printer_11 rfl ?_
    refine lv_iconst (v := iI (2)) X.1 X.2.1 dX4_printer_12 rfl ?_
    refine va_calli (va_runS (As := [.int (iI b), .int (iI (1)), .int (iI (2))]) (rest := []) X.fix (c_X4_isWithin l g s0 n ad C b (1) (2) hb (by decide) (by decide)) (va_cwS 3 X.2.2.2.2.1 gX4_printer_X4_isWithin rfl rfl rfl (by decide +kernel) ⟨Nat.le_of_ble_eq_true rfl, Nat.le_of_ble_eq_true rfl⟩) (q_preS X hP hS _) rfl rfl hl.1 rfl (lv_room (Nat.le_of_ble_eq_true rfl)) dX4_printer_13 ⟨Nat.le_of_ble_eq_true rfl, Nat.le_of_ble_eq_true rfl⟩) hS q_id q_id1 (fun r u t H locs ht hvm hw hB hz1 hk1 hS => ?_)
    obtain ⟨rfl, ⟨h_3, rfl⟩ | ⟨h_3, rfl⟩⟩ := hw
    · have hP : q_P g s0 n ad (C) H := q_back hB ht
      have h_3 : (1) ≤ b ∧ b ≤ (2) := h_3
      refine q_if_ne (tgt := 27) X (by decide) dX4_printer_16 (by decide) (fun _ => ?_) (fun h => absurd h (by decide))
      refine lv_aload_n X.1 X.2.1 dX4_printer_27 rfl (lv_at hl 0 rfl) ?_
      refine q_get (index := 45) (v := .int (iI (C 4 3 0))) X hP 4 3 0 rfl rfl (by decide) in4 (c_v4 hC) (by decide) (by decide +kernel) rfl dX4_printer_28 ?_
      have f_5 := c_Rp hR
      refine lv_aload_n X.1 X.2.1 dX4_printer_31 rfl (lv_at hl 0 rfl) ?_
      refine q_get (index := 11) (v := .ref (ad 6 0)) X hP 4 0 0 rfl rfl (by decide) in4 (c_v4 hC) (by decide) (by decide +kernel) (c_r hC ad 0 6 (by decide)) dX4_printer_32 ?_
      refine q_len (z := 8) X hP 6 0 3 (by decide) rfl rfl (c_va hC 0 6 (by decide)) rfl dX4_printer_35 ?_
      refine q_icmp_lt (tgt := 47) X (hP.tok 4 3 0 rfl) (by decide) dX4_printer_36 (by decide) (fun h_6 => ?_) (fun h_6 => ?_)
      · refine lv_aload_n X.1 X.2.1 dX4_printer_47 rfl (lv_at hl 0 rfl) ?_
        refine q_get (index := 11) (v := .ref (ad 6 0)) X hP 4 0 0 rfl rfl (by decide) in4 (c_v4 hC) (by decide) (by decide +kernel) (c_r hC ad 0 6 (by decide)) dX4_printer_48 ?_
        refine lv_aload_n X.1 X.2.1 dX4_printer_51 rfl (lv_at hl 0 rfl) ?_
        refine q_get (index := 45) (v := .int (iI (C 4 3 0))) X hP 4 3 0 rfl rfl (by decide) in4 (c_v4 hC) (by decide) (by decide +kernel) rfl dX4_printer_52 ?_
        refine q_new (index := 9) X hP hS 2 rfl rfl (by decide) in2 tyX2 tyX2_ok (by decide +kernel) (by decide +kernel) (by decide +kernel) (q_hz2 _) (Nat.le_of_ble_eq_true rfl) (Nat.le_of_ble_eq_true rfl) dX4_printer_55 (fun ad1 H hpr1 hP hS => ?_)
        have e_7 : ad 6 0 = ad1 6 0 := (hpr1 6 0 (fun q => absurd q.1 (by decide))).symm
        have e_8 : ad 4 0 = ad1 4 0 := (hpr1 4 0 (fun q => absurd q.1 (by decide))).symm
        have hl : lv_has ls 3 [(0, .ref (ad1 4 0)), (1, .int (iI a)), (2, .int (iI b))] := lv_cong hl (lv_cs (congrArg Value.ref e_8) (lv_cs rfl (lv_cs rfl rfl)))
        have hpr1 : ∀ k j, ¬ (k = 2 ∧ j = n 2) → ad1 k j = ad k j := hpr1
        refine W.eq (g2 := F0 m 58 ls [.ref (ad1 2 (n 2)), .int (iI (C 4 3 0)), .ref (ad1 6 0)]) (by rw [e_7]; first | done | rfl) ?_
        have hP : q_P g s0 (q_bump n 2) ad1 (C) H := hP
        refine lv_dup X.1 X.2.1 dX4_printer_58 rfl ?_
        refine lv_aload_n X.1 X.2.1 dX4_printer_59 rfl (lv_at hl 0 rfl) ?_
        refine q_get (index := 45) (v := .int (iI (C 4 3 0))) X hP 4 3 0 rfl rfl (by decide) in4 (Nat.lt_of_lt_of_le (c_v4 hC) (q_bump_le n 2 4)) (by decide) (by decide +kernel) rfl dX4_printer_60 ?_
        refine lv_iconst (v := iI (1)) X.1 X.2.1 dX4_printer_63 rfl ?_
        refine q_iadd X dX4_printer_64 ?_
        refine lv_iload_n X.1 X.2.1 dX4_printer_65 rfl (lv_at hl 1 rfl) ?_
        refine lv_iload_n X.1 X.2.1 dX4_printer_66 rfl (lv_at hl 2 rfl) ?_
        refine va_callv (va_runI (As := [.int (iI ((C 4 3 0) + (1))), .int (iI a), .int (iI b)]) (rest := [.ref (ad1 2 (n 2)), .int (iI (C 4 3 0)), .ref (ad1 6 0)]) X.fix (c_X2_init l g s0 (q_bump n 2) ad1 C (n 2) (q_new_lt n 2) ((C 4 3 0) + (1)) a b (by omega) ha hb) (cwI 3 X.2.2.2.2.1 gX4_printer_X2_init rfl rfl rfl (X.2.2.2.2.1 (.initialized RX2) (by decide +kernel)) (X.2.2.2.2.1 (.methodLink RX4 51 yX2_init) (by decide +kernel)) (X.2.2.2.2.1 (.instanceMethod yX2_init) (by decide +kernel)) rfl (by decide +kernel) ⟨Nat.le_of_ble_eq_true rfl, Nat.le_of_ble_eq_true rfl⟩) (q_preS X hP hS _) rfl rfl hl.1 rfl (lv_room (Nat.le_of_ble_eq_true rfl)) dX4_printer_67 ⟨Nat.le_of_ble_eq_true rfl, Nat.le_of_ble_eq_true rfl⟩) hS q_id q_id1 (fun u t H locs ht hvm hw hB hz1 hk1 hS => ?_)
        have hw : u = (q_bump n 2, ad1, q_up (q_up (q_up C 2 0 ((n 2)) ((((C 4 3 0) + (1))))) 2 2 ((n 2)) a) 2 1 ((n 2)) b) := hw
        subst hw
        have hP : q_P g s0 (q_bump n 2) ad1 (q_up (q_up (q_up C 2 0 ((n 2)) ((((C 4 3 0) + (1))))) 2 2 ((n 2)) a) 2 1 ((n 2)) b) H := q_back hB ht
        refine q_ast (len := 8) (z := (C 4 3 0)) X hP hS 6 0 2 (n 2) 3 (by decide) rfl (by decide) rfl rfl rfl (Nat.lt_of_lt_of_le (c_va hC 0 6 (by decide)) (q_bump_le n 2 6)) (q_new_lt n 2) rfl (by omega) (by omega) dX4_printer_70 (fun H locs hP hS => ?_)
        have hP : q_P g s0 (q_bump n 2) ad1 (q_up (q_up (q_up (q_up C 2 0 ((n 2)) ((((C 4 3 0) + (1))))) 2 2 ((n 2)) a) 2 1 ((n 2)) b) 6 (((C 4 3 0)).toNat) 0 (((n 2 : Nat) : Int) + 1)) H := hP
        refine lv_aload_n X.1 X.2.1 dX4_printer_71 rfl (lv_at hl 0 rfl) ?_
        refine lv_dup X.1 X.2.1 dX4_printer_72 rfl ?_
        refine q_get (index := 45) (v := .int (iI (C 4 3 0))) X hP 4 3 0 rfl rfl (by decide) in4 (Nat.lt_of_lt_of_le (c_v4 hC) (q_bump_le n 2 4)) (by decide) (by decide +kernel) rfl dX4_printer_73 ?_
        refine lv_iconst (v := iI (1)) X.1 X.2.1 dX4_printer_76 rfl ?_
        refine q_iadd X dX4_printer_77 ?_
        refine q_put (index := 45) (v := .int (iI ((C 4 3 0) + (1)))) X hP hS 4 3 0 (((C 4 3 0) + (1))) rfl rfl (by decide) in4 tyX4 tyX4_ok nmX4 (Nat.lt_of_lt_of_le (c_v4 hC) (q_bump_le n 2 4)) (by decide) (by decide +kernel) rfl rfl rfl rfl (show R32 _ from (by omega)) dX4_printer_78 (fun H locs hP hS => ?_)
        have hP : q_P g s0 (q_bump n 2) ad1 (q_up (q_up (q_up (q_up (q_up C 2 0 ((n 2)) ((((C 4 3 0) + (1))))) 2 2 ((n 2)) a) 2 1 ((n 2)) b) 6 (((C 4 3 0)).toNat) 0 (((n 2 : Nat) : Int) + 1)) 4 3 0 (((C 4 3 0) + (1)))) H := hP
        refine lv_aload_n X.1 X.2.1 dX4_printer_81 rfl (lv_at hl 0 rfl) ?_
        refine q_get (index := 45) (v := .int (iI ((C 4 3 0) + (1)))) X hP 4 3 0 rfl rfl (by decide) in4 (Nat.lt_of_lt_of_le (c_v4 hC) (q_bump_le n 2 4)) (by decide) (by decide +kernel) rfl dX4_printer_82 ?_
        refine vx_ret ?_
        exact q_iret X hr hlocks hP hS (⟨ad1, h_1, h_3, h_6, hpr1, rfl, rfl⟩) (Nat.le_of_ble_eq_true rfl) (Nat.le_of_ble_eq_true rfl) dX4_printer_85
      · exact q_throw X htr hnx hlocks (cls := "java/lang/UnsupportedOperationException") (ik := 48) (ic := 50) (by decide) (by decide +kernel) (by decide +kernel) (by decide +kernel) xb_50 xg_48_50 hP hS hl.1 dX4_printer_39 dX4_printer_42 dX4_printer_43 dX4_printer_46 (Nat.le_of_ble_eq_true rfl) (Nat.le_of_ble_eq_true rfl) (Nat.le_of_ble_eq_true rfl) (Nat.le_of_ble_eq_true rfl) (Or.inl (⟨rfl, h_1, h_3, h_6⟩)) (Nat.le_of_ble_eq_true rfl) (Nat.le_of_ble_eq_true rfl)
    · have hP : q_P g s0 n ad (C) H := q_back hB ht
      have h_3 : ¬ ((1) ≤ b ∧ b ≤ (2)) := h_3
      refine q_if_ne (tgt := 27) X (by decide) dX4_printer_16 (by decide) (fun h => absurd h (by decide)) (fun _ => ?_)
      exact q_throw X htr hnx hlocks (cls := "java/lang/IllegalArgumentException") (ik := 42) (ic := 44) (by decide) (by decide +kernel) (by decide +kernel) (by decide +kernel) xb_44 xg_42_44 hP hS hl.1 dX4_printer_19 dX4_printer_22 dX4_printer_23 dX4_printer_26 (Nat.le_of_ble_eq_true rfl) (Nat.le_of_ble_eq_true rfl) (Nat.le_of_ble_eq_true rfl) (Nat.le_of_ble_eq_true rfl) (Or.inr (Or.inl (⟨rfl, h_1, h_3⟩))) (Nat.le_of_ble_eq_true rfl) (Nat.le_of_ble_eq_true rfl)
  · have hP : q_P g s0 n ad (C) H := q_back hB ht
    have h_1 : ¬ ((0) ≤ a ∧ a ≤ (7)) := h_1
    refine q_if_eq (tgt := 19) X (by decide) dX4_printer_7 (by decide) (fun _ => ?_) (fun h => absurd h (by decide))
    exact q_throw X htr hnx hlocks (cls := "java/lang/IllegalArgumentException") (ik := 42) (ic := 44) (by decide) (by decide +kernel) (by decide +kernel) (by decide +kernel) xb_44 xg_42_44 hP hS hl.1 dX4_printer_19 dX4_printer_22 dX4_printer_23 dX4_printer_26 (Nat.le_of_ble_eq_true rfl) (Nat.le_of_ble_eq_true rfl) (Nat.le_of_ble_eq_true rfl) (Nat.le_of_ble_eq_true rfl) (Or.inr (Or.inr (⟨rfl, h_1⟩))) (Nat.le_of_ble_eq_true rfl) (Nat.le_of_ble_eq_true rfl)
def tX4_ticket (n : Nat → Nat) (ad : Nat → Nat → Nat) (C : q_S) (a b d : Int) (r : Int32) (u : q_U) : Prop :=
  (∃ (ad1 : Nat → Nat → Nat), ((0) ≤ a ∧ a ≤ (7)) ∧ ((1) ≤ b ∧ b ≤ (2)) ∧ ((0) ≤ d ∧ d ≤ (3)) ∧ ((C 4 4 0) < (20)) ∧ (∀ k j, ¬ (k = 3 ∧ j = n 3) → ad1 k j = ad k j) ∧ u = (q_bump n 3, ad1, q_up (q_up (q_up (q_up C 3 0 ((n 3)) a) 3 1 ((n 3)) b) 7 (((C 4 4 0)).toNat) 0 (((n 3 : Nat) : Int) + 1)) 4 4 0 (((C 4 4 0) + (1)))) ∧ r = iI ((C 4 4 0) + (1)))
def xX4_ticket (n : Nat → Nat) (C : q_S) (a b d : Int) (E : String) : Prop :=
  (E = "java/lang/UnsupportedOperationException" ∧ ((0) ≤ a ∧ a ≤ (7)) ∧ ((1) ≤ b ∧ b ≤ (2)) ∧ ((0) ≤ d ∧ d ≤ (3)) ∧ ((20) ≤ (C 4 4 0))) ∨
  (E = "java/lang/IllegalArgumentException" ∧ ((0) ≤ a ∧ a ≤ (7)) ∧ ((1) ≤ b ∧ b ≤ (2)) ∧ (¬ ((0) ≤ d ∧ d ≤ (3)))) ∨
  (E = "java/lang/IllegalArgumentException" ∧ ((0) ≤ a ∧ a ≤ (7)) ∧ (¬ ((1) ≤ b ∧ b ≤ (2)))) ∨
  (E = "java/lang/IllegalArgumentException" ∧ (¬ ((0) ≤ a ∧ a ≤ (7))))
set_option maxHeartbeats 4000000 in
set_option maxRecDepth 100000 in
theorem c_X4_ticket (l : Launch) (htr : l.stackTraces = false) (g : q_G) (s0 : Nat) (n : Nat → Nat) (ad : Nat → Nat → Nat) (C : q_S) (c0 : Nat) (hC : c_S C n) (hR : c_R C n c0) (hc0 : c0 ≤ 511) (a b d : Int) (ha : R32 a) (hb : R32 b) (hd : R32 d)  : vx_Met l yX4_ticket wsX4_ticket ({ frames := 6, cells := 1, slots := 6, locals := 90 }) (va_Pc [.ref (ad 4 0), .int (iI a), .int (iI b), .int (iI d)] (q_B g s0 (n, ad, C))) (va_Qi (tX4_ticket n ad C a b d) (q_B g s0) (q_A s0)) (q_XC g s0 (n, ad, C) (xX4_ticket n C a b d)) 1 6 (q_A s0) := by
  refine vx_ofW (cc := cX4_ticket) (maxL := 4) (ret := (some .int)) (by decide) rfl ?_
  intro p e s m args below meth c s₁ B hml hnx hv
  obtain ⟨rfl, hv⟩ := hv
  have hr := B.returns
  have hlocks := B.notSynchronized
  obtain ⟨X, hP⟩ := q_start B.exec B.bytes hml (show s.vm.findClass RX4 = some m.cls from findClass_of_methodNamed B.named) (atoms_spec (ws := wsX4_ticket) B.pre) hv
  have hP : q_P g s0 n ad C s.heap := hP
  have hS : va_S (q_A s0) s.heap s.heap [] := va_S.rf
  have in3 : ∀ w ∈ wsX30, w ∈ wsX4_ticket := by decide +kernel
  have in4 : ∀ w ∈ wsX40, w ∈ wsX4_ticket := by decide +kernel
  have f0 := c_Rt hR
  have hl := lv_entry ([.ref (ad 4 0), .int (iI a), .int (iI b), .int (iI d)]) (n := 4) (Nat.le_of_ble_eq_true rfl)
  rw [lg_entry_eq]
  generalize (lg_sl ([.ref (ad 4 0), .int (iI a), .int (iI b), .int (iI d)]) ++ List.replicate (4 - (lg_sl ([.ref (ad 4 0), .int (iI a), .int (iI b), .int (iI d)])).length) Slot.unset).toArray = ls at hl ⊢
  have hl : lv_has ls 4 [(0, .ref (ad 4 0)), (1, .int (iI a)), (2, .int (iI b)), (3, .int (iI d))] := hl
  refine lv_iload_n X.1 X.2.1 dX4_ticket_0 rfl (lv_at hl 1 rfl) ?_
  refine lv_iconst (v := iI (0)) X.1 X.2.1 dX4_ticket_1 rfl ?_
  refine lv_bipush (v := iI (7)) X.1 X.2.1 dX4_ticket_2 (by decide) ?_
  refine va_calli (va_runS (As := [.int (iI a), .int (iI (0)), .int (iI (7))]) (rest := []) X.fix (c_X4_isWithin l g s0 n ad C a (0) (7) ha (by decide) (by decide)) (va_cwS 3 X.2.2.2.2.1 gX4_ticket_X4_isWithin rfl rfl rfl (by decide +kernel) ⟨Nat.le_of_ble_eq_true rfl, Nat.le_of_ble_eq_true rfl⟩) (q_preS X hP hS _) rfl rfl hl.1 rfl (lv_room (Nat.le_of_ble_eq_true rfl)) dX4_ticket_4 ⟨Nat.le_of_ble_eq_true rfl, Nat.le_of_ble_eq_true rfl⟩) hS q_id q_id1 (fun r u t H locs ht hvm hw hB hz1 hk1 hS => ?_)
  obtain ⟨rfl, ⟨h_1, rfl⟩ | ⟨h_1, rfl⟩⟩ := hw
  · have hP : q_P g s0 n ad (C) H := q_back hB ht
    have h_1 : (0) ≤ a ∧ a ≤ (7) := h_1
    refine q_if_eq (tgt := 28) X (by decide) dX4_ticket_7 (by decide) (fun h => absurd h (by decide)) (fun _ => ?_)
    refine lv_iload_n X.1 X.2.1 dX4_ticket_10 rfl (lv_at hl 2 rfl) ?_
    refine lv_iconst (v := iI (1)) X.1 X.2.1 dX4_ticket_11 rfl ?_
    refine lv_iconst (v := iI (2)) X.1 X.2.1 dX4_ticket_12 rfl ?_
    refine va_calli (va_runS (As := [.int (iI b), .int (iI (1)), .int (iI (2))]) (rest := []) X.fix (c_X4_isWithin l g s0 n ad C b (1) (2) hb (by decide) (by decide)) (va_cwS 3 X.2.2.2.2.1 gX4_ticket_X4_isWithin rfl rfl rfl (by decide +kernel) ⟨Nat.le_of_ble_eq_true rfl, Nat.le_of_ble_eq_true rfl⟩) (q_preS X hP hS _) rfl rfl hl.1 rfl (lv_room (Nat.le_of_ble_eq_true rfl)) dX4_ticket_13 ⟨Nat.le_of_ble_eq_true rfl, Nat.le_of_ble_eq_true rfl⟩) hS q_id q_id1 (fun r u t H locs ht hvm hw hB hz1 hk1 hS => ?_)
    obtain ⟨rfl, ⟨h_3, rfl⟩ | ⟨h_3, rfl⟩⟩ := hw
    · have hP : q_P g s0 n ad (C) H := q_back hB ht
      have h_3 : (1) ≤ b ∧ b ≤ (2) := h_3
      refine q_if_eq (tgt := 28) X (by decide) dX4_ticket_16 (by decide) (fun h => absurd h (by decide)) (fun _ => ?_)
      refine lv_iload_n X.1 X.2.1 dX4_ticket_19 rfl (lv_at hl 3 rfl) ?_
      refine lv_iconst (v := iI (0)) X.1 X.2.1 dX4_ticket_20 rfl ?_
      refine lv_iconst (v := iI (3)) X.1 X.2.1 dX4_ticket_21 rfl ?_
      refine va_calli (va_runS (As := [.int (iI d), .int (iI (0)), .int (iI (3))]) (rest := []) X.fix (c_X4_isWithin l g s0 n ad C d (0) (3) hd (by decide) (by decide)) (va_cwS 3 X.2.2.2.2.1 gX4_ticket_X4_isWithin rfl rfl rfl (by decide +kernel) ⟨Nat.le_of_ble_eq_true rfl, Nat.le_of_ble_eq_true rfl⟩) (q_preS X hP hS _) rfl rfl hl.1 rfl (lv_room (Nat.le_of_ble_eq_true rfl)) dX4_ticket_22 ⟨Nat.le_of_ble_eq_true rfl, Nat.le_of_ble_eq_true rfl⟩) hS q_id q_id1 (fun r u t H locs ht hvm hw hB hz1 hk1 hS => ?_)
      obtain ⟨rfl, ⟨h_5, rfl⟩ | ⟨h_5, rfl⟩⟩ := hw
      · have hP : q_P g s0 n ad (C) H := q_back hB ht
        have h_5 : (0) ≤ d ∧ d ≤ (3) := h_5
        refine q_if_ne (tgt := 36) X (by decide) dX4_ticket_25 (by decide) (fun _ => ?_) (fun h => absurd h (by decide))
        refine lv_aload_n X.1 X.2.1 dX4_ticket_36 rfl (lv_at hl 0 rfl) ?_
        refine q_get (index := 54) (v := .int (iI (C 4 4 0))) X hP 4 4 0 rfl rfl (by decide) in4 (c_v4 hC) (by decide) (by decide +kernel) rfl dX4_ticket_37 ?_
        have f_7 := c_Rt hR
        refine lv_aload_n X.1 X.2.1 dX4_ticket_40 rfl (lv_at hl 0 rfl) ?_
        refine q_get (index := 17) (v := .ref (ad 7 0)) X hP 4 1 0 rfl rfl (by decide) in4 (c_v4 hC) (by decide) (by decide +kernel) (c_r hC ad 1 7 (by decide)) dX4_ticket_41 ?_
        refine q_len (z := 20) X hP 7 0 4 (by decide) rfl rfl (c_va hC 1 7 (by decide)) rfl dX4_ticket_44 ?_
        refine q_icmp_lt (tgt := 56) X (hP.tok 4 4 0 rfl) (by decide) dX4_ticket_45 (by decide) (fun h_8 => ?_) (fun h_8 => ?_)
        · refine lv_aload_n X.1 X.2.1 dX4_ticket_56 rfl (lv_at hl 0 rfl) ?_
          refine q_get (index := 17) (v := .ref (ad 7 0)) X hP 4 1 0 rfl rfl (by decide) in4 (c_v4 hC) (by decide) (by decide +kernel) (c_r hC ad 1 7 (by decide)) dX4_ticket_57 ?_
          refine lv_aload_n X.1 X.2.1 dX4_ticket_60 rfl (lv_at hl 0 rfl) ?_
          refine q_get (index := 54) (v := .int (iI (C 4 4 0))) X hP 4 4 0 rfl rfl (by decide) in4 (c_v4 hC) (by decide) (by decide +kernel) rfl dX4_ticket_61 ?_
          refine q_new (index := 15) X hP hS 3 rfl rfl (by decide) in3 tyX3 tyX3_ok (by decide +kernel) (by decide +kernel) (by decide +kernel) (q_hz3 _) (Nat.le_of_ble_eq_true rfl) (Nat.le_of_ble_eq_true rfl) dX4_ticket_64 (fun ad1 H hpr1 hP hS => ?_)
          have e_9 : ad 7 0 = ad1 7 0 := (hpr1 7 0 (fun q => absurd q.1 (by decide))).symm
          have e_10 : ad 4 0 = ad1 4 0 := (hpr1 4 0 (fun q => absurd q.1 (by decide))).symm
          have hl : lv_has ls 4 [(0, .ref (ad1 4 0)), (1, .int (iI a)), (2, .int (iI b)), (3, .int (iI d))] := lv_cong hl (lv_cs (congrArg Value.ref e_10) (lv_cs rfl (lv_cs rfl (lv_cs rfl rfl))))
          have hpr1 : ∀ k j, ¬ (k = 3 ∧ j = n 3) → ad1 k j = ad k j := hpr1
          refine W.eq (g2 := F0 m 67 ls [.ref (ad1 3 (n 3)), .int (iI (C 4 4 0)), .ref (ad1 7 0)]) (by rw [e_9]; first | done | rfl) ?_
          have hP : q_P g s0 (q_bump n 3) ad1 (C) H := hP
          refine lv_dup X.1 X.2.1 dX4_ticket_67 rfl ?_
          refine lv_iload_n X.1 X.2.1 dX4_ticket_68 rfl (lv_at hl 1 rfl) ?_
          refine lv_iload_n X.1 X.2.1 dX4_ticket_69 rfl (lv_at hl 2 rfl) ?_
          refine va_callv (va_runI (As := [.int (iI a), .int (iI b)]) (rest := [.ref (ad1 3 (n 3)), .int (iI (C 4 4 0)), .ref (ad1 7 0)]) X.fix (c_X3_init l g s0 (q_bump n 3) ad1 C (n 3) (q_new_lt n 3) a b ha hb) (cwI 2 X.2.2.2.2.1 gX4_ticket_X3_init rfl rfl rfl (X.2.2.2.2.1 (.initialized RX3) (by decide +kernel)) (X.2.2.2.2.1 (.methodLink RX4 57 yX3_init) (by decide +kernel)) (X.2.2.2.2.1 (.instanceMethod yX3_init) (by decide +kernel)) rfl (by decide +kernel) ⟨Nat.le_of_ble_eq_true rfl, Nat.le_of_ble_eq_true rfl⟩) (q_preS X hP hS _) rfl rfl hl.1 rfl (lv_room (Nat.le_of_ble_eq_true rfl)) dX4_ticket_70 ⟨Nat.le_of_ble_eq_true rfl, Nat.le_of_ble_eq_true rfl⟩) hS q_id q_id1 (fun u t H locs ht hvm hw hB hz1 hk1 hS => ?_)
          have hw : u = (q_bump n 3, ad1, q_up (q_up C 3 0 ((n 3)) a) 3 1 ((n 3)) b) := hw
          subst hw
          have hP : q_P g s0 (q_bump n 3) ad1 (q_up (q_up C 3 0 ((n 3)) a) 3 1 ((n 3)) b) H := q_back hB ht
          refine q_ast (len := 20) (z := (C 4 4 0)) X hP hS 7 0 3 (n 3) 4 (by decide) rfl (by decide) rfl rfl rfl (Nat.lt_of_lt_of_le (c_va hC 1 7 (by decide)) (q_bump_le n 3 7)) (q_new_lt n 3) rfl (by omega) (by omega) dX4_ticket_73 (fun H locs hP hS => ?_)
          have hP : q_P g s0 (q_bump n 3) ad1 (q_up (q_up (q_up C 3 0 ((n 3)) a) 3 1 ((n 3)) b) 7 (((C 4 4 0)).toNat) 0 (((n 3 : Nat) : Int) + 1)) H := hP
          refine lv_aload_n X.1 X.2.1 dX4_ticket_74 rfl (lv_at hl 0 rfl) ?_
          refine lv_dup X.1 X.2.1 dX4_ticket_75 rfl ?_
          refine q_get (index := 54) (v := .int (iI (C 4 4 0))) X hP 4 4 0 rfl rfl (by decide) in4 (Nat.lt_of_lt_of_le (c_v4 hC) (q_bump_le n 3 4)) (by decide) (by decide +kernel) rfl dX4_ticket_76 ?_
          refine lv_iconst (v := iI (1)) X.1 X.2.1 dX4_ticket_79 rfl ?_
          refine q_iadd X dX4_ticket_80 ?_
          refine q_put (index := 54) (v := .int (iI ((C 4 4 0) + (1)))) X hP hS 4 4 0 (((C 4 4 0) + (1))) rfl rfl (by decide) in4 tyX4 tyX4_ok nmX4 (Nat.lt_of_lt_of_le (c_v4 hC) (q_bump_le n 3 4)) (by decide) (by decide +kernel) rfl rfl rfl rfl (show R32 _ from (by omega)) dX4_ticket_81 (fun H locs hP hS => ?_)
          have hP : q_P g s0 (q_bump n 3) ad1 (q_up (q_up (q_up (q_up C 3 0 ((n 3)) a) 3 1 ((n 3)) b) 7 (((C 4 4 0)).toNat) 0 (((n 3 : Nat) : Int) + 1)) 4 4 0 (((C 4 4 0) + (1)))) H := hP
          refine lv_aload_n X.1 X.2.1 dX4_ticket_84 rfl (lv_at hl 0 rfl) ?_
          refine q_get (index := 54) (v := .int (iI ((C 4 4 0) + (1)))) X hP 4 4 0 rfl rfl (by decide) in4 (Nat.lt_of_lt_of_le (c_v4 hC) (q_bump_le n 3 4)) (by decide) (by decide +kernel) rfl dX4_ticket_85 ?_
          refine vx_ret ?_
          exact q_iret X hr hlocks hP hS (⟨ad1, h_1, h_3, h_5, h_8, hpr1, rfl, rfl⟩) (Nat.le_of_ble_eq_true rfl) (Nat.le_of_ble_eq_true rfl) dX4_ticket_88
        · exact q_throw X htr hnx hlocks (cls := "java/lang/UnsupportedOperationException") (ik := 48) (ic := 50) (by decide) (by decide +kernel) (by decide +kernel) (by decide +kernel) xb_50 xg_48_50 hP hS hl.1 dX4_ticket_48 dX4_ticket_51 dX4_ticket_52 dX4_ticket_55 (Nat.le_of_ble_eq_true rfl) (Nat.le_of_ble_eq_true rfl) (Nat.le_of_ble_eq_true rfl) (Nat.le_of_ble_eq_true rfl) (Or.inl (⟨rfl, h_1, h_3, h_5, h_8⟩)) (Nat.le_of_ble_eq_true rfl) (Nat.le_of_ble_eq_true rfl)
      · have hP : q_P g s0 n ad (C) H := q_back hB ht
        have h_5 : ¬ ((0) ≤ d ∧ d ≤ (3)) := h_5
        refine q_if_ne (tgt := 36) X (by decide) dX4_ticket_25 (by decide) (fun h => absurd h (by decide)) (fun _ => ?_)
        exact q_throw X htr hnx hlocks (cls := "java/lang/IllegalArgumentException") (ik := 42) (ic := 44) (by decide) (by decide +kernel) (by decide +kernel) (by decide +kernel) xb_44 xg_42_44 hP hS hl.1 dX4_ticket_28 dX4_ticket_31 dX4_ticket_32 dX4_ticket_35 (Nat.le_of_ble_eq_true rfl) (Nat.le_of_ble_eq_true rfl) (Nat.le_of_ble_eq_true rfl) (Nat.le_of_ble_eq_true rfl) (Or.inr (Or.inl (⟨rfl, h_1, h_3, h_5⟩))) (Nat.le_of_ble_eq_true rfl) (Nat.le_of_ble_eq_true rfl)
    · have hP : q_P g s0 n ad (C) H := q_back hB ht
      have h_3 : ¬ ((1) ≤ b ∧ b ≤ (2)) := h_3
      refine q_if_eq (tgt := 28) X (by decide) dX4_ticket_16 (by decide) (fun _ => ?_) (fun h => absurd h (by decide))
      exact q_throw X htr hnx hlocks (cls := "java/lang/IllegalArgumentException") (ik := 42) (ic := 44) (by decide) (by decide +kernel) (by decide +kernel) (by decide +kernel) xb_44 xg_42_44 hP hS hl.1 dX4_ticket_28 dX4_ticket_31 dX4_ticket_32 dX4_ticket_35 (Nat.le_of_ble_eq_true rfl) (Nat.le_of_ble_eq_true rfl) (Nat.le_of_ble_eq_true rfl) (Nat.le_of_ble_eq_true rfl) (Or.inr (Or.inr (Or.inl (⟨rfl, h_1, h_3⟩)))) (Nat.le_of_ble_eq_true rfl) (Nat.le_of_ble_eq_true rfl)
  · have hP : q_P g s0 n ad (C) H := q_back hB ht
    have h_1 : ¬ ((0) ≤ a ∧ a ≤ (7)) := h_1
    refine q_if_eq (tgt := 28) X (by decide) dX4_ticket_7 (by decide) (fun _ => ?_) (fun h => absurd h (by decide))
    exact q_throw X htr hnx hlocks (cls := "java/lang/IllegalArgumentException") (ik := 42) (ic := 44) (by decide) (by decide +kernel) (by decide +kernel) (by decide +kernel) xb_44 xg_42_44 hP hS hl.1 dX4_ticket_28 dX4_ticket_31 dX4_ticket_32 dX4_ticket_35 (Nat.le_of_ble_eq_true rfl) (Nat.le_of_ble_eq_true rfl) (Nat.le_of_ble_eq_true rfl) (Nat.le_of_ble_eq_true rfl) (Or.inr (Or.inr (Or.inr (⟨rfl, h_1⟩)))) (Nat.le_of_ble_eq_true rfl) (Nat.le_of_ble_eq_true rfl)
def tX4_job (n : Nat → Nat) (ad : Nat → Nat → Nat) (C : q_S) (a b d f y : Int) (r : Int32) (u : q_U) : Prop :=
  (∃ (ad1 ad2 : Nat → Nat → Nat), (1 ≤ a ∧ a ≤ (n 3 : Int)) ∧ ((1) ≤ b ∧ b ≤ (500)) ∧ ((1) ≤ d ∧ d ≤ (100)) ∧ ((0) ≤ f ∧ f ≤ (9)) ∧ ((0) ≤ y) ∧ ((C 4 5 0) < (60)) ∧ (∀ k j, ¬ (k = 0 ∧ j = n 0) → ad1 k j = ad k j) ∧ (∀ k j, ¬ (k = 1 ∧ j = n 1) → ad2 k j = ad1 k j) ∧ u = (q_bump (q_bump n 0) 1, ad2, q_up (q_up (q_up (q_up (q_up (q_up (q_up (q_up (q_up (q_up (q_up C 0 0 ((n 0)) ((((C 4 5 0) + (1))))) 0 1 ((n 0)) (((((a - 1).toNat) : Nat) : Int) + 1)) 0 2 ((n 0)) b) 0 3 ((n 0)) f) 0 4 ((n 0)) y) 1 0 ((n 1)) ((((n 0) : Nat) : Int) + 1)) 1 1 ((n 1)) (((0)))) 1 2 ((n 1)) d) 0 7 (n 0) (((n 1 : Nat) : Int) + 1)) 8 (((C 4 5 0)).toNat) 0 (((n 0 : Nat) : Int) + 1)) 4 5 0 (((C 4 5 0) + (1)))) ∧ r = iI ((C 4 5 0) + (1)))
def xX4_job (n : Nat → Nat) (C : q_S) (a b d f y : Int) (E : String) : Prop :=
  (x_find (n 3) a E) ∨
  (E = "java/lang/UnsupportedOperationException" ∧ (1 ≤ a ∧ a ≤ (n 3 : Int)) ∧ ((1) ≤ b ∧ b ≤ (500)) ∧ ((1) ≤ d ∧ d ≤ (100)) ∧ ((0) ≤ f ∧ f ≤ (9)) ∧ ((0) ≤ y) ∧ ((60) ≤ (C 4 5 0))) ∨
  (E = "java/lang/IllegalArgumentException" ∧ (1 ≤ a ∧ a ≤ (n 3 : Int)) ∧ ((1) ≤ b ∧ b ≤ (500)) ∧ ((1) ≤ d ∧ d ≤ (100)) ∧ ((0) ≤ f ∧ f ≤ (9)) ∧ (y < (0))) ∨
  (E = "java/lang/IllegalArgumentException" ∧ (1 ≤ a ∧ a ≤ (n 3 : Int)) ∧ ((1) ≤ b ∧ b ≤ (500)) ∧ ((1) ≤ d ∧ d ≤ (100)) ∧ (¬ ((0) ≤ f ∧ f ≤ (9)))) ∨
  (E = "java/lang/IllegalArgumentException" ∧ (1 ≤ a ∧ a ≤ (n 3 : Int)) ∧ ((1) ≤ b ∧ b ≤ (500)) ∧ (¬ ((1) ≤ d ∧ d ≤ (100)))) ∨
  (E = "java/lang/IllegalArgumentException" ∧ (1 ≤ a ∧ a ≤ (n 3 : Int)) ∧ (¬ ((1) ≤ b ∧ b ≤ (500))))
set_option maxHeartbeats 4000000 in
set_option maxRecDepth 100000 in
theorem c_X4_job (l : Launch) (htr : l.stackTraces = false) (g : q_G) (s0 : Nat) (n : Nat → Nat) (ad : Nat → Nat → Nat) (C : q_S) (c0 : Nat) (hC : c_S C n) (hR : c_R C n c0) (hc0 : c0 ≤ 511) (a b d f y : Int) (ha : R32 a) (hb : R32 b) (hd : R32 d) (hf : R32 f) (hy : R64 y)  : vx_Met l yX4_job wsX4_job ({ frames := 7, cells := 3, slots := 21, locals := 112 }) (va_Pc [.ref (ad 4 0), .int (iI a), .int (iI b), .int (iI d), .int (iI f), .long (jI y)] (q_B g s0 (n, ad, C))) (va_Qi (tX4_job n ad C a b d f y) (q_B g s0) (q_A s0)) (q_XC g s0 (n, ad, C) (xX4_job n C a b d f y)) 3 21 (q_A s0) := by
  refine vx_ofW (cc := cX4_job) (maxL := 9) (ret := (some .int)) (by decide) rfl ?_
  intro p e s m args below meth c s₁ B hml hnx hv
  obtain ⟨rfl, hv⟩ := hv
  have hr := B.returns
  have hlocks := B.notSynchronized
  obtain ⟨X, hP⟩ := q_start B.exec B.bytes hml (show s.vm.findClass RX4 = some m.cls from findClass_of_methodNamed B.named) (atoms_spec (ws := wsX4_job) B.pre) hv
  have hP : q_P g s0 n ad C s.heap := hP
  have hS : va_S (q_A s0) s.heap s.heap [] := va_S.rf
  have in0 : ∀ w ∈ wsX00, w ∈ wsX4_job := by decide +kernel
  have in1 : ∀ w ∈ wsX10, w ∈ wsX4_job := by decide +kernel
  have in4 : ∀ w ∈ wsX40, w ∈ wsX4_job := by decide +kernel
  have f0 := c_Rj hR
  have hl := lv_entry ([.ref (ad 4 0), .int (iI a), .int (iI b), .int (iI d), .int (iI f), .long (jI y)]) (n := 9) (Nat.le_of_ble_eq_true rfl)
  rw [lg_entry_eq]
  generalize (lg_sl ([.ref (ad 4 0), .int (iI a), .int (iI b), .int (iI d), .int (iI f), .long (jI y)]) ++ List.replicate (9 - (lg_sl ([.ref (ad 4 0), .int (iI a), .int (iI b), .int (iI d), .int (iI f), .long (jI y)])).length) Slot.unset).toArray = ls at hl ⊢
  have hl : lv_has ls 9 [(0, .ref (ad 4 0)), (1, .int (iI a)), (2, .int (iI b)), (3, .int (iI d)), (4, .int (iI f)), (5, .long (jI y))] := hl
  refine lv_aload_n X.1 X.2.1 dX4_job_0 rfl (lv_at hl 0 rfl) ?_
  refine lv_iload_n X.1 X.2.1 dX4_job_1 rfl (lv_at hl 1 rfl) ?_
  refine vx_callq (vx_runV (As := [.int (iI a)]) (rest := []) X.fix (c_X4_findTicket l htr g s0 n ad C c0 hC hR a ha) (cwV 1 X.2.2.2.2.1 gX4_job_X4_findTicket rfl rfl rfl (by decide +kernel) ⟨Nat.le_of_ble_eq_true rfl, Nat.le_of_ble_eq_true rfl⟩) (q_preV X hP hS [.int (iI a)] (kd := 4) (by decide) rfl (c_v4 hC)) rfl rfl hl.1 rfl (lv_room (Nat.le_of_ble_eq_true rfl)) dX4_job_2 ⟨Nat.le_of_ble_eq_true rfl, Nat.le_of_ble_eq_true rfl⟩) hS q_id q_id1 q_id ?_ (fun r u t H locs ht hvm hw hB hz1 hk1 hS => ?_)
  · intro E ce q9 u t H locs ht hvm hpx hBX hz1 hk1 hS hce hcv hcl
    exact q_xout X hnx hlocks hBX ht hS hce hcv hcl (fun hxe => Or.inl (hxe)) (Nat.le_of_ble_eq_true rfl) (Nat.le_of_ble_eq_true rfl)
  · obtain ⟨rfl, h_1, rfl⟩ := hw
    have hP : q_P g s0 n ad (C) H := q_back hB ht
    rw [show va_rf (some (ad 3 ((a - 1).toNat))) = .ref (ad 3 ((a - 1).toNat)) from rfl]
    refine lv_astore (lv' := [(7, .ref (ad 3 ((a - 1).toNat))), (0, .ref (ad 4 0)), (1, .int (iI a)), (2, .int (iI b)), (3, .int (iI d)), (4, .int (iI f)), (5, .long (jI y))]) X.1 X.2.1 dX4_job_5 hl (by decide) rfl (fun ls hl => ?_)
    refine lv_iload_n X.1 X.2.1 dX4_job_7 rfl (lv_at hl 3 rfl) ?_
    refine lv_iconst (v := iI (1)) X.1 X.2.1 dX4_job_8 rfl ?_
    refine lv_sipush (v := iI (500)) X.1 X.2.1 dX4_job_9 (by decide) ?_
    refine va_calli (va_runS (As := [.int (iI b), .int (iI (1)), .int (iI (500))]) (rest := []) X.fix (c_X4_isWithin l g s0 n ad C b (1) (500) hb (by decide) (by decide)) (va_cwS 3 X.2.2.2.2.1 gX4_job_X4_isWithin rfl rfl rfl (by decide +kernel) ⟨Nat.le_of_ble_eq_true rfl, Nat.le_of_ble_eq_true rfl⟩) (q_preS X hP hS _) rfl rfl hl.1 rfl (lv_room (Nat.le_of_ble_eq_true rfl)) dX4_job_12 ⟨Nat.le_of_ble_eq_true rfl, Nat.le_of_ble_eq_true rfl⟩) hS q_id q_id1 (fun r u t H locs ht hvm hw hB hz1 hk1 hS => ?_)
    obtain ⟨rfl, ⟨h_2, rfl⟩ | ⟨h_2, rfl⟩⟩ := hw
    · have hP : q_P g s0 n ad (C) H := q_back hB ht
      have h_2 : (1) ≤ b ∧ b ≤ (500) := h_2
      refine q_if_eq (tgt := 46) X (by decide) dX4_job_15 (by decide) (fun h => absurd h (by decide)) (fun _ => ?_)
      refine lv_iload_n X.1 X.2.1 dX4_job_18 rfl (lv_at hl 4 rfl) ?_
      refine lv_iconst (v := iI (1)) X.1 X.2.1 dX4_job_19 rfl ?_
      refine lv_bipush (v := iI (100)) X.1 X.2.1 dX4_job_20 (by decide) ?_
      refine va_calli (va_runS (As := [.int (iI d), .int (iI (1)), .int (iI (100))]) (rest := []) X.fix (c_X4_isWithin l g s0 n ad C d (1) (100) hd (by decide) (by decide)) (va_cwS 3 X.2.2.2.2.1 gX4_job_X4_isWithin rfl rfl rfl (by decide +kernel) ⟨Nat.le_of_ble_eq_true rfl, Nat.le_of_ble_eq_true rfl⟩) (q_preS X hP hS _) rfl rfl hl.1 rfl (lv_room (Nat.le_of_ble_eq_true rfl)) dX4_job_22 ⟨Nat.le_of_ble_eq_true rfl, Nat.le_of_ble_eq_true rfl⟩) hS q_id q_id1 (fun r u t H locs ht hvm hw hB hz1 hk1 hS => ?_)
      obtain ⟨rfl, ⟨h_4, rfl⟩ | ⟨h_4, rfl⟩⟩ := hw
      · have hP : q_P g s0 n ad (C) H := q_back hB ht
        have h_4 : (1) ≤ d ∧ d ≤ (100) := h_4
        refine q_if_eq (tgt := 46) X (by decide) dX4_job_25 (by decide) (fun h => absurd h (by decide)) (fun _ => ?_)
        refine lv_iload X.1 X.2.1 dX4_job_28 (lv_at hl 5 rfl) ?_
        refine lv_iconst (v := iI (0)) X.1 X.2.1 dX4_job_30 rfl ?_
        refine lv_bipush (v := iI (9)) X.1 X.2.1 dX4_job_31 (by decide) ?_
        refine va_calli (va_runS (As := [.int (iI f), .int (iI (0)), .int (iI (9))]) (rest := []) X.fix (c_X4_isWithin l g s0 n ad C f (0) (9) hf (by decide) (by decide)) (va_cwS 3 X.2.2.2.2.1 gX4_job_X4_isWithin rfl rfl rfl (by decide +kernel) ⟨Nat.le_of_ble_eq_true rfl, Nat.le_of_ble_eq_true rfl⟩) (q_preS X hP hS _) rfl rfl hl.1 rfl (lv_room (Nat.le_of_ble_eq_true rfl)) dX4_job_33 ⟨Nat.le_of_ble_eq_true rfl, Nat.le_of_ble_eq_true rfl⟩) hS q_id q_id1 (fun r u t H locs ht hvm hw hB hz1 hk1 hS => ?_)
        obtain ⟨rfl, ⟨h_6, rfl⟩ | ⟨h_6, rfl⟩⟩ := hw
        · have hP : q_P g s0 n ad (C) H := q_back hB ht
          have h_6 : (0) ≤ f ∧ f ≤ (9) := h_6
          refine q_if_eq (tgt := 46) X (by decide) dX4_job_36 (by decide) (fun h => absurd h (by decide)) (fun _ => ?_)
          refine lv_lload X.1 X.2.1 dX4_job_39 (lv_at hl 6 rfl) ?_
          refine lv_lconst (v := jI (0)) X.1 X.2.1 dX4_job_41 (by decide) ?_
          refine q_lcmp_ge (tgt := 54) X hy (by decide) dX4_job_42 dX4_job_43 (by decide) (fun h_8 => ?_) (fun h_8 => ?_)
          · refine lv_aload_n X.1 X.2.1 dX4_job_54 rfl (lv_at hl 1 rfl) ?_
            refine q_get (index := 64) (v := .int (iI (C 4 5 0))) X hP 4 5 0 rfl rfl (by decide) in4 (c_v4 hC) (by decide) (by decide +kernel) rfl dX4_job_55 ?_
            have f_9 := c_Rj hR
            refine lv_aload_n X.1 X.2.1 dX4_job_58 rfl (lv_at hl 1 rfl) ?_
            refine q_get (index := 23) (v := .ref (ad 8 0)) X hP 4 2 0 rfl rfl (by decide) in4 (c_v4 hC) (by decide) (by decide +kernel) (c_r hC ad 2 8 (by decide)) dX4_job_59 ?_
            refine q_len (z := 60) X hP 8 0 5 (by decide) rfl rfl (c_va hC 2 8 (by decide)) rfl dX4_job_62 ?_
            refine q_icmp_lt (tgt := 74) X (hP.tok 4 5 0 rfl) (by decide) dX4_job_63 (by decide) (fun h_10 => ?_) (fun h_10 => ?_)
            · refine q_new (index := 21) X hP hS 0 rfl rfl (by decide) in0 tyX0 tyX0_ok (by decide +kernel) (by decide +kernel) (by decide +kernel) (q_hz0 _) (Nat.le_of_ble_eq_true rfl) (Nat.le_of_ble_eq_true rfl) dX4_job_74 (fun ad1 H hpr1 hP hS => ?_)
              have e_11 : ad 3 ((a - 1).toNat) = ad1 3 ((a - 1).toNat) := (hpr1 3 ((a - 1).toNat) (fun q => absurd q.1 (by decide))).symm
              have e_12 : ad 4 0 = ad1 4 0 := (hpr1 4 0 (fun q => absurd q.1 (by decide))).symm
              have hl : lv_has ls 9 [(7, .ref (ad1 3 ((a - 1).toNat))), (0, .ref (ad1 4 0)), (1, .int (iI a)), (2, .int (iI b)), (3, .int (iI d)), (4, .int (iI f)), (5, .long (jI y))] := lv_cong hl (lv_cs (congrArg Value.ref e_11) (lv_cs (congrArg Value.ref e_12) (lv_cs rfl (lv_cs rfl (lv_cs rfl (lv_cs rfl (lv_cs rfl rfl)))))))
              have hpr1 : ∀ k j, ¬ (k = 0 ∧ j = n 0) → ad1 k j = ad k j := hpr1
              have hP : q_P g s0 (q_bump n 0) ad1 (C) H := hP
              refine lv_dup X.1 X.2.1 dX4_job_77 rfl ?_
              refine lv_aload_n X.1 X.2.1 dX4_job_78 rfl (lv_at hl 1 rfl) ?_
              refine q_get (index := 64) (v := .int (iI (C 4 5 0))) X hP 4 5 0 rfl rfl (by decide) in4 (Nat.lt_of_lt_of_le (c_v4 hC) (q_bump_le n 0 4)) (by decide) (by decide +kernel) rfl dX4_job_79 ?_
              refine lv_iconst (v := iI (1)) X.1 X.2.1 dX4_job_82 rfl ?_
              refine q_iadd X dX4_job_83 ?_
              refine lv_aload X.1 X.2.1 dX4_job_84 (lv_at hl 0 rfl) ?_
              refine lv_iload_n X.1 X.2.1 dX4_job_86 rfl (lv_at hl 3 rfl) ?_
              refine lv_iload X.1 X.2.1 dX4_job_87 (lv_at hl 5 rfl) ?_
              refine lv_lload X.1 X.2.1 dX4_job_89 (lv_at hl 6 rfl) ?_
              refine va_callv (va_runI (As := [.int (iI ((C 4 5 0) + (1))), .ref (ad1 3 ((a - 1).toNat)), .int (iI b), .int (iI f), .long (jI y)]) (rest := [.ref (ad1 0 (n 0))]) X.fix (c_X0_init l g s0 (q_bump n 0) ad1 C (n 0) (q_new_lt n 0) ((a - 1).toNat) (Nat.lt_of_lt_of_le (show (a - 1).toNat < n 3 by omega) (q_bump_le n 0 3)) ((C 4 5 0) + (1)) b f y (by omega) hb hf hy) (cwI 5 X.2.2.2.2.1 gX4_job_X0_init rfl rfl rfl (X.2.2.2.2.1 (.initialized RX0) (by decide +kernel)) (X.2.2.2.2.1 (.methodLink RX4 67 yX0_init) (by decide +kernel)) (X.2.2.2.2.1 (.instanceMethod yX0_init) (by decide +kernel)) rfl (by decide +kernel) ⟨Nat.le_of_ble_eq_true rfl, Nat.le_of_ble_eq_true rfl⟩) (q_preS X hP hS _) rfl rfl hl.1 rfl (lv_room (Nat.le_of_ble_eq_true rfl)) dX4_job_91 ⟨Nat.le_of_ble_eq_true rfl, Nat.le_of_ble_eq_true rfl⟩) hS q_id q_id1 (fun u t H locs ht hvm hw hB hz1 hk1 hS => ?_)
              have hw : u = (q_bump n 0, ad1, q_up (q_up (q_up (q_up (q_up C 0 0 ((n 0)) ((((C 4 5 0) + (1))))) 0 1 ((n 0)) (((((a - 1).toNat) : Nat) : Int) + 1)) 0 2 ((n 0)) b) 0 3 ((n 0)) f) 0 4 ((n 0)) y) := hw
              subst hw
              have hP : q_P g s0 (q_bump n 0) ad1 (q_up (q_up (q_up (q_up (q_up C 0 0 ((n 0)) ((((C 4 5 0) + (1))))) 0 1 ((n 0)) (((((a - 1).toNat) : Nat) : Int) + 1)) 0 2 ((n 0)) b) 0 3 ((n 0)) f) 0 4 ((n 0)) y) H := q_back hB ht
              refine lv_astore (lv' := [(8, .ref (ad1 0 (n 0))), (7, .ref (ad1 3 ((a - 1).toNat))), (0, .ref (ad1 4 0)), (1, .int (iI a)), (2, .int (iI b)), (3, .int (iI d)), (4, .int (iI f)), (5, .long (jI y))]) X.1 X.2.1 dX4_job_94 hl (by decide) rfl (fun ls hl => ?_)
              refine lv_aload X.1 X.2.1 dX4_job_96 (lv_at hl 0 rfl) ?_
              refine q_new (index := 70) X hP hS 1 rfl rfl (by decide) in1 tyX1 tyX1_ok (by decide +kernel) (by decide +kernel) (by decide +kernel) (q_hz1 _) (Nat.le_of_ble_eq_true rfl) (Nat.le_of_ble_eq_true rfl) dX4_job_98 (fun ad2 H hpr2 hP hS => ?_)
              have e_13 : ad1 0 (n 0) = ad2 0 (n 0) := (hpr2 0 (n 0) (fun q => absurd q.1 (by decide))).symm
              have e_14 : ad1 3 ((a - 1).toNat) = ad2 3 ((a - 1).toNat) := (hpr2 3 ((a - 1).toNat) (fun q => absurd q.1 (by decide))).symm
              have e_15 : ad1 4 0 = ad2 4 0 := (hpr2 4 0 (fun q => absurd q.1 (by decide))).symm
              have hl : lv_has ls 9 [(8, .ref (ad2 0 (n 0))), (7, .ref (ad2 3 ((a - 1).toNat))), (0, .ref (ad2 4 0)), (1, .int (iI a)), (2, .int (iI b)), (3, .int (iI d)), (4, .int (iI f)), (5, .long (jI y))] := lv_cong hl (lv_cs (congrArg Value.ref e_13) (lv_cs (congrArg Value.ref e_14) (lv_cs (congrArg Value.ref e_15) (lv_cs rfl (lv_cs rfl (lv_cs rfl (lv_cs rfl (lv_cs rfl rfl))))))))
              have hpr2 : ∀ k j, ¬ (k = 1 ∧ j = n 1) → ad2 k j = ad1 k j := hpr2
              refine W.eq (g2 := F0 m 101 ls [.ref (ad2 1 (n 1)), .ref (ad2 0 (n 0))]) (by rw [e_13]; first | done | rfl) ?_
              have hP : q_P g s0 (q_bump (q_bump n 0) 1) ad2 (q_up (q_up (q_up (q_up (q_up C 0 0 ((n 0)) ((((C 4 5 0) + (1))))) 0 1 ((n 0)) (((((a - 1).toNat) : Nat) : Int) + 1)) 0 2 ((n 0)) b) 0 3 ((n 0)) f) 0 4 ((n 0)) y) H := hP
              refine lv_dup X.1 X.2.1 dX4_job_101 rfl ?_
              refine lv_aload X.1 X.2.1 dX4_job_102 (lv_at hl 0 rfl) ?_
              refine lv_iconst (v := iI (0)) X.1 X.2.1 dX4_job_104 rfl ?_
              refine lv_iload_n X.1 X.2.1 dX4_job_105 rfl (lv_at hl 5 rfl) ?_
              refine va_callv (va_runI (As := [.ref (ad2 0 (n 0)), .int (iI (0)), .int (iI d)]) (rest := [.ref (ad2 1 (n 1)), .ref (ad2 0 (n 0))]) X.fix (c_X1_init l g s0 (q_bump (q_bump n 0) 1) ad2 (q_up (q_up (q_up (q_up (q_up C 0 0 ((n 0)) ((((C 4 5 0) + (1))))) 0 1 ((n 0)) (((((a - 1).toNat) : Nat) : Int) + 1)) 0 2 ((n 0)) b) 0 3 ((n 0)) f) 0 4 ((n 0)) y) (n 1) (q_new_lt (q_bump n 0) 1) (n 0) (Nat.lt_of_lt_of_le (q_new_lt n 0) (q_bump_le (q_bump n 0) 1 0)) (0) d (by decide) hd) (cwI 3 X.2.2.2.2.1 gX4_job_X1_init rfl rfl rfl (X.2.2.2.2.1 (.initialized RX1) (by decide +kernel)) (X.2.2.2.2.1 (.methodLink RX4 72 yX1_init) (by decide +kernel)) (X.2.2.2.2.1 (.instanceMethod yX1_init) (by decide +kernel)) rfl (by decide +kernel) ⟨Nat.le_of_ble_eq_true rfl, Nat.le_of_ble_eq_true rfl⟩) (q_preS X hP hS _) rfl rfl hl.1 rfl (lv_room (Nat.le_of_ble_eq_true rfl)) dX4_job_106 ⟨Nat.le_of_ble_eq_true rfl, Nat.le_of_ble_eq_true rfl⟩) hS q_id q_id1 (fun u t H locs ht hvm hw hB hz1 hk1 hS => ?_)
              have hw : u = (q_bump (q_bump n 0) 1, ad2, q_up (q_up (q_up (q_up (q_up (q_up (q_up (q_up C 0 0 ((n 0)) ((((C 4 5 0) + (1))))) 0 1 ((n 0)) (((((a - 1).toNat) : Nat) : Int) + 1)) 0 2 ((n 0)) b) 0 3 ((n 0)) f) 0 4 ((n 0)) y) 1 0 ((n 1)) ((((n 0) : Nat) : Int) + 1)) 1 1 ((n 1)) (((0)))) 1 2 ((n 1)) d) := hw
              subst hw
              have hP : q_P g s0 (q_bump (q_bump n 0) 1) ad2 (q_up (q_up (q_up (q_up (q_up (q_up (q_up (q_up C 0 0 ((n 0)) ((((C 4 5 0) + (1))))) 0 1 ((n 0)) (((((a - 1).toNat) : Nat) : Int) + 1)) 0 2 ((n 0)) b) 0 3 ((n 0)) f) 0 4 ((n 0)) y) 1 0 ((n 1)) ((((n 0) : Nat) : Int) + 1)) 1 1 ((n 1)) (((0)))) 1 2 ((n 1)) d) H := q_back hB ht
              refine q_put (index := 75) (v := .ref (ad2 1 (n 1))) X hP hS 0 7 (n 0) (((n 1 : Nat) : Int) + 1) rfl rfl (by decide) in0 tyX0 tyX0_ok nmX0 (Nat.lt_of_lt_of_le (q_new_lt n 0) (q_bump_le (q_bump n 0) 1 0)) (by decide) (by decide +kernel) rfl (q_v2 ad2 1 (n 1)) rfl rfl (q_t2 (q_new_lt (q_bump n 0) 1)) dX4_job_109 (fun H locs hP hS => ?_)
              have hP : q_P g s0 (q_bump (q_bump n 0) 1) ad2 (q_up (q_up (q_up (q_up (q_up (q_up (q_up (q_up (q_up C 0 0 ((n 0)) ((((C 4 5 0) + (1))))) 0 1 ((n 0)) (((((a - 1).toNat) : Nat) : Int) + 1)) 0 2 ((n 0)) b) 0 3 ((n 0)) f) 0 4 ((n 0)) y) 1 0 ((n 1)) ((((n 0) : Nat) : Int) + 1)) 1 1 ((n 1)) (((0)))) 1 2 ((n 1)) d) 0 7 (n 0) (((n 1 : Nat) : Int) + 1)) H := hP
              refine lv_aload_n X.1 X.2.1 dX4_job_112 rfl (lv_at hl 2 rfl) ?_
              refine q_get (index := 23) (v := .ref (ad2 8 0)) X hP 4 2 0 rfl rfl (by decide) in4 (Nat.lt_of_lt_of_le (Nat.lt_of_lt_of_le (c_v4 hC) (q_bump_le n 0 4)) (q_bump_le (q_bump n 0) 1 4)) (by decide) (by decide +kernel) (c_r hC ad2 2 8 (by decide)) dX4_job_113 ?_
              refine lv_aload_n X.1 X.2.1 dX4_job_116 rfl (lv_at hl 2 rfl) ?_
              refine q_get (index := 64) (v := .int (iI (C 4 5 0))) X hP 4 5 0 rfl rfl (by decide) in4 (Nat.lt_of_lt_of_le (Nat.lt_of_lt_of_le (c_v4 hC) (q_bump_le n 0 4)) (q_bump_le (q_bump n 0) 1 4)) (by decide) (by decide +kernel) rfl dX4_job_117 ?_
              refine lv_aload X.1 X.2.1 dX4_job_120 (lv_at hl 0 rfl) ?_
              refine q_ast (len := 60) (z := (C 4 5 0)) X hP hS 8 0 0 (n 0) 5 (by decide) rfl (by decide) rfl rfl rfl (Nat.lt_of_lt_of_le (Nat.lt_of_lt_of_le (c_va hC 2 8 (by decide)) (q_bump_le n 0 8)) (q_bump_le (q_bump n 0) 1 8)) (Nat.lt_of_lt_of_le (q_new_lt n 0) (q_bump_le (q_bump n 0) 1 0)) rfl (by omega) (by omega) dX4_job_122 (fun H locs hP hS => ?_)
              have hP : q_P g s0 (q_bump (q_bump n 0) 1) ad2 (q_up (q_up (q_up (q_up (q_up (q_up (q_up (q_up (q_up (q_up C 0 0 ((n 0)) ((((C 4 5 0) + (1))))) 0 1 ((n 0)) (((((a - 1).toNat) : Nat) : Int) + 1)) 0 2 ((n 0)) b) 0 3 ((n 0)) f) 0 4 ((n 0)) y) 1 0 ((n 1)) ((((n 0) : Nat) : Int) + 1)) 1 1 ((n 1)) (((0)))) 1 2 ((n 1)) d) 0 7 (n 0) (((n 1 : Nat) : Int) + 1)) 8 (((C 4 5 0)).toNat) 0 (((n 0 : Nat) : Int) + 1)) H := hP
              refine lv_aload_n X.1 X.2.1 dX4_job_123 rfl (lv_at hl 2 rfl) ?_
              refine lv_dup X.1 X.2.1 dX4_job_124 rfl ?_
              refine q_get (index := 64) (v := .int (iI (C 4 5 0))) X hP 4 5 0 rfl rfl (by decide) in4 (Nat.lt_of_lt_of_le (Nat.lt_of_lt_of_le (c_v4 hC) (q_bump_le n 0 4)) (q_bump_le (q_bump n 0) 1 4)) (by decide) (by decide +kernel) rfl dX4_job_125 ?_
              refine lv_iconst (v := iI (1)) X.1 X.2.1 dX4_job_128 rfl ?_
              refine q_iadd X dX4_job_129 ?_
              refine q_put (index := 64) (v := .int (iI ((C 4 5 0) + (1)))) X hP hS 4 5 0 (((C 4 5 0) + (1))) rfl rfl (by decide) in4 tyX4 tyX4_ok nmX4 (Nat.lt_of_lt_of_le (Nat.lt_of_lt_of_le (c_v4 hC) (q_bump_le n 0 4)) (q_bump_le (q_bump n 0) 1 4)) (by decide) (by decide +kernel) rfl rfl rfl rfl (show R32 _ from (by omega)) dX4_job_130 (fun H locs hP hS => ?_)
              have hP : q_P g s0 (q_bump (q_bump n 0) 1) ad2 (q_up (q_up (q_up (q_up (q_up (q_up (q_up (q_up (q_up (q_up (q_up C 0 0 ((n 0)) ((((C 4 5 0) + (1))))) 0 1 ((n 0)) (((((a - 1).toNat) : Nat) : Int) + 1)) 0 2 ((n 0)) b) 0 3 ((n 0)) f) 0 4 ((n 0)) y) 1 0 ((n 1)) ((((n 0) : Nat) : Int) + 1)) 1 1 ((n 1)) (((0)))) 1 2 ((n 1)) d) 0 7 (n 0) (((n 1 : Nat) : Int) + 1)) 8 (((C 4 5 0)).toNat) 0 (((n 0 : Nat) : Int) + 1)) 4 5 0 (((C 4 5 0) + (1)))) H := hP
              refine lv_aload_n X.1 X.2.1 dX4_job_133 rfl (lv_at hl 2 rfl) ?_
              refine q_get (index := 64) (v := .int (iI ((C 4 5 0) + (1)))) X hP 4 5 0 rfl rfl (by decide) in4 (Nat.lt_of_lt_of_le (Nat.lt_of_lt_of_le (c_v4 hC) (q_bump_le n 0 4)) (q_bump_le (q_bump n 0) 1 4)) (by decide) (by decide +kernel) rfl dX4_job_134 ?_
              refine vx_ret ?_
              exact q_iret X hr hlocks hP hS (⟨ad1, ad2, h_1, h_2, h_4, h_6, h_8, h_10, hpr1, hpr2, rfl, rfl⟩) (Nat.le_of_ble_eq_true rfl) (Nat.le_of_ble_eq_true rfl) dX4_job_137
            · exact q_throw X htr hnx hlocks (cls := "java/lang/UnsupportedOperationException") (ik := 48) (ic := 50) (by decide) (by decide +kernel) (by decide +kernel) (by decide +kernel) xb_50 xg_48_50 hP hS hl.1 dX4_job_66 dX4_job_69 dX4_job_70 dX4_job_73 (Nat.le_of_ble_eq_true rfl) (Nat.le_of_ble_eq_true rfl) (Nat.le_of_ble_eq_true rfl) (Nat.le_of_ble_eq_true rfl) (Or.inr (Or.inl (⟨rfl, h_1, h_2, h_4, h_6, h_8, h_10⟩))) (Nat.le_of_ble_eq_true rfl) (Nat.le_of_ble_eq_true rfl)
          · exact q_throw X htr hnx hlocks (cls := "java/lang/IllegalArgumentException") (ik := 42) (ic := 44) (by decide) (by decide +kernel) (by decide +kernel) (by decide +kernel) xb_44 xg_42_44 hP hS hl.1 dX4_job_46 dX4_job_49 dX4_job_50 dX4_job_53 (Nat.le_of_ble_eq_true rfl) (Nat.le_of_ble_eq_true rfl) (Nat.le_of_ble_eq_true rfl) (Nat.le_of_ble_eq_true rfl) (Or.inr (Or.inr (Or.inl (⟨rfl, h_1, h_2, h_4, h_6, h_8⟩)))) (Nat.le_of_ble_eq_true rfl) (Nat.le_of_ble_eq_true rfl)
        · have hP : q_P g s0 n ad (C) H := q_back hB ht
          have h_6 : ¬ ((0) ≤ f ∧ f ≤ (9)) := h_6
          refine q_if_eq (tgt := 46) X (by decide) dX4_job_36 (by decide) (fun _ => ?_) (fun h => absurd h (by decide))
          exact q_throw X htr hnx hlocks (cls := "java/lang/IllegalArgumentException") (ik := 42) (ic := 44) (by decide) (by decide +kernel) (by decide +kernel) (by decide +kernel) xb_44 xg_42_44 hP hS hl.1 dX4_job_46 dX4_job_49 dX4_job_50 dX4_job_53 (Nat.le_of_ble_eq_true rfl) (Nat.le_of_ble_eq_true rfl) (Nat.le_of_ble_eq_true rfl) (Nat.le_of_ble_eq_true rfl) (Or.inr (Or.inr (Or.inr (Or.inl (⟨rfl, h_1, h_2, h_4, h_6⟩))))) (Nat.le_of_ble_eq_true rfl) (Nat.le_of_ble_eq_true rfl)
      · have hP : q_P g s0 n ad (C) H := q_back hB ht
        have h_4 : ¬ ((1) ≤ d ∧ d ≤ (100)) := h_4
        refine q_if_eq (tgt := 46) X (by decide) dX4_job_25 (by decide) (fun _ => ?_) (fun h => absurd h (by decide))
        exact q_throw X htr hnx hlocks (cls := "java/lang/IllegalArgumentException") (ik := 42) (ic := 44) (by decide) (by decide +kernel) (by decide +kernel) (by decide +kernel) xb_44 xg_42_44 hP hS hl.1 dX4_job_46 dX4_job_49 dX4_job_50 dX4_job_53 (Nat.le_of_ble_eq_true rfl) (Nat.le_of_ble_eq_true rfl) (Nat.le_of_ble_eq_true rfl) (Nat.le_of_ble_eq_true rfl) (Or.inr (Or.inr (Or.inr (Or.inr (Or.inl (⟨rfl, h_1, h_2, h_4⟩)))))) (Nat.le_of_ble_eq_true rfl) (Nat.le_of_ble_eq_true rfl)
    · have hP : q_P g s0 n ad (C) H := q_back hB ht
      have h_2 : ¬ ((1) ≤ b ∧ b ≤ (500)) := h_2
      refine q_if_eq (tgt := 46) X (by decide) dX4_job_15 (by decide) (fun _ => ?_) (fun h => absurd h (by decide))
      exact q_throw X htr hnx hlocks (cls := "java/lang/IllegalArgumentException") (ik := 42) (ic := 44) (by decide) (by decide +kernel) (by decide +kernel) (by decide +kernel) xb_44 xg_42_44 hP hS hl.1 dX4_job_46 dX4_job_49 dX4_job_50 dX4_job_53 (Nat.le_of_ble_eq_true rfl) (Nat.le_of_ble_eq_true rfl) (Nat.le_of_ble_eq_true rfl) (Nat.le_of_ble_eq_true rfl) (Or.inr (Or.inr (Or.inr (Or.inr (Or.inr (⟨rfl, h_1, h_2⟩)))))) (Nat.le_of_ble_eq_true rfl) (Nat.le_of_ble_eq_true rfl)
def tX4_state (n : Nat → Nat) (ad : Nat → Nat → Nat) (C : q_S) (a b : Int) (r : Int32) (u : q_U) : Prop :=
  ((1 ≤ a ∧ a ≤ (n 0 : Int)) ∧ (b = 0) ∧ u = (n, ad, C) ∧ r = iI (c_con C n ((a - 1).toNat))) ∨
  ((1 ≤ a ∧ a ≤ (n 0 : Int)) ∧ (¬ b = 0) ∧ (b = 1) ∧ u = (n, ad, C) ∧ r = iI (c_acc C ((a - 1).toNat) (fun k => C 1 4 k * C 0 2 ((a - 1).toNat) + C 1 5 k) (n 1))) ∨
  ((1 ≤ a ∧ a ≤ (n 0 : Int)) ∧ (¬ b = 0) ∧ (¬ b = 1) ∧ (b = 2) ∧ u = (n, ad, C) ∧ r = iI (c_acc C ((a - 1).toNat) (fun k => C 1 4 k) (n 1))) ∨
  ((1 ≤ a ∧ a ≤ (n 0 : Int)) ∧ (¬ b = 0) ∧ (¬ b = 1) ∧ (¬ b = 2) ∧ (b = 3) ∧ u = (n, ad, C) ∧ r = iI (c_acc C ((a - 1).toNat) (fun _ => 1) (n 1))) ∨
  ((1 ≤ a ∧ a ≤ (n 0 : Int)) ∧ (¬ b = 0) ∧ (¬ b = 1) ∧ (¬ b = 2) ∧ (¬ b = 3) ∧ (b = 4) ∧ u = (n, ad, C) ∧ r = iI (C 0 5 ((a - 1).toNat)))
def xX4_state (n : Nat → Nat) (C : q_S) (a b : Int) (E : String) : Prop :=
  (x_find (n 0) a E) ∨
  (E = "java/lang/IndexOutOfBoundsException" ∧ (1 ≤ a ∧ a ≤ (n 0 : Int)) ∧ (¬ b = 0) ∧ (¬ b = 1) ∧ (¬ b = 2) ∧ (¬ b = 3) ∧ (¬ b = 4))
set_option maxHeartbeats 4000000 in
set_option maxRecDepth 100000 in
theorem c_X4_state (l : Launch) (htr : l.stackTraces = false) (g : q_G) (s0 : Nat) (n : Nat → Nat) (ad : Nat → Nat → Nat) (C : q_S) (c0 : Nat) (hC : c_S C n) (hR : c_R C n c0) (hc0 : c0 ≤ 511) (a b : Int) (ha : R32 a) (hb : R32 b)  : vx_Met l yX4_state wsX4_state ({ frames := 7, cells := 2, slots := 12, locals := 112 }) (va_Pc [.ref (ad 4 0), .int (iI a), .int (iI b)] (q_B g s0 (n, ad, C))) (va_Qi (tX4_state n ad C a b) (q_B g s0) (q_A s0)) (q_XC g s0 (n, ad, C) (xX4_state n C a b)) 2 12 (q_A s0) := by
  refine vx_ofW (cc := cX4_state) (maxL := 4) (ret := (some .int)) (by decide) rfl ?_
  intro p e s m args below meth c s₁ B hml hnx hv
  obtain ⟨rfl, hv⟩ := hv
  have hr := B.returns
  have hlocks := B.notSynchronized
  obtain ⟨X, hP⟩ := q_start B.exec B.bytes hml (show s.vm.findClass RX4 = some m.cls from findClass_of_methodNamed B.named) (atoms_spec (ws := wsX4_state) B.pre) hv
  have hP : q_P g s0 n ad C s.heap := hP
  have hS : va_S (q_A s0) s.heap s.heap [] := va_S.rf
  have in0 : ∀ w ∈ wsX00, w ∈ wsX4_state := by decide +kernel
  have in1 : ∀ w ∈ wsX10, w ∈ wsX4_state := by decide +kernel
  have in4 : ∀ w ∈ wsX40, w ∈ wsX4_state := by decide +kernel
  have hl := lv_entry ([.ref (ad 4 0), .int (iI a), .int (iI b)]) (n := 4) (Nat.le_of_ble_eq_true rfl)
  rw [lg_entry_eq]
  generalize (lg_sl ([.ref (ad 4 0), .int (iI a), .int (iI b)]) ++ List.replicate (4 - (lg_sl ([.ref (ad 4 0), .int (iI a), .int (iI b)])).length) Slot.unset).toArray = ls at hl ⊢
  have hl : lv_has ls 4 [(0, .ref (ad 4 0)), (1, .int (iI a)), (2, .int (iI b))] := hl
  refine lv_aload_n X.1 X.2.1 dX4_state_0 rfl (lv_at hl 0 rfl) ?_
  refine lv_iload_n X.1 X.2.1 dX4_state_1 rfl (lv_at hl 1 rfl) ?_
  refine vx_callq (vx_runV (As := [.int (iI a)]) (rest := []) X.fix (c_X4_findJob l htr g s0 n ad C c0 hC hR a ha) (cwV 1 X.2.2.2.2.1 gX4_state_X4_findJob rfl rfl rfl (by decide +kernel) ⟨Nat.le_of_ble_eq_true rfl, Nat.le_of_ble_eq_true rfl⟩) (q_preV X hP hS [.int (iI a)] (kd := 4) (by decide) rfl (c_v4 hC)) rfl rfl hl.1 rfl (lv_room (Nat.le_of_ble_eq_true rfl)) dX4_state_2 ⟨Nat.le_of_ble_eq_true rfl, Nat.le_of_ble_eq_true rfl⟩) hS q_id q_id1 q_id ?_ (fun r u t H locs ht hvm hw hB hz1 hk1 hS => ?_)
  · intro E ce q9 u t H locs ht hvm hpx hBX hz1 hk1 hS hce hcv hcl
    exact q_xout X hnx hlocks hBX ht hS hce hcv hcl (fun hxe => Or.inl (hxe)) (Nat.le_of_ble_eq_true rfl) (Nat.le_of_ble_eq_true rfl)
  · obtain ⟨rfl, h_1, rfl⟩ := hw
    have hP : q_P g s0 n ad (C) H := q_back hB ht
    rw [show va_rf (some (ad 0 ((a - 1).toNat))) = .ref (ad 0 ((a - 1).toNat)) from rfl]
    refine lv_astore_n (lv' := [(3, .ref (ad 0 ((a - 1).toNat))), (0, .ref (ad 4 0)), (1, .int (iI a)), (2, .int (iI b))]) X.1 X.2.1 dX4_state_5 rfl hl (by decide) rfl (fun ls hl => ?_)
    refine lv_iload_n X.1 X.2.1 dX4_state_6 rfl (lv_at hl 3 rfl) ?_
    by_cases h_2 : b = 0
    · refine q_tsi (tgt := 40) X hb dX4_state_7 (by omega) (by omega) (by rw [h_2]; rfl) (by decide) ?_
      refine lv_aload_n X.1 X.2.1 dX4_state_40 rfl (lv_at hl 0 rfl) ?_
      refine va_calli (va_runV (As := []) (rest := []) X.fix (c_X0_condition l g s0 n ad C c0 hR ((a - 1).toNat) (show (a - 1).toNat < n 0 by omega)) (cwV 0 X.2.2.2.2.1 gX4_state_X0_condition rfl rfl rfl (by decide +kernel) ⟨Nat.le_of_ble_eq_true rfl, Nat.le_of_ble_eq_true rfl⟩) (q_preV X hP hS [] (kd := 0) (by decide) rfl (show (a - 1).toNat < n 0 by omega)) rfl rfl hl.1 rfl (lv_room (Nat.le_of_ble_eq_true rfl)) dX4_state_41 ⟨Nat.le_of_ble_eq_true rfl, Nat.le_of_ble_eq_true rfl⟩) hS q_id q_id1 (fun r u t H locs ht hvm hw hB hz1 hk1 hS => ?_)
      obtain ⟨rfl, rfl⟩ := hw
      have hP : q_P g s0 n ad (C) H := q_back hB ht
      refine vx_ret ?_
      exact q_iret X hr hlocks hP hS (Or.inl (⟨h_1, h_2, rfl, rfl⟩)) (Nat.le_of_ble_eq_true rfl) (Nat.le_of_ble_eq_true rfl) dX4_state_44
    · by_cases h_3 : b = 1
      · refine q_tsi (tgt := 45) X hb dX4_state_7 (by omega) (by omega) (by rw [h_3]; rfl) (by decide) ?_
        refine lv_aload_n X.1 X.2.1 dX4_state_45 rfl (lv_at hl 0 rfl) ?_
        refine va_calli (va_runV (As := []) (rest := []) X.fix (c_X0_pagesThatCount l g s0 n ad C c0 hR ((a - 1).toNat) (show (a - 1).toNat < n 0 by omega)) (cwV 0 X.2.2.2.2.1 gX4_state_X0_pagesThatCount rfl rfl rfl (by decide +kernel) ⟨Nat.le_of_ble_eq_true rfl, Nat.le_of_ble_eq_true rfl⟩) (q_preV X hP hS [] (kd := 0) (by decide) rfl (show (a - 1).toNat < n 0 by omega)) rfl rfl hl.1 rfl (lv_room (Nat.le_of_ble_eq_true rfl)) dX4_state_46 ⟨Nat.le_of_ble_eq_true rfl, Nat.le_of_ble_eq_true rfl⟩) hS q_id q_id1 (fun r u t H locs ht hvm hw hB hz1 hk1 hS => ?_)
        obtain ⟨rfl, rfl⟩ := hw
        have hP : q_P g s0 n ad (C) H := q_back hB ht
        refine vx_ret ?_
        exact q_iret X hr hlocks hP hS (Or.inr (Or.inl (⟨h_1, h_2, h_3, rfl, rfl⟩))) (Nat.le_of_ble_eq_true rfl) (Nat.le_of_ble_eq_true rfl) dX4_state_49
      · by_cases h_4 : b = 2
        · refine q_tsi (tgt := 50) X hb dX4_state_7 (by omega) (by omega) (by rw [h_4]; rfl) (by decide) ?_
          refine lv_aload_n X.1 X.2.1 dX4_state_50 rfl (lv_at hl 0 rfl) ?_
          refine va_calli (va_runV (As := []) (rest := []) X.fix (c_X0_wholeCopies l g s0 n ad C c0 hR ((a - 1).toNat) (show (a - 1).toNat < n 0 by omega)) (cwV 0 X.2.2.2.2.1 gX4_state_X0_wholeCopies rfl rfl rfl (by decide +kernel) ⟨Nat.le_of_ble_eq_true rfl, Nat.le_of_ble_eq_true rfl⟩) (q_preV X hP hS [] (kd := 0) (by decide) rfl (show (a - 1).toNat < n 0 by omega)) rfl rfl hl.1 rfl (lv_room (Nat.le_of_ble_eq_true rfl)) dX4_state_51 ⟨Nat.le_of_ble_eq_true rfl, Nat.le_of_ble_eq_true rfl⟩) hS q_id q_id1 (fun r u t H locs ht hvm hw hB hz1 hk1 hS => ?_)
          obtain ⟨rfl, rfl⟩ := hw
          have hP : q_P g s0 n ad (C) H := q_back hB ht
          refine vx_ret ?_
          exact q_iret X hr hlocks hP hS (Or.inr (Or.inr (Or.inl (⟨h_1, h_2, h_3, h_4, rfl, rfl⟩)))) (Nat.le_of_ble_eq_true rfl) (Nat.le_of_ble_eq_true rfl) dX4_state_54
        · by_cases h_5 : b = 3
          · refine q_tsi (tgt := 55) X hb dX4_state_7 (by omega) (by omega) (by rw [h_5]; rfl) (by decide) ?_
            refine lv_aload_n X.1 X.2.1 dX4_state_55 rfl (lv_at hl 0 rfl) ?_
            refine va_calli (va_runV (As := []) (rest := []) X.fix (c_X0_partsHad l g s0 n ad C c0 hR ((a - 1).toNat) (show (a - 1).toNat < n 0 by omega)) (cwV 0 X.2.2.2.2.1 gX4_state_X0_partsHad rfl rfl rfl (by decide +kernel) ⟨Nat.le_of_ble_eq_true rfl, Nat.le_of_ble_eq_true rfl⟩) (q_preV X hP hS [] (kd := 0) (by decide) rfl (show (a - 1).toNat < n 0 by omega)) rfl rfl hl.1 rfl (lv_room (Nat.le_of_ble_eq_true rfl)) dX4_state_56 ⟨Nat.le_of_ble_eq_true rfl, Nat.le_of_ble_eq_true rfl⟩) hS q_id q_id1 (fun r u t H locs ht hvm hw hB hz1 hk1 hS => ?_)
            obtain ⟨rfl, rfl⟩ := hw
            have hP : q_P g s0 n ad (C) H := q_back hB ht
            refine vx_ret ?_
            exact q_iret X hr hlocks hP hS (Or.inr (Or.inr (Or.inr (Or.inl (⟨h_1, h_2, h_3, h_4, h_5, rfl, rfl⟩))))) (Nat.le_of_ble_eq_true rfl) (Nat.le_of_ble_eq_true rfl) dX4_state_59
          · by_cases h_6 : b = 4
            · refine q_tsi (tgt := 60) X hb dX4_state_7 (by omega) (by omega) (by rw [h_6]; rfl) (by decide) ?_
              refine lv_aload_n X.1 X.2.1 dX4_state_60 rfl (lv_at hl 0 rfl) ?_
              refine q_get (index := 133) (v := .int (iI (C 0 5 ((a - 1).toNat)))) X hP 0 5 ((a - 1).toNat) rfl rfl (by decide) in0 (show (a - 1).toNat < n 0 by omega) (by decide) (by decide +kernel) rfl dX4_state_61 ?_
              refine va_calli (va_runS (As := [.int (iI (C 0 5 ((a - 1).toNat)))]) (rest := []) X.fix (c_X4_asNumber l g s0 n ad C (C 0 5 ((a - 1).toNat)) (hP.tok 0 5 _ rfl)) (va_cwS 1 X.2.2.2.2.1 gX4_state_X4_asNumber rfl rfl rfl (by decide +kernel) ⟨Nat.le_of_ble_eq_true rfl, Nat.le_of_ble_eq_true rfl⟩) (q_preS X hP hS _) rfl rfl hl.1 rfl (lv_room (Nat.le_of_ble_eq_true rfl)) dX4_state_64 ⟨Nat.le_of_ble_eq_true rfl, Nat.le_of_ble_eq_true rfl⟩) hS q_id q_id1 (fun r u t H locs ht hvm hw hB hz1 hk1 hS => ?_)
              obtain ⟨rfl, rfl⟩ := hw
              have hP : q_P g s0 n ad (C) H := q_back hB ht
              refine vx_ret ?_
              exact q_iret X hr hlocks hP hS (Or.inr (Or.inr (Or.inr (Or.inr (⟨h_1, h_2, h_3, h_4, h_5, h_6, rfl, rfl⟩))))) (Nat.le_of_ble_eq_true rfl) (Nat.le_of_ble_eq_true rfl) dX4_state_67
            · refine q_tso (tgt := 68) X hb dX4_state_7 (by omega) (by decide) ?_
              exact q_throw X htr hnx hlocks (cls := "java/lang/IndexOutOfBoundsException") (ik := 163) (ic := 165) (by decide) (by decide +kernel) (by decide +kernel) (by decide +kernel) xb_165 xg_163_165 hP hS hl.1 dX4_state_68 dX4_state_71 dX4_state_72 dX4_state_75 (Nat.le_of_ble_eq_true rfl) (Nat.le_of_ble_eq_true rfl) (Nat.le_of_ble_eq_true rfl) (Nat.le_of_ble_eq_true rfl) (Or.inr (⟨rfl, h_1, h_2, h_3, h_4, h_5, h_6⟩)) (Nat.le_of_ble_eq_true rfl) (Nat.le_of_ble_eq_true rfl)
end
section
/-- the slots that c_S and c_R speak of -/
def c_rel : Nat → Nat → Bool
  | 0, s => s == 0 || s == 1 || s == 2 || s == 7
  | 1, s => s == 0 || s == 2 || s == 4 || s == 5 || s == 6
  | 2, s => s == 0 || s == 3
  | 3, s => decide (2 ≤ s ∧ s ≤ 5)
  | 4, s => !(s == 9) && !(s == 10)
  | 6, _ => true
  | 7, _ => true
  | 8, _ => true
  | _, _ => false
theorem c_R_cg {C D : q_S} {n : Nat → Nat} {c : Nat} (h : c_R C n c) (he : ∀ kd s i, c_rel kd s = true → D kd s i = C kd s i) (h10 : 0 ≤ D 4 10 0) : c_R D n c := by
  refine ⟨?_, ?_, ?_, c_Rk h, ?_, fun j => ?_, fun j => ?_, fun j => ?_, fun i hi => ?_, fun i hi => ?_, fun j hj => ?_, fun i j hi e => ?_, fun i => ?_, fun i => ?_, fun i => ?_, fun i => ?_, fun i => ?_, fun s i h1 h2 => ?_, fun i hi => ?_, fun i hi => ?_, h10⟩
  · rw [he 4 3 0 rfl]; exact c_Rp h
  · rw [he 4 4 0 rfl]; exact c_Rt h
  · rw [he 4 5 0 rfl]; exact c_Rj h
  · rw [he 4 8 0 rfl]; exact c_Rd h
  · rw [he 6 j 0 rfl]; exact c_R6 h j
  · rw [he 7 j 0 rfl]; exact c_R7 h j
  · rw [he 8 j 0 rfl]; exact c_R8 h j
  · rw [he 1 0 i rfl]; exact c_R10 h i hi
  · rw [he 0 1 i rfl]; exact c_R01 h i hi
  · rw [he 0 7 j rfl, c_find_eq (fun k => he 1 0 k rfl)]; exact c_R07 h j hj
  · rw [he 1 6 i rfl, c_find_eq (fun k => he 1 0 k rfl)]; exact c_R16 h i j hi (by rw [← he 1 0 i rfl]; exact e)
  · rw [he 0 2 i rfl]; exact c_R02 h i
  · rw [he 1 2 i rfl]; exact c_R12 h i
  · rw [he 1 4 i rfl]; exact c_R14 h i
  · rw [he 1 5 i rfl]; exact c_R15 h i
  · rw [he 2 3 i rfl]; exact c_R23 h i
  · rw [he 3 s i (by simp [c_rel, h1, h2])]; exact c_R3 h s i h1 h2
  · rw [he 0 0 i rfl]; exact c_R00 h i hi
  · rw [he 2 0 i rfl]; exact c_R20 h i hi
theorem c_S_cg {C D : q_S} {n : Nat → Nat} (h : c_S C n) (he : ∀ kd s i, c_rel kd s = true → D kd s i = C kd s i) : c_S D n := by
  refine ⟨h.1, fun z hz => ⟨?_, (h.2 z hz).2⟩⟩
  rw [he 4 z.1 0, (h.2 z hz).1]
  unfold c_sl at hz
  simp only [List.mem_cons, List.not_mem_nil, or_false] at hz
  rcases hz with rfl | rfl | rfl | rfl | rfl <;> rfl
theorem q_up_rel (C : q_S) {kd s i : Nat} {x : Int} (h : c_rel kd s = false) : ∀ kd' s' i', c_rel kd' s' = true → q_up C kd s i x kd' s' i' = C kd' s' i' := by
  intro a b d hq
  unfold q_up
  rw [if_neg]
  rintro ⟨rfl, rfl, -⟩
  rw [h] at hq
  exact absurd hq (by decide)
theorem c_R.up {C : q_S} {n : Nat → Nat} {c kd s i : Nat} {x : Int} (h : c_R C n c) (hk : c_rel kd s = false) (hn : ¬ (kd = 4 ∧ s = 10)) : c_R (q_up C kd s i x) n c := by
  refine c_R_cg h (q_up_rel C hk) ?_
  unfold q_up
  rw [if_neg (fun q => hn ⟨q.1.symm, q.2.1.symm⟩)]
  exact c_Rn h
theorem c_R.now {C : q_S} {n : Nat → Nat} {c : Nat} {x : Int} (h : c_R C n c) (hx : 0 ≤ x) : c_R (q_up C 4 10 0 x) n c := c_R_cg h (q_up_rel C rfl) hx
theorem c_S.up {C : q_S} {n : Nat → Nat} {kd s i : Nat} {x : Int} (h : c_S C n) (hk : c_rel kd s = false) : c_S (q_up C kd s i x) n := c_S_cg h (q_up_rel C hk)
/-- how many of the first k doubled pages are of a job -/
def c_dn (C : q_S) (a : Int) : Nat → Int
  | 0 => 0
  | k + 1 => if C 9 k 0 = a then c_dn C a k + 1 else c_dn C a k
theorem c_dn_b (C : q_S) (a : Int) (k : Nat) : 0 ≤ c_dn C a k ∧ c_dn C a k ≤ k := by
  induction k with
  | zero => rw [c_dn]; omega
  | succ k ih => rw [c_dn]; split <;> omega
/-- the printers' parts, where the first k printers have lost those of a job -/
def c_ep (C : q_S) (j k : Nat) : q_S := fun kd s i => if kd = 2 ∧ s = 4 ∧ i < k ∧ ¬ C 2 4 i = 0 ∧ C 1 0 (C 2 4 i - 1).toNat = (j : Int) + 1 then 0 else C kd s i
theorem c_ep_0 (C : q_S) (j : Nat) : c_ep C j 0 = C := by
  funext a b d
  unfold c_ep
  rw [if_neg]
  rintro ⟨-, -, h, -⟩
  omega
theorem c_ep_k (C : q_S) (j k : Nat) : c_ep C j k 2 4 k = C 2 4 k := by
  unfold c_ep
  rw [if_neg]
  rintro ⟨-, -, h, -⟩
  omega
theorem c_ep_y {C : q_S} {j k : Nat} (h1 : ¬ C 2 4 k = 0) (h2 : C 1 0 (C 2 4 k - 1).toNat = (j : Int) + 1) : q_up (c_ep C j k) 2 4 k 0 = c_ep C j (k + 1) := by
  funext a b d
  unfold q_up c_ep
  by_cases h : a = 2 ∧ b = 4 ∧ d = k
  · rw [if_pos h]
    obtain ⟨rfl, rfl, rfl⟩ := h
    rw [if_pos ⟨rfl, rfl, by omega, h1, h2⟩]
  · rw [if_neg h]
    by_cases q : a = 2 ∧ b = 4 ∧ d < k ∧ ¬ C 2 4 d = 0 ∧ C 1 0 (C 2 4 d - 1).toNat = (j : Int) + 1
    · rw [if_pos q, if_pos ⟨q.1, q.2.1, by omega, q.2.2.2⟩]
    · rw [if_neg q, if_neg]
      rintro ⟨q1, q2, q3, q4⟩
      exact q ⟨q1, q2, by have : ¬ d = k := fun e => h ⟨q1, q2, e⟩; omega, q4⟩
theorem c_ep_n {C : q_S} {j k : Nat} (h : C 2 4 k = 0 ∨ ¬ C 1 0 (C 2 4 k - 1).toNat = (j : Int) + 1) : c_ep C j k = c_ep C j (k + 1) := by
  funext a b d
  unfold c_ep
  by_cases q : a = 2 ∧ b = 4 ∧ d < k ∧ ¬ C 2 4 d = 0 ∧ C 1 0 (C 2 4 d - 1).toNat = (j : Int) + 1
  · rw [if_pos q, if_pos ⟨q.1, q.2.1, by omega, q.2.2.2⟩]
  · rw [if_neg q, if_neg]
    rintro ⟨q1, q2, q3, q4, q5⟩
    by_cases e : d = k
    · subst e
      rcases h with h | h
      · exact q4 h
      · exact h q5
    · exact q ⟨q1, q2, by omega, q4, q5⟩
theorem c_ep_rel (C : q_S) (j k : Nat) : ∀ kd s i, c_rel kd s = true → c_ep C j k kd s i = C kd s i := by
  intro a b d h
  unfold c_ep
  rw [if_neg]
  rintro ⟨rfl, rfl, -⟩
  exact absurd h (by decide)
theorem q_rf_inj {g : q_G} {s0 : Nat} {n : Nat → Nat} {ad : Nat → Nat → Nat} {C : q_S} {H : Heap} (hP : q_P g s0 n ad C H) {kd i j : Nat} (hi : i < n kd) (hj : j < n kd) (h : some (ad kd i) = some (ad kd j)) : i = j := (hP.2.1 kd i kd j hi hj (Option.some.inj h)).2
def tX4_take (n : Nat → Nat) (ad : Nat → Nat → Nat) (C : q_S) (a y : Int) (r : Int32) (u : q_U) : Prop :=
  ((1 ≤ a ∧ a ≤ (n 2 : Int)) ∧ ((C 4 10 0) ≤ y) ∧ ((C 2 4 ((a - 1).toNat)) = 0) ∧ ((c_ch (q_up C 4 10 0 y) n ((a - 1).toNat) 60) = 0) ∧ u = (n, ad, q_up C 4 10 0 y) ∧ r = iI (0)) ∨
  ((1 ≤ a ∧ a ≤ (n 2 : Int)) ∧ ((C 4 10 0) ≤ y) ∧ ((C 2 4 ((a - 1).toNat)) = 0) ∧ (¬ (c_ch (q_up C 4 10 0 y) n ((a - 1).toNat) 60) = 0) ∧ ((C 3 0 ((C 0 1 ((C 1 0 (((c_ch (q_up C 4 10 0 y) n ((a - 1).toNat) 60) - 1).toNat) - 1).toNat) - 1).toNat)) = (C 2 2 ((a - 1).toNat))) ∧ u = (n, ad, q_up (q_up (q_up (q_up (q_up C 4 10 0 y) 2 3 (((a - 1).toNat)) (((C 2 3 ((a - 1).toNat)) + (1)))) 1 3 ((((c_ch (q_up C 4 10 0 y) n ((a - 1).toNat) 60) - 1).toNat)) ((1))) 2 4 (((a - 1).toNat)) ((((((c_ch (q_up C 4 10 0 y) n ((a - 1).toNat) 60) - 1).toNat) : Nat) : Int) + 1)) 2 5 (((a - 1).toNat)) ((1))) ∧ r = iI (C 0 0 ((C 1 0 (((c_ch (q_up C 4 10 0 y) n ((a - 1).toNat) 60) - 1).toNat) - 1).toNat))) ∨
  ((1 ≤ a ∧ a ≤ (n 2 : Int)) ∧ ((C 4 10 0) ≤ y) ∧ ((C 2 4 ((a - 1).toNat)) = 0) ∧ (¬ (c_ch (q_up C 4 10 0 y) n ((a - 1).toNat) 60) = 0) ∧ (¬ (C 3 0 ((C 0 1 ((C 1 0 (((c_ch (q_up C 4 10 0 y) n ((a - 1).toNat) 60) - 1).toNat) - 1).toNat) - 1).toNat)) = (C 2 2 ((a - 1).toNat))) ∧ u = (n, ad, q_up (q_up (q_up (q_up (q_up (q_up (q_up C 4 10 0 y) 2 2 (((a - 1).toNat)) ((C 3 0 ((C 0 1 ((C 1 0 (((c_ch (q_up C 4 10 0 y) n ((a - 1).toNat) 60) - 1).toNat) - 1).toNat) - 1).toNat)))) 2 3 (((a - 1).toNat)) ((0))) 3 4 ((C 0 1 ((C 1 0 (((c_ch (q_up C 4 10 0 y) n ((a - 1).toNat) 60) - 1).toNat) - 1).toNat) - 1).toNat) (((C 3 4 ((C 0 1 ((C 1 0 (((c_ch (q_up C 4 10 0 y) n ((a - 1).toNat) 60) - 1).toNat) - 1).toNat) - 1).toNat)) + (1)))) 1 3 ((((c_ch (q_up C 4 10 0 y) n ((a - 1).toNat) 60) - 1).toNat)) ((1))) 2 4 (((a - 1).toNat)) ((((((c_ch (q_up C 4 10 0 y) n ((a - 1).toNat) 60) - 1).toNat) : Nat) : Int) + 1)) 2 5 (((a - 1).toNat)) ((1))) ∧ r = iI (C 0 0 ((C 1 0 (((c_ch (q_up C 4 10 0 y) n ((a - 1).toNat) 60) - 1).toNat) - 1).toNat)))
def xX4_take (n : Nat → Nat) (C : q_S) (a y : Int) (E : String) : Prop :=
  (x_find (n 2) a E) ∨
  (E = "java/lang/IllegalStateException" ∧ (1 ≤ a ∧ a ≤ (n 2 : Int)) ∧ ((C 4 10 0) ≤ y) ∧ (¬ (C 2 4 ((a - 1).toNat)) = 0)) ∨
  (E = "java/lang/IllegalArgumentException" ∧ (1 ≤ a ∧ a ≤ (n 2 : Int)) ∧ (y < (C 4 10 0)))
set_option maxHeartbeats 4000000 in
set_option maxRecDepth 100000 in
theorem c_X4_take (l : Launch) (htr : l.stackTraces = false) (g : q_G) (s0 : Nat) (n : Nat → Nat) (ad : Nat → Nat → Nat) (C : q_S) (c0 : Nat) (hC : c_S C n) (hR : c_R C n c0) (hc0 : c0 ≤ 511) (a y : Int) (ha : R32 a) (hy : R64 y)  : vx_Met l yX4_take wsX4_take ({ frames := 7, cells := 2, slots := 12, locals := 112 }) (va_Pc [.ref (ad 4 0), .int (iI a), .long (jI y)] (q_B g s0 (n, ad, C))) (va_Qi (tX4_take n ad C a y) (q_B g s0) (q_A s0)) (q_XC g s0 (n, ad, C) (xX4_take n C a y)) 2 12 (q_A s0) := by
  refine vx_ofW (cc := cX4_take) (maxL := 6) (ret := (some .int)) (by decide) rfl ?_
  intro p e s m args below meth c s₁ B hml hnx hv
  obtain ⟨rfl, hv⟩ := hv
  have hr := B.returns
  have hlocks := B.notSynchronized
  obtain ⟨X, hP⟩ := q_start B.exec B.bytes hml (show s.vm.findClass RX4 = some m.cls from findClass_of_methodNamed B.named) (atoms_spec (ws := wsX4_take) B.pre) hv
  have hP : q_P g s0 n ad C s.heap := hP
  have hS : va_S (q_A s0) s.heap s.heap [] := va_S.rf
  have in0 : ∀ w ∈ wsX00, w ∈ wsX4_take := by decide +kernel
  have in1 : ∀ w ∈ wsX10, w ∈ wsX4_take := by decide +kernel
  have in2 : ∀ w ∈ wsX20, w ∈ wsX4_take := by decide +kernel
  have in3 : ∀ w ∈ wsX30, w ∈ wsX4_take := by decide +kernel
  have in4 : ∀ w ∈ wsX40, w ∈ wsX4_take := by decide +kernel
  have f9 := c_Rn hR
  have hl := lv_entry ([.ref (ad 4 0), .int (iI a), .long (jI y)]) (n := 6) (Nat.le_of_ble_eq_true rfl)
  rw [lg_entry_eq]
  generalize (lg_sl ([.ref (ad 4 0), .int (iI a), .long (jI y)]) ++ List.replicate (6 - (lg_sl ([.ref (ad 4 0), .int (iI a), .long (jI y)])).length) Slot.unset).toArray = ls at hl ⊢
  have hl : lv_has ls 6 [(0, .ref (ad 4 0)), (1, .int (iI a)), (2, .long (jI y))] := hl
  refine lv_aload_n X.1 X.2.1 dX4_take_0 rfl (lv_at hl 0 rfl) ?_
  refine lv_iload_n X.1 X.2.1 dX4_take_1 rfl (lv_at hl 1 rfl) ?_
  refine vx_callq (vx_runV (As := [.int (iI a)]) (rest := []) X.fix (c_X4_findPrinter l htr g s0 n ad C c0 hC hR a ha) (cwV 1 X.2.2.2.2.1 gX4_take_X4_findPrinter rfl rfl rfl (by decide +kernel) ⟨Nat.le_of_ble_eq_true rfl, Nat.le_of_ble_eq_true rfl⟩) (q_preV X hP hS [.int (iI a)] (kd := 4) (by decide) rfl (c_v4 hC)) rfl rfl hl.1 rfl (lv_room (Nat.le_of_ble_eq_true rfl)) dX4_take_2 ⟨Nat.le_of_ble_eq_true rfl, Nat.le_of_ble_eq_true rfl⟩) hS q_id q_id1 q_id ?_ (fun r u t H locs ht hvm hw hB hz1 hk1 hS => ?_)
  · intro E ce q9 u t H locs ht hvm hpx hBX hz1 hk1 hS hce hcv hcl
    exact q_xout X hnx hlocks hBX ht hS hce hcv hcl (fun hxe => Or.inl (hxe)) (Nat.le_of_ble_eq_true rfl) (Nat.le_of_ble_eq_true rfl)
  · obtain ⟨rfl, h_1, rfl⟩ := hw
    have hP : q_P g s0 n ad (C) H := q_back hB ht
    rw [show va_rf (some (ad 2 ((a - 1).toNat))) = .ref (ad 2 ((a - 1).toNat)) from rfl]
    refine lv_astore (lv' := [(4, .ref (ad 2 ((a - 1).toNat))), (0, .ref (ad 4 0)), (1, .int (iI a)), (2, .long (jI y))]) X.1 X.2.1 dX4_take_5 hl (by decide) rfl (fun ls hl => ?_)
    refine lv_lload_n X.1 X.2.1 dX4_take_7 rfl (lv_at hl 3 rfl) ?_
    refine lv_aload_n X.1 X.2.1 dX4_take_8 rfl (lv_at hl 1 rfl) ?_
    refine q_get (index := 83) (v := .long (jI (C 4 10 0))) X hP 4 10 0 rfl rfl (by decide) in4 (c_v4 hC) (by decide) (by decide +kernel) rfl dX4_take_9 ?_
    have f_2 := c_Rn hR
    refine q_lcmp_ge (tgt := 24) X hy (hP.tok 4 10 0 rfl) dX4_take_12 dX4_take_13 (by decide) (fun h_3 => ?_) (fun h_3 => ?_)
    · refine lv_aload X.1 X.2.1 dX4_take_24 (lv_at hl 0 rfl) ?_
      refine q_get (index := 87) (v := va_rf (q_rf ad 1 (C 2 4 ((a - 1).toNat)))) X hP 2 4 ((a - 1).toNat) rfl rfl (by decide) in2 (show (a - 1).toNat < n 2 by omega) (by decide) (by decide +kernel) rfl dX4_take_26 ?_
      by_cases h_4 : (C 2 4 ((a - 1).toNat)) = 0
      · rw [q_rf0 ad 1 h_4]
        refine lv_ifnullN (tgt := 40) X.1 X.2.1 dX4_take_29 (by decide) ?_
        refine lv_aload_n X.1 X.2.1 dX4_take_40 rfl (lv_at hl 1 rfl) ?_
        refine lv_lload_n X.1 X.2.1 dX4_take_41 rfl (lv_at hl 3 rfl) ?_
        refine q_put (index := 83) (v := .long (jI y)) X hP hS 4 10 0 y rfl rfl (by decide) in4 tyX4 tyX4_ok nmX4 (c_v4 hC) (by decide) (by decide +kernel) rfl rfl rfl rfl (show R64 _ from hy) dX4_take_42 (fun H locs hP hS => ?_)
        have hP : q_P g s0 n ad (q_up C 4 10 0 y) H := hP
        refine lv_aload_n X.1 X.2.1 dX4_take_45 rfl (lv_at hl 1 rfl) ?_
        refine lv_aload X.1 X.2.1 dX4_take_46 (lv_at hl 0 rfl) ?_
        refine va_callq (va_runV (As := [.ref (ad 2 ((a - 1).toNat))]) (rest := []) X.fix (c_X4_choosePart l g s0 n ad (q_up C 4 10 0 y) c0 (hC.up rfl) (hR.now (by omega)) ((a - 1).toNat) (show (a - 1).toNat < n 2 by omega)) (cwV 1 X.2.2.2.2.1 gX4_take_X4_choosePart rfl rfl rfl (by decide +kernel) ⟨Nat.le_of_ble_eq_true rfl, Nat.le_of_ble_eq_true rfl⟩) (q_preV X hP hS [.ref (ad 2 ((a - 1).toNat))] (kd := 4) (by decide) rfl (c_v4 hC)) rfl rfl hl.1 rfl (lv_room (Nat.le_of_ble_eq_true rfl)) dX4_take_48 ⟨Nat.le_of_ble_eq_true rfl, Nat.le_of_ble_eq_true rfl⟩) hS q_id q_id1 (fun r u t H locs ht hvm hw hB hz1 hk1 hS => ?_)
        obtain ⟨rfl, rfl⟩ := hw
        have hP : q_P g s0 n ad (q_up C 4 10 0 y) H := q_back hB ht
        by_cases h_5 : (c_ch (q_up C 4 10 0 y) n ((a - 1).toNat) 60) = 0
        · rw [q_rf0 ad 1 h_5]
          refine lv_astoreN (lv' := [(5, .null), (4, .ref (ad 2 ((a - 1).toNat))), (0, .ref (ad 4 0)), (1, .int (iI a)), (2, .long (jI y))]) X.1 X.2.1 dX4_take_51 hl (by decide) rfl (fun ls hl => ?_)
          refine lv_aloadN X.1 X.2.1 dX4_take_53 (lv_at hl 0 rfl) ?_
          refine lv_ifnonnullN X.1 X.2.1 dX4_take_55 ?_
          refine lv_iconst (v := iI (0)) X.1 X.2.1 dX4_take_58 rfl ?_
          refine vx_ret ?_
          exact q_iret X hr hlocks hP hS (Or.inl (⟨h_1, h_3, h_4, h_5, rfl, rfl⟩)) (Nat.le_of_ble_eq_true rfl) (Nat.le_of_ble_eq_true rfl) dX4_take_59
        · rw [q_rf1 ad 1 h_5]
          have vh_5 : ((c_ch (q_up C 4 10 0 y) n ((a - 1).toNat) 60) - 1).toNat < n 1 := by have := c_ch_b (q_up C 4 10 0 y) n ((a - 1).toNat) 60; omega
          refine lv_astore (lv' := [(5, .ref (ad 1 (((c_ch (q_up C 4 10 0 y) n ((a - 1).toNat) 60) - 1).toNat))), (4, .ref (ad 2 ((a - 1).toNat))), (0, .ref (ad 4 0)), (1, .int (iI a)), (2, .long (jI y))]) X.1 X.2.1 dX4_take_51 hl (by decide) rfl (fun ls hl => ?_)
          refine lv_aload X.1 X.2.1 dX4_take_53 (lv_at hl 0 rfl) ?_
          refine lv_ifnonnull (tgt := 60) X.1 X.2.1 dX4_take_55 (by decide) ?_
          refine lv_aload X.1 X.2.1 dX4_take_60 (lv_at hl 1 rfl) ?_
          refine lv_aload X.1 X.2.1 dX4_take_62 (lv_at hl 0 rfl) ?_
          refine va_callv (va_runS (As := [.ref (ad 2 ((a - 1).toNat)), .ref (ad 1 (((c_ch (q_up C 4 10 0 y) n ((a - 1).toNat) 60) - 1).toNat))]) (rest := []) X.fix (c_X4_bringTo l g s0 n ad (q_up C 4 10 0 y) c0 (hR.now (by omega)) (by omega) ((a - 1).toNat) (show (a - 1).toNat < n 2 by omega) (((c_ch (q_up C 4 10 0 y) n ((a - 1).toNat) 60) - 1).toNat) vh_5) (va_cwS 2 X.2.2.2.2.1 gX4_take_X4_bringTo rfl rfl rfl (by decide +kernel) ⟨Nat.le_of_ble_eq_true rfl, Nat.le_of_ble_eq_true rfl⟩) (q_preS X hP hS _) rfl rfl hl.1 rfl (lv_room (Nat.le_of_ble_eq_true rfl)) dX4_take_64 ⟨Nat.le_of_ble_eq_true rfl, Nat.le_of_ble_eq_true rfl⟩) hS q_id q_id1 (fun u t H locs ht hvm hw hB hz1 hk1 hS => ?_)
          rcases hw with ⟨h_6_0, rfl⟩ | ⟨h_6_0, rfl⟩
          · have h_6_0 : (C 3 0 ((C 0 1 ((C 1 0 (((c_ch (q_up C 4 10 0 y) n ((a - 1).toNat) 60) - 1).toNat) - 1).toNat) - 1).toNat)) = (C 2 2 ((a - 1).toNat)) := h_6_0
            have hP : q_P g s0 n ad (q_up (q_up (q_up (q_up (q_up C 4 10 0 y) 2 3 (((a - 1).toNat)) (((C 2 3 ((a - 1).toNat)) + (1)))) 1 3 ((((c_ch (q_up C 4 10 0 y) n ((a - 1).toNat) 60) - 1).toNat)) ((1))) 2 4 (((a - 1).toNat)) ((((((c_ch (q_up C 4 10 0 y) n ((a - 1).toNat) 60) - 1).toNat) : Nat) : Int) + 1)) 2 5 (((a - 1).toNat)) ((1))) H := q_back hB ht
            refine lv_aload X.1 X.2.1 dX4_take_67 (lv_at hl 0 rfl) ?_
            refine q_get (index := 101) (v := .ref (ad 0 ((C 1 0 (((c_ch (q_up C 4 10 0 y) n ((a - 1).toNat) 60) - 1).toNat) - 1).toNat))) X hP 1 0 (((c_ch (q_up C 4 10 0 y) n ((a - 1).toNat) 60) - 1).toNat) rfl rfl (by decide) in1 vh_5 (by decide) (by decide +kernel) (q_vnn ad 0 (c_jn hR (((c_ch (q_up C 4 10 0 y) n ((a - 1).toNat) 60) - 1).toNat) vh_5)) dX4_take_69 ?_
            refine q_get (index := 105) (v := .int (iI (C 0 0 ((C 1 0 (((c_ch (q_up C 4 10 0 y) n ((a - 1).toNat) 60) - 1).toNat) - 1).toNat)))) X hP 0 0 ((C 1 0 (((c_ch (q_up C 4 10 0 y) n ((a - 1).toNat) 60) - 1).toNat) - 1).toNat) rfl rfl (by decide) in0 (q_rfl (hP.tok 1 0 (((c_ch (q_up C 4 10 0 y) n ((a - 1).toNat) 60) - 1).toNat) rfl) (c_jn hR (((c_ch (q_up C 4 10 0 y) n ((a - 1).toNat) 60) - 1).toNat) vh_5)) (by decide) (by decide +kernel) rfl dX4_take_72 ?_
            refine vx_ret ?_
            exact q_iret X hr hlocks hP hS (Or.inr (Or.inl (⟨h_1, h_3, h_4, h_5, h_6_0, rfl, rfl⟩))) (Nat.le_of_ble_eq_true rfl) (Nat.le_of_ble_eq_true rfl) dX4_take_75
          · have h_6_0 : ¬ (C 3 0 ((C 0 1 ((C 1 0 (((c_ch (q_up C 4 10 0 y) n ((a - 1).toNat) 60) - 1).toNat) - 1).toNat) - 1).toNat)) = (C 2 2 ((a - 1).toNat)) := h_6_0
            have hP : q_P g s0 n ad (q_up (q_up (q_up (q_up (q_up (q_up (q_up C 4 10 0 y) 2 2 (((a - 1).toNat)) ((C 3 0 ((C 0 1 ((C 1 0 (((c_ch (q_up C 4 10 0 y) n ((a - 1).toNat) 60) - 1).toNat) - 1).toNat) - 1).toNat)))) 2 3 (((a - 1).toNat)) ((0))) 3 4 ((C 0 1 ((C 1 0 (((c_ch (q_up C 4 10 0 y) n ((a - 1).toNat) 60) - 1).toNat) - 1).toNat) - 1).toNat) (((C 3 4 ((C 0 1 ((C 1 0 (((c_ch (q_up C 4 10 0 y) n ((a - 1).toNat) 60) - 1).toNat) - 1).toNat) - 1).toNat)) + (1)))) 1 3 ((((c_ch (q_up C 4 10 0 y) n ((a - 1).toNat) 60) - 1).toNat)) ((1))) 2 4 (((a - 1).toNat)) ((((((c_ch (q_up C 4 10 0 y) n ((a - 1).toNat) 60) - 1).toNat) : Nat) : Int) + 1)) 2 5 (((a - 1).toNat)) ((1))) H := q_back hB ht
            refine lv_aload X.1 X.2.1 dX4_take_67 (lv_at hl 0 rfl) ?_
            refine q_get (index := 101) (v := .ref (ad 0 ((C 1 0 (((c_ch (q_up C 4 10 0 y) n ((a - 1).toNat) 60) - 1).toNat) - 1).toNat))) X hP 1 0 (((c_ch (q_up C 4 10 0 y) n ((a - 1).toNat) 60) - 1).toNat) rfl rfl (by decide) in1 vh_5 (by decide) (by decide +kernel) (q_vnn ad 0 (c_jn hR (((c_ch (q_up C 4 10 0 y) n ((a - 1).toNat) 60) - 1).toNat) vh_5)) dX4_take_69 ?_
            refine q_get (index := 105) (v := .int (iI (C 0 0 ((C 1 0 (((c_ch (q_up C 4 10 0 y) n ((a - 1).toNat) 60) - 1).toNat) - 1).toNat)))) X hP 0 0 ((C 1 0 (((c_ch (q_up C 4 10 0 y) n ((a - 1).toNat) 60) - 1).toNat) - 1).toNat) rfl rfl (by decide) in0 (q_rfl (hP.tok 1 0 (((c_ch (q_up C 4 10 0 y) n ((a - 1).toNat) 60) - 1).toNat) rfl) (c_jn hR (((c_ch (q_up C 4 10 0 y) n ((a - 1).toNat) 60) - 1).toNat) vh_5)) (by decide) (by decide +kernel) rfl dX4_take_72 ?_
            refine vx_ret ?_
            exact q_iret X hr hlocks hP hS (Or.inr (Or.inr (⟨h_1, h_3, h_4, h_5, h_6_0, rfl, rfl⟩))) (Nat.le_of_ble_eq_true rfl) (Nat.le_of_ble_eq_true rfl) dX4_take_75
      · rw [q_rf1 ad 1 h_4]
        have vh_4 : ((C 2 4 ((a - 1).toNat)) - 1).toNat < n 1 := q_rfl (hP.tok 2 4 ((a - 1).toNat) rfl) h_4
        refine lv_ifnull X.1 X.2.1 dX4_take_29 ?_
        exact q_throw X htr hnx hlocks (cls := "java/lang/IllegalStateException") (ik := 90) (ic := 92) (by decide) (by decide +kernel) (by decide +kernel) (by decide +kernel) xb_92 xg_90_92 hP hS hl.1 dX4_take_32 dX4_take_35 dX4_take_36 dX4_take_39 (Nat.le_of_ble_eq_true rfl) (Nat.le_of_ble_eq_true rfl) (Nat.le_of_ble_eq_true rfl) (Nat.le_of_ble_eq_true rfl) (Or.inr (Or.inl (⟨rfl, h_1, h_3, h_4⟩))) (Nat.le_of_ble_eq_true rfl) (Nat.le_of_ble_eq_true rfl)
    · exact q_throw X htr hnx hlocks (cls := "java/lang/IllegalArgumentException") (ik := 42) (ic := 44) (by decide) (by decide +kernel) (by decide +kernel) (by decide +kernel) xb_44 xg_42_44 hP hS hl.1 dX4_take_16 dX4_take_19 dX4_take_20 dX4_take_23 (Nat.le_of_ble_eq_true rfl) (Nat.le_of_ble_eq_true rfl) (Nat.le_of_ble_eq_true rfl) (Nat.le_of_ble_eq_true rfl) (Or.inr (Or.inr (⟨rfl, h_1, h_3⟩))) (Nat.le_of_ble_eq_true rfl) (Nat.le_of_ble_eq_true rfl)
def tX4_fault (n : Nat → Nat) (ad : Nat → Nat → Nat) (C : q_S) (a : Int) (r : Int32) (u : q_U) : Prop :=
  ((1 ≤ a ∧ a ≤ (n 2 : Int)) ∧ ((C 2 4 ((a - 1).toNat)) = 0) ∧ u = (n, ad, C) ∧ r = iI (0)) ∨
  ((1 ≤ a ∧ a ≤ (n 2 : Int)) ∧ (¬ (C 2 4 ((a - 1).toNat)) = 0) ∧ ((C 1 5 (((C 2 4 ((a - 1).toNat)) - 1).toNat)) ≤ (0)) ∧ u = (n, ad, q_up (q_up C 2 4 ((a - 1).toNat) ((0))) 1 3 (((C 2 4 ((a - 1).toNat)) - 1).toNat) ((0))) ∧ r = iI ((C 1 5 (((C 2 4 ((a - 1).toNat)) - 1).toNat)) + (1))) ∨
  ((1 ≤ a ∧ a ≤ (n 2 : Int)) ∧ (¬ (C 2 4 ((a - 1).toNat)) = 0) ∧ ((0) < (C 1 5 (((C 2 4 ((a - 1).toNat)) - 1).toNat))) ∧ ((256) ≤ (C 4 8 0)) ∧ u = (n, ad, q_up (q_up (q_up (q_up C 2 4 ((a - 1).toNat) ((0))) 1 3 (((C 2 4 ((a - 1).toNat)) - 1).toNat) ((0))) 1 5 ((((C 2 4 ((a - 1).toNat)) - 1).toNat)) (((C 1 5 (((C 2 4 ((a - 1).toNat)) - 1).toNat)) - (1)))) 3 5 ((C 0 1 ((C 1 0 (((C 2 4 ((a - 1).toNat)) - 1).toNat) - 1).toNat) - 1).toNat) (((C 3 5 ((C 0 1 ((C 1 0 (((C 2 4 ((a - 1).toNat)) - 1).toNat) - 1).toNat) - 1).toNat)) + (1)))) ∧ r = iI (((q_up (q_up (q_up (q_up C 2 4 ((a - 1).toNat) ((0))) 1 3 (((C 2 4 ((a - 1).toNat)) - 1).toNat) ((0))) 1 5 ((((C 2 4 ((a - 1).toNat)) - 1).toNat)) (((C 1 5 (((C 2 4 ((a - 1).toNat)) - 1).toNat)) - (1)))) 3 5 ((C 0 1 ((C 1 0 (((C 2 4 ((a - 1).toNat)) - 1).toNat) - 1).toNat) - 1).toNat) (((C 3 5 ((C 0 1 ((C 1 0 (((C 2 4 ((a - 1).toNat)) - 1).toNat) - 1).toNat) - 1).toNat)) + (1)))) 1 5 (((C 2 4 ((a - 1).toNat)) - 1).toNat)) + (1))) ∨
  ((1 ≤ a ∧ a ≤ (n 2 : Int)) ∧ (¬ (C 2 4 ((a - 1).toNat)) = 0) ∧ ((0) < (C 1 5 (((C 2 4 ((a - 1).toNat)) - 1).toNat))) ∧ ((C 4 8 0) < (256)) ∧ u = (n, ad, q_up (q_up (q_up (q_up (q_up (q_up (q_up C 2 4 ((a - 1).toNat) ((0))) 1 3 (((C 2 4 ((a - 1).toNat)) - 1).toNat) ((0))) 9 (((C 4 8 0)).toNat) 0 ((C 0 0 ((C 1 0 (((C 2 4 ((a - 1).toNat)) - 1).toNat) - 1).toNat)))) 10 (((C 4 8 0)).toNat) 0 ((((1000) * ((C 1 4 (((C 2 4 ((a - 1).toNat)) - 1).toNat)) + (1))) + (C 1 5 (((C 2 4 ((a - 1).toNat)) - 1).toNat))))) 4 8 0 (((C 4 8 0) + (1)))) 1 5 ((((C 2 4 ((a - 1).toNat)) - 1).toNat)) (((C 1 5 (((C 2 4 ((a - 1).toNat)) - 1).toNat)) - (1)))) 3 5 ((C 0 1 ((C 1 0 (((C 2 4 ((a - 1).toNat)) - 1).toNat) - 1).toNat) - 1).toNat) (((C 3 5 ((C 0 1 ((C 1 0 (((C 2 4 ((a - 1).toNat)) - 1).toNat) - 1).toNat) - 1).toNat)) + (1)))) ∧ r = iI (((q_up (q_up (q_up (q_up (q_up (q_up (q_up C 2 4 ((a - 1).toNat) ((0))) 1 3 (((C 2 4 ((a - 1).toNat)) - 1).toNat) ((0))) 9 (((C 4 8 0)).toNat) 0 ((C 0 0 ((C 1 0 (((C 2 4 ((a - 1).toNat)) - 1).toNat) - 1).toNat)))) 10 (((C 4 8 0)).toNat) 0 ((((1000) * ((C 1 4 (((C 2 4 ((a - 1).toNat)) - 1).toNat)) + (1))) + (C 1 5 (((C 2 4 ((a - 1).toNat)) - 1).toNat))))) 4 8 0 (((C 4 8 0) + (1)))) 1 5 ((((C 2 4 ((a - 1).toNat)) - 1).toNat)) (((C 1 5 (((C 2 4 ((a - 1).toNat)) - 1).toNat)) - (1)))) 3 5 ((C 0 1 ((C 1 0 (((C 2 4 ((a - 1).toNat)) - 1).toNat) - 1).toNat) - 1).toNat) (((C 3 5 ((C 0 1 ((C 1 0 (((C 2 4 ((a - 1).toNat)) - 1).toNat) - 1).toNat) - 1).toNat)) + (1)))) 1 5 (((C 2 4 ((a - 1).toNat)) - 1).toNat)) + (1)))
def xX4_fault (n : Nat → Nat) (C : q_S) (a : Int) (E : String) : Prop :=
  (x_find (n 2) a E)
set_option maxHeartbeats 4000000 in
set_option maxRecDepth 100000 in
theorem c_X4_fault (l : Launch) (htr : l.stackTraces = false) (g : q_G) (s0 : Nat) (n : Nat → Nat) (ad : Nat → Nat → Nat) (C : q_S) (c0 : Nat) (hC : c_S C n) (hR : c_R C n c0) (hc0 : c0 ≤ 511) (a : Int) (ha : R32 a)  : vx_Met l yX4_fault wsX4_fault ({ frames := 7, cells := 1, slots := 6, locals := 112 }) (va_Pc [.ref (ad 4 0), .int (iI a)] (q_B g s0 (n, ad, C))) (va_Qi (tX4_fault n ad C a) (q_B g s0) (q_A s0)) (q_XC g s0 (n, ad, C) (xX4_fault n C a)) 1 6 (q_A s0) := by
  refine vx_ofW (cc := cX4_fault) (maxL := 4) (ret := (some .int)) (by decide) rfl ?_
  intro p e s m args below meth c s₁ B hml hnx hv
  obtain ⟨rfl, hv⟩ := hv
  have hr := B.returns
  have hlocks := B.notSynchronized
  obtain ⟨X, hP⟩ := q_start B.exec B.bytes hml (show s.vm.findClass RX4 = some m.cls from findClass_of_methodNamed B.named) (atoms_spec (ws := wsX4_fault) B.pre) hv
  have hP : q_P g s0 n ad C s.heap := hP
  have hS : va_S (q_A s0) s.heap s.heap [] := va_S.rf
  have in1 : ∀ w ∈ wsX10, w ∈ wsX4_fault := by decide +kernel
  have in2 : ∀ w ∈ wsX20, w ∈ wsX4_fault := by decide +kernel
  have in4 : ∀ w ∈ wsX40, w ∈ wsX4_fault := by decide +kernel
  have hl := lv_entry ([.ref (ad 4 0), .int (iI a)]) (n := 4) (Nat.le_of_ble_eq_true rfl)
  rw [lg_entry_eq]
  generalize (lg_sl ([.ref (ad 4 0), .int (iI a)]) ++ List.replicate (4 - (lg_sl ([.ref (ad 4 0), .int (iI a)])).length) Slot.unset).toArray = ls at hl ⊢
  have hl : lv_has ls 4 [(0, .ref (ad 4 0)), (1, .int (iI a))] := hl
  refine lv_aload_n X.1 X.2.1 dX4_fault_0 rfl (lv_at hl 0 rfl) ?_
  refine lv_iload_n X.1 X.2.1 dX4_fault_1 rfl (lv_at hl 1 rfl) ?_
  refine vx_callq (vx_runV (As := [.int (iI a)]) (rest := []) X.fix (c_X4_findPrinter l htr g s0 n ad C c0 hC hR a ha) (cwV 1 X.2.2.2.2.1 gX4_fault_X4_findPrinter rfl rfl rfl (by decide +kernel) ⟨Nat.le_of_ble_eq_true rfl, Nat.le_of_ble_eq_true rfl⟩) (q_preV X hP hS [.int (iI a)] (kd := 4) (by decide) rfl (c_v4 hC)) rfl rfl hl.1 rfl (lv_room (Nat.le_of_ble_eq_true rfl)) dX4_fault_2 ⟨Nat.le_of_ble_eq_true rfl, Nat.le_of_ble_eq_true rfl⟩) hS q_id q_id1 q_id ?_ (fun r u t H locs ht hvm hw hB hz1 hk1 hS => ?_)
  · intro E ce q9 u t H locs ht hvm hpx hBX hz1 hk1 hS hce hcv hcl
    exact q_xout X hnx hlocks hBX ht hS hce hcv hcl (fun hxe => hxe) (Nat.le_of_ble_eq_true rfl) (Nat.le_of_ble_eq_true rfl)
  · obtain ⟨rfl, h_1, rfl⟩ := hw
    have hP : q_P g s0 n ad (C) H := q_back hB ht
    rw [show va_rf (some (ad 2 ((a - 1).toNat))) = .ref (ad 2 ((a - 1).toNat)) from rfl]
    refine lv_astore_n (lv' := [(2, .ref (ad 2 ((a - 1).toNat))), (0, .ref (ad 4 0)), (1, .int (iI a))]) X.1 X.2.1 dX4_fault_5 rfl hl (by decide) rfl (fun ls hl => ?_)
    refine lv_aload_n X.1 X.2.1 dX4_fault_6 rfl (lv_at hl 0 rfl) ?_
    refine q_get (index := 87) (v := va_rf (q_rf ad 1 (C 2 4 ((a - 1).toNat)))) X hP 2 4 ((a - 1).toNat) rfl rfl (by decide) in2 (show (a - 1).toNat < n 2 by omega) (by decide) (by decide +kernel) rfl dX4_fault_7 ?_
    by_cases h_2 : (C 2 4 ((a - 1).toNat)) = 0
    · rw [q_rf0 ad 1 h_2]
      refine lv_astore_nN (lv' := [(3, .null), (2, .ref (ad 2 ((a - 1).toNat))), (0, .ref (ad 4 0)), (1, .int (iI a))]) X.1 X.2.1 dX4_fault_10 rfl hl (by decide) rfl (fun ls hl => ?_)
      refine lv_aload_nN X.1 X.2.1 dX4_fault_11 rfl (lv_at hl 0 rfl) ?_
      refine lv_ifnonnullN X.1 X.2.1 dX4_fault_12 ?_
      refine lv_iconst (v := iI (0)) X.1 X.2.1 dX4_fault_15 rfl ?_
      refine vx_ret ?_
      exact q_iret X hr hlocks hP hS (Or.inl (⟨h_1, h_2, rfl, rfl⟩)) (Nat.le_of_ble_eq_true rfl) (Nat.le_of_ble_eq_true rfl) dX4_fault_16
    · rw [q_rf1 ad 1 h_2]
      have vh_2 : ((C 2 4 ((a - 1).toNat)) - 1).toNat < n 1 := q_rfl (hP.tok 2 4 ((a - 1).toNat) rfl) h_2
      refine lv_astore_n (lv' := [(3, .ref (ad 1 (((C 2 4 ((a - 1).toNat)) - 1).toNat))), (2, .ref (ad 2 ((a - 1).toNat))), (0, .ref (ad 4 0)), (1, .int (iI a))]) X.1 X.2.1 dX4_fault_10 rfl hl (by decide) rfl (fun ls hl => ?_)
      refine lv_aload_n X.1 X.2.1 dX4_fault_11 rfl (lv_at hl 0 rfl) ?_
      refine lv_ifnonnull (tgt := 17) X.1 X.2.1 dX4_fault_12 (by decide) ?_
      refine lv_aload_n X.1 X.2.1 dX4_fault_17 rfl (lv_at hl 1 rfl) ?_
      refine lv_null X.1 X.2.1 dX4_fault_18 ?_
      refine q_put (index := 87) (v := .null) X hP hS 2 4 ((a - 1).toNat) ((0)) rfl rfl (by decide) in2 tyX2 tyX2_ok nmX2 (show (a - 1).toNat < n 2 by omega) (by decide) (by decide +kernel) rfl rfl rfl rfl (q_t0 _ _) dX4_fault_19 (fun H locs hP hS => ?_)
      have hP : q_P g s0 n ad (q_up C 2 4 ((a - 1).toNat) ((0))) H := hP
      refine lv_aload_n X.1 X.2.1 dX4_fault_22 rfl (lv_at hl 0 rfl) ?_
      refine lv_iconst (v := iI (0)) X.1 X.2.1 dX4_fault_23 rfl ?_
      refine q_put (index := 119) (v := .int (iI (0))) X hP hS 1 3 (((C 2 4 ((a - 1).toNat)) - 1).toNat) ((0)) rfl rfl (by decide) in1 tyX1 tyX1_ok nmX1 vh_2 (by decide) (by decide +kernel) rfl rfl rfl rfl (show R32 _ from (by decide)) dX4_fault_24 (fun H locs hP hS => ?_)
      have hP : q_P g s0 n ad (q_up (q_up C 2 4 ((a - 1).toNat) ((0))) 1 3 (((C 2 4 ((a - 1).toNat)) - 1).toNat) ((0))) H := hP
      refine lv_aload_n X.1 X.2.1 dX4_fault_27 rfl (lv_at hl 0 rfl) ?_
      refine q_get (index := 122) (v := .int (iI (C 1 5 (((C 2 4 ((a - 1).toNat)) - 1).toNat)))) X hP 1 5 (((C 2 4 ((a - 1).toNat)) - 1).toNat) rfl rfl (by decide) in1 vh_2 (by decide) (by decide +kernel) rfl dX4_fault_28 ?_
      have f_3 := c_R15 hR (((C 2 4 ((a - 1).toNat)) - 1).toNat)
      refine q_if_le (tgt := 39) X (hP.tok 1 5 (((C 2 4 ((a - 1).toNat)) - 1).toNat) rfl) dX4_fault_31 (by decide) (fun h_4 => ?_) (fun h_4 => ?_)
      · refine lv_aload_n X.1 X.2.1 dX4_fault_39 rfl (lv_at hl 0 rfl) ?_
        refine q_get (index := 122) (v := .int (iI (C 1 5 (((C 2 4 ((a - 1).toNat)) - 1).toNat)))) X hP 1 5 (((C 2 4 ((a - 1).toNat)) - 1).toNat) rfl rfl (by decide) in1 vh_2 (by decide) (by decide +kernel) rfl dX4_fault_40 ?_
        refine lv_iconst (v := iI (1)) X.1 X.2.1 dX4_fault_43 rfl ?_
        refine q_iadd X dX4_fault_44 ?_
        refine vx_ret ?_
        exact q_iret X hr hlocks hP hS (Or.inr (Or.inl (⟨h_1, h_2, h_4, rfl, rfl⟩))) (Nat.le_of_ble_eq_true rfl) (Nat.le_of_ble_eq_true rfl) dX4_fault_45
      · refine lv_aload_n X.1 X.2.1 dX4_fault_34 rfl (lv_at hl 2 rfl) ?_
        refine lv_aload_n X.1 X.2.1 dX4_fault_35 rfl (lv_at hl 0 rfl) ?_
        refine va_callv (va_runV (As := [.ref (ad 1 (((C 2 4 ((a - 1).toNat)) - 1).toNat))]) (rest := []) X.fix (c_X4_doubleLastPage l g s0 n ad (q_up (q_up C 2 4 ((a - 1).toNat) ((0))) 1 3 (((C 2 4 ((a - 1).toNat)) - 1).toNat) ((0))) c0 ((hC.up rfl).up rfl) ((hR.up rfl (by decide)).up rfl (by decide)) (by omega) (((C 2 4 ((a - 1).toNat)) - 1).toNat) vh_2) (cwV 1 X.2.2.2.2.1 gX4_fault_X4_doubleLastPage rfl rfl rfl (by decide +kernel) ⟨Nat.le_of_ble_eq_true rfl, Nat.le_of_ble_eq_true rfl⟩) (q_preV X hP hS [.ref (ad 1 (((C 2 4 ((a - 1).toNat)) - 1).toNat))] (kd := 4) (by decide) rfl (c_v4 hC)) rfl rfl hl.1 rfl (lv_room (Nat.le_of_ble_eq_true rfl)) dX4_fault_36 ⟨Nat.le_of_ble_eq_true rfl, Nat.le_of_ble_eq_true rfl⟩) hS q_id q_id1 (fun u t H locs ht hvm hw hB hz1 hk1 hS => ?_)
        rcases hw with ⟨h_5_0, rfl⟩ | ⟨h_5_0, rfl⟩
        · have h_5_0 : (256) ≤ (C 4 8 0) := h_5_0
          have hP : q_P g s0 n ad (q_up (q_up (q_up (q_up C 2 4 ((a - 1).toNat) ((0))) 1 3 (((C 2 4 ((a - 1).toNat)) - 1).toNat) ((0))) 1 5 ((((C 2 4 ((a - 1).toNat)) - 1).toNat)) (((C 1 5 (((C 2 4 ((a - 1).toNat)) - 1).toNat)) - (1)))) 3 5 ((C 0 1 ((C 1 0 (((C 2 4 ((a - 1).toNat)) - 1).toNat) - 1).toNat) - 1).toNat) (((C 3 5 ((C 0 1 ((C 1 0 (((C 2 4 ((a - 1).toNat)) - 1).toNat) - 1).toNat) - 1).toNat)) + (1)))) H := q_back hB ht
          refine lv_aload_n X.1 X.2.1 dX4_fault_39 rfl (lv_at hl 0 rfl) ?_
          refine q_get (index := 122) (v := .int (iI ((q_up (q_up (q_up (q_up C 2 4 ((a - 1).toNat) ((0))) 1 3 (((C 2 4 ((a - 1).toNat)) - 1).toNat) ((0))) 1 5 ((((C 2 4 ((a - 1).toNat)) - 1).toNat)) (((C 1 5 (((C 2 4 ((a - 1).toNat)) - 1).toNat)) - (1)))) 3 5 ((C 0 1 ((C 1 0 (((C 2 4 ((a - 1).toNat)) - 1).toNat) - 1).toNat) - 1).toNat) (((C 3 5 ((C 0 1 ((C 1 0 (((C 2 4 ((a - 1).toNat)) - 1).toNat) - 1).toNat) - 1).toNat)) + (1)))) 1 5 (((C 2 4 ((a - 1).toNat)) - 1).toNat)))) X hP 1 5 (((C 2 4 ((a - 1).toNat)) - 1).toNat) rfl rfl (by decide) in1 vh_2 (by decide) (by decide +kernel) rfl dX4_fault_40 ?_
          refine lv_iconst (v := iI (1)) X.1 X.2.1 dX4_fault_43 rfl ?_
          refine q_iadd X dX4_fault_44 ?_
          refine vx_ret ?_
          exact q_iret X hr hlocks hP hS (Or.inr (Or.inr (Or.inl (⟨h_1, h_2, h_4, h_5_0, rfl, rfl⟩)))) (Nat.le_of_ble_eq_true rfl) (Nat.le_of_ble_eq_true rfl) dX4_fault_45
        · have h_5_0 : (C 4 8 0) < (256) := h_5_0
          have hP : q_P g s0 n ad (q_up (q_up (q_up (q_up (q_up (q_up (q_up C 2 4 ((a - 1).toNat) ((0))) 1 3 (((C 2 4 ((a - 1).toNat)) - 1).toNat) ((0))) 9 (((C 4 8 0)).toNat) 0 ((C 0 0 ((C 1 0 (((C 2 4 ((a - 1).toNat)) - 1).toNat) - 1).toNat)))) 10 (((C 4 8 0)).toNat) 0 ((((1000) * ((C 1 4 (((C 2 4 ((a - 1).toNat)) - 1).toNat)) + (1))) + (C 1 5 (((C 2 4 ((a - 1).toNat)) - 1).toNat))))) 4 8 0 (((C 4 8 0) + (1)))) 1 5 ((((C 2 4 ((a - 1).toNat)) - 1).toNat)) (((C 1 5 (((C 2 4 ((a - 1).toNat)) - 1).toNat)) - (1)))) 3 5 ((C 0 1 ((C 1 0 (((C 2 4 ((a - 1).toNat)) - 1).toNat) - 1).toNat) - 1).toNat) (((C 3 5 ((C 0 1 ((C 1 0 (((C 2 4 ((a - 1).toNat)) - 1).toNat) - 1).toNat) - 1).toNat)) + (1)))) H := q_back hB ht
          refine lv_aload_n X.1 X.2.1 dX4_fault_39 rfl (lv_at hl 0 rfl) ?_
          refine q_get (index := 122) (v := .int (iI ((q_up (q_up (q_up (q_up (q_up (q_up (q_up C 2 4 ((a - 1).toNat) ((0))) 1 3 (((C 2 4 ((a - 1).toNat)) - 1).toNat) ((0))) 9 (((C 4 8 0)).toNat) 0 ((C 0 0 ((C 1 0 (((C 2 4 ((a - 1).toNat)) - 1).toNat) - 1).toNat)))) 10 (((C 4 8 0)).toNat) 0 ((((1000) * ((C 1 4 (((C 2 4 ((a - 1).toNat)) - 1).toNat)) + (1))) + (C 1 5 (((C 2 4 ((a - 1).toNat)) - 1).toNat))))) 4 8 0 (((C 4 8 0) + (1)))) 1 5 ((((C 2 4 ((a - 1).toNat)) - 1).toNat)) (((C 1 5 (((C 2 4 ((a - 1).toNat)) - 1).toNat)) - (1)))) 3 5 ((C 0 1 ((C 1 0 (((C 2 4 ((a - 1).toNat)) - 1).toNat) - 1).toNat) - 1).toNat) (((C 3 5 ((C 0 1 ((C 1 0 (((C 2 4 ((a - 1).toNat)) - 1).toNat) - 1).toNat) - 1).toNat)) + (1)))) 1 5 (((C 2 4 ((a - 1).toNat)) - 1).toNat)))) X hP 1 5 (((C 2 4 ((a - 1).toNat)) - 1).toNat) rfl rfl (by decide) in1 vh_2 (by decide) (by decide +kernel) rfl dX4_fault_40 ?_
          refine lv_iconst (v := iI (1)) X.1 X.2.1 dX4_fault_43 rfl ?_
          refine q_iadd X dX4_fault_44 ?_
          refine vx_ret ?_
          exact q_iret X hr hlocks hP hS (Or.inr (Or.inr (Or.inr (⟨h_1, h_2, h_4, h_5_0, rfl, rfl⟩)))) (Nat.le_of_ble_eq_true rfl) (Nat.le_of_ble_eq_true rfl) dX4_fault_45
def tX4_reason (n : Nat → Nat) (ad : Nat → Nat → Nat) (C : q_S) (a : Int) (r : Int32) (u : q_U) : Prop :=
  ((1 ≤ a ∧ a ≤ (n 0 : Int)) ∧ (c_hs C n ((a - 1).toNat) (0)) ∧ ((C 0 5 ((a - 1).toNat)) = (0)) ∧ ((C 0 4 ((a - 1).toNat)) ≤ (C 4 10 0)) ∧ ((∀ z, z < n 2 → ¬ c_fp C ((a - 1).toNat) z (n 1) = 0 → ¬ C 2 4 z = 0)) ∧ ((c_sf C n ((a - 1).toNat) 8) = (0)) ∧ u = (n, ad, C) ∧ r = iI (3)) ∨
  ((1 ≤ a ∧ a ≤ (n 0 : Int)) ∧ (c_hs C n ((a - 1).toNat) (0)) ∧ ((C 0 5 ((a - 1).toNat)) = (0)) ∧ ((C 0 4 ((a - 1).toNat)) ≤ (C 4 10 0)) ∧ ((∀ z, z < n 2 → ¬ c_fp C ((a - 1).toNat) z (n 1) = 0 → ¬ C 2 4 z = 0)) ∧ (¬ (c_sf C n ((a - 1).toNat) 8) = (0)) ∧ u = (n, ad, C) ∧ r = iI (4)) ∨
  ((1 ≤ a ∧ a ≤ (n 0 : Int)) ∧ (c_hs C n ((a - 1).toNat) (0)) ∧ ((C 0 5 ((a - 1).toNat)) = (0)) ∧ ((C 0 4 ((a - 1).toNat)) ≤ (C 4 10 0)) ∧ ((∃ z, z < n 2 ∧ ¬ c_fp C ((a - 1).toNat) z (n 1) = 0 ∧ C 2 4 z = 0)) ∧ u = (n, ad, C) ∧ r = iI (5)) ∨
  ((1 ≤ a ∧ a ≤ (n 0 : Int)) ∧ (c_hs C n ((a - 1).toNat) (0)) ∧ ((C 0 5 ((a - 1).toNat)) = (0)) ∧ ((C 4 10 0) < (C 0 4 ((a - 1).toNat))) ∧ u = (n, ad, C) ∧ r = iI (2)) ∨
  ((1 ≤ a ∧ a ≤ (n 0 : Int)) ∧ (c_hs C n ((a - 1).toNat) (0)) ∧ (¬ (C 0 5 ((a - 1).toNat)) = (0)) ∧ u = (n, ad, C) ∧ r = iI (1)) ∨
  ((1 ≤ a ∧ a ≤ (n 0 : Int)) ∧ (¬ (c_hs C n ((a - 1).toNat) (0))) ∧ u = (n, ad, C) ∧ r = iI (0))
def xX4_reason (n : Nat → Nat) (C : q_S) (a : Int) (E : String) : Prop :=
  (x_find (n 0) a E)
set_option maxHeartbeats 4000000 in
set_option maxRecDepth 100000 in
theorem c_X4_reason (l : Launch) (htr : l.stackTraces = false) (g : q_G) (s0 : Nat) (n : Nat → Nat) (ad : Nat → Nat → Nat) (C : q_S) (c0 : Nat) (hC : c_S C n) (hR : c_R C n c0) (hc0 : c0 ≤ 511) (a : Int) (ha : R32 a)  : vx_Met l yX4_reason wsX4_reason ({ frames := 7, cells := 1, slots := 6, locals := 112 }) (va_Pc [.ref (ad 4 0), .int (iI a)] (q_B g s0 (n, ad, C))) (va_Qi (tX4_reason n ad C a) (q_B g s0) (q_A s0)) (q_XC g s0 (n, ad, C) (xX4_reason n C a)) 1 6 (q_A s0) := by
  refine vx_ofW (cc := cX4_reason) (maxL := 3) (ret := (some .int)) (by decide) rfl ?_
  intro p e s m args below meth c s₁ B hml hnx hv
  obtain ⟨rfl, hv⟩ := hv
  have hr := B.returns
  have hlocks := B.notSynchronized
  obtain ⟨X, hP⟩ := q_start B.exec B.bytes hml (show s.vm.findClass RX4 = some m.cls from findClass_of_methodNamed B.named) (atoms_spec (ws := wsX4_reason) B.pre) hv
  have hP : q_P g s0 n ad C s.heap := hP
  have hS : va_S (q_A s0) s.heap s.heap [] := va_S.rf
  have in0 : ∀ w ∈ wsX00, w ∈ wsX4_reason := by decide +kernel
  have in4 : ∀ w ∈ wsX40, w ∈ wsX4_reason := by decide +kernel
  have hl := lv_entry ([.ref (ad 4 0), .int (iI a)]) (n := 3) (Nat.le_of_ble_eq_true rfl)
  rw [lg_entry_eq]
  generalize (lg_sl ([.ref (ad 4 0), .int (iI a)]) ++ List.replicate (3 - (lg_sl ([.ref (ad 4 0), .int (iI a)])).length) Slot.unset).toArray = ls at hl ⊢
  have hl : lv_has ls 3 [(0, .ref (ad 4 0)), (1, .int (iI a))] := hl
  refine lv_aload_n X.1 X.2.1 dX4_reason_0 rfl (lv_at hl 0 rfl) ?_
  refine lv_iload_n X.1 X.2.1 dX4_reason_1 rfl (lv_at hl 1 rfl) ?_
  refine vx_callq (vx_runV (As := [.int (iI a)]) (rest := []) X.fix (c_X4_findJob l htr g s0 n ad C c0 hC hR a ha) (cwV 1 X.2.2.2.2.1 gX4_reason_X4_findJob rfl rfl rfl (by decide +kernel) ⟨Nat.le_of_ble_eq_true rfl, Nat.le_of_ble_eq_true rfl⟩) (q_preV X hP hS [.int (iI a)] (kd := 4) (by decide) rfl (c_v4 hC)) rfl rfl hl.1 rfl (lv_room (Nat.le_of_ble_eq_true rfl)) dX4_reason_2 ⟨Nat.le_of_ble_eq_true rfl, Nat.le_of_ble_eq_true rfl⟩) hS q_id q_id1 q_id ?_ (fun r u t H locs ht hvm hw hB hz1 hk1 hS => ?_)
  · intro E ce q9 u t H locs ht hvm hpx hBX hz1 hk1 hS hce hcv hcl
    exact q_xout X hnx hlocks hBX ht hS hce hcv hcl (fun hxe => hxe) (Nat.le_of_ble_eq_true rfl) (Nat.le_of_ble_eq_true rfl)
  · obtain ⟨rfl, h_1, rfl⟩ := hw
    have hP : q_P g s0 n ad (C) H := q_back hB ht
    rw [show va_rf (some (ad 0 ((a - 1).toNat))) = .ref (ad 0 ((a - 1).toNat)) from rfl]
    refine lv_astore_n (lv' := [(2, .ref (ad 0 ((a - 1).toNat))), (0, .ref (ad 4 0)), (1, .int (iI a))]) X.1 X.2.1 dX4_reason_5 rfl hl (by decide) rfl (fun ls hl => ?_)
    refine lv_aload_n X.1 X.2.1 dX4_reason_6 rfl (lv_at hl 0 rfl) ?_
    refine lv_iconst (v := iI (0)) X.1 X.2.1 dX4_reason_7 rfl ?_
    refine va_calli (va_runV (As := [.int (iI (0))]) (rest := []) X.fix (c_X0_hasPartThat l g s0 n ad C c0 hR ((a - 1).toNat) (show (a - 1).toNat < n 0 by omega) (0) (by decide)) (cwV 1 X.2.2.2.2.1 gX4_reason_X0_hasPartThat rfl rfl rfl (by decide +kernel) ⟨Nat.le_of_ble_eq_true rfl, Nat.le_of_ble_eq_true rfl⟩) (q_preV X hP hS [.int (iI (0))] (kd := 0) (by decide) rfl (show (a - 1).toNat < n 0 by omega)) rfl rfl hl.1 rfl (lv_room (Nat.le_of_ble_eq_true rfl)) dX4_reason_8 ⟨Nat.le_of_ble_eq_true rfl, Nat.le_of_ble_eq_true rfl⟩) hS q_id q_id1 (fun r u t H locs ht hvm hw hB hz1 hk1 hS => ?_)
    obtain ⟨rfl, ⟨h_2, rfl⟩ | ⟨h_2, rfl⟩⟩ := hw
    · have hP : q_P g s0 n ad (C) H := q_back hB ht
      have h_2 : c_hs C n ((a - 1).toNat) (0) := h_2
      refine q_if_ne (tgt := 16) X (by decide) dX4_reason_11 (by decide) (fun _ => ?_) (fun h => absurd h (by decide))
      refine lv_aload_n X.1 X.2.1 dX4_reason_16 rfl (lv_at hl 0 rfl) ?_
      refine q_get (index := 133) (v := .int (iI (C 0 5 ((a - 1).toNat)))) X hP 0 5 ((a - 1).toNat) rfl rfl (by decide) in0 (show (a - 1).toNat < n 0 by omega) (by decide) (by decide +kernel) rfl dX4_reason_17 ?_
      refine q_if_eq (tgt := 25) X (q_b32 (hP.tok 0 5 ((a - 1).toNat) rfl)) dX4_reason_20 (by decide) (fun h_4 => ?_) (fun h_4 => ?_)
      · refine lv_aload_n X.1 X.2.1 dX4_reason_25 rfl (lv_at hl 0 rfl) ?_
        refine q_get (index := 185) (v := .long (jI (C 0 4 ((a - 1).toNat)))) X hP 0 4 ((a - 1).toNat) rfl rfl (by decide) in0 (show (a - 1).toNat < n 0 by omega) (by decide) (by decide +kernel) rfl dX4_reason_26 ?_
        refine lv_aload_n X.1 X.2.1 dX4_reason_29 rfl (lv_at hl 1 rfl) ?_
        refine q_get (index := 83) (v := .long (jI (C 4 10 0))) X hP 4 10 0 rfl rfl (by decide) in4 (c_v4 hC) (by decide) (by decide +kernel) rfl dX4_reason_30 ?_
        have f_5 := c_Rn hR
        refine q_lcmp_le (tgt := 39) X (hP.tok 0 4 ((a - 1).toNat) rfl) (hP.tok 4 10 0 rfl) dX4_reason_33 dX4_reason_34 (by decide) (fun h_6 => ?_) (fun h_6 => ?_)
        · refine lv_aload_n X.1 X.2.1 dX4_reason_39 rfl (lv_at hl 1 rfl) ?_
          refine lv_aload_n X.1 X.2.1 dX4_reason_40 rfl (lv_at hl 0 rfl) ?_
          refine va_calli (va_runV (As := [.ref (ad 0 ((a - 1).toNat))]) (rest := []) X.fix (c_X4_reasonByPrinters l g s0 n ad C c0 hC hR ((a - 1).toNat) (show (a - 1).toNat < n 0 by omega)) (cwV 1 X.2.2.2.2.1 gX4_reason_X4_reasonByPrinters rfl rfl rfl (by decide +kernel) ⟨Nat.le_of_ble_eq_true rfl, Nat.le_of_ble_eq_true rfl⟩) (q_preV X hP hS [.ref (ad 0 ((a - 1).toNat))] (kd := 4) (by decide) rfl (c_v4 hC)) rfl rfl hl.1 rfl (lv_room (Nat.le_of_ble_eq_true rfl)) dX4_reason_41 ⟨Nat.le_of_ble_eq_true rfl, Nat.le_of_ble_eq_true rfl⟩) hS q_id q_id1 (fun r u t H locs ht hvm hw hB hz1 hk1 hS => ?_)
          rcases hw with ⟨h_7_0, h_7_1, rfl, rfl⟩ | ⟨h_7_0, h_7_1, rfl, rfl⟩ | ⟨h_7_0, rfl, rfl⟩
          · have h_7_0 : (∀ z, z < n 2 → ¬ c_fp C ((a - 1).toNat) z (n 1) = 0 → ¬ C 2 4 z = 0) := h_7_0
            have h_7_1 : (c_sf C n ((a - 1).toNat) 8) = (0) := h_7_1
            have hP : q_P g s0 n ad (C) H := q_back hB ht
            refine vx_ret ?_
            exact q_iret X hr hlocks hP hS (Or.inl (⟨h_1, h_2, h_4, h_6, h_7_0, h_7_1, rfl, rfl⟩)) (Nat.le_of_ble_eq_true rfl) (Nat.le_of_ble_eq_true rfl) dX4_reason_44
          · have h_7_0 : (∀ z, z < n 2 → ¬ c_fp C ((a - 1).toNat) z (n 1) = 0 → ¬ C 2 4 z = 0) := h_7_0
            have h_7_1 : ¬ (c_sf C n ((a - 1).toNat) 8) = (0) := h_7_1
            have hP : q_P g s0 n ad (C) H := q_back hB ht
            refine vx_ret ?_
            exact q_iret X hr hlocks hP hS (Or.inr (Or.inl (⟨h_1, h_2, h_4, h_6, h_7_0, h_7_1, rfl, rfl⟩))) (Nat.le_of_ble_eq_true rfl) (Nat.le_of_ble_eq_true rfl) dX4_reason_44
          · have h_7_0 : (∃ z, z < n 2 ∧ ¬ c_fp C ((a - 1).toNat) z (n 1) = 0 ∧ C 2 4 z = 0) := h_7_0
            have hP : q_P g s0 n ad (C) H := q_back hB ht
            refine vx_ret ?_
            exact q_iret X hr hlocks hP hS (Or.inr (Or.inr (Or.inl (⟨h_1, h_2, h_4, h_6, h_7_0, rfl, rfl⟩)))) (Nat.le_of_ble_eq_true rfl) (Nat.le_of_ble_eq_true rfl) dX4_reason_44
        · refine lv_iconst (v := iI (2)) X.1 X.2.1 dX4_reason_37 rfl ?_
          refine vx_ret ?_
          exact q_iret X hr hlocks hP hS (Or.inr (Or.inr (Or.inr (Or.inl (⟨h_1, h_2, h_4, h_6, rfl, rfl⟩))))) (Nat.le_of_ble_eq_true rfl) (Nat.le_of_ble_eq_true rfl) dX4_reason_38
      · refine lv_iconst (v := iI (1)) X.1 X.2.1 dX4_reason_23 rfl ?_
        refine vx_ret ?_
        exact q_iret X hr hlocks hP hS (Or.inr (Or.inr (Or.inr (Or.inr (Or.inl (⟨h_1, h_2, h_4, rfl, rfl⟩)))))) (Nat.le_of_ble_eq_true rfl) (Nat.le_of_ble_eq_true rfl) dX4_reason_24
    · have hP : q_P g s0 n ad (C) H := q_back hB ht
      have h_2 : ¬ (c_hs C n ((a - 1).toNat) (0)) := h_2
      refine q_if_ne (tgt := 16) X (by decide) dX4_reason_11 (by decide) (fun h => absurd h (by decide)) (fun _ => ?_)
      refine lv_iconst (v := iI (0)) X.1 X.2.1 dX4_reason_14 rfl ?_
      refine vx_ret ?_
      exact q_iret X hr hlocks hP hS (Or.inr (Or.inr (Or.inr (Or.inr (Or.inr (⟨h_1, h_2, rfl, rfl⟩)))))) (Nat.le_of_ble_eq_true rfl) (Nat.le_of_ble_eq_true rfl) dX4_reason_15
set_option maxHeartbeats 4000000 in
set_option maxRecDepth 100000 in
theorem w_X4_doubled {p : Program} {l : Launch} {e : Env} {s : State} {m : MethodId} {args : Array Value} {below : List Frame} {meth : Method} {c : Code} {Q : State → Prop} {g : q_G} {s0 : Nat} {n : Nat → Nat} {ad : Nat → Nat → Nat} {C : q_S} (X : q_X p s m args c cX4_doubled 6 wsX4_doubled RX4 g s0) (in0 : ∀ w ∈ wsX00, w ∈ wsX4_doubled) (in4 : ∀ w ∈ wsX40, w ∈ wsX4_doubled) (c0 : Nat) (hC : c_S C n) (hR : c_R C n c0) (hc0 : c0 ≤ 511) (a b : Int) (ha : R32 a) (hb : R32 b) (hj : (a - 1).toNat < n 0) (kx : ∀  (H : Heap) (locs : List Loc) (ls : Array Slot), (∀ z : Nat, z < (C 4 8 0).toNat → C 9 z 0 = C 0 0 (a - 1).toNat → ¬ (c_dn C (C 0 0 (a - 1).toNat) z) = b) → q_P g s0 n ad C H → va_S (q_A s0) s.heap H locs → lv_has ls 6 [(4, .int (iI (c_dn C (C 0 0 (a - 1).toNat) (C 4 8 0).toNat))), (0, .ref (ad 4 0)), (1, .int (iI a)), (2, .int (iI b)), (3, .ref (ad 0 ((a - 1).toNat)))] → W p l e ({ frames := 7, cells := 2, slots := 12, locals := 112 }) s m args below meth c H locs (0 + 1) (0 + 6) Q (F0 m 66 ls [])) (ky : ∀ (k : Nat) (H : Heap) (locs : List Loc) (ls : Array Slot), (k : Int) < C 4 8 0 → C 9 k 0 = C 0 0 (a - 1).toNat → (c_dn C (C 0 0 (a - 1).toNat) k) = b → q_P g s0 n ad C H → va_S (q_A s0) s.heap H locs → lv_has ls 6 [(5, .int (iI ((k : Nat) : Int))), (0, .ref (ad 4 0)), (1, .int (iI a)), (2, .int (iI b)), (3, .ref (ad 0 ((a - 1).toNat)))] → W p l e ({ frames := 7, cells := 2, slots := 12, locals := 112 }) s m args below meth c H locs (0 + 1) (0 + 6) Q (F0 m 49 ls [])) :
    ∀ (N : Nat) (k : Nat) (H : Heap) (locs : List Loc) (ls : Array Slot), (C 4 8 0 < (k : Int) + N) → ((k : Int) ≤ C 4 8 0) → ((∀ z : Nat, z < k → C 9 z 0 = C 0 0 (a - 1).toNat → ¬ (c_dn C (C 0 0 (a - 1).toNat) z) = b)) → q_P g s0 n ad C H → va_S (q_A s0) s.heap H locs → lv_has ls 6 [(5, .int (iI ((k : Nat) : Int))), (4, .int (iI (c_dn C (C 0 0 (a - 1).toNat) k))), (0, .ref (ad 4 0)), (1, .int (iI a)), (2, .int (iI b)), (3, .ref (ad 0 ((a - 1).toNat)))] → W p l e ({ frames := 7, cells := 2, slots := 12, locals := 112 }) s m args below meth c H locs (0 + 1) (0 + 6) Q (F0 m 12 ls []) := by
  intro N
  induction N with
  | zero =>
    intro k H locs ls h1 h2 h3 hP hS hl
    exact absurd h1 (by omega)
  | succ N ih =>
    intro k H locs ls h1 h2 h3 hP hS hl
    have f0 := c_Rd hR
    refine lv_iload X.1 X.2.1 dX4_doubled_12 (lv_at hl 0 rfl) ?_
    refine lv_aload_n X.1 X.2.1 dX4_doubled_14 rfl (lv_at hl 2 rfl) ?_
    refine q_get (index := 166) (v := .int (iI (C 4 8 0))) X hP 4 8 0 rfl rfl (by decide) in4 (c_v4 hC) (by decide) (by decide +kernel) rfl dX4_doubled_15 ?_
    have f_1 := c_Rd hR
    refine q_icmp_ge (tgt := 66) X (by omega) (hP.tok 4 8 0 rfl) dX4_doubled_18 (by decide) (fun h_2 => ?_) (fun h_2 => ?_)
    · have ek : k = (C 4 8 0).toNat := by omega
      have e_3 : (c_dn C (C 0 0 (a - 1).toNat) k) = (c_dn C (C 0 0 (a - 1).toNat) (C 4 8 0).toNat) := by rw [ek]
      have hl : lv_has ls 6 [(4, .int (iI (c_dn C (C 0 0 (a - 1).toNat) (C 4 8 0).toNat))), (0, .ref (ad 4 0)), (1, .int (iI a)), (2, .int (iI b)), (3, .ref (ad 0 ((a - 1).toNat)))] := lv_cong (show lv_has ls 6 [(4, .int (iI (c_dn C (C 0 0 (a - 1).toNat) k))), (0, .ref (ad 4 0)), (1, .int (iI a)), (2, .int (iI b)), (3, .ref (ad 0 ((a - 1).toNat)))] from lv_sub hl [1, 2, 3, 4, 5] rfl) (lv_cs (congrArg (fun z => Value.int (iI z)) e_3) (lv_cs rfl (lv_cs rfl (lv_cs rfl (lv_cs rfl rfl)))))
      exact kx _ _ ls (fun z z1 => h3 z (by omega)) hP hS hl
    · refine lv_iload X.1 X.2.1 dX4_doubled_21 (lv_at hl 0 rfl) ?_
      refine lv_sipush (v := iI (256)) X.1 X.2.1 dX4_doubled_23 (by decide) ?_
      refine q_icmp_ge (tgt := 66) X (by omega) (by decide) dX4_doubled_26 (by decide) (fun h_4 => ?_) (fun h_4 => ?_)
      · have ek : k = (C 4 8 0).toNat := by omega
        have e_5 : (c_dn C (C 0 0 (a - 1).toNat) k) = (c_dn C (C 0 0 (a - 1).toNat) (C 4 8 0).toNat) := by rw [ek]
        have hl : lv_has ls 6 [(4, .int (iI (c_dn C (C 0 0 (a - 1).toNat) (C 4 8 0).toNat))), (0, .ref (ad 4 0)), (1, .int (iI a)), (2, .int (iI b)), (3, .ref (ad 0 ((a - 1).toNat)))] := lv_cong (show lv_has ls 6 [(4, .int (iI (c_dn C (C 0 0 (a - 1).toNat) k))), (0, .ref (ad 4 0)), (1, .int (iI a)), (2, .int (iI b)), (3, .ref (ad 0 ((a - 1).toNat)))] from lv_sub hl [1, 2, 3, 4, 5] rfl) (lv_cs (congrArg (fun z => Value.int (iI z)) e_5) (lv_cs rfl (lv_cs rfl (lv_cs rfl (lv_cs rfl rfl)))))
        exact kx _ _ ls (fun z z1 => h3 z (by omega)) hP hS hl
      · refine lv_aload_n X.1 X.2.1 dX4_doubled_29 rfl (lv_at hl 2 rfl) ?_
        refine q_get (index := 27) (v := .ref (ad 9 0)) X hP 4 6 0 rfl rfl (by decide) in4 (c_v4 hC) (by decide) (by decide +kernel) (c_r hC ad 6 9 (by decide)) dX4_doubled_30 ?_
        refine lv_iload X.1 X.2.1 dX4_doubled_33 (lv_at hl 0 rfl) ?_
        refine q_ildv (len := 256) (v := (C 9 k 0)) X hP 9 0 (by decide) rfl rfl (c_va hC 6 9 (by decide)) rfl (by omega) (by omega) rfl dX4_doubled_35 ?_
        refine lv_aload_n X.1 X.2.1 dX4_doubled_36 rfl (lv_at hl 5 rfl) ?_
        refine q_get (index := 105) (v := .int (iI (C 0 0 ((a - 1).toNat)))) X hP 0 0 ((a - 1).toNat) rfl rfl (by decide) in0 hj (by decide) (by decide +kernel) rfl dX4_doubled_37 ?_
        refine q_icmp_ne (tgt := 60) X (hP.tok 9 k 0 rfl) (hP.tok 0 0 ((a - 1).toNat) rfl) dX4_doubled_40 (by decide) (fun h_6 => ?_) (fun h_6 => ?_)
        · refine q_iinc (lv' := [(5, .int (iI (((k : Nat) : Int) + 1))), (4, .int (iI (c_dn C (C 0 0 (a - 1).toNat) k))), (0, .ref (ad 4 0)), (1, .int (iI a)), (2, .int (iI b)), (3, .ref (ad 0 ((a - 1).toNat)))]) (k := 0) X dX4_doubled_60 hl rfl (by decide) rfl (fun ls hl => ?_)
          refine lv_goto (tgt := 12) X.1 X.2.1 dX4_doubled_63 (by decide) ?_
          have h5 : ∀ z : Nat, z < k + 1 → C 9 z 0 = C 0 0 (a - 1).toNat → ¬ (c_dn C (C 0 0 (a - 1).toNat) z) = b := fun z z1 z2 => if e1 : z = k then (by subst e1; first | contradiction | assumption) else h3 z (by omega) z2
          have e_7 : (((k : Nat) : Int) + 1) = (((k + 1) : Nat) : Int) := by omega
          have e_8 : (c_dn C (C 0 0 (a - 1).toNat) k) = (c_dn C (C 0 0 (a - 1).toNat) (k + 1)) := by rw [c_dn]; first | (rw [if_pos (by assumption)]; done) | (rw [if_neg (by assumption)]; done)
          have hl : lv_has ls 6 [(5, .int (iI (((k + 1) : Nat) : Int))), (4, .int (iI (c_dn C (C 0 0 (a - 1).toNat) (k + 1)))), (0, .ref (ad 4 0)), (1, .int (iI a)), (2, .int (iI b)), (3, .ref (ad 0 ((a - 1).toNat)))] := lv_cong (show lv_has ls 6 [(5, .int (iI (((k : Nat) : Int) + 1))), (4, .int (iI (c_dn C (C 0 0 (a - 1).toNat) k))), (0, .ref (ad 4 0)), (1, .int (iI a)), (2, .int (iI b)), (3, .ref (ad 0 ((a - 1).toNat)))] from lv_sub hl [0, 1, 2, 3, 4, 5] rfl) (lv_cs (congrArg (fun z => Value.int (iI z)) e_7) (lv_cs (congrArg (fun z => Value.int (iI z)) e_8) (lv_cs rfl (lv_cs rfl (lv_cs rfl (lv_cs rfl rfl))))))
          exact ih (k + 1) _ _ ls (by omega) (by omega) h5 hP hS hl
        · refine lv_iload X.1 X.2.1 dX4_doubled_43 (lv_at hl 1 rfl) ?_
          refine lv_iload_n X.1 X.2.1 dX4_doubled_45 rfl (lv_at hl 4 rfl) ?_
          refine q_icmp_ne (tgt := 57) X (by have := c_dn_b C (C 0 0 (a - 1).toNat) k; omega) hb dX4_doubled_46 (by decide) (fun h_9 => ?_) (fun h_9 => ?_)
          · refine q_iinc (lv' := [(4, .int (iI ((c_dn C (C 0 0 (a - 1).toNat) k) + 1))), (5, .int (iI ((k : Nat) : Int))), (0, .ref (ad 4 0)), (1, .int (iI a)), (2, .int (iI b)), (3, .ref (ad 0 ((a - 1).toNat)))]) (k := 1) X dX4_doubled_57 hl rfl (by decide) rfl (fun ls hl => ?_)
            refine q_iinc (lv' := [(5, .int (iI (((k : Nat) : Int) + 1))), (4, .int (iI ((c_dn C (C 0 0 (a - 1).toNat) k) + 1))), (0, .ref (ad 4 0)), (1, .int (iI a)), (2, .int (iI b)), (3, .ref (ad 0 ((a - 1).toNat)))]) (k := 1) X dX4_doubled_60 hl rfl (by decide) rfl (fun ls hl => ?_)
            refine lv_goto (tgt := 12) X.1 X.2.1 dX4_doubled_63 (by decide) ?_
            have h5 : ∀ z : Nat, z < k + 1 → C 9 z 0 = C 0 0 (a - 1).toNat → ¬ (c_dn C (C 0 0 (a - 1).toNat) z) = b := fun z z1 z2 => if e1 : z = k then (by subst e1; first | contradiction | assumption) else h3 z (by omega) z2
            have e_10 : (((k : Nat) : Int) + 1) = (((k + 1) : Nat) : Int) := by omega
            have e_11 : ((c_dn C (C 0 0 (a - 1).toNat) k) + 1) = (c_dn C (C 0 0 (a - 1).toNat) (k + 1)) := by rw [c_dn]; first | (rw [if_pos (by assumption)]; done) | (rw [if_neg (by assumption)]; done)
            have hl : lv_has ls 6 [(5, .int (iI (((k + 1) : Nat) : Int))), (4, .int (iI (c_dn C (C 0 0 (a - 1).toNat) (k + 1)))), (0, .ref (ad 4 0)), (1, .int (iI a)), (2, .int (iI b)), (3, .ref (ad 0 ((a - 1).toNat)))] := lv_cong (show lv_has ls 6 [(5, .int (iI (((k : Nat) : Int) + 1))), (4, .int (iI ((c_dn C (C 0 0 (a - 1).toNat) k) + 1))), (0, .ref (ad 4 0)), (1, .int (iI a)), (2, .int (iI b)), (3, .ref (ad 0 ((a - 1).toNat)))] from lv_sub hl [0, 1, 2, 3, 4, 5] rfl) (lv_cs (congrArg (fun z => Value.int (iI z)) e_10) (lv_cs (congrArg (fun z => Value.int (iI z)) e_11) (lv_cs rfl (lv_cs rfl (lv_cs rfl (lv_cs rfl rfl))))))
            exact ih (k + 1) _ _ ls (by omega) (by omega) h5 hP hS hl
          · have hl : lv_has ls 6 [(5, .int (iI ((k : Nat) : Int))), (0, .ref (ad 4 0)), (1, .int (iI a)), (2, .int (iI b)), (3, .ref (ad 0 ((a - 1).toNat)))] := lv_sub hl [0, 2, 3, 4, 5] rfl
            exact ky k _ _ ls (by omega) (by assumption) (by assumption) hP hS hl
def tX4_doubled (n : Nat → Nat) (ad : Nat → Nat → Nat) (C : q_S) (a b : Int) (r : Int32) (u : q_U) : Prop :=
  ((1 ≤ a ∧ a ≤ (n 0 : Int)) ∧ ((∀ z : Nat, z < (C 4 8 0).toNat → C 9 z 0 = C 0 0 (a - 1).toNat → ¬ (c_dn C (C 0 0 (a - 1).toNat) z) = b)) ∧ (b = (-1)) ∧ u = (n, ad, C) ∧ r = iI (c_dn C (C 0 0 (a - 1).toNat) (C 4 8 0).toNat)) ∨
  (∃ (k : Nat), (1 ≤ a ∧ a ≤ (n 0 : Int)) ∧ ((k : Int) < C 4 8 0) ∧ (C 9 k 0 = C 0 0 (a - 1).toNat) ∧ ((c_dn C (C 0 0 (a - 1).toNat) k) = b) ∧ u = (n, ad, C) ∧ r = iI (C 10 k 0))
def xX4_doubled (n : Nat → Nat) (C : q_S) (a b : Int) (E : String) : Prop :=
  (x_find (n 0) a E) ∨
  (E = "java/lang/IndexOutOfBoundsException" ∧ (1 ≤ a ∧ a ≤ (n 0 : Int)) ∧ ((∀ z : Nat, z < (C 4 8 0).toNat → C 9 z 0 = C 0 0 (a - 1).toNat → ¬ (c_dn C (C 0 0 (a - 1).toNat) z) = b)) ∧ (¬ b = (-1)))
set_option maxHeartbeats 4000000 in
set_option maxRecDepth 100000 in
theorem c_X4_doubled (l : Launch) (htr : l.stackTraces = false) (g : q_G) (s0 : Nat) (n : Nat → Nat) (ad : Nat → Nat → Nat) (C : q_S) (c0 : Nat) (hC : c_S C n) (hR : c_R C n c0) (hc0 : c0 ≤ 511) (a b : Int) (ha : R32 a) (hb : R32 b)  : vx_Met l yX4_doubled wsX4_doubled ({ frames := 7, cells := 2, slots := 12, locals := 112 }) (va_Pc [.ref (ad 4 0), .int (iI a), .int (iI b)] (q_B g s0 (n, ad, C))) (va_Qi (tX4_doubled n ad C a b) (q_B g s0) (q_A s0)) (q_XC g s0 (n, ad, C) (xX4_doubled n C a b)) 2 12 (q_A s0) := by
  refine vx_ofW (cc := cX4_doubled) (maxL := 6) (ret := (some .int)) (by decide) rfl ?_
  intro p e s m args below meth c s₁ B hml hnx hv
  obtain ⟨rfl, hv⟩ := hv
  have hr := B.returns
  have hlocks := B.notSynchronized
  obtain ⟨X, hP⟩ := q_start B.exec B.bytes hml (show s.vm.findClass RX4 = some m.cls from findClass_of_methodNamed B.named) (atoms_spec (ws := wsX4_doubled) B.pre) hv
  have hP : q_P g s0 n ad C s.heap := hP
  have hS : va_S (q_A s0) s.heap s.heap [] := va_S.rf
  have in0 : ∀ w ∈ wsX00, w ∈ wsX4_doubled := by decide +kernel
  have in4 : ∀ w ∈ wsX40, w ∈ wsX4_doubled := by decide +kernel
  have hl := lv_entry ([.ref (ad 4 0), .int (iI a), .int (iI b)]) (n := 6) (Nat.le_of_ble_eq_true rfl)
  rw [lg_entry_eq]
  generalize (lg_sl ([.ref (ad 4 0), .int (iI a), .int (iI b)]) ++ List.replicate (6 - (lg_sl ([.ref (ad 4 0), .int (iI a), .int (iI b)])).length) Slot.unset).toArray = ls at hl ⊢
  have hl : lv_has ls 6 [(0, .ref (ad 4 0)), (1, .int (iI a)), (2, .int (iI b))] := hl
  refine lv_aload_n X.1 X.2.1 dX4_doubled_0 rfl (lv_at hl 0 rfl) ?_
  refine lv_iload_n X.1 X.2.1 dX4_doubled_1 rfl (lv_at hl 1 rfl) ?_
  refine vx_callq (vx_runV (As := [.int (iI a)]) (rest := []) X.fix (c_X4_findJob l htr g s0 n ad C c0 hC hR a ha) (cwV 1 X.2.2.2.2.1 gX4_doubled_X4_findJob rfl rfl rfl (by decide +kernel) ⟨Nat.le_of_ble_eq_true rfl, Nat.le_of_ble_eq_true rfl⟩) (q_preV X hP hS [.int (iI a)] (kd := 4) (by decide) rfl (c_v4 hC)) rfl rfl hl.1 rfl (lv_room (Nat.le_of_ble_eq_true rfl)) dX4_doubled_2 ⟨Nat.le_of_ble_eq_true rfl, Nat.le_of_ble_eq_true rfl⟩) hS q_id q_id1 q_id ?_ (fun r u t H locs ht hvm hw hB hz1 hk1 hS => ?_)
  · intro E ce q9 u t H locs ht hvm hpx hBX hz1 hk1 hS hce hcv hcl
    exact q_xout X hnx hlocks hBX ht hS hce hcv hcl (fun hxe => Or.inl (hxe)) (Nat.le_of_ble_eq_true rfl) (Nat.le_of_ble_eq_true rfl)
  · obtain ⟨rfl, h_1, rfl⟩ := hw
    have hP : q_P g s0 n ad (C) H := q_back hB ht
    rw [show va_rf (some (ad 0 ((a - 1).toNat))) = .ref (ad 0 ((a - 1).toNat)) from rfl]
    refine lv_astore_n (lv' := [(3, .ref (ad 0 ((a - 1).toNat))), (0, .ref (ad 4 0)), (1, .int (iI a)), (2, .int (iI b))]) X.1 X.2.1 dX4_doubled_5 rfl hl (by decide) rfl (fun ls hl => ?_)
    refine lv_iconst (v := iI (0)) X.1 X.2.1 dX4_doubled_6 rfl ?_
    refine lv_istore (lv' := [(4, .int (iI (0))), (3, .ref (ad 0 ((a - 1).toNat))), (0, .ref (ad 4 0)), (1, .int (iI a)), (2, .int (iI b))]) X.1 X.2.1 dX4_doubled_7 hl (by decide) rfl (fun ls hl => ?_)
    refine lv_iconst (v := iI (0)) X.1 X.2.1 dX4_doubled_9 rfl ?_
    refine lv_istore (lv' := [(5, .int (iI (0))), (4, .int (iI (0))), (3, .ref (ad 0 ((a - 1).toNat))), (0, .ref (ad 4 0)), (1, .int (iI a)), (2, .int (iI b))]) X.1 X.2.1 dX4_doubled_10 hl (by decide) rfl (fun ls hl => ?_)
    have e_2 : (0) = ((0 : Nat) : Int) := by rfl
    have e_3 : (0) = (c_dn C (C 0 0 (a - 1).toNat) 0) := by rfl
    have hl : lv_has ls 6 [(5, .int (iI ((0 : Nat) : Int))), (4, .int (iI (c_dn C (C 0 0 (a - 1).toNat) 0))), (0, .ref (ad 4 0)), (1, .int (iI a)), (2, .int (iI b)), (3, .ref (ad 0 ((a - 1).toNat)))] := lv_cong (show lv_has ls 6 [(5, .int (iI (0))), (4, .int (iI (0))), (0, .ref (ad 4 0)), (1, .int (iI a)), (2, .int (iI b)), (3, .ref (ad 0 ((a - 1).toNat)))] from lv_sub hl [0, 1, 3, 4, 5, 2] rfl) (lv_cs (congrArg (fun z => Value.int (iI z)) e_2) (lv_cs (congrArg (fun z => Value.int (iI z)) e_3) (lv_cs rfl (lv_cs rfl (lv_cs rfl (lv_cs rfl rfl))))))
    have hj : (a - 1).toNat < n 0 := by omega
    have f0 := c_Rd hR
    refine w_X4_doubled X in0 in4 c0 hC hR hc0 a b ha hb hj (fun H locs ls hf hP hS hl => ?_) (fun k H locs ls hk hf1 hf2 hP hS hl => ?_) ((C 4 8 0).toNat + 1) 0 _ _ ls (by omega) (by omega) (fun z hz => by omega) hP hS hl
    · refine lv_iload_n X.1 X.2.1 dX4_doubled_66 rfl (lv_at hl 3 rfl) ?_
      refine lv_iconst (v := iI (-1)) X.1 X.2.1 dX4_doubled_67 rfl ?_
      refine q_icmp_eq (tgt := 79) X hb (by decide) dX4_doubled_68 (by decide) (fun h_4 => ?_) (fun h_4 => ?_)
      · refine lv_iload X.1 X.2.1 dX4_doubled_79 (lv_at hl 0 rfl) ?_
        refine vx_ret ?_
        exact q_iret X hr hlocks hP hS (Or.inl (⟨h_1, hf, h_4, rfl, rfl⟩)) (Nat.le_of_ble_eq_true rfl) (Nat.le_of_ble_eq_true rfl) dX4_doubled_81
      · exact q_throw X htr hnx hlocks (cls := "java/lang/IndexOutOfBoundsException") (ik := 163) (ic := 165) (by decide) (by decide +kernel) (by decide +kernel) (by decide +kernel) xb_165 xg_163_165 hP hS hl.1 dX4_doubled_71 dX4_doubled_74 dX4_doubled_75 dX4_doubled_78 (Nat.le_of_ble_eq_true rfl) (Nat.le_of_ble_eq_true rfl) (Nat.le_of_ble_eq_true rfl) (Nat.le_of_ble_eq_true rfl) (Or.inr (⟨rfl, h_1, hf, h_4⟩)) (Nat.le_of_ble_eq_true rfl) (Nat.le_of_ble_eq_true rfl)
    · refine lv_aload_n X.1 X.2.1 dX4_doubled_49 rfl (lv_at hl 1 rfl) ?_
      refine q_get (index := 31) (v := .ref (ad 10 0)) X hP 4 7 0 rfl rfl (by decide) in4 (c_v4 hC) (by decide) (by decide +kernel) (c_r hC ad 7 10 (by decide)) dX4_doubled_50 ?_
      refine lv_iload X.1 X.2.1 dX4_doubled_53 (lv_at hl 0 rfl) ?_
      refine q_ildv (len := 256) (v := (C 10 k 0)) X hP 10 0 (by decide) rfl rfl (c_va hC 7 10 (by decide)) rfl (by omega) (by omega) rfl dX4_doubled_55 ?_
      refine vx_ret ?_
      exact q_iret X hr hlocks hP hS (Or.inr (⟨k, h_1, hk, hf1, hf2, rfl, rfl⟩)) (Nat.le_of_ble_eq_true rfl) (Nat.le_of_ble_eq_true rfl) dX4_doubled_56
set_option maxHeartbeats 4000000 in
set_option maxRecDepth 100000 in
theorem w_X4_emptyPrintersOf {p : Program} {l : Launch} {e : Env} {s : State} {m : MethodId} {args : Array Value} {below : List Frame} {meth : Method} {c : Code} {Q : State → Prop} {g : q_G} {s0 : Nat} {n : Nat → Nat} {ad : Nat → Nat → Nat} {C : q_S} (X : q_X p s m args c cX4_emptyPrintersOf 6 wsX4_emptyPrintersOf RX4 g s0) (in1 : ∀ w ∈ wsX10, w ∈ wsX4_emptyPrintersOf) (in2 : ∀ w ∈ wsX20, w ∈ wsX4_emptyPrintersOf) (in4 : ∀ w ∈ wsX40, w ∈ wsX4_emptyPrintersOf) (c0 : Nat) (hC : c_S C n) (hR : c_R C n c0) (hz : ∀ k, n 2 ≤ k → C 2 4 k = 0) (j : Nat) (hj : j < n 0) (kx : ∀  (H : Heap) (locs : List Loc) (ls : Array Slot), q_P g s0 n ad ((c_ep C j 8)) H → va_S (q_A s0) s.heap H locs → lv_has ls 6 [(0, .ref (ad 4 0)), (1, .ref (ad 0 j)), (2, .ref (ad 6 0)), (3, .int (iI (8)))] → W p l e ({ frames := 0, cells := 0, slots := 0, locals := 0 }) s m args below meth c H locs 0 0 Q (F0 m 60 ls [])) :
    ∀ (N : Nat) (k : Nat) (H : Heap) (locs : List Loc) (ls : Array Slot), (8 < k + N) → (k ≤ 8) → q_P g s0 n ad ((c_ep C j k)) H → va_S (q_A s0) s.heap H locs → lv_has ls 6 [(4, .int (iI ((k : Nat) : Int))), (0, .ref (ad 4 0)), (1, .ref (ad 0 j)), (2, .ref (ad 6 0)), (3, .int (iI (8)))] → W p l e ({ frames := 0, cells := 0, slots := 0, locals := 0 }) s m args below meth c H locs 0 0 Q (F0 m 11 ls []) := by
  intro N
  induction N with
  | zero =>
    intro k H locs ls h1 h2 hP hS hl
    exact absurd h1 (by omega)
  | succ N ih =>
    intro k H locs ls h1 h2 hP hS hl
    have f0 := c_Rp hR
    refine lv_iload X.1 X.2.1 dX4_emptyPrintersOf_11 (lv_at hl 0 rfl) ?_
    refine lv_iload_n X.1 X.2.1 dX4_emptyPrintersOf_13 rfl (lv_at hl 4 rfl) ?_
    refine q_icmp_ge (tgt := 60) X (by omega) (by decide) dX4_emptyPrintersOf_14 (by decide) (fun h_1 => ?_) (fun h_1 => ?_)
    · have ek : k = 8 := by omega
      have hl : lv_has ls 6 [(0, .ref (ad 4 0)), (1, .ref (ad 0 j)), (2, .ref (ad 6 0)), (3, .int (iI (8)))] := lv_sub hl [1, 2, 3, 4] rfl
      rw [ek] at hP
      exact kx _ _ ls hP hS hl
    · refine lv_aload_n X.1 X.2.1 dX4_emptyPrintersOf_17 rfl (lv_at hl 3 rfl) ?_
      refine lv_iload X.1 X.2.1 dX4_emptyPrintersOf_18 (lv_at hl 0 rfl) ?_
      by_cases h_2 : k < n 2
      · refine q_rldv (len := 8) (v := ((k : Nat) : Int) + 1) X hP 6 0 2 3 (by decide) rfl rfl rfl (c_va hC 0 6 (by decide)) rfl (by omega) (by omega) ((c_R6 hR k).trans (if_pos h_2)) dX4_emptyPrintersOf_20 ?_
        rw [q_rf2]
        refine lv_astore (lv' := [(5, .ref (ad 2 k)), (4, .int (iI ((k : Nat) : Int))), (0, .ref (ad 4 0)), (1, .ref (ad 0 j)), (2, .ref (ad 6 0)), (3, .int (iI (8)))]) X.1 X.2.1 dX4_emptyPrintersOf_21 hl (by decide) rfl (fun ls hl => ?_)
        refine lv_aload X.1 X.2.1 dX4_emptyPrintersOf_23 (lv_at hl 0 rfl) ?_
        refine lv_ifnull X.1 X.2.1 dX4_emptyPrintersOf_25 ?_
        refine lv_aload X.1 X.2.1 dX4_emptyPrintersOf_28 (lv_at hl 0 rfl) ?_
        refine q_get (index := 87) (v := va_rf (q_rf ad 1 (C 2 4 k))) X hP 2 4 k rfl rfl (by decide) in2 h_2 (by decide) (by decide +kernel) (q_vch ad 1 (c_ep_k C j k)) dX4_emptyPrintersOf_30 ?_
        by_cases h_3 : (C 2 4 k) = 0
        · rw [q_rf0 ad 1 h_3]
          refine lv_ifnullN (tgt := 54) X.1 X.2.1 dX4_emptyPrintersOf_33 (by decide) ?_
          refine q_iinc (lv' := [(4, .int (iI (((k : Nat) : Int) + 1))), (5, .ref (ad 2 k)), (0, .ref (ad 4 0)), (1, .ref (ad 0 j)), (2, .ref (ad 6 0)), (3, .int (iI (8)))]) (k := 1) X dX4_emptyPrintersOf_54 hl rfl (by decide) rfl (fun ls hl => ?_)
          refine lv_goto (tgt := 11) X.1 X.2.1 dX4_emptyPrintersOf_57 (by decide) ?_
          have e_4 : (((k : Nat) : Int) + 1) = (((k + 1) : Nat) : Int) := by omega
          have hl : lv_has ls 6 [(4, .int (iI (((k + 1) : Nat) : Int))), (0, .ref (ad 4 0)), (1, .ref (ad 0 j)), (2, .ref (ad 6 0)), (3, .int (iI (8)))] := lv_cong (show lv_has ls 6 [(4, .int (iI (((k : Nat) : Int) + 1))), (0, .ref (ad 4 0)), (1, .ref (ad 0 j)), (2, .ref (ad 6 0)), (3, .int (iI (8)))] from lv_sub hl [0, 2, 3, 4, 5] rfl) (lv_cs (congrArg (fun z => Value.int (iI z)) e_4) (lv_cs rfl (lv_cs rfl (lv_cs rfl (lv_cs rfl rfl)))))
          rw [c_ep_n (C := C) (j := j) (k := k) (by first | exact Or.inl (by assumption) | exact Or.inl (hz k (by omega)) | exact Or.inr (fun q => by apply (by assumption : ¬ some (ad 0 (C 1 0 (C 2 4 k - 1).toNat - 1).toNat) = some (ad 0 j)); rw [q]; congr 2; omega))] at hP
          exact ih (k + 1) _ _ ls (by omega) (by omega) hP hS hl
        · rw [q_rf1 ad 1 h_3]
          have vh_3 : ((C 2 4 k) - 1).toNat < n 1 := q_rfl (by have q := hP.tok 2 4 k rfl; rw [c_ep_k] at q; exact q) h_3
          refine lv_ifnull X.1 X.2.1 dX4_emptyPrintersOf_33 ?_
          refine lv_aload X.1 X.2.1 dX4_emptyPrintersOf_36 (lv_at hl 0 rfl) ?_
          refine q_get (index := 87) (v := va_rf (q_rf ad 1 (C 2 4 k))) X hP 2 4 k rfl rfl (by decide) in2 h_2 (by decide) (by decide +kernel) (q_vch ad 1 (c_ep_k C j k)) dX4_emptyPrintersOf_38 ?_
          by_cases h_5 : (C 2 4 k) = 0
          · rw [q_rf0 ad 1 h_5]
            contradiction
          · rw [q_rf1 ad 1 h_5]
            have vh_5 : ((C 2 4 k) - 1).toNat < n 1 := q_rfl (by have q := hP.tok 2 4 k rfl; rw [c_ep_k] at q; exact q) h_5
            refine q_get (index := 101) (v := .ref (ad 0 ((C 1 0 (((C 2 4 k) - 1).toNat) - 1).toNat))) X hP 1 0 (((C 2 4 k) - 1).toNat) rfl rfl (by decide) in1 vh_5 (by decide) (by decide +kernel) (q_vnn ad 0 (c_jn hR (((C 2 4 k) - 1).toNat) vh_5)) dX4_emptyPrintersOf_41 ?_
            refine lv_aload_n X.1 X.2.1 dX4_emptyPrintersOf_44 rfl (lv_at hl 3 rfl) ?_
            refine lv_acmp_ne (tgt := 54) (rx := (some (ad 0 ((C 1 0 (((C 2 4 k) - 1).toNat) - 1).toNat)))) (ry := (some (ad 0 j))) X.1 X.2.1 dX4_emptyPrintersOf_45 (by decide) (fun h_6 => ?_) (fun h_6 => ?_)
            · refine q_iinc (lv' := [(4, .int (iI (((k : Nat) : Int) + 1))), (5, .ref (ad 2 k)), (0, .ref (ad 4 0)), (1, .ref (ad 0 j)), (2, .ref (ad 6 0)), (3, .int (iI (8)))]) (k := 1) X dX4_emptyPrintersOf_54 hl rfl (by decide) rfl (fun ls hl => ?_)
              refine lv_goto (tgt := 11) X.1 X.2.1 dX4_emptyPrintersOf_57 (by decide) ?_
              have e_7 : (((k : Nat) : Int) + 1) = (((k + 1) : Nat) : Int) := by omega
              have hl : lv_has ls 6 [(4, .int (iI (((k + 1) : Nat) : Int))), (0, .ref (ad 4 0)), (1, .ref (ad 0 j)), (2, .ref (ad 6 0)), (3, .int (iI (8)))] := lv_cong (show lv_has ls 6 [(4, .int (iI (((k : Nat) : Int) + 1))), (0, .ref (ad 4 0)), (1, .ref (ad 0 j)), (2, .ref (ad 6 0)), (3, .int (iI (8)))] from lv_sub hl [0, 2, 3, 4, 5] rfl) (lv_cs (congrArg (fun z => Value.int (iI z)) e_7) (lv_cs rfl (lv_cs rfl (lv_cs rfl (lv_cs rfl rfl)))))
              rw [c_ep_n (C := C) (j := j) (k := k) (by first | exact Or.inl (by assumption) | exact Or.inl (hz k (by omega)) | exact Or.inr (fun q => by apply (by assumption : ¬ some (ad 0 (C 1 0 (C 2 4 k - 1).toNat - 1).toNat) = some (ad 0 j)); rw [q]; congr 2; omega))] at hP
              exact ih (k + 1) _ _ ls (by omega) (by omega) hP hS hl
            · refine lv_aload X.1 X.2.1 dX4_emptyPrintersOf_48 (lv_at hl 0 rfl) ?_
              refine lv_null X.1 X.2.1 dX4_emptyPrintersOf_50 ?_
              refine q_put (index := 87) (v := .null) X hP hS 2 4 k ((0)) rfl rfl (by decide) in2 tyX2 tyX2_ok nmX2 h_2 (by decide) (by decide +kernel) rfl rfl rfl rfl (q_t0 _ _) dX4_emptyPrintersOf_51 (fun H locs hP hS => ?_)
              have hP : q_P g s0 n ad (q_up ((c_ep C j k)) 2 4 k ((0))) H := hP
              refine q_iinc (lv' := [(4, .int (iI (((k : Nat) : Int) + 1))), (5, .ref (ad 2 k)), (0, .ref (ad 4 0)), (1, .ref (ad 0 j)), (2, .ref (ad 6 0)), (3, .int (iI (8)))]) (k := 1) X dX4_emptyPrintersOf_54 hl rfl (by decide) rfl (fun ls hl => ?_)
              refine lv_goto (tgt := 11) X.1 X.2.1 dX4_emptyPrintersOf_57 (by decide) ?_
              have e_8 : (((k : Nat) : Int) + 1) = (((k + 1) : Nat) : Int) := by omega
              have hl : lv_has ls 6 [(4, .int (iI (((k + 1) : Nat) : Int))), (0, .ref (ad 4 0)), (1, .ref (ad 0 j)), (2, .ref (ad 6 0)), (3, .int (iI (8)))] := lv_cong (show lv_has ls 6 [(4, .int (iI (((k : Nat) : Int) + 1))), (0, .ref (ad 4 0)), (1, .ref (ad 0 j)), (2, .ref (ad 6 0)), (3, .int (iI (8)))] from lv_sub hl [0, 2, 3, 4, 5] rfl) (lv_cs (congrArg (fun z => Value.int (iI z)) e_8) (lv_cs rfl (lv_cs rfl (lv_cs rfl (lv_cs rfl rfl)))))
              have hj2 : C 1 0 (C 2 4 k - 1).toNat = (j : Int) + 1 := by have q2 := c_R10 hR (C 2 4 k - 1).toNat (by assumption); have q := q_rf_inj hP (i := (C 1 0 (C 2 4 k - 1).toNat - 1).toNat) (by omega) hj h_6; omega
              rw [c_ep_y (by assumption) hj2] at hP
              exact ih (k + 1) _ _ ls (by omega) (by omega) hP hS hl
      · refine q_rldv (len := 8) (v := 0) X hP 6 0 2 3 (by decide) rfl rfl rfl (c_va hC 0 6 (by decide)) rfl (by omega) (by omega) ((c_R6 hR k).trans (if_neg h_2)) dX4_emptyPrintersOf_20 ?_
        rw [q_rf0 ad 2 rfl]
        refine lv_astoreN (lv' := [(5, .null), (4, .int (iI ((k : Nat) : Int))), (0, .ref (ad 4 0)), (1, .ref (ad 0 j)), (2, .ref (ad 6 0)), (3, .int (iI (8)))]) X.1 X.2.1 dX4_emptyPrintersOf_21 hl (by decide) rfl (fun ls hl => ?_)
        refine lv_aloadN X.1 X.2.1 dX4_emptyPrintersOf_23 (lv_at hl 0 rfl) ?_
        refine lv_ifnullN (tgt := 54) X.1 X.2.1 dX4_emptyPrintersOf_25 (by decide) ?_
        refine q_iinc (lv' := [(4, .int (iI (((k : Nat) : Int) + 1))), (5, .null), (0, .ref (ad 4 0)), (1, .ref (ad 0 j)), (2, .ref (ad 6 0)), (3, .int (iI (8)))]) (k := 1) X dX4_emptyPrintersOf_54 hl rfl (by decide) rfl (fun ls hl => ?_)
        refine lv_goto (tgt := 11) X.1 X.2.1 dX4_emptyPrintersOf_57 (by decide) ?_
        have e_9 : (((k : Nat) : Int) + 1) = (((k + 1) : Nat) : Int) := by omega
        have hl : lv_has ls 6 [(4, .int (iI (((k + 1) : Nat) : Int))), (0, .ref (ad 4 0)), (1, .ref (ad 0 j)), (2, .ref (ad 6 0)), (3, .int (iI (8)))] := lv_cong (show lv_has ls 6 [(4, .int (iI (((k : Nat) : Int) + 1))), (0, .ref (ad 4 0)), (1, .ref (ad 0 j)), (2, .ref (ad 6 0)), (3, .int (iI (8)))] from lv_sub hl [0, 2, 3, 4, 5] rfl) (lv_cs (congrArg (fun z => Value.int (iI z)) e_9) (lv_cs rfl (lv_cs rfl (lv_cs rfl (lv_cs rfl rfl)))))
        rw [c_ep_n (C := C) (j := j) (k := k) (by first | exact Or.inl (by assumption) | exact Or.inl (hz k (by omega)) | exact Or.inr (fun q => by apply (by assumption : ¬ some (ad 0 (C 1 0 (C 2 4 k - 1).toNat - 1).toNat) = some (ad 0 j)); rw [q]; congr 2; omega))] at hP
        exact ih (k + 1) _ _ ls (by omega) (by omega) hP hS hl
set_option maxHeartbeats 4000000 in
set_option maxRecDepth 100000 in
theorem c_X4_emptyPrintersOf (l : Launch) (g : q_G) (s0 : Nat) (n : Nat → Nat) (ad : Nat → Nat → Nat) (C : q_S) (c0 : Nat) (hC : c_S C n) (hR : c_R C n c0) (hz : ∀ k, n 2 ≤ k → C 2 4 k = 0) (j : Nat) (hj : j < n 0) : Met l yX4_emptyPrintersOf wsX4_emptyPrintersOf ({ frames := 0, cells := 0, slots := 0, locals := 0 }) (va_Pc [.ref (ad 4 0), .ref (ad 0 j)] (q_B g s0 (n, ad, C))) (va_Qv (fun u => u = (n, ad, c_ep C j 8)) (q_B g s0) (q_A s0)) 0 0 (q_A s0) := by
  refine Met.ofW (cc := cX4_emptyPrintersOf) (maxL := 6) (ret := none) (by decide) rfl ?_
  intro p e s m args below meth c s₁ B hml hv
  obtain ⟨rfl, hv⟩ := hv
  have hr := B.returns
  have hlocks := B.notSynchronized
  obtain ⟨X, hP⟩ := q_start B.exec B.bytes hml (show s.vm.findClass RX4 = some m.cls from findClass_of_methodNamed B.named) (atoms_spec (ws := wsX4_emptyPrintersOf) B.pre) hv
  have hP : q_P g s0 n ad C s.heap := hP
  have hS : va_S (q_A s0) s.heap s.heap [] := va_S.rf
  have in1 : ∀ w ∈ wsX10, w ∈ wsX4_emptyPrintersOf := by decide +kernel
  have in2 : ∀ w ∈ wsX20, w ∈ wsX4_emptyPrintersOf := by decide +kernel
  have in4 : ∀ w ∈ wsX40, w ∈ wsX4_emptyPrintersOf := by decide +kernel
  have hl := lv_entry ([.ref (ad 4 0), .ref (ad 0 j)]) (n := 6) (Nat.le_of_ble_eq_true rfl)
  rw [lg_entry_eq]
  generalize (lg_sl ([.ref (ad 4 0), .ref (ad 0 j)]) ++ List.replicate (6 - (lg_sl ([.ref (ad 4 0), .ref (ad 0 j)])).length) Slot.unset).toArray = ls at hl ⊢
  have hl : lv_has ls 6 [(0, .ref (ad 4 0)), (1, .ref (ad 0 j))] := hl
  refine lv_aload_n X.1 X.2.1 dX4_emptyPrintersOf_0 rfl (lv_at hl 0 rfl) ?_
  refine q_get (index := 11) (v := .ref (ad 6 0)) X hP 4 0 0 rfl rfl (by decide) in4 (c_v4 hC) (by decide) (by decide +kernel) (c_r hC ad 0 6 (by decide)) dX4_emptyPrintersOf_1 ?_
  refine lv_astore_n (lv' := [(2, .ref (ad 6 0)), (0, .ref (ad 4 0)), (1, .ref (ad 0 j))]) X.1 X.2.1 dX4_emptyPrintersOf_4 rfl hl (by decide) rfl (fun ls hl => ?_)
  refine lv_aload_n X.1 X.2.1 dX4_emptyPrintersOf_5 rfl (lv_at hl 0 rfl) ?_
  refine q_len (z := 8) X hP 6 0 3 (by decide) rfl rfl (c_va hC 0 6 (by decide)) rfl dX4_emptyPrintersOf_6 ?_
  refine lv_istore_n (lv' := [(3, .int (iI (8))), (2, .ref (ad 6 0)), (0, .ref (ad 4 0)), (1, .ref (ad 0 j))]) X.1 X.2.1 dX4_emptyPrintersOf_7 rfl hl (by decide) rfl (fun ls hl => ?_)
  refine lv_iconst (v := iI (0)) X.1 X.2.1 dX4_emptyPrintersOf_8 rfl ?_
  refine lv_istore (lv' := [(4, .int (iI (0))), (3, .int (iI (8))), (2, .ref (ad 6 0)), (0, .ref (ad 4 0)), (1, .ref (ad 0 j))]) X.1 X.2.1 dX4_emptyPrintersOf_9 hl (by decide) rfl (fun ls hl => ?_)
  have e_1 : (0) = ((0 : Nat) : Int) := by rfl
  have hl : lv_has ls 6 [(4, .int (iI ((0 : Nat) : Int))), (0, .ref (ad 4 0)), (1, .ref (ad 0 j)), (2, .ref (ad 6 0)), (3, .int (iI (8)))] := lv_cong (show lv_has ls 6 [(4, .int (iI (0))), (0, .ref (ad 4 0)), (1, .ref (ad 0 j)), (2, .ref (ad 6 0)), (3, .int (iI (8)))] from lv_sub hl [0, 3, 4, 2, 1] rfl) (lv_cs (congrArg (fun z => Value.int (iI z)) e_1) (lv_cs rfl (lv_cs rfl (lv_cs rfl (lv_cs rfl rfl)))))
  have hP : q_P g s0 n ad (c_ep C j 0) s.heap := by rw [c_ep_0]; exact hP
  refine w_X4_emptyPrintersOf X in1 in2 in4 c0 hC hR hz j hj (fun H locs ls hP hS hl => ?_) 9 0 _ _ ls (by omega) (by omega) hP hS hl
  exact q_vret X hr hlocks hP hS rfl (Nat.le_of_ble_eq_true rfl) (Nat.le_of_ble_eq_true rfl) dX4_emptyPrintersOf_60
end
