section QINT
variable {p : Program} {l : Launch} {e : Env} {R : Room} {s : State} {m : MethodId} {args : Array Value} {below : List Frame} {meth : Method} {c : Code} {H : Heap} {locs : List Loc} {cells slots : Nat} {Q : State → Prop}
variable {cc : ByteArray} {pc nL : Nat} {ls : Array Slot} {rest : List Value} {g : q_G} {s0 : Nat} {n : Nat → Nat} {ad : Nat → Nat → Nat} {C : q_S} {Ts : List Cond} {own : String}

theorem q_iadd (X : q_X p s m args c cc nL Ts own g s0) {a b : Int} (hdg : decode cc pc = .ok (.iadd, 1)) (kk : W p l e R s m args below meth c H locs cells slots Q (F0 m (pc + 1) ls (.int (iI (a + b)) :: rest))) : W p l e R s m args below meth c H locs cells slots Q (F0 m pc ls (.int (iI b) :: .int (iI a) :: rest)) := by
  refine lv_iadd X.1 X.2.1 hdg ?_
  rw [← Int32.ofInt_add]
  exact kk
theorem q_isub (X : q_X p s m args c cc nL Ts own g s0) {a b : Int} (hdg : decode cc pc = .ok (.isub, 1)) (kk : W p l e R s m args below meth c H locs cells slots Q (F0 m (pc + 1) ls (.int (iI (a - b)) :: rest))) : W p l e R s m args below meth c H locs cells slots Q (F0 m pc ls (.int (iI b) :: .int (iI a) :: rest)) := by
  refine lv_isub X.1 X.2.1 hdg ?_
  rw [← Int32.ofInt_sub]
  exact kk
theorem q_imul (X : q_X p s m args c cc nL Ts own g s0) {a b : Int} (hdg : decode cc pc = .ok (.imul, 1)) (kk : W p l e R s m args below meth c H locs cells slots Q (F0 m (pc + 1) ls (.int (iI (a * b)) :: rest))) : W p l e R s m args below meth c H locs cells slots Q (F0 m pc ls (.int (iI b) :: .int (iI a) :: rest)) := by
  refine lv_imul X.1 X.2.1 hdg ?_
  rw [← Int32.ofInt_mul]
  exact kk
theorem q_ladd (X : q_X p s m args c cc nL Ts own g s0) {a b : Int} (hdg : decode cc pc = .ok (.ladd, 1)) (kk : W p l e R s m args below meth c H locs cells slots Q (F0 m (pc + 1) ls (.long (jI (a + b)) :: rest))) : W p l e R s m args below meth c H locs cells slots Q (F0 m pc ls (.long (jI b) :: .long (jI a) :: rest)) := by
  refine lv_ladd X.1 X.2.1 hdg ?_
  rw [← Int64.ofInt_add]
  exact kk
theorem q_lsub (X : q_X p s m args c cc nL Ts own g s0) {a b : Int} (hdg : decode cc pc = .ok (.lsub, 1)) (kk : W p l e R s m args below meth c H locs cells slots Q (F0 m (pc + 1) ls (.long (jI (a - b)) :: rest))) : W p l e R s m args below meth c H locs cells slots Q (F0 m pc ls (.long (jI b) :: .long (jI a) :: rest)) := by
  refine lv_lsub X.1 X.2.1 hdg ?_
  rw [← Int64.ofInt_sub]
  exact kk
theorem q_idiv (X : q_X p s m args c cc nL Ts own g s0) {a b : Int} (ha : 0 ≤ a ∧ a ≤ 2147483647) (hb : 0 < b ∧ b ≤ 2147483647) (hdg : decode cc pc = .ok (.idiv, 1)) (kk : W p l e R s m args below meth c H locs cells slots Q (F0 m (pc + 1) ls (.int (iI (a / b)) :: rest))) : W p l e R s m args below meth c H locs cells slots Q (F0 m pc ls (.int (iI b) :: .int (iI a) :: rest)) := by
  refine lv_idiv X.1 X.2.1 hdg (fun h => ?_) ?_
  · have := (iI_eq (a := b) (b := 0) ⟨by omega, by omega⟩ ⟨by omega, by omega⟩).mp h
    omega
  · rw [iI_div ha.1 ha.2 hb.1 hb.2]
    exact kk
theorem q_irem (X : q_X p s m args c cc nL Ts own g s0) {a b : Int} (ha : 0 ≤ a ∧ a ≤ 2147483647) (hb : 0 < b ∧ b ≤ 2147483647) (hdg : decode cc pc = .ok (.irem, 1)) (kk : W p l e R s m args below meth c H locs cells slots Q (F0 m (pc + 1) ls (.int (iI (a % b)) :: rest))) : W p l e R s m args below meth c H locs cells slots Q (F0 m pc ls (.int (iI b) :: .int (iI a) :: rest)) := by
  refine lv_irem X.1 X.2.1 hdg (fun h => ?_) ?_
  · have := (iI_eq (a := b) (b := 0) ⟨by omega, by omega⟩ ⟨by omega, by omega⟩).mp h
    omega
  · rw [iI_rem ha.1 ha.2 hb.1 hb.2]
    exact kk
theorem q_i2l (X : q_X p s m args c cc nL Ts own g s0) {a : Int} (ha : R32 a) (hdg : decode cc pc = .ok (.i2l, 1)) (kk : W p l e R s m args below meth c H locs cells slots Q (F0 m (pc + 1) ls (.long (jI a) :: rest))) : W p l e R s m args below meth c H locs cells slots Q (F0 m pc ls (.int (iI a) :: rest)) := lv_i2l X.1 X.2.1 hdg (iI_l ha) kk
theorem q_ldc2 (X : q_X p s m args c cc nL Ts own g s0) {index : Nat} {v : Int64} {z : Int} (hv : v = jI z) (hc : Cond.constantLong own index v ∈ Ts) (hdg : decode cc pc = .ok (.ldc2_w index, 3)) (kk : W p l e R s m args below meth c H locs cells slots Q (F0 m (pc + 3) ls (.long (jI z) :: rest))) : W p l e R s m args below meth c H locs cells slots Q (F0 m pc ls rest) := by
  subst hv
  exact lv_ldc2 X.1 X.2.1 X.2.2.2.1 (X.2.2.2.2.1 _ hc) hdg kk
theorem q_ldc (X : q_X p s m args c cc nL Ts own g s0) {index : Nat} {v : Int32} {z : Int} (hv : v = iI z) (hc : Cond.constant own index v ∈ Ts) (hdg : decode cc pc = .ok (.ldc index, 2)) (kk : W p l e R s m args below meth c H locs cells slots Q (F0 m (pc + 2) ls (.int (iI z) :: rest))) : W p l e R s m args below meth c H locs cells slots Q (F0 m pc ls rest) := by
  subst hv
  exact lv_ldc X.1 X.2.1 X.2.2.2.1 (X.2.2.2.2.1 _ hc) hdg kk
theorem q_iinc (X : q_X p s m args c cc nL Ts own g s0) {i k : Nat} {d a : Int} {lv lv' : List (Nat × Value)} (hdg : decode cc pc = .ok (.iinc i d, 3)) (h : lv_has ls nL lv) (hk : lv[k]? = some (i, .int (iI a))) (hn : i < nL) (hl : (i, Value.int (iI (a + d))) :: lv.filter (fun q => !(q.1 == i) && !(q.1 + 1 == i && q.2.category == 2)) = lv')
    (kk : ∀ ls' : Array Slot, lv_has ls' nL lv' → W p l e R s m args below meth c H locs cells slots Q (F0 m (pc + 3) ls' rest)) : W p l e R s m args below meth c H locs cells slots Q (F0 m pc ls rest) := lv_iinc (v := iI (a + d)) X.1 X.2.1 hdg h hk (Int32.ofInt_add a d).symm hn hl kk
theorem q_mmin (X : q_X p s m args c cc nL Ts own g s0) (hml : c.maxLocals = ls.size) {index : Nat} {a b z : Int} (ha : R32 a) (hb : R32 b) (hz : z = if b < a then b else a) (h1 : Cond.methodLink own index Lib.Math.min.name ∈ Ts) (h2 : Cond.static Lib.Math.min.name ∈ Ts) (h3 : Cond.initialized "java/lang/Math" ∈ Ts) (h4 : Cond.code Lib.Math.min.name Lib.Math.min.code 2 (some .int) ∈ Ts)
    (hframes : 1 ≤ R.frames) (hlocals : (rest.map fun v => v.category).sum + 13 ≤ R.locals) (hc : cells ≤ R.cells) (hs : slots ≤ R.slots) (hdg : decode cc pc = .ok (.invokestatic index, 3))
    (kk : W p l e R s m args below meth c H locs cells slots Q (F0 m (pc + 3) ls (.int (iI z) :: rest))) : W p l e R s m args below meth c H locs cells slots Q (F0 m pc ls (.int (iI b) :: .int (iI a) :: rest)) := by
  have hts := X.2.2.2.2.1
  refine va_mmin X.1 X.2.1 hml X.2.2.2.1 (hts _ h1) (hts _ h2) (hts _ h3) (hts _ h4) hframes hlocals hc hs hdg ?_
  have e : (if iI b < iI a then iI b else iI a) = iI z := by
    rw [hz]
    by_cases h : b < a
    · rw [if_pos h, if_pos ((iI_lt hb ha).mpr h)]
    · rw [if_neg h, if_neg (fun q => h ((iI_lt hb ha).mp q))]
  rw [e]
  exact kk
theorem q_icmp_eq (X : q_X p s m args c cc nL Ts own g s0) {a b : Int} {off : Int} {tgt : Nat} (ha : R32 a) (hb : R32 b) (hdg : decode cc pc = .ok (.if_icmp .eq off, 3)) (ht : (pc : Int) + off = (tgt : Int)) (kt : a = b → W p l e R s m args below meth c H locs cells slots Q (F0 m tgt ls rest)) (kf : ¬ a = b → W p l e R s m args below meth c H locs cells slots Q (F0 m (pc + 3) ls rest)) : W p l e R s m args below meth c H locs cells slots Q (F0 m pc ls (.int (iI b) :: .int (iI a) :: rest)) := lv_icmp_eq X.1 X.2.1 hdg ht (fun h => kt ((iI_eq ha hb).mp h)) (fun h => kf (fun q => h ((iI_eq ha hb).mpr q)))
theorem q_if_eq (X : q_X p s m args c cc nL Ts own g s0) {a : Int} {off : Int} {tgt : Nat} (ha : R32 a) (hdg : decode cc pc = .ok (.ifCond .eq off, 3)) (ht : (pc : Int) + off = (tgt : Int)) (kt : a = 0 → W p l e R s m args below meth c H locs cells slots Q (F0 m tgt ls rest)) (kf : ¬ a = 0 → W p l e R s m args below meth c H locs cells slots Q (F0 m (pc + 3) ls rest)) : W p l e R s m args below meth c H locs cells slots Q (F0 m pc ls (.int (iI a) :: rest)) := by
  have hb : R32 0 := by decide
  exact lv_if_eq X.1 X.2.1 hdg ht (fun h => kt ((iI_eq ha hb).mp h)) (fun h => kf (fun q => h ((iI_eq ha hb).mpr q)))
theorem q_lcmp_eq (X : q_X p s m args c cc nL Ts own g s0) {a b : Int} {off : Int} {tgt : Nat} (ha : R64 a) (hb : R64 b) (hd1 : decode cc pc = .ok (.lcmp, 1)) (hdg : decode cc (pc + 1) = .ok (.ifCond .eq off, 3)) (ht : ((pc + 1 : Nat) : Int) + off = (tgt : Int)) (kt : a = b → W p l e R s m args below meth c H locs cells slots Q (F0 m tgt ls rest)) (kf : ¬ a = b → W p l e R s m args below meth c H locs cells slots Q (F0 m (pc + 1 + 3) ls rest)) : W p l e R s m args below meth c H locs cells slots Q (F0 m pc ls (.long (jI b) :: .long (jI a) :: rest)) := by
  refine W.lcmp X.1 X.2.1 hd1 ?_
  have e : lg_cmp (jI a) (jI b) = iI (if b < a then 1 else if a = b then 0 else -1) := by
    unfold lg_cmp
    simp only [gt_iff_lt, jI_lt hb ha, jI_eq ha hb]
    split
    · rfl
    · split <;> rfl
  rw [e]
  have hr : R32 (if b < a then (1 : Int) else if a = b then 0 else -1) := by
    by_cases h1 : b < a
    · rw [if_pos h1]; decide
    · rw [if_neg h1]
      by_cases h2 : a = b
      · rw [if_pos h2]; decide
      · rw [if_neg h2]; decide
  refine q_if_eq X hr hdg ht (fun h => kt ?_) (fun h => kf ?_)
  · split at h
    · omega
    · split at h <;> omega
  · split at h
    · omega
    · split at h <;> omega
theorem q_icmp_ne (X : q_X p s m args c cc nL Ts own g s0) {a b : Int} {off : Int} {tgt : Nat} (ha : R32 a) (hb : R32 b) (hdg : decode cc pc = .ok (.if_icmp .ne off, 3)) (ht : (pc : Int) + off = (tgt : Int)) (kt : ¬ a = b → W p l e R s m args below meth c H locs cells slots Q (F0 m tgt ls rest)) (kf : a = b → W p l e R s m args below meth c H locs cells slots Q (F0 m (pc + 3) ls rest)) : W p l e R s m args below meth c H locs cells slots Q (F0 m pc ls (.int (iI b) :: .int (iI a) :: rest)) := lv_icmp_ne X.1 X.2.1 hdg ht (fun h => kt (fun q => h ((iI_eq ha hb).mpr q))) (fun h => kf ((iI_eq ha hb).mp h))
theorem q_if_ne (X : q_X p s m args c cc nL Ts own g s0) {a : Int} {off : Int} {tgt : Nat} (ha : R32 a) (hdg : decode cc pc = .ok (.ifCond .ne off, 3)) (ht : (pc : Int) + off = (tgt : Int)) (kt : ¬ a = 0 → W p l e R s m args below meth c H locs cells slots Q (F0 m tgt ls rest)) (kf : a = 0 → W p l e R s m args below meth c H locs cells slots Q (F0 m (pc + 3) ls rest)) : W p l e R s m args below meth c H locs cells slots Q (F0 m pc ls (.int (iI a) :: rest)) := by
  have hb : R32 0 := by decide
  exact lv_if_ne X.1 X.2.1 hdg ht (fun h => kt (fun q => h ((iI_eq ha hb).mpr q))) (fun h => kf ((iI_eq ha hb).mp h))
theorem q_lcmp_ne (X : q_X p s m args c cc nL Ts own g s0) {a b : Int} {off : Int} {tgt : Nat} (ha : R64 a) (hb : R64 b) (hd1 : decode cc pc = .ok (.lcmp, 1)) (hdg : decode cc (pc + 1) = .ok (.ifCond .ne off, 3)) (ht : ((pc + 1 : Nat) : Int) + off = (tgt : Int)) (kt : ¬ a = b → W p l e R s m args below meth c H locs cells slots Q (F0 m tgt ls rest)) (kf : a = b → W p l e R s m args below meth c H locs cells slots Q (F0 m (pc + 1 + 3) ls rest)) : W p l e R s m args below meth c H locs cells slots Q (F0 m pc ls (.long (jI b) :: .long (jI a) :: rest)) := by
  refine W.lcmp X.1 X.2.1 hd1 ?_
  have e : lg_cmp (jI a) (jI b) = iI (if b < a then 1 else if a = b then 0 else -1) := by
    unfold lg_cmp
    simp only [gt_iff_lt, jI_lt hb ha, jI_eq ha hb]
    split
    · rfl
    · split <;> rfl
  rw [e]
  have hr : R32 (if b < a then (1 : Int) else if a = b then 0 else -1) := by
    by_cases h1 : b < a
    · rw [if_pos h1]; decide
    · rw [if_neg h1]
      by_cases h2 : a = b
      · rw [if_pos h2]; decide
      · rw [if_neg h2]; decide
  refine q_if_ne X hr hdg ht (fun h => kt ?_) (fun h => kf ?_)
  · split at h
    · omega
    · split at h <;> omega
  · split at h
    · omega
    · split at h <;> omega
theorem q_icmp_lt (X : q_X p s m args c cc nL Ts own g s0) {a b : Int} {off : Int} {tgt : Nat} (ha : R32 a) (hb : R32 b) (hdg : decode cc pc = .ok (.if_icmp .lt off, 3)) (ht : (pc : Int) + off = (tgt : Int)) (kt : a < b → W p l e R s m args below meth c H locs cells slots Q (F0 m tgt ls rest)) (kf : b ≤ a → W p l e R s m args below meth c H locs cells slots Q (F0 m (pc + 3) ls rest)) : W p l e R s m args below meth c H locs cells slots Q (F0 m pc ls (.int (iI b) :: .int (iI a) :: rest)) := lv_icmp_lt X.1 X.2.1 hdg ht (fun h => kt ((iI_lt ha hb).mp h)) (fun h => kf (Int.not_lt.mp fun q => h ((iI_lt ha hb).mpr q)))
theorem q_if_lt (X : q_X p s m args c cc nL Ts own g s0) {a : Int} {off : Int} {tgt : Nat} (ha : R32 a) (hdg : decode cc pc = .ok (.ifCond .lt off, 3)) (ht : (pc : Int) + off = (tgt : Int)) (kt : a < 0 → W p l e R s m args below meth c H locs cells slots Q (F0 m tgt ls rest)) (kf : 0 ≤ a → W p l e R s m args below meth c H locs cells slots Q (F0 m (pc + 3) ls rest)) : W p l e R s m args below meth c H locs cells slots Q (F0 m pc ls (.int (iI a) :: rest)) := by
  have hb : R32 0 := by decide
  exact lv_if_lt X.1 X.2.1 hdg ht (fun h => kt ((iI_lt ha hb).mp h)) (fun h => kf (Int.not_lt.mp fun q => h ((iI_lt ha hb).mpr q)))
theorem q_lcmp_lt (X : q_X p s m args c cc nL Ts own g s0) {a b : Int} {off : Int} {tgt : Nat} (ha : R64 a) (hb : R64 b) (hd1 : decode cc pc = .ok (.lcmp, 1)) (hdg : decode cc (pc + 1) = .ok (.ifCond .lt off, 3)) (ht : ((pc + 1 : Nat) : Int) + off = (tgt : Int)) (kt : a < b → W p l e R s m args below meth c H locs cells slots Q (F0 m tgt ls rest)) (kf : b ≤ a → W p l e R s m args below meth c H locs cells slots Q (F0 m (pc + 1 + 3) ls rest)) : W p l e R s m args below meth c H locs cells slots Q (F0 m pc ls (.long (jI b) :: .long (jI a) :: rest)) := by
  refine W.lcmp X.1 X.2.1 hd1 ?_
  have e : lg_cmp (jI a) (jI b) = iI (if b < a then 1 else if a = b then 0 else -1) := by
    unfold lg_cmp
    simp only [gt_iff_lt, jI_lt hb ha, jI_eq ha hb]
    split
    · rfl
    · split <;> rfl
  rw [e]
  have hr : R32 (if b < a then (1 : Int) else if a = b then 0 else -1) := by
    by_cases h1 : b < a
    · rw [if_pos h1]; decide
    · rw [if_neg h1]
      by_cases h2 : a = b
      · rw [if_pos h2]; decide
      · rw [if_neg h2]; decide
  refine q_if_lt X hr hdg ht (fun h => kt ?_) (fun h => kf ?_)
  · split at h
    · omega
    · split at h <;> omega
  · split at h
    · omega
    · split at h <;> omega
theorem q_icmp_ge (X : q_X p s m args c cc nL Ts own g s0) {a b : Int} {off : Int} {tgt : Nat} (ha : R32 a) (hb : R32 b) (hdg : decode cc pc = .ok (.if_icmp .ge off, 3)) (ht : (pc : Int) + off = (tgt : Int)) (kt : b ≤ a → W p l e R s m args below meth c H locs cells slots Q (F0 m tgt ls rest)) (kf : a < b → W p l e R s m args below meth c H locs cells slots Q (F0 m (pc + 3) ls rest)) : W p l e R s m args below meth c H locs cells slots Q (F0 m pc ls (.int (iI b) :: .int (iI a) :: rest)) := lv_icmp_ge X.1 X.2.1 hdg ht (fun h => kt ((iI_le hb ha).mp h)) (fun h => kf (Int.not_le.mp fun q => h ((iI_le hb ha).mpr q)))
theorem q_if_ge (X : q_X p s m args c cc nL Ts own g s0) {a : Int} {off : Int} {tgt : Nat} (ha : R32 a) (hdg : decode cc pc = .ok (.ifCond .ge off, 3)) (ht : (pc : Int) + off = (tgt : Int)) (kt : 0 ≤ a → W p l e R s m args below meth c H locs cells slots Q (F0 m tgt ls rest)) (kf : a < 0 → W p l e R s m args below meth c H locs cells slots Q (F0 m (pc + 3) ls rest)) : W p l e R s m args below meth c H locs cells slots Q (F0 m pc ls (.int (iI a) :: rest)) := by
  have hb : R32 0 := by decide
  exact lv_if_ge X.1 X.2.1 hdg ht (fun h => kt ((iI_le hb ha).mp h)) (fun h => kf (Int.not_le.mp fun q => h ((iI_le hb ha).mpr q)))
theorem q_lcmp_ge (X : q_X p s m args c cc nL Ts own g s0) {a b : Int} {off : Int} {tgt : Nat} (ha : R64 a) (hb : R64 b) (hd1 : decode cc pc = .ok (.lcmp, 1)) (hdg : decode cc (pc + 1) = .ok (.ifCond .ge off, 3)) (ht : ((pc + 1 : Nat) : Int) + off = (tgt : Int)) (kt : b ≤ a → W p l e R s m args below meth c H locs cells slots Q (F0 m tgt ls rest)) (kf : a < b → W p l e R s m args below meth c H locs cells slots Q (F0 m (pc + 1 + 3) ls rest)) : W p l e R s m args below meth c H locs cells slots Q (F0 m pc ls (.long (jI b) :: .long (jI a) :: rest)) := by
  refine W.lcmp X.1 X.2.1 hd1 ?_
  have e : lg_cmp (jI a) (jI b) = iI (if b < a then 1 else if a = b then 0 else -1) := by
    unfold lg_cmp
    simp only [gt_iff_lt, jI_lt hb ha, jI_eq ha hb]
    split
    · rfl
    · split <;> rfl
  rw [e]
  have hr : R32 (if b < a then (1 : Int) else if a = b then 0 else -1) := by
    by_cases h1 : b < a
    · rw [if_pos h1]; decide
    · rw [if_neg h1]
      by_cases h2 : a = b
      · rw [if_pos h2]; decide
      · rw [if_neg h2]; decide
  refine q_if_ge X hr hdg ht (fun h => kt ?_) (fun h => kf ?_)
  · split at h
    · omega
    · split at h <;> omega
  · split at h
    · omega
    · split at h <;> omega
theorem q_icmp_gt (X : q_X p s m args c cc nL Ts own g s0) {a b : Int} {off : Int} {tgt : Nat} (ha : R32 a) (hb : R32 b) (hdg : decode cc pc = .ok (.if_icmp .gt off, 3)) (ht : (pc : Int) + off = (tgt : Int)) (kt : b < a → W p l e R s m args below meth c H locs cells slots Q (F0 m tgt ls rest)) (kf : a ≤ b → W p l e R s m args below meth c H locs cells slots Q (F0 m (pc + 3) ls rest)) : W p l e R s m args below meth c H locs cells slots Q (F0 m pc ls (.int (iI b) :: .int (iI a) :: rest)) := lv_icmp_gt X.1 X.2.1 hdg ht (fun h => kt ((iI_lt hb ha).mp h)) (fun h => kf (Int.not_lt.mp fun q => h ((iI_lt hb ha).mpr q)))
theorem q_if_gt (X : q_X p s m args c cc nL Ts own g s0) {a : Int} {off : Int} {tgt : Nat} (ha : R32 a) (hdg : decode cc pc = .ok (.ifCond .gt off, 3)) (ht : (pc : Int) + off = (tgt : Int)) (kt : 0 < a → W p l e R s m args below meth c H locs cells slots Q (F0 m tgt ls rest)) (kf : a ≤ 0 → W p l e R s m args below meth c H locs cells slots Q (F0 m (pc + 3) ls rest)) : W p l e R s m args below meth c H locs cells slots Q (F0 m pc ls (.int (iI a) :: rest)) := by
  have hb : R32 0 := by decide
  exact lv_if_gt X.1 X.2.1 hdg ht (fun h => kt ((iI_lt hb ha).mp h)) (fun h => kf (Int.not_lt.mp fun q => h ((iI_lt hb ha).mpr q)))
theorem q_lcmp_gt (X : q_X p s m args c cc nL Ts own g s0) {a b : Int} {off : Int} {tgt : Nat} (ha : R64 a) (hb : R64 b) (hd1 : decode cc pc = .ok (.lcmp, 1)) (hdg : decode cc (pc + 1) = .ok (.ifCond .gt off, 3)) (ht : ((pc + 1 : Nat) : Int) + off = (tgt : Int)) (kt : b < a → W p l e R s m args below meth c H locs cells slots Q (F0 m tgt ls rest)) (kf : a ≤ b → W p l e R s m args below meth c H locs cells slots Q (F0 m (pc + 1 + 3) ls rest)) : W p l e R s m args below meth c H locs cells slots Q (F0 m pc ls (.long (jI b) :: .long (jI a) :: rest)) := by
  refine W.lcmp X.1 X.2.1 hd1 ?_
  have e : lg_cmp (jI a) (jI b) = iI (if b < a then 1 else if a = b then 0 else -1) := by
    unfold lg_cmp
    simp only [gt_iff_lt, jI_lt hb ha, jI_eq ha hb]
    split
    · rfl
    · split <;> rfl
  rw [e]
  have hr : R32 (if b < a then (1 : Int) else if a = b then 0 else -1) := by
    by_cases h1 : b < a
    · rw [if_pos h1]; decide
    · rw [if_neg h1]
      by_cases h2 : a = b
      · rw [if_pos h2]; decide
      · rw [if_neg h2]; decide
  refine q_if_gt X hr hdg ht (fun h => kt ?_) (fun h => kf ?_)
  · split at h
    · omega
    · split at h <;> omega
  · split at h
    · omega
    · split at h <;> omega
theorem q_icmp_le (X : q_X p s m args c cc nL Ts own g s0) {a b : Int} {off : Int} {tgt : Nat} (ha : R32 a) (hb : R32 b) (hdg : decode cc pc = .ok (.if_icmp .le off, 3)) (ht : (pc : Int) + off = (tgt : Int)) (kt : a ≤ b → W p l e R s m args below meth c H locs cells slots Q (F0 m tgt ls rest)) (kf : b < a → W p l e R s m args below meth c H locs cells slots Q (F0 m (pc + 3) ls rest)) : W p l e R s m args below meth c H locs cells slots Q (F0 m pc ls (.int (iI b) :: .int (iI a) :: rest)) := lv_icmp_le X.1 X.2.1 hdg ht (fun h => kt ((iI_le ha hb).mp h)) (fun h => kf (Int.not_le.mp fun q => h ((iI_le ha hb).mpr q)))
theorem q_if_le (X : q_X p s m args c cc nL Ts own g s0) {a : Int} {off : Int} {tgt : Nat} (ha : R32 a) (hdg : decode cc pc = .ok (.ifCond .le off, 3)) (ht : (pc : Int) + off = (tgt : Int)) (kt : a ≤ 0 → W p l e R s m args below meth c H locs cells slots Q (F0 m tgt ls rest)) (kf : 0 < a → W p l e R s m args below meth c H locs cells slots Q (F0 m (pc + 3) ls rest)) : W p l e R s m args below meth c H locs cells slots Q (F0 m pc ls (.int (iI a) :: rest)) := by
  have hb : R32 0 := by decide
  exact lv_if_le X.1 X.2.1 hdg ht (fun h => kt ((iI_le ha hb).mp h)) (fun h => kf (Int.not_le.mp fun q => h ((iI_le ha hb).mpr q)))
theorem q_lcmp_le (X : q_X p s m args c cc nL Ts own g s0) {a b : Int} {off : Int} {tgt : Nat} (ha : R64 a) (hb : R64 b) (hd1 : decode cc pc = .ok (.lcmp, 1)) (hdg : decode cc (pc + 1) = .ok (.ifCond .le off, 3)) (ht : ((pc + 1 : Nat) : Int) + off = (tgt : Int)) (kt : a ≤ b → W p l e R s m args below meth c H locs cells slots Q (F0 m tgt ls rest)) (kf : b < a → W p l e R s m args below meth c H locs cells slots Q (F0 m (pc + 1 + 3) ls rest)) : W p l e R s m args below meth c H locs cells slots Q (F0 m pc ls (.long (jI b) :: .long (jI a) :: rest)) := by
  refine W.lcmp X.1 X.2.1 hd1 ?_
  have e : lg_cmp (jI a) (jI b) = iI (if b < a then 1 else if a = b then 0 else -1) := by
    unfold lg_cmp
    simp only [gt_iff_lt, jI_lt hb ha, jI_eq ha hb]
    split
    · rfl
    · split <;> rfl
  rw [e]
  have hr : R32 (if b < a then (1 : Int) else if a = b then 0 else -1) := by
    by_cases h1 : b < a
    · rw [if_pos h1]; decide
    · rw [if_neg h1]
      by_cases h2 : a = b
      · rw [if_pos h2]; decide
      · rw [if_neg h2]; decide
  refine q_if_le X hr hdg ht (fun h => kt ?_) (fun h => kf ?_)
  · split at h
    · omega
    · split at h <;> omega
  · split at h
    · omega
    · split at h <;> omega
theorem q_ildv (X : q_X p s m args c cc nL Ts own g s0) (hP : q_P g s0 n ad C H) (kd i : Nat) {z v : Int} {len : Nat} (hkd : ¬ kd < 6) (ht : (q_arr kd).1 = 0) (hc : (q_arr kd).2.2 = 0) (hi : i < n kd) (hlen : (q_arr kd).2.1 = len) (h0 : 0 ≤ z) (h1 : z < (len : Int)) (hv : C kd z.toNat i = v) (hdg : decode cc pc = .ok (.iaload, 1)) (kk : W p l e R s m args below meth c H locs cells slots Q (F0 m (pc + 1) ls (.int (iI v) :: rest))) : W p l e R s m args below meth c H locs cells slots Q (F0 m pc ls (.int (iI z) :: .ref (ad kd i) :: rest)) := by
  subst hv; subst hlen
  exact q_ild X hP kd i hkd ht hc hi h0 h1 hdg kk
theorem q_zldv (X : q_X p s m args c cc nL Ts own g s0) (hP : q_P g s0 n ad C H) (kd i : Nat) {z v : Int} {len : Nat} (hkd : ¬ kd < 6) (ht : (q_arr kd).1 = 2) (hc : (q_arr kd).2.2 = 2) (hi : i < n kd) (hlen : (q_arr kd).2.1 = len) (h0 : 0 ≤ z) (h1 : z < (len : Int)) (hv : C kd z.toNat i = v) (hdg : decode cc pc = .ok (.baload, 1)) (kk : W p l e R s m args below meth c H locs cells slots Q (F0 m (pc + 1) ls (.int (iI v) :: rest))) : W p l e R s m args below meth c H locs cells slots Q (F0 m pc ls (.int (iI z) :: .ref (ad kd i) :: rest)) := by
  subst hv; subst hlen
  exact q_zld X hP kd i hkd ht hc hi h0 h1 hdg kk
theorem q_lldv (X : q_X p s m args c cc nL Ts own g s0) (hP : q_P g s0 n ad C H) (kd i : Nat) {z v : Int} {len : Nat} (hkd : ¬ kd < 6) (ht : (q_arr kd).1 = 1) (hc : (q_arr kd).2.2 = 1) (hi : i < n kd) (hlen : (q_arr kd).2.1 = len) (h0 : 0 ≤ z) (h1 : z < (len : Int)) (hv : C kd z.toNat i = v) (hdg : decode cc pc = .ok (.laload, 1)) (kk : W p l e R s m args below meth c H locs cells slots Q (F0 m (pc + 1) ls (.long (jI v) :: rest))) : W p l e R s m args below meth c H locs cells slots Q (F0 m pc ls (.int (iI z) :: .ref (ad kd i) :: rest)) := by
  subst hv; subst hlen
  exact q_lld X hP kd i hkd ht hc hi h0 h1 hdg kk
theorem q_istv (X : q_X p s m args c cc nL Ts own g s0) (hP : q_P g s0 n ad C H) (hS : va_S (q_A s0) s.heap H locs) (kd i : Nat) {z x : Int} {len : Nat} (hkd : ¬ kd < 6) (ht : (q_arr kd).1 = 0) (hc : (q_arr kd).2.2 = 0) (hi : i < n kd) (hlen : (q_arr kd).2.1 = len) (h0 : 0 ≤ z) (h1 : z < (len : Int)) (hx : R32 x) (hdg : decode cc pc = .ok (.iastore, 1)) (kk : ∀ (H1 : Heap) (locs1 : List Loc), q_P g s0 n ad (q_up C kd z.toNat i x) H1 → va_S (q_A s0) s.heap H1 locs1 → W p l e R s m args below meth c H1 locs1 cells slots Q (F0 m (pc + 1) ls rest)) : W p l e R s m args below meth c H locs cells slots Q (F0 m pc ls (.int (iI x) :: .int (iI z) :: .ref (ad kd i) :: rest)) := by
  subst hlen
  exact q_ist X hP hS kd i hkd ht hc hi h0 h1 hx hdg kk
theorem q_zstv (X : q_X p s m args c cc nL Ts own g s0) (hP : q_P g s0 n ad C H) (hS : va_S (q_A s0) s.heap H locs) (kd i : Nat) {z x : Int} {len : Nat} (hkd : ¬ kd < 6) (ht : (q_arr kd).1 = 2) (hc : (q_arr kd).2.2 = 2) (hi : i < n kd) (hlen : (q_arr kd).2.1 = len) (h0 : 0 ≤ z) (h1 : z < (len : Int)) (hx : x = 0 ∨ x = 1) (hdg : decode cc pc = .ok (.bastore, 1)) (kk : ∀ (H1 : Heap) (locs1 : List Loc), q_P g s0 n ad (q_up C kd z.toNat i x) H1 → va_S (q_A s0) s.heap H1 locs1 → W p l e R s m args below meth c H1 locs1 cells slots Q (F0 m (pc + 1) ls rest)) : W p l e R s m args below meth c H locs cells slots Q (F0 m pc ls (.int (iI x) :: .int (iI z) :: .ref (ad kd i) :: rest)) := by
  subst hlen
  exact q_zst X hP hS kd i hkd ht hc hi h0 h1 hx hdg kk
theorem q_lstv (X : q_X p s m args c cc nL Ts own g s0) (hP : q_P g s0 n ad C H) (hS : va_S (q_A s0) s.heap H locs) (kd i : Nat) {z x : Int} {len : Nat} (hkd : ¬ kd < 6) (ht : (q_arr kd).1 = 1) (hc : (q_arr kd).2.2 = 1) (hi : i < n kd) (hlen : (q_arr kd).2.1 = len) (h0 : 0 ≤ z) (h1 : z < (len : Int)) (hx : R64 x) (hdg : decode cc pc = .ok (.lastore, 1)) (kk : ∀ (H1 : Heap) (locs1 : List Loc), q_P g s0 n ad (q_up C kd z.toNat i x) H1 → va_S (q_A s0) s.heap H1 locs1 → W p l e R s m args below meth c H1 locs1 cells slots Q (F0 m (pc + 1) ls rest)) : W p l e R s m args below meth c H locs cells slots Q (F0 m pc ls (.long (jI x) :: .int (iI z) :: .ref (ad kd i) :: rest)) := by
  subst hlen
  exact q_lst X hP hS kd i hkd ht hc hi h0 h1 hx hdg kk
theorem q_rldv (X : q_X p s m args c cc nL Ts own g s0) (hP : q_P g s0 n ad C H) (kd i k t0 : Nat) {z v : Int} {len : Nat} {Cn : String} (hkd : ¬ kd < 6) (ht : (q_arr kd).1 = k + 3) (hc : (q_arr kd).2.2 = t0) (hty : (q_tys g)[t0]? = some (g.2.2 t0, .object Cn)) (hi : i < n kd) (hlen : (q_arr kd).2.1 = len) (h0 : 0 ≤ z) (h1 : z < (len : Int)) (hv : C kd z.toNat i = v) (hdg : decode cc pc = .ok (.aaload, 1)) (kk : W p l e R s m args below meth c H locs cells slots Q (F0 m (pc + 1) ls (va_rf (q_rf ad k v) :: rest))) : W p l e R s m args below meth c H locs cells slots Q (F0 m pc ls (.int (iI z) :: .ref (ad kd i) :: rest)) := by
  subst hv; subst hlen
  exact q_rld (cA := 0) X hP kd i k t0 hkd ht hc hty hi h0 h1 hdg kk
theorem q_b32 {v : Int} (h : v = 0 ∨ v = 1) : R32 v := by omega
theorem q_rf0 (ad : Nat → Nat → Nat) (k : Nat) {v : Int} (h : v = 0) : va_rf (q_rf ad k v) = .null := by rw [h]; rfl
theorem q_rf1 (ad : Nat → Nat → Nat) (k : Nat) {v : Int} (h : ¬ v = 0) : va_rf (q_rf ad k v) = .ref (ad k (v - 1).toNat) := by unfold q_rf; rw [if_neg h]; rfl
theorem q_rf2 (ad : Nat → Nat → Nat) (k i : Nat) : va_rf (q_rf ad k ((i : Int) + 1)) = .ref (ad k i) := by rw [q_rf1 ad k (by omega)]; congr 2; omega
theorem q_join {lv : List (Nat × Value)} {pcj : Nat} {st : List Value} {f : JFrame} (hj : ∀ (H1 : Heap) (locs1 : List Loc) (ls : Array Slot), q_P g s0 n ad C H1 → va_S (q_A s0) s.heap H1 locs1 → lv_has ls nL lv → W p l e R s m args below meth c H1 locs1 cells slots Q (F0 m pcj ls st)) (kk : (∀ (H1 : Heap) (locs1 : List Loc) (ls : Array Slot), q_P g s0 n ad C H1 → va_S (q_A s0) s.heap H1 locs1 → lv_has ls nL lv → W p l e R s m args below meth c H1 locs1 cells slots Q (F0 m pcj ls st)) → W p l e R s m args below meth c H locs cells slots Q f) : W p l e R s m args below meth c H locs cells slots Q f := kk hj
theorem q_sel {pcj : Nat} {z0 : Int} (hj : W p l e R s m args below meth c H locs cells slots Q (F0 m pcj ls (.int (iI z0) :: rest))) {f : JFrame} (kk : (∀ z : Int, z = z0 → W p l e R s m args below meth c H locs cells slots Q (F0 m pcj ls (.int (iI z) :: rest))) → W p l e R s m args below meth c H locs cells slots Q f) : W p l e R s m args below meth c H locs cells slots Q f := kk (fun z hz => by rw [hz]; exact hj)
theorem lv_cong {ls : Array Slot} {nL : Nat} {l1 l2 : List (Nat × Value)} (h : lv_has ls nL l1) (e : l1 = l2) : lv_has ls nL l2 := e ▸ h
theorem lv_cs {k : Nat} {a b : Value} {l1 l2 : List (Nat × Value)} (h : a = b) (t : l1 = l2) : (k, a) :: l1 = (k, b) :: l2 := by rw [h, t]
theorem m_mul {a b : Int} (h1 : 0 ≤ a ∧ a ≤ 100) (h2 : 0 ≤ b ∧ b ≤ 500) : 0 ≤ a * b ∧ a * b ≤ 50000 := by
  refine ⟨Int.mul_nonneg h1.1 h2.1, ?_⟩
  have := Int.mul_le_mul h1.2 h2.2 h2.1 (by omega)
  omega
theorem m_mul32 {a b : Int} (h1 : 0 ≤ a ∧ a ≤ 100) (h2 : 0 ≤ b ∧ b ≤ 500) : R32 (a * b) := by
  have := m_mul h1 h2
  omega
theorem q_3264 {v : Int} (h : R32 v) : R64 v := ⟨by omega, by omega⟩
theorem q_v1 (ad : Nat → Nat → Nat) (k : Nat) {v : Int} (h : v = 1) : q_val ad (k + 3) v = .ref (ad k 0) := by subst h; rfl
theorem q_v2 (ad : Nat → Nat → Nat) (k i : Nat) : q_val ad (k + 3) ((i : Int) + 1) = .ref (ad k i) := q_rf2 ad k i
theorem q_vn (ad : Nat → Nat → Nat) (k i : Nat) {v : Int} (h : v = (i : Int) + 1) : q_val ad (k + 3) v = .ref (ad k i) := by subst h; exact q_rf2 ad k i
theorem q_t2 {n : Nat → Nat} {k i : Nat} (h : i < n k) : q_tok n (k + 3) ((i : Int) + 1) := ⟨by omega, by omega⟩
theorem q_t0 (n : Nat → Nat) (k : Nat) : q_tok n (k + 3) 0 := ⟨by omega, by omega⟩
theorem q_rfl {n : Nat → Nat} {k : Nat} {v : Int} (h : q_tok n (k + 3) v) (h0 : ¬ v = 0) : (v - 1).toNat < n k := by
  have h1 : 0 ≤ v ∧ v ≤ (n k : Int) := h
  omega
end QINT
