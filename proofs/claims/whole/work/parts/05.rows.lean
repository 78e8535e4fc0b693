/-! ROWS over the state q_P: reading and writing slots and elements, new objects, returns, starts of calls -/
section QROWS
variable {p : Program} {l : Launch} {e : Env} {R : Room} {s : State} {m : MethodId} {args : Array Value} {below : List Frame} {meth : Method} {c : Code} {H : Heap} {locs : List Loc} {cells slots : Nat} {Q : State → Prop}
variable {cc : ByteArray} {pc nL : Nat} {ls : Array Slot} {rest : List Value} {g : q_G} {s0 : Nat} {n : Nat → Nat} {ad : Nat → Nat → Nat} {C : q_S} {Ts : List Cond} {own : String}
def q_X (p : Program) (s : State) (m : MethodId) (args : Array Value) (c : Code) (cc : ByteArray) (nL : Nat) (Ts : List Cond) (own : String) (g : q_G) (s0 : Nat) : Prop :=
  p.tables.exec = Jvm.exec ∧ c.code = cc ∧ c.maxLocals = nL ∧ s.vm.findClass own = some m.cls ∧ (∀ w ∈ Ts, w.before args s = true) ∧ q_K g s ∧ q_Z s0 s s.heap ∧ s0 ≤ s.heap.size
theorem q_X.fix (X : q_X p s m args c cc nL Ts own g s0) : CallFix p m c cc nL s args Ts own := ⟨X.1, X.2.1, X.2.2.1, X.2.2.2.1, X.2.2.2.2.1⟩
theorem q_get (X : q_X p s m args c cc nL Ts own g s0) {Cn : String} {T : u_T} {N index : Nat} (hP : q_P g s0 n ad C H) (kd k i : Nat) (hc : vwCl[kd]? = some (Cn, T, N)) (hN : q_nf kd = N) (hkd : kd < 6) (hin : ∀ w ∈ u_ws Cn T N, w ∈ Ts) (hi : i < n kd) (hk : k < N)
    (hlink : Cond.fieldLink own index (T k).1 (T k).2.1 (T k).2.2.1 ∈ Ts) {v : Value} (hv : q_val ad (q_ty kd k) (C kd k i) = v) (hdg : decode cc pc = .ok (.getfield index, 3))
    (kk : W p l e R s m args below meth c H locs cells slots Q (F0 m (pc + 3) ls (v :: rest))) : W p l e R s m args below meth c H locs cells slots Q (F0 m pc ls (.ref (ad kd i) :: rest)) := by
  obtain ⟨hx, hb, -, hown, hts, hK, -⟩ := X
  have he := (hP.1 kd i hi).2
  rw [q_entO g ad C i hkd] at he
  refine va_get (D := (g.1, g.2.1)) (ci := kd) (v := v) (C := Cn) (T := T) (N := N) hx hb hts hin hown hK (q_one he) 0 rfl hc k hk (hts _ hlink) (fun _ h => h) ?_ hdg kk
  rw [List.getElem?_map, List.getElem?_range (by rw [hN]; exact hk)]
  exact congrArg some hv
theorem q_put (X : q_X p s m args c cc nL Ts own g s0) {Cn : String} {T : u_T} {N index : Nat} (hP : q_P g s0 n ad C H) (hS : va_S (q_A s0) s.heap H locs) (kd k i : Nat) (x : Int) (hc : vwCl[kd]? = some (Cn, T, N)) (hN : q_nf kd = N) (hkd : kd < 6) (hin : ∀ w ∈ u_ws Cn T N, w ∈ Ts)
    (ty0 : Nat → FieldType) (hty : ∀ k, k < N → parseFieldDescriptor (T k).2.2.1 = some (ty0 k)) (hnm : ∀ a, a < N → ∀ b, b < N → a ≠ b → (T a).2.1 ≠ (T b).2.1) (hi : i < n kd) (hk : k < N)
    (hlink : Cond.fieldLink own index (T k).1 (T k).2.1 (T k).2.2.1 ∈ Ts) (hfin : (T k).2.2.2 = false) {v : Value} (hv : q_val ad (q_ty kd k) x = v) (hn : narrow (ty0 k) v = v) (hfit : fits (ty0 k) v = true) (htok : q_tok n (q_ty kd k) x) (hdg : decode cc pc = .ok (.putfield index, 3))
    (kk : ∀ (H1 : Heap) (locs1 : List Loc), q_P g s0 n ad (q_up C kd k i x) H1 → va_S (q_A s0) s.heap H1 locs1 → W p l e R s m args below meth c H1 locs1 cells slots Q (F0 m (pc + 3) ls rest)) : W p l e R s m args below meth c H locs cells slots Q (F0 m pc ls (v :: .ref (ad kd i) :: rest)) := by
  obtain ⟨hx, hb, -, hown, hts, hK, -⟩ := X
  have hap := va_apart (own := own) hts hin ty0 hty hnm hK hc
  have he := (hP.1 kd i hi).2
  rw [q_entO g ad C i hkd] at he
  obtain ⟨r, h1, cell, q1, q2, q3, q4⟩ := he
  have hr : r = (Cn, T, N) := Option.some.inj (h1.symm.trans hc)
  subst hr
  obtain ⟨hSl, hfc, kC, hkC, hkind⟩ := hK.1 kd _ hc
  obtain ⟨cf, kf, fi, f, hif, hsl⟩ := hSl k hk
  have hlay := hts _ (hin _ (u_in_lay hk))
  unfold u_lay at hlay
  rw [if_neg (by rw [hfin]; decide)] at hlay
  have hst := (u_facts hfc hkC (u_lays hts hin hk) hif).1
  have h6 := u_store hfc hkC hkind hlay hif (hty k hk) hn hfit
  refine W.putK hx hb (f := f) ⟨hown, hts _ hlink, ⟨_, _, _, hif⟩, hst⟩ (by rw [q2]; exact h6) q1 q3 (by rw [hsl]; exact k2_hasslot (q4 k hk)) rfl rfl hdg fun H' e1 e2 e3 => ?_
  rw [hsl] at e1 ⊢
  refine kk H' _ (hP.set hi htok ?_ e3) (hS.put e2 e3 (hP.1 kd i hi).1)
  rw [q_entO g ad _ i hkd]
  refine ⟨_, hc, t_OB.to (V := updV (vp_V ((List.range (q_nf kd)).map (fun s => q_val ad (q_ty kd s) (C kd s i)))) k v) ⟨_, e1, q2, q3, t_set q4 hap hk v⟩ (fun j hj => ?_)⟩
  have hj' : j < q_nf kd := by rw [hN]; exact hj
  show updV _ k v j = vp_V _ j
  rw [q_vp _ _ hj']
  by_cases hjk : j = k
  · subst hjk
    rw [q_up_s]
    simp [updV, hv]
  · rw [q_up_e C x hjk]
    simp only [updV, if_neg hjk]
    rw [q_vp _ _ hj']
theorem q_putF (X : q_X p s m args c cc nL Ts own g s0) {Cn : String} {T : u_T} {N index : Nat} (hP : q_P g s0 n ad C H) (hS : va_S (q_A s0) s.heap H locs) (kd k i : Nat) (x : Int) (hc : vwCl[kd]? = some (Cn, T, N)) (hN : q_nf kd = N) (hkd : kd < 6) (hin : ∀ w ∈ u_ws Cn T N, w ∈ Ts)
    (ty0 : Nat → FieldType) (hty : ∀ k, k < N → parseFieldDescriptor (T k).2.2.1 = some (ty0 k)) (hnm : ∀ a, a < N → ∀ b, b < N → a ≠ b → (T a).2.1 ≠ (T b).2.1) (hi : i < n kd) (hk : k < N)
    (hlink : Cond.fieldLink own index (T k).1 (T k).2.1 (T k).2.2.1 ∈ Ts) (hfin : (T k).2.2.2 = true) (hin2 : meth.name = "<init>") (hdecl : (T k).1 = own) {v : Value} (hv : q_val ad (q_ty kd k) x = v) (hn : narrow (ty0 k) v = v) (hfit : fits (ty0 k) v = true) (htok : q_tok n (q_ty kd k) x) (hdg : decode cc pc = .ok (.putfield index, 3))
    (kk : ∀ (H1 : Heap) (locs1 : List Loc), q_P g s0 n ad (q_up C kd k i x) H1 → va_S (q_A s0) s.heap H1 locs1 → W p l e R s m args below meth c H1 locs1 cells slots Q (F0 m (pc + 3) ls rest)) : W p l e R s m args below meth c H locs cells slots Q (F0 m pc ls (v :: .ref (ad kd i) :: rest)) := by
  obtain ⟨hx, hb, -, hown, hts, hK, -⟩ := X
  have hap := va_apart (own := own) hts hin ty0 hty hnm hK hc
  have he := (hP.1 kd i hi).2
  rw [q_entO g ad C i hkd] at he
  obtain ⟨r, h1, cell, q1, q2, q3, q4⟩ := he
  have hr : r = (Cn, T, N) := Option.some.inj (h1.symm.trans hc)
  subst hr
  obtain ⟨hSl, hfc, kC, hkC, hkind⟩ := hK.1 kd _ hc
  obtain ⟨cf, kf, fi, f, hif, hsl⟩ := hSl k hk
  have hlay := hts _ (hin _ (u_in_lay hk))
  unfold u_lay at hlay
  rw [if_pos hfin] at hlay
  have hst := (u_facts hfc hkC (u_lays hts hin hk) hif).1
  have hcf : m.cls = cf := by
    obtain ⟨_, _, c', _, _, _, -, -, hf', -, -, -, hown2, -⟩ := Cond.laysFinal_spec hlay
    have e1 : c' = cf := by have := hif.symm.trans hf'; simp at this; exact this.1.symm
    rw [hdecl] at hown2
    rw [← e1]; exact Option.some.inj (hown.symm.trans hown2)
  have h6 := u_fits hfc hkC hkind (Or.inr hlay) hif (hty k hk) hn hfit
  refine W.putFinK hx hb hown (hts _ hlink) hif hst hcf hin2 (by rw [q2]; exact h6) q1 q3 (by rw [hsl]; exact k2_hasslot (q4 k hk)) rfl rfl hdg fun H' e1 e2 e3 => ?_
  rw [hsl] at e1 ⊢
  refine kk H' _ (hP.set hi htok ?_ e3) (hS.put e2 e3 (hP.1 kd i hi).1)
  rw [q_entO g ad _ i hkd]
  refine ⟨_, hc, t_OB.to (V := updV (vp_V ((List.range (q_nf kd)).map (fun s => q_val ad (q_ty kd s) (C kd s i)))) k v) ⟨_, e1, q2, q3, t_set q4 hap hk v⟩ (fun j hj => ?_)⟩
  have hj' : j < q_nf kd := by rw [hN]; exact hj
  show updV _ k v j = vp_V _ j
  rw [q_vp _ _ hj']
  by_cases hjk : j = k
  · subst hjk
    rw [q_up_s]
    simp [updV, hv]
  · rw [q_up_e C x hjk]
    simp only [updV, if_neg hjk]
    rw [q_vp _ _ hj']
-- arrays
theorem q_alt (kd : Nat) : (q_arr kd).2.1 < 2147483648 := by
  unfold q_arr
  rw [List.getD_eq_getElem?_getD]
  cases h : q_tabA[kd - 6]? with
  | none => simp
  | some x =>
    have hm := List.mem_of_getElem? h
    have : ∀ x ∈ q_tabA, x.2.1 < 2147483648 := by decide
    simpa using this x hm
theorem q_ald {t : Nat} {H : Heap} {kd i : Nat} (hP : q_P g s0 n ad C H) (hkd : ¬ kd < 6) (hi : i < n kd) (ht : (q_arr kd).1 = t) {k : Nat} (hc : (q_arr kd).2.2 = k) : va_at (g.1, g.2.1) vwCl (ad kd i, .inl (g.2.2 k, (q_arr kd).2.1, q_cont ad t (fun j => C kd j i))) H := by
  have he := (hP.1 kd i hi).2
  rw [q_entA g ad C i hkd, ht, hc] at he
  exact he
theorem q_ild (X : q_X p s m args c cc nL Ts own g s0) (hP : q_P g s0 n ad C H) (kd i : Nat) {z : Int} (hkd : ¬ kd < 6) (ht : (q_arr kd).1 = 0) (hc : (q_arr kd).2.2 = 0) (hi : i < n kd) (h0 : 0 ≤ z) (h1 : z < ((q_arr kd).2.1 : Int)) (hdg : decode cc pc = .ok (.iaload, 1))
    (kk : W p l e R s m args below meth c H locs cells slots Q (F0 m (pc + 1) ls (.int (iI (C kd z.toNat i)) :: rest))) : W p l e R s m args below meth c H locs cells slots Q (F0 m pc ls (.int (iI z) :: .ref (ad kd i) :: rest)) := by
  have hl := q_alt kd
  refine va_iald (f := fun j => iI (C kd j i)) X.1 X.2.1 X.2.2.2.2.2.1 (q_one (q_ald hP hkd hi ht hc)) 0 0 rfl rfl (iI_in h0 h1 hl) hdg ?_
  rw [iI_cl ⟨by omega, by omega⟩]
  exact kk
theorem q_lld (X : q_X p s m args c cc nL Ts own g s0) (hP : q_P g s0 n ad C H) (kd i : Nat) {z : Int} (hkd : ¬ kd < 6) (ht : (q_arr kd).1 = 1) (hc : (q_arr kd).2.2 = 1) (hi : i < n kd) (h0 : 0 ≤ z) (h1 : z < ((q_arr kd).2.1 : Int)) (hdg : decode cc pc = .ok (.laload, 1))
    (kk : W p l e R s m args below meth c H locs cells slots Q (F0 m (pc + 1) ls (.long (jI (C kd z.toNat i)) :: rest))) : W p l e R s m args below meth c H locs cells slots Q (F0 m pc ls (.int (iI z) :: .ref (ad kd i) :: rest)) := by
  have hl := q_alt kd
  refine va_lald (f := fun j => jI (C kd j i)) X.1 X.2.1 X.2.2.2.2.2.1 (q_one (q_ald hP hkd hi ht hc)) 0 1 rfl rfl (iI_in h0 h1 hl) hdg ?_
  rw [iI_cl ⟨by omega, by omega⟩]
  exact kk
theorem q_zld (X : q_X p s m args c cc nL Ts own g s0) (hP : q_P g s0 n ad C H) (kd i : Nat) {z : Int} (hkd : ¬ kd < 6) (ht : (q_arr kd).1 = 2) (hc : (q_arr kd).2.2 = 2) (hi : i < n kd) (h0 : 0 ≤ z) (h1 : z < ((q_arr kd).2.1 : Int)) (hdg : decode cc pc = .ok (.baload, 1))
    (kk : W p l e R s m args below meth c H locs cells slots Q (F0 m (pc + 1) ls (.int (iI (C kd z.toNat i)) :: rest))) : W p l e R s m args below meth c H locs cells slots Q (F0 m pc ls (.int (iI z) :: .ref (ad kd i) :: rest)) := by
  have hl := q_alt kd
  refine va_zald (f := fun j => iI (C kd j i)) X.1 X.2.1 X.2.2.2.2.2.1 (q_one (q_ald hP hkd hi ht hc)) 0 2 rfl rfl (iI_in h0 h1 hl) hdg ?_
  rw [iI_cl ⟨by omega, by omega⟩]
  exact kk
theorem q_rld (X : q_X p s m args c cc nL Ts own g s0) (hP : q_P g s0 n ad C H) (kd i k t0 : Nat) {z : Int} {cA : ClassId} {Cn : String} (hkd : ¬ kd < 6) (ht : (q_arr kd).1 = k + 3) (hc : (q_arr kd).2.2 = t0) (hty : (q_tys g)[t0]? = some (g.2.2 t0, .object Cn)) (hi : i < n kd) (h0 : 0 ≤ z) (h1 : z < ((q_arr kd).2.1 : Int)) (hdg : decode cc pc = .ok (.aaload, 1))
    (kk : W p l e R s m args below meth c H locs cells slots Q (F0 m (pc + 1) ls (va_rf (q_rf ad k (C kd z.toNat i)) :: rest))) : W p l e R s m args below meth c H locs cells slots Q (F0 m pc ls (.int (iI z) :: .ref (ad kd i) :: rest)) := by
  have hl := q_alt kd
  refine va_aldq (f := fun j => q_rf ad k (C kd j i)) X.1 X.2.1 X.2.2.2.2.2.1 (q_one (q_ald hP hkd hi ht hc)) 0 t0 rfl hty (iI_in h0 h1 hl) hdg ?_
  rw [iI_cl ⟨by omega, by omega⟩]
  exact kk
theorem q_len (X : q_X p s m args c cc nL Ts own g s0) (hP : q_P g s0 n ad C H) (kd i t0 : Nat) {z : Int} {ty : FieldType} (hkd : ¬ kd < 6) (hc : (q_arr kd).2.2 = t0) (hty : (q_tys g)[t0]? = some (g.2.2 t0, ty)) (hi : i < n kd) (hz : ((q_arr kd).2.1 : Int) = z) (hdg : decode cc pc = .ok (.arraylength, 1))
    (kk : W p l e R s m args below meth c H locs cells slots Q (F0 m (pc + 1) ls (.int (iI z) :: rest))) : W p l e R s m args below meth c H locs cells slots Q (F0 m pc ls (.ref (ad kd i) :: rest)) := by
  refine va_alen (v := iI z) X.1 X.2.1 X.2.2.2.2.2.1 (q_one (q_ald hP hkd hi rfl hc)) 0 t0 rfl hty ?_ hdg kk
  show Int32.ofNat (q_arr kd).2.1 = iI z
  rw [← hz]
  exact (Int32.ofInt_eq_ofNat).symm
theorem q_ist (X : q_X p s m args c cc nL Ts own g s0) (hP : q_P g s0 n ad C H) (hS : va_S (q_A s0) s.heap H locs) (kd i : Nat) {z x : Int} (hkd : ¬ kd < 6) (ht : (q_arr kd).1 = 0) (hc : (q_arr kd).2.2 = 0) (hi : i < n kd) (h0 : 0 ≤ z) (h1 : z < ((q_arr kd).2.1 : Int)) (hx : R32 x) (hdg : decode cc pc = .ok (.iastore, 1))
    (kk : ∀ (H1 : Heap) (locs1 : List Loc), q_P g s0 n ad (q_up C kd z.toNat i x) H1 → va_S (q_A s0) s.heap H1 locs1 → W p l e R s m args below meth c H1 locs1 cells slots Q (F0 m (pc + 1) ls rest)) : W p l e R s m args below meth c H locs cells slots Q (F0 m pc ls (.int (iI x) :: .int (iI z) :: .ref (ad kd i) :: rest)) := by
  have hl := q_alt kd
  refine W.iast X.1 X.2.1 (q_ald hP hkd hi ht hc) ((X.2.2.2.2.2.1.2 0 _ rfl).1 _ (fun j => .int (iI (C kd j i)))) (fun q => by cases q) (by show ¬ (iI z < 0 ∨ (arrV _ _ _).slots.size ≤ _); rw [arrV_size]; exact iI_in h0 h1 hl) rfl rfl hdg fun H1 e z1 oq => ?_
  refine kk H1 _ (hP.set hi (by unfold q_ty; rw [if_neg hkd, ht]; exact hx) ?_ oq) (hS.put z1 oq (hP.1 kd i hi).1)
  rw [q_entA g ad _ i hkd, ht, hc]
  show H1[ad kd i]? = some (vp_cell _ _)
  rw [e]
  show some (Cell.setSlot (arrV (g.2.2 0) (q_arr kd).2.1 (fun j => Value.int (iI (C kd j i)))) _ _) = some (arrV (g.2.2 0) (q_arr kd).2.1 (fun j => Value.int (iI (q_up C kd z.toNat i x kd j i))))
  rw [arrV_store, iI_cl ⟨by omega, by omega⟩]
  congr 2
  funext j
  by_cases hq : j = z.toNat
  · subst hq
    simp [updV, q_up]
  · simp [updV, q_up, hq]
theorem q_lst (X : q_X p s m args c cc nL Ts own g s0) (hP : q_P g s0 n ad C H) (hS : va_S (q_A s0) s.heap H locs) (kd i : Nat) {z x : Int} (hkd : ¬ kd < 6) (ht : (q_arr kd).1 = 1) (hc : (q_arr kd).2.2 = 1) (hi : i < n kd) (h0 : 0 ≤ z) (h1 : z < ((q_arr kd).2.1 : Int)) (hx : R64 x) (hdg : decode cc pc = .ok (.lastore, 1))
    (kk : ∀ (H1 : Heap) (locs1 : List Loc), q_P g s0 n ad (q_up C kd z.toNat i x) H1 → va_S (q_A s0) s.heap H1 locs1 → W p l e R s m args below meth c H1 locs1 cells slots Q (F0 m (pc + 1) ls rest)) : W p l e R s m args below meth c H locs cells slots Q (F0 m pc ls (.long (jI x) :: .int (iI z) :: .ref (ad kd i) :: rest)) := by
  have hl := q_alt kd
  refine W.last X.1 X.2.1 (q_ald hP hkd hi ht hc) ((X.2.2.2.2.2.1.2 1 _ rfl).1 _ (fun j => .long (jI (C kd j i)))) (fun q => by cases q) (by show ¬ (iI z < 0 ∨ (arrV _ _ _).slots.size ≤ _); rw [arrV_size]; exact iI_in h0 h1 hl) rfl rfl hdg fun H1 e z1 oq => ?_
  refine kk H1 _ (hP.set hi (by unfold q_ty; rw [if_neg hkd, ht]; exact hx) ?_ oq) (hS.put z1 oq (hP.1 kd i hi).1)
  rw [q_entA g ad _ i hkd, ht, hc]
  show H1[ad kd i]? = some (vp_cell _ _)
  rw [e]
  show some (Cell.setSlot (arrV (g.2.2 1) (q_arr kd).2.1 (fun j => Value.long (jI (C kd j i)))) _ _) = some (arrV (g.2.2 1) (q_arr kd).2.1 (fun j => Value.long (jI (q_up C kd z.toNat i x kd j i))))
  rw [arrV_store, iI_cl ⟨by omega, by omega⟩]
  congr 2
  funext j
  by_cases hq : j = z.toNat
  · subst hq
    simp [updV, q_up]
  · simp [updV, q_up, hq]
theorem q_zst (X : q_X p s m args c cc nL Ts own g s0) (hP : q_P g s0 n ad C H) (hS : va_S (q_A s0) s.heap H locs) (kd i : Nat) {z x : Int} (hkd : ¬ kd < 6) (ht : (q_arr kd).1 = 2) (hc : (q_arr kd).2.2 = 2) (hi : i < n kd) (h0 : 0 ≤ z) (h1 : z < ((q_arr kd).2.1 : Int)) (hx : x = 0 ∨ x = 1) (hdg : decode cc pc = .ok (.bastore, 1))
    (kk : ∀ (H1 : Heap) (locs1 : List Loc), q_P g s0 n ad (q_up C kd z.toNat i x) H1 → va_S (q_A s0) s.heap H1 locs1 → W p l e R s m args below meth c H1 locs1 cells slots Q (F0 m (pc + 1) ls rest)) : W p l e R s m args below meth c H locs cells slots Q (F0 m pc ls (.int (iI x) :: .int (iI z) :: .ref (ad kd i) :: rest)) := by
  have hl := q_alt kd
  refine W.zast X.1 X.2.1 (q_ald hP hkd hi ht hc) ((X.2.2.2.2.2.1.2 2 _ rfl).1 _ (fun j => .int (iI (C kd j i)))) (fun q => by cases q) (by show ¬ (iI z < 0 ∨ (arrV _ _ _).slots.size ≤ _); rw [arrV_size]; exact iI_in h0 h1 hl) rfl rfl hdg fun H1 e z1 oq => ?_
  refine kk H1 _ (hP.set hi (by unfold q_ty; rw [if_neg hkd, ht]; exact hx) ?_ oq) (hS.put z1 oq (hP.1 kd i hi).1)
  rw [q_entA g ad _ i hkd, ht, hc]
  show H1[ad kd i]? = some (vp_cell _ _)
  rw [e, q_zn hx]
  show some (Cell.setSlot (arrV (g.2.2 2) (q_arr kd).2.1 (fun j => Value.int (iI (C kd j i)))) _ _) = some (arrV (g.2.2 2) (q_arr kd).2.1 (fun j => Value.int (iI (q_up C kd z.toNat i x kd j i))))
  rw [arrV_store, iI_cl ⟨by omega, by omega⟩]
  congr 2
  funext j
  by_cases hq : j = z.toNat
  · subst hq
    simp [updV, q_up]
  · simp [updV, q_up, hq]
-- ends
theorem q_F {t : State} (hS : va_S (q_A s0) s.heap H locs) (ht : t.heap = H) : va_F (q_A s0) s t := hS.F ht
theorem q_end {t : State} (X : q_X p s m args c cc nL Ts own g s0) (hP : q_P g s0 n ad C H) (hS : va_S (q_A s0) s.heap H locs) (ht : t.heap = H) (hW : s.WarmedH t.vm) : q_B g s0 (n, ad, C) t := by
  obtain ⟨-, -, -, -, -, hK, hZ, h0⟩ := X
  refine ⟨by rw [ht]; exact Nat.le_trans h0 hS.1, by rw [ht]; exact hP, q_moved hW.alike hK, ?_⟩
  rw [ht]
  exact (hZ.kept hS.2.1).moved hW.alike
theorem q_iret (X : q_X p s m args c cc nL Ts own g s0) (hr : meth.sig.returnType = some .int) (hlocks : meth.locks = false) (hP : q_P g s0 n ad C H) (hS : va_S (q_A s0) s.heap H locs) {post : Int32 → q_U → Prop} {z : Int32} {mc ms : Nat} (hp : post z (n, ad, C)) (hc : cells ≤ mc) (hs : slots ≤ ms) (hdg : decode cc pc = .ok (.ireturn, 1)) :
    W p l e R s m args below meth c H locs cells slots (MQ below (va_Qi post (q_B g s0) (q_A s0)) args s mc ms (q_A s0)) (F0 m pc ls [.int z]) := by
  refine W.widen hc hs ?_
  exact W.iret (v := z) X.1 X.2.1 hr (fun t ht hW => ⟨⟨z, (n, ad, C), rfl, hp, q_end X hP hS ht hW⟩, hS.F ht⟩) hS.2.2 hdg hlocks
theorem q_zret (X : q_X p s m args c cc nL Ts own g s0) (hr : meth.sig.returnType = some .boolean) (hlocks : meth.locks = false) (hP : q_P g s0 n ad C H) (hS : va_S (q_A s0) s.heap H locs) {post : Int32 → q_U → Prop} {z : Int} {mc ms : Nat} (hz : z = 0 ∨ z = 1) (hp : post (iI z) (n, ad, C)) (hc : cells ≤ mc) (hs : slots ≤ ms) (hdg : decode cc pc = .ok (.ireturn, 1)) :
    W p l e R s m args below meth c H locs cells slots (MQ below (va_Qi post (q_B g s0) (q_A s0)) args s mc ms (q_A s0)) (F0 m pc ls [.int (iI z)]) := by
  refine W.widen hc hs ?_
  exact W.zret (v := iI z) X.1 X.2.1 hr (q_zn hz) (fun t ht hW => ⟨⟨iI z, (n, ad, C), rfl, hp, q_end X hP hS ht hW⟩, hS.F ht⟩) hS.2.2 hdg hlocks
theorem q_lret (X : q_X p s m args c cc nL Ts own g s0) (hr : meth.sig.returnType = some .long) (hlocks : meth.locks = false) (hP : q_P g s0 n ad C H) (hS : va_S (q_A s0) s.heap H locs) {post : Int64 → q_U → Prop} {z : Int64} {mc ms : Nat} (hp : post z (n, ad, C)) (hc : cells ≤ mc) (hs : slots ≤ ms) (hdg : decode cc pc = .ok (.lreturn, 1)) :
    W p l e R s m args below meth c H locs cells slots (MQ below (va_Ql post (q_B g s0) (q_A s0)) args s mc ms (q_A s0)) (F0 m pc ls [.long z]) := by
  refine W.widen hc hs ?_
  exact W.lret (v := z) X.1 X.2.1 hr (fun t ht hW => ⟨⟨z, (n, ad, C), rfl, hp, q_end X hP hS ht hW⟩, hS.F ht⟩) hS.2.2 hdg hlocks
theorem q_vret (X : q_X p s m args c cc nL Ts own g s0) (hr : meth.sig.returnType = none) (hlocks : meth.locks = false) (hP : q_P g s0 n ad C H) (hS : va_S (q_A s0) s.heap H locs) {post : q_U → Prop} {mc ms : Nat} (hp : post (n, ad, C)) (hc : cells ≤ mc) (hs : slots ≤ ms) (hdg : decode cc pc = .ok (.return_, 1)) :
    W p l e R s m args below meth c H locs cells slots (MQ below (va_Qv post (q_B g s0) (q_A s0)) args s mc ms (q_A s0)) (F0 m pc ls []) := by
  refine W.widen hc hs ?_
  exact W.vret X.1 X.2.1 hr (fun t ht hW => ⟨⟨(n, ad, C), rfl, hp, q_end X hP hS ht hW⟩, hS.F ht⟩) hS.2.2 hdg hlocks
theorem q_aret (X : q_X p s m args c cc nL Ts own g s0) {Cn : String} (hr : meth.sig.returnType = some (.object Cn)) (hlocks : meth.locks = false) (hP : q_P g s0 n ad C H) (hS : va_S (q_A s0) s.heap H locs) {post : Option Nat → q_U → Prop} {r : Option Nat} {mc ms : Nat} (hp : post r (n, ad, C)) (hc : cells ≤ mc) (hs : slots ≤ ms) (hdg : decode cc pc = .ok (.areturn, 1)) :
    W p l e R s m args below meth c H locs cells slots (MQ below (va_Qq post (q_B g s0) (q_A s0)) args s mc ms (q_A s0)) (F0 m pc ls [va_rf r]) := by
  refine W.widen hc hs ?_
  exact W.aret (v := va_rf r) X.1 X.2.1 hr (Or.inl ⟨_, rfl⟩) (va_rf_or r) (fun t ht hW => ⟨⟨r, (n, ad, C), rfl, hp, q_end X hP hS ht hW⟩, hS.F ht⟩) hS.2.2 hdg hlocks
-- starts of calls
theorem q_blind (av : List Value) (u : q_U) : FrameBlind (va_Pc av (q_B g s0 u)) := by
  intro a U g' mk q
  obtain ⟨q0, q1, q2, q3, q4⟩ := q
  exact ⟨q0, q1, q2, q_moved (u := U) (U := U.calling g' mk a) (Vm.Alike.refl U.vm) q3, q4.moved (u := U) (U := U.calling g' mk a) (Vm.Alike.refl U.vm)⟩
theorem q_at {U : State} (X : q_X p s m args c cc nL Ts own g s0) (hP : q_P g s0 n ad C H) (hS : va_S (q_A s0) s.heap H locs) (hU : U.heap = H) (hW : s.WarmedH U.vm) : q_B g s0 (n, ad, C) U := q_end X hP hS hU hW
theorem q_preS (X : q_X p s m args c cc nL Ts own g s0) (hP : q_P g s0 n ad C H) (hS : va_S (q_A s0) s.heap H locs) (As : List Value) : PreS s H (va_Pc As (q_B g s0 (n, ad, C))) As := ⟨q_blind _ _, fun U hU hW => ⟨rfl, q_at X hP hS hU hW⟩⟩
theorem q_recv (X : q_X p s m args c cc nL Ts own g s0) (hP : q_P g s0 n ad C H) {kd i : Nat} {r : vw_C} (hkd : kd < 6) (hc : vwCl[kd]? = some r) (hi : i < n kd) : ∃ cell : Cell, H[ad kd i]? = some cell ∧ cell.vm.isStatics = false ∧ s.vm.findClass r.1 = some cell.cls := by
  have he := (hP.1 kd i hi).2
  rw [q_entO g ad C i hkd] at he
  exact va_recv X.2.2.2.2.2.1 (q_one he) hc (q0 := 0) rfl
theorem q_preV (X : q_X p s m args c cc nL Ts own g s0) (hP : q_P g s0 n ad C H) (hS : va_S (q_A s0) s.heap H locs) (As : List Value) {kd i : Nat} {r : vw_C} (hkd : kd < 6) (hc : vwCl[kd]? = some r) (hi : i < n kd) : PreV s H r.1 (ad kd i) (va_Pc (.ref (ad kd i) :: As) (q_B g s0 (n, ad, C))) As := ⟨q_blind _ _, q_recv X hP hkd hc hi, fun U hU hW => ⟨rfl, q_at X hP hS hU hW⟩⟩
theorem q_id {H : Heap} : ∀ q, q < H.size → q_A s0 q → q_A s0 q := fun _ _ h => h
theorem q_id1 : ∀ q, q_A s0 q → q_A s0 q := fun _ h => h
theorem q_back {u : q_U} {t : State} {H1 : Heap} (hB : q_B g s0 u t) (ht : t.heap = H1) : q_P g s0 u.1 u.2.1 u.2.2 H1 := by rw [← ht]; exact hB.2.1
theorem q_start (hx : p.tables.exec = Jvm.exec) (hb : c.code = cc) (hml : c.maxLocals = nL) (hown : s.vm.findClass own = some m.cls) (hts : ∀ w ∈ Ts, w.before args s = true) {u : q_U} (hv : q_B g s0 u s) : q_X p s m args c cc nL Ts own g s0 ∧ q_P g s0 u.1 u.2.1 u.2.2 s.heap := ⟨⟨hx, hb, hml, hown, hts, hv.2.2.1, hv.2.2.2, hv.1⟩, hv.2.1⟩
end QROWS
