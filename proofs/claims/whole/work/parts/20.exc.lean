/-! new objects, references into arrays, exceptions -/
theorem q_P.kept {g : q_G} {s0 : Nat} {n : Nat → Nat} {ad : Nat → Nat → Nat} {C : q_S} {H H1 : Heap} (h : q_P g s0 n ad C H) (hq : ∀ q : Nat, q < H.size → H1[q]? = H[q]?) : q_P g s0 n ad C H1 := ⟨fun kd i hi => ⟨(h.1 kd i hi).1, (h.1 kd i hi).2.kept (hq _ (h.lt hi))⟩, h.2⟩
def q_bump (n : Nat → Nat) (kd : Nat) : Nat → Nat := fun k => if k = kd then n kd + 1 else n k
theorem q_bump_s (n : Nat → Nat) (kd : Nat) : q_bump n kd kd = n kd + 1 := by simp [q_bump]
theorem q_bump_n (n : Nat → Nat) {kd k : Nat} (h : ¬ k = kd) : q_bump n kd k = n k := by simp [q_bump, h]
theorem q_bump_le (n : Nat → Nat) (kd k : Nat) : n k ≤ q_bump n kd k := by
  unfold q_bump
  split
  · rename_i h; subst h; omega
  · exact Nat.le_refl _
theorem q_tok_up {n n' : Nat → Nat} (h : ∀ k, n k ≤ n' k) {t : Nat} {v : Int} (hv : q_tok n t v) : q_tok n' t v := by
  match t, hv with
  | 0, hv => exact hv
  | 1, hv => exact hv
  | 2, hv => exact hv
  | k + 3, hv =>
    have h1 : 0 ≤ v ∧ v ≤ (n k : Int) := hv
    have := h k
    exact ⟨h1.1, by omega⟩
theorem q_rf_ad {n : Nat → Nat} {ad ad' : Nat → Nat → Nat} (h : ∀ k j, j < n k → ad' k j = ad k j) {k : Nat} {v : Int} (hv : q_tok n (k + 3) v) : q_rf ad' k v = q_rf ad k v := by
  have h1 : 0 ≤ v ∧ v ≤ (n k : Int) := hv
  unfold q_rf
  split
  · rfl
  · rw [h k _ (by omega)]
theorem q_val_ad {n : Nat → Nat} {ad ad' : Nat → Nat → Nat} (h : ∀ k j, j < n k → ad' k j = ad k j) {t : Nat} {v : Int} (hv : q_tok n t v) : q_val ad' t v = q_val ad t v := by
  match t, hv with
  | 0, hv => rfl
  | 1, hv => rfl
  | 2, hv => rfl
  | k + 3, hv =>
    show va_rf _ = va_rf _
    rw [q_rf_ad h hv]
theorem q_ent_ad {g : q_G} {n : Nat → Nat} {ad ad' : Nat → Nat → Nat} {C : q_S} (h : ∀ k j, j < n k → ad' k j = ad k j) (ht : ∀ kd s i, q_tok n (q_ty kd s) (C kd s i)) (kd i : Nat) : q_ent g ad' C kd i = q_ent g ad C kd i := by
  by_cases hk : kd < 6
  · rw [q_entO g ad' C i hk, q_entO g ad C i hk]
    congr 2
    apply List.map_congr_left
    intro s _
    exact q_val_ad h (ht kd s i)
  · rw [q_entA g ad' C i hk, q_entA g ad C i hk]
    congr 3
    have e : ∀ j, q_tok n (q_arr kd).1 (C kd j i) := fun j => by
      have := ht kd j i
      unfold q_ty at this
      rw [if_neg hk] at this
      exact this
    generalize hgt : (q_arr kd).1 = t at e
    match t, e with
    | 0, e => rfl
    | 1, e => rfl
    | 2, e => rfl
    | k + 3, e =>
      have hf : (fun j => q_rf ad' k (C kd j i)) = (fun j => q_rf ad k (C kd j i)) := funext fun j => q_rf_ad h (e j)
      show Sum.inr (Sum.inr (Sum.inr (Sum.inr (fun j => q_rf ad' k (C kd j i))))) = Sum.inr (Sum.inr (Sum.inr (Sum.inr (fun j => q_rf ad k (C kd j i)))))
      rw [hf]
section QEXC
variable {p : Program} {l : Launch} {e : Env} {R : Room} {s : State} {m : MethodId} {args : Array Value} {below : List Frame} {meth : Method} {c : Code} {H : Heap} {locs : List Loc} {cells slots : Nat} {Q : State → Prop}
variable {cc : ByteArray} {pc nL : Nat} {ls : Array Slot} {rest : List Value} {g : q_G} {s0 : Nat} {n : Nat → Nat} {ad : Nat → Nat → Nat} {C : q_S} {Ts : List Cond} {own : String}
/-- a new cell q of kind kd, with all slots 0, in H1 -/
theorem q_P.push {H1 : Heap} {q kd : Nat} (hP : q_P g s0 n ad C H) (hs : H.size ≤ q) (h0 : s0 ≤ q) (hq : ∀ z : Nat, z < H.size → H1[z]? = H[z]?) (he : va_at (g.1, g.2.1) vwCl (q, q_ent g ad C kd (n kd)) H1) :
    ∃ ad' : Nat → Nat → Nat, (∀ k j, ¬ (k = kd ∧ j = n kd) → ad' k j = ad k j) ∧ ad' kd (n kd) = q ∧ q_P g s0 (q_bump n kd) ad' C H1 := by
  obtain ⟨ad', h2, h1⟩ : ∃ ad' : Nat → Nat → Nat, ad' kd (n kd) = q ∧ ∀ k j, ¬ (k = kd ∧ j = n kd) → ad' k j = ad k j := ⟨fun k j => if k = kd ∧ j = n kd then q else ad k j, if_pos ⟨rfl, rfl⟩, fun k j h => if_neg h⟩
  refine ⟨ad', h1, h2, ?_⟩
  have hn : ∀ k j, j < n k → ad' k j = ad k j := fun k j h => h1 k j (by rintro ⟨rfl, rfl⟩; omega)
  have hcase : ∀ kd' i', i' < q_bump n kd kd' → (kd' = kd ∧ i' = n kd) ∨ i' < n kd' := by
    intro kd' i' h
    unfold q_bump at h
    by_cases h1 : kd' = kd
    · subst h1
      rw [if_pos rfl] at h
      omega
    · rw [if_neg h1] at h
      exact Or.inr h
  refine ⟨fun kd' i' h => ?_, fun kd1 i1 kd2 i2 h3 h4 e12 => ?_, fun kd' s' i' => q_tok_up (q_bump_le n kd) (hP.2.2.1 kd' s' i'), fun kd' s' i' h => hP.2.2.2 kd' s' i' (Nat.le_trans (q_bump_le n kd kd') h)⟩
  · rw [q_ent_ad hn hP.2.2.1]
    rcases hcase kd' i' h with ⟨rfl, rfl⟩ | h'
    · rw [h2]
      exact ⟨h0, he⟩
    · rw [hn kd' i' h']
      exact ⟨(hP.1 kd' i' h').1, (hP.1 kd' i' h').2.kept (hq _ (hP.lt h'))⟩
  · rcases hcase kd1 i1 h3 with ⟨e1, e2⟩ | h3' <;> rcases hcase kd2 i2 h4 with ⟨e3, e4⟩ | h4'
    · exact ⟨e1.trans e3.symm, e2.trans e4.symm⟩
    · rw [e1, e2, h2, hn kd2 i2 h4'] at e12
      have := hP.lt h4'
      omega
    · rw [e3, e4, h2, hn kd1 i1 h3'] at e12
      have := hP.lt h3'
      omega
    · rw [hn kd1 i1 h3', hn kd2 i2 h4'] at e12
      exact hP.2.1 kd1 i1 kd2 i2 h3' h4' e12
theorem q_new (X : q_X p s m args c cc nL Ts own g s0) {Cn : String} {T : u_T} {N index : Nat} (hP : q_P g s0 n ad C H) (hS : va_S (q_A s0) s.heap H locs) (kd : Nat) (hc : vwCl[kd]? = some (Cn, T, N)) (hN : q_nf kd = N) (hkd : kd < 6) (hin : ∀ w ∈ u_ws Cn T N, w ∈ Ts)
    (ty0 : Nat → FieldType) (hty : ∀ k, k < N → parseFieldDescriptor (T k).2.2.1 = some (ty0 k)) (hcl : Cond.classLink own index Cn ∈ Ts) (hinst : Cond.instantiable Cn N ∈ Ts) (hini : Cond.initialized Cn ∈ Ts) (hz : ∀ k, k < N → defaultValue (ty0 k) = q_val ad (q_ty kd k) 0)
    (hcells : cells + 1 ≤ R.cells) (hslots : slots + N ≤ R.slots) (hdg : decode cc pc = .ok (.new index, 3))
    (kk : ∀ (ad' : Nat → Nat → Nat) (H1 : Heap), (∀ k j, ¬ (k = kd ∧ j = n kd) → ad' k j = ad k j) → q_P g s0 (q_bump n kd) ad' C H1 → va_S (q_A s0) s.heap H1 locs → W p l e R s m args below meth c H1 locs (cells + 1) (slots + N) Q (F0 m (pc + 3) ls (.ref (ad' kd (n kd)) :: rest))) : W p l e R s m args below meth c H locs cells slots Q (F0 m pc ls rest) := by
  obtain ⟨hx, hb, -, hown, hts, hK, -, h0⟩ := X
  have hKn := hK.1 kd _ hc
  refine W.newcK hx hb hown (hts _ hcl) (hts _ hinst) (hts _ hini) rfl hdg hcells hslots hKn.2.1 rfl fun H1 kC hkC e1 z1 o1 => ?_
  have hs0 : s0 ≤ H.size := Nat.le_trans h0 hS.1
  have he : va_at (g.1, g.2.1) vwCl (H.size, q_ent g ad C kd (n kd)) H1 := by
    rw [q_entO g ad C _ hkd]
    refine ⟨_, hc, (u_born ty0 hts hin hKn hkC e1 hty).to (fun j hj => ?_)⟩
    have hj' : j < q_nf kd := by rw [hN]; exact hj
    rw [q_vp _ _ hj', hP.2.2.2 kd j (n kd) (Nat.le_refl _)]
    exact hz j hj
  obtain ⟨ad', h1, h2, h3⟩ := hP.push (Nat.le_refl _) hs0 o1 he
  rw [← h2]
  exact kk ad' H1 h1 h3 ⟨Nat.le_trans hS.1 (by omega), fun x hx1 hx2 => (o1 x (Nat.lt_of_lt_of_le hx1 hS.1)).trans (hS.2.1 x hx1 hx2), hS.2.2⟩
theorem q_ast (X : q_X p s m args c cc nL Ts own g s0) (hP : q_P g s0 n ad C H) (hS : va_S (q_A s0) s.heap H locs) (kd i k j t0 : Nat) {z : Int} {len : Nat} {r : vw_C} (hkd : ¬ kd < 6) (ht : (q_arr kd).1 = k + 3) (hk : k < 6) (hc : (q_arr kd).2.2 = t0) (hvc : vwCl[k]? = some r) (hty : (q_tys g)[t0]? = some (g.2.2 t0, .object r.1)) (hi : i < n kd) (hj : j < n k) (hlen : (q_arr kd).2.1 = len) (h0 : 0 ≤ z) (h1 : z < (len : Int)) (hdg : decode cc pc = .ok (.aastore, 1))
    (kk : ∀ (H1 : Heap) (locs1 : List Loc), q_P g s0 n ad (q_up C kd z.toNat i ((j : Int) + 1)) H1 → va_S (q_A s0) s.heap H1 locs1 → W p l e R s m args below meth c H1 locs1 cells slots Q (F0 m (pc + 1) ls rest)) : W p l e R s m args below meth c H locs cells slots Q (F0 m pc ls (.ref (ad k j) :: .int (iI z) :: .ref (ad kd i) :: rest)) := by
  subst hlen
  have hl := q_alt kd
  have hin := iI_in h0 h1 hl
  have hK := X.2.2.2.2.2.1
  have hlt : (iI z).toNatClampNeg < (q_arr kd).2.1 := Nat.not_le.mp fun q => hin (Or.inr q)
  have hz0 : ¬ iI z < 0 := fun q => hin (Or.inl q)
  have hvj := (hP.1 k j hj).2
  rw [q_entO g ad C j hk] at hvj
  obtain ⟨r', hr', cellV, g1, g2, g3, -⟩ := hvj
  have hcls := (hK.1 k r hvc).2
  obtain ⟨kA, comp, k1, k2, k3, -⟩ := (hK.2 t0 _ hty).2
  have hcomp : comp = g.1 k := Option.some.inj (k3.symm.trans hcls.1)
  subst hcomp
  obtain ⟨kC, hkC, -⟩ := hcls.2
  refine W.aast X.1 X.2.1 (q_ald hP hkd hi ht hc) (fun q h => by cases h) (fun h => by cases h) k1 k2 rfl hkC ⟨hz0, by show _ < (arrV _ _ _).slots.size; rw [arrV_size]; exact hlt⟩ g1 (fun q h => by rw [g3] at h; cases h) (by rw [g2]; exact hkC) (by rw [g2]; exact va_assign hcls) rfl rfl hdg fun H1 e z1 oq => ?_
  refine kk H1 _ (hP.set hi (by unfold q_ty; rw [if_neg hkd, ht]; exact q_t2 hj) ?_ oq) (hS.put z1 oq (hP.1 kd i hi).1)
  rw [q_entA g ad _ i hkd, ht, hc]
  show H1[ad kd i]? = some (vp_cell _ _)
  rw [e]
  show some (Cell.setSlot (arrV (g.2.2 t0) (q_arr kd).2.1 (fun q => va_rf (q_rf ad k (C kd q i)))) _ _) = some (arrV (g.2.2 t0) (q_arr kd).2.1 (fun q => va_rf (q_rf ad k (q_up C kd z.toNat i ((j : Int) + 1) kd q i))))
  rw [arrV_store, iI_cl ⟨by omega, by omega⟩]
  congr 2
  funext q
  by_cases hq : q = z.toNat
  · subst hq
    rw [q_up_s, q_rf2]
    simp [updV]
  · rw [q_up_e C _ hq]
    simp [updV, hq]
abbrev q_XC (g : q_G) (s0 : Nat) (u0 : q_U) (XE : String → Prop) : String → State → State → Prop := vx_X (fun _ : Unit => True) (fun E _ t => XE E ∧ q_B g s0 u0 t) (q_A s0)
def q_bad (cls : String) : List Cond := [.declares (Bundle.init0 "java/lang/RuntimeException"), .declares (Bundle.init0 "java/lang/Exception"), .declares (Bundle.init0 Bundle.tN), .castable cls cls]
theorem q_fit : ∀ x ∈ q_xn, Bundle.fit x = true := by decide +kernel
theorem q_fitn : ∀ x ∈ q_nm, Bundle.fit x = true := by decide +kernel
theorem q_throw (X : q_X p s m args c cc nL Ts own g s0) (htr : l.stackTraces = false) (hnx : ∀ x ∈ c.exceptionTable.toList, False) (hlocks : meth.locks = false) {cls : String} {ik ic mc ms : Nat} {Qc : Array Value → State → Outcome → State → Prop} (hcx : cls ∈ q_xn) (hk : Cond.classLink own ik cls ∈ Ts) (hini : Cond.initialized cls ∈ Ts)
    (hat : ∀ w ∈ (vx_at0 own ic cls q_nm).filter goodWord, w ∈ Ts) (hbad : ∀ w ∈ (vx_at0 own ic cls q_nm).filter (fun w => !goodWord w), w ∈ q_bad cls) (hgd : ∀ w ∈ Cond.classLink own ik cls :: Cond.initialized cls :: vx_at0 own ic cls q_nm, vx_ot w = true)
    (hP : q_P g s0 n ad C H) (hS : va_S (q_A s0) s.heap H locs) (hsize : ls.size = nL)
    (d0 : decode cc pc = .ok (.new ik, 3)) (d3 : decode cc (pc + 3) = .ok (.dup, 1)) (d4 : decode cc (pc + 4) = .ok (.invokespecial ic, 3)) (d7 : decode cc (pc + 7) = .ok (.athrow, 1))
    (hRf : 5 < R.frames) (hRl : (rest.map fun v => v.category).sum + 81 ≤ R.locals) (hRc : cells + 1 ≤ R.cells) (hRs : slots + 6 ≤ R.slots) {XE : String → Prop} (hx : XE cls) (hc : cells + 1 ≤ mc) (hs : slots + 6 ≤ ms) :
    W p l e R s m args below meth c H locs cells slots (vx_MQ below Qc (q_XC g s0 (n, ad, C) XE) args s mc ms (q_A s0)) (F0 m pc ls rest) := by
  obtain ⟨hx1, hb, hml, hown, hts, hK, hZ, h0⟩ := id X
  have hbadp : ∀ w ∈ q_bad cls, w.before args s = true := by
    refine vx_c (va_Nw.use rfl (hZ.2.2.1 _ (by simp [q_dl]))) (vx_c (va_Nw.use rfl (hZ.2.2.1 _ (by simp [q_dl]))) (vx_c (va_Nw.use rfl (hZ.2.2.1 _ (by simp [q_dl]))) (vx_c (va_Nw.use rfl (hZ.2.2.2.1 _ hcx)) vx_n)))
  refine vx_throw0 (A := q_A s0) hx1 hb htr hown (q_fit _ hcx) q_fitn (hts _ hk) (hts _ hini) (vx_hat (fun w hw => hts w (hat w hw)) hbad hbadp) hgd hZ.1 hZ.2.1 hS (by rw [hml]; exact hsize) d0 d3 d4 d7 (fun x hx => (hnx x hx).elim) hRf hRl hRc hRs hlocks (fun t hvm hz hkk => ?_) hS.2.2 hc hs
  refine ⟨(), trivial, ⟨hx, Nat.le_trans h0 (Nat.le_trans hS.1 hz), hP.kept hkk, q_moved hvm hK, ?_⟩, Nat.le_trans hS.1 hz, fun q h1 h2 => (hkk q (Nat.lt_of_lt_of_le h1 hS.1)).trans (hS.2.1 q h1 h2)⟩
  refine (hZ.kept (fun a h1 h2 => ?_)).moved hvm
  exact (hkk a (Nat.lt_of_lt_of_le h1 hS.1)).trans (hS.2.1 a h1 h2)
theorem q_xout (X : q_X p s m args c cc nL Ts own g s0) (hnx : ∀ x ∈ c.exceptionTable.toList, False) (hlocks : meth.locks = false) {Qc : Array Value → State → Outcome → State → Prop} {E : String} {ce : Cell} {q9 : Addr} {mc ms : Nat} {XE0 XE : String → Prop} {u0 : q_U} {t : State} {st : List Value}
    (hBX : XE0 E ∧ q_B g s0 u0 t) (ht : t.heap = H) (hS : va_S (q_A s0) s.heap H locs) (hce : H[q9]? = some ce) (hcv : ce.vm = .none) (hcl : s.vm.findClass E = some ce.cls) (hx : XE0 E → XE E) (hc : cells ≤ mc) (hs : slots ≤ ms) :
    vx_W p l e R s m args below meth c H locs cells slots (vx_MQ below Qc (q_XC g s0 u0 XE) args s mc ms (q_A s0)) (F0 m pc ls st) q9 := by
  refine vx_out (fun x hx => (hnx x hx).elim) hlocks hce hcv hcl (fun t' ht' hvm => ?_) hS.2.2 hc hs
  obtain ⟨h1, h2⟩ := hBX
  refine ⟨(), trivial, ⟨hx h1, ?_, ?_, q_moved hvm X.2.2.2.2.2.1, ?_⟩, hS.F ht'⟩
  · rw [ht', ← ht]; exact h2.1
  · rw [ht', ← ht]; exact h2.2.1
  · rw [ht']; exact (X.2.2.2.2.2.2.1.kept hS.2.1).moved hvm
end QEXC
section QCALLQ
variable {p : Program} {l : Launch} {e : Env} {R : Room} {s : State} {m : MethodId} {args : Array Value} {below : List Frame} {meth : Method} {c : Code} {H : Heap} {locs : List Loc} {cells slots : Nat} {Q : State → Prop}
variable {mc ms : Nat} {free : Addr → Prop} {A0 A1 : Nat → Prop} {H0 : Heap} {a : Array Value} {pc : Nat} {ls : Array Slot} {st0 rest : List Value}
theorem vx_callq {S SX : Type} {post : Option Nat → S → Prop} {px : SX → Prop} {B : S → State → Prop} {BX : String → SX → State → Prop} {AX : Nat → Prop} (hr : vx_Run p l e R s m args below meth c H locs cells slots mc ms (F0 m pc ls st0) rest (va_Qq post B A1 a) (vx_X px BX AX) free) (hS : va_S A0 H0 H locs) (hA : ∀ q, q < H.size → A1 q → A0 q) (hf : ∀ q, free q → A0 q) (hAX : ∀ q, q < H.size → AX q → A0 q)
    (kx : ∀ (E : String) (ce : Cell) (q9 : Addr) (u : SX) (t : State) (H1 : Heap) (locs1 : List Loc), t.heap = H1 → s.vm.Alike t.vm → px u → BX E u t → H.size ≤ H1.size → (∀ q : Nat, q < H.size → ¬ AX q → H1[q]? = H[q]?) → va_S A0 H0 H1 locs1 → H1[q9]? = some ce → ce.vm = .none → s.vm.findClass E = some ce.cls → vx_W p l e R s m args below meth c H1 locs1 (cells + mc) (slots + ms) Q (F0 m pc ls rest) q9)
    (kk : ∀ (r : Option Nat) (u : S) (t : State) (H1 : Heap) (locs1 : List Loc), t.heap = H1 → s.vm.Alike t.vm → post r u → B u t → H.size ≤ H1.size → (∀ q : Nat, q < H.size → ¬ A1 q → H1[q]? = H[q]?) → va_S A0 H0 H1 locs1 → W p l e R s m args below meth c H1 locs1 (cells + mc) (slots + ms) Q (F0 m (pc + 3) ls (va_rf r :: rest))) : W p l e R s m args below meth c H locs cells slots Q (F0 m pc ls st0) := by
  intro T hT X
  rcases hr T hT X with ⟨v, st₀, t, T', L, h0, X', hL, e1, e2, ⟨⟨r, u, hv, hp, hb⟩, hF⟩, st⟩ | ⟨q, st₀, t, T', L, E, ce, h0, X', hL, e1, e2, ⟨u, hp, hb, hF⟩, hce, hcv, hcl, st⟩
  · cases hv
    obtain ⟨k1, k2, k3⟩ := vx_keep h0 e1 hS hA hf hL hF
    obtain ⟨t2, a1, b1⟩ := kk r u t T'.heap (locs ++ L) e1.symm (by rw [← e2]; exact X'.warmed.alike) hp hb k1 k2 k3 T' rfl X'
    exact ⟨t2, st t2 a1, b1⟩
  · obtain ⟨k1, k2, k3⟩ := vx_keep h0 e1 hS hAX hf hL hF
    obtain ⟨t2, a1, b1⟩ := kx E ce q u t T'.heap (locs ++ L) e1.symm (by rw [← e2]; exact X'.warmed.alike) hp hb k1 k2 k3 (by rw [e1]; exact hce) hcv hcl T' rfl X'
    exact ⟨t2, st.trans a1, b1⟩
end QCALLQ
