/-! THE STATE of all objects: C kd s i is slot (or element) s of the object i of kind kd, as a whole number; a reference is 0 (null) or the object's index and one. -/
abbrev iI (z : Int) : Int32 := Int32.ofInt z
abbrev jI (z : Int) : Int64 := Int64.ofInt z
abbrev q_S : Type := Nat → Nat → Nat → Int
def q_up (C : q_S) (kd s i : Nat) (x : Int) : q_S := fun kd' s' i' => if kd' = kd ∧ s' = s ∧ i' = i then x else C kd' s' i'
def q_tabO : List (List Nat) := [[0,6,0,0,1,2,2,4],[3,0,0,0,0,0,4],[0,0,0,0,4,2],[0,0,1,1,1,1],[9,10,11,0,0,0,12,13,0,0,1],[0,0,25,26,27,28,0,30,31,32,0,34,35,36,37,38,39,0,41,42,43,44,45,46,47,0,49,50,1,0]]
/-- arrays, kinds 6 ..: the elements' type, the length, the class -/
def q_tabA : List (Nat × Nat × Nat) := [(5,8,3),(6,20,4),(3,60,5),(0,256,0),(0,256,0),(0,0,0),(0,0,0),(0,0,0),(0,0,0),(0,0,0),(0,0,0),(0,0,0),(0,0,0),(0,0,0),(0,0,0),(0,0,0),(0,9,0),(0,9,0),(0,9,0),(0,9,0),(0,0,0),(0,21,0),(0,21,0),(1,84,1),(0,0,0),(0,61,0),(0,61,0),(0,61,0),(1,61,1),(2,61,2),(2,61,2),(0,0,0),(0,4200,0),(0,4200,0),(0,4200,0),(0,4200,0),(0,4200,0),(2,4200,2),(2,4200,2),(0,0,0),(0,4200,0),(0,4200,0),(0,0,0),(0,0,0),(1,1,1)]
def q_arr (kd : Nat) : Nat × Nat × Nat := q_tabA.getD (kd - 6) (0, 0, 0)
def q_nf (kd : Nat) : Nat := (q_tabO.getD kd []).length
def q_ty (kd s : Nat) : Nat := if kd < 6 then (q_tabO.getD kd []).getD s 0 else (q_arr kd).1
def q_rf (ad : Nat → Nat → Nat) (k : Nat) (v : Int) : Option Nat := if v = 0 then none else some (ad k (v - 1).toNat)
def q_val (ad : Nat → Nat → Nat) (t : Nat) (v : Int) : Value := match t with
  | 0 => .int (iI v)
  | 1 => .long (jI v)
  | 2 => .int (iI v)
  | k + 3 => va_rf (q_rf ad k v)
def q_cont (ad : Nat → Nat → Nat) (t : Nat) (f : Nat → Int) : (Nat → Int32) ⊕ (Nat → Int64) ⊕ (Nat → UInt32) ⊕ (Nat → UInt64) ⊕ (Nat → Option Nat) := match t with
  | 0 => .inl (fun j => iI (f j))
  | 1 => .inr (.inl (fun j => jI (f j)))
  | 2 => .inl (fun j => iI (f j))
  | k + 3 => .inr (.inr (.inr (.inr (fun j => q_rf ad k (f j)))))
abbrev q_G : Type := (Nat → ClassId) × (Nat → Nat → Nat) × (Nat → ClassId)
def q_ent (g : q_G) (ad : Nat → Nat → Nat) (C : q_S) (kd i : Nat) : va_E := if kd < 6 then .inr (kd, (List.range (q_nf kd)).map (fun s => q_val ad (q_ty kd s) (C kd s i))) else .inl (g.2.2 (q_arr kd).2.2, (q_arr kd).2.1, q_cont ad (q_arr kd).1 (fun j => C kd j i))
def q_tok (n : Nat → Nat) (t : Nat) (v : Int) : Prop := match t with
  | 0 => -2147483648 ≤ v ∧ v ≤ 2147483647
  | 1 => -9223372036854775808 ≤ v ∧ v ≤ 9223372036854775807
  | 2 => v = 0 ∨ v = 1
  | k + 3 => 0 ≤ v ∧ v ≤ (n k : Int)
def q_tys (g : q_G) : List (ClassId × FieldType) := [(g.2.2 0, .int), (g.2.2 1, .long), (g.2.2 2, .boolean), (g.2.2 3, .object RX2), (g.2.2 4, .object RX3), (g.2.2 5, .object RX0)]
def q_K (g : q_G) (U : State) : Prop := va_K (g.1, g.2.1) vwCl (q_tys g) U
def q_P (g : q_G) (s0 : Nat) (n : Nat → Nat) (ad : Nat → Nat → Nat) (C : q_S) (H : Heap) : Prop :=
  (∀ kd i, i < n kd → s0 ≤ ad kd i ∧ va_at (g.1, g.2.1) vwCl (ad kd i, q_ent g ad C kd i) H) ∧
  (∀ kd i kd' i', i < n kd → i' < n kd' → ad kd i = ad kd' i' → kd = kd' ∧ i = i') ∧
  (∀ kd s i, q_tok n (q_ty kd s) (C kd s i)) ∧ (∀ kd s i, n kd ≤ i → C kd s i = 0)
abbrev q_A (s0 : Nat) : Nat → Prop := fun q => s0 ≤ q
def q_xn : List String := ["java/lang/IllegalArgumentException", "java/lang/UnsupportedOperationException", "java/util/NoSuchElementException", "java/lang/IllegalStateException", "java/lang/IndexOutOfBoundsException"]
def q_nm : List String := ["java/lang/RuntimeException", "java/lang/Exception"]
def q_dl : List MethodName := [Bundle.init0 "java/lang/RuntimeException", Bundle.init0 "java/lang/Exception", Bundle.init0 Bundle.tN]
/-- words on the exceptions' classes that aren't in the methods' lists -/
def q_W (U : State) : Prop := (∀ x ∈ q_dl, va_Nw (.declares x) U) ∧ (∀ x ∈ q_xn, va_Nw (.castable x x) U) ∧ (∀ x ∈ q_xn, ∀ y ∈ q_xn, x ≠ y → va_Nc x y U)
theorem q_W.moved {u U : State} (hvm : u.vm.Alike U.vm) (h : q_W u) : q_W U :=
  ⟨fun x hx => va_tabs rfl (rfl : (u.setVm U.vm).vm = U.vm) (by rw [Cond.declares_setVm hvm]; exact h.1 x hx), fun x hx => va_tabs rfl (rfl : (u.setVm U.vm).vm = U.vm) (by rw [Cond.castable_setVm hvm]; exact h.2.1 x hx), fun x hx y hy hn => (h.2.2 x hx y hy hn).moved hvm⟩
def q_Z (s0 : Nat) (U : State) (H : Heap) : Prop := vx_Zq Bundle.tN "UNASSIGNED_STACK" Bundle.steD (q_A s0) U H ∧ vx_Zq Bundle.tN "SUPPRESSED_SENTINEL" Bundle.listD (q_A s0) U H ∧ q_W U
abbrev q_U : Type := (Nat → Nat) × (Nat → Nat → Nat) × q_S
def q_B (g : q_G) (s0 : Nat) (u : q_U) (U : State) : Prop := s0 ≤ U.heap.size ∧ q_P g s0 u.1 u.2.1 u.2.2 U.heap ∧ q_K g U ∧ q_Z s0 U U.heap
-- facts on q_up
theorem q_up_s (C : q_S) (kd s i : Nat) (x : Int) : q_up C kd s i x kd s i = x := by simp [q_up]
theorem q_up_k (C : q_S) {kd s i kd' s' i' : Nat} (x : Int) (h : ¬ kd' = kd) : q_up C kd s i x kd' s' i' = C kd' s' i' := by simp [q_up, h]
theorem q_up_e (C : q_S) {kd s i kd' s' i' : Nat} (x : Int) (h : ¬ s' = s) : q_up C kd s i x kd' s' i' = C kd' s' i' := by simp [q_up, h]
theorem q_up_i (C : q_S) {kd s i kd' s' i' : Nat} (x : Int) (h : ¬ i' = i) : q_up C kd s i x kd' s' i' = C kd' s' i' := by simp [q_up, h]
theorem q_up_n (C : q_S) {kd s i kd' s' i' : Nat} (x : Int) (h : ¬ (kd' = kd ∧ i' = i)) : q_up C kd s i x kd' s' i' = C kd' s' i' := by
  unfold q_up
  rw [if_neg]
  rintro ⟨a, -, b⟩
  exact h ⟨a, b⟩
theorem q_ent_n (g : q_G) (ad : Nat → Nat → Nat) (C : q_S) {kd s i kd' i' : Nat} (x : Int) (h : ¬ (kd' = kd ∧ i' = i)) : q_ent g ad (q_up C kd s i x) kd' i' = q_ent g ad C kd' i' := by
  unfold q_ent
  have e : ∀ s', q_up C kd s i x kd' s' i' = C kd' s' i' := fun s' => q_up_n C x h
  simp only [e]
theorem q_P.tok {g : q_G} {s0 : Nat} {n : Nat → Nat} {ad : Nat → Nat → Nat} {C : q_S} {H : Heap} (h : q_P g s0 n ad C H) (kd s i : Nat) {t : Nat} (ht : q_ty kd s = t) : q_tok n t (C kd s i) := by
  subst ht
  exact h.2.2.1 kd s i
theorem q_P.lt {g : q_G} {s0 : Nat} {n : Nat → Nat} {ad : Nat → Nat → Nat} {C : q_S} {H : Heap} (h : q_P g s0 n ad C H) {kd i : Nat} (hi : i < n kd) : ad kd i < H.size := (h.1 kd i hi).2.lt
theorem q_P.set {g : q_G} {s0 : Nat} {n : Nat → Nat} {ad : Nat → Nat → Nat} {C : q_S} {H H1 : Heap} (hP : q_P g s0 n ad C H) {kd s i : Nat} {x : Int} (hi : i < n kd) (hx : q_tok n (q_ty kd s) x)
    (he : va_at (g.1, g.2.1) vwCl (ad kd i, q_ent g ad (q_up C kd s i x) kd i) H1) (oq : ∀ q : Nat, q ≠ ad kd i → H1[q]? = H[q]?) : q_P g s0 n ad (q_up C kd s i x) H1 := by
  refine ⟨fun kd' i' h' => ⟨(hP.1 kd' i' h').1, ?_⟩, hP.2.1, fun kd' s' i' => ?_, fun kd' s' i' h' => ?_⟩
  · by_cases hq : kd' = kd ∧ i' = i
    · obtain ⟨rfl, rfl⟩ := hq
      exact he
    · rw [q_ent_n g ad C x hq]
      exact (hP.1 kd' i' h').2.kept (oq _ (fun e => hq (hP.2.1 kd' i' kd i h' hi e)))
  · unfold q_up
    split
    · rename_i hh
      obtain ⟨rfl, rfl, rfl⟩ := hh
      exact hx
    · exact hP.2.2.1 kd' s' i'
  · unfold q_up
    rw [if_neg]
    · exact hP.2.2.2 kd' s' i' h'
    · rintro ⟨rfl, -, rfl⟩
      omega
theorem q_vp (N : Nat) (f : Nat → Value) {j : Nat} (h : j < N) : vp_V ((List.range N).map f) j = f j := by
  simp [vp_V, List.getD, h]
theorem q_entO (g : q_G) (ad : Nat → Nat → Nat) (C : q_S) {kd : Nat} (i : Nat) (h : kd < 6) : q_ent g ad C kd i = .inr (kd, (List.range (q_nf kd)).map (fun s => q_val ad (q_ty kd s) (C kd s i))) := by
  unfold q_ent; rw [if_pos h]
theorem q_entA (g : q_G) (ad : Nat → Nat → Nat) (C : q_S) {kd : Nat} (i : Nat) (h : ¬ kd < 6) : q_ent g ad C kd i = .inl (g.2.2 (q_arr kd).2.2, (q_arr kd).2.1, q_cont ad (q_arr kd).1 (fun j => C kd j i)) := by
  unfold q_ent; rw [if_neg h]
theorem q_one {D : va_G} {cl : List vw_C} {a : Nat} {e : va_E} {H : Heap} (h : va_at D cl (a, e) H) : va_P D cl [(a, e)] H := by
  intro k q hk
  match k, hk with
  | 0, hk => cases hk; exact h
  | k + 1, hk => simp at hk
theorem q_moved {g : q_G} {u U : State} (hvm : u.vm.Alike U.vm) (h : q_K g u) : q_K g U := va_K.moved hvm h
theorem q_Z.moved {s0 : Nat} {u U : State} {H : Heap} (hvm : u.vm.Alike U.vm) (h : q_Z s0 u H) : q_Z s0 U H := ⟨h.1.moved hvm, h.2.1.moved hvm, h.2.2.moved hvm⟩
theorem q_Z.kept {s0 : Nat} {U : State} {H H1 : Heap} (h : q_Z s0 U H) (hq : ∀ a : Nat, a < H.size → ¬ q_A s0 a → H1[a]? = H[a]?) : q_Z s0 U H1 := ⟨h.1.kept hq, h.2.1.kept hq, h.2.2⟩
-- numbers
abbrev R32 (z : Int) : Prop := -2147483648 ≤ z ∧ z ≤ 2147483647
abbrev R64 (z : Int) : Prop := -9223372036854775808 ≤ z ∧ z ≤ 9223372036854775807
theorem iI_t {z : Int} (h : R32 z) : (iI z).toInt = z := Int32.toInt_ofInt_of_le (by omega) (by omega)
theorem jI_t {z : Int} (h : R64 z) : (jI z).toInt = z := Int64.toInt_ofInt_of_le (by omega) (by omega)
theorem iI_lt {a b : Int} (ha : R32 a) (hb : R32 b) : iI a < iI b ↔ a < b := by rw [Int32.lt_iff_toInt_lt, iI_t ha, iI_t hb]
theorem iI_le {a b : Int} (ha : R32 a) (hb : R32 b) : iI a ≤ iI b ↔ a ≤ b := by rw [Int32.le_iff_toInt_le, iI_t ha, iI_t hb]
theorem iI_eq {a b : Int} (ha : R32 a) (hb : R32 b) : iI a = iI b ↔ a = b := by rw [← Int32.toInt_inj, iI_t ha, iI_t hb]
theorem jI_lt {a b : Int} (ha : R64 a) (hb : R64 b) : jI a < jI b ↔ a < b := by rw [Int64.lt_iff_toInt_lt, jI_t ha, jI_t hb]
theorem jI_eq {a b : Int} (ha : R64 a) (hb : R64 b) : jI a = jI b ↔ a = b := by rw [← Int64.toInt_inj, jI_t ha, jI_t hb]
theorem iI_cl {z : Int} (h : R32 z) : (iI z).toNatClampNeg = z.toNat := Int32.toNatClampNeg_ofInt_of_le (by omega) (by omega)
theorem iI_in {z : Int} {n : Nat} (h0 : 0 ≤ z) (h : z < (n : Int)) (hn : n < 2147483648) : vp_in (iI z) n := by
  have hr : R32 z := ⟨by omega, by omega⟩
  rw [vp_in_iff, iI_t hr]
  exact ⟨h0, h⟩
theorem iI_l {z : Int} (h : R32 z) : (iI z).toInt64 = jI z := Int32.toInt64_ofInt (by show -2147483648 ≤ z; omega) (by show z ≤ 2147483647; omega)
theorem iI_of (x : Int32) : ∃ z : Int, R32 z ∧ x = iI z := ⟨x.toInt, ⟨by have := x.le_toInt; omega, by have := x.toInt_lt; omega⟩, (Int32.ofInt_toInt x).symm⟩
theorem jI_of (x : Int64) : ∃ z : Int, R64 z ∧ x = jI z := ⟨x.toInt, ⟨by have := x.le_toInt; omega, by have := x.toInt_lt; omega⟩, (Int64.ofInt_toInt x).symm⟩
theorem iI_0 : iI 0 = 0 := rfl
theorem iI_div {a b : Int} (ha : 0 ≤ a) (ha2 : a ≤ 2147483647) (hb : 0 < b) (hb2 : b ≤ 2147483647) : iI a / iI b = iI (a / b) := by
  rw [← Int.tdiv_eq_ediv_of_nonneg ha]
  exact (Int32.ofInt_tdiv (by show -2147483648 ≤ a; omega) (by show a ≤ 2147483647; omega) (by show -2147483648 ≤ b; omega) (by show b ≤ 2147483647; omega)).symm
theorem iI_rem {a b : Int} (ha : 0 ≤ a) (ha2 : a ≤ 2147483647) (hb : 0 < b) (hb2 : b ≤ 2147483647) : iI a - iI a / iI b * iI b = iI (a % b) := by
  rw [iI_div ha ha2 hb hb2, ← Int32.ofInt_mul, ← Int32.ofInt_sub]
  congr 1
  have := Int.emod_add_ediv_mul a b
  omega
theorem q_zn {z : Int} (h : z = 0 ∨ z = 1) : narrow .boolean (.int (iI z)) = .int (iI z) := by
  rcases h with rfl | rfl <;> rfl
theorem q_zf {z : Int} (h : z = 0 ∨ z = 1) : fits .boolean (.int (iI z)) = true := by
  rcases h with rfl | rfl <;> rfl
