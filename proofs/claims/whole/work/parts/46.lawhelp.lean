section QSCR
variable {p : Program} {l : Launch} {e : Env} {R : Room} {s : State} {m : MethodId} {args : Array Value} {below : List Frame} {meth : Method} {c : Code} {H : Heap} {locs : List Loc} {cells slots : Nat} {Q : State → Prop}
variable {cc : ByteArray} {pc nL : Nat} {ls : Array Slot} {rest : List Value} {g : q_G} {s0 : Nat} {Ts : List Cond} {own : String}
theorem i32r (x : Int32) : R32 x.toInt := ⟨by have := x.le_toInt; omega, by have := x.toInt_lt; omega⟩
theorem j64r (x : Int64) : R64 x.toInt := ⟨by have := x.le_toInt; omega, by have := x.toInt_lt; omega⟩
theorem q_sld (X : q_X p s m args c cc nL Ts own g s0) {b L : Nat} {xs : Nat → Int32} (hXs : va_X b L xs s s.heap) (hb : b < s.heap.size) (hbs : b < s0) (hS : va_S (q_A s0) s.heap H locs) {z : Int} (j : Nat) (hz : z = (j : Int)) (hj : j < L) (hL : L ≤ 3584) (hdg : decode cc pc = .ok (.iaload, 1))
    (kk : W p l e R s m args below meth c H locs cells slots Q (F0 m (pc + 1) ls (.int (iI (xs j).toInt) :: rest))) : W p l e R s m args below meth c H locs cells slots Q (F0 m pc ls (.int (iI z) :: .ref b :: rest)) := by
  subst hz
  have h32 : R32 ((j : Nat) : Int) := ⟨by omega, by omega⟩
  refine va_sld X.1 X.2.1 hXs hb (fun q => by unfold q_A at q; omega) hS (iI_in (by omega) (by omega) (by omega)) hdg ?_
  rw [iI_cl h32, show ((j : Nat) : Int).toNat = j by omega, show xs j = iI (xs j).toInt from (Int32.ofInt_toInt _).symm]
  exact kk
theorem q_slen (X : q_X p s m args c cc nL Ts own g s0) {b L : Nat} {xs : Nat → Int32} (hXs : va_X b L xs s s.heap) (hb : b < s.heap.size) (hbs : b < s0) (hS : va_S (q_A s0) s.heap H locs) (hdg : decode cc pc = .ok (.arraylength, 1))
    (kk : W p l e R s m args below meth c H locs cells slots Q (F0 m (pc + 1) ls (.int (iI ((L : Nat) : Int)) :: rest))) : W p l e R s m args below meth c H locs cells slots Q (F0 m pc ls (.ref b :: rest)) := by
  refine va_slen X.1 X.2.1 hXs hb (fun q => by unfold q_A at q; omega) hS hdg ?_
  exact kk
end QSCR
theorem mR_u {C C1 : q_S} {c : Nat} (hk : ∀ kd s, (kd = 5 ∨ (20 ≤ kd ∧ kd < 50)) → C1 kd s 0 = C kd s 0) (h : m_R C c) : m_R C1 c := m_R_cg (fun kd s q => hk kd s (by omega)) h
theorem mS_u {C C1 : q_S} {n n1 : Nat → Nat} (hk : ∀ kd s, (kd = 5 ∨ (20 ≤ kd ∧ kd < 50)) → C1 kd s 0 = C kd s 0) (hn : ∀ k, 4 ≤ k → n1 k = n k) (h : m_S C n) : m_S C1 n1 := m_S_cg (fun s _ => hk 5 s (Or.inl rfl)) hn h
theorem k_X4_printer {n : Nat → Nat} {ad : Nat → Nat → Nat} {C : q_S} {a b : Int} {r : Int32} {u : q_U} (h : tX4_printer n ad C a b r u) : ∀ kd s, (kd = 5 ∨ (20 ≤ kd ∧ kd < 50)) → u.2.2 kd s 0 = C kd s 0 := by
  intro kd s q
  rcases h with ⟨ad1, -, -, -, -, rfl, -⟩
  · dsimp only; rw [q_ua, if_neg (by omega), q_ua, if_neg (by omega), q_ua, if_neg (by omega), q_ua, if_neg (by omega), q_ua, if_neg (by omega)]
theorem f_L_printer {n : Nat → Nat} {ad : Nat → Nat → Nat} {C : q_S} {a b : Int} {r : Int32} {u : q_U} (h : pL_printer n ad C a b r u) : (u.2.1 4 0 = ad 4 0 ∧ u.2.1 5 0 = ad 5 0 ∧ u.2.1 50 0 = ad 50 0 ∧ ∀ k, 4 ≤ k → u.1 k = n k) ∧ ∀ kd s, (kd = 5 ∨ (20 ≤ kd ∧ kd < 50)) → u.2.2 kd s 0 = C kd s 0 := by
  rcases h with ⟨v, z, -, h, rfl, -⟩ | ⟨-, rfl, -⟩ | ⟨-, rfl, -⟩
  · have f := f_X4_printer h
    exact ⟨f, fun kd s q => by dsimp only; rw [q_ua, if_neg (by omega)]; exact k_X4_printer h kd s q⟩
  · exact ⟨⟨rfl, rfl, rfl, fun _ _ => rfl⟩, fun _ _ _ => rfl⟩
  · exact ⟨⟨rfl, rfl, rfl, fun _ _ => rfl⟩, fun _ _ _ => rfl⟩
theorem k_X4_ticket {n : Nat → Nat} {ad : Nat → Nat → Nat} {C : q_S} {a b d : Int} {r : Int32} {u : q_U} (h : tX4_ticket n ad C a b d r u) : ∀ kd s, (kd = 5 ∨ (20 ≤ kd ∧ kd < 50)) → u.2.2 kd s 0 = C kd s 0 := by
  intro kd s q
  rcases h with ⟨ad1, -, -, -, -, -, rfl, -⟩
  · dsimp only; rw [q_ua, if_neg (by omega), q_ua, if_neg (by omega), q_ua, if_neg (by omega), q_ua, if_neg (by omega)]
theorem f_L_ticket {n : Nat → Nat} {ad : Nat → Nat → Nat} {C : q_S} {a b d : Int} {r : Int32} {u : q_U} (h : pL_ticket n ad C a b d r u) : (u.2.1 4 0 = ad 4 0 ∧ u.2.1 5 0 = ad 5 0 ∧ u.2.1 50 0 = ad 50 0 ∧ ∀ k, 4 ≤ k → u.1 k = n k) ∧ ∀ kd s, (kd = 5 ∨ (20 ≤ kd ∧ kd < 50)) → u.2.2 kd s 0 = C kd s 0 := by
  rcases h with ⟨v, z, -, h, rfl, -⟩ | ⟨-, rfl, -⟩ | ⟨-, rfl, -⟩
  · have f := f_X4_ticket h
    exact ⟨f, fun kd s q => by dsimp only; rw [q_ua, if_neg (by omega)]; exact k_X4_ticket h kd s q⟩
  · exact ⟨⟨rfl, rfl, rfl, fun _ _ => rfl⟩, fun _ _ _ => rfl⟩
  · exact ⟨⟨rfl, rfl, rfl, fun _ _ => rfl⟩, fun _ _ _ => rfl⟩
theorem k_X4_job {n : Nat → Nat} {ad : Nat → Nat → Nat} {C : q_S} {a b d f y : Int} {r : Int32} {u : q_U} (h : tX4_job n ad C a b d f y r u) : ∀ kd s, (kd = 5 ∨ (20 ≤ kd ∧ kd < 50)) → u.2.2 kd s 0 = C kd s 0 := by
  intro kd s q
  rcases h with ⟨ad1, ad2, -, -, -, -, -, -, -, -, rfl, -⟩
  · dsimp only; rw [q_ua, if_neg (by omega), q_ua, if_neg (by omega), q_ua, if_neg (by omega), q_ua, if_neg (by omega), q_ua, if_neg (by omega), q_ua, if_neg (by omega), q_ua, if_neg (by omega), q_ua, if_neg (by omega), q_ua, if_neg (by omega), q_ua, if_neg (by omega), q_ua, if_neg (by omega)]
theorem f_L_job {n : Nat → Nat} {ad : Nat → Nat → Nat} {C : q_S} {a b d f y : Int} {r : Int32} {u : q_U} (h : pL_job n ad C a b d f y r u) : (u.2.1 4 0 = ad 4 0 ∧ u.2.1 5 0 = ad 5 0 ∧ u.2.1 50 0 = ad 50 0 ∧ ∀ k, 4 ≤ k → u.1 k = n k) ∧ ∀ kd s, (kd = 5 ∨ (20 ≤ kd ∧ kd < 50)) → u.2.2 kd s 0 = C kd s 0 := by
  rcases h with ⟨v, z, -, h, rfl, -⟩ | ⟨-, rfl, -⟩ | ⟨-, rfl, -⟩ | ⟨-, rfl, -⟩
  · have f := f_X4_job h
    exact ⟨f, fun kd s q => by dsimp only; rw [q_ua, if_neg (by omega)]; exact k_X4_job h kd s q⟩
  · exact ⟨⟨rfl, rfl, rfl, fun _ _ => rfl⟩, fun _ _ _ => rfl⟩
  · exact ⟨⟨rfl, rfl, rfl, fun _ _ => rfl⟩, fun _ _ _ => rfl⟩
  · exact ⟨⟨rfl, rfl, rfl, fun _ _ => rfl⟩, fun _ _ _ => rfl⟩
theorem k_X4_take {n : Nat → Nat} {ad : Nat → Nat → Nat} {C : q_S} {a y : Int} {r : Int32} {u : q_U} (h : tX4_take n ad C a y r u) : ∀ kd s, (kd = 5 ∨ (20 ≤ kd ∧ kd < 50)) → u.2.2 kd s 0 = C kd s 0 := by
  intro kd s q
  rcases h with ⟨-, -, -, -, rfl, -⟩ | ⟨-, -, -, -, -, rfl, -⟩ | ⟨-, -, -, -, -, rfl, -⟩
  · dsimp only; rw [q_ua, if_neg (by omega)]
  · dsimp only; rw [q_ua, if_neg (by omega), q_ua, if_neg (by omega), q_ua, if_neg (by omega), q_ua, if_neg (by omega), q_ua, if_neg (by omega)]
  · dsimp only; rw [q_ua, if_neg (by omega), q_ua, if_neg (by omega), q_ua, if_neg (by omega), q_ua, if_neg (by omega), q_ua, if_neg (by omega), q_ua, if_neg (by omega), q_ua, if_neg (by omega)]
theorem f_L_take {n : Nat → Nat} {ad : Nat → Nat → Nat} {C : q_S} {a y : Int} {r : Int32} {u : q_U} (h : pL_take n ad C a y r u) : (u.2.1 4 0 = ad 4 0 ∧ u.2.1 5 0 = ad 5 0 ∧ u.2.1 50 0 = ad 50 0 ∧ ∀ k, 4 ≤ k → u.1 k = n k) ∧ ∀ kd s, (kd = 5 ∨ (20 ≤ kd ∧ kd < 50)) → u.2.2 kd s 0 = C kd s 0 := by
  rcases h with ⟨v, z, -, h, rfl, -⟩ | ⟨-, rfl, -⟩ | ⟨-, rfl, -⟩ | ⟨-, rfl, -⟩
  · have f := f_X4_take h
    exact ⟨f, fun kd s q => by dsimp only; rw [q_ua, if_neg (by omega)]; exact k_X4_take h kd s q⟩
  · exact ⟨⟨rfl, rfl, rfl, fun _ _ => rfl⟩, fun _ _ _ => rfl⟩
  · exact ⟨⟨rfl, rfl, rfl, fun _ _ => rfl⟩, fun _ _ _ => rfl⟩
  · exact ⟨⟨rfl, rfl, rfl, fun _ _ => rfl⟩, fun _ _ _ => rfl⟩
theorem k_X4_print {n : Nat → Nat} {ad : Nat → Nat → Nat} {C : q_S} {a b : Int} {r : Int32} {u : q_U} (h : tX4_print n ad C a b r u) : ∀ kd s, (kd = 5 ∨ (20 ≤ kd ∧ kd < 50)) → u.2.2 kd s 0 = C kd s 0 := by
  intro kd s q
  rcases h with ⟨-, -, -, rfl, -⟩ | ⟨-, -, -, -, rfl, -⟩ | ⟨-, -, -, -, rfl, -⟩
  · rfl
  · dsimp only; unfold c_ps c_pst; rw [q_ua, if_neg (by omega), q_ua, if_neg (by omega), q_ua, if_neg (by omega), q_ua, if_neg (by omega), q_ua, if_neg (by omega)]
  · dsimp only; unfold c_ps c_pst; rw [q_ua, if_neg (by omega), q_ua, if_neg (by omega), q_ua, if_neg (by omega), q_ua, if_neg (by omega), q_ua, if_neg (by omega), q_ua, if_neg (by omega), q_ua, if_neg (by omega)]
theorem f_L_print {n : Nat → Nat} {ad : Nat → Nat → Nat} {C : q_S} {a b : Int} {r : Int32} {u : q_U} (h : pL_print n ad C a b r u) : (u.2.1 4 0 = ad 4 0 ∧ u.2.1 5 0 = ad 5 0 ∧ u.2.1 50 0 = ad 50 0 ∧ ∀ k, 4 ≤ k → u.1 k = n k) ∧ ∀ kd s, (kd = 5 ∨ (20 ≤ kd ∧ kd < 50)) → u.2.2 kd s 0 = C kd s 0 := by
  rcases h with ⟨v, z, -, h, rfl, -⟩ | ⟨-, rfl, -⟩ | ⟨-, rfl, -⟩
  · have f := f_X4_print h
    exact ⟨f, fun kd s q => by dsimp only; rw [q_ua, if_neg (by omega)]; exact k_X4_print h kd s q⟩
  · exact ⟨⟨rfl, rfl, rfl, fun _ _ => rfl⟩, fun _ _ _ => rfl⟩
  · exact ⟨⟨rfl, rfl, rfl, fun _ _ => rfl⟩, fun _ _ _ => rfl⟩
theorem k_X4_fault {n : Nat → Nat} {ad : Nat → Nat → Nat} {C : q_S} {a : Int} {r : Int32} {u : q_U} (h : tX4_fault n ad C a r u) : ∀ kd s, (kd = 5 ∨ (20 ≤ kd ∧ kd < 50)) → u.2.2 kd s 0 = C kd s 0 := by
  intro kd s q
  rcases h with ⟨-, -, rfl, -⟩ | ⟨-, -, -, rfl, -⟩ | ⟨-, -, -, -, rfl, -⟩ | ⟨-, -, -, -, rfl, -⟩
  · rfl
  · dsimp only; rw [q_ua, if_neg (by omega), q_ua, if_neg (by omega)]
  · dsimp only; rw [q_ua, if_neg (by omega), q_ua, if_neg (by omega), q_ua, if_neg (by omega), q_ua, if_neg (by omega)]
  · dsimp only; rw [q_ua, if_neg (by omega), q_ua, if_neg (by omega), q_ua, if_neg (by omega), q_ua, if_neg (by omega), q_ua, if_neg (by omega), q_ua, if_neg (by omega), q_ua, if_neg (by omega)]
theorem f_L_fault {n : Nat → Nat} {ad : Nat → Nat → Nat} {C : q_S} {a : Int} {r : Int32} {u : q_U} (h : pL_fault n ad C a r u) : (u.2.1 4 0 = ad 4 0 ∧ u.2.1 5 0 = ad 5 0 ∧ u.2.1 50 0 = ad 50 0 ∧ ∀ k, 4 ≤ k → u.1 k = n k) ∧ ∀ kd s, (kd = 5 ∨ (20 ≤ kd ∧ kd < 50)) → u.2.2 kd s 0 = C kd s 0 := by
  rcases h with ⟨v, z, -, h, rfl, -⟩ | ⟨-, rfl, -⟩
  · have f := f_X4_fault h
    exact ⟨f, fun kd s q => by dsimp only; rw [q_ua, if_neg (by omega)]; exact k_X4_fault h kd s q⟩
  · exact ⟨⟨rfl, rfl, rfl, fun _ _ => rfl⟩, fun _ _ _ => rfl⟩
theorem k_X4_hold {n : Nat → Nat} {ad : Nat → Nat → Nat} {C : q_S} {a b : Int} {r : Int32} {u : q_U} (h : tX4_hold n ad C a b r u) : ∀ kd s, (kd = 5 ∨ (20 ≤ kd ∧ kd < 50)) → u.2.2 kd s 0 = C kd s 0 := by
  intro kd s q
  rcases h with ⟨-, rfl, -⟩
  · dsimp only; rw [q_ua, if_neg (by omega)]
theorem f_L_hold {n : Nat → Nat} {ad : Nat → Nat → Nat} {C : q_S} {a b : Int} {r : Int32} {u : q_U} (h : pL_hold n ad C a b r u) : (u.2.1 4 0 = ad 4 0 ∧ u.2.1 5 0 = ad 5 0 ∧ u.2.1 50 0 = ad 50 0 ∧ ∀ k, 4 ≤ k → u.1 k = n k) ∧ ∀ kd s, (kd = 5 ∨ (20 ≤ kd ∧ kd < 50)) → u.2.2 kd s 0 = C kd s 0 := by
  rcases h with ⟨v, z, -, h, rfl, -⟩ | ⟨-, rfl, -⟩
  · have f := f_X4_hold h
    exact ⟨f, fun kd s q => by dsimp only; rw [q_ua, if_neg (by omega)]; exact k_X4_hold h kd s q⟩
  · exact ⟨⟨rfl, rfl, rfl, fun _ _ => rfl⟩, fun _ _ _ => rfl⟩
theorem k_X4_cancel {n : Nat → Nat} {ad : Nat → Nat → Nat} {C : q_S} {a : Int} {r : Int32} {u : q_U} (h : tX4_cancel n ad C a r u) : ∀ kd s, (kd = 5 ∨ (20 ≤ kd ∧ kd < 50)) → u.2.2 kd s 0 = C kd s 0 := by
  intro kd s q
  rcases h with ⟨-, -, rfl, -⟩ | ⟨-, -, rfl, -⟩
  · dsimp only; unfold c_cs; rw [if_neg (by omega)]
  · dsimp only; unfold c_ep; rw [if_neg (by omega), q_ua, if_neg (by omega)]; unfold c_cs; rw [if_neg (by omega)]
theorem f_L_cancel {n : Nat → Nat} {ad : Nat → Nat → Nat} {C : q_S} {a : Int} {r : Int32} {u : q_U} (h : pL_cancel n ad C a r u) : (u.2.1 4 0 = ad 4 0 ∧ u.2.1 5 0 = ad 5 0 ∧ u.2.1 50 0 = ad 50 0 ∧ ∀ k, 4 ≤ k → u.1 k = n k) ∧ ∀ kd s, (kd = 5 ∨ (20 ≤ kd ∧ kd < 50)) → u.2.2 kd s 0 = C kd s 0 := by
  rcases h with ⟨v, z, -, h, rfl, -⟩ | ⟨-, rfl, -⟩
  · have f := f_X4_cancel h
    exact ⟨f, fun kd s q => by dsimp only; rw [q_ua, if_neg (by omega)]; exact k_X4_cancel h kd s q⟩
  · exact ⟨⟨rfl, rfl, rfl, fun _ _ => rfl⟩, fun _ _ _ => rfl⟩
theorem k_X4_state {n : Nat → Nat} {ad : Nat → Nat → Nat} {C : q_S} {a b : Int} {r : Int32} {u : q_U} (h : tX4_state n ad C a b r u) : ∀ kd s, (kd = 5 ∨ (20 ≤ kd ∧ kd < 50)) → u.2.2 kd s 0 = C kd s 0 := by
  intro kd s q
  rcases h with ⟨-, -, rfl, -⟩ | ⟨-, -, -, rfl, -⟩ | ⟨-, -, -, -, rfl, -⟩ | ⟨-, -, -, -, -, rfl, -⟩ | ⟨-, -, -, -, -, -, rfl, -⟩
  · rfl
  · rfl
  · rfl
  · rfl
  · rfl
theorem f_L_state {n : Nat → Nat} {ad : Nat → Nat → Nat} {C : q_S} {a b : Int} {r : Int32} {u : q_U} (h : pL_state n ad C a b r u) : (u.2.1 4 0 = ad 4 0 ∧ u.2.1 5 0 = ad 5 0 ∧ u.2.1 50 0 = ad 50 0 ∧ ∀ k, 4 ≤ k → u.1 k = n k) ∧ ∀ kd s, (kd = 5 ∨ (20 ≤ kd ∧ kd < 50)) → u.2.2 kd s 0 = C kd s 0 := by
  rcases h with ⟨v, z, -, h, rfl, -⟩ | ⟨-, rfl, -⟩ | ⟨-, rfl, -⟩
  · have f := f_X4_state h
    exact ⟨f, fun kd s q => by dsimp only; rw [q_ua, if_neg (by omega)]; exact k_X4_state h kd s q⟩
  · exact ⟨⟨rfl, rfl, rfl, fun _ _ => rfl⟩, fun _ _ _ => rfl⟩
  · exact ⟨⟨rfl, rfl, rfl, fun _ _ => rfl⟩, fun _ _ _ => rfl⟩
theorem k_X4_doubled {n : Nat → Nat} {ad : Nat → Nat → Nat} {C : q_S} {a b : Int} {r : Int32} {u : q_U} (h : tX4_doubled n ad C a b r u) : ∀ kd s, (kd = 5 ∨ (20 ≤ kd ∧ kd < 50)) → u.2.2 kd s 0 = C kd s 0 := by
  intro kd s q
  rcases h with ⟨-, -, -, rfl, -⟩ | ⟨k, -, -, -, -, rfl, -⟩
  · rfl
  · rfl
theorem f_L_doubled {n : Nat → Nat} {ad : Nat → Nat → Nat} {C : q_S} {a b : Int} {r : Int32} {u : q_U} (h : pL_doubled n ad C a b r u) : (u.2.1 4 0 = ad 4 0 ∧ u.2.1 5 0 = ad 5 0 ∧ u.2.1 50 0 = ad 50 0 ∧ ∀ k, 4 ≤ k → u.1 k = n k) ∧ ∀ kd s, (kd = 5 ∨ (20 ≤ kd ∧ kd < 50)) → u.2.2 kd s 0 = C kd s 0 := by
  rcases h with ⟨v, z, -, h, rfl, -⟩ | ⟨-, rfl, -⟩ | ⟨-, rfl, -⟩
  · have f := f_X4_doubled h
    exact ⟨f, fun kd s q => by dsimp only; rw [q_ua, if_neg (by omega)]; exact k_X4_doubled h kd s q⟩
  · exact ⟨⟨rfl, rfl, rfl, fun _ _ => rfl⟩, fun _ _ _ => rfl⟩
  · exact ⟨⟨rfl, rfl, rfl, fun _ _ => rfl⟩, fun _ _ _ => rfl⟩
theorem k_X4_account {n : Nat → Nat} {ad : Nat → Nat → Nat} {C : q_S} {a b : Int} {r : Int64} {u : q_U} (h : tX4_account n ad C a b r u) : ∀ kd s, (kd = 5 ∨ (20 ≤ kd ∧ kd < 50)) → u.2.2 kd s 0 = C kd s 0 := by
  intro kd s q
  rcases h with ⟨-, -, rfl, -⟩ | ⟨-, -, -, rfl, -⟩ | ⟨-, -, -, -, rfl, -⟩ | ⟨-, -, -, -, -, rfl, -⟩
  · rfl
  · rfl
  · rfl
  · rfl
theorem f_L_account {n : Nat → Nat} {ad : Nat → Nat → Nat} {C : q_S} {a b : Int} {r : Int32} {u : q_U} (h : pL_account n ad C a b r u) : (u.2.1 4 0 = ad 4 0 ∧ u.2.1 5 0 = ad 5 0 ∧ u.2.1 50 0 = ad 50 0 ∧ ∀ k, 4 ≤ k → u.1 k = n k) ∧ ∀ kd s, (kd = 5 ∨ (20 ≤ kd ∧ kd < 50)) → u.2.2 kd s 0 = C kd s 0 := by
  rcases h with ⟨v, z, -, h, rfl, -⟩ | ⟨-, rfl, -⟩ | ⟨-, rfl, -⟩
  · have f := f_X4_account h
    exact ⟨f, fun kd s q => by dsimp only; rw [q_ua, if_neg (by omega)]; exact k_X4_account h kd s q⟩
  · exact ⟨⟨rfl, rfl, rfl, fun _ _ => rfl⟩, fun _ _ _ => rfl⟩
  · exact ⟨⟨rfl, rfl, rfl, fun _ _ => rfl⟩, fun _ _ _ => rfl⟩
theorem k_X4_reason {n : Nat → Nat} {ad : Nat → Nat → Nat} {C : q_S} {a : Int} {r : Int32} {u : q_U} (h : tX4_reason n ad C a r u) : ∀ kd s, (kd = 5 ∨ (20 ≤ kd ∧ kd < 50)) → u.2.2 kd s 0 = C kd s 0 := by
  intro kd s q
  rcases h with ⟨-, -, -, -, -, -, rfl, -⟩ | ⟨-, -, -, -, -, -, rfl, -⟩ | ⟨-, -, -, -, -, rfl, -⟩ | ⟨-, -, -, -, rfl, -⟩ | ⟨-, -, -, rfl, -⟩ | ⟨-, -, rfl, -⟩
  · rfl
  · rfl
  · rfl
  · rfl
  · rfl
  · rfl
theorem f_L_reason {n : Nat → Nat} {ad : Nat → Nat → Nat} {C : q_S} {a : Int} {r : Int32} {u : q_U} (h : pL_reason n ad C a r u) : (u.2.1 4 0 = ad 4 0 ∧ u.2.1 5 0 = ad 5 0 ∧ u.2.1 50 0 = ad 50 0 ∧ ∀ k, 4 ≤ k → u.1 k = n k) ∧ ∀ kd s, (kd = 5 ∨ (20 ≤ kd ∧ kd < 50)) → u.2.2 kd s 0 = C kd s 0 := by
  rcases h with ⟨v, z, -, h, rfl, -⟩ | ⟨-, rfl, -⟩
  · have f := f_X4_reason h
    exact ⟨f, fun kd s q => by dsimp only; rw [q_ua, if_neg (by omega)]; exact k_X4_reason h kd s q⟩
  · exact ⟨⟨rfl, rfl, rfl, fun _ _ => rfl⟩, fun _ _ _ => rfl⟩
theorem k_X4_split {n : Nat → Nat} {ad : Nat → Nat → Nat} {C : q_S} {a b d : Int} {r : Int32} {u : q_U} (h : tX4_split n ad C a b d r u) : ∀ kd s, (kd = 5 ∨ (20 ≤ kd ∧ kd < 50)) → u.2.2 kd s 0 = C kd s 0 := by
  intro kd s q
  rcases h with ⟨-, -, -, -, rfl, -⟩ | ⟨ad1, -, -, -, -, -, rfl, -⟩ | ⟨-, -, -, rfl, -⟩
  · rfl
  · dsimp only; rw [q_ua, if_neg (by omega), q_ua, if_neg (by omega), q_ua, if_neg (by omega), q_ua, if_neg (by omega), q_ua, if_neg (by omega)]
  · rfl
theorem f_L_split {n : Nat → Nat} {ad : Nat → Nat → Nat} {C : q_S} {a b d : Int} {r : Int32} {u : q_U} (h : pL_split n ad C a b d r u) : (u.2.1 4 0 = ad 4 0 ∧ u.2.1 5 0 = ad 5 0 ∧ u.2.1 50 0 = ad 50 0 ∧ ∀ k, 4 ≤ k → u.1 k = n k) ∧ ∀ kd s, (kd = 5 ∨ (20 ≤ kd ∧ kd < 50)) → u.2.2 kd s 0 = C kd s 0 := by
  rcases h with ⟨v, z, -, h, rfl, -⟩ | ⟨-, rfl, -⟩
  · have f := f_X4_split h
    exact ⟨f, fun kd s q => by dsimp only; rw [q_ua, if_neg (by omega)]; exact k_X4_split h kd s q⟩
  · exact ⟨⟨rfl, rfl, rfl, fun _ _ => rfl⟩, fun _ _ _ => rfl⟩
theorem k_X4_like {n : Nat → Nat} {ad : Nat → Nat → Nat} {C : q_S} {a : Int} {r : Int32} {u : q_U} (h : tX4_like n ad C a r u) : ∀ kd s, (kd = 5 ∨ (20 ≤ kd ∧ kd < 50)) → u.2.2 kd s 0 = C kd s 0 := by
  intro kd s q
  rcases h with ⟨-, rfl, -⟩
  · dsimp only; rw [q_ua, if_neg (by omega)]
theorem f_L_like {n : Nat → Nat} {ad : Nat → Nat → Nat} {C : q_S} {a : Int} {r : Int32} {u : q_U} (h : pL_like n ad C a r u) : (u.2.1 4 0 = ad 4 0 ∧ u.2.1 5 0 = ad 5 0 ∧ u.2.1 50 0 = ad 50 0 ∧ ∀ k, 4 ≤ k → u.1 k = n k) ∧ ∀ kd s, (kd = 5 ∨ (20 ≤ kd ∧ kd < 50)) → u.2.2 kd s 0 = C kd s 0 := by
  rcases h with ⟨v, z, -, h, rfl, -⟩ | ⟨-, rfl, -⟩
  · have f := f_X4_like h
    exact ⟨f, fun kd s q => by dsimp only; rw [q_ua, if_neg (by omega)]; exact k_X4_like h kd s q⟩
  · exact ⟨⟨rfl, rfl, rfl, fun _ _ => rfl⟩, fun _ _ _ => rfl⟩
