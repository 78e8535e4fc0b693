def n_1 : Nat → Nat := q_bump (fun _ => 0) 4
def n_2 : Nat → Nat := (q_bump (q_bump (q_bump (q_bump (q_bump n_1 6) 7) 8) 9) 10)
def n_3 : Nat → Nat := q_bump n_2 5
def n_4 : Nat → Nat := (q_bump (q_bump (q_bump (q_bump (q_bump (q_bump (q_bump (q_bump (q_bump (q_bump (q_bump (q_bump (q_bump (q_bump (q_bump (q_bump (q_bump (q_bump (q_bump (q_bump (q_bump (q_bump n_3 22) 23) 24) 25) 27) 28) 29) 31) 32) 33) 34) 35) 36) 38) 39) 40) 41) 42) 43) 44) 46) 47)
def n_5 : Nat → Nat := q_bump n_4 50
def C_2 : q_S := q_up (q_up (q_up (q_up (q_up (q_up (fun _ _ _ => 0) 4 0 0 (((n_1 6 : Nat) : Int) + 1)) 4 1 0 (((n_1 7 : Nat) : Int) + 1)) 4 2 0 (((n_1 8 : Nat) : Int) + 1)) 4 6 0 (((n_1 9 : Nat) : Int) + 1)) 4 7 0 (((n_1 10 : Nat) : Int) + 1)) 4 9 0 3
def C_4 : q_S := m_h0 (q_up (q_up (q_up (q_up (q_up (q_up (q_up (q_up (q_up (q_up (q_up (q_up (q_up (q_up (q_up (q_up (q_up (q_up (q_up (q_up (q_up (q_up (q_up C_2 5 2 0 (((n_3 22 : Nat) : Int) + 1)) 5 3 0 (((n_3 23 : Nat) : Int) + 1)) 5 4 0 (((n_3 24 : Nat) : Int) + 1)) 5 5 0 (((n_3 25 : Nat) : Int) + 1)) 5 7 0 (((n_3 27 : Nat) : Int) + 1)) 5 8 0 (((n_3 28 : Nat) : Int) + 1)) 5 9 0 (((n_3 29 : Nat) : Int) + 1)) 5 11 0 (((n_3 31 : Nat) : Int) + 1)) 5 12 0 (((n_3 32 : Nat) : Int) + 1)) 5 13 0 (((n_3 33 : Nat) : Int) + 1)) 5 14 0 (((n_3 34 : Nat) : Int) + 1)) 5 15 0 (((n_3 35 : Nat) : Int) + 1)) 5 16 0 (((n_3 36 : Nat) : Int) + 1)) 5 18 0 (((n_3 38 : Nat) : Int) + 1)) 5 19 0 (((n_3 39 : Nat) : Int) + 1)) 5 20 0 (((n_3 40 : Nat) : Int) + 1)) 5 21 0 (((n_3 41 : Nat) : Int) + 1)) 5 22 0 (((n_3 42 : Nat) : Int) + 1)) 5 23 0 (((n_3 43 : Nat) : Int) + 1)) 5 24 0 (((n_3 44 : Nat) : Int) + 1)) 5 26 0 (((n_3 46 : Nat) : Int) + 1)) 5 27 0 (((n_3 47 : Nat) : Int) + 1)) 5 29 0 3) (n_3 25) 9
theorem busy_0 {C : q_S} (h : ∀ p, C 2 4 p = 0) : ∀ m, busy C m = 0 := by
  intro m
  induction m with
  | zero => rfl
  | succ m ih => rw [busy, ih, h m, if_pos rfl]; rfl
theorem c_find_z {C : q_S} (j : Nat) : ∀ k, c_find C j 0 k = 0 := fun _ => rfl
set_option maxRecDepth 100000 in
theorem Rel_0 : Rel C_4 n_5 0 := by
  refine ⟨⟨⟨rfl, rfl, by decide⟩, ⟨rfl, rfl, by decide⟩, ⟨rfl, rfl, by decide⟩, ⟨rfl, by decide⟩, ⟨rfl, by decide⟩, rfl⟩, fun j => ⟨?_, ?_, ?_⟩, ⟨rfl, fun p => ⟨rfl, rfl, rfl, Int.le_refl 0, Int.le_refl 0, fun hp => absurd hp (Nat.not_lt_zero p)⟩⟩, fun t => ⟨rfl, rfl, fun ht => absurd ht (Nat.not_lt_zero t)⟩, fun t w hw => ⟨rfl, Int.le_refl 0, Int.le_refl 0⟩, ⟨⟨rfl, rfl, rfl, rfl⟩, fun j => ⟨rfl, rfl, rfl, rfl, fun hj => absurd hj (Nat.not_lt_zero j)⟩⟩, fun j => ⟨rfl, rfl⟩, ⟨fun j hj => absurd hj (Nat.not_lt_zero j), fun i j hi => absurd hi (Nat.not_lt_zero i)⟩, fun k => ⟨rfl, rfl, rfl, fun hk => absurd hk (Nat.not_lt_zero k)⟩, fun k hk => absurd hk (Nat.not_lt_zero k), fun k => ?_, fun k => ⟨fun q => ?_, fun _ => rfl⟩, fun p hp => absurd rfl hp, ⟨rfl, fun p => ⟨fun hp => ?_, fun hp => ?_⟩⟩, ⟨rfl, Int.le_refl 0, ?_⟩, fun k => ⟨rfl, rfl, Int.le_refl 0⟩, ⟨rfl, fun z hz => ?_⟩, ⟨rfl, fun s hs => ?_⟩, rfl⟩
  · rw [if_neg (show ¬ j < n_5 2 from Nat.not_lt_zero j)]; rfl
  · rw [if_neg (show ¬ j < n_5 3 from Nat.not_lt_zero j)]; rfl
  · rw [if_neg (show ¬ j < n_5 0 from Nat.not_lt_zero j)]; rfl
  · show (0 : Int) = 0 * _ + 0
    omega
  · have q : (0 : Int) = 1 := q
    omega
  · show m_h0 _ _ _ 25 (p + 1) 0 = (0 : Int) - 1
    unfold m_h0
    rw [if_pos ⟨rfl, by omega, rfl⟩]
    rfl
  · show m_h0 _ _ _ 25 (p + 1) 0 = (0 : Int)
    unfold m_h0
    rw [if_neg (by omega)]
    rfl
  · rw [busy_0 (fun _ => rfl)]
    decide
  · unfold c_sl at hz
    simp only [List.mem_cons, List.not_mem_nil, or_false] at hz
    rcases hz with rfl | rfl | rfl | rfl | rfl <;> exact ⟨rfl, rfl⟩
  · unfold m_sl at hs
    simp only [List.mem_cons, List.not_mem_nil, or_false] at hs
    rcases hs with rfl | rfl | rfl | rfl | rfl | rfl | rfl | rfl | rfl | rfl | rfl | rfl | rfl | rfl | rfl | rfl | rfl | rfl | rfl | rfl | rfl | rfl <;> exact ⟨rfl, rfl⟩
theorem q_tok0 (n : Nat → Nat) (t : Nat) : q_tok n t 0 := by
  match t with
  | 0 => exact ⟨by decide, by decide⟩
  | 1 => exact ⟨by decide, by decide⟩
  | 2 => exact Or.inl rfl
  | k + 3 => exact ⟨Int.le_refl 0, by omega⟩
theorem q_P0 (g : q_G) (s0 : Nat) (ad : Nat → Nat → Nat) (H : Heap) : q_P g s0 (fun _ => 0) ad (fun _ _ _ => 0) H := ⟨fun kd i h => absurd h (Nat.not_lt_zero i), fun kd i kd' i' h => absurd h (Nat.not_lt_zero i), fun kd s i => q_tok0 _ _, fun _ _ _ _ => rfl⟩
theorem q_hz4 (ad : Nat → Nat → Nat) : ∀ k, k < 11 → defaultValue (tyX4 k) = q_val ad (q_ty 4 k) 0 := by
  intro k hk
  rcases (show k = 0 ∨ k = 1 ∨ k = 2 ∨ k = 3 ∨ k = 4 ∨ k = 5 ∨ k = 6 ∨ k = 7 ∨ k = 8 ∨ k = 9 ∨ k = 10 by omega) with rfl | rfl | rfl | rfl | rfl | rfl | rfl | rfl | rfl | rfl | rfl <;> rfl
theorem q_hz5 (ad : Nat → Nat → Nat) : ∀ k, k < 30 → defaultValue (tyX5 k) = q_val ad (q_ty 5 k) 0 := by
  intro k hk
  rcases (show k = 0 ∨ k = 1 ∨ k = 2 ∨ k = 3 ∨ k = 4 ∨ k = 5 ∨ k = 6 ∨ k = 7 ∨ k = 8 ∨ k = 9 ∨ k = 10 ∨ k = 11 ∨ k = 12 ∨ k = 13 ∨ k = 14 ∨ k = 15 ∨ k = 16 ∨ k = 17 ∨ k = 18 ∨ k = 19 ∨ k = 20 ∨ k = 21 ∨ k = 22 ∨ k = 23 ∨ k = 24 ∨ k = 25 ∨ k = 26 ∨ k = 27 ∨ k = 28 ∨ k = 29 by omega) with rfl | rfl | rfl | rfl | rfl | rfl | rfl | rfl | rfl | rfl | rfl | rfl | rfl | rfl | rfl | rfl | rfl | rfl | rfl | rfl | rfl | rfl | rfl | rfl | rfl | rfl | rfl | rfl | rfl | rfl <;> rfl
set_option maxHeartbeats 4000000 in
set_option maxRecDepth 100000 in
theorem law_loop {p : Program} {l : Launch} {e : Env} {s : State} {m : MethodId} {args : Array Value} {below : List Frame} {meth : Method} {c : Code} {Q : State → Prop} {g : q_G} {s0 : Nat} (htr : l.stackTraces = false) (X : q_X p s m args c cL_law 8 wsL_law RL g s0) {b L : Nat} {xs : Nat → Int32} (hXs : va_X b L xs s s.heap) (hbl : b < s.heap.size) (hbs : b < s0) (hL : L ≤ 3584)
    (kx : ∀ (q : Nat) (H : Heap) (locs : List Loc) (ls : Array Slot), q ≤ 513 → va_S (q_A s0) s.heap H locs → W p l e room_1 s m args below meth c H locs (30 + 3 * q) (38970 + 21 * q) Q (F0 m 1163 ls [])) :
    ∀ (N q : Nat) (n : Nat → Nat) (ad : Nat → Nat → Nat) (C : q_S) (H : Heap) (locs : List Loc) (ls : Array Slot), L < 7 * q + 7 * N → 7 * q ≤ L → Rel C n q → q_P g s0 n ad C H → va_S (q_A s0) s.heap H locs → lv_has ls 8 [(4, .int (iI ((7 * q : Nat) : Int))), (0, .ref b), (1, .ref (ad 4 0)), (2, .ref (ad 5 0)), (3, .ref (ad 50 0))] → W p l e room_1 s m args below meth c H locs (30 + 3 * q) (38970 + 21 * q) Q (F0 m 23 ls []) := by
  intro N
  induction N with
  | zero => intro q n ad C H locs ls h1 h2; omega
  | succ N ih =>
    intro q n ad C H locs ls h1 h2 hRel hP hS hl
    refine lv_iload X.1 X.2.1 dL_law_23 (lv_at hl 0 rfl) ?_
    refine lv_aload_n X.1 X.2.1 dL_law_25 rfl (lv_at hl 1 rfl) ?_
    refine q_slen X hXs hbl hbs hS dL_law_26 ?_
    refine lv_bipush (v := iI (7)) X.1 X.2.1 dL_law_27 (by decide) ?_
    refine q_isub X dL_law_29 ?_
    refine q_icmp_gt (tgt := 1163) X (by omega) (by omega) dL_law_30 (by decide) (fun h_1 => ?_) (fun h_1 => ?_)
    · exact kx q _ _ ls (by omega) hS
    refine lv_aload_n X.1 X.2.1 dL_law_33 rfl (lv_at hl 1 rfl) ?_
    refine lv_iload X.1 X.2.1 dL_law_34 (lv_at hl 0 rfl) ?_
    refine q_sld X hXs hbl hbs hS (7 * q) rfl (by omega) hL dL_law_36 ?_
    refine lv_bipush (v := iI (15)) X.1 X.2.1 dL_law_37 (by decide) ?_
    refine lv_iand X.1 X.2.1 dL_law_39 ?_
    obtain ⟨w9, hw9, ew9⟩ := iI_of (iI (xs (7 * q)).toInt &&& iI (15))
    rw [ew9]
    have kn : ∀ (n1 : Nat → Nat) (ad1 : Nat → Nat → Nat) (C1 : q_S) (H : Heap) (locs : List Loc) (ls : Array Slot), Rel C1 n1 (q + 1) → q_P g s0 n1 ad1 C1 H → va_S (q_A s0) s.heap H locs → lv_has ls 8 [(4, .int (iI ((7 * q : Nat) : Int))), (0, .ref b), (1, .ref (ad1 4 0)), (2, .ref (ad1 5 0)), (3, .ref (ad1 50 0))] → W p l e room_1 s m args below meth c H locs (30 + 3 * q + 3) (38970 + 21 * q + 21) Q (F0 m 1157 ls []) := by
      intro n1 ad1 C1 H locs ls hRel hP hS hl
      refine q_iinc (lv' := [(4, .int (iI (((7 * q : Nat) : Int) + 7))), (0, .ref b), (1, .ref (ad1 4 0)), (2, .ref (ad1 5 0)), (3, .ref (ad1 50 0))]) (k := 0) X dL_law_1157 hl rfl (by decide) rfl (fun ls hl => ?_)
      refine lv_goto (tgt := 23) X.1 X.2.1 dL_law_1160 (by decide) ?_
      rw [show ((7 * q : Nat) : Int) + 7 = ((7 * (q + 1) : Nat) : Int) by omega] at hl
      rw [show 30 + 3 * q + 3 = 30 + 3 * (q + 1) by omega, show 38970 + 21 * q + 21 = 38970 + 21 * (q + 1) by omega]
      exact ih (q + 1) n1 ad1 C1 _ _ ls (by omega) (by omega) hRel hP hS hl
    by_cases c_0 : w9 = 0
    · refine q_tsi (tgt := 112) X hw9 dL_law_40 (by omega) (by omega) (by rw [c_0]; rfl) (by decide) ?_
      exact w_law_printer htr X hXs hbl hbs hL q (by omega) (by omega) (by omega) hRel hP hS hl (fun n1 ad1 C1 H locs ls hRel _ _ _ hP hS hl => kn n1 ad1 C1 H locs ls hRel hP hS hl)
    by_cases c_1 : w9 = 1
    · refine q_tsi (tgt := 180) X hw9 dL_law_40 (by omega) (by omega) (by rw [c_1]; rfl) (by decide) ?_
      exact w_law_ticket htr X hXs hbl hbs hL q (by omega) (by omega) (by omega) hRel hP hS hl (fun n1 ad1 C1 H locs ls hRel _ _ _ hP hS hl => kn n1 ad1 C1 H locs ls hRel hP hS hl)
    by_cases c_2 : w9 = 2
    · refine q_tsi (tgt := 260) X hw9 dL_law_40 (by omega) (by omega) (by rw [c_2]; rfl) (by decide) ?_
      exact w_law_job htr X hXs hbl hbs hL q (by omega) (by omega) (by omega) hRel hP hS hl (fun n1 ad1 C1 H locs ls hRel _ _ _ hP hS hl => kn n1 ad1 C1 H locs ls hRel hP hS hl)
    by_cases c_3 : w9 = 3
    · refine q_tsi (tgt := 398) X hw9 dL_law_40 (by omega) (by omega) (by rw [c_3]; rfl) (by decide) ?_
      exact w_law_take htr X hXs hbl hbs hL q (by omega) (by omega) (by omega) hRel hP hS hl (fun n1 ad1 C1 H locs ls hRel _ _ _ hP hS hl => kn n1 ad1 C1 H locs ls hRel hP hS hl)
    by_cases c_4 : w9 = 4
    · refine q_tsi (tgt := 498) X hw9 dL_law_40 (by omega) (by omega) (by rw [c_4]; rfl) (by decide) ?_
      exact w_law_print htr X hXs hbl hbs hL q (by omega) (by omega) (by omega) hRel hP hS hl (fun n1 ad1 C1 H locs ls hRel _ _ _ hP hS hl => kn n1 ad1 C1 H locs ls hRel hP hS hl)
    by_cases c_5 : w9 = 5
    · refine q_tsi (tgt := 566) X hw9 dL_law_40 (by omega) (by omega) (by rw [c_5]; rfl) (by decide) ?_
      exact w_law_fault htr X hXs hbl hbs hL q (by omega) (by omega) (by omega) hRel hP hS hl (fun n1 ad1 C1 H locs ls hRel _ _ _ hP hS hl => kn n1 ad1 C1 H locs ls hRel hP hS hl)
    by_cases c_6 : w9 = 6
    · refine q_tsi (tgt := 622) X hw9 dL_law_40 (by omega) (by omega) (by rw [c_6]; rfl) (by decide) ?_
      exact w_law_hold htr X hXs hbl hbs hL q (by omega) (by omega) (by omega) hRel hP hS hl (fun n1 ad1 C1 H locs ls hRel _ _ _ hP hS hl => kn n1 ad1 C1 H locs ls hRel hP hS hl)
    by_cases c_7 : w9 = 7
    · refine q_tsi (tgt := 706) X hw9 dL_law_40 (by omega) (by omega) (by rw [c_7]; rfl) (by decide) ?_
      exact w_law_cancel htr X hXs hbl hbs hL q (by omega) (by omega) (by omega) hRel hP hS hl (fun n1 ad1 C1 H locs ls hRel _ _ _ hP hS hl => kn n1 ad1 C1 H locs ls hRel hP hS hl)
    by_cases c_8 : w9 = 8
    · refine q_tsi (tgt := 762) X hw9 dL_law_40 (by omega) (by omega) (by rw [c_8]; rfl) (by decide) ?_
      exact w_law_state htr X hXs hbl hbs hL q (by omega) (by omega) (by omega) hRel hP hS hl (fun n1 ad1 C1 H locs ls hRel _ _ _ hP hS hl => kn n1 ad1 C1 H locs ls hRel hP hS hl)
    by_cases c_9 : w9 = 9
    · refine q_tsi (tgt := 830) X hw9 dL_law_40 (by omega) (by omega) (by rw [c_9]; rfl) (by decide) ?_
      exact w_law_doubled htr X hXs hbl hbs hL q (by omega) (by omega) (by omega) hRel hP hS hl (fun n1 ad1 C1 H locs ls hRel _ _ _ hP hS hl => kn n1 ad1 C1 H locs ls hRel hP hS hl)
    by_cases c_10 : w9 = 10
    · refine q_tsi (tgt := 898) X hw9 dL_law_40 (by omega) (by omega) (by rw [c_10]; rfl) (by decide) ?_
      exact w_law_account htr X hXs hbl hbs hL q (by omega) (by omega) (by omega) hRel hP hS hl (fun n1 ad1 C1 H locs ls hRel _ _ _ hP hS hl => kn n1 ad1 C1 H locs ls hRel hP hS hl)
    by_cases c_11 : w9 = 11
    · refine q_tsi (tgt := 965) X hw9 dL_law_40 (by omega) (by omega) (by rw [c_11]; rfl) (by decide) ?_
      exact w_law_reason htr X hXs hbl hbs hL q (by omega) (by omega) (by omega) hRel hP hS hl (fun n1 ad1 C1 H locs ls hRel _ _ _ hP hS hl => kn n1 ad1 C1 H locs ls hRel hP hS hl)
    by_cases c_12 : w9 = 12
    · refine q_tsi (tgt := 1021) X hw9 dL_law_40 (by omega) (by omega) (by rw [c_12]; rfl) (by decide) ?_
      exact w_law_split htr X hXs hbl hbs hL q (by omega) (by omega) (by omega) hRel hP hS hl (fun n1 ad1 C1 H locs ls hRel _ _ _ hP hS hl => kn n1 ad1 C1 H locs ls hRel hP hS hl)
    by_cases c_13 : w9 = 13
    · refine q_tsi (tgt := 1101) X hw9 dL_law_40 (by omega) (by omega) (by rw [c_13]; rfl) (by decide) ?_
      exact w_law_like htr X hXs hbl hbs hL q (by omega) (by omega) (by omega) hRel hP hS hl (fun n1 ad1 C1 H locs ls hRel _ _ _ hP hS hl => kn n1 ad1 C1 H locs ls hRel hP hS hl)
    refine q_tso (tgt := 1157) X hw9 dL_law_40 (by omega) (by decide) ?_
    refine W.widen (Nat.le_add_right _ 3) (Nat.le_add_right _ 21) ?_
    exact kn n ad C _ _ ls (Rel_cg (fun _ _ _ _ => rfl) (Nat.le_succ q) hRel) hP hS hl
