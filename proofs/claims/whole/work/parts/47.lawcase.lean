set_option maxHeartbeats 4000000 in
set_option maxRecDepth 100000 in
theorem w_law_printer {p : Program} {l : Launch} {e : Env} {s : State} {m : MethodId} {args : Array Value} {below : List Frame} {meth : Method} {c : Code} {Q : State → Prop} {g : q_G} {s0 : Nat} (htr : l.stackTraces = false) {n : Nat → Nat} {ad : Nat → Nat → Nat} {C : q_S} {H : Heap} {locs : List Loc} {ls : Array Slot} {cells slots : Nat} (X : q_X p s m args c cL_law 8 wsL_law RL g s0) {b L : Nat} {xs : Nat → Int32} (hXs : va_X b L xs s s.heap) (hbl : b < s.heap.size) (hbs : b < s0) (hL : L ≤ 3584) (q : Nat) (hq : 7 * q + 7 ≤ L) (hcl : cells ≤ 600000) (hsl : slots ≤ 7200000) (hRel : Rel C n q) (hP : q_P g s0 n ad C H) (hS : va_S (q_A s0) s.heap H locs) (hl : lv_has ls 8 [(4, .int (iI (((7 * q) : Nat) : Int))), (0, .ref b), (1, .ref (ad 4 0)), (2, .ref (ad 5 0)), (3, .ref (ad 50 0))])
    (kx : ∀ (n1 : Nat → Nat) (ad1 : Nat → Nat → Nat) (C1 : q_S) (H : Heap) (locs : List Loc) (ls : Array Slot), Rel C1 n1 (q + 1) → ad1 4 0 = ad 4 0 → ad1 5 0 = ad 5 0 → ad1 50 0 = ad 50 0 → q_P g s0 n1 ad1 C1 H → va_S (q_A s0) s.heap H locs → lv_has ls 8 [(4, .int (iI ((7 * q : Nat) : Int))), (0, .ref b), (1, .ref (ad1 4 0)), (2, .ref (ad1 5 0)), (3, .ref (ad1 50 0))] → W p l e room_1 s m args below meth c H locs (cells + 3) (slots + 21) Q (F0 m 1157 ls [])) :
    W p l e room_1 s m args below meth c H locs cells slots Q (F0 m 112 ls []) := by
  have hz : gz C n := ⟨hP.2.2.2, fun p => hP.tok 2 4 p rfl⟩
  have hC : c_S C n := hRel.2.2.2.2.2.2.2.2.2.2.2.2.2.2.2.2.1
  have hR := hRel.cR hz
  have h50 : 0 < n 50 := by rw [hRel.2.2.2.2.2.2.2.2.2.2.2.2.2.2.2.2.2.2]; decide
  have hP0 := hP
  refine lv_aload_n X.1 X.2.1 dL_law_112 rfl (lv_at hl 2 rfl) ?_
  refine lv_aload_n X.1 X.2.1 dL_law_113 rfl (lv_at hl 1 rfl) ?_
  refine lv_iload X.1 X.2.1 dL_law_114 (lv_at hl 0 rfl) ?_
  refine lv_iconst (v := iI (1)) X.1 X.2.1 dL_law_116 rfl ?_
  refine q_iadd X dL_law_117 ?_
  refine q_sld X hXs hbl hbs hS (7 * q + 1) (by omega) (by omega) hL dL_law_118 ?_
  refine lv_aload_n X.1 X.2.1 dL_law_119 rfl (lv_at hl 1 rfl) ?_
  refine lv_iload X.1 X.2.1 dL_law_120 (lv_at hl 0 rfl) ?_
  refine lv_iconst (v := iI (2)) X.1 X.2.1 dL_law_122 rfl ?_
  refine q_iadd X dL_law_123 ?_
  refine q_sld X hXs hbl hbs hS (7 * q + 2) (by omega) (by omega) hL dL_law_124 ?_
  refine lv_aload_n X.1 X.2.1 dL_law_125 rfl (lv_at hl 4 rfl) ?_
  refine va_calli (vx_runSW (As := [.ref (ad 4 0), .int (iI (xs (7 * q + 1)).toInt), .int (iI (xs (7 * q + 2)).toInt), .ref (ad 50 0)]) (rest := []) X.fix (c_L_printer l htr g s0 n ad C q hC hR (by omega) h50 (xs (7 * q + 1)).toInt (xs (7 * q + 2)).toInt (i32r _) (i32r _)) (vx_cwSW 4 X.2.2.2.2.1 gL_law_L_printer rfl rfl rfl (by decide +kernel) ⟨Nat.le_of_ble_eq_true rfl, Nat.le_of_ble_eq_true rfl⟩) (q_preS X hP hS _) rfl rfl hl.1 rfl (lv_room (Nat.le_of_ble_eq_true rfl)) dL_law_126 ⟨(by show _ ≤ 601024; omega), (by show _ ≤ 7293034; omega)⟩) hS q_id q_id1 (fun r u t H locs ht hvm hw hB hz1 hk1 hS => ?_)
  obtain ⟨n1, ad1, C1⟩ := u
  have hP : q_P g s0 n1 ad1 C1 H := q_back hB ht
  obtain ⟨⟨f4, f5, f50, fn⟩, fk⟩ := f_L_printer hw
  dsimp only at f4 f5 f50 fn fk
  have hM1 : m_S C1 n1 := mS_u fk fn hRel.2.2.2.2.2.2.2.2.2.2.2.2.2.2.2.2.2.1
  have hR1 : m_R C1 q := mR_u fk (hRel.mR hz (by omega))
  have hl : lv_has ls 8 [(4, .int (iI (((7 * q) : Nat) : Int))), (0, .ref b), (1, .ref (ad1 4 0)), (2, .ref (ad1 5 0)), (3, .ref (ad1 50 0))] := lv_cong hl (lv_cs rfl (lv_cs rfl (lv_cs (congrArg Value.ref f4.symm) (lv_cs (congrArg Value.ref f5.symm) (lv_cs (congrArg Value.ref f50.symm) rfl)))))
  have v5 : 0 < n1 5 := m_v5 hM1
  have v50 : 0 < n1 50 := by rw [fn 50 (by decide)]; exact h50
  refine lv_istore (lv' := [(5, .int r), (4, .int (iI (((7 * q) : Nat) : Int))), (0, .ref b), (1, .ref (ad1 4 0)), (2, .ref (ad1 5 0)), (3, .ref (ad1 50 0))]) X.1 X.2.1 dL_law_129 hl (by decide) rfl (fun ls hl => ?_)
  refine lv_aload_n X.1 X.2.1 dL_law_131 rfl (lv_at hl 4 rfl) ?_
  refine lv_aload_n X.1 X.2.1 dL_law_132 rfl (lv_at hl 2 rfl) ?_
  refine lv_iload X.1 X.2.1 dL_law_133 (lv_at hl 1 rfl) ?_
  refine lv_iconst (v := iI (1)) X.1 X.2.1 dL_law_135 rfl ?_
  refine q_iadd X dL_law_136 ?_
  refine q_sld X hXs hbl hbs hS (7 * q + 1) (by omega) (by omega) hL dL_law_137 ?_
  refine lv_aload_n X.1 X.2.1 dL_law_138 rfl (lv_at hl 2 rfl) ?_
  refine lv_iload X.1 X.2.1 dL_law_139 (lv_at hl 1 rfl) ?_
  refine lv_iconst (v := iI (2)) X.1 X.2.1 dL_law_141 rfl ?_
  refine q_iadd X dL_law_142 ?_
  refine q_sld X hXs hbl hbs hS (7 * q + 2) (by omega) (by omega) hL dL_law_143 ?_
  refine va_calli (va_runV (As := [.int (iI (xs (7 * q + 1)).toInt), .int (iI (xs (7 * q + 2)).toInt)]) (rest := []) X.fix (c_X5_printer l g s0 n1 ad1 C1 q hM1 hR1 (by omega) (xs (7 * q + 1)).toInt (xs (7 * q + 2)).toInt (i32r _) (i32r _)) (cwV 2 X.2.2.2.2.1 gL_law_X5_printer rfl rfl rfl (by decide +kernel) ⟨Nat.le_of_ble_eq_true rfl, Nat.le_of_ble_eq_true rfl⟩) (q_preV X hP hS [.int (iI (xs (7 * q + 1)).toInt), .int (iI (xs (7 * q + 2)).toInt)] (kd := 5) (by decide) rfl v5) rfl rfl hl.1 rfl (lv_room (Nat.le_of_ble_eq_true rfl)) dL_law_144 ⟨(by show _ ≤ 601024; omega), (by show _ ≤ 7293034; omega)⟩) hS q_id q_id1 (fun rb u t H locs ht hvm hw2 hB hz1 hk1 hS => ?_)
  obtain ⟨n2, ad2, C2⟩ := u
  obtain ⟨ev, he, rfl, h5e, h0e, en, ea, hRel2⟩ := o_printer hRel hz hw hw2
  dsimp only at h5e h0e en ea hRel2
  have en2 := en.symm
  have ea2 := ea.symm
  subst en2 ea2
  have hP := q_back hB ht
  dsimp only at hP
  have hM2 := hRel2.2.2.2.2.2.2.2.2.2.2.2.2.2.2.2.2.2.1
  refine lv_istore (lv' := [(6, .int rb), (5, .int (iI ev)), (4, .int (iI (((7 * q) : Nat) : Int))), (0, .ref b), (1, .ref (ad1 4 0)), (2, .ref (ad1 5 0)), (3, .ref (ad1 50 0))]) X.1 X.2.1 dL_law_147 hl (by decide) rfl (fun ls hl => ?_)
  refine lv_aload_n X.1 X.2.1 dL_law_149 rfl (lv_at hl 5 rfl) ?_
  refine va_calli (va_runV (As := []) (rest := []) X.fix (c_X5_thrown l g s0 n1 ad1 C2 hM2) (cwV 0 X.2.2.2.2.1 gL_law_X5_thrown rfl rfl rfl (by decide +kernel) ⟨Nat.le_of_ble_eq_true rfl, Nat.le_of_ble_eq_true rfl⟩) (q_preV X hP hS [] (kd := 5) (by decide) rfl v5) rfl rfl hl.1 rfl (lv_room (Nat.le_of_ble_eq_true rfl)) dL_law_150 ⟨(by show _ ≤ 601024; omega), (by show _ ≤ 7293034; omega)⟩) hS q_id q_id1 (fun r u t H locs ht hvm hw hB hz1 hk1 hS => ?_)
  obtain ⟨rfl, rfl⟩ := hw
  have hP : q_P g s0 n1 ad1 C2 H := q_back hB ht
  refine lv_iload X.1 X.2.1 dL_law_153 (lv_at hl 1 rfl) ?_
  refine q_icmp_eq (tgt := 160) X (hP.tok 5 0 0 rfl) (by omega) dL_law_155 (by decide) (fun h_1 => ?_) (fun h_1 => ?_)
  · refine lv_iload X.1 X.2.1 dL_law_160 (lv_at hl 1 rfl) ?_
    refine q_if_ne (tgt := 177) X (by omega) dL_law_162 (by decide) (fun h_2 => ?_) (fun h_2 => ?_)
    · refine lv_goto (tgt := 1157) X.1 X.2.1 dL_law_177 (by decide) ?_
      have hl : lv_has ls 8 [(4, .int (iI (((7 * q) : Nat) : Int))), (0, .ref b), (1, .ref (ad1 4 0)), (2, .ref (ad1 5 0)), (3, .ref (ad1 50 0))] := lv_sub hl [2, 3, 4, 5, 6] rfl
      refine W.widen (by omega : _ ≤ cells + 3) (by omega : _ ≤ slots + 21) ?_
      exact kx _ _ _ _ _ ls hRel2 f4 f5 f50 hP hS hl
    · obtain ⟨z9, ⟨hz9, rfl⟩, h50e⟩ := h0e (by omega)
      refine lv_aload_n X.1 X.2.1 dL_law_165 rfl (lv_at hl 6 rfl) ?_
      refine lv_iconst (v := iI (0)) X.1 X.2.1 dL_law_166 rfl ?_
      refine q_lldv (len := 1) (v := (C2 50 0 0)) X hP 50 0 (by decide) rfl rfl v50 rfl (by decide) (by decide) rfl dL_law_167 ?_
      refine lv_iload X.1 X.2.1 dL_law_168 (lv_at hl 0 rfl) ?_
      refine q_i2l X hz9 dL_law_170 ?_
      refine q_lcmp_eq (tgt := 177) X (hP.tok 50 0 0 rfl) (q_3264 hz9) dL_law_171 dL_law_172 (by decide) (fun h_3 => ?_) (fun h_3 => ?_)
      · refine lv_goto (tgt := 1157) X.1 X.2.1 dL_law_177 (by decide) ?_
        have hl : lv_has ls 8 [(4, .int (iI (((7 * q) : Nat) : Int))), (0, .ref b), (1, .ref (ad1 4 0)), (2, .ref (ad1 5 0)), (3, .ref (ad1 50 0))] := lv_sub hl [2, 3, 4, 5, 6] rfl
        refine W.widen (by omega : _ ≤ cells + 3) (by omega : _ ≤ slots + 21) ?_
        exact kx _ _ _ _ _ ls hRel2 f4 f5 f50 hP hS hl
      · refine lv_iconst (v := iI (0)) X.1 X.2.1 dL_law_175 rfl ?_
        exfalso
        omega
  · refine lv_iconst (v := iI (0)) X.1 X.2.1 dL_law_158 rfl ?_
    exfalso
    omega
set_option maxHeartbeats 4000000 in
set_option maxRecDepth 100000 in
theorem w_law_ticket {p : Program} {l : Launch} {e : Env} {s : State} {m : MethodId} {args : Array Value} {below : List Frame} {meth : Method} {c : Code} {Q : State → Prop} {g : q_G} {s0 : Nat} (htr : l.stackTraces = false) {n : Nat → Nat} {ad : Nat → Nat → Nat} {C : q_S} {H : Heap} {locs : List Loc} {ls : Array Slot} {cells slots : Nat} (X : q_X p s m args c cL_law 8 wsL_law RL g s0) {b L : Nat} {xs : Nat → Int32} (hXs : va_X b L xs s s.heap) (hbl : b < s.heap.size) (hbs : b < s0) (hL : L ≤ 3584) (q : Nat) (hq : 7 * q + 7 ≤ L) (hcl : cells ≤ 600000) (hsl : slots ≤ 7200000) (hRel : Rel C n q) (hP : q_P g s0 n ad C H) (hS : va_S (q_A s0) s.heap H locs) (hl : lv_has ls 8 [(4, .int (iI (((7 * q) : Nat) : Int))), (0, .ref b), (1, .ref (ad 4 0)), (2, .ref (ad 5 0)), (3, .ref (ad 50 0))])
    (kx : ∀ (n1 : Nat → Nat) (ad1 : Nat → Nat → Nat) (C1 : q_S) (H : Heap) (locs : List Loc) (ls : Array Slot), Rel C1 n1 (q + 1) → ad1 4 0 = ad 4 0 → ad1 5 0 = ad 5 0 → ad1 50 0 = ad 50 0 → q_P g s0 n1 ad1 C1 H → va_S (q_A s0) s.heap H locs → lv_has ls 8 [(4, .int (iI ((7 * q : Nat) : Int))), (0, .ref b), (1, .ref (ad1 4 0)), (2, .ref (ad1 5 0)), (3, .ref (ad1 50 0))] → W p l e room_1 s m args below meth c H locs (cells + 3) (slots + 21) Q (F0 m 1157 ls [])) :
    W p l e room_1 s m args below meth c H locs cells slots Q (F0 m 180 ls []) := by
  have hz : gz C n := ⟨hP.2.2.2, fun p => hP.tok 2 4 p rfl⟩
  have hC : c_S C n := hRel.2.2.2.2.2.2.2.2.2.2.2.2.2.2.2.2.1
  have hR := hRel.cR hz
  have h50 : 0 < n 50 := by rw [hRel.2.2.2.2.2.2.2.2.2.2.2.2.2.2.2.2.2.2]; decide
  have hP0 := hP
  refine lv_aload_n X.1 X.2.1 dL_law_180 rfl (lv_at hl 2 rfl) ?_
  refine lv_aload_n X.1 X.2.1 dL_law_181 rfl (lv_at hl 1 rfl) ?_
  refine lv_iload X.1 X.2.1 dL_law_182 (lv_at hl 0 rfl) ?_
  refine lv_iconst (v := iI (1)) X.1 X.2.1 dL_law_184 rfl ?_
  refine q_iadd X dL_law_185 ?_
  refine q_sld X hXs hbl hbs hS (7 * q + 1) (by omega) (by omega) hL dL_law_186 ?_
  refine lv_aload_n X.1 X.2.1 dL_law_187 rfl (lv_at hl 1 rfl) ?_
  refine lv_iload X.1 X.2.1 dL_law_188 (lv_at hl 0 rfl) ?_
  refine lv_iconst (v := iI (2)) X.1 X.2.1 dL_law_190 rfl ?_
  refine q_iadd X dL_law_191 ?_
  refine q_sld X hXs hbl hbs hS (7 * q + 2) (by omega) (by omega) hL dL_law_192 ?_
  refine lv_aload_n X.1 X.2.1 dL_law_193 rfl (lv_at hl 1 rfl) ?_
  refine lv_iload X.1 X.2.1 dL_law_194 (lv_at hl 0 rfl) ?_
  refine lv_iconst (v := iI (3)) X.1 X.2.1 dL_law_196 rfl ?_
  refine q_iadd X dL_law_197 ?_
  refine q_sld X hXs hbl hbs hS (7 * q + 3) (by omega) (by omega) hL dL_law_198 ?_
  refine lv_aload_n X.1 X.2.1 dL_law_199 rfl (lv_at hl 4 rfl) ?_
  refine va_calli (vx_runSW (As := [.ref (ad 4 0), .int (iI (xs (7 * q + 1)).toInt), .int (iI (xs (7 * q + 2)).toInt), .int (iI (xs (7 * q + 3)).toInt), .ref (ad 50 0)]) (rest := []) X.fix (c_L_ticket l htr g s0 n ad C q hC hR (by omega) h50 (xs (7 * q + 1)).toInt (xs (7 * q + 2)).toInt (xs (7 * q + 3)).toInt (i32r _) (i32r _) (i32r _)) (vx_cwSW 5 X.2.2.2.2.1 gL_law_L_ticket rfl rfl rfl (by decide +kernel) ⟨Nat.le_of_ble_eq_true rfl, Nat.le_of_ble_eq_true rfl⟩) (q_preS X hP hS _) rfl rfl hl.1 rfl (lv_room (Nat.le_of_ble_eq_true rfl)) dL_law_200 ⟨(by show _ ≤ 601024; omega), (by show _ ≤ 7293034; omega)⟩) hS q_id q_id1 (fun r u t H locs ht hvm hw hB hz1 hk1 hS => ?_)
  obtain ⟨n1, ad1, C1⟩ := u
  have hP : q_P g s0 n1 ad1 C1 H := q_back hB ht
  obtain ⟨⟨f4, f5, f50, fn⟩, fk⟩ := f_L_ticket hw
  dsimp only at f4 f5 f50 fn fk
  have hM1 : m_S C1 n1 := mS_u fk fn hRel.2.2.2.2.2.2.2.2.2.2.2.2.2.2.2.2.2.1
  have hR1 : m_R C1 q := mR_u fk (hRel.mR hz (by omega))
  have hl : lv_has ls 8 [(4, .int (iI (((7 * q) : Nat) : Int))), (0, .ref b), (1, .ref (ad1 4 0)), (2, .ref (ad1 5 0)), (3, .ref (ad1 50 0))] := lv_cong hl (lv_cs rfl (lv_cs rfl (lv_cs (congrArg Value.ref f4.symm) (lv_cs (congrArg Value.ref f5.symm) (lv_cs (congrArg Value.ref f50.symm) rfl)))))
  have v5 : 0 < n1 5 := m_v5 hM1
  have v50 : 0 < n1 50 := by rw [fn 50 (by decide)]; exact h50
  refine lv_istore (lv' := [(5, .int r), (4, .int (iI (((7 * q) : Nat) : Int))), (0, .ref b), (1, .ref (ad1 4 0)), (2, .ref (ad1 5 0)), (3, .ref (ad1 50 0))]) X.1 X.2.1 dL_law_203 hl (by decide) rfl (fun ls hl => ?_)
  refine lv_aload_n X.1 X.2.1 dL_law_205 rfl (lv_at hl 4 rfl) ?_
  refine lv_aload_n X.1 X.2.1 dL_law_206 rfl (lv_at hl 2 rfl) ?_
  refine lv_iload X.1 X.2.1 dL_law_207 (lv_at hl 1 rfl) ?_
  refine lv_iconst (v := iI (1)) X.1 X.2.1 dL_law_209 rfl ?_
  refine q_iadd X dL_law_210 ?_
  refine q_sld X hXs hbl hbs hS (7 * q + 1) (by omega) (by omega) hL dL_law_211 ?_
  refine lv_aload_n X.1 X.2.1 dL_law_212 rfl (lv_at hl 2 rfl) ?_
  refine lv_iload X.1 X.2.1 dL_law_213 (lv_at hl 1 rfl) ?_
  refine lv_iconst (v := iI (2)) X.1 X.2.1 dL_law_215 rfl ?_
  refine q_iadd X dL_law_216 ?_
  refine q_sld X hXs hbl hbs hS (7 * q + 2) (by omega) (by omega) hL dL_law_217 ?_
  refine lv_aload_n X.1 X.2.1 dL_law_218 rfl (lv_at hl 2 rfl) ?_
  refine lv_iload X.1 X.2.1 dL_law_219 (lv_at hl 1 rfl) ?_
  refine lv_iconst (v := iI (3)) X.1 X.2.1 dL_law_221 rfl ?_
  refine q_iadd X dL_law_222 ?_
  refine q_sld X hXs hbl hbs hS (7 * q + 3) (by omega) (by omega) hL dL_law_223 ?_
  refine va_calli (va_runV (As := [.int (iI (xs (7 * q + 1)).toInt), .int (iI (xs (7 * q + 2)).toInt), .int (iI (xs (7 * q + 3)).toInt)]) (rest := []) X.fix (c_X5_ticket l g s0 n1 ad1 C1 q hM1 hR1 (by omega) (xs (7 * q + 1)).toInt (xs (7 * q + 2)).toInt (xs (7 * q + 3)).toInt (i32r _) (i32r _) (i32r _)) (cwV 3 X.2.2.2.2.1 gL_law_X5_ticket rfl rfl rfl (by decide +kernel) ⟨Nat.le_of_ble_eq_true rfl, Nat.le_of_ble_eq_true rfl⟩) (q_preV X hP hS [.int (iI (xs (7 * q + 1)).toInt), .int (iI (xs (7 * q + 2)).toInt), .int (iI (xs (7 * q + 3)).toInt)] (kd := 5) (by decide) rfl v5) rfl rfl hl.1 rfl (lv_room (Nat.le_of_ble_eq_true rfl)) dL_law_224 ⟨(by show _ ≤ 601024; omega), (by show _ ≤ 7293034; omega)⟩) hS q_id q_id1 (fun rb u t H locs ht hvm hw2 hB hz1 hk1 hS => ?_)
  obtain ⟨n2, ad2, C2⟩ := u
  obtain ⟨ev, he, rfl, h5e, h0e, en, ea, hRel2⟩ := o_ticket hRel hz hw hw2
  dsimp only at h5e h0e en ea hRel2
  have en2 := en.symm
  have ea2 := ea.symm
  subst en2 ea2
  have hP := q_back hB ht
  dsimp only at hP
  have hM2 := hRel2.2.2.2.2.2.2.2.2.2.2.2.2.2.2.2.2.2.1
  refine lv_istore (lv' := [(6, .int rb), (5, .int (iI ev)), (4, .int (iI (((7 * q) : Nat) : Int))), (0, .ref b), (1, .ref (ad1 4 0)), (2, .ref (ad1 5 0)), (3, .ref (ad1 50 0))]) X.1 X.2.1 dL_law_227 hl (by decide) rfl (fun ls hl => ?_)
  refine lv_aload_n X.1 X.2.1 dL_law_229 rfl (lv_at hl 5 rfl) ?_
  refine va_calli (va_runV (As := []) (rest := []) X.fix (c_X5_thrown l g s0 n1 ad1 C2 hM2) (cwV 0 X.2.2.2.2.1 gL_law_X5_thrown rfl rfl rfl (by decide +kernel) ⟨Nat.le_of_ble_eq_true rfl, Nat.le_of_ble_eq_true rfl⟩) (q_preV X hP hS [] (kd := 5) (by decide) rfl v5) rfl rfl hl.1 rfl (lv_room (Nat.le_of_ble_eq_true rfl)) dL_law_230 ⟨(by show _ ≤ 601024; omega), (by show _ ≤ 7293034; omega)⟩) hS q_id q_id1 (fun r u t H locs ht hvm hw hB hz1 hk1 hS => ?_)
  obtain ⟨rfl, rfl⟩ := hw
  have hP : q_P g s0 n1 ad1 C2 H := q_back hB ht
  refine lv_iload X.1 X.2.1 dL_law_233 (lv_at hl 1 rfl) ?_
  refine q_icmp_eq (tgt := 240) X (hP.tok 5 0 0 rfl) (by omega) dL_law_235 (by decide) (fun h_1 => ?_) (fun h_1 => ?_)
  · refine lv_iload X.1 X.2.1 dL_law_240 (lv_at hl 1 rfl) ?_
    refine q_if_ne (tgt := 257) X (by omega) dL_law_242 (by decide) (fun h_2 => ?_) (fun h_2 => ?_)
    · refine lv_goto (tgt := 1157) X.1 X.2.1 dL_law_257 (by decide) ?_
      have hl : lv_has ls 8 [(4, .int (iI (((7 * q) : Nat) : Int))), (0, .ref b), (1, .ref (ad1 4 0)), (2, .ref (ad1 5 0)), (3, .ref (ad1 50 0))] := lv_sub hl [2, 3, 4, 5, 6] rfl
      refine W.widen (by omega : _ ≤ cells + 3) (by omega : _ ≤ slots + 21) ?_
      exact kx _ _ _ _ _ ls hRel2 f4 f5 f50 hP hS hl
    · obtain ⟨z9, ⟨hz9, rfl⟩, h50e⟩ := h0e (by omega)
      refine lv_aload_n X.1 X.2.1 dL_law_245 rfl (lv_at hl 6 rfl) ?_
      refine lv_iconst (v := iI (0)) X.1 X.2.1 dL_law_246 rfl ?_
      refine q_lldv (len := 1) (v := (C2 50 0 0)) X hP 50 0 (by decide) rfl rfl v50 rfl (by decide) (by decide) rfl dL_law_247 ?_
      refine lv_iload X.1 X.2.1 dL_law_248 (lv_at hl 0 rfl) ?_
      refine q_i2l X hz9 dL_law_250 ?_
      refine q_lcmp_eq (tgt := 257) X (hP.tok 50 0 0 rfl) (q_3264 hz9) dL_law_251 dL_law_252 (by decide) (fun h_3 => ?_) (fun h_3 => ?_)
      · refine lv_goto (tgt := 1157) X.1 X.2.1 dL_law_257 (by decide) ?_
        have hl : lv_has ls 8 [(4, .int (iI (((7 * q) : Nat) : Int))), (0, .ref b), (1, .ref (ad1 4 0)), (2, .ref (ad1 5 0)), (3, .ref (ad1 50 0))] := lv_sub hl [2, 3, 4, 5, 6] rfl
        refine W.widen (by omega : _ ≤ cells + 3) (by omega : _ ≤ slots + 21) ?_
        exact kx _ _ _ _ _ ls hRel2 f4 f5 f50 hP hS hl
      · refine lv_iconst (v := iI (0)) X.1 X.2.1 dL_law_255 rfl ?_
        exfalso
        omega
  · refine lv_iconst (v := iI (0)) X.1 X.2.1 dL_law_238 rfl ?_
    exfalso
    omega
set_option maxHeartbeats 4000000 in
set_option maxRecDepth 100000 in
theorem w_law_job {p : Program} {l : Launch} {e : Env} {s : State} {m : MethodId} {args : Array Value} {below : List Frame} {meth : Method} {c : Code} {Q : State → Prop} {g : q_G} {s0 : Nat} (htr : l.stackTraces = false) {n : Nat → Nat} {ad : Nat → Nat → Nat} {C : q_S} {H : Heap} {locs : List Loc} {ls : Array Slot} {cells slots : Nat} (X : q_X p s m args c cL_law 8 wsL_law RL g s0) {b L : Nat} {xs : Nat → Int32} (hXs : va_X b L xs s s.heap) (hbl : b < s.heap.size) (hbs : b < s0) (hL : L ≤ 3584) (q : Nat) (hq : 7 * q + 7 ≤ L) (hcl : cells ≤ 600000) (hsl : slots ≤ 7200000) (hRel : Rel C n q) (hP : q_P g s0 n ad C H) (hS : va_S (q_A s0) s.heap H locs) (hl : lv_has ls 8 [(4, .int (iI (((7 * q) : Nat) : Int))), (0, .ref b), (1, .ref (ad 4 0)), (2, .ref (ad 5 0)), (3, .ref (ad 50 0))])
    (kx : ∀ (n1 : Nat → Nat) (ad1 : Nat → Nat → Nat) (C1 : q_S) (H : Heap) (locs : List Loc) (ls : Array Slot), Rel C1 n1 (q + 1) → ad1 4 0 = ad 4 0 → ad1 5 0 = ad 5 0 → ad1 50 0 = ad 50 0 → q_P g s0 n1 ad1 C1 H → va_S (q_A s0) s.heap H locs → lv_has ls 8 [(4, .int (iI ((7 * q : Nat) : Int))), (0, .ref b), (1, .ref (ad1 4 0)), (2, .ref (ad1 5 0)), (3, .ref (ad1 50 0))] → W p l e room_1 s m args below meth c H locs (cells + 3) (slots + 21) Q (F0 m 1157 ls [])) :
    W p l e room_1 s m args below meth c H locs cells slots Q (F0 m 260 ls []) := by
  have hz : gz C n := ⟨hP.2.2.2, fun p => hP.tok 2 4 p rfl⟩
  have hC : c_S C n := hRel.2.2.2.2.2.2.2.2.2.2.2.2.2.2.2.2.1
  have hR := hRel.cR hz
  have h50 : 0 < n 50 := by rw [hRel.2.2.2.2.2.2.2.2.2.2.2.2.2.2.2.2.2.2]; decide
  have hP0 := hP
  refine lv_aload_n X.1 X.2.1 dL_law_260 rfl (lv_at hl 2 rfl) ?_
  refine lv_aload_n X.1 X.2.1 dL_law_261 rfl (lv_at hl 1 rfl) ?_
  refine lv_iload X.1 X.2.1 dL_law_262 (lv_at hl 0 rfl) ?_
  refine lv_iconst (v := iI (1)) X.1 X.2.1 dL_law_264 rfl ?_
  refine q_iadd X dL_law_265 ?_
  refine q_sld X hXs hbl hbs hS (7 * q + 1) (by omega) (by omega) hL dL_law_266 ?_
  refine lv_aload_n X.1 X.2.1 dL_law_267 rfl (lv_at hl 1 rfl) ?_
  refine lv_iload X.1 X.2.1 dL_law_268 (lv_at hl 0 rfl) ?_
  refine lv_iconst (v := iI (2)) X.1 X.2.1 dL_law_270 rfl ?_
  refine q_iadd X dL_law_271 ?_
  refine q_sld X hXs hbl hbs hS (7 * q + 2) (by omega) (by omega) hL dL_law_272 ?_
  refine lv_aload_n X.1 X.2.1 dL_law_273 rfl (lv_at hl 1 rfl) ?_
  refine lv_iload X.1 X.2.1 dL_law_274 (lv_at hl 0 rfl) ?_
  refine lv_iconst (v := iI (3)) X.1 X.2.1 dL_law_276 rfl ?_
  refine q_iadd X dL_law_277 ?_
  refine q_sld X hXs hbl hbs hS (7 * q + 3) (by omega) (by omega) hL dL_law_278 ?_
  refine lv_aload_n X.1 X.2.1 dL_law_279 rfl (lv_at hl 1 rfl) ?_
  refine lv_iload X.1 X.2.1 dL_law_280 (lv_at hl 0 rfl) ?_
  refine lv_iconst (v := iI (4)) X.1 X.2.1 dL_law_282 rfl ?_
  refine q_iadd X dL_law_283 ?_
  refine q_sld X hXs hbl hbs hS (7 * q + 4) (by omega) (by omega) hL dL_law_284 ?_
  refine lv_aload_n X.1 X.2.1 dL_law_285 rfl (lv_at hl 1 rfl) ?_
  refine lv_iload X.1 X.2.1 dL_law_286 (lv_at hl 0 rfl) ?_
  refine lv_iconst (v := iI (5)) X.1 X.2.1 dL_law_288 rfl ?_
  refine q_iadd X dL_law_289 ?_
  refine q_sld X hXs hbl hbs hS (7 * q + 5) (by omega) (by omega) hL dL_law_290 ?_
  refine q_i2l X (i32r _) dL_law_291 ?_
  refine lv_bipush (v := iI (32)) X.1 X.2.1 dL_law_292 (by decide) ?_
  refine lv_lshl (v := (jI (xs (7 * q + 5)).toInt <<< ((iI (32)).toInt64 &&& 63))) X.1 X.2.1 dL_law_294 rfl ?_
  refine lv_aload_n X.1 X.2.1 dL_law_295 rfl (lv_at hl 1 rfl) ?_
  refine lv_iload X.1 X.2.1 dL_law_296 (lv_at hl 0 rfl) ?_
  refine lv_bipush (v := iI (6)) X.1 X.2.1 dL_law_298 (by decide) ?_
  refine q_iadd X dL_law_300 ?_
  refine q_sld X hXs hbl hbs hS (7 * q + 6) (by omega) (by omega) hL dL_law_301 ?_
  refine q_i2l X (i32r _) dL_law_302 ?_
  refine q_ldc2 (v := 4294967295) (z := 4294967295) X (by decide) (by decide +kernel) dL_law_303 ?_
  refine lv_land X.1 X.2.1 dL_law_306 ?_
  refine lv_lor X.1 X.2.1 dL_law_307 ?_
  rw [show ((jI (xs (7 * q + 5)).toInt <<< ((iI (32)).toInt64 &&& 63)) ||| ((jI (xs (7 * q + 6)).toInt) &&& (jI (4294967295)))) = jI ((jI (xs (7 * q + 5)).toInt <<< ((iI (32)).toInt64 &&& 63)) ||| ((jI (xs (7 * q + 6)).toInt) &&& (jI (4294967295)))).toInt from (Int64.ofInt_toInt _).symm]
  refine lv_aload_n X.1 X.2.1 dL_law_308 rfl (lv_at hl 4 rfl) ?_
  refine va_calli (vx_runSW (As := [.ref (ad 4 0), .int (iI (xs (7 * q + 1)).toInt), .int (iI (xs (7 * q + 2)).toInt), .int (iI (xs (7 * q + 3)).toInt), .int (iI (xs (7 * q + 4)).toInt), .long (jI ((jI (xs (7 * q + 5)).toInt <<< ((iI (32)).toInt64 &&& 63)) ||| ((jI (xs (7 * q + 6)).toInt) &&& (jI (4294967295)))).toInt), .ref (ad 50 0)]) (rest := []) X.fix (c_L_job l htr g s0 n ad C q hC hR (by omega) h50 (xs (7 * q + 1)).toInt (xs (7 * q + 2)).toInt (xs (7 * q + 3)).toInt (xs (7 * q + 4)).toInt ((jI (xs (7 * q + 5)).toInt <<< ((iI (32)).toInt64 &&& 63)) ||| ((jI (xs (7 * q + 6)).toInt) &&& (jI (4294967295)))).toInt (i32r _) (i32r _) (i32r _) (i32r _) (j64r _)) (vx_cwSW 7 X.2.2.2.2.1 gL_law_L_job rfl rfl rfl (by decide +kernel) ⟨Nat.le_of_ble_eq_true rfl, Nat.le_of_ble_eq_true rfl⟩) (q_preS X hP hS _) rfl rfl hl.1 rfl (lv_room (Nat.le_of_ble_eq_true rfl)) dL_law_309 ⟨(by show _ ≤ 601024; omega), (by show _ ≤ 7293034; omega)⟩) hS q_id q_id1 (fun r u t H locs ht hvm hw hB hz1 hk1 hS => ?_)
  obtain ⟨n1, ad1, C1⟩ := u
  have hP : q_P g s0 n1 ad1 C1 H := q_back hB ht
  obtain ⟨⟨f4, f5, f50, fn⟩, fk⟩ := f_L_job hw
  dsimp only at f4 f5 f50 fn fk
  have hM1 : m_S C1 n1 := mS_u fk fn hRel.2.2.2.2.2.2.2.2.2.2.2.2.2.2.2.2.2.1
  have hR1 : m_R C1 q := mR_u fk (hRel.mR hz (by omega))
  have hl : lv_has ls 8 [(4, .int (iI (((7 * q) : Nat) : Int))), (0, .ref b), (1, .ref (ad1 4 0)), (2, .ref (ad1 5 0)), (3, .ref (ad1 50 0))] := lv_cong hl (lv_cs rfl (lv_cs rfl (lv_cs (congrArg Value.ref f4.symm) (lv_cs (congrArg Value.ref f5.symm) (lv_cs (congrArg Value.ref f50.symm) rfl)))))
  have v5 : 0 < n1 5 := m_v5 hM1
  have v50 : 0 < n1 50 := by rw [fn 50 (by decide)]; exact h50
  refine lv_istore (lv' := [(5, .int r), (4, .int (iI (((7 * q) : Nat) : Int))), (0, .ref b), (1, .ref (ad1 4 0)), (2, .ref (ad1 5 0)), (3, .ref (ad1 50 0))]) X.1 X.2.1 dL_law_312 hl (by decide) rfl (fun ls hl => ?_)
  refine lv_aload_n X.1 X.2.1 dL_law_314 rfl (lv_at hl 4 rfl) ?_
  refine lv_aload_n X.1 X.2.1 dL_law_315 rfl (lv_at hl 2 rfl) ?_
  refine lv_iload X.1 X.2.1 dL_law_316 (lv_at hl 1 rfl) ?_
  refine lv_iconst (v := iI (1)) X.1 X.2.1 dL_law_318 rfl ?_
  refine q_iadd X dL_law_319 ?_
  refine q_sld X hXs hbl hbs hS (7 * q + 1) (by omega) (by omega) hL dL_law_320 ?_
  refine lv_aload_n X.1 X.2.1 dL_law_321 rfl (lv_at hl 2 rfl) ?_
  refine lv_iload X.1 X.2.1 dL_law_322 (lv_at hl 1 rfl) ?_
  refine lv_iconst (v := iI (2)) X.1 X.2.1 dL_law_324 rfl ?_
  refine q_iadd X dL_law_325 ?_
  refine q_sld X hXs hbl hbs hS (7 * q + 2) (by omega) (by omega) hL dL_law_326 ?_
  refine lv_aload_n X.1 X.2.1 dL_law_327 rfl (lv_at hl 2 rfl) ?_
  refine lv_iload X.1 X.2.1 dL_law_328 (lv_at hl 1 rfl) ?_
  refine lv_iconst (v := iI (3)) X.1 X.2.1 dL_law_330 rfl ?_
  refine q_iadd X dL_law_331 ?_
  refine q_sld X hXs hbl hbs hS (7 * q + 3) (by omega) (by omega) hL dL_law_332 ?_
  refine lv_aload_n X.1 X.2.1 dL_law_333 rfl (lv_at hl 2 rfl) ?_
  refine lv_iload X.1 X.2.1 dL_law_334 (lv_at hl 1 rfl) ?_
  refine lv_iconst (v := iI (4)) X.1 X.2.1 dL_law_336 rfl ?_
  refine q_iadd X dL_law_337 ?_
  refine q_sld X hXs hbl hbs hS (7 * q + 4) (by omega) (by omega) hL dL_law_338 ?_
  refine lv_aload_n X.1 X.2.1 dL_law_339 rfl (lv_at hl 2 rfl) ?_
  refine lv_iload X.1 X.2.1 dL_law_340 (lv_at hl 1 rfl) ?_
  refine lv_iconst (v := iI (5)) X.1 X.2.1 dL_law_342 rfl ?_
  refine q_iadd X dL_law_343 ?_
  refine q_sld X hXs hbl hbs hS (7 * q + 5) (by omega) (by omega) hL dL_law_344 ?_
  refine q_i2l X (i32r _) dL_law_345 ?_
  refine lv_bipush (v := iI (32)) X.1 X.2.1 dL_law_346 (by decide) ?_
  refine lv_lshl (v := (jI (xs (7 * q + 5)).toInt <<< ((iI (32)).toInt64 &&& 63))) X.1 X.2.1 dL_law_348 rfl ?_
  refine lv_aload_n X.1 X.2.1 dL_law_349 rfl (lv_at hl 2 rfl) ?_
  refine lv_iload X.1 X.2.1 dL_law_350 (lv_at hl 1 rfl) ?_
  refine lv_bipush (v := iI (6)) X.1 X.2.1 dL_law_352 (by decide) ?_
  refine q_iadd X dL_law_354 ?_
  refine q_sld X hXs hbl hbs hS (7 * q + 6) (by omega) (by omega) hL dL_law_355 ?_
  refine q_i2l X (i32r _) dL_law_356 ?_
  refine q_ldc2 (v := 4294967295) (z := 4294967295) X (by decide) (by decide +kernel) dL_law_357 ?_
  refine lv_land X.1 X.2.1 dL_law_360 ?_
  refine lv_lor X.1 X.2.1 dL_law_361 ?_
  rw [show ((jI (xs (7 * q + 5)).toInt <<< ((iI (32)).toInt64 &&& 63)) ||| ((jI (xs (7 * q + 6)).toInt) &&& (jI (4294967295)))) = jI ((jI (xs (7 * q + 5)).toInt <<< ((iI (32)).toInt64 &&& 63)) ||| ((jI (xs (7 * q + 6)).toInt) &&& (jI (4294967295)))).toInt from (Int64.ofInt_toInt _).symm]
  refine va_calli (va_runV (As := [.int (iI (xs (7 * q + 1)).toInt), .int (iI (xs (7 * q + 2)).toInt), .int (iI (xs (7 * q + 3)).toInt), .int (iI (xs (7 * q + 4)).toInt), .long (jI ((jI (xs (7 * q + 5)).toInt <<< ((iI (32)).toInt64 &&& 63)) ||| ((jI (xs (7 * q + 6)).toInt) &&& (jI (4294967295)))).toInt)]) (rest := []) X.fix (c_X5_job l g s0 n1 ad1 C1 q hM1 hR1 (by omega) (xs (7 * q + 1)).toInt (xs (7 * q + 2)).toInt (xs (7 * q + 3)).toInt (xs (7 * q + 4)).toInt ((jI (xs (7 * q + 5)).toInt <<< ((iI (32)).toInt64 &&& 63)) ||| ((jI (xs (7 * q + 6)).toInt) &&& (jI (4294967295)))).toInt (i32r _) (i32r _) (i32r _) (i32r _) (j64r _)) (cwV 5 X.2.2.2.2.1 gL_law_X5_job rfl rfl rfl (by decide +kernel) ⟨Nat.le_of_ble_eq_true rfl, Nat.le_of_ble_eq_true rfl⟩) (q_preV X hP hS [.int (iI (xs (7 * q + 1)).toInt), .int (iI (xs (7 * q + 2)).toInt), .int (iI (xs (7 * q + 3)).toInt), .int (iI (xs (7 * q + 4)).toInt), .long (jI ((jI (xs (7 * q + 5)).toInt <<< ((iI (32)).toInt64 &&& 63)) ||| ((jI (xs (7 * q + 6)).toInt) &&& (jI (4294967295)))).toInt)] (kd := 5) (by decide) rfl v5) rfl rfl hl.1 rfl (lv_room (Nat.le_of_ble_eq_true rfl)) dL_law_362 ⟨(by show _ ≤ 601024; omega), (by show _ ≤ 7293034; omega)⟩) hS q_id q_id1 (fun rb u t H locs ht hvm hw2 hB hz1 hk1 hS => ?_)
  obtain ⟨n2, ad2, C2⟩ := u
  obtain ⟨ev, he, rfl, h5e, h0e, en, ea, hRel2⟩ := o_job hRel hz hw hw2
  dsimp only at h5e h0e en ea hRel2
  have en2 := en.symm
  have ea2 := ea.symm
  subst en2 ea2
  have hP := q_back hB ht
  dsimp only at hP
  have hM2 := hRel2.2.2.2.2.2.2.2.2.2.2.2.2.2.2.2.2.2.1
  refine lv_istore (lv' := [(6, .int rb), (5, .int (iI ev)), (4, .int (iI (((7 * q) : Nat) : Int))), (0, .ref b), (1, .ref (ad1 4 0)), (2, .ref (ad1 5 0)), (3, .ref (ad1 50 0))]) X.1 X.2.1 dL_law_365 hl (by decide) rfl (fun ls hl => ?_)
  refine lv_aload_n X.1 X.2.1 dL_law_367 rfl (lv_at hl 5 rfl) ?_
  refine va_calli (va_runV (As := []) (rest := []) X.fix (c_X5_thrown l g s0 n1 ad1 C2 hM2) (cwV 0 X.2.2.2.2.1 gL_law_X5_thrown rfl rfl rfl (by decide +kernel) ⟨Nat.le_of_ble_eq_true rfl, Nat.le_of_ble_eq_true rfl⟩) (q_preV X hP hS [] (kd := 5) (by decide) rfl v5) rfl rfl hl.1 rfl (lv_room (Nat.le_of_ble_eq_true rfl)) dL_law_368 ⟨(by show _ ≤ 601024; omega), (by show _ ≤ 7293034; omega)⟩) hS q_id q_id1 (fun r u t H locs ht hvm hw hB hz1 hk1 hS => ?_)
  obtain ⟨rfl, rfl⟩ := hw
  have hP : q_P g s0 n1 ad1 C2 H := q_back hB ht
  refine lv_iload X.1 X.2.1 dL_law_371 (lv_at hl 1 rfl) ?_
  refine q_icmp_eq (tgt := 378) X (hP.tok 5 0 0 rfl) (by omega) dL_law_373 (by decide) (fun h_1 => ?_) (fun h_1 => ?_)
  · refine lv_iload X.1 X.2.1 dL_law_378 (lv_at hl 1 rfl) ?_
    refine q_if_ne (tgt := 395) X (by omega) dL_law_380 (by decide) (fun h_2 => ?_) (fun h_2 => ?_)
    · refine lv_goto (tgt := 1157) X.1 X.2.1 dL_law_395 (by decide) ?_
      have hl : lv_has ls 8 [(4, .int (iI (((7 * q) : Nat) : Int))), (0, .ref b), (1, .ref (ad1 4 0)), (2, .ref (ad1 5 0)), (3, .ref (ad1 50 0))] := lv_sub hl [2, 3, 4, 5, 6] rfl
      refine W.widen (by omega : _ ≤ cells + 3) (by omega : _ ≤ slots + 21) ?_
      exact kx _ _ _ _ _ ls hRel2 f4 f5 f50 hP hS hl
    · obtain ⟨z9, ⟨hz9, rfl⟩, h50e⟩ := h0e (by omega)
      refine lv_aload_n X.1 X.2.1 dL_law_383 rfl (lv_at hl 6 rfl) ?_
      refine lv_iconst (v := iI (0)) X.1 X.2.1 dL_law_384 rfl ?_
      refine q_lldv (len := 1) (v := (C2 50 0 0)) X hP 50 0 (by decide) rfl rfl v50 rfl (by decide) (by decide) rfl dL_law_385 ?_
      refine lv_iload X.1 X.2.1 dL_law_386 (lv_at hl 0 rfl) ?_
      refine q_i2l X hz9 dL_law_388 ?_
      refine q_lcmp_eq (tgt := 395) X (hP.tok 50 0 0 rfl) (q_3264 hz9) dL_law_389 dL_law_390 (by decide) (fun h_3 => ?_) (fun h_3 => ?_)
      · refine lv_goto (tgt := 1157) X.1 X.2.1 dL_law_395 (by decide) ?_
        have hl : lv_has ls 8 [(4, .int (iI (((7 * q) : Nat) : Int))), (0, .ref b), (1, .ref (ad1 4 0)), (2, .ref (ad1 5 0)), (3, .ref (ad1 50 0))] := lv_sub hl [2, 3, 4, 5, 6] rfl
        refine W.widen (by omega : _ ≤ cells + 3) (by omega : _ ≤ slots + 21) ?_
        exact kx _ _ _ _ _ ls hRel2 f4 f5 f50 hP hS hl
      · refine lv_iconst (v := iI (0)) X.1 X.2.1 dL_law_393 rfl ?_
        exfalso
        omega
  · refine lv_iconst (v := iI (0)) X.1 X.2.1 dL_law_376 rfl ?_
    exfalso
    omega
set_option maxHeartbeats 4000000 in
set_option maxRecDepth 100000 in
theorem w_law_take {p : Program} {l : Launch} {e : Env} {s : State} {m : MethodId} {args : Array Value} {below : List Frame} {meth : Method} {c : Code} {Q : State → Prop} {g : q_G} {s0 : Nat} (htr : l.stackTraces = false) {n : Nat → Nat} {ad : Nat → Nat → Nat} {C : q_S} {H : Heap} {locs : List Loc} {ls : Array Slot} {cells slots : Nat} (X : q_X p s m args c cL_law 8 wsL_law RL g s0) {b L : Nat} {xs : Nat → Int32} (hXs : va_X b L xs s s.heap) (hbl : b < s.heap.size) (hbs : b < s0) (hL : L ≤ 3584) (q : Nat) (hq : 7 * q + 7 ≤ L) (hcl : cells ≤ 600000) (hsl : slots ≤ 7200000) (hRel : Rel C n q) (hP : q_P g s0 n ad C H) (hS : va_S (q_A s0) s.heap H locs) (hl : lv_has ls 8 [(4, .int (iI (((7 * q) : Nat) : Int))), (0, .ref b), (1, .ref (ad 4 0)), (2, .ref (ad 5 0)), (3, .ref (ad 50 0))])
    (kx : ∀ (n1 : Nat → Nat) (ad1 : Nat → Nat → Nat) (C1 : q_S) (H : Heap) (locs : List Loc) (ls : Array Slot), Rel C1 n1 (q + 1) → ad1 4 0 = ad 4 0 → ad1 5 0 = ad 5 0 → ad1 50 0 = ad 50 0 → q_P g s0 n1 ad1 C1 H → va_S (q_A s0) s.heap H locs → lv_has ls 8 [(4, .int (iI ((7 * q : Nat) : Int))), (0, .ref b), (1, .ref (ad1 4 0)), (2, .ref (ad1 5 0)), (3, .ref (ad1 50 0))] → W p l e room_1 s m args below meth c H locs (cells + 3) (slots + 21) Q (F0 m 1157 ls [])) :
    W p l e room_1 s m args below meth c H locs cells slots Q (F0 m 398 ls []) := by
  have hz : gz C n := ⟨hP.2.2.2, fun p => hP.tok 2 4 p rfl⟩
  have hC : c_S C n := hRel.2.2.2.2.2.2.2.2.2.2.2.2.2.2.2.2.1
  have hR := hRel.cR hz
  have h50 : 0 < n 50 := by rw [hRel.2.2.2.2.2.2.2.2.2.2.2.2.2.2.2.2.2.2]; decide
  have hP0 := hP
  refine lv_aload_n X.1 X.2.1 dL_law_398 rfl (lv_at hl 2 rfl) ?_
  refine lv_aload_n X.1 X.2.1 dL_law_399 rfl (lv_at hl 1 rfl) ?_
  refine lv_iload X.1 X.2.1 dL_law_400 (lv_at hl 0 rfl) ?_
  refine lv_iconst (v := iI (1)) X.1 X.2.1 dL_law_402 rfl ?_
  refine q_iadd X dL_law_403 ?_
  refine q_sld X hXs hbl hbs hS (7 * q + 1) (by omega) (by omega) hL dL_law_404 ?_
  refine lv_aload_n X.1 X.2.1 dL_law_405 rfl (lv_at hl 1 rfl) ?_
  refine lv_iload X.1 X.2.1 dL_law_406 (lv_at hl 0 rfl) ?_
  refine lv_iconst (v := iI (2)) X.1 X.2.1 dL_law_408 rfl ?_
  refine q_iadd X dL_law_409 ?_
  refine q_sld X hXs hbl hbs hS (7 * q + 2) (by omega) (by omega) hL dL_law_410 ?_
  refine q_i2l X (i32r _) dL_law_411 ?_
  refine lv_bipush (v := iI (32)) X.1 X.2.1 dL_law_412 (by decide) ?_
  refine lv_lshl (v := (jI (xs (7 * q + 2)).toInt <<< ((iI (32)).toInt64 &&& 63))) X.1 X.2.1 dL_law_414 rfl ?_
  refine lv_aload_n X.1 X.2.1 dL_law_415 rfl (lv_at hl 1 rfl) ?_
  refine lv_iload X.1 X.2.1 dL_law_416 (lv_at hl 0 rfl) ?_
  refine lv_iconst (v := iI (3)) X.1 X.2.1 dL_law_418 rfl ?_
  refine q_iadd X dL_law_419 ?_
  refine q_sld X hXs hbl hbs hS (7 * q + 3) (by omega) (by omega) hL dL_law_420 ?_
  refine q_i2l X (i32r _) dL_law_421 ?_
  refine q_ldc2 (v := 4294967295) (z := 4294967295) X (by decide) (by decide +kernel) dL_law_422 ?_
  refine lv_land X.1 X.2.1 dL_law_425 ?_
  refine lv_lor X.1 X.2.1 dL_law_426 ?_
  rw [show ((jI (xs (7 * q + 2)).toInt <<< ((iI (32)).toInt64 &&& 63)) ||| ((jI (xs (7 * q + 3)).toInt) &&& (jI (4294967295)))) = jI ((jI (xs (7 * q + 2)).toInt <<< ((iI (32)).toInt64 &&& 63)) ||| ((jI (xs (7 * q + 3)).toInt) &&& (jI (4294967295)))).toInt from (Int64.ofInt_toInt _).symm]
  refine lv_aload_n X.1 X.2.1 dL_law_427 rfl (lv_at hl 4 rfl) ?_
  refine va_calli (vx_runSW (As := [.ref (ad 4 0), .int (iI (xs (7 * q + 1)).toInt), .long (jI ((jI (xs (7 * q + 2)).toInt <<< ((iI (32)).toInt64 &&& 63)) ||| ((jI (xs (7 * q + 3)).toInt) &&& (jI (4294967295)))).toInt), .ref (ad 50 0)]) (rest := []) X.fix (c_L_take l htr g s0 n ad C q hC hR (by omega) h50 (xs (7 * q + 1)).toInt ((jI (xs (7 * q + 2)).toInt <<< ((iI (32)).toInt64 &&& 63)) ||| ((jI (xs (7 * q + 3)).toInt) &&& (jI (4294967295)))).toInt (i32r _) (j64r _)) (vx_cwSW 4 X.2.2.2.2.1 gL_law_L_take rfl rfl rfl (by decide +kernel) ⟨Nat.le_of_ble_eq_true rfl, Nat.le_of_ble_eq_true rfl⟩) (q_preS X hP hS _) rfl rfl hl.1 rfl (lv_room (Nat.le_of_ble_eq_true rfl)) dL_law_428 ⟨(by show _ ≤ 601024; omega), (by show _ ≤ 7293034; omega)⟩) hS q_id q_id1 (fun r u t H locs ht hvm hw hB hz1 hk1 hS => ?_)
  obtain ⟨n1, ad1, C1⟩ := u
  have hP : q_P g s0 n1 ad1 C1 H := q_back hB ht
  obtain ⟨⟨f4, f5, f50, fn⟩, fk⟩ := f_L_take hw
  dsimp only at f4 f5 f50 fn fk
  have hM1 : m_S C1 n1 := mS_u fk fn hRel.2.2.2.2.2.2.2.2.2.2.2.2.2.2.2.2.2.1
  have hR1 : m_R C1 q := mR_u fk (hRel.mR hz (by omega))
  have hl : lv_has ls 8 [(4, .int (iI (((7 * q) : Nat) : Int))), (0, .ref b), (1, .ref (ad1 4 0)), (2, .ref (ad1 5 0)), (3, .ref (ad1 50 0))] := lv_cong hl (lv_cs rfl (lv_cs rfl (lv_cs (congrArg Value.ref f4.symm) (lv_cs (congrArg Value.ref f5.symm) (lv_cs (congrArg Value.ref f50.symm) rfl)))))
  have v5 : 0 < n1 5 := m_v5 hM1
  have v50 : 0 < n1 50 := by rw [fn 50 (by decide)]; exact h50
  refine lv_istore (lv' := [(5, .int r), (4, .int (iI (((7 * q) : Nat) : Int))), (0, .ref b), (1, .ref (ad1 4 0)), (2, .ref (ad1 5 0)), (3, .ref (ad1 50 0))]) X.1 X.2.1 dL_law_431 hl (by decide) rfl (fun ls hl => ?_)
  refine lv_aload_n X.1 X.2.1 dL_law_433 rfl (lv_at hl 4 rfl) ?_
  refine lv_aload_n X.1 X.2.1 dL_law_434 rfl (lv_at hl 2 rfl) ?_
  refine lv_iload X.1 X.2.1 dL_law_435 (lv_at hl 1 rfl) ?_
  refine lv_iconst (v := iI (1)) X.1 X.2.1 dL_law_437 rfl ?_
  refine q_iadd X dL_law_438 ?_
  refine q_sld X hXs hbl hbs hS (7 * q + 1) (by omega) (by omega) hL dL_law_439 ?_
  refine lv_aload_n X.1 X.2.1 dL_law_440 rfl (lv_at hl 2 rfl) ?_
  refine lv_iload X.1 X.2.1 dL_law_441 (lv_at hl 1 rfl) ?_
  refine lv_iconst (v := iI (2)) X.1 X.2.1 dL_law_443 rfl ?_
  refine q_iadd X dL_law_444 ?_
  refine q_sld X hXs hbl hbs hS (7 * q + 2) (by omega) (by omega) hL dL_law_445 ?_
  refine q_i2l X (i32r _) dL_law_446 ?_
  refine lv_bipush (v := iI (32)) X.1 X.2.1 dL_law_447 (by decide) ?_
  refine lv_lshl (v := (jI (xs (7 * q + 2)).toInt <<< ((iI (32)).toInt64 &&& 63))) X.1 X.2.1 dL_law_449 rfl ?_
  refine lv_aload_n X.1 X.2.1 dL_law_450 rfl (lv_at hl 2 rfl) ?_
  refine lv_iload X.1 X.2.1 dL_law_451 (lv_at hl 1 rfl) ?_
  refine lv_iconst (v := iI (3)) X.1 X.2.1 dL_law_453 rfl ?_
  refine q_iadd X dL_law_454 ?_
  refine q_sld X hXs hbl hbs hS (7 * q + 3) (by omega) (by omega) hL dL_law_455 ?_
  refine q_i2l X (i32r _) dL_law_456 ?_
  refine q_ldc2 (v := 4294967295) (z := 4294967295) X (by decide) (by decide +kernel) dL_law_457 ?_
  refine lv_land X.1 X.2.1 dL_law_460 ?_
  refine lv_lor X.1 X.2.1 dL_law_461 ?_
  rw [show ((jI (xs (7 * q + 2)).toInt <<< ((iI (32)).toInt64 &&& 63)) ||| ((jI (xs (7 * q + 3)).toInt) &&& (jI (4294967295)))) = jI ((jI (xs (7 * q + 2)).toInt <<< ((iI (32)).toInt64 &&& 63)) ||| ((jI (xs (7 * q + 3)).toInt) &&& (jI (4294967295)))).toInt from (Int64.ofInt_toInt _).symm]
  refine va_calli (va_runV (As := [.int (iI (xs (7 * q + 1)).toInt), .long (jI ((jI (xs (7 * q + 2)).toInt <<< ((iI (32)).toInt64 &&& 63)) ||| ((jI (xs (7 * q + 3)).toInt) &&& (jI (4294967295)))).toInt)]) (rest := []) X.fix (c_X5_take l g s0 n1 ad1 C1 q hM1 hR1 (by omega) (xs (7 * q + 1)).toInt ((jI (xs (7 * q + 2)).toInt <<< ((iI (32)).toInt64 &&& 63)) ||| ((jI (xs (7 * q + 3)).toInt) &&& (jI (4294967295)))).toInt (i32r _) (j64r _)) (cwV 2 X.2.2.2.2.1 gL_law_X5_take rfl rfl rfl (by decide +kernel) ⟨Nat.le_of_ble_eq_true rfl, Nat.le_of_ble_eq_true rfl⟩) (q_preV X hP hS [.int (iI (xs (7 * q + 1)).toInt), .long (jI ((jI (xs (7 * q + 2)).toInt <<< ((iI (32)).toInt64 &&& 63)) ||| ((jI (xs (7 * q + 3)).toInt) &&& (jI (4294967295)))).toInt)] (kd := 5) (by decide) rfl v5) rfl rfl hl.1 rfl (lv_room (Nat.le_of_ble_eq_true rfl)) dL_law_462 ⟨(by show _ ≤ 601024; omega), (by show _ ≤ 7293034; omega)⟩) hS q_id q_id1 (fun rb u t H locs ht hvm hw2 hB hz1 hk1 hS => ?_)
  obtain ⟨n2, ad2, C2⟩ := u
  obtain ⟨ev, he, rfl, h5e, h0e, en, ea, hRel2⟩ := o_take hRel hz (by omega) hw hw2
  dsimp only at h5e h0e en ea hRel2
  have en2 := en.symm
  have ea2 := ea.symm
  subst en2 ea2
  have hP := q_back hB ht
  dsimp only at hP
  have hM2 := hRel2.2.2.2.2.2.2.2.2.2.2.2.2.2.2.2.2.2.1
  refine lv_istore (lv' := [(6, .int rb), (5, .int (iI ev)), (4, .int (iI (((7 * q) : Nat) : Int))), (0, .ref b), (1, .ref (ad1 4 0)), (2, .ref (ad1 5 0)), (3, .ref (ad1 50 0))]) X.1 X.2.1 dL_law_465 hl (by decide) rfl (fun ls hl => ?_)
  refine lv_aload_n X.1 X.2.1 dL_law_467 rfl (lv_at hl 5 rfl) ?_
  refine va_calli (va_runV (As := []) (rest := []) X.fix (c_X5_thrown l g s0 n1 ad1 C2 hM2) (cwV 0 X.2.2.2.2.1 gL_law_X5_thrown rfl rfl rfl (by decide +kernel) ⟨Nat.le_of_ble_eq_true rfl, Nat.le_of_ble_eq_true rfl⟩) (q_preV X hP hS [] (kd := 5) (by decide) rfl v5) rfl rfl hl.1 rfl (lv_room (Nat.le_of_ble_eq_true rfl)) dL_law_468 ⟨(by show _ ≤ 601024; omega), (by show _ ≤ 7293034; omega)⟩) hS q_id q_id1 (fun r u t H locs ht hvm hw hB hz1 hk1 hS => ?_)
  obtain ⟨rfl, rfl⟩ := hw
  have hP : q_P g s0 n1 ad1 C2 H := q_back hB ht
  refine lv_iload X.1 X.2.1 dL_law_471 (lv_at hl 1 rfl) ?_
  refine q_icmp_eq (tgt := 478) X (hP.tok 5 0 0 rfl) (by omega) dL_law_473 (by decide) (fun h_1 => ?_) (fun h_1 => ?_)
  · refine lv_iload X.1 X.2.1 dL_law_478 (lv_at hl 1 rfl) ?_
    refine q_if_ne (tgt := 495) X (by omega) dL_law_480 (by decide) (fun h_2 => ?_) (fun h_2 => ?_)
    · refine lv_goto (tgt := 1157) X.1 X.2.1 dL_law_495 (by decide) ?_
      have hl : lv_has ls 8 [(4, .int (iI (((7 * q) : Nat) : Int))), (0, .ref b), (1, .ref (ad1 4 0)), (2, .ref (ad1 5 0)), (3, .ref (ad1 50 0))] := lv_sub hl [2, 3, 4, 5, 6] rfl
      refine W.widen (by omega : _ ≤ cells + 3) (by omega : _ ≤ slots + 21) ?_
      exact kx _ _ _ _ _ ls hRel2 f4 f5 f50 hP hS hl
    · obtain ⟨z9, ⟨hz9, rfl⟩, h50e⟩ := h0e (by omega)
      refine lv_aload_n X.1 X.2.1 dL_law_483 rfl (lv_at hl 6 rfl) ?_
      refine lv_iconst (v := iI (0)) X.1 X.2.1 dL_law_484 rfl ?_
      refine q_lldv (len := 1) (v := (C2 50 0 0)) X hP 50 0 (by decide) rfl rfl v50 rfl (by decide) (by decide) rfl dL_law_485 ?_
      refine lv_iload X.1 X.2.1 dL_law_486 (lv_at hl 0 rfl) ?_
      refine q_i2l X hz9 dL_law_488 ?_
      refine q_lcmp_eq (tgt := 495) X (hP.tok 50 0 0 rfl) (q_3264 hz9) dL_law_489 dL_law_490 (by decide) (fun h_3 => ?_) (fun h_3 => ?_)
      · refine lv_goto (tgt := 1157) X.1 X.2.1 dL_law_495 (by decide) ?_
        have hl : lv_has ls 8 [(4, .int (iI (((7 * q) : Nat) : Int))), (0, .ref b), (1, .ref (ad1 4 0)), (2, .ref (ad1 5 0)), (3, .ref (ad1 50 0))] := lv_sub hl [2, 3, 4, 5, 6] rfl
        refine W.widen (by omega : _ ≤ cells + 3) (by omega : _ ≤ slots + 21) ?_
        exact kx _ _ _ _ _ ls hRel2 f4 f5 f50 hP hS hl
      · refine lv_iconst (v := iI (0)) X.1 X.2.1 dL_law_493 rfl ?_
        exfalso
        omega
  · refine lv_iconst (v := iI (0)) X.1 X.2.1 dL_law_476 rfl ?_
    exfalso
    omega
set_option maxHeartbeats 4000000 in
set_option maxRecDepth 100000 in
theorem w_law_print {p : Program} {l : Launch} {e : Env} {s : State} {m : MethodId} {args : Array Value} {below : List Frame} {meth : Method} {c : Code} {Q : State → Prop} {g : q_G} {s0 : Nat} (htr : l.stackTraces = false) {n : Nat → Nat} {ad : Nat → Nat → Nat} {C : q_S} {H : Heap} {locs : List Loc} {ls : Array Slot} {cells slots : Nat} (X : q_X p s m args c cL_law 8 wsL_law RL g s0) {b L : Nat} {xs : Nat → Int32} (hXs : va_X b L xs s s.heap) (hbl : b < s.heap.size) (hbs : b < s0) (hL : L ≤ 3584) (q : Nat) (hq : 7 * q + 7 ≤ L) (hcl : cells ≤ 600000) (hsl : slots ≤ 7200000) (hRel : Rel C n q) (hP : q_P g s0 n ad C H) (hS : va_S (q_A s0) s.heap H locs) (hl : lv_has ls 8 [(4, .int (iI (((7 * q) : Nat) : Int))), (0, .ref b), (1, .ref (ad 4 0)), (2, .ref (ad 5 0)), (3, .ref (ad 50 0))])
    (kx : ∀ (n1 : Nat → Nat) (ad1 : Nat → Nat → Nat) (C1 : q_S) (H : Heap) (locs : List Loc) (ls : Array Slot), Rel C1 n1 (q + 1) → ad1 4 0 = ad 4 0 → ad1 5 0 = ad 5 0 → ad1 50 0 = ad 50 0 → q_P g s0 n1 ad1 C1 H → va_S (q_A s0) s.heap H locs → lv_has ls 8 [(4, .int (iI ((7 * q : Nat) : Int))), (0, .ref b), (1, .ref (ad1 4 0)), (2, .ref (ad1 5 0)), (3, .ref (ad1 50 0))] → W p l e room_1 s m args below meth c H locs (cells + 3) (slots + 21) Q (F0 m 1157 ls [])) :
    W p l e room_1 s m args below meth c H locs cells slots Q (F0 m 498 ls []) := by
  have hz : gz C n := ⟨hP.2.2.2, fun p => hP.tok 2 4 p rfl⟩
  have hC : c_S C n := hRel.2.2.2.2.2.2.2.2.2.2.2.2.2.2.2.2.1
  have hR := hRel.cR hz
  have h50 : 0 < n 50 := by rw [hRel.2.2.2.2.2.2.2.2.2.2.2.2.2.2.2.2.2.2]; decide
  have hP0 := hP
  refine lv_aload_n X.1 X.2.1 dL_law_498 rfl (lv_at hl 2 rfl) ?_
  refine lv_aload_n X.1 X.2.1 dL_law_499 rfl (lv_at hl 1 rfl) ?_
  refine lv_iload X.1 X.2.1 dL_law_500 (lv_at hl 0 rfl) ?_
  refine lv_iconst (v := iI (1)) X.1 X.2.1 dL_law_502 rfl ?_
  refine q_iadd X dL_law_503 ?_
  refine q_sld X hXs hbl hbs hS (7 * q + 1) (by omega) (by omega) hL dL_law_504 ?_
  refine lv_aload_n X.1 X.2.1 dL_law_505 rfl (lv_at hl 1 rfl) ?_
  refine lv_iload X.1 X.2.1 dL_law_506 (lv_at hl 0 rfl) ?_
  refine lv_iconst (v := iI (2)) X.1 X.2.1 dL_law_508 rfl ?_
  refine q_iadd X dL_law_509 ?_
  refine q_sld X hXs hbl hbs hS (7 * q + 2) (by omega) (by omega) hL dL_law_510 ?_
  refine lv_aload_n X.1 X.2.1 dL_law_511 rfl (lv_at hl 4 rfl) ?_
  refine va_calli (vx_runSW (As := [.ref (ad 4 0), .int (iI (xs (7 * q + 1)).toInt), .int (iI (xs (7 * q + 2)).toInt), .ref (ad 50 0)]) (rest := []) X.fix (c_L_print l htr g s0 n ad C q hC hR (by omega) h50 (xs (7 * q + 1)).toInt (xs (7 * q + 2)).toInt (i32r _) (i32r _) hRel.cI) (vx_cwSW 4 X.2.2.2.2.1 gL_law_L_print rfl rfl rfl (by decide +kernel) ⟨Nat.le_of_ble_eq_true rfl, Nat.le_of_ble_eq_true rfl⟩) (q_preS X hP hS _) rfl rfl hl.1 rfl (lv_room (Nat.le_of_ble_eq_true rfl)) dL_law_512 ⟨(by show _ ≤ 601024; omega), (by show _ ≤ 7293034; omega)⟩) hS q_id q_id1 (fun r u t H locs ht hvm hw hB hz1 hk1 hS => ?_)
  obtain ⟨n1, ad1, C1⟩ := u
  have hP : q_P g s0 n1 ad1 C1 H := q_back hB ht
  obtain ⟨⟨f4, f5, f50, fn⟩, fk⟩ := f_L_print hw
  dsimp only at f4 f5 f50 fn fk
  have hM1 : m_S C1 n1 := mS_u fk fn hRel.2.2.2.2.2.2.2.2.2.2.2.2.2.2.2.2.2.1
  have hR1 : m_R C1 q := mR_u fk (hRel.mR hz (by omega))
  have hl : lv_has ls 8 [(4, .int (iI (((7 * q) : Nat) : Int))), (0, .ref b), (1, .ref (ad1 4 0)), (2, .ref (ad1 5 0)), (3, .ref (ad1 50 0))] := lv_cong hl (lv_cs rfl (lv_cs rfl (lv_cs (congrArg Value.ref f4.symm) (lv_cs (congrArg Value.ref f5.symm) (lv_cs (congrArg Value.ref f50.symm) rfl)))))
  have v5 : 0 < n1 5 := m_v5 hM1
  have v50 : 0 < n1 50 := by rw [fn 50 (by decide)]; exact h50
  refine lv_istore (lv' := [(5, .int r), (4, .int (iI (((7 * q) : Nat) : Int))), (0, .ref b), (1, .ref (ad1 4 0)), (2, .ref (ad1 5 0)), (3, .ref (ad1 50 0))]) X.1 X.2.1 dL_law_515 hl (by decide) rfl (fun ls hl => ?_)
  refine lv_aload_n X.1 X.2.1 dL_law_517 rfl (lv_at hl 4 rfl) ?_
  refine lv_aload_n X.1 X.2.1 dL_law_518 rfl (lv_at hl 2 rfl) ?_
  refine lv_iload X.1 X.2.1 dL_law_519 (lv_at hl 1 rfl) ?_
  refine lv_iconst (v := iI (1)) X.1 X.2.1 dL_law_521 rfl ?_
  refine q_iadd X dL_law_522 ?_
  refine q_sld X hXs hbl hbs hS (7 * q + 1) (by omega) (by omega) hL dL_law_523 ?_
  refine lv_aload_n X.1 X.2.1 dL_law_524 rfl (lv_at hl 2 rfl) ?_
  refine lv_iload X.1 X.2.1 dL_law_525 (lv_at hl 1 rfl) ?_
  refine lv_iconst (v := iI (2)) X.1 X.2.1 dL_law_527 rfl ?_
  refine q_iadd X dL_law_528 ?_
  refine q_sld X hXs hbl hbs hS (7 * q + 2) (by omega) (by omega) hL dL_law_529 ?_
  refine va_calli (va_runV (As := [.int (iI (xs (7 * q + 1)).toInt), .int (iI (xs (7 * q + 2)).toInt)]) (rest := []) X.fix (c_X5_print l g s0 n1 ad1 C1 q hM1 hR1 (by omega) (xs (7 * q + 1)).toInt (xs (7 * q + 2)).toInt (i32r _) (i32r _)) (cwV 2 X.2.2.2.2.1 gL_law_X5_print rfl rfl rfl (by decide +kernel) ⟨Nat.le_of_ble_eq_true rfl, Nat.le_of_ble_eq_true rfl⟩) (q_preV X hP hS [.int (iI (xs (7 * q + 1)).toInt), .int (iI (xs (7 * q + 2)).toInt)] (kd := 5) (by decide) rfl v5) rfl rfl hl.1 rfl (lv_room (Nat.le_of_ble_eq_true rfl)) dL_law_530 ⟨(by show _ ≤ 601024; omega), (by show _ ≤ 7293034; omega)⟩) hS q_id q_id1 (fun rb u t H locs ht hvm hw2 hB hz1 hk1 hS => ?_)
  obtain ⟨n2, ad2, C2⟩ := u
  obtain ⟨ev, he, rfl, h5e, h0e, en, ea, hRel2⟩ := o_print hRel hz (by omega) (fun j => hP0.tok 2 5 j rfl) hw hw2
  dsimp only at h5e h0e en ea hRel2
  have en2 := en.symm
  have ea2 := ea.symm
  subst en2 ea2
  have hP := q_back hB ht
  dsimp only at hP
  have hM2 := hRel2.2.2.2.2.2.2.2.2.2.2.2.2.2.2.2.2.2.1
  refine lv_istore (lv' := [(6, .int rb), (5, .int (iI ev)), (4, .int (iI (((7 * q) : Nat) : Int))), (0, .ref b), (1, .ref (ad1 4 0)), (2, .ref (ad1 5 0)), (3, .ref (ad1 50 0))]) X.1 X.2.1 dL_law_533 hl (by decide) rfl (fun ls hl => ?_)
  refine lv_aload_n X.1 X.2.1 dL_law_535 rfl (lv_at hl 5 rfl) ?_
  refine va_calli (va_runV (As := []) (rest := []) X.fix (c_X5_thrown l g s0 n1 ad1 C2 hM2) (cwV 0 X.2.2.2.2.1 gL_law_X5_thrown rfl rfl rfl (by decide +kernel) ⟨Nat.le_of_ble_eq_true rfl, Nat.le_of_ble_eq_true rfl⟩) (q_preV X hP hS [] (kd := 5) (by decide) rfl v5) rfl rfl hl.1 rfl (lv_room (Nat.le_of_ble_eq_true rfl)) dL_law_536 ⟨(by show _ ≤ 601024; omega), (by show _ ≤ 7293034; omega)⟩) hS q_id q_id1 (fun r u t H locs ht hvm hw hB hz1 hk1 hS => ?_)
  obtain ⟨rfl, rfl⟩ := hw
  have hP : q_P g s0 n1 ad1 C2 H := q_back hB ht
  refine lv_iload X.1 X.2.1 dL_law_539 (lv_at hl 1 rfl) ?_
  refine q_icmp_eq (tgt := 546) X (hP.tok 5 0 0 rfl) (by omega) dL_law_541 (by decide) (fun h_1 => ?_) (fun h_1 => ?_)
  · refine lv_iload X.1 X.2.1 dL_law_546 (lv_at hl 1 rfl) ?_
    refine q_if_ne (tgt := 563) X (by omega) dL_law_548 (by decide) (fun h_2 => ?_) (fun h_2 => ?_)
    · refine lv_goto (tgt := 1157) X.1 X.2.1 dL_law_563 (by decide) ?_
      have hl : lv_has ls 8 [(4, .int (iI (((7 * q) : Nat) : Int))), (0, .ref b), (1, .ref (ad1 4 0)), (2, .ref (ad1 5 0)), (3, .ref (ad1 50 0))] := lv_sub hl [2, 3, 4, 5, 6] rfl
      refine W.widen (by omega : _ ≤ cells + 3) (by omega : _ ≤ slots + 21) ?_
      exact kx _ _ _ _ _ ls hRel2 f4 f5 f50 hP hS hl
    · obtain ⟨z9, ⟨hz9, rfl⟩, h50e⟩ := h0e (by omega)
      refine lv_aload_n X.1 X.2.1 dL_law_551 rfl (lv_at hl 6 rfl) ?_
      refine lv_iconst (v := iI (0)) X.1 X.2.1 dL_law_552 rfl ?_
      refine q_lldv (len := 1) (v := (C2 50 0 0)) X hP 50 0 (by decide) rfl rfl v50 rfl (by decide) (by decide) rfl dL_law_553 ?_
      refine lv_iload X.1 X.2.1 dL_law_554 (lv_at hl 0 rfl) ?_
      refine q_i2l X hz9 dL_law_556 ?_
      refine q_lcmp_eq (tgt := 563) X (hP.tok 50 0 0 rfl) (q_3264 hz9) dL_law_557 dL_law_558 (by decide) (fun h_3 => ?_) (fun h_3 => ?_)
      · refine lv_goto (tgt := 1157) X.1 X.2.1 dL_law_563 (by decide) ?_
        have hl : lv_has ls 8 [(4, .int (iI (((7 * q) : Nat) : Int))), (0, .ref b), (1, .ref (ad1 4 0)), (2, .ref (ad1 5 0)), (3, .ref (ad1 50 0))] := lv_sub hl [2, 3, 4, 5, 6] rfl
        refine W.widen (by omega : _ ≤ cells + 3) (by omega : _ ≤ slots + 21) ?_
        exact kx _ _ _ _ _ ls hRel2 f4 f5 f50 hP hS hl
      · refine lv_iconst (v := iI (0)) X.1 X.2.1 dL_law_561 rfl ?_
        exfalso
        omega
  · refine lv_iconst (v := iI (0)) X.1 X.2.1 dL_law_544 rfl ?_
    exfalso
    omega
set_option maxHeartbeats 4000000 in
set_option maxRecDepth 100000 in
theorem w_law_fault {p : Program} {l : Launch} {e : Env} {s : State} {m : MethodId} {args : Array Value} {below : List Frame} {meth : Method} {c : Code} {Q : State → Prop} {g : q_G} {s0 : Nat} (htr : l.stackTraces = false) {n : Nat → Nat} {ad : Nat → Nat → Nat} {C : q_S} {H : Heap} {locs : List Loc} {ls : Array Slot} {cells slots : Nat} (X : q_X p s m args c cL_law 8 wsL_law RL g s0) {b L : Nat} {xs : Nat → Int32} (hXs : va_X b L xs s s.heap) (hbl : b < s.heap.size) (hbs : b < s0) (hL : L ≤ 3584) (q : Nat) (hq : 7 * q + 7 ≤ L) (hcl : cells ≤ 600000) (hsl : slots ≤ 7200000) (hRel : Rel C n q) (hP : q_P g s0 n ad C H) (hS : va_S (q_A s0) s.heap H locs) (hl : lv_has ls 8 [(4, .int (iI (((7 * q) : Nat) : Int))), (0, .ref b), (1, .ref (ad 4 0)), (2, .ref (ad 5 0)), (3, .ref (ad 50 0))])
    (kx : ∀ (n1 : Nat → Nat) (ad1 : Nat → Nat → Nat) (C1 : q_S) (H : Heap) (locs : List Loc) (ls : Array Slot), Rel C1 n1 (q + 1) → ad1 4 0 = ad 4 0 → ad1 5 0 = ad 5 0 → ad1 50 0 = ad 50 0 → q_P g s0 n1 ad1 C1 H → va_S (q_A s0) s.heap H locs → lv_has ls 8 [(4, .int (iI ((7 * q : Nat) : Int))), (0, .ref b), (1, .ref (ad1 4 0)), (2, .ref (ad1 5 0)), (3, .ref (ad1 50 0))] → W p l e room_1 s m args below meth c H locs (cells + 3) (slots + 21) Q (F0 m 1157 ls [])) :
    W p l e room_1 s m args below meth c H locs cells slots Q (F0 m 566 ls []) := by
  have hz : gz C n := ⟨hP.2.2.2, fun p => hP.tok 2 4 p rfl⟩
  have hC : c_S C n := hRel.2.2.2.2.2.2.2.2.2.2.2.2.2.2.2.2.1
  have hR := hRel.cR hz
  have h50 : 0 < n 50 := by rw [hRel.2.2.2.2.2.2.2.2.2.2.2.2.2.2.2.2.2.2]; decide
  have hP0 := hP
  refine lv_aload_n X.1 X.2.1 dL_law_566 rfl (lv_at hl 2 rfl) ?_
  refine lv_aload_n X.1 X.2.1 dL_law_567 rfl (lv_at hl 1 rfl) ?_
  refine lv_iload X.1 X.2.1 dL_law_568 (lv_at hl 0 rfl) ?_
  refine lv_iconst (v := iI (1)) X.1 X.2.1 dL_law_570 rfl ?_
  refine q_iadd X dL_law_571 ?_
  refine q_sld X hXs hbl hbs hS (7 * q + 1) (by omega) (by omega) hL dL_law_572 ?_
  refine lv_aload_n X.1 X.2.1 dL_law_573 rfl (lv_at hl 4 rfl) ?_
  refine va_calli (vx_runSW (As := [.ref (ad 4 0), .int (iI (xs (7 * q + 1)).toInt), .ref (ad 50 0)]) (rest := []) X.fix (c_L_fault l htr g s0 n ad C q hC hR (by omega) h50 (xs (7 * q + 1)).toInt (i32r _)) (vx_cwSW 3 X.2.2.2.2.1 gL_law_L_fault rfl rfl rfl (by decide +kernel) ⟨Nat.le_of_ble_eq_true rfl, Nat.le_of_ble_eq_true rfl⟩) (q_preS X hP hS _) rfl rfl hl.1 rfl (lv_room (Nat.le_of_ble_eq_true rfl)) dL_law_574 ⟨(by show _ ≤ 601024; omega), (by show _ ≤ 7293034; omega)⟩) hS q_id q_id1 (fun r u t H locs ht hvm hw hB hz1 hk1 hS => ?_)
  obtain ⟨n1, ad1, C1⟩ := u
  have hP : q_P g s0 n1 ad1 C1 H := q_back hB ht
  obtain ⟨⟨f4, f5, f50, fn⟩, fk⟩ := f_L_fault hw
  dsimp only at f4 f5 f50 fn fk
  have hM1 : m_S C1 n1 := mS_u fk fn hRel.2.2.2.2.2.2.2.2.2.2.2.2.2.2.2.2.2.1
  have hR1 : m_R C1 q := mR_u fk (hRel.mR hz (by omega))
  have hl : lv_has ls 8 [(4, .int (iI (((7 * q) : Nat) : Int))), (0, .ref b), (1, .ref (ad1 4 0)), (2, .ref (ad1 5 0)), (3, .ref (ad1 50 0))] := lv_cong hl (lv_cs rfl (lv_cs rfl (lv_cs (congrArg Value.ref f4.symm) (lv_cs (congrArg Value.ref f5.symm) (lv_cs (congrArg Value.ref f50.symm) rfl)))))
  have v5 : 0 < n1 5 := m_v5 hM1
  have v50 : 0 < n1 50 := by rw [fn 50 (by decide)]; exact h50
  refine lv_istore (lv' := [(5, .int r), (4, .int (iI (((7 * q) : Nat) : Int))), (0, .ref b), (1, .ref (ad1 4 0)), (2, .ref (ad1 5 0)), (3, .ref (ad1 50 0))]) X.1 X.2.1 dL_law_577 hl (by decide) rfl (fun ls hl => ?_)
  refine lv_aload_n X.1 X.2.1 dL_law_579 rfl (lv_at hl 4 rfl) ?_
  refine lv_aload_n X.1 X.2.1 dL_law_580 rfl (lv_at hl 2 rfl) ?_
  refine lv_iload X.1 X.2.1 dL_law_581 (lv_at hl 1 rfl) ?_
  refine lv_iconst (v := iI (1)) X.1 X.2.1 dL_law_583 rfl ?_
  refine q_iadd X dL_law_584 ?_
  refine q_sld X hXs hbl hbs hS (7 * q + 1) (by omega) (by omega) hL dL_law_585 ?_
  refine va_calli (va_runV (As := [.int (iI (xs (7 * q + 1)).toInt)]) (rest := []) X.fix (c_X5_fault l g s0 n1 ad1 C1 q hM1 hR1 (by omega) (xs (7 * q + 1)).toInt (i32r _)) (cwV 1 X.2.2.2.2.1 gL_law_X5_fault rfl rfl rfl (by decide +kernel) ⟨Nat.le_of_ble_eq_true rfl, Nat.le_of_ble_eq_true rfl⟩) (q_preV X hP hS [.int (iI (xs (7 * q + 1)).toInt)] (kd := 5) (by decide) rfl v5) rfl rfl hl.1 rfl (lv_room (Nat.le_of_ble_eq_true rfl)) dL_law_586 ⟨(by show _ ≤ 601024; omega), (by show _ ≤ 7293034; omega)⟩) hS q_id q_id1 (fun rb u t H locs ht hvm hw2 hB hz1 hk1 hS => ?_)
  obtain ⟨n2, ad2, C2⟩ := u
  obtain ⟨ev, he, rfl, h5e, h0e, en, ea, hRel2⟩ := o_fault hRel hz (by omega) hw hw2
  dsimp only at h5e h0e en ea hRel2
  have en2 := en.symm
  have ea2 := ea.symm
  subst en2 ea2
  have hP := q_back hB ht
  dsimp only at hP
  have hM2 := hRel2.2.2.2.2.2.2.2.2.2.2.2.2.2.2.2.2.2.1
  refine lv_istore (lv' := [(6, .int rb), (5, .int (iI ev)), (4, .int (iI (((7 * q) : Nat) : Int))), (0, .ref b), (1, .ref (ad1 4 0)), (2, .ref (ad1 5 0)), (3, .ref (ad1 50 0))]) X.1 X.2.1 dL_law_589 hl (by decide) rfl (fun ls hl => ?_)
  refine lv_aload_n X.1 X.2.1 dL_law_591 rfl (lv_at hl 5 rfl) ?_
  refine va_calli (va_runV (As := []) (rest := []) X.fix (c_X5_thrown l g s0 n1 ad1 C2 hM2) (cwV 0 X.2.2.2.2.1 gL_law_X5_thrown rfl rfl rfl (by decide +kernel) ⟨Nat.le_of_ble_eq_true rfl, Nat.le_of_ble_eq_true rfl⟩) (q_preV X hP hS [] (kd := 5) (by decide) rfl v5) rfl rfl hl.1 rfl (lv_room (Nat.le_of_ble_eq_true rfl)) dL_law_592 ⟨(by show _ ≤ 601024; omega), (by show _ ≤ 7293034; omega)⟩) hS q_id q_id1 (fun r u t H locs ht hvm hw hB hz1 hk1 hS => ?_)
  obtain ⟨rfl, rfl⟩ := hw
  have hP : q_P g s0 n1 ad1 C2 H := q_back hB ht
  refine lv_iload X.1 X.2.1 dL_law_595 (lv_at hl 1 rfl) ?_
  refine q_icmp_eq (tgt := 602) X (hP.tok 5 0 0 rfl) (by omega) dL_law_597 (by decide) (fun h_1 => ?_) (fun h_1 => ?_)
  · refine lv_iload X.1 X.2.1 dL_law_602 (lv_at hl 1 rfl) ?_
    refine q_if_ne (tgt := 619) X (by omega) dL_law_604 (by decide) (fun h_2 => ?_) (fun h_2 => ?_)
    · refine lv_goto (tgt := 1157) X.1 X.2.1 dL_law_619 (by decide) ?_
      have hl : lv_has ls 8 [(4, .int (iI (((7 * q) : Nat) : Int))), (0, .ref b), (1, .ref (ad1 4 0)), (2, .ref (ad1 5 0)), (3, .ref (ad1 50 0))] := lv_sub hl [2, 3, 4, 5, 6] rfl
      refine W.widen (by omega : _ ≤ cells + 3) (by omega : _ ≤ slots + 21) ?_
      exact kx _ _ _ _ _ ls hRel2 f4 f5 f50 hP hS hl
    · obtain ⟨z9, ⟨hz9, rfl⟩, h50e⟩ := h0e (by omega)
      refine lv_aload_n X.1 X.2.1 dL_law_607 rfl (lv_at hl 6 rfl) ?_
      refine lv_iconst (v := iI (0)) X.1 X.2.1 dL_law_608 rfl ?_
      refine q_lldv (len := 1) (v := (C2 50 0 0)) X hP 50 0 (by decide) rfl rfl v50 rfl (by decide) (by decide) rfl dL_law_609 ?_
      refine lv_iload X.1 X.2.1 dL_law_610 (lv_at hl 0 rfl) ?_
      refine q_i2l X hz9 dL_law_612 ?_
      refine q_lcmp_eq (tgt := 619) X (hP.tok 50 0 0 rfl) (q_3264 hz9) dL_law_613 dL_law_614 (by decide) (fun h_3 => ?_) (fun h_3 => ?_)
      · refine lv_goto (tgt := 1157) X.1 X.2.1 dL_law_619 (by decide) ?_
        have hl : lv_has ls 8 [(4, .int (iI (((7 * q) : Nat) : Int))), (0, .ref b), (1, .ref (ad1 4 0)), (2, .ref (ad1 5 0)), (3, .ref (ad1 50 0))] := lv_sub hl [2, 3, 4, 5, 6] rfl
        refine W.widen (by omega : _ ≤ cells + 3) (by omega : _ ≤ slots + 21) ?_
        exact kx _ _ _ _ _ ls hRel2 f4 f5 f50 hP hS hl
      · refine lv_iconst (v := iI (0)) X.1 X.2.1 dL_law_617 rfl ?_
        exfalso
        omega
  · refine lv_iconst (v := iI (0)) X.1 X.2.1 dL_law_600 rfl ?_
    exfalso
    omega
set_option maxHeartbeats 4000000 in
set_option maxRecDepth 100000 in
theorem w_law_hold {p : Program} {l : Launch} {e : Env} {s : State} {m : MethodId} {args : Array Value} {below : List Frame} {meth : Method} {c : Code} {Q : State → Prop} {g : q_G} {s0 : Nat} (htr : l.stackTraces = false) {n : Nat → Nat} {ad : Nat → Nat → Nat} {C : q_S} {H : Heap} {locs : List Loc} {ls : Array Slot} {cells slots : Nat} (X : q_X p s m args c cL_law 8 wsL_law RL g s0) {b L : Nat} {xs : Nat → Int32} (hXs : va_X b L xs s s.heap) (hbl : b < s.heap.size) (hbs : b < s0) (hL : L ≤ 3584) (q : Nat) (hq : 7 * q + 7 ≤ L) (hcl : cells ≤ 600000) (hsl : slots ≤ 7200000) (hRel : Rel C n q) (hP : q_P g s0 n ad C H) (hS : va_S (q_A s0) s.heap H locs) (hl : lv_has ls 8 [(4, .int (iI (((7 * q) : Nat) : Int))), (0, .ref b), (1, .ref (ad 4 0)), (2, .ref (ad 5 0)), (3, .ref (ad 50 0))])
    (kx : ∀ (n1 : Nat → Nat) (ad1 : Nat → Nat → Nat) (C1 : q_S) (H : Heap) (locs : List Loc) (ls : Array Slot), Rel C1 n1 (q + 1) → ad1 4 0 = ad 4 0 → ad1 5 0 = ad 5 0 → ad1 50 0 = ad 50 0 → q_P g s0 n1 ad1 C1 H → va_S (q_A s0) s.heap H locs → lv_has ls 8 [(4, .int (iI ((7 * q : Nat) : Int))), (0, .ref b), (1, .ref (ad1 4 0)), (2, .ref (ad1 5 0)), (3, .ref (ad1 50 0))] → W p l e room_1 s m args below meth c H locs (cells + 3) (slots + 21) Q (F0 m 1157 ls [])) :
    W p l e room_1 s m args below meth c H locs cells slots Q (F0 m 622 ls []) := by
  have hz : gz C n := ⟨hP.2.2.2, fun p => hP.tok 2 4 p rfl⟩
  have hC : c_S C n := hRel.2.2.2.2.2.2.2.2.2.2.2.2.2.2.2.2.1
  have hR := hRel.cR hz
  have h50 : 0 < n 50 := by rw [hRel.2.2.2.2.2.2.2.2.2.2.2.2.2.2.2.2.2.2]; decide
  have hP0 := hP
  refine lv_aload_n X.1 X.2.1 dL_law_622 rfl (lv_at hl 2 rfl) ?_
  refine lv_aload_n X.1 X.2.1 dL_law_623 rfl (lv_at hl 1 rfl) ?_
  refine lv_iload X.1 X.2.1 dL_law_624 (lv_at hl 0 rfl) ?_
  refine lv_iconst (v := iI (1)) X.1 X.2.1 dL_law_626 rfl ?_
  refine q_iadd X dL_law_627 ?_
  refine q_sld X hXs hbl hbs hS (7 * q + 1) (by omega) (by omega) hL dL_law_628 ?_
  refine lv_aload_n X.1 X.2.1 dL_law_629 rfl (lv_at hl 1 rfl) ?_
  refine lv_iload X.1 X.2.1 dL_law_630 (lv_at hl 0 rfl) ?_
  refine lv_iconst (v := iI (2)) X.1 X.2.1 dL_law_632 rfl ?_
  refine q_iadd X dL_law_633 ?_
  refine q_sld X hXs hbl hbs hS (7 * q + 2) (by omega) (by omega) hL dL_law_634 ?_
  refine q_if_eq (tgt := 642) X (i32r _) dL_law_635 (by decide) (fun h_1 => ?_) (fun h_1 => ?_)
  · refine lv_iconst (v := iI (0)) X.1 X.2.1 dL_law_642 rfl ?_
    refine lv_aload_n X.1 X.2.1 dL_law_643 rfl (lv_at hl 4 rfl) ?_
    refine va_calli (vx_runSW (As := [.ref (ad 4 0), .int (iI (xs (7 * q + 1)).toInt), .int (iI (0)), .ref (ad 50 0)]) (rest := []) X.fix (c_L_hold l htr g s0 n ad C q hC hR (by omega) h50 (xs (7 * q + 1)).toInt (0) (i32r _) (by decide) (by decide)) (vx_cwSW 4 X.2.2.2.2.1 gL_law_L_hold rfl rfl rfl (by decide +kernel) ⟨Nat.le_of_ble_eq_true rfl, Nat.le_of_ble_eq_true rfl⟩) (q_preS X hP hS _) rfl rfl hl.1 rfl (lv_room (Nat.le_of_ble_eq_true rfl)) dL_law_644 ⟨(by show _ ≤ 601024; omega), (by show _ ≤ 7293034; omega)⟩) hS q_id q_id1 (fun r u t H locs ht hvm hw hB hz1 hk1 hS => ?_)
    obtain ⟨n1, ad1, C1⟩ := u
    have hP : q_P g s0 n1 ad1 C1 H := q_back hB ht
    obtain ⟨⟨f4, f5, f50, fn⟩, fk⟩ := f_L_hold hw
    dsimp only at f4 f5 f50 fn fk
    have hM1 : m_S C1 n1 := mS_u fk fn hRel.2.2.2.2.2.2.2.2.2.2.2.2.2.2.2.2.2.1
    have hR1 : m_R C1 q := mR_u fk (hRel.mR hz (by omega))
    have hl : lv_has ls 8 [(4, .int (iI (((7 * q) : Nat) : Int))), (0, .ref b), (1, .ref (ad1 4 0)), (2, .ref (ad1 5 0)), (3, .ref (ad1 50 0))] := lv_cong hl (lv_cs rfl (lv_cs rfl (lv_cs (congrArg Value.ref f4.symm) (lv_cs (congrArg Value.ref f5.symm) (lv_cs (congrArg Value.ref f50.symm) rfl)))))
    have v5 : 0 < n1 5 := m_v5 hM1
    have v50 : 0 < n1 50 := by rw [fn 50 (by decide)]; exact h50
    refine lv_istore (lv' := [(5, .int r), (4, .int (iI (((7 * q) : Nat) : Int))), (0, .ref b), (1, .ref (ad1 4 0)), (2, .ref (ad1 5 0)), (3, .ref (ad1 50 0))]) X.1 X.2.1 dL_law_647 hl (by decide) rfl (fun ls hl => ?_)
    refine lv_aload_n X.1 X.2.1 dL_law_649 rfl (lv_at hl 4 rfl) ?_
    refine lv_aload_n X.1 X.2.1 dL_law_650 rfl (lv_at hl 2 rfl) ?_
    refine lv_iload X.1 X.2.1 dL_law_651 (lv_at hl 1 rfl) ?_
    refine lv_iconst (v := iI (1)) X.1 X.2.1 dL_law_653 rfl ?_
    refine q_iadd X dL_law_654 ?_
    refine q_sld X hXs hbl hbs hS (7 * q + 1) (by omega) (by omega) hL dL_law_655 ?_
    refine lv_aload_n X.1 X.2.1 dL_law_656 rfl (lv_at hl 2 rfl) ?_
    refine lv_iload X.1 X.2.1 dL_law_657 (lv_at hl 1 rfl) ?_
    refine lv_iconst (v := iI (2)) X.1 X.2.1 dL_law_659 rfl ?_
    refine q_iadd X dL_law_660 ?_
    refine q_sld X hXs hbl hbs hS (7 * q + 2) (by omega) (by omega) hL dL_law_661 ?_
    refine q_if_eq (tgt := 669) X (i32r _) dL_law_662 (by decide) (fun _ => ?_) (fun h_2 => absurd h_1 (by omega))
    refine lv_iconst (v := iI (0)) X.1 X.2.1 dL_law_669 rfl ?_
    refine va_calli (va_runV (As := [.int (iI (xs (7 * q + 1)).toInt), .int (iI (0))]) (rest := []) X.fix (c_X5_hold l g s0 n1 ad1 C1 q hM1 hR1 (by omega) (xs (7 * q + 1)).toInt (0) (i32r _) (by decide) (by decide)) (cwV 2 X.2.2.2.2.1 gL_law_X5_hold rfl rfl rfl (by decide +kernel) ⟨Nat.le_of_ble_eq_true rfl, Nat.le_of_ble_eq_true rfl⟩) (q_preV X hP hS [.int (iI (xs (7 * q + 1)).toInt), .int (iI (0))] (kd := 5) (by decide) rfl v5) rfl rfl hl.1 rfl (lv_room (Nat.le_of_ble_eq_true rfl)) dL_law_670 ⟨(by show _ ≤ 601024; omega), (by show _ ≤ 7293034; omega)⟩) hS q_id q_id1 (fun rb u t H locs ht hvm hw2 hB hz1 hk1 hS => ?_)
    obtain ⟨n2, ad2, C2⟩ := u
    obtain ⟨ev, he, rfl, h5e, h0e, en, ea, hRel2⟩ := o_hold hRel hz (fun j => hP0.tok 0 5 j rfl) hw hw2
    dsimp only at h5e h0e en ea hRel2
    have en2 := en.symm
    have ea2 := ea.symm
    subst en2 ea2
    have hP := q_back hB ht
    dsimp only at hP
    have hM2 := hRel2.2.2.2.2.2.2.2.2.2.2.2.2.2.2.2.2.2.1
    refine lv_istore (lv' := [(6, .int rb), (5, .int (iI ev)), (4, .int (iI (((7 * q) : Nat) : Int))), (0, .ref b), (1, .ref (ad1 4 0)), (2, .ref (ad1 5 0)), (3, .ref (ad1 50 0))]) X.1 X.2.1 dL_law_673 hl (by decide) rfl (fun ls hl => ?_)
    refine lv_aload_n X.1 X.2.1 dL_law_675 rfl (lv_at hl 5 rfl) ?_
    refine va_calli (va_runV (As := []) (rest := []) X.fix (c_X5_thrown l g s0 n1 ad1 C2 hM2) (cwV 0 X.2.2.2.2.1 gL_law_X5_thrown rfl rfl rfl (by decide +kernel) ⟨Nat.le_of_ble_eq_true rfl, Nat.le_of_ble_eq_true rfl⟩) (q_preV X hP hS [] (kd := 5) (by decide) rfl v5) rfl rfl hl.1 rfl (lv_room (Nat.le_of_ble_eq_true rfl)) dL_law_676 ⟨(by show _ ≤ 601024; omega), (by show _ ≤ 7293034; omega)⟩) hS q_id q_id1 (fun r u t H locs ht hvm hw hB hz1 hk1 hS => ?_)
    obtain ⟨rfl, rfl⟩ := hw
    have hP : q_P g s0 n1 ad1 C2 H := q_back hB ht
    refine lv_iload X.1 X.2.1 dL_law_679 (lv_at hl 1 rfl) ?_
    refine q_icmp_eq (tgt := 686) X (hP.tok 5 0 0 rfl) (by omega) dL_law_681 (by decide) (fun h_3 => ?_) (fun h_3 => ?_)
    · refine lv_iload X.1 X.2.1 dL_law_686 (lv_at hl 1 rfl) ?_
      refine q_if_ne (tgt := 703) X (by omega) dL_law_688 (by decide) (fun h_4 => ?_) (fun h_4 => ?_)
      · refine lv_goto (tgt := 1157) X.1 X.2.1 dL_law_703 (by decide) ?_
        have hl : lv_has ls 8 [(4, .int (iI (((7 * q) : Nat) : Int))), (0, .ref b), (1, .ref (ad1 4 0)), (2, .ref (ad1 5 0)), (3, .ref (ad1 50 0))] := lv_sub hl [2, 3, 4, 5, 6] rfl
        refine W.widen (by omega : _ ≤ cells + 3) (by omega : _ ≤ slots + 21) ?_
        exact kx _ _ _ _ _ ls hRel2 f4 f5 f50 hP hS hl
      · obtain ⟨z9, ⟨hz9, rfl⟩, h50e⟩ := h0e (by omega)
        refine lv_aload_n X.1 X.2.1 dL_law_691 rfl (lv_at hl 6 rfl) ?_
        refine lv_iconst (v := iI (0)) X.1 X.2.1 dL_law_692 rfl ?_
        refine q_lldv (len := 1) (v := (C2 50 0 0)) X hP 50 0 (by decide) rfl rfl v50 rfl (by decide) (by decide) rfl dL_law_693 ?_
        refine lv_iload X.1 X.2.1 dL_law_694 (lv_at hl 0 rfl) ?_
        refine q_i2l X hz9 dL_law_696 ?_
        refine q_lcmp_eq (tgt := 703) X (hP.tok 50 0 0 rfl) (q_3264 hz9) dL_law_697 dL_law_698 (by decide) (fun h_5 => ?_) (fun h_5 => ?_)
        · refine lv_goto (tgt := 1157) X.1 X.2.1 dL_law_703 (by decide) ?_
          have hl : lv_has ls 8 [(4, .int (iI (((7 * q) : Nat) : Int))), (0, .ref b), (1, .ref (ad1 4 0)), (2, .ref (ad1 5 0)), (3, .ref (ad1 50 0))] := lv_sub hl [2, 3, 4, 5, 6] rfl
          refine W.widen (by omega : _ ≤ cells + 3) (by omega : _ ≤ slots + 21) ?_
          exact kx _ _ _ _ _ ls hRel2 f4 f5 f50 hP hS hl
        · refine lv_iconst (v := iI (0)) X.1 X.2.1 dL_law_701 rfl ?_
          exfalso
          omega
    · refine lv_iconst (v := iI (0)) X.1 X.2.1 dL_law_684 rfl ?_
      exfalso
      omega
  · refine lv_iconst (v := iI (1)) X.1 X.2.1 dL_law_638 rfl ?_
    refine lv_goto (tgt := 643) X.1 X.2.1 dL_law_639 (by decide) ?_
    refine lv_aload_n X.1 X.2.1 dL_law_643 rfl (lv_at hl 4 rfl) ?_
    refine va_calli (vx_runSW (As := [.ref (ad 4 0), .int (iI (xs (7 * q + 1)).toInt), .int (iI (1)), .ref (ad 50 0)]) (rest := []) X.fix (c_L_hold l htr g s0 n ad C q hC hR (by omega) h50 (xs (7 * q + 1)).toInt (1) (i32r _) (by decide) (by decide)) (vx_cwSW 4 X.2.2.2.2.1 gL_law_L_hold rfl rfl rfl (by decide +kernel) ⟨Nat.le_of_ble_eq_true rfl, Nat.le_of_ble_eq_true rfl⟩) (q_preS X hP hS _) rfl rfl hl.1 rfl (lv_room (Nat.le_of_ble_eq_true rfl)) dL_law_644 ⟨(by show _ ≤ 601024; omega), (by show _ ≤ 7293034; omega)⟩) hS q_id q_id1 (fun r u t H locs ht hvm hw hB hz1 hk1 hS => ?_)
    obtain ⟨n1, ad1, C1⟩ := u
    have hP : q_P g s0 n1 ad1 C1 H := q_back hB ht
    obtain ⟨⟨f4, f5, f50, fn⟩, fk⟩ := f_L_hold hw
    dsimp only at f4 f5 f50 fn fk
    have hM1 : m_S C1 n1 := mS_u fk fn hRel.2.2.2.2.2.2.2.2.2.2.2.2.2.2.2.2.2.1
    have hR1 : m_R C1 q := mR_u fk (hRel.mR hz (by omega))
    have hl : lv_has ls 8 [(4, .int (iI (((7 * q) : Nat) : Int))), (0, .ref b), (1, .ref (ad1 4 0)), (2, .ref (ad1 5 0)), (3, .ref (ad1 50 0))] := lv_cong hl (lv_cs rfl (lv_cs rfl (lv_cs (congrArg Value.ref f4.symm) (lv_cs (congrArg Value.ref f5.symm) (lv_cs (congrArg Value.ref f50.symm) rfl)))))
    have v5 : 0 < n1 5 := m_v5 hM1
    have v50 : 0 < n1 50 := by rw [fn 50 (by decide)]; exact h50
    refine lv_istore (lv' := [(5, .int r), (4, .int (iI (((7 * q) : Nat) : Int))), (0, .ref b), (1, .ref (ad1 4 0)), (2, .ref (ad1 5 0)), (3, .ref (ad1 50 0))]) X.1 X.2.1 dL_law_647 hl (by decide) rfl (fun ls hl => ?_)
    refine lv_aload_n X.1 X.2.1 dL_law_649 rfl (lv_at hl 4 rfl) ?_
    refine lv_aload_n X.1 X.2.1 dL_law_650 rfl (lv_at hl 2 rfl) ?_
    refine lv_iload X.1 X.2.1 dL_law_651 (lv_at hl 1 rfl) ?_
    refine lv_iconst (v := iI (1)) X.1 X.2.1 dL_law_653 rfl ?_
    refine q_iadd X dL_law_654 ?_
    refine q_sld X hXs hbl hbs hS (7 * q + 1) (by omega) (by omega) hL dL_law_655 ?_
    refine lv_aload_n X.1 X.2.1 dL_law_656 rfl (lv_at hl 2 rfl) ?_
    refine lv_iload X.1 X.2.1 dL_law_657 (lv_at hl 1 rfl) ?_
    refine lv_iconst (v := iI (2)) X.1 X.2.1 dL_law_659 rfl ?_
    refine q_iadd X dL_law_660 ?_
    refine q_sld X hXs hbl hbs hS (7 * q + 2) (by omega) (by omega) hL dL_law_661 ?_
    refine q_if_eq (tgt := 669) X (i32r _) dL_law_662 (by decide) (fun h_6 => absurd h_6 (by omega)) (fun _ => ?_)
    refine lv_iconst (v := iI (1)) X.1 X.2.1 dL_law_665 rfl ?_
    refine lv_goto (tgt := 670) X.1 X.2.1 dL_law_666 (by decide) ?_
    refine va_calli (va_runV (As := [.int (iI (xs (7 * q + 1)).toInt), .int (iI (1))]) (rest := []) X.fix (c_X5_hold l g s0 n1 ad1 C1 q hM1 hR1 (by omega) (xs (7 * q + 1)).toInt (1) (i32r _) (by decide) (by decide)) (cwV 2 X.2.2.2.2.1 gL_law_X5_hold rfl rfl rfl (by decide +kernel) ⟨Nat.le_of_ble_eq_true rfl, Nat.le_of_ble_eq_true rfl⟩) (q_preV X hP hS [.int (iI (xs (7 * q + 1)).toInt), .int (iI (1))] (kd := 5) (by decide) rfl v5) rfl rfl hl.1 rfl (lv_room (Nat.le_of_ble_eq_true rfl)) dL_law_670 ⟨(by show _ ≤ 601024; omega), (by show _ ≤ 7293034; omega)⟩) hS q_id q_id1 (fun rb u t H locs ht hvm hw2 hB hz1 hk1 hS => ?_)
    obtain ⟨n2, ad2, C2⟩ := u
    obtain ⟨ev, he, rfl, h5e, h0e, en, ea, hRel2⟩ := o_hold hRel hz (fun j => hP0.tok 0 5 j rfl) hw hw2
    dsimp only at h5e h0e en ea hRel2
    have en2 := en.symm
    have ea2 := ea.symm
    subst en2 ea2
    have hP := q_back hB ht
    dsimp only at hP
    have hM2 := hRel2.2.2.2.2.2.2.2.2.2.2.2.2.2.2.2.2.2.1
    refine lv_istore (lv' := [(6, .int rb), (5, .int (iI ev)), (4, .int (iI (((7 * q) : Nat) : Int))), (0, .ref b), (1, .ref (ad1 4 0)), (2, .ref (ad1 5 0)), (3, .ref (ad1 50 0))]) X.1 X.2.1 dL_law_673 hl (by decide) rfl (fun ls hl => ?_)
    refine lv_aload_n X.1 X.2.1 dL_law_675 rfl (lv_at hl 5 rfl) ?_
    refine va_calli (va_runV (As := []) (rest := []) X.fix (c_X5_thrown l g s0 n1 ad1 C2 hM2) (cwV 0 X.2.2.2.2.1 gL_law_X5_thrown rfl rfl rfl (by decide +kernel) ⟨Nat.le_of_ble_eq_true rfl, Nat.le_of_ble_eq_true rfl⟩) (q_preV X hP hS [] (kd := 5) (by decide) rfl v5) rfl rfl hl.1 rfl (lv_room (Nat.le_of_ble_eq_true rfl)) dL_law_676 ⟨(by show _ ≤ 601024; omega), (by show _ ≤ 7293034; omega)⟩) hS q_id q_id1 (fun r u t H locs ht hvm hw hB hz1 hk1 hS => ?_)
    obtain ⟨rfl, rfl⟩ := hw
    have hP : q_P g s0 n1 ad1 C2 H := q_back hB ht
    refine lv_iload X.1 X.2.1 dL_law_679 (lv_at hl 1 rfl) ?_
    refine q_icmp_eq (tgt := 686) X (hP.tok 5 0 0 rfl) (by omega) dL_law_681 (by decide) (fun h_7 => ?_) (fun h_7 => ?_)
    · refine lv_iload X.1 X.2.1 dL_law_686 (lv_at hl 1 rfl) ?_
      refine q_if_ne (tgt := 703) X (by omega) dL_law_688 (by decide) (fun h_8 => ?_) (fun h_8 => ?_)
      · refine lv_goto (tgt := 1157) X.1 X.2.1 dL_law_703 (by decide) ?_
        have hl : lv_has ls 8 [(4, .int (iI (((7 * q) : Nat) : Int))), (0, .ref b), (1, .ref (ad1 4 0)), (2, .ref (ad1 5 0)), (3, .ref (ad1 50 0))] := lv_sub hl [2, 3, 4, 5, 6] rfl
        refine W.widen (by omega : _ ≤ cells + 3) (by omega : _ ≤ slots + 21) ?_
        exact kx _ _ _ _ _ ls hRel2 f4 f5 f50 hP hS hl
      · obtain ⟨z9, ⟨hz9, rfl⟩, h50e⟩ := h0e (by omega)
        refine lv_aload_n X.1 X.2.1 dL_law_691 rfl (lv_at hl 6 rfl) ?_
        refine lv_iconst (v := iI (0)) X.1 X.2.1 dL_law_692 rfl ?_
        refine q_lldv (len := 1) (v := (C2 50 0 0)) X hP 50 0 (by decide) rfl rfl v50 rfl (by decide) (by decide) rfl dL_law_693 ?_
        refine lv_iload X.1 X.2.1 dL_law_694 (lv_at hl 0 rfl) ?_
        refine q_i2l X hz9 dL_law_696 ?_
        refine q_lcmp_eq (tgt := 703) X (hP.tok 50 0 0 rfl) (q_3264 hz9) dL_law_697 dL_law_698 (by decide) (fun h_9 => ?_) (fun h_9 => ?_)
        · refine lv_goto (tgt := 1157) X.1 X.2.1 dL_law_703 (by decide) ?_
          have hl : lv_has ls 8 [(4, .int (iI (((7 * q) : Nat) : Int))), (0, .ref b), (1, .ref (ad1 4 0)), (2, .ref (ad1 5 0)), (3, .ref (ad1 50 0))] := lv_sub hl [2, 3, 4, 5, 6] rfl
          refine W.widen (by omega : _ ≤ cells + 3) (by omega : _ ≤ slots + 21) ?_
          exact kx _ _ _ _ _ ls hRel2 f4 f5 f50 hP hS hl
        · refine lv_iconst (v := iI (0)) X.1 X.2.1 dL_law_701 rfl ?_
          exfalso
          omega
    · refine lv_iconst (v := iI (0)) X.1 X.2.1 dL_law_684 rfl ?_
      exfalso
      omega
set_option maxHeartbeats 4000000 in
set_option maxRecDepth 100000 in
theorem w_law_cancel {p : Program} {l : Launch} {e : Env} {s : State} {m : MethodId} {args : Array Value} {below : List Frame} {meth : Method} {c : Code} {Q : State → Prop} {g : q_G} {s0 : Nat} (htr : l.stackTraces = false) {n : Nat → Nat} {ad : Nat → Nat → Nat} {C : q_S} {H : Heap} {locs : List Loc} {ls : Array Slot} {cells slots : Nat} (X : q_X p s m args c cL_law 8 wsL_law RL g s0) {b L : Nat} {xs : Nat → Int32} (hXs : va_X b L xs s s.heap) (hbl : b < s.heap.size) (hbs : b < s0) (hL : L ≤ 3584) (q : Nat) (hq : 7 * q + 7 ≤ L) (hcl : cells ≤ 600000) (hsl : slots ≤ 7200000) (hRel : Rel C n q) (hP : q_P g s0 n ad C H) (hS : va_S (q_A s0) s.heap H locs) (hl : lv_has ls 8 [(4, .int (iI (((7 * q) : Nat) : Int))), (0, .ref b), (1, .ref (ad 4 0)), (2, .ref (ad 5 0)), (3, .ref (ad 50 0))])
    (kx : ∀ (n1 : Nat → Nat) (ad1 : Nat → Nat → Nat) (C1 : q_S) (H : Heap) (locs : List Loc) (ls : Array Slot), Rel C1 n1 (q + 1) → ad1 4 0 = ad 4 0 → ad1 5 0 = ad 5 0 → ad1 50 0 = ad 50 0 → q_P g s0 n1 ad1 C1 H → va_S (q_A s0) s.heap H locs → lv_has ls 8 [(4, .int (iI ((7 * q : Nat) : Int))), (0, .ref b), (1, .ref (ad1 4 0)), (2, .ref (ad1 5 0)), (3, .ref (ad1 50 0))] → W p l e room_1 s m args below meth c H locs (cells + 3) (slots + 21) Q (F0 m 1157 ls [])) :
    W p l e room_1 s m args below meth c H locs cells slots Q (F0 m 706 ls []) := by
  have hz : gz C n := ⟨hP.2.2.2, fun p => hP.tok 2 4 p rfl⟩
  have hC : c_S C n := hRel.2.2.2.2.2.2.2.2.2.2.2.2.2.2.2.2.1
  have hR := hRel.cR hz
  have h50 : 0 < n 50 := by rw [hRel.2.2.2.2.2.2.2.2.2.2.2.2.2.2.2.2.2.2]; decide
  have hP0 := hP
  refine lv_aload_n X.1 X.2.1 dL_law_706 rfl (lv_at hl 2 rfl) ?_
  refine lv_aload_n X.1 X.2.1 dL_law_707 rfl (lv_at hl 1 rfl) ?_
  refine lv_iload X.1 X.2.1 dL_law_708 (lv_at hl 0 rfl) ?_
  refine lv_iconst (v := iI (1)) X.1 X.2.1 dL_law_710 rfl ?_
  refine q_iadd X dL_law_711 ?_
  refine q_sld X hXs hbl hbs hS (7 * q + 1) (by omega) (by omega) hL dL_law_712 ?_
  refine lv_aload_n X.1 X.2.1 dL_law_713 rfl (lv_at hl 4 rfl) ?_
  refine va_calli (vx_runSW (As := [.ref (ad 4 0), .int (iI (xs (7 * q + 1)).toInt), .ref (ad 50 0)]) (rest := []) X.fix (c_L_cancel l htr g s0 n ad C q hC hR (by omega) h50 (xs (7 * q + 1)).toInt (i32r _)) (vx_cwSW 3 X.2.2.2.2.1 gL_law_L_cancel rfl rfl rfl (by decide +kernel) ⟨Nat.le_of_ble_eq_true rfl, Nat.le_of_ble_eq_true rfl⟩) (q_preS X hP hS _) rfl rfl hl.1 rfl (lv_room (Nat.le_of_ble_eq_true rfl)) dL_law_714 ⟨(by show _ ≤ 601024; omega), (by show _ ≤ 7293034; omega)⟩) hS q_id q_id1 (fun r u t H locs ht hvm hw hB hz1 hk1 hS => ?_)
  obtain ⟨n1, ad1, C1⟩ := u
  have hP : q_P g s0 n1 ad1 C1 H := q_back hB ht
  obtain ⟨⟨f4, f5, f50, fn⟩, fk⟩ := f_L_cancel hw
  dsimp only at f4 f5 f50 fn fk
  have hM1 : m_S C1 n1 := mS_u fk fn hRel.2.2.2.2.2.2.2.2.2.2.2.2.2.2.2.2.2.1
  have hR1 : m_R C1 q := mR_u fk (hRel.mR hz (by omega))
  have hl : lv_has ls 8 [(4, .int (iI (((7 * q) : Nat) : Int))), (0, .ref b), (1, .ref (ad1 4 0)), (2, .ref (ad1 5 0)), (3, .ref (ad1 50 0))] := lv_cong hl (lv_cs rfl (lv_cs rfl (lv_cs (congrArg Value.ref f4.symm) (lv_cs (congrArg Value.ref f5.symm) (lv_cs (congrArg Value.ref f50.symm) rfl)))))
  have v5 : 0 < n1 5 := m_v5 hM1
  have v50 : 0 < n1 50 := by rw [fn 50 (by decide)]; exact h50
  refine lv_istore (lv' := [(5, .int r), (4, .int (iI (((7 * q) : Nat) : Int))), (0, .ref b), (1, .ref (ad1 4 0)), (2, .ref (ad1 5 0)), (3, .ref (ad1 50 0))]) X.1 X.2.1 dL_law_717 hl (by decide) rfl (fun ls hl => ?_)
  refine lv_aload_n X.1 X.2.1 dL_law_719 rfl (lv_at hl 4 rfl) ?_
  refine lv_aload_n X.1 X.2.1 dL_law_720 rfl (lv_at hl 2 rfl) ?_
  refine lv_iload X.1 X.2.1 dL_law_721 (lv_at hl 1 rfl) ?_
  refine lv_iconst (v := iI (1)) X.1 X.2.1 dL_law_723 rfl ?_
  refine q_iadd X dL_law_724 ?_
  refine q_sld X hXs hbl hbs hS (7 * q + 1) (by omega) (by omega) hL dL_law_725 ?_
  refine va_calli (va_runV (As := [.int (iI (xs (7 * q + 1)).toInt)]) (rest := []) X.fix (c_X5_cancel l g s0 n1 ad1 C1 q hM1 hR1 (by omega) (xs (7 * q + 1)).toInt (i32r _) (hRel.hE hz (by omega) fn fk)) (cwV 1 X.2.2.2.2.1 gL_law_X5_cancel rfl rfl rfl (by decide +kernel) ⟨Nat.le_of_ble_eq_true rfl, Nat.le_of_ble_eq_true rfl⟩) (q_preV X hP hS [.int (iI (xs (7 * q + 1)).toInt)] (kd := 5) (by decide) rfl v5) rfl rfl hl.1 rfl (lv_room (Nat.le_of_ble_eq_true rfl)) dL_law_726 ⟨(by show _ ≤ 601024; omega), (by show _ ≤ 7293034; omega)⟩) hS q_id q_id1 (fun rb u t H locs ht hvm hw2 hB hz1 hk1 hS => ?_)
  obtain ⟨n2, ad2, C2⟩ := u
  obtain ⟨ev, he, rfl, h5e, h0e, en, ea, hRel2⟩ := o_cancel hRel hz hw hw2
  dsimp only at h5e h0e en ea hRel2
  have en2 := en.symm
  have ea2 := ea.symm
  subst en2 ea2
  have hP := q_back hB ht
  dsimp only at hP
  have hM2 := hRel2.2.2.2.2.2.2.2.2.2.2.2.2.2.2.2.2.2.1
  refine lv_istore (lv' := [(6, .int rb), (5, .int (iI ev)), (4, .int (iI (((7 * q) : Nat) : Int))), (0, .ref b), (1, .ref (ad1 4 0)), (2, .ref (ad1 5 0)), (3, .ref (ad1 50 0))]) X.1 X.2.1 dL_law_729 hl (by decide) rfl (fun ls hl => ?_)
  refine lv_aload_n X.1 X.2.1 dL_law_731 rfl (lv_at hl 5 rfl) ?_
  refine va_calli (va_runV (As := []) (rest := []) X.fix (c_X5_thrown l g s0 n1 ad1 C2 hM2) (cwV 0 X.2.2.2.2.1 gL_law_X5_thrown rfl rfl rfl (by decide +kernel) ⟨Nat.le_of_ble_eq_true rfl, Nat.le_of_ble_eq_true rfl⟩) (q_preV X hP hS [] (kd := 5) (by decide) rfl v5) rfl rfl hl.1 rfl (lv_room (Nat.le_of_ble_eq_true rfl)) dL_law_732 ⟨(by show _ ≤ 601024; omega), (by show _ ≤ 7293034; omega)⟩) hS q_id q_id1 (fun r u t H locs ht hvm hw hB hz1 hk1 hS => ?_)
  obtain ⟨rfl, rfl⟩ := hw
  have hP : q_P g s0 n1 ad1 C2 H := q_back hB ht
  refine lv_iload X.1 X.2.1 dL_law_735 (lv_at hl 1 rfl) ?_
  refine q_icmp_eq (tgt := 742) X (hP.tok 5 0 0 rfl) (by omega) dL_law_737 (by decide) (fun h_1 => ?_) (fun h_1 => ?_)
  · refine lv_iload X.1 X.2.1 dL_law_742 (lv_at hl 1 rfl) ?_
    refine q_if_ne (tgt := 759) X (by omega) dL_law_744 (by decide) (fun h_2 => ?_) (fun h_2 => ?_)
    · refine lv_goto (tgt := 1157) X.1 X.2.1 dL_law_759 (by decide) ?_
      have hl : lv_has ls 8 [(4, .int (iI (((7 * q) : Nat) : Int))), (0, .ref b), (1, .ref (ad1 4 0)), (2, .ref (ad1 5 0)), (3, .ref (ad1 50 0))] := lv_sub hl [2, 3, 4, 5, 6] rfl
      refine W.widen (by omega : _ ≤ cells + 3) (by omega : _ ≤ slots + 21) ?_
      exact kx _ _ _ _ _ ls hRel2 f4 f5 f50 hP hS hl
    · obtain ⟨z9, ⟨hz9, rfl⟩, h50e⟩ := h0e (by omega)
      refine lv_aload_n X.1 X.2.1 dL_law_747 rfl (lv_at hl 6 rfl) ?_
      refine lv_iconst (v := iI (0)) X.1 X.2.1 dL_law_748 rfl ?_
      refine q_lldv (len := 1) (v := (C2 50 0 0)) X hP 50 0 (by decide) rfl rfl v50 rfl (by decide) (by decide) rfl dL_law_749 ?_
      refine lv_iload X.1 X.2.1 dL_law_750 (lv_at hl 0 rfl) ?_
      refine q_i2l X hz9 dL_law_752 ?_
      refine q_lcmp_eq (tgt := 759) X (hP.tok 50 0 0 rfl) (q_3264 hz9) dL_law_753 dL_law_754 (by decide) (fun h_3 => ?_) (fun h_3 => ?_)
      · refine lv_goto (tgt := 1157) X.1 X.2.1 dL_law_759 (by decide) ?_
        have hl : lv_has ls 8 [(4, .int (iI (((7 * q) : Nat) : Int))), (0, .ref b), (1, .ref (ad1 4 0)), (2, .ref (ad1 5 0)), (3, .ref (ad1 50 0))] := lv_sub hl [2, 3, 4, 5, 6] rfl
        refine W.widen (by omega : _ ≤ cells + 3) (by omega : _ ≤ slots + 21) ?_
        exact kx _ _ _ _ _ ls hRel2 f4 f5 f50 hP hS hl
      · refine lv_iconst (v := iI (0)) X.1 X.2.1 dL_law_757 rfl ?_
        exfalso
        omega
  · refine lv_iconst (v := iI (0)) X.1 X.2.1 dL_law_740 rfl ?_
    exfalso
    omega
set_option maxHeartbeats 4000000 in
set_option maxRecDepth 100000 in
theorem w_law_state {p : Program} {l : Launch} {e : Env} {s : State} {m : MethodId} {args : Array Value} {below : List Frame} {meth : Method} {c : Code} {Q : State → Prop} {g : q_G} {s0 : Nat} (htr : l.stackTraces = false) {n : Nat → Nat} {ad : Nat → Nat → Nat} {C : q_S} {H : Heap} {locs : List Loc} {ls : Array Slot} {cells slots : Nat} (X : q_X p s m args c cL_law 8 wsL_law RL g s0) {b L : Nat} {xs : Nat → Int32} (hXs : va_X b L xs s s.heap) (hbl : b < s.heap.size) (hbs : b < s0) (hL : L ≤ 3584) (q : Nat) (hq : 7 * q + 7 ≤ L) (hcl : cells ≤ 600000) (hsl : slots ≤ 7200000) (hRel : Rel C n q) (hP : q_P g s0 n ad C H) (hS : va_S (q_A s0) s.heap H locs) (hl : lv_has ls 8 [(4, .int (iI (((7 * q) : Nat) : Int))), (0, .ref b), (1, .ref (ad 4 0)), (2, .ref (ad 5 0)), (3, .ref (ad 50 0))])
    (kx : ∀ (n1 : Nat → Nat) (ad1 : Nat → Nat → Nat) (C1 : q_S) (H : Heap) (locs : List Loc) (ls : Array Slot), Rel C1 n1 (q + 1) → ad1 4 0 = ad 4 0 → ad1 5 0 = ad 5 0 → ad1 50 0 = ad 50 0 → q_P g s0 n1 ad1 C1 H → va_S (q_A s0) s.heap H locs → lv_has ls 8 [(4, .int (iI ((7 * q : Nat) : Int))), (0, .ref b), (1, .ref (ad1 4 0)), (2, .ref (ad1 5 0)), (3, .ref (ad1 50 0))] → W p l e room_1 s m args below meth c H locs (cells + 3) (slots + 21) Q (F0 m 1157 ls [])) :
    W p l e room_1 s m args below meth c H locs cells slots Q (F0 m 762 ls []) := by
  have hz : gz C n := ⟨hP.2.2.2, fun p => hP.tok 2 4 p rfl⟩
  have hC : c_S C n := hRel.2.2.2.2.2.2.2.2.2.2.2.2.2.2.2.2.1
  have hR := hRel.cR hz
  have h50 : 0 < n 50 := by rw [hRel.2.2.2.2.2.2.2.2.2.2.2.2.2.2.2.2.2.2]; decide
  have hP0 := hP
  refine lv_aload_n X.1 X.2.1 dL_law_762 rfl (lv_at hl 2 rfl) ?_
  refine lv_aload_n X.1 X.2.1 dL_law_763 rfl (lv_at hl 1 rfl) ?_
  refine lv_iload X.1 X.2.1 dL_law_764 (lv_at hl 0 rfl) ?_
  refine lv_iconst (v := iI (1)) X.1 X.2.1 dL_law_766 rfl ?_
  refine q_iadd X dL_law_767 ?_
  refine q_sld X hXs hbl hbs hS (7 * q + 1) (by omega) (by omega) hL dL_law_768 ?_
  refine lv_aload_n X.1 X.2.1 dL_law_769 rfl (lv_at hl 1 rfl) ?_
  refine lv_iload X.1 X.2.1 dL_law_770 (lv_at hl 0 rfl) ?_
  refine lv_iconst (v := iI (2)) X.1 X.2.1 dL_law_772 rfl ?_
  refine q_iadd X dL_law_773 ?_
  refine q_sld X hXs hbl hbs hS (7 * q + 2) (by omega) (by omega) hL dL_law_774 ?_
  refine lv_aload_n X.1 X.2.1 dL_law_775 rfl (lv_at hl 4 rfl) ?_
  refine va_calli (vx_runSW (As := [.ref (ad 4 0), .int (iI (xs (7 * q + 1)).toInt), .int (iI (xs (7 * q + 2)).toInt), .ref (ad 50 0)]) (rest := []) X.fix (c_L_state l htr g s0 n ad C q hC hR (by omega) h50 (xs (7 * q + 1)).toInt (xs (7 * q + 2)).toInt (i32r _) (i32r _)) (vx_cwSW 4 X.2.2.2.2.1 gL_law_L_state rfl rfl rfl (by decide +kernel) ⟨Nat.le_of_ble_eq_true rfl, Nat.le_of_ble_eq_true rfl⟩) (q_preS X hP hS _) rfl rfl hl.1 rfl (lv_room (Nat.le_of_ble_eq_true rfl)) dL_law_776 ⟨(by show _ ≤ 601024; omega), (by show _ ≤ 7293034; omega)⟩) hS q_id q_id1 (fun r u t H locs ht hvm hw hB hz1 hk1 hS => ?_)
  obtain ⟨n1, ad1, C1⟩ := u
  have hP : q_P g s0 n1 ad1 C1 H := q_back hB ht
  obtain ⟨⟨f4, f5, f50, fn⟩, fk⟩ := f_L_state hw
  dsimp only at f4 f5 f50 fn fk
  have hM1 : m_S C1 n1 := mS_u fk fn hRel.2.2.2.2.2.2.2.2.2.2.2.2.2.2.2.2.2.1
  have hR1 : m_R C1 q := mR_u fk (hRel.mR hz (by omega))
  have hl : lv_has ls 8 [(4, .int (iI (((7 * q) : Nat) : Int))), (0, .ref b), (1, .ref (ad1 4 0)), (2, .ref (ad1 5 0)), (3, .ref (ad1 50 0))] := lv_cong hl (lv_cs rfl (lv_cs rfl (lv_cs (congrArg Value.ref f4.symm) (lv_cs (congrArg Value.ref f5.symm) (lv_cs (congrArg Value.ref f50.symm) rfl)))))
  have v5 : 0 < n1 5 := m_v5 hM1
  have v50 : 0 < n1 50 := by rw [fn 50 (by decide)]; exact h50
  refine lv_istore (lv' := [(5, .int r), (4, .int (iI (((7 * q) : Nat) : Int))), (0, .ref b), (1, .ref (ad1 4 0)), (2, .ref (ad1 5 0)), (3, .ref (ad1 50 0))]) X.1 X.2.1 dL_law_779 hl (by decide) rfl (fun ls hl => ?_)
  refine lv_aload_n X.1 X.2.1 dL_law_781 rfl (lv_at hl 4 rfl) ?_
  refine lv_aload_n X.1 X.2.1 dL_law_782 rfl (lv_at hl 2 rfl) ?_
  refine lv_iload X.1 X.2.1 dL_law_783 (lv_at hl 1 rfl) ?_
  refine lv_iconst (v := iI (1)) X.1 X.2.1 dL_law_785 rfl ?_
  refine q_iadd X dL_law_786 ?_
  refine q_sld X hXs hbl hbs hS (7 * q + 1) (by omega) (by omega) hL dL_law_787 ?_
  refine lv_aload_n X.1 X.2.1 dL_law_788 rfl (lv_at hl 2 rfl) ?_
  refine lv_iload X.1 X.2.1 dL_law_789 (lv_at hl 1 rfl) ?_
  refine lv_iconst (v := iI (2)) X.1 X.2.1 dL_law_791 rfl ?_
  refine q_iadd X dL_law_792 ?_
  refine q_sld X hXs hbl hbs hS (7 * q + 2) (by omega) (by omega) hL dL_law_793 ?_
  refine va_calli (va_runV (As := [.int (iI (xs (7 * q + 1)).toInt), .int (iI (xs (7 * q + 2)).toInt)]) (rest := []) X.fix (c_X5_state l g s0 n1 ad1 C1 q hM1 hR1 (by omega) (xs (7 * q + 1)).toInt (xs (7 * q + 2)).toInt (i32r _) (i32r _)) (cwV 2 X.2.2.2.2.1 gL_law_X5_state rfl rfl rfl (by decide +kernel) ⟨Nat.le_of_ble_eq_true rfl, Nat.le_of_ble_eq_true rfl⟩) (q_preV X hP hS [.int (iI (xs (7 * q + 1)).toInt), .int (iI (xs (7 * q + 2)).toInt)] (kd := 5) (by decide) rfl v5) rfl rfl hl.1 rfl (lv_room (Nat.le_of_ble_eq_true rfl)) dL_law_794 ⟨(by show _ ≤ 601024; omega), (by show _ ≤ 7293034; omega)⟩) hS q_id q_id1 (fun rb u t H locs ht hvm hw2 hB hz1 hk1 hS => ?_)
  obtain ⟨n2, ad2, C2⟩ := u
  obtain ⟨ev, he, rfl, h5e, h0e, en, ea, hRel2⟩ := o_state hRel hz (fun j => hP0.tok 0 5 j rfl) hw hw2
  dsimp only at h5e h0e en ea hRel2
  have en2 := en.symm
  have ea2 := ea.symm
  subst en2 ea2
  have hP := q_back hB ht
  dsimp only at hP
  have hM2 := hRel2.2.2.2.2.2.2.2.2.2.2.2.2.2.2.2.2.2.1
  refine lv_istore (lv' := [(6, .int rb), (5, .int (iI ev)), (4, .int (iI (((7 * q) : Nat) : Int))), (0, .ref b), (1, .ref (ad1 4 0)), (2, .ref (ad1 5 0)), (3, .ref (ad1 50 0))]) X.1 X.2.1 dL_law_797 hl (by decide) rfl (fun ls hl => ?_)
  refine lv_aload_n X.1 X.2.1 dL_law_799 rfl (lv_at hl 5 rfl) ?_
  refine va_calli (va_runV (As := []) (rest := []) X.fix (c_X5_thrown l g s0 n1 ad1 C2 hM2) (cwV 0 X.2.2.2.2.1 gL_law_X5_thrown rfl rfl rfl (by decide +kernel) ⟨Nat.le_of_ble_eq_true rfl, Nat.le_of_ble_eq_true rfl⟩) (q_preV X hP hS [] (kd := 5) (by decide) rfl v5) rfl rfl hl.1 rfl (lv_room (Nat.le_of_ble_eq_true rfl)) dL_law_800 ⟨(by show _ ≤ 601024; omega), (by show _ ≤ 7293034; omega)⟩) hS q_id q_id1 (fun r u t H locs ht hvm hw hB hz1 hk1 hS => ?_)
  obtain ⟨rfl, rfl⟩ := hw
  have hP : q_P g s0 n1 ad1 C2 H := q_back hB ht
  refine lv_iload X.1 X.2.1 dL_law_803 (lv_at hl 1 rfl) ?_
  refine q_icmp_eq (tgt := 810) X (hP.tok 5 0 0 rfl) (by omega) dL_law_805 (by decide) (fun h_1 => ?_) (fun h_1 => ?_)
  · refine lv_iload X.1 X.2.1 dL_law_810 (lv_at hl 1 rfl) ?_
    refine q_if_ne (tgt := 827) X (by omega) dL_law_812 (by decide) (fun h_2 => ?_) (fun h_2 => ?_)
    · refine lv_goto (tgt := 1157) X.1 X.2.1 dL_law_827 (by decide) ?_
      have hl : lv_has ls 8 [(4, .int (iI (((7 * q) : Nat) : Int))), (0, .ref b), (1, .ref (ad1 4 0)), (2, .ref (ad1 5 0)), (3, .ref (ad1 50 0))] := lv_sub hl [2, 3, 4, 5, 6] rfl
      refine W.widen (by omega : _ ≤ cells + 3) (by omega : _ ≤ slots + 21) ?_
      exact kx _ _ _ _ _ ls hRel2 f4 f5 f50 hP hS hl
    · obtain ⟨z9, ⟨hz9, rfl⟩, h50e⟩ := h0e (by omega)
      refine lv_aload_n X.1 X.2.1 dL_law_815 rfl (lv_at hl 6 rfl) ?_
      refine lv_iconst (v := iI (0)) X.1 X.2.1 dL_law_816 rfl ?_
      refine q_lldv (len := 1) (v := (C2 50 0 0)) X hP 50 0 (by decide) rfl rfl v50 rfl (by decide) (by decide) rfl dL_law_817 ?_
      refine lv_iload X.1 X.2.1 dL_law_818 (lv_at hl 0 rfl) ?_
      refine q_i2l X hz9 dL_law_820 ?_
      refine q_lcmp_eq (tgt := 827) X (hP.tok 50 0 0 rfl) (q_3264 hz9) dL_law_821 dL_law_822 (by decide) (fun h_3 => ?_) (fun h_3 => ?_)
      · refine lv_goto (tgt := 1157) X.1 X.2.1 dL_law_827 (by decide) ?_
        have hl : lv_has ls 8 [(4, .int (iI (((7 * q) : Nat) : Int))), (0, .ref b), (1, .ref (ad1 4 0)), (2, .ref (ad1 5 0)), (3, .ref (ad1 50 0))] := lv_sub hl [2, 3, 4, 5, 6] rfl
        refine W.widen (by omega : _ ≤ cells + 3) (by omega : _ ≤ slots + 21) ?_
        exact kx _ _ _ _ _ ls hRel2 f4 f5 f50 hP hS hl
      · refine lv_iconst (v := iI (0)) X.1 X.2.1 dL_law_825 rfl ?_
        exfalso
        omega
  · refine lv_iconst (v := iI (0)) X.1 X.2.1 dL_law_808 rfl ?_
    exfalso
    omega
set_option maxHeartbeats 4000000 in
set_option maxRecDepth 100000 in
theorem w_law_doubled {p : Program} {l : Launch} {e : Env} {s : State} {m : MethodId} {args : Array Value} {below : List Frame} {meth : Method} {c : Code} {Q : State → Prop} {g : q_G} {s0 : Nat} (htr : l.stackTraces = false) {n : Nat → Nat} {ad : Nat → Nat → Nat} {C : q_S} {H : Heap} {locs : List Loc} {ls : Array Slot} {cells slots : Nat} (X : q_X p s m args c cL_law 8 wsL_law RL g s0) {b L : Nat} {xs : Nat → Int32} (hXs : va_X b L xs s s.heap) (hbl : b < s.heap.size) (hbs : b < s0) (hL : L ≤ 3584) (q : Nat) (hq : 7 * q + 7 ≤ L) (hcl : cells ≤ 600000) (hsl : slots ≤ 7200000) (hRel : Rel C n q) (hP : q_P g s0 n ad C H) (hS : va_S (q_A s0) s.heap H locs) (hl : lv_has ls 8 [(4, .int (iI (((7 * q) : Nat) : Int))), (0, .ref b), (1, .ref (ad 4 0)), (2, .ref (ad 5 0)), (3, .ref (ad 50 0))])
    (kx : ∀ (n1 : Nat → Nat) (ad1 : Nat → Nat → Nat) (C1 : q_S) (H : Heap) (locs : List Loc) (ls : Array Slot), Rel C1 n1 (q + 1) → ad1 4 0 = ad 4 0 → ad1 5 0 = ad 5 0 → ad1 50 0 = ad 50 0 → q_P g s0 n1 ad1 C1 H → va_S (q_A s0) s.heap H locs → lv_has ls 8 [(4, .int (iI ((7 * q : Nat) : Int))), (0, .ref b), (1, .ref (ad1 4 0)), (2, .ref (ad1 5 0)), (3, .ref (ad1 50 0))] → W p l e room_1 s m args below meth c H locs (cells + 3) (slots + 21) Q (F0 m 1157 ls [])) :
    W p l e room_1 s m args below meth c H locs cells slots Q (F0 m 830 ls []) := by
  have hz : gz C n := ⟨hP.2.2.2, fun p => hP.tok 2 4 p rfl⟩
  have hC : c_S C n := hRel.2.2.2.2.2.2.2.2.2.2.2.2.2.2.2.2.1
  have hR := hRel.cR hz
  have h50 : 0 < n 50 := by rw [hRel.2.2.2.2.2.2.2.2.2.2.2.2.2.2.2.2.2.2]; decide
  have hP0 := hP
  refine lv_aload_n X.1 X.2.1 dL_law_830 rfl (lv_at hl 2 rfl) ?_
  refine lv_aload_n X.1 X.2.1 dL_law_831 rfl (lv_at hl 1 rfl) ?_
  refine lv_iload X.1 X.2.1 dL_law_832 (lv_at hl 0 rfl) ?_
  refine lv_iconst (v := iI (1)) X.1 X.2.1 dL_law_834 rfl ?_
  refine q_iadd X dL_law_835 ?_
  refine q_sld X hXs hbl hbs hS (7 * q + 1) (by omega) (by omega) hL dL_law_836 ?_
  refine lv_aload_n X.1 X.2.1 dL_law_837 rfl (lv_at hl 1 rfl) ?_
  refine lv_iload X.1 X.2.1 dL_law_838 (lv_at hl 0 rfl) ?_
  refine lv_iconst (v := iI (2)) X.1 X.2.1 dL_law_840 rfl ?_
  refine q_iadd X dL_law_841 ?_
  refine q_sld X hXs hbl hbs hS (7 * q + 2) (by omega) (by omega) hL dL_law_842 ?_
  refine lv_aload_n X.1 X.2.1 dL_law_843 rfl (lv_at hl 4 rfl) ?_
  refine va_calli (vx_runSW (As := [.ref (ad 4 0), .int (iI (xs (7 * q + 1)).toInt), .int (iI (xs (7 * q + 2)).toInt), .ref (ad 50 0)]) (rest := []) X.fix (c_L_doubled l htr g s0 n ad C q hC hR (by omega) h50 (xs (7 * q + 1)).toInt (xs (7 * q + 2)).toInt (i32r _) (i32r _)) (vx_cwSW 4 X.2.2.2.2.1 gL_law_L_doubled rfl rfl rfl (by decide +kernel) ⟨Nat.le_of_ble_eq_true rfl, Nat.le_of_ble_eq_true rfl⟩) (q_preS X hP hS _) rfl rfl hl.1 rfl (lv_room (Nat.le_of_ble_eq_true rfl)) dL_law_844 ⟨(by show _ ≤ 601024; omega), (by show _ ≤ 7293034; omega)⟩) hS q_id q_id1 (fun r u t H locs ht hvm hw hB hz1 hk1 hS => ?_)
  obtain ⟨n1, ad1, C1⟩ := u
  have hP : q_P g s0 n1 ad1 C1 H := q_back hB ht
  obtain ⟨⟨f4, f5, f50, fn⟩, fk⟩ := f_L_doubled hw
  dsimp only at f4 f5 f50 fn fk
  have hM1 : m_S C1 n1 := mS_u fk fn hRel.2.2.2.2.2.2.2.2.2.2.2.2.2.2.2.2.2.1
  have hR1 : m_R C1 q := mR_u fk (hRel.mR hz (by omega))
  have hl : lv_has ls 8 [(4, .int (iI (((7 * q) : Nat) : Int))), (0, .ref b), (1, .ref (ad1 4 0)), (2, .ref (ad1 5 0)), (3, .ref (ad1 50 0))] := lv_cong hl (lv_cs rfl (lv_cs rfl (lv_cs (congrArg Value.ref f4.symm) (lv_cs (congrArg Value.ref f5.symm) (lv_cs (congrArg Value.ref f50.symm) rfl)))))
  have v5 : 0 < n1 5 := m_v5 hM1
  have v50 : 0 < n1 50 := by rw [fn 50 (by decide)]; exact h50
  refine lv_istore (lv' := [(5, .int r), (4, .int (iI (((7 * q) : Nat) : Int))), (0, .ref b), (1, .ref (ad1 4 0)), (2, .ref (ad1 5 0)), (3, .ref (ad1 50 0))]) X.1 X.2.1 dL_law_847 hl (by decide) rfl (fun ls hl => ?_)
  refine lv_aload_n X.1 X.2.1 dL_law_849 rfl (lv_at hl 4 rfl) ?_
  refine lv_aload_n X.1 X.2.1 dL_law_850 rfl (lv_at hl 2 rfl) ?_
  refine lv_iload X.1 X.2.1 dL_law_851 (lv_at hl 1 rfl) ?_
  refine lv_iconst (v := iI (1)) X.1 X.2.1 dL_law_853 rfl ?_
  refine q_iadd X dL_law_854 ?_
  refine q_sld X hXs hbl hbs hS (7 * q + 1) (by omega) (by omega) hL dL_law_855 ?_
  refine lv_aload_n X.1 X.2.1 dL_law_856 rfl (lv_at hl 2 rfl) ?_
  refine lv_iload X.1 X.2.1 dL_law_857 (lv_at hl 1 rfl) ?_
  refine lv_iconst (v := iI (2)) X.1 X.2.1 dL_law_859 rfl ?_
  refine q_iadd X dL_law_860 ?_
  refine q_sld X hXs hbl hbs hS (7 * q + 2) (by omega) (by omega) hL dL_law_861 ?_
  refine va_calli (va_runV (As := [.int (iI (xs (7 * q + 1)).toInt), .int (iI (xs (7 * q + 2)).toInt)]) (rest := []) X.fix (c_X5_doubled l g s0 n1 ad1 C1 q hM1 hR1 (by omega) (xs (7 * q + 1)).toInt (xs (7 * q + 2)).toInt (i32r _) (i32r _)) (cwV 2 X.2.2.2.2.1 gL_law_X5_doubled rfl rfl rfl (by decide +kernel) ⟨Nat.le_of_ble_eq_true rfl, Nat.le_of_ble_eq_true rfl⟩) (q_preV X hP hS [.int (iI (xs (7 * q + 1)).toInt), .int (iI (xs (7 * q + 2)).toInt)] (kd := 5) (by decide) rfl v5) rfl rfl hl.1 rfl (lv_room (Nat.le_of_ble_eq_true rfl)) dL_law_862 ⟨(by show _ ≤ 601024; omega), (by show _ ≤ 7293034; omega)⟩) hS q_id q_id1 (fun rb u t H locs ht hvm hw2 hB hz1 hk1 hS => ?_)
  obtain ⟨n2, ad2, C2⟩ := u
  obtain ⟨ev, he, rfl, h5e, h0e, en, ea, hRel2⟩ := o_doubled hRel hz hw hw2
  dsimp only at h5e h0e en ea hRel2
  have en2 := en.symm
  have ea2 := ea.symm
  subst en2 ea2
  have hP := q_back hB ht
  dsimp only at hP
  have hM2 := hRel2.2.2.2.2.2.2.2.2.2.2.2.2.2.2.2.2.2.1
  refine lv_istore (lv' := [(6, .int rb), (5, .int (iI ev)), (4, .int (iI (((7 * q) : Nat) : Int))), (0, .ref b), (1, .ref (ad1 4 0)), (2, .ref (ad1 5 0)), (3, .ref (ad1 50 0))]) X.1 X.2.1 dL_law_865 hl (by decide) rfl (fun ls hl => ?_)
  refine lv_aload_n X.1 X.2.1 dL_law_867 rfl (lv_at hl 5 rfl) ?_
  refine va_calli (va_runV (As := []) (rest := []) X.fix (c_X5_thrown l g s0 n1 ad1 C2 hM2) (cwV 0 X.2.2.2.2.1 gL_law_X5_thrown rfl rfl rfl (by decide +kernel) ⟨Nat.le_of_ble_eq_true rfl, Nat.le_of_ble_eq_true rfl⟩) (q_preV X hP hS [] (kd := 5) (by decide) rfl v5) rfl rfl hl.1 rfl (lv_room (Nat.le_of_ble_eq_true rfl)) dL_law_868 ⟨(by show _ ≤ 601024; omega), (by show _ ≤ 7293034; omega)⟩) hS q_id q_id1 (fun r u t H locs ht hvm hw hB hz1 hk1 hS => ?_)
  obtain ⟨rfl, rfl⟩ := hw
  have hP : q_P g s0 n1 ad1 C2 H := q_back hB ht
  refine lv_iload X.1 X.2.1 dL_law_871 (lv_at hl 1 rfl) ?_
  refine q_icmp_eq (tgt := 878) X (hP.tok 5 0 0 rfl) (by omega) dL_law_873 (by decide) (fun h_1 => ?_) (fun h_1 => ?_)
  · refine lv_iload X.1 X.2.1 dL_law_878 (lv_at hl 1 rfl) ?_
    refine q_if_ne (tgt := 895) X (by omega) dL_law_880 (by decide) (fun h_2 => ?_) (fun h_2 => ?_)
    · refine lv_goto (tgt := 1157) X.1 X.2.1 dL_law_895 (by decide) ?_
      have hl : lv_has ls 8 [(4, .int (iI (((7 * q) : Nat) : Int))), (0, .ref b), (1, .ref (ad1 4 0)), (2, .ref (ad1 5 0)), (3, .ref (ad1 50 0))] := lv_sub hl [2, 3, 4, 5, 6] rfl
      refine W.widen (by omega : _ ≤ cells + 3) (by omega : _ ≤ slots + 21) ?_
      exact kx _ _ _ _ _ ls hRel2 f4 f5 f50 hP hS hl
    · obtain ⟨z9, ⟨hz9, rfl⟩, h50e⟩ := h0e (by omega)
      refine lv_aload_n X.1 X.2.1 dL_law_883 rfl (lv_at hl 6 rfl) ?_
      refine lv_iconst (v := iI (0)) X.1 X.2.1 dL_law_884 rfl ?_
      refine q_lldv (len := 1) (v := (C2 50 0 0)) X hP 50 0 (by decide) rfl rfl v50 rfl (by decide) (by decide) rfl dL_law_885 ?_
      refine lv_iload X.1 X.2.1 dL_law_886 (lv_at hl 0 rfl) ?_
      refine q_i2l X hz9 dL_law_888 ?_
      refine q_lcmp_eq (tgt := 895) X (hP.tok 50 0 0 rfl) (q_3264 hz9) dL_law_889 dL_law_890 (by decide) (fun h_3 => ?_) (fun h_3 => ?_)
      · refine lv_goto (tgt := 1157) X.1 X.2.1 dL_law_895 (by decide) ?_
        have hl : lv_has ls 8 [(4, .int (iI (((7 * q) : Nat) : Int))), (0, .ref b), (1, .ref (ad1 4 0)), (2, .ref (ad1 5 0)), (3, .ref (ad1 50 0))] := lv_sub hl [2, 3, 4, 5, 6] rfl
        refine W.widen (by omega : _ ≤ cells + 3) (by omega : _ ≤ slots + 21) ?_
        exact kx _ _ _ _ _ ls hRel2 f4 f5 f50 hP hS hl
      · refine lv_iconst (v := iI (0)) X.1 X.2.1 dL_law_893 rfl ?_
        exfalso
        omega
  · refine lv_iconst (v := iI (0)) X.1 X.2.1 dL_law_876 rfl ?_
    exfalso
    omega
set_option maxHeartbeats 4000000 in
set_option maxRecDepth 100000 in
theorem w_law_account {p : Program} {l : Launch} {e : Env} {s : State} {m : MethodId} {args : Array Value} {below : List Frame} {meth : Method} {c : Code} {Q : State → Prop} {g : q_G} {s0 : Nat} (htr : l.stackTraces = false) {n : Nat → Nat} {ad : Nat → Nat → Nat} {C : q_S} {H : Heap} {locs : List Loc} {ls : Array Slot} {cells slots : Nat} (X : q_X p s m args c cL_law 8 wsL_law RL g s0) {b L : Nat} {xs : Nat → Int32} (hXs : va_X b L xs s s.heap) (hbl : b < s.heap.size) (hbs : b < s0) (hL : L ≤ 3584) (q : Nat) (hq : 7 * q + 7 ≤ L) (hcl : cells ≤ 600000) (hsl : slots ≤ 7200000) (hRel : Rel C n q) (hP : q_P g s0 n ad C H) (hS : va_S (q_A s0) s.heap H locs) (hl : lv_has ls 8 [(4, .int (iI (((7 * q) : Nat) : Int))), (0, .ref b), (1, .ref (ad 4 0)), (2, .ref (ad 5 0)), (3, .ref (ad 50 0))])
    (kx : ∀ (n1 : Nat → Nat) (ad1 : Nat → Nat → Nat) (C1 : q_S) (H : Heap) (locs : List Loc) (ls : Array Slot), Rel C1 n1 (q + 1) → ad1 4 0 = ad 4 0 → ad1 5 0 = ad 5 0 → ad1 50 0 = ad 50 0 → q_P g s0 n1 ad1 C1 H → va_S (q_A s0) s.heap H locs → lv_has ls 8 [(4, .int (iI ((7 * q : Nat) : Int))), (0, .ref b), (1, .ref (ad1 4 0)), (2, .ref (ad1 5 0)), (3, .ref (ad1 50 0))] → W p l e room_1 s m args below meth c H locs (cells + 3) (slots + 21) Q (F0 m 1157 ls [])) :
    W p l e room_1 s m args below meth c H locs cells slots Q (F0 m 898 ls []) := by
  have hz : gz C n := ⟨hP.2.2.2, fun p => hP.tok 2 4 p rfl⟩
  have hC : c_S C n := hRel.2.2.2.2.2.2.2.2.2.2.2.2.2.2.2.2.1
  have hR := hRel.cR hz
  have h50 : 0 < n 50 := by rw [hRel.2.2.2.2.2.2.2.2.2.2.2.2.2.2.2.2.2.2]; decide
  have hP0 := hP
  refine lv_aload_n X.1 X.2.1 dL_law_898 rfl (lv_at hl 2 rfl) ?_
  refine lv_aload_n X.1 X.2.1 dL_law_899 rfl (lv_at hl 1 rfl) ?_
  refine lv_iload X.1 X.2.1 dL_law_900 (lv_at hl 0 rfl) ?_
  refine lv_iconst (v := iI (1)) X.1 X.2.1 dL_law_902 rfl ?_
  refine q_iadd X dL_law_903 ?_
  refine q_sld X hXs hbl hbs hS (7 * q + 1) (by omega) (by omega) hL dL_law_904 ?_
  refine lv_aload_n X.1 X.2.1 dL_law_905 rfl (lv_at hl 1 rfl) ?_
  refine lv_iload X.1 X.2.1 dL_law_906 (lv_at hl 0 rfl) ?_
  refine lv_iconst (v := iI (2)) X.1 X.2.1 dL_law_908 rfl ?_
  refine q_iadd X dL_law_909 ?_
  refine q_sld X hXs hbl hbs hS (7 * q + 2) (by omega) (by omega) hL dL_law_910 ?_
  refine lv_aload_n X.1 X.2.1 dL_law_911 rfl (lv_at hl 4 rfl) ?_
  refine va_calli (vx_runSW (As := [.ref (ad 4 0), .int (iI (xs (7 * q + 1)).toInt), .int (iI (xs (7 * q + 2)).toInt), .ref (ad 50 0)]) (rest := []) X.fix (c_L_account l htr g s0 n ad C q hC hR (by omega) h50 (xs (7 * q + 1)).toInt (xs (7 * q + 2)).toInt (i32r _) (i32r _)) (vx_cwSW 4 X.2.2.2.2.1 gL_law_L_account rfl rfl rfl (by decide +kernel) ⟨Nat.le_of_ble_eq_true rfl, Nat.le_of_ble_eq_true rfl⟩) (q_preS X hP hS _) rfl rfl hl.1 rfl (lv_room (Nat.le_of_ble_eq_true rfl)) dL_law_912 ⟨(by show _ ≤ 601024; omega), (by show _ ≤ 7293034; omega)⟩) hS q_id q_id1 (fun r u t H locs ht hvm hw hB hz1 hk1 hS => ?_)
  obtain ⟨n1, ad1, C1⟩ := u
  have hP : q_P g s0 n1 ad1 C1 H := q_back hB ht
  obtain ⟨⟨f4, f5, f50, fn⟩, fk⟩ := f_L_account hw
  dsimp only at f4 f5 f50 fn fk
  have hM1 : m_S C1 n1 := mS_u fk fn hRel.2.2.2.2.2.2.2.2.2.2.2.2.2.2.2.2.2.1
  have hR1 : m_R C1 q := mR_u fk (hRel.mR hz (by omega))
  have hl : lv_has ls 8 [(4, .int (iI (((7 * q) : Nat) : Int))), (0, .ref b), (1, .ref (ad1 4 0)), (2, .ref (ad1 5 0)), (3, .ref (ad1 50 0))] := lv_cong hl (lv_cs rfl (lv_cs rfl (lv_cs (congrArg Value.ref f4.symm) (lv_cs (congrArg Value.ref f5.symm) (lv_cs (congrArg Value.ref f50.symm) rfl)))))
  have v5 : 0 < n1 5 := m_v5 hM1
  have v50 : 0 < n1 50 := by rw [fn 50 (by decide)]; exact h50
  refine lv_istore (lv' := [(5, .int r), (4, .int (iI (((7 * q) : Nat) : Int))), (0, .ref b), (1, .ref (ad1 4 0)), (2, .ref (ad1 5 0)), (3, .ref (ad1 50 0))]) X.1 X.2.1 dL_law_915 hl (by decide) rfl (fun ls hl => ?_)
  refine lv_aload_n X.1 X.2.1 dL_law_917 rfl (lv_at hl 4 rfl) ?_
  refine lv_aload_n X.1 X.2.1 dL_law_918 rfl (lv_at hl 2 rfl) ?_
  refine lv_iload X.1 X.2.1 dL_law_919 (lv_at hl 1 rfl) ?_
  refine lv_iconst (v := iI (1)) X.1 X.2.1 dL_law_921 rfl ?_
  refine q_iadd X dL_law_922 ?_
  refine q_sld X hXs hbl hbs hS (7 * q + 1) (by omega) (by omega) hL dL_law_923 ?_
  refine lv_aload_n X.1 X.2.1 dL_law_924 rfl (lv_at hl 2 rfl) ?_
  refine lv_iload X.1 X.2.1 dL_law_925 (lv_at hl 1 rfl) ?_
  refine lv_iconst (v := iI (2)) X.1 X.2.1 dL_law_927 rfl ?_
  refine q_iadd X dL_law_928 ?_
  refine q_sld X hXs hbl hbs hS (7 * q + 2) (by omega) (by omega) hL dL_law_929 ?_
  refine va_calll (va_runV (As := [.int (iI (xs (7 * q + 1)).toInt), .int (iI (xs (7 * q + 2)).toInt)]) (rest := []) X.fix (c_X5_account l g s0 n1 ad1 C1 q hM1 hR1 (by omega) (xs (7 * q + 1)).toInt (xs (7 * q + 2)).toInt (i32r _) (i32r _)) (cwV 2 X.2.2.2.2.1 gL_law_X5_account rfl rfl rfl (by decide +kernel) ⟨Nat.le_of_ble_eq_true rfl, Nat.le_of_ble_eq_true rfl⟩) (q_preV X hP hS [.int (iI (xs (7 * q + 1)).toInt), .int (iI (xs (7 * q + 2)).toInt)] (kd := 5) (by decide) rfl v5) rfl rfl hl.1 rfl (lv_room (Nat.le_of_ble_eq_true rfl)) dL_law_930 ⟨(by show _ ≤ 601024; omega), (by show _ ≤ 7293034; omega)⟩) hS q_id q_id1 (fun rb u t H locs ht hvm hw2 hB hz1 hk1 hS => ?_)
  obtain ⟨n2, ad2, C2⟩ := u
  obtain ⟨ev, he, rfl, h5e, h0e, en, ea, hRel2⟩ := o_account hRel hz hw hw2
  dsimp only at h5e h0e en ea hRel2
  have en2 := en.symm
  have ea2 := ea.symm
  subst en2 ea2
  have hP := q_back hB ht
  dsimp only at hP
  have hM2 := hRel2.2.2.2.2.2.2.2.2.2.2.2.2.2.2.2.2.2.1
  refine lv_lstore (lv' := [(6, .long rb), (5, .int (iI ev)), (4, .int (iI (((7 * q) : Nat) : Int))), (0, .ref b), (1, .ref (ad1 4 0)), (2, .ref (ad1 5 0)), (3, .ref (ad1 50 0))]) X.1 X.2.1 dL_law_933 hl (by decide) rfl (fun ls hl => ?_)
  refine lv_aload_n X.1 X.2.1 dL_law_935 rfl (lv_at hl 5 rfl) ?_
  refine va_calli (va_runV (As := []) (rest := []) X.fix (c_X5_thrown l g s0 n1 ad1 C2 hM2) (cwV 0 X.2.2.2.2.1 gL_law_X5_thrown rfl rfl rfl (by decide +kernel) ⟨Nat.le_of_ble_eq_true rfl, Nat.le_of_ble_eq_true rfl⟩) (q_preV X hP hS [] (kd := 5) (by decide) rfl v5) rfl rfl hl.1 rfl (lv_room (Nat.le_of_ble_eq_true rfl)) dL_law_936 ⟨(by show _ ≤ 601024; omega), (by show _ ≤ 7293034; omega)⟩) hS q_id q_id1 (fun r u t H locs ht hvm hw hB hz1 hk1 hS => ?_)
  obtain ⟨rfl, rfl⟩ := hw
  have hP : q_P g s0 n1 ad1 C2 H := q_back hB ht
  refine lv_iload X.1 X.2.1 dL_law_939 (lv_at hl 1 rfl) ?_
  refine q_icmp_eq (tgt := 946) X (hP.tok 5 0 0 rfl) (by omega) dL_law_941 (by decide) (fun h_1 => ?_) (fun h_1 => ?_)
  · refine lv_iload X.1 X.2.1 dL_law_946 (lv_at hl 1 rfl) ?_
    refine q_if_ne (tgt := 962) X (by omega) dL_law_948 (by decide) (fun h_2 => ?_) (fun h_2 => ?_)
    · refine lv_goto (tgt := 1157) X.1 X.2.1 dL_law_962 (by decide) ?_
      have hl : lv_has ls 8 [(4, .int (iI (((7 * q) : Nat) : Int))), (0, .ref b), (1, .ref (ad1 4 0)), (2, .ref (ad1 5 0)), (3, .ref (ad1 50 0))] := lv_sub hl [2, 3, 4, 5, 6] rfl
      refine W.widen (by omega : _ ≤ cells + 3) (by omega : _ ≤ slots + 21) ?_
      exact kx _ _ _ _ _ ls hRel2 f4 f5 f50 hP hS hl
    · obtain ⟨z9, ⟨hz9, rfl⟩, h50e⟩ := h0e (by omega)
      refine lv_aload_n X.1 X.2.1 dL_law_951 rfl (lv_at hl 6 rfl) ?_
      refine lv_iconst (v := iI (0)) X.1 X.2.1 dL_law_952 rfl ?_
      refine q_lldv (len := 1) (v := (C2 50 0 0)) X hP 50 0 (by decide) rfl rfl v50 rfl (by decide) (by decide) rfl dL_law_953 ?_
      refine lv_lload X.1 X.2.1 dL_law_954 (lv_at hl 0 rfl) ?_
      refine q_lcmp_eq (tgt := 962) X (hP.tok 50 0 0 rfl) hz9 dL_law_956 dL_law_957 (by decide) (fun h_3 => ?_) (fun h_3 => ?_)
      · refine lv_goto (tgt := 1157) X.1 X.2.1 dL_law_962 (by decide) ?_
        have hl : lv_has ls 8 [(4, .int (iI (((7 * q) : Nat) : Int))), (0, .ref b), (1, .ref (ad1 4 0)), (2, .ref (ad1 5 0)), (3, .ref (ad1 50 0))] := lv_sub hl [2, 3, 4, 5, 6] rfl
        refine W.widen (by omega : _ ≤ cells + 3) (by omega : _ ≤ slots + 21) ?_
        exact kx _ _ _ _ _ ls hRel2 f4 f5 f50 hP hS hl
      · refine lv_iconst (v := iI (0)) X.1 X.2.1 dL_law_960 rfl ?_
        exfalso
        omega
  · refine lv_iconst (v := iI (0)) X.1 X.2.1 dL_law_944 rfl ?_
    exfalso
    omega
set_option maxHeartbeats 4000000 in
set_option maxRecDepth 100000 in
theorem w_law_reason {p : Program} {l : Launch} {e : Env} {s : State} {m : MethodId} {args : Array Value} {below : List Frame} {meth : Method} {c : Code} {Q : State → Prop} {g : q_G} {s0 : Nat} (htr : l.stackTraces = false) {n : Nat → Nat} {ad : Nat → Nat → Nat} {C : q_S} {H : Heap} {locs : List Loc} {ls : Array Slot} {cells slots : Nat} (X : q_X p s m args c cL_law 8 wsL_law RL g s0) {b L : Nat} {xs : Nat → Int32} (hXs : va_X b L xs s s.heap) (hbl : b < s.heap.size) (hbs : b < s0) (hL : L ≤ 3584) (q : Nat) (hq : 7 * q + 7 ≤ L) (hcl : cells ≤ 600000) (hsl : slots ≤ 7200000) (hRel : Rel C n q) (hP : q_P g s0 n ad C H) (hS : va_S (q_A s0) s.heap H locs) (hl : lv_has ls 8 [(4, .int (iI (((7 * q) : Nat) : Int))), (0, .ref b), (1, .ref (ad 4 0)), (2, .ref (ad 5 0)), (3, .ref (ad 50 0))])
    (kx : ∀ (n1 : Nat → Nat) (ad1 : Nat → Nat → Nat) (C1 : q_S) (H : Heap) (locs : List Loc) (ls : Array Slot), Rel C1 n1 (q + 1) → ad1 4 0 = ad 4 0 → ad1 5 0 = ad 5 0 → ad1 50 0 = ad 50 0 → q_P g s0 n1 ad1 C1 H → va_S (q_A s0) s.heap H locs → lv_has ls 8 [(4, .int (iI ((7 * q : Nat) : Int))), (0, .ref b), (1, .ref (ad1 4 0)), (2, .ref (ad1 5 0)), (3, .ref (ad1 50 0))] → W p l e room_1 s m args below meth c H locs (cells + 3) (slots + 21) Q (F0 m 1157 ls [])) :
    W p l e room_1 s m args below meth c H locs cells slots Q (F0 m 965 ls []) := by
  have hz : gz C n := ⟨hP.2.2.2, fun p => hP.tok 2 4 p rfl⟩
  have hC : c_S C n := hRel.2.2.2.2.2.2.2.2.2.2.2.2.2.2.2.2.1
  have hR := hRel.cR hz
  have h50 : 0 < n 50 := by rw [hRel.2.2.2.2.2.2.2.2.2.2.2.2.2.2.2.2.2.2]; decide
  have hP0 := hP
  refine lv_aload_n X.1 X.2.1 dL_law_965 rfl (lv_at hl 2 rfl) ?_
  refine lv_aload_n X.1 X.2.1 dL_law_966 rfl (lv_at hl 1 rfl) ?_
  refine lv_iload X.1 X.2.1 dL_law_967 (lv_at hl 0 rfl) ?_
  refine lv_iconst (v := iI (1)) X.1 X.2.1 dL_law_969 rfl ?_
  refine q_iadd X dL_law_970 ?_
  refine q_sld X hXs hbl hbs hS (7 * q + 1) (by omega) (by omega) hL dL_law_971 ?_
  refine lv_aload_n X.1 X.2.1 dL_law_972 rfl (lv_at hl 4 rfl) ?_
  refine va_calli (vx_runSW (As := [.ref (ad 4 0), .int (iI (xs (7 * q + 1)).toInt), .ref (ad 50 0)]) (rest := []) X.fix (c_L_reason l htr g s0 n ad C q hC hR (by omega) h50 (xs (7 * q + 1)).toInt (i32r _)) (vx_cwSW 3 X.2.2.2.2.1 gL_law_L_reason rfl rfl rfl (by decide +kernel) ⟨Nat.le_of_ble_eq_true rfl, Nat.le_of_ble_eq_true rfl⟩) (q_preS X hP hS _) rfl rfl hl.1 rfl (lv_room (Nat.le_of_ble_eq_true rfl)) dL_law_973 ⟨(by show _ ≤ 601024; omega), (by show _ ≤ 7293034; omega)⟩) hS q_id q_id1 (fun r u t H locs ht hvm hw hB hz1 hk1 hS => ?_)
  obtain ⟨n1, ad1, C1⟩ := u
  have hP : q_P g s0 n1 ad1 C1 H := q_back hB ht
  obtain ⟨⟨f4, f5, f50, fn⟩, fk⟩ := f_L_reason hw
  dsimp only at f4 f5 f50 fn fk
  have hM1 : m_S C1 n1 := mS_u fk fn hRel.2.2.2.2.2.2.2.2.2.2.2.2.2.2.2.2.2.1
  have hR1 : m_R C1 q := mR_u fk (hRel.mR hz (by omega))
  have hl : lv_has ls 8 [(4, .int (iI (((7 * q) : Nat) : Int))), (0, .ref b), (1, .ref (ad1 4 0)), (2, .ref (ad1 5 0)), (3, .ref (ad1 50 0))] := lv_cong hl (lv_cs rfl (lv_cs rfl (lv_cs (congrArg Value.ref f4.symm) (lv_cs (congrArg Value.ref f5.symm) (lv_cs (congrArg Value.ref f50.symm) rfl)))))
  have v5 : 0 < n1 5 := m_v5 hM1
  have v50 : 0 < n1 50 := by rw [fn 50 (by decide)]; exact h50
  refine lv_istore (lv' := [(5, .int r), (4, .int (iI (((7 * q) : Nat) : Int))), (0, .ref b), (1, .ref (ad1 4 0)), (2, .ref (ad1 5 0)), (3, .ref (ad1 50 0))]) X.1 X.2.1 dL_law_976 hl (by decide) rfl (fun ls hl => ?_)
  refine lv_aload_n X.1 X.2.1 dL_law_978 rfl (lv_at hl 4 rfl) ?_
  refine lv_aload_n X.1 X.2.1 dL_law_979 rfl (lv_at hl 2 rfl) ?_
  refine lv_iload X.1 X.2.1 dL_law_980 (lv_at hl 1 rfl) ?_
  refine lv_iconst (v := iI (1)) X.1 X.2.1 dL_law_982 rfl ?_
  refine q_iadd X dL_law_983 ?_
  refine q_sld X hXs hbl hbs hS (7 * q + 1) (by omega) (by omega) hL dL_law_984 ?_
  refine va_calli (va_runV (As := [.int (iI (xs (7 * q + 1)).toInt)]) (rest := []) X.fix (c_X5_reason l g s0 n1 ad1 C1 q hM1 hR1 (by omega) (xs (7 * q + 1)).toInt (i32r _)) (cwV 1 X.2.2.2.2.1 gL_law_X5_reason rfl rfl rfl (by decide +kernel) ⟨Nat.le_of_ble_eq_true rfl, Nat.le_of_ble_eq_true rfl⟩) (q_preV X hP hS [.int (iI (xs (7 * q + 1)).toInt)] (kd := 5) (by decide) rfl v5) rfl rfl hl.1 rfl (lv_room (Nat.le_of_ble_eq_true rfl)) dL_law_985 ⟨(by show _ ≤ 601024; omega), (by show _ ≤ 7293034; omega)⟩) hS q_id q_id1 (fun rb u t H locs ht hvm hw2 hB hz1 hk1 hS => ?_)
  obtain ⟨n2, ad2, C2⟩ := u
  obtain ⟨ev, he, rfl, h5e, h0e, en, ea, hRel2⟩ := o_reason hRel hz hw hw2
  dsimp only at h5e h0e en ea hRel2
  have en2 := en.symm
  have ea2 := ea.symm
  subst en2 ea2
  have hP := q_back hB ht
  dsimp only at hP
  have hM2 := hRel2.2.2.2.2.2.2.2.2.2.2.2.2.2.2.2.2.2.1
  refine lv_istore (lv' := [(6, .int rb), (5, .int (iI ev)), (4, .int (iI (((7 * q) : Nat) : Int))), (0, .ref b), (1, .ref (ad1 4 0)), (2, .ref (ad1 5 0)), (3, .ref (ad1 50 0))]) X.1 X.2.1 dL_law_988 hl (by decide) rfl (fun ls hl => ?_)
  refine lv_aload_n X.1 X.2.1 dL_law_990 rfl (lv_at hl 5 rfl) ?_
  refine va_calli (va_runV (As := []) (rest := []) X.fix (c_X5_thrown l g s0 n1 ad1 C2 hM2) (cwV 0 X.2.2.2.2.1 gL_law_X5_thrown rfl rfl rfl (by decide +kernel) ⟨Nat.le_of_ble_eq_true rfl, Nat.le_of_ble_eq_true rfl⟩) (q_preV X hP hS [] (kd := 5) (by decide) rfl v5) rfl rfl hl.1 rfl (lv_room (Nat.le_of_ble_eq_true rfl)) dL_law_991 ⟨(by show _ ≤ 601024; omega), (by show _ ≤ 7293034; omega)⟩) hS q_id q_id1 (fun r u t H locs ht hvm hw hB hz1 hk1 hS => ?_)
  obtain ⟨rfl, rfl⟩ := hw
  have hP : q_P g s0 n1 ad1 C2 H := q_back hB ht
  refine lv_iload X.1 X.2.1 dL_law_994 (lv_at hl 1 rfl) ?_
  refine q_icmp_eq (tgt := 1001) X (hP.tok 5 0 0 rfl) (by omega) dL_law_996 (by decide) (fun h_1 => ?_) (fun h_1 => ?_)
  · refine lv_iload X.1 X.2.1 dL_law_1001 (lv_at hl 1 rfl) ?_
    refine q_if_ne (tgt := 1018) X (by omega) dL_law_1003 (by decide) (fun h_2 => ?_) (fun h_2 => ?_)
    · refine lv_goto (tgt := 1157) X.1 X.2.1 dL_law_1018 (by decide) ?_
      have hl : lv_has ls 8 [(4, .int (iI (((7 * q) : Nat) : Int))), (0, .ref b), (1, .ref (ad1 4 0)), (2, .ref (ad1 5 0)), (3, .ref (ad1 50 0))] := lv_sub hl [2, 3, 4, 5, 6] rfl
      refine W.widen (by omega : _ ≤ cells + 3) (by omega : _ ≤ slots + 21) ?_
      exact kx _ _ _ _ _ ls hRel2 f4 f5 f50 hP hS hl
    · obtain ⟨z9, ⟨hz9, rfl⟩, h50e⟩ := h0e (by omega)
      refine lv_aload_n X.1 X.2.1 dL_law_1006 rfl (lv_at hl 6 rfl) ?_
      refine lv_iconst (v := iI (0)) X.1 X.2.1 dL_law_1007 rfl ?_
      refine q_lldv (len := 1) (v := (C2 50 0 0)) X hP 50 0 (by decide) rfl rfl v50 rfl (by decide) (by decide) rfl dL_law_1008 ?_
      refine lv_iload X.1 X.2.1 dL_law_1009 (lv_at hl 0 rfl) ?_
      refine q_i2l X hz9 dL_law_1011 ?_
      refine q_lcmp_eq (tgt := 1018) X (hP.tok 50 0 0 rfl) (q_3264 hz9) dL_law_1012 dL_law_1013 (by decide) (fun h_3 => ?_) (fun h_3 => ?_)
      · refine lv_goto (tgt := 1157) X.1 X.2.1 dL_law_1018 (by decide) ?_
        have hl : lv_has ls 8 [(4, .int (iI (((7 * q) : Nat) : Int))), (0, .ref b), (1, .ref (ad1 4 0)), (2, .ref (ad1 5 0)), (3, .ref (ad1 50 0))] := lv_sub hl [2, 3, 4, 5, 6] rfl
        refine W.widen (by omega : _ ≤ cells + 3) (by omega : _ ≤ slots + 21) ?_
        exact kx _ _ _ _ _ ls hRel2 f4 f5 f50 hP hS hl
      · refine lv_iconst (v := iI (0)) X.1 X.2.1 dL_law_1016 rfl ?_
        exfalso
        omega
  · refine lv_iconst (v := iI (0)) X.1 X.2.1 dL_law_999 rfl ?_
    exfalso
    omega
set_option maxHeartbeats 4000000 in
set_option maxRecDepth 100000 in
theorem w_law_split {p : Program} {l : Launch} {e : Env} {s : State} {m : MethodId} {args : Array Value} {below : List Frame} {meth : Method} {c : Code} {Q : State → Prop} {g : q_G} {s0 : Nat} (htr : l.stackTraces = false) {n : Nat → Nat} {ad : Nat → Nat → Nat} {C : q_S} {H : Heap} {locs : List Loc} {ls : Array Slot} {cells slots : Nat} (X : q_X p s m args c cL_law 8 wsL_law RL g s0) {b L : Nat} {xs : Nat → Int32} (hXs : va_X b L xs s s.heap) (hbl : b < s.heap.size) (hbs : b < s0) (hL : L ≤ 3584) (q : Nat) (hq : 7 * q + 7 ≤ L) (hcl : cells ≤ 600000) (hsl : slots ≤ 7200000) (hRel : Rel C n q) (hP : q_P g s0 n ad C H) (hS : va_S (q_A s0) s.heap H locs) (hl : lv_has ls 8 [(4, .int (iI (((7 * q) : Nat) : Int))), (0, .ref b), (1, .ref (ad 4 0)), (2, .ref (ad 5 0)), (3, .ref (ad 50 0))])
    (kx : ∀ (n1 : Nat → Nat) (ad1 : Nat → Nat → Nat) (C1 : q_S) (H : Heap) (locs : List Loc) (ls : Array Slot), Rel C1 n1 (q + 1) → ad1 4 0 = ad 4 0 → ad1 5 0 = ad 5 0 → ad1 50 0 = ad 50 0 → q_P g s0 n1 ad1 C1 H → va_S (q_A s0) s.heap H locs → lv_has ls 8 [(4, .int (iI ((7 * q : Nat) : Int))), (0, .ref b), (1, .ref (ad1 4 0)), (2, .ref (ad1 5 0)), (3, .ref (ad1 50 0))] → W p l e room_1 s m args below meth c H locs (cells + 3) (slots + 21) Q (F0 m 1157 ls [])) :
    W p l e room_1 s m args below meth c H locs cells slots Q (F0 m 1021 ls []) := by
  have hz : gz C n := ⟨hP.2.2.2, fun p => hP.tok 2 4 p rfl⟩
  have hC : c_S C n := hRel.2.2.2.2.2.2.2.2.2.2.2.2.2.2.2.2.1
  have hR := hRel.cR hz
  have h50 : 0 < n 50 := by rw [hRel.2.2.2.2.2.2.2.2.2.2.2.2.2.2.2.2.2.2]; decide
  have hP0 := hP
  refine lv_aload_n X.1 X.2.1 dL_law_1021 rfl (lv_at hl 2 rfl) ?_
  refine lv_aload_n X.1 X.2.1 dL_law_1022 rfl (lv_at hl 1 rfl) ?_
  refine lv_iload X.1 X.2.1 dL_law_1023 (lv_at hl 0 rfl) ?_
  refine lv_iconst (v := iI (1)) X.1 X.2.1 dL_law_1025 rfl ?_
  refine q_iadd X dL_law_1026 ?_
  refine q_sld X hXs hbl hbs hS (7 * q + 1) (by omega) (by omega) hL dL_law_1027 ?_
  refine lv_aload_n X.1 X.2.1 dL_law_1028 rfl (lv_at hl 1 rfl) ?_
  refine lv_iload X.1 X.2.1 dL_law_1029 (lv_at hl 0 rfl) ?_
  refine lv_iconst (v := iI (2)) X.1 X.2.1 dL_law_1031 rfl ?_
  refine q_iadd X dL_law_1032 ?_
  refine q_sld X hXs hbl hbs hS (7 * q + 2) (by omega) (by omega) hL dL_law_1033 ?_
  refine lv_aload_n X.1 X.2.1 dL_law_1034 rfl (lv_at hl 1 rfl) ?_
  refine lv_iload X.1 X.2.1 dL_law_1035 (lv_at hl 0 rfl) ?_
  refine lv_iconst (v := iI (3)) X.1 X.2.1 dL_law_1037 rfl ?_
  refine q_iadd X dL_law_1038 ?_
  refine q_sld X hXs hbl hbs hS (7 * q + 3) (by omega) (by omega) hL dL_law_1039 ?_
  refine lv_aload_n X.1 X.2.1 dL_law_1040 rfl (lv_at hl 4 rfl) ?_
  refine va_calli (vx_runSW (As := [.ref (ad 4 0), .int (iI (xs (7 * q + 1)).toInt), .int (iI (xs (7 * q + 2)).toInt), .int (iI (xs (7 * q + 3)).toInt), .ref (ad 50 0)]) (rest := []) X.fix (c_L_split l htr g s0 n ad C q hC hR (by omega) h50 (xs (7 * q + 1)).toInt (xs (7 * q + 2)).toInt (xs (7 * q + 3)).toInt (i32r _) (i32r _) (i32r _)) (vx_cwSW 5 X.2.2.2.2.1 gL_law_L_split rfl rfl rfl (by decide +kernel) ⟨Nat.le_of_ble_eq_true rfl, Nat.le_of_ble_eq_true rfl⟩) (q_preS X hP hS _) rfl rfl hl.1 rfl (lv_room (Nat.le_of_ble_eq_true rfl)) dL_law_1041 ⟨(by show _ ≤ 601024; omega), (by show _ ≤ 7293034; omega)⟩) hS q_id q_id1 (fun r u t H locs ht hvm hw hB hz1 hk1 hS => ?_)
  obtain ⟨n1, ad1, C1⟩ := u
  have hP : q_P g s0 n1 ad1 C1 H := q_back hB ht
  obtain ⟨⟨f4, f5, f50, fn⟩, fk⟩ := f_L_split hw
  dsimp only at f4 f5 f50 fn fk
  have hM1 : m_S C1 n1 := mS_u fk fn hRel.2.2.2.2.2.2.2.2.2.2.2.2.2.2.2.2.2.1
  have hR1 : m_R C1 q := mR_u fk (hRel.mR hz (by omega))
  have hl : lv_has ls 8 [(4, .int (iI (((7 * q) : Nat) : Int))), (0, .ref b), (1, .ref (ad1 4 0)), (2, .ref (ad1 5 0)), (3, .ref (ad1 50 0))] := lv_cong hl (lv_cs rfl (lv_cs rfl (lv_cs (congrArg Value.ref f4.symm) (lv_cs (congrArg Value.ref f5.symm) (lv_cs (congrArg Value.ref f50.symm) rfl)))))
  have v5 : 0 < n1 5 := m_v5 hM1
  have v50 : 0 < n1 50 := by rw [fn 50 (by decide)]; exact h50
  refine lv_istore (lv' := [(5, .int r), (4, .int (iI (((7 * q) : Nat) : Int))), (0, .ref b), (1, .ref (ad1 4 0)), (2, .ref (ad1 5 0)), (3, .ref (ad1 50 0))]) X.1 X.2.1 dL_law_1044 hl (by decide) rfl (fun ls hl => ?_)
  refine lv_aload_n X.1 X.2.1 dL_law_1046 rfl (lv_at hl 4 rfl) ?_
  refine lv_aload_n X.1 X.2.1 dL_law_1047 rfl (lv_at hl 2 rfl) ?_
  refine lv_iload X.1 X.2.1 dL_law_1048 (lv_at hl 1 rfl) ?_
  refine lv_iconst (v := iI (1)) X.1 X.2.1 dL_law_1050 rfl ?_
  refine q_iadd X dL_law_1051 ?_
  refine q_sld X hXs hbl hbs hS (7 * q + 1) (by omega) (by omega) hL dL_law_1052 ?_
  refine lv_aload_n X.1 X.2.1 dL_law_1053 rfl (lv_at hl 2 rfl) ?_
  refine lv_iload X.1 X.2.1 dL_law_1054 (lv_at hl 1 rfl) ?_
  refine lv_iconst (v := iI (2)) X.1 X.2.1 dL_law_1056 rfl ?_
  refine q_iadd X dL_law_1057 ?_
  refine q_sld X hXs hbl hbs hS (7 * q + 2) (by omega) (by omega) hL dL_law_1058 ?_
  refine lv_aload_n X.1 X.2.1 dL_law_1059 rfl (lv_at hl 2 rfl) ?_
  refine lv_iload X.1 X.2.1 dL_law_1060 (lv_at hl 1 rfl) ?_
  refine lv_iconst (v := iI (3)) X.1 X.2.1 dL_law_1062 rfl ?_
  refine q_iadd X dL_law_1063 ?_
  refine q_sld X hXs hbl hbs hS (7 * q + 3) (by omega) (by omega) hL dL_law_1064 ?_
  refine va_calli (va_runV (As := [.int (iI (xs (7 * q + 1)).toInt), .int (iI (xs (7 * q + 2)).toInt), .int (iI (xs (7 * q + 3)).toInt)]) (rest := []) X.fix (c_X5_split l g s0 n1 ad1 C1 q hM1 hR1 (by omega) (xs (7 * q + 1)).toInt (xs (7 * q + 2)).toInt (xs (7 * q + 3)).toInt (i32r _) (i32r _) (i32r _)) (cwV 3 X.2.2.2.2.1 gL_law_X5_split rfl rfl rfl (by decide +kernel) ⟨Nat.le_of_ble_eq_true rfl, Nat.le_of_ble_eq_true rfl⟩) (q_preV X hP hS [.int (iI (xs (7 * q + 1)).toInt), .int (iI (xs (7 * q + 2)).toInt), .int (iI (xs (7 * q + 3)).toInt)] (kd := 5) (by decide) rfl v5) rfl rfl hl.1 rfl (lv_room (Nat.le_of_ble_eq_true rfl)) dL_law_1065 ⟨(by show _ ≤ 601024; omega), (by show _ ≤ 7293034; omega)⟩) hS q_id q_id1 (fun rb u t H locs ht hvm hw2 hB hz1 hk1 hS => ?_)
  obtain ⟨n2, ad2, C2⟩ := u
  obtain ⟨ev, he, rfl, h5e, h0e, en, ea, hRel2⟩ := o_split hRel hz (i32r _) hw hw2
  dsimp only at h5e h0e en ea hRel2
  have en2 := en.symm
  have ea2 := ea.symm
  subst en2 ea2
  have hP := q_back hB ht
  dsimp only at hP
  have hM2 := hRel2.2.2.2.2.2.2.2.2.2.2.2.2.2.2.2.2.2.1
  refine lv_istore (lv' := [(6, .int rb), (5, .int (iI ev)), (4, .int (iI (((7 * q) : Nat) : Int))), (0, .ref b), (1, .ref (ad1 4 0)), (2, .ref (ad1 5 0)), (3, .ref (ad1 50 0))]) X.1 X.2.1 dL_law_1068 hl (by decide) rfl (fun ls hl => ?_)
  refine lv_aload_n X.1 X.2.1 dL_law_1070 rfl (lv_at hl 5 rfl) ?_
  refine va_calli (va_runV (As := []) (rest := []) X.fix (c_X5_thrown l g s0 n1 ad1 C2 hM2) (cwV 0 X.2.2.2.2.1 gL_law_X5_thrown rfl rfl rfl (by decide +kernel) ⟨Nat.le_of_ble_eq_true rfl, Nat.le_of_ble_eq_true rfl⟩) (q_preV X hP hS [] (kd := 5) (by decide) rfl v5) rfl rfl hl.1 rfl (lv_room (Nat.le_of_ble_eq_true rfl)) dL_law_1071 ⟨(by show _ ≤ 601024; omega), (by show _ ≤ 7293034; omega)⟩) hS q_id q_id1 (fun r u t H locs ht hvm hw hB hz1 hk1 hS => ?_)
  obtain ⟨rfl, rfl⟩ := hw
  have hP : q_P g s0 n1 ad1 C2 H := q_back hB ht
  refine lv_iload X.1 X.2.1 dL_law_1074 (lv_at hl 1 rfl) ?_
  refine q_icmp_eq (tgt := 1081) X (hP.tok 5 0 0 rfl) (by omega) dL_law_1076 (by decide) (fun h_1 => ?_) (fun h_1 => ?_)
  · refine lv_iload X.1 X.2.1 dL_law_1081 (lv_at hl 1 rfl) ?_
    refine q_if_ne (tgt := 1098) X (by omega) dL_law_1083 (by decide) (fun h_2 => ?_) (fun h_2 => ?_)
    · refine lv_goto (tgt := 1157) X.1 X.2.1 dL_law_1098 (by decide) ?_
      have hl : lv_has ls 8 [(4, .int (iI (((7 * q) : Nat) : Int))), (0, .ref b), (1, .ref (ad1 4 0)), (2, .ref (ad1 5 0)), (3, .ref (ad1 50 0))] := lv_sub hl [2, 3, 4, 5, 6] rfl
      refine W.widen (by omega : _ ≤ cells + 3) (by omega : _ ≤ slots + 21) ?_
      exact kx _ _ _ _ _ ls hRel2 f4 f5 f50 hP hS hl
    · obtain ⟨z9, ⟨hz9, rfl⟩, h50e⟩ := h0e (by omega)
      refine lv_aload_n X.1 X.2.1 dL_law_1086 rfl (lv_at hl 6 rfl) ?_
      refine lv_iconst (v := iI (0)) X.1 X.2.1 dL_law_1087 rfl ?_
      refine q_lldv (len := 1) (v := (C2 50 0 0)) X hP 50 0 (by decide) rfl rfl v50 rfl (by decide) (by decide) rfl dL_law_1088 ?_
      refine lv_iload X.1 X.2.1 dL_law_1089 (lv_at hl 0 rfl) ?_
      refine q_i2l X hz9 dL_law_1091 ?_
      refine q_lcmp_eq (tgt := 1098) X (hP.tok 50 0 0 rfl) (q_3264 hz9) dL_law_1092 dL_law_1093 (by decide) (fun h_3 => ?_) (fun h_3 => ?_)
      · refine lv_goto (tgt := 1157) X.1 X.2.1 dL_law_1098 (by decide) ?_
        have hl : lv_has ls 8 [(4, .int (iI (((7 * q) : Nat) : Int))), (0, .ref b), (1, .ref (ad1 4 0)), (2, .ref (ad1 5 0)), (3, .ref (ad1 50 0))] := lv_sub hl [2, 3, 4, 5, 6] rfl
        refine W.widen (by omega : _ ≤ cells + 3) (by omega : _ ≤ slots + 21) ?_
        exact kx _ _ _ _ _ ls hRel2 f4 f5 f50 hP hS hl
      · refine lv_iconst (v := iI (0)) X.1 X.2.1 dL_law_1096 rfl ?_
        exfalso
        omega
  · refine lv_iconst (v := iI (0)) X.1 X.2.1 dL_law_1079 rfl ?_
    exfalso
    omega
set_option maxHeartbeats 4000000 in
set_option maxRecDepth 100000 in
theorem w_law_like {p : Program} {l : Launch} {e : Env} {s : State} {m : MethodId} {args : Array Value} {below : List Frame} {meth : Method} {c : Code} {Q : State → Prop} {g : q_G} {s0 : Nat} (htr : l.stackTraces = false) {n : Nat → Nat} {ad : Nat → Nat → Nat} {C : q_S} {H : Heap} {locs : List Loc} {ls : Array Slot} {cells slots : Nat} (X : q_X p s m args c cL_law 8 wsL_law RL g s0) {b L : Nat} {xs : Nat → Int32} (hXs : va_X b L xs s s.heap) (hbl : b < s.heap.size) (hbs : b < s0) (hL : L ≤ 3584) (q : Nat) (hq : 7 * q + 7 ≤ L) (hcl : cells ≤ 600000) (hsl : slots ≤ 7200000) (hRel : Rel C n q) (hP : q_P g s0 n ad C H) (hS : va_S (q_A s0) s.heap H locs) (hl : lv_has ls 8 [(4, .int (iI (((7 * q) : Nat) : Int))), (0, .ref b), (1, .ref (ad 4 0)), (2, .ref (ad 5 0)), (3, .ref (ad 50 0))])
    (kx : ∀ (n1 : Nat → Nat) (ad1 : Nat → Nat → Nat) (C1 : q_S) (H : Heap) (locs : List Loc) (ls : Array Slot), Rel C1 n1 (q + 1) → ad1 4 0 = ad 4 0 → ad1 5 0 = ad 5 0 → ad1 50 0 = ad 50 0 → q_P g s0 n1 ad1 C1 H → va_S (q_A s0) s.heap H locs → lv_has ls 8 [(4, .int (iI ((7 * q : Nat) : Int))), (0, .ref b), (1, .ref (ad1 4 0)), (2, .ref (ad1 5 0)), (3, .ref (ad1 50 0))] → W p l e room_1 s m args below meth c H locs (cells + 3) (slots + 21) Q (F0 m 1157 ls [])) :
    W p l e room_1 s m args below meth c H locs cells slots Q (F0 m 1101 ls []) := by
  have hz : gz C n := ⟨hP.2.2.2, fun p => hP.tok 2 4 p rfl⟩
  have hC : c_S C n := hRel.2.2.2.2.2.2.2.2.2.2.2.2.2.2.2.2.1
  have hR := hRel.cR hz
  have h50 : 0 < n 50 := by rw [hRel.2.2.2.2.2.2.2.2.2.2.2.2.2.2.2.2.2.2]; decide
  have hP0 := hP
  refine lv_aload_n X.1 X.2.1 dL_law_1101 rfl (lv_at hl 2 rfl) ?_
  refine lv_aload_n X.1 X.2.1 dL_law_1102 rfl (lv_at hl 1 rfl) ?_
  refine lv_iload X.1 X.2.1 dL_law_1103 (lv_at hl 0 rfl) ?_
  refine lv_iconst (v := iI (1)) X.1 X.2.1 dL_law_1105 rfl ?_
  refine q_iadd X dL_law_1106 ?_
  refine q_sld X hXs hbl hbs hS (7 * q + 1) (by omega) (by omega) hL dL_law_1107 ?_
  refine lv_aload_n X.1 X.2.1 dL_law_1108 rfl (lv_at hl 4 rfl) ?_
  refine va_calli (vx_runSW (As := [.ref (ad 4 0), .int (iI (xs (7 * q + 1)).toInt), .ref (ad 50 0)]) (rest := []) X.fix (c_L_like l htr g s0 n ad C q hC hR (by omega) h50 (xs (7 * q + 1)).toInt (i32r _)) (vx_cwSW 3 X.2.2.2.2.1 gL_law_L_like rfl rfl rfl (by decide +kernel) ⟨Nat.le_of_ble_eq_true rfl, Nat.le_of_ble_eq_true rfl⟩) (q_preS X hP hS _) rfl rfl hl.1 rfl (lv_room (Nat.le_of_ble_eq_true rfl)) dL_law_1109 ⟨(by show _ ≤ 601024; omega), (by show _ ≤ 7293034; omega)⟩) hS q_id q_id1 (fun r u t H locs ht hvm hw hB hz1 hk1 hS => ?_)
  obtain ⟨n1, ad1, C1⟩ := u
  have hP : q_P g s0 n1 ad1 C1 H := q_back hB ht
  obtain ⟨⟨f4, f5, f50, fn⟩, fk⟩ := f_L_like hw
  dsimp only at f4 f5 f50 fn fk
  have hM1 : m_S C1 n1 := mS_u fk fn hRel.2.2.2.2.2.2.2.2.2.2.2.2.2.2.2.2.2.1
  have hR1 : m_R C1 q := mR_u fk (hRel.mR hz (by omega))
  have hl : lv_has ls 8 [(4, .int (iI (((7 * q) : Nat) : Int))), (0, .ref b), (1, .ref (ad1 4 0)), (2, .ref (ad1 5 0)), (3, .ref (ad1 50 0))] := lv_cong hl (lv_cs rfl (lv_cs rfl (lv_cs (congrArg Value.ref f4.symm) (lv_cs (congrArg Value.ref f5.symm) (lv_cs (congrArg Value.ref f50.symm) rfl)))))
  have v5 : 0 < n1 5 := m_v5 hM1
  have v50 : 0 < n1 50 := by rw [fn 50 (by decide)]; exact h50
  refine lv_istore (lv' := [(5, .int r), (4, .int (iI (((7 * q) : Nat) : Int))), (0, .ref b), (1, .ref (ad1 4 0)), (2, .ref (ad1 5 0)), (3, .ref (ad1 50 0))]) X.1 X.2.1 dL_law_1112 hl (by decide) rfl (fun ls hl => ?_)
  refine lv_aload_n X.1 X.2.1 dL_law_1114 rfl (lv_at hl 4 rfl) ?_
  refine lv_aload_n X.1 X.2.1 dL_law_1115 rfl (lv_at hl 2 rfl) ?_
  refine lv_iload X.1 X.2.1 dL_law_1116 (lv_at hl 1 rfl) ?_
  refine lv_iconst (v := iI (1)) X.1 X.2.1 dL_law_1118 rfl ?_
  refine q_iadd X dL_law_1119 ?_
  refine q_sld X hXs hbl hbs hS (7 * q + 1) (by omega) (by omega) hL dL_law_1120 ?_
  refine va_calli (va_runV (As := [.int (iI (xs (7 * q + 1)).toInt)]) (rest := []) X.fix (c_X5_like l g s0 n1 ad1 C1 q hM1 hR1 (by omega) (xs (7 * q + 1)).toInt (i32r _)) (cwV 1 X.2.2.2.2.1 gL_law_X5_like rfl rfl rfl (by decide +kernel) ⟨Nat.le_of_ble_eq_true rfl, Nat.le_of_ble_eq_true rfl⟩) (q_preV X hP hS [.int (iI (xs (7 * q + 1)).toInt)] (kd := 5) (by decide) rfl v5) rfl rfl hl.1 rfl (lv_room (Nat.le_of_ble_eq_true rfl)) dL_law_1121 ⟨(by show _ ≤ 601024; omega), (by show _ ≤ 7293034; omega)⟩) hS q_id q_id1 (fun rb u t H locs ht hvm hw2 hB hz1 hk1 hS => ?_)
  obtain ⟨n2, ad2, C2⟩ := u
  obtain ⟨ev, he, rfl, h5e, h0e, en, ea, hRel2⟩ := o_like hRel hz hw hw2
  dsimp only at h5e h0e en ea hRel2
  have en2 := en.symm
  have ea2 := ea.symm
  subst en2 ea2
  have hP := q_back hB ht
  dsimp only at hP
  have hM2 := hRel2.2.2.2.2.2.2.2.2.2.2.2.2.2.2.2.2.2.1
  refine lv_istore (lv' := [(6, .int rb), (5, .int (iI ev)), (4, .int (iI (((7 * q) : Nat) : Int))), (0, .ref b), (1, .ref (ad1 4 0)), (2, .ref (ad1 5 0)), (3, .ref (ad1 50 0))]) X.1 X.2.1 dL_law_1124 hl (by decide) rfl (fun ls hl => ?_)
  refine lv_aload_n X.1 X.2.1 dL_law_1126 rfl (lv_at hl 5 rfl) ?_
  refine va_calli (va_runV (As := []) (rest := []) X.fix (c_X5_thrown l g s0 n1 ad1 C2 hM2) (cwV 0 X.2.2.2.2.1 gL_law_X5_thrown rfl rfl rfl (by decide +kernel) ⟨Nat.le_of_ble_eq_true rfl, Nat.le_of_ble_eq_true rfl⟩) (q_preV X hP hS [] (kd := 5) (by decide) rfl v5) rfl rfl hl.1 rfl (lv_room (Nat.le_of_ble_eq_true rfl)) dL_law_1127 ⟨(by show _ ≤ 601024; omega), (by show _ ≤ 7293034; omega)⟩) hS q_id q_id1 (fun r u t H locs ht hvm hw hB hz1 hk1 hS => ?_)
  obtain ⟨rfl, rfl⟩ := hw
  have hP : q_P g s0 n1 ad1 C2 H := q_back hB ht
  refine lv_iload X.1 X.2.1 dL_law_1130 (lv_at hl 1 rfl) ?_
  refine q_icmp_eq (tgt := 1137) X (hP.tok 5 0 0 rfl) (by omega) dL_law_1132 (by decide) (fun h_1 => ?_) (fun h_1 => ?_)
  · refine lv_iload X.1 X.2.1 dL_law_1137 (lv_at hl 1 rfl) ?_
    refine q_if_ne (tgt := 1154) X (by omega) dL_law_1139 (by decide) (fun h_2 => ?_) (fun h_2 => ?_)
    · refine lv_goto (tgt := 1157) X.1 X.2.1 dL_law_1154 (by decide) ?_
      have hl : lv_has ls 8 [(4, .int (iI (((7 * q) : Nat) : Int))), (0, .ref b), (1, .ref (ad1 4 0)), (2, .ref (ad1 5 0)), (3, .ref (ad1 50 0))] := lv_sub hl [2, 3, 4, 5, 6] rfl
      refine W.widen (by omega : _ ≤ cells + 3) (by omega : _ ≤ slots + 21) ?_
      exact kx _ _ _ _ _ ls hRel2 f4 f5 f50 hP hS hl
    · obtain ⟨z9, ⟨hz9, rfl⟩, h50e⟩ := h0e (by omega)
      refine lv_aload_n X.1 X.2.1 dL_law_1142 rfl (lv_at hl 6 rfl) ?_
      refine lv_iconst (v := iI (0)) X.1 X.2.1 dL_law_1143 rfl ?_
      refine q_lldv (len := 1) (v := (C2 50 0 0)) X hP 50 0 (by decide) rfl rfl v50 rfl (by decide) (by decide) rfl dL_law_1144 ?_
      refine lv_iload X.1 X.2.1 dL_law_1145 (lv_at hl 0 rfl) ?_
      refine q_i2l X hz9 dL_law_1147 ?_
      refine q_lcmp_eq (tgt := 1154) X (hP.tok 50 0 0 rfl) (q_3264 hz9) dL_law_1148 dL_law_1149 (by decide) (fun h_3 => ?_) (fun h_3 => ?_)
      · refine lv_goto (tgt := 1157) X.1 X.2.1 dL_law_1154 (by decide) ?_
        have hl : lv_has ls 8 [(4, .int (iI (((7 * q) : Nat) : Int))), (0, .ref b), (1, .ref (ad1 4 0)), (2, .ref (ad1 5 0)), (3, .ref (ad1 50 0))] := lv_sub hl [2, 3, 4, 5, 6] rfl
        refine W.widen (by omega : _ ≤ cells + 3) (by omega : _ ≤ slots + 21) ?_
        exact kx _ _ _ _ _ ls hRel2 f4 f5 f50 hP hS hl
      · refine lv_iconst (v := iI (0)) X.1 X.2.1 dL_law_1152 rfl ?_
        exfalso
        omega
  · refine lv_iconst (v := iI (0)) X.1 X.2.1 dL_law_1135 rfl ?_
    exfalso
    omega
