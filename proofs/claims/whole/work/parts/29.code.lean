noncomputable def b_m_readBrass_16 (v0 : Nat) (h : Hp) : Option (Unit × Hp) := gd (hS h v0 = some (.inl 11)) (bd (f_m_goesOn v0 h) fun _ h1 => gd (hS h1 v0 = some (.inl 11)) (bd (f_m_readPart v0 (2 : Nat) (0 : Int32) (99 : Int32) h1) fun r4 h3 => gd (hS h3 v0 = some (.inl 11)) (bd (f_m_readPart v0 (3 : Nat) (0 : Int32) (100 : Int32) h3) fun r6 h5 => gd (hS h5 v0 = some (.inl 11)) (lt (hI h5 v0 9) fun x7 => if x7 = 6 then (some ((), h5)) else (gd (hS h5 v0 = some (.inl 11)) (bR (hR h5 v0 4) fun x8 => gd (hS h5 x8 = some (.inl 12)) (lt (uI h5 x8 0 r4) fun h9 => gd (hS h9 v0 = some (.inl 11)) (bR (hR h9 v0 4) fun x10 => gd (hS h9 x10 = some (.inl 12)) (lt (uI h9 x10 1 r6) fun h11 => some ((), h11))))))))))
set_option maxHeartbeats 4000000 in
set_option maxRecDepth 20000 in
theorem tb_m_readBrass_16 {G : GG} (v0 : Nat) (h : Hp) : T G M_m_readBrass 8 cU 16 [(0, .ref v0)] [] h (b_m_readBrass_16 v0 h) := by
  unfold b_m_readBrass_16
  refine q_aload_n (pc := 16) (dq D_m_readBrass_0_ok 8 rfl) rfl 0 rfl ?_
  refine r_invU (Mc := M_m_goesOn) (pc := 17) (ci := 11) (rest := []) 1 0 [] (dq D_m_readBrass_0_ok 9 rfl) rfl rfl lc_m_goesOn lv_m_goesOn_ ml_m_122 rfl rfl rfl rfl (t_m_goesOn v0 h) (fun _ h1 => ?_)
  refine q_aload_n (pc := 20) (dq D_m_readBrass_0_ok 10 rfl) rfl 0 rfl ?_
  refine r_lds (pc := 21) 2 (dq D_m_readBrass_0_ok 11 rfl) rfl rfl rfl ?_
  refine q_ic0 (pc := 23) (dq D_m_readBrass_0_ok 12 rfl) ?_
  refine q_bipush (pc := 24) (v := 99) (dq D_m_readBrass_0_ok 13 rfl) (by decide) ?_
  refine r_invI (Mc := M_m_readPart) (pc := 26) (ci := 11) (rest := []) 7 3 [.ref (gT G 2), .int 0, .int 99] (dq D_m_readBrass_0_ok 14 rfl) rfl rfl lc_m_readPart lv_m_readPart_ ml_m_233 rfl rfl rfl rfl (t_m_readPart v0 (2 : Nat) (0 : Int32) (99 : Int32) h1) (fun r4 h3 => ?_)
  refine q_istore_n (pc := 29) (ls' := [(1, .int r4), (0, .ref v0)]) (dq D_m_readBrass_0_ok 15 rfl) rfl rfl rfl ?_
  refine q_aload_n (pc := 30) (dq D_m_readBrass_0_ok 16 rfl) rfl 1 rfl ?_
  refine r_lds (pc := 31) 3 (dq D_m_readBrass_0_ok 17 rfl) rfl rfl rfl ?_
  refine q_ic0 (pc := 33) (dq D_m_readBrass_0_ok 18 rfl) ?_
  refine q_bipush (pc := 34) (v := 100) (dq D_m_readBrass_0_ok 19 rfl) (by decide) ?_
  refine r_invI (Mc := M_m_readPart) (pc := 36) (ci := 11) (rest := []) 7 3 [.ref (gT G 3), .int 0, .int 100] (dq D_m_readBrass_0_ok 20 rfl) rfl rfl lc_m_readPart lv_m_readPart_ ml_m_233 rfl rfl rfl rfl (t_m_readPart v0 (3 : Nat) (0 : Int32) (100 : Int32) h3) (fun r6 h5 => ?_)
  refine q_istore_n (pc := 39) (ls' := [(2, .int r6), (1, .int r4), (0, .ref v0)]) (dq D_m_readBrass_0_ok 21 rfl) rfl rfl rfl ?_
  refine q_aload_n (pc := 40) (dq D_m_readBrass_0_ok 22 rfl) rfl 2 rfl ?_
  refine r_getI (pc := 41) (dq D_m_readBrass_0_ok 23 rfl) fa_m_86 rfl (fun x7 => ?_)
  refine q_bipush (pc := 44) (v := 6) (dq D_m_readBrass_0_ok 24 rfl) (by decide) ?_
  refine q_ic_ne (pc := 46) 50 (dq D_m_readBrass_0_ok 25 rfl) rfl ?_ ?_
  · refine q_aload_n (pc := 50) (dq D_m_readBrass_0_ok 27 rfl) rfl 2 rfl ?_
    refine q_getR (pc := 51) (dq D_m_readBrass_0_ok 28 rfl) fa_m_166 rfl (fun x8 => ?_)
    refine q_iload_n (pc := 54) (dq D_m_readBrass_0_ok 29 rfl) rfl 1 rfl ?_
    refine r_putI (pc := 55) (dq D_m_readBrass_0_ok 30 rfl) fp_m_170 rfl rfl (fun h9 => ?_)
    refine q_aload_n (pc := 58) (dq D_m_readBrass_0_ok 31 rfl) rfl 2 rfl ?_
    refine q_getR (pc := 59) (dq D_m_readBrass_0_ok 32 rfl) fa_m_166 rfl (fun x10 => ?_)
    refine q_iload_n (pc := 62) (dq D_m_readBrass_0_ok 33 rfl) rfl 0 rfl ?_
    refine r_putI (pc := 63) (dq D_m_readBrass_0_ok 34 rfl) fp_m_239 rfl rfl (fun h11 => ?_)
    exact r_retu (pc := 66) (dq D_m_readBrass_0_ok 35 rfl) rfl
  · exact r_retu (pc := 49) (dq D_m_readBrass_0_ok 26 rfl) rfl
noncomputable def f_m_readBrass (v0 : Nat) (h : Hp) : Option (Unit × Hp) := gd (hS h v0 = some (.inl 11)) (bR (hR h v0 4) fun x1 => gd (hS h x1 = some (.inl 12)) (lt (hI h x1 0) fun x2 => if x2 = ((-1)) then (b_m_readBrass_16 v0 h) else (gd (hS h v0 = some (.inl 11)) (bd (f_m_flaw v0 (3 : Int32) h) fun _ h3 => b_m_readBrass_16 v0 h3))))
set_option maxHeartbeats 4000000 in
set_option maxRecDepth 20000 in
theorem t_m_readBrass {G : GG} (v0 : Nat) (h : Hp) : Mt G M_m_readBrass 8 [.ref v0] cU h (f_m_readBrass v0 h) := by
  refine Mt.ofF (by decide +kernel) rfl (Rt.v rfl rfl) ?_
  show T G M_m_readBrass 8 cU 0 [(0, .ref v0)] [] h _
  unfold f_m_readBrass
  refine q_aload_n (pc := 0) (dq D_m_readBrass_0_ok 0 rfl) rfl 0 rfl ?_
  refine q_getR (pc := 1) (dq D_m_readBrass_0_ok 1 rfl) fa_m_166 rfl (fun x1 => ?_)
  refine r_getI (pc := 4) (dq D_m_readBrass_0_ok 2 rfl) fa_m_170 rfl (fun x2 => ?_)
  refine q_icm1 (pc := 7) (dq D_m_readBrass_0_ok 3 rfl) ?_
  refine q_ic_eq (pc := 8) 16 (dq D_m_readBrass_0_ok 4 rfl) rfl ?_ ?_
  · exact T.lsub [0] rfl (tb_m_readBrass_16 v0 h)
  · refine q_aload_n (pc := 11) (dq D_m_readBrass_0_ok 5 rfl) rfl 0 rfl ?_
    refine q_ic3 (pc := 12) (dq D_m_readBrass_0_ok 6 rfl) ?_
    refine r_invU (Mc := M_m_flaw) (pc := 13) (ci := 11) (rest := []) 0 1 [.int 3] (dq D_m_readBrass_0_ok 7 rfl) rfl rfl lc_m_flaw lv_m_flaw_ ml_m_129 rfl rfl rfl rfl (t_m_flaw v0 (3 : Int32) h) (fun _ h3 => ?_)
    exact T.lsub [0] rfl (tb_m_readBrass_16 v0 h3)
noncomputable def b_m_readWheel_118 (v0 : Nat) (v1 : Int64) (v3 : Int32) (v4 : Int32) (s0 : Int32) (s1 : Int32) (s2 : Nat) (s3 : Nat) (h : Hp) : Option (Unit × Hp) := gd (hS h s3 = some (.inl 11)) (bd (f_m_readPart s3 s2 s1 s0 h) fun r2 h1 => gd (hS h1 v0 = some (.inl 11)) (bd (f_m_readPart v0 (18 : Nat) (0 : Int32) (v4 - 1) h1) fun r4 h3 => gd (hS h3 v0 = some (.inl 11)) (lt (hI h3 v0 9) fun x5 => if x5 = 6 then (some ((), h3)) else (gd (hS h3 v0 = some (.inl 11)) (bR (hR h3 v0 4) fun x6 => gd (hS h3 x6 = some (.inl 12)) (lt (hI h3 x6 2) fun x7 => gd (hS h3 v0 = some (.inl 11)) (bd (f_m_names v0 v1 (0 : Int32) x7 h3) fun _ h8 => gd (hS h8 v0 = some (.inl 11)) (bR (hR h8 v0 4) fun x10 => gd (hS h8 x10 = some (.inl 12)) (bR (hR h8 x10 10) fun x11 => gd (ai h8 x11 0 x7) (lt (uI h8 x11 x7.toNatClampNeg v3) fun h12 => gd (hS h12 v0 = some (.inl 11)) (bR (hR h12 v0 4) fun x13 => gd (hS h12 x13 = some (.inl 12)) (bR (hR h12 x13 11) fun x14 => gd (ai h12 x14 0 x7) (lt (uI h12 x14 x7.toNatClampNeg v4) fun h15 => gd (hS h15 v0 = some (.inl 11)) (bR (hR h15 v0 4) fun x16 => gd (hS h15 x16 = some (.inl 12)) (bR (hR h15 x16 12) fun x17 => gd (ai h15 x17 0 x7) (lt (uI h15 x17 x7.toNatClampNeg r2) fun h18 => gd (hS h18 v0 = some (.inl 11)) (bR (hR h18 v0 4) fun x19 => gd (hS h18 x19 = some (.inl 12)) (bR (hR h18 x19 13) fun x20 => gd (ai h18 x20 0 x7) (lt (uI h18 x20 x7.toNatClampNeg r4) fun h21 => gd (hS h21 v0 = some (.inl 11)) (bR (hR h21 v0 4) fun x22 => gd (hS h21 x22 = some (.inl 12)) (lt (hI h21 x22 2) fun x23 => gd (hS h21 x22 = some (.inl 12)) (lt (uI h21 x22 2 (x23 + 1)) fun h24 => some ((), h24)))))))))))))))))))))))
set_option maxHeartbeats 4000000 in
set_option maxRecDepth 20000 in
theorem tb_m_readWheel_118 {G : GG} (v0 : Nat) (v1 : Int64) (v3 : Int32) (v4 : Int32) (s0 : Int32) (s1 : Int32) (s2 : Nat) (s3 : Nat) (h : Hp) : T G M_m_readWheel 8 cU 118 [(0, .ref v0), (1, .long v1), (3, .int v3), (4, .int v4)] [.int s0, .int s1, .ref (gT G s2), .ref s3] h (b_m_readWheel_118 v0 v1 v3 v4 s0 s1 s2 s3 h) := by
  unfold b_m_readWheel_118
  refine r_invI (Mc := M_m_readPart) (pc := 118) (ci := 11) (rest := []) 7 3 [.ref (gT G s2), .int s1, .int s0] (dq D_m_readWheel_1_ok 0 rfl) rfl rfl lc_m_readPart lv_m_readPart_ ml_m_233 rfl rfl rfl rfl (t_m_readPart s3 s2 s1 s0 h) (fun r2 h1 => ?_)
  refine q_istore (pc := 121) (ls' := [(5, .int r2), (0, .ref v0), (1, .long v1), (3, .int v3), (4, .int v4)]) (dq D_m_readWheel_1_ok 1 rfl) rfl rfl ?_
  refine q_aload_n (pc := 123) (dq D_m_readWheel_1_ok 2 rfl) rfl 1 rfl ?_
  refine r_ldsw (pc := 124) 18 (dq D_m_readWheel_1_ok 3 rfl) rfl rfl rfl ?_
  refine q_ic0 (pc := 127) (dq D_m_readWheel_1_ok 4 rfl) ?_
  refine q_iload (pc := 128) (dq D_m_readWheel_1_ok 5 rfl) 4 rfl ?_
  refine q_ic1 (pc := 130) (dq D_m_readWheel_1_ok 6 rfl) ?_
  refine q_isub (pc := 131) (dq D_m_readWheel_1_ok 7 rfl) ?_
  refine r_invI (Mc := M_m_readPart) (pc := 132) (ci := 11) (rest := []) 7 3 [.ref (gT G 18), .int 0, .int (v4 - 1)] (dq D_m_readWheel_1_ok 8 rfl) rfl rfl lc_m_readPart lv_m_readPart_ ml_m_233 rfl rfl rfl rfl (t_m_readPart v0 (18 : Nat) (0 : Int32) (v4 - 1) h1) (fun r4 h3 => ?_)
  refine q_istore (pc := 135) (ls' := [(6, .int r4), (5, .int r2), (0, .ref v0), (1, .long v1), (3, .int v3), (4, .int v4)]) (dq D_m_readWheel_1_ok 9 rfl) rfl rfl ?_
  refine q_aload_n (pc := 137) (dq D_m_readWheel_1_ok 10 rfl) rfl 2 rfl ?_
  refine r_getI (pc := 138) (dq D_m_readWheel_1_ok 11 rfl) fa_m_86 rfl (fun x5 => ?_)
  refine q_bipush (pc := 141) (v := 6) (dq D_m_readWheel_1_ok 12 rfl) (by decide) ?_
  refine q_ic_ne (pc := 143) 147 (dq D_m_readWheel_1_ok 13 rfl) rfl ?_ ?_
  · refine q_aload_n (pc := 147) (dq D_m_readWheel_1_ok 15 rfl) rfl 2 rfl ?_
    refine q_getR (pc := 148) (dq D_m_readWheel_1_ok 16 rfl) fa_m_166 rfl (fun x6 => ?_)
    refine r_getI (pc := 151) (dq D_m_readWheel_1_ok 17 rfl) fa_m_205 rfl (fun x7 => ?_)
    refine q_istore (pc := 154) (ls' := [(7, .int x7), (6, .int r4), (5, .int r2), (0, .ref v0), (1, .long v1), (3, .int v3), (4, .int v4)]) (dq D_m_readWheel_1_ok 18 rfl) rfl rfl ?_
    refine q_aload_n (pc := 156) (dq D_m_readWheel_1_ok 19 rfl) rfl 3 rfl ?_
    refine q_lload_n (pc := 157) (dq D_m_readWheel_1_ok 20 rfl) rfl 4 rfl ?_
    refine q_ic0 (pc := 158) (dq D_m_readWheel_1_ok 21 rfl) ?_
    refine q_iload (pc := 159) (dq D_m_readWheel_1_ok 22 rfl) 0 rfl ?_
    refine r_invU (Mc := M_m_names) (pc := 161) (ci := 11) (rest := []) 0 3 [.long v1, .int 0, .int x7] (dq D_m_readWheel_1_ok 23 rfl) rfl rfl lc_m_names lv_m_names_ ml_m_263 rfl rfl rfl rfl (t_m_names v0 v1 (0 : Int32) x7 h3) (fun _ h8 => ?_)
    refine q_aload_n (pc := 164) (dq D_m_readWheel_1_ok 24 rfl) rfl 3 rfl ?_
    refine q_getR (pc := 165) (dq D_m_readWheel_1_ok 25 rfl) fa_m_166 rfl (fun x10 => ?_)
    refine q_getR (pc := 168) (dq D_m_readWheel_1_ok 26 rfl) fa_m_266 rfl (fun x11 => ?_)
    refine q_iload (pc := 171) (dq D_m_readWheel_1_ok 27 rfl) 0 rfl ?_
    refine q_iload_n (pc := 173) (dq D_m_readWheel_1_ok 28 rfl) rfl 5 rfl ?_
    refine r_iast (pc := 174) (dq D_m_readWheel_1_ok 29 rfl) (fun h12 => ?_)
    refine q_aload_n (pc := 175) (dq D_m_readWheel_1_ok 30 rfl) rfl 3 rfl ?_
    refine q_getR (pc := 176) (dq D_m_readWheel_1_ok 31 rfl) fa_m_166 rfl (fun x13 => ?_)
    refine q_getR (pc := 179) (dq D_m_readWheel_1_ok 32 rfl) fa_m_269 rfl (fun x14 => ?_)
    refine q_iload (pc := 182) (dq D_m_readWheel_1_ok 33 rfl) 0 rfl ?_
    refine q_iload (pc := 184) (dq D_m_readWheel_1_ok 34 rfl) 6 rfl ?_
    refine r_iast (pc := 186) (dq D_m_readWheel_1_ok 35 rfl) (fun h15 => ?_)
    refine q_aload_n (pc := 187) (dq D_m_readWheel_1_ok 36 rfl) rfl 3 rfl ?_
    refine q_getR (pc := 188) (dq D_m_readWheel_1_ok 37 rfl) fa_m_166 rfl (fun x16 => ?_)
    refine q_getR (pc := 191) (dq D_m_readWheel_1_ok 38 rfl) fa_m_271 rfl (fun x17 => ?_)
    refine q_iload (pc := 194) (dq D_m_readWheel_1_ok 39 rfl) 0 rfl ?_
    refine q_iload (pc := 196) (dq D_m_readWheel_1_ok 40 rfl) 2 rfl ?_
    refine r_iast (pc := 198) (dq D_m_readWheel_1_ok 41 rfl) (fun h18 => ?_)
    refine q_aload_n (pc := 199) (dq D_m_readWheel_1_ok 42 rfl) rfl 3 rfl ?_
    refine q_getR (pc := 200) (dq D_m_readWheel_1_ok 43 rfl) fa_m_166 rfl (fun x19 => ?_)
    refine q_getR (pc := 203) (dq D_m_readWheel_1_ok 44 rfl) fa_m_273 rfl (fun x20 => ?_)
    refine q_iload (pc := 206) (dq D_m_readWheel_1_ok 45 rfl) 0 rfl ?_
    refine q_iload (pc := 208) (dq D_m_readWheel_1_ok 46 rfl) 1 rfl ?_
    refine r_iast (pc := 210) (dq D_m_readWheel_1_ok 47 rfl) (fun h21 => ?_)
    refine q_aload_n (pc := 211) (dq D_m_readWheel_1_ok 48 rfl) rfl 3 rfl ?_
    refine q_getR (pc := 212) (dq D_m_readWheel_1_ok 49 rfl) fa_m_166 rfl (fun x22 => ?_)
    refine q_dup (pc := 215) (dq D_m_readWheel_1_ok 50 rfl) rfl ?_
    refine r_getI (pc := 216) (dq D_m_readWheel_1_ok 51 rfl) fa_m_205 rfl (fun x23 => ?_)
    refine q_ic1 (pc := 219) (dq D_m_readWheel_1_ok 52 rfl) ?_
    refine q_iadd (pc := 220) (dq D_m_readWheel_1_ok 53 rfl) ?_
    refine r_putI (pc := 221) (dq D_m_readWheel_1_ok 54 rfl) fp_m_205 rfl rfl (fun h24 => ?_)
    exact r_retu (pc := 224) (dq D_m_readWheel_1_ok 55 rfl) rfl
  · exact r_retu (pc := 146) (dq D_m_readWheel_1_ok 14 rfl) rfl
noncomputable def b_m_readWheel_81 (v0 : Nat) (v1 : Int64) (v3 : Int32) (h : Hp) : Option (Unit × Hp) := gd (hS h v0 = some (.inl 11)) (bd (f_m_goesOn v0 h) fun _ h1 => gd (hS h1 v0 = some (.inl 11)) (bd (f_m_readPart v0 (16 : Nat) (4 : Int32) (60 : Int32) h1) fun r4 h3 => if r4 ≤ 9 then (b_m_readWheel_118 v0 v1 v3 r4 (r4 - 1) 1 17 v0 h3) else (b_m_readWheel_118 v0 v1 v3 r4 9 1 17 v0 h3)))
set_option maxHeartbeats 4000000 in
set_option maxRecDepth 20000 in
theorem tb_m_readWheel_81 {G : GG} (v0 : Nat) (v1 : Int64) (v3 : Int32) (h : Hp) : T G M_m_readWheel 8 cU 81 [(0, .ref v0), (1, .long v1), (3, .int v3)] [] h (b_m_readWheel_81 v0 v1 v3 h) := by
  unfold b_m_readWheel_81
  refine q_aload_n (pc := 81) (dq D_m_readWheel_0_ok 41 rfl) rfl 0 rfl ?_
  refine r_invU (Mc := M_m_goesOn) (pc := 82) (ci := 11) (rest := []) 1 0 [] (dq D_m_readWheel_0_ok 42 rfl) rfl rfl lc_m_goesOn lv_m_goesOn_ ml_m_122 rfl rfl rfl rfl (t_m_goesOn v0 h) (fun _ h1 => ?_)
  refine q_aload_n (pc := 85) (dq D_m_readWheel_0_ok 43 rfl) rfl 0 rfl ?_
  refine r_ldsw (pc := 86) 16 (dq D_m_readWheel_0_ok 44 rfl) rfl rfl rfl ?_
  refine q_ic4 (pc := 89) (dq D_m_readWheel_0_ok 45 rfl) ?_
  refine q_bipush (pc := 90) (v := 60) (dq D_m_readWheel_0_ok 46 rfl) (by decide) ?_
  refine r_invI (Mc := M_m_readPart) (pc := 92) (ci := 11) (rest := []) 7 3 [.ref (gT G 16), .int 4, .int 60] (dq D_m_readWheel_0_ok 47 rfl) rfl rfl lc_m_readPart lv_m_readPart_ ml_m_233 rfl rfl rfl rfl (t_m_readPart v0 (16 : Nat) (4 : Int32) (60 : Int32) h1) (fun r4 h3 => ?_)
  refine q_istore (pc := 95) (ls' := [(4, .int r4), (0, .ref v0), (1, .long v1), (3, .int v3)]) (dq D_m_readWheel_0_ok 48 rfl) rfl rfl ?_
  refine q_aload_n (pc := 97) (dq D_m_readWheel_0_ok 49 rfl) rfl 1 rfl ?_
  refine r_ldsw (pc := 98) 17 (dq D_m_readWheel_0_ok 50 rfl) rfl rfl rfl ?_
  refine q_ic1 (pc := 101) (dq D_m_readWheel_0_ok 51 rfl) ?_
  refine q_iload (pc := 102) (dq D_m_readWheel_0_ok 52 rfl) 0 rfl ?_
  refine q_bipush (pc := 104) (v := 9) (dq D_m_readWheel_0_ok 53 rfl) (by decide) ?_
  refine q_ic_le (pc := 106) 114 (dq D_m_readWheel_0_ok 54 rfl) rfl ?_ ?_
  · refine q_iload (pc := 114) (dq D_m_readWheel_0_ok 57 rfl) 0 rfl ?_
    refine q_ic1 (pc := 116) (dq D_m_readWheel_0_ok 58 rfl) ?_
    refine q_isub (pc := 117) (dq D_m_readWheel_0_ok 59 rfl) ?_
    exact T.lsub [1, 2, 3, 0] rfl (tb_m_readWheel_118 v0 v1 v3 r4 (r4 - 1) 1 17 v0 h3)
  · refine q_bipush (pc := 109) (v := 9) (dq D_m_readWheel_0_ok 55 rfl) (by decide) ?_
    refine q_goto (pc := 111) 118 (dq D_m_readWheel_0_ok 56 rfl) rfl ?_
    exact T.lsub [1, 2, 3, 0] rfl (tb_m_readWheel_118 v0 v1 v3 r4 9 1 17 v0 h3)
noncomputable def b_m_readWheel_70 (v0 : Nat) (v1 : Int64) (s0 : Int32) (h : Hp) : Option (Unit × Hp) := if s0 = ((-1)) then (gd (hS h v0 = some (.inl 11)) (bd (f_m_flaw v0 (1 : Int32) h) fun _ h1 => b_m_readWheel_81 v0 v1 s0 h1)) else (b_m_readWheel_81 v0 v1 s0 h)
set_option maxHeartbeats 4000000 in
set_option maxRecDepth 20000 in
theorem tb_m_readWheel_70 {G : GG} (v0 : Nat) (v1 : Int64) (s0 : Int32) (h : Hp) : T G M_m_readWheel 8 cU 70 [(0, .ref v0), (1, .long v1)] [.int s0] h (b_m_readWheel_70 v0 v1 s0 h) := by
  unfold b_m_readWheel_70
  refine q_istore_n (pc := 70) (ls' := [(3, .int s0), (0, .ref v0), (1, .long v1)]) (dq D_m_readWheel_0_ok 34 rfl) rfl rfl rfl ?_
  refine q_iload_n (pc := 71) (dq D_m_readWheel_0_ok 35 rfl) rfl 0 rfl ?_
  refine q_icm1 (pc := 72) (dq D_m_readWheel_0_ok 36 rfl) ?_
  refine q_ic_ne (pc := 73) 81 (dq D_m_readWheel_0_ok 37 rfl) rfl ?_ ?_
  · exact T.lsub [1, 2, 0] rfl (tb_m_readWheel_81 v0 v1 s0 h)
  · refine q_aload_n (pc := 76) (dq D_m_readWheel_0_ok 38 rfl) rfl 1 rfl ?_
    refine q_ic1 (pc := 77) (dq D_m_readWheel_0_ok 39 rfl) ?_
    refine r_invU (Mc := M_m_flaw) (pc := 78) (ci := 11) (rest := []) 0 1 [.int 1] (dq D_m_readWheel_0_ok 40 rfl) rfl rfl lc_m_flaw lv_m_flaw_ ml_m_129 rfl rfl rfl rfl (t_m_flaw v0 (1 : Int32) h) (fun _ h1 => ?_)
    exact T.lsub [1, 2, 0] rfl (tb_m_readWheel_81 v0 v1 s0 h1)
noncomputable def f_m_readWheel (v0 : Nat) (h : Hp) : Option (Unit × Hp) := gd (hS h v0 = some (.inl 11)) (bR (hR h v0 4) fun x1 => gd (hS h x1 = some (.inl 12)) (lt (hI h x1 2) fun x2 => gd (hS h v0 = some (.inl 11)) (bd (f_m_lineBegins v0 x2 (5 : Int32) h) fun _ h3 => gd (hS h3 v0 = some (.inl 11)) (bd (f_m_readFresh v0 h3) fun r6 h5 => gd (hS h5 v0 = some (.inl 11)) (bd (f_m_isWord v0 (12 : Nat) h5) fun r8 h7 => if r8 = 0 then (gd (hS h7 v0 = some (.inl 11)) (bd (f_m_isWord v0 (13 : Nat) h7) fun r10 h9 => if r10 = 0 then (gd (hS h9 v0 = some (.inl 11)) (bd (f_m_isWord v0 (14 : Nat) h9) fun r12 h11 => if r12 = 0 then (gd (hS h11 v0 = some (.inl 11)) (bd (f_m_isWord v0 (15 : Nat) h11) fun r14 h13 => if r14 = 0 then (b_m_readWheel_70 v0 r6 ((-1)) h13) else (b_m_readWheel_70 v0 r6 3 h13))) else (b_m_readWheel_70 v0 r6 2 h11))) else (b_m_readWheel_70 v0 r6 1 h9))) else (b_m_readWheel_70 v0 r6 0 h7))))))
set_option maxHeartbeats 4000000 in
set_option maxRecDepth 20000 in
theorem t_m_readWheel {G : GG} (v0 : Nat) (h : Hp) : Mt G M_m_readWheel 8 [.ref v0] cU h (f_m_readWheel v0 h) := by
  refine Mt.ofF (by decide +kernel) rfl (Rt.v rfl rfl) ?_
  show T G M_m_readWheel 8 cU 0 [(0, .ref v0)] [] h _
  unfold f_m_readWheel
  refine q_aload_n (pc := 0) (dq D_m_readWheel_0_ok 0 rfl) rfl 0 rfl ?_
  refine q_aload_n (pc := 1) (dq D_m_readWheel_0_ok 1 rfl) rfl 0 rfl ?_
  refine q_getR (pc := 2) (dq D_m_readWheel_0_ok 2 rfl) fa_m_166 rfl (fun x1 => ?_)
  refine r_getI (pc := 5) (dq D_m_readWheel_0_ok 3 rfl) fa_m_205 rfl (fun x2 => ?_)
  refine q_ic5 (pc := 8) (dq D_m_readWheel_0_ok 4 rfl) ?_
  refine r_invU (Mc := M_m_lineBegins) (pc := 9) (ci := 11) (rest := []) 2 2 [.int x2, .int 5] (dq D_m_readWheel_0_ok 5 rfl) rfl rfl lc_m_lineBegins lv_m_lineBegins_ ml_m_241 rfl rfl rfl rfl (t_m_lineBegins v0 x2 (5 : Int32) h) (fun _ h3 => ?_)
  refine q_aload_n (pc := 12) (dq D_m_readWheel_0_ok 6 rfl) rfl 0 rfl ?_
  refine r_invL (Mc := M_m_readFresh) (pc := 13) (ci := 11) (rest := []) 7 0 [] (dq D_m_readWheel_0_ok 7 rfl) rfl rfl lc_m_readFresh lv_m_readFresh_ ml_m_245 rfl rfl rfl rfl (t_m_readFresh v0 h3) (fun r6 h5 => ?_)
  refine q_lstore_n (pc := 16) (ls' := [(1, .long r6), (0, .ref v0)]) (dq D_m_readWheel_0_ok 8 rfl) rfl rfl rfl ?_
  refine q_aload_n (pc := 17) (dq D_m_readWheel_0_ok 9 rfl) rfl 1 rfl ?_
  refine r_lds (pc := 18) 12 (dq D_m_readWheel_0_ok 10 rfl) rfl rfl rfl ?_
  refine r_invI (Mc := M_m_isWord) (pc := 20) (ci := 11) (rest := []) 5 1 [.ref (gT G 12)] (dq D_m_readWheel_0_ok 11 rfl) rfl rfl lc_m_isWord lv_m_isWord_ ml_m_125 rfl rfl rfl rfl (t_m_isWord v0 (12 : Nat) h5) (fun r8 h7 => ?_)
  refine p_if_eq (pc := 23) 30 (dq D_m_readWheel_0_ok 12 rfl) rfl ?_ ?_
  · refine q_aload_n (pc := 30) (dq D_m_readWheel_0_ok 15 rfl) rfl 1 rfl ?_
    refine r_lds (pc := 31) 13 (dq D_m_readWheel_0_ok 16 rfl) rfl rfl rfl ?_
    refine r_invI (Mc := M_m_isWord) (pc := 33) (ci := 11) (rest := []) 5 1 [.ref (gT G 13)] (dq D_m_readWheel_0_ok 17 rfl) rfl rfl lc_m_isWord lv_m_isWord_ ml_m_125 rfl rfl rfl rfl (t_m_isWord v0 (13 : Nat) h7) (fun r10 h9 => ?_)
    refine p_if_eq (pc := 36) 43 (dq D_m_readWheel_0_ok 18 rfl) rfl ?_ ?_
    · refine q_aload_n (pc := 43) (dq D_m_readWheel_0_ok 21 rfl) rfl 1 rfl ?_
      refine r_lds (pc := 44) 14 (dq D_m_readWheel_0_ok 22 rfl) rfl rfl rfl ?_
      refine r_invI (Mc := M_m_isWord) (pc := 46) (ci := 11) (rest := []) 5 1 [.ref (gT G 14)] (dq D_m_readWheel_0_ok 23 rfl) rfl rfl lc_m_isWord lv_m_isWord_ ml_m_125 rfl rfl rfl rfl (t_m_isWord v0 (14 : Nat) h9) (fun r12 h11 => ?_)
      refine p_if_eq (pc := 49) 56 (dq D_m_readWheel_0_ok 24 rfl) rfl ?_ ?_
      · refine q_aload_n (pc := 56) (dq D_m_readWheel_0_ok 27 rfl) rfl 1 rfl ?_
        refine r_lds (pc := 57) 15 (dq D_m_readWheel_0_ok 28 rfl) rfl rfl rfl ?_
        refine r_invI (Mc := M_m_isWord) (pc := 59) (ci := 11) (rest := []) 5 1 [.ref (gT G 15)] (dq D_m_readWheel_0_ok 29 rfl) rfl rfl lc_m_isWord lv_m_isWord_ ml_m_125 rfl rfl rfl rfl (t_m_isWord v0 (15 : Nat) h11) (fun r14 h13 => ?_)
        refine p_if_eq (pc := 62) 69 (dq D_m_readWheel_0_ok 30 rfl) rfl ?_ ?_
        · refine q_icm1 (pc := 69) (dq D_m_readWheel_0_ok 33 rfl) ?_
          exact T.lsub [1, 0] rfl (tb_m_readWheel_70 v0 r6 ((-1)) h13)
        · refine q_ic3 (pc := 65) (dq D_m_readWheel_0_ok 31 rfl) ?_
          refine q_goto (pc := 66) 70 (dq D_m_readWheel_0_ok 32 rfl) rfl ?_
          exact T.lsub [1, 0] rfl (tb_m_readWheel_70 v0 r6 3 h13)
      · refine q_ic2 (pc := 52) (dq D_m_readWheel_0_ok 25 rfl) ?_
        refine q_goto (pc := 53) 70 (dq D_m_readWheel_0_ok 26 rfl) rfl ?_
        exact T.lsub [1, 0] rfl (tb_m_readWheel_70 v0 r6 2 h11)
    · refine q_ic1 (pc := 39) (dq D_m_readWheel_0_ok 19 rfl) ?_
      refine q_goto (pc := 40) 70 (dq D_m_readWheel_0_ok 20 rfl) rfl ?_
      exact T.lsub [1, 0] rfl (tb_m_readWheel_70 v0 r6 1 h9)
  · refine q_ic0 (pc := 26) (dq D_m_readWheel_0_ok 13 rfl) ?_
    refine q_goto (pc := 27) 70 (dq D_m_readWheel_0_ok 14 rfl) rfl ?_
    exact T.lsub [1, 0] rfl (tb_m_readWheel_70 v0 r6 0 h7)
noncomputable def f_n_isGone (v0 : Nat) (v1 : Int32) (v2 : Int32) (h : Hp) : Option (Int32 × Hp) := gd (hS h v0 = some (.inl 12)) (bR (hR h v0 14) fun x1 => gd (ai h x1 1 v1) (lt (hL h x1 v1.toNatClampNeg) fun x2 => if (lg_cmp ((x2 >>> (v2.toInt64 &&& 63)) &&& 1) 1) = 0 then (gd (zb 1) (some (1, h))) else (gd (zb 0) (some (0, h)))))
set_option maxHeartbeats 4000000 in
set_option maxRecDepth 20000 in
theorem t_n_isGone {G : GG} (v0 : Nat) (v1 : Int32) (v2 : Int32) (h : Hp) : Mt G M_n_isGone 0 [.ref v0, .int v1, .int v2] cI h (f_n_isGone v0 v1 v2 h) := by
  refine Mt.ofF (by decide +kernel) rfl (Rt.z rfl rfl) ?_
  show T G M_n_isGone 0 cI 0 [(0, .ref v0), (1, .int v1), (2, .int v2)] [] h _
  unfold f_n_isGone
  refine q_aload_n (pc := 0) (dq D_n_isGone_0_ok 0 rfl) rfl 0 rfl ?_
  refine q_getR (pc := 1) (dq D_n_isGone_0_ok 1 rfl) fa_n_31 rfl (fun x1 => ?_)
  refine q_iload_n (pc := 4) (dq D_n_isGone_0_ok 2 rfl) rfl 1 rfl ?_
  refine r_lald (pc := 5) (dq D_n_isGone_0_ok 3 rfl) (fun x2 => ?_)
  refine q_iload_n (pc := 6) (dq D_n_isGone_0_ok 4 rfl) rfl 2 rfl ?_
  refine q_lshr (pc := 7) (dq D_n_isGone_0_ok 5 rfl) ?_
  refine q_lconst (pc := 8) (v := 1) (dq D_n_isGone_0_ok 6 rfl) (by decide) ?_
  refine q_land (pc := 9) (dq D_n_isGone_0_ok 7 rfl) ?_
  refine q_lconst (pc := 10) (v := 1) (dq D_n_isGone_0_ok 8 rfl) (by decide) ?_
  refine q_lcmp (pc := 11) (dq D_n_isGone_0_ok 9 rfl) ?_
  refine p_if_ne (pc := 12) 19 (dq D_n_isGone_0_ok 10 rfl) rfl ?_ ?_
  · refine q_ic0 (pc := 19) (dq D_n_isGone_0_ok 13 rfl) ?_
    exact r_retz (pc := 20) (dq D_n_isGone_0_ok 14 rfl) rfl
  · refine q_ic1 (pc := 15) (dq D_n_isGone_0_ok 11 rfl) ?_
    refine q_goto (pc := 16) 20 (dq D_n_isGone_0_ok 12 rfl) rfl ?_
    exact r_retz (pc := 20) (dq D_n_isGone_0_ok 14 rfl) rfl
noncomputable def b_n_manyGone_29 (k4 : (Nat × Int32 × Int32 × Int32) → Hp → Option (Int32 × Hp)) (v0 : Nat) (v1 : Int32) (v3 : Int32) (s0 : Int32) (s1 : Int32) (h : Hp) : Option (Int32 × Hp) := lt (s1 + s0 : Int32) fun y1 => k4 (v0, v1, y1, v3 + 1) h
set_option maxHeartbeats 4000000 in
set_option maxRecDepth 20000 in
theorem tb_n_manyGone_29 {G : GG} {k4 : (Nat × Int32 × Int32 × Int32) → Hp → Option (Int32 × Hp)} (hk4 : ∀ s h, T G M_n_manyGone 1 cI 4 [(0, .ref s.1), (1, .int s.2.1), (2, .int s.2.2.1), (3, .int s.2.2.2)] [] h (k4 s h)) (v0 : Nat) (v1 : Int32) (v3 : Int32) (s0 : Int32) (s1 : Int32) (h : Hp) : T G M_n_manyGone 1 cI 29 [(0, .ref v0), (1, .int v1), (3, .int v3)] [.int s0, .int s1] h (b_n_manyGone_29 k4 v0 v1 v3 s0 s1 h) := by
  unfold b_n_manyGone_29
  refine q_iadd (pc := 29) (dq D_n_manyGone_0_ok 19 rfl) ?_
  refine r_nmI (fun y1 => ?_)
  refine q_istore_n (pc := 30) (ls' := [(2, .int y1), (0, .ref v0), (1, .int v1), (3, .int v3)]) (dq D_n_manyGone_0_ok 20 rfl) rfl rfl rfl ?_
  refine q_iinc (pc := 31) (v := (1)) (ls' := [(3, .int (v3 + 1)), (2, .int y1), (0, .ref v0), (1, .int v1)]) (dq D_n_manyGone_0_ok 21 rfl) 3 rfl (by decide) rfl rfl ?_
  refine q_goto (pc := 34) 4 (dq D_n_manyGone_0_ok 22 rfl) rfl ?_
  exact T.lsub [2, 3, 1, 0] rfl (hk4 (v0, v1, y1, v3 + 1) h)
noncomputable def b_n_manyGone_4 (k4 : (Nat × Int32 × Int32 × Int32) → Hp → Option (Int32 × Hp)) (v0 : Nat) (v1 : Int32) (v2 : Int32) (v3 : Int32) (h : Hp) : Option (Int32 × Hp) := gd (hS h v0 = some (.inl 12)) (bR (hR h v0 11) fun x1 => gd (ai h x1 0 v1) (lt (hI h x1 v1.toNatClampNeg) fun x2 => if x2 ≤ v3 then (some (v2, h)) else (gd (hS h v0 = some (.inl 12)) (bd (f_n_isGone v0 v1 v3 h) fun r4 h3 => if r4 = 0 then (b_n_manyGone_29 k4 v0 v1 v3 0 v2 h3) else (b_n_manyGone_29 k4 v0 v1 v3 1 v2 h3)))))
set_option maxHeartbeats 4000000 in
set_option maxRecDepth 20000 in
theorem tb_n_manyGone_4 {G : GG} {k4 : (Nat × Int32 × Int32 × Int32) → Hp → Option (Int32 × Hp)} (hk4 : ∀ s h, T G M_n_manyGone 1 cI 4 [(0, .ref s.1), (1, .int s.2.1), (2, .int s.2.2.1), (3, .int s.2.2.2)] [] h (k4 s h)) (v0 : Nat) (v1 : Int32) (v2 : Int32) (v3 : Int32) (h : Hp) : T G M_n_manyGone 1 cI 4 [(0, .ref v0), (1, .int v1), (2, .int v2), (3, .int v3)] [] h (b_n_manyGone_4 k4 v0 v1 v2 v3 h) := by
  unfold b_n_manyGone_4
  refine q_iload_n (pc := 4) (dq D_n_manyGone_0_ok 4 rfl) rfl 3 rfl ?_
  refine q_aload_n (pc := 5) (dq D_n_manyGone_0_ok 5 rfl) rfl 0 rfl ?_
  refine q_getR (pc := 6) (dq D_n_manyGone_0_ok 6 rfl) fa_n_22 rfl (fun x1 => ?_)
  refine q_iload_n (pc := 9) (dq D_n_manyGone_0_ok 7 rfl) rfl 1 rfl ?_
  refine r_iald (pc := 10) (dq D_n_manyGone_0_ok 8 rfl) (fun x2 => ?_)
  refine q_ic_ge (pc := 11) 37 (dq D_n_manyGone_0_ok 9 rfl) rfl ?_ ?_
  · refine q_iload_n (pc := 37) (dq D_n_manyGone_0_ok 23 rfl) rfl 2 rfl ?_
    exact r_reti (pc := 38) (dq D_n_manyGone_0_ok 24 rfl) rfl
  · refine q_iload_n (pc := 14) (dq D_n_manyGone_0_ok 10 rfl) rfl 2 rfl ?_
    refine q_aload_n (pc := 15) (dq D_n_manyGone_0_ok 11 rfl) rfl 0 rfl ?_
    refine q_iload_n (pc := 16) (dq D_n_manyGone_0_ok 12 rfl) rfl 1 rfl ?_
    refine q_iload_n (pc := 17) (dq D_n_manyGone_0_ok 13 rfl) rfl 3 rfl ?_
    refine r_invI (Mc := M_n_isGone) (pc := 18) (ci := 12) (rest := [.int v2]) 0 2 [.int v1, .int v3] (dq D_n_manyGone_0_ok 14 rfl) rfl rfl lc_n_isGone lv_n_isGone_ ml_n_74 rfl rfl rfl rfl (t_n_isGone v0 v1 v3 h) (fun r4 h3 => ?_)
    refine p_if_eq (pc := 21) 28 (dq D_n_manyGone_0_ok 15 rfl) rfl ?_ ?_
    · refine q_ic0 (pc := 28) (dq D_n_manyGone_0_ok 18 rfl) ?_
      exact T.lsub [0, 1, 3] rfl (tb_n_manyGone_29 hk4 v0 v1 v3 0 v2 h3)
    · refine q_ic1 (pc := 24) (dq D_n_manyGone_0_ok 16 rfl) ?_
      refine q_goto (pc := 25) 29 (dq D_n_manyGone_0_ok 17 rfl) rfl ?_
      exact T.lsub [0, 1, 3] rfl (tb_n_manyGone_29 hk4 v0 v1 v3 1 v2 h3)
noncomputable def l_n_manyGone_4 : Nat → (Nat × Int32 × Int32 × Int32) → Hp → Option (Int32 × Hp) := lp (fun k4 s h => b_n_manyGone_4 k4 s.1 s.2.1 s.2.2.1 s.2.2.2 h)
set_option maxHeartbeats 4000000 in
set_option maxRecDepth 20000 in
theorem tl_n_manyGone_4 {G : GG} (n : Nat) (s : Nat × Int32 × Int32 × Int32) (h : Hp) : T G M_n_manyGone 1 cI 4 [(0, .ref s.1), (1, .int s.2.1), (2, .int s.2.2.1), (3, .int s.2.2.2)] [] h (l_n_manyGone_4 n s h) :=
  T.loop (lsOf := fun s => [(0, .ref s.1), (1, .int s.2.1), (2, .int s.2.2.1), (3, .int s.2.2.2)]) (fun k4 hk4 s h => tb_n_manyGone_4 hk4 s.1 s.2.1 s.2.2.1 s.2.2.2 h) n s h
noncomputable def f_n_manyGone (v0 : Nat) (v1 : Int32) (h : Hp) : Option (Int32 × Hp) := lt (0 : Int32) fun y1 => lt (0 : Int32) fun y2 => l_n_manyGone_4 FU (v0, v1, y1, y2) h
set_option maxHeartbeats 4000000 in
set_option maxRecDepth 20000 in
theorem t_n_manyGone {G : GG} (v0 : Nat) (v1 : Int32) (h : Hp) : Mt G M_n_manyGone 1 [.ref v0, .int v1] cI h (f_n_manyGone v0 v1 h) := by
  refine Mt.ofF (by decide +kernel) rfl (Rt.i rfl rfl) ?_
  show T G M_n_manyGone 1 cI 0 [(0, .ref v0), (1, .int v1)] [] h _
  unfold f_n_manyGone
  refine q_ic0 (pc := 0) (dq D_n_manyGone_0_ok 0 rfl) ?_
  refine r_nmI (fun y1 => ?_)
  refine q_istore_n (pc := 1) (ls' := [(2, .int y1), (0, .ref v0), (1, .int v1)]) (dq D_n_manyGone_0_ok 1 rfl) rfl rfl rfl ?_
  refine q_ic0 (pc := 2) (dq D_n_manyGone_0_ok 2 rfl) ?_
  refine r_nmI (fun y2 => ?_)
  refine q_istore_n (pc := 3) (ls' := [(3, .int y2), (2, .int y1), (0, .ref v0), (1, .int v1)]) (dq D_n_manyGone_0_ok 3 rfl) rfl rfl rfl ?_
  exact T.lsub [2, 3, 1, 0] rfl (tl_n_manyGone_4 FU (v0, v1, y1, y2) h)
noncomputable def b_m_readGone_124 (v0 : Nat) (v1 : Int32) (v2 : Int32) (h : Hp) : Option (Unit × Hp) := gd (hS h v0 = some (.inl 11)) (bd (f_m_goesOn v0 h) fun _ h1 => gd (hS h1 v0 = some (.inl 11)) (lt (hI h1 v0 9) fun x3 => if x3 = 6 then (some ((), h1)) else (gd (hS h1 v0 = some (.inl 11)) (bR (hR h1 v0 4) fun x4 => gd (hS h1 x4 = some (.inl 12)) (bR (hR h1 x4 14) fun x5 => gd (ai h1 x5 1 v1) (lt (hL h1 x5 v1.toNatClampNeg) fun x6 => gd (ai h1 x5 1 v1) (lt (uL h1 x5 v1.toNatClampNeg (x6 ||| ((1 : Int64) <<< (v2.toInt64 &&& 63)))) fun h7 => gd (hS h7 v0 = some (.inl 11)) (bR (hR h7 v0 4) fun x8 => gd (hS h7 x8 = some (.inl 12)) (lt (hI h7 x8 3) fun x9 => gd (hS h7 x8 = some (.inl 12)) (lt (uI h7 x8 3 (x9 + 1)) fun h10 => some ((), h10)))))))))))
set_option maxHeartbeats 4000000 in
set_option maxRecDepth 20000 in
theorem tb_m_readGone_124 {G : GG} (v0 : Nat) (v1 : Int32) (v2 : Int32) (h : Hp) : T G M_m_readGone 8 cU 124 [(0, .ref v0), (1, .int v1), (2, .int v2)] [] h (b_m_readGone_124 v0 v1 v2 h) := by
  unfold b_m_readGone_124
  refine q_aload_n (pc := 124) (dq D_m_readGone_1_ok 5 rfl) rfl 0 rfl ?_
  refine r_invU (Mc := M_m_goesOn) (pc := 125) (ci := 11) (rest := []) 1 0 [] (dq D_m_readGone_1_ok 6 rfl) rfl rfl lc_m_goesOn lv_m_goesOn_ ml_m_122 rfl rfl rfl rfl (t_m_goesOn v0 h) (fun _ h1 => ?_)
  refine q_aload_n (pc := 128) (dq D_m_readGone_1_ok 7 rfl) rfl 0 rfl ?_
  refine r_getI (pc := 129) (dq D_m_readGone_1_ok 8 rfl) fa_m_86 rfl (fun x3 => ?_)
  refine q_bipush (pc := 132) (v := 6) (dq D_m_readGone_1_ok 9 rfl) (by decide) ?_
  refine q_ic_ne (pc := 134) 138 (dq D_m_readGone_1_ok 10 rfl) rfl ?_ ?_
  · refine q_aload_n (pc := 138) (dq D_m_readGone_1_ok 12 rfl) rfl 0 rfl ?_
    refine q_getR (pc := 139) (dq D_m_readGone_1_ok 13 rfl) fa_m_166 rfl (fun x4 => ?_)
    refine q_getR (pc := 142) (dq D_m_readGone_1_ok 14 rfl) fa_m_284 rfl (fun x5 => ?_)
    refine q_iload_n (pc := 145) (dq D_m_readGone_1_ok 15 rfl) rfl 1 rfl ?_
    refine q_dup2 (pc := 146) (dq D_m_readGone_1_ok 16 rfl) rfl rfl ?_
    refine r_lald (pc := 147) (dq D_m_readGone_1_ok 17 rfl) (fun x6 => ?_)
    refine q_lconst (pc := 148) (v := 1) (dq D_m_readGone_1_ok 18 rfl) (by decide) ?_
    refine q_iload_n (pc := 149) (dq D_m_readGone_1_ok 19 rfl) rfl 2 rfl ?_
    refine q_lshl (pc := 150) (dq D_m_readGone_1_ok 20 rfl) ?_
    refine q_lor (pc := 151) (dq D_m_readGone_1_ok 21 rfl) ?_
    refine r_last (pc := 152) (dq D_m_readGone_1_ok 22 rfl) (fun h7 => ?_)
    refine q_aload_n (pc := 153) (dq D_m_readGone_1_ok 23 rfl) rfl 0 rfl ?_
    refine q_getR (pc := 154) (dq D_m_readGone_1_ok 24 rfl) fa_m_166 rfl (fun x8 => ?_)
    refine q_dup (pc := 157) (dq D_m_readGone_1_ok 25 rfl) rfl ?_
    refine r_getI (pc := 158) (dq D_m_readGone_1_ok 26 rfl) fa_m_286 rfl (fun x9 => ?_)
    refine q_ic1 (pc := 161) (dq D_m_readGone_1_ok 27 rfl) ?_
    refine q_iadd (pc := 162) (dq D_m_readGone_1_ok 28 rfl) ?_
    refine r_putI (pc := 163) (dq D_m_readGone_1_ok 29 rfl) fp_m_286 rfl rfl (fun h10 => ?_)
    exact r_retu (pc := 166) (dq D_m_readGone_1_ok 30 rfl) rfl
  · exact r_retu (pc := 137) (dq D_m_readGone_1_ok 11 rfl) rfl
noncomputable def b_m_readGone_94 (v0 : Nat) (v1 : Int32) (s0 : Int32) (s1 : Int32) (s2 : Nat) (h : Hp) : Option (Unit × Hp) := gd (hS h s2 = some (.inl 11)) (bd (f_m_wholeAtHand s2 s1 s0 h) fun r2 h1 => gd (hS h1 v0 = some (.inl 11)) (lt (hI h1 v0 9) fun x3 => if x3 = 6 then (b_m_readGone_124 v0 v1 r2 h1) else (gd (hS h1 v0 = some (.inl 11)) (bR (hR h1 v0 4) fun x4 => gd (hS h1 x4 = some (.inl 12)) (bd (f_n_isGone x4 v1 r2 h1) fun r6 h5 => if r6 = 0 then (b_m_readGone_124 v0 v1 r2 h5) else (gd (hS h5 v0 = some (.inl 11)) (bd (f_m_flaw v0 (3 : Int32) h5) fun _ h7 => b_m_readGone_124 v0 v1 r2 h7)))))))
set_option maxHeartbeats 4000000 in
set_option maxRecDepth 20000 in
theorem tb_m_readGone_94 {G : GG} (v0 : Nat) (v1 : Int32) (s0 : Int32) (s1 : Int32) (s2 : Nat) (h : Hp) : T G M_m_readGone 8 cU 94 [(0, .ref v0), (1, .int v1)] [.int s0, .int s1, .ref s2] h (b_m_readGone_94 v0 v1 s0 s1 s2 h) := by
  unfold b_m_readGone_94
  refine r_invI (Mc := M_m_wholeAtHand) (pc := 94) (ci := 11) (rest := []) 1 2 [.int s1, .int s0] (dq D_m_readGone_0_ok 50 rfl) rfl rfl lc_m_wholeAtHand lv_m_wholeAtHand_ ml_m_137 rfl rfl rfl rfl (t_m_wholeAtHand s2 s1 s0 h) (fun r2 h1 => ?_)
  refine q_istore_n (pc := 97) (ls' := [(2, .int r2), (0, .ref v0), (1, .int v1)]) (dq D_m_readGone_0_ok 51 rfl) rfl rfl rfl ?_
  refine q_aload_n (pc := 98) (dq D_m_readGone_0_ok 52 rfl) rfl 1 rfl ?_
  refine r_getI (pc := 99) (dq D_m_readGone_0_ok 53 rfl) fa_m_86 rfl (fun x3 => ?_)
  refine q_bipush (pc := 102) (v := 6) (dq D_m_readGone_0_ok 54 rfl) (by decide) ?_
  refine q_ic_eq (pc := 104) 124 (dq D_m_readGone_0_ok 55 rfl) rfl ?_ ?_
  · exact T.lsub [1, 2, 0] rfl (tb_m_readGone_124 v0 v1 r2 h1)
  · refine q_aload_n (pc := 107) (dq D_m_readGone_0_ok 56 rfl) rfl 1 rfl ?_
    refine q_getR (pc := 108) (dq D_m_readGone_0_ok 57 rfl) fa_m_166 rfl (fun x4 => ?_)
    refine q_iload_n (pc := 111) (dq D_m_readGone_0_ok 58 rfl) rfl 2 rfl ?_
    refine q_iload_n (pc := 112) (dq D_m_readGone_0_ok 59 rfl) rfl 0 rfl ?_
    refine r_invI (Mc := M_n_isGone) (pc := 113) (ci := 12) (rest := []) 0 2 [.int v1, .int r2] (dq D_m_readGone_1_ok 0 rfl) rfl rfl lc_n_isGone lv_n_isGone_ ml_m_280 rfl rfl rfl rfl (t_n_isGone x4 v1 r2 h1) (fun r6 h5 => ?_)
    refine p_if_eq (pc := 116) 124 (dq D_m_readGone_1_ok 1 rfl) rfl ?_ ?_
    · exact T.lsub [1, 2, 0] rfl (tb_m_readGone_124 v0 v1 r2 h5)
    · refine q_aload_n (pc := 119) (dq D_m_readGone_1_ok 2 rfl) rfl 1 rfl ?_
      refine q_ic3 (pc := 120) (dq D_m_readGone_1_ok 3 rfl) ?_
      refine r_invU (Mc := M_m_flaw) (pc := 121) (ci := 11) (rest := []) 0 1 [.int 3] (dq D_m_readGone_1_ok 4 rfl) rfl rfl lc_m_flaw lv_m_flaw_ ml_m_129 rfl rfl rfl rfl (t_m_flaw v0 (3 : Int32) h5) (fun _ h7 => ?_)
      exact T.lsub [1, 2, 0] rfl (tb_m_readGone_124 v0 v1 r2 h7)
noncomputable def b_m_readGone_64 (v0 : Nat) (v1 : Int32) (h : Hp) : Option (Unit × Hp) := gd (hS h v0 = some (.inl 11)) (bd (f_m_goesOn v0 h) fun _ h1 => gd (hS h1 v0 = some (.inl 11)) (lt (hI h1 v0 9) fun x3 => if x3 = 6 then (b_m_readGone_94 v0 v1 0 0 v0 h1) else (gd (hS h1 v0 = some (.inl 11)) (bR (hR h1 v0 4) fun x4 => gd (hS h1 x4 = some (.inl 12)) (bR (hR h1 x4 11) fun x5 => gd (ai h1 x5 0 v1) (lt (hI h1 x5 v1.toNatClampNeg) fun x6 => b_m_readGone_94 v0 v1 (x6 - 1) 0 v0 h1))))))
set_option maxHeartbeats 4000000 in
set_option maxRecDepth 20000 in
theorem tb_m_readGone_64 {G : GG} (v0 : Nat) (v1 : Int32) (h : Hp) : T G M_m_readGone 8 cU 64 [(0, .ref v0), (1, .int v1)] [] h (b_m_readGone_64 v0 v1 h) := by
  unfold b_m_readGone_64
  refine q_aload_n (pc := 64) (dq D_m_readGone_0_ok 33 rfl) rfl 0 rfl ?_
  refine r_invU (Mc := M_m_goesOn) (pc := 65) (ci := 11) (rest := []) 1 0 [] (dq D_m_readGone_0_ok 34 rfl) rfl rfl lc_m_goesOn lv_m_goesOn_ ml_m_122 rfl rfl rfl rfl (t_m_goesOn v0 h) (fun _ h1 => ?_)
  refine q_aload_n (pc := 68) (dq D_m_readGone_0_ok 35 rfl) rfl 0 rfl ?_
  refine q_ic0 (pc := 69) (dq D_m_readGone_0_ok 36 rfl) ?_
  refine q_aload_n (pc := 70) (dq D_m_readGone_0_ok 37 rfl) rfl 0 rfl ?_
  refine r_getI (pc := 71) (dq D_m_readGone_0_ok 38 rfl) fa_m_86 rfl (fun x3 => ?_)
  refine q_bipush (pc := 74) (v := 6) (dq D_m_readGone_0_ok 39 rfl) (by decide) ?_
  refine q_ic_ne (pc := 76) 83 (dq D_m_readGone_0_ok 40 rfl) rfl ?_ ?_
  · refine q_aload_n (pc := 83) (dq D_m_readGone_0_ok 43 rfl) rfl 0 rfl ?_
    refine q_getR (pc := 84) (dq D_m_readGone_0_ok 44 rfl) fa_m_166 rfl (fun x4 => ?_)
    refine q_getR (pc := 87) (dq D_m_readGone_0_ok 45 rfl) fa_m_269 rfl (fun x5 => ?_)
    refine q_iload_n (pc := 90) (dq D_m_readGone_0_ok 46 rfl) rfl 1 rfl ?_
    refine r_iald (pc := 91) (dq D_m_readGone_0_ok 47 rfl) (fun x6 => ?_)
    refine q_ic1 (pc := 92) (dq D_m_readGone_0_ok 48 rfl) ?_
    refine q_isub (pc := 93) (dq D_m_readGone_0_ok 49 rfl) ?_
    exact T.lsub [0, 1] rfl (tb_m_readGone_94 v0 v1 (x6 - 1) 0 v0 h1)
  · refine q_ic0 (pc := 79) (dq D_m_readGone_0_ok 41 rfl) ?_
    refine q_goto (pc := 80) 94 (dq D_m_readGone_0_ok 42 rfl) rfl ?_
    exact T.lsub [0, 1] rfl (tb_m_readGone_94 v0 v1 0 0 v0 h1)
noncomputable def b_m_readGone_38 (v0 : Nat) (v1 : Int32) (h : Hp) : Option (Unit × Hp) := gd (hS h v0 = some (.inl 11)) (lt (hI h v0 9) fun x1 => if x1 = 6 then (b_m_readGone_64 v0 v1 h) else (gd (hS h v0 = some (.inl 11)) (bR (hR h v0 4) fun x2 => gd (hS h x2 = some (.inl 12)) (lt (hI h x2 7) fun x3 => if x3 = v1 then (gd (hS h v0 = some (.inl 11)) (bd (f_m_flaw v0 (7 : Int32) h) fun _ h4 => b_m_readGone_64 v0 v1 h4)) else (b_m_readGone_64 v0 v1 h)))))
set_option maxHeartbeats 4000000 in
set_option maxRecDepth 20000 in
theorem tb_m_readGone_38 {G : GG} (v0 : Nat) (v1 : Int32) (h : Hp) : T G M_m_readGone 8 cU 38 [(0, .ref v0), (1, .int v1)] [] h (b_m_readGone_38 v0 v1 h) := by
  unfold b_m_readGone_38
  refine q_aload_n (pc := 38) (dq D_m_readGone_0_ok 21 rfl) rfl 0 rfl ?_
  refine r_getI (pc := 39) (dq D_m_readGone_0_ok 22 rfl) fa_m_86 rfl (fun x1 => ?_)
  refine q_bipush (pc := 42) (v := 6) (dq D_m_readGone_0_ok 23 rfl) (by decide) ?_
  refine q_ic_eq (pc := 44) 64 (dq D_m_readGone_0_ok 24 rfl) rfl ?_ ?_
  · exact T.lsub [0, 1] rfl (tb_m_readGone_64 v0 v1 h)
  · refine q_aload_n (pc := 47) (dq D_m_readGone_0_ok 25 rfl) rfl 0 rfl ?_
    refine q_getR (pc := 48) (dq D_m_readGone_0_ok 26 rfl) fa_m_166 rfl (fun x2 => ?_)
    refine r_getI (pc := 51) (dq D_m_readGone_0_ok 27 rfl) fa_m_278 rfl (fun x3 => ?_)
    refine q_iload_n (pc := 54) (dq D_m_readGone_0_ok 28 rfl) rfl 1 rfl ?_
    refine q_ic_ne (pc := 55) 64 (dq D_m_readGone_0_ok 29 rfl) rfl ?_ ?_
    · exact T.lsub [0, 1] rfl (tb_m_readGone_64 v0 v1 h)
    · refine q_aload_n (pc := 58) (dq D_m_readGone_0_ok 30 rfl) rfl 0 rfl ?_
      refine q_bipush (pc := 59) (v := 7) (dq D_m_readGone_0_ok 31 rfl) (by decide) ?_
      refine r_invU (Mc := M_m_flaw) (pc := 61) (ci := 11) (rest := []) 0 1 [.int 7] (dq D_m_readGone_0_ok 32 rfl) rfl rfl lc_m_flaw lv_m_flaw_ ml_m_129 rfl rfl rfl rfl (t_m_flaw v0 (7 : Int32) h) (fun _ h4 => ?_)
      exact T.lsub [0, 1] rfl (tb_m_readGone_64 v0 v1 h4)
noncomputable def f_m_readGone (v0 : Nat) (h : Hp) : Option (Unit × Hp) := gd (hS h v0 = some (.inl 11)) (bd (f_m_lineBegins v0 (0 : Int32) (1 : Int32) h) fun _ h1 => gd (hS h1 v0 = some (.inl 11)) (bd (f_m_knownOne v0 (0 : Int32) h1) fun r4 h3 => gd (hS h3 v0 = some (.inl 11)) (lt (hI h3 v0 9) fun x5 => if x5 = 6 then (b_m_readGone_38 v0 r4 h3) else (gd (hS h3 v0 = some (.inl 11)) (bR (hR h3 v0 4) fun x6 => gd (hS h3 x6 = some (.inl 12)) (bd (f_n_manyGone x6 r4 h3) fun r8 h7 => if r8 = 2 then (gd (hS h7 v0 = some (.inl 11)) (bd (f_m_flaw v0 (5 : Int32) h7) fun _ h9 => b_m_readGone_38 v0 r4 h9)) else (b_m_readGone_38 v0 r4 h7)))))))
set_option maxHeartbeats 4000000 in
set_option maxRecDepth 20000 in
theorem t_m_readGone {G : GG} (v0 : Nat) (h : Hp) : Mt G M_m_readGone 8 [.ref v0] cU h (f_m_readGone v0 h) := by
  refine Mt.ofF (by decide +kernel) rfl (Rt.v rfl rfl) ?_
  show T G M_m_readGone 8 cU 0 [(0, .ref v0)] [] h _
  unfold f_m_readGone
  refine q_aload_n (pc := 0) (dq D_m_readGone_0_ok 0 rfl) rfl 0 rfl ?_
  refine q_ic0 (pc := 1) (dq D_m_readGone_0_ok 1 rfl) ?_
  refine q_ic1 (pc := 2) (dq D_m_readGone_0_ok 2 rfl) ?_
  refine r_invU (Mc := M_m_lineBegins) (pc := 3) (ci := 11) (rest := []) 2 2 [.int 0, .int 1] (dq D_m_readGone_0_ok 3 rfl) rfl rfl lc_m_lineBegins lv_m_lineBegins_ ml_m_241 rfl rfl rfl rfl (t_m_lineBegins v0 (0 : Int32) (1 : Int32) h) (fun _ h1 => ?_)
  refine q_aload_n (pc := 6) (dq D_m_readGone_0_ok 4 rfl) rfl 0 rfl ?_
  refine q_ic0 (pc := 7) (dq D_m_readGone_0_ok 5 rfl) ?_
  refine r_invI (Mc := M_m_knownOne) (pc := 8) (ci := 11) (rest := []) 7 1 [.int 0] (dq D_m_readGone_0_ok 6 rfl) rfl rfl lc_m_knownOne lv_m_knownOne_ ml_m_196 rfl rfl rfl rfl (t_m_knownOne v0 (0 : Int32) h1) (fun r4 h3 => ?_)
  refine q_istore_n (pc := 11) (ls' := [(1, .int r4), (0, .ref v0)]) (dq D_m_readGone_0_ok 7 rfl) rfl rfl rfl ?_
  refine q_aload_n (pc := 12) (dq D_m_readGone_0_ok 8 rfl) rfl 1 rfl ?_
  refine r_getI (pc := 13) (dq D_m_readGone_0_ok 9 rfl) fa_m_86 rfl (fun x5 => ?_)
  refine q_bipush (pc := 16) (v := 6) (dq D_m_readGone_0_ok 10 rfl) (by decide) ?_
  refine q_ic_eq (pc := 18) 38 (dq D_m_readGone_0_ok 11 rfl) rfl ?_ ?_
  · exact T.lsub [1, 0] rfl (tb_m_readGone_38 v0 r4 h3)
  · refine q_aload_n (pc := 21) (dq D_m_readGone_0_ok 12 rfl) rfl 1 rfl ?_
    refine q_getR (pc := 22) (dq D_m_readGone_0_ok 13 rfl) fa_m_166 rfl (fun x6 => ?_)
    refine q_iload_n (pc := 25) (dq D_m_readGone_0_ok 14 rfl) rfl 0 rfl ?_
    refine r_invI (Mc := M_n_manyGone) (pc := 26) (ci := 12) (rest := []) 1 1 [.int r4] (dq D_m_readGone_0_ok 15 rfl) rfl rfl lc_n_manyGone lv_n_manyGone_ ml_m_275 rfl rfl rfl rfl (t_n_manyGone x6 r4 h3) (fun r8 h7 => ?_)
    refine q_ic2 (pc := 29) (dq D_m_readGone_0_ok 16 rfl) ?_
    refine q_ic_ne (pc := 30) 38 (dq D_m_readGone_0_ok 17 rfl) rfl ?_ ?_
    · exact T.lsub [1, 0] rfl (tb_m_readGone_38 v0 r4 h7)
    · refine q_aload_n (pc := 33) (dq D_m_readGone_0_ok 18 rfl) rfl 1 rfl ?_
      refine q_ic5 (pc := 34) (dq D_m_readGone_0_ok 19 rfl) ?_
      refine r_invU (Mc := M_m_flaw) (pc := 35) (ci := 11) (rest := []) 0 1 [.int 5] (dq D_m_readGone_0_ok 20 rfl) rfl rfl lc_m_flaw lv_m_flaw_ ml_m_129 rfl rfl rfl rfl (t_m_flaw v0 (5 : Int32) h7) (fun _ h9 => ?_)
      exact T.lsub [1, 0] rfl (tb_m_readGone_38 v0 r4 h9)
noncomputable def b_m_readFeast_101 (k31 : (Nat × Int64 × Int32 × Int32 × Int32) → Hp → Option (Unit × Hp)) (v0 : Nat) (v1 : Int64) (v3 : Int32) (v4 : Int32) (v6 : Int32) (s0 : Int32) (s1 : Int32) (s2 : Nat) (s3 : Nat) (h : Hp) : Option (Unit × Hp) := gd (hS h s3 = some (.inl 11)) (bd (f_m_readPart s3 s2 s1 s0 h) fun r2 h1 => gd (hS h1 v0 = some (.inl 11)) (lt (hI h1 v0 9) fun x3 => if x3 = 6 then (some ((), h1)) else (lt (v4 ||| ((1 : Int32) <<< (v6 &&& 31)) : Int32) fun y4 => gd (hS h1 v0 = some (.inl 11)) (bR (hR h1 v0 4) fun x5 => gd (hS h1 x5 = some (.inl 12)) (bR (hR h1 x5 15) fun x6 => gd (ai h1 x6 0 ((5 * v3) + v6)) (lt (uI h1 x6 ((5 * v3) + v6).toNatClampNeg r2) fun h7 => gd (hS h7 v0 = some (.inl 11)) (bd (f_m_eats v0 (5 : Int32) h7) fun r9 h8 => k31 (v0, v1, v3, y4, r9) h8)))))))
set_option maxHeartbeats 4000000 in
set_option maxRecDepth 20000 in
theorem tb_m_readFeast_101 {G : GG} {k31 : (Nat × Int64 × Int32 × Int32 × Int32) → Hp → Option (Unit × Hp)} (hk31 : ∀ s h, T G M_m_readFeast 8 cU 31 [(0, .ref s.1), (1, .long s.2.1), (3, .int s.2.2.1), (4, .int s.2.2.2.1), (5, .int s.2.2.2.2)] [] h (k31 s h)) (v0 : Nat) (v1 : Int64) (v3 : Int32) (v4 : Int32) (v6 : Int32) (s0 : Int32) (s1 : Int32) (s2 : Nat) (s3 : Nat) (h : Hp) : T G M_m_readFeast 8 cU 101 [(0, .ref v0), (1, .long v1), (3, .int v3), (4, .int v4), (6, .int v6)] [.int s0, .int s1, .ref (gT G s2), .ref s3] h (b_m_readFeast_101 k31 v0 v1 v3 v4 v6 s0 s1 s2 s3 h) := by
  unfold b_m_readFeast_101
  refine r_invI (Mc := M_m_readPart) (pc := 101) (ci := 11) (rest := []) 7 3 [.ref (gT G s2), .int s1, .int s0] (dq D_m_readFeast_0_ok 52 rfl) rfl rfl lc_m_readPart lv_m_readPart_ ml_m_233 rfl rfl rfl rfl (t_m_readPart s3 s2 s1 s0 h) (fun r2 h1 => ?_)
  refine q_istore (pc := 104) (ls' := [(7, .int r2), (0, .ref v0), (1, .long v1), (3, .int v3), (4, .int v4), (6, .int v6)]) (dq D_m_readFeast_0_ok 53 rfl) rfl rfl ?_
  refine q_aload_n (pc := 106) (dq D_m_readFeast_0_ok 54 rfl) rfl 1 rfl ?_
  refine r_getI (pc := 107) (dq D_m_readFeast_0_ok 55 rfl) fa_m_86 rfl (fun x3 => ?_)
  refine q_bipush (pc := 110) (v := 6) (dq D_m_readFeast_0_ok 56 rfl) (by decide) ?_
  refine q_ic_ne (pc := 112) 116 (dq D_m_readFeast_0_ok 57 rfl) rfl ?_ ?_
  · refine q_iload (pc := 116) (dq D_m_readFeast_0_ok 59 rfl) 4 rfl ?_
    refine q_ic1 (pc := 118) (dq D_m_readFeast_1_ok 0 rfl) ?_
    refine q_iload (pc := 119) (dq D_m_readFeast_1_ok 1 rfl) 5 rfl ?_
    refine q_ishl (pc := 121) (dq D_m_readFeast_1_ok 2 rfl) ?_
    refine q_ior (pc := 122) (dq D_m_readFeast_1_ok 3 rfl) ?_
    refine r_nmI (fun y4 => ?_)
    refine q_istore (pc := 123) (ls' := [(4, .int y4), (7, .int r2), (0, .ref v0), (1, .long v1), (3, .int v3), (6, .int v6)]) (dq D_m_readFeast_1_ok 4 rfl) rfl rfl ?_
    refine q_aload_n (pc := 125) (dq D_m_readFeast_1_ok 5 rfl) rfl 2 rfl ?_
    refine q_getR (pc := 126) (dq D_m_readFeast_1_ok 6 rfl) fa_m_166 rfl (fun x5 => ?_)
    refine q_getR (pc := 129) (dq D_m_readFeast_1_ok 7 rfl) fa_m_295 rfl (fun x6 => ?_)
    refine q_ic5 (pc := 132) (dq D_m_readFeast_1_ok 8 rfl) ?_
    refine q_iload_n (pc := 133) (dq D_m_readFeast_1_ok 9 rfl) rfl 4 rfl ?_
    refine q_imul (pc := 134) (dq D_m_readFeast_1_ok 10 rfl) ?_
    refine q_iload (pc := 135) (dq D_m_readFeast_1_ok 11 rfl) 5 rfl ?_
    refine q_iadd (pc := 137) (dq D_m_readFeast_1_ok 12 rfl) ?_
    refine q_iload (pc := 138) (dq D_m_readFeast_1_ok 13 rfl) 1 rfl ?_
    refine r_iast (pc := 140) (dq D_m_readFeast_1_ok 14 rfl) (fun h7 => ?_)
    refine q_aload_n (pc := 141) (dq D_m_readFeast_1_ok 15 rfl) rfl 2 rfl ?_
    refine q_ic5 (pc := 142) (dq D_m_readFeast_1_ok 16 rfl) ?_
    refine r_invI (Mc := M_m_eats) (pc := 143) (ci := 11) (rest := []) 2 1 [.int 5] (dq D_m_readFeast_1_ok 17 rfl) rfl rfl lc_m_eats lv_m_eats_ ml_m_202 rfl rfl rfl rfl (t_m_eats v0 (5 : Int32) h7) (fun r9 h8 => ?_)
    refine q_istore (pc := 146) (ls' := [(5, .int r9), (4, .int y4), (7, .int r2), (0, .ref v0), (1, .long v1), (3, .int v3), (6, .int v6)]) (dq D_m_readFeast_1_ok 18 rfl) rfl rfl ?_
    refine q_goto (pc := 148) 31 (dq D_m_readFeast_1_ok 19 rfl) rfl ?_
    exact T.lsub [3, 4, 5, 1, 0] rfl (hk31 (v0, v1, v3, y4, r9) h8)
  · exact r_retu (pc := 115) (dq D_m_readFeast_0_ok 58 rfl) rfl
noncomputable def b_m_readFeast_67 (k31 : (Nat × Int64 × Int32 × Int32 × Int32) → Hp → Option (Unit × Hp)) (v0 : Nat) (v1 : Int64) (v3 : Int32) (v4 : Int32) (v6 : Int32) (h : Hp) : Option (Unit × Hp) := gd (hS h v0 = some (.inl 11)) (bd (f_m_goesOn v0 h) fun _ h1 => gd (hS h1 v0 = some (.inl 11)) (lt (hI h1 v0 9) fun x3 => if x3 = 6 then (b_m_readFeast_101 k31 v0 v1 v3 v4 v6 0 0 18 v0 h1) else (gd (hS h1 v0 = some (.inl 11)) (bR (hR h1 v0 4) fun x4 => gd (hS h1 x4 = some (.inl 12)) (bR (hR h1 x4 11) fun x5 => gd (ai h1 x5 0 v6) (lt (hI h1 x5 v6.toNatClampNeg) fun x6 => b_m_readFeast_101 k31 v0 v1 v3 v4 v6 (x6 - 1) 0 18 v0 h1))))))
set_option maxHeartbeats 4000000 in
set_option maxRecDepth 20000 in
theorem tb_m_readFeast_67 {G : GG} {k31 : (Nat × Int64 × Int32 × Int32 × Int32) → Hp → Option (Unit × Hp)} (hk31 : ∀ s h, T G M_m_readFeast 8 cU 31 [(0, .ref s.1), (1, .long s.2.1), (3, .int s.2.2.1), (4, .int s.2.2.2.1), (5, .int s.2.2.2.2)] [] h (k31 s h)) (v0 : Nat) (v1 : Int64) (v3 : Int32) (v4 : Int32) (v6 : Int32) (h : Hp) : T G M_m_readFeast 8 cU 67 [(0, .ref v0), (1, .long v1), (3, .int v3), (4, .int v4), (6, .int v6)] [] h (b_m_readFeast_67 k31 v0 v1 v3 v4 v6 h) := by
  unfold b_m_readFeast_67
  refine q_aload_n (pc := 67) (dq D_m_readFeast_0_ok 34 rfl) rfl 0 rfl ?_
  refine r_invU (Mc := M_m_goesOn) (pc := 68) (ci := 11) (rest := []) 1 0 [] (dq D_m_readFeast_0_ok 35 rfl) rfl rfl lc_m_goesOn lv_m_goesOn_ ml_m_122 rfl rfl rfl rfl (t_m_goesOn v0 h) (fun _ h1 => ?_)
  refine q_aload_n (pc := 71) (dq D_m_readFeast_0_ok 36 rfl) rfl 0 rfl ?_
  refine r_ldsw (pc := 72) 18 (dq D_m_readFeast_0_ok 37 rfl) rfl rfl rfl ?_
  refine q_ic0 (pc := 75) (dq D_m_readFeast_0_ok 38 rfl) ?_
  refine q_aload_n (pc := 76) (dq D_m_readFeast_0_ok 39 rfl) rfl 0 rfl ?_
  refine r_getI (pc := 77) (dq D_m_readFeast_0_ok 40 rfl) fa_m_86 rfl (fun x3 => ?_)
  refine q_bipush (pc := 80) (v := 6) (dq D_m_readFeast_0_ok 41 rfl) (by decide) ?_
  refine q_ic_ne (pc := 82) 89 (dq D_m_readFeast_0_ok 42 rfl) rfl ?_ ?_
  · refine q_aload_n (pc := 89) (dq D_m_readFeast_0_ok 45 rfl) rfl 0 rfl ?_
    refine q_getR (pc := 90) (dq D_m_readFeast_0_ok 46 rfl) fa_m_166 rfl (fun x4 => ?_)
    refine q_getR (pc := 93) (dq D_m_readFeast_0_ok 47 rfl) fa_m_269 rfl (fun x5 => ?_)
    refine q_iload (pc := 96) (dq D_m_readFeast_0_ok 48 rfl) 4 rfl ?_
    refine r_iald (pc := 98) (dq D_m_readFeast_0_ok 49 rfl) (fun x6 => ?_)
    refine q_ic1 (pc := 99) (dq D_m_readFeast_0_ok 50 rfl) ?_
    refine q_isub (pc := 100) (dq D_m_readFeast_0_ok 51 rfl) ?_
    exact T.lsub [0, 1, 2, 3, 4] rfl (tb_m_readFeast_101 hk31 v0 v1 v3 v4 v6 (x6 - 1) 0 18 v0 h1)
  · refine q_ic0 (pc := 85) (dq D_m_readFeast_0_ok 43 rfl) ?_
    refine q_goto (pc := 86) 101 (dq D_m_readFeast_0_ok 44 rfl) rfl ?_
    exact T.lsub [0, 1, 2, 3, 4] rfl (tb_m_readFeast_101 hk31 v0 v1 v3 v4 v6 0 0 18 v0 h1)
noncomputable def b_m_readFeast_31 (k31 : (Nat × Int64 × Int32 × Int32 × Int32) → Hp → Option (Unit × Hp)) (v0 : Nat) (v1 : Int64) (v3 : Int32) (v4 : Int32) (v5 : Int32) (h : Hp) : Option (Unit × Hp) := if v5 = 0 then (gd (hS h v0 = some (.inl 11)) (bd (f_m_names v0 v1 (1 : Int32) v3 h) fun _ h1 => gd (hS h1 v0 = some (.inl 11)) (bR (hR h1 v0 4) fun x3 => gd (hS h1 x3 = some (.inl 12)) (bR (hR h1 x3 16) fun x4 => gd (ai h1 x4 0 v3) (lt (uI h1 x4 v3.toNatClampNeg v4) fun h5 => gd (hS h5 v0 = some (.inl 11)) (bR (hR h5 v0 4) fun x6 => gd (hS h5 x6 = some (.inl 12)) (lt (hI h5 x6 4) fun x7 => gd (hS h5 x6 = some (.inl 12)) (lt (uI h5 x6 4 (x7 + 1)) fun h8 => some ((), h8))))))))) else (gd (hS h v0 = some (.inl 11)) (bd (f_m_knownOne v0 (0 : Int32) h) fun r10 h9 => gd (hS h9 v0 = some (.inl 11)) (lt (hI h9 v0 9) fun x11 => if x11 = 6 then (b_m_readFeast_67 k31 v0 v1 v3 v4 r10 h9) else (bd (f_m_bit v4 r10 h9) fun r13 h12 => if r13 = 0 then (b_m_readFeast_67 k31 v0 v1 v3 v4 r10 h12) else (gd (hS h12 v0 = some (.inl 11)) (bd (f_m_flaw v0 (3 : Int32) h12) fun _ h14 => b_m_readFeast_67 k31 v0 v1 v3 v4 r10 h14))))))
set_option maxHeartbeats 4000000 in
set_option maxRecDepth 20000 in
theorem tb_m_readFeast_31 {G : GG} {k31 : (Nat × Int64 × Int32 × Int32 × Int32) → Hp → Option (Unit × Hp)} (hk31 : ∀ s h, T G M_m_readFeast 8 cU 31 [(0, .ref s.1), (1, .long s.2.1), (3, .int s.2.2.1), (4, .int s.2.2.2.1), (5, .int s.2.2.2.2)] [] h (k31 s h)) (v0 : Nat) (v1 : Int64) (v3 : Int32) (v4 : Int32) (v5 : Int32) (h : Hp) : T G M_m_readFeast 8 cU 31 [(0, .ref v0), (1, .long v1), (3, .int v3), (4, .int v4), (5, .int v5)] [] h (b_m_readFeast_31 k31 v0 v1 v3 v4 v5 h) := by
  unfold b_m_readFeast_31
  refine q_iload (pc := 31) (dq D_m_readFeast_0_ok 17 rfl) 4 rfl ?_
  refine p_if_eq (pc := 33) 151 (dq D_m_readFeast_0_ok 18 rfl) rfl ?_ ?_
  · refine q_aload_n (pc := 151) (dq D_m_readFeast_1_ok 20 rfl) rfl 0 rfl ?_
    refine q_lload_n (pc := 152) (dq D_m_readFeast_1_ok 21 rfl) rfl 1 rfl ?_
    refine q_ic1 (pc := 153) (dq D_m_readFeast_1_ok 22 rfl) ?_
    refine q_iload_n (pc := 154) (dq D_m_readFeast_1_ok 23 rfl) rfl 2 rfl ?_
    refine r_invU (Mc := M_m_names) (pc := 155) (ci := 11) (rest := []) 0 3 [.long v1, .int 1, .int v3] (dq D_m_readFeast_1_ok 24 rfl) rfl rfl lc_m_names lv_m_names_ ml_m_263 rfl rfl rfl rfl (t_m_names v0 v1 (1 : Int32) v3 h) (fun _ h1 => ?_)
    refine q_aload_n (pc := 158) (dq D_m_readFeast_1_ok 25 rfl) rfl 0 rfl ?_
    refine q_getR (pc := 159) (dq D_m_readFeast_1_ok 26 rfl) fa_m_166 rfl (fun x3 => ?_)
    refine q_getR (pc := 162) (dq D_m_readFeast_1_ok 27 rfl) fa_m_297 rfl (fun x4 => ?_)
    refine q_iload_n (pc := 165) (dq D_m_readFeast_1_ok 28 rfl) rfl 2 rfl ?_
    refine q_iload (pc := 166) (dq D_m_readFeast_1_ok 29 rfl) 3 rfl ?_
    refine r_iast (pc := 168) (dq D_m_readFeast_1_ok 30 rfl) (fun h5 => ?_)
    refine q_aload_n (pc := 169) (dq D_m_readFeast_1_ok 31 rfl) rfl 0 rfl ?_
    refine q_getR (pc := 170) (dq D_m_readFeast_1_ok 32 rfl) fa_m_166 rfl (fun x6 => ?_)
    refine q_dup (pc := 173) (dq D_m_readFeast_1_ok 33 rfl) rfl ?_
    refine r_getI (pc := 174) (dq D_m_readFeast_1_ok 34 rfl) fa_m_289 rfl (fun x7 => ?_)
    refine q_ic1 (pc := 177) (dq D_m_readFeast_1_ok 35 rfl) ?_
    refine q_iadd (pc := 178) (dq D_m_readFeast_1_ok 36 rfl) ?_
    refine r_putI (pc := 179) (dq D_m_readFeast_1_ok 37 rfl) fp_m_289 rfl rfl (fun h8 => ?_)
    exact r_retu (pc := 182) (dq D_m_readFeast_1_ok 38 rfl) rfl
  · refine q_aload_n (pc := 36) (dq D_m_readFeast_0_ok 19 rfl) rfl 0 rfl ?_
    refine q_ic0 (pc := 37) (dq D_m_readFeast_0_ok 20 rfl) ?_
    refine r_invI (Mc := M_m_knownOne) (pc := 38) (ci := 11) (rest := []) 7 1 [.int 0] (dq D_m_readFeast_0_ok 21 rfl) rfl rfl lc_m_knownOne lv_m_knownOne_ ml_m_196 rfl rfl rfl rfl (t_m_knownOne v0 (0 : Int32) h) (fun r10 h9 => ?_)
    refine q_istore (pc := 41) (ls' := [(6, .int r10), (0, .ref v0), (1, .long v1), (3, .int v3), (4, .int v4), (5, .int v5)]) (dq D_m_readFeast_0_ok 22 rfl) rfl rfl ?_
    refine q_aload_n (pc := 43) (dq D_m_readFeast_0_ok 23 rfl) rfl 1 rfl ?_
    refine r_getI (pc := 44) (dq D_m_readFeast_0_ok 24 rfl) fa_m_86 rfl (fun x11 => ?_)
    refine q_bipush (pc := 47) (v := 6) (dq D_m_readFeast_0_ok 25 rfl) (by decide) ?_
    refine q_ic_eq (pc := 49) 67 (dq D_m_readFeast_0_ok 26 rfl) rfl ?_ ?_
    · exact T.lsub [1, 2, 3, 4, 0] rfl (tb_m_readFeast_67 hk31 v0 v1 v3 v4 r10 h9)
    · refine q_iload (pc := 52) (dq D_m_readFeast_0_ok 27 rfl) 4 rfl ?_
      refine q_iload (pc := 54) (dq D_m_readFeast_0_ok 28 rfl) 0 rfl ?_
      refine r_insI (Mc := M_m_bit) (pc := 56) (rest := []) 0 2 [.int v4, .int r10] (dq D_m_readFeast_0_ok 29 rfl) lc_m_bit ls_m_bit ml_m_292 rfl rfl rfl rfl (t_m_bit v4 r10 h9) (fun r13 h12 => ?_)
      refine p_if_eq (pc := 59) 67 (dq D_m_readFeast_0_ok 30 rfl) rfl ?_ ?_
      · exact T.lsub [1, 2, 3, 4, 0] rfl (tb_m_readFeast_67 hk31 v0 v1 v3 v4 r10 h12)
      · refine q_aload_n (pc := 62) (dq D_m_readFeast_0_ok 31 rfl) rfl 1 rfl ?_
        refine q_ic3 (pc := 63) (dq D_m_readFeast_0_ok 32 rfl) ?_
        refine r_invU (Mc := M_m_flaw) (pc := 64) (ci := 11) (rest := []) 0 1 [.int 3] (dq D_m_readFeast_0_ok 33 rfl) rfl rfl lc_m_flaw lv_m_flaw_ ml_m_129 rfl rfl rfl rfl (t_m_flaw v0 (3 : Int32) h12) (fun _ h14 => ?_)
        exact T.lsub [1, 2, 3, 4, 0] rfl (tb_m_readFeast_67 hk31 v0 v1 v3 v4 r10 h14)
noncomputable def l_m_readFeast_31 : Nat → (Nat × Int64 × Int32 × Int32 × Int32) → Hp → Option (Unit × Hp) := lp (fun k31 s h => b_m_readFeast_31 k31 s.1 s.2.1 s.2.2.1 s.2.2.2.1 s.2.2.2.2 h)
set_option maxHeartbeats 4000000 in
set_option maxRecDepth 20000 in
theorem tl_m_readFeast_31 {G : GG} (n : Nat) (s : Nat × Int64 × Int32 × Int32 × Int32) (h : Hp) : T G M_m_readFeast 8 cU 31 [(0, .ref s.1), (1, .long s.2.1), (3, .int s.2.2.1), (4, .int s.2.2.2.1), (5, .int s.2.2.2.2)] [] h (l_m_readFeast_31 n s h) :=
  T.loop (lsOf := fun s => [(0, .ref s.1), (1, .long s.2.1), (3, .int s.2.2.1), (4, .int s.2.2.2.1), (5, .int s.2.2.2.2)]) (fun k31 hk31 s h => tb_m_readFeast_31 hk31 s.1 s.2.1 s.2.2.1 s.2.2.2.1 s.2.2.2.2 h) n s h
noncomputable def f_m_readFeast (v0 : Nat) (h : Hp) : Option (Unit × Hp) := gd (hS h v0 = some (.inl 11)) (bR (hR h v0 4) fun x1 => gd (hS h x1 = some (.inl 12)) (lt (hI h x1 4) fun x2 => gd (hS h v0 = some (.inl 11)) (bd (f_m_lineBegins v0 x2 (4 : Int32) h) fun _ h3 => gd (hS h3 v0 = some (.inl 11)) (bd (f_m_readFresh v0 h3) fun r6 h5 => gd (hS h5 v0 = some (.inl 11)) (bR (hR h5 v0 4) fun x7 => gd (hS h5 x7 = some (.inl 12)) (lt (hI h5 x7 4) fun x8 => lt (0 : Int32) fun y9 => lt (1 : Int32) fun y10 => l_m_readFeast_31 FU (v0, r6, x8, y9, y10) h5))))))
set_option maxHeartbeats 4000000 in
set_option maxRecDepth 20000 in
theorem t_m_readFeast {G : GG} (v0 : Nat) (h : Hp) : Mt G M_m_readFeast 8 [.ref v0] cU h (f_m_readFeast v0 h) := by
  refine Mt.ofF (by decide +kernel) rfl (Rt.v rfl rfl) ?_
  show T G M_m_readFeast 8 cU 0 [(0, .ref v0)] [] h _
  unfold f_m_readFeast
  refine q_aload_n (pc := 0) (dq D_m_readFeast_0_ok 0 rfl) rfl 0 rfl ?_
  refine q_aload_n (pc := 1) (dq D_m_readFeast_0_ok 1 rfl) rfl 0 rfl ?_
  refine q_getR (pc := 2) (dq D_m_readFeast_0_ok 2 rfl) fa_m_166 rfl (fun x1 => ?_)
  refine r_getI (pc := 5) (dq D_m_readFeast_0_ok 3 rfl) fa_m_289 rfl (fun x2 => ?_)
  refine q_ic4 (pc := 8) (dq D_m_readFeast_0_ok 4 rfl) ?_
  refine r_invU (Mc := M_m_lineBegins) (pc := 9) (ci := 11) (rest := []) 2 2 [.int x2, .int 4] (dq D_m_readFeast_0_ok 5 rfl) rfl rfl lc_m_lineBegins lv_m_lineBegins_ ml_m_241 rfl rfl rfl rfl (t_m_lineBegins v0 x2 (4 : Int32) h) (fun _ h3 => ?_)
  refine q_aload_n (pc := 12) (dq D_m_readFeast_0_ok 6 rfl) rfl 0 rfl ?_
  refine r_invL (Mc := M_m_readFresh) (pc := 13) (ci := 11) (rest := []) 7 0 [] (dq D_m_readFeast_0_ok 7 rfl) rfl rfl lc_m_readFresh lv_m_readFresh_ ml_m_245 rfl rfl rfl rfl (t_m_readFresh v0 h3) (fun r6 h5 => ?_)
  refine q_lstore_n (pc := 16) (ls' := [(1, .long r6), (0, .ref v0)]) (dq D_m_readFeast_0_ok 8 rfl) rfl rfl rfl ?_
  refine q_aload_n (pc := 17) (dq D_m_readFeast_0_ok 9 rfl) rfl 1 rfl ?_
  refine q_getR (pc := 18) (dq D_m_readFeast_0_ok 10 rfl) fa_m_166 rfl (fun x7 => ?_)
  refine r_getI (pc := 21) (dq D_m_readFeast_0_ok 11 rfl) fa_m_289 rfl (fun x8 => ?_)
  refine q_istore_n (pc := 24) (ls' := [(3, .int x8), (1, .long r6), (0, .ref v0)]) (dq D_m_readFeast_0_ok 12 rfl) rfl rfl rfl ?_
  refine q_ic0 (pc := 25) (dq D_m_readFeast_0_ok 13 rfl) ?_
  refine r_nmI (fun y9 => ?_)
  refine q_istore (pc := 26) (ls' := [(4, .int y9), (3, .int x8), (1, .long r6), (0, .ref v0)]) (dq D_m_readFeast_0_ok 14 rfl) rfl rfl ?_
  refine q_ic1 (pc := 28) (dq D_m_readFeast_0_ok 15 rfl) ?_
  refine r_nmI (fun y10 => ?_)
  refine q_istore (pc := 29) (ls' := [(5, .int y10), (4, .int y9), (3, .int x8), (1, .long r6), (0, .ref v0)]) (dq D_m_readFeast_0_ok 16 rfl) rfl rfl ?_
  exact T.lsub [4, 3, 2, 1, 0] rfl (tl_m_readFeast_31 FU (v0, r6, x8, y9, y10) h5)
noncomputable def f_m_readWork (v0 : Nat) (h : Hp) : Option (Unit × Hp) := gd (hS h v0 = some (.inl 11)) (bR (hR h v0 4) fun x1 => gd (hS h x1 = some (.inl 12)) (lt (hI h x1 5) fun x2 => gd (hS h v0 = some (.inl 11)) (bd (f_m_lineBegins v0 x2 (4 : Int32) h) fun _ h3 => gd (hS h3 v0 = some (.inl 11)) (bd (f_m_readFresh v0 h3) fun r6 h5 => gd (hS h5 v0 = some (.inl 11)) (bd (f_m_readPart v0 (19 : Nat) (1 : Int32) (99 : Int32) h5) fun r8 h7 => gd (hS h7 v0 = some (.inl 11)) (bd (f_m_readPart v0 (20 : Nat) (0 : Int32) (99 : Int32) h7) fun r10 h9 => gd (hS h9 v0 = some (.inl 11)) (bd (f_m_needs v0 (17 : Nat) h9) fun _ h11 => gd (hS h11 v0 = some (.inl 11)) (bd (f_m_readKnown v0 (1 : Int32) h11) fun r14 h13 => gd (hS h13 v0 = some (.inl 11)) (lt (hI h13 v0 9) fun x15 => if x15 = 6 then (some ((), h13)) else (gd (hS h13 v0 = some (.inl 11)) (bR (hR h13 v0 4) fun x16 => gd (hS h13 x16 = some (.inl 12)) (lt (hI h13 x16 5) fun x17 => gd (hS h13 v0 = some (.inl 11)) (bd (f_m_names v0 r6 (2 : Int32) x17 h13) fun _ h18 => gd (hS h18 v0 = some (.inl 11)) (bR (hR h18 v0 4) fun x20 => gd (hS h18 x20 = some (.inl 12)) (bR (hR h18 x20 19) fun x21 => gd (hS h18 v0 = some (.inl 11)) (bR (hR h18 v0 4) fun x22 => gd (hS h18 x22 = some (.inl 12)) (lt (hI h18 x22 5) fun x23 => gd (ai h18 x21 0 x23) (lt (uI h18 x21 x23.toNatClampNeg r8) fun h24 => gd (hS h24 v0 = some (.inl 11)) (bR (hR h24 v0 4) fun x25 => gd (hS h24 x25 = some (.inl 12)) (bR (hR h24 x25 20) fun x26 => gd (hS h24 v0 = some (.inl 11)) (bR (hR h24 v0 4) fun x27 => gd (hS h24 x27 = some (.inl 12)) (lt (hI h24 x27 5) fun x28 => gd (ai h24 x26 0 x28) (lt (uI h24 x26 x28.toNatClampNeg r10) fun h29 => gd (hS h29 v0 = some (.inl 11)) (bR (hR h29 v0 4) fun x30 => gd (hS h29 x30 = some (.inl 12)) (bR (hR h29 x30 21) fun x31 => gd (hS h29 v0 = some (.inl 11)) (bR (hR h29 v0 4) fun x32 => gd (hS h29 x32 = some (.inl 12)) (lt (hI h29 x32 5) fun x33 => gd (ai h29 x31 0 x33) (lt (uI h29 x31 x33.toNatClampNeg r14) fun h34 => gd (hS h34 v0 = some (.inl 11)) (bR (hR h34 v0 4) fun x35 => gd (hS h34 x35 = some (.inl 12)) (lt (hI h34 x35 5) fun x36 => gd (hS h34 x35 = some (.inl 12)) (lt (uI h34 x35 5 (x36 + 1)) fun h37 => some ((), h37))))))))))))))))))))))))))))))))
set_option maxHeartbeats 4000000 in
set_option maxRecDepth 20000 in
theorem t_m_readWork {G : GG} (v0 : Nat) (h : Hp) : Mt G M_m_readWork 9 [.ref v0] cU h (f_m_readWork v0 h) := by
  refine Mt.ofF (by decide +kernel) rfl (Rt.v rfl rfl) ?_
  show T G M_m_readWork 9 cU 0 [(0, .ref v0)] [] h _
  unfold f_m_readWork
  refine q_aload_n (pc := 0) (dq D_m_readWork_0_ok 0 rfl) rfl 0 rfl ?_
  refine q_aload_n (pc := 1) (dq D_m_readWork_0_ok 1 rfl) rfl 0 rfl ?_
  refine q_getR (pc := 2) (dq D_m_readWork_0_ok 2 rfl) fa_m_166 rfl (fun x1 => ?_)
  refine r_getI (pc := 5) (dq D_m_readWork_0_ok 3 rfl) fa_m_300 rfl (fun x2 => ?_)
  refine q_ic4 (pc := 8) (dq D_m_readWork_0_ok 4 rfl) ?_
  refine r_invU (Mc := M_m_lineBegins) (pc := 9) (ci := 11) (rest := []) 2 2 [.int x2, .int 4] (dq D_m_readWork_0_ok 5 rfl) rfl rfl lc_m_lineBegins lv_m_lineBegins_ ml_m_241 rfl rfl rfl rfl (t_m_lineBegins v0 x2 (4 : Int32) h) (fun _ h3 => ?_)
  refine q_aload_n (pc := 12) (dq D_m_readWork_0_ok 6 rfl) rfl 0 rfl ?_
  refine r_invL (Mc := M_m_readFresh) (pc := 13) (ci := 11) (rest := []) 7 0 [] (dq D_m_readWork_0_ok 7 rfl) rfl rfl lc_m_readFresh lv_m_readFresh_ ml_m_245 rfl rfl rfl rfl (t_m_readFresh v0 h3) (fun r6 h5 => ?_)
  refine q_lstore_n (pc := 16) (ls' := [(1, .long r6), (0, .ref v0)]) (dq D_m_readWork_0_ok 8 rfl) rfl rfl rfl ?_
  refine q_aload_n (pc := 17) (dq D_m_readWork_0_ok 9 rfl) rfl 1 rfl ?_
  refine r_ldsw (pc := 18) 19 (dq D_m_readWork_0_ok 10 rfl) rfl rfl rfl ?_
  refine q_ic1 (pc := 21) (dq D_m_readWork_0_ok 11 rfl) ?_
  refine q_bipush (pc := 22) (v := 99) (dq D_m_readWork_0_ok 12 rfl) (by decide) ?_
  refine r_invI (Mc := M_m_readPart) (pc := 24) (ci := 11) (rest := []) 7 3 [.ref (gT G 19), .int 1, .int 99] (dq D_m_readWork_0_ok 13 rfl) rfl rfl lc_m_readPart lv_m_readPart_ ml_m_233 rfl rfl rfl rfl (t_m_readPart v0 (19 : Nat) (1 : Int32) (99 : Int32) h5) (fun r8 h7 => ?_)
  refine q_istore_n (pc := 27) (ls' := [(3, .int r8), (1, .long r6), (0, .ref v0)]) (dq D_m_readWork_0_ok 14 rfl) rfl rfl rfl ?_
  refine q_aload_n (pc := 28) (dq D_m_readWork_0_ok 15 rfl) rfl 2 rfl ?_
  refine r_ldsw (pc := 29) 20 (dq D_m_readWork_0_ok 16 rfl) rfl rfl rfl ?_
  refine q_ic0 (pc := 32) (dq D_m_readWork_0_ok 17 rfl) ?_
  refine q_bipush (pc := 33) (v := 99) (dq D_m_readWork_0_ok 18 rfl) (by decide) ?_
  refine r_invI (Mc := M_m_readPart) (pc := 35) (ci := 11) (rest := []) 7 3 [.ref (gT G 20), .int 0, .int 99] (dq D_m_readWork_0_ok 19 rfl) rfl rfl lc_m_readPart lv_m_readPart_ ml_m_233 rfl rfl rfl rfl (t_m_readPart v0 (20 : Nat) (0 : Int32) (99 : Int32) h7) (fun r10 h9 => ?_)
  refine q_istore (pc := 38) (ls' := [(4, .int r10), (3, .int r8), (1, .long r6), (0, .ref v0)]) (dq D_m_readWork_0_ok 20 rfl) rfl rfl ?_
  refine q_aload_n (pc := 40) (dq D_m_readWork_0_ok 21 rfl) rfl 3 rfl ?_
  refine r_ldsw (pc := 41) 17 (dq D_m_readWork_0_ok 22 rfl) rfl rfl rfl ?_
  refine r_invU (Mc := M_m_needs) (pc := 44) (ci := 11) (rest := []) 6 1 [.ref (gT G 17)] (dq D_m_readWork_0_ok 23 rfl) rfl rfl lc_m_needs lv_m_needs_ ml_m_141 rfl rfl rfl rfl (t_m_needs v0 (17 : Nat) h9) (fun _ h11 => ?_)
  refine q_aload_n (pc := 47) (dq D_m_readWork_0_ok 24 rfl) rfl 3 rfl ?_
  refine q_ic1 (pc := 48) (dq D_m_readWork_0_ok 25 rfl) ?_
  refine r_invI (Mc := M_m_readKnown) (pc := 49) (ci := 11) (rest := []) 8 1 [.int 1] (dq D_m_readWork_0_ok 26 rfl) rfl rfl lc_m_readKnown lv_m_readKnown_ ml_m_307 rfl rfl rfl rfl (t_m_readKnown v0 (1 : Int32) h11) (fun r14 h13 => ?_)
  refine q_istore (pc := 52) (ls' := [(5, .int r14), (4, .int r10), (3, .int r8), (1, .long r6), (0, .ref v0)]) (dq D_m_readWork_0_ok 27 rfl) rfl rfl ?_
  refine q_aload_n (pc := 54) (dq D_m_readWork_0_ok 28 rfl) rfl 4 rfl ?_
  refine r_getI (pc := 55) (dq D_m_readWork_0_ok 29 rfl) fa_m_86 rfl (fun x15 => ?_)
  refine q_bipush (pc := 58) (v := 6) (dq D_m_readWork_0_ok 30 rfl) (by decide) ?_
  refine q_ic_ne (pc := 60) 64 (dq D_m_readWork_0_ok 31 rfl) rfl ?_ ?_
  · refine q_aload_n (pc := 64) (dq D_m_readWork_0_ok 33 rfl) rfl 4 rfl ?_
    refine q_lload_n (pc := 65) (dq D_m_readWork_0_ok 34 rfl) rfl 3 rfl ?_
    refine q_ic2 (pc := 66) (dq D_m_readWork_0_ok 35 rfl) ?_
    refine q_aload_n (pc := 67) (dq D_m_readWork_0_ok 36 rfl) rfl 4 rfl ?_
    refine q_getR (pc := 68) (dq D_m_readWork_0_ok 37 rfl) fa_m_166 rfl (fun x16 => ?_)
    refine r_getI (pc := 71) (dq D_m_readWork_0_ok 38 rfl) fa_m_300 rfl (fun x17 => ?_)
    refine r_invU (Mc := M_m_names) (pc := 74) (ci := 11) (rest := []) 0 3 [.long r6, .int 2, .int x17] (dq D_m_readWork_0_ok 39 rfl) rfl rfl lc_m_names lv_m_names_ ml_m_263 rfl rfl rfl rfl (t_m_names v0 r6 (2 : Int32) x17 h13) (fun _ h18 => ?_)
    refine q_aload_n (pc := 77) (dq D_m_readWork_0_ok 40 rfl) rfl 4 rfl ?_
    refine q_getR (pc := 78) (dq D_m_readWork_0_ok 41 rfl) fa_m_166 rfl (fun x20 => ?_)
    refine q_getR (pc := 81) (dq D_m_readWork_0_ok 42 rfl) fa_m_310 rfl (fun x21 => ?_)
    refine q_aload_n (pc := 84) (dq D_m_readWork_0_ok 43 rfl) rfl 4 rfl ?_
    refine q_getR (pc := 85) (dq D_m_readWork_0_ok 44 rfl) fa_m_166 rfl (fun x22 => ?_)
    refine r_getI (pc := 88) (dq D_m_readWork_0_ok 45 rfl) fa_m_300 rfl (fun x23 => ?_)
    refine q_iload_n (pc := 91) (dq D_m_readWork_0_ok 46 rfl) rfl 2 rfl ?_
    refine r_iast (pc := 92) (dq D_m_readWork_0_ok 47 rfl) (fun h24 => ?_)
    refine q_aload_n (pc := 93) (dq D_m_readWork_0_ok 48 rfl) rfl 4 rfl ?_
    refine q_getR (pc := 94) (dq D_m_readWork_0_ok 49 rfl) fa_m_166 rfl (fun x25 => ?_)
    refine q_getR (pc := 97) (dq D_m_readWork_0_ok 50 rfl) fa_m_312 rfl (fun x26 => ?_)
    refine q_aload_n (pc := 100) (dq D_m_readWork_0_ok 51 rfl) rfl 4 rfl ?_
    refine q_getR (pc := 101) (dq D_m_readWork_0_ok 52 rfl) fa_m_166 rfl (fun x27 => ?_)
    refine r_getI (pc := 104) (dq D_m_readWork_0_ok 53 rfl) fa_m_300 rfl (fun x28 => ?_)
    refine q_iload (pc := 107) (dq D_m_readWork_0_ok 54 rfl) 1 rfl ?_
    refine r_iast (pc := 109) (dq D_m_readWork_0_ok 55 rfl) (fun h29 => ?_)
    refine q_aload_n (pc := 110) (dq D_m_readWork_0_ok 56 rfl) rfl 4 rfl ?_
    refine q_getR (pc := 111) (dq D_m_readWork_0_ok 57 rfl) fa_m_166 rfl (fun x30 => ?_)
    refine q_getR (pc := 114) (dq D_m_readWork_0_ok 58 rfl) fa_m_314 rfl (fun x31 => ?_)
    refine q_aload_n (pc := 117) (dq D_m_readWork_0_ok 59 rfl) rfl 4 rfl ?_
    refine q_getR (pc := 118) (dq D_m_readWork_1_ok 0 rfl) fa_m_166 rfl (fun x32 => ?_)
    refine r_getI (pc := 121) (dq D_m_readWork_1_ok 1 rfl) fa_m_300 rfl (fun x33 => ?_)
    refine q_iload (pc := 124) (dq D_m_readWork_1_ok 2 rfl) 0 rfl ?_
    refine r_iast (pc := 126) (dq D_m_readWork_1_ok 3 rfl) (fun h34 => ?_)
    refine q_aload_n (pc := 127) (dq D_m_readWork_1_ok 4 rfl) rfl 4 rfl ?_
    refine q_getR (pc := 128) (dq D_m_readWork_1_ok 5 rfl) fa_m_166 rfl (fun x35 => ?_)
    refine q_dup (pc := 131) (dq D_m_readWork_1_ok 6 rfl) rfl ?_
    refine r_getI (pc := 132) (dq D_m_readWork_1_ok 7 rfl) fa_m_300 rfl (fun x36 => ?_)
    refine q_ic1 (pc := 135) (dq D_m_readWork_1_ok 8 rfl) ?_
    refine q_iadd (pc := 136) (dq D_m_readWork_1_ok 9 rfl) ?_
    refine r_putI (pc := 137) (dq D_m_readWork_1_ok 10 rfl) fp_m_300 rfl rfl (fun h37 => ?_)
    exact r_retu (pc := 140) (dq D_m_readWork_1_ok 11 rfl) rfl
  · exact r_retu (pc := 63) (dq D_m_readWork_0_ok 32 rfl) rfl
noncomputable def b_m_readSky_38 (v0 : Nat) (v1 : Int32) (h : Hp) : Option (Unit × Hp) := gd (hS h v0 = some (.inl 11)) (bd (f_m_goesOn v0 h) fun _ h1 => gd (hS h1 v0 = some (.inl 11)) (bd (f_m_readPart v0 (21 : Nat) (1 : Int32) (400 : Int32) h1) fun r4 h3 => gd (hS h3 v0 = some (.inl 11)) (bd (f_m_readPart v0 (22 : Nat) (0 : Int32) (400 : Int32) h3) fun r6 h5 => gd (hS h5 v0 = some (.inl 11)) (lt (hI h5 v0 9) fun x7 => if x7 = 6 then (some ((), h5)) else (gd (hS h5 v0 = some (.inl 11)) (bR (hR h5 v0 4) fun x8 => gd (hS h5 x8 = some (.inl 12)) (bR (hR h5 x8 17) fun x9 => gd (ai h5 x9 0 v1) (lt (uI h5 x9 v1.toNatClampNeg r4) fun h10 => gd (hS h10 v0 = some (.inl 11)) (bR (hR h10 v0 4) fun x11 => gd (hS h10 x11 = some (.inl 12)) (bR (hR h10 x11 18) fun x12 => gd (ai h10 x12 0 v1) (lt (uI h10 x12 v1.toNatClampNeg r6) fun h13 => gd (hS h13 v0 = some (.inl 11)) (bR (hR h13 v0 4) fun x14 => gd (hS h13 x14 = some (.inl 12)) (lt (hI h13 x14 6) fun x15 => gd (hS h13 x14 = some (.inl 12)) (lt (uI h13 x14 6 (x15 + 1)) fun h16 => some ((), h16)))))))))))))))
set_option maxHeartbeats 4000000 in
set_option maxRecDepth 20000 in
theorem tb_m_readSky_38 {G : GG} (v0 : Nat) (v1 : Int32) (h : Hp) : T G M_m_readSky 8 cU 38 [(0, .ref v0), (1, .int v1)] [] h (b_m_readSky_38 v0 v1 h) := by
  unfold b_m_readSky_38
  refine q_aload_n (pc := 38) (dq D_m_readSky_0_ok 21 rfl) rfl 0 rfl ?_
  refine r_invU (Mc := M_m_goesOn) (pc := 39) (ci := 11) (rest := []) 1 0 [] (dq D_m_readSky_0_ok 22 rfl) rfl rfl lc_m_goesOn lv_m_goesOn_ ml_m_122 rfl rfl rfl rfl (t_m_goesOn v0 h) (fun _ h1 => ?_)
  refine q_aload_n (pc := 42) (dq D_m_readSky_0_ok 23 rfl) rfl 0 rfl ?_
  refine r_ldsw (pc := 43) 21 (dq D_m_readSky_0_ok 24 rfl) rfl rfl rfl ?_
  refine q_ic1 (pc := 46) (dq D_m_readSky_0_ok 25 rfl) ?_
  refine q_sipush (pc := 47) (v := 400) (dq D_m_readSky_0_ok 26 rfl) (by decide) ?_
  refine r_invI (Mc := M_m_readPart) (pc := 50) (ci := 11) (rest := []) 7 3 [.ref (gT G 21), .int 1, .int 400] (dq D_m_readSky_0_ok 27 rfl) rfl rfl lc_m_readPart lv_m_readPart_ ml_m_233 rfl rfl rfl rfl (t_m_readPart v0 (21 : Nat) (1 : Int32) (400 : Int32) h1) (fun r4 h3 => ?_)
  refine q_istore_n (pc := 53) (ls' := [(2, .int r4), (0, .ref v0), (1, .int v1)]) (dq D_m_readSky_0_ok 28 rfl) rfl rfl rfl ?_
  refine q_aload_n (pc := 54) (dq D_m_readSky_0_ok 29 rfl) rfl 1 rfl ?_
  refine r_ldsw (pc := 55) 22 (dq D_m_readSky_0_ok 30 rfl) rfl rfl rfl ?_
  refine q_ic0 (pc := 58) (dq D_m_readSky_0_ok 31 rfl) ?_
  refine q_sipush (pc := 59) (v := 400) (dq D_m_readSky_0_ok 32 rfl) (by decide) ?_
  refine r_invI (Mc := M_m_readPart) (pc := 62) (ci := 11) (rest := []) 7 3 [.ref (gT G 22), .int 0, .int 400] (dq D_m_readSky_0_ok 33 rfl) rfl rfl lc_m_readPart lv_m_readPart_ ml_m_233 rfl rfl rfl rfl (t_m_readPart v0 (22 : Nat) (0 : Int32) (400 : Int32) h3) (fun r6 h5 => ?_)
  refine q_istore_n (pc := 65) (ls' := [(3, .int r6), (2, .int r4), (0, .ref v0), (1, .int v1)]) (dq D_m_readSky_0_ok 34 rfl) rfl rfl rfl ?_
  refine q_aload_n (pc := 66) (dq D_m_readSky_0_ok 35 rfl) rfl 2 rfl ?_
  refine r_getI (pc := 67) (dq D_m_readSky_0_ok 36 rfl) fa_m_86 rfl (fun x7 => ?_)
  refine q_bipush (pc := 70) (v := 6) (dq D_m_readSky_0_ok 37 rfl) (by decide) ?_
  refine q_ic_ne (pc := 72) 76 (dq D_m_readSky_0_ok 38 rfl) rfl ?_ ?_
  · refine q_aload_n (pc := 76) (dq D_m_readSky_0_ok 40 rfl) rfl 2 rfl ?_
    refine q_getR (pc := 77) (dq D_m_readSky_0_ok 41 rfl) fa_m_166 rfl (fun x8 => ?_)
    refine q_getR (pc := 80) (dq D_m_readSky_0_ok 42 rfl) fa_m_317 rfl (fun x9 => ?_)
    refine q_iload_n (pc := 83) (dq D_m_readSky_0_ok 43 rfl) rfl 3 rfl ?_
    refine q_iload_n (pc := 84) (dq D_m_readSky_0_ok 44 rfl) rfl 1 rfl ?_
    refine r_iast (pc := 85) (dq D_m_readSky_0_ok 45 rfl) (fun h10 => ?_)
    refine q_aload_n (pc := 86) (dq D_m_readSky_0_ok 46 rfl) rfl 2 rfl ?_
    refine q_getR (pc := 87) (dq D_m_readSky_0_ok 47 rfl) fa_m_166 rfl (fun x11 => ?_)
    refine q_getR (pc := 90) (dq D_m_readSky_0_ok 48 rfl) fa_m_323 rfl (fun x12 => ?_)
    refine q_iload_n (pc := 93) (dq D_m_readSky_0_ok 49 rfl) rfl 3 rfl ?_
    refine q_iload_n (pc := 94) (dq D_m_readSky_0_ok 50 rfl) rfl 0 rfl ?_
    refine r_iast (pc := 95) (dq D_m_readSky_0_ok 51 rfl) (fun h13 => ?_)
    refine q_aload_n (pc := 96) (dq D_m_readSky_0_ok 52 rfl) rfl 2 rfl ?_
    refine q_getR (pc := 97) (dq D_m_readSky_0_ok 53 rfl) fa_m_166 rfl (fun x14 => ?_)
    refine q_dup (pc := 100) (dq D_m_readSky_0_ok 54 rfl) rfl ?_
    refine r_getI (pc := 101) (dq D_m_readSky_0_ok 55 rfl) fa_m_325 rfl (fun x15 => ?_)
    refine q_ic1 (pc := 104) (dq D_m_readSky_0_ok 56 rfl) ?_
    refine q_iadd (pc := 105) (dq D_m_readSky_0_ok 57 rfl) ?_
    refine r_putI (pc := 106) (dq D_m_readSky_0_ok 58 rfl) fp_m_325 rfl rfl (fun h16 => ?_)
    exact r_retu (pc := 109) (dq D_m_readSky_0_ok 59 rfl) rfl
  · exact r_retu (pc := 75) (dq D_m_readSky_0_ok 39 rfl) rfl
noncomputable def f_m_readSky (v0 : Nat) (h : Hp) : Option (Unit × Hp) := gd (hS h v0 = some (.inl 11)) (bd (f_m_lineBegins v0 (0 : Int32) (1 : Int32) h) fun _ h1 => gd (hS h1 v0 = some (.inl 11)) (bd (f_m_knownOne v0 (1 : Int32) h1) fun r4 h3 => gd (hS h3 v0 = some (.inl 11)) (lt (hI h3 v0 9) fun x5 => if x5 = 6 then (b_m_readSky_38 v0 r4 h3) else (gd (hS h3 v0 = some (.inl 11)) (bR (hR h3 v0 4) fun x6 => gd (hS h3 x6 = some (.inl 12)) (bR (hR h3 x6 17) fun x7 => gd (ai h3 x7 0 r4) (lt (hI h3 x7 r4.toNatClampNeg) fun x8 => if x8 ≤ 0 then (b_m_readSky_38 v0 r4 h3) else (gd (hS h3 v0 = some (.inl 11)) (bd (f_m_flaw v0 (3 : Int32) h3) fun _ h9 => b_m_readSky_38 v0 r4 h9)))))))))
set_option maxHeartbeats 4000000 in
set_option maxRecDepth 20000 in
theorem t_m_readSky {G : GG} (v0 : Nat) (h : Hp) : Mt G M_m_readSky 8 [.ref v0] cU h (f_m_readSky v0 h) := by
  refine Mt.ofF (by decide +kernel) rfl (Rt.v rfl rfl) ?_
  show T G M_m_readSky 8 cU 0 [(0, .ref v0)] [] h _
  unfold f_m_readSky
  refine q_aload_n (pc := 0) (dq D_m_readSky_0_ok 0 rfl) rfl 0 rfl ?_
  refine q_ic0 (pc := 1) (dq D_m_readSky_0_ok 1 rfl) ?_
  refine q_ic1 (pc := 2) (dq D_m_readSky_0_ok 2 rfl) ?_
  refine r_invU (Mc := M_m_lineBegins) (pc := 3) (ci := 11) (rest := []) 2 2 [.int 0, .int 1] (dq D_m_readSky_0_ok 3 rfl) rfl rfl lc_m_lineBegins lv_m_lineBegins_ ml_m_241 rfl rfl rfl rfl (t_m_lineBegins v0 (0 : Int32) (1 : Int32) h) (fun _ h1 => ?_)
  refine q_aload_n (pc := 6) (dq D_m_readSky_0_ok 4 rfl) rfl 0 rfl ?_
  refine q_ic1 (pc := 7) (dq D_m_readSky_0_ok 5 rfl) ?_
  refine r_invI (Mc := M_m_knownOne) (pc := 8) (ci := 11) (rest := []) 7 1 [.int 1] (dq D_m_readSky_0_ok 6 rfl) rfl rfl lc_m_knownOne lv_m_knownOne_ ml_m_196 rfl rfl rfl rfl (t_m_knownOne v0 (1 : Int32) h1) (fun r4 h3 => ?_)
  refine q_istore_n (pc := 11) (ls' := [(1, .int r4), (0, .ref v0)]) (dq D_m_readSky_0_ok 7 rfl) rfl rfl rfl ?_
  refine q_aload_n (pc := 12) (dq D_m_readSky_0_ok 8 rfl) rfl 1 rfl ?_
  refine r_getI (pc := 13) (dq D_m_readSky_0_ok 9 rfl) fa_m_86 rfl (fun x5 => ?_)
  refine q_bipush (pc := 16) (v := 6) (dq D_m_readSky_0_ok 10 rfl) (by decide) ?_
  refine q_ic_eq (pc := 18) 38 (dq D_m_readSky_0_ok 11 rfl) rfl ?_ ?_
  · exact T.lsub [1, 0] rfl (tb_m_readSky_38 v0 r4 h3)
  · refine q_aload_n (pc := 21) (dq D_m_readSky_0_ok 12 rfl) rfl 1 rfl ?_
    refine q_getR (pc := 22) (dq D_m_readSky_0_ok 13 rfl) fa_m_166 rfl (fun x6 => ?_)
    refine q_getR (pc := 25) (dq D_m_readSky_0_ok 14 rfl) fa_m_317 rfl (fun x7 => ?_)
    refine q_iload_n (pc := 28) (dq D_m_readSky_0_ok 15 rfl) rfl 0 rfl ?_
    refine r_iald (pc := 29) (dq D_m_readSky_0_ok 16 rfl) (fun x8 => ?_)
    refine p_if_le (pc := 30) 38 (dq D_m_readSky_0_ok 17 rfl) rfl ?_ ?_
    · exact T.lsub [1, 0] rfl (tb_m_readSky_38 v0 r4 h3)
    · refine q_aload_n (pc := 33) (dq D_m_readSky_0_ok 18 rfl) rfl 1 rfl ?_
      refine q_ic3 (pc := 34) (dq D_m_readSky_0_ok 19 rfl) ?_
      refine r_invU (Mc := M_m_flaw) (pc := 35) (ci := 11) (rest := []) 0 1 [.int 3] (dq D_m_readSky_0_ok 20 rfl) rfl rfl lc_m_flaw lv_m_flaw_ ml_m_129 rfl rfl rfl rfl (t_m_flaw v0 (3 : Int32) h3) (fun _ h9 => ?_)
      exact T.lsub [1, 0] rfl (tb_m_readSky_38 v0 r4 h9)
noncomputable def b_m_readSuspect_57 (v0 : Nat) (v1 : Int32) (h : Hp) : Option (Unit × Hp) := gd (hS h v0 = some (.inl 11)) (bd (f_m_goesOn v0 h) fun _ h1 => gd (hS h1 v0 = some (.inl 11)) (lt (hI h1 v0 9) fun x3 => if x3 = 6 then (some ((), h1)) else (gd (hS h1 v0 = some (.inl 11)) (bR (hR h1 v0 4) fun x4 => gd (hS h1 x4 = some (.inl 12)) (lt (uI h1 x4 7 v1) fun h5 => some ((), h5))))))
set_option maxHeartbeats 4000000 in
set_option maxRecDepth 20000 in
theorem tb_m_readSuspect_57 {G : GG} (v0 : Nat) (v1 : Int32) (h : Hp) : T G M_m_readSuspect 8 cU 57 [(0, .ref v0), (1, .int v1)] [] h (b_m_readSuspect_57 v0 v1 h) := by
  unfold b_m_readSuspect_57
  refine q_aload_n (pc := 57) (dq D_m_readSuspect_0_ok 31 rfl) rfl 0 rfl ?_
  refine r_invU (Mc := M_m_goesOn) (pc := 58) (ci := 11) (rest := []) 1 0 [] (dq D_m_readSuspect_0_ok 32 rfl) rfl rfl lc_m_goesOn lv_m_goesOn_ ml_m_122 rfl rfl rfl rfl (t_m_goesOn v0 h) (fun _ h1 => ?_)
  refine q_aload_n (pc := 61) (dq D_m_readSuspect_0_ok 33 rfl) rfl 0 rfl ?_
  refine r_getI (pc := 62) (dq D_m_readSuspect_0_ok 34 rfl) fa_m_86 rfl (fun x3 => ?_)
  refine q_bipush (pc := 65) (v := 6) (dq D_m_readSuspect_0_ok 35 rfl) (by decide) ?_
  refine q_ic_eq (pc := 67) 78 (dq D_m_readSuspect_0_ok 36 rfl) rfl ?_ ?_
  · exact r_retu (pc := 78) (dq D_m_readSuspect_0_ok 41 rfl) rfl
  · refine q_aload_n (pc := 70) (dq D_m_readSuspect_0_ok 37 rfl) rfl 0 rfl ?_
    refine q_getR (pc := 71) (dq D_m_readSuspect_0_ok 38 rfl) fa_m_166 rfl (fun x4 => ?_)
    refine q_iload_n (pc := 74) (dq D_m_readSuspect_0_ok 39 rfl) rfl 1 rfl ?_
    refine r_putI (pc := 75) (dq D_m_readSuspect_0_ok 40 rfl) fp_m_278 rfl rfl (fun h5 => ?_)
    exact r_retu (pc := 78) (dq D_m_readSuspect_0_ok 41 rfl) rfl
noncomputable def b_m_readSuspect_16 (v0 : Nat) (h : Hp) : Option (Unit × Hp) := gd (hS h v0 = some (.inl 11)) (bd (f_m_lineBegins v0 (0 : Int32) (1 : Int32) h) fun _ h1 => gd (hS h1 v0 = some (.inl 11)) (bd (f_m_knownOne v0 (0 : Int32) h1) fun r4 h3 => gd (hS h3 v0 = some (.inl 11)) (lt (hI h3 v0 9) fun x5 => if x5 = 6 then (b_m_readSuspect_57 v0 r4 h3) else (gd (hS h3 v0 = some (.inl 11)) (bR (hR h3 v0 4) fun x6 => gd (hS h3 x6 = some (.inl 12)) (bR (hR h3 x6 14) fun x7 => gd (ai h3 x7 1 r4) (lt (hL h3 x7 r4.toNatClampNeg) fun x8 => if (lg_cmp x8 0) = 0 then (b_m_readSuspect_57 v0 r4 h3) else (gd (hS h3 v0 = some (.inl 11)) (bd (f_m_flaw v0 (7 : Int32) h3) fun _ h9 => b_m_readSuspect_57 v0 r4 h9)))))))))
set_option maxHeartbeats 4000000 in
set_option maxRecDepth 20000 in
theorem tb_m_readSuspect_16 {G : GG} (v0 : Nat) (h : Hp) : T G M_m_readSuspect 8 cU 16 [(0, .ref v0)] [] h (b_m_readSuspect_16 v0 h) := by
  unfold b_m_readSuspect_16
  refine q_aload_n (pc := 16) (dq D_m_readSuspect_0_ok 8 rfl) rfl 0 rfl ?_
  refine q_ic0 (pc := 17) (dq D_m_readSuspect_0_ok 9 rfl) ?_
  refine q_ic1 (pc := 18) (dq D_m_readSuspect_0_ok 10 rfl) ?_
  refine r_invU (Mc := M_m_lineBegins) (pc := 19) (ci := 11) (rest := []) 2 2 [.int 0, .int 1] (dq D_m_readSuspect_0_ok 11 rfl) rfl rfl lc_m_lineBegins lv_m_lineBegins_ ml_m_241 rfl rfl rfl rfl (t_m_lineBegins v0 (0 : Int32) (1 : Int32) h) (fun _ h1 => ?_)
  refine q_aload_n (pc := 22) (dq D_m_readSuspect_0_ok 12 rfl) rfl 0 rfl ?_
  refine q_ic0 (pc := 23) (dq D_m_readSuspect_0_ok 13 rfl) ?_
  refine r_invI (Mc := M_m_knownOne) (pc := 24) (ci := 11) (rest := []) 7 1 [.int 0] (dq D_m_readSuspect_0_ok 14 rfl) rfl rfl lc_m_knownOne lv_m_knownOne_ ml_m_196 rfl rfl rfl rfl (t_m_knownOne v0 (0 : Int32) h1) (fun r4 h3 => ?_)
  refine q_istore_n (pc := 27) (ls' := [(1, .int r4), (0, .ref v0)]) (dq D_m_readSuspect_0_ok 15 rfl) rfl rfl rfl ?_
  refine q_aload_n (pc := 28) (dq D_m_readSuspect_0_ok 16 rfl) rfl 1 rfl ?_
  refine r_getI (pc := 29) (dq D_m_readSuspect_0_ok 17 rfl) fa_m_86 rfl (fun x5 => ?_)
  refine q_bipush (pc := 32) (v := 6) (dq D_m_readSuspect_0_ok 18 rfl) (by decide) ?_
  refine q_ic_eq (pc := 34) 57 (dq D_m_readSuspect_0_ok 19 rfl) rfl ?_ ?_
  · exact T.lsub [1, 0] rfl (tb_m_readSuspect_57 v0 r4 h3)
  · refine q_aload_n (pc := 37) (dq D_m_readSuspect_0_ok 20 rfl) rfl 1 rfl ?_
    refine q_getR (pc := 38) (dq D_m_readSuspect_0_ok 21 rfl) fa_m_166 rfl (fun x6 => ?_)
    refine q_getR (pc := 41) (dq D_m_readSuspect_0_ok 22 rfl) fa_m_284 rfl (fun x7 => ?_)
    refine q_iload_n (pc := 44) (dq D_m_readSuspect_0_ok 23 rfl) rfl 0 rfl ?_
    refine r_lald (pc := 45) (dq D_m_readSuspect_0_ok 24 rfl) (fun x8 => ?_)
    refine q_lconst (pc := 46) (v := 0) (dq D_m_readSuspect_0_ok 25 rfl) (by decide) ?_
    refine q_lcmp (pc := 47) (dq D_m_readSuspect_0_ok 26 rfl) ?_
    refine p_if_eq (pc := 48) 57 (dq D_m_readSuspect_0_ok 27 rfl) rfl ?_ ?_
    · exact T.lsub [1, 0] rfl (tb_m_readSuspect_57 v0 r4 h3)
    · refine q_aload_n (pc := 51) (dq D_m_readSuspect_0_ok 28 rfl) rfl 1 rfl ?_
      refine q_bipush (pc := 52) (v := 7) (dq D_m_readSuspect_0_ok 29 rfl) (by decide) ?_
      refine r_invU (Mc := M_m_flaw) (pc := 54) (ci := 11) (rest := []) 0 1 [.int 7] (dq D_m_readSuspect_0_ok 30 rfl) rfl rfl lc_m_flaw lv_m_flaw_ ml_m_129 rfl rfl rfl rfl (t_m_flaw v0 (7 : Int32) h3) (fun _ h9 => ?_)
      exact T.lsub [1, 0] rfl (tb_m_readSuspect_57 v0 r4 h9)
noncomputable def f_m_readSuspect (v0 : Nat) (h : Hp) : Option (Unit × Hp) := gd (hS h v0 = some (.inl 11)) (bR (hR h v0 4) fun x1 => gd (hS h x1 = some (.inl 12)) (lt (hI h x1 7) fun x2 => if x2 = ((-1)) then (b_m_readSuspect_16 v0 h) else (gd (hS h v0 = some (.inl 11)) (bd (f_m_flaw v0 (3 : Int32) h) fun _ h3 => b_m_readSuspect_16 v0 h3))))
set_option maxHeartbeats 4000000 in
set_option maxRecDepth 20000 in
theorem t_m_readSuspect {G : GG} (v0 : Nat) (h : Hp) : Mt G M_m_readSuspect 8 [.ref v0] cU h (f_m_readSuspect v0 h) := by
  refine Mt.ofF (by decide +kernel) rfl (Rt.v rfl rfl) ?_
  show T G M_m_readSuspect 8 cU 0 [(0, .ref v0)] [] h _
  unfold f_m_readSuspect
  refine q_aload_n (pc := 0) (dq D_m_readSuspect_0_ok 0 rfl) rfl 0 rfl ?_
  refine q_getR (pc := 1) (dq D_m_readSuspect_0_ok 1 rfl) fa_m_166 rfl (fun x1 => ?_)
  refine r_getI (pc := 4) (dq D_m_readSuspect_0_ok 2 rfl) fa_m_278 rfl (fun x2 => ?_)
  refine q_icm1 (pc := 7) (dq D_m_readSuspect_0_ok 3 rfl) ?_
  refine q_ic_eq (pc := 8) 16 (dq D_m_readSuspect_0_ok 4 rfl) rfl ?_ ?_
  · exact T.lsub [0] rfl (tb_m_readSuspect_16 v0 h)
  · refine q_aload_n (pc := 11) (dq D_m_readSuspect_0_ok 5 rfl) rfl 0 rfl ?_
    refine q_ic3 (pc := 12) (dq D_m_readSuspect_0_ok 6 rfl) ?_
    refine r_invU (Mc := M_m_flaw) (pc := 13) (ci := 11) (rest := []) 0 1 [.int 3] (dq D_m_readSuspect_0_ok 7 rfl) rfl rfl lc_m_flaw lv_m_flaw_ ml_m_129 rfl rfl rfl rfl (t_m_flaw v0 (3 : Int32) h) (fun _ h3 => ?_)
    exact T.lsub [0] rfl (tb_m_readSuspect_16 v0 h3)
noncomputable def b_n_isSeen_2 (k2 : (Nat × Int32 × Int32) → Hp → Option (Int32 × Hp)) (v0 : Nat) (v1 : Int32) (v2 : Int32) (h : Hp) : Option (Int32 × Hp) := gd (hS h v0 = some (.inl 12)) (lt (hI h v0 8) fun x1 => if x1 ≤ v2 then (gd (zb 0) (some (0, h))) else (gd (hS h v0 = some (.inl 12)) (bR (hR h v0 22) fun x2 => gd (ai h x2 0 v2) (lt (hI h x2 v2.toNatClampNeg) fun x3 => if x3 = v1 then (gd (zb 1) (some (1, h))) else (k2 (v0, v1, v2 + 1) h)))))
set_option maxHeartbeats 4000000 in
set_option maxRecDepth 20000 in
theorem tb_n_isSeen_2 {G : GG} {k2 : (Nat × Int32 × Int32) → Hp → Option (Int32 × Hp)} (hk2 : ∀ s h, T G M_n_isSeen 0 cI 2 [(0, .ref s.1), (1, .int s.2.1), (2, .int s.2.2)] [] h (k2 s h)) (v0 : Nat) (v1 : Int32) (v2 : Int32) (h : Hp) : T G M_n_isSeen 0 cI 2 [(0, .ref v0), (1, .int v1), (2, .int v2)] [] h (b_n_isSeen_2 k2 v0 v1 v2 h) := by
  unfold b_n_isSeen_2
  refine q_iload_n (pc := 2) (dq D_n_isSeen_0_ok 2 rfl) rfl 2 rfl ?_
  refine q_aload_n (pc := 3) (dq D_n_isSeen_0_ok 3 rfl) rfl 0 rfl ?_
  refine r_getI (pc := 4) (dq D_n_isSeen_0_ok 4 rfl) fa_n_78 rfl (fun x1 => ?_)
  refine q_ic_ge (pc := 7) 28 (dq D_n_isSeen_0_ok 5 rfl) rfl ?_ ?_
  · refine q_ic0 (pc := 28) (dq D_n_isSeen_0_ok 16 rfl) ?_
    exact r_retz (pc := 29) (dq D_n_isSeen_0_ok 17 rfl) rfl
  · refine q_aload_n (pc := 10) (dq D_n_isSeen_0_ok 6 rfl) rfl 0 rfl ?_
    refine q_getR (pc := 11) (dq D_n_isSeen_0_ok 7 rfl) fa_n_56 rfl (fun x2 => ?_)
    refine q_iload_n (pc := 14) (dq D_n_isSeen_0_ok 8 rfl) rfl 2 rfl ?_
    refine r_iald (pc := 15) (dq D_n_isSeen_0_ok 9 rfl) (fun x3 => ?_)
    refine q_iload_n (pc := 16) (dq D_n_isSeen_0_ok 10 rfl) rfl 1 rfl ?_
    refine q_ic_ne (pc := 17) 22 (dq D_n_isSeen_0_ok 11 rfl) rfl ?_ ?_
    · refine q_iinc (pc := 22) (v := (1)) (ls' := [(2, .int (v2 + 1)), (0, .ref v0), (1, .int v1)]) (dq D_n_isSeen_0_ok 14 rfl) 2 rfl (by decide) rfl rfl ?_
      refine q_goto (pc := 25) 2 (dq D_n_isSeen_0_ok 15 rfl) rfl ?_
      exact T.lsub [1, 2, 0] rfl (hk2 (v0, v1, v2 + 1) h)
    · refine q_ic1 (pc := 20) (dq D_n_isSeen_0_ok 12 rfl) ?_
      exact r_retz (pc := 21) (dq D_n_isSeen_0_ok 13 rfl) rfl
noncomputable def l_n_isSeen_2 : Nat → (Nat × Int32 × Int32) → Hp → Option (Int32 × Hp) := lp (fun k2 s h => b_n_isSeen_2 k2 s.1 s.2.1 s.2.2 h)
set_option maxHeartbeats 4000000 in
set_option maxRecDepth 20000 in
theorem tl_n_isSeen_2 {G : GG} (n : Nat) (s : Nat × Int32 × Int32) (h : Hp) : T G M_n_isSeen 0 cI 2 [(0, .ref s.1), (1, .int s.2.1), (2, .int s.2.2)] [] h (l_n_isSeen_2 n s h) :=
  T.loop (lsOf := fun s => [(0, .ref s.1), (1, .int s.2.1), (2, .int s.2.2)]) (fun k2 hk2 s h => tb_n_isSeen_2 hk2 s.1 s.2.1 s.2.2 h) n s h
noncomputable def f_n_isSeen (v0 : Nat) (v1 : Int32) (h : Hp) : Option (Int32 × Hp) := lt (0 : Int32) fun y1 => l_n_isSeen_2 FU (v0, v1, y1) h
set_option maxHeartbeats 4000000 in
set_option maxRecDepth 20000 in
theorem t_n_isSeen {G : GG} (v0 : Nat) (v1 : Int32) (h : Hp) : Mt G M_n_isSeen 0 [.ref v0, .int v1] cI h (f_n_isSeen v0 v1 h) := by
  refine Mt.ofF (by decide +kernel) rfl (Rt.z rfl rfl) ?_
  show T G M_n_isSeen 0 cI 0 [(0, .ref v0), (1, .int v1)] [] h _
  unfold f_n_isSeen
  refine q_ic0 (pc := 0) (dq D_n_isSeen_0_ok 0 rfl) ?_
  refine r_nmI (fun y1 => ?_)
  refine q_istore_n (pc := 1) (ls' := [(2, .int y1), (0, .ref v0), (1, .int v1)]) (dq D_n_isSeen_0_ok 1 rfl) rfl rfl rfl ?_
  exact T.lsub [1, 2, 0] rfl (tl_n_isSeen_2 FU (v0, v1, y1) h)
noncomputable def b_m_readSeen_77 (v0 : Nat) (v1 : Int32) (v2 : Int32) (h : Hp) : Option (Unit × Hp) := gd (hS h v0 = some (.inl 11)) (bd (f_m_goesOn v0 h) fun _ h1 => gd (hS h1 v0 = some (.inl 11)) (lt (hI h1 v0 9) fun x3 => if x3 = 6 then (some ((), h1)) else (gd (hS h1 v0 = some (.inl 11)) (bR (hR h1 v0 4) fun x4 => gd (hS h1 x4 = some (.inl 12)) (bR (hR h1 x4 22) fun x5 => gd (hS h1 v0 = some (.inl 11)) (bR (hR h1 v0 4) fun x6 => gd (hS h1 x6 = some (.inl 12)) (lt (hI h1 x6 8) fun x7 => gd (ai h1 x5 0 x7) (lt (uI h1 x5 x7.toNatClampNeg v2) fun h8 => gd (hS h8 v0 = some (.inl 11)) (bR (hR h8 v0 4) fun x9 => gd (hS h8 x9 = some (.inl 12)) (bR (hR h8 x9 23) fun x10 => gd (hS h8 v0 = some (.inl 11)) (bR (hR h8 v0 4) fun x11 => gd (hS h8 x11 = some (.inl 12)) (lt (hI h8 x11 8) fun x12 => gd (ai h8 x10 0 x12) (lt (uI h8 x10 x12.toNatClampNeg v1) fun h13 => gd (hS h13 v0 = some (.inl 11)) (bR (hR h13 v0 4) fun x14 => gd (hS h13 x14 = some (.inl 12)) (lt (hI h13 x14 8) fun x15 => gd (hS h13 x14 = some (.inl 12)) (lt (uI h13 x14 8 (x15 + 1)) fun h16 => some ((), h16)))))))))))))))))
set_option maxHeartbeats 4000000 in
set_option maxRecDepth 20000 in
theorem tb_m_readSeen_77 {G : GG} (v0 : Nat) (v1 : Int32) (v2 : Int32) (h : Hp) : T G M_m_readSeen 7 cU 77 [(0, .ref v0), (1, .int v1), (2, .int v2)] [] h (b_m_readSeen_77 v0 v1 v2 h) := by
  unfold b_m_readSeen_77
  refine q_aload_n (pc := 77) (dq D_m_readSeen_0_ok 38 rfl) rfl 0 rfl ?_
  refine r_invU (Mc := M_m_goesOn) (pc := 78) (ci := 11) (rest := []) 1 0 [] (dq D_m_readSeen_0_ok 39 rfl) rfl rfl lc_m_goesOn lv_m_goesOn_ ml_m_122 rfl rfl rfl rfl (t_m_goesOn v0 h) (fun _ h1 => ?_)
  refine q_aload_n (pc := 81) (dq D_m_readSeen_0_ok 40 rfl) rfl 0 rfl ?_
  refine r_getI (pc := 82) (dq D_m_readSeen_0_ok 41 rfl) fa_m_86 rfl (fun x3 => ?_)
  refine q_bipush (pc := 85) (v := 6) (dq D_m_readSeen_0_ok 42 rfl) (by decide) ?_
  refine q_ic_ne (pc := 87) 91 (dq D_m_readSeen_0_ok 43 rfl) rfl ?_ ?_
  · refine q_aload_n (pc := 91) (dq D_m_readSeen_0_ok 45 rfl) rfl 0 rfl ?_
    refine q_getR (pc := 92) (dq D_m_readSeen_0_ok 46 rfl) fa_m_166 rfl (fun x4 => ?_)
    refine q_getR (pc := 95) (dq D_m_readSeen_0_ok 47 rfl) fa_m_336 rfl (fun x5 => ?_)
    refine q_aload_n (pc := 98) (dq D_m_readSeen_0_ok 48 rfl) rfl 0 rfl ?_
    refine q_getR (pc := 99) (dq D_m_readSeen_0_ok 49 rfl) fa_m_166 rfl (fun x6 => ?_)
    refine r_getI (pc := 102) (dq D_m_readSeen_0_ok 50 rfl) fa_m_328 rfl (fun x7 => ?_)
    refine q_iload_n (pc := 105) (dq D_m_readSeen_0_ok 51 rfl) rfl 2 rfl ?_
    refine r_iast (pc := 106) (dq D_m_readSeen_0_ok 52 rfl) (fun h8 => ?_)
    refine q_aload_n (pc := 107) (dq D_m_readSeen_0_ok 53 rfl) rfl 0 rfl ?_
    refine q_getR (pc := 108) (dq D_m_readSeen_0_ok 54 rfl) fa_m_166 rfl (fun x9 => ?_)
    refine q_getR (pc := 111) (dq D_m_readSeen_0_ok 55 rfl) fa_m_339 rfl (fun x10 => ?_)
    refine q_aload_n (pc := 114) (dq D_m_readSeen_0_ok 56 rfl) rfl 0 rfl ?_
    refine q_getR (pc := 115) (dq D_m_readSeen_0_ok 57 rfl) fa_m_166 rfl (fun x11 => ?_)
    refine r_getI (pc := 118) (dq D_m_readSeen_0_ok 58 rfl) fa_m_328 rfl (fun x12 => ?_)
    refine q_iload_n (pc := 121) (dq D_m_readSeen_0_ok 59 rfl) rfl 1 rfl ?_
    refine r_iast (pc := 122) (dq D_m_readSeen_1_ok 0 rfl) (fun h13 => ?_)
    refine q_aload_n (pc := 123) (dq D_m_readSeen_1_ok 1 rfl) rfl 0 rfl ?_
    refine q_getR (pc := 124) (dq D_m_readSeen_1_ok 2 rfl) fa_m_166 rfl (fun x14 => ?_)
    refine q_dup (pc := 127) (dq D_m_readSeen_1_ok 3 rfl) rfl ?_
    refine r_getI (pc := 128) (dq D_m_readSeen_1_ok 4 rfl) fa_m_328 rfl (fun x15 => ?_)
    refine q_ic1 (pc := 131) (dq D_m_readSeen_1_ok 5 rfl) ?_
    refine q_iadd (pc := 132) (dq D_m_readSeen_1_ok 6 rfl) ?_
    refine r_putI (pc := 133) (dq D_m_readSeen_1_ok 7 rfl) fp_m_328 rfl rfl (fun h16 => ?_)
    exact r_retu (pc := 136) (dq D_m_readSeen_1_ok 8 rfl) rfl
  · exact r_retu (pc := 90) (dq D_m_readSeen_0_ok 44 rfl) rfl
noncomputable def b_m_readSeen_33 (v0 : Nat) (v1 : Int32) (h : Hp) : Option (Unit × Hp) := gd (hS h v0 = some (.inl 11)) (bd (f_m_goesOn v0 h) fun _ h1 => gd (hS h1 v0 = some (.inl 11)) (bd (f_m_needs v0 (23 : Nat) h1) fun _ h3 => gd (hS h3 v0 = some (.inl 11)) (bd (f_m_wholeAtHand v0 (1 : Int32) (99 : Int32) h3) fun r6 h5 => gd (hS h5 v0 = some (.inl 11)) (lt (hI h5 v0 9) fun x7 => if x7 = 6 then (b_m_readSeen_77 v0 v1 r6 h5) else (gd (hS h5 v0 = some (.inl 11)) (bR (hR h5 v0 4) fun x8 => gd (hS h5 x8 = some (.inl 12)) (bd (f_n_isSeen x8 r6 h5) fun r10 h9 => if r10 = 0 then (b_m_readSeen_77 v0 v1 r6 h9) else (gd (hS h9 v0 = some (.inl 11)) (bd (f_m_flaw v0 (3 : Int32) h9) fun _ h11 => b_m_readSeen_77 v0 v1 r6 h11)))))))))
set_option maxHeartbeats 4000000 in
set_option maxRecDepth 20000 in
theorem tb_m_readSeen_33 {G : GG} (v0 : Nat) (v1 : Int32) (h : Hp) : T G M_m_readSeen 7 cU 33 [(0, .ref v0), (1, .int v1)] [] h (b_m_readSeen_33 v0 v1 h) := by
  unfold b_m_readSeen_33
  refine q_aload_n (pc := 33) (dq D_m_readSeen_0_ok 16 rfl) rfl 0 rfl ?_
  refine r_invU (Mc := M_m_goesOn) (pc := 34) (ci := 11) (rest := []) 1 0 [] (dq D_m_readSeen_0_ok 17 rfl) rfl rfl lc_m_goesOn lv_m_goesOn_ ml_m_122 rfl rfl rfl rfl (t_m_goesOn v0 h) (fun _ h1 => ?_)
  refine q_aload_n (pc := 37) (dq D_m_readSeen_0_ok 18 rfl) rfl 0 rfl ?_
  refine r_ldsw (pc := 38) 23 (dq D_m_readSeen_0_ok 19 rfl) rfl rfl rfl ?_
  refine r_invU (Mc := M_m_needs) (pc := 41) (ci := 11) (rest := []) 6 1 [.ref (gT G 23)] (dq D_m_readSeen_0_ok 20 rfl) rfl rfl lc_m_needs lv_m_needs_ ml_m_141 rfl rfl rfl rfl (t_m_needs v0 (23 : Nat) h1) (fun _ h3 => ?_)
  refine q_aload_n (pc := 44) (dq D_m_readSeen_0_ok 21 rfl) rfl 0 rfl ?_
  refine q_ic1 (pc := 45) (dq D_m_readSeen_0_ok 22 rfl) ?_
  refine q_bipush (pc := 46) (v := 99) (dq D_m_readSeen_0_ok 23 rfl) (by decide) ?_
  refine r_invI (Mc := M_m_wholeAtHand) (pc := 48) (ci := 11) (rest := []) 1 2 [.int 1, .int 99] (dq D_m_readSeen_0_ok 24 rfl) rfl rfl lc_m_wholeAtHand lv_m_wholeAtHand_ ml_m_137 rfl rfl rfl rfl (t_m_wholeAtHand v0 (1 : Int32) (99 : Int32) h3) (fun r6 h5 => ?_)
  refine q_istore_n (pc := 51) (ls' := [(2, .int r6), (0, .ref v0), (1, .int v1)]) (dq D_m_readSeen_0_ok 25 rfl) rfl rfl rfl ?_
  refine q_aload_n (pc := 52) (dq D_m_readSeen_0_ok 26 rfl) rfl 1 rfl ?_
  refine r_getI (pc := 53) (dq D_m_readSeen_0_ok 27 rfl) fa_m_86 rfl (fun x7 => ?_)
  refine q_bipush (pc := 56) (v := 6) (dq D_m_readSeen_0_ok 28 rfl) (by decide) ?_
  refine q_ic_eq (pc := 58) 77 (dq D_m_readSeen_0_ok 29 rfl) rfl ?_ ?_
  · exact T.lsub [1, 2, 0] rfl (tb_m_readSeen_77 v0 v1 r6 h5)
  · refine q_aload_n (pc := 61) (dq D_m_readSeen_0_ok 30 rfl) rfl 1 rfl ?_
    refine q_getR (pc := 62) (dq D_m_readSeen_0_ok 31 rfl) fa_m_166 rfl (fun x8 => ?_)
    refine q_iload_n (pc := 65) (dq D_m_readSeen_0_ok 32 rfl) rfl 0 rfl ?_
    refine r_invI (Mc := M_n_isSeen) (pc := 66) (ci := 12) (rest := []) 0 1 [.int r6] (dq D_m_readSeen_0_ok 33 rfl) rfl rfl lc_n_isSeen lv_n_isSeen_ ml_m_333 rfl rfl rfl rfl (t_n_isSeen x8 r6 h5) (fun r10 h9 => ?_)
    refine p_if_eq (pc := 69) 77 (dq D_m_readSeen_0_ok 34 rfl) rfl ?_ ?_
    · exact T.lsub [1, 2, 0] rfl (tb_m_readSeen_77 v0 v1 r6 h9)
    · refine q_aload_n (pc := 72) (dq D_m_readSeen_0_ok 35 rfl) rfl 1 rfl ?_
      refine q_ic3 (pc := 73) (dq D_m_readSeen_0_ok 36 rfl) ?_
      refine r_invU (Mc := M_m_flaw) (pc := 74) (ci := 11) (rest := []) 0 1 [.int 3] (dq D_m_readSeen_0_ok 37 rfl) rfl rfl lc_m_flaw lv_m_flaw_ ml_m_129 rfl rfl rfl rfl (t_m_flaw v0 (3 : Int32) h9) (fun _ h11 => ?_)
      exact T.lsub [1, 2, 0] rfl (tb_m_readSeen_77 v0 v1 r6 h11)
noncomputable def b_m_readSeen_16 (v0 : Nat) (v1 : Int32) (h : Hp) : Option (Unit × Hp) := gd (hS h v0 = some (.inl 11)) (bR (hR h v0 4) fun x1 => gd (hS h x1 = some (.inl 12)) (lt (hI h x1 7) fun x2 => if x2 = ((-1)) then (gd (hS h v0 = some (.inl 11)) (bd (f_m_flaw v0 (6 : Int32) h) fun _ h3 => b_m_readSeen_33 v0 v1 h3)) else (b_m_readSeen_33 v0 v1 h)))
set_option maxHeartbeats 4000000 in
set_option maxRecDepth 20000 in
theorem tb_m_readSeen_16 {G : GG} (v0 : Nat) (v1 : Int32) (h : Hp) : T G M_m_readSeen 7 cU 16 [(0, .ref v0), (1, .int v1)] [] h (b_m_readSeen_16 v0 v1 h) := by
  unfold b_m_readSeen_16
  refine q_aload_n (pc := 16) (dq D_m_readSeen_0_ok 8 rfl) rfl 0 rfl ?_
  refine q_getR (pc := 17) (dq D_m_readSeen_0_ok 9 rfl) fa_m_166 rfl (fun x1 => ?_)
  refine r_getI (pc := 20) (dq D_m_readSeen_0_ok 10 rfl) fa_m_278 rfl (fun x2 => ?_)
  refine q_icm1 (pc := 23) (dq D_m_readSeen_0_ok 11 rfl) ?_
  refine q_ic_ne (pc := 24) 33 (dq D_m_readSeen_0_ok 12 rfl) rfl ?_ ?_
  · exact T.lsub [0, 1] rfl (tb_m_readSeen_33 v0 v1 h)
  · refine q_aload_n (pc := 27) (dq D_m_readSeen_0_ok 13 rfl) rfl 0 rfl ?_
    refine q_bipush (pc := 28) (v := 6) (dq D_m_readSeen_0_ok 14 rfl) (by decide) ?_
    refine r_invU (Mc := M_m_flaw) (pc := 30) (ci := 11) (rest := []) 0 1 [.int 6] (dq D_m_readSeen_0_ok 15 rfl) rfl rfl lc_m_flaw lv_m_flaw_ ml_m_129 rfl rfl rfl rfl (t_m_flaw v0 (6 : Int32) h) (fun _ h3 => ?_)
    exact T.lsub [0, 1] rfl (tb_m_readSeen_33 v0 v1 h3)
noncomputable def f_m_readSeen (v0 : Nat) (v1 : Int32) (h : Hp) : Option (Unit × Hp) := gd (hS h v0 = some (.inl 11)) (bR (hR h v0 4) fun x1 => gd (hS h x1 = some (.inl 12)) (lt (hI h x1 8) fun x2 => if x2 = 5 then (gd (hS h v0 = some (.inl 11)) (bd (f_m_flaw v0 (5 : Int32) h) fun _ h3 => b_m_readSeen_16 v0 v1 h3)) else (b_m_readSeen_16 v0 v1 h)))
set_option maxHeartbeats 4000000 in
set_option maxRecDepth 20000 in
theorem t_m_readSeen {G : GG} (v0 : Nat) (v1 : Int32) (h : Hp) : Mt G M_m_readSeen 7 [.ref v0, .int v1] cU h (f_m_readSeen v0 v1 h) := by
  refine Mt.ofF (by decide +kernel) rfl (Rt.v rfl rfl) ?_
  show T G M_m_readSeen 7 cU 0 [(0, .ref v0), (1, .int v1)] [] h _
  unfold f_m_readSeen
  refine q_aload_n (pc := 0) (dq D_m_readSeen_0_ok 0 rfl) rfl 0 rfl ?_
  refine q_getR (pc := 1) (dq D_m_readSeen_0_ok 1 rfl) fa_m_166 rfl (fun x1 => ?_)
  refine r_getI (pc := 4) (dq D_m_readSeen_0_ok 2 rfl) fa_m_328 rfl (fun x2 => ?_)
  refine q_ic5 (pc := 7) (dq D_m_readSeen_0_ok 3 rfl) ?_
  refine q_ic_ne (pc := 8) 16 (dq D_m_readSeen_0_ok 4 rfl) rfl ?_ ?_
  · exact T.lsub [0, 1] rfl (tb_m_readSeen_16 v0 v1 h)
  · refine q_aload_n (pc := 11) (dq D_m_readSeen_0_ok 5 rfl) rfl 0 rfl ?_
    refine q_ic5 (pc := 12) (dq D_m_readSeen_0_ok 6 rfl) ?_
    refine r_invU (Mc := M_m_flaw) (pc := 13) (ci := 11) (rest := []) 0 1 [.int 5] (dq D_m_readSeen_0_ok 7 rfl) rfl rfl lc_m_flaw lv_m_flaw_ ml_m_129 rfl rfl rfl rfl (t_m_flaw v0 (5 : Int32) h) (fun _ h3 => ?_)
    exact T.lsub [0, 1] rfl (tb_m_readSeen_16 v0 v1 h3)
noncomputable def f_m_readLine (v0 : Nat) (h : Hp) : Option (Unit × Hp) := gd (hS h v0 = some (.inl 11)) (bd (f_m_isWord v0 (1 : Nat) h) fun r2 h1 => if r2 = 0 then (gd (hS h1 v0 = some (.inl 11)) (bd (f_m_isWord v0 (4 : Nat) h1) fun r4 h3 => if r4 = 0 then (gd (hS h3 v0 = some (.inl 11)) (bd (f_m_isWord v0 (5 : Nat) h3) fun r6 h5 => if r6 = 0 then (gd (hS h5 v0 = some (.inl 11)) (bd (f_m_isWord v0 (6 : Nat) h5) fun r8 h7 => if r8 = 0 then (gd (hS h7 v0 = some (.inl 11)) (bd (f_m_isWord v0 (7 : Nat) h7) fun r10 h9 => if r10 = 0 then (gd (hS h9 v0 = some (.inl 11)) (bd (f_m_isWord v0 (8 : Nat) h9) fun r12 h11 => if r12 = 0 then (gd (hS h11 v0 = some (.inl 11)) (bd (f_m_isWord v0 (9 : Nat) h11) fun r14 h13 => if r14 = 0 then (gd (hS h13 v0 = some (.inl 11)) (bd (f_m_isWord v0 (10 : Nat) h13) fun r16 h15 => if r16 = 0 then (gd (hS h15 v0 = some (.inl 11)) (bd (f_m_isWord v0 (11 : Nat) h15) fun r18 h17 => if r18 = 0 then (gd (hS h17 v0 = some (.inl 11)) (bd (f_m_flaw v0 (1 : Int32) h17) fun _ h19 => some ((), h19))) else (gd (hS h17 v0 = some (.inl 11)) (bd (f_m_readSeen v0 (0 : Int32) h17) fun _ h21 => some ((), h21))))) else (gd (hS h15 v0 = some (.inl 11)) (bd (f_m_readSeen v0 (1 : Int32) h15) fun _ h23 => some ((), h23))))) else (gd (hS h13 v0 = some (.inl 11)) (bd (f_m_readSuspect v0 h13) fun _ h25 => some ((), h25))))) else (gd (hS h11 v0 = some (.inl 11)) (bd (f_m_readSky v0 h11) fun _ h27 => some ((), h27))))) else (gd (hS h9 v0 = some (.inl 11)) (bd (f_m_readWork v0 h9) fun _ h29 => some ((), h29))))) else (gd (hS h7 v0 = some (.inl 11)) (bd (f_m_readFeast v0 h7) fun _ h31 => some ((), h31))))) else (gd (hS h5 v0 = some (.inl 11)) (bd (f_m_readGone v0 h5) fun _ h33 => some ((), h33))))) else (gd (hS h3 v0 = some (.inl 11)) (bd (f_m_readWheel v0 h3) fun _ h35 => some ((), h35))))) else (gd (hS h1 v0 = some (.inl 11)) (bd (f_m_readBrass v0 h1) fun _ h37 => some ((), h37))))
set_option maxHeartbeats 4000000 in
set_option maxRecDepth 20000 in
theorem t_m_readLine {G : GG} (v0 : Nat) (h : Hp) : Mt G M_m_readLine 10 [.ref v0] cU h (f_m_readLine v0 h) := by
  refine Mt.ofF (by decide +kernel) rfl (Rt.v rfl rfl) ?_
  show T G M_m_readLine 10 cU 0 [(0, .ref v0)] [] h _
  unfold f_m_readLine
  refine q_aload_n (pc := 0) (dq D_m_readLine_0_ok 0 rfl) rfl 0 rfl ?_
  refine r_lds (pc := 1) 1 (dq D_m_readLine_0_ok 1 rfl) rfl rfl rfl ?_
  refine r_invI (Mc := M_m_isWord) (pc := 3) (ci := 11) (rest := []) 5 1 [.ref (gT G 1)] (dq D_m_readLine_0_ok 2 rfl) rfl rfl lc_m_isWord lv_m_isWord_ ml_m_125 rfl rfl rfl rfl (t_m_isWord v0 (1 : Nat) h) (fun r2 h1 => ?_)
  refine p_if_eq (pc := 6) 16 (dq D_m_readLine_0_ok 3 rfl) rfl ?_ ?_
  · refine q_aload_n (pc := 16) (dq D_m_readLine_0_ok 7 rfl) rfl 0 rfl ?_
    refine r_lds (pc := 17) 4 (dq D_m_readLine_0_ok 8 rfl) rfl rfl rfl ?_
    refine r_invI (Mc := M_m_isWord) (pc := 19) (ci := 11) (rest := []) 5 1 [.ref (gT G 4)] (dq D_m_readLine_0_ok 9 rfl) rfl rfl lc_m_isWord lv_m_isWord_ ml_m_125 rfl rfl rfl rfl (t_m_isWord v0 (4 : Nat) h1) (fun r4 h3 => ?_)
    refine p_if_eq (pc := 22) 32 (dq D_m_readLine_0_ok 10 rfl) rfl ?_ ?_
    · refine q_aload_n (pc := 32) (dq D_m_readLine_0_ok 14 rfl) rfl 0 rfl ?_
      refine r_lds (pc := 33) 5 (dq D_m_readLine_0_ok 15 rfl) rfl rfl rfl ?_
      refine r_invI (Mc := M_m_isWord) (pc := 35) (ci := 11) (rest := []) 5 1 [.ref (gT G 5)] (dq D_m_readLine_0_ok 16 rfl) rfl rfl lc_m_isWord lv_m_isWord_ ml_m_125 rfl rfl rfl rfl (t_m_isWord v0 (5 : Nat) h3) (fun r6 h5 => ?_)
      refine p_if_eq (pc := 38) 48 (dq D_m_readLine_0_ok 17 rfl) rfl ?_ ?_
      · refine q_aload_n (pc := 48) (dq D_m_readLine_0_ok 21 rfl) rfl 0 rfl ?_
        refine r_lds (pc := 49) 6 (dq D_m_readLine_0_ok 22 rfl) rfl rfl rfl ?_
        refine r_invI (Mc := M_m_isWord) (pc := 51) (ci := 11) (rest := []) 5 1 [.ref (gT G 6)] (dq D_m_readLine_0_ok 23 rfl) rfl rfl lc_m_isWord lv_m_isWord_ ml_m_125 rfl rfl rfl rfl (t_m_isWord v0 (6 : Nat) h5) (fun r8 h7 => ?_)
        refine p_if_eq (pc := 54) 64 (dq D_m_readLine_0_ok 24 rfl) rfl ?_ ?_
        · refine q_aload_n (pc := 64) (dq D_m_readLine_0_ok 28 rfl) rfl 0 rfl ?_
          refine r_lds (pc := 65) 7 (dq D_m_readLine_0_ok 29 rfl) rfl rfl rfl ?_
          refine r_invI (Mc := M_m_isWord) (pc := 67) (ci := 11) (rest := []) 5 1 [.ref (gT G 7)] (dq D_m_readLine_0_ok 30 rfl) rfl rfl lc_m_isWord lv_m_isWord_ ml_m_125 rfl rfl rfl rfl (t_m_isWord v0 (7 : Nat) h7) (fun r10 h9 => ?_)
          refine p_if_eq (pc := 70) 80 (dq D_m_readLine_0_ok 31 rfl) rfl ?_ ?_
          · refine q_aload_n (pc := 80) (dq D_m_readLine_0_ok 35 rfl) rfl 0 rfl ?_
            refine r_lds (pc := 81) 8 (dq D_m_readLine_0_ok 36 rfl) rfl rfl rfl ?_
            refine r_invI (Mc := M_m_isWord) (pc := 83) (ci := 11) (rest := []) 5 1 [.ref (gT G 8)] (dq D_m_readLine_0_ok 37 rfl) rfl rfl lc_m_isWord lv_m_isWord_ ml_m_125 rfl rfl rfl rfl (t_m_isWord v0 (8 : Nat) h9) (fun r12 h11 => ?_)
            refine p_if_eq (pc := 86) 96 (dq D_m_readLine_0_ok 38 rfl) rfl ?_ ?_
            · refine q_aload_n (pc := 96) (dq D_m_readLine_0_ok 42 rfl) rfl 0 rfl ?_
              refine r_lds (pc := 97) 9 (dq D_m_readLine_0_ok 43 rfl) rfl rfl rfl ?_
              refine r_invI (Mc := M_m_isWord) (pc := 99) (ci := 11) (rest := []) 5 1 [.ref (gT G 9)] (dq D_m_readLine_0_ok 44 rfl) rfl rfl lc_m_isWord lv_m_isWord_ ml_m_125 rfl rfl rfl rfl (t_m_isWord v0 (9 : Nat) h11) (fun r14 h13 => ?_)
              refine p_if_eq (pc := 102) 112 (dq D_m_readLine_0_ok 45 rfl) rfl ?_ ?_
              · refine q_aload_n (pc := 112) (dq D_m_readLine_0_ok 49 rfl) rfl 0 rfl ?_
                refine r_lds (pc := 113) 10 (dq D_m_readLine_0_ok 50 rfl) rfl rfl rfl ?_
                refine r_invI (Mc := M_m_isWord) (pc := 115) (ci := 11) (rest := []) 5 1 [.ref (gT G 10)] (dq D_m_readLine_0_ok 51 rfl) rfl rfl lc_m_isWord lv_m_isWord_ ml_m_125 rfl rfl rfl rfl (t_m_isWord v0 (10 : Nat) h13) (fun r16 h15 => ?_)
                refine p_if_eq (pc := 118) 129 (dq D_m_readLine_0_ok 52 rfl) rfl ?_ ?_
                · refine q_aload_n (pc := 129) (dq D_m_readLine_0_ok 57 rfl) rfl 0 rfl ?_
                  refine r_lds (pc := 130) 11 (dq D_m_readLine_0_ok 58 rfl) rfl rfl rfl ?_
                  refine r_invI (Mc := M_m_isWord) (pc := 132) (ci := 11) (rest := []) 5 1 [.ref (gT G 11)] (dq D_m_readLine_0_ok 59 rfl) rfl rfl lc_m_isWord lv_m_isWord_ ml_m_125 rfl rfl rfl rfl (t_m_isWord v0 (11 : Nat) h15) (fun r18 h17 => ?_)
                  refine p_if_eq (pc := 135) 146 (dq D_m_readLine_1_ok 0 rfl) rfl ?_ ?_
                  · refine q_aload_n (pc := 146) (dq D_m_readLine_1_ok 5 rfl) rfl 0 rfl ?_
                    refine q_ic1 (pc := 147) (dq D_m_readLine_1_ok 6 rfl) ?_
                    refine r_invU (Mc := M_m_flaw) (pc := 148) (ci := 11) (rest := []) 0 1 [.int 1] (dq D_m_readLine_1_ok 7 rfl) rfl rfl lc_m_flaw lv_m_flaw_ ml_m_129 rfl rfl rfl rfl (t_m_flaw v0 (1 : Int32) h17) (fun _ h19 => ?_)
                    exact r_retu (pc := 151) (dq D_m_readLine_1_ok 8 rfl) rfl
                  · refine q_aload_n (pc := 138) (dq D_m_readLine_1_ok 1 rfl) rfl 0 rfl ?_
                    refine q_ic0 (pc := 139) (dq D_m_readLine_1_ok 2 rfl) ?_
                    refine r_invU (Mc := M_m_readSeen) (pc := 140) (ci := 11) (rest := []) 7 1 [.int 0] (dq D_m_readLine_1_ok 3 rfl) rfl rfl lc_m_readSeen lv_m_readSeen_ ml_m_229 rfl rfl rfl rfl (t_m_readSeen v0 (0 : Int32) h17) (fun _ h21 => ?_)
                    refine q_goto (pc := 143) 151 (dq D_m_readLine_1_ok 4 rfl) rfl ?_
                    exact r_retu (pc := 151) (dq D_m_readLine_1_ok 8 rfl) rfl
                · refine q_aload_n (pc := 121) (dq D_m_readLine_0_ok 53 rfl) rfl 0 rfl ?_
                  refine q_ic1 (pc := 122) (dq D_m_readLine_0_ok 54 rfl) ?_
                  refine r_invU (Mc := M_m_readSeen) (pc := 123) (ci := 11) (rest := []) 7 1 [.int 1] (dq D_m_readLine_0_ok 55 rfl) rfl rfl lc_m_readSeen lv_m_readSeen_ ml_m_229 rfl rfl rfl rfl (t_m_readSeen v0 (1 : Int32) h15) (fun _ h23 => ?_)
                  refine q_goto (pc := 126) 151 (dq D_m_readLine_0_ok 56 rfl) rfl ?_
                  exact r_retu (pc := 151) (dq D_m_readLine_1_ok 8 rfl) rfl
              · refine q_aload_n (pc := 105) (dq D_m_readLine_0_ok 46 rfl) rfl 0 rfl ?_
                refine r_invU (Mc := M_m_readSuspect) (pc := 106) (ci := 11) (rest := []) 8 0 [] (dq D_m_readLine_0_ok 47 rfl) rfl rfl lc_m_readSuspect lv_m_readSuspect_ ml_m_226 rfl rfl rfl rfl (t_m_readSuspect v0 h13) (fun _ h25 => ?_)
                refine q_goto (pc := 109) 151 (dq D_m_readLine_0_ok 48 rfl) rfl ?_
                exact r_retu (pc := 151) (dq D_m_readLine_1_ok 8 rfl) rfl
            · refine q_aload_n (pc := 89) (dq D_m_readLine_0_ok 39 rfl) rfl 0 rfl ?_
              refine r_invU (Mc := M_m_readSky) (pc := 90) (ci := 11) (rest := []) 8 0 [] (dq D_m_readLine_0_ok 40 rfl) rfl rfl lc_m_readSky lv_m_readSky_ ml_m_223 rfl rfl rfl rfl (t_m_readSky v0 h11) (fun _ h27 => ?_)
              refine q_goto (pc := 93) 151 (dq D_m_readLine_0_ok 41 rfl) rfl ?_
              exact r_retu (pc := 151) (dq D_m_readLine_1_ok 8 rfl) rfl
          · refine q_aload_n (pc := 73) (dq D_m_readLine_0_ok 32 rfl) rfl 0 rfl ?_
            refine r_invU (Mc := M_m_readWork) (pc := 74) (ci := 11) (rest := []) 9 0 [] (dq D_m_readLine_0_ok 33 rfl) rfl rfl lc_m_readWork lv_m_readWork_ ml_m_220 rfl rfl rfl rfl (t_m_readWork v0 h9) (fun _ h29 => ?_)
            refine q_goto (pc := 77) 151 (dq D_m_readLine_0_ok 34 rfl) rfl ?_
            exact r_retu (pc := 151) (dq D_m_readLine_1_ok 8 rfl) rfl
        · refine q_aload_n (pc := 57) (dq D_m_readLine_0_ok 25 rfl) rfl 0 rfl ?_
          refine r_invU (Mc := M_m_readFeast) (pc := 58) (ci := 11) (rest := []) 8 0 [] (dq D_m_readLine_0_ok 26 rfl) rfl rfl lc_m_readFeast lv_m_readFeast_ ml_m_217 rfl rfl rfl rfl (t_m_readFeast v0 h7) (fun _ h31 => ?_)
          refine q_goto (pc := 61) 151 (dq D_m_readLine_0_ok 27 rfl) rfl ?_
          exact r_retu (pc := 151) (dq D_m_readLine_1_ok 8 rfl) rfl
      · refine q_aload_n (pc := 41) (dq D_m_readLine_0_ok 18 rfl) rfl 0 rfl ?_
        refine r_invU (Mc := M_m_readGone) (pc := 42) (ci := 11) (rest := []) 8 0 [] (dq D_m_readLine_0_ok 19 rfl) rfl rfl lc_m_readGone lv_m_readGone_ ml_m_214 rfl rfl rfl rfl (t_m_readGone v0 h5) (fun _ h33 => ?_)
        refine q_goto (pc := 45) 151 (dq D_m_readLine_0_ok 20 rfl) rfl ?_
        exact r_retu (pc := 151) (dq D_m_readLine_1_ok 8 rfl) rfl
    · refine q_aload_n (pc := 25) (dq D_m_readLine_0_ok 11 rfl) rfl 0 rfl ?_
      refine r_invU (Mc := M_m_readWheel) (pc := 26) (ci := 11) (rest := []) 8 0 [] (dq D_m_readLine_0_ok 12 rfl) rfl rfl lc_m_readWheel lv_m_readWheel_ ml_m_211 rfl rfl rfl rfl (t_m_readWheel v0 h3) (fun _ h35 => ?_)
      refine q_goto (pc := 29) 151 (dq D_m_readLine_0_ok 13 rfl) rfl ?_
      exact r_retu (pc := 151) (dq D_m_readLine_1_ok 8 rfl) rfl
  · refine q_aload_n (pc := 9) (dq D_m_readLine_0_ok 4 rfl) rfl 0 rfl ?_
    refine r_invU (Mc := M_m_readBrass) (pc := 10) (ci := 11) (rest := []) 8 0 [] (dq D_m_readLine_0_ok 5 rfl) rfl rfl lc_m_readBrass lv_m_readBrass_ ml_m_208 rfl rfl rfl rfl (t_m_readBrass v0 h1) (fun _ h37 => ?_)
    refine q_goto (pc := 13) 151 (dq D_m_readLine_0_ok 6 rfl) rfl ?_
    exact r_retu (pc := 151) (dq D_m_readLine_1_ok 8 rfl) rfl
