noncomputable def b_Law_law_1705 (L : Nat) (xs : Nat → Int32) (k23 : (Nat × Nat × Nat × Int32) → Hp → Option (Int32 × Hp)) (v1 : Nat) (v2 : Nat) (v3 : Nat) (v4 : Int32) (h : Hp) : Option (Int32 × Hp) := k23 (v1, v2, v3, v4 + 6) h
set_option maxHeartbeats 4000000 in
set_option maxRecDepth 20000 in
theorem tb_Law_law_1705 {G : GG} {k23 : (Nat × Nat × Nat × Int32) → Hp → Option (Int32 × Hp)} (hk23 : ∀ s h, T G M_Law_law 16 cI 23 [(0, .ref (gX G).1), (1, .ref s.1), (2, .ref s.2.1), (3, .ref s.2.2.1), (4, .int s.2.2.2)] [] h (k23 s h)) (v1 : Nat) (v2 : Nat) (v3 : Nat) (v4 : Int32) (h : Hp) : T G M_Law_law 16 cI 1705 [(0, .ref (gX G).1), (1, .ref v1), (2, .ref v2), (3, .ref v3), (4, .int v4)] [] h (b_Law_law_1705 (gX G).2.1 (gX G).2.2 k23 v1 v2 v3 v4 h) := by
  unfold b_Law_law_1705
  refine q_iinc (pc := 1705) (v := (6)) (ls' := [(4, .int (v4 + 6)), (0, .ref (gX G).1), (1, .ref v1), (2, .ref v2), (3, .ref v3)]) (dq D_Law_law_17_ok 17 rfl) 4 rfl (by decide) rfl rfl ?_
  refine q_goto (pc := 1708) 23 (dq D_Law_law_17_ok 18 rfl) rfl ?_
  exact T.lsub [1, 2, 3, 4, 0] rfl (hk23 (v1, v2, v3, v4 + 6) h)
noncomputable def b_Law_law_1664 (L : Nat) (xs : Nat → Int32) (k23 : (Nat × Nat × Nat × Int32) → Hp → Option (Int32 × Hp)) (v1 : Nat) (v2 : Nat) (v3 : Nat) (v4 : Int32) (h : Hp) : Option (Int32 × Hp) := b_Law_law_1705 L xs k23 v1 v2 v3 v4 h
set_option maxHeartbeats 4000000 in
set_option maxRecDepth 20000 in
theorem tb_Law_law_1664 {G : GG} {k23 : (Nat × Nat × Nat × Int32) → Hp → Option (Int32 × Hp)} (hk23 : ∀ s h, T G M_Law_law 16 cI 23 [(0, .ref (gX G).1), (1, .ref s.1), (2, .ref s.2.1), (3, .ref s.2.2.1), (4, .int s.2.2.2)] [] h (k23 s h)) (v1 : Nat) (v2 : Nat) (v3 : Nat) (v4 : Int32) (h : Hp) : T G M_Law_law 16 cI 1664 [(0, .ref (gX G).1), (1, .ref v1), (2, .ref v2), (3, .ref v3), (4, .int v4)] [] h (b_Law_law_1664 (gX G).2.1 (gX G).2.2 k23 v1 v2 v3 v4 h) := by
  unfold b_Law_law_1664
  refine q_goto (pc := 1664) 1705 (dq D_Law_law_16_ok 52 rfl) rfl ?_
  exact T.lsub [0, 1, 2, 3, 4] rfl (tb_Law_law_1705 hk23 v1 v2 v3 v4 h)
noncomputable def b_Law_law_1328 (L : Nat) (xs : Nat → Int32) (k23 : (Nat × Nat × Nat × Int32) → Hp → Option (Int32 × Hp)) (v1 : Nat) (v2 : Nat) (v3 : Nat) (v4 : Int32) (s0 : Int32) (s1 : Int32) (s2 : Int32) (s3 : Nat) (s4 : Int64) (h : Hp) : Option (Int32 × Hp) := gd (hS h s3 = some (.inl 11)) (bd (f_m_jerkMean s3 s2 s1 s0 h) fun r2 h1 => if (lg_cmp s4 r2) = 0 then (b_Law_law_1705 L xs k23 v1 v2 v3 v4 h1) else (gd (zb 0) (some (0, h1))))
set_option maxHeartbeats 4000000 in
set_option maxRecDepth 20000 in
theorem tb_Law_law_1328 {G : GG} {k23 : (Nat × Nat × Nat × Int32) → Hp → Option (Int32 × Hp)} (hk23 : ∀ s h, T G M_Law_law 16 cI 23 [(0, .ref (gX G).1), (1, .ref s.1), (2, .ref s.2.1), (3, .ref s.2.2.1), (4, .int s.2.2.2)] [] h (k23 s h)) (v1 : Nat) (v2 : Nat) (v3 : Nat) (v4 : Int32) (s0 : Int32) (s1 : Int32) (s2 : Int32) (s3 : Nat) (s4 : Int64) (h : Hp) : T G M_Law_law 16 cI 1328 [(0, .ref (gX G).1), (1, .ref v1), (2, .ref v2), (3, .ref v3), (4, .int v4)] [.int s0, .int s1, .int s2, .ref s3, .long s4] h (b_Law_law_1328 (gX G).2.1 (gX G).2.2 k23 v1 v2 v3 v4 s0 s1 s2 s3 s4 h) := by
  unfold b_Law_law_1328
  refine r_invL (Mc := M_m_jerkMean) (pc := 1328) (ci := 11) (rest := [.long s4]) 3 3 [.int s2, .int s1, .int s0] (dq D_Law_law_13_ok 3 rfl) rfl rfl lc_m_jerkMean lv_m_jerkMean_ ml_Law_164 rfl rfl rfl rfl (t_m_jerkMean s3 s2 s1 s0 h) (fun r2 h1 => ?_)
  refine q_lcmp (pc := 1331) (dq D_Law_law_13_ok 4 rfl) ?_
  refine p_if_eq (pc := 1332) 1705 (dq D_Law_law_13_ok 5 rfl) rfl ?_ ?_
  · exact T.lsub [0, 1, 2, 3, 4] rfl (tb_Law_law_1705 hk23 v1 v2 v3 v4 h1)
  · refine q_ic0 (pc := 1335) (dq D_Law_law_13_ok 6 rfl) ?_
    exact r_retz (pc := 1336) (dq D_Law_law_13_ok 7 rfl) rfl
noncomputable def b_Law_law_1298 (L : Nat) (xs : Nat → Int32) (k23 : (Nat × Nat × Nat × Int32) → Hp → Option (Int32 × Hp)) (v1 : Nat) (v2 : Nat) (v3 : Nat) (v4 : Int32) (s0 : Int32) (s1 : Int32) (s2 : Int32) (s3 : Nat) (h : Hp) : Option (Int32 × Hp) := gd (hS h s3 = some (.inl 0)) (bd (f_B_jerkMean s3 s2 s1 s0 h) fun r2 h1 => gd (vp_in (v4 + 1) L) (lt (xs (v4 + 1).toNatClampNeg) fun x3 => gd (vp_in (v4 + 2) L) (lt (xs (v4 + 2).toNatClampNeg) fun x4 => gd (vp_in (v4 + 3) L) (lt (xs (v4 + 3).toNatClampNeg) fun x5 => if x5 = 0 then (b_Law_law_1328 L xs k23 v1 v2 v3 v4 0 x4 x3 v2 r2 h1) else (b_Law_law_1328 L xs k23 v1 v2 v3 v4 1 x4 x3 v2 r2 h1)))))
set_option maxHeartbeats 4000000 in
set_option maxRecDepth 20000 in
theorem tb_Law_law_1298 {G : GG} {k23 : (Nat × Nat × Nat × Int32) → Hp → Option (Int32 × Hp)} (hk23 : ∀ s h, T G M_Law_law 16 cI 23 [(0, .ref (gX G).1), (1, .ref s.1), (2, .ref s.2.1), (3, .ref s.2.2.1), (4, .int s.2.2.2)] [] h (k23 s h)) (v1 : Nat) (v2 : Nat) (v3 : Nat) (v4 : Int32) (s0 : Int32) (s1 : Int32) (s2 : Int32) (s3 : Nat) (h : Hp) : T G M_Law_law 16 cI 1298 [(0, .ref (gX G).1), (1, .ref v1), (2, .ref v2), (3, .ref v3), (4, .int v4)] [.int s0, .int s1, .int s2, .ref s3] h (b_Law_law_1298 (gX G).2.1 (gX G).2.2 k23 v1 v2 v3 v4 s0 s1 s2 s3 h) := by
  unfold b_Law_law_1298
  refine r_invL (Mc := M_B_jerkMean) (pc := 1298) (ci := 0) (rest := []) 4 3 [.int s2, .int s1, .int s0] (dq D_Law_law_12_ok 42 rfl) rfl rfl lc_B_jerkMean lv_B_jerkMean_ ml_Law_160 rfl rfl rfl rfl (t_B_jerkMean s3 s2 s1 s0 h) (fun r2 h1 => ?_)
  refine q_aload_n (pc := 1301) (dq D_Law_law_12_ok 43 rfl) rfl 2 rfl ?_
  refine q_aload_n (pc := 1302) (dq D_Law_law_12_ok 44 rfl) rfl 0 rfl ?_
  refine q_iload (pc := 1303) (dq D_Law_law_12_ok 45 rfl) 4 rfl ?_
  refine q_ic1 (pc := 1305) (dq D_Law_law_12_ok 46 rfl) ?_
  refine q_iadd (pc := 1306) (dq D_Law_law_12_ok 47 rfl) ?_
  refine r_sld (pc := 1307) (dq D_Law_law_12_ok 48 rfl) (fun x3 => ?_)
  refine q_aload_n (pc := 1308) (dq D_Law_law_12_ok 49 rfl) rfl 0 rfl ?_
  refine q_iload (pc := 1309) (dq D_Law_law_12_ok 50 rfl) 4 rfl ?_
  refine q_ic2 (pc := 1311) (dq D_Law_law_12_ok 51 rfl) ?_
  refine q_iadd (pc := 1312) (dq D_Law_law_12_ok 52 rfl) ?_
  refine r_sld (pc := 1313) (dq D_Law_law_12_ok 53 rfl) (fun x4 => ?_)
  refine q_aload_n (pc := 1314) (dq D_Law_law_12_ok 54 rfl) rfl 0 rfl ?_
  refine q_iload (pc := 1315) (dq D_Law_law_12_ok 55 rfl) 4 rfl ?_
  refine q_ic3 (pc := 1317) (dq D_Law_law_12_ok 56 rfl) ?_
  refine q_iadd (pc := 1318) (dq D_Law_law_12_ok 57 rfl) ?_
  refine r_sld (pc := 1319) (dq D_Law_law_12_ok 58 rfl) (fun x5 => ?_)
  refine p_if_eq (pc := 1320) 1327 (dq D_Law_law_12_ok 59 rfl) rfl ?_ ?_
  · refine q_ic0 (pc := 1327) (dq D_Law_law_13_ok 2 rfl) ?_
    exact T.lsub [0, 1, 2, 3, 4] rfl (tb_Law_law_1328 hk23 v1 v2 v3 v4 0 x4 x3 v2 r2 h1)
  · refine q_ic1 (pc := 1323) (dq D_Law_law_13_ok 0 rfl) ?_
    refine q_goto (pc := 1324) 1328 (dq D_Law_law_13_ok 1 rfl) rfl ?_
    exact T.lsub [0, 1, 2, 3, 4] rfl (tb_Law_law_1328 hk23 v1 v2 v3 v4 1 x4 x3 v2 r2 h1)
noncomputable def b_Law_law_1262 (L : Nat) (xs : Nat → Int32) (k23 : (Nat × Nat × Nat × Int32) → Hp → Option (Int32 × Hp)) (v1 : Nat) (v2 : Nat) (v3 : Nat) (v4 : Int32) (s0 : Int32) (s1 : Int32) (s2 : Int32) (s3 : Int32) (s4 : Nat) (s5 : Int64) (h : Hp) : Option (Int32 × Hp) := gd (hS h s4 = some (.inl 11)) (bd (f_m_likely s4 s3 s2 s1 s0 h) fun r2 h1 => if (lg_cmp s5 r2) = 0 then (b_Law_law_1705 L xs k23 v1 v2 v3 v4 h1) else (gd (zb 0) (some (0, h1))))
set_option maxHeartbeats 4000000 in
set_option maxRecDepth 20000 in
theorem tb_Law_law_1262 {G : GG} {k23 : (Nat × Nat × Nat × Int32) → Hp → Option (Int32 × Hp)} (hk23 : ∀ s h, T G M_Law_law 16 cI 23 [(0, .ref (gX G).1), (1, .ref s.1), (2, .ref s.2.1), (3, .ref s.2.2.1), (4, .int s.2.2.2)] [] h (k23 s h)) (v1 : Nat) (v2 : Nat) (v3 : Nat) (v4 : Int32) (s0 : Int32) (s1 : Int32) (s2 : Int32) (s3 : Int32) (s4 : Nat) (s5 : Int64) (h : Hp) : T G M_Law_law 16 cI 1262 [(0, .ref (gX G).1), (1, .ref v1), (2, .ref v2), (3, .ref v3), (4, .int v4)] [.int s0, .int s1, .int s2, .int s3, .ref s4, .long s5] h (b_Law_law_1262 (gX G).2.1 (gX G).2.2 k23 v1 v2 v3 v4 s0 s1 s2 s3 s4 s5 h) := by
  unfold b_Law_law_1262
  refine r_invL (Mc := M_m_likely) (pc := 1262) (ci := 11) (rest := [.long s5]) 3 4 [.int s3, .int s2, .int s1, .int s0] (dq D_Law_law_12_ok 17 rfl) rfl rfl lc_m_likely lv_m_likely_ ml_Law_159 rfl rfl rfl rfl (t_m_likely s4 s3 s2 s1 s0 h) (fun r2 h1 => ?_)
  refine q_lcmp (pc := 1265) (dq D_Law_law_12_ok 18 rfl) ?_
  refine p_if_eq (pc := 1266) 1705 (dq D_Law_law_12_ok 19 rfl) rfl ?_ ?_
  · exact T.lsub [0, 1, 2, 3, 4] rfl (tb_Law_law_1705 hk23 v1 v2 v3 v4 h1)
  · refine q_ic0 (pc := 1269) (dq D_Law_law_12_ok 20 rfl) ?_
    exact r_retz (pc := 1270) (dq D_Law_law_12_ok 21 rfl) rfl
noncomputable def b_Law_law_1226 (L : Nat) (xs : Nat → Int32) (k23 : (Nat × Nat × Nat × Int32) → Hp → Option (Int32 × Hp)) (v1 : Nat) (v2 : Nat) (v3 : Nat) (v4 : Int32) (s0 : Int32) (s1 : Int32) (s2 : Int32) (s3 : Int32) (s4 : Nat) (h : Hp) : Option (Int32 × Hp) := gd (hS h s4 = some (.inl 0)) (bd (f_B_likely s4 s3 s2 s1 s0 h) fun r2 h1 => gd (vp_in (v4 + 1) L) (lt (xs (v4 + 1).toNatClampNeg) fun x3 => gd (vp_in (v4 + 2) L) (lt (xs (v4 + 2).toNatClampNeg) fun x4 => gd (vp_in (v4 + 3) L) (lt (xs (v4 + 3).toNatClampNeg) fun x5 => gd (vp_in (v4 + 4) L) (lt (xs (v4 + 4).toNatClampNeg) fun x6 => if x6 = 0 then (b_Law_law_1262 L xs k23 v1 v2 v3 v4 0 x5 x4 x3 v2 r2 h1) else (b_Law_law_1262 L xs k23 v1 v2 v3 v4 1 x5 x4 x3 v2 r2 h1))))))
set_option maxHeartbeats 4000000 in
set_option maxRecDepth 20000 in
theorem tb_Law_law_1226 {G : GG} {k23 : (Nat × Nat × Nat × Int32) → Hp → Option (Int32 × Hp)} (hk23 : ∀ s h, T G M_Law_law 16 cI 23 [(0, .ref (gX G).1), (1, .ref s.1), (2, .ref s.2.1), (3, .ref s.2.2.1), (4, .int s.2.2.2)] [] h (k23 s h)) (v1 : Nat) (v2 : Nat) (v3 : Nat) (v4 : Int32) (s0 : Int32) (s1 : Int32) (s2 : Int32) (s3 : Int32) (s4 : Nat) (h : Hp) : T G M_Law_law 16 cI 1226 [(0, .ref (gX G).1), (1, .ref v1), (2, .ref v2), (3, .ref v3), (4, .int v4)] [.int s0, .int s1, .int s2, .int s3, .ref s4] h (b_Law_law_1226 (gX G).2.1 (gX G).2.2 k23 v1 v2 v3 v4 s0 s1 s2 s3 s4 h) := by
  unfold b_Law_law_1226
  refine r_invL (Mc := M_B_likely) (pc := 1226) (ci := 0) (rest := []) 4 4 [.int s3, .int s2, .int s1, .int s0] (dq D_Law_law_11_ok 51 rfl) rfl rfl lc_B_likely lv_B_likely_ ml_Law_155 rfl rfl rfl rfl (t_B_likely s4 s3 s2 s1 s0 h) (fun r2 h1 => ?_)
  refine q_aload_n (pc := 1229) (dq D_Law_law_11_ok 52 rfl) rfl 2 rfl ?_
  refine q_aload_n (pc := 1230) (dq D_Law_law_11_ok 53 rfl) rfl 0 rfl ?_
  refine q_iload (pc := 1231) (dq D_Law_law_11_ok 54 rfl) 4 rfl ?_
  refine q_ic1 (pc := 1233) (dq D_Law_law_11_ok 55 rfl) ?_
  refine q_iadd (pc := 1234) (dq D_Law_law_11_ok 56 rfl) ?_
  refine r_sld (pc := 1235) (dq D_Law_law_11_ok 57 rfl) (fun x3 => ?_)
  refine q_aload_n (pc := 1236) (dq D_Law_law_11_ok 58 rfl) rfl 0 rfl ?_
  refine q_iload (pc := 1237) (dq D_Law_law_11_ok 59 rfl) 4 rfl ?_
  refine q_ic2 (pc := 1239) (dq D_Law_law_12_ok 0 rfl) ?_
  refine q_iadd (pc := 1240) (dq D_Law_law_12_ok 1 rfl) ?_
  refine r_sld (pc := 1241) (dq D_Law_law_12_ok 2 rfl) (fun x4 => ?_)
  refine q_aload_n (pc := 1242) (dq D_Law_law_12_ok 3 rfl) rfl 0 rfl ?_
  refine q_iload (pc := 1243) (dq D_Law_law_12_ok 4 rfl) 4 rfl ?_
  refine q_ic3 (pc := 1245) (dq D_Law_law_12_ok 5 rfl) ?_
  refine q_iadd (pc := 1246) (dq D_Law_law_12_ok 6 rfl) ?_
  refine r_sld (pc := 1247) (dq D_Law_law_12_ok 7 rfl) (fun x5 => ?_)
  refine q_aload_n (pc := 1248) (dq D_Law_law_12_ok 8 rfl) rfl 0 rfl ?_
  refine q_iload (pc := 1249) (dq D_Law_law_12_ok 9 rfl) 4 rfl ?_
  refine q_ic4 (pc := 1251) (dq D_Law_law_12_ok 10 rfl) ?_
  refine q_iadd (pc := 1252) (dq D_Law_law_12_ok 11 rfl) ?_
  refine r_sld (pc := 1253) (dq D_Law_law_12_ok 12 rfl) (fun x6 => ?_)
  refine p_if_eq (pc := 1254) 1261 (dq D_Law_law_12_ok 13 rfl) rfl ?_ ?_
  · refine q_ic0 (pc := 1261) (dq D_Law_law_12_ok 16 rfl) ?_
    exact T.lsub [0, 1, 2, 3, 4] rfl (tb_Law_law_1262 hk23 v1 v2 v3 v4 0 x5 x4 x3 v2 r2 h1)
  · refine q_ic1 (pc := 1257) (dq D_Law_law_12_ok 14 rfl) ?_
    refine q_goto (pc := 1258) 1262 (dq D_Law_law_12_ok 15 rfl) rfl ?_
    exact T.lsub [0, 1, 2, 3, 4] rfl (tb_Law_law_1262 hk23 v1 v2 v3 v4 1 x5 x4 x3 v2 r2 h1)
noncomputable def b_Law_law_23 (L : Nat) (xs : Nat → Int32) (k23 : (Nat × Nat × Nat × Int32) → Hp → Option (Int32 × Hp)) (v1 : Nat) (v2 : Nat) (v3 : Nat) (v4 : Int32) (h : Hp) : Option (Int32 × Hp) := if ((Int32.ofNat L) - 6) < v4 then (gd (zb 1) (some (1, h))) else (gd (vp_in v4 L) (lt (xs v4.toNatClampNeg) fun x1 => if (x1 &&& 63) = 0 then (gd (vp_in (v4 + 1) L) (lt (xs (v4 + 1).toNatClampNeg) fun x2 => gd (vp_in (v4 + 2) L) (lt (xs (v4 + 2).toNatClampNeg) fun x3 => gd (vp_in (v4 + 3) L) (lt (xs (v4 + 3).toNatClampNeg) fun x4 => gd (vp_in (v4 + 4) L) (lt (xs (v4 + 4).toNatClampNeg) fun x5 => gd (vp_in (v4 + 5) L) (lt (xs (v4 + 5).toNatClampNeg) fun x6 => gd (hS h v1 = some (.inl 0)) (bd (f_B_feed v1 x2 x3 x4 x5 x6 h) fun r8 h7 => gd (vp_in (v4 + 1) L) (lt (xs (v4 + 1).toNatClampNeg) fun x9 => gd (vp_in (v4 + 2) L) (lt (xs (v4 + 2).toNatClampNeg) fun x10 => gd (vp_in (v4 + 3) L) (lt (xs (v4 + 3).toNatClampNeg) fun x11 => gd (vp_in (v4 + 4) L) (lt (xs (v4 + 4).toNatClampNeg) fun x12 => gd (vp_in (v4 + 5) L) (lt (xs (v4 + 5).toNatClampNeg) fun x13 => gd (hS h7 v2 = some (.inl 11)) (bd (f_m_feed v2 x9 x10 x11 x12 x13 h7) fun r15 h14 => if r8 = r15 then (b_Law_law_1705 L xs k23 v1 v2 v3 v4 h14) else (gd (zb 0) (some (0, h14)))))))))))))))) else (if (x1 &&& 63) = 1 then (gd (vp_in (v4 + 1) L) (lt (xs (v4 + 1).toNatClampNeg) fun x16 => gd (hS h v1 = some (.inl 0)) (bd (f_B_orrery v1 x16 h) fun r18 h17 => gd (vp_in (v4 + 1) L) (lt (xs (v4 + 1).toNatClampNeg) fun x19 => gd (hS h17 v2 = some (.inl 11)) (bd (f_m_orrery v2 x19 h17) fun r21 h20 => if r18 = r21 then (b_Law_law_1705 L xs k23 v1 v2 v3 v4 h20) else (gd (zb 0) (some (0, h20)))))))) else (if (x1 &&& 63) = 2 then (gd (hS h v1 = some (.inl 0)) (bd (f_B_fault v1 h) fun r23 h22 => gd (hS h22 v2 = some (.inl 11)) (bd (f_m_fault v2 h22) fun r25 h24 => if r23 = r25 then (b_Law_law_1705 L xs k23 v1 v2 v3 v4 h24) else (gd (zb 0) (some (0, h24)))))) else (if (x1 &&& 63) = 3 then (gd (hS h v1 = some (.inl 0)) (bd (f_B_where v1 h) fun r27 h26 => gd (hS h26 v2 = some (.inl 11)) (bd (f_m_where v2 h26) fun r29 h28 => if r27 = r29 then (b_Law_law_1705 L xs k23 v1 v2 v3 v4 h28) else (gd (zb 0) (some (0, h28)))))) else (if (x1 &&& 63) = 4 then (gd (vp_in (v4 + 1) L) (lt (xs (v4 + 1).toNatClampNeg) fun x30 => gd (vp_in (v4 + 2) L) (lt (xs (v4 + 2).toNatClampNeg) fun x31 => gd (hS h v1 = some (.inl 0)) (bd (f_B_wheel v1 x30 x31 h) fun r33 h32 => gd (vp_in (v4 + 1) L) (lt (xs (v4 + 1).toNatClampNeg) fun x34 => gd (vp_in (v4 + 2) L) (lt (xs (v4 + 2).toNatClampNeg) fun x35 => gd (hS h32 v2 = some (.inl 11)) (bd (f_m_wheel v2 x34 x35 h32) fun r37 h36 => if r33 = r37 then (b_Law_law_1705 L xs k23 v1 v2 v3 v4 h36) else (gd (zb 0) (some (0, h36)))))))))) else (if (x1 &&& 63) = 5 then (gd (vp_in (v4 + 1) L) (lt (xs (v4 + 1).toNatClampNeg) fun x38 => gd (vp_in (v4 + 2) L) (lt (xs (v4 + 2).toNatClampNeg) fun x39 => gd (hS h v1 = some (.inl 0)) (bd (f_B_isGone v1 x38 x39 h) fun r41 h40 => gd (vp_in (v4 + 1) L) (lt (xs (v4 + 1).toNatClampNeg) fun x42 => gd (vp_in (v4 + 2) L) (lt (xs (v4 + 2).toNatClampNeg) fun x43 => gd (hS h40 v2 = some (.inl 11)) (bd (f_m_isGone v2 x42 x43 h40) fun r45 h44 => if r41 = r45 then (b_Law_law_1705 L xs k23 v1 v2 v3 v4 h44) else (gd (zb 0) (some (0, h44)))))))))) else (if (x1 &&& 63) = 6 then (gd (vp_in (v4 + 1) L) (lt (xs (v4 + 1).toNatClampNeg) fun x46 => gd (hS h v1 = some (.inl 0)) (bd (f_B_now v1 x46 h) fun r48 h47 => gd (vp_in (v4 + 1) L) (lt (xs (v4 + 1).toNatClampNeg) fun x49 => gd (hS h47 v2 = some (.inl 11)) (bd (f_m_now v2 x49 h47) fun r51 h50 => if r48 = r51 then (b_Law_law_1705 L xs k23 v1 v2 v3 v4 h50) else (gd (zb 0) (some (0, h50)))))))) else (if (x1 &&& 63) = 7 then (gd (vp_in (v4 + 1) L) (lt (xs (v4 + 1).toNatClampNeg) fun x52 => gd (vp_in (v4 + 2) L) (lt (xs (v4 + 2).toNatClampNeg) fun x53 => gd (hS h v1 = some (.inl 0)) (bd (f_B_work v1 x52 x53 h) fun r55 h54 => gd (vp_in (v4 + 1) L) (lt (xs (v4 + 1).toNatClampNeg) fun x56 => gd (vp_in (v4 + 2) L) (lt (xs (v4 + 2).toNatClampNeg) fun x57 => gd (hS h54 v2 = some (.inl 11)) (bd (f_m_work v2 x56 x57 h54) fun r59 h58 => if r55 = r59 then (b_Law_law_1705 L xs k23 v1 v2 v3 v4 h58) else (gd (zb 0) (some (0, h58)))))))))) else (if (x1 &&& 63) = 8 then (gd (vp_in (v4 + 1) L) (lt (xs (v4 + 1).toNatClampNeg) fun x60 => gd (vp_in (v4 + 2) L) (lt (xs (v4 + 2).toNatClampNeg) fun x61 => gd (hS h v1 = some (.inl 0)) (bd (f_B_toothIn v1 x60 x61 h) fun r63 h62 => gd (vp_in (v4 + 1) L) (lt (xs (v4 + 1).toNatClampNeg) fun x64 => gd (vp_in (v4 + 2) L) (lt (xs (v4 + 2).toNatClampNeg) fun x65 => gd (hS h62 v2 = some (.inl 11)) (bd (f_m_toothIn v2 x64 x65 h62) fun r67 h66 => if r63 = r67 then (b_Law_law_1705 L xs k23 v1 v2 v3 v4 h66) else (gd (zb 0) (some (0, h66)))))))))) else (if (x1 &&& 63) = 9 then (gd (vp_in (v4 + 1) L) (lt (xs (v4 + 1).toNatClampNeg) fun x68 => gd (vp_in (v4 + 2) L) (lt (xs (v4 + 2).toNatClampNeg) fun x69 => gd (hS h v1 = some (.inl 0)) (bd (f_B_jerks v1 x68 x69 h) fun r71 h70 => gd (vp_in (v4 + 1) L) (lt (xs (v4 + 1).toNatClampNeg) fun x72 => gd (vp_in (v4 + 2) L) (lt (xs (v4 + 2).toNatClampNeg) fun x73 => gd (hS h70 v2 = some (.inl 11)) (bd (f_m_jerks v2 x72 x73 h70) fun r75 h74 => if r71 = r75 then (b_Law_law_1705 L xs k23 v1 v2 v3 v4 h74) else (gd (zb 0) (some (0, h74)))))))))) else (if (x1 &&& 63) = 10 then (gd (vp_in (v4 + 1) L) (lt (xs (v4 + 1).toNatClampNeg) fun x76 => gd (hS h v1 = some (.inl 0)) (bd (f_B_comesRound v1 x76 h) fun r78 h77 => gd (vp_in (v4 + 1) L) (lt (xs (v4 + 1).toNatClampNeg) fun x79 => gd (hS h77 v2 = some (.inl 11)) (bd (f_m_comesRound v2 x79 h77) fun r81 h80 => if r78 = r81 then (b_Law_law_1705 L xs k23 v1 v2 v3 v4 h80) else (gd (zb 0) (some (0, h80)))))))) else (if (x1 &&& 63) = 11 then (gd (vp_in (v4 + 1) L) (lt (xs (v4 + 1).toNatClampNeg) fun x82 => gd (hS h v1 = some (.inl 0)) (bd (f_B_idle v1 x82 h) fun r84 h83 => gd (vp_in (v4 + 1) L) (lt (xs (v4 + 1).toNatClampNeg) fun x85 => gd (hS h83 v2 = some (.inl 11)) (bd (f_m_idle v2 x85 h83) fun r87 h86 => if r84 = r87 then (b_Law_law_1705 L xs k23 v1 v2 v3 v4 h86) else (gd (zb 0) (some (0, h86)))))))) else (if (x1 &&& 63) = 12 then (gd (vp_in (v4 + 1) L) (lt (xs (v4 + 1).toNatClampNeg) fun x88 => gd (hS h v1 = some (.inl 0)) (bd (f_B_next v1 x88 h) fun r90 h89 => gd (vp_in (v4 + 1) L) (lt (xs (v4 + 1).toNatClampNeg) fun x91 => gd (hS h89 v2 = some (.inl 11)) (bd (f_m_next v2 x91 h89) fun r93 h92 => if r90 = r93 then (b_Law_law_1705 L xs k23 v1 v2 v3 v4 h92) else (gd (zb 0) (some (0, h92)))))))) else (if (x1 &&& 63) = 13 then (gd (vp_in (v4 + 1) L) (lt (xs (v4 + 1).toNatClampNeg) fun x94 => gd (vp_in (v4 + 2) L) (lt (xs (v4 + 2).toNatClampNeg) fun x95 => gd (hS h v1 = some (.inl 0)) (bd (f_B_often v1 x94 x95 h) fun r97 h96 => gd (vp_in (v4 + 1) L) (lt (xs (v4 + 1).toNatClampNeg) fun x98 => gd (vp_in (v4 + 2) L) (lt (xs (v4 + 2).toNatClampNeg) fun x99 => gd (hS h96 v2 = some (.inl 11)) (bd (f_m_often v2 x98 x99 h96) fun r101 h100 => if r97 = r101 then (b_Law_law_1705 L xs k23 v1 v2 v3 v4 h100) else (gd (zb 0) (some (0, h100)))))))))) else (if (x1 &&& 63) = 14 then (gd (vp_in (v4 + 1) L) (lt (xs (v4 + 1).toNatClampNeg) fun x102 => gd (vp_in (v4 + 2) L) (lt (xs (v4 + 2).toNatClampNeg) fun x103 => gd (hS h v1 = some (.inl 0)) (bd (f_B_meet v1 x102 x103 h) fun r105 h104 => gd (vp_in (v4 + 1) L) (lt (xs (v4 + 1).toNatClampNeg) fun x106 => gd (vp_in (v4 + 2) L) (lt (xs (v4 + 2).toNatClampNeg) fun x107 => gd (hS h104 v2 = some (.inl 11)) (bd (f_m_meet v2 x106 x107 h104) fun r109 h108 => if r105 = r109 then (b_Law_law_1705 L xs k23 v1 v2 v3 v4 h108) else (gd (zb 0) (some (0, h108)))))))))) else (if (x1 &&& 63) = 15 then (gd (hS h v1 = some (.inl 0)) (bd (f_B_soonest v1 h) fun r111 h110 => gd (hS h110 v2 = some (.inl 11)) (bd (f_m_soonest v2 h110) fun r113 h112 => if r111 = r113 then (b_Law_law_1705 L xs k23 v1 v2 v3 v4 h112) else (gd (zb 0) (some (0, h112)))))) else (if (x1 &&& 63) = 16 then (gd (vp_in (v4 + 1) L) (lt (xs (v4 + 1).toNatClampNeg) fun x114 => gd (hS h v1 = some (.inl 0)) (bd (f_B_longestGap v1 x114 h) fun r116 h115 => gd (vp_in (v4 + 1) L) (lt (xs (v4 + 1).toNatClampNeg) fun x117 => gd (hS h115 v2 = some (.inl 11)) (bd (f_m_longestGap v2 x117 h115) fun r119 h118 => if r116 = r119 then (b_Law_law_1705 L xs k23 v1 v2 v3 v4 h118) else (gd (zb 0) (some (0, h118)))))))) else (if (x1 &&& 63) = 17 then (gd (vp_in (v4 + 1) L) (lt (xs (v4 + 1).toNatClampNeg) fun x120 => gd (vp_in (v4 + 2) L) (lt (xs (v4 + 2).toNatClampNeg) fun x121 => gd (vp_in (v4 + 3) L) (lt (xs (v4 + 3).toNatClampNeg) fun x122 => gd (hS h v1 = some (.inl 0)) (bd (f_B_setFor v1 x120 x121 x122 h) fun r124 h123 => gd (vp_in (v4 + 1) L) (lt (xs (v4 + 1).toNatClampNeg) fun x125 => gd (vp_in (v4 + 2) L) (lt (xs (v4 + 2).toNatClampNeg) fun x126 => gd (vp_in (v4 + 3) L) (lt (xs (v4 + 3).toNatClampNeg) fun x127 => gd (hS h123 v2 = some (.inl 11)) (bd (f_m_setFor v2 x125 x126 x127 h123) fun r129 h128 => if r124 = r129 then (b_Law_law_1705 L xs k23 v1 v2 v3 v4 h128) else (gd (zb 0) (some (0, h128)))))))))))) else (if (x1 &&& 63) = 18 then (gd (vp_in (v4 + 1) L) (lt (xs (v4 + 1).toNatClampNeg) fun x130 => gd (vp_in (v4 + 2) L) (lt (xs (v4 + 2).toNatClampNeg) fun x131 => gd (hS h v1 = some (.inl 0)) (bd (f_B_byFor v1 x130 x131 h) fun r133 h132 => gd (vp_in (v4 + 1) L) (lt (xs (v4 + 1).toNatClampNeg) fun x134 => gd (vp_in (v4 + 2) L) (lt (xs (v4 + 2).toNatClampNeg) fun x135 => gd (hS h132 v2 = some (.inl 11)) (bd (f_m_byFor v2 x134 x135 h132) fun r137 h136 => if r133 = r137 then (b_Law_law_1705 L xs k23 v1 v2 v3 v4 h136) else (gd (zb 0) (some (0, h136)))))))))) else (if (x1 &&& 63) = 19 then (gd (vp_in (v4 + 1) L) (lt (xs (v4 + 1).toNatClampNeg) fun x138 => gd (vp_in (v4 + 2) L) (lt (xs (v4 + 2).toNatClampNeg) fun x139 => gd (hS h v1 = some (.inl 0)) (bd (f_B_byIn v1 x138 x139 h) fun r141 h140 => gd (vp_in (v4 + 1) L) (lt (xs (v4 + 1).toNatClampNeg) fun x142 => gd (vp_in (v4 + 2) L) (lt (xs (v4 + 2).toNatClampNeg) fun x143 => gd (hS h140 v2 = some (.inl 11)) (bd (f_m_byIn v2 x142 x143 h140) fun r145 h144 => if r141 = r145 then (b_Law_law_1705 L xs k23 v1 v2 v3 v4 h144) else (gd (zb 0) (some (0, h144)))))))))) else (if (x1 &&& 63) = 20 then (gd (vp_in (v4 + 1) L) (lt (xs (v4 + 1).toNatClampNeg) fun x146 => gd (vp_in (v4 + 2) L) (lt (xs (v4 + 2).toNatClampNeg) fun x147 => gd (hS h v1 = some (.inl 0)) (bd (f_B_settings v1 x146 x147 h) fun r149 h148 => gd (vp_in (v4 + 1) L) (lt (xs (v4 + 1).toNatClampNeg) fun x150 => gd (vp_in (v4 + 2) L) (lt (xs (v4 + 2).toNatClampNeg) fun x151 => gd (hS h148 v2 = some (.inl 11)) (bd (f_m_settings v2 x150 x151 h148) fun r153 h152 => if r149 = r153 then (b_Law_law_1705 L xs k23 v1 v2 v3 v4 h152) else (gd (zb 0) (some (0, h152)))))))))) else (if (x1 &&& 63) = 21 then (gd (hS h v1 = some (.inl 0)) (bd (f_B_lineWorth v1 h) fun r155 h154 => gd (hS h154 v2 = some (.inl 11)) (bd (f_m_lineWorth v2 h154) fun r157 h156 => if r155 = r157 then (b_Law_law_1705 L xs k23 v1 v2 v3 v4 h156) else (gd (zb 0) (some (0, h156)))))) else (if (x1 &&& 63) = 22 then (gd (vp_in (v4 + 1) L) (lt (xs (v4 + 1).toNatClampNeg) fun x158 => gd (hS h v1 = some (.inl 0)) (bd (f_B_lineAt v1 x158 h) fun r160 h159 => gd (vp_in (v4 + 1) L) (lt (xs (v4 + 1).toNatClampNeg) fun x161 => gd (hS h159 v2 = some (.inl 11)) (bd (f_m_lineAt v2 x161 h159) fun r163 h162 => if r160 = r163 then (b_Law_law_1705 L xs k23 v1 v2 v3 v4 h162) else (gd (zb 0) (some (0, h162)))))))) else (if (x1 &&& 63) = 23 then (gd (hS h v1 = some (.inl 0)) (bd (f_B_inTime v1 h) fun r165 h164 => gd (hS h164 v2 = some (.inl 11)) (bd (f_m_inTime v2 h164) fun r167 h166 => if r165 = r167 then (b_Law_law_1705 L xs k23 v1 v2 v3 v4 h166) else (gd (zb 0) (some (0, h166)))))) else (if (x1 &&& 63) = 24 then (gd (vp_in (v4 + 1) L) (lt (xs (v4 + 1).toNatClampNeg) fun x168 => gd (hS h v1 = some (.inl 0)) (bd (f_B_agree v1 x168 h) fun r170 h169 => gd (vp_in (v4 + 1) L) (lt (xs (v4 + 1).toNatClampNeg) fun x171 => gd (hS h169 v2 = some (.inl 11)) (bd (f_m_agree v2 x171 h169) fun r173 h172 => if r170 = r173 then (b_Law_law_1705 L xs k23 v1 v2 v3 v4 h172) else (gd (zb 0) (some (0, h172)))))))) else (if (x1 &&& 63) = 25 then (gd (vp_in (v4 + 1) L) (lt (xs (v4 + 1).toNatClampNeg) fun x174 => gd (hS h v1 = some (.inl 0)) (bd (f_B_drift v1 x174 h) fun r176 h175 => gd (vp_in (v4 + 1) L) (lt (xs (v4 + 1).toNatClampNeg) fun x177 => gd (hS h175 v2 = some (.inl 11)) (bd (f_m_drift v2 x177 h175) fun r179 h178 => if r176 = r179 then (b_Law_law_1705 L xs k23 v1 v2 v3 v4 h178) else (gd (zb 0) (some (0, h178)))))))) else (if (x1 &&& 63) = 26 then (gd (hS h v1 = some (.inl 0)) (bd (f_B_fits v1 h) fun r181 h180 => gd (hS h180 v2 = some (.inl 11)) (bd (f_m_fits v2 h180) fun r183 h182 => if r181 = r183 then (b_Law_law_1705 L xs k23 v1 v2 v3 v4 h182) else (gd (zb 0) (some (0, h182)))))) else (if (x1 &&& 63) = 27 then (gd (vp_in (v4 + 1) L) (lt (xs (v4 + 1).toNatClampNeg) fun x184 => gd (hS h v1 = some (.inl 0)) (bd (f_B_fitAt v1 x184 h) fun r186 h185 => gd (vp_in (v4 + 1) L) (lt (xs (v4 + 1).toNatClampNeg) fun x187 => gd (hS h185 v2 = some (.inl 11)) (bd (f_m_fitAt v2 x187 h185) fun r189 h188 => if r186 = r189 then (b_Law_law_1705 L xs k23 v1 v2 v3 v4 h188) else (gd (zb 0) (some (0, h188)))))))) else (if (x1 &&& 63) = 28 then (gd (hS h v1 = some (.inl 0)) (bd (f_B_look v1 h) fun r191 h190 => gd (hS h190 v2 = some (.inl 11)) (bd (f_m_look v2 h190) fun r193 h192 => if r191 = r193 then (b_Law_law_1705 L xs k23 v1 v2 v3 v4 h192) else (gd (zb 0) (some (0, h192)))))) else (if (x1 &&& 63) = 29 then (gd (hS h v1 = some (.inl 0)) (bd (f_B_lookLeaves v1 h) fun r195 h194 => gd (hS h194 v2 = some (.inl 11)) (bd (f_m_lookLeaves v2 h194) fun r197 h196 => if r195 = r197 then (b_Law_law_1705 L xs k23 v1 v2 v3 v4 h196) else (gd (zb 0) (some (0, h196)))))) else (if (x1 &&& 63) = 30 then (gd (vp_in (v4 + 1) L) (lt (xs (v4 + 1).toNatClampNeg) fun x198 => gd (hS h v1 = some (.inl 0)) (bd (f_B_judge v1 x198 h) fun r200 h199 => gd (vp_in (v4 + 1) L) (lt (xs (v4 + 1).toNatClampNeg) fun x201 => gd (hS h199 v2 = some (.inl 11)) (bd (f_m_judge v2 x201 h199) fun r203 h202 => if r200 = r203 then (b_Law_law_1705 L xs k23 v1 v2 v3 v4 h202) else (gd (zb 0) (some (0, h202)))))))) else (if (x1 &&& 63) = 31 then (gd (vp_in (v4 + 1) L) (lt (xs (v4 + 1).toNatClampNeg) fun x204 => gd (vp_in (v4 + 2) L) (lt (xs (v4 + 2).toNatClampNeg) fun x205 => gd (hS h v1 = some (.inl 0)) (bd (f_B_value v1 x204 x205 h) fun r207 h206 => gd (vp_in (v4 + 1) L) (lt (xs (v4 + 1).toNatClampNeg) fun x208 => gd (vp_in (v4 + 2) L) (lt (xs (v4 + 2).toNatClampNeg) fun x209 => gd (hS h206 v2 = some (.inl 11)) (bd (f_m_value v2 x208 x209 h206) fun r211 h210 => if r207 = r211 then (b_Law_law_1705 L xs k23 v1 v2 v3 v4 h210) else (gd (zb 0) (some (0, h210)))))))))) else (if (x1 &&& 63) = 32 then (gd (vp_in (v4 + 1) L) (lt (xs (v4 + 1).toNatClampNeg) fun x212 => gd (vp_in (v4 + 2) L) (lt (xs (v4 + 2).toNatClampNeg) fun x213 => gd (hS h v1 = some (.inl 0)) (bd (f_B_moves v1 x212 x213 h) fun r215 h214 => gd (vp_in (v4 + 1) L) (lt (xs (v4 + 1).toNatClampNeg) fun x216 => gd (vp_in (v4 + 2) L) (lt (xs (v4 + 2).toNatClampNeg) fun x217 => gd (hS h214 v2 = some (.inl 11)) (bd (f_m_moves v2 x216 x217 h214) fun r219 h218 => if r215 = r219 then (b_Law_law_1705 L xs k23 v1 v2 v3 v4 h218) else (gd (zb 0) (some (0, h218)))))))))) else (if (x1 &&& 63) = 33 then (gd (vp_in (v4 + 1) L) (lt (xs (v4 + 1).toNatClampNeg) fun x220 => gd (vp_in (v4 + 2) L) (lt (xs (v4 + 2).toNatClampNeg) fun x221 => gd (vp_in (v4 + 3) L) (lt (xs (v4 + 3).toNatClampNeg) fun x222 => gd (vp_in (v4 + 4) L) (lt (xs (v4 + 4).toNatClampNeg) fun x223 => if x223 = 0 then (b_Law_law_1226 L xs k23 v1 v2 v3 v4 0 x222 x221 x220 v1 h) else (b_Law_law_1226 L xs k23 v1 v2 v3 v4 1 x222 x221 x220 v1 h)))))) else (if (x1 &&& 63) = 34 then (gd (vp_in (v4 + 1) L) (lt (xs (v4 + 1).toNatClampNeg) fun x224 => gd (vp_in (v4 + 2) L) (lt (xs (v4 + 2).toNatClampNeg) fun x225 => gd (vp_in (v4 + 3) L) (lt (xs (v4 + 3).toNatClampNeg) fun x226 => if x226 = 0 then (b_Law_law_1298 L xs k23 v1 v2 v3 v4 0 x225 x224 v1 h) else (b_Law_law_1298 L xs k23 v1 v2 v3 v4 1 x225 x224 v1 h))))) else (if (x1 &&& 63) = 35 then (gd (vp_in (v4 + 1) L) (lt (xs (v4 + 1).toNatClampNeg) fun x227 => gd (vp_in (v4 + 2) L) (lt (xs (v4 + 2).toNatClampNeg) fun x228 => gd (vp_in (v4 + 3) L) (lt (xs (v4 + 3).toNatClampNeg) fun x229 => gd (hS h v1 = some (.inl 0)) (bd (f_B_years v1 x227 x228 x229 h) fun r231 h230 => gd (vp_in (v4 + 1) L) (lt (xs (v4 + 1).toNatClampNeg) fun x232 => gd (vp_in (v4 + 2) L) (lt (xs (v4 + 2).toNatClampNeg) fun x233 => gd (vp_in (v4 + 3) L) (lt (xs (v4 + 3).toNatClampNeg) fun x234 => gd (hS h230 v2 = some (.inl 11)) (bd (f_m_years v2 x232 x233 x234 h230) fun r236 h235 => if r231 = r236 then (b_Law_law_1705 L xs k23 v1 v2 v3 v4 h235) else (gd (zb 0) (some (0, h235)))))))))))) else (if (x1 &&& 63) = 36 then (gd (vp_in (v4 + 1) L) (lt (xs (v4 + 1).toNatClampNeg) fun x237 => gd (vp_in (v4 + 2) L) (lt (xs (v4 + 2).toNatClampNeg) fun x238 => gd (vp_in (v4 + 3) L) (lt (xs (v4 + 3).toNatClampNeg) fun x239 => gd (hS h v1 = some (.inl 0)) (bd (f_B_yearFeasts v1 x237 x238 x239 h) fun r241 h240 => gd (vp_in (v4 + 1) L) (lt (xs (v4 + 1).toNatClampNeg) fun x242 => gd (vp_in (v4 + 2) L) (lt (xs (v4 + 2).toNatClampNeg) fun x243 => gd (vp_in (v4 + 3) L) (lt (xs (v4 + 3).toNatClampNeg) fun x244 => gd (hS h240 v2 = some (.inl 11)) (bd (f_m_yearFeasts v2 x242 x243 x244 h240) fun r246 h245 => if r241 = r246 then (b_Law_law_1705 L xs k23 v1 v2 v3 v4 h245) else (gd (zb 0) (some (0, h245)))))))))))) else (if (x1 &&& 63) = 37 then (gd (vp_in (v4 + 1) L) (lt (xs (v4 + 1).toNatClampNeg) fun x247 => gd (vp_in (v4 + 2) L) (lt (xs (v4 + 2).toNatClampNeg) fun x248 => gd (hS h v1 = some (.inl 0)) (bd (f_B_slips v1 x247 x248 h) fun r250 h249 => gd (vp_in (v4 + 1) L) (lt (xs (v4 + 1).toNatClampNeg) fun x251 => gd (vp_in (v4 + 2) L) (lt (xs (v4 + 2).toNatClampNeg) fun x252 => gd (hS h249 v2 = some (.inl 11)) (bd (f_m_slips v2 x251 x252 h249) fun r254 h253 => if r250 = r254 then (b_Law_law_1705 L xs k23 v1 v2 v3 v4 h253) else (gd (zb 0) (some (0, h253)))))))))) else (if (x1 &&& 63) = 38 then (gd (hS h v1 = some (.inl 0)) (bd (f_B_turn v1 h) fun r256 h255 => gd (hS h255 v2 = some (.inl 11)) (bd (f_m_turn v2 h255) fun r258 h257 => if r256 = r258 then (b_Law_law_1705 L xs k23 v1 v2 v3 v4 h257) else (gd (zb 0) (some (0, h257)))))) else (if (x1 &&& 63) = 39 then (gd (hS h v1 = some (.inl 0)) (bd (f_B_turnBack v1 h) fun r260 h259 => gd (hS h259 v2 = some (.inl 11)) (bd (f_m_turnBack v2 h259) fun r262 h261 => if r260 = r262 then (b_Law_law_1705 L xs k23 v1 v2 v3 v4 h261) else (gd (zb 0) (some (0, h261)))))) else (if (x1 &&& 63) = 40 then (gd (vp_in (v4 + 1) L) (lt (xs (v4 + 1).toNatClampNeg) fun x263 => gd (hS h v1 = some (.inl 0)) (bd (f_B_oil v1 x263 h) fun r265 h264 => gd (vp_in (v4 + 1) L) (lt (xs (v4 + 1).toNatClampNeg) fun x266 => gd (hS h264 v2 = some (.inl 11)) (bd (f_m_oil v2 x266 h264) fun r268 h267 => if r265 = r268 then (b_Law_law_1705 L xs k23 v1 v2 v3 v4 h267) else (gd (zb 0) (some (0, h267)))))))) else (if (x1 &&& 63) = 41 then (gd (vp_in (v4 + 1) L) (lt (xs (v4 + 1).toNatClampNeg) fun x269 => gd (vp_in (v4 + 2) L) (lt (xs (v4 + 2).toNatClampNeg) fun x270 => gd (hS h v1 = some (.inl 0)) (bd (f_B_set v1 x269 x270 h) fun r272 h271 => gd (vp_in (v4 + 1) L) (lt (xs (v4 + 1).toNatClampNeg) fun x273 => gd (vp_in (v4 + 2) L) (lt (xs (v4 + 2).toNatClampNeg) fun x274 => gd (hS h271 v2 = some (.inl 11)) (bd (f_m_set v2 x273 x274 h271) fun r276 h275 => if r272 = r276 then (b_Law_law_1705 L xs k23 v1 v2 v3 v4 h275) else (gd (zb 0) (some (0, h275)))))))))) else (if (x1 &&& 63) = 42 then (gd (hS h v1 = some (.inl 0)) (bd (f_B_undo v1 h) fun r278 h277 => gd (hS h277 v2 = some (.inl 11)) (bd (f_m_undo v2 h277) fun r280 h279 => if r278 = r280 then (b_Law_law_1705 L xs k23 v1 v2 v3 v4 h279) else (gd (zb 0) (some (0, h279)))))) else (if (x1 &&& 63) = 43 then (gd (hS h v1 = some (.inl 0)) (bd (f_B_image v1 h) fun r282 h281 => gd (hS h281 v2 = some (.inl 11)) (bd (f_m_image v2 h281) fun r284 h283 => if r282 = r284 then (b_Law_law_1705 L xs k23 v1 v2 v3 v4 h283) else (gd (zb 0) (some (0, h283)))))) else (if (x1 &&& 63) = 44 then (gd (vp_in (v4 + 1) L) (lt (xs (v4 + 1).toNatClampNeg) fun x285 => gd (hS h v1 = some (.inl 0)) (bd (f_B_back v1 x285 h) fun r287 h286 => gd (vp_in (v4 + 1) L) (lt (xs (v4 + 1).toNatClampNeg) fun x288 => gd (hS h286 v2 = some (.inl 11)) (bd (f_m_back v2 x288 h286) fun r290 h289 => if r287 = r290 then (b_Law_law_1705 L xs k23 v1 v2 v3 v4 h289) else (gd (zb 0) (some (0, h289)))))))) else (if (x1 &&& 63) = 45 then (gd (vp_in (v4 + 1) L) (lt (xs (v4 + 1).toNatClampNeg) fun x291 => bd (f_Law_led2 v1 x291 v3 h) fun r293 h292 => gd (vp_in (v4 + 1) L) (lt (xs (v4 + 1).toNatClampNeg) fun x294 => gd (hS h292 v2 = some (.inl 11)) (bd (f_m_led v2 x294 h292) fun r296 h295 => gd (hS h295 v2 = some (.inl 11)) (bd (f_m_thrown v2 h295) fun r298 h297 => if r298 = r293 then (if r293 = 0 then (gd (ai h297 v3 1 0) (lt (hL h297 v3 (0 : Int32).toNatClampNeg) fun x299 => if (lg_cmp x299 r296.toInt64) = 0 then (b_Law_law_1664 L xs k23 v1 v2 v3 v4 h297) else (gd (zb 0) (some (0, h297))))) else (b_Law_law_1664 L xs k23 v1 v2 v3 v4 h297)) else (gd (zb 0) (some (0, h297)))))))) else (if (x1 &&& 63) = 46 then (gd (vp_in (v4 + 1) L) (lt (xs (v4 + 1).toNatClampNeg) fun x300 => gd (hS h v1 = some (.inl 0)) (bd (f_B_size v1 x300 h) fun r302 h301 => gd (vp_in (v4 + 1) L) (lt (xs (v4 + 1).toNatClampNeg) fun x303 => gd (hS h301 v2 = some (.inl 11)) (bd (f_m_size v2 x303 h301) fun r305 h304 => if r302 = r305 then (b_Law_law_1705 L xs k23 v1 v2 v3 v4 h304) else (gd (zb 0) (some (0, h304)))))))) else (if (x1 &&& 63) = 47 then (gd (hS h v1 = some (.inl 0)) (bd (f_B_trouble v1 h) fun r307 h306 => gd (hS h306 v2 = some (.inl 11)) (bd (f_m_trouble v2 h306) fun r309 h308 => if r307 = r309 then (b_Law_law_1705 L xs k23 v1 v2 v3 v4 h308) else (gd (zb 0) (some (0, h308)))))) else (b_Law_law_1705 L xs k23 v1 v2 v3 v4 h))))))))))))))))))))))))))))))))))))))))))))))))))
set_option maxHeartbeats 4000000 in
set_option maxRecDepth 20000 in
theorem tb_Law_law_23 {G : GG} {k23 : (Nat × Nat × Nat × Int32) → Hp → Option (Int32 × Hp)} (hk23 : ∀ s h, T G M_Law_law 16 cI 23 [(0, .ref (gX G).1), (1, .ref s.1), (2, .ref s.2.1), (3, .ref s.2.2.1), (4, .int s.2.2.2)] [] h (k23 s h)) (v1 : Nat) (v2 : Nat) (v3 : Nat) (v4 : Int32) (h : Hp) : T G M_Law_law 16 cI 23 [(0, .ref (gX G).1), (1, .ref v1), (2, .ref v2), (3, .ref v3), (4, .int v4)] [] h (b_Law_law_23 (gX G).2.1 (gX G).2.2 k23 v1 v2 v3 v4 h) := by
  unfold b_Law_law_23
  refine q_iload (pc := 23) (dq D_Law_law_0_ok 13 rfl) 4 rfl ?_
  refine q_aload_n (pc := 25) (dq D_Law_law_0_ok 14 rfl) rfl 0 rfl ?_
  refine r_slen (pc := 26) (dq D_Law_law_0_ok 15 rfl) ?_
  refine q_bipush (pc := 27) (v := 6) (dq D_Law_law_0_ok 16 rfl) (by decide) ?_
  refine q_isub (pc := 29) (dq D_Law_law_0_ok 17 rfl) ?_
  refine q_ic_gt (pc := 30) 1711 (dq D_Law_law_0_ok 18 rfl) rfl ?_ ?_
  · refine q_ic1 (pc := 1711) (dq D_Law_law_17_ok 19 rfl) ?_
    exact r_retz (pc := 1712) (dq D_Law_law_17_ok 20 rfl) rfl
  · refine q_aload_n (pc := 33) (dq D_Law_law_0_ok 19 rfl) rfl 0 rfl ?_
    refine q_iload (pc := 34) (dq D_Law_law_0_ok 20 rfl) 4 rfl ?_
    refine r_sld (pc := 36) (dq D_Law_law_0_ok 21 rfl) (fun x1 => ?_)
    refine q_bipush (pc := 37) (v := 63) (dq D_Law_law_0_ok 22 rfl) (by decide) ?_
    refine q_iand (pc := 39) (dq D_Law_law_0_ok 23 rfl) ?_
    refine T.ite (fun e => ?_) (fun n0 => ?_)
    · refine r_tin (pc := 40) (c := 0) 248 (dq D_Law_law_0_ok 24 rfl) e (by decide) (by decide) rfl rfl ?_
      refine q_aload_n (pc := 248) (dq D_Law_law_0_ok 25 rfl) rfl 1 rfl ?_
      refine q_aload_n (pc := 249) (dq D_Law_law_0_ok 26 rfl) rfl 0 rfl ?_
      refine q_iload (pc := 250) (dq D_Law_law_0_ok 27 rfl) 4 rfl ?_
      refine q_ic1 (pc := 252) (dq D_Law_law_0_ok 28 rfl) ?_
      refine q_iadd (pc := 253) (dq D_Law_law_0_ok 29 rfl) ?_
      refine r_sld (pc := 254) (dq D_Law_law_0_ok 30 rfl) (fun x2 => ?_)
      refine q_aload_n (pc := 255) (dq D_Law_law_0_ok 31 rfl) rfl 0 rfl ?_
      refine q_iload (pc := 256) (dq D_Law_law_0_ok 32 rfl) 4 rfl ?_
      refine q_ic2 (pc := 258) (dq D_Law_law_0_ok 33 rfl) ?_
      refine q_iadd (pc := 259) (dq D_Law_law_0_ok 34 rfl) ?_
      refine r_sld (pc := 260) (dq D_Law_law_0_ok 35 rfl) (fun x3 => ?_)
      refine q_aload_n (pc := 261) (dq D_Law_law_0_ok 36 rfl) rfl 0 rfl ?_
      refine q_iload (pc := 262) (dq D_Law_law_0_ok 37 rfl) 4 rfl ?_
      refine q_ic3 (pc := 264) (dq D_Law_law_0_ok 38 rfl) ?_
      refine q_iadd (pc := 265) (dq D_Law_law_0_ok 39 rfl) ?_
      refine r_sld (pc := 266) (dq D_Law_law_0_ok 40 rfl) (fun x4 => ?_)
      refine q_aload_n (pc := 267) (dq D_Law_law_0_ok 41 rfl) rfl 0 rfl ?_
      refine q_iload (pc := 268) (dq D_Law_law_0_ok 42 rfl) 4 rfl ?_
      refine q_ic4 (pc := 270) (dq D_Law_law_0_ok 43 rfl) ?_
      refine q_iadd (pc := 271) (dq D_Law_law_0_ok 44 rfl) ?_
      refine r_sld (pc := 272) (dq D_Law_law_0_ok 45 rfl) (fun x5 => ?_)
      refine q_aload_n (pc := 273) (dq D_Law_law_0_ok 46 rfl) rfl 0 rfl ?_
      refine q_iload (pc := 274) (dq D_Law_law_0_ok 47 rfl) 4 rfl ?_
      refine q_ic5 (pc := 276) (dq D_Law_law_0_ok 48 rfl) ?_
      refine q_iadd (pc := 277) (dq D_Law_law_0_ok 49 rfl) ?_
      refine r_sld (pc := 278) (dq D_Law_law_0_ok 50 rfl) (fun x6 => ?_)
      refine r_invI (Mc := M_B_feed) (pc := 279) (ci := 0) (rest := []) 1 5 [.int x2, .int x3, .int x4, .int x5, .int x6] (dq D_Law_law_0_ok 51 rfl) rfl rfl lc_B_feed lv_B_feed_ ml_Law_19 rfl rfl rfl rfl (t_B_feed v1 x2 x3 x4 x5 x6 h) (fun r8 h7 => ?_)
      refine q_aload_n (pc := 282) (dq D_Law_law_0_ok 52 rfl) rfl 2 rfl ?_
      refine q_aload_n (pc := 283) (dq D_Law_law_0_ok 53 rfl) rfl 0 rfl ?_
      refine q_iload (pc := 284) (dq D_Law_law_0_ok 54 rfl) 4 rfl ?_
      refine q_ic1 (pc := 286) (dq D_Law_law_0_ok 55 rfl) ?_
      refine q_iadd (pc := 287) (dq D_Law_law_0_ok 56 rfl) ?_
      refine r_sld (pc := 288) (dq D_Law_law_0_ok 57 rfl) (fun x9 => ?_)
      refine q_aload_n (pc := 289) (dq D_Law_law_0_ok 58 rfl) rfl 0 rfl ?_
      refine q_iload (pc := 290) (dq D_Law_law_0_ok 59 rfl) 4 rfl ?_
      refine q_ic2 (pc := 292) (dq D_Law_law_1_ok 0 rfl) ?_
      refine q_iadd (pc := 293) (dq D_Law_law_1_ok 1 rfl) ?_
      refine r_sld (pc := 294) (dq D_Law_law_1_ok 2 rfl) (fun x10 => ?_)
      refine q_aload_n (pc := 295) (dq D_Law_law_1_ok 3 rfl) rfl 0 rfl ?_
      refine q_iload (pc := 296) (dq D_Law_law_1_ok 4 rfl) 4 rfl ?_
      refine q_ic3 (pc := 298) (dq D_Law_law_1_ok 5 rfl) ?_
      refine q_iadd (pc := 299) (dq D_Law_law_1_ok 6 rfl) ?_
      refine r_sld (pc := 300) (dq D_Law_law_1_ok 7 rfl) (fun x11 => ?_)
      refine q_aload_n (pc := 301) (dq D_Law_law_1_ok 8 rfl) rfl 0 rfl ?_
      refine q_iload (pc := 302) (dq D_Law_law_1_ok 9 rfl) 4 rfl ?_
      refine q_ic4 (pc := 304) (dq D_Law_law_1_ok 10 rfl) ?_
      refine q_iadd (pc := 305) (dq D_Law_law_1_ok 11 rfl) ?_
      refine r_sld (pc := 306) (dq D_Law_law_1_ok 12 rfl) (fun x12 => ?_)
      refine q_aload_n (pc := 307) (dq D_Law_law_1_ok 13 rfl) rfl 0 rfl ?_
      refine q_iload (pc := 308) (dq D_Law_law_1_ok 14 rfl) 4 rfl ?_
      refine q_ic5 (pc := 310) (dq D_Law_law_1_ok 15 rfl) ?_
      refine q_iadd (pc := 311) (dq D_Law_law_1_ok 16 rfl) ?_
      refine r_sld (pc := 312) (dq D_Law_law_1_ok 17 rfl) (fun x13 => ?_)
      refine r_invI (Mc := M_m_feed) (pc := 313) (ci := 11) (rest := [.int r8]) 0 5 [.int x9, .int x10, .int x11, .int x12, .int x13] (dq D_Law_law_1_ok 18 rfl) rfl rfl lc_m_feed lv_m_feed_ ml_Law_23 rfl rfl rfl rfl (t_m_feed v2 x9 x10 x11 x12 x13 h7) (fun r15 h14 => ?_)
      refine q_ic_eq (pc := 316) 1705 (dq D_Law_law_1_ok 19 rfl) rfl ?_ ?_
      · exact T.lsub [0, 1, 2, 3, 4] rfl (tb_Law_law_1705 hk23 v1 v2 v3 v4 h14)
      · refine q_ic0 (pc := 319) (dq D_Law_law_1_ok 20 rfl) ?_
        exact r_retz (pc := 320) (dq D_Law_law_1_ok 21 rfl) rfl
    refine T.ite (fun e => ?_) (fun n1 => ?_)
    · refine r_tin (pc := 40) (c := 1) 321 (dq D_Law_law_0_ok 24 rfl) e (by decide) (by decide) rfl rfl ?_
      refine q_aload_n (pc := 321) (dq D_Law_law_1_ok 22 rfl) rfl 1 rfl ?_
      refine q_aload_n (pc := 322) (dq D_Law_law_1_ok 23 rfl) rfl 0 rfl ?_
      refine q_iload (pc := 323) (dq D_Law_law_1_ok 24 rfl) 4 rfl ?_
      refine q_ic1 (pc := 325) (dq D_Law_law_1_ok 25 rfl) ?_
      refine q_iadd (pc := 326) (dq D_Law_law_1_ok 26 rfl) ?_
      refine r_sld (pc := 327) (dq D_Law_law_1_ok 27 rfl) (fun x16 => ?_)
      refine r_invI (Mc := M_B_orrery) (pc := 328) (ci := 0) (rest := []) 7 1 [.int x16] (dq D_Law_law_1_ok 28 rfl) rfl rfl lc_B_orrery lv_B_orrery_ ml_Law_24 rfl rfl rfl rfl (t_B_orrery v1 x16 h) (fun r18 h17 => ?_)
      refine q_aload_n (pc := 331) (dq D_Law_law_1_ok 29 rfl) rfl 2 rfl ?_
      refine q_aload_n (pc := 332) (dq D_Law_law_1_ok 30 rfl) rfl 0 rfl ?_
      refine q_iload (pc := 333) (dq D_Law_law_1_ok 31 rfl) 4 rfl ?_
      refine q_ic1 (pc := 335) (dq D_Law_law_1_ok 32 rfl) ?_
      refine q_iadd (pc := 336) (dq D_Law_law_1_ok 33 rfl) ?_
      refine r_sld (pc := 337) (dq D_Law_law_1_ok 34 rfl) (fun x19 => ?_)
      refine r_invI (Mc := M_m_orrery) (pc := 338) (ci := 11) (rest := [.int r18]) 12 1 [.int x19] (dq D_Law_law_1_ok 35 rfl) rfl rfl lc_m_orrery lv_m_orrery_ ml_Law_27 rfl rfl rfl rfl (t_m_orrery v2 x19 h17) (fun r21 h20 => ?_)
      refine q_ic_eq (pc := 341) 1705 (dq D_Law_law_1_ok 36 rfl) rfl ?_ ?_
      · exact T.lsub [0, 1, 2, 3, 4] rfl (tb_Law_law_1705 hk23 v1 v2 v3 v4 h20)
      · refine q_ic0 (pc := 344) (dq D_Law_law_1_ok 37 rfl) ?_
        exact r_retz (pc := 345) (dq D_Law_law_1_ok 38 rfl) rfl
    refine T.ite (fun e => ?_) (fun n2 => ?_)
    · refine r_tin (pc := 40) (c := 2) 346 (dq D_Law_law_0_ok 24 rfl) e (by decide) (by decide) rfl rfl ?_
      refine q_aload_n (pc := 346) (dq D_Law_law_1_ok 39 rfl) rfl 1 rfl ?_
      refine r_invI (Mc := M_B_fault) (pc := 347) (ci := 0) (rest := []) 0 0 [] (dq D_Law_law_1_ok 40 rfl) rfl rfl lc_B_fault lv_B_fault_ ml_Law_28 rfl rfl rfl rfl (t_B_fault v1 h) (fun r23 h22 => ?_)
      refine q_aload_n (pc := 350) (dq D_Law_law_1_ok 41 rfl) rfl 2 rfl ?_
      refine r_invI (Mc := M_m_fault) (pc := 351) (ci := 11) (rest := [.int r23]) 0 0 [] (dq D_Law_law_1_ok 42 rfl) rfl rfl lc_m_fault lv_m_fault_ ml_Law_32 rfl rfl rfl rfl (t_m_fault v2 h22) (fun r25 h24 => ?_)
      refine q_ic_eq (pc := 354) 1705 (dq D_Law_law_1_ok 43 rfl) rfl ?_ ?_
      · exact T.lsub [0, 1, 2, 3, 4] rfl (tb_Law_law_1705 hk23 v1 v2 v3 v4 h24)
      · refine q_ic0 (pc := 357) (dq D_Law_law_1_ok 44 rfl) ?_
        exact r_retz (pc := 358) (dq D_Law_law_1_ok 45 rfl) rfl
    refine T.ite (fun e => ?_) (fun n3 => ?_)
    · refine r_tin (pc := 40) (c := 3) 359 (dq D_Law_law_0_ok 24 rfl) e (by decide) (by decide) rfl rfl ?_
      refine q_aload_n (pc := 359) (dq D_Law_law_1_ok 46 rfl) rfl 1 rfl ?_
      refine r_invI (Mc := M_B_where) (pc := 360) (ci := 0) (rest := []) 0 0 [] (dq D_Law_law_1_ok 47 rfl) rfl rfl lc_B_where lv_B_where_ ml_Law_33 rfl rfl rfl rfl (t_B_where v1 h) (fun r27 h26 => ?_)
      refine q_aload_n (pc := 363) (dq D_Law_law_1_ok 48 rfl) rfl 2 rfl ?_
      refine r_invI (Mc := M_m_where) (pc := 364) (ci := 11) (rest := [.int r27]) 0 0 [] (dq D_Law_law_1_ok 49 rfl) rfl rfl lc_m_where lv_m_where_ ml_Law_36 rfl rfl rfl rfl (t_m_where v2 h26) (fun r29 h28 => ?_)
      refine q_ic_eq (pc := 367) 1705 (dq D_Law_law_1_ok 50 rfl) rfl ?_ ?_
      · exact T.lsub [0, 1, 2, 3, 4] rfl (tb_Law_law_1705 hk23 v1 v2 v3 v4 h28)
      · refine q_ic0 (pc := 370) (dq D_Law_law_1_ok 51 rfl) ?_
        exact r_retz (pc := 371) (dq D_Law_law_1_ok 52 rfl) rfl
    refine T.ite (fun e => ?_) (fun n4 => ?_)
    · refine r_tin (pc := 40) (c := 4) 372 (dq D_Law_law_0_ok 24 rfl) e (by decide) (by decide) rfl rfl ?_
      refine q_aload_n (pc := 372) (dq D_Law_law_1_ok 53 rfl) rfl 1 rfl ?_
      refine q_aload_n (pc := 373) (dq D_Law_law_1_ok 54 rfl) rfl 0 rfl ?_
      refine q_iload (pc := 374) (dq D_Law_law_1_ok 55 rfl) 4 rfl ?_
      refine q_ic1 (pc := 376) (dq D_Law_law_1_ok 56 rfl) ?_
      refine q_iadd (pc := 377) (dq D_Law_law_1_ok 57 rfl) ?_
      refine r_sld (pc := 378) (dq D_Law_law_1_ok 58 rfl) (fun x30 => ?_)
      refine q_aload_n (pc := 379) (dq D_Law_law_1_ok 59 rfl) rfl 0 rfl ?_
      refine q_iload (pc := 380) (dq D_Law_law_2_ok 0 rfl) 4 rfl ?_
      refine q_ic2 (pc := 382) (dq D_Law_law_2_ok 1 rfl) ?_
      refine q_iadd (pc := 383) (dq D_Law_law_2_ok 2 rfl) ?_
      refine r_sld (pc := 384) (dq D_Law_law_2_ok 3 rfl) (fun x31 => ?_)
      refine r_invI (Mc := M_B_wheel) (pc := 385) (ci := 0) (rest := []) 2 2 [.int x30, .int x31] (dq D_Law_law_2_ok 4 rfl) rfl rfl lc_B_wheel lv_B_wheel_ ml_Law_37 rfl rfl rfl rfl (t_B_wheel v1 x30 x31 h) (fun r33 h32 => ?_)
      refine q_aload_n (pc := 388) (dq D_Law_law_2_ok 5 rfl) rfl 2 rfl ?_
      refine q_aload_n (pc := 389) (dq D_Law_law_2_ok 6 rfl) rfl 0 rfl ?_
      refine q_iload (pc := 390) (dq D_Law_law_2_ok 7 rfl) 4 rfl ?_
      refine q_ic1 (pc := 392) (dq D_Law_law_2_ok 8 rfl) ?_
      refine q_iadd (pc := 393) (dq D_Law_law_2_ok 9 rfl) ?_
      refine r_sld (pc := 394) (dq D_Law_law_2_ok 10 rfl) (fun x34 => ?_)
      refine q_aload_n (pc := 395) (dq D_Law_law_2_ok 11 rfl) rfl 0 rfl ?_
      refine q_iload (pc := 396) (dq D_Law_law_2_ok 12 rfl) 4 rfl ?_
      refine q_ic2 (pc := 398) (dq D_Law_law_2_ok 13 rfl) ?_
      refine q_iadd (pc := 399) (dq D_Law_law_2_ok 14 rfl) ?_
      refine r_sld (pc := 400) (dq D_Law_law_2_ok 15 rfl) (fun x35 => ?_)
      refine r_invI (Mc := M_m_wheel) (pc := 401) (ci := 11) (rest := [.int r33]) 2 2 [.int x34, .int x35] (dq D_Law_law_2_ok 16 rfl) rfl rfl lc_m_wheel lv_m_wheel_ ml_Law_41 rfl rfl rfl rfl (t_m_wheel v2 x34 x35 h32) (fun r37 h36 => ?_)
      refine q_ic_eq (pc := 404) 1705 (dq D_Law_law_2_ok 17 rfl) rfl ?_ ?_
      · exact T.lsub [0, 1, 2, 3, 4] rfl (tb_Law_law_1705 hk23 v1 v2 v3 v4 h36)
      · refine q_ic0 (pc := 407) (dq D_Law_law_2_ok 18 rfl) ?_
        exact r_retz (pc := 408) (dq D_Law_law_2_ok 19 rfl) rfl
    refine T.ite (fun e => ?_) (fun n5 => ?_)
    · refine r_tin (pc := 40) (c := 5) 409 (dq D_Law_law_0_ok 24 rfl) e (by decide) (by decide) rfl rfl ?_
      refine q_aload_n (pc := 409) (dq D_Law_law_2_ok 20 rfl) rfl 1 rfl ?_
      refine q_aload_n (pc := 410) (dq D_Law_law_2_ok 21 rfl) rfl 0 rfl ?_
      refine q_iload (pc := 411) (dq D_Law_law_2_ok 22 rfl) 4 rfl ?_
      refine q_ic1 (pc := 413) (dq D_Law_law_2_ok 23 rfl) ?_
      refine q_iadd (pc := 414) (dq D_Law_law_2_ok 24 rfl) ?_
      refine r_sld (pc := 415) (dq D_Law_law_2_ok 25 rfl) (fun x38 => ?_)
      refine q_aload_n (pc := 416) (dq D_Law_law_2_ok 26 rfl) rfl 0 rfl ?_
      refine q_iload (pc := 417) (dq D_Law_law_2_ok 27 rfl) 4 rfl ?_
      refine q_ic2 (pc := 419) (dq D_Law_law_2_ok 28 rfl) ?_
      refine q_iadd (pc := 420) (dq D_Law_law_2_ok 29 rfl) ?_
      refine r_sld (pc := 421) (dq D_Law_law_2_ok 30 rfl) (fun x39 => ?_)
      refine r_invI (Mc := M_B_isGone) (pc := 422) (ci := 0) (rest := []) 1 2 [.int x38, .int x39] (dq D_Law_law_2_ok 31 rfl) rfl rfl lc_B_isGone lv_B_isGone_ ml_Law_42 rfl rfl rfl rfl (t_B_isGone v1 x38 x39 h) (fun r41 h40 => ?_)
      refine q_aload_n (pc := 425) (dq D_Law_law_2_ok 32 rfl) rfl 2 rfl ?_
      refine q_aload_n (pc := 426) (dq D_Law_law_2_ok 33 rfl) rfl 0 rfl ?_
      refine q_iload (pc := 427) (dq D_Law_law_2_ok 34 rfl) 4 rfl ?_
      refine q_ic1 (pc := 429) (dq D_Law_law_2_ok 35 rfl) ?_
      refine q_iadd (pc := 430) (dq D_Law_law_2_ok 36 rfl) ?_
      refine r_sld (pc := 431) (dq D_Law_law_2_ok 37 rfl) (fun x42 => ?_)
      refine q_aload_n (pc := 432) (dq D_Law_law_2_ok 38 rfl) rfl 0 rfl ?_
      refine q_iload (pc := 433) (dq D_Law_law_2_ok 39 rfl) 4 rfl ?_
      refine q_ic2 (pc := 435) (dq D_Law_law_2_ok 40 rfl) ?_
      refine q_iadd (pc := 436) (dq D_Law_law_2_ok 41 rfl) ?_
      refine r_sld (pc := 437) (dq D_Law_law_2_ok 42 rfl) (fun x43 => ?_)
      refine r_invI (Mc := M_m_isGone) (pc := 438) (ci := 11) (rest := [.int r41]) 1 2 [.int x42, .int x43] (dq D_Law_law_2_ok 43 rfl) rfl rfl lc_m_isGone lv_m_isGone_ ml_Law_45 rfl rfl rfl rfl (t_m_isGone v2 x42 x43 h40) (fun r45 h44 => ?_)
      refine q_ic_eq (pc := 441) 1705 (dq D_Law_law_2_ok 44 rfl) rfl ?_ ?_
      · exact T.lsub [0, 1, 2, 3, 4] rfl (tb_Law_law_1705 hk23 v1 v2 v3 v4 h44)
      · refine q_ic0 (pc := 444) (dq D_Law_law_2_ok 45 rfl) ?_
        exact r_retz (pc := 445) (dq D_Law_law_2_ok 46 rfl) rfl
    refine T.ite (fun e => ?_) (fun n6 => ?_)
    · refine r_tin (pc := 40) (c := 6) 446 (dq D_Law_law_0_ok 24 rfl) e (by decide) (by decide) rfl rfl ?_
      refine q_aload_n (pc := 446) (dq D_Law_law_2_ok 47 rfl) rfl 1 rfl ?_
      refine q_aload_n (pc := 447) (dq D_Law_law_2_ok 48 rfl) rfl 0 rfl ?_
      refine q_iload (pc := 448) (dq D_Law_law_2_ok 49 rfl) 4 rfl ?_
      refine q_ic1 (pc := 450) (dq D_Law_law_2_ok 50 rfl) ?_
      refine q_iadd (pc := 451) (dq D_Law_law_2_ok 51 rfl) ?_
      refine r_sld (pc := 452) (dq D_Law_law_2_ok 52 rfl) (fun x46 => ?_)
      refine r_invI (Mc := M_B_now) (pc := 453) (ci := 0) (rest := []) 3 1 [.int x46] (dq D_Law_law_2_ok 53 rfl) rfl rfl lc_B_now lv_B_now_ ml_Law_46 rfl rfl rfl rfl (t_B_now v1 x46 h) (fun r48 h47 => ?_)
      refine q_aload_n (pc := 456) (dq D_Law_law_2_ok 54 rfl) rfl 2 rfl ?_
      refine q_aload_n (pc := 457) (dq D_Law_law_2_ok 55 rfl) rfl 0 rfl ?_
      refine q_iload (pc := 458) (dq D_Law_law_2_ok 56 rfl) 4 rfl ?_
      refine q_ic1 (pc := 460) (dq D_Law_law_2_ok 57 rfl) ?_
      refine q_iadd (pc := 461) (dq D_Law_law_2_ok 58 rfl) ?_
      refine r_sld (pc := 462) (dq D_Law_law_2_ok 59 rfl) (fun x49 => ?_)
      refine r_invI (Mc := M_m_now) (pc := 463) (ci := 11) (rest := [.int r48]) 3 1 [.int x49] (dq D_Law_law_3_ok 0 rfl) rfl rfl lc_m_now lv_m_now_ ml_Law_49 rfl rfl rfl rfl (t_m_now v2 x49 h47) (fun r51 h50 => ?_)
      refine q_ic_eq (pc := 466) 1705 (dq D_Law_law_3_ok 1 rfl) rfl ?_ ?_
      · exact T.lsub [0, 1, 2, 3, 4] rfl (tb_Law_law_1705 hk23 v1 v2 v3 v4 h50)
      · refine q_ic0 (pc := 469) (dq D_Law_law_3_ok 2 rfl) ?_
        exact r_retz (pc := 470) (dq D_Law_law_3_ok 3 rfl) rfl
    refine T.ite (fun e => ?_) (fun n7 => ?_)
    · refine r_tin (pc := 40) (c := 7) 471 (dq D_Law_law_0_ok 24 rfl) e (by decide) (by decide) rfl rfl ?_
      refine q_aload_n (pc := 471) (dq D_Law_law_3_ok 4 rfl) rfl 1 rfl ?_
      refine q_aload_n (pc := 472) (dq D_Law_law_3_ok 5 rfl) rfl 0 rfl ?_
      refine q_iload (pc := 473) (dq D_Law_law_3_ok 6 rfl) 4 rfl ?_
      refine q_ic1 (pc := 475) (dq D_Law_law_3_ok 7 rfl) ?_
      refine q_iadd (pc := 476) (dq D_Law_law_3_ok 8 rfl) ?_
      refine r_sld (pc := 477) (dq D_Law_law_3_ok 9 rfl) (fun x52 => ?_)
      refine q_aload_n (pc := 478) (dq D_Law_law_3_ok 10 rfl) rfl 0 rfl ?_
      refine q_iload (pc := 479) (dq D_Law_law_3_ok 11 rfl) 4 rfl ?_
      refine q_ic2 (pc := 481) (dq D_Law_law_3_ok 12 rfl) ?_
      refine q_iadd (pc := 482) (dq D_Law_law_3_ok 13 rfl) ?_
      refine r_sld (pc := 483) (dq D_Law_law_3_ok 14 rfl) (fun x53 => ?_)
      refine r_invI (Mc := M_B_work) (pc := 484) (ci := 0) (rest := []) 1 2 [.int x52, .int x53] (dq D_Law_law_3_ok 15 rfl) rfl rfl lc_B_work lv_B_work_ ml_Law_50 rfl rfl rfl rfl (t_B_work v1 x52 x53 h) (fun r55 h54 => ?_)
      refine q_aload_n (pc := 487) (dq D_Law_law_3_ok 16 rfl) rfl 2 rfl ?_
      refine q_aload_n (pc := 488) (dq D_Law_law_3_ok 17 rfl) rfl 0 rfl ?_
      refine q_iload (pc := 489) (dq D_Law_law_3_ok 18 rfl) 4 rfl ?_
      refine q_ic1 (pc := 491) (dq D_Law_law_3_ok 19 rfl) ?_
      refine q_iadd (pc := 492) (dq D_Law_law_3_ok 20 rfl) ?_
      refine r_sld (pc := 493) (dq D_Law_law_3_ok 21 rfl) (fun x56 => ?_)
      refine q_aload_n (pc := 494) (dq D_Law_law_3_ok 22 rfl) rfl 0 rfl ?_
      refine q_iload (pc := 495) (dq D_Law_law_3_ok 23 rfl) 4 rfl ?_
      refine q_ic2 (pc := 497) (dq D_Law_law_3_ok 24 rfl) ?_
      refine q_iadd (pc := 498) (dq D_Law_law_3_ok 25 rfl) ?_
      refine r_sld (pc := 499) (dq D_Law_law_3_ok 26 rfl) (fun x57 => ?_)
      refine r_invI (Mc := M_m_work) (pc := 500) (ci := 11) (rest := [.int r55]) 1 2 [.int x56, .int x57] (dq D_Law_law_3_ok 27 rfl) rfl rfl lc_m_work lv_m_work_ ml_Law_53 rfl rfl rfl rfl (t_m_work v2 x56 x57 h54) (fun r59 h58 => ?_)
      refine q_ic_eq (pc := 503) 1705 (dq D_Law_law_3_ok 28 rfl) rfl ?_ ?_
      · exact T.lsub [0, 1, 2, 3, 4] rfl (tb_Law_law_1705 hk23 v1 v2 v3 v4 h58)
      · refine q_ic0 (pc := 506) (dq D_Law_law_3_ok 29 rfl) ?_
        exact r_retz (pc := 507) (dq D_Law_law_3_ok 30 rfl) rfl
    refine T.ite (fun e => ?_) (fun n8 => ?_)
    · refine r_tin (pc := 40) (c := 8) 508 (dq D_Law_law_0_ok 24 rfl) e (by decide) (by decide) rfl rfl ?_
      refine q_aload_n (pc := 508) (dq D_Law_law_3_ok 31 rfl) rfl 1 rfl ?_
      refine q_aload_n (pc := 509) (dq D_Law_law_3_ok 32 rfl) rfl 0 rfl ?_
      refine q_iload (pc := 510) (dq D_Law_law_3_ok 33 rfl) 4 rfl ?_
      refine q_ic1 (pc := 512) (dq D_Law_law_3_ok 34 rfl) ?_
      refine q_iadd (pc := 513) (dq D_Law_law_3_ok 35 rfl) ?_
      refine r_sld (pc := 514) (dq D_Law_law_3_ok 36 rfl) (fun x60 => ?_)
      refine q_aload_n (pc := 515) (dq D_Law_law_3_ok 37 rfl) rfl 0 rfl ?_
      refine q_iload (pc := 516) (dq D_Law_law_3_ok 38 rfl) 4 rfl ?_
      refine q_ic2 (pc := 518) (dq D_Law_law_3_ok 39 rfl) ?_
      refine q_iadd (pc := 519) (dq D_Law_law_3_ok 40 rfl) ?_
      refine r_sld (pc := 520) (dq D_Law_law_3_ok 41 rfl) (fun x61 => ?_)
      refine r_invI (Mc := M_B_toothIn) (pc := 521) (ci := 0) (rest := []) 4 2 [.int x60, .int x61] (dq D_Law_law_3_ok 42 rfl) rfl rfl lc_B_toothIn lv_B_toothIn_ ml_Law_54 rfl rfl rfl rfl (t_B_toothIn v1 x60 x61 h) (fun r63 h62 => ?_)
      refine q_aload_n (pc := 524) (dq D_Law_law_3_ok 43 rfl) rfl 2 rfl ?_
      refine q_aload_n (pc := 525) (dq D_Law_law_3_ok 44 rfl) rfl 0 rfl ?_
      refine q_iload (pc := 526) (dq D_Law_law_3_ok 45 rfl) 4 rfl ?_
      refine q_ic1 (pc := 528) (dq D_Law_law_3_ok 46 rfl) ?_
      refine q_iadd (pc := 529) (dq D_Law_law_3_ok 47 rfl) ?_
      refine r_sld (pc := 530) (dq D_Law_law_3_ok 48 rfl) (fun x64 => ?_)
      refine q_aload_n (pc := 531) (dq D_Law_law_3_ok 49 rfl) rfl 0 rfl ?_
      refine q_iload (pc := 532) (dq D_Law_law_3_ok 50 rfl) 4 rfl ?_
      refine q_ic2 (pc := 534) (dq D_Law_law_3_ok 51 rfl) ?_
      refine q_iadd (pc := 535) (dq D_Law_law_3_ok 52 rfl) ?_
      refine r_sld (pc := 536) (dq D_Law_law_3_ok 53 rfl) (fun x65 => ?_)
      refine r_invI (Mc := M_m_toothIn) (pc := 537) (ci := 11) (rest := [.int r63]) 3 2 [.int x64, .int x65] (dq D_Law_law_3_ok 54 rfl) rfl rfl lc_m_toothIn lv_m_toothIn_ ml_Law_57 rfl rfl rfl rfl (t_m_toothIn v2 x64 x65 h62) (fun r67 h66 => ?_)
      refine q_ic_eq (pc := 540) 1705 (dq D_Law_law_3_ok 55 rfl) rfl ?_ ?_
      · exact T.lsub [0, 1, 2, 3, 4] rfl (tb_Law_law_1705 hk23 v1 v2 v3 v4 h66)
      · refine q_ic0 (pc := 543) (dq D_Law_law_3_ok 56 rfl) ?_
        exact r_retz (pc := 544) (dq D_Law_law_3_ok 57 rfl) rfl
    refine T.ite (fun e => ?_) (fun n9 => ?_)
    · refine r_tin (pc := 40) (c := 9) 545 (dq D_Law_law_0_ok 24 rfl) e (by decide) (by decide) rfl rfl ?_
      refine q_aload_n (pc := 545) (dq D_Law_law_3_ok 58 rfl) rfl 1 rfl ?_
      refine q_aload_n (pc := 546) (dq D_Law_law_3_ok 59 rfl) rfl 0 rfl ?_
      refine q_iload (pc := 547) (dq D_Law_law_4_ok 0 rfl) 4 rfl ?_
      refine q_ic1 (pc := 549) (dq D_Law_law_4_ok 1 rfl) ?_
      refine q_iadd (pc := 550) (dq D_Law_law_4_ok 2 rfl) ?_
      refine r_sld (pc := 551) (dq D_Law_law_4_ok 3 rfl) (fun x68 => ?_)
      refine q_aload_n (pc := 552) (dq D_Law_law_4_ok 4 rfl) rfl 0 rfl ?_
      refine q_iload (pc := 553) (dq D_Law_law_4_ok 5 rfl) 4 rfl ?_
      refine q_ic2 (pc := 555) (dq D_Law_law_4_ok 6 rfl) ?_
      refine q_iadd (pc := 556) (dq D_Law_law_4_ok 7 rfl) ?_
      refine r_sld (pc := 557) (dq D_Law_law_4_ok 8 rfl) (fun x69 => ?_)
      refine r_invI (Mc := M_B_jerks) (pc := 558) (ci := 0) (rest := []) 4 2 [.int x68, .int x69] (dq D_Law_law_4_ok 9 rfl) rfl rfl lc_B_jerks lv_B_jerks_ ml_Law_58 rfl rfl rfl rfl (t_B_jerks v1 x68 x69 h) (fun r71 h70 => ?_)
      refine q_aload_n (pc := 561) (dq D_Law_law_4_ok 10 rfl) rfl 2 rfl ?_
      refine q_aload_n (pc := 562) (dq D_Law_law_4_ok 11 rfl) rfl 0 rfl ?_
      refine q_iload (pc := 563) (dq D_Law_law_4_ok 12 rfl) 4 rfl ?_
      refine q_ic1 (pc := 565) (dq D_Law_law_4_ok 13 rfl) ?_
      refine q_iadd (pc := 566) (dq D_Law_law_4_ok 14 rfl) ?_
      refine r_sld (pc := 567) (dq D_Law_law_4_ok 15 rfl) (fun x72 => ?_)
      refine q_aload_n (pc := 568) (dq D_Law_law_4_ok 16 rfl) rfl 0 rfl ?_
      refine q_iload (pc := 569) (dq D_Law_law_4_ok 17 rfl) 4 rfl ?_
      refine q_ic2 (pc := 571) (dq D_Law_law_4_ok 18 rfl) ?_
      refine q_iadd (pc := 572) (dq D_Law_law_4_ok 19 rfl) ?_
      refine r_sld (pc := 573) (dq D_Law_law_4_ok 20 rfl) (fun x73 => ?_)
      refine r_invI (Mc := M_m_jerks) (pc := 574) (ci := 11) (rest := [.int r71]) 2 2 [.int x72, .int x73] (dq D_Law_law_4_ok 21 rfl) rfl rfl lc_m_jerks lv_m_jerks_ ml_Law_61 rfl rfl rfl rfl (t_m_jerks v2 x72 x73 h70) (fun r75 h74 => ?_)
      refine q_ic_eq (pc := 577) 1705 (dq D_Law_law_4_ok 22 rfl) rfl ?_ ?_
      · exact T.lsub [0, 1, 2, 3, 4] rfl (tb_Law_law_1705 hk23 v1 v2 v3 v4 h74)
      · refine q_ic0 (pc := 580) (dq D_Law_law_4_ok 23 rfl) ?_
        exact r_retz (pc := 581) (dq D_Law_law_4_ok 24 rfl) rfl
    refine T.ite (fun e => ?_) (fun n10 => ?_)
    · refine r_tin (pc := 40) (c := 10) 582 (dq D_Law_law_0_ok 24 rfl) e (by decide) (by decide) rfl rfl ?_
      refine q_aload_n (pc := 582) (dq D_Law_law_4_ok 25 rfl) rfl 1 rfl ?_
      refine q_aload_n (pc := 583) (dq D_Law_law_4_ok 26 rfl) rfl 0 rfl ?_
      refine q_iload (pc := 584) (dq D_Law_law_4_ok 27 rfl) 4 rfl ?_
      refine q_ic1 (pc := 586) (dq D_Law_law_4_ok 28 rfl) ?_
      refine q_iadd (pc := 587) (dq D_Law_law_4_ok 29 rfl) ?_
      refine r_sld (pc := 588) (dq D_Law_law_4_ok 30 rfl) (fun x76 => ?_)
      refine r_invI (Mc := M_B_comesRound) (pc := 589) (ci := 0) (rest := []) 4 1 [.int x76] (dq D_Law_law_4_ok 31 rfl) rfl rfl lc_B_comesRound lv_B_comesRound_ ml_Law_62 rfl rfl rfl rfl (t_B_comesRound v1 x76 h) (fun r78 h77 => ?_)
      refine q_aload_n (pc := 592) (dq D_Law_law_4_ok 32 rfl) rfl 2 rfl ?_
      refine q_aload_n (pc := 593) (dq D_Law_law_4_ok 33 rfl) rfl 0 rfl ?_
      refine q_iload (pc := 594) (dq D_Law_law_4_ok 34 rfl) 4 rfl ?_
      refine q_ic1 (pc := 596) (dq D_Law_law_4_ok 35 rfl) ?_
      refine q_iadd (pc := 597) (dq D_Law_law_4_ok 36 rfl) ?_
      refine r_sld (pc := 598) (dq D_Law_law_4_ok 37 rfl) (fun x79 => ?_)
      refine r_invI (Mc := M_m_comesRound) (pc := 599) (ci := 11) (rest := [.int r78]) 2 1 [.int x79] (dq D_Law_law_4_ok 38 rfl) rfl rfl lc_m_comesRound lv_m_comesRound_ ml_Law_65 rfl rfl rfl rfl (t_m_comesRound v2 x79 h77) (fun r81 h80 => ?_)
      refine q_ic_eq (pc := 602) 1705 (dq D_Law_law_4_ok 39 rfl) rfl ?_ ?_
      · exact T.lsub [0, 1, 2, 3, 4] rfl (tb_Law_law_1705 hk23 v1 v2 v3 v4 h80)
      · refine q_ic0 (pc := 605) (dq D_Law_law_4_ok 40 rfl) ?_
        exact r_retz (pc := 606) (dq D_Law_law_4_ok 41 rfl) rfl
    refine T.ite (fun e => ?_) (fun n11 => ?_)
    · refine r_tin (pc := 40) (c := 11) 607 (dq D_Law_law_0_ok 24 rfl) e (by decide) (by decide) rfl rfl ?_
      refine q_aload_n (pc := 607) (dq D_Law_law_4_ok 42 rfl) rfl 1 rfl ?_
      refine q_aload_n (pc := 608) (dq D_Law_law_4_ok 43 rfl) rfl 0 rfl ?_
      refine q_iload (pc := 609) (dq D_Law_law_4_ok 44 rfl) 4 rfl ?_
      refine q_ic1 (pc := 611) (dq D_Law_law_4_ok 45 rfl) ?_
      refine q_iadd (pc := 612) (dq D_Law_law_4_ok 46 rfl) ?_
      refine r_sld (pc := 613) (dq D_Law_law_4_ok 47 rfl) (fun x82 => ?_)
      refine r_invI (Mc := M_B_idle) (pc := 614) (ci := 0) (rest := []) 4 1 [.int x82] (dq D_Law_law_4_ok 48 rfl) rfl rfl lc_B_idle lv_B_idle_ ml_Law_66 rfl rfl rfl rfl (t_B_idle v1 x82 h) (fun r84 h83 => ?_)
      refine q_aload_n (pc := 617) (dq D_Law_law_4_ok 49 rfl) rfl 2 rfl ?_
      refine q_aload_n (pc := 618) (dq D_Law_law_4_ok 50 rfl) rfl 0 rfl ?_
      refine q_iload (pc := 619) (dq D_Law_law_4_ok 51 rfl) 4 rfl ?_
      refine q_ic1 (pc := 621) (dq D_Law_law_4_ok 52 rfl) ?_
      refine q_iadd (pc := 622) (dq D_Law_law_4_ok 53 rfl) ?_
      refine r_sld (pc := 623) (dq D_Law_law_4_ok 54 rfl) (fun x85 => ?_)
      refine r_invI (Mc := M_m_idle) (pc := 624) (ci := 11) (rest := [.int r84]) 2 1 [.int x85] (dq D_Law_law_4_ok 55 rfl) rfl rfl lc_m_idle lv_m_idle_ ml_Law_69 rfl rfl rfl rfl (t_m_idle v2 x85 h83) (fun r87 h86 => ?_)
      refine q_ic_eq (pc := 627) 1705 (dq D_Law_law_4_ok 56 rfl) rfl ?_ ?_
      · exact T.lsub [0, 1, 2, 3, 4] rfl (tb_Law_law_1705 hk23 v1 v2 v3 v4 h86)
      · refine q_ic0 (pc := 630) (dq D_Law_law_4_ok 57 rfl) ?_
        exact r_retz (pc := 631) (dq D_Law_law_4_ok 58 rfl) rfl
    refine T.ite (fun e => ?_) (fun n12 => ?_)
    · refine r_tin (pc := 40) (c := 12) 632 (dq D_Law_law_0_ok 24 rfl) e (by decide) (by decide) rfl rfl ?_
      refine q_aload_n (pc := 632) (dq D_Law_law_4_ok 59 rfl) rfl 1 rfl ?_
      refine q_aload_n (pc := 633) (dq D_Law_law_5_ok 0 rfl) rfl 0 rfl ?_
      refine q_iload (pc := 634) (dq D_Law_law_5_ok 1 rfl) 4 rfl ?_
      refine q_ic1 (pc := 636) (dq D_Law_law_5_ok 2 rfl) ?_
      refine q_iadd (pc := 637) (dq D_Law_law_5_ok 3 rfl) ?_
      refine r_sld (pc := 638) (dq D_Law_law_5_ok 4 rfl) (fun x88 => ?_)
      refine r_invI (Mc := M_B_next) (pc := 639) (ci := 0) (rest := []) 6 1 [.int x88] (dq D_Law_law_5_ok 5 rfl) rfl rfl lc_B_next lv_B_next_ ml_Law_70 rfl rfl rfl rfl (t_B_next v1 x88 h) (fun r90 h89 => ?_)
      refine q_aload_n (pc := 642) (dq D_Law_law_5_ok 6 rfl) rfl 2 rfl ?_
      refine q_aload_n (pc := 643) (dq D_Law_law_5_ok 7 rfl) rfl 0 rfl ?_
      refine q_iload (pc := 644) (dq D_Law_law_5_ok 8 rfl) 4 rfl ?_
      refine q_ic1 (pc := 646) (dq D_Law_law_5_ok 9 rfl) ?_
      refine q_iadd (pc := 647) (dq D_Law_law_5_ok 10 rfl) ?_
      refine r_sld (pc := 648) (dq D_Law_law_5_ok 11 rfl) (fun x91 => ?_)
      refine r_invI (Mc := M_m_next) (pc := 649) (ci := 11) (rest := [.int r90]) 4 1 [.int x91] (dq D_Law_law_5_ok 12 rfl) rfl rfl lc_m_next lv_m_next_ ml_Law_73 rfl rfl rfl rfl (t_m_next v2 x91 h89) (fun r93 h92 => ?_)
      refine q_ic_eq (pc := 652) 1705 (dq D_Law_law_5_ok 13 rfl) rfl ?_ ?_
      · exact T.lsub [0, 1, 2, 3, 4] rfl (tb_Law_law_1705 hk23 v1 v2 v3 v4 h92)
      · refine q_ic0 (pc := 655) (dq D_Law_law_5_ok 14 rfl) ?_
        exact r_retz (pc := 656) (dq D_Law_law_5_ok 15 rfl) rfl
    refine T.ite (fun e => ?_) (fun n13 => ?_)
    · refine r_tin (pc := 40) (c := 13) 657 (dq D_Law_law_0_ok 24 rfl) e (by decide) (by decide) rfl rfl ?_
      refine q_aload_n (pc := 657) (dq D_Law_law_5_ok 16 rfl) rfl 1 rfl ?_
      refine q_aload_n (pc := 658) (dq D_Law_law_5_ok 17 rfl) rfl 0 rfl ?_
      refine q_iload (pc := 659) (dq D_Law_law_5_ok 18 rfl) 4 rfl ?_
      refine q_ic1 (pc := 661) (dq D_Law_law_5_ok 19 rfl) ?_
      refine q_iadd (pc := 662) (dq D_Law_law_5_ok 20 rfl) ?_
      refine r_sld (pc := 663) (dq D_Law_law_5_ok 21 rfl) (fun x94 => ?_)
      refine q_aload_n (pc := 664) (dq D_Law_law_5_ok 22 rfl) rfl 0 rfl ?_
      refine q_iload (pc := 665) (dq D_Law_law_5_ok 23 rfl) 4 rfl ?_
      refine q_ic2 (pc := 667) (dq D_Law_law_5_ok 24 rfl) ?_
      refine q_iadd (pc := 668) (dq D_Law_law_5_ok 25 rfl) ?_
      refine r_sld (pc := 669) (dq D_Law_law_5_ok 26 rfl) (fun x95 => ?_)
      refine r_invI (Mc := M_B_often) (pc := 670) (ci := 0) (rest := []) 7 2 [.int x94, .int x95] (dq D_Law_law_5_ok 27 rfl) rfl rfl lc_B_often lv_B_often_ ml_Law_74 rfl rfl rfl rfl (t_B_often v1 x94 x95 h) (fun r97 h96 => ?_)
      refine q_aload_n (pc := 673) (dq D_Law_law_5_ok 28 rfl) rfl 2 rfl ?_
      refine q_aload_n (pc := 674) (dq D_Law_law_5_ok 29 rfl) rfl 0 rfl ?_
      refine q_iload (pc := 675) (dq D_Law_law_5_ok 30 rfl) 4 rfl ?_
      refine q_ic1 (pc := 677) (dq D_Law_law_5_ok 31 rfl) ?_
      refine q_iadd (pc := 678) (dq D_Law_law_5_ok 32 rfl) ?_
      refine r_sld (pc := 679) (dq D_Law_law_5_ok 33 rfl) (fun x98 => ?_)
      refine q_aload_n (pc := 680) (dq D_Law_law_5_ok 34 rfl) rfl 0 rfl ?_
      refine q_iload (pc := 681) (dq D_Law_law_5_ok 35 rfl) 4 rfl ?_
      refine q_ic2 (pc := 683) (dq D_Law_law_5_ok 36 rfl) ?_
      refine q_iadd (pc := 684) (dq D_Law_law_5_ok 37 rfl) ?_
      refine r_sld (pc := 685) (dq D_Law_law_5_ok 38 rfl) (fun x99 => ?_)
      refine r_invI (Mc := M_m_often) (pc := 686) (ci := 11) (rest := [.int r97]) 3 2 [.int x98, .int x99] (dq D_Law_law_5_ok 39 rfl) rfl rfl lc_m_often lv_m_often_ ml_Law_77 rfl rfl rfl rfl (t_m_often v2 x98 x99 h96) (fun r101 h100 => ?_)
      refine q_ic_eq (pc := 689) 1705 (dq D_Law_law_5_ok 40 rfl) rfl ?_ ?_
      · exact T.lsub [0, 1, 2, 3, 4] rfl (tb_Law_law_1705 hk23 v1 v2 v3 v4 h100)
      · refine q_ic0 (pc := 692) (dq D_Law_law_5_ok 41 rfl) ?_
        exact r_retz (pc := 693) (dq D_Law_law_5_ok 42 rfl) rfl
    refine T.ite (fun e => ?_) (fun n14 => ?_)
    · refine r_tin (pc := 40) (c := 14) 694 (dq D_Law_law_0_ok 24 rfl) e (by decide) (by decide) rfl rfl ?_
      refine q_aload_n (pc := 694) (dq D_Law_law_5_ok 43 rfl) rfl 1 rfl ?_
      refine q_aload_n (pc := 695) (dq D_Law_law_5_ok 44 rfl) rfl 0 rfl ?_
      refine q_iload (pc := 696) (dq D_Law_law_5_ok 45 rfl) 4 rfl ?_
      refine q_ic1 (pc := 698) (dq D_Law_law_5_ok 46 rfl) ?_
      refine q_iadd (pc := 699) (dq D_Law_law_5_ok 47 rfl) ?_
      refine r_sld (pc := 700) (dq D_Law_law_5_ok 48 rfl) (fun x102 => ?_)
      refine q_aload_n (pc := 701) (dq D_Law_law_5_ok 49 rfl) rfl 0 rfl ?_
      refine q_iload (pc := 702) (dq D_Law_law_5_ok 50 rfl) 4 rfl ?_
      refine q_ic2 (pc := 704) (dq D_Law_law_5_ok 51 rfl) ?_
      refine q_iadd (pc := 705) (dq D_Law_law_5_ok 52 rfl) ?_
      refine r_sld (pc := 706) (dq D_Law_law_5_ok 53 rfl) (fun x103 => ?_)
      refine r_invI (Mc := M_B_meet) (pc := 707) (ci := 0) (rest := []) 6 2 [.int x102, .int x103] (dq D_Law_law_5_ok 54 rfl) rfl rfl lc_B_meet lv_B_meet_ ml_Law_78 rfl rfl rfl rfl (t_B_meet v1 x102 x103 h) (fun r105 h104 => ?_)
      refine q_aload_n (pc := 710) (dq D_Law_law_5_ok 55 rfl) rfl 2 rfl ?_
      refine q_aload_n (pc := 711) (dq D_Law_law_5_ok 56 rfl) rfl 0 rfl ?_
      refine q_iload (pc := 712) (dq D_Law_law_5_ok 57 rfl) 4 rfl ?_
      refine q_ic1 (pc := 714) (dq D_Law_law_5_ok 58 rfl) ?_
      refine q_iadd (pc := 715) (dq D_Law_law_5_ok 59 rfl) ?_
      refine r_sld (pc := 716) (dq D_Law_law_6_ok 0 rfl) (fun x106 => ?_)
      refine q_aload_n (pc := 717) (dq D_Law_law_6_ok 1 rfl) rfl 0 rfl ?_
      refine q_iload (pc := 718) (dq D_Law_law_6_ok 2 rfl) 4 rfl ?_
      refine q_ic2 (pc := 720) (dq D_Law_law_6_ok 3 rfl) ?_
      refine q_iadd (pc := 721) (dq D_Law_law_6_ok 4 rfl) ?_
      refine r_sld (pc := 722) (dq D_Law_law_6_ok 5 rfl) (fun x107 => ?_)
      refine r_invI (Mc := M_m_meet) (pc := 723) (ci := 11) (rest := [.int r105]) 4 2 [.int x106, .int x107] (dq D_Law_law_6_ok 6 rfl) rfl rfl lc_m_meet lv_m_meet_ ml_Law_81 rfl rfl rfl rfl (t_m_meet v2 x106 x107 h104) (fun r109 h108 => ?_)
      refine q_ic_eq (pc := 726) 1705 (dq D_Law_law_6_ok 7 rfl) rfl ?_ ?_
      · exact T.lsub [0, 1, 2, 3, 4] rfl (tb_Law_law_1705 hk23 v1 v2 v3 v4 h108)
      · refine q_ic0 (pc := 729) (dq D_Law_law_6_ok 8 rfl) ?_
        exact r_retz (pc := 730) (dq D_Law_law_6_ok 9 rfl) rfl
    refine T.ite (fun e => ?_) (fun n15 => ?_)
    · refine r_tin (pc := 40) (c := 15) 731 (dq D_Law_law_0_ok 24 rfl) e (by decide) (by decide) rfl rfl ?_
      refine q_aload_n (pc := 731) (dq D_Law_law_6_ok 10 rfl) rfl 1 rfl ?_
      refine r_invI (Mc := M_B_soonest) (pc := 732) (ci := 0) (rest := []) 7 0 [] (dq D_Law_law_6_ok 11 rfl) rfl rfl lc_B_soonest lv_B_soonest_ ml_Law_82 rfl rfl rfl rfl (t_B_soonest v1 h) (fun r111 h110 => ?_)
      refine q_aload_n (pc := 735) (dq D_Law_law_6_ok 12 rfl) rfl 2 rfl ?_
      refine r_invI (Mc := M_m_soonest) (pc := 736) (ci := 11) (rest := [.int r111]) 4 0 [] (dq D_Law_law_6_ok 13 rfl) rfl rfl lc_m_soonest lv_m_soonest_ ml_Law_85 rfl rfl rfl rfl (t_m_soonest v2 h110) (fun r113 h112 => ?_)
      refine q_ic_eq (pc := 739) 1705 (dq D_Law_law_6_ok 14 rfl) rfl ?_ ?_
      · exact T.lsub [0, 1, 2, 3, 4] rfl (tb_Law_law_1705 hk23 v1 v2 v3 v4 h112)
      · refine q_ic0 (pc := 742) (dq D_Law_law_6_ok 15 rfl) ?_
        exact r_retz (pc := 743) (dq D_Law_law_6_ok 16 rfl) rfl
    refine T.ite (fun e => ?_) (fun n16 => ?_)
    · refine r_tin (pc := 40) (c := 16) 744 (dq D_Law_law_0_ok 24 rfl) e (by decide) (by decide) rfl rfl ?_
      refine q_aload_n (pc := 744) (dq D_Law_law_6_ok 17 rfl) rfl 1 rfl ?_
      refine q_aload_n (pc := 745) (dq D_Law_law_6_ok 18 rfl) rfl 0 rfl ?_
      refine q_iload (pc := 746) (dq D_Law_law_6_ok 19 rfl) 4 rfl ?_
      refine q_ic1 (pc := 748) (dq D_Law_law_6_ok 20 rfl) ?_
      refine q_iadd (pc := 749) (dq D_Law_law_6_ok 21 rfl) ?_
      refine r_sld (pc := 750) (dq D_Law_law_6_ok 22 rfl) (fun x114 => ?_)
      refine r_invI (Mc := M_B_longestGap) (pc := 751) (ci := 0) (rest := []) 7 1 [.int x114] (dq D_Law_law_6_ok 23 rfl) rfl rfl lc_B_longestGap lv_B_longestGap_ ml_Law_86 rfl rfl rfl rfl (t_B_longestGap v1 x114 h) (fun r116 h115 => ?_)
      refine q_aload_n (pc := 754) (dq D_Law_law_6_ok 24 rfl) rfl 2 rfl ?_
      refine q_aload_n (pc := 755) (dq D_Law_law_6_ok 25 rfl) rfl 0 rfl ?_
      refine q_iload (pc := 756) (dq D_Law_law_6_ok 26 rfl) 4 rfl ?_
      refine q_ic1 (pc := 758) (dq D_Law_law_6_ok 27 rfl) ?_
      refine q_iadd (pc := 759) (dq D_Law_law_6_ok 28 rfl) ?_
      refine r_sld (pc := 760) (dq D_Law_law_6_ok 29 rfl) (fun x117 => ?_)
      refine r_invI (Mc := M_m_longestGap) (pc := 761) (ci := 11) (rest := [.int r116]) 3 1 [.int x117] (dq D_Law_law_6_ok 30 rfl) rfl rfl lc_m_longestGap lv_m_longestGap_ ml_Law_89 rfl rfl rfl rfl (t_m_longestGap v2 x117 h115) (fun r119 h118 => ?_)
      refine q_ic_eq (pc := 764) 1705 (dq D_Law_law_6_ok 31 rfl) rfl ?_ ?_
      · exact T.lsub [0, 1, 2, 3, 4] rfl (tb_Law_law_1705 hk23 v1 v2 v3 v4 h118)
      · refine q_ic0 (pc := 767) (dq D_Law_law_6_ok 32 rfl) ?_
        exact r_retz (pc := 768) (dq D_Law_law_6_ok 33 rfl) rfl
    refine T.ite (fun e => ?_) (fun n17 => ?_)
    · refine r_tin (pc := 40) (c := 17) 769 (dq D_Law_law_0_ok 24 rfl) e (by decide) (by decide) rfl rfl ?_
      refine q_aload_n (pc := 769) (dq D_Law_law_6_ok 34 rfl) rfl 1 rfl ?_
      refine q_aload_n (pc := 770) (dq D_Law_law_6_ok 35 rfl) rfl 0 rfl ?_
      refine q_iload (pc := 771) (dq D_Law_law_6_ok 36 rfl) 4 rfl ?_
      refine q_ic1 (pc := 773) (dq D_Law_law_6_ok 37 rfl) ?_
      refine q_iadd (pc := 774) (dq D_Law_law_6_ok 38 rfl) ?_
      refine r_sld (pc := 775) (dq D_Law_law_6_ok 39 rfl) (fun x120 => ?_)
      refine q_aload_n (pc := 776) (dq D_Law_law_6_ok 40 rfl) rfl 0 rfl ?_
      refine q_iload (pc := 777) (dq D_Law_law_6_ok 41 rfl) 4 rfl ?_
      refine q_ic2 (pc := 779) (dq D_Law_law_6_ok 42 rfl) ?_
      refine q_iadd (pc := 780) (dq D_Law_law_6_ok 43 rfl) ?_
      refine r_sld (pc := 781) (dq D_Law_law_6_ok 44 rfl) (fun x121 => ?_)
      refine q_aload_n (pc := 782) (dq D_Law_law_6_ok 45 rfl) rfl 0 rfl ?_
      refine q_iload (pc := 783) (dq D_Law_law_6_ok 46 rfl) 4 rfl ?_
      refine q_ic3 (pc := 785) (dq D_Law_law_6_ok 47 rfl) ?_
      refine q_iadd (pc := 786) (dq D_Law_law_6_ok 48 rfl) ?_
      refine r_sld (pc := 787) (dq D_Law_law_6_ok 49 rfl) (fun x122 => ?_)
      refine r_invI (Mc := M_B_setFor) (pc := 788) (ci := 0) (rest := []) 5 3 [.int x120, .int x121, .int x122] (dq D_Law_law_6_ok 50 rfl) rfl rfl lc_B_setFor lv_B_setFor_ ml_Law_90 rfl rfl rfl rfl (t_B_setFor v1 x120 x121 x122 h) (fun r124 h123 => ?_)
      refine q_aload_n (pc := 791) (dq D_Law_law_6_ok 51 rfl) rfl 2 rfl ?_
      refine q_aload_n (pc := 792) (dq D_Law_law_6_ok 52 rfl) rfl 0 rfl ?_
      refine q_iload (pc := 793) (dq D_Law_law_6_ok 53 rfl) 4 rfl ?_
      refine q_ic1 (pc := 795) (dq D_Law_law_6_ok 54 rfl) ?_
      refine q_iadd (pc := 796) (dq D_Law_law_6_ok 55 rfl) ?_
      refine r_sld (pc := 797) (dq D_Law_law_6_ok 56 rfl) (fun x125 => ?_)
      refine q_aload_n (pc := 798) (dq D_Law_law_6_ok 57 rfl) rfl 0 rfl ?_
      refine q_iload (pc := 799) (dq D_Law_law_6_ok 58 rfl) 4 rfl ?_
      refine q_ic2 (pc := 801) (dq D_Law_law_6_ok 59 rfl) ?_
      refine q_iadd (pc := 802) (dq D_Law_law_7_ok 0 rfl) ?_
      refine r_sld (pc := 803) (dq D_Law_law_7_ok 1 rfl) (fun x126 => ?_)
      refine q_aload_n (pc := 804) (dq D_Law_law_7_ok 2 rfl) rfl 0 rfl ?_
      refine q_iload (pc := 805) (dq D_Law_law_7_ok 3 rfl) 4 rfl ?_
      refine q_ic3 (pc := 807) (dq D_Law_law_7_ok 4 rfl) ?_
      refine q_iadd (pc := 808) (dq D_Law_law_7_ok 5 rfl) ?_
      refine r_sld (pc := 809) (dq D_Law_law_7_ok 6 rfl) (fun x127 => ?_)
      refine r_invI (Mc := M_m_setFor) (pc := 810) (ci := 11) (rest := [.int r124]) 4 3 [.int x125, .int x126, .int x127] (dq D_Law_law_7_ok 7 rfl) rfl rfl lc_m_setFor lv_m_setFor_ ml_Law_94 rfl rfl rfl rfl (t_m_setFor v2 x125 x126 x127 h123) (fun r129 h128 => ?_)
      refine q_ic_eq (pc := 813) 1705 (dq D_Law_law_7_ok 8 rfl) rfl ?_ ?_
      · exact T.lsub [0, 1, 2, 3, 4] rfl (tb_Law_law_1705 hk23 v1 v2 v3 v4 h128)
      · refine q_ic0 (pc := 816) (dq D_Law_law_7_ok 9 rfl) ?_
        exact r_retz (pc := 817) (dq D_Law_law_7_ok 10 rfl) rfl
    refine T.ite (fun e => ?_) (fun n18 => ?_)
    · refine r_tin (pc := 40) (c := 18) 818 (dq D_Law_law_0_ok 24 rfl) e (by decide) (by decide) rfl rfl ?_
      refine q_aload_n (pc := 818) (dq D_Law_law_7_ok 11 rfl) rfl 1 rfl ?_
      refine q_aload_n (pc := 819) (dq D_Law_law_7_ok 12 rfl) rfl 0 rfl ?_
      refine q_iload (pc := 820) (dq D_Law_law_7_ok 13 rfl) 4 rfl ?_
      refine q_ic1 (pc := 822) (dq D_Law_law_7_ok 14 rfl) ?_
      refine q_iadd (pc := 823) (dq D_Law_law_7_ok 15 rfl) ?_
      refine r_sld (pc := 824) (dq D_Law_law_7_ok 16 rfl) (fun x130 => ?_)
      refine q_aload_n (pc := 825) (dq D_Law_law_7_ok 17 rfl) rfl 0 rfl ?_
      refine q_iload (pc := 826) (dq D_Law_law_7_ok 18 rfl) 4 rfl ?_
      refine q_ic2 (pc := 828) (dq D_Law_law_7_ok 19 rfl) ?_
      refine q_iadd (pc := 829) (dq D_Law_law_7_ok 20 rfl) ?_
      refine r_sld (pc := 830) (dq D_Law_law_7_ok 21 rfl) (fun x131 => ?_)
      refine r_invI (Mc := M_B_byFor) (pc := 831) (ci := 0) (rest := []) 7 2 [.int x130, .int x131] (dq D_Law_law_7_ok 22 rfl) rfl rfl lc_B_byFor lv_B_byFor_ ml_Law_95 rfl rfl rfl rfl (t_B_byFor v1 x130 x131 h) (fun r133 h132 => ?_)
      refine q_aload_n (pc := 834) (dq D_Law_law_7_ok 23 rfl) rfl 2 rfl ?_
      refine q_aload_n (pc := 835) (dq D_Law_law_7_ok 24 rfl) rfl 0 rfl ?_
      refine q_iload (pc := 836) (dq D_Law_law_7_ok 25 rfl) 4 rfl ?_
      refine q_ic1 (pc := 838) (dq D_Law_law_7_ok 26 rfl) ?_
      refine q_iadd (pc := 839) (dq D_Law_law_7_ok 27 rfl) ?_
      refine r_sld (pc := 840) (dq D_Law_law_7_ok 28 rfl) (fun x134 => ?_)
      refine q_aload_n (pc := 841) (dq D_Law_law_7_ok 29 rfl) rfl 0 rfl ?_
      refine q_iload (pc := 842) (dq D_Law_law_7_ok 30 rfl) 4 rfl ?_
      refine q_ic2 (pc := 844) (dq D_Law_law_7_ok 31 rfl) ?_
      refine q_iadd (pc := 845) (dq D_Law_law_7_ok 32 rfl) ?_
      refine r_sld (pc := 846) (dq D_Law_law_7_ok 33 rfl) (fun x135 => ?_)
      refine r_invI (Mc := M_m_byFor) (pc := 847) (ci := 11) (rest := [.int r133]) 5 2 [.int x134, .int x135] (dq D_Law_law_7_ok 34 rfl) rfl rfl lc_m_byFor lv_m_byFor_ ml_Law_98 rfl rfl rfl rfl (t_m_byFor v2 x134 x135 h132) (fun r137 h136 => ?_)
      refine q_ic_eq (pc := 850) 1705 (dq D_Law_law_7_ok 35 rfl) rfl ?_ ?_
      · exact T.lsub [0, 1, 2, 3, 4] rfl (tb_Law_law_1705 hk23 v1 v2 v3 v4 h136)
      · refine q_ic0 (pc := 853) (dq D_Law_law_7_ok 36 rfl) ?_
        exact r_retz (pc := 854) (dq D_Law_law_7_ok 37 rfl) rfl
    refine T.ite (fun e => ?_) (fun n19 => ?_)
    · refine r_tin (pc := 40) (c := 19) 855 (dq D_Law_law_0_ok 24 rfl) e (by decide) (by decide) rfl rfl ?_
      refine q_aload_n (pc := 855) (dq D_Law_law_7_ok 38 rfl) rfl 1 rfl ?_
      refine q_aload_n (pc := 856) (dq D_Law_law_7_ok 39 rfl) rfl 0 rfl ?_
      refine q_iload (pc := 857) (dq D_Law_law_7_ok 40 rfl) 4 rfl ?_
      refine q_ic1 (pc := 859) (dq D_Law_law_7_ok 41 rfl) ?_
      refine q_iadd (pc := 860) (dq D_Law_law_7_ok 42 rfl) ?_
      refine r_sld (pc := 861) (dq D_Law_law_7_ok 43 rfl) (fun x138 => ?_)
      refine q_aload_n (pc := 862) (dq D_Law_law_7_ok 44 rfl) rfl 0 rfl ?_
      refine q_iload (pc := 863) (dq D_Law_law_7_ok 45 rfl) 4 rfl ?_
      refine q_ic2 (pc := 865) (dq D_Law_law_7_ok 46 rfl) ?_
      refine q_iadd (pc := 866) (dq D_Law_law_7_ok 47 rfl) ?_
      refine r_sld (pc := 867) (dq D_Law_law_7_ok 48 rfl) (fun x139 => ?_)
      refine r_invI (Mc := M_B_byIn) (pc := 868) (ci := 0) (rest := []) 7 2 [.int x138, .int x139] (dq D_Law_law_7_ok 49 rfl) rfl rfl lc_B_byIn lv_B_byIn_ ml_Law_99 rfl rfl rfl rfl (t_B_byIn v1 x138 x139 h) (fun r141 h140 => ?_)
      refine q_aload_n (pc := 871) (dq D_Law_law_7_ok 50 rfl) rfl 2 rfl ?_
      refine q_aload_n (pc := 872) (dq D_Law_law_7_ok 51 rfl) rfl 0 rfl ?_
      refine q_iload (pc := 873) (dq D_Law_law_7_ok 52 rfl) 4 rfl ?_
      refine q_ic1 (pc := 875) (dq D_Law_law_7_ok 53 rfl) ?_
      refine q_iadd (pc := 876) (dq D_Law_law_7_ok 54 rfl) ?_
      refine r_sld (pc := 877) (dq D_Law_law_7_ok 55 rfl) (fun x142 => ?_)
      refine q_aload_n (pc := 878) (dq D_Law_law_7_ok 56 rfl) rfl 0 rfl ?_
      refine q_iload (pc := 879) (dq D_Law_law_7_ok 57 rfl) 4 rfl ?_
      refine q_ic2 (pc := 881) (dq D_Law_law_7_ok 58 rfl) ?_
      refine q_iadd (pc := 882) (dq D_Law_law_7_ok 59 rfl) ?_
      refine r_sld (pc := 883) (dq D_Law_law_8_ok 0 rfl) (fun x143 => ?_)
      refine r_invI (Mc := M_m_byIn) (pc := 884) (ci := 11) (rest := [.int r141]) 5 2 [.int x142, .int x143] (dq D_Law_law_8_ok 1 rfl) rfl rfl lc_m_byIn lv_m_byIn_ ml_Law_102 rfl rfl rfl rfl (t_m_byIn v2 x142 x143 h140) (fun r145 h144 => ?_)
      refine q_ic_eq (pc := 887) 1705 (dq D_Law_law_8_ok 2 rfl) rfl ?_ ?_
      · exact T.lsub [0, 1, 2, 3, 4] rfl (tb_Law_law_1705 hk23 v1 v2 v3 v4 h144)
      · refine q_ic0 (pc := 890) (dq D_Law_law_8_ok 3 rfl) ?_
        exact r_retz (pc := 891) (dq D_Law_law_8_ok 4 rfl) rfl
    refine T.ite (fun e => ?_) (fun n20 => ?_)
    · refine r_tin (pc := 40) (c := 20) 892 (dq D_Law_law_0_ok 24 rfl) e (by decide) (by decide) rfl rfl ?_
      refine q_aload_n (pc := 892) (dq D_Law_law_8_ok 5 rfl) rfl 1 rfl ?_
      refine q_aload_n (pc := 893) (dq D_Law_law_8_ok 6 rfl) rfl 0 rfl ?_
      refine q_iload (pc := 894) (dq D_Law_law_8_ok 7 rfl) 4 rfl ?_
      refine q_ic1 (pc := 896) (dq D_Law_law_8_ok 8 rfl) ?_
      refine q_iadd (pc := 897) (dq D_Law_law_8_ok 9 rfl) ?_
      refine r_sld (pc := 898) (dq D_Law_law_8_ok 10 rfl) (fun x146 => ?_)
      refine q_aload_n (pc := 899) (dq D_Law_law_8_ok 11 rfl) rfl 0 rfl ?_
      refine q_iload (pc := 900) (dq D_Law_law_8_ok 12 rfl) 4 rfl ?_
      refine q_ic2 (pc := 902) (dq D_Law_law_8_ok 13 rfl) ?_
      refine q_iadd (pc := 903) (dq D_Law_law_8_ok 14 rfl) ?_
      refine r_sld (pc := 904) (dq D_Law_law_8_ok 15 rfl) (fun x147 => ?_)
      refine r_invI (Mc := M_B_settings) (pc := 905) (ci := 0) (rest := []) 5 2 [.int x146, .int x147] (dq D_Law_law_8_ok 16 rfl) rfl rfl lc_B_settings lv_B_settings_ ml_Law_103 rfl rfl rfl rfl (t_B_settings v1 x146 x147 h) (fun r149 h148 => ?_)
      refine q_aload_n (pc := 908) (dq D_Law_law_8_ok 17 rfl) rfl 2 rfl ?_
      refine q_aload_n (pc := 909) (dq D_Law_law_8_ok 18 rfl) rfl 0 rfl ?_
      refine q_iload (pc := 910) (dq D_Law_law_8_ok 19 rfl) 4 rfl ?_
      refine q_ic1 (pc := 912) (dq D_Law_law_8_ok 20 rfl) ?_
      refine q_iadd (pc := 913) (dq D_Law_law_8_ok 21 rfl) ?_
      refine r_sld (pc := 914) (dq D_Law_law_8_ok 22 rfl) (fun x150 => ?_)
      refine q_aload_n (pc := 915) (dq D_Law_law_8_ok 23 rfl) rfl 0 rfl ?_
      refine q_iload (pc := 916) (dq D_Law_law_8_ok 24 rfl) 4 rfl ?_
      refine q_ic2 (pc := 918) (dq D_Law_law_8_ok 25 rfl) ?_
      refine q_iadd (pc := 919) (dq D_Law_law_8_ok 26 rfl) ?_
      refine r_sld (pc := 920) (dq D_Law_law_8_ok 27 rfl) (fun x151 => ?_)
      refine r_invI (Mc := M_m_settings) (pc := 921) (ci := 11) (rest := [.int r149]) 4 2 [.int x150, .int x151] (dq D_Law_law_8_ok 28 rfl) rfl rfl lc_m_settings lv_m_settings_ ml_Law_106 rfl rfl rfl rfl (t_m_settings v2 x150 x151 h148) (fun r153 h152 => ?_)
      refine q_ic_eq (pc := 924) 1705 (dq D_Law_law_8_ok 29 rfl) rfl ?_ ?_
      · exact T.lsub [0, 1, 2, 3, 4] rfl (tb_Law_law_1705 hk23 v1 v2 v3 v4 h152)
      · refine q_ic0 (pc := 927) (dq D_Law_law_8_ok 30 rfl) ?_
        exact r_retz (pc := 928) (dq D_Law_law_8_ok 31 rfl) rfl
    refine T.ite (fun e => ?_) (fun n21 => ?_)
    · refine r_tin (pc := 40) (c := 21) 929 (dq D_Law_law_0_ok 24 rfl) e (by decide) (by decide) rfl rfl ?_
      refine q_aload_n (pc := 929) (dq D_Law_law_8_ok 32 rfl) rfl 1 rfl ?_
      refine r_invI (Mc := M_B_lineWorth) (pc := 930) (ci := 0) (rest := []) 11 0 [] (dq D_Law_law_8_ok 33 rfl) rfl rfl lc_B_lineWorth lv_B_lineWorth_ ml_Law_107 rfl rfl rfl rfl (t_B_lineWorth v1 h) (fun r155 h154 => ?_)
      refine q_aload_n (pc := 933) (dq D_Law_law_8_ok 34 rfl) rfl 2 rfl ?_
      refine r_invI (Mc := M_m_lineWorth) (pc := 934) (ci := 11) (rest := [.int r155]) 5 0 [] (dq D_Law_law_8_ok 35 rfl) rfl rfl lc_m_lineWorth lv_m_lineWorth_ ml_Law_110 rfl rfl rfl rfl (t_m_lineWorth v2 h154) (fun r157 h156 => ?_)
      refine q_ic_eq (pc := 937) 1705 (dq D_Law_law_8_ok 36 rfl) rfl ?_ ?_
      · exact T.lsub [0, 1, 2, 3, 4] rfl (tb_Law_law_1705 hk23 v1 v2 v3 v4 h156)
      · refine q_ic0 (pc := 940) (dq D_Law_law_8_ok 37 rfl) ?_
        exact r_retz (pc := 941) (dq D_Law_law_8_ok 38 rfl) rfl
    refine T.ite (fun e => ?_) (fun n22 => ?_)
    · refine r_tin (pc := 40) (c := 22) 942 (dq D_Law_law_0_ok 24 rfl) e (by decide) (by decide) rfl rfl ?_
      refine q_aload_n (pc := 942) (dq D_Law_law_8_ok 39 rfl) rfl 1 rfl ?_
      refine q_aload_n (pc := 943) (dq D_Law_law_8_ok 40 rfl) rfl 0 rfl ?_
      refine q_iload (pc := 944) (dq D_Law_law_8_ok 41 rfl) 4 rfl ?_
      refine q_ic1 (pc := 946) (dq D_Law_law_8_ok 42 rfl) ?_
      refine q_iadd (pc := 947) (dq D_Law_law_8_ok 43 rfl) ?_
      refine r_sld (pc := 948) (dq D_Law_law_8_ok 44 rfl) (fun x158 => ?_)
      refine r_invI (Mc := M_B_lineAt) (pc := 949) (ci := 0) (rest := []) 11 1 [.int x158] (dq D_Law_law_8_ok 45 rfl) rfl rfl lc_B_lineAt lv_B_lineAt_ ml_Law_111 rfl rfl rfl rfl (t_B_lineAt v1 x158 h) (fun r160 h159 => ?_)
      refine q_aload_n (pc := 952) (dq D_Law_law_8_ok 46 rfl) rfl 2 rfl ?_
      refine q_aload_n (pc := 953) (dq D_Law_law_8_ok 47 rfl) rfl 0 rfl ?_
      refine q_iload (pc := 954) (dq D_Law_law_8_ok 48 rfl) 4 rfl ?_
      refine q_ic1 (pc := 956) (dq D_Law_law_8_ok 49 rfl) ?_
      refine q_iadd (pc := 957) (dq D_Law_law_8_ok 50 rfl) ?_
      refine r_sld (pc := 958) (dq D_Law_law_8_ok 51 rfl) (fun x161 => ?_)
      refine r_invI (Mc := M_m_lineAt) (pc := 959) (ci := 11) (rest := [.int r160]) 5 1 [.int x161] (dq D_Law_law_8_ok 52 rfl) rfl rfl lc_m_lineAt lv_m_lineAt_ ml_Law_114 rfl rfl rfl rfl (t_m_lineAt v2 x161 h159) (fun r163 h162 => ?_)
      refine q_ic_eq (pc := 962) 1705 (dq D_Law_law_8_ok 53 rfl) rfl ?_ ?_
      · exact T.lsub [0, 1, 2, 3, 4] rfl (tb_Law_law_1705 hk23 v1 v2 v3 v4 h162)
      · refine q_ic0 (pc := 965) (dq D_Law_law_8_ok 54 rfl) ?_
        exact r_retz (pc := 966) (dq D_Law_law_8_ok 55 rfl) rfl
    refine T.ite (fun e => ?_) (fun n23 => ?_)
    · refine r_tin (pc := 40) (c := 23) 967 (dq D_Law_law_0_ok 24 rfl) e (by decide) (by decide) rfl rfl ?_
      refine q_aload_n (pc := 967) (dq D_Law_law_8_ok 56 rfl) rfl 1 rfl ?_
      refine r_invI (Mc := M_B_inTime) (pc := 968) (ci := 0) (rest := []) 11 0 [] (dq D_Law_law_8_ok 57 rfl) rfl rfl lc_B_inTime lv_B_inTime_ ml_Law_115 rfl rfl rfl rfl (t_B_inTime v1 h) (fun r165 h164 => ?_)
      refine q_aload_n (pc := 971) (dq D_Law_law_8_ok 58 rfl) rfl 2 rfl ?_
      refine r_invI (Mc := M_m_inTime) (pc := 972) (ci := 11) (rest := [.int r165]) 5 0 [] (dq D_Law_law_8_ok 59 rfl) rfl rfl lc_m_inTime lv_m_inTime_ ml_Law_118 rfl rfl rfl rfl (t_m_inTime v2 h164) (fun r167 h166 => ?_)
      refine q_ic_eq (pc := 975) 1705 (dq D_Law_law_9_ok 0 rfl) rfl ?_ ?_
      · exact T.lsub [0, 1, 2, 3, 4] rfl (tb_Law_law_1705 hk23 v1 v2 v3 v4 h166)
      · refine q_ic0 (pc := 978) (dq D_Law_law_9_ok 1 rfl) ?_
        exact r_retz (pc := 979) (dq D_Law_law_9_ok 2 rfl) rfl
    refine T.ite (fun e => ?_) (fun n24 => ?_)
    · refine r_tin (pc := 40) (c := 24) 980 (dq D_Law_law_0_ok 24 rfl) e (by decide) (by decide) rfl rfl ?_
      refine q_aload_n (pc := 980) (dq D_Law_law_9_ok 3 rfl) rfl 1 rfl ?_
      refine q_aload_n (pc := 981) (dq D_Law_law_9_ok 4 rfl) rfl 0 rfl ?_
      refine q_iload (pc := 982) (dq D_Law_law_9_ok 5 rfl) 4 rfl ?_
      refine q_ic1 (pc := 984) (dq D_Law_law_9_ok 6 rfl) ?_
      refine q_iadd (pc := 985) (dq D_Law_law_9_ok 7 rfl) ?_
      refine r_sld (pc := 986) (dq D_Law_law_9_ok 8 rfl) (fun x168 => ?_)
      refine r_invI (Mc := M_B_agree) (pc := 987) (ci := 0) (rest := []) 6 1 [.int x168] (dq D_Law_law_9_ok 9 rfl) rfl rfl lc_B_agree lv_B_agree_ ml_Law_119 rfl rfl rfl rfl (t_B_agree v1 x168 h) (fun r170 h169 => ?_)
      refine q_aload_n (pc := 990) (dq D_Law_law_9_ok 10 rfl) rfl 2 rfl ?_
      refine q_aload_n (pc := 991) (dq D_Law_law_9_ok 11 rfl) rfl 0 rfl ?_
      refine q_iload (pc := 992) (dq D_Law_law_9_ok 12 rfl) 4 rfl ?_
      refine q_ic1 (pc := 994) (dq D_Law_law_9_ok 13 rfl) ?_
      refine q_iadd (pc := 995) (dq D_Law_law_9_ok 14 rfl) ?_
      refine r_sld (pc := 996) (dq D_Law_law_9_ok 15 rfl) (fun x171 => ?_)
      refine r_invI (Mc := M_m_agree) (pc := 997) (ci := 11) (rest := [.int r170]) 3 1 [.int x171] (dq D_Law_law_9_ok 16 rfl) rfl rfl lc_m_agree lv_m_agree_ ml_Law_122 rfl rfl rfl rfl (t_m_agree v2 x171 h169) (fun r173 h172 => ?_)
      refine q_ic_eq (pc := 1000) 1705 (dq D_Law_law_9_ok 17 rfl) rfl ?_ ?_
      · exact T.lsub [0, 1, 2, 3, 4] rfl (tb_Law_law_1705 hk23 v1 v2 v3 v4 h172)
      · refine q_ic0 (pc := 1003) (dq D_Law_law_9_ok 18 rfl) ?_
        exact r_retz (pc := 1004) (dq D_Law_law_9_ok 19 rfl) rfl
    refine T.ite (fun e => ?_) (fun n25 => ?_)
    · refine r_tin (pc := 40) (c := 25) 1005 (dq D_Law_law_0_ok 24 rfl) e (by decide) (by decide) rfl rfl ?_
      refine q_aload_n (pc := 1005) (dq D_Law_law_9_ok 20 rfl) rfl 1 rfl ?_
      refine q_aload_n (pc := 1006) (dq D_Law_law_9_ok 21 rfl) rfl 0 rfl ?_
      refine q_iload (pc := 1007) (dq D_Law_law_9_ok 22 rfl) 4 rfl ?_
      refine q_ic1 (pc := 1009) (dq D_Law_law_9_ok 23 rfl) ?_
      refine q_iadd (pc := 1010) (dq D_Law_law_9_ok 24 rfl) ?_
      refine r_sld (pc := 1011) (dq D_Law_law_9_ok 25 rfl) (fun x174 => ?_)
      refine r_invI (Mc := M_B_drift) (pc := 1012) (ci := 0) (rest := []) 6 1 [.int x174] (dq D_Law_law_9_ok 26 rfl) rfl rfl lc_B_drift lv_B_drift_ ml_Law_123 rfl rfl rfl rfl (t_B_drift v1 x174 h) (fun r176 h175 => ?_)
      refine q_aload_n (pc := 1015) (dq D_Law_law_9_ok 27 rfl) rfl 2 rfl ?_
      refine q_aload_n (pc := 1016) (dq D_Law_law_9_ok 28 rfl) rfl 0 rfl ?_
      refine q_iload (pc := 1017) (dq D_Law_law_9_ok 29 rfl) 4 rfl ?_
      refine q_ic1 (pc := 1019) (dq D_Law_law_9_ok 30 rfl) ?_
      refine q_iadd (pc := 1020) (dq D_Law_law_9_ok 31 rfl) ?_
      refine r_sld (pc := 1021) (dq D_Law_law_9_ok 32 rfl) (fun x177 => ?_)
      refine r_invI (Mc := M_m_drift) (pc := 1022) (ci := 11) (rest := [.int r176]) 4 1 [.int x177] (dq D_Law_law_9_ok 33 rfl) rfl rfl lc_m_drift lv_m_drift_ ml_Law_126 rfl rfl rfl rfl (t_m_drift v2 x177 h175) (fun r179 h178 => ?_)
      refine q_ic_eq (pc := 1025) 1705 (dq D_Law_law_9_ok 34 rfl) rfl ?_ ?_
      · exact T.lsub [0, 1, 2, 3, 4] rfl (tb_Law_law_1705 hk23 v1 v2 v3 v4 h178)
      · refine q_ic0 (pc := 1028) (dq D_Law_law_9_ok 35 rfl) ?_
        exact r_retz (pc := 1029) (dq D_Law_law_9_ok 36 rfl) rfl
    refine T.ite (fun e => ?_) (fun n26 => ?_)
    · refine r_tin (pc := 40) (c := 26) 1030 (dq D_Law_law_0_ok 24 rfl) e (by decide) (by decide) rfl rfl ?_
      refine q_aload_n (pc := 1030) (dq D_Law_law_9_ok 37 rfl) rfl 1 rfl ?_
      refine r_invI (Mc := M_B_fits) (pc := 1031) (ci := 0) (rest := []) 3 0 [] (dq D_Law_law_9_ok 38 rfl) rfl rfl lc_B_fits lv_B_fits_ ml_Law_127 rfl rfl rfl rfl (t_B_fits v1 h) (fun r181 h180 => ?_)
      refine q_aload_n (pc := 1034) (dq D_Law_law_9_ok 39 rfl) rfl 2 rfl ?_
      refine r_invI (Mc := M_m_fits) (pc := 1035) (ci := 11) (rest := [.int r181]) 4 0 [] (dq D_Law_law_9_ok 40 rfl) rfl rfl lc_m_fits lv_m_fits_ ml_Law_130 rfl rfl rfl rfl (t_m_fits v2 h180) (fun r183 h182 => ?_)
      refine q_ic_eq (pc := 1038) 1705 (dq D_Law_law_9_ok 41 rfl) rfl ?_ ?_
      · exact T.lsub [0, 1, 2, 3, 4] rfl (tb_Law_law_1705 hk23 v1 v2 v3 v4 h182)
      · refine q_ic0 (pc := 1041) (dq D_Law_law_9_ok 42 rfl) ?_
        exact r_retz (pc := 1042) (dq D_Law_law_9_ok 43 rfl) rfl
    refine T.ite (fun e => ?_) (fun n27 => ?_)
    · refine r_tin (pc := 40) (c := 27) 1043 (dq D_Law_law_0_ok 24 rfl) e (by decide) (by decide) rfl rfl ?_
      refine q_aload_n (pc := 1043) (dq D_Law_law_9_ok 44 rfl) rfl 1 rfl ?_
      refine q_aload_n (pc := 1044) (dq D_Law_law_9_ok 45 rfl) rfl 0 rfl ?_
      refine q_iload (pc := 1045) (dq D_Law_law_9_ok 46 rfl) 4 rfl ?_
      refine q_ic1 (pc := 1047) (dq D_Law_law_9_ok 47 rfl) ?_
      refine q_iadd (pc := 1048) (dq D_Law_law_9_ok 48 rfl) ?_
      refine r_sld (pc := 1049) (dq D_Law_law_9_ok 49 rfl) (fun x184 => ?_)
      refine r_invI (Mc := M_B_fitAt) (pc := 1050) (ci := 0) (rest := []) 3 1 [.int x184] (dq D_Law_law_9_ok 50 rfl) rfl rfl lc_B_fitAt lv_B_fitAt_ ml_Law_131 rfl rfl rfl rfl (t_B_fitAt v1 x184 h) (fun r186 h185 => ?_)
      refine q_aload_n (pc := 1053) (dq D_Law_law_9_ok 51 rfl) rfl 2 rfl ?_
      refine q_aload_n (pc := 1054) (dq D_Law_law_9_ok 52 rfl) rfl 0 rfl ?_
      refine q_iload (pc := 1055) (dq D_Law_law_9_ok 53 rfl) 4 rfl ?_
      refine q_ic1 (pc := 1057) (dq D_Law_law_9_ok 54 rfl) ?_
      refine q_iadd (pc := 1058) (dq D_Law_law_9_ok 55 rfl) ?_
      refine r_sld (pc := 1059) (dq D_Law_law_9_ok 56 rfl) (fun x187 => ?_)
      refine r_invI (Mc := M_m_fitAt) (pc := 1060) (ci := 11) (rest := [.int r186]) 4 1 [.int x187] (dq D_Law_law_9_ok 57 rfl) rfl rfl lc_m_fitAt lv_m_fitAt_ ml_Law_134 rfl rfl rfl rfl (t_m_fitAt v2 x187 h185) (fun r189 h188 => ?_)
      refine q_ic_eq (pc := 1063) 1705 (dq D_Law_law_9_ok 58 rfl) rfl ?_ ?_
      · exact T.lsub [0, 1, 2, 3, 4] rfl (tb_Law_law_1705 hk23 v1 v2 v3 v4 h188)
      · refine q_ic0 (pc := 1066) (dq D_Law_law_9_ok 59 rfl) ?_
        exact r_retz (pc := 1067) (dq D_Law_law_10_ok 0 rfl) rfl
    refine T.ite (fun e => ?_) (fun n28 => ?_)
    · refine r_tin (pc := 40) (c := 28) 1068 (dq D_Law_law_0_ok 24 rfl) e (by decide) (by decide) rfl rfl ?_
      refine q_aload_n (pc := 1068) (dq D_Law_law_10_ok 1 rfl) rfl 1 rfl ?_
      refine r_invI (Mc := M_B_look) (pc := 1069) (ci := 0) (rest := []) 3 0 [] (dq D_Law_law_10_ok 2 rfl) rfl rfl lc_B_look lv_B_look_ ml_Law_135 rfl rfl rfl rfl (t_B_look v1 h) (fun r191 h190 => ?_)
      refine q_aload_n (pc := 1072) (dq D_Law_law_10_ok 3 rfl) rfl 2 rfl ?_
      refine r_invI (Mc := M_m_look) (pc := 1073) (ci := 11) (rest := [.int r191]) 5 0 [] (dq D_Law_law_10_ok 4 rfl) rfl rfl lc_m_look lv_m_look_ ml_Law_138 rfl rfl rfl rfl (t_m_look v2 h190) (fun r193 h192 => ?_)
      refine q_ic_eq (pc := 1076) 1705 (dq D_Law_law_10_ok 5 rfl) rfl ?_ ?_
      · exact T.lsub [0, 1, 2, 3, 4] rfl (tb_Law_law_1705 hk23 v1 v2 v3 v4 h192)
      · refine q_ic0 (pc := 1079) (dq D_Law_law_10_ok 6 rfl) ?_
        exact r_retz (pc := 1080) (dq D_Law_law_10_ok 7 rfl) rfl
    refine T.ite (fun e => ?_) (fun n29 => ?_)
    · refine r_tin (pc := 40) (c := 29) 1081 (dq D_Law_law_0_ok 24 rfl) e (by decide) (by decide) rfl rfl ?_
      refine q_aload_n (pc := 1081) (dq D_Law_law_10_ok 8 rfl) rfl 1 rfl ?_
      refine r_invI (Mc := M_B_lookLeaves) (pc := 1082) (ci := 0) (rest := []) 3 0 [] (dq D_Law_law_10_ok 9 rfl) rfl rfl lc_B_lookLeaves lv_B_lookLeaves_ ml_Law_139 rfl rfl rfl rfl (t_B_lookLeaves v1 h) (fun r195 h194 => ?_)
      refine q_aload_n (pc := 1085) (dq D_Law_law_10_ok 10 rfl) rfl 2 rfl ?_
      refine r_invI (Mc := M_m_lookLeaves) (pc := 1086) (ci := 11) (rest := [.int r195]) 5 0 [] (dq D_Law_law_10_ok 11 rfl) rfl rfl lc_m_lookLeaves lv_m_lookLeaves_ ml_Law_142 rfl rfl rfl rfl (t_m_lookLeaves v2 h194) (fun r197 h196 => ?_)
      refine q_ic_eq (pc := 1089) 1705 (dq D_Law_law_10_ok 12 rfl) rfl ?_ ?_
      · exact T.lsub [0, 1, 2, 3, 4] rfl (tb_Law_law_1705 hk23 v1 v2 v3 v4 h196)
      · refine q_ic0 (pc := 1092) (dq D_Law_law_10_ok 13 rfl) ?_
        exact r_retz (pc := 1093) (dq D_Law_law_10_ok 14 rfl) rfl
    refine T.ite (fun e => ?_) (fun n30 => ?_)
    · refine r_tin (pc := 40) (c := 30) 1094 (dq D_Law_law_0_ok 24 rfl) e (by decide) (by decide) rfl rfl ?_
      refine q_aload_n (pc := 1094) (dq D_Law_law_10_ok 15 rfl) rfl 1 rfl ?_
      refine q_aload_n (pc := 1095) (dq D_Law_law_10_ok 16 rfl) rfl 0 rfl ?_
      refine q_iload (pc := 1096) (dq D_Law_law_10_ok 17 rfl) 4 rfl ?_
      refine q_ic1 (pc := 1098) (dq D_Law_law_10_ok 18 rfl) ?_
      refine q_iadd (pc := 1099) (dq D_Law_law_10_ok 19 rfl) ?_
      refine r_sld (pc := 1100) (dq D_Law_law_10_ok 20 rfl) (fun x198 => ?_)
      refine r_invI (Mc := M_B_judge) (pc := 1101) (ci := 0) (rest := []) 3 1 [.int x198] (dq D_Law_law_10_ok 21 rfl) rfl rfl lc_B_judge lv_B_judge_ ml_Law_143 rfl rfl rfl rfl (t_B_judge v1 x198 h) (fun r200 h199 => ?_)
      refine q_aload_n (pc := 1104) (dq D_Law_law_10_ok 22 rfl) rfl 2 rfl ?_
      refine q_aload_n (pc := 1105) (dq D_Law_law_10_ok 23 rfl) rfl 0 rfl ?_
      refine q_iload (pc := 1106) (dq D_Law_law_10_ok 24 rfl) 4 rfl ?_
      refine q_ic1 (pc := 1108) (dq D_Law_law_10_ok 25 rfl) ?_
      refine q_iadd (pc := 1109) (dq D_Law_law_10_ok 26 rfl) ?_
      refine r_sld (pc := 1110) (dq D_Law_law_10_ok 27 rfl) (fun x201 => ?_)
      refine r_invI (Mc := M_m_judge) (pc := 1111) (ci := 11) (rest := [.int r200]) 3 1 [.int x201] (dq D_Law_law_10_ok 28 rfl) rfl rfl lc_m_judge lv_m_judge_ ml_Law_146 rfl rfl rfl rfl (t_m_judge v2 x201 h199) (fun r203 h202 => ?_)
      refine q_ic_eq (pc := 1114) 1705 (dq D_Law_law_10_ok 29 rfl) rfl ?_ ?_
      · exact T.lsub [0, 1, 2, 3, 4] rfl (tb_Law_law_1705 hk23 v1 v2 v3 v4 h202)
      · refine q_ic0 (pc := 1117) (dq D_Law_law_10_ok 30 rfl) ?_
        exact r_retz (pc := 1118) (dq D_Law_law_10_ok 31 rfl) rfl
    refine T.ite (fun e => ?_) (fun n31 => ?_)
    · refine r_tin (pc := 40) (c := 31) 1119 (dq D_Law_law_0_ok 24 rfl) e (by decide) (by decide) rfl rfl ?_
      refine q_aload_n (pc := 1119) (dq D_Law_law_10_ok 32 rfl) rfl 1 rfl ?_
      refine q_aload_n (pc := 1120) (dq D_Law_law_10_ok 33 rfl) rfl 0 rfl ?_
      refine q_iload (pc := 1121) (dq D_Law_law_10_ok 34 rfl) 4 rfl ?_
      refine q_ic1 (pc := 1123) (dq D_Law_law_10_ok 35 rfl) ?_
      refine q_iadd (pc := 1124) (dq D_Law_law_10_ok 36 rfl) ?_
      refine r_sld (pc := 1125) (dq D_Law_law_10_ok 37 rfl) (fun x204 => ?_)
      refine q_aload_n (pc := 1126) (dq D_Law_law_10_ok 38 rfl) rfl 0 rfl ?_
      refine q_iload (pc := 1127) (dq D_Law_law_10_ok 39 rfl) 4 rfl ?_
      refine q_ic2 (pc := 1129) (dq D_Law_law_10_ok 40 rfl) ?_
      refine q_iadd (pc := 1130) (dq D_Law_law_10_ok 41 rfl) ?_
      refine r_sld (pc := 1131) (dq D_Law_law_10_ok 42 rfl) (fun x205 => ?_)
      refine r_invI (Mc := M_B_value) (pc := 1132) (ci := 0) (rest := []) 15 2 [.int x204, .int x205] (dq D_Law_law_10_ok 43 rfl) rfl rfl lc_B_value lv_B_value_ ml_Law_147 rfl rfl rfl rfl (t_B_value v1 x204 x205 h) (fun r207 h206 => ?_)
      refine q_aload_n (pc := 1135) (dq D_Law_law_10_ok 44 rfl) rfl 2 rfl ?_
      refine q_aload_n (pc := 1136) (dq D_Law_law_10_ok 45 rfl) rfl 0 rfl ?_
      refine q_iload (pc := 1137) (dq D_Law_law_10_ok 46 rfl) 4 rfl ?_
      refine q_ic1 (pc := 1139) (dq D_Law_law_10_ok 47 rfl) ?_
      refine q_iadd (pc := 1140) (dq D_Law_law_10_ok 48 rfl) ?_
      refine r_sld (pc := 1141) (dq D_Law_law_10_ok 49 rfl) (fun x208 => ?_)
      refine q_aload_n (pc := 1142) (dq D_Law_law_10_ok 50 rfl) rfl 0 rfl ?_
      refine q_iload (pc := 1143) (dq D_Law_law_10_ok 51 rfl) 4 rfl ?_
      refine q_ic2 (pc := 1145) (dq D_Law_law_10_ok 52 rfl) ?_
      refine q_iadd (pc := 1146) (dq D_Law_law_10_ok 53 rfl) ?_
      refine r_sld (pc := 1147) (dq D_Law_law_10_ok 54 rfl) (fun x209 => ?_)
      refine r_invI (Mc := M_m_value) (pc := 1148) (ci := 11) (rest := [.int r207]) 5 2 [.int x208, .int x209] (dq D_Law_law_10_ok 55 rfl) rfl rfl lc_m_value lv_m_value_ ml_Law_150 rfl rfl rfl rfl (t_m_value v2 x208 x209 h206) (fun r211 h210 => ?_)
      refine q_ic_eq (pc := 1151) 1705 (dq D_Law_law_10_ok 56 rfl) rfl ?_ ?_
      · exact T.lsub [0, 1, 2, 3, 4] rfl (tb_Law_law_1705 hk23 v1 v2 v3 v4 h210)
      · refine q_ic0 (pc := 1154) (dq D_Law_law_10_ok 57 rfl) ?_
        exact r_retz (pc := 1155) (dq D_Law_law_10_ok 58 rfl) rfl
    refine T.ite (fun e => ?_) (fun n32 => ?_)
    · refine r_tin (pc := 40) (c := 32) 1156 (dq D_Law_law_0_ok 24 rfl) e (by decide) (by decide) rfl rfl ?_
      refine q_aload_n (pc := 1156) (dq D_Law_law_10_ok 59 rfl) rfl 1 rfl ?_
      refine q_aload_n (pc := 1157) (dq D_Law_law_11_ok 0 rfl) rfl 0 rfl ?_
      refine q_iload (pc := 1158) (dq D_Law_law_11_ok 1 rfl) 4 rfl ?_
      refine q_ic1 (pc := 1160) (dq D_Law_law_11_ok 2 rfl) ?_
      refine q_iadd (pc := 1161) (dq D_Law_law_11_ok 3 rfl) ?_
      refine r_sld (pc := 1162) (dq D_Law_law_11_ok 4 rfl) (fun x212 => ?_)
      refine q_aload_n (pc := 1163) (dq D_Law_law_11_ok 5 rfl) rfl 0 rfl ?_
      refine q_iload (pc := 1164) (dq D_Law_law_11_ok 6 rfl) 4 rfl ?_
      refine q_ic2 (pc := 1166) (dq D_Law_law_11_ok 7 rfl) ?_
      refine q_iadd (pc := 1167) (dq D_Law_law_11_ok 8 rfl) ?_
      refine r_sld (pc := 1168) (dq D_Law_law_11_ok 9 rfl) (fun x213 => ?_)
      refine r_invI (Mc := M_B_moves) (pc := 1169) (ci := 0) (rest := []) 15 2 [.int x212, .int x213] (dq D_Law_law_11_ok 10 rfl) rfl rfl lc_B_moves lv_B_moves_ ml_Law_151 rfl rfl rfl rfl (t_B_moves v1 x212 x213 h) (fun r215 h214 => ?_)
      refine q_aload_n (pc := 1172) (dq D_Law_law_11_ok 11 rfl) rfl 2 rfl ?_
      refine q_aload_n (pc := 1173) (dq D_Law_law_11_ok 12 rfl) rfl 0 rfl ?_
      refine q_iload (pc := 1174) (dq D_Law_law_11_ok 13 rfl) 4 rfl ?_
      refine q_ic1 (pc := 1176) (dq D_Law_law_11_ok 14 rfl) ?_
      refine q_iadd (pc := 1177) (dq D_Law_law_11_ok 15 rfl) ?_
      refine r_sld (pc := 1178) (dq D_Law_law_11_ok 16 rfl) (fun x216 => ?_)
      refine q_aload_n (pc := 1179) (dq D_Law_law_11_ok 17 rfl) rfl 0 rfl ?_
      refine q_iload (pc := 1180) (dq D_Law_law_11_ok 18 rfl) 4 rfl ?_
      refine q_ic2 (pc := 1182) (dq D_Law_law_11_ok 19 rfl) ?_
      refine q_iadd (pc := 1183) (dq D_Law_law_11_ok 20 rfl) ?_
      refine r_sld (pc := 1184) (dq D_Law_law_11_ok 21 rfl) (fun x217 => ?_)
      refine r_invI (Mc := M_m_moves) (pc := 1185) (ci := 11) (rest := [.int r215]) 5 2 [.int x216, .int x217] (dq D_Law_law_11_ok 22 rfl) rfl rfl lc_m_moves lv_m_moves_ ml_Law_154 rfl rfl rfl rfl (t_m_moves v2 x216 x217 h214) (fun r219 h218 => ?_)
      refine q_ic_eq (pc := 1188) 1705 (dq D_Law_law_11_ok 23 rfl) rfl ?_ ?_
      · exact T.lsub [0, 1, 2, 3, 4] rfl (tb_Law_law_1705 hk23 v1 v2 v3 v4 h218)
      · refine q_ic0 (pc := 1191) (dq D_Law_law_11_ok 24 rfl) ?_
        exact r_retz (pc := 1192) (dq D_Law_law_11_ok 25 rfl) rfl
    refine T.ite (fun e => ?_) (fun n33 => ?_)
    · refine r_tin (pc := 40) (c := 33) 1193 (dq D_Law_law_0_ok 24 rfl) e (by decide) (by decide) rfl rfl ?_
      refine q_aload_n (pc := 1193) (dq D_Law_law_11_ok 26 rfl) rfl 1 rfl ?_
      refine q_aload_n (pc := 1194) (dq D_Law_law_11_ok 27 rfl) rfl 0 rfl ?_
      refine q_iload (pc := 1195) (dq D_Law_law_11_ok 28 rfl) 4 rfl ?_
      refine q_ic1 (pc := 1197) (dq D_Law_law_11_ok 29 rfl) ?_
      refine q_iadd (pc := 1198) (dq D_Law_law_11_ok 30 rfl) ?_
      refine r_sld (pc := 1199) (dq D_Law_law_11_ok 31 rfl) (fun x220 => ?_)
      refine q_aload_n (pc := 1200) (dq D_Law_law_11_ok 32 rfl) rfl 0 rfl ?_
      refine q_iload (pc := 1201) (dq D_Law_law_11_ok 33 rfl) 4 rfl ?_
      refine q_ic2 (pc := 1203) (dq D_Law_law_11_ok 34 rfl) ?_
      refine q_iadd (pc := 1204) (dq D_Law_law_11_ok 35 rfl) ?_
      refine r_sld (pc := 1205) (dq D_Law_law_11_ok 36 rfl) (fun x221 => ?_)
      refine q_aload_n (pc := 1206) (dq D_Law_law_11_ok 37 rfl) rfl 0 rfl ?_
      refine q_iload (pc := 1207) (dq D_Law_law_11_ok 38 rfl) 4 rfl ?_
      refine q_ic3 (pc := 1209) (dq D_Law_law_11_ok 39 rfl) ?_
      refine q_iadd (pc := 1210) (dq D_Law_law_11_ok 40 rfl) ?_
      refine r_sld (pc := 1211) (dq D_Law_law_11_ok 41 rfl) (fun x222 => ?_)
      refine q_aload_n (pc := 1212) (dq D_Law_law_11_ok 42 rfl) rfl 0 rfl ?_
      refine q_iload (pc := 1213) (dq D_Law_law_11_ok 43 rfl) 4 rfl ?_
      refine q_ic4 (pc := 1215) (dq D_Law_law_11_ok 44 rfl) ?_
      refine q_iadd (pc := 1216) (dq D_Law_law_11_ok 45 rfl) ?_
      refine r_sld (pc := 1217) (dq D_Law_law_11_ok 46 rfl) (fun x223 => ?_)
      refine p_if_eq (pc := 1218) 1225 (dq D_Law_law_11_ok 47 rfl) rfl ?_ ?_
      · refine q_ic0 (pc := 1225) (dq D_Law_law_11_ok 50 rfl) ?_
        exact T.lsub [0, 1, 2, 3, 4] rfl (tb_Law_law_1226 hk23 v1 v2 v3 v4 0 x222 x221 x220 v1 h)
      · refine q_ic1 (pc := 1221) (dq D_Law_law_11_ok 48 rfl) ?_
        refine q_goto (pc := 1222) 1226 (dq D_Law_law_11_ok 49 rfl) rfl ?_
        exact T.lsub [0, 1, 2, 3, 4] rfl (tb_Law_law_1226 hk23 v1 v2 v3 v4 1 x222 x221 x220 v1 h)
    refine T.ite (fun e => ?_) (fun n34 => ?_)
    · refine r_tin (pc := 40) (c := 34) 1271 (dq D_Law_law_0_ok 24 rfl) e (by decide) (by decide) rfl rfl ?_
      refine q_aload_n (pc := 1271) (dq D_Law_law_12_ok 22 rfl) rfl 1 rfl ?_
      refine q_aload_n (pc := 1272) (dq D_Law_law_12_ok 23 rfl) rfl 0 rfl ?_
      refine q_iload (pc := 1273) (dq D_Law_law_12_ok 24 rfl) 4 rfl ?_
      refine q_ic1 (pc := 1275) (dq D_Law_law_12_ok 25 rfl) ?_
      refine q_iadd (pc := 1276) (dq D_Law_law_12_ok 26 rfl) ?_
      refine r_sld (pc := 1277) (dq D_Law_law_12_ok 27 rfl) (fun x224 => ?_)
      refine q_aload_n (pc := 1278) (dq D_Law_law_12_ok 28 rfl) rfl 0 rfl ?_
      refine q_iload (pc := 1279) (dq D_Law_law_12_ok 29 rfl) 4 rfl ?_
      refine q_ic2 (pc := 1281) (dq D_Law_law_12_ok 30 rfl) ?_
      refine q_iadd (pc := 1282) (dq D_Law_law_12_ok 31 rfl) ?_
      refine r_sld (pc := 1283) (dq D_Law_law_12_ok 32 rfl) (fun x225 => ?_)
      refine q_aload_n (pc := 1284) (dq D_Law_law_12_ok 33 rfl) rfl 0 rfl ?_
      refine q_iload (pc := 1285) (dq D_Law_law_12_ok 34 rfl) 4 rfl ?_
      refine q_ic3 (pc := 1287) (dq D_Law_law_12_ok 35 rfl) ?_
      refine q_iadd (pc := 1288) (dq D_Law_law_12_ok 36 rfl) ?_
      refine r_sld (pc := 1289) (dq D_Law_law_12_ok 37 rfl) (fun x226 => ?_)
      refine p_if_eq (pc := 1290) 1297 (dq D_Law_law_12_ok 38 rfl) rfl ?_ ?_
      · refine q_ic0 (pc := 1297) (dq D_Law_law_12_ok 41 rfl) ?_
        exact T.lsub [0, 1, 2, 3, 4] rfl (tb_Law_law_1298 hk23 v1 v2 v3 v4 0 x225 x224 v1 h)
      · refine q_ic1 (pc := 1293) (dq D_Law_law_12_ok 39 rfl) ?_
        refine q_goto (pc := 1294) 1298 (dq D_Law_law_12_ok 40 rfl) rfl ?_
        exact T.lsub [0, 1, 2, 3, 4] rfl (tb_Law_law_1298 hk23 v1 v2 v3 v4 1 x225 x224 v1 h)
    refine T.ite (fun e => ?_) (fun n35 => ?_)
    · refine r_tin (pc := 40) (c := 35) 1337 (dq D_Law_law_0_ok 24 rfl) e (by decide) (by decide) rfl rfl ?_
      refine q_aload_n (pc := 1337) (dq D_Law_law_13_ok 8 rfl) rfl 1 rfl ?_
      refine q_aload_n (pc := 1338) (dq D_Law_law_13_ok 9 rfl) rfl 0 rfl ?_
      refine q_iload (pc := 1339) (dq D_Law_law_13_ok 10 rfl) 4 rfl ?_
      refine q_ic1 (pc := 1341) (dq D_Law_law_13_ok 11 rfl) ?_
      refine q_iadd (pc := 1342) (dq D_Law_law_13_ok 12 rfl) ?_
      refine r_sld (pc := 1343) (dq D_Law_law_13_ok 13 rfl) (fun x227 => ?_)
      refine q_aload_n (pc := 1344) (dq D_Law_law_13_ok 14 rfl) rfl 0 rfl ?_
      refine q_iload (pc := 1345) (dq D_Law_law_13_ok 15 rfl) 4 rfl ?_
      refine q_ic2 (pc := 1347) (dq D_Law_law_13_ok 16 rfl) ?_
      refine q_iadd (pc := 1348) (dq D_Law_law_13_ok 17 rfl) ?_
      refine r_sld (pc := 1349) (dq D_Law_law_13_ok 18 rfl) (fun x228 => ?_)
      refine q_aload_n (pc := 1350) (dq D_Law_law_13_ok 19 rfl) rfl 0 rfl ?_
      refine q_iload (pc := 1351) (dq D_Law_law_13_ok 20 rfl) 4 rfl ?_
      refine q_ic3 (pc := 1353) (dq D_Law_law_13_ok 21 rfl) ?_
      refine q_iadd (pc := 1354) (dq D_Law_law_13_ok 22 rfl) ?_
      refine r_sld (pc := 1355) (dq D_Law_law_13_ok 23 rfl) (fun x229 => ?_)
      refine r_invI (Mc := M_B_years) (pc := 1356) (ci := 0) (rest := []) 5 3 [.int x227, .int x228, .int x229] (dq D_Law_law_13_ok 24 rfl) rfl rfl lc_B_years lv_B_years_ ml_Law_165 rfl rfl rfl rfl (t_B_years v1 x227 x228 x229 h) (fun r231 h230 => ?_)
      refine q_aload_n (pc := 1359) (dq D_Law_law_13_ok 25 rfl) rfl 2 rfl ?_
      refine q_aload_n (pc := 1360) (dq D_Law_law_13_ok 26 rfl) rfl 0 rfl ?_
      refine q_iload (pc := 1361) (dq D_Law_law_13_ok 27 rfl) 4 rfl ?_
      refine q_ic1 (pc := 1363) (dq D_Law_law_13_ok 28 rfl) ?_
      refine q_iadd (pc := 1364) (dq D_Law_law_13_ok 29 rfl) ?_
      refine r_sld (pc := 1365) (dq D_Law_law_13_ok 30 rfl) (fun x232 => ?_)
      refine q_aload_n (pc := 1366) (dq D_Law_law_13_ok 31 rfl) rfl 0 rfl ?_
      refine q_iload (pc := 1367) (dq D_Law_law_13_ok 32 rfl) 4 rfl ?_
      refine q_ic2 (pc := 1369) (dq D_Law_law_13_ok 33 rfl) ?_
      refine q_iadd (pc := 1370) (dq D_Law_law_13_ok 34 rfl) ?_
      refine r_sld (pc := 1371) (dq D_Law_law_13_ok 35 rfl) (fun x233 => ?_)
      refine q_aload_n (pc := 1372) (dq D_Law_law_13_ok 36 rfl) rfl 0 rfl ?_
      refine q_iload (pc := 1373) (dq D_Law_law_13_ok 37 rfl) 4 rfl ?_
      refine q_ic3 (pc := 1375) (dq D_Law_law_13_ok 38 rfl) ?_
      refine q_iadd (pc := 1376) (dq D_Law_law_13_ok 39 rfl) ?_
      refine r_sld (pc := 1377) (dq D_Law_law_13_ok 40 rfl) (fun x234 => ?_)
      refine r_invI (Mc := M_m_years) (pc := 1378) (ci := 11) (rest := [.int r231]) 4 3 [.int x232, .int x233, .int x234] (dq D_Law_law_13_ok 41 rfl) rfl rfl lc_m_years lv_m_years_ ml_Law_168 rfl rfl rfl rfl (t_m_years v2 x232 x233 x234 h230) (fun r236 h235 => ?_)
      refine q_ic_eq (pc := 1381) 1705 (dq D_Law_law_13_ok 42 rfl) rfl ?_ ?_
      · exact T.lsub [0, 1, 2, 3, 4] rfl (tb_Law_law_1705 hk23 v1 v2 v3 v4 h235)
      · refine q_ic0 (pc := 1384) (dq D_Law_law_13_ok 43 rfl) ?_
        exact r_retz (pc := 1385) (dq D_Law_law_13_ok 44 rfl) rfl
    refine T.ite (fun e => ?_) (fun n36 => ?_)
    · refine r_tin (pc := 40) (c := 36) 1386 (dq D_Law_law_0_ok 24 rfl) e (by decide) (by decide) rfl rfl ?_
      refine q_aload_n (pc := 1386) (dq D_Law_law_13_ok 45 rfl) rfl 1 rfl ?_
      refine q_aload_n (pc := 1387) (dq D_Law_law_13_ok 46 rfl) rfl 0 rfl ?_
      refine q_iload (pc := 1388) (dq D_Law_law_13_ok 47 rfl) 4 rfl ?_
      refine q_ic1 (pc := 1390) (dq D_Law_law_13_ok 48 rfl) ?_
      refine q_iadd (pc := 1391) (dq D_Law_law_13_ok 49 rfl) ?_
      refine r_sld (pc := 1392) (dq D_Law_law_13_ok 50 rfl) (fun x237 => ?_)
      refine q_aload_n (pc := 1393) (dq D_Law_law_13_ok 51 rfl) rfl 0 rfl ?_
      refine q_iload (pc := 1394) (dq D_Law_law_13_ok 52 rfl) 4 rfl ?_
      refine q_ic2 (pc := 1396) (dq D_Law_law_13_ok 53 rfl) ?_
      refine q_iadd (pc := 1397) (dq D_Law_law_13_ok 54 rfl) ?_
      refine r_sld (pc := 1398) (dq D_Law_law_13_ok 55 rfl) (fun x238 => ?_)
      refine q_aload_n (pc := 1399) (dq D_Law_law_13_ok 56 rfl) rfl 0 rfl ?_
      refine q_iload (pc := 1400) (dq D_Law_law_13_ok 57 rfl) 4 rfl ?_
      refine q_ic3 (pc := 1402) (dq D_Law_law_13_ok 58 rfl) ?_
      refine q_iadd (pc := 1403) (dq D_Law_law_13_ok 59 rfl) ?_
      refine r_sld (pc := 1404) (dq D_Law_law_14_ok 0 rfl) (fun x239 => ?_)
      refine r_invI (Mc := M_B_yearFeasts) (pc := 1405) (ci := 0) (rest := []) 5 3 [.int x237, .int x238, .int x239] (dq D_Law_law_14_ok 1 rfl) rfl rfl lc_B_yearFeasts lv_B_yearFeasts_ ml_Law_169 rfl rfl rfl rfl (t_B_yearFeasts v1 x237 x238 x239 h) (fun r241 h240 => ?_)
      refine q_aload_n (pc := 1408) (dq D_Law_law_14_ok 2 rfl) rfl 2 rfl ?_
      refine q_aload_n (pc := 1409) (dq D_Law_law_14_ok 3 rfl) rfl 0 rfl ?_
      refine q_iload (pc := 1410) (dq D_Law_law_14_ok 4 rfl) 4 rfl ?_
      refine q_ic1 (pc := 1412) (dq D_Law_law_14_ok 5 rfl) ?_
      refine q_iadd (pc := 1413) (dq D_Law_law_14_ok 6 rfl) ?_
      refine r_sld (pc := 1414) (dq D_Law_law_14_ok 7 rfl) (fun x242 => ?_)
      refine q_aload_n (pc := 1415) (dq D_Law_law_14_ok 8 rfl) rfl 0 rfl ?_
      refine q_iload (pc := 1416) (dq D_Law_law_14_ok 9 rfl) 4 rfl ?_
      refine q_ic2 (pc := 1418) (dq D_Law_law_14_ok 10 rfl) ?_
      refine q_iadd (pc := 1419) (dq D_Law_law_14_ok 11 rfl) ?_
      refine r_sld (pc := 1420) (dq D_Law_law_14_ok 12 rfl) (fun x243 => ?_)
      refine q_aload_n (pc := 1421) (dq D_Law_law_14_ok 13 rfl) rfl 0 rfl ?_
      refine q_iload (pc := 1422) (dq D_Law_law_14_ok 14 rfl) 4 rfl ?_
      refine q_ic3 (pc := 1424) (dq D_Law_law_14_ok 15 rfl) ?_
      refine q_iadd (pc := 1425) (dq D_Law_law_14_ok 16 rfl) ?_
      refine r_sld (pc := 1426) (dq D_Law_law_14_ok 17 rfl) (fun x244 => ?_)
      refine r_invI (Mc := M_m_yearFeasts) (pc := 1427) (ci := 11) (rest := [.int r241]) 4 3 [.int x242, .int x243, .int x244] (dq D_Law_law_14_ok 18 rfl) rfl rfl lc_m_yearFeasts lv_m_yearFeasts_ ml_Law_172 rfl rfl rfl rfl (t_m_yearFeasts v2 x242 x243 x244 h240) (fun r246 h245 => ?_)
      refine q_ic_eq (pc := 1430) 1705 (dq D_Law_law_14_ok 19 rfl) rfl ?_ ?_
      · exact T.lsub [0, 1, 2, 3, 4] rfl (tb_Law_law_1705 hk23 v1 v2 v3 v4 h245)
      · refine q_ic0 (pc := 1433) (dq D_Law_law_14_ok 20 rfl) ?_
        exact r_retz (pc := 1434) (dq D_Law_law_14_ok 21 rfl) rfl
    refine T.ite (fun e => ?_) (fun n37 => ?_)
    · refine r_tin (pc := 40) (c := 37) 1435 (dq D_Law_law_0_ok 24 rfl) e (by decide) (by decide) rfl rfl ?_
      refine q_aload_n (pc := 1435) (dq D_Law_law_14_ok 22 rfl) rfl 1 rfl ?_
      refine q_aload_n (pc := 1436) (dq D_Law_law_14_ok 23 rfl) rfl 0 rfl ?_
      refine q_iload (pc := 1437) (dq D_Law_law_14_ok 24 rfl) 4 rfl ?_
      refine q_ic1 (pc := 1439) (dq D_Law_law_14_ok 25 rfl) ?_
      refine q_iadd (pc := 1440) (dq D_Law_law_14_ok 26 rfl) ?_
      refine r_sld (pc := 1441) (dq D_Law_law_14_ok 27 rfl) (fun x247 => ?_)
      refine q_aload_n (pc := 1442) (dq D_Law_law_14_ok 28 rfl) rfl 0 rfl ?_
      refine q_iload (pc := 1443) (dq D_Law_law_14_ok 29 rfl) 4 rfl ?_
      refine q_ic2 (pc := 1445) (dq D_Law_law_14_ok 30 rfl) ?_
      refine q_iadd (pc := 1446) (dq D_Law_law_14_ok 31 rfl) ?_
      refine r_sld (pc := 1447) (dq D_Law_law_14_ok 32 rfl) (fun x248 => ?_)
      refine r_invI (Mc := M_B_slips) (pc := 1448) (ci := 0) (rest := []) 5 2 [.int x247, .int x248] (dq D_Law_law_14_ok 33 rfl) rfl rfl lc_B_slips lv_B_slips_ ml_Law_173 rfl rfl rfl rfl (t_B_slips v1 x247 x248 h) (fun r250 h249 => ?_)
      refine q_aload_n (pc := 1451) (dq D_Law_law_14_ok 34 rfl) rfl 2 rfl ?_
      refine q_aload_n (pc := 1452) (dq D_Law_law_14_ok 35 rfl) rfl 0 rfl ?_
      refine q_iload (pc := 1453) (dq D_Law_law_14_ok 36 rfl) 4 rfl ?_
      refine q_ic1 (pc := 1455) (dq D_Law_law_14_ok 37 rfl) ?_
      refine q_iadd (pc := 1456) (dq D_Law_law_14_ok 38 rfl) ?_
      refine r_sld (pc := 1457) (dq D_Law_law_14_ok 39 rfl) (fun x251 => ?_)
      refine q_aload_n (pc := 1458) (dq D_Law_law_14_ok 40 rfl) rfl 0 rfl ?_
      refine q_iload (pc := 1459) (dq D_Law_law_14_ok 41 rfl) 4 rfl ?_
      refine q_ic2 (pc := 1461) (dq D_Law_law_14_ok 42 rfl) ?_
      refine q_iadd (pc := 1462) (dq D_Law_law_14_ok 43 rfl) ?_
      refine r_sld (pc := 1463) (dq D_Law_law_14_ok 44 rfl) (fun x252 => ?_)
      refine r_invI (Mc := M_m_slips) (pc := 1464) (ci := 11) (rest := [.int r250]) 4 2 [.int x251, .int x252] (dq D_Law_law_14_ok 45 rfl) rfl rfl lc_m_slips lv_m_slips_ ml_Law_176 rfl rfl rfl rfl (t_m_slips v2 x251 x252 h249) (fun r254 h253 => ?_)
      refine q_ic_eq (pc := 1467) 1705 (dq D_Law_law_14_ok 46 rfl) rfl ?_ ?_
      · exact T.lsub [0, 1, 2, 3, 4] rfl (tb_Law_law_1705 hk23 v1 v2 v3 v4 h253)
      · refine q_ic0 (pc := 1470) (dq D_Law_law_14_ok 47 rfl) ?_
        exact r_retz (pc := 1471) (dq D_Law_law_14_ok 48 rfl) rfl
    refine T.ite (fun e => ?_) (fun n38 => ?_)
    · refine r_tin (pc := 40) (c := 38) 1472 (dq D_Law_law_0_ok 24 rfl) e (by decide) (by decide) rfl rfl ?_
      refine q_aload_n (pc := 1472) (dq D_Law_law_14_ok 49 rfl) rfl 1 rfl ?_
      refine r_invI (Mc := M_B_turn) (pc := 1473) (ci := 0) (rest := []) 4 0 [] (dq D_Law_law_14_ok 50 rfl) rfl rfl lc_B_turn lv_B_turn_ ml_Law_177 rfl rfl rfl rfl (t_B_turn v1 h) (fun r256 h255 => ?_)
      refine q_aload_n (pc := 1476) (dq D_Law_law_14_ok 51 rfl) rfl 2 rfl ?_
      refine r_invI (Mc := M_m_turn) (pc := 1477) (ci := 11) (rest := [.int r256]) 3 0 [] (dq D_Law_law_14_ok 52 rfl) rfl rfl lc_m_turn lv_m_turn_ ml_Law_180 rfl rfl rfl rfl (t_m_turn v2 h255) (fun r258 h257 => ?_)
      refine q_ic_eq (pc := 1480) 1705 (dq D_Law_law_14_ok 53 rfl) rfl ?_ ?_
      · exact T.lsub [0, 1, 2, 3, 4] rfl (tb_Law_law_1705 hk23 v1 v2 v3 v4 h257)
      · refine q_ic0 (pc := 1483) (dq D_Law_law_14_ok 54 rfl) ?_
        exact r_retz (pc := 1484) (dq D_Law_law_14_ok 55 rfl) rfl
    refine T.ite (fun e => ?_) (fun n39 => ?_)
    · refine r_tin (pc := 40) (c := 39) 1485 (dq D_Law_law_0_ok 24 rfl) e (by decide) (by decide) rfl rfl ?_
      refine q_aload_n (pc := 1485) (dq D_Law_law_14_ok 56 rfl) rfl 1 rfl ?_
      refine r_invI (Mc := M_B_turnBack) (pc := 1486) (ci := 0) (rest := []) 4 0 [] (dq D_Law_law_14_ok 57 rfl) rfl rfl lc_B_turnBack lv_B_turnBack_ ml_Law_181 rfl rfl rfl rfl (t_B_turnBack v1 h) (fun r260 h259 => ?_)
      refine q_aload_n (pc := 1489) (dq D_Law_law_14_ok 58 rfl) rfl 2 rfl ?_
      refine r_invI (Mc := M_m_turnBack) (pc := 1490) (ci := 11) (rest := [.int r260]) 2 0 [] (dq D_Law_law_14_ok 59 rfl) rfl rfl lc_m_turnBack lv_m_turnBack_ ml_Law_184 rfl rfl rfl rfl (t_m_turnBack v2 h259) (fun r262 h261 => ?_)
      refine q_ic_eq (pc := 1493) 1705 (dq D_Law_law_15_ok 0 rfl) rfl ?_ ?_
      · exact T.lsub [0, 1, 2, 3, 4] rfl (tb_Law_law_1705 hk23 v1 v2 v3 v4 h261)
      · refine q_ic0 (pc := 1496) (dq D_Law_law_15_ok 1 rfl) ?_
        exact r_retz (pc := 1497) (dq D_Law_law_15_ok 2 rfl) rfl
    refine T.ite (fun e => ?_) (fun n40 => ?_)
    · refine r_tin (pc := 40) (c := 40) 1498 (dq D_Law_law_0_ok 24 rfl) e (by decide) (by decide) rfl rfl ?_
      refine q_aload_n (pc := 1498) (dq D_Law_law_15_ok 3 rfl) rfl 1 rfl ?_
      refine q_aload_n (pc := 1499) (dq D_Law_law_15_ok 4 rfl) rfl 0 rfl ?_
      refine q_iload (pc := 1500) (dq D_Law_law_15_ok 5 rfl) 4 rfl ?_
      refine q_ic1 (pc := 1502) (dq D_Law_law_15_ok 6 rfl) ?_
      refine q_iadd (pc := 1503) (dq D_Law_law_15_ok 7 rfl) ?_
      refine r_sld (pc := 1504) (dq D_Law_law_15_ok 8 rfl) (fun x263 => ?_)
      refine r_invI (Mc := M_B_oil) (pc := 1505) (ci := 0) (rest := []) 2 1 [.int x263] (dq D_Law_law_15_ok 9 rfl) rfl rfl lc_B_oil lv_B_oil_ ml_Law_185 rfl rfl rfl rfl (t_B_oil v1 x263 h) (fun r265 h264 => ?_)
      refine q_aload_n (pc := 1508) (dq D_Law_law_15_ok 10 rfl) rfl 2 rfl ?_
      refine q_aload_n (pc := 1509) (dq D_Law_law_15_ok 11 rfl) rfl 0 rfl ?_
      refine q_iload (pc := 1510) (dq D_Law_law_15_ok 12 rfl) 4 rfl ?_
      refine q_ic1 (pc := 1512) (dq D_Law_law_15_ok 13 rfl) ?_
      refine q_iadd (pc := 1513) (dq D_Law_law_15_ok 14 rfl) ?_
      refine r_sld (pc := 1514) (dq D_Law_law_15_ok 15 rfl) (fun x266 => ?_)
      refine r_invI (Mc := M_m_oil) (pc := 1515) (ci := 11) (rest := [.int r265]) 1 1 [.int x266] (dq D_Law_law_15_ok 16 rfl) rfl rfl lc_m_oil lv_m_oil_ ml_Law_188 rfl rfl rfl rfl (t_m_oil v2 x266 h264) (fun r268 h267 => ?_)
      refine q_ic_eq (pc := 1518) 1705 (dq D_Law_law_15_ok 17 rfl) rfl ?_ ?_
      · exact T.lsub [0, 1, 2, 3, 4] rfl (tb_Law_law_1705 hk23 v1 v2 v3 v4 h267)
      · refine q_ic0 (pc := 1521) (dq D_Law_law_15_ok 18 rfl) ?_
        exact r_retz (pc := 1522) (dq D_Law_law_15_ok 19 rfl) rfl
    refine T.ite (fun e => ?_) (fun n41 => ?_)
    · refine r_tin (pc := 40) (c := 41) 1523 (dq D_Law_law_0_ok 24 rfl) e (by decide) (by decide) rfl rfl ?_
      refine q_aload_n (pc := 1523) (dq D_Law_law_15_ok 20 rfl) rfl 1 rfl ?_
      refine q_aload_n (pc := 1524) (dq D_Law_law_15_ok 21 rfl) rfl 0 rfl ?_
      refine q_iload (pc := 1525) (dq D_Law_law_15_ok 22 rfl) 4 rfl ?_
      refine q_ic1 (pc := 1527) (dq D_Law_law_15_ok 23 rfl) ?_
      refine q_iadd (pc := 1528) (dq D_Law_law_15_ok 24 rfl) ?_
      refine r_sld (pc := 1529) (dq D_Law_law_15_ok 25 rfl) (fun x269 => ?_)
      refine q_aload_n (pc := 1530) (dq D_Law_law_15_ok 26 rfl) rfl 0 rfl ?_
      refine q_iload (pc := 1531) (dq D_Law_law_15_ok 27 rfl) 4 rfl ?_
      refine q_ic2 (pc := 1533) (dq D_Law_law_15_ok 28 rfl) ?_
      refine q_iadd (pc := 1534) (dq D_Law_law_15_ok 29 rfl) ?_
      refine r_sld (pc := 1535) (dq D_Law_law_15_ok 30 rfl) (fun x270 => ?_)
      refine r_invI (Mc := M_B_set) (pc := 1536) (ci := 0) (rest := []) 2 2 [.int x269, .int x270] (dq D_Law_law_15_ok 31 rfl) rfl rfl lc_B_set lv_B_set_ ml_Law_189 rfl rfl rfl rfl (t_B_set v1 x269 x270 h) (fun r272 h271 => ?_)
      refine q_aload_n (pc := 1539) (dq D_Law_law_15_ok 32 rfl) rfl 2 rfl ?_
      refine q_aload_n (pc := 1540) (dq D_Law_law_15_ok 33 rfl) rfl 0 rfl ?_
      refine q_iload (pc := 1541) (dq D_Law_law_15_ok 34 rfl) 4 rfl ?_
      refine q_ic1 (pc := 1543) (dq D_Law_law_15_ok 35 rfl) ?_
      refine q_iadd (pc := 1544) (dq D_Law_law_15_ok 36 rfl) ?_
      refine r_sld (pc := 1545) (dq D_Law_law_15_ok 37 rfl) (fun x273 => ?_)
      refine q_aload_n (pc := 1546) (dq D_Law_law_15_ok 38 rfl) rfl 0 rfl ?_
      refine q_iload (pc := 1547) (dq D_Law_law_15_ok 39 rfl) 4 rfl ?_
      refine q_ic2 (pc := 1549) (dq D_Law_law_15_ok 40 rfl) ?_
      refine q_iadd (pc := 1550) (dq D_Law_law_15_ok 41 rfl) ?_
      refine r_sld (pc := 1551) (dq D_Law_law_15_ok 42 rfl) (fun x274 => ?_)
      refine r_invI (Mc := M_m_set) (pc := 1552) (ci := 11) (rest := [.int r272]) 2 2 [.int x273, .int x274] (dq D_Law_law_15_ok 43 rfl) rfl rfl lc_m_set lv_m_set_ ml_Law_193 rfl rfl rfl rfl (t_m_set v2 x273 x274 h271) (fun r276 h275 => ?_)
      refine q_ic_eq (pc := 1555) 1705 (dq D_Law_law_15_ok 44 rfl) rfl ?_ ?_
      · exact T.lsub [0, 1, 2, 3, 4] rfl (tb_Law_law_1705 hk23 v1 v2 v3 v4 h275)
      · refine q_ic0 (pc := 1558) (dq D_Law_law_15_ok 45 rfl) ?_
        exact r_retz (pc := 1559) (dq D_Law_law_15_ok 46 rfl) rfl
    refine T.ite (fun e => ?_) (fun n42 => ?_)
    · refine r_tin (pc := 40) (c := 42) 1560 (dq D_Law_law_0_ok 24 rfl) e (by decide) (by decide) rfl rfl ?_
      refine q_aload_n (pc := 1560) (dq D_Law_law_15_ok 47 rfl) rfl 1 rfl ?_
      refine r_invI (Mc := M_B_undo) (pc := 1561) (ci := 0) (rest := []) 2 0 [] (dq D_Law_law_15_ok 48 rfl) rfl rfl lc_B_undo lv_B_undo_ ml_Law_194 rfl rfl rfl rfl (t_B_undo v1 h) (fun r278 h277 => ?_)
      refine q_aload_n (pc := 1564) (dq D_Law_law_15_ok 49 rfl) rfl 2 rfl ?_
      refine r_invI (Mc := M_m_undo) (pc := 1565) (ci := 11) (rest := [.int r278]) 2 0 [] (dq D_Law_law_15_ok 50 rfl) rfl rfl lc_m_undo lv_m_undo_ ml_Law_198 rfl rfl rfl rfl (t_m_undo v2 h277) (fun r280 h279 => ?_)
      refine q_ic_eq (pc := 1568) 1705 (dq D_Law_law_15_ok 51 rfl) rfl ?_ ?_
      · exact T.lsub [0, 1, 2, 3, 4] rfl (tb_Law_law_1705 hk23 v1 v2 v3 v4 h279)
      · refine q_ic0 (pc := 1571) (dq D_Law_law_15_ok 52 rfl) ?_
        exact r_retz (pc := 1572) (dq D_Law_law_15_ok 53 rfl) rfl
    refine T.ite (fun e => ?_) (fun n43 => ?_)
    · refine r_tin (pc := 40) (c := 43) 1573 (dq D_Law_law_0_ok 24 rfl) e (by decide) (by decide) rfl rfl ?_
      refine q_aload_n (pc := 1573) (dq D_Law_law_15_ok 54 rfl) rfl 1 rfl ?_
      refine r_invI (Mc := M_B_image) (pc := 1574) (ci := 0) (rest := []) 2 0 [] (dq D_Law_law_15_ok 55 rfl) rfl rfl lc_B_image lv_B_image_ ml_Law_199 rfl rfl rfl rfl (t_B_image v1 h) (fun r282 h281 => ?_)
      refine q_aload_n (pc := 1577) (dq D_Law_law_15_ok 56 rfl) rfl 2 rfl ?_
      refine r_invI (Mc := M_m_image) (pc := 1578) (ci := 11) (rest := [.int r282]) 1 0 [] (dq D_Law_law_15_ok 57 rfl) rfl rfl lc_m_image lv_m_image_ ml_Law_202 rfl rfl rfl rfl (t_m_image v2 h281) (fun r284 h283 => ?_)
      refine q_ic_eq (pc := 1581) 1705 (dq D_Law_law_15_ok 58 rfl) rfl ?_ ?_
      · exact T.lsub [0, 1, 2, 3, 4] rfl (tb_Law_law_1705 hk23 v1 v2 v3 v4 h283)
      · refine q_ic0 (pc := 1584) (dq D_Law_law_15_ok 59 rfl) ?_
        exact r_retz (pc := 1585) (dq D_Law_law_16_ok 0 rfl) rfl
    refine T.ite (fun e => ?_) (fun n44 => ?_)
    · refine r_tin (pc := 40) (c := 44) 1586 (dq D_Law_law_0_ok 24 rfl) e (by decide) (by decide) rfl rfl ?_
      refine q_aload_n (pc := 1586) (dq D_Law_law_16_ok 1 rfl) rfl 1 rfl ?_
      refine q_aload_n (pc := 1587) (dq D_Law_law_16_ok 2 rfl) rfl 0 rfl ?_
      refine q_iload (pc := 1588) (dq D_Law_law_16_ok 3 rfl) 4 rfl ?_
      refine q_ic1 (pc := 1590) (dq D_Law_law_16_ok 4 rfl) ?_
      refine q_iadd (pc := 1591) (dq D_Law_law_16_ok 5 rfl) ?_
      refine r_sld (pc := 1592) (dq D_Law_law_16_ok 6 rfl) (fun x285 => ?_)
      refine r_invI (Mc := M_B_back) (pc := 1593) (ci := 0) (rest := []) 2 1 [.int x285] (dq D_Law_law_16_ok 7 rfl) rfl rfl lc_B_back lv_B_back_ ml_Law_203 rfl rfl rfl rfl (t_B_back v1 x285 h) (fun r287 h286 => ?_)
      refine q_aload_n (pc := 1596) (dq D_Law_law_16_ok 8 rfl) rfl 2 rfl ?_
      refine q_aload_n (pc := 1597) (dq D_Law_law_16_ok 9 rfl) rfl 0 rfl ?_
      refine q_iload (pc := 1598) (dq D_Law_law_16_ok 10 rfl) 4 rfl ?_
      refine q_ic1 (pc := 1600) (dq D_Law_law_16_ok 11 rfl) ?_
      refine q_iadd (pc := 1601) (dq D_Law_law_16_ok 12 rfl) ?_
      refine r_sld (pc := 1602) (dq D_Law_law_16_ok 13 rfl) (fun x288 => ?_)
      refine r_invI (Mc := M_m_back) (pc := 1603) (ci := 11) (rest := [.int r287]) 2 1 [.int x288] (dq D_Law_law_16_ok 14 rfl) rfl rfl lc_m_back lv_m_back_ ml_Law_207 rfl rfl rfl rfl (t_m_back v2 x288 h286) (fun r290 h289 => ?_)
      refine q_ic_eq (pc := 1606) 1705 (dq D_Law_law_16_ok 15 rfl) rfl ?_ ?_
      · exact T.lsub [0, 1, 2, 3, 4] rfl (tb_Law_law_1705 hk23 v1 v2 v3 v4 h289)
      · refine q_ic0 (pc := 1609) (dq D_Law_law_16_ok 16 rfl) ?_
        exact r_retz (pc := 1610) (dq D_Law_law_16_ok 17 rfl) rfl
    refine T.ite (fun e => ?_) (fun n45 => ?_)
    · refine r_tin (pc := 40) (c := 45) 1611 (dq D_Law_law_0_ok 24 rfl) e (by decide) (by decide) rfl rfl ?_
      refine q_aload_n (pc := 1611) (dq D_Law_law_16_ok 18 rfl) rfl 1 rfl ?_
      refine q_aload_n (pc := 1612) (dq D_Law_law_16_ok 19 rfl) rfl 0 rfl ?_
      refine q_iload (pc := 1613) (dq D_Law_law_16_ok 20 rfl) 4 rfl ?_
      refine q_ic1 (pc := 1615) (dq D_Law_law_16_ok 21 rfl) ?_
      refine q_iadd (pc := 1616) (dq D_Law_law_16_ok 22 rfl) ?_
      refine r_sld (pc := 1617) (dq D_Law_law_16_ok 23 rfl) (fun x291 => ?_)
      refine q_aload_n (pc := 1618) (dq D_Law_law_16_ok 24 rfl) rfl 3 rfl ?_
      refine r_led (pc := 1619) (dq D_Law_law_16_ok 25 rfl) lk_Law_led rfl (fun r293 h292 => ?_)
      refine q_istore (pc := 1622) (ls' := [(5, .int r293), (0, .ref (gX G).1), (1, .ref v1), (2, .ref v2), (3, .ref v3), (4, .int v4)]) (dq D_Law_law_16_ok 26 rfl) rfl rfl ?_
      refine q_aload_n (pc := 1624) (dq D_Law_law_16_ok 27 rfl) rfl 3 rfl ?_
      refine q_aload_n (pc := 1625) (dq D_Law_law_16_ok 28 rfl) rfl 1 rfl ?_
      refine q_iload (pc := 1626) (dq D_Law_law_16_ok 29 rfl) 5 rfl ?_
      refine q_ic1 (pc := 1628) (dq D_Law_law_16_ok 30 rfl) ?_
      refine q_iadd (pc := 1629) (dq D_Law_law_16_ok 31 rfl) ?_
      refine r_sld (pc := 1630) (dq D_Law_law_16_ok 32 rfl) (fun x294 => ?_)
      refine r_invI (Mc := M_m_led) (pc := 1631) (ci := 11) (rest := []) 3 1 [.int x294] (dq D_Law_law_16_ok 33 rfl) rfl rfl lc_m_led lv_m_led_ ml_Law_213 rfl rfl rfl rfl (t_m_led v2 x294 h292) (fun r296 h295 => ?_)
      refine q_istore (pc := 1634) (ls' := [(6, .int r296), (5, .int r293), (0, .ref (gX G).1), (1, .ref v1), (2, .ref v2), (3, .ref v3), (4, .int v4)]) (dq D_Law_law_16_ok 34 rfl) rfl rfl ?_
      refine q_aload_n (pc := 1636) (dq D_Law_law_16_ok 35 rfl) rfl 4 rfl ?_
      refine r_invI (Mc := M_m_thrown) (pc := 1637) (ci := 11) (rest := []) 0 0 [] (dq D_Law_law_16_ok 36 rfl) rfl rfl lc_m_thrown lv_m_thrown_ ml_Law_214 rfl rfl rfl rfl (t_m_thrown v2 h295) (fun r298 h297 => ?_)
      refine q_iload (pc := 1640) (dq D_Law_law_16_ok 37 rfl) 1 rfl ?_
      refine q_ic_eq (pc := 1642) 1647 (dq D_Law_law_16_ok 38 rfl) rfl ?_ ?_
      · refine q_iload (pc := 1647) (dq D_Law_law_16_ok 41 rfl) 1 rfl ?_
        refine p_if_ne (pc := 1649) 1664 (dq D_Law_law_16_ok 42 rfl) rfl ?_ ?_
        · exact T.lsub [2, 3, 4, 5, 6] rfl (tb_Law_law_1664 hk23 v1 v2 v3 v4 h297)
        · refine q_aload_n (pc := 1652) (dq D_Law_law_16_ok 43 rfl) rfl 5 rfl ?_
          refine q_ic0 (pc := 1653) (dq D_Law_law_16_ok 44 rfl) ?_
          refine r_lald (pc := 1654) (dq D_Law_law_16_ok 45 rfl) (fun x299 => ?_)
          refine q_iload (pc := 1655) (dq D_Law_law_16_ok 46 rfl) 0 rfl ?_
          refine q_i2l (pc := 1657) (dq D_Law_law_16_ok 47 rfl) ?_
          refine q_lcmp (pc := 1658) (dq D_Law_law_16_ok 48 rfl) ?_
          refine p_if_eq (pc := 1659) 1664 (dq D_Law_law_16_ok 49 rfl) rfl ?_ ?_
          · exact T.lsub [2, 3, 4, 5, 6] rfl (tb_Law_law_1664 hk23 v1 v2 v3 v4 h297)
          · refine q_ic0 (pc := 1662) (dq D_Law_law_16_ok 50 rfl) ?_
            exact r_retz (pc := 1663) (dq D_Law_law_16_ok 51 rfl) rfl
      · refine q_ic0 (pc := 1645) (dq D_Law_law_16_ok 39 rfl) ?_
        exact r_retz (pc := 1646) (dq D_Law_law_16_ok 40 rfl) rfl
    refine T.ite (fun e => ?_) (fun n46 => ?_)
    · refine r_tin (pc := 40) (c := 46) 1667 (dq D_Law_law_0_ok 24 rfl) e (by decide) (by decide) rfl rfl ?_
      refine q_aload_n (pc := 1667) (dq D_Law_law_16_ok 53 rfl) rfl 1 rfl ?_
      refine q_aload_n (pc := 1668) (dq D_Law_law_16_ok 54 rfl) rfl 0 rfl ?_
      refine q_iload (pc := 1669) (dq D_Law_law_16_ok 55 rfl) 4 rfl ?_
      refine q_ic1 (pc := 1671) (dq D_Law_law_16_ok 56 rfl) ?_
      refine q_iadd (pc := 1672) (dq D_Law_law_16_ok 57 rfl) ?_
      refine r_sld (pc := 1673) (dq D_Law_law_16_ok 58 rfl) (fun x300 => ?_)
      refine r_invI (Mc := M_B_size) (pc := 1674) (ci := 0) (rest := []) 2 1 [.int x300] (dq D_Law_law_16_ok 59 rfl) rfl rfl lc_B_size lv_B_size_ ml_Law_217 rfl rfl rfl rfl (t_B_size v1 x300 h) (fun r302 h301 => ?_)
      refine q_aload_n (pc := 1677) (dq D_Law_law_17_ok 0 rfl) rfl 2 rfl ?_
      refine q_aload_n (pc := 1678) (dq D_Law_law_17_ok 1 rfl) rfl 0 rfl ?_
      refine q_iload (pc := 1679) (dq D_Law_law_17_ok 2 rfl) 4 rfl ?_
      refine q_ic1 (pc := 1681) (dq D_Law_law_17_ok 3 rfl) ?_
      refine q_iadd (pc := 1682) (dq D_Law_law_17_ok 4 rfl) ?_
      refine r_sld (pc := 1683) (dq D_Law_law_17_ok 5 rfl) (fun x303 => ?_)
      refine r_invI (Mc := M_m_size) (pc := 1684) (ci := 11) (rest := [.int r302]) 1 1 [.int x303] (dq D_Law_law_17_ok 6 rfl) rfl rfl lc_m_size lv_m_size_ ml_Law_220 rfl rfl rfl rfl (t_m_size v2 x303 h301) (fun r305 h304 => ?_)
      refine q_ic_eq (pc := 1687) 1705 (dq D_Law_law_17_ok 7 rfl) rfl ?_ ?_
      · exact T.lsub [0, 1, 2, 3, 4] rfl (tb_Law_law_1705 hk23 v1 v2 v3 v4 h304)
      · refine q_ic0 (pc := 1690) (dq D_Law_law_17_ok 8 rfl) ?_
        exact r_retz (pc := 1691) (dq D_Law_law_17_ok 9 rfl) rfl
    refine T.ite (fun e => ?_) (fun n47 => ?_)
    · refine r_tin (pc := 40) (c := 47) 1692 (dq D_Law_law_0_ok 24 rfl) e (by decide) (by decide) rfl rfl ?_
      refine q_aload_n (pc := 1692) (dq D_Law_law_17_ok 10 rfl) rfl 1 rfl ?_
      refine r_invI (Mc := M_B_trouble) (pc := 1693) (ci := 0) (rest := []) 0 0 [] (dq D_Law_law_17_ok 11 rfl) rfl rfl lc_B_trouble lv_B_trouble_ ml_Law_221 rfl rfl rfl rfl (t_B_trouble v1 h) (fun r307 h306 => ?_)
      refine q_aload_n (pc := 1696) (dq D_Law_law_17_ok 12 rfl) rfl 2 rfl ?_
      refine r_invI (Mc := M_m_trouble) (pc := 1697) (ci := 11) (rest := [.int r307]) 0 0 [] (dq D_Law_law_17_ok 13 rfl) rfl rfl lc_m_trouble lv_m_trouble_ ml_Law_224 rfl rfl rfl rfl (t_m_trouble v2 h306) (fun r309 h308 => ?_)
      refine q_ic_eq (pc := 1700) 1705 (dq D_Law_law_17_ok 14 rfl) rfl ?_ ?_
      · exact T.lsub [0, 1, 2, 3, 4] rfl (tb_Law_law_1705 hk23 v1 v2 v3 v4 h308)
      · refine q_ic0 (pc := 1703) (dq D_Law_law_17_ok 15 rfl) ?_
        exact r_retz (pc := 1704) (dq D_Law_law_17_ok 16 rfl) rfl
    refine r_tout (pc := 40) 1705 (dq D_Law_law_0_ok 24 rfl) (by have e0 := int_ne (z := 0) n0 (by decide); have e1 := int_ne (z := 1) n1 (by decide); have e2 := int_ne (z := 2) n2 (by decide); have e3 := int_ne (z := 3) n3 (by decide); have e4 := int_ne (z := 4) n4 (by decide); have e5 := int_ne (z := 5) n5 (by decide); have e6 := int_ne (z := 6) n6 (by decide); have e7 := int_ne (z := 7) n7 (by decide); have e8 := int_ne (z := 8) n8 (by decide); have e9 := int_ne (z := 9) n9 (by decide); have e10 := int_ne (z := 10) n10 (by decide); have e11 := int_ne (z := 11) n11 (by decide); have e12 := int_ne (z := 12) n12 (by decide); have e13 := int_ne (z := 13) n13 (by decide); have e14 := int_ne (z := 14) n14 (by decide); have e15 := int_ne (z := 15) n15 (by decide); have e16 := int_ne (z := 16) n16 (by decide); have e17 := int_ne (z := 17) n17 (by decide); have e18 := int_ne (z := 18) n18 (by decide); have e19 := int_ne (z := 19) n19 (by decide); have e20 := int_ne (z := 20) n20 (by decide); have e21 := int_ne (z := 21) n21 (by decide); have e22 := int_ne (z := 22) n22 (by decide); have e23 := int_ne (z := 23) n23 (by decide); have e24 := int_ne (z := 24) n24 (by decide); have e25 := int_ne (z := 25) n25 (by decide); have e26 := int_ne (z := 26) n26 (by decide); have e27 := int_ne (z := 27) n27 (by decide); have e28 := int_ne (z := 28) n28 (by decide); have e29 := int_ne (z := 29) n29 (by decide); have e30 := int_ne (z := 30) n30 (by decide); have e31 := int_ne (z := 31) n31 (by decide); have e32 := int_ne (z := 32) n32 (by decide); have e33 := int_ne (z := 33) n33 (by decide); have e34 := int_ne (z := 34) n34 (by decide); have e35 := int_ne (z := 35) n35 (by decide); have e36 := int_ne (z := 36) n36 (by decide); have e37 := int_ne (z := 37) n37 (by decide); have e38 := int_ne (z := 38) n38 (by decide); have e39 := int_ne (z := 39) n39 (by decide); have e40 := int_ne (z := 40) n40 (by decide); have e41 := int_ne (z := 41) n41 (by decide); have e42 := int_ne (z := 42) n42 (by decide); have e43 := int_ne (z := 43) n43 (by decide); have e44 := int_ne (z := 44) n44 (by decide); have e45 := int_ne (z := 45) n45 (by decide); have e46 := int_ne (z := 46) n46 (by decide); have e47 := int_ne (z := 47) n47 (by decide); omega) rfl ?_
    exact T.lsub [0, 1, 2, 3, 4] rfl (tb_Law_law_1705 hk23 v1 v2 v3 v4 h)
noncomputable def l_Law_law_23 (L : Nat) (xs : Nat → Int32) : Nat → (Nat × Nat × Nat × Int32) → Hp → Option (Int32 × Hp) := lp (fun k23 s h => b_Law_law_23 L xs k23 s.1 s.2.1 s.2.2.1 s.2.2.2 h)
set_option maxHeartbeats 4000000 in
set_option maxRecDepth 20000 in
theorem tl_Law_law_23 {G : GG} (n : Nat) (s : Nat × Nat × Nat × Int32) (h : Hp) : T G M_Law_law 16 cI 23 [(0, .ref (gX G).1), (1, .ref s.1), (2, .ref s.2.1), (3, .ref s.2.2.1), (4, .int s.2.2.2)] [] h (l_Law_law_23 (gX G).2.1 (gX G).2.2 n s h) :=
  T.loop (lsOf := fun s => [(0, .ref (gX G).1), (1, .ref s.1), (2, .ref s.2.1), (3, .ref s.2.2.1), (4, .int s.2.2.2)]) (fun k23 hk23 s h => tb_Law_law_23 hk23 s.1 s.2.1 s.2.2.1 s.2.2.2 h) n s h
noncomputable def f_Law_law (L : Nat) (xs : Nat → Int32) (h : Hp) : Option (Int32 × Hp) := gd (1 ≤ (hB h).1 ∧ 16 ≤ (hB h).2) (lt (hN h) fun a1 => lt (uN h (.inl 0) 16) fun h2 => bd (f_B_init a1 h2) fun _ h3 => gd (1 ≤ (hB h3).1 ∧ 36 ≤ (hB h3).2) (lt (hN h3) fun a5 => lt (uN h3 (.inl 11) 36) fun h6 => bd (f_m_init a5 h6) fun _ h7 => gd (1 ≤ (hB h7).1 ∧ 1 ≤ (hB h7).2) (lt (hN h7) fun a9 => lt (uN h7 (.inr (1, 1)) 1) fun h10 => lt (0 : Int32) fun y11 => l_Law_law_23 L xs FU (a1, a5, a9, y11) h10)))
set_option maxHeartbeats 4000000 in
set_option maxRecDepth 20000 in
theorem tt_Law_law {G : GG} (h : Hp) : T G M_Law_law 16 cI 0 [(0, .ref (gX G).1)] [] h (f_Law_law (gX G).2.1 (gX G).2.2 h) := by
  unfold f_Law_law
  refine r_new (pc := 0) (ci := 0) (dq D_Law_law_0_ok 0 rfl) rfl lk_Law_8 lkn_B lki_B df_B (fun a1 h2 => ?_)
  refine q_dup (pc := 3) (dq D_Law_law_0_ok 1 rfl) rfl ?_
  refine r_iniU (Mc := M_B_init) (pc := 4) (rest := [.ref a1]) 3 0 [] (dq D_Law_law_0_ok 2 rfl) lc_B_init rfl rfl li_B_init ml_Law_15 rfl rfl rfl rfl (t_B_init a1 h2) (fun _ h3 => ?_)
  refine q_astore_n (pc := 7) (ls' := [(1, .ref a1), (0, .ref (gX G).1)]) (dq D_Law_law_0_ok 3 rfl) rfl rfl rfl ?_
  refine r_new (pc := 8) (ci := 11) (dq D_Law_law_0_ok 4 rfl) rfl lk_Law_16 lkn_m lki_m df_m (fun a5 h6 => ?_)
  refine q_dup (pc := 11) (dq D_Law_law_0_ok 5 rfl) rfl ?_
  refine r_iniU (Mc := M_m_init) (pc := 12) (rest := [.ref a5]) 1 0 [] (dq D_Law_law_0_ok 6 rfl) lc_m_init rfl rfl li_m_init ml_Law_18 rfl rfl rfl rfl (t_m_init a5 h6) (fun _ h7 => ?_)
  refine q_astore_n (pc := 15) (ls' := [(2, .ref a5), (1, .ref a1), (0, .ref (gX G).1)]) (dq D_Law_law_0_ok 7 rfl) rfl rfl rfl ?_
  refine q_ic1 (pc := 16) (dq D_Law_law_0_ok 8 rfl) ?_
  refine r_newL (pc := 17) 1 (dq D_Law_law_0_ok 9 rfl) lka_J (by decide) (by decide) (by decide) (fun a9 h10 => ?_)
  refine q_astore_n (pc := 19) (ls' := [(3, .ref a9), (2, .ref a5), (1, .ref a1), (0, .ref (gX G).1)]) (dq D_Law_law_0_ok 10 rfl) rfl rfl rfl ?_
  refine q_ic0 (pc := 20) (dq D_Law_law_0_ok 11 rfl) ?_
  refine r_nmI (fun y11 => ?_)
  refine q_istore (pc := 21) (ls' := [(4, .int y11), (3, .ref a9), (2, .ref a5), (1, .ref a1), (0, .ref (gX G).1)]) (dq D_Law_law_0_ok 12 rfl) rfl rfl ?_
  exact T.lsub [4, 3, 2, 1, 0] rfl (tl_Law_law_23 FU (a1, a5, a9, y11) h10)
