noncomputable def b_m_part_43 (k5 : (Nat × Int32 × Int32 × Int64 × Int32) → Hp → Option (Int64 × Hp)) (v0 : Nat) (v1 : Int32) (v2 : Int32) (v5 : Int32) (s0 : Int64) (s1 : Int64) (h : Hp) : Option (Int64 × Hp) := lt (s1 * s0 : Int64) fun y1 => k5 (v0, v1, v2, y1, v5 + 1) h
set_option maxHeartbeats 4000000 in
set_option maxRecDepth 20000 in
theorem tb_m_part_43 {G : GG} {k5 : (Nat × Int32 × Int32 × Int64 × Int32) → Hp → Option (Int64 × Hp)} (hk5 : ∀ s h, T G M_m_part 1 cL 5 [(0, .ref s.1), (1, .int s.2.1), (2, .int s.2.2.1), (3, .long s.2.2.2.1), (5, .int s.2.2.2.2)] [] h (k5 s h)) (v0 : Nat) (v1 : Int32) (v2 : Int32) (v5 : Int32) (s0 : Int64) (s1 : Int64) (h : Hp) : T G M_m_part 1 cL 43 [(0, .ref v0), (1, .int v1), (2, .int v2), (5, .int v5)] [.long s0, .long s1] h (b_m_part_43 k5 v0 v1 v2 v5 s0 s1 h) := by
  unfold b_m_part_43
  refine q_lmul (pc := 43) (dq D_m_part_0_ok 23 rfl) ?_
  refine r_nmL (fun y1 => ?_)
  refine q_lstore_n (pc := 44) (ls' := [(3, .long y1), (0, .ref v0), (1, .int v1), (2, .int v2), (5, .int v5)]) (dq D_m_part_0_ok 24 rfl) rfl rfl rfl ?_
  refine q_iinc (pc := 45) (v := (1)) (ls' := [(5, .int (v5 + 1)), (3, .long y1), (0, .ref v0), (1, .int v1), (2, .int v2)]) (dq D_m_part_0_ok 25 rfl) 4 rfl (by decide) rfl rfl ?_
  refine q_goto (pc := 48) 5 (dq D_m_part_0_ok 26 rfl) rfl ?_
  exact T.lsub [2, 3, 4, 1, 0] rfl (hk5 (v0, v1, v2, y1, v5 + 1) h)
noncomputable def b_m_part_5 (k5 : (Nat × Int32 × Int32 × Int64 × Int32) → Hp → Option (Int64 × Hp)) (v0 : Nat) (v1 : Int32) (v2 : Int32) (v3 : Int64) (v5 : Int32) (h : Hp) : Option (Int64 × Hp) := if v1 ≤ v5 then (some (v3, h)) else (bd (f_m_bit v2 v5 h) fun r2 h1 => if r2 = 0 then (gd (hS h1 v0 = some (.inl 11)) (bR (hR h1 v0 3) fun x3 => gd (hS h1 x3 = some (.inl 12)) (lt (hI h1 x3 1) fun x4 => b_m_part_43 k5 v0 v1 v2 v5 ((100 - x4).toInt64) v3 h1))) else (gd (hS h1 v0 = some (.inl 11)) (bR (hR h1 v0 3) fun x5 => gd (hS h1 x5 = some (.inl 12)) (lt (hI h1 x5 1) fun x6 => b_m_part_43 k5 v0 v1 v2 v5 x6.toInt64 v3 h1))))
set_option maxHeartbeats 4000000 in
set_option maxRecDepth 20000 in
theorem tb_m_part_5 {G : GG} {k5 : (Nat × Int32 × Int32 × Int64 × Int32) → Hp → Option (Int64 × Hp)} (hk5 : ∀ s h, T G M_m_part 1 cL 5 [(0, .ref s.1), (1, .int s.2.1), (2, .int s.2.2.1), (3, .long s.2.2.2.1), (5, .int s.2.2.2.2)] [] h (k5 s h)) (v0 : Nat) (v1 : Int32) (v2 : Int32) (v3 : Int64) (v5 : Int32) (h : Hp) : T G M_m_part 1 cL 5 [(0, .ref v0), (1, .int v1), (2, .int v2), (3, .long v3), (5, .int v5)] [] h (b_m_part_5 k5 v0 v1 v2 v3 v5 h) := by
  unfold b_m_part_5
  refine q_iload (pc := 5) (dq D_m_part_0_ok 4 rfl) 4 rfl ?_
  refine q_iload_n (pc := 7) (dq D_m_part_0_ok 5 rfl) rfl 1 rfl ?_
  refine q_ic_ge (pc := 8) 51 (dq D_m_part_0_ok 6 rfl) rfl ?_ ?_
  · refine q_lload_n (pc := 51) (dq D_m_part_0_ok 27 rfl) rfl 3 rfl ?_
    exact r_retl (pc := 52) (dq D_m_part_0_ok 28 rfl) rfl
  · refine q_lload_n (pc := 11) (dq D_m_part_0_ok 7 rfl) rfl 3 rfl ?_
    refine q_iload_n (pc := 12) (dq D_m_part_0_ok 8 rfl) rfl 2 rfl ?_
    refine q_iload (pc := 13) (dq D_m_part_0_ok 9 rfl) 4 rfl ?_
    refine r_insI (Mc := M_m_bit) (pc := 15) (rest := [.long v3]) 0 2 [.int v2, .int v5] (dq D_m_part_0_ok 10 rfl) lc_m_bit ls_m_bit ml_m_292 rfl rfl rfl rfl (t_m_bit v2 v5 h) (fun r2 h1 => ?_)
    refine p_if_eq (pc := 18) 32 (dq D_m_part_0_ok 11 rfl) rfl ?_ ?_
    · refine q_bipush (pc := 32) (v := 100) (dq D_m_part_0_ok 17 rfl) (by decide) ?_
      refine q_aload_n (pc := 34) (dq D_m_part_0_ok 18 rfl) rfl 0 rfl ?_
      refine q_getR (pc := 35) (dq D_m_part_0_ok 19 rfl) fa_m_348 rfl (fun x3 => ?_)
      refine r_getI (pc := 38) (dq D_m_part_0_ok 20 rfl) fa_m_239 rfl (fun x4 => ?_)
      refine q_isub (pc := 41) (dq D_m_part_0_ok 21 rfl) ?_
      refine q_i2l (pc := 42) (dq D_m_part_0_ok 22 rfl) ?_
      exact T.lsub [0, 1, 2, 4] rfl (tb_m_part_43 hk5 v0 v1 v2 v5 ((100 - x4).toInt64) v3 h1)
    · refine q_aload_n (pc := 21) (dq D_m_part_0_ok 12 rfl) rfl 0 rfl ?_
      refine q_getR (pc := 22) (dq D_m_part_0_ok 13 rfl) fa_m_348 rfl (fun x5 => ?_)
      refine r_getI (pc := 25) (dq D_m_part_0_ok 14 rfl) fa_m_239 rfl (fun x6 => ?_)
      refine q_i2l (pc := 28) (dq D_m_part_0_ok 15 rfl) ?_
      refine q_goto (pc := 29) 43 (dq D_m_part_0_ok 16 rfl) rfl ?_
      exact T.lsub [0, 1, 2, 4] rfl (tb_m_part_43 hk5 v0 v1 v2 v5 x6.toInt64 v3 h1)
noncomputable def l_m_part_5 : Nat → (Nat × Int32 × Int32 × Int64 × Int32) → Hp → Option (Int64 × Hp) := lp (fun k5 s h => b_m_part_5 k5 s.1 s.2.1 s.2.2.1 s.2.2.2.1 s.2.2.2.2 h)
set_option maxHeartbeats 4000000 in
set_option maxRecDepth 20000 in
theorem tl_m_part_5 {G : GG} (n : Nat) (s : Nat × Int32 × Int32 × Int64 × Int32) (h : Hp) : T G M_m_part 1 cL 5 [(0, .ref s.1), (1, .int s.2.1), (2, .int s.2.2.1), (3, .long s.2.2.2.1), (5, .int s.2.2.2.2)] [] h (l_m_part_5 n s h) :=
  T.loop (lsOf := fun s => [(0, .ref s.1), (1, .int s.2.1), (2, .int s.2.2.1), (3, .long s.2.2.2.1), (5, .int s.2.2.2.2)]) (fun k5 hk5 s h => tb_m_part_5 hk5 s.1 s.2.1 s.2.2.1 s.2.2.2.1 s.2.2.2.2 h) n s h
noncomputable def f_m_part (v0 : Nat) (v1 : Int32) (v2 : Int32) (h : Hp) : Option (Int64 × Hp) := lt (1 : Int64) fun y1 => lt (0 : Int32) fun y2 => l_m_part_5 FU (v0, v1, v2, y1, y2) h
set_option maxHeartbeats 4000000 in
set_option maxRecDepth 20000 in
theorem t_m_part {G : GG} (v0 : Nat) (v1 : Int32) (v2 : Int32) (h : Hp) : Mt G M_m_part 1 [.ref v0, .int v1, .int v2] cL h (f_m_part v0 v1 v2 h) := by
  refine Mt.ofF (by decide +kernel) rfl (Rt.l rfl rfl) ?_
  show T G M_m_part 1 cL 0 [(0, .ref v0), (1, .int v1), (2, .int v2)] [] h _
  unfold f_m_part
  refine q_lconst (pc := 0) (v := 1) (dq D_m_part_0_ok 0 rfl) (by decide) ?_
  refine r_nmL (fun y1 => ?_)
  refine q_lstore_n (pc := 1) (ls' := [(3, .long y1), (0, .ref v0), (1, .int v1), (2, .int v2)]) (dq D_m_part_0_ok 1 rfl) rfl rfl rfl ?_
  refine q_ic0 (pc := 2) (dq D_m_part_0_ok 2 rfl) ?_
  refine r_nmI (fun y2 => ?_)
  refine q_istore (pc := 3) (ls' := [(5, .int y2), (3, .long y1), (0, .ref v0), (1, .int v1), (2, .int v2)]) (dq D_m_part_0_ok 3 rfl) rfl rfl ?_
  exact T.lsub [2, 3, 4, 1, 0] rfl (tl_m_part_5 FU (v0, v1, v2, y1, y2) h)
noncomputable def b_m_wholeOf_4 (k4 : (Int32 × Int64 × Int32) → Hp → Option (Int64 × Hp)) (v0 : Int32) (v1 : Int64) (v3 : Int32) (h : Hp) : Option (Int64 × Hp) := if v0 ≤ v3 then (some (v1, h)) else (lt (v1 * 100 : Int64) fun y1 => k4 (v0, y1, v3 + 1) h)
set_option maxHeartbeats 4000000 in
set_option maxRecDepth 20000 in
theorem tb_m_wholeOf_4 {G : GG} {k4 : (Int32 × Int64 × Int32) → Hp → Option (Int64 × Hp)} (hk4 : ∀ s h, T G M_m_wholeOf 0 cL 4 [(0, .int s.1), (1, .long s.2.1), (3, .int s.2.2)] [] h (k4 s h)) (v0 : Int32) (v1 : Int64) (v3 : Int32) (h : Hp) : T G M_m_wholeOf 0 cL 4 [(0, .int v0), (1, .long v1), (3, .int v3)] [] h (b_m_wholeOf_4 k4 v0 v1 v3 h) := by
  unfold b_m_wholeOf_4
  refine q_iload_n (pc := 4) (dq D_m_wholeOf_0_ok 4 rfl) rfl 2 rfl ?_
  refine q_iload_n (pc := 5) (dq D_m_wholeOf_0_ok 5 rfl) rfl 0 rfl ?_
  refine q_ic_ge (pc := 6) 21 (dq D_m_wholeOf_0_ok 6 rfl) rfl ?_ ?_
  · refine q_lload_n (pc := 21) (dq D_m_wholeOf_0_ok 13 rfl) rfl 1 rfl ?_
    exact r_retl (pc := 22) (dq D_m_wholeOf_0_ok 14 rfl) rfl
  · refine q_lload_n (pc := 9) (dq D_m_wholeOf_0_ok 7 rfl) rfl 1 rfl ?_
    refine q_ldc2 (pc := 10) (v := 100) (dq D_m_wholeOf_0_ok 8 rfl) lk_m_486 ?_
    refine q_lmul (pc := 13) (dq D_m_wholeOf_0_ok 9 rfl) ?_
    refine r_nmL (fun y1 => ?_)
    refine q_lstore_n (pc := 14) (ls' := [(1, .long y1), (0, .int v0), (3, .int v3)]) (dq D_m_wholeOf_0_ok 10 rfl) rfl rfl rfl ?_
    refine q_iinc (pc := 15) (v := (1)) (ls' := [(3, .int (v3 + 1)), (1, .long y1), (0, .int v0)]) (dq D_m_wholeOf_0_ok 11 rfl) 2 rfl (by decide) rfl rfl ?_
    refine q_goto (pc := 18) 4 (dq D_m_wholeOf_0_ok 12 rfl) rfl ?_
    exact T.lsub [2, 1, 0] rfl (hk4 (v0, y1, v3 + 1) h)
noncomputable def l_m_wholeOf_4 : Nat → (Int32 × Int64 × Int32) → Hp → Option (Int64 × Hp) := lp (fun k4 s h => b_m_wholeOf_4 k4 s.1 s.2.1 s.2.2 h)
set_option maxHeartbeats 4000000 in
set_option maxRecDepth 20000 in
theorem tl_m_wholeOf_4 {G : GG} (n : Nat) (s : Int32 × Int64 × Int32) (h : Hp) : T G M_m_wholeOf 0 cL 4 [(0, .int s.1), (1, .long s.2.1), (3, .int s.2.2)] [] h (l_m_wholeOf_4 n s h) :=
  T.loop (lsOf := fun s => [(0, .int s.1), (1, .long s.2.1), (3, .int s.2.2)]) (fun k4 hk4 s h => tb_m_wholeOf_4 hk4 s.1 s.2.1 s.2.2 h) n s h
noncomputable def f_m_wholeOf (v0 : Int32) (h : Hp) : Option (Int64 × Hp) := lt (1 : Int64) fun y1 => lt (0 : Int32) fun y2 => l_m_wholeOf_4 FU (v0, y1, y2) h
set_option maxHeartbeats 4000000 in
set_option maxRecDepth 20000 in
theorem t_m_wholeOf {G : GG} (v0 : Int32) (h : Hp) : Mt G M_m_wholeOf 0 [.int v0] cL h (f_m_wholeOf v0 h) := by
  refine Mt.ofF (by decide +kernel) rfl (Rt.l rfl rfl) ?_
  show T G M_m_wholeOf 0 cL 0 [(0, .int v0)] [] h _
  unfold f_m_wholeOf
  refine q_lconst (pc := 0) (v := 1) (dq D_m_wholeOf_0_ok 0 rfl) (by decide) ?_
  refine r_nmL (fun y1 => ?_)
  refine q_lstore_n (pc := 1) (ls' := [(1, .long y1), (0, .int v0)]) (dq D_m_wholeOf_0_ok 1 rfl) rfl rfl rfl ?_
  refine q_ic0 (pc := 2) (dq D_m_wholeOf_0_ok 2 rfl) ?_
  refine r_nmI (fun y2 => ?_)
  refine q_istore_n (pc := 3) (ls' := [(3, .int y2), (1, .long y1), (0, .int v0)]) (dq D_m_wholeOf_0_ok 3 rfl) rfl rfl rfl ?_
  exact T.lsub [2, 1, 0] rfl (tl_m_wholeOf_4 FU (v0, y1, y2) h)
noncomputable def b_m_likely_95 (k62 : (Nat × Int32 × Int32 × Int32 × Int32 × Int64 × Int32) → Hp → Option (Int64 × Hp)) (v0 : Nat) (v1 : Int32) (v2 : Int32) (v3 : Int32) (v4 : Int32) (v7 : Int32) (s0 : Int64) (s1 : Int64) (h : Hp) : Option (Int64 × Hp) := lt (s1 + s0 : Int64) fun y1 => k62 (v0, v1, v2, v3, v4, y1, v7 + 1) h
set_option maxHeartbeats 4000000 in
set_option maxRecDepth 20000 in
theorem tb_m_likely_95 {G : GG} {k62 : (Nat × Int32 × Int32 × Int32 × Int32 × Int64 × Int32) → Hp → Option (Int64 × Hp)} (hk62 : ∀ s h, T G M_m_likely 3 cL 62 [(0, .ref s.1), (1, .int s.2.1), (2, .int s.2.2.1), (3, .int s.2.2.2.1), (4, .int s.2.2.2.2.1), (5, .long s.2.2.2.2.2.1), (7, .int s.2.2.2.2.2.2)] [] h (k62 s h)) (v0 : Nat) (v1 : Int32) (v2 : Int32) (v3 : Int32) (v4 : Int32) (v7 : Int32) (s0 : Int64) (s1 : Int64) (h : Hp) : T G M_m_likely 3 cL 95 [(0, .ref v0), (1, .int v1), (2, .int v2), (3, .int v3), (4, .int v4), (7, .int v7)] [.long s0, .long s1] h (b_m_likely_95 k62 v0 v1 v2 v3 v4 v7 s0 s1 h) := by
  unfold b_m_likely_95
  refine q_ladd (pc := 95) (dq D_m_likely_0_ok 56 rfl) ?_
  refine r_nmL (fun y1 => ?_)
  refine q_lstore (pc := 96) (ls' := [(5, .long y1), (0, .ref v0), (1, .int v1), (2, .int v2), (3, .int v3), (4, .int v4), (7, .int v7)]) (dq D_m_likely_0_ok 57 rfl) rfl rfl ?_
  refine q_iinc (pc := 98) (v := (1)) (ls' := [(7, .int (v7 + 1)), (5, .long y1), (0, .ref v0), (1, .int v1), (2, .int v2), (3, .int v3), (4, .int v4)]) (dq D_m_likely_0_ok 58 rfl) 6 rfl (by decide) rfl rfl ?_
  refine q_goto (pc := 101) 62 (dq D_m_likely_0_ok 59 rfl) rfl ?_
  exact T.lsub [2, 3, 4, 5, 6, 1, 0] rfl (hk62 (v0, v1, v2, v3, v4, y1, v7 + 1) h)
noncomputable def b_m_likely_62 (k62 : (Nat × Int32 × Int32 × Int32 × Int32 × Int64 × Int32) → Hp → Option (Int64 × Hp)) (v0 : Nat) (v1 : Int32) (v2 : Int32) (v3 : Int32) (v4 : Int32) (v5 : Int64) (v7 : Int32) (h : Hp) : Option (Int64 × Hp) := if ((1 : Int32) <<< (v3 &&& 31)) ≤ v7 then (bd (f_m_wholeOf v3 h) fun r2 h1 => gd (hS h1 v0 = some (.inl 11)) (bd (f_m_fraction v0 v5 r2 v4 h1) fun r4 h3 => some (r4, h3))) else (gd (hS h v0 = some (.inl 11)) (bd (f_m_slipsBy v0 v1 v3 v7 h) fun r6 h5 => if r6 = v2 then (gd (hS h5 v0 = some (.inl 11)) (bd (f_m_part v0 v3 v7 h5) fun r8 h7 => b_m_likely_95 k62 v0 v1 v2 v3 v4 v7 r8 v5 h7)) else (b_m_likely_95 k62 v0 v1 v2 v3 v4 v7 0 v5 h5)))
set_option maxHeartbeats 4000000 in
set_option maxRecDepth 20000 in
theorem tb_m_likely_62 {G : GG} {k62 : (Nat × Int32 × Int32 × Int32 × Int32 × Int64 × Int32) → Hp → Option (Int64 × Hp)} (hk62 : ∀ s h, T G M_m_likely 3 cL 62 [(0, .ref s.1), (1, .int s.2.1), (2, .int s.2.2.1), (3, .int s.2.2.2.1), (4, .int s.2.2.2.2.1), (5, .long s.2.2.2.2.2.1), (7, .int s.2.2.2.2.2.2)] [] h (k62 s h)) (v0 : Nat) (v1 : Int32) (v2 : Int32) (v3 : Int32) (v4 : Int32) (v5 : Int64) (v7 : Int32) (h : Hp) : T G M_m_likely 3 cL 62 [(0, .ref v0), (1, .int v1), (2, .int v2), (3, .int v3), (4, .int v4), (5, .long v5), (7, .int v7)] [] h (b_m_likely_62 k62 v0 v1 v2 v3 v4 v5 v7 h) := by
  unfold b_m_likely_62
  refine q_iload (pc := 62) (dq D_m_likely_0_ok 37 rfl) 6 rfl ?_
  refine q_ic1 (pc := 64) (dq D_m_likely_0_ok 38 rfl) ?_
  refine q_iload_n (pc := 65) (dq D_m_likely_0_ok 39 rfl) rfl 3 rfl ?_
  refine q_ishl (pc := 66) (dq D_m_likely_0_ok 40 rfl) ?_
  refine q_ic_ge (pc := 67) 104 (dq D_m_likely_0_ok 41 rfl) rfl ?_ ?_
  · refine q_aload_n (pc := 104) (dq D_m_likely_1_ok 0 rfl) rfl 0 rfl ?_
    refine q_lload (pc := 105) (dq D_m_likely_1_ok 1 rfl) 5 rfl ?_
    refine q_iload_n (pc := 107) (dq D_m_likely_1_ok 2 rfl) rfl 3 rfl ?_
    refine r_insL (Mc := M_m_wholeOf) (pc := 108) (rest := [.long v5, .ref v0]) 0 1 [.int v3] (dq D_m_likely_1_ok 3 rfl) lc_m_wholeOf ls_m_wholeOf ml_m_495 rfl rfl rfl rfl (t_m_wholeOf v3 h) (fun r2 h1 => ?_)
    refine q_iload (pc := 111) (dq D_m_likely_1_ok 4 rfl) 4 rfl ?_
    refine r_invL (Mc := M_m_fraction) (pc := 113) (ci := 11) (rest := []) 1 3 [.long v5, .long r2, .int v4] (dq D_m_likely_1_ok 5 rfl) rfl rfl lc_m_fraction lv_m_fraction_ ml_m_499 rfl rfl rfl rfl (t_m_fraction v0 v5 r2 v4 h1) (fun r4 h3 => ?_)
    exact r_retl (pc := 116) (dq D_m_likely_1_ok 6 rfl) rfl
  · refine q_lload (pc := 70) (dq D_m_likely_0_ok 42 rfl) 5 rfl ?_
    refine q_aload_n (pc := 72) (dq D_m_likely_0_ok 43 rfl) rfl 0 rfl ?_
    refine q_iload_n (pc := 73) (dq D_m_likely_0_ok 44 rfl) rfl 1 rfl ?_
    refine q_iload_n (pc := 74) (dq D_m_likely_0_ok 45 rfl) rfl 3 rfl ?_
    refine q_iload (pc := 75) (dq D_m_likely_0_ok 46 rfl) 6 rfl ?_
    refine r_invI (Mc := M_m_slipsBy) (pc := 77) (ci := 11) (rest := [.long v5]) 2 3 [.int v1, .int v3, .int v7] (dq D_m_likely_0_ok 47 rfl) rfl rfl lc_m_slipsBy lv_m_slipsBy_ ml_m_488 rfl rfl rfl rfl (t_m_slipsBy v0 v1 v3 v7 h) (fun r6 h5 => ?_)
    refine q_iload_n (pc := 80) (dq D_m_likely_0_ok 48 rfl) rfl 2 rfl ?_
    refine q_ic_ne (pc := 81) 94 (dq D_m_likely_0_ok 49 rfl) rfl ?_ ?_
    · refine q_lconst (pc := 94) (v := 0) (dq D_m_likely_0_ok 55 rfl) (by decide) ?_
      exact T.lsub [0, 1, 2, 3, 4, 6] rfl (tb_m_likely_95 hk62 v0 v1 v2 v3 v4 v7 0 v5 h5)
    · refine q_aload_n (pc := 84) (dq D_m_likely_0_ok 50 rfl) rfl 0 rfl ?_
      refine q_iload_n (pc := 85) (dq D_m_likely_0_ok 51 rfl) rfl 3 rfl ?_
      refine q_iload (pc := 86) (dq D_m_likely_0_ok 52 rfl) 6 rfl ?_
      refine r_invL (Mc := M_m_part) (pc := 88) (ci := 11) (rest := [.long v5]) 1 2 [.int v3, .int v7] (dq D_m_likely_0_ok 53 rfl) rfl rfl lc_m_part lv_m_part_ ml_m_491 rfl rfl rfl rfl (t_m_part v0 v3 v7 h5) (fun r8 h7 => ?_)
      refine q_goto (pc := 91) 95 (dq D_m_likely_0_ok 54 rfl) rfl ?_
      exact T.lsub [0, 1, 2, 3, 4, 6] rfl (tb_m_likely_95 hk62 v0 v1 v2 v3 v4 v7 r8 v5 h7)
noncomputable def l_m_likely_62 : Nat → (Nat × Int32 × Int32 × Int32 × Int32 × Int64 × Int32) → Hp → Option (Int64 × Hp) := lp (fun k62 s h => b_m_likely_62 k62 s.1 s.2.1 s.2.2.1 s.2.2.2.1 s.2.2.2.2.1 s.2.2.2.2.2.1 s.2.2.2.2.2.2 h)
set_option maxHeartbeats 4000000 in
set_option maxRecDepth 20000 in
theorem tl_m_likely_62 {G : GG} (n : Nat) (s : Nat × Int32 × Int32 × Int32 × Int32 × Int64 × Int32) (h : Hp) : T G M_m_likely 3 cL 62 [(0, .ref s.1), (1, .int s.2.1), (2, .int s.2.2.1), (3, .int s.2.2.2.1), (4, .int s.2.2.2.2.1), (5, .long s.2.2.2.2.2.1), (7, .int s.2.2.2.2.2.2)] [] h (l_m_likely_62 n s h) :=
  T.loop (lsOf := fun s => [(0, .ref s.1), (1, .int s.2.1), (2, .int s.2.2.1), (3, .int s.2.2.2.1), (4, .int s.2.2.2.2.1), (5, .long s.2.2.2.2.2.1), (7, .int s.2.2.2.2.2.2)]) (fun k62 hk62 s h => tb_m_likely_62 hk62 s.1 s.2.1 s.2.2.1 s.2.2.2.1 s.2.2.2.2.1 s.2.2.2.2.2.1 s.2.2.2.2.2.2 h) n s h
noncomputable def b_m_likely_49 (v0 : Nat) (h : Hp) : Option (Int64 × Hp) := gd (hS h v0 = some (.inl 11)) (bd (f_m_refused v0 (2 : Int32) h) fun r2 h1 => some (r2.toInt64, h1))
set_option maxHeartbeats 4000000 in
set_option maxRecDepth 20000 in
theorem tb_m_likely_49 {G : GG} (v0 : Nat) (h : Hp) : T G M_m_likely 3 cL 49 [(0, .ref v0)] [] h (b_m_likely_49 v0 h) := by
  unfold b_m_likely_49
  refine q_aload_n (pc := 49) (dq D_m_likely_0_ok 28 rfl) rfl 0 rfl ?_
  refine q_ic2 (pc := 50) (dq D_m_likely_0_ok 29 rfl) ?_
  refine r_invI (Mc := M_m_refused) (pc := 51) (ci := 11) (rest := []) 0 1 [.int 2] (dq D_m_likely_0_ok 30 rfl) rfl rfl lc_m_refused lv_m_refused_ ml_m_60 rfl rfl rfl rfl (t_m_refused v0 (2 : Int32) h) (fun r2 h1 => ?_)
  refine q_i2l (pc := 54) (dq D_m_likely_0_ok 31 rfl) ?_
  exact r_retl (pc := 55) (dq D_m_likely_0_ok 32 rfl) rfl
noncomputable def f_m_likely (v0 : Nat) (v1 : Int32) (v2 : Int32) (v3 : Int32) (v4 : Int32) (h : Hp) : Option (Int64 × Hp) := gd (hS h v0 = some (.inl 11)) (lt (uI h v0 0 0) fun h1 => gd (hS h1 v0 = some (.inl 11)) (bd (f_m_isWheel v0 v1 h1) fun r3 h2 => if r3 = 0 then (gd (hS h2 v0 = some (.inl 11)) (bd (f_m_refused v0 (1 : Int32) h2) fun r14 h13 => some (r14.toInt64, h13))) else (gd (hS h2 v0 = some (.inl 11)) (bR (hR h2 v0 3) fun x4 => gd (hS h2 x4 = some (.inl 12)) (bR (hR h2 x4 11) fun x5 => gd (ai h2 x5 0 v1) (lt (hI h2 x5 v1.toNatClampNeg) fun x6 => bd (f_m_in v2 (0 : Int32) (x6 - 1) h2) fun r8 h7 => if r8 = 0 then (b_m_likely_49 v0 h7) else (bd (f_m_in v3 (0 : Int32) (6 : Int32) h7) fun r10 h9 => if r10 = 0 then (b_m_likely_49 v0 h9) else (lt (0 : Int64) fun y11 => lt (0 : Int32) fun y12 => l_m_likely_62 FU (v0, v1, v2, v3, v4, y11, y12) h9))))))))
set_option maxHeartbeats 4000000 in
set_option maxRecDepth 20000 in
theorem t_m_likely {G : GG} (v0 : Nat) (v1 : Int32) (v2 : Int32) (v3 : Int32) (v4 : Int32) (h : Hp) : Mt G M_m_likely 3 [.ref v0, .int v1, .int v2, .int v3, .int v4] cL h (f_m_likely v0 v1 v2 v3 v4 h) := by
  refine Mt.ofF (by decide +kernel) rfl (Rt.l rfl rfl) ?_
  show T G M_m_likely 3 cL 0 [(0, .ref v0), (1, .int v1), (2, .int v2), (3, .int v3), (4, .int v4)] [] h _
  unfold f_m_likely
  refine q_aload_n (pc := 0) (dq D_m_likely_0_ok 0 rfl) rfl 0 rfl ?_
  refine q_ic0 (pc := 1) (dq D_m_likely_0_ok 1 rfl) ?_
  refine r_putI (pc := 2) (dq D_m_likely_0_ok 2 rfl) fp_m_54 rfl rfl (fun h1 => ?_)
  refine q_aload_n (pc := 5) (dq D_m_likely_0_ok 3 rfl) rfl 0 rfl ?_
  refine q_iload_n (pc := 6) (dq D_m_likely_0_ok 4 rfl) rfl 1 rfl ?_
  refine r_invI (Mc := M_m_isWheel) (pc := 7) (ci := 11) (rest := []) 0 1 [.int v1] (dq D_m_likely_0_ok 5 rfl) rfl rfl lc_m_isWheel lv_m_isWheel_ ml_m_357 rfl rfl rfl rfl (t_m_isWheel v0 v1 h1) (fun r3 h2 => ?_)
  refine p_if_ne (pc := 10) 20 (dq D_m_likely_0_ok 6 rfl) rfl ?_ ?_
  · refine q_iload_n (pc := 20) (dq D_m_likely_0_ok 12 rfl) rfl 2 rfl ?_
    refine q_ic0 (pc := 21) (dq D_m_likely_0_ok 13 rfl) ?_
    refine q_aload_n (pc := 22) (dq D_m_likely_0_ok 14 rfl) rfl 0 rfl ?_
    refine q_getR (pc := 23) (dq D_m_likely_0_ok 15 rfl) fa_m_348 rfl (fun x4 => ?_)
    refine q_getR (pc := 26) (dq D_m_likely_0_ok 16 rfl) fa_m_269 rfl (fun x5 => ?_)
    refine q_iload_n (pc := 29) (dq D_m_likely_0_ok 17 rfl) rfl 1 rfl ?_
    refine r_iald (pc := 30) (dq D_m_likely_0_ok 18 rfl) (fun x6 => ?_)
    refine q_ic1 (pc := 31) (dq D_m_likely_0_ok 19 rfl) ?_
    refine q_isub (pc := 32) (dq D_m_likely_0_ok 20 rfl) ?_
    refine r_insI (Mc := M_m_in) (pc := 33) (rest := []) 0 3 [.int v2, .int 0, .int (x6 - 1)] (dq D_m_likely_0_ok 21 rfl) lc_m_in ls_m_in ml_m_133 rfl rfl rfl rfl (t_m_in v2 (0 : Int32) (x6 - 1) h2) (fun r8 h7 => ?_)
    refine p_if_eq (pc := 36) 49 (dq D_m_likely_0_ok 22 rfl) rfl ?_ ?_
    · exact T.lsub [0] rfl (tb_m_likely_49 v0 h7)
    · refine q_iload_n (pc := 39) (dq D_m_likely_0_ok 23 rfl) rfl 3 rfl ?_
      refine q_ic0 (pc := 40) (dq D_m_likely_0_ok 24 rfl) ?_
      refine q_bipush (pc := 41) (v := 6) (dq D_m_likely_0_ok 25 rfl) (by decide) ?_
      refine r_insI (Mc := M_m_in) (pc := 43) (rest := []) 0 3 [.int v3, .int 0, .int 6] (dq D_m_likely_0_ok 26 rfl) lc_m_in ls_m_in ml_m_133 rfl rfl rfl rfl (t_m_in v3 (0 : Int32) (6 : Int32) h7) (fun r10 h9 => ?_)
      refine p_if_ne (pc := 46) 56 (dq D_m_likely_0_ok 27 rfl) rfl ?_ ?_
      · refine q_lconst (pc := 56) (v := 0) (dq D_m_likely_0_ok 33 rfl) (by decide) ?_
        refine r_nmL (fun y11 => ?_)
        refine q_lstore (pc := 57) (ls' := [(5, .long y11), (0, .ref v0), (1, .int v1), (2, .int v2), (3, .int v3), (4, .int v4)]) (dq D_m_likely_0_ok 34 rfl) rfl rfl ?_
        refine q_ic0 (pc := 59) (dq D_m_likely_0_ok 35 rfl) ?_
        refine r_nmI (fun y12 => ?_)
        refine q_istore (pc := 60) (ls' := [(7, .int y12), (5, .long y11), (0, .ref v0), (1, .int v1), (2, .int v2), (3, .int v3), (4, .int v4)]) (dq D_m_likely_0_ok 36 rfl) rfl rfl ?_
        exact T.lsub [2, 3, 4, 5, 6, 1, 0] rfl (tl_m_likely_62 FU (v0, v1, v2, v3, v4, y11, y12) h9)
      · exact T.lsub [0] rfl (tb_m_likely_49 v0 h9)
  · refine q_aload_n (pc := 13) (dq D_m_likely_0_ok 7 rfl) rfl 0 rfl ?_
    refine q_ic1 (pc := 14) (dq D_m_likely_0_ok 8 rfl) ?_
    refine r_invI (Mc := M_m_refused) (pc := 15) (ci := 11) (rest := []) 0 1 [.int 1] (dq D_m_likely_0_ok 9 rfl) rfl rfl lc_m_refused lv_m_refused_ ml_m_60 rfl rfl rfl rfl (t_m_refused v0 (1 : Int32) h2) (fun r14 h13 => ?_)
    refine q_i2l (pc := 18) (dq D_m_likely_0_ok 10 rfl) ?_
    exact r_retl (pc := 19) (dq D_m_likely_0_ok 11 rfl) rfl
noncomputable def b_m_jerkMean_39 (k39 : (Nat × Int32 × Int32 × Int32 × Int64 × Int32) → Hp → Option (Int64 × Hp)) (v0 : Nat) (v1 : Int32) (v2 : Int32) (v3 : Int32) (v5 : Int64) (v7 : Int32) (h : Hp) : Option (Int64 × Hp) := if ((1 : Int32) <<< (v2 &&& 31)) ≤ v7 then (bd (f_m_wholeOf v2 h) fun r2 h1 => gd (hS h1 v0 = some (.inl 11)) (bd (f_m_fraction v0 v5 r2 v3 h1) fun r4 h3 => some (r4, h3))) else (gd (hS h v0 = some (.inl 11)) (bd (f_m_slipsBy v0 v1 v2 v7 h) fun r6 h5 => gd (hS h5 v0 = some (.inl 11)) (bd (f_m_part v0 v2 v7 h5) fun r8 h7 => gd (hS h7 v0 = some (.inl 11)) (lt (hI h7 v0 34) fun x9 => lt (v5 + (r8 * x9.toInt64) : Int64) fun y10 => k39 (v0, v1, v2, v3, y10, v7 + 1) h7))))
set_option maxHeartbeats 4000000 in
set_option maxRecDepth 20000 in
theorem tb_m_jerkMean_39 {G : GG} {k39 : (Nat × Int32 × Int32 × Int32 × Int64 × Int32) → Hp → Option (Int64 × Hp)} (hk39 : ∀ s h, T G M_m_jerkMean 3 cL 39 [(0, .ref s.1), (1, .int s.2.1), (2, .int s.2.2.1), (3, .int s.2.2.2.1), (5, .long s.2.2.2.2.1), (7, .int s.2.2.2.2.2)] [] h (k39 s h)) (v0 : Nat) (v1 : Int32) (v2 : Int32) (v3 : Int32) (v5 : Int64) (v7 : Int32) (h : Hp) : T G M_m_jerkMean 3 cL 39 [(0, .ref v0), (1, .int v1), (2, .int v2), (3, .int v3), (5, .long v5), (7, .int v7)] [] h (b_m_jerkMean_39 k39 v0 v1 v2 v3 v5 v7 h) := by
  unfold b_m_jerkMean_39
  refine q_iload (pc := 39) (dq D_m_jerkMean_0_ok 23 rfl) 5 rfl ?_
  refine q_ic1 (pc := 41) (dq D_m_jerkMean_0_ok 24 rfl) ?_
  refine q_iload_n (pc := 42) (dq D_m_jerkMean_0_ok 25 rfl) rfl 2 rfl ?_
  refine q_ishl (pc := 43) (dq D_m_jerkMean_0_ok 26 rfl) ?_
  refine q_ic_ge (pc := 44) 80 (dq D_m_jerkMean_0_ok 27 rfl) rfl ?_ ?_
  · refine q_aload_n (pc := 80) (dq D_m_jerkMean_0_ok 47 rfl) rfl 0 rfl ?_
    refine q_lload (pc := 81) (dq D_m_jerkMean_0_ok 48 rfl) 4 rfl ?_
    refine q_iload_n (pc := 83) (dq D_m_jerkMean_0_ok 49 rfl) rfl 2 rfl ?_
    refine r_insL (Mc := M_m_wholeOf) (pc := 84) (rest := [.long v5, .ref v0]) 0 1 [.int v2] (dq D_m_jerkMean_0_ok 50 rfl) lc_m_wholeOf ls_m_wholeOf ml_m_495 rfl rfl rfl rfl (t_m_wholeOf v2 h) (fun r2 h1 => ?_)
    refine q_iload_n (pc := 87) (dq D_m_jerkMean_0_ok 51 rfl) rfl 3 rfl ?_
    refine r_invL (Mc := M_m_fraction) (pc := 88) (ci := 11) (rest := []) 1 3 [.long v5, .long r2, .int v3] (dq D_m_jerkMean_0_ok 52 rfl) rfl rfl lc_m_fraction lv_m_fraction_ ml_m_499 rfl rfl rfl rfl (t_m_fraction v0 v5 r2 v3 h1) (fun r4 h3 => ?_)
    exact r_retl (pc := 91) (dq D_m_jerkMean_0_ok 53 rfl) rfl
  · refine q_aload_n (pc := 47) (dq D_m_jerkMean_0_ok 28 rfl) rfl 0 rfl ?_
    refine q_iload_n (pc := 48) (dq D_m_jerkMean_0_ok 29 rfl) rfl 1 rfl ?_
    refine q_iload_n (pc := 49) (dq D_m_jerkMean_0_ok 30 rfl) rfl 2 rfl ?_
    refine q_iload (pc := 50) (dq D_m_jerkMean_0_ok 31 rfl) 5 rfl ?_
    refine r_invI (Mc := M_m_slipsBy) (pc := 52) (ci := 11) (rest := []) 2 3 [.int v1, .int v2, .int v7] (dq D_m_jerkMean_0_ok 32 rfl) rfl rfl lc_m_slipsBy lv_m_slipsBy_ ml_m_488 rfl rfl rfl rfl (t_m_slipsBy v0 v1 v2 v7 h) (fun r6 h5 => ?_)
    refine q_pop (pc := 55) (dq D_m_jerkMean_0_ok 33 rfl) rfl ?_
    refine q_lload (pc := 56) (dq D_m_jerkMean_0_ok 34 rfl) 4 rfl ?_
    refine q_aload_n (pc := 58) (dq D_m_jerkMean_0_ok 35 rfl) rfl 0 rfl ?_
    refine q_iload_n (pc := 59) (dq D_m_jerkMean_0_ok 36 rfl) rfl 2 rfl ?_
    refine q_iload (pc := 60) (dq D_m_jerkMean_0_ok 37 rfl) 5 rfl ?_
    refine r_invL (Mc := M_m_part) (pc := 62) (ci := 11) (rest := [.long v5]) 1 2 [.int v2, .int v7] (dq D_m_jerkMean_0_ok 38 rfl) rfl rfl lc_m_part lv_m_part_ ml_m_491 rfl rfl rfl rfl (t_m_part v0 v2 v7 h5) (fun r8 h7 => ?_)
    refine q_aload_n (pc := 65) (dq D_m_jerkMean_0_ok 39 rfl) rfl 0 rfl ?_
    refine r_getI (pc := 66) (dq D_m_jerkMean_0_ok 40 rfl) fa_m_480 rfl (fun x9 => ?_)
    refine q_i2l (pc := 69) (dq D_m_jerkMean_0_ok 41 rfl) ?_
    refine q_lmul (pc := 70) (dq D_m_jerkMean_0_ok 42 rfl) ?_
    refine q_ladd (pc := 71) (dq D_m_jerkMean_0_ok 43 rfl) ?_
    refine r_nmL (fun y10 => ?_)
    refine q_lstore (pc := 72) (ls' := [(5, .long y10), (0, .ref v0), (1, .int v1), (2, .int v2), (3, .int v3), (7, .int v7)]) (dq D_m_jerkMean_0_ok 44 rfl) rfl rfl ?_
    refine q_iinc (pc := 74) (v := (1)) (ls' := [(7, .int (v7 + 1)), (5, .long y10), (0, .ref v0), (1, .int v1), (2, .int v2), (3, .int v3)]) (dq D_m_jerkMean_0_ok 45 rfl) 5 rfl (by decide) rfl rfl ?_
    refine q_goto (pc := 77) 39 (dq D_m_jerkMean_0_ok 46 rfl) rfl ?_
    exact T.lsub [2, 3, 4, 5, 1, 0] rfl (hk39 (v0, v1, v2, v3, y10, v7 + 1) h7)
noncomputable def l_m_jerkMean_39 : Nat → (Nat × Int32 × Int32 × Int32 × Int64 × Int32) → Hp → Option (Int64 × Hp) := lp (fun k39 s h => b_m_jerkMean_39 k39 s.1 s.2.1 s.2.2.1 s.2.2.2.1 s.2.2.2.2.1 s.2.2.2.2.2 h)
set_option maxHeartbeats 4000000 in
set_option maxRecDepth 20000 in
theorem tl_m_jerkMean_39 {G : GG} (n : Nat) (s : Nat × Int32 × Int32 × Int32 × Int64 × Int32) (h : Hp) : T G M_m_jerkMean 3 cL 39 [(0, .ref s.1), (1, .int s.2.1), (2, .int s.2.2.1), (3, .int s.2.2.2.1), (5, .long s.2.2.2.2.1), (7, .int s.2.2.2.2.2)] [] h (l_m_jerkMean_39 n s h) :=
  T.loop (lsOf := fun s => [(0, .ref s.1), (1, .int s.2.1), (2, .int s.2.2.1), (3, .int s.2.2.2.1), (5, .long s.2.2.2.2.1), (7, .int s.2.2.2.2.2)]) (fun k39 hk39 s h => tb_m_jerkMean_39 hk39 s.1 s.2.1 s.2.2.1 s.2.2.2.1 s.2.2.2.2.1 s.2.2.2.2.2 h) n s h
noncomputable def f_m_jerkMean (v0 : Nat) (v1 : Int32) (v2 : Int32) (v3 : Int32) (h : Hp) : Option (Int64 × Hp) := gd (hS h v0 = some (.inl 11)) (lt (uI h v0 0 0) fun h1 => gd (hS h1 v0 = some (.inl 11)) (bd (f_m_isWheel v0 v1 h1) fun r3 h2 => gd (hS h2 v0 = some (.inl 11)) (bd (f_m_refusesDays v0 r3 v2 (0 : Int32) (6 : Int32) h2) fun r5 h4 => if r5 ≤ 0 then (lt (0 : Int64) fun y6 => lt (0 : Int32) fun y7 => l_m_jerkMean_39 FU (v0, v1, v2, v3, y6, y7) h4) else (gd (hS h4 v0 = some (.inl 11)) (bd (f_m_refused v0 r5 h4) fun r9 h8 => some (r9.toInt64, h8))))))
set_option maxHeartbeats 4000000 in
set_option maxRecDepth 20000 in
theorem t_m_jerkMean {G : GG} (v0 : Nat) (v1 : Int32) (v2 : Int32) (v3 : Int32) (h : Hp) : Mt G M_m_jerkMean 3 [.ref v0, .int v1, .int v2, .int v3] cL h (f_m_jerkMean v0 v1 v2 v3 h) := by
  refine Mt.ofF (by decide +kernel) rfl (Rt.l rfl rfl) ?_
  show T G M_m_jerkMean 3 cL 0 [(0, .ref v0), (1, .int v1), (2, .int v2), (3, .int v3)] [] h _
  unfold f_m_jerkMean
  refine q_aload_n (pc := 0) (dq D_m_jerkMean_0_ok 0 rfl) rfl 0 rfl ?_
  refine q_ic0 (pc := 1) (dq D_m_jerkMean_0_ok 1 rfl) ?_
  refine r_putI (pc := 2) (dq D_m_jerkMean_0_ok 2 rfl) fp_m_54 rfl rfl (fun h1 => ?_)
  refine q_aload_n (pc := 5) (dq D_m_jerkMean_0_ok 3 rfl) rfl 0 rfl ?_
  refine q_aload_n (pc := 6) (dq D_m_jerkMean_0_ok 4 rfl) rfl 0 rfl ?_
  refine q_iload_n (pc := 7) (dq D_m_jerkMean_0_ok 5 rfl) rfl 1 rfl ?_
  refine r_invI (Mc := M_m_isWheel) (pc := 8) (ci := 11) (rest := [.ref v0]) 0 1 [.int v1] (dq D_m_jerkMean_0_ok 6 rfl) rfl rfl lc_m_isWheel lv_m_isWheel_ ml_m_357 rfl rfl rfl rfl (t_m_isWheel v0 v1 h1) (fun r3 h2 => ?_)
  refine q_iload_n (pc := 11) (dq D_m_jerkMean_0_ok 7 rfl) rfl 2 rfl ?_
  refine q_ic0 (pc := 12) (dq D_m_jerkMean_0_ok 8 rfl) ?_
  refine q_bipush (pc := 13) (v := 6) (dq D_m_jerkMean_0_ok 9 rfl) (by decide) ?_
  refine r_invI (Mc := M_m_refusesDays) (pc := 15) (ci := 11) (rest := []) 1 4 [.int r3, .int v2, .int 0, .int 6] (dq D_m_jerkMean_0_ok 10 rfl) rfl rfl lc_m_refusesDays lv_m_refusesDays_ ml_m_392 rfl rfl rfl rfl (t_m_refusesDays v0 r3 v2 (0 : Int32) (6 : Int32) h2) (fun r5 h4 => ?_)
  refine q_istore (pc := 18) (ls' := [(4, .int r5), (0, .ref v0), (1, .int v1), (2, .int v2), (3, .int v3)]) (dq D_m_jerkMean_0_ok 11 rfl) rfl rfl ?_
  refine q_iload (pc := 20) (dq D_m_jerkMean_0_ok 12 rfl) 0 rfl ?_
  refine p_if_le (pc := 22) 33 (dq D_m_jerkMean_0_ok 13 rfl) rfl ?_ ?_
  · refine q_lconst (pc := 33) (v := 0) (dq D_m_jerkMean_0_ok 19 rfl) (by decide) ?_
    refine r_nmL (fun y6 => ?_)
    refine q_lstore (pc := 34) (ls' := [(5, .long y6), (4, .int r5), (0, .ref v0), (1, .int v1), (2, .int v2), (3, .int v3)]) (dq D_m_jerkMean_0_ok 20 rfl) rfl rfl ?_
    refine q_ic0 (pc := 36) (dq D_m_jerkMean_0_ok 21 rfl) ?_
    refine r_nmI (fun y7 => ?_)
    refine q_istore (pc := 37) (ls' := [(7, .int y7), (5, .long y6), (4, .int r5), (0, .ref v0), (1, .int v1), (2, .int v2), (3, .int v3)]) (dq D_m_jerkMean_0_ok 22 rfl) rfl rfl ?_
    exact T.lsub [3, 4, 5, 6, 1, 0] rfl (tl_m_jerkMean_39 FU (v0, v1, v2, v3, y6, y7) h4)
  · refine q_aload_n (pc := 25) (dq D_m_jerkMean_0_ok 14 rfl) rfl 1 rfl ?_
    refine q_iload (pc := 26) (dq D_m_jerkMean_0_ok 15 rfl) 0 rfl ?_
    refine r_invI (Mc := M_m_refused) (pc := 28) (ci := 11) (rest := []) 0 1 [.int r5] (dq D_m_jerkMean_0_ok 16 rfl) rfl rfl lc_m_refused lv_m_refused_ ml_m_60 rfl rfl rfl rfl (t_m_refused v0 r5 h4) (fun r9 h8 => ?_)
    refine q_i2l (pc := 31) (dq D_m_jerkMean_0_ok 17 rfl) ?_
    exact r_retl (pc := 32) (dq D_m_jerkMean_0_ok 18 rfl) rfl
noncomputable def b_m_yearsAll_122 (k18 : (Nat × Int32 × Int32 × Int32 × Int32 × Int32) → Hp → Option (Int32 × Hp)) (v0 : Nat) (v2 : Int32) (v3 : Int32) (v4 : Int32) (v6 : Int32) (s0 : Int32) (s1 : Int32) (h : Hp) : Option (Int32 × Hp) := lt (s1 + s0 : Int32) fun y1 => k18 (v0, v2, v3, v4, y1, v6 + 1) h
set_option maxHeartbeats 4000000 in
set_option maxRecDepth 20000 in
theorem tb_m_yearsAll_122 {G : GG} {k18 : (Nat × Int32 × Int32 × Int32 × Int32 × Int32) → Hp → Option (Int32 × Hp)} (hk18 : ∀ s h, T G M_m_yearsAll 3 cI 18 [(0, .ref s.1), (2, .int s.2.1), (3, .int s.2.2.1), (4, .int s.2.2.2.1), (5, .int s.2.2.2.2.1), (6, .int s.2.2.2.2.2)] [] h (k18 s h)) (v0 : Nat) (v2 : Int32) (v3 : Int32) (v4 : Int32) (v6 : Int32) (s0 : Int32) (s1 : Int32) (h : Hp) : T G M_m_yearsAll 3 cI 122 [(0, .ref v0), (2, .int v2), (3, .int v3), (4, .int v4), (6, .int v6)] [.int s0, .int s1] h (b_m_yearsAll_122 k18 v0 v2 v3 v4 v6 s0 s1 h) := by
  unfold b_m_yearsAll_122
  refine q_iadd (pc := 122) (dq D_m_yearsAll_1_ok 4 rfl) ?_
  refine r_nmI (fun y1 => ?_)
  refine q_istore (pc := 123) (ls' := [(5, .int y1), (0, .ref v0), (2, .int v2), (3, .int v3), (4, .int v4), (6, .int v6)]) (dq D_m_yearsAll_1_ok 5 rfl) rfl rfl ?_
  refine q_iinc (pc := 125) (v := (1)) (ls' := [(6, .int (v6 + 1)), (5, .int y1), (0, .ref v0), (2, .int v2), (3, .int v3), (4, .int v4)]) (dq D_m_yearsAll_1_ok 6 rfl) 5 rfl (by decide) rfl rfl ?_
  refine q_goto (pc := 128) 18 (dq D_m_yearsAll_1_ok 7 rfl) rfl ?_
  exact T.lsub [2, 3, 4, 5, 1, 0] rfl (hk18 (v0, v2, v3, v4, y1, v6 + 1) h)
noncomputable def b_m_yearsAll_121 (k18 : (Nat × Int32 × Int32 × Int32 × Int32 × Int32) → Hp → Option (Int32 × Hp)) (v0 : Nat) (v2 : Int32) (v3 : Int32) (v4 : Int32) (v6 : Int32) (s0 : Int32) (h : Hp) : Option (Int32 × Hp) := b_m_yearsAll_122 k18 v0 v2 v3 v4 v6 0 s0 h
set_option maxHeartbeats 4000000 in
set_option maxRecDepth 20000 in
theorem tb_m_yearsAll_121 {G : GG} {k18 : (Nat × Int32 × Int32 × Int32 × Int32 × Int32) → Hp → Option (Int32 × Hp)} (hk18 : ∀ s h, T G M_m_yearsAll 3 cI 18 [(0, .ref s.1), (2, .int s.2.1), (3, .int s.2.2.1), (4, .int s.2.2.2.1), (5, .int s.2.2.2.2.1), (6, .int s.2.2.2.2.2)] [] h (k18 s h)) (v0 : Nat) (v2 : Int32) (v3 : Int32) (v4 : Int32) (v6 : Int32) (s0 : Int32) (h : Hp) : T G M_m_yearsAll 3 cI 121 [(0, .ref v0), (2, .int v2), (3, .int v3), (4, .int v4), (6, .int v6)] [.int s0] h (b_m_yearsAll_121 k18 v0 v2 v3 v4 v6 s0 h) := by
  unfold b_m_yearsAll_121
  refine q_ic0 (pc := 121) (dq D_m_yearsAll_1_ok 3 rfl) ?_
  exact T.lsub [0, 1, 2, 3, 4] rfl (tb_m_yearsAll_122 hk18 v0 v2 v3 v4 v6 0 s0 h)
noncomputable def b_m_yearsAll_96 (k18 : (Nat × Int32 × Int32 × Int32 × Int32 × Int32) → Hp → Option (Int32 × Hp)) (k32 : (Nat × Int32 × Int32 × Int32 × Int32 × Int32 × Int32) → Hp → Option (Int32 × Hp)) (v0 : Nat) (v2 : Int32) (v3 : Int32) (v4 : Int32) (v5 : Int32) (v6 : Int32) (v7 : Int32) (h : Hp) : Option (Int32 × Hp) := k32 (v0, v2, v3, v4, v5, v6, v7 + 1) h
set_option maxHeartbeats 4000000 in
set_option maxRecDepth 20000 in
theorem tb_m_yearsAll_96 {G : GG} {k18 : (Nat × Int32 × Int32 × Int32 × Int32 × Int32) → Hp → Option (Int32 × Hp)} (hk18 : ∀ s h, T G M_m_yearsAll 3 cI 18 [(0, .ref s.1), (2, .int s.2.1), (3, .int s.2.2.1), (4, .int s.2.2.2.1), (5, .int s.2.2.2.2.1), (6, .int s.2.2.2.2.2)] [] h (k18 s h)) {k32 : (Nat × Int32 × Int32 × Int32 × Int32 × Int32 × Int32) → Hp → Option (Int32 × Hp)} (hk32 : ∀ s h, T G M_m_yearsAll 3 cI 32 [(0, .ref s.1), (2, .int s.2.1), (3, .int s.2.2.1), (4, .int s.2.2.2.1), (5, .int s.2.2.2.2.1), (6, .int s.2.2.2.2.2.1), (7, .int s.2.2.2.2.2.2)] [] h (k32 s h)) (v0 : Nat) (v2 : Int32) (v3 : Int32) (v4 : Int32) (v5 : Int32) (v6 : Int32) (v7 : Int32) (h : Hp) : T G M_m_yearsAll 3 cI 96 [(0, .ref v0), (2, .int v2), (3, .int v3), (4, .int v4), (5, .int v5), (6, .int v6), (7, .int v7)] [] h (b_m_yearsAll_96 k18 k32 v0 v2 v3 v4 v5 v6 v7 h) := by
  unfold b_m_yearsAll_96
  refine q_iinc (pc := 96) (v := (1)) (ls' := [(7, .int (v7 + 1)), (0, .ref v0), (2, .int v2), (3, .int v3), (4, .int v4), (5, .int v5), (6, .int v6)]) (dq D_m_yearsAll_0_ok 51 rfl) 6 rfl (by decide) rfl rfl ?_
  refine q_goto (pc := 99) 32 (dq D_m_yearsAll_0_ok 52 rfl) rfl ?_
  exact T.lsub [1, 2, 3, 4, 5, 6, 0] rfl (hk32 (v0, v2, v3, v4, v5, v6, v7 + 1) h)
noncomputable def b_m_yearsAll_32 (k18 : (Nat × Int32 × Int32 × Int32 × Int32 × Int32) → Hp → Option (Int32 × Hp)) (k32 : (Nat × Int32 × Int32 × Int32 × Int32 × Int32 × Int32) → Hp → Option (Int32 × Hp)) (v0 : Nat) (v2 : Int32) (v3 : Int32) (v4 : Int32) (v5 : Int32) (v6 : Int32) (v7 : Int32) (h : Hp) : Option (Int32 × Hp) := gd (hS h v0 = some (.inl 11)) (bR (hR h v0 3) fun x1 => gd (hS h x1 = some (.inl 12)) (lt (hI h x1 2) fun x2 => if x2 ≤ v7 then (if v3 = ((-1)) then (b_m_yearsAll_121 k18 v0 v2 v3 v4 v6 v5 h) else (gd (hS h v0 = some (.inl 11)) (bd (f_m_isOn v0 v3 h) fun r4 h3 => if r4 = 0 then (b_m_yearsAll_121 k18 v0 v2 v3 v4 v6 v5 h3) else (b_m_yearsAll_122 k18 v0 v2 v3 v4 v6 1 v5 h3)))) else (gd (¬ (65537 : Int64) = 0) (lt ((lrm ((75 * v4.toInt64) + 74) 65537).toInt32 : Int32) fun y5 => gd (¬ (100 : Int32) = 0) (gd (hS h v0 = some (.inl 11)) (bR (hR h v0 3) fun x6 => gd (hS h x6 = some (.inl 12)) (lt (hI h x6 1) fun x7 => if (irm y5 100) < x7 then (gd (hS h v0 = some (.inl 11)) (bd (f_m_slips1 v0 v7 h) fun _ h8 => gd (hS h8 v0 = some (.inl 11)) (lt (hI h8 v0 35) fun x10 => gd (hS h8 v0 = some (.inl 11)) (lt (uI h8 v0 35 (x10 + 1)) fun h11 => b_m_yearsAll_96 k18 k32 v0 v2 v3 y5 v5 v6 v7 h11)))) else (b_m_yearsAll_96 k18 k32 v0 v2 v3 y5 v5 v6 v7 h))))))))
set_option maxHeartbeats 4000000 in
set_option maxRecDepth 20000 in
theorem tb_m_yearsAll_32 {G : GG} {k18 : (Nat × Int32 × Int32 × Int32 × Int32 × Int32) → Hp → Option (Int32 × Hp)} (hk18 : ∀ s h, T G M_m_yearsAll 3 cI 18 [(0, .ref s.1), (2, .int s.2.1), (3, .int s.2.2.1), (4, .int s.2.2.2.1), (5, .int s.2.2.2.2.1), (6, .int s.2.2.2.2.2)] [] h (k18 s h)) {k32 : (Nat × Int32 × Int32 × Int32 × Int32 × Int32 × Int32) → Hp → Option (Int32 × Hp)} (hk32 : ∀ s h, T G M_m_yearsAll 3 cI 32 [(0, .ref s.1), (2, .int s.2.1), (3, .int s.2.2.1), (4, .int s.2.2.2.1), (5, .int s.2.2.2.2.1), (6, .int s.2.2.2.2.2.1), (7, .int s.2.2.2.2.2.2)] [] h (k32 s h)) (v0 : Nat) (v2 : Int32) (v3 : Int32) (v4 : Int32) (v5 : Int32) (v6 : Int32) (v7 : Int32) (h : Hp) : T G M_m_yearsAll 3 cI 32 [(0, .ref v0), (2, .int v2), (3, .int v3), (4, .int v4), (5, .int v5), (6, .int v6), (7, .int v7)] [] h (b_m_yearsAll_32 k18 k32 v0 v2 v3 v4 v5 v6 v7 h) := by
  unfold b_m_yearsAll_32
  refine q_iload (pc := 32) (dq D_m_yearsAll_0_ok 19 rfl) 6 rfl ?_
  refine q_aload_n (pc := 34) (dq D_m_yearsAll_0_ok 20 rfl) rfl 0 rfl ?_
  refine q_getR (pc := 35) (dq D_m_yearsAll_0_ok 21 rfl) fa_m_348 rfl (fun x1 => ?_)
  refine r_getI (pc := 38) (dq D_m_yearsAll_0_ok 22 rfl) fa_m_205 rfl (fun x2 => ?_)
  refine q_ic_ge (pc := 41) 102 (dq D_m_yearsAll_0_ok 23 rfl) rfl ?_ ?_
  · refine q_iload (pc := 102) (dq D_m_yearsAll_0_ok 53 rfl) 4 rfl ?_
    refine q_iload_n (pc := 104) (dq D_m_yearsAll_0_ok 54 rfl) rfl 2 rfl ?_
    refine q_icm1 (pc := 105) (dq D_m_yearsAll_0_ok 55 rfl) ?_
    refine q_ic_eq (pc := 106) 121 (dq D_m_yearsAll_0_ok 56 rfl) rfl ?_ ?_
    · exact T.lsub [0, 1, 2, 3, 5] rfl (tb_m_yearsAll_121 hk18 v0 v2 v3 v4 v6 v5 h)
    · refine q_aload_n (pc := 109) (dq D_m_yearsAll_0_ok 57 rfl) rfl 0 rfl ?_
      refine q_iload_n (pc := 110) (dq D_m_yearsAll_0_ok 58 rfl) rfl 2 rfl ?_
      refine r_invI (Mc := M_m_isOn) (pc := 111) (ci := 11) (rest := [.int v5]) 1 1 [.int v3] (dq D_m_yearsAll_0_ok 59 rfl) rfl rfl lc_m_isOn lv_m_isOn_ ml_m_385 rfl rfl rfl rfl (t_m_isOn v0 v3 h) (fun r4 h3 => ?_)
      refine p_if_eq (pc := 114) 121 (dq D_m_yearsAll_1_ok 0 rfl) rfl ?_ ?_
      · exact T.lsub [0, 1, 2, 3, 5] rfl (tb_m_yearsAll_121 hk18 v0 v2 v3 v4 v6 v5 h3)
      · refine q_ic1 (pc := 117) (dq D_m_yearsAll_1_ok 1 rfl) ?_
        refine q_goto (pc := 118) 122 (dq D_m_yearsAll_1_ok 2 rfl) rfl ?_
        exact T.lsub [0, 1, 2, 3, 5] rfl (tb_m_yearsAll_122 hk18 v0 v2 v3 v4 v6 1 v5 h3)
  · refine q_ldc2 (pc := 44) (v := 75) (dq D_m_yearsAll_0_ok 24 rfl) lk_m_506 ?_
    refine q_iload (pc := 47) (dq D_m_yearsAll_0_ok 25 rfl) 3 rfl ?_
    refine q_i2l (pc := 49) (dq D_m_yearsAll_0_ok 26 rfl) ?_
    refine q_lmul (pc := 50) (dq D_m_yearsAll_0_ok 27 rfl) ?_
    refine q_ldc2 (pc := 51) (v := 74) (dq D_m_yearsAll_0_ok 28 rfl) lk_m_508 ?_
    refine q_ladd (pc := 54) (dq D_m_yearsAll_0_ok 29 rfl) ?_
    refine q_ldc2 (pc := 55) (v := 65537) (dq D_m_yearsAll_0_ok 30 rfl) lk_m_510 ?_
    refine q_lrem (pc := 58) (dq D_m_yearsAll_0_ok 31 rfl) ?_
    refine q_l2i (pc := 59) (dq D_m_yearsAll_0_ok 32 rfl) ?_
    refine r_nmI (fun y5 => ?_)
    refine q_istore (pc := 60) (ls' := [(4, .int y5), (0, .ref v0), (2, .int v2), (3, .int v3), (5, .int v5), (6, .int v6), (7, .int v7)]) (dq D_m_yearsAll_0_ok 33 rfl) rfl rfl ?_
    refine q_iload (pc := 62) (dq D_m_yearsAll_0_ok 34 rfl) 0 rfl ?_
    refine q_bipush (pc := 64) (v := 100) (dq D_m_yearsAll_0_ok 35 rfl) (by decide) ?_
    refine q_irem (pc := 66) (dq D_m_yearsAll_0_ok 36 rfl) ?_
    refine q_aload_n (pc := 67) (dq D_m_yearsAll_0_ok 37 rfl) rfl 1 rfl ?_
    refine q_getR (pc := 68) (dq D_m_yearsAll_0_ok 38 rfl) fa_m_348 rfl (fun x6 => ?_)
    refine r_getI (pc := 71) (dq D_m_yearsAll_0_ok 39 rfl) fa_m_239 rfl (fun x7 => ?_)
    refine q_ic_lt (pc := 74) 80 (dq D_m_yearsAll_0_ok 40 rfl) rfl ?_ ?_
    · refine q_aload_n (pc := 80) (dq D_m_yearsAll_0_ok 42 rfl) rfl 1 rfl ?_
      refine q_iload (pc := 81) (dq D_m_yearsAll_0_ok 43 rfl) 6 rfl ?_
      refine r_invU (Mc := M_m_slips1) (pc := 83) (ci := 11) (rest := []) 1 1 [.int v7] (dq D_m_yearsAll_0_ok 44 rfl) rfl rfl lc_m_slips1 lv_m_slips1_ ml_m_483 rfl rfl rfl rfl (t_m_slips1 v0 v7 h) (fun _ h8 => ?_)
      refine q_aload_n (pc := 86) (dq D_m_yearsAll_0_ok 45 rfl) rfl 1 rfl ?_
      refine q_dup (pc := 87) (dq D_m_yearsAll_0_ok 46 rfl) rfl ?_
      refine r_getI (pc := 88) (dq D_m_yearsAll_0_ok 47 rfl) fa_m_503 rfl (fun x10 => ?_)
      refine q_ic1 (pc := 91) (dq D_m_yearsAll_0_ok 48 rfl) ?_
      refine q_iadd (pc := 92) (dq D_m_yearsAll_0_ok 49 rfl) ?_
      refine r_putI (pc := 93) (dq D_m_yearsAll_0_ok 50 rfl) fp_m_503 rfl rfl (fun h11 => ?_)
      exact T.lsub [1, 2, 3, 0, 4, 5, 6] rfl (tb_m_yearsAll_96 hk18 hk32 v0 v2 v3 y5 v5 v6 v7 h11)
    · refine q_goto (pc := 77) 96 (dq D_m_yearsAll_0_ok 41 rfl) rfl ?_
      exact T.lsub [1, 2, 3, 0, 4, 5, 6] rfl (tb_m_yearsAll_96 hk18 hk32 v0 v2 v3 y5 v5 v6 v7 h)
noncomputable def l_m_yearsAll_32 (k18 : (Nat × Int32 × Int32 × Int32 × Int32 × Int32) → Hp → Option (Int32 × Hp)) : Nat → (Nat × Int32 × Int32 × Int32 × Int32 × Int32 × Int32) → Hp → Option (Int32 × Hp) := lp (fun k32 s h => b_m_yearsAll_32 k18 k32 s.1 s.2.1 s.2.2.1 s.2.2.2.1 s.2.2.2.2.1 s.2.2.2.2.2.1 s.2.2.2.2.2.2 h)
set_option maxHeartbeats 4000000 in
set_option maxRecDepth 20000 in
theorem tl_m_yearsAll_32 {G : GG} {k18 : (Nat × Int32 × Int32 × Int32 × Int32 × Int32) → Hp → Option (Int32 × Hp)} (hk18 : ∀ s h, T G M_m_yearsAll 3 cI 18 [(0, .ref s.1), (2, .int s.2.1), (3, .int s.2.2.1), (4, .int s.2.2.2.1), (5, .int s.2.2.2.2.1), (6, .int s.2.2.2.2.2)] [] h (k18 s h)) (n : Nat) (s : Nat × Int32 × Int32 × Int32 × Int32 × Int32 × Int32) (h : Hp) : T G M_m_yearsAll 3 cI 32 [(0, .ref s.1), (2, .int s.2.1), (3, .int s.2.2.1), (4, .int s.2.2.2.1), (5, .int s.2.2.2.2.1), (6, .int s.2.2.2.2.2.1), (7, .int s.2.2.2.2.2.2)] [] h (l_m_yearsAll_32 k18 n s h) :=
  T.loop (lsOf := fun s => [(0, .ref s.1), (2, .int s.2.1), (3, .int s.2.2.1), (4, .int s.2.2.2.1), (5, .int s.2.2.2.2.1), (6, .int s.2.2.2.2.2.1), (7, .int s.2.2.2.2.2.2)]) (fun k32 hk32 s h => tb_m_yearsAll_32 hk18 hk32 s.1 s.2.1 s.2.2.1 s.2.2.2.1 s.2.2.2.2.1 s.2.2.2.2.2.1 s.2.2.2.2.2.2 h) n s h
noncomputable def b_m_yearsAll_18 (k18 : (Nat × Int32 × Int32 × Int32 × Int32 × Int32) → Hp → Option (Int32 × Hp)) (v0 : Nat) (v2 : Int32) (v3 : Int32) (v4 : Int32) (v5 : Int32) (v6 : Int32) (h : Hp) : Option (Int32 × Hp) := if v2 ≤ v6 then (some (v5, h)) else (gd (hS h v0 = some (.inl 11)) (bd (f_m_aTurn v0 h) fun r2 h1 => lt (0 : Int32) fun y3 => l_m_yearsAll_32 k18 FU (v0, v2, v3, v4, v5, v6, y3) h1))
set_option maxHeartbeats 4000000 in
set_option maxRecDepth 20000 in
theorem tb_m_yearsAll_18 {G : GG} {k18 : (Nat × Int32 × Int32 × Int32 × Int32 × Int32) → Hp → Option (Int32 × Hp)} (hk18 : ∀ s h, T G M_m_yearsAll 3 cI 18 [(0, .ref s.1), (2, .int s.2.1), (3, .int s.2.2.1), (4, .int s.2.2.2.1), (5, .int s.2.2.2.2.1), (6, .int s.2.2.2.2.2)] [] h (k18 s h)) (v0 : Nat) (v2 : Int32) (v3 : Int32) (v4 : Int32) (v5 : Int32) (v6 : Int32) (h : Hp) : T G M_m_yearsAll 3 cI 18 [(0, .ref v0), (2, .int v2), (3, .int v3), (4, .int v4), (5, .int v5), (6, .int v6)] [] h (b_m_yearsAll_18 k18 v0 v2 v3 v4 v5 v6 h) := by
  unfold b_m_yearsAll_18
  refine q_iload (pc := 18) (dq D_m_yearsAll_0_ok 11 rfl) 5 rfl ?_
  refine q_iload_n (pc := 20) (dq D_m_yearsAll_0_ok 12 rfl) rfl 1 rfl ?_
  refine q_ic_ge (pc := 21) 131 (dq D_m_yearsAll_0_ok 13 rfl) rfl ?_ ?_
  · refine q_iload (pc := 131) (dq D_m_yearsAll_1_ok 8 rfl) 4 rfl ?_
    exact r_reti (pc := 133) (dq D_m_yearsAll_1_ok 9 rfl) rfl
  · refine q_aload_n (pc := 24) (dq D_m_yearsAll_0_ok 14 rfl) rfl 0 rfl ?_
    refine r_invI (Mc := M_m_aTurn) (pc := 25) (ci := 11) (rest := []) 2 0 [] (dq D_m_yearsAll_0_ok 15 rfl) rfl rfl lc_m_aTurn lv_m_aTurn_ ml_m_403 rfl rfl rfl rfl (t_m_aTurn v0 h) (fun r2 h1 => ?_)
    refine q_pop (pc := 28) (dq D_m_yearsAll_0_ok 16 rfl) rfl ?_
    refine q_ic0 (pc := 29) (dq D_m_yearsAll_0_ok 17 rfl) ?_
    refine r_nmI (fun y3 => ?_)
    refine q_istore (pc := 30) (ls' := [(7, .int y3), (0, .ref v0), (2, .int v2), (3, .int v3), (4, .int v4), (5, .int v5), (6, .int v6)]) (dq D_m_yearsAll_0_ok 18 rfl) rfl rfl ?_
    exact T.lsub [1, 2, 3, 4, 5, 6, 0] rfl (tl_m_yearsAll_32 hk18 FU (v0, v2, v3, v4, v5, v6, y3) h1)
noncomputable def l_m_yearsAll_18 : Nat → (Nat × Int32 × Int32 × Int32 × Int32 × Int32) → Hp → Option (Int32 × Hp) := lp (fun k18 s h => b_m_yearsAll_18 k18 s.1 s.2.1 s.2.2.1 s.2.2.2.1 s.2.2.2.2.1 s.2.2.2.2.2 h)
set_option maxHeartbeats 4000000 in
set_option maxRecDepth 20000 in
theorem tl_m_yearsAll_18 {G : GG} (n : Nat) (s : Nat × Int32 × Int32 × Int32 × Int32 × Int32) (h : Hp) : T G M_m_yearsAll 3 cI 18 [(0, .ref s.1), (2, .int s.2.1), (3, .int s.2.2.1), (4, .int s.2.2.2.1), (5, .int s.2.2.2.2.1), (6, .int s.2.2.2.2.2)] [] h (l_m_yearsAll_18 n s h) :=
  T.loop (lsOf := fun s => [(0, .ref s.1), (2, .int s.2.1), (3, .int s.2.2.1), (4, .int s.2.2.2.1), (5, .int s.2.2.2.2.1), (6, .int s.2.2.2.2.2)]) (fun k18 hk18 s h => tb_m_yearsAll_18 hk18 s.1 s.2.1 s.2.2.1 s.2.2.2.1 s.2.2.2.2.1 s.2.2.2.2.2 h) n s h
noncomputable def f_m_yearsAll (v0 : Nat) (v1 : Int32) (v2 : Int32) (v3 : Int32) (h : Hp) : Option (Int32 × Hp) := gd (hS h v0 = some (.inl 11)) (bd (f_m_works v0 h) fun _ h1 => lt (0 : Int32) fun y3 => gd (hS h1 v0 = some (.inl 11)) (lt (uI h1 v0 35 0) fun h4 => lt (0 : Int32) fun y5 => l_m_yearsAll_18 FU (v0, v2, v3, v1, y3, y5) h4))
set_option maxHeartbeats 4000000 in
set_option maxRecDepth 20000 in
theorem t_m_yearsAll {G : GG} (v0 : Nat) (v1 : Int32) (v2 : Int32) (v3 : Int32) (h : Hp) : Mt G M_m_yearsAll 3 [.ref v0, .int v1, .int v2, .int v3] cI h (f_m_yearsAll v0 v1 v2 v3 h) := by
  refine Mt.ofF (by decide +kernel) rfl (Rt.i rfl rfl) ?_
  show T G M_m_yearsAll 3 cI 0 [(0, .ref v0), (1, .int v1), (2, .int v2), (3, .int v3)] [] h _
  unfold f_m_yearsAll
  refine q_aload_n (pc := 0) (dq D_m_yearsAll_0_ok 0 rfl) rfl 0 rfl ?_
  refine r_invU (Mc := M_m_works) (pc := 1) (ci := 11) (rest := []) 0 0 [] (dq D_m_yearsAll_0_ok 1 rfl) rfl rfl lc_m_works lv_m_works_ ml_m_383 rfl rfl rfl rfl (t_m_works v0 h) (fun _ h1 => ?_)
  refine q_iload_n (pc := 4) (dq D_m_yearsAll_0_ok 2 rfl) rfl 1 rfl ?_
  refine q_istore (pc := 5) (ls' := [(4, .int v1), (0, .ref v0), (1, .int v1), (2, .int v2), (3, .int v3)]) (dq D_m_yearsAll_0_ok 3 rfl) rfl rfl ?_
  refine q_ic0 (pc := 7) (dq D_m_yearsAll_0_ok 4 rfl) ?_
  refine r_nmI (fun y3 => ?_)
  refine q_istore (pc := 8) (ls' := [(5, .int y3), (4, .int v1), (0, .ref v0), (1, .int v1), (2, .int v2), (3, .int v3)]) (dq D_m_yearsAll_0_ok 5 rfl) rfl rfl ?_
  refine q_aload_n (pc := 10) (dq D_m_yearsAll_0_ok 6 rfl) rfl 2 rfl ?_
  refine q_ic0 (pc := 11) (dq D_m_yearsAll_0_ok 7 rfl) ?_
  refine r_putI (pc := 12) (dq D_m_yearsAll_0_ok 8 rfl) fp_m_503 rfl rfl (fun h4 => ?_)
  refine q_ic0 (pc := 15) (dq D_m_yearsAll_0_ok 9 rfl) ?_
  refine r_nmI (fun y5 => ?_)
  refine q_istore (pc := 16) (ls' := [(6, .int y5), (5, .int y3), (4, .int v1), (0, .ref v0), (1, .int v1), (2, .int v2), (3, .int v3)]) (dq D_m_yearsAll_0_ok 10 rfl) rfl rfl ?_
  exact T.lsub [3, 5, 6, 2, 1, 0] rfl (tl_m_yearsAll_18 FU (v0, v2, v3, v1, y3, y5) h4)
noncomputable def f_m_refusesSeed (v0 : Nat) (v1 : Int32) (v2 : Int32) (v3 : Int32) (h : Hp) : Option (Int32 × Hp) := if v1 = 0 then (some (1, h)) else (bd (f_m_in v2 (0 : Int32) (65536 : Int32) h) fun r2 h1 => if r2 = 0 then (some (2, h1)) else (bd (f_m_in v3 (0 : Int32) (400 : Int32) h1) fun r4 h3 => if r4 = 0 then (some (2, h3)) else (some (0, h3))))
set_option maxHeartbeats 4000000 in
set_option maxRecDepth 20000 in
theorem t_m_refusesSeed {G : GG} (v0 : Nat) (v1 : Int32) (v2 : Int32) (v3 : Int32) (h : Hp) : Mt G M_m_refusesSeed 1 [.ref v0, .int v1, .int v2, .int v3] cI h (f_m_refusesSeed v0 v1 v2 v3 h) := by
  refine Mt.ofF (by decide +kernel) rfl (Rt.i rfl rfl) ?_
  show T G M_m_refusesSeed 1 cI 0 [(0, .ref v0), (1, .int v1), (2, .int v2), (3, .int v3)] [] h _
  unfold f_m_refusesSeed
  refine q_iload_n (pc := 0) (dq D_m_refusesSeed_0_ok 0 rfl) rfl 1 rfl ?_
  refine p_if_ne (pc := 1) 8 (dq D_m_refusesSeed_0_ok 1 rfl) rfl ?_ ?_
  · refine q_iload_n (pc := 8) (dq D_m_refusesSeed_0_ok 4 rfl) rfl 2 rfl ?_
    refine q_ic0 (pc := 9) (dq D_m_refusesSeed_0_ok 5 rfl) ?_
    refine q_ldcw (pc := 10) (v := 65536) (dq D_m_refusesSeed_0_ok 6 rfl) lk_m_512 ?_
    refine r_insI (Mc := M_m_in) (pc := 13) (rest := []) 0 3 [.int v2, .int 0, .int 65536] (dq D_m_refusesSeed_0_ok 7 rfl) lc_m_in ls_m_in ml_m_133 rfl rfl rfl rfl (t_m_in v2 (0 : Int32) (65536 : Int32) h) (fun r2 h1 => ?_)
    refine p_if_eq (pc := 16) 34 (dq D_m_refusesSeed_0_ok 8 rfl) rfl ?_ ?_
    · refine q_ic2 (pc := 34) (dq D_m_refusesSeed_0_ok 16 rfl) ?_
      exact r_reti (pc := 35) (dq D_m_refusesSeed_0_ok 17 rfl) rfl
    · refine q_iload_n (pc := 19) (dq D_m_refusesSeed_0_ok 9 rfl) rfl 3 rfl ?_
      refine q_ic0 (pc := 20) (dq D_m_refusesSeed_0_ok 10 rfl) ?_
      refine q_sipush (pc := 21) (v := 400) (dq D_m_refusesSeed_0_ok 11 rfl) (by decide) ?_
      refine r_insI (Mc := M_m_in) (pc := 24) (rest := []) 0 3 [.int v3, .int 0, .int 400] (dq D_m_refusesSeed_0_ok 12 rfl) lc_m_in ls_m_in ml_m_133 rfl rfl rfl rfl (t_m_in v3 (0 : Int32) (400 : Int32) h1) (fun r4 h3 => ?_)
      refine p_if_eq (pc := 27) 34 (dq D_m_refusesSeed_0_ok 13 rfl) rfl ?_ ?_
      · refine q_ic2 (pc := 34) (dq D_m_refusesSeed_0_ok 16 rfl) ?_
        exact r_reti (pc := 35) (dq D_m_refusesSeed_0_ok 17 rfl) rfl
      · refine q_ic0 (pc := 30) (dq D_m_refusesSeed_0_ok 14 rfl) ?_
        refine q_goto (pc := 31) 35 (dq D_m_refusesSeed_0_ok 15 rfl) rfl ?_
        exact r_reti (pc := 35) (dq D_m_refusesSeed_0_ok 17 rfl) rfl
  · refine q_ic1 (pc := 4) (dq D_m_refusesSeed_0_ok 2 rfl) ?_
    refine q_goto (pc := 5) 35 (dq D_m_refusesSeed_0_ok 3 rfl) rfl ?_
    exact r_reti (pc := 35) (dq D_m_refusesSeed_0_ok 17 rfl) rfl
noncomputable def f_m_years (v0 : Nat) (v1 : Int32) (v2 : Int32) (v3 : Int32) (h : Hp) : Option (Int32 × Hp) := gd (hS h v0 = some (.inl 11)) (lt (uI h v0 0 0) fun h1 => gd (hS h1 v0 = some (.inl 11)) (bd (f_m_isWheel v0 v1 h1) fun r3 h2 => gd (hS h2 v0 = some (.inl 11)) (bd (f_m_refusesSeed v0 r3 v2 v3 h2) fun r5 h4 => if r5 ≤ 0 then (gd (hS h4 v0 = some (.inl 11)) (bd (f_m_yearsAll v0 v2 v3 ((-1)) h4) fun r7 h6 => gd (hS h6 v0 = some (.inl 11)) (bR (hR h6 v0 16) fun x8 => gd (ai h6 x8 0 v1) (lt (hI h6 x8 v1.toNatClampNeg) fun x9 => gd (hS h6 v0 = some (.inl 11)) (bd (f_m_good v0 x9 h6) fun r11 h10 => some (r11, h10)))))) else (gd (hS h4 v0 = some (.inl 11)) (bd (f_m_refused v0 r5 h4) fun r13 h12 => some (r13, h12))))))
set_option maxHeartbeats 4000000 in
set_option maxRecDepth 20000 in
theorem t_m_years {G : GG} (v0 : Nat) (v1 : Int32) (v2 : Int32) (v3 : Int32) (h : Hp) : Mt G M_m_years 4 [.ref v0, .int v1, .int v2, .int v3] cI h (f_m_years v0 v1 v2 v3 h) := by
  refine Mt.ofF (by decide +kernel) rfl (Rt.i rfl rfl) ?_
  show T G M_m_years 4 cI 0 [(0, .ref v0), (1, .int v1), (2, .int v2), (3, .int v3)] [] h _
  unfold f_m_years
  refine q_aload_n (pc := 0) (dq D_m_years_0_ok 0 rfl) rfl 0 rfl ?_
  refine q_ic0 (pc := 1) (dq D_m_years_0_ok 1 rfl) ?_
  refine r_putI (pc := 2) (dq D_m_years_0_ok 2 rfl) fp_m_54 rfl rfl (fun h1 => ?_)
  refine q_aload_n (pc := 5) (dq D_m_years_0_ok 3 rfl) rfl 0 rfl ?_
  refine q_aload_n (pc := 6) (dq D_m_years_0_ok 4 rfl) rfl 0 rfl ?_
  refine q_iload_n (pc := 7) (dq D_m_years_0_ok 5 rfl) rfl 1 rfl ?_
  refine r_invI (Mc := M_m_isWheel) (pc := 8) (ci := 11) (rest := [.ref v0]) 0 1 [.int v1] (dq D_m_years_0_ok 6 rfl) rfl rfl lc_m_isWheel lv_m_isWheel_ ml_m_357 rfl rfl rfl rfl (t_m_isWheel v0 v1 h1) (fun r3 h2 => ?_)
  refine q_iload_n (pc := 11) (dq D_m_years_0_ok 7 rfl) rfl 2 rfl ?_
  refine q_iload_n (pc := 12) (dq D_m_years_0_ok 8 rfl) rfl 3 rfl ?_
  refine r_invI (Mc := M_m_refusesSeed) (pc := 13) (ci := 11) (rest := []) 1 3 [.int r3, .int v2, .int v3] (dq D_m_years_0_ok 9 rfl) rfl rfl lc_m_refusesSeed lv_m_refusesSeed_ ml_m_513 rfl rfl rfl rfl (t_m_refusesSeed v0 r3 v2 v3 h2) (fun r5 h4 => ?_)
  refine q_istore (pc := 16) (ls' := [(4, .int r5), (0, .ref v0), (1, .int v1), (2, .int v2), (3, .int v3)]) (dq D_m_years_0_ok 10 rfl) rfl rfl ?_
  refine q_iload (pc := 18) (dq D_m_years_0_ok 11 rfl) 0 rfl ?_
  refine p_if_le (pc := 20) 30 (dq D_m_years_0_ok 12 rfl) rfl ?_ ?_
  · refine q_aload_n (pc := 30) (dq D_m_years_0_ok 17 rfl) rfl 1 rfl ?_
    refine q_iload_n (pc := 31) (dq D_m_years_0_ok 18 rfl) rfl 3 rfl ?_
    refine q_iload_n (pc := 32) (dq D_m_years_0_ok 19 rfl) rfl 4 rfl ?_
    refine q_icm1 (pc := 33) (dq D_m_years_0_ok 20 rfl) ?_
    refine r_invI (Mc := M_m_yearsAll) (pc := 34) (ci := 11) (rest := []) 3 3 [.int v2, .int v3, .int ((-1))] (dq D_m_years_0_ok 21 rfl) rfl rfl lc_m_yearsAll lv_m_yearsAll_ ml_m_517 rfl rfl rfl rfl (t_m_yearsAll v0 v2 v3 ((-1)) h4) (fun r7 h6 => ?_)
    refine q_pop (pc := 37) (dq D_m_years_0_ok 22 rfl) rfl ?_
    refine q_aload_n (pc := 38) (dq D_m_years_0_ok 23 rfl) rfl 1 rfl ?_
    refine q_aload_n (pc := 39) (dq D_m_years_0_ok 24 rfl) rfl 1 rfl ?_
    refine q_getR (pc := 40) (dq D_m_years_0_ok 25 rfl) fa_m_21 rfl (fun x8 => ?_)
    refine q_iload_n (pc := 43) (dq D_m_years_0_ok 26 rfl) rfl 2 rfl ?_
    refine r_iald (pc := 44) (dq D_m_years_0_ok 27 rfl) (fun x9 => ?_)
    refine r_invI (Mc := M_m_good) (pc := 45) (ci := 11) (rest := []) 0 1 [.int x9] (dq D_m_years_0_ok 28 rfl) rfl rfl lc_m_good lv_m_good_ ml_m_64 rfl rfl rfl rfl (t_m_good v0 x9 h6) (fun r11 h10 => ?_)
    exact r_reti (pc := 48) (dq D_m_years_0_ok 29 rfl) rfl
  · refine q_aload_n (pc := 23) (dq D_m_years_0_ok 13 rfl) rfl 1 rfl ?_
    refine q_iload (pc := 24) (dq D_m_years_0_ok 14 rfl) 0 rfl ?_
    refine r_invI (Mc := M_m_refused) (pc := 26) (ci := 11) (rest := []) 0 1 [.int r5] (dq D_m_years_0_ok 15 rfl) rfl rfl lc_m_refused lv_m_refused_ ml_m_60 rfl rfl rfl rfl (t_m_refused v0 r5 h4) (fun r13 h12 => ?_)
    exact r_reti (pc := 29) (dq D_m_years_0_ok 16 rfl) rfl
noncomputable def f_m_yearFeasts (v0 : Nat) (v1 : Int32) (v2 : Int32) (v3 : Int32) (h : Hp) : Option (Int32 × Hp) := gd (hS h v0 = some (.inl 11)) (lt (uI h v0 0 0) fun h1 => gd (hS h1 v0 = some (.inl 11)) (bd (f_m_isFeast v0 v1 h1) fun r3 h2 => gd (hS h2 v0 = some (.inl 11)) (bd (f_m_refusesSeed v0 r3 v2 v3 h2) fun r5 h4 => if r5 ≤ 0 then (gd (hS h4 v0 = some (.inl 11)) (bd (f_m_yearsAll v0 v2 v3 v1 h4) fun r7 h6 => gd (hS h6 v0 = some (.inl 11)) (bd (f_m_good v0 r7 h6) fun r9 h8 => some (r9, h8)))) else (gd (hS h4 v0 = some (.inl 11)) (bd (f_m_refused v0 r5 h4) fun r11 h10 => some (r11, h10))))))
set_option maxHeartbeats 4000000 in
set_option maxRecDepth 20000 in
theorem t_m_yearFeasts {G : GG} (v0 : Nat) (v1 : Int32) (v2 : Int32) (v3 : Int32) (h : Hp) : Mt G M_m_yearFeasts 4 [.ref v0, .int v1, .int v2, .int v3] cI h (f_m_yearFeasts v0 v1 v2 v3 h) := by
  refine Mt.ofF (by decide +kernel) rfl (Rt.i rfl rfl) ?_
  show T G M_m_yearFeasts 4 cI 0 [(0, .ref v0), (1, .int v1), (2, .int v2), (3, .int v3)] [] h _
  unfold f_m_yearFeasts
  refine q_aload_n (pc := 0) (dq D_m_yearFeasts_0_ok 0 rfl) rfl 0 rfl ?_
  refine q_ic0 (pc := 1) (dq D_m_yearFeasts_0_ok 1 rfl) ?_
  refine r_putI (pc := 2) (dq D_m_yearFeasts_0_ok 2 rfl) fp_m_54 rfl rfl (fun h1 => ?_)
  refine q_aload_n (pc := 5) (dq D_m_yearFeasts_0_ok 3 rfl) rfl 0 rfl ?_
  refine q_aload_n (pc := 6) (dq D_m_yearFeasts_0_ok 4 rfl) rfl 0 rfl ?_
  refine q_iload_n (pc := 7) (dq D_m_yearFeasts_0_ok 5 rfl) rfl 1 rfl ?_
  refine r_invI (Mc := M_m_isFeast) (pc := 8) (ci := 11) (rest := [.ref v0]) 0 1 [.int v1] (dq D_m_yearFeasts_0_ok 6 rfl) rfl rfl lc_m_isFeast lv_m_isFeast_ ml_m_360 rfl rfl rfl rfl (t_m_isFeast v0 v1 h1) (fun r3 h2 => ?_)
  refine q_iload_n (pc := 11) (dq D_m_yearFeasts_0_ok 7 rfl) rfl 2 rfl ?_
  refine q_iload_n (pc := 12) (dq D_m_yearFeasts_0_ok 8 rfl) rfl 3 rfl ?_
  refine r_invI (Mc := M_m_refusesSeed) (pc := 13) (ci := 11) (rest := []) 1 3 [.int r3, .int v2, .int v3] (dq D_m_yearFeasts_0_ok 9 rfl) rfl rfl lc_m_refusesSeed lv_m_refusesSeed_ ml_m_513 rfl rfl rfl rfl (t_m_refusesSeed v0 r3 v2 v3 h2) (fun r5 h4 => ?_)
  refine q_istore (pc := 16) (ls' := [(4, .int r5), (0, .ref v0), (1, .int v1), (2, .int v2), (3, .int v3)]) (dq D_m_yearFeasts_0_ok 10 rfl) rfl rfl ?_
  refine q_iload (pc := 18) (dq D_m_yearFeasts_0_ok 11 rfl) 0 rfl ?_
  refine p_if_le (pc := 20) 32 (dq D_m_yearFeasts_0_ok 12 rfl) rfl ?_ ?_
  · refine q_aload_n (pc := 32) (dq D_m_yearFeasts_0_ok 17 rfl) rfl 1 rfl ?_
    refine q_aload_n (pc := 33) (dq D_m_yearFeasts_0_ok 18 rfl) rfl 1 rfl ?_
    refine q_iload_n (pc := 34) (dq D_m_yearFeasts_0_ok 19 rfl) rfl 3 rfl ?_
    refine q_iload_n (pc := 35) (dq D_m_yearFeasts_0_ok 20 rfl) rfl 4 rfl ?_
    refine q_iload_n (pc := 36) (dq D_m_yearFeasts_0_ok 21 rfl) rfl 2 rfl ?_
    refine r_invI (Mc := M_m_yearsAll) (pc := 37) (ci := 11) (rest := [.ref v0]) 3 3 [.int v2, .int v3, .int v1] (dq D_m_yearFeasts_0_ok 22 rfl) rfl rfl lc_m_yearsAll lv_m_yearsAll_ ml_m_517 rfl rfl rfl rfl (t_m_yearsAll v0 v2 v3 v1 h4) (fun r7 h6 => ?_)
    refine r_invI (Mc := M_m_good) (pc := 40) (ci := 11) (rest := []) 0 1 [.int r7] (dq D_m_yearFeasts_0_ok 23 rfl) rfl rfl lc_m_good lv_m_good_ ml_m_64 rfl rfl rfl rfl (t_m_good v0 r7 h6) (fun r9 h8 => ?_)
    exact r_reti (pc := 43) (dq D_m_yearFeasts_0_ok 24 rfl) rfl
  · refine q_aload_n (pc := 23) (dq D_m_yearFeasts_0_ok 13 rfl) rfl 1 rfl ?_
    refine q_iload (pc := 24) (dq D_m_yearFeasts_0_ok 14 rfl) 0 rfl ?_
    refine r_invI (Mc := M_m_refused) (pc := 26) (ci := 11) (rest := []) 0 1 [.int r5] (dq D_m_yearFeasts_0_ok 15 rfl) rfl rfl lc_m_refused lv_m_refused_ ml_m_60 rfl rfl rfl rfl (t_m_refused v0 r5 h4) (fun r11 h10 => ?_)
    refine q_goto (pc := 29) 43 (dq D_m_yearFeasts_0_ok 16 rfl) rfl ?_
    exact r_reti (pc := 43) (dq D_m_yearFeasts_0_ok 24 rfl) rfl
noncomputable def b_m_slips_18 (v0 : Nat) (v1 : Int32) (v2 : Int32) (s0 : Int32) (s1 : Nat) (h : Hp) : Option (Int32 × Hp) := gd (hS h s1 = some (.inl 11)) (bd (f_m_refusesSeed s1 s0 v1 v2 h) fun r2 h1 => if r2 ≤ 0 then (gd (hS h1 v0 = some (.inl 11)) (bd (f_m_yearsAll v0 v1 v2 ((-1)) h1) fun r4 h3 => gd (hS h3 v0 = some (.inl 11)) (lt (hI h3 v0 35) fun x5 => gd (hS h3 v0 = some (.inl 11)) (bd (f_m_good v0 x5 h3) fun r7 h6 => some (r7, h6))))) else (gd (hS h1 v0 = some (.inl 11)) (bd (f_m_refused v0 r2 h1) fun r9 h8 => some (r9, h8))))
set_option maxHeartbeats 4000000 in
set_option maxRecDepth 20000 in
theorem tb_m_slips_18 {G : GG} (v0 : Nat) (v1 : Int32) (v2 : Int32) (s0 : Int32) (s1 : Nat) (h : Hp) : T G M_m_slips 4 cI 18 [(0, .ref v0), (1, .int v1), (2, .int v2)] [.int s0, .ref s1] h (b_m_slips_18 v0 v1 v2 s0 s1 h) := by
  unfold b_m_slips_18
  refine q_iload_n (pc := 18) (dq D_m_slips_0_ok 10 rfl) rfl 1 rfl ?_
  refine q_iload_n (pc := 19) (dq D_m_slips_0_ok 11 rfl) rfl 2 rfl ?_
  refine r_invI (Mc := M_m_refusesSeed) (pc := 20) (ci := 11) (rest := []) 1 3 [.int s0, .int v1, .int v2] (dq D_m_slips_0_ok 12 rfl) rfl rfl lc_m_refusesSeed lv_m_refusesSeed_ ml_m_513 rfl rfl rfl rfl (t_m_refusesSeed s1 s0 v1 v2 h) (fun r2 h1 => ?_)
  refine q_istore_n (pc := 23) (ls' := [(3, .int r2), (0, .ref v0), (1, .int v1), (2, .int v2)]) (dq D_m_slips_0_ok 13 rfl) rfl rfl rfl ?_
  refine q_iload_n (pc := 24) (dq D_m_slips_0_ok 14 rfl) rfl 0 rfl ?_
  refine p_if_le (pc := 25) 34 (dq D_m_slips_0_ok 15 rfl) rfl ?_ ?_
  · refine q_aload_n (pc := 34) (dq D_m_slips_0_ok 20 rfl) rfl 1 rfl ?_
    refine q_iload_n (pc := 35) (dq D_m_slips_0_ok 21 rfl) rfl 2 rfl ?_
    refine q_iload_n (pc := 36) (dq D_m_slips_0_ok 22 rfl) rfl 3 rfl ?_
    refine q_icm1 (pc := 37) (dq D_m_slips_0_ok 23 rfl) ?_
    refine r_invI (Mc := M_m_yearsAll) (pc := 38) (ci := 11) (rest := []) 3 3 [.int v1, .int v2, .int ((-1))] (dq D_m_slips_0_ok 24 rfl) rfl rfl lc_m_yearsAll lv_m_yearsAll_ ml_m_517 rfl rfl rfl rfl (t_m_yearsAll v0 v1 v2 ((-1)) h1) (fun r4 h3 => ?_)
    refine q_pop (pc := 41) (dq D_m_slips_0_ok 25 rfl) rfl ?_
    refine q_aload_n (pc := 42) (dq D_m_slips_0_ok 26 rfl) rfl 1 rfl ?_
    refine q_aload_n (pc := 43) (dq D_m_slips_0_ok 27 rfl) rfl 1 rfl ?_
    refine r_getI (pc := 44) (dq D_m_slips_0_ok 28 rfl) fa_m_503 rfl (fun x5 => ?_)
    refine r_invI (Mc := M_m_good) (pc := 47) (ci := 11) (rest := []) 0 1 [.int x5] (dq D_m_slips_0_ok 29 rfl) rfl rfl lc_m_good lv_m_good_ ml_m_64 rfl rfl rfl rfl (t_m_good v0 x5 h3) (fun r7 h6 => ?_)
    exact r_reti (pc := 50) (dq D_m_slips_0_ok 30 rfl) rfl
  · refine q_aload_n (pc := 28) (dq D_m_slips_0_ok 16 rfl) rfl 1 rfl ?_
    refine q_iload_n (pc := 29) (dq D_m_slips_0_ok 17 rfl) rfl 0 rfl ?_
    refine r_invI (Mc := M_m_refused) (pc := 30) (ci := 11) (rest := []) 0 1 [.int r2] (dq D_m_slips_0_ok 18 rfl) rfl rfl lc_m_refused lv_m_refused_ ml_m_60 rfl rfl rfl rfl (t_m_refused v0 r2 h1) (fun r9 h8 => ?_)
    exact r_reti (pc := 33) (dq D_m_slips_0_ok 19 rfl) rfl
noncomputable def f_m_slips (v0 : Nat) (v1 : Int32) (v2 : Int32) (h : Hp) : Option (Int32 × Hp) := gd (hS h v0 = some (.inl 11)) (lt (uI h v0 0 0) fun h1 => gd (hS h1 v0 = some (.inl 11)) (if hR h1 v0 3 = none then (b_m_slips_18 v0 v1 v2 0 v0 h1) else (b_m_slips_18 v0 v1 v2 1 v0 h1)))
set_option maxHeartbeats 4000000 in
set_option maxRecDepth 20000 in
theorem t_m_slips {G : GG} (v0 : Nat) (v1 : Int32) (v2 : Int32) (h : Hp) : Mt G M_m_slips 4 [.ref v0, .int v1, .int v2] cI h (f_m_slips v0 v1 v2 h) := by
  refine Mt.ofF (by decide +kernel) rfl (Rt.i rfl rfl) ?_
  show T G M_m_slips 4 cI 0 [(0, .ref v0), (1, .int v1), (2, .int v2)] [] h _
  unfold f_m_slips
  refine q_aload_n (pc := 0) (dq D_m_slips_0_ok 0 rfl) rfl 0 rfl ?_
  refine q_ic0 (pc := 1) (dq D_m_slips_0_ok 1 rfl) ?_
  refine r_putI (pc := 2) (dq D_m_slips_0_ok 2 rfl) fp_m_54 rfl rfl (fun h1 => ?_)
  refine q_aload_n (pc := 5) (dq D_m_slips_0_ok 3 rfl) rfl 0 rfl ?_
  refine q_aload_n (pc := 6) (dq D_m_slips_0_ok 4 rfl) rfl 0 rfl ?_
  refine q_getnu (pc := 7) 17 (dq D_m_slips_0_ok 5 rfl) (dq D_m_slips_0_ok 6 rfl) rfl fa_m_348 rfl ?_ ?_
  · refine q_ic0 (pc := 17) (dq D_m_slips_0_ok 9 rfl) ?_
    exact T.lsub [0, 1, 2] rfl (tb_m_slips_18 v0 v1 v2 0 v0 h1)
  · refine q_ic1 (pc := 13) (dq D_m_slips_0_ok 7 rfl) ?_
    refine q_goto (pc := 14) 18 (dq D_m_slips_0_ok 8 rfl) rfl ?_
    exact T.lsub [0, 1, 2] rfl (tb_m_slips_18 v0 v1 v2 1 v0 h1)
noncomputable def b_m_remembers_50 (k50 : (Nat × Int32) → Hp → Option (Unit × Hp)) (v0 : Nat) (v1 : Int32) (h : Hp) : Option (Unit × Hp) := if 8 ≤ v1 then (gd (hS h v0 = some (.inl 11)) (lt (hI h v0 19) fun x1 => gd (hS h v0 = some (.inl 11)) (lt (uI h v0 19 (x1 + 1)) fun h2 => some ((), h2)))) else (gd (hS h v0 = some (.inl 11)) (bR (hR h v0 17) fun x3 => gd (hS h v0 = some (.inl 11)) (lt (hI h v0 19) fun x4 => gd (hS h v0 = some (.inl 11)) (bR (hR h v0 15) fun x5 => gd (ai h x5 0 v1) (lt (hI h x5 v1.toNatClampNeg) fun x6 => gd (ai h x3 0 ((8 * x4) + v1)) (lt (uI h x3 ((8 * x4) + v1).toNatClampNeg x6) fun h7 => k50 (v0, v1 + 1) h7))))))
set_option maxHeartbeats 4000000 in
set_option maxRecDepth 20000 in
theorem tb_m_remembers_50 {G : GG} {k50 : (Nat × Int32) → Hp → Option (Unit × Hp)} (hk50 : ∀ s h, T G M_m_remembers 0 cU 50 [(0, .ref s.1), (1, .int s.2)] [] h (k50 s h)) (v0 : Nat) (v1 : Int32) (h : Hp) : T G M_m_remembers 0 cU 50 [(0, .ref v0), (1, .int v1)] [] h (b_m_remembers_50 k50 v0 v1 h) := by
  unfold b_m_remembers_50
  refine q_iload_n (pc := 50) (dq D_m_remembers_0_ok 29 rfl) rfl 1 rfl ?_
  refine q_bipush (pc := 51) (v := 8) (dq D_m_remembers_0_ok 30 rfl) (by decide) ?_
  refine q_ic_ge (pc := 53) 82 (dq D_m_remembers_0_ok 31 rfl) rfl ?_ ?_
  · refine q_aload_n (pc := 82) (dq D_m_remembers_0_ok 47 rfl) rfl 0 rfl ?_
    refine q_dup (pc := 83) (dq D_m_remembers_0_ok 48 rfl) rfl ?_
    refine r_getI (pc := 84) (dq D_m_remembers_0_ok 49 rfl) fa_m_351 rfl (fun x1 => ?_)
    refine q_ic1 (pc := 87) (dq D_m_remembers_0_ok 50 rfl) ?_
    refine q_iadd (pc := 88) (dq D_m_remembers_0_ok 51 rfl) ?_
    refine r_putI (pc := 89) (dq D_m_remembers_0_ok 52 rfl) fp_m_351 rfl rfl (fun h2 => ?_)
    exact r_retu (pc := 92) (dq D_m_remembers_0_ok 53 rfl) rfl
  · refine q_aload_n (pc := 56) (dq D_m_remembers_0_ok 32 rfl) rfl 0 rfl ?_
    refine q_getR (pc := 57) (dq D_m_remembers_0_ok 33 rfl) fa_m_24 rfl (fun x3 => ?_)
    refine q_bipush (pc := 60) (v := 8) (dq D_m_remembers_0_ok 34 rfl) (by decide) ?_
    refine q_aload_n (pc := 62) (dq D_m_remembers_0_ok 35 rfl) rfl 0 rfl ?_
    refine r_getI (pc := 63) (dq D_m_remembers_0_ok 36 rfl) fa_m_351 rfl (fun x4 => ?_)
    refine q_imul (pc := 66) (dq D_m_remembers_0_ok 37 rfl) ?_
    refine q_iload_n (pc := 67) (dq D_m_remembers_0_ok 38 rfl) rfl 1 rfl ?_
    refine q_iadd (pc := 68) (dq D_m_remembers_0_ok 39 rfl) ?_
    refine q_aload_n (pc := 69) (dq D_m_remembers_0_ok 40 rfl) rfl 0 rfl ?_
    refine q_getR (pc := 70) (dq D_m_remembers_0_ok 41 rfl) fa_m_17 rfl (fun x5 => ?_)
    refine q_iload_n (pc := 73) (dq D_m_remembers_0_ok 42 rfl) rfl 1 rfl ?_
    refine r_iald (pc := 74) (dq D_m_remembers_0_ok 43 rfl) (fun x6 => ?_)
    refine r_iast (pc := 75) (dq D_m_remembers_0_ok 44 rfl) (fun h7 => ?_)
    refine q_iinc (pc := 76) (v := (1)) (ls' := [(1, .int (v1 + 1)), (0, .ref v0)]) (dq D_m_remembers_0_ok 45 rfl) 1 rfl (by decide) rfl rfl ?_
    refine q_goto (pc := 79) 50 (dq D_m_remembers_0_ok 46 rfl) rfl ?_
    exact T.lsub [1, 0] rfl (hk50 (v0, v1 + 1) h7)
noncomputable def l_m_remembers_50 : Nat → (Nat × Int32) → Hp → Option (Unit × Hp) := lp (fun k50 s h => b_m_remembers_50 k50 s.1 s.2 h)
set_option maxHeartbeats 4000000 in
set_option maxRecDepth 20000 in
theorem tl_m_remembers_50 {G : GG} (n : Nat) (s : Nat × Int32) (h : Hp) : T G M_m_remembers 0 cU 50 [(0, .ref s.1), (1, .int s.2)] [] h (l_m_remembers_50 n s h) :=
  T.loop (lsOf := fun s => [(0, .ref s.1), (1, .int s.2)]) (fun k50 hk50 s h => tb_m_remembers_50 hk50 s.1 s.2 h) n s h
noncomputable def b_m_remembers_48 (v0 : Nat) (h : Hp) : Option (Unit × Hp) := lt (0 : Int32) fun y1 => l_m_remembers_50 FU (v0, y1) h
set_option maxHeartbeats 4000000 in
set_option maxRecDepth 20000 in
theorem tb_m_remembers_48 {G : GG} (v0 : Nat) (h : Hp) : T G M_m_remembers 0 cU 48 [(0, .ref v0)] [] h (b_m_remembers_48 v0 h) := by
  unfold b_m_remembers_48
  refine q_ic0 (pc := 48) (dq D_m_remembers_0_ok 27 rfl) ?_
  refine r_nmI (fun y1 => ?_)
  refine q_istore_n (pc := 49) (ls' := [(1, .int y1), (0, .ref v0)]) (dq D_m_remembers_0_ok 28 rfl) rfl rfl rfl ?_
  exact T.lsub [1, 0] rfl (tl_m_remembers_50 FU (v0, y1) h)
noncomputable def b_m_remembers_11 (k11 : (Nat × Int32) → Hp → Option (Unit × Hp)) (v0 : Nat) (v1 : Int32) (h : Hp) : Option (Unit × Hp) := if 120 ≤ v1 then (gd (hS h v0 = some (.inl 11)) (lt (hI h v0 19) fun x1 => gd (hS h v0 = some (.inl 11)) (lt (uI h v0 19 (x1 - 1)) fun h2 => b_m_remembers_48 v0 h2))) else (gd (hS h v0 = some (.inl 11)) (bR (hR h v0 17) fun x3 => gd (hS h v0 = some (.inl 11)) (bR (hR h v0 17) fun x4 => gd (ai h x4 0 (v1 + 8)) (lt (hI h x4 (v1 + 8).toNatClampNeg) fun x5 => gd (ai h x3 0 v1) (lt (uI h x3 v1.toNatClampNeg x5) fun h6 => k11 (v0, v1 + 1) h6)))))
set_option maxHeartbeats 4000000 in
set_option maxRecDepth 20000 in
theorem tb_m_remembers_11 {G : GG} {k11 : (Nat × Int32) → Hp → Option (Unit × Hp)} (hk11 : ∀ s h, T G M_m_remembers 0 cU 11 [(0, .ref s.1), (1, .int s.2)] [] h (k11 s h)) (v0 : Nat) (v1 : Int32) (h : Hp) : T G M_m_remembers 0 cU 11 [(0, .ref v0), (1, .int v1)] [] h (b_m_remembers_11 k11 v0 v1 h) := by
  unfold b_m_remembers_11
  refine q_iload_n (pc := 11) (dq D_m_remembers_0_ok 6 rfl) rfl 1 rfl ?_
  refine q_bipush (pc := 12) (v := 120) (dq D_m_remembers_0_ok 7 rfl) (by decide) ?_
  refine q_ic_ge (pc := 14) 38 (dq D_m_remembers_0_ok 8 rfl) rfl ?_ ?_
  · refine q_aload_n (pc := 38) (dq D_m_remembers_0_ok 21 rfl) rfl 0 rfl ?_
    refine q_dup (pc := 39) (dq D_m_remembers_0_ok 22 rfl) rfl ?_
    refine r_getI (pc := 40) (dq D_m_remembers_0_ok 23 rfl) fa_m_351 rfl (fun x1 => ?_)
    refine q_ic1 (pc := 43) (dq D_m_remembers_0_ok 24 rfl) ?_
    refine q_isub (pc := 44) (dq D_m_remembers_0_ok 25 rfl) ?_
    refine r_putI (pc := 45) (dq D_m_remembers_0_ok 26 rfl) fp_m_351 rfl rfl (fun h2 => ?_)
    exact T.lsub [0] rfl (tb_m_remembers_48 v0 h2)
  · refine q_aload_n (pc := 17) (dq D_m_remembers_0_ok 9 rfl) rfl 0 rfl ?_
    refine q_getR (pc := 18) (dq D_m_remembers_0_ok 10 rfl) fa_m_24 rfl (fun x3 => ?_)
    refine q_iload_n (pc := 21) (dq D_m_remembers_0_ok 11 rfl) rfl 1 rfl ?_
    refine q_aload_n (pc := 22) (dq D_m_remembers_0_ok 12 rfl) rfl 0 rfl ?_
    refine q_getR (pc := 23) (dq D_m_remembers_0_ok 13 rfl) fa_m_24 rfl (fun x4 => ?_)
    refine q_iload_n (pc := 26) (dq D_m_remembers_0_ok 14 rfl) rfl 1 rfl ?_
    refine q_bipush (pc := 27) (v := 8) (dq D_m_remembers_0_ok 15 rfl) (by decide) ?_
    refine q_iadd (pc := 29) (dq D_m_remembers_0_ok 16 rfl) ?_
    refine r_iald (pc := 30) (dq D_m_remembers_0_ok 17 rfl) (fun x5 => ?_)
    refine r_iast (pc := 31) (dq D_m_remembers_0_ok 18 rfl) (fun h6 => ?_)
    refine q_iinc (pc := 32) (v := (1)) (ls' := [(1, .int (v1 + 1)), (0, .ref v0)]) (dq D_m_remembers_0_ok 19 rfl) 1 rfl (by decide) rfl rfl ?_
    refine q_goto (pc := 35) 11 (dq D_m_remembers_0_ok 20 rfl) rfl ?_
    exact T.lsub [1, 0] rfl (hk11 (v0, v1 + 1) h6)
noncomputable def l_m_remembers_11 : Nat → (Nat × Int32) → Hp → Option (Unit × Hp) := lp (fun k11 s h => b_m_remembers_11 k11 s.1 s.2 h)
set_option maxHeartbeats 4000000 in
set_option maxRecDepth 20000 in
theorem tl_m_remembers_11 {G : GG} (n : Nat) (s : Nat × Int32) (h : Hp) : T G M_m_remembers 0 cU 11 [(0, .ref s.1), (1, .int s.2)] [] h (l_m_remembers_11 n s h) :=
  T.loop (lsOf := fun s => [(0, .ref s.1), (1, .int s.2)]) (fun k11 hk11 s h => tb_m_remembers_11 hk11 s.1 s.2 h) n s h
noncomputable def f_m_remembers (v0 : Nat) (h : Hp) : Option (Unit × Hp) := gd (hS h v0 = some (.inl 11)) (lt (hI h v0 19) fun x1 => if x1 = 16 then (lt (0 : Int32) fun y2 => l_m_remembers_11 FU (v0, y2) h) else (b_m_remembers_48 v0 h))
set_option maxHeartbeats 4000000 in
set_option maxRecDepth 20000 in
theorem t_m_remembers {G : GG} (v0 : Nat) (h : Hp) : Mt G M_m_remembers 0 [.ref v0] cU h (f_m_remembers v0 h) := by
  refine Mt.ofF (by decide +kernel) rfl (Rt.v rfl rfl) ?_
  show T G M_m_remembers 0 cU 0 [(0, .ref v0)] [] h _
  unfold f_m_remembers
  refine q_aload_n (pc := 0) (dq D_m_remembers_0_ok 0 rfl) rfl 0 rfl ?_
  refine r_getI (pc := 1) (dq D_m_remembers_0_ok 1 rfl) fa_m_351 rfl (fun x1 => ?_)
  refine q_bipush (pc := 4) (v := 16) (dq D_m_remembers_0_ok 2 rfl) (by decide) ?_
  refine q_ic_ne (pc := 6) 48 (dq D_m_remembers_0_ok 3 rfl) rfl ?_ ?_
  · exact T.lsub [0] rfl (tb_m_remembers_48 v0 h)
  · refine q_ic0 (pc := 9) (dq D_m_remembers_0_ok 4 rfl) ?_
    refine r_nmI (fun y2 => ?_)
    refine q_istore_n (pc := 10) (ls' := [(1, .int y2), (0, .ref v0)]) (dq D_m_remembers_0_ok 5 rfl) rfl rfl rfl ?_
    exact T.lsub [1, 0] rfl (tl_m_remembers_11 FU (v0, y2) h)
noncomputable def b_m_becomes_2 (k2 : (Nat × Int32 × Int32) → Hp → Option (Int32 × Hp)) (v0 : Nat) (v1 : Int32) (v2 : Int32) (h : Hp) : Option (Int32 × Hp) := if 8 ≤ v2 then (gd (hS h v0 = some (.inl 11)) (bR (hR h v0 15) fun x1 => gd (ai h x1 0 7) (lt (hI h x1 (7 : Int32).toNatClampNeg) fun x2 => gd (ai h x1 0 7) (lt (uI h x1 (7 : Int32).toNatClampNeg (x2 + v1)) fun h3 => gd (hS h3 v0 = some (.inl 11)) (bd (f_m_good v0 v1 h3) fun r5 h4 => some (r5, h4)))))) else (gd (hS h v0 = some (.inl 11)) (bR (hR h v0 15) fun x6 => gd (hS h v0 = some (.inl 11)) (bR (hR h v0 16) fun x7 => gd (ai h x7 0 v2) (lt (hI h x7 v2.toNatClampNeg) fun x8 => gd (ai h x6 0 v2) (lt (uI h x6 v2.toNatClampNeg x8) fun h9 => k2 (v0, v1, v2 + 1) h9)))))
set_option maxHeartbeats 4000000 in
set_option maxRecDepth 20000 in
theorem tb_m_becomes_2 {G : GG} {k2 : (Nat × Int32 × Int32) → Hp → Option (Int32 × Hp)} (hk2 : ∀ s h, T G M_m_becomes 1 cI 2 [(0, .ref s.1), (1, .int s.2.1), (2, .int s.2.2)] [] h (k2 s h)) (v0 : Nat) (v1 : Int32) (v2 : Int32) (h : Hp) : T G M_m_becomes 1 cI 2 [(0, .ref v0), (1, .int v1), (2, .int v2)] [] h (b_m_becomes_2 k2 v0 v1 v2 h) := by
  unfold b_m_becomes_2
  refine q_iload_n (pc := 2) (dq D_m_becomes_0_ok 2 rfl) rfl 2 rfl ?_
  refine q_bipush (pc := 3) (v := 8) (dq D_m_becomes_0_ok 3 rfl) (by decide) ?_
  refine q_ic_ge (pc := 5) 26 (dq D_m_becomes_0_ok 4 rfl) rfl ?_ ?_
  · refine q_aload_n (pc := 26) (dq D_m_becomes_0_ok 15 rfl) rfl 0 rfl ?_
    refine q_getR (pc := 27) (dq D_m_becomes_0_ok 16 rfl) fa_m_17 rfl (fun x1 => ?_)
    refine q_bipush (pc := 30) (v := 7) (dq D_m_becomes_0_ok 17 rfl) (by decide) ?_
    refine q_dup2 (pc := 32) (dq D_m_becomes_0_ok 18 rfl) rfl rfl ?_
    refine r_iald (pc := 33) (dq D_m_becomes_0_ok 19 rfl) (fun x2 => ?_)
    refine q_iload_n (pc := 34) (dq D_m_becomes_0_ok 20 rfl) rfl 1 rfl ?_
    refine q_iadd (pc := 35) (dq D_m_becomes_0_ok 21 rfl) ?_
    refine r_iast (pc := 36) (dq D_m_becomes_0_ok 22 rfl) (fun h3 => ?_)
    refine q_aload_n (pc := 37) (dq D_m_becomes_0_ok 23 rfl) rfl 0 rfl ?_
    refine q_iload_n (pc := 38) (dq D_m_becomes_0_ok 24 rfl) rfl 1 rfl ?_
    refine r_invI (Mc := M_m_good) (pc := 39) (ci := 11) (rest := []) 0 1 [.int v1] (dq D_m_becomes_0_ok 25 rfl) rfl rfl lc_m_good lv_m_good_ ml_m_64 rfl rfl rfl rfl (t_m_good v0 v1 h3) (fun r5 h4 => ?_)
    exact r_reti (pc := 42) (dq D_m_becomes_0_ok 26 rfl) rfl
  · refine q_aload_n (pc := 8) (dq D_m_becomes_0_ok 5 rfl) rfl 0 rfl ?_
    refine q_getR (pc := 9) (dq D_m_becomes_0_ok 6 rfl) fa_m_17 rfl (fun x6 => ?_)
    refine q_iload_n (pc := 12) (dq D_m_becomes_0_ok 7 rfl) rfl 2 rfl ?_
    refine q_aload_n (pc := 13) (dq D_m_becomes_0_ok 8 rfl) rfl 0 rfl ?_
    refine q_getR (pc := 14) (dq D_m_becomes_0_ok 9 rfl) fa_m_21 rfl (fun x7 => ?_)
    refine q_iload_n (pc := 17) (dq D_m_becomes_0_ok 10 rfl) rfl 2 rfl ?_
    refine r_iald (pc := 18) (dq D_m_becomes_0_ok 11 rfl) (fun x8 => ?_)
    refine r_iast (pc := 19) (dq D_m_becomes_0_ok 12 rfl) (fun h9 => ?_)
    refine q_iinc (pc := 20) (v := (1)) (ls' := [(2, .int (v2 + 1)), (0, .ref v0), (1, .int v1)]) (dq D_m_becomes_0_ok 13 rfl) 2 rfl (by decide) rfl rfl ?_
    refine q_goto (pc := 23) 2 (dq D_m_becomes_0_ok 14 rfl) rfl ?_
    exact T.lsub [1, 2, 0] rfl (hk2 (v0, v1, v2 + 1) h9)
noncomputable def l_m_becomes_2 : Nat → (Nat × Int32 × Int32) → Hp → Option (Int32 × Hp) := lp (fun k2 s h => b_m_becomes_2 k2 s.1 s.2.1 s.2.2 h)
set_option maxHeartbeats 4000000 in
set_option maxRecDepth 20000 in
theorem tl_m_becomes_2 {G : GG} (n : Nat) (s : Nat × Int32 × Int32) (h : Hp) : T G M_m_becomes 1 cI 2 [(0, .ref s.1), (1, .int s.2.1), (2, .int s.2.2)] [] h (l_m_becomes_2 n s h) :=
  T.loop (lsOf := fun s => [(0, .ref s.1), (1, .int s.2.1), (2, .int s.2.2)]) (fun k2 hk2 s h => tb_m_becomes_2 hk2 s.1 s.2.1 s.2.2 h) n s h
noncomputable def f_m_becomes (v0 : Nat) (v1 : Int32) (h : Hp) : Option (Int32 × Hp) := lt (0 : Int32) fun y1 => l_m_becomes_2 FU (v0, v1, y1) h
set_option maxHeartbeats 4000000 in
set_option maxRecDepth 20000 in
theorem t_m_becomes {G : GG} (v0 : Nat) (v1 : Int32) (h : Hp) : Mt G M_m_becomes 1 [.ref v0, .int v1] cI h (f_m_becomes v0 v1 h) := by
  refine Mt.ofF (by decide +kernel) rfl (Rt.i rfl rfl) ?_
  show T G M_m_becomes 1 cI 0 [(0, .ref v0), (1, .int v1)] [] h _
  unfold f_m_becomes
  refine q_ic0 (pc := 0) (dq D_m_becomes_0_ok 0 rfl) ?_
  refine r_nmI (fun y1 => ?_)
  refine q_istore_n (pc := 1) (ls' := [(2, .int y1), (0, .ref v0), (1, .int v1)]) (dq D_m_becomes_0_ok 1 rfl) rfl rfl rfl ?_
  exact T.lsub [1, 2, 0] rfl (tl_m_becomes_2 FU (v0, v1, y1) h)
noncomputable def f_m_turn (v0 : Nat) (h : Hp) : Option (Int32 × Hp) := gd (hS h v0 = some (.inl 11)) (lt (uI h v0 0 0) fun h1 => gd (hS h1 v0 = some (.inl 11)) (if hR h1 v0 3 = none then (gd (hS h1 v0 = some (.inl 11)) (bd (f_m_refused v0 (1 : Int32) h1) fun r16 h15 => some (r16, h15))) else (gd (hS h1 v0 = some (.inl 11)) (bR (hR h1 v0 15) fun x3 => gd (ai h1 x3 0 5) (lt (hI h1 x3 (5 : Int32).toNatClampNeg) fun x4 => if x4 = 999999 then (gd (hS h1 v0 = some (.inl 11)) (bd (f_m_refused v0 (3 : Int32) h1) fun r14 h13 => some (r14, h13))) else (gd (hS h1 v0 = some (.inl 11)) (bd (f_m_remembers v0 h1) fun _ h5 => gd (hS h5 v0 = some (.inl 11)) (bd (f_m_works v0 h5) fun _ h7 => gd (hS h7 v0 = some (.inl 11)) (bd (f_m_aTurn v0 h7) fun r10 h9 => gd (hS h9 v0 = some (.inl 11)) (bd (f_m_becomes v0 r10 h9) fun r12 h11 => some (r12, h11)))))))))))
set_option maxHeartbeats 4000000 in
set_option maxRecDepth 20000 in
theorem t_m_turn {G : GG} (v0 : Nat) (h : Hp) : Mt G M_m_turn 3 [.ref v0] cI h (f_m_turn v0 h) := by
  refine Mt.ofF (by decide +kernel) rfl (Rt.i rfl rfl) ?_
  show T G M_m_turn 3 cI 0 [(0, .ref v0)] [] h _
  unfold f_m_turn
  refine q_aload_n (pc := 0) (dq D_m_turn_0_ok 0 rfl) rfl 0 rfl ?_
  refine q_ic0 (pc := 1) (dq D_m_turn_0_ok 1 rfl) ?_
  refine r_putI (pc := 2) (dq D_m_turn_0_ok 2 rfl) fp_m_54 rfl rfl (fun h1 => ?_)
  refine q_aload_n (pc := 5) (dq D_m_turn_0_ok 3 rfl) rfl 0 rfl ?_
  refine q_getnn (pc := 6) 18 (dq D_m_turn_0_ok 4 rfl) (dq D_m_turn_0_ok 5 rfl) rfl fa_m_348 rfl ?_ ?_
  · refine q_aload_n (pc := 18) (dq D_m_turn_0_ok 10 rfl) rfl 0 rfl ?_
    refine q_getR (pc := 19) (dq D_m_turn_0_ok 11 rfl) fa_m_17 rfl (fun x3 => ?_)
    refine q_ic5 (pc := 22) (dq D_m_turn_0_ok 12 rfl) ?_
    refine r_iald (pc := 23) (dq D_m_turn_0_ok 13 rfl) (fun x4 => ?_)
    refine q_ldcw (pc := 24) (v := 999999) (dq D_m_turn_0_ok 14 rfl) lk_m_520 ?_
    refine q_ic_ne (pc := 27) 36 (dq D_m_turn_0_ok 15 rfl) rfl ?_ ?_
    · refine q_aload_n (pc := 36) (dq D_m_turn_0_ok 20 rfl) rfl 0 rfl ?_
      refine r_invU (Mc := M_m_remembers) (pc := 37) (ci := 11) (rest := []) 0 0 [] (dq D_m_turn_0_ok 21 rfl) rfl rfl lc_m_remembers lv_m_remembers_ ml_m_521 rfl rfl rfl rfl (t_m_remembers v0 h1) (fun _ h5 => ?_)
      refine q_aload_n (pc := 40) (dq D_m_turn_0_ok 22 rfl) rfl 0 rfl ?_
      refine r_invU (Mc := M_m_works) (pc := 41) (ci := 11) (rest := []) 0 0 [] (dq D_m_turn_0_ok 23 rfl) rfl rfl lc_m_works lv_m_works_ ml_m_383 rfl rfl rfl rfl (t_m_works v0 h5) (fun _ h7 => ?_)
      refine q_aload_n (pc := 44) (dq D_m_turn_0_ok 24 rfl) rfl 0 rfl ?_
      refine q_aload_n (pc := 45) (dq D_m_turn_0_ok 25 rfl) rfl 0 rfl ?_
      refine r_invI (Mc := M_m_aTurn) (pc := 46) (ci := 11) (rest := [.ref v0]) 2 0 [] (dq D_m_turn_0_ok 26 rfl) rfl rfl lc_m_aTurn lv_m_aTurn_ ml_m_403 rfl rfl rfl rfl (t_m_aTurn v0 h7) (fun r10 h9 => ?_)
      refine r_invI (Mc := M_m_becomes) (pc := 49) (ci := 11) (rest := []) 1 1 [.int r10] (dq D_m_turn_0_ok 27 rfl) rfl rfl lc_m_becomes lv_m_becomes_ ml_m_524 rfl rfl rfl rfl (t_m_becomes v0 r10 h9) (fun r12 h11 => ?_)
      exact r_reti (pc := 52) (dq D_m_turn_0_ok 28 rfl) rfl
    · refine q_aload_n (pc := 30) (dq D_m_turn_0_ok 16 rfl) rfl 0 rfl ?_
      refine q_ic3 (pc := 31) (dq D_m_turn_0_ok 17 rfl) ?_
      refine r_invI (Mc := M_m_refused) (pc := 32) (ci := 11) (rest := []) 0 1 [.int 3] (dq D_m_turn_0_ok 18 rfl) rfl rfl lc_m_refused lv_m_refused_ ml_m_60 rfl rfl rfl rfl (t_m_refused v0 (3 : Int32) h1) (fun r14 h13 => ?_)
      exact r_reti (pc := 35) (dq D_m_turn_0_ok 19 rfl) rfl
  · refine q_aload_n (pc := 12) (dq D_m_turn_0_ok 6 rfl) rfl 0 rfl ?_
    refine q_ic1 (pc := 13) (dq D_m_turn_0_ok 7 rfl) ?_
    refine r_invI (Mc := M_m_refused) (pc := 14) (ci := 11) (rest := []) 0 1 [.int 1] (dq D_m_turn_0_ok 8 rfl) rfl rfl lc_m_refused lv_m_refused_ ml_m_60 rfl rfl rfl rfl (t_m_refused v0 (1 : Int32) h1) (fun r16 h15 => ?_)
    exact r_reti (pc := 17) (dq D_m_turn_0_ok 9 rfl) rfl
noncomputable def f_m_turnBack (v0 : Nat) (h : Hp) : Option (Int32 × Hp) := gd (hS h v0 = some (.inl 11)) (lt (uI h v0 0 0) fun h1 => gd (hS h1 v0 = some (.inl 11)) (if hR h1 v0 3 = none then (gd (hS h1 v0 = some (.inl 11)) (bd (f_m_refused v0 (1 : Int32) h1) fun r16 h15 => some (r16, h15))) else (gd (hS h1 v0 = some (.inl 11)) (bR (hR h1 v0 15) fun x3 => gd (ai h1 x3 0 5) (lt (hI h1 x3 (5 : Int32).toNatClampNeg) fun x4 => if x4 = 0 then (gd (hS h1 v0 = some (.inl 11)) (bd (f_m_refused v0 (5 : Int32) h1) fun r14 h13 => some (r14, h13))) else (gd (hS h1 v0 = some (.inl 11)) (bd (f_m_remembers v0 h1) fun _ h5 => gd (hS h5 v0 = some (.inl 11)) (bd (f_m_works v0 h5) fun _ h7 => gd (hS h7 v0 = some (.inl 11)) (bd (f_m_aTurnBack v0 h7) fun r10 h9 => gd (hS h9 v0 = some (.inl 11)) (bd (f_m_becomes v0 r10 h9) fun r12 h11 => some (r12, h11)))))))))))
set_option maxHeartbeats 4000000 in
set_option maxRecDepth 20000 in
theorem t_m_turnBack {G : GG} (v0 : Nat) (h : Hp) : Mt G M_m_turnBack 2 [.ref v0] cI h (f_m_turnBack v0 h) := by
  refine Mt.ofF (by decide +kernel) rfl (Rt.i rfl rfl) ?_
  show T G M_m_turnBack 2 cI 0 [(0, .ref v0)] [] h _
  unfold f_m_turnBack
  refine q_aload_n (pc := 0) (dq D_m_turnBack_0_ok 0 rfl) rfl 0 rfl ?_
  refine q_ic0 (pc := 1) (dq D_m_turnBack_0_ok 1 rfl) ?_
  refine r_putI (pc := 2) (dq D_m_turnBack_0_ok 2 rfl) fp_m_54 rfl rfl (fun h1 => ?_)
  refine q_aload_n (pc := 5) (dq D_m_turnBack_0_ok 3 rfl) rfl 0 rfl ?_
  refine q_getnn (pc := 6) 18 (dq D_m_turnBack_0_ok 4 rfl) (dq D_m_turnBack_0_ok 5 rfl) rfl fa_m_348 rfl ?_ ?_
  · refine q_aload_n (pc := 18) (dq D_m_turnBack_0_ok 10 rfl) rfl 0 rfl ?_
    refine q_getR (pc := 19) (dq D_m_turnBack_0_ok 11 rfl) fa_m_17 rfl (fun x3 => ?_)
    refine q_ic5 (pc := 22) (dq D_m_turnBack_0_ok 12 rfl) ?_
    refine r_iald (pc := 23) (dq D_m_turnBack_0_ok 13 rfl) (fun x4 => ?_)
    refine p_if_ne (pc := 24) 33 (dq D_m_turnBack_0_ok 14 rfl) rfl ?_ ?_
    · refine q_aload_n (pc := 33) (dq D_m_turnBack_0_ok 19 rfl) rfl 0 rfl ?_
      refine r_invU (Mc := M_m_remembers) (pc := 34) (ci := 11) (rest := []) 0 0 [] (dq D_m_turnBack_0_ok 20 rfl) rfl rfl lc_m_remembers lv_m_remembers_ ml_m_521 rfl rfl rfl rfl (t_m_remembers v0 h1) (fun _ h5 => ?_)
      refine q_aload_n (pc := 37) (dq D_m_turnBack_0_ok 21 rfl) rfl 0 rfl ?_
      refine r_invU (Mc := M_m_works) (pc := 38) (ci := 11) (rest := []) 0 0 [] (dq D_m_turnBack_0_ok 22 rfl) rfl rfl lc_m_works lv_m_works_ ml_m_383 rfl rfl rfl rfl (t_m_works v0 h5) (fun _ h7 => ?_)
      refine q_aload_n (pc := 41) (dq D_m_turnBack_0_ok 23 rfl) rfl 0 rfl ?_
      refine q_aload_n (pc := 42) (dq D_m_turnBack_0_ok 24 rfl) rfl 0 rfl ?_
      refine r_invI (Mc := M_m_aTurnBack) (pc := 43) (ci := 11) (rest := [.ref v0]) 1 0 [] (dq D_m_turnBack_0_ok 25 rfl) rfl rfl lc_m_aTurnBack lv_m_aTurnBack_ ml_m_467 rfl rfl rfl rfl (t_m_aTurnBack v0 h7) (fun r10 h9 => ?_)
      refine r_invI (Mc := M_m_becomes) (pc := 46) (ci := 11) (rest := []) 1 1 [.int r10] (dq D_m_turnBack_0_ok 26 rfl) rfl rfl lc_m_becomes lv_m_becomes_ ml_m_524 rfl rfl rfl rfl (t_m_becomes v0 r10 h9) (fun r12 h11 => ?_)
      exact r_reti (pc := 49) (dq D_m_turnBack_0_ok 27 rfl) rfl
    · refine q_aload_n (pc := 27) (dq D_m_turnBack_0_ok 15 rfl) rfl 0 rfl ?_
      refine q_ic5 (pc := 28) (dq D_m_turnBack_0_ok 16 rfl) ?_
      refine r_invI (Mc := M_m_refused) (pc := 29) (ci := 11) (rest := []) 0 1 [.int 5] (dq D_m_turnBack_0_ok 17 rfl) rfl rfl lc_m_refused lv_m_refused_ ml_m_60 rfl rfl rfl rfl (t_m_refused v0 (5 : Int32) h1) (fun r14 h13 => ?_)
      exact r_reti (pc := 32) (dq D_m_turnBack_0_ok 18 rfl) rfl
  · refine q_aload_n (pc := 12) (dq D_m_turnBack_0_ok 6 rfl) rfl 0 rfl ?_
    refine q_ic1 (pc := 13) (dq D_m_turnBack_0_ok 7 rfl) ?_
    refine r_invI (Mc := M_m_refused) (pc := 14) (ci := 11) (rest := []) 0 1 [.int 1] (dq D_m_turnBack_0_ok 8 rfl) rfl rfl lc_m_refused lv_m_refused_ ml_m_60 rfl rfl rfl rfl (t_m_refused v0 (1 : Int32) h1) (fun r16 h15 => ?_)
    exact r_reti (pc := 17) (dq D_m_turnBack_0_ok 9 rfl) rfl
noncomputable def b_m_oil_90 (v0 : Nat) (s0 : Int32) (s1 : Int32) (s2 : Nat) (h : Hp) : Option (Int32 × Hp) := gd (ai h s2 0 s1) (lt (uI h s2 s1.toNatClampNeg s0) fun h1 => gd (hS h1 v0 = some (.inl 11)) (bR (hR h1 v0 15) fun x2 => gd (ai h1 x2 0 6) (lt (hI h1 x2 (6 : Int32).toNatClampNeg) fun x3 => gd (hS h1 v0 = some (.inl 11)) (bd (f_m_good v0 x3 h1) fun r5 h4 => some (r5, h4)))))
set_option maxHeartbeats 4000000 in
set_option maxRecDepth 20000 in
theorem tb_m_oil_90 {G : GG} (v0 : Nat) (s0 : Int32) (s1 : Int32) (s2 : Nat) (h : Hp) : T G M_m_oil 1 cI 90 [(0, .ref v0)] [.int s0, .int s1, .ref s2] h (b_m_oil_90 v0 s0 s1 s2 h) := by
  unfold b_m_oil_90
  refine r_iast (pc := 90) (dq D_m_oil_0_ok 50 rfl) (fun h1 => ?_)
  refine q_aload_n (pc := 91) (dq D_m_oil_0_ok 51 rfl) rfl 0 rfl ?_
  refine q_aload_n (pc := 92) (dq D_m_oil_0_ok 52 rfl) rfl 0 rfl ?_
  refine q_getR (pc := 93) (dq D_m_oil_0_ok 53 rfl) fa_m_17 rfl (fun x2 => ?_)
  refine q_bipush (pc := 96) (v := 6) (dq D_m_oil_0_ok 54 rfl) (by decide) ?_
  refine r_iald (pc := 98) (dq D_m_oil_0_ok 55 rfl) (fun x3 => ?_)
  refine r_invI (Mc := M_m_good) (pc := 99) (ci := 11) (rest := []) 0 1 [.int x3] (dq D_m_oil_0_ok 56 rfl) rfl rfl lc_m_good lv_m_good_ ml_m_64 rfl rfl rfl rfl (t_m_good v0 x3 h1) (fun r5 h4 => ?_)
  exact r_reti (pc := 102) (dq D_m_oil_0_ok 57 rfl) rfl
noncomputable def f_m_oil (v0 : Nat) (v1 : Int32) (h : Hp) : Option (Int32 × Hp) := gd (hS h v0 = some (.inl 11)) (lt (uI h v0 0 0) fun h1 => gd (hS h1 v0 = some (.inl 11)) (if hR h1 v0 3 = none then (gd (hS h1 v0 = some (.inl 11)) (bd (f_m_refused v0 (1 : Int32) h1) fun r19 h18 => some (r19, h18))) else (bd (f_m_in v1 (1 : Int32) (99 : Int32) h1) fun r4 h3 => if r4 = 0 then (gd (hS h3 v0 = some (.inl 11)) (bd (f_m_refused v0 (2 : Int32) h3) fun r17 h16 => some (r17, h16))) else (gd (hS h3 v0 = some (.inl 11)) (bR (hR h3 v0 15) fun x5 => gd (ai h3 x5 0 6) (lt (hI h3 x5 (6 : Int32).toNatClampNeg) fun x6 => if x6 = 99 then (gd (hS h3 v0 = some (.inl 11)) (bd (f_m_refused v0 (5 : Int32) h3) fun r15 h14 => some (r15, h14))) else (gd (hS h3 v0 = some (.inl 11)) (bd (f_m_remembers v0 h3) fun _ h7 => gd (hS h7 v0 = some (.inl 11)) (bR (hR h7 v0 15) fun x9 => gd (hS h7 v0 = some (.inl 11)) (bR (hR h7 v0 15) fun x10 => gd (ai h7 x10 0 6) (lt (hI h7 x10 (6 : Int32).toNatClampNeg) fun x11 => if (x11 + v1) ≤ 99 then (gd (hS h7 v0 = some (.inl 11)) (bR (hR h7 v0 15) fun x12 => gd (ai h7 x12 0 6) (lt (hI h7 x12 (6 : Int32).toNatClampNeg) fun x13 => b_m_oil_90 v0 (x13 + v1) 6 x9 h7))) else (b_m_oil_90 v0 99 6 x9 h7))))))))))))
set_option maxHeartbeats 4000000 in
set_option maxRecDepth 20000 in
theorem t_m_oil {G : GG} (v0 : Nat) (v1 : Int32) (h : Hp) : Mt G M_m_oil 1 [.ref v0, .int v1] cI h (f_m_oil v0 v1 h) := by
  refine Mt.ofF (by decide +kernel) rfl (Rt.i rfl rfl) ?_
  show T G M_m_oil 1 cI 0 [(0, .ref v0), (1, .int v1)] [] h _
  unfold f_m_oil
  refine q_aload_n (pc := 0) (dq D_m_oil_0_ok 0 rfl) rfl 0 rfl ?_
  refine q_ic0 (pc := 1) (dq D_m_oil_0_ok 1 rfl) ?_
  refine r_putI (pc := 2) (dq D_m_oil_0_ok 2 rfl) fp_m_54 rfl rfl (fun h1 => ?_)
  refine q_aload_n (pc := 5) (dq D_m_oil_0_ok 3 rfl) rfl 0 rfl ?_
  refine q_getnn (pc := 6) 18 (dq D_m_oil_0_ok 4 rfl) (dq D_m_oil_0_ok 5 rfl) rfl fa_m_348 rfl ?_ ?_
  · refine q_iload_n (pc := 18) (dq D_m_oil_0_ok 10 rfl) rfl 1 rfl ?_
    refine q_ic1 (pc := 19) (dq D_m_oil_0_ok 11 rfl) ?_
    refine q_bipush (pc := 20) (v := 99) (dq D_m_oil_0_ok 12 rfl) (by decide) ?_
    refine r_insI (Mc := M_m_in) (pc := 22) (rest := []) 0 3 [.int v1, .int 1, .int 99] (dq D_m_oil_0_ok 13 rfl) lc_m_in ls_m_in ml_m_133 rfl rfl rfl rfl (t_m_in v1 (1 : Int32) (99 : Int32) h1) (fun r4 h3 => ?_)
    refine p_if_ne (pc := 25) 34 (dq D_m_oil_0_ok 14 rfl) rfl ?_ ?_
    · refine q_aload_n (pc := 34) (dq D_m_oil_0_ok 19 rfl) rfl 0 rfl ?_
      refine q_getR (pc := 35) (dq D_m_oil_0_ok 20 rfl) fa_m_17 rfl (fun x5 => ?_)
      refine q_bipush (pc := 38) (v := 6) (dq D_m_oil_0_ok 21 rfl) (by decide) ?_
      refine r_iald (pc := 40) (dq D_m_oil_0_ok 22 rfl) (fun x6 => ?_)
      refine q_bipush (pc := 41) (v := 99) (dq D_m_oil_0_ok 23 rfl) (by decide) ?_
      refine q_ic_ne (pc := 43) 52 (dq D_m_oil_0_ok 24 rfl) rfl ?_ ?_
      · refine q_aload_n (pc := 52) (dq D_m_oil_0_ok 29 rfl) rfl 0 rfl ?_
        refine r_invU (Mc := M_m_remembers) (pc := 53) (ci := 11) (rest := []) 0 0 [] (dq D_m_oil_0_ok 30 rfl) rfl rfl lc_m_remembers lv_m_remembers_ ml_m_521 rfl rfl rfl rfl (t_m_remembers v0 h3) (fun _ h7 => ?_)
        refine q_aload_n (pc := 56) (dq D_m_oil_0_ok 31 rfl) rfl 0 rfl ?_
        refine q_getR (pc := 57) (dq D_m_oil_0_ok 32 rfl) fa_m_17 rfl (fun x9 => ?_)
        refine q_bipush (pc := 60) (v := 6) (dq D_m_oil_0_ok 33 rfl) (by decide) ?_
        refine q_aload_n (pc := 62) (dq D_m_oil_0_ok 34 rfl) rfl 0 rfl ?_
        refine q_getR (pc := 63) (dq D_m_oil_0_ok 35 rfl) fa_m_17 rfl (fun x10 => ?_)
        refine q_bipush (pc := 66) (v := 6) (dq D_m_oil_0_ok 36 rfl) (by decide) ?_
        refine r_iald (pc := 68) (dq D_m_oil_0_ok 37 rfl) (fun x11 => ?_)
        refine q_iload_n (pc := 69) (dq D_m_oil_0_ok 38 rfl) rfl 1 rfl ?_
        refine q_iadd (pc := 70) (dq D_m_oil_0_ok 39 rfl) ?_
        refine q_bipush (pc := 71) (v := 99) (dq D_m_oil_0_ok 40 rfl) (by decide) ?_
        refine q_ic_le (pc := 73) 81 (dq D_m_oil_0_ok 41 rfl) rfl ?_ ?_
        · refine q_aload_n (pc := 81) (dq D_m_oil_0_ok 44 rfl) rfl 0 rfl ?_
          refine q_getR (pc := 82) (dq D_m_oil_0_ok 45 rfl) fa_m_17 rfl (fun x12 => ?_)
          refine q_bipush (pc := 85) (v := 6) (dq D_m_oil_0_ok 46 rfl) (by decide) ?_
          refine r_iald (pc := 87) (dq D_m_oil_0_ok 47 rfl) (fun x13 => ?_)
          refine q_iload_n (pc := 88) (dq D_m_oil_0_ok 48 rfl) rfl 1 rfl ?_
          refine q_iadd (pc := 89) (dq D_m_oil_0_ok 49 rfl) ?_
          exact T.lsub [0] rfl (tb_m_oil_90 v0 (x13 + v1) 6 x9 h7)
        · refine q_bipush (pc := 76) (v := 99) (dq D_m_oil_0_ok 42 rfl) (by decide) ?_
          refine q_goto (pc := 78) 90 (dq D_m_oil_0_ok 43 rfl) rfl ?_
          exact T.lsub [0] rfl (tb_m_oil_90 v0 99 6 x9 h7)
      · refine q_aload_n (pc := 46) (dq D_m_oil_0_ok 25 rfl) rfl 0 rfl ?_
        refine q_ic5 (pc := 47) (dq D_m_oil_0_ok 26 rfl) ?_
        refine r_invI (Mc := M_m_refused) (pc := 48) (ci := 11) (rest := []) 0 1 [.int 5] (dq D_m_oil_0_ok 27 rfl) rfl rfl lc_m_refused lv_m_refused_ ml_m_60 rfl rfl rfl rfl (t_m_refused v0 (5 : Int32) h3) (fun r15 h14 => ?_)
        exact r_reti (pc := 51) (dq D_m_oil_0_ok 28 rfl) rfl
    · refine q_aload_n (pc := 28) (dq D_m_oil_0_ok 15 rfl) rfl 0 rfl ?_
      refine q_ic2 (pc := 29) (dq D_m_oil_0_ok 16 rfl) ?_
      refine r_invI (Mc := M_m_refused) (pc := 30) (ci := 11) (rest := []) 0 1 [.int 2] (dq D_m_oil_0_ok 17 rfl) rfl rfl lc_m_refused lv_m_refused_ ml_m_60 rfl rfl rfl rfl (t_m_refused v0 (2 : Int32) h3) (fun r17 h16 => ?_)
      exact r_reti (pc := 33) (dq D_m_oil_0_ok 18 rfl) rfl
  · refine q_aload_n (pc := 12) (dq D_m_oil_0_ok 6 rfl) rfl 0 rfl ?_
    refine q_ic1 (pc := 13) (dq D_m_oil_0_ok 7 rfl) ?_
    refine r_invI (Mc := M_m_refused) (pc := 14) (ci := 11) (rest := []) 0 1 [.int 1] (dq D_m_oil_0_ok 8 rfl) rfl rfl lc_m_refused lv_m_refused_ ml_m_60 rfl rfl rfl rfl (t_m_refused v0 (1 : Int32) h1) (fun r19 h18 => ?_)
    exact r_reti (pc := 17) (dq D_m_oil_0_ok 9 rfl) rfl
noncomputable def b_m_set_50 (v0 : Nat) (h : Hp) : Option (Int32 × Hp) := gd (hS h v0 = some (.inl 11)) (bd (f_m_denied v0 (2 : Int32) h) fun r2 h1 => gd (zb r2) (some (r2, h1)))
set_option maxHeartbeats 4000000 in
set_option maxRecDepth 20000 in
theorem tb_m_set_50 {G : GG} (v0 : Nat) (h : Hp) : T G M_m_set 2 cI 50 [(0, .ref v0)] [] h (b_m_set_50 v0 h) := by
  unfold b_m_set_50
  refine q_aload_n (pc := 50) (dq D_m_set_0_ok 28 rfl) rfl 0 rfl ?_
  refine q_ic2 (pc := 51) (dq D_m_set_0_ok 29 rfl) ?_
  refine r_invI (Mc := M_m_denied) (pc := 52) (ci := 11) (rest := []) 1 1 [.int 2] (dq D_m_set_0_ok 30 rfl) rfl rfl lc_m_denied lv_m_denied_ ml_m_527 rfl rfl rfl rfl (t_m_denied v0 (2 : Int32) h) (fun r2 h1 => ?_)
  exact r_retz (pc := 55) (dq D_m_set_0_ok 31 rfl) rfl
noncomputable def f_m_set (v0 : Nat) (v1 : Int32) (v2 : Int32) (h : Hp) : Option (Int32 × Hp) := gd (hS h v0 = some (.inl 11)) (lt (uI h v0 0 0) fun h1 => gd (hS h1 v0 = some (.inl 11)) (bd (f_m_isWheel v0 v1 h1) fun r3 h2 => if r3 = 0 then (gd (hS h2 v0 = some (.inl 11)) (bd (f_m_denied v0 (1 : Int32) h2) fun r23 h22 => gd (zb r23) (some (r23, h22)))) else (gd (hS h2 v0 = some (.inl 11)) (bR (hR h2 v0 3) fun x4 => gd (hS h2 x4 = some (.inl 12)) (bR (hR h2 x4 11) fun x5 => gd (ai h2 x5 0 v1) (lt (hI h2 x5 v1.toNatClampNeg) fun x6 => bd (f_m_in v2 (0 : Int32) (x6 - 1) h2) fun r8 h7 => if r8 = 0 then (b_m_set_50 v0 h7) else (gd (hS h7 v0 = some (.inl 11)) (bR (hR h7 v0 3) fun x9 => gd (hS h7 x9 = some (.inl 12)) (bd (f_n_isGone x9 v1 v2 h7) fun r11 h10 => if r11 = 0 then (gd (hS h10 v0 = some (.inl 11)) (bR (hR h10 v0 15) fun x12 => gd (ai h10 x12 0 v1) (lt (hI h10 x12 v1.toNatClampNeg) fun x13 => if x13 = v2 then (gd (hS h10 v0 = some (.inl 11)) (bd (f_m_denied v0 (5 : Int32) h10) fun r21 h20 => gd (zb r21) (some (r21, h20)))) else (gd (hS h10 v0 = some (.inl 11)) (bd (f_m_remembers v0 h10) fun _ h14 => gd (hS h14 v0 = some (.inl 11)) (bR (hR h14 v0 15) fun x16 => gd (ai h14 x16 0 v1) (lt (uI h14 x16 v1.toNatClampNeg v2) fun h17 => gd (hS h17 v0 = some (.inl 11)) (bd (f_m_granted v0 h17) fun r19 h18 => gd (zb r19) (some (r19, h18)))))))))) else (b_m_set_50 v0 h10))))))))))
set_option maxHeartbeats 4000000 in
set_option maxRecDepth 20000 in
theorem t_m_set {G : GG} (v0 : Nat) (v1 : Int32) (v2 : Int32) (h : Hp) : Mt G M_m_set 2 [.ref v0, .int v1, .int v2] cI h (f_m_set v0 v1 v2 h) := by
  refine Mt.ofF (by decide +kernel) rfl (Rt.z rfl rfl) ?_
  show T G M_m_set 2 cI 0 [(0, .ref v0), (1, .int v1), (2, .int v2)] [] h _
  unfold f_m_set
  refine q_aload_n (pc := 0) (dq D_m_set_0_ok 0 rfl) rfl 0 rfl ?_
  refine q_ic0 (pc := 1) (dq D_m_set_0_ok 1 rfl) ?_
  refine r_putI (pc := 2) (dq D_m_set_0_ok 2 rfl) fp_m_54 rfl rfl (fun h1 => ?_)
  refine q_aload_n (pc := 5) (dq D_m_set_0_ok 3 rfl) rfl 0 rfl ?_
  refine q_iload_n (pc := 6) (dq D_m_set_0_ok 4 rfl) rfl 1 rfl ?_
  refine r_invI (Mc := M_m_isWheel) (pc := 7) (ci := 11) (rest := []) 0 1 [.int v1] (dq D_m_set_0_ok 5 rfl) rfl rfl lc_m_isWheel lv_m_isWheel_ ml_m_357 rfl rfl rfl rfl (t_m_isWheel v0 v1 h1) (fun r3 h2 => ?_)
  refine p_if_ne (pc := 10) 19 (dq D_m_set_0_ok 6 rfl) rfl ?_ ?_
  · refine q_iload_n (pc := 19) (dq D_m_set_0_ok 11 rfl) rfl 2 rfl ?_
    refine q_ic0 (pc := 20) (dq D_m_set_0_ok 12 rfl) ?_
    refine q_aload_n (pc := 21) (dq D_m_set_0_ok 13 rfl) rfl 0 rfl ?_
    refine q_getR (pc := 22) (dq D_m_set_0_ok 14 rfl) fa_m_348 rfl (fun x4 => ?_)
    refine q_getR (pc := 25) (dq D_m_set_0_ok 15 rfl) fa_m_269 rfl (fun x5 => ?_)
    refine q_iload_n (pc := 28) (dq D_m_set_0_ok 16 rfl) rfl 1 rfl ?_
    refine r_iald (pc := 29) (dq D_m_set_0_ok 17 rfl) (fun x6 => ?_)
    refine q_ic1 (pc := 30) (dq D_m_set_0_ok 18 rfl) ?_
    refine q_isub (pc := 31) (dq D_m_set_0_ok 19 rfl) ?_
    refine r_insI (Mc := M_m_in) (pc := 32) (rest := []) 0 3 [.int v2, .int 0, .int (x6 - 1)] (dq D_m_set_0_ok 20 rfl) lc_m_in ls_m_in ml_m_133 rfl rfl rfl rfl (t_m_in v2 (0 : Int32) (x6 - 1) h2) (fun r8 h7 => ?_)
    refine p_if_eq (pc := 35) 50 (dq D_m_set_0_ok 21 rfl) rfl ?_ ?_
    · exact T.lsub [0] rfl (tb_m_set_50 v0 h7)
    · refine q_aload_n (pc := 38) (dq D_m_set_0_ok 22 rfl) rfl 0 rfl ?_
      refine q_getR (pc := 39) (dq D_m_set_0_ok 23 rfl) fa_m_348 rfl (fun x9 => ?_)
      refine q_iload_n (pc := 42) (dq D_m_set_0_ok 24 rfl) rfl 1 rfl ?_
      refine q_iload_n (pc := 43) (dq D_m_set_0_ok 25 rfl) rfl 2 rfl ?_
      refine r_invI (Mc := M_n_isGone) (pc := 44) (ci := 12) (rest := []) 0 2 [.int v1, .int v2] (dq D_m_set_0_ok 26 rfl) rfl rfl lc_n_isGone lv_n_isGone_ ml_m_280 rfl rfl rfl rfl (t_n_isGone x9 v1 v2 h7) (fun r11 h10 => ?_)
      refine p_if_eq (pc := 47) 56 (dq D_m_set_0_ok 27 rfl) rfl ?_ ?_
      · refine q_aload_n (pc := 56) (dq D_m_set_0_ok 32 rfl) rfl 0 rfl ?_
        refine q_getR (pc := 57) (dq D_m_set_0_ok 33 rfl) fa_m_17 rfl (fun x12 => ?_)
        refine q_iload_n (pc := 60) (dq D_m_set_0_ok 34 rfl) rfl 1 rfl ?_
        refine r_iald (pc := 61) (dq D_m_set_0_ok 35 rfl) (fun x13 => ?_)
        refine q_iload_n (pc := 62) (dq D_m_set_0_ok 36 rfl) rfl 2 rfl ?_
        refine q_ic_ne (pc := 63) 72 (dq D_m_set_0_ok 37 rfl) rfl ?_ ?_
        · refine q_aload_n (pc := 72) (dq D_m_set_0_ok 42 rfl) rfl 0 rfl ?_
          refine r_invU (Mc := M_m_remembers) (pc := 73) (ci := 11) (rest := []) 0 0 [] (dq D_m_set_0_ok 43 rfl) rfl rfl lc_m_remembers lv_m_remembers_ ml_m_521 rfl rfl rfl rfl (t_m_remembers v0 h10) (fun _ h14 => ?_)
          refine q_aload_n (pc := 76) (dq D_m_set_0_ok 44 rfl) rfl 0 rfl ?_
          refine q_getR (pc := 77) (dq D_m_set_0_ok 45 rfl) fa_m_17 rfl (fun x16 => ?_)
          refine q_iload_n (pc := 80) (dq D_m_set_0_ok 46 rfl) rfl 1 rfl ?_
          refine q_iload_n (pc := 81) (dq D_m_set_0_ok 47 rfl) rfl 2 rfl ?_
          refine r_iast (pc := 82) (dq D_m_set_0_ok 48 rfl) (fun h17 => ?_)
          refine q_aload_n (pc := 83) (dq D_m_set_0_ok 49 rfl) rfl 0 rfl ?_
          refine r_invI (Mc := M_m_granted) (pc := 84) (ci := 11) (rest := []) 1 0 [] (dq D_m_set_0_ok 50 rfl) rfl rfl lc_m_granted lv_m_granted_ ml_m_530 rfl rfl rfl rfl (t_m_granted v0 h17) (fun r19 h18 => ?_)
          exact r_retz (pc := 87) (dq D_m_set_0_ok 51 rfl) rfl
        · refine q_aload_n (pc := 66) (dq D_m_set_0_ok 38 rfl) rfl 0 rfl ?_
          refine q_ic5 (pc := 67) (dq D_m_set_0_ok 39 rfl) ?_
          refine r_invI (Mc := M_m_denied) (pc := 68) (ci := 11) (rest := []) 1 1 [.int 5] (dq D_m_set_0_ok 40 rfl) rfl rfl lc_m_denied lv_m_denied_ ml_m_527 rfl rfl rfl rfl (t_m_denied v0 (5 : Int32) h10) (fun r21 h20 => ?_)
          exact r_retz (pc := 71) (dq D_m_set_0_ok 41 rfl) rfl
      · exact T.lsub [0] rfl (tb_m_set_50 v0 h10)
  · refine q_aload_n (pc := 13) (dq D_m_set_0_ok 7 rfl) rfl 0 rfl ?_
    refine q_ic1 (pc := 14) (dq D_m_set_0_ok 8 rfl) ?_
    refine r_invI (Mc := M_m_denied) (pc := 15) (ci := 11) (rest := []) 1 1 [.int 1] (dq D_m_set_0_ok 9 rfl) rfl rfl lc_m_denied lv_m_denied_ ml_m_527 rfl rfl rfl rfl (t_m_denied v0 (1 : Int32) h2) (fun r23 h22 => ?_)
    exact r_retz (pc := 18) (dq D_m_set_0_ok 10 rfl) rfl
noncomputable def b_m_undo_38 (k38 : (Nat × Int32) → Hp → Option (Int32 × Hp)) (v0 : Nat) (v1 : Int32) (h : Hp) : Option (Int32 × Hp) := if 8 ≤ v1 then (gd (hS h v0 = some (.inl 11)) (bd (f_m_granted v0 h) fun r2 h1 => gd (zb r2) (some (r2, h1)))) else (gd (hS h v0 = some (.inl 11)) (bR (hR h v0 15) fun x3 => gd (hS h v0 = some (.inl 11)) (bR (hR h v0 17) fun x4 => gd (hS h v0 = some (.inl 11)) (lt (hI h v0 19) fun x5 => gd (ai h x4 0 ((8 * x5) + v1)) (lt (hI h x4 ((8 * x5) + v1).toNatClampNeg) fun x6 => gd (ai h x3 0 v1) (lt (uI h x3 v1.toNatClampNeg x6) fun h7 => k38 (v0, v1 + 1) h7))))))
set_option maxHeartbeats 4000000 in
set_option maxRecDepth 20000 in
theorem tb_m_undo_38 {G : GG} {k38 : (Nat × Int32) → Hp → Option (Int32 × Hp)} (hk38 : ∀ s h, T G M_m_undo 2 cI 38 [(0, .ref s.1), (1, .int s.2)] [] h (k38 s h)) (v0 : Nat) (v1 : Int32) (h : Hp) : T G M_m_undo 2 cI 38 [(0, .ref v0), (1, .int v1)] [] h (b_m_undo_38 k38 v0 v1 h) := by
  unfold b_m_undo_38
  refine q_iload_n (pc := 38) (dq D_m_undo_0_ok 21 rfl) rfl 1 rfl ?_
  refine q_bipush (pc := 39) (v := 8) (dq D_m_undo_0_ok 22 rfl) (by decide) ?_
  refine q_ic_ge (pc := 41) 70 (dq D_m_undo_0_ok 23 rfl) rfl ?_ ?_
  · refine q_aload_n (pc := 70) (dq D_m_undo_0_ok 39 rfl) rfl 0 rfl ?_
    refine r_invI (Mc := M_m_granted) (pc := 71) (ci := 11) (rest := []) 1 0 [] (dq D_m_undo_0_ok 40 rfl) rfl rfl lc_m_granted lv_m_granted_ ml_m_530 rfl rfl rfl rfl (t_m_granted v0 h) (fun r2 h1 => ?_)
    exact r_retz (pc := 74) (dq D_m_undo_0_ok 41 rfl) rfl
  · refine q_aload_n (pc := 44) (dq D_m_undo_0_ok 24 rfl) rfl 0 rfl ?_
    refine q_getR (pc := 45) (dq D_m_undo_0_ok 25 rfl) fa_m_17 rfl (fun x3 => ?_)
    refine q_iload_n (pc := 48) (dq D_m_undo_0_ok 26 rfl) rfl 1 rfl ?_
    refine q_aload_n (pc := 49) (dq D_m_undo_0_ok 27 rfl) rfl 0 rfl ?_
    refine q_getR (pc := 50) (dq D_m_undo_0_ok 28 rfl) fa_m_24 rfl (fun x4 => ?_)
    refine q_bipush (pc := 53) (v := 8) (dq D_m_undo_0_ok 29 rfl) (by decide) ?_
    refine q_aload_n (pc := 55) (dq D_m_undo_0_ok 30 rfl) rfl 0 rfl ?_
    refine r_getI (pc := 56) (dq D_m_undo_0_ok 31 rfl) fa_m_351 rfl (fun x5 => ?_)
    refine q_imul (pc := 59) (dq D_m_undo_0_ok 32 rfl) ?_
    refine q_iload_n (pc := 60) (dq D_m_undo_0_ok 33 rfl) rfl 1 rfl ?_
    refine q_iadd (pc := 61) (dq D_m_undo_0_ok 34 rfl) ?_
    refine r_iald (pc := 62) (dq D_m_undo_0_ok 35 rfl) (fun x6 => ?_)
    refine r_iast (pc := 63) (dq D_m_undo_0_ok 36 rfl) (fun h7 => ?_)
    refine q_iinc (pc := 64) (v := (1)) (ls' := [(1, .int (v1 + 1)), (0, .ref v0)]) (dq D_m_undo_0_ok 37 rfl) 1 rfl (by decide) rfl rfl ?_
    refine q_goto (pc := 67) 38 (dq D_m_undo_0_ok 38 rfl) rfl ?_
    exact T.lsub [1, 0] rfl (hk38 (v0, v1 + 1) h7)
noncomputable def l_m_undo_38 : Nat → (Nat × Int32) → Hp → Option (Int32 × Hp) := lp (fun k38 s h => b_m_undo_38 k38 s.1 s.2 h)
set_option maxHeartbeats 4000000 in
set_option maxRecDepth 20000 in
theorem tl_m_undo_38 {G : GG} (n : Nat) (s : Nat × Int32) (h : Hp) : T G M_m_undo 2 cI 38 [(0, .ref s.1), (1, .int s.2)] [] h (l_m_undo_38 n s h) :=
  T.loop (lsOf := fun s => [(0, .ref s.1), (1, .int s.2)]) (fun k38 hk38 s h => tb_m_undo_38 hk38 s.1 s.2 h) n s h
noncomputable def b_m_undo_19 (v0 : Nat) (h : Hp) : Option (Int32 × Hp) := gd (hS h v0 = some (.inl 11)) (bd (f_m_denied v0 (6 : Int32) h) fun r2 h1 => gd (zb r2) (some (r2, h1)))
set_option maxHeartbeats 4000000 in
set_option maxRecDepth 20000 in
theorem tb_m_undo_19 {G : GG} (v0 : Nat) (h : Hp) : T G M_m_undo 2 cI 19 [(0, .ref v0)] [] h (b_m_undo_19 v0 h) := by
  unfold b_m_undo_19
  refine q_aload_n (pc := 19) (dq D_m_undo_0_ok 9 rfl) rfl 0 rfl ?_
  refine q_bipush (pc := 20) (v := 6) (dq D_m_undo_0_ok 10 rfl) (by decide) ?_
  refine r_invI (Mc := M_m_denied) (pc := 22) (ci := 11) (rest := []) 1 1 [.int 6] (dq D_m_undo_0_ok 11 rfl) rfl rfl lc_m_denied lv_m_denied_ ml_m_527 rfl rfl rfl rfl (t_m_denied v0 (6 : Int32) h) (fun r2 h1 => ?_)
  exact r_retz (pc := 25) (dq D_m_undo_0_ok 12 rfl) rfl
noncomputable def f_m_undo (v0 : Nat) (h : Hp) : Option (Int32 × Hp) := gd (hS h v0 = some (.inl 11)) (lt (uI h v0 0 0) fun h1 => gd (hS h1 v0 = some (.inl 11)) (if hR h1 v0 3 = none then (b_m_undo_19 v0 h1) else (gd (hS h1 v0 = some (.inl 11)) (lt (hI h1 v0 19) fun x3 => if x3 = 0 then (b_m_undo_19 v0 h1) else (gd (hS h1 v0 = some (.inl 11)) (lt (hI h1 v0 19) fun x4 => gd (hS h1 v0 = some (.inl 11)) (lt (uI h1 v0 19 (x4 - 1)) fun h5 => lt (0 : Int32) fun y6 => l_m_undo_38 FU (v0, y6) h5)))))))
set_option maxHeartbeats 4000000 in
set_option maxRecDepth 20000 in
theorem t_m_undo {G : GG} (v0 : Nat) (h : Hp) : Mt G M_m_undo 2 [.ref v0] cI h (f_m_undo v0 h) := by
  refine Mt.ofF (by decide +kernel) rfl (Rt.z rfl rfl) ?_
  show T G M_m_undo 2 cI 0 [(0, .ref v0)] [] h _
  unfold f_m_undo
  refine q_aload_n (pc := 0) (dq D_m_undo_0_ok 0 rfl) rfl 0 rfl ?_
  refine q_ic0 (pc := 1) (dq D_m_undo_0_ok 1 rfl) ?_
  refine r_putI (pc := 2) (dq D_m_undo_0_ok 2 rfl) fp_m_54 rfl rfl (fun h1 => ?_)
  refine q_aload_n (pc := 5) (dq D_m_undo_0_ok 3 rfl) rfl 0 rfl ?_
  refine q_getnu (pc := 6) 19 (dq D_m_undo_0_ok 4 rfl) (dq D_m_undo_0_ok 5 rfl) rfl fa_m_348 rfl ?_ ?_
  · exact T.lsub [0] rfl (tb_m_undo_19 v0 h1)
  · refine q_aload_n (pc := 12) (dq D_m_undo_0_ok 6 rfl) rfl 0 rfl ?_
    refine r_getI (pc := 13) (dq D_m_undo_0_ok 7 rfl) fa_m_351 rfl (fun x3 => ?_)
    refine p_if_ne (pc := 16) 26 (dq D_m_undo_0_ok 8 rfl) rfl ?_ ?_
    · refine q_aload_n (pc := 26) (dq D_m_undo_0_ok 13 rfl) rfl 0 rfl ?_
      refine q_dup (pc := 27) (dq D_m_undo_0_ok 14 rfl) rfl ?_
      refine r_getI (pc := 28) (dq D_m_undo_0_ok 15 rfl) fa_m_351 rfl (fun x4 => ?_)
      refine q_ic1 (pc := 31) (dq D_m_undo_0_ok 16 rfl) ?_
      refine q_isub (pc := 32) (dq D_m_undo_0_ok 17 rfl) ?_
      refine r_putI (pc := 33) (dq D_m_undo_0_ok 18 rfl) fp_m_351 rfl rfl (fun h5 => ?_)
      refine q_ic0 (pc := 36) (dq D_m_undo_0_ok 19 rfl) ?_
      refine r_nmI (fun y6 => ?_)
      refine q_istore_n (pc := 37) (ls' := [(1, .int y6), (0, .ref v0)]) (dq D_m_undo_0_ok 20 rfl) rfl rfl rfl ?_
      exact T.lsub [1, 0] rfl (tl_m_undo_38 FU (v0, y6) h5)
    · exact T.lsub [0] rfl (tb_m_undo_19 v0 h1)
noncomputable def b_m_image_34 (k34 : (Nat × Int32) → Hp → Option (Int32 × Hp)) (v0 : Nat) (v1 : Int32) (h : Hp) : Option (Int32 × Hp) := if 8 ≤ v1 then (gd (hS h v0 = some (.inl 11)) (lt (hI h v0 20) fun x1 => gd (hS h v0 = some (.inl 11)) (lt (uI h v0 20 (x1 + 1)) fun h2 => gd (hS h2 v0 = some (.inl 11)) (lt (hI h2 v0 20) fun x3 => gd (hS h2 v0 = some (.inl 11)) (bd (f_m_good v0 (x3 - 1) h2) fun r5 h4 => some (r5, h4)))))) else (gd (hS h v0 = some (.inl 11)) (bR (hR h v0 18) fun x6 => gd (hS h v0 = some (.inl 11)) (lt (hI h v0 20) fun x7 => gd (hS h v0 = some (.inl 11)) (bR (hR h v0 15) fun x8 => gd (ai h x8 0 v1) (lt (hI h x8 v1.toNatClampNeg) fun x9 => gd (ai h x6 0 ((8 * x7) + v1)) (lt (uI h x6 ((8 * x7) + v1).toNatClampNeg x9) fun h10 => k34 (v0, v1 + 1) h10))))))
set_option maxHeartbeats 4000000 in
set_option maxRecDepth 20000 in
theorem tb_m_image_34 {G : GG} {k34 : (Nat × Int32) → Hp → Option (Int32 × Hp)} (hk34 : ∀ s h, T G M_m_image 1 cI 34 [(0, .ref s.1), (1, .int s.2)] [] h (k34 s h)) (v0 : Nat) (v1 : Int32) (h : Hp) : T G M_m_image 1 cI 34 [(0, .ref v0), (1, .int v1)] [] h (b_m_image_34 k34 v0 v1 h) := by
  unfold b_m_image_34
  refine q_iload_n (pc := 34) (dq D_m_image_0_ok 20 rfl) rfl 1 rfl ?_
  refine q_bipush (pc := 35) (v := 8) (dq D_m_image_0_ok 21 rfl) (by decide) ?_
  refine q_ic_ge (pc := 37) 66 (dq D_m_image_0_ok 22 rfl) rfl ?_ ?_
  · refine q_aload_n (pc := 66) (dq D_m_image_0_ok 38 rfl) rfl 0 rfl ?_
    refine q_dup (pc := 67) (dq D_m_image_0_ok 39 rfl) rfl ?_
    refine r_getI (pc := 68) (dq D_m_image_0_ok 40 rfl) fa_m_354 rfl (fun x1 => ?_)
    refine q_ic1 (pc := 71) (dq D_m_image_0_ok 41 rfl) ?_
    refine q_iadd (pc := 72) (dq D_m_image_0_ok 42 rfl) ?_
    refine r_putI (pc := 73) (dq D_m_image_0_ok 43 rfl) fp_m_354 rfl rfl (fun h2 => ?_)
    refine q_aload_n (pc := 76) (dq D_m_image_0_ok 44 rfl) rfl 0 rfl ?_
    refine q_aload_n (pc := 77) (dq D_m_image_0_ok 45 rfl) rfl 0 rfl ?_
    refine r_getI (pc := 78) (dq D_m_image_0_ok 46 rfl) fa_m_354 rfl (fun x3 => ?_)
    refine q_ic1 (pc := 81) (dq D_m_image_0_ok 47 rfl) ?_
    refine q_isub (pc := 82) (dq D_m_image_0_ok 48 rfl) ?_
    refine r_invI (Mc := M_m_good) (pc := 83) (ci := 11) (rest := []) 0 1 [.int (x3 - 1)] (dq D_m_image_0_ok 49 rfl) rfl rfl lc_m_good lv_m_good_ ml_m_64 rfl rfl rfl rfl (t_m_good v0 (x3 - 1) h2) (fun r5 h4 => ?_)
    exact r_reti (pc := 86) (dq D_m_image_0_ok 50 rfl) rfl
  · refine q_aload_n (pc := 40) (dq D_m_image_0_ok 23 rfl) rfl 0 rfl ?_
    refine q_getR (pc := 41) (dq D_m_image_0_ok 24 rfl) fa_m_27 rfl (fun x6 => ?_)
    refine q_bipush (pc := 44) (v := 8) (dq D_m_image_0_ok 25 rfl) (by decide) ?_
    refine q_aload_n (pc := 46) (dq D_m_image_0_ok 26 rfl) rfl 0 rfl ?_
    refine r_getI (pc := 47) (dq D_m_image_0_ok 27 rfl) fa_m_354 rfl (fun x7 => ?_)
    refine q_imul (pc := 50) (dq D_m_image_0_ok 28 rfl) ?_
    refine q_iload_n (pc := 51) (dq D_m_image_0_ok 29 rfl) rfl 1 rfl ?_
    refine q_iadd (pc := 52) (dq D_m_image_0_ok 30 rfl) ?_
    refine q_aload_n (pc := 53) (dq D_m_image_0_ok 31 rfl) rfl 0 rfl ?_
    refine q_getR (pc := 54) (dq D_m_image_0_ok 32 rfl) fa_m_17 rfl (fun x8 => ?_)
    refine q_iload_n (pc := 57) (dq D_m_image_0_ok 33 rfl) rfl 1 rfl ?_
    refine r_iald (pc := 58) (dq D_m_image_0_ok 34 rfl) (fun x9 => ?_)
    refine r_iast (pc := 59) (dq D_m_image_0_ok 35 rfl) (fun h10 => ?_)
    refine q_iinc (pc := 60) (v := (1)) (ls' := [(1, .int (v1 + 1)), (0, .ref v0)]) (dq D_m_image_0_ok 36 rfl) 1 rfl (by decide) rfl rfl ?_
    refine q_goto (pc := 63) 34 (dq D_m_image_0_ok 37 rfl) rfl ?_
    exact T.lsub [1, 0] rfl (hk34 (v0, v1 + 1) h10)
noncomputable def l_m_image_34 : Nat → (Nat × Int32) → Hp → Option (Int32 × Hp) := lp (fun k34 s h => b_m_image_34 k34 s.1 s.2 h)
set_option maxHeartbeats 4000000 in
set_option maxRecDepth 20000 in
theorem tl_m_image_34 {G : GG} (n : Nat) (s : Nat × Int32) (h : Hp) : T G M_m_image 1 cI 34 [(0, .ref s.1), (1, .int s.2)] [] h (l_m_image_34 n s h) :=
  T.loop (lsOf := fun s => [(0, .ref s.1), (1, .int s.2)]) (fun k34 hk34 s h => tb_m_image_34 hk34 s.1 s.2 h) n s h
noncomputable def f_m_image (v0 : Nat) (h : Hp) : Option (Int32 × Hp) := gd (hS h v0 = some (.inl 11)) (lt (uI h v0 0 0) fun h1 => gd (hS h1 v0 = some (.inl 11)) (if hR h1 v0 3 = none then (gd (hS h1 v0 = some (.inl 11)) (bd (f_m_refused v0 (1 : Int32) h1) fun r8 h7 => some (r8, h7))) else (gd (hS h1 v0 = some (.inl 11)) (lt (hI h1 v0 20) fun x3 => if x3 = 3 then (gd (hS h1 v0 = some (.inl 11)) (bd (f_m_refused v0 (3 : Int32) h1) fun r6 h5 => some (r6, h5))) else (lt (0 : Int32) fun y4 => l_m_image_34 FU (v0, y4) h1)))))
set_option maxHeartbeats 4000000 in
set_option maxRecDepth 20000 in
theorem t_m_image {G : GG} (v0 : Nat) (h : Hp) : Mt G M_m_image 1 [.ref v0] cI h (f_m_image v0 h) := by
  refine Mt.ofF (by decide +kernel) rfl (Rt.i rfl rfl) ?_
  show T G M_m_image 1 cI 0 [(0, .ref v0)] [] h _
  unfold f_m_image
  refine q_aload_n (pc := 0) (dq D_m_image_0_ok 0 rfl) rfl 0 rfl ?_
  refine q_ic0 (pc := 1) (dq D_m_image_0_ok 1 rfl) ?_
  refine r_putI (pc := 2) (dq D_m_image_0_ok 2 rfl) fp_m_54 rfl rfl (fun h1 => ?_)
  refine q_aload_n (pc := 5) (dq D_m_image_0_ok 3 rfl) rfl 0 rfl ?_
  refine q_getnn (pc := 6) 18 (dq D_m_image_0_ok 4 rfl) (dq D_m_image_0_ok 5 rfl) rfl fa_m_348 rfl ?_ ?_
  · refine q_aload_n (pc := 18) (dq D_m_image_0_ok 10 rfl) rfl 0 rfl ?_
    refine r_getI (pc := 19) (dq D_m_image_0_ok 11 rfl) fa_m_354 rfl (fun x3 => ?_)
    refine q_ic3 (pc := 22) (dq D_m_image_0_ok 12 rfl) ?_
    refine q_ic_ne (pc := 23) 32 (dq D_m_image_0_ok 13 rfl) rfl ?_ ?_
    · refine q_ic0 (pc := 32) (dq D_m_image_0_ok 18 rfl) ?_
      refine r_nmI (fun y4 => ?_)
      refine q_istore_n (pc := 33) (ls' := [(1, .int y4), (0, .ref v0)]) (dq D_m_image_0_ok 19 rfl) rfl rfl rfl ?_
      exact T.lsub [1, 0] rfl (tl_m_image_34 FU (v0, y4) h1)
    · refine q_aload_n (pc := 26) (dq D_m_image_0_ok 14 rfl) rfl 0 rfl ?_
      refine q_ic3 (pc := 27) (dq D_m_image_0_ok 15 rfl) ?_
      refine r_invI (Mc := M_m_refused) (pc := 28) (ci := 11) (rest := []) 0 1 [.int 3] (dq D_m_image_0_ok 16 rfl) rfl rfl lc_m_refused lv_m_refused_ ml_m_60 rfl rfl rfl rfl (t_m_refused v0 (3 : Int32) h1) (fun r6 h5 => ?_)
      exact r_reti (pc := 31) (dq D_m_image_0_ok 17 rfl) rfl
  · refine q_aload_n (pc := 12) (dq D_m_image_0_ok 6 rfl) rfl 0 rfl ?_
    refine q_ic1 (pc := 13) (dq D_m_image_0_ok 7 rfl) ?_
    refine r_invI (Mc := M_m_refused) (pc := 14) (ci := 11) (rest := []) 0 1 [.int 1] (dq D_m_image_0_ok 8 rfl) rfl rfl lc_m_refused lv_m_refused_ ml_m_60 rfl rfl rfl rfl (t_m_refused v0 (1 : Int32) h1) (fun r8 h7 => ?_)
    exact r_reti (pc := 17) (dq D_m_image_0_ok 9 rfl) rfl
