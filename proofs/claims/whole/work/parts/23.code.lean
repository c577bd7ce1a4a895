noncomputable def f_W_landing (v0 : Nat) (v1 : Int32) (v2 : Int32) (v3 : Int32) (h : Hp) : Option (Int32 × Hp) := lt (v1 + (v3 * v2) : Int32) fun y1 => if 0 ≤ y1 then (gd (hS h v0 = some (.inl 3)) (lt (hI h v0 1) fun x2 => if y1 < x2 then (some (y1, h)) else (gd (hS h v0 = some (.inl 3)) (lt (hI h v0 1) fun x3 => some (y1 - x3, h))))) else (gd (hS h v0 = some (.inl 3)) (lt (hI h v0 1) fun x4 => some (y1 + x4, h)))
set_option maxHeartbeats 4000000 in
set_option maxRecDepth 20000 in
theorem t_W_landing {G : GG} (v0 : Nat) (v1 : Int32) (v2 : Int32) (v3 : Int32) (h : Hp) : Mt G M_W_landing 0 [.ref v0, .int v1, .int v2, .int v3] cI h (f_W_landing v0 v1 v2 v3 h) := by
  refine Mt.ofF (by decide +kernel) rfl (Rt.i rfl rfl) ?_
  show T G M_W_landing 0 cI 0 [(0, .ref v0), (1, .int v1), (2, .int v2), (3, .int v3)] [] h _
  unfold f_W_landing
  refine q_iload_n (pc := 0) (dq D_W_landing_0_ok 0 rfl) rfl 1 rfl ?_
  refine q_iload_n (pc := 1) (dq D_W_landing_0_ok 1 rfl) rfl 3 rfl ?_
  refine q_iload_n (pc := 2) (dq D_W_landing_0_ok 2 rfl) rfl 2 rfl ?_
  refine q_imul (pc := 3) (dq D_W_landing_0_ok 3 rfl) ?_
  refine q_iadd (pc := 4) (dq D_W_landing_0_ok 4 rfl) ?_
  refine r_nmI (fun y1 => ?_)
  refine q_istore (pc := 5) (ls' := [(4, .int y1), (0, .ref v0), (1, .int v1), (2, .int v2), (3, .int v3)]) (dq D_W_landing_0_ok 5 rfl) rfl rfl ?_
  refine q_iload (pc := 7) (dq D_W_landing_0_ok 6 rfl) 0 rfl ?_
  refine p_if_ge (pc := 9) 20 (dq D_W_landing_0_ok 7 rfl) rfl ?_ ?_
  · refine q_iload (pc := 20) (dq D_W_landing_0_ok 13 rfl) 0 rfl ?_
    refine q_aload_n (pc := 22) (dq D_W_landing_0_ok 14 rfl) rfl 1 rfl ?_
    refine r_getI (pc := 23) (dq D_W_landing_0_ok 15 rfl) fa_W_15 rfl (fun x2 => ?_)
    refine q_ic_lt (pc := 26) 39 (dq D_W_landing_0_ok 16 rfl) rfl ?_ ?_
    · refine q_iload (pc := 39) (dq D_W_landing_0_ok 22 rfl) 0 rfl ?_
      exact r_reti (pc := 41) (dq D_W_landing_0_ok 23 rfl) rfl
    · refine q_iload (pc := 29) (dq D_W_landing_0_ok 17 rfl) 0 rfl ?_
      refine q_aload_n (pc := 31) (dq D_W_landing_0_ok 18 rfl) rfl 1 rfl ?_
      refine r_getI (pc := 32) (dq D_W_landing_0_ok 19 rfl) fa_W_15 rfl (fun x3 => ?_)
      refine q_isub (pc := 35) (dq D_W_landing_0_ok 20 rfl) ?_
      refine q_goto (pc := 36) 41 (dq D_W_landing_0_ok 21 rfl) rfl ?_
      exact r_reti (pc := 41) (dq D_W_landing_0_ok 23 rfl) rfl
  · refine q_iload (pc := 12) (dq D_W_landing_0_ok 8 rfl) 0 rfl ?_
    refine q_aload_n (pc := 14) (dq D_W_landing_0_ok 9 rfl) rfl 1 rfl ?_
    refine r_getI (pc := 15) (dq D_W_landing_0_ok 10 rfl) fa_W_15 rfl (fun x4 => ?_)
    refine q_iadd (pc := 18) (dq D_W_landing_0_ok 11 rfl) ?_
    exact r_reti (pc := 19) (dq D_W_landing_0_ok 12 rfl) rfl
noncomputable def b_W_resting_52 (k5 : (Nat × Int32 × Int32 × Int32) → Hp → Option (Int32 × Hp)) (v0 : Nat) (v2 : Int32) (v3 : Int32) (v4 : Int32) (h : Hp) : Option (Int32 × Hp) := k5 (v0, v2, v3, v4 + 1) h
set_option maxHeartbeats 4000000 in
set_option maxRecDepth 20000 in
theorem tb_W_resting_52 {G : GG} {k5 : (Nat × Int32 × Int32 × Int32) → Hp → Option (Int32 × Hp)} (hk5 : ∀ s h, T G M_W_resting 0 cI 5 [(0, .ref s.1), (2, .int s.2.1), (3, .int s.2.2.1), (4, .int s.2.2.2)] [] h (k5 s h)) (v0 : Nat) (v2 : Int32) (v3 : Int32) (v4 : Int32) (h : Hp) : T G M_W_resting 0 cI 52 [(0, .ref v0), (2, .int v2), (3, .int v3), (4, .int v4)] [] h (b_W_resting_52 k5 v0 v2 v3 v4 h) := by
  unfold b_W_resting_52
  refine q_iinc (pc := 52) (v := (1)) (ls' := [(4, .int (v4 + 1)), (0, .ref v0), (2, .int v2), (3, .int v3)]) (dq D_W_resting_0_ok 34 rfl) 3 rfl (by decide) rfl rfl ?_
  refine q_goto (pc := 55) 5 (dq D_W_resting_0_ok 35 rfl) rfl ?_
  exact T.lsub [1, 2, 3, 0] rfl (hk5 (v0, v2, v3, v4 + 1) h)
noncomputable def b_W_resting_5 (k5 : (Nat × Int32 × Int32 × Int32) → Hp → Option (Int32 × Hp)) (v0 : Nat) (v2 : Int32) (v3 : Int32) (v4 : Int32) (h : Hp) : Option (Int32 × Hp) := if 2 ≤ v4 then (some (v3, h)) else (gd (hS h v0 = some (.inl 3)) (lt (hL h v0 5) fun x1 => if (lg_cmp ((x1 >>> (v3.toInt64 &&& 63)) &&& 1) 1) = 0 then (lt (v3 + v2 : Int32) fun y2 => if 0 ≤ y2 then (gd (hS h v0 = some (.inl 3)) (lt (hI h v0 1) fun x3 => if y2 < x3 then (b_W_resting_52 k5 v0 v2 y2 v4 h) else (lt (0 : Int32) fun y4 => b_W_resting_52 k5 v0 v2 y4 v4 h))) else (gd (hS h v0 = some (.inl 3)) (lt (hI h v0 1) fun x5 => lt (x5 - 1 : Int32) fun y6 => b_W_resting_52 k5 v0 v2 y6 v4 h))) else (some (v3, h))))
set_option maxHeartbeats 4000000 in
set_option maxRecDepth 20000 in
theorem tb_W_resting_5 {G : GG} {k5 : (Nat × Int32 × Int32 × Int32) → Hp → Option (Int32 × Hp)} (hk5 : ∀ s h, T G M_W_resting 0 cI 5 [(0, .ref s.1), (2, .int s.2.1), (3, .int s.2.2.1), (4, .int s.2.2.2)] [] h (k5 s h)) (v0 : Nat) (v2 : Int32) (v3 : Int32) (v4 : Int32) (h : Hp) : T G M_W_resting 0 cI 5 [(0, .ref v0), (2, .int v2), (3, .int v3), (4, .int v4)] [] h (b_W_resting_5 k5 v0 v2 v3 v4 h) := by
  unfold b_W_resting_5
  refine q_iload (pc := 5) (dq D_W_resting_0_ok 4 rfl) 3 rfl ?_
  refine q_ic2 (pc := 7) (dq D_W_resting_0_ok 5 rfl) ?_
  refine q_ic_ge (pc := 8) 58 (dq D_W_resting_0_ok 6 rfl) rfl ?_ ?_
  · refine q_iload_n (pc := 58) (dq D_W_resting_0_ok 36 rfl) rfl 2 rfl ?_
    exact r_reti (pc := 59) (dq D_W_resting_0_ok 37 rfl) rfl
  · refine q_aload_n (pc := 11) (dq D_W_resting_0_ok 7 rfl) rfl 0 rfl ?_
    refine r_getL (pc := 12) (dq D_W_resting_0_ok 8 rfl) fa_W_27 rfl (fun x1 => ?_)
    refine q_iload_n (pc := 15) (dq D_W_resting_0_ok 9 rfl) rfl 2 rfl ?_
    refine q_lshr (pc := 16) (dq D_W_resting_0_ok 10 rfl) ?_
    refine q_lconst (pc := 17) (v := 1) (dq D_W_resting_0_ok 11 rfl) (by decide) ?_
    refine q_land (pc := 18) (dq D_W_resting_0_ok 12 rfl) ?_
    refine q_lconst (pc := 19) (v := 1) (dq D_W_resting_0_ok 13 rfl) (by decide) ?_
    refine q_lcmp (pc := 20) (dq D_W_resting_0_ok 14 rfl) ?_
    refine p_if_ne (pc := 21) 58 (dq D_W_resting_0_ok 15 rfl) rfl ?_ ?_
    · refine q_iload_n (pc := 58) (dq D_W_resting_0_ok 36 rfl) rfl 2 rfl ?_
      exact r_reti (pc := 59) (dq D_W_resting_0_ok 37 rfl) rfl
    · refine q_iload_n (pc := 24) (dq D_W_resting_0_ok 16 rfl) rfl 2 rfl ?_
      refine q_iload_n (pc := 25) (dq D_W_resting_0_ok 17 rfl) rfl 1 rfl ?_
      refine q_iadd (pc := 26) (dq D_W_resting_0_ok 18 rfl) ?_
      refine r_nmI (fun y2 => ?_)
      refine q_istore_n (pc := 27) (ls' := [(3, .int y2), (0, .ref v0), (2, .int v2), (4, .int v4)]) (dq D_W_resting_0_ok 19 rfl) rfl rfl rfl ?_
      refine q_iload_n (pc := 28) (dq D_W_resting_0_ok 20 rfl) rfl 0 rfl ?_
      refine p_if_ge (pc := 29) 42 (dq D_W_resting_0_ok 21 rfl) rfl ?_ ?_
      · refine q_iload_n (pc := 42) (dq D_W_resting_0_ok 28 rfl) rfl 0 rfl ?_
        refine q_aload_n (pc := 43) (dq D_W_resting_0_ok 29 rfl) rfl 1 rfl ?_
        refine r_getI (pc := 44) (dq D_W_resting_0_ok 30 rfl) fa_W_15 rfl (fun x3 => ?_)
        refine q_ic_lt (pc := 47) 52 (dq D_W_resting_0_ok 31 rfl) rfl ?_ ?_
        · exact T.lsub [1, 2, 0, 3] rfl (tb_W_resting_52 hk5 v0 v2 y2 v4 h)
        · refine q_ic0 (pc := 50) (dq D_W_resting_0_ok 32 rfl) ?_
          refine r_nmI (fun y4 => ?_)
          refine q_istore_n (pc := 51) (ls' := [(3, .int y4), (0, .ref v0), (2, .int v2), (4, .int v4)]) (dq D_W_resting_0_ok 33 rfl) rfl rfl rfl ?_
          exact T.lsub [1, 2, 0, 3] rfl (tb_W_resting_52 hk5 v0 v2 y4 v4 h)
      · refine q_aload_n (pc := 32) (dq D_W_resting_0_ok 22 rfl) rfl 1 rfl ?_
        refine r_getI (pc := 33) (dq D_W_resting_0_ok 23 rfl) fa_W_15 rfl (fun x5 => ?_)
        refine q_ic1 (pc := 36) (dq D_W_resting_0_ok 24 rfl) ?_
        refine q_isub (pc := 37) (dq D_W_resting_0_ok 25 rfl) ?_
        refine r_nmI (fun y6 => ?_)
        refine q_istore_n (pc := 38) (ls' := [(3, .int y6), (0, .ref v0), (2, .int v2), (4, .int v4)]) (dq D_W_resting_0_ok 26 rfl) rfl rfl rfl ?_
        refine q_goto (pc := 39) 52 (dq D_W_resting_0_ok 27 rfl) rfl ?_
        exact T.lsub [1, 2, 0, 3] rfl (tb_W_resting_52 hk5 v0 v2 y6 v4 h)
noncomputable def l_W_resting_5 : Nat → (Nat × Int32 × Int32 × Int32) → Hp → Option (Int32 × Hp) := lp (fun k5 s h => b_W_resting_5 k5 s.1 s.2.1 s.2.2.1 s.2.2.2 h)
set_option maxHeartbeats 4000000 in
set_option maxRecDepth 20000 in
theorem tl_W_resting_5 {G : GG} (n : Nat) (s : Nat × Int32 × Int32 × Int32) (h : Hp) : T G M_W_resting 0 cI 5 [(0, .ref s.1), (2, .int s.2.1), (3, .int s.2.2.1), (4, .int s.2.2.2)] [] h (l_W_resting_5 n s h) :=
  T.loop (lsOf := fun s => [(0, .ref s.1), (2, .int s.2.1), (3, .int s.2.2.1), (4, .int s.2.2.2)]) (fun k5 hk5 s h => tb_W_resting_5 hk5 s.1 s.2.1 s.2.2.1 s.2.2.2 h) n s h
noncomputable def f_W_resting (v0 : Nat) (v1 : Int32) (v2 : Int32) (h : Hp) : Option (Int32 × Hp) := lt (0 : Int32) fun y1 => l_W_resting_5 FU (v0, v2, v1, y1) h
set_option maxHeartbeats 4000000 in
set_option maxRecDepth 20000 in
theorem t_W_resting {G : GG} (v0 : Nat) (v1 : Int32) (v2 : Int32) (h : Hp) : Mt G M_W_resting 0 [.ref v0, .int v1, .int v2] cI h (f_W_resting v0 v1 v2 h) := by
  refine Mt.ofF (by decide +kernel) rfl (Rt.i rfl rfl) ?_
  show T G M_W_resting 0 cI 0 [(0, .ref v0), (1, .int v1), (2, .int v2)] [] h _
  unfold f_W_resting
  refine q_iload_n (pc := 0) (dq D_W_resting_0_ok 0 rfl) rfl 1 rfl ?_
  refine q_istore_n (pc := 1) (ls' := [(3, .int v1), (0, .ref v0), (1, .int v1), (2, .int v2)]) (dq D_W_resting_0_ok 1 rfl) rfl rfl rfl ?_
  refine q_ic0 (pc := 2) (dq D_W_resting_0_ok 2 rfl) ?_
  refine r_nmI (fun y1 => ?_)
  refine q_istore (pc := 3) (ls' := [(4, .int y1), (3, .int v1), (0, .ref v0), (1, .int v1), (2, .int v2)]) (dq D_W_resting_0_ok 3 rfl) rfl rfl ?_
  exact T.lsub [2, 4, 1, 0] rfl (tl_W_resting_5 FU (v0, v2, v1, y1) h)
noncomputable def f_Math_max (v0 : Int32) (v1 : Int32) (h : Hp) : Option (Int32 × Hp) := if v0 < v1 then (some (v1, h)) else (some (v0, h))
set_option maxHeartbeats 4000000 in
set_option maxRecDepth 20000 in
theorem t_Math_max {G : GG} (v0 : Int32) (v1 : Int32) (h : Hp) : Mt G M_Math_max 0 [.int v0, .int v1] cI h (f_Math_max v0 v1 h) := by
  refine Mt.ofF (by decide +kernel) rfl (Rt.i rfl rfl) ?_
  show T G M_Math_max 0 cI 0 [(0, .int v0), (1, .int v1)] [] h _
  unfold f_Math_max
  refine q_iload_n (pc := 0) (dq D_Math_max_0_ok 0 rfl) rfl 0 rfl ?_
  refine q_iload_n (pc := 1) (dq D_Math_max_0_ok 1 rfl) rfl 1 rfl ?_
  refine q_ic_lt (pc := 2) 9 (dq D_Math_max_0_ok 2 rfl) rfl ?_ ?_
  · refine q_iload_n (pc := 9) (dq D_Math_max_0_ok 5 rfl) rfl 1 rfl ?_
    exact r_reti (pc := 10) (dq D_Math_max_0_ok 6 rfl) rfl
  · refine q_iload_n (pc := 5) (dq D_Math_max_0_ok 3 rfl) rfl 0 rfl ?_
    refine q_goto (pc := 6) 10 (dq D_Math_max_0_ok 4 rfl) rfl ?_
    exact r_reti (pc := 10) (dq D_Math_max_0_ok 6 rfl) rfl
noncomputable def b_U_follow_157 (v0 : Nat) (v5 : Int32) (h : Hp) : Option (Unit × Hp) := gd (hS h v0 = some (.inl 6)) (bR (hR h v0 1) fun x1 => gd (ai h x1 0 v5) (lt (hI h x1 v5.toNatClampNeg) fun x2 => bd (f_Math_max (0 : Int32) x2 h) fun r4 h3 => gd (hS h3 v0 = some (.inl 6)) (lt (uI h3 v0 4 r4) fun h5 => some ((), h5))))
set_option maxHeartbeats 4000000 in
set_option maxRecDepth 20000 in
theorem tb_U_follow_157 {G : GG} (v0 : Nat) (v5 : Int32) (h : Hp) : T G M_U_follow 1 cU 157 [(0, .ref v0), (5, .int v5)] [] h (b_U_follow_157 v0 v5 h) := by
  unfold b_U_follow_157
  refine q_aload_n (pc := 157) (dq D_U_follow_1_ok 25 rfl) rfl 0 rfl ?_
  refine q_ic0 (pc := 158) (dq D_U_follow_1_ok 26 rfl) ?_
  refine q_aload_n (pc := 159) (dq D_U_follow_1_ok 27 rfl) rfl 0 rfl ?_
  refine q_getR (pc := 160) (dq D_U_follow_1_ok 28 rfl) fa_U_15 rfl (fun x1 => ?_)
  refine q_iload (pc := 163) (dq D_U_follow_1_ok 29 rfl) 1 rfl ?_
  refine r_iald (pc := 165) (dq D_U_follow_1_ok 30 rfl) (fun x2 => ?_)
  refine r_insI (Mc := M_Math_max) (pc := 166) (rest := [.ref v0]) 0 2 [.int 0, .int x2] (dq D_U_follow_1_ok 31 rfl) lc_Math_max ls_Math_max ml_U_62 rfl rfl rfl rfl (t_Math_max (0 : Int32) x2 h) (fun r4 h3 => ?_)
  refine r_putI (pc := 169) (dq D_U_follow_1_ok 32 rfl) fp_U_67 rfl rfl (fun h5 => ?_)
  exact r_retu (pc := 172) (dq D_U_follow_1_ok 33 rfl) rfl
noncomputable def b_U_follow_129 (k48 : (Nat × Nat × Int32 × Int32) → Hp → Option (Unit × Hp)) (v0 : Nat) (v1 : Nat) (v6 : Int32) (v7 : Int32) (s0 : Int32) (s1 : Int32) (s2 : Int32) (s3 : Nat) (h : Hp) : Option (Unit × Hp) := gd (ai h s3 0 s2) (lt (uI h s3 s2.toNatClampNeg (s1 + s0)) fun h1 => gd (hS h1 v1 = some (.inl 3)) (bd (f_W_way v1 h1) fun r3 h2 => gd (hS h2 v1 = some (.inl 3)) (bd (f_W_resting v1 v7 r3 h2) fun r5 h4 => gd (hS h4 v0 = some (.inl 6)) (lt (uI h4 v0 3 (v6 + 1)) fun h6 => k48 (v0, v1, r5, v6 + 1) h6))))
set_option maxHeartbeats 4000000 in
set_option maxRecDepth 20000 in
theorem tb_U_follow_129 {G : GG} {k48 : (Nat × Nat × Int32 × Int32) → Hp → Option (Unit × Hp)} (hk48 : ∀ s h, T G M_U_follow 1 cU 48 [(0, .ref s.1), (1, .ref s.2.1), (5, .int s.2.2.1), (6, .int s.2.2.2)] [] h (k48 s h)) (v0 : Nat) (v1 : Nat) (v6 : Int32) (v7 : Int32) (s0 : Int32) (s1 : Int32) (s2 : Int32) (s3 : Nat) (h : Hp) : T G M_U_follow 1 cU 129 [(0, .ref v0), (1, .ref v1), (6, .int v6), (7, .int v7)] [.int s0, .int s1, .int s2, .ref s3] h (b_U_follow_129 k48 v0 v1 v6 v7 s0 s1 s2 s3 h) := by
  unfold b_U_follow_129
  refine q_iadd (pc := 129) (dq D_U_follow_1_ok 10 rfl) ?_
  refine r_iast (pc := 130) (dq D_U_follow_1_ok 11 rfl) (fun h1 => ?_)
  refine q_aload_n (pc := 131) (dq D_U_follow_1_ok 12 rfl) rfl 1 rfl ?_
  refine q_iload (pc := 132) (dq D_U_follow_1_ok 13 rfl) 3 rfl ?_
  refine q_aload_n (pc := 134) (dq D_U_follow_1_ok 14 rfl) rfl 1 rfl ?_
  refine r_invI (Mc := M_W_way) (pc := 135) (ci := 3) (rest := [.int v7, .ref v1]) 0 0 [] (dq D_U_follow_1_ok 15 rfl) rfl rfl lc_W_way lv_W_way_ ml_U_46 rfl rfl rfl rfl (t_W_way v1 h1) (fun r3 h2 => ?_)
  refine r_invI (Mc := M_W_resting) (pc := 138) (ci := 3) (rest := []) 0 2 [.int v7, .int r3] (dq D_U_follow_1_ok 16 rfl) rfl rfl lc_W_resting lv_W_resting_ ml_U_58 rfl rfl rfl rfl (t_W_resting v1 v7 r3 h2) (fun r5 h4 => ?_)
  refine q_istore (pc := 141) (ls' := [(5, .int r5), (0, .ref v0), (1, .ref v1), (6, .int v6), (7, .int v7)]) (dq D_U_follow_1_ok 17 rfl) rfl rfl ?_
  refine q_aload_n (pc := 143) (dq D_U_follow_1_ok 18 rfl) rfl 1 rfl ?_
  refine q_iload (pc := 144) (dq D_U_follow_1_ok 19 rfl) 3 rfl ?_
  refine q_ic1 (pc := 146) (dq D_U_follow_1_ok 20 rfl) ?_
  refine q_iadd (pc := 147) (dq D_U_follow_1_ok 21 rfl) ?_
  refine r_putI (pc := 148) (dq D_U_follow_1_ok 22 rfl) fp_U_40 rfl rfl (fun h6 => ?_)
  refine q_iinc (pc := 151) (v := (1)) (ls' := [(6, .int (v6 + 1)), (5, .int r5), (0, .ref v0), (1, .ref v1), (7, .int v7)]) (dq D_U_follow_1_ok 23 rfl) 3 rfl (by decide) rfl rfl ?_
  refine q_goto (pc := 154) 48 (dq D_U_follow_1_ok 24 rfl) rfl ?_
  exact T.lsub [2, 3, 1, 0] rfl (hk48 (v0, v1, r5, v6 + 1) h6)
noncomputable def b_U_follow_48 (k48 : (Nat × Nat × Int32 × Int32) → Hp → Option (Unit × Hp)) (v0 : Nat) (v1 : Nat) (v5 : Int32) (v6 : Int32) (h : Hp) : Option (Unit × Hp) := if 60 ≤ v6 then (b_U_follow_157 v0 v5 h) else (gd (hS h v0 = some (.inl 6)) (bR (hR h v0 1) fun x1 => gd (ai h x1 0 v5) (lt (hI h x1 v5.toNatClampNeg) fun x2 => if x2 = ((-1)) then (gd (hS h v0 = some (.inl 6)) (bR (hR h v0 1) fun x3 => gd (ai h x3 0 v5) (lt (uI h x3 v5.toNatClampNeg v6) fun h4 => gd (hS h4 v0 = some (.inl 6)) (bR (hR h4 v0 0) fun x5 => gd (ai h4 x5 0 v6) (lt (uI h4 x5 v6.toNatClampNeg v5) fun h6 => gd (hS h6 v1 = some (.inl 3)) (lt (hI h6 v1 2) fun x7 => gd (hS h6 v1 = some (.inl 3)) (bd (f_W_way v1 h6) fun r9 h8 => gd (hS h8 v1 = some (.inl 3)) (bd (f_W_landing v1 v5 x7 r9 h8) fun r11 h10 => gd (hS h10 v0 = some (.inl 6)) (bR (hR h10 v0 2) fun x12 => gd (hS h10 v0 = some (.inl 6)) (bR (hR h10 v0 2) fun x13 => gd (ai h10 x13 0 v6) (lt (hI h10 x13 v6.toNatClampNeg) fun x14 => gd (hS h10 v1 = some (.inl 3)) (bd (f_W_lacks v1 r11 h10) fun r16 h15 => if r16 = 0 then (b_U_follow_129 k48 v0 v1 v6 r11 0 x14 (v6 + 1) x12 h15) else (b_U_follow_129 k48 v0 v1 v6 r11 1 x14 (v6 + 1) x12 h15))))))))))))) else (b_U_follow_157 v0 v5 h))))
set_option maxHeartbeats 4000000 in
set_option maxRecDepth 20000 in
theorem tb_U_follow_48 {G : GG} {k48 : (Nat × Nat × Int32 × Int32) → Hp → Option (Unit × Hp)} (hk48 : ∀ s h, T G M_U_follow 1 cU 48 [(0, .ref s.1), (1, .ref s.2.1), (5, .int s.2.2.1), (6, .int s.2.2.2)] [] h (k48 s h)) (v0 : Nat) (v1 : Nat) (v5 : Int32) (v6 : Int32) (h : Hp) : T G M_U_follow 1 cU 48 [(0, .ref v0), (1, .ref v1), (5, .int v5), (6, .int v6)] [] h (b_U_follow_48 k48 v0 v1 v5 v6 h) := by
  unfold b_U_follow_48
  refine q_iload (pc := 48) (dq D_U_follow_0_ok 27 rfl) 3 rfl ?_
  refine q_bipush (pc := 50) (v := 60) (dq D_U_follow_0_ok 28 rfl) (by decide) ?_
  refine q_ic_ge (pc := 52) 157 (dq D_U_follow_0_ok 29 rfl) rfl ?_ ?_
  · exact T.lsub [0, 2] rfl (tb_U_follow_157 v0 v5 h)
  · refine q_aload_n (pc := 55) (dq D_U_follow_0_ok 30 rfl) rfl 0 rfl ?_
    refine q_getR (pc := 56) (dq D_U_follow_0_ok 31 rfl) fa_U_15 rfl (fun x1 => ?_)
    refine q_iload (pc := 59) (dq D_U_follow_0_ok 32 rfl) 2 rfl ?_
    refine r_iald (pc := 61) (dq D_U_follow_0_ok 33 rfl) (fun x2 => ?_)
    refine q_icm1 (pc := 62) (dq D_U_follow_0_ok 34 rfl) ?_
    refine q_ic_ne (pc := 63) 157 (dq D_U_follow_0_ok 35 rfl) rfl ?_ ?_
    · exact T.lsub [0, 2] rfl (tb_U_follow_157 v0 v5 h)
    · refine q_aload_n (pc := 66) (dq D_U_follow_0_ok 36 rfl) rfl 0 rfl ?_
      refine q_getR (pc := 67) (dq D_U_follow_0_ok 37 rfl) fa_U_15 rfl (fun x3 => ?_)
      refine q_iload (pc := 70) (dq D_U_follow_0_ok 38 rfl) 2 rfl ?_
      refine q_iload (pc := 72) (dq D_U_follow_0_ok 39 rfl) 3 rfl ?_
      refine r_iast (pc := 74) (dq D_U_follow_0_ok 40 rfl) (fun h4 => ?_)
      refine q_aload_n (pc := 75) (dq D_U_follow_0_ok 41 rfl) rfl 0 rfl ?_
      refine q_getR (pc := 76) (dq D_U_follow_0_ok 42 rfl) fa_U_9 rfl (fun x5 => ?_)
      refine q_iload (pc := 79) (dq D_U_follow_0_ok 43 rfl) 3 rfl ?_
      refine q_iload (pc := 81) (dq D_U_follow_0_ok 44 rfl) 2 rfl ?_
      refine r_iast (pc := 83) (dq D_U_follow_0_ok 45 rfl) (fun h6 => ?_)
      refine q_aload_n (pc := 84) (dq D_U_follow_0_ok 46 rfl) rfl 1 rfl ?_
      refine q_iload (pc := 85) (dq D_U_follow_0_ok 47 rfl) 2 rfl ?_
      refine q_aload_n (pc := 87) (dq D_U_follow_0_ok 48 rfl) rfl 1 rfl ?_
      refine r_getI (pc := 88) (dq D_U_follow_0_ok 49 rfl) fa_U_43 rfl (fun x7 => ?_)
      refine q_aload_n (pc := 91) (dq D_U_follow_0_ok 50 rfl) rfl 1 rfl ?_
      refine r_invI (Mc := M_W_way) (pc := 92) (ci := 3) (rest := [.int x7, .int v5, .ref v1]) 0 0 [] (dq D_U_follow_0_ok 51 rfl) rfl rfl lc_W_way lv_W_way_ ml_U_46 rfl rfl rfl rfl (t_W_way v1 h6) (fun r9 h8 => ?_)
      refine r_invI (Mc := M_W_landing) (pc := 95) (ci := 3) (rest := []) 0 3 [.int v5, .int x7, .int r9] (dq D_U_follow_0_ok 52 rfl) rfl rfl lc_W_landing lv_W_landing_ ml_U_50 rfl rfl rfl rfl (t_W_landing v1 v5 x7 r9 h8) (fun r11 h10 => ?_)
      refine q_istore (pc := 98) (ls' := [(7, .int r11), (0, .ref v0), (1, .ref v1), (5, .int v5), (6, .int v6)]) (dq D_U_follow_0_ok 53 rfl) rfl rfl ?_
      refine q_aload_n (pc := 100) (dq D_U_follow_0_ok 54 rfl) rfl 1 rfl ?_
      refine q_getR (pc := 101) (dq D_U_follow_0_ok 55 rfl) fa_U_18 rfl (fun x12 => ?_)
      refine q_iload (pc := 104) (dq D_U_follow_0_ok 56 rfl) 4 rfl ?_
      refine q_ic1 (pc := 106) (dq D_U_follow_0_ok 57 rfl) ?_
      refine q_iadd (pc := 107) (dq D_U_follow_0_ok 58 rfl) ?_
      refine q_aload_n (pc := 108) (dq D_U_follow_0_ok 59 rfl) rfl 1 rfl ?_
      refine q_getR (pc := 109) (dq D_U_follow_1_ok 0 rfl) fa_U_18 rfl (fun x13 => ?_)
      refine q_iload (pc := 112) (dq D_U_follow_1_ok 1 rfl) 4 rfl ?_
      refine r_iald (pc := 114) (dq D_U_follow_1_ok 2 rfl) (fun x14 => ?_)
      refine q_aload_n (pc := 115) (dq D_U_follow_1_ok 3 rfl) rfl 2 rfl ?_
      refine q_iload (pc := 116) (dq D_U_follow_1_ok 4 rfl) 0 rfl ?_
      refine r_invI (Mc := M_W_lacks) (pc := 118) (ci := 3) (rest := [.int x14, .int (v6 + 1), .ref x12]) 0 1 [.int r11] (dq D_U_follow_1_ok 5 rfl) rfl rfl lc_W_lacks lv_W_lacks_ ml_U_54 rfl rfl rfl rfl (t_W_lacks v1 r11 h10) (fun r16 h15 => ?_)
      refine p_if_eq (pc := 121) 128 (dq D_U_follow_1_ok 6 rfl) rfl ?_ ?_
      · refine q_ic0 (pc := 128) (dq D_U_follow_1_ok 9 rfl) ?_
        exact T.lsub [1, 2, 4, 0] rfl (tb_U_follow_129 hk48 v0 v1 v6 r11 0 x14 (v6 + 1) x12 h15)
      · refine q_ic1 (pc := 124) (dq D_U_follow_1_ok 7 rfl) ?_
        refine q_goto (pc := 125) 129 (dq D_U_follow_1_ok 8 rfl) rfl ?_
        exact T.lsub [1, 2, 4, 0] rfl (tb_U_follow_129 hk48 v0 v1 v6 r11 1 x14 (v6 + 1) x12 h15)
noncomputable def l_U_follow_48 : Nat → (Nat × Nat × Int32 × Int32) → Hp → Option (Unit × Hp) := lp (fun k48 s h => b_U_follow_48 k48 s.1 s.2.1 s.2.2.1 s.2.2.2 h)
set_option maxHeartbeats 4000000 in
set_option maxRecDepth 20000 in
theorem tl_U_follow_48 {G : GG} (n : Nat) (s : Nat × Nat × Int32 × Int32) (h : Hp) : T G M_U_follow 1 cU 48 [(0, .ref s.1), (1, .ref s.2.1), (5, .int s.2.2.1), (6, .int s.2.2.2)] [] h (l_U_follow_48 n s h) :=
  T.loop (lsOf := fun s => [(0, .ref s.1), (1, .ref s.2.1), (5, .int s.2.2.1), (6, .int s.2.2.2)]) (fun k48 hk48 s h => tb_U_follow_48 hk48 s.1 s.2.1 s.2.2.1 s.2.2.2 h) n s h
noncomputable def b_U_follow_26 (v0 : Nat) (v1 : Nat) (v2 : Int32) (s0 : Int32) (s1 : Nat) (h : Hp) : Option (Unit × Hp) := gd (hS h s1 = some (.inl 6)) (lt (uI h s1 7 s0) fun h1 => gd (hS h1 v0 = some (.inl 6)) (bR (hR h1 v0 1) fun x2 => bd (f_Arr_fillI x2 ((-1)) h1) fun _ h3 => gd (hS h3 v0 = some (.inl 6)) (lt (uI h3 v0 3 0) fun h5 => lt (0 : Int32) fun y6 => l_U_follow_48 FU (v0, v1, v2, y6) h5)))
set_option maxHeartbeats 4000000 in
set_option maxRecDepth 20000 in
theorem tb_U_follow_26 {G : GG} (v0 : Nat) (v1 : Nat) (v2 : Int32) (s0 : Int32) (s1 : Nat) (h : Hp) : T G M_U_follow 1 cU 26 [(0, .ref v0), (1, .ref v1), (2, .int v2)] [.int s0, .ref s1] h (b_U_follow_26 v0 v1 v2 s0 s1 h) := by
  unfold b_U_follow_26
  refine r_putI (pc := 26) (dq D_U_follow_0_ok 15 rfl) fp_U_31 rfl rfl (fun h1 => ?_)
  refine q_aload_n (pc := 29) (dq D_U_follow_0_ok 16 rfl) rfl 0 rfl ?_
  refine q_getR (pc := 30) (dq D_U_follow_0_ok 17 rfl) fa_U_15 rfl (fun x2 => ?_)
  refine q_icm1 (pc := 33) (dq D_U_follow_0_ok 18 rfl) ?_
  refine r_insU (Mc := M_Arr_fillI) (pc := 34) (rest := []) 0 2 [.ref x2, .int ((-1))] (dq D_U_follow_0_ok 19 rfl) lc_Arr_fillI ls_Arr_fillI ml_U_34 rfl rfl rfl rfl (t_Arr_fillI x2 ((-1)) h1) (fun _ h3 => ?_)
  refine q_aload_n (pc := 37) (dq D_U_follow_0_ok 20 rfl) rfl 0 rfl ?_
  refine q_ic0 (pc := 38) (dq D_U_follow_0_ok 21 rfl) ?_
  refine r_putI (pc := 39) (dq D_U_follow_0_ok 22 rfl) fp_U_40 rfl rfl (fun h5 => ?_)
  refine q_iload_n (pc := 42) (dq D_U_follow_0_ok 23 rfl) rfl 2 rfl ?_
  refine q_istore (pc := 43) (ls' := [(5, .int v2), (0, .ref v0), (1, .ref v1), (2, .int v2)]) (dq D_U_follow_0_ok 24 rfl) rfl rfl ?_
  refine q_ic0 (pc := 45) (dq D_U_follow_0_ok 25 rfl) ?_
  refine r_nmI (fun y6 => ?_)
  refine q_istore (pc := 46) (ls' := [(6, .int y6), (5, .int v2), (0, .ref v0), (1, .ref v1), (2, .int v2)]) (dq D_U_follow_0_ok 26 rfl) rfl rfl ?_
  exact T.lsub [2, 3, 1, 0] rfl (tl_U_follow_48 FU (v0, v1, v2, y6) h5)
noncomputable def f_U_follow (v0 : Nat) (v1 : Nat) (v2 : Int32) (v3 : Int32) (v4 : Int32) (h : Hp) : Option (Unit × Hp) := gd (hS h v1 = some (.inl 3)) (lt (hI h v1 0) fun x1 => gd (hS h v0 = some (.inl 6)) (lt (uI h v0 5 x1) fun h2 => gd (hS h2 v0 = some (.inl 6)) (lt (uI h2 v0 6 v4) fun h3 => if (v3 &&& 1) = 0 then (b_U_follow_26 v0 v1 v2 1 v0 h3) else (b_U_follow_26 v0 v1 v2 0 v0 h3))))
set_option maxHeartbeats 4000000 in
set_option maxRecDepth 20000 in
theorem t_U_follow {G : GG} (v0 : Nat) (v1 : Nat) (v2 : Int32) (v3 : Int32) (v4 : Int32) (h : Hp) : Mt G M_U_follow 1 [.ref v0, .ref v1, .int v2, .int v3, .int v4] cU h (f_U_follow v0 v1 v2 v3 v4 h) := by
  refine Mt.ofF (by decide +kernel) rfl (Rt.v rfl rfl) ?_
  show T G M_U_follow 1 cU 0 [(0, .ref v0), (1, .ref v1), (2, .int v2), (3, .int v3), (4, .int v4)] [] h _
  unfold f_U_follow
  refine q_aload_n (pc := 0) (dq D_U_follow_0_ok 0 rfl) rfl 0 rfl ?_
  refine q_aload_n (pc := 1) (dq D_U_follow_0_ok 1 rfl) rfl 1 rfl ?_
  refine r_getI (pc := 2) (dq D_U_follow_0_ok 2 rfl) fa_U_21 rfl (fun x1 => ?_)
  refine r_putI (pc := 5) (dq D_U_follow_0_ok 3 rfl) fp_U_27 rfl rfl (fun h2 => ?_)
  refine q_aload_n (pc := 8) (dq D_U_follow_0_ok 4 rfl) rfl 0 rfl ?_
  refine q_iload (pc := 9) (dq D_U_follow_0_ok 5 rfl) 4 rfl ?_
  refine r_putI (pc := 11) (dq D_U_follow_0_ok 6 rfl) fp_U_28 rfl rfl (fun h3 => ?_)
  refine q_aload_n (pc := 14) (dq D_U_follow_0_ok 7 rfl) rfl 0 rfl ?_
  refine q_iload_n (pc := 15) (dq D_U_follow_0_ok 8 rfl) rfl 3 rfl ?_
  refine q_ic1 (pc := 16) (dq D_U_follow_0_ok 9 rfl) ?_
  refine q_iand (pc := 17) (dq D_U_follow_0_ok 10 rfl) ?_
  refine p_if_ne (pc := 18) 25 (dq D_U_follow_0_ok 11 rfl) rfl ?_ ?_
  · refine q_ic0 (pc := 25) (dq D_U_follow_0_ok 14 rfl) ?_
    exact T.lsub [0, 1, 2] rfl (tb_U_follow_26 v0 v1 v2 0 v0 h3)
  · refine q_ic1 (pc := 21) (dq D_U_follow_0_ok 12 rfl) ?_
    refine q_goto (pc := 22) 26 (dq D_U_follow_0_ok 13 rfl) rfl ?_
    exact T.lsub [0, 1, 2] rfl (tb_U_follow_26 v0 v1 v2 1 v0 h3)
noncomputable def f_C_courseFrom (v0 : Nat) (v1 : Nat) (v2 : Nat) (v3 : Int32) (h : Hp) : Option (Nat × Hp) := gd (hS h v0 = some (.inl 5)) (lt (uR h v0 5 (some v1)) fun h1 => gd (hS h1 v0 = some (.inl 5)) (lt (uR h1 v0 6 (some v2)) fun h2 => gd (hS h2 v0 = some (.inl 5)) (bR (hR h2 v0 0) fun x3 => gd (ai h2 x3 5 v3) (bR (hR h2 x3 v3.toNatClampNeg) fun x4 => gd (hS h2 v0 = some (.inl 5)) (bR (hR h2 v0 5) fun x5 => gd (hS h2 x5 = some (.inl 2)) (bR (hR h2 x5 3) fun x6 => gd (ai h2 x6 4 v3) (bR (hR h2 x6 v3.toNatClampNeg) fun x7 => gd (ai h2 v2 0 (3 + v3)) (lt (hI h2 v2 (3 + v3).toNatClampNeg) fun x8 => gd (ai h2 v2 0 0) (lt (hI h2 v2 (0 : Int32).toNatClampNeg) fun x9 => gd (ai h2 v2 0 1) (lt (hI h2 v2 (1 : Int32).toNatClampNeg) fun x10 => gd (hS h2 x4 = some (.inl 6)) (bd (f_U_follow x4 x7 x8 x9 x10 h2) fun _ h11 => gd (hS h11 v0 = some (.inl 5)) (bR (hR h11 v0 0) fun x13 => gd (ai h11 x13 5 v3) (bR (hR h11 x13 v3.toNatClampNeg) fun x14 => some (x14, h11))))))))))))))
set_option maxHeartbeats 4000000 in
set_option maxRecDepth 20000 in
theorem t_C_courseFrom {G : GG} (v0 : Nat) (v1 : Nat) (v2 : Nat) (v3 : Int32) (h : Hp) : Mt G M_C_courseFrom 2 [.ref v0, .ref v1, .ref v2, .int v3] cA h (f_C_courseFrom v0 v1 v2 v3 h) := by
  refine Mt.ofF (by decide +kernel) rfl (Rt.a rfl rfl) ?_
  show T G M_C_courseFrom 2 cA 0 [(0, .ref v0), (1, .ref v1), (2, .ref v2), (3, .int v3)] [] h _
  unfold f_C_courseFrom
  refine q_aload_n (pc := 0) (dq D_C_courseFrom_0_ok 0 rfl) rfl 0 rfl ?_
  refine q_aload_n (pc := 1) (dq D_C_courseFrom_0_ok 1 rfl) rfl 1 rfl ?_
  refine r_putR (pc := 2) (dq D_C_courseFrom_0_ok 2 rfl) fp_C_45 rfl rfl rfl (fun h1 => ?_)
  refine q_aload_n (pc := 5) (dq D_C_courseFrom_0_ok 3 rfl) rfl 0 rfl ?_
  refine q_aload_n (pc := 6) (dq D_C_courseFrom_0_ok 4 rfl) rfl 2 rfl ?_
  refine r_putR (pc := 7) (dq D_C_courseFrom_0_ok 5 rfl) fp_C_49 rfl rfl rfl (fun h2 => ?_)
  refine q_aload_n (pc := 10) (dq D_C_courseFrom_0_ok 6 rfl) rfl 0 rfl ?_
  refine q_getR (pc := 11) (dq D_C_courseFrom_0_ok 7 rfl) fa_C_11 rfl (fun x3 => ?_)
  refine q_iload_n (pc := 14) (dq D_C_courseFrom_0_ok 8 rfl) rfl 3 rfl ?_
  refine r_aald (pc := 15) 5 (dq D_C_courseFrom_0_ok 9 rfl) rfl rfl (fun _ => rfl) (fun x4 => ?_)
  refine q_aload_n (pc := 16) (dq D_C_courseFrom_0_ok 10 rfl) rfl 0 rfl ?_
  refine q_getR (pc := 17) (dq D_C_courseFrom_0_ok 11 rfl) fa_C_45 rfl (fun x5 => ?_)
  refine q_getR (pc := 20) (dq D_C_courseFrom_0_ok 12 rfl) fa_C_52 rfl (fun x6 => ?_)
  refine q_iload_n (pc := 23) (dq D_C_courseFrom_0_ok 13 rfl) rfl 3 rfl ?_
  refine r_aald (pc := 24) 4 (dq D_C_courseFrom_0_ok 14 rfl) rfl rfl (fun _ => rfl) (fun x7 => ?_)
  refine q_aload_n (pc := 25) (dq D_C_courseFrom_0_ok 15 rfl) rfl 2 rfl ?_
  refine q_ic3 (pc := 26) (dq D_C_courseFrom_0_ok 16 rfl) ?_
  refine q_iload_n (pc := 27) (dq D_C_courseFrom_0_ok 17 rfl) rfl 3 rfl ?_
  refine q_iadd (pc := 28) (dq D_C_courseFrom_0_ok 18 rfl) ?_
  refine r_iald (pc := 29) (dq D_C_courseFrom_0_ok 19 rfl) (fun x8 => ?_)
  refine q_aload_n (pc := 30) (dq D_C_courseFrom_0_ok 20 rfl) rfl 2 rfl ?_
  refine q_ic0 (pc := 31) (dq D_C_courseFrom_0_ok 21 rfl) ?_
  refine r_iald (pc := 32) (dq D_C_courseFrom_0_ok 22 rfl) (fun x9 => ?_)
  refine q_aload_n (pc := 33) (dq D_C_courseFrom_0_ok 23 rfl) rfl 2 rfl ?_
  refine q_ic1 (pc := 34) (dq D_C_courseFrom_0_ok 24 rfl) ?_
  refine r_iald (pc := 35) (dq D_C_courseFrom_0_ok 25 rfl) (fun x10 => ?_)
  refine r_invU (Mc := M_U_follow) (pc := 36) (ci := 6) (rest := []) 1 4 [.ref x7, .int x8, .int x9, .int x10] (dq D_C_courseFrom_0_ok 26 rfl) rfl rfl lc_U_follow lv_U_follow_ ml_C_56 rfl rfl rfl rfl (t_U_follow x4 x7 x8 x9 x10 h2) (fun _ h11 => ?_)
  refine q_aload_n (pc := 39) (dq D_C_courseFrom_0_ok 27 rfl) rfl 0 rfl ?_
  refine q_getR (pc := 40) (dq D_C_courseFrom_0_ok 28 rfl) fa_C_11 rfl (fun x13 => ?_)
  refine q_iload_n (pc := 43) (dq D_C_courseFrom_0_ok 29 rfl) rfl 3 rfl ?_
  refine r_aald (pc := 44) 5 (dq D_C_courseFrom_0_ok 30 rfl) rfl rfl (fun _ => rfl) (fun x14 => ?_)
  exact r_reta (pc := 45) (dq D_C_courseFrom_0_ok 31 rfl) rfl
noncomputable def f_B_courseOf (v0 : Nat) (v1 : Int32) (h : Hp) : Option (Nat × Hp) := gd (hS h v0 = some (.inl 0)) (bR (hR h v0 9) fun x1 => gd (hS h v0 = some (.inl 0)) (bR (hR h v0 3) fun x2 => gd (hS h v0 = some (.inl 0)) (bR (hR h v0 5) fun x3 => gd (hS h x1 = some (.inl 5)) (bd (f_C_courseFrom x1 x2 x3 v1 h) fun r5 h4 => some (r5, h4)))))
set_option maxHeartbeats 4000000 in
set_option maxRecDepth 20000 in
theorem t_B_courseOf {G : GG} (v0 : Nat) (v1 : Int32) (h : Hp) : Mt G M_B_courseOf 3 [.ref v0, .int v1] cA h (f_B_courseOf v0 v1 h) := by
  refine Mt.ofF (by decide +kernel) rfl (Rt.a rfl rfl) ?_
  show T G M_B_courseOf 3 cA 0 [(0, .ref v0), (1, .int v1)] [] h _
  unfold f_B_courseOf
  refine q_aload_n (pc := 0) (dq D_B_courseOf_0_ok 0 rfl) rfl 0 rfl ?_
  refine q_getR (pc := 1) (dq D_B_courseOf_0_ok 1 rfl) fa_B_47 rfl (fun x1 => ?_)
  refine q_aload_n (pc := 4) (dq D_B_courseOf_0_ok 2 rfl) rfl 0 rfl ?_
  refine q_getR (pc := 5) (dq D_B_courseOf_0_ok 3 rfl) fa_B_23 rfl (fun x2 => ?_)
  refine q_aload_n (pc := 8) (dq D_B_courseOf_0_ok 4 rfl) rfl 0 rfl ?_
  refine q_getR (pc := 9) (dq D_B_courseOf_0_ok 5 rfl) fa_B_30 rfl (fun x3 => ?_)
  refine q_iload_n (pc := 12) (dq D_B_courseOf_0_ok 6 rfl) rfl 1 rfl ?_
  refine r_invA (Mc := M_C_courseFrom) (pc := 13) (ci := 5) (rest := []) 2 3 [.ref x2, .ref x3, .int v1] (dq D_B_courseOf_0_ok 7 rfl) rfl rfl lc_C_courseFrom lv_C_courseFrom_ ml_B_391 rfl rfl rfl rfl (t_C_courseFrom x1 x2 x3 v1 h) (fun r5 h4 => ?_)
  exact r_reta (pc := 16) (dq D_B_courseOf_0_ok 8 rfl) rfl
noncomputable def f_U_goingsUntil (v0 : Nat) (v1 : Int32) (h : Hp) : Option (Int32 × Hp) := gd (hS h v0 = some (.inl 6)) (lt (hI h v0 5) fun x1 => if x1 = 2 then (gd (hS h v0 = some (.inl 6)) (lt (hI h v0 6) fun x4 => bd (f_Math_min v1 x4 h) fun r6 h5 => some (r6, h5))) else (gd (hS h v0 = some (.inl 6)) (lt (hI h v0 5) fun x2 => if x2 = 3 then (gd (hS h v0 = some (.inl 6)) (lt (hI h v0 7) fun x3 => gd (¬ (2 : Int32) = 0) (some ((v1 + x3) / 2, h)))) else (some (v1, h)))))
set_option maxHeartbeats 4000000 in
set_option maxRecDepth 20000 in
theorem t_U_goingsUntil {G : GG} (v0 : Nat) (v1 : Int32) (h : Hp) : Mt G M_U_goingsUntil 1 [.ref v0, .int v1] cI h (f_U_goingsUntil v0 v1 h) := by
  refine Mt.ofF (by decide +kernel) rfl (Rt.i rfl rfl) ?_
  show T G M_U_goingsUntil 1 cI 0 [(0, .ref v0), (1, .int v1)] [] h _
  unfold f_U_goingsUntil
  refine q_aload_n (pc := 0) (dq D_U_goingsUntil_0_ok 0 rfl) rfl 0 rfl ?_
  refine r_getI (pc := 1) (dq D_U_goingsUntil_0_ok 1 rfl) fa_U_27 rfl (fun x1 => ?_)
  refine q_ic2 (pc := 4) (dq D_U_goingsUntil_0_ok 2 rfl) ?_
  refine q_ic_ne (pc := 5) 17 (dq D_U_goingsUntil_0_ok 3 rfl) rfl ?_ ?_
  · refine q_aload_n (pc := 17) (dq D_U_goingsUntil_0_ok 9 rfl) rfl 0 rfl ?_
    refine r_getI (pc := 18) (dq D_U_goingsUntil_0_ok 10 rfl) fa_U_27 rfl (fun x2 => ?_)
    refine q_ic3 (pc := 21) (dq D_U_goingsUntil_0_ok 11 rfl) ?_
    refine q_ic_ne (pc := 22) 36 (dq D_U_goingsUntil_0_ok 12 rfl) rfl ?_ ?_
    · refine q_iload_n (pc := 36) (dq D_U_goingsUntil_0_ok 20 rfl) rfl 1 rfl ?_
      exact r_reti (pc := 37) (dq D_U_goingsUntil_0_ok 21 rfl) rfl
    · refine q_iload_n (pc := 25) (dq D_U_goingsUntil_0_ok 13 rfl) rfl 1 rfl ?_
      refine q_aload_n (pc := 26) (dq D_U_goingsUntil_0_ok 14 rfl) rfl 0 rfl ?_
      refine r_getI (pc := 27) (dq D_U_goingsUntil_0_ok 15 rfl) fa_U_31 rfl (fun x3 => ?_)
      refine q_iadd (pc := 30) (dq D_U_goingsUntil_0_ok 16 rfl) ?_
      refine q_ic2 (pc := 31) (dq D_U_goingsUntil_0_ok 17 rfl) ?_
      refine q_idiv (pc := 32) (dq D_U_goingsUntil_0_ok 18 rfl) ?_
      refine q_goto (pc := 33) 37 (dq D_U_goingsUntil_0_ok 19 rfl) rfl ?_
      exact r_reti (pc := 37) (dq D_U_goingsUntil_0_ok 21 rfl) rfl
  · refine q_iload_n (pc := 8) (dq D_U_goingsUntil_0_ok 4 rfl) rfl 1 rfl ?_
    refine q_aload_n (pc := 9) (dq D_U_goingsUntil_0_ok 5 rfl) rfl 0 rfl ?_
    refine r_getI (pc := 10) (dq D_U_goingsUntil_0_ok 6 rfl) fa_U_28 rfl (fun x4 => ?_)
    refine r_insI (Mc := M_Math_min) (pc := 13) (rest := []) 0 2 [.int v1, .int x4] (dq D_U_goingsUntil_0_ok 7 rfl) lc_Math_min ls_Math_min ml_U_70 rfl rfl rfl rfl (t_Math_min v1 x4 h) (fun r6 h5 => ?_)
    exact r_reti (pc := 16) (dq D_U_goingsUntil_0_ok 8 rfl) rfl
noncomputable def f_B_remainder (v0 : Int32) (v1 : Int32) (h : Hp) : Option (Int32 × Hp) := if 0 < v1 then (gd (¬ v1 = 0) (lt (irm v0 v1 : Int32) fun y1 => if 0 ≤ y1 then (some (y1, h)) else (some (y1 + v1, h)))) else (some (0, h))
set_option maxHeartbeats 4000000 in
set_option maxRecDepth 20000 in
theorem t_B_remainder {G : GG} (v0 : Int32) (v1 : Int32) (h : Hp) : Mt G M_B_remainder 0 [.int v0, .int v1] cI h (f_B_remainder v0 v1 h) := by
  refine Mt.ofF (by decide +kernel) rfl (Rt.i rfl rfl) ?_
  show T G M_B_remainder 0 cI 0 [(0, .int v0), (1, .int v1)] [] h _
  unfold f_B_remainder
  refine q_iload_n (pc := 0) (dq D_B_remainder_0_ok 0 rfl) rfl 1 rfl ?_
  refine p_if_gt (pc := 1) 6 (dq D_B_remainder_0_ok 1 rfl) rfl ?_ ?_
  · refine q_iload_n (pc := 6) (dq D_B_remainder_0_ok 4 rfl) rfl 0 rfl ?_
    refine q_iload_n (pc := 7) (dq D_B_remainder_0_ok 5 rfl) rfl 1 rfl ?_
    refine q_irem (pc := 8) (dq D_B_remainder_0_ok 6 rfl) ?_
    refine r_nmI (fun y1 => ?_)
    refine q_istore_n (pc := 9) (ls' := [(2, .int y1), (0, .int v0), (1, .int v1)]) (dq D_B_remainder_0_ok 7 rfl) rfl rfl rfl ?_
    refine q_iload_n (pc := 10) (dq D_B_remainder_0_ok 8 rfl) rfl 0 rfl ?_
    refine p_if_ge (pc := 11) 20 (dq D_B_remainder_0_ok 9 rfl) rfl ?_ ?_
    · refine q_iload_n (pc := 20) (dq D_B_remainder_0_ok 14 rfl) rfl 0 rfl ?_
      exact r_reti (pc := 21) (dq D_B_remainder_0_ok 15 rfl) rfl
    · refine q_iload_n (pc := 14) (dq D_B_remainder_0_ok 10 rfl) rfl 0 rfl ?_
      refine q_iload_n (pc := 15) (dq D_B_remainder_0_ok 11 rfl) rfl 2 rfl ?_
      refine q_iadd (pc := 16) (dq D_B_remainder_0_ok 12 rfl) ?_
      refine q_goto (pc := 17) 21 (dq D_B_remainder_0_ok 13 rfl) rfl ?_
      exact r_reti (pc := 21) (dq D_B_remainder_0_ok 15 rfl) rfl
  · refine q_ic0 (pc := 4) (dq D_B_remainder_0_ok 2 rfl) ?_
    exact r_reti (pc := 5) (dq D_B_remainder_0_ok 3 rfl) rfl
noncomputable def f_U_toothOn (v0 : Nat) (v1 : Int32) (h : Hp) : Option (Int32 × Hp) := gd (hS h v0 = some (.inl 6)) (bd (f_U_goingsUntil v0 v1 h) fun r2 h1 => gd (hS h1 v0 = some (.inl 6)) (bR (hR h1 v0 0) fun x3 => gd (hS h1 v0 = some (.inl 6)) (lt (hI h1 v0 3) fun x4 => if x4 ≤ r2 then (gd (hS h1 v0 = some (.inl 6)) (lt (hI h1 v0 4) fun x5 => gd (hS h1 v0 = some (.inl 6)) (lt (hI h1 v0 4) fun x6 => gd (hS h1 v0 = some (.inl 6)) (lt (hI h1 v0 3) fun x7 => gd (hS h1 v0 = some (.inl 6)) (lt (hI h1 v0 4) fun x8 => bd (f_B_remainder (r2 - x6) (x7 - x8) h1) fun r10 h9 => gd (ai h9 x3 0 (x5 + r10)) (lt (hI h9 x3 (x5 + r10).toNatClampNeg) fun x11 => some (x11, h9))))))) else (gd (ai h1 x3 0 r2) (lt (hI h1 x3 r2.toNatClampNeg) fun x12 => some (x12, h1))))))
set_option maxHeartbeats 4000000 in
set_option maxRecDepth 20000 in
theorem t_U_toothOn {G : GG} (v0 : Nat) (v1 : Int32) (h : Hp) : Mt G M_U_toothOn 2 [.ref v0, .int v1] cI h (f_U_toothOn v0 v1 h) := by
  refine Mt.ofF (by decide +kernel) rfl (Rt.i rfl rfl) ?_
  show T G M_U_toothOn 2 cI 0 [(0, .ref v0), (1, .int v1)] [] h _
  unfold f_U_toothOn
  refine q_aload_n (pc := 0) (dq D_U_toothOn_0_ok 0 rfl) rfl 0 rfl ?_
  refine q_iload_n (pc := 1) (dq D_U_toothOn_0_ok 1 rfl) rfl 1 rfl ?_
  refine r_invI (Mc := M_U_goingsUntil) (pc := 2) (ci := 6) (rest := []) 1 1 [.int v1] (dq D_U_toothOn_0_ok 2 rfl) rfl rfl lc_U_goingsUntil lv_U_goingsUntil_ ml_U_73 rfl rfl rfl rfl (t_U_goingsUntil v0 v1 h) (fun r2 h1 => ?_)
  refine q_istore_n (pc := 5) (ls' := [(2, .int r2), (0, .ref v0), (1, .int v1)]) (dq D_U_toothOn_0_ok 3 rfl) rfl rfl rfl ?_
  refine q_aload_n (pc := 6) (dq D_U_toothOn_0_ok 4 rfl) rfl 1 rfl ?_
  refine q_getR (pc := 7) (dq D_U_toothOn_0_ok 5 rfl) fa_U_9 rfl (fun x3 => ?_)
  refine q_iload_n (pc := 10) (dq D_U_toothOn_0_ok 6 rfl) rfl 0 rfl ?_
  refine q_aload_n (pc := 11) (dq D_U_toothOn_0_ok 7 rfl) rfl 1 rfl ?_
  refine r_getI (pc := 12) (dq D_U_toothOn_0_ok 8 rfl) fa_U_40 rfl (fun x4 => ?_)
  refine q_ic_ge (pc := 15) 22 (dq D_U_toothOn_0_ok 9 rfl) rfl ?_ ?_
  · refine q_aload_n (pc := 22) (dq D_U_toothOn_0_ok 12 rfl) rfl 1 rfl ?_
    refine r_getI (pc := 23) (dq D_U_toothOn_0_ok 13 rfl) fa_U_67 rfl (fun x5 => ?_)
    refine q_iload_n (pc := 26) (dq D_U_toothOn_0_ok 14 rfl) rfl 0 rfl ?_
    refine q_aload_n (pc := 27) (dq D_U_toothOn_0_ok 15 rfl) rfl 1 rfl ?_
    refine r_getI (pc := 28) (dq D_U_toothOn_0_ok 16 rfl) fa_U_67 rfl (fun x6 => ?_)
    refine q_isub (pc := 31) (dq D_U_toothOn_0_ok 17 rfl) ?_
    refine q_aload_n (pc := 32) (dq D_U_toothOn_0_ok 18 rfl) rfl 1 rfl ?_
    refine r_getI (pc := 33) (dq D_U_toothOn_0_ok 19 rfl) fa_U_40 rfl (fun x7 => ?_)
    refine q_aload_n (pc := 36) (dq D_U_toothOn_0_ok 20 rfl) rfl 1 rfl ?_
    refine r_getI (pc := 37) (dq D_U_toothOn_0_ok 21 rfl) fa_U_67 rfl (fun x8 => ?_)
    refine q_isub (pc := 40) (dq D_U_toothOn_0_ok 22 rfl) ?_
    refine r_insI (Mc := M_B_remainder) (pc := 41) (rest := [.int x5, .ref x3]) 0 2 [.int (r2 - x6), .int (x7 - x8)] (dq D_U_toothOn_0_ok 23 rfl) lc_B_remainder ls_B_remainder ml_U_77 rfl rfl rfl rfl (t_B_remainder (r2 - x6) (x7 - x8) h1) (fun r10 h9 => ?_)
    refine q_iadd (pc := 44) (dq D_U_toothOn_0_ok 24 rfl) ?_
    refine r_iald (pc := 45) (dq D_U_toothOn_0_ok 25 rfl) (fun x11 => ?_)
    exact r_reti (pc := 46) (dq D_U_toothOn_0_ok 26 rfl) rfl
  · refine q_iload_n (pc := 18) (dq D_U_toothOn_0_ok 10 rfl) rfl 0 rfl ?_
    refine q_goto (pc := 19) 45 (dq D_U_toothOn_0_ok 11 rfl) rfl ?_
    refine r_iald (pc := 45) (dq D_U_toothOn_0_ok 25 rfl) (fun x12 => ?_)
    exact r_reti (pc := 46) (dq D_U_toothOn_0_ok 26 rfl) rfl
noncomputable def b_B_toothIn_24 (v0 : Nat) (h : Hp) : Option (Int32 × Hp) := gd (hS h v0 = some (.inl 0)) (bd (f_B_refuse v0 (2 : Int32) h) fun r2 h1 => some (r2, h1))
set_option maxHeartbeats 4000000 in
set_option maxRecDepth 20000 in
theorem tb_B_toothIn_24 {G : GG} (v0 : Nat) (h : Hp) : T G M_B_toothIn 4 cI 24 [(0, .ref v0)] [] h (b_B_toothIn_24 v0 h) := by
  unfold b_B_toothIn_24
  refine q_aload_n (pc := 24) (dq D_B_toothIn_0_ok 13 rfl) rfl 0 rfl ?_
  refine q_ic2 (pc := 25) (dq D_B_toothIn_0_ok 14 rfl) ?_
  refine r_invI (Mc := M_B_refuse) (pc := 26) (ci := 0) (rest := []) 0 1 [.int 2] (dq D_B_toothIn_0_ok 15 rfl) rfl rfl lc_B_refuse lv_B_refuse_ ml_B_87 rfl rfl rfl rfl (t_B_refuse v0 (2 : Int32) h) (fun r2 h1 => ?_)
  exact r_reti (pc := 29) (dq D_B_toothIn_0_ok 16 rfl) rfl
noncomputable def f_B_toothIn (v0 : Nat) (v1 : Int32) (v2 : Int32) (h : Hp) : Option (Int32 × Hp) := gd (hS h v0 = some (.inl 0)) (bd (f_B_hasWheel v0 v1 h) fun r2 h1 => if r2 = 0 then (gd (hS h1 v0 = some (.inl 0)) (bd (f_B_refuse v0 (1 : Int32) h1) fun r10 h9 => some (r10, h9))) else (if v2 < 0 then (b_B_toothIn_24 v0 h1) else (if v2 ≤ 1000000 then (gd (hS h1 v0 = some (.inl 0)) (bd (f_B_courseOf v0 v1 h1) fun r4 h3 => gd (hS h3 r4 = some (.inl 6)) (bd (f_U_toothOn r4 v2 h3) fun r6 h5 => gd (hS h5 v0 = some (.inl 0)) (bd (f_B_grant v0 r6 h5) fun r8 h7 => some (r8, h7))))) else (b_B_toothIn_24 v0 h1))))
set_option maxHeartbeats 4000000 in
set_option maxRecDepth 20000 in
theorem t_B_toothIn {G : GG} (v0 : Nat) (v1 : Int32) (v2 : Int32) (h : Hp) : Mt G M_B_toothIn 4 [.ref v0, .int v1, .int v2] cI h (f_B_toothIn v0 v1 v2 h) := by
  refine Mt.ofF (by decide +kernel) rfl (Rt.i rfl rfl) ?_
  show T G M_B_toothIn 4 cI 0 [(0, .ref v0), (1, .int v1), (2, .int v2)] [] h _
  unfold f_B_toothIn
  refine q_aload_n (pc := 0) (dq D_B_toothIn_0_ok 0 rfl) rfl 0 rfl ?_
  refine q_iload_n (pc := 1) (dq D_B_toothIn_0_ok 1 rfl) rfl 1 rfl ?_
  refine r_invI (Mc := M_B_hasWheel) (pc := 2) (ci := 0) (rest := []) 0 1 [.int v1] (dq D_B_toothIn_0_ok 2 rfl) rfl rfl lc_B_hasWheel lv_B_hasWheel_ ml_B_118 rfl rfl rfl rfl (t_B_hasWheel v0 v1 h) (fun r2 h1 => ?_)
  refine p_if_ne (pc := 5) 14 (dq D_B_toothIn_0_ok 3 rfl) rfl ?_ ?_
  · refine q_iload_n (pc := 14) (dq D_B_toothIn_0_ok 8 rfl) rfl 2 rfl ?_
    refine p_if_lt (pc := 15) 24 (dq D_B_toothIn_0_ok 9 rfl) rfl ?_ ?_
    · exact T.lsub [0] rfl (tb_B_toothIn_24 v0 h1)
    · refine q_iload_n (pc := 18) (dq D_B_toothIn_0_ok 10 rfl) rfl 2 rfl ?_
      refine q_ldc (pc := 19) (v := 1000000) (dq D_B_toothIn_0_ok 11 rfl) lk_B_169 ?_
      refine q_ic_le (pc := 21) 30 (dq D_B_toothIn_0_ok 12 rfl) rfl ?_ ?_
      · refine q_aload_n (pc := 30) (dq D_B_toothIn_0_ok 17 rfl) rfl 0 rfl ?_
        refine q_aload_n (pc := 31) (dq D_B_toothIn_0_ok 18 rfl) rfl 0 rfl ?_
        refine q_iload_n (pc := 32) (dq D_B_toothIn_0_ok 19 rfl) rfl 1 rfl ?_
        refine r_invA (Mc := M_B_courseOf) (pc := 33) (ci := 0) (rest := [.ref v0]) 3 1 [.int v1] (dq D_B_toothIn_0_ok 20 rfl) rfl rfl lc_B_courseOf lv_B_courseOf_ ml_B_170 rfl rfl rfl rfl (t_B_courseOf v0 v1 h1) (fun r4 h3 => ?_)
        refine q_iload_n (pc := 36) (dq D_B_toothIn_0_ok 21 rfl) rfl 2 rfl ?_
        refine r_invI (Mc := M_U_toothOn) (pc := 37) (ci := 6) (rest := [.ref v0]) 2 1 [.int v2] (dq D_B_toothIn_0_ok 22 rfl) rfl rfl lc_U_toothOn lv_U_toothOn_ ml_B_174 rfl rfl rfl rfl (t_U_toothOn r4 v2 h3) (fun r6 h5 => ?_)
        refine r_invI (Mc := M_B_grant) (pc := 40) (ci := 0) (rest := []) 0 1 [.int r6] (dq D_B_toothIn_0_ok 23 rfl) rfl rfl lc_B_grant lv_B_grant_ ml_B_109 rfl rfl rfl rfl (t_B_grant v0 r6 h5) (fun r8 h7 => ?_)
        exact r_reti (pc := 43) (dq D_B_toothIn_0_ok 24 rfl) rfl
      · exact T.lsub [0] rfl (tb_B_toothIn_24 v0 h1)
  · refine q_aload_n (pc := 8) (dq D_B_toothIn_0_ok 4 rfl) rfl 0 rfl ?_
    refine q_ic1 (pc := 9) (dq D_B_toothIn_0_ok 5 rfl) ?_
    refine r_invI (Mc := M_B_refuse) (pc := 10) (ci := 0) (rest := []) 0 1 [.int 1] (dq D_B_toothIn_0_ok 6 rfl) rfl rfl lc_B_refuse lv_B_refuse_ ml_B_87 rfl rfl rfl rfl (t_B_refuse v0 (1 : Int32) h1) (fun r10 h9 => ?_)
    exact r_reti (pc := 13) (dq D_B_toothIn_0_ok 7 rfl) rfl
noncomputable def b_U_jerksUntil_25 (v0 : Nat) (v2 : Int32) (h : Hp) : Option (Int32 × Hp) := gd (hS h v0 = some (.inl 6)) (bR (hR h v0 2) fun x1 => gd (hS h v0 = some (.inl 6)) (lt (hI h v0 3) fun x2 => bd (f_Math_min v2 x2 h) fun r4 h3 => gd (ai h3 x1 0 r4) (lt (hI h3 x1 r4.toNatClampNeg) fun x5 => some (x5, h3))))
set_option maxHeartbeats 4000000 in
set_option maxRecDepth 20000 in
theorem tb_U_jerksUntil_25 {G : GG} (v0 : Nat) (v2 : Int32) (h : Hp) : T G M_U_jerksUntil 2 cI 25 [(0, .ref v0), (2, .int v2)] [] h (b_U_jerksUntil_25 v0 v2 h) := by
  unfold b_U_jerksUntil_25
  refine q_aload_n (pc := 25) (dq D_U_jerksUntil_0_ok 13 rfl) rfl 0 rfl ?_
  refine q_getR (pc := 26) (dq D_U_jerksUntil_0_ok 14 rfl) fa_U_18 rfl (fun x1 => ?_)
  refine q_iload_n (pc := 29) (dq D_U_jerksUntil_0_ok 15 rfl) rfl 1 rfl ?_
  refine q_aload_n (pc := 30) (dq D_U_jerksUntil_0_ok 16 rfl) rfl 0 rfl ?_
  refine r_getI (pc := 31) (dq D_U_jerksUntil_0_ok 17 rfl) fa_U_40 rfl (fun x2 => ?_)
  refine r_insI (Mc := M_Math_min) (pc := 34) (rest := [.ref x1]) 0 2 [.int v2, .int x2] (dq D_U_jerksUntil_0_ok 18 rfl) lc_Math_min ls_Math_min ml_U_70 rfl rfl rfl rfl (t_Math_min v2 x2 h) (fun r4 h3 => ?_)
  refine r_iald (pc := 37) (dq D_U_jerksUntil_0_ok 19 rfl) (fun x5 => ?_)
  exact r_reti (pc := 38) (dq D_U_jerksUntil_0_ok 20 rfl) rfl
noncomputable def f_U_jerksUntil (v0 : Nat) (v1 : Int32) (h : Hp) : Option (Int32 × Hp) := gd (hS h v0 = some (.inl 6)) (bd (f_U_goingsUntil v0 v1 h) fun r2 h1 => gd (hS h1 v0 = some (.inl 6)) (lt (hI h1 v0 3) fun x3 => if r2 ≤ x3 then (b_U_jerksUntil_25 v0 r2 h1) else (gd (hS h1 v0 = some (.inl 6)) (lt (hI h1 v0 4) fun x4 => gd (hS h1 v0 = some (.inl 6)) (lt (hI h1 v0 3) fun x5 => if x4 < x5 then (gd (hS h1 v0 = some (.inl 6)) (lt (hI h1 v0 3) fun x6 => gd (hS h1 v0 = some (.inl 6)) (lt (hI h1 v0 4) fun x7 => lt (x6 - x7 : Int32) fun y8 => gd (hS h1 v0 = some (.inl 6)) (lt (hI h1 v0 4) fun x9 => gd (¬ y8 = 0) (lt ((r2 - x9) / y8 : Int32) fun y10 => gd (hS h1 v0 = some (.inl 6)) (lt (hI h1 v0 4) fun x11 => gd (hS h1 v0 = some (.inl 6)) (lt (hI h1 v0 4) fun x12 => bd (f_B_remainder (r2 - x12) y8 h1) fun r14 h13 => lt (x11 + r14 : Int32) fun y15 => gd (hS h13 v0 = some (.inl 6)) (bR (hR h13 v0 2) fun x16 => gd (ai h13 x16 0 y15) (lt (hI h13 x16 y15.toNatClampNeg) fun x17 => gd (hS h13 v0 = some (.inl 6)) (bR (hR h13 v0 2) fun x18 => gd (hS h13 v0 = some (.inl 6)) (lt (hI h13 v0 3) fun x19 => gd (ai h13 x18 0 x19) (lt (hI h13 x18 x19.toNatClampNeg) fun x20 => gd (hS h13 v0 = some (.inl 6)) (bR (hR h13 v0 2) fun x21 => gd (hS h13 v0 = some (.inl 6)) (lt (hI h13 v0 4) fun x22 => gd (ai h13 x21 0 x22) (lt (hI h13 x21 x22.toNatClampNeg) fun x23 => some (x17 + (y10 * (x20 - x23)), h13)))))))))))))))) else (b_U_jerksUntil_25 v0 r2 h1))))))
set_option maxHeartbeats 4000000 in
set_option maxRecDepth 20000 in
theorem t_U_jerksUntil {G : GG} (v0 : Nat) (v1 : Int32) (h : Hp) : Mt G M_U_jerksUntil 2 [.ref v0, .int v1] cI h (f_U_jerksUntil v0 v1 h) := by
  refine Mt.ofF (by decide +kernel) rfl (Rt.i rfl rfl) ?_
  show T G M_U_jerksUntil 2 cI 0 [(0, .ref v0), (1, .int v1)] [] h _
  unfold f_U_jerksUntil
  refine q_aload_n (pc := 0) (dq D_U_jerksUntil_0_ok 0 rfl) rfl 0 rfl ?_
  refine q_iload_n (pc := 1) (dq D_U_jerksUntil_0_ok 1 rfl) rfl 1 rfl ?_
  refine r_invI (Mc := M_U_goingsUntil) (pc := 2) (ci := 6) (rest := []) 1 1 [.int v1] (dq D_U_jerksUntil_0_ok 2 rfl) rfl rfl lc_U_goingsUntil lv_U_goingsUntil_ ml_U_73 rfl rfl rfl rfl (t_U_goingsUntil v0 v1 h) (fun r2 h1 => ?_)
  refine q_istore_n (pc := 5) (ls' := [(2, .int r2), (0, .ref v0), (1, .int v1)]) (dq D_U_jerksUntil_0_ok 3 rfl) rfl rfl rfl ?_
  refine q_iload_n (pc := 6) (dq D_U_jerksUntil_0_ok 4 rfl) rfl 0 rfl ?_
  refine q_aload_n (pc := 7) (dq D_U_jerksUntil_0_ok 5 rfl) rfl 1 rfl ?_
  refine r_getI (pc := 8) (dq D_U_jerksUntil_0_ok 6 rfl) fa_U_40 rfl (fun x3 => ?_)
  refine q_ic_le (pc := 11) 25 (dq D_U_jerksUntil_0_ok 7 rfl) rfl ?_ ?_
  · exact T.lsub [1, 0] rfl (tb_U_jerksUntil_25 v0 r2 h1)
  · refine q_aload_n (pc := 14) (dq D_U_jerksUntil_0_ok 8 rfl) rfl 1 rfl ?_
    refine r_getI (pc := 15) (dq D_U_jerksUntil_0_ok 9 rfl) fa_U_67 rfl (fun x4 => ?_)
    refine q_aload_n (pc := 18) (dq D_U_jerksUntil_0_ok 10 rfl) rfl 1 rfl ?_
    refine r_getI (pc := 19) (dq D_U_jerksUntil_0_ok 11 rfl) fa_U_40 rfl (fun x5 => ?_)
    refine q_ic_lt (pc := 22) 39 (dq D_U_jerksUntil_0_ok 12 rfl) rfl ?_ ?_
    · refine q_aload_n (pc := 39) (dq D_U_jerksUntil_0_ok 21 rfl) rfl 1 rfl ?_
      refine r_getI (pc := 40) (dq D_U_jerksUntil_0_ok 22 rfl) fa_U_40 rfl (fun x6 => ?_)
      refine q_aload_n (pc := 43) (dq D_U_jerksUntil_0_ok 23 rfl) rfl 1 rfl ?_
      refine r_getI (pc := 44) (dq D_U_jerksUntil_0_ok 24 rfl) fa_U_67 rfl (fun x7 => ?_)
      refine q_isub (pc := 47) (dq D_U_jerksUntil_0_ok 25 rfl) ?_
      refine r_nmI (fun y8 => ?_)
      refine q_istore_n (pc := 48) (ls' := [(3, .int y8), (2, .int r2), (0, .ref v0), (1, .int v1)]) (dq D_U_jerksUntil_0_ok 26 rfl) rfl rfl rfl ?_
      refine q_iload_n (pc := 49) (dq D_U_jerksUntil_0_ok 27 rfl) rfl 1 rfl ?_
      refine q_aload_n (pc := 50) (dq D_U_jerksUntil_0_ok 28 rfl) rfl 2 rfl ?_
      refine r_getI (pc := 51) (dq D_U_jerksUntil_0_ok 29 rfl) fa_U_67 rfl (fun x9 => ?_)
      refine q_isub (pc := 54) (dq D_U_jerksUntil_0_ok 30 rfl) ?_
      refine q_iload_n (pc := 55) (dq D_U_jerksUntil_0_ok 31 rfl) rfl 0 rfl ?_
      refine q_idiv (pc := 56) (dq D_U_jerksUntil_0_ok 32 rfl) ?_
      refine r_nmI (fun y10 => ?_)
      refine q_istore (pc := 57) (ls' := [(4, .int y10), (3, .int y8), (2, .int r2), (0, .ref v0), (1, .int v1)]) (dq D_U_jerksUntil_0_ok 33 rfl) rfl rfl ?_
      refine q_aload_n (pc := 59) (dq D_U_jerksUntil_0_ok 34 rfl) rfl 3 rfl ?_
      refine r_getI (pc := 60) (dq D_U_jerksUntil_0_ok 35 rfl) fa_U_67 rfl (fun x11 => ?_)
      refine q_iload_n (pc := 63) (dq D_U_jerksUntil_0_ok 36 rfl) rfl 2 rfl ?_
      refine q_aload_n (pc := 64) (dq D_U_jerksUntil_0_ok 37 rfl) rfl 3 rfl ?_
      refine r_getI (pc := 65) (dq D_U_jerksUntil_0_ok 38 rfl) fa_U_67 rfl (fun x12 => ?_)
      refine q_isub (pc := 68) (dq D_U_jerksUntil_0_ok 39 rfl) ?_
      refine q_iload_n (pc := 69) (dq D_U_jerksUntil_0_ok 40 rfl) rfl 1 rfl ?_
      refine r_insI (Mc := M_B_remainder) (pc := 70) (rest := [.int x11]) 0 2 [.int (r2 - x12), .int y8] (dq D_U_jerksUntil_0_ok 41 rfl) lc_B_remainder ls_B_remainder ml_U_77 rfl rfl rfl rfl (t_B_remainder (r2 - x12) y8 h1) (fun r14 h13 => ?_)
      refine q_iadd (pc := 73) (dq D_U_jerksUntil_0_ok 42 rfl) ?_
      refine r_nmI (fun y15 => ?_)
      refine q_istore (pc := 74) (ls' := [(5, .int y15), (4, .int y10), (3, .int y8), (2, .int r2), (0, .ref v0), (1, .int v1)]) (dq D_U_jerksUntil_0_ok 43 rfl) rfl rfl ?_
      refine q_aload_n (pc := 76) (dq D_U_jerksUntil_0_ok 44 rfl) rfl 4 rfl ?_
      refine q_getR (pc := 77) (dq D_U_jerksUntil_0_ok 45 rfl) fa_U_18 rfl (fun x16 => ?_)
      refine q_iload (pc := 80) (dq D_U_jerksUntil_0_ok 46 rfl) 0 rfl ?_
      refine r_iald (pc := 82) (dq D_U_jerksUntil_0_ok 47 rfl) (fun x17 => ?_)
      refine q_iload (pc := 83) (dq D_U_jerksUntil_0_ok 48 rfl) 1 rfl ?_
      refine q_aload_n (pc := 85) (dq D_U_jerksUntil_0_ok 49 rfl) rfl 4 rfl ?_
      refine q_getR (pc := 86) (dq D_U_jerksUntil_0_ok 50 rfl) fa_U_18 rfl (fun x18 => ?_)
      refine q_aload_n (pc := 89) (dq D_U_jerksUntil_0_ok 51 rfl) rfl 4 rfl ?_
      refine r_getI (pc := 90) (dq D_U_jerksUntil_0_ok 52 rfl) fa_U_40 rfl (fun x19 => ?_)
      refine r_iald (pc := 93) (dq D_U_jerksUntil_0_ok 53 rfl) (fun x20 => ?_)
      refine q_aload_n (pc := 94) (dq D_U_jerksUntil_0_ok 54 rfl) rfl 4 rfl ?_
      refine q_getR (pc := 95) (dq D_U_jerksUntil_0_ok 55 rfl) fa_U_18 rfl (fun x21 => ?_)
      refine q_aload_n (pc := 98) (dq D_U_jerksUntil_0_ok 56 rfl) rfl 4 rfl ?_
      refine r_getI (pc := 99) (dq D_U_jerksUntil_0_ok 57 rfl) fa_U_67 rfl (fun x22 => ?_)
      refine r_iald (pc := 102) (dq D_U_jerksUntil_0_ok 58 rfl) (fun x23 => ?_)
      refine q_isub (pc := 103) (dq D_U_jerksUntil_0_ok 59 rfl) ?_
      refine q_imul (pc := 104) (dq D_U_jerksUntil_1_ok 0 rfl) ?_
      refine q_iadd (pc := 105) (dq D_U_jerksUntil_1_ok 1 rfl) ?_
      exact r_reti (pc := 106) (dq D_U_jerksUntil_1_ok 2 rfl) rfl
    · exact T.lsub [1, 0] rfl (tb_U_jerksUntil_25 v0 r2 h1)
noncomputable def b_B_jerks_25 (v0 : Nat) (h : Hp) : Option (Int32 × Hp) := gd (hS h v0 = some (.inl 0)) (bd (f_B_refuse v0 (2 : Int32) h) fun r2 h1 => some (r2, h1))
set_option maxHeartbeats 4000000 in
set_option maxRecDepth 20000 in
theorem tb_B_jerks_25 {G : GG} (v0 : Nat) (h : Hp) : T G M_B_jerks 4 cI 25 [(0, .ref v0)] [] h (b_B_jerks_25 v0 h) := by
  unfold b_B_jerks_25
  refine q_aload_n (pc := 25) (dq D_B_jerks_0_ok 13 rfl) rfl 0 rfl ?_
  refine q_ic2 (pc := 26) (dq D_B_jerks_0_ok 14 rfl) ?_
  refine r_invI (Mc := M_B_refuse) (pc := 27) (ci := 0) (rest := []) 0 1 [.int 2] (dq D_B_jerks_0_ok 15 rfl) rfl rfl lc_B_refuse lv_B_refuse_ ml_B_87 rfl rfl rfl rfl (t_B_refuse v0 (2 : Int32) h) (fun r2 h1 => ?_)
  exact r_reti (pc := 30) (dq D_B_jerks_0_ok 16 rfl) rfl
noncomputable def f_B_jerks (v0 : Nat) (v1 : Int32) (v2 : Int32) (h : Hp) : Option (Int32 × Hp) := gd (hS h v0 = some (.inl 0)) (bd (f_B_hasWheel v0 v1 h) fun r2 h1 => if r2 = 0 then (gd (hS h1 v0 = some (.inl 0)) (bd (f_B_refuse v0 (1 : Int32) h1) fun r10 h9 => some (r10, h9))) else (if v2 < 0 then (b_B_jerks_25 v0 h1) else (if v2 ≤ 5000 then (gd (hS h1 v0 = some (.inl 0)) (bd (f_B_courseOf v0 v1 h1) fun r4 h3 => gd (hS h3 r4 = some (.inl 6)) (bd (f_U_jerksUntil r4 v2 h3) fun r6 h5 => gd (hS h5 v0 = some (.inl 0)) (bd (f_B_grant v0 r6 h5) fun r8 h7 => some (r8, h7))))) else (b_B_jerks_25 v0 h1))))
set_option maxHeartbeats 4000000 in
set_option maxRecDepth 20000 in
theorem t_B_jerks {G : GG} (v0 : Nat) (v1 : Int32) (v2 : Int32) (h : Hp) : Mt G M_B_jerks 4 [.ref v0, .int v1, .int v2] cI h (f_B_jerks v0 v1 v2 h) := by
  refine Mt.ofF (by decide +kernel) rfl (Rt.i rfl rfl) ?_
  show T G M_B_jerks 4 cI 0 [(0, .ref v0), (1, .int v1), (2, .int v2)] [] h _
  unfold f_B_jerks
  refine q_aload_n (pc := 0) (dq D_B_jerks_0_ok 0 rfl) rfl 0 rfl ?_
  refine q_iload_n (pc := 1) (dq D_B_jerks_0_ok 1 rfl) rfl 1 rfl ?_
  refine r_invI (Mc := M_B_hasWheel) (pc := 2) (ci := 0) (rest := []) 0 1 [.int v1] (dq D_B_jerks_0_ok 2 rfl) rfl rfl lc_B_hasWheel lv_B_hasWheel_ ml_B_118 rfl rfl rfl rfl (t_B_hasWheel v0 v1 h) (fun r2 h1 => ?_)
  refine p_if_ne (pc := 5) 14 (dq D_B_jerks_0_ok 3 rfl) rfl ?_ ?_
  · refine q_iload_n (pc := 14) (dq D_B_jerks_0_ok 8 rfl) rfl 2 rfl ?_
    refine p_if_lt (pc := 15) 25 (dq D_B_jerks_0_ok 9 rfl) rfl ?_ ?_
    · exact T.lsub [0] rfl (tb_B_jerks_25 v0 h1)
    · refine q_iload_n (pc := 18) (dq D_B_jerks_0_ok 10 rfl) rfl 2 rfl ?_
      refine q_sipush (pc := 19) (v := 5000) (dq D_B_jerks_0_ok 11 rfl) (by decide) ?_
      refine q_ic_le (pc := 22) 31 (dq D_B_jerks_0_ok 12 rfl) rfl ?_ ?_
      · refine q_aload_n (pc := 31) (dq D_B_jerks_0_ok 17 rfl) rfl 0 rfl ?_
        refine q_aload_n (pc := 32) (dq D_B_jerks_0_ok 18 rfl) rfl 0 rfl ?_
        refine q_iload_n (pc := 33) (dq D_B_jerks_0_ok 19 rfl) rfl 1 rfl ?_
        refine r_invA (Mc := M_B_courseOf) (pc := 34) (ci := 0) (rest := [.ref v0]) 3 1 [.int v1] (dq D_B_jerks_0_ok 20 rfl) rfl rfl lc_B_courseOf lv_B_courseOf_ ml_B_170 rfl rfl rfl rfl (t_B_courseOf v0 v1 h1) (fun r4 h3 => ?_)
        refine q_iload_n (pc := 37) (dq D_B_jerks_0_ok 21 rfl) rfl 2 rfl ?_
        refine r_invI (Mc := M_U_jerksUntil) (pc := 38) (ci := 6) (rest := [.ref v0]) 2 1 [.int v2] (dq D_B_jerks_0_ok 22 rfl) rfl rfl lc_U_jerksUntil lv_U_jerksUntil_ ml_B_179 rfl rfl rfl rfl (t_U_jerksUntil r4 v2 h3) (fun r6 h5 => ?_)
        refine r_invI (Mc := M_B_grant) (pc := 41) (ci := 0) (rest := []) 0 1 [.int r6] (dq D_B_jerks_0_ok 23 rfl) rfl rfl lc_B_grant lv_B_grant_ ml_B_109 rfl rfl rfl rfl (t_B_grant v0 r6 h5) (fun r8 h7 => ?_)
        exact r_reti (pc := 44) (dq D_B_jerks_0_ok 24 rfl) rfl
      · exact T.lsub [0] rfl (tb_B_jerks_25 v0 h1)
  · refine q_aload_n (pc := 8) (dq D_B_jerks_0_ok 4 rfl) rfl 0 rfl ?_
    refine q_ic1 (pc := 9) (dq D_B_jerks_0_ok 5 rfl) ?_
    refine r_invI (Mc := M_B_refuse) (pc := 10) (ci := 0) (rest := []) 0 1 [.int 1] (dq D_B_jerks_0_ok 6 rfl) rfl rfl lc_B_refuse lv_B_refuse_ ml_B_87 rfl rfl rfl rfl (t_B_refuse v0 (1 : Int32) h1) (fun r10 h9 => ?_)
    exact r_reti (pc := 13) (dq D_B_jerks_0_ok 7 rfl) rfl
noncomputable def f_U_daysRound (v0 : Nat) (h : Hp) : Option (Int32 × Hp) := gd (hS h v0 = some (.inl 6)) (lt (hI h v0 5) fun x1 => if x1 = 2 then (some (1, h)) else (gd (hS h v0 = some (.inl 6)) (lt (hI h v0 4) fun x2 => if x2 = 0 then (gd (hS h v0 = some (.inl 6)) (lt (hI h v0 5) fun x3 => if x3 = 3 then (gd (hS h v0 = some (.inl 6)) (lt (hI h v0 3) fun x5 => some (2 * x5, h))) else (gd (hS h v0 = some (.inl 6)) (lt (hI h v0 3) fun x4 => some (x4, h))))) else (some ((-2), h)))))
set_option maxHeartbeats 4000000 in
set_option maxRecDepth 20000 in
theorem t_U_daysRound {G : GG} (v0 : Nat) (h : Hp) : Mt G M_U_daysRound 0 [.ref v0] cI h (f_U_daysRound v0 h) := by
  refine Mt.ofF (by decide +kernel) rfl (Rt.i rfl rfl) ?_
  show T G M_U_daysRound 0 cI 0 [(0, .ref v0)] [] h _
  unfold f_U_daysRound
  refine q_aload_n (pc := 0) (dq D_U_daysRound_0_ok 0 rfl) rfl 0 rfl ?_
  refine r_getI (pc := 1) (dq D_U_daysRound_0_ok 1 rfl) fa_U_27 rfl (fun x1 => ?_)
  refine q_ic2 (pc := 4) (dq D_U_daysRound_0_ok 2 rfl) ?_
  refine q_ic_ne (pc := 5) 10 (dq D_U_daysRound_0_ok 3 rfl) rfl ?_ ?_
  · refine q_aload_n (pc := 10) (dq D_U_daysRound_0_ok 6 rfl) rfl 0 rfl ?_
    refine r_getI (pc := 11) (dq D_U_daysRound_0_ok 7 rfl) fa_U_67 rfl (fun x2 => ?_)
    refine p_if_eq (pc := 14) 20 (dq D_U_daysRound_0_ok 8 rfl) rfl ?_ ?_
    · refine q_aload_n (pc := 20) (dq D_U_daysRound_0_ok 11 rfl) rfl 0 rfl ?_
      refine r_getI (pc := 21) (dq D_U_daysRound_0_ok 12 rfl) fa_U_27 rfl (fun x3 => ?_)
      refine q_ic3 (pc := 24) (dq D_U_daysRound_0_ok 13 rfl) ?_
      refine q_ic_ne (pc := 25) 37 (dq D_U_daysRound_0_ok 14 rfl) rfl ?_ ?_
      · refine q_aload_n (pc := 37) (dq D_U_daysRound_0_ok 20 rfl) rfl 0 rfl ?_
        refine r_getI (pc := 38) (dq D_U_daysRound_0_ok 21 rfl) fa_U_40 rfl (fun x4 => ?_)
        exact r_reti (pc := 41) (dq D_U_daysRound_0_ok 22 rfl) rfl
      · refine q_ic2 (pc := 28) (dq D_U_daysRound_0_ok 15 rfl) ?_
        refine q_aload_n (pc := 29) (dq D_U_daysRound_0_ok 16 rfl) rfl 0 rfl ?_
        refine r_getI (pc := 30) (dq D_U_daysRound_0_ok 17 rfl) fa_U_40 rfl (fun x5 => ?_)
        refine q_imul (pc := 33) (dq D_U_daysRound_0_ok 18 rfl) ?_
        refine q_goto (pc := 34) 41 (dq D_U_daysRound_0_ok 19 rfl) rfl ?_
        exact r_reti (pc := 41) (dq D_U_daysRound_0_ok 22 rfl) rfl
    · refine q_bipush (pc := 17) (v := (-2)) (dq D_U_daysRound_0_ok 9 rfl) (by decide) ?_
      exact r_reti (pc := 19) (dq D_U_daysRound_0_ok 10 rfl) rfl
  · refine q_ic1 (pc := 8) (dq D_U_daysRound_0_ok 4 rfl) ?_
    exact r_reti (pc := 9) (dq D_U_daysRound_0_ok 5 rfl) rfl
noncomputable def b_B_comesRound_45 (v0 : Nat) (v1 : Int32) (h : Hp) : Option (Int32 × Hp) := gd (hS h v0 = some (.inl 0)) (bd (f_B_courseOf v0 v1 h) fun r2 h1 => gd (hS h1 r2 = some (.inl 6)) (bd (f_U_daysRound r2 h1) fun r4 h3 => gd (hS h3 v0 = some (.inl 0)) (bd (f_B_grant v0 r4 h3) fun r6 h5 => some (r6, h5))))
set_option maxHeartbeats 4000000 in
set_option maxRecDepth 20000 in
theorem tb_B_comesRound_45 {G : GG} (v0 : Nat) (v1 : Int32) (h : Hp) : T G M_B_comesRound 4 cI 45 [(0, .ref v0), (1, .int v1)] [] h (b_B_comesRound_45 v0 v1 h) := by
  unfold b_B_comesRound_45
  refine q_aload_n (pc := 45) (dq D_B_comesRound_0_ok 25 rfl) rfl 0 rfl ?_
  refine q_aload_n (pc := 46) (dq D_B_comesRound_0_ok 26 rfl) rfl 0 rfl ?_
  refine q_iload_n (pc := 47) (dq D_B_comesRound_0_ok 27 rfl) rfl 1 rfl ?_
  refine r_invA (Mc := M_B_courseOf) (pc := 48) (ci := 0) (rest := [.ref v0]) 3 1 [.int v1] (dq D_B_comesRound_0_ok 28 rfl) rfl rfl lc_B_courseOf lv_B_courseOf_ ml_B_170 rfl rfl rfl rfl (t_B_courseOf v0 v1 h) (fun r2 h1 => ?_)
  refine r_invI (Mc := M_U_daysRound) (pc := 51) (ci := 6) (rest := [.ref v0]) 0 0 [] (dq D_B_comesRound_0_ok 29 rfl) rfl rfl lc_U_daysRound lv_U_daysRound_ ml_B_182 rfl rfl rfl rfl (t_U_daysRound r2 h1) (fun r4 h3 => ?_)
  refine r_invI (Mc := M_B_grant) (pc := 54) (ci := 0) (rest := []) 0 1 [.int r4] (dq D_B_comesRound_0_ok 30 rfl) rfl rfl lc_B_grant lv_B_grant_ ml_B_109 rfl rfl rfl rfl (t_B_grant v0 r4 h3) (fun r6 h5 => ?_)
  exact r_reti (pc := 57) (dq D_B_comesRound_0_ok 31 rfl) rfl
noncomputable def f_B_comesRound (v0 : Nat) (v1 : Int32) (h : Hp) : Option (Int32 × Hp) := gd (hS h v0 = some (.inl 0)) (bd (f_B_hasWheel v0 v1 h) fun r2 h1 => if r2 = 0 then (gd (hS h1 v0 = some (.inl 0)) (bd (f_B_refuse v0 (1 : Int32) h1) fun r12 h11 => some (r12, h11))) else (gd (hS h1 v0 = some (.inl 0)) (bR (hR h1 v0 3) fun x3 => gd (hS h1 x3 = some (.inl 2)) (bR (hR h1 x3 3) fun x4 => gd (ai h1 x4 4 v1) (bR (hR h1 x4 v1.toNatClampNeg) fun x5 => gd (hS h1 x5 = some (.inl 3)) (lt (hI h1 x5 0) fun x6 => if x6 = 2 then (gd (hS h1 v0 = some (.inl 0)) (bR (hR h1 v0 5) fun x7 => gd (ai h1 x7 0 1) (lt (hI h1 x7 (1 : Int32).toNatClampNeg) fun x8 => if x8 ≤ 0 then (b_B_comesRound_45 v0 v1 h1) else (gd (hS h1 v0 = some (.inl 0)) (bd (f_B_refuse v0 (5 : Int32) h1) fun r10 h9 => some (r10, h9)))))) else (b_B_comesRound_45 v0 v1 h1)))))))
set_option maxHeartbeats 4000000 in
set_option maxRecDepth 20000 in
theorem t_B_comesRound {G : GG} (v0 : Nat) (v1 : Int32) (h : Hp) : Mt G M_B_comesRound 4 [.ref v0, .int v1] cI h (f_B_comesRound v0 v1 h) := by
  refine Mt.ofF (by decide +kernel) rfl (Rt.i rfl rfl) ?_
  show T G M_B_comesRound 4 cI 0 [(0, .ref v0), (1, .int v1)] [] h _
  unfold f_B_comesRound
  refine q_aload_n (pc := 0) (dq D_B_comesRound_0_ok 0 rfl) rfl 0 rfl ?_
  refine q_iload_n (pc := 1) (dq D_B_comesRound_0_ok 1 rfl) rfl 1 rfl ?_
  refine r_invI (Mc := M_B_hasWheel) (pc := 2) (ci := 0) (rest := []) 0 1 [.int v1] (dq D_B_comesRound_0_ok 2 rfl) rfl rfl lc_B_hasWheel lv_B_hasWheel_ ml_B_118 rfl rfl rfl rfl (t_B_hasWheel v0 v1 h) (fun r2 h1 => ?_)
  refine p_if_ne (pc := 5) 14 (dq D_B_comesRound_0_ok 3 rfl) rfl ?_ ?_
  · refine q_aload_n (pc := 14) (dq D_B_comesRound_0_ok 8 rfl) rfl 0 rfl ?_
    refine q_getR (pc := 15) (dq D_B_comesRound_0_ok 9 rfl) fa_B_23 rfl (fun x3 => ?_)
    refine q_getR (pc := 18) (dq D_B_comesRound_0_ok 10 rfl) fa_B_122 rfl (fun x4 => ?_)
    refine q_iload_n (pc := 21) (dq D_B_comesRound_0_ok 11 rfl) rfl 1 rfl ?_
    refine r_aald (pc := 22) 4 (dq D_B_comesRound_0_ok 12 rfl) rfl rfl (fun _ => rfl) (fun x5 => ?_)
    refine r_getI (pc := 23) (dq D_B_comesRound_0_ok 13 rfl) fa_B_126 rfl (fun x6 => ?_)
    refine q_ic2 (pc := 26) (dq D_B_comesRound_0_ok 14 rfl) ?_
    refine q_ic_ne (pc := 27) 45 (dq D_B_comesRound_0_ok 15 rfl) rfl ?_ ?_
    · exact T.lsub [0, 1] rfl (tb_B_comesRound_45 v0 v1 h1)
    · refine q_aload_n (pc := 30) (dq D_B_comesRound_0_ok 16 rfl) rfl 0 rfl ?_
      refine q_getR (pc := 31) (dq D_B_comesRound_0_ok 17 rfl) fa_B_30 rfl (fun x7 => ?_)
      refine q_ic1 (pc := 34) (dq D_B_comesRound_0_ok 18 rfl) ?_
      refine r_iald (pc := 35) (dq D_B_comesRound_0_ok 19 rfl) (fun x8 => ?_)
      refine p_if_le (pc := 36) 45 (dq D_B_comesRound_0_ok 20 rfl) rfl ?_ ?_
      · exact T.lsub [0, 1] rfl (tb_B_comesRound_45 v0 v1 h1)
      · refine q_aload_n (pc := 39) (dq D_B_comesRound_0_ok 21 rfl) rfl 0 rfl ?_
        refine q_ic5 (pc := 40) (dq D_B_comesRound_0_ok 22 rfl) ?_
        refine r_invI (Mc := M_B_refuse) (pc := 41) (ci := 0) (rest := []) 0 1 [.int 5] (dq D_B_comesRound_0_ok 23 rfl) rfl rfl lc_B_refuse lv_B_refuse_ ml_B_87 rfl rfl rfl rfl (t_B_refuse v0 (5 : Int32) h1) (fun r10 h9 => ?_)
        exact r_reti (pc := 44) (dq D_B_comesRound_0_ok 24 rfl) rfl
  · refine q_aload_n (pc := 8) (dq D_B_comesRound_0_ok 4 rfl) rfl 0 rfl ?_
    refine q_ic1 (pc := 9) (dq D_B_comesRound_0_ok 5 rfl) ?_
    refine r_invI (Mc := M_B_refuse) (pc := 10) (ci := 0) (rest := []) 0 1 [.int 1] (dq D_B_comesRound_0_ok 6 rfl) rfl rfl lc_B_refuse lv_B_refuse_ ml_B_87 rfl rfl rfl rfl (t_B_refuse v0 (1 : Int32) h1) (fun r12 h11 => ?_)
    exact r_reti (pc := 13) (dq D_B_comesRound_0_ok 7 rfl) rfl
noncomputable def f_U_teethUntil (v0 : Nat) (v1 : Int32) (h : Hp) : Option (Int32 × Hp) := gd (hS h v0 = some (.inl 6)) (lt (hI h v0 3) fun x1 => gd (hS h v0 = some (.inl 6)) (bd (f_U_goingsUntil v0 v1 h) fun r3 h2 => bd (f_Math_min x1 (r3 + 1) h2) fun r5 h4 => some (r5, h4)))
set_option maxHeartbeats 4000000 in
set_option maxRecDepth 20000 in
theorem t_U_teethUntil {G : GG} (v0 : Nat) (v1 : Int32) (h : Hp) : Mt G M_U_teethUntil 2 [.ref v0, .int v1] cI h (f_U_teethUntil v0 v1 h) := by
  refine Mt.ofF (by decide +kernel) rfl (Rt.i rfl rfl) ?_
  show T G M_U_teethUntil 2 cI 0 [(0, .ref v0), (1, .int v1)] [] h _
  unfold f_U_teethUntil
  refine q_aload_n (pc := 0) (dq D_U_teethUntil_0_ok 0 rfl) rfl 0 rfl ?_
  refine r_getI (pc := 1) (dq D_U_teethUntil_0_ok 1 rfl) fa_U_40 rfl (fun x1 => ?_)
  refine q_aload_n (pc := 4) (dq D_U_teethUntil_0_ok 2 rfl) rfl 0 rfl ?_
  refine q_iload_n (pc := 5) (dq D_U_teethUntil_0_ok 3 rfl) rfl 1 rfl ?_
  refine r_invI (Mc := M_U_goingsUntil) (pc := 6) (ci := 6) (rest := [.int x1]) 1 1 [.int v1] (dq D_U_teethUntil_0_ok 4 rfl) rfl rfl lc_U_goingsUntil lv_U_goingsUntil_ ml_U_73 rfl rfl rfl rfl (t_U_goingsUntil v0 v1 h) (fun r3 h2 => ?_)
  refine q_ic1 (pc := 9) (dq D_U_teethUntil_0_ok 5 rfl) ?_
  refine q_iadd (pc := 10) (dq D_U_teethUntil_0_ok 6 rfl) ?_
  refine r_insI (Mc := M_Math_min) (pc := 11) (rest := []) 0 2 [.int x1, .int (r3 + 1)] (dq D_U_teethUntil_0_ok 7 rfl) lc_Math_min ls_Math_min ml_U_70 rfl rfl rfl rfl (t_Math_min x1 (r3 + 1) h2) (fun r5 h4 => ?_)
  exact r_reti (pc := 14) (dq D_U_teethUntil_0_ok 8 rfl) rfl
noncomputable def f_B_idle (v0 : Nat) (v1 : Int32) (h : Hp) : Option (Int32 × Hp) := gd (hS h v0 = some (.inl 0)) (bd (f_B_hasWheel v0 v1 h) fun r2 h1 => if r2 = 0 then (gd (hS h1 v0 = some (.inl 0)) (bd (f_B_refuse v0 (1 : Int32) h1) fun r14 h13 => some (r14, h13))) else (gd (hS h1 v0 = some (.inl 0)) (bR (hR h1 v0 3) fun x3 => gd (hS h1 x3 = some (.inl 2)) (bR (hR h1 x3 3) fun x4 => gd (ai h1 x4 4 v1) (bR (hR h1 x4 v1.toNatClampNeg) fun x5 => gd (hS h1 x5 = some (.inl 3)) (lt (hI h1 x5 1) fun x6 => gd (hS h1 v0 = some (.inl 0)) (bd (f_B_courseOf v0 v1 h1) fun r8 h7 => gd (hS h7 r8 = some (.inl 6)) (bd (f_U_teethUntil r8 (5000 : Int32) h7) fun r10 h9 => gd (hS h9 v0 = some (.inl 0)) (bd (f_B_grant v0 (x6 - r10) h9) fun r12 h11 => some (r12, h11))))))))))
set_option maxHeartbeats 4000000 in
set_option maxRecDepth 20000 in
theorem t_B_idle {G : GG} (v0 : Nat) (v1 : Int32) (h : Hp) : Mt G M_B_idle 4 [.ref v0, .int v1] cI h (f_B_idle v0 v1 h) := by
  refine Mt.ofF (by decide +kernel) rfl (Rt.i rfl rfl) ?_
  show T G M_B_idle 4 cI 0 [(0, .ref v0), (1, .int v1)] [] h _
  unfold f_B_idle
  refine q_aload_n (pc := 0) (dq D_B_idle_0_ok 0 rfl) rfl 0 rfl ?_
  refine q_iload_n (pc := 1) (dq D_B_idle_0_ok 1 rfl) rfl 1 rfl ?_
  refine r_invI (Mc := M_B_hasWheel) (pc := 2) (ci := 0) (rest := []) 0 1 [.int v1] (dq D_B_idle_0_ok 2 rfl) rfl rfl lc_B_hasWheel lv_B_hasWheel_ ml_B_118 rfl rfl rfl rfl (t_B_hasWheel v0 v1 h) (fun r2 h1 => ?_)
  refine p_if_ne (pc := 5) 14 (dq D_B_idle_0_ok 3 rfl) rfl ?_ ?_
  · refine q_aload_n (pc := 14) (dq D_B_idle_0_ok 8 rfl) rfl 0 rfl ?_
    refine q_aload_n (pc := 15) (dq D_B_idle_0_ok 9 rfl) rfl 0 rfl ?_
    refine q_getR (pc := 16) (dq D_B_idle_0_ok 10 rfl) fa_B_23 rfl (fun x3 => ?_)
    refine q_getR (pc := 19) (dq D_B_idle_0_ok 11 rfl) fa_B_122 rfl (fun x4 => ?_)
    refine q_iload_n (pc := 22) (dq D_B_idle_0_ok 12 rfl) rfl 1 rfl ?_
    refine r_aald (pc := 23) 4 (dq D_B_idle_0_ok 13 rfl) rfl rfl (fun _ => rfl) (fun x5 => ?_)
    refine r_getI (pc := 24) (dq D_B_idle_0_ok 14 rfl) fa_B_131 rfl (fun x6 => ?_)
    refine q_aload_n (pc := 27) (dq D_B_idle_0_ok 15 rfl) rfl 0 rfl ?_
    refine q_iload_n (pc := 28) (dq D_B_idle_0_ok 16 rfl) rfl 1 rfl ?_
    refine r_invA (Mc := M_B_courseOf) (pc := 29) (ci := 0) (rest := [.int x6, .ref v0]) 3 1 [.int v1] (dq D_B_idle_0_ok 17 rfl) rfl rfl lc_B_courseOf lv_B_courseOf_ ml_B_170 rfl rfl rfl rfl (t_B_courseOf v0 v1 h1) (fun r8 h7 => ?_)
    refine q_sipush (pc := 32) (v := 5000) (dq D_B_idle_0_ok 18 rfl) (by decide) ?_
    refine r_invI (Mc := M_U_teethUntil) (pc := 35) (ci := 6) (rest := [.int x6, .ref v0]) 2 1 [.int 5000] (dq D_B_idle_0_ok 19 rfl) rfl rfl lc_U_teethUntil lv_U_teethUntil_ ml_B_186 rfl rfl rfl rfl (t_U_teethUntil r8 (5000 : Int32) h7) (fun r10 h9 => ?_)
    refine q_isub (pc := 38) (dq D_B_idle_0_ok 20 rfl) ?_
    refine r_invI (Mc := M_B_grant) (pc := 39) (ci := 0) (rest := []) 0 1 [.int (x6 - r10)] (dq D_B_idle_0_ok 21 rfl) rfl rfl lc_B_grant lv_B_grant_ ml_B_109 rfl rfl rfl rfl (t_B_grant v0 (x6 - r10) h9) (fun r12 h11 => ?_)
    exact r_reti (pc := 42) (dq D_B_idle_0_ok 22 rfl) rfl
  · refine q_aload_n (pc := 8) (dq D_B_idle_0_ok 4 rfl) rfl 0 rfl ?_
    refine q_ic1 (pc := 9) (dq D_B_idle_0_ok 5 rfl) ?_
    refine r_invI (Mc := M_B_refuse) (pc := 10) (ci := 0) (rest := []) 0 1 [.int 1] (dq D_B_idle_0_ok 6 rfl) rfl rfl lc_B_refuse lv_B_refuse_ ml_B_87 rfl rfl rfl rfl (t_B_refuse v0 (1 : Int32) h1) (fun r14 h13 => ?_)
    exact r_reti (pc := 13) (dq D_B_idle_0_ok 7 rfl) rfl
noncomputable def f_B_hasFeast (v0 : Nat) (v1 : Int32) (h : Hp) : Option (Int32 × Hp) := if v1 < 0 then (gd (zb 0) (some (0, h))) else (gd (hS h v0 = some (.inl 0)) (bR (hR h v0 3) fun x1 => gd (hS h x1 = some (.inl 2)) (lt (hI h x1 4) fun x2 => if x2 ≤ v1 then (gd (zb 0) (some (0, h))) else (gd (zb 1) (some (1, h))))))
set_option maxHeartbeats 4000000 in
set_option maxRecDepth 20000 in
theorem t_B_hasFeast {G : GG} (v0 : Nat) (v1 : Int32) (h : Hp) : Mt G M_B_hasFeast 0 [.ref v0, .int v1] cI h (f_B_hasFeast v0 v1 h) := by
  refine Mt.ofF (by decide +kernel) rfl (Rt.z rfl rfl) ?_
  show T G M_B_hasFeast 0 cI 0 [(0, .ref v0), (1, .int v1)] [] h _
  unfold f_B_hasFeast
  refine q_iload_n (pc := 0) (dq D_B_hasFeast_0_ok 0 rfl) rfl 1 rfl ?_
  refine p_if_lt (pc := 1) 19 (dq D_B_hasFeast_0_ok 1 rfl) rfl ?_ ?_
  · refine q_ic0 (pc := 19) (dq D_B_hasFeast_0_ok 9 rfl) ?_
    exact r_retz (pc := 20) (dq D_B_hasFeast_0_ok 10 rfl) rfl
  · refine q_iload_n (pc := 4) (dq D_B_hasFeast_0_ok 2 rfl) rfl 1 rfl ?_
    refine q_aload_n (pc := 5) (dq D_B_hasFeast_0_ok 3 rfl) rfl 0 rfl ?_
    refine q_getR (pc := 6) (dq D_B_hasFeast_0_ok 4 rfl) fa_B_23 rfl (fun x1 => ?_)
    refine r_getI (pc := 9) (dq D_B_hasFeast_0_ok 5 rfl) fa_B_369 rfl (fun x2 => ?_)
    refine q_ic_ge (pc := 12) 19 (dq D_B_hasFeast_0_ok 6 rfl) rfl ?_ ?_
    · refine q_ic0 (pc := 19) (dq D_B_hasFeast_0_ok 9 rfl) ?_
      exact r_retz (pc := 20) (dq D_B_hasFeast_0_ok 10 rfl) rfl
    · refine q_ic1 (pc := 15) (dq D_B_hasFeast_0_ok 7 rfl) ?_
      refine q_goto (pc := 16) 20 (dq D_B_hasFeast_0_ok 8 rfl) rfl ?_
      exact r_retz (pc := 20) (dq D_B_hasFeast_0_ok 10 rfl) rfl
noncomputable def b_C_startFrom_2 (k2 : (Nat × Nat × Nat × Int32) → Hp → Option (Unit × Hp)) (v0 : Nat) (v1 : Nat) (v2 : Nat) (v3 : Int32) (h : Hp) : Option (Unit × Hp) := gd (hS h v1 = some (.inl 2)) (lt (hI h v1 2) fun x1 => if x1 ≤ v3 then (some ((), h)) else (gd (hS h v0 = some (.inl 5)) (bd (f_C_courseFrom v0 v1 v2 v3 h) fun r3 h2 => k2 (v0, v1, v2, v3 + 1) h2)))
set_option maxHeartbeats 4000000 in
set_option maxRecDepth 20000 in
theorem tb_C_startFrom_2 {G : GG} {k2 : (Nat × Nat × Nat × Int32) → Hp → Option (Unit × Hp)} (hk2 : ∀ s h, T G M_C_startFrom 3 cU 2 [(0, .ref s.1), (1, .ref s.2.1), (2, .ref s.2.2.1), (3, .int s.2.2.2)] [] h (k2 s h)) (v0 : Nat) (v1 : Nat) (v2 : Nat) (v3 : Int32) (h : Hp) : T G M_C_startFrom 3 cU 2 [(0, .ref v0), (1, .ref v1), (2, .ref v2), (3, .int v3)] [] h (b_C_startFrom_2 k2 v0 v1 v2 v3 h) := by
  unfold b_C_startFrom_2
  refine q_iload_n (pc := 2) (dq D_C_startFrom_0_ok 2 rfl) rfl 3 rfl ?_
  refine q_aload_n (pc := 3) (dq D_C_startFrom_0_ok 3 rfl) rfl 1 rfl ?_
  refine r_getI (pc := 4) (dq D_C_startFrom_0_ok 4 rfl) fa_C_35 rfl (fun x1 => ?_)
  refine q_ic_ge (pc := 7) 24 (dq D_C_startFrom_0_ok 5 rfl) rfl ?_ ?_
  · exact r_retu (pc := 24) (dq D_C_startFrom_0_ok 14 rfl) rfl
  · refine q_aload_n (pc := 10) (dq D_C_startFrom_0_ok 6 rfl) rfl 0 rfl ?_
    refine q_aload_n (pc := 11) (dq D_C_startFrom_0_ok 7 rfl) rfl 1 rfl ?_
    refine q_aload_n (pc := 12) (dq D_C_startFrom_0_ok 8 rfl) rfl 2 rfl ?_
    refine q_iload_n (pc := 13) (dq D_C_startFrom_0_ok 9 rfl) rfl 3 rfl ?_
    refine r_invA (Mc := M_C_courseFrom) (pc := 14) (ci := 5) (rest := []) 2 3 [.ref v1, .ref v2, .int v3] (dq D_C_startFrom_0_ok 10 rfl) rfl rfl lc_C_courseFrom lv_C_courseFrom_ ml_C_41 rfl rfl rfl rfl (t_C_courseFrom v0 v1 v2 v3 h) (fun r3 h2 => ?_)
    refine q_pop (pc := 17) (dq D_C_startFrom_0_ok 11 rfl) rfl ?_
    refine q_iinc (pc := 18) (v := (1)) (ls' := [(3, .int (v3 + 1)), (0, .ref v0), (1, .ref v1), (2, .ref v2)]) (dq D_C_startFrom_0_ok 12 rfl) 3 rfl (by decide) rfl rfl ?_
    refine q_goto (pc := 21) 2 (dq D_C_startFrom_0_ok 13 rfl) rfl ?_
    exact T.lsub [1, 2, 3, 0] rfl (hk2 (v0, v1, v2, v3 + 1) h2)
noncomputable def l_C_startFrom_2 : Nat → (Nat × Nat × Nat × Int32) → Hp → Option (Unit × Hp) := lp (fun k2 s h => b_C_startFrom_2 k2 s.1 s.2.1 s.2.2.1 s.2.2.2 h)
set_option maxHeartbeats 4000000 in
set_option maxRecDepth 20000 in
theorem tl_C_startFrom_2 {G : GG} (n : Nat) (s : Nat × Nat × Nat × Int32) (h : Hp) : T G M_C_startFrom 3 cU 2 [(0, .ref s.1), (1, .ref s.2.1), (2, .ref s.2.2.1), (3, .int s.2.2.2)] [] h (l_C_startFrom_2 n s h) :=
  T.loop (lsOf := fun s => [(0, .ref s.1), (1, .ref s.2.1), (2, .ref s.2.2.1), (3, .int s.2.2.2)]) (fun k2 hk2 s h => tb_C_startFrom_2 hk2 s.1 s.2.1 s.2.2.1 s.2.2.2 h) n s h
noncomputable def f_C_startFrom (v0 : Nat) (v1 : Nat) (v2 : Nat) (h : Hp) : Option (Unit × Hp) := lt (0 : Int32) fun y1 => l_C_startFrom_2 FU (v0, v1, v2, y1) h
set_option maxHeartbeats 4000000 in
set_option maxRecDepth 20000 in
theorem t_C_startFrom {G : GG} (v0 : Nat) (v1 : Nat) (v2 : Nat) (h : Hp) : Mt G M_C_startFrom 3 [.ref v0, .ref v1, .ref v2] cU h (f_C_startFrom v0 v1 v2 h) := by
  refine Mt.ofF (by decide +kernel) rfl (Rt.v rfl rfl) ?_
  show T G M_C_startFrom 3 cU 0 [(0, .ref v0), (1, .ref v1), (2, .ref v2)] [] h _
  unfold f_C_startFrom
  refine q_ic0 (pc := 0) (dq D_C_startFrom_0_ok 0 rfl) ?_
  refine r_nmI (fun y1 => ?_)
  refine q_istore_n (pc := 1) (ls' := [(3, .int y1), (0, .ref v0), (1, .ref v1), (2, .ref v2)]) (dq D_C_startFrom_0_ok 1 rfl) rfl rfl rfl ?_
  exact T.lsub [1, 2, 3, 0] rfl (tl_C_startFrom_2 FU (v0, v1, v2, y1) h)
noncomputable def f_B_daysToCome (v0 : Nat) (h : Hp) : Option (Nat × Hp) := gd (hS h v0 = some (.inl 0)) (bR (hR h v0 9) fun x1 => gd (hS h v0 = some (.inl 0)) (bR (hR h v0 3) fun x2 => gd (hS h v0 = some (.inl 0)) (bR (hR h v0 5) fun x3 => gd (hS h x1 = some (.inl 5)) (bd (f_C_startFrom x1 x2 x3 h) fun _ h4 => gd (hS h4 v0 = some (.inl 0)) (bR (hR h4 v0 9) fun x6 => some (x6, h4))))))
set_option maxHeartbeats 4000000 in
set_option maxRecDepth 20000 in
theorem t_B_daysToCome {G : GG} (v0 : Nat) (h : Hp) : Mt G M_B_daysToCome 4 [.ref v0] cA h (f_B_daysToCome v0 h) := by
  refine Mt.ofF (by decide +kernel) rfl (Rt.a rfl rfl) ?_
  show T G M_B_daysToCome 4 cA 0 [(0, .ref v0)] [] h _
  unfold f_B_daysToCome
  refine q_aload_n (pc := 0) (dq D_B_daysToCome_0_ok 0 rfl) rfl 0 rfl ?_
  refine q_getR (pc := 1) (dq D_B_daysToCome_0_ok 1 rfl) fa_B_47 rfl (fun x1 => ?_)
  refine q_aload_n (pc := 4) (dq D_B_daysToCome_0_ok 2 rfl) rfl 0 rfl ?_
  refine q_getR (pc := 5) (dq D_B_daysToCome_0_ok 3 rfl) fa_B_23 rfl (fun x2 => ?_)
  refine q_aload_n (pc := 8) (dq D_B_daysToCome_0_ok 4 rfl) rfl 0 rfl ?_
  refine q_getR (pc := 9) (dq D_B_daysToCome_0_ok 5 rfl) fa_B_30 rfl (fun x3 => ?_)
  refine r_invU (Mc := M_C_startFrom) (pc := 12) (ci := 5) (rest := []) 3 2 [.ref x2, .ref x3] (dq D_B_daysToCome_0_ok 6 rfl) rfl rfl lc_C_startFrom lv_C_startFrom_ ml_B_395 rfl rfl rfl rfl (t_C_startFrom x1 x2 x3 h) (fun _ h4 => ?_)
  refine q_aload_n (pc := 15) (dq D_B_daysToCome_0_ok 7 rfl) rfl 0 rfl ?_
  refine q_getR (pc := 16) (dq D_B_daysToCome_0_ok 8 rfl) fa_B_47 rfl (fun x6 => ?_)
  exact r_reta (pc := 19) (dq D_B_daysToCome_0_ok 9 rfl) rfl
noncomputable def b_U_dayOfGoing_20 (v0 : Nat) (v1 : Int32) (h : Hp) : Option (Int32 × Hp) := gd (hS h v0 = some (.inl 6)) (lt (hI h v0 5) fun x1 => if x1 = 3 then (gd (hS h v0 = some (.inl 6)) (lt (hI h v0 7) fun x2 => some ((2 * v1) - x2, h))) else (some (v1, h)))
set_option maxHeartbeats 4000000 in
set_option maxRecDepth 20000 in
theorem tb_U_dayOfGoing_20 {G : GG} (v0 : Nat) (v1 : Int32) (h : Hp) : T G M_U_dayOfGoing 0 cI 20 [(0, .ref v0), (1, .int v1)] [] h (b_U_dayOfGoing_20 v0 v1 h) := by
  unfold b_U_dayOfGoing_20
  refine q_aload_n (pc := 20) (dq D_U_dayOfGoing_0_ok 10 rfl) rfl 0 rfl ?_
  refine r_getI (pc := 21) (dq D_U_dayOfGoing_0_ok 11 rfl) fa_U_27 rfl (fun x1 => ?_)
  refine q_ic3 (pc := 24) (dq D_U_dayOfGoing_0_ok 12 rfl) ?_
  refine q_ic_ne (pc := 25) 39 (dq D_U_dayOfGoing_0_ok 13 rfl) rfl ?_ ?_
  · refine q_iload_n (pc := 39) (dq D_U_dayOfGoing_0_ok 21 rfl) rfl 1 rfl ?_
    exact r_reti (pc := 40) (dq D_U_dayOfGoing_0_ok 22 rfl) rfl
  · refine q_ic2 (pc := 28) (dq D_U_dayOfGoing_0_ok 14 rfl) ?_
    refine q_iload_n (pc := 29) (dq D_U_dayOfGoing_0_ok 15 rfl) rfl 1 rfl ?_
    refine q_imul (pc := 30) (dq D_U_dayOfGoing_0_ok 16 rfl) ?_
    refine q_aload_n (pc := 31) (dq D_U_dayOfGoing_0_ok 17 rfl) rfl 0 rfl ?_
    refine r_getI (pc := 32) (dq D_U_dayOfGoing_0_ok 18 rfl) fa_U_31 rfl (fun x2 => ?_)
    refine q_isub (pc := 35) (dq D_U_dayOfGoing_0_ok 19 rfl) ?_
    refine q_goto (pc := 36) 40 (dq D_U_dayOfGoing_0_ok 20 rfl) rfl ?_
    exact r_reti (pc := 40) (dq D_U_dayOfGoing_0_ok 22 rfl) rfl
noncomputable def f_U_dayOfGoing (v0 : Nat) (v1 : Int32) (h : Hp) : Option (Int32 × Hp) := gd (hS h v0 = some (.inl 6)) (lt (hI h v0 5) fun x1 => if x1 = 2 then (gd (hS h v0 = some (.inl 6)) (lt (hI h v0 6) fun x2 => if v1 ≤ x2 then (b_U_dayOfGoing_20 v0 v1 h) else (some (5001, h)))) else (b_U_dayOfGoing_20 v0 v1 h))
set_option maxHeartbeats 4000000 in
set_option maxRecDepth 20000 in
theorem t_U_dayOfGoing {G : GG} (v0 : Nat) (v1 : Int32) (h : Hp) : Mt G M_U_dayOfGoing 0 [.ref v0, .int v1] cI h (f_U_dayOfGoing v0 v1 h) := by
  refine Mt.ofF (by decide +kernel) rfl (Rt.i rfl rfl) ?_
  show T G M_U_dayOfGoing 0 cI 0 [(0, .ref v0), (1, .int v1)] [] h _
  unfold f_U_dayOfGoing
  refine q_aload_n (pc := 0) (dq D_U_dayOfGoing_0_ok 0 rfl) rfl 0 rfl ?_
  refine r_getI (pc := 1) (dq D_U_dayOfGoing_0_ok 1 rfl) fa_U_27 rfl (fun x1 => ?_)
  refine q_ic2 (pc := 4) (dq D_U_dayOfGoing_0_ok 2 rfl) ?_
  refine q_ic_ne (pc := 5) 20 (dq D_U_dayOfGoing_0_ok 3 rfl) rfl ?_ ?_
  · exact T.lsub [0, 1] rfl (tb_U_dayOfGoing_20 v0 v1 h)
  · refine q_iload_n (pc := 8) (dq D_U_dayOfGoing_0_ok 4 rfl) rfl 1 rfl ?_
    refine q_aload_n (pc := 9) (dq D_U_dayOfGoing_0_ok 5 rfl) rfl 0 rfl ?_
    refine r_getI (pc := 10) (dq D_U_dayOfGoing_0_ok 6 rfl) fa_U_28 rfl (fun x2 => ?_)
    refine q_ic_le (pc := 13) 20 (dq D_U_dayOfGoing_0_ok 7 rfl) rfl ?_ ?_
    · exact T.lsub [0, 1] rfl (tb_U_dayOfGoing_20 v0 v1 h)
    · refine q_sipush (pc := 16) (v := 5001) (dq D_U_dayOfGoing_0_ok 8 rfl) (by decide) ?_
      exact r_reti (pc := 19) (dq D_U_dayOfGoing_0_ok 9 rfl) rfl
noncomputable def b_U_dayFrom_61 (v0 : Nat) (v2 : Int32) (v3 : Int32) (v4 : Int32) (h : Hp) : Option (Int32 × Hp) := if v3 = v4 then (some (v2, h)) else (gd (hS h v0 = some (.inl 6)) (bd (f_U_dayOfGoing v0 v3 h) fun r2 h1 => some (r2, h1)))
set_option maxHeartbeats 4000000 in
set_option maxRecDepth 20000 in
theorem tb_U_dayFrom_61 {G : GG} (v0 : Nat) (v2 : Int32) (v3 : Int32) (v4 : Int32) (h : Hp) : T G M_U_dayFrom 2 cI 61 [(0, .ref v0), (2, .int v2), (3, .int v3), (4, .int v4)] [] h (b_U_dayFrom_61 v0 v2 v3 v4 h) := by
  unfold b_U_dayFrom_61
  refine q_iload_n (pc := 61) (dq D_U_dayFrom_0_ok 35 rfl) rfl 2 rfl ?_
  refine q_iload (pc := 62) (dq D_U_dayFrom_0_ok 36 rfl) 3 rfl ?_
  refine q_ic_ne (pc := 64) 71 (dq D_U_dayFrom_0_ok 37 rfl) rfl ?_ ?_
  · refine q_aload_n (pc := 71) (dq D_U_dayFrom_0_ok 40 rfl) rfl 0 rfl ?_
    refine q_iload_n (pc := 72) (dq D_U_dayFrom_0_ok 41 rfl) rfl 2 rfl ?_
    refine r_invI (Mc := M_U_dayOfGoing) (pc := 73) (ci := 6) (rest := []) 0 1 [.int v3] (dq D_U_dayFrom_0_ok 42 rfl) rfl rfl lc_U_dayOfGoing lv_U_dayOfGoing_ ml_U_80 rfl rfl rfl rfl (t_U_dayOfGoing v0 v3 h) (fun r2 h1 => ?_)
    exact r_reti (pc := 76) (dq D_U_dayFrom_0_ok 43 rfl) rfl
  · refine q_iload_n (pc := 67) (dq D_U_dayFrom_0_ok 38 rfl) rfl 1 rfl ?_
    refine q_goto (pc := 68) 76 (dq D_U_dayFrom_0_ok 39 rfl) rfl ?_
    exact r_reti (pc := 76) (dq D_U_dayFrom_0_ok 43 rfl) rfl
noncomputable def f_U_dayFrom (v0 : Nat) (v1 : Int32) (v2 : Int32) (h : Hp) : Option (Int32 × Hp) := gd (hS h v0 = some (.inl 6)) (bR (hR h v0 1) fun x1 => gd (ai h x1 0 v1) (lt (hI h x1 v1.toNatClampNeg) fun x2 => if x2 = ((-1)) then (some (5001, h)) else (gd (hS h v0 = some (.inl 6)) (bd (f_U_goingsUntil v0 v2 h) fun r4 h3 => if r4 ≤ x2 then (b_U_dayFrom_61 v0 v2 x2 r4 h3) else (gd (hS h3 v0 = some (.inl 6)) (lt (hI h3 v0 4) fun x5 => if x5 ≤ x2 then (gd (hS h3 v0 = some (.inl 6)) (lt (hI h3 v0 3) fun x6 => gd (hS h3 v0 = some (.inl 6)) (lt (hI h3 v0 4) fun x7 => bd (f_B_remainder (x2 - r4) (x6 - x7) h3) fun r9 h8 => lt (r4 + r9 : Int32) fun y10 => b_U_dayFrom_61 v0 v2 y10 r4 h8))) else (some (5001, h3))))))))
set_option maxHeartbeats 4000000 in
set_option maxRecDepth 20000 in
theorem t_U_dayFrom {G : GG} (v0 : Nat) (v1 : Int32) (v2 : Int32) (h : Hp) : Mt G M_U_dayFrom 2 [.ref v0, .int v1, .int v2] cI h (f_U_dayFrom v0 v1 v2 h) := by
  refine Mt.ofF (by decide +kernel) rfl (Rt.i rfl rfl) ?_
  show T G M_U_dayFrom 2 cI 0 [(0, .ref v0), (1, .int v1), (2, .int v2)] [] h _
  unfold f_U_dayFrom
  refine q_aload_n (pc := 0) (dq D_U_dayFrom_0_ok 0 rfl) rfl 0 rfl ?_
  refine q_getR (pc := 1) (dq D_U_dayFrom_0_ok 1 rfl) fa_U_15 rfl (fun x1 => ?_)
  refine q_iload_n (pc := 4) (dq D_U_dayFrom_0_ok 2 rfl) rfl 1 rfl ?_
  refine r_iald (pc := 5) (dq D_U_dayFrom_0_ok 3 rfl) (fun x2 => ?_)
  refine q_istore_n (pc := 6) (ls' := [(3, .int x2), (0, .ref v0), (1, .int v1), (2, .int v2)]) (dq D_U_dayFrom_0_ok 4 rfl) rfl rfl rfl ?_
  refine q_iload_n (pc := 7) (dq D_U_dayFrom_0_ok 5 rfl) rfl 0 rfl ?_
  refine q_icm1 (pc := 8) (dq D_U_dayFrom_0_ok 6 rfl) ?_
  refine q_ic_ne (pc := 9) 16 (dq D_U_dayFrom_0_ok 7 rfl) rfl ?_ ?_
  · refine q_aload_n (pc := 16) (dq D_U_dayFrom_0_ok 10 rfl) rfl 1 rfl ?_
    refine q_iload_n (pc := 17) (dq D_U_dayFrom_0_ok 11 rfl) rfl 3 rfl ?_
    refine r_invI (Mc := M_U_goingsUntil) (pc := 18) (ci := 6) (rest := []) 1 1 [.int v2] (dq D_U_dayFrom_0_ok 12 rfl) rfl rfl lc_U_goingsUntil lv_U_goingsUntil_ ml_U_73 rfl rfl rfl rfl (t_U_goingsUntil v0 v2 h) (fun r4 h3 => ?_)
    refine q_istore (pc := 21) (ls' := [(4, .int r4), (3, .int x2), (0, .ref v0), (1, .int v1), (2, .int v2)]) (dq D_U_dayFrom_0_ok 13 rfl) rfl rfl ?_
    refine q_iload_n (pc := 23) (dq D_U_dayFrom_0_ok 14 rfl) rfl 1 rfl ?_
    refine q_iload (pc := 24) (dq D_U_dayFrom_0_ok 15 rfl) 0 rfl ?_
    refine q_ic_ge (pc := 26) 61 (dq D_U_dayFrom_0_ok 16 rfl) rfl ?_ ?_
    · exact T.lsub [2, 4, 1, 0] rfl (tb_U_dayFrom_61 v0 v2 x2 r4 h3)
    · refine q_iload_n (pc := 29) (dq D_U_dayFrom_0_ok 17 rfl) rfl 1 rfl ?_
      refine q_aload_n (pc := 30) (dq D_U_dayFrom_0_ok 18 rfl) rfl 2 rfl ?_
      refine r_getI (pc := 31) (dq D_U_dayFrom_0_ok 19 rfl) fa_U_67 rfl (fun x5 => ?_)
      refine q_ic_ge (pc := 34) 41 (dq D_U_dayFrom_0_ok 20 rfl) rfl ?_ ?_
      · refine q_iload (pc := 41) (dq D_U_dayFrom_0_ok 23 rfl) 0 rfl ?_
        refine q_iload_n (pc := 43) (dq D_U_dayFrom_0_ok 24 rfl) rfl 1 rfl ?_
        refine q_iload (pc := 44) (dq D_U_dayFrom_0_ok 25 rfl) 0 rfl ?_
        refine q_isub (pc := 46) (dq D_U_dayFrom_0_ok 26 rfl) ?_
        refine q_aload_n (pc := 47) (dq D_U_dayFrom_0_ok 27 rfl) rfl 2 rfl ?_
        refine r_getI (pc := 48) (dq D_U_dayFrom_0_ok 28 rfl) fa_U_40 rfl (fun x6 => ?_)
        refine q_aload_n (pc := 51) (dq D_U_dayFrom_0_ok 29 rfl) rfl 2 rfl ?_
        refine r_getI (pc := 52) (dq D_U_dayFrom_0_ok 30 rfl) fa_U_67 rfl (fun x7 => ?_)
        refine q_isub (pc := 55) (dq D_U_dayFrom_0_ok 31 rfl) ?_
        refine r_insI (Mc := M_B_remainder) (pc := 56) (rest := [.int r4]) 0 2 [.int (x2 - r4), .int (x6 - x7)] (dq D_U_dayFrom_0_ok 32 rfl) lc_B_remainder ls_B_remainder ml_U_77 rfl rfl rfl rfl (t_B_remainder (x2 - r4) (x6 - x7) h3) (fun r9 h8 => ?_)
        refine q_iadd (pc := 59) (dq D_U_dayFrom_0_ok 33 rfl) ?_
        refine r_nmI (fun y10 => ?_)
        refine q_istore_n (pc := 60) (ls' := [(3, .int y10), (4, .int r4), (0, .ref v0), (1, .int v1), (2, .int v2)]) (dq D_U_dayFrom_0_ok 34 rfl) rfl rfl rfl ?_
        exact T.lsub [2, 4, 0, 1] rfl (tb_U_dayFrom_61 v0 v2 y10 r4 h8)
      · refine q_sipush (pc := 37) (v := 5001) (dq D_U_dayFrom_0_ok 21 rfl) (by decide) ?_
        exact r_reti (pc := 40) (dq D_U_dayFrom_0_ok 22 rfl) rfl
  · refine q_sipush (pc := 12) (v := 5001) (dq D_U_dayFrom_0_ok 8 rfl) (by decide) ?_
    exact r_reti (pc := 15) (dq D_U_dayFrom_0_ok 9 rfl) rfl
noncomputable def b_C_waitFor_53 (k5 : (Nat × Int32 × Int32 × Int32 × Int32) → Hp → Option (Int32 × Hp)) (v0 : Nat) (v1 : Int32) (v2 : Int32) (v3 : Int32) (v4 : Int32) (h : Hp) : Option (Int32 × Hp) := k5 (v0, v1, v2, v3, v4 + 1) h
set_option maxHeartbeats 4000000 in
set_option maxRecDepth 20000 in
theorem tb_C_waitFor_53 {G : GG} {k5 : (Nat × Int32 × Int32 × Int32 × Int32) → Hp → Option (Int32 × Hp)} (hk5 : ∀ s h, T G M_C_waitFor 3 cI 5 [(0, .ref s.1), (1, .int s.2.1), (2, .int s.2.2.1), (3, .int s.2.2.2.1), (4, .int s.2.2.2.2)] [] h (k5 s h)) (v0 : Nat) (v1 : Int32) (v2 : Int32) (v3 : Int32) (v4 : Int32) (h : Hp) : T G M_C_waitFor 3 cI 53 [(0, .ref v0), (1, .int v1), (2, .int v2), (3, .int v3), (4, .int v4)] [] h (b_C_waitFor_53 k5 v0 v1 v2 v3 v4 h) := by
  unfold b_C_waitFor_53
  refine q_iinc (pc := 53) (v := (1)) (ls' := [(4, .int (v4 + 1)), (0, .ref v0), (1, .int v1), (2, .int v2), (3, .int v3)]) (dq D_C_waitFor_0_ok 28 rfl) 4 rfl (by decide) rfl rfl ?_
  refine q_goto (pc := 56) 5 (dq D_C_waitFor_0_ok 29 rfl) rfl ?_
  exact T.lsub [1, 2, 3, 4, 0] rfl (hk5 (v0, v1, v2, v3, v4 + 1) h)
noncomputable def b_C_waitFor_5 (k5 : (Nat × Int32 × Int32 × Int32 × Int32) → Hp → Option (Int32 × Hp)) (v0 : Nat) (v1 : Int32) (v2 : Int32) (v3 : Int32) (v4 : Int32) (h : Hp) : Option (Int32 × Hp) := gd (hS h v0 = some (.inl 5)) (bR (hR h v0 5) fun x1 => gd (hS h x1 = some (.inl 2)) (lt (hI h x1 2) fun x2 => if x2 ≤ v4 then (some (v3, h)) else (gd (hS h v0 = some (.inl 5)) (bR (hR h v0 5) fun x3 => gd (hS h x3 = some (.inl 2)) (bd (f_O_feastTooth x3 v1 v4 h) fun r5 h4 => if r5 = ((-1)) then (b_C_waitFor_53 k5 v0 v1 v2 v3 v4 h4) else (gd (hS h4 v0 = some (.inl 5)) (bR (hR h4 v0 0) fun x6 => gd (ai h4 x6 5 v4) (bR (hR h4 x6 v4.toNatClampNeg) fun x7 => gd (hS h4 x7 = some (.inl 6)) (bd (f_U_dayFrom x7 r5 v2 h4) fun r9 h8 => bd (f_Math_max v3 r9 h8) fun r11 h10 => b_C_waitFor_53 k5 v0 v1 v2 r11 v4 h10)))))))))
set_option maxHeartbeats 4000000 in
set_option maxRecDepth 20000 in
theorem tb_C_waitFor_5 {G : GG} {k5 : (Nat × Int32 × Int32 × Int32 × Int32) → Hp → Option (Int32 × Hp)} (hk5 : ∀ s h, T G M_C_waitFor 3 cI 5 [(0, .ref s.1), (1, .int s.2.1), (2, .int s.2.2.1), (3, .int s.2.2.2.1), (4, .int s.2.2.2.2)] [] h (k5 s h)) (v0 : Nat) (v1 : Int32) (v2 : Int32) (v3 : Int32) (v4 : Int32) (h : Hp) : T G M_C_waitFor 3 cI 5 [(0, .ref v0), (1, .int v1), (2, .int v2), (3, .int v3), (4, .int v4)] [] h (b_C_waitFor_5 k5 v0 v1 v2 v3 v4 h) := by
  unfold b_C_waitFor_5
  refine q_iload (pc := 5) (dq D_C_waitFor_0_ok 4 rfl) 4 rfl ?_
  refine q_aload_n (pc := 7) (dq D_C_waitFor_0_ok 5 rfl) rfl 0 rfl ?_
  refine q_getR (pc := 8) (dq D_C_waitFor_0_ok 6 rfl) fa_C_45 rfl (fun x1 => ?_)
  refine r_getI (pc := 11) (dq D_C_waitFor_0_ok 7 rfl) fa_C_35 rfl (fun x2 => ?_)
  refine q_ic_ge (pc := 14) 59 (dq D_C_waitFor_0_ok 8 rfl) rfl ?_ ?_
  · refine q_iload_n (pc := 59) (dq D_C_waitFor_0_ok 30 rfl) rfl 3 rfl ?_
    exact r_reti (pc := 60) (dq D_C_waitFor_0_ok 31 rfl) rfl
  · refine q_aload_n (pc := 17) (dq D_C_waitFor_0_ok 9 rfl) rfl 0 rfl ?_
    refine q_getR (pc := 18) (dq D_C_waitFor_0_ok 10 rfl) fa_C_45 rfl (fun x3 => ?_)
    refine q_iload_n (pc := 21) (dq D_C_waitFor_0_ok 11 rfl) rfl 1 rfl ?_
    refine q_iload (pc := 22) (dq D_C_waitFor_0_ok 12 rfl) 4 rfl ?_
    refine r_invI (Mc := M_O_feastTooth) (pc := 24) (ci := 2) (rest := []) 0 2 [.int v1, .int v4] (dq D_C_waitFor_0_ok 13 rfl) rfl rfl lc_O_feastTooth lv_O_feastTooth_ ml_C_76 rfl rfl rfl rfl (t_O_feastTooth x3 v1 v4 h) (fun r5 h4 => ?_)
    refine q_istore (pc := 27) (ls' := [(5, .int r5), (0, .ref v0), (1, .int v1), (2, .int v2), (3, .int v3), (4, .int v4)]) (dq D_C_waitFor_0_ok 14 rfl) rfl rfl ?_
    refine q_iload (pc := 29) (dq D_C_waitFor_0_ok 15 rfl) 0 rfl ?_
    refine q_icm1 (pc := 31) (dq D_C_waitFor_0_ok 16 rfl) ?_
    refine q_ic_eq (pc := 32) 53 (dq D_C_waitFor_0_ok 17 rfl) rfl ?_ ?_
    · exact T.lsub [1, 2, 3, 4, 5] rfl (tb_C_waitFor_53 hk5 v0 v1 v2 v3 v4 h4)
    · refine q_iload_n (pc := 35) (dq D_C_waitFor_0_ok 18 rfl) rfl 4 rfl ?_
      refine q_aload_n (pc := 36) (dq D_C_waitFor_0_ok 19 rfl) rfl 1 rfl ?_
      refine q_getR (pc := 37) (dq D_C_waitFor_0_ok 20 rfl) fa_C_11 rfl (fun x6 => ?_)
      refine q_iload (pc := 40) (dq D_C_waitFor_0_ok 21 rfl) 5 rfl ?_
      refine r_aald (pc := 42) 5 (dq D_C_waitFor_0_ok 22 rfl) rfl rfl (fun _ => rfl) (fun x7 => ?_)
      refine q_iload (pc := 43) (dq D_C_waitFor_0_ok 23 rfl) 0 rfl ?_
      refine q_iload_n (pc := 45) (dq D_C_waitFor_0_ok 24 rfl) rfl 3 rfl ?_
      refine r_invI (Mc := M_U_dayFrom) (pc := 46) (ci := 6) (rest := [.int v3]) 2 2 [.int r5, .int v2] (dq D_C_waitFor_0_ok 25 rfl) rfl rfl lc_U_dayFrom lv_U_dayFrom_ ml_C_79 rfl rfl rfl rfl (t_U_dayFrom x7 r5 v2 h4) (fun r9 h8 => ?_)
      refine r_insI (Mc := M_Math_max) (pc := 49) (rest := []) 0 2 [.int v3, .int r9] (dq D_C_waitFor_0_ok 26 rfl) lc_Math_max ls_Math_max ml_C_68 rfl rfl rfl rfl (t_Math_max v3 r9 h8) (fun r11 h10 => ?_)
      refine q_istore_n (pc := 52) (ls' := [(3, .int r11), (5, .int r5), (0, .ref v0), (1, .int v1), (2, .int v2), (4, .int v4)]) (dq D_C_waitFor_0_ok 27 rfl) rfl rfl rfl ?_
      exact T.lsub [2, 3, 4, 0, 5] rfl (tb_C_waitFor_53 hk5 v0 v1 v2 r11 v4 h10)
noncomputable def l_C_waitFor_5 : Nat → (Nat × Int32 × Int32 × Int32 × Int32) → Hp → Option (Int32 × Hp) := lp (fun k5 s h => b_C_waitFor_5 k5 s.1 s.2.1 s.2.2.1 s.2.2.2.1 s.2.2.2.2 h)
set_option maxHeartbeats 4000000 in
set_option maxRecDepth 20000 in
theorem tl_C_waitFor_5 {G : GG} (n : Nat) (s : Nat × Int32 × Int32 × Int32 × Int32) (h : Hp) : T G M_C_waitFor 3 cI 5 [(0, .ref s.1), (1, .int s.2.1), (2, .int s.2.2.1), (3, .int s.2.2.2.1), (4, .int s.2.2.2.2)] [] h (l_C_waitFor_5 n s h) :=
  T.loop (lsOf := fun s => [(0, .ref s.1), (1, .int s.2.1), (2, .int s.2.2.1), (3, .int s.2.2.2.1), (4, .int s.2.2.2.2)]) (fun k5 hk5 s h => tb_C_waitFor_5 hk5 s.1 s.2.1 s.2.2.1 s.2.2.2.1 s.2.2.2.2 h) n s h
noncomputable def f_C_waitFor (v0 : Nat) (v1 : Int32) (v2 : Int32) (h : Hp) : Option (Int32 × Hp) := lt (0 : Int32) fun y1 => l_C_waitFor_5 FU (v0, v1, v2, v2, y1) h
set_option maxHeartbeats 4000000 in
set_option maxRecDepth 20000 in
theorem t_C_waitFor {G : GG} (v0 : Nat) (v1 : Int32) (v2 : Int32) (h : Hp) : Mt G M_C_waitFor 3 [.ref v0, .int v1, .int v2] cI h (f_C_waitFor v0 v1 v2 h) := by
  refine Mt.ofF (by decide +kernel) rfl (Rt.i rfl rfl) ?_
  show T G M_C_waitFor 3 cI 0 [(0, .ref v0), (1, .int v1), (2, .int v2)] [] h _
  unfold f_C_waitFor
  refine q_iload_n (pc := 0) (dq D_C_waitFor_0_ok 0 rfl) rfl 2 rfl ?_
  refine q_istore_n (pc := 1) (ls' := [(3, .int v2), (0, .ref v0), (1, .int v1), (2, .int v2)]) (dq D_C_waitFor_0_ok 1 rfl) rfl rfl rfl ?_
  refine q_ic0 (pc := 2) (dq D_C_waitFor_0_ok 2 rfl) ?_
  refine r_nmI (fun y1 => ?_)
  refine q_istore (pc := 3) (ls' := [(4, .int y1), (3, .int v2), (0, .ref v0), (1, .int v1), (2, .int v2)]) (dq D_C_waitFor_0_ok 3 rfl) rfl rfl ?_
  exact T.lsub [2, 3, 4, 1, 0] rfl (tl_C_waitFor_5 FU (v0, v1, v2, v2, y1) h)
noncomputable def f_O_daysToSky (v0 : Nat) (v1 : Int32) (v2 : Int32) (h : Hp) : Option (Int32 × Hp) := gd (hS h v0 = some (.inl 2)) (bR (hR h v0 11) fun x1 => gd (ai h x1 0 v1) (lt (hI h x1 v1.toNatClampNeg) fun x2 => if x2 < v2 then (gd (hS h v0 = some (.inl 2)) (bR (hR h v0 11) fun x3 => gd (ai h x3 0 v1) (lt (hI h x3 v1.toNatClampNeg) fun x4 => gd (hS h v0 = some (.inl 2)) (bR (hR h v0 10) fun x5 => gd (ai h x5 0 v1) (lt (hI h x5 v1.toNatClampNeg) fun x6 => bd (f_B_remainder (v2 - x4) x6 h) fun r8 h7 => if r8 = 0 then (some (0, h7)) else (gd (hS h7 v0 = some (.inl 2)) (bR (hR h7 v0 10) fun x9 => gd (ai h7 x9 0 v1) (lt (hI h7 x9 v1.toNatClampNeg) fun x10 => some (x10 - r8, h7))))))))) else (gd (hS h v0 = some (.inl 2)) (bR (hR h v0 11) fun x11 => gd (ai h x11 0 v1) (lt (hI h x11 v1.toNatClampNeg) fun x12 => some (x12 - v2, h))))))
set_option maxHeartbeats 4000000 in
set_option maxRecDepth 20000 in
theorem t_O_daysToSky {G : GG} (v0 : Nat) (v1 : Int32) (v2 : Int32) (h : Hp) : Mt G M_O_daysToSky 1 [.ref v0, .int v1, .int v2] cI h (f_O_daysToSky v0 v1 v2 h) := by
  refine Mt.ofF (by decide +kernel) rfl (Rt.i rfl rfl) ?_
  show T G M_O_daysToSky 1 cI 0 [(0, .ref v0), (1, .int v1), (2, .int v2)] [] h _
  unfold f_O_daysToSky
  refine q_iload_n (pc := 0) (dq D_O_daysToSky_0_ok 0 rfl) rfl 2 rfl ?_
  refine q_aload_n (pc := 1) (dq D_O_daysToSky_0_ok 1 rfl) rfl 0 rfl ?_
  refine q_getR (pc := 2) (dq D_O_daysToSky_0_ok 2 rfl) fa_O_33 rfl (fun x1 => ?_)
  refine q_iload_n (pc := 5) (dq D_O_daysToSky_0_ok 3 rfl) rfl 1 rfl ?_
  refine r_iald (pc := 6) (dq D_O_daysToSky_0_ok 4 rfl) (fun x2 => ?_)
  refine q_ic_gt (pc := 7) 19 (dq D_O_daysToSky_0_ok 5 rfl) rfl ?_ ?_
  · refine q_iload_n (pc := 19) (dq D_O_daysToSky_0_ok 13 rfl) rfl 2 rfl ?_
    refine q_aload_n (pc := 20) (dq D_O_daysToSky_0_ok 14 rfl) rfl 0 rfl ?_
    refine q_getR (pc := 21) (dq D_O_daysToSky_0_ok 15 rfl) fa_O_33 rfl (fun x3 => ?_)
    refine q_iload_n (pc := 24) (dq D_O_daysToSky_0_ok 16 rfl) rfl 1 rfl ?_
    refine r_iald (pc := 25) (dq D_O_daysToSky_0_ok 17 rfl) (fun x4 => ?_)
    refine q_isub (pc := 26) (dq D_O_daysToSky_0_ok 18 rfl) ?_
    refine q_aload_n (pc := 27) (dq D_O_daysToSky_0_ok 19 rfl) rfl 0 rfl ?_
    refine q_getR (pc := 28) (dq D_O_daysToSky_0_ok 20 rfl) fa_O_30 rfl (fun x5 => ?_)
    refine q_iload_n (pc := 31) (dq D_O_daysToSky_0_ok 21 rfl) rfl 1 rfl ?_
    refine r_iald (pc := 32) (dq D_O_daysToSky_0_ok 22 rfl) (fun x6 => ?_)
    refine r_insI (Mc := M_B_remainder) (pc := 33) (rest := []) 0 2 [.int (v2 - x4), .int x6] (dq D_O_daysToSky_0_ok 23 rfl) lc_B_remainder ls_B_remainder ml_O_90 rfl rfl rfl rfl (t_B_remainder (v2 - x4) x6 h) (fun r8 h7 => ?_)
    refine q_istore_n (pc := 36) (ls' := [(3, .int r8), (0, .ref v0), (1, .int v1), (2, .int v2)]) (dq D_O_daysToSky_0_ok 24 rfl) rfl rfl rfl ?_
    refine q_iload_n (pc := 37) (dq D_O_daysToSky_0_ok 25 rfl) rfl 0 rfl ?_
    refine p_if_ne (pc := 38) 45 (dq D_O_daysToSky_0_ok 26 rfl) rfl ?_ ?_
    · refine q_aload_n (pc := 45) (dq D_O_daysToSky_0_ok 29 rfl) rfl 1 rfl ?_
      refine q_getR (pc := 46) (dq D_O_daysToSky_0_ok 30 rfl) fa_O_30 rfl (fun x9 => ?_)
      refine q_iload_n (pc := 49) (dq D_O_daysToSky_0_ok 31 rfl) rfl 2 rfl ?_
      refine r_iald (pc := 50) (dq D_O_daysToSky_0_ok 32 rfl) (fun x10 => ?_)
      refine q_iload_n (pc := 51) (dq D_O_daysToSky_0_ok 33 rfl) rfl 0 rfl ?_
      refine q_isub (pc := 52) (dq D_O_daysToSky_0_ok 34 rfl) ?_
      exact r_reti (pc := 53) (dq D_O_daysToSky_0_ok 35 rfl) rfl
    · refine q_ic0 (pc := 41) (dq D_O_daysToSky_0_ok 27 rfl) ?_
      refine q_goto (pc := 42) 53 (dq D_O_daysToSky_0_ok 28 rfl) rfl ?_
      exact r_reti (pc := 53) (dq D_O_daysToSky_0_ok 35 rfl) rfl
  · refine q_aload_n (pc := 10) (dq D_O_daysToSky_0_ok 6 rfl) rfl 0 rfl ?_
    refine q_getR (pc := 11) (dq D_O_daysToSky_0_ok 7 rfl) fa_O_33 rfl (fun x11 => ?_)
    refine q_iload_n (pc := 14) (dq D_O_daysToSky_0_ok 8 rfl) rfl 1 rfl ?_
    refine r_iald (pc := 15) (dq D_O_daysToSky_0_ok 9 rfl) (fun x12 => ?_)
    refine q_iload_n (pc := 16) (dq D_O_daysToSky_0_ok 10 rfl) rfl 2 rfl ?_
    refine q_isub (pc := 17) (dq D_O_daysToSky_0_ok 11 rfl) ?_
    exact r_reti (pc := 18) (dq D_O_daysToSky_0_ok 12 rfl) rfl
noncomputable def b_C_firstDay_81 (k8 : (Nat × Int32 × Int32 × Int32 × Int32 × Int32 × Int32) → Hp → Option (Int32 × Hp)) (v0 : Nat) (v1 : Int32) (v2 : Int32) (v3 : Int32) (v5 : Int32) (v6 : Int32) (v7 : Int32) (v8 : Int32) (h : Hp) : Option (Int32 × Hp) := if v8 = v6 then (some (v6, h)) else (k8 (v0, v1, v2, v3, v5, v8, v7 + 1) h)
set_option maxHeartbeats 4000000 in
set_option maxRecDepth 20000 in
theorem tb_C_firstDay_81 {G : GG} {k8 : (Nat × Int32 × Int32 × Int32 × Int32 × Int32 × Int32) → Hp → Option (Int32 × Hp)} (hk8 : ∀ s h, T G M_C_firstDay 4 cI 8 [(0, .ref s.1), (1, .int s.2.1), (2, .int s.2.2.1), (3, .int s.2.2.2.1), (5, .int s.2.2.2.2.1), (6, .int s.2.2.2.2.2.1), (7, .int s.2.2.2.2.2.2)] [] h (k8 s h)) (v0 : Nat) (v1 : Int32) (v2 : Int32) (v3 : Int32) (v5 : Int32) (v6 : Int32) (v7 : Int32) (v8 : Int32) (h : Hp) : T G M_C_firstDay 4 cI 81 [(0, .ref v0), (1, .int v1), (2, .int v2), (3, .int v3), (5, .int v5), (6, .int v6), (7, .int v7), (8, .int v8)] [] h (b_C_firstDay_81 k8 v0 v1 v2 v3 v5 v6 v7 v8 h) := by
  unfold b_C_firstDay_81
  refine q_iload (pc := 81) (dq D_C_firstDay_0_ok 42 rfl) 7 rfl ?_
  refine q_iload (pc := 83) (dq D_C_firstDay_0_ok 43 rfl) 5 rfl ?_
  refine q_ic_ne (pc := 85) 91 (dq D_C_firstDay_0_ok 44 rfl) rfl ?_ ?_
  · refine q_iload (pc := 91) (dq D_C_firstDay_0_ok 47 rfl) 7 rfl ?_
    refine q_istore (pc := 93) (ls' := [(6, .int v8), (0, .ref v0), (1, .int v1), (2, .int v2), (3, .int v3), (5, .int v5), (7, .int v7), (8, .int v8)]) (dq D_C_firstDay_0_ok 48 rfl) rfl rfl ?_
    refine q_iinc (pc := 95) (v := (1)) (ls' := [(7, .int (v7 + 1)), (6, .int v8), (0, .ref v0), (1, .int v1), (2, .int v2), (3, .int v3), (5, .int v5), (8, .int v8)]) (dq D_C_firstDay_0_ok 49 rfl) 6 rfl (by decide) rfl rfl ?_
    refine q_goto (pc := 98) 8 (dq D_C_firstDay_0_ok 50 rfl) rfl ?_
    exact T.lsub [2, 3, 4, 5, 6, 1, 0] rfl (hk8 (v0, v1, v2, v3, v5, v8, v7 + 1) h)
  · refine q_iload (pc := 88) (dq D_C_firstDay_0_ok 45 rfl) 5 rfl ?_
    exact r_reti (pc := 90) (dq D_C_firstDay_0_ok 46 rfl) rfl
noncomputable def b_C_firstDay_50 (k8 : (Nat × Int32 × Int32 × Int32 × Int32 × Int32 × Int32) → Hp → Option (Int32 × Hp)) (v0 : Nat) (v1 : Int32) (v2 : Int32) (v3 : Int32) (v5 : Int32) (v6 : Int32) (v7 : Int32) (v8 : Int32) (h : Hp) : Option (Int32 × Hp) := if v3 = 0 then (b_C_firstDay_81 k8 v0 v1 v2 v3 v5 v6 v7 v8 h) else (gd (hS h v0 = some (.inl 5)) (bR (hR h v0 5) fun x1 => gd (hS h v0 = some (.inl 5)) (bR (hR h v0 6) fun x2 => gd (ai h x2 0 0) (lt (hI h x2 (0 : Int32).toNatClampNeg) fun x3 => gd (hS h x1 = some (.inl 2)) (bd (f_O_daysToSky x1 v1 (x3 + v6) h) fun r5 h4 => bd (f_Math_max v8 (v6 + r5) h4) fun r7 h6 => b_C_firstDay_81 k8 v0 v1 v2 v3 v5 v6 v7 r7 h6)))))
set_option maxHeartbeats 4000000 in
set_option maxRecDepth 20000 in
theorem tb_C_firstDay_50 {G : GG} {k8 : (Nat × Int32 × Int32 × Int32 × Int32 × Int32 × Int32) → Hp → Option (Int32 × Hp)} (hk8 : ∀ s h, T G M_C_firstDay 4 cI 8 [(0, .ref s.1), (1, .int s.2.1), (2, .int s.2.2.1), (3, .int s.2.2.2.1), (5, .int s.2.2.2.2.1), (6, .int s.2.2.2.2.2.1), (7, .int s.2.2.2.2.2.2)] [] h (k8 s h)) (v0 : Nat) (v1 : Int32) (v2 : Int32) (v3 : Int32) (v5 : Int32) (v6 : Int32) (v7 : Int32) (v8 : Int32) (h : Hp) : T G M_C_firstDay 4 cI 50 [(0, .ref v0), (1, .int v1), (2, .int v2), (3, .int v3), (5, .int v5), (6, .int v6), (7, .int v7), (8, .int v8)] [] h (b_C_firstDay_50 k8 v0 v1 v2 v3 v5 v6 v7 v8 h) := by
  unfold b_C_firstDay_50
  refine q_iload_n (pc := 50) (dq D_C_firstDay_0_ok 25 rfl) rfl 3 rfl ?_
  refine p_if_eq (pc := 51) 81 (dq D_C_firstDay_0_ok 26 rfl) rfl ?_ ?_
  · exact T.lsub [0, 1, 2, 3, 4, 5, 6, 7] rfl (tb_C_firstDay_81 hk8 v0 v1 v2 v3 v5 v6 v7 v8 h)
  · refine q_iload (pc := 54) (dq D_C_firstDay_0_ok 27 rfl) 7 rfl ?_
    refine q_iload (pc := 56) (dq D_C_firstDay_0_ok 28 rfl) 5 rfl ?_
    refine q_aload_n (pc := 58) (dq D_C_firstDay_0_ok 29 rfl) rfl 0 rfl ?_
    refine q_getR (pc := 59) (dq D_C_firstDay_0_ok 30 rfl) fa_C_45 rfl (fun x1 => ?_)
    refine q_iload_n (pc := 62) (dq D_C_firstDay_0_ok 31 rfl) rfl 1 rfl ?_
    refine q_aload_n (pc := 63) (dq D_C_firstDay_0_ok 32 rfl) rfl 0 rfl ?_
    refine q_getR (pc := 64) (dq D_C_firstDay_0_ok 33 rfl) fa_C_49 rfl (fun x2 => ?_)
    refine q_ic0 (pc := 67) (dq D_C_firstDay_0_ok 34 rfl) ?_
    refine r_iald (pc := 68) (dq D_C_firstDay_0_ok 35 rfl) (fun x3 => ?_)
    refine q_iload (pc := 69) (dq D_C_firstDay_0_ok 36 rfl) 5 rfl ?_
    refine q_iadd (pc := 71) (dq D_C_firstDay_0_ok 37 rfl) ?_
    refine r_invI (Mc := M_O_daysToSky) (pc := 72) (ci := 2) (rest := [.int v6, .int v8]) 1 2 [.int v1, .int (x3 + v6)] (dq D_C_firstDay_0_ok 38 rfl) rfl rfl lc_O_daysToSky lv_O_daysToSky_ ml_C_73 rfl rfl rfl rfl (t_O_daysToSky x1 v1 (x3 + v6) h) (fun r5 h4 => ?_)
    refine q_iadd (pc := 75) (dq D_C_firstDay_0_ok 39 rfl) ?_
    refine r_insI (Mc := M_Math_max) (pc := 76) (rest := []) 0 2 [.int v8, .int (v6 + r5)] (dq D_C_firstDay_0_ok 40 rfl) lc_Math_max ls_Math_max ml_C_68 rfl rfl rfl rfl (t_Math_max v8 (v6 + r5) h4) (fun r7 h6 => ?_)
    refine q_istore (pc := 79) (ls' := [(8, .int r7), (0, .ref v0), (1, .int v1), (2, .int v2), (3, .int v3), (5, .int v5), (6, .int v6), (7, .int v7)]) (dq D_C_firstDay_0_ok 41 rfl) rfl rfl ?_
    exact T.lsub [1, 2, 3, 4, 5, 6, 7, 0] rfl (tb_C_firstDay_81 hk8 v0 v1 v2 v3 v5 v6 v7 r7 h6)
noncomputable def b_C_firstDay_8 (k8 : (Nat × Int32 × Int32 × Int32 × Int32 × Int32 × Int32) → Hp → Option (Int32 × Hp)) (v0 : Nat) (v1 : Int32) (v2 : Int32) (v3 : Int32) (v5 : Int32) (v6 : Int32) (v7 : Int32) (h : Hp) : Option (Int32 × Hp) := if v5 < v7 then (some ((-2), h)) else (if v5 < v6 then (some ((-2), h)) else (gd (hS h v0 = some (.inl 5)) (bd (f_C_waitFor v0 v1 v6 h) fun r2 h1 => if v2 = v1 then (b_C_firstDay_50 k8 v0 v1 v2 v3 v5 v6 v7 r2 h1) else (gd (hS h1 v0 = some (.inl 5)) (bd (f_C_waitFor v0 v2 v6 h1) fun r4 h3 => bd (f_Math_max r2 r4 h3) fun r6 h5 => b_C_firstDay_50 k8 v0 v1 v2 v3 v5 v6 v7 r6 h5)))))
set_option maxHeartbeats 4000000 in
set_option maxRecDepth 20000 in
theorem tb_C_firstDay_8 {G : GG} {k8 : (Nat × Int32 × Int32 × Int32 × Int32 × Int32 × Int32) → Hp → Option (Int32 × Hp)} (hk8 : ∀ s h, T G M_C_firstDay 4 cI 8 [(0, .ref s.1), (1, .int s.2.1), (2, .int s.2.2.1), (3, .int s.2.2.2.1), (5, .int s.2.2.2.2.1), (6, .int s.2.2.2.2.2.1), (7, .int s.2.2.2.2.2.2)] [] h (k8 s h)) (v0 : Nat) (v1 : Int32) (v2 : Int32) (v3 : Int32) (v5 : Int32) (v6 : Int32) (v7 : Int32) (h : Hp) : T G M_C_firstDay 4 cI 8 [(0, .ref v0), (1, .int v1), (2, .int v2), (3, .int v3), (5, .int v5), (6, .int v6), (7, .int v7)] [] h (b_C_firstDay_8 k8 v0 v1 v2 v3 v5 v6 v7 h) := by
  unfold b_C_firstDay_8
  refine q_iload (pc := 8) (dq D_C_firstDay_0_ok 4 rfl) 6 rfl ?_
  refine q_iload (pc := 10) (dq D_C_firstDay_0_ok 5 rfl) 4 rfl ?_
  refine q_ic_gt (pc := 12) 101 (dq D_C_firstDay_0_ok 6 rfl) rfl ?_ ?_
  · refine q_bipush (pc := 101) (v := (-2)) (dq D_C_firstDay_0_ok 51 rfl) (by decide) ?_
    exact r_reti (pc := 103) (dq D_C_firstDay_0_ok 52 rfl) rfl
  · refine q_iload (pc := 15) (dq D_C_firstDay_0_ok 7 rfl) 5 rfl ?_
    refine q_iload (pc := 17) (dq D_C_firstDay_0_ok 8 rfl) 4 rfl ?_
    refine q_ic_gt (pc := 19) 101 (dq D_C_firstDay_0_ok 9 rfl) rfl ?_ ?_
    · refine q_bipush (pc := 101) (v := (-2)) (dq D_C_firstDay_0_ok 51 rfl) (by decide) ?_
      exact r_reti (pc := 103) (dq D_C_firstDay_0_ok 52 rfl) rfl
    · refine q_aload_n (pc := 22) (dq D_C_firstDay_0_ok 10 rfl) rfl 0 rfl ?_
      refine q_iload_n (pc := 23) (dq D_C_firstDay_0_ok 11 rfl) rfl 1 rfl ?_
      refine q_iload (pc := 24) (dq D_C_firstDay_0_ok 12 rfl) 5 rfl ?_
      refine r_invI (Mc := M_C_waitFor) (pc := 26) (ci := 5) (rest := []) 3 2 [.int v1, .int v6] (dq D_C_firstDay_0_ok 13 rfl) rfl rfl lc_C_waitFor lv_C_waitFor_ ml_C_64 rfl rfl rfl rfl (t_C_waitFor v0 v1 v6 h) (fun r2 h1 => ?_)
      refine q_istore (pc := 29) (ls' := [(8, .int r2), (0, .ref v0), (1, .int v1), (2, .int v2), (3, .int v3), (5, .int v5), (6, .int v6), (7, .int v7)]) (dq D_C_firstDay_0_ok 14 rfl) rfl rfl ?_
      refine q_iload_n (pc := 31) (dq D_C_firstDay_0_ok 15 rfl) rfl 3 rfl ?_
      refine q_iload_n (pc := 32) (dq D_C_firstDay_0_ok 16 rfl) rfl 2 rfl ?_
      refine q_ic_eq (pc := 33) 50 (dq D_C_firstDay_0_ok 17 rfl) rfl ?_ ?_
      · exact T.lsub [1, 2, 3, 4, 5, 6, 7, 0] rfl (tb_C_firstDay_50 hk8 v0 v1 v2 v3 v5 v6 v7 r2 h1)
      · refine q_iload (pc := 36) (dq D_C_firstDay_0_ok 18 rfl) 0 rfl ?_
        refine q_aload_n (pc := 38) (dq D_C_firstDay_0_ok 19 rfl) rfl 1 rfl ?_
        refine q_iload_n (pc := 39) (dq D_C_firstDay_0_ok 20 rfl) rfl 3 rfl ?_
        refine q_iload (pc := 40) (dq D_C_firstDay_0_ok 21 rfl) 6 rfl ?_
        refine r_invI (Mc := M_C_waitFor) (pc := 42) (ci := 5) (rest := [.int r2]) 3 2 [.int v2, .int v6] (dq D_C_firstDay_0_ok 22 rfl) rfl rfl lc_C_waitFor lv_C_waitFor_ ml_C_64 rfl rfl rfl rfl (t_C_waitFor v0 v2 v6 h1) (fun r4 h3 => ?_)
        refine r_insI (Mc := M_Math_max) (pc := 45) (rest := []) 0 2 [.int r2, .int r4] (dq D_C_firstDay_0_ok 23 rfl) lc_Math_max ls_Math_max ml_C_68 rfl rfl rfl rfl (t_Math_max r2 r4 h3) (fun r6 h5 => ?_)
        refine q_istore (pc := 48) (ls' := [(8, .int r6), (0, .ref v0), (1, .int v1), (2, .int v2), (3, .int v3), (5, .int v5), (6, .int v6), (7, .int v7)]) (dq D_C_firstDay_0_ok 24 rfl) rfl rfl ?_
        exact T.lsub [1, 2, 3, 4, 5, 6, 7, 0] rfl (tb_C_firstDay_50 hk8 v0 v1 v2 v3 v5 v6 v7 r6 h5)
noncomputable def l_C_firstDay_8 : Nat → (Nat × Int32 × Int32 × Int32 × Int32 × Int32 × Int32) → Hp → Option (Int32 × Hp) := lp (fun k8 s h => b_C_firstDay_8 k8 s.1 s.2.1 s.2.2.1 s.2.2.2.1 s.2.2.2.2.1 s.2.2.2.2.2.1 s.2.2.2.2.2.2 h)
set_option maxHeartbeats 4000000 in
set_option maxRecDepth 20000 in
theorem tl_C_firstDay_8 {G : GG} (n : Nat) (s : Nat × Int32 × Int32 × Int32 × Int32 × Int32 × Int32) (h : Hp) : T G M_C_firstDay 4 cI 8 [(0, .ref s.1), (1, .int s.2.1), (2, .int s.2.2.1), (3, .int s.2.2.2.1), (5, .int s.2.2.2.2.1), (6, .int s.2.2.2.2.2.1), (7, .int s.2.2.2.2.2.2)] [] h (l_C_firstDay_8 n s h) :=
  T.loop (lsOf := fun s => [(0, .ref s.1), (1, .int s.2.1), (2, .int s.2.2.1), (3, .int s.2.2.2.1), (5, .int s.2.2.2.2.1), (6, .int s.2.2.2.2.2.1), (7, .int s.2.2.2.2.2.2)]) (fun k8 hk8 s h => tb_C_firstDay_8 hk8 s.1 s.2.1 s.2.2.1 s.2.2.2.1 s.2.2.2.2.1 s.2.2.2.2.2.1 s.2.2.2.2.2.2 h) n s h
noncomputable def f_C_firstDay (v0 : Nat) (v1 : Int32) (v2 : Int32) (v3 : Int32) (v4 : Int32) (v5 : Int32) (h : Hp) : Option (Int32 × Hp) := l_C_firstDay_8 FU (v0, v1, v2, v3, v5, v4, v4) h
set_option maxHeartbeats 4000000 in
set_option maxRecDepth 20000 in
theorem t_C_firstDay {G : GG} (v0 : Nat) (v1 : Int32) (v2 : Int32) (v3 : Int32) (v4 : Int32) (v5 : Int32) (h : Hp) : Mt G M_C_firstDay 4 [.ref v0, .int v1, .int v2, .int v3, .int v4, .int v5] cI h (f_C_firstDay v0 v1 v2 v3 v4 v5 h) := by
  refine Mt.ofF (by decide +kernel) rfl (Rt.i rfl rfl) ?_
  show T G M_C_firstDay 4 cI 0 [(0, .ref v0), (1, .int v1), (2, .int v2), (3, .int v3), (4, .int v4), (5, .int v5)] [] h _
  unfold f_C_firstDay
  refine q_iload (pc := 0) (dq D_C_firstDay_0_ok 0 rfl) 4 rfl ?_
  refine q_istore (pc := 2) (ls' := [(6, .int v4), (0, .ref v0), (1, .int v1), (2, .int v2), (3, .int v3), (4, .int v4), (5, .int v5)]) (dq D_C_firstDay_0_ok 1 rfl) rfl rfl ?_
  refine q_iload (pc := 4) (dq D_C_firstDay_0_ok 2 rfl) 5 rfl ?_
  refine q_istore (pc := 6) (ls' := [(7, .int v4), (6, .int v4), (0, .ref v0), (1, .int v1), (2, .int v2), (3, .int v3), (4, .int v4), (5, .int v5)]) (dq D_C_firstDay_0_ok 3 rfl) rfl rfl ?_
  exact T.lsub [2, 3, 4, 5, 7, 1, 0] rfl (tl_C_firstDay_8 FU (v0, v1, v2, v3, v5, v4, v4) h)
