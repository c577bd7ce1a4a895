noncomputable def b_m_readAll_32 (v0 : Nat) (h : Hp) : Option (Unit × Hp) := gd (hS h v0 = some (.inl 11)) (bR (hR h v0 4) fun x1 => gd (hS h x1 = some (.inl 12)) (lt (hI h x1 2) fun x2 => if x2 = 0 then (gd (hS h v0 = some (.inl 11)) (bd (f_m_flaw v0 (6 : Int32) h) fun _ h3 => some ((), h3))) else (some ((), h))))
set_option maxHeartbeats 4000000 in
set_option maxRecDepth 20000 in
theorem tb_m_readAll_32 {G : GG} (v0 : Nat) (h : Hp) : T G M_m_readAll 11 cU 32 [(0, .ref v0)] [] h (b_m_readAll_32 v0 h) := by
  unfold b_m_readAll_32
  refine q_aload_n (pc := 32) (dq D_m_readAll_0_ok 18 rfl) rfl 0 rfl ?_
  refine q_getR (pc := 33) (dq D_m_readAll_0_ok 19 rfl) fa_m_166 rfl (fun x1 => ?_)
  refine r_getI (pc := 36) (dq D_m_readAll_0_ok 20 rfl) fa_m_205 rfl (fun x2 => ?_)
  refine p_if_ne (pc := 39) 48 (dq D_m_readAll_0_ok 21 rfl) rfl ?_ ?_
  · exact r_retu (pc := 48) (dq D_m_readAll_0_ok 25 rfl) rfl
  · refine q_aload_n (pc := 42) (dq D_m_readAll_0_ok 22 rfl) rfl 0 rfl ?_
    refine q_bipush (pc := 43) (v := 6) (dq D_m_readAll_0_ok 23 rfl) (by decide) ?_
    refine r_invU (Mc := M_m_flaw) (pc := 45) (ci := 11) (rest := []) 0 1 [.int 6] (dq D_m_readAll_0_ok 24 rfl) rfl rfl lc_m_flaw lv_m_flaw_ ml_m_129 rfl rfl rfl rfl (t_m_flaw v0 (6 : Int32) h) (fun _ h3 => ?_)
    exact r_retu (pc := 48) (dq D_m_readAll_0_ok 25 rfl) rfl
noncomputable def b_m_readAll_2 (k2 : (Nat × Int32) → Hp → Option (Unit × Hp)) (v0 : Nat) (v1 : Int32) (h : Hp) : Option (Unit × Hp) := if v1 = 0 then (gd (hS h v0 = some (.inl 11)) (lt (hI h v0 9) fun x1 => if x1 = 1 then (b_m_readAll_32 v0 h) else (gd (hS h v0 = some (.inl 11)) (bd (f_m_flaw v0 (1 : Int32) h) fun _ h2 => b_m_readAll_32 v0 h2)))) else (gd (hS h v0 = some (.inl 11)) (bd (f_m_readLine v0 h) fun _ h4 => gd (hS h4 v0 = some (.inl 11)) (bd (f_m_eats v0 (4 : Int32) h4) fun r7 h6 => k2 (v0, r7) h6)))
set_option maxHeartbeats 4000000 in
set_option maxRecDepth 20000 in
theorem tb_m_readAll_2 {G : GG} {k2 : (Nat × Int32) → Hp → Option (Unit × Hp)} (hk2 : ∀ s h, T G M_m_readAll 11 cU 2 [(0, .ref s.1), (1, .int s.2)] [] h (k2 s h)) (v0 : Nat) (v1 : Int32) (h : Hp) : T G M_m_readAll 11 cU 2 [(0, .ref v0), (1, .int v1)] [] h (b_m_readAll_2 k2 v0 v1 h) := by
  unfold b_m_readAll_2
  refine q_iload_n (pc := 2) (dq D_m_readAll_0_ok 2 rfl) rfl 1 rfl ?_
  refine p_if_eq (pc := 3) 19 (dq D_m_readAll_0_ok 3 rfl) rfl ?_ ?_
  · refine q_aload_n (pc := 19) (dq D_m_readAll_0_ok 11 rfl) rfl 0 rfl ?_
    refine r_getI (pc := 20) (dq D_m_readAll_0_ok 12 rfl) fa_m_86 rfl (fun x1 => ?_)
    refine q_ic1 (pc := 23) (dq D_m_readAll_0_ok 13 rfl) ?_
    refine q_ic_eq (pc := 24) 32 (dq D_m_readAll_0_ok 14 rfl) rfl ?_ ?_
    · exact T.lsub [0] rfl (tb_m_readAll_32 v0 h)
    · refine q_aload_n (pc := 27) (dq D_m_readAll_0_ok 15 rfl) rfl 0 rfl ?_
      refine q_ic1 (pc := 28) (dq D_m_readAll_0_ok 16 rfl) ?_
      refine r_invU (Mc := M_m_flaw) (pc := 29) (ci := 11) (rest := []) 0 1 [.int 1] (dq D_m_readAll_0_ok 17 rfl) rfl rfl lc_m_flaw lv_m_flaw_ ml_m_129 rfl rfl rfl rfl (t_m_flaw v0 (1 : Int32) h) (fun _ h2 => ?_)
      exact T.lsub [0] rfl (tb_m_readAll_32 v0 h2)
  · refine q_aload_n (pc := 6) (dq D_m_readAll_0_ok 4 rfl) rfl 0 rfl ?_
    refine r_invU (Mc := M_m_readLine) (pc := 7) (ci := 11) (rest := []) 10 0 [] (dq D_m_readAll_0_ok 5 rfl) rfl rfl lc_m_readLine lv_m_readLine_ ml_m_199 rfl rfl rfl rfl (t_m_readLine v0 h) (fun _ h4 => ?_)
    refine q_aload_n (pc := 10) (dq D_m_readAll_0_ok 6 rfl) rfl 0 rfl ?_
    refine q_ic4 (pc := 11) (dq D_m_readAll_0_ok 7 rfl) ?_
    refine r_invI (Mc := M_m_eats) (pc := 12) (ci := 11) (rest := []) 2 1 [.int 4] (dq D_m_readAll_0_ok 8 rfl) rfl rfl lc_m_eats lv_m_eats_ ml_m_202 rfl rfl rfl rfl (t_m_eats v0 (4 : Int32) h4) (fun r7 h6 => ?_)
    refine q_istore_n (pc := 15) (ls' := [(1, .int r7), (0, .ref v0)]) (dq D_m_readAll_0_ok 9 rfl) rfl rfl rfl ?_
    refine q_goto (pc := 16) 2 (dq D_m_readAll_0_ok 10 rfl) rfl ?_
    exact T.lsub [1, 0] rfl (hk2 (v0, r7) h6)
noncomputable def l_m_readAll_2 : Nat → (Nat × Int32) → Hp → Option (Unit × Hp) := lp (fun k2 s h => b_m_readAll_2 k2 s.1 s.2 h)
set_option maxHeartbeats 4000000 in
set_option maxRecDepth 20000 in
theorem tl_m_readAll_2 {G : GG} (n : Nat) (s : Nat × Int32) (h : Hp) : T G M_m_readAll 11 cU 2 [(0, .ref s.1), (1, .int s.2)] [] h (l_m_readAll_2 n s h) :=
  T.loop (lsOf := fun s => [(0, .ref s.1), (1, .int s.2)]) (fun k2 hk2 s h => tb_m_readAll_2 hk2 s.1 s.2 h) n s h
noncomputable def f_m_readAll (v0 : Nat) (h : Hp) : Option (Unit × Hp) := lt (1 : Int32) fun y1 => l_m_readAll_2 FU (v0, y1) h
set_option maxHeartbeats 4000000 in
set_option maxRecDepth 20000 in
theorem t_m_readAll {G : GG} (v0 : Nat) (h : Hp) : Mt G M_m_readAll 11 [.ref v0] cU h (f_m_readAll v0 h) := by
  refine Mt.ofF (by decide +kernel) rfl (Rt.v rfl rfl) ?_
  show T G M_m_readAll 11 cU 0 [(0, .ref v0)] [] h _
  unfold f_m_readAll
  refine q_ic1 (pc := 0) (dq D_m_readAll_0_ok 0 rfl) ?_
  refine r_nmI (fun y1 => ?_)
  refine q_istore_n (pc := 1) (ls' := [(1, .int y1), (0, .ref v0)]) (dq D_m_readAll_0_ok 1 rfl) rfl rfl rfl ?_
  exact T.lsub [1, 0] rfl (tl_m_readAll_2 FU (v0, y1) h)
noncomputable def b_m_feed_76 (k23 : (Nat × Int32 × Int32 × Int32 × Int32 × Int32 × Int32) → Hp → Option (Int32 × Hp)) (v0 : Nat) (v1 : Int32) (v2 : Int32) (v3 : Int32) (v4 : Int32) (v5 : Int32) (v6 : Int32) (s0 : Int32) (h : Hp) : Option (Int32 × Hp) := gd (hS h v0 = some (.inl 11)) (bR (hR h v0 5) fun x1 => gd (hS h v0 = some (.inl 11)) (lt (hI h v0 6) fun x2 => gd (¬ (4 : Int32) = 0) (gd (ai h x1 2 x2) (lt (uI h x1 x2.toNatClampNeg ((s0 >>> ((24 - (8 * (irm v6 4))) &&& 31)).toInt8.toInt32).toInt8.toInt32) fun h3 => gd (hS h3 v0 = some (.inl 11)) (lt (hI h3 v0 6) fun x4 => gd (hS h3 v0 = some (.inl 11)) (lt (uI h3 v0 6 (x4 + 1)) fun h5 => k23 (v0, v1, v2, v3, v4, v5, v6 + 1) h5))))))
set_option maxHeartbeats 4000000 in
set_option maxRecDepth 20000 in
theorem tb_m_feed_76 {G : GG} {k23 : (Nat × Int32 × Int32 × Int32 × Int32 × Int32 × Int32) → Hp → Option (Int32 × Hp)} (hk23 : ∀ s h, T G M_m_feed 0 cI 23 [(0, .ref s.1), (1, .int s.2.1), (2, .int s.2.2.1), (3, .int s.2.2.2.1), (4, .int s.2.2.2.2.1), (5, .int s.2.2.2.2.2.1), (6, .int s.2.2.2.2.2.2)] [] h (k23 s h)) (v0 : Nat) (v1 : Int32) (v2 : Int32) (v3 : Int32) (v4 : Int32) (v5 : Int32) (v6 : Int32) (s0 : Int32) (h : Hp) : T G M_m_feed 0 cI 76 [(0, .ref v0), (1, .int v1), (2, .int v2), (3, .int v3), (4, .int v4), (5, .int v5), (6, .int v6)] [.int s0] h (b_m_feed_76 k23 v0 v1 v2 v3 v4 v5 v6 s0 h) := by
  unfold b_m_feed_76
  refine q_istore (pc := 76) (ls' := [(7, .int s0), (0, .ref v0), (1, .int v1), (2, .int v2), (3, .int v3), (4, .int v4), (5, .int v5), (6, .int v6)]) (dq D_m_feed_0_ok 37 rfl) rfl rfl ?_
  refine q_aload_n (pc := 78) (dq D_m_feed_0_ok 38 rfl) rfl 1 rfl ?_
  refine q_getR (pc := 79) (dq D_m_feed_0_ok 39 rfl) fa_m_13 rfl (fun x1 => ?_)
  refine q_aload_n (pc := 82) (dq D_m_feed_0_ok 40 rfl) rfl 1 rfl ?_
  refine r_getI (pc := 83) (dq D_m_feed_0_ok 41 rfl) fa_m_341 rfl (fun x2 => ?_)
  refine q_iload (pc := 86) (dq D_m_feed_0_ok 42 rfl) 0 rfl ?_
  refine q_bipush (pc := 88) (v := 24) (dq D_m_feed_0_ok 43 rfl) (by decide) ?_
  refine q_bipush (pc := 90) (v := 8) (dq D_m_feed_0_ok 44 rfl) (by decide) ?_
  refine q_iload (pc := 92) (dq D_m_feed_0_ok 45 rfl) 7 rfl ?_
  refine q_ic4 (pc := 94) (dq D_m_feed_0_ok 46 rfl) ?_
  refine q_irem (pc := 95) (dq D_m_feed_0_ok 47 rfl) ?_
  refine q_imul (pc := 96) (dq D_m_feed_0_ok 48 rfl) ?_
  refine q_isub (pc := 97) (dq D_m_feed_0_ok 49 rfl) ?_
  refine q_ishr (pc := 98) (dq D_m_feed_0_ok 50 rfl) ?_
  refine q_i2b (pc := 99) (dq D_m_feed_0_ok 51 rfl) ?_
  refine r_bast (pc := 100) (dq D_m_feed_0_ok 52 rfl) (fun h3 => ?_)
  refine q_aload_n (pc := 101) (dq D_m_feed_0_ok 53 rfl) rfl 1 rfl ?_
  refine q_dup (pc := 102) (dq D_m_feed_0_ok 54 rfl) rfl ?_
  refine r_getI (pc := 103) (dq D_m_feed_0_ok 55 rfl) fa_m_341 rfl (fun x4 => ?_)
  refine q_ic1 (pc := 106) (dq D_m_feed_0_ok 56 rfl) ?_
  refine q_iadd (pc := 107) (dq D_m_feed_0_ok 57 rfl) ?_
  refine r_putI (pc := 108) (dq D_m_feed_0_ok 58 rfl) fp_m_341 rfl rfl (fun h5 => ?_)
  refine q_iinc (pc := 111) (v := (1)) (ls' := [(6, .int (v6 + 1)), (7, .int s0), (0, .ref v0), (1, .int v1), (2, .int v2), (3, .int v3), (4, .int v4), (5, .int v5)]) (dq D_m_feed_0_ok 59 rfl) 7 rfl (by decide) rfl rfl ?_
  refine q_goto (pc := 114) 23 (dq D_m_feed_1_ok 0 rfl) rfl ?_
  exact T.lsub [2, 3, 4, 5, 6, 7, 0] rfl (hk23 (v0, v1, v2, v3, v4, v5, v6 + 1) h5)
noncomputable def b_m_feed_23 (k23 : (Nat × Int32 × Int32 × Int32 × Int32 × Int32 × Int32) → Hp → Option (Int32 × Hp)) (v0 : Nat) (v1 : Int32) (v2 : Int32) (v3 : Int32) (v4 : Int32) (v5 : Int32) (v6 : Int32) (h : Hp) : Option (Int32 × Hp) := if 20 ≤ v6 then (gd (hS h v0 = some (.inl 11)) (lt (hI h v0 6) fun x1 => some (x1, h))) else (if 4 ≤ v6 then (if 8 ≤ v6 then (if 12 ≤ v6 then (if 16 ≤ v6 then (b_m_feed_76 k23 v0 v1 v2 v3 v4 v5 v6 v5 h) else (b_m_feed_76 k23 v0 v1 v2 v3 v4 v5 v6 v4 h)) else (b_m_feed_76 k23 v0 v1 v2 v3 v4 v5 v6 v3 h)) else (b_m_feed_76 k23 v0 v1 v2 v3 v4 v5 v6 v2 h)) else (b_m_feed_76 k23 v0 v1 v2 v3 v4 v5 v6 v1 h))
set_option maxHeartbeats 4000000 in
set_option maxRecDepth 20000 in
theorem tb_m_feed_23 {G : GG} {k23 : (Nat × Int32 × Int32 × Int32 × Int32 × Int32 × Int32) → Hp → Option (Int32 × Hp)} (hk23 : ∀ s h, T G M_m_feed 0 cI 23 [(0, .ref s.1), (1, .int s.2.1), (2, .int s.2.2.1), (3, .int s.2.2.2.1), (4, .int s.2.2.2.2.1), (5, .int s.2.2.2.2.2.1), (6, .int s.2.2.2.2.2.2)] [] h (k23 s h)) (v0 : Nat) (v1 : Int32) (v2 : Int32) (v3 : Int32) (v4 : Int32) (v5 : Int32) (v6 : Int32) (h : Hp) : T G M_m_feed 0 cI 23 [(0, .ref v0), (1, .int v1), (2, .int v2), (3, .int v3), (4, .int v4), (5, .int v5), (6, .int v6)] [] h (b_m_feed_23 k23 v0 v1 v2 v3 v4 v5 v6 h) := by
  unfold b_m_feed_23
  refine q_iload (pc := 23) (dq D_m_feed_0_ok 13 rfl) 6 rfl ?_
  refine q_bipush (pc := 25) (v := 20) (dq D_m_feed_0_ok 14 rfl) (by decide) ?_
  refine q_ic_ge (pc := 27) 117 (dq D_m_feed_0_ok 15 rfl) rfl ?_ ?_
  · refine q_aload_n (pc := 117) (dq D_m_feed_1_ok 1 rfl) rfl 0 rfl ?_
    refine r_getI (pc := 118) (dq D_m_feed_1_ok 2 rfl) fa_m_341 rfl (fun x1 => ?_)
    exact r_reti (pc := 121) (dq D_m_feed_1_ok 3 rfl) rfl
  · refine q_iload (pc := 30) (dq D_m_feed_0_ok 16 rfl) 6 rfl ?_
    refine q_ic4 (pc := 32) (dq D_m_feed_0_ok 17 rfl) ?_
    refine q_ic_ge (pc := 33) 40 (dq D_m_feed_0_ok 18 rfl) rfl ?_ ?_
    · refine q_iload (pc := 40) (dq D_m_feed_0_ok 21 rfl) 6 rfl ?_
      refine q_bipush (pc := 42) (v := 8) (dq D_m_feed_0_ok 22 rfl) (by decide) ?_
      refine q_ic_ge (pc := 44) 51 (dq D_m_feed_0_ok 23 rfl) rfl ?_ ?_
      · refine q_iload (pc := 51) (dq D_m_feed_0_ok 26 rfl) 6 rfl ?_
        refine q_bipush (pc := 53) (v := 12) (dq D_m_feed_0_ok 27 rfl) (by decide) ?_
        refine q_ic_ge (pc := 55) 62 (dq D_m_feed_0_ok 28 rfl) rfl ?_ ?_
        · refine q_iload (pc := 62) (dq D_m_feed_0_ok 31 rfl) 6 rfl ?_
          refine q_bipush (pc := 64) (v := 16) (dq D_m_feed_0_ok 32 rfl) (by decide) ?_
          refine q_ic_ge (pc := 66) 74 (dq D_m_feed_0_ok 33 rfl) rfl ?_ ?_
          · refine q_iload (pc := 74) (dq D_m_feed_0_ok 36 rfl) 5 rfl ?_
            exact T.lsub [0, 1, 2, 3, 4, 5, 6] rfl (tb_m_feed_76 hk23 v0 v1 v2 v3 v4 v5 v6 v5 h)
          · refine q_iload (pc := 69) (dq D_m_feed_0_ok 34 rfl) 4 rfl ?_
            refine q_goto (pc := 71) 76 (dq D_m_feed_0_ok 35 rfl) rfl ?_
            exact T.lsub [0, 1, 2, 3, 4, 5, 6] rfl (tb_m_feed_76 hk23 v0 v1 v2 v3 v4 v5 v6 v4 h)
        · refine q_iload_n (pc := 58) (dq D_m_feed_0_ok 29 rfl) rfl 3 rfl ?_
          refine q_goto (pc := 59) 76 (dq D_m_feed_0_ok 30 rfl) rfl ?_
          exact T.lsub [0, 1, 2, 3, 4, 5, 6] rfl (tb_m_feed_76 hk23 v0 v1 v2 v3 v4 v5 v6 v3 h)
      · refine q_iload_n (pc := 47) (dq D_m_feed_0_ok 24 rfl) rfl 2 rfl ?_
        refine q_goto (pc := 48) 76 (dq D_m_feed_0_ok 25 rfl) rfl ?_
        exact T.lsub [0, 1, 2, 3, 4, 5, 6] rfl (tb_m_feed_76 hk23 v0 v1 v2 v3 v4 v5 v6 v2 h)
    · refine q_iload_n (pc := 36) (dq D_m_feed_0_ok 19 rfl) rfl 1 rfl ?_
      refine q_goto (pc := 37) 76 (dq D_m_feed_0_ok 20 rfl) rfl ?_
      exact T.lsub [0, 1, 2, 3, 4, 5, 6] rfl (tb_m_feed_76 hk23 v0 v1 v2 v3 v4 v5 v6 v1 h)
noncomputable def l_m_feed_23 : Nat → (Nat × Int32 × Int32 × Int32 × Int32 × Int32 × Int32) → Hp → Option (Int32 × Hp) := lp (fun k23 s h => b_m_feed_23 k23 s.1 s.2.1 s.2.2.1 s.2.2.2.1 s.2.2.2.2.1 s.2.2.2.2.2.1 s.2.2.2.2.2.2 h)
set_option maxHeartbeats 4000000 in
set_option maxRecDepth 20000 in
theorem tl_m_feed_23 {G : GG} (n : Nat) (s : Nat × Int32 × Int32 × Int32 × Int32 × Int32 × Int32) (h : Hp) : T G M_m_feed 0 cI 23 [(0, .ref s.1), (1, .int s.2.1), (2, .int s.2.2.1), (3, .int s.2.2.2.1), (4, .int s.2.2.2.2.1), (5, .int s.2.2.2.2.2.1), (6, .int s.2.2.2.2.2.2)] [] h (l_m_feed_23 n s h) :=
  T.loop (lsOf := fun s => [(0, .ref s.1), (1, .int s.2.1), (2, .int s.2.2.1), (3, .int s.2.2.2.1), (4, .int s.2.2.2.2.1), (5, .int s.2.2.2.2.2.1), (6, .int s.2.2.2.2.2.2)]) (fun k23 hk23 s h => tb_m_feed_23 hk23 s.1 s.2.1 s.2.2.1 s.2.2.2.1 s.2.2.2.2.1 s.2.2.2.2.2.1 s.2.2.2.2.2.2 h) n s h
noncomputable def f_m_feed (v0 : Nat) (v1 : Int32) (v2 : Int32) (v3 : Int32) (v4 : Int32) (v5 : Int32) (h : Hp) : Option (Int32 × Hp) := gd (hS h v0 = some (.inl 11)) (lt (uI h v0 0 0) fun h1 => gd (hS h1 v0 = some (.inl 11)) (lt (hI h1 v0 6) fun x2 => if (x2 + 20) ≤ 900 then (lt (0 : Int32) fun y3 => l_m_feed_23 FU (v0, v1, v2, v3, v4, v5, y3) h1) else (some ((-1), h1))))
set_option maxHeartbeats 4000000 in
set_option maxRecDepth 20000 in
theorem t_m_feed {G : GG} (v0 : Nat) (v1 : Int32) (v2 : Int32) (v3 : Int32) (v4 : Int32) (v5 : Int32) (h : Hp) : Mt G M_m_feed 0 [.ref v0, .int v1, .int v2, .int v3, .int v4, .int v5] cI h (f_m_feed v0 v1 v2 v3 v4 v5 h) := by
  refine Mt.ofF (by decide +kernel) rfl (Rt.i rfl rfl) ?_
  show T G M_m_feed 0 cI 0 [(0, .ref v0), (1, .int v1), (2, .int v2), (3, .int v3), (4, .int v4), (5, .int v5)] [] h _
  unfold f_m_feed
  refine q_aload_n (pc := 0) (dq D_m_feed_0_ok 0 rfl) rfl 0 rfl ?_
  refine q_ic0 (pc := 1) (dq D_m_feed_0_ok 1 rfl) ?_
  refine r_putI (pc := 2) (dq D_m_feed_0_ok 2 rfl) fp_m_54 rfl rfl (fun h1 => ?_)
  refine q_aload_n (pc := 5) (dq D_m_feed_0_ok 3 rfl) rfl 0 rfl ?_
  refine r_getI (pc := 6) (dq D_m_feed_0_ok 4 rfl) fa_m_341 rfl (fun x2 => ?_)
  refine q_bipush (pc := 9) (v := 20) (dq D_m_feed_0_ok 5 rfl) (by decide) ?_
  refine q_iadd (pc := 11) (dq D_m_feed_0_ok 6 rfl) ?_
  refine q_sipush (pc := 12) (v := 900) (dq D_m_feed_0_ok 7 rfl) (by decide) ?_
  refine q_ic_le (pc := 15) 20 (dq D_m_feed_0_ok 8 rfl) rfl ?_ ?_
  · refine q_ic0 (pc := 20) (dq D_m_feed_0_ok 11 rfl) ?_
    refine r_nmI (fun y3 => ?_)
    refine q_istore (pc := 21) (ls' := [(6, .int y3), (0, .ref v0), (1, .int v1), (2, .int v2), (3, .int v3), (4, .int v4), (5, .int v5)]) (dq D_m_feed_0_ok 12 rfl) rfl rfl ?_
    exact T.lsub [1, 2, 3, 4, 5, 6, 0] rfl (tl_m_feed_23 FU (v0, v1, v2, v3, v4, v5, y3) h1)
  · refine q_icm1 (pc := 18) (dq D_m_feed_0_ok 9 rfl) ?_
    exact r_reti (pc := 19) (dq D_m_feed_0_ok 10 rfl) rfl
noncomputable def f_n_init (v0 : Nat) (h : Hp) : Option (Unit × Hp) := gd (hS h v0 = some (.inl 12)) (lt (uI h v0 0 ((-1))) fun h1 => gd (hS h1 v0 = some (.inl 12)) (lt (uI h1 v0 7 ((-1))) fun h2 => gd (1 ≤ (hB h2).1 ∧ 5 ≤ (hB h2).2) (lt (hN h2) fun a3 => lt (uN h2 (.inr (0, 5)) 5) fun h4 => gd (hS h4 v0 = some (.inl 12)) (lt (uR h4 v0 10 (some a3)) fun h5 => gd (1 ≤ (hB h5).1 ∧ 5 ≤ (hB h5).2) (lt (hN h5) fun a6 => lt (uN h5 (.inr (0, 5)) 5) fun h7 => gd (hS h7 v0 = some (.inl 12)) (lt (uR h7 v0 11 (some a6)) fun h8 => gd (1 ≤ (hB h8).1 ∧ 5 ≤ (hB h8).2) (lt (hN h8) fun a9 => lt (uN h8 (.inr (0, 5)) 5) fun h10 => gd (hS h10 v0 = some (.inl 12)) (lt (uR h10 v0 12 (some a9)) fun h11 => gd (1 ≤ (hB h11).1 ∧ 5 ≤ (hB h11).2) (lt (hN h11) fun a12 => lt (uN h11 (.inr (0, 5)) 5) fun h13 => gd (hS h13 v0 = some (.inl 12)) (lt (uR h13 v0 13 (some a12)) fun h14 => gd (1 ≤ (hB h14).1 ∧ 5 ≤ (hB h14).2) (lt (hN h14) fun a15 => lt (uN h14 (.inr (1, 5)) 5) fun h16 => gd (hS h16 v0 = some (.inl 12)) (lt (uR h16 v0 14 (some a15)) fun h17 => gd (1 ≤ (hB h17).1 ∧ 20 ≤ (hB h17).2) (lt (hN h17) fun a18 => lt (uN h17 (.inr (0, 20)) 20) fun h19 => gd (hS h19 v0 = some (.inl 12)) (lt (uR h19 v0 15 (some a18)) fun h20 => gd (1 ≤ (hB h20).1 ∧ 4 ≤ (hB h20).2) (lt (hN h20) fun a21 => lt (uN h20 (.inr (0, 4)) 4) fun h22 => gd (hS h22 v0 = some (.inl 12)) (lt (uR h22 v0 16 (some a21)) fun h23 => gd (1 ≤ (hB h23).1 ∧ 4 ≤ (hB h23).2) (lt (hN h23) fun a24 => lt (uN h23 (.inr (0, 4)) 4) fun h25 => gd (hS h25 v0 = some (.inl 12)) (lt (uR h25 v0 17 (some a24)) fun h26 => gd (1 ≤ (hB h26).1 ∧ 4 ≤ (hB h26).2) (lt (hN h26) fun a27 => lt (uN h26 (.inr (0, 4)) 4) fun h28 => gd (hS h28 v0 = some (.inl 12)) (lt (uR h28 v0 18 (some a27)) fun h29 => gd (1 ≤ (hB h29).1 ∧ 4 ≤ (hB h29).2) (lt (hN h29) fun a30 => lt (uN h29 (.inr (0, 4)) 4) fun h31 => gd (hS h31 v0 = some (.inl 12)) (lt (uR h31 v0 19 (some a30)) fun h32 => gd (1 ≤ (hB h32).1 ∧ 4 ≤ (hB h32).2) (lt (hN h32) fun a33 => lt (uN h32 (.inr (0, 4)) 4) fun h34 => gd (hS h34 v0 = some (.inl 12)) (lt (uR h34 v0 20 (some a33)) fun h35 => gd (1 ≤ (hB h35).1 ∧ 4 ≤ (hB h35).2) (lt (hN h35) fun a36 => lt (uN h35 (.inr (0, 4)) 4) fun h37 => gd (hS h37 v0 = some (.inl 12)) (lt (uR h37 v0 21 (some a36)) fun h38 => gd (1 ≤ (hB h38).1 ∧ 5 ≤ (hB h38).2) (lt (hN h38) fun a39 => lt (uN h38 (.inr (0, 5)) 5) fun h40 => gd (hS h40 v0 = some (.inl 12)) (lt (uR h40 v0 22 (some a39)) fun h41 => gd (1 ≤ (hB h41).1 ∧ 5 ≤ (hB h41).2) (lt (hN h41) fun a42 => lt (uN h41 (.inr (0, 5)) 5) fun h43 => gd (hS h43 v0 = some (.inl 12)) (lt (uR h43 v0 23 (some a42)) fun h44 => gd (1 ≤ (hB h44).1 ∧ 13 ≤ (hB h44).2) (lt (hN h44) fun a45 => lt (uN h44 (.inr (1, 13)) 13) fun h46 => gd (hS h46 v0 = some (.inl 12)) (lt (uR h46 v0 24 (some a45)) fun h47 => gd (1 ≤ (hB h47).1 ∧ 13 ≤ (hB h47).2) (lt (hN h47) fun a48 => lt (uN h47 (.inr (0, 13)) 13) fun h49 => gd (hS h49 v0 = some (.inl 12)) (lt (uR h49 v0 25 (some a48)) fun h50 => gd (1 ≤ (hB h50).1 ∧ 13 ≤ (hB h50).2) (lt (hN h50) fun a51 => lt (uN h50 (.inr (0, 13)) 13) fun h52 => gd (hS h52 v0 = some (.inl 12)) (lt (uR h52 v0 26 (some a51)) fun h53 => some ((), h53)))))))))))))))))))))))))))))))))))))
set_option maxHeartbeats 4000000 in
set_option maxRecDepth 20000 in
theorem t_n_init {G : GG} (v0 : Nat) (h : Hp) : Mt G M_n_init 1 [.ref v0] cU h (f_n_init v0 h) := by
  refine Mt.ofF (by decide +kernel) rfl (Rt.v rfl rfl) ?_
  show T G M_n_init 1 cU 0 [(0, .ref v0)] [] h _
  unfold f_n_init
  refine q_aload_n (pc := 0) (dq D_n_init_0_ok 0 rfl) rfl 0 rfl ?_
  refine r_obj (pc := 1) (dq D_n_init_0_ok 1 rfl) lob_n lob2 lob3 rfl rfl ?_
  refine q_aload_n (pc := 4) (dq D_n_init_0_ok 2 rfl) rfl 0 rfl ?_
  refine q_icm1 (pc := 5) (dq D_n_init_0_ok 3 rfl) ?_
  refine r_putI (pc := 6) (dq D_n_init_0_ok 4 rfl) fp_n_9_i rfl rfl (fun h1 => ?_)
  refine q_aload_n (pc := 9) (dq D_n_init_0_ok 5 rfl) rfl 0 rfl ?_
  refine q_icm1 (pc := 10) (dq D_n_init_0_ok 6 rfl) ?_
  refine r_putI (pc := 11) (dq D_n_init_0_ok 7 rfl) fp_n_15_i rfl rfl (fun h2 => ?_)
  refine q_aload_n (pc := 14) (dq D_n_init_0_ok 8 rfl) rfl 0 rfl ?_
  refine q_ic5 (pc := 15) (dq D_n_init_0_ok 9 rfl) ?_
  refine r_newI (pc := 16) 5 (dq D_n_init_0_ok 10 rfl) lka_I (by decide) (by decide) (by decide) (fun a3 h4 => ?_)
  refine r_putR (pc := 18) (dq D_n_init_0_ok 11 rfl) fp_n_18_i rfl rfl rfl (fun h5 => ?_)
  refine q_aload_n (pc := 21) (dq D_n_init_0_ok 12 rfl) rfl 0 rfl ?_
  refine q_ic5 (pc := 22) (dq D_n_init_0_ok 13 rfl) ?_
  refine r_newI (pc := 23) 5 (dq D_n_init_0_ok 14 rfl) lka_I (by decide) (by decide) (by decide) (fun a6 h7 => ?_)
  refine r_putR (pc := 25) (dq D_n_init_0_ok 15 rfl) fp_n_22_i rfl rfl rfl (fun h8 => ?_)
  refine q_aload_n (pc := 28) (dq D_n_init_0_ok 16 rfl) rfl 0 rfl ?_
  refine q_ic5 (pc := 29) (dq D_n_init_0_ok 17 rfl) ?_
  refine r_newI (pc := 30) 5 (dq D_n_init_0_ok 18 rfl) lka_I (by decide) (by decide) (by decide) (fun a9 h10 => ?_)
  refine r_putR (pc := 32) (dq D_n_init_0_ok 19 rfl) fp_n_25_i rfl rfl rfl (fun h11 => ?_)
  refine q_aload_n (pc := 35) (dq D_n_init_0_ok 20 rfl) rfl 0 rfl ?_
  refine q_ic5 (pc := 36) (dq D_n_init_0_ok 21 rfl) ?_
  refine r_newI (pc := 37) 5 (dq D_n_init_0_ok 22 rfl) lka_I (by decide) (by decide) (by decide) (fun a12 h13 => ?_)
  refine r_putR (pc := 39) (dq D_n_init_0_ok 23 rfl) fp_n_28_i rfl rfl rfl (fun h14 => ?_)
  refine q_aload_n (pc := 42) (dq D_n_init_0_ok 24 rfl) rfl 0 rfl ?_
  refine q_ic5 (pc := 43) (dq D_n_init_0_ok 25 rfl) ?_
  refine r_newL (pc := 44) 5 (dq D_n_init_0_ok 26 rfl) lka_J (by decide) (by decide) (by decide) (fun a15 h16 => ?_)
  refine r_putR (pc := 46) (dq D_n_init_0_ok 27 rfl) fp_n_31_i rfl rfl rfl (fun h17 => ?_)
  refine q_aload_n (pc := 49) (dq D_n_init_0_ok 28 rfl) rfl 0 rfl ?_
  refine q_bipush (pc := 50) (v := 20) (dq D_n_init_0_ok 29 rfl) (by decide) ?_
  refine r_newI (pc := 52) 20 (dq D_n_init_0_ok 30 rfl) lka_I (by decide) (by decide) (by decide) (fun a18 h19 => ?_)
  refine r_putR (pc := 54) (dq D_n_init_0_ok 31 rfl) fp_n_35_i rfl rfl rfl (fun h20 => ?_)
  refine q_aload_n (pc := 57) (dq D_n_init_0_ok 32 rfl) rfl 0 rfl ?_
  refine q_ic4 (pc := 58) (dq D_n_init_0_ok 33 rfl) ?_
  refine r_newI (pc := 59) 4 (dq D_n_init_0_ok 34 rfl) lka_I (by decide) (by decide) (by decide) (fun a21 h22 => ?_)
  refine r_putR (pc := 61) (dq D_n_init_0_ok 35 rfl) fp_n_38_i rfl rfl rfl (fun h23 => ?_)
  refine q_aload_n (pc := 64) (dq D_n_init_0_ok 36 rfl) rfl 0 rfl ?_
  refine q_ic4 (pc := 65) (dq D_n_init_0_ok 37 rfl) ?_
  refine r_newI (pc := 66) 4 (dq D_n_init_0_ok 38 rfl) lka_I (by decide) (by decide) (by decide) (fun a24 h25 => ?_)
  refine r_putR (pc := 68) (dq D_n_init_0_ok 39 rfl) fp_n_41_i rfl rfl rfl (fun h26 => ?_)
  refine q_aload_n (pc := 71) (dq D_n_init_0_ok 40 rfl) rfl 0 rfl ?_
  refine q_ic4 (pc := 72) (dq D_n_init_0_ok 41 rfl) ?_
  refine r_newI (pc := 73) 4 (dq D_n_init_0_ok 42 rfl) lka_I (by decide) (by decide) (by decide) (fun a27 h28 => ?_)
  refine r_putR (pc := 75) (dq D_n_init_0_ok 43 rfl) fp_n_44_i rfl rfl rfl (fun h29 => ?_)
  refine q_aload_n (pc := 78) (dq D_n_init_0_ok 44 rfl) rfl 0 rfl ?_
  refine q_ic4 (pc := 79) (dq D_n_init_0_ok 45 rfl) ?_
  refine r_newI (pc := 80) 4 (dq D_n_init_0_ok 46 rfl) lka_I (by decide) (by decide) (by decide) (fun a30 h31 => ?_)
  refine r_putR (pc := 82) (dq D_n_init_0_ok 47 rfl) fp_n_47_i rfl rfl rfl (fun h32 => ?_)
  refine q_aload_n (pc := 85) (dq D_n_init_0_ok 48 rfl) rfl 0 rfl ?_
  refine q_ic4 (pc := 86) (dq D_n_init_0_ok 49 rfl) ?_
  refine r_newI (pc := 87) 4 (dq D_n_init_0_ok 50 rfl) lka_I (by decide) (by decide) (by decide) (fun a33 h34 => ?_)
  refine r_putR (pc := 89) (dq D_n_init_0_ok 51 rfl) fp_n_50_i rfl rfl rfl (fun h35 => ?_)
  refine q_aload_n (pc := 92) (dq D_n_init_0_ok 52 rfl) rfl 0 rfl ?_
  refine q_ic4 (pc := 93) (dq D_n_init_0_ok 53 rfl) ?_
  refine r_newI (pc := 94) 4 (dq D_n_init_0_ok 54 rfl) lka_I (by decide) (by decide) (by decide) (fun a36 h37 => ?_)
  refine r_putR (pc := 96) (dq D_n_init_0_ok 55 rfl) fp_n_53_i rfl rfl rfl (fun h38 => ?_)
  refine q_aload_n (pc := 99) (dq D_n_init_0_ok 56 rfl) rfl 0 rfl ?_
  refine q_ic5 (pc := 100) (dq D_n_init_0_ok 57 rfl) ?_
  refine r_newI (pc := 101) 5 (dq D_n_init_0_ok 58 rfl) lka_I (by decide) (by decide) (by decide) (fun a39 h40 => ?_)
  refine r_putR (pc := 103) (dq D_n_init_0_ok 59 rfl) fp_n_56_i rfl rfl rfl (fun h41 => ?_)
  refine q_aload_n (pc := 106) (dq D_n_init_1_ok 0 rfl) rfl 0 rfl ?_
  refine q_ic5 (pc := 107) (dq D_n_init_1_ok 1 rfl) ?_
  refine r_newI (pc := 108) 5 (dq D_n_init_1_ok 2 rfl) lka_I (by decide) (by decide) (by decide) (fun a42 h43 => ?_)
  refine r_putR (pc := 110) (dq D_n_init_1_ok 3 rfl) fp_n_59_i rfl rfl rfl (fun h44 => ?_)
  refine q_aload_n (pc := 113) (dq D_n_init_1_ok 4 rfl) rfl 0 rfl ?_
  refine q_bipush (pc := 114) (v := 13) (dq D_n_init_1_ok 5 rfl) (by decide) ?_
  refine r_newL (pc := 116) 13 (dq D_n_init_1_ok 6 rfl) lka_J (by decide) (by decide) (by decide) (fun a45 h46 => ?_)
  refine r_putR (pc := 118) (dq D_n_init_1_ok 7 rfl) fp_n_62_i rfl rfl rfl (fun h47 => ?_)
  refine q_aload_n (pc := 121) (dq D_n_init_1_ok 8 rfl) rfl 0 rfl ?_
  refine q_bipush (pc := 122) (v := 13) (dq D_n_init_1_ok 9 rfl) (by decide) ?_
  refine r_newI (pc := 124) 13 (dq D_n_init_1_ok 10 rfl) lka_I (by decide) (by decide) (by decide) (fun a48 h49 => ?_)
  refine r_putR (pc := 126) (dq D_n_init_1_ok 11 rfl) fp_n_65_i rfl rfl rfl (fun h50 => ?_)
  refine q_aload_n (pc := 129) (dq D_n_init_1_ok 12 rfl) rfl 0 rfl ?_
  refine q_bipush (pc := 130) (v := 13) (dq D_n_init_1_ok 13 rfl) (by decide) ?_
  refine r_newI (pc := 132) 13 (dq D_n_init_1_ok 14 rfl) lka_I (by decide) (by decide) (by decide) (fun a51 h52 => ?_)
  refine r_putR (pc := 134) (dq D_n_init_1_ok 15 rfl) fp_n_68_i rfl rfl rfl (fun h53 => ?_)
  exact r_retu (pc := 137) (dq D_n_init_1_ok 16 rfl) rfl
noncomputable def b_m_orrery_120 (k120 : (Nat × Int32) → Hp → Option (Int32 × Hp)) (v0 : Nat) (v2 : Int32) (h : Hp) : Option (Int32 × Hp) := gd (hS h v0 = some (.inl 11)) (bR (hR h v0 3) fun x1 => gd (hS h x1 = some (.inl 12)) (lt (hI h x1 2) fun x2 => if x2 ≤ v2 then (gd (hS h v0 = some (.inl 11)) (bR (hR h v0 15) fun x3 => gd (hS h v0 = some (.inl 11)) (bR (hR h v0 3) fun x4 => gd (hS h x4 = some (.inl 12)) (lt (hI h x4 0) fun x5 => gd (ai h x3 0 6) (lt (uI h x3 (6 : Int32).toNatClampNeg x5) fun h6 => gd (hS h6 v0 = some (.inl 11)) (lt (uI h6 v0 19 0) fun h7 => gd (hS h7 v0 = some (.inl 11)) (lt (uI h7 v0 20 0) fun h8 => gd (hS h8 v0 = some (.inl 11)) (bR (hR h8 v0 3) fun x9 => gd (hS h8 x9 = some (.inl 12)) (lt (hI h8 x9 2) fun x10 => gd (hS h8 v0 = some (.inl 11)) (bd (f_m_good v0 x10 h8) fun r12 h11 => some (r12, h11))))))))))) else (gd (hS h v0 = some (.inl 11)) (bR (hR h v0 15) fun x13 => gd (hS h v0 = some (.inl 11)) (bR (hR h v0 3) fun x14 => gd (hS h x14 = some (.inl 12)) (bR (hR h x14 13) fun x15 => gd (ai h x15 0 v2) (lt (hI h x15 v2.toNatClampNeg) fun x16 => gd (ai h x13 0 v2) (lt (uI h x13 v2.toNatClampNeg x16) fun h17 => k120 (v0, v2 + 1) h17))))))))
set_option maxHeartbeats 4000000 in
set_option maxRecDepth 20000 in
theorem tb_m_orrery_120 {G : GG} {k120 : (Nat × Int32) → Hp → Option (Int32 × Hp)} (hk120 : ∀ s h, T G M_m_orrery 12 cI 120 [(0, .ref s.1), (2, .int s.2)] [] h (k120 s h)) (v0 : Nat) (v2 : Int32) (h : Hp) : T G M_m_orrery 12 cI 120 [(0, .ref v0), (2, .int v2)] [] h (b_m_orrery_120 k120 v0 v2 h) := by
  unfold b_m_orrery_120
  refine q_iload_n (pc := 120) (dq D_m_orrery_1_ok 7 rfl) rfl 1 rfl ?_
  refine q_aload_n (pc := 121) (dq D_m_orrery_1_ok 8 rfl) rfl 0 rfl ?_
  refine q_getR (pc := 122) (dq D_m_orrery_1_ok 9 rfl) fa_m_348 rfl (fun x1 => ?_)
  refine r_getI (pc := 125) (dq D_m_orrery_1_ok 10 rfl) fa_m_205 rfl (fun x2 => ?_)
  refine q_ic_ge (pc := 128) 152 (dq D_m_orrery_1_ok 11 rfl) rfl ?_ ?_
  · refine q_aload_n (pc := 152) (dq D_m_orrery_1_ok 23 rfl) rfl 0 rfl ?_
    refine q_getR (pc := 153) (dq D_m_orrery_1_ok 24 rfl) fa_m_17 rfl (fun x3 => ?_)
    refine q_bipush (pc := 156) (v := 6) (dq D_m_orrery_1_ok 25 rfl) (by decide) ?_
    refine q_aload_n (pc := 158) (dq D_m_orrery_1_ok 26 rfl) rfl 0 rfl ?_
    refine q_getR (pc := 159) (dq D_m_orrery_1_ok 27 rfl) fa_m_348 rfl (fun x4 => ?_)
    refine r_getI (pc := 162) (dq D_m_orrery_1_ok 28 rfl) fa_m_170 rfl (fun x5 => ?_)
    refine r_iast (pc := 165) (dq D_m_orrery_1_ok 29 rfl) (fun h6 => ?_)
    refine q_aload_n (pc := 166) (dq D_m_orrery_1_ok 30 rfl) rfl 0 rfl ?_
    refine q_ic0 (pc := 167) (dq D_m_orrery_1_ok 31 rfl) ?_
    refine r_putI (pc := 168) (dq D_m_orrery_1_ok 32 rfl) fp_m_351 rfl rfl (fun h7 => ?_)
    refine q_aload_n (pc := 171) (dq D_m_orrery_1_ok 33 rfl) rfl 0 rfl ?_
    refine q_ic0 (pc := 172) (dq D_m_orrery_1_ok 34 rfl) ?_
    refine r_putI (pc := 173) (dq D_m_orrery_1_ok 35 rfl) fp_m_354 rfl rfl (fun h8 => ?_)
    refine q_aload_n (pc := 176) (dq D_m_orrery_1_ok 36 rfl) rfl 0 rfl ?_
    refine q_aload_n (pc := 177) (dq D_m_orrery_1_ok 37 rfl) rfl 0 rfl ?_
    refine q_getR (pc := 178) (dq D_m_orrery_1_ok 38 rfl) fa_m_348 rfl (fun x9 => ?_)
    refine r_getI (pc := 181) (dq D_m_orrery_1_ok 39 rfl) fa_m_205 rfl (fun x10 => ?_)
    refine r_invI (Mc := M_m_good) (pc := 184) (ci := 11) (rest := []) 0 1 [.int x10] (dq D_m_orrery_1_ok 40 rfl) rfl rfl lc_m_good lv_m_good_ ml_m_64 rfl rfl rfl rfl (t_m_good v0 x10 h8) (fun r12 h11 => ?_)
    exact r_reti (pc := 187) (dq D_m_orrery_1_ok 41 rfl) rfl
  · refine q_aload_n (pc := 131) (dq D_m_orrery_1_ok 12 rfl) rfl 0 rfl ?_
    refine q_getR (pc := 132) (dq D_m_orrery_1_ok 13 rfl) fa_m_17 rfl (fun x13 => ?_)
    refine q_iload_n (pc := 135) (dq D_m_orrery_1_ok 14 rfl) rfl 1 rfl ?_
    refine q_aload_n (pc := 136) (dq D_m_orrery_1_ok 15 rfl) rfl 0 rfl ?_
    refine q_getR (pc := 137) (dq D_m_orrery_1_ok 16 rfl) fa_m_348 rfl (fun x14 => ?_)
    refine q_getR (pc := 140) (dq D_m_orrery_1_ok 17 rfl) fa_m_273 rfl (fun x15 => ?_)
    refine q_iload_n (pc := 143) (dq D_m_orrery_1_ok 18 rfl) rfl 1 rfl ?_
    refine r_iald (pc := 144) (dq D_m_orrery_1_ok 19 rfl) (fun x16 => ?_)
    refine r_iast (pc := 145) (dq D_m_orrery_1_ok 20 rfl) (fun h17 => ?_)
    refine q_iinc (pc := 146) (v := (1)) (ls' := [(2, .int (v2 + 1)), (0, .ref v0)]) (dq D_m_orrery_1_ok 21 rfl) 1 rfl (by decide) rfl rfl ?_
    refine q_goto (pc := 149) 120 (dq D_m_orrery_1_ok 22 rfl) rfl ?_
    exact T.lsub [1, 0] rfl (hk120 (v0, v2 + 1) h17)
noncomputable def l_m_orrery_120 : Nat → (Nat × Int32) → Hp → Option (Int32 × Hp) := lp (fun k120 s h => b_m_orrery_120 k120 s.1 s.2 h)
set_option maxHeartbeats 4000000 in
set_option maxRecDepth 20000 in
theorem tl_m_orrery_120 {G : GG} (n : Nat) (s : Nat × Int32) (h : Hp) : T G M_m_orrery 12 cI 120 [(0, .ref s.1), (2, .int s.2)] [] h (l_m_orrery_120 n s h) :=
  T.loop (lsOf := fun s => [(0, .ref s.1), (2, .int s.2)]) (fun k120 hk120 s h => tb_m_orrery_120 hk120 s.1 s.2 h) n s h
noncomputable def b_m_orrery_99 (k99 : (Nat × Int32) → Hp → Option (Int32 × Hp)) (v0 : Nat) (v2 : Int32) (h : Hp) : Option (Int32 × Hp) := if 8 ≤ v2 then (lt (0 : Int32) fun y1 => l_m_orrery_120 FU (v0, y1) h) else (gd (hS h v0 = some (.inl 11)) (bR (hR h v0 15) fun x2 => gd (ai h x2 0 v2) (lt (uI h x2 v2.toNatClampNeg 0) fun h3 => k99 (v0, v2 + 1) h3)))
set_option maxHeartbeats 4000000 in
set_option maxRecDepth 20000 in
theorem tb_m_orrery_99 {G : GG} {k99 : (Nat × Int32) → Hp → Option (Int32 × Hp)} (hk99 : ∀ s h, T G M_m_orrery 12 cI 99 [(0, .ref s.1), (2, .int s.2)] [] h (k99 s h)) (v0 : Nat) (v2 : Int32) (h : Hp) : T G M_m_orrery 12 cI 99 [(0, .ref v0), (2, .int v2)] [] h (b_m_orrery_99 k99 v0 v2 h) := by
  unfold b_m_orrery_99
  refine q_iload_n (pc := 99) (dq D_m_orrery_0_ok 55 rfl) rfl 1 rfl ?_
  refine q_bipush (pc := 100) (v := 8) (dq D_m_orrery_0_ok 56 rfl) (by decide) ?_
  refine q_ic_ge (pc := 102) 118 (dq D_m_orrery_0_ok 57 rfl) rfl ?_ ?_
  · refine q_ic0 (pc := 118) (dq D_m_orrery_1_ok 5 rfl) ?_
    refine r_nmI (fun y1 => ?_)
    refine q_istore_n (pc := 119) (ls' := [(2, .int y1), (0, .ref v0)]) (dq D_m_orrery_1_ok 6 rfl) rfl rfl rfl ?_
    exact T.lsub [1, 0] rfl (tl_m_orrery_120 FU (v0, y1) h)
  · refine q_aload_n (pc := 105) (dq D_m_orrery_0_ok 58 rfl) rfl 0 rfl ?_
    refine q_getR (pc := 106) (dq D_m_orrery_0_ok 59 rfl) fa_m_17 rfl (fun x2 => ?_)
    refine q_iload_n (pc := 109) (dq D_m_orrery_1_ok 0 rfl) rfl 1 rfl ?_
    refine q_ic0 (pc := 110) (dq D_m_orrery_1_ok 1 rfl) ?_
    refine r_iast (pc := 111) (dq D_m_orrery_1_ok 2 rfl) (fun h3 => ?_)
    refine q_iinc (pc := 112) (v := (1)) (ls' := [(2, .int (v2 + 1)), (0, .ref v0)]) (dq D_m_orrery_1_ok 3 rfl) 1 rfl (by decide) rfl rfl ?_
    refine q_goto (pc := 115) 99 (dq D_m_orrery_1_ok 4 rfl) rfl ?_
    exact T.lsub [1, 0] rfl (hk99 (v0, v2 + 1) h3)
noncomputable def l_m_orrery_99 : Nat → (Nat × Int32) → Hp → Option (Int32 × Hp) := lp (fun k99 s h => b_m_orrery_99 k99 s.1 s.2 h)
set_option maxHeartbeats 4000000 in
set_option maxRecDepth 20000 in
theorem tl_m_orrery_99 {G : GG} (n : Nat) (s : Nat × Int32) (h : Hp) : T G M_m_orrery 12 cI 99 [(0, .ref s.1), (2, .int s.2)] [] h (l_m_orrery_99 n s h) :=
  T.loop (lsOf := fun s => [(0, .ref s.1), (2, .int s.2)]) (fun k99 hk99 s h => tb_m_orrery_99 hk99 s.1 s.2 h) n s h
noncomputable def b_m_orrery_17 (v0 : Nat) (h : Hp) : Option (Int32 × Hp) := gd (hS h v0 = some (.inl 11)) (bd (f_m_refused v0 (2 : Int32) h) fun r2 h1 => some (r2, h1))
set_option maxHeartbeats 4000000 in
set_option maxRecDepth 20000 in
theorem tb_m_orrery_17 {G : GG} (v0 : Nat) (h : Hp) : T G M_m_orrery 12 cI 17 [(0, .ref v0)] [] h (b_m_orrery_17 v0 h) := by
  unfold b_m_orrery_17
  refine q_aload_n (pc := 17) (dq D_m_orrery_0_ok 9 rfl) rfl 0 rfl ?_
  refine q_ic2 (pc := 18) (dq D_m_orrery_0_ok 10 rfl) ?_
  refine r_invI (Mc := M_m_refused) (pc := 19) (ci := 11) (rest := []) 0 1 [.int 2] (dq D_m_orrery_0_ok 11 rfl) rfl rfl lc_m_refused lv_m_refused_ ml_m_60 rfl rfl rfl rfl (t_m_refused v0 (2 : Int32) h) (fun r2 h1 => ?_)
  exact r_reti (pc := 22) (dq D_m_orrery_0_ok 12 rfl) rfl
noncomputable def f_m_orrery (v0 : Nat) (v1 : Int32) (h : Hp) : Option (Int32 × Hp) := gd (hS h v0 = some (.inl 11)) (lt (uI h v0 0 0) fun h1 => if v1 < 0 then (b_m_orrery_17 v0 h1) else (gd (hS h1 v0 = some (.inl 11)) (lt (hI h1 v0 6) fun x2 => if v1 ≤ x2 then (gd (hS h1 v0 = some (.inl 11)) (lt (uI h1 v0 7 v1) fun h3 => gd (hS h3 v0 = some (.inl 11)) (lt (uI h3 v0 6 0) fun h4 => gd (hS h4 v0 = some (.inl 11)) (lt (uI h4 v0 8 0) fun h5 => gd (hS h5 v0 = some (.inl 11)) (lt (uI h5 v0 12 0) fun h6 => gd (1 ≤ (hB h6).1 ∧ 27 ≤ (hB h6).2) (lt (hN h6) fun a7 => lt (uN h6 (.inl 12) 27) fun h8 => bd (f_n_init a7 h8) fun _ h9 => gd (hS h9 v0 = some (.inl 11)) (lt (uR h9 v0 4 (some a7)) fun h11 => gd (hS h11 v0 = some (.inl 11)) (lt (uI h11 v0 9 0) fun h12 => gd (hS h12 v0 = some (.inl 11)) (bd (f_m_goesOn v0 h12) fun _ h13 => gd (hS h13 v0 = some (.inl 11)) (bd (f_m_readAll v0 h13) fun _ h15 => gd (hS h15 v0 = some (.inl 11)) (lt (hI h15 v0 12) fun x17 => if x17 ≤ 0 then (gd (hS h15 v0 = some (.inl 11)) (bR (hR h15 v0 4) fun x18 => gd (hS h15 v0 = some (.inl 11)) (lt (uR h15 v0 3 (some x18)) fun h19 => lt (0 : Int32) fun y20 => l_m_orrery_99 FU (v0, y20) h19))) else (gd (hS h15 v0 = some (.inl 11)) (lt (uI h15 v0 1 4) fun h21 => gd (hS h21 v0 = some (.inl 11)) (lt (hI h21 v0 13) fun x22 => gd (hS h21 v0 = some (.inl 11)) (lt (uI h21 v0 2 x22) fun h23 => some ((-1), h23)))))))))))))))) else (b_m_orrery_17 v0 h1))))
set_option maxHeartbeats 4000000 in
set_option maxRecDepth 20000 in
theorem t_m_orrery {G : GG} (v0 : Nat) (v1 : Int32) (h : Hp) : Mt G M_m_orrery 12 [.ref v0, .int v1] cI h (f_m_orrery v0 v1 h) := by
  refine Mt.ofF (by decide +kernel) rfl (Rt.i rfl rfl) ?_
  show T G M_m_orrery 12 cI 0 [(0, .ref v0), (1, .int v1)] [] h _
  unfold f_m_orrery
  refine q_aload_n (pc := 0) (dq D_m_orrery_0_ok 0 rfl) rfl 0 rfl ?_
  refine q_ic0 (pc := 1) (dq D_m_orrery_0_ok 1 rfl) ?_
  refine r_putI (pc := 2) (dq D_m_orrery_0_ok 2 rfl) fp_m_54 rfl rfl (fun h1 => ?_)
  refine q_iload_n (pc := 5) (dq D_m_orrery_0_ok 3 rfl) rfl 1 rfl ?_
  refine p_if_lt (pc := 6) 17 (dq D_m_orrery_0_ok 4 rfl) rfl ?_ ?_
  · exact T.lsub [0] rfl (tb_m_orrery_17 v0 h1)
  · refine q_iload_n (pc := 9) (dq D_m_orrery_0_ok 5 rfl) rfl 1 rfl ?_
    refine q_aload_n (pc := 10) (dq D_m_orrery_0_ok 6 rfl) rfl 0 rfl ?_
    refine r_getI (pc := 11) (dq D_m_orrery_0_ok 7 rfl) fa_m_341 rfl (fun x2 => ?_)
    refine q_ic_le (pc := 14) 23 (dq D_m_orrery_0_ok 8 rfl) rfl ?_ ?_
    · refine q_aload_n (pc := 23) (dq D_m_orrery_0_ok 13 rfl) rfl 0 rfl ?_
      refine q_iload_n (pc := 24) (dq D_m_orrery_0_ok 14 rfl) rfl 1 rfl ?_
      refine r_putI (pc := 25) (dq D_m_orrery_0_ok 15 rfl) fp_m_71 rfl rfl (fun h3 => ?_)
      refine q_aload_n (pc := 28) (dq D_m_orrery_0_ok 16 rfl) rfl 0 rfl ?_
      refine q_ic0 (pc := 29) (dq D_m_orrery_0_ok 17 rfl) ?_
      refine r_putI (pc := 30) (dq D_m_orrery_0_ok 18 rfl) fp_m_341 rfl rfl (fun h4 => ?_)
      refine q_aload_n (pc := 33) (dq D_m_orrery_0_ok 19 rfl) rfl 0 rfl ?_
      refine q_ic0 (pc := 34) (dq D_m_orrery_0_ok 20 rfl) ?_
      refine r_putI (pc := 35) (dq D_m_orrery_0_ok 21 rfl) fp_m_89 rfl rfl (fun h5 => ?_)
      refine q_aload_n (pc := 38) (dq D_m_orrery_0_ok 22 rfl) rfl 0 rfl ?_
      refine q_ic0 (pc := 39) (dq D_m_orrery_0_ok 23 rfl) ?_
      refine r_putI (pc := 40) (dq D_m_orrery_0_ok 24 rfl) fp_m_112 rfl rfl (fun h6 => ?_)
      refine q_aload_n (pc := 43) (dq D_m_orrery_0_ok 25 rfl) rfl 0 rfl ?_
      refine r_new (pc := 44) (ci := 12) (dq D_m_orrery_0_ok 26 rfl) rfl lk_m_171 lkn_n lki_n df_n (fun a7 h8 => ?_)
      refine q_dup (pc := 47) (dq D_m_orrery_0_ok 27 rfl) rfl ?_
      refine r_iniU (Mc := M_n_init) (pc := 48) (rest := [.ref a7, .ref v0]) 1 0 [] (dq D_m_orrery_0_ok 28 rfl) lc_n_init rfl rfl li_n_init ml_m_344 rfl rfl rfl rfl (t_n_init a7 h8) (fun _ h9 => ?_)
      refine r_putR (pc := 51) (dq D_m_orrery_0_ok 29 rfl) fp_m_166 rfl rfl rfl (fun h11 => ?_)
      refine q_aload_n (pc := 54) (dq D_m_orrery_0_ok 30 rfl) rfl 0 rfl ?_
      refine q_ic0 (pc := 55) (dq D_m_orrery_0_ok 31 rfl) ?_
      refine r_putI (pc := 56) (dq D_m_orrery_0_ok 32 rfl) fp_m_86 rfl rfl (fun h12 => ?_)
      refine q_aload_n (pc := 59) (dq D_m_orrery_0_ok 33 rfl) rfl 0 rfl ?_
      refine r_invU (Mc := M_m_goesOn) (pc := 60) (ci := 11) (rest := []) 1 0 [] (dq D_m_orrery_0_ok 34 rfl) rfl rfl lc_m_goesOn lv_m_goesOn_ ml_m_122 rfl rfl rfl rfl (t_m_goesOn v0 h12) (fun _ h13 => ?_)
      refine q_aload_n (pc := 63) (dq D_m_orrery_0_ok 35 rfl) rfl 0 rfl ?_
      refine r_invU (Mc := M_m_readAll) (pc := 64) (ci := 11) (rest := []) 11 0 [] (dq D_m_orrery_0_ok 36 rfl) rfl rfl lc_m_readAll lv_m_readAll_ ml_m_345 rfl rfl rfl rfl (t_m_readAll v0 h13) (fun _ h15 => ?_)
      refine q_aload_n (pc := 67) (dq D_m_orrery_0_ok 37 rfl) rfl 0 rfl ?_
      refine r_getI (pc := 68) (dq D_m_orrery_0_ok 38 rfl) fa_m_112 rfl (fun x17 => ?_)
      refine p_if_le (pc := 71) 89 (dq D_m_orrery_0_ok 39 rfl) rfl ?_ ?_
      · refine q_aload_n (pc := 89) (dq D_m_orrery_0_ok 49 rfl) rfl 0 rfl ?_
        refine q_aload_n (pc := 90) (dq D_m_orrery_0_ok 50 rfl) rfl 0 rfl ?_
        refine q_getR (pc := 91) (dq D_m_orrery_0_ok 51 rfl) fa_m_166 rfl (fun x18 => ?_)
        refine r_putR (pc := 94) (dq D_m_orrery_0_ok 52 rfl) fp_m_348 rfl rfl rfl (fun h19 => ?_)
        refine q_ic0 (pc := 97) (dq D_m_orrery_0_ok 53 rfl) ?_
        refine r_nmI (fun y20 => ?_)
        refine q_istore_n (pc := 98) (ls' := [(2, .int y20), (0, .ref v0), (1, .int v1)]) (dq D_m_orrery_0_ok 54 rfl) rfl rfl rfl ?_
        exact T.lsub [1, 0] rfl (tl_m_orrery_99 FU (v0, y20) h19)
      · refine q_aload_n (pc := 74) (dq D_m_orrery_0_ok 40 rfl) rfl 0 rfl ?_
        refine q_ic4 (pc := 75) (dq D_m_orrery_0_ok 41 rfl) ?_
        refine r_putI (pc := 76) (dq D_m_orrery_0_ok 42 rfl) fp_m_57 rfl rfl (fun h21 => ?_)
        refine q_aload_n (pc := 79) (dq D_m_orrery_0_ok 43 rfl) rfl 0 rfl ?_
        refine q_aload_n (pc := 80) (dq D_m_orrery_0_ok 44 rfl) rfl 0 rfl ?_
        refine r_getI (pc := 81) (dq D_m_orrery_0_ok 45 rfl) fa_m_115 rfl (fun x22 => ?_)
        refine r_putI (pc := 84) (dq D_m_orrery_0_ok 46 rfl) fp_m_9 rfl rfl (fun h23 => ?_)
        refine q_icm1 (pc := 87) (dq D_m_orrery_0_ok 47 rfl) ?_
        exact r_reti (pc := 88) (dq D_m_orrery_0_ok 48 rfl) rfl
    · exact T.lsub [0] rfl (tb_m_orrery_17 v0 h1)
noncomputable def f_m_fault (v0 : Nat) (h : Hp) : Option (Int32 × Hp) := gd (hS h v0 = some (.inl 11)) (lt (uI h v0 0 0) fun h1 => gd (hS h1 v0 = some (.inl 11)) (lt (hI h1 v0 12) fun x2 => some (x2, h1)))
set_option maxHeartbeats 4000000 in
set_option maxRecDepth 20000 in
theorem t_m_fault {G : GG} (v0 : Nat) (h : Hp) : Mt G M_m_fault 0 [.ref v0] cI h (f_m_fault v0 h) := by
  refine Mt.ofF (by decide +kernel) rfl (Rt.i rfl rfl) ?_
  show T G M_m_fault 0 cI 0 [(0, .ref v0)] [] h _
  unfold f_m_fault
  refine q_aload_n (pc := 0) (dq D_m_fault_0_ok 0 rfl) rfl 0 rfl ?_
  refine q_ic0 (pc := 1) (dq D_m_fault_0_ok 1 rfl) ?_
  refine r_putI (pc := 2) (dq D_m_fault_0_ok 2 rfl) fp_m_54 rfl rfl (fun h1 => ?_)
  refine q_aload_n (pc := 5) (dq D_m_fault_0_ok 3 rfl) rfl 0 rfl ?_
  refine r_getI (pc := 6) (dq D_m_fault_0_ok 4 rfl) fa_m_112 rfl (fun x2 => ?_)
  exact r_reti (pc := 9) (dq D_m_fault_0_ok 5 rfl) rfl
noncomputable def f_m_where (v0 : Nat) (h : Hp) : Option (Int32 × Hp) := gd (hS h v0 = some (.inl 11)) (lt (uI h v0 0 0) fun h1 => gd (hS h1 v0 = some (.inl 11)) (lt (hI h1 v0 2) fun x2 => some (x2, h1)))
set_option maxHeartbeats 4000000 in
set_option maxRecDepth 20000 in
theorem t_m_where {G : GG} (v0 : Nat) (h : Hp) : Mt G M_m_where 0 [.ref v0] cI h (f_m_where v0 h) := by
  refine Mt.ofF (by decide +kernel) rfl (Rt.i rfl rfl) ?_
  show T G M_m_where 0 cI 0 [(0, .ref v0)] [] h _
  unfold f_m_where
  refine q_aload_n (pc := 0) (dq D_m_where_0_ok 0 rfl) rfl 0 rfl ?_
  refine q_ic0 (pc := 1) (dq D_m_where_0_ok 1 rfl) ?_
  refine r_putI (pc := 2) (dq D_m_where_0_ok 2 rfl) fp_m_54 rfl rfl (fun h1 => ?_)
  refine q_aload_n (pc := 5) (dq D_m_where_0_ok 3 rfl) rfl 0 rfl ?_
  refine r_getI (pc := 6) (dq D_m_where_0_ok 4 rfl) fa_m_9 rfl (fun x2 => ?_)
  exact r_reti (pc := 9) (dq D_m_where_0_ok 5 rfl) rfl
noncomputable def f_m_isWheel (v0 : Nat) (v1 : Int32) (h : Hp) : Option (Int32 × Hp) := gd (hS h v0 = some (.inl 11)) (if hR h v0 3 = none then (gd (zb 0) (some (0, h))) else (if v1 < 0 then (gd (zb 0) (some (0, h))) else (gd (hS h v0 = some (.inl 11)) (bR (hR h v0 3) fun x2 => gd (hS h x2 = some (.inl 12)) (lt (hI h x2 2) fun x3 => if x3 ≤ v1 then (gd (zb 0) (some (0, h))) else (gd (zb 1) (some (1, h))))))))
set_option maxHeartbeats 4000000 in
set_option maxRecDepth 20000 in
theorem t_m_isWheel {G : GG} (v0 : Nat) (v1 : Int32) (h : Hp) : Mt G M_m_isWheel 0 [.ref v0, .int v1] cI h (f_m_isWheel v0 v1 h) := by
  refine Mt.ofF (by decide +kernel) rfl (Rt.z rfl rfl) ?_
  show T G M_m_isWheel 0 cI 0 [(0, .ref v0), (1, .int v1)] [] h _
  unfold f_m_isWheel
  refine q_aload_n (pc := 0) (dq D_m_isWheel_0_ok 0 rfl) rfl 0 rfl ?_
  refine q_getnu (pc := 1) 26 (dq D_m_isWheel_0_ok 1 rfl) (dq D_m_isWheel_0_ok 2 rfl) rfl fa_m_348 rfl ?_ ?_
  · refine q_ic0 (pc := 26) (dq D_m_isWheel_0_ok 12 rfl) ?_
    exact r_retz (pc := 27) (dq D_m_isWheel_0_ok 13 rfl) rfl
  · refine q_iload_n (pc := 7) (dq D_m_isWheel_0_ok 3 rfl) rfl 1 rfl ?_
    refine p_if_lt (pc := 8) 26 (dq D_m_isWheel_0_ok 4 rfl) rfl ?_ ?_
    · refine q_ic0 (pc := 26) (dq D_m_isWheel_0_ok 12 rfl) ?_
      exact r_retz (pc := 27) (dq D_m_isWheel_0_ok 13 rfl) rfl
    · refine q_iload_n (pc := 11) (dq D_m_isWheel_0_ok 5 rfl) rfl 1 rfl ?_
      refine q_aload_n (pc := 12) (dq D_m_isWheel_0_ok 6 rfl) rfl 0 rfl ?_
      refine q_getR (pc := 13) (dq D_m_isWheel_0_ok 7 rfl) fa_m_348 rfl (fun x2 => ?_)
      refine r_getI (pc := 16) (dq D_m_isWheel_0_ok 8 rfl) fa_m_205 rfl (fun x3 => ?_)
      refine q_ic_ge (pc := 19) 26 (dq D_m_isWheel_0_ok 9 rfl) rfl ?_ ?_
      · refine q_ic0 (pc := 26) (dq D_m_isWheel_0_ok 12 rfl) ?_
        exact r_retz (pc := 27) (dq D_m_isWheel_0_ok 13 rfl) rfl
      · refine q_ic1 (pc := 22) (dq D_m_isWheel_0_ok 10 rfl) ?_
        refine q_goto (pc := 23) 27 (dq D_m_isWheel_0_ok 11 rfl) rfl ?_
        exact r_retz (pc := 27) (dq D_m_isWheel_0_ok 13 rfl) rfl
noncomputable def f_m_isFeast (v0 : Nat) (v1 : Int32) (h : Hp) : Option (Int32 × Hp) := gd (hS h v0 = some (.inl 11)) (if hR h v0 3 = none then (gd (zb 0) (some (0, h))) else (if v1 < 0 then (gd (zb 0) (some (0, h))) else (gd (hS h v0 = some (.inl 11)) (bR (hR h v0 3) fun x2 => gd (hS h x2 = some (.inl 12)) (lt (hI h x2 4) fun x3 => if x3 ≤ v1 then (gd (zb 0) (some (0, h))) else (gd (zb 1) (some (1, h))))))))
set_option maxHeartbeats 4000000 in
set_option maxRecDepth 20000 in
theorem t_m_isFeast {G : GG} (v0 : Nat) (v1 : Int32) (h : Hp) : Mt G M_m_isFeast 0 [.ref v0, .int v1] cI h (f_m_isFeast v0 v1 h) := by
  refine Mt.ofF (by decide +kernel) rfl (Rt.z rfl rfl) ?_
  show T G M_m_isFeast 0 cI 0 [(0, .ref v0), (1, .int v1)] [] h _
  unfold f_m_isFeast
  refine q_aload_n (pc := 0) (dq D_m_isFeast_0_ok 0 rfl) rfl 0 rfl ?_
  refine q_getnu (pc := 1) 26 (dq D_m_isFeast_0_ok 1 rfl) (dq D_m_isFeast_0_ok 2 rfl) rfl fa_m_348 rfl ?_ ?_
  · refine q_ic0 (pc := 26) (dq D_m_isFeast_0_ok 12 rfl) ?_
    exact r_retz (pc := 27) (dq D_m_isFeast_0_ok 13 rfl) rfl
  · refine q_iload_n (pc := 7) (dq D_m_isFeast_0_ok 3 rfl) rfl 1 rfl ?_
    refine p_if_lt (pc := 8) 26 (dq D_m_isFeast_0_ok 4 rfl) rfl ?_ ?_
    · refine q_ic0 (pc := 26) (dq D_m_isFeast_0_ok 12 rfl) ?_
      exact r_retz (pc := 27) (dq D_m_isFeast_0_ok 13 rfl) rfl
    · refine q_iload_n (pc := 11) (dq D_m_isFeast_0_ok 5 rfl) rfl 1 rfl ?_
      refine q_aload_n (pc := 12) (dq D_m_isFeast_0_ok 6 rfl) rfl 0 rfl ?_
      refine q_getR (pc := 13) (dq D_m_isFeast_0_ok 7 rfl) fa_m_348 rfl (fun x2 => ?_)
      refine r_getI (pc := 16) (dq D_m_isFeast_0_ok 8 rfl) fa_m_289 rfl (fun x3 => ?_)
      refine q_ic_ge (pc := 19) 26 (dq D_m_isFeast_0_ok 9 rfl) rfl ?_ ?_
      · refine q_ic0 (pc := 26) (dq D_m_isFeast_0_ok 12 rfl) ?_
        exact r_retz (pc := 27) (dq D_m_isFeast_0_ok 13 rfl) rfl
      · refine q_ic1 (pc := 22) (dq D_m_isFeast_0_ok 10 rfl) ?_
        refine q_goto (pc := 23) 27 (dq D_m_isFeast_0_ok 11 rfl) rfl ?_
        exact r_retz (pc := 27) (dq D_m_isFeast_0_ok 13 rfl) rfl
noncomputable def f_m_isOf (v0 : Nat) (v1 : Int32) (v2 : Int32) (h : Hp) : Option (Int32 × Hp) := gd (hS h v0 = some (.inl 11)) (bd (f_m_isWheel v0 v1 h) fun r2 h1 => if r2 = 0 then (gd (zb 0) (some (0, h1))) else (gd (hS h1 v0 = some (.inl 11)) (bd (f_m_isFeast v0 v2 h1) fun r4 h3 => if r4 = 0 then (gd (zb 0) (some (0, h3))) else (gd (hS h3 v0 = some (.inl 11)) (bR (hR h3 v0 3) fun x5 => gd (hS h3 x5 = some (.inl 12)) (bR (hR h3 x5 16) fun x6 => gd (ai h3 x6 0 v2) (lt (hI h3 x6 v2.toNatClampNeg) fun x7 => bd (f_m_bit x7 v1 h3) fun r9 h8 => if r9 = 0 then (gd (zb 0) (some (0, h8))) else (gd (zb 1) (some (1, h8))))))))))
set_option maxHeartbeats 4000000 in
set_option maxRecDepth 20000 in
theorem t_m_isOf {G : GG} (v0 : Nat) (v1 : Int32) (v2 : Int32) (h : Hp) : Mt G M_m_isOf 1 [.ref v0, .int v1, .int v2] cI h (f_m_isOf v0 v1 v2 h) := by
  refine Mt.ofF (by decide +kernel) rfl (Rt.z rfl rfl) ?_
  show T G M_m_isOf 1 cI 0 [(0, .ref v0), (1, .int v1), (2, .int v2)] [] h _
  unfold f_m_isOf
  refine q_aload_n (pc := 0) (dq D_m_isOf_0_ok 0 rfl) rfl 0 rfl ?_
  refine q_iload_n (pc := 1) (dq D_m_isOf_0_ok 1 rfl) rfl 1 rfl ?_
  refine r_invI (Mc := M_m_isWheel) (pc := 2) (ci := 11) (rest := []) 0 1 [.int v1] (dq D_m_isOf_0_ok 2 rfl) rfl rfl lc_m_isWheel lv_m_isWheel_ ml_m_357 rfl rfl rfl rfl (t_m_isWheel v0 v1 h) (fun r2 h1 => ?_)
  refine p_if_eq (pc := 5) 36 (dq D_m_isOf_0_ok 3 rfl) rfl ?_ ?_
  · refine q_ic0 (pc := 36) (dq D_m_isOf_0_ok 18 rfl) ?_
    exact r_retz (pc := 37) (dq D_m_isOf_0_ok 19 rfl) rfl
  · refine q_aload_n (pc := 8) (dq D_m_isOf_0_ok 4 rfl) rfl 0 rfl ?_
    refine q_iload_n (pc := 9) (dq D_m_isOf_0_ok 5 rfl) rfl 2 rfl ?_
    refine r_invI (Mc := M_m_isFeast) (pc := 10) (ci := 11) (rest := []) 0 1 [.int v2] (dq D_m_isOf_0_ok 6 rfl) rfl rfl lc_m_isFeast lv_m_isFeast_ ml_m_360 rfl rfl rfl rfl (t_m_isFeast v0 v2 h1) (fun r4 h3 => ?_)
    refine p_if_eq (pc := 13) 36 (dq D_m_isOf_0_ok 7 rfl) rfl ?_ ?_
    · refine q_ic0 (pc := 36) (dq D_m_isOf_0_ok 18 rfl) ?_
      exact r_retz (pc := 37) (dq D_m_isOf_0_ok 19 rfl) rfl
    · refine q_aload_n (pc := 16) (dq D_m_isOf_0_ok 8 rfl) rfl 0 rfl ?_
      refine q_getR (pc := 17) (dq D_m_isOf_0_ok 9 rfl) fa_m_348 rfl (fun x5 => ?_)
      refine q_getR (pc := 20) (dq D_m_isOf_0_ok 10 rfl) fa_m_297 rfl (fun x6 => ?_)
      refine q_iload_n (pc := 23) (dq D_m_isOf_0_ok 11 rfl) rfl 2 rfl ?_
      refine r_iald (pc := 24) (dq D_m_isOf_0_ok 12 rfl) (fun x7 => ?_)
      refine q_iload_n (pc := 25) (dq D_m_isOf_0_ok 13 rfl) rfl 1 rfl ?_
      refine r_insI (Mc := M_m_bit) (pc := 26) (rest := []) 0 2 [.int x7, .int v1] (dq D_m_isOf_0_ok 14 rfl) lc_m_bit ls_m_bit ml_m_292 rfl rfl rfl rfl (t_m_bit x7 v1 h3) (fun r9 h8 => ?_)
      refine p_if_eq (pc := 29) 36 (dq D_m_isOf_0_ok 15 rfl) rfl ?_ ?_
      · refine q_ic0 (pc := 36) (dq D_m_isOf_0_ok 18 rfl) ?_
        exact r_retz (pc := 37) (dq D_m_isOf_0_ok 19 rfl) rfl
      · refine q_ic1 (pc := 32) (dq D_m_isOf_0_ok 16 rfl) ?_
        refine q_goto (pc := 33) 37 (dq D_m_isOf_0_ok 17 rfl) rfl ?_
        exact r_retz (pc := 37) (dq D_m_isOf_0_ok 19 rfl) rfl
noncomputable def b_m_works_2 (k2 : (Nat × Int32) → Hp → Option (Unit × Hp)) (v0 : Nat) (v1 : Int32) (h : Hp) : Option (Unit × Hp) := if 8 ≤ v1 then (some ((), h)) else (gd (hS h v0 = some (.inl 11)) (bR (hR h v0 16) fun x1 => gd (hS h v0 = some (.inl 11)) (bR (hR h v0 15) fun x2 => gd (ai h x2 0 v1) (lt (hI h x2 v1.toNatClampNeg) fun x3 => gd (ai h x1 0 v1) (lt (uI h x1 v1.toNatClampNeg x3) fun h4 => k2 (v0, v1 + 1) h4)))))
set_option maxHeartbeats 4000000 in
set_option maxRecDepth 20000 in
theorem tb_m_works_2 {G : GG} {k2 : (Nat × Int32) → Hp → Option (Unit × Hp)} (hk2 : ∀ s h, T G M_m_works 0 cU 2 [(0, .ref s.1), (1, .int s.2)] [] h (k2 s h)) (v0 : Nat) (v1 : Int32) (h : Hp) : T G M_m_works 0 cU 2 [(0, .ref v0), (1, .int v1)] [] h (b_m_works_2 k2 v0 v1 h) := by
  unfold b_m_works_2
  refine q_iload_n (pc := 2) (dq D_m_works_0_ok 2 rfl) rfl 1 rfl ?_
  refine q_bipush (pc := 3) (v := 8) (dq D_m_works_0_ok 3 rfl) (by decide) ?_
  refine q_ic_ge (pc := 5) 26 (dq D_m_works_0_ok 4 rfl) rfl ?_ ?_
  · exact r_retu (pc := 26) (dq D_m_works_0_ok 15 rfl) rfl
  · refine q_aload_n (pc := 8) (dq D_m_works_0_ok 5 rfl) rfl 0 rfl ?_
    refine q_getR (pc := 9) (dq D_m_works_0_ok 6 rfl) fa_m_21 rfl (fun x1 => ?_)
    refine q_iload_n (pc := 12) (dq D_m_works_0_ok 7 rfl) rfl 1 rfl ?_
    refine q_aload_n (pc := 13) (dq D_m_works_0_ok 8 rfl) rfl 0 rfl ?_
    refine q_getR (pc := 14) (dq D_m_works_0_ok 9 rfl) fa_m_17 rfl (fun x2 => ?_)
    refine q_iload_n (pc := 17) (dq D_m_works_0_ok 10 rfl) rfl 1 rfl ?_
    refine r_iald (pc := 18) (dq D_m_works_0_ok 11 rfl) (fun x3 => ?_)
    refine r_iast (pc := 19) (dq D_m_works_0_ok 12 rfl) (fun h4 => ?_)
    refine q_iinc (pc := 20) (v := (1)) (ls' := [(1, .int (v1 + 1)), (0, .ref v0)]) (dq D_m_works_0_ok 13 rfl) 1 rfl (by decide) rfl rfl ?_
    refine q_goto (pc := 23) 2 (dq D_m_works_0_ok 14 rfl) rfl ?_
    exact T.lsub [1, 0] rfl (hk2 (v0, v1 + 1) h4)
noncomputable def l_m_works_2 : Nat → (Nat × Int32) → Hp → Option (Unit × Hp) := lp (fun k2 s h => b_m_works_2 k2 s.1 s.2 h)
set_option maxHeartbeats 4000000 in
set_option maxRecDepth 20000 in
theorem tl_m_works_2 {G : GG} (n : Nat) (s : Nat × Int32) (h : Hp) : T G M_m_works 0 cU 2 [(0, .ref s.1), (1, .int s.2)] [] h (l_m_works_2 n s h) :=
  T.loop (lsOf := fun s => [(0, .ref s.1), (1, .int s.2)]) (fun k2 hk2 s h => tb_m_works_2 hk2 s.1 s.2 h) n s h
noncomputable def f_m_works (v0 : Nat) (h : Hp) : Option (Unit × Hp) := lt (0 : Int32) fun y1 => l_m_works_2 FU (v0, y1) h
set_option maxHeartbeats 4000000 in
set_option maxRecDepth 20000 in
theorem t_m_works {G : GG} (v0 : Nat) (h : Hp) : Mt G M_m_works 0 [.ref v0] cU h (f_m_works v0 h) := by
  refine Mt.ofF (by decide +kernel) rfl (Rt.v rfl rfl) ?_
  show T G M_m_works 0 cU 0 [(0, .ref v0)] [] h _
  unfold f_m_works
  refine q_ic0 (pc := 0) (dq D_m_works_0_ok 0 rfl) ?_
  refine r_nmI (fun y1 => ?_)
  refine q_istore_n (pc := 1) (ls' := [(1, .int y1), (0, .ref v0)]) (dq D_m_works_0_ok 1 rfl) rfl rfl rfl ?_
  exact T.lsub [1, 0] rfl (tl_m_works_2 FU (v0, y1) h)
noncomputable def b_m_goes_41 (k16 : (Nat × Int32 × Int64 × Int32 × Int32) → Hp → Option (Int32 × Hp)) (v0 : Nat) (v1 : Int32) (v2 : Int64) (v5 : Int32) (s0 : Int32) (s1 : Int32) (h : Hp) : Option (Int32 × Hp) := gd (¬ v1 = 0) (lt (irm (s1 + s0) v1 : Int32) fun y1 => gd (zb 1 ∧ hS h v0 = some (.inl 11)) (lt (uI h v0 21 1) fun h2 => k16 (v0, v1, v2, v5, y1) h2))
set_option maxHeartbeats 4000000 in
set_option maxRecDepth 20000 in
theorem tb_m_goes_41 {G : GG} {k16 : (Nat × Int32 × Int64 × Int32 × Int32) → Hp → Option (Int32 × Hp)} (hk16 : ∀ s h, T G M_m_goes 0 cI 16 [(0, .ref s.1), (1, .int s.2.1), (2, .long s.2.2.1), (5, .int s.2.2.2.1), (6, .int s.2.2.2.2)] [] h (k16 s h)) (v0 : Nat) (v1 : Int32) (v2 : Int64) (v5 : Int32) (s0 : Int32) (s1 : Int32) (h : Hp) : T G M_m_goes 0 cI 41 [(0, .ref v0), (1, .int v1), (2, .long v2), (5, .int v5)] [.int s0, .int s1] h (b_m_goes_41 k16 v0 v1 v2 v5 s0 s1 h) := by
  unfold b_m_goes_41
  refine q_iadd (pc := 41) (dq D_m_goes_0_ok 27 rfl) ?_
  refine q_iload_n (pc := 42) (dq D_m_goes_0_ok 28 rfl) rfl 1 rfl ?_
  refine q_irem (pc := 43) (dq D_m_goes_0_ok 29 rfl) ?_
  refine r_nmI (fun y1 => ?_)
  refine q_istore (pc := 44) (ls' := [(6, .int y1), (0, .ref v0), (1, .int v1), (2, .long v2), (5, .int v5)]) (dq D_m_goes_0_ok 30 rfl) rfl rfl ?_
  refine q_aload_n (pc := 46) (dq D_m_goes_0_ok 31 rfl) rfl 1 rfl ?_
  refine q_ic1 (pc := 47) (dq D_m_goes_0_ok 32 rfl) ?_
  refine r_putZ (pc := 48) (dq D_m_goes_0_ok 33 rfl) fp_m_363 rfl rfl (fun h2 => ?_)
  refine q_goto (pc := 51) 16 (dq D_m_goes_0_ok 34 rfl) rfl ?_
  exact T.lsub [1, 2, 3, 4, 0] rfl (hk16 (v0, v1, v2, v5, y1) h2)
noncomputable def b_m_goes_16 (k16 : (Nat × Int32 × Int64 × Int32 × Int32) → Hp → Option (Int32 × Hp)) (v0 : Nat) (v1 : Int32) (v2 : Int64) (v5 : Int32) (v6 : Int32) (h : Hp) : Option (Int32 × Hp) := if (lg_cmp ((v2 >>> (v6.toInt64 &&& 63)) &&& 1) 1) = 0 then (if v5 ≤ 0 then (b_m_goes_41 k16 v0 v1 v2 v5 (v1 - 1) v6 h) else (b_m_goes_41 k16 v0 v1 v2 v5 1 v6 h)) else (some (v6, h))
set_option maxHeartbeats 4000000 in
set_option maxRecDepth 20000 in
theorem tb_m_goes_16 {G : GG} {k16 : (Nat × Int32 × Int64 × Int32 × Int32) → Hp → Option (Int32 × Hp)} (hk16 : ∀ s h, T G M_m_goes 0 cI 16 [(0, .ref s.1), (1, .int s.2.1), (2, .long s.2.2.1), (5, .int s.2.2.2.1), (6, .int s.2.2.2.2)] [] h (k16 s h)) (v0 : Nat) (v1 : Int32) (v2 : Int64) (v5 : Int32) (v6 : Int32) (h : Hp) : T G M_m_goes 0 cI 16 [(0, .ref v0), (1, .int v1), (2, .long v2), (5, .int v5), (6, .int v6)] [] h (b_m_goes_16 k16 v0 v1 v2 v5 v6 h) := by
  unfold b_m_goes_16
  refine q_lload_n (pc := 16) (dq D_m_goes_0_ok 11 rfl) rfl 2 rfl ?_
  refine q_iload (pc := 17) (dq D_m_goes_0_ok 12 rfl) 4 rfl ?_
  refine q_lshr (pc := 19) (dq D_m_goes_0_ok 13 rfl) ?_
  refine q_lconst (pc := 20) (v := 1) (dq D_m_goes_0_ok 14 rfl) (by decide) ?_
  refine q_land (pc := 21) (dq D_m_goes_0_ok 15 rfl) ?_
  refine q_lconst (pc := 22) (v := 1) (dq D_m_goes_0_ok 16 rfl) (by decide) ?_
  refine q_lcmp (pc := 23) (dq D_m_goes_0_ok 17 rfl) ?_
  refine p_if_ne (pc := 24) 54 (dq D_m_goes_0_ok 18 rfl) rfl ?_ ?_
  · refine q_iload (pc := 54) (dq D_m_goes_0_ok 35 rfl) 4 rfl ?_
    exact r_reti (pc := 56) (dq D_m_goes_0_ok 36 rfl) rfl
  · refine q_iload (pc := 27) (dq D_m_goes_0_ok 19 rfl) 4 rfl ?_
    refine q_iload (pc := 29) (dq D_m_goes_0_ok 20 rfl) 3 rfl ?_
    refine p_if_le (pc := 31) 38 (dq D_m_goes_0_ok 21 rfl) rfl ?_ ?_
    · refine q_iload_n (pc := 38) (dq D_m_goes_0_ok 24 rfl) rfl 1 rfl ?_
      refine q_ic1 (pc := 39) (dq D_m_goes_0_ok 25 rfl) ?_
      refine q_isub (pc := 40) (dq D_m_goes_0_ok 26 rfl) ?_
      exact T.lsub [0, 1, 2, 3] rfl (tb_m_goes_41 hk16 v0 v1 v2 v5 (v1 - 1) v6 h)
    · refine q_ic1 (pc := 34) (dq D_m_goes_0_ok 22 rfl) ?_
      refine q_goto (pc := 35) 41 (dq D_m_goes_0_ok 23 rfl) rfl ?_
      exact T.lsub [0, 1, 2, 3] rfl (tb_m_goes_41 hk16 v0 v1 v2 v5 1 v6 h)
noncomputable def l_m_goes_16 : Nat → (Nat × Int32 × Int64 × Int32 × Int32) → Hp → Option (Int32 × Hp) := lp (fun k16 s h => b_m_goes_16 k16 s.1 s.2.1 s.2.2.1 s.2.2.2.1 s.2.2.2.2 h)
set_option maxHeartbeats 4000000 in
set_option maxRecDepth 20000 in
theorem tl_m_goes_16 {G : GG} (n : Nat) (s : Nat × Int32 × Int64 × Int32 × Int32) (h : Hp) : T G M_m_goes 0 cI 16 [(0, .ref s.1), (1, .int s.2.1), (2, .long s.2.2.1), (5, .int s.2.2.2.1), (6, .int s.2.2.2.2)] [] h (l_m_goes_16 n s h) :=
  T.loop (lsOf := fun s => [(0, .ref s.1), (1, .int s.2.1), (2, .long s.2.2.1), (5, .int s.2.2.2.1), (6, .int s.2.2.2.2)]) (fun k16 hk16 s h => tb_m_goes_16 hk16 s.1 s.2.1 s.2.2.1 s.2.2.2.1 s.2.2.2.2 h) n s h
noncomputable def f_m_goes (v0 : Nat) (v1 : Int32) (v2 : Int64) (v4 : Int32) (v5 : Int32) (h : Hp) : Option (Int32 × Hp) := gd (¬ v1 = 0) (lt (irm ((v4 + v5) + v1) v1 : Int32) fun y1 => gd (zb 0 ∧ hS h v0 = some (.inl 11)) (lt (uI h v0 21 0) fun h2 => l_m_goes_16 FU (v0, v1, v2, v5, y1) h2))
set_option maxHeartbeats 4000000 in
set_option maxRecDepth 20000 in
theorem t_m_goes {G : GG} (v0 : Nat) (v1 : Int32) (v2 : Int64) (v4 : Int32) (v5 : Int32) (h : Hp) : Mt G M_m_goes 0 [.ref v0, .int v1, .long v2, .int v4, .int v5] cI h (f_m_goes v0 v1 v2 v4 v5 h) := by
  refine Mt.ofF (by decide +kernel) rfl (Rt.i rfl rfl) ?_
  show T G M_m_goes 0 cI 0 [(0, .ref v0), (1, .int v1), (2, .long v2), (4, .int v4), (5, .int v5)] [] h _
  unfold f_m_goes
  refine q_iload (pc := 0) (dq D_m_goes_0_ok 0 rfl) 3 rfl ?_
  refine q_iload (pc := 2) (dq D_m_goes_0_ok 1 rfl) 4 rfl ?_
  refine q_iadd (pc := 4) (dq D_m_goes_0_ok 2 rfl) ?_
  refine q_iload_n (pc := 5) (dq D_m_goes_0_ok 3 rfl) rfl 1 rfl ?_
  refine q_iadd (pc := 6) (dq D_m_goes_0_ok 4 rfl) ?_
  refine q_iload_n (pc := 7) (dq D_m_goes_0_ok 5 rfl) rfl 1 rfl ?_
  refine q_irem (pc := 8) (dq D_m_goes_0_ok 6 rfl) ?_
  refine r_nmI (fun y1 => ?_)
  refine q_istore (pc := 9) (ls' := [(6, .int y1), (0, .ref v0), (1, .int v1), (2, .long v2), (4, .int v4), (5, .int v5)]) (dq D_m_goes_0_ok 7 rfl) rfl rfl ?_
  refine q_aload_n (pc := 11) (dq D_m_goes_0_ok 8 rfl) rfl 1 rfl ?_
  refine q_ic0 (pc := 12) (dq D_m_goes_0_ok 9 rfl) ?_
  refine r_putZ (pc := 13) (dq D_m_goes_0_ok 10 rfl) fp_m_363 rfl rfl (fun h2 => ?_)
  exact T.lsub [1, 2, 3, 5, 0] rfl (tl_m_goes_16 FU (v0, v1, v2, v5, y1) h2)
noncomputable def f_m_way (v0 : Nat) (v1 : Int32) (v2 : Int32) (h : Hp) : Option (Int32 × Hp) := gd (hS h v0 = some (.inl 11)) (bR (hR h v0 3) fun x1 => gd (hS h x1 = some (.inl 12)) (bR (hR h x1 10) fun x2 => gd (ai h x2 0 v1) (lt (hI h x2 v1.toNatClampNeg) fun x3 => if x3 = 1 then (some (-v2, h)) else (some (v2, h)))))
set_option maxHeartbeats 4000000 in
set_option maxRecDepth 20000 in
theorem t_m_way {G : GG} (v0 : Nat) (v1 : Int32) (v2 : Int32) (h : Hp) : Mt G M_m_way 0 [.ref v0, .int v1, .int v2] cI h (f_m_way v0 v1 v2 h) := by
  refine Mt.ofF (by decide +kernel) rfl (Rt.i rfl rfl) ?_
  show T G M_m_way 0 cI 0 [(0, .ref v0), (1, .int v1), (2, .int v2)] [] h _
  unfold f_m_way
  refine q_aload_n (pc := 0) (dq D_m_way_0_ok 0 rfl) rfl 0 rfl ?_
  refine q_getR (pc := 1) (dq D_m_way_0_ok 1 rfl) fa_m_348 rfl (fun x1 => ?_)
  refine q_getR (pc := 4) (dq D_m_way_0_ok 2 rfl) fa_m_266 rfl (fun x2 => ?_)
  refine q_iload_n (pc := 7) (dq D_m_way_0_ok 3 rfl) rfl 1 rfl ?_
  refine r_iald (pc := 8) (dq D_m_way_0_ok 4 rfl) (fun x3 => ?_)
  refine q_ic1 (pc := 9) (dq D_m_way_0_ok 5 rfl) ?_
  refine q_ic_ne (pc := 10) 18 (dq D_m_way_0_ok 6 rfl) rfl ?_ ?_
  · refine q_iload_n (pc := 18) (dq D_m_way_0_ok 10 rfl) rfl 2 rfl ?_
    exact r_reti (pc := 19) (dq D_m_way_0_ok 11 rfl) rfl
  · refine q_iload_n (pc := 13) (dq D_m_way_0_ok 7 rfl) rfl 2 rfl ?_
    refine q_ineg (pc := 14) (dq D_m_way_0_ok 8 rfl) ?_
    refine q_goto (pc := 15) 19 (dq D_m_way_0_ok 9 rfl) rfl ?_
    exact r_reti (pc := 19) (dq D_m_way_0_ok 11 rfl) rfl
noncomputable def f_m_goesOnce (v0 : Nat) (v1 : Int32) (v2 : Int32) (h : Hp) : Option (Int32 × Hp) := gd (hS h v0 = some (.inl 11)) (bR (hR h v0 3) fun x1 => gd (hS h x1 = some (.inl 12)) (bR (hR h x1 11) fun x2 => gd (ai h x2 0 v1) (lt (hI h x2 v1.toNatClampNeg) fun x3 => gd (hS h v0 = some (.inl 11)) (bR (hR h v0 3) fun x4 => gd (hS h x4 = some (.inl 12)) (bR (hR h x4 14) fun x5 => gd (ai h x5 1 v1) (lt (hL h x5 v1.toNatClampNeg) fun x6 => gd (hS h v0 = some (.inl 11)) (bR (hR h v0 3) fun x7 => gd (hS h x7 = some (.inl 12)) (bR (hR h x7 12) fun x8 => gd (ai h x8 0 v1) (lt (hI h x8 v1.toNatClampNeg) fun x9 => gd (hS h v0 = some (.inl 11)) (bd (f_m_way v0 v1 x9 h) fun r11 h10 => gd (hS h10 v0 = some (.inl 11)) (bd (f_m_goes v0 x3 x6 v2 r11 h10) fun r13 h12 => some (r13, h12))))))))))))
set_option maxHeartbeats 4000000 in
set_option maxRecDepth 20000 in
theorem t_m_goesOnce {G : GG} (v0 : Nat) (v1 : Int32) (v2 : Int32) (h : Hp) : Mt G M_m_goesOnce 1 [.ref v0, .int v1, .int v2] cI h (f_m_goesOnce v0 v1 v2 h) := by
  refine Mt.ofF (by decide +kernel) rfl (Rt.i rfl rfl) ?_
  show T G M_m_goesOnce 1 cI 0 [(0, .ref v0), (1, .int v1), (2, .int v2)] [] h _
  unfold f_m_goesOnce
  refine q_aload_n (pc := 0) (dq D_m_goesOnce_0_ok 0 rfl) rfl 0 rfl ?_
  refine q_aload_n (pc := 1) (dq D_m_goesOnce_0_ok 1 rfl) rfl 0 rfl ?_
  refine q_getR (pc := 2) (dq D_m_goesOnce_0_ok 2 rfl) fa_m_348 rfl (fun x1 => ?_)
  refine q_getR (pc := 5) (dq D_m_goesOnce_0_ok 3 rfl) fa_m_269 rfl (fun x2 => ?_)
  refine q_iload_n (pc := 8) (dq D_m_goesOnce_0_ok 4 rfl) rfl 1 rfl ?_
  refine r_iald (pc := 9) (dq D_m_goesOnce_0_ok 5 rfl) (fun x3 => ?_)
  refine q_aload_n (pc := 10) (dq D_m_goesOnce_0_ok 6 rfl) rfl 0 rfl ?_
  refine q_getR (pc := 11) (dq D_m_goesOnce_0_ok 7 rfl) fa_m_348 rfl (fun x4 => ?_)
  refine q_getR (pc := 14) (dq D_m_goesOnce_0_ok 8 rfl) fa_m_284 rfl (fun x5 => ?_)
  refine q_iload_n (pc := 17) (dq D_m_goesOnce_0_ok 9 rfl) rfl 1 rfl ?_
  refine r_lald (pc := 18) (dq D_m_goesOnce_0_ok 10 rfl) (fun x6 => ?_)
  refine q_iload_n (pc := 19) (dq D_m_goesOnce_0_ok 11 rfl) rfl 2 rfl ?_
  refine q_aload_n (pc := 20) (dq D_m_goesOnce_0_ok 12 rfl) rfl 0 rfl ?_
  refine q_iload_n (pc := 21) (dq D_m_goesOnce_0_ok 13 rfl) rfl 1 rfl ?_
  refine q_aload_n (pc := 22) (dq D_m_goesOnce_0_ok 14 rfl) rfl 0 rfl ?_
  refine q_getR (pc := 23) (dq D_m_goesOnce_0_ok 15 rfl) fa_m_348 rfl (fun x7 => ?_)
  refine q_getR (pc := 26) (dq D_m_goesOnce_0_ok 16 rfl) fa_m_271 rfl (fun x8 => ?_)
  refine q_iload_n (pc := 29) (dq D_m_goesOnce_0_ok 17 rfl) rfl 1 rfl ?_
  refine r_iald (pc := 30) (dq D_m_goesOnce_0_ok 18 rfl) (fun x9 => ?_)
  refine r_invI (Mc := M_m_way) (pc := 31) (ci := 11) (rest := [.int v2, .long x6, .int x3, .ref v0]) 0 2 [.int v1, .int x9] (dq D_m_goesOnce_0_ok 19 rfl) rfl rfl lc_m_way lv_m_way_ ml_m_367 rfl rfl rfl rfl (t_m_way v0 v1 x9 h) (fun r11 h10 => ?_)
  refine r_invI (Mc := M_m_goes) (pc := 34) (ci := 11) (rest := []) 0 4 [.int x3, .long x6, .int v2, .int r11] (dq D_m_goesOnce_0_ok 20 rfl) rfl rfl lc_m_goes lv_m_goes_ ml_m_370 rfl rfl rfl rfl (t_m_goes v0 x3 x6 v2 r11 h10) (fun r13 h12 => ?_)
  exact r_reti (pc := 37) (dq D_m_goesOnce_0_ok 21 rfl) rfl
noncomputable def b_m_isGoing_44 (h : Hp) : Option (Int32 × Hp) := gd (zb 1) (some (1, h))
set_option maxHeartbeats 4000000 in
set_option maxRecDepth 20000 in
theorem tb_m_isGoing_44 {G : GG} (h : Hp) : T G M_m_isGoing 0 cI 44 [] [] h (b_m_isGoing_44 h) := by
  unfold b_m_isGoing_44
  refine q_ic1 (pc := 44) (dq D_m_isGoing_0_ok 24 rfl) ?_
  refine q_goto (pc := 45) 49 (dq D_m_isGoing_0_ok 25 rfl) rfl ?_
  exact r_retz (pc := 49) (dq D_m_isGoing_0_ok 27 rfl) rfl
noncomputable def f_m_isGoing (v0 : Nat) (v1 : Int32) (v2 : Int32) (v3 : Int32) (h : Hp) : Option (Int32 × Hp) := gd (hS h v0 = some (.inl 11)) (bR (hR h v0 3) fun x1 => gd (hS h x1 = some (.inl 12)) (bR (hR h x1 10) fun x2 => gd (ai h x2 0 v1) (lt (hI h x2 v1.toNatClampNeg) fun x3 => if x3 = 2 then (if v3 ≤ 0 then (gd (zb 0) (some (0, h))) else (gd (zb 1) (some (1, h)))) else (gd (hS h v0 = some (.inl 11)) (bR (hR h v0 3) fun x4 => gd (hS h x4 = some (.inl 12)) (bR (hR h x4 10) fun x5 => gd (ai h x5 0 v1) (lt (hI h x5 v1.toNatClampNeg) fun x6 => if x6 = 3 then (gd (¬ (2 : Int32) = 0) (if (irm v2 2) = 0 then (b_m_isGoing_44 h) else (gd (zb 0) (some (0, h))))) else (b_m_isGoing_44 h))))))))
set_option maxHeartbeats 4000000 in
set_option maxRecDepth 20000 in
theorem t_m_isGoing {G : GG} (v0 : Nat) (v1 : Int32) (v2 : Int32) (v3 : Int32) (h : Hp) : Mt G M_m_isGoing 0 [.ref v0, .int v1, .int v2, .int v3] cI h (f_m_isGoing v0 v1 v2 v3 h) := by
  refine Mt.ofF (by decide +kernel) rfl (Rt.z rfl rfl) ?_
  show T G M_m_isGoing 0 cI 0 [(0, .ref v0), (1, .int v1), (2, .int v2), (3, .int v3)] [] h _
  unfold f_m_isGoing
  refine q_aload_n (pc := 0) (dq D_m_isGoing_0_ok 0 rfl) rfl 0 rfl ?_
  refine q_getR (pc := 1) (dq D_m_isGoing_0_ok 1 rfl) fa_m_348 rfl (fun x1 => ?_)
  refine q_getR (pc := 4) (dq D_m_isGoing_0_ok 2 rfl) fa_m_266 rfl (fun x2 => ?_)
  refine q_iload_n (pc := 7) (dq D_m_isGoing_0_ok 3 rfl) rfl 1 rfl ?_
  refine r_iald (pc := 8) (dq D_m_isGoing_0_ok 4 rfl) (fun x3 => ?_)
  refine q_ic2 (pc := 9) (dq D_m_isGoing_0_ok 5 rfl) ?_
  refine q_ic_ne (pc := 10) 25 (dq D_m_isGoing_0_ok 6 rfl) rfl ?_ ?_
  · refine q_aload_n (pc := 25) (dq D_m_isGoing_0_ok 13 rfl) rfl 0 rfl ?_
    refine q_getR (pc := 26) (dq D_m_isGoing_0_ok 14 rfl) fa_m_348 rfl (fun x4 => ?_)
    refine q_getR (pc := 29) (dq D_m_isGoing_0_ok 15 rfl) fa_m_266 rfl (fun x5 => ?_)
    refine q_iload_n (pc := 32) (dq D_m_isGoing_0_ok 16 rfl) rfl 1 rfl ?_
    refine r_iald (pc := 33) (dq D_m_isGoing_0_ok 17 rfl) (fun x6 => ?_)
    refine q_ic3 (pc := 34) (dq D_m_isGoing_0_ok 18 rfl) ?_
    refine q_ic_ne (pc := 35) 44 (dq D_m_isGoing_0_ok 19 rfl) rfl ?_ ?_
    · exact T.lsub [] rfl (tb_m_isGoing_44 h)
    · refine q_iload_n (pc := 38) (dq D_m_isGoing_0_ok 20 rfl) rfl 2 rfl ?_
      refine q_ic2 (pc := 39) (dq D_m_isGoing_0_ok 21 rfl) ?_
      refine q_irem (pc := 40) (dq D_m_isGoing_0_ok 22 rfl) ?_
      refine p_if_ne (pc := 41) 48 (dq D_m_isGoing_0_ok 23 rfl) rfl ?_ ?_
      · refine q_ic0 (pc := 48) (dq D_m_isGoing_0_ok 26 rfl) ?_
        exact r_retz (pc := 49) (dq D_m_isGoing_0_ok 27 rfl) rfl
      · exact T.lsub [] rfl (tb_m_isGoing_44 h)
  · refine q_iload_n (pc := 13) (dq D_m_isGoing_0_ok 7 rfl) rfl 3 rfl ?_
    refine p_if_le (pc := 14) 21 (dq D_m_isGoing_0_ok 8 rfl) rfl ?_ ?_
    · refine q_ic0 (pc := 21) (dq D_m_isGoing_0_ok 11 rfl) ?_
      refine q_goto (pc := 22) 49 (dq D_m_isGoing_0_ok 12 rfl) rfl ?_
      exact r_retz (pc := 49) (dq D_m_isGoing_0_ok 27 rfl) rfl
    · refine q_ic1 (pc := 17) (dq D_m_isGoing_0_ok 9 rfl) ?_
      refine q_goto (pc := 18) 49 (dq D_m_isGoing_0_ok 10 rfl) rfl ?_
      exact r_retz (pc := 49) (dq D_m_isGoing_0_ok 27 rfl) rfl
noncomputable def f_m_goings (v0 : Nat) (v1 : Int32) (v2 : Int32) (h : Hp) : Option (Int32 × Hp) := gd (hS h v0 = some (.inl 11)) (bR (hR h v0 3) fun x1 => gd (hS h x1 = some (.inl 12)) (bR (hR h x1 10) fun x2 => gd (ai h x2 0 v1) (lt (hI h x2 v1.toNatClampNeg) fun x3 => if x3 = 2 then (gd (hS h v0 = some (.inl 11)) (bR (hR h v0 15) fun x9 => gd (ai h x9 0 6) (lt (hI h x9 (6 : Int32).toNatClampNeg) fun x10 => if x10 ≤ v2 then (gd (hS h v0 = some (.inl 11)) (bR (hR h v0 15) fun x11 => gd (ai h x11 0 6) (lt (hI h x11 (6 : Int32).toNatClampNeg) fun x12 => some (x12, h)))) else (some (v2, h))))) else (gd (hS h v0 = some (.inl 11)) (bR (hR h v0 3) fun x4 => gd (hS h x4 = some (.inl 12)) (bR (hR h x4 10) fun x5 => gd (ai h x5 0 v1) (lt (hI h x5 v1.toNatClampNeg) fun x6 => if x6 = 3 then (gd (hS h v0 = some (.inl 11)) (bR (hR h v0 15) fun x7 => gd (ai h x7 0 5) (lt (hI h x7 (5 : Int32).toNatClampNeg) fun x8 => gd (¬ (2 : Int32) = 0) (gd (¬ (2 : Int32) = 0) (some (((v2 + 1) - (irm x8 2)) / 2, h)))))) else (some (v2, h)))))))))
set_option maxHeartbeats 4000000 in
set_option maxRecDepth 20000 in
theorem t_m_goings {G : GG} (v0 : Nat) (v1 : Int32) (v2 : Int32) (h : Hp) : Mt G M_m_goings 0 [.ref v0, .int v1, .int v2] cI h (f_m_goings v0 v1 v2 h) := by
  refine Mt.ofF (by decide +kernel) rfl (Rt.i rfl rfl) ?_
  show T G M_m_goings 0 cI 0 [(0, .ref v0), (1, .int v1), (2, .int v2)] [] h _
  unfold f_m_goings
  refine q_aload_n (pc := 0) (dq D_m_goings_0_ok 0 rfl) rfl 0 rfl ?_
  refine q_getR (pc := 1) (dq D_m_goings_0_ok 1 rfl) fa_m_348 rfl (fun x1 => ?_)
  refine q_getR (pc := 4) (dq D_m_goings_0_ok 2 rfl) fa_m_266 rfl (fun x2 => ?_)
  refine q_iload_n (pc := 7) (dq D_m_goings_0_ok 3 rfl) rfl 1 rfl ?_
  refine r_iald (pc := 8) (dq D_m_goings_0_ok 4 rfl) (fun x3 => ?_)
  refine q_ic2 (pc := 9) (dq D_m_goings_0_ok 5 rfl) ?_
  refine q_ic_ne (pc := 10) 36 (dq D_m_goings_0_ok 6 rfl) rfl ?_ ?_
  · refine q_aload_n (pc := 36) (dq D_m_goings_0_ok 20 rfl) rfl 0 rfl ?_
    refine q_getR (pc := 37) (dq D_m_goings_0_ok 21 rfl) fa_m_348 rfl (fun x4 => ?_)
    refine q_getR (pc := 40) (dq D_m_goings_0_ok 22 rfl) fa_m_266 rfl (fun x5 => ?_)
    refine q_iload_n (pc := 43) (dq D_m_goings_0_ok 23 rfl) rfl 1 rfl ?_
    refine r_iald (pc := 44) (dq D_m_goings_0_ok 24 rfl) (fun x6 => ?_)
    refine q_ic3 (pc := 45) (dq D_m_goings_0_ok 25 rfl) ?_
    refine q_ic_ne (pc := 46) 66 (dq D_m_goings_0_ok 26 rfl) rfl ?_ ?_
    · refine q_iload_n (pc := 66) (dq D_m_goings_0_ok 40 rfl) rfl 2 rfl ?_
      exact r_reti (pc := 67) (dq D_m_goings_0_ok 41 rfl) rfl
    · refine q_iload_n (pc := 49) (dq D_m_goings_0_ok 27 rfl) rfl 2 rfl ?_
      refine q_ic1 (pc := 50) (dq D_m_goings_0_ok 28 rfl) ?_
      refine q_iadd (pc := 51) (dq D_m_goings_0_ok 29 rfl) ?_
      refine q_aload_n (pc := 52) (dq D_m_goings_0_ok 30 rfl) rfl 0 rfl ?_
      refine q_getR (pc := 53) (dq D_m_goings_0_ok 31 rfl) fa_m_17 rfl (fun x7 => ?_)
      refine q_ic5 (pc := 56) (dq D_m_goings_0_ok 32 rfl) ?_
      refine r_iald (pc := 57) (dq D_m_goings_0_ok 33 rfl) (fun x8 => ?_)
      refine q_ic2 (pc := 58) (dq D_m_goings_0_ok 34 rfl) ?_
      refine q_irem (pc := 59) (dq D_m_goings_0_ok 35 rfl) ?_
      refine q_isub (pc := 60) (dq D_m_goings_0_ok 36 rfl) ?_
      refine q_ic2 (pc := 61) (dq D_m_goings_0_ok 37 rfl) ?_
      refine q_idiv (pc := 62) (dq D_m_goings_0_ok 38 rfl) ?_
      refine q_goto (pc := 63) 67 (dq D_m_goings_0_ok 39 rfl) rfl ?_
      exact r_reti (pc := 67) (dq D_m_goings_0_ok 41 rfl) rfl
  · refine q_iload_n (pc := 13) (dq D_m_goings_0_ok 7 rfl) rfl 2 rfl ?_
    refine q_aload_n (pc := 14) (dq D_m_goings_0_ok 8 rfl) rfl 0 rfl ?_
    refine q_getR (pc := 15) (dq D_m_goings_0_ok 9 rfl) fa_m_17 rfl (fun x9 => ?_)
    refine q_bipush (pc := 18) (v := 6) (dq D_m_goings_0_ok 10 rfl) (by decide) ?_
    refine r_iald (pc := 20) (dq D_m_goings_0_ok 11 rfl) (fun x10 => ?_)
    refine q_ic_ge (pc := 21) 28 (dq D_m_goings_0_ok 12 rfl) rfl ?_ ?_
    · refine q_aload_n (pc := 28) (dq D_m_goings_0_ok 15 rfl) rfl 0 rfl ?_
      refine q_getR (pc := 29) (dq D_m_goings_0_ok 16 rfl) fa_m_17 rfl (fun x11 => ?_)
      refine q_bipush (pc := 32) (v := 6) (dq D_m_goings_0_ok 17 rfl) (by decide) ?_
      refine r_iald (pc := 34) (dq D_m_goings_0_ok 18 rfl) (fun x12 => ?_)
      exact r_reti (pc := 35) (dq D_m_goings_0_ok 19 rfl) rfl
    · refine q_iload_n (pc := 24) (dq D_m_goings_0_ok 13 rfl) rfl 2 rfl ?_
      refine q_goto (pc := 25) 35 (dq D_m_goings_0_ok 14 rfl) rfl ?_
      exact r_reti (pc := 35) (dq D_m_goings_0_ok 19 rfl) rfl
noncomputable def b_m_toothBehind_88 (k33 : (Nat × Int32 × Int32 × Int32 × Int32 × Int32) → Hp → Option (Int32 × Hp)) (v0 : Nat) (v1 : Int32) (v3 : Int32) (v4 : Int32) (v5 : Int32) (v6 : Int32) (h : Hp) : Option (Int32 × Hp) := gd (hS h v0 = some (.inl 11)) (bR (hR h v0 22) fun x1 => gd (ai h x1 0 v4) (lt (uI h x1 v4.toNatClampNeg v5) fun h2 => gd (hS h2 v0 = some (.inl 11)) (bd (f_m_goesOnce v0 v1 v4 h2) fun r4 h3 => k33 (v0, v1, v3, r4, v5 + 1, v6) h3)))
set_option maxHeartbeats 4000000 in
set_option maxRecDepth 20000 in
theorem tb_m_toothBehind_88 {G : GG} {k33 : (Nat × Int32 × Int32 × Int32 × Int32 × Int32) → Hp → Option (Int32 × Hp)} (hk33 : ∀ s h, T G M_m_toothBehind 2 cI 33 [(0, .ref s.1), (1, .int s.2.1), (3, .int s.2.2.1), (4, .int s.2.2.2.1), (5, .int s.2.2.2.2.1), (6, .int s.2.2.2.2.2)] [] h (k33 s h)) (v0 : Nat) (v1 : Int32) (v3 : Int32) (v4 : Int32) (v5 : Int32) (v6 : Int32) (h : Hp) : T G M_m_toothBehind 2 cI 88 [(0, .ref v0), (1, .int v1), (3, .int v3), (4, .int v4), (5, .int v5), (6, .int v6)] [] h (b_m_toothBehind_88 k33 v0 v1 v3 v4 v5 v6 h) := by
  unfold b_m_toothBehind_88
  refine q_aload_n (pc := 88) (dq D_m_toothBehind_0_ok 49 rfl) rfl 0 rfl ?_
  refine q_getR (pc := 89) (dq D_m_toothBehind_0_ok 50 rfl) fa_m_30 rfl (fun x1 => ?_)
  refine q_iload (pc := 92) (dq D_m_toothBehind_0_ok 51 rfl) 3 rfl ?_
  refine q_iload (pc := 94) (dq D_m_toothBehind_0_ok 52 rfl) 4 rfl ?_
  refine r_iast (pc := 96) (dq D_m_toothBehind_0_ok 53 rfl) (fun h2 => ?_)
  refine q_aload_n (pc := 97) (dq D_m_toothBehind_0_ok 54 rfl) rfl 0 rfl ?_
  refine q_iload_n (pc := 98) (dq D_m_toothBehind_0_ok 55 rfl) rfl 1 rfl ?_
  refine q_iload (pc := 99) (dq D_m_toothBehind_0_ok 56 rfl) 3 rfl ?_
  refine r_invI (Mc := M_m_goesOnce) (pc := 101) (ci := 11) (rest := []) 1 2 [.int v1, .int v4] (dq D_m_toothBehind_0_ok 57 rfl) rfl rfl lc_m_goesOnce lv_m_goesOnce_ ml_m_374 rfl rfl rfl rfl (t_m_goesOnce v0 v1 v4 h2) (fun r4 h3 => ?_)
  refine q_istore (pc := 104) (ls' := [(4, .int r4), (0, .ref v0), (1, .int v1), (3, .int v3), (5, .int v5), (6, .int v6)]) (dq D_m_toothBehind_0_ok 58 rfl) rfl rfl ?_
  refine q_iinc (pc := 106) (v := (1)) (ls' := [(5, .int (v5 + 1)), (4, .int r4), (0, .ref v0), (1, .int v1), (3, .int v3), (6, .int v6)]) (dq D_m_toothBehind_0_ok 59 rfl) 4 rfl (by decide) rfl rfl ?_
  refine q_goto (pc := 109) 33 (dq D_m_toothBehind_1_ok 0 rfl) rfl ?_
  exact T.lsub [2, 3, 4, 1, 0, 5] rfl (hk33 (v0, v1, v3, r4, v5 + 1, v6) h3)
noncomputable def b_m_toothBehind_33 (k33 : (Nat × Int32 × Int32 × Int32 × Int32 × Int32) → Hp → Option (Int32 × Hp)) (v0 : Nat) (v1 : Int32) (v3 : Int32) (v4 : Int32) (v5 : Int32) (v6 : Int32) (h : Hp) : Option (Int32 × Hp) := if v3 ≤ v5 then (some (v4, h)) else (if v6 = 0 then (gd (hS h v0 = some (.inl 11)) (bR (hR h v0 22) fun x1 => gd (ai h x1 0 v4) (lt (hI h x1 v4.toNatClampNeg) fun x2 => if x2 = ((-1)) then (b_m_toothBehind_88 k33 v0 v1 v3 v4 v5 v6 h) else (gd (hS h v0 = some (.inl 11)) (bR (hR h v0 22) fun x3 => gd (ai h x3 0 v4) (lt (hI h x3 v4.toNatClampNeg) fun x4 => lt (v5 - x4 : Int32) fun y5 => gd (¬ y5 = 0) (lt (v5 + (((v3 - v5) / y5) * y5) : Int32) fun y6 => lt (1 : Int32) fun y7 => k33 (v0, v1, v3, v4, y6, y7) h))))))) else (b_m_toothBehind_88 k33 v0 v1 v3 v4 v5 v6 h))
set_option maxHeartbeats 4000000 in
set_option maxRecDepth 20000 in
theorem tb_m_toothBehind_33 {G : GG} {k33 : (Nat × Int32 × Int32 × Int32 × Int32 × Int32) → Hp → Option (Int32 × Hp)} (hk33 : ∀ s h, T G M_m_toothBehind 2 cI 33 [(0, .ref s.1), (1, .int s.2.1), (3, .int s.2.2.1), (4, .int s.2.2.2.1), (5, .int s.2.2.2.2.1), (6, .int s.2.2.2.2.2)] [] h (k33 s h)) (v0 : Nat) (v1 : Int32) (v3 : Int32) (v4 : Int32) (v5 : Int32) (v6 : Int32) (h : Hp) : T G M_m_toothBehind 2 cI 33 [(0, .ref v0), (1, .int v1), (3, .int v3), (4, .int v4), (5, .int v5), (6, .int v6)] [] h (b_m_toothBehind_33 k33 v0 v1 v3 v4 v5 v6 h) := by
  unfold b_m_toothBehind_33
  refine q_iload (pc := 33) (dq D_m_toothBehind_0_ok 18 rfl) 4 rfl ?_
  refine q_iload_n (pc := 35) (dq D_m_toothBehind_0_ok 19 rfl) rfl 2 rfl ?_
  refine q_ic_ge (pc := 36) 112 (dq D_m_toothBehind_0_ok 20 rfl) rfl ?_ ?_
  · refine q_iload (pc := 112) (dq D_m_toothBehind_1_ok 1 rfl) 3 rfl ?_
    exact r_reti (pc := 114) (dq D_m_toothBehind_1_ok 2 rfl) rfl
  · refine q_iload (pc := 39) (dq D_m_toothBehind_0_ok 21 rfl) 5 rfl ?_
    refine p_if_ne (pc := 41) 88 (dq D_m_toothBehind_0_ok 22 rfl) rfl ?_ ?_
    · exact T.lsub [0, 1, 2, 3, 4, 5] rfl (tb_m_toothBehind_88 hk33 v0 v1 v3 v4 v5 v6 h)
    · refine q_aload_n (pc := 44) (dq D_m_toothBehind_0_ok 23 rfl) rfl 0 rfl ?_
      refine q_getR (pc := 45) (dq D_m_toothBehind_0_ok 24 rfl) fa_m_30 rfl (fun x1 => ?_)
      refine q_iload (pc := 48) (dq D_m_toothBehind_0_ok 25 rfl) 3 rfl ?_
      refine r_iald (pc := 50) (dq D_m_toothBehind_0_ok 26 rfl) (fun x2 => ?_)
      refine q_icm1 (pc := 51) (dq D_m_toothBehind_0_ok 27 rfl) ?_
      refine q_ic_eq (pc := 52) 88 (dq D_m_toothBehind_0_ok 28 rfl) rfl ?_ ?_
      · exact T.lsub [0, 1, 2, 3, 4, 5] rfl (tb_m_toothBehind_88 hk33 v0 v1 v3 v4 v5 v6 h)
      · refine q_iload (pc := 55) (dq D_m_toothBehind_0_ok 29 rfl) 4 rfl ?_
        refine q_aload_n (pc := 57) (dq D_m_toothBehind_0_ok 30 rfl) rfl 0 rfl ?_
        refine q_getR (pc := 58) (dq D_m_toothBehind_0_ok 31 rfl) fa_m_30 rfl (fun x3 => ?_)
        refine q_iload (pc := 61) (dq D_m_toothBehind_0_ok 32 rfl) 3 rfl ?_
        refine r_iald (pc := 63) (dq D_m_toothBehind_0_ok 33 rfl) (fun x4 => ?_)
        refine q_isub (pc := 64) (dq D_m_toothBehind_0_ok 34 rfl) ?_
        refine r_nmI (fun y5 => ?_)
        refine q_istore (pc := 65) (ls' := [(7, .int y5), (0, .ref v0), (1, .int v1), (3, .int v3), (4, .int v4), (5, .int v5), (6, .int v6)]) (dq D_m_toothBehind_0_ok 35 rfl) rfl rfl ?_
        refine q_iload (pc := 67) (dq D_m_toothBehind_0_ok 36 rfl) 5 rfl ?_
        refine q_iload_n (pc := 69) (dq D_m_toothBehind_0_ok 37 rfl) rfl 3 rfl ?_
        refine q_iload (pc := 70) (dq D_m_toothBehind_0_ok 38 rfl) 5 rfl ?_
        refine q_isub (pc := 72) (dq D_m_toothBehind_0_ok 39 rfl) ?_
        refine q_iload (pc := 73) (dq D_m_toothBehind_0_ok 40 rfl) 0 rfl ?_
        refine q_idiv (pc := 75) (dq D_m_toothBehind_0_ok 41 rfl) ?_
        refine q_iload (pc := 76) (dq D_m_toothBehind_0_ok 42 rfl) 0 rfl ?_
        refine q_imul (pc := 78) (dq D_m_toothBehind_0_ok 43 rfl) ?_
        refine q_iadd (pc := 79) (dq D_m_toothBehind_0_ok 44 rfl) ?_
        refine r_nmI (fun y6 => ?_)
        refine q_istore (pc := 80) (ls' := [(5, .int y6), (7, .int y5), (0, .ref v0), (1, .int v1), (3, .int v3), (4, .int v4), (6, .int v6)]) (dq D_m_toothBehind_0_ok 45 rfl) rfl rfl ?_
        refine q_ic1 (pc := 82) (dq D_m_toothBehind_0_ok 46 rfl) ?_
        refine r_nmI (fun y7 => ?_)
        refine q_istore (pc := 83) (ls' := [(6, .int y7), (5, .int y6), (7, .int y5), (0, .ref v0), (1, .int v1), (3, .int v3), (4, .int v4)]) (dq D_m_toothBehind_0_ok 47 rfl) rfl rfl ?_
        refine q_goto (pc := 85) 33 (dq D_m_toothBehind_0_ok 48 rfl) rfl ?_
        exact T.lsub [3, 4, 5, 6, 1, 0] rfl (hk33 (v0, v1, v3, v4, y6, y7) h)
noncomputable def l_m_toothBehind_33 : Nat → (Nat × Int32 × Int32 × Int32 × Int32 × Int32) → Hp → Option (Int32 × Hp) := lp (fun k33 s h => b_m_toothBehind_33 k33 s.1 s.2.1 s.2.2.1 s.2.2.2.1 s.2.2.2.2.1 s.2.2.2.2.2 h)
set_option maxHeartbeats 4000000 in
set_option maxRecDepth 20000 in
theorem tl_m_toothBehind_33 {G : GG} (n : Nat) (s : Nat × Int32 × Int32 × Int32 × Int32 × Int32) (h : Hp) : T G M_m_toothBehind 2 cI 33 [(0, .ref s.1), (1, .int s.2.1), (3, .int s.2.2.1), (4, .int s.2.2.2.1), (5, .int s.2.2.2.2.1), (6, .int s.2.2.2.2.2)] [] h (l_m_toothBehind_33 n s h) :=
  T.loop (lsOf := fun s => [(0, .ref s.1), (1, .int s.2.1), (3, .int s.2.2.1), (4, .int s.2.2.2.1), (5, .int s.2.2.2.2.1), (6, .int s.2.2.2.2.2)]) (fun k33 hk33 s h => tb_m_toothBehind_33 hk33 s.1 s.2.1 s.2.2.1 s.2.2.2.1 s.2.2.2.2.1 s.2.2.2.2.2 h) n s h
noncomputable def b_m_toothBehind_3 (k3 : (Nat × Int32 × Int32 × Int32 × Int32) → Hp → Option (Int32 × Hp)) (v0 : Nat) (v1 : Int32) (v2 : Int32) (v3 : Int32) (v4 : Int32) (h : Hp) : Option (Int32 × Hp) := if 60 ≤ v4 then (lt (0 : Int32) fun y1 => lt (0 : Int32) fun y2 => l_m_toothBehind_33 FU (v0, v1, v3, v2, y1, y2) h) else (gd (hS h v0 = some (.inl 11)) (bR (hR h v0 22) fun x3 => gd (ai h x3 0 v4) (lt (uI h x3 v4.toNatClampNeg ((-1))) fun h4 => k3 (v0, v1, v2, v3, v4 + 1) h4)))
set_option maxHeartbeats 4000000 in
set_option maxRecDepth 20000 in
theorem tb_m_toothBehind_3 {G : GG} {k3 : (Nat × Int32 × Int32 × Int32 × Int32) → Hp → Option (Int32 × Hp)} (hk3 : ∀ s h, T G M_m_toothBehind 2 cI 3 [(0, .ref s.1), (1, .int s.2.1), (2, .int s.2.2.1), (3, .int s.2.2.2.1), (4, .int s.2.2.2.2)] [] h (k3 s h)) (v0 : Nat) (v1 : Int32) (v2 : Int32) (v3 : Int32) (v4 : Int32) (h : Hp) : T G M_m_toothBehind 2 cI 3 [(0, .ref v0), (1, .int v1), (2, .int v2), (3, .int v3), (4, .int v4)] [] h (b_m_toothBehind_3 k3 v0 v1 v2 v3 v4 h) := by
  unfold b_m_toothBehind_3
  refine q_iload (pc := 3) (dq D_m_toothBehind_0_ok 2 rfl) 4 rfl ?_
  refine q_bipush (pc := 5) (v := 60) (dq D_m_toothBehind_0_ok 3 rfl) (by decide) ?_
  refine q_ic_ge (pc := 7) 24 (dq D_m_toothBehind_0_ok 4 rfl) rfl ?_ ?_
  · refine q_iload_n (pc := 24) (dq D_m_toothBehind_0_ok 12 rfl) rfl 2 rfl ?_
    refine q_istore (pc := 25) (ls' := [(4, .int v2), (0, .ref v0), (1, .int v1), (2, .int v2), (3, .int v3)]) (dq D_m_toothBehind_0_ok 13 rfl) rfl rfl ?_
    refine q_ic0 (pc := 27) (dq D_m_toothBehind_0_ok 14 rfl) ?_
    refine r_nmI (fun y1 => ?_)
    refine q_istore (pc := 28) (ls' := [(5, .int y1), (4, .int v2), (0, .ref v0), (1, .int v1), (2, .int v2), (3, .int v3)]) (dq D_m_toothBehind_0_ok 15 rfl) rfl rfl ?_
    refine q_ic0 (pc := 30) (dq D_m_toothBehind_0_ok 16 rfl) ?_
    refine r_nmI (fun y2 => ?_)
    refine q_istore (pc := 31) (ls' := [(6, .int y2), (5, .int y1), (4, .int v2), (0, .ref v0), (1, .int v1), (2, .int v2), (3, .int v3)]) (dq D_m_toothBehind_0_ok 17 rfl) rfl rfl ?_
    exact T.lsub [3, 4, 6, 2, 1, 0] rfl (tl_m_toothBehind_33 FU (v0, v1, v3, v2, y1, y2) h)
  · refine q_aload_n (pc := 10) (dq D_m_toothBehind_0_ok 5 rfl) rfl 0 rfl ?_
    refine q_getR (pc := 11) (dq D_m_toothBehind_0_ok 6 rfl) fa_m_30 rfl (fun x3 => ?_)
    refine q_iload (pc := 14) (dq D_m_toothBehind_0_ok 7 rfl) 4 rfl ?_
    refine q_icm1 (pc := 16) (dq D_m_toothBehind_0_ok 8 rfl) ?_
    refine r_iast (pc := 17) (dq D_m_toothBehind_0_ok 9 rfl) (fun h4 => ?_)
    refine q_iinc (pc := 18) (v := (1)) (ls' := [(4, .int (v4 + 1)), (0, .ref v0), (1, .int v1), (2, .int v2), (3, .int v3)]) (dq D_m_toothBehind_0_ok 10 rfl) 4 rfl (by decide) rfl rfl ?_
    refine q_goto (pc := 21) 3 (dq D_m_toothBehind_0_ok 11 rfl) rfl ?_
    exact T.lsub [1, 2, 3, 4, 0] rfl (hk3 (v0, v1, v2, v3, v4 + 1) h4)
noncomputable def l_m_toothBehind_3 : Nat → (Nat × Int32 × Int32 × Int32 × Int32) → Hp → Option (Int32 × Hp) := lp (fun k3 s h => b_m_toothBehind_3 k3 s.1 s.2.1 s.2.2.1 s.2.2.2.1 s.2.2.2.2 h)
set_option maxHeartbeats 4000000 in
set_option maxRecDepth 20000 in
theorem tl_m_toothBehind_3 {G : GG} (n : Nat) (s : Nat × Int32 × Int32 × Int32 × Int32) (h : Hp) : T G M_m_toothBehind 2 cI 3 [(0, .ref s.1), (1, .int s.2.1), (2, .int s.2.2.1), (3, .int s.2.2.2.1), (4, .int s.2.2.2.2)] [] h (l_m_toothBehind_3 n s h) :=
  T.loop (lsOf := fun s => [(0, .ref s.1), (1, .int s.2.1), (2, .int s.2.2.1), (3, .int s.2.2.2.1), (4, .int s.2.2.2.2)]) (fun k3 hk3 s h => tb_m_toothBehind_3 hk3 s.1 s.2.1 s.2.2.1 s.2.2.2.1 s.2.2.2.2 h) n s h
noncomputable def f_m_toothBehind (v0 : Nat) (v1 : Int32) (v2 : Int32) (v3 : Int32) (h : Hp) : Option (Int32 × Hp) := lt (0 : Int32) fun y1 => l_m_toothBehind_3 FU (v0, v1, v2, v3, y1) h
set_option maxHeartbeats 4000000 in
set_option maxRecDepth 20000 in
theorem t_m_toothBehind {G : GG} (v0 : Nat) (v1 : Int32) (v2 : Int32) (v3 : Int32) (h : Hp) : Mt G M_m_toothBehind 2 [.ref v0, .int v1, .int v2, .int v3] cI h (f_m_toothBehind v0 v1 v2 v3 h) := by
  refine Mt.ofF (by decide +kernel) rfl (Rt.i rfl rfl) ?_
  show T G M_m_toothBehind 2 cI 0 [(0, .ref v0), (1, .int v1), (2, .int v2), (3, .int v3)] [] h _
  unfold f_m_toothBehind
  refine q_ic0 (pc := 0) (dq D_m_toothBehind_0_ok 0 rfl) ?_
  refine r_nmI (fun y1 => ?_)
  refine q_istore (pc := 1) (ls' := [(4, .int y1), (0, .ref v0), (1, .int v1), (2, .int v2), (3, .int v3)]) (dq D_m_toothBehind_0_ok 1 rfl) rfl rfl ?_
  exact T.lsub [1, 2, 3, 4, 0] rfl (tl_m_toothBehind_3 FU (v0, v1, v2, v3, y1) h)
noncomputable def b_m_aTurn_71 (k4 : (Nat × Int32 × Int32) → Hp → Option (Int32 × Hp)) (v0 : Nat) (v1 : Int32) (v2 : Int32) (h : Hp) : Option (Int32 × Hp) := k4 (v0, v1, v2 + 1) h
set_option maxHeartbeats 4000000 in
set_option maxRecDepth 20000 in
theorem tb_m_aTurn_71 {G : GG} {k4 : (Nat × Int32 × Int32) → Hp → Option (Int32 × Hp)} (hk4 : ∀ s h, T G M_m_aTurn 2 cI 4 [(0, .ref s.1), (1, .int s.2.1), (2, .int s.2.2)] [] h (k4 s h)) (v0 : Nat) (v1 : Int32) (v2 : Int32) (h : Hp) : T G M_m_aTurn 2 cI 71 [(0, .ref v0), (1, .int v1), (2, .int v2)] [] h (b_m_aTurn_71 k4 v0 v1 v2 h) := by
  unfold b_m_aTurn_71
  refine q_iinc (pc := 71) (v := (1)) (ls' := [(2, .int (v2 + 1)), (0, .ref v0), (1, .int v1)]) (dq D_m_aTurn_0_ok 42 rfl) 2 rfl (by decide) rfl rfl ?_
  refine q_goto (pc := 74) 4 (dq D_m_aTurn_0_ok 43 rfl) rfl ?_
  exact T.lsub [1, 2, 0] rfl (hk4 (v0, v1, v2 + 1) h)
noncomputable def b_m_aTurn_69 (k4 : (Nat × Int32 × Int32) → Hp → Option (Int32 × Hp)) (v0 : Nat) (v2 : Int32) (s0 : Int32) (s1 : Int32) (h : Hp) : Option (Int32 × Hp) := lt (s1 + s0 : Int32) fun y1 => b_m_aTurn_71 k4 v0 y1 v2 h
set_option maxHeartbeats 4000000 in
set_option maxRecDepth 20000 in
theorem tb_m_aTurn_69 {G : GG} {k4 : (Nat × Int32 × Int32) → Hp → Option (Int32 × Hp)} (hk4 : ∀ s h, T G M_m_aTurn 2 cI 4 [(0, .ref s.1), (1, .int s.2.1), (2, .int s.2.2)] [] h (k4 s h)) (v0 : Nat) (v2 : Int32) (s0 : Int32) (s1 : Int32) (h : Hp) : T G M_m_aTurn 2 cI 69 [(0, .ref v0), (2, .int v2)] [.int s0, .int s1] h (b_m_aTurn_69 k4 v0 v2 s0 s1 h) := by
  unfold b_m_aTurn_69
  refine q_iadd (pc := 69) (dq D_m_aTurn_0_ok 40 rfl) ?_
  refine r_nmI (fun y1 => ?_)
  refine q_istore_n (pc := 70) (ls' := [(1, .int y1), (0, .ref v0), (2, .int v2)]) (dq D_m_aTurn_0_ok 41 rfl) rfl rfl rfl ?_
  exact T.lsub [1, 0, 2] rfl (tb_m_aTurn_71 hk4 v0 y1 v2 h)
noncomputable def b_m_aTurn_4 (k4 : (Nat × Int32 × Int32) → Hp → Option (Int32 × Hp)) (v0 : Nat) (v1 : Int32) (v2 : Int32) (h : Hp) : Option (Int32 × Hp) := gd (hS h v0 = some (.inl 11)) (bR (hR h v0 3) fun x1 => gd (hS h x1 = some (.inl 12)) (lt (hI h x1 2) fun x2 => if x2 ≤ v2 then (gd (hS h v0 = some (.inl 11)) (bR (hR h v0 16) fun x3 => gd (ai h x3 0 5) (lt (hI h x3 (5 : Int32).toNatClampNeg) fun x4 => gd (ai h x3 0 5) (lt (uI h x3 (5 : Int32).toNatClampNeg (x4 + 1)) fun h5 => gd (hS h5 v0 = some (.inl 11)) (bR (hR h5 v0 16) fun x6 => gd (ai h5 x6 0 6) (lt (hI h5 x6 (6 : Int32).toNatClampNeg) fun x7 => gd (hS h5 v0 = some (.inl 11)) (bR (hR h5 v0 16) fun x8 => gd (ai h5 x8 0 6) (lt (hI h5 x8 (6 : Int32).toNatClampNeg) fun x9 => if x9 ≤ 0 then (gd (ai h5 x6 0 6) (lt (uI h5 x6 (6 : Int32).toNatClampNeg (x7 - 0)) fun h10 => some (v1, h10))) else (gd (ai h5 x6 0 6) (lt (uI h5 x6 (6 : Int32).toNatClampNeg (x7 - 1)) fun h11 => some (v1, h11))))))))))) else (gd (hS h v0 = some (.inl 11)) (bR (hR h v0 16) fun x12 => gd (ai h x12 0 5) (lt (hI h x12 (5 : Int32).toNatClampNeg) fun x13 => gd (hS h v0 = some (.inl 11)) (bR (hR h v0 16) fun x14 => gd (ai h x14 0 6) (lt (hI h x14 (6 : Int32).toNatClampNeg) fun x15 => gd (hS h v0 = some (.inl 11)) (bd (f_m_isGoing v0 v2 x13 x15 h) fun r17 h16 => if r17 = 0 then (b_m_aTurn_71 k4 v0 v1 v2 h16) else (gd (hS h16 v0 = some (.inl 11)) (bR (hR h16 v0 16) fun x18 => gd (hS h16 v0 = some (.inl 11)) (bR (hR h16 v0 16) fun x19 => gd (ai h16 x19 0 v2) (lt (hI h16 x19 v2.toNatClampNeg) fun x20 => gd (hS h16 v0 = some (.inl 11)) (bd (f_m_goesOnce v0 v2 x20 h16) fun r22 h21 => gd (ai h21 x18 0 v2) (lt (uI h21 x18 v2.toNatClampNeg r22) fun h23 => gd (hS h23 v0 = some (.inl 11)) (lt (hI h23 v0 21) fun x24 => if x24 = 0 then (b_m_aTurn_69 k4 v0 v2 0 v1 h23) else (b_m_aTurn_69 k4 v0 v2 1 v1 h23))))))))))))))))
set_option maxHeartbeats 4000000 in
set_option maxRecDepth 20000 in
theorem tb_m_aTurn_4 {G : GG} {k4 : (Nat × Int32 × Int32) → Hp → Option (Int32 × Hp)} (hk4 : ∀ s h, T G M_m_aTurn 2 cI 4 [(0, .ref s.1), (1, .int s.2.1), (2, .int s.2.2)] [] h (k4 s h)) (v0 : Nat) (v1 : Int32) (v2 : Int32) (h : Hp) : T G M_m_aTurn 2 cI 4 [(0, .ref v0), (1, .int v1), (2, .int v2)] [] h (b_m_aTurn_4 k4 v0 v1 v2 h) := by
  unfold b_m_aTurn_4
  refine q_iload_n (pc := 4) (dq D_m_aTurn_0_ok 4 rfl) rfl 2 rfl ?_
  refine q_aload_n (pc := 5) (dq D_m_aTurn_0_ok 5 rfl) rfl 0 rfl ?_
  refine q_getR (pc := 6) (dq D_m_aTurn_0_ok 6 rfl) fa_m_348 rfl (fun x1 => ?_)
  refine r_getI (pc := 9) (dq D_m_aTurn_0_ok 7 rfl) fa_m_205 rfl (fun x2 => ?_)
  refine q_ic_ge (pc := 12) 77 (dq D_m_aTurn_0_ok 8 rfl) rfl ?_ ?_
  · refine q_aload_n (pc := 77) (dq D_m_aTurn_0_ok 44 rfl) rfl 0 rfl ?_
    refine q_getR (pc := 78) (dq D_m_aTurn_0_ok 45 rfl) fa_m_21 rfl (fun x3 => ?_)
    refine q_ic5 (pc := 81) (dq D_m_aTurn_0_ok 46 rfl) ?_
    refine q_dup2 (pc := 82) (dq D_m_aTurn_0_ok 47 rfl) rfl rfl ?_
    refine r_iald (pc := 83) (dq D_m_aTurn_0_ok 48 rfl) (fun x4 => ?_)
    refine q_ic1 (pc := 84) (dq D_m_aTurn_0_ok 49 rfl) ?_
    refine q_iadd (pc := 85) (dq D_m_aTurn_0_ok 50 rfl) ?_
    refine r_iast (pc := 86) (dq D_m_aTurn_0_ok 51 rfl) (fun h5 => ?_)
    refine q_aload_n (pc := 87) (dq D_m_aTurn_0_ok 52 rfl) rfl 0 rfl ?_
    refine q_getR (pc := 88) (dq D_m_aTurn_0_ok 53 rfl) fa_m_21 rfl (fun x6 => ?_)
    refine q_bipush (pc := 91) (v := 6) (dq D_m_aTurn_0_ok 54 rfl) (by decide) ?_
    refine q_dup2 (pc := 93) (dq D_m_aTurn_0_ok 55 rfl) rfl rfl ?_
    refine r_iald (pc := 94) (dq D_m_aTurn_0_ok 56 rfl) (fun x7 => ?_)
    refine q_aload_n (pc := 95) (dq D_m_aTurn_0_ok 57 rfl) rfl 0 rfl ?_
    refine q_getR (pc := 96) (dq D_m_aTurn_0_ok 58 rfl) fa_m_21 rfl (fun x8 => ?_)
    refine q_bipush (pc := 99) (v := 6) (dq D_m_aTurn_0_ok 59 rfl) (by decide) ?_
    refine r_iald (pc := 101) (dq D_m_aTurn_1_ok 0 rfl) (fun x9 => ?_)
    refine p_if_le (pc := 102) 109 (dq D_m_aTurn_1_ok 1 rfl) rfl ?_ ?_
    · refine q_ic0 (pc := 109) (dq D_m_aTurn_1_ok 4 rfl) ?_
      refine q_isub (pc := 110) (dq D_m_aTurn_1_ok 5 rfl) ?_
      refine r_iast (pc := 111) (dq D_m_aTurn_1_ok 6 rfl) (fun h10 => ?_)
      refine q_iload_n (pc := 112) (dq D_m_aTurn_1_ok 7 rfl) rfl 1 rfl ?_
      exact r_reti (pc := 113) (dq D_m_aTurn_1_ok 8 rfl) rfl
    · refine q_ic1 (pc := 105) (dq D_m_aTurn_1_ok 2 rfl) ?_
      refine q_goto (pc := 106) 110 (dq D_m_aTurn_1_ok 3 rfl) rfl ?_
      refine q_isub (pc := 110) (dq D_m_aTurn_1_ok 5 rfl) ?_
      refine r_iast (pc := 111) (dq D_m_aTurn_1_ok 6 rfl) (fun h11 => ?_)
      refine q_iload_n (pc := 112) (dq D_m_aTurn_1_ok 7 rfl) rfl 1 rfl ?_
      exact r_reti (pc := 113) (dq D_m_aTurn_1_ok 8 rfl) rfl
  · refine q_aload_n (pc := 15) (dq D_m_aTurn_0_ok 9 rfl) rfl 0 rfl ?_
    refine q_iload_n (pc := 16) (dq D_m_aTurn_0_ok 10 rfl) rfl 2 rfl ?_
    refine q_aload_n (pc := 17) (dq D_m_aTurn_0_ok 11 rfl) rfl 0 rfl ?_
    refine q_getR (pc := 18) (dq D_m_aTurn_0_ok 12 rfl) fa_m_21 rfl (fun x12 => ?_)
    refine q_ic5 (pc := 21) (dq D_m_aTurn_0_ok 13 rfl) ?_
    refine r_iald (pc := 22) (dq D_m_aTurn_0_ok 14 rfl) (fun x13 => ?_)
    refine q_aload_n (pc := 23) (dq D_m_aTurn_0_ok 15 rfl) rfl 0 rfl ?_
    refine q_getR (pc := 24) (dq D_m_aTurn_0_ok 16 rfl) fa_m_21 rfl (fun x14 => ?_)
    refine q_bipush (pc := 27) (v := 6) (dq D_m_aTurn_0_ok 17 rfl) (by decide) ?_
    refine r_iald (pc := 29) (dq D_m_aTurn_0_ok 18 rfl) (fun x15 => ?_)
    refine r_invI (Mc := M_m_isGoing) (pc := 30) (ci := 11) (rest := []) 0 3 [.int v2, .int x13, .int x15] (dq D_m_aTurn_0_ok 19 rfl) rfl rfl lc_m_isGoing lv_m_isGoing_ ml_m_377 rfl rfl rfl rfl (t_m_isGoing v0 v2 x13 x15 h) (fun r17 h16 => ?_)
    refine p_if_ne (pc := 33) 39 (dq D_m_aTurn_0_ok 20 rfl) rfl ?_ ?_
    · refine q_aload_n (pc := 39) (dq D_m_aTurn_0_ok 22 rfl) rfl 0 rfl ?_
      refine q_getR (pc := 40) (dq D_m_aTurn_0_ok 23 rfl) fa_m_21 rfl (fun x18 => ?_)
      refine q_iload_n (pc := 43) (dq D_m_aTurn_0_ok 24 rfl) rfl 2 rfl ?_
      refine q_aload_n (pc := 44) (dq D_m_aTurn_0_ok 25 rfl) rfl 0 rfl ?_
      refine q_iload_n (pc := 45) (dq D_m_aTurn_0_ok 26 rfl) rfl 2 rfl ?_
      refine q_aload_n (pc := 46) (dq D_m_aTurn_0_ok 27 rfl) rfl 0 rfl ?_
      refine q_getR (pc := 47) (dq D_m_aTurn_0_ok 28 rfl) fa_m_21 rfl (fun x19 => ?_)
      refine q_iload_n (pc := 50) (dq D_m_aTurn_0_ok 29 rfl) rfl 2 rfl ?_
      refine r_iald (pc := 51) (dq D_m_aTurn_0_ok 30 rfl) (fun x20 => ?_)
      refine r_invI (Mc := M_m_goesOnce) (pc := 52) (ci := 11) (rest := [.int v2, .ref x18]) 1 2 [.int v2, .int x20] (dq D_m_aTurn_0_ok 31 rfl) rfl rfl lc_m_goesOnce lv_m_goesOnce_ ml_m_374 rfl rfl rfl rfl (t_m_goesOnce v0 v2 x20 h16) (fun r22 h21 => ?_)
      refine r_iast (pc := 55) (dq D_m_aTurn_0_ok 32 rfl) (fun h23 => ?_)
      refine q_iload_n (pc := 56) (dq D_m_aTurn_0_ok 33 rfl) rfl 1 rfl ?_
      refine q_aload_n (pc := 57) (dq D_m_aTurn_0_ok 34 rfl) rfl 0 rfl ?_
      refine r_getI (pc := 58) (dq D_m_aTurn_0_ok 35 rfl) fa_m_363 rfl (fun x24 => ?_)
      refine p_if_eq (pc := 61) 68 (dq D_m_aTurn_0_ok 36 rfl) rfl ?_ ?_
      · refine q_ic0 (pc := 68) (dq D_m_aTurn_0_ok 39 rfl) ?_
        exact T.lsub [0, 2] rfl (tb_m_aTurn_69 hk4 v0 v2 0 v1 h23)
      · refine q_ic1 (pc := 64) (dq D_m_aTurn_0_ok 37 rfl) ?_
        refine q_goto (pc := 65) 69 (dq D_m_aTurn_0_ok 38 rfl) rfl ?_
        exact T.lsub [0, 2] rfl (tb_m_aTurn_69 hk4 v0 v2 1 v1 h23)
    · refine q_goto (pc := 36) 71 (dq D_m_aTurn_0_ok 21 rfl) rfl ?_
      exact T.lsub [0, 1, 2] rfl (tb_m_aTurn_71 hk4 v0 v1 v2 h16)
noncomputable def l_m_aTurn_4 : Nat → (Nat × Int32 × Int32) → Hp → Option (Int32 × Hp) := lp (fun k4 s h => b_m_aTurn_4 k4 s.1 s.2.1 s.2.2 h)
set_option maxHeartbeats 4000000 in
set_option maxRecDepth 20000 in
theorem tl_m_aTurn_4 {G : GG} (n : Nat) (s : Nat × Int32 × Int32) (h : Hp) : T G M_m_aTurn 2 cI 4 [(0, .ref s.1), (1, .int s.2.1), (2, .int s.2.2)] [] h (l_m_aTurn_4 n s h) :=
  T.loop (lsOf := fun s => [(0, .ref s.1), (1, .int s.2.1), (2, .int s.2.2)]) (fun k4 hk4 s h => tb_m_aTurn_4 hk4 s.1 s.2.1 s.2.2 h) n s h
noncomputable def f_m_aTurn (v0 : Nat) (h : Hp) : Option (Int32 × Hp) := lt (0 : Int32) fun y1 => lt (0 : Int32) fun y2 => l_m_aTurn_4 FU (v0, y1, y2) h
set_option maxHeartbeats 4000000 in
set_option maxRecDepth 20000 in
theorem t_m_aTurn {G : GG} (v0 : Nat) (h : Hp) : Mt G M_m_aTurn 2 [.ref v0] cI h (f_m_aTurn v0 h) := by
  refine Mt.ofF (by decide +kernel) rfl (Rt.i rfl rfl) ?_
  show T G M_m_aTurn 2 cI 0 [(0, .ref v0)] [] h _
  unfold f_m_aTurn
  refine q_ic0 (pc := 0) (dq D_m_aTurn_0_ok 0 rfl) ?_
  refine r_nmI (fun y1 => ?_)
  refine q_istore_n (pc := 1) (ls' := [(1, .int y1), (0, .ref v0)]) (dq D_m_aTurn_0_ok 1 rfl) rfl rfl rfl ?_
  refine q_ic0 (pc := 2) (dq D_m_aTurn_0_ok 2 rfl) ?_
  refine r_nmI (fun y2 => ?_)
  refine q_istore_n (pc := 3) (ls' := [(2, .int y2), (1, .int y1), (0, .ref v0)]) (dq D_m_aTurn_0_ok 3 rfl) rfl rfl rfl ?_
  exact T.lsub [2, 1, 0] rfl (tl_m_aTurn_4 FU (v0, y1, y2) h)
noncomputable def b_m_aTurnBack_113 (k14 : (Nat × Int32 × Int32) → Hp → Option (Int32 × Hp)) (v0 : Nat) (v1 : Int32) (v2 : Int32) (h : Hp) : Option (Int32 × Hp) := k14 (v0, v1, v2 + 1) h
set_option maxHeartbeats 4000000 in
set_option maxRecDepth 20000 in
theorem tb_m_aTurnBack_113 {G : GG} {k14 : (Nat × Int32 × Int32) → Hp → Option (Int32 × Hp)} (hk14 : ∀ s h, T G M_m_aTurnBack 1 cI 14 [(0, .ref s.1), (1, .int s.2.1), (2, .int s.2.2)] [] h (k14 s h)) (v0 : Nat) (v1 : Int32) (v2 : Int32) (h : Hp) : T G M_m_aTurnBack 1 cI 113 [(0, .ref v0), (1, .int v1), (2, .int v2)] [] h (b_m_aTurnBack_113 k14 v0 v1 v2 h) := by
  unfold b_m_aTurnBack_113
  refine q_iinc (pc := 113) (v := (1)) (ls' := [(2, .int (v2 + 1)), (0, .ref v0), (1, .int v1)]) (dq D_m_aTurnBack_1_ok 8 rfl) 2 rfl (by decide) rfl rfl ?_
  refine q_goto (pc := 116) 14 (dq D_m_aTurnBack_1_ok 9 rfl) rfl ?_
  exact T.lsub [1, 2, 0] rfl (hk14 (v0, v1, v2 + 1) h)
noncomputable def b_m_aTurnBack_111 (k14 : (Nat × Int32 × Int32) → Hp → Option (Int32 × Hp)) (v0 : Nat) (v2 : Int32) (s0 : Int32) (s1 : Int32) (h : Hp) : Option (Int32 × Hp) := lt (s1 + s0 : Int32) fun y1 => b_m_aTurnBack_113 k14 v0 y1 v2 h
set_option maxHeartbeats 4000000 in
set_option maxRecDepth 20000 in
theorem tb_m_aTurnBack_111 {G : GG} {k14 : (Nat × Int32 × Int32) → Hp → Option (Int32 × Hp)} (hk14 : ∀ s h, T G M_m_aTurnBack 1 cI 14 [(0, .ref s.1), (1, .int s.2.1), (2, .int s.2.2)] [] h (k14 s h)) (v0 : Nat) (v2 : Int32) (s0 : Int32) (s1 : Int32) (h : Hp) : T G M_m_aTurnBack 1 cI 111 [(0, .ref v0), (2, .int v2)] [.int s0, .int s1] h (b_m_aTurnBack_111 k14 v0 v2 s0 s1 h) := by
  unfold b_m_aTurnBack_111
  refine q_iadd (pc := 111) (dq D_m_aTurnBack_1_ok 6 rfl) ?_
  refine r_nmI (fun y1 => ?_)
  refine q_istore_n (pc := 112) (ls' := [(1, .int y1), (0, .ref v0), (2, .int v2)]) (dq D_m_aTurnBack_1_ok 7 rfl) rfl rfl rfl ?_
  exact T.lsub [1, 0, 2] rfl (tb_m_aTurnBack_113 hk14 v0 y1 v2 h)
noncomputable def b_m_aTurnBack_14 (k14 : (Nat × Int32 × Int32) → Hp → Option (Int32 × Hp)) (v0 : Nat) (v1 : Int32) (v2 : Int32) (h : Hp) : Option (Int32 × Hp) := gd (hS h v0 = some (.inl 11)) (bR (hR h v0 3) fun x1 => gd (hS h x1 = some (.inl 12)) (lt (hI h x1 2) fun x2 => if x2 ≤ v2 then (some (v1, h)) else (gd (hS h v0 = some (.inl 11)) (bR (hR h v0 16) fun x3 => gd (ai h x3 0 5) (lt (hI h x3 (5 : Int32).toNatClampNeg) fun x4 => gd (hS h v0 = some (.inl 11)) (bR (hR h v0 16) fun x5 => gd (ai h x5 0 6) (lt (hI h x5 (6 : Int32).toNatClampNeg) fun x6 => gd (hS h v0 = some (.inl 11)) (bd (f_m_isGoing v0 v2 x4 x6 h) fun r8 h7 => if r8 = 0 then (b_m_aTurnBack_113 k14 v0 v1 v2 h7) else (gd (hS h7 v0 = some (.inl 11)) (bR (hR h7 v0 16) fun x9 => gd (hS h7 v0 = some (.inl 11)) (bR (hR h7 v0 3) fun x10 => gd (hS h7 x10 = some (.inl 12)) (bR (hR h7 x10 11) fun x11 => gd (ai h7 x11 0 v2) (lt (hI h7 x11 v2.toNatClampNeg) fun x12 => gd (hS h7 v0 = some (.inl 11)) (bR (hR h7 v0 3) fun x13 => gd (hS h7 x13 = some (.inl 12)) (bR (hR h7 x13 14) fun x14 => gd (ai h7 x14 1 v2) (lt (hL h7 x14 v2.toNatClampNeg) fun x15 => gd (hS h7 v0 = some (.inl 11)) (bR (hR h7 v0 16) fun x16 => gd (ai h7 x16 0 v2) (lt (hI h7 x16 v2.toNatClampNeg) fun x17 => gd (hS h7 v0 = some (.inl 11)) (bR (hR h7 v0 3) fun x18 => gd (hS h7 x18 = some (.inl 12)) (bR (hR h7 x18 12) fun x19 => gd (ai h7 x19 0 v2) (lt (hI h7 x19 v2.toNatClampNeg) fun x20 => gd (hS h7 v0 = some (.inl 11)) (bd (f_m_way v0 v2 x20 h7) fun r22 h21 => gd (hS h21 v0 = some (.inl 11)) (bd (f_m_goes v0 x12 x15 x17 (-r22) h21) fun r24 h23 => gd (ai h23 x9 0 v2) (lt (uI h23 x9 v2.toNatClampNeg r24) fun h25 => gd (hS h25 v0 = some (.inl 11)) (lt (hI h25 v0 21) fun x26 => if x26 = 0 then (b_m_aTurnBack_111 k14 v0 v2 0 v1 h25) else (b_m_aTurnBack_111 k14 v0 v2 1 v1 h25))))))))))))))))))))))))))
set_option maxHeartbeats 4000000 in
set_option maxRecDepth 20000 in
theorem tb_m_aTurnBack_14 {G : GG} {k14 : (Nat × Int32 × Int32) → Hp → Option (Int32 × Hp)} (hk14 : ∀ s h, T G M_m_aTurnBack 1 cI 14 [(0, .ref s.1), (1, .int s.2.1), (2, .int s.2.2)] [] h (k14 s h)) (v0 : Nat) (v1 : Int32) (v2 : Int32) (h : Hp) : T G M_m_aTurnBack 1 cI 14 [(0, .ref v0), (1, .int v1), (2, .int v2)] [] h (b_m_aTurnBack_14 k14 v0 v1 v2 h) := by
  unfold b_m_aTurnBack_14
  refine q_iload_n (pc := 14) (dq D_m_aTurnBack_0_ok 12 rfl) rfl 2 rfl ?_
  refine q_aload_n (pc := 15) (dq D_m_aTurnBack_0_ok 13 rfl) rfl 0 rfl ?_
  refine q_getR (pc := 16) (dq D_m_aTurnBack_0_ok 14 rfl) fa_m_348 rfl (fun x1 => ?_)
  refine r_getI (pc := 19) (dq D_m_aTurnBack_0_ok 15 rfl) fa_m_205 rfl (fun x2 => ?_)
  refine q_ic_ge (pc := 22) 119 (dq D_m_aTurnBack_0_ok 16 rfl) rfl ?_ ?_
  · refine q_iload_n (pc := 119) (dq D_m_aTurnBack_1_ok 10 rfl) rfl 1 rfl ?_
    exact r_reti (pc := 120) (dq D_m_aTurnBack_1_ok 11 rfl) rfl
  · refine q_aload_n (pc := 25) (dq D_m_aTurnBack_0_ok 17 rfl) rfl 0 rfl ?_
    refine q_iload_n (pc := 26) (dq D_m_aTurnBack_0_ok 18 rfl) rfl 2 rfl ?_
    refine q_aload_n (pc := 27) (dq D_m_aTurnBack_0_ok 19 rfl) rfl 0 rfl ?_
    refine q_getR (pc := 28) (dq D_m_aTurnBack_0_ok 20 rfl) fa_m_21 rfl (fun x3 => ?_)
    refine q_ic5 (pc := 31) (dq D_m_aTurnBack_0_ok 21 rfl) ?_
    refine r_iald (pc := 32) (dq D_m_aTurnBack_0_ok 22 rfl) (fun x4 => ?_)
    refine q_aload_n (pc := 33) (dq D_m_aTurnBack_0_ok 23 rfl) rfl 0 rfl ?_
    refine q_getR (pc := 34) (dq D_m_aTurnBack_0_ok 24 rfl) fa_m_21 rfl (fun x5 => ?_)
    refine q_bipush (pc := 37) (v := 6) (dq D_m_aTurnBack_0_ok 25 rfl) (by decide) ?_
    refine r_iald (pc := 39) (dq D_m_aTurnBack_0_ok 26 rfl) (fun x6 => ?_)
    refine r_invI (Mc := M_m_isGoing) (pc := 40) (ci := 11) (rest := []) 0 3 [.int v2, .int x4, .int x6] (dq D_m_aTurnBack_0_ok 27 rfl) rfl rfl lc_m_isGoing lv_m_isGoing_ ml_m_377 rfl rfl rfl rfl (t_m_isGoing v0 v2 x4 x6 h) (fun r8 h7 => ?_)
    refine p_if_ne (pc := 43) 49 (dq D_m_aTurnBack_0_ok 28 rfl) rfl ?_ ?_
    · refine q_aload_n (pc := 49) (dq D_m_aTurnBack_0_ok 30 rfl) rfl 0 rfl ?_
      refine q_getR (pc := 50) (dq D_m_aTurnBack_0_ok 31 rfl) fa_m_21 rfl (fun x9 => ?_)
      refine q_iload_n (pc := 53) (dq D_m_aTurnBack_0_ok 32 rfl) rfl 2 rfl ?_
      refine q_aload_n (pc := 54) (dq D_m_aTurnBack_0_ok 33 rfl) rfl 0 rfl ?_
      refine q_aload_n (pc := 55) (dq D_m_aTurnBack_0_ok 34 rfl) rfl 0 rfl ?_
      refine q_getR (pc := 56) (dq D_m_aTurnBack_0_ok 35 rfl) fa_m_348 rfl (fun x10 => ?_)
      refine q_getR (pc := 59) (dq D_m_aTurnBack_0_ok 36 rfl) fa_m_269 rfl (fun x11 => ?_)
      refine q_iload_n (pc := 62) (dq D_m_aTurnBack_0_ok 37 rfl) rfl 2 rfl ?_
      refine r_iald (pc := 63) (dq D_m_aTurnBack_0_ok 38 rfl) (fun x12 => ?_)
      refine q_aload_n (pc := 64) (dq D_m_aTurnBack_0_ok 39 rfl) rfl 0 rfl ?_
      refine q_getR (pc := 65) (dq D_m_aTurnBack_0_ok 40 rfl) fa_m_348 rfl (fun x13 => ?_)
      refine q_getR (pc := 68) (dq D_m_aTurnBack_0_ok 41 rfl) fa_m_284 rfl (fun x14 => ?_)
      refine q_iload_n (pc := 71) (dq D_m_aTurnBack_0_ok 42 rfl) rfl 2 rfl ?_
      refine r_lald (pc := 72) (dq D_m_aTurnBack_0_ok 43 rfl) (fun x15 => ?_)
      refine q_aload_n (pc := 73) (dq D_m_aTurnBack_0_ok 44 rfl) rfl 0 rfl ?_
      refine q_getR (pc := 74) (dq D_m_aTurnBack_0_ok 45 rfl) fa_m_21 rfl (fun x16 => ?_)
      refine q_iload_n (pc := 77) (dq D_m_aTurnBack_0_ok 46 rfl) rfl 2 rfl ?_
      refine r_iald (pc := 78) (dq D_m_aTurnBack_0_ok 47 rfl) (fun x17 => ?_)
      refine q_aload_n (pc := 79) (dq D_m_aTurnBack_0_ok 48 rfl) rfl 0 rfl ?_
      refine q_iload_n (pc := 80) (dq D_m_aTurnBack_0_ok 49 rfl) rfl 2 rfl ?_
      refine q_aload_n (pc := 81) (dq D_m_aTurnBack_0_ok 50 rfl) rfl 0 rfl ?_
      refine q_getR (pc := 82) (dq D_m_aTurnBack_0_ok 51 rfl) fa_m_348 rfl (fun x18 => ?_)
      refine q_getR (pc := 85) (dq D_m_aTurnBack_0_ok 52 rfl) fa_m_271 rfl (fun x19 => ?_)
      refine q_iload_n (pc := 88) (dq D_m_aTurnBack_0_ok 53 rfl) rfl 2 rfl ?_
      refine r_iald (pc := 89) (dq D_m_aTurnBack_0_ok 54 rfl) (fun x20 => ?_)
      refine r_invI (Mc := M_m_way) (pc := 90) (ci := 11) (rest := [.int x17, .long x15, .int x12, .ref v0, .int v2, .ref x9]) 0 2 [.int v2, .int x20] (dq D_m_aTurnBack_0_ok 55 rfl) rfl rfl lc_m_way lv_m_way_ ml_m_367 rfl rfl rfl rfl (t_m_way v0 v2 x20 h7) (fun r22 h21 => ?_)
      refine q_ineg (pc := 93) (dq D_m_aTurnBack_0_ok 56 rfl) ?_
      refine r_invI (Mc := M_m_goes) (pc := 94) (ci := 11) (rest := [.int v2, .ref x9]) 0 4 [.int x12, .long x15, .int x17, .int (-r22)] (dq D_m_aTurnBack_0_ok 57 rfl) rfl rfl lc_m_goes lv_m_goes_ ml_m_370 rfl rfl rfl rfl (t_m_goes v0 x12 x15 x17 (-r22) h21) (fun r24 h23 => ?_)
      refine r_iast (pc := 97) (dq D_m_aTurnBack_0_ok 58 rfl) (fun h25 => ?_)
      refine q_iload_n (pc := 98) (dq D_m_aTurnBack_0_ok 59 rfl) rfl 1 rfl ?_
      refine q_aload_n (pc := 99) (dq D_m_aTurnBack_1_ok 0 rfl) rfl 0 rfl ?_
      refine r_getI (pc := 100) (dq D_m_aTurnBack_1_ok 1 rfl) fa_m_363 rfl (fun x26 => ?_)
      refine p_if_eq (pc := 103) 110 (dq D_m_aTurnBack_1_ok 2 rfl) rfl ?_ ?_
      · refine q_ic0 (pc := 110) (dq D_m_aTurnBack_1_ok 5 rfl) ?_
        exact T.lsub [0, 2] rfl (tb_m_aTurnBack_111 hk14 v0 v2 0 v1 h25)
      · refine q_ic1 (pc := 106) (dq D_m_aTurnBack_1_ok 3 rfl) ?_
        refine q_goto (pc := 107) 111 (dq D_m_aTurnBack_1_ok 4 rfl) rfl ?_
        exact T.lsub [0, 2] rfl (tb_m_aTurnBack_111 hk14 v0 v2 1 v1 h25)
    · refine q_goto (pc := 46) 113 (dq D_m_aTurnBack_0_ok 29 rfl) rfl ?_
      exact T.lsub [0, 1, 2] rfl (tb_m_aTurnBack_113 hk14 v0 v1 v2 h7)
noncomputable def l_m_aTurnBack_14 : Nat → (Nat × Int32 × Int32) → Hp → Option (Int32 × Hp) := lp (fun k14 s h => b_m_aTurnBack_14 k14 s.1 s.2.1 s.2.2 h)
set_option maxHeartbeats 4000000 in
set_option maxRecDepth 20000 in
theorem tl_m_aTurnBack_14 {G : GG} (n : Nat) (s : Nat × Int32 × Int32) (h : Hp) : T G M_m_aTurnBack 1 cI 14 [(0, .ref s.1), (1, .int s.2.1), (2, .int s.2.2)] [] h (l_m_aTurnBack_14 n s h) :=
  T.loop (lsOf := fun s => [(0, .ref s.1), (1, .int s.2.1), (2, .int s.2.2)]) (fun k14 hk14 s h => tb_m_aTurnBack_14 hk14 s.1 s.2.1 s.2.2 h) n s h
noncomputable def f_m_aTurnBack (v0 : Nat) (h : Hp) : Option (Int32 × Hp) := lt (0 : Int32) fun y1 => gd (hS h v0 = some (.inl 11)) (bR (hR h v0 16) fun x2 => gd (ai h x2 0 5) (lt (hI h x2 (5 : Int32).toNatClampNeg) fun x3 => gd (ai h x2 0 5) (lt (uI h x2 (5 : Int32).toNatClampNeg (x3 - 1)) fun h4 => lt (0 : Int32) fun y5 => l_m_aTurnBack_14 FU (v0, y1, y5) h4)))
set_option maxHeartbeats 4000000 in
set_option maxRecDepth 20000 in
theorem t_m_aTurnBack {G : GG} (v0 : Nat) (h : Hp) : Mt G M_m_aTurnBack 1 [.ref v0] cI h (f_m_aTurnBack v0 h) := by
  refine Mt.ofF (by decide +kernel) rfl (Rt.i rfl rfl) ?_
  show T G M_m_aTurnBack 1 cI 0 [(0, .ref v0)] [] h _
  unfold f_m_aTurnBack
  refine q_ic0 (pc := 0) (dq D_m_aTurnBack_0_ok 0 rfl) ?_
  refine r_nmI (fun y1 => ?_)
  refine q_istore_n (pc := 1) (ls' := [(1, .int y1), (0, .ref v0)]) (dq D_m_aTurnBack_0_ok 1 rfl) rfl rfl rfl ?_
  refine q_aload_n (pc := 2) (dq D_m_aTurnBack_0_ok 2 rfl) rfl 1 rfl ?_
  refine q_getR (pc := 3) (dq D_m_aTurnBack_0_ok 3 rfl) fa_m_21 rfl (fun x2 => ?_)
  refine q_ic5 (pc := 6) (dq D_m_aTurnBack_0_ok 4 rfl) ?_
  refine q_dup2 (pc := 7) (dq D_m_aTurnBack_0_ok 5 rfl) rfl rfl ?_
  refine r_iald (pc := 8) (dq D_m_aTurnBack_0_ok 6 rfl) (fun x3 => ?_)
  refine q_ic1 (pc := 9) (dq D_m_aTurnBack_0_ok 7 rfl) ?_
  refine q_isub (pc := 10) (dq D_m_aTurnBack_0_ok 8 rfl) ?_
  refine r_iast (pc := 11) (dq D_m_aTurnBack_0_ok 9 rfl) (fun h4 => ?_)
  refine q_ic0 (pc := 12) (dq D_m_aTurnBack_0_ok 10 rfl) ?_
  refine r_nmI (fun y5 => ?_)
  refine q_istore_n (pc := 13) (ls' := [(2, .int y5), (1, .int y1), (0, .ref v0)]) (dq D_m_aTurnBack_0_ok 11 rfl) rfl rfl rfl ?_
  exact T.lsub [2, 1, 0] rfl (tl_m_aTurnBack_14 FU (v0, y1, y5) h4)
