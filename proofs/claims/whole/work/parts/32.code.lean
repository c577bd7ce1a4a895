noncomputable def b_m_soonest_67 (k27 : (Nat × Int32 × Int32 × Int32) → Hp → Option (Int32 × Hp)) (v0 : Nat) (v1 : Int32) (v2 : Int32) (v3 : Int32) (h : Hp) : Option (Int32 × Hp) := k27 (v0, v1, v2, v3 + 1) h
set_option maxHeartbeats 4000000 in
set_option maxRecDepth 20000 in
theorem tb_m_soonest_67 {G : GG} {k27 : (Nat × Int32 × Int32 × Int32) → Hp → Option (Int32 × Hp)} (hk27 : ∀ s h, T G M_m_soonest 4 cI 27 [(0, .ref s.1), (1, .int s.2.1), (2, .int s.2.2.1), (3, .int s.2.2.2)] [] h (k27 s h)) (v0 : Nat) (v1 : Int32) (v2 : Int32) (v3 : Int32) (h : Hp) : T G M_m_soonest 4 cI 67 [(0, .ref v0), (1, .int v1), (2, .int v2), (3, .int v3)] [] h (b_m_soonest_67 k27 v0 v1 v2 v3 h) := by
  unfold b_m_soonest_67
  refine q_iinc (pc := 67) (v := (1)) (ls' := [(3, .int (v3 + 1)), (0, .ref v0), (1, .int v1), (2, .int v2)]) (dq D_m_soonest_0_ok 37 rfl) 3 rfl (by decide) rfl rfl ?_
  refine q_goto (pc := 70) 27 (dq D_m_soonest_0_ok 38 rfl) rfl ?_
  exact T.lsub [1, 2, 3, 0] rfl (hk27 (v0, v1, v2, v3 + 1) h)
noncomputable def b_m_soonest_27 (k27 : (Nat × Int32 × Int32 × Int32) → Hp → Option (Int32 × Hp)) (v0 : Nat) (v1 : Int32) (v2 : Int32) (v3 : Int32) (h : Hp) : Option (Int32 × Hp) := gd (hS h v0 = some (.inl 11)) (bR (hR h v0 3) fun x1 => gd (hS h x1 = some (.inl 12)) (lt (hI h x1 4) fun x2 => if x2 ≤ v3 then (gd (hS h v0 = some (.inl 11)) (bd (f_m_good v0 v1 h) fun r4 h3 => some (r4, h3))) else (gd (hS h v0 = some (.inl 11)) (bd (f_m_nextOf v0 v3 v3 h) fun r6 h5 => if r6 = ((-2)) then (b_m_soonest_67 k27 v0 v1 v2 v3 h5) else (if r6 < v2 then (b_m_soonest_67 k27 v0 v3 r6 v3 h5) else (b_m_soonest_67 k27 v0 v1 v2 v3 h5))))))
set_option maxHeartbeats 4000000 in
set_option maxRecDepth 20000 in
theorem tb_m_soonest_27 {G : GG} {k27 : (Nat × Int32 × Int32 × Int32) → Hp → Option (Int32 × Hp)} (hk27 : ∀ s h, T G M_m_soonest 4 cI 27 [(0, .ref s.1), (1, .int s.2.1), (2, .int s.2.2.1), (3, .int s.2.2.2)] [] h (k27 s h)) (v0 : Nat) (v1 : Int32) (v2 : Int32) (v3 : Int32) (h : Hp) : T G M_m_soonest 4 cI 27 [(0, .ref v0), (1, .int v1), (2, .int v2), (3, .int v3)] [] h (b_m_soonest_27 k27 v0 v1 v2 v3 h) := by
  unfold b_m_soonest_27
  refine q_iload_n (pc := 27) (dq D_m_soonest_0_ok 16 rfl) rfl 3 rfl ?_
  refine q_aload_n (pc := 28) (dq D_m_soonest_0_ok 17 rfl) rfl 0 rfl ?_
  refine q_getR (pc := 29) (dq D_m_soonest_0_ok 18 rfl) fa_m_348 rfl (fun x1 => ?_)
  refine r_getI (pc := 32) (dq D_m_soonest_0_ok 19 rfl) fa_m_289 rfl (fun x2 => ?_)
  refine q_ic_ge (pc := 35) 73 (dq D_m_soonest_0_ok 20 rfl) rfl ?_ ?_
  · refine q_aload_n (pc := 73) (dq D_m_soonest_0_ok 39 rfl) rfl 0 rfl ?_
    refine q_iload_n (pc := 74) (dq D_m_soonest_0_ok 40 rfl) rfl 1 rfl ?_
    refine r_invI (Mc := M_m_good) (pc := 75) (ci := 11) (rest := []) 0 1 [.int v1] (dq D_m_soonest_0_ok 41 rfl) rfl rfl lc_m_good lv_m_good_ ml_m_64 rfl rfl rfl rfl (t_m_good v0 v1 h) (fun r4 h3 => ?_)
    exact r_reti (pc := 78) (dq D_m_soonest_0_ok 42 rfl) rfl
  · refine q_aload_n (pc := 38) (dq D_m_soonest_0_ok 21 rfl) rfl 0 rfl ?_
    refine q_iload_n (pc := 39) (dq D_m_soonest_0_ok 22 rfl) rfl 3 rfl ?_
    refine q_iload_n (pc := 40) (dq D_m_soonest_0_ok 23 rfl) rfl 3 rfl ?_
    refine r_invI (Mc := M_m_nextOf) (pc := 41) (ci := 11) (rest := []) 3 2 [.int v3, .int v3] (dq D_m_soonest_0_ok 24 rfl) rfl rfl lc_m_nextOf lv_m_nextOf_ ml_m_406 rfl rfl rfl rfl (t_m_nextOf v0 v3 v3 h) (fun r6 h5 => ?_)
    refine q_istore (pc := 44) (ls' := [(4, .int r6), (0, .ref v0), (1, .int v1), (2, .int v2), (3, .int v3)]) (dq D_m_soonest_0_ok 25 rfl) rfl rfl ?_
    refine q_iload (pc := 46) (dq D_m_soonest_0_ok 26 rfl) 0 rfl ?_
    refine q_bipush (pc := 48) (v := (-2)) (dq D_m_soonest_0_ok 27 rfl) (by decide) ?_
    refine q_ic_eq (pc := 50) 67 (dq D_m_soonest_0_ok 28 rfl) rfl ?_ ?_
    · exact T.lsub [1, 2, 3, 4] rfl (tb_m_soonest_67 hk27 v0 v1 v2 v3 h5)
    · refine q_iload (pc := 53) (dq D_m_soonest_0_ok 29 rfl) 0 rfl ?_
      refine q_iload_n (pc := 55) (dq D_m_soonest_0_ok 30 rfl) rfl 3 rfl ?_
      refine q_ic_lt (pc := 56) 62 (dq D_m_soonest_0_ok 31 rfl) rfl ?_ ?_
      · refine q_iload (pc := 62) (dq D_m_soonest_0_ok 33 rfl) 0 rfl ?_
        refine q_istore_n (pc := 64) (ls' := [(2, .int r6), (4, .int r6), (0, .ref v0), (1, .int v1), (3, .int v3)]) (dq D_m_soonest_0_ok 34 rfl) rfl rfl rfl ?_
        refine q_iload_n (pc := 65) (dq D_m_soonest_0_ok 35 rfl) rfl 4 rfl ?_
        refine q_istore_n (pc := 66) (ls' := [(1, .int v3), (2, .int r6), (4, .int r6), (0, .ref v0), (3, .int v3)]) (dq D_m_soonest_0_ok 36 rfl) rfl rfl rfl ?_
        exact T.lsub [3, 0, 1, 4] rfl (tb_m_soonest_67 hk27 v0 v3 r6 v3 h5)
      · refine q_goto (pc := 59) 67 (dq D_m_soonest_0_ok 32 rfl) rfl ?_
        exact T.lsub [1, 2, 3, 4] rfl (tb_m_soonest_67 hk27 v0 v1 v2 v3 h5)
noncomputable def l_m_soonest_27 : Nat → (Nat × Int32 × Int32 × Int32) → Hp → Option (Int32 × Hp) := lp (fun k27 s h => b_m_soonest_27 k27 s.1 s.2.1 s.2.2.1 s.2.2.2 h)
set_option maxHeartbeats 4000000 in
set_option maxRecDepth 20000 in
theorem tl_m_soonest_27 {G : GG} (n : Nat) (s : Nat × Int32 × Int32 × Int32) (h : Hp) : T G M_m_soonest 4 cI 27 [(0, .ref s.1), (1, .int s.2.1), (2, .int s.2.2.1), (3, .int s.2.2.2)] [] h (l_m_soonest_27 n s h) :=
  T.loop (lsOf := fun s => [(0, .ref s.1), (1, .int s.2.1), (2, .int s.2.2.1), (3, .int s.2.2.2)]) (fun k27 hk27 s h => tb_m_soonest_27 hk27 s.1 s.2.1 s.2.2.1 s.2.2.2 h) n s h
noncomputable def f_m_soonest (v0 : Nat) (h : Hp) : Option (Int32 × Hp) := gd (hS h v0 = some (.inl 11)) (lt (uI h v0 0 0) fun h1 => gd (hS h1 v0 = some (.inl 11)) (if hR h1 v0 3 = none then (gd (hS h1 v0 = some (.inl 11)) (bd (f_m_refused v0 (1 : Int32) h1) fun r7 h6 => some (r7, h6))) else (lt ((-2) : Int32) fun y3 => lt (5001 : Int32) fun y4 => lt (0 : Int32) fun y5 => l_m_soonest_27 FU (v0, y3, y4, y5) h1)))
set_option maxHeartbeats 4000000 in
set_option maxRecDepth 20000 in
theorem t_m_soonest {G : GG} (v0 : Nat) (h : Hp) : Mt G M_m_soonest 4 [.ref v0] cI h (f_m_soonest v0 h) := by
  refine Mt.ofF (by decide +kernel) rfl (Rt.i rfl rfl) ?_
  show T G M_m_soonest 4 cI 0 [(0, .ref v0)] [] h _
  unfold f_m_soonest
  refine q_aload_n (pc := 0) (dq D_m_soonest_0_ok 0 rfl) rfl 0 rfl ?_
  refine q_ic0 (pc := 1) (dq D_m_soonest_0_ok 1 rfl) ?_
  refine r_putI (pc := 2) (dq D_m_soonest_0_ok 2 rfl) fp_m_54 rfl rfl (fun h1 => ?_)
  refine q_aload_n (pc := 5) (dq D_m_soonest_0_ok 3 rfl) rfl 0 rfl ?_
  refine q_getnn (pc := 6) 18 (dq D_m_soonest_0_ok 4 rfl) (dq D_m_soonest_0_ok 5 rfl) rfl fa_m_348 rfl ?_ ?_
  · refine q_bipush (pc := 18) (v := (-2)) (dq D_m_soonest_0_ok 10 rfl) (by decide) ?_
    refine r_nmI (fun y3 => ?_)
    refine q_istore_n (pc := 20) (ls' := [(1, .int y3), (0, .ref v0)]) (dq D_m_soonest_0_ok 11 rfl) rfl rfl rfl ?_
    refine q_sipush (pc := 21) (v := 5001) (dq D_m_soonest_0_ok 12 rfl) (by decide) ?_
    refine r_nmI (fun y4 => ?_)
    refine q_istore_n (pc := 24) (ls' := [(2, .int y4), (1, .int y3), (0, .ref v0)]) (dq D_m_soonest_0_ok 13 rfl) rfl rfl rfl ?_
    refine q_ic0 (pc := 25) (dq D_m_soonest_0_ok 14 rfl) ?_
    refine r_nmI (fun y5 => ?_)
    refine q_istore_n (pc := 26) (ls' := [(3, .int y5), (2, .int y4), (1, .int y3), (0, .ref v0)]) (dq D_m_soonest_0_ok 15 rfl) rfl rfl rfl ?_
    exact T.lsub [3, 2, 1, 0] rfl (tl_m_soonest_27 FU (v0, y3, y4, y5) h1)
  · refine q_aload_n (pc := 12) (dq D_m_soonest_0_ok 6 rfl) rfl 0 rfl ?_
    refine q_ic1 (pc := 13) (dq D_m_soonest_0_ok 7 rfl) ?_
    refine r_invI (Mc := M_m_refused) (pc := 14) (ci := 11) (rest := []) 0 1 [.int 1] (dq D_m_soonest_0_ok 8 rfl) rfl rfl lc_m_refused lv_m_refused_ ml_m_60 rfl rfl rfl rfl (t_m_refused v0 (1 : Int32) h1) (fun r7 h6 => ?_)
    exact r_reti (pc := 17) (dq D_m_soonest_0_ok 9 rfl) rfl
noncomputable def b_m_longestGap_76 (k31 : (Nat × Int32 × Int32 × Int32 × Int32) → Hp → Option (Int32 × Hp)) (v0 : Nat) (v1 : Int32) (v2 : Int32) (v3 : Int32) (v4 : Int32) (h : Hp) : Option (Int32 × Hp) := k31 (v0, v1, v2, v3, v4 + 1) h
set_option maxHeartbeats 4000000 in
set_option maxRecDepth 20000 in
theorem tb_m_longestGap_76 {G : GG} {k31 : (Nat × Int32 × Int32 × Int32 × Int32) → Hp → Option (Int32 × Hp)} (hk31 : ∀ s h, T G M_m_longestGap 3 cI 31 [(0, .ref s.1), (1, .int s.2.1), (2, .int s.2.2.1), (3, .int s.2.2.2.1), (4, .int s.2.2.2.2)] [] h (k31 s h)) (v0 : Nat) (v1 : Int32) (v2 : Int32) (v3 : Int32) (v4 : Int32) (h : Hp) : T G M_m_longestGap 3 cI 76 [(0, .ref v0), (1, .int v1), (2, .int v2), (3, .int v3), (4, .int v4)] [] h (b_m_longestGap_76 k31 v0 v1 v2 v3 v4 h) := by
  unfold b_m_longestGap_76
  refine q_iinc (pc := 76) (v := (1)) (ls' := [(4, .int (v4 + 1)), (0, .ref v0), (1, .int v1), (2, .int v2), (3, .int v3)]) (dq D_m_longestGap_0_ok 44 rfl) 4 rfl (by decide) rfl rfl ?_
  refine q_goto (pc := 79) 31 (dq D_m_longestGap_0_ok 45 rfl) rfl ?_
  exact T.lsub [1, 2, 3, 4, 0] rfl (hk31 (v0, v1, v2, v3, v4 + 1) h)
noncomputable def b_m_longestGap_73 (k31 : (Nat × Int32 × Int32 × Int32 × Int32) → Hp → Option (Int32 × Hp)) (v0 : Nat) (v1 : Int32) (v3 : Int32) (v4 : Int32) (h : Hp) : Option (Int32 × Hp) := b_m_longestGap_76 k31 v0 v1 v4 v3 v4 h
set_option maxHeartbeats 4000000 in
set_option maxRecDepth 20000 in
theorem tb_m_longestGap_73 {G : GG} {k31 : (Nat × Int32 × Int32 × Int32 × Int32) → Hp → Option (Int32 × Hp)} (hk31 : ∀ s h, T G M_m_longestGap 3 cI 31 [(0, .ref s.1), (1, .int s.2.1), (2, .int s.2.2.1), (3, .int s.2.2.2.1), (4, .int s.2.2.2.2)] [] h (k31 s h)) (v0 : Nat) (v1 : Int32) (v3 : Int32) (v4 : Int32) (h : Hp) : T G M_m_longestGap 3 cI 73 [(0, .ref v0), (1, .int v1), (3, .int v3), (4, .int v4)] [] h (b_m_longestGap_73 k31 v0 v1 v3 v4 h) := by
  unfold b_m_longestGap_73
  refine q_iload (pc := 73) (dq D_m_longestGap_0_ok 42 rfl) 3 rfl ?_
  refine q_istore_n (pc := 75) (ls' := [(2, .int v4), (0, .ref v0), (1, .int v1), (3, .int v3), (4, .int v4)]) (dq D_m_longestGap_0_ok 43 rfl) rfl rfl rfl ?_
  exact T.lsub [1, 2, 0, 3, 4] rfl (tb_m_longestGap_76 hk31 v0 v1 v4 v3 v4 h)
noncomputable def b_m_longestGap_31 (k31 : (Nat × Int32 × Int32 × Int32 × Int32) → Hp → Option (Int32 × Hp)) (v0 : Nat) (v1 : Int32) (v2 : Int32) (v3 : Int32) (v4 : Int32) (h : Hp) : Option (Int32 × Hp) := if 5000 < v4 then (gd (hS h v0 = some (.inl 11)) (bd (f_m_good v0 v3 h) fun r2 h1 => some (r2, h1))) else (gd (hS h v0 = some (.inl 11)) (bd (f_m_aTurn v0 h) fun r4 h3 => gd (hS h3 v0 = some (.inl 11)) (bd (f_m_isOn v0 v1 h3) fun r6 h5 => if r6 = 0 then (b_m_longestGap_76 k31 v0 v1 v2 v3 v4 h5) else (if v2 = ((-1)) then (b_m_longestGap_73 k31 v0 v1 v3 v4 h5) else (if (v4 - v2) ≤ v3 then (b_m_longestGap_73 k31 v0 v1 v3 v4 h5) else (lt (v4 - v2 : Int32) fun y7 => b_m_longestGap_73 k31 v0 v1 y7 v4 h5))))))
set_option maxHeartbeats 4000000 in
set_option maxRecDepth 20000 in
theorem tb_m_longestGap_31 {G : GG} {k31 : (Nat × Int32 × Int32 × Int32 × Int32) → Hp → Option (Int32 × Hp)} (hk31 : ∀ s h, T G M_m_longestGap 3 cI 31 [(0, .ref s.1), (1, .int s.2.1), (2, .int s.2.2.1), (3, .int s.2.2.2.1), (4, .int s.2.2.2.2)] [] h (k31 s h)) (v0 : Nat) (v1 : Int32) (v2 : Int32) (v3 : Int32) (v4 : Int32) (h : Hp) : T G M_m_longestGap 3 cI 31 [(0, .ref v0), (1, .int v1), (2, .int v2), (3, .int v3), (4, .int v4)] [] h (b_m_longestGap_31 k31 v0 v1 v2 v3 v4 h) := by
  unfold b_m_longestGap_31
  refine q_iload (pc := 31) (dq D_m_longestGap_0_ok 19 rfl) 4 rfl ?_
  refine q_sipush (pc := 33) (v := 5000) (dq D_m_longestGap_0_ok 20 rfl) (by decide) ?_
  refine q_ic_gt (pc := 36) 82 (dq D_m_longestGap_0_ok 21 rfl) rfl ?_ ?_
  · refine q_aload_n (pc := 82) (dq D_m_longestGap_0_ok 46 rfl) rfl 0 rfl ?_
    refine q_iload_n (pc := 83) (dq D_m_longestGap_0_ok 47 rfl) rfl 3 rfl ?_
    refine r_invI (Mc := M_m_good) (pc := 84) (ci := 11) (rest := []) 0 1 [.int v3] (dq D_m_longestGap_0_ok 48 rfl) rfl rfl lc_m_good lv_m_good_ ml_m_64 rfl rfl rfl rfl (t_m_good v0 v3 h) (fun r2 h1 => ?_)
    exact r_reti (pc := 87) (dq D_m_longestGap_0_ok 49 rfl) rfl
  · refine q_aload_n (pc := 39) (dq D_m_longestGap_0_ok 22 rfl) rfl 0 rfl ?_
    refine r_invI (Mc := M_m_aTurn) (pc := 40) (ci := 11) (rest := []) 2 0 [] (dq D_m_longestGap_0_ok 23 rfl) rfl rfl lc_m_aTurn lv_m_aTurn_ ml_m_403 rfl rfl rfl rfl (t_m_aTurn v0 h) (fun r4 h3 => ?_)
    refine q_pop (pc := 43) (dq D_m_longestGap_0_ok 24 rfl) rfl ?_
    refine q_aload_n (pc := 44) (dq D_m_longestGap_0_ok 25 rfl) rfl 0 rfl ?_
    refine q_iload_n (pc := 45) (dq D_m_longestGap_0_ok 26 rfl) rfl 1 rfl ?_
    refine r_invI (Mc := M_m_isOn) (pc := 46) (ci := 11) (rest := []) 1 1 [.int v1] (dq D_m_longestGap_0_ok 27 rfl) rfl rfl lc_m_isOn lv_m_isOn_ ml_m_385 rfl rfl rfl rfl (t_m_isOn v0 v1 h3) (fun r6 h5 => ?_)
    refine p_if_ne (pc := 49) 55 (dq D_m_longestGap_0_ok 28 rfl) rfl ?_ ?_
    · refine q_iload_n (pc := 55) (dq D_m_longestGap_0_ok 30 rfl) rfl 2 rfl ?_
      refine q_icm1 (pc := 56) (dq D_m_longestGap_0_ok 31 rfl) ?_
      refine q_ic_eq (pc := 57) 73 (dq D_m_longestGap_0_ok 32 rfl) rfl ?_ ?_
      · exact T.lsub [0, 1, 3, 4] rfl (tb_m_longestGap_73 hk31 v0 v1 v3 v4 h5)
      · refine q_iload (pc := 60) (dq D_m_longestGap_0_ok 33 rfl) 4 rfl ?_
        refine q_iload_n (pc := 62) (dq D_m_longestGap_0_ok 34 rfl) rfl 2 rfl ?_
        refine q_isub (pc := 63) (dq D_m_longestGap_0_ok 35 rfl) ?_
        refine q_iload_n (pc := 64) (dq D_m_longestGap_0_ok 36 rfl) rfl 3 rfl ?_
        refine q_ic_le (pc := 65) 73 (dq D_m_longestGap_0_ok 37 rfl) rfl ?_ ?_
        · exact T.lsub [0, 1, 3, 4] rfl (tb_m_longestGap_73 hk31 v0 v1 v3 v4 h5)
        · refine q_iload (pc := 68) (dq D_m_longestGap_0_ok 38 rfl) 4 rfl ?_
          refine q_iload_n (pc := 70) (dq D_m_longestGap_0_ok 39 rfl) rfl 2 rfl ?_
          refine q_isub (pc := 71) (dq D_m_longestGap_0_ok 40 rfl) ?_
          refine r_nmI (fun y7 => ?_)
          refine q_istore_n (pc := 72) (ls' := [(3, .int y7), (0, .ref v0), (1, .int v1), (2, .int v2), (4, .int v4)]) (dq D_m_longestGap_0_ok 41 rfl) rfl rfl rfl ?_
          exact T.lsub [1, 2, 0, 4] rfl (tb_m_longestGap_73 hk31 v0 v1 y7 v4 h5)
    · refine q_goto (pc := 52) 76 (dq D_m_longestGap_0_ok 29 rfl) rfl ?_
      exact T.lsub [0, 1, 2, 3, 4] rfl (tb_m_longestGap_76 hk31 v0 v1 v2 v3 v4 h5)
noncomputable def l_m_longestGap_31 : Nat → (Nat × Int32 × Int32 × Int32 × Int32) → Hp → Option (Int32 × Hp) := lp (fun k31 s h => b_m_longestGap_31 k31 s.1 s.2.1 s.2.2.1 s.2.2.2.1 s.2.2.2.2 h)
set_option maxHeartbeats 4000000 in
set_option maxRecDepth 20000 in
theorem tl_m_longestGap_31 {G : GG} (n : Nat) (s : Nat × Int32 × Int32 × Int32 × Int32) (h : Hp) : T G M_m_longestGap 3 cI 31 [(0, .ref s.1), (1, .int s.2.1), (2, .int s.2.2.1), (3, .int s.2.2.2.1), (4, .int s.2.2.2.2)] [] h (l_m_longestGap_31 n s h) :=
  T.loop (lsOf := fun s => [(0, .ref s.1), (1, .int s.2.1), (2, .int s.2.2.1), (3, .int s.2.2.2.1), (4, .int s.2.2.2.2)]) (fun k31 hk31 s h => tb_m_longestGap_31 hk31 s.1 s.2.1 s.2.2.1 s.2.2.2.1 s.2.2.2.2 h) n s h
noncomputable def f_m_longestGap (v0 : Nat) (v1 : Int32) (h : Hp) : Option (Int32 × Hp) := gd (hS h v0 = some (.inl 11)) (lt (uI h v0 0 0) fun h1 => gd (hS h1 v0 = some (.inl 11)) (bd (f_m_isFeast v0 v1 h1) fun r3 h2 => if r3 = 0 then (gd (hS h2 v0 = some (.inl 11)) (bd (f_m_refused v0 (1 : Int32) h2) fun r10 h9 => some (r10, h9))) else (gd (hS h2 v0 = some (.inl 11)) (bd (f_m_works v0 h2) fun _ h4 => lt ((-1) : Int32) fun y6 => lt ((-2) : Int32) fun y7 => lt (1 : Int32) fun y8 => l_m_longestGap_31 FU (v0, v1, y6, y7, y8) h4))))
set_option maxHeartbeats 4000000 in
set_option maxRecDepth 20000 in
theorem t_m_longestGap {G : GG} (v0 : Nat) (v1 : Int32) (h : Hp) : Mt G M_m_longestGap 3 [.ref v0, .int v1] cI h (f_m_longestGap v0 v1 h) := by
  refine Mt.ofF (by decide +kernel) rfl (Rt.i rfl rfl) ?_
  show T G M_m_longestGap 3 cI 0 [(0, .ref v0), (1, .int v1)] [] h _
  unfold f_m_longestGap
  refine q_aload_n (pc := 0) (dq D_m_longestGap_0_ok 0 rfl) rfl 0 rfl ?_
  refine q_ic0 (pc := 1) (dq D_m_longestGap_0_ok 1 rfl) ?_
  refine r_putI (pc := 2) (dq D_m_longestGap_0_ok 2 rfl) fp_m_54 rfl rfl (fun h1 => ?_)
  refine q_aload_n (pc := 5) (dq D_m_longestGap_0_ok 3 rfl) rfl 0 rfl ?_
  refine q_iload_n (pc := 6) (dq D_m_longestGap_0_ok 4 rfl) rfl 1 rfl ?_
  refine r_invI (Mc := M_m_isFeast) (pc := 7) (ci := 11) (rest := []) 0 1 [.int v1] (dq D_m_longestGap_0_ok 5 rfl) rfl rfl lc_m_isFeast lv_m_isFeast_ ml_m_360 rfl rfl rfl rfl (t_m_isFeast v0 v1 h1) (fun r3 h2 => ?_)
  refine p_if_ne (pc := 10) 19 (dq D_m_longestGap_0_ok 6 rfl) rfl ?_ ?_
  · refine q_aload_n (pc := 19) (dq D_m_longestGap_0_ok 11 rfl) rfl 0 rfl ?_
    refine r_invU (Mc := M_m_works) (pc := 20) (ci := 11) (rest := []) 0 0 [] (dq D_m_longestGap_0_ok 12 rfl) rfl rfl lc_m_works lv_m_works_ ml_m_383 rfl rfl rfl rfl (t_m_works v0 h2) (fun _ h4 => ?_)
    refine q_icm1 (pc := 23) (dq D_m_longestGap_0_ok 13 rfl) ?_
    refine r_nmI (fun y6 => ?_)
    refine q_istore_n (pc := 24) (ls' := [(2, .int y6), (0, .ref v0), (1, .int v1)]) (dq D_m_longestGap_0_ok 14 rfl) rfl rfl rfl ?_
    refine q_bipush (pc := 25) (v := (-2)) (dq D_m_longestGap_0_ok 15 rfl) (by decide) ?_
    refine r_nmI (fun y7 => ?_)
    refine q_istore_n (pc := 27) (ls' := [(3, .int y7), (2, .int y6), (0, .ref v0), (1, .int v1)]) (dq D_m_longestGap_0_ok 16 rfl) rfl rfl rfl ?_
    refine q_ic1 (pc := 28) (dq D_m_longestGap_0_ok 17 rfl) ?_
    refine r_nmI (fun y8 => ?_)
    refine q_istore (pc := 29) (ls' := [(4, .int y8), (3, .int y7), (2, .int y6), (0, .ref v0), (1, .int v1)]) (dq D_m_longestGap_0_ok 18 rfl) rfl rfl ?_
    exact T.lsub [3, 4, 2, 1, 0] rfl (tl_m_longestGap_31 FU (v0, v1, y6, y7, y8) h4)
  · refine q_aload_n (pc := 13) (dq D_m_longestGap_0_ok 7 rfl) rfl 0 rfl ?_
    refine q_ic1 (pc := 14) (dq D_m_longestGap_0_ok 8 rfl) ?_
    refine r_invI (Mc := M_m_refused) (pc := 15) (ci := 11) (rest := []) 0 1 [.int 1] (dq D_m_longestGap_0_ok 9 rfl) rfl rfl lc_m_refused lv_m_refused_ ml_m_60 rfl rfl rfl rfl (t_m_refused v0 (1 : Int32) h2) (fun r10 h9 => ?_)
    exact r_reti (pc := 18) (dq D_m_longestGap_0_ok 10 rfl) rfl
noncomputable def f_m_leadsTo (v0 : Nat) (v1 : Int32) (v2 : Int32) (v3 : Int32) (v4 : Int32) (h : Hp) : Option (Int32 × Hp) := gd (hS h v0 = some (.inl 11)) (bR (hR h v0 3) fun x1 => gd (hS h x1 = some (.inl 12)) (bd (f_n_isGone x1 v1 v3 h) fun r3 h2 => if r3 = 0 then (gd (hS h2 v0 = some (.inl 11)) (bd (f_m_goings v0 v1 v4 h2) fun r5 h4 => gd (hS h4 v0 = some (.inl 11)) (bd (f_m_toothBehind v0 v1 v3 r5 h4) fun r7 h6 => gd (hS h6 v0 = some (.inl 11)) (bR (hR h6 v0 3) fun x8 => gd (hS h6 x8 = some (.inl 12)) (bR (hR h6 x8 15) fun x9 => gd (ai h6 x9 0 ((5 * v2) + v1)) (lt (hI h6 x9 ((5 * v2) + v1).toNatClampNeg) fun x10 => if r7 = x10 then (gd (zb 1) (some (1, h6))) else (gd (zb 0) (some (0, h6))))))))) else (gd (zb 0) (some (0, h2)))))
set_option maxHeartbeats 4000000 in
set_option maxRecDepth 20000 in
theorem t_m_leadsTo {G : GG} (v0 : Nat) (v1 : Int32) (v2 : Int32) (v3 : Int32) (v4 : Int32) (h : Hp) : Mt G M_m_leadsTo 3 [.ref v0, .int v1, .int v2, .int v3, .int v4] cI h (f_m_leadsTo v0 v1 v2 v3 v4 h) := by
  refine Mt.ofF (by decide +kernel) rfl (Rt.z rfl rfl) ?_
  show T G M_m_leadsTo 3 cI 0 [(0, .ref v0), (1, .int v1), (2, .int v2), (3, .int v3), (4, .int v4)] [] h _
  unfold f_m_leadsTo
  refine q_aload_n (pc := 0) (dq D_m_leadsTo_0_ok 0 rfl) rfl 0 rfl ?_
  refine q_getR (pc := 1) (dq D_m_leadsTo_0_ok 1 rfl) fa_m_348 rfl (fun x1 => ?_)
  refine q_iload_n (pc := 4) (dq D_m_leadsTo_0_ok 2 rfl) rfl 1 rfl ?_
  refine q_iload_n (pc := 5) (dq D_m_leadsTo_0_ok 3 rfl) rfl 3 rfl ?_
  refine r_invI (Mc := M_n_isGone) (pc := 6) (ci := 12) (rest := []) 0 2 [.int v1, .int v3] (dq D_m_leadsTo_0_ok 4 rfl) rfl rfl lc_n_isGone lv_n_isGone_ ml_m_280 rfl rfl rfl rfl (t_n_isGone x1 v1 v3 h) (fun r3 h2 => ?_)
  refine p_if_ne (pc := 9) 45 (dq D_m_leadsTo_0_ok 5 rfl) rfl ?_ ?_
  · refine q_ic0 (pc := 45) (dq D_m_leadsTo_0_ok 26 rfl) ?_
    exact r_retz (pc := 46) (dq D_m_leadsTo_0_ok 27 rfl) rfl
  · refine q_aload_n (pc := 12) (dq D_m_leadsTo_0_ok 6 rfl) rfl 0 rfl ?_
    refine q_iload_n (pc := 13) (dq D_m_leadsTo_0_ok 7 rfl) rfl 1 rfl ?_
    refine q_iload_n (pc := 14) (dq D_m_leadsTo_0_ok 8 rfl) rfl 3 rfl ?_
    refine q_aload_n (pc := 15) (dq D_m_leadsTo_0_ok 9 rfl) rfl 0 rfl ?_
    refine q_iload_n (pc := 16) (dq D_m_leadsTo_0_ok 10 rfl) rfl 1 rfl ?_
    refine q_iload (pc := 17) (dq D_m_leadsTo_0_ok 11 rfl) 4 rfl ?_
    refine r_invI (Mc := M_m_goings) (pc := 19) (ci := 11) (rest := [.int v3, .int v1, .ref v0]) 0 2 [.int v1, .int v4] (dq D_m_leadsTo_0_ok 12 rfl) rfl rfl lc_m_goings lv_m_goings_ ml_m_396 rfl rfl rfl rfl (t_m_goings v0 v1 v4 h2) (fun r5 h4 => ?_)
    refine r_invI (Mc := M_m_toothBehind) (pc := 22) (ci := 11) (rest := []) 2 3 [.int v1, .int v3, .int r5] (dq D_m_leadsTo_0_ok 13 rfl) rfl rfl lc_m_toothBehind lv_m_toothBehind_ ml_m_399 rfl rfl rfl rfl (t_m_toothBehind v0 v1 v3 r5 h4) (fun r7 h6 => ?_)
    refine q_aload_n (pc := 25) (dq D_m_leadsTo_0_ok 14 rfl) rfl 0 rfl ?_
    refine q_getR (pc := 26) (dq D_m_leadsTo_0_ok 15 rfl) fa_m_348 rfl (fun x8 => ?_)
    refine q_getR (pc := 29) (dq D_m_leadsTo_0_ok 16 rfl) fa_m_295 rfl (fun x9 => ?_)
    refine q_ic5 (pc := 32) (dq D_m_leadsTo_0_ok 17 rfl) ?_
    refine q_iload_n (pc := 33) (dq D_m_leadsTo_0_ok 18 rfl) rfl 2 rfl ?_
    refine q_imul (pc := 34) (dq D_m_leadsTo_0_ok 19 rfl) ?_
    refine q_iload_n (pc := 35) (dq D_m_leadsTo_0_ok 20 rfl) rfl 1 rfl ?_
    refine q_iadd (pc := 36) (dq D_m_leadsTo_0_ok 21 rfl) ?_
    refine r_iald (pc := 37) (dq D_m_leadsTo_0_ok 22 rfl) (fun x10 => ?_)
    refine q_ic_ne (pc := 38) 45 (dq D_m_leadsTo_0_ok 23 rfl) rfl ?_ ?_
    · refine q_ic0 (pc := 45) (dq D_m_leadsTo_0_ok 26 rfl) ?_
      exact r_retz (pc := 46) (dq D_m_leadsTo_0_ok 27 rfl) rfl
    · refine q_ic1 (pc := 41) (dq D_m_leadsTo_0_ok 24 rfl) ?_
      refine q_goto (pc := 42) 46 (dq D_m_leadsTo_0_ok 25 rfl) rfl ?_
      exact r_retz (pc := 46) (dq D_m_leadsTo_0_ok 27 rfl) rfl
noncomputable def b_m_setFor_125 (k125 : (Nat × Int32 × Int32 × Int32 × Int32) → Hp → Option (Int32 × Hp)) (v0 : Nat) (v1 : Int32) (v2 : Int32) (v3 : Int32) (v5 : Int32) (h : Hp) : Option (Int32 × Hp) := gd (hS h v0 = some (.inl 11)) (bR (hR h v0 3) fun x1 => gd (hS h x1 = some (.inl 12)) (bR (hR h x1 11) fun x2 => gd (ai h x2 0 v1) (lt (hI h x2 v1.toNatClampNeg) fun x3 => if x3 ≤ v5 then (gd (hS h v0 = some (.inl 11)) (bd (f_m_good v0 ((-2)) h) fun r5 h4 => some (r5, h4))) else (gd (hS h v0 = some (.inl 11)) (bd (f_m_leadsTo v0 v1 v2 v5 v3 h) fun r7 h6 => if r7 = 0 then (k125 (v0, v1, v2, v3, v5 + 1) h6) else (gd (hS h6 v0 = some (.inl 11)) (bd (f_m_good v0 v5 h6) fun r9 h8 => some (r9, h8))))))))
set_option maxHeartbeats 4000000 in
set_option maxRecDepth 20000 in
theorem tb_m_setFor_125 {G : GG} {k125 : (Nat × Int32 × Int32 × Int32 × Int32) → Hp → Option (Int32 × Hp)} (hk125 : ∀ s h, T G M_m_setFor 4 cI 125 [(0, .ref s.1), (1, .int s.2.1), (2, .int s.2.2.1), (3, .int s.2.2.2.1), (5, .int s.2.2.2.2)] [] h (k125 s h)) (v0 : Nat) (v1 : Int32) (v2 : Int32) (v3 : Int32) (v5 : Int32) (h : Hp) : T G M_m_setFor 4 cI 125 [(0, .ref v0), (1, .int v1), (2, .int v2), (3, .int v3), (5, .int v5)] [] h (b_m_setFor_125 k125 v0 v1 v2 v3 v5 h) := by
  unfold b_m_setFor_125
  refine q_iload (pc := 125) (dq D_m_setFor_1_ok 6 rfl) 4 rfl ?_
  refine q_aload_n (pc := 127) (dq D_m_setFor_1_ok 7 rfl) rfl 0 rfl ?_
  refine q_getR (pc := 128) (dq D_m_setFor_1_ok 8 rfl) fa_m_348 rfl (fun x1 => ?_)
  refine q_getR (pc := 131) (dq D_m_setFor_1_ok 9 rfl) fa_m_269 rfl (fun x2 => ?_)
  refine q_iload_n (pc := 134) (dq D_m_setFor_1_ok 10 rfl) rfl 1 rfl ?_
  refine r_iald (pc := 135) (dq D_m_setFor_1_ok 11 rfl) (fun x3 => ?_)
  refine q_ic_ge (pc := 136) 164 (dq D_m_setFor_1_ok 12 rfl) rfl ?_ ?_
  · refine q_aload_n (pc := 164) (dq D_m_setFor_1_ok 26 rfl) rfl 0 rfl ?_
    refine q_bipush (pc := 165) (v := (-2)) (dq D_m_setFor_1_ok 27 rfl) (by decide) ?_
    refine r_invI (Mc := M_m_good) (pc := 167) (ci := 11) (rest := []) 0 1 [.int ((-2))] (dq D_m_setFor_1_ok 28 rfl) rfl rfl lc_m_good lv_m_good_ ml_m_64 rfl rfl rfl rfl (t_m_good v0 ((-2)) h) (fun r5 h4 => ?_)
    exact r_reti (pc := 170) (dq D_m_setFor_1_ok 29 rfl) rfl
  · refine q_aload_n (pc := 139) (dq D_m_setFor_1_ok 13 rfl) rfl 0 rfl ?_
    refine q_iload_n (pc := 140) (dq D_m_setFor_1_ok 14 rfl) rfl 1 rfl ?_
    refine q_iload_n (pc := 141) (dq D_m_setFor_1_ok 15 rfl) rfl 2 rfl ?_
    refine q_iload (pc := 142) (dq D_m_setFor_1_ok 16 rfl) 4 rfl ?_
    refine q_iload_n (pc := 144) (dq D_m_setFor_1_ok 17 rfl) rfl 3 rfl ?_
    refine r_invI (Mc := M_m_leadsTo) (pc := 145) (ci := 11) (rest := []) 3 4 [.int v1, .int v2, .int v5, .int v3] (dq D_m_setFor_1_ok 18 rfl) rfl rfl lc_m_leadsTo lv_m_leadsTo_ ml_m_412 rfl rfl rfl rfl (t_m_leadsTo v0 v1 v2 v5 v3 h) (fun r7 h6 => ?_)
    refine p_if_eq (pc := 148) 158 (dq D_m_setFor_1_ok 19 rfl) rfl ?_ ?_
    · refine q_iinc (pc := 158) (v := (1)) (ls' := [(5, .int (v5 + 1)), (0, .ref v0), (1, .int v1), (2, .int v2), (3, .int v3)]) (dq D_m_setFor_1_ok 24 rfl) 4 rfl (by decide) rfl rfl ?_
      refine q_goto (pc := 161) 125 (dq D_m_setFor_1_ok 25 rfl) rfl ?_
      exact T.lsub [1, 2, 3, 4, 0] rfl (hk125 (v0, v1, v2, v3, v5 + 1) h6)
    · refine q_aload_n (pc := 151) (dq D_m_setFor_1_ok 20 rfl) rfl 0 rfl ?_
      refine q_iload (pc := 152) (dq D_m_setFor_1_ok 21 rfl) 4 rfl ?_
      refine r_invI (Mc := M_m_good) (pc := 154) (ci := 11) (rest := []) 0 1 [.int v5] (dq D_m_setFor_1_ok 22 rfl) rfl rfl lc_m_good lv_m_good_ ml_m_64 rfl rfl rfl rfl (t_m_good v0 v5 h6) (fun r9 h8 => ?_)
      exact r_reti (pc := 157) (dq D_m_setFor_1_ok 23 rfl) rfl
noncomputable def l_m_setFor_125 : Nat → (Nat × Int32 × Int32 × Int32 × Int32) → Hp → Option (Int32 × Hp) := lp (fun k125 s h => b_m_setFor_125 k125 s.1 s.2.1 s.2.2.1 s.2.2.2.1 s.2.2.2.2 h)
set_option maxHeartbeats 4000000 in
set_option maxRecDepth 20000 in
theorem tl_m_setFor_125 {G : GG} (n : Nat) (s : Nat × Int32 × Int32 × Int32 × Int32) (h : Hp) : T G M_m_setFor 4 cI 125 [(0, .ref s.1), (1, .int s.2.1), (2, .int s.2.2.1), (3, .int s.2.2.2.1), (5, .int s.2.2.2.2)] [] h (l_m_setFor_125 n s h) :=
  T.loop (lsOf := fun s => [(0, .ref s.1), (1, .int s.2.1), (2, .int s.2.2.1), (3, .int s.2.2.2.1), (5, .int s.2.2.2.2)]) (fun k125 hk125 s h => tb_m_setFor_125 hk125 s.1 s.2.1 s.2.2.1 s.2.2.2.1 s.2.2.2.2 h) n s h
noncomputable def b_m_setFor_116 (k37 : (Nat × Int32 × Int32 × Int32 × Int32) → Hp → Option (Int32 × Hp)) (v0 : Nat) (v1 : Int32) (v2 : Int32) (v3 : Int32) (v5 : Int32) (h : Hp) : Option (Int32 × Hp) := k37 (v0, v1, v2, v3, v5 + 1) h
set_option maxHeartbeats 4000000 in
set_option maxRecDepth 20000 in
theorem tb_m_setFor_116 {G : GG} {k37 : (Nat × Int32 × Int32 × Int32 × Int32) → Hp → Option (Int32 × Hp)} (hk37 : ∀ s h, T G M_m_setFor 4 cI 37 [(0, .ref s.1), (1, .int s.2.1), (2, .int s.2.2.1), (3, .int s.2.2.2.1), (5, .int s.2.2.2.2)] [] h (k37 s h)) (v0 : Nat) (v1 : Int32) (v2 : Int32) (v3 : Int32) (v5 : Int32) (h : Hp) : T G M_m_setFor 4 cI 116 [(0, .ref v0), (1, .int v1), (2, .int v2), (3, .int v3), (5, .int v5)] [] h (b_m_setFor_116 k37 v0 v1 v2 v3 v5 h) := by
  unfold b_m_setFor_116
  refine q_iinc (pc := 116) (v := (1)) (ls' := [(5, .int (v5 + 1)), (0, .ref v0), (1, .int v1), (2, .int v2), (3, .int v3)]) (dq D_m_setFor_1_ok 2 rfl) 4 rfl (by decide) rfl rfl ?_
  refine q_goto (pc := 119) 37 (dq D_m_setFor_1_ok 3 rfl) rfl ?_
  exact T.lsub [1, 2, 3, 4, 0] rfl (hk37 (v0, v1, v2, v3, v5 + 1) h)
noncomputable def b_m_setFor_37 (k37 : (Nat × Int32 × Int32 × Int32 × Int32) → Hp → Option (Int32 × Hp)) (v0 : Nat) (v1 : Int32) (v2 : Int32) (v3 : Int32) (v5 : Int32) (h : Hp) : Option (Int32 × Hp) := gd (hS h v0 = some (.inl 11)) (bR (hR h v0 3) fun x1 => gd (hS h x1 = some (.inl 12)) (lt (hI h x1 2) fun x2 => if x2 ≤ v5 then (lt (0 : Int32) fun y3 => l_m_setFor_125 FU (v0, v1, v2, v3, y3) h) else (if v5 = v1 then (b_m_setFor_116 k37 v0 v1 v2 v3 v5 h) else (gd (hS h v0 = some (.inl 11)) (bR (hR h v0 3) fun x4 => gd (hS h x4 = some (.inl 12)) (bR (hR h x4 16) fun x5 => gd (ai h x5 0 v2) (lt (hI h x5 v2.toNatClampNeg) fun x6 => bd (f_m_bit x6 v5 h) fun r8 h7 => if r8 = 0 then (b_m_setFor_116 k37 v0 v1 v2 v3 v5 h7) else (gd (hS h7 v0 = some (.inl 11)) (bR (hR h7 v0 15) fun x9 => gd (ai h7 x9 0 v5) (lt (hI h7 x9 v5.toNatClampNeg) fun x10 => gd (hS h7 v0 = some (.inl 11)) (bd (f_m_goings v0 v5 v3 h7) fun r12 h11 => gd (hS h11 v0 = some (.inl 11)) (bd (f_m_toothBehind v0 v5 x10 r12 h11) fun r14 h13 => gd (hS h13 v0 = some (.inl 11)) (bR (hR h13 v0 3) fun x15 => gd (hS h13 x15 = some (.inl 12)) (bR (hR h13 x15 15) fun x16 => gd (ai h13 x16 0 ((5 * v2) + v5)) (lt (hI h13 x16 ((5 * v2) + v5).toNatClampNeg) fun x17 => if r14 = x17 then (b_m_setFor_116 k37 v0 v1 v2 v3 v5 h13) else (gd (hS h13 v0 = some (.inl 11)) (bd (f_m_good v0 ((-2)) h13) fun r19 h18 => some (r19, h18))))))))))))))))))
set_option maxHeartbeats 4000000 in
set_option maxRecDepth 20000 in
theorem tb_m_setFor_37 {G : GG} {k37 : (Nat × Int32 × Int32 × Int32 × Int32) → Hp → Option (Int32 × Hp)} (hk37 : ∀ s h, T G M_m_setFor 4 cI 37 [(0, .ref s.1), (1, .int s.2.1), (2, .int s.2.2.1), (3, .int s.2.2.2.1), (5, .int s.2.2.2.2)] [] h (k37 s h)) (v0 : Nat) (v1 : Int32) (v2 : Int32) (v3 : Int32) (v5 : Int32) (h : Hp) : T G M_m_setFor 4 cI 37 [(0, .ref v0), (1, .int v1), (2, .int v2), (3, .int v3), (5, .int v5)] [] h (b_m_setFor_37 k37 v0 v1 v2 v3 v5 h) := by
  unfold b_m_setFor_37
  refine q_iload (pc := 37) (dq D_m_setFor_0_ok 21 rfl) 4 rfl ?_
  refine q_aload_n (pc := 39) (dq D_m_setFor_0_ok 22 rfl) rfl 0 rfl ?_
  refine q_getR (pc := 40) (dq D_m_setFor_0_ok 23 rfl) fa_m_348 rfl (fun x1 => ?_)
  refine r_getI (pc := 43) (dq D_m_setFor_0_ok 24 rfl) fa_m_205 rfl (fun x2 => ?_)
  refine q_ic_ge (pc := 46) 122 (dq D_m_setFor_0_ok 25 rfl) rfl ?_ ?_
  · refine q_ic0 (pc := 122) (dq D_m_setFor_1_ok 4 rfl) ?_
    refine r_nmI (fun y3 => ?_)
    refine q_istore (pc := 123) (ls' := [(5, .int y3), (0, .ref v0), (1, .int v1), (2, .int v2), (3, .int v3)]) (dq D_m_setFor_1_ok 5 rfl) rfl rfl ?_
    exact T.lsub [1, 2, 3, 4, 0] rfl (tl_m_setFor_125 FU (v0, v1, v2, v3, y3) h)
  · refine q_iload (pc := 49) (dq D_m_setFor_0_ok 26 rfl) 4 rfl ?_
    refine q_iload_n (pc := 51) (dq D_m_setFor_0_ok 27 rfl) rfl 1 rfl ?_
    refine q_ic_eq (pc := 52) 116 (dq D_m_setFor_0_ok 28 rfl) rfl ?_ ?_
    · exact T.lsub [0, 1, 2, 3, 4] rfl (tb_m_setFor_116 hk37 v0 v1 v2 v3 v5 h)
    · refine q_aload_n (pc := 55) (dq D_m_setFor_0_ok 29 rfl) rfl 0 rfl ?_
      refine q_getR (pc := 56) (dq D_m_setFor_0_ok 30 rfl) fa_m_348 rfl (fun x4 => ?_)
      refine q_getR (pc := 59) (dq D_m_setFor_0_ok 31 rfl) fa_m_297 rfl (fun x5 => ?_)
      refine q_iload_n (pc := 62) (dq D_m_setFor_0_ok 32 rfl) rfl 2 rfl ?_
      refine r_iald (pc := 63) (dq D_m_setFor_0_ok 33 rfl) (fun x6 => ?_)
      refine q_iload (pc := 64) (dq D_m_setFor_0_ok 34 rfl) 4 rfl ?_
      refine r_insI (Mc := M_m_bit) (pc := 66) (rest := []) 0 2 [.int x6, .int v5] (dq D_m_setFor_0_ok 35 rfl) lc_m_bit ls_m_bit ml_m_292 rfl rfl rfl rfl (t_m_bit x6 v5 h) (fun r8 h7 => ?_)
      refine p_if_eq (pc := 69) 116 (dq D_m_setFor_0_ok 36 rfl) rfl ?_ ?_
      · exact T.lsub [0, 1, 2, 3, 4] rfl (tb_m_setFor_116 hk37 v0 v1 v2 v3 v5 h7)
      · refine q_aload_n (pc := 72) (dq D_m_setFor_0_ok 37 rfl) rfl 0 rfl ?_
        refine q_iload (pc := 73) (dq D_m_setFor_0_ok 38 rfl) 4 rfl ?_
        refine q_aload_n (pc := 75) (dq D_m_setFor_0_ok 39 rfl) rfl 0 rfl ?_
        refine q_getR (pc := 76) (dq D_m_setFor_0_ok 40 rfl) fa_m_17 rfl (fun x9 => ?_)
        refine q_iload (pc := 79) (dq D_m_setFor_0_ok 41 rfl) 4 rfl ?_
        refine r_iald (pc := 81) (dq D_m_setFor_0_ok 42 rfl) (fun x10 => ?_)
        refine q_aload_n (pc := 82) (dq D_m_setFor_0_ok 43 rfl) rfl 0 rfl ?_
        refine q_iload (pc := 83) (dq D_m_setFor_0_ok 44 rfl) 4 rfl ?_
        refine q_iload_n (pc := 85) (dq D_m_setFor_0_ok 45 rfl) rfl 3 rfl ?_
        refine r_invI (Mc := M_m_goings) (pc := 86) (ci := 11) (rest := [.int x10, .int v5, .ref v0]) 0 2 [.int v5, .int v3] (dq D_m_setFor_0_ok 46 rfl) rfl rfl lc_m_goings lv_m_goings_ ml_m_396 rfl rfl rfl rfl (t_m_goings v0 v5 v3 h7) (fun r12 h11 => ?_)
        refine r_invI (Mc := M_m_toothBehind) (pc := 89) (ci := 11) (rest := []) 2 3 [.int v5, .int x10, .int r12] (dq D_m_setFor_0_ok 47 rfl) rfl rfl lc_m_toothBehind lv_m_toothBehind_ ml_m_399 rfl rfl rfl rfl (t_m_toothBehind v0 v5 x10 r12 h11) (fun r14 h13 => ?_)
        refine q_aload_n (pc := 92) (dq D_m_setFor_0_ok 48 rfl) rfl 0 rfl ?_
        refine q_getR (pc := 93) (dq D_m_setFor_0_ok 49 rfl) fa_m_348 rfl (fun x15 => ?_)
        refine q_getR (pc := 96) (dq D_m_setFor_0_ok 50 rfl) fa_m_295 rfl (fun x16 => ?_)
        refine q_ic5 (pc := 99) (dq D_m_setFor_0_ok 51 rfl) ?_
        refine q_iload_n (pc := 100) (dq D_m_setFor_0_ok 52 rfl) rfl 2 rfl ?_
        refine q_imul (pc := 101) (dq D_m_setFor_0_ok 53 rfl) ?_
        refine q_iload (pc := 102) (dq D_m_setFor_0_ok 54 rfl) 4 rfl ?_
        refine q_iadd (pc := 104) (dq D_m_setFor_0_ok 55 rfl) ?_
        refine r_iald (pc := 105) (dq D_m_setFor_0_ok 56 rfl) (fun x17 => ?_)
        refine q_ic_eq (pc := 106) 116 (dq D_m_setFor_0_ok 57 rfl) rfl ?_ ?_
        · exact T.lsub [0, 1, 2, 3, 4] rfl (tb_m_setFor_116 hk37 v0 v1 v2 v3 v5 h13)
        · refine q_aload_n (pc := 109) (dq D_m_setFor_0_ok 58 rfl) rfl 0 rfl ?_
          refine q_bipush (pc := 110) (v := (-2)) (dq D_m_setFor_0_ok 59 rfl) (by decide) ?_
          refine r_invI (Mc := M_m_good) (pc := 112) (ci := 11) (rest := []) 0 1 [.int ((-2))] (dq D_m_setFor_1_ok 0 rfl) rfl rfl lc_m_good lv_m_good_ ml_m_64 rfl rfl rfl rfl (t_m_good v0 ((-2)) h13) (fun r19 h18 => ?_)
          exact r_reti (pc := 115) (dq D_m_setFor_1_ok 1 rfl) rfl
noncomputable def l_m_setFor_37 : Nat → (Nat × Int32 × Int32 × Int32 × Int32) → Hp → Option (Int32 × Hp) := lp (fun k37 s h => b_m_setFor_37 k37 s.1 s.2.1 s.2.2.1 s.2.2.2.1 s.2.2.2.2 h)
set_option maxHeartbeats 4000000 in
set_option maxRecDepth 20000 in
theorem tl_m_setFor_37 {G : GG} (n : Nat) (s : Nat × Int32 × Int32 × Int32 × Int32) (h : Hp) : T G M_m_setFor 4 cI 37 [(0, .ref s.1), (1, .int s.2.1), (2, .int s.2.2.1), (3, .int s.2.2.2.1), (5, .int s.2.2.2.2)] [] h (l_m_setFor_37 n s h) :=
  T.loop (lsOf := fun s => [(0, .ref s.1), (1, .int s.2.1), (2, .int s.2.2.1), (3, .int s.2.2.2.1), (5, .int s.2.2.2.2)]) (fun k37 hk37 s h => tb_m_setFor_37 hk37 s.1 s.2.1 s.2.2.1 s.2.2.2.1 s.2.2.2.2 h) n s h
noncomputable def f_m_setFor (v0 : Nat) (v1 : Int32) (v2 : Int32) (v3 : Int32) (h : Hp) : Option (Int32 × Hp) := gd (hS h v0 = some (.inl 11)) (lt (uI h v0 0 0) fun h1 => gd (hS h1 v0 = some (.inl 11)) (bd (f_m_isOf v0 v1 v2 h1) fun r3 h2 => gd (hS h2 v0 = some (.inl 11)) (bd (f_m_refusesDays v0 r3 v3 (1 : Int32) (5000 : Int32) h2) fun r5 h4 => if r5 ≤ 0 then (lt (0 : Int32) fun y6 => l_m_setFor_37 FU (v0, v1, v2, v3, y6) h4) else (gd (hS h4 v0 = some (.inl 11)) (bd (f_m_refused v0 r5 h4) fun r8 h7 => some (r8, h7))))))
set_option maxHeartbeats 4000000 in
set_option maxRecDepth 20000 in
theorem t_m_setFor {G : GG} (v0 : Nat) (v1 : Int32) (v2 : Int32) (v3 : Int32) (h : Hp) : Mt G M_m_setFor 4 [.ref v0, .int v1, .int v2, .int v3] cI h (f_m_setFor v0 v1 v2 v3 h) := by
  refine Mt.ofF (by decide +kernel) rfl (Rt.i rfl rfl) ?_
  show T G M_m_setFor 4 cI 0 [(0, .ref v0), (1, .int v1), (2, .int v2), (3, .int v3)] [] h _
  unfold f_m_setFor
  refine q_aload_n (pc := 0) (dq D_m_setFor_0_ok 0 rfl) rfl 0 rfl ?_
  refine q_ic0 (pc := 1) (dq D_m_setFor_0_ok 1 rfl) ?_
  refine r_putI (pc := 2) (dq D_m_setFor_0_ok 2 rfl) fp_m_54 rfl rfl (fun h1 => ?_)
  refine q_aload_n (pc := 5) (dq D_m_setFor_0_ok 3 rfl) rfl 0 rfl ?_
  refine q_aload_n (pc := 6) (dq D_m_setFor_0_ok 4 rfl) rfl 0 rfl ?_
  refine q_iload_n (pc := 7) (dq D_m_setFor_0_ok 5 rfl) rfl 1 rfl ?_
  refine q_iload_n (pc := 8) (dq D_m_setFor_0_ok 6 rfl) rfl 2 rfl ?_
  refine r_invI (Mc := M_m_isOf) (pc := 9) (ci := 11) (rest := [.ref v0]) 1 2 [.int v1, .int v2] (dq D_m_setFor_0_ok 7 rfl) rfl rfl lc_m_isOf lv_m_isOf_ ml_m_409 rfl rfl rfl rfl (t_m_isOf v0 v1 v2 h1) (fun r3 h2 => ?_)
  refine q_iload_n (pc := 12) (dq D_m_setFor_0_ok 8 rfl) rfl 3 rfl ?_
  refine q_ic1 (pc := 13) (dq D_m_setFor_0_ok 9 rfl) ?_
  refine q_sipush (pc := 14) (v := 5000) (dq D_m_setFor_0_ok 10 rfl) (by decide) ?_
  refine r_invI (Mc := M_m_refusesDays) (pc := 17) (ci := 11) (rest := []) 1 4 [.int r3, .int v3, .int 1, .int 5000] (dq D_m_setFor_0_ok 11 rfl) rfl rfl lc_m_refusesDays lv_m_refusesDays_ ml_m_392 rfl rfl rfl rfl (t_m_refusesDays v0 r3 v3 (1 : Int32) (5000 : Int32) h2) (fun r5 h4 => ?_)
  refine q_istore (pc := 20) (ls' := [(4, .int r5), (0, .ref v0), (1, .int v1), (2, .int v2), (3, .int v3)]) (dq D_m_setFor_0_ok 12 rfl) rfl rfl ?_
  refine q_iload (pc := 22) (dq D_m_setFor_0_ok 13 rfl) 0 rfl ?_
  refine p_if_le (pc := 24) 34 (dq D_m_setFor_0_ok 14 rfl) rfl ?_ ?_
  · refine q_ic0 (pc := 34) (dq D_m_setFor_0_ok 19 rfl) ?_
    refine r_nmI (fun y6 => ?_)
    refine q_istore (pc := 35) (ls' := [(5, .int y6), (4, .int r5), (0, .ref v0), (1, .int v1), (2, .int v2), (3, .int v3)]) (dq D_m_setFor_0_ok 20 rfl) rfl rfl ?_
    exact T.lsub [2, 3, 4, 5, 0] rfl (tl_m_setFor_37 FU (v0, v1, v2, v3, y6) h4)
  · refine q_aload_n (pc := 27) (dq D_m_setFor_0_ok 15 rfl) rfl 1 rfl ?_
    refine q_iload (pc := 28) (dq D_m_setFor_0_ok 16 rfl) 0 rfl ?_
    refine r_invI (Mc := M_m_refused) (pc := 30) (ci := 11) (rest := []) 0 1 [.int r5] (dq D_m_setFor_0_ok 17 rfl) rfl rfl lc_m_refused lv_m_refused_ ml_m_60 rfl rfl rfl rfl (t_m_refused v0 r5 h4) (fun r8 h7 => ?_)
    exact r_reti (pc := 33) (dq D_m_setFor_0_ok 18 rfl) rfl
noncomputable def b_m_paces_103 (v0 : Nat) (v1 : Int32) (v3 : Int32) (v4 : Int32) (h : Hp) : Option (Int32 × Hp) := gd (hS h v0 = some (.inl 11)) (bR (hR h v0 3) fun x1 => gd (hS h x1 = some (.inl 12)) (bR (hR h x1 12) fun x2 => gd (ai h x2 0 v1) (lt (uI h x2 v1.toNatClampNeg v3) fun h3 => some (v4, h3))))
set_option maxHeartbeats 4000000 in
set_option maxRecDepth 20000 in
theorem tb_m_paces_103 {G : GG} (v0 : Nat) (v1 : Int32) (v3 : Int32) (v4 : Int32) (h : Hp) : T G M_m_paces 4 cI 103 [(0, .ref v0), (1, .int v1), (3, .int v3), (4, .int v4)] [] h (b_m_paces_103 v0 v1 v3 v4 h) := by
  unfold b_m_paces_103
  refine q_aload_n (pc := 103) (dq D_m_paces_0_ok 51 rfl) rfl 0 rfl ?_
  refine q_getR (pc := 104) (dq D_m_paces_0_ok 52 rfl) fa_m_348 rfl (fun x1 => ?_)
  refine q_getR (pc := 107) (dq D_m_paces_0_ok 53 rfl) fa_m_271 rfl (fun x2 => ?_)
  refine q_iload_n (pc := 110) (dq D_m_paces_0_ok 54 rfl) rfl 1 rfl ?_
  refine q_iload_n (pc := 111) (dq D_m_paces_0_ok 55 rfl) rfl 2 rfl ?_
  refine r_iast (pc := 112) (dq D_m_paces_0_ok 56 rfl) (fun h3 => ?_)
  refine q_iload (pc := 113) (dq D_m_paces_0_ok 57 rfl) 3 rfl ?_
  exact r_reti (pc := 115) (dq D_m_paces_0_ok 58 rfl) rfl
noncomputable def b_m_paces_97 (k23 : (Nat × Int32 × Int32 × Int32 × Int32 × Int32) → Hp → Option (Int32 × Hp)) (v0 : Nat) (v1 : Int32) (v2 : Int32) (v3 : Int32) (v4 : Int32) (v5 : Int32) (h : Hp) : Option (Int32 × Hp) := k23 (v0, v1, v2, v3, v4, v5 + 1) h
set_option maxHeartbeats 4000000 in
set_option maxRecDepth 20000 in
theorem tb_m_paces_97 {G : GG} {k23 : (Nat × Int32 × Int32 × Int32 × Int32 × Int32) → Hp → Option (Int32 × Hp)} (hk23 : ∀ s h, T G M_m_paces 4 cI 23 [(0, .ref s.1), (1, .int s.2.1), (2, .int s.2.2.1), (3, .int s.2.2.2.1), (4, .int s.2.2.2.2.1), (5, .int s.2.2.2.2.2)] [] h (k23 s h)) (v0 : Nat) (v1 : Int32) (v2 : Int32) (v3 : Int32) (v4 : Int32) (v5 : Int32) (h : Hp) : T G M_m_paces 4 cI 97 [(0, .ref v0), (1, .int v1), (2, .int v2), (3, .int v3), (4, .int v4), (5, .int v5)] [] h (b_m_paces_97 k23 v0 v1 v2 v3 v4 v5 h) := by
  unfold b_m_paces_97
  refine q_iinc (pc := 97) (v := (1)) (ls' := [(5, .int (v5 + 1)), (0, .ref v0), (1, .int v1), (2, .int v2), (3, .int v3), (4, .int v4)]) (dq D_m_paces_0_ok 49 rfl) 5 rfl (by decide) rfl rfl ?_
  refine q_goto (pc := 100) 23 (dq D_m_paces_0_ok 50 rfl) rfl ?_
  exact T.lsub [1, 2, 3, 4, 5, 0] rfl (hk23 (v0, v1, v2, v3, v4, v5 + 1) h)
noncomputable def b_m_paces_87 (k23 : (Nat × Int32 × Int32 × Int32 × Int32 × Int32) → Hp → Option (Int32 × Hp)) (v0 : Nat) (v1 : Int32) (v2 : Int32) (v3 : Int32) (v5 : Int32) (v6 : Int32) (h : Hp) : Option (Int32 × Hp) := gd (hS h v0 = some (.inl 11)) (lt (uI h v0 23 v5) fun h1 => b_m_paces_97 k23 v0 v1 v2 v3 v6 v5 h1)
set_option maxHeartbeats 4000000 in
set_option maxRecDepth 20000 in
theorem tb_m_paces_87 {G : GG} {k23 : (Nat × Int32 × Int32 × Int32 × Int32 × Int32) → Hp → Option (Int32 × Hp)} (hk23 : ∀ s h, T G M_m_paces 4 cI 23 [(0, .ref s.1), (1, .int s.2.1), (2, .int s.2.2.1), (3, .int s.2.2.2.1), (4, .int s.2.2.2.2.1), (5, .int s.2.2.2.2.2)] [] h (k23 s h)) (v0 : Nat) (v1 : Int32) (v2 : Int32) (v3 : Int32) (v5 : Int32) (v6 : Int32) (h : Hp) : T G M_m_paces 4 cI 87 [(0, .ref v0), (1, .int v1), (2, .int v2), (3, .int v3), (5, .int v5), (6, .int v6)] [] h (b_m_paces_87 k23 v0 v1 v2 v3 v5 v6 h) := by
  unfold b_m_paces_87
  refine q_iload (pc := 87) (dq D_m_paces_0_ok 44 rfl) 5 rfl ?_
  refine q_istore (pc := 89) (ls' := [(4, .int v6), (0, .ref v0), (1, .int v1), (2, .int v2), (3, .int v3), (5, .int v5), (6, .int v6)]) (dq D_m_paces_0_ok 45 rfl) rfl rfl ?_
  refine q_aload_n (pc := 91) (dq D_m_paces_0_ok 46 rfl) rfl 1 rfl ?_
  refine q_iload (pc := 92) (dq D_m_paces_0_ok 47 rfl) 5 rfl ?_
  refine r_putI (pc := 94) (dq D_m_paces_0_ok 48 rfl) fp_m_416 rfl rfl (fun h1 => ?_)
  exact T.lsub [1, 2, 3, 4, 0, 5] rfl (tb_m_paces_97 hk23 v0 v1 v2 v3 v6 v5 h1)
noncomputable def b_m_paces_23 (k23 : (Nat × Int32 × Int32 × Int32 × Int32 × Int32) → Hp → Option (Int32 × Hp)) (v0 : Nat) (v1 : Int32) (v2 : Int32) (v3 : Int32) (v4 : Int32) (v5 : Int32) (h : Hp) : Option (Int32 × Hp) := if 9 < v5 then (b_m_paces_103 v0 v1 v3 v4 h) else (gd (hS h v0 = some (.inl 11)) (bR (hR h v0 3) fun x1 => gd (hS h x1 = some (.inl 12)) (bR (hR h x1 11) fun x2 => gd (ai h x2 0 v1) (lt (hI h x2 v1.toNatClampNeg) fun x3 => if x3 ≤ v5 then (b_m_paces_103 v0 v1 v3 v4 h) else (gd (hS h v0 = some (.inl 11)) (bR (hR h v0 3) fun x4 => gd (hS h x4 = some (.inl 12)) (bR (hR h x4 12) fun x5 => gd (ai h x5 0 v1) (lt (uI h x5 v1.toNatClampNeg v5) fun h6 => gd (hS h6 v0 = some (.inl 11)) (bd (f_m_nextOf v0 v2 v2 h6) fun r8 h7 => if r8 = ((-2)) then (b_m_paces_97 k23 v0 v1 v2 v3 v4 v5 h7) else (if v4 = ((-2)) then (b_m_paces_87 k23 v0 v1 v2 v3 v5 r8 h7) else (if r8 < v4 then (b_m_paces_87 k23 v0 v1 v2 v3 v5 r8 h7) else (b_m_paces_97 k23 v0 v1 v2 v3 v4 v5 h7))))))))))))
set_option maxHeartbeats 4000000 in
set_option maxRecDepth 20000 in
theorem tb_m_paces_23 {G : GG} {k23 : (Nat × Int32 × Int32 × Int32 × Int32 × Int32) → Hp → Option (Int32 × Hp)} (hk23 : ∀ s h, T G M_m_paces 4 cI 23 [(0, .ref s.1), (1, .int s.2.1), (2, .int s.2.2.1), (3, .int s.2.2.2.1), (4, .int s.2.2.2.2.1), (5, .int s.2.2.2.2.2)] [] h (k23 s h)) (v0 : Nat) (v1 : Int32) (v2 : Int32) (v3 : Int32) (v4 : Int32) (v5 : Int32) (h : Hp) : T G M_m_paces 4 cI 23 [(0, .ref v0), (1, .int v1), (2, .int v2), (3, .int v3), (4, .int v4), (5, .int v5)] [] h (b_m_paces_23 k23 v0 v1 v2 v3 v4 v5 h) := by
  unfold b_m_paces_23
  refine q_iload (pc := 23) (dq D_m_paces_0_ok 13 rfl) 5 rfl ?_
  refine q_bipush (pc := 25) (v := 9) (dq D_m_paces_0_ok 14 rfl) (by decide) ?_
  refine q_ic_gt (pc := 27) 103 (dq D_m_paces_0_ok 15 rfl) rfl ?_ ?_
  · exact T.lsub [0, 1, 3, 4] rfl (tb_m_paces_103 v0 v1 v3 v4 h)
  · refine q_iload (pc := 30) (dq D_m_paces_0_ok 16 rfl) 5 rfl ?_
    refine q_aload_n (pc := 32) (dq D_m_paces_0_ok 17 rfl) rfl 0 rfl ?_
    refine q_getR (pc := 33) (dq D_m_paces_0_ok 18 rfl) fa_m_348 rfl (fun x1 => ?_)
    refine q_getR (pc := 36) (dq D_m_paces_0_ok 19 rfl) fa_m_269 rfl (fun x2 => ?_)
    refine q_iload_n (pc := 39) (dq D_m_paces_0_ok 20 rfl) rfl 1 rfl ?_
    refine r_iald (pc := 40) (dq D_m_paces_0_ok 21 rfl) (fun x3 => ?_)
    refine q_ic_ge (pc := 41) 103 (dq D_m_paces_0_ok 22 rfl) rfl ?_ ?_
    · exact T.lsub [0, 1, 3, 4] rfl (tb_m_paces_103 v0 v1 v3 v4 h)
    · refine q_aload_n (pc := 44) (dq D_m_paces_0_ok 23 rfl) rfl 0 rfl ?_
      refine q_getR (pc := 45) (dq D_m_paces_0_ok 24 rfl) fa_m_348 rfl (fun x4 => ?_)
      refine q_getR (pc := 48) (dq D_m_paces_0_ok 25 rfl) fa_m_271 rfl (fun x5 => ?_)
      refine q_iload_n (pc := 51) (dq D_m_paces_0_ok 26 rfl) rfl 1 rfl ?_
      refine q_iload (pc := 52) (dq D_m_paces_0_ok 27 rfl) 5 rfl ?_
      refine r_iast (pc := 54) (dq D_m_paces_0_ok 28 rfl) (fun h6 => ?_)
      refine q_aload_n (pc := 55) (dq D_m_paces_0_ok 29 rfl) rfl 0 rfl ?_
      refine q_iload_n (pc := 56) (dq D_m_paces_0_ok 30 rfl) rfl 2 rfl ?_
      refine q_iload_n (pc := 57) (dq D_m_paces_0_ok 31 rfl) rfl 2 rfl ?_
      refine r_invI (Mc := M_m_nextOf) (pc := 58) (ci := 11) (rest := []) 3 2 [.int v2, .int v2] (dq D_m_paces_0_ok 32 rfl) rfl rfl lc_m_nextOf lv_m_nextOf_ ml_m_406 rfl rfl rfl rfl (t_m_nextOf v0 v2 v2 h6) (fun r8 h7 => ?_)
      refine q_istore (pc := 61) (ls' := [(6, .int r8), (0, .ref v0), (1, .int v1), (2, .int v2), (3, .int v3), (4, .int v4), (5, .int v5)]) (dq D_m_paces_0_ok 33 rfl) rfl rfl ?_
      refine q_iload (pc := 63) (dq D_m_paces_0_ok 34 rfl) 0 rfl ?_
      refine q_bipush (pc := 65) (v := (-2)) (dq D_m_paces_0_ok 35 rfl) (by decide) ?_
      refine q_ic_eq (pc := 67) 97 (dq D_m_paces_0_ok 36 rfl) rfl ?_ ?_
      · exact T.lsub [1, 2, 3, 4, 5, 6] rfl (tb_m_paces_97 hk23 v0 v1 v2 v3 v4 v5 h7)
      · refine q_iload (pc := 70) (dq D_m_paces_0_ok 37 rfl) 5 rfl ?_
        refine q_bipush (pc := 72) (v := (-2)) (dq D_m_paces_0_ok 38 rfl) (by decide) ?_
        refine q_ic_eq (pc := 74) 87 (dq D_m_paces_0_ok 39 rfl) rfl ?_ ?_
        · exact T.lsub [1, 2, 3, 4, 6, 0] rfl (tb_m_paces_87 hk23 v0 v1 v2 v3 v5 r8 h7)
        · refine q_iload (pc := 77) (dq D_m_paces_0_ok 40 rfl) 0 rfl ?_
          refine q_iload (pc := 79) (dq D_m_paces_0_ok 41 rfl) 5 rfl ?_
          refine q_ic_lt (pc := 81) 87 (dq D_m_paces_0_ok 42 rfl) rfl ?_ ?_
          · exact T.lsub [1, 2, 3, 4, 6, 0] rfl (tb_m_paces_87 hk23 v0 v1 v2 v3 v5 r8 h7)
          · refine q_goto (pc := 84) 97 (dq D_m_paces_0_ok 43 rfl) rfl ?_
            exact T.lsub [1, 2, 3, 4, 5, 6] rfl (tb_m_paces_97 hk23 v0 v1 v2 v3 v4 v5 h7)
noncomputable def l_m_paces_23 : Nat → (Nat × Int32 × Int32 × Int32 × Int32 × Int32) → Hp → Option (Int32 × Hp) := lp (fun k23 s h => b_m_paces_23 k23 s.1 s.2.1 s.2.2.1 s.2.2.2.1 s.2.2.2.2.1 s.2.2.2.2.2 h)
set_option maxHeartbeats 4000000 in
set_option maxRecDepth 20000 in
theorem tl_m_paces_23 {G : GG} (n : Nat) (s : Nat × Int32 × Int32 × Int32 × Int32 × Int32) (h : Hp) : T G M_m_paces 4 cI 23 [(0, .ref s.1), (1, .int s.2.1), (2, .int s.2.2.1), (3, .int s.2.2.2.1), (4, .int s.2.2.2.2.1), (5, .int s.2.2.2.2.2)] [] h (l_m_paces_23 n s h) :=
  T.loop (lsOf := fun s => [(0, .ref s.1), (1, .int s.2.1), (2, .int s.2.2.1), (3, .int s.2.2.2.1), (4, .int s.2.2.2.2.1), (5, .int s.2.2.2.2.2)]) (fun k23 hk23 s h => tb_m_paces_23 hk23 s.1 s.2.1 s.2.2.1 s.2.2.2.1 s.2.2.2.2.1 s.2.2.2.2.2 h) n s h
noncomputable def f_m_paces (v0 : Nat) (v1 : Int32) (v2 : Int32) (h : Hp) : Option (Int32 × Hp) := gd (hS h v0 = some (.inl 11)) (bR (hR h v0 3) fun x1 => gd (hS h x1 = some (.inl 12)) (bR (hR h x1 12) fun x2 => gd (ai h x2 0 v1) (lt (hI h x2 v1.toNatClampNeg) fun x3 => lt ((-2) : Int32) fun y4 => gd (hS h v0 = some (.inl 11)) (lt (uI h v0 23 ((-2))) fun h5 => lt (1 : Int32) fun y6 => l_m_paces_23 FU (v0, v1, v2, x3, y4, y6) h5))))
set_option maxHeartbeats 4000000 in
set_option maxRecDepth 20000 in
theorem t_m_paces {G : GG} (v0 : Nat) (v1 : Int32) (v2 : Int32) (h : Hp) : Mt G M_m_paces 4 [.ref v0, .int v1, .int v2] cI h (f_m_paces v0 v1 v2 h) := by
  refine Mt.ofF (by decide +kernel) rfl (Rt.i rfl rfl) ?_
  show T G M_m_paces 4 cI 0 [(0, .ref v0), (1, .int v1), (2, .int v2)] [] h _
  unfold f_m_paces
  refine q_aload_n (pc := 0) (dq D_m_paces_0_ok 0 rfl) rfl 0 rfl ?_
  refine q_getR (pc := 1) (dq D_m_paces_0_ok 1 rfl) fa_m_348 rfl (fun x1 => ?_)
  refine q_getR (pc := 4) (dq D_m_paces_0_ok 2 rfl) fa_m_271 rfl (fun x2 => ?_)
  refine q_iload_n (pc := 7) (dq D_m_paces_0_ok 3 rfl) rfl 1 rfl ?_
  refine r_iald (pc := 8) (dq D_m_paces_0_ok 4 rfl) (fun x3 => ?_)
  refine q_istore_n (pc := 9) (ls' := [(3, .int x3), (0, .ref v0), (1, .int v1), (2, .int v2)]) (dq D_m_paces_0_ok 5 rfl) rfl rfl rfl ?_
  refine q_bipush (pc := 10) (v := (-2)) (dq D_m_paces_0_ok 6 rfl) (by decide) ?_
  refine r_nmI (fun y4 => ?_)
  refine q_istore (pc := 12) (ls' := [(4, .int y4), (3, .int x3), (0, .ref v0), (1, .int v1), (2, .int v2)]) (dq D_m_paces_0_ok 7 rfl) rfl rfl ?_
  refine q_aload_n (pc := 14) (dq D_m_paces_0_ok 8 rfl) rfl 2 rfl ?_
  refine q_bipush (pc := 15) (v := (-2)) (dq D_m_paces_0_ok 9 rfl) (by decide) ?_
  refine r_putI (pc := 17) (dq D_m_paces_0_ok 10 rfl) fp_m_416 rfl rfl (fun h5 => ?_)
  refine q_ic1 (pc := 20) (dq D_m_paces_0_ok 11 rfl) ?_
  refine r_nmI (fun y6 => ?_)
  refine q_istore (pc := 21) (ls' := [(5, .int y6), (4, .int y4), (3, .int x3), (0, .ref v0), (1, .int v1), (2, .int v2)]) (dq D_m_paces_0_ok 12 rfl) rfl rfl ?_
  exact T.lsub [3, 4, 5, 2, 1, 0] rfl (tl_m_paces_23 FU (v0, v1, v2, x3, y4, y6) h5)
noncomputable def f_m_byFor (v0 : Nat) (v1 : Int32) (v2 : Int32) (h : Hp) : Option (Int32 × Hp) := gd (hS h v0 = some (.inl 11)) (lt (uI h v0 0 0) fun h1 => gd (hS h1 v0 = some (.inl 11)) (bd (f_m_isOf v0 v1 v2 h1) fun r3 h2 => if r3 = 0 then (gd (hS h2 v0 = some (.inl 11)) (bd (f_m_refused v0 (1 : Int32) h2) fun r10 h9 => some (r10, h9))) else (gd (hS h2 v0 = some (.inl 11)) (bd (f_m_paces v0 v1 v2 h2) fun r5 h4 => gd (hS h4 v0 = some (.inl 11)) (lt (hI h4 v0 23) fun x6 => gd (hS h4 v0 = some (.inl 11)) (bd (f_m_good v0 x6 h4) fun r8 h7 => some (r8, h7)))))))
set_option maxHeartbeats 4000000 in
set_option maxRecDepth 20000 in
theorem t_m_byFor {G : GG} (v0 : Nat) (v1 : Int32) (v2 : Int32) (h : Hp) : Mt G M_m_byFor 5 [.ref v0, .int v1, .int v2] cI h (f_m_byFor v0 v1 v2 h) := by
  refine Mt.ofF (by decide +kernel) rfl (Rt.i rfl rfl) ?_
  show T G M_m_byFor 5 cI 0 [(0, .ref v0), (1, .int v1), (2, .int v2)] [] h _
  unfold f_m_byFor
  refine q_aload_n (pc := 0) (dq D_m_byFor_0_ok 0 rfl) rfl 0 rfl ?_
  refine q_ic0 (pc := 1) (dq D_m_byFor_0_ok 1 rfl) ?_
  refine r_putI (pc := 2) (dq D_m_byFor_0_ok 2 rfl) fp_m_54 rfl rfl (fun h1 => ?_)
  refine q_aload_n (pc := 5) (dq D_m_byFor_0_ok 3 rfl) rfl 0 rfl ?_
  refine q_iload_n (pc := 6) (dq D_m_byFor_0_ok 4 rfl) rfl 1 rfl ?_
  refine q_iload_n (pc := 7) (dq D_m_byFor_0_ok 5 rfl) rfl 2 rfl ?_
  refine r_invI (Mc := M_m_isOf) (pc := 8) (ci := 11) (rest := []) 1 2 [.int v1, .int v2] (dq D_m_byFor_0_ok 6 rfl) rfl rfl lc_m_isOf lv_m_isOf_ ml_m_409 rfl rfl rfl rfl (t_m_isOf v0 v1 v2 h1) (fun r3 h2 => ?_)
  refine p_if_ne (pc := 11) 20 (dq D_m_byFor_0_ok 7 rfl) rfl ?_ ?_
  · refine q_aload_n (pc := 20) (dq D_m_byFor_0_ok 12 rfl) rfl 0 rfl ?_
    refine q_iload_n (pc := 21) (dq D_m_byFor_0_ok 13 rfl) rfl 1 rfl ?_
    refine q_iload_n (pc := 22) (dq D_m_byFor_0_ok 14 rfl) rfl 2 rfl ?_
    refine r_invI (Mc := M_m_paces) (pc := 23) (ci := 11) (rest := []) 4 2 [.int v1, .int v2] (dq D_m_byFor_0_ok 15 rfl) rfl rfl lc_m_paces lv_m_paces_ ml_m_419 rfl rfl rfl rfl (t_m_paces v0 v1 v2 h2) (fun r5 h4 => ?_)
    refine q_pop (pc := 26) (dq D_m_byFor_0_ok 16 rfl) rfl ?_
    refine q_aload_n (pc := 27) (dq D_m_byFor_0_ok 17 rfl) rfl 0 rfl ?_
    refine q_aload_n (pc := 28) (dq D_m_byFor_0_ok 18 rfl) rfl 0 rfl ?_
    refine r_getI (pc := 29) (dq D_m_byFor_0_ok 19 rfl) fa_m_416 rfl (fun x6 => ?_)
    refine r_invI (Mc := M_m_good) (pc := 32) (ci := 11) (rest := []) 0 1 [.int x6] (dq D_m_byFor_0_ok 20 rfl) rfl rfl lc_m_good lv_m_good_ ml_m_64 rfl rfl rfl rfl (t_m_good v0 x6 h4) (fun r8 h7 => ?_)
    exact r_reti (pc := 35) (dq D_m_byFor_0_ok 21 rfl) rfl
  · refine q_aload_n (pc := 14) (dq D_m_byFor_0_ok 8 rfl) rfl 0 rfl ?_
    refine q_ic1 (pc := 15) (dq D_m_byFor_0_ok 9 rfl) ?_
    refine r_invI (Mc := M_m_refused) (pc := 16) (ci := 11) (rest := []) 0 1 [.int 1] (dq D_m_byFor_0_ok 10 rfl) rfl rfl lc_m_refused lv_m_refused_ ml_m_60 rfl rfl rfl rfl (t_m_refused v0 (1 : Int32) h2) (fun r10 h9 => ?_)
    exact r_reti (pc := 19) (dq D_m_byFor_0_ok 11 rfl) rfl
noncomputable def f_m_byIn (v0 : Nat) (v1 : Int32) (v2 : Int32) (h : Hp) : Option (Int32 × Hp) := gd (hS h v0 = some (.inl 11)) (lt (uI h v0 0 0) fun h1 => gd (hS h1 v0 = some (.inl 11)) (bd (f_m_isOf v0 v1 v2 h1) fun r3 h2 => if r3 = 0 then (gd (hS h2 v0 = some (.inl 11)) (bd (f_m_refused v0 (1 : Int32) h2) fun r5 h4 => some (r5, h4))) else (gd (hS h2 v0 = some (.inl 11)) (bd (f_m_paces v0 v1 v2 h2) fun r7 h6 => gd (hS h6 v0 = some (.inl 11)) (bd (f_m_good v0 r7 h6) fun r9 h8 => some (r9, h8))))))
set_option maxHeartbeats 4000000 in
set_option maxRecDepth 20000 in
theorem t_m_byIn {G : GG} (v0 : Nat) (v1 : Int32) (v2 : Int32) (h : Hp) : Mt G M_m_byIn 5 [.ref v0, .int v1, .int v2] cI h (f_m_byIn v0 v1 v2 h) := by
  refine Mt.ofF (by decide +kernel) rfl (Rt.i rfl rfl) ?_
  show T G M_m_byIn 5 cI 0 [(0, .ref v0), (1, .int v1), (2, .int v2)] [] h _
  unfold f_m_byIn
  refine q_aload_n (pc := 0) (dq D_m_byIn_0_ok 0 rfl) rfl 0 rfl ?_
  refine q_ic0 (pc := 1) (dq D_m_byIn_0_ok 1 rfl) ?_
  refine r_putI (pc := 2) (dq D_m_byIn_0_ok 2 rfl) fp_m_54 rfl rfl (fun h1 => ?_)
  refine q_aload_n (pc := 5) (dq D_m_byIn_0_ok 3 rfl) rfl 0 rfl ?_
  refine q_iload_n (pc := 6) (dq D_m_byIn_0_ok 4 rfl) rfl 1 rfl ?_
  refine q_iload_n (pc := 7) (dq D_m_byIn_0_ok 5 rfl) rfl 2 rfl ?_
  refine r_invI (Mc := M_m_isOf) (pc := 8) (ci := 11) (rest := []) 1 2 [.int v1, .int v2] (dq D_m_byIn_0_ok 6 rfl) rfl rfl lc_m_isOf lv_m_isOf_ ml_m_409 rfl rfl rfl rfl (t_m_isOf v0 v1 v2 h1) (fun r3 h2 => ?_)
  refine p_if_eq (pc := 11) 27 (dq D_m_byIn_0_ok 7 rfl) rfl ?_ ?_
  · refine q_aload_n (pc := 27) (dq D_m_byIn_0_ok 15 rfl) rfl 0 rfl ?_
    refine q_ic1 (pc := 28) (dq D_m_byIn_0_ok 16 rfl) ?_
    refine r_invI (Mc := M_m_refused) (pc := 29) (ci := 11) (rest := []) 0 1 [.int 1] (dq D_m_byIn_0_ok 17 rfl) rfl rfl lc_m_refused lv_m_refused_ ml_m_60 rfl rfl rfl rfl (t_m_refused v0 (1 : Int32) h2) (fun r5 h4 => ?_)
    exact r_reti (pc := 32) (dq D_m_byIn_0_ok 18 rfl) rfl
  · refine q_aload_n (pc := 14) (dq D_m_byIn_0_ok 8 rfl) rfl 0 rfl ?_
    refine q_aload_n (pc := 15) (dq D_m_byIn_0_ok 9 rfl) rfl 0 rfl ?_
    refine q_iload_n (pc := 16) (dq D_m_byIn_0_ok 10 rfl) rfl 1 rfl ?_
    refine q_iload_n (pc := 17) (dq D_m_byIn_0_ok 11 rfl) rfl 2 rfl ?_
    refine r_invI (Mc := M_m_paces) (pc := 18) (ci := 11) (rest := [.ref v0]) 4 2 [.int v1, .int v2] (dq D_m_byIn_0_ok 12 rfl) rfl rfl lc_m_paces lv_m_paces_ ml_m_419 rfl rfl rfl rfl (t_m_paces v0 v1 v2 h2) (fun r7 h6 => ?_)
    refine r_invI (Mc := M_m_good) (pc := 21) (ci := 11) (rest := []) 0 1 [.int r7] (dq D_m_byIn_0_ok 13 rfl) rfl rfl lc_m_good lv_m_good_ ml_m_64 rfl rfl rfl rfl (t_m_good v0 r7 h6) (fun r9 h8 => ?_)
    refine q_goto (pc := 24) 32 (dq D_m_byIn_0_ok 14 rfl) rfl ?_
    exact r_reti (pc := 32) (dq D_m_byIn_0_ok 18 rfl) rfl
noncomputable def b_m_settings_125 (k36 : (Nat × Int32 × Int32 × Int32 × Int32) → Hp → Option (Int32 × Hp)) (v0 : Nat) (v1 : Int32) (v2 : Int32) (v4 : Int32) (v5 : Int32) (h : Hp) : Option (Int32 × Hp) := k36 (v0, v1, v2, v4, v5 + 1) h
set_option maxHeartbeats 4000000 in
set_option maxRecDepth 20000 in
theorem tb_m_settings_125 {G : GG} {k36 : (Nat × Int32 × Int32 × Int32 × Int32) → Hp → Option (Int32 × Hp)} (hk36 : ∀ s h, T G M_m_settings 4 cI 36 [(0, .ref s.1), (1, .int s.2.1), (2, .int s.2.2.1), (4, .int s.2.2.2.1), (5, .int s.2.2.2.2)] [] h (k36 s h)) (v0 : Nat) (v1 : Int32) (v2 : Int32) (v4 : Int32) (v5 : Int32) (h : Hp) : T G M_m_settings 4 cI 125 [(0, .ref v0), (1, .int v1), (2, .int v2), (4, .int v4), (5, .int v5)] [] h (b_m_settings_125 k36 v0 v1 v2 v4 v5 h) := by
  unfold b_m_settings_125
  refine q_iinc (pc := 125) (v := (1)) (ls' := [(5, .int (v5 + 1)), (0, .ref v0), (1, .int v1), (2, .int v2), (4, .int v4)]) (dq D_m_settings_1_ok 6 rfl) 4 rfl (by decide) rfl rfl ?_
  refine q_goto (pc := 128) 36 (dq D_m_settings_1_ok 7 rfl) rfl ?_
  exact T.lsub [1, 2, 3, 4, 0] rfl (hk36 (v0, v1, v2, v4, v5 + 1) h)
noncomputable def b_m_settings_109 (k36 : (Nat × Int32 × Int32 × Int32 × Int32) → Hp → Option (Int32 × Hp)) (k74 : (Nat × Int32 × Int32 × Int32 × Int32 × Int32 × Int32) → Hp → Option (Int32 × Hp)) (v0 : Nat) (v1 : Int32) (v2 : Int32) (v4 : Int32) (v5 : Int32) (v7 : Int32) (s0 : Int32) (s1 : Int32) (h : Hp) : Option (Int32 × Hp) := lt (s1 + s0 : Int32) fun y1 => k74 (v0, v1, v2, v4, v5, y1, v7 + 1) h
set_option maxHeartbeats 4000000 in
set_option maxRecDepth 20000 in
theorem tb_m_settings_109 {G : GG} {k36 : (Nat × Int32 × Int32 × Int32 × Int32) → Hp → Option (Int32 × Hp)} (hk36 : ∀ s h, T G M_m_settings 4 cI 36 [(0, .ref s.1), (1, .int s.2.1), (2, .int s.2.2.1), (4, .int s.2.2.2.1), (5, .int s.2.2.2.2)] [] h (k36 s h)) {k74 : (Nat × Int32 × Int32 × Int32 × Int32 × Int32 × Int32) → Hp → Option (Int32 × Hp)} (hk74 : ∀ s h, T G M_m_settings 4 cI 74 [(0, .ref s.1), (1, .int s.2.1), (2, .int s.2.2.1), (4, .int s.2.2.2.1), (5, .int s.2.2.2.2.1), (6, .int s.2.2.2.2.2.1), (7, .int s.2.2.2.2.2.2)] [] h (k74 s h)) (v0 : Nat) (v1 : Int32) (v2 : Int32) (v4 : Int32) (v5 : Int32) (v7 : Int32) (s0 : Int32) (s1 : Int32) (h : Hp) : T G M_m_settings 4 cI 109 [(0, .ref v0), (1, .int v1), (2, .int v2), (4, .int v4), (5, .int v5), (7, .int v7)] [.int s0, .int s1] h (b_m_settings_109 k36 k74 v0 v1 v2 v4 v5 v7 s0 s1 h) := by
  unfold b_m_settings_109
  refine q_iadd (pc := 109) (dq D_m_settings_0_ok 58 rfl) ?_
  refine r_nmI (fun y1 => ?_)
  refine q_istore (pc := 110) (ls' := [(6, .int y1), (0, .ref v0), (1, .int v1), (2, .int v2), (4, .int v4), (5, .int v5), (7, .int v7)]) (dq D_m_settings_0_ok 59 rfl) rfl rfl ?_
  refine q_iinc (pc := 112) (v := (1)) (ls' := [(7, .int (v7 + 1)), (6, .int y1), (0, .ref v0), (1, .int v1), (2, .int v2), (4, .int v4), (5, .int v5)]) (dq D_m_settings_1_ok 0 rfl) 6 rfl (by decide) rfl rfl ?_
  refine q_goto (pc := 115) 74 (dq D_m_settings_1_ok 1 rfl) rfl ?_
  exact T.lsub [2, 3, 4, 5, 6, 1, 0] rfl (hk74 (v0, v1, v2, v4, v5, y1, v7 + 1) h)
noncomputable def b_m_settings_74 (k36 : (Nat × Int32 × Int32 × Int32 × Int32) → Hp → Option (Int32 × Hp)) (k74 : (Nat × Int32 × Int32 × Int32 × Int32 × Int32 × Int32) → Hp → Option (Int32 × Hp)) (v0 : Nat) (v1 : Int32) (v2 : Int32) (v4 : Int32) (v5 : Int32) (v6 : Int32) (v7 : Int32) (h : Hp) : Option (Int32 × Hp) := gd (hS h v0 = some (.inl 11)) (bR (hR h v0 3) fun x1 => gd (hS h x1 = some (.inl 12)) (bR (hR h x1 11) fun x2 => gd (ai h x2 0 v5) (lt (hI h x2 v5.toNatClampNeg) fun x3 => if x3 ≤ v7 then (lt (v4 * v6 : Int32) fun y4 => b_m_settings_125 k36 v0 v1 v2 y4 v5 h) else (gd (hS h v0 = some (.inl 11)) (bd (f_m_leadsTo v0 v5 v1 v7 v2 h) fun r6 h5 => if r6 = 0 then (b_m_settings_109 k36 k74 v0 v1 v2 v4 v5 v7 0 v6 h5) else (b_m_settings_109 k36 k74 v0 v1 v2 v4 v5 v7 1 v6 h5))))))
set_option maxHeartbeats 4000000 in
set_option maxRecDepth 20000 in
theorem tb_m_settings_74 {G : GG} {k36 : (Nat × Int32 × Int32 × Int32 × Int32) → Hp → Option (Int32 × Hp)} (hk36 : ∀ s h, T G M_m_settings 4 cI 36 [(0, .ref s.1), (1, .int s.2.1), (2, .int s.2.2.1), (4, .int s.2.2.2.1), (5, .int s.2.2.2.2)] [] h (k36 s h)) {k74 : (Nat × Int32 × Int32 × Int32 × Int32 × Int32 × Int32) → Hp → Option (Int32 × Hp)} (hk74 : ∀ s h, T G M_m_settings 4 cI 74 [(0, .ref s.1), (1, .int s.2.1), (2, .int s.2.2.1), (4, .int s.2.2.2.1), (5, .int s.2.2.2.2.1), (6, .int s.2.2.2.2.2.1), (7, .int s.2.2.2.2.2.2)] [] h (k74 s h)) (v0 : Nat) (v1 : Int32) (v2 : Int32) (v4 : Int32) (v5 : Int32) (v6 : Int32) (v7 : Int32) (h : Hp) : T G M_m_settings 4 cI 74 [(0, .ref v0), (1, .int v1), (2, .int v2), (4, .int v4), (5, .int v5), (6, .int v6), (7, .int v7)] [] h (b_m_settings_74 k36 k74 v0 v1 v2 v4 v5 v6 v7 h) := by
  unfold b_m_settings_74
  refine q_iload (pc := 74) (dq D_m_settings_0_ok 40 rfl) 6 rfl ?_
  refine q_aload_n (pc := 76) (dq D_m_settings_0_ok 41 rfl) rfl 0 rfl ?_
  refine q_getR (pc := 77) (dq D_m_settings_0_ok 42 rfl) fa_m_348 rfl (fun x1 => ?_)
  refine q_getR (pc := 80) (dq D_m_settings_0_ok 43 rfl) fa_m_269 rfl (fun x2 => ?_)
  refine q_iload (pc := 83) (dq D_m_settings_0_ok 44 rfl) 4 rfl ?_
  refine r_iald (pc := 85) (dq D_m_settings_0_ok 45 rfl) (fun x3 => ?_)
  refine q_ic_ge (pc := 86) 118 (dq D_m_settings_0_ok 46 rfl) rfl ?_ ?_
  · refine q_iload (pc := 118) (dq D_m_settings_1_ok 2 rfl) 3 rfl ?_
    refine q_iload (pc := 120) (dq D_m_settings_1_ok 3 rfl) 5 rfl ?_
    refine q_imul (pc := 122) (dq D_m_settings_1_ok 4 rfl) ?_
    refine r_nmI (fun y4 => ?_)
    refine q_istore (pc := 123) (ls' := [(4, .int y4), (0, .ref v0), (1, .int v1), (2, .int v2), (5, .int v5), (6, .int v6), (7, .int v7)]) (dq D_m_settings_1_ok 5 rfl) rfl rfl ?_
    exact T.lsub [1, 2, 3, 0, 4] rfl (tb_m_settings_125 hk36 v0 v1 v2 y4 v5 h)
  · refine q_iload (pc := 89) (dq D_m_settings_0_ok 47 rfl) 5 rfl ?_
    refine q_aload_n (pc := 91) (dq D_m_settings_0_ok 48 rfl) rfl 0 rfl ?_
    refine q_iload (pc := 92) (dq D_m_settings_0_ok 49 rfl) 4 rfl ?_
    refine q_iload_n (pc := 94) (dq D_m_settings_0_ok 50 rfl) rfl 1 rfl ?_
    refine q_iload (pc := 95) (dq D_m_settings_0_ok 51 rfl) 6 rfl ?_
    refine q_iload_n (pc := 97) (dq D_m_settings_0_ok 52 rfl) rfl 2 rfl ?_
    refine r_invI (Mc := M_m_leadsTo) (pc := 98) (ci := 11) (rest := [.int v6]) 3 4 [.int v5, .int v1, .int v7, .int v2] (dq D_m_settings_0_ok 53 rfl) rfl rfl lc_m_leadsTo lv_m_leadsTo_ ml_m_412 rfl rfl rfl rfl (t_m_leadsTo v0 v5 v1 v7 v2 h) (fun r6 h5 => ?_)
    refine p_if_eq (pc := 101) 108 (dq D_m_settings_0_ok 54 rfl) rfl ?_ ?_
    · refine q_ic0 (pc := 108) (dq D_m_settings_0_ok 57 rfl) ?_
      exact T.lsub [0, 1, 2, 3, 4, 6] rfl (tb_m_settings_109 hk36 hk74 v0 v1 v2 v4 v5 v7 0 v6 h5)
    · refine q_ic1 (pc := 104) (dq D_m_settings_0_ok 55 rfl) ?_
      refine q_goto (pc := 105) 109 (dq D_m_settings_0_ok 56 rfl) rfl ?_
      exact T.lsub [0, 1, 2, 3, 4, 6] rfl (tb_m_settings_109 hk36 hk74 v0 v1 v2 v4 v5 v7 1 v6 h5)
noncomputable def l_m_settings_74 (k36 : (Nat × Int32 × Int32 × Int32 × Int32) → Hp → Option (Int32 × Hp)) : Nat → (Nat × Int32 × Int32 × Int32 × Int32 × Int32 × Int32) → Hp → Option (Int32 × Hp) := lp (fun k74 s h => b_m_settings_74 k36 k74 s.1 s.2.1 s.2.2.1 s.2.2.2.1 s.2.2.2.2.1 s.2.2.2.2.2.1 s.2.2.2.2.2.2 h)
set_option maxHeartbeats 4000000 in
set_option maxRecDepth 20000 in
theorem tl_m_settings_74 {G : GG} {k36 : (Nat × Int32 × Int32 × Int32 × Int32) → Hp → Option (Int32 × Hp)} (hk36 : ∀ s h, T G M_m_settings 4 cI 36 [(0, .ref s.1), (1, .int s.2.1), (2, .int s.2.2.1), (4, .int s.2.2.2.1), (5, .int s.2.2.2.2)] [] h (k36 s h)) (n : Nat) (s : Nat × Int32 × Int32 × Int32 × Int32 × Int32 × Int32) (h : Hp) : T G M_m_settings 4 cI 74 [(0, .ref s.1), (1, .int s.2.1), (2, .int s.2.2.1), (4, .int s.2.2.2.1), (5, .int s.2.2.2.2.1), (6, .int s.2.2.2.2.2.1), (7, .int s.2.2.2.2.2.2)] [] h (l_m_settings_74 k36 n s h) :=
  T.loop (lsOf := fun s => [(0, .ref s.1), (1, .int s.2.1), (2, .int s.2.2.1), (4, .int s.2.2.2.1), (5, .int s.2.2.2.2.1), (6, .int s.2.2.2.2.2.1), (7, .int s.2.2.2.2.2.2)]) (fun k74 hk74 s h => tb_m_settings_74 hk36 hk74 s.1 s.2.1 s.2.2.1 s.2.2.2.1 s.2.2.2.2.1 s.2.2.2.2.2.1 s.2.2.2.2.2.2 h) n s h
noncomputable def b_m_settings_36 (k36 : (Nat × Int32 × Int32 × Int32 × Int32) → Hp → Option (Int32 × Hp)) (v0 : Nat) (v1 : Int32) (v2 : Int32) (v4 : Int32) (v5 : Int32) (h : Hp) : Option (Int32 × Hp) := gd (hS h v0 = some (.inl 11)) (bR (hR h v0 3) fun x1 => gd (hS h x1 = some (.inl 12)) (lt (hI h x1 2) fun x2 => if x2 ≤ v5 then (gd (hS h v0 = some (.inl 11)) (bd (f_m_good v0 v4 h) fun r4 h3 => some (r4, h3))) else (gd (hS h v0 = some (.inl 11)) (bR (hR h v0 3) fun x5 => gd (hS h x5 = some (.inl 12)) (bR (hR h x5 16) fun x6 => gd (ai h x6 0 v1) (lt (hI h x6 v1.toNatClampNeg) fun x7 => bd (f_m_bit x7 v5 h) fun r9 h8 => if r9 = 0 then (b_m_settings_125 k36 v0 v1 v2 v4 v5 h8) else (lt (0 : Int32) fun y10 => lt (0 : Int32) fun y11 => l_m_settings_74 k36 FU (v0, v1, v2, v4, v5, y10, y11) h8)))))))
set_option maxHeartbeats 4000000 in
set_option maxRecDepth 20000 in
theorem tb_m_settings_36 {G : GG} {k36 : (Nat × Int32 × Int32 × Int32 × Int32) → Hp → Option (Int32 × Hp)} (hk36 : ∀ s h, T G M_m_settings 4 cI 36 [(0, .ref s.1), (1, .int s.2.1), (2, .int s.2.2.1), (4, .int s.2.2.2.1), (5, .int s.2.2.2.2)] [] h (k36 s h)) (v0 : Nat) (v1 : Int32) (v2 : Int32) (v4 : Int32) (v5 : Int32) (h : Hp) : T G M_m_settings 4 cI 36 [(0, .ref v0), (1, .int v1), (2, .int v2), (4, .int v4), (5, .int v5)] [] h (b_m_settings_36 k36 v0 v1 v2 v4 v5 h) := by
  unfold b_m_settings_36
  refine q_iload (pc := 36) (dq D_m_settings_0_ok 22 rfl) 4 rfl ?_
  refine q_aload_n (pc := 38) (dq D_m_settings_0_ok 23 rfl) rfl 0 rfl ?_
  refine q_getR (pc := 39) (dq D_m_settings_0_ok 24 rfl) fa_m_348 rfl (fun x1 => ?_)
  refine r_getI (pc := 42) (dq D_m_settings_0_ok 25 rfl) fa_m_205 rfl (fun x2 => ?_)
  refine q_ic_ge (pc := 45) 131 (dq D_m_settings_0_ok 26 rfl) rfl ?_ ?_
  · refine q_aload_n (pc := 131) (dq D_m_settings_1_ok 8 rfl) rfl 0 rfl ?_
    refine q_iload (pc := 132) (dq D_m_settings_1_ok 9 rfl) 3 rfl ?_
    refine r_invI (Mc := M_m_good) (pc := 134) (ci := 11) (rest := []) 0 1 [.int v4] (dq D_m_settings_1_ok 10 rfl) rfl rfl lc_m_good lv_m_good_ ml_m_64 rfl rfl rfl rfl (t_m_good v0 v4 h) (fun r4 h3 => ?_)
    exact r_reti (pc := 137) (dq D_m_settings_1_ok 11 rfl) rfl
  · refine q_aload_n (pc := 48) (dq D_m_settings_0_ok 27 rfl) rfl 0 rfl ?_
    refine q_getR (pc := 49) (dq D_m_settings_0_ok 28 rfl) fa_m_348 rfl (fun x5 => ?_)
    refine q_getR (pc := 52) (dq D_m_settings_0_ok 29 rfl) fa_m_297 rfl (fun x6 => ?_)
    refine q_iload_n (pc := 55) (dq D_m_settings_0_ok 30 rfl) rfl 1 rfl ?_
    refine r_iald (pc := 56) (dq D_m_settings_0_ok 31 rfl) (fun x7 => ?_)
    refine q_iload (pc := 57) (dq D_m_settings_0_ok 32 rfl) 4 rfl ?_
    refine r_insI (Mc := M_m_bit) (pc := 59) (rest := []) 0 2 [.int x7, .int v5] (dq D_m_settings_0_ok 33 rfl) lc_m_bit ls_m_bit ml_m_292 rfl rfl rfl rfl (t_m_bit x7 v5 h) (fun r9 h8 => ?_)
    refine p_if_ne (pc := 62) 68 (dq D_m_settings_0_ok 34 rfl) rfl ?_ ?_
    · refine q_ic0 (pc := 68) (dq D_m_settings_0_ok 36 rfl) ?_
      refine r_nmI (fun y10 => ?_)
      refine q_istore (pc := 69) (ls' := [(6, .int y10), (0, .ref v0), (1, .int v1), (2, .int v2), (4, .int v4), (5, .int v5)]) (dq D_m_settings_0_ok 37 rfl) rfl rfl ?_
      refine q_ic0 (pc := 71) (dq D_m_settings_0_ok 38 rfl) ?_
      refine r_nmI (fun y11 => ?_)
      refine q_istore (pc := 72) (ls' := [(7, .int y11), (6, .int y10), (0, .ref v0), (1, .int v1), (2, .int v2), (4, .int v4), (5, .int v5)]) (dq D_m_settings_0_ok 39 rfl) rfl rfl ?_
      exact T.lsub [2, 3, 4, 5, 6, 1, 0] rfl (tl_m_settings_74 hk36 FU (v0, v1, v2, v4, v5, y10, y11) h8)
    · refine q_goto (pc := 65) 125 (dq D_m_settings_0_ok 35 rfl) rfl ?_
      exact T.lsub [0, 1, 2, 3, 4] rfl (tb_m_settings_125 hk36 v0 v1 v2 v4 v5 h8)
noncomputable def l_m_settings_36 : Nat → (Nat × Int32 × Int32 × Int32 × Int32) → Hp → Option (Int32 × Hp) := lp (fun k36 s h => b_m_settings_36 k36 s.1 s.2.1 s.2.2.1 s.2.2.2.1 s.2.2.2.2 h)
set_option maxHeartbeats 4000000 in
set_option maxRecDepth 20000 in
theorem tl_m_settings_36 {G : GG} (n : Nat) (s : Nat × Int32 × Int32 × Int32 × Int32) (h : Hp) : T G M_m_settings 4 cI 36 [(0, .ref s.1), (1, .int s.2.1), (2, .int s.2.2.1), (4, .int s.2.2.2.1), (5, .int s.2.2.2.2)] [] h (l_m_settings_36 n s h) :=
  T.loop (lsOf := fun s => [(0, .ref s.1), (1, .int s.2.1), (2, .int s.2.2.1), (4, .int s.2.2.2.1), (5, .int s.2.2.2.2)]) (fun k36 hk36 s h => tb_m_settings_36 hk36 s.1 s.2.1 s.2.2.1 s.2.2.2.1 s.2.2.2.2 h) n s h
noncomputable def f_m_settings (v0 : Nat) (v1 : Int32) (v2 : Int32) (h : Hp) : Option (Int32 × Hp) := gd (hS h v0 = some (.inl 11)) (lt (uI h v0 0 0) fun h1 => gd (hS h1 v0 = some (.inl 11)) (bd (f_m_isFeast v0 v1 h1) fun r3 h2 => gd (hS h2 v0 = some (.inl 11)) (bd (f_m_refusesDays v0 r3 v2 (1 : Int32) (5000 : Int32) h2) fun r5 h4 => if r5 ≤ 0 then (lt (1 : Int32) fun y6 => lt (0 : Int32) fun y7 => l_m_settings_36 FU (v0, v1, v2, y6, y7) h4) else (gd (hS h4 v0 = some (.inl 11)) (bd (f_m_refused v0 r5 h4) fun r9 h8 => some (r9, h8))))))
set_option maxHeartbeats 4000000 in
set_option maxRecDepth 20000 in
theorem t_m_settings {G : GG} (v0 : Nat) (v1 : Int32) (v2 : Int32) (h : Hp) : Mt G M_m_settings 4 [.ref v0, .int v1, .int v2] cI h (f_m_settings v0 v1 v2 h) := by
  refine Mt.ofF (by decide +kernel) rfl (Rt.i rfl rfl) ?_
  show T G M_m_settings 4 cI 0 [(0, .ref v0), (1, .int v1), (2, .int v2)] [] h _
  unfold f_m_settings
  refine q_aload_n (pc := 0) (dq D_m_settings_0_ok 0 rfl) rfl 0 rfl ?_
  refine q_ic0 (pc := 1) (dq D_m_settings_0_ok 1 rfl) ?_
  refine r_putI (pc := 2) (dq D_m_settings_0_ok 2 rfl) fp_m_54 rfl rfl (fun h1 => ?_)
  refine q_aload_n (pc := 5) (dq D_m_settings_0_ok 3 rfl) rfl 0 rfl ?_
  refine q_aload_n (pc := 6) (dq D_m_settings_0_ok 4 rfl) rfl 0 rfl ?_
  refine q_iload_n (pc := 7) (dq D_m_settings_0_ok 5 rfl) rfl 1 rfl ?_
  refine r_invI (Mc := M_m_isFeast) (pc := 8) (ci := 11) (rest := [.ref v0]) 0 1 [.int v1] (dq D_m_settings_0_ok 6 rfl) rfl rfl lc_m_isFeast lv_m_isFeast_ ml_m_360 rfl rfl rfl rfl (t_m_isFeast v0 v1 h1) (fun r3 h2 => ?_)
  refine q_iload_n (pc := 11) (dq D_m_settings_0_ok 7 rfl) rfl 2 rfl ?_
  refine q_ic1 (pc := 12) (dq D_m_settings_0_ok 8 rfl) ?_
  refine q_sipush (pc := 13) (v := 5000) (dq D_m_settings_0_ok 9 rfl) (by decide) ?_
  refine r_invI (Mc := M_m_refusesDays) (pc := 16) (ci := 11) (rest := []) 1 4 [.int r3, .int v2, .int 1, .int 5000] (dq D_m_settings_0_ok 10 rfl) rfl rfl lc_m_refusesDays lv_m_refusesDays_ ml_m_392 rfl rfl rfl rfl (t_m_refusesDays v0 r3 v2 (1 : Int32) (5000 : Int32) h2) (fun r5 h4 => ?_)
  refine q_istore_n (pc := 19) (ls' := [(3, .int r5), (0, .ref v0), (1, .int v1), (2, .int v2)]) (dq D_m_settings_0_ok 11 rfl) rfl rfl rfl ?_
  refine q_iload_n (pc := 20) (dq D_m_settings_0_ok 12 rfl) rfl 0 rfl ?_
  refine p_if_le (pc := 21) 30 (dq D_m_settings_0_ok 13 rfl) rfl ?_ ?_
  · refine q_ic1 (pc := 30) (dq D_m_settings_0_ok 18 rfl) ?_
    refine r_nmI (fun y6 => ?_)
    refine q_istore (pc := 31) (ls' := [(4, .int y6), (3, .int r5), (0, .ref v0), (1, .int v1), (2, .int v2)]) (dq D_m_settings_0_ok 19 rfl) rfl rfl ?_
    refine q_ic0 (pc := 33) (dq D_m_settings_0_ok 20 rfl) ?_
    refine r_nmI (fun y7 => ?_)
    refine q_istore (pc := 34) (ls' := [(5, .int y7), (4, .int y6), (3, .int r5), (0, .ref v0), (1, .int v1), (2, .int v2)]) (dq D_m_settings_0_ok 21 rfl) rfl rfl ?_
    exact T.lsub [3, 4, 5, 1, 0] rfl (tl_m_settings_36 FU (v0, v1, v2, y6, y7) h4)
  · refine q_aload_n (pc := 24) (dq D_m_settings_0_ok 14 rfl) rfl 1 rfl ?_
    refine q_iload_n (pc := 25) (dq D_m_settings_0_ok 15 rfl) rfl 0 rfl ?_
    refine r_invI (Mc := M_m_refused) (pc := 26) (ci := 11) (rest := []) 0 1 [.int r5] (dq D_m_settings_0_ok 16 rfl) rfl rfl lc_m_refused lv_m_refused_ ml_m_60 rfl rfl rfl rfl (t_m_refused v0 r5 h4) (fun r9 h8 => ?_)
    exact r_reti (pc := 29) (dq D_m_settings_0_ok 17 rfl) rfl
noncomputable def f_m_swaps (v0 : Nat) (v1 : Int32) (v2 : Int32) (h : Hp) : Option (Unit × Hp) := gd (hS h v0 = some (.inl 11)) (bR (hR h v0 24) fun x1 => gd (ai h x1 0 v1) (lt (hI h x1 v1.toNatClampNeg) fun x2 => gd (hS h v0 = some (.inl 11)) (bR (hR h v0 24) fun x3 => gd (hS h v0 = some (.inl 11)) (bR (hR h v0 24) fun x4 => gd (ai h x4 0 v2) (lt (hI h x4 v2.toNatClampNeg) fun x5 => gd (ai h x3 0 v1) (lt (uI h x3 v1.toNatClampNeg x5) fun h6 => gd (hS h6 v0 = some (.inl 11)) (bR (hR h6 v0 24) fun x7 => gd (ai h6 x7 0 v2) (lt (uI h6 x7 v2.toNatClampNeg x2) fun h8 => some ((), h8)))))))))
set_option maxHeartbeats 4000000 in
set_option maxRecDepth 20000 in
theorem t_m_swaps {G : GG} (v0 : Nat) (v1 : Int32) (v2 : Int32) (h : Hp) : Mt G M_m_swaps 0 [.ref v0, .int v1, .int v2] cU h (f_m_swaps v0 v1 v2 h) := by
  refine Mt.ofF (by decide +kernel) rfl (Rt.v rfl rfl) ?_
  show T G M_m_swaps 0 cU 0 [(0, .ref v0), (1, .int v1), (2, .int v2)] [] h _
  unfold f_m_swaps
  refine q_aload_n (pc := 0) (dq D_m_swaps_0_ok 0 rfl) rfl 0 rfl ?_
  refine q_getR (pc := 1) (dq D_m_swaps_0_ok 1 rfl) fa_m_33 rfl (fun x1 => ?_)
  refine q_iload_n (pc := 4) (dq D_m_swaps_0_ok 2 rfl) rfl 1 rfl ?_
  refine r_iald (pc := 5) (dq D_m_swaps_0_ok 3 rfl) (fun x2 => ?_)
  refine q_istore_n (pc := 6) (ls' := [(3, .int x2), (0, .ref v0), (1, .int v1), (2, .int v2)]) (dq D_m_swaps_0_ok 4 rfl) rfl rfl rfl ?_
  refine q_aload_n (pc := 7) (dq D_m_swaps_0_ok 5 rfl) rfl 1 rfl ?_
  refine q_getR (pc := 8) (dq D_m_swaps_0_ok 6 rfl) fa_m_33 rfl (fun x3 => ?_)
  refine q_iload_n (pc := 11) (dq D_m_swaps_0_ok 7 rfl) rfl 2 rfl ?_
  refine q_aload_n (pc := 12) (dq D_m_swaps_0_ok 8 rfl) rfl 1 rfl ?_
  refine q_getR (pc := 13) (dq D_m_swaps_0_ok 9 rfl) fa_m_33 rfl (fun x4 => ?_)
  refine q_iload_n (pc := 16) (dq D_m_swaps_0_ok 10 rfl) rfl 3 rfl ?_
  refine r_iald (pc := 17) (dq D_m_swaps_0_ok 11 rfl) (fun x5 => ?_)
  refine r_iast (pc := 18) (dq D_m_swaps_0_ok 12 rfl) (fun h6 => ?_)
  refine q_aload_n (pc := 19) (dq D_m_swaps_0_ok 13 rfl) rfl 1 rfl ?_
  refine q_getR (pc := 20) (dq D_m_swaps_0_ok 14 rfl) fa_m_33 rfl (fun x7 => ?_)
  refine q_iload_n (pc := 23) (dq D_m_swaps_0_ok 15 rfl) rfl 3 rfl ?_
  refine q_iload_n (pc := 24) (dq D_m_swaps_0_ok 16 rfl) rfl 0 rfl ?_
  refine r_iast (pc := 25) (dq D_m_swaps_0_ok 17 rfl) (fun h8 => ?_)
  exact r_retu (pc := 26) (dq D_m_swaps_0_ok 18 rfl) rfl
noncomputable def b_m_nextOrder_95 (k95 : (Nat × Int32 × Int32) → Hp → Option (Int32 × Hp)) (v0 : Nat) (v3 : Int32) (v4 : Int32) (h : Hp) : Option (Int32 × Hp) := if v4 ≤ v3 then (gd (zb 1) (some (1, h))) else (gd (hS h v0 = some (.inl 11)) (bd (f_m_swaps v0 v3 v4 h) fun _ h1 => k95 (v0, v3 + 1, v4 + (-1)) h1))
set_option maxHeartbeats 4000000 in
set_option maxRecDepth 20000 in
theorem tb_m_nextOrder_95 {G : GG} {k95 : (Nat × Int32 × Int32) → Hp → Option (Int32 × Hp)} (hk95 : ∀ s h, T G M_m_nextOrder 1 cI 95 [(0, .ref s.1), (3, .int s.2.1), (4, .int s.2.2)] [] h (k95 s h)) (v0 : Nat) (v3 : Int32) (v4 : Int32) (h : Hp) : T G M_m_nextOrder 1 cI 95 [(0, .ref v0), (3, .int v3), (4, .int v4)] [] h (b_m_nextOrder_95 k95 v0 v3 v4 h) := by
  unfold b_m_nextOrder_95
  refine q_iload_n (pc := 95) (dq D_m_nextOrder_0_ok 56 rfl) rfl 1 rfl ?_
  refine q_iload (pc := 96) (dq D_m_nextOrder_0_ok 57 rfl) 2 rfl ?_
  refine q_ic_ge (pc := 98) 117 (dq D_m_nextOrder_0_ok 58 rfl) rfl ?_ ?_
  · refine q_ic1 (pc := 117) (dq D_m_nextOrder_1_ok 6 rfl) ?_
    exact r_retz (pc := 118) (dq D_m_nextOrder_1_ok 7 rfl) rfl
  · refine q_aload_n (pc := 101) (dq D_m_nextOrder_0_ok 59 rfl) rfl 0 rfl ?_
    refine q_iload_n (pc := 102) (dq D_m_nextOrder_1_ok 0 rfl) rfl 1 rfl ?_
    refine q_iload (pc := 103) (dq D_m_nextOrder_1_ok 1 rfl) 2 rfl ?_
    refine r_invU (Mc := M_m_swaps) (pc := 105) (ci := 11) (rest := []) 0 2 [.int v3, .int v4] (dq D_m_nextOrder_1_ok 2 rfl) rfl rfl lc_m_swaps lv_m_swaps_ ml_m_422 rfl rfl rfl rfl (t_m_swaps v0 v3 v4 h) (fun _ h1 => ?_)
    refine q_iinc (pc := 108) (v := (1)) (ls' := [(3, .int (v3 + 1)), (0, .ref v0), (4, .int v4)]) (dq D_m_nextOrder_1_ok 3 rfl) 1 rfl (by decide) rfl rfl ?_
    refine q_iinc (pc := 111) (v := (-1)) (ls' := [(4, .int (v4 + (-1))), (3, .int (v3 + 1)), (0, .ref v0)]) (dq D_m_nextOrder_1_ok 4 rfl) 2 rfl (by decide) rfl rfl ?_
    refine q_goto (pc := 114) 95 (dq D_m_nextOrder_1_ok 5 rfl) rfl ?_
    exact T.lsub [2, 1, 0] rfl (hk95 (v0, v3 + 1, v4 + (-1)) h1)
noncomputable def l_m_nextOrder_95 : Nat → (Nat × Int32 × Int32) → Hp → Option (Int32 × Hp) := lp (fun k95 s h => b_m_nextOrder_95 k95 s.1 s.2.1 s.2.2 h)
set_option maxHeartbeats 4000000 in
set_option maxRecDepth 20000 in
theorem tl_m_nextOrder_95 {G : GG} (n : Nat) (s : Nat × Int32 × Int32) (h : Hp) : T G M_m_nextOrder 1 cI 95 [(0, .ref s.1), (3, .int s.2.1), (4, .int s.2.2)] [] h (l_m_nextOrder_95 n s h) :=
  T.loop (lsOf := fun s => [(0, .ref s.1), (3, .int s.2.1), (4, .int s.2.2)]) (fun k95 hk95 s h => tb_m_nextOrder_95 hk95 s.1 s.2.1 s.2.2 h) n s h
noncomputable def b_m_nextOrder_53 (k53 : (Nat × Int32 × Int32) → Hp → Option (Int32 × Hp)) (v0 : Nat) (v1 : Int32) (v2 : Int32) (h : Hp) : Option (Int32 × Hp) := gd (hS h v0 = some (.inl 11)) (bR (hR h v0 24) fun x1 => gd (ai h x1 0 v2) (lt (hI h x1 v2.toNatClampNeg) fun x2 => gd (hS h v0 = some (.inl 11)) (bR (hR h v0 24) fun x3 => gd (ai h x3 0 v1) (lt (hI h x3 v1.toNatClampNeg) fun x4 => if x4 ≤ x2 then (gd (hS h v0 = some (.inl 11)) (bd (f_m_swaps v0 v1 v2 h) fun _ h5 => lt (v1 + 1 : Int32) fun y7 => gd (hS h5 v0 = some (.inl 11)) (bR (hR h5 v0 3) fun x8 => gd (hS h5 x8 = some (.inl 12)) (lt (hI h5 x8 5) fun x9 => lt (x9 - 1 : Int32) fun y10 => l_m_nextOrder_95 FU (v0, y7, y10) h5)))) else (k53 (v0, v1, v2 + (-1)) h)))))
set_option maxHeartbeats 4000000 in
set_option maxRecDepth 20000 in
theorem tb_m_nextOrder_53 {G : GG} {k53 : (Nat × Int32 × Int32) → Hp → Option (Int32 × Hp)} (hk53 : ∀ s h, T G M_m_nextOrder 1 cI 53 [(0, .ref s.1), (1, .int s.2.1), (2, .int s.2.2)] [] h (k53 s h)) (v0 : Nat) (v1 : Int32) (v2 : Int32) (h : Hp) : T G M_m_nextOrder 1 cI 53 [(0, .ref v0), (1, .int v1), (2, .int v2)] [] h (b_m_nextOrder_53 k53 v0 v1 v2 h) := by
  unfold b_m_nextOrder_53
  refine q_aload_n (pc := 53) (dq D_m_nextOrder_0_ok 31 rfl) rfl 0 rfl ?_
  refine q_getR (pc := 54) (dq D_m_nextOrder_0_ok 32 rfl) fa_m_33 rfl (fun x1 => ?_)
  refine q_iload_n (pc := 57) (dq D_m_nextOrder_0_ok 33 rfl) rfl 2 rfl ?_
  refine r_iald (pc := 58) (dq D_m_nextOrder_0_ok 34 rfl) (fun x2 => ?_)
  refine q_aload_n (pc := 59) (dq D_m_nextOrder_0_ok 35 rfl) rfl 0 rfl ?_
  refine q_getR (pc := 60) (dq D_m_nextOrder_0_ok 36 rfl) fa_m_33 rfl (fun x3 => ?_)
  refine q_iload_n (pc := 63) (dq D_m_nextOrder_0_ok 37 rfl) rfl 1 rfl ?_
  refine r_iald (pc := 64) (dq D_m_nextOrder_0_ok 38 rfl) (fun x4 => ?_)
  refine q_ic_ge (pc := 65) 74 (dq D_m_nextOrder_0_ok 39 rfl) rfl ?_ ?_
  · refine q_aload_n (pc := 74) (dq D_m_nextOrder_0_ok 42 rfl) rfl 0 rfl ?_
    refine q_iload_n (pc := 75) (dq D_m_nextOrder_0_ok 43 rfl) rfl 1 rfl ?_
    refine q_iload_n (pc := 76) (dq D_m_nextOrder_0_ok 44 rfl) rfl 2 rfl ?_
    refine r_invU (Mc := M_m_swaps) (pc := 77) (ci := 11) (rest := []) 0 2 [.int v1, .int v2] (dq D_m_nextOrder_0_ok 45 rfl) rfl rfl lc_m_swaps lv_m_swaps_ ml_m_422 rfl rfl rfl rfl (t_m_swaps v0 v1 v2 h) (fun _ h5 => ?_)
    refine q_iload_n (pc := 80) (dq D_m_nextOrder_0_ok 46 rfl) rfl 1 rfl ?_
    refine q_ic1 (pc := 81) (dq D_m_nextOrder_0_ok 47 rfl) ?_
    refine q_iadd (pc := 82) (dq D_m_nextOrder_0_ok 48 rfl) ?_
    refine r_nmI (fun y7 => ?_)
    refine q_istore_n (pc := 83) (ls' := [(3, .int y7), (0, .ref v0), (1, .int v1), (2, .int v2)]) (dq D_m_nextOrder_0_ok 49 rfl) rfl rfl rfl ?_
    refine q_aload_n (pc := 84) (dq D_m_nextOrder_0_ok 50 rfl) rfl 1 rfl ?_
    refine q_getR (pc := 85) (dq D_m_nextOrder_0_ok 51 rfl) fa_m_348 rfl (fun x8 => ?_)
    refine r_getI (pc := 88) (dq D_m_nextOrder_0_ok 52 rfl) fa_m_300 rfl (fun x9 => ?_)
    refine q_ic1 (pc := 91) (dq D_m_nextOrder_0_ok 53 rfl) ?_
    refine q_isub (pc := 92) (dq D_m_nextOrder_0_ok 54 rfl) ?_
    refine r_nmI (fun y10 => ?_)
    refine q_istore (pc := 93) (ls' := [(4, .int y10), (3, .int y7), (0, .ref v0), (1, .int v1), (2, .int v2)]) (dq D_m_nextOrder_0_ok 55 rfl) rfl rfl ?_
    exact T.lsub [2, 1, 0] rfl (tl_m_nextOrder_95 FU (v0, y7, y10) h5)
  · refine q_iinc (pc := 68) (v := (-1)) (ls' := [(2, .int (v2 + (-1))), (0, .ref v0), (1, .int v1)]) (dq D_m_nextOrder_0_ok 40 rfl) 2 rfl (by decide) rfl rfl ?_
    refine q_goto (pc := 71) 53 (dq D_m_nextOrder_0_ok 41 rfl) rfl ?_
    exact T.lsub [1, 2, 0] rfl (hk53 (v0, v1, v2 + (-1)) h)
noncomputable def l_m_nextOrder_53 : Nat → (Nat × Int32 × Int32) → Hp → Option (Int32 × Hp) := lp (fun k53 s h => b_m_nextOrder_53 k53 s.1 s.2.1 s.2.2 h)
set_option maxHeartbeats 4000000 in
set_option maxRecDepth 20000 in
theorem tl_m_nextOrder_53 {G : GG} (n : Nat) (s : Nat × Int32 × Int32) (h : Hp) : T G M_m_nextOrder 1 cI 53 [(0, .ref s.1), (1, .int s.2.1), (2, .int s.2.2)] [] h (l_m_nextOrder_53 n s h) :=
  T.loop (lsOf := fun s => [(0, .ref s.1), (1, .int s.2.1), (2, .int s.2.2)]) (fun k53 hk53 s h => tb_m_nextOrder_53 hk53 s.1 s.2.1 s.2.2 h) n s h
noncomputable def b_m_nextOrder_37 (v0 : Nat) (v1 : Int32) (h : Hp) : Option (Int32 × Hp) := if 0 ≤ v1 then (gd (hS h v0 = some (.inl 11)) (bR (hR h v0 3) fun x1 => gd (hS h x1 = some (.inl 12)) (lt (hI h x1 5) fun x2 => lt (x2 - 1 : Int32) fun y3 => l_m_nextOrder_53 FU (v0, v1, y3) h))) else (gd (zb 0) (some (0, h)))
set_option maxHeartbeats 4000000 in
set_option maxRecDepth 20000 in
theorem tb_m_nextOrder_37 {G : GG} (v0 : Nat) (v1 : Int32) (h : Hp) : T G M_m_nextOrder 1 cI 37 [(0, .ref v0), (1, .int v1)] [] h (b_m_nextOrder_37 v0 v1 h) := by
  unfold b_m_nextOrder_37
  refine q_iload_n (pc := 37) (dq D_m_nextOrder_0_ok 21 rfl) rfl 1 rfl ?_
  refine p_if_ge (pc := 38) 43 (dq D_m_nextOrder_0_ok 22 rfl) rfl ?_ ?_
  · refine q_aload_n (pc := 43) (dq D_m_nextOrder_0_ok 25 rfl) rfl 0 rfl ?_
    refine q_getR (pc := 44) (dq D_m_nextOrder_0_ok 26 rfl) fa_m_348 rfl (fun x1 => ?_)
    refine r_getI (pc := 47) (dq D_m_nextOrder_0_ok 27 rfl) fa_m_300 rfl (fun x2 => ?_)
    refine q_ic1 (pc := 50) (dq D_m_nextOrder_0_ok 28 rfl) ?_
    refine q_isub (pc := 51) (dq D_m_nextOrder_0_ok 29 rfl) ?_
    refine r_nmI (fun y3 => ?_)
    refine q_istore_n (pc := 52) (ls' := [(2, .int y3), (0, .ref v0), (1, .int v1)]) (dq D_m_nextOrder_0_ok 30 rfl) rfl rfl rfl ?_
    exact T.lsub [1, 2, 0] rfl (tl_m_nextOrder_53 FU (v0, v1, y3) h)
  · refine q_ic0 (pc := 41) (dq D_m_nextOrder_0_ok 23 rfl) ?_
    exact r_retz (pc := 42) (dq D_m_nextOrder_0_ok 24 rfl) rfl
noncomputable def b_m_nextOrder_10 (k10 : (Nat × Int32) → Hp → Option (Int32 × Hp)) (v0 : Nat) (v1 : Int32) (h : Hp) : Option (Int32 × Hp) := if v1 < 0 then (b_m_nextOrder_37 v0 v1 h) else (gd (hS h v0 = some (.inl 11)) (bR (hR h v0 24) fun x1 => gd (ai h x1 0 v1) (lt (hI h x1 v1.toNatClampNeg) fun x2 => gd (hS h v0 = some (.inl 11)) (bR (hR h v0 24) fun x3 => gd (ai h x3 0 (v1 + 1)) (lt (hI h x3 (v1 + 1).toNatClampNeg) fun x4 => if x2 ≤ x4 then (b_m_nextOrder_37 v0 v1 h) else (k10 (v0, v1 + (-1)) h))))))
set_option maxHeartbeats 4000000 in
set_option maxRecDepth 20000 in
theorem tb_m_nextOrder_10 {G : GG} {k10 : (Nat × Int32) → Hp → Option (Int32 × Hp)} (hk10 : ∀ s h, T G M_m_nextOrder 1 cI 10 [(0, .ref s.1), (1, .int s.2)] [] h (k10 s h)) (v0 : Nat) (v1 : Int32) (h : Hp) : T G M_m_nextOrder 1 cI 10 [(0, .ref v0), (1, .int v1)] [] h (b_m_nextOrder_10 k10 v0 v1 h) := by
  unfold b_m_nextOrder_10
  refine q_iload_n (pc := 10) (dq D_m_nextOrder_0_ok 6 rfl) rfl 1 rfl ?_
  refine p_if_lt (pc := 11) 37 (dq D_m_nextOrder_0_ok 7 rfl) rfl ?_ ?_
  · exact T.lsub [0, 1] rfl (tb_m_nextOrder_37 v0 v1 h)
  · refine q_aload_n (pc := 14) (dq D_m_nextOrder_0_ok 8 rfl) rfl 0 rfl ?_
    refine q_getR (pc := 15) (dq D_m_nextOrder_0_ok 9 rfl) fa_m_33 rfl (fun x1 => ?_)
    refine q_iload_n (pc := 18) (dq D_m_nextOrder_0_ok 10 rfl) rfl 1 rfl ?_
    refine r_iald (pc := 19) (dq D_m_nextOrder_0_ok 11 rfl) (fun x2 => ?_)
    refine q_aload_n (pc := 20) (dq D_m_nextOrder_0_ok 12 rfl) rfl 0 rfl ?_
    refine q_getR (pc := 21) (dq D_m_nextOrder_0_ok 13 rfl) fa_m_33 rfl (fun x3 => ?_)
    refine q_iload_n (pc := 24) (dq D_m_nextOrder_0_ok 14 rfl) rfl 1 rfl ?_
    refine q_ic1 (pc := 25) (dq D_m_nextOrder_0_ok 15 rfl) ?_
    refine q_iadd (pc := 26) (dq D_m_nextOrder_0_ok 16 rfl) ?_
    refine r_iald (pc := 27) (dq D_m_nextOrder_0_ok 17 rfl) (fun x4 => ?_)
    refine q_ic_le (pc := 28) 37 (dq D_m_nextOrder_0_ok 18 rfl) rfl ?_ ?_
    · exact T.lsub [0, 1] rfl (tb_m_nextOrder_37 v0 v1 h)
    · refine q_iinc (pc := 31) (v := (-1)) (ls' := [(1, .int (v1 + (-1))), (0, .ref v0)]) (dq D_m_nextOrder_0_ok 19 rfl) 1 rfl (by decide) rfl rfl ?_
      refine q_goto (pc := 34) 10 (dq D_m_nextOrder_0_ok 20 rfl) rfl ?_
      exact T.lsub [1, 0] rfl (hk10 (v0, v1 + (-1)) h)
noncomputable def l_m_nextOrder_10 : Nat → (Nat × Int32) → Hp → Option (Int32 × Hp) := lp (fun k10 s h => b_m_nextOrder_10 k10 s.1 s.2 h)
set_option maxHeartbeats 4000000 in
set_option maxRecDepth 20000 in
theorem tl_m_nextOrder_10 {G : GG} (n : Nat) (s : Nat × Int32) (h : Hp) : T G M_m_nextOrder 1 cI 10 [(0, .ref s.1), (1, .int s.2)] [] h (l_m_nextOrder_10 n s h) :=
  T.loop (lsOf := fun s => [(0, .ref s.1), (1, .int s.2)]) (fun k10 hk10 s h => tb_m_nextOrder_10 hk10 s.1 s.2 h) n s h
noncomputable def f_m_nextOrder (v0 : Nat) (h : Hp) : Option (Int32 × Hp) := gd (hS h v0 = some (.inl 11)) (bR (hR h v0 3) fun x1 => gd (hS h x1 = some (.inl 12)) (lt (hI h x1 5) fun x2 => lt (x2 - 2 : Int32) fun y3 => l_m_nextOrder_10 FU (v0, y3) h))
set_option maxHeartbeats 4000000 in
set_option maxRecDepth 20000 in
theorem t_m_nextOrder {G : GG} (v0 : Nat) (h : Hp) : Mt G M_m_nextOrder 1 [.ref v0] cI h (f_m_nextOrder v0 h) := by
  refine Mt.ofF (by decide +kernel) rfl (Rt.z rfl rfl) ?_
  show T G M_m_nextOrder 1 cI 0 [(0, .ref v0)] [] h _
  unfold f_m_nextOrder
  refine q_aload_n (pc := 0) (dq D_m_nextOrder_0_ok 0 rfl) rfl 0 rfl ?_
  refine q_getR (pc := 1) (dq D_m_nextOrder_0_ok 1 rfl) fa_m_348 rfl (fun x1 => ?_)
  refine r_getI (pc := 4) (dq D_m_nextOrder_0_ok 2 rfl) fa_m_300 rfl (fun x2 => ?_)
  refine q_ic2 (pc := 7) (dq D_m_nextOrder_0_ok 3 rfl) ?_
  refine q_isub (pc := 8) (dq D_m_nextOrder_0_ok 4 rfl) ?_
  refine r_nmI (fun y3 => ?_)
  refine q_istore_n (pc := 9) (ls' := [(1, .int y3), (0, .ref v0)]) (dq D_m_nextOrder_0_ok 5 rfl) rfl rfl rfl ?_
  exact T.lsub [1, 0] rfl (tl_m_nextOrder_10 FU (v0, y3) h)
noncomputable def b_m_timely_78 (k6 : (Nat × Int32 × Int32 × Int32) → Hp → Option (Int32 × Hp)) (v0 : Nat) (v1 : Int32) (v3 : Int32) (s0 : Int32) (s1 : Int32) (h : Hp) : Option (Int32 × Hp) := lt (s1 ||| s0 : Int32) fun y1 => k6 (v0, v1, y1, v3 + 1) h
set_option maxHeartbeats 4000000 in
set_option maxRecDepth 20000 in
theorem tb_m_timely_78 {G : GG} {k6 : (Nat × Int32 × Int32 × Int32) → Hp → Option (Int32 × Hp)} (hk6 : ∀ s h, T G M_m_timely 0 cI 6 [(0, .ref s.1), (1, .int s.2.1), (2, .int s.2.2.1), (3, .int s.2.2.2)] [] h (k6 s h)) (v0 : Nat) (v1 : Int32) (v3 : Int32) (s0 : Int32) (s1 : Int32) (h : Hp) : T G M_m_timely 0 cI 78 [(0, .ref v0), (1, .int v1), (3, .int v3)] [.int s0, .int s1] h (b_m_timely_78 k6 v0 v1 v3 s0 s1 h) := by
  unfold b_m_timely_78
  refine q_ior (pc := 78) (dq D_m_timely_0_ok 49 rfl) ?_
  refine r_nmI (fun y1 => ?_)
  refine q_istore_n (pc := 79) (ls' := [(2, .int y1), (0, .ref v0), (1, .int v1), (3, .int v3)]) (dq D_m_timely_0_ok 50 rfl) rfl rfl rfl ?_
  refine q_iinc (pc := 80) (v := (1)) (ls' := [(3, .int (v3 + 1)), (2, .int y1), (0, .ref v0), (1, .int v1)]) (dq D_m_timely_0_ok 51 rfl) 3 rfl (by decide) rfl rfl ?_
  refine q_goto (pc := 83) 6 (dq D_m_timely_0_ok 52 rfl) rfl ?_
  exact T.lsub [2, 3, 1, 0] rfl (hk6 (v0, v1, y1, v3 + 1) h)
noncomputable def b_m_timely_77 (k6 : (Nat × Int32 × Int32 × Int32) → Hp → Option (Int32 × Hp)) (v0 : Nat) (v1 : Int32) (v3 : Int32) (s0 : Int32) (h : Hp) : Option (Int32 × Hp) := b_m_timely_78 k6 v0 v1 v3 0 s0 h
set_option maxHeartbeats 4000000 in
set_option maxRecDepth 20000 in
theorem tb_m_timely_77 {G : GG} {k6 : (Nat × Int32 × Int32 × Int32) → Hp → Option (Int32 × Hp)} (hk6 : ∀ s h, T G M_m_timely 0 cI 6 [(0, .ref s.1), (1, .int s.2.1), (2, .int s.2.2.1), (3, .int s.2.2.2)] [] h (k6 s h)) (v0 : Nat) (v1 : Int32) (v3 : Int32) (s0 : Int32) (h : Hp) : T G M_m_timely 0 cI 77 [(0, .ref v0), (1, .int v1), (3, .int v3)] [.int s0] h (b_m_timely_77 k6 v0 v1 v3 s0 h) := by
  unfold b_m_timely_77
  refine q_ic0 (pc := 77) (dq D_m_timely_0_ok 48 rfl) ?_
  exact T.lsub [0, 1, 2] rfl (tb_m_timely_78 hk6 v0 v1 v3 0 s0 h)
noncomputable def b_m_timely_6 (k6 : (Nat × Int32 × Int32 × Int32) → Hp → Option (Int32 × Hp)) (v0 : Nat) (v1 : Int32) (v2 : Int32) (v3 : Int32) (h : Hp) : Option (Int32 × Hp) := gd (hS h v0 = some (.inl 11)) (bR (hR h v0 3) fun x1 => gd (hS h x1 = some (.inl 12)) (lt (hI h x1 5) fun x2 => if x2 ≤ v3 then (some (v2, h)) else (gd (hS h v0 = some (.inl 11)) (bR (hR h v0 3) fun x3 => gd (hS h x3 = some (.inl 12)) (bR (hR h x3 19) fun x4 => gd (hS h v0 = some (.inl 11)) (bR (hR h v0 24) fun x5 => gd (ai h x5 0 v3) (lt (hI h x5 v3.toNatClampNeg) fun x6 => gd (ai h x4 0 x6) (lt (hI h x4 x6.toNatClampNeg) fun x7 => lt (v1 + x7 : Int32) fun y8 => gd (hS h v0 = some (.inl 11)) (bR (hR h v0 26) fun x9 => gd (hS h v0 = some (.inl 11)) (bR (hR h v0 24) fun x10 => gd (ai h x10 0 v3) (lt (hI h x10 v3.toNatClampNeg) fun x11 => gd (ai h x9 0 x11) (lt (hI h x9 x11.toNatClampNeg) fun x12 => if x12 = ((-2)) then (b_m_timely_77 k6 v0 y8 v3 v2 h) else (gd (hS h v0 = some (.inl 11)) (bR (hR h v0 26) fun x13 => gd (hS h v0 = some (.inl 11)) (bR (hR h v0 24) fun x14 => gd (ai h x14 0 v3) (lt (hI h x14 v3.toNatClampNeg) fun x15 => gd (ai h x13 0 x15) (lt (hI h x13 x15.toNatClampNeg) fun x16 => if x16 < y8 then (b_m_timely_77 k6 v0 y8 v3 v2 h) else (gd (hS h v0 = some (.inl 11)) (bR (hR h v0 24) fun x17 => gd (ai h x17 0 v3) (lt (hI h x17 v3.toNatClampNeg) fun x18 => b_m_timely_78 k6 v0 y8 v3 ((1 : Int32) <<< (x18 &&& 31)) v2 h))))))))))))))))))))
set_option maxHeartbeats 4000000 in
set_option maxRecDepth 20000 in
theorem tb_m_timely_6 {G : GG} {k6 : (Nat × Int32 × Int32 × Int32) → Hp → Option (Int32 × Hp)} (hk6 : ∀ s h, T G M_m_timely 0 cI 6 [(0, .ref s.1), (1, .int s.2.1), (2, .int s.2.2.1), (3, .int s.2.2.2)] [] h (k6 s h)) (v0 : Nat) (v1 : Int32) (v2 : Int32) (v3 : Int32) (h : Hp) : T G M_m_timely 0 cI 6 [(0, .ref v0), (1, .int v1), (2, .int v2), (3, .int v3)] [] h (b_m_timely_6 k6 v0 v1 v2 v3 h) := by
  unfold b_m_timely_6
  refine q_iload_n (pc := 6) (dq D_m_timely_0_ok 6 rfl) rfl 3 rfl ?_
  refine q_aload_n (pc := 7) (dq D_m_timely_0_ok 7 rfl) rfl 0 rfl ?_
  refine q_getR (pc := 8) (dq D_m_timely_0_ok 8 rfl) fa_m_348 rfl (fun x1 => ?_)
  refine r_getI (pc := 11) (dq D_m_timely_0_ok 9 rfl) fa_m_300 rfl (fun x2 => ?_)
  refine q_ic_ge (pc := 14) 86 (dq D_m_timely_0_ok 10 rfl) rfl ?_ ?_
  · refine q_iload_n (pc := 86) (dq D_m_timely_0_ok 53 rfl) rfl 2 rfl ?_
    exact r_reti (pc := 87) (dq D_m_timely_0_ok 54 rfl) rfl
  · refine q_iload_n (pc := 17) (dq D_m_timely_0_ok 11 rfl) rfl 1 rfl ?_
    refine q_aload_n (pc := 18) (dq D_m_timely_0_ok 12 rfl) rfl 0 rfl ?_
    refine q_getR (pc := 19) (dq D_m_timely_0_ok 13 rfl) fa_m_348 rfl (fun x3 => ?_)
    refine q_getR (pc := 22) (dq D_m_timely_0_ok 14 rfl) fa_m_310 rfl (fun x4 => ?_)
    refine q_aload_n (pc := 25) (dq D_m_timely_0_ok 15 rfl) rfl 0 rfl ?_
    refine q_getR (pc := 26) (dq D_m_timely_0_ok 16 rfl) fa_m_33 rfl (fun x5 => ?_)
    refine q_iload_n (pc := 29) (dq D_m_timely_0_ok 17 rfl) rfl 3 rfl ?_
    refine r_iald (pc := 30) (dq D_m_timely_0_ok 18 rfl) (fun x6 => ?_)
    refine r_iald (pc := 31) (dq D_m_timely_0_ok 19 rfl) (fun x7 => ?_)
    refine q_iadd (pc := 32) (dq D_m_timely_0_ok 20 rfl) ?_
    refine r_nmI (fun y8 => ?_)
    refine q_istore_n (pc := 33) (ls' := [(1, .int y8), (0, .ref v0), (2, .int v2), (3, .int v3)]) (dq D_m_timely_0_ok 21 rfl) rfl rfl rfl ?_
    refine q_iload_n (pc := 34) (dq D_m_timely_0_ok 22 rfl) rfl 2 rfl ?_
    refine q_aload_n (pc := 35) (dq D_m_timely_0_ok 23 rfl) rfl 1 rfl ?_
    refine q_getR (pc := 36) (dq D_m_timely_0_ok 24 rfl) fa_m_39 rfl (fun x9 => ?_)
    refine q_aload_n (pc := 39) (dq D_m_timely_0_ok 25 rfl) rfl 1 rfl ?_
    refine q_getR (pc := 40) (dq D_m_timely_0_ok 26 rfl) fa_m_33 rfl (fun x10 => ?_)
    refine q_iload_n (pc := 43) (dq D_m_timely_0_ok 27 rfl) rfl 3 rfl ?_
    refine r_iald (pc := 44) (dq D_m_timely_0_ok 28 rfl) (fun x11 => ?_)
    refine r_iald (pc := 45) (dq D_m_timely_0_ok 29 rfl) (fun x12 => ?_)
    refine q_bipush (pc := 46) (v := (-2)) (dq D_m_timely_0_ok 30 rfl) (by decide) ?_
    refine q_ic_eq (pc := 48) 77 (dq D_m_timely_0_ok 31 rfl) rfl ?_ ?_
    · exact T.lsub [1, 0, 3] rfl (tb_m_timely_77 hk6 v0 y8 v3 v2 h)
    · refine q_iload_n (pc := 51) (dq D_m_timely_0_ok 32 rfl) rfl 0 rfl ?_
      refine q_aload_n (pc := 52) (dq D_m_timely_0_ok 33 rfl) rfl 1 rfl ?_
      refine q_getR (pc := 53) (dq D_m_timely_0_ok 34 rfl) fa_m_39 rfl (fun x13 => ?_)
      refine q_aload_n (pc := 56) (dq D_m_timely_0_ok 35 rfl) rfl 1 rfl ?_
      refine q_getR (pc := 57) (dq D_m_timely_0_ok 36 rfl) fa_m_33 rfl (fun x14 => ?_)
      refine q_iload_n (pc := 60) (dq D_m_timely_0_ok 37 rfl) rfl 3 rfl ?_
      refine r_iald (pc := 61) (dq D_m_timely_0_ok 38 rfl) (fun x15 => ?_)
      refine r_iald (pc := 62) (dq D_m_timely_0_ok 39 rfl) (fun x16 => ?_)
      refine q_ic_gt (pc := 63) 77 (dq D_m_timely_0_ok 40 rfl) rfl ?_ ?_
      · exact T.lsub [1, 0, 3] rfl (tb_m_timely_77 hk6 v0 y8 v3 v2 h)
      · refine q_ic1 (pc := 66) (dq D_m_timely_0_ok 41 rfl) ?_
        refine q_aload_n (pc := 67) (dq D_m_timely_0_ok 42 rfl) rfl 1 rfl ?_
        refine q_getR (pc := 68) (dq D_m_timely_0_ok 43 rfl) fa_m_33 rfl (fun x17 => ?_)
        refine q_iload_n (pc := 71) (dq D_m_timely_0_ok 44 rfl) rfl 3 rfl ?_
        refine r_iald (pc := 72) (dq D_m_timely_0_ok 45 rfl) (fun x18 => ?_)
        refine q_ishl (pc := 73) (dq D_m_timely_0_ok 46 rfl) ?_
        refine q_goto (pc := 74) 78 (dq D_m_timely_0_ok 47 rfl) rfl ?_
        exact T.lsub [1, 0, 3] rfl (tb_m_timely_78 hk6 v0 y8 v3 ((1 : Int32) <<< (x18 &&& 31)) v2 h)
noncomputable def l_m_timely_6 : Nat → (Nat × Int32 × Int32 × Int32) → Hp → Option (Int32 × Hp) := lp (fun k6 s h => b_m_timely_6 k6 s.1 s.2.1 s.2.2.1 s.2.2.2 h)
set_option maxHeartbeats 4000000 in
set_option maxRecDepth 20000 in
theorem tl_m_timely_6 {G : GG} (n : Nat) (s : Nat × Int32 × Int32 × Int32) (h : Hp) : T G M_m_timely 0 cI 6 [(0, .ref s.1), (1, .int s.2.1), (2, .int s.2.2.1), (3, .int s.2.2.2)] [] h (l_m_timely_6 n s h) :=
  T.loop (lsOf := fun s => [(0, .ref s.1), (1, .int s.2.1), (2, .int s.2.2.1), (3, .int s.2.2.2)]) (fun k6 hk6 s h => tb_m_timely_6 hk6 s.1 s.2.1 s.2.2.1 s.2.2.2 h) n s h
noncomputable def f_m_timely (v0 : Nat) (h : Hp) : Option (Int32 × Hp) := lt (0 : Int32) fun y1 => lt (0 : Int32) fun y2 => lt (0 : Int32) fun y3 => l_m_timely_6 FU (v0, y1, y2, y3) h
set_option maxHeartbeats 4000000 in
set_option maxRecDepth 20000 in
theorem t_m_timely {G : GG} (v0 : Nat) (h : Hp) : Mt G M_m_timely 0 [.ref v0] cI h (f_m_timely v0 h) := by
  refine Mt.ofF (by decide +kernel) rfl (Rt.i rfl rfl) ?_
  show T G M_m_timely 0 cI 0 [(0, .ref v0)] [] h _
  unfold f_m_timely
  refine q_ic0 (pc := 0) (dq D_m_timely_0_ok 0 rfl) ?_
  refine r_nmI (fun y1 => ?_)
  refine q_istore_n (pc := 1) (ls' := [(1, .int y1), (0, .ref v0)]) (dq D_m_timely_0_ok 1 rfl) rfl rfl rfl ?_
  refine q_ic0 (pc := 2) (dq D_m_timely_0_ok 2 rfl) ?_
  refine r_nmI (fun y2 => ?_)
  refine q_istore_n (pc := 3) (ls' := [(2, .int y2), (1, .int y1), (0, .ref v0)]) (dq D_m_timely_0_ok 3 rfl) rfl rfl rfl ?_
  refine q_ic0 (pc := 4) (dq D_m_timely_0_ok 4 rfl) ?_
  refine r_nmI (fun y3 => ?_)
  refine q_istore_n (pc := 5) (ls' := [(3, .int y3), (2, .int y2), (1, .int y1), (0, .ref v0)]) (dq D_m_timely_0_ok 5 rfl) rfl rfl rfl ?_
  exact T.lsub [3, 2, 1, 0] rfl (tl_m_timely_6 FU (v0, y1, y2, y3) h)
noncomputable def b_m_worthOf_37 (k4 : (Nat × Int32 × Int32 × Int32) → Hp → Option (Int32 × Hp)) (v0 : Nat) (v1 : Int32) (v3 : Int32) (s0 : Int32) (s1 : Int32) (h : Hp) : Option (Int32 × Hp) := lt (s1 + s0 : Int32) fun y1 => k4 (v0, v1, y1, v3 + 1) h
set_option maxHeartbeats 4000000 in
set_option maxRecDepth 20000 in
theorem tb_m_worthOf_37 {G : GG} {k4 : (Nat × Int32 × Int32 × Int32) → Hp → Option (Int32 × Hp)} (hk4 : ∀ s h, T G M_m_worthOf 1 cI 4 [(0, .ref s.1), (1, .int s.2.1), (2, .int s.2.2.1), (3, .int s.2.2.2)] [] h (k4 s h)) (v0 : Nat) (v1 : Int32) (v3 : Int32) (s0 : Int32) (s1 : Int32) (h : Hp) : T G M_m_worthOf 1 cI 37 [(0, .ref v0), (1, .int v1), (3, .int v3)] [.int s0, .int s1] h (b_m_worthOf_37 k4 v0 v1 v3 s0 s1 h) := by
  unfold b_m_worthOf_37
  refine q_iadd (pc := 37) (dq D_m_worthOf_0_ok 21 rfl) ?_
  refine r_nmI (fun y1 => ?_)
  refine q_istore_n (pc := 38) (ls' := [(2, .int y1), (0, .ref v0), (1, .int v1), (3, .int v3)]) (dq D_m_worthOf_0_ok 22 rfl) rfl rfl rfl ?_
  refine q_iinc (pc := 39) (v := (1)) (ls' := [(3, .int (v3 + 1)), (2, .int y1), (0, .ref v0), (1, .int v1)]) (dq D_m_worthOf_0_ok 23 rfl) 3 rfl (by decide) rfl rfl ?_
  refine q_goto (pc := 42) 4 (dq D_m_worthOf_0_ok 24 rfl) rfl ?_
  exact T.lsub [2, 3, 1, 0] rfl (hk4 (v0, v1, y1, v3 + 1) h)
noncomputable def b_m_worthOf_4 (k4 : (Nat × Int32 × Int32 × Int32) → Hp → Option (Int32 × Hp)) (v0 : Nat) (v1 : Int32) (v2 : Int32) (v3 : Int32) (h : Hp) : Option (Int32 × Hp) := gd (hS h v0 = some (.inl 11)) (bR (hR h v0 3) fun x1 => gd (hS h x1 = some (.inl 12)) (lt (hI h x1 5) fun x2 => if x2 ≤ v3 then (some (v2, h)) else (bd (f_m_bit v1 v3 h) fun r4 h3 => if r4 = 0 then (b_m_worthOf_37 k4 v0 v1 v3 0 v2 h3) else (gd (hS h3 v0 = some (.inl 11)) (bR (hR h3 v0 3) fun x5 => gd (hS h3 x5 = some (.inl 12)) (bR (hR h3 x5 20) fun x6 => gd (ai h3 x6 0 v3) (lt (hI h3 x6 v3.toNatClampNeg) fun x7 => b_m_worthOf_37 k4 v0 v1 v3 x7 v2 h3)))))))
set_option maxHeartbeats 4000000 in
set_option maxRecDepth 20000 in
theorem tb_m_worthOf_4 {G : GG} {k4 : (Nat × Int32 × Int32 × Int32) → Hp → Option (Int32 × Hp)} (hk4 : ∀ s h, T G M_m_worthOf 1 cI 4 [(0, .ref s.1), (1, .int s.2.1), (2, .int s.2.2.1), (3, .int s.2.2.2)] [] h (k4 s h)) (v0 : Nat) (v1 : Int32) (v2 : Int32) (v3 : Int32) (h : Hp) : T G M_m_worthOf 1 cI 4 [(0, .ref v0), (1, .int v1), (2, .int v2), (3, .int v3)] [] h (b_m_worthOf_4 k4 v0 v1 v2 v3 h) := by
  unfold b_m_worthOf_4
  refine q_iload_n (pc := 4) (dq D_m_worthOf_0_ok 4 rfl) rfl 3 rfl ?_
  refine q_aload_n (pc := 5) (dq D_m_worthOf_0_ok 5 rfl) rfl 0 rfl ?_
  refine q_getR (pc := 6) (dq D_m_worthOf_0_ok 6 rfl) fa_m_348 rfl (fun x1 => ?_)
  refine r_getI (pc := 9) (dq D_m_worthOf_0_ok 7 rfl) fa_m_300 rfl (fun x2 => ?_)
  refine q_ic_ge (pc := 12) 45 (dq D_m_worthOf_0_ok 8 rfl) rfl ?_ ?_
  · refine q_iload_n (pc := 45) (dq D_m_worthOf_0_ok 25 rfl) rfl 2 rfl ?_
    exact r_reti (pc := 46) (dq D_m_worthOf_0_ok 26 rfl) rfl
  · refine q_iload_n (pc := 15) (dq D_m_worthOf_0_ok 9 rfl) rfl 2 rfl ?_
    refine q_iload_n (pc := 16) (dq D_m_worthOf_0_ok 10 rfl) rfl 1 rfl ?_
    refine q_iload_n (pc := 17) (dq D_m_worthOf_0_ok 11 rfl) rfl 3 rfl ?_
    refine r_insI (Mc := M_m_bit) (pc := 18) (rest := [.int v2]) 0 2 [.int v1, .int v3] (dq D_m_worthOf_0_ok 12 rfl) lc_m_bit ls_m_bit ml_m_292 rfl rfl rfl rfl (t_m_bit v1 v3 h) (fun r4 h3 => ?_)
    refine p_if_eq (pc := 21) 36 (dq D_m_worthOf_0_ok 13 rfl) rfl ?_ ?_
    · refine q_ic0 (pc := 36) (dq D_m_worthOf_0_ok 20 rfl) ?_
      exact T.lsub [0, 1, 3] rfl (tb_m_worthOf_37 hk4 v0 v1 v3 0 v2 h3)
    · refine q_aload_n (pc := 24) (dq D_m_worthOf_0_ok 14 rfl) rfl 0 rfl ?_
      refine q_getR (pc := 25) (dq D_m_worthOf_0_ok 15 rfl) fa_m_348 rfl (fun x5 => ?_)
      refine q_getR (pc := 28) (dq D_m_worthOf_0_ok 16 rfl) fa_m_312 rfl (fun x6 => ?_)
      refine q_iload_n (pc := 31) (dq D_m_worthOf_0_ok 17 rfl) rfl 3 rfl ?_
      refine r_iald (pc := 32) (dq D_m_worthOf_0_ok 18 rfl) (fun x7 => ?_)
      refine q_goto (pc := 33) 37 (dq D_m_worthOf_0_ok 19 rfl) rfl ?_
      exact T.lsub [0, 1, 3] rfl (tb_m_worthOf_37 hk4 v0 v1 v3 x7 v2 h3)
noncomputable def l_m_worthOf_4 : Nat → (Nat × Int32 × Int32 × Int32) → Hp → Option (Int32 × Hp) := lp (fun k4 s h => b_m_worthOf_4 k4 s.1 s.2.1 s.2.2.1 s.2.2.2 h)
set_option maxHeartbeats 4000000 in
set_option maxRecDepth 20000 in
theorem tl_m_worthOf_4 {G : GG} (n : Nat) (s : Nat × Int32 × Int32 × Int32) (h : Hp) : T G M_m_worthOf 1 cI 4 [(0, .ref s.1), (1, .int s.2.1), (2, .int s.2.2.1), (3, .int s.2.2.2)] [] h (l_m_worthOf_4 n s h) :=
  T.loop (lsOf := fun s => [(0, .ref s.1), (1, .int s.2.1), (2, .int s.2.2.1), (3, .int s.2.2.2)]) (fun k4 hk4 s h => tb_m_worthOf_4 hk4 s.1 s.2.1 s.2.2.1 s.2.2.2 h) n s h
noncomputable def f_m_worthOf (v0 : Nat) (v1 : Int32) (h : Hp) : Option (Int32 × Hp) := lt (0 : Int32) fun y1 => lt (0 : Int32) fun y2 => l_m_worthOf_4 FU (v0, v1, y1, y2) h
set_option maxHeartbeats 4000000 in
set_option maxRecDepth 20000 in
theorem t_m_worthOf {G : GG} (v0 : Nat) (v1 : Int32) (h : Hp) : Mt G M_m_worthOf 1 [.ref v0, .int v1] cI h (f_m_worthOf v0 v1 h) := by
  refine Mt.ofF (by decide +kernel) rfl (Rt.i rfl rfl) ?_
  show T G M_m_worthOf 1 cI 0 [(0, .ref v0), (1, .int v1)] [] h _
  unfold f_m_worthOf
  refine q_ic0 (pc := 0) (dq D_m_worthOf_0_ok 0 rfl) ?_
  refine r_nmI (fun y1 => ?_)
  refine q_istore_n (pc := 1) (ls' := [(2, .int y1), (0, .ref v0), (1, .int v1)]) (dq D_m_worthOf_0_ok 1 rfl) rfl rfl rfl ?_
  refine q_ic0 (pc := 2) (dq D_m_worthOf_0_ok 2 rfl) ?_
  refine r_nmI (fun y2 => ?_)
  refine q_istore_n (pc := 3) (ls' := [(3, .int y2), (2, .int y1), (0, .ref v0), (1, .int v1)]) (dq D_m_worthOf_0_ok 3 rfl) rfl rfl rfl ?_
  exact T.lsub [2, 3, 1, 0] rfl (tl_m_worthOf_4 FU (v0, v1, y1, y2) h)
noncomputable def b_m_lines_116 (k58 : (Nat × Int32 × Int32) → Hp → Option (Int32 × Hp)) (v0 : Nat) (v1 : Int32) (h : Hp) : Option (Int32 × Hp) := gd (hS h v0 = some (.inl 11)) (bd (f_m_nextOrder v0 h) fun r2 h1 => k58 (v0, v1, r2) h1)
set_option maxHeartbeats 4000000 in
set_option maxRecDepth 20000 in
theorem tb_m_lines_116 {G : GG} {k58 : (Nat × Int32 × Int32) → Hp → Option (Int32 × Hp)} (hk58 : ∀ s h, T G M_m_lines 4 cI 58 [(0, .ref s.1), (1, .int s.2.1), (2, .int s.2.2)] [] h (k58 s h)) (v0 : Nat) (v1 : Int32) (h : Hp) : T G M_m_lines 4 cI 116 [(0, .ref v0), (1, .int v1)] [] h (b_m_lines_116 k58 v0 v1 h) := by
  unfold b_m_lines_116
  refine q_aload_n (pc := 116) (dq D_m_lines_1_ok 6 rfl) rfl 0 rfl ?_
  refine r_invI (Mc := M_m_nextOrder) (pc := 117) (ci := 11) (rest := []) 1 0 [] (dq D_m_lines_1_ok 7 rfl) rfl rfl lc_m_nextOrder lv_m_nextOrder_ ml_m_434 rfl rfl rfl rfl (t_m_nextOrder v0 h) (fun r2 h1 => ?_)
  refine q_istore_n (pc := 120) (ls' := [(2, .int r2), (0, .ref v0), (1, .int v1)]) (dq D_m_lines_1_ok 8 rfl) rfl rfl rfl ?_
  refine q_goto (pc := 121) 58 (dq D_m_lines_1_ok 9 rfl) rfl ?_
  exact T.lsub [1, 2, 0] rfl (hk58 (v0, v1, r2) h1)
noncomputable def b_m_lines_90 (k58 : (Nat × Int32 × Int32) → Hp → Option (Int32 × Hp)) (k90 : (Nat × Int32 × Int32) → Hp → Option (Int32 × Hp)) (v0 : Nat) (v1 : Int32) (v4 : Int32) (h : Hp) : Option (Int32 × Hp) := if 4 ≤ v4 then (b_m_lines_116 k58 v0 v1 h) else (gd (hS h v0 = some (.inl 11)) (bR (hR h v0 25) fun x1 => gd (hS h v0 = some (.inl 11)) (bR (hR h v0 24) fun x2 => gd (ai h x2 0 v4) (lt (hI h x2 v4.toNatClampNeg) fun x3 => gd (ai h x1 0 v4) (lt (uI h x1 v4.toNatClampNeg x3) fun h4 => k90 (v0, v1, v4 + 1) h4)))))
set_option maxHeartbeats 4000000 in
set_option maxRecDepth 20000 in
theorem tb_m_lines_90 {G : GG} {k58 : (Nat × Int32 × Int32) → Hp → Option (Int32 × Hp)} (hk58 : ∀ s h, T G M_m_lines 4 cI 58 [(0, .ref s.1), (1, .int s.2.1), (2, .int s.2.2)] [] h (k58 s h)) {k90 : (Nat × Int32 × Int32) → Hp → Option (Int32 × Hp)} (hk90 : ∀ s h, T G M_m_lines 4 cI 90 [(0, .ref s.1), (1, .int s.2.1), (4, .int s.2.2)] [] h (k90 s h)) (v0 : Nat) (v1 : Int32) (v4 : Int32) (h : Hp) : T G M_m_lines 4 cI 90 [(0, .ref v0), (1, .int v1), (4, .int v4)] [] h (b_m_lines_90 k58 k90 v0 v1 v4 h) := by
  unfold b_m_lines_90
  refine q_iload (pc := 90) (dq D_m_lines_0_ok 53 rfl) 2 rfl ?_
  refine q_ic4 (pc := 92) (dq D_m_lines_0_ok 54 rfl) ?_
  refine q_ic_ge (pc := 93) 116 (dq D_m_lines_0_ok 55 rfl) rfl ?_ ?_
  · exact T.lsub [0, 1] rfl (tb_m_lines_116 hk58 v0 v1 h)
  · refine q_aload_n (pc := 96) (dq D_m_lines_0_ok 56 rfl) rfl 0 rfl ?_
    refine q_getR (pc := 97) (dq D_m_lines_0_ok 57 rfl) fa_m_36 rfl (fun x1 => ?_)
    refine q_iload (pc := 100) (dq D_m_lines_0_ok 58 rfl) 2 rfl ?_
    refine q_aload_n (pc := 102) (dq D_m_lines_0_ok 59 rfl) rfl 0 rfl ?_
    refine q_getR (pc := 103) (dq D_m_lines_1_ok 0 rfl) fa_m_33 rfl (fun x2 => ?_)
    refine q_iload (pc := 106) (dq D_m_lines_1_ok 1 rfl) 2 rfl ?_
    refine r_iald (pc := 108) (dq D_m_lines_1_ok 2 rfl) (fun x3 => ?_)
    refine r_iast (pc := 109) (dq D_m_lines_1_ok 3 rfl) (fun h4 => ?_)
    refine q_iinc (pc := 110) (v := (1)) (ls' := [(4, .int (v4 + 1)), (0, .ref v0), (1, .int v1)]) (dq D_m_lines_1_ok 4 rfl) 2 rfl (by decide) rfl rfl ?_
    refine q_goto (pc := 113) 90 (dq D_m_lines_1_ok 5 rfl) rfl ?_
    exact T.lsub [1, 2, 0] rfl (hk90 (v0, v1, v4 + 1) h4)
noncomputable def l_m_lines_90 (k58 : (Nat × Int32 × Int32) → Hp → Option (Int32 × Hp)) : Nat → (Nat × Int32 × Int32) → Hp → Option (Int32 × Hp) := lp (fun k90 s h => b_m_lines_90 k58 k90 s.1 s.2.1 s.2.2 h)
set_option maxHeartbeats 4000000 in
set_option maxRecDepth 20000 in
theorem tl_m_lines_90 {G : GG} {k58 : (Nat × Int32 × Int32) → Hp → Option (Int32 × Hp)} (hk58 : ∀ s h, T G M_m_lines 4 cI 58 [(0, .ref s.1), (1, .int s.2.1), (2, .int s.2.2)] [] h (k58 s h)) (n : Nat) (s : Nat × Int32 × Int32) (h : Hp) : T G M_m_lines 4 cI 90 [(0, .ref s.1), (1, .int s.2.1), (4, .int s.2.2)] [] h (l_m_lines_90 k58 n s h) :=
  T.loop (lsOf := fun s => [(0, .ref s.1), (1, .int s.2.1), (4, .int s.2.2)]) (fun k90 hk90 s h => tb_m_lines_90 hk58 hk90 s.1 s.2.1 s.2.2 h) n s h
noncomputable def b_m_lines_58 (k58 : (Nat × Int32 × Int32) → Hp → Option (Int32 × Hp)) (v0 : Nat) (v1 : Int32) (v2 : Int32) (h : Hp) : Option (Int32 × Hp) := if v2 = 0 then (some (v1, h)) else (gd (hS h v0 = some (.inl 11)) (bd (f_m_timely v0 h) fun r2 h1 => gd (hS h1 v0 = some (.inl 11)) (bd (f_m_worthOf v0 r2 h1) fun r4 h3 => if r4 ≤ v1 then (b_m_lines_116 k58 v0 v1 h3) else (gd (hS h3 v0 = some (.inl 11)) (bd (f_m_worthOf v0 r2 h3) fun r6 h5 => gd (hS h5 v0 = some (.inl 11)) (lt (uI h5 v0 27 r2) fun h7 => lt (0 : Int32) fun y8 => l_m_lines_90 k58 FU (v0, r6, y8) h7))))))
set_option maxHeartbeats 4000000 in
set_option maxRecDepth 20000 in
theorem tb_m_lines_58 {G : GG} {k58 : (Nat × Int32 × Int32) → Hp → Option (Int32 × Hp)} (hk58 : ∀ s h, T G M_m_lines 4 cI 58 [(0, .ref s.1), (1, .int s.2.1), (2, .int s.2.2)] [] h (k58 s h)) (v0 : Nat) (v1 : Int32) (v2 : Int32) (h : Hp) : T G M_m_lines 4 cI 58 [(0, .ref v0), (1, .int v1), (2, .int v2)] [] h (b_m_lines_58 k58 v0 v1 v2 h) := by
  unfold b_m_lines_58
  refine q_iload_n (pc := 58) (dq D_m_lines_0_ok 34 rfl) rfl 2 rfl ?_
  refine p_if_eq (pc := 59) 124 (dq D_m_lines_0_ok 35 rfl) rfl ?_ ?_
  · refine q_iload_n (pc := 124) (dq D_m_lines_1_ok 10 rfl) rfl 1 rfl ?_
    exact r_reti (pc := 125) (dq D_m_lines_1_ok 11 rfl) rfl
  · refine q_aload_n (pc := 62) (dq D_m_lines_0_ok 36 rfl) rfl 0 rfl ?_
    refine r_invI (Mc := M_m_timely) (pc := 63) (ci := 11) (rest := []) 0 0 [] (dq D_m_lines_0_ok 37 rfl) rfl rfl lc_m_timely lv_m_timely_ ml_m_425 rfl rfl rfl rfl (t_m_timely v0 h) (fun r2 h1 => ?_)
    refine q_istore_n (pc := 66) (ls' := [(3, .int r2), (0, .ref v0), (1, .int v1), (2, .int v2)]) (dq D_m_lines_0_ok 38 rfl) rfl rfl rfl ?_
    refine q_aload_n (pc := 67) (dq D_m_lines_0_ok 39 rfl) rfl 1 rfl ?_
    refine q_iload_n (pc := 68) (dq D_m_lines_0_ok 40 rfl) rfl 0 rfl ?_
    refine r_invI (Mc := M_m_worthOf) (pc := 69) (ci := 11) (rest := []) 1 1 [.int r2] (dq D_m_lines_0_ok 41 rfl) rfl rfl lc_m_worthOf lv_m_worthOf_ ml_m_428 rfl rfl rfl rfl (t_m_worthOf v0 r2 h1) (fun r4 h3 => ?_)
    refine q_iload_n (pc := 72) (dq D_m_lines_0_ok 42 rfl) rfl 2 rfl ?_
    refine q_ic_le (pc := 73) 116 (dq D_m_lines_0_ok 43 rfl) rfl ?_ ?_
    · exact T.lsub [1, 2] rfl (tb_m_lines_116 hk58 v0 v1 h3)
    · refine q_aload_n (pc := 76) (dq D_m_lines_0_ok 44 rfl) rfl 1 rfl ?_
      refine q_iload_n (pc := 77) (dq D_m_lines_0_ok 45 rfl) rfl 0 rfl ?_
      refine r_invI (Mc := M_m_worthOf) (pc := 78) (ci := 11) (rest := []) 1 1 [.int r2] (dq D_m_lines_0_ok 46 rfl) rfl rfl lc_m_worthOf lv_m_worthOf_ ml_m_428 rfl rfl rfl rfl (t_m_worthOf v0 r2 h3) (fun r6 h5 => ?_)
      refine q_istore_n (pc := 81) (ls' := [(1, .int r6), (3, .int r2), (0, .ref v0), (2, .int v2)]) (dq D_m_lines_0_ok 47 rfl) rfl rfl rfl ?_
      refine q_aload_n (pc := 82) (dq D_m_lines_0_ok 48 rfl) rfl 2 rfl ?_
      refine q_iload_n (pc := 83) (dq D_m_lines_0_ok 49 rfl) rfl 1 rfl ?_
      refine r_putI (pc := 84) (dq D_m_lines_0_ok 50 rfl) fp_m_431 rfl rfl (fun h7 => ?_)
      refine q_ic0 (pc := 87) (dq D_m_lines_0_ok 51 rfl) ?_
      refine r_nmI (fun y8 => ?_)
      refine q_istore (pc := 88) (ls' := [(4, .int y8), (1, .int r6), (3, .int r2), (0, .ref v0), (2, .int v2)]) (dq D_m_lines_0_ok 52 rfl) rfl rfl ?_
      exact T.lsub [3, 1, 0] rfl (tl_m_lines_90 hk58 FU (v0, r6, y8) h7)
noncomputable def l_m_lines_58 : Nat → (Nat × Int32 × Int32) → Hp → Option (Int32 × Hp) := lp (fun k58 s h => b_m_lines_58 k58 s.1 s.2.1 s.2.2 h)
set_option maxHeartbeats 4000000 in
set_option maxRecDepth 20000 in
theorem tl_m_lines_58 {G : GG} (n : Nat) (s : Nat × Int32 × Int32) (h : Hp) : T G M_m_lines 4 cI 58 [(0, .ref s.1), (1, .int s.2.1), (2, .int s.2.2)] [] h (l_m_lines_58 n s h) :=
  T.loop (lsOf := fun s => [(0, .ref s.1), (1, .int s.2.1), (2, .int s.2.2)]) (fun k58 hk58 s h => tb_m_lines_58 hk58 s.1 s.2.1 s.2.2 h) n s h
noncomputable def b_m_lines_4 (k4 : (Nat × Int32 × Int32) → Hp → Option (Int32 × Hp)) (v0 : Nat) (v1 : Int32) (v2 : Int32) (h : Hp) : Option (Int32 × Hp) := gd (hS h v0 = some (.inl 11)) (bR (hR h v0 3) fun x1 => gd (hS h x1 = some (.inl 12)) (lt (hI h x1 5) fun x2 => if x2 ≤ v2 then (lt (1 : Int32) fun y3 => l_m_lines_58 FU (v0, v1, y3) h) else (gd (hS h v0 = some (.inl 11)) (bR (hR h v0 24) fun x4 => gd (ai h x4 0 v2) (lt (uI h x4 v2.toNatClampNeg v2) fun h5 => gd (hS h5 v0 = some (.inl 11)) (bR (hR h5 v0 26) fun x6 => gd (hS h5 v0 = some (.inl 11)) (bR (hR h5 v0 3) fun x7 => gd (hS h5 x7 = some (.inl 12)) (bR (hR h5 x7 21) fun x8 => gd (ai h5 x8 0 v2) (lt (hI h5 x8 v2.toNatClampNeg) fun x9 => gd (hS h5 v0 = some (.inl 11)) (bR (hR h5 v0 3) fun x10 => gd (hS h5 x10 = some (.inl 12)) (bR (hR h5 x10 21) fun x11 => gd (ai h5 x11 0 v2) (lt (hI h5 x11 v2.toNatClampNeg) fun x12 => gd (hS h5 v0 = some (.inl 11)) (bd (f_m_nextOf v0 x9 x12 h5) fun r14 h13 => gd (ai h13 x6 0 v2) (lt (uI h13 x6 v2.toNatClampNeg r14) fun h15 => k4 (v0, v1, v2 + 1) h15))))))))))))))
set_option maxHeartbeats 4000000 in
set_option maxRecDepth 20000 in
theorem tb_m_lines_4 {G : GG} {k4 : (Nat × Int32 × Int32) → Hp → Option (Int32 × Hp)} (hk4 : ∀ s h, T G M_m_lines 4 cI 4 [(0, .ref s.1), (1, .int s.2.1), (2, .int s.2.2)] [] h (k4 s h)) (v0 : Nat) (v1 : Int32) (v2 : Int32) (h : Hp) : T G M_m_lines 4 cI 4 [(0, .ref v0), (1, .int v1), (2, .int v2)] [] h (b_m_lines_4 k4 v0 v1 v2 h) := by
  unfold b_m_lines_4
  refine q_iload_n (pc := 4) (dq D_m_lines_0_ok 4 rfl) rfl 2 rfl ?_
  refine q_aload_n (pc := 5) (dq D_m_lines_0_ok 5 rfl) rfl 0 rfl ?_
  refine q_getR (pc := 6) (dq D_m_lines_0_ok 6 rfl) fa_m_348 rfl (fun x1 => ?_)
  refine r_getI (pc := 9) (dq D_m_lines_0_ok 7 rfl) fa_m_300 rfl (fun x2 => ?_)
  refine q_ic_ge (pc := 12) 56 (dq D_m_lines_0_ok 8 rfl) rfl ?_ ?_
  · refine q_ic1 (pc := 56) (dq D_m_lines_0_ok 32 rfl) ?_
    refine r_nmI (fun y3 => ?_)
    refine q_istore_n (pc := 57) (ls' := [(2, .int y3), (0, .ref v0), (1, .int v1)]) (dq D_m_lines_0_ok 33 rfl) rfl rfl rfl ?_
    exact T.lsub [1, 2, 0] rfl (tl_m_lines_58 FU (v0, v1, y3) h)
  · refine q_aload_n (pc := 15) (dq D_m_lines_0_ok 9 rfl) rfl 0 rfl ?_
    refine q_getR (pc := 16) (dq D_m_lines_0_ok 10 rfl) fa_m_33 rfl (fun x4 => ?_)
    refine q_iload_n (pc := 19) (dq D_m_lines_0_ok 11 rfl) rfl 2 rfl ?_
    refine q_iload_n (pc := 20) (dq D_m_lines_0_ok 12 rfl) rfl 2 rfl ?_
    refine r_iast (pc := 21) (dq D_m_lines_0_ok 13 rfl) (fun h5 => ?_)
    refine q_aload_n (pc := 22) (dq D_m_lines_0_ok 14 rfl) rfl 0 rfl ?_
    refine q_getR (pc := 23) (dq D_m_lines_0_ok 15 rfl) fa_m_39 rfl (fun x6 => ?_)
    refine q_iload_n (pc := 26) (dq D_m_lines_0_ok 16 rfl) rfl 2 rfl ?_
    refine q_aload_n (pc := 27) (dq D_m_lines_0_ok 17 rfl) rfl 0 rfl ?_
    refine q_aload_n (pc := 28) (dq D_m_lines_0_ok 18 rfl) rfl 0 rfl ?_
    refine q_getR (pc := 29) (dq D_m_lines_0_ok 19 rfl) fa_m_348 rfl (fun x7 => ?_)
    refine q_getR (pc := 32) (dq D_m_lines_0_ok 20 rfl) fa_m_314 rfl (fun x8 => ?_)
    refine q_iload_n (pc := 35) (dq D_m_lines_0_ok 21 rfl) rfl 2 rfl ?_
    refine r_iald (pc := 36) (dq D_m_lines_0_ok 22 rfl) (fun x9 => ?_)
    refine q_aload_n (pc := 37) (dq D_m_lines_0_ok 23 rfl) rfl 0 rfl ?_
    refine q_getR (pc := 38) (dq D_m_lines_0_ok 24 rfl) fa_m_348 rfl (fun x10 => ?_)
    refine q_getR (pc := 41) (dq D_m_lines_0_ok 25 rfl) fa_m_314 rfl (fun x11 => ?_)
    refine q_iload_n (pc := 44) (dq D_m_lines_0_ok 26 rfl) rfl 2 rfl ?_
    refine r_iald (pc := 45) (dq D_m_lines_0_ok 27 rfl) (fun x12 => ?_)
    refine r_invI (Mc := M_m_nextOf) (pc := 46) (ci := 11) (rest := [.int v2, .ref x6]) 3 2 [.int x9, .int x12] (dq D_m_lines_0_ok 28 rfl) rfl rfl lc_m_nextOf lv_m_nextOf_ ml_m_406 rfl rfl rfl rfl (t_m_nextOf v0 x9 x12 h5) (fun r14 h13 => ?_)
    refine r_iast (pc := 49) (dq D_m_lines_0_ok 29 rfl) (fun h15 => ?_)
    refine q_iinc (pc := 50) (v := (1)) (ls' := [(2, .int (v2 + 1)), (0, .ref v0), (1, .int v1)]) (dq D_m_lines_0_ok 30 rfl) 2 rfl (by decide) rfl rfl ?_
    refine q_goto (pc := 53) 4 (dq D_m_lines_0_ok 31 rfl) rfl ?_
    exact T.lsub [1, 2, 0] rfl (hk4 (v0, v1, v2 + 1) h15)
noncomputable def l_m_lines_4 : Nat → (Nat × Int32 × Int32) → Hp → Option (Int32 × Hp) := lp (fun k4 s h => b_m_lines_4 k4 s.1 s.2.1 s.2.2 h)
set_option maxHeartbeats 4000000 in
set_option maxRecDepth 20000 in
theorem tl_m_lines_4 {G : GG} (n : Nat) (s : Nat × Int32 × Int32) (h : Hp) : T G M_m_lines 4 cI 4 [(0, .ref s.1), (1, .int s.2.1), (2, .int s.2.2)] [] h (l_m_lines_4 n s h) :=
  T.loop (lsOf := fun s => [(0, .ref s.1), (1, .int s.2.1), (2, .int s.2.2)]) (fun k4 hk4 s h => tb_m_lines_4 hk4 s.1 s.2.1 s.2.2 h) n s h
noncomputable def f_m_lines (v0 : Nat) (h : Hp) : Option (Int32 × Hp) := lt ((-1) : Int32) fun y1 => lt (0 : Int32) fun y2 => l_m_lines_4 FU (v0, y1, y2) h
set_option maxHeartbeats 4000000 in
set_option maxRecDepth 20000 in
theorem t_m_lines {G : GG} (v0 : Nat) (h : Hp) : Mt G M_m_lines 4 [.ref v0] cI h (f_m_lines v0 h) := by
  refine Mt.ofF (by decide +kernel) rfl (Rt.i rfl rfl) ?_
  show T G M_m_lines 4 cI 0 [(0, .ref v0)] [] h _
  unfold f_m_lines
  refine q_icm1 (pc := 0) (dq D_m_lines_0_ok 0 rfl) ?_
  refine r_nmI (fun y1 => ?_)
  refine q_istore_n (pc := 1) (ls' := [(1, .int y1), (0, .ref v0)]) (dq D_m_lines_0_ok 1 rfl) rfl rfl rfl ?_
  refine q_ic0 (pc := 2) (dq D_m_lines_0_ok 2 rfl) ?_
  refine r_nmI (fun y2 => ?_)
  refine q_istore_n (pc := 3) (ls' := [(2, .int y2), (1, .int y1), (0, .ref v0)]) (dq D_m_lines_0_ok 3 rfl) rfl rfl rfl ?_
  exact T.lsub [2, 1, 0] rfl (tl_m_lines_4 FU (v0, y1, y2) h)
