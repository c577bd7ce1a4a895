noncomputable def b_m_back_32 (k32 : (Nat × Int32 × Int32) → Hp → Option (Int32 × Hp)) (v0 : Nat) (v1 : Int32) (v2 : Int32) (h : Hp) : Option (Int32 × Hp) := if 8 ≤ v2 then (gd (hS h v0 = some (.inl 11)) (lt (uI h v0 19 0) fun h1 => gd (hS h1 v0 = some (.inl 11)) (bd (f_m_granted v0 h1) fun r3 h2 => gd (zb r3) (some (r3, h2))))) else (gd (hS h v0 = some (.inl 11)) (bR (hR h v0 15) fun x4 => gd (hS h v0 = some (.inl 11)) (bR (hR h v0 18) fun x5 => gd (ai h x5 0 ((8 * v1) + v2)) (lt (hI h x5 ((8 * v1) + v2).toNatClampNeg) fun x6 => gd (ai h x4 0 v2) (lt (uI h x4 v2.toNatClampNeg x6) fun h7 => k32 (v0, v1, v2 + 1) h7)))))
set_option maxHeartbeats 4000000 in
set_option maxRecDepth 20000 in
theorem tb_m_back_32 {G : GG} {k32 : (Nat × Int32 × Int32) → Hp → Option (Int32 × Hp)} (hk32 : ∀ s h, T G M_m_back 2 cI 32 [(0, .ref s.1), (1, .int s.2.1), (2, .int s.2.2)] [] h (k32 s h)) (v0 : Nat) (v1 : Int32) (v2 : Int32) (h : Hp) : T G M_m_back 2 cI 32 [(0, .ref v0), (1, .int v1), (2, .int v2)] [] h (b_m_back_32 k32 v0 v1 v2 h) := by
  unfold b_m_back_32
  refine q_iload_n (pc := 32) (dq D_m_back_0_ok 18 rfl) rfl 2 rfl ?_
  refine q_bipush (pc := 33) (v := 8) (dq D_m_back_0_ok 19 rfl) (by decide) ?_
  refine q_ic_ge (pc := 35) 61 (dq D_m_back_0_ok 20 rfl) rfl ?_ ?_
  · refine q_aload_n (pc := 61) (dq D_m_back_0_ok 35 rfl) rfl 0 rfl ?_
    refine q_ic0 (pc := 62) (dq D_m_back_0_ok 36 rfl) ?_
    refine r_putI (pc := 63) (dq D_m_back_0_ok 37 rfl) fp_m_351 rfl rfl (fun h1 => ?_)
    refine q_aload_n (pc := 66) (dq D_m_back_0_ok 38 rfl) rfl 0 rfl ?_
    refine r_invI (Mc := M_m_granted) (pc := 67) (ci := 11) (rest := []) 1 0 [] (dq D_m_back_0_ok 39 rfl) rfl rfl lc_m_granted lv_m_granted_ ml_m_530 rfl rfl rfl rfl (t_m_granted v0 h1) (fun r3 h2 => ?_)
    exact r_retz (pc := 70) (dq D_m_back_0_ok 40 rfl) rfl
  · refine q_aload_n (pc := 38) (dq D_m_back_0_ok 21 rfl) rfl 0 rfl ?_
    refine q_getR (pc := 39) (dq D_m_back_0_ok 22 rfl) fa_m_17 rfl (fun x4 => ?_)
    refine q_iload_n (pc := 42) (dq D_m_back_0_ok 23 rfl) rfl 2 rfl ?_
    refine q_aload_n (pc := 43) (dq D_m_back_0_ok 24 rfl) rfl 0 rfl ?_
    refine q_getR (pc := 44) (dq D_m_back_0_ok 25 rfl) fa_m_27 rfl (fun x5 => ?_)
    refine q_bipush (pc := 47) (v := 8) (dq D_m_back_0_ok 26 rfl) (by decide) ?_
    refine q_iload_n (pc := 49) (dq D_m_back_0_ok 27 rfl) rfl 1 rfl ?_
    refine q_imul (pc := 50) (dq D_m_back_0_ok 28 rfl) ?_
    refine q_iload_n (pc := 51) (dq D_m_back_0_ok 29 rfl) rfl 2 rfl ?_
    refine q_iadd (pc := 52) (dq D_m_back_0_ok 30 rfl) ?_
    refine r_iald (pc := 53) (dq D_m_back_0_ok 31 rfl) (fun x6 => ?_)
    refine r_iast (pc := 54) (dq D_m_back_0_ok 32 rfl) (fun h7 => ?_)
    refine q_iinc (pc := 55) (v := (1)) (ls' := [(2, .int (v2 + 1)), (0, .ref v0), (1, .int v1)]) (dq D_m_back_0_ok 33 rfl) 2 rfl (by decide) rfl rfl ?_
    refine q_goto (pc := 58) 32 (dq D_m_back_0_ok 34 rfl) rfl ?_
    exact T.lsub [1, 2, 0] rfl (hk32 (v0, v1, v2 + 1) h7)
noncomputable def l_m_back_32 : Nat → (Nat × Int32 × Int32) → Hp → Option (Int32 × Hp) := lp (fun k32 s h => b_m_back_32 k32 s.1 s.2.1 s.2.2 h)
set_option maxHeartbeats 4000000 in
set_option maxRecDepth 20000 in
theorem tl_m_back_32 {G : GG} (n : Nat) (s : Nat × Int32 × Int32) (h : Hp) : T G M_m_back 2 cI 32 [(0, .ref s.1), (1, .int s.2.1), (2, .int s.2.2)] [] h (l_m_back_32 n s h) :=
  T.loop (lsOf := fun s => [(0, .ref s.1), (1, .int s.2.1), (2, .int s.2.2)]) (fun k32 hk32 s h => tb_m_back_32 hk32 s.1 s.2.1 s.2.2 h) n s h
noncomputable def b_m_back_24 (v0 : Nat) (h : Hp) : Option (Int32 × Hp) := gd (hS h v0 = some (.inl 11)) (bd (f_m_denied v0 (1 : Int32) h) fun r2 h1 => gd (zb r2) (some (r2, h1)))
set_option maxHeartbeats 4000000 in
set_option maxRecDepth 20000 in
theorem tb_m_back_24 {G : GG} (v0 : Nat) (h : Hp) : T G M_m_back 2 cI 24 [(0, .ref v0)] [] h (b_m_back_24 v0 h) := by
  unfold b_m_back_24
  refine q_aload_n (pc := 24) (dq D_m_back_0_ok 12 rfl) rfl 0 rfl ?_
  refine q_ic1 (pc := 25) (dq D_m_back_0_ok 13 rfl) ?_
  refine r_invI (Mc := M_m_denied) (pc := 26) (ci := 11) (rest := []) 1 1 [.int 1] (dq D_m_back_0_ok 14 rfl) rfl rfl lc_m_denied lv_m_denied_ ml_m_527 rfl rfl rfl rfl (t_m_denied v0 (1 : Int32) h) (fun r2 h1 => ?_)
  exact r_retz (pc := 29) (dq D_m_back_0_ok 15 rfl) rfl
noncomputable def f_m_back (v0 : Nat) (v1 : Int32) (h : Hp) : Option (Int32 × Hp) := gd (hS h v0 = some (.inl 11)) (lt (uI h v0 0 0) fun h1 => gd (hS h1 v0 = some (.inl 11)) (if hR h1 v0 3 = none then (b_m_back_24 v0 h1) else (if v1 < 0 then (b_m_back_24 v0 h1) else (gd (hS h1 v0 = some (.inl 11)) (lt (hI h1 v0 20) fun x3 => if v1 < x3 then (lt (0 : Int32) fun y4 => l_m_back_32 FU (v0, v1, y4) h1) else (b_m_back_24 v0 h1))))))
set_option maxHeartbeats 4000000 in
set_option maxRecDepth 20000 in
theorem t_m_back {G : GG} (v0 : Nat) (v1 : Int32) (h : Hp) : Mt G M_m_back 2 [.ref v0, .int v1] cI h (f_m_back v0 v1 h) := by
  refine Mt.ofF (by decide +kernel) rfl (Rt.z rfl rfl) ?_
  show T G M_m_back 2 cI 0 [(0, .ref v0), (1, .int v1)] [] h _
  unfold f_m_back
  refine q_aload_n (pc := 0) (dq D_m_back_0_ok 0 rfl) rfl 0 rfl ?_
  refine q_ic0 (pc := 1) (dq D_m_back_0_ok 1 rfl) ?_
  refine r_putI (pc := 2) (dq D_m_back_0_ok 2 rfl) fp_m_54 rfl rfl (fun h1 => ?_)
  refine q_aload_n (pc := 5) (dq D_m_back_0_ok 3 rfl) rfl 0 rfl ?_
  refine q_getnu (pc := 6) 24 (dq D_m_back_0_ok 4 rfl) (dq D_m_back_0_ok 5 rfl) rfl fa_m_348 rfl ?_ ?_
  · exact T.lsub [0] rfl (tb_m_back_24 v0 h1)
  · refine q_iload_n (pc := 12) (dq D_m_back_0_ok 6 rfl) rfl 1 rfl ?_
    refine p_if_lt (pc := 13) 24 (dq D_m_back_0_ok 7 rfl) rfl ?_ ?_
    · exact T.lsub [0] rfl (tb_m_back_24 v0 h1)
    · refine q_iload_n (pc := 16) (dq D_m_back_0_ok 8 rfl) rfl 1 rfl ?_
      refine q_aload_n (pc := 17) (dq D_m_back_0_ok 9 rfl) rfl 0 rfl ?_
      refine r_getI (pc := 18) (dq D_m_back_0_ok 10 rfl) fa_m_354 rfl (fun x3 => ?_)
      refine q_ic_lt (pc := 21) 30 (dq D_m_back_0_ok 11 rfl) rfl ?_ ?_
      · refine q_ic0 (pc := 30) (dq D_m_back_0_ok 16 rfl) ?_
        refine r_nmI (fun y4 => ?_)
        refine q_istore_n (pc := 31) (ls' := [(2, .int y4), (0, .ref v0), (1, .int v1)]) (dq D_m_back_0_ok 17 rfl) rfl rfl rfl ?_
        exact T.lsub [1, 2, 0] rfl (tl_m_back_32 FU (v0, v1, y4) h1)
      · exact T.lsub [0] rfl (tb_m_back_24 v0 h1)
noncomputable def b_m_led_74 (v0 : Nat) (h : Hp) : Option (Int32 × Hp) := gd (hS h v0 = some (.inl 11)) (lt (uI h v0 0 1) fun h1 => some (0, h1))
set_option maxHeartbeats 4000000 in
set_option maxRecDepth 20000 in
theorem tb_m_led_74 {G : GG} (v0 : Nat) (h : Hp) : T G M_m_led 3 cI 74 [(0, .ref v0)] [] h (b_m_led_74 v0 h) := by
  unfold b_m_led_74
  refine q_aload_n (pc := 74) (dq D_m_led_0_ok 36 rfl) rfl 0 rfl ?_
  refine q_ic1 (pc := 75) (dq D_m_led_0_ok 37 rfl) ?_
  refine r_putI (pc := 76) (dq D_m_led_0_ok 38 rfl) fp_m_54 rfl rfl (fun h1 => ?_)
  refine q_ic0 (pc := 79) (dq D_m_led_0_ok 39 rfl) ?_
  exact r_reti (pc := 80) (dq D_m_led_0_ok 40 rfl) rfl
noncomputable def b_m_led_68 (k26 : (Nat × Int32 × Int32 × Int32 × Int32) → Hp → Option (Int32 × Hp)) (v0 : Nat) (v1 : Int32) (v2 : Int32) (v3 : Int32) (v4 : Int32) (h : Hp) : Option (Int32 × Hp) := k26 (v0, v1, v2, v3, v4 + 1) h
set_option maxHeartbeats 4000000 in
set_option maxRecDepth 20000 in
theorem tb_m_led_68 {G : GG} {k26 : (Nat × Int32 × Int32 × Int32 × Int32) → Hp → Option (Int32 × Hp)} (hk26 : ∀ s h, T G M_m_led 3 cI 26 [(0, .ref s.1), (1, .int s.2.1), (2, .int s.2.2.1), (3, .int s.2.2.2.1), (4, .int s.2.2.2.2)] [] h (k26 s h)) (v0 : Nat) (v1 : Int32) (v2 : Int32) (v3 : Int32) (v4 : Int32) (h : Hp) : T G M_m_led 3 cI 68 [(0, .ref v0), (1, .int v1), (2, .int v2), (3, .int v3), (4, .int v4)] [] h (b_m_led_68 k26 v0 v1 v2 v3 v4 h) := by
  unfold b_m_led_68
  refine q_iinc (pc := 68) (v := (1)) (ls' := [(4, .int (v4 + 1)), (0, .ref v0), (1, .int v1), (2, .int v2), (3, .int v3)]) (dq D_m_led_0_ok 34 rfl) 4 rfl (by decide) rfl rfl ?_
  refine q_goto (pc := 71) 26 (dq D_m_led_0_ok 35 rfl) rfl ?_
  exact T.lsub [1, 2, 3, 4, 0] rfl (hk26 (v0, v1, v2, v3, v4 + 1) h)
noncomputable def b_m_led_26 (k26 : (Nat × Int32 × Int32 × Int32 × Int32) → Hp → Option (Int32 × Hp)) (v0 : Nat) (v1 : Int32) (v2 : Int32) (v3 : Int32) (v4 : Int32) (h : Hp) : Option (Int32 × Hp) := gd (hS h v0 = some (.inl 11)) (if hR h v0 3 = none then (b_m_led_74 v0 h) else (gd (hS h v0 = some (.inl 11)) (bR (hR h v0 3) fun x2 => gd (hS h x2 = some (.inl 12)) (lt (hI h x2 4) fun x3 => if x3 ≤ v4 then (b_m_led_74 v0 h) else (bd (f_m_bit v3 v4 h) fun r5 h4 => if r5 = 0 then (b_m_led_68 k26 v0 v1 v2 v3 v4 h4) else (if v2 = v1 then (some (v4, h4)) else (b_m_led_68 k26 v0 v1 (v2 + 1) v3 v4 h4)))))))
set_option maxHeartbeats 4000000 in
set_option maxRecDepth 20000 in
theorem tb_m_led_26 {G : GG} {k26 : (Nat × Int32 × Int32 × Int32 × Int32) → Hp → Option (Int32 × Hp)} (hk26 : ∀ s h, T G M_m_led 3 cI 26 [(0, .ref s.1), (1, .int s.2.1), (2, .int s.2.2.1), (3, .int s.2.2.2.1), (4, .int s.2.2.2.2)] [] h (k26 s h)) (v0 : Nat) (v1 : Int32) (v2 : Int32) (v3 : Int32) (v4 : Int32) (h : Hp) : T G M_m_led 3 cI 26 [(0, .ref v0), (1, .int v1), (2, .int v2), (3, .int v3), (4, .int v4)] [] h (b_m_led_26 k26 v0 v1 v2 v3 v4 h) := by
  unfold b_m_led_26
  refine q_aload_n (pc := 26) (dq D_m_led_0_ok 15 rfl) rfl 0 rfl ?_
  refine q_getnu (pc := 27) 74 (dq D_m_led_0_ok 16 rfl) (dq D_m_led_0_ok 17 rfl) rfl fa_m_348 rfl ?_ ?_
  · exact T.lsub [0] rfl (tb_m_led_74 v0 h)
  · refine q_iload (pc := 33) (dq D_m_led_0_ok 18 rfl) 4 rfl ?_
    refine q_aload_n (pc := 35) (dq D_m_led_0_ok 19 rfl) rfl 0 rfl ?_
    refine q_getR (pc := 36) (dq D_m_led_0_ok 20 rfl) fa_m_348 rfl (fun x2 => ?_)
    refine r_getI (pc := 39) (dq D_m_led_0_ok 21 rfl) fa_m_289 rfl (fun x3 => ?_)
    refine q_ic_ge (pc := 42) 74 (dq D_m_led_0_ok 22 rfl) rfl ?_ ?_
    · exact T.lsub [0] rfl (tb_m_led_74 v0 h)
    · refine q_iload_n (pc := 45) (dq D_m_led_0_ok 23 rfl) rfl 3 rfl ?_
      refine q_iload (pc := 46) (dq D_m_led_0_ok 24 rfl) 4 rfl ?_
      refine r_insI (Mc := M_m_bit) (pc := 48) (rest := []) 0 2 [.int v3, .int v4] (dq D_m_led_0_ok 25 rfl) lc_m_bit ls_m_bit ml_m_292 rfl rfl rfl rfl (t_m_bit v3 v4 h) (fun r5 h4 => ?_)
      refine p_if_ne (pc := 51) 57 (dq D_m_led_0_ok 26 rfl) rfl ?_ ?_
      · refine q_iload_n (pc := 57) (dq D_m_led_0_ok 28 rfl) rfl 2 rfl ?_
        refine q_iload_n (pc := 58) (dq D_m_led_0_ok 29 rfl) rfl 1 rfl ?_
        refine q_ic_ne (pc := 59) 65 (dq D_m_led_0_ok 30 rfl) rfl ?_ ?_
        · refine q_iinc (pc := 65) (v := (1)) (ls' := [(2, .int (v2 + 1)), (0, .ref v0), (1, .int v1), (3, .int v3), (4, .int v4)]) (dq D_m_led_0_ok 33 rfl) 2 rfl (by decide) rfl rfl ?_
          exact T.lsub [1, 2, 0, 3, 4] rfl (tb_m_led_68 hk26 v0 v1 (v2 + 1) v3 v4 h4)
        · refine q_iload (pc := 62) (dq D_m_led_0_ok 31 rfl) 4 rfl ?_
          exact r_reti (pc := 64) (dq D_m_led_0_ok 32 rfl) rfl
      · refine q_goto (pc := 54) 68 (dq D_m_led_0_ok 27 rfl) rfl ?_
        exact T.lsub [0, 1, 2, 3, 4] rfl (tb_m_led_68 hk26 v0 v1 v2 v3 v4 h4)
noncomputable def l_m_led_26 : Nat → (Nat × Int32 × Int32 × Int32 × Int32) → Hp → Option (Int32 × Hp) := lp (fun k26 s h => b_m_led_26 k26 s.1 s.2.1 s.2.2.1 s.2.2.2.1 s.2.2.2.2 h)
set_option maxHeartbeats 4000000 in
set_option maxRecDepth 20000 in
theorem tl_m_led_26 {G : GG} (n : Nat) (s : Nat × Int32 × Int32 × Int32 × Int32) (h : Hp) : T G M_m_led 3 cI 26 [(0, .ref s.1), (1, .int s.2.1), (2, .int s.2.2.1), (3, .int s.2.2.2.1), (4, .int s.2.2.2.2)] [] h (l_m_led_26 n s h) :=
  T.loop (lsOf := fun s => [(0, .ref s.1), (1, .int s.2.1), (2, .int s.2.2.1), (3, .int s.2.2.2.1), (4, .int s.2.2.2.2)]) (fun k26 hk26 s h => tb_m_led_26 hk26 s.1 s.2.1 s.2.2.1 s.2.2.2.1 s.2.2.2.2 h) n s h
noncomputable def b_m_led_22 (v0 : Nat) (v1 : Int32) (v2 : Int32) (s0 : Int32) (h : Hp) : Option (Int32 × Hp) := lt (0 : Int32) fun y1 => l_m_led_26 FU (v0, v1, v2, s0, y1) h
set_option maxHeartbeats 4000000 in
set_option maxRecDepth 20000 in
theorem tb_m_led_22 {G : GG} (v0 : Nat) (v1 : Int32) (v2 : Int32) (s0 : Int32) (h : Hp) : T G M_m_led 3 cI 22 [(0, .ref v0), (1, .int v1), (2, .int v2)] [.int s0] h (b_m_led_22 v0 v1 v2 s0 h) := by
  unfold b_m_led_22
  refine q_istore_n (pc := 22) (ls' := [(3, .int s0), (0, .ref v0), (1, .int v1), (2, .int v2)]) (dq D_m_led_0_ok 12 rfl) rfl rfl rfl ?_
  refine q_ic0 (pc := 23) (dq D_m_led_0_ok 13 rfl) ?_
  refine r_nmI (fun y1 => ?_)
  refine q_istore (pc := 24) (ls' := [(4, .int y1), (3, .int s0), (0, .ref v0), (1, .int v1), (2, .int v2)]) (dq D_m_led_0_ok 14 rfl) rfl rfl ?_
  exact T.lsub [2, 3, 4, 1, 0] rfl (tl_m_led_26 FU (v0, v1, v2, s0, y1) h)
noncomputable def f_m_led (v0 : Nat) (v1 : Int32) (h : Hp) : Option (Int32 × Hp) := gd (hS h v0 = some (.inl 11)) (lt (uI h v0 0 0) fun h1 => lt (0 : Int32) fun y2 => gd (hS h1 v0 = some (.inl 11)) (if hR h1 v0 3 = none then (b_m_led_22 v0 v1 y2 0 h1) else (gd (hS h1 v0 = some (.inl 11)) (bd (f_m_onNow v0 h1) fun r5 h4 => b_m_led_22 v0 v1 y2 r5 h4))))
set_option maxHeartbeats 4000000 in
set_option maxRecDepth 20000 in
theorem t_m_led {G : GG} (v0 : Nat) (v1 : Int32) (h : Hp) : Mt G M_m_led 3 [.ref v0, .int v1] cI h (f_m_led v0 v1 h) := by
  refine Mt.ofF (by decide +kernel) rfl (Rt.i rfl rfl) ?_
  show T G M_m_led 3 cI 0 [(0, .ref v0), (1, .int v1)] [] h _
  unfold f_m_led
  refine q_aload_n (pc := 0) (dq D_m_led_0_ok 0 rfl) rfl 0 rfl ?_
  refine q_ic0 (pc := 1) (dq D_m_led_0_ok 1 rfl) ?_
  refine r_putI (pc := 2) (dq D_m_led_0_ok 2 rfl) fp_m_54 rfl rfl (fun h1 => ?_)
  refine q_ic0 (pc := 5) (dq D_m_led_0_ok 3 rfl) ?_
  refine r_nmI (fun y2 => ?_)
  refine q_istore_n (pc := 6) (ls' := [(2, .int y2), (0, .ref v0), (1, .int v1)]) (dq D_m_led_0_ok 4 rfl) rfl rfl rfl ?_
  refine q_aload_n (pc := 7) (dq D_m_led_0_ok 5 rfl) rfl 1 rfl ?_
  refine q_getnn (pc := 8) 18 (dq D_m_led_0_ok 6 rfl) (dq D_m_led_0_ok 7 rfl) rfl fa_m_348 rfl ?_ ?_
  · refine q_aload_n (pc := 18) (dq D_m_led_0_ok 10 rfl) rfl 1 rfl ?_
    refine r_invI (Mc := M_m_onNow) (pc := 19) (ci := 11) (rest := []) 2 0 [] (dq D_m_led_0_ok 11 rfl) rfl rfl lc_m_onNow lv_m_onNow_ ml_m_388 rfl rfl rfl rfl (t_m_onNow v0 h1) (fun r5 h4 => ?_)
    exact T.lsub [1, 2, 0] rfl (tb_m_led_22 v0 v1 y2 r5 h4)
  · refine q_ic0 (pc := 14) (dq D_m_led_0_ok 8 rfl) ?_
    refine q_goto (pc := 15) 22 (dq D_m_led_0_ok 9 rfl) rfl ?_
    exact T.lsub [1, 2, 0] rfl (tb_m_led_22 v0 v1 y2 0 h1)
noncomputable def f_m_size (v0 : Nat) (v1 : Int32) (h : Hp) : Option (Int32 × Hp) := gd (hS h v0 = some (.inl 11)) (lt (uI h v0 0 0) fun h1 => if v1 = 10 then (gd (hS h1 v0 = some (.inl 11)) (lt (hI h1 v0 6) fun x23 => some (x23, h1))) else (bd (f_m_in v1 (0 : Int32) (9 : Int32) h1) fun r3 h2 => if r3 = 0 then (some ((-1), h2)) else (gd (hS h2 v0 = some (.inl 11)) (if hR h2 v0 3 = none then (some (0, h2)) else (if v1 = 0 then (gd (hS h2 v0 = some (.inl 11)) (bR (hR h2 v0 3) fun x5 => gd (hS h2 x5 = some (.inl 12)) (lt (hI h2 x5 1) fun x6 => some (x6, h2)))) else (if v1 = 1 then (gd (hS h2 v0 = some (.inl 11)) (bR (hR h2 v0 3) fun x7 => gd (hS h2 x7 = some (.inl 12)) (lt (hI h2 x7 2) fun x8 => some (x8, h2)))) else (if v1 = 2 then (gd (hS h2 v0 = some (.inl 11)) (bR (hR h2 v0 3) fun x9 => gd (hS h2 x9 = some (.inl 12)) (lt (hI h2 x9 3) fun x10 => some (x10, h2)))) else (if v1 = 3 then (gd (hS h2 v0 = some (.inl 11)) (bR (hR h2 v0 3) fun x11 => gd (hS h2 x11 = some (.inl 12)) (lt (hI h2 x11 4) fun x12 => some (x12, h2)))) else (if v1 = 4 then (gd (hS h2 v0 = some (.inl 11)) (bR (hR h2 v0 3) fun x13 => gd (hS h2 x13 = some (.inl 12)) (lt (hI h2 x13 5) fun x14 => some (x14, h2)))) else (if v1 = 5 then (gd (hS h2 v0 = some (.inl 11)) (bR (hR h2 v0 3) fun x15 => gd (hS h2 x15 = some (.inl 12)) (lt (hI h2 x15 6) fun x16 => some (x16, h2)))) else (if v1 = 6 then (gd (hS h2 v0 = some (.inl 11)) (bR (hR h2 v0 3) fun x17 => gd (hS h2 x17 = some (.inl 12)) (lt (hI h2 x17 7) fun x18 => if x18 = ((-1)) then (some (0, h2)) else (some (1, h2))))) else (if v1 = 7 then (gd (hS h2 v0 = some (.inl 11)) (bR (hR h2 v0 3) fun x19 => gd (hS h2 x19 = some (.inl 12)) (lt (hI h2 x19 8) fun x20 => some (x20, h2)))) else (if v1 = 8 then (gd (hS h2 v0 = some (.inl 11)) (lt (hI h2 v0 19) fun x21 => some (x21, h2))) else (gd (hS h2 v0 = some (.inl 11)) (lt (hI h2 v0 20) fun x22 => some (x22, h2))))))))))))))))
set_option maxHeartbeats 4000000 in
set_option maxRecDepth 20000 in
theorem t_m_size {G : GG} (v0 : Nat) (v1 : Int32) (h : Hp) : Mt G M_m_size 1 [.ref v0, .int v1] cI h (f_m_size v0 v1 h) := by
  refine Mt.ofF (by decide +kernel) rfl (Rt.i rfl rfl) ?_
  show T G M_m_size 1 cI 0 [(0, .ref v0), (1, .int v1)] [] h _
  unfold f_m_size
  refine q_aload_n (pc := 0) (dq D_m_size_0_ok 0 rfl) rfl 0 rfl ?_
  refine q_ic0 (pc := 1) (dq D_m_size_0_ok 1 rfl) ?_
  refine r_putI (pc := 2) (dq D_m_size_0_ok 2 rfl) fp_m_54 rfl rfl (fun h1 => ?_)
  refine q_iload_n (pc := 5) (dq D_m_size_0_ok 3 rfl) rfl 1 rfl ?_
  refine q_bipush (pc := 6) (v := 10) (dq D_m_size_0_ok 4 rfl) (by decide) ?_
  refine q_ic_ne (pc := 8) 16 (dq D_m_size_0_ok 5 rfl) rfl ?_ ?_
  · refine q_iload_n (pc := 16) (dq D_m_size_0_ok 9 rfl) rfl 1 rfl ?_
    refine q_ic0 (pc := 17) (dq D_m_size_0_ok 10 rfl) ?_
    refine q_bipush (pc := 18) (v := 9) (dq D_m_size_0_ok 11 rfl) (by decide) ?_
    refine r_insI (Mc := M_m_in) (pc := 20) (rest := []) 0 3 [.int v1, .int 0, .int 9] (dq D_m_size_0_ok 12 rfl) lc_m_in ls_m_in ml_m_133 rfl rfl rfl rfl (t_m_in v1 (0 : Int32) (9 : Int32) h1) (fun r3 h2 => ?_)
    refine p_if_ne (pc := 23) 28 (dq D_m_size_0_ok 13 rfl) rfl ?_ ?_
    · refine q_aload_n (pc := 28) (dq D_m_size_0_ok 16 rfl) rfl 0 rfl ?_
      refine q_getnn (pc := 29) 37 (dq D_m_size_0_ok 17 rfl) (dq D_m_size_0_ok 18 rfl) rfl fa_m_348 rfl ?_ ?_
      · refine q_iload_n (pc := 37) (dq D_m_size_0_ok 21 rfl) rfl 1 rfl ?_
        refine T.ite (fun e => ?_) (fun n0 => ?_)
        · refine r_tin (pc := 38) (c := 0) 88 (dq D_m_size_0_ok 22 rfl) e (by decide) (by decide) rfl rfl ?_
          refine q_aload_n (pc := 88) (dq D_m_size_0_ok 23 rfl) rfl 0 rfl ?_
          refine q_getR (pc := 89) (dq D_m_size_0_ok 24 rfl) fa_m_348 rfl (fun x5 => ?_)
          refine r_getI (pc := 92) (dq D_m_size_0_ok 25 rfl) fa_m_239 rfl (fun x6 => ?_)
          exact r_reti (pc := 95) (dq D_m_size_0_ok 26 rfl) rfl
        refine T.ite (fun e => ?_) (fun n1 => ?_)
        · refine r_tin (pc := 38) (c := 1) 96 (dq D_m_size_0_ok 22 rfl) e (by decide) (by decide) rfl rfl ?_
          refine q_aload_n (pc := 96) (dq D_m_size_0_ok 27 rfl) rfl 0 rfl ?_
          refine q_getR (pc := 97) (dq D_m_size_0_ok 28 rfl) fa_m_348 rfl (fun x7 => ?_)
          refine r_getI (pc := 100) (dq D_m_size_0_ok 29 rfl) fa_m_205 rfl (fun x8 => ?_)
          exact r_reti (pc := 103) (dq D_m_size_0_ok 30 rfl) rfl
        refine T.ite (fun e => ?_) (fun n2 => ?_)
        · refine r_tin (pc := 38) (c := 2) 104 (dq D_m_size_0_ok 22 rfl) e (by decide) (by decide) rfl rfl ?_
          refine q_aload_n (pc := 104) (dq D_m_size_0_ok 31 rfl) rfl 0 rfl ?_
          refine q_getR (pc := 105) (dq D_m_size_0_ok 32 rfl) fa_m_348 rfl (fun x9 => ?_)
          refine r_getI (pc := 108) (dq D_m_size_0_ok 33 rfl) fa_m_286 rfl (fun x10 => ?_)
          exact r_reti (pc := 111) (dq D_m_size_0_ok 34 rfl) rfl
        refine T.ite (fun e => ?_) (fun n3 => ?_)
        · refine r_tin (pc := 38) (c := 3) 112 (dq D_m_size_0_ok 22 rfl) e (by decide) (by decide) rfl rfl ?_
          refine q_aload_n (pc := 112) (dq D_m_size_0_ok 35 rfl) rfl 0 rfl ?_
          refine q_getR (pc := 113) (dq D_m_size_0_ok 36 rfl) fa_m_348 rfl (fun x11 => ?_)
          refine r_getI (pc := 116) (dq D_m_size_0_ok 37 rfl) fa_m_289 rfl (fun x12 => ?_)
          exact r_reti (pc := 119) (dq D_m_size_0_ok 38 rfl) rfl
        refine T.ite (fun e => ?_) (fun n4 => ?_)
        · refine r_tin (pc := 38) (c := 4) 120 (dq D_m_size_0_ok 22 rfl) e (by decide) (by decide) rfl rfl ?_
          refine q_aload_n (pc := 120) (dq D_m_size_0_ok 39 rfl) rfl 0 rfl ?_
          refine q_getR (pc := 121) (dq D_m_size_0_ok 40 rfl) fa_m_348 rfl (fun x13 => ?_)
          refine r_getI (pc := 124) (dq D_m_size_0_ok 41 rfl) fa_m_300 rfl (fun x14 => ?_)
          exact r_reti (pc := 127) (dq D_m_size_0_ok 42 rfl) rfl
        refine T.ite (fun e => ?_) (fun n5 => ?_)
        · refine r_tin (pc := 38) (c := 5) 128 (dq D_m_size_0_ok 22 rfl) e (by decide) (by decide) rfl rfl ?_
          refine q_aload_n (pc := 128) (dq D_m_size_0_ok 43 rfl) rfl 0 rfl ?_
          refine q_getR (pc := 129) (dq D_m_size_0_ok 44 rfl) fa_m_348 rfl (fun x15 => ?_)
          refine r_getI (pc := 132) (dq D_m_size_0_ok 45 rfl) fa_m_325 rfl (fun x16 => ?_)
          exact r_reti (pc := 135) (dq D_m_size_0_ok 46 rfl) rfl
        refine T.ite (fun e => ?_) (fun n6 => ?_)
        · refine r_tin (pc := 38) (c := 6) 136 (dq D_m_size_0_ok 22 rfl) e (by decide) (by decide) rfl rfl ?_
          refine q_aload_n (pc := 136) (dq D_m_size_0_ok 47 rfl) rfl 0 rfl ?_
          refine q_getR (pc := 137) (dq D_m_size_0_ok 48 rfl) fa_m_348 rfl (fun x17 => ?_)
          refine r_getI (pc := 140) (dq D_m_size_0_ok 49 rfl) fa_m_278 rfl (fun x18 => ?_)
          refine q_icm1 (pc := 143) (dq D_m_size_0_ok 50 rfl) ?_
          refine q_ic_ne (pc := 144) 151 (dq D_m_size_0_ok 51 rfl) rfl ?_ ?_
          · refine q_ic1 (pc := 151) (dq D_m_size_0_ok 54 rfl) ?_
            exact r_reti (pc := 152) (dq D_m_size_0_ok 55 rfl) rfl
          · refine q_ic0 (pc := 147) (dq D_m_size_0_ok 52 rfl) ?_
            refine q_goto (pc := 148) 152 (dq D_m_size_0_ok 53 rfl) rfl ?_
            exact r_reti (pc := 152) (dq D_m_size_0_ok 55 rfl) rfl
        refine T.ite (fun e => ?_) (fun n7 => ?_)
        · refine r_tin (pc := 38) (c := 7) 153 (dq D_m_size_0_ok 22 rfl) e (by decide) (by decide) rfl rfl ?_
          refine q_aload_n (pc := 153) (dq D_m_size_0_ok 56 rfl) rfl 0 rfl ?_
          refine q_getR (pc := 154) (dq D_m_size_0_ok 57 rfl) fa_m_348 rfl (fun x19 => ?_)
          refine r_getI (pc := 157) (dq D_m_size_0_ok 58 rfl) fa_m_328 rfl (fun x20 => ?_)
          exact r_reti (pc := 160) (dq D_m_size_0_ok 59 rfl) rfl
        refine T.ite (fun e => ?_) (fun n8 => ?_)
        · refine r_tin (pc := 38) (c := 8) 161 (dq D_m_size_0_ok 22 rfl) e (by decide) (by decide) rfl rfl ?_
          refine q_aload_n (pc := 161) (dq D_m_size_1_ok 0 rfl) rfl 0 rfl ?_
          refine r_getI (pc := 162) (dq D_m_size_1_ok 1 rfl) fa_m_351 rfl (fun x21 => ?_)
          exact r_reti (pc := 165) (dq D_m_size_1_ok 2 rfl) rfl
        refine r_tout (pc := 38) 166 (dq D_m_size_0_ok 22 rfl) (by have e0 := int_ne (z := 0) n0 (by decide); have e1 := int_ne (z := 1) n1 (by decide); have e2 := int_ne (z := 2) n2 (by decide); have e3 := int_ne (z := 3) n3 (by decide); have e4 := int_ne (z := 4) n4 (by decide); have e5 := int_ne (z := 5) n5 (by decide); have e6 := int_ne (z := 6) n6 (by decide); have e7 := int_ne (z := 7) n7 (by decide); have e8 := int_ne (z := 8) n8 (by decide); omega) rfl ?_
        refine q_aload_n (pc := 166) (dq D_m_size_1_ok 3 rfl) rfl 0 rfl ?_
        refine r_getI (pc := 167) (dq D_m_size_1_ok 4 rfl) fa_m_354 rfl (fun x22 => ?_)
        exact r_reti (pc := 170) (dq D_m_size_1_ok 5 rfl) rfl
      · refine q_ic0 (pc := 35) (dq D_m_size_0_ok 19 rfl) ?_
        exact r_reti (pc := 36) (dq D_m_size_0_ok 20 rfl) rfl
    · refine q_icm1 (pc := 26) (dq D_m_size_0_ok 14 rfl) ?_
      exact r_reti (pc := 27) (dq D_m_size_0_ok 15 rfl) rfl
  · refine q_aload_n (pc := 11) (dq D_m_size_0_ok 6 rfl) rfl 0 rfl ?_
    refine r_getI (pc := 12) (dq D_m_size_0_ok 7 rfl) fa_m_341 rfl (fun x23 => ?_)
    exact r_reti (pc := 15) (dq D_m_size_0_ok 8 rfl) rfl
noncomputable def f_m_trouble (v0 : Nat) (h : Hp) : Option (Int32 × Hp) := gd (hS h v0 = some (.inl 11)) (lt (uI h v0 0 0) fun h1 => gd (hS h1 v0 = some (.inl 11)) (lt (hI h1 v0 1) fun x2 => some (x2, h1)))
set_option maxHeartbeats 4000000 in
set_option maxRecDepth 20000 in
theorem t_m_trouble {G : GG} (v0 : Nat) (h : Hp) : Mt G M_m_trouble 0 [.ref v0] cI h (f_m_trouble v0 h) := by
  refine Mt.ofF (by decide +kernel) rfl (Rt.i rfl rfl) ?_
  show T G M_m_trouble 0 cI 0 [(0, .ref v0)] [] h _
  unfold f_m_trouble
  refine q_aload_n (pc := 0) (dq D_m_trouble_0_ok 0 rfl) rfl 0 rfl ?_
  refine q_ic0 (pc := 1) (dq D_m_trouble_0_ok 1 rfl) ?_
  refine r_putI (pc := 2) (dq D_m_trouble_0_ok 2 rfl) fp_m_54 rfl rfl (fun h1 => ?_)
  refine q_aload_n (pc := 5) (dq D_m_trouble_0_ok 3 rfl) rfl 0 rfl ?_
  refine r_getI (pc := 6) (dq D_m_trouble_0_ok 4 rfl) fa_m_57 rfl (fun x2 => ?_)
  exact r_reti (pc := 9) (dq D_m_trouble_0_ok 5 rfl) rfl
