noncomputable def f_R_init (v0 : Nat) (h : Hp) : Option (Unit × Hp) := gd (1 ≤ (hB h).1 ∧ 13 ≤ (hB h).2) (lt (hN h) fun a1 => lt (uN h (.inr (1, 13)) 13) fun h2 => gd (hS h2 v0 = some (.inl 1)) (lt (uR h2 v0 13 (some a1)) fun h3 => gd (1 ≤ (hB h3).1 ∧ 13 ≤ (hB h3).2) (lt (hN h3) fun a4 => lt (uN h3 (.inr (0, 13)) 13) fun h5 => gd (hS h5 v0 = some (.inl 1)) (lt (uR h5 v0 14 (some a4)) fun h6 => gd (1 ≤ (hB h6).1 ∧ 13 ≤ (hB h6).2) (lt (hN h6) fun a7 => lt (uN h6 (.inr (0, 13)) 13) fun h8 => gd (hS h8 v0 = some (.inl 1)) (lt (uR h8 v0 15 (some a7)) fun h9 => some ((), h9)))))))
set_option maxHeartbeats 4000000 in
set_option maxRecDepth 20000 in
theorem t_R_init {G : GG} (v0 : Nat) (h : Hp) : Mt G M_R_init 1 [.ref v0] cU h (f_R_init v0 h) := by
  refine Mt.ofF (by decide +kernel) rfl (Rt.v rfl rfl) ?_
  show T G M_R_init 1 cU 0 [(0, .ref v0)] [] h _
  unfold f_R_init
  refine q_aload_n (pc := 0) (dq D_R_init_0_ok 0 rfl) rfl 0 rfl ?_
  refine r_obj (pc := 1) (dq D_R_init_0_ok 1 rfl) lob_R lob2 lob3 rfl rfl ?_
  refine q_aload_n (pc := 4) (dq D_R_init_0_ok 2 rfl) rfl 0 rfl ?_
  refine q_bipush (pc := 5) (v := 13) (dq D_R_init_0_ok 3 rfl) (by decide) ?_
  refine r_newL (pc := 7) 13 (dq D_R_init_0_ok 4 rfl) lka_J (by decide) (by decide) (by decide) (fun a1 h2 => ?_)
  refine r_putR (pc := 9) (dq D_R_init_0_ok 5 rfl) fp_R_11_i rfl rfl rfl (fun h3 => ?_)
  refine q_aload_n (pc := 12) (dq D_R_init_0_ok 6 rfl) rfl 0 rfl ?_
  refine q_bipush (pc := 13) (v := 13) (dq D_R_init_0_ok 7 rfl) (by decide) ?_
  refine r_newI (pc := 15) 13 (dq D_R_init_0_ok 8 rfl) lka_I (by decide) (by decide) (by decide) (fun a4 h5 => ?_)
  refine r_putR (pc := 17) (dq D_R_init_0_ok 9 rfl) fp_R_15_i rfl rfl rfl (fun h6 => ?_)
  refine q_aload_n (pc := 20) (dq D_R_init_0_ok 10 rfl) rfl 0 rfl ?_
  refine q_bipush (pc := 21) (v := 13) (dq D_R_init_0_ok 11 rfl) (by decide) ?_
  refine r_newI (pc := 23) 13 (dq D_R_init_0_ok 12 rfl) lka_I (by decide) (by decide) (by decide) (fun a7 h8 => ?_)
  refine r_putR (pc := 25) (dq D_R_init_0_ok 13 rfl) fp_R_19_i rfl rfl rfl (fun h9 => ?_)
  exact r_retu (pc := 28) (dq D_R_init_0_ok 14 rfl) rfl
noncomputable def f_W_init (v0 : Nat) (h : Hp) : Option (Unit × Hp) := some ((), h)
set_option maxHeartbeats 4000000 in
set_option maxRecDepth 20000 in
theorem t_W_init {G : GG} (v0 : Nat) (h : Hp) : Mt G M_W_init 1 [.ref v0] cU h (f_W_init v0 h) := by
  refine Mt.ofF (by decide +kernel) rfl (Rt.v rfl rfl) ?_
  show T G M_W_init 1 cU 0 [(0, .ref v0)] [] h _
  unfold f_W_init
  refine q_aload_n (pc := 0) (dq D_W_init_0_ok 0 rfl) rfl 0 rfl ?_
  refine r_obj (pc := 1) (dq D_W_init_0_ok 1 rfl) lob_W lob2 lob3 rfl rfl ?_
  exact r_retu (pc := 4) (dq D_W_init_0_ok 2 rfl) rfl
noncomputable def b_O_init_76 (k76 : (Nat × Int32) → Hp → Option (Unit × Hp)) (v0 : Nat) (v1 : Int32) (h : Hp) : Option (Unit × Hp) := if 5 ≤ v1 then (some ((), h)) else (gd (hS h v0 = some (.inl 2)) (bR (hR h v0 3) fun x1 => gd (1 ≤ (hB h).1 ∧ 6 ≤ (hB h).2) (lt (hN h) fun a2 => lt (uN h (.inl 3) 6) fun h3 => bd (f_W_init a2 h3) fun _ h4 => gd (hS h4 a2 = some (.inl 3) ∧ ai h4 x1 4 v1) (lt (uR h4 x1 v1.toNatClampNeg (some a2)) fun h6 => k76 (v0, v1 + 1) h6))))
set_option maxHeartbeats 4000000 in
set_option maxRecDepth 20000 in
theorem tb_O_init_76 {G : GG} {k76 : (Nat × Int32) → Hp → Option (Unit × Hp)} (hk76 : ∀ s h, T G M_O_init 2 cU 76 [(0, .ref s.1), (1, .int s.2)] [] h (k76 s h)) (v0 : Nat) (v1 : Int32) (h : Hp) : T G M_O_init 2 cU 76 [(0, .ref v0), (1, .int v1)] [] h (b_O_init_76 k76 v0 v1 h) := by
  unfold b_O_init_76
  refine q_iload_n (pc := 76) (dq D_O_init_0_ok 43 rfl) rfl 1 rfl ?_
  refine q_ic5 (pc := 77) (dq D_O_init_0_ok 44 rfl) ?_
  refine q_ic_ge (pc := 78) 100 (dq D_O_init_0_ok 45 rfl) rfl ?_ ?_
  · exact r_retu (pc := 100) (dq D_O_init_0_ok 55 rfl) rfl
  · refine q_aload_n (pc := 81) (dq D_O_init_0_ok 46 rfl) rfl 0 rfl ?_
    refine q_getR (pc := 82) (dq D_O_init_0_ok 47 rfl) fa_O_11 rfl (fun x1 => ?_)
    refine q_iload_n (pc := 85) (dq D_O_init_0_ok 48 rfl) rfl 1 rfl ?_
    refine r_new (pc := 86) (ci := 3) (dq D_O_init_0_ok 49 rfl) rfl lk_O_9 lkn_W lki_W df_W (fun a2 h3 => ?_)
    refine q_dup (pc := 89) (dq D_O_init_0_ok 50 rfl) rfl ?_
    refine r_iniU (Mc := M_W_init) (pc := 90) (rest := [.ref a2, .int v1, .ref x1]) 1 0 [] (dq D_O_init_0_ok 51 rfl) lc_W_init rfl rfl li_W_init ml_O_47 rfl rfl rfl rfl (t_W_init a2 h3) (fun _ h4 => ?_)
    refine r_aast (pc := 93) (ci := 3) 4 (dq D_O_init_0_ok 52 rfl) rfl rfl (fun _ _ => rfl) (fun h6 => ?_)
    refine q_iinc (pc := 94) (v := (1)) (ls' := [(1, .int (v1 + 1)), (0, .ref v0)]) (dq D_O_init_0_ok 53 rfl) 1 rfl (by decide) rfl rfl ?_
    refine q_goto (pc := 97) 76 (dq D_O_init_0_ok 54 rfl) rfl ?_
    exact T.lsub [1, 0] rfl (hk76 (v0, v1 + 1) h6)
noncomputable def l_O_init_76 : Nat → (Nat × Int32) → Hp → Option (Unit × Hp) := lp (fun k76 s h => b_O_init_76 k76 s.1 s.2 h)
set_option maxHeartbeats 4000000 in
set_option maxRecDepth 20000 in
theorem tl_O_init_76 {G : GG} (n : Nat) (s : Nat × Int32) (h : Hp) : T G M_O_init 2 cU 76 [(0, .ref s.1), (1, .int s.2)] [] h (l_O_init_76 n s h) :=
  T.loop (lsOf := fun s => [(0, .ref s.1), (1, .int s.2)]) (fun k76 hk76 s h => tb_O_init_76 hk76 s.1 s.2 h) n s h
noncomputable def f_O_init (v0 : Nat) (h : Hp) : Option (Unit × Hp) := gd (1 ≤ (hB h).1 ∧ 5 ≤ (hB h).2) (lt (hN h) fun a1 => lt (uN h (.inr (4, 5)) 5) fun h2 => gd (hS h2 v0 = some (.inl 2)) (lt (uR h2 v0 3 (some a1)) fun h3 => gd (1 ≤ (hB h3).1 ∧ 20 ≤ (hB h3).2) (lt (hN h3) fun a4 => lt (uN h3 (.inr (0, 20)) 20) fun h5 => gd (hS h5 v0 = some (.inl 2)) (lt (uR h5 v0 5 (some a4)) fun h6 => gd (1 ≤ (hB h6).1 ∧ 4 ≤ (hB h6).2) (lt (hN h6) fun a7 => lt (uN h6 (.inr (0, 4)) 4) fun h8 => gd (hS h8 v0 = some (.inl 2)) (lt (uR h8 v0 7 (some a7)) fun h9 => gd (1 ≤ (hB h9).1 ∧ 4 ≤ (hB h9).2) (lt (hN h9) fun a10 => lt (uN h9 (.inr (0, 4)) 4) fun h11 => gd (hS h11 v0 = some (.inl 2)) (lt (uR h11 v0 8 (some a10)) fun h12 => gd (1 ≤ (hB h12).1 ∧ 4 ≤ (hB h12).2) (lt (hN h12) fun a13 => lt (uN h12 (.inr (0, 4)) 4) fun h14 => gd (hS h14 v0 = some (.inl 2)) (lt (uR h14 v0 9 (some a13)) fun h15 => gd (1 ≤ (hB h15).1 ∧ 4 ≤ (hB h15).2) (lt (hN h15) fun a16 => lt (uN h15 (.inr (0, 4)) 4) fun h17 => gd (hS h17 v0 = some (.inl 2)) (lt (uR h17 v0 10 (some a16)) fun h18 => gd (1 ≤ (hB h18).1 ∧ 4 ≤ (hB h18).2) (lt (hN h18) fun a19 => lt (uN h18 (.inr (0, 4)) 4) fun h20 => gd (hS h20 v0 = some (.inl 2)) (lt (uR h20 v0 11 (some a19)) fun h21 => gd (hS h21 v0 = some (.inl 2)) (lt (uI h21 v0 12 ((-1))) fun h22 => gd (1 ≤ (hB h22).1 ∧ 5 ≤ (hB h22).2) (lt (hN h22) fun a23 => lt (uN h22 (.inr (0, 5)) 5) fun h24 => gd (hS h24 v0 = some (.inl 2)) (lt (uR h24 v0 14 (some a23)) fun h25 => gd (1 ≤ (hB h25).1 ∧ 5 ≤ (hB h25).2) (lt (hN h25) fun a26 => lt (uN h25 (.inr (3, 5)) 5) fun h27 => gd (hS h27 v0 = some (.inl 2)) (lt (uR h27 v0 15 (some a26)) fun h28 => lt (0 : Int32) fun y29 => l_O_init_76 FU (v0, y29) h28)))))))))))))))))))
set_option maxHeartbeats 4000000 in
set_option maxRecDepth 20000 in
theorem t_O_init {G : GG} (v0 : Nat) (h : Hp) : Mt G M_O_init 2 [.ref v0] cU h (f_O_init v0 h) := by
  refine Mt.ofF (by decide +kernel) rfl (Rt.v rfl rfl) ?_
  show T G M_O_init 2 cU 0 [(0, .ref v0)] [] h _
  unfold f_O_init
  refine q_aload_n (pc := 0) (dq D_O_init_0_ok 0 rfl) rfl 0 rfl ?_
  refine r_obj (pc := 1) (dq D_O_init_0_ok 1 rfl) lob_O lob2 lob3 rfl rfl ?_
  refine q_aload_n (pc := 4) (dq D_O_init_0_ok 2 rfl) rfl 0 rfl ?_
  refine q_ic5 (pc := 5) (dq D_O_init_0_ok 3 rfl) ?_
  refine r_anew (pc := 6) 4 5 (dq D_O_init_0_ok 4 rfl) rfl lk_O_9 lko_W (by decide) (by decide) (by decide) (fun _ => aV_new) (fun a1 h2 => ?_)
  refine r_putR (pc := 9) (dq D_O_init_0_ok 5 rfl) fp_O_11_i rfl rfl rfl (fun h3 => ?_)
  refine q_aload_n (pc := 12) (dq D_O_init_0_ok 6 rfl) rfl 0 rfl ?_
  refine q_bipush (pc := 13) (v := 20) (dq D_O_init_0_ok 7 rfl) (by decide) ?_
  refine r_newI (pc := 15) 20 (dq D_O_init_0_ok 8 rfl) lka_I (by decide) (by decide) (by decide) (fun a4 h5 => ?_)
  refine r_putR (pc := 17) (dq D_O_init_0_ok 9 rfl) fp_O_17_i rfl rfl rfl (fun h6 => ?_)
  refine q_aload_n (pc := 20) (dq D_O_init_0_ok 10 rfl) rfl 0 rfl ?_
  refine q_ic4 (pc := 21) (dq D_O_init_0_ok 11 rfl) ?_
  refine r_newI (pc := 22) 4 (dq D_O_init_0_ok 12 rfl) lka_I (by decide) (by decide) (by decide) (fun a7 h8 => ?_)
  refine r_putR (pc := 24) (dq D_O_init_0_ok 13 rfl) fp_O_21_i rfl rfl rfl (fun h9 => ?_)
  refine q_aload_n (pc := 27) (dq D_O_init_0_ok 14 rfl) rfl 0 rfl ?_
  refine q_ic4 (pc := 28) (dq D_O_init_0_ok 15 rfl) ?_
  refine r_newI (pc := 29) 4 (dq D_O_init_0_ok 16 rfl) lka_I (by decide) (by decide) (by decide) (fun a10 h11 => ?_)
  refine r_putR (pc := 31) (dq D_O_init_0_ok 17 rfl) fp_O_24_i rfl rfl rfl (fun h12 => ?_)
  refine q_aload_n (pc := 34) (dq D_O_init_0_ok 18 rfl) rfl 0 rfl ?_
  refine q_ic4 (pc := 35) (dq D_O_init_0_ok 19 rfl) ?_
  refine r_newI (pc := 36) 4 (dq D_O_init_0_ok 20 rfl) lka_I (by decide) (by decide) (by decide) (fun a13 h14 => ?_)
  refine r_putR (pc := 38) (dq D_O_init_0_ok 21 rfl) fp_O_27_i rfl rfl rfl (fun h15 => ?_)
  refine q_aload_n (pc := 41) (dq D_O_init_0_ok 22 rfl) rfl 0 rfl ?_
  refine q_ic4 (pc := 42) (dq D_O_init_0_ok 23 rfl) ?_
  refine r_newI (pc := 43) 4 (dq D_O_init_0_ok 24 rfl) lka_I (by decide) (by decide) (by decide) (fun a16 h17 => ?_)
  refine r_putR (pc := 45) (dq D_O_init_0_ok 25 rfl) fp_O_30_i rfl rfl rfl (fun h18 => ?_)
  refine q_aload_n (pc := 48) (dq D_O_init_0_ok 26 rfl) rfl 0 rfl ?_
  refine q_ic4 (pc := 49) (dq D_O_init_0_ok 27 rfl) ?_
  refine r_newI (pc := 50) 4 (dq D_O_init_0_ok 28 rfl) lka_I (by decide) (by decide) (by decide) (fun a19 h20 => ?_)
  refine r_putR (pc := 52) (dq D_O_init_0_ok 29 rfl) fp_O_33_i rfl rfl rfl (fun h21 => ?_)
  refine q_aload_n (pc := 55) (dq D_O_init_0_ok 30 rfl) rfl 0 rfl ?_
  refine q_icm1 (pc := 56) (dq D_O_init_0_ok 31 rfl) ?_
  refine r_putI (pc := 57) (dq D_O_init_0_ok 32 rfl) fp_O_36_i rfl rfl (fun h22 => ?_)
  refine q_aload_n (pc := 60) (dq D_O_init_0_ok 33 rfl) rfl 0 rfl ?_
  refine q_ic5 (pc := 61) (dq D_O_init_0_ok 34 rfl) ?_
  refine r_newI (pc := 62) 5 (dq D_O_init_0_ok 35 rfl) lka_I (by decide) (by decide) (by decide) (fun a23 h24 => ?_)
  refine r_putR (pc := 64) (dq D_O_init_0_ok 36 rfl) fp_O_40_i rfl rfl rfl (fun h25 => ?_)
  refine q_aload_n (pc := 67) (dq D_O_init_0_ok 37 rfl) rfl 0 rfl ?_
  refine q_ic5 (pc := 68) (dq D_O_init_0_ok 38 rfl) ?_
  refine r_newZ (pc := 69) 5 (dq D_O_init_0_ok 39 rfl) lka_Z (by decide) (by decide) (by decide) (fun a26 h27 => ?_)
  refine r_putR (pc := 71) (dq D_O_init_0_ok 40 rfl) fp_O_43_i rfl rfl rfl (fun h28 => ?_)
  refine q_ic0 (pc := 74) (dq D_O_init_0_ok 41 rfl) ?_
  refine r_nmI (fun y29 => ?_)
  refine q_istore_n (pc := 75) (ls' := [(1, .int y29), (0, .ref v0)]) (dq D_O_init_0_ok 42 rfl) rfl rfl rfl ?_
  exact T.lsub [1, 0] rfl (tl_O_init_76 FU (v0, y29) h28)
noncomputable def f_P_init (v0 : Nat) (h : Hp) : Option (Unit × Hp) := gd (1 ≤ (hB h).1 ∧ 128 ≤ (hB h).2) (lt (hN h) fun a1 => lt (uN h (.inr (0, 128)) 128) fun h2 => gd (hS h2 v0 = some (.inl 4)) (lt (uR h2 v0 0 (some a1)) fun h3 => gd (1 ≤ (hB h3).1 ∧ 24 ≤ (hB h3).2) (lt (hN h3) fun a4 => lt (uN h3 (.inr (0, 24)) 24) fun h5 => gd (hS h5 v0 = some (.inl 4)) (lt (uR h5 v0 1 (some a4)) fun h6 => some ((), h6)))))
set_option maxHeartbeats 4000000 in
set_option maxRecDepth 20000 in
theorem t_P_init {G : GG} (v0 : Nat) (h : Hp) : Mt G M_P_init 1 [.ref v0] cU h (f_P_init v0 h) := by
  refine Mt.ofF (by decide +kernel) rfl (Rt.v rfl rfl) ?_
  show T G M_P_init 1 cU 0 [(0, .ref v0)] [] h _
  unfold f_P_init
  refine q_aload_n (pc := 0) (dq D_P_init_0_ok 0 rfl) rfl 0 rfl ?_
  refine r_obj (pc := 1) (dq D_P_init_0_ok 1 rfl) lob_P lob2 lob3 rfl rfl ?_
  refine q_aload_n (pc := 4) (dq D_P_init_0_ok 2 rfl) rfl 0 rfl ?_
  refine q_sipush (pc := 5) (v := 128) (dq D_P_init_0_ok 3 rfl) (by decide) ?_
  refine r_newI (pc := 8) 128 (dq D_P_init_0_ok 4 rfl) lka_I (by decide) (by decide) (by decide) (fun a1 h2 => ?_)
  refine r_putR (pc := 10) (dq D_P_init_0_ok 5 rfl) fp_P_11_i rfl rfl rfl (fun h3 => ?_)
  refine q_aload_n (pc := 13) (dq D_P_init_0_ok 6 rfl) rfl 0 rfl ?_
  refine q_bipush (pc := 14) (v := 24) (dq D_P_init_0_ok 7 rfl) (by decide) ?_
  refine r_newI (pc := 16) 24 (dq D_P_init_0_ok 8 rfl) lka_I (by decide) (by decide) (by decide) (fun a4 h5 => ?_)
  refine r_putR (pc := 18) (dq D_P_init_0_ok 9 rfl) fp_P_15_i rfl rfl rfl (fun h6 => ?_)
  exact r_retu (pc := 21) (dq D_P_init_0_ok 10 rfl) rfl
noncomputable def f_U_init (v0 : Nat) (h : Hp) : Option (Unit × Hp) := gd (1 ≤ (hB h).1 ∧ 60 ≤ (hB h).2) (lt (hN h) fun a1 => lt (uN h (.inr (0, 60)) 60) fun h2 => gd (hS h2 v0 = some (.inl 6)) (lt (uR h2 v0 0 (some a1)) fun h3 => gd (1 ≤ (hB h3).1 ∧ 60 ≤ (hB h3).2) (lt (hN h3) fun a4 => lt (uN h3 (.inr (0, 60)) 60) fun h5 => gd (hS h5 v0 = some (.inl 6)) (lt (uR h5 v0 1 (some a4)) fun h6 => gd (1 ≤ (hB h6).1 ∧ 61 ≤ (hB h6).2) (lt (hN h6) fun a7 => lt (uN h6 (.inr (0, 61)) 61) fun h8 => gd (hS h8 v0 = some (.inl 6)) (lt (uR h8 v0 2 (some a7)) fun h9 => some ((), h9)))))))
set_option maxHeartbeats 4000000 in
set_option maxRecDepth 20000 in
theorem t_U_init {G : GG} (v0 : Nat) (h : Hp) : Mt G M_U_init 1 [.ref v0] cU h (f_U_init v0 h) := by
  refine Mt.ofF (by decide +kernel) rfl (Rt.v rfl rfl) ?_
  show T G M_U_init 1 cU 0 [(0, .ref v0)] [] h _
  unfold f_U_init
  refine q_aload_n (pc := 0) (dq D_U_init_0_ok 0 rfl) rfl 0 rfl ?_
  refine r_obj (pc := 1) (dq D_U_init_0_ok 1 rfl) lob_U lob2 lob3 rfl rfl ?_
  refine q_aload_n (pc := 4) (dq D_U_init_0_ok 2 rfl) rfl 0 rfl ?_
  refine q_bipush (pc := 5) (v := 60) (dq D_U_init_0_ok 3 rfl) (by decide) ?_
  refine r_newI (pc := 7) 60 (dq D_U_init_0_ok 4 rfl) lka_I (by decide) (by decide) (by decide) (fun a1 h2 => ?_)
  refine r_putR (pc := 9) (dq D_U_init_0_ok 5 rfl) fp_U_9_i rfl rfl rfl (fun h3 => ?_)
  refine q_aload_n (pc := 12) (dq D_U_init_0_ok 6 rfl) rfl 0 rfl ?_
  refine q_bipush (pc := 13) (v := 60) (dq D_U_init_0_ok 7 rfl) (by decide) ?_
  refine r_newI (pc := 15) 60 (dq D_U_init_0_ok 8 rfl) lka_I (by decide) (by decide) (by decide) (fun a4 h5 => ?_)
  refine r_putR (pc := 17) (dq D_U_init_0_ok 9 rfl) fp_U_15_i rfl rfl rfl (fun h6 => ?_)
  refine q_aload_n (pc := 20) (dq D_U_init_0_ok 10 rfl) rfl 0 rfl ?_
  refine q_bipush (pc := 21) (v := 61) (dq D_U_init_0_ok 11 rfl) (by decide) ?_
  refine r_newI (pc := 23) 61 (dq D_U_init_0_ok 12 rfl) lka_I (by decide) (by decide) (by decide) (fun a7 h8 => ?_)
  refine r_putR (pc := 25) (dq D_U_init_0_ok 13 rfl) fp_U_18_i rfl rfl rfl (fun h9 => ?_)
  exact r_retu (pc := 28) (dq D_U_init_0_ok 14 rfl) rfl
noncomputable def b_C_init_49 (k49 : (Nat × Int32) → Hp → Option (Unit × Hp)) (v0 : Nat) (v1 : Int32) (h : Hp) : Option (Unit × Hp) := if 5 ≤ v1 then (some ((), h)) else (gd (hS h v0 = some (.inl 5)) (bR (hR h v0 0) fun x1 => gd (1 ≤ (hB h).1 ∧ 8 ≤ (hB h).2) (lt (hN h) fun a2 => lt (uN h (.inl 6) 8) fun h3 => bd (f_U_init a2 h3) fun _ h4 => gd (hS h4 a2 = some (.inl 6) ∧ ai h4 x1 5 v1) (lt (uR h4 x1 v1.toNatClampNeg (some a2)) fun h6 => k49 (v0, v1 + 1) h6))))
set_option maxHeartbeats 4000000 in
set_option maxRecDepth 20000 in
theorem tb_C_init_49 {G : GG} {k49 : (Nat × Int32) → Hp → Option (Unit × Hp)} (hk49 : ∀ s h, T G M_C_init 2 cU 49 [(0, .ref s.1), (1, .int s.2)] [] h (k49 s h)) (v0 : Nat) (v1 : Int32) (h : Hp) : T G M_C_init 2 cU 49 [(0, .ref v0), (1, .int v1)] [] h (b_C_init_49 k49 v0 v1 h) := by
  unfold b_C_init_49
  refine q_iload_n (pc := 49) (dq D_C_init_0_ok 25 rfl) rfl 1 rfl ?_
  refine q_ic5 (pc := 50) (dq D_C_init_0_ok 26 rfl) ?_
  refine q_ic_ge (pc := 51) 73 (dq D_C_init_0_ok 27 rfl) rfl ?_ ?_
  · exact r_retu (pc := 73) (dq D_C_init_0_ok 37 rfl) rfl
  · refine q_aload_n (pc := 54) (dq D_C_init_0_ok 28 rfl) rfl 0 rfl ?_
    refine q_getR (pc := 55) (dq D_C_init_0_ok 29 rfl) fa_C_11 rfl (fun x1 => ?_)
    refine q_iload_n (pc := 58) (dq D_C_init_0_ok 30 rfl) rfl 1 rfl ?_
    refine r_new (pc := 59) (ci := 6) (dq D_C_init_0_ok 31 rfl) rfl lk_C_9 lkn_U lki_U df_U (fun a2 h3 => ?_)
    refine q_dup (pc := 62) (dq D_C_init_0_ok 32 rfl) rfl ?_
    refine r_iniU (Mc := M_U_init) (pc := 63) (rest := [.ref a2, .int v1, .ref x1]) 1 0 [] (dq D_C_init_0_ok 33 rfl) lc_U_init rfl rfl li_U_init ml_C_34 rfl rfl rfl rfl (t_U_init a2 h3) (fun _ h4 => ?_)
    refine r_aast (pc := 66) (ci := 6) 5 (dq D_C_init_0_ok 34 rfl) rfl rfl (fun _ _ => rfl) (fun h6 => ?_)
    refine q_iinc (pc := 67) (v := (1)) (ls' := [(1, .int (v1 + 1)), (0, .ref v0)]) (dq D_C_init_0_ok 35 rfl) 1 rfl (by decide) rfl rfl ?_
    refine q_goto (pc := 70) 49 (dq D_C_init_0_ok 36 rfl) rfl ?_
    exact T.lsub [1, 0] rfl (hk49 (v0, v1 + 1) h6)
noncomputable def l_C_init_49 : Nat → (Nat × Int32) → Hp → Option (Unit × Hp) := lp (fun k49 s h => b_C_init_49 k49 s.1 s.2 h)
set_option maxHeartbeats 4000000 in
set_option maxRecDepth 20000 in
theorem tl_C_init_49 {G : GG} (n : Nat) (s : Nat × Int32) (h : Hp) : T G M_C_init 2 cU 49 [(0, .ref s.1), (1, .int s.2)] [] h (l_C_init_49 n s h) :=
  T.loop (lsOf := fun s => [(0, .ref s.1), (1, .int s.2)]) (fun k49 hk49 s h => tb_C_init_49 hk49 s.1 s.2 h) n s h
noncomputable def f_C_init (v0 : Nat) (h : Hp) : Option (Unit × Hp) := gd (1 ≤ (hB h).1 ∧ 5 ≤ (hB h).2) (lt (hN h) fun a1 => lt (uN h (.inr (5, 5)) 5) fun h2 => gd (hS h2 v0 = some (.inl 5)) (lt (uR h2 v0 0 (some a1)) fun h3 => gd (1 ≤ (hB h3).1 ∧ 6 ≤ (hB h3).2) (lt (hN h3) fun a4 => lt (uN h3 (.inl 3) 6) fun h5 => bd (f_W_init a4 h5) fun _ h6 => gd (hS h6 v0 = some (.inl 5)) (lt (uR h6 v0 1 (some a4)) fun h8 => gd (1 ≤ (hB h8).1 ∧ 60 ≤ (hB h8).2) (lt (hN h8) fun a9 => lt (uN h8 (.inr (0, 60)) 60) fun h10 => gd (hS h10 v0 = some (.inl 5)) (lt (uR h10 v0 2 (some a9)) fun h11 => gd (1 ≤ (hB h11).1 ∧ 60 ≤ (hB h11).2) (lt (hN h11) fun a12 => lt (uN h11 (.inr (0, 60)) 60) fun h13 => gd (hS h13 v0 = some (.inl 5)) (lt (uR h13 v0 3 (some a12)) fun h14 => gd (1 ≤ (hB h14).1 ∧ 60 ≤ (hB h14).2) (lt (hN h14) fun a15 => lt (uN h14 (.inr (0, 60)) 60) fun h16 => gd (hS h16 v0 = some (.inl 5)) (lt (uR h16 v0 4 (some a15)) fun h17 => lt (0 : Int32) fun y18 => l_C_init_49 FU (v0, y18) h17))))))))))
set_option maxHeartbeats 4000000 in
set_option maxRecDepth 20000 in
theorem t_C_init {G : GG} (v0 : Nat) (h : Hp) : Mt G M_C_init 2 [.ref v0] cU h (f_C_init v0 h) := by
  refine Mt.ofF (by decide +kernel) rfl (Rt.v rfl rfl) ?_
  show T G M_C_init 2 cU 0 [(0, .ref v0)] [] h _
  unfold f_C_init
  refine q_aload_n (pc := 0) (dq D_C_init_0_ok 0 rfl) rfl 0 rfl ?_
  refine r_obj (pc := 1) (dq D_C_init_0_ok 1 rfl) lob_C lob2 lob3 rfl rfl ?_
  refine q_aload_n (pc := 4) (dq D_C_init_0_ok 2 rfl) rfl 0 rfl ?_
  refine q_ic5 (pc := 5) (dq D_C_init_0_ok 3 rfl) ?_
  refine r_anew (pc := 6) 5 5 (dq D_C_init_0_ok 4 rfl) rfl lk_C_9 lko_U (by decide) (by decide) (by decide) (fun _ => aV_new) (fun a1 h2 => ?_)
  refine r_putR (pc := 9) (dq D_C_init_0_ok 5 rfl) fp_C_11_i rfl rfl rfl (fun h3 => ?_)
  refine q_aload_n (pc := 12) (dq D_C_init_0_ok 6 rfl) rfl 0 rfl ?_
  refine r_new (pc := 13) (ci := 3) (dq D_C_init_0_ok 7 rfl) rfl lk_C_17 lkn_W lki_W df_W (fun a4 h5 => ?_)
  refine q_dup (pc := 16) (dq D_C_init_0_ok 8 rfl) rfl ?_
  refine r_iniU (Mc := M_W_init) (pc := 17) (rest := [.ref a4, .ref v0]) 1 0 [] (dq D_C_init_0_ok 9 rfl) lc_W_init rfl rfl li_W_init ml_C_19 rfl rfl rfl rfl (t_W_init a4 h5) (fun _ h6 => ?_)
  refine r_putR (pc := 20) (dq D_C_init_0_ok 10 rfl) fp_C_20_i rfl rfl rfl (fun h8 => ?_)
  refine q_aload_n (pc := 23) (dq D_C_init_0_ok 11 rfl) rfl 0 rfl ?_
  refine q_bipush (pc := 24) (v := 60) (dq D_C_init_0_ok 12 rfl) (by decide) ?_
  refine r_newI (pc := 26) 60 (dq D_C_init_0_ok 13 rfl) lka_I (by decide) (by decide) (by decide) (fun a9 h10 => ?_)
  refine r_putR (pc := 28) (dq D_C_init_0_ok 14 rfl) fp_C_24_i rfl rfl rfl (fun h11 => ?_)
  refine q_aload_n (pc := 31) (dq D_C_init_0_ok 15 rfl) rfl 0 rfl ?_
  refine q_bipush (pc := 32) (v := 60) (dq D_C_init_0_ok 16 rfl) (by decide) ?_
  refine r_newI (pc := 34) 60 (dq D_C_init_0_ok 17 rfl) lka_I (by decide) (by decide) (by decide) (fun a12 h13 => ?_)
  refine r_putR (pc := 36) (dq D_C_init_0_ok 18 rfl) fp_C_28_i rfl rfl rfl (fun h14 => ?_)
  refine q_aload_n (pc := 39) (dq D_C_init_0_ok 19 rfl) rfl 0 rfl ?_
  refine q_bipush (pc := 40) (v := 60) (dq D_C_init_0_ok 20 rfl) (by decide) ?_
  refine r_newI (pc := 42) 60 (dq D_C_init_0_ok 21 rfl) lka_I (by decide) (by decide) (by decide) (fun a15 h16 => ?_)
  refine r_putR (pc := 44) (dq D_C_init_0_ok 22 rfl) fp_C_31_i rfl rfl rfl (fun h17 => ?_)
  refine q_ic0 (pc := 47) (dq D_C_init_0_ok 23 rfl) ?_
  refine r_nmI (fun y18 => ?_)
  refine q_istore_n (pc := 48) (ls' := [(1, .int y18), (0, .ref v0)]) (dq D_C_init_0_ok 24 rfl) rfl rfl rfl ?_
  exact T.lsub [1, 0] rfl (tl_C_init_49 FU (v0, y18) h17)
noncomputable def f_K_init (v0 : Nat) (h : Hp) : Option (Unit × Hp) := gd (1 ≤ (hB h).1 ∧ 4 ≤ (hB h).2) (lt (hN h) fun a1 => lt (uN h (.inr (0, 4)) 4) fun h2 => gd (hS h2 v0 = some (.inl 7)) (lt (uR h2 v0 0 (some a1)) fun h3 => gd (1 ≤ (hB h3).1 ∧ 4 ≤ (hB h3).2) (lt (hN h3) fun a4 => lt (uN h3 (.inr (0, 4)) 4) fun h5 => gd (hS h5 v0 = some (.inl 7)) (lt (uR h5 v0 1 (some a4)) fun h6 => gd (1 ≤ (hB h6).1 ∧ 4 ≤ (hB h6).2) (lt (hN h6) fun a7 => lt (uN h6 (.inr (0, 4)) 4) fun h8 => gd (hS h8 v0 = some (.inl 7)) (lt (uR h8 v0 2 (some a7)) fun h9 => some ((), h9)))))))
set_option maxHeartbeats 4000000 in
set_option maxRecDepth 20000 in
theorem t_K_init {G : GG} (v0 : Nat) (h : Hp) : Mt G M_K_init 1 [.ref v0] cU h (f_K_init v0 h) := by
  refine Mt.ofF (by decide +kernel) rfl (Rt.v rfl rfl) ?_
  show T G M_K_init 1 cU 0 [(0, .ref v0)] [] h _
  unfold f_K_init
  refine q_aload_n (pc := 0) (dq D_K_init_0_ok 0 rfl) rfl 0 rfl ?_
  refine r_obj (pc := 1) (dq D_K_init_0_ok 1 rfl) lob_K lob2 lob3 rfl rfl ?_
  refine q_aload_n (pc := 4) (dq D_K_init_0_ok 2 rfl) rfl 0 rfl ?_
  refine q_ic4 (pc := 5) (dq D_K_init_0_ok 3 rfl) ?_
  refine r_newI (pc := 6) 4 (dq D_K_init_0_ok 4 rfl) lka_I (by decide) (by decide) (by decide) (fun a1 h2 => ?_)
  refine r_putR (pc := 8) (dq D_K_init_0_ok 5 rfl) fp_K_9_i rfl rfl rfl (fun h3 => ?_)
  refine q_aload_n (pc := 11) (dq D_K_init_0_ok 6 rfl) rfl 0 rfl ?_
  refine q_ic4 (pc := 12) (dq D_K_init_0_ok 7 rfl) ?_
  refine r_newI (pc := 13) 4 (dq D_K_init_0_ok 8 rfl) lka_I (by decide) (by decide) (by decide) (fun a4 h5 => ?_)
  refine r_putR (pc := 15) (dq D_K_init_0_ok 9 rfl) fp_K_15_i rfl rfl rfl (fun h6 => ?_)
  refine q_aload_n (pc := 18) (dq D_K_init_0_ok 10 rfl) rfl 0 rfl ?_
  refine q_ic4 (pc := 19) (dq D_K_init_0_ok 11 rfl) ?_
  refine r_newI (pc := 20) 4 (dq D_K_init_0_ok 12 rfl) lka_I (by decide) (by decide) (by decide) (fun a7 h8 => ?_)
  refine r_putR (pc := 22) (dq D_K_init_0_ok 13 rfl) fp_K_18_i rfl rfl rfl (fun h9 => ?_)
  exact r_retu (pc := 25) (dq D_K_init_0_ok 14 rfl) rfl
noncomputable def f_S_init (v0 : Nat) (h : Hp) : Option (Unit × Hp) := gd (1 ≤ (hB h).1 ∧ 6 ≤ (hB h).2) (lt (hN h) fun a1 => lt (uN h (.inl 3) 6) fun h2 => bd (f_W_init a1 h2) fun _ h3 => gd (hS h3 v0 = some (.inl 8)) (lt (uR h3 v0 0 (some a1)) fun h5 => gd (1 ≤ (hB h5).1 ∧ 61 ≤ (hB h5).2) (lt (hN h5) fun a6 => lt (uN h5 (.inr (1, 61)) 61) fun h7 => gd (hS h7 v0 = some (.inl 8)) (lt (uR h7 v0 1 (some a6)) fun h8 => gd (1 ≤ (hB h8).1 ∧ 61 ≤ (hB h8).2) (lt (hN h8) fun a9 => lt (uN h8 (.inr (1, 61)) 61) fun h10 => gd (hS h10 v0 = some (.inl 8)) (lt (uR h10 v0 2 (some a9)) fun h11 => gd (1 ≤ (hB h11).1 ∧ 61 ≤ (hB h11).2) (lt (hN h11) fun a12 => lt (uN h11 (.inr (0, 61)) 61) fun h13 => gd (hS h13 v0 = some (.inl 8)) (lt (uR h13 v0 3 (some a12)) fun h14 => some ((), h14)))))))))
set_option maxHeartbeats 4000000 in
set_option maxRecDepth 20000 in
theorem t_S_init {G : GG} (v0 : Nat) (h : Hp) : Mt G M_S_init 2 [.ref v0] cU h (f_S_init v0 h) := by
  refine Mt.ofF (by decide +kernel) rfl (Rt.v rfl rfl) ?_
  show T G M_S_init 2 cU 0 [(0, .ref v0)] [] h _
  unfold f_S_init
  refine q_aload_n (pc := 0) (dq D_S_init_0_ok 0 rfl) rfl 0 rfl ?_
  refine r_obj (pc := 1) (dq D_S_init_0_ok 1 rfl) lob_S lob2 lob3 rfl rfl ?_
  refine q_aload_n (pc := 4) (dq D_S_init_0_ok 2 rfl) rfl 0 rfl ?_
  refine r_new (pc := 5) (ci := 3) (dq D_S_init_0_ok 3 rfl) rfl lk_S_9 lkn_W lki_W df_W (fun a1 h2 => ?_)
  refine q_dup (pc := 8) (dq D_S_init_0_ok 4 rfl) rfl ?_
  refine r_iniU (Mc := M_W_init) (pc := 9) (rest := [.ref a1, .ref v0]) 1 0 [] (dq D_S_init_0_ok 5 rfl) lc_W_init rfl rfl li_W_init ml_S_11 rfl rfl rfl rfl (t_W_init a1 h2) (fun _ h3 => ?_)
  refine r_putR (pc := 12) (dq D_S_init_0_ok 6 rfl) fp_S_12_i rfl rfl rfl (fun h5 => ?_)
  refine q_aload_n (pc := 15) (dq D_S_init_0_ok 7 rfl) rfl 0 rfl ?_
  refine q_bipush (pc := 16) (v := 61) (dq D_S_init_0_ok 8 rfl) (by decide) ?_
  refine r_newL (pc := 18) 61 (dq D_S_init_0_ok 9 rfl) lka_J (by decide) (by decide) (by decide) (fun a6 h7 => ?_)
  refine r_putR (pc := 20) (dq D_S_init_0_ok 10 rfl) fp_S_18_i rfl rfl rfl (fun h8 => ?_)
  refine q_aload_n (pc := 23) (dq D_S_init_0_ok 11 rfl) rfl 0 rfl ?_
  refine q_bipush (pc := 24) (v := 61) (dq D_S_init_0_ok 12 rfl) (by decide) ?_
  refine r_newL (pc := 26) 61 (dq D_S_init_0_ok 13 rfl) lka_J (by decide) (by decide) (by decide) (fun a9 h10 => ?_)
  refine r_putR (pc := 28) (dq D_S_init_0_ok 14 rfl) fp_S_22_i rfl rfl rfl (fun h11 => ?_)
  refine q_aload_n (pc := 31) (dq D_S_init_0_ok 15 rfl) rfl 0 rfl ?_
  refine q_bipush (pc := 32) (v := 61) (dq D_S_init_0_ok 16 rfl) (by decide) ?_
  refine r_newI (pc := 34) 61 (dq D_S_init_0_ok 17 rfl) lka_I (by decide) (by decide) (by decide) (fun a12 h13 => ?_)
  refine r_putR (pc := 36) (dq D_S_init_0_ok 18 rfl) fp_S_25_i rfl rfl rfl (fun h14 => ?_)
  exact r_retu (pc := 39) (dq D_S_init_0_ok 19 rfl) rfl
noncomputable def f_G_init (v0 : Nat) (h : Hp) : Option (Unit × Hp) := gd (8 ≤ (hB h).1 ∧ 63 ≤ (hB h).2) (lt (hN h) fun a1 => lt (uM h) fun h2 => gd (hS h2 v0 = some (.inl 9)) (lt (uR h2 v0 0 (some a1)) fun h3 => some ((), h3)))
set_option maxHeartbeats 4000000 in
set_option maxRecDepth 20000 in
theorem t_G_init {G : GG} (v0 : Nat) (h : Hp) : Mt G M_G_init 1 [.ref v0] cU h (f_G_init v0 h) := by
  refine Mt.ofF (by decide +kernel) rfl (Rt.v rfl rfl) ?_
  show T G M_G_init 1 cU 0 [(0, .ref v0)] [] h _
  unfold f_G_init
  refine q_aload_n (pc := 0) (dq D_G_init_0_ok 0 rfl) rfl 0 rfl ?_
  refine r_obj (pc := 1) (dq D_G_init_0_ok 1 rfl) lob_G lob2 lob3 rfl rfl ?_
  refine q_aload_n (pc := 4) (dq D_G_init_0_ok 2 rfl) rfl 0 rfl ?_
  refine q_bipush (pc := 5) (v := 7) (dq D_G_init_0_ok 3 rfl) (by decide) ?_
  refine q_bipush (pc := 7) (v := 8) (dq D_G_init_0_ok 4 rfl) (by decide) ?_
  refine r_multi (pc := 9) (dq D_G_init_0_ok 5 rfl) lk_G_9 lko_aI lka_I (fun a1 h2 => ?_)
  refine r_putR (pc := 13) (dq D_G_init_0_ok 6 rfl) fp_G_11_i rfl rfl rfl (fun h3 => ?_)
  exact r_retu (pc := 16) (dq D_G_init_0_ok 7 rfl) rfl
noncomputable def f_H_init (v0 : Nat) (h : Hp) : Option (Unit × Hp) := gd (1 ≤ (hB h).1 ∧ 60 ≤ (hB h).2) (lt (hN h) fun a1 => lt (uN h (.inr (1, 60)) 60) fun h2 => gd (hS h2 v0 = some (.inl 10)) (lt (uR h2 v0 0 (some a1)) fun h3 => gd (1 ≤ (hB h3).1 ∧ 60 ≤ (hB h3).2) (lt (hN h3) fun a4 => lt (uN h3 (.inr (1, 60)) 60) fun h5 => gd (hS h5 v0 = some (.inl 10)) (lt (uR h5 v0 1 (some a4)) fun h6 => some ((), h6)))))
set_option maxHeartbeats 4000000 in
set_option maxRecDepth 20000 in
theorem t_H_init {G : GG} (v0 : Nat) (h : Hp) : Mt G M_H_init 1 [.ref v0] cU h (f_H_init v0 h) := by
  refine Mt.ofF (by decide +kernel) rfl (Rt.v rfl rfl) ?_
  show T G M_H_init 1 cU 0 [(0, .ref v0)] [] h _
  unfold f_H_init
  refine q_aload_n (pc := 0) (dq D_H_init_0_ok 0 rfl) rfl 0 rfl ?_
  refine r_obj (pc := 1) (dq D_H_init_0_ok 1 rfl) lob_H lob2 lob3 rfl rfl ?_
  refine q_aload_n (pc := 4) (dq D_H_init_0_ok 2 rfl) rfl 0 rfl ?_
  refine q_bipush (pc := 5) (v := 60) (dq D_H_init_0_ok 3 rfl) (by decide) ?_
  refine r_newL (pc := 7) 60 (dq D_H_init_0_ok 4 rfl) lka_J (by decide) (by decide) (by decide) (fun a1 h2 => ?_)
  refine r_putR (pc := 9) (dq D_H_init_0_ok 5 rfl) fp_H_9_i rfl rfl rfl (fun h3 => ?_)
  refine q_aload_n (pc := 12) (dq D_H_init_0_ok 6 rfl) rfl 0 rfl ?_
  refine q_bipush (pc := 13) (v := 60) (dq D_H_init_0_ok 7 rfl) (by decide) ?_
  refine r_newL (pc := 15) 60 (dq D_H_init_0_ok 8 rfl) lka_J (by decide) (by decide) (by decide) (fun a4 h5 => ?_)
  refine r_putR (pc := 17) (dq D_H_init_0_ok 9 rfl) fp_H_15_i rfl rfl rfl (fun h6 => ?_)
  exact r_retu (pc := 20) (dq D_H_init_0_ok 10 rfl) rfl
noncomputable def f_B_init (v0 : Nat) (h : Hp) : Option (Unit × Hp) := gd (1 ≤ (hB h).1 ∧ 900 ≤ (hB h).2) (lt (hN h) fun a1 => lt (uN h (.inr (2, 900)) 900) fun h2 => gd (hS h2 v0 = some (.inl 0)) (lt (uR h2 v0 0 (some a1)) fun h3 => gd (1 ≤ (hB h3).1 ∧ 16 ≤ (hB h3).2) (lt (hN h3) fun a4 => lt (uN h3 (.inl 1) 16) fun h5 => bd (f_R_init a4 h5) fun _ h6 => gd (hS h6 v0 = some (.inl 0)) (lt (uR h6 v0 2 (some a4)) fun h8 => gd (1 ≤ (hB h8).1 ∧ 16 ≤ (hB h8).2) (lt (hN h8) fun a9 => lt (uN h8 (.inl 2) 16) fun h10 => bd (f_O_init a9 h10) fun _ h11 => gd (hS h11 v0 = some (.inl 0)) (lt (uR h11 v0 3 (some a9)) fun h13 => gd (1 ≤ (hB h13).1 ∧ 16 ≤ (hB h13).2) (lt (hN h13) fun a14 => lt (uN h13 (.inl 2) 16) fun h15 => bd (f_O_init a14 h15) fun _ h16 => gd (hS h16 v0 = some (.inl 0)) (lt (uR h16 v0 4 (some a14)) fun h18 => gd (1 ≤ (hB h18).1 ∧ 8 ≤ (hB h18).2) (lt (hN h18) fun a19 => lt (uN h18 (.inr (0, 8)) 8) fun h20 => gd (hS h20 v0 = some (.inl 0)) (lt (uR h20 v0 5 (some a19)) fun h21 => gd (1 ≤ (hB h21).1 ∧ 8 ≤ (hB h21).2) (lt (hN h21) fun a22 => lt (uN h21 (.inr (0, 8)) 8) fun h23 => gd (hS h23 v0 = some (.inl 0)) (lt (uR h23 v0 6 (some a22)) fun h24 => gd (1 ≤ (hB h24).1 ∧ 5 ≤ (hB h24).2) (lt (hN h24) fun a25 => lt (uN h24 (.inl 4) 5) fun h26 => bd (f_P_init a25 h26) fun _ h27 => gd (hS h27 v0 = some (.inl 0)) (lt (uR h27 v0 8 (some a25)) fun h29 => gd (1 ≤ (hB h29).1 ∧ 9 ≤ (hB h29).2) (lt (hN h29) fun a30 => lt (uN h29 (.inl 5) 9) fun h31 => bd (f_C_init a30 h31) fun _ h32 => gd (hS h32 v0 = some (.inl 0)) (lt (uR h32 v0 9 (some a30)) fun h34 => gd (1 ≤ (hB h34).1 ∧ 6 ≤ (hB h34).2) (lt (hN h34) fun a35 => lt (uN h34 (.inl 7) 6) fun h36 => bd (f_K_init a35 h36) fun _ h37 => gd (hS h37 v0 = some (.inl 0)) (lt (uR h37 v0 10 (some a35)) fun h39 => gd (1 ≤ (hB h39).1 ∧ 8 ≤ (hB h39).2) (lt (hN h39) fun a40 => lt (uN h39 (.inl 8) 8) fun h41 => bd (f_S_init a40 h41) fun _ h42 => gd (hS h42 v0 = some (.inl 0)) (lt (uR h42 v0 11 (some a40)) fun h44 => gd (1 ≤ (hB h44).1 ∧ 4 ≤ (hB h44).2) (lt (hN h44) fun a45 => lt (uN h44 (.inl 9) 4) fun h46 => bd (f_G_init a45 h46) fun _ h47 => gd (hS h47 v0 = some (.inl 0)) (lt (uR h47 v0 12 (some a45)) fun h49 => gd (1 ≤ (hB h49).1 ∧ 4 ≤ (hB h49).2) (lt (hN h49) fun a50 => lt (uN h49 (.inl 10) 4) fun h51 => bd (f_H_init a50 h51) fun _ h52 => gd (hS h52 v0 = some (.inl 0)) (lt (uR h52 v0 13 (some a50)) fun h54 => some ((), h54)))))))))))))))))))))))))
set_option maxHeartbeats 4000000 in
set_option maxRecDepth 20000 in
theorem t_B_init {G : GG} (v0 : Nat) (h : Hp) : Mt G M_B_init 3 [.ref v0] cU h (f_B_init v0 h) := by
  refine Mt.ofF (by decide +kernel) rfl (Rt.v rfl rfl) ?_
  show T G M_B_init 3 cU 0 [(0, .ref v0)] [] h _
  unfold f_B_init
  refine q_aload_n (pc := 0) (dq D_B_init_0_ok 0 rfl) rfl 0 rfl ?_
  refine r_obj (pc := 1) (dq D_B_init_0_ok 1 rfl) lob_B lob2 lob3 rfl rfl ?_
  refine q_aload_n (pc := 4) (dq D_B_init_0_ok 2 rfl) rfl 0 rfl ?_
  refine q_sipush (pc := 5) (v := 900) (dq D_B_init_0_ok 3 rfl) (by decide) ?_
  refine r_newB (pc := 8) 900 (dq D_B_init_0_ok 4 rfl) lka_B (by decide) (by decide) (by decide) (fun a1 h2 => ?_)
  refine r_putR (pc := 10) (dq D_B_init_0_ok 5 rfl) fp_B_9_i rfl rfl rfl (fun h3 => ?_)
  refine q_aload_n (pc := 13) (dq D_B_init_0_ok 6 rfl) rfl 0 rfl ?_
  refine r_new (pc := 14) (ci := 1) (dq D_B_init_0_ok 7 rfl) rfl lk_B_13 lkn_R lki_R df_R (fun a4 h5 => ?_)
  refine q_dup (pc := 17) (dq D_B_init_0_ok 8 rfl) rfl ?_
  refine r_iniU (Mc := M_R_init) (pc := 18) (rest := [.ref a4, .ref v0]) 1 0 [] (dq D_B_init_0_ok 9 rfl) lc_R_init rfl rfl li_R_init ml_B_15 rfl rfl rfl rfl (t_R_init a4 h5) (fun _ h6 => ?_)
  refine r_putR (pc := 21) (dq D_B_init_0_ok 10 rfl) fp_B_16_i rfl rfl rfl (fun h8 => ?_)
  refine q_aload_n (pc := 24) (dq D_B_init_0_ok 11 rfl) rfl 0 rfl ?_
  refine r_new (pc := 25) (ci := 2) (dq D_B_init_0_ok 12 rfl) rfl lk_B_20 lkn_O lki_O df_O (fun a9 h10 => ?_)
  refine q_dup (pc := 28) (dq D_B_init_0_ok 13 rfl) rfl ?_
  refine r_iniU (Mc := M_O_init) (pc := 29) (rest := [.ref a9, .ref v0]) 2 0 [] (dq D_B_init_0_ok 14 rfl) lc_O_init rfl rfl li_O_init ml_B_22 rfl rfl rfl rfl (t_O_init a9 h10) (fun _ h11 => ?_)
  refine r_putR (pc := 32) (dq D_B_init_0_ok 15 rfl) fp_B_23_i rfl rfl rfl (fun h13 => ?_)
  refine q_aload_n (pc := 35) (dq D_B_init_0_ok 16 rfl) rfl 0 rfl ?_
  refine r_new (pc := 36) (ci := 2) (dq D_B_init_0_ok 17 rfl) rfl lk_B_20 lkn_O lki_O df_O (fun a14 h15 => ?_)
  refine q_dup (pc := 39) (dq D_B_init_0_ok 18 rfl) rfl ?_
  refine r_iniU (Mc := M_O_init) (pc := 40) (rest := [.ref a14, .ref v0]) 2 0 [] (dq D_B_init_0_ok 19 rfl) lc_O_init rfl rfl li_O_init ml_B_22 rfl rfl rfl rfl (t_O_init a14 h15) (fun _ h16 => ?_)
  refine r_putR (pc := 43) (dq D_B_init_0_ok 20 rfl) fp_B_27_i rfl rfl rfl (fun h18 => ?_)
  refine q_aload_n (pc := 46) (dq D_B_init_0_ok 21 rfl) rfl 0 rfl ?_
  refine q_bipush (pc := 47) (v := 8) (dq D_B_init_0_ok 22 rfl) (by decide) ?_
  refine r_newI (pc := 49) 8 (dq D_B_init_0_ok 23 rfl) lka_I (by decide) (by decide) (by decide) (fun a19 h20 => ?_)
  refine r_putR (pc := 51) (dq D_B_init_0_ok 24 rfl) fp_B_30_i rfl rfl rfl (fun h21 => ?_)
  refine q_aload_n (pc := 54) (dq D_B_init_0_ok 25 rfl) rfl 0 rfl ?_
  refine q_bipush (pc := 55) (v := 8) (dq D_B_init_0_ok 26 rfl) (by decide) ?_
  refine r_newI (pc := 57) 8 (dq D_B_init_0_ok 27 rfl) lka_I (by decide) (by decide) (by decide) (fun a22 h23 => ?_)
  refine r_putR (pc := 59) (dq D_B_init_0_ok 28 rfl) fp_B_34_i rfl rfl rfl (fun h24 => ?_)
  refine q_aload_n (pc := 62) (dq D_B_init_0_ok 29 rfl) rfl 0 rfl ?_
  refine r_new (pc := 63) (ci := 4) (dq D_B_init_0_ok 30 rfl) rfl lk_B_37 lkn_P lki_P df_P (fun a25 h26 => ?_)
  refine q_dup (pc := 66) (dq D_B_init_0_ok 31 rfl) rfl ?_
  refine r_iniU (Mc := M_P_init) (pc := 67) (rest := [.ref a25, .ref v0]) 1 0 [] (dq D_B_init_0_ok 32 rfl) lc_P_init rfl rfl li_P_init ml_B_39 rfl rfl rfl rfl (t_P_init a25 h26) (fun _ h27 => ?_)
  refine r_putR (pc := 70) (dq D_B_init_0_ok 33 rfl) fp_B_40_i rfl rfl rfl (fun h29 => ?_)
  refine q_aload_n (pc := 73) (dq D_B_init_0_ok 34 rfl) rfl 0 rfl ?_
  refine r_new (pc := 74) (ci := 5) (dq D_B_init_0_ok 35 rfl) rfl lk_B_44 lkn_C lki_C df_C (fun a30 h31 => ?_)
  refine q_dup (pc := 77) (dq D_B_init_0_ok 36 rfl) rfl ?_
  refine r_iniU (Mc := M_C_init) (pc := 78) (rest := [.ref a30, .ref v0]) 2 0 [] (dq D_B_init_0_ok 37 rfl) lc_C_init rfl rfl li_C_init ml_B_46 rfl rfl rfl rfl (t_C_init a30 h31) (fun _ h32 => ?_)
  refine r_putR (pc := 81) (dq D_B_init_0_ok 38 rfl) fp_B_47_i rfl rfl rfl (fun h34 => ?_)
  refine q_aload_n (pc := 84) (dq D_B_init_0_ok 39 rfl) rfl 0 rfl ?_
  refine r_new (pc := 85) (ci := 7) (dq D_B_init_0_ok 40 rfl) rfl lk_B_51 lkn_K lki_K df_K (fun a35 h36 => ?_)
  refine q_dup (pc := 88) (dq D_B_init_0_ok 41 rfl) rfl ?_
  refine r_iniU (Mc := M_K_init) (pc := 89) (rest := [.ref a35, .ref v0]) 1 0 [] (dq D_B_init_0_ok 42 rfl) lc_K_init rfl rfl li_K_init ml_B_53 rfl rfl rfl rfl (t_K_init a35 h36) (fun _ h37 => ?_)
  refine r_putR (pc := 92) (dq D_B_init_0_ok 43 rfl) fp_B_54_i rfl rfl rfl (fun h39 => ?_)
  refine q_aload_n (pc := 95) (dq D_B_init_0_ok 44 rfl) rfl 0 rfl ?_
  refine r_new (pc := 96) (ci := 8) (dq D_B_init_0_ok 45 rfl) rfl lk_B_58 lkn_S lki_S df_S (fun a40 h41 => ?_)
  refine q_dup (pc := 99) (dq D_B_init_0_ok 46 rfl) rfl ?_
  refine r_iniU (Mc := M_S_init) (pc := 100) (rest := [.ref a40, .ref v0]) 2 0 [] (dq D_B_init_0_ok 47 rfl) lc_S_init rfl rfl li_S_init ml_B_60 rfl rfl rfl rfl (t_S_init a40 h41) (fun _ h42 => ?_)
  refine r_putR (pc := 103) (dq D_B_init_0_ok 48 rfl) fp_B_61_i rfl rfl rfl (fun h44 => ?_)
  refine q_aload_n (pc := 106) (dq D_B_init_0_ok 49 rfl) rfl 0 rfl ?_
  refine r_new (pc := 107) (ci := 9) (dq D_B_init_0_ok 50 rfl) rfl lk_B_65 lkn_G lki_G df_G (fun a45 h46 => ?_)
  refine q_dup (pc := 110) (dq D_B_init_0_ok 51 rfl) rfl ?_
  refine r_iniU (Mc := M_G_init) (pc := 111) (rest := [.ref a45, .ref v0]) 1 0 [] (dq D_B_init_0_ok 52 rfl) lc_G_init rfl rfl li_G_init ml_B_67 rfl rfl rfl rfl (t_G_init a45 h46) (fun _ h47 => ?_)
  refine r_putR (pc := 114) (dq D_B_init_0_ok 53 rfl) fp_B_68_i rfl rfl rfl (fun h49 => ?_)
  refine q_aload_n (pc := 117) (dq D_B_init_0_ok 54 rfl) rfl 0 rfl ?_
  refine r_new (pc := 118) (ci := 10) (dq D_B_init_0_ok 55 rfl) rfl lk_B_72 lkn_H lki_H df_H (fun a50 h51 => ?_)
  refine q_dup (pc := 121) (dq D_B_init_0_ok 56 rfl) rfl ?_
  refine r_iniU (Mc := M_H_init) (pc := 122) (rest := [.ref a50, .ref v0]) 1 0 [] (dq D_B_init_0_ok 57 rfl) lc_H_init rfl rfl li_H_init ml_B_74 rfl rfl rfl rfl (t_H_init a50 h51) (fun _ h52 => ?_)
  refine r_putR (pc := 125) (dq D_B_init_0_ok 58 rfl) fp_B_75_i rfl rfl rfl (fun h54 => ?_)
  exact r_retu (pc := 128) (dq D_B_init_0_ok 59 rfl) rfl
noncomputable def b_B_append_3 (k3 : (Nat × Int32 × Int32) → Hp → Option (Unit × Hp)) (v0 : Nat) (v1 : Int32) (v2 : Int32) (h : Hp) : Option (Unit × Hp) := if v2 < 0 then (some ((), h)) else (gd (hS h v0 = some (.inl 0)) (lt (hI h v0 1) fun x1 => if 900 ≤ x1 then (some ((), h)) else (gd (hS h v0 = some (.inl 0)) (bR (hR h v0 0) fun x2 => gd (hS h v0 = some (.inl 0)) (lt (hI h v0 1) fun x3 => gd (ai h x2 2 x3) (lt (uI h x2 x3.toNatClampNeg ((v1 >>> (v2 &&& 31)).toInt8.toInt32).toInt8.toInt32) fun h4 => gd (hS h4 v0 = some (.inl 0)) (lt (hI h4 v0 1) fun x5 => gd (hS h4 v0 = some (.inl 0)) (lt (uI h4 v0 1 (x5 + 1)) fun h6 => k3 (v0, v1, v2 + (-8)) h6))))))))
set_option maxHeartbeats 4000000 in
set_option maxRecDepth 20000 in
theorem tb_B_append_3 {G : GG} {k3 : (Nat × Int32 × Int32) → Hp → Option (Unit × Hp)} (hk3 : ∀ s h, T G M_B_append 0 cU 3 [(0, .ref s.1), (1, .int s.2.1), (2, .int s.2.2)] [] h (k3 s h)) (v0 : Nat) (v1 : Int32) (v2 : Int32) (h : Hp) : T G M_B_append 0 cU 3 [(0, .ref v0), (1, .int v1), (2, .int v2)] [] h (b_B_append_3 k3 v0 v1 v2 h) := by
  unfold b_B_append_3
  refine q_iload_n (pc := 3) (dq D_B_append_0_ok 2 rfl) rfl 2 rfl ?_
  refine p_if_lt (pc := 4) 46 (dq D_B_append_0_ok 3 rfl) rfl ?_ ?_
  · exact r_retu (pc := 46) (dq D_B_append_0_ok 25 rfl) rfl
  · refine q_aload_n (pc := 7) (dq D_B_append_0_ok 4 rfl) rfl 0 rfl ?_
    refine r_getI (pc := 8) (dq D_B_append_0_ok 5 rfl) fa_B_79 rfl (fun x1 => ?_)
    refine q_sipush (pc := 11) (v := 900) (dq D_B_append_0_ok 6 rfl) (by decide) ?_
    refine q_ic_ge (pc := 14) 46 (dq D_B_append_0_ok 7 rfl) rfl ?_ ?_
    · exact r_retu (pc := 46) (dq D_B_append_0_ok 25 rfl) rfl
    · refine q_aload_n (pc := 17) (dq D_B_append_0_ok 8 rfl) rfl 0 rfl ?_
      refine q_getR (pc := 18) (dq D_B_append_0_ok 9 rfl) fa_B_9 rfl (fun x2 => ?_)
      refine q_aload_n (pc := 21) (dq D_B_append_0_ok 10 rfl) rfl 0 rfl ?_
      refine r_getI (pc := 22) (dq D_B_append_0_ok 11 rfl) fa_B_79 rfl (fun x3 => ?_)
      refine q_iload_n (pc := 25) (dq D_B_append_0_ok 12 rfl) rfl 1 rfl ?_
      refine q_iload_n (pc := 26) (dq D_B_append_0_ok 13 rfl) rfl 2 rfl ?_
      refine q_ishr (pc := 27) (dq D_B_append_0_ok 14 rfl) ?_
      refine q_i2b (pc := 28) (dq D_B_append_0_ok 15 rfl) ?_
      refine r_bast (pc := 29) (dq D_B_append_0_ok 16 rfl) (fun h4 => ?_)
      refine q_aload_n (pc := 30) (dq D_B_append_0_ok 17 rfl) rfl 0 rfl ?_
      refine q_dup (pc := 31) (dq D_B_append_0_ok 18 rfl) rfl ?_
      refine r_getI (pc := 32) (dq D_B_append_0_ok 19 rfl) fa_B_79 rfl (fun x5 => ?_)
      refine q_ic1 (pc := 35) (dq D_B_append_0_ok 20 rfl) ?_
      refine q_iadd (pc := 36) (dq D_B_append_0_ok 21 rfl) ?_
      refine r_putI (pc := 37) (dq D_B_append_0_ok 22 rfl) fp_B_79 rfl rfl (fun h6 => ?_)
      refine q_iinc (pc := 40) (v := (-8)) (ls' := [(2, .int (v2 + (-8))), (0, .ref v0), (1, .int v1)]) (dq D_B_append_0_ok 23 rfl) 2 rfl (by decide) rfl rfl ?_
      refine q_goto (pc := 43) 3 (dq D_B_append_0_ok 24 rfl) rfl ?_
      exact T.lsub [1, 2, 0] rfl (hk3 (v0, v1, v2 + (-8)) h6)
noncomputable def l_B_append_3 : Nat → (Nat × Int32 × Int32) → Hp → Option (Unit × Hp) := lp (fun k3 s h => b_B_append_3 k3 s.1 s.2.1 s.2.2 h)
set_option maxHeartbeats 4000000 in
set_option maxRecDepth 20000 in
theorem tl_B_append_3 {G : GG} (n : Nat) (s : Nat × Int32 × Int32) (h : Hp) : T G M_B_append 0 cU 3 [(0, .ref s.1), (1, .int s.2.1), (2, .int s.2.2)] [] h (l_B_append_3 n s h) :=
  T.loop (lsOf := fun s => [(0, .ref s.1), (1, .int s.2.1), (2, .int s.2.2)]) (fun k3 hk3 s h => tb_B_append_3 hk3 s.1 s.2.1 s.2.2 h) n s h
noncomputable def f_B_append (v0 : Nat) (v1 : Int32) (h : Hp) : Option (Unit × Hp) := lt (24 : Int32) fun y1 => l_B_append_3 FU (v0, v1, y1) h
set_option maxHeartbeats 4000000 in
set_option maxRecDepth 20000 in
theorem t_B_append {G : GG} (v0 : Nat) (v1 : Int32) (h : Hp) : Mt G M_B_append 0 [.ref v0, .int v1] cU h (f_B_append v0 v1 h) := by
  refine Mt.ofF (by decide +kernel) rfl (Rt.v rfl rfl) ?_
  show T G M_B_append 0 cU 0 [(0, .ref v0), (1, .int v1)] [] h _
  unfold f_B_append
  refine q_bipush (pc := 0) (v := 24) (dq D_B_append_0_ok 0 rfl) (by decide) ?_
  refine r_nmI (fun y1 => ?_)
  refine q_istore_n (pc := 2) (ls' := [(2, .int y1), (0, .ref v0), (1, .int v1)]) (dq D_B_append_0_ok 1 rfl) rfl rfl rfl ?_
  exact T.lsub [1, 2, 0] rfl (tl_B_append_3 FU (v0, v1, y1) h)
noncomputable def f_B_feed (v0 : Nat) (v1 : Int32) (v2 : Int32) (v3 : Int32) (v4 : Int32) (v5 : Int32) (h : Hp) : Option (Int32 × Hp) := gd (hS h v0 = some (.inl 0)) (lt (hI h v0 1) fun x1 => if (x1 + 20) ≤ 900 then (gd (hS h v0 = some (.inl 0)) (bd (f_B_append v0 v1 h) fun _ h2 => gd (hS h2 v0 = some (.inl 0)) (bd (f_B_append v0 v2 h2) fun _ h4 => gd (hS h4 v0 = some (.inl 0)) (bd (f_B_append v0 v3 h4) fun _ h6 => gd (hS h6 v0 = some (.inl 0)) (bd (f_B_append v0 v4 h6) fun _ h8 => gd (hS h8 v0 = some (.inl 0)) (bd (f_B_append v0 v5 h8) fun _ h10 => gd (hS h10 v0 = some (.inl 0)) (lt (hI h10 v0 1) fun x12 => some (x12, h10)))))))) else (some ((-1), h)))
set_option maxHeartbeats 4000000 in
set_option maxRecDepth 20000 in
theorem t_B_feed {G : GG} (v0 : Nat) (v1 : Int32) (v2 : Int32) (v3 : Int32) (v4 : Int32) (v5 : Int32) (h : Hp) : Mt G M_B_feed 1 [.ref v0, .int v1, .int v2, .int v3, .int v4, .int v5] cI h (f_B_feed v0 v1 v2 v3 v4 v5 h) := by
  refine Mt.ofF (by decide +kernel) rfl (Rt.i rfl rfl) ?_
  show T G M_B_feed 1 cI 0 [(0, .ref v0), (1, .int v1), (2, .int v2), (3, .int v3), (4, .int v4), (5, .int v5)] [] h _
  unfold f_B_feed
  refine q_aload_n (pc := 0) (dq D_B_feed_0_ok 0 rfl) rfl 0 rfl ?_
  refine r_getI (pc := 1) (dq D_B_feed_0_ok 1 rfl) fa_B_79 rfl (fun x1 => ?_)
  refine q_bipush (pc := 4) (v := 20) (dq D_B_feed_0_ok 2 rfl) (by decide) ?_
  refine q_iadd (pc := 6) (dq D_B_feed_0_ok 3 rfl) ?_
  refine q_sipush (pc := 7) (v := 900) (dq D_B_feed_0_ok 4 rfl) (by decide) ?_
  refine q_ic_le (pc := 10) 15 (dq D_B_feed_0_ok 5 rfl) rfl ?_ ?_
  · refine q_aload_n (pc := 15) (dq D_B_feed_0_ok 8 rfl) rfl 0 rfl ?_
    refine q_iload_n (pc := 16) (dq D_B_feed_0_ok 9 rfl) rfl 1 rfl ?_
    refine r_invU (Mc := M_B_append) (pc := 17) (ci := 0) (rest := []) 0 1 [.int v1] (dq D_B_feed_0_ok 10 rfl) rfl rfl lc_B_append lv_B_append_ ml_B_83 rfl rfl rfl rfl (t_B_append v0 v1 h) (fun _ h2 => ?_)
    refine q_aload_n (pc := 20) (dq D_B_feed_0_ok 11 rfl) rfl 0 rfl ?_
    refine q_iload_n (pc := 21) (dq D_B_feed_0_ok 12 rfl) rfl 2 rfl ?_
    refine r_invU (Mc := M_B_append) (pc := 22) (ci := 0) (rest := []) 0 1 [.int v2] (dq D_B_feed_0_ok 13 rfl) rfl rfl lc_B_append lv_B_append_ ml_B_83 rfl rfl rfl rfl (t_B_append v0 v2 h2) (fun _ h4 => ?_)
    refine q_aload_n (pc := 25) (dq D_B_feed_0_ok 14 rfl) rfl 0 rfl ?_
    refine q_iload_n (pc := 26) (dq D_B_feed_0_ok 15 rfl) rfl 3 rfl ?_
    refine r_invU (Mc := M_B_append) (pc := 27) (ci := 0) (rest := []) 0 1 [.int v3] (dq D_B_feed_0_ok 16 rfl) rfl rfl lc_B_append lv_B_append_ ml_B_83 rfl rfl rfl rfl (t_B_append v0 v3 h4) (fun _ h6 => ?_)
    refine q_aload_n (pc := 30) (dq D_B_feed_0_ok 17 rfl) rfl 0 rfl ?_
    refine q_iload (pc := 31) (dq D_B_feed_0_ok 18 rfl) 4 rfl ?_
    refine r_invU (Mc := M_B_append) (pc := 33) (ci := 0) (rest := []) 0 1 [.int v4] (dq D_B_feed_0_ok 19 rfl) rfl rfl lc_B_append lv_B_append_ ml_B_83 rfl rfl rfl rfl (t_B_append v0 v4 h6) (fun _ h8 => ?_)
    refine q_aload_n (pc := 36) (dq D_B_feed_0_ok 20 rfl) rfl 0 rfl ?_
    refine q_iload (pc := 37) (dq D_B_feed_0_ok 21 rfl) 5 rfl ?_
    refine r_invU (Mc := M_B_append) (pc := 39) (ci := 0) (rest := []) 0 1 [.int v5] (dq D_B_feed_0_ok 22 rfl) rfl rfl lc_B_append lv_B_append_ ml_B_83 rfl rfl rfl rfl (t_B_append v0 v5 h8) (fun _ h10 => ?_)
    refine q_aload_n (pc := 42) (dq D_B_feed_0_ok 23 rfl) rfl 0 rfl ?_
    refine r_getI (pc := 43) (dq D_B_feed_0_ok 24 rfl) fa_B_79 rfl (fun x12 => ?_)
    exact r_reti (pc := 46) (dq D_B_feed_0_ok 25 rfl) rfl
  · refine q_icm1 (pc := 13) (dq D_B_feed_0_ok 6 rfl) ?_
    exact r_reti (pc := 14) (dq D_B_feed_0_ok 7 rfl) rfl
noncomputable def f_B_refuse (v0 : Nat) (v1 : Int32) (h : Hp) : Option (Int32 × Hp) := gd (hS h v0 = some (.inl 0)) (lt (uI h v0 15 v1) fun h1 => some ((-1), h1))
set_option maxHeartbeats 4000000 in
set_option maxRecDepth 20000 in
theorem t_B_refuse {G : GG} (v0 : Nat) (v1 : Int32) (h : Hp) : Mt G M_B_refuse 0 [.ref v0, .int v1] cI h (f_B_refuse v0 v1 h) := by
  refine Mt.ofF (by decide +kernel) rfl (Rt.i rfl rfl) ?_
  show T G M_B_refuse 0 cI 0 [(0, .ref v0), (1, .int v1)] [] h _
  unfold f_B_refuse
  refine q_aload_n (pc := 0) (dq D_B_refuse_0_ok 0 rfl) rfl 0 rfl ?_
  refine q_iload_n (pc := 1) (dq D_B_refuse_0_ok 1 rfl) rfl 1 rfl ?_
  refine r_putI (pc := 2) (dq D_B_refuse_0_ok 2 rfl) fp_B_112 rfl rfl (fun h1 => ?_)
  refine q_icm1 (pc := 5) (dq D_B_refuse_0_ok 3 rfl) ?_
  exact r_reti (pc := 6) (dq D_B_refuse_0_ok 4 rfl) rfl
noncomputable def f_Math_min (v0 : Int32) (v1 : Int32) (h : Hp) : Option (Int32 × Hp) := if v1 < v0 then (some (v1, h)) else (some (v0, h))
set_option maxHeartbeats 4000000 in
set_option maxRecDepth 20000 in
theorem t_Math_min {G : GG} (v0 : Int32) (v1 : Int32) (h : Hp) : Mt G M_Math_min 0 [.int v0, .int v1] cI h (f_Math_min v0 v1 h) := by
  refine Mt.ofF (by decide +kernel) rfl (Rt.i rfl rfl) ?_
  show T G M_Math_min 0 cI 0 [(0, .int v0), (1, .int v1)] [] h _
  unfold f_Math_min
  refine q_iload_n (pc := 0) (dq D_Math_min_0_ok 0 rfl) rfl 0 rfl ?_
  refine q_iload_n (pc := 1) (dq D_Math_min_0_ok 1 rfl) rfl 1 rfl ?_
  refine q_ic_gt (pc := 2) 9 (dq D_Math_min_0_ok 2 rfl) rfl ?_ ?_
  · refine q_iload_n (pc := 9) (dq D_Math_min_0_ok 5 rfl) rfl 1 rfl ?_
    exact r_reti (pc := 10) (dq D_Math_min_0_ok 6 rfl) rfl
  · refine q_iload_n (pc := 5) (dq D_Math_min_0_ok 3 rfl) rfl 0 rfl ?_
    refine q_goto (pc := 6) 10 (dq D_Math_min_0_ok 4 rfl) rfl ?_
    exact r_reti (pc := 10) (dq D_Math_min_0_ok 6 rfl) rfl
noncomputable def b_Arr_fillI_5 (k5 : (Nat × Int32 × Int32 × Int32) → Hp → Option (Unit × Hp)) (v0 : Nat) (v1 : Int32) (v2 : Int32) (v3 : Int32) (h : Hp) : Option (Unit × Hp) := if v3 ≤ v2 then (some ((), h)) else (gd (ai h v0 0 v2) (lt (uI h v0 v2.toNatClampNeg v1) fun h1 => k5 (v0, v1, v2 + 1, v3) h1))
set_option maxHeartbeats 4000000 in
set_option maxRecDepth 20000 in
theorem tb_Arr_fillI_5 {G : GG} {k5 : (Nat × Int32 × Int32 × Int32) → Hp → Option (Unit × Hp)} (hk5 : ∀ s h, T G M_Arr_fillI 0 cU 5 [(0, .ref s.1), (1, .int s.2.1), (2, .int s.2.2.1), (3, .int s.2.2.2)] [] h (k5 s h)) (v0 : Nat) (v1 : Int32) (v2 : Int32) (v3 : Int32) (h : Hp) : T G M_Arr_fillI 0 cU 5 [(0, .ref v0), (1, .int v1), (2, .int v2), (3, .int v3)] [] h (b_Arr_fillI_5 k5 v0 v1 v2 v3 h) := by
  unfold b_Arr_fillI_5
  refine q_iload_n (pc := 5) (dq D_Arr_fillI_0_ok 5 rfl) rfl 2 rfl ?_
  refine q_iload_n (pc := 6) (dq D_Arr_fillI_0_ok 6 rfl) rfl 3 rfl ?_
  refine q_ic_ge (pc := 7) 20 (dq D_Arr_fillI_0_ok 7 rfl) rfl ?_ ?_
  · exact r_retu (pc := 20) (dq D_Arr_fillI_0_ok 14 rfl) rfl
  · refine q_aload_n (pc := 10) (dq D_Arr_fillI_0_ok 8 rfl) rfl 0 rfl ?_
    refine q_iload_n (pc := 11) (dq D_Arr_fillI_0_ok 9 rfl) rfl 2 rfl ?_
    refine q_iload_n (pc := 12) (dq D_Arr_fillI_0_ok 10 rfl) rfl 1 rfl ?_
    refine r_iast (pc := 13) (dq D_Arr_fillI_0_ok 11 rfl) (fun h1 => ?_)
    refine q_iinc (pc := 14) (v := (1)) (ls' := [(2, .int (v2 + 1)), (0, .ref v0), (1, .int v1), (3, .int v3)]) (dq D_Arr_fillI_0_ok 12 rfl) 2 rfl (by decide) rfl rfl ?_
    refine q_goto (pc := 17) 5 (dq D_Arr_fillI_0_ok 13 rfl) rfl ?_
    exact T.lsub [1, 2, 0, 3] rfl (hk5 (v0, v1, v2 + 1, v3) h1)
noncomputable def l_Arr_fillI_5 : Nat → (Nat × Int32 × Int32 × Int32) → Hp → Option (Unit × Hp) := lp (fun k5 s h => b_Arr_fillI_5 k5 s.1 s.2.1 s.2.2.1 s.2.2.2 h)
set_option maxHeartbeats 4000000 in
set_option maxRecDepth 20000 in
theorem tl_Arr_fillI_5 {G : GG} (n : Nat) (s : Nat × Int32 × Int32 × Int32) (h : Hp) : T G M_Arr_fillI 0 cU 5 [(0, .ref s.1), (1, .int s.2.1), (2, .int s.2.2.1), (3, .int s.2.2.2)] [] h (l_Arr_fillI_5 n s h) :=
  T.loop (lsOf := fun s => [(0, .ref s.1), (1, .int s.2.1), (2, .int s.2.2.1), (3, .int s.2.2.2)]) (fun k5 hk5 s h => tb_Arr_fillI_5 hk5 s.1 s.2.1 s.2.2.1 s.2.2.2 h) n s h
noncomputable def f_Arr_fillI (v0 : Nat) (v1 : Int32) (h : Hp) : Option (Unit × Hp) := lt (0 : Int32) fun y1 => bR (al h v0 0) fun n2 => lt (Int32.ofNat n2 : Int32) fun y3 => l_Arr_fillI_5 FU (v0, v1, y1, y3) h
set_option maxHeartbeats 4000000 in
set_option maxRecDepth 20000 in
theorem t_Arr_fillI {G : GG} (v0 : Nat) (v1 : Int32) (h : Hp) : Mt G M_Arr_fillI 0 [.ref v0, .int v1] cU h (f_Arr_fillI v0 v1 h) := by
  refine Mt.ofF (by decide +kernel) rfl (Rt.v rfl rfl) ?_
  show T G M_Arr_fillI 0 cU 0 [(0, .ref v0), (1, .int v1)] [] h _
  unfold f_Arr_fillI
  refine q_ic0 (pc := 0) (dq D_Arr_fillI_0_ok 0 rfl) ?_
  refine r_nmI (fun y1 => ?_)
  refine q_istore_n (pc := 1) (ls' := [(2, .int y1), (0, .ref v0), (1, .int v1)]) (dq D_Arr_fillI_0_ok 1 rfl) rfl rfl rfl ?_
  refine q_aload_n (pc := 2) (dq D_Arr_fillI_0_ok 2 rfl) rfl 1 rfl ?_
  refine r_alen (pc := 3) 0 (dq D_Arr_fillI_0_ok 3 rfl) rfl (fun n2 => ?_)
  refine r_nmI (fun y3 => ?_)
  refine q_istore_n (pc := 4) (ls' := [(3, .int y3), (2, .int y1), (0, .ref v0), (1, .int v1)]) (dq D_Arr_fillI_0_ok 4 rfl) rfl rfl rfl ?_
  exact T.lsub [2, 3, 1, 0] rfl (tl_Arr_fillI_5 FU (v0, v1, y1, y3) h)
noncomputable def f_O_clear (v0 : Nat) (h : Hp) : Option (Unit × Hp) := gd (hS h v0 = some (.inl 2)) (lt (uI h v0 0 0) fun h1 => gd (hS h1 v0 = some (.inl 2)) (lt (uI h1 v0 1 0) fun h2 => gd (hS h2 v0 = some (.inl 2)) (lt (uI h2 v0 2 0) fun h3 => gd (hS h3 v0 = some (.inl 2)) (lt (uI h3 v0 4 0) fun h4 => gd (hS h4 v0 = some (.inl 2)) (lt (uI h4 v0 6 0) fun h5 => gd (hS h5 v0 = some (.inl 2)) (lt (uI h5 v0 12 ((-1))) fun h6 => gd (hS h6 v0 = some (.inl 2)) (lt (uI h6 v0 13 0) fun h7 => gd (hS h7 v0 = some (.inl 2)) (bR (hR h7 v0 5) fun x8 => bd (f_Arr_fillI x8 ((-1)) h7) fun _ h9 => gd (hS h9 v0 = some (.inl 2)) (bR (hR h9 v0 10) fun x11 => bd (f_Arr_fillI x11 (0 : Int32) h9) fun _ h12 => some ((), h12))))))))))
set_option maxHeartbeats 4000000 in
set_option maxRecDepth 20000 in
theorem t_O_clear {G : GG} (v0 : Nat) (h : Hp) : Mt G M_O_clear 1 [.ref v0] cU h (f_O_clear v0 h) := by
  refine Mt.ofF (by decide +kernel) rfl (Rt.v rfl rfl) ?_
  show T G M_O_clear 1 cU 0 [(0, .ref v0)] [] h _
  unfold f_O_clear
  refine q_aload_n (pc := 0) (dq D_O_clear_0_ok 0 rfl) rfl 0 rfl ?_
  refine q_ic0 (pc := 1) (dq D_O_clear_0_ok 1 rfl) ?_
  refine r_putI (pc := 2) (dq D_O_clear_0_ok 2 rfl) fp_O_48 rfl rfl (fun h1 => ?_)
  refine q_aload_n (pc := 5) (dq D_O_clear_0_ok 3 rfl) rfl 0 rfl ?_
  refine q_ic0 (pc := 6) (dq D_O_clear_0_ok 4 rfl) ?_
  refine r_putI (pc := 7) (dq D_O_clear_0_ok 5 rfl) fp_O_51 rfl rfl (fun h2 => ?_)
  refine q_aload_n (pc := 10) (dq D_O_clear_0_ok 6 rfl) rfl 0 rfl ?_
  refine q_ic0 (pc := 11) (dq D_O_clear_0_ok 7 rfl) ?_
  refine r_putI (pc := 12) (dq D_O_clear_0_ok 8 rfl) fp_O_54 rfl rfl (fun h3 => ?_)
  refine q_aload_n (pc := 15) (dq D_O_clear_0_ok 9 rfl) rfl 0 rfl ?_
  refine q_ic0 (pc := 16) (dq D_O_clear_0_ok 10 rfl) ?_
  refine r_putI (pc := 17) (dq D_O_clear_0_ok 11 rfl) fp_O_57 rfl rfl (fun h4 => ?_)
  refine q_aload_n (pc := 20) (dq D_O_clear_0_ok 12 rfl) rfl 0 rfl ?_
  refine q_ic0 (pc := 21) (dq D_O_clear_0_ok 13 rfl) ?_
  refine r_putI (pc := 22) (dq D_O_clear_0_ok 14 rfl) fp_O_60 rfl rfl (fun h5 => ?_)
  refine q_aload_n (pc := 25) (dq D_O_clear_0_ok 15 rfl) rfl 0 rfl ?_
  refine q_icm1 (pc := 26) (dq D_O_clear_0_ok 16 rfl) ?_
  refine r_putI (pc := 27) (dq D_O_clear_0_ok 17 rfl) fp_O_36 rfl rfl (fun h6 => ?_)
  refine q_aload_n (pc := 30) (dq D_O_clear_0_ok 18 rfl) rfl 0 rfl ?_
  refine q_ic0 (pc := 31) (dq D_O_clear_0_ok 19 rfl) ?_
  refine r_putI (pc := 32) (dq D_O_clear_0_ok 20 rfl) fp_O_63 rfl rfl (fun h7 => ?_)
  refine q_aload_n (pc := 35) (dq D_O_clear_0_ok 21 rfl) rfl 0 rfl ?_
  refine q_getR (pc := 36) (dq D_O_clear_0_ok 22 rfl) fa_O_17 rfl (fun x8 => ?_)
  refine q_icm1 (pc := 39) (dq D_O_clear_0_ok 23 rfl) ?_
  refine r_insU (Mc := M_Arr_fillI) (pc := 40) (rest := []) 0 2 [.ref x8, .int ((-1))] (dq D_O_clear_0_ok 24 rfl) lc_Arr_fillI ls_Arr_fillI ml_O_66 rfl rfl rfl rfl (t_Arr_fillI x8 ((-1)) h7) (fun _ h9 => ?_)
  refine q_aload_n (pc := 43) (dq D_O_clear_0_ok 25 rfl) rfl 0 rfl ?_
  refine q_getR (pc := 44) (dq D_O_clear_0_ok 26 rfl) fa_O_30 rfl (fun x11 => ?_)
  refine q_ic0 (pc := 47) (dq D_O_clear_0_ok 27 rfl) ?_
  refine r_insU (Mc := M_Arr_fillI) (pc := 48) (rest := []) 0 2 [.ref x11, .int 0] (dq D_O_clear_0_ok 28 rfl) lc_Arr_fillI ls_Arr_fillI ml_O_66 rfl rfl rfl rfl (t_Arr_fillI x11 (0 : Int32) h9) (fun _ h12 => ?_)
  exact r_retu (pc := 51) (dq D_O_clear_0_ok 29 rfl) rfl
noncomputable def b_R_takeWord_74 (v0 : Nat) (h : Hp) : Option (Unit × Hp) := gd (hS h v0 = some (.inl 1)) (lt (hI h v0 7) fun x1 => gd (hS h v0 = some (.inl 1)) (lt (hI h v0 6) fun x2 => if 8 < (x1 - x2) then (gd (hS h v0 = some (.inl 1)) (lt (uI h v0 8 5) fun h3 => some ((), h3))) else (gd (hS h v0 = some (.inl 1)) (lt (uI h v0 8 1) fun h4 => some ((), h4)))))
set_option maxHeartbeats 4000000 in
set_option maxRecDepth 20000 in
theorem tb_R_takeWord_74 {G : GG} (v0 : Nat) (h : Hp) : T G M_R_takeWord 0 cU 74 [(0, .ref v0)] [] h (b_R_takeWord_74 v0 h) := by
  unfold b_R_takeWord_74
  refine q_aload_n (pc := 74) (dq D_R_takeWord_0_ok 39 rfl) rfl 0 rfl ?_
  refine q_aload_n (pc := 75) (dq D_R_takeWord_0_ok 40 rfl) rfl 0 rfl ?_
  refine r_getI (pc := 76) (dq D_R_takeWord_0_ok 41 rfl) fa_R_55 rfl (fun x1 => ?_)
  refine q_aload_n (pc := 79) (dq D_R_takeWord_0_ok 42 rfl) rfl 0 rfl ?_
  refine r_getI (pc := 80) (dq D_R_takeWord_0_ok 43 rfl) fa_R_70 rfl (fun x2 => ?_)
  refine q_isub (pc := 83) (dq D_R_takeWord_0_ok 44 rfl) ?_
  refine q_bipush (pc := 84) (v := 8) (dq D_R_takeWord_0_ok 45 rfl) (by decide) ?_
  refine q_ic_gt (pc := 86) 93 (dq D_R_takeWord_0_ok 46 rfl) rfl ?_ ?_
  · refine q_ic5 (pc := 93) (dq D_R_takeWord_0_ok 49 rfl) ?_
    refine r_putI (pc := 94) (dq D_R_takeWord_0_ok 50 rfl) fp_R_67 rfl rfl (fun h3 => ?_)
    exact r_retu (pc := 97) (dq D_R_takeWord_0_ok 51 rfl) rfl
  · refine q_ic1 (pc := 89) (dq D_R_takeWord_0_ok 47 rfl) ?_
    refine q_goto (pc := 90) 94 (dq D_R_takeWord_0_ok 48 rfl) rfl ?_
    refine r_putI (pc := 94) (dq D_R_takeWord_0_ok 50 rfl) fp_R_67 rfl rfl (fun h4 => ?_)
    exact r_retu (pc := 97) (dq D_R_takeWord_0_ok 51 rfl) rfl
noncomputable def b_R_takeWord_0 (k0 : Nat → Hp → Option (Unit × Hp)) (v0 : Nat) (h : Hp) : Option (Unit × Hp) := gd (hS h v0 = some (.inl 1)) (lt (hI h v0 7) fun x1 => gd (hS h v0 = some (.inl 1)) (lt (hI h v0 1) fun x2 => if x2 ≤ x1 then (b_R_takeWord_74 v0 h) else (gd (hS h v0 = some (.inl 1)) (bR (hR h v0 0) fun x3 => gd (hS h v0 = some (.inl 1)) (lt (hI h v0 7) fun x4 => gd (ai h x3 2 x4) (lt (hI h x3 x4.toNatClampNeg) fun x5 => if x5 < 97 then (b_R_takeWord_74 v0 h) else (gd (hS h v0 = some (.inl 1)) (bR (hR h v0 0) fun x6 => gd (hS h v0 = some (.inl 1)) (lt (hI h v0 7) fun x7 => gd (ai h x6 2 x7) (lt (hI h x6 x7.toNatClampNeg) fun x8 => if 122 < x8 then (b_R_takeWord_74 v0 h) else (gd (hS h v0 = some (.inl 1)) (lt (hL h v0 10) fun x9 => gd (hS h v0 = some (.inl 1)) (bR (hR h v0 0) fun x10 => gd (hS h v0 = some (.inl 1)) (lt (hI h v0 7) fun x11 => gd (ai h x10 2 x11) (lt (hI h x10 x11.toNatClampNeg) fun x12 => gd (hS h v0 = some (.inl 1)) (lt (uL h v0 10 ((x9 <<< ((8 : Int32).toInt64 &&& 63)) ||| x12.toInt64)) fun h13 => gd (hS h13 v0 = some (.inl 1)) (lt (hI h13 v0 7) fun x14 => gd (hS h13 v0 = some (.inl 1)) (lt (uI h13 v0 7 (x14 + 1)) fun h15 => k0 v0 h15))))))))))))))))))
set_option maxHeartbeats 4000000 in
set_option maxRecDepth 20000 in
theorem tb_R_takeWord_0 {G : GG} {k0 : Nat → Hp → Option (Unit × Hp)} (hk0 : ∀ s h, T G M_R_takeWord 0 cU 0 [(0, .ref s)] [] h (k0 s h)) (v0 : Nat) (h : Hp) : T G M_R_takeWord 0 cU 0 [(0, .ref v0)] [] h (b_R_takeWord_0 k0 v0 h) := by
  unfold b_R_takeWord_0
  refine q_aload_n (pc := 0) (dq D_R_takeWord_0_ok 0 rfl) rfl 0 rfl ?_
  refine r_getI (pc := 1) (dq D_R_takeWord_0_ok 1 rfl) fa_R_55 rfl (fun x1 => ?_)
  refine q_aload_n (pc := 4) (dq D_R_takeWord_0_ok 2 rfl) rfl 0 rfl ?_
  refine r_getI (pc := 5) (dq D_R_takeWord_0_ok 3 rfl) fa_R_32 rfl (fun x2 => ?_)
  refine q_ic_ge (pc := 8) 74 (dq D_R_takeWord_0_ok 4 rfl) rfl ?_ ?_
  · exact T.lsub [0] rfl (tb_R_takeWord_74 v0 h)
  · refine q_aload_n (pc := 11) (dq D_R_takeWord_0_ok 5 rfl) rfl 0 rfl ?_
    refine q_getR (pc := 12) (dq D_R_takeWord_0_ok 6 rfl) fa_R_22 rfl (fun x3 => ?_)
    refine q_aload_n (pc := 15) (dq D_R_takeWord_0_ok 7 rfl) rfl 0 rfl ?_
    refine r_getI (pc := 16) (dq D_R_takeWord_0_ok 8 rfl) fa_R_55 rfl (fun x4 => ?_)
    refine r_bald (pc := 19) (dq D_R_takeWord_0_ok 9 rfl) (fun x5 => ?_)
    refine q_bipush (pc := 20) (v := 97) (dq D_R_takeWord_0_ok 10 rfl) (by decide) ?_
    refine q_ic_lt (pc := 22) 74 (dq D_R_takeWord_0_ok 11 rfl) rfl ?_ ?_
    · exact T.lsub [0] rfl (tb_R_takeWord_74 v0 h)
    · refine q_aload_n (pc := 25) (dq D_R_takeWord_0_ok 12 rfl) rfl 0 rfl ?_
      refine q_getR (pc := 26) (dq D_R_takeWord_0_ok 13 rfl) fa_R_22 rfl (fun x6 => ?_)
      refine q_aload_n (pc := 29) (dq D_R_takeWord_0_ok 14 rfl) rfl 0 rfl ?_
      refine r_getI (pc := 30) (dq D_R_takeWord_0_ok 15 rfl) fa_R_55 rfl (fun x7 => ?_)
      refine r_bald (pc := 33) (dq D_R_takeWord_0_ok 16 rfl) (fun x8 => ?_)
      refine q_bipush (pc := 34) (v := 122) (dq D_R_takeWord_0_ok 17 rfl) (by decide) ?_
      refine q_ic_gt (pc := 36) 74 (dq D_R_takeWord_0_ok 18 rfl) rfl ?_ ?_
      · exact T.lsub [0] rfl (tb_R_takeWord_74 v0 h)
      · refine q_aload_n (pc := 39) (dq D_R_takeWord_0_ok 19 rfl) rfl 0 rfl ?_
        refine q_aload_n (pc := 40) (dq D_R_takeWord_0_ok 20 rfl) rfl 0 rfl ?_
        refine r_getL (pc := 41) (dq D_R_takeWord_0_ok 21 rfl) fa_R_261 rfl (fun x9 => ?_)
        refine q_bipush (pc := 44) (v := 8) (dq D_R_takeWord_0_ok 22 rfl) (by decide) ?_
        refine q_lshl (pc := 46) (dq D_R_takeWord_0_ok 23 rfl) ?_
        refine q_aload_n (pc := 47) (dq D_R_takeWord_0_ok 24 rfl) rfl 0 rfl ?_
        refine q_getR (pc := 48) (dq D_R_takeWord_0_ok 25 rfl) fa_R_22 rfl (fun x10 => ?_)
        refine q_aload_n (pc := 51) (dq D_R_takeWord_0_ok 26 rfl) rfl 0 rfl ?_
        refine r_getI (pc := 52) (dq D_R_takeWord_0_ok 27 rfl) fa_R_55 rfl (fun x11 => ?_)
        refine r_bald (pc := 55) (dq D_R_takeWord_0_ok 28 rfl) (fun x12 => ?_)
        refine q_i2l (pc := 56) (dq D_R_takeWord_0_ok 29 rfl) ?_
        refine q_lor (pc := 57) (dq D_R_takeWord_0_ok 30 rfl) ?_
        refine r_putL (pc := 58) (dq D_R_takeWord_0_ok 31 rfl) fp_R_261 rfl rfl (fun h13 => ?_)
        refine q_aload_n (pc := 61) (dq D_R_takeWord_0_ok 32 rfl) rfl 0 rfl ?_
        refine q_dup (pc := 62) (dq D_R_takeWord_0_ok 33 rfl) rfl ?_
        refine r_getI (pc := 63) (dq D_R_takeWord_0_ok 34 rfl) fa_R_55 rfl (fun x14 => ?_)
        refine q_ic1 (pc := 66) (dq D_R_takeWord_0_ok 35 rfl) ?_
        refine q_iadd (pc := 67) (dq D_R_takeWord_0_ok 36 rfl) ?_
        refine r_putI (pc := 68) (dq D_R_takeWord_0_ok 37 rfl) fp_R_55 rfl rfl (fun h15 => ?_)
        refine q_goto (pc := 71) 0 (dq D_R_takeWord_0_ok 38 rfl) rfl ?_
        exact T.lsub [0] rfl (hk0 v0 h15)
noncomputable def l_R_takeWord_0 : Nat → Nat → Hp → Option (Unit × Hp) := lp (fun k0 s h => b_R_takeWord_0 k0 s h)
set_option maxHeartbeats 4000000 in
set_option maxRecDepth 20000 in
theorem tl_R_takeWord_0 {G : GG} (n : Nat) (s : Nat) (h : Hp) : T G M_R_takeWord 0 cU 0 [(0, .ref s)] [] h (l_R_takeWord_0 n s h) :=
  T.loop (lsOf := fun s => [(0, .ref s)]) (fun k0 hk0 s h => tb_R_takeWord_0 hk0 s h) n s h
noncomputable def f_R_takeWord (v0 : Nat) (h : Hp) : Option (Unit × Hp) := l_R_takeWord_0 FU v0 h
set_option maxHeartbeats 4000000 in
set_option maxRecDepth 20000 in
theorem t_R_takeWord {G : GG} (v0 : Nat) (h : Hp) : Mt G M_R_takeWord 0 [.ref v0] cU h (f_R_takeWord v0 h) := by
  refine Mt.ofF (by decide +kernel) rfl (Rt.v rfl rfl) ?_
  show T G M_R_takeWord 0 cU 0 [(0, .ref v0)] [] h _
  unfold f_R_takeWord
  exact T.lsub [0] rfl (tl_R_takeWord_0 FU v0 h)
noncomputable def b_R_takeWhole_76 (v0 : Nat) (h : Hp) : Option (Unit × Hp) := gd (hS h v0 = some (.inl 1)) (lt (hI h v0 7) fun x1 => gd (hS h v0 = some (.inl 1)) (lt (hI h v0 6) fun x2 => if 3 < (x1 - x2) then (gd (hS h v0 = some (.inl 1)) (lt (uI h v0 8 5) fun h3 => some ((), h3))) else (gd (hS h v0 = some (.inl 1)) (lt (uI h v0 8 2) fun h4 => some ((), h4)))))
set_option maxHeartbeats 4000000 in
set_option maxRecDepth 20000 in
theorem tb_R_takeWhole_76 {G : GG} (v0 : Nat) (h : Hp) : T G M_R_takeWhole 0 cU 76 [(0, .ref v0)] [] h (b_R_takeWhole_76 v0 h) := by
  unfold b_R_takeWhole_76
  refine q_aload_n (pc := 76) (dq D_R_takeWhole_0_ok 40 rfl) rfl 0 rfl ?_
  refine q_aload_n (pc := 77) (dq D_R_takeWhole_0_ok 41 rfl) rfl 0 rfl ?_
  refine r_getI (pc := 78) (dq D_R_takeWhole_0_ok 42 rfl) fa_R_55 rfl (fun x1 => ?_)
  refine q_aload_n (pc := 81) (dq D_R_takeWhole_0_ok 43 rfl) rfl 0 rfl ?_
  refine r_getI (pc := 82) (dq D_R_takeWhole_0_ok 44 rfl) fa_R_70 rfl (fun x2 => ?_)
  refine q_isub (pc := 85) (dq D_R_takeWhole_0_ok 45 rfl) ?_
  refine q_ic3 (pc := 86) (dq D_R_takeWhole_0_ok 46 rfl) ?_
  refine q_ic_gt (pc := 87) 94 (dq D_R_takeWhole_0_ok 47 rfl) rfl ?_ ?_
  · refine q_ic5 (pc := 94) (dq D_R_takeWhole_0_ok 50 rfl) ?_
    refine r_putI (pc := 95) (dq D_R_takeWhole_0_ok 51 rfl) fp_R_67 rfl rfl (fun h3 => ?_)
    exact r_retu (pc := 98) (dq D_R_takeWhole_0_ok 52 rfl) rfl
  · refine q_ic2 (pc := 90) (dq D_R_takeWhole_0_ok 48 rfl) ?_
    refine q_goto (pc := 91) 95 (dq D_R_takeWhole_0_ok 49 rfl) rfl ?_
    refine r_putI (pc := 95) (dq D_R_takeWhole_0_ok 51 rfl) fp_R_67 rfl rfl (fun h4 => ?_)
    exact r_retu (pc := 98) (dq D_R_takeWhole_0_ok 52 rfl) rfl
noncomputable def b_R_takeWhole_0 (k0 : Nat → Hp → Option (Unit × Hp)) (v0 : Nat) (h : Hp) : Option (Unit × Hp) := gd (hS h v0 = some (.inl 1)) (lt (hI h v0 7) fun x1 => gd (hS h v0 = some (.inl 1)) (lt (hI h v0 1) fun x2 => if x2 ≤ x1 then (b_R_takeWhole_76 v0 h) else (gd (hS h v0 = some (.inl 1)) (bR (hR h v0 0) fun x3 => gd (hS h v0 = some (.inl 1)) (lt (hI h v0 7) fun x4 => gd (ai h x3 2 x4) (lt (hI h x3 x4.toNatClampNeg) fun x5 => if x5 < 48 then (b_R_takeWhole_76 v0 h) else (gd (hS h v0 = some (.inl 1)) (bR (hR h v0 0) fun x6 => gd (hS h v0 = some (.inl 1)) (lt (hI h v0 7) fun x7 => gd (ai h x6 2 x7) (lt (hI h x6 x7.toNatClampNeg) fun x8 => if 57 < x8 then (b_R_takeWhole_76 v0 h) else (gd (hS h v0 = some (.inl 1)) (lt (hI h v0 9) fun x9 => gd (hS h v0 = some (.inl 1)) (bR (hR h v0 0) fun x10 => gd (hS h v0 = some (.inl 1)) (lt (hI h v0 7) fun x11 => gd (ai h x10 2 x11) (lt (hI h x10 x11.toNatClampNeg) fun x12 => gd (hS h v0 = some (.inl 1)) (lt (uI h v0 9 ((x9 * 10) + (x12 - 48))) fun h13 => gd (hS h13 v0 = some (.inl 1)) (lt (hI h13 v0 7) fun x14 => gd (hS h13 v0 = some (.inl 1)) (lt (uI h13 v0 7 (x14 + 1)) fun h15 => k0 v0 h15))))))))))))))))))
set_option maxHeartbeats 4000000 in
set_option maxRecDepth 20000 in
theorem tb_R_takeWhole_0 {G : GG} {k0 : Nat → Hp → Option (Unit × Hp)} (hk0 : ∀ s h, T G M_R_takeWhole 0 cU 0 [(0, .ref s)] [] h (k0 s h)) (v0 : Nat) (h : Hp) : T G M_R_takeWhole 0 cU 0 [(0, .ref v0)] [] h (b_R_takeWhole_0 k0 v0 h) := by
  unfold b_R_takeWhole_0
  refine q_aload_n (pc := 0) (dq D_R_takeWhole_0_ok 0 rfl) rfl 0 rfl ?_
  refine r_getI (pc := 1) (dq D_R_takeWhole_0_ok 1 rfl) fa_R_55 rfl (fun x1 => ?_)
  refine q_aload_n (pc := 4) (dq D_R_takeWhole_0_ok 2 rfl) rfl 0 rfl ?_
  refine r_getI (pc := 5) (dq D_R_takeWhole_0_ok 3 rfl) fa_R_32 rfl (fun x2 => ?_)
  refine q_ic_ge (pc := 8) 76 (dq D_R_takeWhole_0_ok 4 rfl) rfl ?_ ?_
  · exact T.lsub [0] rfl (tb_R_takeWhole_76 v0 h)
  · refine q_aload_n (pc := 11) (dq D_R_takeWhole_0_ok 5 rfl) rfl 0 rfl ?_
    refine q_getR (pc := 12) (dq D_R_takeWhole_0_ok 6 rfl) fa_R_22 rfl (fun x3 => ?_)
    refine q_aload_n (pc := 15) (dq D_R_takeWhole_0_ok 7 rfl) rfl 0 rfl ?_
    refine r_getI (pc := 16) (dq D_R_takeWhole_0_ok 8 rfl) fa_R_55 rfl (fun x4 => ?_)
    refine r_bald (pc := 19) (dq D_R_takeWhole_0_ok 9 rfl) (fun x5 => ?_)
    refine q_bipush (pc := 20) (v := 48) (dq D_R_takeWhole_0_ok 10 rfl) (by decide) ?_
    refine q_ic_lt (pc := 22) 76 (dq D_R_takeWhole_0_ok 11 rfl) rfl ?_ ?_
    · exact T.lsub [0] rfl (tb_R_takeWhole_76 v0 h)
    · refine q_aload_n (pc := 25) (dq D_R_takeWhole_0_ok 12 rfl) rfl 0 rfl ?_
      refine q_getR (pc := 26) (dq D_R_takeWhole_0_ok 13 rfl) fa_R_22 rfl (fun x6 => ?_)
      refine q_aload_n (pc := 29) (dq D_R_takeWhole_0_ok 14 rfl) rfl 0 rfl ?_
      refine r_getI (pc := 30) (dq D_R_takeWhole_0_ok 15 rfl) fa_R_55 rfl (fun x7 => ?_)
      refine r_bald (pc := 33) (dq D_R_takeWhole_0_ok 16 rfl) (fun x8 => ?_)
      refine q_bipush (pc := 34) (v := 57) (dq D_R_takeWhole_0_ok 17 rfl) (by decide) ?_
      refine q_ic_gt (pc := 36) 76 (dq D_R_takeWhole_0_ok 18 rfl) rfl ?_ ?_
      · exact T.lsub [0] rfl (tb_R_takeWhole_76 v0 h)
      · refine q_aload_n (pc := 39) (dq D_R_takeWhole_0_ok 19 rfl) rfl 0 rfl ?_
        refine q_aload_n (pc := 40) (dq D_R_takeWhole_0_ok 20 rfl) rfl 0 rfl ?_
        refine r_getI (pc := 41) (dq D_R_takeWhole_0_ok 21 rfl) fa_R_255 rfl (fun x9 => ?_)
        refine q_bipush (pc := 44) (v := 10) (dq D_R_takeWhole_0_ok 22 rfl) (by decide) ?_
        refine q_imul (pc := 46) (dq D_R_takeWhole_0_ok 23 rfl) ?_
        refine q_aload_n (pc := 47) (dq D_R_takeWhole_0_ok 24 rfl) rfl 0 rfl ?_
        refine q_getR (pc := 48) (dq D_R_takeWhole_0_ok 25 rfl) fa_R_22 rfl (fun x10 => ?_)
        refine q_aload_n (pc := 51) (dq D_R_takeWhole_0_ok 26 rfl) rfl 0 rfl ?_
        refine r_getI (pc := 52) (dq D_R_takeWhole_0_ok 27 rfl) fa_R_55 rfl (fun x11 => ?_)
        refine r_bald (pc := 55) (dq D_R_takeWhole_0_ok 28 rfl) (fun x12 => ?_)
        refine q_bipush (pc := 56) (v := 48) (dq D_R_takeWhole_0_ok 29 rfl) (by decide) ?_
        refine q_isub (pc := 58) (dq D_R_takeWhole_0_ok 30 rfl) ?_
        refine q_iadd (pc := 59) (dq D_R_takeWhole_0_ok 31 rfl) ?_
        refine r_putI (pc := 60) (dq D_R_takeWhole_0_ok 32 rfl) fp_R_255 rfl rfl (fun h13 => ?_)
        refine q_aload_n (pc := 63) (dq D_R_takeWhole_0_ok 33 rfl) rfl 0 rfl ?_
        refine q_dup (pc := 64) (dq D_R_takeWhole_0_ok 34 rfl) rfl ?_
        refine r_getI (pc := 65) (dq D_R_takeWhole_0_ok 35 rfl) fa_R_55 rfl (fun x14 => ?_)
        refine q_ic1 (pc := 68) (dq D_R_takeWhole_0_ok 36 rfl) ?_
        refine q_iadd (pc := 69) (dq D_R_takeWhole_0_ok 37 rfl) ?_
        refine r_putI (pc := 70) (dq D_R_takeWhole_0_ok 38 rfl) fp_R_55 rfl rfl (fun h15 => ?_)
        refine q_goto (pc := 73) 0 (dq D_R_takeWhole_0_ok 39 rfl) rfl ?_
        exact T.lsub [0] rfl (hk0 v0 h15)
noncomputable def l_R_takeWhole_0 : Nat → Nat → Hp → Option (Unit × Hp) := lp (fun k0 s h => b_R_takeWhole_0 k0 s h)
set_option maxHeartbeats 4000000 in
set_option maxRecDepth 20000 in
theorem tl_R_takeWhole_0 {G : GG} (n : Nat) (s : Nat) (h : Hp) : T G M_R_takeWhole 0 cU 0 [(0, .ref s)] [] h (l_R_takeWhole_0 n s h) :=
  T.loop (lsOf := fun s => [(0, .ref s)]) (fun k0 hk0 s h => tb_R_takeWhole_0 hk0 s h) n s h
noncomputable def f_R_takeWhole (v0 : Nat) (h : Hp) : Option (Unit × Hp) := l_R_takeWhole_0 FU v0 h
set_option maxHeartbeats 4000000 in
set_option maxRecDepth 20000 in
theorem t_R_takeWhole {G : GG} (v0 : Nat) (h : Hp) : Mt G M_R_takeWhole 0 [.ref v0] cU h (f_R_takeWhole v0 h) := by
  refine Mt.ofF (by decide +kernel) rfl (Rt.v rfl rfl) ?_
  show T G M_R_takeWhole 0 cU 0 [(0, .ref v0)] [] h _
  unfold f_R_takeWhole
  exact T.lsub [0] rfl (tl_R_takeWhole_0 FU v0 h)
noncomputable def b_R_step_199 (v0 : Nat) (s0 : Int32) (s1 : Nat) (h : Hp) : Option (Unit × Hp) := gd (hS h s1 = some (.inl 1)) (lt (uI h s1 8 s0) fun h1 => gd (hS h1 v0 = some (.inl 1)) (lt (hI h1 v0 6) fun x2 => gd (hS h1 v0 = some (.inl 1)) (lt (uI h1 v0 7 (x2 + 1)) fun h3 => some ((), h3))))
set_option maxHeartbeats 4000000 in
set_option maxRecDepth 20000 in
theorem tb_R_step_199 {G : GG} (v0 : Nat) (s0 : Int32) (s1 : Nat) (h : Hp) : T G M_R_step 1 cU 199 [(0, .ref v0)] [.int s0, .ref s1] h (b_R_step_199 v0 s0 s1 h) := by
  unfold b_R_step_199
  refine r_putI (pc := 199) (dq D_R_step_1_ok 40 rfl) fp_R_67 rfl rfl (fun h1 => ?_)
  refine q_aload_n (pc := 202) (dq D_R_step_1_ok 41 rfl) rfl 0 rfl ?_
  refine q_aload_n (pc := 203) (dq D_R_step_1_ok 42 rfl) rfl 0 rfl ?_
  refine r_getI (pc := 204) (dq D_R_step_1_ok 43 rfl) fa_R_70 rfl (fun x2 => ?_)
  refine q_ic1 (pc := 207) (dq D_R_step_1_ok 44 rfl) ?_
  refine q_iadd (pc := 208) (dq D_R_step_1_ok 45 rfl) ?_
  refine r_putI (pc := 209) (dq D_R_step_1_ok 46 rfl) fp_R_55 rfl rfl (fun h3 => ?_)
  exact r_retu (pc := 212) (dq D_R_step_1_ok 47 rfl) rfl
noncomputable def b_R_step_161 (v0 : Nat) (h : Hp) : Option (Unit × Hp) := gd (hS h v0 = some (.inl 1)) (bR (hR h v0 0) fun x1 => gd (hS h v0 = some (.inl 1)) (lt (hI h v0 6) fun x2 => gd (ai h x1 2 x2) (lt (hI h x1 x2.toNatClampNeg) fun x3 => if x3 = 59 then (b_R_step_199 v0 3 v0 h) else (gd (hS h v0 = some (.inl 1)) (bR (hR h v0 0) fun x4 => gd (hS h v0 = some (.inl 1)) (lt (hI h v0 6) fun x5 => gd (ai h x4 2 x5) (lt (hI h x4 x5.toNatClampNeg) fun x6 => if x6 = 44 then (b_R_step_199 v0 4 v0 h) else (b_R_step_199 v0 5 v0 h))))))))
set_option maxHeartbeats 4000000 in
set_option maxRecDepth 20000 in
theorem tb_R_step_161 {G : GG} (v0 : Nat) (h : Hp) : T G M_R_step 1 cU 161 [(0, .ref v0)] [] h (b_R_step_161 v0 h) := by
  unfold b_R_step_161
  refine q_aload_n (pc := 161) (dq D_R_step_1_ok 20 rfl) rfl 0 rfl ?_
  refine q_aload_n (pc := 162) (dq D_R_step_1_ok 21 rfl) rfl 0 rfl ?_
  refine q_getR (pc := 163) (dq D_R_step_1_ok 22 rfl) fa_R_22 rfl (fun x1 => ?_)
  refine q_aload_n (pc := 166) (dq D_R_step_1_ok 23 rfl) rfl 0 rfl ?_
  refine r_getI (pc := 167) (dq D_R_step_1_ok 24 rfl) fa_R_70 rfl (fun x2 => ?_)
  refine r_bald (pc := 170) (dq D_R_step_1_ok 25 rfl) (fun x3 => ?_)
  refine q_bipush (pc := 171) (v := 59) (dq D_R_step_1_ok 26 rfl) (by decide) ?_
  refine q_ic_ne (pc := 173) 180 (dq D_R_step_1_ok 27 rfl) rfl ?_ ?_
  · refine q_aload_n (pc := 180) (dq D_R_step_1_ok 30 rfl) rfl 0 rfl ?_
    refine q_getR (pc := 181) (dq D_R_step_1_ok 31 rfl) fa_R_22 rfl (fun x4 => ?_)
    refine q_aload_n (pc := 184) (dq D_R_step_1_ok 32 rfl) rfl 0 rfl ?_
    refine r_getI (pc := 185) (dq D_R_step_1_ok 33 rfl) fa_R_70 rfl (fun x5 => ?_)
    refine r_bald (pc := 188) (dq D_R_step_1_ok 34 rfl) (fun x6 => ?_)
    refine q_bipush (pc := 189) (v := 44) (dq D_R_step_1_ok 35 rfl) (by decide) ?_
    refine q_ic_ne (pc := 191) 198 (dq D_R_step_1_ok 36 rfl) rfl ?_ ?_
    · refine q_ic5 (pc := 198) (dq D_R_step_1_ok 39 rfl) ?_
      exact T.lsub [0] rfl (tb_R_step_199 v0 5 v0 h)
    · refine q_ic4 (pc := 194) (dq D_R_step_1_ok 37 rfl) ?_
      refine q_goto (pc := 195) 199 (dq D_R_step_1_ok 38 rfl) rfl ?_
      exact T.lsub [0] rfl (tb_R_step_199 v0 4 v0 h)
  · refine q_ic3 (pc := 176) (dq D_R_step_1_ok 28 rfl) ?_
    refine q_goto (pc := 177) 199 (dq D_R_step_1_ok 29 rfl) rfl ?_
    exact T.lsub [0] rfl (tb_R_step_199 v0 3 v0 h)
noncomputable def b_R_step_126 (v0 : Nat) (h : Hp) : Option (Unit × Hp) := gd (hS h v0 = some (.inl 1)) (bR (hR h v0 0) fun x1 => gd (hS h v0 = some (.inl 1)) (lt (hI h v0 6) fun x2 => gd (ai h x1 2 x2) (lt (hI h x1 x2.toNatClampNeg) fun x3 => if x3 < 48 then (b_R_step_161 v0 h) else (gd (hS h v0 = some (.inl 1)) (bR (hR h v0 0) fun x4 => gd (hS h v0 = some (.inl 1)) (lt (hI h v0 6) fun x5 => gd (ai h x4 2 x5) (lt (hI h x4 x5.toNatClampNeg) fun x6 => if 57 < x6 then (b_R_step_161 v0 h) else (gd (hS h v0 = some (.inl 1)) (bd (f_R_takeWhole v0 h) fun _ h7 => some ((), h7))))))))))
set_option maxHeartbeats 4000000 in
set_option maxRecDepth 20000 in
theorem tb_R_step_126 {G : GG} (v0 : Nat) (h : Hp) : T G M_R_step 1 cU 126 [(0, .ref v0)] [] h (b_R_step_126 v0 h) := by
  unfold b_R_step_126
  refine q_aload_n (pc := 126) (dq D_R_step_1_ok 3 rfl) rfl 0 rfl ?_
  refine q_getR (pc := 127) (dq D_R_step_1_ok 4 rfl) fa_R_22 rfl (fun x1 => ?_)
  refine q_aload_n (pc := 130) (dq D_R_step_1_ok 5 rfl) rfl 0 rfl ?_
  refine r_getI (pc := 131) (dq D_R_step_1_ok 6 rfl) fa_R_70 rfl (fun x2 => ?_)
  refine r_bald (pc := 134) (dq D_R_step_1_ok 7 rfl) (fun x3 => ?_)
  refine q_bipush (pc := 135) (v := 48) (dq D_R_step_1_ok 8 rfl) (by decide) ?_
  refine q_ic_lt (pc := 137) 161 (dq D_R_step_1_ok 9 rfl) rfl ?_ ?_
  · exact T.lsub [0] rfl (tb_R_step_161 v0 h)
  · refine q_aload_n (pc := 140) (dq D_R_step_1_ok 10 rfl) rfl 0 rfl ?_
    refine q_getR (pc := 141) (dq D_R_step_1_ok 11 rfl) fa_R_22 rfl (fun x4 => ?_)
    refine q_aload_n (pc := 144) (dq D_R_step_1_ok 12 rfl) rfl 0 rfl ?_
    refine r_getI (pc := 145) (dq D_R_step_1_ok 13 rfl) fa_R_70 rfl (fun x5 => ?_)
    refine r_bald (pc := 148) (dq D_R_step_1_ok 14 rfl) (fun x6 => ?_)
    refine q_bipush (pc := 149) (v := 57) (dq D_R_step_1_ok 15 rfl) (by decide) ?_
    refine q_ic_gt (pc := 151) 161 (dq D_R_step_1_ok 16 rfl) rfl ?_ ?_
    · exact T.lsub [0] rfl (tb_R_step_161 v0 h)
    · refine q_aload_n (pc := 154) (dq D_R_step_1_ok 17 rfl) rfl 0 rfl ?_
      refine r_invU (Mc := M_R_takeWhole) (pc := 155) (ci := 1) (rest := []) 0 0 [] (dq D_R_step_1_ok 18 rfl) rfl rfl lc_R_takeWhole lv_R_takeWhole_ ml_R_270 rfl rfl rfl rfl (t_R_takeWhole v0 h) (fun _ h7 => ?_)
      refine q_goto (pc := 158) 212 (dq D_R_step_1_ok 19 rfl) rfl ?_
      exact r_retu (pc := 212) (dq D_R_step_1_ok 47 rfl) rfl
noncomputable def b_R_step_54 (v0 : Nat) (h : Hp) : Option (Unit × Hp) := gd (hS h v0 = some (.inl 1)) (lt (hI h v0 6) fun x1 => gd (hS h v0 = some (.inl 1)) (lt (uI h v0 7 x1) fun h2 => gd (hS h2 v0 = some (.inl 1)) (lt (uI h2 v0 9 0) fun h3 => gd (hS h3 v0 = some (.inl 1)) (lt (uL h3 v0 10 0) fun h4 => gd (hS h4 v0 = some (.inl 1)) (lt (hI h4 v0 6) fun x5 => gd (hS h4 v0 = some (.inl 1)) (lt (hI h4 v0 1) fun x6 => if x5 < x6 then (gd (hS h4 v0 = some (.inl 1)) (bR (hR h4 v0 0) fun x7 => gd (hS h4 v0 = some (.inl 1)) (lt (hI h4 v0 6) fun x8 => gd (ai h4 x7 2 x8) (lt (hI h4 x7 x8.toNatClampNeg) fun x9 => if x9 < 97 then (b_R_step_126 v0 h4) else (gd (hS h4 v0 = some (.inl 1)) (bR (hR h4 v0 0) fun x10 => gd (hS h4 v0 = some (.inl 1)) (lt (hI h4 v0 6) fun x11 => gd (ai h4 x10 2 x11) (lt (hI h4 x10 x11.toNatClampNeg) fun x12 => if 122 < x12 then (b_R_step_126 v0 h4) else (gd (hS h4 v0 = some (.inl 1)) (bd (f_R_takeWord v0 h4) fun _ h13 => some ((), h13))))))))))) else (gd (hS h4 v0 = some (.inl 1)) (lt (uI h4 v0 8 0) fun h15 => some ((), h15)))))))))
set_option maxHeartbeats 4000000 in
set_option maxRecDepth 20000 in
theorem tb_R_step_54 {G : GG} (v0 : Nat) (h : Hp) : T G M_R_step 1 cU 54 [(0, .ref v0)] [] h (b_R_step_54 v0 h) := by
  unfold b_R_step_54
  refine q_aload_n (pc := 54) (dq D_R_step_0_ok 27 rfl) rfl 0 rfl ?_
  refine q_aload_n (pc := 55) (dq D_R_step_0_ok 28 rfl) rfl 0 rfl ?_
  refine r_getI (pc := 56) (dq D_R_step_0_ok 29 rfl) fa_R_70 rfl (fun x1 => ?_)
  refine r_putI (pc := 59) (dq D_R_step_0_ok 30 rfl) fp_R_55 rfl rfl (fun h2 => ?_)
  refine q_aload_n (pc := 62) (dq D_R_step_0_ok 31 rfl) rfl 0 rfl ?_
  refine q_ic0 (pc := 63) (dq D_R_step_0_ok 32 rfl) ?_
  refine r_putI (pc := 64) (dq D_R_step_0_ok 33 rfl) fp_R_255 rfl rfl (fun h3 => ?_)
  refine q_aload_n (pc := 67) (dq D_R_step_0_ok 34 rfl) rfl 0 rfl ?_
  refine q_lconst (pc := 68) (v := 0) (dq D_R_step_0_ok 35 rfl) (by decide) ?_
  refine r_putL (pc := 69) (dq D_R_step_0_ok 36 rfl) fp_R_261 rfl rfl (fun h4 => ?_)
  refine q_aload_n (pc := 72) (dq D_R_step_0_ok 37 rfl) rfl 0 rfl ?_
  refine r_getI (pc := 73) (dq D_R_step_0_ok 38 rfl) fa_R_70 rfl (fun x5 => ?_)
  refine q_aload_n (pc := 76) (dq D_R_step_0_ok 39 rfl) rfl 0 rfl ?_
  refine r_getI (pc := 77) (dq D_R_step_0_ok 40 rfl) fa_R_32 rfl (fun x6 => ?_)
  refine q_ic_lt (pc := 80) 91 (dq D_R_step_0_ok 41 rfl) rfl ?_ ?_
  · refine q_aload_n (pc := 91) (dq D_R_step_0_ok 46 rfl) rfl 0 rfl ?_
    refine q_getR (pc := 92) (dq D_R_step_0_ok 47 rfl) fa_R_22 rfl (fun x7 => ?_)
    refine q_aload_n (pc := 95) (dq D_R_step_0_ok 48 rfl) rfl 0 rfl ?_
    refine r_getI (pc := 96) (dq D_R_step_0_ok 49 rfl) fa_R_70 rfl (fun x8 => ?_)
    refine r_bald (pc := 99) (dq D_R_step_0_ok 50 rfl) (fun x9 => ?_)
    refine q_bipush (pc := 100) (v := 97) (dq D_R_step_0_ok 51 rfl) (by decide) ?_
    refine q_ic_lt (pc := 102) 126 (dq D_R_step_0_ok 52 rfl) rfl ?_ ?_
    · exact T.lsub [0] rfl (tb_R_step_126 v0 h4)
    · refine q_aload_n (pc := 105) (dq D_R_step_0_ok 53 rfl) rfl 0 rfl ?_
      refine q_getR (pc := 106) (dq D_R_step_0_ok 54 rfl) fa_R_22 rfl (fun x10 => ?_)
      refine q_aload_n (pc := 109) (dq D_R_step_0_ok 55 rfl) rfl 0 rfl ?_
      refine r_getI (pc := 110) (dq D_R_step_0_ok 56 rfl) fa_R_70 rfl (fun x11 => ?_)
      refine r_bald (pc := 113) (dq D_R_step_0_ok 57 rfl) (fun x12 => ?_)
      refine q_bipush (pc := 114) (v := 122) (dq D_R_step_0_ok 58 rfl) (by decide) ?_
      refine q_ic_gt (pc := 116) 126 (dq D_R_step_0_ok 59 rfl) rfl ?_ ?_
      · exact T.lsub [0] rfl (tb_R_step_126 v0 h4)
      · refine q_aload_n (pc := 119) (dq D_R_step_1_ok 0 rfl) rfl 0 rfl ?_
        refine r_invU (Mc := M_R_takeWord) (pc := 120) (ci := 1) (rest := []) 0 0 [] (dq D_R_step_1_ok 1 rfl) rfl rfl lc_R_takeWord lv_R_takeWord_ ml_R_267 rfl rfl rfl rfl (t_R_takeWord v0 h4) (fun _ h13 => ?_)
        refine q_goto (pc := 123) 212 (dq D_R_step_1_ok 2 rfl) rfl ?_
        exact r_retu (pc := 212) (dq D_R_step_1_ok 47 rfl) rfl
  · refine q_aload_n (pc := 83) (dq D_R_step_0_ok 42 rfl) rfl 0 rfl ?_
    refine q_ic0 (pc := 84) (dq D_R_step_0_ok 43 rfl) ?_
    refine r_putI (pc := 85) (dq D_R_step_0_ok 44 rfl) fp_R_67 rfl rfl (fun h15 => ?_)
    refine q_goto (pc := 88) 212 (dq D_R_step_0_ok 45 rfl) rfl ?_
    exact r_retu (pc := 212) (dq D_R_step_1_ok 47 rfl) rfl
noncomputable def b_R_step_16 (k16 : Nat → Hp → Option (Unit × Hp)) (v0 : Nat) (h : Hp) : Option (Unit × Hp) := gd (hS h v0 = some (.inl 1)) (lt (hI h v0 6) fun x1 => gd (hS h v0 = some (.inl 1)) (lt (hI h v0 1) fun x2 => if x2 ≤ x1 then (b_R_step_54 v0 h) else (gd (hS h v0 = some (.inl 1)) (bR (hR h v0 0) fun x3 => gd (hS h v0 = some (.inl 1)) (lt (hI h v0 6) fun x4 => gd (ai h x3 2 x4) (lt (hI h x3 x4.toNatClampNeg) fun x5 => if x5 = 32 then (gd (hS h v0 = some (.inl 1)) (lt (hI h v0 6) fun x6 => gd (hS h v0 = some (.inl 1)) (lt (uI h v0 6 (x6 + 1)) fun h7 => k16 v0 h7))) else (b_R_step_54 v0 h)))))))
set_option maxHeartbeats 4000000 in
set_option maxRecDepth 20000 in
theorem tb_R_step_16 {G : GG} {k16 : Nat → Hp → Option (Unit × Hp)} (hk16 : ∀ s h, T G M_R_step 1 cU 16 [(0, .ref s)] [] h (k16 s h)) (v0 : Nat) (h : Hp) : T G M_R_step 1 cU 16 [(0, .ref v0)] [] h (b_R_step_16 k16 v0 h) := by
  unfold b_R_step_16
  refine q_aload_n (pc := 16) (dq D_R_step_0_ok 8 rfl) rfl 0 rfl ?_
  refine r_getI (pc := 17) (dq D_R_step_0_ok 9 rfl) fa_R_70 rfl (fun x1 => ?_)
  refine q_aload_n (pc := 20) (dq D_R_step_0_ok 10 rfl) rfl 0 rfl ?_
  refine r_getI (pc := 21) (dq D_R_step_0_ok 11 rfl) fa_R_32 rfl (fun x2 => ?_)
  refine q_ic_ge (pc := 24) 54 (dq D_R_step_0_ok 12 rfl) rfl ?_ ?_
  · exact T.lsub [0] rfl (tb_R_step_54 v0 h)
  · refine q_aload_n (pc := 27) (dq D_R_step_0_ok 13 rfl) rfl 0 rfl ?_
    refine q_getR (pc := 28) (dq D_R_step_0_ok 14 rfl) fa_R_22 rfl (fun x3 => ?_)
    refine q_aload_n (pc := 31) (dq D_R_step_0_ok 15 rfl) rfl 0 rfl ?_
    refine r_getI (pc := 32) (dq D_R_step_0_ok 16 rfl) fa_R_70 rfl (fun x4 => ?_)
    refine r_bald (pc := 35) (dq D_R_step_0_ok 17 rfl) (fun x5 => ?_)
    refine q_bipush (pc := 36) (v := 32) (dq D_R_step_0_ok 18 rfl) (by decide) ?_
    refine q_ic_ne (pc := 38) 54 (dq D_R_step_0_ok 19 rfl) rfl ?_ ?_
    · exact T.lsub [0] rfl (tb_R_step_54 v0 h)
    · refine q_aload_n (pc := 41) (dq D_R_step_0_ok 20 rfl) rfl 0 rfl ?_
      refine q_dup (pc := 42) (dq D_R_step_0_ok 21 rfl) rfl ?_
      refine r_getI (pc := 43) (dq D_R_step_0_ok 22 rfl) fa_R_70 rfl (fun x6 => ?_)
      refine q_ic1 (pc := 46) (dq D_R_step_0_ok 23 rfl) ?_
      refine q_iadd (pc := 47) (dq D_R_step_0_ok 24 rfl) ?_
      refine r_putI (pc := 48) (dq D_R_step_0_ok 25 rfl) fp_R_70 rfl rfl (fun h7 => ?_)
      refine q_goto (pc := 51) 16 (dq D_R_step_0_ok 26 rfl) rfl ?_
      exact T.lsub [0] rfl (hk16 v0 h7)
noncomputable def l_R_step_16 : Nat → Nat → Hp → Option (Unit × Hp) := lp (fun k16 s h => b_R_step_16 k16 s h)
set_option maxHeartbeats 4000000 in
set_option maxRecDepth 20000 in
theorem tl_R_step_16 {G : GG} (n : Nat) (s : Nat) (h : Hp) : T G M_R_step 1 cU 16 [(0, .ref s)] [] h (l_R_step_16 n s h) :=
  T.loop (lsOf := fun s => [(0, .ref s)]) (fun k16 hk16 s h => tb_R_step_16 hk16 s h) n s h
noncomputable def f_R_step (v0 : Nat) (h : Hp) : Option (Unit × Hp) := gd (hS h v0 = some (.inl 1)) (lt (hI h v0 6) fun x1 => gd (hS h v0 = some (.inl 1)) (lt (uI h v0 11 x1) fun h2 => gd (hS h2 v0 = some (.inl 1)) (lt (hI h2 v0 7) fun x3 => gd (hS h2 v0 = some (.inl 1)) (lt (uI h2 v0 6 x3) fun h4 => l_R_step_16 FU v0 h4))))
set_option maxHeartbeats 4000000 in
set_option maxRecDepth 20000 in
theorem t_R_step {G : GG} (v0 : Nat) (h : Hp) : Mt G M_R_step 1 [.ref v0] cU h (f_R_step v0 h) := by
  refine Mt.ofF (by decide +kernel) rfl (Rt.v rfl rfl) ?_
  show T G M_R_step 1 cU 0 [(0, .ref v0)] [] h _
  unfold f_R_step
  refine q_aload_n (pc := 0) (dq D_R_step_0_ok 0 rfl) rfl 0 rfl ?_
  refine q_aload_n (pc := 1) (dq D_R_step_0_ok 1 rfl) rfl 0 rfl ?_
  refine r_getI (pc := 2) (dq D_R_step_0_ok 2 rfl) fa_R_70 rfl (fun x1 => ?_)
  refine r_putI (pc := 5) (dq D_R_step_0_ok 3 rfl) fp_R_184 rfl rfl (fun h2 => ?_)
  refine q_aload_n (pc := 8) (dq D_R_step_0_ok 4 rfl) rfl 0 rfl ?_
  refine q_aload_n (pc := 9) (dq D_R_step_0_ok 5 rfl) rfl 0 rfl ?_
  refine r_getI (pc := 10) (dq D_R_step_0_ok 6 rfl) fa_R_55 rfl (fun x3 => ?_)
  refine r_putI (pc := 13) (dq D_R_step_0_ok 7 rfl) fp_R_70 rfl rfl (fun h4 => ?_)
  exact T.lsub [0] rfl (tl_R_step_16 FU v0 h4)
noncomputable def b_R_isLineWord_107 (h : Hp) : Option (Int32 × Hp) := gd (zb 1) (some (1, h))
set_option maxHeartbeats 4000000 in
set_option maxRecDepth 20000 in
theorem tb_R_isLineWord_107 {G : GG} (h : Hp) : T G M_R_isLineWord 0 cI 107 [] [] h (b_R_isLineWord_107 h) := by
  unfold b_R_isLineWord_107
  refine q_ic1 (pc := 107) (dq D_R_isLineWord_0_ok 49 rfl) ?_
  refine q_goto (pc := 108) 112 (dq D_R_isLineWord_0_ok 50 rfl) rfl ?_
  exact r_retz (pc := 112) (dq D_R_isLineWord_0_ok 52 rfl) rfl
noncomputable def f_R_isLineWord (v0 : Nat) (h : Hp) : Option (Int32 × Hp) := gd (hS h v0 = some (.inl 1)) (lt (hI h v0 8) fun x1 => if x1 = 1 then (gd (hS h v0 = some (.inl 1)) (lt (hL h v0 10) fun x2 => if (lg_cmp x2 422825784179) = 0 then (b_R_isLineWord_107 h) else (gd (hS h v0 = some (.inl 1)) (lt (hL h v0 10) fun x3 => if (lg_cmp x3 512852583788) = 0 then (b_R_isLineWord_107 h) else (gd (hS h v0 = some (.inl 1)) (lt (hL h v0 10) fun x4 => if (lg_cmp x4 1735356005) = 0 then (b_R_isLineWord_107 h) else (gd (hS h v0 = some (.inl 1)) (lt (hL h v0 10) fun x5 => if (lg_cmp x5 439787549556) = 0 then (b_R_isLineWord_107 h) else (gd (hS h v0 = some (.inl 1)) (lt (hL h v0 10) fun x6 => if (lg_cmp x6 2003792491) = 0 then (b_R_isLineWord_107 h) else (gd (hS h v0 = some (.inl 1)) (lt (hL h v0 10) fun x7 => if (lg_cmp x7 7564153) = 0 then (b_R_isLineWord_107 h) else (gd (hS h v0 = some (.inl 1)) (lt (hL h v0 10) fun x8 => if (lg_cmp x8 32498760989107060) = 0 then (b_R_isLineWord_107 h) else (gd (hS h v0 = some (.inl 1)) (lt (hL h v0 10) fun x9 => if (lg_cmp x9 116983943882084) = 0 then (b_R_isLineWord_107 h) else (gd (hS h v0 = some (.inl 1)) (lt (hL h v0 10) fun x10 => if (lg_cmp x10 126913858204776) = 0 then (b_R_isLineWord_107 h) else (gd (zb 0) (some (0, h))))))))))))))))))))) else (gd (zb 0) (some (0, h))))
set_option maxHeartbeats 4000000 in
set_option maxRecDepth 20000 in
theorem t_R_isLineWord {G : GG} (v0 : Nat) (h : Hp) : Mt G M_R_isLineWord 0 [.ref v0] cI h (f_R_isLineWord v0 h) := by
  refine Mt.ofF (by decide +kernel) rfl (Rt.z rfl rfl) ?_
  show T G M_R_isLineWord 0 cI 0 [(0, .ref v0)] [] h _
  unfold f_R_isLineWord
  refine q_aload_n (pc := 0) (dq D_R_isLineWord_0_ok 0 rfl) rfl 0 rfl ?_
  refine r_getI (pc := 1) (dq D_R_isLineWord_0_ok 1 rfl) fa_R_67 rfl (fun x1 => ?_)
  refine q_ic1 (pc := 4) (dq D_R_isLineWord_0_ok 2 rfl) ?_
  refine q_ic_ne (pc := 5) 111 (dq D_R_isLineWord_0_ok 3 rfl) rfl ?_ ?_
  · refine q_ic0 (pc := 111) (dq D_R_isLineWord_0_ok 51 rfl) ?_
    exact r_retz (pc := 112) (dq D_R_isLineWord_0_ok 52 rfl) rfl
  · refine q_aload_n (pc := 8) (dq D_R_isLineWord_0_ok 4 rfl) rfl 0 rfl ?_
    refine r_getL (pc := 9) (dq D_R_isLineWord_0_ok 5 rfl) fa_R_261 rfl (fun x2 => ?_)
    refine q_ldc2 (pc := 12) (v := 422825784179) (dq D_R_isLineWord_0_ok 6 rfl) lk_R_84 ?_
    refine q_lcmp (pc := 15) (dq D_R_isLineWord_0_ok 7 rfl) ?_
    refine p_if_eq (pc := 16) 107 (dq D_R_isLineWord_0_ok 8 rfl) rfl ?_ ?_
    · exact T.lsub [] rfl (tb_R_isLineWord_107 h)
    · refine q_aload_n (pc := 19) (dq D_R_isLineWord_0_ok 9 rfl) rfl 0 rfl ?_
      refine r_getL (pc := 20) (dq D_R_isLineWord_0_ok 10 rfl) fa_R_261 rfl (fun x3 => ?_)
      refine q_ldc2 (pc := 23) (v := 512852583788) (dq D_R_isLineWord_0_ok 11 rfl) lk_R_93 ?_
      refine q_lcmp (pc := 26) (dq D_R_isLineWord_0_ok 12 rfl) ?_
      refine p_if_eq (pc := 27) 107 (dq D_R_isLineWord_0_ok 13 rfl) rfl ?_ ?_
      · exact T.lsub [] rfl (tb_R_isLineWord_107 h)
      · refine q_aload_n (pc := 30) (dq D_R_isLineWord_0_ok 14 rfl) rfl 0 rfl ?_
        refine r_getL (pc := 31) (dq D_R_isLineWord_0_ok 15 rfl) fa_R_261 rfl (fun x4 => ?_)
        refine q_ldc2 (pc := 34) (v := 1735356005) (dq D_R_isLineWord_0_ok 16 rfl) lk_R_98 ?_
        refine q_lcmp (pc := 37) (dq D_R_isLineWord_0_ok 17 rfl) ?_
        refine p_if_eq (pc := 38) 107 (dq D_R_isLineWord_0_ok 18 rfl) rfl ?_ ?_
        · exact T.lsub [] rfl (tb_R_isLineWord_107 h)
        · refine q_aload_n (pc := 41) (dq D_R_isLineWord_0_ok 19 rfl) rfl 0 rfl ?_
          refine r_getL (pc := 42) (dq D_R_isLineWord_0_ok 20 rfl) fa_R_261 rfl (fun x5 => ?_)
          refine q_ldc2 (pc := 45) (v := 439787549556) (dq D_R_isLineWord_0_ok 21 rfl) lk_R_103 ?_
          refine q_lcmp (pc := 48) (dq D_R_isLineWord_0_ok 22 rfl) ?_
          refine p_if_eq (pc := 49) 107 (dq D_R_isLineWord_0_ok 23 rfl) rfl ?_ ?_
          · exact T.lsub [] rfl (tb_R_isLineWord_107 h)
          · refine q_aload_n (pc := 52) (dq D_R_isLineWord_0_ok 24 rfl) rfl 0 rfl ?_
            refine r_getL (pc := 53) (dq D_R_isLineWord_0_ok 25 rfl) fa_R_261 rfl (fun x6 => ?_)
            refine q_ldc2 (pc := 56) (v := 2003792491) (dq D_R_isLineWord_0_ok 26 rfl) lk_R_108 ?_
            refine q_lcmp (pc := 59) (dq D_R_isLineWord_0_ok 27 rfl) ?_
            refine p_if_eq (pc := 60) 107 (dq D_R_isLineWord_0_ok 28 rfl) rfl ?_ ?_
            · exact T.lsub [] rfl (tb_R_isLineWord_107 h)
            · refine q_aload_n (pc := 63) (dq D_R_isLineWord_0_ok 29 rfl) rfl 0 rfl ?_
              refine r_getL (pc := 64) (dq D_R_isLineWord_0_ok 30 rfl) fa_R_261 rfl (fun x7 => ?_)
              refine q_ldc2 (pc := 67) (v := 7564153) (dq D_R_isLineWord_0_ok 31 rfl) lk_R_113 ?_
              refine q_lcmp (pc := 70) (dq D_R_isLineWord_0_ok 32 rfl) ?_
              refine p_if_eq (pc := 71) 107 (dq D_R_isLineWord_0_ok 33 rfl) rfl ?_ ?_
              · exact T.lsub [] rfl (tb_R_isLineWord_107 h)
              · refine q_aload_n (pc := 74) (dq D_R_isLineWord_0_ok 34 rfl) rfl 0 rfl ?_
                refine r_getL (pc := 75) (dq D_R_isLineWord_0_ok 35 rfl) fa_R_261 rfl (fun x8 => ?_)
                refine q_ldc2 (pc := 78) (v := 32498760989107060) (dq D_R_isLineWord_0_ok 36 rfl) lk_R_118 ?_
                refine q_lcmp (pc := 81) (dq D_R_isLineWord_0_ok 37 rfl) ?_
                refine p_if_eq (pc := 82) 107 (dq D_R_isLineWord_0_ok 38 rfl) rfl ?_ ?_
                · exact T.lsub [] rfl (tb_R_isLineWord_107 h)
                · refine q_aload_n (pc := 85) (dq D_R_isLineWord_0_ok 39 rfl) rfl 0 rfl ?_
                  refine r_getL (pc := 86) (dq D_R_isLineWord_0_ok 40 rfl) fa_R_261 rfl (fun x9 => ?_)
                  refine q_ldc2 (pc := 89) (v := 116983943882084) (dq D_R_isLineWord_0_ok 41 rfl) lk_R_123 ?_
                  refine q_lcmp (pc := 92) (dq D_R_isLineWord_0_ok 42 rfl) ?_
                  refine p_if_eq (pc := 93) 107 (dq D_R_isLineWord_0_ok 43 rfl) rfl ?_ ?_
                  · exact T.lsub [] rfl (tb_R_isLineWord_107 h)
                  · refine q_aload_n (pc := 96) (dq D_R_isLineWord_0_ok 44 rfl) rfl 0 rfl ?_
                    refine r_getL (pc := 97) (dq D_R_isLineWord_0_ok 45 rfl) fa_R_261 rfl (fun x10 => ?_)
                    refine q_ldc2 (pc := 100) (v := 126913858204776) (dq D_R_isLineWord_0_ok 46 rfl) lk_R_265 ?_
                    refine q_lcmp (pc := 103) (dq D_R_isLineWord_0_ok 47 rfl) ?_
                    refine p_if_ne (pc := 104) 111 (dq D_R_isLineWord_0_ok 48 rfl) rfl ?_ ?_
                    · refine q_ic0 (pc := 111) (dq D_R_isLineWord_0_ok 51 rfl) ?_
                      exact r_retz (pc := 112) (dq D_R_isLineWord_0_ok 52 rfl) rfl
                    · exact T.lsub [] rfl (tb_R_isLineWord_107 h)
noncomputable def f_R_fail (v0 : Nat) (v1 : Int32) (v2 : Int32) (h : Hp) : Option (Unit × Hp) := gd (hS h v0 = some (.inl 1)) (lt (hI h v0 4) fun x1 => if x1 = 0 then (gd (hS h v0 = some (.inl 1)) (lt (uI h v0 4 v1) fun h2 => gd (hS h2 v0 = some (.inl 1)) (lt (uI h2 v0 5 v2) fun h3 => some ((), h3)))) else (some ((), h)))
set_option maxHeartbeats 4000000 in
set_option maxRecDepth 20000 in
theorem t_R_fail {G : GG} (v0 : Nat) (v1 : Int32) (v2 : Int32) (h : Hp) : Mt G M_R_fail 0 [.ref v0, .int v1, .int v2] cU h (f_R_fail v0 v1 v2 h) := by
  refine Mt.ofF (by decide +kernel) rfl (Rt.v rfl rfl) ?_
  show T G M_R_fail 0 cU 0 [(0, .ref v0), (1, .int v1), (2, .int v2)] [] h _
  unfold f_R_fail
  refine q_aload_n (pc := 0) (dq D_R_fail_0_ok 0 rfl) rfl 0 rfl ?_
  refine r_getI (pc := 1) (dq D_R_fail_0_ok 1 rfl) fa_R_49 rfl (fun x1 => ?_)
  refine p_if_ne (pc := 4) 17 (dq D_R_fail_0_ok 2 rfl) rfl ?_ ?_
  · exact r_retu (pc := 17) (dq D_R_fail_0_ok 9 rfl) rfl
  · refine q_aload_n (pc := 7) (dq D_R_fail_0_ok 3 rfl) rfl 0 rfl ?_
    refine q_iload_n (pc := 8) (dq D_R_fail_0_ok 4 rfl) rfl 1 rfl ?_
    refine r_putI (pc := 9) (dq D_R_fail_0_ok 5 rfl) fp_R_49 rfl rfl (fun h2 => ?_)
    refine q_aload_n (pc := 12) (dq D_R_fail_0_ok 6 rfl) rfl 0 rfl ?_
    refine q_iload_n (pc := 13) (dq D_R_fail_0_ok 7 rfl) rfl 2 rfl ?_
    refine r_putI (pc := 14) (dq D_R_fail_0_ok 8 rfl) fp_R_52 rfl rfl (fun h3 => ?_)
    exact r_retu (pc := 17) (dq D_R_fail_0_ok 9 rfl) rfl
noncomputable def f_R_is (v0 : Nat) (v1 : Int64) (h : Hp) : Option (Int32 × Hp) := gd (hS h v0 = some (.inl 1)) (lt (hI h v0 8) fun x1 => if x1 = 1 then (gd (hS h v0 = some (.inl 1)) (lt (hL h v0 10) fun x2 => if (lg_cmp x2 v1) = 0 then (gd (zb 1) (some (1, h))) else (gd (zb 0) (some (0, h))))) else (gd (zb 0) (some (0, h))))
set_option maxHeartbeats 4000000 in
set_option maxRecDepth 20000 in
theorem t_R_is {G : GG} (v0 : Nat) (v1 : Int64) (h : Hp) : Mt G M_R_is 0 [.ref v0, .long v1] cI h (f_R_is v0 v1 h) := by
  refine Mt.ofF (by decide +kernel) rfl (Rt.z rfl rfl) ?_
  show T G M_R_is 0 cI 0 [(0, .ref v0), (1, .long v1)] [] h _
  unfold f_R_is
  refine q_aload_n (pc := 0) (dq D_R_is_0_ok 0 rfl) rfl 0 rfl ?_
  refine r_getI (pc := 1) (dq D_R_is_0_ok 1 rfl) fa_R_67 rfl (fun x1 => ?_)
  refine q_ic1 (pc := 4) (dq D_R_is_0_ok 2 rfl) ?_
  refine q_ic_ne (pc := 5) 21 (dq D_R_is_0_ok 3 rfl) rfl ?_ ?_
  · refine q_ic0 (pc := 21) (dq D_R_is_0_ok 11 rfl) ?_
    exact r_retz (pc := 22) (dq D_R_is_0_ok 12 rfl) rfl
  · refine q_aload_n (pc := 8) (dq D_R_is_0_ok 4 rfl) rfl 0 rfl ?_
    refine r_getL (pc := 9) (dq D_R_is_0_ok 5 rfl) fa_R_261 rfl (fun x2 => ?_)
    refine q_lload_n (pc := 12) (dq D_R_is_0_ok 6 rfl) rfl 1 rfl ?_
    refine q_lcmp (pc := 13) (dq D_R_is_0_ok 7 rfl) ?_
    refine p_if_ne (pc := 14) 21 (dq D_R_is_0_ok 8 rfl) rfl ?_ ?_
    · refine q_ic0 (pc := 21) (dq D_R_is_0_ok 11 rfl) ?_
      exact r_retz (pc := 22) (dq D_R_is_0_ok 12 rfl) rfl
    · refine q_ic1 (pc := 17) (dq D_R_is_0_ok 9 rfl) ?_
      refine q_goto (pc := 18) 22 (dq D_R_is_0_ok 10 rfl) rfl ?_
      exact r_retz (pc := 22) (dq D_R_is_0_ok 12 rfl) rfl
noncomputable def b_R_pass_17 (v0 : Nat) (h : Hp) : Option (Unit × Hp) := gd (hS h v0 = some (.inl 1)) (bd (f_R_step v0 h) fun _ h1 => some ((), h1))
set_option maxHeartbeats 4000000 in
set_option maxRecDepth 20000 in
theorem tb_R_pass_17 {G : GG} (v0 : Nat) (h : Hp) : T G M_R_pass 2 cU 17 [(0, .ref v0)] [] h (b_R_pass_17 v0 h) := by
  unfold b_R_pass_17
  refine q_aload_n (pc := 17) (dq D_R_pass_0_ok 9 rfl) rfl 0 rfl ?_
  refine r_invU (Mc := M_R_step) (pc := 18) (ci := 1) (rest := []) 1 0 [] (dq D_R_pass_0_ok 10 rfl) rfl rfl lc_R_step lv_R_step_ ml_R_61 rfl rfl rfl rfl (t_R_step v0 h) (fun _ h1 => ?_)
  exact r_retu (pc := 21) (dq D_R_pass_0_ok 11 rfl) rfl
noncomputable def f_R_pass (v0 : Nat) (v1 : Int64) (h : Hp) : Option (Unit × Hp) := gd (hS h v0 = some (.inl 1)) (bd (f_R_is v0 v1 h) fun r2 h1 => if r2 = 0 then (gd (hS h1 v0 = some (.inl 1)) (lt (hI h1 v0 6) fun x3 => gd (hS h1 v0 = some (.inl 1)) (bd (f_R_fail v0 (1 : Int32) x3 h1) fun _ h4 => b_R_pass_17 v0 h4))) else (b_R_pass_17 v0 h1))
set_option maxHeartbeats 4000000 in
set_option maxRecDepth 20000 in
theorem t_R_pass {G : GG} (v0 : Nat) (v1 : Int64) (h : Hp) : Mt G M_R_pass 2 [.ref v0, .long v1] cU h (f_R_pass v0 v1 h) := by
  refine Mt.ofF (by decide +kernel) rfl (Rt.v rfl rfl) ?_
  show T G M_R_pass 2 cU 0 [(0, .ref v0), (1, .long v1)] [] h _
  unfold f_R_pass
  refine q_aload_n (pc := 0) (dq D_R_pass_0_ok 0 rfl) rfl 0 rfl ?_
  refine q_lload_n (pc := 1) (dq D_R_pass_0_ok 1 rfl) rfl 1 rfl ?_
  refine r_invI (Mc := M_R_is) (pc := 2) (ci := 1) (rest := []) 0 1 [.long v1] (dq D_R_pass_0_ok 2 rfl) rfl rfl lc_R_is lv_R_is_ ml_R_86 rfl rfl rfl rfl (t_R_is v0 v1 h) (fun r2 h1 => ?_)
  refine p_if_ne (pc := 5) 17 (dq D_R_pass_0_ok 3 rfl) rfl ?_ ?_
  · exact T.lsub [0] rfl (tb_R_pass_17 v0 h1)
  · refine q_aload_n (pc := 8) (dq D_R_pass_0_ok 4 rfl) rfl 0 rfl ?_
    refine q_ic1 (pc := 9) (dq D_R_pass_0_ok 5 rfl) ?_
    refine q_aload_n (pc := 10) (dq D_R_pass_0_ok 6 rfl) rfl 0 rfl ?_
    refine r_getI (pc := 11) (dq D_R_pass_0_ok 7 rfl) fa_R_70 rfl (fun x3 => ?_)
    refine r_invU (Mc := M_R_fail) (pc := 14) (ci := 1) (rest := []) 0 2 [.int 1, .int x3] (dq D_R_pass_0_ok 8 rfl) rfl rfl lc_R_fail lv_R_fail_ ml_R_73 rfl rfl rfl rfl (t_R_fail v0 (1 : Int32) x3 h1) (fun _ h4 => ?_)
    exact T.lsub [0] rfl (tb_R_pass_17 v0 h4)
