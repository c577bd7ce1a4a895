noncomputable def b_K_extend_172 (rc : Nat → Int32 → Int32 → Int32 → Int32 → Int32 → Hp → Option (Unit × Hp)) (k55 : (Nat × Int32 × Int32 × Int32 × Int32 × Int32 × Int32) → Hp → Option (Unit × Hp)) (v0 : Nat) (v1 : Int32) (v2 : Int32) (v3 : Int32) (v4 : Int32) (v5 : Int32) (v6 : Int32) (h : Hp) : Option (Unit × Hp) := k55 (v0, v1, v2, v3, v4, v5, v6 + 1) h
set_option maxHeartbeats 4000000 in
set_option maxRecDepth 20000 in
theorem tb_K_extend_172 {G : GG} {dr : Nat} (hdr : 1 ≤ dr) {rc : Nat → Int32 → Int32 → Int32 → Int32 → Int32 → Hp → Option (Unit × Hp)} (hrc : ∀ v0 v1 v2 v3 v4 v5 h, Mt G M_K_extend dr [.ref v0, .int v1, .int v2, .int v3, .int v4, .int v5] cU h (rc v0 v1 v2 v3 v4 v5 h)) {k55 : (Nat × Int32 × Int32 × Int32 × Int32 × Int32 × Int32) → Hp → Option (Unit × Hp)} (hk55 : ∀ s h, T G M_K_extend (dr + 1) cU 55 [(0, .ref s.1), (1, .int s.2.1), (2, .int s.2.2.1), (3, .int s.2.2.2.1), (4, .int s.2.2.2.2.1), (5, .int s.2.2.2.2.2.1), (6, .int s.2.2.2.2.2.2)] [] h (k55 s h)) (v0 : Nat) (v1 : Int32) (v2 : Int32) (v3 : Int32) (v4 : Int32) (v5 : Int32) (v6 : Int32) (h : Hp) : T G M_K_extend (dr + 1) cU 172 [(0, .ref v0), (1, .int v1), (2, .int v2), (3, .int v3), (4, .int v4), (5, .int v5), (6, .int v6)] [] h (b_K_extend_172 rc k55 v0 v1 v2 v3 v4 v5 v6 h) := by
  unfold b_K_extend_172
  refine q_iinc (pc := 172) (v := (1)) (ls' := [(6, .int (v6 + 1)), (0, .ref v0), (1, .int v1), (2, .int v2), (3, .int v3), (4, .int v4), (5, .int v5)]) (dq D_K_extend_1_ok 32 rfl) 6 rfl (by decide) rfl rfl ?_
  refine q_goto (pc := 175) 55 (dq D_K_extend_1_ok 33 rfl) rfl ?_
  exact T.lsub [1, 2, 3, 4, 5, 6, 0] rfl (hk55 (v0, v1, v2, v3, v4, v5, v6 + 1) h)
noncomputable def b_K_extend_169 (rc : Nat → Int32 → Int32 → Int32 → Int32 → Int32 → Hp → Option (Unit × Hp)) (k55 : (Nat × Int32 × Int32 × Int32 × Int32 × Int32 × Int32) → Hp → Option (Unit × Hp)) (v0 : Nat) (v1 : Int32) (v2 : Int32) (v3 : Int32) (v4 : Int32) (v5 : Int32) (v6 : Int32) (s0 : Int32) (s1 : Int32) (s2 : Int32) (s3 : Int32) (s4 : Int32) (s5 : Nat) (h : Hp) : Option (Unit × Hp) := gd (hS h s5 = some (.inl 7)) (bd (rc s5 s4 s3 s2 s1 s0 h) fun _ h1 => b_K_extend_172 rc k55 v0 v1 v2 v3 v4 v5 v6 h1)
set_option maxHeartbeats 4000000 in
set_option maxRecDepth 20000 in
theorem tb_K_extend_169 {G : GG} {dr : Nat} (hdr : 1 ≤ dr) {rc : Nat → Int32 → Int32 → Int32 → Int32 → Int32 → Hp → Option (Unit × Hp)} (hrc : ∀ v0 v1 v2 v3 v4 v5 h, Mt G M_K_extend dr [.ref v0, .int v1, .int v2, .int v3, .int v4, .int v5] cU h (rc v0 v1 v2 v3 v4 v5 h)) {k55 : (Nat × Int32 × Int32 × Int32 × Int32 × Int32 × Int32) → Hp → Option (Unit × Hp)} (hk55 : ∀ s h, T G M_K_extend (dr + 1) cU 55 [(0, .ref s.1), (1, .int s.2.1), (2, .int s.2.2.1), (3, .int s.2.2.2.1), (4, .int s.2.2.2.2.1), (5, .int s.2.2.2.2.2.1), (6, .int s.2.2.2.2.2.2)] [] h (k55 s h)) (v0 : Nat) (v1 : Int32) (v2 : Int32) (v3 : Int32) (v4 : Int32) (v5 : Int32) (v6 : Int32) (s0 : Int32) (s1 : Int32) (s2 : Int32) (s3 : Int32) (s4 : Int32) (s5 : Nat) (h : Hp) : T G M_K_extend (dr + 1) cU 169 [(0, .ref v0), (1, .int v1), (2, .int v2), (3, .int v3), (4, .int v4), (5, .int v5), (6, .int v6)] [.int s0, .int s1, .int s2, .int s3, .int s4, .ref s5] h (b_K_extend_169 rc k55 v0 v1 v2 v3 v4 v5 v6 s0 s1 s2 s3 s4 s5 h) := by
  unfold b_K_extend_169
  refine r_invU (Mc := M_K_extend) (pc := 169) (ci := 7) (rest := []) dr 5 [.int s4, .int s3, .int s2, .int s1, .int s0] (dq D_K_extend_1_ok 31 rfl) rfl rfl lc_K_extend lv_K_extend_ ml_K_46 (Nat.ble_eq_true_of_le (by omega)) rfl rfl rfl (hrc s5 s4 s3 s2 s1 s0 h) (fun _ h1 => ?_)
  exact T.lsub [0, 1, 2, 3, 4, 5, 6] rfl (tb_K_extend_172 hdr hrc hk55 v0 v1 v2 v3 v4 v5 v6 h1)
noncomputable def b_K_extend_154 (rc : Nat → Int32 → Int32 → Int32 → Int32 → Int32 → Hp → Option (Unit × Hp)) (k55 : (Nat × Int32 × Int32 × Int32 × Int32 × Int32 × Int32) → Hp → Option (Unit × Hp)) (v0 : Nat) (v1 : Int32) (v2 : Int32) (v3 : Int32) (v4 : Int32) (v5 : Int32) (v6 : Int32) (v7 : Int32) (v9 : Int32) (s0 : Int32) (s1 : Int32) (s2 : Int32) (s3 : Int32) (s4 : Nat) (h : Hp) : Option (Unit × Hp) := if v9 = 0 then (b_K_extend_169 rc k55 v0 v1 v2 v3 v4 v5 v6 v5 s0 s1 s2 s3 s4 h) else (b_K_extend_169 rc k55 v0 v1 v2 v3 v4 v5 v6 (v5 ||| v7) s0 s1 s2 s3 s4 h)
set_option maxHeartbeats 4000000 in
set_option maxRecDepth 20000 in
theorem tb_K_extend_154 {G : GG} {dr : Nat} (hdr : 1 ≤ dr) {rc : Nat → Int32 → Int32 → Int32 → Int32 → Int32 → Hp → Option (Unit × Hp)} (hrc : ∀ v0 v1 v2 v3 v4 v5 h, Mt G M_K_extend dr [.ref v0, .int v1, .int v2, .int v3, .int v4, .int v5] cU h (rc v0 v1 v2 v3 v4 v5 h)) {k55 : (Nat × Int32 × Int32 × Int32 × Int32 × Int32 × Int32) → Hp → Option (Unit × Hp)} (hk55 : ∀ s h, T G M_K_extend (dr + 1) cU 55 [(0, .ref s.1), (1, .int s.2.1), (2, .int s.2.2.1), (3, .int s.2.2.2.1), (4, .int s.2.2.2.2.1), (5, .int s.2.2.2.2.2.1), (6, .int s.2.2.2.2.2.2)] [] h (k55 s h)) (v0 : Nat) (v1 : Int32) (v2 : Int32) (v3 : Int32) (v4 : Int32) (v5 : Int32) (v6 : Int32) (v7 : Int32) (v9 : Int32) (s0 : Int32) (s1 : Int32) (s2 : Int32) (s3 : Int32) (s4 : Nat) (h : Hp) : T G M_K_extend (dr + 1) cU 154 [(0, .ref v0), (1, .int v1), (2, .int v2), (3, .int v3), (4, .int v4), (5, .int v5), (6, .int v6), (7, .int v7), (9, .int v9)] [.int s0, .int s1, .int s2, .int s3, .ref s4] h (b_K_extend_154 rc k55 v0 v1 v2 v3 v4 v5 v6 v7 v9 s0 s1 s2 s3 s4 h) := by
  unfold b_K_extend_154
  refine q_iload (pc := 154) (dq D_K_extend_1_ok 24 rfl) 8 rfl ?_
  refine p_if_eq (pc := 156) 167 (dq D_K_extend_1_ok 25 rfl) rfl ?_ ?_
  · refine q_iload (pc := 167) (dq D_K_extend_1_ok 30 rfl) 5 rfl ?_
    exact T.lsub [0, 1, 2, 3, 4, 5, 6] rfl (tb_K_extend_169 hdr hrc hk55 v0 v1 v2 v3 v4 v5 v6 v5 s0 s1 s2 s3 s4 h)
  · refine q_iload (pc := 159) (dq D_K_extend_1_ok 26 rfl) 5 rfl ?_
    refine q_iload (pc := 161) (dq D_K_extend_1_ok 27 rfl) 7 rfl ?_
    refine q_ior (pc := 163) (dq D_K_extend_1_ok 28 rfl) ?_
    refine q_goto (pc := 164) 169 (dq D_K_extend_1_ok 29 rfl) rfl ?_
    exact T.lsub [0, 1, 2, 3, 4, 5, 6] rfl (tb_K_extend_169 hdr hrc hk55 v0 v1 v2 v3 v4 v5 v6 (v5 ||| v7) s0 s1 s2 s3 s4 h)
noncomputable def b_K_extend_119 (rc : Nat → Int32 → Int32 → Int32 → Int32 → Int32 → Hp → Option (Unit × Hp)) (k55 : (Nat × Int32 × Int32 × Int32 × Int32 × Int32 × Int32) → Hp → Option (Unit × Hp)) (v0 : Nat) (v1 : Int32) (v2 : Int32) (v3 : Int32) (v4 : Int32) (v5 : Int32) (v6 : Int32) (v7 : Int32) (v8 : Int32) (s0 : Int32) (h : Hp) : Option (Unit × Hp) := if s0 = 0 then (b_K_extend_154 rc k55 v0 v1 v2 v3 v4 v5 v6 v7 s0 v4 v8 (v2 ||| v7) (v1 + 1) v0 h) else (gd (hS h v0 = some (.inl 7)) (bR (hR h v0 5) fun x1 => gd (hS h x1 = some (.inl 2)) (bR (hR h x1 8) fun x2 => gd (ai h x2 0 v6) (lt (hI h x2 v6.toNatClampNeg) fun x3 => b_K_extend_154 rc k55 v0 v1 v2 v3 v4 v5 v6 v7 s0 (v4 + x3) v8 (v2 ||| v7) (v1 + 1) v0 h))))
set_option maxHeartbeats 4000000 in
set_option maxRecDepth 20000 in
theorem tb_K_extend_119 {G : GG} {dr : Nat} (hdr : 1 ≤ dr) {rc : Nat → Int32 → Int32 → Int32 → Int32 → Int32 → Hp → Option (Unit × Hp)} (hrc : ∀ v0 v1 v2 v3 v4 v5 h, Mt G M_K_extend dr [.ref v0, .int v1, .int v2, .int v3, .int v4, .int v5] cU h (rc v0 v1 v2 v3 v4 v5 h)) {k55 : (Nat × Int32 × Int32 × Int32 × Int32 × Int32 × Int32) → Hp → Option (Unit × Hp)} (hk55 : ∀ s h, T G M_K_extend (dr + 1) cU 55 [(0, .ref s.1), (1, .int s.2.1), (2, .int s.2.2.1), (3, .int s.2.2.2.1), (4, .int s.2.2.2.2.1), (5, .int s.2.2.2.2.2.1), (6, .int s.2.2.2.2.2.2)] [] h (k55 s h)) (v0 : Nat) (v1 : Int32) (v2 : Int32) (v3 : Int32) (v4 : Int32) (v5 : Int32) (v6 : Int32) (v7 : Int32) (v8 : Int32) (s0 : Int32) (h : Hp) : T G M_K_extend (dr + 1) cU 119 [(0, .ref v0), (1, .int v1), (2, .int v2), (3, .int v3), (4, .int v4), (5, .int v5), (6, .int v6), (7, .int v7), (8, .int v8)] [.int s0] h (b_K_extend_119 rc k55 v0 v1 v2 v3 v4 v5 v6 v7 v8 s0 h) := by
  unfold b_K_extend_119
  refine q_istore (pc := 119) (ls' := [(9, .int s0), (0, .ref v0), (1, .int v1), (2, .int v2), (3, .int v3), (4, .int v4), (5, .int v5), (6, .int v6), (7, .int v7), (8, .int v8)]) (dq D_K_extend_1_ok 4 rfl) rfl rfl ?_
  refine q_aload_n (pc := 121) (dq D_K_extend_1_ok 5 rfl) rfl 1 rfl ?_
  refine q_iload_n (pc := 122) (dq D_K_extend_1_ok 6 rfl) rfl 2 rfl ?_
  refine q_ic1 (pc := 123) (dq D_K_extend_1_ok 7 rfl) ?_
  refine q_iadd (pc := 124) (dq D_K_extend_1_ok 8 rfl) ?_
  refine q_iload_n (pc := 125) (dq D_K_extend_1_ok 9 rfl) rfl 3 rfl ?_
  refine q_iload (pc := 126) (dq D_K_extend_1_ok 10 rfl) 8 rfl ?_
  refine q_ior (pc := 128) (dq D_K_extend_1_ok 11 rfl) ?_
  refine q_iload (pc := 129) (dq D_K_extend_1_ok 12 rfl) 9 rfl ?_
  refine q_iload (pc := 131) (dq D_K_extend_1_ok 13 rfl) 0 rfl ?_
  refine p_if_eq (pc := 133) 152 (dq D_K_extend_1_ok 14 rfl) rfl ?_ ?_
  · refine q_iload (pc := 152) (dq D_K_extend_1_ok 23 rfl) 5 rfl ?_
    exact T.lsub [1, 2, 3, 4, 5, 6, 7, 8, 0] rfl (tb_K_extend_154 hdr hrc hk55 v0 v1 v2 v3 v4 v5 v6 v7 s0 v4 v8 (v2 ||| v7) (v1 + 1) v0 h)
  · refine q_iload (pc := 136) (dq D_K_extend_1_ok 15 rfl) 5 rfl ?_
    refine q_aload_n (pc := 138) (dq D_K_extend_1_ok 16 rfl) rfl 1 rfl ?_
    refine q_getR (pc := 139) (dq D_K_extend_1_ok 17 rfl) fa_K_21 rfl (fun x1 => ?_)
    refine q_getR (pc := 142) (dq D_K_extend_1_ok 18 rfl) fa_K_59 rfl (fun x2 => ?_)
    refine q_iload (pc := 145) (dq D_K_extend_1_ok 19 rfl) 7 rfl ?_
    refine r_iald (pc := 147) (dq D_K_extend_1_ok 20 rfl) (fun x3 => ?_)
    refine q_iadd (pc := 148) (dq D_K_extend_1_ok 21 rfl) ?_
    refine q_goto (pc := 149) 154 (dq D_K_extend_1_ok 22 rfl) rfl ?_
    exact T.lsub [1, 2, 3, 4, 5, 6, 7, 8, 0] rfl (tb_K_extend_154 hdr hrc hk55 v0 v1 v2 v3 v4 v5 v6 v7 s0 (v4 + x3) v8 (v2 ||| v7) (v1 + 1) v0 h)
noncomputable def b_K_extend_55 (rc : Nat → Int32 → Int32 → Int32 → Int32 → Int32 → Hp → Option (Unit × Hp)) (k55 : (Nat × Int32 × Int32 × Int32 × Int32 × Int32 × Int32) → Hp → Option (Unit × Hp)) (v0 : Nat) (v1 : Int32) (v2 : Int32) (v3 : Int32) (v4 : Int32) (v5 : Int32) (v6 : Int32) (h : Hp) : Option (Unit × Hp) := gd (hS h v0 = some (.inl 7)) (bR (hR h v0 5) fun x1 => gd (hS h x1 = some (.inl 2)) (lt (hI h x1 6) fun x2 => if x2 ≤ v6 then (some ((), h)) else (lt ((1 : Int32) <<< (v6 &&& 31) : Int32) fun y3 => if (v2 &&& y3) = 0 then (gd (hS h v0 = some (.inl 7)) (bR (hR h v0 1) fun x4 => gd (ai h x4 0 v1) (lt (uI h x4 v1.toNatClampNeg v6) fun h5 => gd (hS h5 v0 = some (.inl 7)) (bR (hR h5 v0 5) fun x6 => gd (hS h5 x6 = some (.inl 2)) (bR (hR h5 x6 7) fun x7 => gd (ai h5 x7 0 v6) (lt (hI h5 x7 v6.toNatClampNeg) fun x8 => lt (v3 + x8 : Int32) fun y9 => gd (hS h5 v0 = some (.inl 7)) (bR (hR h5 v0 0) fun x10 => gd (ai h5 x10 0 v6) (lt (hI h5 x10 v6.toNatClampNeg) fun x11 => if x11 < y9 then (b_K_extend_119 rc k55 v0 v1 v2 v3 v4 v5 v6 y3 y9 0 h5) else (b_K_extend_119 rc k55 v0 v1 v2 v3 v4 v5 v6 y3 y9 1 h5))))))))) else (b_K_extend_172 rc k55 v0 v1 v2 v3 v4 v5 v6 h))))
set_option maxHeartbeats 4000000 in
set_option maxRecDepth 20000 in
theorem tb_K_extend_55 {G : GG} {dr : Nat} (hdr : 1 ≤ dr) {rc : Nat → Int32 → Int32 → Int32 → Int32 → Int32 → Hp → Option (Unit × Hp)} (hrc : ∀ v0 v1 v2 v3 v4 v5 h, Mt G M_K_extend dr [.ref v0, .int v1, .int v2, .int v3, .int v4, .int v5] cU h (rc v0 v1 v2 v3 v4 v5 h)) {k55 : (Nat × Int32 × Int32 × Int32 × Int32 × Int32 × Int32) → Hp → Option (Unit × Hp)} (hk55 : ∀ s h, T G M_K_extend (dr + 1) cU 55 [(0, .ref s.1), (1, .int s.2.1), (2, .int s.2.2.1), (3, .int s.2.2.2.1), (4, .int s.2.2.2.2.1), (5, .int s.2.2.2.2.2.1), (6, .int s.2.2.2.2.2.2)] [] h (k55 s h)) (v0 : Nat) (v1 : Int32) (v2 : Int32) (v3 : Int32) (v4 : Int32) (v5 : Int32) (v6 : Int32) (h : Hp) : T G M_K_extend (dr + 1) cU 55 [(0, .ref v0), (1, .int v1), (2, .int v2), (3, .int v3), (4, .int v4), (5, .int v5), (6, .int v6)] [] h (b_K_extend_55 rc k55 v0 v1 v2 v3 v4 v5 v6 h) := by
  unfold b_K_extend_55
  refine q_iload (pc := 55) (dq D_K_extend_0_ok 29 rfl) 6 rfl ?_
  refine q_aload_n (pc := 57) (dq D_K_extend_0_ok 30 rfl) rfl 0 rfl ?_
  refine q_getR (pc := 58) (dq D_K_extend_0_ok 31 rfl) fa_K_21 rfl (fun x1 => ?_)
  refine r_getI (pc := 61) (dq D_K_extend_0_ok 32 rfl) fa_K_32 rfl (fun x2 => ?_)
  refine q_ic_ge (pc := 64) 178 (dq D_K_extend_0_ok 33 rfl) rfl ?_ ?_
  · exact r_retu (pc := 178) (dq D_K_extend_1_ok 34 rfl) rfl
  · refine q_ic1 (pc := 67) (dq D_K_extend_0_ok 34 rfl) ?_
    refine q_iload (pc := 68) (dq D_K_extend_0_ok 35 rfl) 6 rfl ?_
    refine q_ishl (pc := 70) (dq D_K_extend_0_ok 36 rfl) ?_
    refine r_nmI (fun y3 => ?_)
    refine q_istore (pc := 71) (ls' := [(7, .int y3), (0, .ref v0), (1, .int v1), (2, .int v2), (3, .int v3), (4, .int v4), (5, .int v5), (6, .int v6)]) (dq D_K_extend_0_ok 37 rfl) rfl rfl ?_
    refine q_iload_n (pc := 73) (dq D_K_extend_0_ok 38 rfl) rfl 3 rfl ?_
    refine q_iload (pc := 74) (dq D_K_extend_0_ok 39 rfl) 0 rfl ?_
    refine q_iand (pc := 76) (dq D_K_extend_0_ok 40 rfl) ?_
    refine p_if_ne (pc := 77) 172 (dq D_K_extend_0_ok 41 rfl) rfl ?_ ?_
    · exact T.lsub [1, 2, 3, 4, 5, 6, 7] rfl (tb_K_extend_172 hdr hrc hk55 v0 v1 v2 v3 v4 v5 v6 h)
    · refine q_aload_n (pc := 80) (dq D_K_extend_0_ok 42 rfl) rfl 1 rfl ?_
      refine q_getR (pc := 81) (dq D_K_extend_0_ok 43 rfl) fa_K_15 rfl (fun x4 => ?_)
      refine q_iload_n (pc := 84) (dq D_K_extend_0_ok 44 rfl) rfl 2 rfl ?_
      refine q_iload (pc := 85) (dq D_K_extend_0_ok 45 rfl) 7 rfl ?_
      refine r_iast (pc := 87) (dq D_K_extend_0_ok 46 rfl) (fun h5 => ?_)
      refine q_iload_n (pc := 88) (dq D_K_extend_0_ok 47 rfl) rfl 4 rfl ?_
      refine q_aload_n (pc := 89) (dq D_K_extend_0_ok 48 rfl) rfl 1 rfl ?_
      refine q_getR (pc := 90) (dq D_K_extend_0_ok 49 rfl) fa_K_21 rfl (fun x6 => ?_)
      refine q_getR (pc := 93) (dq D_K_extend_0_ok 50 rfl) fa_K_56 rfl (fun x7 => ?_)
      refine q_iload (pc := 96) (dq D_K_extend_0_ok 51 rfl) 7 rfl ?_
      refine r_iald (pc := 98) (dq D_K_extend_0_ok 52 rfl) (fun x8 => ?_)
      refine q_iadd (pc := 99) (dq D_K_extend_0_ok 53 rfl) ?_
      refine r_nmI (fun y9 => ?_)
      refine q_istore (pc := 100) (ls' := [(8, .int y9), (7, .int y3), (0, .ref v0), (1, .int v1), (2, .int v2), (3, .int v3), (4, .int v4), (5, .int v5), (6, .int v6)]) (dq D_K_extend_0_ok 54 rfl) rfl rfl ?_
      refine q_iload (pc := 102) (dq D_K_extend_0_ok 55 rfl) 0 rfl ?_
      refine q_aload_n (pc := 104) (dq D_K_extend_0_ok 56 rfl) rfl 2 rfl ?_
      refine q_getR (pc := 105) (dq D_K_extend_0_ok 57 rfl) fa_K_9 rfl (fun x10 => ?_)
      refine q_iload (pc := 108) (dq D_K_extend_0_ok 58 rfl) 8 rfl ?_
      refine r_iald (pc := 110) (dq D_K_extend_0_ok 59 rfl) (fun x11 => ?_)
      refine q_ic_gt (pc := 111) 118 (dq D_K_extend_1_ok 0 rfl) rfl ?_ ?_
      · refine q_ic0 (pc := 118) (dq D_K_extend_1_ok 3 rfl) ?_
        exact T.lsub [2, 3, 4, 5, 6, 7, 8, 1, 0] rfl (tb_K_extend_119 hdr hrc hk55 v0 v1 v2 v3 v4 v5 v6 y3 y9 0 h5)
      · refine q_ic1 (pc := 114) (dq D_K_extend_1_ok 1 rfl) ?_
        refine q_goto (pc := 115) 119 (dq D_K_extend_1_ok 2 rfl) rfl ?_
        exact T.lsub [2, 3, 4, 5, 6, 7, 8, 1, 0] rfl (tb_K_extend_119 hdr hrc hk55 v0 v1 v2 v3 v4 v5 v6 y3 y9 1 h5)
noncomputable def l_K_extend_55 (rc : Nat → Int32 → Int32 → Int32 → Int32 → Int32 → Hp → Option (Unit × Hp)) : Nat → (Nat × Int32 × Int32 × Int32 × Int32 × Int32 × Int32) → Hp → Option (Unit × Hp) := lp (fun k55 s h => b_K_extend_55 rc k55 s.1 s.2.1 s.2.2.1 s.2.2.2.1 s.2.2.2.2.1 s.2.2.2.2.2.1 s.2.2.2.2.2.2 h)
set_option maxHeartbeats 4000000 in
set_option maxRecDepth 20000 in
theorem tl_K_extend_55 {G : GG} {dr : Nat} (hdr : 1 ≤ dr) {rc : Nat → Int32 → Int32 → Int32 → Int32 → Int32 → Hp → Option (Unit × Hp)} (hrc : ∀ v0 v1 v2 v3 v4 v5 h, Mt G M_K_extend dr [.ref v0, .int v1, .int v2, .int v3, .int v4, .int v5] cU h (rc v0 v1 v2 v3 v4 v5 h)) (n : Nat) (s : Nat × Int32 × Int32 × Int32 × Int32 × Int32 × Int32) (h : Hp) : T G M_K_extend (dr + 1) cU 55 [(0, .ref s.1), (1, .int s.2.1), (2, .int s.2.2.1), (3, .int s.2.2.2.1), (4, .int s.2.2.2.2.1), (5, .int s.2.2.2.2.2.1), (6, .int s.2.2.2.2.2.2)] [] h (l_K_extend_55 rc n s h) :=
  T.loop (lsOf := fun s => [(0, .ref s.1), (1, .int s.2.1), (2, .int s.2.2.1), (3, .int s.2.2.2.1), (4, .int s.2.2.2.2.1), (5, .int s.2.2.2.2.2.1), (6, .int s.2.2.2.2.2.2)]) (fun k55 hk55 s h => tb_K_extend_55 hdr hrc hk55 s.1 s.2.1 s.2.2.1 s.2.2.2.1 s.2.2.2.2.1 s.2.2.2.2.2.1 s.2.2.2.2.2.2 h) n s h
noncomputable def b_K_extend_16 (rc : Nat → Int32 → Int32 → Int32 → Int32 → Int32 → Hp → Option (Unit × Hp)) (v0 : Nat) (v4 : Int32) (v5 : Int32) (h : Hp) : Option (Unit × Hp) := gd (hS h v0 = some (.inl 7)) (lt (hI h v0 3) fun x1 => if v4 ≤ x1 then (some ((), h)) else (gd (hS h v0 = some (.inl 7)) (lt (uI h v0 3 v4) fun h2 => gd (hS h2 v0 = some (.inl 7)) (lt (uI h2 v0 4 v5) fun h3 => gd (hS h3 v0 = some (.inl 7)) (bR (hR h3 v0 1) fun x4 => gd (hS h3 v0 = some (.inl 7)) (bR (hR h3 v0 2) fun x5 => gd (cpok h3 x4 x5 0 0 4) (lt (uC h3 x4 x5 (0 : Int32).toNatClampNeg (0 : Int32).toNatClampNeg (4 : Int32).toNatClampNeg) fun h6 => some ((), h6))))))))
set_option maxHeartbeats 4000000 in
set_option maxRecDepth 20000 in
theorem tb_K_extend_16 {G : GG} {dr : Nat} (hdr : 1 ≤ dr) {rc : Nat → Int32 → Int32 → Int32 → Int32 → Int32 → Hp → Option (Unit × Hp)} (hrc : ∀ v0 v1 v2 v3 v4 v5 h, Mt G M_K_extend dr [.ref v0, .int v1, .int v2, .int v3, .int v4, .int v5] cU h (rc v0 v1 v2 v3 v4 v5 h)) (v0 : Nat) (v4 : Int32) (v5 : Int32) (h : Hp) : T G M_K_extend (dr + 1) cU 16 [(0, .ref v0), (4, .int v4), (5, .int v5)] [] h (b_K_extend_16 rc v0 v4 v5 h) := by
  unfold b_K_extend_16
  refine q_iload (pc := 16) (dq D_K_extend_0_ok 8 rfl) 1 rfl ?_
  refine q_aload_n (pc := 18) (dq D_K_extend_0_ok 9 rfl) rfl 0 rfl ?_
  refine r_getI (pc := 19) (dq D_K_extend_0_ok 10 rfl) fa_K_25 rfl (fun x1 => ?_)
  refine q_ic_le (pc := 22) 51 (dq D_K_extend_0_ok 11 rfl) rfl ?_ ?_
  · exact r_retu (pc := 51) (dq D_K_extend_0_ok 26 rfl) rfl
  · refine q_aload_n (pc := 25) (dq D_K_extend_0_ok 12 rfl) rfl 0 rfl ?_
    refine q_iload (pc := 26) (dq D_K_extend_0_ok 13 rfl) 1 rfl ?_
    refine r_putI (pc := 28) (dq D_K_extend_0_ok 14 rfl) fp_K_25 rfl rfl (fun h2 => ?_)
    refine q_aload_n (pc := 31) (dq D_K_extend_0_ok 15 rfl) rfl 0 rfl ?_
    refine q_iload (pc := 32) (dq D_K_extend_0_ok 16 rfl) 2 rfl ?_
    refine r_putI (pc := 34) (dq D_K_extend_0_ok 17 rfl) fp_K_29 rfl rfl (fun h3 => ?_)
    refine q_aload_n (pc := 37) (dq D_K_extend_0_ok 18 rfl) rfl 0 rfl ?_
    refine q_getR (pc := 38) (dq D_K_extend_0_ok 19 rfl) fa_K_15 rfl (fun x4 => ?_)
    refine q_ic0 (pc := 41) (dq D_K_extend_0_ok 20 rfl) ?_
    refine q_aload_n (pc := 42) (dq D_K_extend_0_ok 21 rfl) rfl 0 rfl ?_
    refine q_getR (pc := 43) (dq D_K_extend_0_ok 22 rfl) fa_K_18 rfl (fun x5 => ?_)
    refine q_ic0 (pc := 46) (dq D_K_extend_0_ok 23 rfl) ?_
    refine q_ic4 (pc := 47) (dq D_K_extend_0_ok 24 rfl) ?_
    refine r_copy (pc := 48) (dq D_K_extend_0_ok 25 rfl) lk_K_50 lac_n lac_s lac_i (Nat.ble_eq_true_of_le (by omega)) rfl (fun h6 => ?_)
    exact r_retu (pc := 51) (dq D_K_extend_0_ok 26 rfl) rfl
noncomputable def g_K_extend (rc : Nat → Int32 → Int32 → Int32 → Int32 → Int32 → Hp → Option (Unit × Hp)) (v0 : Nat) (v1 : Int32) (v2 : Int32) (v3 : Int32) (v4 : Int32) (v5 : Int32) (h : Hp) : Option (Unit × Hp) := gd (hS h v0 = some (.inl 7)) (bR (hR h v0 5) fun x1 => gd (hS h x1 = some (.inl 2)) (lt (hI h x1 6) fun x2 => if x2 ≤ v1 then (b_K_extend_16 rc v0 v4 v5 h) else (if v1 < 4 then (lt (0 : Int32) fun y3 => l_K_extend_55 rc FU (v0, v1, v2, v3, v4, v5, y3) h) else (b_K_extend_16 rc v0 v4 v5 h))))
set_option maxHeartbeats 4000000 in
set_option maxRecDepth 20000 in
theorem tg_K_extend {G : GG} {dr : Nat} (hdr : 1 ≤ dr) {rc : Nat → Int32 → Int32 → Int32 → Int32 → Int32 → Hp → Option (Unit × Hp)} (hrc : ∀ v0 v1 v2 v3 v4 v5 h, Mt G M_K_extend dr [.ref v0, .int v1, .int v2, .int v3, .int v4, .int v5] cU h (rc v0 v1 v2 v3 v4 v5 h)) (v0 : Nat) (v1 : Int32) (v2 : Int32) (v3 : Int32) (v4 : Int32) (v5 : Int32) (h : Hp) : Mt G M_K_extend (dr + 1) [.ref v0, .int v1, .int v2, .int v3, .int v4, .int v5] cU h (g_K_extend rc v0 v1 v2 v3 v4 v5 h) := by
  refine Mt.ofF (by decide +kernel) rfl (Rt.v rfl rfl) ?_
  show T G M_K_extend (dr + 1) cU 0 [(0, .ref v0), (1, .int v1), (2, .int v2), (3, .int v3), (4, .int v4), (5, .int v5)] [] h _
  unfold g_K_extend
  refine q_iload_n (pc := 0) (dq D_K_extend_0_ok 0 rfl) rfl 1 rfl ?_
  refine q_aload_n (pc := 1) (dq D_K_extend_0_ok 1 rfl) rfl 0 rfl ?_
  refine q_getR (pc := 2) (dq D_K_extend_0_ok 2 rfl) fa_K_21 rfl (fun x1 => ?_)
  refine r_getI (pc := 5) (dq D_K_extend_0_ok 3 rfl) fa_K_32 rfl (fun x2 => ?_)
  refine q_ic_ge (pc := 8) 16 (dq D_K_extend_0_ok 4 rfl) rfl ?_ ?_
  · exact T.lsub [0, 4, 5] rfl (tb_K_extend_16 hdr hrc v0 v4 v5 h)
  · refine q_iload_n (pc := 11) (dq D_K_extend_0_ok 5 rfl) rfl 1 rfl ?_
    refine q_ic4 (pc := 12) (dq D_K_extend_0_ok 6 rfl) ?_
    refine q_ic_lt (pc := 13) 52 (dq D_K_extend_0_ok 7 rfl) rfl ?_ ?_
    · refine q_ic0 (pc := 52) (dq D_K_extend_0_ok 27 rfl) ?_
      refine r_nmI (fun y3 => ?_)
      refine q_istore (pc := 53) (ls' := [(6, .int y3), (0, .ref v0), (1, .int v1), (2, .int v2), (3, .int v3), (4, .int v4), (5, .int v5)]) (dq D_K_extend_0_ok 28 rfl) rfl rfl ?_
      exact T.lsub [1, 2, 3, 4, 5, 6, 0] rfl (tl_K_extend_55 hdr hrc FU (v0, v1, v2, v3, v4, v5, y3) h)
    · exact T.lsub [0, 4, 5] rfl (tb_K_extend_16 hdr hrc v0 v4 v5 h)
noncomputable def f_K_extend_n : Nat → Nat → Int32 → Int32 → Int32 → Int32 → Int32 → Hp → Option (Unit × Hp)
  | 0 => fun _ _ _ _ _ _ _ => none
  | n + 1 => g_K_extend (f_K_extend_n n)
set_option maxHeartbeats 4000000 in
set_option maxRecDepth 20000 in
theorem t_K_extend_n {G : GG} (n : Nat) : ∀ (v0 : Nat) (v1 : Int32) (v2 : Int32) (v3 : Int32) (v4 : Int32) (v5 : Int32) (h : Hp), Mt G M_K_extend (1 + n) [.ref v0, .int v1, .int v2, .int v3, .int v4, .int v5] cU h (f_K_extend_n n v0 v1 v2 v3 v4 v5 h) := by
  induction n with
  | zero => intro v0 v1 v2 v3 v4 v5 h r h' hF; cases hF
  | succ n ih => intro v0 v1 v2 v3 v4 v5 h; exact tg_K_extend (by omega) ih v0 v1 v2 v3 v4 v5 h
noncomputable def f_K_extend (v0 : Nat) (v1 : Int32) (v2 : Int32) (v3 : Int32) (v4 : Int32) (v5 : Int32) (h : Hp) : Option (Unit × Hp) := f_K_extend_n 8 v0 v1 v2 v3 v4 v5 h
set_option maxHeartbeats 4000000 in
set_option maxRecDepth 20000 in
theorem t_K_extend {G : GG} (v0 : Nat) (v1 : Int32) (v2 : Int32) (v3 : Int32) (v4 : Int32) (v5 : Int32) (h : Hp) : Mt G M_K_extend 9 [.ref v0, .int v1, .int v2, .int v3, .int v4, .int v5] cU h (f_K_extend v0 v1 v2 v3 v4 v5 h) := t_K_extend_n 8 v0 v1 v2 v3 v4 v5 h
noncomputable def b_K_plan_17 (k17 : (Nat × Nat × Int32) → Hp → Option (Unit × Hp)) (v0 : Nat) (v2 : Nat) (v3 : Int32) (h : Hp) : Option (Unit × Hp) := gd (hS h v0 = some (.inl 7)) (bR (hR h v0 5) fun x1 => gd (hS h x1 = some (.inl 2)) (lt (hI h x1 6) fun x2 => if x2 ≤ v3 then (gd (hS h v0 = some (.inl 7)) (bd (f_K_extend v0 (0 : Int32) (0 : Int32) (0 : Int32) (0 : Int32) (0 : Int32) h) fun _ h3 => some ((), h3))) else (gd (hS h v0 = some (.inl 7)) (bR (hR h v0 0) fun x5 => gd (hS h v0 = some (.inl 7)) (bR (hR h v0 5) fun x6 => gd (hS h x6 = some (.inl 2)) (bR (hR h x6 9) fun x7 => gd (ai h x7 0 v3) (lt (hI h x7 v3.toNatClampNeg) fun x8 => gd (hS h v2 = some (.inl 5)) (bd (f_C_feastFrom v2 x8 (1 : Int32) (5000 : Int32) h) fun r10 h9 => gd (ai h9 x5 0 v3) (lt (uI h9 x5 v3.toNatClampNeg r10) fun h11 => k17 (v0, v2, v3 + 1) h11)))))))))
set_option maxHeartbeats 4000000 in
set_option maxRecDepth 20000 in
theorem tb_K_plan_17 {G : GG} {k17 : (Nat × Nat × Int32) → Hp → Option (Unit × Hp)} (hk17 : ∀ s h, T G M_K_plan 10 cU 17 [(0, .ref s.1), (2, .ref s.2.1), (3, .int s.2.2)] [] h (k17 s h)) (v0 : Nat) (v2 : Nat) (v3 : Int32) (h : Hp) : T G M_K_plan 10 cU 17 [(0, .ref v0), (2, .ref v2), (3, .int v3)] [] h (b_K_plan_17 k17 v0 v2 v3 h) := by
  unfold b_K_plan_17
  refine q_iload_n (pc := 17) (dq D_K_plan_0_ok 11 rfl) rfl 2 rfl ?_
  refine q_aload_n (pc := 18) (dq D_K_plan_0_ok 12 rfl) rfl 0 rfl ?_
  refine q_getR (pc := 19) (dq D_K_plan_0_ok 13 rfl) fa_K_21 rfl (fun x1 => ?_)
  refine r_getI (pc := 22) (dq D_K_plan_0_ok 14 rfl) fa_K_32 rfl (fun x2 => ?_)
  refine q_ic_ge (pc := 25) 57 (dq D_K_plan_0_ok 15 rfl) rfl ?_ ?_
  · refine q_aload_n (pc := 57) (dq D_K_plan_0_ok 31 rfl) rfl 0 rfl ?_
    refine q_ic0 (pc := 58) (dq D_K_plan_0_ok 32 rfl) ?_
    refine q_ic0 (pc := 59) (dq D_K_plan_0_ok 33 rfl) ?_
    refine q_ic0 (pc := 60) (dq D_K_plan_0_ok 34 rfl) ?_
    refine q_ic0 (pc := 61) (dq D_K_plan_0_ok 35 rfl) ?_
    refine q_ic0 (pc := 62) (dq D_K_plan_0_ok 36 rfl) ?_
    refine r_invU (Mc := M_K_extend) (pc := 63) (ci := 7) (rest := []) 9 5 [.int 0, .int 0, .int 0, .int 0, .int 0] (dq D_K_plan_0_ok 37 rfl) rfl rfl lc_K_extend lv_K_extend_ ml_K_46 rfl rfl rfl rfl (t_K_extend v0 (0 : Int32) (0 : Int32) (0 : Int32) (0 : Int32) (0 : Int32) h) (fun _ h3 => ?_)
    exact r_retu (pc := 66) (dq D_K_plan_0_ok 38 rfl) rfl
  · refine q_aload_n (pc := 28) (dq D_K_plan_0_ok 16 rfl) rfl 0 rfl ?_
    refine q_getR (pc := 29) (dq D_K_plan_0_ok 17 rfl) fa_K_9 rfl (fun x5 => ?_)
    refine q_iload_n (pc := 32) (dq D_K_plan_0_ok 18 rfl) rfl 2 rfl ?_
    refine q_aload_n (pc := 33) (dq D_K_plan_0_ok 19 rfl) rfl 1 rfl ?_
    refine q_aload_n (pc := 34) (dq D_K_plan_0_ok 20 rfl) rfl 0 rfl ?_
    refine q_getR (pc := 35) (dq D_K_plan_0_ok 21 rfl) fa_K_21 rfl (fun x6 => ?_)
    refine q_getR (pc := 38) (dq D_K_plan_0_ok 22 rfl) fa_K_37 rfl (fun x7 => ?_)
    refine q_iload_n (pc := 41) (dq D_K_plan_0_ok 23 rfl) rfl 2 rfl ?_
    refine r_iald (pc := 42) (dq D_K_plan_0_ok 24 rfl) (fun x8 => ?_)
    refine q_ic1 (pc := 43) (dq D_K_plan_0_ok 25 rfl) ?_
    refine q_sipush (pc := 44) (v := 5000) (dq D_K_plan_0_ok 26 rfl) (by decide) ?_
    refine r_invI (Mc := M_C_feastFrom) (pc := 47) (ci := 5) (rest := [.int v3, .ref x5]) 5 3 [.int x8, .int 1, .int 5000] (dq D_K_plan_0_ok 27 rfl) rfl rfl lc_C_feastFrom lv_C_feastFrom_ ml_K_40 rfl rfl rfl rfl (t_C_feastFrom v2 x8 (1 : Int32) (5000 : Int32) h) (fun r10 h9 => ?_)
    refine r_iast (pc := 50) (dq D_K_plan_0_ok 28 rfl) (fun h11 => ?_)
    refine q_iinc (pc := 51) (v := (1)) (ls' := [(3, .int (v3 + 1)), (0, .ref v0), (2, .ref v2)]) (dq D_K_plan_0_ok 29 rfl) 2 rfl (by decide) rfl rfl ?_
    refine q_goto (pc := 54) 17 (dq D_K_plan_0_ok 30 rfl) rfl ?_
    exact T.lsub [1, 2, 0] rfl (hk17 (v0, v2, v3 + 1) h11)
noncomputable def l_K_plan_17 : Nat → (Nat × Nat × Int32) → Hp → Option (Unit × Hp) := lp (fun k17 s h => b_K_plan_17 k17 s.1 s.2.1 s.2.2 h)
set_option maxHeartbeats 4000000 in
set_option maxRecDepth 20000 in
theorem tl_K_plan_17 {G : GG} (n : Nat) (s : Nat × Nat × Int32) (h : Hp) : T G M_K_plan 10 cU 17 [(0, .ref s.1), (2, .ref s.2.1), (3, .int s.2.2)] [] h (l_K_plan_17 n s h) :=
  T.loop (lsOf := fun s => [(0, .ref s.1), (2, .ref s.2.1), (3, .int s.2.2)]) (fun k17 hk17 s h => tb_K_plan_17 hk17 s.1 s.2.1 s.2.2 h) n s h
noncomputable def f_K_plan (v0 : Nat) (v1 : Nat) (v2 : Nat) (h : Hp) : Option (Unit × Hp) := gd (hS h v0 = some (.inl 7)) (lt (uR h v0 5 (some v1)) fun h1 => gd (hS h1 v0 = some (.inl 7)) (lt (uI h1 v0 3 ((-1))) fun h2 => gd (hS h2 v0 = some (.inl 7)) (lt (uI h2 v0 4 0) fun h3 => lt (0 : Int32) fun y4 => l_K_plan_17 FU (v0, v2, y4) h3)))
set_option maxHeartbeats 4000000 in
set_option maxRecDepth 20000 in
theorem t_K_plan {G : GG} (v0 : Nat) (v1 : Nat) (v2 : Nat) (h : Hp) : Mt G M_K_plan 10 [.ref v0, .ref v1, .ref v2] cU h (f_K_plan v0 v1 v2 h) := by
  refine Mt.ofF (by decide +kernel) rfl (Rt.v rfl rfl) ?_
  show T G M_K_plan 10 cU 0 [(0, .ref v0), (1, .ref v1), (2, .ref v2)] [] h _
  unfold f_K_plan
  refine q_aload_n (pc := 0) (dq D_K_plan_0_ok 0 rfl) rfl 0 rfl ?_
  refine q_aload_n (pc := 1) (dq D_K_plan_0_ok 1 rfl) rfl 1 rfl ?_
  refine r_putR (pc := 2) (dq D_K_plan_0_ok 2 rfl) fp_K_21 rfl rfl rfl (fun h1 => ?_)
  refine q_aload_n (pc := 5) (dq D_K_plan_0_ok 3 rfl) rfl 0 rfl ?_
  refine q_icm1 (pc := 6) (dq D_K_plan_0_ok 4 rfl) ?_
  refine r_putI (pc := 7) (dq D_K_plan_0_ok 5 rfl) fp_K_25 rfl rfl (fun h2 => ?_)
  refine q_aload_n (pc := 10) (dq D_K_plan_0_ok 6 rfl) rfl 0 rfl ?_
  refine q_ic0 (pc := 11) (dq D_K_plan_0_ok 7 rfl) ?_
  refine r_putI (pc := 12) (dq D_K_plan_0_ok 8 rfl) fp_K_29 rfl rfl (fun h3 => ?_)
  refine q_ic0 (pc := 15) (dq D_K_plan_0_ok 9 rfl) ?_
  refine r_nmI (fun y4 => ?_)
  refine q_istore_n (pc := 16) (ls' := [(3, .int y4), (0, .ref v0), (1, .ref v1), (2, .ref v2)]) (dq D_K_plan_0_ok 10 rfl) rfl rfl rfl ?_
  exact T.lsub [1, 3, 0] rfl (tl_K_plan_17 FU (v0, v2, y4) h3)
noncomputable def f_B_lineWorth (v0 : Nat) (h : Hp) : Option (Int32 × Hp) := gd (hS h v0 = some (.inl 0)) (bd (f_B_hasOrrery v0 h) fun r2 h1 => if r2 = 0 then (gd (hS h1 v0 = some (.inl 0)) (bd (f_B_refuse v0 (1 : Int32) h1) fun r14 h13 => some (r14, h13))) else (gd (hS h1 v0 = some (.inl 0)) (bR (hR h1 v0 10) fun x3 => gd (hS h1 v0 = some (.inl 0)) (bR (hR h1 v0 3) fun x4 => gd (hS h1 v0 = some (.inl 0)) (bd (f_B_daysToCome v0 h1) fun r6 h5 => gd (hS h5 x3 = some (.inl 7)) (bd (f_K_plan x3 x4 r6 h5) fun _ h7 => gd (hS h7 v0 = some (.inl 0)) (bR (hR h7 v0 10) fun x9 => gd (hS h7 x9 = some (.inl 7)) (lt (hI h7 x9 3) fun x10 => gd (hS h7 v0 = some (.inl 0)) (bd (f_B_grant v0 x10 h7) fun r12 h11 => some (r12, h11))))))))))
set_option maxHeartbeats 4000000 in
set_option maxRecDepth 20000 in
theorem t_B_lineWorth {G : GG} (v0 : Nat) (h : Hp) : Mt G M_B_lineWorth 11 [.ref v0] cI h (f_B_lineWorth v0 h) := by
  refine Mt.ofF (by decide +kernel) rfl (Rt.i rfl rfl) ?_
  show T G M_B_lineWorth 11 cI 0 [(0, .ref v0)] [] h _
  unfold f_B_lineWorth
  refine q_aload_n (pc := 0) (dq D_B_lineWorth_0_ok 0 rfl) rfl 0 rfl ?_
  refine r_invI (Mc := M_B_hasOrrery) (pc := 1) (ci := 0) (rest := []) 0 0 [] (dq D_B_lineWorth_0_ok 1 rfl) rfl rfl lc_B_hasOrrery lv_B_hasOrrery_ ml_B_149 rfl rfl rfl rfl (t_B_hasOrrery v0 h) (fun r2 h1 => ?_)
  refine p_if_ne (pc := 4) 13 (dq D_B_lineWorth_0_ok 2 rfl) rfl ?_ ?_
  · refine q_aload_n (pc := 13) (dq D_B_lineWorth_0_ok 7 rfl) rfl 0 rfl ?_
    refine q_getR (pc := 14) (dq D_B_lineWorth_0_ok 8 rfl) fa_B_54 rfl (fun x3 => ?_)
    refine q_aload_n (pc := 17) (dq D_B_lineWorth_0_ok 9 rfl) rfl 0 rfl ?_
    refine q_getR (pc := 18) (dq D_B_lineWorth_0_ok 10 rfl) fa_B_23 rfl (fun x4 => ?_)
    refine q_aload_n (pc := 21) (dq D_B_lineWorth_0_ok 11 rfl) rfl 0 rfl ?_
    refine r_invA (Mc := M_B_daysToCome) (pc := 22) (ci := 0) (rest := [.ref x4, .ref x3]) 4 0 [] (dq D_B_lineWorth_0_ok 12 rfl) rfl rfl lc_B_daysToCome lv_B_daysToCome_ ml_B_192 rfl rfl rfl rfl (t_B_daysToCome v0 h1) (fun r6 h5 => ?_)
    refine r_invU (Mc := M_K_plan) (pc := 25) (ci := 7) (rest := []) 10 2 [.ref x4, .ref r6] (dq D_B_lineWorth_0_ok 13 rfl) rfl rfl lc_K_plan lv_K_plan_ ml_B_233 rfl rfl rfl rfl (t_K_plan x3 x4 r6 h5) (fun _ h7 => ?_)
    refine q_aload_n (pc := 28) (dq D_B_lineWorth_0_ok 14 rfl) rfl 0 rfl ?_
    refine q_aload_n (pc := 29) (dq D_B_lineWorth_0_ok 15 rfl) rfl 0 rfl ?_
    refine q_getR (pc := 30) (dq D_B_lineWorth_0_ok 16 rfl) fa_B_54 rfl (fun x9 => ?_)
    refine r_getI (pc := 33) (dq D_B_lineWorth_0_ok 17 rfl) fa_B_237 rfl (fun x10 => ?_)
    refine r_invI (Mc := M_B_grant) (pc := 36) (ci := 0) (rest := []) 0 1 [.int x10] (dq D_B_lineWorth_0_ok 18 rfl) rfl rfl lc_B_grant lv_B_grant_ ml_B_109 rfl rfl rfl rfl (t_B_grant v0 x10 h7) (fun r12 h11 => ?_)
    exact r_reti (pc := 39) (dq D_B_lineWorth_0_ok 19 rfl) rfl
  · refine q_aload_n (pc := 7) (dq D_B_lineWorth_0_ok 3 rfl) rfl 0 rfl ?_
    refine q_ic1 (pc := 8) (dq D_B_lineWorth_0_ok 4 rfl) ?_
    refine r_invI (Mc := M_B_refuse) (pc := 9) (ci := 0) (rest := []) 0 1 [.int 1] (dq D_B_lineWorth_0_ok 5 rfl) rfl rfl lc_B_refuse lv_B_refuse_ ml_B_87 rfl rfl rfl rfl (t_B_refuse v0 (1 : Int32) h1) (fun r14 h13 => ?_)
    exact r_reti (pc := 12) (dq D_B_lineWorth_0_ok 6 rfl) rfl
noncomputable def b_B_lineAt_15 (v0 : Nat) (h : Hp) : Option (Int32 × Hp) := gd (hS h v0 = some (.inl 0)) (bd (f_B_refuse v0 (1 : Int32) h) fun r2 h1 => some (r2, h1))
set_option maxHeartbeats 4000000 in
set_option maxRecDepth 20000 in
theorem tb_B_lineAt_15 {G : GG} (v0 : Nat) (h : Hp) : T G M_B_lineAt 11 cI 15 [(0, .ref v0)] [] h (b_B_lineAt_15 v0 h) := by
  unfold b_B_lineAt_15
  refine q_aload_n (pc := 15) (dq D_B_lineAt_0_ok 7 rfl) rfl 0 rfl ?_
  refine q_ic1 (pc := 16) (dq D_B_lineAt_0_ok 8 rfl) ?_
  refine r_invI (Mc := M_B_refuse) (pc := 17) (ci := 0) (rest := []) 0 1 [.int 1] (dq D_B_lineAt_0_ok 9 rfl) rfl rfl lc_B_refuse lv_B_refuse_ ml_B_87 rfl rfl rfl rfl (t_B_refuse v0 (1 : Int32) h) (fun r2 h1 => ?_)
  exact r_reti (pc := 20) (dq D_B_lineAt_0_ok 10 rfl) rfl
noncomputable def f_B_lineAt (v0 : Nat) (v1 : Int32) (h : Hp) : Option (Int32 × Hp) := if v1 < 0 then (b_B_lineAt_15 v0 h) else (gd (hS h v0 = some (.inl 0)) (bR (hR h v0 3) fun x1 => gd (hS h x1 = some (.inl 2)) (lt (hI h x1 6) fun x2 => if v1 < x2 then (gd (hS h v0 = some (.inl 0)) (bR (hR h v0 10) fun x3 => gd (hS h v0 = some (.inl 0)) (bR (hR h v0 3) fun x4 => gd (hS h v0 = some (.inl 0)) (bd (f_B_daysToCome v0 h) fun r6 h5 => gd (hS h5 x3 = some (.inl 7)) (bd (f_K_plan x3 x4 r6 h5) fun _ h7 => gd (hS h7 v0 = some (.inl 0)) (bR (hR h7 v0 10) fun x9 => gd (hS h7 x9 = some (.inl 7)) (bR (hR h7 x9 2) fun x10 => gd (ai h7 x10 0 v1) (lt (hI h7 x10 v1.toNatClampNeg) fun x11 => gd (hS h7 v0 = some (.inl 0)) (bd (f_B_grant v0 x11 h7) fun r13 h12 => some (r13, h12)))))))))) else (b_B_lineAt_15 v0 h))))
set_option maxHeartbeats 4000000 in
set_option maxRecDepth 20000 in
theorem t_B_lineAt {G : GG} (v0 : Nat) (v1 : Int32) (h : Hp) : Mt G M_B_lineAt 11 [.ref v0, .int v1] cI h (f_B_lineAt v0 v1 h) := by
  refine Mt.ofF (by decide +kernel) rfl (Rt.i rfl rfl) ?_
  show T G M_B_lineAt 11 cI 0 [(0, .ref v0), (1, .int v1)] [] h _
  unfold f_B_lineAt
  refine q_iload_n (pc := 0) (dq D_B_lineAt_0_ok 0 rfl) rfl 1 rfl ?_
  refine p_if_lt (pc := 1) 15 (dq D_B_lineAt_0_ok 1 rfl) rfl ?_ ?_
  · exact T.lsub [0] rfl (tb_B_lineAt_15 v0 h)
  · refine q_iload_n (pc := 4) (dq D_B_lineAt_0_ok 2 rfl) rfl 1 rfl ?_
    refine q_aload_n (pc := 5) (dq D_B_lineAt_0_ok 3 rfl) rfl 0 rfl ?_
    refine q_getR (pc := 6) (dq D_B_lineAt_0_ok 4 rfl) fa_B_23 rfl (fun x1 => ?_)
    refine r_getI (pc := 9) (dq D_B_lineAt_0_ok 5 rfl) fa_B_157 rfl (fun x2 => ?_)
    refine q_ic_lt (pc := 12) 21 (dq D_B_lineAt_0_ok 6 rfl) rfl ?_ ?_
    · refine q_aload_n (pc := 21) (dq D_B_lineAt_0_ok 11 rfl) rfl 0 rfl ?_
      refine q_getR (pc := 22) (dq D_B_lineAt_0_ok 12 rfl) fa_B_54 rfl (fun x3 => ?_)
      refine q_aload_n (pc := 25) (dq D_B_lineAt_0_ok 13 rfl) rfl 0 rfl ?_
      refine q_getR (pc := 26) (dq D_B_lineAt_0_ok 14 rfl) fa_B_23 rfl (fun x4 => ?_)
      refine q_aload_n (pc := 29) (dq D_B_lineAt_0_ok 15 rfl) rfl 0 rfl ?_
      refine r_invA (Mc := M_B_daysToCome) (pc := 30) (ci := 0) (rest := [.ref x4, .ref x3]) 4 0 [] (dq D_B_lineAt_0_ok 16 rfl) rfl rfl lc_B_daysToCome lv_B_daysToCome_ ml_B_192 rfl rfl rfl rfl (t_B_daysToCome v0 h) (fun r6 h5 => ?_)
      refine r_invU (Mc := M_K_plan) (pc := 33) (ci := 7) (rest := []) 10 2 [.ref x4, .ref r6] (dq D_B_lineAt_0_ok 17 rfl) rfl rfl lc_K_plan lv_K_plan_ ml_B_233 rfl rfl rfl rfl (t_K_plan x3 x4 r6 h5) (fun _ h7 => ?_)
      refine q_aload_n (pc := 36) (dq D_B_lineAt_0_ok 18 rfl) rfl 0 rfl ?_
      refine q_aload_n (pc := 37) (dq D_B_lineAt_0_ok 19 rfl) rfl 0 rfl ?_
      refine q_getR (pc := 38) (dq D_B_lineAt_0_ok 20 rfl) fa_B_54 rfl (fun x9 => ?_)
      refine q_getR (pc := 41) (dq D_B_lineAt_0_ok 21 rfl) fa_B_240 rfl (fun x10 => ?_)
      refine q_iload_n (pc := 44) (dq D_B_lineAt_0_ok 22 rfl) rfl 1 rfl ?_
      refine r_iald (pc := 45) (dq D_B_lineAt_0_ok 23 rfl) (fun x11 => ?_)
      refine r_invI (Mc := M_B_grant) (pc := 46) (ci := 0) (rest := []) 0 1 [.int x11] (dq D_B_lineAt_0_ok 24 rfl) rfl rfl lc_B_grant lv_B_grant_ ml_B_109 rfl rfl rfl rfl (t_B_grant v0 x11 h7) (fun r13 h12 => ?_)
      exact r_reti (pc := 49) (dq D_B_lineAt_0_ok 25 rfl) rfl
    · exact T.lsub [0] rfl (tb_B_lineAt_15 v0 h)
noncomputable def f_B_inTime (v0 : Nat) (h : Hp) : Option (Int32 × Hp) := gd (hS h v0 = some (.inl 0)) (bd (f_B_hasOrrery v0 h) fun r2 h1 => if r2 = 0 then (gd (hS h1 v0 = some (.inl 0)) (bd (f_B_refuse v0 (1 : Int32) h1) fun r14 h13 => some (r14, h13))) else (gd (hS h1 v0 = some (.inl 0)) (bR (hR h1 v0 10) fun x3 => gd (hS h1 v0 = some (.inl 0)) (bR (hR h1 v0 3) fun x4 => gd (hS h1 v0 = some (.inl 0)) (bd (f_B_daysToCome v0 h1) fun r6 h5 => gd (hS h5 x3 = some (.inl 7)) (bd (f_K_plan x3 x4 r6 h5) fun _ h7 => gd (hS h7 v0 = some (.inl 0)) (bR (hR h7 v0 10) fun x9 => gd (hS h7 x9 = some (.inl 7)) (lt (hI h7 x9 4) fun x10 => gd (hS h7 v0 = some (.inl 0)) (bd (f_B_grant v0 x10 h7) fun r12 h11 => some (r12, h11))))))))))
set_option maxHeartbeats 4000000 in
set_option maxRecDepth 20000 in
theorem t_B_inTime {G : GG} (v0 : Nat) (h : Hp) : Mt G M_B_inTime 11 [.ref v0] cI h (f_B_inTime v0 h) := by
  refine Mt.ofF (by decide +kernel) rfl (Rt.i rfl rfl) ?_
  show T G M_B_inTime 11 cI 0 [(0, .ref v0)] [] h _
  unfold f_B_inTime
  refine q_aload_n (pc := 0) (dq D_B_inTime_0_ok 0 rfl) rfl 0 rfl ?_
  refine r_invI (Mc := M_B_hasOrrery) (pc := 1) (ci := 0) (rest := []) 0 0 [] (dq D_B_inTime_0_ok 1 rfl) rfl rfl lc_B_hasOrrery lv_B_hasOrrery_ ml_B_149 rfl rfl rfl rfl (t_B_hasOrrery v0 h) (fun r2 h1 => ?_)
  refine p_if_ne (pc := 4) 13 (dq D_B_inTime_0_ok 2 rfl) rfl ?_ ?_
  · refine q_aload_n (pc := 13) (dq D_B_inTime_0_ok 7 rfl) rfl 0 rfl ?_
    refine q_getR (pc := 14) (dq D_B_inTime_0_ok 8 rfl) fa_B_54 rfl (fun x3 => ?_)
    refine q_aload_n (pc := 17) (dq D_B_inTime_0_ok 9 rfl) rfl 0 rfl ?_
    refine q_getR (pc := 18) (dq D_B_inTime_0_ok 10 rfl) fa_B_23 rfl (fun x4 => ?_)
    refine q_aload_n (pc := 21) (dq D_B_inTime_0_ok 11 rfl) rfl 0 rfl ?_
    refine r_invA (Mc := M_B_daysToCome) (pc := 22) (ci := 0) (rest := [.ref x4, .ref x3]) 4 0 [] (dq D_B_inTime_0_ok 12 rfl) rfl rfl lc_B_daysToCome lv_B_daysToCome_ ml_B_192 rfl rfl rfl rfl (t_B_daysToCome v0 h1) (fun r6 h5 => ?_)
    refine r_invU (Mc := M_K_plan) (pc := 25) (ci := 7) (rest := []) 10 2 [.ref x4, .ref r6] (dq D_B_inTime_0_ok 13 rfl) rfl rfl lc_K_plan lv_K_plan_ ml_B_233 rfl rfl rfl rfl (t_K_plan x3 x4 r6 h5) (fun _ h7 => ?_)
    refine q_aload_n (pc := 28) (dq D_B_inTime_0_ok 14 rfl) rfl 0 rfl ?_
    refine q_aload_n (pc := 29) (dq D_B_inTime_0_ok 15 rfl) rfl 0 rfl ?_
    refine q_getR (pc := 30) (dq D_B_inTime_0_ok 16 rfl) fa_B_54 rfl (fun x9 => ?_)
    refine r_getI (pc := 33) (dq D_B_inTime_0_ok 17 rfl) fa_B_243 rfl (fun x10 => ?_)
    refine r_invI (Mc := M_B_grant) (pc := 36) (ci := 0) (rest := []) 0 1 [.int x10] (dq D_B_inTime_0_ok 18 rfl) rfl rfl lc_B_grant lv_B_grant_ ml_B_109 rfl rfl rfl rfl (t_B_grant v0 x10 h7) (fun r12 h11 => ?_)
    exact r_reti (pc := 39) (dq D_B_inTime_0_ok 19 rfl) rfl
  · refine q_aload_n (pc := 7) (dq D_B_inTime_0_ok 3 rfl) rfl 0 rfl ?_
    refine q_ic1 (pc := 8) (dq D_B_inTime_0_ok 4 rfl) ?_
    refine r_invI (Mc := M_B_refuse) (pc := 9) (ci := 0) (rest := []) 0 1 [.int 1] (dq D_B_inTime_0_ok 5 rfl) rfl rfl lc_B_refuse lv_B_refuse_ ml_B_87 rfl rfl rfl rfl (t_B_refuse v0 (1 : Int32) h1) (fun r14 h13 => ?_)
    exact r_reti (pc := 12) (dq D_B_inTime_0_ok 6 rfl) rfl
noncomputable def f_C_agreeingFrom (v0 : Nat) (v1 : Int32) (v2 : Int32) (h : Hp) : Option (Int32 × Hp) := gd (hS h v0 = some (.inl 5)) (bd (f_C_firstDay v0 v1 v1 (1 : Int32) v2 (5000 : Int32) h) fun r2 h1 => some (r2, h1))
set_option maxHeartbeats 4000000 in
set_option maxRecDepth 20000 in
theorem t_C_agreeingFrom {G : GG} (v0 : Nat) (v1 : Int32) (v2 : Int32) (h : Hp) : Mt G M_C_agreeingFrom 5 [.ref v0, .int v1, .int v2] cI h (f_C_agreeingFrom v0 v1 v2 h) := by
  refine Mt.ofF (by decide +kernel) rfl (Rt.i rfl rfl) ?_
  show T G M_C_agreeingFrom 5 cI 0 [(0, .ref v0), (1, .int v1), (2, .int v2)] [] h _
  unfold f_C_agreeingFrom
  refine q_aload_n (pc := 0) (dq D_C_agreeingFrom_0_ok 0 rfl) rfl 0 rfl ?_
  refine q_iload_n (pc := 1) (dq D_C_agreeingFrom_0_ok 1 rfl) rfl 1 rfl ?_
  refine q_iload_n (pc := 2) (dq D_C_agreeingFrom_0_ok 2 rfl) rfl 1 rfl ?_
  refine q_ic1 (pc := 3) (dq D_C_agreeingFrom_0_ok 3 rfl) ?_
  refine q_iload_n (pc := 4) (dq D_C_agreeingFrom_0_ok 4 rfl) rfl 2 rfl ?_
  refine q_sipush (pc := 5) (v := 5000) (dq D_C_agreeingFrom_0_ok 5 rfl) (by decide) ?_
  refine r_invI (Mc := M_C_firstDay) (pc := 8) (ci := 5) (rest := []) 4 5 [.int v1, .int v1, .int 1, .int v2, .int 5000] (dq D_C_agreeingFrom_0_ok 6 rfl) rfl rfl lc_C_firstDay lv_C_firstDay_ ml_C_60 rfl rfl rfl rfl (t_C_firstDay v0 v1 v1 (1 : Int32) v2 (5000 : Int32) h) (fun r2 h1 => ?_)
  exact r_reti (pc := 11) (dq D_C_agreeingFrom_0_ok 7 rfl) rfl
noncomputable def f_B_agree (v0 : Nat) (v1 : Int32) (h : Hp) : Option (Int32 × Hp) := gd (hS h v0 = some (.inl 0)) (bd (f_B_hasFeast v0 v1 h) fun r2 h1 => if r2 = 0 then (gd (hS h1 v0 = some (.inl 0)) (bd (f_B_refuse v0 (1 : Int32) h1) fun r15 h14 => some (r15, h14))) else (gd (hS h1 v0 = some (.inl 0)) (bR (hR h1 v0 3) fun x3 => gd (hS h1 x3 = some (.inl 2)) (bd (f_O_hasSky x3 v1 h1) fun r5 h4 => if r5 = 0 then (gd (hS h4 v0 = some (.inl 0)) (bd (f_B_refuse v0 (6 : Int32) h4) fun r13 h12 => some (r13, h12))) else (gd (hS h4 v0 = some (.inl 0)) (bd (f_B_daysToCome v0 h4) fun r7 h6 => gd (hS h6 r7 = some (.inl 5)) (bd (f_C_agreeingFrom r7 v1 (0 : Int32) h6) fun r9 h8 => gd (hS h8 v0 = some (.inl 0)) (bd (f_B_grant v0 r9 h8) fun r11 h10 => some (r11, h10)))))))))
set_option maxHeartbeats 4000000 in
set_option maxRecDepth 20000 in
theorem t_B_agree {G : GG} (v0 : Nat) (v1 : Int32) (h : Hp) : Mt G M_B_agree 6 [.ref v0, .int v1] cI h (f_B_agree v0 v1 h) := by
  refine Mt.ofF (by decide +kernel) rfl (Rt.i rfl rfl) ?_
  show T G M_B_agree 6 cI 0 [(0, .ref v0), (1, .int v1)] [] h _
  unfold f_B_agree
  refine q_aload_n (pc := 0) (dq D_B_agree_0_ok 0 rfl) rfl 0 rfl ?_
  refine q_iload_n (pc := 1) (dq D_B_agree_0_ok 1 rfl) rfl 1 rfl ?_
  refine r_invI (Mc := M_B_hasFeast) (pc := 2) (ci := 0) (rest := []) 0 1 [.int v1] (dq D_B_agree_0_ok 2 rfl) rfl rfl lc_B_hasFeast lv_B_hasFeast_ ml_B_189 rfl rfl rfl rfl (t_B_hasFeast v0 v1 h) (fun r2 h1 => ?_)
  refine p_if_ne (pc := 5) 14 (dq D_B_agree_0_ok 3 rfl) rfl ?_ ?_
  · refine q_aload_n (pc := 14) (dq D_B_agree_0_ok 8 rfl) rfl 0 rfl ?_
    refine q_getR (pc := 15) (dq D_B_agree_0_ok 9 rfl) fa_B_23 rfl (fun x3 => ?_)
    refine q_iload_n (pc := 18) (dq D_B_agree_0_ok 10 rfl) rfl 1 rfl ?_
    refine r_invI (Mc := M_O_hasSky) (pc := 19) (ci := 2) (rest := []) 0 1 [.int v1] (dq D_B_agree_0_ok 11 rfl) rfl rfl lc_O_hasSky lv_O_hasSky_ ml_B_246 rfl rfl rfl rfl (t_O_hasSky x3 v1 h1) (fun r5 h4 => ?_)
    refine p_if_ne (pc := 22) 32 (dq D_B_agree_0_ok 12 rfl) rfl ?_ ?_
    · refine q_aload_n (pc := 32) (dq D_B_agree_0_ok 17 rfl) rfl 0 rfl ?_
      refine q_aload_n (pc := 33) (dq D_B_agree_0_ok 18 rfl) rfl 0 rfl ?_
      refine r_invA (Mc := M_B_daysToCome) (pc := 34) (ci := 0) (rest := [.ref v0]) 4 0 [] (dq D_B_agree_0_ok 19 rfl) rfl rfl lc_B_daysToCome lv_B_daysToCome_ ml_B_192 rfl rfl rfl rfl (t_B_daysToCome v0 h4) (fun r7 h6 => ?_)
      refine q_iload_n (pc := 37) (dq D_B_agree_0_ok 20 rfl) rfl 1 rfl ?_
      refine q_ic0 (pc := 38) (dq D_B_agree_0_ok 21 rfl) ?_
      refine r_invI (Mc := M_C_agreeingFrom) (pc := 39) (ci := 5) (rest := [.ref v0]) 5 2 [.int v1, .int 0] (dq D_B_agree_0_ok 22 rfl) rfl rfl lc_C_agreeingFrom lv_C_agreeingFrom_ ml_B_249 rfl rfl rfl rfl (t_C_agreeingFrom r7 v1 (0 : Int32) h6) (fun r9 h8 => ?_)
      refine r_invI (Mc := M_B_grant) (pc := 42) (ci := 0) (rest := []) 0 1 [.int r9] (dq D_B_agree_0_ok 23 rfl) rfl rfl lc_B_grant lv_B_grant_ ml_B_109 rfl rfl rfl rfl (t_B_grant v0 r9 h8) (fun r11 h10 => ?_)
      exact r_reti (pc := 45) (dq D_B_agree_0_ok 24 rfl) rfl
    · refine q_aload_n (pc := 25) (dq D_B_agree_0_ok 13 rfl) rfl 0 rfl ?_
      refine q_bipush (pc := 26) (v := 6) (dq D_B_agree_0_ok 14 rfl) (by decide) ?_
      refine r_invI (Mc := M_B_refuse) (pc := 28) (ci := 0) (rest := []) 0 1 [.int 6] (dq D_B_agree_0_ok 15 rfl) rfl rfl lc_B_refuse lv_B_refuse_ ml_B_87 rfl rfl rfl rfl (t_B_refuse v0 (6 : Int32) h4) (fun r13 h12 => ?_)
      exact r_reti (pc := 31) (dq D_B_agree_0_ok 16 rfl) rfl
  · refine q_aload_n (pc := 8) (dq D_B_agree_0_ok 4 rfl) rfl 0 rfl ?_
    refine q_ic1 (pc := 9) (dq D_B_agree_0_ok 5 rfl) ?_
    refine r_invI (Mc := M_B_refuse) (pc := 10) (ci := 0) (rest := []) 0 1 [.int 1] (dq D_B_agree_0_ok 6 rfl) rfl rfl lc_B_refuse lv_B_refuse_ ml_B_87 rfl rfl rfl rfl (t_B_refuse v0 (1 : Int32) h1) (fun r15 h14 => ?_)
    exact r_reti (pc := 13) (dq D_B_agree_0_ok 7 rfl) rfl
noncomputable def f_O_daysFromSky (v0 : Nat) (v1 : Int32) (v2 : Int32) (h : Hp) : Option (Int32 × Hp) := gd (hS h v0 = some (.inl 2)) (bd (f_O_daysToSky v0 v1 v2 h) fun r2 h1 => gd (hS h1 v0 = some (.inl 2)) (bR (hR h1 v0 11) fun x3 => gd (ai h1 x3 0 v1) (lt (hI h1 x3 v1.toNatClampNeg) fun x4 => if x4 < v2 then (gd (hS h1 v0 = some (.inl 2)) (bR (hR h1 v0 11) fun x5 => gd (ai h1 x5 0 v1) (lt (hI h1 x5 v1.toNatClampNeg) fun x6 => gd (hS h1 v0 = some (.inl 2)) (bR (hR h1 v0 10) fun x7 => gd (ai h1 x7 0 v1) (lt (hI h1 x7 v1.toNatClampNeg) fun x8 => bd (f_B_remainder (v2 - x6) x8 h1) fun r10 h9 => bd (f_Math_min r2 r10 h9) fun r12 h11 => some (r12, h11)))))) else (some (r2, h1)))))
set_option maxHeartbeats 4000000 in
set_option maxRecDepth 20000 in
theorem t_O_daysFromSky {G : GG} (v0 : Nat) (v1 : Int32) (v2 : Int32) (h : Hp) : Mt G M_O_daysFromSky 2 [.ref v0, .int v1, .int v2] cI h (f_O_daysFromSky v0 v1 v2 h) := by
  refine Mt.ofF (by decide +kernel) rfl (Rt.i rfl rfl) ?_
  show T G M_O_daysFromSky 2 cI 0 [(0, .ref v0), (1, .int v1), (2, .int v2)] [] h _
  unfold f_O_daysFromSky
  refine q_aload_n (pc := 0) (dq D_O_daysFromSky_0_ok 0 rfl) rfl 0 rfl ?_
  refine q_iload_n (pc := 1) (dq D_O_daysFromSky_0_ok 1 rfl) rfl 1 rfl ?_
  refine q_iload_n (pc := 2) (dq D_O_daysFromSky_0_ok 2 rfl) rfl 2 rfl ?_
  refine r_invI (Mc := M_O_daysToSky) (pc := 3) (ci := 2) (rest := []) 1 2 [.int v1, .int v2] (dq D_O_daysFromSky_0_ok 3 rfl) rfl rfl lc_O_daysToSky lv_O_daysToSky_ ml_O_93 rfl rfl rfl rfl (t_O_daysToSky v0 v1 v2 h) (fun r2 h1 => ?_)
  refine q_istore_n (pc := 6) (ls' := [(3, .int r2), (0, .ref v0), (1, .int v1), (2, .int v2)]) (dq D_O_daysFromSky_0_ok 4 rfl) rfl rfl rfl ?_
  refine q_iload_n (pc := 7) (dq D_O_daysFromSky_0_ok 5 rfl) rfl 3 rfl ?_
  refine q_aload_n (pc := 8) (dq D_O_daysFromSky_0_ok 6 rfl) rfl 1 rfl ?_
  refine q_getR (pc := 9) (dq D_O_daysFromSky_0_ok 7 rfl) fa_O_33 rfl (fun x3 => ?_)
  refine q_iload_n (pc := 12) (dq D_O_daysFromSky_0_ok 8 rfl) rfl 2 rfl ?_
  refine r_iald (pc := 13) (dq D_O_daysFromSky_0_ok 9 rfl) (fun x4 => ?_)
  refine q_ic_gt (pc := 14) 19 (dq D_O_daysFromSky_0_ok 10 rfl) rfl ?_ ?_
  · refine q_iload_n (pc := 19) (dq D_O_daysFromSky_0_ok 13 rfl) rfl 0 rfl ?_
    refine q_iload_n (pc := 20) (dq D_O_daysFromSky_0_ok 14 rfl) rfl 3 rfl ?_
    refine q_aload_n (pc := 21) (dq D_O_daysFromSky_0_ok 15 rfl) rfl 1 rfl ?_
    refine q_getR (pc := 22) (dq D_O_daysFromSky_0_ok 16 rfl) fa_O_33 rfl (fun x5 => ?_)
    refine q_iload_n (pc := 25) (dq D_O_daysFromSky_0_ok 17 rfl) rfl 2 rfl ?_
    refine r_iald (pc := 26) (dq D_O_daysFromSky_0_ok 18 rfl) (fun x6 => ?_)
    refine q_isub (pc := 27) (dq D_O_daysFromSky_0_ok 19 rfl) ?_
    refine q_aload_n (pc := 28) (dq D_O_daysFromSky_0_ok 20 rfl) rfl 1 rfl ?_
    refine q_getR (pc := 29) (dq D_O_daysFromSky_0_ok 21 rfl) fa_O_30 rfl (fun x7 => ?_)
    refine q_iload_n (pc := 32) (dq D_O_daysFromSky_0_ok 22 rfl) rfl 2 rfl ?_
    refine r_iald (pc := 33) (dq D_O_daysFromSky_0_ok 23 rfl) (fun x8 => ?_)
    refine r_insI (Mc := M_B_remainder) (pc := 34) (rest := [.int r2]) 0 2 [.int (v2 - x6), .int x8] (dq D_O_daysFromSky_0_ok 24 rfl) lc_B_remainder ls_B_remainder ml_O_90 rfl rfl rfl rfl (t_B_remainder (v2 - x6) x8 h1) (fun r10 h9 => ?_)
    refine r_insI (Mc := M_Math_min) (pc := 37) (rest := []) 0 2 [.int r2, .int r10] (dq D_O_daysFromSky_0_ok 25 rfl) lc_Math_min ls_Math_min ml_O_96 rfl rfl rfl rfl (t_Math_min r2 r10 h9) (fun r12 h11 => ?_)
    exact r_reti (pc := 40) (dq D_O_daysFromSky_0_ok 26 rfl) rfl
  · refine q_iload_n (pc := 17) (dq D_O_daysFromSky_0_ok 11 rfl) rfl 0 rfl ?_
    exact r_reti (pc := 18) (dq D_O_daysFromSky_0_ok 12 rfl) rfl
noncomputable def b_B_drift_73 (s0 : Int32) (s1 : Nat) (h : Hp) : Option (Int32 × Hp) := gd (hS h s1 = some (.inl 0)) (bd (f_B_grant s1 s0 h) fun r2 h1 => some (r2, h1))
set_option maxHeartbeats 4000000 in
set_option maxRecDepth 20000 in
theorem tb_B_drift_73 {G : GG} (s0 : Int32) (s1 : Nat) (h : Hp) : T G M_B_drift 6 cI 73 [] [.int s0, .ref s1] h (b_B_drift_73 s0 s1 h) := by
  unfold b_B_drift_73
  refine r_invI (Mc := M_B_grant) (pc := 73) (ci := 0) (rest := []) 0 1 [.int s0] (dq D_B_drift_0_ok 40 rfl) rfl rfl lc_B_grant lv_B_grant_ ml_B_109 rfl rfl rfl rfl (t_B_grant s1 s0 h) (fun r2 h1 => ?_)
  exact r_reti (pc := 76) (dq D_B_drift_0_ok 41 rfl) rfl
noncomputable def f_B_drift (v0 : Nat) (v1 : Int32) (h : Hp) : Option (Int32 × Hp) := gd (hS h v0 = some (.inl 0)) (bd (f_B_hasFeast v0 v1 h) fun r2 h1 => if r2 = 0 then (gd (hS h1 v0 = some (.inl 0)) (bd (f_B_refuse v0 (1 : Int32) h1) fun r18 h17 => some (r18, h17))) else (gd (hS h1 v0 = some (.inl 0)) (bR (hR h1 v0 3) fun x3 => gd (hS h1 x3 = some (.inl 2)) (bd (f_O_hasSky x3 v1 h1) fun r5 h4 => if r5 = 0 then (gd (hS h4 v0 = some (.inl 0)) (bd (f_B_refuse v0 (6 : Int32) h4) fun r16 h15 => some (r16, h15))) else (gd (hS h4 v0 = some (.inl 0)) (bd (f_B_daysToCome v0 h4) fun r7 h6 => gd (hS h6 r7 = some (.inl 5)) (bd (f_C_feastFrom r7 v1 (1 : Int32) (5000 : Int32) h6) fun r9 h8 => if r9 = ((-2)) then (b_B_drift_73 ((-2)) v0 h8) else (gd (hS h8 v0 = some (.inl 0)) (bR (hR h8 v0 3) fun x10 => gd (hS h8 v0 = some (.inl 0)) (bR (hR h8 v0 5) fun x11 => gd (ai h8 x11 0 0) (lt (hI h8 x11 (0 : Int32).toNatClampNeg) fun x12 => gd (hS h8 x10 = some (.inl 2)) (bd (f_O_daysFromSky x10 v1 (x12 + r9) h8) fun r14 h13 => b_B_drift_73 r14 v0 h13))))))))))))
set_option maxHeartbeats 4000000 in
set_option maxRecDepth 20000 in
theorem t_B_drift {G : GG} (v0 : Nat) (v1 : Int32) (h : Hp) : Mt G M_B_drift 6 [.ref v0, .int v1] cI h (f_B_drift v0 v1 h) := by
  refine Mt.ofF (by decide +kernel) rfl (Rt.i rfl rfl) ?_
  show T G M_B_drift 6 cI 0 [(0, .ref v0), (1, .int v1)] [] h _
  unfold f_B_drift
  refine q_aload_n (pc := 0) (dq D_B_drift_0_ok 0 rfl) rfl 0 rfl ?_
  refine q_iload_n (pc := 1) (dq D_B_drift_0_ok 1 rfl) rfl 1 rfl ?_
  refine r_invI (Mc := M_B_hasFeast) (pc := 2) (ci := 0) (rest := []) 0 1 [.int v1] (dq D_B_drift_0_ok 2 rfl) rfl rfl lc_B_hasFeast lv_B_hasFeast_ ml_B_189 rfl rfl rfl rfl (t_B_hasFeast v0 v1 h) (fun r2 h1 => ?_)
  refine p_if_ne (pc := 5) 14 (dq D_B_drift_0_ok 3 rfl) rfl ?_ ?_
  · refine q_aload_n (pc := 14) (dq D_B_drift_0_ok 8 rfl) rfl 0 rfl ?_
    refine q_getR (pc := 15) (dq D_B_drift_0_ok 9 rfl) fa_B_23 rfl (fun x3 => ?_)
    refine q_iload_n (pc := 18) (dq D_B_drift_0_ok 10 rfl) rfl 1 rfl ?_
    refine r_invI (Mc := M_O_hasSky) (pc := 19) (ci := 2) (rest := []) 0 1 [.int v1] (dq D_B_drift_0_ok 11 rfl) rfl rfl lc_O_hasSky lv_O_hasSky_ ml_B_246 rfl rfl rfl rfl (t_O_hasSky x3 v1 h1) (fun r5 h4 => ?_)
    refine p_if_ne (pc := 22) 32 (dq D_B_drift_0_ok 12 rfl) rfl ?_ ?_
    · refine q_aload_n (pc := 32) (dq D_B_drift_0_ok 17 rfl) rfl 0 rfl ?_
      refine r_invA (Mc := M_B_daysToCome) (pc := 33) (ci := 0) (rest := []) 4 0 [] (dq D_B_drift_0_ok 18 rfl) rfl rfl lc_B_daysToCome lv_B_daysToCome_ ml_B_192 rfl rfl rfl rfl (t_B_daysToCome v0 h4) (fun r7 h6 => ?_)
      refine q_iload_n (pc := 36) (dq D_B_drift_0_ok 19 rfl) rfl 1 rfl ?_
      refine q_ic1 (pc := 37) (dq D_B_drift_0_ok 20 rfl) ?_
      refine q_sipush (pc := 38) (v := 5000) (dq D_B_drift_0_ok 21 rfl) (by decide) ?_
      refine r_invI (Mc := M_C_feastFrom) (pc := 41) (ci := 5) (rest := []) 5 3 [.int v1, .int 1, .int 5000] (dq D_B_drift_0_ok 22 rfl) rfl rfl lc_C_feastFrom lv_C_feastFrom_ ml_B_196 rfl rfl rfl rfl (t_C_feastFrom r7 v1 (1 : Int32) (5000 : Int32) h6) (fun r9 h8 => ?_)
      refine q_istore_n (pc := 44) (ls' := [(2, .int r9), (0, .ref v0), (1, .int v1)]) (dq D_B_drift_0_ok 23 rfl) rfl rfl rfl ?_
      refine q_aload_n (pc := 45) (dq D_B_drift_0_ok 24 rfl) rfl 1 rfl ?_
      refine q_iload_n (pc := 46) (dq D_B_drift_0_ok 25 rfl) rfl 0 rfl ?_
      refine q_bipush (pc := 47) (v := (-2)) (dq D_B_drift_0_ok 26 rfl) (by decide) ?_
      refine q_ic_ne (pc := 49) 57 (dq D_B_drift_0_ok 27 rfl) rfl ?_ ?_
      · refine q_aload_n (pc := 57) (dq D_B_drift_0_ok 30 rfl) rfl 1 rfl ?_
        refine q_getR (pc := 58) (dq D_B_drift_0_ok 31 rfl) fa_B_23 rfl (fun x10 => ?_)
        refine q_iload_n (pc := 61) (dq D_B_drift_0_ok 32 rfl) rfl 2 rfl ?_
        refine q_aload_n (pc := 62) (dq D_B_drift_0_ok 33 rfl) rfl 1 rfl ?_
        refine q_getR (pc := 63) (dq D_B_drift_0_ok 34 rfl) fa_B_30 rfl (fun x11 => ?_)
        refine q_ic0 (pc := 66) (dq D_B_drift_0_ok 35 rfl) ?_
        refine r_iald (pc := 67) (dq D_B_drift_0_ok 36 rfl) (fun x12 => ?_)
        refine q_iload_n (pc := 68) (dq D_B_drift_0_ok 37 rfl) rfl 0 rfl ?_
        refine q_iadd (pc := 69) (dq D_B_drift_0_ok 38 rfl) ?_
        refine r_invI (Mc := M_O_daysFromSky) (pc := 70) (ci := 2) (rest := [.ref v0]) 2 2 [.int v1, .int (x12 + r9)] (dq D_B_drift_0_ok 39 rfl) rfl rfl lc_O_daysFromSky lv_O_daysFromSky_ ml_B_252 rfl rfl rfl rfl (t_O_daysFromSky x10 v1 (x12 + r9) h8) (fun r14 h13 => ?_)
        exact T.lsub [] rfl (tb_B_drift_73 r14 v0 h13)
      · refine q_bipush (pc := 52) (v := (-2)) (dq D_B_drift_0_ok 28 rfl) (by decide) ?_
        refine q_goto (pc := 54) 73 (dq D_B_drift_0_ok 29 rfl) rfl ?_
        exact T.lsub [] rfl (tb_B_drift_73 ((-2)) v0 h8)
    · refine q_aload_n (pc := 25) (dq D_B_drift_0_ok 13 rfl) rfl 0 rfl ?_
      refine q_bipush (pc := 26) (v := 6) (dq D_B_drift_0_ok 14 rfl) (by decide) ?_
      refine r_invI (Mc := M_B_refuse) (pc := 28) (ci := 0) (rest := []) 0 1 [.int 6] (dq D_B_drift_0_ok 15 rfl) rfl rfl lc_B_refuse lv_B_refuse_ ml_B_87 rfl rfl rfl rfl (t_B_refuse v0 (6 : Int32) h4) (fun r16 h15 => ?_)
      exact r_reti (pc := 31) (dq D_B_drift_0_ok 16 rfl) rfl
  · refine q_aload_n (pc := 8) (dq D_B_drift_0_ok 4 rfl) rfl 0 rfl ?_
    refine q_ic1 (pc := 9) (dq D_B_drift_0_ok 5 rfl) ?_
    refine r_invI (Mc := M_B_refuse) (pc := 10) (ci := 0) (rest := []) 0 1 [.int 1] (dq D_B_drift_0_ok 6 rfl) rfl rfl lc_B_refuse lv_B_refuse_ ml_B_87 rfl rfl rfl rfl (t_B_refuse v0 (1 : Int32) h1) (fun r18 h17 => ?_)
    exact r_reti (pc := 13) (dq D_B_drift_0_ok 7 rfl) rfl
noncomputable def f_B_suspectTrouble (v0 : Nat) (h : Hp) : Option (Int32 × Hp) := gd (hS h v0 = some (.inl 0)) (bd (f_B_hasOrrery v0 h) fun r2 h1 => if r2 = 0 then (some (1, h1)) else (gd (hS h1 v0 = some (.inl 0)) (bR (hR h1 v0 3) fun x3 => gd (hS h1 x3 = some (.inl 2)) (lt (hI h1 x3 12) fun x4 => if x4 = ((-1)) then (some (6, h1)) else (some (0, h1))))))
set_option maxHeartbeats 4000000 in
set_option maxRecDepth 20000 in
theorem t_B_suspectTrouble {G : GG} (v0 : Nat) (h : Hp) : Mt G M_B_suspectTrouble 1 [.ref v0] cI h (f_B_suspectTrouble v0 h) := by
  refine Mt.ofF (by decide +kernel) rfl (Rt.i rfl rfl) ?_
  show T G M_B_suspectTrouble 1 cI 0 [(0, .ref v0)] [] h _
  unfold f_B_suspectTrouble
  refine q_aload_n (pc := 0) (dq D_B_suspectTrouble_0_ok 0 rfl) rfl 0 rfl ?_
  refine r_invI (Mc := M_B_hasOrrery) (pc := 1) (ci := 0) (rest := []) 0 0 [] (dq D_B_suspectTrouble_0_ok 1 rfl) rfl rfl lc_B_hasOrrery lv_B_hasOrrery_ ml_B_149 rfl rfl rfl rfl (t_B_hasOrrery v0 h) (fun r2 h1 => ?_)
  refine p_if_ne (pc := 4) 9 (dq D_B_suspectTrouble_0_ok 2 rfl) rfl ?_ ?_
  · refine q_aload_n (pc := 9) (dq D_B_suspectTrouble_0_ok 5 rfl) rfl 0 rfl ?_
    refine q_getR (pc := 10) (dq D_B_suspectTrouble_0_ok 6 rfl) fa_B_23 rfl (fun x3 => ?_)
    refine r_getI (pc := 13) (dq D_B_suspectTrouble_0_ok 7 rfl) fa_B_268 rfl (fun x4 => ?_)
    refine q_icm1 (pc := 16) (dq D_B_suspectTrouble_0_ok 8 rfl) ?_
    refine q_ic_ne (pc := 17) 25 (dq D_B_suspectTrouble_0_ok 9 rfl) rfl ?_ ?_
    · refine q_ic0 (pc := 25) (dq D_B_suspectTrouble_0_ok 12 rfl) ?_
      exact r_reti (pc := 26) (dq D_B_suspectTrouble_0_ok 13 rfl) rfl
    · refine q_bipush (pc := 20) (v := 6) (dq D_B_suspectTrouble_0_ok 10 rfl) (by decide) ?_
      refine q_goto (pc := 22) 26 (dq D_B_suspectTrouble_0_ok 11 rfl) rfl ?_
      exact r_reti (pc := 26) (dq D_B_suspectTrouble_0_ok 13 rfl) rfl
  · refine q_ic1 (pc := 7) (dq D_B_suspectTrouble_0_ok 3 rfl) ?_
    exact r_reti (pc := 8) (dq D_B_suspectTrouble_0_ok 4 rfl) rfl
noncomputable def b_W_goesOn_32 (h : Hp) : Option (Int32 × Hp) := gd (zb 1) (some (1, h))
set_option maxHeartbeats 4000000 in
set_option maxRecDepth 20000 in
theorem tb_W_goesOn_32 {G : GG} (h : Hp) : T G M_W_goesOn 0 cI 32 [] [] h (b_W_goesOn_32 h) := by
  unfold b_W_goesOn_32
  refine q_ic1 (pc := 32) (dq D_W_goesOn_0_ok 18 rfl) ?_
  refine q_goto (pc := 33) 37 (dq D_W_goesOn_0_ok 19 rfl) rfl ?_
  exact r_retz (pc := 37) (dq D_W_goesOn_0_ok 21 rfl) rfl
noncomputable def f_W_goesOn (v0 : Nat) (v1 : Int32) (v2 : Int32) (h : Hp) : Option (Int32 × Hp) := gd (hS h v0 = some (.inl 3)) (lt (hI h v0 0) fun x1 => if x1 = 2 then (if v2 ≤ 0 then (gd (zb 0) (some (0, h))) else (gd (zb 1) (some (1, h)))) else (gd (hS h v0 = some (.inl 3)) (lt (hI h v0 0) fun x2 => if x2 = 3 then (if (v1 &&& 1) = 0 then (b_W_goesOn_32 h) else (gd (zb 0) (some (0, h)))) else (b_W_goesOn_32 h))))
set_option maxHeartbeats 4000000 in
set_option maxRecDepth 20000 in
theorem t_W_goesOn {G : GG} (v0 : Nat) (v1 : Int32) (v2 : Int32) (h : Hp) : Mt G M_W_goesOn 0 [.ref v0, .int v1, .int v2] cI h (f_W_goesOn v0 v1 v2 h) := by
  refine Mt.ofF (by decide +kernel) rfl (Rt.z rfl rfl) ?_
  show T G M_W_goesOn 0 cI 0 [(0, .ref v0), (1, .int v1), (2, .int v2)] [] h _
  unfold f_W_goesOn
  refine q_aload_n (pc := 0) (dq D_W_goesOn_0_ok 0 rfl) rfl 0 rfl ?_
  refine r_getI (pc := 1) (dq D_W_goesOn_0_ok 1 rfl) fa_W_9 rfl (fun x1 => ?_)
  refine q_ic2 (pc := 4) (dq D_W_goesOn_0_ok 2 rfl) ?_
  refine q_ic_ne (pc := 5) 18 (dq D_W_goesOn_0_ok 3 rfl) rfl ?_ ?_
  · refine q_aload_n (pc := 18) (dq D_W_goesOn_0_ok 10 rfl) rfl 0 rfl ?_
    refine r_getI (pc := 19) (dq D_W_goesOn_0_ok 11 rfl) fa_W_9 rfl (fun x2 => ?_)
    refine q_ic3 (pc := 22) (dq D_W_goesOn_0_ok 12 rfl) ?_
    refine q_ic_ne (pc := 23) 32 (dq D_W_goesOn_0_ok 13 rfl) rfl ?_ ?_
    · exact T.lsub [] rfl (tb_W_goesOn_32 h)
    · refine q_iload_n (pc := 26) (dq D_W_goesOn_0_ok 14 rfl) rfl 1 rfl ?_
      refine q_ic1 (pc := 27) (dq D_W_goesOn_0_ok 15 rfl) ?_
      refine q_iand (pc := 28) (dq D_W_goesOn_0_ok 16 rfl) ?_
      refine p_if_ne (pc := 29) 36 (dq D_W_goesOn_0_ok 17 rfl) rfl ?_ ?_
      · refine q_ic0 (pc := 36) (dq D_W_goesOn_0_ok 20 rfl) ?_
        exact r_retz (pc := 37) (dq D_W_goesOn_0_ok 21 rfl) rfl
      · exact T.lsub [] rfl (tb_W_goesOn_32 h)
  · refine q_iload_n (pc := 8) (dq D_W_goesOn_0_ok 4 rfl) rfl 2 rfl ?_
    refine p_if_le (pc := 9) 16 (dq D_W_goesOn_0_ok 5 rfl) rfl ?_ ?_
    · refine q_ic0 (pc := 16) (dq D_W_goesOn_0_ok 8 rfl) ?_
      exact r_retz (pc := 17) (dq D_W_goesOn_0_ok 9 rfl) rfl
    · refine q_ic1 (pc := 12) (dq D_W_goesOn_0_ok 6 rfl) ?_
      refine q_goto (pc := 13) 17 (dq D_W_goesOn_0_ok 7 rfl) rfl ?_
      exact r_retz (pc := 17) (dq D_W_goesOn_0_ok 9 rfl) rfl
noncomputable def f_S_recordJerk (v0 : Nat) (v1 : Int32) (v2 : Int32) (h : Hp) : Option (Unit × Hp) := if 50 ≤ v2 then (gd (hS h v0 = some (.inl 8)) (bR (hR h v0 2) fun x1 => gd (ai h x1 1 v1) (lt (hL h x1 v1.toNatClampNeg) fun x2 => gd (ai h x1 1 v1) (lt (uL h x1 v1.toNatClampNeg (x2 ||| ((1 : Int64) <<< ((v2 - 50).toInt64 &&& 63)))) fun h3 => some ((), h3))))) else (gd (hS h v0 = some (.inl 8)) (bR (hR h v0 1) fun x4 => gd (ai h x4 1 v1) (lt (hL h x4 v1.toNatClampNeg) fun x5 => gd (ai h x4 1 v1) (lt (uL h x4 v1.toNatClampNeg (x5 ||| ((1 : Int64) <<< (v2.toInt64 &&& 63)))) fun h6 => some ((), h6)))))
set_option maxHeartbeats 4000000 in
set_option maxRecDepth 20000 in
theorem t_S_recordJerk {G : GG} (v0 : Nat) (v1 : Int32) (v2 : Int32) (h : Hp) : Mt G M_S_recordJerk 0 [.ref v0, .int v1, .int v2] cU h (f_S_recordJerk v0 v1 v2 h) := by
  refine Mt.ofF (by decide +kernel) rfl (Rt.v rfl rfl) ?_
  show T G M_S_recordJerk 0 cU 0 [(0, .ref v0), (1, .int v1), (2, .int v2)] [] h _
  unfold f_S_recordJerk
  refine q_iload_n (pc := 0) (dq D_S_recordJerk_0_ok 0 rfl) rfl 2 rfl ?_
  refine q_bipush (pc := 1) (v := 50) (dq D_S_recordJerk_0_ok 1 rfl) (by decide) ?_
  refine q_ic_ge (pc := 3) 21 (dq D_S_recordJerk_0_ok 2 rfl) rfl ?_ ?_
  · refine q_aload_n (pc := 21) (dq D_S_recordJerk_0_ok 14 rfl) rfl 0 rfl ?_
    refine q_getR (pc := 22) (dq D_S_recordJerk_0_ok 15 rfl) fa_S_22 rfl (fun x1 => ?_)
    refine q_iload_n (pc := 25) (dq D_S_recordJerk_0_ok 16 rfl) rfl 1 rfl ?_
    refine q_dup2 (pc := 26) (dq D_S_recordJerk_0_ok 17 rfl) rfl rfl ?_
    refine r_lald (pc := 27) (dq D_S_recordJerk_0_ok 18 rfl) (fun x2 => ?_)
    refine q_lconst (pc := 28) (v := 1) (dq D_S_recordJerk_0_ok 19 rfl) (by decide) ?_
    refine q_iload_n (pc := 29) (dq D_S_recordJerk_0_ok 20 rfl) rfl 2 rfl ?_
    refine q_bipush (pc := 30) (v := 50) (dq D_S_recordJerk_0_ok 21 rfl) (by decide) ?_
    refine q_isub (pc := 32) (dq D_S_recordJerk_0_ok 22 rfl) ?_
    refine q_lshl (pc := 33) (dq D_S_recordJerk_0_ok 23 rfl) ?_
    refine q_lor (pc := 34) (dq D_S_recordJerk_0_ok 24 rfl) ?_
    refine r_last (pc := 35) (dq D_S_recordJerk_0_ok 25 rfl) (fun h3 => ?_)
    exact r_retu (pc := 36) (dq D_S_recordJerk_0_ok 26 rfl) rfl
  · refine q_aload_n (pc := 6) (dq D_S_recordJerk_0_ok 3 rfl) rfl 0 rfl ?_
    refine q_getR (pc := 7) (dq D_S_recordJerk_0_ok 4 rfl) fa_S_18 rfl (fun x4 => ?_)
    refine q_iload_n (pc := 10) (dq D_S_recordJerk_0_ok 5 rfl) rfl 1 rfl ?_
    refine q_dup2 (pc := 11) (dq D_S_recordJerk_0_ok 6 rfl) rfl rfl ?_
    refine r_lald (pc := 12) (dq D_S_recordJerk_0_ok 7 rfl) (fun x5 => ?_)
    refine q_lconst (pc := 13) (v := 1) (dq D_S_recordJerk_0_ok 8 rfl) (by decide) ?_
    refine q_iload_n (pc := 14) (dq D_S_recordJerk_0_ok 9 rfl) rfl 2 rfl ?_
    refine q_lshl (pc := 15) (dq D_S_recordJerk_0_ok 10 rfl) ?_
    refine q_lor (pc := 16) (dq D_S_recordJerk_0_ok 11 rfl) ?_
    refine r_last (pc := 17) (dq D_S_recordJerk_0_ok 12 rfl) (fun h6 => ?_)
    refine q_goto (pc := 18) 36 (dq D_S_recordJerk_0_ok 13 rfl) rfl ?_
    exact r_retu (pc := 36) (dq D_S_recordJerk_0_ok 26 rfl) rfl
noncomputable def b_S_recordJerks_112 (k25 : (Nat × Int32 × Int32 × Int32 × Int32) → Hp → Option (Unit × Hp)) (v0 : Nat) (v1 : Int32) (v2 : Int32) (v3 : Int32) (v4 : Int32) (h : Hp) : Option (Unit × Hp) := k25 (v0, v1, v2, v3, v4 + 1) h
set_option maxHeartbeats 4000000 in
set_option maxRecDepth 20000 in
theorem tb_S_recordJerks_112 {G : GG} {k25 : (Nat × Int32 × Int32 × Int32 × Int32) → Hp → Option (Unit × Hp)} (hk25 : ∀ s h, T G M_S_recordJerks 1 cU 25 [(0, .ref s.1), (1, .int s.2.1), (2, .int s.2.2.1), (3, .int s.2.2.2.1), (4, .int s.2.2.2.2)] [] h (k25 s h)) (v0 : Nat) (v1 : Int32) (v2 : Int32) (v3 : Int32) (v4 : Int32) (h : Hp) : T G M_S_recordJerks 1 cU 112 [(0, .ref v0), (1, .int v1), (2, .int v2), (3, .int v3), (4, .int v4)] [] h (b_S_recordJerks_112 k25 v0 v1 v2 v3 v4 h) := by
  unfold b_S_recordJerks_112
  refine q_iinc (pc := 112) (v := (1)) (ls' := [(4, .int (v4 + 1)), (0, .ref v0), (1, .int v1), (2, .int v2), (3, .int v3)]) (dq D_S_recordJerks_0_ok 59 rfl) 4 rfl (by decide) rfl rfl ?_
  refine q_goto (pc := 115) 25 (dq D_S_recordJerks_1_ok 0 rfl) rfl ?_
  exact T.lsub [1, 2, 3, 4, 0] rfl (hk25 (v0, v1, v2, v3, v4 + 1) h)
noncomputable def b_S_recordJerks_95 (k25 : (Nat × Int32 × Int32 × Int32 × Int32) → Hp → Option (Unit × Hp)) (v0 : Nat) (v1 : Int32) (v2 : Int32) (v4 : Int32) (v5 : Int32) (h : Hp) : Option (Unit × Hp) := gd (hS h v0 = some (.inl 8)) (bR (hR h v0 0) fun x1 => gd (hS h v0 = some (.inl 8)) (bR (hR h v0 0) fun x2 => gd (hS h x2 = some (.inl 3)) (bd (f_W_way x2 h) fun r4 h3 => gd (hS h3 x1 = some (.inl 3)) (bd (f_W_resting x1 v5 r4 h3) fun r6 h5 => b_S_recordJerks_112 k25 v0 v1 v2 r6 v4 h5))))
set_option maxHeartbeats 4000000 in
set_option maxRecDepth 20000 in
theorem tb_S_recordJerks_95 {G : GG} {k25 : (Nat × Int32 × Int32 × Int32 × Int32) → Hp → Option (Unit × Hp)} (hk25 : ∀ s h, T G M_S_recordJerks 1 cU 25 [(0, .ref s.1), (1, .int s.2.1), (2, .int s.2.2.1), (3, .int s.2.2.2.1), (4, .int s.2.2.2.2)] [] h (k25 s h)) (v0 : Nat) (v1 : Int32) (v2 : Int32) (v4 : Int32) (v5 : Int32) (h : Hp) : T G M_S_recordJerks 1 cU 95 [(0, .ref v0), (1, .int v1), (2, .int v2), (4, .int v4), (5, .int v5)] [] h (b_S_recordJerks_95 k25 v0 v1 v2 v4 v5 h) := by
  unfold b_S_recordJerks_95
  refine q_aload_n (pc := 95) (dq D_S_recordJerks_0_ok 51 rfl) rfl 0 rfl ?_
  refine q_getR (pc := 96) (dq D_S_recordJerks_0_ok 52 rfl) fa_S_12 rfl (fun x1 => ?_)
  refine q_iload (pc := 99) (dq D_S_recordJerks_0_ok 53 rfl) 4 rfl ?_
  refine q_aload_n (pc := 101) (dq D_S_recordJerks_0_ok 54 rfl) rfl 0 rfl ?_
  refine q_getR (pc := 102) (dq D_S_recordJerks_0_ok 55 rfl) fa_S_12 rfl (fun x2 => ?_)
  refine r_invI (Mc := M_W_way) (pc := 105) (ci := 3) (rest := [.int v5, .ref x1]) 0 0 [] (dq D_S_recordJerks_0_ok 56 rfl) rfl rfl lc_W_way lv_W_way_ ml_S_81 rfl rfl rfl rfl (t_W_way x2 h) (fun r4 h3 => ?_)
  refine r_invI (Mc := M_W_resting) (pc := 108) (ci := 3) (rest := []) 0 2 [.int v5, .int r4] (dq D_S_recordJerks_0_ok 57 rfl) rfl rfl lc_W_resting lv_W_resting_ ml_S_96 rfl rfl rfl rfl (t_W_resting x1 v5 r4 h3) (fun r6 h5 => ?_)
  refine q_istore_n (pc := 111) (ls' := [(3, .int r6), (0, .ref v0), (1, .int v1), (2, .int v2), (4, .int v4), (5, .int v5)]) (dq D_S_recordJerks_0_ok 58 rfl) rfl rfl rfl ?_
  exact T.lsub [1, 2, 3, 0, 4] rfl (tb_S_recordJerks_112 hk25 v0 v1 v2 r6 v4 h5)
noncomputable def b_S_recordJerks_25 (k25 : (Nat × Int32 × Int32 × Int32 × Int32) → Hp → Option (Unit × Hp)) (v0 : Nat) (v1 : Int32) (v2 : Int32) (v3 : Int32) (v4 : Int32) (h : Hp) : Option (Unit × Hp) := if 99 < v4 then (some ((), h)) else (gd (hS h v0 = some (.inl 8)) (bR (hR h v0 0) fun x1 => gd (hS h x1 = some (.inl 3)) (bd (f_W_goesOn x1 (v4 - 1) (v2 - (v4 - 1)) h) fun r3 h2 => if r3 = 0 then (b_S_recordJerks_112 k25 v0 v1 v2 v3 v4 h2) else (gd (hS h2 v0 = some (.inl 8)) (bR (hR h2 v0 0) fun x4 => gd (hS h2 v0 = some (.inl 8)) (bR (hR h2 v0 0) fun x5 => gd (hS h2 x5 = some (.inl 3)) (lt (hI h2 x5 2) fun x6 => gd (hS h2 v0 = some (.inl 8)) (bR (hR h2 v0 0) fun x7 => gd (hS h2 x7 = some (.inl 3)) (bd (f_W_way x7 h2) fun r9 h8 => gd (hS h8 x4 = some (.inl 3)) (bd (f_W_landing x4 v3 x6 r9 h8) fun r11 h10 => gd (hS h10 v0 = some (.inl 8)) (bR (hR h10 v0 0) fun x12 => gd (hS h10 x12 = some (.inl 3)) (bd (f_W_lacks x12 r11 h10) fun r14 h13 => if r14 = 0 then (b_S_recordJerks_95 k25 v0 v1 v2 v4 r11 h13) else (gd (hS h13 v0 = some (.inl 8)) (bd (f_S_recordJerk v0 v1 v4 h13) fun _ h15 => b_S_recordJerks_95 k25 v0 v1 v2 v4 r11 h15))))))))))))))
set_option maxHeartbeats 4000000 in
set_option maxRecDepth 20000 in
theorem tb_S_recordJerks_25 {G : GG} {k25 : (Nat × Int32 × Int32 × Int32 × Int32) → Hp → Option (Unit × Hp)} (hk25 : ∀ s h, T G M_S_recordJerks 1 cU 25 [(0, .ref s.1), (1, .int s.2.1), (2, .int s.2.2.1), (3, .int s.2.2.2.1), (4, .int s.2.2.2.2)] [] h (k25 s h)) (v0 : Nat) (v1 : Int32) (v2 : Int32) (v3 : Int32) (v4 : Int32) (h : Hp) : T G M_S_recordJerks 1 cU 25 [(0, .ref v0), (1, .int v1), (2, .int v2), (3, .int v3), (4, .int v4)] [] h (b_S_recordJerks_25 k25 v0 v1 v2 v3 v4 h) := by
  unfold b_S_recordJerks_25
  refine q_iload (pc := 25) (dq D_S_recordJerks_0_ok 16 rfl) 4 rfl ?_
  refine q_bipush (pc := 27) (v := 99) (dq D_S_recordJerks_0_ok 17 rfl) (by decide) ?_
  refine q_ic_gt (pc := 29) 118 (dq D_S_recordJerks_0_ok 18 rfl) rfl ?_ ?_
  · exact r_retu (pc := 118) (dq D_S_recordJerks_1_ok 1 rfl) rfl
  · refine q_aload_n (pc := 32) (dq D_S_recordJerks_0_ok 19 rfl) rfl 0 rfl ?_
    refine q_getR (pc := 33) (dq D_S_recordJerks_0_ok 20 rfl) fa_S_12 rfl (fun x1 => ?_)
    refine q_iload (pc := 36) (dq D_S_recordJerks_0_ok 21 rfl) 4 rfl ?_
    refine q_ic1 (pc := 38) (dq D_S_recordJerks_0_ok 22 rfl) ?_
    refine q_isub (pc := 39) (dq D_S_recordJerks_0_ok 23 rfl) ?_
    refine q_iload_n (pc := 40) (dq D_S_recordJerks_0_ok 24 rfl) rfl 2 rfl ?_
    refine q_iload (pc := 41) (dq D_S_recordJerks_0_ok 25 rfl) 4 rfl ?_
    refine q_ic1 (pc := 43) (dq D_S_recordJerks_0_ok 26 rfl) ?_
    refine q_isub (pc := 44) (dq D_S_recordJerks_0_ok 27 rfl) ?_
    refine q_isub (pc := 45) (dq D_S_recordJerks_0_ok 28 rfl) ?_
    refine r_invI (Mc := M_W_goesOn) (pc := 46) (ci := 3) (rest := []) 0 2 [.int (v4 - 1), .int (v2 - (v4 - 1))] (dq D_S_recordJerks_0_ok 29 rfl) rfl rfl lc_W_goesOn lv_W_goesOn_ ml_S_74 rfl rfl rfl rfl (t_W_goesOn x1 (v4 - 1) (v2 - (v4 - 1)) h) (fun r3 h2 => ?_)
    refine p_if_eq (pc := 49) 112 (dq D_S_recordJerks_0_ok 30 rfl) rfl ?_ ?_
    · exact T.lsub [0, 1, 2, 3, 4] rfl (tb_S_recordJerks_112 hk25 v0 v1 v2 v3 v4 h2)
    · refine q_aload_n (pc := 52) (dq D_S_recordJerks_0_ok 31 rfl) rfl 0 rfl ?_
      refine q_getR (pc := 53) (dq D_S_recordJerks_0_ok 32 rfl) fa_S_12 rfl (fun x4 => ?_)
      refine q_iload_n (pc := 56) (dq D_S_recordJerks_0_ok 33 rfl) rfl 3 rfl ?_
      refine q_aload_n (pc := 57) (dq D_S_recordJerks_0_ok 34 rfl) rfl 0 rfl ?_
      refine q_getR (pc := 58) (dq D_S_recordJerks_0_ok 35 rfl) fa_S_12 rfl (fun x5 => ?_)
      refine r_getI (pc := 61) (dq D_S_recordJerks_0_ok 36 rfl) fa_S_78 rfl (fun x6 => ?_)
      refine q_aload_n (pc := 64) (dq D_S_recordJerks_0_ok 37 rfl) rfl 0 rfl ?_
      refine q_getR (pc := 65) (dq D_S_recordJerks_0_ok 38 rfl) fa_S_12 rfl (fun x7 => ?_)
      refine r_invI (Mc := M_W_way) (pc := 68) (ci := 3) (rest := [.int x6, .int v3, .ref x4]) 0 0 [] (dq D_S_recordJerks_0_ok 39 rfl) rfl rfl lc_W_way lv_W_way_ ml_S_81 rfl rfl rfl rfl (t_W_way x7 h2) (fun r9 h8 => ?_)
      refine r_invI (Mc := M_W_landing) (pc := 71) (ci := 3) (rest := []) 0 3 [.int v3, .int x6, .int r9] (dq D_S_recordJerks_0_ok 40 rfl) rfl rfl lc_W_landing lv_W_landing_ ml_S_85 rfl rfl rfl rfl (t_W_landing x4 v3 x6 r9 h8) (fun r11 h10 => ?_)
      refine q_istore (pc := 74) (ls' := [(5, .int r11), (0, .ref v0), (1, .int v1), (2, .int v2), (3, .int v3), (4, .int v4)]) (dq D_S_recordJerks_0_ok 41 rfl) rfl rfl ?_
      refine q_aload_n (pc := 76) (dq D_S_recordJerks_0_ok 42 rfl) rfl 1 rfl ?_
      refine q_getR (pc := 77) (dq D_S_recordJerks_0_ok 43 rfl) fa_S_12 rfl (fun x12 => ?_)
      refine q_iload (pc := 80) (dq D_S_recordJerks_0_ok 44 rfl) 0 rfl ?_
      refine r_invI (Mc := M_W_lacks) (pc := 82) (ci := 3) (rest := []) 0 1 [.int r11] (dq D_S_recordJerks_0_ok 45 rfl) rfl rfl lc_W_lacks lv_W_lacks_ ml_S_89 rfl rfl rfl rfl (t_W_lacks x12 r11 h10) (fun r14 h13 => ?_)
      refine p_if_eq (pc := 85) 95 (dq D_S_recordJerks_0_ok 46 rfl) rfl ?_ ?_
      · exact T.lsub [1, 2, 3, 5, 0] rfl (tb_S_recordJerks_95 hk25 v0 v1 v2 v4 r11 h13)
      · refine q_aload_n (pc := 88) (dq D_S_recordJerks_0_ok 47 rfl) rfl 1 rfl ?_
        refine q_iload_n (pc := 89) (dq D_S_recordJerks_0_ok 48 rfl) rfl 2 rfl ?_
        refine q_iload (pc := 90) (dq D_S_recordJerks_0_ok 49 rfl) 5 rfl ?_
        refine r_invU (Mc := M_S_recordJerk) (pc := 92) (ci := 8) (rest := []) 0 2 [.int v1, .int v4] (dq D_S_recordJerks_0_ok 50 rfl) rfl rfl lc_S_recordJerk lv_S_recordJerk_ ml_S_93 rfl rfl rfl rfl (t_S_recordJerk v0 v1 v4 h13) (fun _ h15 => ?_)
        exact T.lsub [1, 2, 3, 5, 0] rfl (tb_S_recordJerks_95 hk25 v0 v1 v2 v4 r11 h15)
noncomputable def l_S_recordJerks_25 : Nat → (Nat × Int32 × Int32 × Int32 × Int32) → Hp → Option (Unit × Hp) := lp (fun k25 s h => b_S_recordJerks_25 k25 s.1 s.2.1 s.2.2.1 s.2.2.2.1 s.2.2.2.2 h)
set_option maxHeartbeats 4000000 in
set_option maxRecDepth 20000 in
theorem tl_S_recordJerks_25 {G : GG} (n : Nat) (s : Nat × Int32 × Int32 × Int32 × Int32) (h : Hp) : T G M_S_recordJerks 1 cU 25 [(0, .ref s.1), (1, .int s.2.1), (2, .int s.2.2.1), (3, .int s.2.2.2.1), (4, .int s.2.2.2.2)] [] h (l_S_recordJerks_25 n s h) :=
  T.loop (lsOf := fun s => [(0, .ref s.1), (1, .int s.2.1), (2, .int s.2.2.1), (3, .int s.2.2.2.1), (4, .int s.2.2.2.2)]) (fun k25 hk25 s h => tb_S_recordJerks_25 hk25 s.1 s.2.1 s.2.2.1 s.2.2.2.1 s.2.2.2.2 h) n s h
noncomputable def f_S_recordJerks (v0 : Nat) (v1 : Int32) (v2 : Int32) (h : Hp) : Option (Unit × Hp) := gd (hS h v0 = some (.inl 8)) (bR (hR h v0 1) fun x1 => gd (ai h x1 1 v1) (lt (uL h x1 v1.toNatClampNeg 0) fun h2 => gd (hS h2 v0 = some (.inl 8)) (bR (hR h2 v0 2) fun x3 => gd (ai h2 x3 1 v1) (lt (uL h2 x3 v1.toNatClampNeg 0) fun h4 => gd (hS h4 v0 = some (.inl 8)) (bR (hR h4 v0 0) fun x5 => gd (hS h4 x5 = some (.inl 3)) (lt (hI h4 x5 3) fun x6 => lt (1 : Int32) fun y7 => l_S_recordJerks_25 FU (v0, v1, v2, x6, y7) h4))))))
set_option maxHeartbeats 4000000 in
set_option maxRecDepth 20000 in
theorem t_S_recordJerks {G : GG} (v0 : Nat) (v1 : Int32) (v2 : Int32) (h : Hp) : Mt G M_S_recordJerks 1 [.ref v0, .int v1, .int v2] cU h (f_S_recordJerks v0 v1 v2 h) := by
  refine Mt.ofF (by decide +kernel) rfl (Rt.v rfl rfl) ?_
  show T G M_S_recordJerks 1 cU 0 [(0, .ref v0), (1, .int v1), (2, .int v2)] [] h _
  unfold f_S_recordJerks
  refine q_aload_n (pc := 0) (dq D_S_recordJerks_0_ok 0 rfl) rfl 0 rfl ?_
  refine q_getR (pc := 1) (dq D_S_recordJerks_0_ok 1 rfl) fa_S_18 rfl (fun x1 => ?_)
  refine q_iload_n (pc := 4) (dq D_S_recordJerks_0_ok 2 rfl) rfl 1 rfl ?_
  refine q_lconst (pc := 5) (v := 0) (dq D_S_recordJerks_0_ok 3 rfl) (by decide) ?_
  refine r_last (pc := 6) (dq D_S_recordJerks_0_ok 4 rfl) (fun h2 => ?_)
  refine q_aload_n (pc := 7) (dq D_S_recordJerks_0_ok 5 rfl) rfl 0 rfl ?_
  refine q_getR (pc := 8) (dq D_S_recordJerks_0_ok 6 rfl) fa_S_22 rfl (fun x3 => ?_)
  refine q_iload_n (pc := 11) (dq D_S_recordJerks_0_ok 7 rfl) rfl 1 rfl ?_
  refine q_lconst (pc := 12) (v := 0) (dq D_S_recordJerks_0_ok 8 rfl) (by decide) ?_
  refine r_last (pc := 13) (dq D_S_recordJerks_0_ok 9 rfl) (fun h4 => ?_)
  refine q_aload_n (pc := 14) (dq D_S_recordJerks_0_ok 10 rfl) rfl 0 rfl ?_
  refine q_getR (pc := 15) (dq D_S_recordJerks_0_ok 11 rfl) fa_S_12 rfl (fun x5 => ?_)
  refine r_getI (pc := 18) (dq D_S_recordJerks_0_ok 12 rfl) fa_S_71 rfl (fun x6 => ?_)
  refine q_istore_n (pc := 21) (ls' := [(3, .int x6), (0, .ref v0), (1, .int v1), (2, .int v2)]) (dq D_S_recordJerks_0_ok 13 rfl) rfl rfl rfl ?_
  refine q_ic1 (pc := 22) (dq D_S_recordJerks_0_ok 14 rfl) ?_
  refine r_nmI (fun y7 => ?_)
  refine q_istore (pc := 23) (ls' := [(4, .int y7), (3, .int x6), (0, .ref v0), (1, .int v1), (2, .int v2)]) (dq D_S_recordJerks_0_ok 15 rfl) rfl rfl ?_
  exact T.lsub [2, 3, 4, 1, 0] rfl (tl_S_recordJerks_25 FU (v0, v1, v2, x6, y7) h4)
noncomputable def b_S_jerkedOn_28 (s0 : Int64) (h : Hp) : Option (Int32 × Hp) := if (lg_cmp (s0 &&& 1) 1) = 0 then (gd (zb 1) (some (1, h))) else (gd (zb 0) (some (0, h)))
set_option maxHeartbeats 4000000 in
set_option maxRecDepth 20000 in
theorem tb_S_jerkedOn_28 {G : GG} (s0 : Int64) (h : Hp) : T G M_S_jerkedOn 0 cI 28 [] [.long s0] h (b_S_jerkedOn_28 s0 h) := by
  unfold b_S_jerkedOn_28
  refine q_lstore_n (pc := 28) (ls' := [(3, .long s0)]) (dq D_S_jerkedOn_0_ok 18 rfl) rfl rfl rfl ?_
  refine q_lload_n (pc := 29) (dq D_S_jerkedOn_0_ok 19 rfl) rfl 0 rfl ?_
  refine q_lconst (pc := 30) (v := 1) (dq D_S_jerkedOn_0_ok 20 rfl) (by decide) ?_
  refine q_land (pc := 31) (dq D_S_jerkedOn_0_ok 21 rfl) ?_
  refine q_lconst (pc := 32) (v := 1) (dq D_S_jerkedOn_0_ok 22 rfl) (by decide) ?_
  refine q_lcmp (pc := 33) (dq D_S_jerkedOn_0_ok 23 rfl) ?_
  refine p_if_ne (pc := 34) 41 (dq D_S_jerkedOn_0_ok 24 rfl) rfl ?_ ?_
  · refine q_ic0 (pc := 41) (dq D_S_jerkedOn_0_ok 27 rfl) ?_
    exact r_retz (pc := 42) (dq D_S_jerkedOn_0_ok 28 rfl) rfl
  · refine q_ic1 (pc := 37) (dq D_S_jerkedOn_0_ok 25 rfl) ?_
    refine q_goto (pc := 38) 42 (dq D_S_jerkedOn_0_ok 26 rfl) rfl ?_
    exact r_retz (pc := 42) (dq D_S_jerkedOn_0_ok 28 rfl) rfl
noncomputable def f_S_jerkedOn (v0 : Nat) (v1 : Int32) (v2 : Int32) (h : Hp) : Option (Int32 × Hp) := if 50 ≤ v2 then (gd (hS h v0 = some (.inl 8)) (bR (hR h v0 2) fun x1 => gd (ai h x1 1 v1) (lt (hL h x1 v1.toNatClampNeg) fun x2 => b_S_jerkedOn_28 (x2 >>> ((v2 - 50).toInt64 &&& 63)) h))) else (gd (hS h v0 = some (.inl 8)) (bR (hR h v0 1) fun x3 => gd (ai h x3 1 v1) (lt (hL h x3 v1.toNatClampNeg) fun x4 => b_S_jerkedOn_28 (x4 >>> (v2.toInt64 &&& 63)) h)))
set_option maxHeartbeats 4000000 in
set_option maxRecDepth 20000 in
theorem t_S_jerkedOn {G : GG} (v0 : Nat) (v1 : Int32) (v2 : Int32) (h : Hp) : Mt G M_S_jerkedOn 0 [.ref v0, .int v1, .int v2] cI h (f_S_jerkedOn v0 v1 v2 h) := by
  refine Mt.ofF (by decide +kernel) rfl (Rt.z rfl rfl) ?_
  show T G M_S_jerkedOn 0 cI 0 [(0, .ref v0), (1, .int v1), (2, .int v2)] [] h _
  unfold f_S_jerkedOn
  refine q_iload_n (pc := 0) (dq D_S_jerkedOn_0_ok 0 rfl) rfl 2 rfl ?_
  refine q_bipush (pc := 1) (v := 50) (dq D_S_jerkedOn_0_ok 1 rfl) (by decide) ?_
  refine q_ic_ge (pc := 3) 17 (dq D_S_jerkedOn_0_ok 2 rfl) rfl ?_ ?_
  · refine q_aload_n (pc := 17) (dq D_S_jerkedOn_0_ok 10 rfl) rfl 0 rfl ?_
    refine q_getR (pc := 18) (dq D_S_jerkedOn_0_ok 11 rfl) fa_S_22 rfl (fun x1 => ?_)
    refine q_iload_n (pc := 21) (dq D_S_jerkedOn_0_ok 12 rfl) rfl 1 rfl ?_
    refine r_lald (pc := 22) (dq D_S_jerkedOn_0_ok 13 rfl) (fun x2 => ?_)
    refine q_iload_n (pc := 23) (dq D_S_jerkedOn_0_ok 14 rfl) rfl 2 rfl ?_
    refine q_bipush (pc := 24) (v := 50) (dq D_S_jerkedOn_0_ok 15 rfl) (by decide) ?_
    refine q_isub (pc := 26) (dq D_S_jerkedOn_0_ok 16 rfl) ?_
    refine q_lshr (pc := 27) (dq D_S_jerkedOn_0_ok 17 rfl) ?_
    exact T.lsub [] rfl (tb_S_jerkedOn_28 (x2 >>> ((v2 - 50).toInt64 &&& 63)) h)
  · refine q_aload_n (pc := 6) (dq D_S_jerkedOn_0_ok 3 rfl) rfl 0 rfl ?_
    refine q_getR (pc := 7) (dq D_S_jerkedOn_0_ok 4 rfl) fa_S_18 rfl (fun x3 => ?_)
    refine q_iload_n (pc := 10) (dq D_S_jerkedOn_0_ok 5 rfl) rfl 1 rfl ?_
    refine r_lald (pc := 11) (dq D_S_jerkedOn_0_ok 6 rfl) (fun x4 => ?_)
    refine q_iload_n (pc := 12) (dq D_S_jerkedOn_0_ok 7 rfl) rfl 2 rfl ?_
    refine q_lshr (pc := 13) (dq D_S_jerkedOn_0_ok 8 rfl) ?_
    refine q_goto (pc := 14) 28 (dq D_S_jerkedOn_0_ok 9 rfl) rfl ?_
    exact T.lsub [] rfl (tb_S_jerkedOn_28 (x4 >>> (v2.toInt64 &&& 63)) h)
noncomputable def b_S_firstAgainst_2 (k2 : (Nat × Nat × Int32 × Int32) → Hp → Option (Int32 × Hp)) (v0 : Nat) (v1 : Nat) (v2 : Int32) (v3 : Int32) (h : Hp) : Option (Int32 × Hp) := gd (hS h v1 = some (.inl 2)) (lt (hI h v1 13) fun x1 => if x1 ≤ v3 then (some ((-2), h)) else (gd (hS h v1 = some (.inl 2)) (bR (hR h v1 14) fun x2 => gd (ai h x2 0 v3) (lt (hI h x2 v3.toNatClampNeg) fun x3 => gd (hS h v0 = some (.inl 8)) (bd (f_S_jerkedOn v0 v2 x3 h) fun r5 h4 => gd (hS h4 v1 = some (.inl 2)) (bR (hR h4 v1 15) fun x6 => gd (ai h4 x6 3 v3) (lt (hI h4 x6 v3.toNatClampNeg) fun x7 => if r5 = x7 then (k2 (v0, v1, v2, v3 + 1) h4) else (some (v3, h4)))))))))
set_option maxHeartbeats 4000000 in
set_option maxRecDepth 20000 in
theorem tb_S_firstAgainst_2 {G : GG} {k2 : (Nat × Nat × Int32 × Int32) → Hp → Option (Int32 × Hp)} (hk2 : ∀ s h, T G M_S_firstAgainst 1 cI 2 [(0, .ref s.1), (1, .ref s.2.1), (2, .int s.2.2.1), (3, .int s.2.2.2)] [] h (k2 s h)) (v0 : Nat) (v1 : Nat) (v2 : Int32) (v3 : Int32) (h : Hp) : T G M_S_firstAgainst 1 cI 2 [(0, .ref v0), (1, .ref v1), (2, .int v2), (3, .int v3)] [] h (b_S_firstAgainst_2 k2 v0 v1 v2 v3 h) := by
  unfold b_S_firstAgainst_2
  refine q_iload_n (pc := 2) (dq D_S_firstAgainst_0_ok 2 rfl) rfl 3 rfl ?_
  refine q_aload_n (pc := 3) (dq D_S_firstAgainst_0_ok 3 rfl) rfl 1 rfl ?_
  refine r_getI (pc := 4) (dq D_S_firstAgainst_0_ok 4 rfl) fa_S_100 rfl (fun x1 => ?_)
  refine q_ic_ge (pc := 7) 38 (dq D_S_firstAgainst_0_ok 5 rfl) rfl ?_ ?_
  · refine q_bipush (pc := 38) (v := (-2)) (dq D_S_firstAgainst_0_ok 22 rfl) (by decide) ?_
    exact r_reti (pc := 40) (dq D_S_firstAgainst_0_ok 23 rfl) rfl
  · refine q_aload_n (pc := 10) (dq D_S_firstAgainst_0_ok 6 rfl) rfl 0 rfl ?_
    refine q_iload_n (pc := 11) (dq D_S_firstAgainst_0_ok 7 rfl) rfl 2 rfl ?_
    refine q_aload_n (pc := 12) (dq D_S_firstAgainst_0_ok 8 rfl) rfl 1 rfl ?_
    refine q_getR (pc := 13) (dq D_S_firstAgainst_0_ok 9 rfl) fa_S_103 rfl (fun x2 => ?_)
    refine q_iload_n (pc := 16) (dq D_S_firstAgainst_0_ok 10 rfl) rfl 3 rfl ?_
    refine r_iald (pc := 17) (dq D_S_firstAgainst_0_ok 11 rfl) (fun x3 => ?_)
    refine r_invI (Mc := M_S_jerkedOn) (pc := 18) (ci := 8) (rest := []) 0 2 [.int v2, .int x3] (dq D_S_firstAgainst_0_ok 12 rfl) rfl rfl lc_S_jerkedOn lv_S_jerkedOn_ ml_S_106 rfl rfl rfl rfl (t_S_jerkedOn v0 v2 x3 h) (fun r5 h4 => ?_)
    refine q_aload_n (pc := 21) (dq D_S_firstAgainst_0_ok 13 rfl) rfl 1 rfl ?_
    refine q_getR (pc := 22) (dq D_S_firstAgainst_0_ok 14 rfl) fa_S_109 rfl (fun x6 => ?_)
    refine q_iload_n (pc := 25) (dq D_S_firstAgainst_0_ok 15 rfl) rfl 3 rfl ?_
    refine r_zald (pc := 26) (dq D_S_firstAgainst_0_ok 16 rfl) (fun x7 => ?_)
    refine q_ic_eq (pc := 27) 32 (dq D_S_firstAgainst_0_ok 17 rfl) rfl ?_ ?_
    · refine q_iinc (pc := 32) (v := (1)) (ls' := [(3, .int (v3 + 1)), (0, .ref v0), (1, .ref v1), (2, .int v2)]) (dq D_S_firstAgainst_0_ok 20 rfl) 3 rfl (by decide) rfl rfl ?_
      refine q_goto (pc := 35) 2 (dq D_S_firstAgainst_0_ok 21 rfl) rfl ?_
      exact T.lsub [1, 2, 3, 0] rfl (hk2 (v0, v1, v2, v3 + 1) h4)
    · refine q_iload_n (pc := 30) (dq D_S_firstAgainst_0_ok 18 rfl) rfl 3 rfl ?_
      exact r_reti (pc := 31) (dq D_S_firstAgainst_0_ok 19 rfl) rfl
noncomputable def l_S_firstAgainst_2 : Nat → (Nat × Nat × Int32 × Int32) → Hp → Option (Int32 × Hp) := lp (fun k2 s h => b_S_firstAgainst_2 k2 s.1 s.2.1 s.2.2.1 s.2.2.2 h)
set_option maxHeartbeats 4000000 in
set_option maxRecDepth 20000 in
theorem tl_S_firstAgainst_2 {G : GG} (n : Nat) (s : Nat × Nat × Int32 × Int32) (h : Hp) : T G M_S_firstAgainst 1 cI 2 [(0, .ref s.1), (1, .ref s.2.1), (2, .int s.2.2.1), (3, .int s.2.2.2)] [] h (l_S_firstAgainst_2 n s h) :=
  T.loop (lsOf := fun s => [(0, .ref s.1), (1, .ref s.2.1), (2, .int s.2.2.1), (3, .int s.2.2.2)]) (fun k2 hk2 s h => tb_S_firstAgainst_2 hk2 s.1 s.2.1 s.2.2.1 s.2.2.2 h) n s h
noncomputable def f_S_firstAgainst (v0 : Nat) (v1 : Nat) (v2 : Int32) (h : Hp) : Option (Int32 × Hp) := lt (0 : Int32) fun y1 => l_S_firstAgainst_2 FU (v0, v1, v2, y1) h
set_option maxHeartbeats 4000000 in
set_option maxRecDepth 20000 in
theorem t_S_firstAgainst {G : GG} (v0 : Nat) (v1 : Nat) (v2 : Int32) (h : Hp) : Mt G M_S_firstAgainst 1 [.ref v0, .ref v1, .int v2] cI h (f_S_firstAgainst v0 v1 v2 h) := by
  refine Mt.ofF (by decide +kernel) rfl (Rt.i rfl rfl) ?_
  show T G M_S_firstAgainst 1 cI 0 [(0, .ref v0), (1, .ref v1), (2, .int v2)] [] h _
  unfold f_S_firstAgainst
  refine q_ic0 (pc := 0) (dq D_S_firstAgainst_0_ok 0 rfl) ?_
  refine r_nmI (fun y1 => ?_)
  refine q_istore_n (pc := 1) (ls' := [(3, .int y1), (0, .ref v0), (1, .ref v1), (2, .int v2)]) (dq D_S_firstAgainst_0_ok 1 rfl) rfl rfl rfl ?_
  exact T.lsub [1, 2, 3, 0] rfl (tl_S_firstAgainst_2 FU (v0, v1, v2, y1) h)
noncomputable def b_S_chooseDay_100 (k14 : (Nat × Int32) → Hp → Option (Unit × Hp)) (v0 : Nat) (v1 : Int32) (h : Hp) : Option (Unit × Hp) := k14 (v0, v1 + 1) h
set_option maxHeartbeats 4000000 in
set_option maxRecDepth 20000 in
theorem tb_S_chooseDay_100 {G : GG} {k14 : (Nat × Int32) → Hp → Option (Unit × Hp)} (hk14 : ∀ s h, T G M_S_chooseDay 1 cU 14 [(0, .ref s.1), (1, .int s.2)] [] h (k14 s h)) (v0 : Nat) (v1 : Int32) (h : Hp) : T G M_S_chooseDay 1 cU 100 [(0, .ref v0), (1, .int v1)] [] h (b_S_chooseDay_100 k14 v0 v1 h) := by
  unfold b_S_chooseDay_100
  refine q_iinc (pc := 100) (v := (1)) (ls' := [(1, .int (v1 + 1)), (0, .ref v0)]) (dq D_S_chooseDay_0_ok 54 rfl) 1 rfl (by decide) rfl rfl ?_
  refine q_goto (pc := 103) 14 (dq D_S_chooseDay_0_ok 55 rfl) rfl ?_
  exact T.lsub [1, 0] rfl (hk14 (v0, v1 + 1) h)
noncomputable def b_S_chooseDay_90 (k14 : (Nat × Int32) → Hp → Option (Unit × Hp)) (v0 : Nat) (v1 : Int32) (v3 : Int32) (h : Hp) : Option (Unit × Hp) := gd (hS h v0 = some (.inl 8)) (lt (uI h v0 5 v1) fun h1 => gd (hS h1 v0 = some (.inl 8)) (lt (uI h1 v0 6 v3) fun h2 => b_S_chooseDay_100 k14 v0 v1 h2))
set_option maxHeartbeats 4000000 in
set_option maxRecDepth 20000 in
theorem tb_S_chooseDay_90 {G : GG} {k14 : (Nat × Int32) → Hp → Option (Unit × Hp)} (hk14 : ∀ s h, T G M_S_chooseDay 1 cU 14 [(0, .ref s.1), (1, .int s.2)] [] h (k14 s h)) (v0 : Nat) (v1 : Int32) (v3 : Int32) (h : Hp) : T G M_S_chooseDay 1 cU 90 [(0, .ref v0), (1, .int v1), (3, .int v3)] [] h (b_S_chooseDay_90 k14 v0 v1 v3 h) := by
  unfold b_S_chooseDay_90
  refine q_aload_n (pc := 90) (dq D_S_chooseDay_0_ok 48 rfl) rfl 0 rfl ?_
  refine q_iload_n (pc := 91) (dq D_S_chooseDay_0_ok 49 rfl) rfl 1 rfl ?_
  refine r_putI (pc := 92) (dq D_S_chooseDay_0_ok 50 rfl) fp_S_113 rfl rfl (fun h1 => ?_)
  refine q_aload_n (pc := 95) (dq D_S_chooseDay_0_ok 51 rfl) rfl 0 rfl ?_
  refine q_iload_n (pc := 96) (dq D_S_chooseDay_0_ok 52 rfl) rfl 2 rfl ?_
  refine r_putI (pc := 97) (dq D_S_chooseDay_0_ok 53 rfl) fp_S_116 rfl rfl (fun h2 => ?_)
  exact T.lsub [0, 1] rfl (tb_S_chooseDay_100 hk14 v0 v1 h2)
noncomputable def b_S_chooseDay_56 (k14 : (Nat × Int32) → Hp → Option (Unit × Hp)) (k31 : (Nat × Int32 × Int32 × Int32) → Hp → Option (Unit × Hp)) (v0 : Nat) (v1 : Int32) (v2 : Int32) (v3 : Int32) (h : Hp) : Option (Unit × Hp) := k31 (v0, v1, v2, v3 + 1) h
set_option maxHeartbeats 4000000 in
set_option maxRecDepth 20000 in
theorem tb_S_chooseDay_56 {G : GG} {k14 : (Nat × Int32) → Hp → Option (Unit × Hp)} (hk14 : ∀ s h, T G M_S_chooseDay 1 cU 14 [(0, .ref s.1), (1, .int s.2)] [] h (k14 s h)) {k31 : (Nat × Int32 × Int32 × Int32) → Hp → Option (Unit × Hp)} (hk31 : ∀ s h, T G M_S_chooseDay 1 cU 31 [(0, .ref s.1), (1, .int s.2.1), (2, .int s.2.2.1), (3, .int s.2.2.2)] [] h (k31 s h)) (v0 : Nat) (v1 : Int32) (v2 : Int32) (v3 : Int32) (h : Hp) : T G M_S_chooseDay 1 cU 56 [(0, .ref v0), (1, .int v1), (2, .int v2), (3, .int v3)] [] h (b_S_chooseDay_56 k14 k31 v0 v1 v2 v3 h) := by
  unfold b_S_chooseDay_56
  refine q_iinc (pc := 56) (v := (1)) (ls' := [(3, .int (v3 + 1)), (0, .ref v0), (1, .int v1), (2, .int v2)]) (dq D_S_chooseDay_0_ok 31 rfl) 3 rfl (by decide) rfl rfl ?_
  refine q_goto (pc := 59) 31 (dq D_S_chooseDay_0_ok 32 rfl) rfl ?_
  exact T.lsub [1, 2, 3, 0] rfl (hk31 (v0, v1, v2, v3 + 1) h)
noncomputable def b_S_chooseDay_31 (k14 : (Nat × Int32) → Hp → Option (Unit × Hp)) (k31 : (Nat × Int32 × Int32 × Int32) → Hp → Option (Unit × Hp)) (v0 : Nat) (v1 : Int32) (v2 : Int32) (v3 : Int32) (h : Hp) : Option (Unit × Hp) := gd (hS h v0 = some (.inl 8)) (lt (hI h v0 4) fun x1 => if x1 ≤ v3 then (gd (hS h v0 = some (.inl 8)) (lt (hI h v0 4) fun x2 => bd (f_Math_max v2 (x2 - v2) h) fun r4 h3 => gd (hS h3 v0 = some (.inl 8)) (lt (hI h3 v0 6) fun x5 => if x5 = ((-2)) then (b_S_chooseDay_90 k14 v0 v1 r4 h3) else (gd (hS h3 v0 = some (.inl 8)) (lt (hI h3 v0 6) fun x6 => if x6 ≤ r4 then (b_S_chooseDay_100 k14 v0 v1 h3) else (b_S_chooseDay_90 k14 v0 v1 r4 h3)))))) else (gd (hS h v0 = some (.inl 8)) (bR (hR h v0 3) fun x7 => gd (ai h x7 0 v3) (lt (hI h x7 v3.toNatClampNeg) fun x8 => gd (hS h v0 = some (.inl 8)) (bd (f_S_jerkedOn v0 x8 v1 h) fun r10 h9 => if r10 = 0 then (b_S_chooseDay_56 k14 k31 v0 v1 v2 v3 h9) else (b_S_chooseDay_56 k14 k31 v0 v1 (v2 + 1) v3 h9))))))
set_option maxHeartbeats 4000000 in
set_option maxRecDepth 20000 in
theorem tb_S_chooseDay_31 {G : GG} {k14 : (Nat × Int32) → Hp → Option (Unit × Hp)} (hk14 : ∀ s h, T G M_S_chooseDay 1 cU 14 [(0, .ref s.1), (1, .int s.2)] [] h (k14 s h)) {k31 : (Nat × Int32 × Int32 × Int32) → Hp → Option (Unit × Hp)} (hk31 : ∀ s h, T G M_S_chooseDay 1 cU 31 [(0, .ref s.1), (1, .int s.2.1), (2, .int s.2.2.1), (3, .int s.2.2.2)] [] h (k31 s h)) (v0 : Nat) (v1 : Int32) (v2 : Int32) (v3 : Int32) (h : Hp) : T G M_S_chooseDay 1 cU 31 [(0, .ref v0), (1, .int v1), (2, .int v2), (3, .int v3)] [] h (b_S_chooseDay_31 k14 k31 v0 v1 v2 v3 h) := by
  unfold b_S_chooseDay_31
  refine q_iload_n (pc := 31) (dq D_S_chooseDay_0_ok 18 rfl) rfl 3 rfl ?_
  refine q_aload_n (pc := 32) (dq D_S_chooseDay_0_ok 19 rfl) rfl 0 rfl ?_
  refine r_getI (pc := 33) (dq D_S_chooseDay_0_ok 20 rfl) fa_S_33 rfl (fun x1 => ?_)
  refine q_ic_ge (pc := 36) 62 (dq D_S_chooseDay_0_ok 21 rfl) rfl ?_ ?_
  · refine q_iload_n (pc := 62) (dq D_S_chooseDay_0_ok 33 rfl) rfl 2 rfl ?_
    refine q_aload_n (pc := 63) (dq D_S_chooseDay_0_ok 34 rfl) rfl 0 rfl ?_
    refine r_getI (pc := 64) (dq D_S_chooseDay_0_ok 35 rfl) fa_S_33 rfl (fun x2 => ?_)
    refine q_iload_n (pc := 67) (dq D_S_chooseDay_0_ok 36 rfl) rfl 2 rfl ?_
    refine q_isub (pc := 68) (dq D_S_chooseDay_0_ok 37 rfl) ?_
    refine r_insI (Mc := M_Math_max) (pc := 69) (rest := []) 0 2 [.int v2, .int (x2 - v2)] (dq D_S_chooseDay_0_ok 38 rfl) lc_Math_max ls_Math_max ml_S_119 rfl rfl rfl rfl (t_Math_max v2 (x2 - v2) h) (fun r4 h3 => ?_)
    refine q_istore_n (pc := 72) (ls' := [(3, .int r4), (0, .ref v0), (1, .int v1), (2, .int v2)]) (dq D_S_chooseDay_0_ok 39 rfl) rfl rfl rfl ?_
    refine q_aload_n (pc := 73) (dq D_S_chooseDay_0_ok 40 rfl) rfl 1 rfl ?_
    refine r_getI (pc := 74) (dq D_S_chooseDay_0_ok 41 rfl) fa_S_116 rfl (fun x5 => ?_)
    refine q_bipush (pc := 77) (v := (-2)) (dq D_S_chooseDay_0_ok 42 rfl) (by decide) ?_
    refine q_ic_eq (pc := 79) 90 (dq D_S_chooseDay_0_ok 43 rfl) rfl ?_ ?_
    · exact T.lsub [1, 2, 0] rfl (tb_S_chooseDay_90 hk14 v0 v1 r4 h3)
    · refine q_iload_n (pc := 82) (dq D_S_chooseDay_0_ok 44 rfl) rfl 0 rfl ?_
      refine q_aload_n (pc := 83) (dq D_S_chooseDay_0_ok 45 rfl) rfl 1 rfl ?_
      refine r_getI (pc := 84) (dq D_S_chooseDay_0_ok 46 rfl) fa_S_116 rfl (fun x6 => ?_)
      refine q_ic_ge (pc := 87) 100 (dq D_S_chooseDay_0_ok 47 rfl) rfl ?_ ?_
      · exact T.lsub [1, 2] rfl (tb_S_chooseDay_100 hk14 v0 v1 h3)
      · exact T.lsub [1, 2, 0] rfl (tb_S_chooseDay_90 hk14 v0 v1 r4 h3)
  · refine q_aload_n (pc := 39) (dq D_S_chooseDay_0_ok 22 rfl) rfl 0 rfl ?_
    refine q_aload_n (pc := 40) (dq D_S_chooseDay_0_ok 23 rfl) rfl 0 rfl ?_
    refine q_getR (pc := 41) (dq D_S_chooseDay_0_ok 24 rfl) fa_S_25 rfl (fun x7 => ?_)
    refine q_iload_n (pc := 44) (dq D_S_chooseDay_0_ok 25 rfl) rfl 3 rfl ?_
    refine r_iald (pc := 45) (dq D_S_chooseDay_0_ok 26 rfl) (fun x8 => ?_)
    refine q_iload_n (pc := 46) (dq D_S_chooseDay_0_ok 27 rfl) rfl 1 rfl ?_
    refine r_invI (Mc := M_S_jerkedOn) (pc := 47) (ci := 8) (rest := []) 0 2 [.int x8, .int v1] (dq D_S_chooseDay_0_ok 28 rfl) rfl rfl lc_S_jerkedOn lv_S_jerkedOn_ ml_S_106 rfl rfl rfl rfl (t_S_jerkedOn v0 x8 v1 h) (fun r10 h9 => ?_)
    refine p_if_eq (pc := 50) 56 (dq D_S_chooseDay_0_ok 29 rfl) rfl ?_ ?_
    · exact T.lsub [0, 1, 2, 3] rfl (tb_S_chooseDay_56 hk14 hk31 v0 v1 v2 v3 h9)
    · refine q_iinc (pc := 53) (v := (1)) (ls' := [(2, .int (v2 + 1)), (0, .ref v0), (1, .int v1), (3, .int v3)]) (dq D_S_chooseDay_0_ok 30 rfl) 2 rfl (by decide) rfl rfl ?_
      exact T.lsub [1, 2, 0, 3] rfl (tb_S_chooseDay_56 hk14 hk31 v0 v1 (v2 + 1) v3 h9)
noncomputable def l_S_chooseDay_31 (k14 : (Nat × Int32) → Hp → Option (Unit × Hp)) : Nat → (Nat × Int32 × Int32 × Int32) → Hp → Option (Unit × Hp) := lp (fun k31 s h => b_S_chooseDay_31 k14 k31 s.1 s.2.1 s.2.2.1 s.2.2.2 h)
set_option maxHeartbeats 4000000 in
set_option maxRecDepth 20000 in
theorem tl_S_chooseDay_31 {G : GG} {k14 : (Nat × Int32) → Hp → Option (Unit × Hp)} (hk14 : ∀ s h, T G M_S_chooseDay 1 cU 14 [(0, .ref s.1), (1, .int s.2)] [] h (k14 s h)) (n : Nat) (s : Nat × Int32 × Int32 × Int32) (h : Hp) : T G M_S_chooseDay 1 cU 31 [(0, .ref s.1), (1, .int s.2.1), (2, .int s.2.2.1), (3, .int s.2.2.2)] [] h (l_S_chooseDay_31 k14 n s h) :=
  T.loop (lsOf := fun s => [(0, .ref s.1), (1, .int s.2.1), (2, .int s.2.2.1), (3, .int s.2.2.2)]) (fun k31 hk31 s h => tb_S_chooseDay_31 hk14 hk31 s.1 s.2.1 s.2.2.1 s.2.2.2 h) n s h
noncomputable def b_S_chooseDay_14 (k14 : (Nat × Int32) → Hp → Option (Unit × Hp)) (v0 : Nat) (v1 : Int32) (h : Hp) : Option (Unit × Hp) := if 99 < v1 then (some ((), h)) else (gd (hS h v0 = some (.inl 8)) (lt (hI h v0 4) fun x1 => if x1 ≤ 0 then (some ((), h)) else (lt (0 : Int32) fun y2 => lt (0 : Int32) fun y3 => l_S_chooseDay_31 k14 FU (v0, v1, y2, y3) h)))
set_option maxHeartbeats 4000000 in
set_option maxRecDepth 20000 in
theorem tb_S_chooseDay_14 {G : GG} {k14 : (Nat × Int32) → Hp → Option (Unit × Hp)} (hk14 : ∀ s h, T G M_S_chooseDay 1 cU 14 [(0, .ref s.1), (1, .int s.2)] [] h (k14 s h)) (v0 : Nat) (v1 : Int32) (h : Hp) : T G M_S_chooseDay 1 cU 14 [(0, .ref v0), (1, .int v1)] [] h (b_S_chooseDay_14 k14 v0 v1 h) := by
  unfold b_S_chooseDay_14
  refine q_iload_n (pc := 14) (dq D_S_chooseDay_0_ok 8 rfl) rfl 1 rfl ?_
  refine q_bipush (pc := 15) (v := 99) (dq D_S_chooseDay_0_ok 9 rfl) (by decide) ?_
  refine q_ic_gt (pc := 17) 106 (dq D_S_chooseDay_0_ok 10 rfl) rfl ?_ ?_
  · exact r_retu (pc := 106) (dq D_S_chooseDay_0_ok 56 rfl) rfl
  · refine q_aload_n (pc := 20) (dq D_S_chooseDay_0_ok 11 rfl) rfl 0 rfl ?_
    refine r_getI (pc := 21) (dq D_S_chooseDay_0_ok 12 rfl) fa_S_33 rfl (fun x1 => ?_)
    refine p_if_le (pc := 24) 106 (dq D_S_chooseDay_0_ok 13 rfl) rfl ?_ ?_
    · exact r_retu (pc := 106) (dq D_S_chooseDay_0_ok 56 rfl) rfl
    · refine q_ic0 (pc := 27) (dq D_S_chooseDay_0_ok 14 rfl) ?_
      refine r_nmI (fun y2 => ?_)
      refine q_istore_n (pc := 28) (ls' := [(2, .int y2), (0, .ref v0), (1, .int v1)]) (dq D_S_chooseDay_0_ok 15 rfl) rfl rfl rfl ?_
      refine q_ic0 (pc := 29) (dq D_S_chooseDay_0_ok 16 rfl) ?_
      refine r_nmI (fun y3 => ?_)
      refine q_istore_n (pc := 30) (ls' := [(3, .int y3), (2, .int y2), (0, .ref v0), (1, .int v1)]) (dq D_S_chooseDay_0_ok 17 rfl) rfl rfl rfl ?_
      exact T.lsub [2, 3, 1, 0] rfl (tl_S_chooseDay_31 hk14 FU (v0, v1, y2, y3) h)
noncomputable def l_S_chooseDay_14 : Nat → (Nat × Int32) → Hp → Option (Unit × Hp) := lp (fun k14 s h => b_S_chooseDay_14 k14 s.1 s.2 h)
set_option maxHeartbeats 4000000 in
set_option maxRecDepth 20000 in
theorem tl_S_chooseDay_14 {G : GG} (n : Nat) (s : Nat × Int32) (h : Hp) : T G M_S_chooseDay 1 cU 14 [(0, .ref s.1), (1, .int s.2)] [] h (l_S_chooseDay_14 n s h) :=
  T.loop (lsOf := fun s => [(0, .ref s.1), (1, .int s.2)]) (fun k14 hk14 s h => tb_S_chooseDay_14 hk14 s.1 s.2 h) n s h
noncomputable def f_S_chooseDay (v0 : Nat) (h : Hp) : Option (Unit × Hp) := gd (hS h v0 = some (.inl 8)) (lt (uI h v0 5 ((-2))) fun h1 => gd (hS h1 v0 = some (.inl 8)) (lt (uI h1 v0 6 ((-2))) fun h2 => lt (1 : Int32) fun y3 => l_S_chooseDay_14 FU (v0, y3) h2))
set_option maxHeartbeats 4000000 in
set_option maxRecDepth 20000 in
theorem t_S_chooseDay {G : GG} (v0 : Nat) (h : Hp) : Mt G M_S_chooseDay 1 [.ref v0] cU h (f_S_chooseDay v0 h) := by
  refine Mt.ofF (by decide +kernel) rfl (Rt.v rfl rfl) ?_
  show T G M_S_chooseDay 1 cU 0 [(0, .ref v0)] [] h _
  unfold f_S_chooseDay
  refine q_aload_n (pc := 0) (dq D_S_chooseDay_0_ok 0 rfl) rfl 0 rfl ?_
  refine q_bipush (pc := 1) (v := (-2)) (dq D_S_chooseDay_0_ok 1 rfl) (by decide) ?_
  refine r_putI (pc := 3) (dq D_S_chooseDay_0_ok 2 rfl) fp_S_113 rfl rfl (fun h1 => ?_)
  refine q_aload_n (pc := 6) (dq D_S_chooseDay_0_ok 3 rfl) rfl 0 rfl ?_
  refine q_bipush (pc := 7) (v := (-2)) (dq D_S_chooseDay_0_ok 4 rfl) (by decide) ?_
  refine r_putI (pc := 9) (dq D_S_chooseDay_0_ok 5 rfl) fp_S_116 rfl rfl (fun h2 => ?_)
  refine q_ic1 (pc := 12) (dq D_S_chooseDay_0_ok 6 rfl) ?_
  refine r_nmI (fun y3 => ?_)
  refine q_istore_n (pc := 13) (ls' := [(1, .int y3), (0, .ref v0)]) (dq D_S_chooseDay_0_ok 7 rfl) rfl rfl rfl ?_
  exact T.lsub [1, 0] rfl (tl_S_chooseDay_14 FU (v0, y3) h2)
noncomputable def b_S_weigh_102 (k30 : (Nat × Nat × Nat × Int32) → Hp → Option (Unit × Hp)) (v0 : Nat) (v1 : Nat) (v2 : Nat) (v3 : Int32) (h : Hp) : Option (Unit × Hp) := k30 (v0, v1, v2, v3 + 1) h
set_option maxHeartbeats 4000000 in
set_option maxRecDepth 20000 in
theorem tb_S_weigh_102 {G : GG} {k30 : (Nat × Nat × Nat × Int32) → Hp → Option (Unit × Hp)} (hk30 : ∀ s h, T G M_S_weigh 2 cU 30 [(0, .ref s.1), (1, .ref s.2.1), (2, .ref s.2.2.1), (3, .int s.2.2.2)] [] h (k30 s h)) (v0 : Nat) (v1 : Nat) (v2 : Nat) (v3 : Int32) (h : Hp) : T G M_S_weigh 2 cU 102 [(0, .ref v0), (1, .ref v1), (2, .ref v2), (3, .int v3)] [] h (b_S_weigh_102 k30 v0 v1 v2 v3 h) := by
  unfold b_S_weigh_102
  refine q_iinc (pc := 102) (v := (1)) (ls' := [(3, .int (v3 + 1)), (0, .ref v0), (1, .ref v1), (2, .ref v2)]) (dq D_S_weigh_0_ok 57 rfl) 3 rfl (by decide) rfl rfl ?_
  refine q_goto (pc := 105) 30 (dq D_S_weigh_0_ok 58 rfl) rfl ?_
  exact T.lsub [1, 2, 3, 0] rfl (hk30 (v0, v1, v2, v3 + 1) h)
noncomputable def b_S_weigh_62 (k30 : (Nat × Nat × Nat × Int32) → Hp → Option (Unit × Hp)) (v0 : Nat) (v1 : Nat) (v2 : Nat) (v3 : Int32) (h : Hp) : Option (Unit × Hp) := gd (hS h v1 = some (.inl 2)) (lt (hI h v1 0) fun x1 => gd (hS h v0 = some (.inl 8)) (bd (f_S_recordJerks v0 v3 x1 h) fun _ h2 => gd (hS h2 v0 = some (.inl 8)) (bd (f_S_firstAgainst v0 v1 v3 h2) fun r5 h4 => if r5 = ((-2)) then (gd (hS h4 v0 = some (.inl 8)) (bR (hR h4 v0 3) fun x6 => gd (hS h4 v0 = some (.inl 8)) (lt (hI h4 v0 4) fun x7 => gd (ai h4 x6 0 x7) (lt (uI h4 x6 x7.toNatClampNeg v3) fun h8 => gd (hS h8 v0 = some (.inl 8)) (lt (hI h8 v0 4) fun x9 => gd (hS h8 v0 = some (.inl 8)) (lt (uI h8 v0 4 (x9 + 1)) fun h10 => b_S_weigh_102 k30 v0 v1 v2 v3 h10)))))) else (b_S_weigh_102 k30 v0 v1 v2 v3 h4))))
set_option maxHeartbeats 4000000 in
set_option maxRecDepth 20000 in
theorem tb_S_weigh_62 {G : GG} {k30 : (Nat × Nat × Nat × Int32) → Hp → Option (Unit × Hp)} (hk30 : ∀ s h, T G M_S_weigh 2 cU 30 [(0, .ref s.1), (1, .ref s.2.1), (2, .ref s.2.2.1), (3, .int s.2.2.2)] [] h (k30 s h)) (v0 : Nat) (v1 : Nat) (v2 : Nat) (v3 : Int32) (h : Hp) : T G M_S_weigh 2 cU 62 [(0, .ref v0), (1, .ref v1), (2, .ref v2), (3, .int v3)] [] h (b_S_weigh_62 k30 v0 v1 v2 v3 h) := by
  unfold b_S_weigh_62
  refine q_aload_n (pc := 62) (dq D_S_weigh_0_ok 34 rfl) rfl 0 rfl ?_
  refine q_iload_n (pc := 63) (dq D_S_weigh_0_ok 35 rfl) rfl 3 rfl ?_
  refine q_aload_n (pc := 64) (dq D_S_weigh_0_ok 36 rfl) rfl 1 rfl ?_
  refine r_getI (pc := 65) (dq D_S_weigh_0_ok 37 rfl) fa_S_57 rfl (fun x1 => ?_)
  refine r_invU (Mc := M_S_recordJerks) (pc := 68) (ci := 8) (rest := []) 1 2 [.int v3, .int x1] (dq D_S_weigh_0_ok 38 rfl) rfl rfl lc_S_recordJerks lv_S_recordJerks_ ml_S_60 rfl rfl rfl rfl (t_S_recordJerks v0 v3 x1 h) (fun _ h2 => ?_)
  refine q_aload_n (pc := 71) (dq D_S_weigh_0_ok 39 rfl) rfl 0 rfl ?_
  refine q_aload_n (pc := 72) (dq D_S_weigh_0_ok 40 rfl) rfl 1 rfl ?_
  refine q_iload_n (pc := 73) (dq D_S_weigh_0_ok 41 rfl) rfl 3 rfl ?_
  refine r_invI (Mc := M_S_firstAgainst) (pc := 74) (ci := 8) (rest := []) 1 2 [.ref v1, .int v3] (dq D_S_weigh_0_ok 42 rfl) rfl rfl lc_S_firstAgainst lv_S_firstAgainst_ ml_S_64 rfl rfl rfl rfl (t_S_firstAgainst v0 v1 v3 h2) (fun r5 h4 => ?_)
  refine q_bipush (pc := 77) (v := (-2)) (dq D_S_weigh_0_ok 43 rfl) (by decide) ?_
  refine q_ic_ne (pc := 79) 102 (dq D_S_weigh_0_ok 44 rfl) rfl ?_ ?_
  · exact T.lsub [0, 1, 2, 3] rfl (tb_S_weigh_102 hk30 v0 v1 v2 v3 h4)
  · refine q_aload_n (pc := 82) (dq D_S_weigh_0_ok 45 rfl) rfl 0 rfl ?_
    refine q_getR (pc := 83) (dq D_S_weigh_0_ok 46 rfl) fa_S_25 rfl (fun x6 => ?_)
    refine q_aload_n (pc := 86) (dq D_S_weigh_0_ok 47 rfl) rfl 0 rfl ?_
    refine r_getI (pc := 87) (dq D_S_weigh_0_ok 48 rfl) fa_S_33 rfl (fun x7 => ?_)
    refine q_iload_n (pc := 90) (dq D_S_weigh_0_ok 49 rfl) rfl 3 rfl ?_
    refine r_iast (pc := 91) (dq D_S_weigh_0_ok 50 rfl) (fun h8 => ?_)
    refine q_aload_n (pc := 92) (dq D_S_weigh_0_ok 51 rfl) rfl 0 rfl ?_
    refine q_dup (pc := 93) (dq D_S_weigh_0_ok 52 rfl) rfl ?_
    refine r_getI (pc := 94) (dq D_S_weigh_0_ok 53 rfl) fa_S_33 rfl (fun x9 => ?_)
    refine q_ic1 (pc := 97) (dq D_S_weigh_0_ok 54 rfl) ?_
    refine q_iadd (pc := 98) (dq D_S_weigh_0_ok 55 rfl) ?_
    refine r_putI (pc := 99) (dq D_S_weigh_0_ok 56 rfl) fp_S_33 rfl rfl (fun h10 => ?_)
    exact T.lsub [0, 1, 2, 3] rfl (tb_S_weigh_102 hk30 v0 v1 v2 v3 h10)
noncomputable def b_S_weigh_30 (k30 : (Nat × Nat × Nat × Int32) → Hp → Option (Unit × Hp)) (v0 : Nat) (v1 : Nat) (v2 : Nat) (v3 : Int32) (h : Hp) : Option (Unit × Hp) := gd (hS h v2 = some (.inl 3)) (lt (hI h v2 1) fun x1 => if x1 < v3 then (gd (hS h v0 = some (.inl 8)) (bd (f_S_chooseDay v0 h) fun _ h2 => some ((), h2))) else (gd (hS h v0 = some (.inl 8)) (bR (hR h v0 0) fun x4 => gd (hS h x4 = some (.inl 3)) (bd (f_W_tellLike x4 v2 h) fun _ h5 => gd (hS h5 v2 = some (.inl 3)) (lt (hI h5 v2 1) fun x7 => if x7 ≤ v3 then (b_S_weigh_62 k30 v0 v1 v2 v3 h5) else (gd (hS h5 v0 = some (.inl 8)) (bR (hR h5 v0 0) fun x8 => gd (hS h5 x8 = some (.inl 3)) (bd (f_W_loseTooth x8 v3 h5) fun _ h9 => b_S_weigh_62 k30 v0 v1 v2 v3 h9))))))))
set_option maxHeartbeats 4000000 in
set_option maxRecDepth 20000 in
theorem tb_S_weigh_30 {G : GG} {k30 : (Nat × Nat × Nat × Int32) → Hp → Option (Unit × Hp)} (hk30 : ∀ s h, T G M_S_weigh 2 cU 30 [(0, .ref s.1), (1, .ref s.2.1), (2, .ref s.2.2.1), (3, .int s.2.2.2)] [] h (k30 s h)) (v0 : Nat) (v1 : Nat) (v2 : Nat) (v3 : Int32) (h : Hp) : T G M_S_weigh 2 cU 30 [(0, .ref v0), (1, .ref v1), (2, .ref v2), (3, .int v3)] [] h (b_S_weigh_30 k30 v0 v1 v2 v3 h) := by
  unfold b_S_weigh_30
  refine q_iload_n (pc := 30) (dq D_S_weigh_0_ok 18 rfl) rfl 3 rfl ?_
  refine q_aload_n (pc := 31) (dq D_S_weigh_0_ok 19 rfl) rfl 2 rfl ?_
  refine r_getI (pc := 32) (dq D_S_weigh_0_ok 20 rfl) fa_S_46 rfl (fun x1 => ?_)
  refine q_ic_gt (pc := 35) 108 (dq D_S_weigh_0_ok 21 rfl) rfl ?_ ?_
  · refine q_aload_n (pc := 108) (dq D_S_weigh_0_ok 59 rfl) rfl 0 rfl ?_
    refine r_invU (Mc := M_S_chooseDay) (pc := 109) (ci := 8) (rest := []) 1 0 [] (dq D_S_weigh_1_ok 0 rfl) rfl rfl lc_S_chooseDay lv_S_chooseDay_ ml_S_68 rfl rfl rfl rfl (t_S_chooseDay v0 h) (fun _ h2 => ?_)
    exact r_retu (pc := 112) (dq D_S_weigh_1_ok 1 rfl) rfl
  · refine q_aload_n (pc := 38) (dq D_S_weigh_0_ok 22 rfl) rfl 0 rfl ?_
    refine q_getR (pc := 39) (dq D_S_weigh_0_ok 23 rfl) fa_S_12 rfl (fun x4 => ?_)
    refine q_aload_n (pc := 42) (dq D_S_weigh_0_ok 24 rfl) rfl 2 rfl ?_
    refine r_invU (Mc := M_W_tellLike) (pc := 43) (ci := 3) (rest := []) 1 1 [.ref v2] (dq D_S_weigh_0_ok 25 rfl) rfl rfl lc_W_tellLike lv_W_tellLike_ ml_S_49 rfl rfl rfl rfl (t_W_tellLike x4 v2 h) (fun _ h5 => ?_)
    refine q_iload_n (pc := 46) (dq D_S_weigh_0_ok 26 rfl) rfl 3 rfl ?_
    refine q_aload_n (pc := 47) (dq D_S_weigh_0_ok 27 rfl) rfl 2 rfl ?_
    refine r_getI (pc := 48) (dq D_S_weigh_0_ok 28 rfl) fa_S_46 rfl (fun x7 => ?_)
    refine q_ic_ge (pc := 51) 62 (dq D_S_weigh_0_ok 29 rfl) rfl ?_ ?_
    · exact T.lsub [0, 1, 2, 3] rfl (tb_S_weigh_62 hk30 v0 v1 v2 v3 h5)
    · refine q_aload_n (pc := 54) (dq D_S_weigh_0_ok 30 rfl) rfl 0 rfl ?_
      refine q_getR (pc := 55) (dq D_S_weigh_0_ok 31 rfl) fa_S_12 rfl (fun x8 => ?_)
      refine q_iload_n (pc := 58) (dq D_S_weigh_0_ok 32 rfl) rfl 3 rfl ?_
      refine r_invU (Mc := M_W_loseTooth) (pc := 59) (ci := 3) (rest := []) 0 1 [.int v3] (dq D_S_weigh_0_ok 33 rfl) rfl rfl lc_W_loseTooth lv_W_loseTooth_ ml_S_53 rfl rfl rfl rfl (t_W_loseTooth x8 v3 h5) (fun _ h9 => ?_)
      exact T.lsub [0, 1, 2, 3] rfl (tb_S_weigh_62 hk30 v0 v1 v2 v3 h9)
noncomputable def l_S_weigh_30 : Nat → (Nat × Nat × Nat × Int32) → Hp → Option (Unit × Hp) := lp (fun k30 s h => b_S_weigh_30 k30 s.1 s.2.1 s.2.2.1 s.2.2.2 h)
set_option maxHeartbeats 4000000 in
set_option maxRecDepth 20000 in
theorem tl_S_weigh_30 {G : GG} (n : Nat) (s : Nat × Nat × Nat × Int32) (h : Hp) : T G M_S_weigh 2 cU 30 [(0, .ref s.1), (1, .ref s.2.1), (2, .ref s.2.2.1), (3, .int s.2.2.2)] [] h (l_S_weigh_30 n s h) :=
  T.loop (lsOf := fun s => [(0, .ref s.1), (1, .ref s.2.1), (2, .ref s.2.2.1), (3, .int s.2.2.2)]) (fun k30 hk30 s h => tb_S_weigh_30 hk30 s.1 s.2.1 s.2.2.1 s.2.2.2 h) n s h
noncomputable def f_S_weigh (v0 : Nat) (v1 : Nat) (h : Hp) : Option (Unit × Hp) := gd (hS h v0 = some (.inl 8)) (lt (hI h v0 7) fun x1 => if x1 = 0 then (gd (zb 1 ∧ hS h v0 = some (.inl 8)) (lt (uI h v0 7 1) fun h2 => gd (hS h2 v0 = some (.inl 8)) (lt (uI h2 v0 4 0) fun h3 => gd (hS h3 v1 = some (.inl 2)) (bR (hR h3 v1 3) fun x4 => gd (hS h3 v1 = some (.inl 2)) (lt (hI h3 v1 12) fun x5 => gd (ai h3 x4 4 x5) (bR (hR h3 x4 x5.toNatClampNeg) fun x6 => lt (0 : Int32) fun y7 => l_S_weigh_30 FU (v0, v1, x6, y7) h3)))))) else (some ((), h)))
set_option maxHeartbeats 4000000 in
set_option maxRecDepth 20000 in
theorem t_S_weigh {G : GG} (v0 : Nat) (v1 : Nat) (h : Hp) : Mt G M_S_weigh 2 [.ref v0, .ref v1] cU h (f_S_weigh v0 v1 h) := by
  refine Mt.ofF (by decide +kernel) rfl (Rt.v rfl rfl) ?_
  show T G M_S_weigh 2 cU 0 [(0, .ref v0), (1, .ref v1)] [] h _
  unfold f_S_weigh
  refine q_aload_n (pc := 0) (dq D_S_weigh_0_ok 0 rfl) rfl 0 rfl ?_
  refine r_getI (pc := 1) (dq D_S_weigh_0_ok 1 rfl) fa_S_29 rfl (fun x1 => ?_)
  refine p_if_eq (pc := 4) 8 (dq D_S_weigh_0_ok 2 rfl) rfl ?_ ?_
  · refine q_aload_n (pc := 8) (dq D_S_weigh_0_ok 4 rfl) rfl 0 rfl ?_
    refine q_ic1 (pc := 9) (dq D_S_weigh_0_ok 5 rfl) ?_
    refine r_putZ (pc := 10) (dq D_S_weigh_0_ok 6 rfl) fp_S_29 rfl rfl (fun h2 => ?_)
    refine q_aload_n (pc := 13) (dq D_S_weigh_0_ok 7 rfl) rfl 0 rfl ?_
    refine q_ic0 (pc := 14) (dq D_S_weigh_0_ok 8 rfl) ?_
    refine r_putI (pc := 15) (dq D_S_weigh_0_ok 9 rfl) fp_S_33 rfl rfl (fun h3 => ?_)
    refine q_aload_n (pc := 18) (dq D_S_weigh_0_ok 10 rfl) rfl 1 rfl ?_
    refine q_getR (pc := 19) (dq D_S_weigh_0_ok 11 rfl) fa_S_37 rfl (fun x4 => ?_)
    refine q_aload_n (pc := 22) (dq D_S_weigh_0_ok 12 rfl) rfl 1 rfl ?_
    refine r_getI (pc := 23) (dq D_S_weigh_0_ok 13 rfl) fa_S_43 rfl (fun x5 => ?_)
    refine r_aald (pc := 26) 4 (dq D_S_weigh_0_ok 14 rfl) rfl rfl (fun _ => rfl) (fun x6 => ?_)
    refine q_astore_n (pc := 27) (ls' := [(2, .ref x6), (0, .ref v0), (1, .ref v1)]) (dq D_S_weigh_0_ok 15 rfl) rfl rfl rfl ?_
    refine q_ic0 (pc := 28) (dq D_S_weigh_0_ok 16 rfl) ?_
    refine r_nmI (fun y7 => ?_)
    refine q_istore_n (pc := 29) (ls' := [(3, .int y7), (2, .ref x6), (0, .ref v0), (1, .ref v1)]) (dq D_S_weigh_0_ok 17 rfl) rfl rfl rfl ?_
    exact T.lsub [2, 3, 1, 0] rfl (tl_S_weigh_30 FU (v0, v1, x6, y7) h3)
  · exact r_retu (pc := 7) (dq D_S_weigh_0_ok 3 rfl) rfl
noncomputable def f_B_fits (v0 : Nat) (h : Hp) : Option (Int32 × Hp) := gd (hS h v0 = some (.inl 0)) (bd (f_B_suspectTrouble v0 h) fun r2 h1 => if r2 = 0 then (gd (hS h1 v0 = some (.inl 0)) (bR (hR h1 v0 11) fun x3 => gd (hS h1 v0 = some (.inl 0)) (bR (hR h1 v0 3) fun x4 => gd (hS h1 x3 = some (.inl 8)) (bd (f_S_weigh x3 x4 h1) fun _ h5 => gd (hS h5 v0 = some (.inl 0)) (bR (hR h5 v0 11) fun x7 => gd (hS h5 x7 = some (.inl 8)) (lt (hI h5 x7 4) fun x8 => gd (hS h5 v0 = some (.inl 0)) (bd (f_B_grant v0 x8 h5) fun r10 h9 => some (r10, h9)))))))) else (gd (hS h1 v0 = some (.inl 0)) (bd (f_B_refuse v0 r2 h1) fun r12 h11 => some (r12, h11))))
set_option maxHeartbeats 4000000 in
set_option maxRecDepth 20000 in
theorem t_B_fits {G : GG} (v0 : Nat) (h : Hp) : Mt G M_B_fits 3 [.ref v0] cI h (f_B_fits v0 h) := by
  refine Mt.ofF (by decide +kernel) rfl (Rt.i rfl rfl) ?_
  show T G M_B_fits 3 cI 0 [(0, .ref v0)] [] h _
  unfold f_B_fits
  refine q_aload_n (pc := 0) (dq D_B_fits_0_ok 0 rfl) rfl 0 rfl ?_
  refine r_invI (Mc := M_B_suspectTrouble) (pc := 1) (ci := 0) (rest := []) 1 0 [] (dq D_B_fits_0_ok 1 rfl) rfl rfl lc_B_suspectTrouble lv_B_suspectTrouble_ ml_B_255 rfl rfl rfl rfl (t_B_suspectTrouble v0 h) (fun r2 h1 => ?_)
  refine q_istore_n (pc := 4) (ls' := [(1, .int r2), (0, .ref v0)]) (dq D_B_fits_0_ok 2 rfl) rfl rfl rfl ?_
  refine q_iload_n (pc := 5) (dq D_B_fits_0_ok 3 rfl) rfl 0 rfl ?_
  refine p_if_eq (pc := 6) 15 (dq D_B_fits_0_ok 4 rfl) rfl ?_ ?_
  · refine q_aload_n (pc := 15) (dq D_B_fits_0_ok 9 rfl) rfl 1 rfl ?_
    refine q_getR (pc := 16) (dq D_B_fits_0_ok 10 rfl) fa_B_61 rfl (fun x3 => ?_)
    refine q_aload_n (pc := 19) (dq D_B_fits_0_ok 11 rfl) rfl 1 rfl ?_
    refine q_getR (pc := 20) (dq D_B_fits_0_ok 12 rfl) fa_B_23 rfl (fun x4 => ?_)
    refine r_invU (Mc := M_S_weigh) (pc := 23) (ci := 8) (rest := []) 2 1 [.ref x4] (dq D_B_fits_0_ok 13 rfl) rfl rfl lc_S_weigh lv_S_weigh_ ml_B_258 rfl rfl rfl rfl (t_S_weigh x3 x4 h1) (fun _ h5 => ?_)
    refine q_aload_n (pc := 26) (dq D_B_fits_0_ok 14 rfl) rfl 1 rfl ?_
    refine q_aload_n (pc := 27) (dq D_B_fits_0_ok 15 rfl) rfl 1 rfl ?_
    refine q_getR (pc := 28) (dq D_B_fits_0_ok 16 rfl) fa_B_61 rfl (fun x7 => ?_)
    refine r_getI (pc := 31) (dq D_B_fits_0_ok 17 rfl) fa_B_262 rfl (fun x8 => ?_)
    refine r_invI (Mc := M_B_grant) (pc := 34) (ci := 0) (rest := []) 0 1 [.int x8] (dq D_B_fits_0_ok 18 rfl) rfl rfl lc_B_grant lv_B_grant_ ml_B_109 rfl rfl rfl rfl (t_B_grant v0 x8 h5) (fun r10 h9 => ?_)
    exact r_reti (pc := 37) (dq D_B_fits_0_ok 19 rfl) rfl
  · refine q_aload_n (pc := 9) (dq D_B_fits_0_ok 5 rfl) rfl 1 rfl ?_
    refine q_iload_n (pc := 10) (dq D_B_fits_0_ok 6 rfl) rfl 0 rfl ?_
    refine r_invI (Mc := M_B_refuse) (pc := 11) (ci := 0) (rest := []) 0 1 [.int r2] (dq D_B_fits_0_ok 7 rfl) rfl rfl lc_B_refuse lv_B_refuse_ ml_B_87 rfl rfl rfl rfl (t_B_refuse v0 r2 h1) (fun r12 h11 => ?_)
    exact r_reti (pc := 14) (dq D_B_fits_0_ok 8 rfl) rfl
noncomputable def b_B_fitAt_86 (s0 : Int32) (s1 : Nat) (h : Hp) : Option (Int32 × Hp) := gd (hS h s1 = some (.inl 0)) (bd (f_B_grant s1 s0 h) fun r2 h1 => some (r2, h1))
set_option maxHeartbeats 4000000 in
set_option maxRecDepth 20000 in
theorem tb_B_fitAt_86 {G : GG} (s0 : Int32) (s1 : Nat) (h : Hp) : T G M_B_fitAt 3 cI 86 [] [.int s0, .ref s1] h (b_B_fitAt_86 s0 s1 h) := by
  unfold b_B_fitAt_86
  refine r_invI (Mc := M_B_grant) (pc := 86) (ci := 0) (rest := []) 0 1 [.int s0] (dq D_B_fitAt_0_ok 45 rfl) rfl rfl lc_B_grant lv_B_grant_ ml_B_109 rfl rfl rfl rfl (t_B_grant s1 s0 h) (fun r2 h1 => ?_)
  exact r_reti (pc := 89) (dq D_B_fitAt_0_ok 46 rfl) rfl
noncomputable def b_B_fitAt_41 (v0 : Nat) (h : Hp) : Option (Int32 × Hp) := gd (hS h v0 = some (.inl 0)) (bd (f_B_refuse v0 (1 : Int32) h) fun r2 h1 => some (r2, h1))
set_option maxHeartbeats 4000000 in
set_option maxRecDepth 20000 in
theorem tb_B_fitAt_41 {G : GG} (v0 : Nat) (h : Hp) : T G M_B_fitAt 3 cI 41 [(0, .ref v0)] [] h (b_B_fitAt_41 v0 h) := by
  unfold b_B_fitAt_41
  refine q_aload_n (pc := 41) (dq D_B_fitAt_0_ok 21 rfl) rfl 0 rfl ?_
  refine q_ic1 (pc := 42) (dq D_B_fitAt_0_ok 22 rfl) ?_
  refine r_invI (Mc := M_B_refuse) (pc := 43) (ci := 0) (rest := []) 0 1 [.int 1] (dq D_B_fitAt_0_ok 23 rfl) rfl rfl lc_B_refuse lv_B_refuse_ ml_B_87 rfl rfl rfl rfl (t_B_refuse v0 (1 : Int32) h) (fun r2 h1 => ?_)
  exact r_reti (pc := 46) (dq D_B_fitAt_0_ok 24 rfl) rfl
noncomputable def f_B_fitAt (v0 : Nat) (v1 : Int32) (h : Hp) : Option (Int32 × Hp) := gd (hS h v0 = some (.inl 0)) (bd (f_B_suspectTrouble v0 h) fun r2 h1 => if r2 = 0 then (gd (hS h1 v0 = some (.inl 0)) (bR (hR h1 v0 11) fun x3 => gd (hS h1 v0 = some (.inl 0)) (bR (hR h1 v0 3) fun x4 => gd (hS h1 x3 = some (.inl 8)) (bd (f_S_weigh x3 x4 h1) fun _ h5 => if v1 < 0 then (b_B_fitAt_41 v0 h5) else (gd (hS h5 v0 = some (.inl 0)) (bR (hR h5 v0 11) fun x7 => gd (hS h5 x7 = some (.inl 8)) (lt (hI h5 x7 4) fun x8 => if v1 < x8 then (gd (hS h5 v0 = some (.inl 0)) (bR (hR h5 v0 11) fun x9 => gd (hS h5 x9 = some (.inl 8)) (bR (hR h5 x9 3) fun x10 => gd (ai h5 x10 0 v1) (lt (hI h5 x10 v1.toNatClampNeg) fun x11 => gd (hS h5 v0 = some (.inl 0)) (bR (hR h5 v0 3) fun x12 => gd (hS h5 x12 = some (.inl 2)) (bR (hR h5 x12 3) fun x13 => gd (hS h5 v0 = some (.inl 0)) (bR (hR h5 v0 3) fun x14 => gd (hS h5 x14 = some (.inl 2)) (lt (hI h5 x14 12) fun x15 => gd (ai h5 x13 4 x15) (bR (hR h5 x13 x15.toNatClampNeg) fun x16 => gd (hS h5 x16 = some (.inl 3)) (lt (hI h5 x16 1) fun x17 => if x11 = x17 then (b_B_fitAt_86 ((-2)) v0 h5) else (b_B_fitAt_86 x11 v0 h5))))))))))) else (b_B_fitAt_41 v0 h5)))))))) else (gd (hS h1 v0 = some (.inl 0)) (bd (f_B_refuse v0 r2 h1) fun r19 h18 => some (r19, h18))))
set_option maxHeartbeats 4000000 in
set_option maxRecDepth 20000 in
theorem t_B_fitAt {G : GG} (v0 : Nat) (v1 : Int32) (h : Hp) : Mt G M_B_fitAt 3 [.ref v0, .int v1] cI h (f_B_fitAt v0 v1 h) := by
  refine Mt.ofF (by decide +kernel) rfl (Rt.i rfl rfl) ?_
  show T G M_B_fitAt 3 cI 0 [(0, .ref v0), (1, .int v1)] [] h _
  unfold f_B_fitAt
  refine q_aload_n (pc := 0) (dq D_B_fitAt_0_ok 0 rfl) rfl 0 rfl ?_
  refine r_invI (Mc := M_B_suspectTrouble) (pc := 1) (ci := 0) (rest := []) 1 0 [] (dq D_B_fitAt_0_ok 1 rfl) rfl rfl lc_B_suspectTrouble lv_B_suspectTrouble_ ml_B_255 rfl rfl rfl rfl (t_B_suspectTrouble v0 h) (fun r2 h1 => ?_)
  refine q_istore_n (pc := 4) (ls' := [(2, .int r2), (0, .ref v0), (1, .int v1)]) (dq D_B_fitAt_0_ok 2 rfl) rfl rfl rfl ?_
  refine q_iload_n (pc := 5) (dq D_B_fitAt_0_ok 3 rfl) rfl 0 rfl ?_
  refine p_if_eq (pc := 6) 15 (dq D_B_fitAt_0_ok 4 rfl) rfl ?_ ?_
  · refine q_aload_n (pc := 15) (dq D_B_fitAt_0_ok 9 rfl) rfl 1 rfl ?_
    refine q_getR (pc := 16) (dq D_B_fitAt_0_ok 10 rfl) fa_B_61 rfl (fun x3 => ?_)
    refine q_aload_n (pc := 19) (dq D_B_fitAt_0_ok 11 rfl) rfl 1 rfl ?_
    refine q_getR (pc := 20) (dq D_B_fitAt_0_ok 12 rfl) fa_B_23 rfl (fun x4 => ?_)
    refine r_invU (Mc := M_S_weigh) (pc := 23) (ci := 8) (rest := []) 2 1 [.ref x4] (dq D_B_fitAt_0_ok 13 rfl) rfl rfl lc_S_weigh lv_S_weigh_ ml_B_258 rfl rfl rfl rfl (t_S_weigh x3 x4 h1) (fun _ h5 => ?_)
    refine q_iload_n (pc := 26) (dq D_B_fitAt_0_ok 14 rfl) rfl 2 rfl ?_
    refine p_if_lt (pc := 27) 41 (dq D_B_fitAt_0_ok 15 rfl) rfl ?_ ?_
    · exact T.lsub [1] rfl (tb_B_fitAt_41 v0 h5)
    · refine q_iload_n (pc := 30) (dq D_B_fitAt_0_ok 16 rfl) rfl 2 rfl ?_
      refine q_aload_n (pc := 31) (dq D_B_fitAt_0_ok 17 rfl) rfl 1 rfl ?_
      refine q_getR (pc := 32) (dq D_B_fitAt_0_ok 18 rfl) fa_B_61 rfl (fun x7 => ?_)
      refine r_getI (pc := 35) (dq D_B_fitAt_0_ok 19 rfl) fa_B_262 rfl (fun x8 => ?_)
      refine q_ic_lt (pc := 38) 47 (dq D_B_fitAt_0_ok 20 rfl) rfl ?_ ?_
      · refine q_aload_n (pc := 47) (dq D_B_fitAt_0_ok 25 rfl) rfl 1 rfl ?_
        refine q_getR (pc := 48) (dq D_B_fitAt_0_ok 26 rfl) fa_B_61 rfl (fun x9 => ?_)
        refine q_getR (pc := 51) (dq D_B_fitAt_0_ok 27 rfl) fa_B_265 rfl (fun x10 => ?_)
        refine q_iload_n (pc := 54) (dq D_B_fitAt_0_ok 28 rfl) rfl 2 rfl ?_
        refine r_iald (pc := 55) (dq D_B_fitAt_0_ok 29 rfl) (fun x11 => ?_)
        refine q_istore_n (pc := 56) (ls' := [(3, .int x11), (2, .int r2), (0, .ref v0), (1, .int v1)]) (dq D_B_fitAt_0_ok 30 rfl) rfl rfl rfl ?_
        refine q_aload_n (pc := 57) (dq D_B_fitAt_0_ok 31 rfl) rfl 2 rfl ?_
        refine q_iload_n (pc := 58) (dq D_B_fitAt_0_ok 32 rfl) rfl 0 rfl ?_
        refine q_aload_n (pc := 59) (dq D_B_fitAt_0_ok 33 rfl) rfl 2 rfl ?_
        refine q_getR (pc := 60) (dq D_B_fitAt_0_ok 34 rfl) fa_B_23 rfl (fun x12 => ?_)
        refine q_getR (pc := 63) (dq D_B_fitAt_0_ok 35 rfl) fa_B_122 rfl (fun x13 => ?_)
        refine q_aload_n (pc := 66) (dq D_B_fitAt_0_ok 36 rfl) rfl 2 rfl ?_
        refine q_getR (pc := 67) (dq D_B_fitAt_0_ok 37 rfl) fa_B_23 rfl (fun x14 => ?_)
        refine r_getI (pc := 70) (dq D_B_fitAt_0_ok 38 rfl) fa_B_268 rfl (fun x15 => ?_)
        refine r_aald (pc := 73) 4 (dq D_B_fitAt_0_ok 39 rfl) rfl rfl (fun _ => rfl) (fun x16 => ?_)
        refine r_getI (pc := 74) (dq D_B_fitAt_0_ok 40 rfl) fa_B_131 rfl (fun x17 => ?_)
        refine q_ic_ne (pc := 77) 85 (dq D_B_fitAt_0_ok 41 rfl) rfl ?_ ?_
        · refine q_iload_n (pc := 85) (dq D_B_fitAt_0_ok 44 rfl) rfl 0 rfl ?_
          exact T.lsub [] rfl (tb_B_fitAt_86 x11 v0 h5)
        · refine q_bipush (pc := 80) (v := (-2)) (dq D_B_fitAt_0_ok 42 rfl) (by decide) ?_
          refine q_goto (pc := 82) 86 (dq D_B_fitAt_0_ok 43 rfl) rfl ?_
          exact T.lsub [] rfl (tb_B_fitAt_86 ((-2)) v0 h5)
      · exact T.lsub [1] rfl (tb_B_fitAt_41 v0 h5)
  · refine q_aload_n (pc := 9) (dq D_B_fitAt_0_ok 5 rfl) rfl 1 rfl ?_
    refine q_iload_n (pc := 10) (dq D_B_fitAt_0_ok 6 rfl) rfl 0 rfl ?_
    refine r_invI (Mc := M_B_refuse) (pc := 11) (ci := 0) (rest := []) 0 1 [.int r2] (dq D_B_fitAt_0_ok 7 rfl) rfl rfl lc_B_refuse lv_B_refuse_ ml_B_87 rfl rfl rfl rfl (t_B_refuse v0 r2 h1) (fun r19 h18 => ?_)
    exact r_reti (pc := 14) (dq D_B_fitAt_0_ok 8 rfl) rfl
