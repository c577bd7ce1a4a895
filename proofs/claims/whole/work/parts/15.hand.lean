/-! the JDK's String members over the constants; packed -/
section ZH
variable {G : GG} {M : MI} {d : Nat} {α β : Type} {cv : α → Option Value} {cc : β → Option Value} {pc i : Nat} {ls : List (Nat × Value)} {st rest : List Value} {h : Hp} {F : Option (α × Hp)} {Mc : MI} {r0 : β}
theorem T.cong {F F' : Option (α × Hp)} (e : F = F') (k : T G M d cv pc ls st h F') : T G M d cv pc ls st h F := by rw [e]; exact k
theorem kc_eq : F = bd (some (r0, h)) (fun r h1 => gd (r = r0 ∧ h1 = h) F) := (gd_pos ⟨rfl, rfl⟩).symm
theorem r_insk (dc n : Nat) (As : List Value) (hd : decode (mB M) pc = .ok (.invokestatic i, 3)) (hc : LkC Mc n) (hs : Lk (.static (mY Mc))) (hl : MLk (mY M).cls i (mY Mc)) (hdd : Nat.ble (dc + 1) d = true) (hn : As.length = n) (hst : st = As.reverse ++ rest) (hw : Nat.ble (rest.map fun v => v.category).sum 8 = true) (hM : Mt G Mc dc As cc h (some (r0, h))) (kk : T G M d cv (pc + 3) ls ((cc r0).toList ++ rest) h F) : T G M d cv pc ls st h F :=
  T.cong kc_eq (r_ins dc n As hd hc hs hl hdd hn hst hw hM (fun r h1 => T.gd fun hP => by rw [hP.1, hP.2]; exact kk))
theorem r_invk {k : Nat} (hk : k < 24) (dc n : Nat) (As : List Value) (hd : decode (mB M) pc = .ok (.invokevirtual i, 3)) (hy : (mY Mc).cls = "java/lang/String") (hc : LkC Mc n) (hv : LkV Mc) (hl : Lk (.methodLink (mY M).cls i (mY Mc))) (hdd : Nat.ble (dc + 1) d = true) (hn : As.length = n) (hst : st = As.reverse ++ .ref (gT G k) :: rest) (hw : Nat.ble (rest.map fun v => v.category).sum 8 = true) (hM : Mt G Mc dc (.ref (gT G k) :: As) cc h (some (r0, h))) (kk : T G M d cv (pc + 3) ls ((cc r0).toList ++ rest) h F) : T G M d cv pc ls st h F :=
  T.cong kc_eq (r_invS hk dc n As hd hy hc hv hl hdd hn hst hw hM (fun r h1 => T.gd fun hP => by rw [hP.1, hP.2]; exact kk))
theorem okX {l : List Value} {t : Option FieldType} {ty : FieldType} (h : t = some ty) (hne : ty ≠ .boolean) : okv t l := by
  intro e; rw [h] at e; exact absurd (Option.some.inj e) hne
end ZH
def sbn (k j : Nat) : Nat := (sby k j &&& 255).toBitVec.toNat
theorem sbn_ok : ∀ k, k < 24 → ∀ j, j < slen.getD k 0 → ((sby k j &&& 255).toUInt32 % 65536).toInt32 = nI (sbn k j % 256) := by decide +kernel
theorem slen_ok : ∀ k, k < 24 → slen.getD k 0 < 2 ^ 31 ∧ Int32.ofNat (slen.getD k 0) >>> ((0 : Int32) &&& 31) = Int32.ofNat (slen.getD k 0) := by decide +kernel
theorem t_Pre_checkIndex {G : GG} {j n : Nat} (v : Option Nat) (h : Hp) (hj : j < n) (hn : n < 2 ^ 31) : Mt G M_Pre_checkIndex 0 [.int (nI j), .int (nI n), va_rf v] cI h (some (nI j, h)) := by
  cases v with
  | none =>
    refine Mt.ofF (by decide +kernel) rfl (Rt.i rfl rfl) ?_
    show T G M_Pre_checkIndex 0 cI 0 [(0, .int (nI j)), (1, .int (nI n)), (2, .null)] [] h _
    refine q_iload_n (pc := 0) (dq D_Pre_checkIndex_0_ok 0 rfl) rfl 0 rfl ?_
    refine T.cong (if_neg (nI_pos (Nat.lt_trans hj hn))).symm (p_if_lt (pc := 1) (F1 := none) 9 (dq D_Pre_checkIndex_0_ok 1 rfl) rfl q_none ?_)
    refine q_iload_n (pc := 4) (dq D_Pre_checkIndex_0_ok 2 rfl) rfl 0 rfl ?_
    refine q_iload_n (pc := 5) (dq D_Pre_checkIndex_0_ok 3 rfl) rfl 1 rfl ?_
    refine T.cong (if_pos (nI_lt hj hn)).symm (q_ic_lt (pc := 6) (F2 := none) 16 (dq D_Pre_checkIndex_0_ok 4 rfl) rfl ?_ q_none)
    refine q_iload_n (pc := 16) (dq D_Pre_checkIndex_0_ok 5 rfl) rfl 0 rfl ?_
    exact r_reti (pc := 17) (dq D_Pre_checkIndex_0_ok 6 rfl) rfl
  | some a =>
    refine Mt.ofF (by decide +kernel) rfl (Rt.i rfl rfl) ?_
    show T G M_Pre_checkIndex 0 cI 0 [(0, .int (nI j)), (1, .int (nI n)), (2, .ref a)] [] h _
    refine q_iload_n (pc := 0) (dq D_Pre_checkIndex_0_ok 0 rfl) rfl 0 rfl ?_
    refine T.cong (if_neg (nI_pos (Nat.lt_trans hj hn))).symm (p_if_lt (pc := 1) (F1 := none) 9 (dq D_Pre_checkIndex_0_ok 1 rfl) rfl q_none ?_)
    refine q_iload_n (pc := 4) (dq D_Pre_checkIndex_0_ok 2 rfl) rfl 0 rfl ?_
    refine q_iload_n (pc := 5) (dq D_Pre_checkIndex_0_ok 3 rfl) rfl 1 rfl ?_
    refine T.cong (if_pos (nI_lt hj hn)).symm (q_ic_lt (pc := 6) (F2 := none) 16 (dq D_Pre_checkIndex_0_ok 4 rfl) rfl ?_ q_none)
    refine q_iload_n (pc := 16) (dq D_Pre_checkIndex_0_ok 5 rfl) rfl 0 rfl ?_
    exact r_reti (pc := 17) (dq D_Pre_checkIndex_0_ok 6 rfl) rfl
theorem t_Str_checkIndex {G : GG} {j n : Nat} (h : Hp) (hj : j < n) (hn : n < 2 ^ 31) : Mt G M_Str_checkIndex 1 [.int (nI j), .int (nI n)] cU h (some ((), h)) := by
  refine Mt.ofF (by decide +kernel) rfl (Rt.v rfl rfl) ?_
  show T G M_Str_checkIndex 1 cU 0 [(0, .int (nI j)), (1, .int (nI n))] [] h _
  refine q_iload_n (pc := 0) (dq D_Str_checkIndex_0_ok 0 rfl) rfl 0 rfl ?_
  refine q_iload_n (pc := 1) (dq D_Str_checkIndex_0_ok 1 rfl) rfl 1 rfl ?_
  refine s_gsq (pc := 2) (dq D_Str_checkIndex_0_ok 2 rfl) ws_form (fun v => ?_)
  refine r_insk (pc := 5) (rest := []) 0 3 [.int (nI j), .int (nI n), va_rf v] (dq D_Str_checkIndex_0_ok 3 rfl) lc_Pre_checkIndex ls_Pre_checkIndex ml_Str_1059 rfl rfl rfl rfl (t_Pre_checkIndex v h hj hn) ?_
  refine q_pop (pc := 8) (v := .int (nI j)) (dq D_Str_checkIndex_0_ok 4 rfl) rfl ?_
  exact r_retu (pc := 9) (dq D_Str_checkIndex_0_ok 5 rfl) rfl
theorem t_Lat_charAt {G : GG} {k j : Nat} (h : Hp) (hk : k < 24) (hj : j < slen.getD k 0) : Mt G M_Lat_charAt 2 [.ref (gV G k), .int (nI j)] cC h (some (sbn k j, h)) := by
  have hn := (slen_ok k hk).1
  refine Mt.ofF (by decide +kernel) rfl (Rt.c rfl rfl) ?_
  show T G M_Lat_charAt 2 cC 0 [(0, .ref (gV G k)), (1, .int (nI j))] [] h _
  refine q_iload_n (pc := 0) (dq D_Lat_charAt_0_ok 0 rfl) rfl 1 rfl ?_
  refine q_aload_n (pc := 1) (dq D_Lat_charAt_0_ok 1 rfl) rfl 0 rfl ?_
  refine s_len (pc := 2) hk (dq D_Lat_charAt_0_ok 2 rfl) ?_
  refine r_insk (pc := 3) (rest := []) 1 2 [.int (nI j), .int (nI (slen.getD k 0))] (dq D_Lat_charAt_0_ok 3 rfl) lc_Str_checkIndex ls_Str_checkIndex ml_Lat_9 rfl rfl rfl rfl (t_Str_checkIndex h hj hn) ?_
  refine q_aload_n (pc := 6) (st := []) (dq D_Lat_charAt_0_ok 4 rfl) rfl 0 rfl ?_
  refine q_iload_n (pc := 7) (dq D_Lat_charAt_0_ok 5 rfl) rfl 1 rfl ?_
  refine s_bal (pc := 8) hk hj (Nat.lt_trans hj hn) (dq D_Lat_charAt_0_ok 6 rfl) ?_
  refine q_sipush (pc := 9) (v := 255) (dq D_Lat_charAt_0_ok 7 rfl) (by decide) ?_
  refine q_iand (pc := 12) (dq D_Lat_charAt_0_ok 8 rfl) ?_
  refine q_i2c (pc := 13) (dq D_Lat_charAt_0_ok 9 rfl) (sbn_ok k hk j hj) ?_
  exact q_ret (pc := 14) (x := sbn k j) (dq D_Lat_charAt_0_ok 10 rfl) rfl (okX (ty := .char) rfl (by decide))
theorem t_Str_isLatin1 {G : GG} {k : Nat} (h : Hp) (hk : k < 24) : Mt G M_Str_isLatin1 0 [.ref (gT G k)] cI h (some (1, h)) := by
  refine Mt.ofF (by decide +kernel) rfl (Rt.z rfl rfl) ?_
  show T G M_Str_isLatin1 0 cI 0 [(0, .ref (gT G k))] [] h _
  refine s_gsc (pc := 0) (dq D_Str_isLatin1_0_ok 0 rfl) ws_comp ?_
  refine T.cong (if_neg (show ¬ (1 : Int32) = 0 by decide)).symm (p_if_eq (pc := 3) (F1 := none) 17 (dq D_Str_isLatin1_0_ok 1 rfl) rfl q_none ?_)
  refine q_aload_n (pc := 6) (dq D_Str_isLatin1_0_ok 2 rfl) rfl 0 rfl ?_
  refine s_cod (pc := 7) hk (dq D_Str_isLatin1_0_ok 3 rfl) ws_cod ?_
  refine T.cong (if_pos (show (0 : Int32) = 0 from rfl)).symm (p_if_ne (pc := 10) (F1 := none) 17 (dq D_Str_isLatin1_0_ok 4 rfl) rfl q_none ?_)
  refine q_ic1 (pc := 13) (dq D_Str_isLatin1_0_ok 5 rfl) ?_
  refine q_goto (pc := 14) 18 (dq D_Str_isLatin1_0_ok 6 rfl) rfl ?_
  exact T.un (P := zb 1) (Or.inr rfl) (r_retz (pc := 18) (dq D_Str_isLatin1_0_ok 8 rfl) rfl)
theorem t_Str_coder {G : GG} {k : Nat} (h : Hp) (hk : k < 24) : Mt G M_Str_coder 0 [.ref (gT G k)] c0 h (some ((), h)) := by
  refine Mt.ofF (by decide +kernel) rfl (Rt.b0 rfl rfl) ?_
  show T G M_Str_coder 0 c0 0 [(0, .ref (gT G k))] [] h _
  refine s_gsc (pc := 0) (dq D_Str_coder_0_ok 0 rfl) ws_comp ?_
  refine T.cong (if_neg (show ¬ (1 : Int32) = 0 by decide)).symm (p_if_eq (pc := 3) (F1 := none) 13 (dq D_Str_coder_0_ok 1 rfl) rfl q_none ?_)
  refine q_aload_n (pc := 6) (dq D_Str_coder_0_ok 2 rfl) rfl 0 rfl ?_
  refine s_cod (pc := 7) hk (dq D_Str_coder_0_ok 3 rfl) ws_cod ?_
  refine q_goto (pc := 10) 14 (dq D_Str_coder_0_ok 4 rfl) rfl ?_
  exact q_ret (pc := 14) (x := ()) (dq D_Str_coder_0_ok 6 rfl) rfl (okX (ty := .byte) rfl (by decide))
theorem t_Str_length {G : GG} {k : Nat} (h : Hp) (hk : k < 24) : Mt G M_Str_length 1 [.ref (gT G k)] cI h (some (Int32.ofNat (slen.getD k 0), h)) := by
  refine Mt.ofF (by decide +kernel) rfl (Rt.i rfl rfl) ?_
  show T G M_Str_length 1 cI 0 [(0, .ref (gT G k))] [] h _
  refine q_aload_n (pc := 0) (dq D_Str_length_0_ok 0 rfl) rfl 0 rfl ?_
  refine s_val (pc := 1) hk (dq D_Str_length_0_ok 1 rfl) ws_val ?_
  refine s_len (pc := 4) hk (dq D_Str_length_0_ok 2 rfl) ?_
  refine q_aload_n (pc := 5) (dq D_Str_length_0_ok 3 rfl) rfl 0 rfl ?_
  refine r_invk (pc := 6) (rest := [.int (Int32.ofNat (slen.getD k 0))]) hk 0 0 [] (dq D_Str_length_0_ok 4 rfl) rfl lc_Str_coder lv_Str_coder_ mk_Str_335 rfl rfl rfl rfl (t_Str_coder h hk) ?_
  refine q_ishr (pc := 9) (x := Int32.ofNat (slen.getD k 0)) (y := 0) (dq D_Str_length_0_ok 5 rfl) ?_
  rw [(slen_ok k hk).2]
  exact r_reti (pc := 10) (dq D_Str_length_0_ok 6 rfl) rfl
theorem t_Str_charAt {G : GG} {k j : Nat} (h : Hp) (hk : k < 24) (hj : j < slen.getD k 0) : Mt G M_Str_charAt 3 [.ref (gT G k), .int (nI j)] cC h (some (sbn k j, h)) := by
  refine Mt.ofF (by decide +kernel) rfl (Rt.c rfl rfl) ?_
  show T G M_Str_charAt 3 cC 0 [(0, .ref (gT G k)), (1, .int (nI j))] [] h _
  refine q_aload_n (pc := 0) (dq D_Str_charAt_0_ok 0 rfl) rfl 0 rfl ?_
  refine r_invk (pc := 1) (rest := []) hk 0 0 [] (dq D_Str_charAt_0_ok 1 rfl) rfl lc_Str_isLatin1 lv_Str_isLatin1_ mk_Str_492 rfl rfl rfl rfl (t_Str_isLatin1 h hk) ?_
  refine T.cong (if_neg (show ¬ (1 : Int32) = 0 by decide)).symm (p_if_eq (pc := 4) (F1 := none) 16 (dq D_Str_charAt_0_ok 2 rfl) rfl q_none ?_)
  refine q_aload_n (pc := 7) (dq D_Str_charAt_0_ok 3 rfl) rfl 0 rfl ?_
  refine s_val (pc := 8) hk (dq D_Str_charAt_0_ok 4 rfl) ws_val ?_
  refine q_iload_n (pc := 11) (dq D_Str_charAt_0_ok 5 rfl) rfl 1 rfl ?_
  refine r_insk (pc := 12) (rest := []) 2 2 [.ref (gV G k), .int (nI j)] (dq D_Str_charAt_0_ok 6 rfl) lc_Lat_charAt ls_Lat_charAt ml_Str_495 rfl rfl rfl rfl (t_Lat_charAt h hk hj) ?_
  exact q_ret (pc := 15) (x := sbn k j) (dq D_Str_charAt_0_ok 7 rfl) rfl (okX (ty := .char) rfl (by decide))
/-- what packed has made of the first j signs -/
def pacc (k : Nat) : Nat → Int64
  | 0 => 0
  | j + 1 => 32 * pacc k j + (nI (sbn k j % 256) - 97 + 1).toInt64
noncomputable def f_m_packed (v0 : Nat) (h : Hp) : Option (Int64 × Hp) := gd (v0 < 24) (some (pacc v0 (slen.getD v0 0), h))
theorem t_m_packed_4 {G : GG} {k : Nat} (h : Hp) (hk : k < 24) (m : Nat) : ∀ j, j + m = slen.getD k 0 → T G M_m_packed 4 cL 4 [(3, .int (nI j)), (1, .long (pacc k j)), (0, .ref (gT G k))] [] h (some (pacc k (slen.getD k 0), h)) := by
  have hn := (slen_ok k hk).1
  induction m with
  | zero =>
    intro j hj
    refine q_iload_n (pc := 4) (dq D_m_packed_0_ok 4 rfl) rfl 0 rfl ?_
    refine q_aload_n (pc := 5) (dq D_m_packed_0_ok 5 rfl) rfl 2 rfl ?_
    refine r_invk (pc := 6) (rest := [.int (nI j)]) hk 1 0 [] (dq D_m_packed_0_ok 6 rfl) rfl lc_Str_length lv_Str_length_ mk_m_74 rfl rfl rfl rfl (t_Str_length h hk) ?_
    refine T.cong (if_pos (show Int32.ofNat (slen.getD k 0) ≤ nI j by rw [← hj]; exact Int32.le_refl _)).symm (q_ic_ge (pc := 9) (F2 := none) 36 (dq D_m_packed_0_ok 7 rfl) rfl ?_ q_none)
    refine q_lload_n (pc := 36) (dq D_m_packed_0_ok 22 rfl) rfl 1 rfl ?_
    rw [show j = slen.getD k 0 by omega]
    exact r_retl (pc := 37) (dq D_m_packed_0_ok 23 rfl) rfl
  | succ m ih =>
    intro j hj
    refine q_iload_n (pc := 4) (dq D_m_packed_0_ok 4 rfl) rfl 0 rfl ?_
    refine q_aload_n (pc := 5) (dq D_m_packed_0_ok 5 rfl) rfl 2 rfl ?_
    refine r_invk (pc := 6) (rest := [.int (nI j)]) hk 1 0 [] (dq D_m_packed_0_ok 6 rfl) rfl lc_Str_length lv_Str_length_ mk_m_74 rfl rfl rfl rfl (t_Str_length h hk) ?_
    refine T.cong (if_neg (nI_ge (show j < slen.getD k 0 by omega) hn)).symm (q_ic_ge (pc := 9) (F1 := none) 36 (dq D_m_packed_0_ok 7 rfl) rfl q_none ?_)
    refine q_ldc2 (pc := 12) (v := 32) (dq D_m_packed_0_ok 8 rfl) lk_m_80 ?_
    refine q_lload_n (pc := 15) (dq D_m_packed_0_ok 9 rfl) rfl 1 rfl ?_
    refine q_lmul (pc := 16) (dq D_m_packed_0_ok 10 rfl) ?_
    refine q_aload_n (pc := 17) (dq D_m_packed_0_ok 11 rfl) rfl 2 rfl ?_
    refine q_iload_n (pc := 18) (dq D_m_packed_0_ok 12 rfl) rfl 0 rfl ?_
    refine r_invk (pc := 19) (rest := [.long (32 * pacc k j)]) hk 3 1 [.int (nI j)] (dq D_m_packed_0_ok 13 rfl) rfl lc_Str_charAt lv_Str_charAt_ mk_m_82 rfl rfl rfl rfl (t_Str_charAt h hk (show j < slen.getD k 0 by omega)) ?_
    refine q_bipush (pc := 22) (v := 97) (dq D_m_packed_0_ok 14 rfl) (by decide) ?_
    refine q_isub (pc := 24) (x := nI (sbn k j % 256)) (dq D_m_packed_0_ok 15 rfl) ?_
    refine q_ic1 (pc := 25) (dq D_m_packed_0_ok 16 rfl) ?_
    refine q_iadd (pc := 26) (dq D_m_packed_0_ok 17 rfl) ?_
    refine q_i2l (pc := 27) (dq D_m_packed_0_ok 18 rfl) ?_
    refine q_ladd (pc := 28) (dq D_m_packed_0_ok 19 rfl) ?_
    refine q_lstore_n (pc := 29) (ls' := [(1, .long (32 * pacc k j + (nI (sbn k j % 256) - 97 + 1).toInt64)), (3, .int (nI j)), (0, .ref (gT G k))]) (dq D_m_packed_0_ok 20 rfl) rfl rfl rfl ?_
    refine q_iinc (pc := 30) (v := 1) (ls' := [(3, .int (nI j + 1)), (1, .long (32 * pacc k j + (nI (sbn k j % 256) - 97 + 1).toInt64)), (0, .ref (gT G k))]) (dq D_m_packed_0_ok 21 rfl) 1 rfl (by decide) rfl rfl ?_
    refine q_goto (pc := 33) 4 (dq D_m_packed_0_ok 24 rfl) rfl ?_
    rw [nI_1]
    exact ih (j + 1) (by omega)
theorem t_m_packed {G : GG} (v0 : Nat) (h : Hp) : Mt G M_m_packed 4 [.ref (gT G v0)] cL h (f_m_packed v0 h) := by
  refine Mt.ofF (by decide +kernel) rfl (Rt.l rfl rfl) ?_
  show T G M_m_packed 4 cL 0 [(0, .ref (gT G v0))] [] h _
  unfold f_m_packed
  refine T.gd fun hk => ?_
  refine q_lconst (pc := 0) (v := 0) (dq D_m_packed_0_ok 0 rfl) (by decide) ?_
  refine q_lstore_n (pc := 1) (ls' := [(1, .long 0), (0, .ref (gT G v0))]) (dq D_m_packed_0_ok 1 rfl) rfl rfl rfl ?_
  refine q_ic0 (pc := 2) (dq D_m_packed_0_ok 2 rfl) ?_
  refine q_istore_n (pc := 3) (ls' := [(3, .int 0), (1, .long 0), (0, .ref (gT G v0))]) (dq D_m_packed_0_ok 3 rfl) rfl rfl rfl ?_
  exact t_m_packed_4 h hk (slen.getD v0 0) 0 (by omega)
