/-! String constants: their fields, their bytes, calls on them -/
def sby (k : Nat) (j : Nat) : Int32 := (sbyt.getD k []).getD j 0
section ZS
variable {G : GG} {M : MI} {d : Nat} {α β : Type} {cv : α → Option Value} {cc : β → Option Value} {pc i : Nat} {ls : List (Nat × Value)} {st rest : List Value} {h : Hp} {F : Option (α × Hp)} {Fc : Option (β × Hp)} {K : β → Hp → Option (α × Hp)} {Mc : MI}
theorem Rf.oldq {h : Hp} {H : Heap} (hR : Rf G h H) : ∀ a : Nat, a < (gH G).size → ¬ gF G a → H[a]? = (gH G)[a]? := fun a ha _ => (hR.2.2.1 a ha).1
theorem Cx.ks {p : Program} {R : Room} {s : State} {m : MethodId} {meth : Method} {c : Code} (C : Cx G M d p R s m meth c) : KS G s := C.2.2.2.2.2.1.2.2.2.2.2
theorem s_val {k : Nat} (hk : k < 24) (hd : decode (mB M) pc = .ok (.getfield i, 3)) (hl : Lk (.fieldLink (mY M).cls i "java/lang/String" "value" "[B")) (kk : T G M d cv (pc + 3) ls (.ref (gV G k) :: st) h F) : T G M d cv pc ls (.ref (gT G k) :: st) h F :=
  T.un trivial (T.rd (P := True) (fun _ C hR kk => by
    obtain ⟨cf, kc, fi, f, cell, h1, h2, h3, h4, h5, h6⟩ := (C.ks.2.1.1 k hk).2.2.1.kept hR.oldq
    exact W.getf C.1 C.2.1 C.2.2.2.1 (C.lk hl _) h1 h2 h3 h4 h5 rfl rfl hd kk) kk)
theorem s_cod {k : Nat} (hk : k < 24) (hd : decode (mB M) pc = .ok (.getfield i, 3)) (hl : Lk (.fieldLink (mY M).cls i "java/lang/String" "coder" "B")) (kk : T G M d cv (pc + 3) ls (.int 0 :: st) h F) : T G M d cv pc ls (.ref (gT G k) :: st) h F :=
  T.un trivial (T.rd (P := True) (fun _ C hR kk => by
    obtain ⟨cf, kc, fi, f, cell, h1, h2, h3, h4, h5, h6⟩ := (C.ks.2.1.1 k hk).2.1.kept hR.oldq
    exact W.getf C.1 C.2.1 C.2.2.2.1 (C.lk hl _) h1 h2 h3 h4 h5 rfl rfl hd kk) kk)
theorem s_len {k : Nat} (hk : k < 24) (hd : decode (mB M) pc = .ok (.arraylength, 1)) (kk : T G M d cv (pc + 1) ls (.int (Int32.ofNat (slen.getD k 0)) :: st) h F) : T G M d cv pc ls (.ref (gV G k) :: st) h F :=
  T.un trivial (T.rd (P := True) (fun _ C hR kk => by
    obtain ⟨cell, h1, h2, h3, h4, h5, h6, h7⟩ := (C.ks.2.1.1 k hk).2.2.2.kept hR.oldq
    exact W.alen C.1 C.2.1 h1 h2 h5 rfl rfl hd kk) kk)
theorem s_bal {k j : Nat} (hk : k < 24) (hj : j < slen.getD k 0) (hj2 : j < 2 ^ 31) (hd : decode (mB M) pc = .ok (.baload, 1)) (kk : T G M d cv (pc + 1) ls (.int (sby k j) :: st) h F) : T G M d cv pc ls (.int (nI j) :: .ref (gV G k) :: st) h F :=
  T.un trivial (T.rd (P := True) (fun _ C hR kk => by
    obtain ⟨cell, h1, h2, h3, h4, h5, h6, h7⟩ := (C.ks.2.1.1 k hk).2.2.2.kept hR.oldq
    have e : (nI j).toNatClampNeg = j := nI_clamp hj2
    refine W.bald C.1 C.2.1 h1 h2 h3 (fun q => ?_) (v := .int (sby k j)) (by rw [e]; exact h6 j hj) rfl rfl hd kk
    rcases q with q | q
    · exact nI_pos hj2 q
    · rw [e] at q
      omega) kk)
theorem s_gsc (hd : decode (mB M) pc = .ok (.getstatic i, 3)) (hl : Lk (.fieldLink (mY M).cls i "java/lang/String" "COMPACT_STRINGS" "Z")) (kk : T G M d cv (pc + 3) ls (.int 1 :: st) h F) : T G M d cv pc ls st h F :=
  T.un trivial (T.rd (P := True) (fun _ C hR kk => by
    obtain ⟨cf, kf, fi, f, a, cell, h1, h2, h3, h4, h5, h6, h7, h8⟩ := C.ks.2.2.2.1.kept hR.oldq
    exact W.gets C.1 C.2.1 C.2.2.2.1 (C.lk hl _) h1 h2 h3 h4 h5 (fun e => by rw [e] at h6; cases h6) h7 rfl hd kk) kk)
theorem s_gsq (hd : decode (mB M) pc = .ok (.getstatic i, 3)) (hl : Lk (.fieldLink (mY M).cls i "jdk/internal/util/Preconditions" "SIOOBE_FORMATTER" "Ljava/util/function/BiFunction;")) (kk : ∀ v : Option Nat, T G M d cv (pc + 3) ls (va_rf v :: st) h F) : T G M d cv pc ls st h F := by
  intro r h' hF
  have hb := (kk none r h' hF).1
  refine ⟨hb, fun p l e R s m args below meth c H locs cells slots Q ls0 C lf h1 h2 hR hSv hl2 hret => ?_⟩
  rcases C.ks.2.2.2.2.1.kept hR.oldq with hz | ⟨t, hz⟩
  · obtain ⟨cf, kf, fi, f, a, cell, g1, g2, g3, g4, g5, g6, g7, g8⟩ := hz
    exact W.gets C.1 C.2.1 C.2.2.2.1 (C.lk hl _) g1 g2 g3 g4 g5 (fun e => by rw [e] at g6; cases g6) g7 rfl hd ((kk none r h' hF).2 p l e R s m args below meth c H locs cells slots Q ls0 C lf h1 h2 hR hSv hl2 hret)
  · obtain ⟨cf, kf, fi, f, a, cell, g1, g2, g3, g4, g5, g6, g7, g8⟩ := hz
    exact W.gets C.1 C.2.1 C.2.2.2.1 (C.lk hl _) g1 g2 g3 g4 g5 (fun e => by rw [e] at g6; cases g6) g7 rfl hd ((kk (some t) r h' hF).2 p l e R s m args below meth c H locs cells slots Q ls0 C lf h1 h2 hR hSv hl2 hret)
/-- a call on a String constant -/
theorem r_invS {k : Nat} (hk : k < 24) (dc n : Nat) (As : List Value) (hd : decode (mB M) pc = .ok (.invokevirtual i, 3)) (hy : (mY Mc).cls = "java/lang/String") (hc : LkC Mc n) (hv : LkV Mc) (hl : Lk (.methodLink (mY M).cls i (mY Mc))) (hdd : Nat.ble (dc + 1) d = true) (hn : As.length = n) (hst : st = As.reverse ++ .ref (gT G k) :: rest) (hw : Nat.ble (rest.map fun v => v.category).sum 8 = true) (hM : Mt G Mc dc (.ref (gT G k) :: As) cc h Fc) (kk : ∀ r h1, T G M d cv (pc + 3) ls ((cc r).toList ++ rest) h1 (K r h1)) : T G M d cv pc ls st h (bd Fc K) := by
  have hdd := Nat.le_of_ble_eq_true hdd
  have hw := Nat.le_of_ble_eq_true hw
  refine T.call hM (fun {p l e R s m args below meth c H locs cells slots ls0 Qc mc ms} C hR hz met hf => ?_) kk
  obtain ⟨cell, q1, q2, q3, q4⟩ := (C.ks.2.1.1 k hk).1.kept hR.oldq
  have hpre : PreV s H (mY Mc).cls (gT G k) (va_Pc (.ref (gT G k) :: As) (fun U => Rf G h U.heap ∧ KG G U)) As := ⟨Pm_blind, ⟨cell, q1, q2, by rw [hy]; exact q3⟩, (C.pre hR).2⟩
  exact va_runV C.fix met ⟨C.cb hc hl hdd, C.lk hv.1 _, C.lk hv.2 _⟩ hpre rfl hn hz hst (by show 2 * 0 + _ ≤ 8; omega) hd hf
def c0 (_ : Unit) : Option Value := some (.int 0)
/-- a char below 256 -/
def cC (n : Nat) : Option Value := some (.int (nI (n % 256)))
theorem Rt.b0 (h1 : mR M = some .byte) (h2 : mE M = .ireturn) : Rt M c0 := by
  intro r _ p l e R s m args below meth c H locs cells slots Qc free pc ls hx hb hr hl hq hf hd
  rw [mN1 h2 rfl, h2] at hd
  rw [h1] at hr
  exact W.zret hx hb hr rfl hq hf hd hl
theorem Rt.c (h1 : mR M = some .char) (h2 : mE M = .ireturn) : Rt M cC := by
  intro r _ p l e R s m args below meth c H locs cells slots Qc free pc ls hx hb hr hl hq hf hd
  rw [mN1 h2 rfl, h2] at hd
  rw [h1] at hr
  exact W.zret hx hb hr (pk_charN (Nat.lt_of_lt_of_le (Nat.mod_lt r (by decide)) (by decide))).1 hq hf hd hl
theorem q_i2c {x v : Int32} (hd : decode (mB M) pc = .ok (.i2c, 1)) (hv : (x.toUInt32 % 65536).toInt32 = v) (k : T G M d cv (pc + 1) ls (.int v :: st) h F) : T G M d cv pc ls (.int x :: st) h F := T.lift (fun C _ kk => lv_i2c C.1 C.2.1 hd hv kk) k
end ZS
