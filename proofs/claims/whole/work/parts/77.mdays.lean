/-! days at the reference: turned one after the other -/
def tnI (D : DD) : Nat → (Nat → Nat) → Nat → Nat
  | 0, V => V
  | n + 1, V => tnX D (tnI D n V)
section TN
variable {D : DD} {V : Nat → Nat}
theorem tnI_0 (n : Nat) : tnI D n V 0 = V 0 + n ∧ tnI D n V 1 = V 1 - n := by
  induction n with
  | zero => exact ⟨rfl, rfl⟩
  | succ n ih =>
    have e0 : tnI D (n + 1) V 0 = tnI D n V 0 + 1 := rfl
    have e1 : tnI D (n + 1) V 1 = tnI D n V 1 - 1 := rfl
    rw [e0, e1, ih.1, ih.2]
    omega
theorem tnI_t {w : Nat} (hw : w < dW D) (n : Nat) : tnI D n V (3 + w) = it (wf D w) (wg D V w n) (V (3 + w)) := by
  induction n with
  | zero =>
    show V (3 + w) = it (wf D w) (gs (dK D w) (V 0) (V 1) 0) (V (3 + w))
    rw [gs_0]
    rfl
  | succ n ih =>
    have e3 : tnI D (n + 1) V (3 + w) = mt D true (tnI D n V) w := by
      show (if 3 + w = 1 then tnI D n V 1 - 1 else if 3 + w = 0 then tnI D n V 0 + 1 else mvV D true (tnI D n V) (dW D) (3 + w)) = _
      rw [if_neg (by omega), if_neg (by omega), mvV_at hw]
    rw [e3]
    unfold mt gnB
    rw [(tnI_0 n).1, (tnI_0 n).2, ih, dir_t]
    have hs := gs_s (k := dK D w) (d := V 0) (o := V 1) (n := n)
    have hs : wg D V w (n + 1) = wg D V w n + (if gon (dK D w) (V 0 + n) (V 1 - n) = true then 1 else 0) := hs
    rw [hs]
    by_cases q : gon (dK D w) (V 0 + n) (V 1 - n) = true
    · rw [if_pos q, if_pos q]
      rfl
    · rw [if_neg q, if_neg q]
      rfl
theorem on_eq (f n : Nat) : isOnB D (tnI D n V) f = onW (wf D) D V f n := by
  unfold isOnB onW
  refine decide_eq_decide.mpr ⟨fun g w hw => ?_, fun g w hw => ?_⟩
  · rw [← tnI_t hw]
    exact g w hw
  · rw [tnI_t hw]
    exact g w hw
theorem tnI_wf (W : Wf D) (k : Nat) : ∀ n, WfN D V (n + k) → WfN D (tnI D k V) n := by
  induction k with
  | zero => intro n g; exact g
  | succ k ih =>
    intro n g
    exact WfN.tnX_ W (ih (n + 1) (by rw [show n + 1 + k = n + (k + 1) by omega]; exact g))
end TN
section MD
variable {h : Hp} {m q : Nat} {D : DD} {V : Nat → Nat}
/-- what the reference's days need -/
def DX (h : Hp) (m q : Nat) (D : DD) (V : Nat → Nat) : Prop := LayM h m ∧ hR h m 3 = some q ∧ m + 14 ≤ q ∧ RepQ h q D ∧ Wf D ∧ RepX h (m + 2) V ∧ WfN D V 5002
theorem DX.fk {h' : Hp} (X : DX h m q D V) (F : Fk (sX m) h h') : DX h' m q D V := by
  obtain ⟨x1, x2, x3, x4, x5, x6, x7⟩ := X
  exact ⟨x1.fk F, by rw [F.2.2.2.1]; exact x2, x3, x4.fk F (fun i k hi e => by unfold sX at e; omega), x5, x6.fk F (fun k e => by unfold sX at e; omega), x7⟩
theorem ok_m_works' (X : DX h m q D V) : Ok (f_m_works m h) (fun _ h' => Fk (sX m) h h' ∧ RepX h' (m + 3) (tnI D 0 V)) := ok_m_works X.1 X.2.2.2.2.2.1
theorem ok_m_step (X : DX h m q D V) {n : Nat} (hn : n < 5002) (v : RepX h (m + 3) (tnI D n V)) : Ok (f_m_aTurn m h) (fun _ h' => Fk (sX m) h h' ∧ RepX h' (m + 3) (tnI D (n + 1) V)) := by
  obtain ⟨x1, x2, x3, x4, x5, x6, x7⟩ := X
  refine ok_mono (ok_m_aTurn x1 x2 x3 x4 x5 v (tnI_wf x5 n (5002 - n) (by rw [show 5002 - n + n = 5002 by omega]; exact x7)).wf) (fun _ h' hh => ⟨hh.2.1, hh.2.2⟩)
theorem e_m_onD (X : DX h m q D V) {n f : Nat} (hn : n ≤ 5002) (v : RepX h (m + 3) (tnI D n V)) (hf : f < dF D) : f_m_isOn m (nI f) h = some (bI (onW (wf D) D V f n), h) := by
  obtain ⟨x1, x2, x3, x4, x5, x6, x7⟩ := X
  rw [e_m_isOn x1 x2 x4 x5 v (tnI_wf x5 n (5002 - n) (by rw [show 5002 - n + n = 5002 by omega]; exact x7)).wf hf, on_eq]
theorem ok_m_nextOf (X : DX h m q D V) {f g : Nat} (hf : f < dF D) (hg : g < dF D) : Ok (f_m_nextOf m (nI f) (nI g) h) (fun y h' => y = oI (fd (fun n => onW (wf D) D V f n && onW (wf D) D V g n) 1 5000) ∧ Fk (sX m) h h') := by
  generalize hP : (fun n => onW (wf D) D V f n && onW (wf D) D V g n) = P
  have hPn : ∀ n, P n = (onW (wf D) D V f n && onW (wf D) D V g n) := fun n => by rw [← hP]
  unfold f_m_nextOf
  refine ok_gd X.1.1 (ok_bd (ok_mono (ok_m_works' X) ?_))
  intro _ h1 hx
  obtain ⟨hF1, v1⟩ := hx
  refine ok_lt (ok_up 5000 (fun i st h' => st = (m, nI f, nI g, nI (i + 1)) ∧ Fk (sX m) h h' ∧ RepX h' (m + 3) (tnI D i V) ∧ ∀ e, 1 ≤ e → e ≤ i → P e = false) ?_ FU 0 _ _ (Nat.zero_le _) ⟨rfl, hF1, v1, fun e h1 h2 => by omega⟩ (by show _ < 10000; omega))
  intro k i st h' hi hI' kk
  obtain ⟨rfl, hF, v, hno⟩ := hI'
  have X' := X.fk hF
  have a0 := X'.1.1
  show Ok (b_m_nextOf_6 k m (nI f) (nI g) (nI (i + 1)) h') _
  unfold b_m_nextOf_6 b_m_nextOf_36
  refine ok_ilt (a := 5000) (by decide) (by omega) (fun c => ok_ret ⟨?_, hF⟩) (fun c => ?_)
  · rw [fd_none _ _ (fun e h1 h2 => hno e h1 (by omega))]
    rfl
  · refine ok_gd a0 (ok_bd (ok_mono (ok_m_step X' (by omega) v) ?_))
    intro _ h2 hx2
    obtain ⟨hF2, v2⟩ := hx2
    have X2 := X'.fk hF2
    have a2 := X2.1.1
    have hF3 := hF.trans hF2
    have go : P (i + 1) = false → Ok (k (m, nI f, nI g, nI (i + 1) + 1) h2) (fun y h' => y = oI (fd P 1 5000) ∧ Fk (sX m) h h') := fun hp => by
      refine kk _ _ (by omega) ⟨by rw [nI_1], hF3, v2, fun e h1 h2 => ?_⟩
      by_cases e1 : e = i + 1
      · rw [e1]
        exact hp
      · exact hno e h1 (by omega)
    refine ok_gd a2 (ok_bde (e_m_onD X2 (n := i + 1) (by omega) v2 hf) (ok_ib (fun c1 => go (by rw [hPn, c1]; rfl)) (fun c1 => ?_)))
    refine ok_gd a2 (ok_bde (e_m_onD X2 (n := i + 1) (by omega) v2 hg) (ok_ib (fun c2 => go (by rw [hPn, c1, c2]; rfl)) (fun c2 => ok_ret ⟨?_, hF3⟩)))
    rw [fd_some _ 1 (i + 1) (by omega) (by omega) (by rw [hPn, c1, c2]; rfl) (fun e h1 h2 => hno e h1 (by omega))]
    rfl
/-- feast f alone -/
theorem ok_m_next1 (X : DX h m q D V) {f : Nat} (hf : f < dF D) : Ok (f_m_nextOf m (nI f) (nI f) h) (fun y h' => y = oI (fd (onW (wf D) D V f) 1 5000) ∧ Fk (sX m) h h') := by
  refine ok_mono (ok_m_nextOf X hf hf) (fun y h' hh => ⟨?_, hh.2⟩)
  rw [hh.1, fd_congr (Q := onW (wf D) D V f) (fun e _ _ => Bool.and_self _)]
/-- how far a day is from what the sky says -/
def off (D : DD) (f d : Nat) : Nat := if d ≤ dFr D f then dFr D f - d else min ((d - dFr D f) % dEv D f) (dEv D f - (d - dFr D f) % dEv D f)
theorem e_m_off (a0 : hS h m = some (.inl 11)) (q1 : hR h m 3 = some q) (rQ : RepQ h q D) (W : Wf D) {f d : Nat} (hf : f < dF D) (h0 : 0 < dEv D f) (hd : d < 2 ^ 29) : f_m_off m (nI f) (nI d) h = some (nI (off D f d), h) := by
  obtain ⟨⟨b1, b2, b3, b4, b5, b6, b7, b8, b9, b10, b11⟩, ⟨c0, c1, c2, c3, c4, c5, c6, c7, c8⟩, qW, qX, qE, qK, qS⟩ := id rQ; have d0 := b2 0 (by decide); have d1 := b2 1 (by decide); have d2 := b2 2 (by decide); have d3 := b2 3 (by decide); have d4 := b2 4 (by decide); have d5 := b2 5 (by decide); have d6 := b2 6 (by decide); have d7 := b2 7 (by decide); have d8 := b2 8 (by decide); have d9 := b2 9 (by decide); have d10 := b2 10 (by decide); have d11 := b2 11 (by decide); have d12 := b2 12 (by decide); have d13 := b2 13 (by decide); have d14 := b2 14 (by decide); have d15 := b2 15 (by decide); have d16 := b2 16 (by decide); have e0 := b3 0 (by decide); have e1 := b3 1 (by decide); have e2 := b3 2 (by decide); have e3 := b3 3 (by decide); have f0 := b6 0 (by decide); have f1 := b6 1 (by decide); have f2 := b6 2 (by decide); have f3 := b6 3 (by decide); have f4 := b6 4 (by decide); have f5 := b6 5 (by decide)
  have w2 := W.2.1
  have hE := W.2.2.2.2.2.2.2.2.2.2.2.1 f hf
  have h4 : f < 4 := by omega
  have g6 : hI h (q + 1 + 7) f = nI (dEv D f) := (qE f hf).1
  have g7 : hI h (q + 1 + 8) f = nI (dFr D f) := (qE f hf).2 h0
  refine ok_eq ?_
  unfold f_m_off off
  (try unfold QB); (try unfold QM); repeat (first | (with_reducible refine ok_lt ?_) | ((with_reducible refine ok_gd ?_ ?_); first | assumption | exact zb0 | exact zb1 | ((with_reducible apply ai_of) <;> first | assumption | omega | decide) | exact ai_lit (by assumption) (by decide) (by decide) (by decide)) | (refine ok_bR (by assumption) ?_))
  (try simp (disch := omega) only [nI_clamp, cl0, cl1, cl2, cl3, cl4, cl5, cl6, cl7, cl8])
  rw [g7]
  refine ok_ilt (by omega) (by omega) (fun c => ?_) (fun c => ?_)
  · rw [if_neg (by omega)]
    (try unfold QB); (try unfold QM); repeat (first | (with_reducible refine ok_lt ?_) | ((with_reducible refine ok_gd ?_ ?_); first | assumption | exact zb0 | exact zb1 | ((with_reducible apply ai_of) <;> first | assumption | omega | decide) | exact ai_lit (by assumption) (by decide) (by decide) (by decide)) | (refine ok_bR (by assumption) ?_))
    rw [g7, g6]
    refine ok_gd (nI_ne0 h0 (by omega)) ?_
    have hm := Nat.mod_lt (d - dFr D f) h0
    (try unfold QB); (try unfold QM); repeat (first | (with_reducible refine ok_lt ?_) | ((with_reducible refine ok_gd ?_ ?_); first | assumption | exact zb0 | exact zb1 | ((with_reducible apply ai_of) <;> first | assumption | omega | decide) | exact ai_lit (by assumption) (by decide) (by decide) (by decide)) | (refine ok_bR (by assumption) ?_))
    rw [g6, pk_sub (a := d) (by omega), irm_nI (by omega) h0 (by omega), pk_sub (by omega)]
    refine ok_ile (by omega) (by omega) (fun c2 => ?_) (fun c2 => ?_)
    · (try unfold QB); (try unfold QM); repeat (first | (with_reducible refine ok_lt ?_) | ((with_reducible refine ok_gd ?_ ?_); first | assumption | exact zb0 | exact zb1 | ((with_reducible apply ai_of) <;> first | assumption | omega | decide) | exact ai_lit (by assumption) (by decide) (by decide) (by decide)) | (refine ok_bR (by assumption) ?_))
      rw [g6, pk_sub (by omega), Nat.min_eq_right c2]
      exact ok_ret ⟨rfl, rfl⟩
    · rw [Nat.min_eq_left (by omega)]
      exact ok_ret ⟨rfl, rfl⟩
  · rw [if_pos c]
    (try unfold QB); (try unfold QM); repeat (first | (with_reducible refine ok_lt ?_) | ((with_reducible refine ok_gd ?_ ?_); first | assumption | exact zb0 | exact zb1 | ((with_reducible apply ai_of) <;> first | assumption | omega | decide) | exact ai_lit (by assumption) (by decide) (by decide) (by decide)) | (refine ok_bR (by assumption) ?_))
    rw [g7, pk_sub c]
    exact ok_ret ⟨rfl, rfl⟩
theorem off_z {f d : Nat} (h0 : 0 < dEv D f) : off D f d = 0 ↔ dts D f d = 0 := by
  unfold off dts
  have hm := Nat.mod_lt (d - dFr D f) h0
  by_cases q : d ≤ dFr D f
  · rw [if_pos q, if_pos q]
  · rw [if_neg q, if_neg q]
    by_cases z : (d - dFr D f) % dEv D f = 0
    · rw [if_pos z, z]
      omega
    · rw [if_neg z]
      omega
end MD
