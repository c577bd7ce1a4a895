/-! byFor, byIn: both sides -/
def setB (D : DD) (w b : Nat) : DD := (fun i j => if i = 3 ∧ j = w then b else D.1 i j, D.2)
section SB
variable {D : DD} {w b : Nat} {V : Nat → Nat}
theorem sB_o {i j : Nat} (h : i ≠ 3) : (setB D w b).1 i j = D.1 i j := if_neg (fun e => h e.1)
theorem sB_W : dW (setB D w b) = dW D := sB_o (by decide)
theorem sB_F : dF (setB D w b) = dF D := sB_o (by decide)
theorem sB_N : dN (setB D w b) = dN D := sB_o (by decide)
theorem sB_Oil : dOil (setB D w b) = dOil D := sB_o (by decide)
theorem sB_Sl : dSl (setB D w b) = dSl D := sB_o (by decide)
theorem sB_Su : dSu (setB D w b) = dSu D := sB_o (by decide)
theorem sB_Se : dSe (setB D w b) = dSe D := sB_o (by decide)
theorem sB_K (u : Nat) : dK (setB D w b) u = dK D u := sB_o (by decide)
theorem sB_T (u : Nat) : dT (setB D w b) u = dT D u := sB_o (by decide)
theorem sB_A (u : Nat) : dA (setB D w b) u = dA D u := sB_o (by decide)
theorem sB_Gc (u : Nat) : dGc (setB D w b) u = dGc D u := sB_o (by decide)
theorem sB_X (f u : Nat) : dX (setB D w b) f u = dX D f u := sB_o (by omega)
theorem sB_Tk (u : Nat) : dTk (setB D w b) u = dTk D u := sB_o (by decide)
theorem sB_Wo (u : Nat) : dWo (setB D w b) u = dWo D u := sB_o (by decide)
theorem sB_Ti (u : Nat) : dTi (setB D w b) u = dTi D u := sB_o (by decide)
theorem sB_Ev (u : Nat) : dEv (setB D w b) u = dEv D u := sB_o (by decide)
theorem sB_Fr (u : Nat) : dFr (setB D w b) u = dFr D u := sB_o (by decide)
theorem sB_Sd (u : Nat) : dSd (setB D w b) u = dSd D u := sB_o (by decide)
theorem sB_Sj (u : Nat) : dSj (setB D w b) u = dSj D u := sB_o (by decide)
theorem sB_G (u : Nat) : dG (setB D w b) u = dG D u := rfl
theorem sB_Bw : dB (setB D w b) w = b := if_pos ⟨rfl, rfl⟩
theorem sB_Bu {u : Nat} (h : u ≠ w) : dB (setB D w b) u = dB D u := if_neg (fun e => h e.2)
theorem sB_fw (u : Nat) : dfw (setB D w b) u = dfw D u := by unfold dfw; rw [sB_K]
theorem sB_wfu {u : Nat} (h : u ≠ w) : wf (setB D w b) u = wf D u := by unfold wf; rw [sB_T, sB_G, sB_fw, sB_Bu h]
theorem sB_wfw : wf (setB D w b) w = stp (dT D w) (dG D w) (dfw D w) b := by unfold wf; rw [sB_T, sB_G, sB_fw, sB_Bw]
theorem sB_Wf (W : Wf D) (h1 : 1 ≤ b) (h9 : b ≤ 9) (hT : b < dT D w) : Wf (setB D w b) := by
  obtain ⟨w1, w2, w3, w4, w5, w6, w7, w8, w9, w10, w11, w12, w13⟩ := W
  unfold Wf WfW
  simp only [sB_W, sB_F, sB_N, sB_Oil, sB_Sl, sB_Su, sB_Se, sB_K, sB_T, sB_A, sB_Gc, sB_X, sB_Tk, sB_Wo, sB_Ti, sB_Ev, sB_Fr, sB_Sd, sB_Sj, sB_G]
  refine ⟨w1, w2, w3, w4, w5, w6, w7, fun u hu => ?_, w9, w10, w11, w12, w13⟩
  obtain ⟨g1, g2, g3, g4, g5, g6, g7, g8, g9⟩ := w8 u hu
  by_cases e : u = w
  · subst e
    rw [sB_Bw]
    exact ⟨g1, g2, g3, h1, h9, hT, g7, g8, g9⟩
  · rw [sB_Bu e]
    exact ⟨g1, g2, g3, g4, g5, g6, g7, g8, g9⟩
theorem sB_on (F : Nat → Nat → Nat) (f n : Nat) : onW F (setB D w b) V f n = onW F D V f n := by
  unfold onW wg
  simp only [sB_W, sB_X, sB_K]
theorem sB_wv {n : Nat} (hv : WfN D V n) : WfN (setB D w b) V n := by
  unfold WfN
  simp only [sB_W, sB_T]
  exact hv
end SB
/-- the best pace so far: by, and in how many days -/
def pbL (p : Option (Nat × Nat)) : Nat := match p with
  | none => 5001
  | some q => q.2
def pb (Q : Nat → Option Nat) : Nat → Option (Nat × Nat)
  | 0 => none
  | k + 1 => match Q (k + 1) with
    | none => pb Q k
    | some n => if n < pbL (pb Q k) then some (k + 1, n) else pb Q k
def pbB (p : Option (Nat × Nat)) : Int32 := match p with
  | none => -2
  | some q => nI q.1
def pbD (p : Option (Nat × Nat)) : Int32 := match p with
  | none => -2
  | some q => nI q.2
def byQ (D : DD) (V : Nat → Nat) (w f b : Nat) : Option Nat := fd (onW (wf (setB D w b)) D V f) 1 5000
theorem byQ_lt {D : DD} {V : Nat → Nat} {w f b n : Nat} (h : byQ D V w f b = some n) : 1 ≤ n ∧ n ≤ 5000 := by
  rcases fd_cases (onW (wf (setB D w b)) D V f) 5000 1 with ⟨g1, _⟩ | ⟨n2, g1, g2, g3, _⟩
  · have h : fd (onW (wf (setB D w b)) D V f) 1 5000 = some n := h
    rw [g1] at h
    cases h
  · have h : fd (onW (wf (setB D w b)) D V f) 1 5000 = some n := h
    rw [g1] at h
    cases h
    omega
theorem pbL_le (D : DD) (V : Nat → Nat) (w f k : Nat) : 1 ≤ pbL (pb (byQ D V w f) k) ∧ pbL (pb (byQ D V w f) k) ≤ 5001 := by
  induction k with
  | zero => exact ⟨by show 1 ≤ 5001; decide, Nat.le_refl 5001⟩
  | succ k ih =>
    unfold pb
    cases e : byQ D V w f (k + 1) with
    | none => exact ih
    | some n =>
      have hn := byQ_lt e
      show 1 ≤ pbL (if n < pbL (pb (byQ D V w f) k) then some (k + 1, n) else pb (byQ D V w f) k) ∧ pbL (if n < pbL (pb (byQ D V w f) k) then some (k + 1, n) else pb (byQ D V w f) k) ≤ 5001
      by_cases q : n < pbL (pb (byQ D V w f) k)
      · rw [if_pos q]
        show 1 ≤ n ∧ n ≤ 5001
        omega
      · rw [if_neg q]
        exact ih
theorem hI_uL {h : Hp} {a k b j : Nat} {v : Int64} : hI (uL h a k v) b j = hI h b j := rfl
theorem hL_uI {h : Hp} {a k b j : Nat} {v : Int32} : hL (uI h a k v) b j = hL h b j := rfl
theorem ok_W_tell {h : Hp} {a : Nat} {v1 v2 v3 v4 : Int32} (ha : hS h a = some (.inl 3)) : Ok (f_W_tell a v1 v2 v3 v4 h) (fun _ h' => Fk (fun x _ => x = a) h h' ∧ hI h' a 0 = v1 ∧ hI h' a 1 = v2 ∧ hI h' a 2 = v3 ∧ hI h' a 3 = v4 ∧ hI h' a 4 = 0 ∧ hL h' a 5 = 0) := by
  unfold f_W_tell
  refine ok_gd ha (ok_lt (ok_gd ha (ok_lt (ok_gd ha (ok_lt (ok_gd ha (ok_lt (ok_gd ha (ok_lt (ok_gd ha (ok_lt (ok_ret ⟨?_, ?_, ?_, ?_, ?_, ?_, ?_⟩))))))))))))
  · refine Fk.trans ?_ (fk_uL rfl)
    refine Fk.trans ?_ (fk_uI rfl)
    refine Fk.trans ?_ (fk_uI rfl)
    refine Fk.trans ?_ (fk_uI rfl)
    refine Fk.trans ?_ (fk_uI rfl)
    exact fk_uI rfl
  · rw [hI_uL, hI_uIk (by decide), hI_uIk (by decide), hI_uIk (by decide), hI_uIk (by decide), hI_uIs]
  · rw [hI_uL, hI_uIk (by decide), hI_uIk (by decide), hI_uIk (by decide), hI_uIs]
  · rw [hI_uL, hI_uIk (by decide), hI_uIk (by decide), hI_uIs]
  · rw [hI_uL, hI_uIk (by decide), hI_uIs]
  · rw [hI_uL, hI_uIs]
  · rw [hL_uLs]
theorem ok_W_tellLike {h : Hp} {a b : Nat} (ha : hS h a = some (.inl 3)) (hb : hS h b = some (.inl 3)) (hab : b ≠ a) : Ok (f_W_tellLike a b h) (fun _ h' => Fk (fun x _ => x = a) h h' ∧ hI h' a 0 = hI h b 0 ∧ hI h' a 1 = hI h b 1 ∧ hI h' a 2 = hI h b 2 ∧ hI h' a 3 = hI h b 3 ∧ hI h' a 4 = hI h b 4 ∧ hL h' a 5 = hL h b 5) := by
  unfold f_W_tellLike
  refine ok_gd hb (ok_lt (ok_gd hb (ok_lt (ok_gd hb (ok_lt (ok_gd hb (ok_lt (ok_gd ha (ok_bd (ok_mono (ok_W_tell ha) ?_))))))))))
  intro _ h1 hx
  obtain ⟨hF, e0, e1, e2, e3, e4, e5⟩ := hx
  have ha1 : hS h1 a = some (.inl 3) := by rw [hF.2.1]; exact ha
  have hb1 : hS h1 b = some (.inl 3) := by rw [hF.2.1]; exact hb
  have q4 := (hF.2.2.2.2 b 4 hab).1
  have q5 := (hF.2.2.2.2 b 5 hab).2
  refine ok_gd hb1 (ok_lt (ok_gd ha1 (ok_lt (ok_gd hb1 (ok_lt (ok_gd ha1 (ok_lt (ok_ret ⟨?_, ?_, ?_, ?_, ?_, ?_, ?_⟩))))))))
  · refine Fk.trans ?_ (fk_uL rfl)
    refine Fk.trans ?_ (fk_uI rfl)
    exact hF
  · rw [hI_uL, hI_uIk (by decide), e0]
  · rw [hI_uL, hI_uIk (by decide), e1]
  · rw [hI_uL, hI_uIk (by decide), e2]
  · rw [hI_uL, hI_uIk (by decide), e3]
  · rw [hI_uL, hI_uIs, q4]
  · rw [hL_uLs, hL_uI, q5]
def sBy (c w a k : Nat) : Prop := (a = c ∧ (k = 7 ∨ k = 8)) ∨ a = c + 2 ∨ sU (c + 6 + 4 * w) a k
section TB
variable {h : Hp} {c o r w : Nat} {D : DD} {V : Nat → Nat}
set_option maxHeartbeats 1000000 in
theorem ok_C_tryBys (X : CX h c o r D V (wf D)) (ho : o + 15 ≤ c) (hr : r < c) {f : Nat} (hf : f < dF D) (hw : w < dW D) : Ok (f_C_tryBys c (nI w) (nI f) h) (fun _ h' => Fr (sBy c w) h h' ∧ hI h' c 7 = pbB (pb (byQ D V w f) (min 9 (dT D w - 1))) ∧ hI h' c 8 = pbD (pb (byQ D V w f) (min 9 (dT D w - 1)))) := by
  obtain ⟨C, h5, h6, rO, rV, cal, W, hv, hV0⟩ := id X
  have w1 := W.1
  have w2 := W.2.1
  have hT := W.2.2.2.2.2.2.2.1 w hw
  have hV1 := hv.2.1
  have hw5 : w < 5 := by omega
  have frk : ∀ {h' : Hp}, Fr (sBy c w) h h' → LayC h' c ∧ hR h' c 5 = some o ∧ hR h' c 6 = some r ∧ RepO h' o D ∧ RepV h' r V ∧ ∀ u, u < dW D → u ≠ w → ∃ J L rr, RepU h' (c + 6 + 4 * u) (wf D u) J (V (3 + u)) (dK D u) (V 0) (V 1) L rr := fun hF => by
    refine ⟨C.fr hF (fun a k e => ?_), ?_, ?_, rO.fr hF (fun i k hi e => ?_) w1, rV.fr hF (fun k e => ?_), fun u hu hne => ?_⟩
    · unfold sBy sU at e
      unfold sC
      omega
    · rw [(hF.2.2.2 c 5 (fun e => by unfold sBy sU at e; omega)).2.2]
      exact h5
    · rw [(hF.2.2.2 c 6 (fun e => by unfold sBy sU at e; omega)).2.2]
      exact h6
    · unfold sBy sU at e
      omega
    · unfold sBy sU at e
      omega
    · obtain ⟨J, L, rr, hU⟩ := cal u hu
      refine ⟨J, L, rr, hU.fr hF (fun i k hi e => ?_)⟩
      unfold sBy sU at e
      omega
  obtain ⟨l1, l2, l3, l4, l5, l6, l7, l8, l9, l10, l11, l12⟩ := id C
  obtain ⟨⟨o1, ⟨o2, o3, o4, o5, o6, o7, o8, o9, o10⟩, o11, o12, o13, o14, o15, o16⟩, ⟨p1, p2, p3, p4, p5, p6, p7⟩, oW, oX, oK, oE, oS⟩ := id rO
  obtain ⟨o17, o18⟩ := o16 w hw5
  have ow := oW w hw
  unfold f_C_tryBys
  (try unfold QB); (try unfold QM); repeat (first | (with_reducible refine ok_lt ?_) | ((with_reducible refine ok_gd ?_ ?_); first | assumption | exact zb0 | exact zb1 | ((with_reducible apply ai_of) <;> first | assumption | omega | decide) | exact ai_lit (by assumption) (by decide) (by decide) (by decide)) | (refine ok_bR (by assumption) ?_))
  (try simp (disch := omega) only [nI_clamp, cl0, cl1, cl2, cl3, cl4, cl5, cl6, cl7, cl8])
  (try unfold QB); (try unfold QM); repeat (first | (with_reducible refine ok_lt ?_) | ((with_reducible refine ok_gd ?_ ?_); first | assumption | exact zb0 | exact zb1 | ((with_reducible apply ai_of) <;> first | assumption | omega | decide) | exact ai_lit (by assumption) (by decide) (by decide) (by decide)) | (refine ok_bR (by assumption) ?_))
  generalize hH : uI (uI h c 7 (-2)) c 8 (-2) = H
  have hFH : Fr (sBy c w) h H := by
    rw [← hH]
    exact (fr_uI (Or.inl ⟨rfl, Or.inl rfl⟩)).trans (fr_uI (Or.inl ⟨rfl, Or.inr rfl⟩))
  have z8 : hS H (c + 2) = some (.inl 3) := by rw [hFH.2.1]; exact l8
  have z18 : hS H (o + 10 + w) = some (.inl 3) := by rw [hFH.2.1]; exact o18
  refine ok_bd (ok_mono (ok_W_tellLike z8 z18 (by omega)) ?_)
  intro _ h2 hx2
  obtain ⟨hF2, t0, t1, t2, t3, t4, t5⟩ := hx2
  obtain ⟨-, -, -, rOH, -⟩ := frk hFH
  have owH := rOH.2.2.1 w hw
  have hF3 : Fr (sBy c w) h h2 := hFH.trans (hF2.r.mono (fun a k e => Or.inr (Or.inl e)))
  have c7 : hI h2 c 7 = -2 := by
    rw [(hF2.2.2.2.2 c 7 (by omega)).1, ← hH, hI_uIk (by decide), hI_uIs]
  have c8' : hI h2 c 8 = -2 := by
    rw [(hF2.2.2.2.2 c 8 (by omega)).1, ← hH, hI_uIs]
  (try unfold QB); (try unfold QM); repeat (first | (with_reducible refine ok_lt ?_) | ((with_reducible refine ok_gd ?_ ?_); first | assumption | exact zb0 | exact zb1 | ((with_reducible apply ai_of) <;> first | assumption | omega | decide) | exact ai_lit (by assumption) (by decide) (by decide) (by decide)) | (refine ok_bR (by assumption) ?_))
  refine ok_up (min 9 (dT D w - 1)) (fun i st h' => st = (c, nI w, nI f, nI (pbL (pb (byQ D V w f) i)), nI (i + 1)) ∧ Fr (sBy c w) h h' ∧ hI h' (c + 2) 0 = nI (dK D w) ∧ hI h' (c + 2) 1 = nI (dT D w) ∧ hL h' (c + 2) 5 = dG D w ∧ hI h' c 7 = pbB (pb (byQ D V w f) i) ∧ hI h' c 8 = pbD (pb (byQ D V w f) i)) ?_ FU 0 _ _ (Nat.zero_le _) ⟨rfl, hF3, by rw [t0]; exact owH.1, by rw [t1]; exact owH.2.1, by rw [t5]; exact owH.2.2.2.2.2, c7, c8'⟩ (by show _ < 10000; omega)
  intro k i st h' hi hI' kk
  obtain ⟨rfl, hF, u0, u1, u5, u7, u8⟩ := hI'
  obtain ⟨C', h5', h6', rO', rV', calo⟩ := frk hF
  show Ok (b_C_tryBys_35 k c (nI w) (nI f) (nI (pbL (pb (byQ D V w f) i))) (nI (i + 1)) h') _
  unfold b_C_tryBys_35 b_C_tryBys_129
  have hpl := pbL_le D V w f i
  clear l1 l2 l3 l4 l5 l6 l7 l8 l9 l10 l11 l12
  obtain ⟨l1, l2, l3, l4, l5, l6, l7, l8, l9, l10, l11, l12⟩ := id C'
  refine ok_ilt (a := 9) (by decide) (by omega) (fun e => ?_) (fun e => ?_)
  · rw [show i = min 9 (dT D w - 1) by omega] at u7 u8
    exact ok_ret ⟨hF, u7, u8⟩
  · (try unfold QB); (try unfold QM); repeat (first | (with_reducible refine ok_lt ?_) | ((with_reducible refine ok_gd ?_ ?_); first | assumption | exact zb0 | exact zb1 | ((with_reducible apply ai_of) <;> first | assumption | omega | decide) | exact ai_lit (by assumption) (by decide) (by decide) (by decide)) | (refine ok_bR (by assumption) ?_))
    rw [u1]
    refine ok_ile (by omega) (by omega) (fun e2 => ?_) (fun e2 => ?_)
    · rw [show i = min 9 (dT D w - 1) by omega] at u7 u8
      exact ok_ret ⟨hF, u7, u8⟩
    · obtain ⟨l13, l14⟩ := l12 w hw5
      have l15 := l14.1
      have v1 := rV'.1
      rw [nI_i3]
      (try unfold QB); (try unfold QM); repeat (first | (with_reducible refine ok_lt ?_) | ((with_reducible refine ok_gd ?_ ?_); first | assumption | exact zb0 | exact zb1 | ((with_reducible apply ai_of) <;> first | assumption | omega | decide) | exact ai_lit (by assumption) (by decide) (by decide) (by decide)) | (refine ok_bR (by assumption) ?_))
      (try simp (disch := omega) only [nI_clamp, cl0, cl1, cl2, cl3, cl4, cl5, cl6, cl7, cl8])
      (try unfold QB); (try unfold QM); repeat (first | (with_reducible refine ok_lt ?_) | ((with_reducible refine ok_gd ?_ ?_); first | assumption | exact zb0 | exact zb1 | ((with_reducible apply ai_of) <;> first | assumption | omega | decide) | exact ai_lit (by assumption) (by decide) (by decide) (by decide)) | (refine ok_bR (by assumption) ?_))
      generalize hG : uI h' (c + 2) 2 (nI (i + 1)) = G
      have hFG : Fr (sBy c w) h G := by
        rw [← hG]
        exact hF.trans (fr_uI (Or.inr (Or.inl rfl)))
      obtain ⟨CG, h5G, h6G, rOG, rVG, caloG⟩ := frk hFG
      have g0 : hI G (c + 2) 0 = nI (dK D w) := by rw [← hG, hI_uIk (by decide)]; exact u0
      have g1 : hI G (c + 2) 1 = nI (dT D w) := by rw [← hG, hI_uIk (by decide)]; exact u1
      have g2 : hI G (c + 2) 2 = nI (i + 1) := by rw [← hG, hI_uIs]
      have g5 : hL G (c + 2) 5 = dG D w := by rw [← hG]; exact u5
      rw [rVG.2 (3 + w) (by omega), rVG.2 0 (by decide), rVG.2 1 (by decide)]
      refine ok_bd (ok_mono (ok_U_follow (wa := c + 2) (k := dK D w) (n := dT D w) (b := i + 1) (g := dG D w) (t0 := V (3 + w)) (d := V 0) (o := V 1) ((CG.2.2.2.2.2.2.2.2.2.2.2 w hw5).2) CG.2.2.2.2.2.2.2.1 (by omega) g0 hT.1 g1 g2 g5 (by omega) (by omega) (by omega) (hv.2.2.2 w hw) (by have := hv.1; omega)) ?_)
      intro _ h4 hx4
      obtain ⟨hF4, LL, rr, hU⟩ := hx4
      have hF5 : Fr (sBy c w) h h4 := hFG.trans (hF4.r.mono (fun a k e => Or.inr (Or.inr e)))
      obtain ⟨C4, h54, h64, rO4, rV4, calo4⟩ := frk hF5
      have X4 : CX h4 c o r D V (wf (setB D w (i + 1))) := by
        refine ⟨C4, h54, h64, rO4, rV4, fun u hu => ?_, W, hv, hV0⟩
        by_cases eu : u = w
        · subst eu
          rw [sB_wfw]
          exact ⟨_, LL, rr, hU⟩
        · obtain ⟨J, L, r2, g⟩ := calo4 u hu eu
          rw [sB_wfu eu]
          exact ⟨J, L, r2, g⟩
      have m1 := C4.1
      have no2 : ∀ k, ¬ sU (c + 6 + 4 * w) (c + 2) k := fun k e => by unfold sU at e; omega
      have no0 : ∀ k, ¬ sU (c + 6 + 4 * w) c k := fun k e => by unfold sU at e; omega
      have n0 : hI h4 (c + 2) 0 = nI (dK D w) := by rw [(hF4.2.2.2.2 _ _ (no2 0)).1]; exact g0
      have n1 : hI h4 (c + 2) 1 = nI (dT D w) := by rw [(hF4.2.2.2.2 _ _ (no2 1)).1]; exact g1
      have n5 : hL h4 (c + 2) 5 = dG D w := by rw [(hF4.2.2.2.2 _ _ (no2 5)).2]; exact g5
      have n7 : hI h4 c 7 = pbB (pb (byQ D V w f) i) := by rw [(hF4.2.2.2.2 _ _ (no0 7)).1, ← hG, hI_uIa (by omega)]; exact u7
      have n8 : hI h4 c 8 = pbD (pb (byQ D V w f) i) := by rw [(hF4.2.2.2.2 _ _ (no0 8)).1, ← hG, hI_uIa (by omega)]; exact u8
      rw [nI_s (by omega)]
      (try unfold QB); (try unfold QM); repeat (first | (with_reducible refine ok_lt ?_) | ((with_reducible refine ok_gd ?_ ?_); first | assumption | exact zb0 | exact zb1 | ((with_reducible apply ai_of) <;> first | assumption | omega | decide) | exact ai_lit (by assumption) (by decide) (by decide) (by decide)) | (refine ok_bR (by assumption) ?_))
      refine ok_bd (ok_mono (ok_C_feastFrom X4 hf (a := 1) (b := pbL (pb (byQ D V w f) i) - 1) (by decide) (by omega)) ?_)
      intro y h6 hx6
      obtain ⟨rfl, rfl⟩ := hx6
      have e1 := fd_cut (P := onW (wf (setB D w (i + 1))) D V f) (k := 5000) (l := pbL (pb (byQ D V w f) i) - 1) (by omega)
      rw [show pbL (pb (byQ D V w f) i) - 1 + 1 = pbL (pb (byQ D V w f) i) by omega] at e1
      rw [show pbL (pb (byQ D V w f) i) - 1 + 1 - 1 = pbL (pb (byQ D V w f) i) - 1 by omega]
      have hQi : fd (onW (wf (setB D w (i + 1))) D V f) 1 5000 = byQ D V w f (i + 1) := rfl
      rw [hQi] at e1
      have hs : pb (byQ D V w f) (i + 1) = match byQ D V w f (i + 1) with
        | none => pb (byQ D V w f) i
        | some n => if n < pbL (pb (byQ D V w f) i) then some (i + 1, n) else pb (byQ D V w f) i := rfl
      cases e : byQ D V w f (i + 1) with
      | none =>
        rw [e] at hs e1
        rw [e1]
        refine ok_t rfl (kk _ _ (by omega) ⟨?_, hF5, n0, n1, n5, ?_, ?_⟩)
        · rw [hs, nI_1]
        · rw [hs]
          exact n7
        · rw [hs]
          exact n8
      | some n =>
        have hn := byQ_lt e
        rw [e] at hs e1
        have e1 : fd (onW (wf (setB D w (i + 1))) D V f) 1 (pbL (pb (byQ D V w f) i) - 1) = if n < pbL (pb (byQ D V w f) i) then some n else none := e1
        have hs : pb (byQ D V w f) (i + 1) = if n < pbL (pb (byQ D V w f) i) then some (i + 1, n) else pb (byQ D V w f) i := hs
        rw [e1]
        by_cases q : n < pbL (pb (byQ D V w f) i)
        · rw [if_pos q] at hs ⊢
          refine ok_f (oI_ne (by omega)) ?_
          (try unfold QB); (try unfold QM); repeat (first | (with_reducible refine ok_lt ?_) | ((with_reducible refine ok_gd ?_ ?_); first | assumption | exact zb0 | exact zb1 | ((with_reducible apply ai_of) <;> first | assumption | omega | decide) | exact ai_lit (by assumption) (by decide) (by decide) (by decide)) | (refine ok_bR (by assumption) ?_))
          refine kk _ _ (by omega) ⟨?_, (hF5.trans (fr_uI (Or.inl ⟨rfl, Or.inl rfl⟩))).trans (fr_uI (Or.inl ⟨rfl, Or.inr rfl⟩)), ?_, ?_, n5, ?_, ?_⟩
          · rw [hs, nI_1]
            rfl
          · rw [hI_uIa (by omega), hI_uIa (by omega)]
            exact n0
          · rw [hI_uIa (by omega), hI_uIa (by omega)]
            exact n1
          · rw [hI_uIk (by decide), hI_uIs, hs]
            rfl
          · rw [hI_uIs, hs]
            rfl
        · rw [if_neg q] at hs ⊢
          refine ok_t rfl (kk _ _ (by omega) ⟨?_, hF5, n0, n1, n5, ?_, ?_⟩)
          · rw [hs, nI_1]
          · rw [hs]
            exact n7
          · rw [hs]
            exact n8
end TB
section PB
variable {h : Hp} {m q w : Nat} {D : DD} {V : Nat → Nat}
theorem RepQ.setB_ {S : Nat → Nat → Prop} {h' : Hp} {b : Nat} (R : RepQ h q D) (F : Fk S h h') (hS' : ∀ i k, i < 15 → S (q + i) k → i = 3 ∧ k = w) (hL' : hL h' (q + 3) w = hL h (q + 3) w) (hb : hI h' (q + 3) w = nI b) : RepQ h' q (setB D w b) := by
  obtain ⟨⟨l1, l2, l3, l4, l5, l6, l7, l8, l9, l10⟩, r1, r2, r3, r4, r5, r6⟩ := R
  obtain ⟨f1, f2, f3, f4, f5⟩ := F
  have ii : ∀ i, i < 15 → i ≠ 3 → hI h' (q + i) = hI h (q + i) := fun i hi hn => funext fun k => (f5 _ k (fun e => hn (hS' i k hi e).1)).1
  have i0 : hI h' q = hI h q := ii 0 (by decide) (by decide)
  have iL : hL h' (q + 5) = hL h (q + 5) := funext fun k => (f5 _ k (fun e => by have := (hS' 5 k (by decide) e).1; omega)).2
  have i3 : ∀ u, u ≠ w → hI h' (q + 3) u = hI h (q + 3) u := fun u hu => (f5 _ u (fun e => hu (hS' 3 u (by decide) e).2)).1
  unfold RepQ
  simp only [sB_W, sB_F, sB_N, sB_Oil, sB_Sl, sB_Su, sB_Se, sB_K, sB_T, sB_A, sB_X, sB_Tk, sB_Wo, sB_Ti, sB_Ev, sB_Fr, sB_Sd, sB_Sj, sB_G]
  refine ⟨?_, ?_, fun u hu => ?_, fun f u hf hu => ?_, fun f hf => ?_, fun k hk => ?_, fun k hk => ?_⟩
  · unfold LayQ
    rw [f2, f4]
    exact ⟨l1, l2, l3, l4, l5, l6, l7, l8, l9, l10⟩
  · rw [i0, show dGc (setB D w b) = dGc D from funext fun u => sB_Gc u]
    exact r1
  · rw [ii 1 (by decide) (by decide), ii 2 (by decide) (by decide), ii 4 (by decide) (by decide), iL]
    obtain ⟨g1, g2, g3, g4, g5⟩ := r2 u hu
    refine ⟨g1, g2, ?_, g4, g5⟩
    by_cases e : u = w
    · subst e
      rw [sB_Bw]
      exact hb
    · rw [sB_Bu e, i3 u e]
      exact g3
  · rw [ii 7 (by decide) (by decide), ii 6 (by decide) (by decide)]
    exact r3 f u hf hu
  · rw [ii 8 (by decide) (by decide), ii 9 (by decide) (by decide)]
    exact r4 f hf
  · rw [ii 10 (by decide) (by decide), ii 11 (by decide) (by decide), ii 12 (by decide) (by decide)]
    exact r5 k hk
  · rw [ii 13 (by decide) (by decide), ii 14 (by decide) (by decide)]
    exact r6 k hk
def sPc (m q w a k : Nat) : Prop := sX m a k ∨ (a = m ∧ k = 23) ∨ (a = q + 3 ∧ k = w)
set_option maxHeartbeats 1000000 in
theorem ok_m_paces (X : DX h m q D V) (hq15 : m + 15 ≤ q) (hw : w < dW D) {f : Nat} (hf : f < dF D) : Ok (f_m_paces m (nI w) (nI f) h) (fun y h' => y = pbD (pb (byQ D V w f) (min 9 (dT D w - 1))) ∧ Fr (ScM m) h h' ∧ hI h' m 23 = pbB (pb (byQ D V w f) (min 9 (dT D w - 1)))) := by
  obtain ⟨x1, x2, x3, x4, x5, x6, x7⟩ := id X
  have w1 := x5.1
  have hT := x5.2.2.2.2.2.2.2.1 w hw
  have hw5 : w < 5 := by omega
  have g3 : hI h (q + 3) w = nI (dB D w) := (x4.2.2.1 w hw).2.2.1
  have frk : ∀ {h' : Hp}, Fk (sPc m q w) h h' → LayM h' m ∧ hR h' m 3 = some q ∧ LayQ h' q ∧ RepX h' (m + 2) V ∧ hI h' (q + 2) w = nI (dT D w) := fun hF => by
    refine ⟨x1.fk hF, by rw [hF.2.2.2.1]; exact x2, ?_, x6.fk hF (fun k e => by unfold sPc sX at e; omega), ?_⟩
    · have l := x4.1
      unfold LayQ
      rw [hF.2.1, hF.2.2.2.1]
      exact l
    · rw [(hF.2.2.2.2 _ _ (fun e => by unfold sPc sX at e; omega)).1]
      exact (x4.2.2.1 w hw).2.1
  unfold f_m_paces
  obtain ⟨b1, b2, b3, b4, b5, b6, -⟩ := id x4.1
  have d1 := b2 1 (by decide)
  have d2 := b2 2 (by decide)
  have e1 := b3 1 (by decide)
  have e2 := b3 2 (by decide)
  have a0 := x1.1
  (try unfold QB); (try unfold QM); repeat (first | (with_reducible refine ok_lt ?_) | ((with_reducible refine ok_gd ?_ ?_); first | assumption | exact zb0 | exact zb1 | ((with_reducible apply ai_of) <;> first | assumption | omega | decide) | exact ai_lit (by assumption) (by decide) (by decide) (by decide)) | (refine ok_bR (by assumption) ?_))
  (try simp (disch := omega) only [nI_clamp, cl0, cl1, cl2, cl3, cl4, cl5, cl6, cl7, cl8])
  have g3' : hI h (q + 1 + 2) w = nI (dB D w) := g3
  rw [g3']
  refine ok_up (min 9 (dT D w - 1)) (fun i st h' => st = (m, nI w, nI f, nI (dB D w), pbD (pb (byQ D V w f) i), nI (i + 1)) ∧ Fk (sPc m q w) h h' ∧ hL h' (q + 3) w = hL h (q + 3) w ∧ hI h' m 23 = pbB (pb (byQ D V w f) i)) ?_ FU 0 _ _ (Nat.zero_le _) ⟨rfl, fk_uI (Or.inr (Or.inl ⟨rfl, rfl⟩)), rfl, hI_uIs⟩ (by show _ < 10000; omega)
  intro k i st h' hi hI' kk
  obtain ⟨rfl, hF, hL', u23⟩ := hI'
  show Ok (b_m_paces_23 k m (nI w) (nI f) (nI (dB D w)) (pbD (pb (byQ D V w f) i)) (nI (i + 1)) h') _
  unfold b_m_paces_23 b_m_paces_87 b_m_paces_97
  have hpl := pbL_le D V w f i
  clear b1 b2 b3 b4 b5 b6 d1 d2 e1 e2 a0
  obtain ⟨LM, q1, LQ, rX, gT⟩ := frk hF
  obtain ⟨b1, b2, b3, b4, b5, b6, -⟩ := id LQ
  have d1 := b2 1 (by decide)
  have d2 := b2 2 (by decide)
  have e1 := b3 1 (by decide)
  have e2 := b3 2 (by decide)
  have a0 := LM.1
  have fin : i = min 9 (dT D w - 1) → Ok (b_m_paces_103 m (nI w) (nI (dB D w)) (pbD (pb (byQ D V w f) i)) h') (fun y h' => y = pbD (pb (byQ D V w f) (min 9 (dT D w - 1))) ∧ Fr (ScM m) h h' ∧ hI h' m 23 = pbB (pb (byQ D V w f) (min 9 (dT D w - 1)))) := by
    intro e
    unfold b_m_paces_103
    (try unfold QB); (try unfold QM); repeat (first | (with_reducible refine ok_lt ?_) | ((with_reducible refine ok_gd ?_ ?_); first | assumption | exact zb0 | exact zb1 | ((with_reducible apply ai_of) <;> first | assumption | omega | decide) | exact ai_lit (by assumption) (by decide) (by decide) (by decide)) | (refine ok_bR (by assumption) ?_))
    (try simp (disch := omega) only [nI_clamp, cl0, cl1, cl2, cl3, cl4, cl5, cl6, cl7, cl8])
    refine ok_ret ⟨by rw [e], ?_, ?_⟩
    · refine ⟨hF.1, hF.2.1, hF.2.2.1, fun a k hn => ?_⟩
      by_cases e5 : a = q + 3 ∧ k = w
      · rw [e5.1, e5.2]
        refine ⟨?_, hL', ?_⟩
        · rw [hI_uIs]
          exact g3.symm
        · show hR h' (q + 3) w = _
          rw [hF.2.2.2.1]
      · have hns : ¬ sPc m q w a k := fun g => by
          rcases g with g | g | g
          · exact hn (ScM_X g)
          · exact hn (by unfold ScM; omega)
          · exact e5 g
        refine ⟨?_, (hF.2.2.2.2 a k hns).2, by show hR h' a k = _; rw [hF.2.2.2.1]⟩
        rw [hI_uI, if_neg e5]
        exact (hF.2.2.2.2 a k hns).1
    · rw [hI_uIa (by omega), u23, e]
  refine ok_ilt (a := 9) (by decide) (by omega) (fun e => fin (by omega)) (fun e => ?_)
  (try unfold QB); (try unfold QM); repeat (first | (with_reducible refine ok_lt ?_) | ((with_reducible refine ok_gd ?_ ?_); first | assumption | exact zb0 | exact zb1 | ((with_reducible apply ai_of) <;> first | assumption | omega | decide) | exact ai_lit (by assumption) (by decide) (by decide) (by decide)) | (refine ok_bR (by assumption) ?_))
  (try simp (disch := omega) only [nI_clamp, cl0, cl1, cl2, cl3, cl4, cl5, cl6, cl7, cl8])
  have gT' : hI h' (q + 1 + 1) w = nI (dT D w) := gT
  rw [gT']
  refine ok_ile (by omega) (by omega) (fun e5 => fin (by omega)) (fun e5 => ?_)
  (try unfold QB); (try unfold QM); repeat (first | (with_reducible refine ok_lt ?_) | ((with_reducible refine ok_gd ?_ ?_); first | assumption | exact zb0 | exact zb1 | ((with_reducible apply ai_of) <;> first | assumption | omega | decide) | exact ai_lit (by assumption) (by decide) (by decide) (by decide)) | (refine ok_bR (by assumption) ?_))
  (try simp (disch := omega) only [nI_clamp, cl0, cl1, cl2, cl3, cl4, cl5, cl6, cl7, cl8])
  have hF2 : Fk (sPc m q w) h (uI h' (q + 3) w (nI (i + 1))) := hF.trans (fk_uI (Or.inr (Or.inr ⟨rfl, rfl⟩)))
  obtain ⟨LM2, q12, LQ2, rX2, gT2⟩ := frk hF2
  have rQ2 : RepQ (uI h' (q + 3) w (nI (i + 1))) q (setB D w (i + 1)) := x4.setB_ hF2 (fun i k hi e => by unfold sPc sX at e; omega) hL' hI_uIs
  have X2 : DX (uI h' (q + 3) w (nI (i + 1))) m q (setB D w (i + 1)) V := ⟨LM2, q12, x3, rQ2, sB_Wf x5 (by omega) (by omega) (by omega), rX2, sB_wv x7⟩
  show Ok (bd (f_m_nextOf m (nI f) (nI f) (uI h' (q + 3) w (nI (i + 1)))) _) _
  refine ok_bd (ok_mono (ok_m_next1 X2 (by rw [sB_F]; exact hf)) ?_)
  intro y h6 hx6
  obtain ⟨rfl, hF6⟩ := hx6
  have hF7 : Fk (sPc m q w) h h6 := hF2.trans (hF6.mono (fun a k e => Or.inl e))
  have hL7 : hL h6 (q + 3) w = hL h (q + 3) w := by
    rw [(hF6.2.2.2.2 _ _ (fun e => by unfold sX at e; omega)).2]
    exact hL'
  have u237 : hI h6 m 23 = pbB (pb (byQ D V w f) i) := by
    rw [(hF6.2.2.2.2 _ _ (fun e => by unfold sX at e; omega)).1, hI_uIa (by omega)]
    exact u23
  have hQi : fd (onW (wf (setB D w (i + 1))) (setB D w (i + 1)) V f) 1 5000 = byQ D V w f (i + 1) := fd_congr (fun e _ _ => sB_on _ _ _)
  rw [hQi]
  have a06 : hS h6 m = some (.inl 11) := by rw [hF7.2.1]; exact x1.1
  have hs : pb (byQ D V w f) (i + 1) = match byQ D V w f (i + 1) with
    | none => pb (byQ D V w f) i
    | some n => if n < pbL (pb (byQ D V w f) i) then some (i + 1, n) else pb (byQ D V w f) i := rfl
  cases e8 : byQ D V w f (i + 1) with
  | none =>
    rw [e8] at hs
    refine ok_t rfl (kk _ _ (by omega) ⟨?_, hF7, hL7, ?_⟩)
    · rw [hs, nI_1]
    · rw [hs]
      exact u237
  | some n =>
    have hn := byQ_lt e8
    rw [e8] at hs
    have hs : pb (byQ D V w f) (i + 1) = if n < pbL (pb (byQ D V w f) i) then some (i + 1, n) else pb (byQ D V w f) i := hs
    refine ok_f (oI_ne (by omega)) ?_
    have take : n < pbL (pb (byQ D V w f) i) → Ok (gd (hS h6 m = some (.inl 11)) (lt (uI h6 m 23 (nI (i + 1))) fun h1 => k (m, nI w, nI f, nI (dB D w), oI (some n), nI (i + 1) + 1) h1)) (fun y h' => y = pbD (pb (byQ D V w f) (min 9 (dT D w - 1))) ∧ Fr (ScM m) h h' ∧ hI h' m 23 = pbB (pb (byQ D V w f) (min 9 (dT D w - 1)))) := fun q5 => by
      rw [if_pos q5] at hs
      refine ok_gd a06 (ok_lt (kk _ _ (by omega) ⟨?_, hF7.trans (fk_uI (Or.inr (Or.inl ⟨rfl, rfl⟩))), hL7, ?_⟩))
      · rw [hs, nI_1]
        rfl
      · rw [hI_uIs, hs]
        rfl
    cases e9 : pb (byQ D V w f) i with
    | none =>
      refine ok_t rfl (take ?_)
      rw [e9]
      show n < 5001
      omega
    | some p =>
      rw [e9] at hpl
      have hp1 : p.2 ≤ 5001 := hpl.2
      refine ok_f (oI_ne (n := p.2) (by omega)) ?_
      show Ok (if nI n < nI p.2 then _ else _) _
      refine ok_ilt (by omega) (by omega) (fun c1 => take (by rw [e9]; exact c1)) (fun c1 => kk _ _ (by omega) ⟨?_, hF7, hL7, ?_⟩)
      · rw [e9] at hs
        have hs : pb (byQ D V w f) (i + 1) = if n < p.2 then some (i + 1, n) else some p := hs
        rw [hs, if_neg (by omega), nI_1]
      · rw [e9] at hs
        have hs : pb (byQ D V w f) (i + 1) = if n < p.2 then some (i + 1, n) else some p := hs
        rw [hs, if_neg (by omega), u237, e9]
end PB
