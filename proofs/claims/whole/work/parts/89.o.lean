/-! what a line tells, for both sides -/
def ds (D : DD) (i j v : Nat) : DD := (up2 D.1 i j v, D.2)
def dgs (D : DD) (w : Nat) (g : Int64) : DD := (D.1, fun k => if k = w then g else D.2 k)
theorem ds_s {D : DD} {i j v : Nat} : (ds D i j v).1 i j = v := if_pos ⟨rfl, rfl⟩
theorem ds_n {D : DD} {i j v a b : Nat} (h : ¬ (a = i ∧ b = j)) : (ds D i j v).1 a b = D.1 a b := if_neg h
theorem ds_u {D : DD} {i j v a b : Nat} : (ds D i j v).1 a b = if a = i ∧ b = j then v else D.1 a b := rfl
theorem dgs_u {D : DD} {w k : Nat} {g : Int64} : (dgs D w g).2 k = if k = w then g else D.2 k := rfl
/-- the steps of a loop, and a loop -/
def itn {σ : Type} (F : σ → σ) : Nat → σ → σ
  | 0, s => s
  | n + 1, s => F (itn F n s)
def run {σ : Type} (F : σ → σ) (p : σ → Bool) : Nat → σ → σ
  | 0, s => s
  | n + 1, s => if p s = true then run F p n (F s) else s
theorem itn_s {σ : Type} (F : σ → σ) (n : Nat) (s : σ) : itn F n (F s) = F (itn F n s) := by
  induction n with
  | zero => rfl
  | succ n ih => show F (itn F n (F s)) = _; rw [ih]; rfl
theorem run_it {σ : Type} (F : σ → σ) (p : σ → Bool) : ∀ n B s, n < B → (∀ k, k < n → p (itn F k s) = true) → p (itn F n s) = false → run F p B s = itn F n s := by
  intro n
  induction n with
  | zero =>
    intro B s hB _ hp
    cases B with
    | zero => omega
    | succ B =>
      show (if p s = true then _ else s) = s
      have hp' : p s = false := hp
      rw [hp']
      rfl
  | succ n ih =>
    intro B s hB hk hp
    cases B with
    | zero => omega
    | succ B =>
      show (if p s = true then run F p B (F s) else s) = _
      rw [if_pos (show p s = true from hk 0 (by omega))]
      rw [ih B (F s) (by omega) (fun k hk' => by rw [itn_s]; exact hk (k + 1) (by omega)) (by rw [itn_s]; exact hp), itn_s]
      rfl
/-- brass oil .. slips .. -/
def lnB (X : TX) (br : Bool) (a : Nat) : CU := cW X 0 100 (cP X 3 (cW X 0 99 (cP X 2 (cS X (cCk (!br) 3 (0, a))))))
def dnB (X : TX) (D : DD) (br : Bool) (a : Nat) : DD := ds (ds D 0 3 (tN X (cP X 2 (cS X (cCk (!br) 3 (0, a)))).2)) 0 4 (tN X (cP X 3 (cW X 0 99 (cP X 2 (cS X (cCk (!br) 3 (0, a)))))).2)
/-- where a line of names begins -/
def lb (X : TX) (br : Bool) (n most a : Nat) : CU := cS X (cCk br 6 (cCk (decide (n ≠ most)) 5 (0, a)))
/-- wheel NAME KIND teeth .. by .. at .. -/
def w2 (X : TX) (D : DD) (N : NN) (br : Bool) (a : Nat) : CU := cS X (cT X N (lb X br (dW D) 5 a))
def w4 (X : TX) (D : DD) (N : NN) (br : Bool) (a : Nat) : CU := cP X 16 (cS X (cD X (w2 X D N br a)))
def w6 (X : TX) (D : DD) (N : NN) (br : Bool) (a : Nat) : CU := cP X 17 (cW X 4 60 (w4 X D N br a))
def wT (X : TX) (D : DD) (N : NN) (br : Bool) (a : Nat) : Nat := tN X (w4 X D N br a).2
def w8 (X : TX) (D : DD) (N : NN) (br : Bool) (a : Nat) : CU := cP X 18 (cW X 1 (min 9 (wT X D N br a - 1)) (w6 X D N br a))
def lnW (X : TX) (D : DD) (N : NN) (br : Bool) (a : Nat) : CU := cW X 0 (wT X D N br a - 1) (w8 X D N br a)
def whD (D : DD) (k t b f : Nat) : DD := dgs (ds (ds (ds (ds (ds (ds D 0 0 (dW D + 1)) 1 (dW D) k) 2 (dW D) t) 3 (dW D) b) 4 (dW D) f) 5 (dW D) 0) (dW D) 0
def dnW (X : TX) (D : DD) (N : NN) (br : Bool) (a : Nat) : DD := whD D (kdn X (w2 X D N br a).2) (wT X D N br a) (tN X (w6 X D N br a).2) (tN X (w8 X D N br a).2)
def nnW (X : TX) (D : DD) (N : NN) (br : Bool) (a : Nat) : NN := nadd N (tW X (lb X br (dW D) 5 a).2) 0 (dW D)
/-- gone NAME .. -/
def l0 (X : TX) (br : Bool) (a : Nat) : CU := cS X (cCk br 6 (0, a))
def gW (X : TX) (N : NN) (br : Bool) (a : Nat) : Nat := kn N (tW X (l0 X br a).2)
def g5 (X : TX) (D : DD) (N : NN) (br : Bool) (a : Nat) : CU := cS X (cCk (decide (dSu D ≠ gW X N br a + 1)) 7 (cCk (decide (dGc D (gW X N br a) ≠ 2)) 5 (cK X N 0 (l0 X br a))))
def gT' (X : TX) (D : DD) (N : NN) (br : Bool) (a : Nat) : Nat := tN X (g5 X D N br a).2
def lnG (X : TX) (D : DD) (N : NN) (br : Bool) (a : Nat) : CU := cS X (cCk (!gb (dG D (gW X N br a)) (gT' X D N br a)) 3 (cH X 0 (dT D (gW X N br a) - 1) (g5 X D N br a)))
def goD (D : DD) (w t : Nat) : DD := dgs (ds D 5 w (dGc D w + 1)) w (dG D w ||| ((1 : Int64) <<< ((nI t).toInt64 &&& 63)))
def dnG (X : TX) (D : DD) (N : NN) (br : Bool) (a : Nat) : DD := goD D (gW X N br a) (gT' X D N br a)
/-- feast NAME WHEEL at .., .. -/
def fp4 (X : TX) (N : NN) (f : Nat) (s : DD × CU) : CU := cP X 18 (cS X (cCk (decide (dX s.1 f (kn N (tW X s.2.2)) = 0)) 3 (cK X N 0 s.2)))
def fpart (X : TX) (N : NN) (f : Nat) (s : DD × CU) : DD × CU := (ds s.1 (6 + f) (kn N (tW X s.2.2)) (tN X (fp4 X N f s).2 + 1), cW X 0 (dT s.1 (kn N (tW X s.2.2)) - 1) (fp4 X N f s))
def fnext (X : TX) (N : NN) (f : Nat) (s : DD × CU) : DD × CU := fpart X N f (s.1, cS X s.2)
def fmore (X : TX) (s : DD × CU) : Bool := decide (s.2.1 = 0 ∧ tS X s.2.2 = 4)
def f2 (X : TX) (D : DD) (N : NN) (br : Bool) (a : Nat) : CU := cS X (cT X N (lb X br (dF D) 4 a))
def fall (X : TX) (D : DD) (N : NN) (br : Bool) (a : Nat) : DD × CU := run (fnext X N (dF D)) (fmore X) 1000 (fpart X N (dF D) (D, f2 X D N br a))
def lnF (X : TX) (D : DD) (N : NN) (br : Bool) (a : Nat) : CU := (fall X D N br a).2
def dnF (X : TX) (D : DD) (N : NN) (br : Bool) (a : Nat) : DD := ds (fall X D N br a).1 0 1 (dF D + 1)
def nnF (X : TX) (D : DD) (N : NN) (br : Bool) (a : Nat) : NN := nadd N (tW X (lb X br (dF D) 4 a).2) 1 (dF D)
/-- work NAME takes .. worth .. by FEAST -/
def k3 (X : TX) (D : DD) (N : NN) (br : Bool) (a : Nat) : CU := cP X 19 (cS X (cT X N (lb X br (dN D) 4 a)))
def k5 (X : TX) (D : DD) (N : NN) (br : Bool) (a : Nat) : CU := cP X 20 (cW X 1 99 (k3 X D N br a))
def k7 (X : TX) (D : DD) (N : NN) (br : Bool) (a : Nat) : CU := cP X 17 (cW X 0 99 (k5 X D N br a))
def lnK (X : TX) (D : DD) (N : NN) (br : Bool) (a : Nat) : CU := cS X (cK X N 1 (k7 X D N br a))
def dnK (X : TX) (D : DD) (N : NN) (br : Bool) (a : Nat) : DD := ds (ds (ds (ds D 10 (dN D) (tN X (k3 X D N br a).2)) 11 (dN D) (tN X (k5 X D N br a).2)) 12 (dN D) (kn N (tW X (k7 X D N br a).2))) 0 2 (dN D + 1)
def nnK (X : TX) (D : DD) (N : NN) (br : Bool) (a : Nat) : NN := nadd N (tW X (lb X br (dN D) 4 a).2) 2 (dN D)
/-- sky FEAST every .. from .. -/
def y4 (X : TX) (D : DD) (N : NN) (br : Bool) (a : Nat) : CU := cP X 21 (cS X (cCk (decide (dEv D (gW X N br a) = 0)) 3 (cK X N 1 (l0 X br a))))
def y6 (X : TX) (D : DD) (N : NN) (br : Bool) (a : Nat) : CU := cP X 22 (cW X 1 400 (y4 X D N br a))
def lnY (X : TX) (D : DD) (N : NN) (br : Bool) (a : Nat) : CU := cW X 0 400 (y6 X D N br a)
def dnY (X : TX) (D : DD) (N : NN) (br : Bool) (a : Nat) : DD := ds (ds D 13 (gW X N br a) (tN X (y4 X D N br a).2)) 14 (gW X N br a) (tN X (y6 X D N br a).2)
/-- suspect NAME -/
def s0 (X : TX) (D : DD) (br : Bool) (a : Nat) : CU := cS X (cCk br 6 (cCk (decide (dSu D = 0)) 3 (0, a)))
def lnU (X : TX) (D : DD) (N : NN) (br : Bool) (a : Nat) : CU := cS X (cCk (decide (dGc D (kn N (tW X (s0 X D br a).2)) = 0)) 7 (cK X N 0 (s0 X D br a)))
def dnU (X : TX) (D : DD) (N : NN) (br : Bool) (a : Nat) : DD := ds D 0 5 (kn N (tW X (s0 X D br a).2) + 1)
/-- jerked, smooth day .. -/
def j2 (X : TX) (D : DD) (a : Nat) : CU := cP X 23 (cS X (cCk (decide (dSu D ≠ 0)) 6 (cCk (decide (dSe D ≠ 5)) 5 (0, a))))
def lnJ (X : TX) (D : DD) (a : Nat) : CU := cS X (cCk (decide (∀ k, k < dSe D → dSd D k ≠ tN X (j2 X D a).2)) 3 (cH X 1 99 (j2 X D a)))
def dnJ (X : TX) (D : DD) (a v : Nat) : DD := ds (ds (ds D 15 (dSe D) (tN X (j2 X D a).2)) 16 (dSe D) v) 0 6 (dSe D + 1)
/-- a line -/
abbrev LSt : Type := DD × Bool × NN × CU
def line (X : TX) (s : LSt) : LSt :=
  if s.2.2.2.1 ≠ 0 then s else
  if isW X 1 s.2.2.2.2 = true then (dnB X s.1 s.2.1 s.2.2.2.2, true, s.2.2.1, lnB X s.2.1 s.2.2.2.2) else
  if isW X 4 s.2.2.2.2 = true then (dnW X s.1 s.2.2.1 s.2.1 s.2.2.2.2, s.2.1, nnW X s.1 s.2.2.1 s.2.1 s.2.2.2.2, lnW X s.1 s.2.2.1 s.2.1 s.2.2.2.2) else
  if isW X 5 s.2.2.2.2 = true then (dnG X s.1 s.2.2.1 s.2.1 s.2.2.2.2, s.2.1, s.2.2.1, lnG X s.1 s.2.2.1 s.2.1 s.2.2.2.2) else
  if isW X 6 s.2.2.2.2 = true then (dnF X s.1 s.2.2.1 s.2.1 s.2.2.2.2, s.2.1, nnF X s.1 s.2.2.1 s.2.1 s.2.2.2.2, lnF X s.1 s.2.2.1 s.2.1 s.2.2.2.2) else
  if isW X 7 s.2.2.2.2 = true then (dnK X s.1 s.2.2.1 s.2.1 s.2.2.2.2, s.2.1, nnK X s.1 s.2.2.1 s.2.1 s.2.2.2.2, lnK X s.1 s.2.2.1 s.2.1 s.2.2.2.2) else
  if isW X 8 s.2.2.2.2 = true then (dnY X s.1 s.2.2.1 s.2.1 s.2.2.2.2, s.2.1, s.2.2.1, lnY X s.1 s.2.2.1 s.2.1 s.2.2.2.2) else
  if isW X 9 s.2.2.2.2 = true then (dnU X s.1 s.2.2.1 s.2.1 s.2.2.2.2, s.2.1, s.2.2.1, lnU X s.1 s.2.2.1 s.2.1 s.2.2.2.2) else
  if isW X 10 s.2.2.2.2 = true then (dnJ X s.1 s.2.2.2.2 1, s.2.1, s.2.2.1, lnJ X s.1 s.2.2.2.2) else
  if isW X 11 s.2.2.2.2 = true then (dnJ X s.1 s.2.2.2.2 0, s.2.1, s.2.2.1, lnJ X s.1 s.2.2.2.2) else (s.1, s.2.1, s.2.2.1, cF 1 s.2.2.2)
def lnext (X : TX) (s : LSt) : LSt := line X (s.1, s.2.1, s.2.2.1, cS X s.2.2.2)
def lmore (X : TX) (s : LSt) : Bool := decide (s.2.2.2.1 = 0 ∧ tS X s.2.2.2.2 = 3)
def D0 : DD := (fun _ _ => 0, fun _ => 0)
def N0 : NN := (0, (fun _ => 0), (fun _ => 0), fun _ => 0)
def lall (X : TX) : LSt := run (lnext X) (lmore X) 1000 (line X (D0, false, N0, (0, rn isS X 0)))
def lend (X : TX) (s : LSt) : CU := cCk (decide (dW s.1 ≠ 0)) 6 (cCk (decide (tS X s.2.2.2.2 = 0)) 1 s.2.2.2)
/-! names, with one more -/
section NA
variable {X : TX} {N : NN} {w s n k : Nat} {c : CU}
theorem fdF_a (hf : ∀ k, k < N.1 → N.2.1 k ≠ w) {v : Nat} : ∀ i k, k + i = N.1 → (fdF (nadd N w s n) v (i + 1) k = if v = w then N.1 else if fdF N v i k < N.1 then fdF N v i k else N.1 + 1) := by
  intro i
  induction i with
  | zero =>
    intro k hk
    show (if (nadd N w s n).2.1 k = v then k else k + 1) = if v = w then N.1 else if k < N.1 then k else N.1 + 1
    have e : (nadd N w s n).2.1 k = w := if_pos (by omega)
    rw [e, if_neg (show ¬ k < N.1 by omega)]
    by_cases z : v = w
    · rw [if_pos z.symm, if_pos z]; omega
    · rw [if_neg (fun q => z q.symm), if_neg z]; omega
  | succ i ih =>
    intro k hk
    show (if (nadd N w s n).2.1 k = v then k else fdF (nadd N w s n) v (i + 1) (k + 1)) = if v = w then N.1 else if (if N.2.1 k = v then k else fdF N v i (k + 1)) < N.1 then (if N.2.1 k = v then k else fdF N v i (k + 1)) else N.1 + 1
    have e : (nadd N w s n).2.1 k = N.2.1 k := if_neg (by omega)
    have hk1 := hf k (by omega)
    rw [e, ih (k + 1) (by omega)]
    by_cases z : N.2.1 k = v
    · rw [if_pos z, if_pos z, if_neg (fun q => hk1 (z.trans q)), if_pos (show k < N.1 by omega)]
    · rw [if_neg z, if_neg z]
theorem fdn_none (h : fdn N w 0 = N.1) : ∀ k, k < N.1 → N.2.1 k ≠ w := by
  have key : ∀ i k, k + i = N.1 → fdF N w i k = N.1 → ∀ j, k ≤ j → j < N.1 → N.2.1 j ≠ w := by
    intro i
    induction i with
    | zero => intro k hk _ j h1 h2; omega
    | succ i ih =>
      intro k hk hf j h1 h2
      have hf' : (if N.2.1 k = w then k else fdF N w i (k + 1)) = N.1 := hf
      by_cases z : N.2.1 k = w
      · rw [if_pos z] at hf'; omega
      · rw [if_neg z] at hf'
        by_cases y : j = k
        · rw [y]; exact z
        · exact ih (k + 1) (by omega) hf' j (by omega) h2
  intro k hk
  exact key N.1 0 (by omega) h k (by omega) hk
/-- a name that was told just now has another sort -/
theorem isK_a (h : fdn N w 0 = N.1) (hs : s ≠ k) {v : Nat} : isK (nadd N w s n) k v = isK N k v ∧ (isK N k v = true → kn (nadd N w s n) v = kn N v) := by
  have hf := fdn_none h
  have e : fdn (nadd N w s n) v 0 = if v = w then N.1 else if fdn N v 0 < N.1 then fdn N v 0 else N.1 + 1 := fdF_a hf N.1 0 (by omega)
  have e1 : (nadd N w s n).1 = N.1 + 1 := rfl
  unfold isK kn
  rw [e, e1]
  by_cases z : v = w
  · rw [if_pos z]
    have : (nadd N w s n).2.2.1 N.1 = s := if_pos rfl
    rw [this]
    subst z
    refine ⟨?_, fun q => ?_⟩
    · rw [h, decide_eq_false (fun q => hs q.2), decide_eq_false (fun q => absurd q.1 (by omega))]
    · have := (of_decide_eq_true q).1
      omega
  · rw [if_neg z]
    by_cases y : fdn N v 0 < N.1
    · rw [if_pos y]
      have e2 : (nadd N w s n).2.2.1 (fdn N v 0) = N.2.2.1 (fdn N v 0) := if_neg (by omega)
      have e3 : (nadd N w s n).2.2.2 (fdn N v 0) = N.2.2.2 (fdn N v 0) := if_neg (by omega)
      rw [e2, e3]
      refine ⟨?_, fun _ => rfl⟩
      exact decide_eq_decide.mpr ⟨fun q => ⟨y, q.2⟩, fun q => ⟨by omega, q.2⟩⟩
    · rw [if_neg y]
      refine ⟨?_, fun q => absurd (of_decide_eq_true q).1 y⟩
      rw [decide_eq_false (fun q => absurd q.1 (by omega)), decide_eq_false (fun q => y q.1)]
theorem cK_a (h : fdn N w 0 = N.1) (hs : s ≠ k) : cK X (nadd N w s n) k c = cK X N k c := by
  unfold cK
  rw [(isK_a h hs).1]
end NA
/-- a check and then the step: the step and then a fault at the place before -/
theorem cS_ck {X : TX} {b : Bool} {f : Nat} {c : CU} (hf : f ≠ 0) : cS X (cCk b f c) = if b = true then cS X c else cG f c.2 (cS X c) := by
  unfold cCk
  split
  · rfl
  · by_cases e : c.1 = 0
    · unfold cF
      rw [cG_0 e, cS_0 e, cG_0 rfl, cS_n (by exact hf)]
    · rw [cF_n e, cS_n e, cG_n e]
theorem cP_w {X : TX} {k : Nat} {c : CU} (h : isW X k c.2 = true) : cP X k c = cS X c := by
  unfold cP cCk
  rw [if_pos h]
theorem cCk_2 {b : Bool} {f : Nat} {c : CU} : (cCk b f c).2 = c.2 := by
  unfold cCk cF cG
  repeat' split
  all_goals rfl
theorem cH_2 {X : TX} {lo hi : Nat} {c : CU} : (cH X lo hi c).2 = c.2 := by
  unfold cH
  split
  · exact cCk_2
  · unfold cF cG
    split <;> rfl
theorem cK_2 {X : TX} {N : NN} {s : Nat} {c : CU} : (cK X N s c).2 = c.2 := cCk_2.trans cCk_2
