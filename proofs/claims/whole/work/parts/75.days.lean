/-! the first day, as both sides find it -/
def fd (P : Nat → Bool) : Nat → Nat → Option Nat
  | _, 0 => none
  | lo, k + 1 => if P lo = true then some lo else fd P (lo + 1) k
def oI (o : Option Nat) : Int32 := match o with
  | none => -2
  | some n => nI n
theorem fd_some {P : Nat → Bool} (k : Nat) : ∀ lo n, lo ≤ n → n < lo + k → P n = true → (∀ e, lo ≤ e → e < n → P e = false) → fd P lo k = some n := by
  induction k with
  | zero => intro lo n h1 h2; omega
  | succ k ih =>
    intro lo n h1 h2 h3 h4
    show (if P lo = true then some lo else fd P (lo + 1) k) = _
    by_cases e : lo = n
    · rw [e, if_pos h3]
    · rw [if_neg (by rw [h4 lo (Nat.le_refl _) (by omega)]; simp)]
      exact ih (lo + 1) n (by omega) (by omega) h3 (fun e h5 h6 => h4 e (by omega) h6)
theorem fd_none {P : Nat → Bool} (k : Nat) : ∀ lo, (∀ e, lo ≤ e → e < lo + k → P e = false) → fd P lo k = none := by
  induction k with
  | zero => intro lo _; rfl
  | succ k ih =>
    intro lo h
    show (if P lo = true then some lo else fd P (lo + 1) k) = _
    rw [if_neg (by rw [h lo (Nat.le_refl _) (by omega)]; simp)]
    exact ih (lo + 1) (fun e h1 h2 => h e (by omega) (by omega))
theorem fd_cases (P : Nat → Bool) (k : Nat) : ∀ lo, (fd P lo k = none ∧ ∀ e, lo ≤ e → e < lo + k → P e = false) ∨ ∃ n, fd P lo k = some n ∧ lo ≤ n ∧ n < lo + k ∧ P n = true ∧ ∀ e, lo ≤ e → e < n → P e = false := by
  induction k with
  | zero => intro lo; exact Or.inl ⟨rfl, fun e h1 h2 => by omega⟩
  | succ k ih =>
    intro lo
    cases hp : P lo with
    | true => exact Or.inr ⟨lo, if_pos hp, Nat.le_refl _, by omega, hp, fun e h1 h2 => by omega⟩
    | false =>
      have e0 : fd P lo (k + 1) = fd P (lo + 1) k := if_neg (by rw [hp]; simp)
      have nx : ∀ e, lo ≤ e → (lo + 1 ≤ e → P e = false) → P e = false := fun e h1 h2 => by
        by_cases q : e = lo
        · rw [q]
          exact hp
        · exact h2 (by omega)
      rcases ih (lo + 1) with ⟨h1, h2⟩ | ⟨n, h1, h2, h3, h4, h5⟩
      · exact Or.inl ⟨by rw [e0]; exact h1, fun e g1 g2 => nx e g1 (fun g3 => h2 e g3 (by omega))⟩
      · exact Or.inr ⟨n, by rw [e0]; exact h1, by omega, by omega, h4, fun e g1 g2 => nx e g1 (fun g3 => h5 e g3 g2)⟩
theorem fd_congr {P Q : Nat → Bool} {lo k : Nat} (h : ∀ e, lo ≤ e → e < lo + k → P e = Q e) : fd P lo k = fd Q lo k := by
  rcases fd_cases P k lo with ⟨h1, h2⟩ | ⟨n, h1, h2, h3, h4, h5⟩
  · rw [h1, fd_none k lo (fun e g1 g2 => by rw [← h e g1 g2]; exact h2 e g1 g2)]
  · rw [h1, fd_some k lo n h2 h3 (by rw [← h n h2 h3]; exact h4) (fun e g1 g2 => by rw [← h e g1 (by omega)]; exact h5 e g1 g2)]
theorem oI_ne {n : Nat} (h : n < 2 ^ 31) : ¬ oI (some n) = -2 := fun e => by
  have q := nI_toInt h
  have e : nI n = -2 := e
  rw [e] at q
  have e2 : (-2 : Int32).toInt = -2 := by decide
  rw [e2] at q
  omega
/-! a feast's days, by the courses F of the wheels -/
def onW (F : Nat → Nat → Nat) (D : DD) (V : Nat → Nat) (f n : Nat) : Bool := decide (∀ w, w < dW D → dX D f w = 0 ∨ dX D f w = it (F w) (wg D V w n) (V (3 + w)) + 1)
def CalF (h : Hp) (c : Nat) (D : DD) (V : Nat → Nat) (F : Nat → Nat → Nat) : Prop := ∀ w, w < dW D → ∃ J L r, RepU h (c + 6 + 4 * w) (F w) J (V (3 + w)) (dK D w) (V 0) (V 1) L r
/-- days to what the sky says -/
def dts (D : DD) (f d : Nat) : Nat := if d ≤ dFr D f then dFr D f - d else if (d - dFr D f) % dEv D f = 0 then 0 else dEv D f - (d - dFr D f) % dEv D f
theorem dts_le {D : DD} {f d : Nat} (h1 : dFr D f ≤ 400) (h2 : dEv D f ≤ 400) : dts D f d ≤ 400 := by
  unfold dts
  split
  · omega
  · split <;> omega
theorem dts_ne {D : DD} {f d e : Nat} (h0 : 0 < dEv D f) (h1 : d ≤ e) (h2 : e < d + dts D f d) : dts D f e ≠ 0 := by
  unfold dts at *
  generalize dFr D f = a at *
  generalize dEv D f = b at *
  by_cases q : d ≤ a
  · rw [if_pos q] at h2
    rw [if_pos (by omega)]
    omega
  · rw [if_neg q] at h2
    by_cases z : (d - a) % b = 0
    · rw [if_pos z] at h2
      omega
    · rw [if_neg z] at h2
      rw [if_neg (by omega)]
      have hm := Nat.mod_lt (d - a) h0
      have e1 : (e - a) % b = (d - a) % b + (e - d) := by
        have e2 := Nat.div_add_mod (d - a) b
        have e3 : e - a = ((d - a) % b + (e - d)) + b * ((d - a) / b) := by omega
        rw [e3, Nat.add_mul_mod_self_left, Nat.mod_eq_of_lt (by omega)]
      rw [e1, if_neg (by omega)]
      omega
/-- what the calendar is asked with -/
def CX (h : Hp) (c o r : Nat) (D : DD) (V : Nat → Nat) (F : Nat → Nat → Nat) : Prop := LayC h c ∧ hR h c 5 = some o ∧ hR h c 6 = some r ∧ RepO h o D ∧ RepV h r V ∧ CalF h c D V F ∧ Wf D ∧ WfV D V ∧ V 0 ≤ 999999
section CQ
variable {h : Hp} {c o r : Nat} {D : DD} {V : Nat → Nat} {F : Nat → Nat → Nat}
theorem ok_C_waitFor (X : CX h c o r D V F) {f n : Nat} (hf : f < dF D) (hn : n ≤ 5000) : Ok (f_C_waitFor c (nI f) (nI n) h) (fun y h' => h' = h ∧ ∃ e, y = nI e ∧ n ≤ e ∧ e < 2 ^ 29 ∧ (e = n ↔ onW F D V f n = true) ∧ ∀ z, n ≤ z → z < e → z ≤ 5000 → onW F D V f z = false) := by
  obtain ⟨C, h5, h6, rO, rV, cal, W, hv, hV0⟩ := X
  obtain ⟨l1, l2, l3, l4, l5, l6, l7, l8, l9, l10, l11, l12⟩ := id C
  have w1 := W.1
  have w2 := W.2.1
  have hV1 := hv.2.1
  have o1 := rO.1.1
  unfold f_C_waitFor
  refine ok_lt (ok_mono (P := fun y h' => h' = h ∧ ∃ e, y = nI e ∧ n ≤ e ∧ e < 2 ^ 29 ∧ (e = n ↔ ∀ u, u < dW D → dX D f u = 0 ∨ dX D f u = it (F u) (wg D V u n) (V (3 + u)) + 1) ∧ ∀ z, n ≤ z → z < e → z ≤ 5000 → ¬ ∀ u, u < dW D → dX D f u = 0 ∨ dX D f u = it (F u) (wg D V u z) (V (3 + u)) + 1) ?_ (fun y h' hh => ?_))
  · refine ok_up (dW D) (fun i s h' => h' = h ∧ ∃ e, s = (c, nI f, nI n, nI e, nI i) ∧ n ≤ e ∧ e < 2 ^ 29 ∧ (e = n ↔ ∀ u, u < i → dX D f u = 0 ∨ dX D f u = it (F u) (wg D V u n) (V (3 + u)) + 1) ∧ ∀ z, n ≤ z → z < e → z ≤ 5000 → ¬ ∀ u, u < i → dX D f u = 0 ∨ dX D f u = it (F u) (wg D V u z) (V (3 + u)) + 1) ?_ FU 0 _ _ (Nat.zero_le _) ⟨rfl, n, rfl, Nat.le_refl _, by omega, ⟨fun _ u hu => absurd hu (Nat.not_lt_zero _), fun _ => rfl⟩, fun z h1 h2 => by omega⟩ (by show _ < 10000; omega)
    intro k i s h' hi hI' kk
    obtain ⟨rfl, e, rfl, he1, he2, he3, he4⟩ := hI'
    show Ok (b_C_waitFor_5 k c (nI f) (nI n) (nI e) (nI i) h') _
    unfold b_C_waitFor_5 b_C_waitFor_53
    (try unfold QB); (try unfold QM); repeat (first | (with_reducible refine ok_lt ?_) | ((with_reducible refine ok_gd ?_ ?_); first | assumption | exact zb0 | exact zb1 | ((with_reducible apply ai_of) <;> first | assumption | omega | decide) | exact ai_lit (by assumption) (by decide) (by decide) (by decide)) | (refine ok_bR (by assumption) ?_))
    rw [rO.2.1.2.2.1]
    refine ok_it hi (by omega) (fun ei => ?_) (fun hl => ?_)
    · subst ei
      exact ok_ret ⟨rfl, e, rfl, he1, he2, he3, he4⟩
    · have hT := W.2.2.2.2.2.2.2.1 i hl
      have hX := W.2.2.2.2.2.2.2.2.1 f i hf hl
      obtain ⟨l13, l14⟩ := l12 i (by omega)
      (try unfold QB); (try unfold QM); repeat (first | (with_reducible refine ok_lt ?_) | ((with_reducible refine ok_gd ?_ ?_); first | assumption | exact zb0 | exact zb1 | ((with_reducible apply ai_of) <;> first | assumption | omega | decide) | exact ai_lit (by assumption) (by decide) (by decide) (by decide)) | (refine ok_bR (by assumption) ?_))
      refine ok_bde (e_O_feastTooth rO w2 hf (by omega)) ?_
      refine ok_ix (by omega) (fun ez => ?_) (fun ez => ?_)
      · refine kk _ _ hl ⟨rfl, e, by rw [nI_1], he1, he2, ⟨fun g u hu => ?_, fun g => he3.mpr (fun u hu => g u (by omega))⟩, fun z h1 h2 h3 g => he4 z h1 h2 h3 (fun u hu => g u (by omega))⟩
        by_cases eu : u = i
        · rw [eu]
          exact Or.inl ez
        · exact he3.mp g u (by omega)
      · have hxe : xI (dX D f i) = nI (dX D f i - 1) := if_neg ez
        have l15 := l14.1
        rw [hxe]
        (try unfold QB); (try unfold QM); repeat (first | (with_reducible refine ok_lt ?_) | ((with_reducible refine ok_gd ?_ ?_); first | assumption | exact zb0 | exact zb1 | ((with_reducible apply ai_of) <;> first | assumption | omega | decide) | exact ai_lit (by assumption) (by decide) (by decide) (by decide)) | (refine ok_bR (by assumption) ?_))
        (try simp (disch := omega) only [nI_clamp, cl0, cl1, cl2, cl3, cl4, cl5, cl6, cl7, cl8])
        (try unfold QB); (try unfold QM); repeat (first | (with_reducible refine ok_lt ?_) | ((with_reducible refine ok_gd ?_ ?_); first | assumption | exact zb0 | exact zb1 | ((with_reducible apply ai_of) <;> first | assumption | omega | decide) | exact ai_lit (by assumption) (by decide) (by decide) (by decide)) | (refine ok_bR (by assumption) ?_))
        obtain ⟨J, L, rr, hU⟩ := cal i hl
        obtain ⟨e2, q1, q2, q3, q4, q5⟩ := ok_U_dayFrom (t := dX D f i - 1) (n := n) l14 hU hT.1 hn hV1 (by omega)
        refine ok_bde q1 (ok_bde (e_max (by omega) (by omega)) ?_)
        refine kk _ _ hl ⟨rfl, max e e2, by rw [nI_1], by omega, by omega, ⟨fun g u hu => ?_, fun g => ?_⟩, fun z h1 h2 h3 g => ?_⟩
        · by_cases eu : u = i
          · rw [eu]
            have := q4.mp (by omega)
            exact Or.inr (by show _ = it (F i) (gs (dK D i) (V 0) (V 1) n) (V (3 + i)) + 1; omega)
          · exact he3.mp (by omega) u (by omega)
        · have a1 := he3.mpr (fun u hu => g u (by omega))
          have a2 : it (F i) (gs (dK D i) (V 0) (V 1) n) (V (3 + i)) = dX D f i - 1 := by
            rcases g i (by omega) with g1 | g1
            · exact absurd g1 ez
            · have g2 : dX D f i = it (F i) (gs (dK D i) (V 0) (V 1) n) (V (3 + i)) + 1 := g1
              omega
          have a3 := q4.mpr a2
          omega
        · rcases Nat.lt_or_ge z e with g1 | g1
          · exact he4 z h1 g1 h3 (fun u hu => g u (by omega))
          · refine q5 z h1 (by omega) h3 ?_
            rcases g i (by omega) with g2 | g2
            · exact absurd g2 ez
            · have g3 : dX D f i = it (F i) (gs (dK D i) (V 0) (V 1) z) (V (3 + i)) + 1 := g2
              omega
  · obtain ⟨e0, e, e1, e2, e3, e4, e5⟩ := hh
    exact ⟨e0, e, e1, e2, e3, ⟨fun g => decide_eq_true (e4.mp g), fun g => e4.mpr (of_decide_eq_true g)⟩, fun z h1 h2 h3 => decide_eq_false (e5 z h1 h2 h3)⟩
theorem e_O_daysToSky (rO : RepO h o D) (W : Wf D) {f d : Nat} (hf : f < dF D) (h0 : 0 < dEv D f) (hd : d < 2 ^ 29) : f_O_daysToSky o (nI f) (nI d) h = some (nI (dts D f d), h) := by
  obtain ⟨⟨o1, ⟨o2, o3, o4, o5, o6, o7, o8, o9, o10⟩, o11, o12, o13, o14, o15, o16⟩, ⟨p1, p2, p3, p4, p5, p6, p7⟩, oW, oX, oK, oE, oS⟩ := id rO
  have w2 := W.2.1
  have hE := W.2.2.2.2.2.2.2.2.2.2.2.1 f hf
  have q6 := o13 6 (by decide) (by decide)
  have q7 := o13 7 (by decide) (by decide)
  have h4 : f < 4 := by omega
  have g6 := (oE f hf).1
  have g7 := (oE f hf).2 h0
  refine ok_eq ?_
  unfold f_O_daysToSky dts
  (try unfold QB); (try unfold QM); repeat (first | (with_reducible refine ok_lt ?_) | ((with_reducible refine ok_gd ?_ ?_); first | assumption | exact zb0 | exact zb1 | ((with_reducible apply ai_of) <;> first | assumption | omega | decide) | exact ai_lit (by assumption) (by decide) (by decide) (by decide)) | (refine ok_bR (by assumption) ?_))
  (try simp (disch := omega) only [nI_clamp, cl0, cl1, cl2, cl3, cl4, cl5, cl6, cl7, cl8])
  rw [g7]
  refine ok_ilt (by omega) (by omega) (fun c => ?_) (fun c => ?_)
  · rw [if_neg (by omega)]
    (try unfold QB); (try unfold QM); repeat (first | (with_reducible refine ok_lt ?_) | ((with_reducible refine ok_gd ?_ ?_); first | assumption | exact zb0 | exact zb1 | ((with_reducible apply ai_of) <;> first | assumption | omega | decide) | exact ai_lit (by assumption) (by decide) (by decide) (by decide)) | (refine ok_bR (by assumption) ?_))
    rw [g7, g6]
    refine ok_bde (e_B_remainder (by omega) (by omega) h0 (by omega)) ?_
    have hm := Nat.mod_lt (d - dFr D f) h0
    rw [rmd_ge (by omega)]
    refine ok_ieq (b := 0) (by omega) (by decide) (fun c2 => ?_) (fun c2 => ?_)
    · rw [if_pos c2]
      exact ok_ret ⟨rfl, rfl⟩
    · rw [if_neg c2]
      (try unfold QB); (try unfold QM); repeat (first | (with_reducible refine ok_lt ?_) | ((with_reducible refine ok_gd ?_ ?_); first | assumption | exact zb0 | exact zb1 | ((with_reducible apply ai_of) <;> first | assumption | omega | decide) | exact ai_lit (by assumption) (by decide) (by decide) (by decide)) | (refine ok_bR (by assumption) ?_))
      rw [g6, pk_sub (by omega)]
      exact ok_ret ⟨rfl, rfl⟩
  · rw [if_pos c]
    (try unfold QB); (try unfold QM); repeat (first | (with_reducible refine ok_lt ?_) | ((with_reducible refine ok_gd ?_ ?_); first | assumption | exact zb0 | exact zb1 | ((with_reducible apply ai_of) <;> first | assumption | omega | decide) | exact ai_lit (by assumption) (by decide) (by decide) (by decide)) | (refine ok_bR (by assumption) ?_))
    rw [g7, pk_sub c]
    exact ok_ret ⟨rfl, rfl⟩
/-- feast f and feast g are on, and the sky says so too -/
def fdP (F : Nat → Nat → Nat) (D : DD) (V : Nat → Nat) (f g : Nat) (s : Bool) (n : Nat) : Bool := onW F D V f n && onW F D V g n && (!s || decide (dts D f (V 0 + n) = 0))
set_option maxHeartbeats 1000000 in
theorem ok_C_firstDay (X : CX h c o r D V F) {f g a b : Nat} (hf : f < dF D) (hg : g < dF D) (s : Bool) (hs : s = true → 0 < dEv D f) (ha : a ≤ 5001) (hb : b ≤ 5000) : Ok (f_C_firstDay c (nI f) (nI g) (bI s) (nI a) (nI b) h) (fun y h' => h' = h ∧ y = oI (fd (fdP F D V f g s) a (b + 1 - a))) := by
  obtain ⟨C, h5, h6, rO, rV, cal, W, hv, hV0⟩ := id X
  have l1 := C.1
  have w2 := W.2.1
  have hE := W.2.2.2.2.2.2.2.2.2.2.2.1 f hf
  have o1 := rO.1.1
  have v1 := rV.1
  unfold f_C_firstDay
  refine ok_dn (fun μ st h' => h' = h ∧ ∃ i d, st = (c, nI f, nI g, bI s, nI b, nI d, nI i) ∧ μ = 5003 - i ∧ a ≤ i ∧ i ≤ d ∧ i ≤ 5001 ∧ d < 2 ^ 30 ∧ ∀ z, a ≤ z → z < d → z ≤ 5000 → fdP F D V f g s z = false) ?_ FU (5003 - a) _ _ ⟨rfl, a, a, rfl, rfl, Nat.le_refl _, Nat.le_refl _, ha, by omega, fun z h1 h2 => by omega⟩ (by show _ < 10000; omega)
  intro k μ st h' hI' kc
  obtain ⟨rfl, i, d, rfl, hμ, hi1, hi2, hi3, hd, hno⟩ := hI'
  show Ok (b_C_firstDay_8 k c (nI f) (nI g) (bI s) (nI b) (nI d) (nI i) h') _
  unfold b_C_firstDay_8
  have none : b < d → (fun y h'_1 => h'_1 = h' ∧ y = oI (fd (fdP F D V f g s) a (b + 1 - a))) (-2 : Int32) h' := fun g1 => ⟨rfl, by rw [fd_none _ _ (fun z h1 h2 => hno z h1 (by omega) (by omega))]; rfl⟩
  refine ok_ilt (by omega) (by omega) (fun g1 => ok_ret (none (by omega))) (fun g1 => ok_ilt (by omega) (by omega) (fun g2 => ok_ret (none g2)) (fun g2 => ?_))
  have l81 : ∀ e1, d ≤ e1 → e1 < 2 ^ 30 → (e1 = d ↔ fdP F D V f g s d = true) → (∀ z, d ≤ z → z < e1 → z ≤ 5000 → fdP F D V f g s z = false) → Ok (b_C_firstDay_81 k c (nI f) (nI g) (bI s) (nI b) (nI d) (nI i) (nI e1) h') (fun y h'_1 => h'_1 = h' ∧ y = oI (fd (fdP F D V f g s) a (b + 1 - a))) := by
    intro e1 q1 q2 q3 q4
    unfold b_C_firstDay_81
    refine ok_ieq (by omega) (by omega) (fun c1 => ok_ret ⟨rfl, ?_⟩) (fun c1 => ?_)
    · rw [fd_some _ a d (by omega) (by omega) (q3.mp c1) (fun z h1 h2 => hno z h1 h2 (by omega))]
      rfl
    · refine kc (5003 - (i + 1)) _ _ (by omega) ⟨rfl, i + 1, e1, by rw [nI_1], rfl, by omega, by omega, by omega, q2, fun z h1 h2 h3 => ?_⟩
      rcases Nat.lt_or_ge z d with g3 | g3
      · exact hno z h1 g3 h3
      · exact q4 z g3 h2 h3
  have l50 : ∀ e1, d ≤ e1 → e1 < 2 ^ 29 → (e1 = d ↔ (onW F D V f d && onW F D V g d) = true) → (∀ z, d ≤ z → z < e1 → z ≤ 5000 → (onW F D V f z && onW F D V g z) = false) → Ok (b_C_firstDay_50 k c (nI f) (nI g) (bI s) (nI b) (nI d) (nI i) (nI e1) h') (fun y h'_1 => h'_1 = h' ∧ y = oI (fd (fdP F D V f g s) a (b + 1 - a))) := by
    intro e1 q1 q2 q3 q4
    unfold b_C_firstDay_50
    refine ok_ib (fun c1 => l81 e1 q1 (by omega) ?_ ?_) (fun c1 => ?_)
    · unfold fdP
      rw [c1, q3]
      simp
    · intro z h1 h2 h3
      unfold fdP
      rw [q4 z h1 h2 h3]
      rfl
    · (try unfold QB); (try unfold QM); repeat (first | (with_reducible refine ok_lt ?_) | ((with_reducible refine ok_gd ?_ ?_); first | assumption | exact zb0 | exact zb1 | ((with_reducible apply ai_of) <;> first | assumption | omega | decide) | exact ai_lit (by assumption) (by decide) (by decide) (by decide)) | (refine ok_bR (by assumption) ?_))
      (try simp (disch := omega) only [nI_clamp, cl0, cl1, cl2, cl3, cl4, cl5, cl6, cl7, cl8])
      rw [rV.2 0 (by decide), nI_add]
      have hdl := dts_le (D := D) (f := f) (d := V 0 + d) hE.2 hE.1
      refine ok_bde (e_O_daysToSky rO W hf (hs c1) (by omega)) ?_
      rw [nI_add]
      refine ok_bde (e_max (by omega) (by omega)) (l81 _ (by omega) (by omega) ⟨fun g3 => ?_, fun g3 => ?_⟩ (fun z h1 h2 h3 => ?_))
      · unfold fdP
        rw [q3.mp (by omega), decide_eq_true (show dts D f (V 0 + d) = 0 by omega)]
        simp
      · unfold fdP at g3
        rw [Bool.and_eq_true, c1] at g3
        have g4 := q3.mpr g3.1
        have g5 : dts D f (V 0 + d) = 0 := of_decide_eq_true (by simpa using g3.2)
        omega
      · unfold fdP
        rcases Nat.lt_or_ge z e1 with g3 | g3
        · rw [q4 z h1 g3 h3]
          rfl
        · have g4 := dts_ne (e := V 0 + z) (hs c1) (by omega) (show V 0 + z < V 0 + d + dts D f (V 0 + d) by omega)
          rw [c1, decide_eq_false g4]
          simp
  (try unfold QB); (try unfold QM); repeat (first | (with_reducible refine ok_lt ?_) | ((with_reducible refine ok_gd ?_ ?_); first | assumption | exact zb0 | exact zb1 | ((with_reducible apply ai_of) <;> first | assumption | omega | decide) | exact ai_lit (by assumption) (by decide) (by decide) (by decide)) | (refine ok_bR (by assumption) ?_))
  refine ok_bd (ok_mono (ok_C_waitFor X hf (n := d) (by omega)) ?_)
  intro y h2 hx
  obtain ⟨rfl, e1, rfl, q1, q2, q3, q4⟩ := hx
  have hfg := hf
  refine ok_ieq (by omega) (by omega) (fun c1 => ?_) (fun c1 => ?_)
  · subst c1
    refine l50 e1 q1 q2 ?_ (fun z h1 h2 h3 => ?_)
    · rw [Bool.and_self]
      exact q3
    · rw [q4 z h1 h2 h3]
      rfl
  · (try unfold QB); (try unfold QM); repeat (first | (with_reducible refine ok_lt ?_) | ((with_reducible refine ok_gd ?_ ?_); first | assumption | exact zb0 | exact zb1 | ((with_reducible apply ai_of) <;> first | assumption | omega | decide) | exact ai_lit (by assumption) (by decide) (by decide) (by decide)) | (refine ok_bR (by assumption) ?_))
    refine ok_bd (ok_mono (ok_C_waitFor X hg (n := d) (by omega)) ?_)
    intro y h3 hx
    obtain ⟨rfl, e2, rfl, p1, p2, p3, p4⟩ := hx
    refine ok_bde (e_max (by omega) (by omega)) (l50 _ (by omega) (by omega) ⟨fun g3 => ?_, fun g3 => ?_⟩ (fun z h1 h2 h3 => ?_))
    · rw [q3.mp (by omega), p3.mp (by omega)]
      rfl
    · rw [Bool.and_eq_true] at g3
      have := q3.mpr g3.1
      have := p3.mpr g3.2
      omega
    · rcases Nat.lt_or_ge z e1 with g3 | g3
      · rw [q4 z h1 g3 h3]
        rfl
      · rw [p4 z h1 (by omega) h3]
        simp
theorem ok_C_feastFrom (X : CX h c o r D V F) {f a b : Nat} (hf : f < dF D) (ha : a ≤ 5001) (hb : b ≤ 5000) : Ok (f_C_feastFrom c (nI f) (nI a) (nI b) h) (fun y h' => h' = h ∧ y = oI (fd (onW F D V f) a (b + 1 - a))) := by
  unfold f_C_feastFrom
  have l1 := X.1.1
  (try unfold QB); (try unfold QM); repeat (first | (with_reducible refine ok_lt ?_) | ((with_reducible refine ok_gd ?_ ?_); first | assumption | exact zb0 | exact zb1 | ((with_reducible apply ai_of) <;> first | assumption | omega | decide) | exact ai_lit (by assumption) (by decide) (by decide) (by decide)) | (refine ok_bR (by assumption) ?_))
  refine ok_bd (ok_mono (ok_C_firstDay X hf hf false (fun e => by cases e) ha hb) ?_)
  intro y h2 hx
  obtain ⟨rfl, rfl⟩ := hx
  refine ok_ret ⟨rfl, ?_⟩
  rw [fd_congr (Q := onW F D V f)]
  intro e _ _
  unfold fdP
  rw [Bool.and_self]
  simp
end CQ
