/-! new cells: what stays as it was -/
def Mo (h h' : Hp) : Prop := ∀ a s, hS h a = some s → hS h' a = some s
def Ag (n : Nat) (h h' : Hp) : Prop := ∀ a, a < n → hI h' a = hI h a ∧ hL h' a = hL h a ∧ hR h' a = hR h a
def NoS (h : Hp) : Prop := ∀ a, hN h ≤ a → hS h a = none
def hst (h h' : Hp) : Hp := (hN h', hS h', hB h', hI h, hL h, hR h)
theorem Mo.rf {h : Hp} : Mo h h := fun _ _ e => e
theorem Mo.trans {h h1 h2 : Hp} (p : Mo h h1) (q : Mo h1 h2) : Mo h h2 := fun a s e => q a s (p a s e)
theorem Fr.mo {S : Nat → Nat → Prop} {h h' : Hp} (F : Fr S h h') : Mo h h' := fun a s e => by rw [F.2.1]; exact e
theorem Fr.nos {S : Nat → Nat → Prop} {h h' : Hp} (F : Fr S h h') (n : NoS h) : NoS h' := fun a ha => by rw [F.2.1]; exact n a (by rw [← F.1]; exact ha)
theorem hst_fr {n : Nat} {h h' : Hp} (ag : Ag n h h') : Fr (fun a _ => n ≤ a) (hst h h') h' := ⟨rfl, rfl, rfl, fun a k ha => by
  have g := ag a (by omega)
  exact ⟨congrFun g.1 k, congrFun g.2.1 k, congrFun g.2.2 k⟩⟩
section MO
variable {h h' : Hp}
theorem LayO.mo {o : Nat} (L : LayO h o) (m : Mo h h') : LayO (hst h h') o := by
  obtain ⟨l1, l2, l3, l4, l5, l6, l7, l8⟩ := L
  exact ⟨m _ _ l1, l2, m _ _ l3, m _ _ l4, fun i h1 h2 => m _ _ (l5 i h1 h2), m _ _ l6, m _ _ l7, fun w hw => ⟨(l8 w hw).1, m _ _ (l8 w hw).2⟩⟩
theorem LayU.mo {u : Nat} (L : LayU h u) (m : Mo h h') : LayU (hst h h') u := by
  obtain ⟨l1, l2, l3, l4, l5, l6, l7, l8⟩ := L
  exact ⟨m _ _ l1, l2, l3, l4, m _ _ l5, m _ _ l6, m _ _ l7, l8⟩
theorem LayB.mo {x : Nat} (L : LayB h x) (m : Mo h h') : LayB (hst h h') x := by
  obtain ⟨⟨x1, x2, x3, x4, x5, x6, x7, x8, x9, x10, x11, x12, x13⟩, ⟨r1, r2, r3, r4, r5, r6, r7⟩, ⟨c1, c2, c3, c4, c5, c6, c7, c8, c9, c10, c11, c12⟩, ⟨k1, k2, k3, k4, k5, k6, k7⟩, ⟨s1, s2, s3, s4, s5, s6, s7, s8, s9⟩, ⟨g1, g2, g3, g4⟩, h1, h2, h3, h4⟩ := L
  exact ⟨⟨m _ _ x1, x2, x3, x4, x5, x6, x7, x8, x9, x10, x11, m _ _ x12, m _ _ x13⟩, ⟨m _ _ r1, r2, r3, r4, m _ _ r5, m _ _ r6, m _ _ r7⟩, ⟨m _ _ c1, c2, c3, c4, c5, c6, m _ _ c7, m _ _ c8, m _ _ c9, m _ _ c10, m _ _ c11, fun w hw => ⟨(c12 w hw).1, (c12 w hw).2.mo m⟩⟩, ⟨m _ _ k1, k2, k3, k4, m _ _ k5, m _ _ k6, m _ _ k7⟩, ⟨m _ _ s1, s2, s3, s4, s5, m _ _ s6, m _ _ s7, m _ _ s8, m _ _ s9⟩, ⟨m _ _ g1, g2, m _ _ g3, fun i hi => ⟨(g4 i hi).1, m _ _ (g4 i hi).2⟩⟩, m _ _ h1, m _ _ h2, m _ _ h3, h4⟩
theorem RepO.mo {o : Nat} {D : DD} (R : RepO h o D) (m : Mo h h') : RepO (hst h h') o D := ⟨R.1.mo m, R.2⟩
theorem RepV.mo {r : Nat} {V : Nat → Nat} (v : RepV h r V) (m : Mo h h') : RepV (hst h h') r V := ⟨m _ _ v.1, v.2⟩
theorem RepX.mo {r : Nat} {V : Nat → Nat} (v : RepX h r V) (m : Mo h h') : RepX (hst h h') r V := ⟨m _ _ v.1, v.2⟩
theorem RepP.mo {p c j : Nat} {K Im : Nat → Nat → Nat} (P : RepP h p K c Im j) (m : Mo h h') : RepP (hst h h') p K c Im j := by
  obtain ⟨p1, p2, p3, p4, p5, p6⟩ := P
  exact ⟨m _ _ p1, p2, p3, m _ _ p4, m _ _ p5, p6⟩
theorem LayQ.mo {q : Nat} (L : LayQ h q) (m : Mo h h') : LayQ (hst h h') q := by
  obtain ⟨l1, l2, l3, l4, l5, l6, l7, l8, l9, l10, l11⟩ := L
  exact ⟨m _ _ l1, l2, fun i hi => m _ _ (l3 i hi), m _ _ l4, m _ _ l5, fun i hi => m _ _ (l6 i hi), m _ _ l7, m _ _ l8, m _ _ l9, m _ _ l10, m _ _ l11⟩
theorem RepQ.mo {q : Nat} {D : DD} (R : RepQ h q D) (m : Mo h h') : RepQ (hst h h') q D := ⟨R.1.mo m, R.2⟩
theorem LayM.mo {n : Nat} (L : LayM h n) (m : Mo h h') : LayM (hst h h') n := by
  obtain ⟨l1, l2, s1, s2, s3, s4, s5, s6, s7, s8, s9, s10, s11, s12, s13⟩ := L
  exact ⟨m _ _ l1, l2, m _ _ s1, m _ _ s2, m _ _ s3, m _ _ s4, m _ _ s5, m _ _ s6, m _ _ s7, m _ _ s8, m _ _ s9, m _ _ s10, m _ _ s11, m _ _ s12, m _ _ s13⟩
variable {x m c j tl n : Nat} {D : DD} {V : Nat → Nat} {K Im : Nat → Nat → Nat} {T : Nat → Int32} {fa : Int32}
theorem RB.al (R : RB h x D V K c Im j T tl fa) (W : Wf D) (mo : Mo h h') (ag : Ag n h h') (hx : x + 88 ≤ n) : RB h' x D V K c Im j T tl fa := by
  obtain ⟨o, o', ho, L, r3, r4, rO, rD, rV, rP, t1, t2, f1, sU⟩ := R
  have R2 : RB (hst h h') x D V K c Im j T tl fa := ⟨o, o', ho, L.mo mo, r3, r4, rO.mo mo, rD.mo mo, rV.mo mo, rP.mo mo, t1, t2, f1, sU⟩
  exact R2.fr W (hst_fr ag) (fun a k e => Or.inr (by omega))
theorem RM.al (M : RM h m D V K c Im j T tl fa) (mo : Mo h h') (ag : Ag (hN h) h h') (hm : m + 15 ≤ hN h) (hn : hN h ≤ hN h') : RM h' m D V K c Im j T tl fa := by
  obtain ⟨L, r0, r3, rX, rR, t1, t2, f1⟩ := M
  have F := hst_fr ag
  have no : ∀ k, k ≤ m + 14 → ∀ i, ¬ (fun a (_ : Nat) => hN h ≤ a) k i := fun k hk i => by show ¬ hN h ≤ k; omega
  refine ⟨(L.mo mo).fr F (fun k _ => no m (by omega) k), fun hz => ?_, fun hz => ?_, (rX.mo mo).fr F (fun k => no _ (by omega) k), ?_, ?_, fun p hp => ?_, ?_⟩
  · rw [(ag m (by omega)).2.2]; exact r0 hz
  · obtain ⟨q, q1, q2, q3, q4⟩ := r3 hz
    exact ⟨q, by rw [(ag m (by omega)).2.2]; exact q1, q2, by omega, (q4.mo mo).fr F (fun i k hi => by show ¬ hN h ≤ q + i; omega)⟩
  · have rR2 : RepR (hst h h') m K c Im j := rR
    exact rR2.fr F (no m (by omega) 19) (no m (by omega) 20) (fun k => no _ (by omega) k) (fun k => no _ (by omega) k)
  · rw [(ag m (by omega)).1]; exact t1
  · rw [(ag (m + 1) (by omega)).1]; exact t2 p hp
  · rw [(ag m (by omega)).1]; exact f1
end MO
/-! the reference's new orrery -/
def shQ (j : Nat) : Nat × Nat := if j < 4 then (0, 5) else if j = 4 then (1, 5) else if j = 5 then (0, 20) else if j < 12 then (0, 4) else if j < 14 then (0, 5) else if j = 14 then (1, 13) else (0, 13)
def AI (q : Nat) (h0 h : Hp) (i : Nat) : Prop := hN h = q + 1 + i ∧ hS h q = some (.inl 12) ∧ (∀ j, j < i → hR h q (10 + j) = some (q + 1 + j) ∧ hS h (q + 1 + j) = some (.inr (shQ j)) ∧ ∀ k, hI h (q + 1 + j) k = 0 ∧ hL h (q + 1 + j) k = 0) ∧ hI h q = hI h0 q ∧ Mo h0 h ∧ Ag q h0 h ∧ NoS h ∧ (hB h0).1 ≤ (hB h).1 + i ∧ (hB h0).2 ≤ (hB h).2 + 20 * i
theorem ai_step {α : Type} {q i t n : Nat} {h0 h : Hp} {F : Hp → Option (α × Hp)} {Q : α → Hp → Prop} (I : AI q h0 h i) (hs : shQ i = (t, n)) (hn : n ≤ 20) (hi : i < 17) (b1 : 18 ≤ (hB h0).1) (b2 : 400 ≤ (hB h0).2) (kk : ∀ h3, AI q h0 h3 (i + 1) → Ok (F h3) Q) : Ok (gd (1 ≤ (hB h).1 ∧ n ≤ (hB h).2) (lt (hN h) fun a => lt (uN h (.inr (t, n)) n) fun h2 => gd (hS h2 q = some (.inl 12)) (lt (uR h2 q (10 + i) (some a)) fun h3 => F h3))) Q := by
  obtain ⟨a1, a2, a3, a4, a5, a6, a7, a8, a9⟩ := I
  refine ok_gd ⟨by omega, by omega⟩ (ok_lt (ok_lt (ok_gd ?_ (ok_lt (kk _ ?_)))))
  · show (if q = hN h then some (.inr (t, n)) else hS h q) = some (.inl 12)
    rw [if_neg (by omega)]; exact a2
  · refine ⟨?_, ?_, fun j hj => ⟨?_, ?_, fun k => ⟨?_, ?_⟩⟩, ?_, fun a s e => ?_, fun a ha => ⟨?_, ?_, ?_⟩, fun a ha => ?_, ?_, ?_⟩
    · show hN h + 1 = q + 1 + (i + 1)
      omega
    · show (if q = hN h then some (.inr (t, n)) else hS h q) = some (.inl 12)
      rw [if_neg (by omega)]; exact a2
    · show (if q = q ∧ 10 + j = 10 + i then some (hN h) else if q = hN h then none else hR h q (10 + j)) = some (q + 1 + j)
      by_cases z : j = i
      · rw [if_pos ⟨rfl, by omega⟩, a1, z]
      · rw [if_neg (by omega), if_neg (by omega)]
        exact (a3 j (by omega)).1
    · show (if q + 1 + j = hN h then some (.inr (t, n)) else hS h (q + 1 + j)) = some (.inr (shQ j))
      by_cases z : j = i
      · rw [if_pos (by omega), z, hs]
      · rw [if_neg (by omega)]
        exact (a3 j (by omega)).2.1
    · show (if q + 1 + j = hN h then 0 else hI h (q + 1 + j) k) = 0
      by_cases z : j = i
      · rw [if_pos (by omega)]
      · rw [if_neg (by omega)]
        exact ((a3 j (by omega)).2.2 k).1
    · show (if q + 1 + j = hN h then 0 else hL h (q + 1 + j) k) = 0
      by_cases z : j = i
      · rw [if_pos (by omega)]
      · rw [if_neg (by omega)]
        exact ((a3 j (by omega)).2.2 k).2
    · funext k
      show (if q = hN h then 0 else hI h q k) = hI h0 q k
      rw [if_neg (by omega), a4]
    · have e2 := a5 a s e
      show (if a = hN h then some (.inr (t, n)) else hS h a) = some s
      by_cases z : a = hN h
      · rw [z, a7 (hN h) (Nat.le_refl _)] at e2
        cases e2
      · rw [if_neg z]; exact e2
    · funext k
      show (if a = hN h then 0 else hI h a k) = hI h0 a k
      rw [if_neg (by omega), (a6 a ha).1]
    · funext k
      show (if a = hN h then 0 else hL h a k) = hL h0 a k
      rw [if_neg (by omega), (a6 a ha).2.1]
    · funext k
      show (if a = q ∧ k = 10 + i then some (hN h) else if a = hN h then none else hR h a k) = hR h0 a k
      rw [if_neg (by omega), if_neg (by omega), (a6 a ha).2.2]
    · show (if a = hN h then some (.inr (t, n)) else hS h a) = none
      have ha' : hN h + 1 ≤ a := ha
      rw [if_neg (by omega)]
      exact a7 a (by omega)
    · show (hB h0).1 ≤ (hB h).1 - 1 + (i + 1)
      omega
    · show (hB h0).2 ≤ (hB h).2 - n + 20 * (i + 1)
      omega
theorem ok_n_init {q : Nat} {h : Hp} (hq : hN h = q + 1) (s : hS h q = some (.inl 12)) (z : ∀ k, hI h q k = 0) (ns : NoS h) (b1 : 18 ≤ (hB h).1) (b2 : 400 ≤ (hB h).2) : Ok (f_n_init q h) (fun _ h' => hN h' = q + 18 ∧ Mo h h' ∧ Ag q h h' ∧ NoS h' ∧ RdQ h' q D0 false ∧ NmM h' q N0 ∧ (hB h).1 ≤ (hB h').1 + 17 ∧ (hB h).2 ≤ (hB h').2 + 340) := by
  unfold f_n_init
  refine ok_gd s (ok_lt (ok_gd (by exact s) (ok_lt ?_)))
  have I0 : AI q (uI (uI h q 0 (-1)) q 7 (-1)) (uI (uI h q 0 (-1)) q 7 (-1)) 0 := ⟨hq, s, fun j hj => absurd hj (Nat.not_lt_zero _), rfl, Mo.rf, fun a _ => ⟨rfl, rfl, rfl⟩, ns, Nat.le_refl _, Nat.le_refl _⟩
  refine ai_step (i := 0) I0 rfl (by decide) (by decide) b1 b2 (fun g1 I1 => ?_)
  refine ai_step (i := 1) I1 rfl (by decide) (by decide) b1 b2 (fun g2 I2 => ?_)
  refine ai_step (i := 2) I2 rfl (by decide) (by decide) b1 b2 (fun g3 I3 => ?_)
  refine ai_step (i := 3) I3 rfl (by decide) (by decide) b1 b2 (fun g4 I4 => ?_)
  refine ai_step (i := 4) I4 rfl (by decide) (by decide) b1 b2 (fun g5 I5 => ?_)
  refine ai_step (i := 5) I5 rfl (by decide) (by decide) b1 b2 (fun g6 I6 => ?_)
  refine ai_step (i := 6) I6 rfl (by decide) (by decide) b1 b2 (fun g7 I7 => ?_)
  refine ai_step (i := 7) I7 rfl (by decide) (by decide) b1 b2 (fun g8 I8 => ?_)
  refine ai_step (i := 8) I8 rfl (by decide) (by decide) b1 b2 (fun g9 I9 => ?_)
  refine ai_step (i := 9) I9 rfl (by decide) (by decide) b1 b2 (fun g10 I10 => ?_)
  refine ai_step (i := 10) I10 rfl (by decide) (by decide) b1 b2 (fun g11 I11 => ?_)
  refine ai_step (i := 11) I11 rfl (by decide) (by decide) b1 b2 (fun g12 I12 => ?_)
  refine ai_step (i := 12) I12 rfl (by decide) (by decide) b1 b2 (fun g13 I13 => ?_)
  refine ai_step (i := 13) I13 rfl (by decide) (by decide) b1 b2 (fun g14 I14 => ?_)
  refine ai_step (i := 14) I14 rfl (by decide) (by decide) b1 b2 (fun g15 I15 => ?_)
  refine ai_step (i := 15) I15 rfl (by decide) (by decide) b1 b2 (fun g16 I16 => ?_)
  refine ai_step (i := 16) I16 rfl (by decide) (by decide) b1 b2 (fun g17 I17 => ?_)
  clear I0 I1 I2 I3 I4 I5 I6 I7 I8 I9 I10 I11 I12 I13 I14 I15 I16
  obtain ⟨a1, a2, a3, a4, a5, a6, a7, a8, a9⟩ := I17
  have L : LayQ g17 q := by
    refine ⟨a2, fun i hi => (a3 i hi).1, fun i hi => ?_, (a3 4 (by decide)).2.1, (a3 5 (by decide)).2.1, fun i hi => ?_, (a3 12 (by decide)).2.1, (a3 13 (by decide)).2.1, (a3 14 (by decide)).2.1, (a3 15 (by decide)).2.1, (a3 16 (by decide)).2.1⟩
    · rw [(a3 i (by omega)).2.1]
      unfold shQ
      rw [if_pos hi]
    · have := (a3 (6 + i) (by omega)).2.1
      rw [show q + 1 + (6 + i) = q + 7 + i by omega] at this
      rw [this]
      unfold shQ
      rw [if_neg (by omega), if_neg (by omega), if_neg (by omega), if_pos (by omega)]
  have iq : ∀ k, k ≠ 0 → k ≠ 7 → hI g17 q k = 0 := fun k h0 h7 => by
    rw [a4, hI_uIk h7, hI_uIk h0]
    exact z k
  have i0 : hI g17 q 0 = -1 := by rw [a4, hI_uIk (by decide), hI_uIs]
  have i7 : hI g17 q 7 = -1 := by rw [a4, hI_uIs]
  refine ok_ret ⟨by rw [a1], (fr_uI (S := fun _ _ => True) trivial).mo.trans ((fr_uI (S := fun _ _ => True) trivial).mo.trans a5), fun a ha => ?_, a7, ⟨L, ⟨?_, ?_, ?_, ?_, ?_, ?_, ?_, ?_, ?_⟩, fun w hw => absurd hw (Nat.not_lt_zero _), fun w _ hw => ((a3 4 (by decide)).2.2 w).2, fun f w hf => absurd hf (Nat.not_lt_zero _), fun f hf => ((a3 7 (by decide)).2.2 f).1, fun f hf => absurd hf (Nat.not_lt_zero _), fun k hk => absurd hk (Nat.not_lt_zero _), fun k hk => absurd hk (Nat.not_lt_zero _)⟩, ⟨?_, by decide, fun k hk => absurd hk (Nat.not_lt_zero _)⟩, a8, a9⟩
  · obtain ⟨b1, b2, b3⟩ := a6 a ha
    refine ⟨b1.trans ?_, b2.trans rfl, b3.trans rfl⟩
    funext k
    rw [hI_uIa (by omega), hI_uIa (by omega)]
  · rw [i0]; rfl
  · rw [iq 1 (by decide) (by decide)]; rfl
  · rw [iq 2 (by decide) (by decide)]; rfl
  · rw [iq 3 (by decide) (by decide)]; rfl
  · rw [iq 4 (by decide) (by decide)]; rfl
  · rw [iq 5 (by decide) (by decide)]; rfl
  · rw [iq 6 (by decide) (by decide)]; rfl
  · rw [i7]; rfl
  · rw [iq 8 (by decide) (by decide)]; rfl
  · rw [iq 9 (by decide) (by decide)]; rfl
