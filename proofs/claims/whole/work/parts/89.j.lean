/-! what reading does, for both sides: a cursor is (0, the token at hand) or (the fault, its place) -/
def wks : List Nat := [0, 2688627, 15660, 20325907, 24384684, 245189, 6456948, 769611, 19833, 21126190196, 341388452, 651673224, 549501108, 441838, 21753137541, 70692, 21141128, 89, 52, 21015731, 24627848, 5969497, 215533, 4153]
def wk (k : Nat) : Nat := wks.getD k 0
def isW (X : TX) (k a : Nat) : Bool := decide (tS X a = 1 ∧ tW X a = wk k)
def isLn (X : TX) (a : Nat) : Bool := isW X 1 a || isW X 4 a || isW X 5 a || isW X 6 a || isW X 7 a || isW X 8 a || isW X 9 a || isW X 10 a || isW X 11 a
def isNm (X : TX) (a : Nat) : Bool := decide (tS X a = 1) && !isLn X a
abbrev CU : Type := Nat × Nat
def cG (f p : Nat) (c : CU) : CU := if c.1 = 0 then (f, p) else c
def cF (f : Nat) (c : CU) : CU := cG f c.2 c
def cS (X : TX) (c : CU) : CU := if c.1 = 0 then (0, nxt X c.2) else c
def cCk (b : Bool) (f : Nat) (c : CU) : CU := if b = true then c else cF f c
def cP (X : TX) (k : Nat) (c : CU) : CU := cS X (cCk (isW X k c.2) 1 c)
def cH (X : TX) (lo hi : Nat) (c : CU) : CU := if tS X c.2 = 2 then cCk (decide (lo ≤ tN X c.2 ∧ tN X c.2 ≤ hi)) 4 c else cF 1 c
def cW (X : TX) (lo hi : Nat) (c : CU) : CU := cS X (cH X lo hi c)
theorem cG_0 {f p : Nat} {c : CU} (h : c.1 = 0) : cG f p c = (f, p) := if_pos h
theorem cG_n {f p : Nat} {c : CU} (h : c.1 ≠ 0) : cG f p c = c := if_neg h
theorem cS_0 {X : TX} {c : CU} (h : c.1 = 0) : cS X c = (0, nxt X c.2) := if_pos h
theorem cS_n {X : TX} {c : CU} (h : c.1 ≠ 0) : cS X c = c := if_neg h
theorem cCk_n {b : Bool} {f : Nat} {c : CU} (h : c.1 ≠ 0) : cCk b f c = c := by
  unfold cCk cF
  rw [cG_n h]
  split <;> rfl
theorem cH_n {X : TX} {lo hi : Nat} {c : CU} (h : c.1 ≠ 0) : cH X lo hi c = c := by
  unfold cH cF
  rw [cCk_n h, cG_n h]
  split <;> rfl
theorem cF_n {f : Nat} {c : CU} (h : c.1 ≠ 0) : cF f c = c := cG_n h
theorem cF_ne {f : Nat} {c : CU} (hf : f ≠ 0) : (cF f c).1 ≠ 0 := by
  unfold cF cG
  split
  · exact hf
  · assumption
theorem cS_z {X : TX} {c : CU} (h : (cS X c).1 = 0) : c.1 = 0 := by
  unfold cS at h
  split at h
  · assumption
  · assumption
theorem cCk_z {b : Bool} {f : Nat} {c : CU} (hf : f ≠ 0) (h : (cCk b f c).1 = 0) : c.1 = 0 ∧ b = true ∧ cCk b f c = c := by
  unfold cCk at h ⊢
  split at h
  · next e => exact ⟨h, e, if_pos e⟩
  · exact absurd h (cF_ne hf)
theorem cP_z {X : TX} {k : Nat} {c : CU} (h : (cP X k c).1 = 0) : c.1 = 0 ∧ isW X k c.2 = true ∧ cP X k c = (0, nxt X c.2) := by
  have h1 := cS_z h
  obtain ⟨a, b, e⟩ := cCk_z (by decide) h1
  refine ⟨a, b, ?_⟩
  unfold cP
  rw [e, cS_0 a]
theorem cH_z {X : TX} {lo hi : Nat} {c : CU} (h : (cH X lo hi c).1 = 0) : c.1 = 0 ∧ tS X c.2 = 2 ∧ lo ≤ tN X c.2 ∧ tN X c.2 ≤ hi ∧ cH X lo hi c = c := by
  unfold cH at h ⊢
  split at h
  · next e =>
    rw [if_pos e]
    obtain ⟨a, b, g⟩ := cCk_z (by decide) h
    have := of_decide_eq_true b
    exact ⟨a, e, this.1, this.2, g⟩
  · exact absurd h (cF_ne (by decide))
theorem cW_z {X : TX} {lo hi : Nat} {c : CU} (h : (cW X lo hi c).1 = 0) : c.1 = 0 ∧ tS X c.2 = 2 ∧ lo ≤ tN X c.2 ∧ tN X c.2 ≤ hi ∧ cW X lo hi c = (0, nxt X c.2) := by
  obtain ⟨a, b, d, e, g⟩ := cH_z (cS_z h)
  refine ⟨a, b, d, e, ?_⟩
  unfold cW
  rw [g, cS_0 a]
/-! names told so far -/
abbrev NN : Type := Nat × (Nat → Nat) × (Nat → Nat) × (Nat → Nat)
def fdF (N : NN) (w : Nat) : Nat → Nat → Nat
  | 0, k => k
  | n + 1, k => if N.2.1 k = w then k else fdF N w n (k + 1)
def fdn (N : NN) (w k : Nat) : Nat := fdF N w (N.1 - k) k
def isK (N : NN) (s w : Nat) : Bool := decide (fdn N w 0 < N.1 ∧ N.2.2.1 (fdn N w 0) = s)
def kn (N : NN) (w : Nat) : Nat := N.2.2.2 (fdn N w 0)
def nadd (N : NN) (w s n : Nat) : NN := (N.1 + 1, (fun k => if k = N.1 then w else N.2.1 k), (fun k => if k = N.1 then s else N.2.2.1 k), fun k => if k = N.1 then n else N.2.2.2 k)
def cK (X : TX) (N : NN) (s : Nat) (c : CU) : CU := cCk (isK N s (tW X c.2)) 2 (cCk (isNm X c.2) 1 c)
def cT (X : TX) (N : NN) (c : CU) : CU := cCk (decide (fdn N (tW X c.2) 0 = N.1)) 3 (cCk (isNm X c.2) 1 c)
section NM
variable {N : NN} {w k : Nat}
theorem fdn_e (h : N.1 ≤ k) : fdn N w k = k := by
  unfold fdn
  rw [show N.1 - k = 0 by omega]
  rfl
theorem fdn_u (h : k < N.1) : fdn N w k = if N.2.1 k = w then k else fdn N w (k + 1) := by
  unfold fdn
  obtain ⟨n, hn⟩ : ∃ n, N.1 - k = n + 1 := ⟨N.1 - k - 1, by omega⟩
  rw [hn, show N.1 - (k + 1) = n by omega]
  rfl
theorem fdF_b (n k : Nat) : k ≤ fdF N w n k ∧ fdF N w n k ≤ k + n := by
  induction n generalizing k with
  | zero => exact ⟨Nat.le_refl _, Nat.le_refl _⟩
  | succ n ih =>
    show k ≤ (if N.2.1 k = w then k else fdF N w n (k + 1)) ∧ (if N.2.1 k = w then k else fdF N w n (k + 1)) ≤ k + (n + 1)
    have := ih (k + 1)
    split <;> omega
theorem fdn_le : fdn N w 0 ≤ N.1 := by
  have := fdF_b (N := N) (w := w) (N.1 - 0) 0
  unfold fdn
  omega
end NM
theorem cK_n {X : TX} {N : NN} {s : Nat} {c : CU} (h : c.1 ≠ 0) : cK X N s c = c := by
  unfold cK
  rw [cCk_n (f := 1) h, cCk_n h]
theorem cT_n {X : TX} {N : NN} {c : CU} (h : c.1 ≠ 0) : cT X N c = c := by
  unfold cT
  rw [cCk_n (f := 1) h, cCk_n h]
theorem cK_z {X : TX} {N : NN} {s : Nat} {c : CU} (h : (cK X N s c).1 = 0) : c.1 = 0 ∧ isNm X c.2 = true ∧ isK N s (tW X c.2) = true ∧ cK X N s c = c := by
  unfold cK at h ⊢
  obtain ⟨a, b, e⟩ := cCk_z (by decide) h
  obtain ⟨a2, b2, e2⟩ := cCk_z (by decide) a
  exact ⟨a2, b2, b, e.trans e2⟩
theorem cT_z {X : TX} {N : NN} {c : CU} (h : (cT X N c).1 = 0) : c.1 = 0 ∧ isNm X c.2 = true ∧ fdn N (tW X c.2) 0 = N.1 ∧ cT X N c = c := by
  unfold cT at h ⊢
  obtain ⟨a, b, e⟩ := cCk_z (by decide) h
  obtain ⟨a2, b2, e2⟩ := cCk_z (by decide) a
  exact ⟨a2, b2, of_decide_eq_true b, e.trans e2⟩
theorem isNm_w {X : TX} {a : Nat} (h : isNm X a = true) : tS X a = 1 := by
  unfold isNm at h
  exact of_decide_eq_true (Bool.and_eq_true_iff.mp h).1
theorem wk_b : ∀ k, k < 24 → wk k < 32 ^ 8 := by decide
