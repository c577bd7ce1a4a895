/-! tools of the later parts: tests, frames with references, both sides' cells -/
theorem cl0 : (0 : Int32).toNatClampNeg = 0 := by decide
theorem cl1 : (1 : Int32).toNatClampNeg = 1 := by decide
theorem cl2 : (2 : Int32).toNatClampNeg = 2 := by decide
theorem cl3 : (3 : Int32).toNatClampNeg = 3 := by decide
theorem cl4 : (4 : Int32).toNatClampNeg = 4 := by decide
theorem cl5 : (5 : Int32).toNatClampNeg = 5 := by decide
theorem cl6 : (6 : Int32).toNatClampNeg = 6 := by decide
theorem cl7 : (7 : Int32).toNatClampNeg = 7 := by decide
theorem cl8 : (8 : Int32).toNatClampNeg = 8 := by decide
theorem ai_lit {h : Hp} {a t N : Nat} {v : Int32} (hs : hS h a = some (.inr (t, N))) (e : nI v.toNatClampNeg = v) (hn : v.toNatClampNeg < N) (hN : N < 2 ^ 31) : ai h a t v := by
  have g := ai_of hs hn hN
  rw [e] at g
  exact g
section OK2
variable {α : Type} {A B : Option (α × Hp)} {Q : α → Hp → Prop} {a b : Nat}
/-- the head of a loop that counts up -/
theorem ok_it (hi : b ≤ a) (ha : a < 2 ^ 31) (t : b = a → Ok A Q) (e : b < a → Ok B Q) : Ok (if nI a ≤ nI b then A else B) Q := by
  refine ok_ite (fun c => t ?_) (fun c => e ?_)
  · have := (nI_leI ha (by omega)).mp c
    omega
  · rcases Nat.lt_or_ge b a with g | g
    · exact g
    · exact absurd (nI_le g (by omega)) c
theorem ok_ile (ha : a < 2 ^ 31) (hb : b < 2 ^ 31) (t : a ≤ b → Ok A Q) (e : b < a → Ok B Q) : Ok (if nI a ≤ nI b then A else B) Q := by
  refine ok_ite (fun c => t ((nI_leI ha hb).mp c)) (fun c => e ?_)
  rcases Nat.lt_or_ge b a with g | g
  · exact g
  · exact absurd (nI_le g hb) c
theorem ok_ilt (ha : a < 2 ^ 31) (hb : b < 2 ^ 31) (t : a < b → Ok A Q) (e : b ≤ a → Ok B Q) : Ok (if nI a < nI b then A else B) Q := by
  refine ok_ite (fun c => t ((nI_ltI ha hb).mp c)) (fun c => e ?_)
  rcases Nat.lt_or_ge a b with g | g
  · exact absurd (nI_lt g hb) c
  · exact g
theorem ok_ieq (ha : a < 2 ^ 31) (hb : b < 2 ^ 31) (t : a = b → Ok A Q) (e : a ≠ b → Ok B Q) : Ok (if nI a = nI b then A else B) Q :=
  ok_ite (fun c => t ((nI_eq ha hb).mp c)) (fun c => e (fun g => c (by rw [g])))
theorem ok_ib {b : Bool} (t : b = false → Ok A Q) (e : b = true → Ok B Q) : Ok (if bI b = 0 then A else B) Q := by
  refine ok_ite (fun c => t ((bI_z _).mp c)) (fun c => e ?_)
  cases g : b with
  | true => rfl
  | false => exact absurd ((bI_z _).mpr g) c
theorem ok_t {c : Prop} [Decidable c] (hc : c) (t : Ok A Q) : Ok (if c then A else B) Q := by
  rw [if_pos hc]
  exact t
theorem ok_f {c : Prop} [Decidable c] (hc : ¬ c) (t : Ok B Q) : Ok (if c then A else B) Q := by
  rw [if_neg hc]
  exact t
/-- the tooth that a feast wants, asked against NONE -/
theorem ok_ix {x : Nat} (hx : x < 2 ^ 31) (t : x = 0 → Ok A Q) (e : x ≠ 0 → Ok B Q) : Ok (if xI x = -1 then A else B) Q := by
  refine ok_ite (fun c => t ?_) (fun c => e (fun g => c (by rw [g]; rfl)))
  cases hg : x with
  | zero => rfl
  | succ t =>
    rw [hg, xI_s] at c
    exact absurd c (nI_nm1 (by omega))
end OK2
theorem bI_zb (b : Bool) : zb (bI b) := by
  cases b
  · exact zb0
  · exact zb1
theorem bI_1 : bI true = 1 := rfl
theorem bI_0 : bI false = 0 := rfl
theorem nI_s {n : Nat} (h : 0 < n) : nI n - 1 = nI (n - 1) := by
  have e2 := nI_pred (n - 1)
  rw [show n - 1 + 1 = n by omega] at e2
  exact e2
/-- as Fk, but references may change too, at the places S -/
def Fr (S : Nat → Nat → Prop) (h h' : Hp) : Prop := hN h' = hN h ∧ hS h' = hS h ∧ hB h' = hB h ∧ ∀ a k, ¬ S a k → hI h' a k = hI h a k ∧ hL h' a k = hL h a k ∧ hR h' a k = hR h a k
theorem Fr.rf {S : Nat → Nat → Prop} {h : Hp} : Fr S h h := ⟨rfl, rfl, rfl, fun _ _ _ => ⟨rfl, rfl, rfl⟩⟩
theorem Fr.trans {S : Nat → Nat → Prop} {h h1 h2 : Hp} (p : Fr S h h1) (q : Fr S h1 h2) : Fr S h h2 := ⟨q.1.trans p.1, q.2.1.trans p.2.1, q.2.2.1.trans p.2.2.1, fun a k ha => ⟨(q.2.2.2 a k ha).1.trans (p.2.2.2 a k ha).1, (q.2.2.2 a k ha).2.1.trans (p.2.2.2 a k ha).2.1, (q.2.2.2 a k ha).2.2.trans (p.2.2.2 a k ha).2.2⟩⟩
theorem Fr.mono {S S' : Nat → Nat → Prop} {h h1 : Hp} (p : Fr S h h1) (i : ∀ a k, S a k → S' a k) : Fr S' h h1 := ⟨p.1, p.2.1, p.2.2.1, fun a k ha => p.2.2.2 a k (fun q => ha (i a k q))⟩
theorem Fk.r {S : Nat → Nat → Prop} {h h' : Hp} (F : Fk S h h') : Fr S h h' := ⟨F.1, F.2.1, F.2.2.1, fun a k ha => ⟨(F.2.2.2.2 a k ha).1, (F.2.2.2.2 a k ha).2, by rw [F.2.2.2.1]⟩⟩
theorem Fm.r {S : Nat → Prop} {h h' : Hp} (F : Fm S h h') : Fr (fun a _ => S a) h h' := F.k.r
theorem fr_uI {S : Nat → Nat → Prop} {h : Hp} {a k : Nat} {v : Int32} (ha : S a k) : Fr S h (uI h a k v) := (fk_uI ha).r
theorem fr_uL {S : Nat → Nat → Prop} {h : Hp} {a k : Nat} {v : Int64} (ha : S a k) : Fr S h (uL h a k v) := ⟨rfl, rfl, rfl, fun b j hb => ⟨rfl, if_neg (fun e => hb (by rw [e.1, e.2]; exact ha)), rfl⟩⟩
theorem fr_uR {S : Nat → Nat → Prop} {h : Hp} {a k : Nat} {v : Option Nat} (ha : S a k) : Fr S h (uR h a k v) := ⟨rfl, rfl, rfl, fun b j hb => ⟨rfl, rfl, if_neg (fun e => hb (by rw [e.1, e.2]; exact ha))⟩⟩
theorem fk_uL {S : Nat → Nat → Prop} {h : Hp} {a k : Nat} {v : Int64} (ha : S a k) : Fk S h (uL h a k v) := ⟨rfl, rfl, rfl, rfl, fun b j hb => ⟨rfl, if_neg (fun e => hb (by rw [e.1, e.2]; exact ha))⟩⟩
theorem hL_uL {h : Hp} {a k b j : Nat} {v : Int64} : hL (uL h a k v) b j = if b = a ∧ j = k then v else hL h b j := rfl
theorem hL_uLs {h : Hp} {a k : Nat} {v : Int64} : hL (uL h a k v) a k = v := by rw [hL_uL, if_pos ⟨rfl, rfl⟩]
theorem hL_uLk {h : Hp} {a k j : Nat} {v : Int64} (q : j ≠ k) : hL (uL h a k v) a j = hL h a j := by rw [hL_uL, if_neg (fun e => q e.2)]
theorem hL_uLa {h : Hp} {a k b j : Nat} {v : Int64} (q : b ≠ a) : hL (uL h a k v) b j = hL h b j := by rw [hL_uL, if_neg (fun e => q e.1)]
theorem hR_uR {h : Hp} {a k b j : Nat} {v : Option Nat} : hR (uR h a k v) b j = if b = a ∧ j = k then v else hR h b j := rfl
theorem hR_uRs {h : Hp} {a k : Nat} {v : Option Nat} : hR (uR h a k v) a k = v := by rw [hR_uR, if_pos ⟨rfl, rfl⟩]
theorem hR_uRk {h : Hp} {a k j : Nat} {v : Option Nat} (q : j ≠ k) : hR (uR h a k v) a j = hR h a j := by rw [hR_uR, if_neg (fun e => q e.2)]
theorem hR_uRa {h : Hp} {a k b j : Nat} {v : Option Nat} (q : b ≠ a) : hR (uR h a k v) b j = hR h b j := by rw [hR_uR, if_neg (fun e => q e.1)]
section FR
variable {S : Nat → Nat → Prop} {h h' : Hp}
theorem LayO.fr {o : Nat} (R : LayO h o) (F : Fr S h h') (hS' : ∀ i k, i < 15 → ¬ S (o + i) k) : LayO h' o := by
  obtain ⟨l1, ⟨m1, m2, m3, m4, m5, m6, m7, m8, m9⟩, l3, l4, l5, l6, l7, l8⟩ := R
  obtain ⟨f1, f2, f3, f5⟩ := F
  have i0 : ∀ k, hR h' o k = hR h o k := fun k => (f5 o k (hS' 0 k (by decide))).2.2
  have i1 : ∀ k, hR h' (o + 1) k = hR h (o + 1) k := fun k => (f5 _ k (hS' 1 k (by decide))).2.2
  unfold LayO
  rw [f2]
  simp only [i0, i1]
  exact ⟨l1, ⟨m1, m2, m3, m4, m5, m6, m7, m8, m9⟩, l3, l4, l5, l6, l7, l8⟩
theorem RepO.fr {o : Nat} {D : DD} (R : RepO h o D) (F : Fr S h h') (hS' : ∀ i k, i < 15 → ¬ S (o + i) k) (hW : dW D ≤ 5) : RepO h' o D := by
  have L := R.1.fr F hS'
  obtain ⟨-, r1, r2, r3, r4, r5, r6⟩ := R
  obtain ⟨f1, f2, f3, f5⟩ := F
  have ii : ∀ i, i < 15 → hI h' (o + i) = hI h (o + i) := fun i hi => funext fun k => (f5 _ k (hS' i k hi)).1
  have i0 : hI h' o = hI h o := ii 0 (by decide)
  have iL : ∀ i, i < 15 → hL h' (o + i) = hL h (o + i) := fun i hi => funext fun k => (f5 _ k (hS' i k hi)).2.1
  refine ⟨L, ?_, fun w hw => ?_, fun f w hf hw => ?_, fun k hk => ?_, fun f hf => ?_, fun k hk => ?_⟩
  · rw [i0]
    exact r1
  · have e : o + 10 + w = o + (10 + w) := by omega
    rw [e, ii (10 + w) (by omega), iL (10 + w) (by omega), ← e]
    exact r2 w hw
  · rw [ii 2 (by decide)]
    exact r3 f w hf hw
  · rw [ii 3 (by decide), ii 4 (by decide), ii 5 (by decide)]
    exact r4 k hk
  · rw [ii 6 (by decide), ii 7 (by decide)]
    exact r5 f hf
  · rw [ii 8 (by decide), ii 9 (by decide)]
    exact r6 k hk
theorem RepV.fr {r : Nat} {V : Nat → Nat} (v : RepV h r V) (F : Fr S h h') (hS' : ∀ k, ¬ S r k) : RepV h' r V := ⟨by rw [F.2.1]; exact v.1, fun k hk => by rw [(F.2.2.2 r k (hS' k)).1]; exact v.2 k hk⟩
theorem RepX.fr {r : Nat} {V : Nat → Nat} (v : RepX h r V) (F : Fr S h h') (hS' : ∀ k, ¬ S r k) : RepX h' r V := ⟨by rw [F.2.1]; exact v.1, fun k hk => by rw [(F.2.2.2 r k (hS' k)).1]; exact v.2 k hk⟩
theorem RepP.fr {p c j : Nat} {K Im : Nat → Nat → Nat} (P : RepP h p K c Im j) (F : Fr S h h') (hS' : ∀ i k, i < 3 → ¬ S (p + i) k) : RepP h' p K c Im j := by
  obtain ⟨p1, p2, p3, p4, p5, p6, p7, p8, p9, ⟨pl, hpl, p10, p11⟩, p12⟩ := P
  obtain ⟨f1, f2, f3, f5⟩ := F
  have i0 : ∀ k, hI h' p k = hI h p k := fun k => (f5 p k (hS' 0 k (by decide))).1
  have r0 : ∀ k, hR h' p k = hR h p k := fun k => (f5 p k (hS' 0 k (by decide))).2.2
  have i1 : ∀ k, hI h' (p + 1) k = hI h (p + 1) k := fun k => (f5 _ k (hS' 1 k (by decide))).1
  have i2 : ∀ k, hI h' (p + 2) k = hI h (p + 2) k := fun k => (f5 _ k (hS' 2 k (by decide))).1
  refine ⟨by rw [f2]; exact p1, by rw [r0]; exact p2, by rw [r0]; exact p3, by rw [f2]; exact p4, by rw [f2]; exact p5, p6, p7, by rw [i0]; exact p8, by rw [i0]; exact p9, ⟨pl, hpl, by rw [i0]; exact p10, fun i hi k hk => by rw [i1]; exact p11 i hi k hk⟩, fun i hi k hk => by rw [i2]; exact p12 i hi k hk⟩
theorem RepQ.fr {q : Nat} {D : DD} (R : RepQ h q D) (F : Fr S h h') (hS' : ∀ i k, i < 18 → ¬ S (q + i) k) : RepQ h' q D := by
  obtain ⟨⟨l1, l2, l3, l4, l5, l6, l7, l8, l9, l10⟩, r1, r2, r3, r4, r5, r6⟩ := R
  obtain ⟨f1, f2, f3, f5⟩ := F
  have ii : ∀ i, i < 18 → hI h' (q + i) = hI h (q + i) := fun i hi => funext fun k => (f5 _ k (hS' i k hi)).1
  have i0 : hI h' q = hI h q := ii 0 (by decide)
  have iL : ∀ i, i < 18 → hL h' (q + i) = hL h (q + i) := fun i hi => funext fun k => (f5 _ k (hS' i k hi)).2.1
  have iR : ∀ k, hR h' q k = hR h q k := fun k => (f5 q k (hS' 0 k (by decide))).2.2
  refine ⟨?_, ?_, fun w hw => ?_, fun f w hf hw => ?_, fun f hf => ?_, fun k hk => ?_, fun k hk => ?_⟩
  · unfold LayQ
    rw [f2]
    exact ⟨l1, fun i hi => by rw [iR]; exact l2 i hi, l3, l4, l5, l6, l7, l8, l9, l10⟩
  · rw [i0]
    exact r1
  · rw [ii 1 (by decide), ii 2 (by decide), ii 3 (by decide), ii 4 (by decide), iL 5 (by decide)]
    exact r2 w hw
  · rw [ii 7 (by decide), ii 6 (by decide)]
    exact r3 f w hf hw
  · rw [ii 8 (by decide), ii 9 (by decide)]
    exact r4 f hf
  · rw [ii 10 (by decide), ii 11 (by decide), ii 12 (by decide)]
    exact r5 k hk
  · rw [ii 13 (by decide), ii 14 (by decide)]
    exact r6 k hk
/-- the places of the reference where a row's place is held -/
def mRf (k : Nat) : Prop := k = 5 ∨ k = 15 ∨ k = 16 ∨ k = 17 ∨ k = 18 ∨ k = 22 ∨ k = 24 ∨ k = 25 ∨ k = 26 ∨ k = 28 ∨ k = 29 ∨ k = 32 ∨ k = 33
theorem LayM.fr {m : Nat} (hm : LayM h m) (F : Fr S h h') (hS' : ∀ k, mRf k → ¬ S m k) : LayM h' m := by
  obtain ⟨l1, ⟨m1, m2, m3, m4, m5, m6, m7, m8, m9, m10, m11, m12, m13⟩, l3⟩ := hm
  obtain ⟨f1, f2, f3, f5⟩ := F
  have i0 : ∀ k, mRf k → hR h' m k = hR h m k := fun k hk => (f5 m k (hS' k hk)).2.2
  unfold LayM
  rw [f2, i0 5 (by unfold mRf; omega), i0 15 (by unfold mRf; omega), i0 16 (by unfold mRf; omega), i0 17 (by unfold mRf; omega), i0 18 (by unfold mRf; omega), i0 22 (by unfold mRf; omega), i0 24 (by unfold mRf; omega), i0 25 (by unfold mRf; omega), i0 26 (by unfold mRf; omega), i0 28 (by unfold mRf; omega), i0 29 (by unfold mRf; omega), i0 32 (by unfold mRf; omega), i0 33 (by unfold mRf; omega)]
  exact ⟨l1, ⟨m1, m2, m3, m4, m5, m6, m7, m8, m9, m10, m11, m12, m13⟩, l3⟩
end FR
