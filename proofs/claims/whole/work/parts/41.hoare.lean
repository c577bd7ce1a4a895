/-! what a printed function answers, as a judgement: it ends, with an answer and a heap that keep Q -/
def Ok {α : Type} (F : Option (α × Hp)) (Q : α → Hp → Prop) : Prop := ∃ r h', F = some (r, h') ∧ Q r h'
theorem ok_ret {α : Type} {r : α} {h : Hp} {Q : α → Hp → Prop} (q : Q r h) : Ok (some (r, h)) Q := ⟨r, h, rfl, q⟩
theorem ok_gd {α : Type} {p : Prop} {F : Option (α × Hp)} {Q : α → Hp → Prop} (hp : p) (k : Ok F Q) : Ok (gd p F) Q := by
  rw [gd_pos hp]
  exact k
theorem ok_lt {α β : Type} {x : β} {f : β → Option (α × Hp)} {Q : α → Hp → Prop} (k : Ok (f x) Q) : Ok (lt x f) Q := k
theorem ok_bR {α : Type} {o : Option Nat} {a : Nat} {f : Nat → Option (α × Hp)} {Q : α → Hp → Prop} (e : o = some a) (k : Ok (f a) Q) : Ok (bR o f) Q := by
  rw [e]
  exact k
theorem ok_bd {α β : Type} {x : Option (β × Hp)} {f : β → Hp → Option (α × Hp)} {Q : α → Hp → Prop} (k : Ok x (fun r h => Ok (f r h) Q)) : Ok (bd x f) Q := by
  obtain ⟨r, h, e, q⟩ := k
  rw [e]
  exact q
theorem ok_bde {α β : Type} {x : Option (β × Hp)} {f : β → Hp → Option (α × Hp)} {Q : α → Hp → Prop} {r : β} {h : Hp} (e : x = some (r, h)) (k : Ok (f r h) Q) : Ok (bd x f) Q := by
  rw [e]
  exact k
theorem ok_mono {α : Type} {F : Option (α × Hp)} {P Q : α → Hp → Prop} (k : Ok F P) (i : ∀ r h, P r h → Q r h) : Ok F Q := by
  obtain ⟨r, h, e, q⟩ := k
  exact ⟨r, h, e, i r h q⟩
theorem ok_ite {α : Type} {c : Prop} [Decidable c] {A B : Option (α × Hp)} {Q : α → Hp → Prop} (t : c → Ok A Q) (e : ¬ c → Ok B Q) : Ok (if c then A else B) Q := by
  by_cases q : c
  · rw [if_pos q]
    exact t q
  · rw [if_neg q]
    exact e q
theorem ok_lp {σ α : Type} {step : (σ → Hp → Option (α × Hp)) → σ → Hp → Option (α × Hp)} {Q : α → Hp → Prop} (I : σ → Hp → Prop) (μ : σ → Hp → Nat) (hs : ∀ k s h, I s h → (∀ s' h', I s' h' → μ s' h' < μ s h → Ok (k s' h') Q) → Ok (step k s h) Q) (n : Nat) : ∀ s h, I s h → μ s h < n → Ok (lp step n s h) Q := by
  induction n with
  | zero => intro s h _ q; exact absurd q (Nat.not_lt_zero _)
  | succ n ih => intro s h hi q; exact hs _ s h hi (fun s' h' hi' q' => ih s' h' hi' (by omega))
/-- nothing is new, no reference changed, and numbers only in the cells of S -/
def Fm (S : Nat → Prop) (h h' : Hp) : Prop := hN h' = hN h ∧ hS h' = hS h ∧ hB h' = hB h ∧ hR h' = hR h ∧ ∀ a, ¬ S a → hI h' a = hI h a ∧ hL h' a = hL h a
theorem Fm.rf {S : Nat → Prop} {h : Hp} : Fm S h h := ⟨rfl, rfl, rfl, rfl, fun _ _ => ⟨rfl, rfl⟩⟩
theorem Fm.trans {S : Nat → Prop} {h h1 h2 : Hp} (p : Fm S h h1) (q : Fm S h1 h2) : Fm S h h2 := ⟨q.1.trans p.1, q.2.1.trans p.2.1, q.2.2.1.trans p.2.2.1, q.2.2.2.1.trans p.2.2.2.1, fun a ha => ⟨(q.2.2.2.2 a ha).1.trans (p.2.2.2.2 a ha).1, (q.2.2.2.2 a ha).2.trans (p.2.2.2.2 a ha).2⟩⟩
theorem Fm.mono {S S' : Nat → Prop} {h h1 : Hp} (p : Fm S h h1) (i : ∀ a, S a → S' a) : Fm S' h h1 := ⟨p.1, p.2.1, p.2.2.1, p.2.2.2.1, fun a ha => p.2.2.2.2 a (fun q => ha (i a q))⟩
theorem up2_r {α : Type} {f : Nat → Nat → α} {a k : Nat} {v : α} {b : Nat} (hb : b ≠ a) : up2 f a k v b = f b := by
  funext j
  unfold up2
  rw [if_neg (fun q => hb q.1)]
theorem fm_uI {S : Nat → Prop} {h : Hp} {a k : Nat} {v : Int32} (ha : S a) : Fm S h (uI h a k v) := ⟨rfl, rfl, rfl, rfl, fun b hb => ⟨up2_r (fun e => hb (e ▸ ha)), rfl⟩⟩
theorem fm_uL {S : Nat → Prop} {h : Hp} {a k : Nat} {v : Int64} (ha : S a) : Fm S h (uL h a k v) := ⟨rfl, rfl, rfl, rfl, fun b hb => ⟨rfl, up2_r (fun e => hb (e ▸ ha))⟩⟩
theorem up2_up2 {α : Type} {f : Nat → Nat → α} {a k : Nat} {v v' : α} : up2 (up2 f a k v) a k v' = up2 f a k v' := by
  funext b j
  unfold up2
  by_cases q : b = a ∧ j = k
  · rw [if_pos q, if_pos q]
  · rw [if_neg q, if_neg q, if_neg q]
theorem uI_uI {h : Hp} {a k : Nat} {v v' : Int32} : uI (uI h a k v) a k v' = uI h a k v' := by
  show (hN h, hS h, hB h, up2 (up2 (hI h) a k v) a k v', hL h, hR h) = _
  rw [up2_up2]
  rfl
theorem hI_uI {h : Hp} {a k b j : Nat} {v : Int32} : hI (uI h a k v) b j = if b = a ∧ j = k then v else hI h b j := rfl
theorem hI_uIs {h : Hp} {a k : Nat} {v : Int32} : hI (uI h a k v) a k = v := by rw [hI_uI, if_pos ⟨rfl, rfl⟩]
theorem hI_uIk {h : Hp} {a k j : Nat} {v : Int32} (q : j ≠ k) : hI (uI h a k v) a j = hI h a j := by rw [hI_uI, if_neg (fun e => q e.2)]
theorem hI_uIa {h : Hp} {a k b j : Nat} {v : Int32} (q : b ≠ a) : hI (uI h a k v) b j = hI h b j := by rw [hI_uI, if_neg (fun e => q e.1)]
