/-! the abstract heap: size, shapes, what may still be made, ints, longs, references -/
abbrev Sh : Type := Option (Nat ⊕ (Nat × Nat))
abbrev Hp : Type := Nat × (Nat → Sh) × (Nat × Nat) × (Nat → Nat → Int32) × (Nat → Nat → Int64) × (Nat → Nat → Option Nat)
def hN (h : Hp) : Nat := h.1
def hS (h : Hp) : Nat → Sh := h.2.1
def hB (h : Hp) : Nat × Nat := h.2.2.1
def hI (h : Hp) : Nat → Nat → Int32 := h.2.2.2.1
def hL (h : Hp) : Nat → Nat → Int64 := h.2.2.2.2.1
def hR (h : Hp) : Nat → Nat → Option Nat := h.2.2.2.2.2
def up2 {α : Type} (f : Nat → Nat → α) (a k : Nat) (v : α) : Nat → Nat → α := fun b j => if b = a ∧ j = k then v else f b j
def uI (h : Hp) (a k : Nat) (v : Int32) : Hp := (hN h, hS h, hB h, up2 (hI h) a k v, hL h, hR h)
def uL (h : Hp) (a k : Nat) (v : Int64) : Hp := (hN h, hS h, hB h, hI h, up2 (hL h) a k v, hR h)
def uR (h : Hp) (a k : Nat) (v : Option Nat) : Hp := (hN h, hS h, hB h, hI h, hL h, up2 (hR h) a k v)
/-- a new cell of a shape with n slots, all of them at their defaults -/
def uN (h : Hp) (s : Nat ⊕ (Nat × Nat)) (n : Nat) : Hp := (hN h + 1, (fun a => if a = hN h then some s else hS h a), ((hB h).1 - 1, (hB h).2 - n), (fun a k => if a = hN h then 0 else hI h a k), (fun a k => if a = hN h then 0 else hL h a k), (fun a k => if a = hN h then none else hR h a k))
/-- the results of a computation -/
noncomputable def gd {α : Type} (p : Prop) (F : Option α) : Option α := @ite _ p (Classical.propDecidable p) F none
def bd {α β : Type} (x : Option (α × Hp)) (f : α → Hp → Option β) : Option β := match x with
  | none => none
  | some (r, h) => f r h
def bR {β : Type} (x : Option Nat) (f : Nat → Option β) : Option β := match x with
  | none => none
  | some r => f r
theorem gd_pos {α : Type} {p : Prop} {F : Option α} (h : p) : gd p F = F := if_pos h
theorem gd_some {α : Type} {p : Prop} {F : Option α} {x : α} (h : gd p F = some x) : p ∧ F = some x := by
  unfold gd at h
  by_cases hp : p
  · rw [if_pos hp] at h
    exact ⟨hp, h⟩
  · rw [if_neg hp] at h
    cases h
theorem bd_some {α β : Type} {x : Option (α × Hp)} {f : α → Hp → Option β} {y : β} (h : bd x f = some y) : ∃ r h1, x = some (r, h1) ∧ f r h1 = some y := by
  cases x with
  | none => cases h
  | some q => exact ⟨q.1, q.2, rfl, h⟩
theorem bR_some {β : Type} {x : Option Nat} {f : Nat → Option β} {y : β} (h : bR x f = some y) : ∃ r, x = some r ∧ f r = some y := by
  cases x with
  | none => cases h
  | some q => exact ⟨q, rfl, h⟩
/-! what the abstract heap says of the machine's -/
abbrev GG : Type := (Nat → ClassId) × (Nat → Nat → Nat) × (Nat → ClassId) × Heap × (Nat → Nat) × (Nat × Nat × (Nat → Int32)) × (Nat → Nat)
def gC (G : GG) : Nat → ClassId := G.1
def gI (G : GG) : Nat → Nat → Nat := G.2.1
def gA (G : GG) : Nat → ClassId := G.2.2.1
def gH (G : GG) : Heap := G.2.2.2.1
def gT (G : GG) : Nat → Nat := G.2.2.2.2.1
/-- the script: where, how long, what -/
def gX (G : GG) : Nat × Nat × (Nat → Int32) := G.2.2.2.2.2.1
/-- the String constants' byte rows -/
def gV (G : GG) : Nat → Nat := G.2.2.2.2.2.2
def gF (G : GG) : Nat → Prop := fun q => (gH G).size ≤ q
def fV (t : Nat) (h : Hp) (a k : Nat) : Value := match t with
  | 0 => .int (hI h a k)
  | 1 => .long (hL h a k)
  | _ => va_rf (hR h a k)
def aV (t : Nat) (h : Hp) (a k : Nat) : Value := match t with
  | 0 => .int (hI h a k)
  | 1 => .long (hL h a k)
  | 2 => .int (hI h a k)
  | 3 => .int (hI h a k)
  | _ => va_rf (hR h a k)
def cellOK (G : GG) (h : Hp) (H : Heap) (a : Nat) : Prop := match hS h a with
  | none => True
  | some (.inl c) => ∃ q : vw_C, classes[c]? = some q ∧ t_OB a (gC G c) q.2.2 (gI G c) H (fun k => fV (kd c k) h a k)
  | some (.inr (t, n)) => H[a]? = some (arrV (gA G t) n (fun j => aV t h a j))
def Rf (G : GG) (h : Hp) (H : Heap) : Prop := hN h = H.size ∧ (gH G).size ≤ H.size ∧ (∀ a, a < (gH G).size → H[a]? = (gH G)[a]? ∧ hS h a = none) ∧ (∀ a, cellOK G h H a) ∧ ∀ (a : Nat) (cell : Cell), (gH G).size ≤ a → H[a]? = some cell → cell.vm.isStatics = false
def isNest : Cond → Bool
  | .fieldLinkNest .. => true
  | .methodLinkNest .. => true
  | _ => false
def Lk (w : Cond) : Prop := w ∈ lw_tbl ∧ goodWord w = true
def LkN (w : Cond) : Prop := w ∈ lw_tbl ∧ isNest w = true
/-- the String constants: where they are, what they hold -/
def KS (G : GG) (U : State) : Prop := (∀ (k : Nat) (q : String × Nat × String), strs[k]? = some q → vk_R q.1 q.2.1 q.2.2 (gT G k) U) ∧ vk_S 24 slen sbyt (gT G) (gV G) (gF G) U (gH G) ∧ (va_X (gX G).1 (gX G).2.1 (gX G).2.2 U (gH G) ∧ (gX G).1 < (gH G).size) ∧ va_Z "java/lang/String" "COMPACT_STRINGS" "Z" (.int 1) (gF G) U (gH G) ∧ va_Zq "jdk/internal/util/Preconditions" "SIOOBE_FORMATTER" "Ljava/util/function/BiFunction;" (gF G) U (gH G) ∧ ∃ (U0 : State) (args : Array Value), U0.WarmedH U.vm ∧ U0.heap = gH G ∧ (Jvm.Cond.and given_1 narrow_1).before args U0 = true ∧ ∀ w ∈ lw_tbl, w.before args U0 = true
theorem KS.warm {G : GG} {s U : State} (hW : s.WarmedH U.vm) (h : KS G s) : KS G U := by
  obtain ⟨h1, h2, h3, h4, h5, U0, args, h6, h7⟩ := h
  exact ⟨fun k q hq => (h1 k q hq).warm hW, h2.moved hW.alike, ⟨h3.1.moved hW.alike, h3.2⟩, h4.moved hW.alike, h5.moved hW.alike, U0, args, State.WarmedH.trans (t := s) h6 hW, h7⟩
def KG (G : GG) (U : State) : Prop := (∀ w ∈ lw_tbl, goodWord w = true → ∀ a : Array Value, w.before a U = true) ∧ (∀ w ∈ lw_tbl, isNest w = true → ∀ a : Array Value, w.before a U = true) ∧
  (∀ (c : Nat) (q : vw_C), classes[c]? = some q → u_Kn U q.1 q.2.1 q.2.2 (gC G c) (gI G c)) ∧ (∀ (t : Nat) (ty : FieldType), aTy[t]? = some ty → ArrOfT U (gA G t) ty ∧ va_RA U (gA G t) ty) ∧ 0 < (gH G).size ∧ KS G U
theorem nest_tab {w : Cond} (h : isNest w = true) : w.onTables = true := by
  cases w <;> first | rfl | (cases h; done)
theorem nest_warm {w : Cond} (h : isNest w = true) {s U : State} (hW : s.WarmedH U.vm) (hz : va_Nw w s) : va_Nw w U := by
  cases w <;> first | exact va_Nw.warmF hW hz | exact va_Nw.warmM hW hz | (cases h; done)
theorem KG.warm {G : GG} {s U : State} (hW : s.WarmedH U.vm) (h : KG G s) : KG G U := by
  obtain ⟨h1, h2, h3, h4, h5, h6⟩ := h
  refine ⟨fun w hw hg a => ?_, fun w hw hn a => ?_, fun c q hq => u_Kn_moved hW.alike (h3 c q hq), fun t ty ht => ⟨arrOfT_moved hW.alike (h4 t ty ht).1, (h4 t ty ht).2.moved hW.alike⟩, h5, h6.warm hW⟩
  · exact word_at hW (good_of_word hg) (h1 w hw hg #[])
  · exact va_Nw.use (nest_tab hn) (nest_warm hn hW (h2 w hw hn #[]))
theorem KG.same {G : GG} {s U : State} (hv : s.vm = U.vm) (h : KG G s) : KG G U := by
  have hW : s.WarmedH U.vm := by rw [← hv]; exact State.WarmedH.refl s
  exact h.warm hW
