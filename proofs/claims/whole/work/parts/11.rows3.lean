def FU : Nat := 10000
/-- a loop: its step, given what to do at its head again -/
def lp {σ ρ : Type} (step : (σ → Hp → Option ρ) → σ → Hp → Option ρ) : Nat → σ → Hp → Option ρ
  | 0 => fun _ _ => none
  | n + 1 => step (lp step n)
theorem int_ne {x c : Int32} {z : Int} (h : ¬ x = c) (hc : c.toInt = z) : x.toInt ≠ z := fun e => h (Int32.toInt_inj.mp (e.trans hc.symm))
section TE
variable {G : GG} {M : MI} {d : Nat} {α : Type} {cv : α → Option Value} {pc : Nat} {ls : List (Nat × Value)} {st : List Value} {h : Hp} {F F1 F2 : Option (α × Hp)} {KI : Int32 → Option (α × Hp)} {KL : Int64 → Option (α × Hp)} {KR : Nat → Option (α × Hp)} {KH : Hp → Option (α × Hp)}
theorem T.loop {σ : Type} {step : (σ → Hp → Option (α × Hp)) → σ → Hp → Option (α × Hp)} {lsOf : σ → List (Nat × Value)} (hs : ∀ k, (∀ s h, T G M d cv pc (lsOf s) [] h (k s h)) → ∀ s h, T G M d cv pc (lsOf s) [] h (step k s h)) (n : Nat) : ∀ s h, T G M d cv pc (lsOf s) [] h (lp step n s h) := by
  induction n with
  | zero => intro s h; exact q_none
  | succ n ih => intro s h; exact hs _ ih s h
theorem r_nmI {v : Int32} (kk : ∀ y, T G M d cv pc ls (.int y :: st) h (KI y)) : T G M d cv pc ls (.int v :: st) h (lt v KI) := kk v
theorem r_nmL {v : Int64} (kk : ∀ y, T G M d cv pc ls (.long y :: st) h (KL y)) : T G M d cv pc ls (.long v :: st) h (lt v KL) := kk v
theorem T.ite {P : Prop} [Decidable P] (k1 : P → T G M d cv pc ls st h F1) (k2 : ¬ P → T G M d cv pc ls st h F2) : T G M d cv pc ls st h (if P then F1 else F2) := by
  by_cases hP : P
  · rw [if_pos hP]; exact k1 hP
  · rw [if_neg hP]; exact k2 hP
theorem r_tin {x c : Int32} {dflt lo hi off : Int} {offs : Array Int} {len : Nat} (tgt : Nat) (hd : decode (mB M) pc = .ok (.tableswitch dflt lo hi offs, len)) (hx : x = c) (h1 : ¬ c.toInt < lo) (h2 : ¬ hi < c.toInt) (ho : offs[(c.toInt - lo).toNat]? = some off) (ht : (pc : Int) + off = (tgt : Int)) (k : T G M d cv tgt ls st h F) : T G M d cv pc ls (.int x :: st) h F := by
  subst hx
  exact T.lift (fun C _ kk => lv_tableIn C.1 C.2.1 hd h1 h2 ho ht kk) k
theorem r_tout {x : Int32} {dflt lo hi : Int} {offs : Array Int} {len : Nat} (tgt : Nat) (hd : decode (mB M) pc = .ok (.tableswitch dflt lo hi offs, len)) (hx : x.toInt < lo ∨ hi < x.toInt) (ht : (pc : Int) + dflt = (tgt : Int)) (k : T G M d cv tgt ls st h F) : T G M d cv pc ls (.int x :: st) h F := T.lift (fun C _ kk => lv_tableOut C.1 C.2.1 hd hx ht kk) k
theorem r_look {x : Int32} {dflt off : Int} {ps : Array (Int × Int)} {len : Nat} (tgt : Nat) (hd : decode (mB M) pc = .ok (.lookupswitch dflt ps, len)) (hp : (ps.toList.zip (ps.toList.drop 1)).all (fun (a, next) => a.1 < next.1) = true) (ho : Op.lookupswitch.offset ps.toList dflt x.toInt = off) (ht : (pc : Int) + off = (tgt : Int)) (k : T G M d cv tgt ls st h F) : T G M d cv pc ls (.int x :: st) h F := T.lift (fun C _ kk => lv_lookup C.1 C.2.1 hd hp ho ht kk) k
theorem okI {l : List Value} {t : Option FieldType} (h : t = some .int) : okv t l := by
  intro e; rw [h] at e; cases e
theorem okL {l : List Value} {t : Option FieldType} (h : t = some .long) : okv t l := by
  intro e; rw [h] at e; cases e
theorem okU {l : List Value} {t : Option FieldType} (h : t = none) : okv t l := by
  intro e; rw [h] at e; cases e
theorem okA {l : List Value} {t : Option FieldType} {n : String} (h : t = some (.object n)) : okv t l := by
  intro e; rw [h] at e; cases e
theorem r_reti {v : Int32} {M : MI} (hd : decode (mB M) pc = .ok (mE M, mN M)) (hr : mR M = some .int) : T G M d cI pc ls (.int v :: []) h (some (v, h)) := q_ret hd rfl (okI hr)
theorem r_retz {v : Int32} {M : MI} (hd : decode (mB M) pc = .ok (mE M, mN M)) (hr : mR M = some .boolean) : T G M d cI pc ls (.int v :: []) h (gd (zb v) (some (v, h))) := T.gd fun hz => q_ret hd rfl (fun _ => hz.elim (fun e => Or.inl (by rw [e]; rfl)) (fun e => Or.inr (by rw [e]; rfl)))
theorem r_retl {v : Int64} {M : MI} (hd : decode (mB M) pc = .ok (mE M, mN M)) (hr : mR M = some .long) : T G M d cL pc ls (.long v :: []) h (some (v, h)) := q_ret hd rfl (okL hr)
theorem r_reta {v : Nat} {n : String} {M : MI} (hd : decode (mB M) pc = .ok (mE M, mN M)) (hr : mR M = some (.object n)) : T G M d cA pc ls (.ref v :: []) h (some (v, h)) := q_ret hd rfl (okA hr)
theorem r_retu {M : MI} (hd : decode (mB M) pc = .ok (mE M, mN M)) (hr : mR M = none) : T G M d cU pc ls [] h (some ((), h)) := q_ret hd rfl (okU hr)
theorem r_lds {i : Nat} (k : Nat) {q : String × Nat × String} (hd : decode (mB M) pc = .ok (.ldc i, 2)) (hk : strs[k]? = some q) (ho : q.1 = (mY M).cls) (hi : q.2.1 = i) (kk : T G M d cv (pc + 2) ls (.ref (gT G k) :: st) h F) : T G M d cv pc ls st h F := by
  subst hi
  refine T.lift (fun C _ kk => va_ldcS (tx := q.2.2) (q := gT G k) C.1 C.2.1 C.2.2.2.1 ?_ hd kk) kk
  rw [← ho]
  exact C.2.2.2.2.2.1.2.2.2.2.2.1 k q hk
theorem r_ldsw {i : Nat} (k : Nat) {q : String × Nat × String} (hd : decode (mB M) pc = .ok (.ldc_w i, 3)) (hk : strs[k]? = some q) (ho : q.1 = (mY M).cls) (hi : q.2.1 = i) (kk : T G M d cv (pc + 3) ls (.ref (gT G k) :: st) h F) : T G M d cv pc ls st h F := by
  subst hi
  refine T.lift (fun {p l e R s m args below meth c H locs cells slots Q ls0} C _ kk => ?_) kk
  have hz := C.2.2.2.2.2.1.2.2.2.2.2.1 k q hk
  rw [ho] at hz
  intro T0 hT X
  obtain ⟨t, a1, b1⟩ := kk T0 hT X
  exact ⟨t, X.ldcStringW C.1 C.2.2.2.1 (text := q.2.2) (a := gT G k) hz.1 hz.2 (g := F0 m pc ls0 st) rfl (by rw [C.2.1]; exact hd) t a1, b1⟩
/-- the script -/
theorem r_sld {i : Int32} (hd : decode (mB M) pc = .ok (.iaload, 1)) (kk : ∀ x, T G M d cv (pc + 1) ls (.int x :: st) h (KI x)) : T G M d cv pc ls (.int i :: .ref (gX G).1 :: st) h (gd (vp_in i (gX G).2.1) (lt ((gX G).2.2 i.toNatClampNeg) KI)) :=
  T.rd (fun hP C hR kk => by
    obtain ⟨hX, hb⟩ := C.2.2.2.2.2.1.2.2.2.2.2.2.2.1
    obtain ⟨scr, h1, h2, h3, h4, h5⟩ := hX.kept (hR.2.2.1 _ hb).1
    exact W.iald C.1 C.2.1 h1 h2 h3 (by rw [h4]; exact hP) (h5 _ (vpin_lt hP)) rfl rfl hd kk) (kk _)
theorem r_slen (hd : decode (mB M) pc = .ok (.arraylength, 1)) (kk : T G M d cv (pc + 1) ls (.int (Int32.ofNat (gX G).2.1) :: st) h F) : T G M d cv pc ls (.ref (gX G).1 :: st) h F :=
  T.un trivial (T.rd (P := True) (fun _ C hR kk => by
    obtain ⟨hX, hb⟩ := C.2.2.2.2.2.1.2.2.2.2.2.2.2.1
    obtain ⟨scr, h1, h2, h3, h4, h5⟩ := hX.kept (hR.2.2.1 _ hb).1
    exact W.alen C.1 C.2.1 h1 h2 (by rw [h4]) rfl rfl hd kk) kk)
end TE
