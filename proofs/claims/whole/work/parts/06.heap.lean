theorem Rf.old {G : GG} {h : Hp} {H : Heap} (hR : Rf G h H) {a : Nat} {x : Nat ⊕ (Nat × Nat)} (hs : hS h a = some x) : gF G a := by
  rcases Nat.lt_or_ge a (gH G).size with q | q
  · have := (hR.2.2.1 a q).2
    rw [hs] at this
    cases this
  · exact q
theorem Rf.obj {G : GG} {h : Hp} {H : Heap} (hR : Rf G h H) {a c : Nat} {q : vw_C} (hs : hS h a = some (.inl c)) (hc : classes[c]? = some q) : t_OB a (gC G c) q.2.2 (gI G c) H (fun k => fV (kd c k) h a k) := by
  have h1 := hR.2.2.2.1 a
  unfold cellOK at h1
  rw [hs] at h1
  obtain ⟨q', e, h2⟩ := h1
  cases hc.symm.trans e
  exact h2
theorem Rf.arr {G : GG} {h : Hp} {H : Heap} (hR : Rf G h H) {a t n : Nat} (hs : hS h a = some (.inr (t, n))) : H[a]? = some (arrV (gA G t) n (fun j => aV t h a j)) := by
  have h1 := hR.2.2.2.1 a
  unfold cellOK at h1
  rw [hs] at h1
  exact h1
/-- what lies at b is the same in two abstract heaps -/
def sm (h h2 : Hp) (b : Nat) : Prop := (∀ k, hI h2 b k = hI h b k) ∧ (∀ k, hL h2 b k = hL h b k) ∧ ∀ k, hR h2 b k = hR h b k
theorem sm.fV {h h2 : Hp} {b : Nat} (hs : sm h h2 b) (t k : Nat) : fV t h2 b k = fV t h b k := by
  obtain ⟨h1, h2, h3⟩ := hs
  unfold _root_.Jvm.Pilot.CBrassYearLaw_law_r2248_b69b05.fV
  split
  · rw [h1]
  · rw [h2]
  · rw [h3]
theorem sm.aV {h h2 : Hp} {b : Nat} (hs : sm h h2 b) (t k : Nat) : aV t h2 b k = aV t h b k := by
  obtain ⟨h1, h2, h3⟩ := hs
  unfold _root_.Jvm.Pilot.CBrassYearLaw_law_r2248_b69b05.aV
  split
  · rw [h1]
  · rw [h2]
  · rw [h1]
  · rw [h1]
  · rw [h3]
theorem cellOK.same {G : GG} {h h2 : Hp} {H H1 : Heap} {b : Nat} (hc : cellOK G h H b) (h1 : hS h2 b = hS h b) (hs : sm h h2 b) (hH : H1[b]? = H[b]?) : cellOK G h2 H1 b := by
  unfold cellOK at hc ⊢
  rw [h1]
  split
  · trivial
  · rename_i c e
    rw [e] at hc
    obtain ⟨q, hq, ho⟩ := hc
    exact ⟨q, hq, (ho.kept hH).to (fun k _ => (hs.fV _ k).symm)⟩
  · rename_i t n e
    rw [e] at hc
    rw [hH, show (fun j => aV t h2 b j) = (fun j => aV t h b j) from funext fun j => hs.aV t j]
    exact hc
theorem cellOK.plain {G : GG} {h : Hp} {H : Heap} {a : Nat} {x : Nat ⊕ (Nat × Nat)} (hc : cellOK G h H a) (hs : hS h a = some x) (cell : Cell) (hcell : H[a]? = some cell) : cell.vm.isStatics = false := by
  unfold cellOK at hc
  rw [hs] at hc
  cases x with
  | inl c =>
    obtain ⟨q, -, cl, h1, h2, h3, h4⟩ := hc
    cases hcell.symm.trans h1
    rw [h3]
    rfl
  | inr p =>
    have h1 : H[a]? = some (arrV (gA G p.1) p.2 (fun j => aV p.1 h a j)) := hc
    cases hcell.symm.trans h1
    rfl
theorem Rf.upd {G : GG} {h h2 : Hp} {H H1 : Heap} (hR : Rf G h H) {a : Nat} {x : Nat ⊕ (Nat × Nat)} (hs0 : hS h a = some x) (e1 : hN h2 = hN h) (e2 : hS h2 = hS h) (z : H1.size = H.size) (oq : ∀ q : Nat, q ≠ a → H1[q]? = H[q]?) (hs : ∀ b, b ≠ a → sm h h2 b) (hc : cellOK G h2 H1 a) : Rf G h2 H1 := by
  have ha := hR.old hs0
  obtain ⟨r1, r2, r3, r4, r5⟩ := hR
  refine ⟨by rw [e1, r1, z], by rw [z]; exact r2, fun q hq => ?_, fun q => ?_, fun q cell hq hcell => ?_⟩
  · rw [e2, oq q (fun e => absurd ha (by rw [← e]; exact Nat.not_le.mpr hq))]
    exact r3 q hq
  · by_cases e : q = a
    · rw [e]; exact hc
    · exact (r4 q).same (by rw [e2]) (hs q e) (oq q e)
  · by_cases e : q = a
    · subst e
      exact hc.plain (by rw [e2]; exact hs0) cell hcell
    · rw [oq q e] at hcell
      exact r5 q cell hq hcell
theorem sm_uI {h : Hp} {a k b : Nat} {v : Int32} (hb : b ≠ a) : sm h (uI h a k v) b := ⟨fun j => by show up2 _ _ _ _ _ _ = _; unfold up2; rw [if_neg (fun e => hb e.1)], fun _ => rfl, fun _ => rfl⟩
theorem sm_uL {h : Hp} {a k b : Nat} {v : Int64} (hb : b ≠ a) : sm h (uL h a k v) b := ⟨fun _ => rfl, fun j => by show up2 _ _ _ _ _ _ = _; unfold up2; rw [if_neg (fun e => hb e.1)], fun _ => rfl⟩
theorem sm_uR {h : Hp} {a k b : Nat} {v : Option Nat} (hb : b ≠ a) : sm h (uR h a k v) b := ⟨fun _ => rfl, fun _ => rfl, fun j => by show up2 _ _ _ _ _ _ = _; unfold up2; rw [if_neg (fun e => hb e.1)]⟩
section TH
variable {G : GG} {M : MI} {d : Nat} {α : Type} {cv : α → Option Value} {pc : Nat} {ls : List (Nat × Value)} {st : List Value} {h : Hp} {F F1 F2 : Option (α × Hp)}
theorem Cx.hts {G : GG} {M : MI} {d : Nat} {p : Program} {R : Room} {s : State} {m : MethodId} {meth : Method} {c : Code} (C : Cx G M d p R s m meth c) {q : vw_C} {ci : Nat} (hc : classes[ci]? = some q) (a : Array Value) : ∀ w ∈ u_ws q.1 q.2.1 q.2.2, w.before a s = true := by
  intro w hw
  refine C.2.2.2.2.2.1.1 w (cl_in ci q hc w hw) ?_ a
  obtain ⟨k, -, rfl⟩ := List.mem_map.mp hw
  unfold u_lay
  split <;> rfl
theorem W_get {p : Program} {l : Launch} {e : Env} {R : Room} {s : State} {m : MethodId} {args : Array Value} {below : List Frame} {meth : Method} {c : Code} {H : Heap} {locs : List Loc} {cells slots : Nat} {Q : State → Prop} {ls0 : Array Slot} {a i ci k : Nat} (C : Cx G M d p R s m meth c) (hR : Rf G h H) (hs : hS h a = some (.inl ci)) (hf : FA (mY M).cls i ci k) (hd : decode (mB M) pc = .ok (.getfield i, 3))
    (kk : W p l e R s m args below meth c H locs cells slots Q (F0 m (pc + 3) ls0 (fV (kd ci k) h a k :: st))) : W p l e R s m args below meth c H locs cells slots Q (F0 m pc ls0 (.ref a :: st)) := by
  obtain ⟨q, hq, hk, hlk⟩ := hf
  obtain ⟨cell, q1, q2, q3, q4⟩ := hR.obj hs hq
  obtain ⟨hSl, hfc, kC, hkC, hkind⟩ := C.2.2.2.2.2.1.2.2.1 ci q hq
  obtain ⟨cf, kf, fi, f, hi, hsl⟩ := hSl k hk
  have hst := (u_facts hfc hkC (u_lays (C.hts hq args) (fun _ h => h) hk) hi).1
  rcases hlk with hlk | ⟨host, hlk⟩
  · refine W.getf C.1 C.2.1 C.2.2.2.1 (C.lk hlk args) hi hst q1 (by rw [q3]; exact fun h => by cases h) (v := fV (kd ci k) h a k) ?_ rfl rfl hd kk
    rw [hsl, q4 k hk]
  · refine va_Wgetf C.1 C.2.1 C.2.2.2.1 (C.lkN hlk args) hi hst q1 (by rw [q3]; exact fun h => by cases h) (v := fV (kd ci k) h a k) ?_ rfl rfl hd kk
    rw [hsl, q4 k hk]
theorem q_getI {i ci k a : Nat} (hd : decode (mB M) pc = .ok (.getfield i, 3)) (hf : FA (mY M).cls i ci k) (hk : kd ci k = 0) (kk : T G M d cv (pc + 3) ls (.int (hI h a k) :: st) h F) : T G M d cv pc ls (.ref a :: st) h (gd (hS h a = some (.inl ci)) F) :=
  T.rd (fun hP C hR kk => W_get C hR hP hf hd (by rw [hk]; exact kk)) kk
theorem q_getL {i ci k a : Nat} (hd : decode (mB M) pc = .ok (.getfield i, 3)) (hf : FA (mY M).cls i ci k) (hk : kd ci k = 1) (kk : T G M d cv (pc + 3) ls (.long (hL h a k) :: st) h F) : T G M d cv pc ls (.ref a :: st) h (gd (hS h a = some (.inl ci)) F) :=
  T.rd (fun hP C hR kk => W_get C hR hP hf hd (by rw [hk]; exact kk)) kk
theorem q_getR {i ci k a : Nat} {K : Nat → Option (α × Hp)} (hd : decode (mB M) pc = .ok (.getfield i, 3)) (hf : FA (mY M).cls i ci k) (hk : kd ci k = 2) (kk : ∀ x, T G M d cv (pc + 3) ls (.ref x :: st) h (K x)) : T G M d cv pc ls (.ref a :: st) h (gd (hS h a = some (.inl ci)) (bR (hR h a k) K)) := by
  intro r h' hF
  obtain ⟨hP, hF⟩ := gd_some hF
  obtain ⟨x, hx, hF⟩ := bR_some hF
  obtain ⟨hb, k2⟩ := kk x r h' hF
  refine ⟨hb, fun p l e R s m args below meth c H locs cells slots Q ls0 C lf h1 h2 hRf hS hl hret => ?_⟩
  refine W_get C hRf hP hf hd ?_
  rw [hk, show fV 2 h a k = .ref x by show va_rf (hR h a k) = _; rw [hx]; rfl]
  exact k2 p l e R s m args below meth c H locs cells slots Q ls0 C lf h1 h2 hRf hS hl hret
/-- a field that may be null, looked at by the next instruction -/
theorem q_getnn {i ci k a : Nat} {off : Int} (tgt : Nat) (hd : decode (mB M) pc = .ok (.getfield i, 3)) (hd2 : decode (mB M) (pc + 3) = .ok (.ifnonnull off, 3)) (ht : ((pc + 3 : Nat) : Int) + off = (tgt : Int)) (hf : FA (mY M).cls i ci k) (hk : kd ci k = 2) (k1 : T G M d cv tgt ls st h F1) (k2 : T G M d cv (pc + 3 + 3) ls st h F2) : T G M d cv pc ls (.ref a :: st) h (gd (hS h a = some (.inl ci)) (if hR h a k = none then F2 else F1)) := by
  intro r h' hF
  obtain ⟨hP, hF⟩ := gd_some hF
  by_cases hn : hR h a k = none
  · rw [if_pos hn] at hF
    obtain ⟨hb, kk⟩ := k2 r h' hF
    refine ⟨hb, fun p l e R s m args below meth c H locs cells slots Q ls0 C lf h1 h2 hRf hS hl hret => ?_⟩
    refine W_get C hRf hP hf hd ?_
    rw [hk, show fV 2 h a k = .null by show va_rf (hR h a k) = _; rw [hn]; rfl]
    exact lv_ifnonnullN C.1 C.2.1 hd2 (kk p l e R s m args below meth c H locs cells slots Q ls0 C lf h1 h2 hRf hS hl hret)
  · rw [if_neg hn] at hF
    obtain ⟨x, hx⟩ := Option.ne_none_iff_exists'.mp hn
    obtain ⟨hb, kk⟩ := k1 r h' hF
    refine ⟨hb, fun p l e R s m args below meth c H locs cells slots Q ls0 C lf h1 h2 hRf hS hl hret => ?_⟩
    refine W_get C hRf hP hf hd ?_
    rw [hk, show fV 2 h a k = .ref x by show va_rf (hR h a k) = _; rw [hx]; rfl]
    exact lv_ifnonnull C.1 C.2.1 hd2 ht (kk p l e R s m args below meth c H locs cells slots Q ls0 C lf h1 h2 hRf hS hl hret)
theorem q_getnu {i ci k a : Nat} {off : Int} (tgt : Nat) (hd : decode (mB M) pc = .ok (.getfield i, 3)) (hd2 : decode (mB M) (pc + 3) = .ok (.ifnull off, 3)) (ht : ((pc + 3 : Nat) : Int) + off = (tgt : Int)) (hf : FA (mY M).cls i ci k) (hk : kd ci k = 2) (k1 : T G M d cv tgt ls st h F1) (k2 : T G M d cv (pc + 3 + 3) ls st h F2) : T G M d cv pc ls (.ref a :: st) h (gd (hS h a = some (.inl ci)) (if hR h a k = none then F1 else F2)) := by
  intro r h' hF
  obtain ⟨hP, hF⟩ := gd_some hF
  by_cases hn : hR h a k = none
  · rw [if_pos hn] at hF
    obtain ⟨hb, kk⟩ := k1 r h' hF
    refine ⟨hb, fun p l e R s m args below meth c H locs cells slots Q ls0 C lf h1 h2 hRf hS hl hret => ?_⟩
    refine W_get C hRf hP hf hd ?_
    rw [hk, show fV 2 h a k = .null by show va_rf (hR h a k) = _; rw [hn]; rfl]
    exact lv_ifnullN C.1 C.2.1 hd2 ht (kk p l e R s m args below meth c H locs cells slots Q ls0 C lf h1 h2 hRf hS hl hret)
  · rw [if_neg hn] at hF
    obtain ⟨x, hx⟩ := Option.ne_none_iff_exists'.mp hn
    obtain ⟨hb, kk⟩ := k2 r h' hF
    refine ⟨hb, fun p l e R s m args below meth c H locs cells slots Q ls0 C lf h1 h2 hRf hS hl hret => ?_⟩
    refine W_get C hRf hP hf hd ?_
    rw [hk, show fV 2 h a k = .ref x by show va_rf (hR h a k) = _; rw [hx]; rfl]
    exact lv_ifnull C.1 C.2.1 hd2 (kk p l e R s m args below meth c H locs cells slots Q ls0 C lf h1 h2 hRf hS hl hret)
theorem W_put {p : Program} {l : Launch} {e : Env} {R : Room} {s : State} {m : MethodId} {args : Array Value} {below : List Frame} {meth : Method} {c : Code} {H : Heap} {locs : List Loc} {cells slots : Nat} {Q : State → Prop} {ls0 : Array Slot} {a i ci k : Nat} {v : Value} {h2 : Hp} (C : Cx G M d p R s m meth c) (hR : Rf G h H) (hS0 : va_S (gF G) s.heap H locs) (hs : hS h a = some (.inl ci)) (hf : FP (mY M) i ci k)
    (e1 : hN h2 = hN h) (e2 : hS h2 = hS h) (e3 : ∀ b, b ≠ a → sm h h2 b) (e4 : ∀ j, fV (kd ci j) h2 a j = updV (fun q => fV (kd ci q) h a q) k v j) (hn : narrow (cTYf ci k) v = v) (hfit : fits (cTYf ci k) v = true) (hd : decode (mB M) pc = .ok (.putfield i, 3))
    (kk : ∀ (H1 : Heap) (locs1 : List Loc), Rf G h2 H1 → va_S (gF G) s.heap H1 locs1 → W p l e R s m args below meth c H1 locs1 cells slots Q (F0 m (pc + 3) ls0 st)) : W p l e R s m args below meth c H locs cells slots Q (F0 m pc ls0 (v :: .ref a :: st)) := by
  obtain ⟨q, hq, hk, hlk⟩ := hf
  obtain ⟨cell, q1, q2, q3, q4⟩ := hR.obj hs hq
  have hKn := C.2.2.2.2.2.1.2.2.1 ci q hq
  obtain ⟨hSl, hfc, kC, hkC, hkind⟩ := hKn
  obtain ⟨cf, kf, fi, f, hi, hsl⟩ := hSl k hk
  have hts := C.hts hq args
  have hap : ∀ x y, x < q.2.2 → y < q.2.2 → x ≠ y → (gI G ci) x ≠ (gI G ci) y := by
    intro x y hx hy hne
    obtain ⟨_, _, _, fa, hia, ea⟩ := hSl x hx
    obtain ⟨_, _, _, fb, hib, eb⟩ := hSl y hy
    rw [← ea, ← eb]
    refine u_apart (u_lays hts (fun _ h => h) hx) (u_lays hts (fun _ h => h) hy) hia hib ?_
    rw [(State.fieldFound?_type hia (cl_ty ci q hq x hx)).1, (State.fieldFound?_type hib (cl_ty ci q hq y hy)).1]
    exact cl_nm ci q hq x hx y hy hne
  have hst := (u_facts hfc hkC (u_lays hts (fun _ h => h) hk) hi).1
  have hd2 := cl_ty ci q hq k hk
  have hgo : ∀ H' : Heap, H'[a]? = some (cell.setSlot f.slot v) → H'.size = H.size → (∀ q, q ≠ a → H'[q]? = H[q]?) → W p l e R s m args below meth c H' (locs ++ [⟨a, f.slot⟩]) cells slots Q (F0 m (pc + 3) ls0 st) := by
    intro H' w1 w2 w3
    rw [hsl] at w1
    refine kk H' _ (hR.upd hs e1 e2 w2 w3 e3 ?_) (hS0.put w2 w3 (hR.old hs))
    unfold cellOK
    rw [e2, hs]
    exact ⟨q, hq, t_OB.to (V := updV (fun k => fV (kd ci k) h a k) k v) ⟨_, w1, q2, q3, t_set q4 hap hk v⟩ (fun j _ => (e4 j).symm)⟩
  have hlay := hts _ (u_in_lay hk)
  unfold u_lay at hlay
  rcases hlk with ⟨hfin, hlk⟩ | ⟨hfin, host, hlk⟩ | ⟨hfin, hin, hdecl, hlk⟩
  · rw [if_neg (by rw [hfin]; decide)] at hlay
    have h6 := u_store hfc hkC hkind hlay hi hd2 hn hfit
    exact W.putK C.1 C.2.1 (f := f) ⟨C.2.2.2.1, C.lk hlk args, ⟨_, _, _, hi⟩, hst⟩ (by rw [q2]; exact h6) q1 q3 (by rw [hsl]; exact k2_hasslot (q4 k hk)) rfl rfl hd hgo
  · rw [if_neg (by rw [hfin]; decide)] at hlay
    have h6 := u_store hfc hkC hkind hlay hi hd2 hn hfit
    exact va_WputK C.1 C.2.1 (f := f) C.2.2.2.1 (C.lkN hlk args) hi hst (by rw [q2]; exact h6) q1 q3 (by rw [hsl]; exact k2_hasslot (q4 k hk)) rfl rfl hd hgo
  · rw [if_pos hfin] at hlay
    have hcf : m.cls = cf := by
      obtain ⟨_, _, c', _, _, _, -, -, hf', -, -, -, hown2, -⟩ := Cond.laysFinal_spec hlay
      have e1 : c' = cf := by have := hi.symm.trans hf'; simp at this; exact this.1.symm
      rw [hdecl] at hown2
      rw [← e1]; exact Option.some.inj (C.2.2.2.1.symm.trans hown2)
    have h6 := u_fits hfc hkC hkind (Or.inr hlay) hi hd2 hn hfit
    exact W.putFinK C.1 C.2.1 C.2.2.2.1 (C.lk hlk args) hi hst hcf (C.2.2.2.2.1.trans hin) (by rw [q2]; exact h6) q1 q3 (by rw [hsl]; exact k2_hasslot (q4 k hk)) rfl rfl hd hgo
def zb (v : Int32) : Prop := v = 0 ∨ v = 1
theorem fV_eq {h h2 : Hp} {t a j : Nat} (e1 : hI h2 a j = hI h a j) (e2 : hL h2 a j = hL h a j) (e3 : hR h2 a j = hR h a j) : fV t h2 a j = fV t h a j := by
  unfold fV
  split
  · rw [e1]
  · rw [e2]
  · rw [e3]
theorem up2_s {α : Type} {f : Nat → Nat → α} {a k : Nat} {v : α} : up2 f a k v a k = v := if_pos ⟨rfl, rfl⟩
theorem up2_n {α : Type} {f : Nat → Nat → α} {a k b j : Nat} {v : α} (h : ¬ (b = a ∧ j = k)) : up2 f a k v b j = f b j := if_neg h
theorem fV_uI {h : Hp} {ci a k j : Nat} {v : Int32} (hk : kd ci k = 0) : fV (kd ci j) (uI h a k v) a j = updV (fun q => fV (kd ci q) h a q) k (.int v) j := by
  unfold updV
  by_cases e : j = k
  · subst e
    rw [if_pos rfl, hk]
    exact congrArg Value.int up2_s
  · rw [if_neg e]
    exact fV_eq (up2_n (fun q => e q.2)) rfl rfl
theorem fV_uL {h : Hp} {ci a k j : Nat} {v : Int64} (hk : kd ci k = 1) : fV (kd ci j) (uL h a k v) a j = updV (fun q => fV (kd ci q) h a q) k (.long v) j := by
  unfold updV
  by_cases e : j = k
  · subst e
    rw [if_pos rfl, hk]
    exact congrArg Value.long up2_s
  · rw [if_neg e]
    exact fV_eq rfl (up2_n (fun q => e q.2)) rfl
theorem fV_uR {h : Hp} {ci a k j : Nat} {v : Option Nat} (hk : kd ci k = 2) : fV (kd ci j) (uR h a k v) a j = updV (fun q => fV (kd ci q) h a q) k (va_rf v) j := by
  unfold updV
  by_cases e : j = k
  · subst e
    rw [if_pos rfl, hk]
    exact congrArg va_rf up2_s
  · rw [if_neg e]
    exact fV_eq rfl rfl (up2_n (fun q => e q.2))
theorem q_putI {i ci k a : Nat} {v : Int32} (hd : decode (mB M) pc = .ok (.putfield i, 3)) (hf : FP (mY M) i ci k) (hk : kd ci k = 0) (ht : cTYf ci k = .int) (kk : T G M d cv (pc + 3) ls st (uI h a k v) F) : T G M d cv pc ls (.int v :: .ref a :: st) h (gd (hS h a = some (.inl ci)) F) :=
  T.wr (h2 := uI h a k v) rfl (fun hP C hR hS kk => W_put (h2 := uI h a k v) C hR hS hP hf rfl rfl (fun b hb => sm_uI hb) (fun j => fV_uI hk) (by rw [ht]; rfl) (by rw [ht]; rfl) hd kk) kk
theorem q_putZ {i ci k a : Nat} {v : Int32} (hd : decode (mB M) pc = .ok (.putfield i, 3)) (hf : FP (mY M) i ci k) (hk : kd ci k = 0) (ht : cTYf ci k = .boolean) (kk : T G M d cv (pc + 3) ls st (uI h a k v) F) : T G M d cv pc ls (.int v :: .ref a :: st) h (gd (zb v ∧ hS h a = some (.inl ci)) F) :=
  T.wr (h2 := uI h a k v) rfl (fun hP C hR hS kk => W_put (h2 := uI h a k v) C hR hS hP.2 hf rfl rfl (fun b hb => sm_uI hb) (fun j => fV_uI hk) (by rw [ht]; rcases hP.1 with rfl | rfl <;> rfl) (by rw [ht]; rcases hP.1 with rfl | rfl <;> rfl) hd kk) kk
theorem q_putL {i ci k a : Nat} {v : Int64} (hd : decode (mB M) pc = .ok (.putfield i, 3)) (hf : FP (mY M) i ci k) (hk : kd ci k = 1) (ht : cTYf ci k = .long) (kk : T G M d cv (pc + 3) ls st (uL h a k v) F) : T G M d cv pc ls (.long v :: .ref a :: st) h (gd (hS h a = some (.inl ci)) F) :=
  T.wr (h2 := uL h a k v) rfl (fun hP C hR hS kk => W_put (h2 := uL h a k v) C hR hS hP hf rfl rfl (fun b hb => sm_uL hb) (fun j => fV_uL hk) (by rw [ht]; rfl) (by rw [ht]; rfl) hd kk) kk
theorem q_putR {i ci k a v : Nat} (hd : decode (mB M) pc = .ok (.putfield i, 3)) (hf : FP (mY M) i ci k) (hk : kd ci k = 2) (ht : narrow (cTYf ci k) (.ref v) = .ref v) (ht2 : fits (cTYf ci k) (.ref v) = true) (kk : T G M d cv (pc + 3) ls st (uR h a k (some v)) F) : T G M d cv pc ls (.ref v :: .ref a :: st) h (gd (hS h a = some (.inl ci)) F) :=
  T.wr (h2 := uR h a k (some v)) rfl (fun hP C hR hS kk => W_put (h2 := uR h a k (some v)) C hR hS hP hf rfl rfl (fun b hb => sm_uR hb) (fun j => fV_uR hk) ht ht2 hd kk) kk
end TH
