/-! the law: call by call -/
section LW
variable {h h' h1 : Hp} {x c j tl nc n : Nat} {D : DD} {V : Nat → Nat} {K Im : Nat → Nat → Nat} {T : Nat → Int32} {fa tr wh : Int32}
def LI (x : Nat) (h : Hp) (nc : Nat) (D : DD) (V : Nat → Nat) (K : Nat → Nat → Nat) (c : Nat) (Im : Nat → Nat → Nat) (j : Nat) (T : Nat → Int32) (tl : Nat) (fa tr wh : Int32) : Prop := RB h x D V K c Im j T tl fa ∧ RM h (x + 88) D V K c Im j T tl fa ∧ TrB h x tr wh ∧ TrM h (x + 88) tr wh ∧ Wst D V K c Im j tl nc ∧ BT T tl ∧ hS h (x + 102) = some (.inr (1, 1)) ∧ NoS h ∧ x + 103 ≤ hN h ∧ 20 * (513 - nc) ≤ (hB h).1 ∧ 500 * (513 - nc) ≤ (hB h).2
def LX (x : Nat) (h : Hp) (nc : Nat) : Prop := ∃ (D : DD) (V : Nat → Nat) (K : Nat → Nat → Nat) (c : Nat) (Im : Nat → Nat → Nat) (j : Nat) (T : Nat → Int32) (tl : Nat) (fa tr wh : Int32), LI x h nc D V K c Im j T tl fa tr wh
theorem LI.up (I : LI x h nc D V K c Im j T tl fa tr wh) (hnc : nc < 512) : LX x h (nc + 1) := by
  obtain ⟨R, M, tB, tM, W, bt, so, ns, hn, b1, b2⟩ := I
  exact ⟨D, V, K, c, Im, j, T, tl, fa, tr, wh, R, M, tB, tM, W.up hnc, bt, so, ns, hn, by omega, by omega⟩
theorem LI.th (I : LI x h nc D V K c Im j T tl fa tr wh) (hnc : nc < 512) : LX x (uI h (x + 88) 0 0) (nc + 1) := by
  obtain ⟨R, M, tB, tM, W, bt, so, ns, hn, b1, b2⟩ := I
  have F : Fr (ScM (x + 88)) h (uI h (x + 88) 0 0) := fr_uI (ScM_l (by decide))
  have nB : ∀ a k, a < x + 88 → ¬ ScM (x + 88) a k := fun a k ha e => by unfold ScM at e; omega
  refine ⟨D, V, K, c, Im, j, T, tl, fa, tr, wh, R.fr W.1.1 F (fun a k e => Or.inr (by unfold ScM at e; omega)), M.fr F (fun a k e => Or.inl e), ⟨?_, fun z => ?_, tB.2.2⟩, ⟨?_, ?_⟩, W.up hnc, bt, so, F.nos ns, hn, by show _ ≤ (hB h).1; omega, by show _ ≤ (hB h).2; omega⟩
  · rw [hI_uIa (by omega)]; exact tB.1
  · rw [hI_uIa (by omega)]; exact tB.2.1 z
  · rw [hI_uIk (by decide)]; exact tM.1
  · rw [hI_uIk (by decide)]; exact tM.2
theorem lw_a {α β : Type} {F : Option (α × Hp)} {G : Hp → Option (α × Hp)} {f : α → Hp → Option (β × Hp)} {Q : β → Hp → Prop} (I : LI x h nc D V K c Im j T tl fa tr wh) (hnc : nc < 512) (P : PairA x h (x + 88) (fun h1 => RM h1 (x + 88) D V K c Im j T tl fa) T tl fa nc F G) (kk : ∀ r h', hS h' (x + 88) = some (.inl 11) → (∀ f2 : α → Hp → Option (β × Hp), (∀ h2, LX x h2 (nc + 1) → Ok (f2 r h2) Q) → Ok (bd (G h') f2) Q) → Ok (f r h') Q) : Ok (bd F f) Q := by
  obtain ⟨R, M, tB, tM, W, bt, so, ns, hn, b1, b2⟩ := I
  obtain ⟨r, t, D', V', K', c', Im', j', ht, W', hB', hM⟩ := P
  refine ok_bd (ok_mono hB' ?_)
  intro r' h2 hx
  obtain ⟨rfl, F1, R1, e15⟩ := hx
  have M1 : RM h2 (x + 88) D V K c Im j T tl fa := M.fr F1 (fun a k e => by have e' : inB x a := e; unfold inB at e'; exact Or.inr (Or.inl (by omega)))
  refine kk _ h2 M1.1.1 (fun f2 k2 => ok_bd (ok_mono (hM h2 M1) ?_))
  intro r2 h3 hx
  obtain ⟨rfl, F2, M2, e1, e2⟩ := hx
  have inm : ∀ a k, (fun a (_ : Nat) => inM (x + 88) a) a k → x + 88 ≤ a ∧ a ≤ x + 101 := fun a k e => by have e' : inM (x + 88) a := e; unfold inM at e'; omega
  have nm : ∀ a, ¬ (x + 88 ≤ a ∧ a ≤ x + 101) → ¬ inM (x + 88) a := fun a hn e => hn (inm a 0 e)
  have sB : hB h3 = hB h := F2.2.2.1.trans F1.2.2.1
  have sN : hN h3 = hN h := F2.1.trans F1.1
  refine k2 h3 ⟨D', V', K', c', Im', j', T, tl, fa, t, -1, R1.fr W'.1.1 F2 (fun a k e => Or.inr (inm a k e).1), M2, ⟨?_, fun z => absurd z ht, fun _ => rfl⟩, ⟨e1, e2⟩, W', bt, ?_, F2.nos (F1.nos ns), by rw [sN]; exact hn, by rw [sB]; omega, by rw [sB]; omega⟩
  · rw [(F2.2.2.2 x 15 (nm _ (by omega))).1]; exact e15
  · rw [F2.2.1, F1.2.1]; exact so
theorem lw_f {α : Type} {F : Option (Int32 × Hp)} {G : Hp → Option (Int32 × Hp)} {f : Int32 → Hp → Option (α × Hp)} {Q : α → Hp → Prop} (I : LI x h nc D V K c Im j T tl fa tr wh) (hnc : nc < 512) (P : PairF x h (x + 88) (fun h1 => RM h1 (x + 88) D V K c Im j T tl fa) D V K c Im j fa nc F G) (kk : ∀ r h', hS h' (x + 88) = some (.inl 11) → (∀ f2 : Int32 → Hp → Option (α × Hp), (∀ h2, LX x h2 (nc + 1) → Ok (f2 r h2) Q) → Ok (bd (G h') f2) Q) → Ok (f r h') Q) : Ok (bd F f) Q := by
  obtain ⟨R, M, tB, tM, W, bt, so, ns, hn, b1, b2⟩ := I
  obtain ⟨r, T', tl', bt', W', hB', hM⟩ := P
  refine ok_bd (ok_mono hB' ?_)
  intro r' h2 hx
  obtain ⟨rfl, F1, R1, e15, e5⟩ := hx
  have inb : ∀ a k, (fun a (_ : Nat) => inB x a) a k → a < x + 88 := fun a k e => by have e' : inB x a := e; unfold inB at e'; omega
  have nb : ∀ a, x + 88 ≤ a → ¬ inB x a := fun a ha e => by have := inb a 0 e; omega
  have M1 : RM h2 (x + 88) D V K c Im j T tl fa := M.fr F1 (fun a k e => Or.inr (Or.inl (inb a k e)))
  refine kk _ h2 M1.1.1 (fun f2 k2 => ok_bd (ok_mono (hM h2 M1) ?_))
  intro r2 h3 hx
  obtain ⟨rfl, F2, M2, e1, e2⟩ := hx
  have inm : ∀ a k, (fun a (_ : Nat) => inM (x + 88) a) a k → x + 88 ≤ a ∧ a ≤ x + 101 := fun a k e => by have e' : inM (x + 88) a := e; unfold inM at e'; omega
  have nm : ∀ a, ¬ (x + 88 ≤ a ∧ a ≤ x + 101) → ¬ inM (x + 88) a := fun a hn e => hn (inm a 0 e)
  have sB : hB h3 = hB h := F2.2.2.1.trans F1.2.2.1
  have sN : hN h3 = hN h := F2.1.trans F1.1
  refine k2 h3 ⟨D, V, K, c, Im, j, T', tl', fa, tr, wh, R1.fr W'.1.1 F2 (fun a k e => Or.inr (inm a k e).1), M2, ⟨?_, fun z => ?_, tB.2.2⟩, ⟨?_, ?_⟩, W', bt', ?_, F2.nos (F1.nos ns), by rw [sN]; exact hn, by rw [sB]; omega, by rw [sB]; omega⟩
  · rw [(F2.2.2.2 x 15 (nm _ (by omega))).1, e15]; exact tB.1
  · rw [(F2.2.2.2 (x + 2) 5 (nm _ (by omega))).1, e5]; exact tB.2.1 z
  · rw [e1, (F1.2.2.2 (x + 88) 1 (nb _ (by omega))).1]; exact tM.1
  · rw [e2, (F1.2.2.2 (x + 88) 2 (nb _ (by omega))).1]; exact tM.2
  · rw [F2.2.1, F1.2.1]; exact so
theorem lw_o {α : Type} {v : Int32} {f : Int32 → Hp → Option (α × Hp)} {Q : α → Hp → Prop} (I : LI x h nc D V K c Im j T tl fa tr wh) (hnc : nc < 512) (kk : ∀ r h', hS h' (x + 88) = some (.inl 11) → (∀ f2 : Int32 → Hp → Option (α × Hp), (∀ h2, LX x h2 (nc + 1) → Ok (f2 r h2) Q) → Ok (bd (f_m_orrery (x + 88) v h') f2) Q) → Ok (f r h') Q) : Ok (bd (f_B_orrery x v h) f) Q := by
  obtain ⟨R, M, tB, tM, W, bt, so, ns, hn, b1, b2⟩ := id I
  have inb : ∀ a k, (fun a (_ : Nat) => inB x a) a k → a < x + 88 := fun a k e => by have e' : inB x a := e; unfold inB at e'; omega
  have w900 := W.2.2.2.2.1
  rcases ix_le v (n := tl) (by omega) with hv | hv | ⟨n, hnt, rfl⟩
  · exact lw_a I hnc (Pair.a W hnc R ⟨-1, 2, by decide, oB_no R W (Or.inl hv), fun h1 M1 => oM_no M1 (Or.inl hv)⟩) kk
  · exact lw_a I hnc (Pair.a W hnc R ⟨-1, 2, by decide, oB_no R W (Or.inr hv), fun h1 M1 => oM_no M1 (Or.inr hv)⟩) kk
  have btn : BT T n := fun p hp => bt p (by omega)
  by_cases he : orE T n = 0
  · obtain ⟨hB', wR, hW⟩ := oB_ok R W btn hnt he
    refine ok_bd (ok_mono hB' ?_)
    intro r' h2 hx
    obtain ⟨rfl, F1, R1, e15⟩ := hx
    have M1 : RM h2 (x + 88) D V K c Im j T tl fa := M.fr F1 (fun a k e => Or.inr (Or.inl (inb a k e)))
    have W2 := wst_or W hnc wR hW
    refine kk _ h2 M1.1.1 (fun f2 k2 => ok_bd (ok_mono (oM_ok M1 w900 btn hnt (F1.nos ns) (by rw [F1.1]; omega) (by rw [F1.2.2.1]; omega) (by rw [F1.2.2.1]; omega) he) ?_))
    intro r2 h3 hx
    obtain ⟨rfl, ⟨g1, g2, g3, g4, g5, g6⟩, M2, e1, e2⟩ := hx
    rw [F1.2.2.1] at g5 g6
    rw [F1.1] at g1
    refine k2 h3 ⟨orD T n, V0 (orD T n) V, K, 0, Im, 0, T, 0, 0, 0, -1, R1.al W2.1.1 g2 (n := x + 88) (fun a ha => g3 a (Or.inl ha)) (Nat.le_refl _), M2, ⟨?_, fun z => absurd z (by decide), fun _ => rfl⟩, ⟨e1, e2⟩, W2, fun p hp => absurd hp (Nat.not_lt_zero _), g2 _ _ (by rw [F1.2.1]; exact so), g4, by omega, by omega, by omega⟩
    rw [(g3 x (Or.inl (by omega))).1]; exact e15
  · refine ok_bd (ok_mono (oB_er R W btn hnt he) ?_)
    intro r' h2 hx
    obtain ⟨rfl, F1, R1, t1⟩ := hx
    have M1 : RM h2 (x + 88) D V K c Im j T tl fa := M.fr F1 (fun a k e => Or.inr (Or.inl (inb a k e)))
    have W2 : Wst D V K c Im j 0 (nc + 1) := (W.tln (tl2 := 0) (by omega)).up hnc
    refine kk _ h2 M1.1.1 (fun f2 k2 => ok_bd (ok_mono (oM_er M1 w900 btn hnt (F1.nos ns) (by rw [F1.1]; omega) (by rw [F1.2.2.1]; omega) (by rw [F1.2.2.1]; omega) he) ?_))
    intro r2 h3 hx
    obtain ⟨rfl, ⟨g1, g2, g3, g4, g5, g6⟩, M2, t2⟩ := hx
    rw [F1.2.2.1] at g5 g6
    rw [F1.1] at g1
    refine k2 h3 ⟨D, V, K, c, Im, j, T, 0, nI (orE T n), 4, nI (orP T n), R1.al W2.1.1 g2 (n := x + 88) (fun a ha => g3 a (Or.inl ha)) (Nat.le_refl _), M2, ⟨?_, fun z => ?_, fun z => absurd rfl z⟩, t2, W2, fun p hp => absurd hp (Nat.not_lt_zero _), g2 _ _ (by rw [F1.2.1]; exact so), g4, by omega, by omega, by omega⟩
    · rw [(g3 x (Or.inl (by omega))).1]; exact t1.1
    · rw [(g3 (x + 2) (Or.inl (by omega))).1]; exact t1.2.1 z
theorem lw_d {k : (Nat × Nat × Nat × Int32) → Hp → Option (Int32 × Hp)} {L : Nat} {xs : Nat → Int32} {v4 : Int32} {v : Int32} {Q : Int32 → Hp → Prop} (I : LI x h nc D V K c Im j T tl fa tr wh) (hnc : nc < 512) (nxt : ∀ h2, LX x h2 (nc + 1) → Ok (b_Law_law_1705 L xs k x (x + 88) (x + 102) v4 h2) Q) (hv1 : vp_in (v4 + 1) L) (hv : v = xs (v4 + 1).toNatClampNeg) : Ok (bd (f_Law_led2 x v (x + 102) h) fun r293 h292 => gd (vp_in (v4 + 1) L) (lt (xs (v4 + 1).toNatClampNeg) fun x294 => gd (hS h292 (x + 88) = some (.inl 11)) (bd (f_m_led (x + 88) x294 h292) fun r296 h295 => gd (hS h295 (x + 88) = some (.inl 11)) (bd (f_m_thrown (x + 88) h295) fun r298 h297 => if r298 = r293 then (if r293 = 0 then (gd (ai h297 (x + 102) 1 0) (lt (hL h297 (x + 102) (0 : Int32).toNatClampNeg) fun x299 => if (lg_cmp x299 r296.toInt64) = 0 then (b_Law_law_1664 L xs k x (x + 88) (x + 102) v4 h297) else (gd (zb 0) (some (0, h297))))) else (b_Law_law_1664 L xs k x (x + 88) (x + 102) v4 h297)) else (gd (zb 0) (some (0, h297))))))) Q := by
  obtain ⟨R, M, tB, tM, W, bt, so, ns, hn, b1, b2⟩ := id I
  have nm : ∀ {a k}, ScM (x + 88) a k → x + 88 ≤ a ∧ a ≤ x + 101 := fun {a k} e => by unfold ScM at e; omega
  have th : ∀ h3 : Hp, hS h3 (x + 88) = some (.inl 11) → f_m_thrown (x + 88) h3 = some (hI h3 (x + 88) 0, h3) := fun h3 e => by
    unfold f_m_thrown
    rw [gd_pos e]
    rfl
  rcases n_led W R v (x + 102) so ⟨by omega, by omega⟩ with ⟨f, hf, l1, l2, e⟩ | ⟨hno, e⟩
  · refine ok_bde e (ok_gd hv1 (ok_lt ?_))
    rw [← hv]
    have F1 : Fr (fun a _ => a = x + 102) h (uL h (x + 102) 0 (nI f).toInt64) := fr_uL rfl
    have M1 : RM (uL h (x + 102) 0 (nI f).toInt64) (x + 88) D V K c Im j T tl fa := M.fr F1 (fun a k e => Or.inr (Or.inr (by omega)))
    have R1 : RB (uL h (x + 102) 0 (nI f).toInt64) x D V K c Im j T tl fa := R.fr W.1.1 F1 (fun a k e => Or.inr (by omega))
    have o1 : hL (uL h (x + 102) 0 (nI f).toInt64) (x + 102) 0 = (nI f).toInt64 := hL_uLs
    have so1 : hS (uL h (x + 102) 0 (nI f).toInt64) (x + 102) = some (.inr (1, 1)) := so
    have q15 : hI (uL h (x + 102) 0 (nI f).toInt64) = hI h := rfl
    generalize uL h (x + 102) 0 (nI f).toInt64 = h2 at *
    refine ok_gd M1.1.1 (ok_bd (ok_mono ((nm_led W M1 v).1 f hf l1 l2) ?_))
    intro r h3 hx
    obtain ⟨rfl, F2, y0, y1, y2⟩ := hx
    have s3 : hS h3 (x + 88) = some (.inl 11) := by rw [F2.2.1]; exact M1.1.1
    refine ok_gd s3 (ok_bde (th h3 s3) ?_)
    rw [y0]
    have s4 : hS h3 (x + 102) = some (.inr (1, 1)) := by rw [F2.2.1]; exact so1
    refine ok_t rfl (ok_t rfl (ok_gd (ai_of (n := 0) s4 (by decide) (by decide)) (ok_lt ?_)))
    rw [cl0, (F2.2.2.2 (x + 102) 0 (fun e => by have := nm e; omega)).2.1, o1]
    refine ok_t ((lg_cmp_eq _ _).mpr rfl) ?_
    unfold b_Law_law_1664
    have sB : hB h3 = hB h := F2.2.2.1.trans F1.2.2.1
    have sN : hN h3 = hN h := F2.1.trans F1.1
    refine nxt h3 ⟨D, V, K, c, Im, j, T, tl, fa, tr, wh, R1.fr W.1.1 F2 (fun a k e => Or.inr (nm e).1), M1.fr F2 (fun a k e => Or.inl e), ⟨?_, fun z => ?_, tB.2.2⟩, ⟨by rw [y1, q15]; exact tM.1, by rw [y2, q15]; exact tM.2⟩, W.up hnc, bt, s4, F2.nos (F1.nos ns), by rw [sN]; exact hn, by rw [sB]; omega, by rw [sB]; omega⟩
    · rw [(F2.2.2.2 x 15 (fun e => by have := nm e; omega)).1, q15]; exact tB.1
    · rw [(F2.2.2.2 (x + 2) 5 (fun e => by have := nm e; omega)).1, q15]; exact tB.2.1 z
  · refine ok_bde e (ok_gd hv1 (ok_lt ?_))
    rw [← hv]
    have mo : Mo h (uX h) := fun a s e => e
    have ag : ∀ n, Ag n h (uX h) := fun n a _ => ⟨rfl, rfl, rfl⟩
    have M1 : RM (uX h) (x + 88) D V K c Im j T tl fa := M.al mo (ag _) (by omega) (by show hN h ≤ hN h + 1; omega)
    have R1 : RB (uX h) x D V K c Im j T tl fa := R.al W.1.1 mo (ag (x + 88)) (Nat.le_refl _)
    have ns1 : NoS (uX h) := fun a ha => ns a (by have : hN h + 1 ≤ a := ha; omega)
    have n1 : hN (uX h) = hN h + 1 := rfl
    have c1 : (hB (uX h)).1 = (hB h).1 - 1 := rfl
    have c2 : (hB (uX h)).2 = (hB h).2 - 6 := rfl
    have so1 : hS (uX h) (x + 102) = some (.inr (1, 1)) := so
    have q15 : hI (uX h) = hI h := rfl
    generalize uX h = h2 at *
    refine ok_gd M1.1.1 (ok_bd (ok_mono ((nm_led W M1 v).2 hno) ?_))
    intro r h3 hx
    obtain ⟨rfl, F2, y0, y1, y2⟩ := hx
    have s3 : hS h3 (x + 88) = some (.inl 11) := by rw [F2.2.1]; exact M1.1.1
    refine ok_gd s3 (ok_bde (th h3 s3) ?_)
    rw [y0]
    refine ok_t rfl (ok_f (by decide) ?_)
    unfold b_Law_law_1664
    have sB := F2.2.2.1
    have sN := F2.1
    refine nxt h3 ⟨D, V, K, c, Im, j, T, tl, fa, tr, wh, R1.fr W.1.1 F2 (fun a k e => Or.inr (nm e).1), M1.fr F2 (fun a k e => Or.inl e), ⟨?_, fun z => ?_, tB.2.2⟩, ⟨by rw [y1, q15]; exact tM.1, by rw [y2, q15]; exact tM.2⟩, W.up hnc, bt, by rw [F2.2.1]; exact so1, F2.nos ns1, by rw [sN, n1]; omega, by rw [sB, c1]; omega, by rw [sB, c2]; omega⟩
    · rw [(F2.2.2.2 x 15 (fun e => by have := nm e; omega)).1, q15]; exact tB.1
    · rw [(F2.2.2.2 (x + 2) 5 (fun e => by have := nm e; omega)).1, q15]; exact tB.2.1 z
theorem lw_likely {k : (Nat × Nat × Nat × Int32) → Hp → Option (Int32 × Hp)} {L i : Nat} {xs : Nat → Int32} (I : LI x h i D V K c Im j T tl fa tr wh) (hnc : i < 512) (hv1 : vp_in (nI (6 * i) + 1) L) (hv2 : vp_in (nI (6 * i) + 2) L) (hv3 : vp_in (nI (6 * i) + 3) L) (hv4 : vp_in (nI (6 * i) + 4) L) (b : Int32) (hb : b = if xs (nI (6 * i) + 4).toNatClampNeg = 0 then 0 else 1) (nxt : ∀ h2, LX x h2 (i + 1) → Ok (b_Law_law_1705 L xs k x (x + 88) (x + 102) (nI (6 * i)) h2) (fun r _ => r = 1)) : Ok (b_Law_law_1226 L xs k x (x + 88) (x + 102) (nI (6 * i)) b (xs (nI (6 * i) + 3).toNatClampNeg) (xs (nI (6 * i) + 2).toNatClampNeg) (xs (nI (6 * i) + 1).toNatClampNeg) x h) (fun r _ => r = 1) := by
  obtain ⟨R, M, tB, tM, W, bt, so, ns, hn, b1, b2⟩ := id I
  have x1 : hS h x = some (.inl 0) := by
    obtain ⟨o, o', ho, L', -⟩ := R
    exact L'.1.1
  unfold b_Law_law_1226
  refine ok_gd x1 ?_
  refine lw_a I hnc (a_likely W hnc R _ _ _ _) (fun r h' s' g => ?_)
  refine ok_gd hv1 (ok_lt (ok_gd hv2 (ok_lt (ok_gd hv3 (ok_lt (ok_gd hv4 (ok_lt (?_))))))))
  rw [hb] at g
  refine ok_ite (fun q => ?_) (fun q => ?_)
  · rw [if_pos q] at g
    unfold b_Law_law_1262
    exact ok_gd s' (g _ (fun h2 J => ok_t ((lg_cmp_eq _ _).mpr rfl) (nxt h2 J)))
  · rw [if_neg q] at g
    unfold b_Law_law_1262
    exact ok_gd s' (g _ (fun h2 J => ok_t ((lg_cmp_eq _ _).mpr rfl) (nxt h2 J)))
theorem lw_jerkMean {k : (Nat × Nat × Nat × Int32) → Hp → Option (Int32 × Hp)} {L i : Nat} {xs : Nat → Int32} (I : LI x h i D V K c Im j T tl fa tr wh) (hnc : i < 512) (hv1 : vp_in (nI (6 * i) + 1) L) (hv2 : vp_in (nI (6 * i) + 2) L) (hv3 : vp_in (nI (6 * i) + 3) L) (hv4 : vp_in (nI (6 * i) + 4) L) (b : Int32) (hb : b = if xs (nI (6 * i) + 3).toNatClampNeg = 0 then 0 else 1) (nxt : ∀ h2, LX x h2 (i + 1) → Ok (b_Law_law_1705 L xs k x (x + 88) (x + 102) (nI (6 * i)) h2) (fun r _ => r = 1)) : Ok (b_Law_law_1298 L xs k x (x + 88) (x + 102) (nI (6 * i)) b (xs (nI (6 * i) + 2).toNatClampNeg) (xs (nI (6 * i) + 1).toNatClampNeg) x h) (fun r _ => r = 1) := by
  obtain ⟨R, M, tB, tM, W, bt, so, ns, hn, b1, b2⟩ := id I
  have x1 : hS h x = some (.inl 0) := by
    obtain ⟨o, o', ho, L', -⟩ := R
    exact L'.1.1
  unfold b_Law_law_1298
  refine ok_gd x1 ?_
  refine lw_a I hnc (a_jerkMean W hnc R _ _ _) (fun r h' s' g => ?_)
  refine ok_gd hv1 (ok_lt (ok_gd hv2 (ok_lt (ok_gd hv3 (ok_lt (?_))))))
  rw [hb] at g
  refine ok_ite (fun q => ?_) (fun q => ?_)
  · rw [if_pos q] at g
    unfold b_Law_law_1328
    exact ok_gd s' (g _ (fun h2 J => ok_t ((lg_cmp_eq _ _).mpr rfl) (nxt h2 J)))
  · rw [if_neg q] at g
    unfold b_Law_law_1328
    exact ok_gd s' (g _ (fun h2 J => ok_t ((lg_cmp_eq _ _).mpr rfl) (nxt h2 J)))
set_option maxHeartbeats 40000000 in
set_option maxRecDepth 4000 in
theorem law_step {k : (Nat × Nat × Nat × Int32) → Hp → Option (Int32 × Hp)} {L i : Nat} {xs : Nat → Int32} (hL : L ≤ 3072) (hi : 6 * i + 6 ≤ L) (I : LI x h i D V K c Im j T tl fa tr wh) (nxt : ∀ h2, LX x h2 (i + 1) → Ok (b_Law_law_1705 L xs k x (x + 88) (x + 102) (nI (6 * i)) h2) (fun r _ => r = 1)) : Ok (b_Law_law_23 L xs k x (x + 88) (x + 102) (nI (6 * i)) h) (fun r _ => r = 1) := by
  obtain ⟨R, M, tB, tM, W, bt, so, ns, hn, b1, b2⟩ := id I
  have hnc : i < 512 := by omega
  have x1 : hS h x = some (.inl 0) := by
    obtain ⟨o, o', ho, L', -⟩ := R
    exact L'.1.1
  have m1 := M.1.1
  have hv0 : vp_in (nI (6 * i)) L := vp_in_nI (by omega) (by omega)
  have hv1 : vp_in (nI (6 * i) + 1) L := by rw [show nI (6 * i) + 1 = nI (6 * i + 1) from nI_add _ 1]; exact vp_in_nI (by omega) (by omega)
  have hv2 : vp_in (nI (6 * i) + 2) L := by rw [show nI (6 * i) + 2 = nI (6 * i + 2) from nI_add _ 2]; exact vp_in_nI (by omega) (by omega)
  have hv3 : vp_in (nI (6 * i) + 3) L := by rw [show nI (6 * i) + 3 = nI (6 * i + 3) from nI_add _ 3]; exact vp_in_nI (by omega) (by omega)
  have hv4 : vp_in (nI (6 * i) + 4) L := by rw [show nI (6 * i) + 4 = nI (6 * i + 4) from nI_add _ 4]; exact vp_in_nI (by omega) (by omega)
  have hv5 : vp_in (nI (6 * i) + 5) L := by rw [show nI (6 * i) + 5 = nI (6 * i + 5) from nI_add _ 5]; exact vp_in_nI (by omega) (by omega)
  unfold b_Law_law_23
  refine ok_f ?_ (ok_gd hv0 (ok_lt ?_))
  · show ¬ (nI L - 6 < nI (6 * i))
    rw [show nI L - 6 = nI (L - 6) from pk_sub (b := 6) (by omega)]
    exact nI_nlt (by omega) (by omega)

  refine ok_ite (fun _ => ?_) (fun _ => ?_)
  · refine ok_gd hv1 (ok_lt (ok_gd hv2 (ok_lt (ok_gd hv3 (ok_lt (ok_gd hv4 (ok_lt (ok_gd hv5 (ok_lt (ok_gd x1 ?_))))))))))
    refine lw_f I hnc (a_feed bt W hnc R _ _ _ _ _) (fun r h' s' g => ?_)
    refine ok_gd hv1 (ok_lt (ok_gd hv2 (ok_lt (ok_gd hv3 (ok_lt (ok_gd hv4 (ok_lt (ok_gd hv5 (ok_lt (ok_gd s' ?_))))))))))
    exact g _ (fun h2 J => ok_t rfl (nxt h2 J))
  refine ok_ite (fun _ => ?_) (fun _ => ?_)
  · refine ok_gd hv1 (ok_lt (ok_gd x1 ?_))
    refine lw_o I hnc (fun r h' s' g => ?_)
    refine ok_gd hv1 (ok_lt (ok_gd s' ?_))
    exact g _ (fun h2 J => ok_t rfl (nxt h2 J))
  refine ok_ite (fun _ => ?_) (fun _ => ?_)
  · refine ok_gd x1 ?_
    refine ok_bde (n_fault R) ?_
    refine ok_gd m1 ?_
    exact ok_bde (nm_fault M) (ok_t rfl (nxt _ (I.th hnc)))
  refine ok_ite (fun _ => ?_) (fun _ => ?_)
  · refine ok_gd x1 ?_
    refine ok_bde (n_where R tB) ?_
    refine ok_gd m1 ?_
    exact ok_bde (nm_where M tM) (ok_t rfl (nxt _ (I.th hnc)))
  refine ok_ite (fun _ => ?_) (fun _ => ?_)
  · refine ok_gd hv1 (ok_lt (ok_gd hv2 (ok_lt (ok_gd x1 ?_))))
    refine lw_a I hnc (Pair.a W hnc R (q_wheel W R _ _)) (fun r h' s' g => ?_)
    refine ok_gd hv1 (ok_lt (ok_gd hv2 (ok_lt (ok_gd s' ?_))))
    exact g _ (fun h2 J => ok_t rfl (nxt h2 J))
  refine ok_ite (fun _ => ?_) (fun _ => ?_)
  · refine ok_gd hv1 (ok_lt (ok_gd hv2 (ok_lt (ok_gd x1 ?_))))
    refine lw_a I hnc (Pair.a W hnc R (q_isGone W R _ _)) (fun r h' s' g => ?_)
    refine ok_gd hv1 (ok_lt (ok_gd hv2 (ok_lt (ok_gd s' ?_))))
    exact g _ (fun h2 J => ok_t rfl (nxt h2 J))
  refine ok_ite (fun _ => ?_) (fun _ => ?_)
  · refine ok_gd hv1 (ok_lt (ok_gd x1 ?_))
    refine lw_a I hnc (Pair.a W hnc R (q_now W R _)) (fun r h' s' g => ?_)
    refine ok_gd hv1 (ok_lt (ok_gd s' ?_))
    exact g _ (fun h2 J => ok_t rfl (nxt h2 J))
  refine ok_ite (fun _ => ?_) (fun _ => ?_)
  · refine ok_gd hv1 (ok_lt (ok_gd hv2 (ok_lt (ok_gd x1 ?_))))
    refine lw_a I hnc (Pair.a W hnc R (q_work W R _ _)) (fun r h' s' g => ?_)
    refine ok_gd hv1 (ok_lt (ok_gd hv2 (ok_lt (ok_gd s' ?_))))
    exact g _ (fun h2 J => ok_t rfl (nxt h2 J))
  refine ok_ite (fun _ => ?_) (fun _ => ?_)
  · refine ok_gd hv1 (ok_lt (ok_gd hv2 (ok_lt (ok_gd x1 ?_))))
    refine lw_a I hnc (Pair.a W hnc R (q_toothIn W R _ _)) (fun r h' s' g => ?_)
    refine ok_gd hv1 (ok_lt (ok_gd hv2 (ok_lt (ok_gd s' ?_))))
    exact g _ (fun h2 J => ok_t rfl (nxt h2 J))
  refine ok_ite (fun _ => ?_) (fun _ => ?_)
  · refine ok_gd hv1 (ok_lt (ok_gd hv2 (ok_lt (ok_gd x1 ?_))))
    refine lw_a I hnc (Pair.a W hnc R (q_jerks W R _ _)) (fun r h' s' g => ?_)
    refine ok_gd hv1 (ok_lt (ok_gd hv2 (ok_lt (ok_gd s' ?_))))
    exact g _ (fun h2 J => ok_t rfl (nxt h2 J))
  refine ok_ite (fun _ => ?_) (fun _ => ?_)
  · refine ok_gd hv1 (ok_lt (ok_gd x1 ?_))
    refine lw_a I hnc (Pair.a W hnc R (q_comesRound W R _)) (fun r h' s' g => ?_)
    refine ok_gd hv1 (ok_lt (ok_gd s' ?_))
    exact g _ (fun h2 J => ok_t rfl (nxt h2 J))
  refine ok_ite (fun _ => ?_) (fun _ => ?_)
  · refine ok_gd hv1 (ok_lt (ok_gd x1 ?_))
    refine lw_a I hnc (Pair.a W hnc R (q_idle W R _)) (fun r h' s' g => ?_)
    refine ok_gd hv1 (ok_lt (ok_gd s' ?_))
    exact g _ (fun h2 J => ok_t rfl (nxt h2 J))
  refine ok_ite (fun _ => ?_) (fun _ => ?_)
  · refine ok_gd hv1 (ok_lt (ok_gd x1 ?_))
    refine lw_a I hnc (Pair.a W hnc R (q_next W R _)) (fun r h' s' g => ?_)
    refine ok_gd hv1 (ok_lt (ok_gd s' ?_))
    exact g _ (fun h2 J => ok_t rfl (nxt h2 J))
  refine ok_ite (fun _ => ?_) (fun _ => ?_)
  · refine ok_gd hv1 (ok_lt (ok_gd hv2 (ok_lt (ok_gd x1 ?_))))
    refine lw_a I hnc (Pair.a W hnc R (q_often W R _ _)) (fun r h' s' g => ?_)
    refine ok_gd hv1 (ok_lt (ok_gd hv2 (ok_lt (ok_gd s' ?_))))
    exact g _ (fun h2 J => ok_t rfl (nxt h2 J))
  refine ok_ite (fun _ => ?_) (fun _ => ?_)
  · refine ok_gd hv1 (ok_lt (ok_gd hv2 (ok_lt (ok_gd x1 ?_))))
    refine lw_a I hnc (Pair.a W hnc R (q_meet W R _ _)) (fun r h' s' g => ?_)
    refine ok_gd hv1 (ok_lt (ok_gd hv2 (ok_lt (ok_gd s' ?_))))
    exact g _ (fun h2 J => ok_t rfl (nxt h2 J))
  refine ok_ite (fun _ => ?_) (fun _ => ?_)
  · refine ok_gd x1 ?_
    refine lw_a I hnc (Pair.a W hnc R (q_soonest W R )) (fun r h' s' g => ?_)
    refine ok_gd s' ?_
    exact g _ (fun h2 J => ok_t rfl (nxt h2 J))
  refine ok_ite (fun _ => ?_) (fun _ => ?_)
  · refine ok_gd hv1 (ok_lt (ok_gd x1 ?_))
    refine lw_a I hnc (Pair.a W hnc R (q_longestGap W R _)) (fun r h' s' g => ?_)
    refine ok_gd hv1 (ok_lt (ok_gd s' ?_))
    exact g _ (fun h2 J => ok_t rfl (nxt h2 J))
  refine ok_ite (fun _ => ?_) (fun _ => ?_)
  · refine ok_gd hv1 (ok_lt (ok_gd hv2 (ok_lt (ok_gd hv3 (ok_lt (ok_gd x1 ?_))))))
    refine lw_a I hnc (Pair.a W hnc R (q_setFor W R _ _ _)) (fun r h' s' g => ?_)
    refine ok_gd hv1 (ok_lt (ok_gd hv2 (ok_lt (ok_gd hv3 (ok_lt (ok_gd s' ?_))))))
    exact g _ (fun h2 J => ok_t rfl (nxt h2 J))
  refine ok_ite (fun _ => ?_) (fun _ => ?_)
  · refine ok_gd hv1 (ok_lt (ok_gd hv2 (ok_lt (ok_gd x1 ?_))))
    refine lw_a I hnc (Pair.a W hnc R (q_byFor W R _ _)) (fun r h' s' g => ?_)
    refine ok_gd hv1 (ok_lt (ok_gd hv2 (ok_lt (ok_gd s' ?_))))
    exact g _ (fun h2 J => ok_t rfl (nxt h2 J))
  refine ok_ite (fun _ => ?_) (fun _ => ?_)
  · refine ok_gd hv1 (ok_lt (ok_gd hv2 (ok_lt (ok_gd x1 ?_))))
    refine lw_a I hnc (Pair.a W hnc R (q_byIn W R _ _)) (fun r h' s' g => ?_)
    refine ok_gd hv1 (ok_lt (ok_gd hv2 (ok_lt (ok_gd s' ?_))))
    exact g _ (fun h2 J => ok_t rfl (nxt h2 J))
  refine ok_ite (fun _ => ?_) (fun _ => ?_)
  · refine ok_gd hv1 (ok_lt (ok_gd hv2 (ok_lt (ok_gd x1 ?_))))
    refine lw_a I hnc (Pair.a W hnc R (q_settings W R _ _)) (fun r h' s' g => ?_)
    refine ok_gd hv1 (ok_lt (ok_gd hv2 (ok_lt (ok_gd s' ?_))))
    exact g _ (fun h2 J => ok_t rfl (nxt h2 J))
  refine ok_ite (fun _ => ?_) (fun _ => ?_)
  · refine ok_gd x1 ?_
    refine lw_a I hnc (Pair.a W hnc R (q_lineWorth W R )) (fun r h' s' g => ?_)
    refine ok_gd s' ?_
    exact g _ (fun h2 J => ok_t rfl (nxt h2 J))
  refine ok_ite (fun _ => ?_) (fun _ => ?_)
  · refine ok_gd hv1 (ok_lt (ok_gd x1 ?_))
    refine lw_a I hnc (Pair.a W hnc R (q_lineAt W R _)) (fun r h' s' g => ?_)
    refine ok_gd hv1 (ok_lt (ok_gd s' ?_))
    exact g _ (fun h2 J => ok_t rfl (nxt h2 J))
  refine ok_ite (fun _ => ?_) (fun _ => ?_)
  · refine ok_gd x1 ?_
    refine lw_a I hnc (Pair.a W hnc R (q_inTime W R )) (fun r h' s' g => ?_)
    refine ok_gd s' ?_
    exact g _ (fun h2 J => ok_t rfl (nxt h2 J))
  refine ok_ite (fun _ => ?_) (fun _ => ?_)
  · refine ok_gd hv1 (ok_lt (ok_gd x1 ?_))
    refine lw_a I hnc (Pair.a W hnc R (q_agree W R _)) (fun r h' s' g => ?_)
    refine ok_gd hv1 (ok_lt (ok_gd s' ?_))
    exact g _ (fun h2 J => ok_t rfl (nxt h2 J))
  refine ok_ite (fun _ => ?_) (fun _ => ?_)
  · refine ok_gd hv1 (ok_lt (ok_gd x1 ?_))
    refine lw_a I hnc (Pair.a W hnc R (q_drift W R _)) (fun r h' s' g => ?_)
    refine ok_gd hv1 (ok_lt (ok_gd s' ?_))
    exact g _ (fun h2 J => ok_t rfl (nxt h2 J))
  refine ok_ite (fun _ => ?_) (fun _ => ?_)
  · refine ok_gd x1 ?_
    refine lw_a I hnc (a_fits W hnc R ) (fun r h' s' g => ?_)
    refine ok_gd s' ?_
    exact g _ (fun h2 J => ok_t rfl (nxt h2 J))
  refine ok_ite (fun _ => ?_) (fun _ => ?_)
  · refine ok_gd hv1 (ok_lt (ok_gd x1 ?_))
    refine lw_a I hnc (a_fitAt W hnc R _) (fun r h' s' g => ?_)
    refine ok_gd hv1 (ok_lt (ok_gd s' ?_))
    exact g _ (fun h2 J => ok_t rfl (nxt h2 J))
  refine ok_ite (fun _ => ?_) (fun _ => ?_)
  · refine ok_gd x1 ?_
    refine lw_a I hnc (a_look W hnc R ) (fun r h' s' g => ?_)
    refine ok_gd s' ?_
    exact g _ (fun h2 J => ok_t rfl (nxt h2 J))
  refine ok_ite (fun _ => ?_) (fun _ => ?_)
  · refine ok_gd x1 ?_
    refine lw_a I hnc (a_lookLeaves W hnc R ) (fun r h' s' g => ?_)
    refine ok_gd s' ?_
    exact g _ (fun h2 J => ok_t rfl (nxt h2 J))
  refine ok_ite (fun _ => ?_) (fun _ => ?_)
  · refine ok_gd hv1 (ok_lt (ok_gd x1 ?_))
    refine lw_a I hnc (a_judge W hnc R _) (fun r h' s' g => ?_)
    refine ok_gd hv1 (ok_lt (ok_gd s' ?_))
    exact g _ (fun h2 J => ok_t rfl (nxt h2 J))
  refine ok_ite (fun _ => ?_) (fun _ => ?_)
  · refine ok_gd hv1 (ok_lt (ok_gd hv2 (ok_lt (ok_gd x1 ?_))))
    refine lw_a I hnc (Pair.a W hnc R (q_value W R _ _)) (fun r h' s' g => ?_)
    refine ok_gd hv1 (ok_lt (ok_gd hv2 (ok_lt (ok_gd s' ?_))))
    exact g _ (fun h2 J => ok_t rfl (nxt h2 J))
  refine ok_ite (fun _ => ?_) (fun _ => ?_)
  · refine ok_gd hv1 (ok_lt (ok_gd hv2 (ok_lt (ok_gd x1 ?_))))
    refine lw_a I hnc (Pair.a W hnc R (q_moves W R _ _)) (fun r h' s' g => ?_)
    refine ok_gd hv1 (ok_lt (ok_gd hv2 (ok_lt (ok_gd s' ?_))))
    exact g _ (fun h2 J => ok_t rfl (nxt h2 J))
  refine ok_ite (fun _ => ?_) (fun _ => ?_)
  · refine ok_gd hv1 (ok_lt (ok_gd hv2 (ok_lt (ok_gd hv3 (ok_lt (ok_gd hv4 (ok_lt (?_))))))))
    exact ok_ite (fun q => lw_likely I hnc hv1 hv2 hv3 hv4 0 (if_pos q).symm nxt) (fun q => lw_likely I hnc hv1 hv2 hv3 hv4 1 (if_neg q).symm nxt)
  refine ok_ite (fun _ => ?_) (fun _ => ?_)
  · refine ok_gd hv1 (ok_lt (ok_gd hv2 (ok_lt (ok_gd hv3 (ok_lt (?_))))))
    exact ok_ite (fun q => lw_jerkMean I hnc hv1 hv2 hv3 hv4 0 (if_pos q).symm nxt) (fun q => lw_jerkMean I hnc hv1 hv2 hv3 hv4 1 (if_neg q).symm nxt)
  refine ok_ite (fun _ => ?_) (fun _ => ?_)
  · refine ok_gd hv1 (ok_lt (ok_gd hv2 (ok_lt (ok_gd hv3 (ok_lt (ok_gd x1 ?_))))))
    refine lw_a I hnc (Pair.a W hnc R (q_years W R _ _ _)) (fun r h' s' g => ?_)
    refine ok_gd hv1 (ok_lt (ok_gd hv2 (ok_lt (ok_gd hv3 (ok_lt (ok_gd s' ?_))))))
    exact g _ (fun h2 J => ok_t rfl (nxt h2 J))
  refine ok_ite (fun _ => ?_) (fun _ => ?_)
  · refine ok_gd hv1 (ok_lt (ok_gd hv2 (ok_lt (ok_gd hv3 (ok_lt (ok_gd x1 ?_))))))
    refine lw_a I hnc (Pair.a W hnc R (q_yearFeasts W R _ _ _)) (fun r h' s' g => ?_)
    refine ok_gd hv1 (ok_lt (ok_gd hv2 (ok_lt (ok_gd hv3 (ok_lt (ok_gd s' ?_))))))
    exact g _ (fun h2 J => ok_t rfl (nxt h2 J))
  refine ok_ite (fun _ => ?_) (fun _ => ?_)
  · refine ok_gd hv1 (ok_lt (ok_gd hv2 (ok_lt (ok_gd x1 ?_))))
    refine lw_a I hnc (Pair.a W hnc R (q_slips W R _ _)) (fun r h' s' g => ?_)
    refine ok_gd hv1 (ok_lt (ok_gd hv2 (ok_lt (ok_gd s' ?_))))
    exact g _ (fun h2 J => ok_t rfl (nxt h2 J))
  refine ok_ite (fun _ => ?_) (fun _ => ?_)
  · refine ok_gd x1 ?_
    refine lw_a I hnc (a_turn W hnc R ) (fun r h' s' g => ?_)
    refine ok_gd s' ?_
    exact g _ (fun h2 J => ok_t rfl (nxt h2 J))
  refine ok_ite (fun _ => ?_) (fun _ => ?_)
  · refine ok_gd x1 ?_
    refine lw_a I hnc (a_turnBack W hnc R ) (fun r h' s' g => ?_)
    refine ok_gd s' ?_
    exact g _ (fun h2 J => ok_t rfl (nxt h2 J))
  refine ok_ite (fun _ => ?_) (fun _ => ?_)
  · refine ok_gd hv1 (ok_lt (ok_gd x1 ?_))
    refine lw_a I hnc (a_oil W hnc R _) (fun r h' s' g => ?_)
    refine ok_gd hv1 (ok_lt (ok_gd s' ?_))
    exact g _ (fun h2 J => ok_t rfl (nxt h2 J))
  refine ok_ite (fun _ => ?_) (fun _ => ?_)
  · refine ok_gd hv1 (ok_lt (ok_gd hv2 (ok_lt (ok_gd x1 ?_))))
    refine lw_a I hnc (a_set W hnc R _ _) (fun r h' s' g => ?_)
    refine ok_gd hv1 (ok_lt (ok_gd hv2 (ok_lt (ok_gd s' ?_))))
    exact g _ (fun h2 J => ok_t rfl (nxt h2 J))
  refine ok_ite (fun _ => ?_) (fun _ => ?_)
  · refine ok_gd x1 ?_
    refine lw_a I hnc (a_undo W hnc R ) (fun r h' s' g => ?_)
    refine ok_gd s' ?_
    exact g _ (fun h2 J => ok_t rfl (nxt h2 J))
  refine ok_ite (fun _ => ?_) (fun _ => ?_)
  · refine ok_gd x1 ?_
    refine lw_a I hnc (a_image W hnc R ) (fun r h' s' g => ?_)
    refine ok_gd s' ?_
    exact g _ (fun h2 J => ok_t rfl (nxt h2 J))
  refine ok_ite (fun _ => ?_) (fun _ => ?_)
  · refine ok_gd hv1 (ok_lt (ok_gd x1 ?_))
    refine lw_a I hnc (a_back W hnc R _) (fun r h' s' g => ?_)
    refine ok_gd hv1 (ok_lt (ok_gd s' ?_))
    exact g _ (fun h2 J => ok_t rfl (nxt h2 J))
  refine ok_ite (fun _ => ?_) (fun _ => ?_)
  · refine ok_gd hv1 (ok_lt (?_))
    exact lw_d I hnc (fun h2 J => nxt h2 J) hv1 rfl
  refine ok_ite (fun _ => ?_) (fun _ => ?_)
  · refine ok_gd hv1 (ok_lt (ok_gd x1 ?_))
    refine ok_bde (n_size W R _) ?_
    refine ok_gd hv1 (ok_lt (ok_gd m1 ?_))
    exact ok_bde (nm_size W M _) (ok_t rfl (nxt _ (I.th hnc)))
  refine ok_ite (fun _ => ?_) (fun _ => ?_)
  · refine ok_gd x1 ?_
    refine ok_bde (n_trouble R tB) ?_
    refine ok_gd m1 ?_
    exact ok_bde (nm_trouble M tM) (ok_t rfl (nxt _ (I.th hnc)))
  exact nxt h (I.up hnc)
end LW
