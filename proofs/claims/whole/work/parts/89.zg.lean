/-! orrery at the reference -/
section OM
variable {h h' h1 : Hp} {x m c j tl nc n : Nat} {D : DD} {V : Nat → Nat} {K Im : Nat → Nat → Nat} {T : Nat → Int32} {fa : Int32}
/-- a call of the reference: what it leaves of the class's cells and of the room -/
def GF (m : Nat) (h h' : Hp) : Prop := hN h ≤ hN h' ∧ Mo h h' ∧ (∀ a, a < m ∨ a = m + 14 → hI h' a = hI h a ∧ hL h' a = hL h a ∧ hR h' a = hR h a) ∧ NoS h' ∧ (hB h).1 ≤ (hB h').1 + 20 ∧ (hB h).2 ≤ (hB h').2 + 400
theorem Fr.gf {S : Nat → Nat → Prop} (F : Fr S h h') (ns : NoS h) (hS' : ∀ a k, S a k → m ≤ a ∧ a ≤ m + 13) : GF m h h' := by
  refine ⟨by rw [F.1]; exact Nat.le_refl _, F.mo, fun a ha => ?_, F.nos ns, by rw [F.2.2.1]; omega, by rw [F.2.2.1]; omega⟩
  have g : ∀ k, ¬ S a k := fun k e => by have := hS' a k e; omega
  exact ⟨funext fun k => (F.2.2.2 a k (g k)).1, funext fun k => (F.2.2.2 a k (g k)).2.1, funext fun k => (F.2.2.2 a k (g k)).2.2⟩
theorem oM_no (M : RM h m D V K c Im j T tl fa) {v : Int32} (hv : v < 0 ∨ nI tl < v) : QM m h (f_m_orrery m v h) (-1) 2 := by
  refine qM_st M (fun h0 M F _ => ?_)
  obtain ⟨LM, z0, z3, rX, rR, u1, u2, g1⟩ := id M; obtain ⟨a0, ⟨a1, a2, a3, a4, a5, a6, a7, a8, a9, a10, a11, a12, a13⟩, s1, s2, s3, s4, s5, s6, s7, s8, s9, s10, s11, s12, s13⟩ := id LM
  unfold b_m_orrery_17
  refine ok_ite (fun _ => qM_ref F a0) (fun g => ok_gd a0 (ok_lt ?_))
  rw [u1]
  rcases hv with q | q
  · exact absurd q g
  · exact ok_f (Int32.not_le.mpr q) (qM_ref F a0)
/-- the reference has read the text -/
theorem oM_rd {α : Type} {f : Hp → Option (α × Hp)} {Q : α → Hp → Prop} (M : RM h m D V K c Im j T tl fa) (ht : tl ≤ 900) (hb : BT T n) (hn : n ≤ tl) (ns : NoS h) (hm : m + 15 ≤ hN h) (b1 : 20 ≤ (hB h).1) (b2 : 500 ≤ (hB h).2) (kk : ∀ h2, GF m h h2 → hN h2 = hN h + 18 → RM h2 m D V K c Im j T 0 (nI (orE T n)) → GK h2 m (hN h) (T, n) → GC h2 m (T, n) (lend (T, n) (lall (T, n))) → (orE T n = 0 → RdQ h2 (hN h) (orD T n) (lall (T, n)).2.1 ∧ WfR (orD T n) (lall (T, n)).2.1 (lall (T, n)).2.2.1 ∧ 0 < dW (orD T n)) → Ok (f h2) Q) : Ok (gd (hS h m = some (.inl 11)) (lt (uI h m 0 0) fun h1 => gd (hS h1 m = some (.inl 11)) (lt (uI h1 m 7 (nI n)) fun h3 => gd (hS h3 m = some (.inl 11)) (lt (uI h3 m 6 0) fun h4 => gd (hS h4 m = some (.inl 11)) (lt (uI h4 m 8 0) fun h5 => gd (hS h5 m = some (.inl 11)) (lt (uI h5 m 12 0) fun h6 => gd (1 ≤ (hB h6).1 ∧ 27 ≤ (hB h6).2) (lt (hN h6) fun a7 => lt (uN h6 (.inl 12) 27) fun h8 => bd (f_n_init a7 h8) fun _ h9 => gd (hS h9 m = some (.inl 11)) (lt (uR h9 m 4 (some a7)) fun h11 => gd (hS h11 m = some (.inl 11)) (lt (uI h11 m 9 0) fun h12 => gd (hS h12 m = some (.inl 11)) (bd (f_m_goesOn m h12) fun _ h13 => gd (hS h13 m = some (.inl 11)) (bd (f_m_readAll m h13) fun _ h15 => f h15))))))))))) Q := by
  have M' := M
  obtain ⟨LM, z0, z3, rX, rR, u1, u2, g1⟩ := id M; obtain ⟨a0, ⟨a1, a2, a3, a4, a5, a6, a7, a8, a9, a10, a11, a12, a13⟩, s1, s2, s3, s4, s5, s6, s7, s8, s9, s10, s11, s12, s13⟩ := id LM
  refine ok_gd a0 (ok_lt (ok_gd (by exact a0) (ok_lt (ok_gd (by exact a0) (ok_lt (ok_gd (by exact a0) (ok_lt (ok_gd (by exact a0) (ok_lt ?_)))))))))
  have F6 : Fr (fun a k => a = m ∧ (k = 0 ∨ k = 6 ∨ k = 7 ∨ k = 8 ∨ k = 12)) h (uI (uI (uI (uI (uI h m 0 0) m 7 (nI n)) m 6 0) m 8 0) m 12 0) := by
    refine Fr.trans (Fr.trans (Fr.trans (Fr.trans ?_ (fr_uI ?_)) (fr_uI ?_)) (fr_uI ?_)) (fr_uI ?_)
    · exact fr_uI ⟨rfl, by omega⟩
    all_goals exact ⟨rfl, by omega⟩
  have e7 : hI (uI (uI (uI (uI (uI h m 0 0) m 7 (nI n)) m 6 0) m 8 0) m 12 0) m 7 = nI n := by rw [hI_uIk (by decide), hI_uIk (by decide), hI_uIk (by decide), hI_uIs]
  have e6 : hI (uI (uI (uI (uI (uI h m 0 0) m 7 (nI n)) m 6 0) m 8 0) m 12 0) m 6 = nI 0 := by rw [hI_uIk (by decide), hI_uIk (by decide), hI_uIs]; rfl
  have e8 : hI (uI (uI (uI (uI (uI h m 0 0) m 7 (nI n)) m 6 0) m 8 0) m 12 0) m 8 = nI 0 := by rw [hI_uIk (by decide), hI_uIs]; rfl
  have e12 : hI (uI (uI (uI (uI (uI h m 0 0) m 7 (nI n)) m 6 0) m 8 0) m 12 0) m 12 = 0 := hI_uIs
  generalize uI (uI (uI (uI (uI h m 0 0) m 7 (nI n)) m 6 0) m 8 0) m 12 0 = h6 at *
  have hN6 : hN h6 = hN h := F6.1
  have hB6 : hB h6 = hB h := F6.2.2.1
  have ns6 := F6.nos ns
  -- what is so of the old cells, whatever is told
  have M6 : RM h6 m D V K c Im j T 0 0 := by
    refine ⟨LM.fr F6 (fun k hk => by unfold mRf at hk; omega), fun hz => ?_, fun hz => ?_, rX.fr F6 (fun k => by omega), rR.fr F6 (by omega) (by omega) (fun k => by omega) (fun k => by omega), e6, fun p hp => absurd hp (Nat.not_lt_zero _), e12⟩
    · rw [(F6.2.2.2 m 3 (by omega)).2.2]; exact z0 hz
    · obtain ⟨q, q1, q2, q3, q4⟩ := z3 hz
      exact ⟨q, by rw [(F6.2.2.2 m 3 (by omega)).2.2]; exact q1, q2, by rw [hN6]; exact q3, q4.fr F6 (fun i k hi => by omega)⟩
  have T6 : ∀ p, p < n → hI h6 (m + 1) p = T p := fun p hp => by rw [(F6.2.2.2 (m + 1) p (by omega)).1]; exact u2 p (by omega)
  refine ok_gd ⟨by rw [hB6]; omega, by rw [hB6]; omega⟩ (ok_lt (ok_lt ?_))
  have n8 : hN (uN h6 (.inl 12) 27) = hN h6 + 1 := rfl
  have s8 : hS (uN h6 (.inl 12) 27) (hN h6) = some (.inl 12) := if_pos rfl
  have i8 : ∀ k, hI (uN h6 (.inl 12) 27) (hN h6) k = 0 := fun k => if_pos rfl
  have mo8 : Mo h6 (uN h6 (.inl 12) 27) := fun a s e => by
    show (if a = hN h6 then some (.inl 12) else hS h6 a) = some s
    rw [if_neg (fun z => by rw [z, ns6 _ (Nat.le_refl _)] at e; cases e)]
    exact e
  have ag8 : Ag (hN h6) h6 (uN h6 (.inl 12) 27) := fun a ha => ⟨funext fun k => if_neg (by omega), funext fun k => if_neg (by omega), funext fun k => if_neg (by omega)⟩
  have ns8 : NoS (uN h6 (.inl 12) 27) := fun a ha => by
    have ha' : hN h6 + 1 ≤ a := ha
    show (if a = hN h6 then some (.inl 12) else hS h6 a) = none
    rw [if_neg (by omega)]
    exact ns6 a (by omega)
  have bb1 : (hB (uN h6 (.inl 12) 27)).1 = (hB h6).1 - 1 := rfl
  have bb2 : (hB (uN h6 (.inl 12) 27)).2 = (hB h6).2 - 27 := rfl
  generalize uN h6 (.inl 12) 27 = h8 at *
  refine ok_bd (ok_mono (ok_n_init n8 s8 i8 ns8 (by rw [bb1, hB6]; omega) (by rw [bb2, hB6]; omega)) ?_)
  intro _ h9 hx
  obtain ⟨n9, mo9, ag9, ns9, rQ9, nm9, c1, c2⟩ := hx
  have mo69 := mo8.trans mo9
  have ag69 : Ag (hN h6) h6 h9 := fun a ha => ⟨(ag9 a ha).1.trans (ag8 a ha).1, (ag9 a ha).2.1.trans (ag8 a ha).2.1, (ag9 a ha).2.2.trans (ag8 a ha).2.2⟩
  have M9 : RM h9 m D V K c Im j T 0 0 := M6.al mo69 ag69 (by omega) (by omega)
  have k9 := M9.1.1
  refine ok_gd k9 (ok_lt (ok_gd (by exact k9) (ok_lt ?_)))
  have F12 : Fr (fun a k => a = m ∧ (k = 4 ∨ k = 9)) h9 (uI (uR h9 m 4 (some (hN h6))) m 9 0) := (fr_uR ⟨rfl, by omega⟩).trans (fr_uI ⟨rfl, by omega⟩)
  have y4 : hR (uI (uR h9 m 4 (some (hN h6))) m 9 0) m 4 = some (hN h6) := by rw [hR_uI, hR_uRs]
  have y9 : hI (uI (uR h9 m 4 (some (hN h6))) m 9 0) m 9 = 0 := hI_uIs
  generalize uI (uR h9 m 4 (some (hN h6))) m 9 0 = h12 at *
  have i12 : ∀ k, 5 ≤ k → k ≠ 9 → hI h12 m k = hI h6 m k := fun k h5 hk => by rw [(F12.2.2.2 m k (by omega)).1, (ag69 m (by omega)).1]
  have rQ12 : RdQ h12 (hN h6) D0 false := rQ9.fr F12 (fun i k hi => by omega)
  have nm12 : NmM h12 (hN h6) N0 := nm9.fr F12 (by omega) (fun k => by omega) (fun k => by omega) (fun k => by omega)
  have K12 : GK h12 m (hN h6) (T, n) := by
    refine ⟨by rw [F12.2.1]; exact k9, y4, by rw [(F12.2.2.2 m 5 (by omega)).2.2]; exact M9.1.2.1.1, by rw [F12.2.1]; exact M9.1.2.2.1, by rw [i12 7 (by decide) (by decide)]; exact e7, by show n ≤ 900; omega, fun p hp => ?_, hb, rQ12.1, by omega⟩
    rw [(F12.2.2.2 (m + 1) p (by omega)).1, (ag69 (m + 1) (by omega)).1]
    exact T6 p hp
  refine ok_gd K12.1 (ok_bd (ok_mono (ok_m_goesOn (b := 0) K12 (Nat.zero_le _) (by rw [i12 8 (by decide) (by decide)]; exact e8) (by rw [y9]; decide)) ?_))
  intro _ h13 hx
  obtain ⟨F13, t13⟩ := hx
  have K13 := K12.sg F13
  have C13 : GL h13 m (hN h6) (T, n) D0 false N0 (0, rn isS (T, n) 0) := by
    refine ⟨K13, ⟨by show 0 < 8; decide, fun _ => ⟨t13, ?_⟩, fun z => absurd rfl z⟩, fun _ => ⟨nm12.fr F13 (by unfold SG; omega) (fun k => by unfold SG; omega) (fun k => by unfold SG; omega) (fun k => by unfold SG; omega), rQ12.fr F13 (fun i k hi => by unfold SG; omega)⟩⟩
    rw [(F13.2.2.2 m 12 (by unfold SG; omega)).1, i12 12 (by decide) (by decide)]
    exact e12
  refine ok_gd K13.1 (ok_bd (ok_mono (ok_m_all C13) ?_))
  intro _ h15 hx
  obtain ⟨F15, K15, G15, q15⟩ := hx
  have FR : Fr (fun a k => (a = m ∧ (k = 4 ∨ (8 ≤ k ∧ k ≤ 14))) ∨ hN h6 ≤ a) h9 h15 := ((F12.mono (fun a k e => by omega)).trans (F13.mono (fun a k e => by unfold SG at e; omega))).trans (F15.mono (fun a k e => by unfold SZ at e; omega))
  have h12e : hI h15 m 12 = nI (orE T n) := by
    by_cases z : orE T n = 0
    · rw [(G15.2.1 z).2, z]; rfl
    · exact (G15.2.2 z).2.1
  have M15 : RM h15 m D V K c Im j T 0 (nI (orE T n)) := by
    obtain ⟨L, r0, r3, rX9, rR9, t1, t2, f1⟩ := M9
    refine ⟨L.fr FR (fun k hk => by unfold mRf at hk; omega), fun hz => ?_, fun hz => ?_, rX9.fr FR (fun k => by omega), rR9.fr FR (by omega) (by omega) (fun k => by omega) (fun k => by omega), ?_, fun p hp => absurd hp (Nat.not_lt_zero _), h12e⟩
    · rw [(FR.2.2.2 m 3 (by omega)).2.2]; exact r0 hz
    · obtain ⟨q, q1, q2, q3, q4⟩ := M6.2.2.1 hz
      obtain ⟨q', q1', q2', q3', q4'⟩ := r3 hz
      have : q' = q := by
        rw [(ag69 m (by omega)).2.2, q1] at q1'
        exact (Option.some.inj q1').symm
      subst this
      exact ⟨q', by rw [(FR.2.2.2 m 3 (by omega)).2.2]; exact q1', q2, by rw [FR.1]; exact q3', q4'.fr FR (fun i k hi => by omega)⟩
    · rw [(FR.2.2.2 m 6 (by omega)).1]; exact t1
  rw [hN6] at K15 q15 FR n9
  refine kk h15 ⟨by rw [FR.1]; omega, F6.mo.trans (mo69.trans FR.mo), fun a ha => ?_, FR.nos ns9, ?_, ?_⟩ (by rw [FR.1, n9]) M15 K15 G15 q15
  · have g1 := ag69 a (by omega)
    refine ⟨funext fun k => ?_, funext fun k => ?_, funext fun k => ?_⟩
    · rw [(FR.2.2.2 a k (by omega)).1, g1.1, (F6.2.2.2 a k (by omega)).1]
    · rw [(FR.2.2.2 a k (by omega)).2.1, g1.2.1, (F6.2.2.2 a k (by omega)).2.1]
    · rw [(FR.2.2.2 a k (by omega)).2.2, g1.2.2, (F6.2.2.2 a k (by omega)).2.2]
  · rw [FR.2.2.1]
    rw [bb1, hB6] at c1
    omega
  · rw [FR.2.2.1]
    rw [bb2, hB6] at c2
    omega
theorem GF.fr {S : Nat → Nat → Prop} (G : GF m h h1) (F : Fr S h1 h') (hS' : ∀ a k, S a k → m ≤ a ∧ a ≠ m + 14) : GF m h h' := by
  obtain ⟨g1, g2, g3, g4, g5, g6⟩ := G
  refine ⟨by rw [F.1]; exact g1, g2.trans F.mo, fun a ha => ?_, F.nos g4, by rw [F.2.2.1]; exact g5, by rw [F.2.2.1]; exact g6⟩
  have n : ∀ k, ¬ S a k := fun k e => by have := hS' a k e; omega
  obtain ⟨b1, b2, b3⟩ := g3 a ha
  exact ⟨(funext fun k => (F.2.2.2 a k (n k)).1).trans b1, (funext fun k => (F.2.2.2 a k (n k)).2.1).trans b2, (funext fun k => (F.2.2.2 a k (n k)).2.2).trans b3⟩
theorem oM_er (M : RM h m D V K c Im j T tl fa) (ht : tl ≤ 900) (hb : BT T n) (hn : n ≤ tl) (ns : NoS h) (hm : m + 15 ≤ hN h) (b1 : 20 ≤ (hB h).1) (b2 : 500 ≤ (hB h).2) (he : orE T n ≠ 0) : Ok (f_m_orrery m (nI n) h) (fun r h' => r = -1 ∧ GF m h h' ∧ RM h' m D V K c Im j T 0 (nI (orE T n)) ∧ TrM h' m 4 (nI (orP T n))) := by
  unfold f_m_orrery
  have key := oM_rd (f := fun h15 => gd (hS h15 m = some (.inl 11)) (lt (hI h15 m 12) fun x17 => if x17 ≤ 0 then (gd (hS h15 m = some (.inl 11)) (bR (hR h15 m 4) fun x18 => gd (hS h15 m = some (.inl 11)) (lt (uR h15 m 3 (some x18)) fun h19 => lt (0 : Int32) fun y20 => l_m_orrery_99 FU (m, y20) h19))) else (gd (hS h15 m = some (.inl 11)) (lt (uI h15 m 1 4) fun h21 => gd (hS h21 m = some (.inl 11)) (lt (hI h21 m 13) fun x22 => gd (hS h21 m = some (.inl 11)) (lt (uI h21 m 2 x22) fun h23 => some ((-1), h23))))))) (Q := fun r h' => r = -1 ∧ GF m h h' ∧ RM h' m D V K c Im j T 0 (nI (orE T n)) ∧ TrM h' m 4 (nI (orP T n))) M ht hb hn ns hm b1 b2 (fun h2 G2 N2 M2 K2 C2 _ => ?_)
  · have a0 := M.1.1
    have u1 := M.2.2.2.2.2.1
    refine ok_gd a0 (ok_lt (ok_f (nI_pos (by omega)) (ok_gd (by exact a0) (ok_lt ?_))))
    rw [hI_uIk (by decide), u1]
    refine ok_t (nI_le hn (by omega)) ?_
    rw [gd_pos a0] at key
    exact key
  · have k2 := M2.1.1
    have l8 := C2.1
    change orE T n < 8 at l8
    refine ok_gd k2 (ok_lt ?_)
    rw [M2.2.2.2.2.2.2.2]
    refine ok_f (nI_nle (by omega) (by omega)) (ok_gd k2 (ok_lt (ok_gd (by exact k2) (ok_lt (ok_gd (by exact k2) (ok_lt (ok_ret ?_)))))))
    have FB : Fr (fun a k => a = m ∧ (k = 1 ∨ k = 2)) h2 (uI (uI h2 m 1 4) m 2 (hI (uI h2 m 1 4) m 13)) := (fr_uI ⟨rfl, Or.inl rfl⟩).trans (fr_uI ⟨rfl, Or.inr rfl⟩)
    refine ⟨rfl, G2.fr FB (fun a k e => by omega), M2.fr FB (fun a k e => Or.inl (by unfold ScM; omega)), ?_, ?_⟩
    · rw [hI_uIk (by decide), hI_uIs]
    · rw [hI_uIs, hI_uIk (by decide)]
      exact (C2.2.2 he).2.2
theorem oM_ok (M : RM h m D V K c Im j T tl fa) (ht : tl ≤ 900) (hb : BT T n) (hn : n ≤ tl) (ns : NoS h) (hm : m + 15 ≤ hN h) (b1 : 20 ≤ (hB h).1) (b2 : 500 ≤ (hB h).2) (he : orE T n = 0) : Ok (f_m_orrery m (nI n) h) (fun r h' => r = nI (dW (orD T n)) ∧ GF m h h' ∧ RM h' m (orD T n) (V0 (orD T n) V) K 0 Im 0 T 0 0 ∧ hI h' m 1 = 0 ∧ hI h' m 2 = -1) := by
  unfold f_m_orrery
  have key := oM_rd (f := fun h15 => gd (hS h15 m = some (.inl 11)) (lt (hI h15 m 12) fun x17 => if x17 ≤ 0 then (gd (hS h15 m = some (.inl 11)) (bR (hR h15 m 4) fun x18 => gd (hS h15 m = some (.inl 11)) (lt (uR h15 m 3 (some x18)) fun h19 => lt (0 : Int32) fun y20 => l_m_orrery_99 FU (m, y20) h19))) else (gd (hS h15 m = some (.inl 11)) (lt (uI h15 m 1 4) fun h21 => gd (hS h21 m = some (.inl 11)) (lt (hI h21 m 13) fun x22 => gd (hS h21 m = some (.inl 11)) (lt (uI h21 m 2 x22) fun h23 => some ((-1), h23))))))) (Q := fun r h' => r = nI (dW (orD T n)) ∧ GF m h h' ∧ RM h' m (orD T n) (V0 (orD T n) V) K 0 Im 0 T 0 0 ∧ hI h' m 1 = 0 ∧ hI h' m 2 = -1) M ht hb hn ns hm b1 b2 (fun h2 G2 N2 M2 K2 C2 q2 => ?_)
  · have a0 := M.1.1
    have u1 := M.2.2.2.2.2.1
    refine ok_gd a0 (ok_lt (ok_f (nI_pos (by omega)) (ok_gd (by exact a0) (ok_lt ?_))))
    rw [hI_uIk (by decide), u1]
    refine ok_t (nI_le hn (by omega)) ?_
    rw [gd_pos a0] at key
    exact key
  · obtain ⟨rQ, wR, hW⟩ := q2 he
    have hbr : (lall (T, n)).2.1 = true := by
      cases y : (lall (T, n)).2.1 with
      | true => rfl
      | false =>
        have := (wR.2.2.2.2.2.2 y).1
        omega
    rw [hbr] at rQ
    have W5 := nB wR
    have W4 := wR.1.1.2.1
    have rp := rQ.rep W5 W4
    have k2 := M2.1.1
    refine ok_gd k2 (ok_lt ?_)
    rw [M2.2.2.2.2.2.2.2, he]
    refine ok_t (by decide) (ok_gd k2 (ok_bR K2.2.1 (ok_gd k2 (ok_lt (ok_lt ?_)))))
    have F19 : Fr (fun a k => a = m ∧ k = 3) h2 (uR h2 m 3 (some (hN h))) := fr_uR ⟨rfl, rfl⟩
    have y3 : hR (uR h2 m 3 (some (hN h))) m 3 = some (hN h) := hR_uRs
    generalize uR h2 m 3 (some (hN h)) = h19 at *
    have L19 : LayM h19 m := M2.1.fr F19 (fun k hk => by unfold mRf at hk; omega)
    have rp19 : RepQ h19 (hN h) (orD T n) := rp.fr F19 (fun i k hi => by omega)
    have rX19 := M2.2.2.2.1.fr F19 (fun k => by omega)
    -- all to 0
    refine ok_up 8 (fun i st h' => st = (m, nI i) ∧ Fk (fun a _ => a = m + 2) h19 h' ∧ ∀ k, k < i → hI h' (m + 2) k = 0) ?_ FU 0 _ _ (Nat.zero_le _) ⟨rfl, Fk.rf, fun k hk => absurd hk (Nat.not_lt_zero _)⟩ (by show _ < 10000; omega)
    intro k i st h20 hi hI' kk
    obtain ⟨rfl, F20, z20⟩ := hI'
    have L20 := L19.fk F20
    show Ok (b_m_orrery_99 k m (nI i) h20) _
    unfold b_m_orrery_99
    refine ok_it (a := 8) hi (by decide) (fun e => ?_) (fun e => ?_)
    · subst e
      refine ok_lt ?_
      refine ok_up (dW (orD T n)) (fun i st h' => st = (m, nI i) ∧ Fk (fun a _ => a = m + 2) h19 h' ∧ (∀ k, k < i → hI h' (m + 2) k = nI (dA (orD T n) k)) ∧ ∀ k, 5 ≤ k → k < 8 → hI h' (m + 2) k = 0) ?_ FU 0 _ _ (Nat.zero_le _) ⟨rfl, F20, fun k hk => absurd hk (Nat.not_lt_zero _), fun k _ hk => z20 k hk⟩ (by show _ < 10000; omega)
      intro k i st h21 hi hI' kk
      obtain ⟨rfl, F21, z21, y21⟩ := hI'
      have L21 := L19.fk F21
      have rp21 : RepQ h21 (hN h) (orD T n) := rp19.fk F21 (fun i k hi e => by omega)
      have g3 : hR h21 m 3 = some (hN h) := by rw [F21.2.2.2.1]; exact y3
      have d3 : hR h21 (hN h) 13 = some (hN h + 4) := rp21.1.2.1 3 (by decide)
      have t3 : hS h21 (hN h + 4) = some (.inr (0, 5)) := rp21.1.2.2.1 3 (by decide)
      have m0 := L21.1
      have m15 := L21.2.1.2.1
      have s2 := L21.2.2.2.1
      show Ok (b_m_orrery_120 k m (nI i) h21) _
      unfold b_m_orrery_120
      refine ok_gd m0 (ok_bR g3 (ok_gd rp21.1.1 (ok_lt ?_)))
      rw [rp21.2.1.2.2.1]
      refine ok_it hi (by omega) (fun e => ?_) (fun e => ?_)
      · refine ok_gd m0 (ok_bR m15 (ok_gd m0 (ok_bR g3 (ok_gd rp21.1.1 (ok_lt (ok_gd (ai_of (n := 6) s2 (by decide) (by decide)) (ok_lt ?_)))))))
        rw [cl6, rp21.2.1.1]
        refine ok_gd (by exact m0) (ok_lt (ok_gd (by exact m0) (ok_lt (ok_gd (by exact m0) (ok_bR (by exact g3) (ok_gd (by exact rp21.1.1) (ok_lt (ok_gd (by exact m0) ?_))))))))
        rw [hI_uIa (by omega), hI_uIa (by omega), hI_uIa (by omega), rp21.2.1.2.2.1]
        refine ok_bde (e_m_good (by exact m0)) (ok_ret ?_)
        have FB : Fr (fun a k => a = m + 2 ∨ (a = m ∧ (k = 19 ∨ k = 20 ∨ k = 1 ∨ k = 2))) h21 (uI (uI (uI (uI (uI h21 (m + 2) 6 (nI (dOil (orD T n)))) m 19 0) m 20 0) m 1 0) m 2 (-1)) := by
          refine Fr.trans (Fr.trans (Fr.trans (Fr.trans ?_ (fr_uI ?_)) (fr_uI ?_)) (fr_uI ?_)) (fr_uI ?_)
          · exact fr_uI (Or.inl rfl)
          all_goals exact Or.inr ⟨rfl, by omega⟩
        have FC : Fr (fun a k => a = m + 2 ∨ (a = m ∧ (k = 19 ∨ k = 20 ∨ k = 1 ∨ k = 2))) h19 (uI (uI (uI (uI (uI h21 (m + 2) 6 (nI (dOil (orD T n)))) m 19 0) m 20 0) m 1 0) m 2 (-1)) := (F21.r.mono (fun a k e => Or.inl e)).trans FB
        have v6 : ∀ k, hI (uI (uI (uI (uI (uI h21 (m + 2) 6 (nI (dOil (orD T n)))) m 19 0) m 20 0) m 1 0) m 2 (-1)) (m + 2) k = if k = 6 then nI (dOil (orD T n)) else hI h21 (m + 2) k := fun k => by
          rw [hI_uIa (by omega), hI_uIa (by omega), hI_uIa (by omega), hI_uIa (by omega), hI_uI]
          by_cases z : k = 6
          · rw [if_pos ⟨rfl, z⟩, if_pos z]
          · rw [if_neg (fun g => z g.2), if_neg z]
        refine ⟨rfl, (G2.fr F19 (fun a k e => by omega)).fr FC (fun a k e => by omega), ⟨L19.fr FC (fun k hk => by unfold mRf at hk; omega), fun hz => by omega, fun _ => ⟨hN h, ?_, hm, ?_, rp19.fr FC (fun i k hi => by omega)⟩, ⟨by rw [FC.2.1]; exact L19.2.2.2.1, fun k hk => ?_⟩, ⟨by omega, by omega, ?_, ?_, fun i hi => absurd hi (Nat.not_lt_zero _), fun i hi => absurd hi (Nat.not_lt_zero _)⟩, ?_, fun p hp => absurd hp (Nat.not_lt_zero _), ?_⟩, ?_, hI_uIs⟩
        · rw [(FC.2.2.2 m 3 (by omega)).2.2]; exact y3
        · rw [FC.1, F19.1, N2]
          exact Nat.le_refl _
        · rw [v6]
          by_cases z5 : k < 5
          · by_cases zw : k < dW (orD T n)
            · rw [if_neg (by omega), z21 k (by omega), xv_t z5 ?_]
              · unfold V0
                rw [if_neg (by omega), if_neg (by omega), if_neg (by omega), if_pos (by omega), show 3 + k - 3 = k by omega]
              · unfold V0
                rw [if_neg (by omega), if_neg (by omega), if_neg (by omega), if_pos (by omega), show 3 + k - 3 = k by omega]
                have := wR.1.1.2.2.2.2.2.2.2.1 k zw
                omega
            · have hbig : 2 ^ 32 ≤ V0 (orD T n) V (3 + k) := by
                unfold V0
                rw [if_neg (by omega), if_neg (by omega), if_neg (by omega), if_neg (by omega)]
                omega
              unfold xv
              rw [if_pos (show k < 5 ∧ 2 ^ 32 ≤ V0 (orD T n) V (3 + k) from ⟨z5, hbig⟩)]
          · rcases (show k = 5 ∨ k = 6 ∨ k = 7 by omega) with z | z | z
            · subst z
              rw [if_neg (by decide), y21 5 (by decide) (by decide)]
              rfl
            · subst z
              rw [if_pos rfl]
              rfl
            · subst z
              rw [if_neg (by decide), y21 7 (by decide) (by decide)]
              rfl
        · rw [hI_uIk (by decide), hI_uIk (by decide), hI_uIk (by decide), hI_uIs]; rfl
        · rw [hI_uIk (by decide), hI_uIk (by decide), hI_uIs]; rfl
        · rw [(FC.2.2.2 m 6 (by omega)).1, (F19.2.2.2 m 6 (by omega)).1]
          exact M2.2.2.2.2.2.1
        · rw [(FC.2.2.2 m 12 (by omega)).1, (F19.2.2.2 m 12 (by omega)).1, M2.2.2.2.2.2.2.2, he]
          rfl
        · rw [hI_uIk (by decide), hI_uIs]
      · refine ok_gd m0 (ok_bR m15 (ok_gd m0 (ok_bR g3 (ok_gd rp21.1.1 (ok_bR d3 (ok_gd (ai_of t3 (by omega) (by decide)) (ok_lt ?_)))))))
        have g4 : hI h21 (hN h + 4) i = nI (dA (orD T n) i) := (rp21.2.2.1 i e).2.2.2.1
        rw [nI_clamp (by omega), g4]
        refine ok_gd (ai_of s2 (by omega) (by decide)) (ok_lt ?_)
        rw [nI_1]
        refine kk _ _ e ⟨rfl, F21.trans (fk_uI rfl), fun k hk => ?_, fun k h5 h8 => ?_⟩
        · by_cases z : k = i
          · rw [z, hI_uIs]
          · rw [hI_uIk z]
            exact z21 k (by omega)
        · rw [hI_uIk (by omega)]
          exact y21 k h5 h8
    · refine ok_gd L20.1 (ok_bR L20.2.1.2.1 (ok_gd (ai_of L20.2.2.2.1 e (by decide)) (ok_lt ?_)))
      rw [nI_clamp (by omega), nI_1]
      refine kk _ _ e ⟨rfl, F20.trans (fk_uI rfl), fun k hk => ?_⟩
      by_cases z : k = i
      · rw [z, hI_uIs]
      · rw [hI_uIk z]
        exact z20 k (by omega)
end OM
