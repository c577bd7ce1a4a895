section HS
variable {h : Hp} {c o r w : Nat} {D : DD} {V : Nat → Nat}
theorem HC.s {n : Nat} (H : HC h c D V w n) (hc : hS h c = some (.inl 10)) (hc1 : hS h (c + 1) = some (.inr (1, 60))) (hc2 : hS h (c + 2) = some (.inr (1, 60))) : LayH h c := by
  obtain ⟨a, b, hab, ha, hb, -⟩ := H
  refine ⟨hc, hc1, hc2, ?_⟩
  rcases hab with ⟨rfl, rfl⟩ | ⟨rfl, rfl⟩
  · exact Or.inl ⟨ha, hb⟩
  · exact Or.inr ⟨ha, hb⟩
theorem ok_H_spread (W : Wf D) (L : LayH h c) (rO : RepO h o D) (rV : RepV h r V) (hv : WfV D V) (hw : w < dW D) (hoc : o + 15 ≤ c) (hrc : r < c) {n : Nat} (hn : n ≤ 6) : Ok (f_H_spread c o r (nI w) (nI n) h) (fun _ h' => Fr (fun a _ => sH c a) h h' ∧ HC h' c D V w n) := by
  have w1 := W.1
  have hT := W.2.2.2.2.2.2.2.1 w hw
  have hV := hv.2.2.2 w hw
  have hv0 := hv.1
  have hv1 := hv.2.1
  obtain ⟨l1, l2, l3, l4⟩ := id L
  obtain ⟨a, b, hab, ha, hb⟩ : ∃ a b, ((a = c + 1 ∧ b = c + 2) ∨ (a = c + 2 ∧ b = c + 1)) ∧ hR h c 0 = some a ∧ hR h c 1 = some b := by
    rcases l4 with ⟨q1, q2⟩ | ⟨q1, q2⟩
    · exact ⟨_, _, Or.inl ⟨rfl, rfl⟩, q1, q2⟩
    · exact ⟨_, _, Or.inr ⟨rfl, rfl⟩, q1, q2⟩
  have sa : hS h a = some (.inr (1, 60)) := by rcases hab with ⟨q, -⟩ | ⟨q, -⟩ <;> rw [q] <;> assumption
  unfold f_H_spread
  refine ok_gd l1 (ok_bR ha (ok_bd (ok_mono (ok_fillJ sa (by decide)) ?_)))
  intro _ h2 hx
  obtain ⟨F2, b2⟩ := hx
  have hS2 := F2.2.1
  have hR2 := F2.2.2.2.1
  have v2 : RepV h2 r V := rV.fr F2.r (fun k => by omega)
  refine ok_gd (by rw [hS2]; exact l1) (ok_bR (by rw [hR2]; exact ha) ?_)
  rw [nI_i3]
  refine ok_gd (ai_of v2.1 (by omega) (by decide)) (ok_lt ?_)
  rw [nI_clamp (by omega), v2.2 (3 + w) (by omega)]
  refine ok_gd (ai_of (by rw [hS2]; exact sa) (by omega) (by decide)) (ok_lt ?_)
  rw [nI_clamp (by omega)]
  refine ok_gd (by show hS h2 c = _; rw [hS2]; exact l1) (ok_lt (ok_gd (by show hS h2 c = _; rw [hS2]; exact l1) (ok_lt ?_)))
  have F8 : Fr (fun a _ => sH c a) h (uL (uL (uL h2 a (V (3 + w)) 1) c 2 0) c 3 1) := (((F2.r.mono (fun x k q => by show sH c x; unfold sH; omega)).trans (fr_uL (by show sH c a; unfold sH; omega))).trans (fr_uL (Or.inl rfl))).trans (fr_uL (Or.inl rfl))
  have H8 : HC (uL (uL (uL h2 a (V (3 + w)) 1) c 2 0) c 3 1) c D V w 0 := by
    refine ⟨a, b, hab, by show hR h2 c 0 = _; rw [hR2]; exact ha, by show hR h2 c 1 = _; rw [hR2]; exact hb, fun t ht => ?_, ?_, ?_⟩
    · rw [hL_uLa (by omega), hL_uLa (by omega)]
      show _ = lN (0 + 1 * ind t (V (3 + w)))
      rw [Nat.zero_add, Nat.one_mul]
      unfold ind
      by_cases q : V (3 + w) = t
      · subst q
        rw [hL_uLs, if_pos rfl]
        rfl
      · rw [hL_uLk (fun e => q e.symm), if_neg q, b2 t ht, lN_0]
    · rw [hL_uLk (by decide), hL_uLs]
      exact lN_0.symm
    · rw [hL_uLs]
      rfl
  generalize uL (uL (uL h2 a (V (3 + w)) 1) c 2 0) c 3 1 = h8 at F8 H8
  have rO8 : RepO h8 o D := rO.fr F8 (fun i k hi => by unfold sH; omega) w1
  have lw := rO8.1.2.2.2.2.2.2.2 w (by omega)
  refine ok_gd rO8.1.1 (ok_bR rO8.1.2.1.1 (ok_gd (ai_of rO8.1.2.2.1 (by omega) (by decide)) ?_))
  rw [nI_clamp (by omega)]
  refine ok_bR lw.1 (ok_lt ?_)
  refine ok_up n (fun i st h' => st = (c, o, r, nI n, o + 10 + w, nI i) ∧ Fr (fun a _ => sH c a) h h' ∧ HC h' c D V w i) ?_ FU 0 _ _ (Nat.zero_le _) ⟨rfl, F8, H8⟩ (by show _ < 10000; omega)
  intro k i st h3 hi hI kk
  obtain ⟨rfl, F3, H3⟩ := hI
  show Ok (b_H_spread_40 k c o r (nI n) (o + 10 + w) (nI i) h3) _
  unfold b_H_spread_40
  refine ok_it hi (by omega) (fun q => ?_) (fun q => ?_)
  · subst q
    exact ok_ret ⟨F3, H3⟩
  · have rO3 : RepO h3 o D := rO.fr F3 (fun i k hi => by unfold sH; omega) w1
    have v3 : RepV h3 r V := rV.fr F3 (fun k => by unfold sH; omega)
    have rw3 := rO3.2.2.1 w hw
    have lw3 := rO3.1.2.2.2.2.2.2.2 w (by omega)
    have s3 : ∀ a, hS h3 a = hS h a := fun a => by rw [F3.2.1]
    refine ok_gd (ai_lit v3.1 (by decide) (by decide) (by decide)) (ok_lt (ok_gd (ai_lit v3.1 (by decide) (by decide) (by decide)) (ok_lt ?_)))
    rw [cl0, cl1, v3.2 0 (by decide), v3.2 1 (by decide)]
    have ego : f_W_goesOn (o + 10 + w) (nI (V 0) + nI i) (nI (V 1) - nI i) h3 = some (bI (gon (dK D w) (V 0 + i) (V 1 - i)), h3) := by
      rw [nI_add]
      by_cases q : i ≤ V 1
      · rw [pk_sub q]
        exact e_W_goesOn lw3.2 rw3.1 hT.1 (by omega) (by omega)
      · rw [show V 1 - i = 0 by omega]
        exact e_W_goesOnN lw3.2 rw3.1 hT.1 (by omega) (Int32.le_of_lt (pk_sneg (by omega) (by omega)))
    refine ok_gd lw3.2 (ok_bde ego (ok_gd rO3.1.1 (ok_lt ?_)))
    rw [rO3.2.1.2.1]
    refine ok_gd (by rw [s3]; exact l1) (ok_bd (ok_mono (ok_H_day W hV hw ⟨lw3.2, rw3.1, rw3.2.1, rw3.2.2.1, rw3.2.2.2.2.2⟩ (by rw [s3]; exact l1) (by rw [s3]; exact l2) (by rw [s3]; exact l3) (by unfold sH; omega) (by omega) H3) ?_))
    intro _ h4 hx
    exact kk _ _ q ⟨by rw [nI_1], F3.trans hx.1, hx.2⟩
/-- in lowest terms -/
def lowA (a z : Nat) (v : Int32) : Int64 := (if v = 0 then lN a else lN z) / lN (Nat.gcd a z)
theorem ok_H_lowest {a z : Nat} {v : Int32} (hc : hS h c = some (.inl 10)) (hz : hL h c 3 = lN z) (ha : a < 2 ^ 44) (z0 : 0 < z) (z1 : z < 2 ^ 44) : Ok (f_H_lowest c (lN a) v h) (fun r h' => r = lowA a z v ∧ h' = h) := by
  have hg0 : 0 < Nat.gcd a z := Nat.gcd_pos_of_pos_right _ z0
  have hg1 : Nat.gcd a z ≤ z := Nat.le_of_dvd z0 (Nat.gcd_dvd_right a z)
  have fin : ∀ s : Int64, Ok (b_H_lowest_22 (lN (Nat.gcd a z)) s h) (fun r h' => r = s / lN (Nat.gcd a z) ∧ h' = h) := by
    intro s
    unfold b_H_lowest_22
    refine ok_f (fun q => ?_) (ok_gd (fun q => ?_) (ok_ret ⟨rfl, rfl⟩))
    · have := (lg_cmp_le _ _).mp q
      rw [← lN_0] at this
      have := (pk_lLE (by omega) (by decide)).mp this
      omega
    · have := (lN_z (by omega)).mp q
      omega
  unfold f_H_lowest
  refine ok_gd hc (ok_lt ?_)
  rw [hz]
  refine ok_bde (e_H_commonDivisor ha z1) ?_
  by_cases q : v = 0
  · rw [show lowA a z v = lN a / lN (Nat.gcd a z) by unfold lowA; rw [if_pos q]]
    exact ok_t q (fin _)
  · rw [show lowA a z v = lN z / lN (Nat.gcd a z) by unfold lowA; rw [if_neg q]]
    refine ok_f q (ok_gd hc (ok_lt ?_))
    rw [hz]
    exact fin _
end HS
