/-! the class's reader: names, kinds -/
theorem isW_ne {X : TX} {k j a : Nat} (h : isW X k a = true) (hn : wk k ≠ wk j) : isW X j a = false := decide_eq_false (fun q => hn ((of_decide_eq_true h).2.symm.trans q.2))
def cD (X : TX) (c : CU) : CU := cCk (isW X 12 c.2 || isW X 13 c.2 || isW X 14 c.2 || isW X 15 c.2) 1 c
def kdn (X : TX) (a : Nat) : Nat := if isW X 13 a = true then 1 else if isW X 14 a = true then 2 else if isW X 15 a = true then 3 else 0
theorem kdn_le {X : TX} {a : Nat} : kdn X a ≤ 3 := by
  unfold kdn
  repeat' split
  all_goals omega
/-- what telling a name writes -/
def SN (x a k : Nat) : Prop := (a = x + 2 ∧ 4 ≤ k ∧ k ≤ 12) ∨ (x + 3 ≤ a ∧ a ≤ x + 5)
theorem SR_SN {x a k : Nat} (e : SR (x + 2) a k) : SN x a k := Or.inl ⟨e.1, e.2.1, by have := e.2.2; omega⟩
section CN
variable {α : Type} {h0 h : Hp} {x o : Nat} {X : TX} {c : CU} {N : NN} {Q : α → Hp → Prop}
theorem k_atn {f : Unit → Hp → Option (α × Hp)} {n : Nat} {v : Int32} (R : RS h0 h x o X c) (e : c.1 ≠ 0) (hn : v = nI n) (h1 : 0 < n) (h8 : n < 8) (kk : ∀ h1, RS h0 h1 x o X c → Ok (f () h1) Q) : Ok (gd (hS h (x + 2) = some (.inl 1)) (lt (hI h (x + 2) 6) fun x3 => gd (hS h (x + 2) = some (.inl 1)) (bd (f_R_fail (x + 2) v x3 h) f))) Q :=
  k_at R hn h1 h8 (fun h1 R1 => kk h1 (by rw [cF_n e] at R1; exact R1))
theorem nm53e (R : RS h0 h x o X c) (e : c.1 ≠ 0) (v2 : Int32) : Ok (b_R_readName_53 (x + 2) v2 h) (fun _ h' => RS h0 h' x o X c) := by
  unfold b_R_readName_53
  refine k_step R (fun h1 R1 _ => ?_)
  rw [cS_n e] at R1
  exact ok_gd R1.s (ok_lt (k_ft R1 (fun z => absurd z e) (fun _ => ok_ret R1)))
theorem nm24e {n : Nat} (R : RS h0 h x o X c) (e : c.1 ≠ 0) (hn : n ≤ 13) (h12 : hI h (x + 2) 12 = nI n) (v1 : Int32) : Ok (b_R_readName_24 (x + 2) v1 h) (fun _ h' => RS h0 h' x o X c) := by
  have hs := R.s
  unfold b_R_readName_24 b_R_readName_44
  refine ok_gd hs (ok_bd (ok_mono (ok_R_find R.2.1.1 hn h12) ?_))
  intro r h1 hx
  obtain ⟨rfl, hr⟩ := hx
  have go : ∀ v2, Ok (gd (hS h1 (x + 2) = some (.inl 1)) (lt (hI h1 (x + 2) 6) fun x1 => gd (hS h1 (x + 2) = some (.inl 1)) (bd (f_R_fail (x + 2) (2 : Int32) x1 h1) fun _ h2 => b_R_readName_53 (x + 2) v2 h2))) (fun _ h' => RS h0 h' x o X c) := fun v2 => k_atn R e rfl (by decide) (by decide) (fun h2 R2 => nm53e R2 e v2)
  refine ok_ite (fun _ => go _) (fun g => ?_)
  rcases hr with q | ⟨k, hk, rfl⟩
  · exact absurd q g
  · obtain ⟨k1, k2, k3, k4, k5, k6, k7⟩ := id R.2.1.1
    (try unfold QB); (try unfold QM); repeat (first | (with_reducible refine ok_lt ?_) | ((with_reducible refine ok_gd ?_ ?_); first | assumption | exact zb0 | exact zb1 | ((with_reducible apply ai_of) <;> first | assumption | omega | decide) | exact ai_lit (by assumption) (by decide) (by decide) (by decide)) | (refine ok_bR (by assumption) ?_))
    exact ok_ite (fun _ => nm53e R e _) (fun _ => go _)
theorem k_name {f : Int32 → Hp → Option (α × Hp)} (s : Nat) {v : Int32} (R : RS h0 h x o X c) (P : NC h x N c) (hs3 : s < 3) (hv : v = nI s) (kk : ∀ r h1, RS h0 h1 x o X (cS X (cK X N s c)) → ((cK X N s c).1 = 0 → r = nI (kn N (tW X c.2)) ∧ hI h1 (x + 2) 11 = nI c.2) → Ok (f r h1) Q) : Ok (gd (hS h (x + 2) = some (.inl 1)) (bd (f_R_readName (x + 2) v h) f)) Q := by
  have hs := R.s
  obtain ⟨⟨n, hn, h12⟩, P2⟩ := id P
  obtain ⟨F, K, C1, C2, C3, a, t, ha⟩ := id R
  refine ok_gd hs (ok_bd ?_)
  have bb := tS_le (X := X) (a := a)
  have er15 : ∀ h1, RS h0 h1 x o X c → (c.1 = 0 → isNm X c.2 = false) → hI h1 (x + 2) 12 = nI n → Ok (b_R_readName_15 (x + 2) v h1) (fun r h => Ok (f r h) Q) := by
    intro h1 R1 hnm h12
    unfold b_R_readName_15
    refine k_at R1 rfl (by decide) (by decide) (fun h2 R2 => ?_)
    have e2 : (cF 1 c).1 ≠ 0 := cF_ne (by decide)
    have ee : cK X N s c = cF 1 c := by
      by_cases e : c.1 = 0
      · unfold cK
        rw [show cCk (isNm X c.2) 1 c = cF 1 c by unfold cCk; rw [hnm e]; rfl, cCk_n e2]
      · rw [cK_n e, cF_n e]
    have h12' : hI h2 (x + 2) 12 = nI n := by
      have : hI h2 (x + 2) 12 = hI h0 (x + 2) 12 := (R2.1.2.2.2 _ _ (by unfold SR; omega)).1
      rw [this, ← h12]
      exact ((R1.1.2.2.2 _ _ (by unfold SR; omega)).1).symm
    refine ok_mono (nm24e R2 e2 hn h12' v) (fun r h3 R3 => kk r h3 ?_ (fun z => absurd z (by rw [ee]; exact e2)))
    rw [ee, cS_n e2]
    exact R3
  unfold f_R_readName
  refine ok_gd hs (ok_lt ?_)
  rw [t.2.2.2.1]
  refine ok_ieq (b := 1) (by omega) (by decide) (fun g => ?_) (fun g => er15 h R (fun e => ?_) h12)
  · refine ok_gd hs (ok_bde (e_R_isLine hs t) (ok_ib (fun g2 => ?_) (fun g2 => er15 h R (fun e => ?_) h12)))
    · by_cases e : c.1 = 0
      · have hae := ha e
        subst hae
        have P3 := P2 e
        have nm : isNm X c.2 = true := by unfold isNm; rw [decide_eq_true g, g2]; rfl
        have ck : cCk (isNm X c.2) 1 c = c := if_pos nm
        have bad : isK N s (tW X c.2) = false → ∀ v2, Ok (b_R_readName_44 (x + 2) v2 h) (fun r h => Ok (f r h) Q) := by
          intro hk v2
          have ee : cK X N s c = cF 2 c := by unfold cK; rw [ck]; unfold cCk; rw [hk]; rfl
          have e2 : (cF 2 c).1 ≠ 0 := cF_ne (by decide)
          unfold b_R_readName_44
          refine k_at R rfl (by decide) (by decide) (fun h1 R1 => ok_mono (nm53e R1 e2 v2) (fun r h2 R2 => kk r h2 ?_ (fun z => absurd z (by rw [ee]; exact e2))))
          rw [ee, cS_n e2]
          exact R2
        unfold b_R_readName_24
        refine ok_gd hs (ok_bd (ok_mono (ok_R_findc K.1 P3 t g) ?_))
        intro r h1 hx
        obtain ⟨rfl, rfl⟩ := hx
        have fl := fdn_le (N := N) (w := tW X c.2)
        have N13 := P3.2.1
        by_cases hf : fdn N (tW X c.2) 0 < N.1
        · rw [if_pos hf]
          refine ok_f (nI_nm1 (by omega)) ?_
          obtain ⟨k1, k2, k3, k4, k5, k6, k7⟩ := id K.1
          obtain ⟨q1, q2, q3, q4, q5⟩ := P3.2.2 _ hf
          (try unfold QB); (try unfold QM); repeat (first | (with_reducible refine ok_lt ?_) | ((with_reducible refine ok_gd ?_ ?_); first | assumption | exact zb0 | exact zb1 | ((with_reducible apply ai_of) <;> first | assumption | omega | decide) | exact ai_lit (by assumption) (by decide) (by decide) (by decide)) | (refine ok_bR (by assumption) ?_))
          rw [nI_clamp (by omega), show hI h1 (x + 2 + 2) (fdn N (tW X c.2) 0) = _ from q3, hv]
          refine ok_ieq (by omega) (by omega) (fun g3 => ?_) (fun g3 => bad (decide_eq_false (fun q => g3 q.2)) _)
          have hk : isK N s (tW X c.2) = true := decide_eq_true ⟨hf, g3⟩
          have ee : cK X N s c = c := by unfold cK; rw [ck]; exact if_pos hk
          rw [ee] at kk
          unfold b_R_readName_53
          refine k_step R (fun h2 R2 e11 => ?_)
          obtain ⟨k1, k2, k3, k4, k5, k6, k7⟩ := id R2.2.1.1
          refine ok_gd R2.s (ok_lt (k_ft R2 (fun z => ?_) (fun z => absurd (by rw [cS_0 e]) z)))
          (try unfold QB); (try unfold QM); repeat (first | (with_reducible refine ok_lt ?_) | ((with_reducible refine ok_gd ?_ ?_); first | assumption | exact zb0 | exact zb1 | ((with_reducible apply ai_of) <;> first | assumption | omega | decide) | exact ai_lit (by assumption) (by decide) (by decide) (by decide)) | (refine ok_bR (by assumption) ?_))
          have e5 : hI h2 (x + 2 + 3) (fdn N (tW X c.2) 0) = hI h1 (x + 5) (fdn N (tW X c.2) 0) := by
            have z1 := (R2.1.2.2.2 (x + 5) (fdn N (tW X c.2) 0) (by unfold SR; omega)).1
            have z2 := (F.2.2.2 (x + 5) (fdn N (tW X c.2) 0) (by unfold SR; omega)).1
            rw [z2, ← z1]
          rw [nI_clamp (by omega), e5, q5]
          exact ok_ret (kk _ _ R2 (fun _ => ⟨rfl, e11 e⟩))
        · rw [if_neg hf]
          exact ok_t rfl (bad (decide_eq_false (fun q => hf q.1)) _)
      · have ee := cK_n (X := X) (N := N) (s := s) e
        rw [ee, cS_n e] at kk
        exact ok_mono (nm24e R e hn h12 v) (fun r h3 R3 => kk r h3 R3 (fun z => absurd z e))
    · rw [← ha e]
      unfold isNm
      rw [g2]
      exact Bool.and_false _
  · rw [← ha e]
    unfold isNm
    rw [decide_eq_false g]
    exact Bool.false_and _
theorem k_tell {f : Unit → Hp → Option (α × Hp)} (s n : Nat) {v1 v2 : Int32} (R : RS h0 h x o X c) (P : NC h x N c) (hs3 : s < 3) (hN : c.1 = 0 → N.1 < 13) (hv1 : v1 = nI s) (hv2 : c.1 = 0 → v2 = nI n) (kk : ∀ h1, Fr (SN x) h h1 → RS h1 h1 x o X (cS X (cT X N c)) → NC h1 x (nadd N (tW X c.2) s n) (cT X N c) → Ok (f () h1) Q) : Ok (gd (hS h (x + 2) = some (.inl 1)) (bd (f_R_tellName (x + 2) v1 v2 h) f)) Q := by
  have hs := R.s
  obtain ⟨⟨n0, hn, h12⟩, P2⟩ := id P
  replace R := R.rb
  obtain ⟨F, K, C1, C2, C3, a, t, ha⟩ := id R
  refine ok_gd hs (ok_bd ?_)
  have bb := tS_le (X := X) (a := a)
  -- behind a fault
  have er41 : ∀ (c' : CU) h1, c'.1 ≠ 0 → RS h h1 x o X c' → cT X N c = c' → Ok (b_R_tellName_41 (x + 2) v1 v2 h1) (fun r h => Ok (f r h) Q) := by
    intro c' h1 e R1 ee
    unfold b_R_tellName_41 b_R_tellName_100
    refine ok_gd R1.s (ok_lt (k_ft R1 (fun z => absurd z e) (fun _ => ?_)))
    refine k_step R1 (fun h2 R2 _ => ok_ret (kk h2 (R2.1.mono (fun _ _ q => SR_SN q)) ?_ ?_))
    · rw [ee]
      exact R2.rb
    · rw [ee]
      exact ⟨⟨n0, hn, by rw [(R2.1.2.2.2 _ _ (by unfold SR; omega)).1]; exact h12⟩, fun z => absurd z e⟩
  have er24 : ∀ (c' : CU) h1, c'.1 ≠ 0 → RS h h1 x o X c' → cT X N c = c' → Ok (b_R_tellName_24 (x + 2) v1 v2 h1) (fun r h => Ok (f r h) Q) := by
    intro c' h1 e R1 ee
    have h12' : hI h1 (x + 2) 12 = nI n0 := by rw [(R1.1.2.2.2 _ _ (by unfold SR; omega)).1]; exact h12
    unfold b_R_tellName_24
    refine ok_gd R1.s (ok_bd (ok_mono (ok_R_find R1.2.1.1 hn h12') ?_))
    intro r h2 hx
    obtain ⟨rfl, -⟩ := hx
    exact ok_ite (fun _ => er41 c' h2 e R1 ee) (fun _ => k_atn R1 e rfl (by decide) (by decide) (fun h3 R3 => er41 c' h3 e R3 ee))
  have er15 : (c.1 = 0 → isNm X c.2 = false) → Ok (b_R_tellName_15 (x + 2) v1 v2 h) (fun r h => Ok (f r h) Q) := by
    intro hnm
    have e2 : (cF 1 c).1 ≠ 0 := cF_ne (by decide)
    have ee : cT X N c = cF 1 c := by
      by_cases e : c.1 = 0
      · unfold cT
        rw [show cCk (isNm X c.2) 1 c = cF 1 c by unfold cCk; rw [hnm e]; rfl, cCk_n e2]
      · rw [cT_n e, cF_n e]
    unfold b_R_tellName_15
    exact k_at R rfl (by decide) (by decide) (fun h2 R2 => er24 _ h2 e2 R2 ee)
  unfold f_R_tellName
  refine ok_gd hs (ok_lt ?_)
  rw [t.2.2.2.1]
  refine ok_ieq (b := 1) (by omega) (by decide) (fun g => ?_) (fun g => er15 (fun e => ?_))
  · refine ok_gd hs (ok_bde (e_R_isLine hs t) (ok_ib (fun g2 => ?_) (fun g2 => er15 (fun e => ?_))))
    · by_cases e : c.1 = 0
      · have hae := ha e
        subst hae
        have P3 := P2 e
        have nm : isNm X c.2 = true := by unfold isNm; rw [decide_eq_true g, g2]; rfl
        have ck : cCk (isNm X c.2) 1 c = c := if_pos nm
        unfold b_R_tellName_24
        refine ok_gd hs (ok_bd (ok_mono (ok_R_findc K.1 P3 t g) ?_))
        intro r h1 hx
        obtain ⟨rfl, rfl⟩ := hx
        have fl := fdn_le (N := N) (w := tW X c.2)
        have N13 := P3.2.1
        by_cases hf : fdn N (tW X c.2) 0 < N.1
        · rw [if_pos hf]
          have ee : cT X N c = cF 3 c := by unfold cT; rw [ck]; unfold cCk; rw [decide_eq_false (show ¬ _ by omega)]; rfl
          exact ok_f (nI_nm1 (by omega)) (k_at R rfl (by decide) (by decide) (fun h2 R2 => er41 _ h2 (cF_ne (by decide)) R2 ee))
        · rw [if_neg hf]
          refine ok_t rfl ?_
          have ee : cT X N c = c := by unfold cT; rw [ck]; exact if_pos (decide_eq_true (by omega))
          rw [ee] at kk
          have hN1 := hN e
          obtain ⟨p1, p2, p3⟩ := id P3
          obtain ⟨k1, k2, k3, k4, k5, k6, k7⟩ := id K.1
          unfold b_R_tellName_41
          refine ok_gd hs (ok_lt (k_ft R (fun _ => ?_) (fun z => absurd e z)))
          (try unfold QB); (try unfold QM); repeat (first | (with_reducible refine ok_lt ?_) | ((with_reducible refine ok_gd ?_ ?_); first | assumption | exact zb0 | exact zb1 | ((with_reducible apply ai_of) <;> first | assumption | omega | decide) | exact ai_lit (by assumption) (by decide) (by decide) (by decide)) | (refine ok_bR (by assumption) ?_))
          rw [p1]
          refine ok_ile (a := 13) (by decide) (by omega) (fun z => absurd z (by omega)) (fun _ => ?_)
          (try unfold QB); (try unfold QM); repeat (first | (with_reducible refine ok_lt ?_) | ((with_reducible refine ok_gd ?_ ?_); first | assumption | exact zb0 | exact zb1 | ((with_reducible apply ai_of) <;> first | assumption | omega | decide) | exact ai_lit (by assumption) (by decide) (by decide) (by decide)) | (refine ok_bR (by assumption) ?_))
          rw [t.2.2.2.2.2 g, nI_clamp (by omega)]
          have w1 : hI (uL h1 (x + 2 + 1) N.1 (lN (cv (tW X c.2)))) (x + 2) 12 = nI N.1 := p1
          rw [w1]
          (try unfold QB); (try unfold QM); repeat (first | (with_reducible refine ok_lt ?_) | ((with_reducible refine ok_gd ?_ ?_); first | assumption | exact zb0 | exact zb1 | ((with_reducible apply ai_of) <;> first | assumption | omega | decide) | exact ai_lit (by assumption) (by decide) (by decide) (by decide)) | (refine ok_bR (by assumption) ?_))
          rw [nI_clamp (by omega), hI_uIa (by omega), w1]
          (try unfold QB); (try unfold QM); repeat (first | (with_reducible refine ok_lt ?_) | ((with_reducible refine ok_gd ?_ ?_); first | assumption | exact zb0 | exact zb1 | ((with_reducible apply ai_of) <;> first | assumption | omega | decide) | exact ai_lit (by assumption) (by decide) (by decide) (by decide)) | (refine ok_bR (by assumption) ?_))
          rw [nI_clamp (by omega), hI_uIa (by omega), hI_uIa (by omega), w1, nI_1, hv1, hv2 e]
          have F3 : Fr (fun b k => (b = x + 2 ∧ k = 12) ∨ (x + 3 ≤ b ∧ b ≤ x + 5)) h1 (uI (uI (uI (uL h1 (x + 2 + 1) N.1 (lN (cv (tW X c.2)))) (x + 2 + 2) N.1 (nI s)) (x + 2 + 3) N.1 (nI n)) (x + 2) 12 (nI (N.1 + 1))) := (((fr_uL (Or.inr (by omega))).trans (fr_uI (Or.inr (by omega)))).trans (fr_uI (Or.inr (by omega)))).trans (fr_uI (Or.inl ⟨rfl, rfl⟩))
          have F2 := F3.mono (S' := SN x) (fun a k q => by unfold SN; omega)
          have Q1 : NmC (uI (uI (uI (uL h1 (x + 2 + 1) N.1 (lN (cv (tW X c.2)))) (x + 2 + 2) N.1 (nI s)) (x + 2 + 3) N.1 (nI n)) (x + 2) 12 (nI (N.1 + 1))) x (nadd N (tW X c.2) s n) := by
            refine ⟨hI_uIs, by show N.1 + 1 ≤ 13; omega, fun k hk => ?_⟩
            have hk' : k < N.1 + 1 := hk
            rw [hL_uI, hL_uI, hL_uI, hI_uIa (a := x + 2) (by omega), hI_uIa (a := x + 2) (by omega), hI_uIa (a := x + 2 + 3) (b := x + 4) (by omega)]
            rw [hI_uI (a := x + 2 + 3) (b := x + 5), hI_uI (a := x + 2 + 2) (b := x + 4), hI_uIa (a := x + 2 + 2) (b := x + 5) (by omega), hL_uL, hI_uL]
            dsimp only [nadd]
            by_cases z : k = N.1
            · refine ⟨?_, ?_, ?_, ?_, ?_⟩
              · rw [if_pos (c := x + 3 = x + 2 + 1 ∧ k = N.1) ⟨rfl, z⟩, if_pos z]
              · rw [if_pos z]; exact (tW_cv g).2
              · rw [if_pos (c := x + 4 = x + 2 + 2 ∧ k = N.1) ⟨rfl, z⟩, if_pos z]
              · rw [if_pos z]; exact hs3
              · rw [if_pos (c := x + 5 = x + 2 + 3 ∧ k = N.1) ⟨rfl, z⟩, if_pos z]
            · obtain ⟨q1, q2, q3, q4, q5⟩ := p3 k (by omega)
              refine ⟨?_, ?_, ?_, ?_, ?_⟩
              · rw [if_neg (c := x + 3 = x + 2 + 1 ∧ k = N.1) (fun q => z q.2), if_neg z]; exact q1
              · rw [if_neg z]; exact q2
              · rw [if_neg (c := x + 4 = x + 2 + 2 ∧ k = N.1) (fun q => z q.2), if_neg z]; exact q3
              · rw [if_neg z]; exact q4
              · rw [if_neg (c := x + 5 = x + 2 + 3 ∧ k = N.1) (fun q => z q.2), if_neg z]; exact q5
          have R2 : RS (uI (uI (uI (uL h1 (x + 2 + 1) N.1 (lN (cv (tW X c.2)))) (x + 2 + 2) N.1 (nI s)) (x + 2 + 3) N.1 (nI n)) (x + 2) 12 (nI (N.1 + 1))) (uI (uI (uI (uL h1 (x + 2 + 1) N.1 (lN (cv (tW X c.2)))) (x + 2 + 2) N.1 (nI s)) (x + 2 + 3) N.1 (nI n)) (x + 2) 12 (nI (N.1 + 1))) x o X c := by
            refine ⟨Fr.rf, K.fr F2 (fun a k q => by unfold SN at q; omega), ?_, C2, fun z => absurd e z, c.2, t.fr F3 (fun k q1 q2 => by omega), fun _ => rfl⟩
            rw [hI_uIk (by decide), hI_uIa (by omega), hI_uIa (by omega)]
            exact C1
          unfold b_R_tellName_100
          refine k_step R2 (fun h3 R3 _ => ok_ret (kk h3 (F2.trans (R3.1.mono (fun _ _ q => SR_SN q))) R3.rb ?_))
          exact NC.fr (c := c) ⟨⟨N.1 + 1, by omega, hI_uIs⟩, fun _ => Q1⟩ R3.1 (fun z => z) (by unfold SR; omega) (fun k => by unfold SR; omega) (fun k => by unfold SR; omega) (fun k => by unfold SR; omega)
      · exact er24 c h e R (cT_n e)
    · rw [← ha e]
      unfold isNm
      rw [g2]
      exact Bool.and_false _
  · rw [← ha e]
    unfold isNm
    rw [decide_eq_false g]
    exact Bool.false_and _
theorem k_kind {f : Int32 → Hp → Option (α × Hp)} (R : RS h0 h x o X c) (kk : ∀ r h1, RS h0 h1 x o X (cS X (cD X c)) → ((cD X c).1 = 0 → r = nI (kdn X c.2)) → Ok (f r h1) Q) : Ok (gd (hS h (x + 2) = some (.inl 1)) (bd (f_R_readKind (x + 2) h) f)) Q := by
  have hs := R.s
  obtain ⟨F, K, C1, C2, C3, a, t, ha⟩ := id R
  refine ok_gd hs (ok_bd ?_)
  unfold f_R_readKind b_R_readKind_66
  refine ok_lt (ok_gd hs (ok_bde (e_R_is (k := 13) hs t (by decide) (by decide)) ?_))
  have fin : ∀ v, (c.1 = 0 → (cD X c = c ∧ v = nI (kdn X c.2))) → Ok (gd (hS h (x + 2) = some (.inl 1)) (bd (f_R_step (x + 2) h) fun _ h1 => some (v, h1))) (fun r h => Ok (f r h) Q) := by
    intro v hv
    have ee : cD X c = c := by
      by_cases e : c.1 = 0
      · exact (hv e).1
      · exact cCk_n e
    rw [ee] at kk
    exact k_step R (fun h2 R2 _ => ok_ret (kk v h2 R2 (fun z => (hv z).2)))
  refine ok_ib (fun g1 => ?_) (fun g1 => ok_lt (fin _ (fun e => ?_)))
  · refine ok_gd hs (ok_bde (e_R_is (k := 14) hs t (by decide) (by decide)) (ok_ib (fun g2 => ?_) (fun g2 => ok_lt (fin _ (fun e => ?_)))))
    · refine ok_gd hs (ok_bde (e_R_is (k := 15) hs t (by decide) (by decide)) (ok_ib (fun g3 => ?_) (fun g3 => ok_lt (fin _ (fun e => ?_)))))
      · refine ok_gd hs (ok_bde (e_R_is (k := 12) hs t (by decide) (by decide)) (ok_ib (fun g4 => ?_) (fun g4 => fin _ (fun e => ?_))))
        · have ee : cD X c = cF 1 c := by
            by_cases e : c.1 = 0
            · rw [ha e] at g1 g2 g3 g4
              unfold cD cCk
              rw [g1, g2, g3, g4]
              rfl
            · rw [cF_n e]
              exact cCk_n e
          have e2 : (cF 1 c).1 ≠ 0 := cF_ne (by decide)
          refine k_at R rfl (by decide) (by decide) (fun h2 R2 => k_step R2 (fun h3 R3 _ => ok_ret (kk _ h3 ?_ (fun z => absurd z (by rw [ee]; exact e2)))))
          rw [ee]
          exact R3
        · rw [ha e] at g1 g2 g3 g4
          unfold cD cCk kdn
          rw [g1, g2, g3, g4]
          exact ⟨rfl, rfl⟩
      · rw [ha e] at g1 g2 g3
        unfold cD cCk kdn
        rw [g1, g2, g3, Bool.or_true]
        exact ⟨rfl, rfl⟩
    · rw [ha e] at g1 g2
      unfold cD cCk kdn
      rw [g1, g2, Bool.or_true, Bool.true_or]
      exact ⟨rfl, rfl⟩
  · rw [ha e] at g1
    unfold cD cCk kdn
    rw [g1, Bool.or_true, Bool.true_or, Bool.true_or]
    exact ⟨rfl, rfl⟩
end CN
