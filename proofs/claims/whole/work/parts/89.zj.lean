/-! the constructors -/
def shL : List (Nat ⊕ (Nat × Nat)) := [Sum.inl 0, Sum.inr (2, 900), Sum.inl 1, Sum.inr (1, 13), Sum.inr (0, 13), Sum.inr (0, 13), Sum.inl 2, Sum.inr (4, 5), Sum.inr (0, 20), Sum.inr (0, 4), Sum.inr (0, 4), Sum.inr (0, 4), Sum.inr (0, 4), Sum.inr (0, 4), Sum.inr (0, 5), Sum.inr (3, 5), Sum.inl 3, Sum.inl 3, Sum.inl 3, Sum.inl 3, Sum.inl 3, Sum.inl 2, Sum.inr (4, 5), Sum.inr (0, 20), Sum.inr (0, 4), Sum.inr (0, 4), Sum.inr (0, 4), Sum.inr (0, 4), Sum.inr (0, 4), Sum.inr (0, 5), Sum.inr (3, 5), Sum.inl 3, Sum.inl 3, Sum.inl 3, Sum.inl 3, Sum.inl 3, Sum.inr (0, 8), Sum.inr (0, 8), Sum.inl 4, Sum.inr (0, 128), Sum.inr (0, 24), Sum.inl 5, Sum.inr (5, 5), Sum.inl 3, Sum.inr (0, 60), Sum.inr (0, 60), Sum.inr (0, 60), Sum.inl 6, Sum.inr (0, 60), Sum.inr (0, 60), Sum.inr (0, 61), Sum.inl 6, Sum.inr (0, 60), Sum.inr (0, 60), Sum.inr (0, 61), Sum.inl 6, Sum.inr (0, 60), Sum.inr (0, 60), Sum.inr (0, 61), Sum.inl 6, Sum.inr (0, 60), Sum.inr (0, 60), Sum.inr (0, 61), Sum.inl 6, Sum.inr (0, 60), Sum.inr (0, 60), Sum.inr (0, 61), Sum.inl 7, Sum.inr (0, 4), Sum.inr (0, 4), Sum.inr (0, 4), Sum.inl 8, Sum.inl 3, Sum.inr (1, 61), Sum.inr (1, 61), Sum.inr (0, 61), Sum.inl 9, Sum.inr (6, 7), Sum.inr (0, 8), Sum.inr (0, 8), Sum.inr (0, 8), Sum.inr (0, 8), Sum.inr (0, 8), Sum.inr (0, 8), Sum.inr (0, 8), Sum.inl 10, Sum.inr (1, 60), Sum.inr (1, 60), Sum.inl 11, Sum.inr (2, 900), Sum.inr (0, 8), Sum.inr (0, 8), Sum.inr (0, 128), Sum.inr (0, 24), Sum.inr (0, 60), Sum.inr (0, 4), Sum.inr (0, 4), Sum.inr (0, 4), Sum.inr (0, 100), Sum.inr (0, 100), Sum.inr (0, 729), Sum.inr (0, 6), Sum.inr (1, 1)]
def CI (x : Nat) (h : Hp) (i : Nat) (R : Nat → Nat → Option Nat) (J : Nat → Nat → Int32) : Prop := hN h = x + i ∧ NoS h ∧ (∀ a, a < i → hS h (x + a) = shL[a]?) ∧ (∀ a k, a < i → hI h (x + a) k = J a k) ∧ (∀ a k, a < i → hL h (x + a) k = 0) ∧ (∀ a k, a < i → hR h (x + a) k = (R a k).map (x + ·)) ∧ 601024 ≤ (hB h).1 + i ∧ 7293034 ≤ (hB h).2 + 1000 * i ∧ ∀ a, i ≤ a → ∀ k, R a k = none ∧ J a k = 0
section CS
variable {α : Type} {x i : Nat} {h : Hp} {R : Nat → Nat → Option Nat} {J : Nat → Nat → Int32} {Q : α → Hp → Prop}
theorem ci_n1 {s : Nat ⊕ (Nat × Nat)} {n : Nat} (I : CI x h i R J) (hs : shL[i]? = some s) (hn : n ≤ 1000) : CI x (uN h s n) (i + 1) R J := by
  obtain ⟨a1, a2, a3, a4, a5, a6, a7, a8, a9⟩ := I
  have hR0 : ∀ k, R i k = none := fun k => (a9 i (Nat.le_refl _) k).1
  have hJ0 : ∀ k, J i k = 0 := fun k => (a9 i (Nat.le_refl _) k).2
  refine ⟨by show hN h + 1 = _; omega, fun a ha => ?_, fun a ha => ?_, fun a k ha => ?_, fun a k ha => ?_, fun a k ha => ?_, ?_, ?_, fun a ha => a9 a (by omega)⟩
  · have ha' : hN h + 1 ≤ a := ha
    show (if a = hN h then some s else hS h a) = none
    rw [if_neg (by omega)]; exact a2 a (by omega)
  · show (if x + a = hN h then some s else hS h (x + a)) = _
    by_cases z : a = i
    · rw [if_pos (by omega), z, hs]
    · rw [if_neg (by omega)]; exact a3 a (by omega)
  · show (if x + a = hN h then 0 else hI h (x + a) k) = _
    by_cases z : a = i
    · rw [if_pos (by omega), z, hJ0]
    · rw [if_neg (by omega)]; exact a4 a k (by omega)
  · show (if x + a = hN h then 0 else hL h (x + a) k) = _
    by_cases z : a = i
    · rw [if_pos (by omega)]
    · rw [if_neg (by omega)]; exact a5 a k (by omega)
  · show (if x + a = hN h then none else hR h (x + a) k) = _
    by_cases z : a = i
    · rw [if_pos (by omega), z, hR0]; rfl
    · rw [if_neg (by omega)]; exact a6 a k (by omega)
  · show 601024 ≤ (hB h).1 - 1 + (i + 1)
    omega
  · show 7293034 ≤ (hB h).2 - n + 1000 * (i + 1)
    omega
theorem ci_new {s : Nat ⊕ (Nat × Nat)} {n : Nat} {F : Nat → Hp → Option (α × Hp)} (I : CI x h i R J) (hs : shL[i]? = some s) (hn : n ≤ 1000) (hi : i < 200) (kk : ∀ h2, CI x h2 (i + 1) R J → Ok (F (x + i) h2) Q) : Ok (gd (1 ≤ (hB h).1 ∧ n ≤ (hB h).2) (lt (hN h) fun a => lt (uN h s n) fun h2 => F a h2)) Q := by
  have b1 := I.2.2.2.2.2.2.1
  have b2 := I.2.2.2.2.2.2.2.1
  refine ok_gd ⟨by omega, by omega⟩ (ok_lt (ok_lt ?_))
  rw [I.1]
  exact kk _ (ci_n1 I hs hn)
theorem ci_s1 {a k b : Nat} (I : CI x h i R J) (ha : a < i) : CI x (uR h (x + a) k (some (x + b))) i (up2 R a k (some b)) J := by
  obtain ⟨a1, a2, a3, a4, a5, a6, a7, a8, a9⟩ := I
  refine ⟨a1, a2, a3, a4, a5, fun a' k' ha' => ?_, a7, a8, fun a' ha' k' => ⟨?_, (a9 a' ha' k').2⟩⟩
  rotate_left
  · show (if a' = a ∧ k' = k then some b else R a' k') = none
    rw [if_neg (by omega)]; exact (a9 a' ha' k').1
  show (if x + a' = x + a ∧ k' = k then some (x + b) else hR h (x + a') k') = ((if a' = a ∧ k' = k then some b else R a' k').map (x + ·))
  by_cases z : a' = a ∧ k' = k
  · rw [if_pos (by omega), if_pos z]; rfl
  · rw [if_neg (by omega), if_neg z]; exact a6 a' k' ha'
theorem ci_set {c a k b : Nat} {F : Hp → Option (α × Hp)} (I : CI x h i R J) (ha : a < i) (hs : shL[a]? = some (.inl c)) (kk : ∀ h2, CI x h2 i (up2 R a k (some b)) J → Ok (F h2) Q) : Ok (gd (hS h (x + a) = some (.inl c)) (lt (uR h (x + a) k (some (x + b))) fun h2 => F h2)) Q :=
  ok_gd (by rw [I.2.2.1 a ha]; exact hs) (ok_lt (kk _ (ci_s1 I ha)))
theorem ci_int {c a k : Nat} {v : Int32} {F : Hp → Option (α × Hp)} (I : CI x h i R J) (ha : a < i) (hs : shL[a]? = some (.inl c)) (kk : ∀ h2, CI x h2 i R (up2 J a k v) → Ok (F h2) Q) : Ok (gd (hS h (x + a) = some (.inl c)) (lt (uI h (x + a) k v) fun h2 => F h2)) Q := by
  refine ok_gd (by rw [I.2.2.1 a ha]; exact hs) (ok_lt (kk _ ?_))
  obtain ⟨a1, a2, a3, a4, a5, a6, a7, a8, a9⟩ := I
  refine ⟨a1, a2, a3, fun a' k' ha' => ?_, a5, a6, a7, a8, fun a' ha' k' => ⟨(a9 a' ha' k').1, ?_⟩⟩
  rotate_left
  · show (if a' = a ∧ k' = k then v else J a' k') = 0
    rw [if_neg (by omega)]; exact (a9 a' ha' k').2
  show (if x + a' = x + a ∧ k' = k then v else hI h (x + a') k') = (if a' = a ∧ k' = k then v else J a' k')
  by_cases z : a' = a ∧ k' = k
  · rw [if_pos (by omega), if_pos z]
  · rw [if_neg (by omega), if_neg z]; exact a4 a' k' ha'
/-- an orrery's wheels -/
def lpO (R : Nat → Nat → Option Nat) (o n a k : Nat) : Option Nat := if a = o + 1 ∧ k < n then some (o + 10 + k) else R a k
theorem ok_O_loop {o : Nat} (I : CI x h (o + 10) R J) (ho : o < 100) (hsh : (∀ i, i < 5 → shL[o + 10 + i]? = some (.inl 3)) ∧ shL[o]? = some (.inl 2) ∧ shL[o + 1]? = some (.inr (4, 5))) (h3 : R o 3 = some (o + 1)) : Ok (l_O_init_76 FU (x + o, 0) h) (fun _ h' => CI x h' (o + 15) (lpO R o 5) J) := by
  refine ok_up 5 (fun i st h' => st = (x + o, nI i) ∧ CI x h' (o + 10 + i) (lpO R o i) J) ?_ FU 0 _ _ (Nat.zero_le _) ⟨rfl, ?_⟩ (by show _ < 10000; omega)
  · intro k i st h1 hi hI kk
    obtain ⟨rfl, I1⟩ := hI
    show Ok (b_O_init_76 k (x + o) (nI i) h1) _
    unfold b_O_init_76
    refine ok_it (a := 5) hi (by decide) (fun e => ?_) (fun e => ?_)
    · subst e
      exact ok_ret I1
    · have r3 : hR h1 (x + o) 3 = some (x + (o + 1)) := by
        rw [I1.2.2.2.2.2.1 o 3 (by omega)]
        show ((if o = o + 1 ∧ 3 < i then _ else R o 3)).map _ = _
        rw [if_neg (by omega), h3]
        rfl
      refine ok_gd (by rw [I1.2.2.1 o (by omega)]; exact hsh.2.1) (ok_bR r3 ?_)
      refine ci_new I1 (hsh.1 i e) (by decide) (by omega) (fun h2 I2 => ?_)
      · refine ok_bde rfl (ok_gd ⟨by rw [I2.2.2.1 (o + 10 + i) (by omega)]; exact hsh.1 i e, ai_of (by rw [I2.2.2.1 (o + 1) (by omega)]; exact hsh.2.2) e (by decide)⟩ (ok_lt ?_))
        rw [nI_clamp (by omega), nI_1]
        refine kk _ _ e ⟨rfl, ?_⟩
        have I3 := ci_s1 (a := o + 1) (k := i) (b := o + 10 + i) I2 (by omega)
        have eR : up2 (lpO R o i) (o + 1) i (some (o + 10 + i)) = lpO R o (i + 1) := by
          funext a' k'
          show (if a' = o + 1 ∧ k' = i then some (o + 10 + i) else if a' = o + 1 ∧ k' < i then some (o + 10 + k') else R a' k') = if a' = o + 1 ∧ k' < i + 1 then some (o + 10 + k') else R a' k'
          by_cases z : a' = o + 1 ∧ k' = i
          · rw [if_pos z, if_pos (by omega), z.2]
          · rw [if_neg z]
            by_cases y : a' = o + 1 ∧ k' < i
            · rw [if_pos y, if_pos (by omega)]
            · rw [if_neg y, if_neg (by omega)]
        rw [eR] at I3
        exact I3
  · have eR : lpO R o 0 = R := by
      funext a k
      exact if_neg (by omega)
    rw [eR]
    exact I
/-- the calendar's courses -/
def lpC (R : Nat → Nat → Option Nat) (n a k : Nat) : Option Nat := if a = 42 ∧ k < n then some (47 + 4 * k) else if 47 ≤ a ∧ a < 47 + 4 * n ∧ (a - 47) % 4 = 0 ∧ k < 3 then some (a + 1 + k) else R a k
theorem sh_C : ∀ w, w < 5 → shL[47 + 4 * w]? = some (.inl 6) ∧ shL[47 + 4 * w + 1]? = some (.inr (0, 60)) ∧ shL[47 + 4 * w + 2]? = some (.inr (0, 60)) ∧ shL[47 + 4 * w + 3]? = some (.inr (0, 61)) := by decide
theorem ok_C_loop (I : CI x h 47 R J) (h3 : R 41 0 = some 42) : Ok (l_C_init_49 FU (x + 41, 0) h) (fun _ h' => CI x h' 67 (lpC R 5) J) := by
  refine ok_up 5 (fun i st h' => st = (x + 41, nI i) ∧ CI x h' (47 + 4 * i) (lpC R i) J) ?_ FU 0 _ _ (Nat.zero_le _) ⟨rfl, ?_⟩ (by show _ < 10000; omega)
  · intro k i st h1 hi hI kk
    obtain ⟨rfl, I1⟩ := hI
    show Ok (b_C_init_49 k (x + 41) (nI i) h1) _
    unfold b_C_init_49
    refine ok_it (a := 5) hi (by decide) (fun e => ?_) (fun e => ?_)
    · subst e
      exact ok_ret I1
    · obtain ⟨s0, s1, s2, s3⟩ := sh_C i e
      have r3 : hR h1 (x + 41) 0 = some (x + 42) := by
        rw [I1.2.2.2.2.2.1 41 0 (by omega)]
        show ((if 41 = 42 ∧ 0 < i then _ else if 47 ≤ 41 ∧ _ then _ else R 41 0)).map _ = _
        rw [if_neg (by omega), if_neg (by omega), h3]
        rfl
      refine ok_gd (by rw [I1.2.2.1 41 (by omega)]; rfl) (ok_bR r3 ?_)
      refine ci_new I1 s0 (by decide) (by omega) (fun h2 I2 => ok_bd ?_)
      unfold f_U_init
      refine ci_new I2 s1 (by decide) (by omega) (fun h3 I3 => ?_)
      refine ci_set (a := 47 + 4 * i) (b := 47 + 4 * i + 1) I3 (by omega) s0 (fun h4 I4 => ?_)
      refine ci_new I4 s2 (by decide) (by omega) (fun h5 I5 => ?_)
      refine ci_set (a := 47 + 4 * i) (b := 47 + 4 * i + 2) I5 (by omega) s0 (fun h6 I6 => ?_)
      refine ci_new I6 s3 (by decide) (by omega) (fun h7 I7 => ?_)
      refine ci_set (a := 47 + 4 * i) (b := 47 + 4 * i + 3) I7 (by omega) s0 (fun h8 I8 => ok_ret ?_)
      refine ok_gd ⟨by rw [I8.2.2.1 (47 + 4 * i) (by omega)]; exact s0, ai_of (by rw [I8.2.2.1 42 (by omega)]; rfl) e (by decide)⟩ (ok_lt ?_)
      rw [nI_clamp (by omega), nI_1]
      refine kk _ _ e ⟨rfl, ?_⟩
      have I9 := ci_s1 (a := 42) (k := i) (b := 47 + 4 * i) I8 (by omega)
      have eR : up2 (up2 (up2 (up2 (lpC R i) (47 + 4 * i) 0 (some (47 + 4 * i + 1))) (47 + 4 * i) 1 (some (47 + 4 * i + 2))) (47 + 4 * i) 2 (some (47 + 4 * i + 3))) 42 i (some (47 + 4 * i)) = lpC R (i + 1) := by
        funext a' k'
        show (if a' = 42 ∧ k' = i then some (47 + 4 * i) else if a' = 47 + 4 * i ∧ k' = 2 then some (47 + 4 * i + 3) else if a' = 47 + 4 * i ∧ k' = 1 then some (47 + 4 * i + 2) else if a' = 47 + 4 * i ∧ k' = 0 then some (47 + 4 * i + 1) else if a' = 42 ∧ k' < i then some (47 + 4 * k') else if 47 ≤ a' ∧ a' < 47 + 4 * i ∧ (a' - 47) % 4 = 0 ∧ k' < 3 then some (a' + 1 + k') else R a' k') = if a' = 42 ∧ k' < i + 1 then some (47 + 4 * k') else if 47 ≤ a' ∧ a' < 47 + 4 * (i + 1) ∧ (a' - 47) % 4 = 0 ∧ k' < 3 then some (a' + 1 + k') else R a' k'
        by_cases z : a' = 42
        · subst z
          by_cases y : k' = i
          · rw [if_pos ⟨rfl, y⟩, if_pos ⟨rfl, by omega⟩, y]
          · rw [if_neg (fun q => y q.2), if_neg (by omega), if_neg (by omega), if_neg (by omega)]
            by_cases w : k' < i
            · rw [if_pos ⟨rfl, w⟩, if_pos ⟨rfl, by omega⟩]
            · rw [if_neg (fun q => w q.2), if_neg (by omega), if_neg (by omega), if_neg (by omega)]
        · rw [if_neg (fun q => z q.1), if_neg (c := a' = 42 ∧ k' < i + 1) (fun q => z q.1)]
          by_cases y : a' = 47 + 4 * i
          · by_cases w2 : k' = 2
            · rw [if_pos ⟨y, w2⟩, if_pos (by omega)]
              exact congrArg some (by omega)
            · rw [if_neg (fun q => w2 q.2)]
              by_cases w1 : k' = 1
              · rw [if_pos ⟨y, w1⟩, if_pos (by omega)]
                exact congrArg some (by omega)
              · rw [if_neg (fun q => w1 q.2)]
                by_cases w0 : k' = 0
                · rw [if_pos ⟨y, w0⟩, if_pos (by omega)]
                  exact congrArg some (by omega)
                · rw [if_neg (fun q => w0 q.2), if_neg (fun q => z q.1), if_neg (by omega), if_neg (by omega)]
          · rw [if_neg (fun q => y q.1), if_neg (fun q => y q.1), if_neg (fun q => y q.1), if_neg (fun q => z q.1)]
            by_cases w : 47 ≤ a' ∧ a' < 47 + 4 * i ∧ (a' - 47) % 4 = 0 ∧ k' < 3
            · rw [if_pos w, if_pos (by omega)]
            · rw [if_neg w, if_neg (by omega)]
      rw [eR] at I9
      exact I9
  · have eR : lpC R 0 = R := by
      funext a k
      unfold lpC
      rw [if_neg (by omega), if_neg (by omega)]
    rw [eR]
    exact I
/-- the game's rows -/
def lpG (R : Nat → Nat → Option Nat) (a k : Nat) : Option Nat := if a = 77 ∧ k < 7 then some (78 + k) else R a k
theorem sh_G : shL[77]? = some (.inr (6, 7)) ∧ ∀ w, w < 7 → shL[78 + w]? = some (.inr (0, 8)) := by decide
theorem ci_mul {F : Nat → Hp → Option (α × Hp)} (I : CI x h 77 R J) (kk : ∀ h2, CI x h2 85 (lpG R) J → Ok (F (x + 77) h2) Q) : Ok (gd (8 ≤ (hB h).1 ∧ 63 ≤ (hB h).2) (lt (hN h) fun a => lt (uM h) fun h2 => F a h2)) Q := by
  have b1 := I.2.2.2.2.2.2.1
  have b2 := I.2.2.2.2.2.2.2.1
  refine ok_gd ⟨by omega, by omega⟩ (ok_lt (ok_lt ?_))
  have e0 := I.1
  rw [e0]
  refine kk _ ?_
  obtain ⟨a1, a2, a3, a4, a5, a6, a7, a8, a9⟩ := I
  have h0 : ∀ a, 77 ≤ a → a < 85 → ∀ k, R a k = none ∧ J a k = 0 := fun a h1 _ k => a9 a h1 k
  have g : ∀ a, a < 77 → mgN (hN h) (x + a) = false := fun a ha => by
    cases q : mgN (hN h) (x + a) with
    | false => rfl
    | true =>
      have := mgN_iff.mp q
      omega
  have g2 : ∀ a, 77 ≤ a → a < 85 → mgN (hN h) (x + a) = true := fun a h1 h2 => mgN_iff.mpr (by omega)
  refine ⟨by show hN h + 8 = _; omega, fun a ha => ?_, fun a ha => ?_, fun a k ha => ?_, fun a k ha => ?_, fun a k ha => ?_, ?_, ?_, fun a ha k => ⟨?_, (a9 a (by omega) k).2⟩⟩
  · have ha' : hN h + 8 ≤ a := ha
    show (if a = hN h then _ else if mgN (hN h) a = true then _ else hS h a) = none
    rw [if_neg (by omega), if_neg (fun q => by have := mgN_iff.mp q; omega)]
    exact a2 a (by omega)
  · show (if x + a = hN h then some (.inr (6, 7)) else if mgN (hN h) (x + a) = true then some (.inr (0, 8)) else hS h (x + a)) = _
    by_cases z : a < 77
    · rw [if_neg (by omega), g a z, if_neg (by decide)]
      exact a3 a z
    · by_cases y : a = 77
      · rw [if_pos (by omega), y]
        exact sh_G.1.symm
      · rw [if_neg (by omega), if_pos (g2 a (by omega) ha)]
        obtain ⟨w, rfl⟩ : ∃ w, a = 78 + w := ⟨a - 78, by omega⟩
        exact (sh_G.2 w (by omega)).symm
  · show (if mgN (hN h) (x + a) = true then 0 else hI h (x + a) k) = _
    by_cases z : a < 77
    · rw [g a z, if_neg (by decide)]; exact a4 a k z
    · rw [if_pos (g2 a (by omega) ha), (h0 a (by omega) ha k).2]
  · show (if mgN (hN h) (x + a) = true then 0 else hL h (x + a) k) = _
    by_cases z : a < 77
    · rw [g a z, if_neg (by decide)]; exact a5 a k z
    · rw [if_pos (g2 a (by omega) ha)]
  · show (if mgN (hN h) (x + a) = true then (if x + a = hN h ∧ k < 7 then some (hN h + 1 + k) else none) else hR h (x + a) k) = (lpG R a k).map (x + ·)
    unfold lpG
    by_cases z : a < 77
    · rw [g a z, if_neg (by decide), if_neg (by omega)]; exact a6 a k z
    · rw [if_pos (g2 a (by omega) ha)]
      by_cases y : a = 77 ∧ k < 7
      · rw [if_pos (by omega), if_pos y]
        show some (hN h + 1 + k) = some (x + (78 + k))
        exact congrArg some (by omega)
      · rw [if_neg (by omega), if_neg y, (h0 a (by omega) ha k).1]
        rfl
  · show 601024 ≤ (hB h).1 - 8 + 85
    omega
  · show 7293034 ≤ (hB h).2 - 63 + 1000 * 85
    omega
  · unfold lpG
    rw [if_neg (by omega)]; exact (a9 a (by omega) k).1
/-- both sides at first -/
def Jfi : Nat → Nat → Int32 := up2 (up2 (up2 (fun _ _ => 0) 6 12 (-1)) 21 12 (-1)) 88 2 (-1)
def Rfi : Nat → Nat → Option Nat := (up2 (up2 (up2 (up2 (up2 (up2 (up2 (up2 (up2 (up2 (up2 (up2 (up2 (up2 (up2 (up2 (up2 (up2 (lpG (up2 (up2 (up2 (up2 (up2 (up2 (up2 (up2 (up2 (up2 (lpC (up2 (up2 (up2 (up2 (up2 (up2 (up2 (up2 (up2 (up2 (up2 (lpO (up2 (up2 (up2 (up2 (up2 (up2 (up2 (up2 (up2 (up2 (lpO (up2 (up2 (up2 (up2 (up2 (up2 (up2 (up2 (up2 (up2 (up2 (up2 (up2 (up2 (fun _ _ => none) 0 0 (some 1)) 2 13 (some 3)) 2 14 (some 4)) 2 15 (some 5)) 0 2 (some 2)) 6 3 (some 7)) 6 5 (some 8)) 6 7 (some 9)) 6 8 (some 10)) 6 9 (some 11)) 6 10 (some 12)) 6 11 (some 13)) 6 14 (some 14)) 6 15 (some 15)) 6 5) 0 3 (some 6)) 21 3 (some 22)) 21 5 (some 23)) 21 7 (some 24)) 21 8 (some 25)) 21 9 (some 26)) 21 10 (some 27)) 21 11 (some 28)) 21 14 (some 29)) 21 15 (some 30)) 21 5) 0 4 (some 21)) 0 5 (some 36)) 0 6 (some 37)) 38 0 (some 39)) 38 1 (some 40)) 0 8 (some 38)) 41 0 (some 42)) 41 1 (some 43)) 41 2 (some 44)) 41 3 (some 45)) 41 4 (some 46)) 5) 0 9 (some 41)) 67 0 (some 68)) 67 1 (some 69)) 67 2 (some 70)) 0 10 (some 67)) 71 0 (some 72)) 71 1 (some 73)) 71 2 (some 74)) 71 3 (some 75)) 0 11 (some 71))) 76 0 (some 77)) 0 12 (some 76)) 85 0 (some 86)) 85 1 (some 87)) 0 13 (some 85)) 88 5 (some 89)) 88 15 (some 90)) 88 16 (some 91)) 88 17 (some 92)) 88 18 (some 93)) 88 22 (some 94)) 88 24 (some 95)) 88 25 (some 96)) 88 26 (some 97)) 88 28 (some 98)) 88 29 (some 99)) 88 32 (some 100)) 88 33 (some 101))
theorem LX_0 (I : CI x h 103 Rfi Jfi) : LX x h 0 := by
  obtain ⟨a1, a2, a3, a4, a5, a6, a7, a8, -⟩ := I
  have s : ∀ a v, shL[a]? = v → a < 103 → hS h (x + a) = v := fun a v e ha => (a3 a ha).trans e
  have r : ∀ a k b, Rfi a k = some b → a < 103 → hR h (x + a) k = some (x + b) := fun a k b e ha => by rw [a6 a k ha, e]; rfl
  have j : ∀ a k v, Jfi a k = v → a < 103 → hI h (x + a) k = v := fun a k v e ha => (a4 a k ha).trans e
  have l6 : LayO h (x + 6) :=
    ⟨s 6 _ rfl (by decide), ⟨r 6 3 7 rfl (by decide), r 6 5 8 rfl (by decide), r 6 7 9 rfl (by decide), r 6 8 10 rfl (by decide), r 6 9 11 rfl (by decide), r 6 10 12 rfl (by decide), r 6 11 13 rfl (by decide), r 6 14 14 rfl (by decide), r 6 15 15 rfl (by decide)⟩, s 7 _ rfl (by decide), s 8 _ rfl (by decide), fun i h3 h7 => by
      rcases (show i = 3 ∨ i = 4 ∨ i = 5 ∨ i = 6 ∨ i = 7 by omega) with e | e | e | e | e <;> subst e
      · exact s 9 _ rfl (by decide)
      · exact s 10 _ rfl (by decide)
      · exact s 11 _ rfl (by decide)
      · exact s 12 _ rfl (by decide)
      · exact s 13 _ rfl (by decide), s 14 _ rfl (by decide), s 15 _ rfl (by decide), fun w hw => by
      rcases (show w = 0 ∨ w = 1 ∨ w = 2 ∨ w = 3 ∨ w = 4 by omega) with e | e | e | e | e <;> subst e
      · exact ⟨r 7 0 16 rfl (by decide), s 16 _ rfl (by decide)⟩
      · exact ⟨r 7 1 17 rfl (by decide), s 17 _ rfl (by decide)⟩
      · exact ⟨r 7 2 18 rfl (by decide), s 18 _ rfl (by decide)⟩
      · exact ⟨r 7 3 19 rfl (by decide), s 19 _ rfl (by decide)⟩
      · exact ⟨r 7 4 20 rfl (by decide), s 20 _ rfl (by decide)⟩⟩
  have l21 : LayO h (x + 21) :=
    ⟨s 21 _ rfl (by decide), ⟨r 21 3 22 rfl (by decide), r 21 5 23 rfl (by decide), r 21 7 24 rfl (by decide), r 21 8 25 rfl (by decide), r 21 9 26 rfl (by decide), r 21 10 27 rfl (by decide), r 21 11 28 rfl (by decide), r 21 14 29 rfl (by decide), r 21 15 30 rfl (by decide)⟩, s 22 _ rfl (by decide), s 23 _ rfl (by decide), fun i h3 h7 => by
      rcases (show i = 3 ∨ i = 4 ∨ i = 5 ∨ i = 6 ∨ i = 7 by omega) with e | e | e | e | e <;> subst e
      · exact s 24 _ rfl (by decide)
      · exact s 25 _ rfl (by decide)
      · exact s 26 _ rfl (by decide)
      · exact s 27 _ rfl (by decide)
      · exact s 28 _ rfl (by decide), s 29 _ rfl (by decide), s 30 _ rfl (by decide), fun w hw => by
      rcases (show w = 0 ∨ w = 1 ∨ w = 2 ∨ w = 3 ∨ w = 4 by omega) with e | e | e | e | e <;> subst e
      · exact ⟨r 22 0 31 rfl (by decide), s 31 _ rfl (by decide)⟩
      · exact ⟨r 22 1 32 rfl (by decide), s 32 _ rfl (by decide)⟩
      · exact ⟨r 22 2 33 rfl (by decide), s 33 _ rfl (by decide)⟩
      · exact ⟨r 22 3 34 rfl (by decide), s 34 _ rfl (by decide)⟩
      · exact ⟨r 22 4 35 rfl (by decide), s 35 _ rfl (by decide)⟩⟩
  have lX : LayX h x := ⟨s 0 _ rfl (by decide), r 0 0 1 rfl (by decide), r 0 2 2 rfl (by decide), r 0 5 36 rfl (by decide), r 0 6 37 rfl (by decide), r 0 8 38 rfl (by decide), r 0 9 41 rfl (by decide), r 0 10 67 rfl (by decide), r 0 11 71 rfl (by decide), r 0 12 76 rfl (by decide), r 0 13 85 rfl (by decide), s 1 _ rfl (by decide), s 37 _ rfl (by decide)⟩
  have lR : LayRd h (x + 2) := ⟨s 2 _ rfl (by decide), r 2 13 3 rfl (by decide), r 2 14 4 rfl (by decide), r 2 15 5 rfl (by decide), s 3 _ rfl (by decide), s 4 _ rfl (by decide), s 5 _ rfl (by decide)⟩
  have lC : LayC h (x + 41) := ⟨s 41 _ rfl (by decide), r 41 0 42 rfl (by decide), r 41 1 43 rfl (by decide), r 41 2 44 rfl (by decide), r 41 3 45 rfl (by decide), r 41 4 46 rfl (by decide), s 42 _ rfl (by decide), s 43 _ rfl (by decide), s 44 _ rfl (by decide), s 45 _ rfl (by decide), s 46 _ rfl (by decide), fun w hw => by
      rcases (show w = 0 ∨ w = 1 ∨ w = 2 ∨ w = 3 ∨ w = 4 by omega) with e | e | e | e | e <;> subst e
      · exact ⟨r 42 0 47 rfl (by decide), s 47 _ rfl (by decide), r 47 0 48 rfl (by decide), r 47 1 49 rfl (by decide), r 47 2 50 rfl (by decide), s 48 _ rfl (by decide), s 49 _ rfl (by decide), s 50 _ rfl (by decide), j 50 0 _ rfl (by decide)⟩
      · exact ⟨r 42 1 51 rfl (by decide), s 51 _ rfl (by decide), r 51 0 52 rfl (by decide), r 51 1 53 rfl (by decide), r 51 2 54 rfl (by decide), s 52 _ rfl (by decide), s 53 _ rfl (by decide), s 54 _ rfl (by decide), j 54 0 _ rfl (by decide)⟩
      · exact ⟨r 42 2 55 rfl (by decide), s 55 _ rfl (by decide), r 55 0 56 rfl (by decide), r 55 1 57 rfl (by decide), r 55 2 58 rfl (by decide), s 56 _ rfl (by decide), s 57 _ rfl (by decide), s 58 _ rfl (by decide), j 58 0 _ rfl (by decide)⟩
      · exact ⟨r 42 3 59 rfl (by decide), s 59 _ rfl (by decide), r 59 0 60 rfl (by decide), r 59 1 61 rfl (by decide), r 59 2 62 rfl (by decide), s 60 _ rfl (by decide), s 61 _ rfl (by decide), s 62 _ rfl (by decide), j 62 0 _ rfl (by decide)⟩
      · exact ⟨r 42 4 63 rfl (by decide), s 63 _ rfl (by decide), r 63 0 64 rfl (by decide), r 63 1 65 rfl (by decide), r 63 2 66 rfl (by decide), s 64 _ rfl (by decide), s 65 _ rfl (by decide), s 66 _ rfl (by decide), j 66 0 _ rfl (by decide)⟩⟩
  have lK : LayK h (x + 67) := ⟨s 67 _ rfl (by decide), r 67 0 68 rfl (by decide), r 67 1 69 rfl (by decide), r 67 2 70 rfl (by decide), s 68 _ rfl (by decide), s 69 _ rfl (by decide), s 70 _ rfl (by decide)⟩
  have lS : LayS h (x + 71) := ⟨s 71 _ rfl (by decide), r 71 0 72 rfl (by decide), r 71 1 73 rfl (by decide), r 71 2 74 rfl (by decide), r 71 3 75 rfl (by decide), s 72 _ rfl (by decide), s 73 _ rfl (by decide), s 74 _ rfl (by decide), s 75 _ rfl (by decide)⟩
  have lG : LayG h (x + 76) := ⟨s 76 _ rfl (by decide), r 76 0 77 rfl (by decide), s 77 _ rfl (by decide), fun w hw => by
      rcases (show w = 0 ∨ w = 1 ∨ w = 2 ∨ w = 3 ∨ w = 4 ∨ w = 5 ∨ w = 6 by omega) with e | e | e | e | e | e | e <;> subst e
      · exact ⟨r 77 0 78 rfl (by decide), s 78 _ rfl (by decide)⟩
      · exact ⟨r 77 1 79 rfl (by decide), s 79 _ rfl (by decide)⟩
      · exact ⟨r 77 2 80 rfl (by decide), s 80 _ rfl (by decide)⟩
      · exact ⟨r 77 3 81 rfl (by decide), s 81 _ rfl (by decide)⟩
      · exact ⟨r 77 4 82 rfl (by decide), s 82 _ rfl (by decide)⟩
      · exact ⟨r 77 5 83 rfl (by decide), s 83 _ rfl (by decide)⟩
      · exact ⟨r 77 6 84 rfl (by decide), s 84 _ rfl (by decide)⟩⟩
  have lH : LayH h (x + 85) := ⟨s 85 _ rfl (by decide), s 86 _ rfl (by decide), s 87 _ rfl (by decide), Or.inl ⟨r 85 0 86 rfl (by decide), r 85 1 87 rfl (by decide)⟩⟩
  have rO : RepO h (x + 6) D0 := ⟨l6, ⟨j 6 0 _ rfl (by decide), j 6 1 _ rfl (by decide), j 6 2 _ rfl (by decide), j 6 4 _ rfl (by decide), j 6 6 _ rfl (by decide), j 6 12 _ rfl (by decide), j 6 13 _ rfl (by decide)⟩, (fun w hw => absurd hw (Nat.not_lt_zero _)), (fun f w hf => absurd hf (Nat.not_lt_zero _)), (fun w hw => absurd hw (Nat.not_lt_zero _)), (fun w hw => absurd hw (Nat.not_lt_zero _)), (fun w hw => absurd hw (Nat.not_lt_zero _))⟩
  have rV : RepV h (x + 36) (fun _ => 0) := ⟨s 36 _ rfl (by decide), fun k _ => j 36 k _ rfl (by decide)⟩
  have rP : RepP h (x + 38) (fun _ _ => 0) 0 (fun _ _ => 0) 0 := ⟨s 38 _ rfl (by decide), r 38 0 39 rfl (by decide), r 38 1 40 rfl (by decide), s 39 _ rfl (by decide), s 40 _ rfl (by decide), by decide, by decide, j 38 2 _ rfl (by decide), j 38 4 _ rfl (by decide), ⟨0, by decide, j 38 3 _ rfl (by decide), (fun w hw => absurd hw (Nat.not_lt_zero _))⟩, (fun w hw => absurd hw (Nat.not_lt_zero _))⟩
  have rB : RB h x D0 (fun _ => 0) (fun _ _ => 0) 0 (fun _ _ => 0) 0 (fun _ => 0) 0 0 := ⟨x + 6, x + 21, Or.inl ⟨rfl, rfl⟩, ⟨lX, lR, lC, lK, lS, lG, lH⟩, r 0 3 6 rfl (by decide), r 0 4 21 rfl (by decide), rO, l21, rV, rP, j 0 1 _ rfl (by decide), (fun w hw => absurd hw (Nat.not_lt_zero _)), j 0 14 _ rfl (by decide), Or.inl (j 71 7 _ rfl (by decide))⟩
  have lM : LayM h (x + 88) := ⟨s 88 _ rfl (by decide), ⟨r 88 5 89 rfl (by decide), r 88 15 90 rfl (by decide), r 88 16 91 rfl (by decide), r 88 17 92 rfl (by decide), r 88 18 93 rfl (by decide), r 88 22 94 rfl (by decide), r 88 24 95 rfl (by decide), r 88 25 96 rfl (by decide), r 88 26 97 rfl (by decide), r 88 28 98 rfl (by decide), r 88 29 99 rfl (by decide), r 88 32 100 rfl (by decide), r 88 33 101 rfl (by decide)⟩, ⟨s 89 _ rfl (by decide), s 90 _ rfl (by decide), s 91 _ rfl (by decide), s 92 _ rfl (by decide), s 93 _ rfl (by decide), s 94 _ rfl (by decide), s 95 _ rfl (by decide), s 96 _ rfl (by decide), s 97 _ rfl (by decide), s 98 _ rfl (by decide), s 99 _ rfl (by decide), s 100 _ rfl (by decide), s 101 _ rfl (by decide)⟩⟩
  have rM : RM h (x + 88) D0 (fun _ => 0) (fun _ _ => 0) 0 (fun _ _ => 0) 0 (fun _ => 0) 0 0 := by
    refine ⟨lM, fun _ => ?_, fun z => absurd z (by decide), ⟨s 90 _ rfl (by decide), fun k hk => ?_⟩, ⟨by decide, by decide, j 88 19 _ rfl (by decide), j 88 20 _ rfl (by decide), (fun w hw => absurd hw (Nat.not_lt_zero _)), (fun w hw => absurd hw (Nat.not_lt_zero _))⟩, j 88 6 _ rfl (by decide), (fun w hw => absurd hw (Nat.not_lt_zero _)), j 88 12 _ rfl (by decide)⟩
    · rw [a6 88 3 (by decide)]; rfl
    · show hI h (x + 90) k = if k < 5 ∧ 2 ^ 32 ≤ 0 then hI h (x + 90) k else nI 0
      rw [if_neg (by omega)]
      exact j 90 k _ rfl (by decide)
  have wX : WfX D0 := wf_0.1
  have wG : WfG D0 (fun _ => 0) 0 := ⟨by decide, by decide, by decide, (fun w hw => absurd hw (Nat.not_lt_zero _))⟩
  exact ⟨D0, fun _ => 0, fun _ _ => 0, 0, fun _ _ => 0, 0, fun _ => 0, 0, 0, 0, -1, rB, rM, ⟨j 0 15 _ rfl (by decide), fun z => absurd z (by decide), fun _ => rfl⟩, ⟨j 88 1 _ rfl (by decide), j 88 2 _ rfl (by decide)⟩, ⟨wX, wG, (fun w hw => absurd hw (Nat.not_lt_zero _)), (fun w hw => absurd hw (Nat.not_lt_zero _)), by decide, by decide, fun _ => ⟨rfl, rfl, rfl, rfl, rfl, rfl, rfl⟩⟩, (fun w hw => absurd hw (Nat.not_lt_zero _)), s 102 _ rfl (by decide), a2, by omega, by omega, by omega⟩
end CS
theorem law_start {n L : Nat} {xs : Nat → Int32} {Q : Int32 → Hp → Prop} (kk : ∀ h, LX n h 0 → Ok (l_Law_law_23 L xs FU (n, n + 88, n + 102, 0) h) Q) : Ok (f_Law_law L xs (hp0 n)) Q := by
  unfold f_Law_law
  have I : CI n (hp0 n) 0 (fun _ _ => none) (fun _ _ => 0) := ⟨rfl, fun _ _ => rfl, fun a ha => absurd ha (Nat.not_lt_zero _), fun a k ha => absurd ha (Nat.not_lt_zero _), fun a k ha => absurd ha (Nat.not_lt_zero _), fun a k ha => absurd ha (Nat.not_lt_zero _), by show 601024 ≤ 601024 + 0; decide, by show 7293034 ≤ 7293034 + 1000 * 0; decide, fun _ _ _ => ⟨rfl, rfl⟩⟩
  refine ci_new (i := 0) I rfl (by decide) (by decide) (fun h1 I => ?_)
  refine ok_bd ?_
  unfold f_B_init
  refine ci_new (i := 1) I rfl (by decide) (by decide) (fun h2 I => ?_)
  refine ci_set (a := 0) (k := 0) (b := 1) I (by decide) rfl (fun h3 I => ?_)
  refine ci_new (i := 2) I rfl (by decide) (by decide) (fun h4 I => ?_)
  refine ok_bd ?_
  unfold f_R_init
  refine ci_new (i := 3) I rfl (by decide) (by decide) (fun h5 I => ?_)
  refine ci_set (a := 2) (k := 13) (b := 3) I (by decide) rfl (fun h6 I => ?_)
  refine ci_new (i := 4) I rfl (by decide) (by decide) (fun h7 I => ?_)
  refine ci_set (a := 2) (k := 14) (b := 4) I (by decide) rfl (fun h8 I => ?_)
  refine ci_new (i := 5) I rfl (by decide) (by decide) (fun h9 I => ?_)
  refine ci_set (a := 2) (k := 15) (b := 5) I (by decide) rfl (fun h10 I => ?_)
  refine ok_ret ?_
  refine ci_set (a := 0) (k := 2) (b := 2) I (by decide) rfl (fun h11 I => ?_)
  refine ci_new (i := 6) I rfl (by decide) (by decide) (fun h12 I => ?_)
  refine ok_bd ?_
  unfold f_O_init
  refine ci_new (i := 7) I rfl (by decide) (by decide) (fun h13 I => ?_)
  refine ci_set (a := 6) (k := 3) (b := 7) I (by decide) rfl (fun h14 I => ?_)
  refine ci_new (i := 8) I rfl (by decide) (by decide) (fun h15 I => ?_)
  refine ci_set (a := 6) (k := 5) (b := 8) I (by decide) rfl (fun h16 I => ?_)
  refine ci_new (i := 9) I rfl (by decide) (by decide) (fun h17 I => ?_)
  refine ci_set (a := 6) (k := 7) (b := 9) I (by decide) rfl (fun h18 I => ?_)
  refine ci_new (i := 10) I rfl (by decide) (by decide) (fun h19 I => ?_)
  refine ci_set (a := 6) (k := 8) (b := 10) I (by decide) rfl (fun h20 I => ?_)
  refine ci_new (i := 11) I rfl (by decide) (by decide) (fun h21 I => ?_)
  refine ci_set (a := 6) (k := 9) (b := 11) I (by decide) rfl (fun h22 I => ?_)
  refine ci_new (i := 12) I rfl (by decide) (by decide) (fun h23 I => ?_)
  refine ci_set (a := 6) (k := 10) (b := 12) I (by decide) rfl (fun h24 I => ?_)
  refine ci_new (i := 13) I rfl (by decide) (by decide) (fun h25 I => ?_)
  refine ci_set (a := 6) (k := 11) (b := 13) I (by decide) rfl (fun h26 I => ?_)
  refine ci_int (a := 6) (k := 12) (v := (-1)) I (by decide) rfl (fun h27 I => ?_)
  refine ci_new (i := 14) I rfl (by decide) (by decide) (fun h28 I => ?_)
  refine ci_set (a := 6) (k := 14) (b := 14) I (by decide) rfl (fun h29 I => ?_)
  refine ci_new (i := 15) I rfl (by decide) (by decide) (fun h30 I => ?_)
  refine ci_set (a := 6) (k := 15) (b := 15) I (by decide) rfl (fun h31 I => ?_)
  refine ok_lt (ok_mono (ok_O_loop (o := 6) I (by decide) (by decide) rfl) ?_)
  intro _ h32 I
  refine ci_set (a := 0) (k := 3) (b := 6) I (by decide) rfl (fun h33 I => ?_)
  refine ci_new (i := 21) I rfl (by decide) (by decide) (fun h34 I => ?_)
  refine ok_bd ?_
  refine ci_new (i := 22) I rfl (by decide) (by decide) (fun h35 I => ?_)
  refine ci_set (a := 21) (k := 3) (b := 22) I (by decide) rfl (fun h36 I => ?_)
  refine ci_new (i := 23) I rfl (by decide) (by decide) (fun h37 I => ?_)
  refine ci_set (a := 21) (k := 5) (b := 23) I (by decide) rfl (fun h38 I => ?_)
  refine ci_new (i := 24) I rfl (by decide) (by decide) (fun h39 I => ?_)
  refine ci_set (a := 21) (k := 7) (b := 24) I (by decide) rfl (fun h40 I => ?_)
  refine ci_new (i := 25) I rfl (by decide) (by decide) (fun h41 I => ?_)
  refine ci_set (a := 21) (k := 8) (b := 25) I (by decide) rfl (fun h42 I => ?_)
  refine ci_new (i := 26) I rfl (by decide) (by decide) (fun h43 I => ?_)
  refine ci_set (a := 21) (k := 9) (b := 26) I (by decide) rfl (fun h44 I => ?_)
  refine ci_new (i := 27) I rfl (by decide) (by decide) (fun h45 I => ?_)
  refine ci_set (a := 21) (k := 10) (b := 27) I (by decide) rfl (fun h46 I => ?_)
  refine ci_new (i := 28) I rfl (by decide) (by decide) (fun h47 I => ?_)
  refine ci_set (a := 21) (k := 11) (b := 28) I (by decide) rfl (fun h48 I => ?_)
  refine ci_int (a := 21) (k := 12) (v := (-1)) I (by decide) rfl (fun h49 I => ?_)
  refine ci_new (i := 29) I rfl (by decide) (by decide) (fun h50 I => ?_)
  refine ci_set (a := 21) (k := 14) (b := 29) I (by decide) rfl (fun h51 I => ?_)
  refine ci_new (i := 30) I rfl (by decide) (by decide) (fun h52 I => ?_)
  refine ci_set (a := 21) (k := 15) (b := 30) I (by decide) rfl (fun h53 I => ?_)
  refine ok_lt (ok_mono (ok_O_loop (o := 21) I (by decide) (by decide) rfl) ?_)
  intro _ h54 I
  refine ci_set (a := 0) (k := 4) (b := 21) I (by decide) rfl (fun h55 I => ?_)
  refine ci_new (i := 36) I rfl (by decide) (by decide) (fun h56 I => ?_)
  refine ci_set (a := 0) (k := 5) (b := 36) I (by decide) rfl (fun h57 I => ?_)
  refine ci_new (i := 37) I rfl (by decide) (by decide) (fun h58 I => ?_)
  refine ci_set (a := 0) (k := 6) (b := 37) I (by decide) rfl (fun h59 I => ?_)
  refine ci_new (i := 38) I rfl (by decide) (by decide) (fun h60 I => ?_)
  refine ok_bd ?_
  unfold f_P_init
  refine ci_new (i := 39) I rfl (by decide) (by decide) (fun h61 I => ?_)
  refine ci_set (a := 38) (k := 0) (b := 39) I (by decide) rfl (fun h62 I => ?_)
  refine ci_new (i := 40) I rfl (by decide) (by decide) (fun h63 I => ?_)
  refine ci_set (a := 38) (k := 1) (b := 40) I (by decide) rfl (fun h64 I => ?_)
  refine ok_ret ?_
  refine ci_set (a := 0) (k := 8) (b := 38) I (by decide) rfl (fun h65 I => ?_)
  refine ci_new (i := 41) I rfl (by decide) (by decide) (fun h66 I => ?_)
  refine ok_bd ?_
  unfold f_C_init
  refine ci_new (i := 42) I rfl (by decide) (by decide) (fun h67 I => ?_)
  refine ci_set (a := 41) (k := 0) (b := 42) I (by decide) rfl (fun h68 I => ?_)
  refine ci_new (i := 43) I rfl (by decide) (by decide) (fun h69 I => ?_)
  refine ok_bde rfl ?_
  refine ci_set (a := 41) (k := 1) (b := 43) I (by decide) rfl (fun h70 I => ?_)
  refine ci_new (i := 44) I rfl (by decide) (by decide) (fun h71 I => ?_)
  refine ci_set (a := 41) (k := 2) (b := 44) I (by decide) rfl (fun h72 I => ?_)
  refine ci_new (i := 45) I rfl (by decide) (by decide) (fun h73 I => ?_)
  refine ci_set (a := 41) (k := 3) (b := 45) I (by decide) rfl (fun h74 I => ?_)
  refine ci_new (i := 46) I rfl (by decide) (by decide) (fun h75 I => ?_)
  refine ci_set (a := 41) (k := 4) (b := 46) I (by decide) rfl (fun h76 I => ?_)
  refine ok_lt (ok_mono (ok_C_loop I rfl) ?_)
  intro _ h77 I
  refine ci_set (a := 0) (k := 9) (b := 41) I (by decide) rfl (fun h78 I => ?_)
  refine ci_new (i := 67) I rfl (by decide) (by decide) (fun h79 I => ?_)
  refine ok_bd ?_
  unfold f_K_init
  refine ci_new (i := 68) I rfl (by decide) (by decide) (fun h80 I => ?_)
  refine ci_set (a := 67) (k := 0) (b := 68) I (by decide) rfl (fun h81 I => ?_)
  refine ci_new (i := 69) I rfl (by decide) (by decide) (fun h82 I => ?_)
  refine ci_set (a := 67) (k := 1) (b := 69) I (by decide) rfl (fun h83 I => ?_)
  refine ci_new (i := 70) I rfl (by decide) (by decide) (fun h84 I => ?_)
  refine ci_set (a := 67) (k := 2) (b := 70) I (by decide) rfl (fun h85 I => ?_)
  refine ok_ret ?_
  refine ci_set (a := 0) (k := 10) (b := 67) I (by decide) rfl (fun h86 I => ?_)
  refine ci_new (i := 71) I rfl (by decide) (by decide) (fun h87 I => ?_)
  refine ok_bd ?_
  unfold f_S_init
  refine ci_new (i := 72) I rfl (by decide) (by decide) (fun h88 I => ?_)
  refine ok_bde rfl ?_
  refine ci_set (a := 71) (k := 0) (b := 72) I (by decide) rfl (fun h89 I => ?_)
  refine ci_new (i := 73) I rfl (by decide) (by decide) (fun h90 I => ?_)
  refine ci_set (a := 71) (k := 1) (b := 73) I (by decide) rfl (fun h91 I => ?_)
  refine ci_new (i := 74) I rfl (by decide) (by decide) (fun h92 I => ?_)
  refine ci_set (a := 71) (k := 2) (b := 74) I (by decide) rfl (fun h93 I => ?_)
  refine ci_new (i := 75) I rfl (by decide) (by decide) (fun h94 I => ?_)
  refine ci_set (a := 71) (k := 3) (b := 75) I (by decide) rfl (fun h95 I => ?_)
  refine ok_ret ?_
  refine ci_set (a := 0) (k := 11) (b := 71) I (by decide) rfl (fun h96 I => ?_)
  refine ci_new (i := 76) I rfl (by decide) (by decide) (fun h97 I => ?_)
  refine ok_bd ?_
  unfold f_G_init
  refine ci_mul I (fun h98 I => ?_)
  refine ci_set (a := 76) (k := 0) (b := 77) I (by decide) rfl (fun h99 I => ?_)
  refine ok_ret ?_
  refine ci_set (a := 0) (k := 12) (b := 76) I (by decide) rfl (fun h100 I => ?_)
  refine ci_new (i := 85) I rfl (by decide) (by decide) (fun h101 I => ?_)
  refine ok_bd ?_
  unfold f_H_init
  refine ci_new (i := 86) I rfl (by decide) (by decide) (fun h102 I => ?_)
  refine ci_set (a := 85) (k := 0) (b := 86) I (by decide) rfl (fun h103 I => ?_)
  refine ci_new (i := 87) I rfl (by decide) (by decide) (fun h104 I => ?_)
  refine ci_set (a := 85) (k := 1) (b := 87) I (by decide) rfl (fun h105 I => ?_)
  refine ok_ret ?_
  refine ci_set (a := 0) (k := 13) (b := 85) I (by decide) rfl (fun h106 I => ?_)
  refine ok_ret ?_
  refine ci_new (i := 88) I rfl (by decide) (by decide) (fun h107 I => ?_)
  refine ok_bd ?_
  unfold f_m_init
  refine ci_int (a := 88) (k := 2) (v := (-1)) I (by decide) rfl (fun h108 I => ?_)
  refine ci_new (i := 89) I rfl (by decide) (by decide) (fun h109 I => ?_)
  refine ci_set (a := 88) (k := 5) (b := 89) I (by decide) rfl (fun h110 I => ?_)
  refine ci_new (i := 90) I rfl (by decide) (by decide) (fun h111 I => ?_)
  refine ci_set (a := 88) (k := 15) (b := 90) I (by decide) rfl (fun h112 I => ?_)
  refine ci_new (i := 91) I rfl (by decide) (by decide) (fun h113 I => ?_)
  refine ci_set (a := 88) (k := 16) (b := 91) I (by decide) rfl (fun h114 I => ?_)
  refine ci_new (i := 92) I rfl (by decide) (by decide) (fun h115 I => ?_)
  refine ci_set (a := 88) (k := 17) (b := 92) I (by decide) rfl (fun h116 I => ?_)
  refine ci_new (i := 93) I rfl (by decide) (by decide) (fun h117 I => ?_)
  refine ci_set (a := 88) (k := 18) (b := 93) I (by decide) rfl (fun h118 I => ?_)
  refine ci_new (i := 94) I rfl (by decide) (by decide) (fun h119 I => ?_)
  refine ci_set (a := 88) (k := 22) (b := 94) I (by decide) rfl (fun h120 I => ?_)
  refine ci_new (i := 95) I rfl (by decide) (by decide) (fun h121 I => ?_)
  refine ci_set (a := 88) (k := 24) (b := 95) I (by decide) rfl (fun h122 I => ?_)
  refine ci_new (i := 96) I rfl (by decide) (by decide) (fun h123 I => ?_)
  refine ci_set (a := 88) (k := 25) (b := 96) I (by decide) rfl (fun h124 I => ?_)
  refine ci_new (i := 97) I rfl (by decide) (by decide) (fun h125 I => ?_)
  refine ci_set (a := 88) (k := 26) (b := 97) I (by decide) rfl (fun h126 I => ?_)
  refine ci_new (i := 98) I rfl (by decide) (by decide) (fun h127 I => ?_)
  refine ci_set (a := 88) (k := 28) (b := 98) I (by decide) rfl (fun h128 I => ?_)
  refine ci_new (i := 99) I rfl (by decide) (by decide) (fun h129 I => ?_)
  refine ci_set (a := 88) (k := 29) (b := 99) I (by decide) rfl (fun h130 I => ?_)
  refine ci_new (i := 100) I rfl (by decide) (by decide) (fun h131 I => ?_)
  refine ci_set (a := 88) (k := 32) (b := 100) I (by decide) rfl (fun h132 I => ?_)
  refine ci_new (i := 101) I rfl (by decide) (by decide) (fun h133 I => ?_)
  refine ci_set (a := 88) (k := 33) (b := 101) I (by decide) rfl (fun h134 I => ?_)
  refine ok_ret ?_
  refine ci_new (i := 102) I rfl (by decide) (by decide) (fun h135 I => ?_)
  refine ok_lt (kk _ ?_)
  exact LX_0 I

