/-! bits -/
theorem sh64 : ∀ t, t < 64 → (((nI t).toInt64 &&& 63).toBitVec.smod 64).toNat = t := by decide +kernel
theorem shr_b0 (g : Int64) (t : Nat) (ht : t < 64) (i : Nat) (hi : i < 64) : ((g >>> ((nI t).toInt64 &&& 63)) &&& 1).toBitVec.getLsbD i = (decide (i = 0) && g.toBitVec.getLsbD t) := by
  have e := sh64 t ht
  rw [Int64.toBitVec_and, Int64.toBitVec_shiftRight]
  have e2 : g.toBitVec.sshiftRight' (((nI t).toInt64 &&& 63).toBitVec.smod 64) = g.toBitVec.sshiftRight t := by
    show g.toBitVec.sshiftRight _ = _
    rw [e]
  rw [e2, BitVec.getLsbD_and, BitVec.getLsbD_sshiftRight]
  show (_ && (1#64).getLsbD i) = _
  cases i with
  | zero => simp [ht]
  | succ i => simp
theorem gb_one (g : Int64) (t : Nat) (ht : t < 64) : ((g >>> ((nI t).toInt64 &&& 63)) &&& 1 = 1) ↔ g.toBitVec.getLsbD t = true := by
  rw [← Int64.toBitVec_inj]
  constructor
  · intro q
    have q2 := congrArg (fun b => BitVec.getLsbD b 0) q
    have q3 : ((g >>> ((nI t).toInt64 &&& 63)) &&& 1).toBitVec.getLsbD 0 = true := q2
    rw [shr_b0 g t ht 0 (by decide)] at q3
    simpa using q3
  · intro q
    apply BitVec.eq_of_getLsbD_eq
    intro i hi
    rw [shr_b0 g t ht i hi, q]
    show _ = (1#64).getLsbD i
    cases i with
    | zero => rfl
    | succ i => simp
theorem gb_zero (g : Int64) (t : Nat) (ht : t < 64) : ((g >>> ((nI t).toInt64 &&& 63)) &&& 1 = 0) ↔ g.toBitVec.getLsbD t = false := by
  rw [← Int64.toBitVec_inj]
  constructor
  · intro q
    have q2 := congrArg (fun b => BitVec.getLsbD b 0) q
    have q3 : ((g >>> ((nI t).toInt64 &&& 63)) &&& 1).toBitVec.getLsbD 0 = false := q2
    rw [shr_b0 g t ht 0 (by decide)] at q3
    simpa using q3
  · intro q
    apply BitVec.eq_of_getLsbD_eq
    intro i hi
    rw [shr_b0 g t ht i hi, q]
    show _ = (0#64).getLsbD i
    simp
theorem sl_bit (u : Nat) (hu : u < 64) (t : Nat) (ht : t < 64) : ((1 : Int64) <<< ((nI u).toInt64 &&& 63)).toBitVec.getLsbD t = decide (t = u) := by
  rw [Int64.toBitVec_shiftLeft]
  have e := sh64 u hu
  show ((1#64).shiftLeft (((nI u).toInt64 &&& 63).toBitVec.smod 64).toNat).getLsbD t = _
  rw [e]
  show ((1#64) <<< u).getLsbD t = _
  rw [BitVec.getLsbD_shiftLeft]
  by_cases q : t = u
  · subst q; simp [ht]
  · by_cases q2 : t < u
    · simp [q2, q]
    · have : t - u ≠ 0 := by omega
      simp [q, q2, ht, this]
theorem shi32 : ∀ t, t < 32 → ((nI t &&& 31).toBitVec.smod 32).toNat = t := by decide +kernel
theorem shi_b0 (g : Int32) (t : Nat) (ht : t < 32) (i : Nat) (hi : i < 32) : ((g >>> (nI t &&& 31)) &&& 1).toBitVec.getLsbD i = (decide (i = 0) && g.toBitVec.getLsbD t) := by
  have e := shi32 t ht
  rw [Int32.toBitVec_and, Int32.toBitVec_shiftRight]
  have e2 : g.toBitVec.sshiftRight' ((nI t &&& 31).toBitVec.smod 32) = g.toBitVec.sshiftRight t := by
    show g.toBitVec.sshiftRight _ = _
    rw [e]
  rw [e2, BitVec.getLsbD_and, BitVec.getLsbD_sshiftRight]
  show (_ && (1#32).getLsbD i) = _
  cases i with
  | zero => simp [ht]
  | succ i => simp
theorem bt_one (g : Int32) (t : Nat) (ht : t < 32) : ((g >>> (nI t &&& 31)) &&& 1 = 1) ↔ g.toBitVec.getLsbD t = true := by
  rw [← Int32.toBitVec_inj]
  constructor
  · intro q
    have q2 := congrArg (fun b => BitVec.getLsbD b 0) q
    have q3 : ((g >>> (nI t &&& 31)) &&& 1).toBitVec.getLsbD 0 = true := q2
    rw [shi_b0 g t ht 0 (by decide)] at q3
    simpa using q3
  · intro q
    apply BitVec.eq_of_getLsbD_eq
    intro i hi
    rw [shi_b0 g t ht i hi, q]
    show _ = (1#32).getLsbD i
    cases i with
    | zero => rfl
    | succ i => simp
theorem bt_zero (g : Int32) (t : Nat) (ht : t < 32) : ((g >>> (nI t &&& 31)) &&& 1 = 0) ↔ g.toBitVec.getLsbD t = false := by
  rw [← Int32.toBitVec_inj]
  constructor
  · intro q
    have q2 := congrArg (fun b => BitVec.getLsbD b 0) q
    have q3 : ((g >>> (nI t &&& 31)) &&& 1).toBitVec.getLsbD 0 = false := q2
    rw [shi_b0 g t ht 0 (by decide)] at q3
    simpa using q3
  · intro q
    apply BitVec.eq_of_getLsbD_eq
    intro i hi
    rw [shi_b0 g t ht i hi, q]
    show _ = (0#32).getLsbD i
    simp
theorem sl_bit32 (u : Nat) (hu : u < 32) (t : Nat) (ht : t < 32) : ((1 : Int32) <<< (nI u &&& 31)).toBitVec.getLsbD t = decide (t = u) := by
  rw [Int32.toBitVec_shiftLeft]
  have e := shi32 u hu
  show ((1#32).shiftLeft ((nI u &&& 31).toBitVec.smod 32).toNat).getLsbD t = _
  rw [e]
  show ((1#32) <<< u).getLsbD t = _
  rw [BitVec.getLsbD_shiftLeft]
  by_cases q : t = u
  · subst q; simp [ht]
  · by_cases q2 : t < u
    · simp [q2, q]
    · have : t - u ≠ 0 := by omega
      simp [q, q2, ht, this]
/-- a tooth's bit, both ways -/
theorem gb_bit (g : Int64) {t : Nat} (ht : t < 64) : gb g t = g.toBitVec.getLsbD t := by
  unfold gb
  cases e : g.toBitVec.getLsbD t with
  | true => exact decide_eq_true ((lg_cmp_eq _ _).mpr ((gb_one g t ht).mpr e))
  | false =>
    refine decide_eq_false (fun q => ?_)
    have := (gb_one g t ht).mp ((lg_cmp_eq _ _).mp q)
    rw [e] at this
    cases this
theorem gb_or (a b : Int64) {t : Nat} (ht : t < 64) : gb (a ||| b) t = (gb a t || gb b t) := by
  rw [gb_bit _ ht, gb_bit _ ht, gb_bit _ ht, Int64.toBitVec_or, BitVec.getLsbD_or]
theorem gb_sl {u t : Nat} (hu : u < 64) (ht : t < 64) : gb ((1 : Int64) <<< ((nI u).toInt64 &&& 63)) t = decide (t = u) := by
  rw [gb_bit _ ht, sl_bit u hu t ht]
theorem gb_0 {t : Nat} (ht : t < 64) : gb 0 t = false := by
  rw [gb_bit _ ht]
  show (0#64).getLsbD t = false
  simp
theorem gb_z (g : Int64) {t : Nat} (ht : t < 64) : (lg_cmp ((g >>> ((nI t).toInt64 &&& 63)) &&& 1) 0 = 0) ↔ gb g t = false := by
  rw [lg_cmp_eq, gb_zero g t ht, gb_bit g ht]
theorem bt_bit (g : Int32) {t : Nat} (ht : t < 32) : bt g t = g.toBitVec.getLsbD t := by
  unfold bt
  cases e : g.toBitVec.getLsbD t with
  | true => exact decide_eq_true ((bt_one g t ht).mpr e)
  | false =>
    refine decide_eq_false (fun q => ?_)
    have := (bt_one g t ht).mp q
    rw [e] at this
    cases this
theorem bt_or (a b : Int32) {t : Nat} (ht : t < 32) : bt (a ||| b) t = (bt a t || bt b t) := by
  rw [bt_bit _ ht, bt_bit _ ht, bt_bit _ ht, Int32.toBitVec_or, BitVec.getLsbD_or]
theorem bt_sl {u t : Nat} (hu : u < 32) (ht : t < 32) : bt ((1 : Int32) <<< (nI u &&& 31)) t = decide (t = u) := by
  rw [bt_bit _ ht, sl_bit32 u hu t ht]
theorem bt_0 {t : Nat} (ht : t < 32) : bt 0 t = false := by
  rw [bt_bit _ ht]
  show (0#32).getLsbD t = false
  simp
theorem bt_orB (P : Nat → Bool) {n k : Nat} (hn : n < 32) (hk : k < 32) : bt (orB P n) k = (decide (k < n) && P k) := by
  induction n with
  | zero =>
    show bt 0 k = _
    rw [bt_0 hk]
    simp
  | succ n ih =>
    have ih := ih (by omega)
    show bt (if P n = true then orB P n ||| ((1 : Int32) <<< (nI n &&& 31)) else orB P n) k = _
    by_cases q : P n = true
    · rw [if_pos q, bt_or _ _ hk, ih, bt_sl (by omega) hk]
      by_cases e : k = n
      · subst e
        simp [q]
      · by_cases e2 : k < n
        · simp [e, e2, show k < n + 1 by omega]
        · simp [e, e2, show ¬ k < n + 1 by omega]
    · rw [if_neg q, ih]
      by_cases e : k = n
      · subst e
        simp [q]
      · by_cases e2 : k < n
        · simp [e2, show k < n + 1 by omega]
        · simp [e2, show ¬ k < n + 1 by omega]
