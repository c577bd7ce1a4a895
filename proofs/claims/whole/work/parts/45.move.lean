/-! a turn, on the class's side -/
def tp (D : DD) (w : Nat) (fw : Bool) (b t : Nat) : Nat := rs (dT D w) (dG D w) fw 2 (nx (dT D w) fw b t)
def jk (D : DD) (w : Nat) (fw : Bool) (b t : Nat) : Bool := gb (dG D w) (nx (dT D w) fw b t)
def upV (V : Nat → Nat) (k v : Nat) : Nat → Nat := fun j => if j = k then v else V j
theorem rs_lt {n k t : Nat} {g : Int64} {fw : Bool} (hn : 1 < n) (ht : t < n) : rs n g fw k t < n := by
  induction k generalizing t with
  | zero => exact ht
  | succ k ih =>
    show (if gb g t = true then rs n g fw k (nx n fw 1 t) else t) < n
    by_cases q : gb g t = true
    · rw [if_pos q]
      exact ih (nx_lt ht hn)
    · rw [if_neg q]
      exact ht
theorem tp_lt {D : DD} {w b t : Nat} {fw : Bool} (h1 : 1 < dT D w) (ht : t < dT D w) (hb : b < dT D w) : tp D w fw b t < dT D w := rs_lt h1 (nx_lt ht hb)
/-- the way of wheel w, turned on (s) or back -/
def dir (D : DD) (s : Bool) (w : Nat) : Bool := s == dfw D w
theorem sg_mul (a b : Bool) : sg a * sg b = sg (a == b) := by
  cases a <;> cases b <;> decide
def gnB (D : DD) (V : Nat → Nat) (w : Nat) : Bool := gon (dK D w) (V 0) (V 1)
/-- the tooth on top behind the move, and whether it jerks -/
def mt (D : DD) (s : Bool) (V : Nat → Nat) (w : Nat) : Nat := if gnB D V w = true then tp D w (dir D s w) (dB D w) (V (3 + w)) else V (3 + w)
def mj (D : DD) (s : Bool) (V : Nat → Nat) (w : Nat) : Nat := if gnB D V w = true ∧ jk D w (dir D s w) (dB D w) (V (3 + w)) = true then 1 else 0
def mvV (D : DD) (s : Bool) (V : Nat → Nat) (i : Nat) : Nat → Nat := fun k => if 3 ≤ k ∧ k < 3 + i then mt D s V (k - 3) else V k
def mvJ (D : DD) (s : Bool) (V : Nat → Nat) : Nat → Nat
  | 0 => 0
  | i + 1 => mvJ D s V i + mj D s V i
theorem mvJ_le {D : DD} {s : Bool} {V : Nat → Nat} {i : Nat} : mvJ D s V i ≤ i := by
  induction i with
  | zero => exact Nat.le_refl _
  | succ i ih =>
    show mvJ D s V i + mj D s V i ≤ i + 1
    have : mj D s V i ≤ 1 := by
      unfold mj
      split <;> omega
    omega
theorem mvV_lo {D : DD} {s : Bool} {V : Nat → Nat} {i k : Nat} (h : k < 3) : mvV D s V i k = V k := if_neg (by omega)
theorem mvV_hi {D : DD} {s : Bool} {V : Nat → Nat} {i k : Nat} (h : 3 + i ≤ k) : mvV D s V i k = V k := if_neg (by omega)
theorem mvV_at {D : DD} {s : Bool} {V : Nat → Nat} {i w : Nat} (h : w < i) : mvV D s V i (3 + w) = mt D s V w := by
  show (if 3 ≤ 3 + w ∧ 3 + w < 3 + i then mt D s V (3 + w - 3) else _) = _
  rw [if_pos ⟨by omega, by omega⟩, show 3 + w - 3 = w by omega]
theorem mvV_s {D : DD} {s : Bool} {V : Nat → Nat} {i k : Nat} : mvV D s V (i + 1) k = if k = 3 + i then mt D s V i else mvV D s V i k := by
  by_cases q : k = 3 + i
  · rw [if_pos q, q, mvV_at (by omega)]
  · rw [if_neg q]
    unfold mvV
    by_cases q2 : 3 ≤ k ∧ k < 3 + i
    · rw [if_pos q2, if_pos (by omega)]
    · rw [if_neg q2, if_neg (by omega)]
theorem RepV.up {h : Hp} {r : Nat} {V : Nat → Nat} (v : RepV h r V) (k x : Nat) : RepV (uI h r k (nI x)) r (upV V k x) := by
  refine ⟨v.1, fun j hj => ?_⟩
  by_cases q : j = k
  · rw [q, hI_uIs, upV, if_pos rfl]
  · rw [hI_uIk q, upV, if_neg q]
    exact v.2 j hj
theorem RepV.ext {h : Hp} {r : Nat} {V V' : Nat → Nat} (v : RepV h r V) (e : ∀ k, k < 8 → V k = V' k) : RepV h r V' := ⟨v.1, fun k hk => by rw [← e k hk]; exact v.2 k hk⟩
section PM
variable {h : Hp} {o r : Nat} {D : DD} {V : Nat → Nat}
theorem e_O_moveOne (W : Wf D) (R : RepO h o D) (v : RepV h r V) (hv : WfV D V) {w b : Nat} (hw : w < dW D) (hb : b < dT D w) (fw : Bool) : f_O_moveOne o r (nI w) (nI b) (sg fw) h = some (bI (jk D w fw b (V (3 + w))), uI h r (3 + w) (nI (tp D w fw b (V (3 + w))))) := by
  obtain ⟨w1, w2, -, -, -, -, -, w8, w9, -⟩ := W
  obtain ⟨⟨l1, l2, l3, l4, l5, l6, l7, l8⟩, r1, r2, r3, r4, r5, r6⟩ := R
  have hT := w8 w hw
  have hV := hv.2.2.2 w hw
  have h5 : w < 5 := by omega
  have a1 : ai h (o + 1) 4 (nI w) := ai_of l3 h5 (by decide)
  have a2 : ai h r 0 (nI (3 + w)) := ai_of v.1 (by omega) (by decide)
  have c1 : (nI w).toNatClampNeg = w := nI_clamp (by omega)
  have c2 : (nI (3 + w)).toNatClampNeg = 3 + w := nI_clamp (by omega)
  have e1 := e_W_landing (l8 w h5).2 (r2 w hw).2.1 (by omega) hV hb fw
  have hnx := nx_lt (fw := fw) hV hb
  have e2 := e_W_resting (l8 w h5).2 (r2 w hw).2.1 (r2 w hw).2.2.2.2.2 (by omega) hnx fw
  refine ok_eq ?_
  unfold f_O_moveOne
  refine ok_gd l1 (ok_bR l2.1 (ok_gd a1 ?_))
  rw [c1]
  refine ok_bR (l8 w h5).1 ?_
  rw [nI_i3, c2]
  refine ok_gd a2 (ok_lt ?_)
  rw [v.2 (3 + w) (by omega)]
  refine ok_gd (l8 w h5).2 (ok_bde e1 (ok_gd l1 (ok_bR l2.1 (ok_gd a1 (ok_bR (l8 w h5).1 (ok_gd (l8 w h5).2 (ok_bde e2 (ok_gd a2 (ok_lt (ok_gd l1 (ok_bR l2.1 (ok_gd a1 (ok_bR (l8 w h5).1 (ok_gd (l8 w h5).2 ?_))))))))))))))
  have e3 := e_W_lacks (h := uI h r (3 + w) (nI (rs (dT D w) (dG D w) fw 2 (nx (dT D w) fw b (V (3 + w)))))) (w := o + 10 + w) (l8 w h5).2 (nx (dT D w) fw b (V (3 + w)))
  refine ok_bde e3 (ok_gd ?_ (ok_ret ⟨?_, rfl⟩))
  · split
    · exact zb1
    · exact zb0
  · have e4 : hL (uI h r (3 + w) (nI (rs (dT D w) (dG D w) fw 2 (nx (dT D w) fw b (V (3 + w)))))) (o + 10 + w) 5 = dG D w := (r2 w hw).2.2.2.2.2
    rw [e4]
    rfl
end PM
