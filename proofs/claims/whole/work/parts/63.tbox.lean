/-! ===== the class's touchesBox is the reference's touch ===== -/
theorem touchBox_eq {w : Wd} {q k : Nat} {X Y h L B o : Int32} (lay : Lay w q X Y h L B) (bx : bxO w k) (ho : bt 0 9 o) (hL : bt 0 100 L) (hB : bt 0 100 B) (hX : bt (-120000) 120000 X) (hY : bt (-120000) 120000 Y) (hh : bt (-100) 100 h) :
    f_X5_touchesBox w q k o = f_X12_touch (65 * (wS w k 0 + wS w k 2) - X) (65 * (wS w k 1 + wS w k 3) - Y) h L B 0 (wS w k 2 - wS w k 0 + 2 * o) (wS w k 3 - wS w k 1 + 2 * o) := by
  obtain ⟨c, s, vc, vs, vc9, vs9, hcs⟩ := tr_v (bt_w hh (by decide) (by decide))
  obtain ⟨b0, b1, b2, b3, -, -⟩ := bx
  obtain ⟨l0, l1, l2, l3, l4, l5, l6, l7⟩ := lay
  have v0 := V.of (M := 500) b0 (by decide) (by decide)
  have v1 := V.of (M := 500) b1 (by decide) (by decide)
  have v2 := V.of (M := 500) b2 (by decide) (by decide)
  have v3 := V.of (M := 500) b3 (by decide) (by decide)
  have vo := V.of (M := 9) ho (by decide) (by decide)
  have vL := V.of (M := 100) hL (by decide) (by decide)
  have vB := V.of (M := 100) hB (by decide) (by decide)
  have vX := V.of (M := 120000) hX (by decide) (by decide)
  have vY := V.of (M := 120000) hY (by decide) (by decide)
  have k65 : V (65 : Int32) 65 65 := V.lit (by decide)
  have k2 : V (2 : Int32) 2 2 := V.lit (by decide)
  have k4225 : V (4225 : Int32) 4225 4225 := V.lit (by decide)
  have z1 : V (f_X12_along 0) 65 65 := V.lit (by decide)
  have z2 : V (f_X12_across 0) 0 65 := (V.lit (z := 0) (by decide)).wk (by decide)
  have z3 : V (f_X12_along (0 + 9)) (-0) 65 := (V.lit (z := -0) (by decide)).wk (by decide)
  have z4 : V (f_X12_across (0 + 9)) 65 65 := V.lit (by decide)
  have wx := (v2.sub v0 (by decide)).add (k2.mul vo (by decide)) (by decide)
  have wy := (v3.sub v1 (by decide)).add (k2.mul vo (by decide)) (by decide)
  have DXv := (k65.mul (v0.add v2 (by decide)) (by decide)).sub vX (by decide)
  have DYv := (k65.mul (v1.add v3 (by decide)) (by decide)).sub vY (by decide)
  have dxv := (vX.sub (k65.mul (v0.add v2 (by decide)) (by decide)) (by decide)).to (y := -(65 * ((wS w k 0).toInt + (wS w k 2).toInt) - X.toInt)) (by omega)
  have dyv := (vY.sub (k65.mul (v1.add v3 (by decide)) (by decide)) (by decide)).to (y := -(65 * ((wS w k 1).toInt + (wS w k 3).toInt) - Y.toInt)) (by omega)
  have T := touch_v (MX := 190000) (DXv.wk (by decide)) (DYv.wk (by decide)) vc vs vc9 vs9 (vL.wk (by decide)) (vB.wk (by decide)) z1 z2 z3 z4 (wx.wk (by decide)) (wy.wk (by decide)) (by decide)
  rw [box_I1, box_I2, box_I3 hcs, box_I4 hcs] at T
  have ac := vc.abs (by decide)
  have as := vs.abs (by decide)
  have wide := k65.mul wx (by decide)
  have deep := k65.mul wy (by decide)
  have q1 := (((vL.mul ac (by decide)).add (vB.mul as (by decide)) (by decide)).add wide (by decide)).le (dxv.abs (by decide))
  have q2 := (dyv.abs (by decide)).lt (((vL.mul as (by decide)).add (vB.mul ac (by decide)) (by decide)).add deep (by decide))
  have q3 := (((vL.mul k4225 (by decide)).add (wide.mul ac (by decide)) (by decide)).add (deep.mul as (by decide)) (by decide)).le (((dxv.mul vc (by decide)).add (dyv.mul vs (by decide)) (by decide)).abs (by decide))
  have q4 := (((vB.mul k4225 (by decide)).add (wide.mul as (by decide)) (by decide)).add (deep.mul ac (by decide)) (by decide)).le (((dyv.mul vc (by decide)).sub (dxv.mul vs (by decide)) (by decide)).abs (by decide))
  unfold f_X5_touchesBox
  simp only [q_lt, l0, l1, l2, l3, l4, l5, l6, l7]
  rcases T with ⟨p, e⟩ | ⟨p, e⟩
  · rw [e]
    by_cases c1 : L * f_J9_abs_0f7a4 (f_X12_along h) + B * f_J9_abs_0f7a4 (f_X12_across h) + 65 * (wS w k 2 - wS w k 0 + 2 * o) ≤ f_J9_abs_0f7a4 (X - 65 * (wS w k 0 + wS w k 2))
    · rw [if_pos c1]
    rw [if_neg c1]
    by_cases c2 : f_J9_abs_0f7a4 (Y - 65 * (wS w k 1 + wS w k 3)) < L * f_J9_abs_0f7a4 (f_X12_across h) + B * f_J9_abs_0f7a4 (f_X12_along h) + 65 * (wS w k 3 - wS w k 1 + 2 * o)
    · rw [if_pos c2]
      by_cases c3 : L * 4225 + 65 * (wS w k 2 - wS w k 0 + 2 * o) * f_J9_abs_0f7a4 (f_X12_along h) + 65 * (wS w k 3 - wS w k 1 + 2 * o) * f_J9_abs_0f7a4 (f_X12_across h) ≤ f_J9_abs_0f7a4 ((X - 65 * (wS w k 0 + wS w k 2)) * f_X12_along h + (Y - 65 * (wS w k 1 + wS w k 3)) * f_X12_across h)
      · rw [if_pos c3]
      rw [if_neg c3]
      by_cases c4 : B * 4225 + 65 * (wS w k 2 - wS w k 0 + 2 * o) * f_J9_abs_0f7a4 (f_X12_across h) + 65 * (wS w k 3 - wS w k 1 + 2 * o) * f_J9_abs_0f7a4 (f_X12_along h) ≤ f_J9_abs_0f7a4 ((Y - 65 * (wS w k 1 + wS w k 3)) * f_X12_along h - (X - 65 * (wS w k 0 + wS w k 2)) * f_X12_across h)
      · rw [if_pos c4]
      exfalso
      rcases p with ((p | p) | p) | p
      · exact c3 (q3.mpr p)
      · exact c4 (q4.mpr p)
      · exact c1 (q1.mpr p)
      · have := q2.mp c2
        omega
    · rw [if_neg c2]
  · rw [e]
    have c1 : ¬ (L * f_J9_abs_0f7a4 (f_X12_along h) + B * f_J9_abs_0f7a4 (f_X12_across h) + 65 * (wS w k 2 - wS w k 0 + 2 * o) ≤ f_J9_abs_0f7a4 (X - 65 * (wS w k 0 + wS w k 2))) := fun z => p (Or.inl (Or.inr (q1.mp z)))
    have c2 : f_J9_abs_0f7a4 (Y - 65 * (wS w k 1 + wS w k 3)) < L * f_J9_abs_0f7a4 (f_X12_across h) + B * f_J9_abs_0f7a4 (f_X12_along h) + 65 * (wS w k 3 - wS w k 1 + 2 * o) := q2.mpr (Int.not_le.mp fun z => p (Or.inr z))
    have c3 : ¬ (L * 4225 + 65 * (wS w k 2 - wS w k 0 + 2 * o) * f_J9_abs_0f7a4 (f_X12_along h) + 65 * (wS w k 3 - wS w k 1 + 2 * o) * f_J9_abs_0f7a4 (f_X12_across h) ≤ f_J9_abs_0f7a4 ((X - 65 * (wS w k 0 + wS w k 2)) * f_X12_along h + (Y - 65 * (wS w k 1 + wS w k 3)) * f_X12_across h)) := fun z => p (Or.inl (Or.inl (Or.inl (q3.mp z))))
    have c4 : ¬ (B * 4225 + 65 * (wS w k 2 - wS w k 0 + 2 * o) * f_J9_abs_0f7a4 (f_X12_across h) + 65 * (wS w k 3 - wS w k 1 + 2 * o) * f_J9_abs_0f7a4 (f_X12_along h) ≤ f_J9_abs_0f7a4 ((Y - 65 * (wS w k 1 + wS w k 3)) * f_X12_along h - (X - 65 * (wS w k 0 + wS w k 2)) * f_X12_across h)) := fun z => p (Or.inl (Or.inl (Or.inr (q4.mp z))))
    rw [if_neg c1, if_pos c2, if_neg c3, if_neg c4]
