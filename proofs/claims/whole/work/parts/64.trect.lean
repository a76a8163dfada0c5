/-! ===== two rectangles ===== -/
def laI (DX DY c s L B c2 s2 L2 B2 : Int) : Prop := L * 4225 + L2 * ((c * c2 + s * s2).natAbs : Int) + B2 * ((c * s2 - s * c2).natAbs : Int) ≤ ((DX * c + DY * s).natAbs : Int) ∨ B * 4225 + L2 * ((c * s2 - s * c2).natAbs : Int) + B2 * ((c * c2 + s * s2).natAbs : Int) ≤ ((DY * c - DX * s).natAbs : Int)
theorem lies01 {w : Wd} {q p : Nat} {X Y h L B X2 Y2 h2 L2 B2 : Int32} {c s c2 s2 : Int} (a : Lay w q X Y h L B) (b : Lay w p X2 Y2 h2 L2 B2) (hL : bt 0 100 L) (hB : bt 0 100 B) (hL2 : bt 0 100 L2) (hB2 : bt 0 100 B2) (hX : bt (-120000) 120000 X) (hY : bt (-120000) 120000 Y) (hX2 : bt (-120000) 120000 X2) (hY2 : bt (-120000) 120000 Y2)
    (vc : V (f_X12_along h) c 65) (vs : V (f_X12_across h) s 65) (vc2 : V (f_X12_along h2) c2 65) (vs2 : V (f_X12_across h2) s2 65) :
    (laI (X2.toInt - X.toInt) (Y2.toInt - Y.toInt) c s L.toInt B.toInt c2 s2 L2.toInt B2.toInt ∧ f_X5_liesApartFrom w q p = 1) ∨ (¬ laI (X2.toInt - X.toInt) (Y2.toInt - Y.toInt) c s L.toInt B.toInt c2 s2 L2.toInt B2.toInt ∧ f_X5_liesApartFrom w q p = 0) := by
  obtain ⟨l0, l1, l2, l3, l4, l5, -, -⟩ := a
  obtain ⟨m0, m1, m2, m3, m4, m5, -, -⟩ := b
  have vL := V.of (M := 100) hL (by decide) (by decide)
  have vB := V.of (M := 100) hB (by decide) (by decide)
  have vL2 := V.of (M := 100) hL2 (by decide) (by decide)
  have vB2 := V.of (M := 100) hB2 (by decide) (by decide)
  have dxv := (V.of (M := 120000) hX2 (by decide) (by decide)).sub (V.of (M := 120000) hX (by decide) (by decide)) (by decide)
  have dyv := (V.of (M := 120000) hY2 (by decide) (by decide)).sub (V.of (M := 120000) hY (by decide) (by decide)) (by decide)
  have k4225 : V (4225 : Int32) 4225 4225 := V.lit (by decide)
  have al := ((vc.mul vc2 (by decide)).add (vs.mul vs2 (by decide)) (by decide)).abs (by decide)
  have ar := ((vc.mul vs2 (by decide)).sub (vs.mul vc2 (by decide)) (by decide)).abs (by decide)
  have q1 := (((vL.mul k4225 (by decide)).add (vL2.mul al (by decide)) (by decide)).add (vB2.mul ar (by decide)) (by decide)).le (((dxv.mul vc (by decide)).add (dyv.mul vs (by decide)) (by decide)).abs (by decide))
  have q2 := (((dyv.mul vc (by decide)).sub (dxv.mul vs (by decide)) (by decide)).abs (by decide)).lt (((vB.mul k4225 (by decide)).add (vL2.mul ar (by decide)) (by decide)).add (vB2.mul al (by decide)) (by decide))
  unfold f_X5_liesApartFrom laI
  simp only [q_lt, l0, l1, l2, l3, l4, l5, m0, m1, m2, m3, m4, m5]
  by_cases c1 : L * 4225 + L2 * f_J9_abs_0f7a4 (f_X12_along h * f_X12_along h2 + f_X12_across h * f_X12_across h2) + B2 * f_J9_abs_0f7a4 (f_X12_along h * f_X12_across h2 - f_X12_across h * f_X12_along h2) ≤ f_J9_abs_0f7a4 ((X2 - X) * f_X12_along h + (Y2 - Y) * f_X12_across h)
  · exact Or.inl ⟨Or.inl (q1.mp c1), if_pos c1⟩
  · rw [if_neg c1]
    by_cases c2 : f_J9_abs_0f7a4 ((Y2 - Y) * f_X12_along h - (X2 - X) * f_X12_across h) < B * 4225 + L2 * f_J9_abs_0f7a4 (f_X12_along h * f_X12_across h2 - f_X12_across h * f_X12_along h2) + B2 * f_J9_abs_0f7a4 (f_X12_along h * f_X12_along h2 + f_X12_across h * f_X12_across h2)
    · refine Or.inr ⟨fun z => ?_, if_pos c2⟩
      rcases z with z | z
      · exact c1 (q1.mpr z)
      · have := q2.mp c2
        omega
    · refine Or.inl ⟨Or.inr (Int.not_lt.mp fun z => c2 (q2.mpr z)), if_neg c2⟩
theorem nsw (a b : Int) : ((a - b).natAbs : Int) = ((b - a).natAbs : Int) := by omega
theorem rect_I1 {DX DY c s L B c2 s2 L2 B2 : Int} (h : c * c + s * s = 4225) : (apI DX DY c s L B c2 s2 L2 B2 c s ∨ apI DX DY c s L B c2 s2 L2 B2 (-s) c) ↔ laI DX DY c s L B c2 s2 L2 B2 := by
  unfold apI laI
  have e1 : c * c + s * s = 4225 := h
  have e2 : -s * c + c * s = 0 := by grind
  have e3 : c2 * c + s2 * s = c * c2 + s * s2 := by grind
  have e4 : -s2 * c + c2 * s = -(c * s2 - s * c2) := by grind
  have e5 : c * (-s) + s * c = 0 := by grind
  have e6 : -s * (-s) + c * c = 4225 := by grind
  have e7 : c2 * (-s) + s2 * c = c * s2 - s * c2 := by grind
  have e8 : -s2 * (-s) + c2 * c = c * c2 + s * s2 := by grind
  have e9 : DX * (-s) + DY * c = DY * c - DX * s := by grind
  have z0 : ((0 : Int).natAbs : Int) = 0 := by decide
  have z1 : ((4225 : Int).natAbs : Int) = 4225 := by decide
  rw [e1, e2, e3, e4, e5, e6, e7, e8, e9, Int.natAbs_neg, z0, z1]
  generalize L2 * ((c * c2 + s * s2).natAbs : Int) = p1
  generalize B2 * ((c * s2 - s * c2).natAbs : Int) = p2
  generalize L2 * ((c * s2 - s * c2).natAbs : Int) = p3
  generalize B2 * ((c * c2 + s * s2).natAbs : Int) = p4
  constructor
  · rintro (z | z)
    · exact Or.inl (by omega)
    · exact Or.inr (by omega)
  · rintro (z | z)
    · exact Or.inl (by omega)
    · exact Or.inr (by omega)
theorem rect_I2 {DX DY c s L B c2 s2 L2 B2 : Int} (h : c2 * c2 + s2 * s2 = 4225) : (apI DX DY c s L B c2 s2 L2 B2 c2 s2 ∨ apI DX DY c s L B c2 s2 L2 B2 (-s2) c2) ↔ laI (-DX) (-DY) c2 s2 L2 B2 c s L B := by
  unfold apI laI
  have e1 : c2 * c2 + s2 * s2 = 4225 := h
  have e2 : -s2 * c2 + c2 * s2 = 0 := by grind
  have e3 : c * c2 + s * s2 = c2 * c + s2 * s := by grind
  have e4 : -s * c2 + c * s2 = -(c2 * s - s2 * c) := by grind
  have e5 : c2 * (-s2) + s2 * c2 = 0 := by grind
  have e6 : -s2 * (-s2) + c2 * c2 = 4225 := by grind
  have e7 : c * (-s2) + s * c2 = c2 * s - s2 * c := by grind
  have e8 : -s * (-s2) + c * c2 = c2 * c + s2 * s := by grind
  have e9 : DX * (-s2) + DY * c2 = -(-DY * c2 - -DX * s2) := by grind
  have e10 : DX * c2 + DY * s2 = -(-DX * c2 + -DY * s2) := by grind
  have z0 : ((0 : Int).natAbs : Int) = 0 := by decide
  have z1 : ((4225 : Int).natAbs : Int) = 4225 := by decide
  rw [e1, e2, e3, e4, e5, e6, e7, e8, e9, e10, Int.natAbs_neg, Int.natAbs_neg, Int.natAbs_neg, z0, z1]
  generalize L * ((c2 * c + s2 * s).natAbs : Int) = p1
  generalize B * ((c2 * s - s2 * c).natAbs : Int) = p2
  generalize L * ((c2 * s - s2 * c).natAbs : Int) = p3
  generalize B * ((c2 * c + s2 * s).natAbs : Int) = p4
  constructor
  · rintro (z | z)
    · exact Or.inl (by omega)
    · exact Or.inr (by omega)
  · rintro (z | z)
    · exact Or.inl (by omega)
    · exact Or.inr (by omega)
theorem rectTouch {w : Wd} {q p : Nat} {X Y h L B X2 Y2 h2 L2 B2 : Int32} (a : Lay w q X Y h L B) (b : Lay w p X2 Y2 h2 L2 B2) (hL : bt 0 100 L) (hB : bt 0 100 B) (hL2 : bt 0 100 L2) (hB2 : bt 0 100 B2) (hX : bt (-120000) 120000 X) (hY : bt (-120000) 120000 Y) (hX2 : bt (-120000) 120000 X2) (hY2 : bt (-120000) 120000 Y2) (hh : bt (-100) 100 h) (hh2 : bt (-100) 100 h2) :
    f_X12_touch (X2 - X) (Y2 - Y) h L B h2 L2 B2 = if f_X5_liesApartFrom w q p = 0 then (if f_X5_liesApartFrom w p q = 0 then 1 else 0) else 0 := by
  obtain ⟨c, s, vc, vs, vc9, vs9, hcs⟩ := tr_v (bt_w hh (by decide) (by decide))
  obtain ⟨c2, s2, vc2, vs2, vc29, vs29, hcs2⟩ := tr_v (bt_w hh2 (by decide) (by decide))
  have dxv := (V.of (M := 120000) hX2 (by decide) (by decide)).sub (V.of (M := 120000) hX (by decide) (by decide)) (by decide)
  have dyv := (V.of (M := 120000) hY2 (by decide) (by decide)).sub (V.of (M := 120000) hY (by decide) (by decide)) (by decide)
  have T := touch_v dxv dyv vc vs vc9 vs9 ((V.of (M := 100) hL (by decide) (by decide)).wk (by decide)) ((V.of (M := 100) hB (by decide) (by decide)).wk (by decide)) vc2 vs2 vc29 vs29 ((V.of (M := 100) hL2 (by decide) (by decide)).wk (by decide)) ((V.of (M := 100) hB2 (by decide) (by decide)).wk (by decide)) (by decide)
  rw [or_assoc, rect_I1 hcs, rect_I2 hcs2] at T
  have A := lies01 a b hL hB hL2 hB2 hX hY hX2 hY2 vc vs vc2 vs2
  have B := lies01 b a hL2 hB2 hL hB hX2 hY2 hX hY vc2 vs2 vc vs
  have n1 : X.toInt - X2.toInt = -(X2.toInt - X.toInt) := by omega
  have n2 : Y.toInt - Y2.toInt = -(Y2.toInt - Y.toInt) := by omega
  rw [n1, n2] at B
  rcases A with ⟨a1, a2⟩ | ⟨a1, a2⟩
  · rw [a2, if_neg one0]
    rcases T with ⟨t1, t2⟩ | ⟨t1, t2⟩
    · exact t2
    · exact absurd (Or.inl a1) t1
  · rw [a2, if_pos rfl]
    rcases B with ⟨b1, b2⟩ | ⟨b1, b2⟩
    · rw [b2, if_neg one0]
      rcases T with ⟨t1, t2⟩ | ⟨t1, t2⟩
      · exact t2
      · exact absurd (Or.inr b1) t1
    · rw [b2, if_pos rfl]
      rcases T with ⟨t1, t2⟩ | ⟨t1, t2⟩
      · exact absurd t1 (fun z => z.elim a1 b1)
      · exact t2
