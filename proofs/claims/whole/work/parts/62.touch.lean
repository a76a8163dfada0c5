/-! ===== touch ===== -/
def apI (DX DY c s L1 B1 c2 s2 L2 B2 nx ny : Int) : Prop := (L1 * ((c * nx + s * ny).natAbs : Int) + B1 * ((-s * nx + c * ny).natAbs : Int)) + (L2 * ((c2 * nx + s2 * ny).natAbs : Int) + B2 * ((-s2 * nx + c2 * ny).natAbs : Int)) ≤ ((DX * nx + DY * ny).natAbs : Int)
theorem or01 {p q : Prop} {a b : Int32} (ha : (p ∧ a = 1) ∨ (¬ p ∧ a = 0)) (hb : (q ∧ b = 1) ∨ (¬ q ∧ b = 0)) : ((p ∨ q) ∧ a ||| b = 1) ∨ (¬ (p ∨ q) ∧ a ||| b = 0) := by
  rcases ha with ⟨h, rfl⟩ | ⟨h, rfl⟩ <;> rcases hb with ⟨g, rfl⟩ | ⟨g, rfl⟩
  · exact Or.inl ⟨Or.inl h, by decide⟩
  · exact Or.inl ⟨Or.inl h, by decide⟩
  · exact Or.inl ⟨Or.inr g, by decide⟩
  · exact Or.inr ⟨fun z => z.elim h g, by decide⟩
theorem apart01 {dx dy h l1 b1 h2 l2 b2 way : Int32} {DX DY c s L1 B1 c2 s2 L2 B2 nx ny : Int} {MX : Nat} (v1 : V dx DX MX) (v2 : V dy DY MX) (vc : V (f_X12_along h) c 65) (vs : V (f_X12_across h) s 65) (vl : V l1 L1 200) (vb : V b1 B1 200) (vc2 : V (f_X12_along h2) c2 65) (vs2 : V (f_X12_across h2) s2 65) (vl2 : V l2 L2 2000) (vb2 : V b2 B2 2000) (vn : V (f_X12_along way) nx 65) (vm : V (f_X12_across way) ny 65) (hM : MX * 65 + MX * 65 < 2147483648) :
    (apI DX DY c s L1 B1 c2 s2 L2 B2 nx ny ∧ f_X12_areApart dx dy h l1 b1 h2 l2 b2 way = 1) ∨ (¬ apI DX DY c s L1 B1 c2 s2 L2 B2 nx ny ∧ f_X12_areApart dx dy h l1 b1 h2 l2 b2 way = 0) := by
  rw [apart_v v1 v2 vc vs vl vb vc2 vs2 vl2 vb2 vn vm hM]
  unfold apI
  by_cases p : ((DX * nx + DY * ny).natAbs : Int) < (L1 * ((c * nx + s * ny).natAbs : Int) + B1 * ((-s * nx + c * ny).natAbs : Int)) + (L2 * ((c2 * nx + s2 * ny).natAbs : Int) + B2 * ((-s2 * nx + c2 * ny).natAbs : Int))
  · exact Or.inr ⟨Int.not_le.mpr p, if_pos p⟩
  · exact Or.inl ⟨Int.not_lt.mp p, if_neg p⟩
theorem touch_v {dx dy h l1 b1 h2 l2 b2 : Int32} {DX DY c s L1 B1 c2 s2 L2 B2 : Int} {MX : Nat} (v1 : V dx DX MX) (v2 : V dy DY MX) (vc : V (f_X12_along h) c 65) (vs : V (f_X12_across h) s 65) (vc9 : V (f_X12_along (h + 9)) (-s) 65) (vs9 : V (f_X12_across (h + 9)) c 65) (vl : V l1 L1 200) (vb : V b1 B1 200) (vc2 : V (f_X12_along h2) c2 65) (vs2 : V (f_X12_across h2) s2 65) (vc29 : V (f_X12_along (h2 + 9)) (-s2) 65) (vs29 : V (f_X12_across (h2 + 9)) c2 65) (vl2 : V l2 L2 2000) (vb2 : V b2 B2 2000) (hM : MX * 65 + MX * 65 < 2147483648) :
    (((((apI DX DY c s L1 B1 c2 s2 L2 B2 c s ∨ apI DX DY c s L1 B1 c2 s2 L2 B2 (-s) c) ∨ apI DX DY c s L1 B1 c2 s2 L2 B2 c2 s2) ∨ apI DX DY c s L1 B1 c2 s2 L2 B2 (-s2) c2) ∧ f_X12_touch dx dy h l1 b1 h2 l2 b2 = 0)) ∨ (¬ (((apI DX DY c s L1 B1 c2 s2 L2 B2 c s ∨ apI DX DY c s L1 B1 c2 s2 L2 B2 (-s) c) ∨ apI DX DY c s L1 B1 c2 s2 L2 B2 c2 s2) ∨ apI DX DY c s L1 B1 c2 s2 L2 B2 (-s2) c2) ∧ f_X12_touch dx dy h l1 b1 h2 l2 b2 = 1) := by
  have k1 := apart01 v1 v2 vc vs vl vb vc2 vs2 vl2 vb2 vc vs hM
  have k2 := apart01 v1 v2 vc vs vl vb vc2 vs2 vl2 vb2 vc9 vs9 hM
  have k3 := apart01 v1 v2 vc vs vl vb vc2 vs2 vl2 vb2 vc2 vs2 hM
  have k4 := apart01 v1 v2 vc vs vl vb vc2 vs2 vl2 vb2 vc29 vs29 hM
  have k := or01 (or01 (or01 k1 k2) k3) k4
  unfold f_X12_touch
  simp only [q_lt]
  rcases k with ⟨p, e⟩ | ⟨p, e⟩
  · exact Or.inl ⟨p, by rw [e]; rfl⟩
  · exact Or.inr ⟨p, by rw [e]; rfl⟩
/-- the class's rectangle as it was laid: doubled middle, heading, whole sides -/
def Lay (w : Wd) (q : Nat) (X Y h L B : Int32) : Prop := wS w q 0 = X ∧ wS w q 1 = Y ∧ wS w q 2 = f_X12_along h ∧ wS w q 3 = f_X12_across h ∧ wS w q 4 = L ∧ wS w q 5 = B ∧ wS w q 6 = L * f_J9_abs_0f7a4 (f_X12_along h) + B * f_J9_abs_0f7a4 (f_X12_across h) ∧ wS w q 7 = L * f_J9_abs_0f7a4 (f_X12_across h) + B * f_J9_abs_0f7a4 (f_X12_along h)
theorem box_I1 {DX DY c s L B X Y : Int} : apI DX DY c s L B 65 0 X Y 65 0 ↔ (L * (c.natAbs : Int) + B * (s.natAbs : Int)) + 65 * X ≤ ((-DX).natAbs : Int) := by
  unfold apI
  have e1 : ((c * 65 + s * 0).natAbs : Int) = 65 * (c.natAbs : Int) := by omega
  have e2 : ((-s * 65 + c * 0).natAbs : Int) = 65 * (s.natAbs : Int) := by omega
  have e3 : (((65 : Int) * 65 + 0 * 0).natAbs : Int) = 4225 := by decide
  have e4 : ((-0 * 65 + 65 * (0 : Int)).natAbs : Int) = 0 := by decide
  have e5 : ((DX * 65 + DY * 0).natAbs : Int) = 65 * ((-DX).natAbs : Int) := by omega
  rw [e1, e2, e3, e4, e5]
  have f1 : L * (65 * (c.natAbs : Int)) = 65 * (L * (c.natAbs : Int)) := by grind
  have f2 : B * (65 * (s.natAbs : Int)) = 65 * (B * (s.natAbs : Int)) := by grind
  rw [f1, f2]
  generalize L * (c.natAbs : Int) = p
  generalize B * (s.natAbs : Int) = q
  omega
theorem box_I2 {DX DY c s L B X Y : Int} : apI DX DY c s L B 65 0 X Y (-0) 65 ↔ (L * (s.natAbs : Int) + B * (c.natAbs : Int)) + 65 * Y ≤ ((-DY).natAbs : Int) := by
  unfold apI
  have e1 : ((c * (-0) + s * 65).natAbs : Int) = 65 * (s.natAbs : Int) := by omega
  have e2 : ((-s * (-0) + c * 65).natAbs : Int) = 65 * (c.natAbs : Int) := by omega
  have e3 : (((65 : Int) * (-0) + 0 * 65).natAbs : Int) = 0 := by decide
  have e4 : ((-0 * (-0) + 65 * (65 : Int)).natAbs : Int) = 4225 := by decide
  have e5 : ((DX * (-0) + DY * 65).natAbs : Int) = 65 * ((-DY).natAbs : Int) := by omega
  rw [e1, e2, e3, e4, e5]
  have f1 : L * (65 * (s.natAbs : Int)) = 65 * (L * (s.natAbs : Int)) := by grind
  have f2 : B * (65 * (c.natAbs : Int)) = 65 * (B * (c.natAbs : Int)) := by grind
  rw [f1, f2]
  generalize L * (s.natAbs : Int) = p
  generalize B * (c.natAbs : Int) = q
  omega
theorem box_I3 {DX DY c s L B X Y : Int} (h : c * c + s * s = 4225) : apI DX DY c s L B 65 0 X Y c s ↔ L * 4225 + (65 * X) * (c.natAbs : Int) + (65 * Y) * (s.natAbs : Int) ≤ (((-DX) * c + (-DY) * s).natAbs : Int) := by
  unfold apI
  have e1 : ((c * c + s * s).natAbs : Int) = 4225 := by rw [h]; decide
  have e2 : ((-s * c + c * s).natAbs : Int) = 0 := by
    have : -s * c + c * s = 0 := by grind
    rw [this]; decide
  have e3 : (((65 : Int) * c + 0 * s).natAbs : Int) = 65 * (c.natAbs : Int) := by omega
  have e4 : ((-0 * c + 65 * s).natAbs : Int) = 65 * (s.natAbs : Int) := by omega
  have e5 : (((-DX) * c + (-DY) * s).natAbs : Int) = ((DX * c + DY * s).natAbs : Int) := by
    have : (-DX) * c + (-DY) * s = -(DX * c + DY * s) := by grind
    rw [this, Int.natAbs_neg]
  rw [e1, e2, e3, e4, e5]
  have f1 : X * (65 * (c.natAbs : Int)) = 65 * X * (c.natAbs : Int) := by grind
  have f2 : Y * (65 * (s.natAbs : Int)) = 65 * Y * (s.natAbs : Int) := by grind
  rw [f1, f2]
  generalize 65 * X * (c.natAbs : Int) = p
  generalize 65 * Y * (s.natAbs : Int) = q
  omega
theorem box_I4 {DX DY c s L B X Y : Int} (h : c * c + s * s = 4225) : apI DX DY c s L B 65 0 X Y (-s) c ↔ B * 4225 + (65 * X) * (s.natAbs : Int) + (65 * Y) * (c.natAbs : Int) ≤ (((-DY) * c - (-DX) * s).natAbs : Int) := by
  unfold apI
  have e1 : ((c * (-s) + s * c).natAbs : Int) = 0 := by
    have : c * (-s) + s * c = 0 := by grind
    rw [this]; decide
  have e2 : ((-s * (-s) + c * c).natAbs : Int) = 4225 := by
    have : -s * (-s) + c * c = 4225 := by grind
    rw [this]; decide
  have e3 : (((65 : Int) * (-s) + 0 * c).natAbs : Int) = 65 * (s.natAbs : Int) := by omega
  have e4 : ((-0 * (-s) + 65 * c).natAbs : Int) = 65 * (c.natAbs : Int) := by
    have : -0 * (-s) + 65 * c = 65 * c := by grind
    rw [this]; omega
  have e5 : (((-DY) * c - (-DX) * s).natAbs : Int) = ((DX * (-s) + DY * c).natAbs : Int) := by
    have : (-DY) * c - (-DX) * s = -(DX * (-s) + DY * c) := by grind
    rw [this, Int.natAbs_neg]
  rw [e1, e2, e3, e4, e5]
  have f1 : X * (65 * (s.natAbs : Int)) = 65 * X * (s.natAbs : Int) := by grind
  have f2 : Y * (65 * (c.natAbs : Int)) = 65 * Y * (c.natAbs : Int) := by grind
  rw [f1, f2]
  generalize 65 * X * (s.natAbs : Int) = p
  generalize 65 * Y * (c.natAbs : Int) = q
  omega
