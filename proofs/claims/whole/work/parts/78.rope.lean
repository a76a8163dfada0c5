/-! ===== a rope bites a house: class's line against the reference's goesThrough ===== -/
def V6 (a : Int64) (z : Int) (M : Nat) : Prop := a.toInt = z ∧ z.natAbs ≤ M
theorem bmod64 {z : Int} {M : Nat} (h : z.natAbs ≤ M) (hM : M < 4000000000000000000) : z.bmod (2 ^ 64) = z := Int.bmod_eq_of_le (by omega) (by omega)
theorem V6.of {a : Int32} {z : Int} {M : Nat} (h : V a z M) : V6 a.toInt64 z M := ⟨by rw [Int32.toInt_toInt64]; exact h.1, h.2⟩
theorem V6.sub {a b : Int64} {x y : Int} {M N : Nat} (h : V6 a x M) (g : V6 b y N) (k : M + N < 4000000000000000000) : V6 (a - b) (x - y) (M + N) := by
  have hb : (x - y).natAbs ≤ M + N := by have := h.2; have := g.2; omega
  refine ⟨?_, hb⟩
  rw [Int64.toInt_sub, h.1, g.1]
  exact bmod64 hb k
theorem V6.mul {a b : Int64} {x y : Int} {M N : Nat} (h : V6 a x M) (g : V6 b y N) (k : M * N < 4000000000000000000) : V6 (a * b) (x * y) (M * N) := by
  have hb : (x * y).natAbs ≤ M * N := by
    rw [Int.natAbs_mul]
    exact Nat.mul_le_mul h.2 g.2
  refine ⟨?_, hb⟩
  rw [Int64.toInt_mul, h.1, g.1]
  exact bmod64 hb k
theorem V6.cmp {a : Int64} {x : Int} {M : Nat} (h : V6 a x M) : ((lg_cmp a 0 < 0) ↔ x < 0) ∧ ((0 < lg_cmp a 0) ↔ 0 < x) ∧ ((0 ≤ lg_cmp a 0) ↔ 0 ≤ x) ∧ ((lg_cmp a 0 ≤ 0) ↔ x ≤ 0) := by
  have z : (0 : Int64).toInt = 0 := by decide
  have n1 : (-1 : Int32) < 0 := by decide
  have n2 : ¬ (0 : Int32) < -1 := by decide
  have n3 : ¬ (0 : Int32) ≤ -1 := by decide
  have n4 : (-1 : Int32) ≤ 0 := by decide
  have p1 : ¬ (1 : Int32) < 0 := by decide
  have p2 : (0 : Int32) < 1 := by decide
  have p3 : (0 : Int32) ≤ 1 := by decide
  have p4 : ¬ (1 : Int32) ≤ 0 := by decide
  have o1 : ¬ (0 : Int32) < 0 := by decide
  have o3 : (0 : Int32) ≤ 0 := by decide
  rcases Int.lt_trichotomy x 0 with y | y | y
  · have y1 : a < 0 := by rw [Int64.lt_iff_toInt_lt, h.1, z]; exact y
    have y2 : ¬ a = 0 := by rw [← Int64.toInt_inj, h.1, z]; omega
    have y3 : ¬ (0 : Int64) < a := by rw [Int64.lt_iff_toInt_lt, h.1, z]; omega
    have e : lg_cmp a 0 = -1 := by unfold lg_cmp; rw [if_neg y3, if_neg y2]
    rw [e]
    exact ⟨⟨fun _ => y, fun _ => n1⟩, ⟨fun q => absurd q n2, fun q => by omega⟩, ⟨fun q => absurd q n3, fun q => by omega⟩, ⟨fun _ => by omega, fun _ => n4⟩⟩
  · have y1 : a = 0 := by rw [← Int64.toInt_inj, h.1, z]; exact y
    have e : lg_cmp a 0 = 0 := by rw [y1]; decide
    rw [e]
    exact ⟨⟨fun q => absurd q o1, fun q => by omega⟩, ⟨fun q => absurd q o1, fun q => by omega⟩, ⟨fun _ => by omega, fun _ => o3⟩, ⟨fun _ => by omega, fun _ => o3⟩⟩
  · have y1 : ¬ a < 0 := by rw [Int64.lt_iff_toInt_lt, h.1, z]; omega
    have y2 : ¬ a = 0 := by rw [← Int64.toInt_inj, h.1, z]; omega
    have y3 : (0 : Int64) < a := by rw [Int64.lt_iff_toInt_lt, h.1, z]; exact y
    have e : lg_cmp a 0 = 1 := by unfold lg_cmp; rw [if_pos y3]
    rw [e]
    exact ⟨⟨fun q => absurd q p1, fun q => by omega⟩, ⟨fun _ => y, fun _ => p2⟩, ⟨fun _ => by omega, fun _ => p3⟩, ⟨fun q => absurd q p4, fun q => by omega⟩⟩
theorem z0v : V (0 : Int32) 0 0 := ⟨by decide, by decide⟩
/-- the class's line, as whole numbers -/
theorem line_c {w : Wd} {k : Nat} {X Y h L : Int32} {c s x0 x1 y0 y1 PX PY : Int} (lay : Lay w 23 X Y h L 0) (hL : V L L.toInt 60) (vc : V (f_X12_along h) c 65) (vs : V (f_X12_across h) s 65) (v0 : V (wS w k 0) x0 500) (v1 : V (wS w k 1) y0 500) (v2 : V (wS w k 2) x1 500) (v3 : V (wS w k 3) y1 500) (vX : V X (2 * PX + L.toInt * c) 130000) (vY : V Y (2 * PY + L.toInt * s) 130000) :
    f_X5_touchesBox w 23 k 0 = if (((2 * PX + L.toInt * c - (65 * x0 + 65 * x1)).natAbs : Int) < L.toInt * (c.natAbs : Int) + (65 * x1 - 65 * x0)) ∧ (((2 * PY + L.toInt * s - (65 * y0 + 65 * y1)).natAbs : Int) < L.toInt * (s.natAbs : Int) + (65 * y1 - 65 * y0)) ∧ (((2 * PX + L.toInt * c - (65 * x0 + 65 * x1)) * c + (2 * PY + L.toInt * s - (65 * y0 + 65 * y1)) * s).natAbs : Int) < L.toInt * 4225 + (65 * x1 - 65 * x0) * (c.natAbs : Int) + (65 * y1 - 65 * y0) * (s.natAbs : Int) ∧ (((2 * PY + L.toInt * s - (65 * y0 + 65 * y1)) * c - (2 * PX + L.toInt * c - (65 * x0 + 65 * x1)) * s).natAbs : Int) < (65 * x1 - 65 * x0) * (s.natAbs : Int) + (65 * y1 - 65 * y0) * (c.natAbs : Int) then 1 else 0 := by
  obtain ⟨l0, l1, l2, l3, l4, l5, l6, l7⟩ := lay
  have k65 : V (65 : Int32) 65 65 := V.lit (by decide)
  have k2 : V (2 : Int32) 2 2 := V.lit (by decide)
  have k4225 : V (4225 : Int32) 4225 4225 := V.lit (by decide)
  have ac := vc.abs (by decide)
  have as := vs.abs (by decide)
  have wide := (k65.mul ((v2.sub v0 (by decide)).add (k2.mul z0v (by decide)) (by decide)) (by decide)).to (y := 65 * x1 - 65 * x0) (by omega)
  have deep := (k65.mul ((v3.sub v1 (by decide)).add (k2.mul z0v (by decide)) (by decide)) (by decide)).to (y := 65 * y1 - 65 * y0) (by omega)
  have dxv := (vX.sub (k65.mul (v0.add v2 (by decide)) (by decide)) (by decide)).to (y := 2 * PX + L.toInt * c - (65 * x0 + 65 * x1)) (by omega)
  have dyv := (vY.sub (k65.mul (v1.add v3 (by decide)) (by decide)) (by decide)).to (y := 2 * PY + L.toInt * s - (65 * y0 + 65 * y1)) (by omega)
  have q1 := (((hL.mul ac (by decide)).add (z0v.mul as (by decide)) (by decide)).add wide (by decide)).le (dxv.abs (by decide))
  have q2 := (dyv.abs (by decide)).lt (((hL.mul as (by decide)).add (z0v.mul ac (by decide)) (by decide)).add deep (by decide))
  have q3 := (((hL.mul k4225 (by decide)).add (wide.mul ac (by decide)) (by decide)).add (deep.mul as (by decide)) (by decide)).le (((dxv.mul vc (by decide)).add (dyv.mul vs (by decide)) (by decide)).abs (by decide))
  have q4 := (((z0v.mul k4225 (by decide)).add (wide.mul as (by decide)) (by decide)).add (deep.mul ac (by decide)) (by decide)).le (((dyv.mul vc (by decide)).sub (dxv.mul vs (by decide)) (by decide)).abs (by decide))
  unfold f_X5_touchesBox
  simp only [q_lt, l0, l1, l2, l3, l4, l5, l6, l7]
  simp only [q1, q2, q3, q4]
  generalize (65 * x1 - 65 * x0) * (c.natAbs : Int) = u1
  generalize (65 * x1 - 65 * x0) * (s.natAbs : Int) = u2
  generalize (65 * y1 - 65 * y0) * (c.natAbs : Int) = u3
  generalize (65 * y1 - 65 * y0) * (s.natAbs : Int) = u4
  generalize L.toInt * (c.natAbs : Int) = u5
  generalize L.toInt * (s.natAbs : Int) = u6
  generalize (((2 * PX + L.toInt * c - (65 * x0 + 65 * x1)) * c + (2 * PY + L.toInt * s - (65 * y0 + 65 * y1)) * s).natAbs : Int) = u7
  generalize (((2 * PY + L.toInt * s - (65 * y0 + 65 * y1)) * c - (2 * PX + L.toInt * c - (65 * x0 + 65 * x1)) * s).natAbs : Int) = u8
  generalize ((2 * PX + L.toInt * c - (65 * x0 + 65 * x1)).natAbs : Int) = u9
  generalize ((2 * PY + L.toInt * s - (65 * y0 + 65 * y1)).natAbs : Int) = u10
  repeat' split
  all_goals first | rfl | (exfalso; omega)
