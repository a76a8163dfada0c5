/-! ===== a rope bites: the four ways against the cross products ===== -/
theorem nabs_mul (a b : Int) : ((a * b).natAbs : Int) = (a.natAbs : Int) * (b.natAbs : Int) := by
  rw [Int.natAbs_mul]; exact Int.natCast_mul _ _
/-- the way along the rope asks nothing new -/
theorem bite_along {c s A B D E l : Int} (h : c * c + s * s = 4225) (h1 : (A.natAbs : Int) < l * (c.natAbs : Int) + D) (h2 : (B.natAbs : Int) < l * (s.natAbs : Int) + E) : ((A * c + B * s).natAbs : Int) < l * 4225 + D * (c.natAbs : Int) + E * (s.natAbs : Int) := by
  have t : ((A * c + B * s).natAbs : Int) ≤ (A.natAbs : Int) * (c.natAbs : Int) + (B.natAbs : Int) * (s.natAbs : Int) := by
    rw [← nabs_mul, ← nabs_mul]; omega
  have hc : (c.natAbs : Int) * (c.natAbs : Int) = c * c := Int.natAbs_mul_self' c
  have hs : (s.natAbs : Int) * (s.natAbs : Int) = s * s := Int.natAbs_mul_self' s
  have c0 : (0 : Int) ≤ (c.natAbs : Int) := Int.natCast_nonneg _
  have s0 : (0 : Int) ≤ (s.natAbs : Int) := Int.natCast_nonneg _
  generalize (c.natAbs : Int) = p at *
  generalize (s.natAbs : Int) = q at *
  generalize (A.natAbs : Int) = a at *
  generalize (B.natAbs : Int) = b at *
  have m1 : a * p ≤ (l * p + D - 1) * p := Int.mul_le_mul_of_nonneg_right (by omega) c0
  have m2 : b * q ≤ (l * q + E - 1) * q := Int.mul_le_mul_of_nonneg_right (by omega) s0
  have e1 : (l * p + D - 1) * p = l * (c * c) + D * p - p := by rw [← hc]; grind
  have e2 : (l * q + E - 1) * q = l * (s * s) + E * q - q := by rw [← hs]; grind
  have e3 : l * (c * c) + l * (s * s) = l * 4225 := by rw [← h]; grind
  have pq : 0 < p + q := by
    rcases Int.lt_or_eq_of_le c0 with z | z
    · omega
    · rcases Int.lt_or_eq_of_le s0 with y | y
      · omega
      · exfalso
        rw [← z] at hc
        rw [← y] at hs
        omega
  omega
theorem bite_x {c l X0 X1 p : Int} (hl : 0 < l) : (((2 * p + l * c - (X0 + X1)).natAbs : Int) < l * (c.natAbs : Int) + (X1 - X0)) ↔ ((if 0 ≤ l * c then p else p + l * c) < X1 ∧ X0 < (if 0 ≤ l * c then p + l * c else p)) := by
  have e : l * (c.natAbs : Int) = ((l * c).natAbs : Int) := by
    rw [nabs_mul]
    congr 1
    omega
  rw [e]
  generalize l * c = d
  by_cases h : 0 ≤ d
  · rw [if_pos h, if_pos h]; omega
  · rw [if_neg h, if_neg h]; omega
/-- the four corners' cross products, on both sides of nought -/
theorem bite_s {c s l X0 X1 Y0 Y1 px py : Int} (hl : 0 < l) (hx : X0 < X1) (hy : Y0 < Y1) :
    (((2 * py + l * s - (Y0 + Y1)) * c - (2 * px + l * c - (X0 + X1)) * s).natAbs : Int) < (X1 - X0) * (s.natAbs : Int) + (Y1 - Y0) * (c.natAbs : Int) ↔
    ((0 < (l * c) * (Y0 - py) - (l * s) * (X0 - px) ∨ 0 < (l * c) * (Y0 - py) - (l * s) * (X1 - px) ∨ 0 < (l * c) * (Y1 - py) - (l * s) * (X0 - px) ∨ 0 < (l * c) * (Y1 - py) - (l * s) * (X1 - px)) ∧
     ((l * c) * (Y0 - py) - (l * s) * (X0 - px) < 0 ∨ (l * c) * (Y0 - py) - (l * s) * (X1 - px) < 0 ∨ (l * c) * (Y1 - py) - (l * s) * (X0 - px) < 0 ∨ (l * c) * (Y1 - py) - (l * s) * (X1 - px) < 0)) := by
  have f : ∀ X Y : Int, (l * c) * (Y - py) - (l * s) * (X - px) = l * (c * (Y - py) - s * (X - px)) := fun X Y => by grind
  have pos : ∀ z : Int, 0 < l * z ↔ 0 < z := fun z => ⟨fun q => by
    rcases Int.lt_or_le 0 z with y | y
    · exact y
    · have := Int.mul_nonpos_of_nonneg_of_nonpos (Int.le_of_lt hl) y
      omega, fun q => Int.mul_pos hl q⟩
  have neg : ∀ z : Int, l * z < 0 ↔ z < 0 := fun z => ⟨fun q => by
    rcases Int.lt_or_le z 0 with y | y
    · exact y
    · have := Int.mul_nonneg (Int.le_of_lt hl) y
      omega, fun q => by
    have := Int.mul_pos hl (show 0 < -z by omega)
    have e : l * -z = -(l * z) := by grind
    omega⟩
  have wd : (X1 - X0) * (s.natAbs : Int) = (((X1 - X0) * s).natAbs : Int) := by
    rw [nabs_mul]; congr 1; omega
  have dp : (Y1 - Y0) * (c.natAbs : Int) = (((Y1 - Y0) * c).natAbs : Int) := by
    rw [nabs_mul]; congr 1; omega
  rw [f, f, f, f, pos, pos, pos, pos, neg, neg, neg, neg, wd, dp]
  have g : (2 * py + l * s - (Y0 + Y1)) * c - (2 * px + l * c - (X0 + X1)) * s = -(c * (Y0 - py) - s * (X0 - px)) - (c * (Y1 - py) - s * (X1 - px)) := by grind
  have t : (Y1 - Y0) * c = (c * (Y1 - py) - s * (X0 - px)) - (c * (Y0 - py) - s * (X0 - px)) := by grind
  have u : (X1 - X0) * s = (c * (Y0 - py) - s * (X0 - px)) - (c * (Y0 - py) - s * (X1 - px)) := by grind
  have k : c * (Y1 - py) - s * (X1 - px) = (c * (Y1 - py) - s * (X0 - px)) + (c * (Y0 - py) - s * (X1 - px)) - (c * (Y0 - py) - s * (X0 - px)) := by grind
  rw [g, t, u, k]
  generalize c * (Y0 - py) - s * (X0 - px) = z1
  generalize c * (Y0 - py) - s * (X1 - px) = z2
  generalize c * (Y1 - py) - s * (X0 - px) = z3
  omega
