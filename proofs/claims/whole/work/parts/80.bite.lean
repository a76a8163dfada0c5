theorem bite_eq {w v : Wd} {k : Nat} {X Y h L px py : Int32} (lay : Lay w 23 X Y h L 0) (b : bxR w (300 + k) v 64 (4 * k)) (bo : bxO w (300 + k)) (hk : k < 20) (hL : bt 1 60 L) (hpx : bt (-60000) 60000 px) (hpy : bt (-60000) 60000 py) (hX : X = 2 * px + L * f_X12_along h) (hY : Y = 2 * py + L * f_X12_across h) (hh : bt (-100) 100 h) :
    f_X12_goesThrough v (nI k) px py (L * f_X12_along h) (L * f_X12_across h) = some (f_X5_touchesBox w 23 (300 + k) 0) := by
  obtain ⟨c, s, vc, vs, -, -, hcs⟩ := tr_v (bt_w hh (show (-120 : Int) ≤ -100 by decide) (show (100 : Int) ≤ 120 by decide))
  obtain ⟨b0, b1, b2, b3, bx, byy⟩ := bo
  have v0 := V.of (M := 500) b0 (by decide) (by decide)
  have v1 := V.of (M := 500) b1 (by decide) (by decide)
  have v2 := V.of (M := 500) b2 (by decide) (by decide)
  have v3 := V.of (M := 500) b3 (by decide) (by decide)
  have vL := V.of (M := 60) hL (by decide) (by decide)
  have vx := V.of (M := 60000) hpx (by decide) (by decide)
  have vy := V.of (M := 60000) hpy (by decide) (by decide)
  have k2 : V (2 : Int32) 2 2 := V.lit (by decide)
  have vA := vL.mul vc (by decide)
  have vB := vL.mul vs (by decide)
  have vX : V X (2 * px.toInt + L.toInt * c) 130000 := by rw [hX]; exact ((k2.mul vx (by decide)).add vA (by decide)).wk (by decide)
  have vY : V Y (2 * py.toInt + L.toInt * s) 130000 := by rw [hY]; exact ((k2.mul vy (by decide)).add vB (by decide)).wk (by decide)
  have w0 : V (wS v 64 (4 * k)) (wS w (300 + k) 0).toInt 500 := by rw [← b.1]; exact v0
  have w1 : V (wS v 64 (4 * k + 1)) (wS w (300 + k) 1).toInt 500 := by rw [← b.2.1]; exact v1
  have w2 : V (wS v 64 (4 * k + 2)) (wS w (300 + k) 2).toInt 500 := by rw [← b.2.2.1]; exact v2
  have w3 : V (wS v 64 (4 * k + 3)) (wS w (300 + k) 3).toInt 500 := by rw [← b.2.2.2]; exact v3
  rw [line_c lay vL vc vs v0 v1 v2 v3 vX vY, goes_c hk vA vB vx vy w0 w1 w2 w3]
  have hl : 0 < L.toInt := by have := hL.1; omega
  congr 1
  have X1 := bite_x (c := c) (l := L.toInt) (X0 := 65 * (wS w (300 + k) 0).toInt) (X1 := 65 * (wS w (300 + k) 2).toInt) (p := px.toInt) hl
  have Y1 := bite_x (c := s) (l := L.toInt) (X0 := 65 * (wS w (300 + k) 1).toInt) (X1 := 65 * (wS w (300 + k) 3).toInt) (p := py.toInt) hl
  have S1 := bite_s (c := c) (s := s) (l := L.toInt) (X0 := 65 * (wS w (300 + k) 0).toInt) (X1 := 65 * (wS w (300 + k) 2).toInt) (Y0 := 65 * (wS w (300 + k) 1).toInt) (Y1 := 65 * (wS w (300 + k) 3).toInt) (px := px.toInt) (py := py.toInt) hl (by omega) (by omega)
  have P : ∀ {p q : Prop} [Decidable p] [Decidable q], (p ↔ q) → (if p then (1 : Int32) else 0) = if q then 1 else 0 := fun h => by simp only [h]
  apply P
  constructor
  · rintro ⟨⟨h1, h2, h3, h4⟩, h5⟩
    have x := X1.mpr ⟨h2, h1⟩
    have y := Y1.mpr ⟨h4, h3⟩
    exact ⟨x, y, bite_along hcs x y, S1.mpr h5⟩
  · rintro ⟨x, y, -, z⟩
    obtain ⟨h2, h1⟩ := X1.mp x
    obtain ⟨h4, h3⟩ := Y1.mp y
    exact ⟨⟨h1, h2, h3, h4⟩, S1.mp z⟩
