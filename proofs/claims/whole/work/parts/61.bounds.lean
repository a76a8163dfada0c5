/-! ===== numbers without overflow: value and bound ===== -/
def V (a : Int32) (z : Int) (M : Nat) : Prop := a.toInt = z ∧ z.natAbs ≤ M
theorem bmod_of {z : Int} {M : Nat} (h : z.natAbs ≤ M) (hM : M < 2147483648) : z.bmod (2 ^ 32) = z := Int.bmod_eq_of_le (by omega) (by omega)
theorem V.add {a b : Int32} {x y : Int} {M N : Nat} (h : V a x M) (g : V b y N) (k : M + N < 2147483648) : V (a + b) (x + y) (M + N) := by
  have hb : (x + y).natAbs ≤ M + N := by have := h.2; have := g.2; omega
  refine ⟨?_, hb⟩
  rw [Int32.toInt_add, h.1, g.1]
  exact bmod_of hb k
theorem V.sub {a b : Int32} {x y : Int} {M N : Nat} (h : V a x M) (g : V b y N) (k : M + N < 2147483648) : V (a - b) (x - y) (M + N) := by
  have hb : (x - y).natAbs ≤ M + N := by have := h.2; have := g.2; omega
  refine ⟨?_, hb⟩
  rw [Int32.toInt_sub, h.1, g.1]
  exact bmod_of hb k
theorem V.mul {a b : Int32} {x y : Int} {M N : Nat} (h : V a x M) (g : V b y N) (k : M * N < 2147483648) : V (a * b) (x * y) (M * N) := by
  have hb : (x * y).natAbs ≤ M * N := by
    rw [Int.natAbs_mul]
    exact Nat.mul_le_mul h.2 g.2
  refine ⟨?_, hb⟩
  rw [Int32.toInt_mul, h.1, g.1]
  exact bmod_of hb k
theorem V.neg {a : Int32} {x : Int} {M : Nat} (h : V a x M) (k : M < 2147483648) : V (-a) (-x) M := by
  have hb : (-x).natAbs ≤ M := by have := h.2; omega
  refine ⟨?_, hb⟩
  rw [Int32.toInt_neg, h.1]
  exact bmod_of hb k
theorem V.abs {a : Int32} {x : Int} {M : Nat} (h : V a x M) (k : M < 2147483648) : V (f_J9_abs_0f7a4 a) (x.natAbs : Int) M := by
  unfold f_J9_abs_0f7a4
  have z : (0 : Int32).toInt = 0 := by decide
  by_cases p : (0 : Int32) ≤ a
  · rw [if_pos p]
    rw [Int32.le_iff_toInt_le, z, h.1] at p
    exact ⟨by rw [h.1]; omega, by have := h.2; omega⟩
  · rw [if_neg p]
    rw [Int32.le_iff_toInt_le, z, h.1] at p
    have := (h.neg k).1
    exact ⟨by rw [this]; omega, by have := h.2; omega⟩
theorem amount_eq : f_X12_amount = f_J9_abs_0f7a4 := rfl
theorem V.of {a : Int32} {lo hi : Int} {M : Nat} (h : bt lo hi a) (h1 : -(M : Int) ≤ lo) (h2 : hi ≤ M) : V a a.toInt M := ⟨rfl, by have := h.1; have := h.2; omega⟩
theorem V.lit {a : Int32} {z : Int} (h : a.toInt = z) : V a z z.natAbs := ⟨h, Nat.le_refl _⟩
theorem V.wk {a : Int32} {z : Int} {M N : Nat} (h : V a z M) (k : M ≤ N) : V a z N := ⟨h.1, Nat.le_trans h.2 k⟩
theorem V.to {a : Int32} {z y : Int} {M : Nat} (h : V a z M) (e : z = y) : V a y M := by rw [← e]; exact h
theorem V.le {a b : Int32} {x y : Int} {M N : Nat} (h : V a x M) (g : V b y N) : a ≤ b ↔ x ≤ y := by
  rw [Int32.le_iff_toInt_le, h.1, g.1]
theorem V.lt {a b : Int32} {x y : Int} {M N : Nat} (h : V a x M) (g : V b y N) : a < b ↔ x < y := by
  rw [Int32.lt_iff_toInt_lt, h.1, g.1]
theorem V.eq {a b : Int32} {x y : Int} {M N : Nat} (h : V a x M) (g : V b y N) : a = b ↔ x = y := by
  rw [← Int32.toInt_inj, h.1, g.1]
/-- a heading's two numbers -/
def Tr (c s : Int) : Prop := c.natAbs ≤ 65 ∧ s.natAbs ≤ 65 ∧ c * c + s * s = 4225
theorem tr_v {h : Int32} (hh : bt (-120) 120 h) : ∃ c s : Int, V (f_X12_along h) c 65 ∧ V (f_X12_across h) s 65 ∧ V (f_X12_along (h + 9)) (-s) 65 ∧ V (f_X12_across (h + 9)) c 65 ∧ c * c + s * s = 4225 := by
  obtain ⟨⟨a1, a2, a3, a4⟩, b, d, e⟩ := tr hh
  have v1 : V (f_X12_along h) (f_X12_along h).toInt 65 := ⟨rfl, by omega⟩
  have v2 : V (f_X12_across h) (f_X12_across h).toInt 65 := ⟨rfl, by omega⟩
  refine ⟨_, _, v1, v2, ?_, ?_, ?_⟩
  · rw [d]; exact v2.neg (by decide)
  · rw [e]; exact v1
  · have v3 := (v1.mul v1 (by decide)).add (v2.mul v2 (by decide)) (by decide)
    rw [b] at v3
    exact v3.1.symm.trans (by decide)
/-- one way of the reference's touch -/
theorem apart_v {dx dy h l1 b1 h2 l2 b2 way : Int32} {DX DY c s L1 B1 c2 s2 L2 B2 nx ny : Int} {MX : Nat} (v1 : V dx DX MX) (v2 : V dy DY MX) (vc : V (f_X12_along h) c 65) (vs : V (f_X12_across h) s 65) (vl : V l1 L1 200) (vb : V b1 B1 200) (vc2 : V (f_X12_along h2) c2 65) (vs2 : V (f_X12_across h2) s2 65) (vl2 : V l2 L2 2000) (vb2 : V b2 B2 2000) (vn : V (f_X12_along way) nx 65) (vm : V (f_X12_across way) ny 65) (hM : MX * 65 + MX * 65 < 2147483648) :
    f_X12_areApart dx dy h l1 b1 h2 l2 b2 way = if ((DX * nx + DY * ny).natAbs : Int) < (L1 * ((c * nx + s * ny).natAbs : Int) + B1 * ((-s * nx + c * ny).natAbs : Int)) + (L2 * ((c2 * nx + s2 * ny).natAbs : Int) + B2 * ((-s2 * nx + c2 * ny).natAbs : Int)) then 0 else 1 := by
  unfold f_X12_areApart
  rw [amount_eq]
  simp only [q_lt]
  have x1 := ((v1.mul vn (by omega)).add (v2.mul vm (by omega)) hM).abs hM
  have y1 := (vl.mul (((vc.mul vn (by decide)).add (vs.mul vm (by decide)) (by decide)).abs (by decide)) (by decide)).add (vb.mul ((((vs.neg (by decide)).mul vn (by decide)).add (vc.mul vm (by decide)) (by decide)).abs (by decide)) (by decide)) (by decide)
  have y2 := (vl2.mul (((vc2.mul vn (by decide)).add (vs2.mul vm (by decide)) (by decide)).abs (by decide)) (by decide)).add (vb2.mul ((((vs2.neg (by decide)).mul vn (by decide)).add (vc2.mul vm (by decide)) (by decide)).abs (by decide)) (by decide)) (by decide)
  have y := y1.add y2 (by decide)
  by_cases p : ((DX * nx + DY * ny).natAbs : Int) < (L1 * ((c * nx + s * ny).natAbs : Int) + B1 * ((-s * nx + c * ny).natAbs : Int)) + (L2 * ((c2 * nx + s2 * ny).natAbs : Int) + B2 * ((-s2 * nx + c2 * ny).natAbs : Int))
  · rw [if_pos p, if_pos ((x1.lt y).mpr p)]
  · rw [if_neg p, if_neg (fun z => p ((x1.lt y).mp z))]
