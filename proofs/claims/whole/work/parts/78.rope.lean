/-! ===== a rope bites a house: class's line against the reference's goesThrough ===== -/
def V6 (a : Int64) (z : Int) (M : Nat) : Prop := a.toInt = z ∧ z.natAbs ≤ M
theorem bmod64 {z : Int} {M : Nat} (h : z.natAbs ≤ M) (hM : M < 4000000000000000000) : z.bmod (2 ^ 64) = z := Int.bmod_eq_of_le (by omega) (by omega)
theorem V6.of {a : Int32} {z : Int} {M : Nat} (h : V a z M) : V6 a.toInt64 z M := ⟨by rw [Int32.toInt_toInt64]; exact h.1, h.2⟩
theorem V6.sub {a b : Int64} {x y : Int} {M N : Nat} (h : V6 a x M) (g : V6 b y N) (k : M + N < 4000000000000000000) : V6 (a - b) (x - y) (M + N) := by
  have hb : (x - y).natAbs ≤ M + N := by have := h.2; have := g.2; omega
  refine ⟨?_, hb⟩
  rw [Int64.toInt_sub, h.1, g.1]
  exact bmod64 hb k
theorem V6.mul {a b : Int64} {x y : Int} {M N : Nat} (h : V6 a x M) (g : V6 b y N) (k : M * N < 4000000000000000000) : V6 (a * b) (x * y) (M * N) := by
  have hb : (x * y).natAbs ≤ M * N := by
    rw [Int.natAbs_mul]
    exact Nat.mul_le_mul h.2 g.2
  refine ⟨?_, hb⟩
  rw [Int64.toInt_mul, h.1, g.1]
  exact bmod64 hb k
theorem V6.cmp {a : Int64} {x : Int} {M : Nat} (h : V6 a x M) : ((lg_cmp a 0 < 0) ↔ x < 0) ∧ ((0 < lg_cmp a 0) ↔ 0 < x) ∧ ((0 ≤ lg_cmp a 0) ↔ 0 ≤ x) ∧ ((lg_cmp a 0 ≤ 0) ↔ x ≤ 0) := by
  have z : (0 : Int64).toInt = 0 := by decide
  have n1 : (-1 : Int32) < 0 := by decide
  have n2 : ¬ (0 : Int32) < -1 := by decide
  have n3 : ¬ (0 : Int32) ≤ -1 := by decide
  have n4 : (-1 : Int32) ≤ 0 := by decide
  have p1 : ¬ (1 : Int32) < 0 := by decide
  have p2 : (0 : Int32) < 1 := by decide
  have p3 : (0 : Int32) ≤ 1 := by decide
  have p4 : ¬ (1 : Int32) ≤ 0 := by decide
  have o1 : ¬ (0 : Int32) < 0 := by decide
  have o3 : (0 : Int32) ≤ 0 := by decide
  rcases Int.lt_trichotomy x 0 with y | y | y
  · have y1 : a < 0 := by rw [Int64.lt_iff_toInt_lt, h.1, z]; exact y
    have y2 : ¬ a = 0 := by rw [← Int64.toInt_inj, h.1, z]; omega
    have y3 : ¬ (0 : Int64) < a := by rw [Int64.lt_iff_toInt_lt, h.1, z]; omega
    have e : lg_cmp a 0 = -1 := by unfold lg_cmp; rw [if_neg y3, if_neg y2]
    rw [e]
    exact ⟨⟨fun _ => y, fun _ => n1⟩, ⟨fun q => absurd q n2, fun q => by omega⟩, ⟨fun q => absurd q n3, fun q => by omega⟩, ⟨fun _ => by omega, fun _ => n4⟩⟩
  · have y1 : a = 0 := by rw [← Int64.toInt_inj, h.1, z]; exact y
    have e : lg_cmp a 0 = 0 := by rw [y1]; decide
    rw [e]
    exact ⟨⟨fun q => absurd q o1, fun q => by omega⟩, ⟨fun q => absurd q o1, fun q => by omega⟩, ⟨fun _ => by omega, fun _ => o3⟩, ⟨fun _ => by omega, fun _ => o3⟩⟩
  · have y1 : ¬ a < 0 := by rw [Int64.lt_iff_toInt_lt, h.1, z]; omega
    have y2 : ¬ a = 0 := by rw [← Int64.toInt_inj, h.1, z]; omega
    have y3 : (0 : Int64) < a := by rw [Int64.lt_iff_toInt_lt, h.1, z]; exact y
    have e : lg_cmp a 0 = 1 := by unfold lg_cmp; rw [if_pos y3]
    rw [e]
    exact ⟨⟨fun q => absurd q p1, fun q => by omega⟩, ⟨fun _ => y, fun _ => p2⟩, ⟨fun _ => by omega, fun _ => p3⟩, ⟨fun q => absurd q p4, fun q => by omega⟩⟩
