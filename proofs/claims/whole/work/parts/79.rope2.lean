theorem ite_or4 {α : Type} {p1 p2 p3 p4 : Prop} [Decidable p1] [Decidable p2] [Decidable p3] [Decidable p4] (j n : α) : (if p1 then j else if p2 then j else if p3 then j else if ¬ p4 then n else j) = if p1 ∨ p2 ∨ p3 ∨ p4 then j else n := by
  by_cases h1 : p1
  · simp [h1]
  by_cases h2 : p2
  · simp [h1, h2]
  by_cases h3 : p3
  · simp [h1, h2, h3]
  by_cases h4 : p4
  · simp [h1, h2, h3, h4]
  · simp [h1, h2, h3, h4]
theorem goes_c {v : Wd} {k : Nat} {px py A B : Int32} {a b x0 x1 y0 y1 PX PY : Int} (hk : k < 20) (vA : V A a 3900) (vB : V B b 3900) (vx : V px PX 60000) (vy : V py PY 60000) (v0 : V (wS v 64 (4 * k)) x0 500) (v1 : V (wS v 64 (4 * k + 1)) y0 500) (v2 : V (wS v 64 (4 * k + 2)) x1 500) (v3 : V (wS v 64 (4 * k + 3)) y1 500) :
    f_X12_goesThrough v (nI k) px py A B = some (if (65 * x0 < (if 0 ≤ a then PX + a else PX) ∧ (if 0 ≤ a then PX else PX + a) < 65 * x1 ∧ 65 * y0 < (if 0 ≤ b then PY + b else PY) ∧ (if 0 ≤ b then PY else PY + b) < 65 * y1) ∧
      (0 < a * (65 * y0 - PY) - b * (65 * x0 - PX) ∨ 0 < a * (65 * y0 - PY) - b * (65 * x1 - PX) ∨ 0 < a * (65 * y1 - PY) - b * (65 * x0 - PX) ∨ 0 < a * (65 * y1 - PY) - b * (65 * x1 - PX)) ∧
      (a * (65 * y0 - PY) - b * (65 * x0 - PX) < 0 ∨ a * (65 * y0 - PY) - b * (65 * x1 - PX) < 0 ∨ a * (65 * y1 - PY) - b * (65 * x0 - PX) < 0 ∨ a * (65 * y1 - PY) - b * (65 * x1 - PX) < 0) then 1 else 0) := by
  have k65 : V (65 : Int32) 65 65 := V.lit (by decide)
  have sA := (z0v.le vA)
  have sB := (z0v.le vB)
  have w0 := k65.mul v0 (by decide)
  have w1 := k65.mul v1 (by decide)
  have w2 := k65.mul v2 (by decide)
  have w3 := k65.mul v3 (by decide)
  have cr : ∀ {P Q : Int32} {p q : Int}, V P p 92500 → V Q q 92500 → V6 (f_X12_cross A.toInt64 B.toInt64 P.toInt64 Q.toInt64) (a * q - b * p) (3900 * 92500 + 3900 * 92500) := fun hp hq => by
    unfold f_X12_cross
    exact ((V6.of vA).mul (V6.of hq) (by decide)).sub ((V6.of vB).mul (V6.of hp) (by decide)) (by decide)
  have c1 := (cr (w0.sub vx (by decide)) (w1.sub vy (by decide))).cmp
  have c2 := (cr (w2.sub vx (by decide)) (w1.sub vy (by decide))).cmp
  have c3 := (cr (w0.sub vx (by decide)) (w3.sub vy (by decide))).cmp
  have c4 := (cr (w2.sub vx (by decide)) (w3.sub vy (by decide))).cmp
  have hxa := vx.add vA (by decide)
  have hya := vy.add vB (by decide)
  unfold f_X12_goesThrough
  simp only [q_gt, q_lt, q_jn, q_pt, q_bo, q_bi, nI_mul4, nI_1, nI_p2, nI_p3, ld_n (show 4 * k < 80 by omega) (show 80 < 2 ^ 31 by decide), ld_n (show 4 * k + 1 < 80 by omega) (show 80 < 2 ^ 31 by decide), ld_n (show 4 * k + 2 < 80 by omega) (show 80 < 2 ^ 31 by decide), ld_n (show 4 * k + 3 < 80 by omega) (show 80 < 2 ^ 31 by decide)]
  simp only [sA, sB, c1.1, c1.2.1, c1.2.2.1, c1.2.2.2, c2.1, c2.2.1, c3.1, c3.2.1, c4.2.2.1, c4.2.2.2, hxa.le w0, vx.le w0, w2.le hxa, w2.le vx, hya.le w1, vy.le w1, hya.lt w3, vy.lt w3]
  generalize a * (65 * y0 - PY) - b * (65 * x0 - PX) = u1
  generalize a * (65 * y0 - PY) - b * (65 * x1 - PX) = u2
  generalize a * (65 * y1 - PY) - b * (65 * x0 - PX) = u3
  generalize a * (65 * y1 - PY) - b * (65 * x1 - PX) = u4
  have e4 : (u4 ≤ 0) = ¬ (0 < u4) := propext ⟨fun z => by omega, fun z => by omega⟩
  have e5 : (0 ≤ u4) = ¬ (u4 < 0) := propext ⟨fun z => by omega, fun z => by omega⟩
  simp only [e4, e5, ite_or4]
  by_cases P1 : 0 < u1 ∨ 0 < u2 ∨ 0 < u3 ∨ 0 < u4 <;> by_cases P2 : u1 < 0 ∨ u2 < 0 ∨ u3 < 0 ∨ u4 < 0 <;> by_cases ha : 0 ≤ a <;> by_cases hb : 0 ≤ b <;> simp only [P1, P2, ha, hb, if_true, if_false, one0, and_true, and_false, ite_self]
  all_goals (clear c1 c2 c3 c4 cr sA sB w0 w1 w2 w3 hxa hya P1 P2)
  all_goals (repeat' split)
  all_goals first | rfl | (exfalso; omega)
