/-! ===== pull, need, may, woods ===== -/
theorem V.same {a b : Int32} {z : Int} {M N : Nat} (h : V a z M) (g : V b z N) : a = b := (h.eq g).mpr rfl
theorem V.div {a d : Int32} {x D : Int} {M : Nat} (h : V a x M) (k : M < 2147483648) (hd : d.toInt = D) : V (a / d) (x.tdiv D) M := by
  have hb : (x.tdiv D).natAbs ≤ M := by
    rw [Int.natAbs_tdiv]
    exact Nat.le_trans (Nat.div_le_self _ _) h.2
  refine ⟨?_, hb⟩
  rw [Int32.toInt_div, h.1, hd]
  exact Int.bmod_eq_of_le (by omega) (by omega)
theorem FrL.K {w w' : Wd} (F : FrL w w') (c o j : Nat) : wS w' (K5 c + o) j = wS w (K5 c + o) j := (F.1 _ j (by unfold K5; omega)).1
theorem FrL.K0 {w w' : Wd} (F : FrL w w') (c j : Nat) : wS w' (K5 c) j = wS w (K5 c) j := (F.1 _ j (by unfold K5; omega)).1
theorem FrL.A {w w' v : Wd} {c : Nat} (F : FrL w w') (A : A5 w v c) : A5 w' v c := A.fr (F.1 22 c (by decide)).1 (fun j _ => F.K0 c j) (fun i _ => F.K c 4 i) (fun _ _ _ => rfl)
theorem FrL.P {w w' v : Wd} {c : Nat} (F : FrL w w') (P : P5 w v c) : P5 w' v c := P.fr (fun j _ _ => F.K0 c j) (fun _ _ _ => rfl)
theorem FrL.Q {w w' v : Wd} {c : Nat} (F : FrL w w') (Q : Q5 w v c) : Q5 w' v c := Q.fr (fun o r _ _ _ => F.K c o r) (fun _ _ _ _ _ => rfl)
theorem FrL.R1 {w w' v : Wd} (F : FrL w w') (h : R1 w v) : R1 w' v := h.fr (F.only 1 (by decide) (by decide)) sm.refl
theorem rT_fr {w w' : Wd} (F : FrL w w') (c r : Nat) : rT w' c r = rT w c r := by
  unfold rT
  rw [F.K c 12 r]
theorem c_wet {w v : Wd} {c : Nat} (h4 : R4 w v) (hc : c < 4) (P : P5 w v c) : ∃ b, f_X3_isWetUnder w (K5 c) = some b ∧ f_X12_isOnWet v (nI c) = some b := by
  obtain ⟨n, hn, e1, e2, hh, g⟩ := id h4
  unfold f_X3_isWetUnder f_X12_isOnWet
  simp only [q_gt, ld_n hc (show 4 < 2 ^ 31 by decide), ← P.1.1, ← P.2.1.1]
  obtain ⟨r, h1, h2, h3⟩ := c_slopeAt h4 (wS w (K5 c) 9) (wS w (K5 c) 10)
  rw [h1, h2]
  simp only [bo_v]
  unfold f_X8_isWet
  rcases h3 with rfl | ⟨j, hj, hj10, rfl⟩
  · rw [slope_m1]
    exact ⟨0, rfl, rfl⟩
  · obtain ⟨s1, s2⟩ := slope_j e1 hn hj hj10
    rw [s1, if_neg (m1_ne (k := 0) (by omega) (by omega))]
    simp only [if_neg one0, ld_n hj10 (show 10 < 2 ^ 31 by decide), (g j hj10).1]
    by_cases z : wS v 75 j = 0
    · simp only [if_pos z, bo_v]; exact ⟨0, rfl, rfl⟩
    · simp only [if_neg z, bo_v]; exact ⟨1, rfl, rfl⟩
def pT (w : Wd) (c r : Nat) : Int32 := wS w (K5 c + 10) r * wS w 3 4 * f_X12_along (rT w c r) / 65
theorem pT_v {w v : Wd} {c r : Nat} (h6 : R6 w v) (Q : Q5 w v c) (hr : r < 4) : ∃ z, V (pT w c r) z 175500 := by
  obtain ⟨cc, ss, vc, -⟩ := tr_v (bt_w (rT_b Q hr) (show (-120 : Int) ≤ -9 by decide) (show (27 : Int) ≤ 120 by decide))
  have a := V.of (M := 300) (Q r hr).1.2 (by decide) (by decide)
  have b := V.of (M := 9) h6.2.1.2 (by decide) (by decide)
  exact ⟨_, ((a.mul b (by decide)).mul vc (by decide)).div (by decide) (show (65 : Int32).toInt = 65 by decide)⟩
theorem pw_v {x : Int32} (h : ∃ z, V x z 175500) : (∃ z, V (x * 3 / 4) z 526500) ∧ x * 3 / 4 = 3 * x / 4 := by
  obtain ⟨z, h⟩ := h
  exact ⟨⟨_, (h.mul (V.lit (a := 3) (z := 3) (by decide)) (by decide)).div (by decide) (show (4 : Int32).toInt = 4 by decide)⟩, by rw [Int32.mul_comm x 3]⟩
theorem nI100 {q : Nat} (hq : q < 20) : ¬ (100 : Int32) + nI q = 0 := by
  rw [show (100 : Int32) + nI q = nI (100 + q) from nI_add 100 q]
  exact nI_ne0 (by omega) (by omega)
theorem four_t {r : Nat} (h : 4 ≤ r) (hr : r < 100) : (4 : Int32) ≤ nI r := (nI_leI (a := 4) (by decide) (by omega)).mpr h
theorem four_f {r : Nat} (h : r < 4) : ¬ (4 : Int32) ≤ nI r := fun k => by
  have := (nI_leI (a := 4) (by decide) (by omega)).mp k
  omega
theorem l_pull {w v : Wd} {c : Nat} (h1 : R1 w v) (h6 : R6 w v) (hc : c < 4) (A : A5 w v c) (P : P5 w v c) (Q : Q5 w v c) {b : Int32} (hb : f_X12_isOnWet v (nI c) = some b) : ∀ (m r f : Nat) (x : Int32) (w1 : Wd), r + m = 4 → m < f → FrL w w1 → (∃ z, V x z (r * 526500)) →
    ∃ p w2, l_X3_pullOf_11 (K5 c) b f w1 (nI r) x = some (p, w2) ∧ FrL w w2 ∧ l_X12_pullOf_4 (nI c) v f (nI r) x = some p ∧ ∃ z, V p z 2106000
  | 0, r, f + 1, x, w1, hi, _, F, hx => by
    unfold l_X3_pullOf_11 l_X12_pullOf_4
    rw [if_pos (four_t (show 4 ≤ r by omega) (by omega)), if_pos (four_t (show 4 ≤ r by omega) (by omega))]
    obtain ⟨z, hz⟩ := hx
    exact ⟨x, w1, rfl, F, rfl, z, hz.wk (by omega)⟩
  | m + 1, r, f + 1, x, w1, hi, hf, F, hx => by
    have hr : r < 4 := by omega
    obtain ⟨z, hz⟩ := hx
    have I := fun x' w' F' hx' => l_pull h1 h6 hc A P Q hb m (r + 1) f x' w' (by omega) (by omega) F' hx'
    have A1 := F.A A
    have P1 := F.P P
    have Q1 := F.Q Q
    obtain ⟨b', w', k1, k2, k3, k4⟩ := c_ropeIs (F.R1 h1) hc A1 P1 Q1 hr
    have F' := F.trans k2
    have ei : nI (4 * c) + nI r = nI (4 * c + r) := nI_add _ _
    unfold l_X3_pullOf_11 l_X12_pullOf_4
    rw [if_neg (four_f hr), if_neg (four_f hr), isSlack_k hr, k4]
    simp only [bo_v, q_jn, q_lt, nI_1]
    by_cases hs : (10 : Int32) ≤ wS w1 (K5 c + 10) r
    · rw [if_pos hs, if_pos rfl, k1]
      simp only [bi_v]
      rcases k3 with rfl | ⟨q, hq, rfl⟩
      · obtain ⟨g, g1, -, -, g4⟩ := ropeHeading_k (v := v) hc P Q hr
        obtain ⟨zt, ht⟩ := pT_v h6 Q hr
        obtain ⟨⟨zw, hw⟩, hw2⟩ := pw_v ⟨zt, ht⟩
        rw [if_pos rfl, if_pos rfl, if_pos rfl, ropeTurn_k hr, g1, hb]
        simp only [ld_n hr (show 4 < 2 ^ 31 by decide), q_gt, bo_v, nI_mul4, ei, ld_n (show 4 * c + r < 16 by omega) (show 16 < 2 ^ 31 by decide), ld_n hc (show 4 < 2 ^ 31 by decide), g4, rT_fr F' c r, F'.K c 10 r, (F'.1 3 4 (by decide)).1, ← (Q r hr).1.1, ← h6.2.1.1, cos_eq (bt_w (rT_b Q hr) (show (-120 : Int) ≤ -9 by decide) (show (27 : Int) ≤ 120 by decide))]
        rw [show wS w (K5 c + 10) r * wS w 3 4 * f_X12_along (rT w c r) / 65 = pT w c r from rfl]
        by_cases hb0 : b = 0
        · rw [if_pos hb0, if_pos hb0]
          exact I _ w' F' ⟨_, (hz.add ht (by omega)).wk (by omega)⟩
        · rw [if_neg hb0, if_neg hb0, ← hw2]
          exact I _ w' F' ⟨_, (hz.add hw (by omega)).wk (by omega)⟩
      · rw [if_neg (m1_ne (k := 0) (by omega) (by omega)), if_neg (m1_ne (k := 0) (by omega) (by omega)), if_neg (nI100 hq)]
        exact I _ w' F' ⟨_, hz.wk (by omega)⟩
    · rw [if_neg hs, if_neg one0]
      have n0 : ¬ (if b' = -1 then (1 : Int32) else 100 + b') = 0 := by
        rcases k3 with rfl | ⟨q, hq, rfl⟩
        · rw [if_pos rfl]; exact one0
        · rw [if_neg (m1_ne (k := 0) (by omega) (by omega))]; exact nI100 hq
      rw [if_neg n0]
      exact I _ w1 F ⟨_, hz.wk (by omega)⟩
theorem c_pullOf {w v : Wd} {c : Nat} (R : RS w v) (hc : c < 4) (A : A5 w v c) (P : P5 w v c) (Q : Q5 w v c) : ∃ p w1, f_X3_pullOf w (K5 c) = some (p, w1) ∧ FrL w w1 ∧ f_X12_pullOf v (nI c) = some p ∧ ∃ z, V p z 2106000 := by
  obtain ⟨b, b1, b2⟩ := c_wet R.2.2.2.1 hc P
  unfold f_X3_pullOf f_X12_pullOf
  rw [b1]
  simp only [bo_v]
  exact l_pull R.1 R.2.2.2.2.2 hc A P Q b2 4 0 FU 0 w (by omega) (by unfold FU; omega) FrL.refl ⟨0, by decide, by decide⟩
theorem stands_k {v : Wd} {c : Nat} (hc : c < 4) (h : f_X12_isCar v (nI c) = 1) : f_X12_standsNow v (nI c) = some (if wS v 84 c = 0 then 0 else 1) := by
  unfold f_X12_standsNow
  rw [h, if_neg one0, ld_n hc (show 4 < 2 ^ 31 by decide)]
  by_cases z : wS v 84 c = 0
  · rw [if_pos z, if_pos z]
  · rw [if_neg z, if_neg z]
theorem stands_0 {v : Wd} {a : Int32} (h : f_X12_isCar v a = 0) : f_X12_standsNow v a = some 0 := by
  unfold f_X12_standsNow
  rw [h, if_pos rfl]
theorem c_pull {w v : Wd} (R : RS w v) (a : Int32) : ∃ r w1, f_X11_pull w a = some (r, w1) ∧ f_X12_pull v a = some r ∧ FrL w w1 := by
  unfold f_X11_pull f_X12_pull
  rcases carAt_c R.2.2.2.2.1 a with ⟨q1, q2⟩ | ⟨c, hc, hcn, rfl, q1, q2, A, S, P, Q⟩
  · rw [q1, stands_0 q2]; exact ⟨_, _, rfl, rfl, FrL.refl⟩
  rw [q1, stands_k hc q2]
  simp only [bo_v, q_gt, if_neg (K5_ne (c := c)), ← P.2.2.2.1.1]
  by_cases hz : wS w (K5 c) 12 = 0
  · rw [if_pos hz, if_pos hz, if_pos rfl]; exact ⟨_, _, rfl, rfl, FrL.refl⟩
  rw [if_neg hz, if_neg hz, if_neg one0]
  obtain ⟨p, w1, k1, k2, k3, -⟩ := c_pullOf R hc A P Q
  rw [k1, k3]
  exact ⟨p, w1, rfl, rfl, k2⟩
/-! the floor -/
theorem xor_sign {a d : Int32} (hd : 0 ≤ d.toInt) : 0 ≤ a ^^^ d ↔ 0 ≤ a.toInt := by
  have o0 : (0 : Int32).toInt = 0 := by decide
  have e1 : (a ^^^ d).toInt = (a.toBitVec ^^^ d.toBitVec).toInt := rfl
  have e2 : a.toInt = a.toBitVec.toInt := rfl
  have e3 : d.toInt = d.toBitVec.toInt := rfl
  have m := BitVec.msb_xor (x := a.toBitVec) (y := d.toBitVec)
  rw [BitVec.msb_eq_toInt, BitVec.msb_eq_toInt, BitVec.msb_eq_toInt, ← e1, ← e2, ← e3, decide_eq_false (show ¬ d.toInt < 0 by omega), Bool.xor_false] at m
  have m' : (a ^^^ d).toInt < 0 ↔ a.toInt < 0 := by
    constructor
    · intro h; exact of_decide_eq_true (m ▸ decide_eq_true h)
    · intro h; exact of_decide_eq_true (m.symm ▸ decide_eq_true h)
  rw [Int32.le_iff_toInt_le, o0]
  omega
theorem tdiv_k (z : Int) {D : Int} (hD : 0 < D) : (0 ≤ z → z.tdiv D = z / D) ∧ (z < 0 → z.tdiv D = -((-z) / D)) := by
  refine ⟨fun h => Int.tdiv_eq_ediv_of_nonneg h, fun h => ?_⟩
  have e : z.tdiv D = -((-z).tdiv D) := by rw [Int.neg_tdiv, Int.neg_neg]
  rw [e, Int.tdiv_eq_ediv_of_nonneg (by omega)]
theorem floor_c {a d : Int32} {z D : Int} {M : Nat} (h : V a z M) (hM : M * 65 < 2147483000) (hd : d.toInt = D) (hD : D = 65 ∨ D = 10) : V (f_J9_floorDiv_7cf53 a d) (z / D) (M + 1) := by
  have q := h.div (by omega) hd
  have vd : V d D 65 := ⟨hd, by rcases hD with rfl | rfl <;> decide⟩
  have p := q.mul vd (by omega)
  have e := p.eq h
  have hD0 : 0 < D := by rcases hD with rfl | rfl <;> decide
  obtain ⟨t1, t2⟩ := tdiv_k z hD0
  have hz := h.2
  unfold f_J9_floorDiv_7cf53
  by_cases s : 0 ≤ a ^^^ d
  · rw [if_pos s]
    have hz0 := (xor_sign (by omega)).mp s
    rw [h.1] at hz0
    rw [← t1 hz0]
    exact q.wk (by omega)
  · rw [if_neg s]
    have hz0 : z < 0 := by
      have : ¬ 0 ≤ a.toInt := fun y => s ((xor_sign (by omega)).mpr y)
      rw [h.1] at this
      omega
    have t := t2 hz0
    by_cases y : a / d * d = a
    · rw [if_pos y]
      have y' := e.mp y
      refine (q.to ?_).wk (by omega)
      rw [t] at y' ⊢
      rcases hD with rfl | rfl <;> omega
    · rw [if_neg y]
      have y' : ¬ z.tdiv D * D = z := fun k => y (e.mpr k)
      have o : V (1 : Int32) 1 1 := V.lit (by decide)
      refine (q.sub o (by omega)).to ?_
      rw [t] at y' ⊢
      rcases hD with rfl | rfl <;> omega
theorem V6.lit {a : Int64} {z : Int} {M : Nat} (h : a.toInt = z) (k : z.natAbs ≤ M) : V6 a z M := ⟨h, k⟩
theorem V6.to {a : Int64} {z y : Int} {M : Nat} (h : V6 a z M) (e : z = y) : V6 a y M := by rw [← e]; exact h
theorem V6.wk {a : Int64} {z : Int} {M N : Nat} (h : V6 a z M) (k : M ≤ N) : V6 a z N := ⟨h.1, Nat.le_trans h.2 k⟩
theorem V6.add {a b : Int64} {x y : Int} {M N : Nat} (h : V6 a x M) (g : V6 b y N) (k : M + N < 4000000000000000000) : V6 (a + b) (x + y) (M + N) := by
  have hb : (x + y).natAbs ≤ M + N := by have := h.2; have := g.2; omega
  refine ⟨?_, hb⟩
  rw [Int64.toInt_add, h.1, g.1]
  exact bmod64 hb k
theorem V6.neg {a : Int64} {x : Int} {M : Nat} (h : V6 a x M) (k : M < 4000000000000000000) : V6 (-a) (-x) M := by
  have hb : (-x).natAbs ≤ M := by have := h.2; omega
  refine ⟨?_, hb⟩
  rw [Int64.toInt_neg, h.1]
  exact bmod64 hb k
theorem V6.div {a d : Int64} {x D : Int} {M : Nat} (h : V6 a x M) (k : M < 4000000000000000000) (hd : d.toInt = D) : V6 (a / d) (x.tdiv D) M := by
  have hb : (x.tdiv D).natAbs ≤ M := by
    rw [Int.natAbs_tdiv]
    exact Nat.le_trans (Nat.div_le_self _ _) h.2
  refine ⟨?_, hb⟩
  rw [Int64.toInt_div, h.1, hd]
  exact bmod64 hb k
theorem V6.i {a : Int64} {z : Int} {M : Nat} (h : V6 a z M) (k : M < 2147483648) : V a.toInt32 z M := by
  refine ⟨?_, h.2⟩
  rw [Int64.toInt_toInt32, h.1]
  have := h.2
  exact Int.bmod_eq_of_le (by omega) (by omega)
theorem floor_r {a d : Int64} {z D : Int} {M : Nat} (h : V6 a z M) (hM : M * 65 < 2147483000) (hd : d.toInt = D) (hD : D = 65 ∨ D = 10) : V (f_X12_floorBy a d) (z / D) (M + 1) := by
  have q := h.div (by omega) hd
  have vd : V6 d D 65 := ⟨hd, by rcases hD with rfl | rfl <;> decide⟩
  have c := ((h.sub (q.mul vd (by omega)) (by omega)).cmp).2.2.1
  have hD0 : 0 < D := by rcases hD with rfl | rfl <;> decide
  obtain ⟨t1, t2⟩ := tdiv_k z hD0
  have o : V6 (1 : Int64) 1 1 := V6.lit (by decide) (by decide)
  unfold f_X12_floorBy
  simp only [q_jn]
  rcases Int.lt_or_le z 0 with hz | hz
  · have t := t2 hz
    by_cases y : 0 ≤ lg_cmp (a - a / d * d) 0
    · rw [if_pos y]
      have y' := c.mp y
      refine ((q.to ?_).i (by omega)).wk (by omega)
      rw [t] at y' ⊢
      rcases hD with rfl | rfl <;> omega
    · rw [if_neg y]
      have y' : ¬ 0 ≤ z - z.tdiv D * D := fun k => y (c.mpr k)
      refine (((q.sub o (by omega)).to ?_).i (by omega))
      rw [t] at y' ⊢
      rcases hD with rfl | rfl <;> omega
  · have t := t1 hz
    have y : 0 ≤ lg_cmp (a - a / d * d) 0 := c.mpr (by rw [t]; rcases hD with rfl | rfl <;> omega)
    rw [if_pos y]
    exact ((q.to t).i (by omega)).wk (by omega)
theorem c_needOf {w v : Wd} {c : Nat} (R : RS w v) (hc : c < 4) (A : A5 w v c) (P : P5 w v c) : ∃ p, f_X3_needOf w (K5 c) = some p ∧ f_X12_needOf v (nI c) = some p := by
  obtain ⟨n, hn, e1, e2, hh, g⟩ := id R.2.2.2.1
  obtain ⟨cc, ss, vc, vs, -⟩ := tr_v (bt_w P.2.2.1.2 (show (-120 : Int) ≤ 0 by decide) (show (35 : Int) ≤ 120 by decide))
  have B := bt_w P.2.2.1.2 (show (-120 : Int) ≤ 0 by decide) (show (35 : Int) ≤ 120 by decide)
  have vW := V.of (M := 999) A.2.2.2.1.2 (by decide) (by decide)
  have vS := V.of (M := 100) R.2.2.2.2.2.2.2.1.2 (by decide) (by decide)
  have d65 : (65 : Int32).toInt = 65 := by decide
  have d10 : (10 : Int32).toInt = 10 := by decide
  have e65 : (65 : Int64).toInt = 65 := by decide
  have e10 : (10 : Int64).toInt = 10 := by decide
  have key : ∀ (t u : Int32) (y : Int), V t y 26001 → V u y 26001 → -(f_J9_floorDiv_7cf53 (-(wS w (K5 c) 2 * (wS w 3 5 + t))) 10) = -(f_X12_floorBy (-(wS w (K5 c) 2).toInt64 * (wS w 3 5 + u).toInt64) 10) := by
    intro t u y ht hu
    have a := floor_c (((vW.mul (vS.add ht (by decide)) (by decide)).neg (by decide))) (by decide) d10 (Or.inr rfl)
    have b := floor_r ((((V6.of vW).neg (by decide)).mul (V6.of (vS.add hu (by decide))) (by decide)).to (Int.neg_mul _ _)) (by decide) e10 (Or.inr rfl)
    rw [a.same b]
  unfold f_X3_needOf f_X12_needOf
  simp only [q_gt, q_jn, q_lt, ld_n hc (show 4 < 2 ^ 31 by decide), ← P.1.1, ← P.2.1.1, ← P.2.2.1.1, ← A.2.2.2.1.1, ← R.2.2.2.2.2.2.2.1.1]
  obtain ⟨r, h1, h2, h3⟩ := c_slopeAt R.2.2.2.1 (wS w (K5 c) 9) (wS w (K5 c) 10)
  rw [h1, h2]
  simp only [bo_v]
  unfold f_X8_riseXOf f_X8_riseYOf
  rw [cos_eq B, sin_eq B]
  rcases h3 with rfl | ⟨j, hj, hj10, rfl⟩
  · rw [slope_m1]
    simp only [if_true, bo_v]
    refine ⟨_, rfl, ?_⟩
    have a := floor_c (((z0v.mul vc (by decide)).add (z0v.mul vs (by decide)) (by decide)).to (y := 0) (by omega)) (by decide) d65 (Or.inl rfl)
    rw [key _ 0 0 (a.wk (by decide)) (z0v.wk (by decide))]
  · obtain ⟨s1, s2⟩ := slope_j e1 hn hj hj10
    rw [s1, if_neg (m1_ne (k := 0) (by omega) (by omega))]
    have H := hh j s2
    have vx := V.of (M := 200) H.2.2.2.1.2 (by decide) (by decide)
    have vy := V.of (M := 200) H.2.2.2.2.2 (by decide) (by decide)
    simp only [if_neg one0, ld_n hj10 (show 10 < 2 ^ 31 by decide), bo_v, ← H.2.2.2.1.1, ← H.2.2.2.2.1]
    refine ⟨_, rfl, ?_⟩
    have a := floor_c ((vx.mul vc (by decide)).add (vy.mul vs (by decide)) (by decide)) (by decide) d65 (Or.inl rfl)
    have b := floor_r (((V6.of vx).mul (V6.of vc) (by decide)).add ((V6.of vy).mul (V6.of vs) (by decide)) (by decide)) (by decide) e65 (Or.inl rfl)
    rw [key _ _ _ (a.wk (by decide)) (b.wk (by decide))]
theorem c_need {w v : Wd} (R : RS w v) (a : Int32) : ∃ r, f_X11_need w a = some r ∧ f_X12_need v a = some r := by
  unfold f_X11_need f_X12_need
  rcases carAt_c R.2.2.2.2.1 a with ⟨q1, q2⟩ | ⟨c, hc, hcn, rfl, q1, q2, A, S, P, Q⟩
  · rw [q1, stands_0 q2]; exact ⟨_, rfl, rfl⟩
  rw [q1, stands_k hc q2]
  simp only [bo_v, q_gt, if_neg (K5_ne (c := c)), ← P.2.2.2.1.1]
  by_cases hz : wS w (K5 c) 12 = 0
  · rw [if_pos hz, if_pos hz, if_pos rfl]; exact ⟨_, rfl, rfl⟩
  rw [if_neg hz, if_neg hz, if_neg one0]
  obtain ⟨p, k1, k2⟩ := c_needOf R hc A P
  rw [k1, k2]
  exact ⟨p, rfl, rfl⟩
theorem c_may {w v : Wd} (R : RS w v) (a : Int32) : ∃ r w1, f_X11_may w a = some (r, w1) ∧ f_X12_may v a = some r ∧ FrL w w1 := by
  unfold f_X11_may f_X12_may
  rcases carAt_c R.2.2.2.2.1 a with ⟨q1, q2⟩ | ⟨c, hc, hcn, rfl, q1, q2, A, S, P, Q⟩
  · rw [q1, q2]; exact ⟨_, _, rfl, rfl, FrL.refl⟩
  rw [q1, q2]
  simp only [bo_v, q_gt, if_neg (K5_ne (c := c)), if_neg one0, ld_n hc (show 4 < 2 ^ 31 by decide), ← P.2.2.2.1.1]
  by_cases hz : wS w (K5 c) 12 = 0
  · rw [if_pos hz, if_pos hz]; exact ⟨_, _, rfl, rfl, FrL.refl⟩
  rw [if_neg hz, if_neg hz]
  obtain ⟨p, w1, k1, k2, k3, -⟩ := c_pullOf R hc A P Q
  rw [k1, k3]
  simp only [bi_v, bo_v]
  by_cases hp : p ≤ 0
  · rw [if_pos hp, if_pos hp]; exact ⟨_, _, rfl, rfl, k2⟩
  rw [if_neg hp, if_neg hp]
  obtain ⟨q, k4, k5⟩ := c_needOf (R.fr0 k2.only only.refl) hc (k2.A A) (k2.P P)
  rw [k4, k5]
  simp only [bo_v]
  by_cases hq : p < q
  · rw [if_pos hq, if_pos hq]; exact ⟨_, _, rfl, rfl, k2⟩
  · rw [if_neg hq, if_neg hq]; exact ⟨_, _, rfl, rfl, k2⟩
theorem l_woods {w v : Wd} {c : Nat} {b n s : Int32} (hb : f_X12_isOnWet v (nI c) = some b) (hn : f_X12_needOf v (nI c) = some n) (e6 : wS w 3 6 = wS v 63 49) : ∀ (m i f : Nat), i + m = 21 → m < f → ∃ r, l_X3_fewestWoods_28 (-n) w s b f (nI i) = some (r, w) ∧ l_X12_woods_44 (nI c) v s f (nI i) = some r
  | 0, i, f + 1, hi, _ => by
    unfold l_X3_fewestWoods_28 l_X12_woods_44
    rw [if_pos (show (20 : Int32) < nI i from (nI_ltI (a := 20) (by decide) (by omega)).mpr (by omega)), if_pos (show (21 : Int32) ≤ nI i from (nI_leI (a := 21) (by decide) (by omega)).mpr (by omega))]
    exact ⟨_, rfl, rfl⟩
  | m + 1, i, f + 1, hi, hf => by
    obtain ⟨r, i1, i2⟩ := l_woods (s := s) hb hn e6 m (i + 1) f (by omega) (by omega)
    unfold l_X3_fewestWoods_28 l_X12_woods_44
    rw [if_neg (show ¬ (20 : Int32) < nI i from fun k => by have := (nI_ltI (a := 20) (by decide) (by omega)).mp k; omega), if_neg (show ¬ (21 : Int32) ≤ nI i from fun k => by have := (nI_leI (a := 21) (by decide) (by omega)).mp k; omega), hb, hn]
    simp only [bo_v, q_jn, q_gt, q_lt, e6, nI_1, i1, i2]
    by_cases hb0 : b = 0
    · rw [if_pos hb0, if_pos hb0]
      by_cases k : nI i * wS v 63 49 + s < -n
      · rw [if_pos k, if_pos k]; exact ⟨_, rfl, rfl⟩
      · rw [if_neg k, if_neg k]; exact ⟨_, rfl, rfl⟩
    · rw [if_neg hb0, if_neg hb0]
      by_cases k : nI i * wS v 63 49 / 2 + s < -n
      · rw [if_pos k, if_pos k]; exact ⟨_, rfl, rfl⟩
      · rw [if_neg k, if_neg k]; exact ⟨_, rfl, rfl⟩
theorem max_neg {p : Int32} {z : Int} {M : Nat} (h : V p z M) (hM : M < 2147483648) : f_J9_max_7cf53 0 (-p) = if (0 : Int32) ≤ p then 0 else -p := by
  unfold f_J9_max_7cf53
  have a := z0v.lt (h.neg hM)
  have b := z0v.le h
  by_cases k : (0 : Int32) ≤ p
  · rw [if_pos k]
    have := b.mp k
    rw [if_neg (fun y => by have := a.mp y; omega)]
  · rw [if_neg k, if_pos (a.mpr (by have : ¬ (0 : Int) ≤ z := fun y => k (b.mpr y); omega))]
theorem c_woods {w v : Wd} (R : RS w v) (a : Int32) : ∃ r w1, f_X11_woods w a = some (r, w1) ∧ f_X12_woods v a = some r ∧ FrL w w1 := by
  unfold f_X11_woods f_X12_woods
  rcases carAt_c R.2.2.2.2.1 a with ⟨q1, q2⟩ | ⟨c, hc, hcn, rfl, q1, q2, A, S, P, Q⟩
  · rw [q1, q2]; exact ⟨_, _, rfl, rfl, FrL.refl⟩
  rw [q1, q2]
  simp only [bo_v, q_gt, if_neg (K5_ne (c := c)), if_neg one0, ld_n hc (show 4 < 2 ^ 31 by decide), ← P.2.2.2.1.1]
  by_cases hz : wS w (K5 c) 12 = 0
  · rw [if_pos hz, if_pos hz]; exact ⟨_, _, rfl, rfl, FrL.refl⟩
  rw [if_neg hz, if_neg hz]
  obtain ⟨p, w1, k1, k2, k3, zp, hp⟩ := c_pullOf R hc A P Q
  obtain ⟨q, k4, k5⟩ := c_needOf R hc A P
  have R1 := R.fr0 k2.only only.refl
  obtain ⟨b, b1, b2⟩ := c_wet R1.2.2.2.1 hc (k2.P P)
  unfold f_X3_fewestWoods
  rw [k4, k3]
  simp only [bo_v, q_lt, q_jn]
  rw [k1]
  simp only [bi_v]
  rw [b1, max_neg hp (by decide)]
  simp only [bo_v]
  obtain ⟨r, i1, i2⟩ := l_woods (s := if (0 : Int32) ≤ p then 0 else -p) b2 k5 (R1.2.2.2.2.2.2.2.2.1) 21 0 FU (by omega) (by unfold FU; omega)
  have z0 : nI 0 = (0 : Int32) := nI_0
  rw [z0] at i1 i2
  rw [i1]
  simp only [bi_v]
  by_cases k : (0 : Int32) ≤ p
  · rw [if_pos k]
    rw [if_pos k] at i2
    exact ⟨r, w1, rfl, i2, k2⟩
  · rw [if_neg k]
    rw [if_neg k] at i2
    exact ⟨r, w1, rfl, i2, k2⟩
