/-! ===== ropes: laid, bitten, tight ===== -/
def FrL (w w' : Wd) : Prop := (∀ p j, p ≠ 23 → wS w' p j = wS w p j ∧ wL w' p j = wL w p j) ∧ am w w'
theorem FrL.refl {w : Wd} : FrL w w := ⟨fun _ _ _ => ⟨rfl, rfl⟩, am.refl⟩
theorem FrL.trans {u v w : Wd} (h : FrL u v) (g : FrL v w) : FrL u w := ⟨fun p j hp => ⟨(g.1 p j hp).1.trans (h.1 p j hp).1, (g.1 p j hp).2.trans (h.1 p j hp).2⟩, h.2.trans g.2⟩
theorem FrL.only {w w' : Wd} (h : FrL w w') : only 0 w w' := fun b h0 _ p j hp => h.1 p j (fun z => h0 (by rw [← hp, z]; rfl))
theorem FrL.cm {w w' : Wd} (h : FrL w w') : cm w w' := fun p j h1 h2 => (h.1 p j (by omega)).1
def rT (w : Wd) (c r : Nat) : Int32 := if 2 ≤ r then 18 + wS w (K5 c + 12) r else wS w (K5 c + 12) r
def rH (w : Wd) (c r : Nat) : Int32 := wS w (K5 c) 11 + rT w c r
theorem rT_b {w v : Wd} {c r : Nat} (Q : Q5 w v c) (hr : r < 4) : bt (-9) 27 (rT w c r) := by
  have B := (Q r hr).2.2.2
  have k := (V.lit (a := 18) (z := 18) (by decide)).add (V.of (M := 9) B (by decide) (by decide)) (by decide)
  unfold rT
  by_cases h : 2 ≤ r
  · rw [if_pos h]
    exact ⟨by rw [k.1]; have := B.1; omega, by rw [k.1]; have := B.2; omega⟩
  · rw [if_neg h]
    exact ⟨by have := B.1; omega, by have := B.2; omega⟩
theorem rH_b {w v : Wd} {c r : Nat} (P : P5 w v c) (Q : Q5 w v c) (hr : r < 4) : bt (-9) 62 (rH w c r) := by
  have B := rT_b Q hr
  have C := P.2.2.1.2
  have k := (V.of (M := 35) C (by decide) (by decide)).add (V.of (M := 27) B (by decide) (by decide)) (by decide)
  unfold rH
  exact ⟨by rw [k.1]; have := B.1; have := C.1; omega, by rw [k.1]; have := B.2; have := C.2; omega⟩
theorem in03 {r : Nat} (hr : r < 4) : f_X11_within (nI r) 0 3 = 1 := win_v (n := 4) hr (by decide)
theorem two_le {r : Nat} (hr : r < 4) : ((2 : Int32) ≤ nI r) = (2 ≤ r) := propext (nI_leI (a := 2) (by decide) (by omega))
theorem ropeTurn_k {w : Wd} {c r : Nat} (hr : r < 4) : f_X1_ropeTurn w (K5 c) (nI r) = some (rT w c r) := by
  unfold f_X1_ropeTurn rT
  simp only [in03 hr, if_neg one0, two_le hr, ld_n hr (show 4 < 2 ^ 31 by decide)]
  by_cases h : 2 ≤ r
  · rw [if_pos h, if_pos h]
  · rw [if_neg h, if_neg h]
def hdP (H T : Int32) : Prop := f_X12_along (H + T + 36 - (H + T + 36) / 36 * 36) = f_X12_along (H + T) ∧ f_X12_across (H + T + 36 - (H + T + 36) / 36 * 36) = f_X12_across (H + T) ∧ f_X12_along (H + T + 36 - (H + T + 36) / 36 * 36 - H) = f_X12_along T
theorem hd_t : ∀ a : Fin 36, ∀ b : Fin 37, hdP (Int32.ofInt (a.val : Int)) (Int32.ofInt ((b.val : Int) - 9)) := by unfold hdP; decide +kernel
theorem hd {H T : Int32} (h : bt 0 35 H) (g : bt (-9) 27 T) : hdP H T := by
  have h1 := h.1
  have h2 := h.2
  have g1 := g.1
  have g2 := g.2
  have e := hd_t ⟨H.toInt.toNat, by omega⟩ ⟨(T.toInt + 9).toNat, by omega⟩
  have e1 : ((H.toInt.toNat : Nat) : Int) = H.toInt := by omega
  have e2 : (((T.toInt + 9).toNat : Nat) : Int) - 9 = T.toInt := by omega
  simp only [e1, e2, ofInt_toInt] at e
  exact e
theorem ropeHeading_k {w v : Wd} {c r : Nat} (hc : c < 4) (P : P5 w v c) (Q : Q5 w v c) (hr : r < 4) : ∃ g, f_X12_ropeHeading v (nI c) (nI r) = some g ∧ f_X12_along g = f_X12_along (rH w c r) ∧ f_X12_across g = f_X12_across (rH w c r) ∧ f_X12_along (g - wS v 87 c) = f_X12_along (rT w c r) := by
  obtain ⟨e1, e2, e3⟩ := hd P.2.2.1.2 (rT_b Q hr)
  refine ⟨rH w c r + 36 - (rH w c r + 36) / 36 * 36, ?_, e1, e2, ?_⟩
  · have ei : nI (4 * c) + nI r = nI (4 * c + r) := nI_add _ _
    unfold f_X12_ropeHeading
    simp only [q_jn, ld_n hc (show 4 < 2 ^ 31 by decide), nI_mul4, ei, ld_n (show 4 * c + r < 16 by omega) (show 16 < 2 ^ 31 by decide), two_le hr, ← P.2.2.1.1, ← (Q r hr).2.2.1]
    have k : ∀ t b : Int32, t + b = rT w c r → some (wS w (K5 c) 11 + t + b + 36 - (wS w (K5 c) 11 + t + b + 36) / 36 * 36) = some (rH w c r + 36 - (rH w c r + 36) / 36 * 36) := by
      intro t b h
      have e : wS w (K5 c) 11 + t + b = rH w c r := by unfold rH; rw [← h]; grind
      rw [e]
    by_cases h : 2 ≤ r
    · rw [if_pos h]
      exact k 18 _ (by unfold rT; rw [if_pos h])
    · rw [if_neg h]
      exact k 0 _ (by unfold rT; rw [if_neg h]; grind)
  · rw [← P.2.2.1.1]
    exact e3
theorem c_layRope {w v : Wd} {c r : Nat} (A : A5 w v c) (P : P5 w v c) (Q : Q5 w v c) (hr : r < 4) : ∃ w', f_X1_layRope w (K5 c) 23 (nI r) = some w' ∧ FrL w w' ∧
    Lay w' 23 (2 * (wS w (K5 c) 9 + f_X1_wheelX w (K5 c) (nI r) (wS w (K5 c) 11)) + wS w (K5 c + 11) r * f_X12_along (rH w c r)) (2 * (wS w (K5 c) 10 + f_X1_wheelY w (K5 c) (nI r) (wS w (K5 c) 11)) + wS w (K5 c + 11) r * f_X12_across (rH w c r)) (rH w c r) (wS w (K5 c + 11) r) 0 := by
  have B := bt_w (rH_b P Q hr) (show (-120 : Int) ≤ -9 by decide) (show (62 : Int) ≤ 120 by decide)
  unfold f_X1_layRope
  rw [ropeTurn_k hr]
  simp only [in03 hr, if_neg one0, q_gt, q_lt, bo_v, ld_n hr (show 4 < 2 ^ 31 by decide)]
  rw [show wS w (K5 c) 11 + rT w c r = rH w c r from rfl, cos_eq B, sin_eq B]
  obtain ⟨w', k1, k2, k3, k4⟩ := lay_k (w := w) (q := 23) (X := 2 * (wS w (K5 c) 9 + f_X1_wheelX w (K5 c) (nI r) (wS w (K5 c) 11)) + wS w (K5 c + 11) r * f_X12_along (rH w c r)) (Y := 2 * (wS w (K5 c) 10 + f_X1_wheelY w (K5 c) (nI r) (wS w (K5 c) 11)) + wS w (K5 c + 11) r * f_X12_across (rH w c r)) (h := rH w c r) (L := wS w (K5 c + 11) r) (B := 0)
  rw [k1]
  exact ⟨w', rfl, ⟨k3, k4⟩, k2⟩
theorem l_line {w v : Wd} {n c r : Nat} (hn : n ≤ 20) (e1 : wS w 2 4 = nI n) (e2 : wS v 63 0 = nI n) (hh : ∀ i, i < n → R1i w v i) {X Y h L px py g : Int32} (lay : Lay w 23 X Y h L 0) (hL : bt 1 60 L) (hpx : bt (-60000) 60000 px) (hpy : bt (-60000) 60000 py) (hX : X = 2 * px + L * f_X12_along h) (hY : Y = 2 * py + L * f_X12_across h) (bh : bt (-100) 100 h)
    (ga : f_X12_along g = f_X12_along h) (gs : f_X12_across g = f_X12_across h) (hc : c < 4) (hr : r < 4) (hl : wS v 98 (4 * c + r) = L) (J : Option Int32) (F : Int32 → Option Int32) : ∀ (m i f : Nat), i + m = n → m < f →
    (l_X8_houseOnLine_2 23 w f (nI i) = some (-1) ∧ l_X12_ropeIs_50 (nI c) (nI r) v g px py J F f (nI i) = J) ∨ ∃ q, q < 20 ∧ l_X8_houseOnLine_2 23 w f (nI i) = some (nI q) ∧ l_X12_ropeIs_50 (nI c) (nI r) v g px py J F f (nI i) = F (nI q)
  | 0, i, f + 1, hi, _ => by
    refine Or.inl ?_
    unfold l_X8_houseOnLine_2 l_X12_ropeIs_50
    simp only [q_gt, e1, e2, if_pos (nI_le (show n ≤ i by omega) (by omega)), and_self]
  | m + 1, i, f + 1, hi, hf => by
    have hi20 : i < 20 := by omega
    have H := hh i (by omega)
    have ei : nI (4 * c) + nI r = nI (4 * c + r) := nI_add _ _
    have I := l_line hn e1 e2 hh lay hL hpx hpy hX hY bh ga gs hc hr hl J F m (i + 1) f (by omega) (by omega)
    have b := bite_eq lay H.2.1 H.2.2.1 hi20 hL hpx hpy hX hY bh
    unfold l_X8_houseOnLine_2 l_X12_ropeIs_50
    simp only [q_gt, q_lt, e1, e2, if_neg (nI_ge (show i < n by omega) (by omega)), ldq_n hi20 (show 20 < 2 ^ 31 by decide) H.1, rt_10, nI_1, nI_mul4, ei, ld_n (show 4 * c + r < 16 by omega) (show 16 < 2 ^ 31 by decide), hl, ga, gs, b, bo_v]
    by_cases hz : f_X5_touchesBox w 23 (300 + i) 0 = 0
    · rw [if_pos hz, if_pos hz]; exact I
    · rw [if_neg hz, if_neg hz]
      exact Or.inr ⟨i, hi20, rfl, rfl⟩
/-- what a rope is: slack, bitten by a house, or neither -/
theorem c_ropeIs {w v : Wd} {c r : Nat} (h1 : R1 w v) (hc : c < 4) (A : A5 w v c) (P : P5 w v c) (Q : Q5 w v c) (hr : r < 4) : ∃ b w', f_X3_houseBitten w (K5 c) (nI r) = some (b, w') ∧ FrL w w' ∧ (b = -1 ∨ ∃ q, q < 20 ∧ b = nI q) ∧
    f_X12_ropeIs v (nI c) (nI r) = some (if b = -1 then (if (10 : Int32) ≤ wS w (K5 c + 10) r then 0 else 1) else 100 + b) := by
  obtain ⟨n, hn, e1, e2, hh⟩ := h1
  obtain ⟨w', k1, k2, k3⟩ := c_layRope A P Q hr
  obtain ⟨g, g1, g2, g3, -⟩ := ropeHeading_k hc P Q hr
  have ei : nI (4 * c) + nI r = nI (4 * c + r) := nI_add _ _
  have bh : bt (-100) 100 (wS w (K5 c) 11) := bt_w P.2.2.1.2 (by decide) (by decide)
  obtain ⟨⟨z1, u1⟩, ⟨z2, u2⟩⟩ := wheel_v A (nI r) bh
  have b1 : bt (-60000) 60000 (wS w (K5 c) 9 + f_X1_wheelX w (K5 c) (nI r) (wS w (K5 c) 11)) := abs_wk ((V.of (M := 40000) P.1.2 (by decide) (by decide)).add u1 (by decide)) (by decide) (by decide)
  have b2 : bt (-60000) 60000 (wS w (K5 c) 10 + f_X1_wheelY w (K5 c) (nI r) (wS w (K5 c) 11)) := abs_wk ((V.of (M := 40000) P.2.1.2 (by decide) (by decide)).add u2 (by decide)) (by decide) (by decide)
  have e1' : wS w' 2 4 = nI n := ((k2.1 2 4 (by decide)).1).trans e1
  have hh' : ∀ i, i < n → R1i w' v i := fun i hi => (hh i hi).fr (by omega) (fun k j hk => (k2.only 1 (by decide) (by decide) k j hk).1) (fun _ _ _ => rfl)
  unfold f_X3_houseBitten f_X8_houseOnLine f_X12_ropeIs
  rw [k1, g1]
  simp only [bo_v, ld_n hc (show 4 < 2 ^ 31 by decide), ← P.1.1, ← P.2.1.1, ← P.2.2.1.1, q_jn]
  rw [wheelX_eq hc A (nI r) _ bh, wheelY_eq hc A (nI r) _ bh]
  simp only [bo_v]
  have I := l_line hn e1' e2 hh' k3 (Q r hr).2.1.2 b1 b2 rfl rfl (bt_w (rH_b P Q hr) (by decide) (by decide)) g2 g3 hc hr (Q r hr).2.1.1.symm (q_ld v 97 16 ((4 : Int32) * nI c + nI r) (fun v_123 => if (10 : Int32) ≤ v_123 then some (0 : Int32) else some (1 : Int32))) (fun x => some ((100 : Int32) + x)) n 0 FU (by omega) (by unfold FU; omega)
  have z0 : nI 0 = (0 : Int32) := by decide
  rw [z0] at I
  rcases I with ⟨i1, i2⟩ | ⟨q, hq, i1, i2⟩
  · rw [i1, i2]
    refine ⟨-1, w', rfl, k2, Or.inl rfl, ?_⟩
    rw [if_pos rfl, nI_mul4, ei, ld_n (show 4 * c + r < 16 by omega) (show 16 < 2 ^ 31 by decide), ← (Q r hr).1.1]
    by_cases h : (10 : Int32) ≤ wS w (K5 c + 10) r
    · rw [if_pos h, if_pos h]
    · rw [if_neg h, if_neg h]
  · rw [i1, i2]
    refine ⟨nI q, w', rfl, k2, Or.inr ⟨q, hq, rfl⟩, ?_⟩
    rw [if_neg (m1_ne (k := 0) (by omega) (by omega))]
theorem isSlack_k {w : Wd} {c r : Nat} (hr : r < 4) : f_X1_isSlack w (K5 c) (nI r) = some (if (10 : Int32) ≤ wS w (K5 c + 10) r then 0 else 1) := by
  unfold f_X1_isSlack
  simp only [in03 hr, if_neg one0, ld_n hr (show 4 < 2 ^ 31 by decide)]
  by_cases h : (10 : Int32) ≤ wS w (K5 c + 10) r
  · rw [if_pos h, if_pos h]
  · rw [if_neg h, if_neg h]
theorem c_tight {w v : Wd} (R : RS w v) (a b : Int32) : ∃ r w1, f_X11_tight w a b = some (r, w1) ∧ f_X12_tight v a b = some r ∧ FrL w w1 := by
  unfold f_X11_tight f_X12_tight
  rw [in_eq]
  rcases carAt_c R.2.2.2.2.1 a with ⟨q1, q2⟩ | ⟨c, hc, hcn, rfl, q1, q2, A, S, P, Q⟩
  · rw [q1, q2]; exact ⟨_, _, rfl, rfl, FrL.refl⟩
  rw [q1, q2]
  simp only [bo_v, if_neg one0, if_neg (K5_ne (c := c))]
  rcases win_n b (n := 4) (by decide) with q | ⟨q, r, hr, rfl⟩
  · have q' : f_X11_within b 0 3 = 0 := q
    rw [q']; exact ⟨_, _, rfl, rfl, FrL.refl⟩
  rw [in03 hr]
  simp only [if_neg one0, q_gt, ld_n hc (show 4 < 2 ^ 31 by decide), ← P.2.2.2.1.1]
  by_cases hz : wS w (K5 c) 12 = 0
  · rw [if_pos hz, if_pos hz]; exact ⟨_, _, rfl, rfl, FrL.refl⟩
  rw [if_neg hz, if_neg hz]
  obtain ⟨x, w', k1, k2, k3, k4⟩ := c_ropeIs R.1 hc A P Q hr
  rw [k1, k4]
  simp only [bo_v, bi_v, isSlack_k hr]
  have e10 : wS w' (K5 c + 10) r = wS w (K5 c + 10) r := (k2.1 _ _ (by unfold K5; omega)).1
  rw [e10]
  by_cases hx : x = -1
  · rw [if_pos hx, if_pos hx]
    by_cases h : (10 : Int32) ≤ wS w (K5 c + 10) r
    · rw [if_pos h, if_pos rfl]; exact ⟨_, _, rfl, rfl, k2⟩
    · rw [if_neg h, if_neg one0]; exact ⟨_, _, rfl, rfl, k2⟩
  · rw [if_neg hx, if_neg hx]; exact ⟨_, _, rfl, rfl, k2⟩
