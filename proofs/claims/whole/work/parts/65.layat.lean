/-! ===== a car laid ===== -/
def hlS (w : Wd) (c i : Nat) : Int32 := wS w (K5 c + 2) i + wS w (K5 c) 3 * wS w (K5 c + 1) i / 100
def hbS (w : Wd) (c i : Nat) : Int32 := wS w (K5 c + 3) i + wS w (K5 c) 3 * wS w (K5 c + 1) i / 100
theorem div100 {p : Int32} (h : bt 0 1980 p) : bt 0 19 (p / 100) := by
  have h1 := h.1
  have h2 := h.2
  have e : (p / 100).toInt = p.toInt / 100 := by
    rw [Int32.toInt_div]
    have z : (100 : Int32).toInt = 100 := by decide
    rw [z, Int.tdiv_eq_ediv_of_nonneg h1]
    exact Int.bmod_eq_of_le (by omega) (by omega)
  exact ⟨by rw [e]; omega, by rw [e]; omega⟩
theorem two_b {a p : Int32} (ha : bt 1 30 a) (hp : bt 0 19 p) : bt 0 100 (2 * (a + p)) := by
  have v := (V.lit (a := 2) (z := 2) (by decide)).mul ((V.of (M := 30) ha (by decide) (by decide)).add (V.of (M := 19) hp (by decide) (by decide)) (by decide)) (by decide)
  have := ha.1
  have := ha.2
  have := hp.1
  have := hp.2
  exact ⟨by rw [v.1]; omega, by rw [v.1]; omega⟩
theorem prod_b {a b : Int32} (ha : bt 0 20 a) (hb : bt 1 99 b) : bt 0 1980 (a * b) := by
  have v := (V.of (M := 20) ha (by decide) (by decide)).mul (V.of (M := 99) hb (by decide) (by decide)) (by decide)
  have h1 := v.2
  have h2 : 0 ≤ a.toInt * b.toInt := Int.mul_nonneg ha.1 (by have := hb.1; omega)
  exact ⟨by rw [v.1]; exact h2, by rw [v.1]; omega⟩
theorem hl_b {w v : Wd} {c i : Nat} (A : A5 w v c) (h : bt 1 99 (wS w (K5 c + 1) i)) (g : bt 1 30 (wS w (K5 c + 2) i)) : bt 0 100 (2 * hlS w c i) := two_b g (div100 (prod_b A.2.2.2.2.1.2 h))
theorem hb_b {w v : Wd} {c i : Nat} (A : A5 w v c) (h : bt 1 99 (wS w (K5 c + 1) i)) (g : bt 1 30 (wS w (K5 c + 3) i)) : bt 0 100 (2 * hbS w c i) := two_b g (div100 (prod_b A.2.2.2.2.1.2 h))
/-- changed at the car's rectangles only -/
def FrR (c : Nat) (w w' : Wd) : Prop := (∀ p j, (p < K5 c + 5 ∨ K5 c + 10 ≤ p) → wS w' p j = wS w p j ∧ wL w' p j = wL w p j) ∧ am w w'
theorem FrR.refl {c : Nat} {w : Wd} : FrR c w w := ⟨fun _ _ _ => ⟨rfl, rfl⟩, am.refl⟩
theorem FrR.only {c : Nat} {w w' : Wd} (hc : c < 4) (h : FrR c w w') : only 0 w w' := fun b h0 _ p j hp => by
  refine h.1 p j ?_
  rcases Nat.lt_or_ge p (K5 c + 5) with g | g
  · exact Or.inl g
  rcases Nat.lt_or_ge p (K5 c + 10) with g2 | g2
  · exfalso
    obtain ⟨o, rfl⟩ : ∃ o, p = K5 c + o := ⟨p - K5 c, by omega⟩
    have e9 := Ar_car (c := c) (o := o) (j := j) hc (by omega)
    have k : ∀ o, o < 10 → 5 ≤ o → arC.getD o 0 = 0 := by decide
    have e8 : arC.getD o 0 = b := e9.symm.trans hp
    rw [k o (by omega) (by omega)] at e8
    exact h0 e8.symm
  · exact Or.inr g2
theorem FrR.cm {c : Nat} {w w' : Wd} (h : FrR c w w') : cm w w' := fun p j h1 h2 => (h.1 p j (by unfold K5; omega)).1
def Laid (w0 w : Wd) (c i : Nat) (x y h : Int32) : Prop := Lay w (K5 c + 5 + i) (2 * x) (2 * y) h (2 * hlS w0 c i) (2 * hbS w0 c i)
theorem lay_k {w : Wd} {q : Nat} {X Y h L B : Int32} : ∃ w', f_X5_lay w q X Y (f_X12_along h) (f_X12_across h) L B = some w' ∧ Lay w' q X Y h L B ∧ (∀ p j, p ≠ q → wS w' p j = wS w p j ∧ wL w' p j = wL w p j) ∧ am w w' := by
  unfold f_X5_lay
  simp only [q_pt]
  refine ⟨_, rfl, ⟨?_, ?_, ?_, ?_, ?_, ?_, ?_, ?_⟩, fun p j hp => ⟨?_, rfl⟩, fun _ => rfl⟩
  all_goals (repeat first | rw [wS_sI, if_pos ⟨rfl, rfl⟩] | rw [wS_sI, if_neg (by omega)] | rw [wS_sN, if_neg (by omega)] | rw [wS_sR] | rw [wS_sN, if_pos rfl] | rw [wS_sFr, if_neg (by omega)] | rw [wS_sFr, if_pos (by omega)])
theorem l_layAt {w0 : Wd} {c s : Nat} (hc : c < 4) (hs : s ≤ 5) (e1 : wS w0 (K5 c) 7 = nI s) (hf4 : ∀ i, i < 5 → wS w0 (K5 c + 4) i ≠ 0) {x y h : Int32} : ∀ (m i f : Nat) (w : Wd), i + m = s → m < f → FrR c w0 w → (∀ j, j < i → Laid w0 w c j x y h) →
    ∃ w', l_X1_layAt_15 x y (K5 c) (f_X12_along h) (f_X12_across h) f w (nI i) = some w' ∧ FrR c w0 w' ∧ ∀ j, j < s → Laid w0 w' c j x y h
  | 0, i, f + 1, w, hi, _, hF, hL => by
    have e7 : wS w (K5 c) 7 = nI s := ((hF.1 _ 7 (Or.inl (by omega))).1).trans e1
    unfold l_X1_layAt_15
    simp only [q_gt, e7, if_pos (nI_le (show s ≤ i by omega) (by omega))]
    exact ⟨w, rfl, hF, fun j hj => hL j (by omega)⟩
  | m + 1, i, f + 1, w, hi, hf, hF, hL => by
    have e7 : wS w (K5 c) 7 = nI s := ((hF.1 _ 7 (Or.inl (by omega))).1).trans e1
    have hi5 : i < 5 := by omega
    have f3 := (hF.1 (K5 c) 3 (Or.inl (by omega))).1
    have g1 := (hF.1 (K5 c + 1) i (Or.inl (by omega))).1
    have g2 := (hF.1 (K5 c + 2) i (Or.inl (by omega))).1
    have g3 := (hF.1 (K5 c + 3) i (Or.inl (by omega))).1
    have g4 : wS w (K5 c + 4) i ≠ 0 := by rw [(hF.1 (K5 c + 4) i (Or.inl (by omega))).1]; exact hf4 i hi5
    obtain ⟨w', k1, k2, k3, k4⟩ := lay_k (w := w) (q := K5 c + 5 + i) (X := 2 * x) (Y := 2 * y) (h := h) (L := 2 * hlS w0 c i) (B := 2 * hbS w0 c i)
    have hF' : FrR c w0 w' := ⟨fun p j hp => by
      have := k3 p j (by omega)
      exact ⟨this.1.trans (hF.1 p j hp).1, this.2.trans (hF.1 p j hp).2⟩, hF.2.trans k4⟩
    obtain ⟨w2, r1, r2, r3⟩ := l_layAt hc hs e1 hf4 (x := x) (y := y) (h := h) m (i + 1) f w' (by omega) (by omega) hF' (fun j hj => by
      by_cases hji : j = i
      · rw [hji]; exact k2
      · have hl := hL j (by omega)
        unfold Laid Lay at hl ⊢
        have e : ∀ z, wS w' (K5 c + 5 + j) z = wS w (K5 c + 5 + j) z := fun z => (k3 _ z (by omega)).1
        simp only [e]
        exact hl)
    refine ⟨w2, ?_, r2, r3⟩
    unfold l_X1_layAt_15
    unfold hlS hbS at k1
    simp only [q_gt, q_lt, q_jn, q_pt, q_bo, q_bi, e7, if_neg (nI_ge (show i < s by omega) (by omega)), ld_n hi5 (show 5 < 2 ^ 31 by decide), f3, g1, g2, g3, ldq_n hi5 (show 5 < 2 ^ 31 by decide) g4, rt_rect hc, k1, nI_1]
    exact r1
theorem c_layAt {w v : Wd} {c : Nat} (hc : c < 4) (A : A5 w v c) (S : S5 w v c) (x y : Int32) {h : Int32} (hh : bt (-100) 100 h) : ∃ w', f_X1_layAt w (K5 c) x y h = some w' ∧ FrR c w w' ∧ ∀ j, nI j < wS w (K5 c) 7 → j < 5 → Laid w w' c j x y h := by
  obtain ⟨s, hs, e1, -, -⟩ := S
  obtain ⟨w', r1, r2, r3⟩ := l_layAt hc hs e1 A.2.2.2.2.2 (x := x) (y := y) (h := h) s 0 FU w (by omega) (by unfold FU; omega) FrR.refl (fun j hj => absurd hj (Nat.not_lt_zero j))
  refine ⟨w', ?_, r2, fun j hj hj5 => r3 j ?_⟩
  · unfold f_X1_layAt
    simp only [q_lt, cos_eq (bt_w hh (show (-120 : Int) ≤ -100 by decide) (show (100 : Int) ≤ 120 by decide)), sin_eq (bt_w hh (show (-120 : Int) ≤ -100 by decide) (show (100 : Int) ≤ 120 by decide))]
    exact r1
  · rw [e1] at hj
    exact (nI_ltI (by omega) (by omega)).mp hj
