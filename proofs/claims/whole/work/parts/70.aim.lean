/-! ===== where a move would bring a car ===== -/
theorem mod36_t : ∀ k : Fin 241, (0 ≤ ((k.val : Int) - 120)) → bt 0 35 (Int32.ofInt ((k.val : Int) - 120) - Int32.ofInt ((k.val : Int) - 120) / 36 * 36) := by
  unfold bt
  decide +kernel
theorem mod36_b {a : Int32} (h : bt 0 120 a) : bt 0 35 (a - a / 36 * 36) := by
  have h1 := h.1
  have h2 := h.2
  have e := mod36_t ⟨(a.toInt + 120).toNat, by omega⟩
  have e2 : (((a.toInt + 120).toNat : Nat) : Int) - 120 = a.toInt := by omega
  simp only [e2, ofInt_toInt] at e
  exact e h1
theorem abs_wk {a : Int32} {M : Nat} {z : Int} (h : V a z M) {lo hi : Int} (h1 : lo ≤ -(M : Int)) (h2 : (M : Int) ≤ hi) : bt lo hi a := ⟨by have := h.1; have := h.2; omega, by have := h.1; have := h.2; omega⟩
theorem wheel_v {w v : Wd} {c : Nat} (A : A5 w v c) (a : Int32) {h : Int32} (hh : bt (-100) 100 h) : (∃ z, V (f_X1_wheelX w (K5 c) a h) z 3900) ∧ ∃ z, V (f_X1_wheelY w (K5 c) a h) z 3900 := by
  obtain ⟨cc, ss, vc, vs, -, -, -⟩ := tr_v (bt_w hh (show (-120 : Int) ≤ -100 by decide) (show (100 : Int) ≤ 120 by decide))
  rw [← cos_eq (bt_w hh (by decide) (by decide))] at vc
  rw [← sin_eq (bt_w hh (by decide) (by decide))] at vs
  have p := V.of (M := 30) A.2.1.2 (by decide) (by decide)
  have q := V.of (M := 30) A.2.2.1.2 (by decide) (by decide)
  have la : ∃ z, V (f_X1_alongOf w (K5 c) a) z 30 := by
    unfold f_X1_alongOf
    by_cases h1 : (2 : Int32) ≤ a
    · rw [if_pos h1]; exact ⟨_, p.neg (by decide)⟩
    · rw [if_neg h1]; exact ⟨_, p⟩
  have lb : ∃ z, V (f_X1_acrossOf w (K5 c) a) z 30 := by
    unfold f_X1_acrossOf
    by_cases h1 : a - a / 2 * 2 = 0
    · rw [if_pos h1]; exact ⟨_, q⟩
    · rw [if_neg h1]; exact ⟨_, q.neg (by decide)⟩
  obtain ⟨z1, l1⟩ := la
  obtain ⟨z2, l2⟩ := lb
  unfold f_X1_wheelX f_X1_wheelY
  exact ⟨⟨_, (l1.mul vc (by decide)).sub (l2.mul vs (by decide)) (by decide)⟩, ⟨_, (l1.mul vs (by decide)).add (l2.mul vc (by decide)) (by decide)⟩⟩
theorem wheel_sI {w : Wd} {c j : Nat} {z a h : Int32} : f_X1_wheelX (sI w 3 j z) (K5 c) a h = f_X1_wheelX w (K5 c) a h ∧ f_X1_wheelY (sI w 3 j z) (K5 c) a h = f_X1_wheelY w (K5 c) a h := by
  have e : ∀ i, wS (sI w 3 j z) (K5 c) i = wS w (K5 c) i := fun i => by rw [wS_sI, if_neg (by unfold K5; omega)]
  unfold f_X1_wheelX f_X1_wheelY f_X1_alongOf f_X1_acrossOf
  simp only [e, and_self]
/-- changed at the aim's three fields only; at the reference's three -/
def FrA (w w' : Wd) : Prop := (∀ p j, ¬ (p = 3 ∧ (j = 8 ∨ j = 9 ∨ j = 10)) → wS w' p j = wS w p j ∧ wL w' p j = wL w p j) ∧ am w w'
def FrB (v v' : Wd) : Prop := (∀ p j, ¬ (p = 63 ∧ (j = 31 ∨ j = 32 ∨ j = 33)) → wS v' p j = wS v p j ∧ wL v' p j = wL v p j) ∧ am v v'
theorem FrA.only {w w' : Wd} (h : FrA w w') : only 0 w w' := fun b h0 _ p j hp => h.1 p j (fun z => by
  obtain ⟨rfl, rfl | rfl | rfl⟩ := z
  all_goals exact h0 (hp.symm.trans rfl))
theorem FrB.only {w w' : Wd} (h : FrB w w') : only 0 w w' := fun b h0 _ p j hp => h.1 p j (fun z => by
  obtain ⟨rfl, rfl | rfl | rfl⟩ := z
  all_goals exact h0 (hp.symm.trans rfl))
theorem FrA.cm {w w' : Wd} (h : FrA w w') : cm w w' := fun p j h1 h2 => (h.1 p j (by omega)).1
theorem FrB.mm {w w' : Wd} (h : FrB w w') : mm w w' := fun p j h1 => h.1 p j (by omega)
theorem c_aim {w v : Wd} {c : Nat} (hc : c < 4) (A : A5 w v c) (F : wS w 3 3 = wS v 63 30 ∧ bt 1 20 (wS w 3 3)) {x y h m : Int32} (bx : bt (-40000) 40000 x) (byy : bt (-40000) 40000 y) (bh : bt 0 35 h) (hm : ¬ (10 : Int32) ≤ m) :
    ∃ w1 v1, f_X3_aim w (K5 c) x y h m = some w1 ∧ f_X12_goes v (nI c) x y h m = some v1 ∧ wS w1 3 8 = wS v1 63 31 ∧ wS w1 3 9 = wS v1 63 32 ∧ wS w1 3 10 = wS v1 63 33 ∧ bt (-60000) 60000 (wS w1 3 8) ∧ bt (-60000) 60000 (wS w1 3 9) ∧ bt 0 35 (wS w1 3 10) ∧ FrA w w1 ∧ FrB v v1 := by
  have bh1 : bt (-100) 100 h := bt_w bh (by decide) (by decide)
  have hx0 := V.of (M := 40000) bx (by decide) (by decide)
  have hy0 := V.of (M := 40000) byy (by decide) (by decide)
  obtain ⟨cc, ss, vc, vs, -, -, -⟩ := tr_v (bt_w bh1 (show (-120 : Int) ≤ -100 by decide) (show (100 : Int) ≤ 120 by decide))
  have ce := cos_eq (bt_w bh1 (show (-120 : Int) ≤ -100 by decide) (show (100 : Int) ≤ 120 by decide))
  have se := sin_eq (bt_w bh1 (show (-120 : Int) ≤ -100 by decide) (show (100 : Int) ≤ 120 by decide))
  have fv := V.of (M := 20) F.2 (by decide) (by decide)
  unfold f_X3_aim f_X12_goes
  by_cases h2 : (2 : Int32) ≤ m
  · simp only [if_pos h2, if_neg hm, q_pt, q_lt, q_gt, q_jn]
    generalize m - 2 - (m - 2) / 4 * 4 = wh
    have A3 : A5 w (sI (sI (sI v 63 31 x) 63 32 y) 63 33 h) c := A.fr rfl (fun _ _ => rfl) (fun _ _ => rfl) (fun m _ _ => by (repeat first | rw [wS_sI, if_pos ⟨rfl, rfl⟩] | rw [wS_sI, if_neg (by omega)] | rw [wS_sN, if_neg (by omega)] | rw [wS_sR] | rw [wS_sN, if_pos rfl] | rw [wS_sFr, if_neg (by omega)] | rw [wS_sFr, if_pos (by omega)]))
    rw [wheelX_eq hc A3 wh x bh1, wheelY_eq hc A3 wh y bh1]
    simp only [bo_v]
    have key : ∀ d e : Int32, h + d = e → bt 0 120 (h + d) → ∃ w1 v1,
        some (sI (sI (sI w 3 10 (e - e / 36 * 36)) 3 8 (x + f_X1_wheelX (sI w 3 10 (e - e / 36 * 36)) (K5 c) wh h - f_X1_wheelX (sI w 3 10 (e - e / 36 * 36)) (K5 c) wh (wS (sI w 3 10 (e - e / 36 * 36)) 3 10))) 3 9 (y + f_X1_wheelY (sI (sI w 3 10 (e - e / 36 * 36)) 3 8 (x + f_X1_wheelX (sI w 3 10 (e - e / 36 * 36)) (K5 c) wh h - f_X1_wheelX (sI w 3 10 (e - e / 36 * 36)) (K5 c) wh (wS (sI w 3 10 (e - e / 36 * 36)) 3 10))) (K5 c) wh h - f_X1_wheelY (sI (sI w 3 10 (e - e / 36 * 36)) 3 8 (x + f_X1_wheelX (sI w 3 10 (e - e / 36 * 36)) (K5 c) wh h - f_X1_wheelX (sI w 3 10 (e - e / 36 * 36)) (K5 c) wh (wS (sI w 3 10 (e - e / 36 * 36)) 3 10))) (K5 c) wh (wS (sI (sI w 3 10 (e - e / 36 * 36)) 3 8 (x + f_X1_wheelX (sI w 3 10 (e - e / 36 * 36)) (K5 c) wh h - f_X1_wheelX (sI w 3 10 (e - e / 36 * 36)) (K5 c) wh (wS (sI w 3 10 (e - e / 36 * 36)) 3 10))) 3 10))) = some w1 ∧
        (q_bo (f_X12_wheelX (sI (sI (sI (sI v 63 31 x) 63 32 y) 63 33 h) 63 33 (h + d - (h + d) / 36 * 36)) (nI c) wh 0 (wS (sI (sI (sI (sI v 63 31 x) 63 32 y) 63 33 h) 63 33 (h + d - (h + d) / 36 * 36)) 63 33)) (fun v_146 =>
          q_bo (f_X12_wheelY (sI (sI (sI (sI (sI v 63 31 x) 63 32 y) 63 33 h) 63 33 (h + d - (h + d) / 36 * 36)) 63 31 (x + f_X1_wheelX w (K5 c) wh h - v_146)) (nI c) wh 0 (wS (sI (sI (sI (sI (sI v 63 31 x) 63 32 y) 63 33 h) 63 33 (h + d - (h + d) / 36 * 36)) 63 31 (x + f_X1_wheelX w (K5 c) wh h - v_146)) 63 33)) (fun v_165 =>
            some (sI (sI (sI (sI (sI (sI v 63 31 x) 63 32 y) 63 33 h) 63 33 (h + d - (h + d) / 36 * 36)) 63 31 (x + f_X1_wheelX w (K5 c) wh h - v_146)) 63 32 (y + f_X1_wheelY w (K5 c) wh h - v_165))))) = some v1 ∧ wS w1 3 8 = wS v1 63 31 ∧ wS w1 3 9 = wS v1 63 32 ∧ wS w1 3 10 = wS v1 63 33 ∧ bt (-60000) 60000 (wS w1 3 8) ∧ bt (-60000) 60000 (wS w1 3 9) ∧ bt 0 35 (wS w1 3 10) ∧ FrA w w1 ∧ FrB v v1 := by
      intro d e he hb
      subst he
      have hb36 := mod36_b hb
      generalize h + d - (h + d) / 36 * 36 = g at hb36 ⊢
      have bg : bt (-100) 100 g := bt_w hb36 (by decide) (by decide)
      have A4 : A5 w (sI (sI (sI (sI v 63 31 x) 63 32 y) 63 33 h) 63 33 g) c := A3.fr rfl (fun _ _ => rfl) (fun _ _ => rfl) (fun m _ _ => by (repeat first | rw [wS_sI, if_pos ⟨rfl, rfl⟩] | rw [wS_sI, if_neg (by omega)] | rw [wS_sN, if_neg (by omega)] | rw [wS_sR] | rw [wS_sN, if_pos rfl] | rw [wS_sFr, if_neg (by omega)] | rw [wS_sFr, if_pos (by omega)]))
      have e1 : wS (sI (sI (sI (sI v 63 31 x) 63 32 y) 63 33 h) 63 33 g) 63 33 = g := by (repeat first | rw [wS_sI, if_pos ⟨rfl, rfl⟩] | rw [wS_sI, if_neg (by omega)] | rw [wS_sN, if_neg (by omega)] | rw [wS_sR] | rw [wS_sN, if_pos rfl] | rw [wS_sFr, if_neg (by omega)] | rw [wS_sFr, if_pos (by omega)])
      rw [e1, wheelX_eq hc A4 wh 0 bg]
      simp only [bo_v]
      have A6 : A5 w (sI (sI (sI (sI (sI v 63 31 x) 63 32 y) 63 33 h) 63 33 g) 63 31 (x + f_X1_wheelX w (K5 c) wh h - (0 + f_X1_wheelX w (K5 c) wh g))) c := A4.fr rfl (fun _ _ => rfl) (fun _ _ => rfl) (fun m _ _ => by (repeat first | rw [wS_sI, if_pos ⟨rfl, rfl⟩] | rw [wS_sI, if_neg (by omega)] | rw [wS_sN, if_neg (by omega)] | rw [wS_sR] | rw [wS_sN, if_pos rfl] | rw [wS_sFr, if_neg (by omega)] | rw [wS_sFr, if_pos (by omega)]))
      have e2 : wS (sI (sI (sI (sI (sI v 63 31 x) 63 32 y) 63 33 h) 63 33 g) 63 31 (x + f_X1_wheelX w (K5 c) wh h - (0 + f_X1_wheelX w (K5 c) wh g))) 63 33 = g := by (repeat first | rw [wS_sI, if_pos ⟨rfl, rfl⟩] | rw [wS_sI, if_neg (by omega)] | rw [wS_sN, if_neg (by omega)] | rw [wS_sR] | rw [wS_sN, if_pos rfl] | rw [wS_sFr, if_neg (by omega)] | rw [wS_sFr, if_pos (by omega)])
      rw [e2, wheelY_eq hc A6 wh 0 bg]
      simp only [bo_v, wheel_sI.1, wheel_sI.2]
      have e3 : wS (sI w 3 10 g) 3 10 = g := by (repeat first | rw [wS_sI, if_pos ⟨rfl, rfl⟩] | rw [wS_sI, if_neg (by omega)] | rw [wS_sN, if_neg (by omega)] | rw [wS_sR] | rw [wS_sN, if_pos rfl] | rw [wS_sFr, if_neg (by omega)] | rw [wS_sFr, if_pos (by omega)])
      have e4 : ∀ z, wS (sI (sI w 3 10 g) 3 8 z) 3 10 = g := fun z => by (repeat first | rw [wS_sI, if_pos ⟨rfl, rfl⟩] | rw [wS_sI, if_neg (by omega)] | rw [wS_sN, if_neg (by omega)] | rw [wS_sR] | rw [wS_sN, if_pos rfl] | rw [wS_sFr, if_neg (by omega)] | rw [wS_sFr, if_pos (by omega)])
      rw [e3, e4]
      obtain ⟨⟨z1, u1⟩, ⟨z2, u2⟩⟩ := wheel_v A wh bh1
      obtain ⟨⟨z3, u3⟩, ⟨z4, u4⟩⟩ := wheel_v A wh bg
      refine ⟨_, _, rfl, rfl, ?_, ?_, ?_, ?_, ?_, ?_, ⟨fun p j hp => ⟨?_, rfl⟩, fun _ => rfl⟩, ⟨fun p j hp => ⟨?_, rfl⟩, fun _ => rfl⟩⟩
      · (repeat first | rw [wS_sI, if_pos ⟨rfl, rfl⟩] | rw [wS_sI, if_neg (by omega)] | rw [wS_sN, if_neg (by omega)] | rw [wS_sR] | rw [wS_sN, if_pos rfl] | rw [wS_sFr, if_neg (by omega)] | rw [wS_sFr, if_pos (by omega)]); grind
      · (repeat first | rw [wS_sI, if_pos ⟨rfl, rfl⟩] | rw [wS_sI, if_neg (by omega)] | rw [wS_sN, if_neg (by omega)] | rw [wS_sR] | rw [wS_sN, if_pos rfl] | rw [wS_sFr, if_neg (by omega)] | rw [wS_sFr, if_pos (by omega)]); grind
      · (repeat first | rw [wS_sI, if_pos ⟨rfl, rfl⟩] | rw [wS_sI, if_neg (by omega)] | rw [wS_sN, if_neg (by omega)] | rw [wS_sR] | rw [wS_sN, if_pos rfl] | rw [wS_sFr, if_neg (by omega)] | rw [wS_sFr, if_pos (by omega)])
      · (repeat first | rw [wS_sI, if_pos ⟨rfl, rfl⟩] | rw [wS_sI, if_neg (by omega)] | rw [wS_sN, if_neg (by omega)] | rw [wS_sR] | rw [wS_sN, if_pos rfl] | rw [wS_sFr, if_neg (by omega)] | rw [wS_sFr, if_pos (by omega)]); exact abs_wk ((hx0.add u1 (by decide)).sub u3 (by decide)) (by decide) (by decide)
      · (repeat first | rw [wS_sI, if_pos ⟨rfl, rfl⟩] | rw [wS_sI, if_neg (by omega)] | rw [wS_sN, if_neg (by omega)] | rw [wS_sR] | rw [wS_sN, if_pos rfl] | rw [wS_sFr, if_neg (by omega)] | rw [wS_sFr, if_pos (by omega)]); exact abs_wk ((hy0.add u2 (by decide)).sub u4 (by decide)) (by decide) (by decide)
      · (repeat first | rw [wS_sI, if_pos ⟨rfl, rfl⟩] | rw [wS_sI, if_neg (by omega)] | rw [wS_sN, if_neg (by omega)] | rw [wS_sR] | rw [wS_sN, if_pos rfl] | rw [wS_sFr, if_neg (by omega)] | rw [wS_sFr, if_pos (by omega)]); exact hb36
      · (repeat first | rw [wS_sI, if_pos ⟨rfl, rfl⟩] | rw [wS_sI, if_neg (by omega)] | rw [wS_sN, if_neg (by omega)] | rw [wS_sR] | rw [wS_sN, if_pos rfl] | rw [wS_sFr, if_neg (by omega)] | rw [wS_sFr, if_pos (by omega)])
      · (repeat first | rw [wS_sI, if_pos ⟨rfl, rfl⟩] | rw [wS_sI, if_neg (by omega)] | rw [wS_sN, if_neg (by omega)] | rw [wS_sR] | rw [wS_sN, if_pos rfl] | rw [wS_sFr, if_neg (by omega)] | rw [wS_sFr, if_pos (by omega)])
    have hv0 := V.of (M := 35) bh (by decide) (by decide)
    by_cases h6 : (6 : Int32) ≤ m
    · simp only [if_pos h6]
      have k35 := hv0.add (V.lit (a := 35) (z := 35) (by decide)) (by decide)
      exact key 35 (h + 36 - 1) (by grind) ⟨by rw [k35.1]; have := bh.1; omega, by rw [k35.1]; have := bh.2; omega⟩
    · simp only [if_neg h6]
      have k1 := hv0.add (V.lit (a := 1) (z := 1) (by decide)) (by decide)
      exact key 1 (h + 1) rfl ⟨by rw [k1.1]; have := bh.1; omega, by rw [k1.1]; have := bh.2; omega⟩
  · simp only [if_neg h2, q_pt, q_lt, q_gt, q_jn, ce, se]
    have e0 : wS (sI (sI (sI v 63 31 x) 63 32 y) 63 33 h) 63 30 = wS w 3 3 := by (repeat first | rw [wS_sI, if_pos ⟨rfl, rfl⟩] | rw [wS_sI, if_neg (by omega)] | rw [wS_sN, if_neg (by omega)] | rw [wS_sR] | rw [wS_sN, if_pos rfl] | rw [wS_sFr, if_neg (by omega)] | rw [wS_sFr, if_pos (by omega)]); exact F.1.symm
    rw [e0]
    have key : ∀ t : Int32, (∃ z, V t z 20) → ∃ w1 v1, some (sI (sI (sI w 3 8 (x + t * f_X12_along h)) 3 9 (y + t * f_X12_across h)) 3 10 h) = some w1 ∧ some (sI (sI (sI (sI (sI v 63 31 x) 63 32 y) 63 33 h) 63 31 (x + t * f_X12_along h)) 63 32 (y + t * f_X12_across h)) = some v1 ∧ wS w1 3 8 = wS v1 63 31 ∧ wS w1 3 9 = wS v1 63 32 ∧ wS w1 3 10 = wS v1 63 33 ∧ bt (-60000) 60000 (wS w1 3 8) ∧ bt (-60000) 60000 (wS w1 3 9) ∧ bt 0 35 (wS w1 3 10) ∧ FrA w w1 ∧ FrB v v1 := by
      intro t ht
      obtain ⟨z, ht⟩ := ht
      refine ⟨_, _, rfl, rfl, ?_, ?_, ?_, ?_, ?_, ?_, ⟨fun p j hp => ⟨?_, rfl⟩, fun _ => rfl⟩, ⟨fun p j hp => ⟨?_, rfl⟩, fun _ => rfl⟩⟩
      · (repeat first | rw [wS_sI, if_pos ⟨rfl, rfl⟩] | rw [wS_sI, if_neg (by omega)] | rw [wS_sN, if_neg (by omega)] | rw [wS_sR] | rw [wS_sN, if_pos rfl] | rw [wS_sFr, if_neg (by omega)] | rw [wS_sFr, if_pos (by omega)])
      · (repeat first | rw [wS_sI, if_pos ⟨rfl, rfl⟩] | rw [wS_sI, if_neg (by omega)] | rw [wS_sN, if_neg (by omega)] | rw [wS_sR] | rw [wS_sN, if_pos rfl] | rw [wS_sFr, if_neg (by omega)] | rw [wS_sFr, if_pos (by omega)])
      · (repeat first | rw [wS_sI, if_pos ⟨rfl, rfl⟩] | rw [wS_sI, if_neg (by omega)] | rw [wS_sN, if_neg (by omega)] | rw [wS_sR] | rw [wS_sN, if_pos rfl] | rw [wS_sFr, if_neg (by omega)] | rw [wS_sFr, if_pos (by omega)])
      · (repeat first | rw [wS_sI, if_pos ⟨rfl, rfl⟩] | rw [wS_sI, if_neg (by omega)] | rw [wS_sN, if_neg (by omega)] | rw [wS_sR] | rw [wS_sN, if_pos rfl] | rw [wS_sFr, if_neg (by omega)] | rw [wS_sFr, if_pos (by omega)]); exact abs_wk (hx0.add (ht.mul vc (by decide)) (by decide)) (by decide) (by decide)
      · (repeat first | rw [wS_sI, if_pos ⟨rfl, rfl⟩] | rw [wS_sI, if_neg (by omega)] | rw [wS_sN, if_neg (by omega)] | rw [wS_sR] | rw [wS_sN, if_pos rfl] | rw [wS_sFr, if_neg (by omega)] | rw [wS_sFr, if_pos (by omega)]); exact abs_wk (hy0.add (ht.mul vs (by decide)) (by decide)) (by decide) (by decide)
      · (repeat first | rw [wS_sI, if_pos ⟨rfl, rfl⟩] | rw [wS_sI, if_neg (by omega)] | rw [wS_sN, if_neg (by omega)] | rw [wS_sR] | rw [wS_sN, if_pos rfl] | rw [wS_sFr, if_neg (by omega)] | rw [wS_sFr, if_pos (by omega)]); exact bh
      · (repeat first | rw [wS_sI, if_pos ⟨rfl, rfl⟩] | rw [wS_sI, if_neg (by omega)] | rw [wS_sN, if_neg (by omega)] | rw [wS_sR] | rw [wS_sN, if_pos rfl] | rw [wS_sFr, if_neg (by omega)] | rw [wS_sFr, if_pos (by omega)])
      · (repeat first | rw [wS_sI, if_pos ⟨rfl, rfl⟩] | rw [wS_sI, if_neg (by omega)] | rw [wS_sN, if_neg (by omega)] | rw [wS_sR] | rw [wS_sN, if_pos rfl] | rw [wS_sFr, if_neg (by omega)] | rw [wS_sFr, if_pos (by omega)])
    by_cases h0 : m = 0
    · rw [if_pos h0, if_pos h0]; exact key _ ⟨_, fv⟩
    · rw [if_neg h0, if_neg h0]; exact key _ ⟨_, fv.neg (by decide)⟩
