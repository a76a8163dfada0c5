/-! ===== stand, meets, move ===== -/
theorem R5.place {w v w' v' : Wd} (h : R5 w v) {c : Nat} (hc : nI c < wS w 3 2) (hc4 : c < 4) (hK : ∀ p j, ¬ (p = K5 c ∧ 9 ≤ j ∧ j ≤ 13) → Ar p j = 5 → wS w' p j = wS w p j) (hv : ∀ m i, ¬ (84 ≤ m ∧ m ≤ 88 ∧ i = c) → ¬ m = 63 → wS v' m i = wS v m i) (hv63 : wS v' 63 16 = wS v 63 16) (P : P5 w' v' c) : R5 w' v' := by
  obtain ⟨n, hn, d1, d2, hh, hN⟩ := id h
  have hcn : c < n := by
    rw [d1] at hc
    exact (nI_ltI (by omega) (by omega)).mp hc
  have hK' : ∀ d o j, d < 4 → (o < 5 ∨ (10 ≤ o ∧ o < 20)) → ¬ (d = c ∧ o = 0 ∧ 9 ≤ j ∧ j ≤ 13) → wS w' (K5 d + o) j = wS w (K5 d + o) j := fun d o j hd ho hn => hK _ j (fun z => hn (by
    have := z.1
    unfold K5 at this
    omega)) (Ar_K hd ho)
  refine ⟨n, hn, (hK 3 2 (fun z => by have := z.1; unfold K5 at this; omega) rfl).trans d1, hv63.trans d2, fun d hd => ?_, fun d q1 q2 => ?_⟩
  · obtain ⟨a, b, p, q⟩ := hh d hd
    have hd4 : d < 4 := by omega
    refine ⟨a.fr (hK 22 d (fun z => by have := z.1; unfold K5 at this; omega) rfl) (fun j hj => hK' d 0 j hd4 (by omega) (by omega)) (fun i _ => hK' d 4 i hd4 (by omega) (by omega)) (fun m _ _ => hv m d (by omega) (by omega)),
      b.fr (hK' d 0 7 hd4 (by omega) (by omega)) (hv 80 d (by omega) (by omega)) (fun o i _ _ _ => hK' d o i hd4 (by omega) (by omega)) (fun m i _ _ _ => hv m _ (by omega) (by omega)), ?_,
      q.fr (fun o r _ _ _ => hK' d o r hd4 (by omega) (by omega)) (fun m r _ _ _ => hv m _ (by omega) (by omega))⟩
    by_cases hdc : d = c
    · rw [hdc]; exact P
    · exact p.fr (fun j _ _ => hK' d 0 j hd4 (by omega) (by omega)) (fun m _ _ => hv m d (by omega) (by omega))
  · exact (hN d q1 q2).fr (hv 80 d (by omega) (by omega)) (fun m _ _ => hv m d (by omega) (by omega)) (fun m r _ _ _ => hv m _ (by omega) (by omega))
theorem foot65 {a : Int32} (h : bt (-500) 500 a) : bt (-60000) 60000 (65 * a) := abs_wk ((V.lit (a := 65) (z := 65) (by decide)).mul (V.of (M := 500) h (by decide) (by decide)) (by decide)) (by decide) (by decide)
theorem RS.up5 {w v w' v' : Wd} (h : RS w v) (hw : only 5 w w') (hv : only 5 v v') (k : R5 w' v') : RS w' v' :=
  ⟨h.1.fr (hw 1 (by decide) (by decide)) (hv 1 (by decide) (by decide)), h.2.1.fr (hw 2 (by decide) (by decide)) (hv 2 (by decide) (by decide)), h.2.2.1.fr (hw 3 (by decide) (by decide)) (hv 3 (by decide) (by decide)), h.2.2.2.1.fr (hw 4 (by decide) (by decide)) (hv 4 (by decide) (by decide)), k, h.2.2.2.2.2.fr (hw 6 (by decide) (by decide)) (hv 6 (by decide) (by decide))⟩
theorem c_stand {w v : Wd} (R : RS w v) (a b d e : Int32) : OK 5 RS (f_X11_stand w a b d e) (f_X12_stand v a b d e) w v := by
  have r5 := R.2.2.2.2.1
  unfold f_X11_stand f_X12_stand f_X12_isHeading
  rw [in_eq]
  rcases carAt_c r5 a with ⟨q1, q2⟩ | ⟨c, hc, hcn, rfl, q1, q2, A, S, P, Q⟩
  · rw [q1, q2]; exact OK.same R
  rw [q1, q2]
  simp only [bo_v, if_neg one0, if_neg (K5_ne (c := c))]
  rcases win_c b (-500) 500 with q | ⟨q, b1, b2⟩
  · rw [q]; exact OK.same R
  rw [q]
  rcases win_c d (-500) 500 with q | ⟨q, d1, d2⟩
  · rw [q]; exact OK.same R
  rw [q]
  rcases win_c e 0 35 with q | ⟨q, e1, e2⟩
  · rw [q]; exact OK.same R
  rw [q]
  have B1 : bt (-500) 500 b := bt_of b1 b2 (by decide) (by decide)
  have B2 : bt (-500) 500 d := bt_of d1 d2 (by decide) (by decide)
  have B3 : bt 0 35 e := bt_of e1 e2 (by decide) (by decide)
  simp only [if_neg one0, q_pt]
  have Rv : RS w (sI (sI (sI v 63 31 (65 * b)) 63 32 (65 * d)) 63 33 e) := R.fr0 only.refl (by (repeat' first | exact only.refl | exact Or.inl rfl | exact Or.inr rfl | exact Or.inl (hAr _) | exact Or.inl (Ar_7699 (by omega)) | exact fun _ => Or.inl (hAr _) | refine only.trans ?_ (only.sI ?_) | refine only.trans ?_ (only.sJ ?_) | refine only.trans ?_ (only.sN ?_) | refine only.trans ?_ only.sR | refine only.trans ?_ (only.sFr ?_)))
  obtain ⟨r, w1, k1, k2, k3, k4, k5, k6⟩ := c_firstMet Rv (c := c) (x := 65 * b) (y := 65 * d) (h := e) hc hcn (by (repeat first | rw [wS_sI, if_pos ⟨rfl, rfl⟩] | rw [wS_sI, if_neg (by omega)] | rw [wS_sN, if_neg (by omega)] | rw [wS_sR] | rw [wS_sN, if_pos rfl] | rw [wS_sFr, if_neg (by omega)] | rw [wS_sFr, if_pos (by omega)])) (by (repeat first | rw [wS_sI, if_pos ⟨rfl, rfl⟩] | rw [wS_sI, if_neg (by omega)] | rw [wS_sN, if_neg (by omega)] | rw [wS_sR] | rw [wS_sN, if_pos rfl] | rw [wS_sFr, if_neg (by omega)] | rw [wS_sFr, if_pos (by omega)])) (by (repeat first | rw [wS_sI, if_pos ⟨rfl, rfl⟩] | rw [wS_sI, if_neg (by omega)] | rw [wS_sN, if_neg (by omega)] | rw [wS_sR] | rw [wS_sN, if_pos rfl] | rw [wS_sFr, if_neg (by omega)] | rw [wS_sFr, if_pos (by omega)])) (foot65 B1) (foot65 B2) (bt_w B3 (by decide) (by decide))
  rw [k1, k2]
  simp only [bo_v, bi_v]
  by_cases hr : r = 0
  · rw [if_pos hr, if_pos hr]
    obtain ⟨g1, g2⟩ := k6 hr
    have n1 : vp_nar .boolean 1 = 1 := by decide
    unfold f_X1_standAt f_X12_settles
    simp only [q_gt, q_lt, q_jn, q_pt, q_bo, q_bi, sz_n hc (show 4 < 2 ^ 31 by decide), st_n hc (show 4 < 2 ^ 31 by decide), n1, wS_sI, if_false, if_true, false_and, and_false, true_and, and_true, and_self, reduceIte, Nat.reduceEqDiff, ne_eq, not_false_eq_true, not_true_eq_false]
    have hAr : ∀ j, Ar (K5 c) j = 5 := fun j => Ar_K0 hc
    have R' : RS w1 (sI (sI (sI v 63 31 (65 * b)) 63 32 (65 * d)) 63 33 e) := R.fr0 k3 (by (repeat' first | exact only.refl | exact Or.inl rfl | exact Or.inr rfl | exact Or.inl (hAr _) | exact Or.inl (Ar_7699 (by omega)) | exact fun _ => Or.inl (hAr _) | refine only.trans ?_ (only.sI ?_) | refine only.trans ?_ (only.sJ ?_) | refine only.trans ?_ (only.sN ?_) | refine only.trans ?_ only.sR | refine only.trans ?_ (only.sFr ?_)))
    have hcn1 : nI c < wS w1 3 2 := by rw [(k3 5 (by decide) (by decide) 3 2 rfl).1]; exact hcn
    refine ⟨_, _, _, rfl, rfl, R'.up5 (by (repeat' first | exact only.refl | exact Or.inl rfl | exact Or.inr rfl | exact Or.inl (hAr _) | exact Or.inl (Ar_7699 (by omega)) | exact fun _ => Or.inl (hAr _) | refine only.trans ?_ (only.sI ?_) | refine only.trans ?_ (only.sJ ?_) | refine only.trans ?_ (only.sN ?_) | refine only.trans ?_ only.sR | refine only.trans ?_ (only.sFr ?_))) (by (repeat' first | exact only.refl | exact Or.inl rfl | exact Or.inr rfl | exact Or.inl (hAr _) | exact Or.inl (Ar_7699 (by omega)) | exact fun _ => Or.inl (hAr _) | refine only.trans ?_ (only.sI ?_) | refine only.trans ?_ (only.sJ ?_) | refine only.trans ?_ (only.sN ?_) | refine only.trans ?_ only.sR | refine only.trans ?_ (only.sFr ?_))) (R'.2.2.2.2.1.place hcn1 hc (fun p j hp _ => ?_) (fun m i h1 h2 => ?_) ?_ ⟨⟨?_, ?_⟩, ⟨?_, ?_⟩, ⟨?_, ?_⟩, ⟨?_, ?_⟩, ?_⟩), only.trans k3.of0 (by (repeat' first | exact only.refl | exact Or.inl rfl | exact Or.inr rfl | exact Or.inl (hAr _) | exact Or.inl (Ar_7699 (by omega)) | exact fun _ => Or.inl (hAr _) | refine only.trans ?_ (only.sI ?_) | refine only.trans ?_ (only.sJ ?_) | refine only.trans ?_ (only.sN ?_) | refine only.trans ?_ only.sR | refine only.trans ?_ (only.sFr ?_))), by (repeat' first | exact only.refl | exact Or.inl rfl | exact Or.inr rfl | exact Or.inl (hAr _) | exact Or.inl (Ar_7699 (by omega)) | exact fun _ => Or.inl (hAr _) | refine only.trans ?_ (only.sI ?_) | refine only.trans ?_ (only.sJ ?_) | refine only.trans ?_ (only.sN ?_) | refine only.trans ?_ only.sR | refine only.trans ?_ (only.sFr ?_)), cm.trans k4 ((((cm.sI (by unfold K5; omega)).trans (cm.sI (by unfold K5; omega))).trans (cm.sI (by unfold K5; omega))).trans (cm.sI (by unfold K5; omega))), by (repeat' first | exact mm.refl | decide | refine mm.trans ?_ (mm.sI ?_ ?_)), fun k => k5 k, fun _ => rfl⟩
    · (repeat first | rw [wS_sI, if_pos ⟨rfl, rfl⟩] | rw [wS_sI, if_neg (by omega)] | rw [wS_sN, if_neg (by omega)] | rw [wS_sR] | rw [wS_sN, if_pos rfl] | rw [wS_sFr, if_neg (by omega)] | rw [wS_sFr, if_pos (by omega)])
    · (repeat first | rw [wS_sI, if_pos ⟨rfl, rfl⟩] | rw [wS_sI, if_neg (by omega)] | rw [wS_sN, if_neg (by omega)] | rw [wS_sR] | rw [wS_sN, if_pos rfl] | rw [wS_sFr, if_neg (by omega)] | rw [wS_sFr, if_pos (by omega)])
    · (repeat first | rw [wS_sI, if_pos ⟨rfl, rfl⟩] | rw [wS_sI, if_neg (by omega)] | rw [wS_sN, if_neg (by omega)] | rw [wS_sR] | rw [wS_sN, if_pos rfl] | rw [wS_sFr, if_neg (by omega)] | rw [wS_sFr, if_pos (by omega)])
    · (repeat first | rw [wS_sI, if_pos ⟨rfl, rfl⟩] | rw [wS_sI, if_neg (by omega)] | rw [wS_sN, if_neg (by omega)] | rw [wS_sR] | rw [wS_sN, if_pos rfl] | rw [wS_sFr, if_neg (by omega)] | rw [wS_sFr, if_pos (by omega)])
    · (repeat first | rw [wS_sI, if_pos ⟨rfl, rfl⟩] | rw [wS_sI, if_neg (by omega)] | rw [wS_sN, if_neg (by omega)] | rw [wS_sR] | rw [wS_sN, if_pos rfl] | rw [wS_sFr, if_neg (by omega)] | rw [wS_sFr, if_pos (by omega)]); exact g1
    · (repeat first | rw [wS_sI, if_pos ⟨rfl, rfl⟩] | rw [wS_sI, if_neg (by omega)] | rw [wS_sN, if_neg (by omega)] | rw [wS_sR] | rw [wS_sN, if_pos rfl] | rw [wS_sFr, if_neg (by omega)] | rw [wS_sFr, if_pos (by omega)])
    · (repeat first | rw [wS_sI, if_pos ⟨rfl, rfl⟩] | rw [wS_sI, if_neg (by omega)] | rw [wS_sN, if_neg (by omega)] | rw [wS_sR] | rw [wS_sN, if_pos rfl] | rw [wS_sFr, if_neg (by omega)] | rw [wS_sFr, if_pos (by omega)]); exact g2
    · (repeat first | rw [wS_sI, if_pos ⟨rfl, rfl⟩] | rw [wS_sI, if_neg (by omega)] | rw [wS_sN, if_neg (by omega)] | rw [wS_sR] | rw [wS_sN, if_pos rfl] | rw [wS_sFr, if_neg (by omega)] | rw [wS_sFr, if_pos (by omega)])
    · (repeat first | rw [wS_sI, if_pos ⟨rfl, rfl⟩] | rw [wS_sI, if_neg (by omega)] | rw [wS_sN, if_neg (by omega)] | rw [wS_sR] | rw [wS_sN, if_pos rfl] | rw [wS_sFr, if_neg (by omega)] | rw [wS_sFr, if_pos (by omega)]); exact B3
    · (repeat first | rw [wS_sI, if_pos ⟨rfl, rfl⟩] | rw [wS_sI, if_neg (by omega)] | rw [wS_sN, if_neg (by omega)] | rw [wS_sR] | rw [wS_sN, if_pos rfl] | rw [wS_sFr, if_neg (by omega)] | rw [wS_sFr, if_pos (by omega)])
    · (repeat first | rw [wS_sI, if_pos ⟨rfl, rfl⟩] | rw [wS_sI, if_neg (by omega)] | rw [wS_sN, if_neg (by omega)] | rw [wS_sR] | rw [wS_sN, if_pos rfl] | rw [wS_sFr, if_neg (by omega)] | rw [wS_sFr, if_pos (by omega)]); exact Or.inr rfl
    · (repeat first | rw [wS_sI, if_pos ⟨rfl, rfl⟩] | rw [wS_sI, if_neg (by omega)] | rw [wS_sN, if_neg (by omega)] | rw [wS_sR] | rw [wS_sN, if_pos rfl] | rw [wS_sFr, if_neg (by omega)] | rw [wS_sFr, if_pos (by omega)])
      have h13 : wS w1 (K5 c) 13 = wS w (K5 c) 13 := (k3 5 (by decide) (by decide) (K5 c) 13 (hAr 13)).1
      rw [h13]; exact P.2.2.2.2
  · rw [if_neg hr, if_neg hr]
    exact ⟨_, _, _, rfl, rfl, R.fr0 k3 (by (repeat' first | exact only.refl | exact Or.inl rfl | exact Or.inr rfl | exact Or.inl (hAr _) | exact Or.inl (Ar_7699 (by omega)) | exact fun _ => Or.inl (hAr _) | refine only.trans ?_ (only.sI ?_) | refine only.trans ?_ (only.sJ ?_) | refine only.trans ?_ (only.sN ?_) | refine only.trans ?_ only.sR | refine only.trans ?_ (only.sFr ?_))), k3.of0, only.of0 (by (repeat' first | exact only.refl | exact Or.inl rfl | exact Or.inr rfl | exact Or.inl (hAr _) | exact Or.inl (Ar_7699 (by omega)) | exact fun _ => Or.inl (hAr _) | refine only.trans ?_ (only.sI ?_) | refine only.trans ?_ (only.sJ ?_) | refine only.trans ?_ (only.sN ?_) | refine only.trans ?_ only.sR | refine only.trans ?_ (only.sFr ?_))), k4, by (repeat' first | exact mm.refl | decide | refine mm.trans ?_ (mm.sI ?_ ?_)), k5, fun _ => rfl⟩
