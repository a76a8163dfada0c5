/-! ===== meets and move ===== -/
theorem goes10 {v : Wd} {c x y h : Int32} : ∃ v1, f_X12_goes v c x y h 10 = some v1 ∧ wS v1 63 31 = x ∧ wS v1 63 32 = y ∧ wS v1 63 33 = h ∧ FrB v v1 := by
  unfold f_X12_goes
  simp only [q_pt, if_pos (show (2 : Int32) ≤ 10 by decide), if_pos (show (10 : Int32) ≤ 10 by decide)]
  refine ⟨_, rfl, ?_, ?_, ?_, ⟨fun p j hp => ⟨?_, rfl⟩, fun _ => rfl⟩⟩
  all_goals (repeat first | rw [wS_sI, if_pos ⟨rfl, rfl⟩] | rw [wS_sI, if_neg (by omega)] | rw [wS_sN, if_neg (by omega)] | rw [wS_sR] | rw [wS_sN, if_pos rfl] | rw [wS_sFr, if_neg (by omega)] | rw [wS_sFr, if_pos (by omega)])
theorem c_meets {w v : Wd} (R : RS w v) (a m : Int32) : OK 0 RS (f_X11_meets w a m) (f_X12_meets v a m) w v := by
  have r5 := R.2.2.2.2.1
  have r6 := R.2.2.2.2.2
  unfold f_X11_meets f_X12_meets
  rw [in_eq]
  rcases carAt_c r5 a with ⟨q1, q2⟩ | ⟨c, hc, hcn, rfl, q1, q2, A, S, P, Q⟩
  · rw [q1, q2]; exact OK.same R
  rw [q1, q2]
  simp only [bo_v, if_neg one0, if_neg (K5_ne (c := c))]
  rcases win_c m 0 10 with q | ⟨q, m1, m2⟩
  · rw [q]; exact OK.same R
  rw [q]
  simp only [if_neg one0, q_gt, ld_n hc (show 4 < 2 ^ 31 by decide), ← P.1.1, ← P.2.1.1, ← P.2.2.1.1, ← P.2.2.2.1.1]
  by_cases hz : wS w (K5 c) 12 = 0
  · rw [if_pos hz, if_pos hz]; exact OK.same R
  rw [if_neg hz, if_neg hz]
  by_cases h10 : m = 10
  · rw [if_pos h10, h10]
    obtain ⟨v1, g1, g2, g3, g4, g5⟩ := goes10 (v := v) (c := nI c) (x := wS w (K5 c) 9) (y := wS w (K5 c) 10) (h := wS w (K5 c) 11)
    obtain ⟨r, w1, k1, k2, k3, k4, k5, k6⟩ := c_firstMet (R.fr0 only.refl g5.only) hc hcn g2 g3 g4 (bt_w P.1.2 (by decide) (by decide)) (bt_w P.2.1.2 (by decide) (by decide)) (bt_w P.2.2.1.2 (by decide) (by decide))
    rw [k1, g1]
    simp only [bo_v, bi_v]
    rw [k2]
    exact ⟨r, w1, v1, rfl, rfl, R.fr0 k3 g5.only, k3, g5.only, k4, g5.mm, k5, g5.2⟩
  · rw [if_neg h10]
    have hm10 : ¬ (10 : Int32) ≤ m := fun z => h10 (Int32.le_antisymm m2 z)
    obtain ⟨w0, v1, g1, g2, g3, g4, g5, g6, g7, g8, g9, g10⟩ := c_aim hc A r6.1 P.1.2 P.2.1.2 P.2.2.1.2 hm10
    have hcn0 : nI c < wS w0 3 2 := by rw [(g9.1 3 2 (by omega)).1]; exact hcn
    obtain ⟨r, w1, k1, k2, k3, k4, k5, k6⟩ := c_firstMet (R.fr0 g9.only g10.only) hc hcn0 g3.symm g4.symm g5.symm g6 g7 (bt_w g8 (by decide) (by decide))
    rw [g1, g2]
    simp only [bo_v]
    rw [k1, k2]
    exact ⟨r, w1, v1, rfl, rfl, R.fr0 (g9.only.trans k3) g10.only, g9.only.trans k3, g10.only, g9.cm.trans k4, g10.mm, g9.2.trans k5, g10.2⟩
/-- one move that is done, or not: class's drive, reference's does -/
theorem c_drive {w v : Wd} (R : RS w v) {c : Nat} (hc : c < 4) (hcn : nI c < wS w 3 2) (hst : ¬ wS w (K5 c) 12 = 0) {m : Int32} (hm : ¬ (10 : Int32) ≤ m) :
    ∃ r w1 v1, f_X3_drive w (K5 c) m = some (r, w1) ∧ f_X12_does v (nI c) m = some (r, v1) ∧ (r = 0 ∨ r = 1) ∧ RS w1 v1 ∧ only 5 w w1 ∧ only 5 v v1 ∧ cm w w1 ∧ mm v v1 ∧ am w w1 ∧ am v v1 ∧ ¬ wS w1 (K5 c) 12 = 0 ∧ wS w1 3 2 = wS w 3 2 ∧ ∀ j, 70 ≤ j → wS v1 63 j = wS v 63 j := by
  have r5 := R.2.2.2.2.1
  have r6 := R.2.2.2.2.2
  obtain ⟨n, hn, f1, f2, hh, hN⟩ := id r5
  have hcn' : c < n := by
    rw [f1] at hcn
    exact (nI_ltI (by omega) (by omega)).mp hcn
  obtain ⟨A, S, P, Q⟩ := hh c hcn'
  obtain ⟨w0, v0, g1, g2, g3, g4, g5, g6, g7, g8, g9, g10⟩ := c_aim hc A r6.1 P.1.2 P.2.1.2 P.2.2.1.2 hm
  have hcn0 : nI c < wS w0 3 2 := by rw [(g9.1 3 2 (by omega)).1]; exact hcn
  obtain ⟨r, w1, k1, k2, k3, k4, k5, kX, k6⟩ := c_firstMetX (R.fr0 g9.only g10.only) hc hcn0 g3.symm g4.symm g5.symm g6 g7 (bt_w g8 (by decide) (by decide))
  have R' : RS w1 v0 := R.fr0 (g9.only.trans k3) g10.only
  have O5 : only 5 w w1 := (g9.only.trans k3).of0
  have hAr : ∀ j, Ar (K5 c) j = 5 := fun j => Ar_K0 hc
  have K : ∀ j, wS w1 (K5 c) j = wS w (K5 c) j := fun j => ((g9.only.trans k3) 5 (by decide) (by decide) (K5 c) j (hAr j)).1
  unfold f_X3_drive f_X12_does
  simp only [q_gt, if_neg hst, ld_n hc (show 4 < 2 ^ 31 by decide), ← P.1.1, ← P.2.1.1, ← P.2.2.1.1]
  rw [g1, g2]
  simp only [bo_v]
  rw [k1, k2]
  simp only [bo_v, bi_v]
  by_cases hr : r = 0
  · rw [if_pos hr, if_pos hr]
    obtain ⟨u1, u2⟩ := k6 hr
    have a8 : ∀ j, wS w1 3 j = wS w0 3 j := fun j => (kX 3 j (fun o _ => by unfold K5; omega)).1
    have hcn1 : nI c < wS w1 3 2 := by rw [a8]; exact hcn0
    unfold f_X1_standAt f_X12_settles
    simp only [q_gt, q_lt, q_jn, q_pt, q_bo, q_bi, st_n hc (show 4 < 2 ^ 31 by decide), ld_n hc (show 4 < 2 ^ 31 by decide), a8, wS_sI, if_false, if_true, false_and, and_false, true_and, and_true, and_self, reduceIte, Nat.reduceEqDiff, ne_eq, not_false_eq_true, not_true_eq_false]
    have st84 : wS v0 84 c = wS v 84 c := (g10.1 84 c (by omega)).1
    have st88 : wS v0 88 c = wS v 88 c := (g10.1 88 c (by omega)).1
    refine ⟨1, _, _, rfl, rfl, Or.inr rfl, R'.up5 (by (repeat' first | exact only.refl | exact Or.inl rfl | exact Or.inr rfl | exact Or.inl (hAr _) | exact Or.inl (Ar_7699 (by omega)) | exact fun _ => Or.inl (hAr _) | refine only.trans ?_ (only.sI ?_) | refine only.trans ?_ (only.sJ ?_) | refine only.trans ?_ (only.sN ?_) | refine only.trans ?_ only.sR | refine only.trans ?_ (only.sFr ?_))) (by (repeat' first | exact only.refl | exact Or.inl rfl | exact Or.inr rfl | exact Or.inl (hAr _) | exact Or.inl (Ar_7699 (by omega)) | exact fun _ => Or.inl (hAr _) | refine only.trans ?_ (only.sI ?_) | refine only.trans ?_ (only.sJ ?_) | refine only.trans ?_ (only.sN ?_) | refine only.trans ?_ only.sR | refine only.trans ?_ (only.sFr ?_))) (R'.2.2.2.2.1.place hcn1 hc (fun p j hp _ => ?_) (fun m i h1 h2 => ?_) ?_ ⟨⟨?_, ?_⟩, ⟨?_, ?_⟩, ⟨?_, ?_⟩, ⟨?_, ?_⟩, ?_⟩), only.trans O5 (by (repeat' first | exact only.refl | exact Or.inl rfl | exact Or.inr rfl | exact Or.inl (hAr _) | exact Or.inl (Ar_7699 (by omega)) | exact fun _ => Or.inl (hAr _) | refine only.trans ?_ (only.sI ?_) | refine only.trans ?_ (only.sJ ?_) | refine only.trans ?_ (only.sN ?_) | refine only.trans ?_ only.sR | refine only.trans ?_ (only.sFr ?_))), only.trans g10.only.of0 (by (repeat' first | exact only.refl | exact Or.inl rfl | exact Or.inr rfl | exact Or.inl (hAr _) | exact Or.inl (Ar_7699 (by omega)) | exact fun _ => Or.inl (hAr _) | refine only.trans ?_ (only.sI ?_) | refine only.trans ?_ (only.sJ ?_) | refine only.trans ?_ (only.sN ?_) | refine only.trans ?_ only.sR | refine only.trans ?_ (only.sFr ?_))), cm.trans (g9.cm.trans k4) (((((cm.sI (by unfold K5; omega)).trans (cm.sI (by unfold K5; omega))).trans (cm.sI (by unfold K5; omega))).trans (cm.sI (by unfold K5; omega))).trans (cm.sI (by unfold K5; omega))), mm.trans g10.mm (by (repeat' first | exact mm.refl | decide | refine mm.trans ?_ (mm.sI ?_ ?_))), fun k => (g9.2.trans k5) k, fun k => g10.2 k, ?_, ?_, fun j hj => ?_⟩
    · (repeat first | rw [wS_sI, if_pos ⟨rfl, rfl⟩] | rw [wS_sI, if_neg (by omega)] | rw [wS_sN, if_neg (by omega)] | rw [wS_sR] | rw [wS_sN, if_pos rfl] | rw [wS_sFr, if_neg (by omega)] | rw [wS_sFr, if_pos (by omega)])
    · (repeat first | rw [wS_sI, if_pos ⟨rfl, rfl⟩] | rw [wS_sI, if_neg (by omega)] | rw [wS_sN, if_neg (by omega)] | rw [wS_sR] | rw [wS_sN, if_pos rfl] | rw [wS_sFr, if_neg (by omega)] | rw [wS_sFr, if_pos (by omega)])
    · (repeat first | rw [wS_sI, if_pos ⟨rfl, rfl⟩] | rw [wS_sI, if_neg (by omega)] | rw [wS_sN, if_neg (by omega)] | rw [wS_sR] | rw [wS_sN, if_pos rfl] | rw [wS_sFr, if_neg (by omega)] | rw [wS_sFr, if_pos (by omega)])
    · (repeat first | rw [wS_sI, if_pos ⟨rfl, rfl⟩] | rw [wS_sI, if_neg (by omega)] | rw [wS_sN, if_neg (by omega)] | rw [wS_sR] | rw [wS_sN, if_pos rfl] | rw [wS_sFr, if_neg (by omega)] | rw [wS_sFr, if_pos (by omega)]); exact g3
    · (repeat first | rw [wS_sI, if_pos ⟨rfl, rfl⟩] | rw [wS_sI, if_neg (by omega)] | rw [wS_sN, if_neg (by omega)] | rw [wS_sR] | rw [wS_sN, if_pos rfl] | rw [wS_sFr, if_neg (by omega)] | rw [wS_sFr, if_pos (by omega)]); exact u1
    · (repeat first | rw [wS_sI, if_pos ⟨rfl, rfl⟩] | rw [wS_sI, if_neg (by omega)] | rw [wS_sN, if_neg (by omega)] | rw [wS_sR] | rw [wS_sN, if_pos rfl] | rw [wS_sFr, if_neg (by omega)] | rw [wS_sFr, if_pos (by omega)]); exact g4
    · (repeat first | rw [wS_sI, if_pos ⟨rfl, rfl⟩] | rw [wS_sI, if_neg (by omega)] | rw [wS_sN, if_neg (by omega)] | rw [wS_sR] | rw [wS_sN, if_pos rfl] | rw [wS_sFr, if_neg (by omega)] | rw [wS_sFr, if_pos (by omega)]); exact u2
    · (repeat first | rw [wS_sI, if_pos ⟨rfl, rfl⟩] | rw [wS_sI, if_neg (by omega)] | rw [wS_sN, if_neg (by omega)] | rw [wS_sR] | rw [wS_sN, if_pos rfl] | rw [wS_sFr, if_neg (by omega)] | rw [wS_sFr, if_pos (by omega)]); exact g5
    · (repeat first | rw [wS_sI, if_pos ⟨rfl, rfl⟩] | rw [wS_sI, if_neg (by omega)] | rw [wS_sN, if_neg (by omega)] | rw [wS_sR] | rw [wS_sN, if_pos rfl] | rw [wS_sFr, if_neg (by omega)] | rw [wS_sFr, if_pos (by omega)]); exact g8
    · (repeat first | rw [wS_sI, if_pos ⟨rfl, rfl⟩] | rw [wS_sI, if_neg (by omega)] | rw [wS_sN, if_neg (by omega)] | rw [wS_sR] | rw [wS_sN, if_pos rfl] | rw [wS_sFr, if_neg (by omega)] | rw [wS_sFr, if_pos (by omega)])
      rw [st84, ← P.2.2.2.1.1]
      rcases P.2.2.2.1.2 with z | z
      · exact absurd z hst
      · exact z.symm
    · (repeat first | rw [wS_sI, if_pos ⟨rfl, rfl⟩] | rw [wS_sI, if_neg (by omega)] | rw [wS_sN, if_neg (by omega)] | rw [wS_sR] | rw [wS_sN, if_pos rfl] | rw [wS_sFr, if_neg (by omega)] | rw [wS_sFr, if_pos (by omega)]); exact Or.inr rfl
    · (repeat first | rw [wS_sI, if_pos ⟨rfl, rfl⟩] | rw [wS_sI, if_neg (by omega)] | rw [wS_sN, if_neg (by omega)] | rw [wS_sR] | rw [wS_sN, if_pos rfl] | rw [wS_sFr, if_neg (by omega)] | rw [wS_sFr, if_pos (by omega)])
      rw [K, st88, P.2.2.2.2]
    · (repeat first | rw [wS_sI, if_pos ⟨rfl, rfl⟩] | rw [wS_sI, if_neg (by omega)] | rw [wS_sN, if_neg (by omega)] | rw [wS_sR] | rw [wS_sN, if_pos rfl] | rw [wS_sFr, if_neg (by omega)] | rw [wS_sFr, if_pos (by omega)]); exact one0
    · (repeat first | rw [wS_sI, if_pos ⟨rfl, rfl⟩] | rw [wS_sI, if_neg (by omega)] | rw [wS_sN, if_neg (by omega)] | rw [wS_sR] | rw [wS_sN, if_pos rfl] | rw [wS_sFr, if_neg (by omega)] | rw [wS_sFr, if_pos (by omega)]); exact (a8 2).trans (g9.1 3 2 (by omega)).1
    · (repeat first | rw [wS_sI, if_pos ⟨rfl, rfl⟩] | rw [wS_sI, if_neg (by omega)] | rw [wS_sN, if_neg (by omega)] | rw [wS_sR] | rw [wS_sN, if_pos rfl] | rw [wS_sFr, if_neg (by omega)] | rw [wS_sFr, if_pos (by omega)]); exact (g10.1 63 j (by omega)).1
  · rw [if_neg hr, if_neg hr]
    exact ⟨0, w1, v0, rfl, rfl, Or.inl rfl, R', O5, g10.only.of0, g9.cm.trans k4, g10.mm, g9.2.trans k5, g10.2, by rw [K]; exact hst, (((kX 3 2 (fun o _ => by unfold K5; omega)).1).trans (g9.1 3 2 (by omega)).1), fun j hj => (g10.1 63 j (by omega)).1⟩
theorem c_move {w v : Wd} (R : RS w v) (a m : Int32) : OK 5 RS (f_X11_move w a m) (f_X12_move v a m) w v := by
  have r5 := R.2.2.2.2.1
  unfold f_X11_move f_X12_move
  rw [in_eq]
  rcases carAt_c r5 a with ⟨q1, q2⟩ | ⟨c, hc, hcn, rfl, q1, q2, A, S, P, Q⟩
  · rw [q1, q2]; exact OK.same R
  rw [q1, q2]
  simp only [bo_v, if_neg one0, if_neg (K5_ne (c := c))]
  rcases win_n m (n := 10) (by decide) with q | ⟨q, i, hi, rfl⟩
  · have q' : f_X11_within m 0 9 = 0 := q
    rw [q']; exact OK.same R
  have q' : f_X11_within (nI i) 0 9 = 1 := q
  rw [q']
  have hm : ¬ (10 : Int32) ≤ nI i := nI_ge (b := 10) hi (by decide)
  simp only [if_neg one0, ld_n hc (show 4 < 2 ^ 31 by decide), ← P.2.2.2.1.1]
  by_cases hz : wS w (K5 c) 12 = 0
  · unfold f_X3_drive
    simp only [q_gt, if_pos hz, bi_v, if_true]
    exact OK.same R
  · rw [if_neg hz]
    obtain ⟨r, w1, v1, k1, k2, k3, k4, k5, k6, k7, k8, k9, k10, -⟩ := c_drive R hc hcn hz hm
    rw [k1, k2]
    simp only [bi_v]
    rcases k3 with rfl | rfl
    · exact ⟨_, _, _, rfl, rfl, k4, k5, k6, k7, k8, k9, k10⟩
    · exact ⟨_, _, _, rfl, rfl, k4, k5, k6, k7, k8, k9, k10⟩
