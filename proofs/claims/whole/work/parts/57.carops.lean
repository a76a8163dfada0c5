theorem wheelX_eq {w v : Wd} {c : Nat} (hc : c < 4) (A : A5 w v c) (a x : Int32) {h : Int32} (hh : bt (-100) 100 h) : f_X12_wheelX v (nI c) a x h = some (x + f_X1_wheelX w (K5 c) a h) := by
  have e1 := cos_eq (a := h) ⟨by have := hh.1; omega, by have := hh.2; omega⟩
  have e2 := sin_eq (a := h) ⟨by have := hh.1; omega, by have := hh.2; omega⟩
  unfold f_X12_wheelX f_X1_wheelX f_X1_alongOf f_X1_acrossOf f_X12_signLong f_X12_signBroad
  simp only [ld_n hc (show 4 < 2 ^ 31 by decide), ← A.2.1.1, ← A.2.2.1.1, e1, e2]
  generalize wS w (K5 c) 0 = p
  generalize wS w (K5 c) 1 = q
  generalize f_X12_along h = s
  generalize f_X12_across h = t
  congr 1
  by_cases h1 : (2 : Int32) ≤ a
  · rw [if_pos h1, if_pos h1]
    by_cases h2 : a - a / 2 * 2 = 0
    · rw [if_pos h2, if_pos h2]; grind
    · rw [if_neg h2, if_neg h2]; grind
  · rw [if_neg h1, if_neg h1]
    by_cases h2 : a - a / 2 * 2 = 0
    · rw [if_pos h2, if_pos h2]; grind
    · rw [if_neg h2, if_neg h2]; grind
theorem wheelY_eq {w v : Wd} {c : Nat} (hc : c < 4) (A : A5 w v c) (a x : Int32) {h : Int32} (hh : bt (-100) 100 h) : f_X12_wheelY v (nI c) a x h = some (x + f_X1_wheelY w (K5 c) a h) := by
  have e1 := cos_eq (a := h) ⟨by have := hh.1; omega, by have := hh.2; omega⟩
  have e2 := sin_eq (a := h) ⟨by have := hh.1; omega, by have := hh.2; omega⟩
  unfold f_X12_wheelY f_X1_wheelY f_X1_alongOf f_X1_acrossOf f_X12_signLong f_X12_signBroad
  simp only [ld_n hc (show 4 < 2 ^ 31 by decide), ← A.2.1.1, ← A.2.2.1.1, e1, e2]
  generalize wS w (K5 c) 0 = p
  generalize wS w (K5 c) 1 = q
  generalize f_X12_along h = s
  generalize f_X12_across h = t
  congr 1
  by_cases h1 : (2 : Int32) ≤ a
  · rw [if_pos h1, if_pos h1]
    by_cases h2 : a - a / 2 * 2 = 0
    · rw [if_pos h2, if_pos h2]; grind
    · rw [if_neg h2, if_neg h2]; grind
  · rw [if_neg h1, if_neg h1]
    by_cases h2 : a - a / 2 * 2 = 0
    · rw [if_pos h2, if_pos h2]; grind
    · rw [if_neg h2, if_neg h2]; grind
theorem bt_w {a b c d : Int} {x : Int32} (h : bt a b x) (h1 : c ≤ a) (h2 : b ≤ d) : bt c d x := ⟨by have := h.1; omega, by have := h.2; omega⟩
theorem c_wheel {w v : Wd} (h : R5 w v) (a b d : Int32) : ∃ r, f_X11_wheel w a b d = some r ∧ f_X12_wheel v a b d = some r := by
  unfold f_X11_wheel f_X12_wheel
  rw [in_eq]
  rcases carAt_c h a with ⟨q1, q2⟩ | ⟨c, hc, -, rfl, q1, q2, A, -, P, -⟩
  · rw [q1, q2]; exact ⟨_, rfl, rfl⟩
  rw [q1, q2]
  have hh := bt_w P.2.2.1.2 (show (-100 : Int) ≤ 0 by decide) (show (35 : Int) ≤ 100 by decide)
  simp only [q_gt, q_lt, q_jn, q_pt, q_bo, q_bi, if_neg one0, if_neg (K5_ne (c := c)), ld_n hc (show 4 < 2 ^ 31 by decide), ← P.2.2.2.1.1, ← P.1.1, ← P.2.1.1, ← P.2.2.1.1]
  by_cases hz : wS w (K5 c) 12 = 0
  · simp only [if_pos hz]
    rcases win_c b 0 3 with q | ⟨q, -, -⟩
    · rw [q]; exact ⟨_, rfl, rfl⟩
    rcases win_c d 0 1 with p | ⟨p, -, -⟩
    · rw [p, q]; exact ⟨_, rfl, rfl⟩
    rw [p, q]; exact ⟨_, rfl, rfl⟩
  · simp only [if_neg hz]
    rcases win_c b 0 3 with q | ⟨q, -, -⟩
    · rw [q]; exact ⟨_, rfl, rfl⟩
    rw [q]
    rcases win_c d 0 1 with p | ⟨p, -, -⟩
    · rw [p]; exact ⟨_, rfl, rfl⟩
    rw [p]
    simp only [if_neg one0]
    by_cases hd : d = 0
    · rw [if_pos hd, if_pos hd, wheelX_eq hc A b _ hh]; exact ⟨_, rfl, rfl⟩
    · rw [if_neg hd, if_neg hd, wheelY_eq hc A b _ hh]; exact ⟨_, rfl, rfl⟩
theorem c_rope {w v : Wd} (h : R5 w v) (a b d e f : Int32) : OK 5 R5 (f_X11_rope w a b d e f) (f_X12_rope v a b d e f) w v := by
  unfold f_X11_rope f_X12_rope
  rw [in_eq]
  rcases carAt_c h a with ⟨q1, q2⟩ | ⟨c, hc, hcn, rfl, q1, q2, A, S, P, Q⟩
  · rw [q1, q2]; exact OK.same h
  rw [q1, q2]
  simp only [q_gt, q_lt, q_jn, q_pt, q_bo, q_bi, if_neg one0, if_neg (K5_ne (c := c))]
  rcases win_n b (n := 4) (by decide) with q | ⟨q, r, hr, rfl⟩
  · have q' : f_X11_within b 0 3 = 0 := q
    rw [q']; exact OK.same h
  have q' : f_X11_within (nI r) 0 3 = 1 := q
  rw [q']
  rcases win_c d 0 300 with q | ⟨q, d1, d2⟩
  · rw [q]; exact OK.same h
  rw [q]
  rcases win_c e 1 60 with q | ⟨q, e1, e2⟩
  · rw [q]; exact OK.same h
  rw [q]
  rcases win_c f (-9) 9 with q | ⟨q, f1, f2⟩
  · rw [q]; exact OK.same h
  rw [q]
  have B1 : bt 0 300 d := bt_of d1 d2 (by decide) (by decide)
  have B2 : bt 1 60 e := bt_of e1 e2 (by decide) (by decide)
  have B3 : bt (-9) 9 f := bt_of f1 f2 (by decide) (by decide)
  have ei : nI (4 * c) + nI r = nI (4 * c + r) := nI_add _ _
  simp only [if_neg one0, st_n hr (show 4 < 2 ^ 31 by decide), nI_mul4, ei, st_n (show 4 * c + r < 16 by omega) (show 16 < 2 ^ 31 by decide)]
  have hAr : ∀ j, Ar (K5 c + 10) j = 5 := fun j => Ar_K hc (by omega)
  have hAr1 : ∀ j, Ar (K5 c + 11) j = 5 := fun j => Ar_K hc (by omega)
  have hAr2 : ∀ j, Ar (K5 c + 12) j = 5 := fun j => Ar_K hc (by omega)
  refine ⟨_, _, _, rfl, rfl, ?_, ((only.sI (Or.inl (hAr _))).trans (only.sI (Or.inl (hAr1 _)))).trans (only.sI (Or.inl (hAr2 _))), by (repeat' first | exact only.refl | exact Or.inl rfl | exact Or.inr rfl | exact Or.inl (hAr _) | exact Or.inl (Ar_7699 (by omega)) | exact fun _ => Or.inl (hAr _) | refine only.trans ?_ (only.sI ?_) | refine only.trans ?_ (only.sJ ?_) | refine only.trans ?_ (only.sN ?_) | refine only.trans ?_ only.sR | refine only.trans ?_ (only.sFr ?_)), ((cm.sI (by unfold K5; omega)).trans (cm.sI (by unfold K5; omega))).trans (cm.sI (by unfold K5; omega)), by (repeat' first | exact mm.refl | decide | refine mm.trans ?_ (mm.sI ?_ ?_)), fun _ => rfl, fun _ => rfl⟩
  refine h.one hcn hc ?_ ?_ (fun i => ?_) (fun p j _ _ _ => ?_) (fun m i _ _ _ => ?_) (fun m d i _ _ _ _ _ => ?_) (fun m d i _ _ _ _ _ => ?_) ⟨?_, ?_, ?_, ?_⟩
  · unfold K5; (repeat first | rw [wS_sI, if_pos ⟨rfl, rfl⟩] | rw [wS_sI, if_neg (by omega)] | rw [wS_sN, if_neg (by omega)] | rw [wS_sR] | rw [wS_sN, if_pos rfl] | rw [wS_sFr, if_neg (by omega)] | rw [wS_sFr, if_pos (by omega)])
  · (repeat first | rw [wS_sI, if_pos ⟨rfl, rfl⟩] | rw [wS_sI, if_neg (by omega)] | rw [wS_sN, if_neg (by omega)] | rw [wS_sR] | rw [wS_sN, if_pos rfl] | rw [wS_sFr, if_neg (by omega)] | rw [wS_sFr, if_pos (by omega)])
  · unfold K5; (repeat first | rw [wS_sI, if_pos ⟨rfl, rfl⟩] | rw [wS_sI, if_neg (by omega)] | rw [wS_sN, if_neg (by omega)] | rw [wS_sR] | rw [wS_sN, if_pos rfl] | rw [wS_sFr, if_neg (by omega)] | rw [wS_sFr, if_pos (by omega)])
  · unfold K5 at *; (repeat first | rw [wS_sI, if_pos ⟨rfl, rfl⟩] | rw [wS_sI, if_neg (by omega)] | rw [wS_sN, if_neg (by omega)] | rw [wS_sR] | rw [wS_sN, if_pos rfl] | rw [wS_sFr, if_neg (by omega)] | rw [wS_sFr, if_pos (by omega)])
  · (repeat first | rw [wS_sI, if_pos ⟨rfl, rfl⟩] | rw [wS_sI, if_neg (by omega)] | rw [wS_sN, if_neg (by omega)] | rw [wS_sR] | rw [wS_sN, if_pos rfl] | rw [wS_sFr, if_neg (by omega)] | rw [wS_sFr, if_pos (by omega)])
  · (repeat first | rw [wS_sI, if_pos ⟨rfl, rfl⟩] | rw [wS_sI, if_neg (by omega)] | rw [wS_sN, if_neg (by omega)] | rw [wS_sR] | rw [wS_sN, if_pos rfl] | rw [wS_sFr, if_neg (by omega)] | rw [wS_sFr, if_pos (by omega)])
  · (repeat first | rw [wS_sI, if_pos ⟨rfl, rfl⟩] | rw [wS_sI, if_neg (by omega)] | rw [wS_sN, if_neg (by omega)] | rw [wS_sR] | rw [wS_sN, if_pos rfl] | rw [wS_sFr, if_neg (by omega)] | rw [wS_sFr, if_pos (by omega)])
  · refine A.fr ?_ (fun j _ => ?_) (fun i _ => ?_) (fun m _ _ => ?_)
    all_goals (try unfold K5)
    all_goals (repeat first | rw [wS_sI, if_pos ⟨rfl, rfl⟩] | rw [wS_sI, if_neg (by omega)] | rw [wS_sN, if_neg (by omega)] | rw [wS_sR] | rw [wS_sN, if_pos rfl] | rw [wS_sFr, if_neg (by omega)] | rw [wS_sFr, if_pos (by omega)])
  · refine S.fr ?_ ?_ (fun o i _ _ _ => ?_) (fun m i _ _ _ => ?_)
    all_goals (try unfold K5)
    all_goals (repeat first | rw [wS_sI, if_pos ⟨rfl, rfl⟩] | rw [wS_sI, if_neg (by omega)] | rw [wS_sN, if_neg (by omega)] | rw [wS_sR] | rw [wS_sN, if_pos rfl] | rw [wS_sFr, if_neg (by omega)] | rw [wS_sFr, if_pos (by omega)])
  · refine P.fr (fun j _ _ => ?_) (fun m _ _ => ?_)
    all_goals (try unfold K5)
    all_goals (repeat first | rw [wS_sI, if_pos ⟨rfl, rfl⟩] | rw [wS_sI, if_neg (by omega)] | rw [wS_sN, if_neg (by omega)] | rw [wS_sR] | rw [wS_sN, if_pos rfl] | rw [wS_sFr, if_neg (by omega)] | rw [wS_sFr, if_pos (by omega)])
  · intro i hi
    by_cases hir : i = r
    · subst hir
      refine ⟨⟨?_, ?_⟩, ⟨?_, ?_⟩, ?_, ?_⟩
      all_goals (repeat first | rw [wS_sI, if_pos ⟨rfl, rfl⟩] | rw [wS_sI, if_neg (by omega)] | rw [wS_sN, if_neg (by omega)] | rw [wS_sR] | rw [wS_sN, if_pos rfl] | rw [wS_sFr, if_neg (by omega)] | rw [wS_sFr, if_pos (by omega)])
      all_goals assumption
    · obtain ⟨a1, a2, a3⟩ := Q i hi
      refine ⟨⟨?_, ?_⟩, ⟨?_, ?_⟩, ?_, ?_⟩
      all_goals (repeat first | rw [wS_sI, if_pos ⟨rfl, rfl⟩] | rw [wS_sI, if_neg (by omega)] | rw [wS_sN, if_neg (by omega)] | rw [wS_sR] | rw [wS_sN, if_pos rfl] | rw [wS_sFr, if_neg (by omega)] | rw [wS_sFr, if_pos (by omega)])
      · exact a1.1
      · exact a1.2
      · exact a2.1
      · exact a2.2
      · exact a3.1
      · exact a3.2
theorem R6.w4 {w v : Wd} (h : R6 w v) {x : Int32} (hx : bt 1 9 x) : R6 (sI w 3 4 x) (sI (sI (sI v 63 47 x) 63 48 (wS v 63 48)) 63 49 (wS v 63 49)) := by
  refine ⟨⟨?_, ?_⟩, ⟨?_, ?_⟩, ⟨?_, ?_⟩, ?_, ?_⟩
  all_goals (repeat first | rw [wS_sI, if_pos ⟨rfl, rfl⟩] | rw [wS_sI, if_neg (by omega)] | rw [wS_sN, if_neg (by omega)] | rw [wS_sR] | rw [wS_sN, if_pos rfl] | rw [wS_sFr, if_neg (by omega)] | rw [wS_sFr, if_pos (by omega)])
  all_goals first | exact h.1.1 | exact h.1.2 | exact hx | exact h.2.2.1.1 | exact h.2.2.1.2 | exact h.2.2.2.1 | exact h.2.2.2.2
theorem R6.w5 {w v : Wd} (h : R6 w v) {x : Int32} (hx : bt 0 100 x) : R6 (sI w 3 5 x) (sI (sI (sI v 63 47 (wS v 63 47)) 63 48 x) 63 49 (wS v 63 49)) := by
  refine ⟨⟨?_, ?_⟩, ⟨?_, ?_⟩, ⟨?_, ?_⟩, ?_, ?_⟩
  all_goals (repeat first | rw [wS_sI, if_pos ⟨rfl, rfl⟩] | rw [wS_sI, if_neg (by omega)] | rw [wS_sN, if_neg (by omega)] | rw [wS_sR] | rw [wS_sN, if_pos rfl] | rw [wS_sFr, if_neg (by omega)] | rw [wS_sFr, if_pos (by omega)])
  all_goals first | exact h.1.1 | exact h.1.2 | exact hx | exact h.2.1.1 | exact h.2.1.2 | exact h.2.2.2.1 | exact h.2.2.2.2
theorem R6.w6 {w v : Wd} (h : R6 w v) {x : Int32} (hx : bt 1 99 x) : R6 (sI w 3 6 x) (sI (sI (sI v 63 47 (wS v 63 47)) 63 48 (wS v 63 48)) 63 49 x) := by
  refine ⟨⟨?_, ?_⟩, ⟨?_, ?_⟩, ⟨?_, ?_⟩, ?_, ?_⟩
  all_goals (repeat first | rw [wS_sI, if_pos ⟨rfl, rfl⟩] | rw [wS_sI, if_neg (by omega)] | rw [wS_sN, if_neg (by omega)] | rw [wS_sR] | rw [wS_sN, if_pos rfl] | rw [wS_sFr, if_neg (by omega)] | rw [wS_sFr, if_pos (by omega)])
  all_goals first | exact h.1.1 | exact h.1.2 | exact hx | exact h.2.1.1 | exact h.2.1.2 | exact h.2.2.1.1 | exact h.2.2.1.2
theorem c_set {w v : Wd} (h : R6 w v) (a b : Int32) : OK 6 R6 (f_X3_tellNumber w a b) (f_X12_set v a b) w v := by
  unfold f_X3_tellNumber f_X12_set
  rw [in_eq]
  have d10 : ¬ (1 : Int32) = 0 := by decide
  have d20 : ¬ (2 : Int32) = 0 := by decide
  have d21 : ¬ (2 : Int32) = 1 := by decide
  have d12 : ¬ (1 : Int32) = 2 := by decide
  have d02 : ¬ (0 : Int32) = 2 := by decide
  have d01 : ¬ (0 : Int32) = 1 := by decide
  by_cases h0 : a = 0
  · subst h0
    have w0 : f_X11_within 0 0 2 = 1 := by decide
    simp only [q_gt, q_lt, q_jn, q_pt, q_bo, q_bi, w0, d01, d02, if_true, if_false, d10, h.2.1.1]
    rcases win_c b 1 9 with q | ⟨q, b1, b2⟩
    · rw [q]; exact OK.same h
    rw [q]
    simp only [d10, if_false, wS_sI, if_false, if_true, false_and, and_false, true_and, and_true, and_self, reduceIte, Nat.reduceEqDiff, ne_eq, not_false_eq_true, not_true_eq_false]
    exact ⟨_, _, _, rfl, rfl, h.w4 (bt_of b1 b2 (by decide) (by decide)), by (repeat' first | exact only.refl | exact Or.inl rfl | exact Or.inr rfl | exact Or.inl (hAr _) | exact Or.inl (Ar_7699 (by omega)) | exact fun _ => Or.inl (hAr _) | refine only.trans ?_ (only.sI ?_) | refine only.trans ?_ (only.sJ ?_) | refine only.trans ?_ (only.sN ?_) | refine only.trans ?_ only.sR | refine only.trans ?_ (only.sFr ?_)), by (repeat' first | exact only.refl | exact Or.inl rfl | exact Or.inr rfl | exact Or.inl (hAr _) | exact Or.inl (Ar_7699 (by omega)) | exact fun _ => Or.inl (hAr _) | refine only.trans ?_ (only.sI ?_) | refine only.trans ?_ (only.sJ ?_) | refine only.trans ?_ (only.sN ?_) | refine only.trans ?_ only.sR | refine only.trans ?_ (only.sFr ?_)), by (repeat' first | exact cm.refl | exact Or.inl (by decide) | exact Or.inr (by omega) | refine cm.trans ?_ (cm.sI ?_) | refine cm.trans ?_ cm.sJ | refine cm.trans ?_ (cm.sN ?_) | refine cm.trans ?_ cm.sR | refine cm.trans ?_ (cm.sFr ?_)), by (repeat' first | exact mm.refl | decide | refine mm.trans ?_ (mm.sI ?_ ?_)), fun _ => rfl, fun _ => rfl⟩
  by_cases h1 : a = 1
  · subst h1
    have w0 : f_X11_within 1 0 2 = 1 := by decide
    simp only [q_gt, q_lt, q_jn, q_pt, q_bo, q_bi, w0, d12, if_true, if_false, d10, h.2.2.1.1]
    rcases win_c b 0 100 with q | ⟨q, b1, b2⟩
    · rw [q]; exact OK.same h
    rw [q]
    simp only [d10, if_false, wS_sI, if_false, if_true, false_and, and_false, true_and, and_true, and_self, reduceIte, Nat.reduceEqDiff, ne_eq, not_false_eq_true, not_true_eq_false]
    exact ⟨_, _, _, rfl, rfl, h.w5 (bt_of b1 b2 (by decide) (by decide)), by (repeat' first | exact only.refl | exact Or.inl rfl | exact Or.inr rfl | exact Or.inl (hAr _) | exact Or.inl (Ar_7699 (by omega)) | exact fun _ => Or.inl (hAr _) | refine only.trans ?_ (only.sI ?_) | refine only.trans ?_ (only.sJ ?_) | refine only.trans ?_ (only.sN ?_) | refine only.trans ?_ only.sR | refine only.trans ?_ (only.sFr ?_)), by (repeat' first | exact only.refl | exact Or.inl rfl | exact Or.inr rfl | exact Or.inl (hAr _) | exact Or.inl (Ar_7699 (by omega)) | exact fun _ => Or.inl (hAr _) | refine only.trans ?_ (only.sI ?_) | refine only.trans ?_ (only.sJ ?_) | refine only.trans ?_ (only.sN ?_) | refine only.trans ?_ only.sR | refine only.trans ?_ (only.sFr ?_)), by (repeat' first | exact cm.refl | exact Or.inl (by decide) | exact Or.inr (by omega) | refine cm.trans ?_ (cm.sI ?_) | refine cm.trans ?_ cm.sJ | refine cm.trans ?_ (cm.sN ?_) | refine cm.trans ?_ cm.sR | refine cm.trans ?_ (cm.sFr ?_)), by (repeat' first | exact mm.refl | decide | refine mm.trans ?_ (mm.sI ?_ ?_)), fun _ => rfl, fun _ => rfl⟩
  by_cases h2 : a = 2
  · subst h2
    have w0 : f_X11_within 2 0 2 = 1 := by decide
    simp only [q_gt, q_lt, q_jn, q_pt, q_bo, q_bi, w0, d20, d21, if_true, if_false, d10, h.2.2.2.1]
    rcases win_c b 1 99 with q | ⟨q, b1, b2⟩
    · rw [q]; exact OK.same h
    rw [q]
    simp only [d10, if_false, wS_sI, if_false, if_true, false_and, and_false, true_and, and_true, and_self, reduceIte, Nat.reduceEqDiff, ne_eq, not_false_eq_true, not_true_eq_false]
    exact ⟨_, _, _, rfl, rfl, h.w6 (bt_of b1 b2 (by decide) (by decide)), by (repeat' first | exact only.refl | exact Or.inl rfl | exact Or.inr rfl | exact Or.inl (hAr _) | exact Or.inl (Ar_7699 (by omega)) | exact fun _ => Or.inl (hAr _) | refine only.trans ?_ (only.sI ?_) | refine only.trans ?_ (only.sJ ?_) | refine only.trans ?_ (only.sN ?_) | refine only.trans ?_ only.sR | refine only.trans ?_ (only.sFr ?_)), by (repeat' first | exact only.refl | exact Or.inl rfl | exact Or.inr rfl | exact Or.inl (hAr _) | exact Or.inl (Ar_7699 (by omega)) | exact fun _ => Or.inl (hAr _) | refine only.trans ?_ (only.sI ?_) | refine only.trans ?_ (only.sJ ?_) | refine only.trans ?_ (only.sN ?_) | refine only.trans ?_ only.sR | refine only.trans ?_ (only.sFr ?_)), by (repeat' first | exact cm.refl | exact Or.inl (by decide) | exact Or.inr (by omega) | refine cm.trans ?_ (cm.sI ?_) | refine cm.trans ?_ cm.sJ | refine cm.trans ?_ (cm.sN ?_) | refine cm.trans ?_ cm.sR | refine cm.trans ?_ (cm.sFr ?_)), by (repeat' first | exact mm.refl | decide | refine mm.trans ?_ (mm.sI ?_ ?_)), fun _ => rfl, fun _ => rfl⟩
  · have w0 : f_X11_within a 0 2 = 0 := by
      rcases win_c a 0 2 with q | ⟨q, a1, a2⟩
      · exact q
      · exfalso
        obtain ⟨i, hi, rfl⟩ := nI_ex (n := 3) a1 (by
          have e : (2 : Int32) = nI 3 - 1 := by decide
          rw [e] at a2
          exact (sub1 (by decide)).mp a2) (by decide)
        have : i = 0 ∨ i = 1 ∨ i = 2 := by omega
        rcases this with rfl | rfl | rfl
        · exact h0 rfl
        · exact h1 rfl
        · exact h2 rfl
    simp only [q_gt, q_lt, q_jn, q_pt, q_bo, q_bi, w0, h0, h1, h2, if_true, if_false]
    exact OK.same h
