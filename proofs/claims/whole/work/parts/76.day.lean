/-! ===== the day: its simple calls ===== -/
def B9 (w v : Wd) (i : Nat) : Prop := (wS w 40 i = wS v 104 i ∧ bt 1 60 (wS w 40 i)) ∧ (wS w 41 i = wS v 105 i ∧ (wS w 41 i = 0 ∨ wS w 41 i = 1))
def D9 (w v : Wd) (i : Nat) : Prop := (wS w 42 i = wS v 106 i ∧ bt 0 19 (wS w 42 i)) ∧ (wS w 43 i = wS v 107 i ∧ bt 0 19 (wS w 43 i)) ∧ (wS w 44 i = wS v 108 i ∧ bt 0 999 (wS w 44 i)) ∧ (wS w 45 i = wS v 109 i ∧ bt 0 2000 (wS w 45 i)) ∧ (wS w 46 i = wS v 110 i ∧ bt 0 2000 (wS w 46 i))
def R9 (w v : Wd) : Prop := ∃ n, n ≤ 4 ∧ wS w 6 7 = nI n ∧ wS v 63 59 = nI n ∧ (∀ i, i < 20 → B9 w v i) ∧ ∀ i, i < n → D9 w v i
theorem R9.fr {w v w' v' : Wd} (h : R9 w v) (hw : sm 9 w w') (hv : sm 9 v v') : R9 w' v' := by
  obtain ⟨n, hn, e1, e2, hb, hd⟩ := h
  refine ⟨n, hn, ((hw 6 7 rfl).1).trans e1, ((hv 63 59 rfl).1).trans e2, fun i hi => ?_, fun i hi => ?_⟩
  · unfold B9
    rw [(hw 40 i rfl).1, (hw 41 i rfl).1, (hv 104 i rfl).1, (hv 105 i rfl).1]
    exact hb i hi
  · unfold D9
    rw [(hw 42 i rfl).1, (hw 43 i rfl).1, (hw 44 i rfl).1, (hw 45 i rfl).1, (hw 46 i rfl).1, (hv 106 i rfl).1, (hv 107 i rfl).1, (hv 108 i rfl).1, (hv 109 i rfl).1, (hv 110 i rfl).1]
    exact hd i hi
theorem c_block {w v : Wd} (h : R9 w v) (a b d : Int32) (hz : d = 0 ∨ d = 1) : OK 9 R9 (f_X2_tellBlock w a b d) (f_X12_block v a b d) w v := by
  obtain ⟨n, hn, e1, e2, hb, hd⟩ := id h
  unfold f_X2_tellBlock f_X12_block
  rw [in_eq]
  rcases win_n a (n := 20) (by decide) with q | ⟨q, i, hi, rfl⟩
  · have q' : f_X11_within a 0 19 = 0 := q
    rw [q']; exact OK.same h
  have q' : f_X11_within (nI i) 0 19 = 1 := q
  rw [q']
  rcases win_c b 1 60 with q | ⟨q, b1, b2⟩
  · rw [q]; exact OK.same h
  rw [q]
  simp only [if_neg one0, st_n hi (show 20 < 2 ^ 31 by decide), sz_n hi (show 20 < 2 ^ 31 by decide), nar01 hz]
  refine ⟨_, _, _, rfl, rfl, ⟨n, hn, ?_, ?_, fun j hj => ?_, fun j hj => ?_⟩, by (repeat' first | exact only.refl | exact Or.inl rfl | exact Or.inr rfl | exact Or.inl (hAr _) | exact Or.inl (Ar_7699 (by omega)) | exact fun _ => Or.inl (hAr _) | refine only.trans ?_ (only.sI ?_) | refine only.trans ?_ (only.sJ ?_) | refine only.trans ?_ (only.sN ?_) | refine only.trans ?_ only.sR | refine only.trans ?_ (only.sFr ?_)), by (repeat' first | exact only.refl | exact Or.inl rfl | exact Or.inr rfl | exact Or.inl (hAr _) | exact Or.inl (Ar_7699 (by omega)) | exact fun _ => Or.inl (hAr _) | refine only.trans ?_ (only.sI ?_) | refine only.trans ?_ (only.sJ ?_) | refine only.trans ?_ (only.sN ?_) | refine only.trans ?_ only.sR | refine only.trans ?_ (only.sFr ?_)), by (repeat' first | exact cm.refl | exact Or.inl (by decide) | exact Or.inr (by omega) | refine cm.trans ?_ (cm.sI ?_) | refine cm.trans ?_ cm.sJ | refine cm.trans ?_ (cm.sN ?_) | refine cm.trans ?_ cm.sR | refine cm.trans ?_ (cm.sFr ?_)), by (repeat' first | exact mm.refl | decide | refine mm.trans ?_ (mm.sI ?_ ?_)), fun _ => rfl, fun _ => rfl⟩
  · (repeat first | rw [wS_sI, if_pos ⟨rfl, rfl⟩] | rw [wS_sI, if_neg (by omega)] | rw [wS_sN, if_neg (by omega)] | rw [wS_sR] | rw [wS_sN, if_pos rfl] | rw [wS_sFr, if_neg (by omega)] | rw [wS_sFr, if_pos (by omega)]); exact e1
  · (repeat first | rw [wS_sI, if_pos ⟨rfl, rfl⟩] | rw [wS_sI, if_neg (by omega)] | rw [wS_sN, if_neg (by omega)] | rw [wS_sR] | rw [wS_sN, if_pos rfl] | rw [wS_sFr, if_neg (by omega)] | rw [wS_sFr, if_pos (by omega)]); exact e2
  · by_cases hji : j = i
    · subst hji
      refine ⟨⟨?_, ?_⟩, ?_, ?_⟩
      all_goals (repeat first | rw [wS_sI, if_pos ⟨rfl, rfl⟩] | rw [wS_sI, if_neg (by omega)] | rw [wS_sN, if_neg (by omega)] | rw [wS_sR] | rw [wS_sN, if_pos rfl] | rw [wS_sFr, if_neg (by omega)] | rw [wS_sFr, if_pos (by omega)])
      · exact bt_of b1 b2 (by decide) (by decide)
      · exact hz
    · obtain ⟨⟨p1, p2⟩, p3, p4⟩ := hb j hj
      refine ⟨⟨?_, ?_⟩, ?_, ?_⟩
      all_goals (repeat first | rw [wS_sI, if_pos ⟨rfl, rfl⟩] | rw [wS_sI, if_neg (by omega)] | rw [wS_sN, if_neg (by omega)] | rw [wS_sR] | rw [wS_sN, if_pos rfl] | rw [wS_sFr, if_neg (by omega)] | rw [wS_sFr, if_pos (by omega)])
      all_goals assumption
  · obtain ⟨⟨p1, p2⟩, ⟨p3, p4⟩, ⟨p5, p6⟩, ⟨p7, p8⟩, p9, p10⟩ := hd j hj
    refine ⟨⟨?_, ?_⟩, ⟨?_, ?_⟩, ⟨?_, ?_⟩, ⟨?_, ?_⟩, ?_, ?_⟩
    all_goals (repeat first | rw [wS_sI, if_pos ⟨rfl, rfl⟩] | rw [wS_sI, if_neg (by omega)] | rw [wS_sN, if_neg (by omega)] | rw [wS_sR] | rw [wS_sN, if_pos rfl] | rw [wS_sFr, if_neg (by omega)] | rw [wS_sFr, if_pos (by omega)])
    all_goals assumption
theorem c_home {w v : Wd} (h : R9 w v) : OK 9 R9 (f_X2_clearCars w) (f_X12_home v) w v := by
  obtain ⟨n, hn, e1, e2, hb, hd⟩ := id h
  unfold f_X2_clearCars f_X12_home
  simp only [q_gt, q_lt, q_jn, q_pt, q_bo, q_bi, e1, e2]
  refine ⟨_, _, _, rfl, rfl, ⟨0, by omega, ?_, ?_, fun j hj => ?_, fun j hj => absurd hj (Nat.not_lt_zero j)⟩, by (repeat' first | exact only.refl | exact Or.inl rfl | exact Or.inr rfl | exact Or.inl (hAr _) | exact Or.inl (Ar_7699 (by omega)) | exact fun _ => Or.inl (hAr _) | refine only.trans ?_ (only.sI ?_) | refine only.trans ?_ (only.sJ ?_) | refine only.trans ?_ (only.sN ?_) | refine only.trans ?_ only.sR | refine only.trans ?_ (only.sFr ?_)), by (repeat' first | exact only.refl | exact Or.inl rfl | exact Or.inr rfl | exact Or.inl (hAr _) | exact Or.inl (Ar_7699 (by omega)) | exact fun _ => Or.inl (hAr _) | refine only.trans ?_ (only.sI ?_) | refine only.trans ?_ (only.sJ ?_) | refine only.trans ?_ (only.sN ?_) | refine only.trans ?_ only.sR | refine only.trans ?_ (only.sFr ?_)), by (repeat' first | exact cm.refl | exact Or.inl (by decide) | exact Or.inr (by omega) | refine cm.trans ?_ (cm.sI ?_) | refine cm.trans ?_ cm.sJ | refine cm.trans ?_ (cm.sN ?_) | refine cm.trans ?_ cm.sR | refine cm.trans ?_ (cm.sFr ?_)), by (repeat' first | exact mm.refl | decide | refine mm.trans ?_ (mm.sI ?_ ?_)), fun _ => rfl, fun _ => rfl⟩
  · (repeat first | rw [wS_sI, if_pos ⟨rfl, rfl⟩] | rw [wS_sI, if_neg (by omega)] | rw [wS_sN, if_neg (by omega)] | rw [wS_sR] | rw [wS_sN, if_pos rfl] | rw [wS_sFr, if_neg (by omega)] | rw [wS_sFr, if_pos (by omega)]); decide
  · (repeat first | rw [wS_sI, if_pos ⟨rfl, rfl⟩] | rw [wS_sI, if_neg (by omega)] | rw [wS_sN, if_neg (by omega)] | rw [wS_sR] | rw [wS_sN, if_pos rfl] | rw [wS_sFr, if_neg (by omega)] | rw [wS_sFr, if_pos (by omega)]); decide
  · obtain ⟨⟨p1, p2⟩, p3, p4⟩ := hb j hj
    refine ⟨⟨?_, ?_⟩, ?_, ?_⟩
    all_goals (repeat first | rw [wS_sI, if_pos ⟨rfl, rfl⟩] | rw [wS_sI, if_neg (by omega)] | rw [wS_sN, if_neg (by omega)] | rw [wS_sR] | rw [wS_sN, if_pos rfl] | rw [wS_sFr, if_neg (by omega)] | rw [wS_sFr, if_pos (by omega)])
    all_goals assumption
theorem c_enter {w v : Wd} (h : R9 w v) (a b d : Int32) : OK 9 R9 (f_X2_addCar w a b d) (f_X12_enter v a b d) w v := by
  obtain ⟨n, hn, e1, e2, hb, hd⟩ := id h
  unfold f_X2_addCar f_X12_enter
  rw [in_eq]
  rcases win_c a 0 19 with q | ⟨q, a1, a2⟩
  · rw [q]; exact OK.same h
  rw [q]
  rcases win_c b 0 19 with q | ⟨q, b1, b2⟩
  · rw [q]; exact OK.same h
  rw [q]
  by_cases hab : a = b
  · simp only [if_neg one0, if_pos hab]; exact OK.same h
  rcases win_c d 0 999 with q | ⟨q, d1, d2⟩
  · rw [q]; simp only [if_neg one0, if_neg hab, if_true]; exact OK.same h
  rw [q]
  by_cases hf : n = 4
  · subst hf
    simp only [if_neg one0, if_neg hab, q_gt, e1, e2]
    exact OK.same h
  have hlt : n < 4 := by omega
  have x1 : nI n < (4 : Int32) := nI_lt (b := 4) hlt (by decide)
  have x2 : ¬ nI n = (4 : Int32) := fun z => hf ((nI_eq (b := 4) (by omega) (by decide)).mp z)
  have z0 : bt 0 2000 (0 : Int32) := ⟨by decide, by decide⟩
  simp only [if_neg one0, if_neg hab, q_gt, q_lt, q_jn, q_pt, q_bo, q_bi, e1, e2, if_pos x1, if_neg x2, st_n hlt (show 4 < 2 ^ 31 by decide), wS_sI, if_false, if_true, false_and, and_false, true_and, and_true, and_self, reduceIte, Nat.reduceEqDiff, ne_eq, not_false_eq_true, not_true_eq_false, nI_1, nI_pred]
  refine ⟨_, _, _, rfl, rfl, ⟨n + 1, by omega, ?_, ?_, fun j hj => ?_, fun j hj => ?_⟩, by (repeat' first | exact only.refl | exact Or.inl rfl | exact Or.inr rfl | exact Or.inl (hAr _) | exact Or.inl (Ar_7699 (by omega)) | exact fun _ => Or.inl (hAr _) | refine only.trans ?_ (only.sI ?_) | refine only.trans ?_ (only.sJ ?_) | refine only.trans ?_ (only.sN ?_) | refine only.trans ?_ only.sR | refine only.trans ?_ (only.sFr ?_)), by (repeat' first | exact only.refl | exact Or.inl rfl | exact Or.inr rfl | exact Or.inl (hAr _) | exact Or.inl (Ar_7699 (by omega)) | exact fun _ => Or.inl (hAr _) | refine only.trans ?_ (only.sI ?_) | refine only.trans ?_ (only.sJ ?_) | refine only.trans ?_ (only.sN ?_) | refine only.trans ?_ only.sR | refine only.trans ?_ (only.sFr ?_)), by (repeat' first | exact cm.refl | exact Or.inl (by decide) | exact Or.inr (by omega) | refine cm.trans ?_ (cm.sI ?_) | refine cm.trans ?_ cm.sJ | refine cm.trans ?_ (cm.sN ?_) | refine cm.trans ?_ cm.sR | refine cm.trans ?_ (cm.sFr ?_)), by (repeat' first | exact mm.refl | decide | refine mm.trans ?_ (mm.sI ?_ ?_)), fun _ => rfl, fun _ => rfl⟩
  · (repeat first | rw [wS_sI, if_pos ⟨rfl, rfl⟩] | rw [wS_sI, if_neg (by omega)] | rw [wS_sN, if_neg (by omega)] | rw [wS_sR] | rw [wS_sN, if_pos rfl] | rw [wS_sFr, if_neg (by omega)] | rw [wS_sFr, if_pos (by omega)])
  · (repeat first | rw [wS_sI, if_pos ⟨rfl, rfl⟩] | rw [wS_sI, if_neg (by omega)] | rw [wS_sN, if_neg (by omega)] | rw [wS_sR] | rw [wS_sN, if_pos rfl] | rw [wS_sFr, if_neg (by omega)] | rw [wS_sFr, if_pos (by omega)])
  · obtain ⟨⟨p1, p2⟩, p3, p4⟩ := hb j hj
    refine ⟨⟨?_, ?_⟩, ?_, ?_⟩
    all_goals (repeat first | rw [wS_sI, if_pos ⟨rfl, rfl⟩] | rw [wS_sI, if_neg (by omega)] | rw [wS_sN, if_neg (by omega)] | rw [wS_sR] | rw [wS_sN, if_pos rfl] | rw [wS_sFr, if_neg (by omega)] | rw [wS_sFr, if_pos (by omega)])
    all_goals assumption
  · by_cases hjn : j = n
    · subst hjn
      refine ⟨⟨?_, ?_⟩, ⟨?_, ?_⟩, ⟨?_, ?_⟩, ⟨?_, ?_⟩, ?_, ?_⟩
      all_goals (repeat first | rw [wS_sI, if_pos ⟨rfl, rfl⟩] | rw [wS_sI, if_neg (by omega)] | rw [wS_sN, if_neg (by omega)] | rw [wS_sR] | rw [wS_sN, if_pos rfl] | rw [wS_sFr, if_neg (by omega)] | rw [wS_sFr, if_pos (by omega)])
      · exact bt_of a1 a2 (by decide) (by decide)
      · exact bt_of b1 b2 (by decide) (by decide)
      · exact bt_of d1 d2 (by decide) (by decide)
      · exact z0
      · exact z0
    · obtain ⟨⟨p1, p2⟩, ⟨p3, p4⟩, ⟨p5, p6⟩, ⟨p7, p8⟩, p9, p10⟩ := hd j (by omega)
      refine ⟨⟨?_, ?_⟩, ⟨?_, ?_⟩, ⟨?_, ?_⟩, ⟨?_, ?_⟩, ?_, ?_⟩
      all_goals (repeat first | rw [wS_sI, if_pos ⟨rfl, rfl⟩] | rw [wS_sI, if_neg (by omega)] | rw [wS_sN, if_neg (by omega)] | rw [wS_sR] | rw [wS_sN, if_pos rfl] | rw [wS_sFr, if_neg (by omega)] | rw [wS_sFr, if_pos (by omega)])
      all_goals assumption
