/-! ===== tasks and orders: their simple calls ===== -/
def T10 (w v : Wd) (i : Nat) : Prop := (wS w 50 i = wS v 114 i ∧ bt 1 200 (wS w 50 i)) ∧ (wS w 51 i = wS v 115 i ∧ bt 0 2000 (wS w 51 i))
def R10 (w v : Wd) : Prop := ∃ n, n ≤ 12 ∧ wS w 7 2 = nI n ∧ wS v 63 68 = nI n ∧ (∀ i, i < n → T10 w v i) ∧ wS w 7 3 = wS v 63 72 ∧ bt 1 4 (wS w 7 3)
theorem R10.fr {w v w' v' : Wd} (h : R10 w v) (hw : sm 10 w w') (hv : sm 10 v v') : R10 w' v' := by
  obtain ⟨n, hn, e1, e2, hh, c1, c2⟩ := h
  refine ⟨n, hn, ((hw 7 2 rfl).1).trans e1, ((hv 63 68 rfl).1).trans e2, fun i hi => ?_, ?_, ?_⟩
  · unfold T10
    rw [(hw 50 i rfl).1, (hw 51 i rfl).1, (hv 114 i rfl).1, (hv 115 i rfl).1]
    exact hh i hi
  · rw [(hw 7 3 rfl).1, (hv 63 72 rfl).1]; exact c1
  · rw [(hw 7 3 rfl).1]; exact c2
def R11 (w v : Wd) : Prop := ∃ n, n ≤ 80 ∧ wS w 8 3 = nI n ∧ wS v 63 74 = nI n ∧ ∀ i, i < n → wS w 55 i = wS v 118 i ∧ bt 0 255 (wS w 55 i)
theorem R11.fr {w v w' v' : Wd} (h : R11 w v) (hw : sm 11 w w') (hv : sm 11 v v') : R11 w' v' := by
  obtain ⟨n, hn, e1, e2, hh⟩ := h
  refine ⟨n, hn, ((hw 8 3 rfl).1).trans e1, ((hv 63 74 rfl).1).trans e2, fun i hi => ?_⟩
  rw [(hw 55 i rfl).1, (hv 118 i rfl).1]
  exact hh i hi
theorem c_task {w v : Wd} (h : R10 w v) (a b : Int32) : OK 10 R10 (f_X9_addTask w a b) (f_X12_task v a b) w v := by
  obtain ⟨n, hn, e1, e2, hh, c1, c2⟩ := id h
  unfold f_X9_addTask f_X12_task
  rw [in_eq]
  rcases win_c a 1 200 with q | ⟨q, a1, a2⟩
  · rw [q]; exact OK.same h
  rw [q]
  rcases win_c b 0 2000 with q | ⟨q, b1, b2⟩
  · rw [q]; exact OK.same h
  rw [q]
  by_cases hf : n = 12
  · subst hf
    simp only [q_gt, e1, e2]
    exact OK.same h
  have hlt : n < 12 := by omega
  have x1 : nI n < (12 : Int32) := nI_lt (b := 12) hlt (by decide)
  have x2 : ¬ nI n = (12 : Int32) := fun z => hf ((nI_eq (b := 12) (by omega) (by decide)).mp z)
  simp only [if_neg one0, q_gt, q_lt, q_jn, q_pt, q_bo, q_bi, e1, e2, if_pos x1, if_neg x2, st_n hlt (show 12 < 2 ^ 31 by decide), wS_sI, if_false, if_true, false_and, and_false, true_and, and_true, and_self, reduceIte, Nat.reduceEqDiff, ne_eq, not_false_eq_true, not_true_eq_false, nI_1, nI_pred]
  refine ⟨_, _, _, rfl, rfl, ⟨n + 1, by omega, ?_, ?_, fun i hi => ?_, ?_, ?_⟩, by (repeat' first | exact only.refl | exact Or.inl rfl | exact Or.inr rfl | exact Or.inl (hAr _) | exact Or.inl (Ar_7699 (by omega)) | exact fun _ => Or.inl (hAr _) | refine only.trans ?_ (only.sI ?_) | refine only.trans ?_ (only.sJ ?_) | refine only.trans ?_ (only.sN ?_) | refine only.trans ?_ only.sR | refine only.trans ?_ (only.sFr ?_)), by (repeat' first | exact only.refl | exact Or.inl rfl | exact Or.inr rfl | exact Or.inl (hAr _) | exact Or.inl (Ar_7699 (by omega)) | exact fun _ => Or.inl (hAr _) | refine only.trans ?_ (only.sI ?_) | refine only.trans ?_ (only.sJ ?_) | refine only.trans ?_ (only.sN ?_) | refine only.trans ?_ only.sR | refine only.trans ?_ (only.sFr ?_)), by (repeat' first | exact cm.refl | exact Or.inl (by decide) | exact Or.inr (by omega) | refine cm.trans ?_ (cm.sI ?_) | refine cm.trans ?_ cm.sJ | refine cm.trans ?_ (cm.sN ?_) | refine cm.trans ?_ cm.sR | refine cm.trans ?_ (cm.sFr ?_)), by (repeat' first | exact mm.refl | decide | refine mm.trans ?_ (mm.sI ?_ ?_)), fun _ => rfl, fun _ => rfl⟩
  · (repeat first | rw [wS_sI, if_pos ⟨rfl, rfl⟩] | rw [wS_sI, if_neg (by omega)] | rw [wS_sN, if_neg (by omega)] | rw [wS_sR] | rw [wS_sN, if_pos rfl] | rw [wS_sFr, if_neg (by omega)] | rw [wS_sFr, if_pos (by omega)])
  · (repeat first | rw [wS_sI, if_pos ⟨rfl, rfl⟩] | rw [wS_sI, if_neg (by omega)] | rw [wS_sN, if_neg (by omega)] | rw [wS_sR] | rw [wS_sN, if_pos rfl] | rw [wS_sFr, if_neg (by omega)] | rw [wS_sFr, if_pos (by omega)])
  · by_cases hin : i = n
    · subst hin
      refine ⟨⟨?_, ?_⟩, ?_, ?_⟩
      all_goals (repeat first | rw [wS_sI, if_pos ⟨rfl, rfl⟩] | rw [wS_sI, if_neg (by omega)] | rw [wS_sN, if_neg (by omega)] | rw [wS_sR] | rw [wS_sN, if_pos rfl] | rw [wS_sFr, if_neg (by omega)] | rw [wS_sFr, if_pos (by omega)])
      · exact bt_of a1 a2 (by decide) (by decide)
      · exact bt_of b1 b2 (by decide) (by decide)
    · obtain ⟨⟨p1, p2⟩, p3, p4⟩ := hh i (by omega)
      refine ⟨⟨?_, ?_⟩, ?_, ?_⟩
      all_goals (repeat first | rw [wS_sI, if_pos ⟨rfl, rfl⟩] | rw [wS_sI, if_neg (by omega)] | rw [wS_sN, if_neg (by omega)] | rw [wS_sR] | rw [wS_sN, if_pos rfl] | rw [wS_sFr, if_neg (by omega)] | rw [wS_sFr, if_pos (by omega)])
      all_goals assumption
  · (repeat first | rw [wS_sI, if_pos ⟨rfl, rfl⟩] | rw [wS_sI, if_neg (by omega)] | rw [wS_sN, if_neg (by omega)] | rw [wS_sR] | rw [wS_sN, if_pos rfl] | rw [wS_sFr, if_neg (by omega)] | rw [wS_sFr, if_pos (by omega)]); exact c1
  · (repeat first | rw [wS_sI, if_pos ⟨rfl, rfl⟩] | rw [wS_sI, if_neg (by omega)] | rw [wS_sN, if_neg (by omega)] | rw [wS_sR] | rw [wS_sN, if_pos rfl] | rw [wS_sFr, if_neg (by omega)] | rw [wS_sFr, if_pos (by omega)]); exact c2
theorem c_crews {w v : Wd} (h : R10 w v) (a : Int32) : OK 10 R10 (f_X9_tellCrews w a) (f_X12_crews v a) w v := by
  obtain ⟨n, hn, e1, e2, hh, c1, c2⟩ := id h
  unfold f_X9_tellCrews f_X12_crews
  rw [in_eq]
  rcases win_c a 1 4 with q | ⟨q, a1, a2⟩
  · rw [q]; exact OK.same h
  rw [q]
  simp only [if_neg one0, q_gt, q_lt, q_jn, q_pt, q_bo, q_bi, c1]
  refine ⟨_, _, _, rfl, rfl, ⟨n, by omega, ?_, ?_, fun i hi => ?_, ?_, ?_⟩, by (repeat' first | exact only.refl | exact Or.inl rfl | exact Or.inr rfl | exact Or.inl (hAr _) | exact Or.inl (Ar_7699 (by omega)) | exact fun _ => Or.inl (hAr _) | refine only.trans ?_ (only.sI ?_) | refine only.trans ?_ (only.sJ ?_) | refine only.trans ?_ (only.sN ?_) | refine only.trans ?_ only.sR | refine only.trans ?_ (only.sFr ?_)), by (repeat' first | exact only.refl | exact Or.inl rfl | exact Or.inr rfl | exact Or.inl (hAr _) | exact Or.inl (Ar_7699 (by omega)) | exact fun _ => Or.inl (hAr _) | refine only.trans ?_ (only.sI ?_) | refine only.trans ?_ (only.sJ ?_) | refine only.trans ?_ (only.sN ?_) | refine only.trans ?_ only.sR | refine only.trans ?_ (only.sFr ?_)), by (repeat' first | exact cm.refl | exact Or.inl (by decide) | exact Or.inr (by omega) | refine cm.trans ?_ (cm.sI ?_) | refine cm.trans ?_ cm.sJ | refine cm.trans ?_ (cm.sN ?_) | refine cm.trans ?_ cm.sR | refine cm.trans ?_ (cm.sFr ?_)), by (repeat' first | exact mm.refl | decide | refine mm.trans ?_ (mm.sI ?_ ?_)), fun _ => rfl, fun _ => rfl⟩
  · (repeat first | rw [wS_sI, if_pos ⟨rfl, rfl⟩] | rw [wS_sI, if_neg (by omega)] | rw [wS_sN, if_neg (by omega)] | rw [wS_sR] | rw [wS_sN, if_pos rfl] | rw [wS_sFr, if_neg (by omega)] | rw [wS_sFr, if_pos (by omega)]); exact e1
  · (repeat first | rw [wS_sI, if_pos ⟨rfl, rfl⟩] | rw [wS_sI, if_neg (by omega)] | rw [wS_sN, if_neg (by omega)] | rw [wS_sR] | rw [wS_sN, if_pos rfl] | rw [wS_sFr, if_neg (by omega)] | rw [wS_sFr, if_pos (by omega)]); exact e2
  · obtain ⟨⟨p1, p2⟩, p3, p4⟩ := hh i (by omega)
    refine ⟨⟨?_, ?_⟩, ?_, ?_⟩
    all_goals (repeat first | rw [wS_sI, if_pos ⟨rfl, rfl⟩] | rw [wS_sI, if_neg (by omega)] | rw [wS_sN, if_neg (by omega)] | rw [wS_sR] | rw [wS_sN, if_pos rfl] | rw [wS_sFr, if_neg (by omega)] | rw [wS_sFr, if_pos (by omega)])
    all_goals assumption
  · (repeat first | rw [wS_sI, if_pos ⟨rfl, rfl⟩] | rw [wS_sI, if_neg (by omega)] | rw [wS_sN, if_neg (by omega)] | rw [wS_sR] | rw [wS_sN, if_pos rfl] | rw [wS_sFr, if_neg (by omega)] | rw [wS_sFr, if_pos (by omega)])
  · (repeat first | rw [wS_sI, if_pos ⟨rfl, rfl⟩] | rw [wS_sI, if_neg (by omega)] | rw [wS_sN, if_neg (by omega)] | rw [wS_sR] | rw [wS_sN, if_pos rfl] | rw [wS_sFr, if_neg (by omega)] | rw [wS_sFr, if_pos (by omega)]); exact bt_of a1 a2 (by decide) (by decide)
theorem c_type {w v : Wd} (h : R11 w v) (a : Int32) : OK 11 R11 (f_X4_append w a) (f_X12_type v a) w v := by
  obtain ⟨n, hn, e1, e2, hh⟩ := id h
  unfold f_X4_append f_X12_type
  rw [in_eq]
  rcases win_c a 0 255 with q | ⟨q, a1, a2⟩
  · rw [q]; exact OK.same h
  rw [q]
  by_cases hf : n = 80
  · subst hf
    simp only [q_gt, e1, e2]
    exact OK.same h
  have hlt : n < 80 := by omega
  have x1 : nI n < (80 : Int32) := nI_lt (b := 80) hlt (by decide)
  have x2 : ¬ nI n = (80 : Int32) := fun z => hf ((nI_eq (b := 80) (by omega) (by decide)).mp z)
  simp only [if_neg one0, q_gt, q_lt, q_jn, q_pt, q_bo, q_bi, e1, e2, if_pos x1, if_neg x2, st_n hlt (show 80 < 2 ^ 31 by decide), wS_sI, if_false, if_true, false_and, and_false, true_and, and_true, and_self, reduceIte, Nat.reduceEqDiff, ne_eq, not_false_eq_true, not_true_eq_false, nI_1, nI_pred]
  refine ⟨_, _, _, rfl, rfl, ⟨n + 1, by omega, ?_, ?_, fun i hi => ?_⟩, by (repeat' first | exact only.refl | exact Or.inl rfl | exact Or.inr rfl | exact Or.inl (hAr _) | exact Or.inl (Ar_7699 (by omega)) | exact fun _ => Or.inl (hAr _) | refine only.trans ?_ (only.sI ?_) | refine only.trans ?_ (only.sJ ?_) | refine only.trans ?_ (only.sN ?_) | refine only.trans ?_ only.sR | refine only.trans ?_ (only.sFr ?_)), by (repeat' first | exact only.refl | exact Or.inl rfl | exact Or.inr rfl | exact Or.inl (hAr _) | exact Or.inl (Ar_7699 (by omega)) | exact fun _ => Or.inl (hAr _) | refine only.trans ?_ (only.sI ?_) | refine only.trans ?_ (only.sJ ?_) | refine only.trans ?_ (only.sN ?_) | refine only.trans ?_ only.sR | refine only.trans ?_ (only.sFr ?_)), by (repeat' first | exact cm.refl | exact Or.inl (by decide) | exact Or.inr (by omega) | refine cm.trans ?_ (cm.sI ?_) | refine cm.trans ?_ cm.sJ | refine cm.trans ?_ (cm.sN ?_) | refine cm.trans ?_ cm.sR | refine cm.trans ?_ (cm.sFr ?_)), by (repeat' first | exact mm.refl | decide | refine mm.trans ?_ (mm.sI ?_ ?_)), fun _ => rfl, fun _ => rfl⟩
  · (repeat first | rw [wS_sI, if_pos ⟨rfl, rfl⟩] | rw [wS_sI, if_neg (by omega)] | rw [wS_sN, if_neg (by omega)] | rw [wS_sR] | rw [wS_sN, if_pos rfl] | rw [wS_sFr, if_neg (by omega)] | rw [wS_sFr, if_pos (by omega)])
  · (repeat first | rw [wS_sI, if_pos ⟨rfl, rfl⟩] | rw [wS_sI, if_neg (by omega)] | rw [wS_sN, if_neg (by omega)] | rw [wS_sR] | rw [wS_sN, if_pos rfl] | rw [wS_sFr, if_neg (by omega)] | rw [wS_sFr, if_pos (by omega)])
  · by_cases hin : i = n
    · subst hin
      refine ⟨?_, ?_⟩
      all_goals (repeat first | rw [wS_sI, if_pos ⟨rfl, rfl⟩] | rw [wS_sI, if_neg (by omega)] | rw [wS_sN, if_neg (by omega)] | rw [wS_sR] | rw [wS_sN, if_pos rfl] | rw [wS_sFr, if_neg (by omega)] | rw [wS_sFr, if_pos (by omega)])
      exact bt_of a1 a2 (by decide) (by decide)
    · obtain ⟨p1, p2⟩ := hh i (by omega)
      refine ⟨?_, ?_⟩
      all_goals (repeat first | rw [wS_sI, if_pos ⟨rfl, rfl⟩] | rw [wS_sI, if_neg (by omega)] | rw [wS_sN, if_neg (by omega)] | rw [wS_sR] | rw [wS_sN, if_pos rfl] | rw [wS_sFr, if_neg (by omega)] | rw [wS_sFr, if_pos (by omega)])
      all_goals assumption
theorem c_tear {w v : Wd} (h : R11 w v) : OK 11 R11 (f_X4_clear w) (f_X12_tear v) w v := by
  obtain ⟨n, hn, e1, e2, hh⟩ := id h
  unfold f_X4_clear f_X12_tear
  simp only [q_gt, q_lt, q_jn, q_pt, q_bo, q_bi, e1, e2]
  refine ⟨_, _, _, rfl, rfl, ⟨0, by omega, ?_, ?_, fun i hi => absurd hi (Nat.not_lt_zero i)⟩, by (repeat' first | exact only.refl | exact Or.inl rfl | exact Or.inr rfl | exact Or.inl (hAr _) | exact Or.inl (Ar_7699 (by omega)) | exact fun _ => Or.inl (hAr _) | refine only.trans ?_ (only.sI ?_) | refine only.trans ?_ (only.sJ ?_) | refine only.trans ?_ (only.sN ?_) | refine only.trans ?_ only.sR | refine only.trans ?_ (only.sFr ?_)), by (repeat' first | exact only.refl | exact Or.inl rfl | exact Or.inr rfl | exact Or.inl (hAr _) | exact Or.inl (Ar_7699 (by omega)) | exact fun _ => Or.inl (hAr _) | refine only.trans ?_ (only.sI ?_) | refine only.trans ?_ (only.sJ ?_) | refine only.trans ?_ (only.sN ?_) | refine only.trans ?_ only.sR | refine only.trans ?_ (only.sFr ?_)), by (repeat' first | exact cm.refl | exact Or.inl (by decide) | exact Or.inr (by omega) | refine cm.trans ?_ (cm.sI ?_) | refine cm.trans ?_ cm.sJ | refine cm.trans ?_ (cm.sN ?_) | refine cm.trans ?_ cm.sR | refine cm.trans ?_ (cm.sFr ?_)), by (repeat' first | exact mm.refl | decide | refine mm.trans ?_ (mm.sI ?_ ?_)), fun _ => rfl, fun _ => rfl⟩
  · (repeat first | rw [wS_sI, if_pos ⟨rfl, rfl⟩] | rw [wS_sI, if_neg (by omega)] | rw [wS_sN, if_neg (by omega)] | rw [wS_sR] | rw [wS_sN, if_pos rfl] | rw [wS_sFr, if_neg (by omega)] | rw [wS_sFr, if_pos (by omega)]); decide
  · (repeat first | rw [wS_sI, if_pos ⟨rfl, rfl⟩] | rw [wS_sI, if_neg (by omega)] | rw [wS_sN, if_neg (by omega)] | rw [wS_sR] | rw [wS_sN, if_pos rfl] | rw [wS_sFr, if_neg (by omega)] | rw [wS_sFr, if_pos (by omega)]); decide
