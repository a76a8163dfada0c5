theorem win_above {a f hi : Int32} (hf : bt 0 2000 f) : f_X11_within a (f + 1) hi = if f_X11_within a 0 hi = 0 then 0 else if f < a then 1 else 0 := by
  have e : (f + 1).toInt = f.toInt + 1 := by
    rw [Int32.toInt_add]
    show (f.toInt + 1).bmod (2 ^ 32) = _
    exact Int.bmod_eq_of_le (by have := hf.1; omega) (by have := hf.2; omega)
  have h1 := hf.1
  have o0 : (0 : Int32).toInt = 0 := by decide
  rcases win_c a 0 hi with q | ⟨q, a1, a2⟩
  · rw [q, if_pos rfl]
    rcases win_c a (f + 1) hi with p | ⟨p, b1, b2⟩
    · exact p
    · exfalso
      have z : (0 : Int32) ≤ a := by
        rw [Int32.le_iff_toInt_le] at b1 ⊢
        omega
      have := win_t z b2
      rw [this] at q
      exact one0 q
  · rw [q, if_neg one0]
    by_cases h2 : f < a
    · rw [if_pos h2]
      refine win_t ?_ a2
      rw [Int32.lt_iff_toInt_lt] at h2
      rw [Int32.le_iff_toInt_le]
      omega
    · rw [if_neg h2]
      refine win_f (Or.inl ?_)
      rw [Int32.lt_iff_toInt_lt] at h2 ⊢
      omega
theorem c_stuck {w v : Wd} (h : R9 w v) (a b d : Int32) : OK 9 R9 (f_X2_stick w a b d) (f_X12_stuck v a b d) w v := by
  obtain ⟨n, hn, e1, e2, hb, hd⟩ := id h
  unfold f_X2_stick f_X12_stuck
  rw [in_eq]
  simp only [q_gt, e1, e2]
  rcases win_n a (n := n) (by omega) with q | ⟨q, i, hi, rfl⟩
  · rw [q]; exact OK.same h
  rw [q]
  rcases win_c b 0 2000 with q | ⟨q, b1, b2⟩
  · rw [q]; exact OK.same h
  have B : bt 0 2000 b := bt_of b1 b2 (by decide) (by decide)
  rw [q, win_above B]
  rcases win_c d 0 2000 with q | ⟨q, d1, d2⟩
  · rw [q]; exact OK.same h
  have D : bt 0 2000 d := bt_of d1 d2 (by decide) (by decide)
  rw [q]
  have hi4 : i < 4 := by omega
  by_cases hbd : b < d
  · simp only [if_neg one0, if_pos hbd, st_n hi4 (show 4 < 2 ^ 31 by decide)]
    refine ⟨_, _, _, rfl, rfl, ⟨n, hn, ?_, ?_, fun j hj => ?_, fun j hj => ?_⟩, by (repeat' first | exact only.refl | exact Or.inl rfl | exact Or.inr rfl | exact Or.inl (hAr _) | exact Or.inl (Ar_7699 (by omega)) | exact fun _ => Or.inl (hAr _) | refine only.trans ?_ (only.sI ?_) | refine only.trans ?_ (only.sJ ?_) | refine only.trans ?_ (only.sN ?_) | refine only.trans ?_ only.sR | refine only.trans ?_ (only.sFr ?_)), by (repeat' first | exact only.refl | exact Or.inl rfl | exact Or.inr rfl | exact Or.inl (hAr _) | exact Or.inl (Ar_7699 (by omega)) | exact fun _ => Or.inl (hAr _) | refine only.trans ?_ (only.sI ?_) | refine only.trans ?_ (only.sJ ?_) | refine only.trans ?_ (only.sN ?_) | refine only.trans ?_ only.sR | refine only.trans ?_ (only.sFr ?_)), by (repeat' first | exact cm.refl | exact Or.inl (by decide) | exact Or.inr (by omega) | refine cm.trans ?_ (cm.sI ?_) | refine cm.trans ?_ cm.sJ | refine cm.trans ?_ (cm.sN ?_) | refine cm.trans ?_ cm.sR | refine cm.trans ?_ (cm.sFr ?_)), by (repeat' first | exact mm.refl | decide | refine mm.trans ?_ (mm.sI ?_ ?_)), fun _ => rfl, fun _ => rfl⟩
    · (repeat first | rw [wS_sI, if_pos ⟨rfl, rfl⟩] | rw [wS_sI, if_neg (by omega)] | rw [wS_sN, if_neg (by omega)] | rw [wS_sR] | rw [wS_sN, if_pos rfl] | rw [wS_sFr, if_neg (by omega)] | rw [wS_sFr, if_pos (by omega)]); exact e1
    · (repeat first | rw [wS_sI, if_pos ⟨rfl, rfl⟩] | rw [wS_sI, if_neg (by omega)] | rw [wS_sN, if_neg (by omega)] | rw [wS_sR] | rw [wS_sN, if_pos rfl] | rw [wS_sFr, if_neg (by omega)] | rw [wS_sFr, if_pos (by omega)]); exact e2
    · obtain ⟨⟨p1, p2⟩, p3, p4⟩ := hb j hj
      refine ⟨⟨?_, ?_⟩, ?_, ?_⟩
      all_goals (repeat first | rw [wS_sI, if_pos ⟨rfl, rfl⟩] | rw [wS_sI, if_neg (by omega)] | rw [wS_sN, if_neg (by omega)] | rw [wS_sR] | rw [wS_sN, if_pos rfl] | rw [wS_sFr, if_neg (by omega)] | rw [wS_sFr, if_pos (by omega)])
      all_goals assumption
    · obtain ⟨⟨p1, p2⟩, ⟨p3, p4⟩, ⟨p5, p6⟩, ⟨p7, p8⟩, p9, p10⟩ := hd j hj
      by_cases hji : j = i
      · subst hji
        refine ⟨⟨?_, ?_⟩, ⟨?_, ?_⟩, ⟨?_, ?_⟩, ⟨?_, ?_⟩, ?_, ?_⟩
        all_goals (repeat first | rw [wS_sI, if_pos ⟨rfl, rfl⟩] | rw [wS_sI, if_neg (by omega)] | rw [wS_sN, if_neg (by omega)] | rw [wS_sR] | rw [wS_sN, if_pos rfl] | rw [wS_sFr, if_neg (by omega)] | rw [wS_sFr, if_pos (by omega)])
        all_goals assumption
      · refine ⟨⟨?_, ?_⟩, ⟨?_, ?_⟩, ⟨?_, ?_⟩, ⟨?_, ?_⟩, ?_, ?_⟩
        all_goals (repeat first | rw [wS_sI, if_pos ⟨rfl, rfl⟩] | rw [wS_sI, if_neg (by omega)] | rw [wS_sN, if_neg (by omega)] | rw [wS_sR] | rw [wS_sN, if_pos rfl] | rw [wS_sFr, if_neg (by omega)] | rw [wS_sFr, if_pos (by omega)])
        all_goals assumption
  · simp only [if_neg one0, if_neg hbd, if_true]
    exact OK.same h
