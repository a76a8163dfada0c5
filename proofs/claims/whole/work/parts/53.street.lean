/-! ===== the streets' other calls ===== -/
def OK (a : Nat) (R : Wd → Wd → Prop) (oc om : Option (Int32 × Wd)) (w v : Wd) : Prop := ∃ r w1 v1, oc = some (r, w1) ∧ om = some (r, v1) ∧ R w1 v1 ∧ only a w w1 ∧ only a v v1 ∧ cm w w1 ∧ mm v v1 ∧ am w w1 ∧ am v v1
theorem OK.same {a : Nat} {R : Wd → Wd → Prop} {w v : Wd} {r : Int32} (h : R w v) : OK a R (some (r, w)) (some (r, v)) w v := ⟨r, w, v, rfl, rfl, h, only.refl, only.refl, cm.refl, mm.refl, am.refl, am.refl⟩
theorem one0 : ¬ ((1 : Int32) = 0) := by decide
theorem c_cut {w v : Wd} (h : R1 w v) (a b : Int32) : OK 1 R1 (f_X11_cut w a b) (f_X12_cut v a b) w v := by
  obtain ⟨n, hn, e1, e2, hh⟩ := id h
  unfold f_X11_cut f_X8_cutEaves f_X12_cut
  rw [in_eq]
  simp only [q_gt, e1, e2]
  rcases win_n a (n := n) (by omega) with q | ⟨q, i, hi, rfl⟩
  · rw [q]; exact OK.same h
  rw [q]
  have hi20 : i < 20 := by omega
  have E := (hh i hi).2.2.2.2.2
  simp only [if_neg one0, ld_n hi20 (show 20 < 2 ^ 31 by decide), ← E.1]
  rcases win_c b 0 (wS w 13 i) with q | ⟨q, b1, b2⟩
  · rw [q]; exact OK.same h
  rw [q]
  have B : bt 0 9 b := by
    rw [Int32.le_iff_toInt_le] at b1 b2
    have z : (0 : Int32).toInt = 0 := by decide
    exact ⟨by omega, by have := E.2.2; omega⟩
  simp only [if_neg one0, st_n hi20 (show 20 < 2 ^ 31 by decide), q_gt, q_lt, q_jn, q_pt, q_bo, q_bi]
  refine ⟨_, _, _, rfl, rfl, ⟨n, hn, ?_, ?_, fun j hj => ?_⟩, by (repeat' first | exact only.refl | exact Or.inl rfl | exact Or.inr rfl | exact Or.inl (hAr _) | exact Or.inl (Ar_7699 (by omega)) | exact fun _ => Or.inl (hAr _) | refine only.trans ?_ (only.sI ?_) | refine only.trans ?_ (only.sJ ?_) | refine only.trans ?_ (only.sN ?_) | refine only.trans ?_ only.sR | refine only.trans ?_ (only.sFr ?_)), by (repeat' first | exact only.refl | exact Or.inl rfl | exact Or.inr rfl | exact Or.inl (hAr _) | exact Or.inl (Ar_7699 (by omega)) | exact fun _ => Or.inl (hAr _) | refine only.trans ?_ (only.sI ?_) | refine only.trans ?_ (only.sJ ?_) | refine only.trans ?_ (only.sN ?_) | refine only.trans ?_ only.sR | refine only.trans ?_ (only.sFr ?_)), by (repeat' first | exact cm.refl | exact Or.inl (by decide) | exact Or.inr (by omega) | refine cm.trans ?_ (cm.sI ?_) | refine cm.trans ?_ cm.sJ | refine cm.trans ?_ (cm.sN ?_) | refine cm.trans ?_ cm.sR | refine cm.trans ?_ (cm.sFr ?_)), by (repeat' first | exact mm.refl | decide | refine mm.trans ?_ (mm.sI ?_ ?_)), fun _ => rfl, fun _ => rfl⟩
  · (repeat first | rw [wS_sI, if_pos ⟨rfl, rfl⟩] | rw [wS_sI, if_neg (by omega)] | rw [wS_sN, if_neg (by omega)] | rw [wS_sR] | rw [wS_sN, if_pos rfl] | rw [wS_sFr, if_neg (by omega)] | rw [wS_sFr, if_pos (by omega)])
    exact e1
  · (repeat first | rw [wS_sI, if_pos ⟨rfl, rfl⟩] | rw [wS_sI, if_neg (by omega)] | rw [wS_sN, if_neg (by omega)] | rw [wS_sR] | rw [wS_sN, if_pos rfl] | rw [wS_sFr, if_neg (by omega)] | rw [wS_sFr, if_pos (by omega)])
    exact e2
  · by_cases hji : j = i
    · subst hji
      obtain ⟨a1, a2, a3, a4, a5, a6⟩ := hh j hj
      refine ⟨?_, ⟨?_, ?_, ?_, ?_⟩, ⟨?_, ?_, ?_, ?_, ?_, ?_⟩, ⟨?_, ?_⟩, ⟨?_, ?_⟩, ?_, ?_⟩
      all_goals (repeat first | rw [wS_sI, if_pos ⟨rfl, rfl⟩] | rw [wS_sI, if_neg (by omega)] | rw [wS_sN, if_neg (by omega)] | rw [wS_sR] | rw [wS_sN, if_pos rfl] | rw [wS_sFr, if_neg (by omega)] | rw [wS_sFr, if_pos (by omega)])
      · exact a1
      · exact a2.1
      · exact a2.2.1
      · exact a2.2.2.1
      · exact a2.2.2.2
      · exact a3.1
      · exact a3.2.1
      · exact a3.2.2.1
      · exact a3.2.2.2.1
      · exact a3.2.2.2.2.1
      · exact a3.2.2.2.2.2
      · exact a4.1
      · exact a4.2
      · exact a5.1
      · exact a5.2
      · exact B
    · refine (hh j hj).fr2 ?_ ?_ ?_ ?_ (fun k => ?_) (fun d hd => ?_) ?_ ?_ ?_
      all_goals (repeat first | rw [wS_sI, if_pos ⟨rfl, rfl⟩] | rw [wS_sI, if_neg (by omega)] | rw [wS_sN, if_neg (by omega)] | rw [wS_sR] | rw [wS_sN, if_pos rfl] | rw [wS_sFr, if_neg (by omega)] | rw [wS_sFr, if_pos (by omega)])
theorem c_down {w v : Wd} (h : R3 w v) (a b : Int32) (hb : b = 0 ∨ b = 1) : OK 3 R3 (f_X8_lower w a b) (f_X12_down v a b) w v := by
  obtain ⟨n, hn, e1, e2, hh, g⟩ := id h
  unfold f_X8_lower f_X12_down
  rw [in_eq]
  simp only [q_gt, e1, e2]
  rcases win_n a (n := n) (by omega) with q | ⟨q, i, hi, rfl⟩
  · rw [q]; exact OK.same h
  rw [q]
  have hi10 : i < 10 := by omega
  simp only [if_neg one0, ld_n hi10 (show 10 < 2 ^ 31 by decide), sz_n hi10 (show 10 < 2 ^ 31 by decide), q_jn, nar01 hb, ← (g i hi10).1]
  have key : R3 (sI w 17 i b) (sI v 71 i b) := by
    refine ⟨n, hn, ?_, ?_, fun j hj => ?_, fun j hj => ?_⟩
    · (repeat first | rw [wS_sI, if_pos ⟨rfl, rfl⟩] | rw [wS_sI, if_neg (by omega)] | rw [wS_sN, if_neg (by omega)] | rw [wS_sR] | rw [wS_sN, if_pos rfl] | rw [wS_sFr, if_neg (by omega)] | rw [wS_sFr, if_pos (by omega)])
      exact e1
    · (repeat first | rw [wS_sI, if_pos ⟨rfl, rfl⟩] | rw [wS_sI, if_neg (by omega)] | rw [wS_sN, if_neg (by omega)] | rw [wS_sR] | rw [wS_sN, if_pos rfl] | rw [wS_sFr, if_neg (by omega)] | rw [wS_sFr, if_pos (by omega)])
      exact e2
    · refine (hh j hj).fr2 ?_ ?_ (fun k => ?_) (fun d hd => ?_) ?_
      all_goals (repeat first | rw [wS_sI, if_pos ⟨rfl, rfl⟩] | rw [wS_sI, if_neg (by omega)] | rw [wS_sN, if_neg (by omega)] | rw [wS_sR] | rw [wS_sN, if_pos rfl] | rw [wS_sFr, if_neg (by omega)] | rw [wS_sFr, if_pos (by omega)])
    · by_cases hji : j = i
      · subst hji
        refine ⟨?_, ?_⟩
        all_goals (repeat first | rw [wS_sI, if_pos ⟨rfl, rfl⟩] | rw [wS_sI, if_neg (by omega)] | rw [wS_sN, if_neg (by omega)] | rw [wS_sR] | rw [wS_sN, if_pos rfl] | rw [wS_sFr, if_neg (by omega)] | rw [wS_sFr, if_pos (by omega)])
        exact hb
      · refine ⟨?_, ?_⟩
        all_goals (repeat first | rw [wS_sI, if_pos ⟨rfl, rfl⟩] | rw [wS_sI, if_neg (by omega)] | rw [wS_sN, if_neg (by omega)] | rw [wS_sR] | rw [wS_sN, if_pos rfl] | rw [wS_sFr, if_neg (by omega)] | rw [wS_sFr, if_pos (by omega)])
        · exact (g j hj).1
        · exact (g j hj).2
  by_cases hwb : wS w 17 i = b
  · rw [if_pos hwb, if_pos hwb]
    exact ⟨_, _, _, rfl, rfl, key, by (repeat' first | exact only.refl | exact Or.inl rfl | exact Or.inr rfl | exact Or.inl (hAr _) | exact Or.inl (Ar_7699 (by omega)) | exact fun _ => Or.inl (hAr _) | refine only.trans ?_ (only.sI ?_) | refine only.trans ?_ (only.sJ ?_) | refine only.trans ?_ (only.sN ?_) | refine only.trans ?_ only.sR | refine only.trans ?_ (only.sFr ?_)), by (repeat' first | exact only.refl | exact Or.inl rfl | exact Or.inr rfl | exact Or.inl (hAr _) | exact Or.inl (Ar_7699 (by omega)) | exact fun _ => Or.inl (hAr _) | refine only.trans ?_ (only.sI ?_) | refine only.trans ?_ (only.sJ ?_) | refine only.trans ?_ (only.sN ?_) | refine only.trans ?_ only.sR | refine only.trans ?_ (only.sFr ?_)), by (repeat' first | exact cm.refl | exact Or.inl (by decide) | exact Or.inr (by omega) | refine cm.trans ?_ (cm.sI ?_) | refine cm.trans ?_ cm.sJ | refine cm.trans ?_ (cm.sN ?_) | refine cm.trans ?_ cm.sR | refine cm.trans ?_ (cm.sFr ?_)), by (repeat' first | exact mm.refl | decide | refine mm.trans ?_ (mm.sI ?_ ?_)), fun _ => rfl, fun _ => rfl⟩
  · rw [if_neg hwb, if_neg hwb, if_pos trivial]
    exact ⟨_, _, _, rfl, rfl, key, by (repeat' first | exact only.refl | exact Or.inl rfl | exact Or.inr rfl | exact Or.inl (hAr _) | exact Or.inl (Ar_7699 (by omega)) | exact fun _ => Or.inl (hAr _) | refine only.trans ?_ (only.sI ?_) | refine only.trans ?_ (only.sJ ?_) | refine only.trans ?_ (only.sN ?_) | refine only.trans ?_ only.sR | refine only.trans ?_ (only.sFr ?_)), by (repeat' first | exact only.refl | exact Or.inl rfl | exact Or.inr rfl | exact Or.inl (hAr _) | exact Or.inl (Ar_7699 (by omega)) | exact fun _ => Or.inl (hAr _) | refine only.trans ?_ (only.sI ?_) | refine only.trans ?_ (only.sJ ?_) | refine only.trans ?_ (only.sN ?_) | refine only.trans ?_ only.sR | refine only.trans ?_ (only.sFr ?_)), by (repeat' first | exact cm.refl | exact Or.inl (by decide) | exact Or.inr (by omega) | refine cm.trans ?_ (cm.sI ?_) | refine cm.trans ?_ cm.sJ | refine cm.trans ?_ (cm.sN ?_) | refine cm.trans ?_ cm.sR | refine cm.trans ?_ (cm.sFr ?_)), by (repeat' first | exact mm.refl | decide | refine mm.trans ?_ (mm.sI ?_ ?_)), fun _ => rfl, fun _ => rfl⟩
/-- all slopes wet or dry: class and reference in step -/
theorem l_rain {b : Int32} (hb : b = 0 ∨ b = 1) {n : Nat} (hn : n ≤ 10) : ∀ (m i : Nat) (f : Nat) (x : Int32) (w v : Wd), i + m = n → m < f → wS w 2 15 = nI n → wS v 63 11 = nI n → R4 w v → OK 4 R4 (l_X8_wetAll_4 b f w (nI i) x) (l_X12_rain_4 b f v (nI i) x) w v
  | 0, i, f + 1, x, w, v, hi, _, e1, e2, h => by
    unfold l_X8_wetAll_4 l_X12_rain_4
    simp only [q_gt, e1, e2, if_pos (nI_le (show n ≤ i by omega) (by omega))]
    exact OK.same h
  | m + 1, i, f + 1, x, w, v, hi, hf, e1, e2, h => by
    obtain ⟨n', hn', d1, d2, hh, g⟩ := id h
    obtain rfl : n' = n := (nI_eq (by omega) (by omega)).mp (d1.symm.trans e1)
    have hi10 : i < 10 := by omega
    unfold l_X8_wetAll_4 l_X12_rain_4
    simp only [q_gt, q_lt, q_jn, q_pt, q_bo, q_bi, e1, e2, if_neg (nI_ge (show i < n' by omega) (by omega)), ld_n hi10 (show 10 < 2 ^ 31 by decide), sz_n hi10 (show 10 < 2 ^ 31 by decide), ← (g i hi10).1, nar01 hb, nI_1]
    have key : ∀ w', wS w' 2 15 = nI n' → (∀ k j, k ≠ 21 → wS w' k j = wS w k j) → (∀ j, wS w' 21 j = if j = i then b else wS w 21 j) → R4 w' (sI v 75 i b) := by
      intro w' a1 a2 a3
      refine ⟨n', hn, a1, by (repeat first | rw [wS_sI, if_pos ⟨rfl, rfl⟩] | rw [wS_sI, if_neg (by omega)] | rw [wS_sN, if_neg (by omega)] | rw [wS_sR] | rw [wS_sN, if_pos rfl] | rw [wS_sFr, if_neg (by omega)] | rw [wS_sFr, if_pos (by omega)]); exact e2, fun j hj => ?_, fun j hj => ?_⟩
      · refine (hh j hj).fr2 (a2 _ _ (by decide)) (a2 _ _ (by decide)) (a2 _ _ (by decide)) (fun k => a2 _ _ (by omega)) (fun d hd => ?_) ?_ ?_
        all_goals (repeat first | rw [wS_sI, if_pos ⟨rfl, rfl⟩] | rw [wS_sI, if_neg (by omega)] | rw [wS_sN, if_neg (by omega)] | rw [wS_sR] | rw [wS_sN, if_pos rfl] | rw [wS_sFr, if_neg (by omega)] | rw [wS_sFr, if_pos (by omega)])
      · rw [a3, wS_sI]
        by_cases hji : j = i
        · rw [if_pos hji, if_pos ⟨rfl, hji⟩]; exact ⟨rfl, hb⟩
        · rw [if_neg hji, if_neg (fun z => hji z.2)]; exact g j hj
    by_cases hwb : wS w 21 i = b
    · rw [if_pos hwb, if_pos hwb]
      have hx : x + 0 = x := by grind
      rw [hx]
      obtain ⟨r, w1, v1, q1, q2, q3, q4, q5, q6, q7, q8, q9⟩ := l_rain hb hn m (i + 1) f x w (sI v 75 i b) (by omega) (by omega) e1 (by (repeat first | rw [wS_sI, if_pos ⟨rfl, rfl⟩] | rw [wS_sI, if_neg (by omega)] | rw [wS_sN, if_neg (by omega)] | rw [wS_sR] | rw [wS_sN, if_pos rfl] | rw [wS_sFr, if_neg (by omega)] | rw [wS_sFr, if_pos (by omega)]); exact e2) (key w e1 (fun _ _ _ => rfl) (fun j => by
        by_cases hji : j = i
        · rw [if_pos hji, hji, hwb]
        · rw [if_neg hji]))
      exact ⟨r, w1, v1, q1, q2, q3, q4, only.trans (by (repeat' first | exact only.refl | exact Or.inl rfl | exact Or.inr rfl | exact Or.inl (hAr _) | exact Or.inl (Ar_7699 (by omega)) | exact fun _ => Or.inl (hAr _) | refine only.trans ?_ (only.sI ?_) | refine only.trans ?_ (only.sJ ?_) | refine only.trans ?_ (only.sN ?_) | refine only.trans ?_ only.sR | refine only.trans ?_ (only.sFr ?_))) q5, q6, mm.trans (by (repeat' first | exact mm.refl | decide | refine mm.trans ?_ (mm.sI ?_ ?_))) q7, q8, fun k => q9 k⟩
    · rw [if_neg hwb, if_neg hwb]
      obtain ⟨r, w1, v1, q1, q2, q3, q4, q5, q6, q7, q8, q9⟩ := l_rain hb hn m (i + 1) f (x + 1) (sI w 21 i b) (sI v 75 i b) (by omega) (by omega) (by (repeat first | rw [wS_sI, if_pos ⟨rfl, rfl⟩] | rw [wS_sI, if_neg (by omega)] | rw [wS_sN, if_neg (by omega)] | rw [wS_sR] | rw [wS_sN, if_pos rfl] | rw [wS_sFr, if_neg (by omega)] | rw [wS_sFr, if_pos (by omega)]); exact e1) (by (repeat first | rw [wS_sI, if_pos ⟨rfl, rfl⟩] | rw [wS_sI, if_neg (by omega)] | rw [wS_sN, if_neg (by omega)] | rw [wS_sR] | rw [wS_sN, if_pos rfl] | rw [wS_sFr, if_neg (by omega)] | rw [wS_sFr, if_pos (by omega)]); exact e2) (key _ (by (repeat first | rw [wS_sI, if_pos ⟨rfl, rfl⟩] | rw [wS_sI, if_neg (by omega)] | rw [wS_sN, if_neg (by omega)] | rw [wS_sR] | rw [wS_sN, if_pos rfl] | rw [wS_sFr, if_neg (by omega)] | rw [wS_sFr, if_pos (by omega)]); exact e1) (fun k j hk => by rw [wS_sI, if_neg (fun z => hk z.1)]) (fun j => by
        rw [wS_sI]
        by_cases hji : j = i
        · rw [if_pos hji, if_pos ⟨rfl, hji⟩]
        · rw [if_neg hji, if_neg (fun z => hji z.2)]))
      exact ⟨r, w1, v1, q1, q2, q3, only.trans (by (repeat' first | exact only.refl | exact Or.inl rfl | exact Or.inr rfl | exact Or.inl (hAr _) | exact Or.inl (Ar_7699 (by omega)) | exact fun _ => Or.inl (hAr _) | refine only.trans ?_ (only.sI ?_) | refine only.trans ?_ (only.sJ ?_) | refine only.trans ?_ (only.sN ?_) | refine only.trans ?_ only.sR | refine only.trans ?_ (only.sFr ?_))) q4, only.trans (by (repeat' first | exact only.refl | exact Or.inl rfl | exact Or.inr rfl | exact Or.inl (hAr _) | exact Or.inl (Ar_7699 (by omega)) | exact fun _ => Or.inl (hAr _) | refine only.trans ?_ (only.sI ?_) | refine only.trans ?_ (only.sJ ?_) | refine only.trans ?_ (only.sN ?_) | refine only.trans ?_ only.sR | refine only.trans ?_ (only.sFr ?_))) q5, cm.trans (by (repeat' first | exact cm.refl | exact Or.inl (by decide) | exact Or.inr (by omega) | refine cm.trans ?_ (cm.sI ?_) | refine cm.trans ?_ cm.sJ | refine cm.trans ?_ (cm.sN ?_) | refine cm.trans ?_ cm.sR | refine cm.trans ?_ (cm.sFr ?_))) q6, mm.trans (by (repeat' first | exact mm.refl | decide | refine mm.trans ?_ (mm.sI ?_ ?_))) q7, fun k => q8 k, fun k => q9 k⟩
theorem c_rain {w v : Wd} (h : R4 w v) (b : Int32) (hb : b = 0 ∨ b = 1) : OK 4 R4 (f_X8_wetAll w b) (f_X12_rain v b) w v := by
  obtain ⟨n, hn, e1, e2, -⟩ := id h
  exact l_rain hb hn n 0 FU 0 w v (by omega) (by unfold FU; omega) e1 e2 h
/-- which slope: NONE or the same number -/
theorem holds_eq {w v : Wd} {k m b : Nat} (h : bxR w k v m b) (x y : Int32) : f_X0_holds w k x y = if f_X11_within x (65 * wS v m b) (65 * wS v m (b + 2)) = 0 then 0 else if f_X11_within y (65 * wS v m (b + 1)) (65 * wS v m (b + 3)) = 0 then 0 else 1 := by
  unfold f_X0_holds
  rw [h.1, h.2.1, h.2.2.1, h.2.2.2]
theorem l_slopeAt {x y : Int32} {w v : Wd} {n : Nat} (hn : n ≤ 10) (e1 : wS w 2 15 = nI n) (e2 : wS v 63 11 = nI n) (hh : ∀ i, i < n → R4i w v i) : ∀ (m i f : Nat), i + m = n → m < f → ∃ r, l_X8_slopeAt_2 x y w f (nI i) = some r ∧ l_X12_slopeAt_2 x y v f (nI i) = some r ∧ (r = -1 ∨ ∃ j, j < n ∧ r = nI j)
  | 0, i, f + 1, hi, _ => by
    unfold l_X8_slopeAt_2 l_X12_slopeAt_2
    simp only [q_gt, e1, e2, if_pos (nI_le (show n ≤ i by omega) (by omega))]
    exact ⟨-1, rfl, rfl, Or.inl rfl⟩
  | m + 1, i, f + 1, hi, hf => by
    obtain ⟨r, h1, h2, h3⟩ := l_slopeAt hn e1 e2 hh m (i + 1) f (by omega) (by omega)
    have hi10 : i < 10 := by omega
    have H := hh i (by omega)
    unfold l_X8_slopeAt_2 l_X12_slopeAt_2
    simp only [q_gt, q_lt, q_jn, q_pt, q_bo, q_bi, e1, e2, if_neg (nI_ge (show i < n by omega) (by omega)), ldq_n hi10 (show 10 < 2 ^ 31 by decide) H.1, rt_18, holds_eq H.2.1, nI_mul4, nI_p2, nI_p3, nI_1, in_eq,
      ld_n (show 4 * i < 40 by omega) (show 40 < 2 ^ 31 by decide), ld_n (show 4 * i + 1 < 40 by omega) (show 40 < 2 ^ 31 by decide), ld_n (show 4 * i + 2 < 40 by omega) (show 40 < 2 ^ 31 by decide), ld_n (show 4 * i + 3 < 40 by omega) (show 40 < 2 ^ 31 by decide)]
    rcases win_c x (65 * wS v 72 (4 * i)) (65 * wS v 72 (4 * i + 2)) with q | ⟨q, -, -⟩
    · simp only [q, if_true]
      exact ⟨r, h1, h2, h3⟩
    · rcases win_c y (65 * wS v 72 (4 * i + 1)) (65 * wS v 72 (4 * i + 3)) with p | ⟨p, -, -⟩
      · simp only [p, q, if_true, if_neg one0]
        exact ⟨r, h1, h2, h3⟩
      · simp only [p, q, if_neg one0]
        exact ⟨nI i, rfl, rfl, Or.inr ⟨i, by omega, rfl⟩⟩
theorem c_slopeAt {w v : Wd} (h : R4 w v) (x y : Int32) : ∃ r, f_X8_slopeAt w x y = some r ∧ f_X12_slopeAt v x y = some r ∧ (r = -1 ∨ ∃ j, nI j < wS w 2 15 ∧ j < 10 ∧ r = nI j) := by
  obtain ⟨n, hn, e1, e2, hh, -⟩ := h
  obtain ⟨r, h1, h2, h3⟩ := l_slopeAt (x := x) (y := y) hn e1 e2 hh n 0 FU (by omega) (by unfold FU; omega)
  refine ⟨r, h1, h2, ?_⟩
  rcases h3 with h | ⟨j, hj, rfl⟩
  · exact Or.inl h
  · exact Or.inr ⟨j, by rw [e1]; exact nI_lt hj (by omega), by omega, rfl⟩
