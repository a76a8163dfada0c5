/-! ===== houses ===== -/
def R1i (w v : Wd) (i : Nat) : Prop := wS w 10 i ≠ 0 ∧ bxR w (300 + i) v 64 (4 * i) ∧ bxO w (300 + i) ∧ (wS w 11 i = wS v 65 i ∧ bt 1 99 (wS w 11 i)) ∧ (wS w 12 i = wS v 66 i ∧ bt 1 99 (wS w 12 i)) ∧ wS w 13 i = wS v 67 i ∧ bt 0 9 (wS w 13 i)
def R1 (w v : Wd) : Prop := ∃ n, n ≤ 20 ∧ wS w 2 4 = nI n ∧ wS v 63 0 = nI n ∧ ∀ i, i < n → R1i w v i
theorem R1i.fr {w v w' v' : Wd} {i : Nat} (hi : i < 20) (h : R1i w v i) (hw : ∀ k j, Ar k j = 1 → wS w' k j = wS w k j) (hv : ∀ k j, Ar k j = 1 → wS v' k j = wS v k j) : R1i w' v' i := by
  unfold R1i bxR bxO at h ⊢
  simp only [hw 10 i rfl, hw 11 i rfl, hw 12 i rfl, hw 13 i rfl, hw (300 + i) _ (Ar_house hi), hv 64 _ rfl, hv 65 i rfl, hv 66 i rfl, hv 67 i rfl]
  exact h
theorem R1i.fr2 {w v w' v' : Wd} {i : Nat} (h : R1i w v i) (h10 : wS w' 10 i = wS w 10 i) (h11 : wS w' 11 i = wS w 11 i) (h12 : wS w' 12 i = wS w 12 i) (h13 : wS w' 13 i = wS w 13 i) (hb : ∀ j, wS w' (300 + i) j = wS w (300 + i) j) (m : ∀ d, d < 4 → wS v' 64 (4 * i + d) = wS v 64 (4 * i + d)) (m65 : wS v' 65 i = wS v 65 i) (m66 : wS v' 66 i = wS v 66 i) (m67 : wS v' 67 i = wS v 67 i) : R1i w' v' i := by
  unfold R1i bxR bxO at h ⊢
  have m0 := m 0 (by decide)
  have m1 := m 1 (by decide)
  have m2 := m 2 (by decide)
  have m3 := m 3 (by decide)
  simp only [Nat.add_zero] at m0
  simp only [h10, h11, h12, h13, hb, m0, m1, m2, m3, m65, m66, m67]
  exact h
theorem R1.fr {w v w' v' : Wd} (h : R1 w v) (hw : sm 1 w w') (hv : sm 1 v v') : R1 w' v' := by
  obtain ⟨n, hn, e1, e2, hh⟩ := h
  exact ⟨n, hn, ((hw 2 4 rfl).1).trans e1, ((hv 63 0 rfl).1).trans e2, fun i hi => (hh i hi).fr (by omega) (fun k j a => (hw k j a).1) (fun k j a => (hv k j a).1)⟩
/-- a house comes -/
theorem rt_10 {i : Nat} : rt 10 i = 300 + i := by unfold rt; rfl
theorem kt_300 {i : Nat} (h : i < 20) : kt (300 + i) = (10, 0) := by
  unfold kt; rw [if_neg (by omega), if_pos (by omega), if_pos (by omega)]
theorem c_addHouse {w v : Wd} (h : R1 w v) (hA : ∀ i, i < 20 → (wS w 2 4).toNatClampNeg ≤ i → wA w (300 + i) = 0) (a b c d e f g : Int32) :
    ∃ r w1 v1, f_X8_addHouse w a b c d e f g = some (r, w1) ∧ f_X12_house v a b c d e f g = some (r, v1) ∧ R1 w1 v1 ∧ only 1 w w1 ∧ only 1 v v1 ∧ cm w w1 ∧ mm v v1 ∧ am v v1 ∧
      (∀ k, (k < 300 ∨ 320 ≤ k) → wA w1 k = wA w k) ∧ ∀ i, i < 20 → (wS w1 2 4).toNatClampNeg ≤ i → wA w1 (300 + i) = 0 := by
  obtain ⟨n, hn, e1, e2, hh⟩ := id h
  unfold f_X8_addHouse f_X12_house
  rw [in_eq, isBox_eq]
  rcases isBox_c a b c d with q | ⟨q, ha, hb, hc, hd, hac, hbd⟩
  · rw [q]; exact ⟨_, _, _, rfl, rfl, h, only.refl, only.refl, cm.refl, mm.refl, am.refl, fun _ _ => rfl, hA⟩
  rw [q]
  rcases win_c e 1 99 with q | ⟨q, he1, he2⟩
  · rw [q]; exact ⟨_, _, _, rfl, rfl, h, only.refl, only.refl, cm.refl, mm.refl, am.refl, fun _ _ => rfl, hA⟩
  rw [q]
  rcases win_c f 1 99 with q | ⟨q, hf1, hf2⟩
  · rw [q]; exact ⟨_, _, _, rfl, rfl, h, only.refl, only.refl, cm.refl, mm.refl, am.refl, fun _ _ => rfl, hA⟩
  rw [q]
  rcases win_c g 0 9 with q | ⟨q, hg1, hg2⟩
  · rw [q]; exact ⟨_, _, _, rfl, rfl, h, only.refl, only.refl, cm.refl, mm.refl, am.refl, fun _ _ => rfl, hA⟩
  rw [q]
  simp only [q_gt, e1, e2]
  by_cases hf : n = 20
  · subst hf
    exact ⟨-4, w, v, rfl, rfl, h, only.refl, only.refl, cm.refl, mm.refl, am.refl, fun _ _ => rfl, hA⟩
  have hlt : n < 20 := by omega
  have x1 : nI n < (20 : Int32) := nI_lt (b := 20) hlt (by decide)
  have x2 : ¬ nI n = (20 : Int32) := fun z => hf ((nI_eq (b := 20) (by omega) (by decide)).mp z)
  have hA0 : wA w (300 + n) = 0 := hA n hlt (by rw [e1, nI_clamp (by omega)]; exact Nat.le_refl n)
  have hk := kt_300 hlt
  have t2 : ¬ (2 = 300 + n) := by omega
  have t10 : ¬ (10 = 300 + n) := by omega
  have t11 : ¬ (11 = 300 + n) := by omega
  have t12 : ¬ (12 = 300 + n) := by omega
  have t13 : ¬ (13 = 300 + n) := by omega
  have b0 : 4 * n < 80 := by omega
  have b1 : 4 * n + 1 < 80 := by omega
  have b2 : 4 * n + 2 < 80 := by omega
  have b3 : 4 * n + 3 < 80 := by omega
  refine ⟨nI n, ?_⟩
  simp only [if_neg (show ¬ ((1 : Int32) = 0) by decide), if_pos x1, if_neg x2, nI_clamp (show n < 2 ^ 31 by omega), rt_10, nw_k hA0 hk, f_X0_init, f_X12_box, q_gt, q_lt, q_jn, q_pt, q_bo, q_bi, wS_sI, wS_sN, e1, e2, t2, t10, t11, t12, t13, if_false, if_true, false_and, and_false, true_and, and_true, and_self, reduceIte, Nat.reduceEqDiff, ne_eq, not_false_eq_true, not_true_eq_false,
    st_n hlt (show 20 < 2 ^ 31 by decide), nI_mul4, nI_1, nI_pred, nI_p2, nI_p3, st_n b0 (show 80 < 2 ^ 31 by decide), st_n b1 (show 80 < 2 ^ 31 by decide), st_n b2 (show 80 < 2 ^ 31 by decide), st_n b3 (show 80 < 2 ^ 31 by decide)]
  have hAr : ∀ j, Ar (300 + n) j = 1 := fun j => Ar_house hlt
  have be : bt 1 99 e := bt_of he1 he2 (by decide) (by decide)
  have bf : bt 1 99 f := bt_of hf1 hf2 (by decide) (by decide)
  have bg : bt 0 9 g := bt_of hg1 hg2 (by decide) (by decide)
  refine ⟨_, _, rfl, rfl, ⟨n + 1, by omega, ?_, ?_, fun i hi => ?_⟩, by (repeat' first | exact only.refl | exact Or.inl rfl | exact Or.inr rfl | exact Or.inl (hAr _) | exact Or.inl (Ar_7699 (by omega)) | exact fun _ => Or.inl (hAr _) | refine only.trans ?_ (only.sI ?_) | refine only.trans ?_ (only.sJ ?_) | refine only.trans ?_ (only.sN ?_) | refine only.trans ?_ only.sR | refine only.trans ?_ (only.sFr ?_)), by (repeat' first | exact only.refl | exact Or.inl rfl | exact Or.inr rfl | exact Or.inl (hAr _) | exact Or.inl (Ar_7699 (by omega)) | exact fun _ => Or.inl (hAr _) | refine only.trans ?_ (only.sI ?_) | refine only.trans ?_ (only.sJ ?_) | refine only.trans ?_ (only.sN ?_) | refine only.trans ?_ only.sR | refine only.trans ?_ (only.sFr ?_)), by (repeat' first | exact cm.refl | exact Or.inl (by decide) | exact Or.inr (by omega) | refine cm.trans ?_ (cm.sI ?_) | refine cm.trans ?_ cm.sJ | refine cm.trans ?_ (cm.sN ?_) | refine cm.trans ?_ cm.sR | refine cm.trans ?_ (cm.sFr ?_)), by (repeat' first | exact mm.refl | decide | refine mm.trans ?_ (mm.sI ?_ ?_)), fun _ => rfl, fun k hk => ?_, fun i hi hi2 => ?_⟩
  · (repeat first | rw [wS_sI, if_pos ⟨rfl, rfl⟩] | rw [wS_sI, if_neg (by omega)] | rw [wS_sN, if_neg (by omega)] | rw [wS_sR] | rw [wS_sN, if_pos rfl] | rw [wS_sFr, if_neg (by omega)] | rw [wS_sFr, if_pos (by omega)])
  · (repeat first | rw [wS_sI, if_pos ⟨rfl, rfl⟩] | rw [wS_sI, if_neg (by omega)] | rw [wS_sN, if_neg (by omega)] | rw [wS_sR] | rw [wS_sN, if_pos rfl] | rw [wS_sFr, if_neg (by omega)] | rw [wS_sFr, if_pos (by omega)])
  · by_cases hin : i = n
    · subst hin
      refine ⟨?_, ⟨?_, ?_, ?_, ?_⟩, ⟨?_, ?_, ?_, ?_, ?_, ?_⟩, ⟨?_, ?_⟩, ⟨?_, ?_⟩, ?_, ?_⟩
      all_goals (repeat first | rw [wS_sI, if_pos ⟨rfl, rfl⟩] | rw [wS_sI, if_neg (by omega)] | rw [wS_sN, if_neg (by omega)] | rw [wS_sR] | rw [wS_sN, if_pos rfl] | rw [wS_sFr, if_neg (by omega)] | rw [wS_sFr, if_pos (by omega)])
      all_goals first | assumption | decide
    · refine (hh i (by omega)).fr2 ?_ ?_ ?_ ?_ (fun j => ?_) (fun d hd => ?_) ?_ ?_ ?_
      all_goals (repeat first | rw [wS_sI, if_pos ⟨rfl, rfl⟩] | rw [wS_sI, if_neg (by omega)] | rw [wS_sN, if_neg (by omega)] | rw [wS_sR] | rw [wS_sN, if_pos rfl] | rw [wS_sFr, if_neg (by omega)] | rw [wS_sFr, if_pos (by omega)])
  · simp only [wA_sI]
    rw [wA_sN, if_neg (by omega)]
  · have e9 : (wS (sI w 2 4 (nI (n + 1))) 2 4).toNatClampNeg = n + 1 := by rw [wS_sI, if_pos ⟨rfl, rfl⟩, nI_clamp (by omega)]
    have hi3 : n + 1 ≤ i := by
      rw [wS_sI, if_pos ⟨rfl, rfl⟩, nI_clamp (by omega)] at hi2
      exact hi2
    simp only [wA_sI]
    rw [wA_sN, if_neg (by omega)]
    exact hA i hi (by rw [e1, nI_clamp (by omega)]; omega)
