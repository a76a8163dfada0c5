theorem nar01 {x : Int32} (h : x = 0 ∨ x = 1) : vp_nar .boolean x = x := by
  rcases h with rfl | rfl <;> decide
theorem zb_c (x : Int32) : zb x = 0 ∨ zb x = 1 := by
  unfold zb
  by_cases h : x = 0
  · rw [if_pos h]; exact Or.inl rfl
  · rw [if_neg h]; exact Or.inr rfl
/-! ===== kerbs ===== -/
def R2i (w v : Wd) (i : Nat) : Prop := wS w 14 i ≠ 0 ∧ bxR w (330 + i) v 68 (4 * i) ∧ bxO w (330 + i)
def R2 (w v : Wd) : Prop := ∃ n, n ≤ 10 ∧ wS w 2 6 = nI n ∧ wS v 63 5 = nI n ∧ (∀ i, i < n → R2i w v i)
theorem R2i.fr2 {w v w' v' : Wd} {i : Nat} (h : R2i w v i) (h14 : wS w' 14 i = wS w 14 i) (hb : ∀ j, wS w' (330 + i) j = wS w (330 + i) j) (m : ∀ d, d < 4 → wS v' 68 (4 * i + d) = wS v 68 (4 * i + d))  : R2i w' v' i := by
  unfold R2i bxR bxO at h ⊢
  have m0 := m 0 (by decide)
  have m1 := m 1 (by decide)
  have m2 := m 2 (by decide)
  have m3 := m 3 (by decide)
  simp only [Nat.add_zero] at m0
  simp only [h14, hb, m0, m1, m2, m3]
  exact h
theorem R2.fr {w v w' v' : Wd} (h : R2 w v) (hw : sm 2 w w') (hv : sm 2 v v') : R2 w' v' := by
  obtain ⟨n, hn, e1, e2, hh⟩ := h
  refine ⟨n, hn, ((hw 2 6 rfl).1).trans e1, ((hv 63 5 rfl).1).trans e2, fun i hi => (hh i hi).fr2 (hw 14 i rfl).1 (fun j => (hw _ j (Ar_kerb (by omega))).1) (fun d _ => (hv 68 _ rfl).1) ⟩
theorem rt_14 {i : Nat} : rt 14 i = 330 + i := by unfold rt; rfl
theorem kt_330 {i : Nat} (h : i < 10) : kt (330 + i) = (10, 0) := by
  unfold kt; rw [if_neg (by omega), if_pos (by omega), if_pos (by omega)]
theorem c__addKerb {w v : Wd} (h : R2 w v) (hA : ∀ i, i < 10 → (wS w 2 6).toNatClampNeg ≤ i → wA w (330 + i) = 0) (a b c d : Int32)  :
    ∃ r w1 v1, f_X8_addKerb w a b c d = some (r, w1) ∧ f_X12_kerb v a b c d = some (r, v1) ∧ R2 w1 v1 ∧ only 2 w w1 ∧ only 2 v v1 ∧ cm w w1 ∧ mm v v1 ∧ am v v1 ∧
      (∀ k, (k < 330 ∨ 340 ≤ k) → wA w1 k = wA w k) ∧ ∀ i, i < 10 → (wS w1 2 6).toNatClampNeg ≤ i → wA w1 (330 + i) = 0 := by
  obtain ⟨n, hn, e1, e2, hh⟩ := id h
  unfold f_X8_addKerb f_X12_kerb
  rw [isBox_eq]
  rcases isBox_c a b c d with q | ⟨q, ha, hb, hc, hd, hac, hbd⟩
  · rw [q]; exact ⟨_, _, _, rfl, rfl, h, only.refl, only.refl, cm.refl, mm.refl, am.refl, fun _ _ => rfl, hA⟩
  rw [q]
  simp only [q_gt, e1, e2]
  by_cases hf : n = 10
  · subst hf
    exact ⟨-4, w, v, rfl, rfl, h, only.refl, only.refl, cm.refl, mm.refl, am.refl, fun _ _ => rfl, hA⟩
  have hlt : n < 10 := by omega
  have x1 : nI n < (10 : Int32) := nI_lt (b := 10) hlt (by decide)
  have x2 : ¬ nI n = (10 : Int32) := fun z => hf ((nI_eq (b := 10) (by omega) (by decide)).mp z)
  have hA0 : wA w (330 + n) = 0 := hA n hlt (by rw [e1, nI_clamp (by omega)]; exact Nat.le_refl n)
  have hk := kt_330 hlt
  have t2 : ¬ (2 = 330 + n) := by omega
  have t14 : ¬ (14 = 330 + n) := by omega
  have b0 : 4 * n < 40 := by omega
  have b1 : 4 * n + 1 < 40 := by omega
  have b2 : 4 * n + 2 < 40 := by omega
  have b3 : 4 * n + 3 < 40 := by omega
  refine ⟨nI n, ?_⟩
  simp only [if_neg (show ¬ ((1 : Int32) = 0) by decide), if_pos x1, if_neg x2, nI_clamp (show n < 2 ^ 31 by omega), rt_14, nw_k hA0 hk, f_X0_init, f_X12_box, q_gt, q_lt, q_jn, q_pt, q_bo, q_bi, wS_sI, wS_sN, e1, e2, t2, t14, if_false, if_true, false_and, and_false, true_and, and_true, and_self, reduceIte, Nat.reduceEqDiff, ne_eq, not_false_eq_true, not_true_eq_false,
    st_n hlt (show 10 < 2 ^ 31 by decide), sz_n hlt (show 10 < 2 ^ 31 by decide), nI_mul4, nI_1, nI_pred, nI_p2, nI_p3, st_n b0 (show 40 < 2 ^ 31 by decide), st_n b1 (show 40 < 2 ^ 31 by decide), st_n b2 (show 40 < 2 ^ 31 by decide), st_n b3 (show 40 < 2 ^ 31 by decide)]
  have hAr : ∀ j, Ar (330 + n) j = 2 := fun j => Ar_kerb hlt
  refine ⟨_, _, rfl, rfl, ⟨n + 1, by omega, ?_, ?_, fun i hi => ?_⟩, by (repeat' first | exact only.refl | exact Or.inl rfl | exact Or.inr rfl | exact Or.inl (hAr _) | exact Or.inl (Ar_7699 (by omega)) | exact fun _ => Or.inl (hAr _) | refine only.trans ?_ (only.sI ?_) | refine only.trans ?_ (only.sJ ?_) | refine only.trans ?_ (only.sN ?_) | refine only.trans ?_ only.sR | refine only.trans ?_ (only.sFr ?_)), by (repeat' first | exact only.refl | exact Or.inl rfl | exact Or.inr rfl | exact Or.inl (hAr _) | exact Or.inl (Ar_7699 (by omega)) | exact fun _ => Or.inl (hAr _) | refine only.trans ?_ (only.sI ?_) | refine only.trans ?_ (only.sJ ?_) | refine only.trans ?_ (only.sN ?_) | refine only.trans ?_ only.sR | refine only.trans ?_ (only.sFr ?_)), by (repeat' first | exact cm.refl | exact Or.inl (by decide) | exact Or.inr (by omega) | refine cm.trans ?_ (cm.sI ?_) | refine cm.trans ?_ cm.sJ | refine cm.trans ?_ (cm.sN ?_) | refine cm.trans ?_ cm.sR | refine cm.trans ?_ (cm.sFr ?_)), by (repeat' first | exact mm.refl | decide | refine mm.trans ?_ (mm.sI ?_ ?_)), fun _ => rfl, fun k hk => ?_, fun i hi hi2 => ?_⟩
  · (repeat first | rw [wS_sI, if_pos ⟨rfl, rfl⟩] | rw [wS_sI, if_neg (by omega)] | rw [wS_sN, if_neg (by omega)] | rw [wS_sR] | rw [wS_sN, if_pos rfl] | rw [wS_sFr, if_neg (by omega)] | rw [wS_sFr, if_pos (by omega)])
  · (repeat first | rw [wS_sI, if_pos ⟨rfl, rfl⟩] | rw [wS_sI, if_neg (by omega)] | rw [wS_sN, if_neg (by omega)] | rw [wS_sR] | rw [wS_sN, if_pos rfl] | rw [wS_sFr, if_neg (by omega)] | rw [wS_sFr, if_pos (by omega)])
  · by_cases hin : i = n
    · subst hin
      refine ⟨?_, ⟨?_, ?_, ?_, ?_⟩, ⟨?_, ?_, ?_, ?_, ?_, ?_⟩⟩
      all_goals (repeat first | rw [wS_sI, if_pos ⟨rfl, rfl⟩] | rw [wS_sI, if_neg (by omega)] | rw [wS_sN, if_neg (by omega)] | rw [wS_sR] | rw [wS_sN, if_pos rfl] | rw [wS_sFr, if_neg (by omega)] | rw [wS_sFr, if_pos (by omega)])
      all_goals first | assumption | decide
    · refine (hh i (by omega)).fr2 ?_ (fun j => ?_) (fun d hd => ?_) 
      all_goals (repeat first | rw [wS_sI, if_pos ⟨rfl, rfl⟩] | rw [wS_sI, if_neg (by omega)] | rw [wS_sN, if_neg (by omega)] | rw [wS_sR] | rw [wS_sN, if_pos rfl] | rw [wS_sFr, if_neg (by omega)] | rw [wS_sFr, if_pos (by omega)])
  · simp only [wA_sI]
    rw [wA_sN, if_neg (by omega)]
  · have hi3 : n + 1 ≤ i := by
      rw [wS_sI, if_pos ⟨rfl, rfl⟩, nI_clamp (by omega)] at hi2
      exact hi2
    simp only [wA_sI]
    rw [wA_sN, if_neg (by omega)]
    exact hA i hi (by rw [e1, nI_clamp (by omega)]; omega)
/-! ===== wires ===== -/
def R3i (w v : Wd) (i : Nat) : Prop := wS w 15 i ≠ 0 ∧ bxR w (350 + i) v 69 (4 * i) ∧ bxO w (350 + i) ∧ (wS w 16 i = wS v 70 i ∧ bt (1) 99 (wS w 16 i))
def R3 (w v : Wd) : Prop := ∃ n, n ≤ 10 ∧ wS w 2 10 = nI n ∧ wS v 63 7 = nI n ∧ (∀ i, i < n → R3i w v i) ∧ (∀ i, i < 10 → wS w 17 i = wS v 71 i ∧ (wS w 17 i = 0 ∨ wS w 17 i = 1))
theorem R3i.fr2 {w v w' v' : Wd} {i : Nat} (h : R3i w v i) (h15 : wS w' 15 i = wS w 15 i) (h16 : wS w' 16 i = wS w 16 i) (hb : ∀ j, wS w' (350 + i) j = wS w (350 + i) j) (m : ∀ d, d < 4 → wS v' 69 (4 * i + d) = wS v 69 (4 * i + d)) (m70 : wS v' 70 i = wS v 70 i) : R3i w' v' i := by
  unfold R3i bxR bxO at h ⊢
  have m0 := m 0 (by decide)
  have m1 := m 1 (by decide)
  have m2 := m 2 (by decide)
  have m3 := m 3 (by decide)
  simp only [Nat.add_zero] at m0
  simp only [h15, h16, hb, m0, m1, m2, m3, m70]
  exact h
theorem R3.fr {w v w' v' : Wd} (h : R3 w v) (hw : sm 3 w w') (hv : sm 3 v v') : R3 w' v' := by
  obtain ⟨n, hn, e1, e2, hh, g0⟩ := h
  refine ⟨n, hn, ((hw 2 10 rfl).1).trans e1, ((hv 63 7 rfl).1).trans e2, fun i hi => (hh i hi).fr2 (hw 15 i rfl).1 (hw 16 i rfl).1 (fun j => (hw _ j (Ar_wire (by omega))).1) (fun d _ => (hv 69 _ rfl).1) (hv 70 i rfl).1, fun i hi => by rw [(hw 17 i rfl).1, (hv 71 i rfl).1]; exact g0 i hi⟩
theorem rt_15 {i : Nat} : rt 15 i = 350 + i := by unfold rt; rfl
theorem kt_350 {i : Nat} (h : i < 10) : kt (350 + i) = (10, 0) := by
  unfold kt; rw [if_neg (by omega), if_pos (by omega), if_pos (by omega)]
theorem c__addWire {w v : Wd} (h : R3 w v) (hA : ∀ i, i < 10 → (wS w 2 10).toNatClampNeg ≤ i → wA w (350 + i) = 0) (a b c d e : Int32)  :
    ∃ r w1 v1, f_X8_addWire w a b c d e = some (r, w1) ∧ f_X12_wire v a b c d e = some (r, v1) ∧ R3 w1 v1 ∧ only 3 w w1 ∧ only 3 v v1 ∧ cm w w1 ∧ mm v v1 ∧ am v v1 ∧
      (∀ k, (k < 350 ∨ 360 ≤ k) → wA w1 k = wA w k) ∧ ∀ i, i < 10 → (wS w1 2 10).toNatClampNeg ≤ i → wA w1 (350 + i) = 0 := by
  obtain ⟨n, hn, e1, e2, hh, g0⟩ := id h
  unfold f_X8_addWire f_X12_wire
  rw [isBox_eq, in_eq]
  rcases isBox_c a b c d with q | ⟨q, ha, hb, hc, hd, hac, hbd⟩
  · rw [q]; exact ⟨_, _, _, rfl, rfl, h, only.refl, only.refl, cm.refl, mm.refl, am.refl, fun _ _ => rfl, hA⟩
  rw [q]
  rcases win_c e (1) 99 with q | ⟨q, he1, he2⟩
  · rw [q]; exact ⟨_, _, _, rfl, rfl, h, only.refl, only.refl, cm.refl, mm.refl, am.refl, fun _ _ => rfl, hA⟩
  rw [q]
  have be : bt (1) 99 e := bt_of he1 he2 (by decide) (by decide)
  simp only [q_gt, e1, e2]
  by_cases hf : n = 10
  · subst hf
    exact ⟨-4, w, v, rfl, rfl, h, only.refl, only.refl, cm.refl, mm.refl, am.refl, fun _ _ => rfl, hA⟩
  have hlt : n < 10 := by omega
  have x1 : nI n < (10 : Int32) := nI_lt (b := 10) hlt (by decide)
  have x2 : ¬ nI n = (10 : Int32) := fun z => hf ((nI_eq (b := 10) (by omega) (by decide)).mp z)
  have hA0 : wA w (350 + n) = 0 := hA n hlt (by rw [e1, nI_clamp (by omega)]; exact Nat.le_refl n)
  have hk := kt_350 hlt
  have t2 : ¬ (2 = 350 + n) := by omega
  have t15 : ¬ (15 = 350 + n) := by omega
  have t16 : ¬ (16 = 350 + n) := by omega
  have t17 : ¬ (17 = 350 + n) := by omega
  have b0 : 4 * n < 40 := by omega
  have b1 : 4 * n + 1 < 40 := by omega
  have b2 : 4 * n + 2 < 40 := by omega
  have b3 : 4 * n + 3 < 40 := by omega
  refine ⟨nI n, ?_⟩
  simp only [if_neg (show ¬ ((1 : Int32) = 0) by decide), if_pos x1, if_neg x2, nI_clamp (show n < 2 ^ 31 by omega), rt_15, nw_k hA0 hk, f_X0_init, f_X12_box, q_gt, q_lt, q_jn, q_pt, q_bo, q_bi, wS_sI, wS_sN, e1, e2, t2, t15, t16, t17, if_false, if_true, false_and, and_false, true_and, and_true, and_self, reduceIte, Nat.reduceEqDiff, ne_eq, not_false_eq_true, not_true_eq_false,
    st_n hlt (show 10 < 2 ^ 31 by decide), sz_n hlt (show 10 < 2 ^ 31 by decide), nI_mul4, nI_1, nI_pred, nI_p2, nI_p3, st_n b0 (show 40 < 2 ^ 31 by decide), st_n b1 (show 40 < 2 ^ 31 by decide), st_n b2 (show 40 < 2 ^ 31 by decide), st_n b3 (show 40 < 2 ^ 31 by decide)]
  have hAr : ∀ j, Ar (350 + n) j = 3 := fun j => Ar_wire hlt
  refine ⟨_, _, rfl, rfl, ⟨n + 1, by omega, ?_, ?_, fun i hi => ?_, fun i hi => ?_⟩, by (repeat' first | exact only.refl | exact Or.inl rfl | exact Or.inr rfl | exact Or.inl (hAr _) | exact Or.inl (Ar_7699 (by omega)) | exact fun _ => Or.inl (hAr _) | refine only.trans ?_ (only.sI ?_) | refine only.trans ?_ (only.sJ ?_) | refine only.trans ?_ (only.sN ?_) | refine only.trans ?_ only.sR | refine only.trans ?_ (only.sFr ?_)), by (repeat' first | exact only.refl | exact Or.inl rfl | exact Or.inr rfl | exact Or.inl (hAr _) | exact Or.inl (Ar_7699 (by omega)) | exact fun _ => Or.inl (hAr _) | refine only.trans ?_ (only.sI ?_) | refine only.trans ?_ (only.sJ ?_) | refine only.trans ?_ (only.sN ?_) | refine only.trans ?_ only.sR | refine only.trans ?_ (only.sFr ?_)), by (repeat' first | exact cm.refl | exact Or.inl (by decide) | exact Or.inr (by omega) | refine cm.trans ?_ (cm.sI ?_) | refine cm.trans ?_ cm.sJ | refine cm.trans ?_ (cm.sN ?_) | refine cm.trans ?_ cm.sR | refine cm.trans ?_ (cm.sFr ?_)), by (repeat' first | exact mm.refl | decide | refine mm.trans ?_ (mm.sI ?_ ?_)), fun _ => rfl, fun k hk => ?_, fun i hi hi2 => ?_⟩
  · (repeat first | rw [wS_sI, if_pos ⟨rfl, rfl⟩] | rw [wS_sI, if_neg (by omega)] | rw [wS_sN, if_neg (by omega)] | rw [wS_sR] | rw [wS_sN, if_pos rfl] | rw [wS_sFr, if_neg (by omega)] | rw [wS_sFr, if_pos (by omega)])
  · (repeat first | rw [wS_sI, if_pos ⟨rfl, rfl⟩] | rw [wS_sI, if_neg (by omega)] | rw [wS_sN, if_neg (by omega)] | rw [wS_sR] | rw [wS_sN, if_pos rfl] | rw [wS_sFr, if_neg (by omega)] | rw [wS_sFr, if_pos (by omega)])
  · by_cases hin : i = n
    · subst hin
      refine ⟨?_, ⟨?_, ?_, ?_, ?_⟩, ⟨?_, ?_, ?_, ?_, ?_, ?_⟩, ?_, ?_⟩
      all_goals (repeat first | rw [wS_sI, if_pos ⟨rfl, rfl⟩] | rw [wS_sI, if_neg (by omega)] | rw [wS_sN, if_neg (by omega)] | rw [wS_sR] | rw [wS_sN, if_pos rfl] | rw [wS_sFr, if_neg (by omega)] | rw [wS_sFr, if_pos (by omega)])
      all_goals first | assumption | decide
    · refine (hh i (by omega)).fr2 ?_ ?_ (fun j => ?_) (fun d hd => ?_) ?_ 
      all_goals (repeat first | rw [wS_sI, if_pos ⟨rfl, rfl⟩] | rw [wS_sI, if_neg (by omega)] | rw [wS_sN, if_neg (by omega)] | rw [wS_sR] | rw [wS_sN, if_pos rfl] | rw [wS_sFr, if_neg (by omega)] | rw [wS_sFr, if_pos (by omega)])
  · refine ⟨?_, ?_⟩
    all_goals (repeat first | rw [wS_sI, if_pos ⟨rfl, rfl⟩] | rw [wS_sI, if_neg (by omega)] | rw [wS_sN, if_neg (by omega)] | rw [wS_sR] | rw [wS_sN, if_pos rfl] | rw [wS_sFr, if_neg (by omega)] | rw [wS_sFr, if_pos (by omega)])
    · exact (g0 i hi).1
    · exact (g0 i hi).2
  · simp only [wA_sI]
    rw [wA_sN, if_neg (by omega)]
  · have hi3 : n + 1 ≤ i := by
      rw [wS_sI, if_pos ⟨rfl, rfl⟩, nI_clamp (by omega)] at hi2
      exact hi2
    simp only [wA_sI]
    rw [wA_sN, if_neg (by omega)]
    exact hA i hi (by rw [e1, nI_clamp (by omega)]; omega)
/-! ===== slopes ===== -/
def R4i (w v : Wd) (i : Nat) : Prop := wS w 18 i ≠ 0 ∧ bxR w (370 + i) v 72 (4 * i) ∧ bxO w (370 + i) ∧ (wS w 19 i = wS v 73 i ∧ bt (-200) 200 (wS w 19 i)) ∧ (wS w 20 i = wS v 74 i ∧ bt (-200) 200 (wS w 20 i))
def R4 (w v : Wd) : Prop := ∃ n, n ≤ 10 ∧ wS w 2 15 = nI n ∧ wS v 63 11 = nI n ∧ (∀ i, i < n → R4i w v i) ∧ (∀ i, i < 10 → wS w 21 i = wS v 75 i ∧ (wS w 21 i = 0 ∨ wS w 21 i = 1))
theorem R4i.fr2 {w v w' v' : Wd} {i : Nat} (h : R4i w v i) (h18 : wS w' 18 i = wS w 18 i) (h19 : wS w' 19 i = wS w 19 i) (h20 : wS w' 20 i = wS w 20 i) (hb : ∀ j, wS w' (370 + i) j = wS w (370 + i) j) (m : ∀ d, d < 4 → wS v' 72 (4 * i + d) = wS v 72 (4 * i + d)) (m73 : wS v' 73 i = wS v 73 i) (m74 : wS v' 74 i = wS v 74 i) : R4i w' v' i := by
  unfold R4i bxR bxO at h ⊢
  have m0 := m 0 (by decide)
  have m1 := m 1 (by decide)
  have m2 := m 2 (by decide)
  have m3 := m 3 (by decide)
  simp only [Nat.add_zero] at m0
  simp only [h18, h19, h20, hb, m0, m1, m2, m3, m73, m74]
  exact h
theorem R4.fr {w v w' v' : Wd} (h : R4 w v) (hw : sm 4 w w') (hv : sm 4 v v') : R4 w' v' := by
  obtain ⟨n, hn, e1, e2, hh, g0⟩ := h
  refine ⟨n, hn, ((hw 2 15 rfl).1).trans e1, ((hv 63 11 rfl).1).trans e2, fun i hi => (hh i hi).fr2 (hw 18 i rfl).1 (hw 19 i rfl).1 (hw 20 i rfl).1 (fun j => (hw _ j (Ar_slope (by omega))).1) (fun d _ => (hv 72 _ rfl).1) (hv 73 i rfl).1 (hv 74 i rfl).1, fun i hi => by rw [(hw 21 i rfl).1, (hv 75 i rfl).1]; exact g0 i hi⟩
theorem rt_18 {i : Nat} : rt 18 i = 370 + i := by unfold rt; rfl
theorem kt_370 {i : Nat} (h : i < 10) : kt (370 + i) = (10, 0) := by
  unfold kt; rw [if_neg (by omega), if_pos (by omega), if_pos (by omega)]
theorem c__addSlope {w v : Wd} (h : R4 w v) (hA : ∀ i, i < 10 → (wS w 2 15).toNatClampNeg ≤ i → wA w (370 + i) = 0) (a b c d e f g : Int32) (hg : g = 0 ∨ g = 1) :
    ∃ r w1 v1, f_X8_addSlope w a b c d e f g = some (r, w1) ∧ f_X12_slope v a b c d e f g = some (r, v1) ∧ R4 w1 v1 ∧ only 4 w w1 ∧ only 4 v v1 ∧ cm w w1 ∧ mm v v1 ∧ am v v1 ∧
      (∀ k, (k < 370 ∨ 380 ≤ k) → wA w1 k = wA w k) ∧ ∀ i, i < 10 → (wS w1 2 15).toNatClampNeg ≤ i → wA w1 (370 + i) = 0 := by
  obtain ⟨n, hn, e1, e2, hh, g0⟩ := id h
  unfold f_X8_addSlope f_X12_slope
  rw [isBox_eq, in_eq]
  rcases isBox_c a b c d with q | ⟨q, ha, hb, hc, hd, hac, hbd⟩
  · rw [q]; exact ⟨_, _, _, rfl, rfl, h, only.refl, only.refl, cm.refl, mm.refl, am.refl, fun _ _ => rfl, hA⟩
  rw [q]
  rcases win_c e (-200) 200 with q | ⟨q, he1, he2⟩
  · rw [q]; exact ⟨_, _, _, rfl, rfl, h, only.refl, only.refl, cm.refl, mm.refl, am.refl, fun _ _ => rfl, hA⟩
  rw [q]
  have be : bt (-200) 200 e := bt_of he1 he2 (by decide) (by decide)
  rcases win_c f (-200) 200 with q | ⟨q, hf1, hf2⟩
  · rw [q]; exact ⟨_, _, _, rfl, rfl, h, only.refl, only.refl, cm.refl, mm.refl, am.refl, fun _ _ => rfl, hA⟩
  rw [q]
  have bf : bt (-200) 200 f := bt_of hf1 hf2 (by decide) (by decide)
  simp only [q_gt, e1, e2]
  by_cases hf : n = 10
  · subst hf
    exact ⟨-4, w, v, rfl, rfl, h, only.refl, only.refl, cm.refl, mm.refl, am.refl, fun _ _ => rfl, hA⟩
  have hlt : n < 10 := by omega
  have x1 : nI n < (10 : Int32) := nI_lt (b := 10) hlt (by decide)
  have x2 : ¬ nI n = (10 : Int32) := fun z => hf ((nI_eq (b := 10) (by omega) (by decide)).mp z)
  have hA0 : wA w (370 + n) = 0 := hA n hlt (by rw [e1, nI_clamp (by omega)]; exact Nat.le_refl n)
  have hk := kt_370 hlt
  have t2 : ¬ (2 = 370 + n) := by omega
  have t18 : ¬ (18 = 370 + n) := by omega
  have t19 : ¬ (19 = 370 + n) := by omega
  have t20 : ¬ (20 = 370 + n) := by omega
  have t21 : ¬ (21 = 370 + n) := by omega
  have b0 : 4 * n < 40 := by omega
  have b1 : 4 * n + 1 < 40 := by omega
  have b2 : 4 * n + 2 < 40 := by omega
  have b3 : 4 * n + 3 < 40 := by omega
  have ng : vp_nar .boolean g = g := nar01 hg
  refine ⟨nI n, ?_⟩
  simp only [if_neg (show ¬ ((1 : Int32) = 0) by decide), if_pos x1, if_neg x2, nI_clamp (show n < 2 ^ 31 by omega), rt_18, nw_k hA0 hk, f_X0_init, f_X12_box, q_gt, q_lt, q_jn, q_pt, q_bo, q_bi, wS_sI, wS_sN, e1, e2, t2, t18, t19, t20, t21, if_false, if_true, false_and, and_false, true_and, and_true, and_self, reduceIte, Nat.reduceEqDiff, ne_eq, not_false_eq_true, not_true_eq_false,
    st_n hlt (show 10 < 2 ^ 31 by decide), sz_n hlt (show 10 < 2 ^ 31 by decide), nI_mul4, nI_1, nI_pred, nI_p2, nI_p3, st_n b0 (show 40 < 2 ^ 31 by decide), st_n b1 (show 40 < 2 ^ 31 by decide), st_n b2 (show 40 < 2 ^ 31 by decide), st_n b3 (show 40 < 2 ^ 31 by decide), ng]
  have hAr : ∀ j, Ar (370 + n) j = 4 := fun j => Ar_slope hlt
  refine ⟨_, _, rfl, rfl, ⟨n + 1, by omega, ?_, ?_, fun i hi => ?_, fun i hi => ?_⟩, by (repeat' first | exact only.refl | exact Or.inl rfl | exact Or.inr rfl | exact Or.inl (hAr _) | exact Or.inl (Ar_7699 (by omega)) | exact fun _ => Or.inl (hAr _) | refine only.trans ?_ (only.sI ?_) | refine only.trans ?_ (only.sJ ?_) | refine only.trans ?_ (only.sN ?_) | refine only.trans ?_ only.sR | refine only.trans ?_ (only.sFr ?_)), by (repeat' first | exact only.refl | exact Or.inl rfl | exact Or.inr rfl | exact Or.inl (hAr _) | exact Or.inl (Ar_7699 (by omega)) | exact fun _ => Or.inl (hAr _) | refine only.trans ?_ (only.sI ?_) | refine only.trans ?_ (only.sJ ?_) | refine only.trans ?_ (only.sN ?_) | refine only.trans ?_ only.sR | refine only.trans ?_ (only.sFr ?_)), by (repeat' first | exact cm.refl | exact Or.inl (by decide) | exact Or.inr (by omega) | refine cm.trans ?_ (cm.sI ?_) | refine cm.trans ?_ cm.sJ | refine cm.trans ?_ (cm.sN ?_) | refine cm.trans ?_ cm.sR | refine cm.trans ?_ (cm.sFr ?_)), by (repeat' first | exact mm.refl | decide | refine mm.trans ?_ (mm.sI ?_ ?_)), fun _ => rfl, fun k hk => ?_, fun i hi hi2 => ?_⟩
  · (repeat first | rw [wS_sI, if_pos ⟨rfl, rfl⟩] | rw [wS_sI, if_neg (by omega)] | rw [wS_sN, if_neg (by omega)] | rw [wS_sR] | rw [wS_sN, if_pos rfl] | rw [wS_sFr, if_neg (by omega)] | rw [wS_sFr, if_pos (by omega)])
  · (repeat first | rw [wS_sI, if_pos ⟨rfl, rfl⟩] | rw [wS_sI, if_neg (by omega)] | rw [wS_sN, if_neg (by omega)] | rw [wS_sR] | rw [wS_sN, if_pos rfl] | rw [wS_sFr, if_neg (by omega)] | rw [wS_sFr, if_pos (by omega)])
  · by_cases hin : i = n
    · subst hin
      refine ⟨?_, ⟨?_, ?_, ?_, ?_⟩, ⟨?_, ?_, ?_, ?_, ?_, ?_⟩, ⟨?_, ?_⟩, ?_, ?_⟩
      all_goals (repeat first | rw [wS_sI, if_pos ⟨rfl, rfl⟩] | rw [wS_sI, if_neg (by omega)] | rw [wS_sN, if_neg (by omega)] | rw [wS_sR] | rw [wS_sN, if_pos rfl] | rw [wS_sFr, if_neg (by omega)] | rw [wS_sFr, if_pos (by omega)])
      all_goals first | assumption | decide
    · refine (hh i (by omega)).fr2 ?_ ?_ ?_ (fun j => ?_) (fun d hd => ?_) ?_ ?_ 
      all_goals (repeat first | rw [wS_sI, if_pos ⟨rfl, rfl⟩] | rw [wS_sI, if_neg (by omega)] | rw [wS_sN, if_neg (by omega)] | rw [wS_sR] | rw [wS_sN, if_pos rfl] | rw [wS_sFr, if_neg (by omega)] | rw [wS_sFr, if_pos (by omega)])
  · by_cases hin : i = n
    · subst hin
      refine ⟨?_, ?_⟩
      all_goals (repeat first | rw [wS_sI, if_pos ⟨rfl, rfl⟩] | rw [wS_sI, if_neg (by omega)] | rw [wS_sN, if_neg (by omega)] | rw [wS_sR] | rw [wS_sN, if_pos rfl] | rw [wS_sFr, if_neg (by omega)] | rw [wS_sFr, if_pos (by omega)])
      all_goals assumption
    · refine ⟨?_, ?_⟩
      all_goals (repeat first | rw [wS_sI, if_pos ⟨rfl, rfl⟩] | rw [wS_sI, if_neg (by omega)] | rw [wS_sN, if_neg (by omega)] | rw [wS_sR] | rw [wS_sN, if_pos rfl] | rw [wS_sFr, if_neg (by omega)] | rw [wS_sFr, if_pos (by omega)])
      · exact (g0 i hi).1
      · exact (g0 i hi).2
  · simp only [wA_sI]
    rw [wA_sN, if_neg (by omega)]
  · have hi3 : n + 1 ≤ i := by
      rw [wS_sI, if_pos ⟨rfl, rfl⟩, nI_clamp (by omega)] at hi2
      exact hi2
    simp only [wA_sI]
    rw [wA_sN, if_neg (by omega)]
    exact hA i hi (by rw [e1, nI_clamp (by omega)]; omega)
