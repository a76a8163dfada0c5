/-! ===== count ===== -/
theorem l_hang {w v : Wd} {n : Nat} (hn : n ≤ 10) (e1 : wS w 2 10 = nI n) (e2 : wS v 63 7 = nI n) (g : ∀ i, i < 10 → wS w 17 i = wS v 71 i) : ∀ (m i f : Nat) (x : Int32), i + m = n → m < f → ∃ r, l_X8_wiresThatHang_4 w f (nI i) x = some r ∧ l_X12_count_80 v f (nI i) x = some r
  | 0, i, f + 1, x, hi, _ => by
    unfold l_X8_wiresThatHang_4 l_X12_count_80
    simp only [q_gt, e1, e2, if_pos (nI_le (show n ≤ i by omega) (by omega))]
    exact ⟨x, rfl, rfl⟩
  | m + 1, i, f + 1, x, hi, hf => by
    have hi10 : i < 10 := by omega
    unfold l_X8_wiresThatHang_4 l_X12_count_80
    simp only [q_gt, q_lt, q_jn, e1, e2, if_neg (nI_ge (show i < n by omega) (by omega)), ld_n hi10 (show 10 < 2 ^ 31 by decide), ← g i hi10, nI_1]
    by_cases h : wS w 17 i = 0
    · rw [if_pos h, if_pos h]
      exact l_hang hn e1 e2 g m (i + 1) f (x + 1) (by omega) (by omega)
    · rw [if_neg h, if_neg h, Int32.add_zero]
      exact l_hang hn e1 e2 g m (i + 1) f x (by omega) (by omega)
theorem l_stands {w v : Wd} {n : Nat} (hn : n ≤ 4) (e1 : wS w 3 2 = nI n) (e2 : wS v 63 16 = nI n) (g : ∀ c, c < n → A5 w v c ∧ S5 w v c ∧ P5 w v c ∧ Q5 w v c) : ∀ (m i f : Nat) (x : Int32), i + m = n → m < f → ∃ r, l_X3_carsThatStand_4 w f (nI i) x = some r ∧ l_X12_count_125 v f (nI i) x = some r
  | 0, i, f + 1, x, hi, _ => by
    unfold l_X3_carsThatStand_4 l_X12_count_125
    simp only [q_gt, e1, e2, if_pos (nI_le (show n ≤ i by omega) (by omega))]
    exact ⟨x, rfl, rfl⟩
  | m + 1, i, f + 1, x, hi, hf => by
    have hi4 : i < 4 := by omega
    obtain ⟨A, -, P, -⟩ := g i (by omega)
    unfold l_X3_carsThatStand_4 l_X12_count_125
    simp only [q_gt, q_lt, q_jn, e1, e2, if_neg (nI_ge (show i < n by omega) (by omega)), ldq_n hi4 (show 4 < 2 ^ 31 by decide) A.1, rt_22, ld_n hi4 (show 4 < 2 ^ 31 by decide), ← P.2.2.2.1.1, nI_1]
    by_cases h : wS w (K5 i) 12 = 0
    · rw [if_pos h, if_pos h, Int32.add_zero]
      exact l_stands hn e1 e2 g m (i + 1) f x (by omega) (by omega)
    · rw [if_neg h, if_neg h]
      exact l_stands hn e1 e2 g m (i + 1) f (x + 1) (by omega) (by omega)
theorem two_same {o : Option Int32} (h : ∃ r, o = some r) : ∃ r, o = some r ∧ o = some r := by
  obtain ⟨r, h⟩ := h
  exact ⟨r, h, h⟩
theorem sm_ite {p : Prop} [Decidable p] {x y : Option Int32} (h : ∃ r, x = some r) (g : ∃ r, y = some r) : ∃ r, (if p then x else y) = some r := by
  by_cases k : p
  · rw [if_pos k]; exact h
  · rw [if_neg k]; exact g
theorem c_count {w v : Wd} (R : RS w v) (e6 : wS w 6 7 = wS v 63 59) (e7 : wS w 7 2 = wS v 63 68) (e8 : wS w 8 3 = wS v 63 74) (e9 : wS w 9 3 = wS v 63 83) (e10 : wS w 5 1 = wS v 63 50) (e11 : wS w 5 3 = wS v 63 52) (a : Int32) : ∃ r, f_X11_count w a = some r ∧ f_X12_count v a = some r := by
  obtain ⟨n1, -, p1, p2, -⟩ := id R.1
  obtain ⟨n2, -, p3, p4, -⟩ := id R.2.1
  obtain ⟨n3, hn3, p5, p6, -, g3⟩ := id R.2.2.1
  obtain ⟨n4, -, p7, p8, -⟩ := id R.2.2.2.1
  obtain ⟨n5, hn5, p9, p10, g5, -⟩ := id R.2.2.2.2.1
  obtain ⟨r1, r2, r3⟩ := l_hang hn3 p5 p6 (fun i hi => (g3 i hi).1) n3 0 FU 0 (by omega) (by unfold FU; omega)
  obtain ⟨r4, r5, r6⟩ := l_stands hn5 p9 p10 g5 n5 0 FU 0 (by omega) (by unfold FU; omega)
  rw [nI_0] at r2 r3 r5 r6
  unfold f_X11_count f_X12_count f_X8_wiresThatHang f_X3_carsThatStand
  rw [r2, r3, r5, r6]
  simp only [q_gt, bo_v, p1, p2, p3, p4, p7, p8, p9, p10, e6, e7, e8, e9, e10, e11, R.2.2.2.2.2.1.1]
  refine two_same ?_
  repeat' refine sm_ite ⟨_, rfl⟩ ?_
  exact ⟨_, rfl⟩
