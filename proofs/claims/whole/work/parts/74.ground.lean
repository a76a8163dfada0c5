/-! ===== ground ===== -/
theorem slope_m1 {w : Wd} : f_X8_isSlope w (-1) = 0 := by
  unfold f_X8_isSlope
  exact win_f (Or.inl (by decide))
theorem slope_j {w : Wd} {n j : Nat} (e : wS w 2 15 = nI n) (hn : n ≤ 10) (hj : nI j < wS w 2 15) (hj10 : j < 10) : f_X8_isSlope w (nI j) = 1 ∧ j < n := by
  rw [e] at hj
  have h := (nI_ltI (by omega) (by omega)).mp hj
  unfold f_X8_isSlope
  rw [e]
  exact ⟨win_v h (by omega), h⟩
theorem c_ground {w v : Wd} (h : R4 w v) (a b d : Int32) : ∃ r, f_X11_ground w a b d = some r ∧ f_X12_ground v a b d = some r := by
  obtain ⟨n, hn, e1, e2, hh, g⟩ := id h
  unfold f_X11_ground f_X12_ground
  rw [in_eq]
  rcases win_c a (-40000) 40000 with q | ⟨q, -, -⟩
  · rw [q]; exact ⟨_, rfl, rfl⟩
  rw [q]
  rcases win_c b (-40000) 40000 with q | ⟨q, -, -⟩
  · rw [q]; exact ⟨_, rfl, rfl⟩
  rw [q]
  rcases win_c d 0 3 with q | ⟨q, -, -⟩
  · rw [q]; exact ⟨_, rfl, rfl⟩
  rw [q]
  obtain ⟨r, h1, h2, h3⟩ := c_slopeAt h a b
  rw [h1, h2]
  simp only [bo_v, if_neg one0]
  by_cases d0 : d = 0
  · rw [if_pos d0, if_pos d0]; exact ⟨_, rfl, rfl⟩
  rw [if_neg d0, if_neg d0]
  unfold f_X8_riseXOf f_X8_riseYOf f_X8_isWet
  rcases h3 with rfl | ⟨j, hj, hj10, rfl⟩
  · rw [slope_m1]
    simp only [if_true, bo_v]
    refine ⟨0, ?_, rfl⟩
    by_cases d1 : d = 1
    · rw [if_pos d1]
    · rw [if_neg d1]
      by_cases d2 : d = 2
      · rw [if_pos d2]
      · rw [if_neg d2]
  · obtain ⟨s1, s2⟩ := slope_j e1 hn hj hj10
    rw [s1, if_neg (m1_ne (k := 0) (by omega) (by omega))]
    have H := hh j s2
    simp only [if_neg one0, ld_n hj10 (show 10 < 2 ^ 31 by decide), bo_v, H.2.2.2.1.1, H.2.2.2.2.1, (g j hj10).1]
    by_cases d1 : d = 1
    · rw [if_pos d1, if_pos d1]; exact ⟨_, rfl, rfl⟩
    rw [if_neg d1, if_neg d1]
    by_cases d2 : d = 2
    · rw [if_pos d2, if_pos d2]; exact ⟨_, rfl, rfl⟩
    rw [if_neg d2, if_neg d2]
    by_cases z : wS v 75 j = 0
    · simp only [if_pos z, bo_v, if_true]; exact ⟨0, rfl, rfl⟩
    · simp only [if_neg z, bo_v, if_neg one0]; exact ⟨1, rfl, rfl⟩
