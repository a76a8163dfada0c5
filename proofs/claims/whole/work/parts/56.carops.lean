/-! ===== the cars' simple calls ===== -/
def R6 (w v : Wd) : Prop := (wS w 3 3 = wS v 63 30 ∧ bt 1 20 (wS w 3 3)) ∧ (wS w 3 4 = wS v 63 47 ∧ bt 1 9 (wS w 3 4)) ∧ (wS w 3 5 = wS v 63 48 ∧ bt 0 100 (wS w 3 5)) ∧ (wS w 3 6 = wS v 63 49 ∧ bt 1 99 (wS w 3 6))
theorem R6.fr {w v w' v' : Wd} (h : R6 w v) (hw : sm 6 w w') (hv : sm 6 v v') : R6 w' v' := by
  unfold R6 at h ⊢
  rw [(hw 3 3 rfl).1, (hw 3 4 rfl).1, (hw 3 5 rfl).1, (hw 3 6 rfl).1, (hv 63 30 rfl).1, (hv 63 47 rfl).1, (hv 63 48 rfl).1, (hv 63 49 rfl).1]
  exact h
theorem c_feet {w v : Wd} (h : R6 w v) (a : Int32) : OK 6 R6 (f_X11_feet w a) (f_X12_feet v a) w v := by
  unfold f_X11_feet f_X12_feet
  rw [in_eq]
  rcases win_c a 1 20 with q | ⟨q, h1, h2⟩
  · rw [q]; exact OK.same h
  rw [q]
  have B : bt 1 20 a := bt_of h1 h2 (by decide) (by decide)
  simp only [if_neg one0, q_gt, q_lt, q_jn, q_pt, q_bo, q_bi, h.1.1]
  refine ⟨_, _, _, rfl, rfl, ⟨⟨?_, ?_⟩, ⟨?_, ?_⟩, ⟨?_, ?_⟩, ?_, ?_⟩, by (repeat' first | exact only.refl | exact Or.inl rfl | exact Or.inr rfl | exact Or.inl (hAr _) | exact Or.inl (Ar_7699 (by omega)) | exact fun _ => Or.inl (hAr _) | refine only.trans ?_ (only.sI ?_) | refine only.trans ?_ (only.sJ ?_) | refine only.trans ?_ (only.sN ?_) | refine only.trans ?_ only.sR | refine only.trans ?_ (only.sFr ?_)), by (repeat' first | exact only.refl | exact Or.inl rfl | exact Or.inr rfl | exact Or.inl (hAr _) | exact Or.inl (Ar_7699 (by omega)) | exact fun _ => Or.inl (hAr _) | refine only.trans ?_ (only.sI ?_) | refine only.trans ?_ (only.sJ ?_) | refine only.trans ?_ (only.sN ?_) | refine only.trans ?_ only.sR | refine only.trans ?_ (only.sFr ?_)), by (repeat' first | exact cm.refl | exact Or.inl (by decide) | exact Or.inr (by omega) | refine cm.trans ?_ (cm.sI ?_) | refine cm.trans ?_ cm.sJ | refine cm.trans ?_ (cm.sN ?_) | refine cm.trans ?_ cm.sR | refine cm.trans ?_ (cm.sFr ?_)), by (repeat' first | exact mm.refl | decide | refine mm.trans ?_ (mm.sI ?_ ?_)), fun _ => rfl, fun _ => rfl⟩
  all_goals (repeat first | rw [wS_sI, if_pos ⟨rfl, rfl⟩] | rw [wS_sI, if_neg (by omega)] | rw [wS_sN, if_neg (by omega)] | rw [wS_sR] | rw [wS_sN, if_pos rfl] | rw [wS_sFr, if_neg (by omega)] | rw [wS_sFr, if_pos (by omega)])
  · exact B
  · exact h.2.1.1
  · exact h.2.1.2
  · exact h.2.2.1.1
  · exact h.2.2.1.2
  · exact h.2.2.2.1
  · exact h.2.2.2.2
theorem c_about {w v : Wd} (h : R5 w v) (a b : Int32) : ∃ r, f_X11_about w a b = some r ∧ f_X12_about v a b = some r := by
  unfold f_X11_about f_X12_about
  rcases carAt_c h a with ⟨q1, q2⟩ | ⟨c, hc, -, rfl, q1, q2, A, ⟨s, hs, s1, s2, -⟩, P, -⟩
  · rw [q1, q2]; exact ⟨_, rfl, rfl⟩
  rw [q1, q2]
  unfold f_X1_tell f_X12_aboutOf
  simp only [q_bo, if_neg one0, if_neg (K5_ne (c := c)), ld_n hc (show 4 < 2 ^ 31 by decide), A.2.1.1, A.2.2.1.1, A.2.2.2.1.1, A.2.2.2.2.1.1, s1, s2, P.1.1, P.2.1.1, P.2.2.1.1, P.2.2.2.1.1, P.2.2.2.2]
  by_cases h0 : b = 0
  · rw [if_pos h0, if_pos h0]; exact ⟨_, rfl, rfl⟩
  rw [if_neg h0, if_neg h0]
  by_cases h1 : b = 1
  · rw [if_pos h1, if_pos h1]; exact ⟨_, rfl, rfl⟩
  rw [if_neg h1, if_neg h1]
  by_cases h2 : b = 2
  · rw [if_pos h2, if_pos h2]; exact ⟨_, rfl, rfl⟩
  rw [if_neg h2, if_neg h2]
  by_cases h3 : b = 3
  · rw [if_pos h3, if_pos h3]; exact ⟨_, rfl, rfl⟩
  rw [if_neg h3, if_neg h3]
  by_cases h4 : b = 4
  · rw [if_pos h4, if_pos h4]; exact ⟨_, rfl, rfl⟩
  rw [if_neg h4, if_neg h4]
  by_cases h5 : b = 5
  · rw [if_pos h5, if_pos h5]
    by_cases hz : wS v 84 c = 0
    · rw [if_pos hz, if_pos hz]; exact ⟨_, rfl, rfl⟩
    · rw [if_neg hz, if_neg hz]; exact ⟨_, rfl, rfl⟩
  rw [if_neg h5, if_neg h5]
  by_cases h6 : b = 6
  · rw [if_pos h6, if_pos h6]
    by_cases hz : wS v 84 c = 0
    · rw [if_pos hz, if_pos hz]; exact ⟨_, rfl, rfl⟩
    · rw [if_neg hz, if_neg hz]; exact ⟨_, rfl, rfl⟩
  rw [if_neg h6, if_neg h6]
  by_cases h7 : b = 7
  · rw [if_pos h7, if_pos h7]
    by_cases hz : wS v 84 c = 0
    · rw [if_pos hz, if_pos hz]; exact ⟨_, rfl, rfl⟩
    · rw [if_neg hz, if_neg hz]; exact ⟨_, rfl, rfl⟩
  rw [if_neg h7, if_neg h7]
  by_cases h8 : b = 8
  · rw [if_pos h8, if_pos h8]; exact ⟨_, rfl, rfl⟩
  rw [if_neg h8, if_neg h8]
  by_cases h9 : b = 9
  · rw [if_pos h9, if_pos h9]
    by_cases hz : wS v 84 c = 0
    · rw [if_pos hz, if_pos hz]; exact ⟨_, rfl, rfl⟩
    · rw [if_neg hz, if_neg hz]; exact ⟨_, rfl, rfl⟩
  rw [if_neg h9, if_neg h9]
  exact ⟨_, rfl, rfl⟩
/-- of one car only: what a change of the car c must keep of the others -/
theorem R5.one {w v w' v' : Wd} (h : R5 w v) {c : Nat} (hc : nI c < wS w 3 2) (hc4 : c < 4) (e1 : wS w' 3 2 = wS w 3 2) (e2 : wS v' 63 16 = wS v 63 16)
    (h22 : ∀ i, wS w' 22 i = wS w 22 i) (hK : ∀ p j, 1000 ≤ p → p < 1080 → (p < K5 c ∨ K5 c + 20 ≤ p) → wS w' p j = wS w p j) (hv : ∀ m i, (76 ≤ m ∧ m ≤ 80) ∨ (84 ≤ m ∧ m ≤ 88) → i < 4 → i ≠ c → wS v' m i = wS v m i)
    (hv5 : ∀ m d i, 81 ≤ m → m ≤ 83 → d ≠ c → d < 4 → i < 5 → wS v' m (5 * d + i) = wS v m (5 * d + i)) (hv4 : ∀ m d i, 97 ≤ m → m ≤ 99 → d ≠ c → d < 4 → i < 4 → wS v' m (4 * d + i) = wS v m (4 * d + i))
    (k : A5 w' v' c ∧ S5 w' v' c ∧ P5 w' v' c ∧ Q5 w' v' c) : R5 w' v' := by
  obtain ⟨n, hn, d1, d2, hh, hN⟩ := h
  have hcn : c < n := by
    rw [d1] at hc
    exact (nI_ltI (by omega) (by omega)).mp hc
  refine ⟨n, hn, e1.trans d1, e2.trans d2, fun d hd => ?_, fun d q1 q2 => ?_⟩
  · by_cases hdc : d = c
    · rw [hdc]; exact k
    · obtain ⟨a, b, p, q⟩ := hh d hd
      have hK' : ∀ o j, o < 20 → wS w' (K5 d + o) j = wS w (K5 d + o) j := fun o j ho => hK _ j (by unfold K5; omega) (by unfold K5; omega) (by unfold K5; omega)
      exact ⟨a.fr (h22 d) (fun j _ => hK' 0 j (by decide)) (fun i _ => hK' 4 i (by decide)) (fun m _ _ => hv m d (by omega) (by omega) hdc),
        b.fr (hK' 0 7 (by decide)) (hv 80 d (by decide) (by omega) hdc) (fun o i _ _ _ => hK' o i (by omega)) (fun m i _ _ _ => hv5 m d i (by omega) (by omega) hdc (by omega) (by omega)),
        p.fr (fun j _ _ => hK' 0 j (by decide)) (fun m _ _ => hv m d (by omega) (by omega) hdc),
        q.fr (fun o r _ _ _ => hK' o r (by omega)) (fun m r _ _ _ => hv4 m d r (by omega) (by omega) hdc (by omega) (by omega))⟩
  · exact (hN d q1 q2).fr (hv 80 d (by decide) q2 (by omega)) (fun m _ _ => hv m d (by omega) q2 (by omega)) (fun m r _ _ _ => hv4 m d r (by omega) (by omega) (by omega) q2 (by omega))
theorem c_leave {w v : Wd} (h : R5 w v) (a : Int32) : OK 5 R5 (f_X11_leave w a) (f_X12_leave v a) w v := by
  unfold f_X11_leave f_X12_leave
  rcases carAt_c h a with ⟨q1, q2⟩ | ⟨c, hc, hcn, rfl, q1, q2, A, S, P, Q⟩
  · rw [q1, q2]; exact OK.same h
  rw [q1, q2]
  have n0 : vp_nar .boolean 0 = 0 := by decide
  have hAr : ∀ j, Ar (K5 c) j = 5 := fun j => Ar_K0 hc
  simp only [q_gt, q_lt, q_jn, q_pt, q_bo, q_bi, if_neg one0, if_neg (K5_ne (c := c)), ld_n hc (show 4 < 2 ^ 31 by decide), sz_n hc (show 4 < 2 ^ 31 by decide), P.2.2.2.1.1, n0]
  have key : R5 (sI w (K5 c) 12 0) (sI v 84 c 0) := by
    refine h.one hcn hc ?_ ?_ (fun i => ?_) (fun p j _ _ _ => ?_) (fun m i _ _ _ => ?_) (fun m d i _ _ _ _ _ => ?_) (fun m d i _ _ _ _ _ => ?_) ⟨?_, ?_, ?_, ?_⟩
    · unfold K5; (repeat first | rw [wS_sI, if_pos ⟨rfl, rfl⟩] | rw [wS_sI, if_neg (by omega)] | rw [wS_sN, if_neg (by omega)] | rw [wS_sR] | rw [wS_sN, if_pos rfl] | rw [wS_sFr, if_neg (by omega)] | rw [wS_sFr, if_pos (by omega)])
    · (repeat first | rw [wS_sI, if_pos ⟨rfl, rfl⟩] | rw [wS_sI, if_neg (by omega)] | rw [wS_sN, if_neg (by omega)] | rw [wS_sR] | rw [wS_sN, if_pos rfl] | rw [wS_sFr, if_neg (by omega)] | rw [wS_sFr, if_pos (by omega)])
    · unfold K5; (repeat first | rw [wS_sI, if_pos ⟨rfl, rfl⟩] | rw [wS_sI, if_neg (by omega)] | rw [wS_sN, if_neg (by omega)] | rw [wS_sR] | rw [wS_sN, if_pos rfl] | rw [wS_sFr, if_neg (by omega)] | rw [wS_sFr, if_pos (by omega)])
    · unfold K5 at *; (repeat first | rw [wS_sI, if_pos ⟨rfl, rfl⟩] | rw [wS_sI, if_neg (by omega)] | rw [wS_sN, if_neg (by omega)] | rw [wS_sR] | rw [wS_sN, if_pos rfl] | rw [wS_sFr, if_neg (by omega)] | rw [wS_sFr, if_pos (by omega)])
    · (repeat first | rw [wS_sI, if_pos ⟨rfl, rfl⟩] | rw [wS_sI, if_neg (by omega)] | rw [wS_sN, if_neg (by omega)] | rw [wS_sR] | rw [wS_sN, if_pos rfl] | rw [wS_sFr, if_neg (by omega)] | rw [wS_sFr, if_pos (by omega)])
    · (repeat first | rw [wS_sI, if_pos ⟨rfl, rfl⟩] | rw [wS_sI, if_neg (by omega)] | rw [wS_sN, if_neg (by omega)] | rw [wS_sR] | rw [wS_sN, if_pos rfl] | rw [wS_sFr, if_neg (by omega)] | rw [wS_sFr, if_pos (by omega)])
    · (repeat first | rw [wS_sI, if_pos ⟨rfl, rfl⟩] | rw [wS_sI, if_neg (by omega)] | rw [wS_sN, if_neg (by omega)] | rw [wS_sR] | rw [wS_sN, if_pos rfl] | rw [wS_sFr, if_neg (by omega)] | rw [wS_sFr, if_pos (by omega)])
    · refine A.fr ?_ (fun j _ => ?_) (fun i _ => ?_) (fun m _ _ => ?_)
      all_goals (try unfold K5)
      all_goals (repeat first | rw [wS_sI, if_pos ⟨rfl, rfl⟩] | rw [wS_sI, if_neg (by omega)] | rw [wS_sN, if_neg (by omega)] | rw [wS_sR] | rw [wS_sN, if_pos rfl] | rw [wS_sFr, if_neg (by omega)] | rw [wS_sFr, if_pos (by omega)])
    · refine S.fr ?_ ?_ (fun o i _ _ _ => ?_) (fun m i _ _ _ => ?_)
      all_goals (try unfold K5)
      all_goals (repeat first | rw [wS_sI, if_pos ⟨rfl, rfl⟩] | rw [wS_sI, if_neg (by omega)] | rw [wS_sN, if_neg (by omega)] | rw [wS_sR] | rw [wS_sN, if_pos rfl] | rw [wS_sFr, if_neg (by omega)] | rw [wS_sFr, if_pos (by omega)])
    · refine ⟨⟨?_, ?_⟩, ⟨?_, ?_⟩, ⟨?_, ?_⟩, ⟨?_, ?_⟩, ?_⟩
      all_goals (repeat first | rw [wS_sI, if_pos ⟨rfl, rfl⟩] | rw [wS_sI, if_neg (by omega)] | rw [wS_sN, if_neg (by omega)] | rw [wS_sR] | rw [wS_sN, if_pos rfl] | rw [wS_sFr, if_neg (by omega)] | rw [wS_sFr, if_pos (by omega)])
      · exact P.1.1
      · exact P.1.2
      · exact P.2.1.1
      · exact P.2.1.2
      · exact P.2.2.1.1
      · exact P.2.2.1.2
      · exact Or.inl rfl
      · exact P.2.2.2.2
    · refine Q.fr (fun o i _ _ _ => ?_) (fun m i _ _ _ => ?_)
      all_goals (try unfold K5)
      all_goals (repeat first | rw [wS_sI, if_pos ⟨rfl, rfl⟩] | rw [wS_sI, if_neg (by omega)] | rw [wS_sN, if_neg (by omega)] | rw [wS_sR] | rw [wS_sN, if_pos rfl] | rw [wS_sFr, if_neg (by omega)] | rw [wS_sFr, if_pos (by omega)])
  by_cases hz : wS v 84 c = 0
  · rw [if_pos hz, if_pos hz]
    exact ⟨_, _, _, rfl, rfl, key, by (repeat' first | exact only.refl | exact Or.inl rfl | exact Or.inr rfl | exact Or.inl (hAr _) | exact Or.inl (Ar_7699 (by omega)) | exact fun _ => Or.inl (hAr _) | refine only.trans ?_ (only.sI ?_) | refine only.trans ?_ (only.sJ ?_) | refine only.trans ?_ (only.sN ?_) | refine only.trans ?_ only.sR | refine only.trans ?_ (only.sFr ?_)), by (repeat' first | exact only.refl | exact Or.inl rfl | exact Or.inr rfl | exact Or.inl (hAr _) | exact Or.inl (Ar_7699 (by omega)) | exact fun _ => Or.inl (hAr _) | refine only.trans ?_ (only.sI ?_) | refine only.trans ?_ (only.sJ ?_) | refine only.trans ?_ (only.sN ?_) | refine only.trans ?_ only.sR | refine only.trans ?_ (only.sFr ?_)), cm.sI (by unfold K5; omega), by (repeat' first | exact mm.refl | decide | refine mm.trans ?_ (mm.sI ?_ ?_)), fun _ => rfl, fun _ => rfl⟩
  · rw [if_neg hz, if_neg hz]
    exact ⟨_, _, _, rfl, rfl, key, by (repeat' first | exact only.refl | exact Or.inl rfl | exact Or.inr rfl | exact Or.inl (hAr _) | exact Or.inl (Ar_7699 (by omega)) | exact fun _ => Or.inl (hAr _) | refine only.trans ?_ (only.sI ?_) | refine only.trans ?_ (only.sJ ?_) | refine only.trans ?_ (only.sN ?_) | refine only.trans ?_ only.sR | refine only.trans ?_ (only.sFr ?_)), by (repeat' first | exact only.refl | exact Or.inl rfl | exact Or.inr rfl | exact Or.inl (hAr _) | exact Or.inl (Ar_7699 (by omega)) | exact fun _ => Or.inl (hAr _) | refine only.trans ?_ (only.sI ?_) | refine only.trans ?_ (only.sJ ?_) | refine only.trans ?_ (only.sN ?_) | refine only.trans ?_ only.sR | refine only.trans ?_ (only.sFr ?_)), cm.sI (by unfold K5; omega), by (repeat' first | exact mm.refl | decide | refine mm.trans ?_ (mm.sI ?_ ?_)), fun _ => rfl, fun _ => rfl⟩
