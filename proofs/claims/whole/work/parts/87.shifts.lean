/-! ===== team, stage, run, roster, pulls ===== -/
def R8 (w v : Wd) : Prop := ∃ n ns, D8 w v n ns ∧ (wS w 5 7 = 0 ∨ Ca w ns)
theorem Ar_T {p j : Nat} (h1 : 9 ≤ p) (h2 : p < 124) (h3 : p ≠ 63) : Ar p j = arT.getD p 0 := by
  unfold Ar
  rw [if_pos h2, if_neg (by omega)]
theorem Ar_mid {p j : Nat} (h1 : 29 ≤ p) (h2 : p ≤ 39) : Ar p j = 8 := by
  have k : ∀ p : Fin 40, 29 ≤ p.val → arT.getD p.val 0 = 8 := by decide
  rw [Ar_T (by omega) (by omega) (by omega)]
  exact k ⟨p, by omega⟩ h1
theorem R8.fr {w v w' v' : Wd} (h : R8 w v) (hw : sm 8 w w') (hv : sm 8 v v') : R8 w' v' := by
  obtain ⟨n, ns, ⟨d1, d2, d3, d4, d5, d6, d7, d8, d9, d10⟩, c⟩ := h
  refine ⟨n, ns, ⟨d1, d2, ((hw 5 1 rfl).1).trans d3, ((hv 63 50 rfl).1).trans d4, ((hw 5 3 rfl).1).trans d5, ((hv 63 52 rfl).1).trans d6, fun i hi => ?_, fun i hi => ?_, ?_, fun i hi => ?_⟩, ?_⟩
  · rw [(hw 29 i rfl).1, (hv 100 i rfl).1]; exact d7 i hi
  · rw [(hw 30 i rfl).1, (hv 101 i rfl).1]; exact d8 i hi
  · rw [(hw 5 4 rfl).1, (hv 63 54 rfl).1]; exact d9
  · rw [(hw 31 i rfl).1]; exact d10 i hi
  · rcases c with c | c
    · exact Or.inl (((hw 5 7 rfl).1).trans c)
    · refine Or.inr (c.fr d2 ⟨(hw 5 1 rfl).1, (hw 5 4 rfl).1⟩ (fun p j a b => (hw p j ?_).1))
      exact Ar_mid a b
theorem F8.only {w w' : Wd} (h : F8 w w') : only 8 w w' := fun b h0 hb p j hp => by
  by_cases q : 32 ≤ p ∧ p ≤ 39
  · exfalso
    rw [Ar_mid (by omega) q.2] at hp
    exact hb hp.symm
  · refine h.1 p j (fun z => ?_) q
    rw [z.1, z.2] at hp
    exact hb (hp.symm.trans rfl)
theorem F8.cm {w w' : Wd} (h : F8 w w') : cm w w' := fun p j h1 h2 => (h.1 p j (by omega) (by omega)).1
theorem G8.only {w w' : Wd} (h : G8 w w') : only 8 w w' := fun b h0 hb p j hp => by
  refine h.1 p j (fun z => ?_) (fun z => ?_)
  · rw [z] at hp
    exact hb (hp.symm.trans rfl)
  · rw [z] at hp
    exact hb (hp.symm.trans rfl)
theorem G8.mm {w w' : Wd} (h : G8 w w') : mm w w' := fun p j h1 => h.1 p j (by omega) (by omega)
theorem c_team {w v : Wd} (h : R8 w v) (a : Int32) : OK 8 R8 (f_X11_team w a) (f_X12_team v a) w v := by
  obtain ⟨n, ns, ⟨d1, d2, d3, d4, d5, d6, d7, d8, d9, d10⟩, c⟩ := id h
  unfold f_X11_team f_X7_addTeam f_X12_team
  rw [in_eq]
  rcases win_c a 1 300 with q | ⟨q, a1, a2⟩
  · rw [q]; exact OK.same h
  rw [q]
  by_cases hf : n = 4
  · subst hf
    simp only [q_gt, d3, d4]
    exact OK.same h
  have hlt : n < 4 := by omega
  have x1 : nI n < (4 : Int32) := nI_lt (b := 4) hlt (by decide)
  have x2 : ¬ nI n = (4 : Int32) := fun z => hf ((nI_eq (b := 4) (by omega) (by decide)).mp z)
  simp only [if_neg one0, q_gt, q_lt, q_jn, q_pt, q_bo, q_bi, d3, d4, if_pos x1, if_neg x2, st_n hlt (show 4 < 2 ^ 31 by decide), wS_sI, if_false, if_true, false_and, and_false, true_and, and_true, and_self, reduceIte, Nat.reduceEqDiff, ne_eq, not_false_eq_true, not_true_eq_false, nI_1, nI_pred]
  refine ⟨_, _, _, rfl, rfl, ⟨n + 1, ns, ⟨by omega, d2, ?_, ?_, ?_, ?_, fun i hi => ?_, fun i hi => ?_, ⟨?_, ?_⟩, fun i hi => ?_⟩, Or.inl ?_⟩, by (repeat' first | exact only.refl | exact Or.inl rfl | exact Or.inr rfl | exact Or.inl (hAr _) | exact Or.inl (Ar_7699 (by omega)) | exact fun _ => Or.inl (hAr _) | refine only.trans ?_ (only.sI ?_) | refine only.trans ?_ (only.sJ ?_) | refine only.trans ?_ (only.sN ?_) | refine only.trans ?_ only.sR | refine only.trans ?_ (only.sFr ?_)), by (repeat' first | exact only.refl | exact Or.inl rfl | exact Or.inr rfl | exact Or.inl (hAr _) | exact Or.inl (Ar_7699 (by omega)) | exact fun _ => Or.inl (hAr _) | refine only.trans ?_ (only.sI ?_) | refine only.trans ?_ (only.sJ ?_) | refine only.trans ?_ (only.sN ?_) | refine only.trans ?_ only.sR | refine only.trans ?_ (only.sFr ?_)), by (repeat' first | exact cm.refl | exact Or.inl (by decide) | exact Or.inr (by omega) | refine cm.trans ?_ (cm.sI ?_) | refine cm.trans ?_ cm.sJ | refine cm.trans ?_ (cm.sN ?_) | refine cm.trans ?_ cm.sR | refine cm.trans ?_ (cm.sFr ?_)), by (repeat' first | exact mm.refl | decide | refine mm.trans ?_ (mm.sI ?_ ?_)), fun _ => rfl, fun _ => rfl⟩
  · (repeat first | rw [wS_sI, if_pos ⟨rfl, rfl⟩] | rw [wS_sI, if_neg (by omega)] | rw [wS_sN, if_neg (by omega)] | rw [wS_sR] | rw [wS_sN, if_pos rfl] | rw [wS_sFr, if_neg (by omega)] | rw [wS_sFr, if_pos (by omega)])
  · (repeat first | rw [wS_sI, if_pos ⟨rfl, rfl⟩] | rw [wS_sI, if_neg (by omega)] | rw [wS_sN, if_neg (by omega)] | rw [wS_sR] | rw [wS_sN, if_pos rfl] | rw [wS_sFr, if_neg (by omega)] | rw [wS_sFr, if_pos (by omega)])
  · (repeat first | rw [wS_sI, if_pos ⟨rfl, rfl⟩] | rw [wS_sI, if_neg (by omega)] | rw [wS_sN, if_neg (by omega)] | rw [wS_sR] | rw [wS_sN, if_pos rfl] | rw [wS_sFr, if_neg (by omega)] | rw [wS_sFr, if_pos (by omega)]); exact d5
  · (repeat first | rw [wS_sI, if_pos ⟨rfl, rfl⟩] | rw [wS_sI, if_neg (by omega)] | rw [wS_sN, if_neg (by omega)] | rw [wS_sR] | rw [wS_sN, if_pos rfl] | rw [wS_sFr, if_neg (by omega)] | rw [wS_sFr, if_pos (by omega)]); exact d6
  · by_cases hin : i = n
    · subst hin
      (repeat first | rw [wS_sI, if_pos ⟨rfl, rfl⟩] | rw [wS_sI, if_neg (by omega)] | rw [wS_sN, if_neg (by omega)] | rw [wS_sR] | rw [wS_sN, if_pos rfl] | rw [wS_sFr, if_neg (by omega)] | rw [wS_sFr, if_pos (by omega)])
    · have := d7 i (by omega)
      (repeat first | rw [wS_sI, if_pos ⟨rfl, rfl⟩] | rw [wS_sI, if_neg (by omega)] | rw [wS_sN, if_neg (by omega)] | rw [wS_sR] | rw [wS_sN, if_pos rfl] | rw [wS_sFr, if_neg (by omega)] | rw [wS_sFr, if_pos (by omega)]); exact this
  · have := d8 i hi
    (repeat first | rw [wS_sI, if_pos ⟨rfl, rfl⟩] | rw [wS_sI, if_neg (by omega)] | rw [wS_sN, if_neg (by omega)] | rw [wS_sR] | rw [wS_sN, if_pos rfl] | rw [wS_sFr, if_neg (by omega)] | rw [wS_sFr, if_pos (by omega)]); exact this
  · (repeat first | rw [wS_sI, if_pos ⟨rfl, rfl⟩] | rw [wS_sI, if_neg (by omega)] | rw [wS_sN, if_neg (by omega)] | rw [wS_sR] | rw [wS_sN, if_pos rfl] | rw [wS_sFr, if_neg (by omega)] | rw [wS_sFr, if_pos (by omega)]); exact d9.1
  · (repeat first | rw [wS_sI, if_pos ⟨rfl, rfl⟩] | rw [wS_sI, if_neg (by omega)] | rw [wS_sN, if_neg (by omega)] | rw [wS_sR] | rw [wS_sN, if_pos rfl] | rw [wS_sFr, if_neg (by omega)] | rw [wS_sFr, if_pos (by omega)]); exact d9.2
  · have := d10 i hi
    (repeat first | rw [wS_sI, if_pos ⟨rfl, rfl⟩] | rw [wS_sI, if_neg (by omega)] | rw [wS_sN, if_neg (by omega)] | rw [wS_sR] | rw [wS_sN, if_pos rfl] | rw [wS_sFr, if_neg (by omega)] | rw [wS_sFr, if_pos (by omega)]); exact this
  · (repeat first | rw [wS_sI, if_pos ⟨rfl, rfl⟩] | rw [wS_sI, if_neg (by omega)] | rw [wS_sN, if_neg (by omega)] | rw [wS_sR] | rw [wS_sN, if_pos rfl] | rw [wS_sFr, if_neg (by omega)] | rw [wS_sFr, if_pos (by omega)])
theorem c_stage {w v : Wd} (h : R8 w v) (a : Int32) : OK 8 R8 (f_X11_stage w a) (f_X12_stage v a) w v := by
  obtain ⟨n, ns, ⟨d1, d2, d3, d4, d5, d6, d7, d8, d9, d10⟩, c⟩ := id h
  unfold f_X11_stage f_X7_addStage f_X12_stage
  rw [in_eq]
  rcases win_c a 0 2000 with q | ⟨q, a1, a2⟩
  · rw [q]; exact OK.same h
  rw [q]
  by_cases hf : ns = 6
  · subst hf
    simp only [q_gt, d5, d6]
    exact OK.same h
  have hlt : ns < 6 := by omega
  have x1 : nI ns < (6 : Int32) := nI_lt (b := 6) hlt (by decide)
  have x2 : ¬ nI ns = (6 : Int32) := fun z => hf ((nI_eq (b := 6) (by omega) (by decide)).mp z)
  simp only [if_neg one0, q_gt, q_lt, q_jn, q_pt, q_bo, q_bi, d5, d6, if_pos x1, if_neg x2, st_n hlt (show 6 < 2 ^ 31 by decide), wS_sI, if_false, if_true, false_and, and_false, true_and, and_true, and_self, reduceIte, Nat.reduceEqDiff, ne_eq, not_false_eq_true, not_true_eq_false, nI_1, nI_pred]
  refine ⟨_, _, _, rfl, rfl, ⟨n, ns + 1, ⟨d1, by omega, ?_, ?_, ?_, ?_, fun i hi => ?_, fun i hi => ?_, ⟨?_, ?_⟩, fun i hi => ?_⟩, Or.inl ?_⟩, by (repeat' first | exact only.refl | exact Or.inl rfl | exact Or.inr rfl | exact Or.inl (hAr _) | exact Or.inl (Ar_7699 (by omega)) | exact fun _ => Or.inl (hAr _) | refine only.trans ?_ (only.sI ?_) | refine only.trans ?_ (only.sJ ?_) | refine only.trans ?_ (only.sN ?_) | refine only.trans ?_ only.sR | refine only.trans ?_ (only.sFr ?_)), by (repeat' first | exact only.refl | exact Or.inl rfl | exact Or.inr rfl | exact Or.inl (hAr _) | exact Or.inl (Ar_7699 (by omega)) | exact fun _ => Or.inl (hAr _) | refine only.trans ?_ (only.sI ?_) | refine only.trans ?_ (only.sJ ?_) | refine only.trans ?_ (only.sN ?_) | refine only.trans ?_ only.sR | refine only.trans ?_ (only.sFr ?_)), by (repeat' first | exact cm.refl | exact Or.inl (by decide) | exact Or.inr (by omega) | refine cm.trans ?_ (cm.sI ?_) | refine cm.trans ?_ cm.sJ | refine cm.trans ?_ (cm.sN ?_) | refine cm.trans ?_ cm.sR | refine cm.trans ?_ (cm.sFr ?_)), by (repeat' first | exact mm.refl | decide | refine mm.trans ?_ (mm.sI ?_ ?_)), fun _ => rfl, fun _ => rfl⟩
  · (repeat first | rw [wS_sI, if_pos ⟨rfl, rfl⟩] | rw [wS_sI, if_neg (by omega)] | rw [wS_sN, if_neg (by omega)] | rw [wS_sR] | rw [wS_sN, if_pos rfl] | rw [wS_sFr, if_neg (by omega)] | rw [wS_sFr, if_pos (by omega)]); exact d3
  · (repeat first | rw [wS_sI, if_pos ⟨rfl, rfl⟩] | rw [wS_sI, if_neg (by omega)] | rw [wS_sN, if_neg (by omega)] | rw [wS_sR] | rw [wS_sN, if_pos rfl] | rw [wS_sFr, if_neg (by omega)] | rw [wS_sFr, if_pos (by omega)]); exact d4
  · (repeat first | rw [wS_sI, if_pos ⟨rfl, rfl⟩] | rw [wS_sI, if_neg (by omega)] | rw [wS_sN, if_neg (by omega)] | rw [wS_sR] | rw [wS_sN, if_pos rfl] | rw [wS_sFr, if_neg (by omega)] | rw [wS_sFr, if_pos (by omega)])
  · (repeat first | rw [wS_sI, if_pos ⟨rfl, rfl⟩] | rw [wS_sI, if_neg (by omega)] | rw [wS_sN, if_neg (by omega)] | rw [wS_sR] | rw [wS_sN, if_pos rfl] | rw [wS_sFr, if_neg (by omega)] | rw [wS_sFr, if_pos (by omega)])
  · have := d7 i hi
    (repeat first | rw [wS_sI, if_pos ⟨rfl, rfl⟩] | rw [wS_sI, if_neg (by omega)] | rw [wS_sN, if_neg (by omega)] | rw [wS_sR] | rw [wS_sN, if_pos rfl] | rw [wS_sFr, if_neg (by omega)] | rw [wS_sFr, if_pos (by omega)]); exact this
  · by_cases hin : i = ns
    · subst hin
      (repeat first | rw [wS_sI, if_pos ⟨rfl, rfl⟩] | rw [wS_sI, if_neg (by omega)] | rw [wS_sN, if_neg (by omega)] | rw [wS_sR] | rw [wS_sN, if_pos rfl] | rw [wS_sFr, if_neg (by omega)] | rw [wS_sFr, if_pos (by omega)])
    · have := d8 i (by omega)
      (repeat first | rw [wS_sI, if_pos ⟨rfl, rfl⟩] | rw [wS_sI, if_neg (by omega)] | rw [wS_sN, if_neg (by omega)] | rw [wS_sR] | rw [wS_sN, if_pos rfl] | rw [wS_sFr, if_neg (by omega)] | rw [wS_sFr, if_pos (by omega)]); exact this
  · (repeat first | rw [wS_sI, if_pos ⟨rfl, rfl⟩] | rw [wS_sI, if_neg (by omega)] | rw [wS_sN, if_neg (by omega)] | rw [wS_sR] | rw [wS_sN, if_pos rfl] | rw [wS_sFr, if_neg (by omega)] | rw [wS_sFr, if_pos (by omega)]); exact d9.1
  · (repeat first | rw [wS_sI, if_pos ⟨rfl, rfl⟩] | rw [wS_sI, if_neg (by omega)] | rw [wS_sN, if_neg (by omega)] | rw [wS_sR] | rw [wS_sN, if_pos rfl] | rw [wS_sFr, if_neg (by omega)] | rw [wS_sFr, if_pos (by omega)]); exact d9.2
  · have := d10 i hi
    (repeat first | rw [wS_sI, if_pos ⟨rfl, rfl⟩] | rw [wS_sI, if_neg (by omega)] | rw [wS_sN, if_neg (by omega)] | rw [wS_sR] | rw [wS_sN, if_pos rfl] | rw [wS_sFr, if_neg (by omega)] | rw [wS_sFr, if_pos (by omega)]); exact this
  · (repeat first | rw [wS_sI, if_pos ⟨rfl, rfl⟩] | rw [wS_sI, if_neg (by omega)] | rw [wS_sN, if_neg (by omega)] | rw [wS_sR] | rw [wS_sN, if_pos rfl] | rw [wS_sFr, if_neg (by omega)] | rw [wS_sFr, if_pos (by omega)])
theorem c_run {w v : Wd} (h : R8 w v) (a : Int32) : OK 8 R8 (f_X11_run w a) (f_X12_run v a) w v := by
  obtain ⟨n, ns, ⟨d1, d2, d3, d4, d5, d6, d7, d8, d9, d10⟩, c⟩ := id h
  unfold f_X11_run f_X7_tellRun f_X12_run
  rw [in_eq]
  rcases win_c a 1 3 with q | ⟨q, a1, a2⟩
  · rw [q]; exact OK.same h
  rw [q]
  simp only [if_neg one0, q_gt, q_lt, q_jn, q_pt, q_bo, q_bi, wS_sI, if_false, if_true, false_and, and_false, true_and, and_true, and_self, reduceIte, Nat.reduceEqDiff, ne_eq, not_false_eq_true, not_true_eq_false, d9.1]
  refine ⟨_, _, _, rfl, rfl, ⟨n, ns, ⟨d1, d2, ?_, ?_, ?_, ?_, fun i hi => ?_, fun i hi => ?_, ⟨?_, ?_⟩, fun i hi => ?_⟩, Or.inl ?_⟩, by (repeat' first | exact only.refl | exact Or.inl rfl | exact Or.inr rfl | exact Or.inl (hAr _) | exact Or.inl (Ar_7699 (by omega)) | exact fun _ => Or.inl (hAr _) | refine only.trans ?_ (only.sI ?_) | refine only.trans ?_ (only.sJ ?_) | refine only.trans ?_ (only.sN ?_) | refine only.trans ?_ only.sR | refine only.trans ?_ (only.sFr ?_)), by (repeat' first | exact only.refl | exact Or.inl rfl | exact Or.inr rfl | exact Or.inl (hAr _) | exact Or.inl (Ar_7699 (by omega)) | exact fun _ => Or.inl (hAr _) | refine only.trans ?_ (only.sI ?_) | refine only.trans ?_ (only.sJ ?_) | refine only.trans ?_ (only.sN ?_) | refine only.trans ?_ only.sR | refine only.trans ?_ (only.sFr ?_)), by (repeat' first | exact cm.refl | exact Or.inl (by decide) | exact Or.inr (by omega) | refine cm.trans ?_ (cm.sI ?_) | refine cm.trans ?_ cm.sJ | refine cm.trans ?_ (cm.sN ?_) | refine cm.trans ?_ cm.sR | refine cm.trans ?_ (cm.sFr ?_)), by (repeat' first | exact mm.refl | decide | refine mm.trans ?_ (mm.sI ?_ ?_)), fun _ => rfl, fun _ => rfl⟩
  · (repeat first | rw [wS_sI, if_pos ⟨rfl, rfl⟩] | rw [wS_sI, if_neg (by omega)] | rw [wS_sN, if_neg (by omega)] | rw [wS_sR] | rw [wS_sN, if_pos rfl] | rw [wS_sFr, if_neg (by omega)] | rw [wS_sFr, if_pos (by omega)]); exact d3
  · (repeat first | rw [wS_sI, if_pos ⟨rfl, rfl⟩] | rw [wS_sI, if_neg (by omega)] | rw [wS_sN, if_neg (by omega)] | rw [wS_sR] | rw [wS_sN, if_pos rfl] | rw [wS_sFr, if_neg (by omega)] | rw [wS_sFr, if_pos (by omega)]); exact d4
  · (repeat first | rw [wS_sI, if_pos ⟨rfl, rfl⟩] | rw [wS_sI, if_neg (by omega)] | rw [wS_sN, if_neg (by omega)] | rw [wS_sR] | rw [wS_sN, if_pos rfl] | rw [wS_sFr, if_neg (by omega)] | rw [wS_sFr, if_pos (by omega)]); exact d5
  · (repeat first | rw [wS_sI, if_pos ⟨rfl, rfl⟩] | rw [wS_sI, if_neg (by omega)] | rw [wS_sN, if_neg (by omega)] | rw [wS_sR] | rw [wS_sN, if_pos rfl] | rw [wS_sFr, if_neg (by omega)] | rw [wS_sFr, if_pos (by omega)]); exact d6
  · have := d7 i hi
    (repeat first | rw [wS_sI, if_pos ⟨rfl, rfl⟩] | rw [wS_sI, if_neg (by omega)] | rw [wS_sN, if_neg (by omega)] | rw [wS_sR] | rw [wS_sN, if_pos rfl] | rw [wS_sFr, if_neg (by omega)] | rw [wS_sFr, if_pos (by omega)]); exact this
  · have := d8 i hi
    (repeat first | rw [wS_sI, if_pos ⟨rfl, rfl⟩] | rw [wS_sI, if_neg (by omega)] | rw [wS_sN, if_neg (by omega)] | rw [wS_sR] | rw [wS_sN, if_pos rfl] | rw [wS_sFr, if_neg (by omega)] | rw [wS_sFr, if_pos (by omega)]); exact this
  · (repeat first | rw [wS_sI, if_pos ⟨rfl, rfl⟩] | rw [wS_sI, if_neg (by omega)] | rw [wS_sN, if_neg (by omega)] | rw [wS_sR] | rw [wS_sN, if_pos rfl] | rw [wS_sFr, if_neg (by omega)] | rw [wS_sFr, if_pos (by omega)])
  · (repeat first | rw [wS_sI, if_pos ⟨rfl, rfl⟩] | rw [wS_sI, if_neg (by omega)] | rw [wS_sN, if_neg (by omega)] | rw [wS_sR] | rw [wS_sN, if_pos rfl] | rw [wS_sFr, if_neg (by omega)] | rw [wS_sFr, if_pos (by omega)]); exact bt_of a1 a2 (by decide) (by decide)
  · have := d10 i hi
    (repeat first | rw [wS_sI, if_pos ⟨rfl, rfl⟩] | rw [wS_sI, if_neg (by omega)] | rw [wS_sN, if_neg (by omega)] | rw [wS_sR] | rw [wS_sN, if_pos rfl] | rw [wS_sFr, if_neg (by omega)] | rw [wS_sFr, if_pos (by omega)]); exact this
  · (repeat first | rw [wS_sI, if_pos ⟨rfl, rfl⟩] | rw [wS_sI, if_neg (by omega)] | rw [wS_sN, if_neg (by omega)] | rw [wS_sR] | rw [wS_sN, if_pos rfl] | rw [wS_sFr, if_neg (by omega)] | rw [wS_sFr, if_pos (by omega)])
theorem c_fewest {w v : Wd} (h : R8 w v) : ∃ r w1 v1 s, f_X7_fewest w = some (r, w1) ∧ f_X12_rosterOrNot v = some (r, v1) ∧ f_X12_rosters v = some (s, v1) ∧ F8 w w1 ∧ G8 v v1 ∧ R8 w1 v1 ∧ ((s = -1 ∧ r = -3) ∨ (s ≠ -1 ∧ r ≠ -3 ∧ ∀ j, nI j < wS w 5 3 → j < 6 → wS v1 103 j = wS w1 39 j)) := by
  obtain ⟨n, ns, D, c⟩ := id h
  obtain ⟨w1, k1, k2, k3⟩ := c_reckon D c
  have D1 := D.fr k2 (G8.refl (w := v))
  obtain ⟨s, v1, r1, r2, r3⟩ := c_rosters D1 k3
  have D2 := D1.fr (F8.refl (w := w1)) r2
  unfold f_X7_fewest f_X12_rosterOrNot
  rw [k1, r1]
  simp only [bo_v, bi_v, ldq_0 (show 0 < 7 by decide) (show 7 < 2 ^ 31 by decide) (D1.2.2.2.2.2.2.2.2.2 0 (by decide)), rt_31, ld_0 (show 0 < 256 by decide) (show 256 < 2 ^ 31 by decide)]
  have R := (⟨n, ns, D2, Or.inr k3⟩ : R8 w1 v1)
  rcases r3 with ⟨rfl, x2⟩ | ⟨x1, x2, x3, x4, x5⟩
  · rw [if_neg x2, if_pos rfl]
    exact ⟨_, w1, v1, -1, rfl, rfl, rfl, k2, r2, R, Or.inl ⟨rfl, rfl⟩⟩
  · rw [if_pos x2, if_neg x3, x1]
    refine ⟨_, w1, v1, s, rfl, rfl, by rw [x1], k2, r2, R, Or.inr ⟨x3, by rw [← x1]; exact x4, fun j hj h6 => x5 j ?_⟩⟩
    rw [D.2.2.2.2.1] at hj
    exact (nI_ltI (by omega) (by have := D.2.1; omega)).mp hj
theorem c_roster {w v : Wd} (h : R8 w v) : OK 8 R8 (f_X11_roster w) (f_X12_roster v) w v := by
  obtain ⟨r, w1, v1, s, k1, k2, -, k3, k4, k5, -⟩ := c_fewest h
  unfold f_X11_roster f_X12_roster
  rw [k1, k2]
  exact ⟨r, w1, v1, rfl, rfl, k5, k3.only, k4.only, k3.cm, k4.mm, k3.2, k4.2⟩
theorem c_pulls {w v : Wd} (h : R8 w v) (a : Int32) : OK 8 R8 (f_X11_pulls w a) (f_X12_pulls v a) w v := by
  obtain ⟨n, ns, D, c⟩ := id h
  obtain ⟨r, w1, v1, s, k1, -, k2, k3, k4, k5, k6⟩ := c_fewest h
  unfold f_X11_pulls f_X7_teamsOf f_X12_pulls
  rw [in_eq]
  simp only [q_gt]
  rw [D.2.2.2.2.1, D.2.2.2.2.2.1]
  rcases win_n a (n := ns) (by have := D.2.1; omega) with q | ⟨q, i, hi, rfl⟩
  · rw [q]; exact OK.same h
  rw [q, if_neg one0, if_neg one0, k1, k2]
  have hi6 : i < 6 := by have := D.2.1; omega
  simp only [bi_v]
  rcases k6 with ⟨rfl, rfl⟩ | ⟨x1, x2, x3⟩
  · rw [if_pos rfl, if_pos rfl]
    exact ⟨_, w1, v1, rfl, rfl, k5, k3.only, k4.only, k3.cm, k4.mm, k3.2, k4.2⟩
  · rw [if_neg x1, if_neg x2]
    simp only [ld_n hi6 (show 6 < 2 ^ 31 by decide)]
    rw [x3 i (by rw [D.2.2.2.2.1]; exact nI_lt hi (by have := D.2.1; omega)) hi6]
    exact ⟨_, w1, v1, rfl, rfl, k5, k3.only, k4.only, k3.cm, k4.mm, k3.2, k4.2⟩
