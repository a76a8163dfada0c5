/-! ===== storeys and new cars ===== -/
theorem nI_sub (i : Nat) (h : 1 ≤ i) : nI i - 1 = nI (i - 1) := by
  obtain ⟨j, rfl⟩ : ∃ j, i = j + 1 := ⟨i - 1, by omega⟩
  rw [nI_pred]; rfl
theorem height_c {w : Wd} {c s i : Nat} (e1 : wS w (K5 c) 7 = nI s) (hs : s ≤ 5) (hi : i < s) : f_X1_heightOf w (K5 c) (nI i) = some (wS w (K5 c + 1) i) := by
  unfold f_X1_heightOf
  rw [if_neg (nI_pos (by omega))]
  simp only [q_gt, e1, if_neg (nI_ge hi (by omega)), ld_n (show i < 5 by omega) (show 5 < 2 ^ 31 by decide)]
/-- the foot of the storey i -/
def foot (w : Wd) (c i : Nat) : Int32 := if i = 0 then 0 else wS w (K5 c + 1) (i - 1)
theorem foot_b {w v : Wd} {c s i : Nat} (h : ∀ i, i < s → (wS w (K5 c + 1) i = wS v 81 (5 * c + i) ∧ bt 1 99 (wS w (K5 c + 1) i)) ∧ (wS w (K5 c + 2) i = wS v 82 (5 * c + i) ∧ bt 1 30 (wS w (K5 c + 2) i)) ∧ (wS w (K5 c + 3) i = wS v 83 (5 * c + i) ∧ bt 1 30 (wS w (K5 c + 3) i))) (hi : i ≤ s) : bt 0 99 (foot w c i) := by
  unfold foot
  by_cases h0 : i = 0
  · rw [if_pos h0]; exact ⟨by decide, by decide⟩
  · rw [if_neg h0]
    exact bt_w (h (i - 1) (by omega)).1.2 (by decide) (by decide)
theorem footC {w : Wd} {c s i : Nat} (e1 : wS w (K5 c) 7 = nI s) (hs : s ≤ 5) (hi : i ≤ s) : f_X1_footOf w (K5 c) (nI i) = some (foot w c i) := by
  unfold f_X1_footOf foot
  by_cases h0 : i = 0
  · subst h0
    have e : f_X1_heightOf w (K5 c) (nI 0 - 1) = some 0 := by
      unfold f_X1_heightOf
      rw [if_pos (by decide)]
    rw [e]; rfl
  · rw [if_neg h0, nI_sub i (by omega), height_c e1 hs (by omega)]; rfl
theorem footM {w v : Wd} {c s i : Nat} (hc : c < 4) (hs : s ≤ 5) (h : ∀ i, i < s → wS w (K5 c + 1) i = wS v 81 (5 * c + i)) (hi : i ≤ s) : f_X12_footOf v (nI c) (nI i) = some (foot w c i) := by
  unfold f_X12_footOf foot
  by_cases h0 : i = 0
  · subst h0
    rw [if_pos (by decide), if_pos rfl]
  · rw [if_neg (nI_ne0 (by omega) (by omega)), if_neg h0]
    have e : (5 : Int32) * nI c + nI i - 1 = nI (5 * c + (i - 1)) := by
      have e5 : (5 : Int32) * nI c = nI (5 * c) := (Int32.ofNat_mul 5 c).symm
      rw [e5, nI_add, nI_sub _ (by omega)]
      congr 1
      omega
    rw [e, ld_n (show 5 * c + (i - 1) < 20 by omega) (by decide), h (i - 1) (by omega)]
theorem win_foot {a f : Int32} (hf : bt 0 99 f) : f_X11_within a (f + 1) 99 = if f_X11_within a 1 99 = 0 then 0 else if f < a then 1 else 0 := by
  have e : (f + 1).toInt = f.toInt + 1 := by
    rw [Int32.toInt_add]
    show (f.toInt + 1).bmod (2 ^ 32) = _
    exact Int.bmod_eq_of_le (by have := hf.1; omega) (by have := hf.2; omega)
  have h1 := hf.1
  have o1 : (1 : Int32).toInt = 1 := by decide
  rcases win_c a 1 99 with q | ⟨q, a1, a2⟩
  · rw [q, if_pos rfl]
    apply win_f
    rcases win_c a (f + 1) 99 with p | ⟨p, b1, b2⟩
    · by_cases h3 : a < f + 1
      · exact Or.inl h3
      · refine Or.inr (Int32.not_le.mp fun z => ?_)
        have := win_t (Int32.not_lt.mp h3) z
        rw [this] at p
        exact one0 p
    · exfalso
      have z : (1 : Int32) ≤ a := by
        rw [Int32.le_iff_toInt_le] at b1 ⊢
        omega
      have := win_t z b2
      rw [this] at q
      exact one0 q
  · rw [q, if_neg one0]
    by_cases h2 : f < a
    · rw [if_pos h2]
      refine win_t ?_ a2
      rw [Int32.lt_iff_toInt_lt] at h2
      rw [Int32.le_iff_toInt_le]
      omega
    · rw [if_neg h2]
      refine win_f (Or.inl ?_)
      rw [Int32.lt_iff_toInt_lt] at h2 ⊢
      omega
theorem c_storey {w v : Wd} (h : R5 w v) (a b d e : Int32) : OK 5 R5 (f_X11_storey w a b d e) (f_X12_storey v a b d e) w v := by
  unfold f_X11_storey f_X12_storey
  rw [in_eq]
  rcases carAt_c h a with ⟨q1, q2⟩ | ⟨c, hc, hcn, rfl, q1, q2, A, S, P, Q⟩
  · rw [q1, q2]; exact OK.same h
  obtain ⟨s, hs, s1, s2, hh⟩ := S
  have hfb := foot_b hh (Nat.le_refl s)
  unfold f_X1_addStorey
  rw [q1, q2]
  simp only [q_gt, q_lt, q_jn, q_pt, q_bo, q_bi, if_neg one0, if_neg (K5_ne (c := c)), ld_n hc (show 4 < 2 ^ 31 by decide), s1, s2, footC s1 hs (Nat.le_refl s), footM hc hs (fun i hi => (hh i hi).1.1) (Nat.le_refl s)]
  rw [win_foot hfb]
  rcases win_c b 1 99 with q | ⟨q, b1, b2⟩
  · rw [q]; exact OK.same h
  rw [q]
  simp only [if_neg one0]
  by_cases hfl : foot w c s < b
  · simp only [if_pos hfl, if_neg one0]
    rcases win_c d 1 30 with q | ⟨q, d1, d2⟩
    · rw [q]; exact OK.same h
    rw [q]
    rcases win_c e 1 30 with q | ⟨q, e1, e2⟩
    · rw [q]; exact OK.same h
    rw [q]
    have B1 : bt 1 99 b := bt_of b1 b2 (by decide) (by decide)
    have B2 : bt 1 30 d := bt_of d1 d2 (by decide) (by decide)
    have B3 : bt 1 30 e := bt_of e1 e2 (by decide) (by decide)
    by_cases h5 : s = 5
    · subst h5
      exact OK.same h
    have hs5 : s < 5 := by omega
    have x1 : nI s < (5 : Int32) := nI_lt (b := 5) hs5 (by decide)
    have x2 : ¬ nI s = (5 : Int32) := fun z => h5 ((nI_eq (b := 5) (by omega) (by decide)).mp z)
    have e5 : (5 : Int32) * nI c + nI s = nI (5 * c + s) := by
      have e5 : (5 : Int32) * nI c = nI (5 * c) := (Int32.ofNat_mul 5 c).symm
      rw [e5, nI_add]
    have k1 : ¬ (K5 c = K5 c + 1) := by omega
    have k2 : ¬ (K5 c = K5 c + 2) := by omega
    have k3 : ¬ (K5 c = K5 c + 3) := by omega
    simp only [if_neg one0, if_pos x1, if_neg x2, e5, st_n hs5 (show 5 < 2 ^ 31 by decide), st_n (show 5 * c + s < 20 by omega) (show 20 < 2 ^ 31 by decide), st_n hc (show 4 < 2 ^ 31 by decide), ld_n hc (show 4 < 2 ^ 31 by decide), wS_sI, k1, k2, k3, if_false, if_true, false_and, and_false, true_and, and_true, and_self, reduceIte, Nat.reduceEqDiff, ne_eq, not_false_eq_true, not_true_eq_false, s1, s2, nI_1]
    refine ⟨_, _, _, rfl, rfl, ?_, (((only.sI (Or.inl (Ar_K hc (by omega)))).trans (only.sI (Or.inl (Ar_K hc (by omega))))).trans (only.sI (Or.inl (Ar_K hc (by omega))))).trans (only.sI (Or.inl (Ar_K0 hc))), by (repeat' first | exact only.refl | exact Or.inl rfl | exact Or.inr rfl | exact Or.inl (hAr _) | exact Or.inl (Ar_7699 (by omega)) | exact fun _ => Or.inl (hAr _) | refine only.trans ?_ (only.sI ?_) | refine only.trans ?_ (only.sJ ?_) | refine only.trans ?_ (only.sN ?_) | refine only.trans ?_ only.sR | refine only.trans ?_ (only.sFr ?_)), (((cm.sI (by unfold K5; omega)).trans (cm.sI (by unfold K5; omega))).trans (cm.sI (by unfold K5; omega))).trans (cm.sI (by unfold K5; omega)), by (repeat' first | exact mm.refl | decide | refine mm.trans ?_ (mm.sI ?_ ?_)), fun _ => rfl, fun _ => rfl⟩
    refine h.one hcn hc ?_ ?_ (fun i => ?_) (fun p j _ _ _ => ?_) (fun m i _ _ _ => ?_) (fun m d i _ _ _ _ _ => ?_) (fun m d i _ _ _ _ _ => ?_) ⟨?_, ?_, ?_, ?_⟩
    · unfold K5; (repeat first | rw [wS_sI, if_pos ⟨rfl, rfl⟩] | rw [wS_sI, if_neg (by omega)] | rw [wS_sN, if_neg (by omega)] | rw [wS_sR] | rw [wS_sN, if_pos rfl] | rw [wS_sFr, if_neg (by omega)] | rw [wS_sFr, if_pos (by omega)])
    · (repeat first | rw [wS_sI, if_pos ⟨rfl, rfl⟩] | rw [wS_sI, if_neg (by omega)] | rw [wS_sN, if_neg (by omega)] | rw [wS_sR] | rw [wS_sN, if_pos rfl] | rw [wS_sFr, if_neg (by omega)] | rw [wS_sFr, if_pos (by omega)])
    · unfold K5; (repeat first | rw [wS_sI, if_pos ⟨rfl, rfl⟩] | rw [wS_sI, if_neg (by omega)] | rw [wS_sN, if_neg (by omega)] | rw [wS_sR] | rw [wS_sN, if_pos rfl] | rw [wS_sFr, if_neg (by omega)] | rw [wS_sFr, if_pos (by omega)])
    · unfold K5 at *; (repeat first | rw [wS_sI, if_pos ⟨rfl, rfl⟩] | rw [wS_sI, if_neg (by omega)] | rw [wS_sN, if_neg (by omega)] | rw [wS_sR] | rw [wS_sN, if_pos rfl] | rw [wS_sFr, if_neg (by omega)] | rw [wS_sFr, if_pos (by omega)])
    · (repeat first | rw [wS_sI, if_pos ⟨rfl, rfl⟩] | rw [wS_sI, if_neg (by omega)] | rw [wS_sN, if_neg (by omega)] | rw [wS_sR] | rw [wS_sN, if_pos rfl] | rw [wS_sFr, if_neg (by omega)] | rw [wS_sFr, if_pos (by omega)])
    · (repeat first | rw [wS_sI, if_pos ⟨rfl, rfl⟩] | rw [wS_sI, if_neg (by omega)] | rw [wS_sN, if_neg (by omega)] | rw [wS_sR] | rw [wS_sN, if_pos rfl] | rw [wS_sFr, if_neg (by omega)] | rw [wS_sFr, if_pos (by omega)])
    · (repeat first | rw [wS_sI, if_pos ⟨rfl, rfl⟩] | rw [wS_sI, if_neg (by omega)] | rw [wS_sN, if_neg (by omega)] | rw [wS_sR] | rw [wS_sN, if_pos rfl] | rw [wS_sFr, if_neg (by omega)] | rw [wS_sFr, if_pos (by omega)])
    · refine A.fr ?_ (fun j _ => ?_) (fun i _ => ?_) (fun m _ _ => ?_)
      all_goals (try unfold K5)
      all_goals (repeat first | rw [wS_sI, if_pos ⟨rfl, rfl⟩] | rw [wS_sI, if_neg (by omega)] | rw [wS_sN, if_neg (by omega)] | rw [wS_sR] | rw [wS_sN, if_pos rfl] | rw [wS_sFr, if_neg (by omega)] | rw [wS_sFr, if_pos (by omega)])
    · refine ⟨s + 1, by omega, ?_, ?_, fun i hi => ?_⟩
      · (repeat first | rw [wS_sI, if_pos ⟨rfl, rfl⟩] | rw [wS_sI, if_neg (by omega)] | rw [wS_sN, if_neg (by omega)] | rw [wS_sR] | rw [wS_sN, if_pos rfl] | rw [wS_sFr, if_neg (by omega)] | rw [wS_sFr, if_pos (by omega)])
      · (repeat first | rw [wS_sI, if_pos ⟨rfl, rfl⟩] | rw [wS_sI, if_neg (by omega)] | rw [wS_sN, if_neg (by omega)] | rw [wS_sR] | rw [wS_sN, if_pos rfl] | rw [wS_sFr, if_neg (by omega)] | rw [wS_sFr, if_pos (by omega)])
      · by_cases his : i = s
        · subst his
          refine ⟨⟨?_, ?_⟩, ⟨?_, ?_⟩, ?_, ?_⟩
          all_goals (repeat first | rw [wS_sI, if_pos ⟨rfl, rfl⟩] | rw [wS_sI, if_neg (by omega)] | rw [wS_sN, if_neg (by omega)] | rw [wS_sR] | rw [wS_sN, if_pos rfl] | rw [wS_sFr, if_neg (by omega)] | rw [wS_sFr, if_pos (by omega)])
          all_goals assumption
        · obtain ⟨a1, a2, a3⟩ := hh i (by omega)
          refine ⟨⟨?_, ?_⟩, ⟨?_, ?_⟩, ?_, ?_⟩
          all_goals (repeat first | rw [wS_sI, if_pos ⟨rfl, rfl⟩] | rw [wS_sI, if_neg (by omega)] | rw [wS_sN, if_neg (by omega)] | rw [wS_sR] | rw [wS_sN, if_pos rfl] | rw [wS_sFr, if_neg (by omega)] | rw [wS_sFr, if_pos (by omega)])
          · exact a1.1
          · exact a1.2
          · exact a2.1
          · exact a2.2
          · exact a3.1
          · exact a3.2
    · refine P.fr (fun j _ _ => ?_) (fun m _ _ => ?_)
      all_goals (try unfold K5)
      all_goals (repeat first | rw [wS_sI, if_pos ⟨rfl, rfl⟩] | rw [wS_sI, if_neg (by omega)] | rw [wS_sN, if_neg (by omega)] | rw [wS_sR] | rw [wS_sN, if_pos rfl] | rw [wS_sFr, if_neg (by omega)] | rw [wS_sFr, if_pos (by omega)])
    · refine Q.fr (fun o i _ _ _ => ?_) (fun m i _ _ _ => ?_)
      all_goals (try unfold K5)
      all_goals (repeat first | rw [wS_sI, if_pos ⟨rfl, rfl⟩] | rw [wS_sI, if_neg (by omega)] | rw [wS_sN, if_neg (by omega)] | rw [wS_sR] | rw [wS_sN, if_pos rfl] | rw [wS_sFr, if_neg (by omega)] | rw [wS_sFr, if_pos (by omega)])
  · simp only [if_neg hfl, if_true]
    exact OK.same h
theorem addne {k d : Nat} (h : 0 < d) : (k + d = k) = False := by
  apply eq_false; omega
theorem addne' {k d : Nat} (h : 0 < d) : (k = k + d) = False := by
  apply eq_false; omega
theorem rt_rect {c j : Nat} (h : c < 4) : rt (K5 c + 4) j = K5 c + 5 + j := by
  have e : kt (K5 c + 4) = (6, 5) := by
    have : c = 0 ∨ c = 1 ∨ c = 2 ∨ c = 3 := by omega
    rcases this with rfl | rfl | rfl | rfl <;> decide +kernel
  unfold rt
  rw [e, if_neg (by decide), if_pos (by decide), if_neg (by unfold K5; omega)]
theorem kt_car {c : Nat} (h : c < 4) : kt (K5 c) = (11, 0) ∧ kt (K5 c + 1) = (1, 5) ∧ kt (K5 c + 2) = (1, 5) ∧ kt (K5 c + 3) = (1, 5) ∧ kt (K5 c + 4) = (6, 5) ∧ (∀ j, j < 5 → kt (K5 c + 5 + j) = (15, 0)) ∧ kt (K5 c + 10) = (1, 4) ∧ kt (K5 c + 11) = (1, 4) ∧ kt (K5 c + 12) = (1, 4) := by
  have : c = 0 ∨ c = 1 ∨ c = 2 ∨ c = 3 := by omega
  rcases this with rfl | rfl | rfl | rfl <;> decide +kernel
