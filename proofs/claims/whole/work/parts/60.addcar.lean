theorem c_addCar {w v : Wd} (h : R5 w v) (hA : ∀ c, c < 4 → (wS w 3 2).toNatClampNeg ≤ c → ∀ o, o < 13 → wA w (K5 c + o) = 0) (a b d e : Int32) :
    ∃ r w1 v1, f_X3_addCar w a b d e = some (r, w1) ∧ f_X12_car v a b d e = some (r, v1) ∧ R5 w1 v1 ∧ only 5 w w1 ∧ only 5 v v1 ∧ cm w w1 ∧ mm v v1 ∧ am v v1 ∧
      (∀ p, (p < 1000 ∨ 1080 ≤ p) → wA w1 p = wA w p) ∧ ∀ c, c < 4 → (wS w1 3 2).toNatClampNeg ≤ c → ∀ o, o < 13 → wA w1 (K5 c + o) = 0 := by
  obtain ⟨n, hn, e1, e2, hh, hN⟩ := id h
  unfold f_X3_addCar f_X12_car
  rw [in_eq]
  rcases win_c a 2 30 with q | ⟨q, a1, a2⟩
  · rw [q]; exact ⟨_, _, _, rfl, rfl, h, only.refl, only.refl, cm.refl, mm.refl, am.refl, fun _ _ => rfl, hA⟩
  rw [q]
  rcases win_c b 2 30 with q | ⟨q, b1, b2⟩
  · rw [q]; exact ⟨_, _, _, rfl, rfl, h, only.refl, only.refl, cm.refl, mm.refl, am.refl, fun _ _ => rfl, hA⟩
  rw [q]
  rcases win_c d 1 999 with q | ⟨q, d1, d2⟩
  · rw [q]; exact ⟨_, _, _, rfl, rfl, h, only.refl, only.refl, cm.refl, mm.refl, am.refl, fun _ _ => rfl, hA⟩
  rw [q]
  rcases win_c e 0 20 with q | ⟨q, f1, f2⟩
  · rw [q]; exact ⟨_, _, _, rfl, rfl, h, only.refl, only.refl, cm.refl, mm.refl, am.refl, fun _ _ => rfl, hA⟩
  rw [q]
  simp only [q_gt, e1, e2]
  by_cases h4 : n = 4
  · subst h4
    exact ⟨-4, w, v, rfl, rfl, h, only.refl, only.refl, cm.refl, mm.refl, am.refl, fun _ _ => rfl, hA⟩
  have hn4 : n < 4 := by omega
  have x1 : nI n < (4 : Int32) := nI_lt (b := 4) hn4 (by decide)
  have x2 : ¬ nI n = (4 : Int32) := fun z => h4 ((nI_eq (b := 4) (by omega) (by decide)).mp z)
  have hA0 : ∀ o, o < 13 → wA w (K5 n + o) = 0 := hA n hn4 (by rw [e1, nI_clamp (by omega)]; exact Nat.le_refl n)
  have hA00 : wA w (K5 n) = 0 := hA0 0 (by decide)
  obtain ⟨t0, t1, t2, t3, t4, t5, t10, t11, t12⟩ := kt_car hn4
  have z1 : wA (sN w (K5 n) 1) (K5 n) = 1 := by rw [wA_sN, if_pos rfl]
  obtain ⟨w1, i1, i2, ⟨i3, i4, i5, i6⟩, ⟨j7, j9, j10, j11, j12, j13⟩, i7, i8, i9⟩ := init_car (w := sN w (K5 n) 1) (a := a) (b := b) (d := d) (e := e) t1 t2 t3 t4 t5 t10 t11 t12 (fun j => rt_rect hn4) z1 (fun o h1 h2 => by rw [wA_sN, if_neg (by omega)]; exact hA0 o h2) (fun j => by rw [wS_sN, if_pos rfl])
  have f9 : ∀ p, (p < K5 n ∨ K5 n + 13 ≤ p) → wA w1 p = wA w p ∧ ∀ j, wS w1 p j = wS w p j ∧ wL w1 p j = wL w p j := fun p hp => by
    obtain ⟨u1, u2⟩ := i9 p hp
    have np : ¬ p = K5 n := by omega
    rw [wA_sN, if_neg np] at u1
    exact ⟨u1, fun j => by
      have := u2 j
      rw [wS_sN, if_neg np, wL_sN, if_neg np] at this
      exact this⟩
  have e3 : wS w1 3 2 = nI n := ((f9 3 (by unfold K5; omega)).2 2).1.trans e1
  have y22 : wS (sI w1 22 n 1) 3 2 = nI n := by rw [wS_sI, if_neg (by omega)]; exact e3
  refine ⟨nI n, ?_⟩
  simp only [if_neg one0, if_pos x1, if_neg x2, nI_clamp (show n < 2 ^ 31 by omega), rt_22, nw_k hA00 t0, bo_k i1, ck_k i2, st_n hn4 (show 4 < 2 ^ 31 by decide), y22, q_pt, wS_sI, e2, e3, if_false, if_true, false_and, and_false, true_and, and_true, and_self, reduceIte, Nat.reduceEqDiff, ne_eq, not_false_eq_true, not_true_eq_false, nI_1, nI_pred]
  refine ⟨_, _, rfl, rfl, ⟨n + 1, by omega, ?_, ?_, fun c hc => ?_, fun c h1 h2 => ?_⟩, fun bb h0 hb p j hp => ?_, by (repeat' first | exact only.refl | exact Or.inl rfl | exact Or.inr rfl | exact Or.inl (hAr _) | exact Or.inl (Ar_7699 (by omega)) | exact fun _ => Or.inl (hAr _) | refine only.trans ?_ (only.sI ?_) | refine only.trans ?_ (only.sJ ?_) | refine only.trans ?_ (only.sN ?_) | refine only.trans ?_ only.sR | refine only.trans ?_ (only.sFr ?_)), fun p j h1 h2 => ?_, by (repeat' first | exact mm.refl | decide | refine mm.trans ?_ (mm.sI ?_ ?_)), fun _ => rfl, fun p hp => ?_, fun c hc4 hc o ho => ?_⟩
  · (repeat first | rw [wS_sI, if_pos ⟨rfl, rfl⟩] | rw [wS_sI, if_neg (by omega)] | rw [wS_sN, if_neg (by omega)] | rw [wS_sR] | rw [wS_sN, if_pos rfl] | rw [wS_sFr, if_neg (by omega)] | rw [wS_sFr, if_pos (by omega)])
  · (repeat first | rw [wS_sI, if_pos ⟨rfl, rfl⟩] | rw [wS_sI, if_neg (by omega)] | rw [wS_sN, if_neg (by omega)] | rw [wS_sR] | rw [wS_sN, if_pos rfl] | rw [wS_sFr, if_neg (by omega)] | rw [wS_sFr, if_pos (by omega)])
  · by_cases hcn : c = n
    · subst hcn
      obtain ⟨m1, m2, m3, m4, m5, m6, m7⟩ := hN c (Nat.le_refl c) hn4
      refine ⟨⟨?_, ⟨?_, ?_⟩, ⟨?_, ?_⟩, ⟨?_, ?_⟩, ⟨?_, ?_⟩, fun i hi => ?_⟩, ⟨0, by omega, ?_, ?_, fun i hi => absurd hi (Nat.not_lt_zero i)⟩, ⟨⟨?_, ?_⟩, ⟨?_, ?_⟩, ⟨?_, ?_⟩, ⟨?_, ?_⟩, ?_⟩, fun r hr => ?_⟩
      · (repeat first | rw [wS_sI, if_pos ⟨rfl, rfl⟩] | rw [wS_sI, if_neg (by omega)] | rw [wS_sN, if_neg (by omega)] | rw [wS_sR] | rw [wS_sN, if_pos rfl] | rw [wS_sFr, if_neg (by omega)] | rw [wS_sFr, if_pos (by omega)])
        decide
      · unfold K5 at *; (repeat first | rw [wS_sI, if_pos ⟨rfl, rfl⟩] | rw [wS_sI, if_neg (by omega)] | rw [wS_sN, if_neg (by omega)] | rw [wS_sR] | rw [wS_sN, if_pos rfl] | rw [wS_sFr, if_neg (by omega)] | rw [wS_sFr, if_pos (by omega)]); exact i3
      · unfold K5 at *; (repeat first | rw [wS_sI, if_pos ⟨rfl, rfl⟩] | rw [wS_sI, if_neg (by omega)] | rw [wS_sN, if_neg (by omega)] | rw [wS_sR] | rw [wS_sN, if_pos rfl] | rw [wS_sFr, if_neg (by omega)] | rw [wS_sFr, if_pos (by omega)]); rw [i3]; exact bt_of a1 a2 (by decide) (by decide)
      · unfold K5 at *; (repeat first | rw [wS_sI, if_pos ⟨rfl, rfl⟩] | rw [wS_sI, if_neg (by omega)] | rw [wS_sN, if_neg (by omega)] | rw [wS_sR] | rw [wS_sN, if_pos rfl] | rw [wS_sFr, if_neg (by omega)] | rw [wS_sFr, if_pos (by omega)]); exact i4
      · unfold K5 at *; (repeat first | rw [wS_sI, if_pos ⟨rfl, rfl⟩] | rw [wS_sI, if_neg (by omega)] | rw [wS_sN, if_neg (by omega)] | rw [wS_sR] | rw [wS_sN, if_pos rfl] | rw [wS_sFr, if_neg (by omega)] | rw [wS_sFr, if_pos (by omega)]); rw [i4]; exact bt_of b1 b2 (by decide) (by decide)
      · unfold K5 at *; (repeat first | rw [wS_sI, if_pos ⟨rfl, rfl⟩] | rw [wS_sI, if_neg (by omega)] | rw [wS_sN, if_neg (by omega)] | rw [wS_sR] | rw [wS_sN, if_pos rfl] | rw [wS_sFr, if_neg (by omega)] | rw [wS_sFr, if_pos (by omega)]); exact i5
      · unfold K5 at *; (repeat first | rw [wS_sI, if_pos ⟨rfl, rfl⟩] | rw [wS_sI, if_neg (by omega)] | rw [wS_sN, if_neg (by omega)] | rw [wS_sR] | rw [wS_sN, if_pos rfl] | rw [wS_sFr, if_neg (by omega)] | rw [wS_sFr, if_pos (by omega)]); rw [i5]; exact bt_of d1 d2 (by decide) (by decide)
      · unfold K5 at *; (repeat first | rw [wS_sI, if_pos ⟨rfl, rfl⟩] | rw [wS_sI, if_neg (by omega)] | rw [wS_sN, if_neg (by omega)] | rw [wS_sR] | rw [wS_sN, if_pos rfl] | rw [wS_sFr, if_neg (by omega)] | rw [wS_sFr, if_pos (by omega)]); exact i6
      · unfold K5 at *; (repeat first | rw [wS_sI, if_pos ⟨rfl, rfl⟩] | rw [wS_sI, if_neg (by omega)] | rw [wS_sN, if_neg (by omega)] | rw [wS_sR] | rw [wS_sN, if_pos rfl] | rw [wS_sFr, if_neg (by omega)] | rw [wS_sFr, if_pos (by omega)]); rw [i6]; exact bt_of f1 f2 (by decide) (by decide)
      · unfold K5 at *; (repeat first | rw [wS_sI, if_pos ⟨rfl, rfl⟩] | rw [wS_sI, if_neg (by omega)] | rw [wS_sN, if_neg (by omega)] | rw [wS_sR] | rw [wS_sN, if_pos rfl] | rw [wS_sFr, if_neg (by omega)] | rw [wS_sFr, if_pos (by omega)]); rw [i7 i hi]; decide
      · unfold K5 at *; (repeat first | rw [wS_sI, if_pos ⟨rfl, rfl⟩] | rw [wS_sI, if_neg (by omega)] | rw [wS_sN, if_neg (by omega)] | rw [wS_sR] | rw [wS_sN, if_pos rfl] | rw [wS_sFr, if_neg (by omega)] | rw [wS_sFr, if_pos (by omega)]); exact j7
      · (repeat first | rw [wS_sI, if_pos ⟨rfl, rfl⟩] | rw [wS_sI, if_neg (by omega)] | rw [wS_sN, if_neg (by omega)] | rw [wS_sR] | rw [wS_sN, if_pos rfl] | rw [wS_sFr, if_neg (by omega)] | rw [wS_sFr, if_pos (by omega)]); exact m1
      · unfold K5 at *; (repeat first | rw [wS_sI, if_pos ⟨rfl, rfl⟩] | rw [wS_sI, if_neg (by omega)] | rw [wS_sN, if_neg (by omega)] | rw [wS_sR] | rw [wS_sN, if_pos rfl] | rw [wS_sFr, if_neg (by omega)] | rw [wS_sFr, if_pos (by omega)]); rw [j9, m3]
      · unfold K5 at *; (repeat first | rw [wS_sI, if_pos ⟨rfl, rfl⟩] | rw [wS_sI, if_neg (by omega)] | rw [wS_sN, if_neg (by omega)] | rw [wS_sR] | rw [wS_sN, if_pos rfl] | rw [wS_sFr, if_neg (by omega)] | rw [wS_sFr, if_pos (by omega)]); rw [j9]; exact ⟨by decide, by decide⟩
      · unfold K5 at *; (repeat first | rw [wS_sI, if_pos ⟨rfl, rfl⟩] | rw [wS_sI, if_neg (by omega)] | rw [wS_sN, if_neg (by omega)] | rw [wS_sR] | rw [wS_sN, if_pos rfl] | rw [wS_sFr, if_neg (by omega)] | rw [wS_sFr, if_pos (by omega)]); rw [j10, m4]
      · unfold K5 at *; (repeat first | rw [wS_sI, if_pos ⟨rfl, rfl⟩] | rw [wS_sI, if_neg (by omega)] | rw [wS_sN, if_neg (by omega)] | rw [wS_sR] | rw [wS_sN, if_pos rfl] | rw [wS_sFr, if_neg (by omega)] | rw [wS_sFr, if_pos (by omega)]); rw [j10]; exact ⟨by decide, by decide⟩
      · unfold K5 at *; (repeat first | rw [wS_sI, if_pos ⟨rfl, rfl⟩] | rw [wS_sI, if_neg (by omega)] | rw [wS_sN, if_neg (by omega)] | rw [wS_sR] | rw [wS_sN, if_pos rfl] | rw [wS_sFr, if_neg (by omega)] | rw [wS_sFr, if_pos (by omega)]); rw [j11, m5]
      · unfold K5 at *; (repeat first | rw [wS_sI, if_pos ⟨rfl, rfl⟩] | rw [wS_sI, if_neg (by omega)] | rw [wS_sN, if_neg (by omega)] | rw [wS_sR] | rw [wS_sN, if_pos rfl] | rw [wS_sFr, if_neg (by omega)] | rw [wS_sFr, if_pos (by omega)]); rw [j11]; exact ⟨by decide, by decide⟩
      · unfold K5 at *; (repeat first | rw [wS_sI, if_pos ⟨rfl, rfl⟩] | rw [wS_sI, if_neg (by omega)] | rw [wS_sN, if_neg (by omega)] | rw [wS_sR] | rw [wS_sN, if_pos rfl] | rw [wS_sFr, if_neg (by omega)] | rw [wS_sFr, if_pos (by omega)]); rw [j12, m2]
      · unfold K5 at *; (repeat first | rw [wS_sI, if_pos ⟨rfl, rfl⟩] | rw [wS_sI, if_neg (by omega)] | rw [wS_sN, if_neg (by omega)] | rw [wS_sR] | rw [wS_sN, if_pos rfl] | rw [wS_sFr, if_neg (by omega)] | rw [wS_sFr, if_pos (by omega)]); exact Or.inl j12
      · unfold K5 at *; (repeat first | rw [wS_sI, if_pos ⟨rfl, rfl⟩] | rw [wS_sI, if_neg (by omega)] | rw [wS_sN, if_neg (by omega)] | rw [wS_sR] | rw [wS_sN, if_pos rfl] | rw [wS_sFr, if_neg (by omega)] | rw [wS_sFr, if_pos (by omega)]); rw [j13, m6]
      · obtain ⟨y1, y2, y3⟩ := i8 r hr
        obtain ⟨u1, u2, u3⟩ := m7 r hr
        refine ⟨⟨?_, ?_⟩, ⟨?_, ?_⟩, ?_, ?_⟩
        · unfold K5 at *; (repeat first | rw [wS_sI, if_pos ⟨rfl, rfl⟩] | rw [wS_sI, if_neg (by omega)] | rw [wS_sN, if_neg (by omega)] | rw [wS_sR] | rw [wS_sN, if_pos rfl] | rw [wS_sFr, if_neg (by omega)] | rw [wS_sFr, if_pos (by omega)]); rw [y1, u1]
        · unfold K5 at *; (repeat first | rw [wS_sI, if_pos ⟨rfl, rfl⟩] | rw [wS_sI, if_neg (by omega)] | rw [wS_sN, if_neg (by omega)] | rw [wS_sR] | rw [wS_sN, if_pos rfl] | rw [wS_sFr, if_neg (by omega)] | rw [wS_sFr, if_pos (by omega)]); rw [y1]; exact ⟨by decide, by decide⟩
        · unfold K5 at *; (repeat first | rw [wS_sI, if_pos ⟨rfl, rfl⟩] | rw [wS_sI, if_neg (by omega)] | rw [wS_sN, if_neg (by omega)] | rw [wS_sR] | rw [wS_sN, if_pos rfl] | rw [wS_sFr, if_neg (by omega)] | rw [wS_sFr, if_pos (by omega)]); rw [y2, u2]
        · unfold K5 at *; (repeat first | rw [wS_sI, if_pos ⟨rfl, rfl⟩] | rw [wS_sI, if_neg (by omega)] | rw [wS_sN, if_neg (by omega)] | rw [wS_sR] | rw [wS_sN, if_pos rfl] | rw [wS_sFr, if_neg (by omega)] | rw [wS_sFr, if_pos (by omega)]); rw [y2]; exact ⟨by decide, by decide⟩
        · unfold K5 at *; (repeat first | rw [wS_sI, if_pos ⟨rfl, rfl⟩] | rw [wS_sI, if_neg (by omega)] | rw [wS_sN, if_neg (by omega)] | rw [wS_sR] | rw [wS_sN, if_pos rfl] | rw [wS_sFr, if_neg (by omega)] | rw [wS_sFr, if_pos (by omega)]); rw [y3, u3]
        · unfold K5 at *; (repeat first | rw [wS_sI, if_pos ⟨rfl, rfl⟩] | rw [wS_sI, if_neg (by omega)] | rw [wS_sN, if_neg (by omega)] | rw [wS_sR] | rw [wS_sN, if_pos rfl] | rw [wS_sFr, if_neg (by omega)] | rw [wS_sFr, if_pos (by omega)]); rw [y3]; exact ⟨by decide, by decide⟩
    · obtain ⟨A, S, P, Q⟩ := hh c (by omega)
      have hw : ∀ p j, p ≠ 3 → p ≠ 22 → (p < K5 n ∨ K5 n + 13 ≤ p) → wS (sI (sI w1 22 n 1) 3 2 (nI (n + 1))) p j = wS w p j := fun p j g1 g2 g3 => by
        rw [wS_sI, if_neg (fun z => g1 z.1), wS_sI, if_neg (fun z => g2 z.1)]
        exact ((f9 p g3).2 j).1
      have hK : ∀ o j, o < 20 → wS (sI (sI w1 22 n 1) 3 2 (nI (n + 1))) (K5 c + o) j = wS w (K5 c + o) j := fun o j ho => hw _ j (by unfold K5; omega) (by unfold K5; omega) (by unfold K5; omega)
      refine ⟨A.fr ?_ (fun j _ => hK 0 j (by decide)) (fun i _ => hK 4 i (by decide)) (fun m _ _ => ?_), S.fr (hK 0 7 (by decide)) ?_ (fun o i _ _ _ => hK o i (by omega)) (fun m i _ _ _ => ?_), P.fr (fun j _ _ => hK 0 j (by decide)) (fun m _ _ => ?_), Q.fr (fun o r _ _ _ => hK o r (by omega)) (fun m r _ _ _ => ?_)⟩
      · rw [wS_sI, if_neg (by omega), wS_sI, if_neg (by omega)]
        exact ((f9 22 (by unfold K5; omega)).2 c).1
      all_goals (repeat first | rw [wS_sI, if_pos ⟨rfl, rfl⟩] | rw [wS_sI, if_neg (by omega)] | rw [wS_sN, if_neg (by omega)] | rw [wS_sR] | rw [wS_sN, if_pos rfl] | rw [wS_sFr, if_neg (by omega)] | rw [wS_sFr, if_pos (by omega)])
  · refine (hN c (by omega) h2).fr ?_ (fun m _ _ => ?_) (fun m r _ _ _ => ?_)
    all_goals (repeat first | rw [wS_sI, if_pos ⟨rfl, rfl⟩] | rw [wS_sI, if_neg (by omega)] | rw [wS_sN, if_neg (by omega)] | rw [wS_sR] | rw [wS_sN, if_pos rfl] | rw [wS_sFr, if_neg (by omega)] | rw [wS_sFr, if_pos (by omega)])
  · have hp2 : ¬ (p = 3 ∧ j = 2) := fun z => hb (by rw [← hp, z.1, z.2]; rfl)
    have hp3 : ¬ (p = 22 ∧ j = n) := fun z => hb (by rw [← hp, z.1]; rfl)
    have hp4 : p < K5 n ∨ K5 n + 13 ≤ p := by
      rcases Nat.lt_or_ge p (K5 n) with g | g
      · exact Or.inl g
      rcases Nat.lt_or_ge p (K5 n + 13) with g2 | g2
      · exfalso
        obtain ⟨o, rfl⟩ : ∃ o, p = K5 n + o := ⟨p - K5 n, by omega⟩
        have ho : o < 13 := by omega
        have e9 := Ar_car (c := n) (o := o) (j := j) hn4 (by omega)
        have e8 : arC.getD o 0 = bb := e9.symm.trans hp
        have k : ∀ o, o < 13 → arC.getD o 0 = 0 ∨ arC.getD o 0 = 5 := by decide
        rcases k o ho with g | g
        · exact h0 (by omega)
        · exact hb (by omega)
      · exact Or.inr g2
    have := (f9 p hp4).2 j
    exact ⟨by rw [wS_sI, if_neg hp2, wS_sI, if_neg hp3]; exact this.1, this.2⟩
  · rw [wS_sI, if_neg (by omega), wS_sI, if_neg (by omega)]
    exact ((f9 p (by unfold K5; omega)).2 j).1
  · exact (f9 p (by unfold K5; omega)).1
  · rw [wS_sI, if_pos ⟨rfl, rfl⟩, nI_clamp (by omega)] at hc
    show wA w1 (K5 c + o) = 0
    rw [(f9 _ (by unfold K5; omega)).1]
    exact hA c hc4 (by rw [e1, nI_clamp (by omega)]; omega) o ho
