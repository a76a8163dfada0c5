/-! ===== sheets ===== -/
def R12i (w v : Wd) (s : Nat) : Prop := wS w 56 s ≠ 0 ∧ ((wS w 61 s = -1 ∧ wS v 119 s = 0) ∨ ∃ k, k ≤ 2 ∧ wS w 61 s = nI k ∧ wS v 120 s = nI k ∧ wS v 119 s = 1) ∧ (∃ z, z ≤ 60 ∧ wS w 62 s = nI z ∧ wS v 121 s = nI z) ∧ ∀ i, i < 60 → wS w (57 + s) i = wS v 122 (60 * s + i)
def R12 (w v : Wd) : Prop := (∀ s, s < 4 → R12i w v s) ∧ wS w 9 3 = wS v 63 83
theorem R12i.fr {w v w' v' : Wd} {s : Nat} (h : R12i w v s) (h56 : wS w' 56 s = wS w 56 s) (h61 : wS w' 61 s = wS w 61 s) (h62 : wS w' 62 s = wS w 62 s) (h57 : ∀ i, i < 60 → wS w' (57 + s) i = wS w (57 + s) i) (h119 : wS v' 119 s = wS v 119 s) (h120 : wS v' 120 s = wS v 120 s) (h121 : wS v' 121 s = wS v 121 s) (h122 : ∀ i, i < 60 → wS v' 122 (60 * s + i) = wS v 122 (60 * s + i)) : R12i w' v' s := by
  unfold R12i at h ⊢
  rw [h56, h61, h62, h119, h120, h121]
  refine ⟨h.1, h.2.1, h.2.2.1, fun i hi => ?_⟩
  rw [h57 i hi, h122 i hi]
  exact h.2.2.2 i hi
theorem Ar_57 {s j : Nat} (h : s < 4) : Ar (57 + s) j = 12 := by
  rw [Ar_T (by omega) (by omega) (by omega)]
  have k : ∀ s : Fin 4, arT.getD (57 + s.val) 0 = 12 := by decide
  exact k ⟨s, h⟩
theorem R12.fr {w v w' v' : Wd} (h : R12 w v) (hw : sm 12 w w') (hv : sm 12 v v') : R12 w' v' :=
  ⟨fun s hs => (h.1 s hs).fr (hw 56 s rfl).1 (hw 61 s rfl).1 (hw 62 s rfl).1 (fun i _ => (hw _ i (Ar_57 hs)).1) (hv 119 s rfl).1 (hv 120 s rfl).1 (hv 121 s rfl).1 (fun i _ => (hv 122 _ rfl).1), by rw [(hw 9 3 rfl).1, (hv 63 83 rfl).1]; exact h.2⟩
theorem rt_56 {i : Nat} : rt 56 i = 57 + i := by unfold rt; rfl
theorem i60 (s i : Nat) : (60 : Int32) * nI s + nI i = nI (60 * s + i) := by
  rw [show (60 : Int32) * nI s = nI (60 * s) from (Int32.ofNat_mul 60 s).symm, nI_add]
theorem R12.find {w v : Wd} (h : R12 w v) (x : Int32) : R12 (sI w 9 3 x) (sI v 63 83 x) := by
  refine ⟨fun s hs => (h.1 s hs).fr ?_ ?_ ?_ (fun i _ => ?_) ?_ ?_ ?_ (fun i _ => ?_), ?_⟩
  all_goals (repeat first | rw [wS_sI, if_pos ⟨rfl, rfl⟩] | rw [wS_sI, if_neg (by omega)] | rw [wS_sN, if_neg (by omega)] | rw [wS_sR] | rw [wS_sN, if_pos rfl] | rw [wS_sFr, if_neg (by omega)] | rw [wS_sFr, if_pos (by omega)])
theorem OK.find {w v : Wd} (h : R12 w v) (x r : Int32) : OK 12 R12 (some (r, sI w 9 3 x)) (some (r, sI v 63 83 x)) w v := ⟨_, _, _, rfl, rfl, h.find x, only.sI (Or.inl rfl), only.sI (Or.inl rfl), cm.sI (by decide), mm.sI (by decide) (by decide), am.sI, am.sI⟩
def Fr1 (k lo hi : Nat) (v v' : Wd) : Prop := (∀ p j, ¬ (p = k ∧ lo ≤ j ∧ j < hi) → wS v' p j = wS v p j ∧ wL v' p j = wL v p j) ∧ am v v'
theorem Fr1.refl {k lo hi : Nat} {w : Wd} : Fr1 k lo hi w w := ⟨fun _ _ _ => ⟨rfl, rfl⟩, am.refl⟩
theorem Fr1.trans {k lo hi : Nat} {u v w : Wd} (h : Fr1 k lo hi u v) (g : Fr1 k lo hi v w) : Fr1 k lo hi u w := ⟨fun p j a => ⟨(g.1 p j a).1.trans (h.1 p j a).1, (g.1 p j a).2.trans (h.1 p j a).2⟩, h.2.trans g.2⟩
theorem Fr1.sI {k lo hi j : Nat} {w : Wd} {x : Int32} (h1 : lo ≤ j) (h2 : j < hi) : Fr1 k lo hi w (sI w k j x) := ⟨fun p q a => ⟨by rw [wS_sI, if_neg (by omega)], rfl⟩, am.sI⟩
theorem Fr1.only {a k lo hi : Nat} {w w' : Wd} (hA : ∀ j, Ar k j = a ∨ Ar k j = 0) (h : Fr1 k lo hi w w') : only a w w' := fun b h0 hb p j hp => h.1 p j (fun z => by
  rw [z.1] at hp
  rcases hA j with g | g
  · exact hb (hp.symm.trans g)
  · exact h0 (hp.symm.trans g))
theorem Fr1.mm {k lo hi : Nat} {w w' : Wd} (h1 : 63 ≤ k) (h2 : k < 124) (h : Fr1 k lo hi w w') : mm w w' := fun p j g => h.1 p j (by omega)
theorem sheet_k (a : Int32) : f_X11_within a 0 3 = 0 ∨ (f_X11_within a 0 3 = 1 ∧ ∃ s, s < 4 ∧ a = nI s) := win_n (n := 4) a (by decide)
theorem form_k (a : Int32) : f_X11_within a 0 2 = 0 ∨ (f_X11_within a 0 2 = 1 ∧ ∃ k, k < 3 ∧ a = nI k) := win_n (n := 3) a (by decide)
theorem l_sheet {s : Nat} (hs : s < 4) (r : Int32) : ∀ (m i f : Nat) (v : Wd), i + m = 60 → m < f → (∀ j, j < i → wS v 122 (60 * s + j) = 0) → ∃ v', l_X12_sheet_59 (nI s) r f v (nI i) = some (r, v') ∧ Fr1 122 (60 * s) (60 * s + 60) v v' ∧ ∀ j, j < 60 → wS v' 122 (60 * s + j) = 0
  | 0, i, f + 1, v, hi, _, h => by
    unfold l_X12_sheet_59
    rw [if_pos (show (60 : Int32) ≤ nI i from (nI_leI (a := 60) (by decide) (by omega)).mpr (by omega))]
    exact ⟨v, rfl, Fr1.refl, fun j hj => h j (by omega)⟩
  | m + 1, i, f + 1, v, hi, hf, h => by
    obtain ⟨v', a1, a2, a3⟩ := l_sheet hs r m (i + 1) f (sI v 122 (60 * s + i) 0) (by omega) (by omega) (fun j hj => by
      by_cases q : j = i
      · rw [wS_sI, if_pos ⟨rfl, by omega⟩]
      · rw [wS_sI, if_neg (by omega)]; exact h j (by omega))
    unfold l_X12_sheet_59
    rw [if_neg (show ¬ (60 : Int32) ≤ nI i from fun k => by have := (nI_leI (a := 60) (by decide) (by omega)).mp k; omega)]
    simp only [i60, st_n (show 60 * s + i < 240 by omega) (show 240 < 2 ^ 31 by decide), q_lt, nI_1]
    exact ⟨v', a1, (Fr1.sI (by omega) (by omega)).trans a2, a3⟩
theorem c_sheet {w v : Wd} (h : R12 w v) (a b d : Int32) : OK 12 R12 (f_X11_sheet w a b d) (f_X12_sheet v a b d) w v := by
  unfold f_X11_sheet f_X6_renew f_X6_isSheet f_X6_isForm f_X12_sheet f_X12_isSheet
  rw [in_eq]
  rcases sheet_k a with q | ⟨q, s, hs, rfl⟩
  · rw [q]; exact OK.same h
  rw [q]
  rcases form_k b with p | ⟨p, k, hk, rfl⟩
  · rw [p]; exact OK.same h
  rw [p]
  simp only [if_neg one0]
  by_cases d1 : d ≤ 60
  · rw [if_pos d1, if_pos d1]
    by_cases d0 : 0 ≤ d
    · rw [if_pos d0, if_pos d0]
      have hd : bt 0 60 d := bt_of d0 d1 (by decide) (by decide)
      obtain ⟨z, hz, rfl⟩ := bt_ex (n := 60) hd (by decide)
      obtain ⟨v', a1, a2, a3⟩ := l_sheet hs (nI z) 60 0 FU (sI (sI (sI v 119 s 1) 120 s (nI k)) 121 s (nI z)) (by omega) (by unfold FU; omega) (fun j hj => absurd hj (Nat.not_lt_zero j))
      rw [nI_0] at a1
      simp only [ldq_n hs (show 4 < 2 ^ 31 by decide) (h.1 s hs).1, rt_56, fill_k (show 60 < 10000 by decide), bo_v, st_n hs (show 4 < 2 ^ 31 by decide), sz_n hs (show 4 < 2 ^ 31 by decide), nar01 (show (1 : Int32) = 0 ∨ (1 : Int32) = 1 from Or.inr rfl), a1, bi_v]
      refine ⟨_, _, _, rfl, rfl, ⟨fun t ht => ?_, ?_⟩, ?_, ?_, ?_, ?_, fun _ => rfl, fun k => a2.2 k⟩
      · by_cases e : t = s
        · subst e
          refine ⟨?_, Or.inr ⟨k, by omega, ?_, ?_, ?_⟩, ⟨z, hz, ?_, ?_⟩, fun i hi => ?_⟩
          · (repeat first | rw [wS_sI, if_pos ⟨rfl, rfl⟩] | rw [wS_sI, if_neg (by omega)] | rw [wS_sN, if_neg (by omega)] | rw [wS_sR] | rw [wS_sN, if_pos rfl] | rw [wS_sFr, if_neg (by omega)] | rw [wS_sFr, if_pos (by omega)]); exact (h.1 t hs).1
          · (repeat first | rw [wS_sI, if_pos ⟨rfl, rfl⟩] | rw [wS_sI, if_neg (by omega)] | rw [wS_sN, if_neg (by omega)] | rw [wS_sR] | rw [wS_sN, if_pos rfl] | rw [wS_sFr, if_neg (by omega)] | rw [wS_sFr, if_pos (by omega)])
          · rw [(a2.1 120 t (by omega)).1]; (repeat first | rw [wS_sI, if_pos ⟨rfl, rfl⟩] | rw [wS_sI, if_neg (by omega)] | rw [wS_sN, if_neg (by omega)] | rw [wS_sR] | rw [wS_sN, if_pos rfl] | rw [wS_sFr, if_neg (by omega)] | rw [wS_sFr, if_pos (by omega)])
          · rw [(a2.1 119 t (by omega)).1]; (repeat first | rw [wS_sI, if_pos ⟨rfl, rfl⟩] | rw [wS_sI, if_neg (by omega)] | rw [wS_sN, if_neg (by omega)] | rw [wS_sR] | rw [wS_sN, if_pos rfl] | rw [wS_sFr, if_neg (by omega)] | rw [wS_sFr, if_pos (by omega)])
          · (repeat first | rw [wS_sI, if_pos ⟨rfl, rfl⟩] | rw [wS_sI, if_neg (by omega)] | rw [wS_sN, if_neg (by omega)] | rw [wS_sR] | rw [wS_sN, if_pos rfl] | rw [wS_sFr, if_neg (by omega)] | rw [wS_sFr, if_pos (by omega)])
          · rw [(a2.1 121 t (by omega)).1]; (repeat first | rw [wS_sI, if_pos ⟨rfl, rfl⟩] | rw [wS_sI, if_neg (by omega)] | rw [wS_sN, if_neg (by omega)] | rw [wS_sR] | rw [wS_sN, if_pos rfl] | rw [wS_sFr, if_neg (by omega)] | rw [wS_sFr, if_pos (by omega)])
          · rw [a3 i hi]; (repeat first | rw [wS_sI, if_pos ⟨rfl, rfl⟩] | rw [wS_sI, if_neg (by omega)] | rw [wS_sN, if_neg (by omega)] | rw [wS_sR] | rw [wS_sN, if_pos rfl] | rw [wS_sFr, if_neg (by omega)] | rw [wS_sFr, if_pos (by omega)])
        · refine (h.1 t ht).fr ?_ ?_ ?_ (fun i hi => ?_) ?_ ?_ ?_ (fun i hi => ?_)
          · (repeat first | rw [wS_sI, if_pos ⟨rfl, rfl⟩] | rw [wS_sI, if_neg (by omega)] | rw [wS_sN, if_neg (by omega)] | rw [wS_sR] | rw [wS_sN, if_pos rfl] | rw [wS_sFr, if_neg (by omega)] | rw [wS_sFr, if_pos (by omega)])
          · (repeat first | rw [wS_sI, if_pos ⟨rfl, rfl⟩] | rw [wS_sI, if_neg (by omega)] | rw [wS_sN, if_neg (by omega)] | rw [wS_sR] | rw [wS_sN, if_pos rfl] | rw [wS_sFr, if_neg (by omega)] | rw [wS_sFr, if_pos (by omega)])
          · (repeat first | rw [wS_sI, if_pos ⟨rfl, rfl⟩] | rw [wS_sI, if_neg (by omega)] | rw [wS_sN, if_neg (by omega)] | rw [wS_sR] | rw [wS_sN, if_pos rfl] | rw [wS_sFr, if_neg (by omega)] | rw [wS_sFr, if_pos (by omega)])
          · (repeat first | rw [wS_sI, if_pos ⟨rfl, rfl⟩] | rw [wS_sI, if_neg (by omega)] | rw [wS_sN, if_neg (by omega)] | rw [wS_sR] | rw [wS_sN, if_pos rfl] | rw [wS_sFr, if_neg (by omega)] | rw [wS_sFr, if_pos (by omega)])
          · rw [(a2.1 119 t (by omega)).1]; (repeat first | rw [wS_sI, if_pos ⟨rfl, rfl⟩] | rw [wS_sI, if_neg (by omega)] | rw [wS_sN, if_neg (by omega)] | rw [wS_sR] | rw [wS_sN, if_pos rfl] | rw [wS_sFr, if_neg (by omega)] | rw [wS_sFr, if_pos (by omega)])
          · rw [(a2.1 120 t (by omega)).1]; (repeat first | rw [wS_sI, if_pos ⟨rfl, rfl⟩] | rw [wS_sI, if_neg (by omega)] | rw [wS_sN, if_neg (by omega)] | rw [wS_sR] | rw [wS_sN, if_pos rfl] | rw [wS_sFr, if_neg (by omega)] | rw [wS_sFr, if_pos (by omega)])
          · rw [(a2.1 121 t (by omega)).1]; (repeat first | rw [wS_sI, if_pos ⟨rfl, rfl⟩] | rw [wS_sI, if_neg (by omega)] | rw [wS_sN, if_neg (by omega)] | rw [wS_sR] | rw [wS_sN, if_pos rfl] | rw [wS_sFr, if_neg (by omega)] | rw [wS_sFr, if_pos (by omega)])
          · rw [(a2.1 122 _ (by omega)).1]; (repeat first | rw [wS_sI, if_pos ⟨rfl, rfl⟩] | rw [wS_sI, if_neg (by omega)] | rw [wS_sN, if_neg (by omega)] | rw [wS_sR] | rw [wS_sN, if_pos rfl] | rw [wS_sFr, if_neg (by omega)] | rw [wS_sFr, if_pos (by omega)])
      · rw [(a2.1 63 83 (by omega)).1]; (repeat first | rw [wS_sI, if_pos ⟨rfl, rfl⟩] | rw [wS_sI, if_neg (by omega)] | rw [wS_sN, if_neg (by omega)] | rw [wS_sR] | rw [wS_sN, if_pos rfl] | rw [wS_sFr, if_neg (by omega)] | rw [wS_sFr, if_pos (by omega)]); exact h.2
      · exact ((only.sFr (fun j => Or.inl (Ar_57 hs))).trans (only.sI (Or.inl rfl))).trans (only.sI (Or.inl rfl))
      · exact only.trans (by (repeat' first | exact only.refl | exact Or.inl rfl | exact Or.inr rfl | exact Or.inl (hAr _) | exact Or.inl (Ar_7699 (by omega)) | exact fun _ => Or.inl (hAr _) | refine only.trans ?_ (only.sI ?_) | refine only.trans ?_ (only.sJ ?_) | refine only.trans ?_ (only.sN ?_) | refine only.trans ?_ only.sR | refine only.trans ?_ (only.sFr ?_))) (a2.only (fun j => Or.inl rfl))
      · exact ((cm.sFr (by omega)).trans (cm.sI (by decide))).trans (cm.sI (by decide))
      · exact mm.trans (by (repeat' first | exact mm.refl | decide | refine mm.trans ?_ (mm.sI ?_ ?_))) (a2.mm (by decide) (by decide))
    · rw [if_neg d0, if_neg d0]
      exact OK.find h 5 _
  · rw [if_neg d1, if_neg d1]; exact OK.same h
theorem c_lose {w v : Wd} (h : R12 w v) (a : Int32) : OK 12 R12 (f_X11_lose w a) (f_X12_lose v a) w v := by
  unfold f_X11_lose f_X6_drop f_X6_refusalOf f_X6_isSheet f_X12_lose f_X12_isSheet
  rw [in_eq]
  rcases sheet_k a with q | ⟨q, s, hs, rfl⟩
  · rw [q]; exact OK.same h
  rw [q]
  obtain ⟨g1, g2, ⟨z, hz, z1, z2⟩, g4⟩ := h.1 s hs
  simp only [if_neg one0, ld_n hs (show 4 < 2 ^ 31 by decide)]
  rcases g2 with ⟨x1, x2⟩ | ⟨k, hk, x1, x2, x3⟩
  · rw [x1, x2, if_pos rfl, if_pos rfl]
    exact OK.find h 1 _
  · rw [x1, x3, if_neg (nI_m1 (q := k) (by omega)), if_neg one0]
    simp only [bi_v, if_true, st_n hs (show 4 < 2 ^ 31 by decide), sz_n hs (show 4 < 2 ^ 31 by decide), nar01 (show (0 : Int32) = 0 ∨ (0 : Int32) = 1 from Or.inl rfl)]
    have e1 : wS (sI w 61 s (-1)) 62 s = nI z := by rw [wS_sI, if_neg (by omega)]; exact z1
    have e2 : wS (sI v 119 s 0) 121 s = nI z := by rw [wS_sI, if_neg (by omega)]; exact z2
    rw [e1, e2]
    refine ⟨_, _, _, rfl, rfl, ⟨fun t ht => ?_, ?_⟩, only.sI (Or.inl rfl), only.sI (Or.inl rfl), cm.sI (by decide), mm.sI (by decide) (by decide), fun _ => rfl, fun _ => rfl⟩
    · by_cases e : t = s
      · subst e
        refine ⟨?_, Or.inl ⟨?_, ?_⟩, ⟨z, hz, e1, e2⟩, fun i hi => ?_⟩
        · (repeat first | rw [wS_sI, if_pos ⟨rfl, rfl⟩] | rw [wS_sI, if_neg (by omega)] | rw [wS_sN, if_neg (by omega)] | rw [wS_sR] | rw [wS_sN, if_pos rfl] | rw [wS_sFr, if_neg (by omega)] | rw [wS_sFr, if_pos (by omega)]); exact g1
        · (repeat first | rw [wS_sI, if_pos ⟨rfl, rfl⟩] | rw [wS_sI, if_neg (by omega)] | rw [wS_sN, if_neg (by omega)] | rw [wS_sR] | rw [wS_sN, if_pos rfl] | rw [wS_sFr, if_neg (by omega)] | rw [wS_sFr, if_pos (by omega)])
        · (repeat first | rw [wS_sI, if_pos ⟨rfl, rfl⟩] | rw [wS_sI, if_neg (by omega)] | rw [wS_sN, if_neg (by omega)] | rw [wS_sR] | rw [wS_sN, if_pos rfl] | rw [wS_sFr, if_neg (by omega)] | rw [wS_sFr, if_pos (by omega)])
        · (repeat first | rw [wS_sI, if_pos ⟨rfl, rfl⟩] | rw [wS_sI, if_neg (by omega)] | rw [wS_sN, if_neg (by omega)] | rw [wS_sR] | rw [wS_sN, if_pos rfl] | rw [wS_sFr, if_neg (by omega)] | rw [wS_sFr, if_pos (by omega)]); exact g4 i hi
      · refine (h.1 t ht).fr ?_ ?_ ?_ (fun i hi => ?_) ?_ ?_ ?_ (fun i hi => ?_)
        all_goals (repeat first | rw [wS_sI, if_pos ⟨rfl, rfl⟩] | rw [wS_sI, if_neg (by omega)] | rw [wS_sN, if_neg (by omega)] | rw [wS_sR] | rw [wS_sN, if_pos rfl] | rw [wS_sFr, if_neg (by omega)] | rw [wS_sFr, if_pos (by omega)])
    · (repeat first | rw [wS_sI, if_pos ⟨rfl, rfl⟩] | rw [wS_sI, if_neg (by omega)] | rw [wS_sN, if_neg (by omega)] | rw [wS_sR] | rw [wS_sN, if_pos rfl] | rw [wS_sFr, if_neg (by omega)] | rw [wS_sFr, if_pos (by omega)]); exact h.2
theorem c_item {w v : Wd} (h : R12 w v) {s k : Nat} (hs : s < 4) (hk : k < 3) (a : Int32) :
    (f_X6_refusalOfItem w (nI s) (nI k) a = some (0, w) ∧ f_X12_lacks v (nI s) (nI k) a = some 0 ∧ ∃ i, i < 60 ∧ a = nI i) ∨
    ∃ x, (x = 1 ∨ x = 2 ∨ x = 3) ∧ f_X6_refusalOfItem w (nI s) (nI k) a = some (-10 - x, sI w 9 3 x) ∧ f_X12_lacks v (nI s) (nI k) a = some x := by
  have q : f_X11_within (nI s) 0 3 = 1 := win_v (n := 4) hs (by decide)
  have p : f_X11_within (nI k) 0 2 = 1 := win_v (n := 3) hk (by decide)
  obtain ⟨g1, g2, ⟨z, hz, z1, z2⟩, g4⟩ := h.1 s hs
  unfold f_X6_refusalOfItem f_X6_isSheet f_X6_isForm f_X12_lacks
  rw [in_eq, q, p]
  simp only [if_neg one0, ld_n hs (show 4 < 2 ^ 31 by decide), z1, z2]
  rcases g2 with ⟨x1, x2⟩ | ⟨j, hj, x1, x2, x3⟩
  · rw [x1, x2, if_pos rfl, if_pos rfl]
    exact Or.inr ⟨1, Or.inl rfl, rfl, rfl⟩
  · rw [x1, x2, x3, if_neg (nI_m1 (q := j) (by omega)), if_neg one0]
    by_cases e : nI j = nI k
    · rw [if_pos e, if_pos e]
      rcases win_n a (n := z) (by omega) with y | ⟨y, i, hi, rfl⟩
      · rw [y, if_pos rfl, if_pos rfl]
        exact Or.inr ⟨2, Or.inr (Or.inl rfl), rfl, rfl⟩
      · rw [y, if_neg one0, if_neg one0]
        exact Or.inl ⟨rfl, rfl, i, by omega, rfl⟩
    · rw [if_neg e, if_neg e]
      exact Or.inr ⟨3, Or.inr (Or.inr rfl), rfl, rfl⟩
theorem x123 {x : Int32} (h : x = 1 ∨ x = 2 ∨ x = 3) : ¬ (-10 : Int32) - x = 0 ∧ ¬ x ≤ 0 := by
  rcases h with rfl | rfl | rfl <;> decide
theorem c_put {w v : Wd} (h : R12 w v) (a b d e : Int32) : OK 12 R12 (f_X11_put w a b d e) (f_X12_put v a b d e) w v := by
  rcases sheet_k a with q | ⟨q, s, hs, rfl⟩
  · unfold f_X11_put f_X6_write f_X6_refusalOfItem f_X6_isSheet f_X12_put f_X12_isSheet
    rw [in_eq, q]; simp only [if_pos (show (0 : Int32) = 0 from rfl), if_neg one0, bi_v, if_neg (show ¬ (-2 : Int32) = 0 by decide), q_jn]; exact OK.same h
  rcases form_k b with p | ⟨p, k, hk, rfl⟩
  · unfold f_X11_put f_X6_write f_X6_refusalOfItem f_X6_isSheet f_X6_isForm f_X12_put f_X12_isSheet
    rw [in_eq, q, p]; simp only [if_pos (show (0 : Int32) = 0 from rfl), if_neg one0, bi_v, if_neg (show ¬ (-2 : Int32) = 0 by decide), q_jn]; exact OK.same h
  unfold f_X11_put f_X6_write f_X12_put f_X12_isSheet
  rw [in_eq, q, p]
  simp only [if_neg one0]
  rcases c_item h hs hk d with ⟨k1, k2, i, hi, rfl⟩ | ⟨x, hx, k1, k2⟩
  · rw [k1, k2]
    simp only [bi_v, bo_v, if_true, ldq_n hs (show 4 < 2 ^ 31 by decide) (h.1 s hs).1, rt_56, st_n hi (show 60 < 2 ^ 31 by decide), i60, st_n (show 60 * s + i < 240 by omega) (show 240 < 2 ^ 31 by decide), q_jn, if_pos (show (0 : Int32) ≤ 0 by decide)]
    have key : ∀ y : Int32, OK 12 R12 (some (1, sI w (57 + s) i y)) (some (1, sI v 122 (60 * s + i) y)) w v := by
      intro y
      refine ⟨_, _, _, rfl, rfl, ⟨fun t ht => ?_, ?_⟩, only.sI (Or.inl (Ar_57 hs)), only.sI (Or.inl rfl), cm.sI (by omega), mm.sI (by decide) (by decide), fun _ => rfl, fun _ => rfl⟩
      · obtain ⟨g1, g2, g3, g4⟩ := h.1 t ht
        refine ⟨?_, ?_, ?_, fun j hj => ?_⟩
        · (repeat first | rw [wS_sI, if_pos ⟨rfl, rfl⟩] | rw [wS_sI, if_neg (by omega)] | rw [wS_sN, if_neg (by omega)] | rw [wS_sR] | rw [wS_sN, if_pos rfl] | rw [wS_sFr, if_neg (by omega)] | rw [wS_sFr, if_pos (by omega)]); exact g1
        · rw [wS_sI, if_neg (by omega), wS_sI, if_neg (by omega), wS_sI, if_neg (by omega)]; exact g2
        · rw [wS_sI, if_neg (by omega), wS_sI, if_neg (by omega)]; exact g3
        · by_cases z : t = s ∧ j = i
          · obtain ⟨rfl, rfl⟩ := z
            (repeat first | rw [wS_sI, if_pos ⟨rfl, rfl⟩] | rw [wS_sI, if_neg (by omega)] | rw [wS_sN, if_neg (by omega)] | rw [wS_sR] | rw [wS_sN, if_pos rfl] | rw [wS_sFr, if_neg (by omega)] | rw [wS_sFr, if_pos (by omega)])
          · rw [wS_sI, if_neg (by omega), wS_sI, if_neg (by omega)]; exact g4 j hj
      · (repeat first | rw [wS_sI, if_pos ⟨rfl, rfl⟩] | rw [wS_sI, if_neg (by omega)] | rw [wS_sN, if_neg (by omega)] | rw [wS_sR] | rw [wS_sN, if_pos rfl] | rw [wS_sFr, if_neg (by omega)] | rw [wS_sFr, if_pos (by omega)]); exact h.2
    unfold f_X6_lowestBits
    by_cases k0 : nI k = 0
    · rw [if_pos k0, if_pos k0]; exact key _
    · rw [if_neg k0, if_neg k0]
      by_cases k1 : nI k = 1
      · rw [if_pos k1, if_pos k1]; exact key _
      · rw [if_neg k1, if_neg k1]; exact key _
  · rcases hx with rfl | rfl | rfl
    all_goals rw [k1, k2]
    all_goals simp only [bi_v, bo_v, if_neg (show ¬ (-10 : Int32) - 1 = 0 by decide), if_neg (show ¬ (-10 : Int32) - 2 = 0 by decide), if_neg (show ¬ (-10 : Int32) - 3 = 0 by decide), if_neg (show ¬ (1 : Int32) ≤ 0 by decide), if_neg (show ¬ (2 : Int32) ≤ 0 by decide), if_neg (show ¬ (3 : Int32) ≤ 0 by decide), f_X12_finds, q_pt]
    all_goals exact OK.find h _ _
theorem c_get {w v : Wd} (h : R12 w v) (a b d : Int32) : OK 12 R12 (f_X11_get w a b d) (f_X12_get v a b d) w v := by
  rcases sheet_k a with q | ⟨q, s, hs, rfl⟩
  · unfold f_X11_get f_X6_read f_X6_refusalOfItem f_X6_isSheet f_X12_get f_X12_isSheet
    rw [in_eq, q]; simp only [if_pos (show (0 : Int32) = 0 from rfl), if_neg one0, bi_v, if_neg (show ¬ (-2 : Int32) = 0 by decide), q_jn]; exact OK.same h
  rcases form_k b with p | ⟨p, k, hk, rfl⟩
  · unfold f_X11_get f_X6_read f_X6_refusalOfItem f_X6_isSheet f_X6_isForm f_X12_get f_X12_isSheet
    rw [in_eq, q, p]; simp only [if_pos (show (0 : Int32) = 0 from rfl), if_neg one0, bi_v, if_neg (show ¬ (-2 : Int32) = 0 by decide), q_jn]; exact OK.same h
  unfold f_X11_get f_X6_read f_X12_get f_X12_isSheet
  rw [in_eq, q, p]
  simp only [if_neg one0, q_jn]
  rcases c_item h hs hk d with ⟨k1, k2, i, hi, rfl⟩ | ⟨x, hx, k1, k2⟩
  · rw [k1, k2]
    simp only [bi_v, bo_v, if_true, ldq_n hs (show 4 < 2 ^ 31 by decide) (h.1 s hs).1, rt_56, ld_n hi (show 60 < 2 ^ 31 by decide), i60, ld_n (show 60 * s + i < 240 by omega) (show 240 < 2 ^ 31 by decide), if_pos (show (0 : Int32) ≤ 0 by decide), (h.1 s hs).2.2.2 i hi]
    exact OK.same h
  · rcases hx with rfl | rfl | rfl
    all_goals rw [k1, k2]
    all_goals simp only [bi_v, bo_v, if_neg (show ¬ (-10 : Int32) - 1 = 0 by decide), if_neg (show ¬ (-10 : Int32) - 2 = 0 by decide), if_neg (show ¬ (-10 : Int32) - 3 = 0 by decide), if_neg (show ¬ (1 : Int32) ≤ 0 by decide), if_neg (show ¬ (2 : Int32) ≤ 0 by decide), if_neg (show ¬ (3 : Int32) ≤ 0 by decide), q_pt]
    all_goals exact OK.find h _ _
