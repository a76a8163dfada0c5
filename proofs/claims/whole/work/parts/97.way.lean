/-! ===== way, step, seen ===== -/
def R7 (w v : Wd) : Prop := wS w 4 5 = wS v 63 34 ∧ RST w v
theorem R7.fr {w v w' v' : Wd} (h : R7 w v) (hw : sm 7 w w') (hv : sm 7 v v') : R7 w' v' :=
  ⟨by rw [(hw 4 5 rfl).1, (hv 63 34 rfl).1]; exact h.1, h.2.fr (hw 4 7 rfl).1 (fun j => (hw 28 j rfl).1) (hv 63 42 rfl).1 (fun j => (hv 96 j rfl).1)⟩
/-- the steps, written down backward -/
theorem l_keep {w0 v0 : Wd} {N D : Nat} (W : Wy w0 v0 N) (hD : D ≤ 12) (J : Wd → Option Wd) (J' : Wd → Option (Int32 × Wd)) : ∀ (k p f : Nat) (w v : Wd), (∀ i, wS w 25 i = wS w0 25 i) → (∀ i, wS v 92 i = wS v0 92 i ∧ wS v 93 i = wS v0 93 i) → p < N → wS v0 94 p = nI k → k ≤ D → k < f → (∀ j, k ≤ j → j < D → wS w 28 j = wS v 96 j) →
    ∃ w' v', l_X10_keepSteps_11 J f w (nI k - 1) (nI p) = J w' ∧ l_X12_tells_24 J' f v (nI k - 1) (nI p) = J' v' ∧ Fr1 28 0 12 w w' ∧ Fr1 96 0 12 v v' ∧ ∀ j, j < D → wS w' 28 j = wS v' 96 j
  | 0, p, f + 1, w, v, _, _, _, _, _, _, h => by
    refine ⟨w, v, ?_, ?_, Fr1.refl, Fr1.refl, fun j hj => h j (by omega) hj⟩
    · unfold l_X10_keepSteps_11
      rw [if_pos (show nI 0 - 1 < 0 by decide)]
    · unfold l_X12_tells_24
      rw [if_pos (show nI 0 - 1 < 0 by decide)]
  | k + 1, p, f + 1, w, v, h25, h92, hp, e94, hk, hf, h => by
    have hN := W.1
    obtain ⟨-, -, -, -, fr, m, d, b1, b2, b3, b4, b5, b6, b7, b8⟩ := W.2.2.2.1 p hp
    have hd : d = k + 1 := (nI_eq (by omega) (by omega)).mp (b7.symm.trans e94)
    subst hd
    rcases b8 with z | ⟨b8, b9⟩
    · omega
    obtain ⟨s1, s2⟩ := shr4 (f := fr) (m := m) (by omega) (by omega)
    have hk12 : k < 12 := by omega
    obtain ⟨w', v', i1, i2, i3, i4, i5⟩ := l_keep W hD J J' k fr f (sI w 28 k (nI m)) (sI v 96 k (nI m)) (fun i => by rw [wS_sI, if_neg (by omega)]; exact h25 i) (fun i => ⟨by rw [wS_sI, if_neg (by omega)]; exact (h92 i).1, by rw [wS_sI, if_neg (by omega)]; exact (h92 i).2⟩) (by omega) b9 (by omega) (by omega) (fun j h1 h2 => by
      rw [wS_sI, wS_sI]
      by_cases q : j = k
      · rw [if_pos ⟨rfl, q⟩, if_pos ⟨rfl, q⟩]
      · rw [if_neg (by omega), if_neg (by omega)]; exact h j (by omega) h2)
    refine ⟨w', v', ?_, ?_, (Fr1.sI (by omega) hk12).trans i3, (Fr1.sI (by omega) hk12).trans i4, i5⟩
    · rw [l_X10_keepSteps_11, nI_pred, if_neg (nI_pos (by omega))]
      simp only [ld_n (show p < 1500 by omega) (show 1500 < 2 ^ 31 by decide), h25, b4, s2, st_n hk12 (show 12 < 2 ^ 31 by decide), wS_sI, show ¬ (25 = 28) by decide, false_and, if_false, s1, lt_e, nI_m]
      exact i1
    · rw [l_X12_tells_24, nI_pred, if_neg (nI_pos (by omega))]
      simp only [ld_n (show p < 1500 by omega) (show 1500 < 2 ^ 31 by decide), h92, b5, b6, st_n hk12 (show 12 < 2 ^ 31 by decide), wS_sI, show ¬ (92 = 96) by decide, false_and, if_false, lt_e, nI_m]
      exact i2
theorem fr1_o7 {k lo hi : Nat} {w w' : Wd} (hk : k = 28 ∨ k = 96) (h : Fr1 k lo hi w w') : only 7 w w' := h.only (fun j => Or.inl (by rcases hk with rfl | rfl <;> rfl))
theorem c_tells {w v : Wd} {c g N D : Nat} {a b e e' k : Int32} (S : SS w v c g a b e e' k N) (hN : 0 < N) (hD : D ≤ 12) (e94 : wS v 94 (N - 1) = nI D) : ∃ w' v', f_X10_keepSteps w (nI D) = some w' ∧ f_X12_tells v = some (nI D, v') ∧ R7 w' v' ∧ PZ w v w' v' := by
  obtain ⟨R, hcn, W, G, Q⟩ := S
  obtain ⟨y1, y2, y3, -⟩ := id W
  have eN : nI N - 1 = nI (N - 1) := nI_sub N hN
  unfold f_X10_keepSteps f_X12_tells
  simp only [gt_e, lt_e, y2, y3, eN, ld_n (show N - 1 < 1500 by omega) (show 1500 < 2 ^ 31 by decide), e94, q_pt, jn_eq]
  have e42 : wS (sI v 63 42 (nI D)) 63 42 = nI D := by rw [wS_sI, if_pos ⟨rfl, rfl⟩]
  rw [e42]
  obtain ⟨w1, v1, k1, k2, k3, k4, k5⟩ := l_keep W hD (fun w_45j => some (sI w_45j 4 7 (nI D))) (fun w_53j => some (wS w_53j 63 42, w_53j)) D (N - 1) FU w (sI v 63 42 (nI D)) (fun _ => rfl) (fun i => ⟨by rw [wS_sI, if_neg (by omega)], by rw [wS_sI, if_neg (by omega)]⟩) (by omega) e94 (Nat.le_refl _) (by unfold FU; omega) (fun j h1 h2 => by omega)
  rw [k1, k2]
  have f42 : wS v1 63 42 = nI D := ((k4.1 63 42 (by omega)).1).trans e42
  rw [f42]
  refine ⟨_, v1, rfl, rfl, ⟨?_, D, hD, ?_, f42, fun j hj => ?_⟩, (fr1_o7 (Or.inl rfl) k3).trans (only.sI (Or.inl rfl)), only.trans (show only 7 v (sI v 63 42 (nI D)) from only.sI (Or.inl rfl)) (fr1_o7 (Or.inr rfl) k4), fun p j h1 h2 => ?_, (mm.sI (by decide) (by decide)).trans (k4.mm (by decide) (by decide)), fun q => k3.2 q, fun q => k4.2 q⟩
  · rw [wS_sI, if_neg (by omega), (k3.1 4 5 (by omega)).1, (k4.1 63 34 (by omega)).1, wS_sI, if_neg (by omega), y2, y3]
  · rw [wS_sI, if_pos ⟨rfl, rfl⟩]
  · rw [wS_sI, if_neg (by omega)]; exact k5 j hj
  · rw [wS_sI, if_neg (by omega)]; exact (k3.1 p j (by omega)).1
/-- what a search gives, here and there -/
def WR (w v : Wd) (oc om : Option (Int32 × Wd)) : Prop := ∃ r w' v', oc = some (r, w') ∧ om = some (r, v') ∧ R7 w' v' ∧ PZ w v w' v'
theorem WR.pre {w v w1 v1 : Wd} {oc om : Option (Int32 × Wd)} (p : PZ w v w1 v1) (h : WR w1 v1 oc om) : WR w v oc om := by
  obtain ⟨r, w', v', h1, h2, h3, h4⟩ := h
  exact ⟨r, w', v', h1, h2, h3, p.trans h4⟩
theorem SS.R7 {w v : Wd} {c g N : Nat} {a b e e' k : Int32} (S : SS w v c g a b e e' k N) : R7 w v := ⟨by rw [S.2.2.1.2.1, S.2.2.1.2.2.1], S.2.2.2.2⟩
/-- the reference's end of a search that found -/
def jT : Wd → Option (Int32 × Wd) := fun w_288j => q_bi (f_X12_tells w_288j) (fun v_289 w_289 => some (v_289, w_289))
theorem goOn_k {w v : Wd} {c g N i d : Nat} {a b e e' k : Int32} (hc : c < 4) (hd : d ≤ 11) (S : SS w v c g a b e e' k N) (hi : i < N) (eD : wS v 94 i = nI d) :
    (∃ r w' v', (r = -5 ∨ r = nI (d + 1)) ∧ f_X10_goOn w (nI i) (nI (d + 1)) = some (r, w') ∧ (∀ J', l_X12_way_169 (nI c) a b e e' k jT (nI i) J' FU v 0 = some (r, v')) ∧ R7 w' v' ∧ PZ w v w' v') ∨
    ∃ w' v' N', f_X10_goOn w (nI i) (nI (d + 1)) = some (-1, w') ∧ (∀ J', l_X12_way_169 (nI c) a b e e' k jT (nI i) J' FU v 0 = J' v') ∧ SS w' v' c g a b e e' k N' ∧ PZ w v w' v' ∧ N ≤ N' ∧ OE v v' N ∧ ∀ j, N ≤ j → j < N' → wS v' 94 j = nI (d + 1) := by
  obtain ⟨y1, y2, y3, y4, -⟩ := id S.2.2.1
  obtain ⟨a1, a2, a3, a4, -⟩ := y4 i hi
  obtain ⟨u1, u2, u3⟩ := unpack a1 a2 a3
  obtain ⟨w', v', N', S', P', hN', O', D', T⟩ := l_go hc hd 10 0 FU w v N S (by omega) (by unfold FU; omega) hi rfl rfl rfl eD
  have op : f_X10_goOn w (nI i) (nI (d + 1)) = l_X10_goOn_42 (nI i) (wS v 89 i) (wS v 90 i) (wS v 91 i) (fun w_177j => q_bo (f_X10_keepSteps w_177j (nI (d + 1))) (fun w_179 => some (nI (d + 1), w_179))) FU w 0 := by
    unfold f_X10_goOn
    simp only [ldl_n (show i < 1500 by omega) (show 1500 < 2 ^ 31 by decide), a4, lt_e, u1, u2, u3, jn_eq]
  rw [op]
  rw [nI_0] at T
  rcases T with ⟨t1, t2⟩ | ⟨t1, t2⟩ | ⟨t1, t2, t3⟩
  · exact Or.inr ⟨w', v', N', t1 _, t2 _, S', P', hN', O', D'⟩
  · exact Or.inl ⟨-5, w', v', Or.inl rfl, t1 _, t2 _, S'.R7, P'⟩
  · obtain ⟨w2, v2, k1, k2, k3, k4⟩ := c_tells S' (by omega) (show d + 1 ≤ 12 by omega) (D' (N' - 1) (by omega) (by omega))
    refine Or.inl ⟨nI (d + 1), w2, v2, Or.inr rfl, ?_, fun J' => ?_, k3, P'.trans k4⟩
    · rw [t1, k1, bo_e]
    · rw [t2]
      unfold jT
      rw [k2, bi_e]
theorem l_depth {c g : Nat} {a b e e' k : Int32} (hc : c < 4) : ∀ (t d : Nat), d + t = 12 → ∀ (i N f h : Nat) (w v : Wd), SS w v c g a b e e' k N → i ≤ N → (∀ j, i ≤ j → j < N → wS v 94 j = nI d) → t < f → 1501 ≤ h + i →
    WR w v (l_X10_find_98 f w (nI (d + 1)) (nI i)) (l_X12_way_145 (nI c) a b e e' k jT h v (nI i))
  | 0, d, hd, i, N, f + 1, h, w, v, S, hi, D, _, hh => by
    obtain ⟨y1, y2, y3, -⟩ := id S.2.2.1
    obtain ⟨h, rfl⟩ : ∃ q, h = q + 1 := ⟨h - 1, by omega⟩
    have hd12 : d = 12 := by omega
    subst hd12
    refine ⟨-3, w, v, ?_, ?_, S.R7, PZ.refl⟩
    · rw [l_X10_find_98, if_pos (show (12 : Int32) < nI (12 + 1) by decide)]
    · rw [l_X12_way_145]
      simp only [gt_e, y3]
      by_cases q : N ≤ i
      · rw [if_pos (nI_le q (by omega))]
      · rw [if_neg (nI_ge (show i < N by omega) (by omega)), ld_n (show i < 1500 by omega) (show 1500 < 2 ^ 31 by decide), D i (Nat.le_refl _) (by omega), if_pos (show (12 : Int32) ≤ nI 12 by decide)]
  | t + 1, d, hd, i0, N0, f + 1, h0, w0, v0, S0, hi0, D0, hf, hh0 => by
    have hd11 : d ≤ 11 := by omega
    obtain ⟨y1, y2, y3, -⟩ := id S0.2.2.1
    have I := l_depth (g := g) (a := a) (b := b) (e := e) (e' := e') (k := k) hc t (d + 1) (by omega)
    -- the frontier: from i up to e, depth d
    have inner : ∀ (m i N fi h : Nat) (w v : Wd), i + m = N0 → m < fi → SS w v c g a b e e' k N → N0 ≤ N → (∀ j, i ≤ j → j < N0 → wS v 94 j = nI d) → (∀ j, N0 ≤ j → j < N → wS v 94 j = nI (d + 1)) → 1501 ≤ h + i →
        WR w v (l_X10_find_111 (nI (d + 1)) (nI N0) (fun w_143j x4_143 => q_lt (nI (d + 1) + (1 : Int32)) (fun v_143 => l_X10_find_98 f w_143j v_143 x4_143)) fi w (nI i)) (l_X12_way_145 (nI c) a b e e' k jT h v (nI i)) := by
      intro m
      induction m with
      | zero =>
        intro i N fi h w v hm hfi S hN D1 D2 hh
        obtain ⟨fi, rfl⟩ : ∃ q, fi = q + 1 := ⟨fi - 1, by omega⟩
        have ei : i = N0 := by omega
        subst ei
        rw [l_X10_find_111, if_pos (nI_le (Nat.le_refl i) (show i < 2 ^ 31 by omega)), lt_e, nI_1]
        exact I i N f h w v S hN D2 (by omega) hh
      | succ m ih =>
        intro i N fi h w v hm hfi S hN D1 D2 hh
        obtain ⟨fi, rfl⟩ : ∃ q, fi = q + 1 := ⟨fi - 1, by omega⟩
        obtain ⟨h, rfl⟩ : ∃ q, h = q + 1 := ⟨h - 1, by have := S.2.2.1.1; omega⟩
        obtain ⟨z1, z2, z3, -⟩ := id S.2.2.1
        have hiN : i < N := by omega
        have rf : l_X12_way_145 (nI c) a b e e' k jT (h + 1) v (nI i) = l_X12_way_169 (nI c) a b e e' k jT (nI i) (fun w_299j => q_lt (nI i + (1 : Int32)) (fun v_299 => l_X12_way_145 (nI c) a b e e' k jT h w_299j v_299)) FU v 0 := by
          rw [l_X12_way_145]
          simp only [gt_e, z3, if_neg (nI_ge hiN (show N < 2 ^ 31 by omega)), ld_n (show i < 1500 by omega) (show 1500 < 2 ^ 31 by decide), D1 i (Nat.le_refl _) (by omega), if_neg (show ¬ (12 : Int32) ≤ nI d from fun q => by have := (nI_leI (a := 12) (by decide) (by omega)).mp q; omega), jn_eq]
        rcases goOn_k hc hd11 S hiN (D1 i (Nat.le_refl _) (by omega)) with ⟨r, w', v', hr, k1, k2, k3, k4⟩ | ⟨w', v', N', k1, k2, S', P', hN', O', D'⟩
        · refine ⟨r, w', v', ?_, ?_, k3, k4⟩
          · rw [l_X10_find_111, if_neg (nI_ge (show i < N0 by omega) (by omega)), k1, bi_e, if_neg]
            rcases hr with rfl | rfl
            · decide
            · exact nI_m1 (by omega)
          · rw [rf, k2]
        · have N := ih (i + 1) N' fi h w' v' (by omega) (by omega) S' (by omega) (fun j h1 h2 => by rw [(O' j (by omega)).2.2.2]; exact D1 j (by omega) h2) (fun j h1 h2 => by
            by_cases q : j < N
            · rw [(O' j q).2.2.2]; exact D2 j h1 q
            · exact D' j (by omega) h2) (by omega)
          rw [l_X10_find_111, if_neg (nI_ge (show i < N0 by omega) (by omega)), k1, bi_e, if_pos rfl, lt_e, nI_1 i, rf, k2, lt_e, nI_1 i]
          exact N.pre P'
    have L := inner (N0 - i0) i0 N0 FU h0 w0 v0 (by omega) (by unfold FU; omega) S0 (Nat.le_refl _) D0 (fun j h1 h2 => by omega) hh0
    rw [l_X10_find_98, if_neg (show ¬ (12 : Int32) < nI (d + 1) from fun q => by have := (nI_ltI (a := 12) (by decide) (by omega)).mp q; omega)]
    simp only [gt_e, y2, jn_eq]
    exact L
theorem l_w46 : ∀ (m i f : Nat) (v : Wd), i + m = 4096 → m < f → (∀ j, j < i → wS v 95 j = 0) → ∃ v', (∀ J, l_X12_way_46 J f v (nI i) = J v') ∧ Fr1 95 0 4096 v v' ∧ ∀ j, j < 4096 → wS v' 95 j = 0
  | 0, i, f + 1, v, hi, _, h => by
    refine ⟨v, fun J => ?_, Fr1.refl, fun j hj => h j (by omega)⟩
    rw [l_X12_way_46, if_pos (show (4096 : Int32) ≤ nI i from (nI_leI (a := 4096) (by decide) (by omega)).mpr (by omega))]
  | m + 1, i, f + 1, v, hi, hf, h => by
    obtain ⟨v', a1, a2, a3⟩ := l_w46 m (i + 1) f (sI v 95 i 0) (by omega) (by omega) (fun j hj => by
      by_cases q : j = i
      · rw [wS_sI, if_pos ⟨rfl, q⟩]
      · rw [wS_sI, if_neg (by omega)]; exact h j (by omega))
    refine ⟨v', fun J => ?_, (Fr1.sI (by omega) (by omega)).trans a2, a3⟩
    rw [l_X12_way_46, if_neg (show ¬ (4096 : Int32) ≤ nI i from fun k => by have := (nI_leI (a := 4096) (by decide) (by omega)).mp k; omega), st_n (show i < 4096 by omega) (show 4096 < 2 ^ 31 by decide), lt_e, nI_1]
    exact a1 J
theorem kt_goal {n : Nat} : kt (2000 + n) = (10, 0) := by
  unfold kt
  rw [if_neg (by omega), if_neg (by omega), if_neg (by omega), if_neg (by omega)]
theorem c_way {w v : Wd} (R : RS w v) (h7 : R7 w v) {g : Nat} (hg : wS w 999 0 = nI g) (hg6 : g < 600) (hA : ∀ n, g ≤ n → n < 600 → wA w (2000 + n) = 0) (x a b e e' k : Int32) :
    ∃ r w1 v1, f_X11_way w x a b e e' k = some (r, w1) ∧ f_X12_way v x a b e e' k = some (r, v1) ∧ R7 w1 v1 ∧ (∀ q, q ≠ 0 → q ≠ 7 → q ≠ 13 → sm q w w1) ∧ only 7 v v1 ∧ cm w w1 ∧ mm v v1 ∧ am v v1 ∧ (∀ q, q < 2000 → wA w1 q = wA w q) ∧ ∃ g', g' ≤ g + 1 ∧ wS w1 999 0 = nI g' ∧ ∀ n, g' ≤ n → n < 600 → wA w1 (2000 + n) = 0 := by
  have hg9 : g < 90000 := by omega
  have none : ∀ r, (∃ r' w1 v1, (some (r, w) : Option (Int32 × Wd)) = some (r', w1) ∧ (some (r, v) : Option (Int32 × Wd)) = some (r', v1) ∧ R7 w1 v1 ∧ (∀ q, q ≠ 0 → q ≠ 7 → q ≠ 13 → sm q w w1) ∧ only 7 v v1 ∧ cm w w1 ∧ mm v v1 ∧ am v v1 ∧ (∀ q, q < 2000 → wA w1 q = wA w q) ∧ ∃ g', g' ≤ g + 1 ∧ wS w1 999 0 = nI g' ∧ ∀ n, g' ≤ n → n < 600 → wA w1 (2000 + n) = 0) := fun r => ⟨r, w, v, rfl, rfl, h7, fun _ _ _ _ => sm.refl, only.refl, cm.refl, mm.refl, am.refl, fun _ _ => rfl, g, by omega, hg, hA⟩
  unfold f_X11_way f_X12_way
  rw [isBox_eq]
  rcases carAt_c R.2.2.2.2.1 x with ⟨q1, q2⟩ | ⟨c, hc, hcn, rfl, q1, q2, A, S, P, Q⟩
  · rw [q1, q2, bo_e, if_pos rfl, if_pos rfl]; exact none _
  rw [q1, q2, bo_e, if_neg (K5_ne (c := c)), if_neg one0]
  rcases isBox_c a b e e' with q | ⟨q, -⟩
  · rw [q, if_pos rfl, if_pos rfl]; exact none _
  rw [q, if_neg one0, if_neg one0]
  have eH : f_X12_isHeading k = f_X11_within k 0 35 := rfl
  rw [eH]
  rcases win_c k 0 35 with q | ⟨q, kb1, kb2⟩
  · rw [q, if_pos rfl, if_pos rfl]; exact none _
  rw [q, if_neg one0, if_neg one0, gt_e, ld_n hc (show 4 < 2 ^ 31 by decide), ← P.2.2.2.1.1]
  by_cases hst : wS w (K5 c) 12 = 0
  · rw [if_pos hst, if_pos hst]; exact none _
  rw [if_neg hst, if_neg hst]
  have k0 : 0 < K5 c := by unfold K5; omega
  have kK : K5 c < 100000 := by unfold K5; omega
  have eg : (wS w 999 0).toNatClampNeg = g := by rw [hg]; exact nI_clamp (by omega)
  -- the class: the goal's box
  have hA0 : wA (sI w 999 0 (nI (g + 1))) (2000 + g) = 0 := hA g (Nat.le_refl _) hg6
  unfold q_gb
  rw [eg, if_pos hg9, nw_k hA0 kt_goal, lt_e]
  unfold f_X0_init f_X10_find
  simp only [q_pt, bo_e, if_pos (show 0 < K5 c ∧ K5 c < 100000 from ⟨k0, kK⟩), if_pos (show 0 < 2000 + g ∧ 2000 + g < 100000 from ⟨by omega, by omega⟩), fill_k (show 1024 < 10000 by decide)]
  -- the world before the first standing
  generalize hw1 : sFr (sI (sI (sI (sI (sI (sI (sI (sI (sN (sI w 999 0 (nI (g + 1))) (2000 + g) 2) (2000 + g) 0 a) (2000 + g) 1 b) (2000 + g) 2 e) (2000 + g) 3 e') 4 8 (nI (K5 c))) 4 9 (nI (2000 + g))) 4 10 k) 4 5 0) 27 0 1024 (-1) = w1
  have rd : ∀ p j, p ≠ 999 → p ≠ 2000 + g → p ≠ 27 → ¬ (p = 4 ∧ (j = 5 ∨ j = 8 ∨ j = 9 ∨ j = 10)) → wS w1 p j = wS w p j ∧ wL w1 p j = wL w p j := fun p j h1 h2 h3 h4 => by
    subst hw1
    refine ⟨?_, ?_⟩
    · (repeat first | rw [wS_sI, if_pos ⟨rfl, rfl⟩] | rw [wS_sI, if_neg (by omega)] | rw [wS_sN, if_neg (by omega)] | rw [wS_sR] | rw [wS_sN, if_pos rfl] | rw [wS_sFr, if_neg (by omega)] | rw [wS_sFr, if_pos (by omega)])
    · show wL (sN (sI w 999 0 (nI (g + 1))) (2000 + g) 2) p j = wL w p j
      rw [wL_sN, if_neg (by omega)]; rfl
  have o13 : ∀ q, q ≠ 0 → q ≠ 7 → q ≠ 13 → sm q w w1 := fun q h0 hq7 h13 p j hp => by
    by_cases p1 : p = 999
    · subst p1; exact absurd hp.symm h13
    by_cases p2 : p = 2000 + g
    · rw [p2, Ar_goal] at hp; exact absurd hp.symm h0
    by_cases p3 : p = 27
    · subst p3; exact absurd hp.symm h0
    by_cases p4 : p = 4 ∧ (j = 5 ∨ j = 8 ∨ j = 9 ∨ j = 10)
    · obtain ⟨rfl, rfl | rfl | rfl | rfl⟩ := p4
      · exact absurd hp.symm hq7
      · exact absurd hp.symm h0
      · exact absurd hp.symm h0
      · exact absurd hp.symm h0
    · exact rd p j p1 p2 p3 p4
  have G1 : GL w1 c g a b e e' k := by
    subst hw1
    refine ⟨?_, ?_, ?_, ?_, ?_, ?_, ?_, hg9⟩
    all_goals (repeat first | rw [wS_sI, if_pos ⟨rfl, rfl⟩] | rw [wS_sI, if_neg (by omega)] | rw [wS_sN, if_neg (by omega)] | rw [wS_sR] | rw [wS_sN, if_pos rfl] | rw [wS_sFr, if_neg (by omega)] | rw [wS_sFr, if_pos (by omega)])
  have e45 : wS w1 4 5 = nI 0 := by
    subst hw1
    (repeat first | rw [wS_sI, if_pos ⟨rfl, rfl⟩] | rw [wS_sI, if_neg (by omega)] | rw [wS_sN, if_neg (by omega)] | rw [wS_sR] | rw [wS_sN, if_pos rfl] | rw [wS_sFr, if_neg (by omega)] | rw [wS_sFr, if_pos (by omega)])
    exact nI_0.symm
  have e27 : ∀ j, j < 1024 → wS w1 27 j = -1 := fun j hj => by
    subst hw1
    (repeat first | rw [wS_sI, if_pos ⟨rfl, rfl⟩] | rw [wS_sI, if_neg (by omega)] | rw [wS_sN, if_neg (by omega)] | rw [wS_sR] | rw [wS_sN, if_pos rfl] | rw [wS_sFr, if_neg (by omega)] | rw [wS_sFr, if_pos (by omega)])
  have aw : ∀ q, wA w1 q = if q = 2000 + g then 2 else wA w q := fun q => by
    subst hw1
    show wA (sN (sI w 999 0 (nI (g + 1))) (2000 + g) 2) q = _
    rw [wA_sN]
    rfl
  have e999 : wS w1 999 0 = nI (g + 1) := by
    subst hw1
    (repeat first | rw [wS_sI, if_pos ⟨rfl, rfl⟩] | rw [wS_sI, if_neg (by omega)] | rw [wS_sN, if_neg (by omega)] | rw [wS_sR] | rw [wS_sN, if_pos rfl] | rw [wS_sFr, if_neg (by omega)] | rw [wS_sFr, if_pos (by omega)])
  have c1 : cm w w1 := fun p j h1 h2 => (rd p j (by omega) (by omega) (by omega) (by omega)).1
  have R1w : RS w1 v := ⟨R.1.fr (o13 1 (by decide) (by decide) (by decide)) sm.refl, R.2.1.fr (o13 2 (by decide) (by decide) (by decide)) sm.refl, R.2.2.1.fr (o13 3 (by decide) (by decide) (by decide)) sm.refl, R.2.2.2.1.fr (o13 4 (by decide) (by decide) (by decide)) sm.refl, R.2.2.2.2.1.fr (o13 5 (by decide) (by decide) (by decide)) sm.refl, R.2.2.2.2.2.fr (o13 6 (by decide) (by decide) (by decide)) sm.refl⟩
  have Kr : ∀ j, wS w1 (K5 c) j = wS w (K5 c) j := fun j => (rd (K5 c) j (by unfold K5; omega) (by unfold K5; omega) (by unfold K5; omega) (by unfold K5; omega)).1
  clear hw1
  -- the reference: the table
  obtain ⟨v1, t1, t2, t3⟩ := l_w46 4096 0 FU v (by omega) (by unfold FU; omega) (fun j hj => absurd hj (Nat.not_lt_zero j))
  rw [nI_0] at t1
  rw [jn_eq, t1]
  have o1 : only 7 v v1 := t2.only (fun j => Or.inr rfl)
  have rdv : ∀ p j, p ≠ 95 → wS v1 p j = wS v p j := fun p j hp => (t2.1 p j (by omega)).1
  have f34 : FrM v1 (sI v1 63 34 0) := ⟨fun p j h1 h2 => ⟨by rw [wS_sI, if_neg (by omega)], rfl⟩, am.sI⟩
  have e84 : ∀ p, 84 ≤ p → p ≤ 88 → wS (sI v1 63 34 0) p c = wS v p c := fun p h1 h2 => by rw [wS_sI, if_neg (by omega)]; exact rdv p c (by omega)
  simp only [q_pt, ld_n hc (show 4 < 2 ^ 31 by decide), e84 85 (by decide) (by decide), e84 86 (by decide) (by decide), e84 87 (by decide) (by decide), ← P.1.1, ← P.2.1.1, ← P.2.2.1.1]
  obtain ⟨v2, u1, u2, u3, u4, u5⟩ := goes10 (v := sI v1 63 34 0) (c := nI c) (x := wS w (K5 c) 9) (y := wS w (K5 c) 10) (h := wS w (K5 c) 11)
  rw [u1, bo_e, gt_e, gt_e, gt_e, u2, u3, u4]
  have o2 : only 7 v v2 := (o1.trans f34.only).trans u5.only.of0
  have m2 : mm v v2 := ((t2.mm (by decide) (by decide)).trans f34.mm).trans u5.mm
  have am2 : am v v2 := (t2.2.trans f34.2).trans u5.2
  have e95 : ∀ j, j < 4096 → wS v2 95 j = 0 := fun j hj => by rw [(u5.1 95 j (by omega)).1, wS_sI, if_neg (by omega)]; exact t3 j hj
  have e34 : wS v2 63 34 = nI 0 := by rw [(u5.1 63 34 (by omega)).1, wS_sI, if_pos ⟨rfl, rfl⟩, nI_0]
  have T0 : HT v2 0 := ⟨fun r hr => Or.inl (e95 r hr), fun i hi => absurd hi (Nat.not_lt_zero i), ct_0 (fun i hi => e95 i hi)⟩
  have C0 : CH w1 0 := ⟨fun q hq => Or.inl ⟨e27 q hq, fun j hj => absurd hj (Nat.not_lt_zero j)⟩, fun i hi => absurd hi (Nat.not_lt_zero i)⟩
  have rd28 : ∀ j, wS w1 28 j = wS w 28 j := fun j => (rd 28 j (by decide) (by omega) (by decide) (by omega)).1
  have rd96 : ∀ j, wS v2 96 j = wS v 96 j := fun j => by rw [(u5.1 96 j (by omega)).1, wS_sI, if_neg (by omega)]; exact rdv 96 j (by decide)
  have S0 : SS w1 v2 c g a b e e' k 0 := ⟨R1w.fr7 only.refl o2, by rw [(rd 3 2 (by decide) (by omega) (by decide) (by omega)).1]; exact hcn, ⟨by omega, e45, e34, fun i hi => absurd hi (Nat.not_lt_zero i), C0, T0⟩, G1, h7.2.fr (rd 4 7 (by decide) (by omega) (by decide) (by omega)).1 rd28 (by rw [(u5.1 63 42 (by omega)).1, wS_sI, if_neg (by omega)]; exact rdv 63 42 (by decide)) rd96⟩
  obtain ⟨s, r, es, hs4, hr4, k1, k2⟩ := c_slot T0 (by omega) (wS w (K5 c) 9) (wS w (K5 c) 10) (wS w (K5 c) 11)
  rcases k2 with ⟨k3, k4, -⟩ | ⟨-, i, hi, -⟩
  rotate_left
  · exact absurd hi (Nat.not_lt_zero i)
  obtain ⟨w3, v3, p1, p2, p3, p4, p5, p6, p7, p8⟩ := c_add (i := 0) (m := 0) (d := 0) S0 (by omega) u2 u3 u4 P.1.2 P.2.1.2 P.2.2.1.2 es hs4 hr4 k3 k4 (by omega) (by omega) (by omega) (Or.inl rfl)
  have bK : bt (-100) 100 (wS w (K5 c) 11) := bt_w P.2.2.1.2 (by decide) (by decide)
  have A3 : A5 w3 v3 c := by
    obtain ⟨n6, hn6, z1, -, z3, -⟩ := p3.1.2.2.2.2.1
    have := p3.2.1
    rw [z1] at this
    exact (z3 c ((nI_ltI (by omega) (by omega)).mp this)).1
  obtain ⟨u, v1', v2'⟩ := c_isGoal hc A3 p3.2.2.2.1 ((p7 31 (by decide)).trans u2) ((p7 32 (by decide)).trans u3) ((p7 33 (by decide)).trans u4) bK
  have p1' : f_X10_note w1 (f_X10_standingOf (wS w (K5 c) 9) (wS w (K5 c) 10) (wS w (K5 c) 11)) 0 = some w3 := by
    have h := p1
    rw [show 16 * 0 + 0 = 0 from rfl, nI_0] at h
    exact h
  have p2' : f_X12_counts v2 (nI ((s + r) % 4096)) 0 0 0 = some v3 := by
    have h := p2
    rw [nI_0] at h
    exact h
  have K3 : ∀ j, wS w3 (K5 c) j = wS w (K5 c) j := fun j => (p8 (K5 c) j (Or.inl rfl)).trans (Kr j)
  have kK2 : K5 c < 2 ^ 31 := by unfold K5; omega
  have fin : ∀ oc om, WR w3 v3 oc om → ∃ r w1 v1, oc = some (r, w1) ∧ om = some (r, v1) ∧ R7 w1 v1 ∧ (∀ q, q ≠ 0 → q ≠ 7 → q ≠ 13 → sm q w w1) ∧ only 7 v v1 ∧ cm w w1 ∧ mm v v1 ∧ am v v1 ∧ (∀ q, q < 2000 → wA w1 q = wA w q) ∧ ∃ g', g' ≤ g + 1 ∧ wS w1 999 0 = nI g' ∧ ∀ n, g' ≤ n → n < 600 → wA w1 (2000 + n) = 0 := by
    rintro oc om ⟨r, w', v', f1, f2, f3, f4⟩
    have pz := p4.trans f4
    refine ⟨r, w', v', f1, f2, f3, fun q h0 h7 h13 => (o13 q h0 h7 h13).trans (pz.1 q h0 h7), o2.trans pz.2.1, c1.trans pz.2.2.1, m2.trans pz.2.2.2.1, am2.trans pz.2.2.2.2.2, fun q hq => ?_, g + 1, Nat.le_refl _, ?_, fun n hn hn6 => ?_⟩
    · rw [pz.2.2.2.2.1 q, aw, if_neg (by omega)]
    · rw [(pz.1 13 (by decide) (by decide) 999 0 rfl).1]; exact e999
    · rw [pz.2.2.2.2.1 (2000 + n), aw, if_neg (by omega)]; exact hA n (by omega) hn6
  rw [k1, bo_e, p2', bo_e, v2', bo_e]
  simp only [gd_k G1.1 k0 kK2, gt_e, Kr, p1', bo_e, gd_k p3.2.2.2.1.1 k0 kK2, K3, v1']
  by_cases hu : u = 0
  · rw [if_pos hu, if_pos hu, jn_eq]
    have L := l_depth hc 12 0 rfl 0 1 FU FU w3 v3 p3 (by omega) (fun j h1 h2 => by rw [show j = 0 by omega]; exact p6) (by unfold FU; omega) (by unfold FU; omega)
    rw [nI_0, show nI (0 + 1) = (1 : Int32) from rfl] at L
    obtain ⟨r1, w4, v4, l1, l2, l3⟩ := fin _ _ L
    rw [l1, bi_e]
    exact ⟨r1, w4, v4, rfl, l2, l3⟩
  · rw [if_neg hu, if_neg hu]
    obtain ⟨w4, v4, t4, t5, t6, t7⟩ := c_tells p3 (by omega) (show 0 ≤ 12 by omega) p6
    have ek : f_X10_keepSteps w3 (nI 0) = some (sI w3 4 7 (nI 0)) := by
      have hz : nI 0 - 1 < 0 := by decide
      unfold f_X10_keepSteps
      rw [gt_e, lt_e, lt_e, jn_eq, show FU = 999999 + 1 from rfl, l_X10_keepSteps_11, if_pos hz]
      rfl
    have e4 : w4 = sI w3 4 7 (nI 0) := Option.some.inj (t4.symm.trans ek)
    rw [t5, bi_e]
    have W4 : WR w3 v3 (some (0, sI w3 4 7 0)) (some (nI 0, v4)) := ⟨nI 0, w4, v4, by rw [e4, nI_0], rfl, t6, t7⟩
    obtain ⟨r1, w5, v5, l1, l2, l3⟩ := fin _ _ W4
    refine ⟨r1, w5, v5, ?_, l2, l3⟩
    rw [← l1]
theorem c_step {w v : Wd} (h : R7 w v) (a : Int32) : ∃ r, f_X11_step w a = some r ∧ f_X12_step v a = some r := by
  obtain ⟨-, k, k1, k2, k3, k4⟩ := h
  unfold f_X11_step f_X10_stepAt f_X12_step
  rw [in_eq]
  simp only [q_gt, k2, k3]
  rcases win_n a (n := k) (by omega) with q | ⟨q, i, hi, rfl⟩
  · rw [q]; exact ⟨_, rfl, rfl⟩
  · rw [q, if_neg one0, if_neg one0, ld_n (show i < 12 by omega) (show 12 < 2 ^ 31 by decide), ld_n (show i < 12 by omega) (show 12 < 2 ^ 31 by decide), k4 i hi]
    exact ⟨_, rfl, rfl⟩
theorem c_seen {w v : Wd} (h : R7 w v) : f_X11_seen w = f_X12_seen v := h.1
