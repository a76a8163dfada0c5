/-! ===== perform ===== -/
def o356 (w w' : Wd) : Prop := ∀ b, b ≠ 0 → b ≠ 3 → b ≠ 5 → b ≠ 6 → sm b w w'
theorem o356.refl {w : Wd} : o356 w w := fun _ _ _ _ _ => sm.refl
theorem o356.trans {u v w : Wd} (h : o356 u v) (g : o356 v w) : o356 u w := fun b h0 h3 h5 h6 => (h b h0 h3 h5 h6).trans (g b h0 h3 h5 h6)
theorem only.o3 {w w' : Wd} (h : only 3 w w') : o356 w w' := fun b h0 h3 _ _ => h b h0 h3
theorem only.o5 {w w' : Wd} (h : only 5 w w') : o356 w w' := fun b h0 _ h5 _ => h b h0 h5
theorem only.o6 {w w' : Wd} (h : only 6 w w') : o356 w w' := fun b h0 _ _ h6 => h b h0 h6
theorem only.o0 {w w' : Wd} (h : only 0 w w') : o356 w w' := fun b h0 _ _ _ => h b h0 h0
theorem RS.up3 {w v w' v' : Wd} (h : RS w v) (hw : only 3 w w') (hv : only 3 v v') (k : R3 w' v') : RS w' v' :=
  ⟨h.1.fr (hw 1 (by decide) (by decide)) (hv 1 (by decide) (by decide)), h.2.1.fr (hw 2 (by decide) (by decide)) (hv 2 (by decide) (by decide)), k, h.2.2.2.1.fr (hw 4 (by decide) (by decide)) (hv 4 (by decide) (by decide)), h.2.2.2.2.1.fr (hw 5 (by decide) (by decide)) (hv 5 (by decide) (by decide)), h.2.2.2.2.2.fr (hw 6 (by decide) (by decide)) (hv 6 (by decide) (by decide))⟩
theorem RS.up6 {w v w' v' : Wd} (h : RS w v) (hw : only 6 w w') (hv : only 6 v v') (k : R6 w' v') : RS w' v' :=
  ⟨h.1.fr (hw 1 (by decide) (by decide)) (hv 1 (by decide) (by decide)), h.2.1.fr (hw 2 (by decide) (by decide)) (hv 2 (by decide) (by decide)), h.2.2.1.fr (hw 3 (by decide) (by decide)) (hv 3 (by decide) (by decide)), h.2.2.2.1.fr (hw 4 (by decide) (by decide)) (hv 4 (by decide) (by decide)), h.2.2.2.2.1.fr (hw 5 (by decide) (by decide)) (hv 5 (by decide) (by decide)), k⟩
def SP (w v : Wd) (c n : Nat) (T : Nat → Int32) : Prop := RS w v ∧ Tx w v n T ∧ nI c < wS w 3 2 ∧ ¬ wS w (K5 c) 12 = 0
/-- two worlds before and behind -/
def PF (w v w' v' : Wd) : Prop := o356 w w' ∧ o356 v v' ∧ cm w w' ∧ mm v v' ∧ am w w' ∧ am v v' ∧ wS w' 3 2 = wS w 3 2 ∧ wS w' 2 10 = wS w 2 10
theorem PF.refl {w v : Wd} : PF w v w v := ⟨o356.refl, o356.refl, cm.refl, mm.refl, am.refl, am.refl, rfl, rfl⟩
theorem PF.trans {w v w' v' w2 v2 : Wd} (h : PF w v w' v') (g : PF w' v' w2 v2) : PF w v w2 v2 := ⟨h.1.trans g.1, h.2.1.trans g.2.1, h.2.2.1.trans g.2.2.1, h.2.2.2.1.trans g.2.2.2.1, h.2.2.2.2.1.trans g.2.2.2.2.1, h.2.2.2.2.2.1.trans g.2.2.2.2.2.1, g.2.2.2.2.2.2.1.trans h.2.2.2.2.2.2.1, g.2.2.2.2.2.2.2.trans h.2.2.2.2.2.2.2⟩
theorem l_moves {c n : Nat} {T : Nat → Int32} (hc : c < 4) {b num : Int32} (hm : ¬ (10 : Int32) ≤ f_X4_moveOf b num) {k : Nat} (hk : k ≤ 40) : ∀ (m x f : Nat) (y : Int32) (w v : Wd), SP w v c n T → x + m = k → m < f →
    (∃ r w' v', (∀ J, l_X4_carryOut_40 (K5 c) b num (nI k) J f w (nI x) y = some (r, w')) ∧ (∀ J, l_X12_perform_192 (nI c) J (nI k) (f_X4_moveOf b num) f v (nI x) y = some (r, v')) ∧ SP w' v' c n T ∧ PF w v w' v') ∨
    ∃ y' w' v', (∀ J, l_X4_carryOut_40 (K5 c) b num (nI k) J f w (nI x) y = J w' y') ∧ (∀ J, l_X12_perform_192 (nI c) J (nI k) (f_X4_moveOf b num) f v (nI x) y = J v' y') ∧ SP w' v' c n T ∧ PF w v w' v' ∧ ∀ j, 70 ≤ j → wS v' 63 j = wS v 63 j
  | 0, x, f + 1, y, w, v, h, hx, _ => by
    refine Or.inr ⟨y, w, v, fun J => ?_, fun J => ?_, h, PF.refl, fun _ _ => rfl⟩
    · unfold l_X4_carryOut_40
      rw [if_pos (nI_le (show k ≤ x by omega) (by omega))]
    · unfold l_X12_perform_192
      rw [if_pos (nI_le (show k ≤ x by omega) (by omega))]
  | m + 1, x, f + 1, y, w, v, h, hx, hf => by
    obtain ⟨R, t, hcn, hst⟩ := h
    obtain ⟨r, w1, v1, k1, k2, k3, k4, k5, k6, k7, k8, k9, k10, k11, k12, k13⟩ := c_drive R hc hcn hst hm
    have h1 : SP w1 v1 c n T := ⟨k4, t.fr (k5 11 (by decide) (by decide)) (k6 11 (by decide) (by decide)), by rw [k12]; exact hcn, k11⟩
    have p1 : PF w v w1 v1 := ⟨k5.o5, k6.o5, k7, k8, k9, k10, k12, (k5 3 (by decide) (by decide) 2 10 rfl).1⟩
    have u1 : ∀ J, l_X4_carryOut_40 (K5 c) b num (nI k) J (f + 1) w (nI x) y = if r = 0 then some (y, w1) else l_X4_carryOut_40 (K5 c) b num (nI k) J f w1 (nI (x + 1)) (y + 1) := fun J => by
      rw [l_X4_carryOut_40]
      simp only [if_neg (nI_ge (show x < k by omega) (by omega)), k1, bi_v, q_lt, nI_1]
    have u2 : ∀ J, l_X12_perform_192 (nI c) J (nI k) (f_X4_moveOf b num) (f + 1) v (nI x) y = if r = 0 then some (y, v1) else l_X12_perform_192 (nI c) J (nI k) (f_X4_moveOf b num) f v1 (nI (x + 1)) (y + 1) := fun J => by
      rw [l_X12_perform_192]
      simp only [if_neg (nI_ge (show x < k by omega) (by omega)), k2, bi_v, q_lt, nI_1]
    by_cases hr : r = 0
    · refine Or.inl ⟨y, w1, v1, fun J => ?_, fun J => ?_, h1, p1⟩
      · rw [u1, if_pos hr]
      · rw [u2, if_pos hr]
    · rcases l_moves hc hm hk m (x + 1) f (y + 1) w1 v1 h1 (by omega) (by omega) with ⟨r', w2, v2, a1, a2, a3, a4⟩ | ⟨y', w2, v2, a1, a2, a3, a4, a5⟩
      · refine Or.inl ⟨r', w2, v2, fun J => ?_, fun J => ?_, a3, p1.trans a4⟩
        · rw [u1, if_neg hr, a1]
        · rw [u2, if_neg hr, a2]
      · refine Or.inr ⟨y', w2, v2, fun J => ?_, fun J => ?_, a3, p1.trans a4, fun j hj => (a5 j hj).trans (k13 j hj)⟩
        · rw [u1, if_neg hr, a1]
        · rw [u2, if_neg hr, a2]
/-- an order of moves: how many, which -/
theorem mv_ok {T : Nat → Int32} {i : Nat} (g : Go T i) (h1 : ¬ T i = 102) (h2 : ¬ T i = 119) : (∃ k, k ≤ 40 ∧ f_X4_movesAsked (T i) (nu T (i + 1)) = nI k ∧ (if T i = 100 then nu T (i + 1) else if T i = 98 then nu T (i + 1) else 1) = nI k) ∧ ¬ (10 : Int32) ≤ f_X4_moveOf (T i) (nu T (i + 1)) ∧
    (if T i = 100 then (0 : Int32) else if T i = 98 then 1 else if T i = 108 then 2 + nu T (i + 1) else 6 + nu T (i + 1)) = f_X4_moveOf (T i) (nu T (i + 1)) := by
  obtain ⟨g1, g2, g3⟩ := g
  generalize nu T (i + 1) = x at g3 ⊢
  generalize T i = b at g1 g3 h1 h2 ⊢
  have g4 : f_X12_leastOf b ≤ x ∧ x ≤ f_X12_mostOf b := by
    rcases win_c x (f_X12_leastOf b) (f_X12_mostOf b) with k | ⟨_, k1, k2⟩
    · exact absurd k g3
    · exact ⟨k1, k2⟩
  have sm3 : ∀ a : Fin 4, ∀ s : Int32, (s = 2 ∨ s = 6) → ¬ (10 : Int32) ≤ s + nI a.val := by
    intro a s hs
    rcases hs with rfl | rfl
    · exact (by decide : ∀ a : Fin 4, ¬ (10 : Int32) ≤ 2 + nI a.val) a
    · exact (by decide : ∀ a : Fin 4, ¬ (10 : Int32) ≤ 6 + nI a.val) a
  have tw : ∀ {lo hi : Int32} {N : Nat}, 0 ≤ lo → lo ≤ x → x ≤ hi → hi = nI N → N < 2 ^ 31 → ∃ k, k ≤ N ∧ x = nI k := by
    intro lo hi N p0 p1 p2 p3 p4
    refine bt_ex ⟨?_, ?_⟩ p4
    · have := Int32.le_iff_toInt_le.mp p0
      have := Int32.le_iff_toInt_le.mp p1
      have e : (0 : Int32).toInt = 0 := by decide
      omega
    · have := Int32.le_iff_toInt_le.mp p2
      rw [p3, nI_toInt p4] at this
      exact this
  unfold f_X4_movesAsked f_X4_moveOf
  rcases let_of g1 with rfl | rfl | rfl | rfl | rfl | rfl
  · obtain ⟨k, hk, ek⟩ := tw (N := 40) (by decide) g4.1 g4.2 (by decide) (by decide)
    exact ⟨⟨k, hk, ek, ek⟩, show ¬ (10 : Int32) ≤ 1 by decide, rfl⟩
  · obtain ⟨k, hk, ek⟩ := tw (N := 40) (by decide) g4.1 g4.2 (by decide) (by decide)
    exact ⟨⟨k, hk, ek, ek⟩, show ¬ (10 : Int32) ≤ 0 by decide, rfl⟩
  · exact absurd rfl h1
  · obtain ⟨k, hk, ek⟩ := tw (N := 3) (by decide) g4.1 g4.2 (by decide) (by decide)
    refine ⟨⟨1, by omega, rfl, rfl⟩, ?_, rfl⟩
    rw [ek]
    exact sm3 ⟨k, by omega⟩ 2 (Or.inl rfl)
  · obtain ⟨k, hk, ek⟩ := tw (N := 3) (by decide) g4.1 g4.2 (by decide) (by decide)
    refine ⟨⟨1, by omega, rfl, rfl⟩, ?_, rfl⟩
    rw [ek]
    exact sm3 ⟨k, by omega⟩ 6 (Or.inr rfl)
  · exact absurd rfl h2
theorem R3.dn {w v : Wd} (h : R3 w v) {i : Nat} {b : Int32} (hb : b = 0 ∨ b = 1) (hi : i < 10) : R3 (sI w 17 i b) (sI v 71 i b) := by
  obtain ⟨n, hn, e1, e2, hh, g⟩ := h
  refine ⟨n, hn, ?_, ?_, fun j hj => ?_, fun j hj => ?_⟩
  · (repeat first | rw [wS_sI, if_pos ⟨rfl, rfl⟩] | rw [wS_sI, if_neg (by omega)] | rw [wS_sN, if_neg (by omega)] | rw [wS_sR] | rw [wS_sN, if_pos rfl] | rw [wS_sFr, if_neg (by omega)] | rw [wS_sFr, if_pos (by omega)])
    exact e1
  · (repeat first | rw [wS_sI, if_pos ⟨rfl, rfl⟩] | rw [wS_sI, if_neg (by omega)] | rw [wS_sN, if_neg (by omega)] | rw [wS_sR] | rw [wS_sN, if_pos rfl] | rw [wS_sFr, if_neg (by omega)] | rw [wS_sFr, if_pos (by omega)])
    exact e2
  · refine (hh j hj).fr2 ?_ ?_ (fun k => ?_) (fun d hd => ?_) ?_
    all_goals (repeat first | rw [wS_sI, if_pos ⟨rfl, rfl⟩] | rw [wS_sI, if_neg (by omega)] | rw [wS_sN, if_neg (by omega)] | rw [wS_sR] | rw [wS_sN, if_pos rfl] | rw [wS_sFr, if_neg (by omega)] | rw [wS_sFr, if_pos (by omega)])
  · by_cases hji : j = i
    · subst hji
      refine ⟨?_, ?_⟩
      all_goals (repeat first | rw [wS_sI, if_pos ⟨rfl, rfl⟩] | rw [wS_sI, if_neg (by omega)] | rw [wS_sN, if_neg (by omega)] | rw [wS_sR] | rw [wS_sN, if_pos rfl] | rw [wS_sFr, if_neg (by omega)] | rw [wS_sFr, if_pos (by omega)])
      exact hb
    · refine ⟨?_, ?_⟩
      all_goals (repeat first | rw [wS_sI, if_pos ⟨rfl, rfl⟩] | rw [wS_sI, if_neg (by omega)] | rw [wS_sN, if_neg (by omega)] | rw [wS_sR] | rw [wS_sN, if_pos rfl] | rw [wS_sFr, if_neg (by omega)] | rw [wS_sFr, if_pos (by omega)])
      · exact (g j hj).1
      · exact (g j hj).2
theorem m40_0 {a : Nat} {b num : Int32} {J : Wd → Int32 → Option (Int32 × Wd)} {w : Wd} {y : Int32} : l_X4_carryOut_40 a b num 0 J FU w 0 y = J w y := by
  rw [show FU = 999999 + 1 from rfl, l_X4_carryOut_40, if_pos (by decide)]
theorem ref_mv {β : Type} (b num cnt mv : Int32) (L : Int32 → Int32 → β) (h1 : (if b = 100 then num else if b = 98 then num else 1) = cnt) (h2 : (if b = 100 then (0 : Int32) else if b = 98 then 1 else if b = 108 then 2 + num else 6 + num) = mv) :
    (if b = 100 then (if b = 100 then L num 0 else if b = 98 then L num 1 else if b = 108 then L num (2 + num) else L num (6 + num)) else if b = 98 then (if b = 100 then L num 0 else if b = 98 then L num 1 else if b = 108 then L num (2 + num) else L num (6 + num)) else (if b = 100 then L 1 0 else if b = 98 then L 1 1 else if b = 108 then L 1 (2 + num) else L 1 (6 + num))) = L cnt mv := by
  subst h1 h2
  by_cases a1 : b = 100
  · simp only [a1, if_true]
  · by_cases a2 : b = 98
    · simp only [if_neg a1, if_pos a2]
    · by_cases a3 : b = 108
      · simp only [if_neg a1, if_neg a2, if_pos a3]
      · simp only [if_neg a1, if_neg a2, if_neg a3]
theorem l_perf {c n : Nat} {T : Nat → Int32} (hc : c < 4) : ∀ (m i f g : Nat) (y : Int32) (w v : Wd), SP w v c n T → wS v 63 76 = nI i → (n ≤ i ∧ i < 200) ∨ Vd T n m i → m < f → m < g →
    ∃ r w' v', l_X4_carryOut_4 (K5 c) f w (nI i) y = some (r, w') ∧ l_X12_perform_38 (nI c) g v y = some (r, v') ∧ SP w' v' c n T ∧ PF w v w' v'
  | m, i, f + 1, g + 1, y, w, v, h, e, hV, hf, hg => by
    obtain ⟨R, t, hcn, hst⟩ := id h
    have hn : n ≤ 80 := t.1
    by_cases hin : n ≤ i
    · have hi2 : i < 200 := by
        rcases hV with k | k
        · exact k.2
        · rcases m with _ | m
          · exact absurd k id
          · have := k.1; omega
      unfold l_X4_carryOut_4 l_X12_perform_38
      simp only [q_gt, t.2.1, t.2.2.1, e, if_pos (nI_le hin (show i < 2 ^ 31 by omega))]
      exact ⟨y, w, v, rfl, rfl, h, PF.refl⟩
    · rcases hV with k | k
      · exact absurd k.1 hin
      rcases m with _ | m
      · exact absurd k id
      obtain ⟨hlt, G, hnext⟩ := k
      have hff := fg_le T (i + 1)
      obtain ⟨r0, v1, p1, p2, p3⟩ := c_part t (show i < 400 by omega) e
      rcases p3 with ⟨z, -⟩ | ⟨-, z, -⟩ | ⟨-, -, p4, p5⟩
      · exact absurd z G.1
      · exact absurd G z
      have f2 : FrP v (sI v1 63 76 (nI (i + 2 + fg T (i + 1)))) := p2.trans (FrP.sI (Or.inl rfl))
      have e2 : wS (sI v1 63 76 (nI (i + 2 + fg T (i + 1)))) 63 76 = nI (i + 2 + fg T (i + 1)) := by rw [wS_sI, if_pos ⟨rfl, rfl⟩]
      have e7 : wS (sI v1 63 76 (nI (i + 2 + fg T (i + 1)))) 63 77 = nu T (i + 1) := by rw [wS_sI, if_neg (by omega)]; exact p5
      have ei : nI (i + 1 + fg T (i + 1) + 1) = nI (i + 2 + fg T (i + 1)) := by rw [show i + 1 + fg T (i + 1) + 1 = i + 2 + fg T (i + 1) by omega]
      have ex : nI i + ((2 : Int32) + nI (fg T (i + 1))) = nI (i + 2 + fg T (i + 1)) := by
        rw [show (2 : Int32) + nI (fg T (i + 1)) = nI (2 + fg T (i + 1)) from nI_add 2 _, nI_add, Nat.add_assoc]
      have hV2 : (n ≤ i + 2 + fg T (i + 1) ∧ i + 2 + fg T (i + 1) < 200) ∨ Vd T n m (i + 2 + fg T (i + 1)) := by
        rcases hnext with k | k
        · exact Or.inl ⟨by omega, by omega⟩
        · exact Or.inr k.2
      have I := fun y' w' v' h' e' => l_perf hc m (i + 2 + fg T (i + 1)) f g y' w' v' h' e' hV2 (by omega) (by omega)
      unfold l_X4_carryOut_4 l_X12_perform_38
      simp only [q_gt, q_pt, t.2.1, t.2.2.1, e, if_neg (nI_ge hlt (show n < 2 ^ 31 by omega)), byte_c t (show i < 1000 by omega), byte_r t (show i < 1000 by omega), bo_v, nI_1, num_c t (show i + 1 < 900 by omega), q_lt, p1, bi_v, p4, ei, q_jn]
      generalize sI v1 63 76 (nI (i + 2 + fg T (i + 1))) = v2 at f2 e2 e7 ⊢
      rw [e7]
      have h2 : SP w v2 c n T := ⟨R.fr0 only.refl f2.only, t.P f2, hcn, hst⟩
      have q2 : PF w v w v2 := ⟨o356.refl, f2.only.o0, cm.refl, f2.mm, am.refl, f2.2, rfl, rfl⟩
      by_cases h1 : T i = 102
      · have em : f_X4_movesAsked (T i) (nu T (i + 1)) = 0 := by rw [h1]; rfl
        have b20 : bt 1 20 (nu T (i + 1)) := by
          have g3 := G.2.2
          rw [h1] at g3
          rcases win_c (nu T (i + 1)) (f_X12_leastOf 102) (f_X12_mostOf 102) with k | ⟨_, k1, k2⟩
          · exact absurd k g3
          · exact bt_of k1 k2 (by decide) (by decide)
        have r6 : R6 (sI w 3 3 (nu T (i + 1))) (sI v2 63 30 (nu T (i + 1))) := by
          have r := h2.1.2.2.2.2.2
          refine ⟨⟨?_, ?_⟩, ⟨?_, ?_⟩, ⟨?_, ?_⟩, ?_, ?_⟩
          all_goals (repeat first | rw [wS_sI, if_pos ⟨rfl, rfl⟩] | rw [wS_sI, if_neg (by omega)] | rw [wS_sN, if_neg (by omega)] | rw [wS_sR] | rw [wS_sN, if_pos rfl] | rw [wS_sFr, if_neg (by omega)] | rw [wS_sFr, if_pos (by omega)])
          · exact b20
          · exact r.2.1.1
          · exact r.2.1.2
          · exact r.2.2.1.1
          · exact r.2.2.1.2
          · exact r.2.2.2.1
          · exact r.2.2.2.2
        have o1 : only 6 w (sI w 3 3 (nu T (i + 1))) := only.sI (Or.inl rfl)
        have o2 : only 6 v2 (sI v2 63 30 (nu T (i + 1))) := only.sI (Or.inl rfl)
        have t3 := h2.2.1.fr (o1 11 (by decide) (by decide)) (o2 11 (by decide) (by decide))
        obtain ⟨r, w', v', i1, i2, i3, i4⟩ := I y (sI w 3 3 (nu T (i + 1))) (sI v2 63 30 (nu T (i + 1))) ⟨h2.1.up6 o1 o2 r6, t3, by rw [wS_sI, if_neg (by omega)]; exact hcn, by rw [wS_sI, if_neg (by unfold K5; omega)]; exact hst⟩ (by rw [wS_sI, if_neg (by omega)]; exact e2)
        refine ⟨r, w', v', ?_, ?_, i3, (q2.trans ⟨o1.o6, o2.o6, cm.sI (by decide), mm.sI (by decide) (by decide), am.sI, am.sI, by rw [wS_sI, if_neg (by omega)], by rw [wS_sI, if_neg (by omega)]⟩).trans i4⟩
        · rw [em, m40_0]
          unfold f_X4_otherDone
          rw [if_neg (show ¬ T i = 119 by rw [h1]; decide), if_pos h1]
          simp only [q_pt, bi_v, if_neg one0, fig_c t3 (show i + 1 < 900 by omega), bo_v, ex]
          exact i1
        · rw [if_pos h1]
          exact i2
      rw [if_neg h1]
      by_cases h3 : T i = 119
      · have em : f_X4_movesAsked (T i) (nu T (i + 1)) = 0 := by rw [h3]; rfl
        obtain ⟨k, hk, ek⟩ : ∃ k, k ≤ 9 ∧ nu T (i + 1) = nI k := by
          have g3 := G.2.2
          rw [h3] at g3
          rcases win_c (nu T (i + 1)) (f_X12_leastOf 119) (f_X12_mostOf 119) with k | ⟨_, k1, k2⟩
          · exact absurd k g3
          · exact bt_ex (bt_of k1 k2 (by decide) (by decide)) (by decide)
        obtain ⟨nw, hnw, f1, f3, -⟩ := id h2.1.2.2.1
        rw [if_pos h3, em, m40_0, ek, f3]
        unfold f_X4_otherDone f_X8_lower
        rw [if_pos h3]
        simp only [q_gt, f1]
        by_cases kn : k < nw
        · have o1 : only 3 w (sI w 17 k 1) := only.sI (Or.inl rfl)
          have o2 : only 3 v2 (sI v2 71 k 1) := only.sI (Or.inl rfl)
          have t3 := h2.2.1.fr (o1 11 (by decide) (by decide)) (o2 11 (by decide) (by decide))
          obtain ⟨r, w', v', i1, i2, i3, i4⟩ := I y (sI w 17 k 1) (sI v2 71 k 1) ⟨h2.1.up3 o1 o2 (h2.1.2.2.1.dn (Or.inr rfl) (by omega)), t3, by rw [wS_sI, if_neg (by omega)]; exact hcn, by rw [wS_sI, if_neg (by unfold K5; omega)]; exact hst⟩ (by rw [wS_sI, if_neg (by omega)]; exact e2)
          rw [win_v kn (by omega), if_neg one0, if_pos (nI_lt kn (by omega))]
          simp only [ld_n (show k < 10 by omega) (show 10 < 2 ^ 31 by decide), sz_n (show k < 10 by omega) (show 10 < 2 ^ 31 by decide), nar01 (show (1 : Int32) = 0 ∨ (1 : Int32) = 1 from Or.inr rfl)]
          refine ⟨r, w', v', ?_, i2, i3, (q2.trans ⟨o1.o3, o2.o3, cm.sI (by decide), mm.sI (by decide) (by decide), am.sI, am.sI, by rw [wS_sI, if_neg (by omega)], by rw [wS_sI, if_neg (by omega)]⟩).trans i4⟩
          by_cases z : wS w 17 k = 1
          · rw [if_pos z]
            simp only [bi_v, if_neg (show ¬ (0 : Int32) = -2 by decide), if_neg one0, fig_c t3 (show i + 1 < 900 by omega), bo_v, ex]
            exact i1
          · rw [if_neg z]
            simp only [bi_v, if_neg (show ¬ (1 : Int32) = -2 by decide), if_neg one0, fig_c t3 (show i + 1 < 900 by omega), bo_v, ex]
            exact i1
        · rw [win_f (Or.inr (fun_lt kn (by omega) (by omega))), if_pos rfl, if_neg (fun z => kn ((nI_ltI (by omega) (by omega)).mp z))]
          simp only [bi_v, if_true]
          exact ⟨y, w, v2, rfl, rfl, h2, q2⟩
      rw [if_neg h3]
      obtain ⟨⟨k, hk, ek, ec⟩, hm, em⟩ := mv_ok G h1 h3
      rw [ref_mv (T i) (nu T (i + 1)) (nI k) (f_X4_moveOf (T i) (nu T (i + 1))) (fun s mv => l_X12_perform_192 (nI c) (fun w_220j x2_220 => l_X12_perform_38 (nI c) g w_220j x2_220) s mv FU v2 0 y) ec em, ek]
      have M := l_moves hc hm hk k 0 FU y w v2 h2 (by omega) (by unfold FU; omega)
      rw [nI_0] at M
      rcases M with ⟨r, w', v', a1, a2, a3, a4⟩ | ⟨y', w', v', a1, a2, a3, a4, a5⟩
      · rw [a1, a2]
        exact ⟨r, w', v', rfl, rfl, a3, q2.trans a4⟩
      · rw [a1, a2]
        obtain ⟨r, w3, v3, i1, i2, i3, i4⟩ := I y' w' v' a3 ((a5 76 (by decide)).trans e2)
        refine ⟨r, w3, v3, ?_, i2, i3, (q2.trans a4).trans i4⟩
        unfold f_X4_otherDone
        rw [if_neg h3, if_neg h1]
        simp only [bi_v, if_neg one0, fig_c a3.2.1 (show i + 1 < 900 by omega), bo_v, ex]
        exact i1
theorem c_perform {w v : Wd} (R : RS w v) (h : R11 w v) (a : Int32) : ∃ r w1 v1, f_X11_perform w a = some (r, w1) ∧ f_X12_perform v a = some (r, v1) ∧ RS w1 v1 ∧ PF w v w1 v1 := by
  obtain ⟨n, T, t⟩ := h.T
  obtain ⟨r0, v0, k1, k2, k3, k4⟩ := c_faultNow t
  unfold f_X11_perform f_X12_perform
  rcases carAt_c R.2.2.2.2.1 a with ⟨q1, q2⟩ | ⟨c, hc, hcn, rfl, q1, q2, A, S, P, Q⟩
  · rw [q1, q2]; exact ⟨_, w, v, rfl, rfl, R, PF.refl⟩
  have R0 : RS w v0 := R.fr0 only.refl k3.only
  have q0 : PF w v w v0 := ⟨o356.refl, k3.only.o0, cm.refl, k3.mm, am.refl, k3.2, rfl, rfl⟩
  rw [q1, q2, k1, k2]
  simp only [bo_v, bi_v, q_gt, if_neg one0, if_neg (K5_ne (c := c)), ld_n hc (show 4 < 2 ^ 31 by decide), (k3.1 84 c (by omega)).1, ← P.2.2.2.1.1]
  by_cases z : wS w (K5 c) 12 = 0
  · rw [if_pos z, if_pos z]
    by_cases e : r0 = -1
    · rw [if_pos e]; exact ⟨_, w, v0, rfl, rfl, R0, q0⟩
    · rw [if_neg e]; exact ⟨_, w, v0, rfl, rfl, R0, q0⟩
  · rw [if_neg z, if_neg z]
    by_cases e : r0 = -1
    · rw [if_pos e, if_pos e]
      have f1 : FrP v0 (sI v0 63 76 0) := FrP.sI (Or.inl rfl)
      obtain ⟨r, w', v', i1, i2, i3, i4⟩ := l_perf hc (n + 1) 0 FU FU 0 w (sI v0 63 76 0) ⟨R0.fr0 only.refl f1.only, (t.P k3).P f1, hcn, z⟩ (by rw [wS_sI, if_pos ⟨rfl, rfl⟩, nI_0]) (Or.inr (k4 e)) (by have := t.1; unfold FU; omega) (by have := t.1; unfold FU; omega)
      rw [nI_0] at i1
      unfold f_X4_carryOut
      rw [i1]
      simp only [q_pt, bi_v]
      rw [i2]
      exact ⟨r, w', v', rfl, rfl, i3.1, (q0.trans ⟨o356.refl, f1.only.o0, cm.refl, f1.mm, am.refl, f1.2, rfl, rfl⟩).trans i4⟩
    · rw [if_neg e, if_neg e]
      exact ⟨_, w, v0, rfl, rfl, R0, q0⟩
