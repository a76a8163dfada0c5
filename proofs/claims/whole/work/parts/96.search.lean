/-! ===== the search, standing by standing ===== -/
def IT (w v : Wd) (i : Nat) : Prop := bt (-40000) 40000 (wS v 89 i) ∧ bt (-40000) 40000 (wS v 90 i) ∧ bt 0 35 (wS v 91 i) ∧ wL w 24 i = f_X10_standingOf (wS v 89 i) (wS v 90 i) (wS v 91 i) ∧ ∃ f m d, m < 10 ∧ d ≤ 12 ∧ f ≤ i ∧ wS w 25 i = nI (16 * f + m) ∧ wS v 92 i = nI f ∧ wS v 93 i = nI m ∧ wS v 94 i = nI d ∧ (d = 0 ∨ (f < i ∧ wS v 94 f = nI (d - 1)))
def Wy (w v : Wd) (N : Nat) : Prop := N ≤ 1500 ∧ wS w 4 5 = nI N ∧ wS v 63 34 = nI N ∧ (∀ i, i < N → IT w v i) ∧ CH w N ∧ HT v N
theorem ct_fun {g g' : Nat → Int32} (h : ∀ i, g' i = g i) (n : Nat) : ct g' n = ct g n := ct_eq (fun i _ => h i)
theorem Wy.fr {w v w' v' : Wd} {N : Nat} (h : Wy w v N) (hw : ∀ p j, ((24 ≤ p ∧ p ≤ 27) ∨ (p = 4 ∧ j = 5)) → wS w' p j = wS w p j ∧ wL w' p j = wL w p j) (hv : ∀ p j, ((89 ≤ p ∧ p ≤ 95) ∨ (p = 63 ∧ j = 34)) → wS v' p j = wS v p j) : Wy w' v' N := by
  obtain ⟨h1, h2, h3, h4, h5, h6⟩ := h
  have b : ∀ i, bk w' i = bk w i := fun i => by unfold bk; rw [(hw 24 i (by omega)).2]
  refine ⟨h1, ((hw 4 5 (by omega)).1).trans h2, (hv 63 34 (by omega)).trans h3, fun i hi => ?_, ⟨fun c hc => ?_, fun i hi => ?_⟩, fun r hr => ?_, fun i hi => ?_, ?_⟩
  · obtain ⟨a1, a2, a3, a4, f, m, d, b1, b2, b3, b4, b5, b6, b7, b8⟩ := h4 i hi
    refine ⟨?_, ?_, ?_, ?_, f, m, d, b1, b2, b3, ?_, ?_, ?_, ?_, ?_⟩
    · rw [hv 89 i (by omega)]; exact a1
    · rw [hv 90 i (by omega)]; exact a2
    · rw [hv 91 i (by omega)]; exact a3
    · rw [hv 89 i (by omega), hv 90 i (by omega), hv 91 i (by omega), (hw 24 i (by omega)).2]; exact a4
    · rw [(hw 25 i (by omega)).1]; exact b4
    · rw [hv 92 i (by omega)]; exact b5
    · rw [hv 93 i (by omega)]; exact b6
    · rw [hv 94 i (by omega)]; exact b7
    · rw [hv 94 f (by omega)]; exact b8
  · simp only [(hw 27 c (by omega)).1, b]
    exact h5.1 c hc
  · simp only [(hw 26 i (by omega)).1, b]
    exact h5.2 i hi
  · rw [hv 95 r (by omega)]; exact h6.1 r hr
  · simp only [fun q => hv 95 q (by omega), hv 89 i (by omega), hv 90 i (by omega), hv 91 i (by omega)]
    exact h6.2.1 i hi
  · rw [ct_fun (fun i => hv 95 i (by omega))]; exact h6.2.2
/-- the goal, as the class's search keeps it -/
def GL (w : Wd) (c g : Nat) (a b d e k : Int32) : Prop := wS w 4 8 = nI (K5 c) ∧ wS w 4 9 = nI (2000 + g) ∧ wS w 4 10 = k ∧ wS w (2000 + g) 0 = a ∧ wS w (2000 + g) 1 = b ∧ wS w (2000 + g) 2 = d ∧ wS w (2000 + g) 3 = e ∧ g < 90000
theorem GL.fr {w w' : Wd} {c g : Nat} {a b d e k : Int32} (h : GL w c g a b d e k) (h4 : ∀ j, 8 ≤ j → wS w' 4 j = wS w 4 j) (hg : ∀ j, wS w' (2000 + g) j = wS w (2000 + g) j) : GL w' c g a b d e k := by
  unfold GL at h ⊢
  rw [h4 8 (by decide), h4 9 (by decide), h4 10 (by decide), hg 0, hg 1, hg 2, hg 3]
  exact h
theorem gd_k {β : Type} {w : Wd} {k j n : Nat} {K : Nat → Option β} (e : wS w k j = nI n) (h0 : 0 < n) (hn : n < 2 ^ 31) : q_gd w k j K = K n := by
  unfold q_gd
  rw [e, if_neg (nI_ne0 h0 hn), nI_clamp hn]
theorem l_goal {w v : Wd} {c g : Nat} {a b d e k x y h : Int32} (hc : c < 4) (A : A5 w v c) (G : GL w c g a b d e k) (hx : wS v 63 31 = x) (hy : wS v 63 32 = y) (hh : wS v 63 33 = h) (bh : bt (-100) 100 h) : ∀ (m i f : Nat), i + m = 4 → m < f → ∃ r, l_X10_isGoal_13 x y h w f (nI i) = some r ∧ l_X12_isGoal_14 (nI c) a b d e v f (nI i) = some r
  | 0, i, f + 1, hi, _ => by
    unfold l_X10_isGoal_13 l_X12_isGoal_14
    rw [if_pos (four_t (show 4 ≤ i by omega) (by omega)), if_pos (four_t (show 4 ≤ i by omega) (by omega))]
    exact ⟨_, rfl, rfl⟩
  | m + 1, i, f + 1, hi, hf => by
    obtain ⟨g1, g2, g3, g4, g5, g6, g7, g8⟩ := id G
    obtain ⟨r, i1, i2⟩ := l_goal hc A G hx hy hh bh m (i + 1) f (by omega) (by omega)
    have kK : K5 c < 2 ^ 31 := by unfold K5; omega
    have k0 : 0 < K5 c := by unfold K5; omega
    unfold l_X10_isGoal_13 l_X12_isGoal_14
    rw [if_neg (four_f (show i < 4 by omega)), if_neg (four_f (show i < 4 by omega))]
    simp only [gd_k g1 k0 kK, gd_k g2 (show 0 < 2000 + g by omega) (show 2000 + g < 2 ^ 31 by omega), q_gt, hx, hy, hh, wheelX_eq hc A (nI i) x bh, wheelY_eq hc A (nI i) y bh, bo_v, f_X0_holds, g4, g5, g6, g7, in_eq, q_lt, nI_1, i1, i2]
    by_cases z1 : f_X11_within (x + f_X1_wheelX w (K5 c) (nI i) h) (65 * a) (65 * d) = 0
    · rw [if_pos z1, if_pos rfl, if_pos z1]; exact ⟨_, rfl, rfl⟩
    · rw [if_neg z1, if_neg z1]
      by_cases z2 : f_X11_within (y + f_X1_wheelY w (K5 c) (nI i) h) (65 * b) (65 * e) = 0
      · rw [if_pos z2, if_pos rfl, if_pos z2]; exact ⟨_, rfl, rfl⟩
      · rw [if_neg z2, if_neg one0, if_neg z2]; exact ⟨r, rfl, rfl⟩
theorem c_isGoal {w v : Wd} {c g : Nat} {a b d e k x y h : Int32} (hc : c < 4) (A : A5 w v c) (G : GL w c g a b d e k) (hx : wS v 63 31 = x) (hy : wS v 63 32 = y) (hh : wS v 63 33 = h) (bh : bt (-100) 100 h) : ∃ r, f_X10_isGoal w x y h = some r ∧ f_X12_isGoal v (nI c) a b d e k = some r := by
  unfold f_X10_isGoal f_X12_isGoal
  simp only [q_gt, G.2.2.1, hh]
  by_cases z : h = k
  · rw [if_pos z, if_pos z]
    have L := l_goal hc A G hx hy hh bh 4 0 FU (by omega) (by unfold FU; omega)
    rw [nI_0] at L
    exact L
  · rw [if_neg z, if_neg z]
    exact ⟨_, rfl, rfl⟩
/-- the steps of the last way found -/
def RST (w v : Wd) : Prop := ∃ k, k ≤ 12 ∧ wS w 4 7 = nI k ∧ wS v 63 42 = nI k ∧ ∀ j, j < k → wS w 28 j = wS v 96 j
theorem RST.fr {w v w' v' : Wd} (h : RST w v) (h7 : wS w' 4 7 = wS w 4 7) (h28 : ∀ j, wS w' 28 j = wS w 28 j) (h42 : wS v' 63 42 = wS v 63 42) (h96 : ∀ j, wS v' 96 j = wS v 96 j) : RST w' v' := by
  obtain ⟨k, k1, k2, k3, k4⟩ := h
  exact ⟨k, k1, h7.trans k2, h42.trans k3, fun j hj => by rw [h28, h96]; exact k4 j hj⟩
def SS (w v : Wd) (c g : Nat) (a b d e k : Int32) (N : Nat) : Prop := RS w v ∧ nI c < wS w 3 2 ∧ Wy w v N ∧ GL w c g a b d e k ∧ RST w v
def PZ (w v w' v' : Wd) : Prop := only 7 w w' ∧ only 7 v v' ∧ cm w w' ∧ mm v v' ∧ am w w' ∧ am v v'
theorem PZ.refl {w v : Wd} : PZ w v w v := ⟨only.refl, only.refl, cm.refl, mm.refl, am.refl, am.refl⟩
theorem PZ.trans {w v w' v' w2 v2 : Wd} (h : PZ w v w' v') (g : PZ w' v' w2 v2) : PZ w v w2 v2 := ⟨h.1.trans g.1, h.2.1.trans g.2.1, h.2.2.1.trans g.2.2.1, h.2.2.2.1.trans g.2.2.2.1, h.2.2.2.2.1.trans g.2.2.2.2.1, h.2.2.2.2.2.trans g.2.2.2.2.2⟩
theorem RS.fr7 {w v w' v' : Wd} (h : RS w v) (hw : only 7 w w') (hv : only 7 v v') : RS w' v' :=
  ⟨h.1.fr (hw 1 (by decide) (by decide)) (hv 1 (by decide) (by decide)), h.2.1.fr (hw 2 (by decide) (by decide)) (hv 2 (by decide) (by decide)), h.2.2.1.fr (hw 3 (by decide) (by decide)) (hv 3 (by decide) (by decide)), h.2.2.2.1.fr (hw 4 (by decide) (by decide)) (hv 4 (by decide) (by decide)), h.2.2.2.2.1.fr (hw 5 (by decide) (by decide)) (hv 5 (by decide) (by decide)), h.2.2.2.2.2.fr (hw 6 (by decide) (by decide)) (hv 6 (by decide) (by decide))⟩
theorem FrN.only {w w' : Wd} (h : FrN w w') : only 7 w w' := fun b h0 hb p j hp => by
  by_cases q : 24 ≤ p ∧ p ≤ 27
  · exfalso
    have k : ∀ p : Fin 28, 24 ≤ p.val → arT.getD p.val 0 = 0 := by decide
    rw [Ar_T (by omega) (by omega) (by omega), k ⟨p, by omega⟩ q.1] at hp
    exact h0 hp.symm
  · refine h.1 p j q (fun z => ?_)
    rw [z.1, z.2] at hp
    exact hb (hp.symm.trans rfl)
theorem FrM.only {w w' : Wd} (h : FrM w w') : only 7 w w' := fun b h0 hb p j hp => by
  by_cases q : 89 ≤ p ∧ p ≤ 95
  · exfalso
    have k : ∀ p : Fin 96, 89 ≤ p.val → arT.getD p.val 0 = 0 := by decide
    rw [Ar_T (by omega) (by omega) (by omega), k ⟨p, by omega⟩ q.1] at hp
    exact h0 hp.symm
  · refine h.1 p j q (fun z => ?_)
    rw [z.1, z.2] at hp
    exact hb (hp.symm.trans rfl)
theorem FrN.cm {w w' : Wd} (h : FrN w w') : cm w w' := fun p j h1 h2 => (h.1 p j (by omega) (by omega)).1
theorem FrM.mm {w w' : Wd} (h : FrM w w') : mm w w' := fun p j h1 => h.1 p j (by omega) (by omega)
/-- the standings noted before keep their place and depth -/
def OE (v v' : Wd) (N : Nat) : Prop := ∀ j, j < N → wS v' 89 j = wS v 89 j ∧ wS v' 90 j = wS v 90 j ∧ wS v' 91 j = wS v 91 j ∧ wS v' 94 j = wS v 94 j
theorem OE.refl {v : Wd} {N : Nat} : OE v v N := fun _ _ => ⟨rfl, rfl, rfl, rfl⟩
theorem OE.trans {u v w : Wd} {N M : Nat} (h : OE u v N) (g : OE v w M) (hNM : N ≤ M) : OE u w N := fun j hj => by
  obtain ⟨a1, a2, a3, a4⟩ := h j hj
  obtain ⟨b1, b2, b3, b4⟩ := g j (by omega)
  exact ⟨b1.trans a1, b2.trans a2, b3.trans a3, b4.trans a4⟩
/-- one standing is noted, here and there -/
theorem c_add {w v : Wd} {c g N s r i m d : Nat} {a b e e' k x y h : Int32} (S : SS w v c g a b e e' k N) (hN : N < 1500) (hx : wS v 63 31 = x) (hy : wS v 63 32 = y) (hh : wS v 63 33 = h) (bx : bt (-40000) 40000 x) (byy : bt (-40000) 40000 y) (bh : bt 0 35 h) (es : hs x y h = nI s) (h4 : s < 4096) (hr : r < 4096) (z0 : wS v 95 ((s + r) % 4096) = 0) (z1 : ∀ j, j < r → wS v 95 ((s + j) % 4096) ≠ 0)
    (hm : m < 10) (hd : d ≤ 12) (hi : i ≤ N) (hdi : d = 0 ∨ (i < N ∧ wS v 94 i = nI (d - 1))) :
    ∃ w' v', f_X10_note w (f_X10_standingOf x y h) (nI (16 * i + m)) = some w' ∧ f_X12_counts v (nI ((s + r) % 4096)) (nI i) (nI m) (nI d) = some v' ∧ SS w' v' c g a b e e' k (N + 1) ∧ PZ w v w' v' ∧ OE v v' N ∧ wS v' 94 N = nI d ∧ (∀ j, j ≠ 34 → wS v' 63 j = wS v 63 j) ∧ ∀ p j, p = K5 c ∨ (K5 c ≤ p ∧ p < K5 c + 5) → wS w' p j = wS w p j := by
  obtain ⟨R, hcn, ⟨y1, y2, y3, y4, y5, y6⟩, G, Q⟩ := S
  obtain ⟨w', n1, n2, n3, n4, n5, n6⟩ := c_note hN y2 y5 (f_X10_standingOf x y h) (nI (16 * i + m))
  obtain ⟨v', c1, c2, c3, c4, c5, c6, c7, c8, c9, c10, c11⟩ := c_counts hN y3 y6 (by rw [hx, hy, hh]; exact es) h4 hr z0 z1 (nI i) (nI m) (nI d)
  have g7 := G.2.2.2.2.2.2.2
  refine ⟨w', v', n1, c1, ⟨R.fr7 n2.only c2.only, by rw [(n2.1 3 2 (by omega) (by omega)).1]; exact hcn, ⟨by omega, n3, c3, fun j hj => ?_, n4, c4⟩, G.fr (fun j hj => (n2.1 4 j (by omega) (by omega)).1) (fun j => (n2.1 _ j (by omega) (by omega)).1), Q.fr (n2.1 4 7 (by omega) (by omega)).1 (fun j => (n2.1 28 j (by omega) (by omega)).1) (c2.1 63 42 (by omega) (by omega)).1 (fun j => (c2.1 96 j (by omega) (by omega)).1)⟩, ⟨n2.only, c2.only, n2.cm, c2.mm, n2.2, c2.2⟩, fun j hj => ?_, c11, fun j hj => (c2.1 63 j (by omega) (by omega)).1, fun p j hp => (n2.1 p j (by unfold K5 at hp; omega) (by unfold K5 at hp; omega)).1⟩
  · by_cases q : j = N
    · subst q
      refine ⟨by rw [c6, hx]; exact bx, by rw [c7, hy]; exact byy, by rw [c8, hh]; exact bh, ?_, i, m, d, hm, hd, hi, ?_, c9, c10, c11, ?_⟩
      · rw [n5, if_pos rfl, c6, c7, c8, hx, hy, hh]
      · rw [n6, if_pos rfl]
      · rcases hdi with z | ⟨z1, z2⟩
        · exact Or.inl z
        · exact Or.inr ⟨z1, by rw [(c5 i (by omega)).2.2.2.2.2]; exact z2⟩
    · obtain ⟨a1, a2, a3, a4, f, m', d', b1, b2, b3, b4, b5, b6, b7, b8⟩ := y4 j (by omega)
      obtain ⟨q1, q2, q3, q4, q5, q6⟩ := c5 j q
      refine ⟨by rw [q1]; exact a1, by rw [q2]; exact a2, by rw [q3]; exact a3, ?_, f, m', d', b1, b2, b3, ?_, by rw [q4]; exact b5, by rw [q5]; exact b6, by rw [q6]; exact b7, ?_⟩
      · rw [n5, if_neg q, q1, q2, q3]; exact a4
      · rw [n6, if_neg q]; exact b4
      · rcases b8 with z | ⟨z1, z2⟩
        · exact Or.inl z
        · exact Or.inr ⟨z1, by rw [(c5 f (by omega)).2.2.2.2.2]; exact z2⟩
  · obtain ⟨q1, q2, q3, q4, q5, q6⟩ := c5 j (by omega)
    exact ⟨q1, q2, q3, q6⟩
/-! these are not to be seen through by the kernel: no rfl rules -/
theorem gt_e {β : Type} {w : Wd} {k j : Nat} {K : Int32 → β} : q_gt w k j K = K (wS w k j) := Eq.trans (Eq.refl (q_gt w k j K)) (Eq.refl (K (wS w k j)))
theorem lt_e {α β : Type} {a : α} {K : α → β} : q_lt a K = K a := Eq.trans (Eq.refl (q_lt a K)) (Eq.refl (K a))
theorem bo_e {α β : Type} {K : α → Option β} {a : α} : q_bo (some a) K = K a := Eq.trans (Eq.refl (q_bo (some a) K)) (Eq.refl (K a))
theorem bi_e {α β : Type} {K : α → Wd → Option β} {a : α} {w' : Wd} : q_bi (some (a, w')) K = K a w' := Eq.trans (Eq.refl (q_bi (some (a, w')) K)) (Eq.refl (K a w'))
/-- the moves from one standing: the class's step and the reference's, opened once -/
theorem go_cl {w w1 v1 : Wd} {c g i x f : Nat} {a b e e' k X Y H : Int32} (hc : c < 4) (hm10 : ¬ (10 : Int32) ≤ nI x) (G : GL w c g a b e e' k) (G1 : GL w1 c g a b e e' k) (g1 : f_X3_aim w (K5 c) X Y H (nI x) = some w1) (g3 : wS w1 3 8 = wS v1 63 31) (g4 : wS w1 3 9 = wS v1 63 32) (g5 : wS w1 3 10 = wS v1 63 33) (J : Wd → Option (Int32 × Wd)) :
    l_X10_goOn_42 (nI i) X Y H J (f + 1) w (nI x) = q_bo (f_X10_isNoted w1 (f_X10_standingOf (wS v1 63 31) (wS v1 63 32) (wS v1 63 33))) (fun v_109 => if v_109 = 0 then q_bi (f_X3_firstMet w1 (K5 c) (wS v1 63 31) (wS v1 63 32) (wS v1 63 33)) (fun v_129 w_129 => if v_129 = 0 then (if wS w_129 4 5 < (1500 : Int32) then q_bo (f_X10_note w_129 (f_X10_standingOf (wS v1 63 31) (wS v1 63 32) (wS v1 63 33)) (nI i * 16 + nI x)) (fun w_161 => q_bo (f_X10_isGoal w_161 (wS v1 63 31) (wS v1 63 32) (wS v1 63 33)) (fun v_171 => if v_171 = 0 then l_X10_goOn_42 (nI i) X Y H J f w_161 (nI (x + 1)) else J w_161)) else some ((-5 : Int32), w_129)) else l_X10_goOn_42 (nI i) X Y H J f w_129 (nI (x + 1))) else l_X10_goOn_42 (nI i) X Y H J f w1 (nI (x + 1))) := by
  have k0 : 0 < K5 c := by unfold K5; omega
  have kK : K5 c < 2 ^ 31 := by unfold K5; omega
  rw [l_X10_goOn_42]
  simp only [if_neg hm10, gd_k G.1 k0 kK, g1, bo_e, gt_e, lt_e, jn_eq, g3, g4, g5, nI_1, gd_k G1.1 k0 kK]
theorem go_rf {v v1 : Wd} {c i x f d s r : Nat} {a b e e' k X Y H : Int32} (hm10 : ¬ (10 : Int32) ≤ nI x) (hi : i < 1500) (eX : wS v 89 i = X) (eY : wS v 90 i = Y) (eH : wS v 91 i = H) (g2 : f_X12_goes v (nI c) X Y H (nI x) = some v1) (k1 : f_X12_slotOf v1 (wS v1 63 31) (wS v1 63 32) (wS v1 63 33) = some (nI ((s + r) % 4096))) (eD : wS v1 94 i = nI d) (J J' : Wd → Option (Int32 × Wd)) :
    l_X12_way_169 (nI c) a b e e' k J (nI i) J' (f + 1) v (nI x) = if wS v1 95 ((s + r) % 4096) = 0 then q_bo (f_X12_meetsNow v1 (nI c)) (fun v_234 => if v_234 = 0 then (if wS v1 63 34 = (1500 : Int32) then some ((-5 : Int32), v1) else q_bo (f_X12_counts v1 (nI ((s + r) % 4096)) (nI i) (nI x) (nI (d + 1))) (fun w_269 => q_bo (f_X12_isGoal w_269 (nI c) a b e e' k) (fun v_282 => if v_282 = 0 then l_X12_way_169 (nI c) a b e e' k J (nI i) J' f w_269 (nI (x + 1)) else J w_269))) else l_X12_way_169 (nI c) a b e e' k J (nI i) J' f v1 (nI (x + 1))) else l_X12_way_169 (nI c) a b e e' k J (nI i) J' f v1 (nI (x + 1)) := by
  have hp : (s + r) % 4096 < 4096 := Nat.mod_lt _ (by decide)
  rw [l_X12_way_169]
  simp only [if_neg hm10, ld_n hi (show 1500 < 2 ^ 31 by decide), eX, eY, eH, g2, bo_e, gt_e, lt_e, jn_eq, k1, ld_n hp (show 4096 < 2 ^ 31 by decide), nI_1, eD]
/-- the moves from one standing -/
theorem l_go {c g i d : Nat} {a b e e' k X Y H : Int32} (hc : c < 4) (hd : d ≤ 11) : ∀ (m x f : Nat) (w v : Wd) (N : Nat), SS w v c g a b e e' k N → x + m = 10 → m < f → i < N → wS v 89 i = X → wS v 90 i = Y → wS v 91 i = H → wS v 94 i = nI d →
    ∃ w' v' N', SS w' v' c g a b e e' k N' ∧ PZ w v w' v' ∧ N ≤ N' ∧ OE v v' N ∧ (∀ j, N ≤ j → j < N' → wS v' 94 j = nI (d + 1)) ∧
      (((∀ J, l_X10_goOn_42 (nI i) X Y H J f w (nI x) = some (-1, w')) ∧ (∀ J J', l_X12_way_169 (nI c) a b e e' k J (nI i) J' f v (nI x) = J' v')) ∨
       ((∀ J, l_X10_goOn_42 (nI i) X Y H J f w (nI x) = some (-5, w')) ∧ (∀ J J', l_X12_way_169 (nI c) a b e e' k J (nI i) J' f v (nI x) = some (-5, v'))) ∨
       ((∀ J, l_X10_goOn_42 (nI i) X Y H J f w (nI x) = J w') ∧ (∀ J J', l_X12_way_169 (nI c) a b e e' k J (nI i) J' f v (nI x) = J v') ∧ N < N'))
  | 0, x, f + 1, w, v, N, S, hx, _, hi, _, _, _, _ => by
    refine ⟨w, v, N, S, PZ.refl, Nat.le_refl _, OE.refl, fun j h1 h2 => by omega, Or.inl ⟨fun J => ?_, fun J J' => ?_⟩⟩
    · unfold l_X10_goOn_42
      rw [if_pos (show (10 : Int32) ≤ nI x from (nI_leI (a := 10) (by decide) (by omega)).mpr (by omega))]
    · unfold l_X12_way_169
      rw [if_pos (show (10 : Int32) ≤ nI x from (nI_leI (a := 10) (by decide) (by omega)).mpr (by omega))]
  | m + 1, x, f + 1, w, v, N, S, hx, hf, hi, eX, eY, eH, eD => by
    obtain ⟨R, hcn, W, G, Q⟩ := id S
    obtain ⟨y1, y2, y3, y4, y5, y6⟩ := id W
    obtain ⟨n5, hn5, f1, f2, hh5, hN5⟩ := id R.2.2.2.2.1
    have hcn' : c < n5 := by
      rw [f1] at hcn
      exact (nI_ltI (by omega) (by omega)).mp hcn
    obtain ⟨A, S5c, P, Q5c⟩ := hh5 c hcn'
    have hm10 : ¬ (10 : Int32) ≤ nI x := fun z => by have := (nI_leI (a := 10) (by decide) (by omega)).mp z; omega
    obtain ⟨a1, a2, a3, a4, -⟩ := y4 i hi
    rw [eX] at a1
    rw [eY] at a2
    rw [eH] at a3
    obtain ⟨w1, v1, g1, g2, g3, g4, g5, g6, g7, g8, g9, g10⟩ := c_aim hc A R.2.2.2.2.2.1 a1 a2 a3 hm10
    have gg := G.2.2.2.2.2.2.2
    have S1 : SS w1 v1 c g a b e e' k N := ⟨R.fr0 g9.only g10.only, by rw [(g9.1 3 2 (by omega)).1]; exact hcn, W.fr (fun p j hp => g9.1 p j (by omega)) (fun p j hp => (g10.1 p j (by omega)).1), G.fr (fun j _ => (g9.1 4 j (by omega)).1) (fun j => (g9.1 _ j (by omega)).1), Q.fr (g9.1 4 7 (by omega)).1 (fun j => (g9.1 28 j (by omega)).1) (g10.1 63 42 (by omega)).1 (fun j => (g10.1 96 j (by omega)).1)⟩
    have P1 : PZ w v w1 v1 := ⟨g9.only.of0, g10.only.of0, g9.cm, g10.mm, g9.2, g10.2⟩
    have O1 : OE v v1 N := fun j _ => ⟨(g10.1 89 j (by omega)).1, (g10.1 90 j (by omega)).1, (g10.1 91 j (by omega)).1, (g10.1 94 j (by omega)).1⟩
    have A1 : A5 w1 v1 c := by
      obtain ⟨n6, hn6, u1, -, u3, -⟩ := S1.1.2.2.2.2.1
      have := S1.2.1
      rw [u1] at this
      exact (u3 c ((nI_ltI (by omega) (by omega)).mp this)).1
    obtain ⟨z1, z2, z3, z4, z5, z6⟩ := id S1.2.2.1
    rw [g3] at g6
    rw [g4] at g7
    rw [g5] at g8
    have cl := fun J => go_cl (i := i) (f := f) hc hm10 G S1.2.2.2.1 g1 g3 g4 g5 J
    obtain ⟨s, r, es, hs4, hr4, k1, k2⟩ := c_slot z6 z1 (wS v1 63 31) (wS v1 63 32) (wS v1 63 33)
    have rf := fun J J' => go_rf (a := a) (b := b) (e := e) (e' := e') (k := k) (f := f) hm10 (show i < 1500 by omega) eX eY eH g2 k1 ((O1 i hi).2.2.2.trans eD) J J'
    -- go on with the next move
    have next : ∀ w2 v2 N2, SS w2 v2 c g a b e e' k N2 → PZ w v w2 v2 → N ≤ N2 → OE v v2 N → (∀ j, N ≤ j → j < N2 → wS v2 94 j = nI (d + 1)) → (∀ J, l_X10_goOn_42 (nI i) X Y H J (f + 1) w (nI x) = l_X10_goOn_42 (nI i) X Y H J f w2 (nI (x + 1))) → (∀ J J', l_X12_way_169 (nI c) a b e e' k J (nI i) J' (f + 1) v (nI x) = l_X12_way_169 (nI c) a b e e' k J (nI i) J' f v2 (nI (x + 1))) →
        ∃ w' v' N', SS w' v' c g a b e e' k N' ∧ PZ w v w' v' ∧ N ≤ N' ∧ OE v v' N ∧ (∀ j, N ≤ j → j < N' → wS v' 94 j = nI (d + 1)) ∧
          (((∀ J, l_X10_goOn_42 (nI i) X Y H J (f + 1) w (nI x) = some (-1, w')) ∧ (∀ J J', l_X12_way_169 (nI c) a b e e' k J (nI i) J' (f + 1) v (nI x) = J' v')) ∨
           ((∀ J, l_X10_goOn_42 (nI i) X Y H J (f + 1) w (nI x) = some (-5, w')) ∧ (∀ J J', l_X12_way_169 (nI c) a b e e' k J (nI i) J' (f + 1) v (nI x) = some (-5, v'))) ∨
           ((∀ J, l_X10_goOn_42 (nI i) X Y H J (f + 1) w (nI x) = J w') ∧ (∀ J J', l_X12_way_169 (nI c) a b e e' k J (nI i) J' (f + 1) v (nI x) = J v') ∧ N < N')) := by
      intro w2 v2 N2 S2 P2 hN2 O2 D2 e1 e2
      obtain ⟨o1, o2, o3, o4⟩ := O2 i hi
      obtain ⟨w', v', N', S', P', hN', O', D', T⟩ := l_go hc hd m (x + 1) f w2 v2 N2 S2 (by omega) (by omega) (by omega) (o1.trans eX) (o2.trans eY) (o3.trans eH) (o4.trans eD)
      refine ⟨w', v', N', S', P2.trans P', by omega, O2.trans O' hN2, fun j h1 h2 => ?_, ?_⟩
      · by_cases q : j < N2
        · rw [(O' j q).2.2.2]; exact D2 j h1 q
        · exact D' j (by omega) h2
      · rcases T with ⟨t1, t2⟩ | ⟨t1, t2⟩ | ⟨t1, t2, t3⟩
        · exact Or.inl ⟨fun J => (e1 J).trans (t1 J), fun J J' => (e2 J J').trans (t2 J J')⟩
        · exact Or.inr (Or.inl ⟨fun J => (e1 J).trans (t1 J), fun J J' => (e2 J J').trans (t2 J J')⟩)
        · exact Or.inr (Or.inr ⟨fun J => (e1 J).trans (t1 J), fun J J' => (e2 J J').trans (t2 J J'), by omega⟩)
    have inj := fun j (hj : j < N) => pack_inj g6 g7 g8 (z4 j hj).1 (z4 j hj).2.1 (z4 j hj).2.2.1
    rcases k2 with ⟨k3, k4, k5⟩ | ⟨k3, j, hj, k4⟩
    · -- not noted
      have nt : f_X10_isNoted w1 (f_X10_standingOf (wS v1 63 31) (wS v1 63 32) (wS v1 63 33)) = some 0 := by
        rcases c_noted z5 z1 (f_X10_standingOf (wS v1 63 31) (wS v1 63 32) (wS v1 63 33)) with ⟨-, j, hj, ej⟩ | ⟨t, -⟩
        · rw [(z4 j hj).2.2.2.1] at ej
          exact absurd ((inj j hj).mp ej) (k5 j hj)
        · exact t
      obtain ⟨t, w2, m1, m2, m3, m4, m5, mX, m6⟩ := c_firstMetX S1.1 hc S1.2.1 rfl rfl rfl g6 g7 (bt_w g8 (by decide) (by decide))
      have mx : ∀ p j, p < 1000 ∨ 1080 ≤ p → wS w2 p j = wS w1 p j ∧ wL w2 p j = wL w1 p j := fun p j hp => mX p j (fun o ho => by unfold K5; omega)
      have S2 : SS w2 v1 c g a b e e' k N := ⟨S1.1.fr0 m3 only.refl, by rw [(mx 3 2 (by omega)).1]; exact S1.2.1, S1.2.2.1.fr (fun p j hp => mx p j (by omega)) (fun _ _ _ => rfl), S1.2.2.2.1.fr (fun j _ => (mx 4 j (by omega)).1) (fun j => (mx _ j (by omega)).1), S1.2.2.2.2.fr (mx 4 7 (by omega)).1 (fun j => (mx 28 j (by omega)).1) rfl (fun _ => rfl)⟩
      have P2 : PZ w v w2 v1 := P1.trans ⟨m3.of0, only.refl, m4, mm.refl, m5, am.refl⟩
      by_cases ht : t = 0
      · obtain ⟨b1, b2⟩ := m6 ht
        by_cases hN : N = 1500
        · refine ⟨w2, v1, N, S2, P2, Nat.le_refl _, O1, fun j h1 h2 => by omega, Or.inr (Or.inl ⟨fun J => ?_, fun J J' => ?_⟩)⟩
          · rw [cl, nt, bo_e, if_pos rfl, m1, bi_e, if_pos ht, S2.2.2.1.2.1, hN, if_neg (show ¬ nI 1500 < (1500 : Int32) by decide)]
          · rw [rf, if_pos k3, m2, bo_e, if_pos ht, z3, hN, if_pos (show nI 1500 = (1500 : Int32) by decide)]
        · have hN' : N < 1500 := by omega
          obtain ⟨w3, v3, q1, q2, q3, q4, q5, q6, q7, q8⟩ := c_add (i := i) (m := x) (d := d + 1) S2 hN' rfl rfl rfl b1 b2 g8 es hs4 hr4 k3 k4 (by omega) (by omega) (by omega) (Or.inr ⟨hi, by rw [(O1 i hi).2.2.2, eD, Nat.add_sub_cancel]⟩)
          have A3 : A5 w3 v3 c := by
            obtain ⟨n6, hn6, u1, -, u3, -⟩ := q3.1.2.2.2.2.1
            have := q3.2.1
            rw [u1] at this
            exact (u3 c ((nI_ltI (by omega) (by omega)).mp this)).1
          obtain ⟨u, u1, u2⟩ := c_isGoal hc A3 q3.2.2.2.1 (q7 31 (by decide)) (q7 32 (by decide)) (q7 33 (by decide)) (bt_w g8 (by decide) (by decide))
          have e16 : nI i * (16 : Int32) + nI x = nI (16 * i + x) := by
            rw [show nI i * (16 : Int32) = nI (i * 16) from (Int32.ofNat_mul i 16).symm, nI_add, Nat.mul_comm]
          have cl2 : ∀ J, l_X10_goOn_42 (nI i) X Y H J (f + 1) w (nI x) = if u = 0 then l_X10_goOn_42 (nI i) X Y H J f w3 (nI (x + 1)) else J w3 := fun J => by
            rw [cl, nt, bo_e, if_pos rfl, m1, bi_e, if_pos ht, S2.2.2.1.2.1, if_pos (show nI N < (1500 : Int32) from nI_lt (b := 1500) hN' (by decide)), e16, q1, bo_e, u1, bo_e]
          have rf2 : ∀ J J', l_X12_way_169 (nI c) a b e e' k J (nI i) J' (f + 1) v (nI x) = if u = 0 then l_X12_way_169 (nI c) a b e e' k J (nI i) J' f v3 (nI (x + 1)) else J v3 := fun J J' => by
            rw [rf, if_pos k3, m2, bo_e, if_pos ht, z3, if_neg (show ¬ nI N = (1500 : Int32) from fun z => hN ((nI_eq (b := 1500) (by omega) (by decide)).mp z)), q2, bo_e, u2, bo_e]
          have O3 : OE v v3 N := O1.trans q5 (Nat.le_refl _)
          have D3 : ∀ j, N ≤ j → j < N + 1 → wS v3 94 j = nI (d + 1) := fun j h1 h2 => by rw [show j = N by omega]; exact q6
          by_cases hu : u = 0
          · exact next w3 v3 (N + 1) q3 (P2.trans q4) (by omega) O3 D3 (fun J => by rw [cl2, if_pos hu]) (fun J J' => by rw [rf2, if_pos hu])
          · exact ⟨w3, v3, N + 1, q3, P2.trans q4, by omega, O3, D3, Or.inr (Or.inr ⟨fun J => by rw [cl2, if_neg hu], fun J J' => by rw [rf2, if_neg hu], by omega⟩)⟩
      · exact next w2 v1 N S2 P2 (Nat.le_refl _) O1 (fun j h1 h2 => by omega) (fun J => by rw [cl, nt, bo_e, if_pos rfl, m1, bi_e, if_neg ht]) (fun J J' => by rw [rf, if_pos k3, m2, bo_e, if_neg ht])
    · -- noted
      have nt : f_X10_isNoted w1 (f_X10_standingOf (wS v1 63 31) (wS v1 63 32) (wS v1 63 33)) = some 1 := by
        rcases c_noted z5 z1 (f_X10_standingOf (wS v1 63 31) (wS v1 63 32) (wS v1 63 33)) with ⟨t, -⟩ | ⟨-, t⟩
        · exact t
        · exact absurd ((z4 j hj).2.2.2.1.trans ((inj j hj).mpr k4)) (t j hj)
      exact next w1 v1 N S1 P1 (Nat.le_refl _) O1 (fun j h1 h2 => by omega) (fun J => by rw [cl, nt, bo_e, if_neg one0]) (fun J J' => by rw [rf, if_neg k3])
