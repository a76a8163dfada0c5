/-! ===== firstMet is meetsNow ===== -/
theorem K5_inj {a b : Nat} : K5 a = K5 b ↔ a = b := by unfold K5; omega
theorem l_cars {v : Wd} {c s n : Nat} {x y h : Int32} (hn : n ≤ 4) (e2 : wS v 63 16 = nI n) (J : Option Int32) (F : Int32 → Option Int32) : ∀ (m o f : Nat) (w : Wd), o + m = n → m < f → Mt w v c s x y h → wS w 3 2 = nI n → R5 w v →
    ∃ w', FrO c w w' ∧ ((l_X3_carMet_2 (K5 c) f w (nI o) = some (-1, w') ∧ l_X12_meetsNow_126 (nI c) v J F f (nI o) = J) ∨ ∃ q, q < n ∧ l_X3_carMet_2 (K5 c) f w (nI o) = some (nI q, w') ∧ l_X12_meetsNow_126 (nI c) v J F f (nI o) = F (nI q))
  | 0, o, f + 1, w, ho, _, M, e1, R => by
    refine ⟨w, FrO.refl, Or.inl ?_⟩
    unfold l_X3_carMet_2 l_X12_meetsNow_126
    simp only [q_gt, e1, e2, if_pos (nI_le (show n ≤ o by omega) (by omega)), and_self]
  | m + 1, o, f + 1, w, ho, hf, M, e1, R => by
    have hc : c < 4 := M.1.1
    have ho4 : o < 4 := by omega
    obtain ⟨n', hn', d1, d2, hh, hN⟩ := id R
    obtain rfl : n' = n := (nI_eq (by omega) (by omega)).mp (d1.symm.trans e1)
    obtain ⟨A2, ⟨so, hso, t1, t2, S2⟩, P2, -⟩ := hh o (by omega)
    unfold l_X3_carMet_2 l_X12_meetsNow_126
    simp only [q_gt, q_lt, q_jn, q_pt, q_bo, q_bi, e1, e2, if_neg (nI_ge (show o < n' by omega) (by omega)), ldq_n ho4 (show 4 < 2 ^ 31 by decide) A2.1, rt_22, nI_1, ld_n ho4 (show 4 < 2 ^ 31 by decide), ← P2.2.2.2.1.1, f_X12_meetsCar, ← P2.1.1, ← P2.2.1.1, M.2.2.2.2.2.1.1, M.2.2.2.2.2.1.2.1]
    by_cases hoc : o = c
    · have q1 : nI o = nI c := by rw [hoc]
      have q2 : K5 o = K5 c := by rw [hoc]
      rw [if_pos q1, if_pos q2]
      exact l_cars hn e2 J F m (o + 1) f w (by omega) (by omega) M e1 R
    · have q1 : ¬ nI o = nI c := fun z => hoc ((nI_eq (by omega) (by omega)).mp z)
      have q2 : ¬ K5 o = K5 c := fun z => hoc (K5_inj.mp z)
      rw [if_neg q1, if_neg q2]
      by_cases hst : wS w (K5 o) 12 = 0
      · rw [if_pos hst, if_pos hst]
        exact l_cars hn e2 J F m (o + 1) f w (by omega) (by omega) M e1 R
      · rw [if_neg hst, if_neg hst]
        have bh2 : bt (-100) 100 (wS w (K5 o) 11) := bt_w P2.2.2.1.2 (by decide) (by decide)
        obtain ⟨w1, k1, k2, k3⟩ := c_layAt (v := v) ho4 A2 ⟨so, hso, t1, t2, S2⟩ (wS w (K5 o) 9) (wS w (K5 o) 10) bh2
        have FO := FrO.of ho4 hoc k2
        have M1 := M.frO FO
        have R1' : R5 w1 v := R.fr (FO.only 5 (by decide) (by decide)) sm.refl
        have e1' : wS w1 3 2 = nI n' := (k2.1 3 2 (by unfold K5; omega)).1.trans e1
        have own : ∀ d j, d < 5 → wS w1 (K5 o + d) j = wS w (K5 o + d) j := fun d j hd => (k2.1 _ j (Or.inl (by omega))).1
        have L2 : ∀ t, t < so → Laid w1 w1 o t (wS w (K5 o) 9) (wS w (K5 o) 10) (wS w (K5 o) 11) := fun t ht => by
          have l := k3 t (by rw [t1]; exact nI_lt ht (by omega)) (by omega)
          obtain ⟨u1, u2⟩ := Laid.hl (w := w) (w' := w1) (c := o) (i := t) (fun d j hd => own d j (by omega))
          unfold Laid at l ⊢
          rw [u1, u2]
          exact l
        have I := l_carT M1 ho4 hso ((own 0 7 (by decide)).trans t1) t2 (A2.frO FO ho4) (fun i hi => by
          rw [own 1 i (by decide), own 2 i (by decide), own 3 i (by decide)]
          exact S2 i hi) L2 P2.2.2.1.1.symm (bt_w P2.1.2 (by decide) (by decide)) (bt_w P2.2.1.2 (by decide) (by decide)) bh2 (fun z => l_X3_carMet_2 (K5 c) f z (nI (o + 1))) s 0 FU (by omega) (by have := M.1.2; unfold FU; omega)
        have z0 : nI 0 = (0 : Int32) := by decide
        rw [z0] at I
        rw [k1]
        rcases I with ⟨a, b⟩ | ⟨a, b⟩
        · rw [b]
          obtain ⟨w2, g1, g2⟩ := l_cars hn e2 J F m (o + 1) f w1 (by omega) (by omega) M1 e1' R1'
          refine ⟨w2, FO.trans g1, ?_⟩
          rcases g2 with ⟨g2, g3⟩ | ⟨q, hq, g2, g3⟩
          · exact Or.inl ⟨a.trans g2, g3⟩
          · exact Or.inr ⟨q, hq, a.trans g2, g3⟩
        · rw [b]
          exact ⟨w1, FO, Or.inr ⟨o, by omega, a, rfl⟩⟩
def RS (w v : Wd) : Prop := R1 w v ∧ R2 w v ∧ R3 w v ∧ R4 w v ∧ R5 w v ∧ R6 w v
theorem RS.fr0 {w v w' v' : Wd} (h : RS w v) (hw : only 0 w w') (hv : only 0 v v') : RS w' v' :=
  ⟨h.1.fr (hw 1 (by decide) (by decide)) (hv 1 (by decide) (by decide)), h.2.1.fr (hw 2 (by decide) (by decide)) (hv 2 (by decide) (by decide)), h.2.2.1.fr (hw 3 (by decide) (by decide)) (hv 3 (by decide) (by decide)), h.2.2.2.1.fr (hw 4 (by decide) (by decide)) (hv 4 (by decide) (by decide)), h.2.2.2.2.1.fr (hw 5 (by decide) (by decide)) (hv 5 (by decide) (by decide)), h.2.2.2.2.2.fr (hw 6 (by decide) (by decide)) (hv 6 (by decide) (by decide))⟩
theorem m1_ne {q k : Nat} (hq : q < 100) (hk : k < 100000) : ¬ nI q = (-1 : Int32) := fun z => by
  have h := nI_pos' (n := q) (by omega)
  rw [z] at h
  exact absurd h (by decide)
theorem jn_eq {α β : Type} (B : α) (K : α → β) : q_jn B K = K B := Eq.trans (Eq.refl (q_jn B K)) (Eq.refl (K B))
def mN5 (v : Wd) : Option Int32 := q_gt v 63 31 (fun v_170 => if f_X12_in v_170 (-40000) 40000 = 0 then some 6000 else q_gt v 63 32 (fun v_184 => if f_X12_in v_184 (-40000) 40000 = 0 then some 6000 else some 0))
def mN4 (v : Wd) (a : Int32) : Option Int32 := l_X12_meetsNow_126 a v (mN5 v) (fun x => some (5000 + x)) FU 0
def mN3 (v : Wd) (a : Int32) : Option Int32 := l_X12_meetsNow_95 a v (mN4 v a) (fun x => some (4000 + x)) FU 0
def mN2 (v : Wd) (a : Int32) : Option Int32 := l_X12_meetsNow_64 a v (mN3 v a) (fun x => some (3000 + x)) FU 0
def mN1 (v : Wd) (a : Int32) : Option Int32 := l_X12_meetsNow_33 a v (mN2 v a) (fun x => some (2000 + x)) FU 0
theorem mN_eq (v : Wd) (a : Int32) : f_X12_meetsNow v a = l_X12_meetsNow_2 a v (mN1 v a) (fun x => some (1000 + x)) FU 0 := by
  unfold f_X12_meetsNow mN1 mN2 mN3 mN4 mN5
  simp only [jn_eq]
/-- changed at the cars' rectangles only -/
def FrX (w w' : Wd) : Prop := ∀ p j, (∀ o, o < 4 → p < K5 o + 5 ∨ K5 o + 10 ≤ p) → wS w' p j = wS w p j ∧ wL w' p j = wL w p j
theorem FrX.trans {u v w : Wd} (h : FrX u v) (g : FrX v w) : FrX u w := fun p j hp => ⟨(g p j hp).1.trans (h p j hp).1, (g p j hp).2.trans (h p j hp).2⟩
theorem FrR.X {c : Nat} (hc : c < 4) {w w' : Wd} (h : FrR c w w') : FrX w w' := fun p j hp => h.1 p j (hp c hc)
theorem FrO.X {c : Nat} {w w' : Wd} (h : FrO c w w') : FrX w w' := fun p j hp => h.1 p j (fun o ho _ => hp o ho)
theorem c_firstMetX {w v : Wd} (R : RS w v) {c : Nat} {x y h : Int32} (hc : c < 4) (hcn : nI c < wS w 3 2) (hx : wS v 63 31 = x) (hy : wS v 63 32 = y) (hH : wS v 63 33 = h) (bx : bt (-60000) 60000 x) (byy : bt (-60000) 60000 y) (bh : bt (-100) 100 h) :
    ∃ r w', f_X3_firstMet w (K5 c) x y h = some (r, w') ∧ f_X12_meetsNow v (nI c) = some r ∧ only 0 w w' ∧ cm w w' ∧ am w w' ∧ FrX w w' ∧ (r = 0 → bt (-40000) 40000 x ∧ bt (-40000) 40000 y) := by
  obtain ⟨r1, r2, r3, -, r5, -⟩ := id R
  obtain ⟨n5, hn5, f1, f2, hh, hN⟩ := id r5
  have hcn' : c < n5 := by
    rw [f1] at hcn
    exact (nI_ltI (by omega) (by omega)).mp hcn
  obtain ⟨A, ⟨s, hs, s1, s2, S⟩, P, Q⟩ := hh c hcn'
  obtain ⟨w1, k1, k2, k3⟩ := c_layAt (v := v) hc A ⟨s, hs, s1, s2, S⟩ x y bh
  have O1 := k2.only hc
  have own : ∀ d j, d < 5 → wS w1 (K5 c + d) j = wS w (K5 c + d) j := fun d j hd => (k2.1 _ j (Or.inl (by omega))).1
  have RS1 := R.fr0 O1 only.refl
  have M : Mt w1 v c s x y h := by
    refine ⟨⟨hc, hs⟩, ⟨(own 0 7 (by decide)).trans s1, s2⟩, A.fr (k2.1 22 c (by unfold K5; omega)).1 (fun j _ => own 0 j (by decide)) (fun i _ => own 4 i (by decide)) (fun _ _ _ => rfl), fun i hi => ?_, fun i hi => ?_, ⟨hx, hy, hH⟩, bx, byy, bh⟩
    · rw [own 1 i (by decide), own 2 i (by decide), own 3 i (by decide)]
      exact S i hi
    · have l := k3 i (by rw [s1]; exact nI_lt hi (by omega)) (by omega)
      obtain ⟨u1, u2⟩ := Laid.hl (w := w) (w' := w1) (c := c) (i := i) (fun d j hd => own d j (by omega))
      unfold Laid at l ⊢
      rw [u1, u2]
      exact l
  obtain ⟨n1, hn1, g1, g2, H1⟩ := RS1.1
  obtain ⟨n2, hn2, g3, g4, H2⟩ := RS1.2.1
  obtain ⟨n3, hn3, g5, g6, H3, D3⟩ := RS1.2.2.1
  have e5 : wS w1 3 2 = nI n5 := (k2.1 3 2 (by unfold K5; omega)).1.trans f1
  have z0 : nI 0 = (0 : Int32) := by decide
  rw [mN_eq]
  unfold f_X3_firstMet f_X8_houseMet f_X8_eavesMet f_X8_wireMet f_X8_kerbMet f_X3_carMet
  simp only [bo_k k1]
  have I := (l_houses M hn1 g1 g2 H1 (mN1 v (nI c)) (fun x2_19 => some (1000 + x2_19)) n1 0 FU (by omega) (by unfold FU; omega)).symm
  rw [z0] at I
  rcases I with ⟨q, hq, a, b⟩ | ⟨a, b⟩
  · rw [a, b]
    refine ⟨1000 + nI q, w1, ?_, rfl, O1, k2.cm, k2.2, k2.X hc, ?_⟩
    · show (if nI q = -1 then _ else _) = _
      rw [if_neg (m1_ne (k := 0) (by omega) (by omega))]
    · intro z
      exfalso
      have : (1000 : Int32) + nI q = nI (1000 + q) := nI_add 1000 q
      rw [this] at z
      exact nI_ne0 (by omega) (by omega) z
  rw [a, b]
  unfold mN1
  simp only [bo_v, if_true]
  have I := (l_eaves M hn1 g1 g2 H1 (mN2 v (nI c)) (fun x2_50 => some (2000 + x2_50)) n1 0 FU (by omega) (by unfold FU; omega)).symm
  rw [z0] at I
  rcases I with ⟨q, hq, a, b⟩ | ⟨a, b⟩
  · rw [a, b]
    refine ⟨2000 + nI q, w1, ?_, rfl, O1, k2.cm, k2.2, k2.X hc, ?_⟩
    · show (if nI q = -1 then _ else _) = _
      rw [if_neg (m1_ne (k := 0) (by omega) (by omega))]
    · intro z
      exfalso
      have : (2000 : Int32) + nI q = nI (2000 + q) := nI_add 2000 q
      rw [this] at z
      exact nI_ne0 (by omega) (by omega) z
  rw [a, b]
  unfold mN2
  simp only [bo_v, if_true]
  have I := (l_wires M hn3 g5 g6 H3 D3 (mN3 v (nI c)) (fun x2_81 => some (3000 + x2_81)) n3 0 FU (by omega) (by unfold FU; omega)).symm
  rw [z0] at I
  rcases I with ⟨q, hq, a, b⟩ | ⟨a, b⟩
  · rw [a, b]
    refine ⟨3000 + nI q, w1, ?_, rfl, O1, k2.cm, k2.2, k2.X hc, ?_⟩
    · show (if nI q = -1 then _ else _) = _
      rw [if_neg (m1_ne (k := 0) (by omega) (by omega))]
    · intro z
      exfalso
      have : (3000 : Int32) + nI q = nI (3000 + q) := nI_add 3000 q
      rw [this] at z
      exact nI_ne0 (by omega) (by omega) z
  rw [a, b]
  unfold mN3
  simp only [bo_v, if_true]
  have I := (l_kerbs M hn2 g3 g4 H2 (mN4 v (nI c)) (fun x2_112 => some (4000 + x2_112)) n2 0 FU (by omega) (by unfold FU; omega)).symm
  rw [z0] at I
  rcases I with ⟨q, hq, a, b⟩ | ⟨a, b⟩
  · rw [a, b]
    refine ⟨4000 + nI q, w1, ?_, rfl, O1, k2.cm, k2.2, k2.X hc, ?_⟩
    · show (if nI q = -1 then _ else _) = _
      rw [if_neg (m1_ne (k := 0) (by omega) (by omega))]
    · intro z
      exfalso
      have : (4000 : Int32) + nI q = nI (4000 + q) := nI_add 4000 q
      rw [this] at z
      exact nI_ne0 (by omega) (by omega) z
  rw [a, b]
  unfold mN4
  simp only [bo_v, if_true]
  obtain ⟨w2, F2, I⟩ := l_cars hn5 f2 (mN5 v) (fun x2_157 => some (5000 + x2_157)) n5 0 FU w1 (by omega) (by unfold FU; omega) M e5 RS1.2.2.2.2.1
  have O2 := O1.trans F2.only
  have C2 := k2.cm.trans F2.cm
  have A2 := k2.2.trans F2.2
  have X2 := (k2.X hc).trans F2.X
  rw [z0] at I
  rcases I.symm with ⟨q, hq, a, b⟩ | ⟨a, b⟩
  · rw [a]
    refine ⟨5000 + nI q, w2, ?_, b, O2, C2, A2, X2, ?_⟩
    · show (if nI q = -1 then _ else _) = _
      rw [if_neg (m1_ne (k := 0) (by omega) (by omega))]
    · intro z
      exfalso
      have : (5000 : Int32) + nI q = nI (5000 + q) := nI_add 5000 q
      rw [this] at z
      exact nI_ne0 (by omega) (by omega) z
  rw [a]
  unfold mN5 at b
  rw [in_eq] at b
  simp only [q_gt, hx, hy] at b
  simp only [q_bi, if_true]
  rcases win_c x (-40000) 40000 with p | ⟨p, p1, p2⟩
  · rw [p, if_pos rfl] at b
    rw [p]
    refine ⟨6000, w2, rfl, ?_, O2, C2, A2, X2, fun z => absurd z (by decide)⟩
    unfold mN5
    rw [in_eq]
    simp only [q_gt, hx, hy, p, if_true]
    exact b
  rw [p, if_neg one0] at b
  rcases win_c y (-40000) 40000 with t | ⟨t, t1, t2⟩
  · rw [t, if_pos rfl] at b
    rw [p, t]
    refine ⟨6000, w2, rfl, ?_, O2, C2, A2, X2, fun z => absurd z (by decide)⟩
    unfold mN5
    rw [in_eq]
    simp only [q_gt, hx, hy, p, t, if_true, if_neg one0]
    exact b
  · rw [t, if_neg one0] at b
    rw [p, t]
    refine ⟨0, w2, rfl, ?_, O2, C2, A2, X2, fun _ => ⟨bt_of p1 p2 (by decide) (by decide), bt_of t1 t2 (by decide) (by decide)⟩⟩
    unfold mN5
    rw [in_eq]
    simp only [q_gt, hx, hy, p, t, if_neg one0]
    exact b
theorem c_firstMet {w v : Wd} (R : RS w v) {c : Nat} {x y h : Int32} (hc : c < 4) (hcn : nI c < wS w 3 2) (hx : wS v 63 31 = x) (hy : wS v 63 32 = y) (hH : wS v 63 33 = h) (bx : bt (-60000) 60000 x) (byy : bt (-60000) 60000 y) (bh : bt (-100) 100 h) :
    ∃ r w', f_X3_firstMet w (K5 c) x y h = some (r, w') ∧ f_X12_meetsNow v (nI c) = some r ∧ only 0 w w' ∧ cm w w' ∧ am w w' ∧ (r = 0 → bt (-40000) 40000 x ∧ bt (-40000) 40000 y) := by
  obtain ⟨r, w', k1, k2, k3, k4, k5, -, k6⟩ := c_firstMetX R hc hcn hx hy hH bx byy bh
  exact ⟨r, w', k1, k2, k3, k4, k5, k6⟩
