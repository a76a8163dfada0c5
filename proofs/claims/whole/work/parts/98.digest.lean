/-! ===== digest ===== -/
theorem bo_some {o : Option Int32} {r : Int32} (h : q_bo o (fun x => some x) = some r) : o = some r := by
  rcases o with _ | a
  · have h' : (none : Option Int32) = some r := h
    cases h'
  · exact h
theorem l_dg6 {w v : Wd} (R : RS w v) (e6 : wS w 6 7 = wS v 63 59) (e7 : wS w 7 2 = wS v 63 68) (e8 : wS w 8 3 = wS v 63 74) (e9 : wS w 9 3 = wS v 63 83) (e10 : wS w 5 1 = wS v 63 50) (e11 : wS w 5 3 = wS v 63 52) : ∀ (m i f : Nat) (x : Int64), i + m = 13 → m < f → ∃ y, (∀ J, l_X11_digest_6 w J f (nI i) x = J y) ∧ (∀ J, l_X12_digest_6 v J f (nI i) x = J y)
  | 0, i, f + 1, x, hi, _ => by
    refine ⟨x, fun J => ?_, fun J => ?_⟩
    · rw [l_X11_digest_6, if_pos (show (12 : Int32) < nI i from (nI_ltI (a := 12) (by decide) (by omega)).mpr (by omega))]
    · rw [l_X12_digest_6, if_pos (show (13 : Int32) ≤ nI i from (nI_leI (a := 13) (by decide) (by omega)).mpr (by omega))]
  | m + 1, i, f + 1, x, hi, hf => by
    have n1 : ¬ (12 : Int32) < nI i := fun k => by have := (nI_ltI (a := 12) (by decide) (by omega)).mp k; omega
    have n2 : ¬ (13 : Int32) ≤ nI i := fun k => by have := (nI_leI (a := 13) (by decide) (by omega)).mp k; omega
    by_cases h9 : nI i = (9 : Int32)
    · obtain ⟨y, a1, a2⟩ := l_dg6 R e6 e7 e8 e9 e10 e11 m (i + 1) f x (by omega) (by omega)
      refine ⟨y, fun J => ?_, fun J => ?_⟩
      · rw [l_X11_digest_6, if_neg n1, jn_eq, if_pos h9]; simp only [lt_e, nI_1]; exact a1 J
      · rw [l_X12_digest_6, if_neg n2, jn_eq, if_pos h9]; simp only [lt_e, nI_1]; exact a2 J
    · obtain ⟨r, r1, r2⟩ := c_count R e6 e7 e8 e9 e10 e11 (nI i)
      obtain ⟨y, a1, a2⟩ := l_dg6 R e6 e7 e8 e9 e10 e11 m (i + 1) f (31 * x + r.toInt64) (by omega) (by omega)
      refine ⟨y, fun J => ?_, fun J => ?_⟩
      · rw [l_X11_digest_6, if_neg n1, jn_eq, if_neg h9, r1, bo_e]; simp only [lt_e, nI_1]; exact a1 J
      · rw [l_X12_digest_6, if_neg n2, jn_eq, if_neg h9, r2, bo_e]; simp only [lt_e, nI_1]; exact a2 J
theorem isCar_k {v : Wd} {n c : Nat} (hn : n ≤ 4) (e2 : wS v 63 16 = nI n) (hc : c < n) : f_X12_isCar v (nI c) = 1 := by
  unfold f_X12_isCar
  rw [e2, in_eq]
  exact win_v hc (by omega)
theorem l_dg20 {w v : Wd} (h : R5 w v) {n c : Nat} (hn : n ≤ 4) (e2 : wS v 63 16 = nI n) (hc : c < n) : ∀ (m i f : Nat) (x : Int64), i + m = 10 → m < f → ∃ y, (∀ J, l_X11_digestCars_20 w (nI c) J f (nI i) x = J y) ∧ (∀ J, l_X12_digest_54 v (nI c) J f (nI i) x = J y)
  | 0, i, f + 1, x, hi, _ => by
    refine ⟨x, fun J => ?_, fun J => ?_⟩
    · rw [l_X11_digestCars_20, if_pos (show (9 : Int32) < nI i from (nI_ltI (a := 9) (by decide) (by omega)).mpr (by omega))]
    · rw [l_X12_digest_54, if_pos (show (10 : Int32) ≤ nI i from (nI_leI (a := 10) (by decide) (by omega)).mpr (by omega))]
  | m + 1, i, f + 1, x, hi, hf => by
    have n1 : ¬ (9 : Int32) < nI i := fun k => by have := (nI_ltI (a := 9) (by decide) (by omega)).mp k; omega
    have n2 : ¬ (10 : Int32) ≤ nI i := fun k => by have := (nI_leI (a := 10) (by decide) (by omega)).mp k; omega
    obtain ⟨r, r1, r2⟩ := c_about h (nI c) (nI i)
    have r3 : f_X12_aboutOf v (nI c) (nI i) = some r := by
      unfold f_X12_about at r2
      rw [isCar_k hn e2 hc, if_neg one0] at r2
      exact bo_some r2
    obtain ⟨y, a1, a2⟩ := l_dg20 h hn e2 hc m (i + 1) f (31 * x + r.toInt64) (by omega) (by omega)
    refine ⟨y, fun J => ?_, fun J => ?_⟩
    · rw [l_X11_digestCars_20, if_neg n1, r1, bo_e]; simp only [lt_e, nI_1]; exact a1 J
    · rw [l_X12_digest_54, if_neg n2, r3, bo_e]; simp only [lt_e, nI_1]; exact a2 J
theorem l_dg5 {w v : Wd} (h : R5 w v) {n : Nat} (hn : n ≤ 4) (e1 : wS w 3 2 = nI n) (e2 : wS v 63 16 = nI n) : ∀ (m i f : Nat) (x : Int64), i + m = n → m < f → ∃ y, (∀ J, l_X11_digestCars_5 w J f (nI i) x = J y) ∧ (∀ J, l_X12_digest_43 v J f (nI i) x = J y)
  | 0, i, f + 1, x, hi, _ => by
    refine ⟨x, fun J => ?_, fun J => ?_⟩
    · rw [l_X11_digestCars_5, gt_e, e1, if_pos (nI_le (show n ≤ i by omega) (by omega))]
    · rw [l_X12_digest_43, gt_e, e2, if_pos (nI_le (show n ≤ i by omega) (by omega))]
  | m + 1, i, f + 1, x, hi, hf => by
    obtain ⟨z, z1, z2⟩ := l_dg20 h hn e2 (show i < n by omega) 10 0 FU x (by omega) (by unfold FU; omega)
    rw [nI_0] at z1 z2
    obtain ⟨y, a1, a2⟩ := l_dg5 h hn e1 e2 m (i + 1) f z (by omega) (by omega)
    refine ⟨y, fun J => ?_, fun J => ?_⟩
    · rw [l_X11_digestCars_5, gt_e, e1, if_neg (nI_ge (show i < n by omega) (by omega)), jn_eq, z1]; simp only [lt_e, nI_1]; exact a1 J
    · rw [l_X12_digest_43, gt_e, e2, if_neg (nI_ge (show i < n by omega) (by omega)), jn_eq, z2]; simp only [lt_e, nI_1]; exact a2 J
theorem FrL.S5 {w w' v : Wd} {c : Nat} (F : FrL w w') (S : S5 w v c) : S5 w' v c := S.fr (F.K0 c 7) rfl (fun o i _ _ _ => F.K c o i) (fun _ _ _ _ _ => rfl)
theorem carAt_k {w : Wd} {n c : Nat} (hn : n ≤ 4) (e1 : wS w 3 2 = nI n) (hc : c < n) (h22 : wS w 22 c ≠ 0) : f_X3_carAt w (nI c) = some (K5 c) := by
  unfold f_X3_carAt
  rw [gt_e, e1, win_v hc (by omega), if_neg one0, ldq_n (show c < 4 by omega) (by decide) h22, rt_22]
theorem l_dg58 {v : Wd} {n : Nat} (hn : n ≤ 4) (e2 : wS v 63 16 = nI n) : ∀ (m i f : Nat) (x : Int64) (w : Wd), RS w v → wS w 3 2 = nI n → i + m = n → m < f → ∃ y w', l_X11_digestCars_58 f w (nI i) x = some (y, w') ∧ (∀ J, l_X12_digest_90 v J f (nI i) x = J y) ∧ FrL w w'
  | 0, i, f + 1, x, w, R, e1, hi, _ => by
    refine ⟨x, w, ?_, fun J => ?_, FrL.refl⟩
    · rw [l_X11_digestCars_58, gt_e, e1, if_pos (nI_le (show n ≤ i by omega) (by omega))]
    · rw [l_X12_digest_90, gt_e, e2, if_pos (nI_le (show n ≤ i by omega) (by omega))]
  | m + 1, i, f + 1, x, w, R, e1, hi, hf => by
    obtain ⟨n5, hn5, f1, f2, hh, -⟩ := id R.2.2.2.2.1
    have hin : i < n := by omega
    have hi4 : i < 4 := by omega
    have en : n5 = n := (nI_eq (by omega) (by omega)).mp (f1.symm.trans e1)
    subst en
    obtain ⟨A, S, P, Q⟩ := hh i hin
    by_cases hz : wS w (K5 i) 12 = 0
    · obtain ⟨y, w', a1, a2, a3⟩ := l_dg58 hn e2 m (i + 1) f x w R e1 (by omega) (by omega)
      refine ⟨y, w', ?_, fun J => ?_, a3⟩
      · rw [l_X11_digestCars_58, gt_e, e1, if_neg (nI_ge hin (by omega)), carAt_k hn e1 hin A.1, bo_e, jn_eq, if_neg (K5_ne (c := i)), gt_e, if_pos hz]; simp only [lt_e, nI_1]; exact a1
      · rw [l_X12_digest_90, gt_e, e2, if_neg (nI_ge hin (by omega)), ld_n hi4 (show 4 < 2 ^ 31 by decide), jn_eq, ← P.2.2.2.1.1, if_pos hz]; simp only [lt_e, nI_1]; exact a2 J
    · obtain ⟨p, w1, k1, k2, k3, -⟩ := c_pullOf R hi4 A P Q
      have R1 := R.fr0 k2.only (only.refl (w := v))
      obtain ⟨q, k4, k5⟩ := c_needOf R1 hi4 (k2.A A) (k2.P P)
      obtain ⟨y, w', a1, a2, a3⟩ := l_dg58 hn e2 m (i + 1) f (31 * (31 * x + p.toInt64) + q.toInt64) w1 R1 (((k2.1 3 2 (by decide)).1).trans e1) (by omega) (by omega)
      refine ⟨y, w', ?_, fun J => ?_, k2.trans a3⟩
      · rw [l_X11_digestCars_58, gt_e, e1, if_neg (nI_ge hin (by omega)), carAt_k hn e1 hin A.1, bo_e, jn_eq, if_neg (K5_ne (c := i)), gt_e, if_neg hz, k1, bi_e]; simp only [lt_e, k4, bo_e, nI_1]; exact a1
      · rw [l_X12_digest_90, gt_e, e2, if_neg (nI_ge hin (by omega)), ld_n hi4 (show 4 < 2 ^ 31 by decide), jn_eq, ← P.2.2.2.1.1, if_neg hz, k3, bo_e]; simp only [lt_e, k5, bo_e, nI_1]; exact a2 J
theorem l_dg45 {v v1 : Wd} {n : Nat} (hv : f_X12_days v 2000 = some v1) (e2 : wS v1 63 59 = nI n) : ∀ (m i f : Nat) (x : Int64) (w : Wd), N9 w v n → i + m = n → m < f → ∃ y w', (∀ J, l_X11_digest_45 J f w (nI i) x = J w' y) ∧ (∀ J, l_X12_digest_148 v1 J f (nI i) x = J y) ∧ FrD w w'
  | 0, i, f + 1, x, w, N, hi, _ => by
    have hn := N.1
    refine ⟨x, w, fun J => ?_, fun J => ?_, FrD.refl⟩
    · rw [l_X11_digest_45, gt_e, N.2.1, if_pos (nI_le (show n ≤ i by omega) (by omega))]
    · rw [l_X12_digest_148, gt_e, e2, if_pos (nI_le (show n ≤ i by omega) (by omega))]
  | m + 1, i, f + 1, x, w, N, hi, hf => by
    have hn := N.1
    have hin : i < n := by omega
    obtain ⟨w', v', r1, r2, r3, r4, r5⟩ := c_days N (T := 2000) (by decide)
    have r1' : f_X2_passTo w 2000 = some w' := r1
    have r2' : f_X12_days v 2000 = some v' := r2
    have ev : v' = v1 := Option.some.inj (r2'.symm.trans hv)
    subst ev
    have go : f_X2_goneOf w (nI i) = some (wS v' 113 i, w') := by
      unfold f_X2_goneOf
      rw [gt_e, N.2.1, win_v hin (by omega), if_neg one0, r1', bo_e, ld_n (show i < 4 by omega) (show 4 < 2 ^ 31 by decide), (r5 i hin).2.1]
    obtain ⟨y, w2, a1, a2, a3⟩ := l_dg45 hv e2 m (i + 1) f (31 * x + (wS v' 113 i).toInt64) w' (N.DE r3 FrE.refl) (by omega) (by omega)
    refine ⟨y, w2, fun J => ?_, fun J => ?_, r3.trans a3⟩
    · rw [l_X11_digest_45, gt_e, N.2.1, if_neg (nI_ge hin (by omega)), go, bi_e]; simp only [lt_e, nI_1]; exact a1 J
    · rw [l_X12_digest_148, gt_e, e2, if_neg (nI_ge hin (by omega)), ld_n (show i < 4 by omega) (show 4 < 2 ^ 31 by decide)]; simp only [lt_e, nI_1]; exact a2 J
theorem l_dg80 {v v1 : Wd} {n c : Nat} (hv : f_X12_works v = some v1) (e2 : wS v1 63 68 = nI n) : ∀ (m i f : Nat) (x : Int64) (w : Wd), M10 w v n c → i + m = n → m < f → ∃ y w', (∀ J, l_X11_digest_80 J f w (nI i) x = J w' y) ∧ (∀ J, l_X12_digest_182 v1 J f (nI i) x = J y) ∧ FrT w w'
  | 0, i, f + 1, x, w, N, hi, _ => by
    have hn := N.1
    refine ⟨x, w, fun J => ?_, fun J => ?_, FrT.refl⟩
    · rw [l_X11_digest_80, gt_e, N.2.1, if_pos (nI_le (show n ≤ i by omega) (by omega))]
    · rw [l_X12_digest_182, gt_e, e2, if_pos (nI_le (show n ≤ i by omega) (by omega))]
  | m + 1, i, f + 1, x, w, N, hi, hf => by
    have hn := N.1
    have hin : i < n := by omega
    obtain ⟨w', v', r1, r2, r3, r4, r5⟩ := c_share N
    have ev : v' = v1 := Option.some.inj (r2.symm.trans hv)
    subst ev
    have go : f_X9_lateOf w (nI i) = some (wS v' 116 i, w') := by
      unfold f_X9_lateOf
      rw [gt_e, N.2.1, win_v hin (by omega), if_neg one0, r1, bo_e, ld_n (show i < 12 by omega) (show 12 < 2 ^ 31 by decide), r5 i hin]
    obtain ⟨y, w2, a1, a2, a3⟩ := l_dg80 hv e2 m (i + 1) f (31 * x + (wS v' 116 i).toInt64) w' (N.TU r3 FrU.refl) (by omega) (by omega)
    refine ⟨y, w2, fun J => ?_, fun J => ?_, r3.trans a3⟩
    · rw [l_X11_digest_80, gt_e, N.2.1, if_neg (nI_ge hin (by omega)), go, bi_e]; simp only [lt_e, nI_1]; exact a1 J
    · rw [l_X12_digest_182, gt_e, e2, if_neg (nI_ge hin (by omega)), ld_n (show i < 12 by omega) (show 12 < 2 ^ 31 by decide)]; simp only [lt_e, nI_1]; exact a2 J
theorem c_digest {w v : Wd} (R : RS w v) (r8 : R8 w v) (r9 : R9 w v) (r10 : R10 w v) (r11 : R11 w v) (r12 : R12 w v) : ∃ (r : Int64) (w1 v1 : Wd), f_X11_digest w = some (r, w1) ∧ f_X12_digest v = some (r, v1) ∧ R8 w1 v1 ∧ only 8 w w1 ∧ only 8 v v1 ∧ cm w w1 ∧ mm v v1 ∧ am w w1 ∧ am v v1 := by
  obtain ⟨n, ns, D, -⟩ := id r8
  obtain ⟨n9, N⟩ := id r9
  have N : N9 w v n9 := N
  obtain ⟨n10, c10, M⟩ := r10.M
  obtain ⟨n11, -, t1, t2, -⟩ := id r11
  obtain ⟨n5, hn5, f1, f2, -⟩ := id R.2.2.2.2.1
  obtain ⟨x1, a1, a2⟩ := l_dg6 R (N.2.1.trans N.2.2.1.symm) (M.2.1.trans M.2.2.1.symm) (t1.trans t2.symm) r12.2 (D.2.2.1.trans D.2.2.2.1.symm) (D.2.2.2.2.1.trans D.2.2.2.2.2.1.symm) 13 0 FU 17 (by omega) (by unfold FU; omega)
  obtain ⟨x2, b1, b2⟩ := l_dg5 R.2.2.2.2.1 hn5 f1 f2 n5 0 FU x1 (by omega) (by unfold FU; omega)
  obtain ⟨x3, w1, c1, c2, c3⟩ := l_dg58 hn5 f2 n5 0 FU x2 w R f1 (by omega) (by unfold FU; omega)
  have N1 : N9 w1 v n9 := N.fr (c3.only 9 (by decide) (by decide)) sm.refl
  obtain ⟨w', v1, r1, r2, r3, r4, r5⟩ := c_days N1 (T := 2000) (by decide)
  have r2' : f_X12_days v 2000 = some v1 := r2
  obtain ⟨x4, w2, d1, d2, d3⟩ := l_dg45 r2' (((r4.1 63 59 (by omega)).1).trans N.2.2.1) n9 0 FU x3 w1 N1 (by omega) (by have := N.1; unfold FU; omega)
  have M2 : M10 w2 v1 n10 c10 := by
    obtain ⟨m1, m2, m3, m4, m5, m6, m7, m8⟩ := M
    have o := c3.only.trans d3.only
    refine ⟨m1, ((o 10 (by decide) (by decide) 7 2 rfl).1).trans m2, ((r4.only 10 (by decide) (by decide) 63 68 rfl).1).trans m3, fun i hi => ?_, ((o 10 (by decide) (by decide) 7 3 rfl).1).trans m5, ((r4.only 10 (by decide) (by decide) 63 72 rfl).1).trans m6, m7, m8⟩
    unfold T10
    rw [(o 10 (by decide) (by decide) 50 i rfl).1, (o 10 (by decide) (by decide) 51 i rfl).1, (r4.only 10 (by decide) (by decide) 114 i rfl).1, (r4.only 10 (by decide) (by decide) 115 i rfl).1]
    exact m4 i hi
  obtain ⟨w'', v2, s1, s2, s3, s4, s5⟩ := c_share M2
  obtain ⟨x5, w3, e1, e2, e3⟩ := l_dg80 s2 (((s4.1 63 68 (by omega)).1).trans M2.2.2.1) n10 0 FU x4 w2 M2 (by omega) (by have := M.1; unfold FU; omega)
  have ow := (c3.only.trans d3.only).trans e3.only
  have ov := r4.only.trans s4.only
  have r83 : R8 w3 v2 := r8.fr (ow 8 (by decide) (by decide)) (ov 8 (by decide) (by decide))
  obtain ⟨r, w4, v4, s, g1, g2, -, g3, g4, g5, -⟩ := c_fewest r83
  rw [nI_0] at a1 a2 b1 b2 c1 c2 d1 d2 e1 e2
  refine ⟨31 * x5 + r.toInt64, w4, v4, ?_, ?_, g5, ow.of0.trans g3.only, ov.of0.trans g4.only, ((c3.cm.trans d3.cm).trans e3.cm).trans g3.cm, (r4.mm.trans s4.mm).trans g4.mm, ((c3.2.trans d3.2).trans e3.2).trans g3.2, (r4.2.trans s4.2).trans g4.2⟩
  · unfold f_X11_digest f_X11_digestCars
    rw [jn_eq, a1, jn_eq, b1, c1, bi_e, jn_eq, d1, jn_eq, e1, g1, bi_e]
  · unfold f_X12_digest
    rw [jn_eq, a2, jn_eq, b2, jn_eq, c2, r2', bo_e, jn_eq, d2, s2, bo_e, jn_eq, e2, g2, bi_e]
