/-! ===== copy, measure ===== -/
theorem lg_gt (a b : Int64) : (0 < lg_cmp a b ↔ b < a) ∧ (lg_cmp a b ≤ 0 ↔ ¬ b < a) := by
  unfold lg_cmp
  by_cases h : b < a
  · rw [if_pos h]
    exact ⟨⟨fun _ => h, fun _ => by decide⟩, ⟨fun z => absurd z (by decide), fun z => absurd h z⟩⟩
  · rw [if_neg h]
    by_cases g : a = b
    · rw [if_pos g]
      exact ⟨⟨fun z => absurd z (by decide), fun z => absurd z h⟩, ⟨fun _ => h, fun _ => by decide⟩⟩
    · rw [if_neg g]
      exact ⟨⟨fun z => absurd z (by decide), fun z => absurd z h⟩, ⟨fun _ => h, fun _ => by decide⟩⟩
theorem sum64 (a b : Int32) {z : Nat} (hz : z < 1000) : (nI z).toInt64 < a.toInt64 + b.toInt64 ↔ (z : Int) < a.toInt + b.toInt := by
  have h1 := Int32.toInt_lt a
  have h2 := Int32.le_toInt a
  have h3 := Int32.toInt_lt b
  have h4 := Int32.le_toInt b
  rw [Int64.lt_iff_toInt_lt, Int64.toInt_add, Int32.toInt_toInt64, Int32.toInt_toInt64, Int32.toInt_toInt64, nI_toInt (by omega), bmod64 (M := 4294967296) (by omega) (by omega)]
theorem has_c {w : Wd} {s z : Nat} (hs : s < 4) (hz : z ≤ 60) (e : wS w 62 s = nI z) (a b : Int32) : f_X6_hasItems w (nI s) a b = some (if 0 ≤ a.toInt ∧ 0 ≤ b.toInt ∧ a.toInt + b.toInt ≤ z then 1 else 0) := by
  have o0 : (0 : Int32).toInt = 0 := by decide
  have ez : (nI z).toInt = z := nI_toInt (by omega)
  unfold f_X6_hasItems
  simp only [ld_n hs (show 4 < 2 ^ 31 by decide), e]
  by_cases h1 : a < 0
  · rw [if_pos h1, if_neg]
    rw [Int32.lt_iff_toInt_lt, o0] at h1
    omega
  rw [if_neg h1]
  rw [Int32.lt_iff_toInt_lt, o0] at h1
  by_cases h2 : b < 0
  · rw [if_pos h2, if_neg]
    rw [Int32.lt_iff_toInt_lt, o0] at h2
    omega
  rw [if_neg h2]
  rw [Int32.lt_iff_toInt_lt, o0] at h2
  by_cases h3 : nI z < b
  · rw [if_pos h3, if_neg]
    rw [Int32.lt_iff_toInt_lt, ez] at h3
    omega
  rw [if_neg h3]
  rw [Int32.lt_iff_toInt_lt, ez] at h3
  have es : (nI z - b).toInt = z - b.toInt := by
    rw [Int32.toInt_sub, ez]
    exact Int.bmod_eq_of_le (by omega) (by omega)
  by_cases h4 : nI z - b < a
  · rw [if_pos h4, if_neg]
    rw [Int32.lt_iff_toInt_lt, es] at h4
    omega
  · rw [if_neg h4, if_pos]
    rw [Int32.lt_iff_toInt_lt, es] at h4
    omega
theorem i60' (s p x : Nat) : (60 : Int32) * nI s + nI p + nI x = nI (60 * s + p + x) := by rw [i60, nI_add]
theorem l_c120 {s p r : Nat} (hs : s < 4) (hr : p + r ≤ 60) (J : Wd → Option (Int32 × Wd)) : ∀ (m i f : Nat) (v : Wd), i + m = r → m < f → (∀ j, j < i → wS v 123 j = wS v 122 (60 * s + p + j)) → ∃ v', l_X12_copy_120 (nI s) (nI p) (nI r) J f v (nI i) = J v' ∧ Fr1 123 0 60 v v' ∧ ∀ j, j < r → wS v' 123 j = wS v 122 (60 * s + p + j)
  | 0, i, f + 1, v, hi, _, h => by
    unfold l_X12_copy_120
    rw [if_pos (nI_le (show r ≤ i by omega) (by omega))]
    exact ⟨v, rfl, Fr1.refl, fun j hj => h j (by omega)⟩
  | m + 1, i, f + 1, v, hi, hf, h => by
    obtain ⟨v', a1, a2, a3⟩ := l_c120 hs hr J m (i + 1) f (sI v 123 i (wS v 122 (60 * s + p + i))) (by omega) (by omega) (fun j hj => by
      rw [wS_sI, wS_sI, if_neg (show ¬ (122 = 123 ∧ 60 * s + p + j = i) by omega)]
      by_cases q : j = i
      · rw [if_pos ⟨rfl, q⟩, q]
      · rw [if_neg (by omega)]; exact h j (by omega))
    unfold l_X12_copy_120
    rw [if_neg (nI_ge (show i < r by omega) (by omega))]
    simp only [i60', ld_n (show 60 * s + p + i < 240 by omega) (show 240 < 2 ^ 31 by decide), st_n (show i < 60 by omega) (show 60 < 2 ^ 31 by decide), q_lt, nI_1]
    refine ⟨v', a1, (Fr1.sI (by omega) (by omega)).trans a2, fun j hj => ?_⟩
    rw [a3 j hj, wS_sI, if_neg (by omega)]
theorem l_c157 {s q r : Nat} (hs : s < 4) (hr : q + r ≤ 60) : ∀ (m i f : Nat) (v : Wd), i + m = r → m < f → (∀ j, j < i → wS v 122 (60 * s + q + j) = wS v 123 j) → ∃ v', l_X12_copy_157 (nI s) (nI q) (nI r) f v (nI i) = some (1, v') ∧ Fr1 122 (60 * s + q) (60 * s + q + r) v v' ∧ ∀ j, j < r → wS v' 122 (60 * s + q + j) = wS v 123 j
  | 0, i, f + 1, v, hi, _, h => by
    unfold l_X12_copy_157
    rw [if_pos (nI_le (show r ≤ i by omega) (by omega))]
    exact ⟨v, rfl, Fr1.refl, fun j hj => h j (by omega)⟩
  | m + 1, i, f + 1, v, hi, hf, h => by
    obtain ⟨v', a1, a2, a3⟩ := l_c157 hs hr m (i + 1) f (sI v 122 (60 * s + q + i) (wS v 123 i)) (by omega) (by omega) (fun j hj => by
      rw [wS_sI, wS_sI, if_neg (show ¬ (123 = 122 ∧ j = 60 * s + q + i) by omega)]
      by_cases z : j = i
      · rw [if_pos ⟨rfl, by omega⟩, z]
      · rw [if_neg (by omega)]; exact h j (by omega))
    unfold l_X12_copy_157
    rw [if_neg (nI_ge (show i < r by omega) (by omega))]
    simp only [i60', st_n (show 60 * s + q + i < 240 by omega) (show 240 < 2 ^ 31 by decide), ld_n (show i < 60 by omega) (show 60 < 2 ^ 31 by decide), q_lt, nI_1]
    refine ⟨v', a1, (Fr1.sI (by omega) (by omega)).trans a2, fun j hj => ?_⟩
    rw [a3 j hj, wS_sI, if_neg (by omega)]
theorem wS_sC {w : Wd} {k0 k1 sp dp n a b : Nat} : wS (sC w k0 k1 sp dp n) a b = if a = k1 ∧ (dp ≤ b ∧ b < dp + n) then wS w k0 (sp + (b - dp)) else wS w a b := rfl
theorem c_copy {w v : Wd} (h : R12 w v) (a b d e g : Int32) : OK 12 R12 (f_X11_copy w a b d e g) (f_X12_copy v a b d e g) w v := by
  unfold f_X11_copy f_X6_carryOver f_X6_isSheet f_X12_copy f_X12_isSheet
  rw [in_eq]
  rcases sheet_k a with qa | ⟨qa, s, hs, rfl⟩
  · rw [qa]
    simp only [if_pos (show (0 : Int32) = 0 from rfl), bi_v]; exact OK.same h
  rw [qa]
  rcases sheet_k d with pd | ⟨pd, t, ht, rfl⟩
  · rw [pd]
    simp only [if_neg one0, if_pos (show (0 : Int32) = 0 from rfl), bi_v]; exact OK.same h
  rw [pd]
  simp only [if_neg one0]
  obtain ⟨s1, s2, ⟨zs, hzs, s3, s4⟩, s5⟩ := h.1 s hs
  obtain ⟨t1, t2, ⟨zt, hzt, t3, t4⟩, t5⟩ := h.1 t ht
  simp only [ld_n hs (show 4 < 2 ^ 31 by decide), ld_n ht (show 4 < 2 ^ 31 by decide), q_jn, f_X6_find, f_X12_finds, q_pt, bi_v, s4, t4]
  rcases s2 with ⟨x1, x2⟩ | ⟨ks, hks, x1, x2, x3⟩
  · rw [x1, x2, if_pos rfl, if_pos rfl]
    exact OK.find h 1 _
  rw [x1, x3, if_neg (nI_m1 (q := ks) (by omega)), if_neg one0]
  rcases t2 with ⟨y1, y2⟩ | ⟨kt, hkt, y1, y2, y3⟩
  · rw [y1, y2, if_pos rfl, if_pos rfl]
    exact OK.find h 1 _
  rw [y1, y3, if_neg (nI_m1 (q := kt) (by omega)), if_neg one0, x2, y2]
  by_cases f : nI ks = nI kt
  rotate_left
  · rw [if_neg f, if_neg f]
    exact OK.find h 4 _
  rw [if_pos f, if_pos f, has_c hs hzs s3, has_c ht hzt t3]
  simp only [bo_v, (lg_gt _ _).1, (lg_gt _ _).2, sum64 _ _ (show zs < 1000 by omega), sum64 _ _ (show zt < 1000 by omega)]
  have o0 : (0 : Int32).toInt = 0 := by decide
  have iff0 : ∀ x : Int32, x < 0 ↔ x.toInt < 0 := fun x => by rw [Int32.lt_iff_toInt_lt, o0]
  have fin : ∀ (c1 c2 : Prop) [Decidable c1] [Decidable c2], True := fun _ _ _ _ => trivial
  by_cases g1 : 0 ≤ b.toInt ∧ 0 ≤ g.toInt ∧ b.toInt + g.toInt ≤ zs
  rotate_left
  · rw [if_neg g1, if_pos rfl]
    have r : (if b < 0 then some ((-10 : Int32) - 2, sI v 63 83 2) else if e < 0 then some ((-10 : Int32) - 2, sI v 63 83 2) else if g < 0 then some ((-10 : Int32) - 2, sI v 63 83 2) else if (zs : Int) < b.toInt + g.toInt then some ((-10 : Int32) - 2, sI v 63 83 2) else if ¬ (zt : Int) < e.toInt + g.toInt then l_X12_copy_120 (nI s) b g (fun w_154j => l_X12_copy_157 (nI t) e g FU w_154j 0) FU v 0 else some ((-10 : Int32) - 2, sI v 63 83 2)) = some ((-10 : Int32) - 2, sI v 63 83 2) := by
      by_cases z1 : b < 0
      · rw [if_pos z1]
      rw [if_neg z1]
      by_cases z2 : e < 0
      · rw [if_pos z2]
      rw [if_neg z2]
      by_cases z3 : g < 0
      · rw [if_pos z3]
      rw [if_neg z3, if_pos]
      rw [iff0] at z1 z3
      omega
    rw [r]
    exact OK.find h 2 _
  rw [if_pos g1, if_neg one0]
  by_cases g2 : 0 ≤ e.toInt ∧ 0 ≤ g.toInt ∧ e.toInt + g.toInt ≤ zt
  rotate_left
  · rw [if_neg g2, if_pos rfl]
    have r : (if b < 0 then some ((-10 : Int32) - 2, sI v 63 83 2) else if e < 0 then some ((-10 : Int32) - 2, sI v 63 83 2) else if g < 0 then some ((-10 : Int32) - 2, sI v 63 83 2) else if (zs : Int) < b.toInt + g.toInt then some ((-10 : Int32) - 2, sI v 63 83 2) else if ¬ (zt : Int) < e.toInt + g.toInt then l_X12_copy_120 (nI s) b g (fun w_154j => l_X12_copy_157 (nI t) e g FU w_154j 0) FU v 0 else some ((-10 : Int32) - 2, sI v 63 83 2)) = some ((-10 : Int32) - 2, sI v 63 83 2) := by
      by_cases z1 : b < 0
      · rw [if_pos z1]
      rw [if_neg z1]
      by_cases z2 : e < 0
      · rw [if_pos z2]
      rw [if_neg z2]
      by_cases z3 : g < 0
      · rw [if_pos z3]
      rw [if_neg z3]
      by_cases z4 : (zs : Int) < b.toInt + g.toInt
      · rw [if_pos z4]
      rw [if_neg z4, if_neg]
      rw [iff0] at z2 z3
      omega
    rw [r]
    exact OK.find h 2 _
  rw [if_pos g2, if_neg one0]
  obtain ⟨b1, b2, b3⟩ := g1
  obtain ⟨e1, -, e3⟩ := g2
  obtain ⟨p, hp, rfl⟩ := bt_ex (n := 60) (x := b) ⟨b1, by omega⟩ (by decide)
  obtain ⟨q, hq, rfl⟩ := bt_ex (n := 60) (x := e) ⟨e1, by omega⟩ (by decide)
  obtain ⟨r, hr, rfl⟩ := bt_ex (n := 60) (x := g) ⟨b2, by omega⟩ (by decide)
  rw [nI_toInt (by omega), nI_toInt (by omega)] at b3 e3
  rw [if_neg (nI_pos (by omega)), if_neg (nI_pos (by omega)), if_neg (nI_pos (by omega)), if_neg (by rw [nI_toInt (by omega), nI_toInt (by omega)]; omega), if_pos (by rw [nI_toInt (by omega), nI_toInt (by omega)]; omega)]
  obtain ⟨v1, k1, k2, k3⟩ := l_c120 hs (show p + r ≤ 60 by omega) (fun w_154j => l_X12_copy_157 (nI t) (nI q) (nI r) FU w_154j 0) r 0 FU v (by omega) (by unfold FU; omega) (fun j hj => absurd hj (Nat.not_lt_zero j))
  obtain ⟨v2, m1, m2, m3⟩ := l_c157 ht (show q + r ≤ 60 by omega) r 0 FU v1 (by omega) (by unfold FU; omega) (fun j hj => absurd hj (Nat.not_lt_zero j))
  rw [nI_0] at k1 m1
  rw [k1, m1]
  simp only [ldq_n hs (show 4 < 2 ^ 31 by decide) s1, ldq_n ht (show 4 < 2 ^ 31 by decide) t1, rt_56]
  unfold q_cp
  rw [nI_clamp (by omega), nI_clamp (by omega), nI_clamp (by omega), if_neg (by
    have n1 := nI_pos (n := p) (by omega)
    have n2 := nI_pos (n := q) (by omega)
    have n3 := nI_pos (n := r) (by omega)
    rintro ((z | z | z) | z | z)
    · exact n1 z
    · exact n2 z
    · exact n3 z
    · omega
    · omega)]
  have o1 : only 12 v v1 := k2.only (fun j => Or.inr rfl)
  have o2 : only 12 v1 v2 := m2.only (fun j => Or.inl rfl)
  have f63 : ∀ k j, k ≠ 122 → k ≠ 123 → wS v2 k j = wS v k j := fun k j z1 z2 => ((m2.1 k j (by omega)).1).trans (k2.1 k j (by omega)).1
  refine ⟨_, _, _, rfl, rfl, ⟨fun u hu => ?_, ?_⟩, ?_, o1.trans o2, ?_, (k2.mm (by decide) (by decide)).trans (m2.mm (by decide) (by decide)), fun _ => rfl, k2.2.trans m2.2⟩
  · obtain ⟨u1, u2, u3, u5⟩ := h.1 u hu
    refine ⟨?_, ?_, ?_, fun i hi => ?_⟩
    · rw [wS_sC, if_neg (by omega)]; exact u1
    · rw [wS_sC, if_neg (by omega), f63 119 u (by decide) (by decide), f63 120 u (by decide) (by decide)]; exact u2
    · rw [wS_sC, if_neg (by omega), f63 121 u (by decide) (by decide)]; exact u3
    · rw [wS_sC]
      by_cases z : 57 + u = 57 + t ∧ (q ≤ i ∧ i < q + r)
      · rw [if_pos z]
        have hut : u = t := by omega
        subst hut
        have := m3 (i - q) (by omega)
        rw [show 60 * u + q + (i - q) = 60 * u + i by omega] at this
        rw [this, k3 (i - q) (by omega), s5 (p + (i - q)) (by omega), Nat.add_assoc]
      · rw [if_neg z, (m2.1 122 (60 * u + i) (by omega)).1, (k2.1 122 (60 * u + i) (by omega)).1]
        exact u5 i hi
  · rw [wS_sC, if_neg (by omega), f63 63 83 (by decide) (by decide)]; exact h.2
  · intro x h0 h12 k j hk
    by_cases z : k = 57 + t
    · rw [z, Ar_57 ht] at hk
      exact absurd hk.symm h12
    · exact ⟨by rw [wS_sC, if_neg (by omega)], rfl⟩
  · intro k j y1 y2
    rw [wS_sC, if_neg (by omega)]
/-! measure: one house more -/
def MP (w v w1 v1 : Wd) : Prop := R1 w1 v1 ∧ R12 w1 v1 ∧ only 1 w w1 ∧ only 1 v v1 ∧ cm w w1 ∧ mm v v1 ∧ am v v1 ∧ (∀ k, (k < 300 ∨ 320 ≤ k) → wA w1 k = wA w k) ∧ ∀ i, i < 20 → (wS w1 2 4).toNatClampNeg ≤ i → wA w1 (300 + i) = 0
theorem MP.trans {w v w1 v1 w2 v2 : Wd} (h : MP w v w1 v1) (g : MP w1 v1 w2 v2) : MP w v w2 v2 := by
  obtain ⟨-, -, h3, h4, h5, h6, h7, h8, -⟩ := h
  obtain ⟨g1, g2, g3, g4, g5, g6, g7, g8, g9⟩ := g
  exact ⟨g1, g2, h3.trans g3, h4.trans g4, h5.trans g5, h6.trans g6, h7.trans g7, fun k hk => (g8 k hk).trans (h8 k hk), g9⟩
/-- one level of the class's unrolled loop -/
def lv (a1 L i0 i1 i2 i3 i4 i5 i6 c : Int32) (N : Wd → Option (Int32 × Wd)) (w : Wd) : Option (Int32 × Wd) :=
q_ld w 62 4 a1 (fun v_24 =>
if v_24 < L then
some (c, w)
else
q_ldq w 56 4 a1 (fun q_43 =>
q_ld w q_43 60 i0 (fun v_51 =>
q_ld w q_43 60 i1 (fun v_58 =>
q_ld w q_43 60 i2 (fun v_65 =>
q_ld w q_43 60 i3 (fun v_72 =>
q_ld w q_43 60 i4 (fun v_79 =>
q_ld w q_43 60 i5 (fun v_86 =>
q_ld w q_43 60 i6 (fun v_94 =>
q_bi (f_X8_addHouse w v_51 v_58 v_65 v_72 v_79 v_86 v_94) (fun v_95 w_95 =>
if 0 ≤ v_95 then
N w_95
else
some (c, w_95)))))))))))
theorem lv_s {w v : Wd} (h1 : R1 w v) (h12 : R12 w v) (hA : ∀ i, i < 20 → (wS w 2 4).toNatClampNeg ≤ i → wA w (300 + i) = 0) {s k f : Nat} (hs : s < 4) (hk : k < 8) {L i0 i1 i2 i3 i4 i5 i6 c : Int32} (eL : L = nI (7 * k + 7)) (e0 : i0 = nI (7 * k)) (e1 : i1 = nI (7 * k + 1)) (e2 : i2 = nI (7 * k + 2)) (e3 : i3 = nI (7 * k + 3)) (e4 : i4 = nI (7 * k + 4)) (e5 : i5 = nI (7 * k + 5)) (e6 : i6 = nI (7 * k + 6)) (ec : c = nI k) (N : Wd → Option (Int32 × Wd))
    (next : ∀ w1 v1, MP w v w1 v1 → ∃ r w2 v2, N w1 = some (r, w2) ∧ l_X12_measure_29 (nI s) f v1 (nI (k + 1)) (nI (k + 1)) = some (r, v2) ∧ MP w1 v1 w2 v2) :
    ∃ r w2 v2, lv (nI s) L i0 i1 i2 i3 i4 i5 i6 c N w = some (r, w2) ∧ l_X12_measure_29 (nI s) (f + 1) v (nI k) (nI k) = some (r, v2) ∧ MP w v w2 v2 := by
  obtain ⟨s1, s2, ⟨z, hz, s3, s4⟩, s5⟩ := h12.1 s hs
  subst eL e0 e1 e2 e3 e4 e5 e6 ec
  have e7 : (7 : Int32) * nI k = nI (7 * k) := (Int32.ofNat_mul 7 k).symm
  have m0 : MP w v w v := ⟨h1, h12, only.refl, only.refl, cm.refl, mm.refl, am.refl, fun _ _ => rfl, hA⟩
  unfold lv
  rw [l_X12_measure_29]
  simp only [ld_n hs (show 4 < 2 ^ 31 by decide), s3, s4, e7, show ∀ a b : Nat, nI a + nI b = nI (a + b) from nI_add, show nI (7 * k) + (6 : Int32) = nI (7 * k + 6) from nI_add _ 6]
  by_cases g : z < 7 * k + 7
  · rw [if_pos (nI_lt g (by omega)), if_pos (nI_le (by omega) (by omega))]
    exact ⟨_, w, v, rfl, rfl, m0⟩
  rw [if_neg (fun y => g ((nI_ltI (by omega) (by omega)).mp y)), if_neg (nI_ge (by omega) (by omega))]
  have b : ∀ j, j < 7 → (nI (60 * s + 7 * k)) + nI j = nI (60 * s + (7 * k + j)) := fun j _ => by rw [nI_add, Nat.add_assoc]
  have b1 : nI (60 * s + 7 * k) + (1 : Int32) = nI (60 * s + (7 * k + 1)) := b 1 (by decide)
  have b2 : nI (60 * s + 7 * k) + (2 : Int32) = nI (60 * s + (7 * k + 2)) := b 2 (by decide)
  have b3 : nI (60 * s + 7 * k) + (3 : Int32) = nI (60 * s + (7 * k + 3)) := b 3 (by decide)
  have b4 : nI (60 * s + 7 * k) + (4 : Int32) = nI (60 * s + (7 * k + 4)) := b 4 (by decide)
  have b5 : nI (60 * s + 7 * k) + (5 : Int32) = nI (60 * s + (7 * k + 5)) := b 5 (by decide)
  have b6 : nI (60 * s + 7 * k) + (6 : Int32) = nI (60 * s + (7 * k + 6)) := b 6 (by decide)
  simp only [q_lt, i60, ldq_n hs (show 4 < 2 ^ 31 by decide) s1, rt_56, b1, b2, b3, b4, b5, b6,
    ld_n (show 7 * k < 60 by omega) (show 60 < 2 ^ 31 by decide), ld_n (show 7 * k + 1 < 60 by omega) (show 60 < 2 ^ 31 by decide), ld_n (show 7 * k + 2 < 60 by omega) (show 60 < 2 ^ 31 by decide), ld_n (show 7 * k + 3 < 60 by omega) (show 60 < 2 ^ 31 by decide), ld_n (show 7 * k + 4 < 60 by omega) (show 60 < 2 ^ 31 by decide), ld_n (show 7 * k + 5 < 60 by omega) (show 60 < 2 ^ 31 by decide), ld_n (show 7 * k + 6 < 60 by omega) (show 60 < 2 ^ 31 by decide),
    ld_n (show 60 * s + 7 * k < 240 by omega) (show 240 < 2 ^ 31 by decide), ld_n (show 60 * s + (7 * k + 1) < 240 by omega) (show 240 < 2 ^ 31 by decide), ld_n (show 60 * s + (7 * k + 2) < 240 by omega) (show 240 < 2 ^ 31 by decide), ld_n (show 60 * s + (7 * k + 3) < 240 by omega) (show 240 < 2 ^ 31 by decide), ld_n (show 60 * s + (7 * k + 4) < 240 by omega) (show 240 < 2 ^ 31 by decide), ld_n (show 60 * s + (7 * k + 5) < 240 by omega) (show 240 < 2 ^ 31 by decide), ld_n (show 60 * s + (7 * k + 6) < 240 by omega) (show 240 < 2 ^ 31 by decide)]
  rw [s5 (7 * k) (by omega), s5 (7 * k + 1) (by omega), s5 (7 * k + 2) (by omega), s5 (7 * k + 3) (by omega), s5 (7 * k + 4) (by omega), s5 (7 * k + 5) (by omega), s5 (7 * k + 6) (by omega)]
  obtain ⟨r, w1, v1, k1, k2, k3, k4, k5, k6, k7, k8, k9, k10⟩ := c_addHouse h1 hA (wS v 122 (60 * s + 7 * k)) (wS v 122 (60 * s + (7 * k + 1))) (wS v 122 (60 * s + (7 * k + 2))) (wS v 122 (60 * s + (7 * k + 3))) (wS v 122 (60 * s + (7 * k + 4))) (wS v 122 (60 * s + (7 * k + 5))) (wS v 122 (60 * s + (7 * k + 6)))
  have m1 : MP w v w1 v1 := ⟨k3, h12.fr (k4 12 (by decide) (by decide)) (k5 12 (by decide) (by decide)), k4, k5, k6, k7, k8, k9, k10⟩
  rw [k1, k2]
  simp only [bi_v, nI_1]
  by_cases hr : 0 ≤ r
  · rw [if_pos hr, if_pos hr]
    obtain ⟨r2, w2, v2, n1, n2, n3⟩ := next w1 v1 m1
    rw [n1, n2]
    exact ⟨r2, w2, v2, rfl, rfl, m1.trans n3⟩
  · rw [if_neg hr, if_neg hr]
    exact ⟨_, w1, v1, rfl, rfl, m1⟩
theorem build_lv {w : Wd} {a1 : Int32} (h : f_X6_isSheet a1 = 1) : f_X6_buildHouses w a1 = lv a1 7 0 1 2 3 4 5 6 0 (lv a1 14 7 8 9 10 11 12 13 1 (lv a1 21 14 15 16 17 18 19 20 2 (lv a1 28 21 22 23 24 25 26 27 3 (lv a1 35 28 29 30 31 32 33 34 4 (lv a1 42 35 36 37 38 39 40 41 5 (lv a1 49 42 43 44 45 46 47 48 6 (lv a1 56 49 50 51 52 53 54 55 7 (fun w_95_8 => q_ld w_95_8 62 4 a1 (fun v_24 => if v_24 < (63 : Int32) then some ((8 : Int32), w_95_8) else some ((8 : Int32), w_95_8)))))))))) w := by
  unfold f_X6_buildHouses lv
  rw [h, if_neg one0]
theorem c_measure {w v : Wd} (h1 : R1 w v) (h12 : R12 w v) (hA : ∀ i, i < 20 → (wS w 2 4).toNatClampNeg ≤ i → wA w (300 + i) = 0) (a : Int32) :
    ∃ r w1 v1, f_X11_measure w a = some (r, w1) ∧ f_X12_measure v a = some (r, v1) ∧ R1 w1 v1 ∧ R12 w1 v1 ∧ (∀ b, b ≠ 0 → b ≠ 1 → b ≠ 12 → sm b w w1) ∧ (∀ b, b ≠ 0 → b ≠ 1 → b ≠ 12 → sm b v v1) ∧ cm w w1 ∧ mm v v1 ∧ am v v1 ∧ (∀ k, (k < 300 ∨ 320 ≤ k) → wA w1 k = wA w k) ∧ ∀ i, i < 20 → (wS w1 2 4).toNatClampNeg ≤ i → wA w1 (300 + i) = 0 := by
  unfold f_X11_measure f_X6_refusalOf f_X12_measure f_X12_isSheet
  rw [in_eq]
  rcases sheet_k a with q | ⟨q, s, hs, rfl⟩
  · have q' : f_X6_isSheet a = 0 := q
    rw [q, q']
    simp only [if_pos (show (0 : Int32) = 0 from rfl), bi_v, if_neg (show ¬ (-2 : Int32) = 0 by decide)]
    exact ⟨_, w, v, rfl, rfl, h1, h12, fun _ _ _ _ => sm.refl, fun _ _ _ _ => sm.refl, cm.refl, mm.refl, am.refl, fun _ _ => rfl, hA⟩
  have q' : f_X6_isSheet (nI s) = 1 := q
  rw [q, q']
  obtain ⟨g1, g2, ⟨z, hz, z1, z2⟩, g4⟩ := h12.1 s hs
  simp only [if_neg one0, ld_n hs (show 4 < 2 ^ 31 by decide)]
  rcases g2 with ⟨x1, x2⟩ | ⟨k, hk, x1, x2, x3⟩
  · rw [x1, x2, if_pos rfl, if_pos rfl]
    have O := OK.find h12 1 (-10 - 1)
    obtain ⟨r, w1, v1, o1, o2, o3, o4, o5, o6, o7, o8, o9⟩ := O
    have ew : sI w 9 3 1 = w1 := (Prod.mk.inj (Option.some.inj o1)).2
    have ev : sI v 63 83 1 = v1 := (Prod.mk.inj (Option.some.inj o2)).2
    refine ⟨-10 - 1, sI w 9 3 1, sI v 63 83 1, rfl, rfl, ?_, h12.find 1, ?_, ?_, cm.sI (by decide), mm.sI (by decide) (by decide), am.sI, fun _ _ => rfl, fun i a b => hA i a (by rw [wS_sI, if_neg (by omega)] at b; exact b)⟩
    · rw [ew, ev]; exact h1.fr (o4 1 (by decide) (by decide)) (o5 1 (by decide) (by decide))
    · rw [ew]; exact fun b h0 _ h => o4 b h0 h
    · rw [ev]; exact fun b h0 _ h => o5 b h0 h
  · rw [x1, x3, if_neg (nI_m1 (q := k) (by omega)), if_neg one0]
    simp only [bi_v, if_pos (show (0 : Int32) = 0 from rfl)]
    have M : ∃ r w2 v2, f_X6_buildHouses w (nI s) = some (r, w2) ∧ l_X12_measure_29 (nI s) (999991 + 8 + 1) v (nI 0) (nI 0) = some (r, v2) ∧ MP w v w2 v2 := by
      rw [build_lv q']
      have fr : ∀ {a b a' b' : Wd}, MP a b a' b' → R1 a' b' ∧ R12 a' b' ∧ ∀ i, i < 20 → (wS a' 2 4).toNatClampNeg ≤ i → wA a' (300 + i) = 0 := fun m => ⟨m.1, m.2.1, m.2.2.2.2.2.2.2.2⟩
      refine lv_s h1 h12 hA hs (k := 0) (by decide) rfl rfl rfl rfl rfl rfl rfl rfl rfl _ (fun a b m => ?_)
      refine lv_s (fr m).1 (fr m).2.1 (fr m).2.2 hs (k := 1) (by decide) rfl rfl rfl rfl rfl rfl rfl rfl rfl _ (fun a b m => ?_)
      refine lv_s (fr m).1 (fr m).2.1 (fr m).2.2 hs (k := 2) (by decide) rfl rfl rfl rfl rfl rfl rfl rfl rfl _ (fun a b m => ?_)
      refine lv_s (fr m).1 (fr m).2.1 (fr m).2.2 hs (k := 3) (by decide) rfl rfl rfl rfl rfl rfl rfl rfl rfl _ (fun a b m => ?_)
      refine lv_s (fr m).1 (fr m).2.1 (fr m).2.2 hs (k := 4) (by decide) rfl rfl rfl rfl rfl rfl rfl rfl rfl _ (fun a b m => ?_)
      refine lv_s (fr m).1 (fr m).2.1 (fr m).2.2 hs (k := 5) (by decide) rfl rfl rfl rfl rfl rfl rfl rfl rfl _ (fun a b m => ?_)
      refine lv_s (fr m).1 (fr m).2.1 (fr m).2.2 hs (k := 6) (by decide) rfl rfl rfl rfl rfl rfl rfl rfl rfl _ (fun a b m => ?_)
      refine lv_s (fr m).1 (fr m).2.1 (fr m).2.2 hs (k := 7) (by decide) rfl rfl rfl rfl rfl rfl rfl rfl rfl _ (fun a b m => ?_)
      obtain ⟨n1, n2, ⟨zz, y1, y2, y3⟩, n4⟩ := (fr m).2.1.1 s hs
      have e62 : (7 : Int32) * nI (7 + 1) + 6 = nI 62 := by decide
      refine ⟨8, a, b, ?_, ?_, ⟨(fr m).1, (fr m).2.1, only.refl, only.refl, cm.refl, mm.refl, am.refl, fun _ _ => rfl, (fr m).2.2⟩⟩
      · simp only [ld_n hs (show 4 < 2 ^ 31 by decide)]
        by_cases t : wS a 62 s < 63
        · rw [if_pos t]
        · rw [if_neg t]
      · rw [l_X12_measure_29]
        simp only [ld_n hs (show 4 < 2 ^ 31 by decide), y3, e62, if_pos (nI_le (show zz ≤ 62 by omega) (show 62 < 2 ^ 31 by decide))]
        rfl
    obtain ⟨r, w2, v2, m1, m2, m3, m4, m5, m6, m7, m8, m9, m10, m11⟩ := M
    rw [nI_0] at m2
    rw [m1]
    simp only [bi_v]
    exact ⟨r, w2, v2, rfl, m2, m3, m4, fun b h0 h _ => m5 b h0 h, fun b h0 h _ => m6 b h0 h, m7, m8, m9, m10, m11⟩
