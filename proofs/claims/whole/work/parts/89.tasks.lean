/-! ===== tasks: the day's sharing out ===== -/
theorem or_and1 (x y : Int32) : (x ||| y) &&& 1 = (x &&& 1) ||| (y &&& 1) := Int32.toBitVec_inj.mp (BitVec.eq_of_getLsbD_eq (fun i hi => by
  rw [Int32.toBitVec_and, Int32.toBitVec_or, Int32.toBitVec_or, Int32.toBitVec_and, Int32.toBitVec_and, BitVec.getLsbD_and, BitVec.getLsbD_or, BitVec.getLsbD_or, BitVec.getLsbD_and, BitVec.getLsbD_and, Bool.and_or_distrib_right]))
theorem or1_ne (a : Int32) : ¬ (a ||| 1) = 0 := fun h => by
  have k := congrArg (fun x : Int32 => x.toBitVec.getLsbD 0) h
  simp only [Int32.toBitVec_or, BitVec.getLsbD_or] at k
  have e1 : (1 : Int32).toBitVec.getLsbD 0 = true := by decide
  have e0 : (0 : Int32).toBitVec.getLsbD 0 = false := by decide
  rw [e1, e0, Bool.or_true] at k
  exact absurd k (by decide)
def bq (x : Int32) (i : Nat) : Int32 := (x >>> (nI i &&& 31)) &&& 1
theorem bq_t : ∀ i b : Fin 12, bq ((1 : Int32) <<< (nI b.val &&& 31)) i.val = if i.val = b.val then 1 else 0 := by decide +kernel
theorem bq_or {x : Int32} {i b : Nat} (hi : i < 12) (hb : b < 12) : bq (x ||| ((1 : Int32) <<< (nI b &&& 31))) i = 0 ↔ (bq x i = 0 ∧ i ≠ b) := by
  have e : bq (x ||| ((1 : Int32) <<< (nI b &&& 31))) i = bq x i ||| (if i = b then 1 else 0) := by
    rw [← show bq ((1 : Int32) <<< (nI b &&& 31)) i = if i = b then 1 else 0 from bq_t ⟨i, hi⟩ ⟨b, hb⟩]
    unfold bq
    rw [Int32.shiftRight_or, or_and1]
  rw [e]
  by_cases k : i = b
  · rw [if_pos k]
    exact ⟨fun z => absurd z (or1_ne _), fun z => absurd k z.2⟩
  · rw [if_neg k, Int32.or_zero]
    exact ⟨fun z => ⟨z, k⟩, fun z => z.1⟩
theorem bq_0 : ∀ i : Fin 12, bq 0 i.val = 0 := by decide +kernel
def ct (g : Nat → Int32) : Nat → Nat
  | 0 => 0
  | n + 1 => ct g n + (if g n = 0 then 0 else 1)
theorem ct_le (g : Nat → Int32) : ∀ n, ct g n ≤ n
  | 0 => Nat.le_refl _
  | n + 1 => by
    have := ct_le g n
    unfold ct
    by_cases h : g n = 0
    · rw [if_pos h]; omega
    · rw [if_neg h]; omega
theorem ct_ex {g : Nat → Int32} : ∀ {n : Nat}, ct g n < n → ∃ i, i < n ∧ g i = 0
  | 0, h => absurd h (Nat.not_lt_zero _)
  | n + 1, h => by
    by_cases k : g n = 0
    · exact ⟨n, by omega, k⟩
    · unfold ct at h
      rw [if_neg k] at h
      obtain ⟨i, hi, e⟩ := ct_ex (show ct g n < n by omega)
      exact ⟨i, by omega, e⟩
theorem ct_all {g : Nat → Int32} : ∀ {n : Nat}, ct g n = n → ∀ i, i < n → g i ≠ 0
  | 0, _, i, hi => absurd hi (Nat.not_lt_zero _)
  | n + 1, h, i, hi => by
    have := ct_le g n
    unfold ct at h
    by_cases k : g n = 0
    · rw [if_pos k] at h; omega
    · rw [if_neg k] at h
      by_cases q : i = n
      · rw [q]; exact k
      · exact ct_all (show ct g n = n by omega) i (by omega)
theorem ct_0 {g : Nat → Int32} : ∀ {n : Nat}, (∀ i, i < n → g i = 0) → ct g n = 0
  | 0, _ => rfl
  | n + 1, h => by
    unfold ct
    rw [if_pos (h n (by omega)), ct_0 (fun i hi => h i (by omega))]
theorem ct_eq {g g' : Nat → Int32} : ∀ {n : Nat}, (∀ i, i < n → g' i = g i) → ct g' n = ct g n
  | 0, _ => rfl
  | n + 1, h => by
    unfold ct
    rw [h n (by omega), ct_eq (fun i hi => h i (by omega))]
theorem ct_set {g g' : Nat → Int32} {j : Nat} (h0 : g j = 0) (h1 : g' j ≠ 0) (h2 : ∀ i, i ≠ j → g' i = g i) : ∀ {n : Nat}, j < n → ct g' n = ct g n + 1
  | 0, h => absurd h (Nat.not_lt_zero _)
  | n + 1, h => by
    unfold ct
    by_cases k : j = n
    · subst k
      rw [if_pos h0, if_neg h1, ct_eq (g := g) (g' := g') (fun i hi => h2 i (by omega))]
    · rw [h2 n (fun z => k z.symm), ct_set h0 h1 h2 (show j < n by omega)]
      omega
/-- tasks, crews -/
def M10 (w v : Wd) (n c : Nat) : Prop := n ≤ 12 ∧ wS w 7 2 = nI n ∧ wS v 63 68 = nI n ∧ (∀ i, i < n → T10 w v i) ∧ wS w 7 3 = nI c ∧ wS v 63 72 = nI c ∧ 1 ≤ c ∧ c ≤ 4
def FrT (w w' : Wd) : Prop := (∀ p j, ¬ (52 ≤ p ∧ p ≤ 54) → wS w' p j = wS w p j ∧ wL w' p j = wL w p j) ∧ am w w'
def FrU (v v' : Wd) : Prop := (∀ p j, ¬ (116 ≤ p ∧ p ≤ 117) → wS v' p j = wS v p j ∧ wL v' p j = wL v p j) ∧ am v v'
theorem FrT.refl {w : Wd} : FrT w w := ⟨fun _ _ _ => ⟨rfl, rfl⟩, am.refl⟩
theorem FrU.refl {w : Wd} : FrU w w := ⟨fun _ _ _ => ⟨rfl, rfl⟩, am.refl⟩
theorem FrT.trans {u v w : Wd} (h : FrT u v) (g : FrT v w) : FrT u w := ⟨fun p j a => ⟨(g.1 p j a).1.trans (h.1 p j a).1, (g.1 p j a).2.trans (h.1 p j a).2⟩, h.2.trans g.2⟩
theorem FrU.trans {u v w : Wd} (h : FrU u v) (g : FrU v w) : FrU u w := ⟨fun p j a => ⟨(g.1 p j a).1.trans (h.1 p j a).1, (g.1 p j a).2.trans (h.1 p j a).2⟩, h.2.trans g.2⟩
theorem FrT.sI {w : Wd} {k j : Nat} {x : Int32} (h : 52 ≤ k ∧ k ≤ 54) : FrT w (sI w k j x) := ⟨fun p q a => ⟨by rw [wS_sI, if_neg (by omega)], rfl⟩, am.sI⟩
theorem FrU.sI {w : Wd} {k j : Nat} {x : Int32} (h : 116 ≤ k ∧ k ≤ 117) : FrU w (sI w k j x) := ⟨fun p q a => ⟨by rw [wS_sI, if_neg (by omega)], rfl⟩, am.sI⟩
theorem FrT.sFr {w : Wd} {k n : Nat} {x : Int32} (h : 52 ≤ k ∧ k ≤ 54) : FrT w (sFr w k 0 n x) := ⟨fun p q a => ⟨by rw [wS_sFr, if_neg (by omega)], rfl⟩, fun _ => rfl⟩
theorem FrT.only {w w' : Wd} (h : FrT w w') : only 0 w w' := fun b h0 _ p j hp => h.1 p j (fun z => by
  obtain rfl | rfl | rfl : p = 52 ∨ p = 53 ∨ p = 54 := by omega
  all_goals exact h0 (hp.symm.trans rfl))
theorem FrU.only {w w' : Wd} (h : FrU w w') : only 0 w w' := fun b h0 _ p j hp => h.1 p j (fun z => by
  obtain rfl | rfl : p = 116 ∨ p = 117 := by omega
  all_goals exact h0 (hp.symm.trans rfl))
theorem FrT.cm {w w' : Wd} (h : FrT w w') : cm w w' := fun p j h1 h2 => (h.1 p j (by omega)).1
theorem FrU.mm {w w' : Wd} (h : FrU w w') : mm w w' := fun p j h1 => h.1 p j (by omega)
theorem M10.TU {w v w' v' : Wd} {n c : Nat} (h : M10 w v n c) (f : FrT w w') (g : FrU v v') : M10 w' v' n c := by
  obtain ⟨h1, h2, h3, h4, h5, h6, h7, h8⟩ := h
  refine ⟨h1, ((f.1 7 2 (by decide)).1).trans h2, ((g.1 63 68 (by decide)).1).trans h3, fun i hi => ?_, ((f.1 7 3 (by decide)).1).trans h5, ((g.1 63 72 (by decide)).1).trans h6, h7, h8⟩
  unfold T10
  rw [(f.1 50 i (by decide)).1, (f.1 51 i (by decide)).1, (g.1 114 i (by decide)).1, (g.1 115 i (by decide)).1]
  exact h4 i hi
theorem R10.M {w v : Wd} (h : R10 w v) : ∃ n c, M10 w v n c := by
  obtain ⟨n, hn, e1, e2, hh, c1, c2⟩ := h
  obtain ⟨c, hc, ec⟩ := bt_ex (n := 4) (⟨by have := c2.1; omega, c2.2⟩ : bt 0 4 (wS w 7 3)) (by decide)
  refine ⟨n, c, hn, e1, e2, hh, ec, by rw [← c1, ec], ?_, hc⟩
  have := c2.1
  rw [ec, nI_toInt (by omega)] at this
  omega
/-- half-way through the sharing out -/
def TQ (w v : Wd) (n k : Nat) (dn : Int32) : Prop := (∀ j, j < 4 → wS w 54 j = wS v 117 j) ∧ (∀ i, i < n → wS w 53 i ≠ 0 → wS w 52 i = wS v 116 i) ∧ (∀ i, i < n → (bq dn i = 0 ↔ wS w 53 i = 0)) ∧ ct (wS w 53) n = k
theorem l_next {w v : Wd} {n c k : Nat} {dn : Int32} (h : M10 w v n c) (q : TQ w v n k dn) (J : Int32 → Option Wd) : ∀ (m i f : Nat) (x y z : Int32), i + m = n → m < f →
    ((x = 0 ∧ y = 2001 ∧ z = -1 ∧ ∀ j, j < i → wS w 53 j ≠ 0) ∨ ∃ b, b < n ∧ wS w 53 b = 0 ∧ x = nI b ∧ y = wS w 51 b ∧ z = nI b) →
    ∃ x' z', l_X9_nextTask_8 w f (nI i) y x = some x' ∧ l_X12_works_37 dn v J f (nI i) z = J z' ∧ ((z' = -1 ∧ ∀ j, j < n → wS w 53 j ≠ 0) ∨ ∃ b, b < n ∧ wS w 53 b = 0 ∧ x' = nI b ∧ z' = nI b)
  | 0, i, f + 1, x, y, z, hi, _, hr => by
    obtain ⟨h1, h2, h3, -⟩ := id h
    unfold l_X9_nextTask_8 l_X12_works_37
    simp only [q_gt, h2, h3, if_pos (nI_le (show n ≤ i by omega) (by omega))]
    refine ⟨x, z, rfl, rfl, ?_⟩
    rcases hr with ⟨-, -, r3, r4⟩ | ⟨b, b1, b2, b3, -, b4⟩
    · exact Or.inl ⟨r3, fun j hj => r4 j (by omega)⟩
    · exact Or.inr ⟨b, b1, b2, b3, b4⟩
  | m + 1, i, f + 1, x, y, z, hi, hf, hr => by
    obtain ⟨h1, h2, h3, h4, -⟩ := id h
    have hi12 : i < 12 := by omega
    obtain ⟨⟨-, -⟩, t1, t2⟩ := h4 i (by omega)
    unfold l_X9_nextTask_8 l_X12_works_37
    simp only [q_gt, q_lt, q_jn, h2, h3, if_neg (nI_ge (show i < n by omega) (by omega)), ld_n hi12 (show 12 < 2 ^ 31 by decide), nI_1]
    have eb := q.2.2.1 i (by omega)
    unfold bq at eb
    by_cases k : wS w 53 i = 0
    · rw [if_pos k, if_pos (eb.mpr k)]
      rcases hr with ⟨rfl, rfl, rfl, r4⟩ | ⟨b, b1, b2, rfl, rfl, rfl⟩
      · have n1 : ¬ (2001 : Int32) ≤ wS w 51 i := fun z => by
          rw [Int32.le_iff_toInt_le] at z
          have := t2.2
          have e : (2001 : Int32).toInt = 2001 := by decide
          omega
        rw [if_neg n1, if_pos rfl]
        exact l_next h q J m (i + 1) f _ _ _ (by omega) (by omega) (Or.inr ⟨i, by omega, k, rfl, rfl, rfl⟩)
      · obtain ⟨⟨-, -⟩, u1, u2⟩ := h4 b b1
        rw [if_neg (nI_m1 (q := b) (by omega)), ld_n (show b < 12 by omega) (show 12 < 2 ^ 31 by decide), ← t1, ← u1]
        by_cases g : wS w 51 b ≤ wS w 51 i
        · rw [if_pos g, if_pos g]
          exact l_next h q J m (i + 1) f _ _ _ (by omega) (by omega) (Or.inr ⟨b, b1, b2, rfl, rfl, rfl⟩)
        · rw [if_neg g, if_neg g]
          exact l_next h q J m (i + 1) f _ _ _ (by omega) (by omega) (Or.inr ⟨i, by omega, k, rfl, rfl, rfl⟩)
    · rw [if_neg k, if_neg (fun z => k (eb.mp z))]
      refine l_next h q J m (i + 1) f _ _ _ (by omega) (by omega) ?_
      rcases hr with ⟨r1, r2, r3, r4⟩ | r
      · refine Or.inl ⟨r1, r2, r3, fun j hj => ?_⟩
        by_cases p : j = i
        · rw [p]; exact k
        · exact r4 j (by omega)
      · exact Or.inr r
theorem l_free {w v : Wd} {n c k : Nat} {dn : Int32} (h : M10 w v n c) (q : TQ w v n k dn) (J : Int32 → Option Wd) : ∀ (m i f b : Nat), i + m = c → m < f → b < 4 → ∃ b', b' < 4 ∧ l_X9_firstFree_4 w f (nI i) (nI b) = some (nI b') ∧ l_X12_works_95 v J f (nI i) (nI b) = J (nI b')
  | 0, i, f + 1, b, hi, _, hb => by
    obtain ⟨h1, h2, h3, h4, h5, h6, h7, h8⟩ := id h
    unfold l_X9_firstFree_4 l_X12_works_95
    simp only [q_gt, h5, h6, if_pos (nI_le (show c ≤ i by omega) (by omega))]
    exact ⟨b, hb, rfl, rfl⟩
  | m + 1, i, f + 1, b, hi, hf, hb => by
    obtain ⟨h1, h2, h3, h4, h5, h6, h7, h8⟩ := id h
    unfold l_X9_firstFree_4 l_X12_works_95
    simp only [q_gt, q_lt, q_jn, h5, h6, if_neg (nI_ge (show i < c by omega) (by omega)), ld_n (show i < 4 by omega) (show 4 < 2 ^ 31 by decide), ld_n hb (show 4 < 2 ^ 31 by decide), ← q.1 i (by omega), ← q.1 b hb, nI_1]
    by_cases g : wS w 54 b ≤ wS w 54 i
    · rw [if_pos g, if_pos g]
      exact l_free h q J m (i + 1) f b (by omega) (by omega) hb
    · rw [if_neg g, if_neg g]
      exact l_free h q J m (i + 1) f i (by omega) (by omega) (by omega)
theorem l_share {n c : Nat} : ∀ (m k f : Nat) (w v : Wd) (dn : Int32), M10 w v n c → TQ w v n k dn → k + m = n → m < f → ∃ w' v' dn', l_X9_share_33 f w (nI k) = some w' ∧ l_X12_works_24 f v (nI k) dn = some v' ∧ FrT w w' ∧ FrU v v' ∧ TQ w' v' n n dn'
  | 0, k, f + 1, w, v, dn, h, q, hk, _ => by
    obtain ⟨h1, h2, h3, -⟩ := id h
    have e : k = n := by omega
    subst e
    unfold l_X9_share_33 l_X12_works_24
    simp only [q_gt, h2, h3, if_pos (nI_le (Nat.le_refl k) (show k < 2 ^ 31 by omega))]
    exact ⟨w, v, dn, rfl, rfl, FrT.refl, FrU.refl, q⟩
  | m + 1, k, f + 1, w, v, dn, h, q, hk, hf => by
    obtain ⟨h1, h2, h3, h4, h5, h6, h7, h8⟩ := id h
    unfold l_X9_share_33 l_X12_works_24
    simp only [q_gt, h2, h3, if_neg (nI_ge (show k < n by omega) (by omega)), jn_eq]
    obtain ⟨x, z, x1, z1, r⟩ := l_next h q (fun (x3_89 : Int32) => l_X12_works_95 v (fun (x4_136 : Int32) => q_ld v 117 4 x4_136 (fun v_143 => q_ld v 114 12 x3_89 (fun v_149 => q_st v 117 4 x4_136 (v_143 + v_149) (fun w_151 => q_ld w_151 117 4 x4_136 (fun v_163 => q_ld w_151 115 12 x3_89 (fun v_169 => q_st w_151 116 12 x3_89 (v_163 - v_169) (fun w_171 => q_lt (dn ||| ((1 : Int32) <<< (x3_89 &&& 31))) (fun v_177 => q_lt (nI k + (1 : Int32)) (fun v_178 => l_X12_works_24 f w_171 v_178 v_177))))))))) FU (1 : Int32) (0 : Int32)) n 0 FU 0 2001 (-1) (by omega) (by unfold FU; omega) (Or.inl ⟨rfl, rfl, rfl, fun j hj => absurd hj (Nat.not_lt_zero j)⟩)
    rw [nI_0] at x1 z1
    rcases r with ⟨-, r⟩ | ⟨j, hj, j0, rfl, rfl⟩
    · exfalso
      obtain ⟨i, hi, e⟩ := ct_ex (show ct (wS w 53) n < n by rw [q.2.2.2]; omega)
      exact r i hi e
    have hj12 : j < 12 := by omega
    obtain ⟨b, hb, b1, b2⟩ := l_free h q (fun (x4_136 : Int32) => q_ld v 117 4 x4_136 (fun v_143 => q_ld v 114 12 (nI j) (fun v_149 => q_st v 117 4 x4_136 (v_143 + v_149) (fun w_151 => q_ld w_151 117 4 x4_136 (fun v_163 => q_ld w_151 115 12 (nI j) (fun v_169 => q_st w_151 116 12 (nI j) (v_163 - v_169) (fun w_171 => q_lt (dn ||| ((1 : Int32) <<< (nI j &&& 31))) (fun v_177 => q_lt (nI k + (1 : Int32)) (fun v_178 => l_X12_works_24 f w_171 v_178 v_177))))))))) (c - 1) 1 FU 0 (by omega) (by unfold FU; omega) (by decide)
    rw [nI_0, show nI 1 = (1 : Int32) from rfl] at b1 b2
    unfold f_X9_nextTask f_X9_firstFree
    rw [x1, z1, b1, b2]
    simp only [bo_v, q_lt, ld_n hb (show 4 < 2 ^ 31 by decide), ld_n hj12 (show 12 < 2 ^ 31 by decide), st_n hb (show 4 < 2 ^ 31 by decide), st_n hj12 (show 12 < 2 ^ 31 by decide), sz_n hj12 (show 12 < 2 ^ 31 by decide), nI_1, nar01 (show (1 : Int32) = 0 ∨ (1 : Int32) = 1 from Or.inr rfl)]
    obtain ⟨⟨t1, -⟩, t2, -⟩ := h4 j hj
    have e1 : wS (sI w 54 b (wS w 54 b + wS w 50 j)) 54 b - wS (sI w 54 b (wS w 54 b + wS w 50 j)) 51 j = wS (sI v 117 b (wS v 117 b + wS v 114 j)) 117 b - wS (sI v 117 b (wS v 117 b + wS v 114 j)) 115 j := by
      rw [wS_sI, if_pos ⟨rfl, rfl⟩, wS_sI, if_neg (by omega), wS_sI, if_pos ⟨rfl, rfl⟩, wS_sI, if_neg (by omega), q.1 b hb, t1, t2]
    have e0 : wS w 54 b + wS w 50 j = wS v 117 b + wS v 114 j := by rw [q.1 b hb, t1]
    rw [e1, e0]
    generalize wS (sI v 117 b (wS v 117 b + wS v 114 j)) 117 b - wS (sI v 117 b (wS v 117 b + wS v 114 j)) 115 j = L
    generalize wS v 117 b + wS v 114 j = T
    have f1 : FrT w (sI (sI (sI w 54 b T) 52 j L) 53 j 1) := ((FrT.sI (by decide)).trans (FrT.sI (by decide))).trans (FrT.sI (by decide))
    have g1 : FrU v (sI (sI v 117 b T) 116 j L) := (FrU.sI (by decide)).trans (FrU.sI (by decide))
    obtain ⟨w', v', dn', a1, a2, a3, a4, a5⟩ := l_share m (k + 1) f (sI (sI (sI w 54 b T) 52 j L) 53 j 1) (sI (sI v 117 b T) 116 j L) (dn ||| ((1 : Int32) <<< (nI j &&& 31))) (h.TU f1 g1) (by
      refine ⟨fun p hp => ?_, fun i hi hk => ?_, fun i hi => ?_, ?_⟩
      · by_cases z : p = b
        · subst z
          rw [wS_sI, if_neg (by omega), wS_sI, if_neg (by omega), wS_sI, if_pos ⟨rfl, rfl⟩, wS_sI, if_neg (by omega), wS_sI, if_pos ⟨rfl, rfl⟩]
        · have := q.1 p hp
          (repeat first | rw [wS_sI, if_pos ⟨rfl, rfl⟩] | rw [wS_sI, if_neg (by omega)] | rw [wS_sN, if_neg (by omega)] | rw [wS_sR] | rw [wS_sN, if_pos rfl] | rw [wS_sFr, if_neg (by omega)] | rw [wS_sFr, if_pos (by omega)]); exact this
      · by_cases z : i = j
        · subst z
          rw [wS_sI, if_neg (by omega), wS_sI, if_pos ⟨rfl, rfl⟩, wS_sI, if_pos ⟨rfl, rfl⟩]
        · have := q.2.1 i hi (by
            rw [wS_sI, if_neg (by omega), wS_sI, if_neg (by omega), wS_sI, if_neg (by omega)] at hk
            exact hk)
          (repeat first | rw [wS_sI, if_pos ⟨rfl, rfl⟩] | rw [wS_sI, if_neg (by omega)] | rw [wS_sN, if_neg (by omega)] | rw [wS_sR] | rw [wS_sN, if_pos rfl] | rw [wS_sFr, if_neg (by omega)] | rw [wS_sFr, if_pos (by omega)]); exact this
      · rw [bq_or (by omega) hj12, q.2.2.1 i hi]
        by_cases z : i = j
        · subst z
          rw [wS_sI, if_pos ⟨rfl, rfl⟩]
          exact ⟨fun y => absurd rfl y.2, fun y => absurd y one0⟩
        · rw [wS_sI, if_neg (by omega), wS_sI, if_neg (by omega), wS_sI, if_neg (by omega)]
          exact ⟨fun y => y.1, fun y => ⟨y, z⟩⟩
      · rw [← q.2.2.2]
        refine ct_set j0 ?_ (fun i hi => ?_) hj
        · rw [wS_sI, if_pos ⟨rfl, rfl⟩]; exact one0
        · rw [wS_sI, if_neg (by omega), wS_sI, if_neg (by omega), wS_sI, if_neg (by omega)]) (by omega) (by omega)
    exact ⟨w', v', dn', a1, a2, f1.trans a3, g1.trans a4, a5⟩
theorem l_clear {n : Nat} (hn : n ≤ 12) (J : Wd → Option Wd) : ∀ (m i f : Nat) (w : Wd), wS w 7 2 = nI n → i + m = n → m < f → (∀ j, j < i → wS w 53 j = 0) → ∃ w', l_X9_share_10 J f w (nI i) = J w' ∧ FrT w w' ∧ (∀ j, wS w' 54 j = wS w 54 j) ∧ ∀ j, j < n → wS w' 53 j = 0
  | 0, i, f + 1, w, e, hi, _, h => by
    unfold l_X9_share_10
    simp only [q_gt, e, if_pos (nI_le (show n ≤ i by omega) (by omega))]
    exact ⟨w, rfl, FrT.refl, fun _ => rfl, fun j hj => h j (by omega)⟩
  | m + 1, i, f + 1, w, e, hi, hf, h => by
    have f1 : FrT w (sI w 53 i 0) := FrT.sI (by decide)
    obtain ⟨w', a1, a2, a4, a3⟩ := l_clear hn J m (i + 1) f (sI w 53 i 0) (((f1.1 7 2 (by decide)).1).trans e) (by omega) (by omega) (fun j hj => by
      by_cases z : j = i
      · rw [wS_sI, if_pos ⟨rfl, z⟩]
      · rw [wS_sI, if_neg (by omega)]; exact h j (by omega))
    unfold l_X9_share_10
    simp only [q_gt, q_lt, e, if_neg (nI_ge (show i < n by omega) (by omega)), sz_n (show i < 12 by omega) (show 12 < 2 ^ 31 by decide), nI_1, nar01 (show (0 : Int32) = 0 ∨ (0 : Int32) = 1 from Or.inl rfl)]
    exact ⟨w', a1, f1.trans a2, fun j => by rw [a4 j, wS_sI, if_neg (by omega)], a3⟩
theorem l_t4 (J : Wd → Option Wd) : ∀ (m i f : Nat) (v : Wd), i + m = 4 → m < f → (∀ j, j < i → wS v 117 j = 0) → ∃ v', l_X12_works_4 J f v (nI i) = J v' ∧ FrU v v' ∧ ∀ j, j < 4 → wS v' 117 j = 0
  | 0, i, f + 1, v, hi, _, h => by
    unfold l_X12_works_4
    rw [if_pos (four_t (show 4 ≤ i by omega) (by omega))]
    exact ⟨v, rfl, FrU.refl, fun j hj => h j (by omega)⟩
  | m + 1, i, f + 1, v, hi, hf, h => by
    obtain ⟨v', a1, a2, a3⟩ := l_t4 J m (i + 1) f (sI v 117 i 0) (by omega) (by omega) (fun j hj => by
      by_cases z : j = i
      · rw [wS_sI, if_pos ⟨rfl, z⟩]
      · rw [wS_sI, if_neg (by omega)]; exact h j (by omega))
    unfold l_X12_works_4
    rw [if_neg (four_f (show i < 4 by omega))]
    simp only [st_n (show i < 4 by omega) (show 4 < 2 ^ 31 by decide), q_lt, nI_1]
    exact ⟨v', a1, (FrU.sI (by decide)).trans a2, a3⟩
theorem c_share {w v : Wd} {n c : Nat} (h : M10 w v n c) : ∃ w' v', f_X9_share w = some w' ∧ f_X12_works v = some v' ∧ FrT w w' ∧ FrU v v' ∧ ∀ i, i < n → wS w' 52 i = wS v' 116 i := by
  obtain ⟨h1, h2, h3, h4, h5, h6, h7, h8⟩ := id h
  have f1 : FrT w (sFr w 54 0 4 0) := FrT.sFr (by decide)
  obtain ⟨w1, a1, a2, a4, a3⟩ := l_clear h1 (fun w_31j => l_X9_share_33 FU w_31j (0 : Int32)) n 0 FU (sFr w 54 0 4 0) (((f1.1 7 2 (by decide)).1).trans h2) (by omega) (by unfold FU; omega) (fun j hj => absurd hj (Nat.not_lt_zero j))
  obtain ⟨v1, b1, b2, b3⟩ := l_t4 (fun w_22j => l_X12_works_24 FU w_22j (0 : Int32) (0 : Int32)) 4 0 FU v (by omega) (by unfold FU; omega) (fun j hj => absurd hj (Nat.not_lt_zero j))
  obtain ⟨w2, v2, dn, c1, c2, c3, c4, c5⟩ := l_share n 0 FU w1 v1 0 (h.TU (f1.trans a2) b2) (by
    refine ⟨fun j hj => ?_, fun i hi z => absurd (a3 i hi) z, fun i hi => ⟨fun _ => a3 i hi, fun _ => bq_0 ⟨i, by omega⟩⟩, ct_0 a3⟩
    rw [a4 j, wS_sFr, if_pos ⟨rfl, by omega, hj⟩, b3 j hj]) (by omega) (by unfold FU; omega)
  rw [nI_0] at a1 b1 c1 c2
  unfold f_X9_share f_X12_works
  rw [fill_k (by decide), bo_v, jn_eq, jn_eq, a1, b1, c1, c2]
  exact ⟨w2, v2, rfl, rfl, (f1.trans a2).trans c3, b2.trans c4, fun i hi => c5.2.1 i hi (ct_all c5.2.2.2 i hi)⟩
theorem R10.TU {w v w' v' : Wd} (h : R10 w v) (f : FrT w w') (g : FrU v v') : R10 w' v' := h.fr (f.only 10 (by decide) (by decide)) (g.only 10 (by decide) (by decide))
theorem c_late {w v : Wd} (h : R10 w v) (a : Int32) : OK 10 R10 (f_X11_late w a) (f_X12_late v a) w v := by
  obtain ⟨n, c, M⟩ := h.M
  obtain ⟨h1, h2, h3, -⟩ := id M
  unfold f_X11_late f_X9_lateOf f_X12_late
  rw [in_eq]
  simp only [q_gt, h2, h3]
  rcases win_n a (n := n) (by omega) with q | ⟨q, i, hi, rfl⟩
  · rw [q]; exact OK.same h
  obtain ⟨w', v', r1, r2, r3, r4, r5⟩ := c_share M
  rw [q, if_neg one0, if_neg one0, r1, r2]
  simp only [bo_v, bi_v, ld_n (show i < 12 by omega) (show 12 < 2 ^ 31 by decide), r5 i hi]
  exact ⟨_, w', v', rfl, rfl, h.TU r3 r4, r3.only.of0, r4.only.of0, r3.cm, r4.mm, r3.2, r4.2⟩
theorem l_great {w v : Wd} {n c : Nat} (h : M10 w v n c) (e : ∀ i, i < n → wS w 52 i = wS v 116 i) (J : Int32 → Int32 → Option (Int32 × Wd)) : ∀ (m i f : Nat) (x y : Int32), i + m = n → m < f → ∃ x' y', l_X9_greatestLate_8 w f (nI i) x = some (x', w) ∧ l_X9_howManyLate_8 w f (nI i) y = some (y', w) ∧ l_X12_latest_23 v J f (nI i) y x = J x' y'
  | 0, i, f + 1, x, y, hi, _ => by
    obtain ⟨h1, h2, h3, -⟩ := id h
    unfold l_X9_greatestLate_8 l_X9_howManyLate_8 l_X12_latest_23
    simp only [q_gt, h2, h3, if_pos (nI_le (show n ≤ i by omega) (by omega))]
    exact ⟨x, y, rfl, rfl, rfl⟩
  | m + 1, i, f + 1, x, y, hi, hf => by
    obtain ⟨h1, h2, h3, -⟩ := id h
    have ei := e i (by omega)
    have I := fun x y => l_great h e J m (i + 1) f x y (by omega) (by omega)
    unfold l_X9_greatestLate_8 l_X9_howManyLate_8 l_X12_latest_23
    simp only [q_gt, q_lt, q_jn, h2, h3, if_neg (nI_ge (show i < n by omega) (by omega)), ld_n (show i < 12 by omega) (show 12 < 2 ^ 31 by decide), ← ei, nI_1]
    have em : f_J9_max_7cf53 x (wS w 52 i) = if wS w 52 i ≤ x then x else wS w 52 i := by
      unfold f_J9_max_7cf53
      by_cases k : wS w 52 i ≤ x
      · rw [if_pos k, if_neg (Int32.not_lt.mpr k)]
      · rw [if_neg k, if_pos (Int32.not_le.mp k)]
    rw [em]
    by_cases k : wS w 52 i ≤ x
    · rw [if_pos k]
      by_cases z : wS w 52 i ≤ 0
      · rw [if_pos z, if_pos z, if_pos k, Int32.add_zero]
        exact I _ _
      · rw [if_neg z, if_neg z, if_pos k]
        exact I _ _
    · rw [if_neg k, if_neg k]
      by_cases z : wS w 52 i ≤ 0
      · rw [if_pos z, if_pos z, Int32.add_zero]
        exact I _ _
      · rw [if_neg z, if_neg z]
        exact I _ _
theorem c_latest {w v : Wd} (h : R10 w v) (a : Int32) : OK 10 R10 (f_X11_latest w a) (f_X12_latest v a) w v := by
  obtain ⟨n, c, M⟩ := h.M
  unfold f_X11_latest f_X12_latest
  rw [in_eq]
  rcases win_c a 0 1 with q | ⟨q, -, -⟩
  · rw [q]; exact OK.same h
  obtain ⟨w', v', r1, r2, r3, r4, r5⟩ := c_share M
  have M' := M.TU r3 r4
  obtain ⟨x, y, k1, k2, k3⟩ := l_great M' r5 (fun (x2_79 : Int32) (x3_79 : Int32) => if a = 0 then some (x2_79, v') else some (x3_79, v')) n 0 FU 0 0 (by omega) (by have := M.1; unfold FU; omega)
  rw [nI_0] at k1 k2 k3
  rw [q, if_neg one0, if_neg one0, r2]
  unfold f_X9_greatestLate f_X9_howManyLate
  rw [r1]
  simp only [bo_v]
  rw [jn_eq, k1, k2, k3]
  simp only [bi_v]
  by_cases a0 : a = 0
  · rw [if_pos a0, if_pos a0]
    exact ⟨_, w', v', rfl, rfl, h.TU r3 r4, r3.only.of0, r4.only.of0, r3.cm, r4.mm, r3.2, r4.2⟩
  · rw [if_neg a0, if_neg a0]
    exact ⟨_, w', v', rfl, rfl, h.TU r3 r4, r3.only.of0, r4.only.of0, r3.cm, r4.mm, r3.2, r4.2⟩
