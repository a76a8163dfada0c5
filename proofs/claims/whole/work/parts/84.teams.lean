/-! ===== teams and stages: what a set of teams leaves behind ===== -/
def pop (a : Nat) : Nat := a % 2 + a / 2 % 2 + a / 4 % 2 + a / 8 % 2
theorem pop_le (a : Nat) : pop a ≤ 4 := by unfold pop; omega
theorem bc_t : ∀ a : Fin 16, f_J6_bitCount_0f7a4 (nI a.val) = nI (pop a.val) := by decide +kernel
theorem bc_k {a : Nat} (h : a < 16) : f_J6_bitCount_0f7a4 (nI a) = nI (pop a) := bc_t ⟨a, h⟩
theorem ones_t : ∀ a : Fin 16, l_X12_ones_4 (nI a.val) (10 + 5) 0 0 = some (nI (pop a.val)) := by decide +kernel
theorem l_ones {a : Int32} : ∀ (f g : Nat) (i x r : Int32), l_X12_ones_4 a f i x = some r → l_X12_ones_4 a (f + g) i x = some r
  | 0, g, i, x, r, h => by
    unfold l_X12_ones_4 at h
    exact absurd h (by simp)
  | f + 1, g, i, x, r, h => by
    rw [show f + 1 + g = (f + g) + 1 by omega]
    unfold l_X12_ones_4 at h ⊢
    by_cases k : (4 : Int32) ≤ i
    · rw [if_pos k] at h ⊢; exact h
    · rw [if_neg k] at h ⊢
      exact l_ones f g _ _ r h
theorem ones_k {a : Nat} (h : a < 16) : f_X12_ones (nI a) = some (nI (pop a)) := by
  have k := l_ones 15 999985 0 0 _ (ones_t ⟨a, h⟩)
  unfold f_X12_ones
  rw [show FU = 15 + 999985 from rfl]
  exact k
theorem run_t : ∀ s : Fin 256, ∀ x : Fin 4, 0 ≤ (f_X12_runOf (nI s.val) (nI x.val)).toInt ∧ (f_X12_runOf (nI s.val) (nI x.val)).toInt ≤ 3 := by decide +kernel
theorem run_k {s x : Nat} (hs : s < 256) (hx : x < 4) : ∃ r, r ≤ 3 ∧ f_X12_runOf (nI s) (nI x) = nI r := by
  have h12 : 0 ≤ (f_X12_runOf (nI s) (nI x)).toInt ∧ (f_X12_runOf (nI s) (nI x)).toInt ≤ 3 := run_t ⟨s, hs⟩ ⟨x, hx⟩
  obtain ⟨h1, h2⟩ := h12
  refine ⟨(f_X12_runOf (nI s) (nI x)).toInt.toNat, by omega, ?_⟩
  apply Int32.toInt_inj.mp
  rw [nI_toInt (by omega)]
  omega
theorem or_t : ∀ x : Fin 4, ∀ b : Fin 64, ∀ k : Fin 4, b.val < 4 ^ x.val → nI b.val ||| (nI k.val <<< (((2 : Int32) * nI x.val) &&& 31)) = nI (b.val + k.val * 4 ^ x.val) := by decide +kernel
theorem p4 {x : Nat} (h : x < 4) : 4 ^ x ≤ 64 := by
  have k : ∀ x : Fin 4, 4 ^ x.val ≤ 64 := by decide
  exact k ⟨x, h⟩
theorem p4' {x n : Nat} (h : x ≤ n) (hn : n ≤ 4) : 4 ^ x ≤ 256 := by
  have k : ∀ x : Fin 5, 4 ^ x.val ≤ 256 := by decide
  exact k ⟨x, by omega⟩
theorem or_k {x b k : Nat} (hx : x < 4) (hb : b < 4 ^ x) (hk : k < 4) : nI b ||| (nI k <<< (((2 : Int32) * nI x) &&& 31)) = nI (b + k * 4 ^ x) := or_t ⟨x, hx⟩ ⟨b, by have := p4 hx; omega⟩ ⟨k, hk⟩ hb
theorem nI_m1 {q : Nat} (hq : q < 2 ^ 31) : ¬ nI q = (-1 : Int32) := fun z => by
  have h := nI_pos' hq
  rw [z] at h
  exact absurd h (by decide)
/-- what the class and the reference hold alike of teams and stages -/
def D8 (w v : Wd) (n ns : Nat) : Prop := n ≤ 4 ∧ ns ≤ 6 ∧ wS w 5 1 = nI n ∧ wS v 63 50 = nI n ∧ wS w 5 3 = nI ns ∧ wS v 63 52 = nI ns ∧ (∀ i, i < n → wS w 29 i = wS v 100 i) ∧ (∀ i, i < ns → wS w 30 i = wS v 101 i) ∧ (wS w 5 4 = wS v 63 54 ∧ bt 1 3 (wS w 5 4)) ∧ (∀ i, i < 7 → wS w 31 i ≠ 0)
/-- the class's worlds that differ in its tables alone; the reference's -/
def F8 (w w' : Wd) : Prop := (∀ p j, ¬ (p = 5 ∧ j = 7) → ¬ (32 ≤ p ∧ p ≤ 39) → wS w' p j = wS w p j ∧ wL w' p j = wL w p j) ∧ am w w'
def G8 (v v' : Wd) : Prop := (∀ p j, p ≠ 102 → p ≠ 103 → wS v' p j = wS v p j ∧ wL v' p j = wL v p j) ∧ am v v'
theorem F8.refl {w : Wd} : F8 w w := ⟨fun _ _ _ _ => ⟨rfl, rfl⟩, am.refl⟩
theorem G8.refl {w : Wd} : G8 w w := ⟨fun _ _ _ _ => ⟨rfl, rfl⟩, am.refl⟩
theorem F8.trans {u v w : Wd} (h : F8 u v) (g : F8 v w) : F8 u w := ⟨fun p j a b => ⟨(g.1 p j a b).1.trans (h.1 p j a b).1, (g.1 p j a b).2.trans (h.1 p j a b).2⟩, h.2.trans g.2⟩
theorem G8.trans {u v w : Wd} (h : G8 u v) (g : G8 v w) : G8 u w := ⟨fun p j a b => ⟨(g.1 p j a b).1.trans (h.1 p j a b).1, (g.1 p j a b).2.trans (h.1 p j a b).2⟩, h.2.trans g.2⟩
theorem F8.sI {w : Wd} {k j : Nat} {x : Int32} (h : (k = 5 ∧ j = 7) ∨ (32 ≤ k ∧ k ≤ 39)) : F8 w (sI w k j x) := ⟨fun p q a b => ⟨by
  rw [wS_sI, if_neg (by omega)], rfl⟩, am.sI⟩
theorem G8.sI {w : Wd} {k j : Nat} {x : Int32} (h : k = 102 ∨ k = 103) : G8 w (sI w k j x) := ⟨fun p q a b => ⟨by
  rw [wS_sI, if_neg (by omega)], rfl⟩, am.sI⟩
theorem D8.fr {w v w' v' : Wd} {n ns : Nat} (D : D8 w v n ns) (F : F8 w w') (G : G8 v v') : D8 w' v' n ns := by
  obtain ⟨d1, d2, d3, d4, d5, d6, d7, d8, d9, d10⟩ := D
  refine ⟨d1, d2, ((F.1 5 1 (by omega) (by omega)).1).trans d3, ((G.1 63 50 (by omega) (by omega)).1).trans d4, ((F.1 5 3 (by omega) (by omega)).1).trans d5, ((G.1 63 52 (by omega) (by omega)).1).trans d6, fun i hi => ?_, fun i hi => ?_, ?_, fun i hi => ?_⟩
  · rw [(F.1 29 i (by omega) (by omega)).1, (G.1 100 i (by omega) (by omega)).1]; exact d7 i hi
  · rw [(F.1 30 i (by omega) (by omega)).1, (G.1 101 i (by omega) (by omega)).1]; exact d8 i hi
  · rw [(F.1 5 4 (by omega) (by omega)).1, (G.1 63 54 (by omega) (by omega)).1]; exact d9
  · rw [(F.1 31 i (by omega) (by omega)).1]; exact d10 i hi
theorem l_after {w v : Wd} {n ns : Nat} (D : D8 w v n ns) {s : Nat} (hs : s < 256) (a : Int32) (J : Int32 → Int32 → Option Int32) : ∀ (m x f b : Nat) (h : Int32), x + m = n → m < f → b < 4 ^ x →
    (l_X7_stateBehind_5 (nI s) a w f (nI x) (nI b) = some (-1) ∧ l_X12_after_9 (nI s) a v J f (nI x) (nI b) h = some (-1)) ∨
    ∃ b' h', b' < 256 ∧ l_X7_stateBehind_5 (nI s) a w f (nI x) (nI b) = some (nI b') ∧ l_X7_handsOf_4 a w f (nI x) h = some h' ∧ l_X12_after_9 (nI s) a v J f (nI x) (nI b) h = J h' (nI b')
  | 0, x, f + 1, b, h, hi, _, hb => by
    obtain ⟨d1, d2, d3, d4, -⟩ := D
    refine Or.inr ⟨b, h, ?_, ?_⟩
    · exact Nat.lt_of_lt_of_le hb (p4' (show x ≤ n by omega) d1)
    · unfold l_X7_stateBehind_5 l_X7_handsOf_4 l_X12_after_9
      simp only [q_gt, d3, d4, if_pos (nI_le (show n ≤ x by omega) (by omega)), and_self]
  | m + 1, x, f + 1, b, h, hi, hf, hb => by
    obtain ⟨d1, d2, d3, d4, d5, d6, d7, d8, ⟨d9, d9'⟩, d10⟩ := id D
    have hx : x < 4 := by omega
    have hp : (4 : Nat) ^ (x + 1) = 4 * 4 ^ x := by rw [Nat.pow_succ, Nat.mul_comm]
    unfold l_X7_stateBehind_5 l_X7_handsOf_4 l_X12_after_9
    simp only [q_gt, q_lt, q_jn, d3, d4, if_neg (nI_ge (show x < n by omega) (by omega)), nI_1]
    by_cases hbit : (a >>> (nI x &&& 31)) &&& (1 : Int32) = 1
    · rw [if_pos hbit, if_pos hbit, if_pos hbit, ld_n hx (show 4 < 2 ^ 31 by decide), ld_n hx (show 4 < 2 ^ 31 by decide), ← d7 x (by omega), ← d9]
      obtain ⟨r, hr, er⟩ := run_k hs hx
      rw [show ((nI s >>> (((2 : Int32) * nI x) &&& 31)) &&& (3 : Int32)) = nI r from er, er, nI_1]
      obtain ⟨R, hR, eR⟩ : ∃ R, R ≤ 3 ∧ wS w 5 4 = nI R := by
        refine ⟨(wS w 5 4).toInt.toNat, by have := d9'.2; omega, ?_⟩
        apply Int32.toInt_inj.mp
        have := d9'.1
        have := d9'.2
        rw [nI_toInt (by omega)]
        omega
      rw [eR]
      by_cases hrun : r < R
      · rw [if_pos ((nI_leI (by omega) (by omega)).mpr (show r + 1 ≤ R by omega)), if_pos ((nI_ltI (by omega) (by omega)).mpr hrun), or_k hx hb (by omega)]
        exact l_after D hs a J m (x + 1) f (b + (r + 1) * 4 ^ x) (h + wS w 29 x) (by omega) (by omega) (by
          rw [hp]
          have : (r + 1) * 4 ^ x ≤ 3 * 4 ^ x := Nat.mul_le_mul_right _ (by omega)
          omega)
      · rw [if_neg (fun k => hrun (by have := (nI_leI (by omega) (by omega)).mp k; omega)), if_neg (fun k => hrun ((nI_ltI (by omega) (by omega)).mp k))]
        exact Or.inl ⟨rfl, rfl⟩
    · rw [if_neg hbit, if_neg hbit, if_neg hbit]
      exact l_after D hs a J m (x + 1) f b h (by omega) (by omega) (by rw [hp]; omega)
theorem rt_31 {i : Nat} : rt 31 i = 32 + i := by unfold rt; rfl
/-- one set of teams at one stage: no way, or a state behind it -/
theorem c_after {w v : Wd} {n ns : Nat} (D : D8 w v n ns) {st s : Nat} (hst : st < ns) (hs : s < 256) (a : Int32) :
    (f_X12_after v (nI st) (nI s) a = some (-1) ∧ f_X7_fewestWith w (nI st) (nI s) a = some 1000) ∨
    ∃ b, b < 256 ∧ f_X12_after v (nI st) (nI s) a = some (nI b) ∧ f_X7_stateBehind w (nI s) a = some (nI b) ∧ f_X7_fewestWith w (nI st) (nI s) a = some (f_J9_min_7cf53 1000 (f_J6_bitCount_0f7a4 a + wS w (33 + st) b)) := by
  obtain ⟨d1, d2, d3, d4, d5, d6, d7, d8, -, d10⟩ := id D
  have hst6 : st < 6 := by omega
  have L := l_after D hs a (fun x4 x5 => q_ld v 101 6 (nI st) (fun v_86 => if x4 < v_86 then some (-1 : Int32) else some x5)) n 0 FU 0 0 (by omega) (by unfold FU; omega) (by decide)
  rw [nI_0] at L
  unfold f_X12_after f_X7_fewestWith
  rw [jn_eq]
  unfold f_X7_stateBehind f_X7_handsOf
  rcases L with ⟨k1, k2⟩ | ⟨b, h, hb, k1, k2, k3⟩
  · refine Or.inl ⟨k2, ?_⟩
    rw [k1]
    rfl
  · rw [k1, k2, k3, ld_n hst6 (show 6 < 2 ^ 31 by decide), ← d8 st hst]
    simp only [bo_v, if_neg (nI_m1 (q := b) (by omega)), ld_n hst6 (show 6 < 2 ^ 31 by decide), nI_1, ldq_n (show st + 1 < 7 by omega) (show 7 < 2 ^ 31 by decide) (d10 (st + 1) (by omega)), ld_n hb (show 256 < 2 ^ 31 by decide)]
    rw [rt_31, show 32 + (st + 1) = 33 + st by omega]
    by_cases hn : h < wS w 30 st
    · rw [if_pos hn, if_neg (fun k => absurd hn (Int32.not_lt.mpr k))]
      exact Or.inl ⟨rfl, rfl⟩
    · rw [if_neg hn, if_pos (Int32.not_lt.mp hn)]
      exact Or.inr ⟨b, hb, rfl, rfl, rfl⟩
