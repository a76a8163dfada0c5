/-! ===== the roster: the class's reckoning, kept; the reference's, made anew ===== -/
section Q0
variable {β : Type} {w : Wd} {k n : Nat}
theorem ld_0 {K : Int32 → Option β} (h : 0 < n) (hn : n < 2 ^ 31) : q_ld w k n 0 K = K (wS w k 0) := by
  have e := ld_n (w := w) (k := k) (K := K) h hn
  rw [nI_0] at e
  exact e
theorem ldq_0 {K : Nat → Option β} (h : 0 < n) (hn : n < 2 ^ 31) (hs : wS w k 0 ≠ 0) : q_ldq w k n 0 K = K (rt k 0) := by
  have e := ldq_n (w := w) (k := k) (K := K) h hn hs
  rw [nI_0] at e
  exact e
end Q0
def Ca (w : Wd) (ns : Nat) : Prop := (∀ s, s < 256 → wS w (32 + ns) s = 0) ∧ (∀ st, st < ns → E8 w st) ∧ (wS w 32 0 < 1000 → Ch w ns 0 0)
theorem Ca.fr {w w' : Wd} {ns : Nat} (hns : ns ≤ 6) (h : Ca w ns) (h5 : wS w' 5 1 = wS w 5 1 ∧ wS w' 5 4 = wS w 5 4) (hr : ∀ p j, 29 ≤ p → p ≤ 39 → wS w' p j = wS w p j) : Ca w' ns := by
  have C : ∀ i, i < 6 → C8 w w' (33 + i) := fun i hi => ⟨h5.1, h5.2, fun j => hr 29 j (by decide) (by decide), fun j => hr 30 j (by decide) (by decide), fun j => hr 31 j (by decide) (by decide), fun j => hr _ j (by omega) (by omega)⟩
  obtain ⟨a, b, c⟩ := h
  refine ⟨fun s hs => by rw [hr _ s (by omega) (by omega)]; exact a s hs, fun st hst => (b st hst).fr (by omega) (C st (by omega)) (fun j => hr _ j (by omega) (by omega)), fun h0 => ?_⟩
  rw [hr 32 0 (by decide) (by decide)] at h0
  exact (c h0).fr C (fun j => hr 32 j (by decide) (by decide)) ns 0 0 (by omega) (fun j _ _ => hr 39 j (by decide) (by decide))
theorem F8.sFr {w : Wd} {k n : Nat} {x : Int32} (h : 32 ≤ k ∧ k ≤ 39) : F8 w (sFr w k 0 n x) := ⟨fun p q a b => ⟨by
  rw [wS_sFr, if_neg (by omega)], rfl⟩, fun _ => rfl⟩
theorem c_reckon {w v : Wd} {n ns : Nat} (D : D8 w v n ns) (h : wS w 5 7 = 0 ∨ Ca w ns) : ∃ w', f_X7_reckon w = some w' ∧ F8 w w' ∧ Ca w' ns := by
  unfold f_X7_reckon
  simp only [q_gt]
  by_cases h7 : wS w 5 7 = 0
  · obtain ⟨d1, d2, d3, d4, d5, d6, d7, d8, -, d10⟩ := id D
    have f1 : F8 w (sFr w (32 + ns) 0 256 0) := F8.sFr (by omega)
    have e5 : wS (sFr w (32 + ns) 0 256 0) 5 3 = nI ns := by rw [wS_sFr, if_neg (by omega)]; exact d5
    have row : ∀ b, b < 256 → wS (sFr w (32 + ns) 0 256 0) (32 + ns) b = 0 := fun b hb => by rw [wS_sFr, if_pos ⟨rfl, by omega, hb⟩]
    have b0 : bt 0 1000 (0 : Int32) := ⟨by decide, by decide⟩
    obtain ⟨w2, k1, k2, k5, k3, k4⟩ := l_C28 (v := v) (n := n) (ns := ns) (fun w_67j => q_ldq w_67j 31 7 (0 : Int32) (fun q_72 => q_ld w_67j q_72 256 (0 : Int32) (fun v_74 => q_jn (fun (w_85j : Wd) => q_pt w_85j 5 7 (1 : Int32) (fun w_87 => some w_87)) (fun j_85 => if (1000 : Int32) ≤ v_74 then j_85 w_67j else q_bo (f_X7_choose w_67j) (fun w_82 => j_85 w_82))))) ns FU (sFr w (32 + ns) 0 256 0) (D.fr f1 G8.refl) (fun b hb => by rw [row b hb]; exact b0) (Nat.le_refl _) (by unfold FU; omega) (fun st a b => by omega)
    rw [if_pos h7, d5, ldq_n (show ns < 7 by omega) (show 7 < 2 ^ 31 by decide) (d10 ns (by omega)), rt_31, fill_k (by decide)]
    simp only [bo_v, e5, q_lt]
    rw [jn_eq, k1]
    have D2 := (D.fr f1 (G8.refl (w := v))).fr k2 (G8.refl (w := v))
    have top : ∀ b, b < 256 → wS w2 (32 + ns) b = 0 := fun b hb => (k3 _ b (Nat.le_refl _)).trans (row b hb)
    simp only [ldq_0 (show 0 < 7 by decide) (show 7 < 2 ^ 31 by decide) (D2.2.2.2.2.2.2.2.2.2 0 (by decide)), rt_31, ld_0 (show 0 < 256 by decide) (show 256 < 2 ^ 31 by decide), q_jn, q_pt]
    by_cases hF : (1000 : Int32) ≤ wS w2 32 0
    · rw [if_pos hF]
      refine ⟨_, rfl, (f1.trans k2).trans (F8.sI (by omega)), ?_⟩
      have c : Ca w2 ns := ⟨top, k4, fun q => absurd hF (Int32.not_le.mpr q)⟩
      refine c.fr d2 ⟨?_, ?_⟩ (fun p j a b => ?_)
      all_goals rw [wS_sI, if_neg (by omega)]
    · rw [if_neg hF]
      obtain ⟨w3, r1, r2, -, r4⟩ := l_C4 ns 0 0 FU w2 D2 (by omega) (by unfold FU; omega) k4 (fun b hb => by rw [top b hb]; exact b0) (by decide) (Int32.not_le.mp hF)
      rw [nI_0] at r1
      unfold f_X7_choose
      rw [r1]
      simp only [bo_v]
      refine ⟨_, rfl, ((f1.trans k2).trans (r2.F (by decide) (by decide))).trans (F8.sI (by omega)), ?_⟩
      have c : Ca w3 ns := ⟨fun b hb => by rw [(r2.1 _ b (by omega)).1]; exact top b hb, fun st hst => (k4 st hst).fr (by omega) (r2.C (by decide) (by omega)) (fun j => (r2.1 _ j (by omega)).1), fun _ => r4⟩
      refine c.fr d2 ⟨?_, ?_⟩ (fun p j a b => ?_)
      all_goals rw [wS_sI, if_neg (by omega)]
  · rw [if_neg h7]
    rcases h with h | h
    · exact absurd h h7
    · exact ⟨w, rfl, F8.refl, h⟩
/-! the reference's tables -/
def rl (B : Nat) (x y : Int32) : Prop := (x = 1000 ∧ y = -1) ∨ ∃ t, t ≤ B ∧ x = nI t ∧ y = nI t
theorem n1000 : nI 1000 = (1000 : Int32) := by decide
theorem rl_eq {B C : Nat} {x y p q : Int32} (h : rl B x y) (g : rl C p q) (hB : B < 1000) (hC : C < 1000) : x = p ↔ y = q := by
  rcases h with ⟨rfl, rfl⟩ | ⟨t, ht, rfl, rfl⟩ <;> rcases g with ⟨rfl, rfl⟩ | ⟨u, hu, rfl, rfl⟩
  · exact ⟨fun _ => rfl, fun _ => rfl⟩
  · refine ⟨fun z => ?_, fun z => absurd z.symm (nI_m1 (by omega))⟩
    rw [← n1000] at z
    have := (nI_eq (by omega) (by omega)).mp z
    omega
  · refine ⟨fun z => ?_, fun z => absurd z (nI_m1 (by omega))⟩
    rw [← n1000] at z
    have := (nI_eq (by omega) (by omega)).mp z
    omega
  · exact Iff.rfl
theorem i256 (st s : Nat) : (256 : Int32) * nI st + nI s = nI (256 * st + s) := by
  rw [show (256 : Int32) * nI st = nI (256 * st) from (Int32.ofNat_mul 256 st).symm, nI_add]
theorem c_from {w v : Wd} {n ns : Nat} (D : D8 w v n ns) {st s c B : Nat} (hst : st < ns) (hs : s < 256) (hc : c < 16) (hB : B ≤ 900) (rows : ∀ b, b < 256 → rl B (wS w (33 + st) b) (wS v 102 (256 * (st + 1) + b))) :
    ∃ x y, f_X7_fewestWith w (nI st) (nI s) (nI c) = some x ∧ f_X12_countsFrom v (nI st) (nI s) (nI c) = some y ∧ rl (B + 4) x y := by
  obtain ⟨d1, d2, -⟩ := id D
  unfold f_X12_countsFrom
  rcases c_after D hst hs (nI c) with ⟨k1, k2⟩ | ⟨b, hb, k1, -, k3⟩
  · rw [k1, k2]
    exact ⟨_, _, rfl, rfl, Or.inl ⟨rfl, rfl⟩⟩
  · have hi : 256 * (st + 1) + b < 1792 := by omega
    have p := pop_le c
    rw [k1, k3]
    simp only [bo_v, if_neg (nI_m1 (q := b) (by omega)), nI_1, i256, ld_n hi (show 1792 < 2 ^ 31 by decide), ones_k hc]
    rcases rows b hb with ⟨r1, r2⟩ | ⟨t, ht, r1, r2⟩
    · rw [r1, r2, if_pos rfl, pop_add hc (show ¬ (1000 : Int32) < 1000 by decide) ⟨by decide, by decide⟩]
      exact ⟨_, _, rfl, rfl, Or.inl ⟨rfl, rfl⟩⟩
    · rw [r1, r2, if_neg (nI_m1 (by omega)), bc_k hc, nI_add]
      refine ⟨_, _, rfl, rfl, Or.inr ⟨pop c + t, by omega, ?_, rfl⟩⟩
      unfold f_J9_min_7cf53
      rw [← n1000, if_pos ((nI_ltI (by omega) (by omega)).mpr (by omega))]
theorem rl_min {B : Nat} (hB : B < 1000) {x y p q : Int32} (h : rl B x y) (g : rl B p q) {β : Type} (J : Int32 → β) : ∃ r, rl B (f_J9_min_7cf53 x p) r ∧ (if q = -1 then J y else if y = -1 then J q else if y ≤ q then J y else J q) = J r := by
  unfold f_J9_min_7cf53
  rcases g with ⟨rfl, rfl⟩ | ⟨u, hu, rfl, rfl⟩
  · rw [if_pos rfl]
    refine ⟨y, ?_, rfl⟩
    rcases h with ⟨rfl, rfl⟩ | ⟨t, ht, rfl, rfl⟩
    · rw [if_neg (by decide)]; exact Or.inl ⟨rfl, rfl⟩
    · rw [← n1000, if_neg (fun k => by have := (nI_ltI (by omega) (by omega)).mp k; omega)]; exact Or.inr ⟨t, ht, rfl, rfl⟩
  · rw [if_neg (nI_m1 (by omega))]
    rcases h with ⟨rfl, rfl⟩ | ⟨t, ht, rfl, rfl⟩
    · rw [if_pos rfl, ← n1000, if_pos ((nI_ltI (by omega) (by omega)).mpr (by omega))]
      exact ⟨_, Or.inr ⟨u, hu, rfl, rfl⟩, rfl⟩
    · rw [if_neg (nI_m1 (by omega))]
      by_cases k : t ≤ u
      · rw [if_pos ((nI_leI (by omega) (by omega)).mpr k), if_neg (fun z => by have := (nI_ltI (by omega) (by omega)).mp z; omega)]
        exact ⟨_, Or.inr ⟨t, ht, rfl, rfl⟩, rfl⟩
      · rw [if_neg (fun z => k ((nI_leI (by omega) (by omega)).mp z)), if_pos ((nI_ltI (by omega) (by omega)).mpr (by omega))]
        exact ⟨_, Or.inr ⟨u, hu, rfl, rfl⟩, rfl⟩
theorem l_at {w v : Wd} {n ns : Nat} (D : D8 w v n ns) {st s B : Nat} (hst : st < ns) (hs : s < 256) (hB : B ≤ 900) (rows : ∀ b, b < 256 → rl B (wS w (33 + st) b) (wS v 102 (256 * (st + 1) + b))) (J : Int32 → Option (Int32 × Wd)) : ∀ (m i f : Nat) (x y : Int32), i + m = 2 ^ n → m < f → rl (B + 4) x y →
    ∃ x' y', l_X7_fewestAt_7 (nI st) (nI s) w f (nI i) x = some x' ∧ l_X12_rosters_56 (nI st) (nI s) v J f (nI i) y = J y' ∧ rl (B + 4) x' y'
  | 0, i, f + 1, x, y, hi, _, h => by
    obtain ⟨d1, d2, d3, d4, -⟩ := id D
    obtain ⟨p1, p2, p3⟩ := shl_k d1
    unfold l_X7_fewestAt_7 l_X12_rosters_56
    simp only [q_gt, d3, d4, p1, if_pos (nI_le (show 2 ^ n ≤ i by omega) (by omega))]
    exact ⟨x, y, rfl, rfl, h⟩
  | m + 1, i, f + 1, x, y, hi, hf, h => by
    obtain ⟨d1, d2, d3, d4, -⟩ := id D
    obtain ⟨p1, p2, p3⟩ := shl_k d1
    obtain ⟨p, q, k1, k2, k3⟩ := c_from D hst hs (show i < 16 by omega) hB rows
    unfold l_X7_fewestAt_7 l_X12_rosters_56
    simp only [q_gt, q_lt, q_jn, d3, d4, p1, if_neg (nI_ge (show i < 2 ^ n by omega) (by omega)), nI_1, k1, k2, bo_v]
    obtain ⟨r, r1, r2⟩ := rl_min (show B + 4 < 1000 by omega) h k3 (fun z => l_X12_rosters_56 (nI st) (nI s) v J f (nI (i + 1)) z)
    rw [r2]
    exact l_at D hst hs hB rows J m (i + 1) f _ r (by omega) (by omega) r1
/-- the reference's table alone changed, and of that nothing from place k on -/
def K8 (k : Nat) (v v' : Wd) : Prop := (∀ p j, ¬ (p = 102 ∧ j < k) → wS v' p j = wS v p j ∧ wL v' p j = wL v p j) ∧ am v v'
theorem K8.refl {k : Nat} {w : Wd} : K8 k w w := ⟨fun _ _ _ => ⟨rfl, rfl⟩, am.refl⟩
theorem K8.trans {k : Nat} {u v w : Wd} (h : K8 k u v) (g : K8 k v w) : K8 k u w := ⟨fun p j a => ⟨(g.1 p j a).1.trans (h.1 p j a).1, (g.1 p j a).2.trans (h.1 p j a).2⟩, h.2.trans g.2⟩
theorem K8.wk {k m : Nat} {v w : Wd} (h : K8 k v w) (g : k ≤ m) : K8 m v w := ⟨fun p j a => h.1 p j (by omega), h.2⟩
theorem K8.sI {k j : Nat} {w : Wd} {x : Int32} (h : j < k) : K8 k w (sI w 102 j x) := ⟨fun p q a => ⟨by rw [wS_sI, if_neg (by omega)], rfl⟩, am.sI⟩
theorem K8.G {k : Nat} {v w : Wd} (h : K8 k v w) : G8 v w := ⟨fun p j a b => h.1 p j (by omega), h.2⟩
theorem l_T2 {ns : Nat} (hns : ns ≤ 6) (J : Wd → Option (Int32 × Wd)) : ∀ (m i f : Nat) (v : Wd), wS v 63 52 = nI ns → i + m = 256 → m < f → (∀ t, t < i → wS v 102 (256 * ns + t) = 0) → ∃ v', l_X12_rosters_2 J f v (nI i) = J v' ∧ K8 1792 v v' ∧ ∀ t, t < 256 → wS v' 102 (256 * ns + t) = 0
  | 0, i, f + 1, v, e, hi, _, h => by
    unfold l_X12_rosters_2
    rw [if_pos (show (256 : Int32) ≤ nI i from (nI_leI (a := 256) (by decide) (by omega)).mpr (by omega))]
    exact ⟨v, rfl, K8.refl, fun t ht => h t (by omega)⟩
  | m + 1, i, f + 1, v, e, hi, hf, h => by
    have h1 : K8 1792 v (sI v 102 (256 * ns + i) 0) := K8.sI (by omega)
    obtain ⟨v', k1, k2, k3⟩ := l_T2 hns J m (i + 1) f (sI v 102 (256 * ns + i) 0) (((h1.1 63 52 (by omega)).1).trans e) (by omega) (by omega) (fun t ht => by
      rw [wS_sI]
      by_cases q : t = i
      · rw [if_pos ⟨rfl, by omega⟩]
      · rw [if_neg (by omega)]; exact h t (by omega))
    unfold l_X12_rosters_2
    rw [if_neg (show ¬ (256 : Int32) ≤ nI i from fun k => by have := (nI_leI (a := 256) (by decide) (by omega)).mp k; omega)]
    simp only [q_gt, q_lt, e, i256, st_n (show 256 * ns + i < 1792 by omega) (show 1792 < 2 ^ 31 by decide), nI_1]
    exact ⟨v', k1, h1.trans k2, k3⟩
theorem l_T44 {w : Wd} {n ns st B : Nat} (hst : st < ns) (E : E8 w st) (hB : B ≤ 900) (J : Wd → Option (Int32 × Wd)) : ∀ (m s f : Nat) (v : Wd), D8 w v n ns → (∀ b, b < 256 → rl B (wS w (33 + st) b) (wS v 102 (256 * (st + 1) + b))) → s + m = 256 → m < f → (∀ t, t < s → rl (B + 4) (wS w (32 + st) t) (wS v 102 (256 * st + t))) →
    ∃ v', l_X12_rosters_44 (nI st) J f v (nI s) = J v' ∧ K8 (256 * (st + 1)) v v' ∧ ∀ t, t < 256 → rl (B + 4) (wS w (32 + st) t) (wS v' 102 (256 * st + t))
  | 0, s, f + 1, v, D, rows, hi, _, h => by
    unfold l_X12_rosters_44
    rw [if_pos (show (256 : Int32) ≤ nI s from (nI_leI (a := 256) (by decide) (by omega)).mpr (by omega))]
    exact ⟨v, rfl, K8.refl, fun t ht => h t (by omega)⟩
  | m + 1, s, f + 1, v, D, rows, hi, hf, h => by
    obtain ⟨d1, d2, -⟩ := id D
    have hs : s < 256 := by omega
    obtain ⟨x, y, k1, k2, k3⟩ := l_at D hst hs hB rows (fun (x3_107 : Int32) => q_st v 102 1792 (((256 : Int32) * nI st) + nI s) x3_107 (fun w_119 => q_lt (nI s + (1 : Int32)) (fun v_120 => l_X12_rosters_44 (nI st) J f w_119 v_120))) (2 ^ n) 0 FU 1000 (-1) (by omega) (by
      have := (shl_k d1).2.2
      unfold FU; omega) (Or.inl ⟨rfl, rfl⟩)
    rw [nI_0] at k1 k2
    have ex : x = wS w (32 + st) s := Option.some.inj (k1.symm.trans (E s hs).1)
    have h1 : K8 (256 * (st + 1)) v (sI v 102 (256 * st + s) y) := K8.sI (by omega)
    obtain ⟨v', r1, r2, r3⟩ := l_T44 hst E hB J m (s + 1) f (sI v 102 (256 * st + s) y) (D.fr F8.refl h1.G) (fun b hb => by rw [(h1.1 102 _ (by omega)).1]; exact rows b hb) (by omega) (by omega) (fun t ht => by
      rw [wS_sI]
      by_cases q : t = s
      · subst q
        rw [if_pos ⟨rfl, rfl⟩, ← ex]; exact k3
      · rw [if_neg (by omega)]; exact h t (by omega))
    unfold l_X12_rosters_44
    rw [if_neg (show ¬ (256 : Int32) ≤ nI s from fun k => by have := (nI_leI (a := 256) (by decide) (by omega)).mp k; omega), jn_eq, k2]
    simp only [i256, st_n (show 256 * st + s < 1792 by omega) (show 1792 < 2 ^ 31 by decide), q_lt, nI_1]
    exact ⟨v', r1, h1.trans r2, r3⟩
def TR (w v : Wd) (ns k : Nat) : Prop := ∀ st, k ≤ st → st ≤ ns → ∀ s, s < 256 → rl (4 * (ns - st)) (wS w (32 + st) s) (wS v 102 (256 * st + s))
theorem l_T38 {w : Wd} {n ns : Nat} (E : ∀ st, st < ns → E8 w st) (J : Wd → Option (Int32 × Wd)) : ∀ (k f : Nat) (v : Wd), D8 w v n ns → k ≤ ns → k < f → TR w v ns k → ∃ v', l_X12_rosters_38 J f v (nI k - 1) = J v' ∧ K8 1792 v v' ∧ TR w v' ns 0
  | 0, f + 1, v, D, _, _, T => by
    unfold l_X12_rosters_38
    rw [if_pos (show nI 0 - 1 < 0 by decide)]
    exact ⟨v, rfl, K8.refl, T⟩
  | k + 1, f + 1, v, D, hk, hf, T => by
    obtain ⟨d1, d2, -⟩ := id D
    obtain ⟨v1, a1, a2, a3⟩ := l_T44 (show k < ns by omega) (E k (by omega)) (show 4 * (ns - (k + 1)) ≤ 900 by omega) (fun w_126j => q_lt (nI k + (-1 : Int32)) (fun v_126 => l_X12_rosters_38 J f w_126j v_126)) 256 0 FU v D (fun b hb => by rw [show 33 + k = 32 + (k + 1) by omega]; exact T (k + 1) (Nat.le_refl _) hk b hb) (by omega) (by unfold FU; omega) (fun t ht => absurd ht (Nat.not_lt_zero t))
    rw [nI_0] at a1
    obtain ⟨v2, b1, b2, b3⟩ := l_T38 E J k f v1 (D.fr F8.refl a2.G) (by omega) (by omega) (fun st h1 h2 s hs => by
      by_cases q : st = k
      · subst q
        have := a3 s hs
        rw [show 4 * (ns - (st + 1)) + 4 = 4 * (ns - st) by omega] at this
        exact this
      · rw [(a2.1 102 _ (by omega)).1]; exact T st (by omega) h2 s hs)
    refine ⟨v2, ?_, (a2.wk (by omega)).trans b2, b3⟩
    unfold l_X12_rosters_38
    rw [nI_pred, if_neg (nI_pos (by omega)), jn_eq, a1]
    simp only [q_lt, nI_m]
    exact b1
theorem l_T158 {w v : Wd} {n ns : Nat} (D : D8 w v n ns) (T : TR w v ns 0) {i s c : Nat} (hi : i < ns) (hs : s < 256) (hc : c < 16) (h1 : ∀ d, d < c → f_X7_fewestWith w (nI i) (nI s) (nI d) ≠ some (wS w (32 + i) s)) (h2 : f_X7_fewestWith w (nI i) (nI s) (nI c) = some (wS w (32 + i) s)) (J : Int32 → Option (Int32 × Wd)) : ∀ (m d f : Nat), d + m = c → m < f → l_X12_rosters_158 (nI i) (nI s) v J f (nI d) = J (nI c)
  | m, d, f + 1, hd, hf => by
    obtain ⟨d1, d2, -⟩ := id D
    obtain ⟨x, y, k1, k2, k3⟩ := c_from D hi hs (show d < 16 by omega) (show 4 * (ns - (i + 1)) ≤ 900 by omega) (fun b hb => by rw [show 33 + i = 32 + (i + 1) by omega]; exact T (i + 1) (by omega) (by omega) b hb)
    have e := rl_eq k3 (T i (by omega) (by omega) s hs) (by omega) (by omega)
    unfold l_X12_rosters_158
    simp only [k2, bo_v, i256, ld_n (show 256 * i + s < 1792 by omega) (show 1792 < 2 ^ 31 by decide), q_lt, nI_1]
    rcases m with _ | m
    · have q : d = c := by omega
      subst q
      rw [if_pos (e.mp (Option.some.inj (k1.symm.trans h2)))]
    · rw [if_neg (fun z => h1 d (by omega) (by rw [k1, e.mpr z]))]
      exact l_T158 D T hi hs hc h1 h2 J m (d + 1) f (by omega) (by omega)
theorem l_T148 {w : Wd} {n ns : Nat} (J : Wd → Option (Int32 × Wd)) : ∀ (m i s f : Nat) (v : Wd), D8 w v n ns → TR w v ns 0 → i + m = ns → m < f → s < 256 → wS w (32 + i) s < 1000 → Ch w m i s → (∀ j, j < i → wS v 103 j = wS w 39 j) → ∃ v', l_X12_rosters_148 J f v (nI i) (nI s) = J v' ∧ G8 v v' ∧ (∀ j, wS v' 102 j = wS v 102 j) ∧ ∀ j, j < ns → wS v' 103 j = wS w 39 j
  | 0, i, s, f + 1, v, D, T, hi, _, _, _, _, h => by
    unfold l_X12_rosters_148
    simp only [q_gt, D.2.2.2.2.2.1, if_pos (nI_le (show ns ≤ i by omega) (show i < 2 ^ 31 by have := D.2.1; omega))]
    exact ⟨v, rfl, G8.refl, fun _ => rfl, fun j hj => h j (by omega)⟩
  | m + 1, i, s, f + 1, v, D, T, hi, hf, hs, hF, C, h => by
    obtain ⟨d1, d2, d3, d4, d5, d6, -⟩ := id D
    have hin : i < ns := by omega
    obtain ⟨c, c1, c2, c3, c4, b, b1, b2, b3, b4⟩ := C
    have g1 : G8 v (sI v 103 i (nI c)) := G8.sI (Or.inr rfl)
    have D1 := D.fr (F8.refl (w := w)) g1
    have T1 : TR w (sI v 103 i (nI c)) ns 0 := fun st x1 x2 t ht => by
      rw [wS_sI, if_neg (by omega)]; exact T st x1 x2 t ht
    obtain ⟨v', k1, k2, k4, k3⟩ := l_T148 J m (i + 1) b f (sI v 103 i (nI c)) D1 T1 (by omega) (by omega) b1 (by rw [show 32 + (i + 1) = 33 + i by omega]; exact b3) b4 (fun j hj => by
      rw [wS_sI]
      by_cases q : j = i
      · rw [if_pos ⟨rfl, q⟩, q, c2]
      · rw [if_neg (by omega)]; exact h j (by omega))
    refine ⟨v', ?_, g1.trans k2, fun j => by rw [k4 j, wS_sI, if_neg (by omega)], k3⟩
    unfold l_X12_rosters_148
    simp only [q_gt, d6, if_neg (nI_ge (show i < ns by omega) (by omega))]
    have z := l_T158 D T hin hs c1 c3 c4 (fun x3_186 => q_st v 103 6 (nI i) x3_186 (fun w_192 => q_bo (f_X12_after w_192 (nI i) (nI s) x3_186) (fun v_197 => q_lt (nI i + (1 : Int32)) (fun v_201 => l_X12_rosters_148 J f w_192 v_201 v_197)))) c 0 FU (by omega) (by unfold FU; omega)
    rw [nI_0] at z
    rw [jn_eq, z, st_n (show i < 6 by omega) (show 6 < 2 ^ 31 by decide)]
    rcases c_after D1 hin hs (nI c) with ⟨-, q⟩ | ⟨b', hb', q1, q2, -⟩
    · rw [c4] at q
      rw [Option.some.inj q] at hF
      exact absurd hF (by decide)
    · have eb : nI b' = nI b := Option.some.inj (q2.symm.trans b2)
      rw [q1, eb]
      simp only [bo_v, q_lt, nI_1]
      exact k1
theorem c_rosters {w v : Wd} {n ns : Nat} (D : D8 w v n ns) (c : Ca w ns) : ∃ r v', f_X12_rosters v = some (r, v') ∧ G8 v v' ∧ ((r = -1 ∧ ¬ wS w 32 0 < 1000) ∨ (r = wS w 32 0 ∧ wS w 32 0 < 1000 ∧ r ≠ -1 ∧ ¬ r = -3 ∧ ∀ j, j < ns → wS v' 103 j = wS w 39 j)) := by
  obtain ⟨d1, d2, d3, d4, d5, d6, -⟩ := id D
  obtain ⟨c1, c2, c3⟩ := c
  unfold f_X12_rosters
  rw [jn_eq]
  obtain ⟨v1, a1, a2, a3⟩ := l_T2 d2 (fun w_31j => q_gt w_31j 63 52 (fun v_32 => q_lt (v_32 - (1 : Int32)) (fun v_37 => q_jn (fun (w_132j : Wd) => q_ld w_132j 102 1792 (0 : Int32) (fun v_137 => if v_137 = (-1 : Int32) then some ((-1 : Int32), w_132j) else q_jn (fun (w_207j : Wd) => q_ld w_207j 102 1792 (0 : Int32) (fun v_212 => some (v_212, w_207j))) (fun j_207 => l_X12_rosters_148 j_207 FU w_132j (0 : Int32) (0 : Int32)))) (fun j_132 => l_X12_rosters_38 j_132 FU w_31j v_37)))) 256 0 FU v d6 (by omega) (by unfold FU; omega) (fun t ht => absurd ht (Nat.not_lt_zero t))
  rw [nI_0] at a1
  rw [a1]
  have D1 := D.fr (F8.refl (w := w)) a2.G
  simp only [q_gt, q_lt]
  rw [D1.2.2.2.2.2.1, jn_eq]
  obtain ⟨v2, b1, b2, b3⟩ := l_T38 c2 (fun w_132j => q_ld w_132j 102 1792 (0 : Int32) (fun v_137 => if v_137 = (-1 : Int32) then some ((-1 : Int32), w_132j) else q_jn (fun (w_207j : Wd) => q_ld w_207j 102 1792 (0 : Int32) (fun v_212 => some (v_212, w_207j))) (fun j_207 => l_X12_rosters_148 j_207 FU w_132j (0 : Int32) (0 : Int32)))) ns FU v1 D1 (Nat.le_refl _) (by unfold FU; omega) (fun st h1 h2 s hs => by
    have e : st = ns := by omega
    subst e
    rw [a3 s hs, c1 s hs]
    exact Or.inr ⟨0, by omega, rfl, rfl⟩)
  rw [b1]
  have D2 := D1.fr (F8.refl (w := w)) b2.G
  have r0 := b3 0 (by omega) (by omega) 0 (by decide)
  have r0' : rl (4 * ns) (wS w 32 0) (wS v2 102 0) := r0
  simp only [ld_0 (show 0 < 1792 by decide) (show 1792 < 2 ^ 31 by decide)]
  rcases r0' with ⟨x1, x2⟩ | ⟨t, ht, x1, x2⟩
  · rw [if_pos x2]
    exact ⟨_, v2, rfl, (a2.trans b2).G, Or.inl ⟨rfl, by rw [x1]; decide⟩⟩
  · have hlt : wS w 32 0 < 1000 := by rw [x1, ← n1000]; exact (nI_ltI (by omega) (by omega)).mpr (by omega)
    rw [if_neg (by rw [x2]; exact nI_m1 (by omega)), jn_eq]
    obtain ⟨v3, e1, e2, e4, e3⟩ := l_T148 (fun w_207j => some (wS w_207j 102 0, w_207j)) ns 0 0 FU v2 D2 b3 (by omega) (by unfold FU; omega) (by decide) hlt (c3 hlt) (fun j hj => absurd hj (Nat.not_lt_zero j))
    rw [nI_0] at e1
    rw [e1]
    refine ⟨_, v3, rfl, ((a2.trans b2).G).trans e2, Or.inr ⟨by rw [e4 0, x1, x2], hlt, ?_, ?_, e3⟩⟩
    · rw [e4 0, x2]; exact nI_m1 (by omega)
    · rw [e4 0, x2]
      intro z
      have h := nI_pos' (n := t) (by omega)
      rw [z] at h
      exact absurd h (by decide)
