/-! ===== the class's tables: each row holds its own equation ===== -/
/-- worlds alike in what the reckoning of a row reads: teams, stages, run, and row k -/
def C8 (w w' : Wd) (k : Nat) : Prop := wS w' 5 1 = wS w 5 1 ∧ wS w' 5 4 = wS w 5 4 ∧ (∀ j, wS w' 29 j = wS w 29 j) ∧ (∀ j, wS w' 30 j = wS w 30 j) ∧ (∀ j, wS w' 31 j = wS w 31 j) ∧ ∀ j, wS w' k j = wS w k j
theorem C8.sb {w w' : Wd} {k : Nat} (h : C8 w w' k) (a b : Int32) : ∀ (f : Nat) (x y : Int32), l_X7_stateBehind_5 a b w' f x y = l_X7_stateBehind_5 a b w f x y
  | 0, _, _ => rfl
  | f + 1, x, y => by
    unfold l_X7_stateBehind_5
    simp only [q_gt, q_lt, q_jn, h.1, h.2.1, C8.sb h a b f]
theorem C8.ho {w w' : Wd} {k : Nat} (h : C8 w w' k) (a : Int32) : ∀ (f : Nat) (x y : Int32), l_X7_handsOf_4 a w' f x y = l_X7_handsOf_4 a w f x y
  | 0, _, _ => rfl
  | f + 1, x, y => by
    unfold l_X7_handsOf_4 q_ld
    simp only [q_gt, q_lt, q_jn, h.1, h.2.2.1, C8.ho h a f]
theorem C8.fw {w w' : Wd} {i : Nat} (hi : i < 6) (h : C8 w w' (33 + i)) (a b : Int32) : f_X7_fewestWith w' (nI i) a b = f_X7_fewestWith w (nI i) a b := by
  have e : (nI (i + 1)).toNatClampNeg = i + 1 := nI_clamp (by omega)
  unfold f_X7_fewestWith f_X7_stateBehind f_X7_handsOf
  rw [C8.sb h a b FU 0 0, C8.ho h b FU 0 0]
  unfold q_ldq q_ld
  simp only [nI_1, e, rt_31, show 32 + (i + 1) = 33 + i by omega, h.2.2.2.1, h.2.2.2.2.1, h.2.2.2.2.2]
theorem C8.fa {w w' : Wd} {i : Nat} (hi : i < 6) (h : C8 w w' (33 + i)) (a : Int32) : ∀ (f : Nat) (x y : Int32), l_X7_fewestAt_7 (nI i) a w' f x y = l_X7_fewestAt_7 (nI i) a w f x y
  | 0, _, _ => rfl
  | f + 1, x, y => by
    unfold l_X7_fewestAt_7
    simp only [q_gt, q_lt, h.1, C8.fw hi h a, C8.fa hi h a f]
theorem C8.at {w w' : Wd} {i : Nat} (hi : i < 6) (h : C8 w w' (33 + i)) (a : Int32) : f_X7_fewestAt w' (nI i) a = f_X7_fewestAt w (nI i) a := C8.fa hi h a FU 0 1000
theorem shl_t : ∀ n : Fin 5, (1 : Int32) <<< (nI n.val &&& 31) = nI (2 ^ n.val) ∧ 1 ≤ 2 ^ n.val ∧ 2 ^ n.val ≤ 16 := by decide +kernel
theorem shl_k {n : Nat} (h : n ≤ 4) : (1 : Int32) <<< (nI n &&& 31) = nI (2 ^ n) ∧ 1 ≤ 2 ^ n ∧ 2 ^ n ≤ 16 := shl_t ⟨n, by omega⟩
theorem pop_add {a : Nat} (h : a < 16) {x : Int32} (hx : ¬ x < 1000) (hb : bt 0 1000 x) : f_J9_min_7cf53 1000 (f_J6_bitCount_0f7a4 (nI a) + x) = 1000 := by
  rw [bc_k h]
  have p := pop_le a
  have v1 : V (nI (pop a)) (pop a : Int) 4 := ⟨nI_toInt (by omega), by omega⟩
  have v2 := v1.add (V.of (M := 1000) hb (by decide) (by decide)) (by decide)
  have o : (1000 : Int32).toInt = 1000 := by decide
  unfold f_J9_min_7cf53
  rw [if_neg]
  intro k
  rw [Int32.lt_iff_toInt_lt, v2.1, o] at k
  rw [Int32.lt_iff_toInt_lt, o] at hx
  omega
theorem bt_min {x y : Int32} (hx : bt 0 1000 x) (hy : bt 0 1000 y) : bt 0 1000 (f_J9_min_7cf53 x y) := by
  unfold f_J9_min_7cf53
  by_cases h : y < x
  · rw [if_pos h]; exact hy
  · rw [if_neg h]; exact hx
theorem pop_bt {a : Nat} (h : a < 16) {x : Int32} (hb : bt 0 1000 x) : bt 0 1000 (f_J9_min_7cf53 1000 (f_J6_bitCount_0f7a4 (nI a) + x)) := by
  rw [bc_k h]
  have p := pop_le a
  have v1 : V (nI (pop a)) (pop a : Int) 4 := ⟨nI_toInt (by omega), by omega⟩
  have v2 := v1.add (V.of (M := 1000) hb (by decide) (by decide)) (by decide)
  have o : (1000 : Int32).toInt = 1000 := by decide
  have h1 := hb.1
  unfold f_J9_min_7cf53
  by_cases k : nI (pop a) + x < 1000
  · rw [if_pos k]
    rw [Int32.lt_iff_toInt_lt, v2.1, o] at k
    exact ⟨by rw [v2.1]; omega, by rw [v2.1]; omega⟩
  · rw [if_neg k]; exact ⟨by decide, by decide⟩
/-- the reckoning of one place ends -/
theorem tot_at {w v : Wd} {n ns : Nat} (D : D8 w v n ns) {st s : Nat} (hst : st < ns) (hs : s < 256) (hB : ∀ b, b < 256 → bt 0 1000 (wS w (33 + st) b)) : ∀ (m i f : Nat) (x : Int32), i + m = 2 ^ n → m < f → bt 0 1000 x → ∃ y, l_X7_fewestAt_7 (nI st) (nI s) w f (nI i) x = some y ∧ bt 0 1000 y
  | 0, i, f + 1, x, hi, _, hx => by
    obtain ⟨d1, d2, d3, -⟩ := D
    obtain ⟨p1, p2, p3⟩ := shl_k d1
    unfold l_X7_fewestAt_7
    simp only [q_gt, d3, p1, if_pos (nI_le (show 2 ^ n ≤ i by omega) (by omega))]
    exact ⟨x, rfl, hx⟩
  | m + 1, i, f + 1, x, hi, hf, hx => by
    obtain ⟨d1, d2, d3, -⟩ := id D
    obtain ⟨p1, p2, p3⟩ := shl_k d1
    unfold l_X7_fewestAt_7
    simp only [q_gt, q_lt, d3, p1, if_neg (nI_ge (show i < 2 ^ n by omega) (by omega)), nI_1]
    rcases c_after D hst hs (nI i) with ⟨-, k⟩ | ⟨b, hb, -, -, k⟩
    · rw [k]; exact tot_at D hst hs hB m (i + 1) f _ (by omega) (by omega) (bt_min hx ⟨by decide, by decide⟩)
    · rw [k]; exact tot_at D hst hs hB m (i + 1) f _ (by omega) (by omega) (bt_min hx (pop_bt (show i < 16 by omega) (hB b hb)))
/-- the least of a row's place is what it began with, or some set's -/
theorem hit_at {w v : Wd} {n ns : Nat} (D : D8 w v n ns) {st s : Nat} (hst : st < ns) (hs : s < 256) : ∀ (m i f : Nat) (x y : Int32), i + m = 2 ^ n → m < f → l_X7_fewestAt_7 (nI st) (nI s) w f (nI i) x = some y → y = x ∨ ∃ c, c < 2 ^ n ∧ f_X7_fewestWith w (nI st) (nI s) (nI c) = some y
  | 0, i, f + 1, x, y, hi, _, h => by
    obtain ⟨d1, d2, d3, -⟩ := D
    obtain ⟨p1, p2, p3⟩ := shl_k d1
    unfold l_X7_fewestAt_7 at h
    simp only [q_gt, d3, p1, if_pos (nI_le (show 2 ^ n ≤ i by omega) (by omega))] at h
    exact Or.inl (Option.some.inj h).symm
  | m + 1, i, f + 1, x, y, hi, hf, h => by
    obtain ⟨d1, d2, d3, -⟩ := id D
    obtain ⟨p1, p2, p3⟩ := shl_k d1
    unfold l_X7_fewestAt_7 at h
    simp only [q_gt, q_lt, d3, p1, if_neg (nI_ge (show i < 2 ^ n by omega) (by omega)), nI_1] at h
    have key : ∀ z, f_X7_fewestWith w (nI st) (nI s) (nI i) = some z → l_X7_fewestAt_7 (nI st) (nI s) w f (nI (i + 1)) (f_J9_min_7cf53 x z) = some y → y = x ∨ ∃ c, c < 2 ^ n ∧ f_X7_fewestWith w (nI st) (nI s) (nI c) = some y := by
      intro z hz hl
      rcases hit_at D hst hs m (i + 1) f _ y (by omega) (by omega) hl with rfl | g
      · unfold f_J9_min_7cf53
        by_cases q : z < x
        · rw [if_pos q]; exact Or.inr ⟨i, by omega, hz⟩
        · rw [if_neg q]; exact Or.inl rfl
      · exact Or.inr g
    rcases c_after D hst hs (nI i) with ⟨-, k⟩ | ⟨b, -, -, -, k⟩
    · rw [k] at h; exact key _ k h
    · rw [k] at h; exact key _ k h
/-- row st is reckoned -/
def E8 (w : Wd) (st : Nat) : Prop := ∀ s, s < 256 → f_X7_fewestAt w (nI st) (nI s) = some (wS w (32 + st) s) ∧ bt 0 1000 (wS w (32 + st) s)
theorem E8.fr {w w' : Wd} {i : Nat} (hi : i < 6) (h : E8 w i) (c : C8 w w' (33 + i)) (r : ∀ j, wS w' (32 + i) j = wS w (32 + i) j) : E8 w' i := fun s hs => by
  rw [c.at hi, r]
  exact h s hs
/-- only row st changed -/
def H8 (k : Nat) (w w' : Wd) : Prop := (∀ p j, p ≠ k → wS w' p j = wS w p j ∧ wL w' p j = wL w p j) ∧ am w w'
theorem H8.refl {k : Nat} {w : Wd} : H8 k w w := ⟨fun _ _ _ => ⟨rfl, rfl⟩, am.refl⟩
theorem H8.trans {k : Nat} {u v w : Wd} (h : H8 k u v) (g : H8 k v w) : H8 k u w := ⟨fun p j a => ⟨(g.1 p j a).1.trans (h.1 p j a).1, (g.1 p j a).2.trans (h.1 p j a).2⟩, h.2.trans g.2⟩
theorem H8.sI {k j : Nat} {w : Wd} {x : Int32} : H8 k w (sI w k j x) := ⟨fun p q a => ⟨by rw [wS_sI, if_neg (by omega)], rfl⟩, am.sI⟩
theorem H8.C {k m : Nat} {w w' : Wd} (h : H8 k w w') (hk : 32 ≤ k) (hm : m ≠ k) : C8 w w' m := ⟨(h.1 5 1 (by omega)).1, (h.1 5 4 (by omega)).1, fun j => (h.1 29 j (by omega)).1, fun j => (h.1 30 j (by omega)).1, fun j => (h.1 31 j (by omega)).1, fun j => (h.1 m j hm).1⟩
theorem H8.F {k : Nat} {w w' : Wd} (h : H8 k w w') (h1 : 32 ≤ k) (h2 : k ≤ 39) : F8 w w' := ⟨fun p j _ b => h.1 p j (by omega), h.2⟩
theorem l_C34 {v : Wd} {n ns st : Nat} (hst : st < ns) (J : Wd → Option Wd) : ∀ (m s f : Nat) (w : Wd), D8 w v n ns → (∀ b, b < 256 → bt 0 1000 (wS w (33 + st) b)) → s + m = 256 → m < f → (∀ t, t < s → f_X7_fewestAt w (nI st) (nI t) = some (wS w (32 + st) t) ∧ bt 0 1000 (wS w (32 + st) t)) → ∃ w', l_X7_reckon_34 (nI st) J f w (nI s) = J w' ∧ H8 (32 + st) w w' ∧ E8 w' st
  | 0, s, f + 1, w, D, hB, hi, _, E => by
    unfold l_X7_reckon_34
    rw [if_pos (show (256 : Int32) ≤ nI s from (nI_leI (a := 256) (by decide) (by omega)).mpr (by omega))]
    exact ⟨w, rfl, H8.refl, fun t ht => E t (by omega)⟩
  | m + 1, s, f + 1, w, D, hB, hi, hf, E => by
    obtain ⟨d1, d2, d3, d4, d5, d6, d7, d8, -, d10⟩ := id D
    obtain ⟨p1, p2, p3⟩ := shl_k d1
    obtain ⟨y, hy, by1⟩ := tot_at D hst (show s < 256 by omega) hB (2 ^ n) 0 FU 1000 (by omega) (by unfold FU; omega) ⟨by decide, by decide⟩
    rw [nI_0] at hy
    have hy' : f_X7_fewestAt w (nI st) (nI s) = some y := hy
    have h1 : H8 (32 + st) w (sI w (32 + st) s y) := H8.sI
    have c1 : ∀ t, f_X7_fewestAt (sI w (32 + st) s y) (nI st) t = f_X7_fewestAt w (nI st) t := fun t => C8.at (by omega) (h1.C (by omega) (by omega)) t
    obtain ⟨w', k1, k2, k3⟩ := l_C34 hst J m (s + 1) f (sI w (32 + st) s y) (D.fr (h1.F (by omega) (by omega)) G8.refl) (fun b hb => by rw [(h1.1 (33 + st) b (by omega)).1]; exact hB b hb) (by omega) (by omega) (fun t ht => by
      rw [c1, wS_sI]
      by_cases hts : t = s
      · subst hts
        rw [if_pos ⟨rfl, rfl⟩]; exact ⟨hy', by1⟩
      · rw [if_neg (by omega)]; exact E t (by omega))
    unfold l_X7_reckon_34
    rw [if_neg (show ¬ (256 : Int32) ≤ nI s from fun k => by have := (nI_leI (a := 256) (by decide) (by omega)).mp k; omega), ldq_n (show st < 7 by omega) (show 7 < 2 ^ 31 by decide) (d10 st (by omega)), rt_31, hy']
    simp only [bo_v, st_n (show s < 256 by omega) (show 256 < 2 ^ 31 by decide), q_lt, nI_1]
    exact ⟨w', k1, h1.trans k2, k3⟩
theorem nI_m {k : Nat} : nI k + (-1 : Int32) = nI k - 1 := by rw [Int32.sub_eq_add_neg]
/-- the rows below k, downward -/
theorem l_C28 {v : Wd} {n ns : Nat} (J : Wd → Option Wd) : ∀ (k f : Nat) (w : Wd), D8 w v n ns → (∀ b, b < 256 → bt 0 1000 (wS w (32 + k) b)) → k ≤ ns → k < f → (∀ st, k ≤ st → st < ns → E8 w st) → ∃ w', l_X7_reckon_28 J f w (nI k - 1) = J w' ∧ F8 w w' ∧ (∀ j, wS w' 5 j = wS w 5 j) ∧ (∀ p j, 32 + k ≤ p → wS w' p j = wS w p j) ∧ ∀ st, st < ns → E8 w' st
  | 0, f + 1, w, D, _, _, _, E => by
    unfold l_X7_reckon_28
    rw [if_pos (show nI 0 - 1 < 0 by decide)]
    exact ⟨w, rfl, F8.refl, fun _ => rfl, fun _ _ _ => rfl, fun st h => E st (by omega) h⟩
  | k + 1, f + 1, w, D, hB, hk, hf, E => by
    obtain ⟨d1, d2, -⟩ := id D
    obtain ⟨w1, a1, a2, a3⟩ := l_C34 (show k < ns by omega) (fun w_61j => q_lt (nI k + (-1 : Int32)) (fun v_61 => l_X7_reckon_28 J f w_61j v_61)) 256 0 FU w D (fun b hb => by rw [show 33 + k = 32 + (k + 1) by omega]; exact hB b hb) (by omega) (by unfold FU; omega) (fun t ht => absurd ht (Nat.not_lt_zero t))
    rw [nI_0] at a1
    obtain ⟨w2, b1, b2, b5, b3, b4⟩ := l_C28 J k f w1 (D.fr (a2.F (by omega) (by omega)) G8.refl) (fun b hb => (a3 b hb).2) (by omega) (by omega) (fun st h1 h2 => by
      by_cases hs : st = k
      · rw [hs]; exact a3
      · exact (E st (by omega) h2).fr (by omega) (a2.C (by omega) (by omega)) (fun j => (a2.1 _ j (by omega)).1))
    refine ⟨w2, ?_, (a2.F (by omega) (by omega)).trans b2, fun j => (b5 j).trans (a2.1 5 j (by omega)).1, fun p j hp => (b3 p j (by omega)).trans (a2.1 p j (by omega)).1, b4⟩
    unfold l_X7_reckon_28
    rw [nI_pred, if_neg (nI_pos (by omega)), jn_eq, a1]
    simp only [q_lt, nI_m]
    exact b1
/-- the chosen sets from stage i on, state s before it: each the least that gives the row's number -/
def Ch (w : Wd) : Nat → Nat → Nat → Prop
  | 0, _, _ => True
  | m + 1, i, s => ∃ c, c < 16 ∧ wS w 39 i = nI c ∧ (∀ d, d < c → f_X7_fewestWith w (nI i) (nI s) (nI d) ≠ some (wS w (32 + i) s)) ∧ f_X7_fewestWith w (nI i) (nI s) (nI c) = some (wS w (32 + i) s) ∧ ∃ b, b < 256 ∧ f_X7_stateBehind w (nI s) (nI c) = some (nI b) ∧ wS w (33 + i) b < 1000 ∧ Ch w m (i + 1) b
theorem Ch.fr {w w' : Wd} (hc : ∀ i, i < 6 → C8 w w' (33 + i)) (h0 : ∀ j, wS w' 32 j = wS w 32 j) : ∀ (m i s : Nat), i + m ≤ 6 → (∀ j, i ≤ j → j < i + m → wS w' 39 j = wS w 39 j) → Ch w m i s → Ch w' m i s
  | 0, _, _, _, _, _ => trivial
  | m + 1, i, s, hi, h39, h => by
    have hr : ∀ j, wS w' (32 + i) j = wS w (32 + i) j := fun j => by
      rcases i with _ | i
      · exact h0 j
      · rw [show 32 + (i + 1) = 33 + i by omega]; exact (hc i (by omega)).2.2.2.2.2 j
    obtain ⟨c, c1, c2, c3, c4, b, b1, b2, b3, b4⟩ := h
    refine ⟨c, c1, (h39 i (by omega) (by omega)).trans c2, fun d hd => ?_, ?_, b, b1, ?_, ?_, Ch.fr hc h0 m (i + 1) b (by omega) (fun j h1 h2 => h39 j (by omega) (by omega)) b4⟩
    · rw [(hc i (by omega)).fw (by omega), hr]; exact c3 d hd
    · rw [(hc i (by omega)).fw (by omega), hr]; exact c4
    · exact ((hc i (by omega)).sb (nI s) (nI c) FU 0 0).trans b2
    · rw [(hc i (by omega)).2.2.2.2.2 b]; exact b3
/-- the class's search of one stage's set -/
theorem l_C14 {w v : Wd} {n ns : Nat} (D : D8 w v n ns) {i s c0 : Nat} (hi : i < ns) (hs : s < 256) (hc0 : c0 < 2 ^ n) (h0 : f_X7_fewestWith w (nI i) (nI s) (nI c0) = some (wS w (32 + i) s)) (J : Int32 → Option Wd) : ∀ (m d f : Nat), d + m = c0 → m < f → (∀ e, e < d → f_X7_fewestWith w (nI i) (nI s) (nI e) ≠ some (wS w (32 + i) s)) →
    ∃ c, c ≤ c0 ∧ l_X7_choose_14 (nI i) (nI s) w J f (nI d) = J (nI c) ∧ f_X7_fewestWith w (nI i) (nI s) (nI c) = some (wS w (32 + i) s) ∧ ∀ e, e < c → f_X7_fewestWith w (nI i) (nI s) (nI e) ≠ some (wS w (32 + i) s)
  | 0, d, f + 1, hd, _, hE => by
    obtain ⟨d1, d2, d3, d4, d5, d6, d7, d8, -, d10⟩ := id D
    obtain ⟨p1, p2, p3⟩ := shl_k d1
    have e : d = c0 := by omega
    subst e
    refine ⟨d, Nat.le_refl _, ?_, h0, hE⟩
    unfold l_X7_choose_14
    simp only [q_gt, d3, p1, nI_sub _ p2]
    by_cases k : nI (2 ^ n - 1) ≤ nI d
    · rw [if_pos k]
    · rw [if_neg k, h0]
      simp only [bo_v, ldq_n (show i < 7 by omega) (show 7 < 2 ^ 31 by decide) (d10 i (by omega)), rt_31, ld_n hs (show 256 < 2 ^ 31 by decide), if_true]
  | m + 1, d, f + 1, hd, hf, hE => by
    obtain ⟨d1, d2, d3, d4, d5, d6, d7, d8, -, d10⟩ := id D
    obtain ⟨p1, p2, p3⟩ := shl_k d1
    obtain ⟨z, hz⟩ : ∃ z, f_X7_fewestWith w (nI i) (nI s) (nI d) = some z := by
      rcases c_after D hi hs (nI d) with ⟨-, k⟩ | ⟨b, -, -, -, k⟩
      · exact ⟨_, k⟩
      · exact ⟨_, k⟩
    unfold l_X7_choose_14
    simp only [q_gt, d3, p1, nI_sub _ p2]
    rw [if_neg (fun k => by have := (nI_leI (show 2 ^ n - 1 < 2 ^ 31 by omega) (show d < 2 ^ 31 by omega)).mp k; omega), hz]
    simp only [bo_v, ldq_n (show i < 7 by omega) (show 7 < 2 ^ 31 by decide) (d10 i (by omega)), rt_31, ld_n hs (show 256 < 2 ^ 31 by decide), q_lt, nI_1]
    by_cases k : z = wS w (32 + i) s
    · rw [if_pos k]
      exact ⟨d, by omega, rfl, by rw [hz, k], hE⟩
    · rw [if_neg k]
      exact l_C14 D hi hs hc0 h0 J m (d + 1) f (by omega) (by omega) (fun e he => by
        by_cases q : e = d
        · rw [q, hz]; exact fun y => k (Option.some.inj y)
        · exact hE e (by omega))
theorem max_nI {b : Nat} (h : b < 256) : f_J9_max_7cf53 0 (nI b) = nI b := by
  unfold f_J9_max_7cf53
  rcases Nat.eq_zero_or_pos b with rfl | k
  · rw [nI_0]; rfl
  · rw [if_pos (show (0 : Int32) < nI b from (nI_ltI (a := 0) (by decide) (by omega)).mpr k)]
theorem l_C4 {v : Wd} {n ns : Nat} : ∀ (m i s f : Nat) (w : Wd), D8 w v n ns → i + m = ns → m < f → (∀ st, st < ns → E8 w st) → (∀ b, b < 256 → bt 0 1000 (wS w (32 + ns) b)) → s < 256 → wS w (32 + i) s < 1000 → ∃ w', l_X7_choose_4 f w (nI i) (nI s) = some w' ∧ H8 39 w w' ∧ (∀ j, j < i → wS w' 39 j = wS w 39 j) ∧ Ch w' m i s
  | 0, i, s, f + 1, w, D, hi, _, _, _, _, _ => by
    unfold l_X7_choose_4
    simp only [q_gt, D.2.2.2.2.1, if_pos (nI_le (show ns ≤ i by omega) (show i < 2 ^ 31 by have := D.2.1; omega))]
    exact ⟨w, rfl, H8.refl, fun _ _ => rfl, trivial⟩
  | m + 1, i, s, f + 1, w, D, hi, hf, E, hT, hs, hF => by
    obtain ⟨d1, d2, d3, d4, d5, d6, d7, d8, -, d10⟩ := id D
    obtain ⟨p1, p2, p3⟩ := shl_k d1
    have hin : i < ns := by omega
    obtain ⟨c0, hc0, h0⟩ : ∃ c, c < 2 ^ n ∧ f_X7_fewestWith w (nI i) (nI s) (nI c) = some (wS w (32 + i) s) := by
      have h := (E i hin s hs).1
      have h' : l_X7_fewestAt_7 (nI i) (nI s) w FU (nI 0) 1000 = some (wS w (32 + i) s) := by rw [nI_0]; exact h
      rcases hit_at D hin hs (2 ^ n) 0 FU 1000 _ (by omega) (by unfold FU; omega) h' with k | k
      · rw [k] at hF; exact absurd hF (by decide)
      · exact k
    obtain ⟨c, hc, k1, k2, k3⟩ := l_C14 D hin hs hc0 h0 (fun x3_50 => q_st w 39 6 (nI i) x3_50 (fun w_56 => q_bo (f_X7_stateBehind w_56 (nI s) x3_50) (fun v_61 => q_lt (f_J9_max_7cf53 (0 : Int32) v_61) (fun v_67 => q_lt (nI i + (1 : Int32)) (fun v_68 => l_X7_choose_4 f w_56 v_68 v_67))))) c0 0 FU (by omega) (by unfold FU; omega) (fun e he => absurd he (Nat.not_lt_zero e))
    rw [nI_0] at k1
    have hb33 : ∀ b, b < 256 → bt 0 1000 (wS w (33 + i) b) := fun b hb => by
      rw [show 33 + i = 32 + (i + 1) by omega]
      by_cases q : i + 1 = ns
      · rw [q]; exact hT b hb
      · exact (E (i + 1) (by omega) b hb).2
    obtain ⟨b, hb, b1, b2⟩ : ∃ b, b < 256 ∧ f_X7_stateBehind w (nI s) (nI c) = some (nI b) ∧ wS w (33 + i) b < 1000 := by
      rcases c_after D hin hs (nI c) with ⟨-, k⟩ | ⟨b, hb, -, q, k⟩
      · rw [k2] at k
        rw [Option.some.inj k] at hF
        exact absurd hF (by decide)
      · refine ⟨b, hb, q, ?_⟩
        by_cases g : wS w (33 + i) b < 1000
        · exact g
        · rw [k2, pop_add (show c < 16 by omega) g (hb33 b hb)] at k
          rw [Option.some.inj k] at hF
          exact absurd hF (by decide)
    have h1 : H8 39 w (sI w 39 i (nI c)) := H8.sI
    have D1 := D.fr (h1.F (by decide) (by decide)) (G8.refl (w := v))
    have E1 : ∀ st, st < ns → E8 (sI w 39 i (nI c)) st := fun st h => (E st h).fr (by omega) (h1.C (by decide) (by omega)) (fun j => (h1.1 _ j (by omega)).1)
    obtain ⟨w', r1, r2, r3, r4⟩ := l_C4 m (i + 1) b f (sI w 39 i (nI c)) D1 (by omega) (by omega) E1 (fun b hb => by rw [(h1.1 _ b (by omega)).1]; exact hT b hb) hb (by
      rw [(h1.1 _ b (by omega)).1, show 32 + (i + 1) = 33 + i by omega]; exact b2)
    have h2 := h1.trans r2
    refine ⟨w', ?_, h2, fun j hj => ?_, ?_⟩
    · unfold l_X7_choose_4
      simp only [q_gt, d5, if_neg (nI_ge (show i < ns by omega) (by omega))]
      rw [jn_eq, k1, st_n (show i < 6 by omega) (show 6 < 2 ^ 31 by decide)]
      have e : f_X7_stateBehind (sI w 39 i (nI c)) (nI s) (nI c) = some (nI b) := ((h1.C (m := 33) (by decide) (by decide)).sb (nI s) (nI c) FU 0 0).trans b1
      rw [e]
      simp only [bo_v, q_lt, max_nI hb, nI_1]
      exact r1
    · rw [r3 j (by omega), wS_sI, if_neg (by omega)]
    · have C := h2.C (m := 33 + i) (by decide) (by omega)
      have R : ∀ j, wS w' (32 + i) j = wS w (32 + i) j := fun j => (h2.1 _ j (by omega)).1
      refine ⟨c, by omega, ?_, fun d hd => ?_, ?_, b, hb, ?_, ?_, r4⟩
      · rw [r3 i (by omega), wS_sI, if_pos ⟨rfl, rfl⟩]
      · rw [C.fw (by omega), R]; exact k3 d hd
      · rw [C.fw (by omega), R]; exact k2
      · exact (C.sb (nI s) (nI c) FU 0 0).trans b1
      · rw [C.2.2.2.2.2 b]; exact b2
