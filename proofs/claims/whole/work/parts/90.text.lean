/-! ===== orders: the text, its parts, its fault ===== -/
def Tx (w v : Wd) (n : Nat) (T : Nat → Int32) : Prop := n ≤ 80 ∧ wS w 8 3 = nI n ∧ wS v 63 74 = nI n ∧ (∀ i, i < n → wS w 55 i = T i ∧ wS v 118 i = T i) ∧ ∀ i, n ≤ i → T i = -1
theorem Tx.fr {w v w' v' : Wd} {n : Nat} {T : Nat → Int32} (h : Tx w v n T) (hw : sm 11 w w') (hv : sm 11 v v') : Tx w' v' n T := by
  obtain ⟨h1, h2, h3, h4, h5⟩ := h
  refine ⟨h1, ((hw 8 3 rfl).1).trans h2, ((hv 63 74 rfl).1).trans h3, fun i hi => ?_, h5⟩
  rw [(hw 55 i rfl).1, (hv 118 i rfl).1]
  exact h4 i hi
theorem R11.T {w v : Wd} (h : R11 w v) : ∃ n T, Tx w v n T := by
  obtain ⟨n, hn, e1, e2, hh⟩ := h
  refine ⟨n, fun i => if i < n then wS w 55 i else -1, hn, e1, e2, fun i hi => ?_, fun i hi => if_neg (by omega)⟩
  show wS w 55 i = (if i < n then wS w 55 i else -1) ∧ wS v 118 i = (if i < n then wS w 55 i else -1)
  rw [if_pos hi]
  exact ⟨rfl, (hh i hi).1.symm⟩
theorem fun_lt {i n : Nat} (k : ¬ i < n) (hn : n < 2 ^ 31) (hi : i < 2 ^ 31) : nI n - 1 < nI i := by
  rw [← Int32.not_le]
  intro z
  exact k ((nI_ltI hi hn).mp ((sub1 hn).mp z))
theorem byte_c {w v : Wd} {n : Nat} {T : Nat → Int32} (h : Tx w v n T) {i : Nat} (hi : i < 1000) : f_X4_byteAt w (nI i) = some (T i) := by
  obtain ⟨h1, h2, h3, h4, h5⟩ := h
  unfold f_X4_byteAt
  simp only [q_gt, h2]
  by_cases k : i < n
  · rw [win_v k (by omega), if_neg one0, ld_n (show i < 80 by omega) (show 80 < 2 ^ 31 by decide), (h4 i k).1]
  · rw [win_f (Or.inr (fun_lt k (by omega) (by omega))), if_pos rfl, h5 i (by omega)]
theorem byte_r {w v : Wd} {n : Nat} {T : Nat → Int32} (h : Tx w v n T) {i : Nat} (hi : i < 1000) : f_X12_byteAt v (nI i) = some (T i) := by
  obtain ⟨h1, h2, h3, h4, h5⟩ := h
  unfold f_X12_byteAt
  simp only [q_gt, h3]
  by_cases k : i < n
  · rw [if_neg (nI_ge k (by omega)), ld_n (show i < 80 by omega) (show 80 < 2 ^ 31 by decide), (h4 i k).2]
  · rw [if_pos (nI_le (by omega) (by omega)), h5 i (by omega)]
/-- figures at a place, and their number -/
def fg (T : Nat → Int32) (i : Nat) : Nat := if f_X11_within (T i) 48 57 = 0 then 0 else if f_X11_within (T (i + 1)) 48 57 = 0 then 1 else 2
def nu (T : Nat → Int32) (i : Nat) : Int32 := if fg T i = 2 then 10 * (T i - 48) + T (i + 1) - 48 else T i - 48
theorem fg_le (T : Nat → Int32) (i : Nat) : fg T i ≤ 2 := by
  unfold fg
  by_cases h : f_X11_within (T i) 48 57 = 0
  · rw [if_pos h]; omega
  · rw [if_neg h]
    by_cases g : f_X11_within (T (i + 1)) 48 57 = 0
    · rw [if_pos g]; omega
    · rw [if_neg g]; omega
theorem m1_win : f_X11_within (-1) 48 57 = 0 := by decide
theorem fg_in {w v : Wd} {n : Nat} {T : Nat → Int32} (h : Tx w v n T) {i : Nat} (hi : i ≤ n) : i + fg T i ≤ n := by
  obtain ⟨h1, h2, h3, h4, h5⟩ := h
  unfold fg
  by_cases a : f_X11_within (T i) 48 57 = 0
  · rw [if_pos a]; omega
  · rw [if_neg a]
    have a1 : i < n := by
      by_cases k : i < n
      · exact k
      · rw [h5 i (by omega)] at a; exact absurd m1_win a
    by_cases b : f_X11_within (T (i + 1)) 48 57 = 0
    · rw [if_pos b]; omega
    · rw [if_neg b]
      by_cases k : i + 1 < n
      · omega
      · rw [h5 (i + 1) (by omega)] at b; exact absurd m1_win b
theorem fig_c {w v : Wd} {n : Nat} {T : Nat → Int32} (h : Tx w v n T) {i : Nat} (hi : i < 900) : f_X4_figuresAt w (nI i) = some (nI (fg T i)) := by
  unfold f_X4_figuresAt f_X4_isFigure fg
  rw [nI_1, byte_c h (show i < 1000 by omega), byte_c h (show i + 1 < 1000 by omega)]
  simp only [bo_v]
  by_cases a : f_X11_within (T i) 48 57 = 0
  · rw [if_pos a, if_pos a]; rfl
  · rw [if_neg a, if_neg a]
    by_cases b : f_X11_within (T (i + 1)) 48 57 = 0
    · rw [if_pos b, if_pos b]; rfl
    · rw [if_neg b, if_neg b]; rfl
theorem num_c {w v : Wd} {n : Nat} {T : Nat → Int32} (h : Tx w v n T) {i : Nat} (hi : i < 900) : f_X4_numberAt w (nI i) = some (nu T i) := by
  unfold f_X4_numberAt nu
  rw [byte_c h (show i < 1000 by omega), fig_c h hi]
  simp only [bo_v, q_lt]
  by_cases k : fg T i = 2
  · rw [if_pos k, k, if_pos (show nI 2 = (2 : Int32) from rfl), nI_1, byte_c h (show i + 1 < 1000 by omega)]
    rfl
  · rw [if_neg k, if_neg (show ¬ nI (fg T i) = (2 : Int32) from fun z => k ((nI_eq (b := 2) (by have := fg_le T i; omega) (by decide)).mp z))]
theorem most_eq (b : Int32) : f_X4_mostBehind b = f_X12_mostOf b := by
  unfold f_X4_mostBehind f_X12_mostOf
  by_cases h1 : b = 98
  · subst h1; decide
  by_cases h2 : b = 100
  · subst h2; decide
  by_cases h3 : b = 102
  · subst h3; decide
  by_cases h4 : b = 108
  · subst h4; decide
  by_cases h5 : b = 114
  · subst h5; decide
  by_cases h6 : b = 119
  · subst h6; decide
  simp only [h1, h2, h3, h4, h5, h6, if_false]
theorem let_of {b : Int32} (h : ¬ f_X12_mostOf b = -1) : b = 98 ∨ b = 100 ∨ b = 102 ∨ b = 108 ∨ b = 114 ∨ b = 119 := by
  unfold f_X12_mostOf at h
  by_cases h1 : b = 98
  · exact Or.inl h1
  by_cases h2 : b = 100
  · exact Or.inr (Or.inl h2)
  by_cases h3 : b = 102
  · exact Or.inr (Or.inr (Or.inl h3))
  by_cases h4 : b = 108
  · exact Or.inr (Or.inr (Or.inr (Or.inl h4)))
  by_cases h5 : b = 114
  · exact Or.inr (Or.inr (Or.inr (Or.inr (Or.inl h5))))
  by_cases h6 : b = 119
  · exact Or.inr (Or.inr (Or.inr (Or.inr (Or.inr h6))))
  simp only [h1, h2, h3, h4, h5, h6, if_false, not_true_eq_false] at h
theorem least_eq {b : Int32} (h : ¬ f_X12_mostOf b = -1) : f_X4_leastBehind b = f_X12_leastOf b := by
  rcases let_of h with rfl | rfl | rfl | rfl | rfl | rfl <;> decide
/-- only where the reading stands, and its number -/
def FrP (v v' : Wd) : Prop := (∀ p j, ¬ (p = 63 ∧ (j = 76 ∨ j = 77)) → wS v' p j = wS v p j ∧ wL v' p j = wL v p j) ∧ am v v'
theorem FrP.refl {w : Wd} : FrP w w := ⟨fun _ _ _ => ⟨rfl, rfl⟩, am.refl⟩
theorem FrP.trans {u v w : Wd} (h : FrP u v) (g : FrP v w) : FrP u w := ⟨fun p j a => ⟨(g.1 p j a).1.trans (h.1 p j a).1, (g.1 p j a).2.trans (h.1 p j a).2⟩, h.2.trans g.2⟩
theorem FrP.sI {w : Wd} {j : Nat} {x : Int32} (h : j = 76 ∨ j = 77) : FrP w (sI w 63 j x) := ⟨fun p q a => ⟨by rw [wS_sI, if_neg (by omega)], rfl⟩, am.sI⟩
theorem FrP.only {w w' : Wd} (h : FrP w w') : only 0 w w' := fun b h0 _ p j hp => h.1 p j (fun z => by
  obtain ⟨rfl, rfl | rfl⟩ := z
  all_goals exact h0 (hp.symm.trans rfl))
theorem FrP.mm {w w' : Wd} (h : FrP w w') : mm w w' := fun p j h1 => h.1 p j (by omega)
theorem Tx.P {w v v' : Wd} {n : Nat} {T : Nat → Int32} (h : Tx w v n T) (f : FrP v v') : Tx w v' n T := h.fr sm.refl (f.only 11 (by decide) (by decide))
/-- the figures behind a letter are read -/
theorem fig_r {w v : Wd} {n i : Nat} {T : Nat → Int32} (h : Tx w v n T) (hi : i < 500) (e : wS v 63 76 = nI i) (e7 : wS v 63 77 = 0) (J : Wd → Option (Int32 × Wd)) : ∃ v', l_X12_part_42 (nI i) J FU v = J v' ∧ FrP v v' ∧ wS v' 63 76 = nI (i + fg T i) ∧ (fg T i ≠ 0 → wS v' 63 77 = nu T i) := by
  have p2 : nI i + (2 : Int32) = nI (i + 2) := nI_p2 i
  have w48 : ∀ c : Int32, f_X11_within c 48 57 = 0 → (c < 48 ∨ 57 < c) := by
    intro c hc
    rcases win_c c 48 57 with k | ⟨k, -, -⟩
    · by_cases a : c < 48
      · exact Or.inl a
      · by_cases b : 57 < c
        · exact Or.inr b
        · have := win_t (Int32.not_lt.mp a) (Int32.not_lt.mp b)
          rw [this] at hc
          exact absurd hc one0
    · rw [k] at hc; exact absurd hc one0
  have w49 : ∀ c : Int32, ¬ f_X11_within c 48 57 = 0 → ¬ c < 48 ∧ ¬ 57 < c := by
    intro c hc
    rcases win_c c 48 57 with k | ⟨_, k1, k2⟩
    · exact absurd k hc
    · exact ⟨Int32.not_lt.mpr k1, Int32.not_lt.mpr k2⟩
  have stop : ∀ (f : Nat) (u : Wd) (j : Nat), Tx w u n T → j < 600 → wS u 63 76 = nI j → j < i + 2 → f_X11_within (T j) 48 57 = 0 → l_X12_part_42 (nI i) J (f + 1) u = J u := by
    intro f u j hu hj eu hlt hc
    unfold l_X12_part_42
    simp only [q_gt, eu, p2, if_neg (nI_ge hlt (by omega)), byte_r hu (show j < 1000 by omega), bo_v]
    rcases w48 _ hc with k | k
    · rw [if_pos k]
    · rw [if_pos k]
      by_cases k2 : T j < 48
      · rw [if_pos k2]
      · rw [if_neg k2]
  have step : ∀ (f : Nat) (u : Wd) (j : Nat), Tx w u n T → j < 600 → wS u 63 76 = nI j → j < i + 2 → ¬ f_X11_within (T j) 48 57 = 0 → l_X12_part_42 (nI i) J (f + 1) u = l_X12_part_42 (nI i) J f (sI (sI u 63 77 (10 * wS u 63 77 + T j - 48)) 63 76 (nI (j + 1))) := by
    intro f u j hu hj eu hlt hc
    obtain ⟨k1, k2⟩ := w49 _ hc
    have e2 : wS (sI u 63 77 (10 * wS u 63 77 + T j - 48)) 63 76 = nI j := by rw [wS_sI, if_neg (by omega)]; exact eu
    rw [l_X12_part_42]
    simp only [q_gt, q_pt, eu, p2, if_neg (nI_ge hlt (by omega)), byte_r hu (show j < 1000 by omega), bo_v, if_neg k1, if_neg k2, e2, nI_1]
  have two : ∀ (f : Nat) (u : Wd), wS u 63 76 = nI (i + 2) → l_X12_part_42 (nI i) J (f + 1) u = J u := by
    intro f u eu
    unfold l_X12_part_42
    simp only [q_gt, eu, p2, if_pos (nI_le (Nat.le_refl (i + 2)) (show i + 2 < 2 ^ 31 by omega))]
  have c0 : ∀ c : Int32, (10 : Int32) * 0 + c - 48 = c - 48 := fun c => by rw [Int32.mul_zero, Int32.zero_add]
  rw [show FU = 999997 + 3 from rfl]
  unfold nu fg
  by_cases a : f_X11_within (T i) 48 57 = 0
  · rw [if_pos a]
    exact ⟨v, stop _ v i h (by omega) e (by omega) a, FrP.refl, e, fun k => absurd rfl k⟩
  · rw [if_neg a, step _ v i h (by omega) e (by omega) a, e7, c0]
    have f1 : FrP v (sI (sI v 63 77 (T i - 48)) 63 76 (nI (i + 1))) := (FrP.sI (Or.inr rfl)).trans (FrP.sI (Or.inl rfl))
    have e1 : wS (sI (sI v 63 77 (T i - 48)) 63 76 (nI (i + 1))) 63 76 = nI (i + 1) := by rw [wS_sI, if_pos ⟨rfl, rfl⟩]
    have e8 : wS (sI (sI v 63 77 (T i - 48)) 63 76 (nI (i + 1))) 63 77 = T i - 48 := by rw [wS_sI, if_neg (by omega), wS_sI, if_pos ⟨rfl, rfl⟩]
    by_cases b : f_X11_within (T (i + 1)) 48 57 = 0
    · rw [if_pos b]
      refine ⟨_, stop _ _ (i + 1) (h.P f1) (by omega) e1 (by omega) b, f1, e1, fun _ => ?_⟩
      rw [e8, if_neg (by decide)]
    · rw [if_neg b, step _ _ (i + 1) (h.P f1) (by omega) e1 (by omega) b, e8]
      refine ⟨_, two _ _ ?_, f1.trans ((FrP.sI (Or.inr rfl)).trans (FrP.sI (Or.inl rfl))), ?_, fun _ => ?_⟩
      · rw [wS_sI, if_pos ⟨rfl, rfl⟩]
      · rw [wS_sI, if_pos ⟨rfl, rfl⟩]
      · rw [wS_sI, if_neg (by omega), wS_sI, if_pos ⟨rfl, rfl⟩, if_pos rfl]
/-- one order's part is well formed -/
def Go (T : Nat → Int32) (i : Nat) : Prop := ¬ f_X12_mostOf (T i) = -1 ∧ fg T (i + 1) ≠ 0 ∧ ¬ f_X11_within (nu T (i + 1)) (f_X12_leastOf (T i)) (f_X12_mostOf (T i)) = 0
theorem c_part {w v : Wd} {n i : Nat} {T : Nat → Int32} (h : Tx w v n T) (hi : i < 400) (e : wS v 63 76 = nI i) : ∃ r v', f_X12_part v = some (r, v') ∧ FrP v v' ∧
    ((f_X12_mostOf (T i) = -1 ∧ r = nI i) ∨ (¬ f_X12_mostOf (T i) = -1 ∧ ¬ Go T i ∧ r = nI (i + 1)) ∨ (Go T i ∧ r = -1 ∧ wS v' 63 76 = nI (i + 1 + fg T (i + 1)) ∧ wS v' 63 77 = nu T (i + 1))) := by
  unfold f_X12_part
  simp only [q_gt, q_pt, e, byte_r h (show i < 1000 by omega), bo_v, nI_1]
  by_cases a : f_X12_mostOf (T i) = -1
  · rw [if_pos a]
    exact ⟨_, v, rfl, FrP.refl, Or.inl ⟨a, rfl⟩⟩
  · rw [if_neg a]
    have f1 : FrP v (sI (sI v 63 76 (nI (i + 1))) 63 77 0) := (FrP.sI (Or.inl rfl)).trans (FrP.sI (Or.inr rfl))
    have e0 : wS (sI v 63 76 (nI (i + 1))) 63 76 = nI (i + 1) := by rw [wS_sI, if_pos ⟨rfl, rfl⟩]
    have e1 : wS (sI (sI v 63 76 (nI (i + 1))) 63 77 0) 63 76 = nI (i + 1) := by rw [wS_sI, if_neg (by omega), wS_sI, if_pos ⟨rfl, rfl⟩]
    have e2 : wS (sI (sI v 63 76 (nI (i + 1))) 63 77 0) 63 77 = 0 := by rw [wS_sI, if_pos ⟨rfl, rfl⟩]
    rw [e0, jn_eq]
    obtain ⟨v', k1, k2, k3, k4⟩ := fig_r (h.P f1) (show i + 1 < 500 by omega) e1 e2 (fun (w_114j : Wd) => if wS w_114j 63 76 = nI (i + 1) then some (nI (i + 1), w_114j) else if f_X12_in (wS w_114j 63 77) (f_X12_leastOf (T i)) (f_X12_mostOf (T i)) = 0 then some (nI (i + 1), w_114j) else some (-1, w_114j))
    have hf := fg_le T (i + 1)
    rw [k1, k3]
    by_cases b : fg T (i + 1) = 0
    · rw [b, if_pos rfl]
      exact ⟨_, v', rfl, f1.trans k2, Or.inr (Or.inl ⟨a, fun g => g.2.1 b, rfl⟩)⟩
    · rw [if_neg (fun z => b (by have := (nI_eq (by omega) (by omega)).mp z; omega)), k4 b, in_eq]
      by_cases d : f_X11_within (nu T (i + 1)) (f_X12_leastOf (T i)) (f_X12_mostOf (T i)) = 0
      · rw [if_pos d]
        exact ⟨_, v', rfl, f1.trans k2, Or.inr (Or.inl ⟨a, fun g => g.2.2 d, rfl⟩)⟩
      · rw [if_neg d]
        exact ⟨_, v', rfl, f1.trans k2, Or.inr (Or.inr ⟨⟨a, b, d⟩, rfl, k3, k4 b⟩)⟩
/-- orders from place i on are well formed -/
def Vd (T : Nat → Int32) (n : Nat) : Nat → Nat → Prop
  | 0, _ => False
  | m + 1, i => i < n ∧ Go T i ∧ (i + 1 + fg T (i + 1) = n ∨ (i + 1 + fg T (i + 1) < n ∧ Vd T n m (i + 2 + fg T (i + 1))))
theorem go_lt {w v : Wd} {n i : Nat} {T : Nat → Int32} (h : Tx w v n T) (g : Go T i) : i < n := by
  by_cases k : i < n
  · exact k
  · have := g.1
    rw [h.2.2.2.2 i (by omega)] at this
    exact absurd (by decide) this
theorem l_fault {w v0 : Wd} {n : Nat} {T : Nat → Int32} (h : Tx w v0 n T) : ∀ (m i f g : Nat) (v : Wd), FrP v0 v → wS v 63 76 = nI i → i ≤ n → n < i + m → m ≤ f → m ≤ g →
    ∃ r v', l_X4_faultPlace_2 w (some (nI n)) (fun x => some (x + 1)) f (nI i) = some r ∧ q_bi (f_X12_part v) (fun v_6 w_6 => l_X12_faultNow_10 (fun w_39j => some (wS w_39j 63 76, w_39j)) g w_6 v_6) = some (r, v') ∧ FrP v0 v' ∧ (r = -1 → Vd T n m i)
  | 0, i, f, g, v, _, _, h1, h2, _, _ => by omega
  | m + 1, i, f, g, v, F, e, h1, h2, hf, hg => by
    obtain ⟨f, rfl⟩ : ∃ k, f = k + 1 := ⟨f - 1, by omega⟩
    obtain ⟨g, rfl⟩ : ∃ k, g = k + 1 := ⟨g - 1, by omega⟩
    have hn : n ≤ 80 := h.1
    have hv := h.P F
    obtain ⟨r, v', k1, k2, k3⟩ := c_part hv (show i < 400 by omega) e
    have ff := fg_le T (i + 1)
    rw [k1]
    simp only [bi_v]
    unfold l_X4_faultPlace_2 l_X12_faultNow_10
    simp only [q_gt, q_pt, h.2.1, byte_c h (show i < 1000 by omega), bo_v, nI_1, fig_c h (show i + 1 < 900 by omega), num_c h (show i + 1 < 900 by omega), most_eq]
    rcases k3 with ⟨a1, rfl⟩ | ⟨a0, a1, rfl⟩ | ⟨a1, rfl, a2, a3⟩
    · rw [if_neg (nI_m1 (q := i) (by omega)), if_pos a1]
      refine ⟨nI i, v', ?_, rfl, F.trans k2, fun z => absurd z (nI_m1 (q := i) (by omega))⟩
      by_cases q : i = n
      · rw [if_pos (nI_le (show n ≤ i by omega) (by omega)), q]
      · rw [if_neg (nI_ge (show i < n by omega) (by omega))]
    · rw [if_neg (nI_m1 (q := i + 1) (by omega))]
      have hlt : i < n := by
        by_cases k : i < n
        · exact k
        · rw [h.2.2.2.2 i (by omega)] at a0
          exact absurd (by decide) a0
      refine ⟨nI (i + 1), v', ?_, rfl, F.trans k2, fun z => absurd z (nI_m1 (q := i + 1) (by omega))⟩
      rw [if_neg (nI_ge hlt (by omega)), if_neg a0]
      by_cases b : fg T (i + 1) = 0
      · rw [b, if_pos (show nI 0 = (0 : Int32) from nI_0)]
      · rw [if_neg (fun z => nI_ne0 (n := fg T (i + 1)) (by omega) (by omega) z), least_eq a0]
        have d : f_X11_within (nu T (i + 1)) (f_X12_leastOf (T i)) (f_X12_mostOf (T i)) = 0 := Decidable.byContradiction fun z => a1 ⟨a0, b, z⟩
        rw [if_pos d]
    · have hlt := go_lt h a1
      have hin := fg_in h (show i + 1 ≤ n by omega)
      have e1 : nI i + ((1 : Int32) + nI (fg T (i + 1))) = nI (i + 1 + fg T (i + 1)) := by
        rw [show (1 : Int32) + nI (fg T (i + 1)) = nI (1 + fg T (i + 1)) from nI_add 1 _, nI_add, Nat.add_assoc]
      rw [if_pos rfl, a2, (k2.1 63 74 (by omega)).1, hv.2.2.1, if_neg (nI_ge hlt (by omega)), if_neg a1.1, if_neg (fun z => nI_ne0 (n := fg T (i + 1)) (by have := a1.2.1; omega) (by omega) z), least_eq a1.1, if_neg a1.2.2]
      simp only [q_lt, e1]
      by_cases b : i + 1 + fg T (i + 1) = n
      · rw [b, if_pos rfl, if_pos (nI_le (Nat.le_refl n) (show n < 2 ^ 31 by omega))]
        exact ⟨-1, v', rfl, rfl, F.trans k2, fun _ => ⟨hlt, a1, Or.inl b⟩⟩
      · rw [if_neg (fun z => b ((nI_eq (by omega) (by omega)).mp z)), if_neg (nI_ge (show i + 1 + fg T (i + 1) < n by omega) (by omega)), byte_c h (show i + 1 + fg T (i + 1) < 1000 by omega), byte_r (hv.P k2) (show i + 1 + fg T (i + 1) < 1000 by omega)]
        simp only [bo_v, nI_1]
        by_cases d : T (i + 1 + fg T (i + 1)) = 59
        · rw [if_pos d, if_pos d]
          have f2 : FrP v' (sI v' 63 76 (nI (i + 1 + fg T (i + 1) + 1))) := FrP.sI (Or.inl rfl)
          obtain ⟨r, v2, i1, i2, i3, i4⟩ := l_fault h m (i + 1 + fg T (i + 1) + 1) f g _ ((F.trans k2).trans f2) (by rw [wS_sI, if_pos ⟨rfl, rfl⟩]) (by omega) (by omega) (by omega) (by omega)
          refine ⟨r, v2, i1, i2, i3, fun z => ⟨hlt, a1, Or.inr ⟨by omega, ?_⟩⟩⟩
          rw [show i + 2 + fg T (i + 1) = i + 1 + fg T (i + 1) + 1 by omega]
          exact i4 z
        · rw [if_neg d, if_neg d]
          exact ⟨_, v', rfl, rfl, F.trans k2, fun z => absurd z (nI_m1 (q := i + 1 + fg T (i + 1)) (by omega))⟩
theorem c_faultNow {w v : Wd} {n : Nat} {T : Nat → Int32} (h : Tx w v n T) : ∃ r v', f_X4_faultPlace w = some r ∧ f_X12_faultNow v = some (r, v') ∧ FrP v v' ∧ (r = -1 → Vd T n (n + 1) 0) := by
  have f1 : FrP v (sI v 63 76 0) := FrP.sI (Or.inl rfl)
  obtain ⟨r, v', k1, k2, k3, k4⟩ := l_fault h (n + 1) 0 FU FU (sI v 63 76 0) f1 (by rw [wS_sI, if_pos ⟨rfl, rfl⟩, nI_0]) (by omega) (by omega) (by have := h.1; unfold FU; omega) (by have := h.1; unfold FU; omega)
  rw [nI_0] at k1
  unfold f_X4_faultPlace f_X12_faultNow
  simp only [q_gt, q_pt, h.2.1]
  rw [jn_eq, jn_eq]
  simp only [jn_eq]
  exact ⟨r, v', k1, k2, k3, k4⟩
theorem c_fault {w v : Wd} (h : R11 w v) : ∃ r v', f_X11_fault w = some r ∧ f_X12_fault v = some (r, v') ∧ FrP v v' := by
  obtain ⟨n, T, t⟩ := h.T
  obtain ⟨r, v', k1, k2, k3, -⟩ := c_faultNow t
  unfold f_X11_fault f_X12_fault
  rw [k1, k2]
  exact ⟨r, v', rfl, rfl, k3⟩
