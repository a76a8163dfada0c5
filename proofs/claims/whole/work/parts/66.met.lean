/-! ===== what a laid car meets: houses, eaves, wires ===== -/
def St5 (w v : Wd) (c s : Nat) : Prop := ∀ i, i < s → (wS w (K5 c + 1) i = wS v 81 (5 * c + i) ∧ bt 1 99 (wS w (K5 c + 1) i)) ∧ (wS w (K5 c + 2) i = wS v 82 (5 * c + i) ∧ bt 1 30 (wS w (K5 c + 2) i)) ∧ (wS w (K5 c + 3) i = wS v 83 (5 * c + i) ∧ bt 1 30 (wS w (K5 c + 3) i))
def Mt (w v : Wd) (c s : Nat) (x y h : Int32) : Prop := (c < 4 ∧ s ≤ 5) ∧ (wS w (K5 c) 7 = nI s ∧ wS v 80 c = nI s) ∧ A5 w v c ∧ St5 w v c s ∧ (∀ i, i < s → Laid w w c i x y h) ∧ (wS v 63 31 = x ∧ wS v 63 32 = y ∧ wS v 63 33 = h) ∧ bt (-60000) 60000 x ∧ bt (-60000) 60000 y ∧ bt (-100) 100 h
theorem five (c i : Nat) : (5 : Int32) * nI c + nI i = nI (5 * c + i) := by
  have e5 : (5 : Int32) * nI c = nI (5 * c) := (Int32.ofNat_mul 5 c).symm
  rw [e5, nI_add]
theorem halfL {w v : Wd} {c s i : Nat} (hc : c < 4) (hs : s ≤ 5) (A : A5 w v c) (S : St5 w v c s) (hi : i < s) : f_X12_halfLong v (nI c) (nI i) = some (hlS w c i) ∧ f_X12_halfBroad v (nI c) (nI i) = some (hbS w c i) := by
  have H := S i hi
  unfold f_X12_halfLong f_X12_halfBroad hlS hbS
  simp only [q_lt, five, ld_n (show 5 * c + i < 20 by omega) (show 20 < 2 ^ 31 by decide), ld_n hc (show 4 < 2 ^ 31 by decide), ← H.1.1, ← H.2.1.1, ← H.2.2.1, ← A.2.2.2.2.1.1, and_self]
theorem two_x {x : Int32} (h : bt (-60000) 60000 x) : bt (-120000) 120000 (2 * x) := by
  have v := (V.lit (a := 2) (z := 2) (by decide)).mul (V.of (M := 60000) h (by decide) (by decide)) (by decide)
  have := h.1
  have := h.2
  exact ⟨by rw [v.1]; omega, by rw [v.1]; omega⟩
theorem tbM {w v : Wd} {c s i m n k bx : Nat} {x y h o : Int32} (M : Mt w v c s x y h) (hi : i < s) (b : bxR w bx v m (4 * k)) (bo : bxO w bx) (ho : bt 0 9 o) (hk : 4 * k + 3 < n) (hn : n < 2 ^ 31) :
    f_X12_touchesBox v (nI c) (nI i) m n (nI k) o = some (f_X5_touchesBox w (K5 c + 5 + i) bx o) := by
  obtain ⟨⟨hc, hs⟩, -, A, S, L, ⟨x1, y1, h1⟩, bx1, by1, bh1⟩ := M
  obtain ⟨e1, e2⟩ := halfL hc hs A S hi
  rw [touchBox_eq (L i hi) bo ho (hl_b A (S i hi).1.2 (S i hi).2.1.2) (hb_b A (S i hi).1.2 (S i hi).2.2.2) (two_x bx1) (two_x by1) bh1]
  unfold f_X12_touchesBox
  simp only [q_gt, q_lt, q_jn, q_pt, q_bo, q_bi, nI_mul4, nI_1, nI_p2, nI_p3, ld_n (show 4 * k < n by omega) hn, ld_n (show 4 * k + 1 < n by omega) hn, ld_n (show 4 * k + 2 < n by omega) hn, ld_n hk hn, x1, y1, h1, e1, e2, ← b.1, ← b.2.1, ← b.2.2.1, ← b.2.2.2]
theorem b0_9 : bt 0 9 (0 : Int32) := ⟨by decide, by decide⟩
theorem tb_01 (w : Wd) (q k : Nat) (o : Int32) : f_X5_touchesBox w q k o = 0 ∨ f_X5_touchesBox w q k o = 1 := by
  unfold f_X5_touchesBox
  simp only [q_lt]
  repeat' split
  all_goals first | exact Or.inl rfl | exact Or.inr rfl
/-- one house's walls -/
theorem l_houseIn {w v : Wd} {c s k : Nat} {x y h : Int32} (M : Mt w v c s x y h) (hk : k < 20) (H : R1i w v k) (J : Option Int32) : ∀ (m i f : Nat), i + m = s → m < f →
    (l_X8_houseMet_12 (K5 c) w (nI k) J f (nI i) = J ∧ l_X12_meetsHouse_2 (nI c) (nI k) v f (nI i) = some 0) ∨ (l_X8_houseMet_12 (K5 c) w (nI k) J f (nI i) = some (nI k) ∧ l_X12_meetsHouse_2 (nI c) (nI k) v f (nI i) = some 1)
  | 0, i, f + 1, hi, _ => by
    obtain ⟨⟨hc, hs⟩, ⟨s1, s2⟩, -⟩ := M
    unfold l_X8_houseMet_12 l_X12_meetsHouse_2
    simp only [q_gt, s1, ld_n hc (show 4 < 2 ^ 31 by decide), s2, if_pos (nI_le (show s ≤ i by omega) (by omega))]
    exact Or.inl ⟨trivial, trivial⟩
  | m + 1, i, f + 1, hi, hf => by
    have IH := l_houseIn M hk H J m (i + 1) f (by omega) (by omega)
    have M' := M
    obtain ⟨⟨hc, hs⟩, ⟨s1, s2⟩, A, S, L, -⟩ := M'
    have hi5 : i < 5 := by omega
    unfold l_X8_houseMet_12 l_X12_meetsHouse_2
    simp only [q_gt, q_lt, q_jn, q_pt, q_bo, q_bi, s1, s2, ld_n hc (show 4 < 2 ^ 31 by decide), if_neg (nI_ge (show i < s by omega) (by omega)), ld_n hk (show 20 < 2 ^ 31 by decide), footC s1 hs (show i ≤ s by omega), footM hc hs (fun i hi => (S i hi).1.1) (show i ≤ s by omega), ldq_n hi5 (show 5 < 2 ^ 31 by decide) (A.2.2.2.2.2 i hi5), rt_rect hc, ldq_n hk (show 20 < 2 ^ 31 by decide) H.1, rt_10, nI_1, ← H.2.2.2.1.1, tbM M (show i < s by omega) H.2.1 H.2.2.1 b0_9 (show 4 * k + 3 < 80 by omega) (show 80 < 2 ^ 31 by decide)]
    by_cases p : wS w 11 k ≤ foot w c i
    · rw [if_pos p, if_pos p]; exact IH
    · rw [if_neg p, if_neg p]
      rcases tb_01 w (K5 c + 5 + i) (300 + k) 0 with q | q
      · rw [q, if_pos rfl, if_pos rfl]; exact IH
      · rw [q, if_neg one0, if_neg one0]; exact Or.inr ⟨rfl, rfl⟩
theorem l_houses {w v : Wd} {c s n : Nat} {x y h : Int32} (M : Mt w v c s x y h) (hn : n ≤ 20) (e1 : wS w 2 4 = nI n) (e2 : wS v 63 0 = nI n) (H : ∀ i, i < n → R1i w v i) (J : Option Int32) (F : Int32 → Option Int32) : ∀ (m k f : Nat), k + m = n → m < f →
    (l_X8_houseMet_2 (K5 c) w f (nI k) = some (-1) ∧ l_X12_meetsNow_2 (nI c) v J F f (nI k) = J) ∨ ∃ q, q < n ∧ l_X8_houseMet_2 (K5 c) w f (nI k) = some (nI q) ∧ l_X12_meetsNow_2 (nI c) v J F f (nI k) = F (nI q)
  | 0, k, f + 1, hk, _ => by
    unfold l_X8_houseMet_2 l_X12_meetsNow_2
    simp only [q_gt, e1, e2, if_pos (nI_le (show n ≤ k by omega) (by omega))]
    exact Or.inl ⟨trivial, trivial⟩
  | m + 1, k, f + 1, hk, hf => by
    have IH := l_houses M hn e1 e2 H J F m (k + 1) f (by omega) (by omega)
    have I := l_houseIn M (show k < 20 by omega) (H k (by omega)) (l_X8_houseMet_2 (K5 c) w f (nI (k + 1))) s 0 FU (by omega) (by have := M.1.2; unfold FU; omega)
    unfold l_X8_houseMet_2 l_X12_meetsNow_2
    simp only [q_gt, q_lt, q_jn, q_pt, q_bo, q_bi, e1, e2, if_neg (nI_ge (show k < n by omega) (by omega)), nI_1, f_X12_meetsHouse]
    have z0 : (0 : Int32) = nI 0 := by decide
    rw [z0]
    rcases I with ⟨a, b⟩ | ⟨a, b⟩
    · rw [a, b]
      exact IH
    · rw [a, b]
      exact Or.inr ⟨k, by omega, rfl, rfl⟩
theorem l_eavesIn {w v : Wd} {c s k : Nat} {x y h : Int32} (M : Mt w v c s x y h) (hk : k < 20) (H : R1i w v k) (J : Option Int32) : ∀ (m i f : Nat), i + m = s → m < f →
    (l_X8_eavesMet_12 (K5 c) w (nI k) J f (nI i) = J ∧ l_X12_meetsEaves_2 (nI c) (nI k) v f (nI i) = some 0) ∨ (l_X8_eavesMet_12 (K5 c) w (nI k) J f (nI i) = some (nI k) ∧ l_X12_meetsEaves_2 (nI c) (nI k) v f (nI i) = some 1)
  | 0, i, f + 1, hi, _ => by
    obtain ⟨⟨hc, hs⟩, ⟨s1, s2⟩, -⟩ := M
    unfold l_X8_eavesMet_12 l_X12_meetsEaves_2
    simp only [q_gt, s1, ld_n hc (show 4 < 2 ^ 31 by decide), s2, if_pos (nI_le (show s ≤ i by omega) (by omega))]
    exact Or.inl ⟨trivial, trivial⟩
  | m + 1, i, f + 1, hi, hf => by
    have IH := l_eavesIn M hk H J m (i + 1) f (by omega) (by omega)
    have M' := M
    obtain ⟨⟨hc, hs⟩, ⟨s1, s2⟩, A, S, L, -⟩ := M'
    have hi5 : i < 5 := by omega
    unfold l_X8_eavesMet_12 l_X12_meetsEaves_2
    simp only [q_gt, q_lt, q_jn, q_pt, q_bo, q_bi, s1, s2, five, ld_n hc (show 4 < 2 ^ 31 by decide), if_neg (nI_ge (show i < s by omega) (by omega)), ld_n hk (show 20 < 2 ^ 31 by decide), ld_n (show 5 * c + i < 20 by omega) (show 20 < 2 ^ 31 by decide), height_c s1 hs (show i < s by omega), footC s1 hs (show i ≤ s by omega), footM hc hs (fun i hi => (S i hi).1.1) (show i ≤ s by omega), ldq_n hi5 (show 5 < 2 ^ 31 by decide) (A.2.2.2.2.2 i hi5), rt_rect hc, ldq_n hk (show 20 < 2 ^ 31 by decide) H.1, rt_10, nI_1, ← H.2.2.2.1.1, ← H.2.2.2.2.1.1, ← H.2.2.2.2.2.1, ← (S i (by omega)).1.1, tbM M (show i < s by omega) H.2.1 H.2.2.1 H.2.2.2.2.2.2 (show 4 * k + 3 < 80 by omega) (show 80 < 2 ^ 31 by decide)]
    by_cases p : wS w (K5 c + 1) i ≤ wS w 12 k
    · rw [if_pos p, if_pos p]; exact IH
    · rw [if_neg p, if_neg p]
      by_cases p2 : wS w 11 k + 5 ≤ foot w c i
      · rw [if_pos p2, if_pos p2]; exact IH
      · rw [if_neg p2, if_neg p2]
        rcases tb_01 w (K5 c + 5 + i) (300 + k) (wS w 13 k) with q | q
        · rw [q, if_pos rfl, if_pos rfl]; exact IH
        · rw [q, if_neg one0, if_neg one0]; exact Or.inr ⟨rfl, rfl⟩
theorem l_eaves {w v : Wd} {c s n : Nat} {x y h : Int32} (M : Mt w v c s x y h) (hn : n ≤ 20) (e1 : wS w 2 4 = nI n) (e2 : wS v 63 0 = nI n) (H : ∀ i, i < n → R1i w v i) (J : Option Int32) (F : Int32 → Option Int32) : ∀ (m k f : Nat), k + m = n → m < f →
    (l_X8_eavesMet_2 (K5 c) w f (nI k) = some (-1) ∧ l_X12_meetsNow_33 (nI c) v J F f (nI k) = J) ∨ ∃ q, q < n ∧ l_X8_eavesMet_2 (K5 c) w f (nI k) = some (nI q) ∧ l_X12_meetsNow_33 (nI c) v J F f (nI k) = F (nI q)
  | 0, k, f + 1, hk, _ => by
    unfold l_X8_eavesMet_2 l_X12_meetsNow_33
    simp only [q_gt, e1, e2, if_pos (nI_le (show n ≤ k by omega) (by omega))]
    exact Or.inl ⟨trivial, trivial⟩
  | m + 1, k, f + 1, hk, hf => by
    have IH := l_eaves M hn e1 e2 H J F m (k + 1) f (by omega) (by omega)
    have I := l_eavesIn M (show k < 20 by omega) (H k (by omega)) (l_X8_eavesMet_2 (K5 c) w f (nI (k + 1))) s 0 FU (by omega) (by have := M.1.2; unfold FU; omega)
    unfold l_X8_eavesMet_2 l_X12_meetsNow_33
    simp only [q_gt, q_lt, q_jn, q_pt, q_bo, q_bi, e1, e2, if_neg (nI_ge (show k < n by omega) (by omega)), nI_1, f_X12_meetsEaves]
    have z0 : (0 : Int32) = nI 0 := by decide
    rw [z0]
    rcases I with ⟨a, b⟩ | ⟨a, b⟩
    · rw [a, b]
      exact IH
    · rw [a, b]
      exact Or.inr ⟨k, by omega, rfl, rfl⟩
