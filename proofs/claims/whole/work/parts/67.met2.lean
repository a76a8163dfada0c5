/-! ===== wires and kerbs met ===== -/
theorem l_wireIn {w v : Wd} {c s k : Nat} {x y h : Int32} (M : Mt w v c s x y h) (hk : k < 10) (H : R3i w v k) (d : wS w 17 k = wS v 71 k) (J : Option Int32) : ∀ (m i f : Nat), i + m = s → m < f →
    (l_X8_wireMet_12 (K5 c) w (nI k) J f (nI i) = J ∧ l_X12_meetsWire_2 (nI c) (nI k) v f (nI i) = some 0) ∨ (l_X8_wireMet_12 (K5 c) w (nI k) J f (nI i) = some (nI k) ∧ l_X12_meetsWire_2 (nI c) (nI k) v f (nI i) = some 1)
  | 0, i, f + 1, hi, _ => by
    obtain ⟨⟨hc, hs⟩, ⟨s1, s2⟩, -⟩ := M
    unfold l_X8_wireMet_12 l_X12_meetsWire_2
    simp only [q_gt, s1, ld_n hc (show 4 < 2 ^ 31 by decide), s2, if_pos (nI_le (show s ≤ i by omega) (by omega))]
    exact Or.inl ⟨trivial, trivial⟩
  | m + 1, i, f + 1, hi, hf => by
    have IH := l_wireIn M hk H d J m (i + 1) f (by omega) (by omega)
    have M' := M
    obtain ⟨⟨hc, hs⟩, ⟨s1, s2⟩, A, S, L, -⟩ := M'
    have hi5 : i < 5 := by omega
    unfold l_X8_wireMet_12 l_X12_meetsWire_2
    simp only [q_gt, q_lt, q_jn, q_pt, q_bo, q_bi, s1, s2, five, ld_n hc (show 4 < 2 ^ 31 by decide), if_neg (nI_ge (show i < s by omega) (by omega)), ld_n hk (show 10 < 2 ^ 31 by decide), ld_n (show 5 * c + i < 20 by omega) (show 20 < 2 ^ 31 by decide), height_c s1 hs (show i < s by omega), footC s1 hs (show i ≤ s by omega), footM hc hs (fun i hi => (S i hi).1.1) (show i ≤ s by omega), ldq_n hi5 (show 5 < 2 ^ 31 by decide) (A.2.2.2.2.2 i hi5), rt_rect hc, ldq_n hk (show 10 < 2 ^ 31 by decide) H.1, rt_15, nI_1, ← H.2.2.2.1, ← d, ← (S i (by omega)).1.1, tbM M (show i < s by omega) H.2.1 H.2.2.1 b0_9 (show 4 * k + 3 < 40 by omega) (show 40 < 2 ^ 31 by decide)]
    by_cases p0 : wS w 17 k = 0
    · rw [if_pos p0, if_pos p0]
      by_cases p : wS w 16 k ≤ foot w c i
      · rw [if_pos p, if_pos p, if_pos trivial]; exact IH
      · rw [if_neg p, if_neg p]
        by_cases p2 : wS w (K5 c + 1) i < wS w 16 k
        · rw [if_pos p2, if_pos p2, if_pos trivial]; exact IH
        · rw [if_neg p2, if_neg p2, if_neg one0]
          rcases tb_01 w (K5 c + 5 + i) (350 + k) 0 with q | q
          · rw [q, if_pos rfl, if_pos rfl]; exact IH
          · rw [q, if_neg one0, if_neg one0]; exact Or.inr ⟨rfl, rfl⟩
    · rw [if_neg p0, if_neg p0, if_pos trivial]
      have st : ∀ (m i f : Nat), i + m = s → m < f → l_X12_meetsWire_2 (nI c) (nI k) v f (nI i) = some 0 := by
        intro m
        induction m with
        | zero =>
          intro i f hi hf
          obtain ⟨g, rfl⟩ : ∃ g, f = g + 1 := ⟨f - 1, by omega⟩
          unfold l_X12_meetsWire_2
          simp only [ld_n hc (show 4 < 2 ^ 31 by decide), s2, if_pos (nI_le (show s ≤ i by omega) (by omega))]
        | succ m ih =>
          intro i f hi hf
          obtain ⟨g, rfl⟩ : ∃ g, f = g + 1 := ⟨f - 1, by omega⟩
          unfold l_X12_meetsWire_2
          simp only [q_gt, q_lt, q_jn, q_pt, q_bo, q_bi, ld_n hc (show 4 < 2 ^ 31 by decide), s2, if_neg (nI_ge (show i < s by omega) (by omega)), ld_n hk (show 10 < 2 ^ 31 by decide), ← d, if_neg p0, if_true, nI_1]
          exact ih (i + 1) g (by omega) (by omega)
      exact Or.inl ⟨rfl, st m (i + 1) f (by omega) (by omega)⟩
theorem l_wires {w v : Wd} {c s n : Nat} {x y h : Int32} (M : Mt w v c s x y h) (hn : n ≤ 10) (e1 : wS w 2 10 = nI n) (e2 : wS v 63 7 = nI n) (H : ∀ i, i < n → R3i w v i) (D : ∀ i, i < 10 → wS w 17 i = wS v 71 i ∧ (wS w 17 i = 0 ∨ wS w 17 i = 1)) (J : Option Int32) (F : Int32 → Option Int32) : ∀ (m k f : Nat), k + m = n → m < f →
    (l_X8_wireMet_2 (K5 c) w f (nI k) = some (-1) ∧ l_X12_meetsNow_64 (nI c) v J F f (nI k) = J) ∨ ∃ q, q < n ∧ l_X8_wireMet_2 (K5 c) w f (nI k) = some (nI q) ∧ l_X12_meetsNow_64 (nI c) v J F f (nI k) = F (nI q)
  | 0, k, f + 1, hk, _ => by
    unfold l_X8_wireMet_2 l_X12_meetsNow_64
    simp only [q_gt, e1, e2, if_pos (nI_le (show n ≤ k by omega) (by omega))]
    exact Or.inl ⟨trivial, trivial⟩
  | m + 1, k, f + 1, hk, hf => by
    have IH := l_wires M hn e1 e2 H D J F m (k + 1) f (by omega) (by omega)
    have I := l_wireIn M (show k < 10 by omega) (H k (by omega)) (D k (by omega)).1 (l_X8_wireMet_2 (K5 c) w f (nI (k + 1))) s 0 FU (by omega) (by have := M.1.2; unfold FU; omega)
    unfold l_X8_wireMet_2 l_X12_meetsNow_64
    simp only [q_gt, q_lt, q_jn, q_pt, q_bo, q_bi, e1, e2, if_neg (nI_ge (show k < n by omega) (by omega)), nI_1, f_X12_meetsWire]
    have z0 : (0 : Int32) = nI 0 := by decide
    rw [z0]
    rcases I with ⟨a, b⟩ | ⟨a, b⟩
    · rw [a, b]
      exact IH
    · rw [a, b]
      exact Or.inr ⟨k, by omega, rfl, rfl⟩
theorem l_kerbIn {w v : Wd} {c s k : Nat} {x y h : Int32} (M : Mt w v c s x y h) (hk : k < 10) (H : R2i w v k) (J : Option Int32) : ∀ (m i f : Nat), i + m = 4 → m < f →
    (l_X8_kerbMet_15 (K5 c) x y h w (nI k) J f (nI i) = J ∧ l_X12_meetsKerb_7 (nI c) v (nI (4 * k)) f (nI i) = some 0) ∨ (l_X8_kerbMet_15 (K5 c) x y h w (nI k) J f (nI i) = some (nI k) ∧ l_X12_meetsKerb_7 (nI c) v (nI (4 * k)) f (nI i) = some 1)
  | 0, i, f + 1, hi, _ => by
    have q : (4 : Int32) ≤ nI i := nI_le (a := 4) (by omega) (by omega)
    unfold l_X8_kerbMet_15 l_X12_meetsKerb_7
    rw [if_pos q, if_pos q]
    exact Or.inl ⟨rfl, rfl⟩
  | m + 1, i, f + 1, hi, hf => by
    have IH := l_kerbIn M hk H J m (i + 1) f (by omega) (by omega)
    have M' := M
    obtain ⟨⟨hc, hs⟩, ⟨s1, s2⟩, A, S, L, ⟨x1, y1, h1⟩, -, -, bh⟩ := M'
    have q : ¬ (4 : Int32) ≤ nI i := nI_ge (b := 4) (by omega) (by decide)
    unfold l_X8_kerbMet_15 l_X12_meetsKerb_7
    simp only [q_gt, q_lt, q_jn, q_pt, q_bo, q_bi, if_neg q, x1, y1, h1, wheelX_eq hc A _ _ bh, wheelY_eq hc A _ _ bh, ldq_n hk (show 10 < 2 ^ 31 by decide) H.1, rt_14, nI_1, nI_p2, nI_p3, ld_n (show 4 * k < 40 by omega) (show 40 < 2 ^ 31 by decide), ld_n (show 4 * k + 1 < 40 by omega) (show 40 < 2 ^ 31 by decide), ld_n (show 4 * k + 2 < 40 by omega) (show 40 < 2 ^ 31 by decide), ld_n (show 4 * k + 3 < 40 by omega) (show 40 < 2 ^ 31 by decide), f_X0_holdsInside, ← H.2.1.1, ← H.2.1.2.1, ← H.2.1.2.2.1, ← H.2.1.2.2.2]
    by_cases p1 : x + f_X1_wheelX w (K5 c) (nI i) h ≤ 65 * wS w (330 + k) 0
    · rw [if_pos p1, if_pos p1, if_pos rfl]; exact IH
    rw [if_neg p1, if_neg p1]
    by_cases p2 : 65 * wS w (330 + k) 2 ≤ x + f_X1_wheelX w (K5 c) (nI i) h
    · rw [if_pos p2, if_pos p2, if_pos rfl]; exact IH
    rw [if_neg p2, if_neg p2]
    by_cases p3 : y + f_X1_wheelY w (K5 c) (nI i) h ≤ 65 * wS w (330 + k) 1
    · rw [if_pos p3, if_pos p3, if_pos rfl]; exact IH
    rw [if_neg p3, if_neg p3]
    by_cases p4 : 65 * wS w (330 + k) 3 ≤ y + f_X1_wheelY w (K5 c) (nI i) h
    · rw [if_pos p4, if_pos p4, if_pos rfl]; exact IH
    rw [if_neg p4, if_neg p4, if_neg one0]
    exact Or.inr ⟨rfl, rfl⟩
theorem l_kerbs {w v : Wd} {c s n : Nat} {x y h : Int32} (M : Mt w v c s x y h) (hn : n ≤ 10) (e1 : wS w 2 6 = nI n) (e2 : wS v 63 5 = nI n) (H : ∀ i, i < n → R2i w v i) (J : Option Int32) (F : Int32 → Option Int32) : ∀ (m k f : Nat), k + m = n → m < f →
    (l_X8_kerbMet_3 (K5 c) x y h w f (nI k) = some (-1) ∧ l_X12_meetsNow_95 (nI c) v J F f (nI k) = J) ∨ ∃ q, q < n ∧ l_X8_kerbMet_3 (K5 c) x y h w f (nI k) = some (nI q) ∧ l_X12_meetsNow_95 (nI c) v J F f (nI k) = F (nI q)
  | 0, k, f + 1, hk, _ => by
    unfold l_X8_kerbMet_3 l_X12_meetsNow_95
    simp only [q_gt, e1, e2, if_pos (nI_le (show n ≤ k by omega) (by omega))]
    exact Or.inl ⟨trivial, trivial⟩
  | m + 1, k, f + 1, hk, hf => by
    have IH := l_kerbs M hn e1 e2 H J F m (k + 1) f (by omega) (by omega)
    have I := l_kerbIn M (show k < 10 by omega) (H k (by omega)) (l_X8_kerbMet_3 (K5 c) x y h w f (nI (k + 1))) 4 0 FU (by omega) (by unfold FU; omega)
    unfold l_X8_kerbMet_3 l_X12_meetsNow_95
    simp only [q_gt, q_lt, q_jn, q_pt, q_bo, q_bi, e1, e2, if_neg (nI_ge (show k < n by omega) (by omega)), nI_1, f_X12_meetsKerb, nI_mul4]
    have z0 : (0 : Int32) = nI 0 := by decide
    rw [z0]
    rcases I with ⟨a, b⟩ | ⟨a, b⟩
    · rw [a, b]
      exact IH
    · rw [a, b]
      exact Or.inr ⟨k, by omega, rfl, rfl⟩
