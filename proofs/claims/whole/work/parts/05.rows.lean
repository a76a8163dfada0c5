/-! ===== rows over worlds by number ===== -/
theorem cel_i {cT : Nat → ClassId} {w : Wd} {ad : Nat → Nat} {k n : Nat} (hk : kt k = (1, n)) : cel cT w ad k = .inl (cT 1, (n, .inl (fun j => wS w k j))) := by
  unfold cel celA
  rw [hk]
  simp
theorem cel_z {cT : Nat → ClassId} {w : Wd} {ad : Nat → Nat} {k n : Nat} (hk : kt k = (2, n)) : cel cT w ad k = .inl (cT 2, (n, .inl (fun j => wS w k j))) := by
  unfold cel celA
  rw [hk]
  simp
theorem cel_l {cT : Nat → ClassId} {w : Wd} {ad : Nat → Nat} {k n : Nat} (hk : kt k = (3, n)) : cel cT w ad k = .inl (cT 3, (n, .inr (.inl (fun j => wL w k j)))) := by
  unfold cel celA
  rw [hk]
  simp
theorem cel_q {cT : Nat → ClassId} {w : Wd} {ad : Nat → Nat} {k c n : Nat} (hk : kt k = (c, n)) (h4 : 4 ≤ c) (h10 : c < 10) : cel cT w ad k = .inl (cT c, (n, .inr (.inr (.inr (.inr (fun j => if n ≤ j ∨ wS w k j = 0 then none else some (ad (rt k j)))))))) := by
  unfold cel celA
  rw [hk]
  simp [h10, show ¬ c = 1 by omega, show ¬ c = 2 by omega, show ¬ c = 3 by omega]
theorem cel_o {cT : Nat → ClassId} {w : Wd} {ad : Nat → Nat} {k ci n : Nat} (hk : kt k = (ci + 10, n)) : cel cT w ad k = .inr (ci, (List.range (fln ci)).map (fun j => fv w ad k ci j)) := by
  unfold cel celA
  rw [hk]
  simp [show ¬ ci + 10 = 1 by omega, show ¬ ci + 10 = 2 by omega, show ¬ ci + 10 = 3 by omega]
theorem fln_eq {ci : Nat} {q : vw_C} (h : vwCl[ci]? = some q) : fln ci = q.2.2 := by simp [fln, h]
theorem wS_sI_ne {w : Wd} {k j : Nat} {v : Int32} {k' : Nat} (h : k' ≠ k) (j' : Nat) : wS (sI w k j v) k' j' = wS w k' j' := by simp [wS, sI, h]
theorem wS_sI {w : Wd} {k j : Nat} {v : Int32} (k' j' : Nat) : wS (sI w k j v) k' j' = if k' = k ∧ j' = j then v else wS w k' j' := rfl
theorem wL_sJ {w : Wd} {k j : Nat} {v : Int64} (k' j' : Nat) : wL (sJ w k j v) k' j' = if k' = k ∧ j' = j then v else wL w k' j' := rfl
theorem fv_congr {w w' : Wd} {ad ad' : Nat → Nat} {k n : Nat} (hA : wA w' k = wA w k) (hS : ∀ j, wS w' k j = wS w k j) (h1 : ∀ j, ft n j = 1 → (wA w k = 2 ∨ wS w k j ≠ 0) → ad' (rt k j) = ad (rt k j)) (h2 : ∀ j, ft n j = 2 → wS w k j ≠ 0 → ad' (wS w k j).toNatClampNeg = ad (wS w k j).toNatClampNeg) (j : Nat) : fv w' ad' k n j = fv w ad k n j := by
  unfold fv
  rw [hA, hS]
  by_cases e1 : ft n j = 1
  · simp only [e1, if_true]
    by_cases q : wA w k = 2 ∨ wS w k j ≠ 0
    · rw [if_pos q, if_pos q, h1 j e1 q]
    · rw [if_neg q, if_neg q]
  · rw [if_neg e1, if_neg e1]
    by_cases e2 : ft n j = 2
    · rw [if_pos e2, if_pos e2]
      by_cases q : wS w k j = 0
      · rw [if_pos q, if_pos q]
      · rw [if_neg q, if_neg q, h2 j e2 q]
    · rw [if_neg e2, if_neg e2]
theorem kt_cls (k : Nat) : (kt k).1 < 10 ∨ 10 ≤ (kt k).1 := by omega
theorem celA_congr {cT : Nat → ClassId} {w w' : Wd} {ad ad' : Nat → Nat} {k c n : Nat} (hc : (kt k).1 = c) (hn : (kt k).2 = n) (hc0 : c ≠ 0) (hA : wA w' k = wA w k) (hS : ∀ j, wS w' k j = wS w k j) (hL : ∀ j, wL w' k j = wL w k j) (had : ∀ j, rsl w k j → ad' (rt k j) = ad (rt k j)) (hdy : ∀ j, 10 ≤ (kt k).1 → ft ((kt k).1 - 10) j = 2 → wS w k j ≠ 0 → ad' (wS w k j).toNatClampNeg = ad (wS w k j).toNatClampNeg) : celA cT w' ad' k c n = celA cT w ad k c n := by
  unfold celA
  by_cases h1 : c = 1
  · simp only [h1, if_true, hS]
  by_cases h2 : c = 2
  · simp only [if_neg h1, if_pos h2, hS]
  by_cases h3 : c = 3
  · simp only [if_neg h1, if_neg h2, if_pos h3, hL]
  by_cases h10 : c < 10
  · simp only [if_neg h1, if_neg h2, if_neg h3, if_pos h10, hS]
    have : (fun j => if n ≤ j ∨ wS w k j = 0 then none else some (ad' (rt k j))) = (fun j => if n ≤ j ∨ wS w k j = 0 then none else some (ad (rt k j))) := by
      funext j
      by_cases q : n ≤ j ∨ wS w k j = 0
      · rw [if_pos q, if_pos q]
      · rw [if_neg q, if_neg q, had j (Or.inl ⟨by omega, by omega, by omega, fun z => q (Or.inr z)⟩)]
    rw [this]
  · simp only [if_neg h1, if_neg h2, if_neg h3, if_neg h10]
    congr 2
    apply List.map_congr_left
    intro j _
    exact fv_congr hA hS (fun j e q => had j (Or.inr ⟨by omega, by rw [hc]; exact e, q⟩)) (fun j e q => hdy j (by omega) (by rw [hc]; exact e) q) j
theorem cel_congr {cT : Nat → ClassId} {w w' : Wd} {ad ad' : Nat → Nat} {k : Nat} (hc0 : (kt k).1 ≠ 0) (hA : wA w' k = wA w k) (hS : ∀ j, wS w' k j = wS w k j) (hL : ∀ j, wL w' k j = wL w k j) (had : ∀ j, rsl w k j → ad' (rt k j) = ad (rt k j)) (hdy : ∀ j, 10 ≤ (kt k).1 → ft ((kt k).1 - 10) j = 2 → wS w k j ≠ 0 → ad' (wS w k j).toNatClampNeg = ad (wS w k j).toNatClampNeg) : cel cT w' ad' k = cel cT w ad k := celA_congr rfl rfl hc0 hA hS hL had hdy
/-- one cell has changed, and what the world says of it -/
theorem wP.set1 {D : va_G} {cT : Nat → ClassId} {lo nb : Nat} {w w' : Wd} {ad : Nat → Nat} {H H1 : Heap} (hP : wP D cT lo nb w ad H) {k : Nat} (ha : wA w k ≠ 0) (hA : ∀ q, wA w' q = wA w q) (hS : ∀ q, q ≠ k → ∀ j, wS w' q j = wS w q j) (hL : ∀ q, q ≠ k → ∀ j, wL w' q j = wL w q j)
    (he : va_at D vwCl (ad k, cel cT w' ad k) H1) (oq : ∀ q, q ≠ ad k → H1[q]? = H[q]?) (h4 : ∀ j, rsl w' k j → rsl w k j ∨ wA w (rt k j) = 2) (h5 : ∀ j, 10 ≤ (kt k).1 → ft ((kt k).1 - 10) j = 2 → wS w' k j ≠ 0 → wS w' k j = wS w k j ∨ (wA w (wS w' k j).toNatClampNeg = 2 ∧ kt (wS w' k j).toNatClampNeg = dk j)) : wP D cT lo nb w' ad H1 := by
  obtain ⟨p1, p2, p3, p4, p5, p6, p7⟩ := hP
  have rs : ∀ q j, q ≠ k → rsl w' q j → rsl w q j := fun q j hq h => by
    unfold rsl at h ⊢
    rw [hA, hS q hq] at h
    exact h
  refine ⟨fun q hq => ?_, fun i j hi hj => p2 i j (by rw [← hA]; exact hi) (by rw [← hA]; exact hj), fun q hq => p3 q (by rw [← hA]; exact hq), fun q j hq h => ?_, fun q j hq h1 h2 h3 => ?_, fun q h1 h2 => by rw [hA]; exact p6 q h1 h2, fun q hq => p7 q (by rw [← hA]; exact hq)⟩
  · by_cases e : q = k
    · subst e
      exact he
    · have hq' : wA w q ≠ 0 := by rw [← hA]; exact hq
      rw [cel_congr (p7 q hq') (hA q) (hS q e) (hL q e) (fun _ _ => rfl) (fun _ _ _ _ => rfl)]
      exact (p1 q hq').kept (oq _ fun z => e (p2 q k hq' ha z))
  · rw [hA]
    by_cases e : q = k
    · subst e
      rcases h4 j h with h' | h'
      · exact p4 q j ha h'
      · exact h'
    · exact p4 q j (by rw [← hA]; exact hq) (rs q j e h)
  · rw [hA]
    by_cases e : q = k
    · subst e
      rcases h5 j h1 h2 h3 with h' | h'
      · rw [h'] at h3 ⊢
        exact p5 q j ha h1 h2 h3
      · exact h'
    · rw [hS q e] at h3 ⊢
      exact p5 q j (by rw [← hA]; exact hq) h1 h2 h3
theorem sI_rsl {w : Wd} {k j : Nat} {v : Int32} (hn : (kt k).1 < 4 ∨ (10 ≤ (kt k).1 ∧ ft ((kt k).1 - 10) j ≠ 1)) : ∀ j', rsl (sI w k j v) k j' → rsl w k j' := fun j' h => by
  have e : ∀ j', (j' ≠ j) → wS (sI w k j v) k j' = wS w k j' := fun j' h => by rw [wS_sI, if_neg (fun z => h z.2)]
  rcases h with ⟨h1, h2, h3, h4⟩ | ⟨h1, h2, h3⟩
  · omega
  · refine Or.inr ⟨h1, h2, ?_⟩
    rcases hn with hn | ⟨-, hn⟩
    · omega
    · rw [← e j' (fun z => hn (by rw [← z]; exact h2))]
      exact h3
theorem list_set_map {α : Type} {f g : Nat → α} {N j : Nat} {v : α} (hj : g j = v) (hne : ∀ i, i ≠ j → g i = f i) : ((List.range N).map f).set j v = (List.range N).map g := by
  apply List.ext_getElem?
  intro i
  by_cases h : i = j
  · subst h
    by_cases hl : i < N
    · rw [List.getElem?_set_self (by simpa using hl)]
      simp [hl, hj]
    · rw [List.getElem?_eq_none (by simp; omega), List.getElem?_eq_none (by simp; omega)]
  · rw [List.getElem?_set_ne (Ne.symm h)]
    simp only [List.getElem?_map]
    by_cases hl : i < N
    · rw [List.getElem?_range hl]
      simp [hne i h]
    · rw [List.getElem?_eq_none (by simp; omega)]
      rfl
