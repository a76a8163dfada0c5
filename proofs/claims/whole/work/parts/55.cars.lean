/-! ===== cars ===== -/
def K5 (c : Nat) : Nat := 1000 + 20 * c
def A5 (w v : Wd) (c : Nat) : Prop := wS w 22 c ≠ 0 ∧ (wS w (K5 c) 0 = wS v 76 c ∧ bt 2 30 (wS w (K5 c) 0)) ∧ (wS w (K5 c) 1 = wS v 77 c ∧ bt 2 30 (wS w (K5 c) 1)) ∧ (wS w (K5 c) 2 = wS v 78 c ∧ bt 1 999 (wS w (K5 c) 2)) ∧ (wS w (K5 c) 3 = wS v 79 c ∧ bt 0 20 (wS w (K5 c) 3)) ∧ ∀ i, i < 5 → wS w (K5 c + 4) i ≠ 0
def S5 (w v : Wd) (c : Nat) : Prop := ∃ s, s ≤ 5 ∧ wS w (K5 c) 7 = nI s ∧ wS v 80 c = nI s ∧ ∀ i, i < s → (wS w (K5 c + 1) i = wS v 81 (5 * c + i) ∧ bt 1 99 (wS w (K5 c + 1) i)) ∧ (wS w (K5 c + 2) i = wS v 82 (5 * c + i) ∧ bt 1 30 (wS w (K5 c + 2) i)) ∧ (wS w (K5 c + 3) i = wS v 83 (5 * c + i) ∧ bt 1 30 (wS w (K5 c + 3) i))
def P5 (w v : Wd) (c : Nat) : Prop := (wS w (K5 c) 9 = wS v 85 c ∧ bt (-40000) 40000 (wS w (K5 c) 9)) ∧ (wS w (K5 c) 10 = wS v 86 c ∧ bt (-40000) 40000 (wS w (K5 c) 10)) ∧ (wS w (K5 c) 11 = wS v 87 c ∧ bt 0 35 (wS w (K5 c) 11)) ∧ (wS w (K5 c) 12 = wS v 84 c ∧ (wS w (K5 c) 12 = 0 ∨ wS w (K5 c) 12 = 1)) ∧ wS w (K5 c) 13 = wS v 88 c
def Q5 (w v : Wd) (c : Nat) : Prop := ∀ r, r < 4 → (wS w (K5 c + 10) r = wS v 97 (4 * c + r) ∧ bt 0 300 (wS w (K5 c + 10) r)) ∧ (wS w (K5 c + 11) r = wS v 98 (4 * c + r) ∧ bt 1 60 (wS w (K5 c + 11) r)) ∧ (wS w (K5 c + 12) r = wS v 99 (4 * c + r) ∧ bt (-9) 9 (wS w (K5 c + 12) r))
/-- no car yet -/
def N5 (v : Wd) (c : Nat) : Prop := wS v 80 c = 0 ∧ wS v 84 c = 0 ∧ wS v 85 c = 0 ∧ wS v 86 c = 0 ∧ wS v 87 c = 0 ∧ wS v 88 c = 0 ∧ ∀ r, r < 4 → wS v 97 (4 * c + r) = 0 ∧ wS v 98 (4 * c + r) = 20 ∧ wS v 99 (4 * c + r) = 0
def R5 (w v : Wd) : Prop := ∃ n, n ≤ 4 ∧ wS w 3 2 = nI n ∧ wS v 63 16 = nI n ∧ (∀ c, c < n → A5 w v c ∧ S5 w v c ∧ P5 w v c ∧ Q5 w v c) ∧ ∀ c, n ≤ c → c < 4 → N5 v c
theorem A5.fr {w v w' v' : Wd} {c : Nat} (h : A5 w v c) (h22 : wS w' 22 c = wS w 22 c) (hK : ∀ j, j < 4 → wS w' (K5 c) j = wS w (K5 c) j) (h4 : ∀ i, i < 5 → wS w' (K5 c + 4) i = wS w (K5 c + 4) i) (hv : ∀ m, 76 ≤ m → m ≤ 79 → wS v' m c = wS v m c) : A5 w' v' c := by
  unfold A5 at h ⊢
  rw [h22, hK 0 (by decide), hK 1 (by decide), hK 2 (by decide), hK 3 (by decide), hv 76 (by decide) (by decide), hv 77 (by decide) (by decide), hv 78 (by decide) (by decide), hv 79 (by decide) (by decide)]
  exact ⟨h.1, h.2.1, h.2.2.1, h.2.2.2.1, h.2.2.2.2.1, fun i hi => by rw [h4 i hi]; exact h.2.2.2.2.2 i hi⟩
theorem S5.fr {w v w' v' : Wd} {c : Nat} (h : S5 w v c) (h7 : wS w' (K5 c) 7 = wS w (K5 c) 7) (h80 : wS v' 80 c = wS v 80 c) (hK : ∀ o i, 1 ≤ o → o ≤ 3 → i < 5 → wS w' (K5 c + o) i = wS w (K5 c + o) i) (hv : ∀ m i, 81 ≤ m → m ≤ 83 → i < 5 → wS v' m (5 * c + i) = wS v m (5 * c + i)) : S5 w' v' c := by
  obtain ⟨s, hs, e1, e2, hh⟩ := h
  refine ⟨s, hs, h7.trans e1, h80.trans e2, fun i hi => ?_⟩
  rw [hK 1 i (by decide) (by decide) (by omega), hK 2 i (by decide) (by decide) (by omega), hK 3 i (by decide) (by decide) (by omega), hv 81 i (by decide) (by decide) (by omega), hv 82 i (by decide) (by decide) (by omega), hv 83 i (by decide) (by decide) (by omega)]
  exact hh i hi
theorem P5.fr {w v w' v' : Wd} {c : Nat} (h : P5 w v c) (hK : ∀ j, 9 ≤ j → j ≤ 13 → wS w' (K5 c) j = wS w (K5 c) j) (hv : ∀ m, 84 ≤ m → m ≤ 88 → wS v' m c = wS v m c) : P5 w' v' c := by
  unfold P5 at h ⊢
  rw [hK 9 (by decide) (by decide), hK 10 (by decide) (by decide), hK 11 (by decide) (by decide), hK 12 (by decide) (by decide), hK 13 (by decide) (by decide), hv 84 (by decide) (by decide), hv 85 (by decide) (by decide), hv 86 (by decide) (by decide), hv 87 (by decide) (by decide), hv 88 (by decide) (by decide)]
  exact h
theorem Q5.fr {w v w' v' : Wd} {c : Nat} (h : Q5 w v c) (hK : ∀ o r, 10 ≤ o → o ≤ 12 → r < 4 → wS w' (K5 c + o) r = wS w (K5 c + o) r) (hv : ∀ m r, 97 ≤ m → m ≤ 99 → r < 4 → wS v' m (4 * c + r) = wS v m (4 * c + r)) : Q5 w' v' c := fun r hr => by
  rw [hK 10 r (by decide) (by decide) hr, hK 11 r (by decide) (by decide) hr, hK 12 r (by decide) (by decide) hr, hv 97 r (by decide) (by decide) hr, hv 98 r (by decide) (by decide) hr, hv 99 r (by decide) (by decide) hr]
  exact h r hr
theorem N5.fr {v v' : Wd} {c : Nat} (h : N5 v c) (h80 : wS v' 80 c = wS v 80 c) (hv : ∀ m, 84 ≤ m → m ≤ 88 → wS v' m c = wS v m c) (hr : ∀ m r, 97 ≤ m → m ≤ 99 → r < 4 → wS v' m (4 * c + r) = wS v m (4 * c + r)) : N5 v' c := by
  unfold N5 at h ⊢
  rw [h80, hv 84 (by decide) (by decide), hv 85 (by decide) (by decide), hv 86 (by decide) (by decide), hv 87 (by decide) (by decide), hv 88 (by decide) (by decide)]
  refine ⟨h.1, h.2.1, h.2.2.1, h.2.2.2.1, h.2.2.2.2.1, h.2.2.2.2.2.1, fun r q => ?_⟩
  rw [hr 97 r (by decide) (by decide) q, hr 98 r (by decide) (by decide) q, hr 99 r (by decide) (by decide) q]
  exact h.2.2.2.2.2.2 r q
theorem arC_5 {o : Nat} (h : o < 5 ∨ (10 ≤ o ∧ o < 20)) : arC.getD o 0 = 5 := by
  have k : ∀ o, o < 20 → (o < 5 ∨ 10 ≤ o) → arC.getD o 0 = 5 := by decide
  exact k o (by omega) (by omega)
theorem Ar_K {c o j : Nat} (hc : c < 4) (h : o < 5 ∨ (10 ≤ o ∧ o < 20)) : Ar (K5 c + o) j = 5 := (Ar_car hc (by omega)).trans (arC_5 h)
theorem Ar_K0 {c j : Nat} (hc : c < 4) : Ar (K5 c) j = 5 := Ar_K (o := 0) hc (by omega)
theorem Ar_7699 {m j : Nat} (h : (76 ≤ m ∧ m ≤ 88) ∨ (97 ≤ m ∧ m ≤ 99)) : Ar m j = 5 := by
  have k : ∀ m, m < 100 → ((76 ≤ m ∧ m ≤ 88) ∨ (97 ≤ m ∧ m ≤ 99)) → arT.getD m 0 = 5 := by decide
  unfold Ar
  rw [if_pos (by omega), if_neg (by omega)]
  exact k m (by omega) h
theorem R5.fr {w v w' v' : Wd} (h : R5 w v) (hw : sm 5 w w') (hv : sm 5 v v') : R5 w' v' := by
  obtain ⟨n, hn, e1, e2, hh, hN⟩ := h
  refine ⟨n, hn, ((hw 3 2 rfl).1).trans e1, ((hv 63 16 rfl).1).trans e2, fun c hc => ?_, fun c h1 h2 => ?_⟩
  · obtain ⟨a, b, d, e⟩ := hh c hc
    have hc4 : c < 4 := by omega
    exact ⟨a.fr (hw 22 c rfl).1 (fun j _ => (hw _ j (Ar_K0 hc4)).1) (fun i _ => (hw _ i (Ar_K hc4 (by omega))).1) (fun m _ _ => (hv m c (Ar_7699 (by omega))).1),
      b.fr (hw _ 7 (Ar_K0 hc4)).1 (hv 80 c rfl).1 (fun o i _ _ _ => (hw _ i (Ar_K hc4 (by omega))).1) (fun m i _ _ _ => (hv m _ (Ar_7699 (by omega))).1),
      d.fr (fun j _ _ => (hw _ j (Ar_K0 hc4)).1) (fun m _ _ => (hv m c (Ar_7699 (by omega))).1),
      e.fr (fun o r _ _ _ => (hw _ r (Ar_K hc4 (by omega))).1) (fun m r _ _ _ => (hv m _ (Ar_7699 (by omega))).1)⟩
  · exact (hN c h1 h2).fr (hv 80 c rfl).1 (fun m _ _ => (hv m c (Ar_7699 (by omega))).1) (fun m r _ _ _ => (hv m _ (Ar_7699 (by omega))).1)
theorem rt_22 {i : Nat} : rt 22 i = K5 i := by unfold rt K5; rfl
/-- the car of a number, or none -/
theorem carAt_c {w v : Wd} (h : R5 w v) (a : Int32) : (f_X3_carAt w a = some 0 ∧ f_X12_isCar v a = 0) ∨ ∃ c, c < 4 ∧ nI c < wS w 3 2 ∧ a = nI c ∧ f_X3_carAt w a = some (K5 c) ∧ f_X12_isCar v a = 1 ∧ A5 w v c ∧ S5 w v c ∧ P5 w v c ∧ Q5 w v c := by
  obtain ⟨n, hn, e1, e2, hh, hN⟩ := h
  unfold f_X3_carAt f_X12_isCar
  rw [in_eq]
  simp only [q_gt, e1, e2]
  rcases win_n a (n := n) (by omega) with q | ⟨q, c, hc, rfl⟩
  · exact Or.inl ⟨by rw [q, if_pos rfl], q⟩
  · refine Or.inr ⟨c, by omega, nI_lt hc (by omega), rfl, ?_, q, hh c hc⟩
    rw [q, if_neg one0, ldq_n (show c < 4 by omega) (by decide) (hh c hc).1.1, rt_22]
theorem K5_ne {c : Nat} : ¬ K5 c = 0 := by unfold K5; omega
