/-! ===== other cars met ===== -/
def FrO (c : Nat) (w w' : Wd) : Prop := (∀ p j, (∀ o, o < 4 → o ≠ c → p < K5 o + 5 ∨ K5 o + 10 ≤ p) → wS w' p j = wS w p j ∧ wL w' p j = wL w p j) ∧ am w w'
theorem FrO.refl {c : Nat} {w : Wd} : FrO c w w := ⟨fun _ _ _ => ⟨rfl, rfl⟩, am.refl⟩
theorem FrO.trans {c : Nat} {u v w : Wd} (h : FrO c u v) (g : FrO c v w) : FrO c u w := ⟨fun p j hp => ⟨(g.1 p j hp).1.trans (h.1 p j hp).1, (g.1 p j hp).2.trans (h.1 p j hp).2⟩, h.2.trans g.2⟩
theorem FrO.of {c o : Nat} {w w' : Wd} (ho : o < 4) (hoc : o ≠ c) (h : FrR o w w') : FrO c w w' := ⟨fun p j hp => h.1 p j (hp o ho hoc), h.2⟩
theorem FrO.only {c : Nat} {w w' : Wd} (h : FrO c w w') : only 0 w w' := fun b h0 _ p j hp => by
  refine h.1 p j (fun o ho _ => ?_)
  rcases Nat.lt_or_ge p (K5 o + 5) with g | g
  · exact Or.inl g
  rcases Nat.lt_or_ge p (K5 o + 10) with g2 | g2
  · exfalso
    obtain ⟨d, rfl⟩ : ∃ d, p = K5 o + d := ⟨p - K5 o, by omega⟩
    have e9 := Ar_car (c := o) (o := d) (j := j) ho (by omega)
    have k : ∀ d, d < 10 → 5 ≤ d → arC.getD d 0 = 0 := by decide
    have e8 : arC.getD d 0 = b := e9.symm.trans hp
    rw [k d (by omega) (by omega)] at e8
    exact h0 e8.symm
  · exact Or.inr g2
theorem FrO.cm {c : Nat} {w w' : Wd} (h : FrO c w w') : cm w w' := fun p j h1 h2 => (h.1 p j (fun o _ _ => by unfold K5; omega)).1
theorem FrO.own {c : Nat} {w w' : Wd} (hc : c < 4) (h : FrO c w w') {d : Nat} (hd : d < 20) (j : Nat) : wS w' (K5 c + d) j = wS w (K5 c + d) j := (h.1 _ j (fun o ho hoc => by unfold K5; omega)).1
theorem FrO.oth {c : Nat} {w w' : Wd} (h : FrO c w w') {o d : Nat} (ho : o < 4) (hd : d < 5 ∨ (10 ≤ d ∧ d < 20)) (j : Nat) : wS w' (K5 o + d) j = wS w (K5 o + d) j := (h.1 _ j (fun q hq _ => by unfold K5; omega)).1
theorem A5.frO {c o : Nat} {w w' v : Wd} (h : FrO c w w') (ho : o < 4) (A : A5 w v o) : A5 w' v o := A.fr (h.1 22 o (fun q _ _ => by unfold K5; omega)).1 (fun j _ => h.oth (d := 0) ho (by omega) j) (fun i _ => h.oth ho (by omega) i) (fun _ _ _ => rfl)
theorem Laid.hl {w w' : Wd} {c i : Nat} (h : ∀ d j, d < 4 → wS w' (K5 c + d) j = wS w (K5 c + d) j) : hlS w' c i = hlS w c i ∧ hbS w' c i = hbS w c i := by
  unfold hlS hbS
  have e0 : wS w' (K5 c) 3 = wS w (K5 c) 3 := h 0 3 (by decide)
  rw [h 1 i (by decide), h 2 i (by decide), h 3 i (by decide), e0]
  exact ⟨rfl, rfl⟩
theorem Mt.frO {w w' v : Wd} {c s : Nat} {x y h : Int32} (F : FrO c w w') (M : Mt w v c s x y h) : Mt w' v c s x y h := by
  obtain ⟨⟨hc, hs⟩, ⟨s1, s2⟩, A, S, L, r⟩ := M
  have own := fun d j (hd : d < 20) => F.own hc hd j
  refine ⟨⟨hc, hs⟩, ⟨(own 0 7 (by decide)).trans s1, s2⟩, A.frO F hc, fun i hi => ?_, fun i hi => ?_, r⟩
  · rw [own 1 i (by decide), own 2 i (by decide), own 3 i (by decide)]
    exact S i hi
  · obtain ⟨e1, e2⟩ := Laid.hl (w := w) (w' := w') (c := c) (i := i) (fun d j hd => own d j (by omega))
    have l := L i hi
    unfold Laid at l ⊢
    rw [e1, e2]
    unfold Lay at l ⊢
    have e : ∀ z, wS w' (K5 c + 5 + i) z = wS w (K5 c + 5 + i) z := fun z => by
      have := own (5 + i) z (by omega)
      rw [← Nat.add_assoc] at this
      exact this
    simp only [e]
    exact l
theorem la_01 (w : Wd) (q p : Nat) : f_X5_liesApartFrom w q p = 0 ∨ f_X5_liesApartFrom w q p = 1 := by
  unfold f_X5_liesApartFrom
  simp only [q_lt]
  repeat' split
  all_goals first | exact Or.inl rfl | exact Or.inr rfl
/-- one storey of mine, all of theirs -/
theorem l_storeyT {w v : Wd} {c s i o so : Nat} {x y h x2 y2 h2 : Int32} (M : Mt w v c s x y h) (hi : i < s) (ho : o < 4) (hso : so ≤ 5) (t1 : wS w (K5 o) 7 = nI so) (t2 : wS v 80 o = nI so) (A2 : A5 w v o) (S2 : St5 w v o so) (L2 : ∀ t, t < so → Laid w w o t x2 y2 h2) (eh : wS v 87 o = h2) (bx2 : bt (-60000) 60000 x2) (by2 : bt (-60000) 60000 y2) (bh2 : bt (-100) 100 h2) (J : Option Int32) : ∀ (m t f : Nat), t + m = so → m < f →
    (l_X3_storeyTouches_10 (K5 c) (nI i) (K5 o) w (K5 c + 5 + i) f (nI t) = some 0 ∧ l_X12_meetsCar_46 (nI c) (nI o) v (2 * (x2 - x)) (2 * (y2 - y)) (nI i) J f (nI t) = J) ∨ (l_X3_storeyTouches_10 (K5 c) (nI i) (K5 o) w (K5 c + 5 + i) f (nI t) = some 1 ∧ l_X12_meetsCar_46 (nI c) (nI o) v (2 * (x2 - x)) (2 * (y2 - y)) (nI i) J f (nI t) = some 1)
  | 0, t, f + 1, ht, _ => by
    unfold l_X3_storeyTouches_10 l_X12_meetsCar_46
    simp only [q_gt, t1, ld_n ho (show 4 < 2 ^ 31 by decide), t2, if_pos (nI_le (show so ≤ t by omega) (by omega))]
    exact Or.inl ⟨trivial, trivial⟩
  | m + 1, t, f + 1, ht, hf => by
    have IH := l_storeyT M hi ho hso t1 t2 A2 S2 L2 eh bx2 by2 bh2 J m (t + 1) f (by omega) (by omega)
    have M' := M
    obtain ⟨⟨hc, hs⟩, ⟨s1, s2⟩, A, S, L, ⟨x1, y1, h1⟩, bx1, by1, bh1⟩ := M'
    have ht5 : t < 5 := by omega
    obtain ⟨e1, e2⟩ := halfL hc hs A S hi
    obtain ⟨g1, g2⟩ := halfL ho hso A2 S2 (show t < so by omega)
    have T := rectTouch (L i hi) (L2 t (by omega)) (hl_b A (S i hi).1.2 (S i hi).2.1.2) (hb_b A (S i hi).1.2 (S i hi).2.2.2) (hl_b A2 (S2 t (by omega)).1.2 (S2 t (by omega)).2.1.2) (hb_b A2 (S2 t (by omega)).1.2 (S2 t (by omega)).2.2.2) (two_x bx1) (two_x by1) (two_x bx2) (two_x by2) bh1 bh2
    have dx : 2 * x2 - 2 * x = 2 * (x2 - x) := by grind
    have dy : 2 * y2 - 2 * y = 2 * (y2 - y) := by grind
    rw [dx, dy] at T
    unfold l_X3_storeyTouches_10 l_X12_meetsCar_46
    simp only [q_gt, q_lt, q_jn, q_pt, q_bo, q_bi, t1, t2, five, ld_n ho (show 4 < 2 ^ 31 by decide), if_neg (nI_ge (show t < so by omega) (by omega)), ldq_n ht5 (show 5 < 2 ^ 31 by decide) (A2.2.2.2.2.2 t ht5), rt_rect ho, footC s1 hs (show i ≤ s by omega), footM hc hs (fun i hi => (S i hi).1.1) (show i ≤ s by omega), height_c t1 hso (show t < so by omega), height_c s1 hs hi, footC t1 hso (show t ≤ so by omega), footM ho hso (fun i hi => (S2 i hi).1.1) (show t ≤ so by omega), ld_n (show 5 * o + t < 20 by omega) (show 20 < 2 ^ 31 by decide), ld_n (show 5 * c + i < 20 by omega) (show 20 < 2 ^ 31 by decide), ← (S i hi).1.1, ← (S2 t (by omega)).1.1, h1, eh, e1, e2, g1, g2, T, nI_1]
    by_cases p : wS w (K5 o + 1) t ≤ foot w c i
    · rw [if_pos p, if_pos p, if_pos trivial]; exact IH
    rw [if_neg p, if_neg p]
    by_cases p2 : wS w (K5 c + 1) i ≤ foot w o t
    · rw [if_pos p2, if_pos p2, if_pos trivial]; exact IH
    rw [if_neg p2, if_neg p2, if_neg one0]
    rcases la_01 w (K5 c + 5 + i) (K5 o + 5 + t) with q | q
    · rw [q, if_pos rfl, if_pos rfl]
      rcases la_01 w (K5 o + 5 + t) (K5 c + 5 + i) with r | r
      · rw [r, if_pos rfl, if_pos rfl, if_neg one0]; exact Or.inr ⟨rfl, rfl⟩
      · rw [r, if_neg one0, if_neg one0, if_pos rfl]; exact IH
    · rw [q, if_neg one0, if_neg one0, if_pos rfl]; exact IH
/-- all storeys of mine -/
theorem l_carT {w v : Wd} {c s o so : Nat} {x y h x2 y2 h2 : Int32} (M : Mt w v c s x y h) (ho : o < 4) (hso : so ≤ 5) (t1 : wS w (K5 o) 7 = nI so) (t2 : wS v 80 o = nI so) (A2 : A5 w v o) (S2 : St5 w v o so) (L2 : ∀ t, t < so → Laid w w o t x2 y2 h2) (eh : wS v 87 o = h2) (bx2 : bt (-60000) 60000 x2) (by2 : bt (-60000) 60000 y2) (bh2 : bt (-100) 100 h2) (J : Wd → Option (Int32 × Wd)) : ∀ (m i f : Nat), i + m = s → m < f →
    (l_X3_carMet_51 (K5 c) (nI o) (K5 o) J w f (nI i) = J w ∧ l_X12_meetsCar_32 (nI c) (nI o) v (2 * (x2 - x)) (2 * (y2 - y)) f (nI i) = some 0) ∨ (l_X3_carMet_51 (K5 c) (nI o) (K5 o) J w f (nI i) = some (nI o, w) ∧ l_X12_meetsCar_32 (nI c) (nI o) v (2 * (x2 - x)) (2 * (y2 - y)) f (nI i) = some 1)
  | 0, i, f + 1, hi, _ => by
    obtain ⟨⟨hc, hs⟩, ⟨s1, s2⟩, -⟩ := M
    unfold l_X3_carMet_51 l_X12_meetsCar_32
    simp only [q_gt, s1, ld_n hc (show 4 < 2 ^ 31 by decide), s2, if_pos (nI_le (show s ≤ i by omega) (by omega))]
    exact Or.inl ⟨trivial, trivial⟩
  | m + 1, i, f + 1, hi, hf => by
    have IH := l_carT M ho hso t1 t2 A2 S2 L2 eh bx2 by2 bh2 J m (i + 1) f (by omega) (by omega)
    have I := l_storeyT M (show i < s by omega) ho hso t1 t2 A2 S2 L2 eh bx2 by2 bh2 (l_X12_meetsCar_32 (nI c) (nI o) v (2 * (x2 - x)) (2 * (y2 - y)) f (nI (i + 1))) so 0 FU (by omega) (by unfold FU; omega)
    have M' := M
    obtain ⟨⟨hc, hs⟩, ⟨s1, s2⟩, A, -⟩ := M'
    have hi5 : i < 5 := by omega
    have z0 : nI 0 = (0 : Int32) := by decide
    rw [z0] at I
    unfold l_X3_carMet_51 l_X12_meetsCar_32
    simp only [q_gt, q_lt, q_jn, q_pt, q_bo, q_bi, s1, s2, ld_n hc (show 4 < 2 ^ 31 by decide), if_neg (nI_ge (show i < s by omega) (by omega)), f_X3_storeyTouches, ldq_n hi5 (show 5 < 2 ^ 31 by decide) (A.2.2.2.2.2 i hi5), rt_rect hc, nI_1]
    rcases I with ⟨a, b⟩ | ⟨a, b⟩
    · rw [a, b]; exact IH
    · rw [a, b]; exact Or.inr ⟨rfl, rfl⟩
