/-! ===== the day, minute by minute ===== -/
def N9 (w v : Wd) (n : Nat) : Prop := n ≤ 4 ∧ wS w 6 7 = nI n ∧ wS v 63 59 = nI n ∧ (∀ i, i < 20 → B9 w v i) ∧ ∀ i, i < n → D9 w v i
theorem N9.fr {w v w' v' : Wd} {n : Nat} (h : N9 w v n) (hw : sm 9 w w') (hv : sm 9 v v') : N9 w' v' n := by
  obtain ⟨hn, e1, e2, hb, hd⟩ := h
  refine ⟨hn, ((hw 6 7 rfl).1).trans e1, ((hv 63 59 rfl).1).trans e2, fun i hi => ?_, fun i hi => ?_⟩
  · unfold B9
    rw [(hw 40 i rfl).1, (hw 41 i rfl).1, (hv 104 i rfl).1, (hv 105 i rfl).1]
    exact hb i hi
  · unfold D9
    rw [(hw 42 i rfl).1, (hw 43 i rfl).1, (hw 44 i rfl).1, (hw 45 i rfl).1, (hw 46 i rfl).1, (hv 106 i rfl).1, (hv 107 i rfl).1, (hv 108 i rfl).1, (hv 109 i rfl).1, (hv 110 i rfl).1]
    exact hd i hi
def FrD (w w' : Wd) : Prop := (∀ p j, ¬ (47 ≤ p ∧ p ≤ 49) → wS w' p j = wS w p j ∧ wL w' p j = wL w p j) ∧ am w w'
def FrE (v v' : Wd) : Prop := (∀ p j, ¬ (111 ≤ p ∧ p ≤ 113) → wS v' p j = wS v p j ∧ wL v' p j = wL v p j) ∧ am v v'
theorem FrD.refl {w : Wd} : FrD w w := ⟨fun _ _ _ => ⟨rfl, rfl⟩, am.refl⟩
theorem FrE.refl {w : Wd} : FrE w w := ⟨fun _ _ _ => ⟨rfl, rfl⟩, am.refl⟩
theorem FrD.trans {u v w : Wd} (h : FrD u v) (g : FrD v w) : FrD u w := ⟨fun p j a => ⟨(g.1 p j a).1.trans (h.1 p j a).1, (g.1 p j a).2.trans (h.1 p j a).2⟩, h.2.trans g.2⟩
theorem FrE.trans {u v w : Wd} (h : FrE u v) (g : FrE v w) : FrE u w := ⟨fun p j a => ⟨(g.1 p j a).1.trans (h.1 p j a).1, (g.1 p j a).2.trans (h.1 p j a).2⟩, h.2.trans g.2⟩
theorem FrD.sI {w : Wd} {k j : Nat} {x : Int32} (h : 47 ≤ k ∧ k ≤ 49) : FrD w (sI w k j x) := ⟨fun p q a => ⟨by rw [wS_sI, if_neg (by omega)], rfl⟩, am.sI⟩
theorem FrE.sI {w : Wd} {k j : Nat} {x : Int32} (h : 111 ≤ k ∧ k ≤ 113) : FrE w (sI w k j x) := ⟨fun p q a => ⟨by rw [wS_sI, if_neg (by omega)], rfl⟩, am.sI⟩
theorem FrD.sFr {w : Wd} {k n : Nat} {x : Int32} (h : 47 ≤ k ∧ k ≤ 49) : FrD w (sFr w k 0 n x) := ⟨fun p q a => ⟨by rw [wS_sFr, if_neg (by omega)], rfl⟩, fun _ => rfl⟩
theorem FrD.only {w w' : Wd} (h : FrD w w') : only 0 w w' := fun b h0 _ p j hp => h.1 p j (fun z => by
  obtain rfl | rfl | rfl : p = 47 ∨ p = 48 ∨ p = 49 := by omega
  all_goals exact h0 (hp.symm.trans rfl))
theorem FrE.only {w w' : Wd} (h : FrE w w') : only 0 w w' := fun b h0 _ p j hp => h.1 p j (fun z => by
  obtain rfl | rfl | rfl : p = 111 ∨ p = 112 ∨ p = 113 := by omega
  all_goals exact h0 (hp.symm.trans rfl))
theorem FrD.cm {w w' : Wd} (h : FrD w w') : cm w w' := fun p j h1 h2 => (h.1 p j (by omega)).1
theorem FrE.mm {w w' : Wd} (h : FrE w w') : mm w w' := fun p j h1 => h.1 p j (by omega)
theorem N9.DE {w v w' v' : Wd} {n : Nat} (h : N9 w v n) (f : FrD w w') (g : FrE v v') : N9 w' v' n := h.fr (f.only 9 (by decide) (by decide)) (g.only 9 (by decide) (by decide))
/-- where the cars are, alike -/
def DR (w v : Wd) (n : Nat) : Prop := ∀ i, i < n → wS w 47 i = wS v 111 i ∧ wS w 49 i = wS v 113 i ∧ (wS w 47 i = 100 ∨ wS w 47 i = 101 ∨ ∃ b, b < 20 ∧ wS w 47 i = nI b ∧ wS w 48 i = wS v 112 i)
theorem bt_ex {x : Int32} {n : Nat} (h : bt 0 n x) (hn : n < 2 ^ 31) : ∃ b, b ≤ n ∧ x = nI b := by
  have h1 := h.1
  have h2 := h.2
  refine ⟨x.toInt.toNat, by omega, ?_⟩
  apply Int32.toInt_inj.mp
  rw [nI_toInt (by omega)]
  omega
theorem l_room {w v : Wd} {n : Nat} (h : N9 w v n) (d : DR w v n) {a : Int32} (J J' : Int32 → Option Int32) : ∀ (m i f : Nat) (x : Int32), i + m = n → m < f → ∃ y, l_X2_hasRoom_4 a w J f (nI i) x = J y ∧ l_X12_hasRoom_4 a v J' f (nI i) x = J' y
  | 0, i, f + 1, x, hi, _ => by
    obtain ⟨hn, e1, e2, -⟩ := id h
    unfold l_X2_hasRoom_4 l_X12_hasRoom_4
    simp only [q_gt, e1, e2, if_pos (nI_le (show n ≤ i by omega) (by omega))]
    exact ⟨x, rfl, rfl⟩
  | m + 1, i, f + 1, x, hi, hf => by
    obtain ⟨hn, e1, e2, -⟩ := id h
    unfold l_X2_hasRoom_4 l_X12_hasRoom_4
    simp only [q_gt, q_lt, q_jn, e1, e2, if_neg (nI_ge (show i < n by omega) (by omega)), ld_n (show i < 4 by omega) (show 4 < 2 ^ 31 by decide), ← (d i (by omega)).1, nI_1]
    by_cases k : wS w 47 i = a
    · rw [if_pos k, if_pos k]
      exact l_room h d J J' m (i + 1) f (x + 1) (by omega) (by omega)
    · rw [if_neg k, if_neg k, Int32.add_zero]
      exact l_room h d J J' m (i + 1) f x (by omega) (by omega)
theorem c_room {w v : Wd} {n b : Nat} (h : N9 w v n) (d : DR w v n) (hb : b < 20) : ∃ r, f_X2_hasRoom w (nI b) = some r ∧ f_X12_hasRoom v (nI b) = some r := by
  have e := (h.2.2.2.1 b hb).2.1
  obtain ⟨y, y1, y2⟩ := l_room (a := nI b) h d (fun (x2_31 : Int32) => q_ld w 41 20 (nI b) (fun v_37 => q_jn (fun (s0_46 : Int32) => if s0_46 ≤ x2_31 then some (0 : Int32) else some (1 : Int32)) (fun j_46 => if v_37 = 0 then j_46 (1 : Int32) else j_46 (2 : Int32)))) (fun (x2_36 : Int32) => q_ld v 105 20 (nI b) (fun v_42 => q_jn (fun (s0_51 : Int32) => if s0_51 ≤ x2_36 then some (0 : Int32) else some (1 : Int32)) (fun j_51 => if v_42 = 0 then j_51 (1 : Int32) else j_51 (2 : Int32)))) n 0 FU 0 (by omega) (by have := h.1; unfold FU; omega)
  rw [nI_0] at y1 y2
  unfold f_X2_hasRoom f_X12_hasRoom
  rw [jn_eq, jn_eq, y1, y2]
  simp only [ld_n hb (show 20 < 2 ^ 31 by decide), ← e, q_jn]
  by_cases k : wS w 41 b = 0
  · rw [if_pos k]
    by_cases q : (1 : Int32) ≤ y
    · rw [if_pos q]; exact ⟨_, rfl, rfl⟩
    · rw [if_neg q]; exact ⟨_, rfl, rfl⟩
  · rw [if_neg k]
    by_cases q : (2 : Int32) ≤ y
    · rw [if_pos q]; exact ⟨_, rfl, rfl⟩
    · rw [if_neg q]; exact ⟨_, rfl, rfl⟩
theorem in019 {b : Nat} (h : b < 20) : f_X11_within (nI b) 0 19 = 1 := win_v (n := 20) h (by decide)
theorem c_comes {w v : Wd} {n i b : Nat} (h : N9 w v n) (d : DR w v n) (hi : i < n) (hb : b < 20) (t : Int32) : ∃ w' v', f_X2_enterBlock w (nI i) (nI b) t = some w' ∧ f_X12_comes v (nI i) (nI b) t = some v' ∧ FrD w w' ∧ FrE v v' ∧ DR w' v' n := by
  obtain ⟨hn, -⟩ := id h
  obtain ⟨r, r1, r2⟩ := c_room h d hb
  unfold f_X2_enterBlock f_X12_comes
  rw [in019 hb, if_neg one0, r1, r2]
  simp only [bo_v]
  by_cases k : r = 0
  · rw [if_pos k, if_pos k]
    exact ⟨w, v, rfl, rfl, FrD.refl, FrE.refl, d⟩
  · rw [if_neg k, if_neg k]
    simp only [st_n (show i < 4 by omega) (show 4 < 2 ^ 31 by decide)]
    refine ⟨_, _, rfl, rfl, (FrD.sI (by decide)).trans (FrD.sI (by decide)), (FrE.sI (by decide)).trans (FrE.sI (by decide)), fun j hj => ?_⟩
    obtain ⟨d1, d2, d3⟩ := d j hj
    by_cases q : j = i
    · subst q
      refine ⟨?_, ?_, Or.inr (Or.inr ⟨b, hb, ?_, ?_⟩)⟩
      · (repeat first | rw [wS_sI, if_pos ⟨rfl, rfl⟩] | rw [wS_sI, if_neg (by omega)] | rw [wS_sN, if_neg (by omega)] | rw [wS_sR] | rw [wS_sN, if_pos rfl] | rw [wS_sFr, if_neg (by omega)] | rw [wS_sFr, if_pos (by omega)])
      · (repeat first | rw [wS_sI, if_pos ⟨rfl, rfl⟩] | rw [wS_sI, if_neg (by omega)] | rw [wS_sN, if_neg (by omega)] | rw [wS_sR] | rw [wS_sN, if_pos rfl] | rw [wS_sFr, if_neg (by omega)] | rw [wS_sFr, if_pos (by omega)]); exact d2
      · (repeat first | rw [wS_sI, if_pos ⟨rfl, rfl⟩] | rw [wS_sI, if_neg (by omega)] | rw [wS_sN, if_neg (by omega)] | rw [wS_sR] | rw [wS_sN, if_pos rfl] | rw [wS_sFr, if_neg (by omega)] | rw [wS_sFr, if_pos (by omega)])
      · (repeat first | rw [wS_sI, if_pos ⟨rfl, rfl⟩] | rw [wS_sI, if_neg (by omega)] | rw [wS_sN, if_neg (by omega)] | rw [wS_sR] | rw [wS_sN, if_pos rfl] | rw [wS_sFr, if_neg (by omega)] | rw [wS_sFr, if_pos (by omega)])
    · refine ⟨?_, ?_, ?_⟩
      · (repeat first | rw [wS_sI, if_pos ⟨rfl, rfl⟩] | rw [wS_sI, if_neg (by omega)] | rw [wS_sN, if_neg (by omega)] | rw [wS_sR] | rw [wS_sN, if_pos rfl] | rw [wS_sFr, if_neg (by omega)] | rw [wS_sFr, if_pos (by omega)]); exact d1
      · (repeat first | rw [wS_sI, if_pos ⟨rfl, rfl⟩] | rw [wS_sI, if_neg (by omega)] | rw [wS_sN, if_neg (by omega)] | rw [wS_sR] | rw [wS_sN, if_pos rfl] | rw [wS_sFr, if_neg (by omega)] | rw [wS_sFr, if_pos (by omega)]); exact d2
      · (repeat first | rw [wS_sI, if_pos ⟨rfl, rfl⟩] | rw [wS_sI, if_neg (by omega)] | rw [wS_sN, if_neg (by omega)] | rw [wS_sR] | rw [wS_sN, if_pos rfl] | rw [wS_sFr, if_neg (by omega)] | rw [wS_sFr, if_pos (by omega)]); exact d3
theorem jn_st {β : Type} {P X : β} {a b : Prop} [Decidable a] [Decidable b] (h : a ∨ ¬ b) : q_jn P (fun j => if a then j else if b then X else j) = P := by
  rw [jn_eq]
  by_cases k : a
  · rw [if_pos k]
  · rw [if_neg k]
    rcases h with h | h
    · exact absurd h k
    · rw [if_neg h]
theorem c_pass {w v : Wd} {n i : Nat} (h : N9 w v n) (d : DR w v n) (hi : i < n) (t : Int32) (hs : t < wS v 109 i ∨ ¬ t < wS v 110 i) : ∃ w' v', f_X2_pass w (nI i) t = some w' ∧ f_X12_turns v (nI i) t = some v' ∧ FrD w w' ∧ FrE v v' ∧ DR w' v' n := by
  obtain ⟨hn, e1, e2, hB, hD⟩ := id h
  have hi4 : i < 4 := by omega
  obtain ⟨⟨f1, f2⟩, ⟨g1, g2⟩, ⟨m1, m2⟩, -, -⟩ := hD i hi
  obtain ⟨d1, d2, d3⟩ := d i hi
  obtain ⟨a, ha, ea⟩ := bt_ex (n := 19) f2 (by decide)
  obtain ⟨z, hz, ez⟩ := bt_ex (n := 19) g2 (by decide)
  unfold f_X2_pass f_X12_turns
  simp only [ld_n hi4 (show 4 < 2 ^ 31 by decide), ← d1]
  rw [jn_st hs]
  rcases d3 with p | p | ⟨b, hb, p, p2⟩
  · rw [p, if_pos rfl, if_neg (show ¬ (100 : Int32) = 101 by decide), if_pos rfl, ← m1, ← f1, ea]
    by_cases k : t < wS w 44 i
    · rw [if_pos k, if_pos k]
      exact ⟨w, v, rfl, rfl, FrD.refl, FrE.refl, d⟩
    · rw [if_neg k, if_neg k]
      obtain ⟨w', v', r1, r2, r3⟩ := c_comes h d hi (show a < 20 by omega) t
      rw [r1, r2]
      exact ⟨w', v', rfl, rfl, r3⟩
  · rw [p, if_neg (show ¬ (101 : Int32) = 100 by decide), if_pos rfl, if_pos rfl]
    exact ⟨w, v, rfl, rfl, FrD.refl, FrE.refl, d⟩
  · have n1 : ¬ nI b = (100 : Int32) := fun q => by have := (nI_eq (b := 100) (by omega) (by decide)).mp q; omega
    have n2 : ¬ nI b = (101 : Int32) := fun q => by have := (nI_eq (b := 101) (by omega) (by decide)).mp q; omega
    unfold f_X2_hasStayed
    simp only [ld_n hi4 (show 4 < 2 ^ 31 by decide)]
    rw [p, if_neg n1, if_neg n2, if_neg n2, if_neg n1, in019 hb, if_neg one0]
    simp only [ld_n hb (show 20 < 2 ^ 31 by decide)]
    rw [p2, ← (hB b hb).1.1]
    by_cases k : t - wS v 112 i < wS w 40 b
    · rw [if_pos k, if_pos k, bo_v, if_pos rfl]
      exact ⟨w, v, rfl, rfl, FrD.refl, FrE.refl, d⟩
    · rw [if_neg k, if_neg k, bo_v, if_neg one0, ← g1, ez]
      by_cases q : nI b = nI z
      · rw [if_pos q, if_pos q]
        simp only [st_n hi4 (show 4 < 2 ^ 31 by decide)]
        refine ⟨_, _, rfl, rfl, (FrD.sI (by decide)).trans (FrD.sI (by decide)), (FrE.sI (by decide)).trans (FrE.sI (by decide)), fun j hj => ?_⟩
        obtain ⟨d1, d2, d3⟩ := d j hj
        by_cases q : j = i
        · subst q
          refine ⟨?_, ?_, Or.inr (Or.inl ?_)⟩
          · (repeat first | rw [wS_sI, if_pos ⟨rfl, rfl⟩] | rw [wS_sI, if_neg (by omega)] | rw [wS_sN, if_neg (by omega)] | rw [wS_sR] | rw [wS_sN, if_pos rfl] | rw [wS_sFr, if_neg (by omega)] | rw [wS_sFr, if_pos (by omega)])
          · (repeat first | rw [wS_sI, if_pos ⟨rfl, rfl⟩] | rw [wS_sI, if_neg (by omega)] | rw [wS_sN, if_neg (by omega)] | rw [wS_sR] | rw [wS_sN, if_pos rfl] | rw [wS_sFr, if_neg (by omega)] | rw [wS_sFr, if_pos (by omega)])
          · (repeat first | rw [wS_sI, if_pos ⟨rfl, rfl⟩] | rw [wS_sI, if_neg (by omega)] | rw [wS_sN, if_neg (by omega)] | rw [wS_sR] | rw [wS_sN, if_pos rfl] | rw [wS_sFr, if_neg (by omega)] | rw [wS_sFr, if_pos (by omega)])
        · refine ⟨?_, ?_, ?_⟩
          · (repeat first | rw [wS_sI, if_pos ⟨rfl, rfl⟩] | rw [wS_sI, if_neg (by omega)] | rw [wS_sN, if_neg (by omega)] | rw [wS_sR] | rw [wS_sN, if_pos rfl] | rw [wS_sFr, if_neg (by omega)] | rw [wS_sFr, if_pos (by omega)]); exact d1
          · (repeat first | rw [wS_sI, if_pos ⟨rfl, rfl⟩] | rw [wS_sI, if_neg (by omega)] | rw [wS_sN, if_neg (by omega)] | rw [wS_sR] | rw [wS_sN, if_pos rfl] | rw [wS_sFr, if_neg (by omega)] | rw [wS_sFr, if_pos (by omega)]); exact d2
          · (repeat first | rw [wS_sI, if_pos ⟨rfl, rfl⟩] | rw [wS_sI, if_neg (by omega)] | rw [wS_sN, if_neg (by omega)] | rw [wS_sR] | rw [wS_sN, if_pos rfl] | rw [wS_sFr, if_neg (by omega)] | rw [wS_sFr, if_pos (by omega)]); exact d3
      · rw [if_neg q, if_neg q]
        have q' : b ≠ z := fun k => q (by rw [k])
        simp only [q_jn]
        by_cases le : z ≤ b
        · rw [if_pos ((nI_leI (by omega) (by omega)).mpr le), nI_sub b (by omega)]
          obtain ⟨w', v', r1, r2, r3⟩ := c_comes h d hi (show b - 1 < 20 by omega) t
          rw [if_pos ((nI_leI (by omega) (by omega)).mpr le), r1, r2]
          exact ⟨w', v', rfl, rfl, r3⟩
        · rw [if_neg (fun k => le ((nI_leI (by omega) (by omega)).mp k)), nI_1]
          obtain ⟨w', v', r1, r2, r3⟩ := c_comes h d hi (show b + 1 < 20 by omega) t
          rw [if_neg (fun k => le ((nI_leI (by omega) (by omega)).mp k)), r1, r2]
          exact ⟨w', v', rfl, rfl, r3⟩
theorem turns_skip {v : Wd} {i : Nat} (hi : i < 4) (t : Int32) (h1 : ¬ t < wS v 109 i) (h2 : t < wS v 110 i) : f_X12_turns v (nI i) t = some v := by
  unfold f_X12_turns
  simp only [ld_n hi (show 4 < 2 ^ 31 by decide)]
  rw [jn_eq, if_neg h1, if_pos h2]
theorem l_d26 {n : Nat} (t : Int32) (J J' : Wd → Option Wd) : ∀ (m i f : Nat) (w v : Wd), N9 w v n → DR w v n → i + m = n → m < f → ∃ w' v', l_X2_passTo_26 t J f w (nI i) = J w' ∧ l_X12_days_37 t J' f v (nI i) = J' v' ∧ FrD w w' ∧ FrE v v' ∧ DR w' v' n
  | 0, i, f + 1, w, v, h, d, hi, _ => by
    obtain ⟨hn, e1, e2, -⟩ := id h
    unfold l_X2_passTo_26 l_X12_days_37
    simp only [q_gt, e1, e2, if_pos (nI_le (show n ≤ i by omega) (by omega))]
    exact ⟨w, v, rfl, rfl, FrD.refl, FrE.refl, d⟩
  | m + 1, i, f + 1, w, v, h, d, hi, hf => by
    obtain ⟨hn, e1, e2, hB, hD⟩ := id h
    obtain ⟨-, -, -, ⟨s1, -⟩, s2, -⟩ := hD i (by omega)
    have hi4 : i < 4 := by omega
    unfold l_X2_passTo_26 l_X12_days_37
    simp only [q_gt, q_lt, e1, e2, if_neg (nI_ge (show i < n by omega) (by omega)), ld_n hi4 (show 4 < 2 ^ 31 by decide), s1, s2, nI_1]
    rw [jn_eq]
    by_cases k : t < wS v 109 i ∨ ¬ t < wS v 110 i
    · rw [jn_st k]
      obtain ⟨w1, v1, a1, a2, a3, a4, a5⟩ := c_pass h d (by omega) t k
      obtain ⟨w2, v2, b1, b2, b3, b4, b5⟩ := l_d26 t J J' m (i + 1) f w1 v1 (h.DE a3 a4) a5 (by omega) (by omega)
      rw [a1, a2]
      simp only [bo_v]
      exact ⟨w2, v2, b1, b2, a3.trans b3, a4.trans b4, b5⟩
    · have k1 : ¬ t < wS v 109 i := fun z => k (Or.inl z)
      have k2 : t < wS v 110 i := Decidable.byContradiction fun z => k (Or.inr z)
      rw [jn_eq, if_neg k1, if_pos k2, turns_skip hi4 t k1 k2]
      simp only [bo_v]
      exact l_d26 t J J' m (i + 1) f w v h d (by omega) (by omega)
theorem l_d19 {n T : Nat} (hT : T ≤ 2000) : ∀ (m t f : Nat) (w v : Wd), N9 w v n → DR w v n → t + m = T + 1 → m < f → ∃ w' v', l_X2_passTo_19 (nI T) f w (nI t) = some w' ∧ l_X12_days_30 (nI T) f v (nI t) = some v' ∧ FrD w w' ∧ FrE v v' ∧ DR w' v' n
  | 0, t, f + 1, w, v, h, d, ht, _ => by
    unfold l_X2_passTo_19 l_X12_days_30
    rw [if_pos (nI_lt (show T < t by omega) (by omega)), if_pos (nI_lt (show T < t by omega) (by omega))]
    exact ⟨w, v, rfl, rfl, FrD.refl, FrE.refl, d⟩
  | m + 1, t, f + 1, w, v, h, d, ht, hf => by
    obtain ⟨hn, -⟩ := id h
    obtain ⟨w1, v1, a1, a2, a3, a4, a5⟩ := l_d26 (nI t) (fun w_66j => q_lt (nI t + (1 : Int32)) (fun v_66 => l_X2_passTo_19 (nI T) f w_66j v_66)) (fun w_57j => q_lt (nI t + (1 : Int32)) (fun v_57 => l_X12_days_30 (nI T) f w_57j v_57)) n 0 FU w v h d (by omega) (by unfold FU; omega)
    obtain ⟨w2, v2, b1, b2, b3, b4, b5⟩ := l_d19 hT m (t + 1) f w1 v1 (h.DE a3 a4) a5 (by omega) (by omega)
    rw [nI_0] at a1 a2
    unfold l_X2_passTo_19 l_X12_days_30
    rw [if_neg (fun k => by have := (nI_ltI (by omega) (by omega)).mp k; omega), if_neg (fun k => by have := (nI_ltI (by omega) (by omega)).mp k; omega), jn_eq, jn_eq, a1, a2]
    simp only [q_lt, nI_1]
    exact ⟨w2, v2, b1, b2, a3.trans b3, a4.trans b4, b5⟩
theorem l_d2 (J : Wd → Option Wd) : ∀ (m i f : Nat) (v : Wd), i + m = 4 → m < f → (∀ k, k < i → wS v 111 k = 100 ∧ wS v 113 k = -1) → ∃ v', l_X12_days_2 J f v (nI i) = J v' ∧ FrE v v' ∧ ∀ k, k < 4 → wS v' 111 k = 100 ∧ wS v' 113 k = -1
  | 0, i, f + 1, v, hi, _, h => by
    unfold l_X12_days_2
    rw [if_pos (show (4 : Int32) ≤ nI i from (nI_leI (a := 4) (by decide) (by omega)).mpr (by omega))]
    exact ⟨v, rfl, FrE.refl, fun k hk => h k (by omega)⟩
  | m + 1, i, f + 1, v, hi, hf, h => by
    obtain ⟨v', a1, a2, a3⟩ := l_d2 J m (i + 1) f (sI (sI v 111 i 100) 113 i (-1)) (by omega) (by omega) (fun k hk => by
      by_cases q : k = i
      · subst q
        refine ⟨?_, ?_⟩
        · (repeat first | rw [wS_sI, if_pos ⟨rfl, rfl⟩] | rw [wS_sI, if_neg (by omega)] | rw [wS_sN, if_neg (by omega)] | rw [wS_sR] | rw [wS_sN, if_pos rfl] | rw [wS_sFr, if_neg (by omega)] | rw [wS_sFr, if_pos (by omega)])
        · (repeat first | rw [wS_sI, if_pos ⟨rfl, rfl⟩] | rw [wS_sI, if_neg (by omega)] | rw [wS_sN, if_neg (by omega)] | rw [wS_sR] | rw [wS_sN, if_pos rfl] | rw [wS_sFr, if_neg (by omega)] | rw [wS_sFr, if_pos (by omega)])
      · have := h k (by omega)
        refine ⟨?_, ?_⟩
        · (repeat first | rw [wS_sI, if_pos ⟨rfl, rfl⟩] | rw [wS_sI, if_neg (by omega)] | rw [wS_sN, if_neg (by omega)] | rw [wS_sR] | rw [wS_sN, if_pos rfl] | rw [wS_sFr, if_neg (by omega)] | rw [wS_sFr, if_pos (by omega)]); exact this.1
        · (repeat first | rw [wS_sI, if_pos ⟨rfl, rfl⟩] | rw [wS_sI, if_neg (by omega)] | rw [wS_sN, if_neg (by omega)] | rw [wS_sR] | rw [wS_sN, if_pos rfl] | rw [wS_sFr, if_neg (by omega)] | rw [wS_sFr, if_pos (by omega)]); exact this.2)
    unfold l_X12_days_2
    rw [if_neg (show ¬ (4 : Int32) ≤ nI i from fun k => by have := (nI_leI (a := 4) (by decide) (by omega)).mp k; omega)]
    simp only [st_n (show i < 4 by omega) (show 4 < 2 ^ 31 by decide), q_lt, nI_1]
    exact ⟨v', a1, ((FrE.sI (by decide)).trans (FrE.sI (by decide))).trans a2, a3⟩
theorem c_days {w v : Wd} {n T : Nat} (h : N9 w v n) (hT : T ≤ 2000) : ∃ w' v', f_X2_passTo w (nI T) = some w' ∧ f_X12_days v (nI T) = some v' ∧ FrD w w' ∧ FrE v v' ∧ DR w' v' n := by
  obtain ⟨hn, -⟩ := id h
  obtain ⟨v1, a1, a2, a3⟩ := l_d2 (fun w_28j => l_X12_days_30 (nI T) FU w_28j (0 : Int32)) 4 0 FU v (by omega) (by unfold FU; omega) (fun k hk => absurd hk (Nat.not_lt_zero k))
  have f1 : FrD w (sFr (sFr w 47 0 4 100) 49 0 4 (-1)) := (FrD.sFr (by decide)).trans (FrD.sFr (by decide))
  obtain ⟨w2, v2, b1, b2, b3, b4, b5⟩ := l_d19 (n := n) hT (T + 1) 0 FU (sFr (sFr w 47 0 4 100) 49 0 4 (-1)) v1 (h.DE f1 a2) (fun i hi => by
    obtain ⟨x1, x2⟩ := a3 i (by omega)
    refine ⟨?_, ?_, Or.inl ?_⟩
    · (repeat first | rw [wS_sI, if_pos ⟨rfl, rfl⟩] | rw [wS_sI, if_neg (by omega)] | rw [wS_sN, if_neg (by omega)] | rw [wS_sR] | rw [wS_sN, if_pos rfl] | rw [wS_sFr, if_neg (by omega)] | rw [wS_sFr, if_pos (by omega)]); exact x1.symm
    · (repeat first | rw [wS_sI, if_pos ⟨rfl, rfl⟩] | rw [wS_sI, if_neg (by omega)] | rw [wS_sN, if_neg (by omega)] | rw [wS_sR] | rw [wS_sN, if_pos rfl] | rw [wS_sFr, if_neg (by omega)] | rw [wS_sFr, if_pos (by omega)]); exact x2.symm
    · (repeat first | rw [wS_sI, if_pos ⟨rfl, rfl⟩] | rw [wS_sI, if_neg (by omega)] | rw [wS_sN, if_neg (by omega)] | rw [wS_sR] | rw [wS_sN, if_pos rfl] | rw [wS_sFr, if_neg (by omega)] | rw [wS_sFr, if_pos (by omega)])) (by omega) (by unfold FU; omega)
  rw [nI_0] at a1 b1 b2
  unfold f_X2_passTo f_X12_days
  rw [fill_k (by decide), bo_v, fill_k (by decide), bo_v, jn_eq, a1, b1, b2]
  exact ⟨w2, v2, rfl, rfl, f1.trans b3, a2.trans b4, b5⟩
theorem c_gone {w v : Wd} (h : R9 w v) (a : Int32) : OK 9 R9 (f_X11_gone w a) (f_X12_gone v a) w v := by
  obtain ⟨n, N⟩ := id h
  have N : N9 w v n := N
  obtain ⟨hn, e1, e2, -⟩ := id N
  unfold f_X11_gone f_X2_goneOf f_X12_gone
  rw [in_eq]
  simp only [q_gt, e1, e2]
  rcases win_n a (n := n) (by omega) with q | ⟨q, i, hi, rfl⟩
  · rw [q]; exact OK.same h
  obtain ⟨w', v', r1, r2, r3, r4, r5⟩ := c_days N (T := 2000) (by decide)
  have r1' : f_X2_passTo w 2000 = some w' := r1
  have r2' : f_X12_days v 2000 = some v' := r2
  rw [q, if_neg one0, if_neg one0, r1', r2']
  simp only [bo_v, bi_v, ld_n (show i < 4 by omega) (show 4 < 2 ^ 31 by decide), (r5 i hi).2.1]
  exact ⟨_, w', v', rfl, rfl, ⟨n, N.DE r3 r4⟩, r3.only.of0, r4.only.of0, r3.cm, r4.mm, r3.2, r4.2⟩
theorem c_where {w v : Wd} (h : R9 w v) (a b : Int32) : OK 9 R9 (f_X11_where w a b) (f_X12_where v a b) w v := by
  obtain ⟨n, N⟩ := id h
  have N : N9 w v n := N
  obtain ⟨hn, e1, e2, -⟩ := id N
  unfold f_X11_where f_X2_placeOf f_X12_where
  rw [in_eq]
  simp only [q_gt, e1, e2]
  rcases win_n a (n := n) (by omega) with q | ⟨q, i, hi, rfl⟩
  · rw [q]; exact OK.same h
  rw [q, if_neg one0, if_neg one0]
  rcases win_n b (n := 2001) (by decide) with p | ⟨p, T, hT, rfl⟩
  · have p' : f_X11_within b 0 2000 = 0 := p
    rw [p']; exact OK.same h
  have p' : f_X11_within (nI T) 0 2000 = 1 := p
  obtain ⟨w', v', r1, r2, r3, r4, r5⟩ := c_days N (T := T) (by omega)
  rw [p', if_neg one0, if_neg one0, r1, r2]
  simp only [bo_v, bi_v, ld_n (show i < 4 by omega) (show 4 < 2 ^ 31 by decide), (r5 i hi).1]
  exact ⟨_, w', v', rfl, rfl, ⟨n, N.DE r3 r4⟩, r3.only.of0, r4.only.of0, r3.cm, r4.mm, r3.2, r4.2⟩
