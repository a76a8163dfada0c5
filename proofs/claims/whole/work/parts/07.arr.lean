/-! ===== rows of numbers and of references ===== -/
section XA
variable {p : Program} {l : Launch} {e : Env} {R : Room} {s : State} {m : MethodId} {args : Array Value} {below : List Frame} {meth : Method} {c : Code} {H : Heap} {locs : List Loc} {cells slots : Nat} {Q : State → Prop}
variable {cc : ByteArray} {pc nL : Nat} {ls : Array Slot} {rest : List Value} {D : va_G} {cT : Nat → ClassId} {lo nb : Nat} {w : Wd} {ad : Nat → Nat} {own : String} {index ci j k n : Nat} {ty : FieldType}
theorem x_row {E : va_E} (hP : wP D cT lo nb w ad H) (ha : wA w k ≠ 0) (hE : cel cT w ad k = E) : va_P D vwCl [(ad k, E)] H := by
  intro i q hq
  have hi : i < 1 := (List.getElem?_eq_some_iff.mp hq).1
  rw [show i = 0 by omega] at hq
  cases hq
  have := hP.1 k ha
  rw [hE] at this
  exact this
theorem x_iald {i : Int32} (F : Fx p s m args c cc own nL D cT lo) (hP : wP D cT lo nb w ad H) (hk : kt k = (1, n)) (ha : wA w k ≠ 0) (hin : vp_in i n) (hdg : decode cc pc = .ok (.iaload, 1))
    (kk : W p l e R s m args below meth c H locs cells slots Q (F0 m (pc + 1) ls (.int (wS w k i.toNatClampNeg) :: rest))) : W p l e R s m args below meth c H locs cells slots Q (F0 m pc ls (.int i :: .ref (ad k) :: rest)) :=
  va_iald F.1 F.2.1 F.2.2.2.2.1.1 (x_row hP ha (cel_i hk)) 0 0 rfl rfl hin hdg kk
theorem x_zald {i : Int32} (F : Fx p s m args c cc own nL D cT lo) (hP : wP D cT lo nb w ad H) (hk : kt k = (2, n)) (ha : wA w k ≠ 0) (hin : vp_in i n) (hdg : decode cc pc = .ok (.baload, 1))
    (kk : W p l e R s m args below meth c H locs cells slots Q (F0 m (pc + 1) ls (.int (wS w k i.toNatClampNeg) :: rest))) : W p l e R s m args below meth c H locs cells slots Q (F0 m pc ls (.int i :: .ref (ad k) :: rest)) :=
  va_zald F.1 F.2.1 F.2.2.2.2.1.1 (x_row hP ha (cel_z hk)) 0 1 rfl rfl hin hdg kk
theorem x_lald {i : Int32} (F : Fx p s m args c cc own nL D cT lo) (hP : wP D cT lo nb w ad H) (hk : kt k = (3, n)) (ha : wA w k ≠ 0) (hin : vp_in i n) (hdg : decode cc pc = .ok (.laload, 1))
    (kk : W p l e R s m args below meth c H locs cells slots Q (F0 m (pc + 1) ls (.long (wL w k i.toNatClampNeg) :: rest))) : W p l e R s m args below meth c H locs cells slots Q (F0 m pc ls (.int i :: .ref (ad k) :: rest)) :=
  va_lald F.1 F.2.1 F.2.2.2.2.1.1 (x_row hP ha (cel_l hk)) 0 2 rfl rfl hin hdg kk
theorem x_alen (F : Fx p s m args c cc own nL D cT lo) (hP : wP D cT lo nb w ad H) (hk : kt k = (1, n)) (ha : wA w k ≠ 0) (hdg : decode cc pc = .ok (.arraylength, 1))
    (kk : W p l e R s m args below meth c H locs cells slots Q (F0 m (pc + 1) ls (.int (nI n) :: rest))) : W p l e R s m args below meth c H locs cells slots Q (F0 m pc ls (.ref (ad k) :: rest)) :=
  va_alen F.1 F.2.1 F.2.2.2.2.1.1 (x_row hP ha (cel_i hk)) 0 0 rfl rfl rfl hdg kk
/-- a reference out of a row of references: set, so made -/
theorem x_aald {i : Int32} {c0 k' : Nat} (F : Fx p s m args c cc own nL D cT lo) (hP : wP D cT lo nb w ad H) (hk : kt k = (c0, n)) (h4 : 4 ≤ c0) (h7 : c0 < 7) (ha : wA w k ≠ 0) (hin : vp_in i n) (hz : ¬ wS w k i.toNatClampNeg = 0) (hr : rt k i.toNatClampNeg = k') (hdg : decode cc pc = .ok (.aaload, 1))
    (kk : wA w k' = 2 → W p l e R s m args below meth c H locs cells slots Q (F0 m (pc + 1) ls (.ref (ad k') :: rest))) : W p l e R s m args below meth c H locs cells slots Q (F0 m pc ls (.int i :: .ref (ad k) :: rest)) := by
  have hlt : i.toNatClampNeg < n := Nat.not_le.mp fun q => hin (Or.inr q)
  have hal : wA w k' = 2 := by
    rw [← hr]
    exact hP.2.2.2.1 k _ ha (Or.inl ⟨by rw [hk]; exact h4, by rw [hk]; show c0 < 10; omega, by rw [hk]; exact hlt, hz⟩)
  have key : ∀ (t0 : Nat) (C : String), (tyl cT)[t0]? = some (cT c0, .object C) → W p l e R s m args below meth c H locs cells slots Q (F0 m pc ls (.int i :: .ref (ad k) :: rest)) := fun t0 C ht => by
    refine va_aldq F.1 F.2.1 F.2.2.2.2.1.1 (x_row hP ha (cel_q hk h4 (by omega))) 0 t0 rfl ht hin hdg ?_
    rw [if_neg (fun q => q.elim (fun q => by omega) hz), hr]
    exact kk hal
  rcases (show c0 = 4 ∨ c0 = 5 ∨ c0 = 6 by omega) with rfl | rfl | rfl
  · exact key 3 _ rfl
  · exact key 4 _ rfl
  · exact key 5 _ rfl
/-- a row out of a row of rows -/
theorem x_aald7 {i : Int32} {k' : Nat} (F : Fx p s m args c cc own nL D cT lo) (hP : wP D cT lo nb w ad H) (hk : kt k = (7, n)) (ha : wA w k ≠ 0) (hin : vp_in i n) (hz : ¬ wS w k i.toNatClampNeg = 0) (hr : rt k i.toNatClampNeg = k') (hdg : decode cc pc = .ok (.aaload, 1))
    (kk : wA w k' = 2 → W p l e R s m args below meth c H locs cells slots Q (F0 m (pc + 1) ls (.ref (ad k') :: rest))) : W p l e R s m args below meth c H locs cells slots Q (F0 m pc ls (.int i :: .ref (ad k) :: rest)) := by
  have hlt : i.toNatClampNeg < n := Nat.not_le.mp fun q => hin (Or.inr q)
  have hal : wA w k' = 2 := by
    rw [← hr]
    exact hP.2.2.2.1 k _ ha (Or.inl ⟨by rw [hk]; show 4 ≤ 7; decide, by rw [hk]; show 7 < 10; decide, by rw [hk]; exact hlt, hz⟩)
  have hq := x_row hP ha (cel_q hk (by decide) (by decide)) 0 _ rfl
  refine W.aald (v := va_rf (if n ≤ i.toNatClampNeg ∨ wS w k i.toNatClampNeg = 0 then none else some (ad (rt k i.toNatClampNeg)))) (ty := .array .int) F.1 F.2.1 hq ((F.2.2.2.2.1.1.2 6 _ rfl).1 n (fun j => va_rf (if n ≤ j ∨ wS w k j = 0 then none else some (ad (rt k j))))) rfl (fun q => by cases q) (by show ¬ (i < 0 ∨ (arrV _ _ _).slots.size ≤ _); rw [arrV_size]; exact hin) (by show (arrV _ _ _).slots[_]? = _; rw [arrV_read _ _ hlt]) rfl rfl hdg ?_
  rw [if_neg (fun q => q.elim (fun q => by omega) hz), hr]
  exact kk hal
theorem h4_arr {x : Int32} (hn : (kt k).1 < 4) : ∀ j', rsl (sI w k j x) k j' → rsl w k j' ∨ wA w (rt k j') = 2 := fun j' h => Or.inl (sI_rsl (Or.inl hn) j' h)
theorem x_iast {i x : Int32} (F : Fx p s m args c cc own nL D cT lo) (hP : wP D cT lo nb w ad H) (hS : va_S (fun q => lo ≤ q) s.heap H locs) (hk : kt k = (1, n)) (ha : wA w k ≠ 0) (hin : vp_in i n) (hdg : decode cc pc = .ok (.iastore, 1))
    (kk : ∀ (H : Heap) (locs : List Loc), wP D cT lo nb (sI w k i.toNatClampNeg x) ad H → va_S (fun q => lo ≤ q) s.heap H locs → W p l e R s m args below meth c H locs cells slots Q (F0 m (pc + 1) ls rest)) : W p l e R s m args below meth c H locs cells slots Q (F0 m pc ls (.int x :: .int i :: .ref (ad k) :: rest)) := by
  have hq := x_row hP ha (cel_i hk) 0 _ rfl
  refine W.iast F.1 F.2.1 hq ((F.2.2.2.2.1.1.2 0 _ rfl).1 n (fun j => .int (wS w k j))) (fun q => by cases q) (by show ¬ (i < 0 ∨ (arrV _ _ _).slots.size ≤ _); rw [arrV_size]; exact hin) rfl rfl hdg fun H1 e1 z oq => ?_
  refine kk H1 _ (hP.set1 (k := k) ha (fun _ => rfl) (fun q hq j' => wS_sI_ne hq j') (fun _ _ _ => rfl) ?_ oq (h4_arr (by rw [hk]; show 1 < 4; decide)) (fun j' a b c => by rw [hk] at a; exact absurd a (by show ¬ 10 ≤ 1; decide))) (hS.putl z oq (hP.2.2.1 k ha))
  rw [cel_i hk]
  show H1[ad k]? = some (vp_cell _ _)
  rw [e1, vp_cell_i, vp_cell_i, arrV_store]
  congr 2
  funext q
  by_cases hq : q = i.toNatClampNeg
  · subst hq
    simp [updV, wS_same]
  · simp [updV, hq, wS_other hq]
theorem x_zast {i x : Int32} (F : Fx p s m args c cc own nL D cT lo) (hP : wP D cT lo nb w ad H) (hS : va_S (fun q => lo ≤ q) s.heap H locs) (hk : kt k = (2, n)) (ha : wA w k ≠ 0) (hin : vp_in i n) (hdg : decode cc pc = .ok (.bastore, 1))
    (kk : ∀ (H : Heap) (locs : List Loc), wP D cT lo nb (sI w k i.toNatClampNeg (vp_nar .boolean x)) ad H → va_S (fun q => lo ≤ q) s.heap H locs → W p l e R s m args below meth c H locs cells slots Q (F0 m (pc + 1) ls rest)) : W p l e R s m args below meth c H locs cells slots Q (F0 m pc ls (.int x :: .int i :: .ref (ad k) :: rest)) := by
  have hq := x_row hP ha (cel_z hk) 0 _ rfl
  refine W.zast F.1 F.2.1 hq ((F.2.2.2.2.1.1.2 1 _ rfl).1 n (fun j => .int (wS w k j))) (fun q => by cases q) (by show ¬ (i < 0 ∨ (arrV _ _ _).slots.size ≤ _); rw [arrV_size]; exact hin) rfl rfl hdg fun H1 e1 z oq => ?_
  refine kk H1 _ (hP.set1 (k := k) ha (fun _ => rfl) (fun q hq j' => wS_sI_ne hq j') (fun _ _ _ => rfl) ?_ oq (h4_arr (by rw [hk]; show 2 < 4; decide)) (fun j' a b c => by rw [hk] at a; exact absurd a (by show ¬ 10 ≤ 2; decide))) (hS.putl z oq (hP.2.2.1 k ha))
  rw [cel_z hk]
  show H1[ad k]? = some (vp_cell _ _)
  rw [e1, vp_cell_i, vp_cell_i, arrV_store]
  congr 2
  funext q
  by_cases hq : q = i.toNatClampNeg
  · subst hq
    simp [updV, wS_same, vp_nar]
    try rfl
  · simp [updV, hq, wS_other hq]
theorem x_last {i : Int32} {x : Int64} (F : Fx p s m args c cc own nL D cT lo) (hP : wP D cT lo nb w ad H) (hS : va_S (fun q => lo ≤ q) s.heap H locs) (hk : kt k = (3, n)) (ha : wA w k ≠ 0) (hin : vp_in i n) (hdg : decode cc pc = .ok (.lastore, 1))
    (kk : ∀ (H : Heap) (locs : List Loc), wP D cT lo nb (sJ w k i.toNatClampNeg x) ad H → va_S (fun q => lo ≤ q) s.heap H locs → W p l e R s m args below meth c H locs cells slots Q (F0 m (pc + 1) ls rest)) : W p l e R s m args below meth c H locs cells slots Q (F0 m pc ls (.long x :: .int i :: .ref (ad k) :: rest)) := by
  have hq := x_row hP ha (cel_l hk) 0 _ rfl
  refine W.last F.1 F.2.1 hq ((F.2.2.2.2.1.1.2 2 _ rfl).1 n (fun j => .long (wL w k j))) (fun q => by cases q) (by show ¬ (i < 0 ∨ (arrV _ _ _).slots.size ≤ _); rw [arrV_size]; exact hin) rfl rfl hdg fun H1 e1 z oq => ?_
  refine kk H1 _ (hP.set1 (k := k) ha (fun _ => rfl) (fun _ _ _ => rfl) (fun q hq j' => by rw [wL_sJ, if_neg (fun z => hq z.1)]) ?_ oq (fun j' h => Or.inl h) (fun j' a b c => by rw [hk] at a; exact absurd a (by show ¬ 10 ≤ 3; decide))) (hS.putl z oq (hP.2.2.1 k ha))
  rw [cel_l hk]
  show H1[ad k]? = some (vp_cell _ _)
  rw [e1, vp_cell_l, vp_cell_l, arrV_store]
  congr 2
  funext q
  by_cases hq : q = i.toNatClampNeg
  · subst hq
    simp [updV, wL_sJ]
  · simp [updV, hq, wL_sJ]
/-- an object comes into a row of its class -/
theorem x_aast {i : Int32} {c0 k' ci' t0 : Nat} {C : String} {T : u_T} {N : Nat} (F : Fx p s m args c cc own nL D cT lo) (hP : wP D cT lo nb w ad H) (hS : va_S (fun q => lo ≤ q) s.heap H locs) (hk : kt k = (c0, n)) (h4 : 4 ≤ c0) (h7 : c0 < 7) (ha : wA w k ≠ 0) (hin : vp_in i n) (hk' : kt k' = (ci' + 10, 0)) (ha' : wA w k' = 2) (hc : vwCl[ci']? = some (C, T, N)) (ht : (tyl cT)[t0]? = some (cT c0, .object C)) (hr : rt k i.toNatClampNeg = k') (hdg : decode cc pc = .ok (.aastore, 1))
    (kk : ∀ (H : Heap) (locs : List Loc), wP D cT lo nb (sI w k i.toNatClampNeg 1) ad H → va_S (fun q => lo ≤ q) s.heap H locs → W p l e R s m args below meth c H locs cells slots Q (F0 m (pc + 1) ls rest)) : W p l e R s m args below meth c H locs cells slots Q (F0 m pc ls (.ref (ad k') :: .int i :: .ref (ad k) :: rest)) := by
  have hlt : i.toNatClampNeg < n := Nat.not_le.mp fun q => hin (Or.inr q)
  have h0 : ¬ i < 0 := fun q => hin (Or.inl q)
  have hK := F.2.2.2.2.1.1
  obtain ⟨r', hr', cellV, g1, g2, g3, -⟩ := x_at hP hk' (n2 ha') 0 _ rfl
  have hcls := (hK.1 ci' _ hc).2
  obtain ⟨kA, comp, k1, k2, k3, -⟩ := (hK.2 t0 _ ht).2
  have hcomp : comp = D.1 ci' := Option.some.inj (k3.symm.trans hcls.1)
  subst hcomp
  obtain ⟨kC, hkC, -⟩ := hcls.2
  have hq := x_row hP ha (cel_q hk h4 (by omega)) 0 _ rfl
  refine W.aast F.1 F.2.1 hq (fun q h => by cases h) (fun h => by cases h) k1 k2 rfl hkC ⟨h0, by show _ < (arrV _ _ _).slots.size; rw [arrV_size]; exact hlt⟩ g1 (fun q h => by rw [g3] at h; cases h) (by rw [g2]; exact hkC) (by rw [g2]; exact va_assign hcls) rfl rfl hdg fun H1 e1 z oq => ?_
  refine kk H1 _ (hP.set1 (k := k) ha (fun _ => rfl) (fun q hq j' => wS_sI_ne hq j') (fun _ _ _ => rfl) ?_ oq (fun j' h => ?_) (fun j' a b c => by rw [hk] at a; exact absurd a (by show ¬ 10 ≤ c0; omega))) (hS.putl z oq (hP.2.2.1 k ha))
  · rw [cel_q hk h4 (by omega)]
    show H1[ad k]? = some (vp_cell _ _)
    rw [e1, vp_cell_q, vp_cell_q, arrV_store]
    congr 2
    funext q
    by_cases hq : q = i.toNatClampNeg
    · subst hq
      rw [wS_same]
      simp [updV, va_rf, show ¬ n ≤ i.toNatClampNeg by omega, hr]
    · simp [updV, hq, wS_other hq]
  · by_cases e : j' = i.toNatClampNeg
    · subst e
      exact Or.inr (by rw [hr]; exact ha')
    · rcases h with ⟨h1, h2, h3, h5⟩ | ⟨h1, h2, h3⟩
      · exact Or.inl (Or.inl ⟨h1, h2, h3, by rw [← wS_other (x := 1) e]; exact h5⟩)
      · rw [hk] at h1
        exact absurd h1 (by show ¬ 10 ≤ c0; omega)
end XA
