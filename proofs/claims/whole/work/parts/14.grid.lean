/-! ===== a row of rows of ints, made at once ===== -/
def sM (w : Wd) (k : Nat) : Nat → Wd
  | 0 => sN w k 2
  | i + 1 => sI (sN (sM w k i) (rt k i) 2) k i 1
def aM (ad : Nat → Nat) (k h0 : Nat) : Nat → Nat → Nat
  | 0 => va_up ad k h0
  | i + 1 => va_up (aM ad k h0 i) (rt k i) (h0 + 1 + i)
def gOk (w : Wd) (k N M : Nat) : Prop := wA w k = 0 ∧ kt k = (7, N) ∧ ∀ j, j < N → wA w (rt k j) = 0 ∧ kt (rt k j) = (1, M) ∧ rt k j ≠ k ∧ ∀ i, i < N → rt k i = rt k j → i = j
def q_nm {β : Type} (w : Wd) (k N M : Nat) (K : Wd → Option β) : Option β := if wA w k = 0 ∧ kt k = (7, N) ∧ ∀ j, j < N → wA w (rt k j) = 0 ∧ kt (rt k j) = (1, M) ∧ rt k j ≠ k ∧ ∀ i, i < N → rt k i = rt k j → i = j then K (sM w k N) else none
theorem sM_facts {w : Wd} {k N M : Nat} (g : gOk w k N M) : ∀ i, i ≤ N → (∀ q, wA (sM w k i) q = if q = k ∨ (∃ j, j < i ∧ q = rt k j) then 2 else wA w q) ∧ (∀ j, wS (sM w k i) k j = if j < i then 1 else 0)
  | 0, _ => ⟨fun q => by
      show wA (sN w k 2) q = _
      rw [wA_sN]
      by_cases e : q = k
      · rw [if_pos e, if_pos (Or.inl e)]
      · rw [if_neg e, if_neg (fun z => z.elim e fun ⟨j, hj, _⟩ => absurd hj (Nat.not_lt_zero _))], fun j => by
      show wS (sN w k 2) k j = _
      rw [wS_sN, if_pos rfl, if_neg (Nat.not_lt_zero _)]⟩
  | i + 1, hi => by
    obtain ⟨h1, h2⟩ := sM_facts g i (by omega)
    have hk := (g.2.2 i (by omega)).2.2.1
    refine ⟨fun q => ?_, fun j => ?_⟩
    · show wA (sN (sM w k i) (rt k i) 2) q = _
      rw [wA_sN, h1]
      by_cases e : q = rt k i
      · rw [if_pos e, if_pos (Or.inr ⟨i, Nat.lt_succ_self i, e⟩)]
      · rw [if_neg e]
        by_cases e2 : q = k ∨ ∃ j, j < i ∧ q = rt k j
        · rw [if_pos e2, if_pos (e2.elim Or.inl fun ⟨j, hj, hq⟩ => Or.inr ⟨j, by omega, hq⟩)]
        · rw [if_neg e2, if_neg (fun z => z.elim (fun z => e2 (Or.inl z)) fun ⟨j, hj, hq⟩ => by
            rcases Nat.lt_or_ge j i with h | h
            · exact e2 (Or.inr ⟨j, h, hq⟩)
            · exact e (by rw [hq, show j = i by omega]))]
    · show wS (sI (sN (sM w k i) (rt k i) 2) k i 1) k j = _
      rw [wS_sI, wS_sN, if_neg (Ne.symm hk), h2]
      by_cases e : j = i
      · rw [if_pos ⟨rfl, e⟩, if_pos (by omega)]
      · rw [if_neg (fun z => e z.2)]
        by_cases e2 : j < i
        · rw [if_pos e2, if_pos (by omega)]
        · rw [if_neg e2, if_neg (by omega)]
theorem aM_k {ad : Nat → Nat} {w : Wd} {k N M h0 : Nat} (g : gOk w k N M) : ∀ i, i ≤ N → aM ad k h0 i k = h0
  | 0, _ => if_pos rfl
  | i + 1, hi => by
    show va_up (aM ad k h0 i) (rt k i) _ k = _
    unfold va_up
    rw [if_neg (Ne.symm (g.2.2 i (by omega)).2.2.1)]
    exact aM_k g i (by omega)
theorem aM_r {ad : Nat → Nat} {w : Wd} {k N M h0 : Nat} (g : gOk w k N M) : ∀ i, i ≤ N → ∀ j, j < i → aM ad k h0 i (rt k j) = h0 + 1 + j
  | 0, _, j, hj => absurd hj (Nat.not_lt_zero _)
  | i + 1, hi, j, hj => by
    show va_up (aM ad k h0 i) (rt k i) _ (rt k j) = _
    unfold va_up
    by_cases e : j = i
    · rw [e, if_pos rfl]
    · rw [if_neg (fun z => e ((g.2.2 i (by omega)).2.2.2 j (by omega) z))]
      exact aM_r g i (by omega) j (by omega)
theorem aM_o {ad : Nat → Nat} {w : Wd} {k N M h0 : Nat} (g : gOk w k N M) : ∀ i, i ≤ N → ∀ q, wA w q ≠ 0 → aM ad k h0 i q = ad q
  | 0, _, q, hq => if_neg fun z => hq (by rw [z]; exact g.1)
  | i + 1, hi, q, hq => by
    show va_up (aM ad k h0 i) (rt k i) _ q = _
    unfold va_up
    rw [if_neg (fun z => hq (by rw [z]; exact (g.2.2 i (by omega)).1))]
    exact aM_o g i (by omega) q hq
theorem arrV_ext {cI : ClassId} {N : Nat} {f g : Nat → Value} (h : ∀ j, j < N → f j = g j) : arrV cI N f = arrV cI N g := by
  unfold arrV
  have : (fun j : Fin N => f j.val) = fun j : Fin N => g j.val := funext fun j => h j.val j.isLt
  rw [this]
theorem outer_arr (c : ClassId) (N h0 : Nat) : ∀ i : Nat, Jvm.Free.Multi.outerC c N h0 i = arrV c N (fun j => va_rf (if j < i then some (h0 + 1 + j) else none))
  | 0 => by
    show ({ cls := c, slots := Array.replicate N .null, vm := .none } : Cell) = _
    rw [arrV_new]
    exact arrV_ext fun j _ => by rw [if_neg (Nat.not_lt_zero _)]; rfl
  | i + 1 => by
    show (Jvm.Free.Multi.outerC c N h0 i).setSlot i (.ref (h0 + 1 + i)) = _
    rw [outer_arr c N h0 i, arrV_store]
    refine arrV_ext fun j _ => ?_
    by_cases e : j = i
    · subst e
      rw [if_pos (Nat.lt_succ_self _)]
      simp [updV, va_rf]
    · by_cases h : j < i
      · rw [if_pos (by omega)]
        simp [updV, e, h]
      · rw [if_neg (by omega)]
        simp [updV, e, h]
theorem wP.grid {D : va_G} {cT : Nat → ClassId} {lo nb : Nat} {w : Wd} {ad : Nat → Nat} {T : State} (hP : wP D cT lo nb w ad T.heap) {k N M : Nat} (g : gOk w k N M) (hlo : lo ≤ T.heap.size) : ∀ i, i ≤ N → wP D cT lo nb (sM w k i) (aM ad k T.heap.size i) (Jvm.Free.Multi.fill T (cT 7) (cT 1) N M (.int 0) i).heap
  | 0, _ => by
    refine hP.made g.1 (by decide) (by rw [g.2.1]; show 7 ≠ 0; decide) (fun _ => Or.inl (by rw [g.2.1]; show 7 < 10; decide)) (fun q hq => State.heap_pushCell_of_lt _ _ hq) hlo ?_
    rw [cel_q g.2.1 (by decide) (by decide)]
    show (T.pushCell (Jvm.Free.Multi.outerC (cT 7) N T.heap.size 0)).heap[T.heap.size]? = some (vp_cell (cT 7) _)
    have h9 := (Jvm.Free.Multi.fill_facts T (cT 7) (cT 1) N M (.int 0) 0).2.1
    refine h9.trans ?_
    rw [outer_arr, vp_cell_q]
    congr 1
    refine arrV_ext fun j _ => ?_
    rw [if_neg (Nat.not_lt_zero _), if_pos (Or.inr (by rw [wS_sN, if_pos rfl]))]
  | i + 1, hi => by
    have ih := wP.grid hP g hlo i (by omega)
    obtain ⟨f1, f2, -, -⟩ := Jvm.Free.Multi.fill_facts T (cT 7) (cT 1) N M (.int 0) i
    obtain ⟨f3, f4, -, -⟩ := Jvm.Free.Multi.fill_facts T (cT 7) (cT 1) N M (.int 0) (i + 1)
    obtain ⟨g1, g2, g3, g4⟩ := g.2.2 i (by omega)
    obtain ⟨a1, a2⟩ := sM_facts g i (by omega)
    obtain ⟨b1, b2⟩ := sM_facts g (i + 1) hi
    have z0 : wA (sM w k i) (rt k i) = 0 := by
      rw [a1, if_neg (fun z => z.elim g3 fun ⟨j, hj, hq⟩ => by have := g4 j (by omega) hq.symm; omega)]
      exact g1
    have st1 : wP D cT lo nb (sN (sM w k i) (rt k i) 2) (aM ad k T.heap.size (i + 1)) ((Jvm.Free.Multi.fill T (cT 7) (cT 1) N M (.int 0) i).pushCell (Jvm.Free.Multi.innerC (cT 1) M (.int 0))).heap := by
      have := ih.made (H1 := ((Jvm.Free.Multi.fill T (cT 7) (cT 1) N M (.int 0) i).pushCell (Jvm.Free.Multi.innerC (cT 1) M (.int 0))).heap) z0 (n := 2) (by decide) (by rw [g2]; show 1 ≠ 0; decide) (fun _ => Or.inl (by rw [g2]; show 1 < 10; decide)) (fun q hq => State.heap_pushCell_of_lt _ _ hq) (by rw [f1]; omega) (by
        rw [cel_i g2]
        show ((Jvm.Free.Multi.fill T (cT 7) (cT 1) N M (.int 0) i).pushCell (Jvm.Free.Multi.innerC (cT 1) M (.int 0))).heap[(Jvm.Free.Multi.fill T (cT 7) (cT 1) N M (.int 0) i).heap.size]? = some (vp_cell (cT 1) _)
        have : Jvm.Free.Multi.innerC (cT 1) M (.int 0) = vp_cell (cT 1) (M, .inl fun j => wS (sN (sM w k i) (rt k i) 2) (rt k i) j) := by
          rw [vp_cell_i]
          show ({ cls := cT 1, slots := Array.replicate M (.int 0), vm := .none } : Cell) = _
          rw [arrV_new]
          exact arrV_ext fun j _ => by rw [wS_sN, if_pos rfl]
        rw [this]
        simp [State.pushCell])
      rw [f1] at this
      exact this
    have hne : wA (sN (sM w k i) (rt k i) 2) k ≠ 0 := by
      rw [wA_sN, if_neg (Ne.symm g3), a1, if_pos (Or.inl rfl)]
      decide
    have ek : aM ad k T.heap.size (i + 1) k = T.heap.size := aM_k g (i + 1) hi
    refine st1.set1 (k := k) hne (fun _ => rfl) (fun q hq j => wS_sI_ne hq j) (fun _ _ _ => rfl) ?_ (fun q hq => ?_) (fun j h => ?_) (fun j h _ _ => by rw [g.2.1] at h; exact absurd h (by show ¬ 10 ≤ 7; decide))
    · rw [cel_q g.2.1 (by decide) (by decide), ek]
      refine f4.trans ?_
      rw [outer_arr, vp_cell_q]
      congr 1
      refine arrV_ext fun j hj => ?_
      have e2 := b2 j
      show va_rf _ = va_rf (if N ≤ j ∨ wS (sI (sN (sM w k i) (rt k i) 2) k i 1) k j = 0 then none else some (aM ad k T.heap.size (i + 1) (rt k j)))
      have e2 : wS (sI (sN (sM w k i) (rt k i) 2) k i 1) k j = if j < i + 1 then 1 else 0 := e2
      rw [e2]
      by_cases c : j < i + 1
      · rw [if_pos c, if_pos c, if_neg (fun z => z.elim (fun z => by omega) (by decide)), aM_r g (i + 1) hi j c]
      · rw [if_neg c, if_neg c, if_pos (Or.inr rfl)]
    · rw [ek] at hq
      exact State.heap_setCell_other (Ne.symm hq)
    · by_cases e : j = i
      · subst e
        exact Or.inr (by rw [wA_sN, if_pos rfl])
      · refine Or.inl ?_
        rcases h with ⟨h1, h2, h3, h4⟩ | ⟨h1, -⟩
        · exact Or.inl ⟨h1, h2, h3, by rw [← wS_other (x := 1) e]; exact h4⟩
        · rw [g.2.1] at h1
          exact absurd h1 (by show ¬ 10 ≤ 7; decide)
section XG
variable {p : Program} {l : Launch} {e : Env} {R : Room} {s : State} {m : MethodId} {args : Array Value} {below : List Frame} {meth : Method} {c : Code} {H : Heap} {locs : List Loc} {cells slots : Nat} {Q : State → Prop}
variable {cc : ByteArray} {pc nL : Nat} {ls : Array Slot} {rest : List Value} {D : va_G} {cT : Nat → ClassId} {lo nb : Nat} {w : Wd} {ad : Nat → Nat} {own : String} {index k N M : Nat} {β : Type}
theorem y_grid {z1 z2 : Int32} {K : Wd → Option β} {r : β} (h : q_nm w k N M K = some r) (F : Fx p s m args c cc own nL D cT lo) (hP : wP D cT lo nb w ad H) (hS : va_S (fun q => lo ≤ q) s.heap H locs) (hcl : Cond.classLink own index "[[I" ∈ TW) (har : Cond.arrayClass .int ∈ TW) (hn : ¬ z1 < 0) (hk : ¬ z2 < 0) (hN : z1.toNatClampNeg = N) (hM : z2.toNatClampNeg = M)
    (hb1 : N * 4 ≤ 536870912) (hb2 : M * 4 ≤ 536870912) (hcells : cells + (1 + N) ≤ R.cells) (hslots : slots + (N + N * M) ≤ R.slots) (hdg : decode cc pc = .ok (.multianewarray index 2, 4))
    (kk : ∀ (w1 : Wd) (ad1 : Nat → Nat) (H : Heap), mono w w1 → wA w1 k = 2 → kt k = (7, N) → (∀ i, wA w i ≠ 0 → ad1 i = ad i) → K w1 = some r → wP D cT lo nb w1 ad1 H → va_S (fun q => lo ≤ q) s.heap H locs → W p l e R s m args below meth c H locs (cells + 1 + N) (slots + N + N * M) Q (F0 m (pc + 4) ls (.ref (ad1 k) :: rest))) : W p l e R s m args below meth c H locs cells slots Q (F0 m pc ls (.int z2 :: .int z1 :: rest)) := by
  subst hN
  subst hM
  unfold q_nm at h
  obtain ⟨g, h⟩ := if_s _ h
  have g : gOk w k z1.toNatClampNeg z2.toNatClampNeg := g
  obtain ⟨hx, hb, hown, hts, hK, hlo, -⟩ := F
  have hlH : lo ≤ H.size := Nat.le_trans hlo hS.1
  intro T hT Xs
  obtain ⟨vm₁, cA, comp, -, fA, fC, hO, -, X', step⟩ := Xs.multianewarray2F (ty := .int) hx hown (hts _ hcl) hK.2.1.2.2 (hts _ har) (g := F0 m pc ls (.int z2 :: .int z1 :: rest)) rfl (by rw [hb]; exact hdg) rfl hn hk hb1 hb2 (by omega) rfl rfl hcells hslots
  have e7 : cA = cT 7 := Option.some.inj (fA.symm.trans (hK.1.2 6 _ rfl).2)
  have e1 : comp = cT 1 := Option.some.inj (fC.symm.trans (hK.1.2 0 _ rfl).2)
  subst e7
  subst e1
  have hTh : (T.setVm vm₁).heap = H := hT
  have hP' : wP D cT lo nb w ad (T.setVm vm₁).heap := by rw [hTh]; exact hP
  have key := wP.grid hP' g (by rw [hTh]; exact hlH) _ (Nat.le_refl _)
  obtain ⟨f1, f2, -, -⟩ := Jvm.Free.Multi.fill_facts (T.setVm vm₁) (cT 7) (cT 1) z1.toNatClampNeg z2.toNatClampNeg (.int 0) z1.toNatClampNeg
  rw [hTh] at f1 key
  obtain ⟨s1, s2⟩ := sM_facts g z1.toNatClampNeg (Nat.le_refl _)
  have old : ∀ x : Nat, x < H.size → (Jvm.Free.Multi.fill (T.setVm vm₁) (cT 7) (cT 1) z1.toNatClampNeg z2.toNatClampNeg (.int 0) z1.toNatClampNeg).heap[x]? = H[x]? := fun x hx => by
    have := Jvm.Free.Multi.fill_old (T.setVm vm₁) (cT 7) (cT 1) z1.toNatClampNeg z2.toNatClampNeg (.int 0) (a := x) (by rw [hTh]; exact hx) z1.toNatClampNeg
    rw [hTh] at this
    exact this
  obtain ⟨t, a1, b1⟩ := kk (sM w k z1.toNatClampNeg) (aM ad k H.size z1.toNatClampNeg) _ ⟨fun q hq => by
      rw [s1]
      by_cases c : q = k ∨ ∃ j, j < z1.toNatClampNeg ∧ q = rt k j
      · rw [if_pos c]; decide
      · rw [if_neg c]; exact hq, fun q hq => by
      rw [s1]
      by_cases c : q = k ∨ ∃ j, j < z1.toNatClampNeg ∧ q = rt k j
      · rw [if_pos c]
      · rw [if_neg c]; exact hq⟩ (by rw [s1, if_pos (Or.inl rfl)]) g.2.1 (aM_o g _ (Nat.le_refl _)) h key ⟨by rw [f1]; have := hS.1; omega, fun x h1 h2 => (old x (Nat.lt_of_lt_of_le h1 hS.1)).trans (hS.2.1 x h1 h2), hS.2.2⟩ _ rfl X'
  refine ⟨t, step t ?_, b1⟩
  rw [aM_k g _ (Nat.le_refl _)] at a1
  have e : T.heap.size = H.size := by rw [hT]
  rw [e]
  exact a1
end XG
