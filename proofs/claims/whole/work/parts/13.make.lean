/-! ===== new objects and rows ===== -/
def q_nw {β : Type} (w : Wd) (k : Nat) (c : Nat × Nat) (n : Nat) (K : Wd → Option β) : Option β := if wA w k = 0 ∧ kt k = c then K (sN w k n) else none
def q_rd {β : Type} (w : Wd) (k ci N : Nat) (K : Wd → Option β) : Option β := if wA w k = 1 ∧ ∀ j, j < N → ft ci j = 1 → ¬ wS w k j = 0 then K (sR w k) else none
def q_ck {β : Type} (w : Wd) (k n : Nat) (K : Option β) : Option β := if wA w k = n then K else none
def q_cr {β : Type} (w : Wd) (k j : Nat) (K : Option β) : Option β := if wS w k j = 0 then none else K
theorem wA_sN {w : Wd} {k n q : Nat} : wA (sN w k n) q = if q = k then n else wA w q := rfl
theorem wS_sN {w : Wd} {k n q j : Nat} : wS (sN w k n) q j = if q = k then 0 else wS w q j := rfl
theorem wL_sN {w : Wd} {k n q j : Nat} : wL (sN w k n) q j = if q = k then 0 else wL w q j := rfl
theorem wA_sR {w : Wd} {k q : Nat} : wA (sR w k) q = if q = k then 2 else wA w q := rfl
theorem mono.sN {w : Wd} {k n : Nat} (h : wA w k = 0) : mono w (sN w k n) := ⟨fun q hq => by
  rw [wA_sN, if_neg (fun z => hq (by rw [z]; exact h))]
  exact hq, fun q hq => by
  rw [wA_sN, if_neg (fun z => by rw [z, h] at hq; cases hq)]
  exact hq⟩
theorem mono.sR {w : Wd} {k : Nat} : mono w (sR w k) := ⟨fun q hq => by
  rw [wA_sR]
  by_cases z : q = k
  · rw [if_pos z]; decide
  · rw [if_neg z]; exact hq, fun q hq => by
  rw [wA_sR]
  by_cases z : q = k
  · rw [if_pos z]
  · rw [if_neg z]; exact hq⟩
theorem wP.made {D : va_G} {cT : Nat → ClassId} {lo nb : Nat} {w : Wd} {ad : Nat → Nat} {H H1 : Heap} (hP : wP D cT lo nb w ad H) {k n : Nat} (h0 : wA w k = 0) (hn : n ≠ 0) (hkt : (kt k).1 ≠ 0) (hn2 : n = 2 → (kt k).1 < 10 ∨ ∀ j, ft ((kt k).1 - 10) j ≠ 1) (old : ∀ q, q < H.size → H1[q]? = H[q]?) (hlo : lo ≤ H.size) (he : va_at D vwCl (H.size, cel cT (sN w k n) (va_up ad k H.size) k) H1) : wP D cT lo nb (sN w k n) (va_up ad k H.size) H1 := by
  obtain ⟨p1, p2, p3, p4, p5, p6, p7⟩ := hP
  have aN : ∀ q, q ≠ k → wA (sN w k n) q = wA w q := fun q hq => by rw [wA_sN, if_neg hq]
  have sNe : ∀ q, q ≠ k → ∀ j, wS (sN w k n) q j = wS w q j := fun q hq j => by rw [wS_sN, if_neg hq]
  have uN : ∀ q, q ≠ k → va_up ad k H.size q = ad q := fun q hq => if_neg hq
  have uS : va_up ad k H.size k = H.size := if_pos rfl
  have nk : ∀ q, wA w q = 2 → q ≠ k := fun q hq z => by rw [z, h0] at hq; cases hq
  have rs : ∀ q j, q ≠ k → rsl (sN w k n) q j → rsl w q j := fun q j hq h => by
    unfold rsl at h ⊢
    rw [aN q hq, sNe q hq] at h
    exact h
  have lt : ∀ q, wA w q ≠ 0 → ad q < H.size := fun q hq => (p1 q hq).lt
  refine ⟨fun q hq => ?_, fun i j hi hj hij => ?_, fun q hq => ?_, fun q j hq h => ?_, fun q j hq h1 h2 h3 => ?_, fun q h1 h2 => ?_, fun q hq => ?_⟩
  · by_cases e : q = k
    · subst e
      rw [uS]
      exact he
    · have hq' : wA w q ≠ 0 := by rw [← aN q e]; exact hq
      rw [uN q e, cel_congr (p7 q hq') (aN q e) (sNe q e) (fun j => by rw [wL_sN, if_neg e]) (fun j h => uN _ (nk _ (p4 q j hq' h))) (fun j a b c => uN _ (nk _ (p5 q j hq' a b c).1))]
      exact (p1 q hq').kept (old _ (lt q hq'))
  · by_cases e1 : i = k <;> by_cases e2 : j = k
    · rw [e1, e2]
    · subst e1
      rw [uS, uN j e2] at hij
      have := lt j (by rw [← aN j e2]; exact hj)
      omega
    · subst e2
      rw [uS, uN i e1] at hij
      have := lt i (by rw [← aN i e1]; exact hi)
      omega
    · rw [uN i e1, uN j e2] at hij
      exact p2 i j (by rw [← aN i e1]; exact hi) (by rw [← aN j e2]; exact hj) hij
  · by_cases e : q = k
    · rw [e, uS]
      exact hlo
    · rw [uN q e]
      exact p3 q (by rw [← aN q e]; exact hq)
  · by_cases e : q = k
    · subst e
      rcases h with ⟨-, -, -, h⟩ | ⟨h1, h2, h⟩
      · rw [wS_sN, if_pos rfl] at h
        exact absurd rfl h
      · rw [wS_sN, if_pos rfl, wA_sN, if_pos rfl] at h
        rcases h with h | h
        · rcases hn2 h with g | g
          · omega
          · exact absurd h2 (g j)
        · exact absurd rfl h
    · have := p4 q j (by rw [← aN q e]; exact hq) (rs q j e h)
      rw [aN _ (nk _ this)]
      exact this
  · by_cases e : q = k
    · subst e
      rw [wS_sN, if_pos rfl] at h3
      exact absurd rfl h3
    · rw [sNe q e] at h3 ⊢
      have := p5 q j (by rw [← aN q e]; exact hq) h1 h2 h3
      rw [aN _ (nk _ this.1)]
      exact this
  · rw [aN q (nk q (p6 q h1 h2))]
    exact p6 q h1 h2
  · by_cases e : q = k
    · rw [e]
      exact hkt
    · exact p7 q (by rw [← aN q e]; exact hq)
theorem wP.ready {D : va_G} {cT : Nat → ClassId} {lo nb : Nat} {w : Wd} {ad : Nat → Nat} {H : Heap} (hP : wP D cT lo nb w ad H) {k ci : Nat} (h1 : wA w k = 1) (hk : kt k = (ci + 10, 0)) (hs : ∀ j, ft ci j = 1 → ¬ wS w k j = 0) : wP D cT lo nb (sR w k) ad H := by
  obtain ⟨p1, p2, p3, p4, p5, p6, p7⟩ := hP
  have a0 : ∀ q, wA (sR w k) q ≠ 0 → wA w q ≠ 0 := fun q hq => by
    by_cases e : q = k
    · rw [e, h1]; decide
    · rw [wA_sR, if_neg e] at hq; exact hq
  have a2 : ∀ q, wA w q = 2 → wA (sR w k) q = 2 := mono.sR.2
  have rs : ∀ q j, rsl (sR w k) q j → rsl w q j := fun q j h => by
    by_cases e : q = k
    · subst e
      rcases h with ⟨z1, z2, -⟩ | ⟨z1, z2, -⟩
      · rw [hk] at z2
        exact absurd z2 (by show ¬ ci + 10 < 10; omega)
      · exact Or.inr ⟨z1, z2, Or.inr (hs j (by rw [hk] at z2; exact z2))⟩
    · unfold rsl at h ⊢
      rw [wA_sR, if_neg e] at h
      exact h
  refine ⟨fun q hq => ?_, fun i j hi hj => p2 i j (a0 i hi) (a0 j hj), fun q hq => p3 q (a0 q hq), fun q j hq h => a2 _ (p4 q j (a0 q hq) (rs q j h)), fun q j hq z1 z2 z3 => ⟨a2 _ (p5 q j (a0 q hq) z1 z2 z3).1, (p5 q j (a0 q hq) z1 z2 z3).2⟩, fun q z1 z2 => a2 _ (p6 q z1 z2), fun q hq => p7 q (a0 q hq)⟩
  by_cases e : q = k
  · subst e
    have := p1 q (a0 q hq)
    rw [cel_o hk] at this ⊢
    have e2 : (List.range (fln ci)).map (fun j => fv (sR w q) ad q ci j) = (List.range (fln ci)).map (fun j => fv w ad q ci j) := by
      apply List.map_congr_left
      intro j _
      unfold fv
      by_cases f1 : ft ci j = 1
      · rw [if_pos f1, if_pos f1, if_pos (show wA (sR w q) q = 2 ∨ wS (sR w q) q j ≠ 0 from Or.inr (hs j f1)), if_pos (show wA w q = 2 ∨ wS w q j ≠ 0 from Or.inr (hs j f1))]
      · rw [if_neg f1, if_neg f1]
        rfl
    rw [e2]
    exact this
  · rw [cel_congr (w := w) (w' := sR w k) (ad := ad) (p7 q (a0 q hq)) (by rw [wA_sR, if_neg e]) (fun _ => rfl) (fun _ => rfl) (fun _ _ => rfl) (fun _ _ _ _ => rfl)]
    exact p1 q (a0 q hq)
section XN
variable {p : Program} {l : Launch} {e : Env} {R : Room} {s : State} {m : MethodId} {args : Array Value} {below : List Frame} {meth : Method} {c : Code} {H : Heap} {locs : List Loc} {cells slots : Nat} {Q : State → Prop}
variable {cc : ByteArray} {pc nL : Nat} {ls : Array Slot} {rest st : List Value} {D : va_G} {cT : Nat → ClassId} {lo nb : Nat} {w w' : Wd} {ad : Nat → Nat} {own : String} {index ci j k n : Nat} {ty : FieldType} {β : Type}
theorem q_nw_s {c : Nat × Nat} {K : Wd → Option β} {r : β} (h : q_nw w k c n K = some r) : wA w k = 0 ∧ kt k = c ∧ K (sN w k n) = some r := by
  unfold q_nw at h
  obtain ⟨h1, h⟩ := if_s _ h
  exact ⟨h1.1, h1.2, h⟩
theorem ext_up {ad : Nat → Nat} {k a : Nat} (h : wA w k = 0) : ∀ i, wA w i ≠ 0 → va_up ad k a i = ad i := fun i hi => if_neg fun z => hi (by rw [z]; exact h)
theorem y_new {C : String} {T : u_T} {N : Nat} {K : Wd → Option β} {r : β} {tyf : Nat → FieldType} (h : q_nw w k (ci + 10, 0) n K = some r) (F : Fx p s m args c cc own nL D cT lo) (hP : wP D cT lo nb w ad H) (hS : va_S (fun q => lo ≤ q) s.heap H locs) (hcl : Cond.classLink own index C ∈ TW) (hin : Cond.instantiable C N ∈ TW) (hini : Cond.initialized C ∈ TW) (hc : vwCl[ci]? = some (C, T, N)) (hws : ∀ c ∈ u_ws C T N, c ∈ TW) (hty : ∀ k, k < N → parseFieldDescriptor (T k).2.2.1 = some (tyf k))
    (hdf : ∀ j, j < N → (ft ci j = 0 ∧ defaultValue (tyf j) = .int 0) ∨ ((ft ci j = 1 ∨ ft ci j = 2) ∧ defaultValue (tyf j) = .null)) (hn : n = 1 ∨ (n = 2 ∧ ∀ j, ft ci j ≠ 1)) (hcells : cells + 1 ≤ R.cells) (hslots : slots + N ≤ R.slots) (hdg : decode cc pc = .ok (.new index, 3))
    (kk : ∀ (w1 : Wd) (ad1 : Nat → Nat) (H : Heap), mono w w1 → wA w1 k = n → kt k = (ci + 10, 0) → (∀ i, wA w i ≠ 0 → ad1 i = ad i) → K w1 = some r → wP D cT lo nb w1 ad1 H → va_S (fun q => lo ≤ q) s.heap H locs → W p l e R s m args below meth c H locs (cells + 1) (slots + N) Q (F0 m (pc + 3) ls (.ref (ad1 k) :: rest))) : W p l e R s m args below meth c H locs cells slots Q (F0 m pc ls rest) := by
  obtain ⟨h0, hk, h⟩ := q_nw_s h
  obtain ⟨hx, hb, hown, hts, hK, hlo, -⟩ := F
  have hKn := hK.1.1 ci _ hc
  have hlH : lo ≤ H.size := Nat.le_trans hlo hS.1
  refine W.newcK hx hb hown (hts _ hcl) (hts _ hin) (hts _ hini) rfl hdg hcells hslots hKn.2.1 rfl fun H1 kC hkC e1 z1 o1 => ?_
  have hn0 : n ≠ 0 := by rcases hn with hn | hn <;> omega
  have key : wP D cT lo nb (sN w k n) (va_up ad k H.size) H1 := by
    refine hP.made h0 hn0 (by rw [hk]; show ci + 10 ≠ 0; omega) (fun h2 => Or.inr (by
      rcases hn with hn | hn
      · omega
      · rw [hk]; exact hn.2)) o1 hlH ?_
    rw [cel_o hk]
    refine ⟨_, hc, (u_born tyf hts hws hKn hkC e1 hty).to fun j hj => ?_⟩
    rw [fln_eq hc]
    have e : vp_V ((List.range N).map (fun j => fv (sN w k n) (va_up ad k H.size) k ci j)) j = fv (sN w k n) (va_up ad k H.size) k ci j := by simp [vp_V, hj]
    show _ = vp_V ((List.range N).map _) j
    rw [e]
    unfold fv
    rw [wS_sN, if_pos rfl, wA_sN, if_pos rfl]
    rcases hdf j hj with ⟨f0, f1⟩ | ⟨f0 | f0, f1⟩
    · rw [f0, f1]; rfl
    · rw [f0, f1, if_pos rfl]
      rcases hn with hn | hn
      · rw [hn]; rfl
      · exact absurd f0 (hn.2 j)
    · rw [f0, f1]; rfl
  have := kk (sN w k n) (va_up ad k H.size) H1 (mono.sN h0) (by rw [wA_sN, if_pos rfl]) hk (ext_up h0) h key ⟨Nat.le_trans hS.1 (by omega), fun x h1 h2 => (o1 x (Nat.lt_of_lt_of_le h1 hS.1)).trans (hS.2.1 x h1 h2), hS.2.2⟩
  rw [show va_up ad k H.size k = H.size from if_pos rfl] at this
  exact this
theorem y_newA {atype : ArrayType} {z : Int32} {c0 t0 N : Nat} {K : Wd → Option β} {r : β} (h : q_nw w k (c0, N) 2 K = some r) (F : Fx p s m args c cc own nL D cT lo) (hP : wP D cT lo nb w ad H) (hS : va_S (fun q => lo ≤ q) s.heap H locs) (har : Cond.arrayClass (newarray.typeOf atype) ∈ TW) (hty : newarray.typeOf atype = ty) (ht : (tyl cT)[t0]? = some (cT c0, ty)) (hra : ∀ (U : State) (cA : ClassId), va_RA U cA ty → U.vm.findClass ("[" ++ ty.toString) = some cA) (hc0 : c0 ≠ 0 ∧ c0 < 10)
    (hcell : ∀ (w : Wd) (ad : Nat → Nat) (k : Nat), kt k = (c0, N) → (∀ j, wS w k j = 0) → (∀ j, wL w k j = 0) → ∃ a0 : vp_A, cel cT w ad k = .inl (cT c0, a0) ∧ ∀ cA : ClassId, vp_cell cA a0 = arrV cA N (fun _ => defaultValue ty)) (hn : ¬ z < 0) (hN : z.toNatClampNeg = N) (hbytes : N * componentBytes ty ≤ 536870912) (hcells : cells + 1 ≤ R.cells) (hslots : slots + N ≤ R.slots) (hdg : decode cc pc = .ok (.newarray atype, 2))
    (kk : ∀ (w1 : Wd) (ad1 : Nat → Nat) (H : Heap), mono w w1 → wA w1 k = 2 → kt k = (c0, N) → (∀ i, wA w i ≠ 0 → ad1 i = ad i) → K w1 = some r → wP D cT lo nb w1 ad1 H → va_S (fun q => lo ≤ q) s.heap H locs → W p l e R s m args below meth c H locs (cells + 1) (slots + N) Q (F0 m (pc + 2) ls (.ref (ad1 k) :: rest))) : W p l e R s m args below meth c H locs cells slots Q (F0 m pc ls (.int z :: rest)) := by
  subst hty
  obtain ⟨h0, hk, h⟩ := q_nw_s h
  obtain ⟨hx, hb, hown, hts, hK, hlo, -⟩ := F
  have hlH : lo ≤ H.size := Nat.le_trans hlo hS.1
  refine va_newaK hx hb (hts _ har) rfl hdg rfl hn hN hbytes hcells hslots rfl fun H1 cA e1 z1 o1 hAr hNm => ?_
  have key : wP D cT lo nb (sN w k 2) (va_up ad k H.size) H1 := by
    refine hP.made h0 (by decide) (by rw [hk]; exact hc0.1) (fun _ => Or.inl (by rw [hk]; exact hc0.2)) o1 hlH ?_
    obtain ⟨a0, q1, q2⟩ := hcell (sN w k 2) (va_up ad k H.size) k hk (fun j => by rw [wS_sN, if_pos rfl]) (fun j => by rw [wL_sN, if_pos rfl])
    rw [q1]
    show H1[H.size]? = some (vp_cell (cT c0) a0)
    rw [q2, e1]
    have : cA = cT c0 := Option.some.inj (hNm.symm.trans (hra s _ (hK.1.2 t0 _ ht).2))
    rw [this]
  have := kk (sN w k 2) (va_up ad k H.size) H1 (mono.sN h0) (by rw [wA_sN, if_pos rfl]) hk (ext_up h0) h key ⟨Nat.le_trans hS.1 (by omega), fun x h1 h2 => (o1 x (Nat.lt_of_lt_of_le h1 hS.1)).trans (hS.2.1 x h1 h2), hS.2.2⟩
  rw [show va_up ad k H.size k = H.size from if_pos rfl] at this
  exact this
theorem y_newi {z : Int32} {N : Nat} {K : Wd → Option β} {r : β} (h : q_nw w k (1, N) 2 K = some r) (F : Fx p s m args c cc own nL D cT lo) (hP : wP D cT lo nb w ad H) (hS : va_S (fun q => lo ≤ q) s.heap H locs) (har : Cond.arrayClass .int ∈ TW) (hn : ¬ z < 0) (hN : z.toNatClampNeg = N) (hbytes : N * 4 ≤ 536870912) (hcells : cells + 1 ≤ R.cells) (hslots : slots + N ≤ R.slots) (hdg : decode cc pc = .ok (.newarray .int, 2))
    (kk : ∀ (w1 : Wd) (ad1 : Nat → Nat) (H : Heap), mono w w1 → wA w1 k = 2 → kt k = (1, N) → (∀ i, wA w i ≠ 0 → ad1 i = ad i) → K w1 = some r → wP D cT lo nb w1 ad1 H → va_S (fun q => lo ≤ q) s.heap H locs → W p l e R s m args below meth c H locs (cells + 1) (slots + N) Q (F0 m (pc + 2) ls (.ref (ad1 k) :: rest))) : W p l e R s m args below meth c H locs cells slots Q (F0 m pc ls (.int z :: rest)) :=
  y_newA (atype := .int) (ty := .int) (t0 := 0) h F hP hS har rfl rfl (fun _ _ h => h) (by decide) (fun w ad k hk h1 _ => ⟨_, cel_i hk, fun cA => by rw [vp_cell_i]; simp only [h1]; rfl⟩) hn hN hbytes hcells hslots hdg kk
theorem y_newz {z : Int32} {N : Nat} {K : Wd → Option β} {r : β} (h : q_nw w k (2, N) 2 K = some r) (F : Fx p s m args c cc own nL D cT lo) (hP : wP D cT lo nb w ad H) (hS : va_S (fun q => lo ≤ q) s.heap H locs) (har : Cond.arrayClass .boolean ∈ TW) (hn : ¬ z < 0) (hN : z.toNatClampNeg = N) (hbytes : N * 1 ≤ 536870912) (hcells : cells + 1 ≤ R.cells) (hslots : slots + N ≤ R.slots) (hdg : decode cc pc = .ok (.newarray .boolean, 2))
    (kk : ∀ (w1 : Wd) (ad1 : Nat → Nat) (H : Heap), mono w w1 → wA w1 k = 2 → kt k = (2, N) → (∀ i, wA w i ≠ 0 → ad1 i = ad i) → K w1 = some r → wP D cT lo nb w1 ad1 H → va_S (fun q => lo ≤ q) s.heap H locs → W p l e R s m args below meth c H locs (cells + 1) (slots + N) Q (F0 m (pc + 2) ls (.ref (ad1 k) :: rest))) : W p l e R s m args below meth c H locs cells slots Q (F0 m pc ls (.int z :: rest)) :=
  y_newA (atype := .boolean) (ty := .boolean) (t0 := 1) h F hP hS har rfl rfl (fun _ _ h => h) (by decide) (fun w ad k hk h1 _ => ⟨_, cel_z hk, fun cA => by rw [vp_cell_i]; simp only [h1]; rfl⟩) hn hN hbytes hcells hslots hdg kk
theorem y_newl {z : Int32} {N : Nat} {K : Wd → Option β} {r : β} (h : q_nw w k (3, N) 2 K = some r) (F : Fx p s m args c cc own nL D cT lo) (hP : wP D cT lo nb w ad H) (hS : va_S (fun q => lo ≤ q) s.heap H locs) (har : Cond.arrayClass .long ∈ TW) (hn : ¬ z < 0) (hN : z.toNatClampNeg = N) (hbytes : N * 8 ≤ 536870912) (hcells : cells + 1 ≤ R.cells) (hslots : slots + N ≤ R.slots) (hdg : decode cc pc = .ok (.newarray .long, 2))
    (kk : ∀ (w1 : Wd) (ad1 : Nat → Nat) (H : Heap), mono w w1 → wA w1 k = 2 → kt k = (3, N) → (∀ i, wA w i ≠ 0 → ad1 i = ad i) → K w1 = some r → wP D cT lo nb w1 ad1 H → va_S (fun q => lo ≤ q) s.heap H locs → W p l e R s m args below meth c H locs (cells + 1) (slots + N) Q (F0 m (pc + 2) ls (.ref (ad1 k) :: rest))) : W p l e R s m args below meth c H locs cells slots Q (F0 m pc ls (.int z :: rest)) :=
  y_newA (atype := .long) (ty := .long) (t0 := 2) h F hP hS har rfl rfl (fun _ _ h => h) (by decide) (fun w ad k hk _ h1 => ⟨_, cel_l hk, fun cA => by rw [vp_cell_l]; simp only [h1]; rfl⟩) hn hN hbytes hcells hslots hdg kk
theorem y_newq {C : String} {z : Int32} {c0 t0 N : Nat} {K : Wd → Option β} {r : β} (h : q_nw w k (c0, N) 2 K = some r) (F : Fx p s m args c cc own nL D cT lo) (hP : wP D cT lo nb w ad H) (hS : va_S (fun q => lo ≤ q) s.heap H locs) (hcl : Cond.classLink own index C ∈ TW) (hov : C ∈ aoL) (ht : (tyl cT)[t0]? = some (cT c0, .object C)) (h4 : 4 ≤ c0) (h10 : c0 < 10) (hn : ¬ z < 0) (hN : z.toNatClampNeg = N) (hbytes : N * 4 ≤ 536870912) (hcells : cells + 1 ≤ R.cells) (hslots : slots + N ≤ R.slots) (hdg : decode cc pc = .ok (.anewarray index, 3))
    (kk : ∀ (w1 : Wd) (ad1 : Nat → Nat) (H : Heap), mono w w1 → wA w1 k = 2 → kt k = (c0, N) → (∀ i, wA w i ≠ 0 → ad1 i = ad i) → K w1 = some r → wP D cT lo nb w1 ad1 H → va_S (fun q => lo ≤ q) s.heap H locs → W p l e R s m args below meth c H locs (cells + 1) (slots + N) Q (F0 m (pc + 3) ls (.ref (ad1 k) :: rest))) : W p l e R s m args below meth c H locs cells slots Q (F0 m pc ls (.int z :: rest)) := by
  subst hN
  obtain ⟨h0, hk, h⟩ := q_nw_s h
  obtain ⟨hx, hb, hown, hts, hK, hlo, -⟩ := F
  have hlH : lo ≤ H.size := Nat.le_trans hlo hS.1
  refine W.anew hx hb hown (hts _ hcl) (va_AO.use (hK.2.1.2.1 C hov)) rfl hdg rfl hn hbytes hcells hslots fun cA kA comp f1 f2 f3 f4 => ?_
  generalize hH1 : H.push ({ cls := cA, slots := Array.replicate z.toNatClampNeg .null, vm := .none } : Cell) = H1
  have z1 : H1.size = H.size + 1 := by rw [← hH1, Array.size_push]
  have e1 : H1[H.size]? = some (arrV cA z.toNatClampNeg (fun _ => .null)) := by rw [← hH1, Array.getElem?_push_size, ← arrV_new]
  have o1 : ∀ q : Nat, q < H.size → H1[q]? = H[q]? := fun q hq => by rw [← hH1, Array.getElem?_push, if_neg (Nat.ne_of_lt hq)]
  have key : wP D cT lo nb (sN w k 2) (va_up ad k H.size) H1 := by
    refine hP.made h0 (by decide) (by rw [hk]; show c0 ≠ 0; omega) (fun _ => Or.inl (by rw [hk]; exact h10)) o1 hlH ?_
    rw [cel_q hk h4 h10]
    show H1[H.size]? = some (vp_cell (cT c0) _)
    obtain ⟨kA', comp', g1, g2, g3, g4⟩ := (hK.1.2 t0 _ ht).2
    have : cA = cT c0 := Option.some.inj (f1.symm.trans g4)
    rw [e1, this, vp_cell_q]
    congr 1
    congr 1
    funext j
    rw [if_pos (Or.inr (by rw [wS_sN, if_pos rfl]))]
    rfl
  have := kk (sN w k 2) (va_up ad k H.size) H1 (mono.sN h0) (by rw [wA_sN, if_pos rfl]) hk (ext_up h0) h key ⟨Nat.le_trans hS.1 (by omega), fun x h1 h2 => (o1 x (Nat.lt_of_lt_of_le h1 hS.1)).trans (hS.2.1 x h1 h2), hS.2.2⟩
  rw [show va_up ad k H.size k = H.size from if_pos rfl] at this
  exact this
/-- Object's constructor -/
theorem y_obj {idx : Nat} {a : Nat} (F : Fx p s m args c cc own nL D cT lo) (hlk : Cond.methodLink own idx objectInit ∈ TW) (hin : Cond.instanceMethod objectInit ∈ TW) (hcd : Cond.code objectInit ⟨#[0xb1]⟩ 1 none ∈ TW) (hls : ls.size = nL) (hdg : decode cc pc = .ok (.invokespecial idx, 3)) (hfr : 1 ≤ R.frames ∧ 12 ≤ R.locals)
    (kk : W p l e R s m args below meth c H locs cells slots Q (F0 m (pc + 3) ls [])) : W p l e R s m args below meth c H locs cells slots Q (F0 m pc ls [.ref a]) := by
  refine W.objInit F.1 F.2.1 F.2.2.1 (F.2.2.2.1 _ hlk) (F.2.2.2.1 _ hin) (F.2.2.2.1 _ hcd) rfl (by rw [F.2.2.2.2.2.2]; exact hls) rfl hdg hfr.1 hfr.2 ?_
  exact kk
theorem y_ready {ci N : Nat} {K : Wd → Option β} {r : β} (h : q_rd w k ci N K = some r) (hP : wP D cT lo nb w ad H) (hk : kt k = (ci + 10, 0)) (hN : ∀ j, N ≤ j → ft ci j = 0) (kk : ∀ w1 : Wd, mono w w1 → wA w1 k = 2 → K w1 = some r → wP D cT lo nb w1 ad H → W p l e R s m args below meth c H locs cells slots Q (F0 m pc ls rest)) : W p l e R s m args below meth c H locs cells slots Q (F0 m pc ls rest) := by
  unfold q_rd at h
  obtain ⟨h1, h⟩ := if_s _ h
  exact kk _ mono.sR (by rw [wA_sR, if_pos rfl]) h (hP.ready h1.1 hk fun j hj => h1.2 j (Nat.not_le.mp fun z => by rw [hN j z] at hj; cases hj) hj)
theorem ck_s {K : Option β} {r : β} (h : q_ck w k n K = some r) : wA w k = n ∧ K = some r := by
  unfold q_ck at h
  exact if_s _ h
theorem cr_s {K : Option β} {r : β} (h : q_cr w k j K = some r) : ¬ wS w k j = 0 ∧ K = some r := by
  unfold q_cr at h
  by_cases c : wS w k j = 0
  · rw [if_pos c] at h
    cases h
  · rw [if_neg c] at h
    exact ⟨c, h⟩
theorem y_putFr {k' : Nat} {K : Wd → β} {r : β} (h : q_pt w k j 1 K = r) (F : Fx p s m args c cc own nL D cT lo) (hP : wP D cT lo nb w ad H) (hS : va_S (fun q => lo ≤ q) s.heap H locs) (hk : kt k = (ci + 10, 0)) (ha : wA w k ≠ 0) (fl : FL own index ci j ty true) (hini : meth.name = "<init>") (hdecl : (vwCl[ci]?.map (·.1)) = some own) (hf : ft ci j = 1) (hr : rt k j = k') (ha' : wA w k' = 2) (hty : (∃ C, ty = .object C) ∨ ∃ t, ty = .array t) (hdg : decode cc pc = .ok (.putfield index, 3))
    (kk : ∀ (w1 : Wd) (H : Heap) (locs : List Loc), mono w w1 → K w1 = r → wP D cT lo nb w1 ad H → va_S (fun q => lo ≤ q) s.heap H locs → W p l e R s m args below meth c H locs cells slots Q (F0 m (pc + 3) ls rest)) : W p l e R s m args below meth c H locs cells slots Q (F0 m pc ls (.ref (ad k') :: .ref (ad k) :: rest)) :=
  x_putFr F hP hS hk ha fl hini hdecl hf hr ha' (by rcases hty with ⟨C, rfl⟩ | ⟨t, rfl⟩ <;> exact ⟨rfl, rfl⟩) hdg fun H locs hP hS => kk _ H locs mono.sI h hP hS
theorem y_getrS {k' : Nat} {fin : Bool} {K : Option β} {r : β} (h : q_cr w k j K = some r) (F : Fx p s m args c cc own nL D cT lo) (hP : wP D cT lo nb w ad H) (hk : kt k = (ci + 10, 0)) (ha : wA w k ≠ 0) (fl : FL own index ci j ty fin) (hf : ft ci j = 1) (hr : rt k j = k') (hdg : decode cc pc = .ok (.getfield index, 3))
    (kk : wA w k' = 2 → K = some r → W p l e R s m args below meth c H locs cells slots Q (F0 m (pc + 3) ls (.ref (ad k') :: rest))) : W p l e R s m args below meth c H locs cells slots Q (F0 m pc ls (.ref (ad k) :: rest)) :=
  x_getrS F hP hk ha fl hf hr (cr_s h).1 hdg fun a => kk a (cr_s h).2
theorem y_aast {i : Int32} {c0 k' ci' t0 : Nat} {C : String} {T : u_T} {N : Nat} {K : Wd → Option β} {r : β} (h : q_st w k n i 1 K = some r) (F : Fx p s m args c cc own nL D cT lo) (hP : wP D cT lo nb w ad H) (hS : va_S (fun q => lo ≤ q) s.heap H locs) (hk : kt k = (c0, n)) (h4 : 4 ≤ c0) (h7 : c0 < 7) (ha : wA w k ≠ 0) (hk' : kt k' = (ci' + 10, 0)) (ha' : wA w k' = 2) (hc : vwCl[ci']? = some (C, T, N)) (ht : (tyl cT)[t0]? = some (cT c0, .object C)) (hr : rt k i.toNatClampNeg = k') (hdg : decode cc pc = .ok (.aastore, 1))
    (kk : ∀ (w1 : Wd) (H : Heap) (locs : List Loc), mono w w1 → K w1 = some r → wP D cT lo nb w1 ad H → va_S (fun q => lo ≤ q) s.heap H locs → W p l e R s m args below meth c H locs cells slots Q (F0 m (pc + 1) ls rest)) : W p l e R s m args below meth c H locs cells slots Q (F0 m pc ls (.ref (ad k') :: .int i :: .ref (ad k) :: rest)) :=
  x_aast F hP hS hk h4 h7 ha (in_s h).1 hk' ha' hc ht hr hdg fun H locs hP hS => kk _ H locs mono.sI (in_s h).2 hP hS
theorem y_eqi {x v : Int32} (hx : x = v) (kk : W p l e R s m args below meth c H locs cells slots Q (F0 m pc ls (.int v :: rest))) : W p l e R s m args below meth c H locs cells slots Q (F0 m pc ls (.int x :: rest)) := by rw [hx]; exact kk
/-- a number in the world that no object has -/
theorem y_ghost {i : Nat} {x : Int32} (hP : wP D cT lo nb w ad H) (hk : (kt k).1 = 0) : wP D cT lo nb (sI w k i x) ad H := by
  have ha : wA w k = 0 := Classical.byContradiction fun z => hP.2.2.2.2.2.2 k z hk
  obtain ⟨p1, p2, p3, p4, p5, p6, p7⟩ := hP
  have ne : ∀ q, wA w q ≠ 0 → q ≠ k := fun q hq z => hq (by rw [z]; exact ha)
  have rs : ∀ q j, wA w q ≠ 0 → rsl (sI w k i x) q j → rsl w q j := fun q j hq h => by
    unfold rsl at h ⊢
    rw [wS_sI_ne (ne q hq)] at h
    exact h
  refine ⟨fun q hq => ?_, p2, p3, fun q j hq h => p4 q j hq (rs q j hq h), fun q j hq h1 h2 h3 => ?_, p6, p7⟩
  · rw [cel_congr (w := w) (w' := sI w k i x) (ad := ad) (p7 q hq) rfl (wS_sI_ne (ne q hq)) (fun _ => rfl) (fun _ _ => rfl) (fun _ _ _ _ => rfl)]
    exact p1 q hq
  · rw [wS_sI_ne (ne q hq)] at h3 ⊢
    exact p5 q j hq h1 h2 h3
end XN
