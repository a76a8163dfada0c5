/-! ===== all relations at once; the class's step, then the reference's ===== -/
def RR (n : Nat) (w v : Wd) : Prop := match n with
  | 1 => R1 w v
  | 2 => R2 w v
  | 3 => R3 w v
  | 4 => R4 w v
  | 5 => R5 w v
  | 6 => R6 w v
  | 7 => R7 w v
  | 8 => R8 w v
  | 9 => R9 w v
  | 10 => R10 w v
  | 11 => R11 w v
  | 12 => R12 w v
  | _ => True
theorem RR.fr {w v w' v' : Wd} : ∀ n, RR n w v → sm n w w' → sm n v v' → RR n w' v'
  | 0, _, _, _ => trivial
  | 1, h, a, b => R1.fr h a b
  | 2, h, a, b => R2.fr h a b
  | 3, h, a, b => R3.fr h a b
  | 4, h, a, b => R4.fr h a b
  | 5, h, a, b => R5.fr h a b
  | 6, h, a, b => R6.fr h a b
  | 7, h, a, b => R7.fr h a b
  | 8, h, a, b => R8.fr h a b
  | 9, h, a, b => R9.fr h a b
  | 10, h, a, b => R10.fr h a b
  | 11, h, a, b => R11.fr h a b
  | 12, h, a, b => R12.fr h a b
  | _ + 13, _, _, _ => trivial
/-! what the other side's step leaves: mm of the class's world, cm of the reference's -/
theorem R1.mc {w v w' v' : Wd} (h : R1 w v) (a : mm w w') (b : cm v v') : R1 w' v' := by
  obtain ⟨n, hn, e1, e2, hh⟩ := h
  exact ⟨n, hn, ((a 2 4 (by omega)).1).trans e1, (b 63 0 (by omega) (by omega)).trans e2, fun i hi => (hh i hi).fr2 (a 10 i (by omega)).1 (a 11 i (by omega)).1 (a 12 i (by omega)).1 (a 13 i (by omega)).1 (fun j => (a (300 + i) j (by omega)).1) (fun d _ => b 64 _ (by omega) (by omega)) (b 65 i (by omega) (by omega)) (b 66 i (by omega) (by omega)) (b 67 i (by omega) (by omega))⟩
theorem R2.mc {w v w' v' : Wd} (h : R2 w v) (a : mm w w') (b : cm v v') : R2 w' v' := by
  obtain ⟨n, hn, e1, e2, hh⟩ := h
  exact ⟨n, hn, ((a 2 6 (by omega)).1).trans e1, (b 63 5 (by omega) (by omega)).trans e2, fun i hi => (hh i hi).fr2 (a 14 i (by omega)).1 (fun j => (a (330 + i) j (by omega)).1) (fun d _ => b 68 _ (by omega) (by omega))⟩
theorem R3.mc {w v w' v' : Wd} (h : R3 w v) (a : mm w w') (b : cm v v') : R3 w' v' := by
  obtain ⟨n, hn, e1, e2, hh, g⟩ := h
  refine ⟨n, hn, ((a 2 10 (by omega)).1).trans e1, (b 63 7 (by omega) (by omega)).trans e2, fun i hi => (hh i hi).fr2 (a 15 i (by omega)).1 (a 16 i (by omega)).1 (fun j => (a (350 + i) j (by omega)).1) (fun d _ => b 69 _ (by omega) (by omega)) (b 70 i (by omega) (by omega)), fun i hi => ?_⟩
  rw [(a 17 i (by omega)).1, b 71 i (by omega) (by omega)]
  exact g i hi
theorem R4.mc {w v w' v' : Wd} (h : R4 w v) (a : mm w w') (b : cm v v') : R4 w' v' := by
  obtain ⟨n, hn, e1, e2, hh, g⟩ := h
  refine ⟨n, hn, ((a 2 15 (by omega)).1).trans e1, (b 63 11 (by omega) (by omega)).trans e2, fun i hi => (hh i hi).fr2 (a 18 i (by omega)).1 (a 19 i (by omega)).1 (a 20 i (by omega)).1 (fun j => (a (370 + i) j (by omega)).1) (fun d _ => b 72 _ (by omega) (by omega)) (b 73 i (by omega) (by omega)) (b 74 i (by omega) (by omega)), fun i hi => ?_⟩
  rw [(a 21 i (by omega)).1, b 75 i (by omega) (by omega)]
  exact g i hi
theorem R5.mc {w v w' v' : Wd} (h : R5 w v) (a : mm w w') (b : cm v v') : R5 w' v' := by
  obtain ⟨n, hn, e1, e2, hh, hN⟩ := h
  have K0 : ∀ c j, wS w' (K5 c) j = wS w (K5 c) j := fun c j => (a _ j (by unfold K5; omega)).1
  have K : ∀ c o j, wS w' (K5 c + o) j = wS w (K5 c + o) j := fun c o j => (a _ j (by unfold K5; omega)).1
  refine ⟨n, hn, ((a 3 2 (by omega)).1).trans e1, (b 63 16 (by omega) (by omega)).trans e2, fun c hc => ?_, fun c h1 h2 => (hN c h1 h2).fr (b 80 c (by omega) (by omega)) (fun m _ _ => b m c (by omega) (by omega)) (fun m r _ _ _ => b m _ (by omega) (by omega))⟩
  obtain ⟨x, y, z, t⟩ := hh c hc
  exact ⟨x.fr (a 22 c (by omega)).1 (fun j _ => K0 c j) (fun i _ => K c 4 i) (fun m _ _ => b m c (by omega) (by omega)), y.fr (K0 c 7) (b 80 c (by omega) (by omega)) (fun o i _ _ _ => K c o i) (fun m i _ _ _ => b m _ (by omega) (by omega)), z.fr (fun j _ _ => K0 c j) (fun m _ _ => b m c (by omega) (by omega)), t.fr (fun o r _ _ _ => K c o r) (fun m r _ _ _ => b m _ (by omega) (by omega))⟩
theorem R6.mc {w v w' v' : Wd} (h : R6 w v) (a : mm w w') (b : cm v v') : R6 w' v' := by
  unfold R6 at h ⊢
  rw [(a 3 3 (by omega)).1, (a 3 4 (by omega)).1, (a 3 5 (by omega)).1, (a 3 6 (by omega)).1, b 63 30 (by omega) (by omega), b 63 47 (by omega) (by omega), b 63 48 (by omega) (by omega), b 63 49 (by omega) (by omega)]
  exact h
theorem R7.mc {w v w' v' : Wd} (h : R7 w v) (a : mm w w') (b : cm v v') : R7 w' v' :=
  ⟨by rw [(a 4 5 (by omega)).1, b 63 34 (by omega) (by omega)]; exact h.1, h.2.fr (a 4 7 (by omega)).1 (fun j => (a 28 j (by omega)).1) (b 63 42 (by omega) (by omega)) (fun j => b 96 j (by omega) (by omega))⟩
theorem R8.mc {w v w' v' : Wd} (h : R8 w v) (a : mm w w') (b : cm v v') : R8 w' v' := by
  obtain ⟨n, ns, ⟨d1, d2, d3, d4, d5, d6, d7, d8, d9, d10⟩, c⟩ := h
  refine ⟨n, ns, ⟨d1, d2, ((a 5 1 (by omega)).1).trans d3, (b 63 50 (by omega) (by omega)).trans d4, ((a 5 3 (by omega)).1).trans d5, (b 63 52 (by omega) (by omega)).trans d6, fun i hi => ?_, fun i hi => ?_, ?_, fun i hi => ?_⟩, ?_⟩
  · rw [(a 29 i (by omega)).1, b 100 i (by omega) (by omega)]; exact d7 i hi
  · rw [(a 30 i (by omega)).1, b 101 i (by omega) (by omega)]; exact d8 i hi
  · rw [(a 5 4 (by omega)).1, b 63 54 (by omega) (by omega)]; exact d9
  · rw [(a 31 i (by omega)).1]; exact d10 i hi
  · rcases c with c | c
    · exact Or.inl (((a 5 7 (by omega)).1).trans c)
    · exact Or.inr (c.fr d2 ⟨(a 5 1 (by omega)).1, (a 5 4 (by omega)).1⟩ (fun p j h1 h2 => (a p j (by omega)).1))
theorem R9.mc {w v w' v' : Wd} (h : R9 w v) (a : mm w w') (b : cm v v') : R9 w' v' := by
  obtain ⟨n, hn, e1, e2, hb, hd⟩ := h
  refine ⟨n, hn, ((a 6 7 (by omega)).1).trans e1, (b 63 59 (by omega) (by omega)).trans e2, fun i hi => ?_, fun i hi => ?_⟩
  · unfold B9
    rw [(a 40 i (by omega)).1, (a 41 i (by omega)).1, b 104 i (by omega) (by omega), b 105 i (by omega) (by omega)]
    exact hb i hi
  · unfold D9
    rw [(a 42 i (by omega)).1, (a 43 i (by omega)).1, (a 44 i (by omega)).1, (a 45 i (by omega)).1, (a 46 i (by omega)).1, b 106 i (by omega) (by omega), b 107 i (by omega) (by omega), b 108 i (by omega) (by omega), b 109 i (by omega) (by omega), b 110 i (by omega) (by omega)]
    exact hd i hi
theorem R10.mc {w v w' v' : Wd} (h : R10 w v) (a : mm w w') (b : cm v v') : R10 w' v' := by
  obtain ⟨n, hn, e1, e2, hh, c1, c2⟩ := h
  refine ⟨n, hn, ((a 7 2 (by omega)).1).trans e1, (b 63 68 (by omega) (by omega)).trans e2, fun i hi => ?_, ?_, ?_⟩
  · unfold T10
    rw [(a 50 i (by omega)).1, (a 51 i (by omega)).1, b 114 i (by omega) (by omega), b 115 i (by omega) (by omega)]
    exact hh i hi
  · rw [(a 7 3 (by omega)).1, b 63 72 (by omega) (by omega)]; exact c1
  · rw [(a 7 3 (by omega)).1]; exact c2
theorem R11.mc {w v w' v' : Wd} (h : R11 w v) (a : mm w w') (b : cm v v') : R11 w' v' := by
  obtain ⟨n, hn, e1, e2, hh⟩ := h
  refine ⟨n, hn, ((a 8 3 (by omega)).1).trans e1, (b 63 74 (by omega) (by omega)).trans e2, fun i hi => ?_⟩
  rw [(a 55 i (by omega)).1, b 118 i (by omega) (by omega)]
  exact hh i hi
theorem R12.mc {w v w' v' : Wd} (h : R12 w v) (a : mm w w') (b : cm v v') : R12 w' v' :=
  ⟨fun s hs => (h.1 s hs).fr (a 56 s (by omega)).1 (a 61 s (by omega)).1 (a 62 s (by omega)).1 (fun i _ => (a _ i (by omega)).1) (b 119 s (by omega) (by omega)) (b 120 s (by omega) (by omega)) (b 121 s (by omega) (by omega)) (fun i _ => b 122 _ (by omega) (by omega)), by rw [(a 9 3 (by omega)).1, b 63 83 (by omega) (by omega)]; exact h.2⟩
theorem RR.mc {w v w' v' : Wd} : ∀ n, RR n w v → mm w w' → cm v v' → RR n w' v'
  | 0, _, _, _ => trivial
  | 1, h, a, b => R1.mc h a b
  | 2, h, a, b => R2.mc h a b
  | 3, h, a, b => R3.mc h a b
  | 4, h, a, b => R4.mc h a b
  | 5, h, a, b => R5.mc h a b
  | 6, h, a, b => R6.mc h a b
  | 7, h, a, b => R7.mc h a b
  | 8, h, a, b => R8.mc h a b
  | 9, h, a, b => R9.mc h a b
  | 10, h, a, b => R10.mc h a b
  | 11, h, a, b => R11.mc h a b
  | 12, h, a, b => R12.mc h a b
  | _ + 13, _, _, _ => trivial
/-- what is not made yet: houses, kerbs, wires, slopes, cars, goals -/
def WQ (t n : Nat) (w : Wd) : Prop := match n with
  | 1 => ∀ i, i < 20 → (wS w 2 4).toNatClampNeg ≤ i → wA w (300 + i) = 0
  | 2 => ∀ i, i < 10 → (wS w 2 6).toNatClampNeg ≤ i → wA w (330 + i) = 0
  | 3 => ∀ i, i < 10 → (wS w 2 10).toNatClampNeg ≤ i → wA w (350 + i) = 0
  | 4 => ∀ i, i < 10 → (wS w 2 15).toNatClampNeg ≤ i → wA w (370 + i) = 0
  | 5 => ∀ c, c < 4 → (wS w 3 2).toNatClampNeg ≤ c → ∀ o, o < 13 → wA w (K5 c + o) = 0
  | 13 => ∃ g, g ≤ t ∧ wS w 999 0 = nI g ∧ ∀ n, g ≤ n → n < 600 → wA w (2000 + n) = 0
  | _ => True
/-- where the numbers of what a call may make lie -/
def WB (n k : Nat) : Prop := match n with
  | 1 => 300 ≤ k ∧ k < 320
  | 2 => 330 ≤ k ∧ k < 340
  | 3 => 350 ≤ k ∧ k < 360
  | 4 => 370 ≤ k ∧ k < 380
  | 5 => 1000 ≤ k ∧ k < 1080
  | 13 => 2000 ≤ k
  | _ => False
theorem WQ.fr {t : Nat} {w w' : Wd} : ∀ n, WQ t n w → sm n w w' → (∀ k, WB n k → wA w' k = wA w k) → WQ t n w'
  | 0, _, _, _ => trivial
  | 1, h, a, b => fun i hi hc => by
    rw [(a 2 4 rfl).1] at hc
    rw [b (300 + i) (show 300 ≤ 300 + i ∧ 300 + i < 320 by omega)]; exact h i hi hc
  | 2, h, a, b => fun i hi hc => by
    rw [(a 2 6 rfl).1] at hc
    rw [b (330 + i) (show 330 ≤ 330 + i ∧ 330 + i < 340 by omega)]; exact h i hi hc
  | 3, h, a, b => fun i hi hc => by
    rw [(a 2 10 rfl).1] at hc
    rw [b (350 + i) (show 350 ≤ 350 + i ∧ 350 + i < 360 by omega)]; exact h i hi hc
  | 4, h, a, b => fun i hi hc => by
    rw [(a 2 15 rfl).1] at hc
    rw [b (370 + i) (show 370 ≤ 370 + i ∧ 370 + i < 380 by omega)]; exact h i hi hc
  | 5, h, a, b => fun c hc hn o ho => by
    rw [(a 3 2 rfl).1] at hn
    rw [b (K5 c + o) (show 1000 ≤ K5 c + o ∧ K5 c + o < 1080 by unfold K5; omega)]; exact h c hc hn o ho
  | 6, _, _, _ => trivial
  | 7, _, _, _ => trivial
  | 8, _, _, _ => trivial
  | 9, _, _, _ => trivial
  | 10, _, _, _ => trivial
  | 11, _, _, _ => trivial
  | 12, _, _, _ => trivial
  | 13, h, a, b => by
    obtain ⟨g, h1, h2, h3⟩ := h
    exact ⟨g, h1, ((a 999 0 rfl).1).trans h2, fun n h4 h5 => by rw [b (2000 + n) (show 2000 ≤ 2000 + n by omega)]; exact h3 n h4 h5⟩
  | _ + 14, _, _, _ => trivial
def IN (t : Nat) (w v : Wd) : Prop := (∀ n, RR n w v) ∧ ∀ n, WQ t n w
theorem IN.RS {t : Nat} {w v : Wd} (h : IN t w v) : RS w v := ⟨h.1 1, h.1 2, h.1 3, h.1 4, h.1 5, h.1 6⟩
theorem IN.t {t : Nat} {w v : Wd} (h : IN t w v) : IN (t + 1) w v := ⟨h.1, fun n => by
  have k := h.2 n
  unfold WQ at k ⊢
  split at k
  all_goals first | exact k | (obtain ⟨g, a, b⟩ := k; exact ⟨g, by omega, b⟩)⟩
/-- after a call that touched the areas of L alone -/
theorem IN.up {t : Nat} {w v w' v' : Wd} (L : List Nat) (h : IN t w v) (hw : ∀ b, b ≠ 0 → b ∉ L → sm b w w') (hv : ∀ b, b ≠ 0 → b ∉ L → sm b v v') (hA : ∀ k, (∀ n, n ∈ L → ¬ WB n k) → wA w' k = wA w k) (hL : ∀ n, n ∈ L → RR n w' v' ∧ WQ t n w') : IN t w' v' := by
  have dis : ∀ n m k, WB n k → WB m k → n = m := by
    intro n m k h1 h2
    unfold WB at h1 h2
    split at h1 <;> split at h2 <;> first | rfl | (exfalso; omega) | exact absurd h1 id | exact absurd h2 id
  refine ⟨fun n => ?_, fun n => ?_⟩
  · by_cases hn : n ∈ L
    · exact (hL n hn).1
    · by_cases h0 : n = 0
      · subst h0; trivial
      · exact RR.fr n (h.1 n) (hw n h0 hn) (hv n h0 hn)
  · by_cases hn : n ∈ L
    · exact (hL n hn).2
    · by_cases h0 : n = 0
      · subst h0; trivial
      · exact WQ.fr n (h.2 n) (hw n h0 hn) (fun k hk => hA k (fun m hm z => hn (by rw [dis n m k hk z]; exact hm)))
theorem WQ.mc {t : Nat} {w w' : Wd} : ∀ n, WQ t n w → mm w w' → am w w' → WQ t n w'
  | 0, _, _, _ => trivial
  | 1, h, a, b => fun i hi hc => by
    rw [(a 2 4 (by omega)).1] at hc
    rw [b (300 + i)]; exact h i hi hc
  | 2, h, a, b => fun i hi hc => by
    rw [(a 2 6 (by omega)).1] at hc
    rw [b (330 + i)]; exact h i hi hc
  | 3, h, a, b => fun i hi hc => by
    rw [(a 2 10 (by omega)).1] at hc
    rw [b (350 + i)]; exact h i hi hc
  | 4, h, a, b => fun i hi hc => by
    rw [(a 2 15 (by omega)).1] at hc
    rw [b (370 + i)]; exact h i hi hc
  | 5, h, a, b => fun c hc hn o ho => by
    rw [(a 3 2 (by omega)).1] at hn
    rw [b (K5 c + o)]; exact h c hc hn o ho
  | 6, _, _, _ => trivial
  | 7, _, _, _ => trivial
  | 8, _, _, _ => trivial
  | 9, _, _, _ => trivial
  | 10, _, _, _ => trivial
  | 11, _, _, _ => trivial
  | 12, _, _, _ => trivial
  | 13, h, a, b => by
    obtain ⟨g, h1, h2, h3⟩ := h
    exact ⟨g, h1, ((a 999 0 (by omega)).1).trans h2, fun n h4 h5 => by rw [b (2000 + n)]; exact h3 n h4 h5⟩
  | _ + 14, _, _, _ => trivial
/-- one call, here and there -/
def SK {α : Type} (t : Nat) (w v : Wd) (oc om : Option (α × Wd)) : Prop := ∃ r w1 v1, oc = some (r, w1) ∧ om = some (r, v1) ∧ IN t w1 v1 ∧ cm w w1 ∧ mm v v1 ∧ am v v1
theorem SK.of1 {t a : Nat} {R : Wd → Wd → Prop} {oc om : Option (Int32 × Wd)} {w v : Wd} (h : IN t w v) (o : OK a R oc om w v) (hR : ∀ w1 v1, R w1 v1 → RR a w1 v1) (hW : ∀ r w1, oc = some (r, w1) → am w w1 → WQ t a w1) : SK (t + 1) w v oc om := by
  obtain ⟨r, w1, v1, h1, h2, h3, h4, h5, h6, h7, h8, h9⟩ := o
  refine ⟨r, w1, v1, h1, h2, (h.up [a] (fun b h0 hb => h4 b h0 (fun z => hb (by rw [z]; exact List.mem_singleton.mpr rfl))) (fun b h0 hb => h5 b h0 (fun z => hb (by rw [z]; exact List.mem_singleton.mpr rfl))) (fun k _ => h8 k) (fun n hn => ?_)).t, h6, h7, h9⟩
  rw [List.mem_singleton.mp hn]
  exact ⟨hR w1 v1 h3, hW r w1 h1 h8⟩
/-- the class's call, then the reference's on what it left -/
theorem kk {α : Type} {t : Nat} {w : Wd} (h : IN t w w) {fc fm : Wd → Option (α × Wd)} (L : ∀ w v, IN t w v → SK (t + 1) w v (fc w) (fm v)) : ∃ r w1 w2, fc w = some (r, w1) ∧ fm w1 = some (r, w2) ∧ IN (t + 1) w2 w2 := by
  obtain ⟨r, w1, v1, a1, -, -, a4, -, -⟩ := L w w h
  have h' : IN t w w1 := ⟨fun n => RR.mc n (h.1 n) mm.refl a4, h.2⟩
  obtain ⟨r', w1', w2, b1, b2, b3, -, b5, b6⟩ := L w w1 h'
  have e := Option.some.inj (a1.symm.trans b1)
  obtain ⟨e1, e2⟩ := Prod.mk.inj e
  subst e1 e2
  exact ⟨r, w1, w2, a1, b2, fun n => RR.mc n (b3.1 n) b5 cm.refl, fun n => WQ.mc n (b3.2 n) b5 b6⟩
theorem kb {t : Nat} {w : Wd} (h : IN t w w) {fc fm : Wd → Option (Int32 × Wd)} (L : ∀ w v, IN t w v → SK (t + 1) w v (fc w) (fm v)) : ∃ w', q_bi (fc w) (fun v1 w1 => q_bi (fm w1) (fun v2 w2 => if v1 = v2 then some w2 else none)) = some w' ∧ IN (t + 1) w' w' := by
  obtain ⟨r, w1, w2, a1, a2, a3⟩ := kk h L
  refine ⟨w2, ?_, a3⟩
  rw [a1, bi_e, a2, bi_e, if_pos rfl]
/-- a call that only looks -/
theorem kr {t : Nat} {w : Wd} (h : IN t w w) {oc om : Option Int32} (e : ∃ r, oc = some r ∧ om = some r) : ∃ w', q_bo oc (fun v1 => q_bo om (fun v2 => if v1 = v2 then some w else none)) = some w' ∧ IN (t + 1) w' w' := by
  obtain ⟨r, a, b⟩ := e
  refine ⟨w, ?_, h.t⟩
  rw [a, bo_e, b, bo_e, if_pos rfl]
theorem IN.fr0 {t : Nat} {w v w' v' : Wd} (h : IN t w v) (hw : only 0 w w') (hv : only 0 v v') (ha : am w w') : IN t w' v' := ⟨fun n => by
  by_cases h0 : n = 0
  · subst h0; trivial
  · exact RR.fr n (h.1 n) (hw n h0 h0) (hv n h0 h0), fun n => by
  by_cases h0 : n = 0
  · subst h0; trivial
  · exact WQ.fr n (h.2 n) (hw n h0 h0) (fun k _ => ha k)⟩
/-- a rope's call: the class lays a box in passing, the reference only looks -/
theorem kl {t : Nat} {w : Wd} (h : IN t w w) {fc : Wd → Option (Int32 × Wd)} {fm : Wd → Option Int32} (L : ∀ w v, RS w v → ∃ r w1, fc w = some (r, w1) ∧ fm v = some r ∧ FrL w w1) : ∃ w', q_bi (fc w) (fun v1 w1 => q_bo (fm w1) (fun v2 => if v1 = v2 then some w1 else none)) = some w' ∧ IN (t + 1) w' w' := by
  obtain ⟨r, w1, a1, -, a3⟩ := L w w h.RS
  have h' : IN t w w1 := ⟨fun n => RR.mc n (h.1 n) mm.refl a3.cm, h.2⟩
  obtain ⟨r', w1', b1, b2, -⟩ := L w w1 h'.RS
  have e := Option.some.inj (a1.symm.trans b1)
  obtain ⟨e1, e2⟩ := Prod.mk.inj e
  subst e1 e2
  refine ⟨w1, ?_, (h.fr0 a3.only a3.only a3.2).t⟩
  rw [a1, bi_e, b2, bo_e, if_pos rfl]
theorem bi_id {α : Type} (o : Option (α × Wd)) : q_bi o (fun v w' => some (v, w')) = o := by
  rcases o with _ | ⟨a, b⟩
  · rfl
  · rfl
/-! what a call's counts stay: P holds of every world it may leave -/
def HC (P : Wd → Prop) (o : Option (Int32 × Wd)) : Prop := ∀ r w', o = some (r, w') → P w'
section HCs
variable {P : Wd → Prop} {w : Wd} {k j n : Nat} {i x : Int32}
theorem hc_some {r : Int32} (h : P w) : HC P (some (r, w)) := fun r' w' e => by
  have := (Prod.mk.inj (Option.some.inj e)).2
  rw [← this]; exact h
theorem hc_none : HC P none := fun r' w' e => by cases e
theorem hc_gt {K : Int32 → Option (Int32 × Wd)} (h : ∀ x, HC P (K x)) : HC P (q_gt w k j K) := h _
theorem hc_lt {α : Type} {a : α} {K : α → Option (Int32 × Wd)} (h : ∀ x, HC P (K x)) : HC P (q_lt a K) := h _
theorem hc_ld {K : Int32 → Option (Int32 × Wd)} (h : ∀ x, HC P (K x)) : HC P (q_ld w k n i K) := by
  unfold q_ld
  split
  · exact hc_none
  · exact h _
theorem hc_st {K : Wd → Option (Int32 × Wd)} (hs : ∀ a b, P (sI w k a b)) (h : ∀ w', P w' → HC P (K w')) : HC P (q_st w k n i x K) := by
  unfold q_st
  split
  · exact hc_none
  · exact h _ (hs _ _)
theorem hc_sz {K : Wd → Option (Int32 × Wd)} (hs : ∀ a b, P (sI w k a b)) (h : ∀ w', P w' → HC P (K w')) : HC P (q_sz w k n i x K) := by
  unfold q_sz
  split
  · exact hc_none
  · exact h _ (hs _ _)
theorem hc_pt {K : Wd → Option (Int32 × Wd)} (hs : ∀ b, P (sI w k j b)) (h : ∀ w', P w' → HC P (K w')) : HC P (q_pt w k j x K) := h _ (hs _)
theorem hc_bo {α : Type} {o : Option α} {K : α → Option (Int32 × Wd)} (h : ∀ x, HC P (K x)) : HC P (q_bo o K) := by
  rcases o with _ | a
  · exact hc_none
  · exact h a
theorem hc_bi {o : Option (Int32 × Wd)} {K : Int32 → Wd → Option (Int32 × Wd)} (ho : HC P o) (h : ∀ r w', P w' → HC P (K r w')) : HC P (q_bi o K) := by
  rcases o with _ | ⟨a, b⟩
  · exact hc_none
  · exact h a b (ho a b rfl)
theorem hc_ite {p : Prop} [Decidable p] {a b : Option (Int32 × Wd)} (h : HC P a) (g : HC P b) : HC P (if p then a else b) := by
  by_cases q : p
  · rw [if_pos q]; exact h
  · rw [if_neg q]; exact g
end HCs
/-- field j of object k is c -/
def Fx0 (k j : Nat) (c : Int32) (w : Wd) : Prop := wS w k j = c
theorem Fx0.sI {k j : Nat} {c : Int32} {w : Wd} (h : Fx0 k j c w) {p : Nat} (hp : p ≠ k) : ∀ a b, Fx0 k j c (sI w p a b) := fun a b => by
  unfold Fx0
  rw [wS_sI, if_neg (fun z => hp z.1.symm)]
  exact h
theorem n_cut {w : Wd} (a b : Int32) : HC (Fx0 2 4 (wS w 2 4)) (f_X11_cut w a b) := by
  have h0 : Fx0 2 4 (wS w 2 4) w := rfl
  unfold f_X11_cut f_X8_cutEaves
  refine hc_bi (hc_gt fun _ => hc_ite (hc_some h0) (hc_ld fun _ => hc_ite (hc_some h0) (hc_ld fun _ => hc_st (h0.sI (by decide)) fun _ h => hc_some h))) (fun _ _ h => hc_some h)
theorem n_lower {w : Wd} (a b : Int32) : HC (Fx0 2 10 (wS w 2 10)) (f_X8_lower w a b) := by
  have h0 : Fx0 2 10 (wS w 2 10) w := rfl
  unfold f_X8_lower
  exact hc_gt fun _ => hc_ite (hc_some h0) (hc_ld fun _ => hc_sz (h0.sI (by decide)) fun _ h => hc_ite (hc_some h) (hc_some h))
theorem n_wet {b c : Int32} : ∀ (f : Nat) (w : Wd) (x y : Int32), Fx0 2 15 c w → HC (Fx0 2 15 c) (l_X8_wetAll_4 b f w x y)
  | 0, _, _, _, _ => hc_none
  | f + 1, w, x, y, h => by
    unfold l_X8_wetAll_4
    refine hc_gt fun _ => hc_ite (hc_some h) (hc_ld fun _ => ?_)
    rw [jn_eq]
    exact hc_ite (hc_lt fun _ => n_wet f w _ _ h) (hc_sz (h.sI (by decide)) fun _ h' => hc_lt fun _ => hc_lt fun _ => n_wet f _ _ _ h')
theorem n_car {w v : Wd} (R : R5 w v) {K : Nat → Option (Int32 × Wd)} {a : Int32} {P : Wd → Prop} (h0 : HC P (K 0)) (h : ∀ c, c < 4 → a = nI c → nI c < wS w 3 2 → A5 w v c → P5 w v c → HC P (K (K5 c))) : HC P (q_bo (f_X3_carAt w a) K) := by
  rcases carAt_c R a with ⟨q1, -⟩ | ⟨c, hc, hcn, e, q1, -, A, -, P, -⟩
  · rw [q1]; exact h0
  · rw [q1]; exact h c hc e hcn A P
theorem K3 {c o : Nat} : K5 c + o ≠ 3 := by unfold K5; omega
theorem K30 {c : Nat} : K5 c ≠ 3 := by unfold K5; omega
theorem n_storey {w v : Wd} (R : R5 w v) (a b d e : Int32) : HC (Fx0 3 2 (wS w 3 2)) (f_X11_storey w a b d e) := by
  have h0 : Fx0 3 2 (wS w 3 2) w := rfl
  unfold f_X11_storey
  refine n_car R (hc_some h0) (fun c hc _ _ _ _ => ?_)
  refine hc_ite (hc_some h0) (hc_bi ?_ (fun _ _ h => hc_some h))
  unfold f_X1_addStorey
  exact hc_ite (hc_some h0) (hc_gt fun _ => hc_bo fun _ => hc_ite (hc_ite (hc_some h0) (hc_ite (hc_some h0) (hc_gt fun _ => hc_ite (hc_gt fun _ => hc_st (h0.sI K3) fun _ h => hc_gt fun _ => hc_st (h.sI K3) fun _ h => hc_gt fun _ => hc_st (h.sI K3) fun _ h => hc_gt fun _ => hc_pt (h.sI K30 _) fun _ h => hc_gt fun _ => hc_some h) (hc_some h0)))) (hc_some h0))
theorem n_leave {w v : Wd} (R : R5 w v) (a : Int32) : HC (Fx0 3 2 (wS w 3 2)) (f_X11_leave w a) := by
  have h0 : Fx0 3 2 (wS w 3 2) w := rfl
  unfold f_X11_leave
  refine n_car R (hc_some h0) (fun c hc _ _ _ _ => ?_)
  exact hc_ite (hc_some h0) (hc_gt fun _ => hc_pt (h0.sI K30 _) fun _ h => hc_ite (hc_some h) (hc_some h))
theorem n_rope {w v : Wd} (R : R5 w v) (a b d e f : Int32) : HC (Fx0 3 2 (wS w 3 2)) (f_X11_rope w a b d e f) := by
  have h0 : Fx0 3 2 (wS w 3 2) w := rfl
  unfold f_X11_rope
  refine n_car R (hc_some h0) (fun c hc _ _ _ _ => ?_)
  exact hc_ite (hc_some h0) (hc_ite (hc_some h0) (hc_ite (hc_some h0) (hc_ite (hc_some h0) (hc_ite (hc_some h0) (hc_st (h0.sI K3) fun _ h => hc_st (h.sI K3) fun _ h => hc_st (h.sI K3) fun _ h => hc_some h)))))
theorem n_stand {w v : Wd} (R : RS w v) (a b d e : Int32) : HC (Fx0 3 2 (wS w 3 2)) (f_X11_stand w a b d e) := by
  have h0 : Fx0 3 2 (wS w 3 2) w := rfl
  unfold f_X11_stand
  refine n_car R.2.2.2.2.1 (hc_some h0) (fun c hc _ hcn _ _ => ?_)
  refine hc_ite (hc_some h0) ?_
  rcases win_c b (-500) 500 with q | ⟨q, b1, b2⟩
  · rw [q, if_pos rfl]; exact hc_some h0
  rw [q, if_neg one0]
  rcases win_c d (-500) 500 with q | ⟨q, d1, d2⟩
  · rw [q, if_pos rfl]; exact hc_some h0
  rw [q, if_neg one0]
  rcases win_c e 0 35 with q | ⟨q, e1, e2⟩
  · rw [q, if_pos rfl]; exact hc_some h0
  rw [q, if_neg one0]
  have B : bt (-500) 500 b := bt_of b1 b2 (by decide) (by decide)
  have D : bt (-500) 500 d := bt_of d1 d2 (by decide) (by decide)
  have E : bt 0 35 e := bt_of e1 e2 (by decide) (by decide)
  have k65 : V (65 : Int32) 65 65 := V.lit (by decide)
  have bx : bt (-60000) 60000 (65 * b) := abs_wk (k65.mul (V.of (M := 500) B (by decide) (by decide)) (by decide)) (by decide) (by decide)
  have by' : bt (-60000) 60000 (65 * d) := abs_wk (k65.mul (V.of (M := 500) D (by decide) (by decide)) (by decide)) (by decide) (by decide)
  have R' : RS w (sI (sI (sI v 63 31 (65 * b)) 63 32 (65 * d)) 63 33 e) := R.fr0 only.refl (by (repeat' first | exact only.refl | exact Or.inl rfl | exact Or.inr rfl | exact Or.inl (hAr _) | exact Or.inl (Ar_7699 (by omega)) | exact fun _ => Or.inl (hAr _) | refine only.trans ?_ (only.sI ?_) | refine only.trans ?_ (only.sJ ?_) | refine only.trans ?_ (only.sN ?_) | refine only.trans ?_ only.sR | refine only.trans ?_ (only.sFr ?_)))
  obtain ⟨r, w', m1, -, -, -, -, mX, -⟩ := c_firstMetX R' hc hcn (by (repeat first | rw [wS_sI, if_pos ⟨rfl, rfl⟩] | rw [wS_sI, if_neg (by omega)] | rw [wS_sN, if_neg (by omega)] | rw [wS_sR] | rw [wS_sN, if_pos rfl] | rw [wS_sFr, if_neg (by omega)] | rw [wS_sFr, if_pos (by omega)])) (by (repeat first | rw [wS_sI, if_pos ⟨rfl, rfl⟩] | rw [wS_sI, if_neg (by omega)] | rw [wS_sN, if_neg (by omega)] | rw [wS_sR] | rw [wS_sN, if_pos rfl] | rw [wS_sFr, if_neg (by omega)] | rw [wS_sFr, if_pos (by omega)])) (by (repeat first | rw [wS_sI, if_pos ⟨rfl, rfl⟩] | rw [wS_sI, if_neg (by omega)] | rw [wS_sN, if_neg (by omega)] | rw [wS_sR] | rw [wS_sN, if_pos rfl] | rw [wS_sFr, if_neg (by omega)] | rw [wS_sFr, if_pos (by omega)])) bx by' (bt_w E (by decide) (by decide))
  have h1 : Fx0 3 2 (wS w 3 2) w' := (mX 3 2 (fun o ho => by unfold K5; omega)).1
  rw [m1, bi_e]
  unfold f_X1_standAt
  refine hc_ite ?_ (hc_some h1)
  simp only [q_pt, bo_e]
  exact hc_some ((((h1.sI K30 9 _).sI K30 10 _).sI K30 11 _).sI K30 12 _)
theorem n_move {w v : Wd} (R : RS w v) (a m : Int32) : HC (Fx0 3 2 (wS w 3 2)) (f_X11_move w a m) := by
  have h0 : Fx0 3 2 (wS w 3 2) w := rfl
  unfold f_X11_move
  refine n_car R.2.2.2.2.1 (hc_some h0) (fun c hc _ hcn _ _ => ?_)
  refine hc_ite (hc_some h0) ?_
  rcases win_n m (n := 10) (by decide) with q | ⟨q, i, hi, rfl⟩
  · have q' : f_X11_within m 0 9 = 0 := q
    rw [q', if_pos rfl]; exact hc_some h0
  have q' : f_X11_within (nI i) 0 9 = 1 := q
  rw [q', if_neg one0]
  by_cases hz : wS w (K5 c) 12 = 0
  · have e : f_X3_drive w (K5 c) (nI i) = some (0, w) := by
      unfold f_X3_drive
      rw [gt_e, if_pos hz]
    rw [e, bi_e]
    exact hc_ite (hc_some h0) (hc_some h0)
  · have hm : ¬ (10 : Int32) ≤ nI i := nI_ge (b := 10) hi (by decide)
    obtain ⟨r, w1, v1, k1, -, -, -, -, -, -, -, -, -, -, k12, -⟩ := c_drive R hc hcn hz hm
    have h1 : Fx0 3 2 (wS w 3 2) w1 := k12
    rw [k1, bi_e]
    exact hc_ite (hc_some h1) (hc_some h1)
