/-! ===== what is left of the rows: references compared, switches, a car by its number ===== -/
abbrev NB : Nat := 124
theorem if_s {α : Type} {c : Prop} {A : Option α} {r : α} (hd : Decidable c) (h : (@ite _ c hd A none) = some r) : c ∧ A = some r := by
  by_cases hc : c
  · rw [if_pos hc] at h
    exact ⟨hc, h⟩
  · rw [if_neg hc] at h
    cases h
theorem tab_out (ks : List Int32) {x : Int32} {lo hi : Int} (hk : (List.range (hi - lo + 1).toNat).all (fun j => ks.contains (Int32.ofInt (lo + j))) = true) (hx : x ∉ ks) : x.toInt < lo ∨ hi < x.toInt := by
  by_cases h1 : x.toInt < lo
  · exact Or.inl h1
  by_cases h2 : hi < x.toInt
  · exact Or.inr h2
  have h3 := List.all_eq_true.mp hk (x.toInt - lo).toNat (List.mem_range.mpr (by omega))
  rw [show lo + ((x.toInt - lo).toNat : Int) = x.toInt by omega, Int32.ofInt_toInt] at h3
  exact absurd (List.contains_iff_mem.mp h3) hx
theorem lk_out (ks : List (Int32 × Int)) (d : Int) {ps : List (Int × Int)} {x : Int32} (hp : ps = ks.map (fun q => (q.1.toInt, q.2))) (hx : ∀ q ∈ ks, ¬ x = q.1) : Op.lookupswitch.offset ps d x.toInt = d := by
  subst hp
  induction ks with
  | nil => rfl
  | cons a r ih =>
    rw [List.map_cons, Op.lookupswitch.offset_cons, if_neg (fun e => hx a List.mem_cons_self (Int32.toInt_inj.mp e.symm))]
    exact ih fun q hq => hx q (List.mem_cons_of_mem _ hq)
/-- a car's number's answer: null for 0 -/
def mQr (D : va_G) (cT : Nat → ClassId) (lo nb : Nat) (w : Wd) (ad : Nat → Nat) (q : Nat) (ke : Nat × Nat) : Array Value → State → Outcome → State → Prop := fun a st o t => mQ D cT lo nb w w ad (some (if q = 0 then .null else .ref (ad q))) a st o t ∧ (q ≠ 0 → kt q = ke ∧ wA w q = 2)
section XM
variable {p : Program} {l : Launch} {e : Env} {R : Room} {s : State} {m : MethodId} {args : Array Value} {below : List Frame} {meth : Method} {c : Code} {H : Heap} {locs : List Loc} {cells slots : Nat} {Q : State → Prop}
variable {cc : ByteArray} {pc nL : Nat} {ls : Array Slot} {rest st : List Value} {D : va_G} {cT : Nat → ClassId} {lo nb : Nat} {w w' : Wd} {ad : Nat → Nat} {own : String} {index ci j k n : Nat} {ty : FieldType}
theorem x_goesR {a : Array Value} {q : Nat} {ke : Nat × Nat} (hr : va_Run p l e R s m args below meth c H locs cells slots 0 0 (F0 m pc ls st) rest (mQr D cT lo nb w ad q ke a) (fun q => lo ≤ q)) (hS : va_S (fun q => lo ≤ q) s.heap H locs)
    (k0 : ∀ (H : Heap) (locs : List Loc), q = 0 → wP D cT lo nb w ad H → va_S (fun q => lo ≤ q) s.heap H locs → W p l e R s m args below meth c H locs cells slots Q (F0 m (pc + 3) ls (.null :: rest)))
    (k1 : ∀ (H : Heap) (locs : List Loc), ¬ q = 0 → kt q = ke → wA w q = 2 → wP D cT lo nb w ad H → va_S (fun q => lo ≤ q) s.heap H locs → W p l e R s m args below meth c H locs cells slots Q (F0 m (pc + 3) ls (.ref (ad q) :: rest))) : W p l e R s m args below meth c H locs cells slots Q (F0 m pc ls st) := by
  intro T hT X
  obtain ⟨v', st₀, t, T', L, h0, X', hL, e1, e2, ⟨⟨hv, hu, hm, hz, hk⟩, hn⟩, stp⟩ := hr T hT X
  rw [h0] at hz hk
  have hS' : va_S (fun q => lo ≤ q) s.heap T'.heap (locs ++ L) := ⟨Nat.le_trans hS.1 (by rw [e1]; exact hz), fun q h1 h2 => by rw [e1, hk q (Nat.lt_of_lt_of_le h1 hS.1) h2]; exact hS.2.1 q h1 h2, fun q hq => by
      rcases List.mem_append.mp hq with h | h
      · exact hS.2.2 q h
      · exact hL q h⟩
  have hP' : wP D cT lo nb w ad T'.heap := by rw [e1]; exact hu.1
  by_cases hq : q = 0
  · rw [if_pos hq] at hv
    cases hv
    obtain ⟨t2, a1, b1⟩ := k0 T'.heap (locs ++ L) hq hP' hS' T' rfl X'
    exact ⟨t2, stp t2 a1, b1⟩
  · rw [if_neg hq] at hv
    cases hv
    obtain ⟨t2, a1, b1⟩ := k1 T'.heap (locs ++ L) hq (hn hq).1 (hn hq).2 hP' hS' T' rfl X'
    exact ⟨t2, stp t2 a1, b1⟩
theorem y_acmp_eq {x y : Nat} {off : Int} {tgt : Nat} (F : Fx p s m args c cc own nL D cT lo) (hP : wP D cT lo nb w ad H) (hx : wA w x ≠ 0) (hy : wA w y ≠ 0) (hdg : decode cc pc = .ok (.if_acmp .eq off, 3)) (ht : (pc : Int) + off = (tgt : Int))
    (kt : x = y → W p l e R s m args below meth c H locs cells slots Q (F0 m tgt ls rest)) (kf : ¬ x = y → W p l e R s m args below meth c H locs cells slots Q (F0 m (pc + 3) ls rest)) : W p l e R s m args below meth c H locs cells slots Q (F0 m pc ls (.ref (ad y) :: .ref (ad x) :: rest)) :=
  lv_acmp_eq (rx := some (ad x)) (ry := some (ad y)) F.1 F.2.1 hdg ht (fun h => kt (hP.2.1 x y hx hy (Option.some.inj h))) (fun h => kf (fun z => h (by rw [z])))
theorem y_acmp_ne {x y : Nat} {off : Int} {tgt : Nat} (F : Fx p s m args c cc own nL D cT lo) (hP : wP D cT lo nb w ad H) (hx : wA w x ≠ 0) (hy : wA w y ≠ 0) (hdg : decode cc pc = .ok (.if_acmp .ne off, 3)) (ht : (pc : Int) + off = (tgt : Int))
    (kt : ¬ x = y → W p l e R s m args below meth c H locs cells slots Q (F0 m tgt ls rest)) (kf : x = y → W p l e R s m args below meth c H locs cells slots Q (F0 m (pc + 3) ls rest)) : W p l e R s m args below meth c H locs cells slots Q (F0 m pc ls (.ref (ad y) :: .ref (ad x) :: rest)) :=
  lv_acmp_ne (rx := some (ad x)) (ry := some (ad y)) F.1 F.2.1 hdg ht (fun h => kt (fun z => h (by rw [z]))) (fun h => kf (hP.2.1 x y hx hy (Option.some.inj h)))
end XM
/-! ===== System.arraycopy between two rows of ints ===== -/
def sC (w : Wd) (k0 k1 sp dp n : Nat) : Wd := (w.1, fun a b => if a = k1 ∧ (dp ≤ b ∧ b < dp + n) then w.2.1 k0 (sp + (b - dp)) else w.2.1 a b, w.2.2)
def q_cp {β : Type} (w : Wd) (k0 n0 k1 n1 : Nat) (sp dp n : Int32) (K : Wd → Option β) : Option β := if (sp < 0 ∨ dp < 0 ∨ n < 0) ∨ n0 < sp.toNatClampNeg + n.toNatClampNeg ∨ n1 < dp.toNatClampNeg + n.toNatClampNeg then none else K (sC w k0 k1 sp.toNatClampNeg dp.toNatClampNeg n.toNatClampNeg)
theorem mono.sC {w : Wd} {k0 k1 sp dp n : Nat} : mono w (sC w k0 k1 sp dp n) := ⟨fun _ h => h, fun _ h => h⟩
section XCP
variable {p : Program} {l : Launch} {e : Env} {R : Room} {s : State} {m : MethodId} {args : Array Value} {below : List Frame} {meth : Method} {c : Code} {H : Heap} {locs : List Loc} {cells slots : Nat} {Q : State → Prop}
variable {cc : ByteArray} {pc nL : Nat} {ls : Array Slot} {D : va_G} {cT : Nat → ClassId} {lo nb : Nat} {w : Wd} {ad : Nat → Nat} {own : String} {index k0 k1 n0 n1 : Nat} {β : Type}
theorem y_copy {sp dp n : Int32} {K : Wd → Option β} {r : β} (h : q_cp w k0 n0 k1 n1 sp dp n K = some r) (F : Fx p s m args c cc own nL D cT lo) (hP : wP D cT lo nb w ad H) (hS : va_S (fun q => lo ≤ q) s.heap H locs) (lk : Cond.methodLink own index arraycopyName ∈ TW) (hna : Cond.native arraycopyName ∈ TW) (hst : Cond.static arraycopyName ∈ TW) (hini : Cond.initialized "java/lang/System" ∈ TW)
    (hk0 : kt k0 = (1, n0)) (ha0 : wA w k0 ≠ 0) (hk1 : kt k1 = (1, n1)) (ha1 : wA w k1 ≠ 0) (hfr : 1 ≤ R.frames ∧ 18 ≤ R.locals) (hls : ls.size = nL) (hdg : decode cc pc = .ok (.invokestatic index, 3))
    (kk : ∀ (w1 : Wd) (H : Heap) (locs : List Loc), mono w w1 → K w1 = some r → wP D cT lo nb w1 ad H → va_S (fun q => lo ≤ q) s.heap H locs → W p l e R s m args below meth c H locs cells slots Q (F0 m (pc + 3) ls [])) : W p l e R s m args below meth c H locs cells slots Q (F0 m pc ls [.int n, .int dp, .ref (ad k1), .int sp, .ref (ad k0)]) := by
  unfold q_cp at h
  by_cases hc : (sp < 0 ∨ dp < 0 ∨ n < 0) ∨ n0 < sp.toNatClampNeg + n.toNatClampNeg ∨ n1 < dp.toNatClampNeg + n.toNatClampNeg
  · rw [if_pos hc] at h
    cases h
  rw [if_neg hc] at h
  obtain ⟨hc1, hc2⟩ := not_or.mp hc
  obtain ⟨h1, hc1⟩ := not_or.mp hc1
  obtain ⟨h2, h3⟩ := not_or.mp hc1
  obtain ⟨h4, h5⟩ := not_or.mp hc2
  have h4 := Nat.not_lt.mp h4
  have h5 := Nat.not_lt.mp h5
  obtain ⟨hexec, hb, hown, hts, hK, hlo, hml⟩ := F
  have nn : ∀ z : Int32, ¬ z < 0 → z.toInt = (z.toNatClampNeg : Int) := by
    intro z hz
    have hz0 : (0 : Int) ≤ z.toInt := by
      have := Int32.not_lt.mp hz
      simpa using Int32.le_iff_toInt_le.mp this
    show z.toInt = ((z.toInt.toNat : Nat) : Int)
    omega
  intro T hT X
  have hc0 : H[ad k0]? = some (vp_cell (cT 1) (n0, .inl (fun j => wS w k0 j))) := x_row hP ha0 (cel_i hk0) 0 _ rfl
  have hc1 : H[ad k1]? = some (vp_cell (cT 1) (n1, .inl (fun j => wS w k1 j))) := x_row hP ha1 (cel_i hk1) 0 _ rfl
  obtain ⟨-, kA0, hkA0, cm0, hkk0⟩ := (hK.1.2 0 _ rfl).1 n0 (fun j => .int (wS w k0 j))
  obtain ⟨-, kA1, hkA1, cm1, hkk1⟩ := (hK.1.2 0 _ rfl).1 n1 (fun j => .int (wS w k1 j))
  obtain ⟨vm', X', step⟩ := X.arraycopy hexec hown (hts _ lk) (hts _ hna) (hts _ hst) (hts _ hini) (src := ad k0) (dst := ad k1) (cs := vp_cell (cT 1) (n0, .inl (fun j => wS w k0 j))) (cd := vp_cell (cT 1) (n1, .inl (fun j => wS w k1 j))) (srcPos := sp) (destPos := dp) (n := n) (by rw [hT]; exact hc0) (by rw [hT]; exact hc1)
    (fun _ h => by cases h) (fun _ h => by cases h) (fun h => by cases h) (fun h => by cases h) hkA0 hkA1 hkk0 hkk1 (by simp [refKind]) h1 h2 h3
    (by rw [nn sp h1, nn n h3]; show ¬ _ > ((arrV (cT 1) n0 (fun j => .int (wS w k0 j))).slots.size : Int); rw [arrV_size]; omega)
    (by rw [nn dp h2, nn n h3]; show ¬ _ > ((arrV (cT 1) n1 (fun j => .int (wS w k1 j))).slots.size : Int); rw [arrV_size]; omega)
    (fun vm₁ _ i hi => by
      have e : (vp_cell (cT 1) (n0, .inl (fun j => wS w k0 j))).slots.getD (sp.toNatClampNeg + i) .null = .int (wS w k0 (sp.toNatClampNeg + i)) := by
        show (arrV (cT 1) n0 (fun j => .int (wS w k0 j))).slots.getD _ _ = _
        rw [Array.getD_eq_getD_getElem?, arrV_read _ _ (by omega)]
        rfl
      refine ⟨?_, ?_⟩
      · rw [e]
        rfl
      · rw [e]
        exact trivial)
    (g := F0 m pc ls [.int n, .int dp, .ref (ad k1), .int sp, .ref (ad k0)]) rfl (hls.trans hml.symm) (rest := []) rfl (by rw [hb]; exact hdg) hfr.1 (by show 2 * 0 + 0 + (7 + 11) ≤ _; exact hfr.2)
  have e1 : copied (vp_cell (cT 1) (n0, .inl (fun j => wS w k0 j))) (vp_cell (cT 1) (n1, .inl (fun j => wS w k1 j))) sp dp n = vp_cell (cT 1) (n1, .inl (va_cpy (fun j => wS w k0 j) (fun j => wS w k1 j) sp.toNatClampNeg dp.toNatClampNeg n.toNatClampNeg)) := va_copied (fun z => .int z) (cT 1) (cT 1) (fun j => wS w k0 j) (fun j => wS w k1 j) h4
  rw [e1] at X' step
  have hl : ad k1 < H.size := (Array.getElem?_eq_some_iff.mp hc1).1
  generalize hNC : vp_cell (cT 1) (n1, .inl (va_cpy (fun j => wS w k0 j) (fun j => wS w k1 j) sp.toNatClampNeg dp.toNatClampNeg n.toNatClampNeg)) = NC at X' step
  have hheap : ((T.setVm vm').setCell (ad k1) NC).heap = H.setIfInBounds (ad k1) NC := by rw [← hT]; rfl
  have oq : ∀ q : Nat, q ≠ ad k1 → (H.setIfInBounds (ad k1) NC)[q]? = H[q]? := fun q hq => by simp [Array.getElem?_setIfInBounds, Ne.symm hq]
  have hPn : wP D cT lo nb (sC w k0 k1 sp.toNatClampNeg dp.toNatClampNeg n.toNatClampNeg) ad (H.setIfInBounds (ad k1) NC) := by
    refine hP.set1 (k := k1) ha1 (fun _ => rfl) (fun q hq j => by show (if q = k1 ∧ _ then _ else _) = _; rw [if_neg (fun z => hq z.1)]; rfl) (fun _ _ _ => rfl) ?_ oq (fun j' z => ?_) (fun j' a _ _ => by rw [hk1] at a; exact absurd a (by show ¬ 10 ≤ 1; decide))
    · rw [cel_i hk1]
      show (H.setIfInBounds (ad k1) NC)[ad k1]? = some _
      rw [Array.getElem?_setIfInBounds, if_pos rfl, if_pos hl, ← hNC]
      congr 3
      congr 2
      funext j
      show va_cpy _ _ _ _ _ _ = (if k1 = k1 ∧ _ then _ else _)
      unfold va_cpy
      by_cases q : dp.toNatClampNeg ≤ j ∧ j < dp.toNatClampNeg + n.toNatClampNeg
      · rw [if_pos q, if_pos ⟨rfl, q⟩]; rfl
      · rw [if_neg q, if_neg (fun z => q z.2)]; rfl
    · rcases z with ⟨z1, -⟩ | ⟨z1, -⟩
      · rw [hk1] at z1
        exact absurd z1 (by show ¬ 4 ≤ 1; decide)
      · rw [hk1] at z1
        exact absurd z1 (by show ¬ 10 ≤ 1; decide)
  obtain ⟨t, a1, b1⟩ := kk _ _ _ mono.sC h hPn ⟨by simp; exact hS.1, fun q g1 g2 => by
      rw [oq q (fun e => g2 (by rw [e]; exact hP.2.2.1 k1 ha1))]
      exact hS.2.1 q g1 g2, fun q hq => by
      rcases List.mem_append.mp hq with h | h
      · exact hS.2.2 q h
      · obtain ⟨z, -, hz⟩ := List.mem_map.mp h
        rw [← hz]
        exact hP.2.2.1 k1 ha1⟩ _ hheap X'
  exact ⟨t, step t a1, b1⟩
end XCP
