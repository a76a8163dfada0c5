/-! ===== what is left of the rows: references compared, switches, a car by its number ===== -/
abbrev NB : Nat := 124
theorem if_s {α : Type} {c : Prop} {A : Option α} {r : α} (hd : Decidable c) (h : (@ite _ c hd A none) = some r) : c ∧ A = some r := by
  by_cases hc : c
  · rw [if_pos hc] at h
    exact ⟨hc, h⟩
  · rw [if_neg hc] at h
    cases h
theorem tab_out (ks : List Int32) {x : Int32} {lo hi : Int} (hk : (List.range (hi - lo + 1).toNat).all (fun j => ks.contains (Int32.ofInt (lo + j))) = true) (hx : x ∉ ks) : x.toInt < lo ∨ hi < x.toInt := by
  by_cases h1 : x.toInt < lo
  · exact Or.inl h1
  by_cases h2 : hi < x.toInt
  · exact Or.inr h2
  have h3 := List.all_eq_true.mp hk (x.toInt - lo).toNat (List.mem_range.mpr (by omega))
  rw [show lo + ((x.toInt - lo).toNat : Int) = x.toInt by omega, Int32.ofInt_toInt] at h3
  exact absurd (List.contains_iff_mem.mp h3) hx
theorem lk_out (ks : List (Int32 × Int)) (d : Int) {ps : List (Int × Int)} {x : Int32} (hp : ps = ks.map (fun q => (q.1.toInt, q.2))) (hx : ∀ q ∈ ks, ¬ x = q.1) : Op.lookupswitch.offset ps d x.toInt = d := by
  subst hp
  induction ks with
  | nil => rfl
  | cons a r ih =>
    rw [List.map_cons, Op.lookupswitch.offset_cons, if_neg (fun e => hx a List.mem_cons_self (Int32.toInt_inj.mp e.symm))]
    exact ih fun q hq => hx q (List.mem_cons_of_mem _ hq)
/-- a car's number's answer: null for 0 -/
def mQr (D : va_G) (cT : Nat → ClassId) (lo nb : Nat) (w : Wd) (ad : Nat → Nat) (q : Nat) (ke : Nat × Nat) : Array Value → State → Outcome → State → Prop := fun a st o t => mQ D cT lo nb w w ad (some (if q = 0 then .null else .ref (ad q))) a st o t ∧ (q ≠ 0 → kt q = ke ∧ wA w q = 2)
section XM
variable {p : Program} {l : Launch} {e : Env} {R : Room} {s : State} {m : MethodId} {args : Array Value} {below : List Frame} {meth : Method} {c : Code} {H : Heap} {locs : List Loc} {cells slots : Nat} {Q : State → Prop}
variable {cc : ByteArray} {pc nL : Nat} {ls : Array Slot} {rest st : List Value} {D : va_G} {cT : Nat → ClassId} {lo nb : Nat} {w w' : Wd} {ad : Nat → Nat} {own : String} {index ci j k n : Nat} {ty : FieldType}
theorem x_goesR {a : Array Value} {q : Nat} {ke : Nat × Nat} (hr : va_Run p l e R s m args below meth c H locs cells slots 0 0 (F0 m pc ls st) rest (mQr D cT lo nb w ad q ke a) (fun q => lo ≤ q)) (hS : va_S (fun q => lo ≤ q) s.heap H locs)
    (k0 : ∀ (H : Heap) (locs : List Loc), q = 0 → wP D cT lo nb w ad H → va_S (fun q => lo ≤ q) s.heap H locs → W p l e R s m args below meth c H locs cells slots Q (F0 m (pc + 3) ls (.null :: rest)))
    (k1 : ∀ (H : Heap) (locs : List Loc), ¬ q = 0 → kt q = ke → wA w q = 2 → wP D cT lo nb w ad H → va_S (fun q => lo ≤ q) s.heap H locs → W p l e R s m args below meth c H locs cells slots Q (F0 m (pc + 3) ls (.ref (ad q) :: rest))) : W p l e R s m args below meth c H locs cells slots Q (F0 m pc ls st) := by
  intro T hT X
  obtain ⟨v', st₀, t, T', L, h0, X', hL, e1, e2, ⟨⟨hv, hu, hm, hz, hk⟩, hn⟩, stp⟩ := hr T hT X
  rw [h0] at hz hk
  have hS' : va_S (fun q => lo ≤ q) s.heap T'.heap (locs ++ L) := ⟨Nat.le_trans hS.1 (by rw [e1]; exact hz), fun q h1 h2 => by rw [e1, hk q (Nat.lt_of_lt_of_le h1 hS.1) h2]; exact hS.2.1 q h1 h2, fun q hq => by
      rcases List.mem_append.mp hq with h | h
      · exact hS.2.2 q h
      · exact hL q h⟩
  have hP' : wP D cT lo nb w ad T'.heap := by rw [e1]; exact hu.1
  by_cases hq : q = 0
  · rw [if_pos hq] at hv
    cases hv
    obtain ⟨t2, a1, b1⟩ := k0 T'.heap (locs ++ L) hq hP' hS' T' rfl X'
    exact ⟨t2, stp t2 a1, b1⟩
  · rw [if_neg hq] at hv
    cases hv
    obtain ⟨t2, a1, b1⟩ := k1 T'.heap (locs ++ L) hq (hn hq).1 (hn hq).2 hP' hS' T' rfl X'
    exact ⟨t2, stp t2 a1, b1⟩
theorem y_acmp_eq {x y : Nat} {off : Int} {tgt : Nat} (F : Fx p s m args c cc own nL D cT lo) (hP : wP D cT lo nb w ad H) (hx : wA w x ≠ 0) (hy : wA w y ≠ 0) (hdg : decode cc pc = .ok (.if_acmp .eq off, 3)) (ht : (pc : Int) + off = (tgt : Int))
    (kt : x = y → W p l e R s m args below meth c H locs cells slots Q (F0 m tgt ls rest)) (kf : ¬ x = y → W p l e R s m args below meth c H locs cells slots Q (F0 m (pc + 3) ls rest)) : W p l e R s m args below meth c H locs cells slots Q (F0 m pc ls (.ref (ad y) :: .ref (ad x) :: rest)) :=
  lv_acmp_eq (rx := some (ad x)) (ry := some (ad y)) F.1 F.2.1 hdg ht (fun h => kt (hP.2.1 x y hx hy (Option.some.inj h))) (fun h => kf (fun z => h (by rw [z])))
theorem y_acmp_ne {x y : Nat} {off : Int} {tgt : Nat} (F : Fx p s m args c cc own nL D cT lo) (hP : wP D cT lo nb w ad H) (hx : wA w x ≠ 0) (hy : wA w y ≠ 0) (hdg : decode cc pc = .ok (.if_acmp .ne off, 3)) (ht : (pc : Int) + off = (tgt : Int))
    (kt : ¬ x = y → W p l e R s m args below meth c H locs cells slots Q (F0 m tgt ls rest)) (kf : x = y → W p l e R s m args below meth c H locs cells slots Q (F0 m (pc + 3) ls rest)) : W p l e R s m args below meth c H locs cells slots Q (F0 m pc ls (.ref (ad y) :: .ref (ad x) :: rest)) :=
  lv_acmp_ne (rx := some (ad x)) (ry := some (ad y)) F.1 F.2.1 hdg ht (fun h => kt (fun z => h (by rw [z]))) (fun h => kf (hP.2.1 x y hx hy (Option.some.inj h)))
end XM
