/-! ===== fields and rows of numbers ===== -/
def FL (own : String) (index ci j : Nat) (ty : FieldType) (fin : Bool) : Prop := ∃ (C : String) (T : u_T) (N : Nat), vwCl[ci]? = some (C, T, N) ∧ j < N ∧ Cond.fieldLink own index C (T j).2.1 (T j).2.2.1 ∈ TW ∧ (T j).1 = C ∧ (T j).2.2.2 = fin ∧ parseFieldDescriptor (T j).2.2.1 = some ty ∧ (∀ w ∈ u_ws C T N, w ∈ TW) ∧ (∃ ty0 : Nat → FieldType, ∀ k, k < N → parseFieldDescriptor (T k).2.2.1 = some (ty0 k)) ∧ ∀ a, a < N → ∀ b, b < N → a ≠ b → (T a).2.1 ≠ (T b).2.1
def Fx (p : Program) (s : State) (m : MethodId) (args : Array Value) (c : Code) (cc : ByteArray) (own : String) (nL : Nat) (D : va_G) (cT : Nat → ClassId) (lo : Nat) : Prop := p.tables.exec = Jvm.exec ∧ c.code = cc ∧ s.vm.findClass own = some m.cls ∧ (∀ w ∈ TW, w.before args s = true) ∧ wK D cT lo s ∧ lo ≤ s.heap.size ∧ c.maxLocals = nL
theorem fx_x {p : Program} {s : State} {m : MethodId} {args : Array Value} {c : Code} {cc : ByteArray} {own : String} {nL : Nat} {D : va_G} {cT : Nat → ClassId} {lo : Nat} (F : Fx p s m args c cc own nL D cT lo) : p.tables.exec = Jvm.exec := F.1
theorem wP.al {D : va_G} {cT : Nat → ClassId} {lo nb : Nat} {w : Wd} {ad : Nat → Nat} {H : Heap} (h : wP D cT lo nb w ad H) (k : Nat) (hk : (Nat.blt 0 k && Nat.blt k nb) = true) : wA w k = 2 := by
  simp only [Bool.and_eq_true, Nat.blt_eq] at hk
  exact h.2.2.2.2.2.1 k hk.1 hk.2
theorem n2 {a : Nat} (h : a = 2) : a ≠ 0 := by omega
theorem va_S.putl {lo : Nat} {H0 H H1 : Heap} {locs : List Loc} {a k : Nat} (h : va_S (fun q => lo ≤ q) H0 H locs) (z : H1.size = H.size) (oq : ∀ q : Nat, q ≠ a → H1[q]? = H[q]?) (ha : lo ≤ a) : va_S (fun q => lo ≤ q) H0 H1 (locs ++ [⟨a, k⟩]) := h.put z oq ha
theorem fv_at {w w' : Wd} {ad : Nat → Nat} {k n j : Nat} (hA : wA w' k = wA w k) (hS : wS w' k j = wS w k j) : fv w' ad k n j = fv w ad k n j := by
  unfold fv
  rw [hA, hS]
theorem wS_same {w : Wd} {k j : Nat} {x : Int32} : wS (sI w k j x) k j = x := by rw [wS_sI, if_pos ⟨rfl, rfl⟩]
theorem wS_other {w : Wd} {k j j' : Nat} {x : Int32} (h : j' ≠ j) : wS (sI w k j x) k j' = wS w k j' := by rw [wS_sI, if_neg (fun z => h z.2)]
section XR
variable {p : Program} {l : Launch} {e : Env} {R : Room} {s : State} {m : MethodId} {args : Array Value} {below : List Frame} {meth : Method} {c : Code} {H : Heap} {locs : List Loc} {cells slots : Nat} {Q : State → Prop}
variable {cc : ByteArray} {pc nL : Nat} {ls : Array Slot} {rest : List Value} {D : va_G} {cT : Nat → ClassId} {lo nb : Nat} {w : Wd} {ad : Nat → Nat} {own : String} {index ci j k n : Nat} {ty : FieldType}
theorem x_at (hP : wP D cT lo nb w ad H) (hk : kt k = (ci + 10, 0)) (ha : wA w k ≠ 0) : va_P D vwCl [(ad k, .inr (ci, (List.range (fln ci)).map (fun j => fv w ad k ci j)))] H := by
  intro i q hq
  have hi : i < 1 := (List.getElem?_eq_some_iff.mp hq).1
  rw [show i = 0 by omega] at hq
  cases hq
  have := hP.1 k ha
  rw [cel_o hk] at this
  exact this
theorem x_get {v : Value} (F : Fx p s m args c cc own nL D cT lo) (hP : wP D cT lo nb w ad H) (hk : kt k = (ci + 10, 0)) (ha : wA w k ≠ 0) {fin : Bool} (fl : FL own index ci j ty fin) (hv : fv w ad k ci j = v) (hdg : decode cc pc = .ok (.getfield index, 3))
    (kk : W p l e R s m args below meth c H locs cells slots Q (F0 m (pc + 3) ls (v :: rest))) : W p l e R s m args below meth c H locs cells slots Q (F0 m pc ls (.ref (ad k) :: rest)) := by
  obtain ⟨hx, hb, hown, hts, hK, -⟩ := F
  obtain ⟨C, T, N, hc, hj, hl, hC, hfin, hty, hin, -⟩ := fl
  refine va_get (ci := ci) (C := C) (T := T) (N := N) (v := v) hx hb hts hin hown hK.1 (x_at hP hk ha) 0 rfl hc j hj (hts _ hl) (by rw [hC]; exact fun _ h => h) ?_ hdg kk
  rw [fln_eq hc]
  simp [hj, hv]
theorem x_geti (F : Fx p s m args c cc own nL D cT lo) (hP : wP D cT lo nb w ad H) (hk : kt k = (ci + 10, 0)) (ha : wA w k ≠ 0) {fin : Bool} (fl : FL own index ci j ty fin) (hf : ft ci j = 0) (hdg : decode cc pc = .ok (.getfield index, 3))
    (kk : W p l e R s m args below meth c H locs cells slots Q (F0 m (pc + 3) ls (.int (wS w k j) :: rest))) : W p l e R s m args below meth c H locs cells slots Q (F0 m pc ls (.ref (ad k) :: rest)) :=
  x_get F hP hk ha fl (by unfold fv; rw [hf]; rfl) hdg kk
theorem x_getr {k' : Nat} (F : Fx p s m args c cc own nL D cT lo) (hP : wP D cT lo nb w ad H) (hk : kt k = (ci + 10, 0)) (ha : wA w k = 2) {fin : Bool} (fl : FL own index ci j ty fin) (hf : ft ci j = 1) (hr : rt k j = k') (hdg : decode cc pc = .ok (.getfield index, 3))
    (kk : W p l e R s m args below meth c H locs cells slots Q (F0 m (pc + 3) ls (.ref (ad k') :: rest))) : W p l e R s m args below meth c H locs cells slots Q (F0 m pc ls (.ref (ad k) :: rest)) :=
  x_get F hP hk (n2 ha) fl (by unfold fv; rw [hf, if_pos rfl, if_pos (Or.inl ha), hr]) hdg kk
/-- the reference's target is made -/
theorem x_al {k' : Nat} (hP : wP D cT lo nb w ad H) (hk : kt k = (ci + 10, 0)) (ha : wA w k = 2) (hf : ft ci j = 1) (hr : rt k j = k') : wA w k' = 2 := by
  rw [← hr]
  exact hP.2.2.2.1 k j (n2 ha) (Or.inr ⟨by rw [hk]; show 10 ≤ ci + 10; omega, by rw [hk]; exact hf, Or.inl ha⟩)
/-- a reference that a constructor has set -/
theorem x_getrS {k' : Nat} (F : Fx p s m args c cc own nL D cT lo) (hP : wP D cT lo nb w ad H) (hk : kt k = (ci + 10, 0)) (ha : wA w k ≠ 0) {fin : Bool} (fl : FL own index ci j ty fin) (hf : ft ci j = 1) (hr : rt k j = k') (hz : ¬ wS w k j = 0) (hdg : decode cc pc = .ok (.getfield index, 3))
    (kk : wA w k' = 2 → W p l e R s m args below meth c H locs cells slots Q (F0 m (pc + 3) ls (.ref (ad k') :: rest))) : W p l e R s m args below meth c H locs cells slots Q (F0 m pc ls (.ref (ad k) :: rest)) :=
  x_get F hP hk ha fl (by unfold fv; rw [hf, if_pos rfl, if_pos (Or.inr hz), hr]) hdg (kk (by
    rw [← hr]
    exact hP.2.2.2.1 k j ha (Or.inr ⟨by rw [hk]; show 10 ≤ ci + 10; omega, by rw [hk]; exact hf, Or.inr hz⟩)))
/-- a reference that changes, not null -/
theorem x_getd (F : Fx p s m args c cc own nL D cT lo) (hP : wP D cT lo nb w ad H) (hk : kt k = (ci + 10, 0)) (ha : wA w k ≠ 0) {fin : Bool} (fl : FL own index ci j ty fin) (hf : ft ci j = 2) (hz : ¬ wS w k j = 0) (hdg : decode cc pc = .ok (.getfield index, 3))
    (kk : wA w (wS w k j).toNatClampNeg = 2 → kt (wS w k j).toNatClampNeg = dk j → W p l e R s m args below meth c H locs cells slots Q (F0 m (pc + 3) ls (.ref (ad (wS w k j).toNatClampNeg) :: rest))) : W p l e R s m args below meth c H locs cells slots Q (F0 m pc ls (.ref (ad k) :: rest)) := by
  have h9 := hP.2.2.2.2.1 k j ha (by rw [hk]; show 10 ≤ ci + 10; omega) (by rw [hk]; exact hf) hz
  exact x_get F hP hk ha fl (by unfold fv; rw [if_neg (by rw [hf]; decide), if_pos hf, if_neg hz]) hdg (kk h9.1 h9.2)
/-- a field is written: the cell behind it -/
theorem x_putV {v : Value} {x : Int32} (F : Fx p s m args c cc own nL D cT lo) (hP : wP D cT lo nb w ad H) (hS : va_S (fun q => lo ≤ q) s.heap H locs) (hk : kt k = (ci + 10, 0)) (ha : wA w k ≠ 0) (fl : FL own index ci j ty false) (hn : narrow ty v = v) (hfit : fits ty v = true)
    (hv : fv (sI w k j x) ad k ci j = v) (h4 : ∀ j', rsl (sI w k j x) k j' → rsl w k j' ∨ wA w (rt k j') = 2) (h5 : ∀ j', ft ci j' = 2 → wS (sI w k j x) k j' ≠ 0 → wS (sI w k j x) k j' = wS w k j' ∨ (wA w (wS (sI w k j x) k j').toNatClampNeg = 2 ∧ kt (wS (sI w k j x) k j').toNatClampNeg = dk j')) (hdg : decode cc pc = .ok (.putfield index, 3))
    (kk : ∀ (H : Heap) (locs : List Loc), wP D cT lo nb (sI w k j x) ad H → va_S (fun q => lo ≤ q) s.heap H locs → W p l e R s m args below meth c H locs cells slots Q (F0 m (pc + 3) ls rest)) : W p l e R s m args below meth c H locs cells slots Q (F0 m pc ls (v :: .ref (ad k) :: rest)) := by
  obtain ⟨hx, hb, hown, hts, hK, -⟩ := F
  obtain ⟨C, T, N, hc, hj, hl, hC, hfin, hty, hin, ⟨ty0, hty0⟩, hnm⟩ := fl
  have hap := va_apart (own := own) hts hin ty0 hty0 hnm hK.1 hc
  obtain ⟨r, h1, cell, q1, q2, q3, q4⟩ := x_at hP hk ha 0 _ rfl
  have hr : r = (C, T, N) := Option.some.inj (h1.symm.trans hc)
  subst hr
  obtain ⟨hSl, hfc, kC, hkC, hkind⟩ := hK.1.1 ci _ hc
  obtain ⟨cf, kf, fi, f, hi, hsl⟩ := hSl j hj
  have hlay := hts _ (hin _ (u_in_lay hj))
  unfold u_lay at hlay
  rw [if_neg (by rw [hfin]; decide)] at hlay
  have hst := (u_facts hfc hkC (u_lays hts hin hj) hi).1
  have h6 := u_store hfc hkC hkind hlay hi hty hn hfit
  refine W.putK hx hb (f := f) ⟨hown, hts _ hl, ⟨_, _, _, by rw [← hC]; exact hi⟩, hst⟩ (by rw [q2]; exact h6) q1 q3 (by rw [hsl]; exact k2_hasslot (q4 j hj)) rfl rfl hdg fun H' e1 e2 e3 => ?_
  rw [hsl] at e1 ⊢
  refine kk H' _ (hP.set1 (k := k) ha (fun _ => rfl) (fun q hq j' => wS_sI_ne hq j') (fun _ _ _ => rfl) ?_ e3 h4 (fun j' a b c => h5 j' (by rw [hk] at b; exact b) c)) (hS.putl e2 e3 (hP.2.2.1 k ha))
  rw [cel_o hk]
  refine ⟨_, hc, t_OB.to (V := updV (vp_V ((List.range (fln ci)).map (fun j => fv w ad k ci j))) j v) ⟨_, e1, q2, q3, t_set q4 hap hj v⟩ (fun i hi' => ?_)⟩
  have hlen : j < ((List.range (fln ci)).map (fun j => fv w ad k ci j)).length := by rw [fln_eq hc]; simpa using hj
  rw [vp_updV_set hlen]
  rw [list_set_map (g := fun j' => fv (sI w k j x) ad k ci j') hv]
  intro i' hne
  exact fv_at rfl (by rw [wS_sI, if_neg (fun z => hne z.2)])
/-- a final field, in a constructor -/
theorem x_putVF {v : Value} {x : Int32} (F : Fx p s m args c cc own nL D cT lo) (hP : wP D cT lo nb w ad H) (hS : va_S (fun q => lo ≤ q) s.heap H locs) (hk : kt k = (ci + 10, 0)) (ha : wA w k ≠ 0) (fl : FL own index ci j ty true) (hini : meth.name = "<init>") (hdecl : (vwCl[ci]?.map (·.1)) = some own) (hn : narrow ty v = v) (hfit : fits ty v = true)
    (hv : fv (sI w k j x) ad k ci j = v) (h4 : ∀ j', rsl (sI w k j x) k j' → rsl w k j' ∨ wA w (rt k j') = 2) (h5 : ∀ j', ft ci j' = 2 → wS (sI w k j x) k j' ≠ 0 → wS (sI w k j x) k j' = wS w k j' ∨ (wA w (wS (sI w k j x) k j').toNatClampNeg = 2 ∧ kt (wS (sI w k j x) k j').toNatClampNeg = dk j')) (hdg : decode cc pc = .ok (.putfield index, 3))
    (kk : ∀ (H : Heap) (locs : List Loc), wP D cT lo nb (sI w k j x) ad H → va_S (fun q => lo ≤ q) s.heap H locs → W p l e R s m args below meth c H locs cells slots Q (F0 m (pc + 3) ls rest)) : W p l e R s m args below meth c H locs cells slots Q (F0 m pc ls (v :: .ref (ad k) :: rest)) := by
  obtain ⟨hx, hb, hown, hts, hK, -⟩ := F
  obtain ⟨C, T, N, hc, hj, hl, hC, hfin, hty, hin, ⟨ty0, hty0⟩, hnm⟩ := fl
  have hap := va_apart (own := own) hts hin ty0 hty0 hnm hK.1 hc
  obtain ⟨r, h1, cell, q1, q2, q3, q4⟩ := x_at hP hk ha 0 _ rfl
  have hr : r = (C, T, N) := Option.some.inj (h1.symm.trans hc)
  subst hr
  obtain ⟨hSl, hfc, kC, hkC, hkind⟩ := hK.1.1 ci _ hc
  obtain ⟨cf, kf, fi, f, hi, hsl⟩ := hSl j hj
  have hlay := hts _ (hin _ (u_in_lay hj))
  unfold u_lay at hlay
  rw [if_pos hfin] at hlay
  have hst := (u_facts hfc hkC (u_lays hts hin hj) hi).1
  have hCo : C = own := by
    rw [hc] at hdecl
    exact Option.some.inj hdecl
  have hcf : m.cls = cf := by
    obtain ⟨_, _, c', _, _, _, -, -, hf', -, -, -, hown2, -⟩ := Cond.laysFinal_spec hlay
    have e1 : c' = cf := by have := hi.symm.trans hf'; simp at this; exact this.1.symm
    rw [hC, hCo] at hown2
    rw [← e1]; exact Option.some.inj (hown.symm.trans hown2)
  have h6 := u_fits hfc hkC hkind (Or.inr hlay) hi hty hn hfit
  refine W.putFinK hx hb hown (hts _ hl) (by rw [← hC]; exact hi) hst hcf hini (by rw [q2]; exact h6) q1 q3 (by rw [hsl]; exact k2_hasslot (q4 j hj)) rfl rfl hdg fun H' e1 e2 e3 => ?_
  rw [hsl] at e1 ⊢
  refine kk H' _ (hP.set1 (k := k) ha (fun _ => rfl) (fun q hq j' => wS_sI_ne hq j') (fun _ _ _ => rfl) ?_ e3 h4 (fun j' a b c => h5 j' (by rw [hk] at b; exact b) c)) (hS.putl e2 e3 (hP.2.2.1 k ha))
  rw [cel_o hk]
  refine ⟨_, hc, t_OB.to (V := updV (vp_V ((List.range (fln ci)).map (fun j => fv w ad k ci j))) j v) ⟨_, e1, q2, q3, t_set q4 hap hj v⟩ (fun i hi' => ?_)⟩
  have hlen : j < ((List.range (fln ci)).map (fun j => fv w ad k ci j)).length := by rw [fln_eq hc]; simpa using hj
  rw [vp_updV_set hlen]
  rw [list_set_map (g := fun j' => fv (sI w k j x) ad k ci j') hv]
  intro i' hne
  exact fv_at rfl (by rw [wS_sI, if_neg (fun z => hne z.2)])
theorem h4_keep {x : Int32} (hn : (kt k).1 < 4 ∨ (10 ≤ (kt k).1 ∧ ft ((kt k).1 - 10) j ≠ 1)) : ∀ j', rsl (sI w k j x) k j' → rsl w k j' ∨ wA w (rt k j') = 2 := fun j' h => Or.inl (sI_rsl hn j' h)
theorem h5_keep {x : Int32} (hf : ft ci j ≠ 2) : ∀ j', ft ci j' = 2 → wS (sI w k j x) k j' ≠ 0 → wS (sI w k j x) k j' = wS w k j' ∨ (wA w (wS (sI w k j x) k j').toNatClampNeg = 2 ∧ kt (wS (sI w k j x) k j').toNatClampNeg = dk j') := fun j' h _ => Or.inl (wS_other (fun z => hf (by rw [← z]; exact h)))
theorem x_puti {x : Int32} (F : Fx p s m args c cc own nL D cT lo) (hP : wP D cT lo nb w ad H) (hS : va_S (fun q => lo ≤ q) s.heap H locs) (hk : kt k = (ci + 10, 0)) (ha : wA w k ≠ 0) (fl : FL own index ci j .int false) (hf : ft ci j = 0) (hdg : decode cc pc = .ok (.putfield index, 3))
    (kk : ∀ (H : Heap) (locs : List Loc), wP D cT lo nb (sI w k j x) ad H → va_S (fun q => lo ≤ q) s.heap H locs → W p l e R s m args below meth c H locs cells slots Q (F0 m (pc + 3) ls rest)) : W p l e R s m args below meth c H locs cells slots Q (F0 m pc ls (.int x :: .ref (ad k) :: rest)) :=
  x_putV F hP hS hk ha fl rfl rfl (by unfold fv; rw [hf, wS_same]; rfl) (h4_keep (Or.inr ⟨by rw [hk]; show 10 ≤ ci + 10; omega, by rw [hk]; show ft ci j ≠ 1; rw [hf]; decide⟩)) (h5_keep (by rw [hf]; decide)) hdg kk
/-- a boolean field -/
theorem x_putz {x : Int32} (hx01 : x = 0 ∨ x = 1) (F : Fx p s m args c cc own nL D cT lo) (hP : wP D cT lo nb w ad H) (hS : va_S (fun q => lo ≤ q) s.heap H locs) (hk : kt k = (ci + 10, 0)) (ha : wA w k ≠ 0) (fl : FL own index ci j .boolean false) (hf : ft ci j = 0) (hdg : decode cc pc = .ok (.putfield index, 3))
    (kk : ∀ (H : Heap) (locs : List Loc), wP D cT lo nb (sI w k j x) ad H → va_S (fun q => lo ≤ q) s.heap H locs → W p l e R s m args below meth c H locs cells slots Q (F0 m (pc + 3) ls rest)) : W p l e R s m args below meth c H locs cells slots Q (F0 m pc ls (.int x :: .ref (ad k) :: rest)) :=
  x_putV F hP hS hk ha fl (by rcases hx01 with rfl | rfl <;> rfl) (by rcases hx01 with rfl | rfl <;> rfl) (by unfold fv; rw [hf, wS_same]; rfl) (h4_keep (Or.inr ⟨by rw [hk]; show 10 ≤ ci + 10; omega, by rw [hk]; show ft ci j ≠ 1; rw [hf]; decide⟩)) (h5_keep (by rw [hf]; decide)) hdg kk
theorem x_putFi {x : Int32} (F : Fx p s m args c cc own nL D cT lo) (hP : wP D cT lo nb w ad H) (hS : va_S (fun q => lo ≤ q) s.heap H locs) (hk : kt k = (ci + 10, 0)) (ha : wA w k ≠ 0) (fl : FL own index ci j .int true) (hini : meth.name = "<init>") (hdecl : (vwCl[ci]?.map (·.1)) = some own) (hf : ft ci j = 0) (hdg : decode cc pc = .ok (.putfield index, 3))
    (kk : ∀ (H : Heap) (locs : List Loc), wP D cT lo nb (sI w k j x) ad H → va_S (fun q => lo ≤ q) s.heap H locs → W p l e R s m args below meth c H locs cells slots Q (F0 m (pc + 3) ls rest)) : W p l e R s m args below meth c H locs cells slots Q (F0 m pc ls (.int x :: .ref (ad k) :: rest)) :=
  x_putVF F hP hS hk ha fl hini hdecl rfl rfl (by unfold fv; rw [hf, wS_same]; rfl) (h4_keep (Or.inr ⟨by rw [hk]; show 10 ≤ ci + 10; omega, by rw [hk]; show ft ci j ≠ 1; rw [hf]; decide⟩)) (h5_keep (by rw [hf]; decide)) hdg kk
/-- a final reference, in a constructor -/
theorem x_putFr {k' : Nat} (F : Fx p s m args c cc own nL D cT lo) (hP : wP D cT lo nb w ad H) (hS : va_S (fun q => lo ≤ q) s.heap H locs) (hk : kt k = (ci + 10, 0)) (ha : wA w k ≠ 0) (fl : FL own index ci j ty true) (hini : meth.name = "<init>") (hdecl : (vwCl[ci]?.map (·.1)) = some own) (hf : ft ci j = 1) (hr : rt k j = k') (ha' : wA w k' = 2) (hty : narrow ty (.ref (ad k')) = .ref (ad k') ∧ fits ty (.ref (ad k')) = true) (hdg : decode cc pc = .ok (.putfield index, 3))
    (kk : ∀ (H : Heap) (locs : List Loc), wP D cT lo nb (sI w k j 1) ad H → va_S (fun q => lo ≤ q) s.heap H locs → W p l e R s m args below meth c H locs cells slots Q (F0 m (pc + 3) ls rest)) : W p l e R s m args below meth c H locs cells slots Q (F0 m pc ls (.ref (ad k') :: .ref (ad k) :: rest)) :=
  x_putVF (x := 1) F hP hS hk ha fl hini hdecl hty.1 hty.2 (by unfold fv; rw [hf, wS_same, if_pos rfl, if_pos (Or.inr (by decide)), hr]) (fun j' h => by
    by_cases e : j' = j
    · subst e
      exact Or.inr (by rw [hr]; exact ha')
    · refine Or.inl ?_
      rcases h with ⟨h1, h2, h3, h4⟩ | ⟨h1, h2, h3⟩
      · rw [hk] at h2
        exact absurd h2 (by show ¬ ci + 10 < 10; omega)
      · exact Or.inr ⟨h1, h2, by rw [← wS_other (x := 1) e]; exact h3⟩) (h5_keep (by rw [hf]; decide)) hdg kk
/-- a reference that changes -/
theorem x_putd {k' : Nat} (F : Fx p s m args c cc own nL D cT lo) (hP : wP D cT lo nb w ad H) (hS : va_S (fun q => lo ≤ q) s.heap H locs) (hk : kt k = (ci + 10, 0)) (ha : wA w k ≠ 0) (fl : FL own index ci j ty false) (hf : ft ci j = 2) (h0 : 0 < k') (hb : k' < 100000) (ha' : wA w k' = 2) (hk' : kt k' = dk j) (hty : narrow ty (.ref (ad k')) = .ref (ad k') ∧ fits ty (.ref (ad k')) = true) (hdg : decode cc pc = .ok (.putfield index, 3))
    (kk : ∀ (H : Heap) (locs : List Loc), wP D cT lo nb (sI w k j (nI k')) ad H → va_S (fun q => lo ≤ q) s.heap H locs → W p l e R s m args below meth c H locs cells slots Q (F0 m (pc + 3) ls rest)) : W p l e R s m args below meth c H locs cells slots Q (F0 m pc ls (.ref (ad k') :: .ref (ad k) :: rest)) := by
  have hz : ¬ nI k' = 0 := nI_ne0 h0 (by omega)
  have hcl : (nI k').toNatClampNeg = k' := nI_clamp (by omega)
  refine x_putV (x := nI k') F hP hS hk ha fl hty.1 hty.2 (by unfold fv; rw [hf, wS_same, if_neg (by decide), if_pos rfl, if_neg hz, hcl]) (h4_keep (Or.inr ⟨by rw [hk]; show 10 ≤ ci + 10; omega, by rw [hk]; show ft ci j ≠ 1; rw [hf]; decide⟩)) (fun j' h1 h2 => ?_) hdg kk
  by_cases e : j' = j
  · subst e
    rw [wS_same, hcl]
    exact Or.inr ⟨ha', hk'⟩
  · exact Or.inl (wS_other e)
end XR
