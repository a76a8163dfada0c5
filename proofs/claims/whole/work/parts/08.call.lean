/-! ===== calls and ends ===== -/
theorem tw_goodT {y : Cond} (hy : y ∈ TW) : GoodIn TW (y :: TW) := fun c hc => by
  rcases List.mem_cons.mp hc with h | h
  · subst h
    exact ⟨hy, good_of_word (List.mem_filter.mp hy).2⟩
  · exact ⟨h, good_of_word (List.mem_filter.mp h).2⟩
theorem wK.to {D : va_G} {cT : Nat → ClassId} {lo : Nat} {s U : State} {H : Heap} {locs : List Loc} (h : wK D cT lo s) (hW : s.WarmedH U.vm) (hU : U.heap = H) (hS : va_S (fun q => lo ≤ q) s.heap H locs) : wK D cT lo U := by
  obtain ⟨h1, ⟨h2, h5, h6⟩, t, h3, h4⟩ := h
  refine ⟨va_K.moved hW.alike h1, ⟨fun q hq => va_Nw.warmM hW (h2 q hq), fun C hC => (h5 C hC).moved hW.alike, h6.moved hW.alike⟩, t, ?_, ?_⟩
  · rw [hU]
    exact (va_Z.moved hW.alike h3).kept fun a h1 h2 => hS.2.1 a h1 h2
  · rw [hU]
    exact (va_T.moved hW.alike h4).kept fun a h1 h2 => hS.2.1 a h1 h2
theorem wU.calling {D : va_G} {cT : Nat → ClassId} {lo nb : Nat} {w : Wd} {ad : Nat → Nat} {U : State} {g : JFrame} {mk : MethodId} {a : Array Value} (h : wU D cT lo nb w ad U) : wU D cT lo nb w ad (U.calling g mk a) := by
  obtain ⟨h1, ⟨h2, ⟨h3, h7, h8⟩, t, h4, h5⟩, h6⟩ := h
  exact ⟨h1, ⟨va_K.moved (u := U) (U := U.calling g mk a) (Vm.Alike.refl U.vm) h2, ⟨fun q hq => va_tabs rfl (rfl : U.vm = (U.calling g mk a).vm) (h3 q hq), fun C hC => va_AO.moved (u := U) (U := U.calling g mk a) (Vm.Alike.refl U.vm) (h7 C hC), wAOA.moved (u := U) (U := U.calling g mk a) (Vm.Alike.refl U.vm) h8⟩, t, va_Z.moved (u := U) (U := U.calling g mk a) (Vm.Alike.refl U.vm) h4, va_T.moved (u := U) (U := U.calling g mk a) (Vm.Alike.refl U.vm) h5⟩, h6⟩
theorem mPc.blind {D : va_G} {cT : Nat → ClassId} {lo nb : Nat} {w : Wd} {ad : Nat → Nat} {av : List Value} : FrameBlind (mPc D cT lo nb w ad av) := fun a U g mk h => ⟨h.1, h.2.calling⟩
theorem mono.refl {w : Wd} : mono w w := ⟨fun _ h => h, fun _ h => h⟩
theorem mono.trans {a b c : Wd} (h1 : mono a b) (h2 : mono b c) : mono a c := ⟨fun k h => h2.1 k (h1.1 k h), fun k h => h2.2 k (h1.2 k h)⟩
/-- boolean answers are 0 or 1 -/
def mQz (D : va_G) (cT : Nat → ClassId) (lo nb : Nat) (w w' : Wd) (ad : Nat → Nat) (v : Int32) : Array Value → State → Outcome → State → Prop := fun a st o t => mQ D cT lo nb w w' ad (some (.int v)) a st o t ∧ narrow .boolean (.int v) = .int v
def CW (y : MethodName) (bytes : ByteArray) (maxL : Nat) (ret : Option FieldType) (n : Nat) : Prop := Cond.code y bytes maxL ret ∈ TW ∧ Cond.initialized y.cls ∈ TW ∧ y.cls ≠ "java/lang/invoke/MethodHandle" ∧ y.cls ≠ "java/lang/invoke/VarHandle" ∧ (parseMethodDescriptor y.desc).map (fun d => d.parameters.length) = some n
section XC
variable {p : Program} {l : Launch} {e : Env} {R : Room} {s : State} {m : MethodId} {args : Array Value} {below : List Frame} {meth : Method} {c : Code} {H : Heap} {locs : List Loc} {cells slots : Nat} {Q : State → Prop}
variable {cc : ByteArray} {pc nL : Nat} {ls : Array Slot} {rest st : List Value} {D : va_G} {cT : Nat → ClassId} {lo nb : Nat} {w w' : Wd} {ad : Nat → Nat} {own : String} {index ci j k n : Nat} {ty : FieldType}
variable {y : MethodName} {bytes : ByteArray} {maxL mc ms : Nat} {ret : Option FieldType} {rm : Room} {As : List Value} {ov : Option Value}
theorem x_callB (F : Fx p s m args c cc own nL D cT lo) (cw : CW y bytes maxL ret n) (lk : Cond.methodLink own index y ∈ TW) (hr : rm.cells = mc ∧ rm.slots = ms ∧ rm.frames + 1 ≤ R.frames ∧ 8 + (maxL + 11) + rm.locals ≤ R.locals) : CallB R s args own index y bytes maxL ret (.code y bytes maxL ret :: TW) rm mc ms n :=
  callB_of n F.2.2.2.1 (tw_goodT cw.1) rfl hr.1 hr.2.1 (F.2.2.2.1 _ cw.2.1) (F.2.2.2.1 _ lk) ⟨cw.2.2.1, cw.2.2.2.1, cw.2.2.2.2⟩ hr.2.2
theorem x_callN {host : String} (F : Fx p s m args c cc own nL D cT lo) (cw : CW y bytes maxL ret n) (lk : (own, index, y, host) ∈ nestL) (hr : rm.cells = mc ∧ rm.slots = ms ∧ rm.frames + 1 ≤ R.frames ∧ 8 + (maxL + 11) + rm.locals ≤ R.locals) : va_CN R s args own index y host bytes maxL ret (.code y bytes maxL ret :: TW) rm mc ms n :=
  va_cnB n F.2.2.2.1 (tw_goodT cw.1) rfl hr.1 hr.2.1 (F.2.2.2.2.1.2.1.1 _ lk) (F.2.2.2.1 _ cw.2.1) ⟨cw.2.2.1, cw.2.2.2.1, cw.2.2.2.2⟩ hr.2.2
theorem x_pre (F : Fx p s m args c cc own nL D cT lo) (hP : wP D cT lo nb w ad H) (hS : va_S (fun q => lo ≤ q) s.heap H locs) (av : List Value) : PreS s H (mPc D cT lo nb w ad av) av :=
  ⟨mPc.blind, fun U hU hW => ⟨rfl, by rw [hU]; exact hP, F.2.2.2.2.1.to hW hU hS, by rw [hU]; exact Nat.le_trans F.2.2.2.2.2.1 hS.1⟩⟩
theorem x_recv {C : String} (F : Fx p s m args c cc own nL D cT lo) (hP : wP D cT lo nb w ad H) (hk : kt k = (ci + 10, 0)) (ha : wA w k ≠ 0) (hc : (vwCl[ci]?).map (·.1) = some C) : ∃ cell : Cell, H[ad k]? = some cell ∧ cell.vm.isStatics = false ∧ s.vm.findClass C = some cell.cls := by
  cases h : vwCl[ci]? with
  | none => rw [h] at hc; cases hc
  | some q =>
    rw [h] at hc
    cases hc
    exact va_recv F.2.2.2.2.1.1 (x_at hP hk ha) (q0 := 0) h rfl
/-- behind a call -/
theorem x_goes {a : Array Value} (hr : va_Run p l e R s m args below meth c H locs cells slots 0 0 (F0 m pc ls st) rest (mQ D cT lo nb w w' ad ov a) (fun q => lo ≤ q)) (hS : va_S (fun q => lo ≤ q) s.heap H locs)
    (kk : ∀ (H : Heap) (locs : List Loc), wP D cT lo nb w' ad H → va_S (fun q => lo ≤ q) s.heap H locs → mono w w' → W p l e R s m args below meth c H locs cells slots Q (F0 m (pc + 3) ls (ov.toList ++ rest))) : W p l e R s m args below meth c H locs cells slots Q (F0 m pc ls st) := by
  intro T hT X
  obtain ⟨v, st₀, t, T', L, h0, X', hL, e1, e2, ⟨hv, hu, hm, hz, hk⟩, stp⟩ := hr T hT X
  cases hv
  rw [h0] at hz hk
  obtain ⟨t2, a1, b1⟩ := kk T'.heap (locs ++ L) (by rw [e1]; exact hu.1) ⟨Nat.le_trans hS.1 (by rw [e1]; exact hz), fun q h1 h2 => by rw [e1, hk q (Nat.lt_of_lt_of_le h1 hS.1) h2]; exact hS.2.1 q h1 h2, fun q hq => by
      rcases List.mem_append.mp hq with h | h
      · exact hS.2.2 q h
      · exact hL q h⟩ hm T' rfl X'
  exact ⟨t2, stp t2 a1, b1⟩
theorem x_goesZ {a : Array Value} {v : Int32} (hr : va_Run p l e R s m args below meth c H locs cells slots 0 0 (F0 m pc ls st) rest (mQz D cT lo nb w w' ad v a) (fun q => lo ≤ q)) (hS : va_S (fun q => lo ≤ q) s.heap H locs)
    (kk : ∀ (H : Heap) (locs : List Loc), narrow .boolean (.int v) = .int v → wP D cT lo nb w' ad H → va_S (fun q => lo ≤ q) s.heap H locs → mono w w' → W p l e R s m args below meth c H locs cells slots Q (F0 m (pc + 3) ls (.int v :: rest))) : W p l e R s m args below meth c H locs cells slots Q (F0 m pc ls st) := by
  intro T hT X
  obtain ⟨v', st₀, t, T', L, h0, X', hL, e1, e2, ⟨⟨hv, hu, hm, hz, hk⟩, hn⟩, stp⟩ := hr T hT X
  cases hv
  rw [h0] at hz hk
  obtain ⟨t2, a1, b1⟩ := kk T'.heap (locs ++ L) hn (by rw [e1]; exact hu.1) ⟨Nat.le_trans hS.1 (by rw [e1]; exact hz), fun q h1 h2 => by rw [e1, hk q (Nat.lt_of_lt_of_le h1 hS.1) h2]; exact hS.2.1 q h1 h2, fun q hq => by
      rcases List.mem_append.mp hq with h | h
      · exact hS.2.2 q h
      · exact hL q h⟩ hm T' rfl X'
  exact ⟨t2, stp t2 a1, b1⟩
/-- behind a call that makes objects -/
theorem x_goesA {a : Array Value} (hr : va_Run p l e R s m args below meth c H locs cells slots mc ms (F0 m pc ls st) rest (mQA D cT lo nb w w' ad ov a) (fun q => lo ≤ q)) (hS : va_S (fun q => lo ≤ q) s.heap H locs)
    (kk : ∀ (ad' : Nat → Nat) (H : Heap) (locs : List Loc), (∀ k, wA w k ≠ 0 → ad' k = ad k) → wP D cT lo nb w' ad' H → va_S (fun q => lo ≤ q) s.heap H locs → mono w w' → W p l e R s m args below meth c H locs (cells + mc) (slots + ms) Q (F0 m (pc + 3) ls (ov.toList ++ rest))) : W p l e R s m args below meth c H locs cells slots Q (F0 m pc ls st) := by
  intro T hT X
  obtain ⟨v, st₀, t, T', L, h0, X', hL, e1, e2, ⟨hv, ⟨ad', hx, hu⟩, hm, hz, hk⟩, stp⟩ := hr T hT X
  cases hv
  rw [h0] at hz hk
  obtain ⟨t2, a1, b1⟩ := kk ad' T'.heap (locs ++ L) hx (by rw [e1]; exact hu.1) ⟨Nat.le_trans hS.1 (by rw [e1]; exact hz), fun q h1 h2 => by rw [e1, hk q (Nat.lt_of_lt_of_le h1 hS.1) h2]; exact hS.2.1 q h1 h2, fun q hq => by
      rcases List.mem_append.mp hq with h | h
      · exact hS.2.2 q h
      · exact hL q h⟩ hm T' rfl X'
  exact ⟨t2, stp t2 a1, b1⟩
/-- the four runs: static, static of the nest, virtual, constructor -/
theorem x_runS {Qc : Array Value → State → Outcome → State → Prop} (F : Fx p s m args c cc own nL D cT lo) (hP : wP D cT lo nb w ad H) (hS : va_S (fun q => lo ≤ q) s.heap H locs) (hM : Met l y (.code y bytes maxL ret :: TW) rm (mPc D cT lo nb w ad As) Qc mc ms (fun q => lo ≤ q)) (cw : CW y bytes maxL ret As.length) (lk : Cond.methodLink own index y ∈ TW) (hi : Cond.static y ∈ TW)
    (hr : rm.cells = mc ∧ rm.slots = ms ∧ rm.frames + 1 ≤ R.frames ∧ 8 + (maxL + 11) + rm.locals ≤ R.locals) (hsz : ls.size = nL) (hst : st = As.reverse ++ rest) (hro : (rest.map fun v => v.category).sum ≤ 8) (hdg : decode cc pc = .ok (.invokestatic index, 3)) (hcs : cells + mc ≤ R.cells ∧ slots + ms ≤ R.slots) : va_Run p l e R s m args below meth c H locs cells slots mc ms (F0 m pc ls st) rest (Qc As.toArray) (fun q => lo ≤ q) :=
  va_runS (g := F0 m pc ls st) (As := As) ⟨F.1, F.2.1, F.2.2.2.2.2.2, F.2.2.1, F.2.2.2.1⟩ hM ⟨x_callB F cw lk hr, F.2.2.2.1 _ hi⟩ (x_pre F hP hS As) rfl rfl hsz hst (lv_room hro) hdg hcs
theorem x_runSN {host : String} {Qc : Array Value → State → Outcome → State → Prop} (F : Fx p s m args c cc own nL D cT lo) (hP : wP D cT lo nb w ad H) (hS : va_S (fun q => lo ≤ q) s.heap H locs) (hM : Met l y (.code y bytes maxL ret :: TW) rm (mPc D cT lo nb w ad As) Qc mc ms (fun q => lo ≤ q)) (cw : CW y bytes maxL ret As.length) (lk : (own, index, y, host) ∈ nestL) (hi : Cond.static y ∈ TW)
    (hr : rm.cells = mc ∧ rm.slots = ms ∧ rm.frames + 1 ≤ R.frames ∧ 8 + (maxL + 11) + rm.locals ≤ R.locals) (hsz : ls.size = nL) (hst : st = As.reverse ++ rest) (hro : (rest.map fun v => v.category).sum ≤ 8) (hdg : decode cc pc = .ok (.invokestatic index, 3)) (hcs : cells + mc ≤ R.cells ∧ slots + ms ≤ R.slots) : va_Run p l e R s m args below meth c H locs cells slots mc ms (F0 m pc ls st) rest (Qc As.toArray) (fun q => lo ≤ q) :=
  va_runSN (g := F0 m pc ls st) (As := As) ⟨F.1, F.2.1, F.2.2.2.2.2.2, F.2.2.1, F.2.2.2.1⟩ hM ⟨x_callN F cw lk hr, F.2.2.2.1 _ hi, trivial⟩ (x_pre F hP hS As) rfl rfl hsz hst (lv_room hro) hdg hcs
theorem x_runV {Qc : Array Value → State → Outcome → State → Prop} (F : Fx p s m args c cc own nL D cT lo) (hP : wP D cT lo nb w ad H) (hS : va_S (fun q => lo ≤ q) s.heap H locs) (hM : Met l y (.code y bytes maxL ret :: TW) rm (mPc D cT lo nb w ad (.ref (ad k) :: As)) Qc mc ms (fun q => lo ≤ q)) (cw : CW y bytes maxL ret As.length) (lk : Cond.methodLink own index y ∈ TW) (hi : Cond.instanceMethod y ∈ TW ∧ Cond.selects y.cls y y ∈ TW) (hk : kt k = (ci + 10, 0)) (ha : wA w k ≠ 0) (hc : (vwCl[ci]?).map (·.1) = some y.cls)
    (hr : rm.cells = mc ∧ rm.slots = ms ∧ rm.frames + 1 ≤ R.frames ∧ 8 + (maxL + 11) + rm.locals ≤ R.locals) (hsz : ls.size = nL) (hst : st = As.reverse ++ .ref (ad k) :: rest) (hro : (rest.map fun v => v.category).sum ≤ 8) (hdg : decode cc pc = .ok (.invokevirtual index, 3)) (hcs : cells + mc ≤ R.cells ∧ slots + ms ≤ R.slots) : va_Run p l e R s m args below meth c H locs cells slots mc ms (F0 m pc ls st) rest (Qc (Value.ref (ad k) :: As).toArray) (fun q => lo ≤ q) :=
  va_runV (g := F0 m pc ls st) (As := As) ⟨F.1, F.2.1, F.2.2.2.2.2.2, F.2.2.1, F.2.2.2.1⟩ hM ⟨x_callB F cw lk hr, F.2.2.2.1 _ hi.1, F.2.2.2.1 _ hi.2⟩ ⟨(x_pre F hP hS (.ref (ad k) :: As)).1, x_recv F hP hk ha hc, (x_pre F hP hS (.ref (ad k) :: As)).2⟩ rfl rfl hsz hst (lv_room hro) hdg hcs
theorem x_runI {Qc : Array Value → State → Outcome → State → Prop} (F : Fx p s m args c cc own nL D cT lo) (hP : wP D cT lo nb w ad H) (hS : va_S (fun q => lo ≤ q) s.heap H locs) (hM : Met l y (.code y bytes maxL none :: TW) rm (mPc D cT lo nb w ad (.ref (ad k) :: As)) Qc mc ms (fun q => lo ≤ q)) (cw : CW y bytes maxL none As.length) (lk : Cond.methodLink own index y ∈ TW) (hn : y.name = "<init>") (hi : Cond.instanceMethod y ∈ TW)
    (hr : rm.cells = mc ∧ rm.slots = ms ∧ rm.frames + 1 ≤ R.frames ∧ 8 + (maxL + 11) + rm.locals ≤ R.locals) (hsz : ls.size = nL) (hst : st = As.reverse ++ .ref (ad k) :: rest) (hro : (rest.map fun v => v.category).sum ≤ 8) (hdg : decode cc pc = .ok (.invokespecial index, 3)) (hcs : cells + mc ≤ R.cells ∧ slots + ms ≤ R.slots) : va_Run p l e R s m args below meth c H locs cells slots mc ms (F0 m pc ls st) rest (Qc (Value.ref (ad k) :: As).toArray) (fun q => lo ≤ q) :=
  va_runI (g := F0 m pc ls st) (As := As) ⟨F.1, F.2.1, F.2.2.2.2.2.2, F.2.2.1, F.2.2.2.1⟩ hM ⟨x_callB F cw lk hr, hn, F.2.2.2.1 _ hi⟩ (x_pre F hP hS (.ref (ad k) :: As)) rfl rfl hsz hst (lv_room hro) hdg hcs
theorem x_runIN {host : String} {Qc : Array Value → State → Outcome → State → Prop} (F : Fx p s m args c cc own nL D cT lo) (hP : wP D cT lo nb w ad H) (hS : va_S (fun q => lo ≤ q) s.heap H locs) (hM : Met l y (.code y bytes maxL none :: TW) rm (mPc D cT lo nb w ad (.ref (ad k) :: As)) Qc mc ms (fun q => lo ≤ q)) (cw : CW y bytes maxL none As.length) (lk : (own, index, y, host) ∈ nestL) (hn : y.name = "<init>") (hi : Cond.instanceMethod y ∈ TW)
    (hr : rm.cells = mc ∧ rm.slots = ms ∧ rm.frames + 1 ≤ R.frames ∧ 8 + (maxL + 11) + rm.locals ≤ R.locals) (hsz : ls.size = nL) (hst : st = As.reverse ++ .ref (ad k) :: rest) (hro : (rest.map fun v => v.category).sum ≤ 8) (hdg : decode cc pc = .ok (.invokespecial index, 3)) (hcs : cells + mc ≤ R.cells ∧ slots + ms ≤ R.slots) : va_Run p l e R s m args below meth c H locs cells slots mc ms (F0 m pc ls st) rest (Qc (Value.ref (ad k) :: As).toArray) (fun q => lo ≤ q) :=
  va_runIN (g := F0 m pc ls st) (As := As) ⟨F.1, F.2.1, F.2.2.2.2.2.2, F.2.2.1, F.2.2.2.1⟩ hM ⟨x_callN F cw lk hr, hn, F.2.2.2.1 _ hi⟩ (x_pre F hP hS (.ref (ad k) :: As)) rfl rfl hsz hst (lv_room hro) hdg hcs
theorem x_end (F : Fx p s m args c cc own nL D cT lo) (hP : wP D cT lo nb w' ad H) (hS : va_S (fun q => lo ≤ q) s.heap H locs) (hM : mono w w') {a : Array Value} {t : State} (ht : t.heap = H) (hW : s.WarmedH t.vm) : mQ D cT lo nb w w' ad ov a s (.returned ov) t :=
  ⟨rfl, ⟨by rw [ht]; exact hP, F.2.2.2.2.1.to hW ht hS, by rw [ht]; exact Nat.le_trans F.2.2.2.2.2.1 hS.1⟩, hM, hS.F ht⟩
theorem x_iret {v : Int32} (F : Fx p s m args c cc own nL D cT lo) (hr : meth.sig.returnType = some .int) (hP : wP D cT lo nb w' ad H) (hS : va_S (fun q => lo ≤ q) s.heap H locs) (hM : mono w w') (hlocks : meth.locks = false) (hdg : decode cc pc = .ok (.ireturn, 1)) : W p l e R s m args below meth c H locs cells slots (MQ below (mQ D cT lo nb w w' ad (some (.int v))) args s cells slots (fun q => lo ≤ q)) (F0 m pc ls [.int v]) :=
  W.iret F.1 F.2.1 hr (fun t ht hW => x_end F hP hS hM ht hW) hS.2.2 hdg hlocks
theorem x_zret {v : Int32} (F : Fx p s m args c cc own nL D cT lo) (hr : meth.sig.returnType = some .boolean) (hP : wP D cT lo nb w' ad H) (hS : va_S (fun q => lo ≤ q) s.heap H locs) (hM : mono w w') (hlocks : meth.locks = false) (hz : narrow .boolean (.int v) = .int v) (hdg : decode cc pc = .ok (.ireturn, 1)) : W p l e R s m args below meth c H locs cells slots (MQ below (mQz D cT lo nb w w' ad v) args s cells slots (fun q => lo ≤ q)) (F0 m pc ls [.int v]) :=
  W.zret F.1 F.2.1 hr hz (fun t ht hW => ⟨x_end F hP hS hM ht hW, hz⟩) hS.2.2 hdg hlocks
theorem x_vret (F : Fx p s m args c cc own nL D cT lo) (hr : meth.sig.returnType = none) (hP : wP D cT lo nb w' ad H) (hS : va_S (fun q => lo ≤ q) s.heap H locs) (hM : mono w w') (hlocks : meth.locks = false) (hdg : decode cc pc = .ok (.return_, 1)) : W p l e R s m args below meth c H locs cells slots (MQ below (mQ D cT lo nb w w' ad none) args s cells slots (fun q => lo ≤ q)) (F0 m pc ls []) :=
  W.vret F.1 F.2.1 hr (fun t ht hW => x_end F hP hS hM ht hW) hS.2.2 hdg hlocks
theorem x_lret {v : Int64} (F : Fx p s m args c cc own nL D cT lo) (hr : meth.sig.returnType = some .long) (hP : wP D cT lo nb w' ad H) (hS : va_S (fun q => lo ≤ q) s.heap H locs) (hM : mono w w') (hlocks : meth.locks = false) (hdg : decode cc pc = .ok (.lreturn, 1)) : W p l e R s m args below meth c H locs cells slots (MQ below (mQ D cT lo nb w w' ad (some (.long v))) args s cells slots (fun q => lo ≤ q)) (F0 m pc ls [.long v]) :=
  W.lret F.1 F.2.1 hr (fun t ht hW => x_end F hP hS hM ht hW) hS.2.2 hdg hlocks
theorem x_aret {v : Value} {rt : FieldType} (F : Fx p s m args c cc own nL D cT lo) (hr : meth.sig.returnType = some rt) (hrt : (∃ n, rt = .object n) ∨ ∃ t, rt = .array t) (hv : v = .null ∨ ∃ a, v = .ref a) (hP : wP D cT lo nb w' ad H) (hS : va_S (fun q => lo ≤ q) s.heap H locs) (hM : mono w w') (hlocks : meth.locks = false) (hdg : decode cc pc = .ok (.areturn, 1)) : W p l e R s m args below meth c H locs cells slots (MQ below (mQ D cT lo nb w w' ad (some v)) args s cells slots (fun q => lo ≤ q)) (F0 m pc ls [v]) :=
  W.aret F.1 F.2.1 hr hrt hv (fun t ht hW => x_end F hP hS hM ht hW) hS.2.2 hdg hlocks
/-- an end of a method that makes objects: ad0 at its start, ad behind it -/
theorem x_endA {ad0 : Nat → Nat} (F : Fx p s m args c cc own nL D cT lo) (hx : ∀ k, wA w k ≠ 0 → ad k = ad0 k) (hP : wP D cT lo nb w' ad H) (hS : va_S (fun q => lo ≤ q) s.heap H locs) (hM : mono w w') {a : Array Value} {t : State} (ht : t.heap = H) (hW : s.WarmedH t.vm) : mQA D cT lo nb w w' ad0 ov a s (.returned ov) t :=
  ⟨rfl, ⟨ad, hx, by rw [ht]; exact hP, F.2.2.2.2.1.to hW ht hS, by rw [ht]; exact Nat.le_trans F.2.2.2.2.2.1 hS.1⟩, hM, hS.F ht⟩
theorem x_iretA {ad0 : Nat → Nat} {v : Int32} (F : Fx p s m args c cc own nL D cT lo) (hx : ∀ k, wA w k ≠ 0 → ad k = ad0 k) (hr : meth.sig.returnType = some .int) (hP : wP D cT lo nb w' ad H) (hS : va_S (fun q => lo ≤ q) s.heap H locs) (hM : mono w w') (hlocks : meth.locks = false) (hdg : decode cc pc = .ok (.ireturn, 1)) : W p l e R s m args below meth c H locs cells slots (MQ below (mQA D cT lo nb w w' ad0 (some (.int v))) args s cells slots (fun q => lo ≤ q)) (F0 m pc ls [.int v]) :=
  W.iret F.1 F.2.1 hr (fun t ht hW => x_endA F hx hP hS hM ht hW) hS.2.2 hdg hlocks
theorem x_vretA {ad0 : Nat → Nat} (F : Fx p s m args c cc own nL D cT lo) (hx : ∀ k, wA w k ≠ 0 → ad k = ad0 k) (hr : meth.sig.returnType = none) (hP : wP D cT lo nb w' ad H) (hS : va_S (fun q => lo ≤ q) s.heap H locs) (hM : mono w w') (hlocks : meth.locks = false) (hdg : decode cc pc = .ok (.return_, 1)) : W p l e R s m args below meth c H locs cells slots (MQ below (mQA D cT lo nb w w' ad0 none) args s cells slots (fun q => lo ≤ q)) (F0 m pc ls []) :=
  W.vret F.1 F.2.1 hr (fun t ht hW => x_endA F hx hP hS hM ht hW) hS.2.2 hdg hlocks
end XC
