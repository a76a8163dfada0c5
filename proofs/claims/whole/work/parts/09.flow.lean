/-! ===== the words of the functions that the bytecode is told as, and the rows that follow them ===== -/
def FU : Nat := 1000000
def q_lt {α β : Type} (e : α) (K : α → β) : β := K e
def q_jn {α : Type} {β : Type} (B : α) (K : α → β) : β := K B
def q_gt {β : Type} (w : Wd) (k j : Nat) (K : Int32 → β) : β := K (wS w k j)
def q_ld {β : Type} (w : Wd) (k n : Nat) (i : Int32) (K : Int32 → Option β) : Option β := if i < 0 ∨ n ≤ i.toNatClampNeg then none else K (wS w k i.toNatClampNeg)
def q_ldl {β : Type} (w : Wd) (k n : Nat) (i : Int32) (K : Int64 → Option β) : Option β := if i < 0 ∨ n ≤ i.toNatClampNeg then none else K (wL w k i.toNatClampNeg)
def q_ldq {β : Type} (w : Wd) (k n : Nat) (i : Int32) (K : Nat → Option β) : Option β := if i < 0 ∨ n ≤ i.toNatClampNeg then none else if wS w k i.toNatClampNeg = 0 then none else K (rt k i.toNatClampNeg)
def q_gd {β : Type} (w : Wd) (k j : Nat) (K : Nat → Option β) : Option β := if wS w k j = 0 then none else K (wS w k j).toNatClampNeg
def q_st {β : Type} (w : Wd) (k n : Nat) (i x : Int32) (K : Wd → Option β) : Option β := if i < 0 ∨ n ≤ i.toNatClampNeg then none else K (sI w k i.toNatClampNeg x)
def q_sz {β : Type} (w : Wd) (k n : Nat) (i x : Int32) (K : Wd → Option β) : Option β := if i < 0 ∨ n ≤ i.toNatClampNeg then none else K (sI w k i.toNatClampNeg (vp_nar .boolean x))
def q_sl {β : Type} (w : Wd) (k n : Nat) (i : Int32) (x : Int64) (K : Wd → Option β) : Option β := if i < 0 ∨ n ≤ i.toNatClampNeg then none else K (sJ w k i.toNatClampNeg x)
def q_pt {β : Type} (w : Wd) (k j : Nat) (x : Int32) (K : Wd → β) : β := K (sI w k j x)
def q_bo {α β : Type} (o : Option α) (K : α → Option β) : Option β := match o with | none => none | some a => K a
def q_bi {α β : Type} (o : Option (α × Wd)) (K : α → Wd → Option β) : Option β := match o with | none => none | some a => K a.1 a.2
theorem bo_s {α β : Type} {o : Option α} {K : α → Option β} {r : β} (h : q_bo o K = some r) : ∃ a, o = some a ∧ K a = some r := by
  cases o with
  | none => cases h
  | some a => exact ⟨a, rfl, h⟩
theorem bi_s {α β : Type} {o : Option (α × Wd)} {K : α → Wd → Option β} {r : β} (h : q_bi o K = some r) : ∃ a w, o = some (a, w) ∧ K a w = some r := by
  cases o with
  | none => cases h
  | some a => exact ⟨a.1, a.2, rfl, h⟩
theorem if_t {α : Type} {c : Prop} {A B r : α} (hd : Decidable c) (hc : c) (h : (@ite α c hd A B) = r) : A = r := by
  rw [if_pos hc] at h
  exact h
theorem if_f {α : Type} {c : Prop} {A B r : α} (hd : Decidable c) (hc : ¬ c) (h : (@ite α c hd A B) = r) : B = r := by
  rw [if_neg hc] at h
  exact h
theorem in_s {α : Type} {i : Int32} {n : Nat} {A : Option α} {r : α} (h : (if i < 0 ∨ n ≤ i.toNatClampNeg then none else A) = some r) : vp_in i n ∧ A = some r := by
  by_cases c : i < 0 ∨ n ≤ i.toNatClampNeg
  · rw [if_pos c] at h
    cases h
  · rw [if_neg c] at h
    exact ⟨c, h⟩
theorem jn_use {α : Type} {γ : Type} {B : α} {K : α → γ} {r : γ} {G : Prop} (P : α → Prop) (h : q_jn B K = r) (hB : P B) (k : ∀ j, P j → K j = r → G) : G := k B hB h
def GG (p : Program) (l : Launch) (e : Env) (R : Room) (s : State) (m : MethodId) (args : Array Value) (below : List Frame) (meth : Method) (c : Code) (cells slots : Nat) (Q : State → Prop) (D : va_G) (cT : Nat → ClassId) (lo nb nL : Nat) (ad : Nat → Nat) (w : Wd) (pc : Nat) (lv : List (Nat × Value)) (st : List Value) : Prop :=
  ∀ (H : Heap) (locs : List Loc) (ls : Array Slot), wP D cT lo nb w ad H → va_S (fun q => lo ≤ q) s.heap H locs → lv_has ls nL lv → W p l e R s m args below meth c H locs cells slots Q (F0 m pc ls st)
theorem mono.sI {w : Wd} {k j : Nat} {x : Int32} : mono w (sI w k j x) := ⟨fun _ h => h, fun _ h => h⟩
theorem mono.sJ {w : Wd} {k j : Nat} {x : Int64} : mono w (sJ w k j x) := ⟨fun _ h => h, fun _ h => h⟩
section YR
variable {p : Program} {l : Launch} {e : Env} {R : Room} {s : State} {m : MethodId} {args : Array Value} {below : List Frame} {meth : Method} {c : Code} {H : Heap} {locs : List Loc} {cells slots : Nat} {Q : State → Prop}
variable {cc : ByteArray} {pc nL : Nat} {ls : Array Slot} {rest : List Value} {D : va_G} {cT : Nat → ClassId} {lo nb : Nat} {w w' : Wd} {ad : Nat → Nat} {own : String} {index ci j k n : Nat} {ty : FieldType} {fin : Bool}
variable {α β : Type}
theorem y_let {x : Int32} {K : Int32 → β} {r : β} (h : q_lt x K = r) (kk : ∀ v : Int32, K v = r → W p l e R s m args below meth c H locs cells slots Q (F0 m pc ls (.int v :: rest))) : W p l e R s m args below meth c H locs cells slots Q (F0 m pc ls (.int x :: rest)) := kk x h
theorem y_letl {x : Int64} {K : Int64 → β} {r : β} (h : q_lt x K = r) (kk : ∀ v : Int64, K v = r → W p l e R s m args below meth c H locs cells slots Q (F0 m pc ls (.long v :: rest))) : W p l e R s m args below meth c H locs cells slots Q (F0 m pc ls (.long x :: rest)) := kk x h
theorem y_geti {K : Int32 → β} {r : β} (h : q_gt w k j K = r) (F : Fx p s m args c cc own nL D cT lo) (hP : wP D cT lo nb w ad H) (hk : kt k = (ci + 10, 0)) (ha : wA w k ≠ 0) (fl : FL own index ci j ty fin) (hf : ft ci j = 0) (hdg : decode cc pc = .ok (.getfield index, 3))
    (kk : ∀ v : Int32, K v = r → W p l e R s m args below meth c H locs cells slots Q (F0 m (pc + 3) ls (.int v :: rest))) : W p l e R s m args below meth c H locs cells slots Q (F0 m pc ls (.ref (ad k) :: rest)) := x_geti F hP hk ha fl hf hdg (kk _ h)
theorem y_getd {K : Nat → Option β} {r : β} (h : q_gd w k j K = some r) (F : Fx p s m args c cc own nL D cT lo) (hP : wP D cT lo nb w ad H) (hk : kt k = (ci + 10, 0)) (ha : wA w k ≠ 0) (fl : FL own index ci j ty fin) (hf : ft ci j = 2) (hdg : decode cc pc = .ok (.getfield index, 3))
    (kk : ∀ q : Nat, kt q = dk j → wA w q = 2 → K q = some r → W p l e R s m args below meth c H locs cells slots Q (F0 m (pc + 3) ls (.ref (ad q) :: rest))) : W p l e R s m args below meth c H locs cells slots Q (F0 m pc ls (.ref (ad k) :: rest)) := by
  unfold q_gd at h
  by_cases hz : wS w k j = 0
  · rw [if_pos hz] at h
    cases h
  · rw [if_neg hz] at h
    exact x_getd F hP hk ha fl hf hz hdg fun a b => kk _ b a h
theorem y_iald {i : Int32} {K : Int32 → Option β} {r : β} (h : q_ld w k n i K = some r) (F : Fx p s m args c cc own nL D cT lo) (hP : wP D cT lo nb w ad H) (hk : kt k = (1, n)) (ha : wA w k ≠ 0) (hdg : decode cc pc = .ok (.iaload, 1))
    (kk : ∀ v : Int32, K v = some r → W p l e R s m args below meth c H locs cells slots Q (F0 m (pc + 1) ls (.int v :: rest))) : W p l e R s m args below meth c H locs cells slots Q (F0 m pc ls (.int i :: .ref (ad k) :: rest)) := x_iald F hP hk ha (in_s h).1 hdg (kk _ (in_s h).2)
theorem y_zald {i : Int32} {K : Int32 → Option β} {r : β} (h : q_ld w k n i K = some r) (F : Fx p s m args c cc own nL D cT lo) (hP : wP D cT lo nb w ad H) (hk : kt k = (2, n)) (ha : wA w k ≠ 0) (hdg : decode cc pc = .ok (.baload, 1))
    (kk : ∀ v : Int32, K v = some r → W p l e R s m args below meth c H locs cells slots Q (F0 m (pc + 1) ls (.int v :: rest))) : W p l e R s m args below meth c H locs cells slots Q (F0 m pc ls (.int i :: .ref (ad k) :: rest)) := x_zald F hP hk ha (in_s h).1 hdg (kk _ (in_s h).2)
theorem y_lald {i : Int32} {K : Int64 → Option β} {r : β} (h : q_ldl w k n i K = some r) (F : Fx p s m args c cc own nL D cT lo) (hP : wP D cT lo nb w ad H) (hk : kt k = (3, n)) (ha : wA w k ≠ 0) (hdg : decode cc pc = .ok (.laload, 1))
    (kk : ∀ v : Int64, K v = some r → W p l e R s m args below meth c H locs cells slots Q (F0 m (pc + 1) ls (.long v :: rest))) : W p l e R s m args below meth c H locs cells slots Q (F0 m pc ls (.int i :: .ref (ad k) :: rest)) := x_lald F hP hk ha (in_s h).1 hdg (kk _ (in_s h).2)
theorem y_aald {i : Int32} {c0 : Nat} {ke : Nat × Nat} {K : Nat → Option β} {r : β} (h : q_ldq w k n i K = some r) (F : Fx p s m args c cc own nL D cT lo) (hP : wP D cT lo nb w ad H) (hk : kt k = (c0, n)) (h4 : 4 ≤ c0) (h7 : c0 < 8) (ha : wA w k ≠ 0) (he : ∀ j, j < n → kt (rt k j) = ke) (hdg : decode cc pc = .ok (.aaload, 1))
    (kk : ∀ q : Nat, kt q = ke → wA w q = 2 → K q = some r → W p l e R s m args below meth c H locs cells slots Q (F0 m (pc + 1) ls (.ref (ad q) :: rest))) : W p l e R s m args below meth c H locs cells slots Q (F0 m pc ls (.int i :: .ref (ad k) :: rest)) := by
  obtain ⟨hin, h⟩ := in_s h
  by_cases hz : wS w k i.toNatClampNeg = 0
  · rw [if_pos hz] at h
    cases h
  · rw [if_neg hz] at h
    have hlt : i.toNatClampNeg < n := Nat.not_le.mp fun q => hin (Or.inr q)
    by_cases h9 : c0 = 7
    · subst h9
      exact x_aald7 F hP hk ha hin hz rfl hdg fun a => kk _ (he _ hlt) a h
    · exact x_aald F hP hk h4 (by omega) ha hin hz rfl hdg fun a => kk _ (he _ hlt) a h
theorem y_puti {x : Int32} {K : Wd → β} {r : β} (h : q_pt w k j x K = r) (F : Fx p s m args c cc own nL D cT lo) (hP : wP D cT lo nb w ad H) (hS : va_S (fun q => lo ≤ q) s.heap H locs) (hk : kt k = (ci + 10, 0)) (ha : wA w k ≠ 0) (fl : FL own index ci j .int false) (hf : ft ci j = 0) (hdg : decode cc pc = .ok (.putfield index, 3))
    (kk : ∀ (w1 : Wd) (H : Heap) (locs : List Loc), mono w w1 → K w1 = r → wP D cT lo nb w1 ad H → va_S (fun q => lo ≤ q) s.heap H locs → W p l e R s m args below meth c H locs cells slots Q (F0 m (pc + 3) ls rest)) : W p l e R s m args below meth c H locs cells slots Q (F0 m pc ls (.int x :: .ref (ad k) :: rest)) := x_puti F hP hS hk ha fl hf hdg fun H locs hP hS => kk _ H locs mono.sI h hP hS
theorem y_putz {x : Int32} {K : Wd → β} {r : β} (h : q_pt w k j x K = r) (hx01 : x = 0 ∨ x = 1) (F : Fx p s m args c cc own nL D cT lo) (hP : wP D cT lo nb w ad H) (hS : va_S (fun q => lo ≤ q) s.heap H locs) (hk : kt k = (ci + 10, 0)) (ha : wA w k ≠ 0) (fl : FL own index ci j .boolean false) (hf : ft ci j = 0) (hdg : decode cc pc = .ok (.putfield index, 3))
    (kk : ∀ (w1 : Wd) (H : Heap) (locs : List Loc), mono w w1 → K w1 = r → wP D cT lo nb w1 ad H → va_S (fun q => lo ≤ q) s.heap H locs → W p l e R s m args below meth c H locs cells slots Q (F0 m (pc + 3) ls rest)) : W p l e R s m args below meth c H locs cells slots Q (F0 m pc ls (.int x :: .ref (ad k) :: rest)) := x_putz hx01 F hP hS hk ha fl hf hdg fun H locs hP hS => kk _ H locs mono.sI h hP hS
theorem y_putFi {x : Int32} {K : Wd → β} {r : β} (h : q_pt w k j x K = r) (F : Fx p s m args c cc own nL D cT lo) (hP : wP D cT lo nb w ad H) (hS : va_S (fun q => lo ≤ q) s.heap H locs) (hk : kt k = (ci + 10, 0)) (ha : wA w k ≠ 0) (fl : FL own index ci j .int true) (hini : meth.name = "<init>") (hdecl : (vwCl[ci]?.map (·.1)) = some own) (hf : ft ci j = 0) (hdg : decode cc pc = .ok (.putfield index, 3))
    (kk : ∀ (w1 : Wd) (H : Heap) (locs : List Loc), mono w w1 → K w1 = r → wP D cT lo nb w1 ad H → va_S (fun q => lo ≤ q) s.heap H locs → W p l e R s m args below meth c H locs cells slots Q (F0 m (pc + 3) ls rest)) : W p l e R s m args below meth c H locs cells slots Q (F0 m pc ls (.int x :: .ref (ad k) :: rest)) := x_putFi F hP hS hk ha fl hini hdecl hf hdg fun H locs hP hS => kk _ H locs mono.sI h hP hS
theorem y_putd {k' : Nat} {C : String} {K : Wd → β} {r : β} (h : q_pt w k j (nI k') K = r) (F : Fx p s m args c cc own nL D cT lo) (hP : wP D cT lo nb w ad H) (hS : va_S (fun q => lo ≤ q) s.heap H locs) (hk : kt k = (ci + 10, 0)) (ha : wA w k ≠ 0) (fl : FL own index ci j (.object C) false) (hf : ft ci j = 2) (h0 : 0 < k') (hb : k' < 100000) (ha' : wA w k' = 2) (hk' : kt k' = dk j) (hdg : decode cc pc = .ok (.putfield index, 3))
    (kk : ∀ (w1 : Wd) (H : Heap) (locs : List Loc), mono w w1 → K w1 = r → wP D cT lo nb w1 ad H → va_S (fun q => lo ≤ q) s.heap H locs → W p l e R s m args below meth c H locs cells slots Q (F0 m (pc + 3) ls rest)) : W p l e R s m args below meth c H locs cells slots Q (F0 m pc ls (.ref (ad k') :: .ref (ad k) :: rest)) := x_putd F hP hS hk ha fl hf h0 hb ha' hk' ⟨rfl, rfl⟩ hdg fun H locs hP hS => kk _ H locs mono.sI h hP hS
theorem y_iast {i x : Int32} {K : Wd → Option β} {r : β} (h : q_st w k n i x K = some r) (F : Fx p s m args c cc own nL D cT lo) (hP : wP D cT lo nb w ad H) (hS : va_S (fun q => lo ≤ q) s.heap H locs) (hk : kt k = (1, n)) (ha : wA w k ≠ 0) (hdg : decode cc pc = .ok (.iastore, 1))
    (kk : ∀ (w1 : Wd) (H : Heap) (locs : List Loc), mono w w1 → K w1 = some r → wP D cT lo nb w1 ad H → va_S (fun q => lo ≤ q) s.heap H locs → W p l e R s m args below meth c H locs cells slots Q (F0 m (pc + 1) ls rest)) : W p l e R s m args below meth c H locs cells slots Q (F0 m pc ls (.int x :: .int i :: .ref (ad k) :: rest)) := x_iast F hP hS hk ha (in_s h).1 hdg fun H locs hP hS => kk _ H locs mono.sI (in_s h).2 hP hS
theorem y_zast {i x : Int32} {K : Wd → Option β} {r : β} (h : q_sz w k n i x K = some r) (F : Fx p s m args c cc own nL D cT lo) (hP : wP D cT lo nb w ad H) (hS : va_S (fun q => lo ≤ q) s.heap H locs) (hk : kt k = (2, n)) (ha : wA w k ≠ 0) (hdg : decode cc pc = .ok (.bastore, 1))
    (kk : ∀ (w1 : Wd) (H : Heap) (locs : List Loc), mono w w1 → K w1 = some r → wP D cT lo nb w1 ad H → va_S (fun q => lo ≤ q) s.heap H locs → W p l e R s m args below meth c H locs cells slots Q (F0 m (pc + 1) ls rest)) : W p l e R s m args below meth c H locs cells slots Q (F0 m pc ls (.int x :: .int i :: .ref (ad k) :: rest)) := x_zast F hP hS hk ha (in_s h).1 hdg fun H locs hP hS => kk _ H locs mono.sI (in_s h).2 hP hS
theorem y_last {i : Int32} {x : Int64} {K : Wd → Option β} {r : β} (h : q_sl w k n i x K = some r) (F : Fx p s m args c cc own nL D cT lo) (hP : wP D cT lo nb w ad H) (hS : va_S (fun q => lo ≤ q) s.heap H locs) (hk : kt k = (3, n)) (ha : wA w k ≠ 0) (hdg : decode cc pc = .ok (.lastore, 1))
    (kk : ∀ (w1 : Wd) (H : Heap) (locs : List Loc), mono w w1 → K w1 = some r → wP D cT lo nb w1 ad H → va_S (fun q => lo ≤ q) s.heap H locs → W p l e R s m args below meth c H locs cells slots Q (F0 m (pc + 1) ls rest)) : W p l e R s m args below meth c H locs cells slots Q (F0 m pc ls (.long x :: .int i :: .ref (ad k) :: rest)) := x_last F hP hS hk ha (in_s h).1 hdg fun H locs hP hS => kk _ H locs mono.sJ (in_s h).2 hP hS
theorem y_iinc {i kq : Nat} {z : Int} {x z' : Int32} {lv' : Int32 → List (Nat × Value)} {lv0 : List (Nat × Value)} {K : Int32 → β} {r : β} (h : q_lt (x + z') K = r) (F : Fx p s m args c cc own nL D cT lo) (hz : Int32.ofInt z = z') (hdg : decode cc pc = .ok (.iinc i z, 3)) (hl : lv_has ls nL lv0) (hk : lv0[kq]? = some (i, .int x)) (hn : i < nL) (he : ∀ v, (i, Value.int v) :: lv0.filter (fun q => !(q.1 == i) && !(q.1 + 1 == i && q.2.category == 2)) = lv' v)
    (kk : ∀ (v : Int32) (ls : Array Slot), lv_has ls nL (lv' v) → K v = r → W p l e R s m args below meth c H locs cells slots Q (F0 m (pc + 3) ls rest)) : W p l e R s m args below meth c H locs cells slots Q (F0 m pc ls rest) := by
  subst hz
  exact lv_iinc F.1 F.2.1 hdg hl hk rfl hn (he _) (fun ls hl => kk _ ls hl h)
/-- ends -/
theorem y_iretP {v r : Int32} (h : v = r) (F : Fx p s m args c cc own nL D cT lo) (hr : meth.sig.returnType = some .int) (hP : wP D cT lo nb w ad H) (hS : va_S (fun q => lo ≤ q) s.heap H locs) (hlocks : meth.locks = false) (hdg : decode cc pc = .ok (.ireturn, 1)) : W p l e R s m args below meth c H locs cells slots (MQ below (mQ D cT lo nb w w ad (some (.int r))) args s cells slots (fun q => lo ≤ q)) (F0 m pc ls [.int v]) := by
  subst h
  exact x_iret F hr hP hS mono.refl hlocks hdg
theorem y_zretP {v r : Int32} (h : v = r) (F : Fx p s m args c cc own nL D cT lo) (hr : meth.sig.returnType = some .boolean) (hP : wP D cT lo nb w ad H) (hS : va_S (fun q => lo ≤ q) s.heap H locs) (hlocks : meth.locks = false) (hz : narrow .boolean (.int v) = .int v) (hdg : decode cc pc = .ok (.ireturn, 1)) : W p l e R s m args below meth c H locs cells slots (MQ below (mQz D cT lo nb w w ad r) args s cells slots (fun q => lo ≤ q)) (F0 m pc ls [.int v]) := by
  subst h
  exact x_zret F hr hP hS mono.refl hlocks hz hdg
theorem y_lretP {v r : Int64} (h : v = r) (F : Fx p s m args c cc own nL D cT lo) (hr : meth.sig.returnType = some .long) (hP : wP D cT lo nb w ad H) (hS : va_S (fun q => lo ≤ q) s.heap H locs) (hlocks : meth.locks = false) (hdg : decode cc pc = .ok (.lreturn, 1)) : W p l e R s m args below meth c H locs cells slots (MQ below (mQ D cT lo nb w w ad (some (.long r))) args s cells slots (fun q => lo ≤ q)) (F0 m pc ls [.long v]) := by
  subst h
  exact x_lret F hr hP hS mono.refl hlocks hdg
theorem y_iretO {v r : Int32} (h : some v = some r) (F : Fx p s m args c cc own nL D cT lo) (hr : meth.sig.returnType = some .int) (hP : wP D cT lo nb w ad H) (hS : va_S (fun q => lo ≤ q) s.heap H locs) (hlocks : meth.locks = false) (hdg : decode cc pc = .ok (.ireturn, 1)) : W p l e R s m args below meth c H locs cells slots (MQ below (mQ D cT lo nb w w ad (some (.int r))) args s cells slots (fun q => lo ≤ q)) (F0 m pc ls [.int v]) := y_iretP (Option.some.inj h) F hr hP hS hlocks hdg
theorem y_zretO {v r : Int32} (h : some v = some r) (F : Fx p s m args c cc own nL D cT lo) (hr : meth.sig.returnType = some .boolean) (hP : wP D cT lo nb w ad H) (hS : va_S (fun q => lo ≤ q) s.heap H locs) (hlocks : meth.locks = false) (hz : narrow .boolean (.int v) = .int v) (hdg : decode cc pc = .ok (.ireturn, 1)) : W p l e R s m args below meth c H locs cells slots (MQ below (mQz D cT lo nb w w ad r) args s cells slots (fun q => lo ≤ q)) (F0 m pc ls [.int v]) := y_zretP (Option.some.inj h) F hr hP hS hlocks hz hdg
theorem y_lretO {v r : Int64} (h : some v = some r) (F : Fx p s m args c cc own nL D cT lo) (hr : meth.sig.returnType = some .long) (hP : wP D cT lo nb w ad H) (hS : va_S (fun q => lo ≤ q) s.heap H locs) (hlocks : meth.locks = false) (hdg : decode cc pc = .ok (.lreturn, 1)) : W p l e R s m args below meth c H locs cells slots (MQ below (mQ D cT lo nb w w ad (some (.long r))) args s cells slots (fun q => lo ≤ q)) (F0 m pc ls [.long v]) := y_lretP (Option.some.inj h) F hr hP hS hlocks hdg
variable {w0 : Wd}
theorem y_iretM {v r : Int32} (h : some (v, w) = some (r, w')) (F : Fx p s m args c cc own nL D cT lo) (hr : meth.sig.returnType = some .int) (hP : wP D cT lo nb w ad H) (hS : va_S (fun q => lo ≤ q) s.heap H locs) (hM : mono w0 w) (hlocks : meth.locks = false) (hdg : decode cc pc = .ok (.ireturn, 1)) : W p l e R s m args below meth c H locs cells slots (MQ below (mQ D cT lo nb w0 w' ad (some (.int r))) args s cells slots (fun q => lo ≤ q)) (F0 m pc ls [.int v]) := by
  obtain ⟨rfl, rfl⟩ := Prod.mk.inj (Option.some.inj h)
  exact x_iret F hr hP hS hM hlocks hdg
theorem y_zretM {v r : Int32} (h : some (v, w) = some (r, w')) (F : Fx p s m args c cc own nL D cT lo) (hr : meth.sig.returnType = some .boolean) (hP : wP D cT lo nb w ad H) (hS : va_S (fun q => lo ≤ q) s.heap H locs) (hM : mono w0 w) (hlocks : meth.locks = false) (hz : narrow .boolean (.int v) = .int v) (hdg : decode cc pc = .ok (.ireturn, 1)) : W p l e R s m args below meth c H locs cells slots (MQ below (mQz D cT lo nb w0 w' ad r) args s cells slots (fun q => lo ≤ q)) (F0 m pc ls [.int v]) := by
  obtain ⟨rfl, rfl⟩ := Prod.mk.inj (Option.some.inj h)
  exact x_zret F hr hP hS hM hlocks hz hdg
theorem y_lretM {v r : Int64} (h : some (v, w) = some (r, w')) (F : Fx p s m args c cc own nL D cT lo) (hr : meth.sig.returnType = some .long) (hP : wP D cT lo nb w ad H) (hS : va_S (fun q => lo ≤ q) s.heap H locs) (hM : mono w0 w) (hlocks : meth.locks = false) (hdg : decode cc pc = .ok (.lreturn, 1)) : W p l e R s m args below meth c H locs cells slots (MQ below (mQ D cT lo nb w0 w' ad (some (.long r))) args s cells slots (fun q => lo ≤ q)) (F0 m pc ls [.long v]) := by
  obtain ⟨rfl, rfl⟩ := Prod.mk.inj (Option.some.inj h)
  exact x_lret F hr hP hS hM hlocks hdg
theorem y_vret (h : some w = some w') (F : Fx p s m args c cc own nL D cT lo) (hr : meth.sig.returnType = none) (hP : wP D cT lo nb w ad H) (hS : va_S (fun q => lo ≤ q) s.heap H locs) (hM : mono w0 w) (hlocks : meth.locks = false) (hdg : decode cc pc = .ok (.return_, 1)) : W p l e R s m args below meth c H locs cells slots (MQ below (mQ D cT lo nb w0 w' ad none) args s cells slots (fun q => lo ≤ q)) (F0 m pc ls []) := by
  obtain rfl := Option.some.inj h
  exact x_vret F hr hP hS hM hlocks hdg
end YR
