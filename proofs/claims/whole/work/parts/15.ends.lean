/-! ===== ends of methods that make objects; fields beyond a class's last ===== -/
theorem kt_999 : (kt 999).1 = 0 := by decide +kernel
def q_gb {β : Type} (w : Wd) (K : Wd → Option β) : Option β := if (wS w 999 0).toNatClampNeg < 90000 then q_nw (sI w 999 0 (nI ((wS w 999 0).toNatClampNeg + 1))) (2000 + (wS w 999 0).toNatClampNeg) (10, 0) 2 K else none
section YE
variable {p : Program} {l : Launch} {e : Env} {R : Room} {s : State} {m : MethodId} {args : Array Value} {below : List Frame} {meth : Method} {c : Code} {H : Heap} {locs : List Loc} {cells slots : Nat} {Q : State → Prop}
variable {cc : ByteArray} {pc nL : Nat} {ls : Array Slot} {rest : List Value} {D : va_G} {cT : Nat → ClassId} {lo nb : Nat} {w w' w0 : Wd} {ad ad0 : Nat → Nat} {own : String} {β : Type}
theorem y_vretA (h : some w = some w') (F : Fx p s m args c cc own nL D cT lo) (hx : ∀ k, wA w0 k ≠ 0 → ad k = ad0 k) (hr : meth.sig.returnType = none) (hP : wP D cT lo nb w ad H) (hS : va_S (fun q => lo ≤ q) s.heap H locs) (hM : mono w0 w) (hlocks : meth.locks = false) (hdg : decode cc pc = .ok (.return_, 1)) : W p l e R s m args below meth c H locs cells slots (MQ below (mQA D cT lo nb w0 w' ad0 none) args s cells slots (fun q => lo ≤ q)) (F0 m pc ls []) := by
  obtain rfl := Option.some.inj h
  exact x_vretA F hx hr hP hS hM hlocks hdg
theorem y_iretA {v r : Int32} (h : some (v, w) = some (r, w')) (F : Fx p s m args c cc own nL D cT lo) (hx : ∀ k, wA w0 k ≠ 0 → ad k = ad0 k) (hr : meth.sig.returnType = some .int) (hP : wP D cT lo nb w ad H) (hS : va_S (fun q => lo ≤ q) s.heap H locs) (hM : mono w0 w) (hlocks : meth.locks = false) (hdg : decode cc pc = .ok (.ireturn, 1)) : W p l e R s m args below meth c H locs cells slots (MQ below (mQA D cT lo nb w0 w' ad0 (some (.int r))) args s cells slots (fun q => lo ≤ q)) (F0 m pc ls [.int v]) := by
  obtain ⟨rfl, rfl⟩ := Prod.mk.inj (Option.some.inj h)
  exact x_iretA F hx hr hP hS hM hlocks hdg
/-- the box of a way's goal: a number that no object has had -/
theorem y_newG {C : String} {T : u_T} {N index : Nat} {K : Wd → Option β} {r : β} {tyf : Nat → FieldType} (h : q_gb w K = some r) (F : Fx p s m args c cc own nL D cT lo) (hP : wP D cT lo nb w ad H) (hS : va_S (fun q => lo ≤ q) s.heap H locs) (hcl : Cond.classLink own index C ∈ TW) (hin : Cond.instantiable C N ∈ TW) (hini : Cond.initialized C ∈ TW) (hc : vwCl[0]? = some (C, T, N)) (hws : ∀ c ∈ u_ws C T N, c ∈ TW) (hty : ∀ k, k < N → parseFieldDescriptor (T k).2.2.1 = some (tyf k))
    (hdf : ∀ j, j < N → (ft 0 j = 0 ∧ defaultValue (tyf j) = .int 0) ∨ ((ft 0 j = 1 ∨ ft 0 j = 2) ∧ defaultValue (tyf j) = .null)) (hn : ∀ j, ft 0 j ≠ 1) (hcells : cells + 1 ≤ R.cells) (hslots : slots + N ≤ R.slots) (hdg : decode cc pc = .ok (.new index, 3))
    (kk : ∀ (q : Nat) (w1 : Wd) (ad1 : Nat → Nat) (H : Heap), mono w w1 → wA w1 q = 2 → kt q = (10, 0) → q = 2000 + (wS w 999 0).toNatClampNeg → (∀ i, wA w i ≠ 0 → ad1 i = ad i) → K w1 = some r → wP D cT lo nb w1 ad1 H → va_S (fun q => lo ≤ q) s.heap H locs → W p l e R s m args below meth c H locs (cells + 1) (slots + N) Q (F0 m (pc + 3) ls (.ref (ad1 q) :: rest))) : W p l e R s m args below meth c H locs cells slots Q (F0 m pc ls rest) := by
  unfold q_gb at h
  obtain ⟨h1, h⟩ := if_s _ h
  exact y_new (ci := 0) (n := 2) h F (y_ghost hP kt_999) hS hcl hin hini hc hws hty hdf (Or.inr ⟨rfl, hn⟩) hcells hslots hdg fun w1 ad1 H a b d f g i j => kk _ w1 ad1 H a b d rfl f g i j
end YE
theorem ftN_0 : ∀ j, 4 ≤ j → ft 0 j = 0 := fun j hj => by
  show ((ftT.getD 0 []).getD j 0) = 0
  rw [List.getD_eq_getElem?_getD, List.getElem?_eq_none (by exact hj)]
  rfl
theorem ftD_0 : ∀ j, j < 4 → (ft 0 j = 0 ∧ defaultValue (tyX0 j) = .int 0) ∨ ((ft 0 j = 1 ∨ ft 0 j = 2) ∧ defaultValue (tyX0 j) = .null) := by decide +kernel
theorem ftN_1 : ∀ j, 17 ≤ j → ft 1 j = 0 := fun j hj => by
  show ((ftT.getD 1 []).getD j 0) = 0
  rw [List.getD_eq_getElem?_getD, List.getElem?_eq_none (by exact hj)]
  rfl
theorem ftD_1 : ∀ j, j < 17 → (ft 1 j = 0 ∧ defaultValue (tyX1 j) = .int 0) ∨ ((ft 1 j = 1 ∨ ft 1 j = 2) ∧ defaultValue (tyX1 j) = .null) := by decide +kernel
theorem ftN_2 : ∀ j, 11 ≤ j → ft 2 j = 0 := fun j hj => by
  show ((ftT.getD 2 []).getD j 0) = 0
  rw [List.getD_eq_getElem?_getD, List.getElem?_eq_none (by exact hj)]
  rfl
theorem ftD_2 : ∀ j, j < 11 → (ft 2 j = 0 ∧ defaultValue (tyX2 j) = .int 0) ∨ ((ft 2 j = 1 ∨ ft 2 j = 2) ∧ defaultValue (tyX2 j) = .null) := by decide +kernel
theorem ftN_3 : ∀ j, 11 ≤ j → ft 3 j = 0 := fun j hj => by
  show ((ftT.getD 3 []).getD j 0) = 0
  rw [List.getD_eq_getElem?_getD, List.getElem?_eq_none (by exact hj)]
  rfl
theorem ftD_3 : ∀ j, j < 11 → (ft 3 j = 0 ∧ defaultValue (tyX3 j) = .int 0) ∨ ((ft 3 j = 1 ∨ ft 3 j = 2) ∧ defaultValue (tyX3 j) = .null) := by decide +kernel
theorem ftN_4 : ∀ j, 4 ≤ j → ft 4 j = 0 := fun j hj => by
  show ((ftT.getD 4 []).getD j 0) = 0
  rw [List.getD_eq_getElem?_getD, List.getElem?_eq_none (by exact hj)]
  rfl
theorem ftD_4 : ∀ j, j < 4 → (ft 4 j = 0 ∧ defaultValue (tyX4 j) = .int 0) ∨ ((ft 4 j = 1 ∨ ft 4 j = 2) ∧ defaultValue (tyX4 j) = .null) := by decide +kernel
theorem ftN_5 : ∀ j, 8 ≤ j → ft 5 j = 0 := fun j hj => by
  show ((ftT.getD 5 []).getD j 0) = 0
  rw [List.getD_eq_getElem?_getD, List.getElem?_eq_none (by exact hj)]
  rfl
theorem ftD_5 : ∀ j, j < 8 → (ft 5 j = 0 ∧ defaultValue (tyX5 j) = .int 0) ∨ ((ft 5 j = 1 ∨ ft 5 j = 2) ∧ defaultValue (tyX5 j) = .null) := by decide +kernel
theorem ftN_6 : ∀ j, 4 ≤ j → ft 6 j = 0 := fun j hj => by
  show ((ftT.getD 6 []).getD j 0) = 0
  rw [List.getD_eq_getElem?_getD, List.getElem?_eq_none (by exact hj)]
  rfl
theorem ftD_6 : ∀ j, j < 4 → (ft 6 j = 0 ∧ defaultValue (tyX6 j) = .int 0) ∨ ((ft 6 j = 1 ∨ ft 6 j = 2) ∧ defaultValue (tyX6 j) = .null) := by decide +kernel
theorem ftN_7 : ∀ j, 8 ≤ j → ft 7 j = 0 := fun j hj => by
  show ((ftT.getD 7 []).getD j 0) = 0
  rw [List.getD_eq_getElem?_getD, List.getElem?_eq_none (by exact hj)]
  rfl
theorem ftD_7 : ∀ j, j < 8 → (ft 7 j = 0 ∧ defaultValue (tyX7 j) = .int 0) ∨ ((ft 7 j = 1 ∨ ft 7 j = 2) ∧ defaultValue (tyX7 j) = .null) := by decide +kernel
theorem ftN_8 : ∀ j, 16 ≤ j → ft 8 j = 0 := fun j hj => by
  show ((ftT.getD 8 []).getD j 0) = 0
  rw [List.getD_eq_getElem?_getD, List.getElem?_eq_none (by exact hj)]
  rfl
theorem ftD_8 : ∀ j, j < 16 → (ft 8 j = 0 ∧ defaultValue (tyX8 j) = .int 0) ∨ ((ft 8 j = 1 ∨ ft 8 j = 2) ∧ defaultValue (tyX8 j) = .null) := by decide +kernel
theorem ftN_9 : ∀ j, 7 ≤ j → ft 9 j = 0 := fun j hj => by
  show ((ftT.getD 9 []).getD j 0) = 0
  rw [List.getD_eq_getElem?_getD, List.getElem?_eq_none (by exact hj)]
  rfl
theorem ftD_9 : ∀ j, j < 7 → (ft 9 j = 0 ∧ defaultValue (tyX9 j) = .int 0) ∨ ((ft 9 j = 1 ∨ ft 9 j = 2) ∧ defaultValue (tyX9 j) = .null) := by decide +kernel
theorem ftN_10 : ∀ j, 11 ≤ j → ft 10 j = 0 := fun j hj => by
  show ((ftT.getD 10 []).getD j 0) = 0
  rw [List.getD_eq_getElem?_getD, List.getElem?_eq_none (by exact hj)]
  rfl
theorem ftD_10 : ∀ j, j < 11 → (ft 10 j = 0 ∧ defaultValue (tyX10 j) = .int 0) ∨ ((ft 10 j = 1 ∨ ft 10 j = 2) ∧ defaultValue (tyX10 j) = .null) := by decide +kernel
theorem ftN_11 : ∀ j, 8 ≤ j → ft 11 j = 0 := fun j hj => by
  show ((ftT.getD 11 []).getD j 0) = 0
  rw [List.getD_eq_getElem?_getD, List.getElem?_eq_none (by exact hj)]
  rfl
theorem ftD_11 : ∀ j, j < 8 → (ft 11 j = 0 ∧ defaultValue (tyX11 j) = .int 0) ∨ ((ft 11 j = 1 ∨ ft 11 j = 2) ∧ defaultValue (tyX11 j) = .null) := by decide +kernel
theorem ftN_12 : ∀ j, 84 ≤ j → ft 12 j = 0 := fun j hj => by
  show ((ftT.getD 12 []).getD j 0) = 0
  rw [List.getD_eq_getElem?_getD, List.getElem?_eq_none (by exact hj)]
  rfl
theorem ftD_12 : ∀ j, j < 84 → (ft 12 j = 0 ∧ defaultValue (tyX12 j) = .int 0) ∨ ((ft 12 j = 1 ∨ ft 12 j = 2) ∧ defaultValue (tyX12 j) = .null) := by decide +kernel
theorem ftZ_0 : ∀ j, ft 0 j ≠ 1 := fun j => by
  rcases Nat.lt_or_ge j 4 with h | h
  · exact (by decide +kernel : ∀ j, j < 4 → ft 0 j ≠ 1) j h
  · rw [ftN_0 j h]; decide
theorem ftZ_5 : ∀ j, ft 5 j ≠ 1 := fun j => by
  rcases Nat.lt_or_ge j 8 with h | h
  · exact (by decide +kernel : ∀ j, j < 8 → ft 5 j ≠ 1) j h
  · rw [ftN_5 j h]; decide
