/-! ===== worlds by number: every object of the class and of the reference has a number of its own; the numbers below are mine ===== -/
abbrev Wd : Type := (Nat → Nat) × (Nat → Nat → Int32) × (Nat → Nat → Int64)
def wA (w : Wd) (k : Nat) : Nat := w.1 k
def wS (w : Wd) (k j : Nat) : Int32 := w.2.1 k j
def wL (w : Wd) (k j : Nat) : Int64 := w.2.2 k j
def sI (w : Wd) (k j : Nat) (v : Int32) : Wd := (w.1, fun a b => if a = k ∧ b = j then v else w.2.1 a b, w.2.2)
def sJ (w : Wd) (k j : Nat) (v : Int64) : Wd := (w.1, w.2.1, fun a b => if a = k ∧ b = j then v else w.2.2 a b)
/-- a new object or array: its state (1 being made, 2 made), all places 0 -/
def sN (w : Wd) (k n : Nat) : Wd := (fun a => if a = k then n else w.1 a, fun a b => if a = k then 0 else w.2.1 a b, fun a b => if a = k then 0 else w.2.2 a b)
def sR (w : Wd) (k : Nat) : Wd := (fun a => if a = k then 2 else w.1 a, w.2.1, w.2.2)
def ktT : List (Nat × Nat) := [(0, 0), (21, 0), (18, 0), (13, 0), (20, 0), (17, 0), (12, 0), (19, 0), (14, 0), (16, 0), (4, 20), (1, 20), (1, 20), (1, 20), (4, 10), (4, 10), (1, 10), (2, 10), (4, 10), (1, 10), (1, 10), (2, 10), (5, 4), (15, 0), (3, 1500), (1, 1500), (1, 1500), (1, 1024), (1, 12), (1, 4), (1, 6), (7, 7), (1, 256), (1, 256), (1, 256), (1, 256), (1, 256), (1, 256), (1, 256), (1, 6), (1, 20), (2, 20), (1, 4), (1, 4), (1, 4), (1, 4), (1, 4), (1, 4), (1, 4), (1, 4), (1, 12), (1, 12), (1, 12), (2, 12), (1, 4), (1, 80), (7, 4), (1, 60), (1, 60), (1, 60), (1, 60), (1, 4), (1, 4), (22, 0), (1, 80), (1, 20), (1, 20), (1, 20), (1, 40), (1, 40), (1, 10), (2, 10), (1, 40), (1, 10), (1, 10), (2, 10), (1, 4), (1, 4), (1, 4), (1, 4), (1, 4), (1, 20), (1, 20), (1, 20), (2, 4), (1, 4), (1, 4), (1, 4), (1, 4), (1, 1500), (1, 1500), (1, 1500), (1, 1500), (1, 1500), (1, 1500), (1, 4096), (1, 12), (1, 16), (1, 16), (1, 16), (1, 4), (1, 6), (1, 1792), (1, 6), (1, 20), (2, 20), (1, 4), (1, 4), (1, 4), (1, 4), (1, 4), (1, 4), (1, 4), (1, 4), (1, 12), (1, 12), (1, 12), (1, 4), (1, 80), (2, 4), (1, 4), (1, 4), (1, 240), (1, 60)]
def ktC : List (Nat × Nat) := [(11, 0), (1, 5), (1, 5), (1, 5), (6, 5), (15, 0), (15, 0), (15, 0), (15, 0), (15, 0), (1, 4), (1, 4), (1, 4)]
def kt (k : Nat) : Nat × Nat := if k < 250 then ktT.getD k (0, 0) else if k < 1000 then (if 300 ≤ k ∧ k < 380 then (10, 0) else (0, 0)) else if k < 1080 then ktC.getD ((k - 1000) % 20) (0, 0) else if k < 2000 then (0, 0) else (10, 0)
def rtT : List (List Nat) := [[], [2, 3, 4, 5, 6, 7, 8, 9], [10, 11, 12, 13, 0, 14, 0, 15, 16, 17, 0, 18, 19, 20, 21], [2, 22, 0, 0, 0, 0, 0, 23], [3, 24, 25, 26, 27, 0, 28], [29, 0, 30, 0, 0, 31, 39], [40, 41, 42, 43, 44, 45, 46, 0, 47, 48, 49], [50, 51, 0, 0, 52, 53, 54], [2, 3, 55], [56, 61, 62], [], [], [], [], [], [], [], [], [], [], [], [], [], [], [], [], [], [], [], [], [], [], [], [], [], [], [], [], [], [], [], [], [], [], [], [], [], [], [], [], [], [], [], [], [], [], [], [], [], [], [], [], [], [0, 64, 65, 66, 67, 0, 68, 0, 69, 70, 71, 0, 72, 73, 74, 75, 0, 76, 77, 78, 79, 80, 81, 82, 83, 84, 85, 86, 87, 88, 0, 0, 0, 0, 0, 89, 90, 91, 92, 93, 94, 95, 0, 96, 97, 98, 99, 0, 0, 0, 0, 100, 0, 101, 0, 102, 103, 104, 105, 0, 106, 107, 108, 109, 110, 111, 112, 113, 0, 114, 115, 116, 0, 117, 0, 118, 0, 0, 119, 120, 121, 122, 123], [], [], [], [], [], [], [], [], [], [], [], [], [], [], [], [], [], [], [], [], [], [], [], [], [], [], [], [], [], [], [], [], [], [], [], [], [], [], [], [], [], [], [], [], [], [], [], [], [], [], [], [], [], [], [], [], [], [], [], []]
def rtC : List Nat := [0, 0, 0, 0, 1, 2, 3, 0, 4, 0, 0, 0, 0, 0, 10, 11, 12]
def rbT : List Nat := [0, 0, 0, 0, 0, 0, 0, 0, 0, 0, 300, 0, 0, 0, 330, 350, 0, 0, 370, 0, 0, 0, 0, 0, 0, 0, 0, 0, 0, 0, 0, 32, 0, 0, 0, 0, 0, 0, 0, 0, 0, 0, 0, 0, 0, 0, 0, 0, 0, 0, 0, 0, 0, 0, 0, 0, 57, 0, 0, 0, 0, 0, 0, 0, 0, 0, 0, 0, 0, 0, 0, 0, 0, 0, 0, 0, 0, 0, 0, 0, 0, 0, 0, 0, 0, 0, 0, 0, 0, 0, 0, 0, 0, 0, 0, 0, 0, 0, 0, 0, 0, 0, 0, 0, 0, 0, 0, 0, 0, 0, 0, 0, 0, 0, 0, 0, 0, 0, 0, 0, 0, 0, 0, 0]
/-- what stands at place j of the object or row of references k, when it is set -/
def rt (k j : Nat) : Nat := if (kt k).1 = 5 then 1000 + 20 * j else if (kt k).1 < 10 then (if k < 250 then rbT.getD k 0 + j else k + 1 + j) else if k < 250 then (rtT.getD k []).getD j 0 else k + rtC.getD j 0
def ftT : List (List Nat) := [[0, 0, 0, 0], [0, 0, 0, 0, 1, 1, 1, 0, 1, 0, 0, 0, 0, 0, 1, 1, 1], [1, 1, 1, 1, 1, 1, 1, 0, 1, 1, 1], [1, 1, 0, 0, 0, 0, 0, 1, 0, 0, 0], [1, 1, 1, 0], [0, 0, 0, 0, 0, 0, 0, 0], [1, 1, 1, 0], [1, 0, 1, 0, 0, 1, 1, 0], [1, 1, 1, 1, 0, 1, 0, 1, 1, 1, 0, 1, 1, 1, 1, 0], [1, 1, 0, 0, 1, 1, 1], [1, 1, 1, 1, 1, 0, 1, 0, 2, 2, 0], [1, 1, 1, 1, 1, 1, 1, 1], [0, 1, 1, 1, 1, 0, 1, 0, 1, 1, 1, 0, 1, 1, 1, 1, 0, 1, 1, 1, 1, 1, 1, 1, 1, 1, 1, 1, 1, 1, 0, 0, 0, 0, 0, 1, 1, 1, 1, 1, 1, 1, 0, 1, 1, 1, 1, 0, 0, 0, 0, 1, 0, 1, 0, 1, 1, 1, 1, 0, 1, 1, 1, 1, 1, 1, 1, 1, 0, 1, 1, 1, 0, 1, 0, 1, 0, 0, 1, 1, 1, 1, 1, 0]]
/-- a field: 0 a number, 1 a reference that is set once, 2 one that changes -/
def ft (n j : Nat) : Nat := (ftT.getD n []).getD j 0
def dk (j : Nat) : Nat × Nat := if j = 8 then (11, 0) else (10, 0)
def fv (w : Wd) (ad : Nat → Nat) (k n j : Nat) : Value := if ft n j = 1 then (if wA w k = 2 ∨ wS w k j ≠ 0 then .ref (ad (rt k j)) else .null) else if ft n j = 2 then (if wS w k j = 0 then .null else .ref (ad (wS w k j).toNatClampNeg)) else .int (wS w k j)
def fln (n : Nat) : Nat := match vwCl[n]? with | some q => q.2.2 | none => 0
def celA (cT : Nat → ClassId) (w : Wd) (ad : Nat → Nat) (k c n : Nat) : va_E :=
  if c = 1 then .inl (cT 1, (n, .inl (fun j => wS w k j)))
  else if c = 2 then .inl (cT 2, (n, .inl (fun j => wS w k j)))
  else if c = 3 then .inl (cT 3, (n, .inr (.inl (fun j => wL w k j))))
  else if c < 10 then .inl (cT c, (n, .inr (.inr (.inr (.inr (fun j => if n ≤ j ∨ wS w k j = 0 then none else some (ad (rt k j))))))))
  else .inr (c - 10, (List.range (fln (c - 10))).map (fun j => fv w ad k (c - 10) j))
def cel (cT : Nat → ClassId) (w : Wd) (ad : Nat → Nat) (k : Nat) : va_E := celA cT w ad k (kt k).1 (kt k).2
/-- reference places that are set -/
def rsl (w : Wd) (k j : Nat) : Prop := (4 ≤ (kt k).1 ∧ (kt k).1 < 10 ∧ j < (kt k).2 ∧ wS w k j ≠ 0) ∨ (10 ≤ (kt k).1 ∧ ft ((kt k).1 - 10) j = 1 ∧ (wA w k = 2 ∨ wS w k j ≠ 0))
def wP (D : va_G) (cT : Nat → ClassId) (lo nb : Nat) (w : Wd) (ad : Nat → Nat) (H : Heap) : Prop :=
  (∀ k, wA w k ≠ 0 → va_at D vwCl (ad k, cel cT w ad k) H) ∧
  (∀ i j, wA w i ≠ 0 → wA w j ≠ 0 → ad i = ad j → i = j) ∧
  (∀ k, wA w k ≠ 0 → lo ≤ ad k) ∧
  (∀ k j, wA w k ≠ 0 → rsl w k j → wA w (rt k j) = 2) ∧
  (∀ k j, wA w k ≠ 0 → 10 ≤ (kt k).1 → ft ((kt k).1 - 10) j = 2 → wS w k j ≠ 0 → wA w (wS w k j).toNatClampNeg = 2 ∧ kt (wS w k j).toNatClampNeg = dk j) ∧
  (∀ k, 0 < k → k < nb → wA w k = 2) ∧
  (∀ k, wA w k ≠ 0 → (kt k).1 ≠ 0)
def tyl (cT : Nat → ClassId) : List (ClassId × FieldType) := [(cT 1, .int), (cT 2, .boolean), (cT 3, .long), (cT 4, .object "FloatTowers$Box"), (cT 5, .object "FloatTowers$Car"), (cT 6, .object "FloatTowers$Rect"), (cT 7, .array .int)]
def cosL : List Int32 := [65, 63, 60, 56, 52, 39, 33, 25, 16, 0, -16, -25, -33, -39, -52, -56, -60, -63, -65, -63, -60, -56, -52, -39, -33, -25, -16, 0, 16, 25, 33, 39, 52, 56, 60, 63]
def cosT (j : Nat) : Int32 := cosL.getD j 0
def nestL : List (String × Nat × MethodName × String) := [("FloatTowers", 9, ⟨"FloatTowers$Streets", "<init>", "()V"⟩, "FloatTowers"), ("FloatTowers$Fleet", 32, ⟨"FloatTowers$Rect", "<init>", "()V"⟩, "FloatTowers"), ("FloatTowers", 36, ⟨"FloatTowers$Shifts", "<init>", "()V"⟩, "FloatTowers"), ("FloatTowers", 50, ⟨"FloatTowers$Tasks", "<init>", "()V"⟩, "FloatTowers"), ("FloatTowers$Streets", 52, ⟨"FloatTowers", "isBox", "(IIII)Z"⟩, "FloatTowers"), ("FloatTowers$Streets", 56, ⟨"FloatTowers", "within", "(III)Z"⟩, "FloatTowers"), ("FloatTowers$Box", 24, ⟨"FloatTowers", "within", "(III)Z"⟩, "FloatTowers"), ("FloatTowers$Fleet", 44, ⟨"FloatTowers", "within", "(III)Z"⟩, "FloatTowers"), ("FloatTowers$Car", 55, ⟨"FloatTowers$Rect", "<init>", "()V"⟩, "FloatTowers"), ("FloatTowers$Car", 56, ⟨"FloatTowers", "within", "(III)Z"⟩, "FloatTowers"), ("FloatTowers$Car", 70, ⟨"FloatTowers", "cosine", "(I)I"⟩, "FloatTowers"), ("FloatTowers$Car", 73, ⟨"FloatTowers", "sine", "(I)I"⟩, "FloatTowers"), ("FloatTowers$Fleet", 88, ⟨"FloatTowers", "cosine", "(I)I"⟩, "FloatTowers"), ("FloatTowers$Fleet", 92, ⟨"FloatTowers", "sine", "(I)I"⟩, "FloatTowers"), ("FloatTowers$WaySearch", 36, ⟨"FloatTowers", "within", "(III)Z"⟩, "FloatTowers"), ("FloatTowers$Shifts", 30, ⟨"FloatTowers", "within", "(III)Z"⟩, "FloatTowers"), ("FloatTowers$Day", 49, ⟨"FloatTowers", "within", "(III)Z"⟩, "FloatTowers"), ("FloatTowers$Tasks", 32, ⟨"FloatTowers", "within", "(III)Z"⟩, "FloatTowers"), ("FloatTowers$Orders", 23, ⟨"FloatTowers", "within", "(III)Z"⟩, "FloatTowers"), ("FloatTowers$Sheets", 29, ⟨"FloatTowers", "within", "(III)Z"⟩, "FloatTowers")]
def aoL : List String := ["FloatTowers$Box", "FloatTowers$Car", "FloatTowers$Rect"]
def wAOA (U : State) : Prop := (Cond.arrayOver (.array .int)).before #[] U = true
theorem wAOA.moved {u U : State} (hvm : u.vm.Alike U.vm) (h : wAOA u) : wAOA U := by
  unfold wAOA Cond.before Cond.holds at h ⊢
  simp only [Cond.value] at h ⊢
  rw [hvm.findClass]
  cases hc : u.vm.findClass (FieldType.array .int).toString with
  | none => simp [hc] at h
  | some comp =>
    rw [hc] at h
    simp only [beq_iff_eq, Option.bind_some, Option.bind_eq_some_iff, Option.map_eq_some_iff] at h ⊢
    obtain ⟨c, hi, k, hk, hb⟩ := h
    obtain ⟨k', hk', he⟩ := hvm.2.2 _ _ hk
    refine ⟨c, ?_, k', hk', ?_⟩
    · have e1 := va_idx_bare U.vm comp
      have e0 := va_idx_bare u.vm comp
      have e2 : U.vm.bare = u.vm.bare := by first | exact hvm.bare_eq | exact hvm.bare_eq.symm
      rw [e2] at e1
      exact e1.symm.trans (e0.trans hi)
    · rw [hvm.findClass, he]
      exact hb
def wK (D : va_G) (cT : Nat → ClassId) (lo : Nat) (U : State) : Prop := va_K D vwCl (tyl cT) U ∧ ((∀ q ∈ nestL, va_Nw (.methodLinkNest q.1 q.2.1 q.2.2.1 q.2.2.2) U) ∧ (∀ C ∈ aoL, va_AO C U) ∧ wAOA U) ∧
  ∃ t : Nat, va_Z "FloatTowers" "COSINES" "[I" (.ref t) (fun q => lo ≤ q) U U.heap ∧ va_T .int t 36 (fun j => .int (cosT j)) (fun q => lo ≤ q) U U.heap
def wU (D : va_G) (cT : Nat → ClassId) (lo nb : Nat) (w : Wd) (ad : Nat → Nat) (U : State) : Prop := wP D cT lo nb w ad U.heap ∧ wK D cT lo U ∧ lo ≤ U.heap.size
def mono (w w' : Wd) : Prop := (∀ k, wA w k ≠ 0 → wA w' k ≠ 0) ∧ ∀ k, wA w k = 2 → wA w' k = 2
def mPc (D : va_G) (cT : Nat → ClassId) (lo nb : Nat) (w : Wd) (ad : Nat → Nat) (av : List Value) : Array Value → State → Prop := fun v U => v = av.toArray ∧ wU D cT lo nb w ad U
/-- a method's end: its answer, the world behind it; nothing below lo has changed -/
def mQ (D : va_G) (cT : Nat → ClassId) (lo nb : Nat) (w w' : Wd) (ad : Nat → Nat) (ov : Option Value) : Array Value → State → Outcome → State → Prop := fun _ st o t => o = .returned ov ∧ wU D cT lo nb w' ad t ∧ mono w w' ∧ va_F (fun q => lo ≤ q) st t
/-- the same of a method that makes objects -/
def mQA (D : va_G) (cT : Nat → ClassId) (lo nb : Nat) (w w' : Wd) (ad : Nat → Nat) (ov : Option Value) : Array Value → State → Outcome → State → Prop := fun _ st o t => o = .returned ov ∧ (∃ ad' : Nat → Nat, (∀ k, wA w k ≠ 0 → ad' k = ad k) ∧ wU D cT lo nb w' ad' t) ∧ mono w w' ∧ va_F (fun q => lo ≤ q) st t
def TW : List Cond := lw_tbl.filter goodWord
theorem tw_in {i : Nat} {c : Cond} (h : lw_tbl[i]? = some c) (hg : goodWord c = true) : c ∈ TW := List.mem_filter.mpr ⟨List.mem_of_getElem? h, hg⟩
theorem tw_good {y z : Cond} (hy : y ∈ TW) : GoodIn (z :: TW) (y :: TW) := fun c hc => by
  rcases List.mem_cons.mp hc with h | h
  · subst h
    exact ⟨List.mem_cons_of_mem _ hy, good_of_word (List.mem_filter.mp hy).2⟩
  · exact ⟨List.mem_cons_of_mem _ h, good_of_word (List.mem_filter.mp h).2⟩
theorem tw_goodL {y : Cond} (hy : y ∈ TW) : GoodIn lw_tbl (y :: TW) := fun c hc => by
  rcases List.mem_cons.mp hc with h | h
  · subst h
    exact ⟨(List.mem_filter.mp hy).1, good_of_word (List.mem_filter.mp hy).2⟩
  · exact ⟨(List.mem_filter.mp h).1, good_of_word (List.mem_filter.mp h).2⟩
theorem k_1 : kt 1 = (21, 0) := by decide +kernel
theorem k_2 : kt 2 = (18, 0) := by decide +kernel
theorem k_3 : kt 3 = (13, 0) := by decide +kernel
theorem k_4 : kt 4 = (20, 0) := by decide +kernel
theorem k_5 : kt 5 = (17, 0) := by decide +kernel
theorem k_6 : kt 6 = (12, 0) := by decide +kernel
theorem k_7 : kt 7 = (19, 0) := by decide +kernel
theorem k_8 : kt 8 = (14, 0) := by decide +kernel
theorem k_9 : kt 9 = (16, 0) := by decide +kernel
theorem k_10 : kt 10 = (4, 20) := by decide +kernel
theorem k_11 : kt 11 = (1, 20) := by decide +kernel
theorem k_12 : kt 12 = (1, 20) := by decide +kernel
theorem k_13 : kt 13 = (1, 20) := by decide +kernel
theorem k_14 : kt 14 = (4, 10) := by decide +kernel
theorem k_15 : kt 15 = (4, 10) := by decide +kernel
theorem k_16 : kt 16 = (1, 10) := by decide +kernel
theorem k_17 : kt 17 = (2, 10) := by decide +kernel
theorem k_18 : kt 18 = (4, 10) := by decide +kernel
theorem k_19 : kt 19 = (1, 10) := by decide +kernel
theorem k_20 : kt 20 = (1, 10) := by decide +kernel
theorem k_21 : kt 21 = (2, 10) := by decide +kernel
theorem k_22 : kt 22 = (5, 4) := by decide +kernel
theorem k_23 : kt 23 = (15, 0) := by decide +kernel
theorem k_24 : kt 24 = (3, 1500) := by decide +kernel
theorem k_25 : kt 25 = (1, 1500) := by decide +kernel
theorem k_26 : kt 26 = (1, 1500) := by decide +kernel
theorem k_27 : kt 27 = (1, 1024) := by decide +kernel
theorem k_28 : kt 28 = (1, 12) := by decide +kernel
theorem k_29 : kt 29 = (1, 4) := by decide +kernel
theorem k_30 : kt 30 = (1, 6) := by decide +kernel
theorem k_31 : kt 31 = (7, 7) := by decide +kernel
theorem k_32 : kt 32 = (1, 256) := by decide +kernel
theorem k_33 : kt 33 = (1, 256) := by decide +kernel
theorem k_34 : kt 34 = (1, 256) := by decide +kernel
theorem k_35 : kt 35 = (1, 256) := by decide +kernel
theorem k_36 : kt 36 = (1, 256) := by decide +kernel
theorem k_37 : kt 37 = (1, 256) := by decide +kernel
theorem k_38 : kt 38 = (1, 256) := by decide +kernel
theorem k_39 : kt 39 = (1, 6) := by decide +kernel
theorem k_40 : kt 40 = (1, 20) := by decide +kernel
theorem k_41 : kt 41 = (2, 20) := by decide +kernel
theorem k_42 : kt 42 = (1, 4) := by decide +kernel
theorem k_43 : kt 43 = (1, 4) := by decide +kernel
theorem k_44 : kt 44 = (1, 4) := by decide +kernel
theorem k_45 : kt 45 = (1, 4) := by decide +kernel
theorem k_46 : kt 46 = (1, 4) := by decide +kernel
theorem k_47 : kt 47 = (1, 4) := by decide +kernel
theorem k_48 : kt 48 = (1, 4) := by decide +kernel
theorem k_49 : kt 49 = (1, 4) := by decide +kernel
theorem k_50 : kt 50 = (1, 12) := by decide +kernel
theorem k_51 : kt 51 = (1, 12) := by decide +kernel
theorem k_52 : kt 52 = (1, 12) := by decide +kernel
theorem k_53 : kt 53 = (2, 12) := by decide +kernel
theorem k_54 : kt 54 = (1, 4) := by decide +kernel
theorem k_55 : kt 55 = (1, 80) := by decide +kernel
theorem k_56 : kt 56 = (7, 4) := by decide +kernel
theorem k_57 : kt 57 = (1, 60) := by decide +kernel
theorem k_58 : kt 58 = (1, 60) := by decide +kernel
theorem k_59 : kt 59 = (1, 60) := by decide +kernel
theorem k_60 : kt 60 = (1, 60) := by decide +kernel
theorem k_61 : kt 61 = (1, 4) := by decide +kernel
theorem k_62 : kt 62 = (1, 4) := by decide +kernel
theorem k_63 : kt 63 = (22, 0) := by decide +kernel
theorem k_64 : kt 64 = (1, 80) := by decide +kernel
theorem k_65 : kt 65 = (1, 20) := by decide +kernel
theorem k_66 : kt 66 = (1, 20) := by decide +kernel
theorem k_67 : kt 67 = (1, 20) := by decide +kernel
theorem k_68 : kt 68 = (1, 40) := by decide +kernel
theorem k_69 : kt 69 = (1, 40) := by decide +kernel
theorem k_70 : kt 70 = (1, 10) := by decide +kernel
theorem k_71 : kt 71 = (2, 10) := by decide +kernel
theorem k_72 : kt 72 = (1, 40) := by decide +kernel
theorem k_73 : kt 73 = (1, 10) := by decide +kernel
theorem k_74 : kt 74 = (1, 10) := by decide +kernel
theorem k_75 : kt 75 = (2, 10) := by decide +kernel
theorem k_76 : kt 76 = (1, 4) := by decide +kernel
theorem k_77 : kt 77 = (1, 4) := by decide +kernel
theorem k_78 : kt 78 = (1, 4) := by decide +kernel
theorem k_79 : kt 79 = (1, 4) := by decide +kernel
theorem k_80 : kt 80 = (1, 4) := by decide +kernel
theorem k_81 : kt 81 = (1, 20) := by decide +kernel
theorem k_82 : kt 82 = (1, 20) := by decide +kernel
theorem k_83 : kt 83 = (1, 20) := by decide +kernel
theorem k_84 : kt 84 = (2, 4) := by decide +kernel
theorem k_85 : kt 85 = (1, 4) := by decide +kernel
theorem k_86 : kt 86 = (1, 4) := by decide +kernel
theorem k_87 : kt 87 = (1, 4) := by decide +kernel
theorem k_88 : kt 88 = (1, 4) := by decide +kernel
theorem k_89 : kt 89 = (1, 1500) := by decide +kernel
theorem k_90 : kt 90 = (1, 1500) := by decide +kernel
theorem k_91 : kt 91 = (1, 1500) := by decide +kernel
theorem k_92 : kt 92 = (1, 1500) := by decide +kernel
theorem k_93 : kt 93 = (1, 1500) := by decide +kernel
theorem k_94 : kt 94 = (1, 1500) := by decide +kernel
theorem k_95 : kt 95 = (1, 4096) := by decide +kernel
theorem k_96 : kt 96 = (1, 12) := by decide +kernel
theorem k_97 : kt 97 = (1, 16) := by decide +kernel
theorem k_98 : kt 98 = (1, 16) := by decide +kernel
theorem k_99 : kt 99 = (1, 16) := by decide +kernel
theorem k_100 : kt 100 = (1, 4) := by decide +kernel
theorem k_101 : kt 101 = (1, 6) := by decide +kernel
theorem k_102 : kt 102 = (1, 1792) := by decide +kernel
theorem k_103 : kt 103 = (1, 6) := by decide +kernel
theorem k_104 : kt 104 = (1, 20) := by decide +kernel
theorem k_105 : kt 105 = (2, 20) := by decide +kernel
theorem k_106 : kt 106 = (1, 4) := by decide +kernel
theorem k_107 : kt 107 = (1, 4) := by decide +kernel
theorem k_108 : kt 108 = (1, 4) := by decide +kernel
theorem k_109 : kt 109 = (1, 4) := by decide +kernel
theorem k_110 : kt 110 = (1, 4) := by decide +kernel
theorem k_111 : kt 111 = (1, 4) := by decide +kernel
theorem k_112 : kt 112 = (1, 4) := by decide +kernel
theorem k_113 : kt 113 = (1, 4) := by decide +kernel
theorem k_114 : kt 114 = (1, 12) := by decide +kernel
theorem k_115 : kt 115 = (1, 12) := by decide +kernel
theorem k_116 : kt 116 = (1, 12) := by decide +kernel
theorem k_117 : kt 117 = (1, 4) := by decide +kernel
theorem k_118 : kt 118 = (1, 80) := by decide +kernel
theorem k_119 : kt 119 = (2, 4) := by decide +kernel
theorem k_120 : kt 120 = (1, 4) := by decide +kernel
theorem k_121 : kt 121 = (1, 4) := by decide +kernel
theorem k_122 : kt 122 = (1, 240) := by decide +kernel
theorem k_123 : kt 123 = (1, 60) := by decide +kernel
theorem r_1_0 : rt 1 0 = 2 := by decide +kernel
theorem r_1_1 : rt 1 1 = 3 := by decide +kernel
theorem r_1_2 : rt 1 2 = 4 := by decide +kernel
theorem r_1_3 : rt 1 3 = 5 := by decide +kernel
theorem r_1_4 : rt 1 4 = 6 := by decide +kernel
theorem r_1_5 : rt 1 5 = 7 := by decide +kernel
theorem r_1_6 : rt 1 6 = 8 := by decide +kernel
theorem r_1_7 : rt 1 7 = 9 := by decide +kernel
theorem r_2_0 : rt 2 0 = 10 := by decide +kernel
theorem r_2_1 : rt 2 1 = 11 := by decide +kernel
theorem r_2_2 : rt 2 2 = 12 := by decide +kernel
theorem r_2_3 : rt 2 3 = 13 := by decide +kernel
theorem r_2_5 : rt 2 5 = 14 := by decide +kernel
theorem r_2_7 : rt 2 7 = 15 := by decide +kernel
theorem r_2_8 : rt 2 8 = 16 := by decide +kernel
theorem r_2_9 : rt 2 9 = 17 := by decide +kernel
theorem r_2_11 : rt 2 11 = 18 := by decide +kernel
theorem r_2_12 : rt 2 12 = 19 := by decide +kernel
theorem r_2_13 : rt 2 13 = 20 := by decide +kernel
theorem r_2_14 : rt 2 14 = 21 := by decide +kernel
theorem r_3_0 : rt 3 0 = 2 := by decide +kernel
theorem r_3_1 : rt 3 1 = 22 := by decide +kernel
theorem r_3_7 : rt 3 7 = 23 := by decide +kernel
theorem r_4_0 : rt 4 0 = 3 := by decide +kernel
theorem r_4_1 : rt 4 1 = 24 := by decide +kernel
theorem r_4_2 : rt 4 2 = 25 := by decide +kernel
theorem r_4_3 : rt 4 3 = 26 := by decide +kernel
theorem r_4_4 : rt 4 4 = 27 := by decide +kernel
theorem r_4_6 : rt 4 6 = 28 := by decide +kernel
theorem r_5_0 : rt 5 0 = 29 := by decide +kernel
theorem r_5_2 : rt 5 2 = 30 := by decide +kernel
theorem r_5_5 : rt 5 5 = 31 := by decide +kernel
theorem r_5_6 : rt 5 6 = 39 := by decide +kernel
theorem r_6_0 : rt 6 0 = 40 := by decide +kernel
theorem r_6_1 : rt 6 1 = 41 := by decide +kernel
theorem r_6_2 : rt 6 2 = 42 := by decide +kernel
theorem r_6_3 : rt 6 3 = 43 := by decide +kernel
theorem r_6_4 : rt 6 4 = 44 := by decide +kernel
theorem r_6_5 : rt 6 5 = 45 := by decide +kernel
theorem r_6_6 : rt 6 6 = 46 := by decide +kernel
theorem r_6_8 : rt 6 8 = 47 := by decide +kernel
theorem r_6_9 : rt 6 9 = 48 := by decide +kernel
theorem r_6_10 : rt 6 10 = 49 := by decide +kernel
theorem r_7_0 : rt 7 0 = 50 := by decide +kernel
theorem r_7_1 : rt 7 1 = 51 := by decide +kernel
theorem r_7_4 : rt 7 4 = 52 := by decide +kernel
theorem r_7_5 : rt 7 5 = 53 := by decide +kernel
theorem r_7_6 : rt 7 6 = 54 := by decide +kernel
theorem r_8_0 : rt 8 0 = 2 := by decide +kernel
theorem r_8_1 : rt 8 1 = 3 := by decide +kernel
theorem r_8_2 : rt 8 2 = 55 := by decide +kernel
theorem r_9_0 : rt 9 0 = 56 := by decide +kernel
theorem r_9_1 : rt 9 1 = 61 := by decide +kernel
theorem r_9_2 : rt 9 2 = 62 := by decide +kernel
theorem r_63_1 : rt 63 1 = 64 := by decide +kernel
theorem r_63_2 : rt 63 2 = 65 := by decide +kernel
theorem r_63_3 : rt 63 3 = 66 := by decide +kernel
theorem r_63_4 : rt 63 4 = 67 := by decide +kernel
theorem r_63_6 : rt 63 6 = 68 := by decide +kernel
theorem r_63_8 : rt 63 8 = 69 := by decide +kernel
theorem r_63_9 : rt 63 9 = 70 := by decide +kernel
theorem r_63_10 : rt 63 10 = 71 := by decide +kernel
theorem r_63_12 : rt 63 12 = 72 := by decide +kernel
theorem r_63_13 : rt 63 13 = 73 := by decide +kernel
theorem r_63_14 : rt 63 14 = 74 := by decide +kernel
theorem r_63_15 : rt 63 15 = 75 := by decide +kernel
theorem r_63_17 : rt 63 17 = 76 := by decide +kernel
theorem r_63_18 : rt 63 18 = 77 := by decide +kernel
theorem r_63_19 : rt 63 19 = 78 := by decide +kernel
theorem r_63_20 : rt 63 20 = 79 := by decide +kernel
theorem r_63_21 : rt 63 21 = 80 := by decide +kernel
theorem r_63_22 : rt 63 22 = 81 := by decide +kernel
theorem r_63_23 : rt 63 23 = 82 := by decide +kernel
theorem r_63_24 : rt 63 24 = 83 := by decide +kernel
theorem r_63_25 : rt 63 25 = 84 := by decide +kernel
theorem r_63_26 : rt 63 26 = 85 := by decide +kernel
theorem r_63_27 : rt 63 27 = 86 := by decide +kernel
theorem r_63_28 : rt 63 28 = 87 := by decide +kernel
theorem r_63_29 : rt 63 29 = 88 := by decide +kernel
theorem r_63_35 : rt 63 35 = 89 := by decide +kernel
theorem r_63_36 : rt 63 36 = 90 := by decide +kernel
theorem r_63_37 : rt 63 37 = 91 := by decide +kernel
theorem r_63_38 : rt 63 38 = 92 := by decide +kernel
theorem r_63_39 : rt 63 39 = 93 := by decide +kernel
theorem r_63_40 : rt 63 40 = 94 := by decide +kernel
theorem r_63_41 : rt 63 41 = 95 := by decide +kernel
theorem r_63_43 : rt 63 43 = 96 := by decide +kernel
theorem r_63_44 : rt 63 44 = 97 := by decide +kernel
theorem r_63_45 : rt 63 45 = 98 := by decide +kernel
theorem r_63_46 : rt 63 46 = 99 := by decide +kernel
theorem r_63_51 : rt 63 51 = 100 := by decide +kernel
theorem r_63_53 : rt 63 53 = 101 := by decide +kernel
theorem r_63_55 : rt 63 55 = 102 := by decide +kernel
theorem r_63_56 : rt 63 56 = 103 := by decide +kernel
theorem r_63_57 : rt 63 57 = 104 := by decide +kernel
theorem r_63_58 : rt 63 58 = 105 := by decide +kernel
theorem r_63_60 : rt 63 60 = 106 := by decide +kernel
theorem r_63_61 : rt 63 61 = 107 := by decide +kernel
theorem r_63_62 : rt 63 62 = 108 := by decide +kernel
theorem r_63_63 : rt 63 63 = 109 := by decide +kernel
theorem r_63_64 : rt 63 64 = 110 := by decide +kernel
theorem r_63_65 : rt 63 65 = 111 := by decide +kernel
theorem r_63_66 : rt 63 66 = 112 := by decide +kernel
theorem r_63_67 : rt 63 67 = 113 := by decide +kernel
theorem r_63_69 : rt 63 69 = 114 := by decide +kernel
theorem r_63_70 : rt 63 70 = 115 := by decide +kernel
theorem r_63_71 : rt 63 71 = 116 := by decide +kernel
theorem r_63_73 : rt 63 73 = 117 := by decide +kernel
theorem r_63_75 : rt 63 75 = 118 := by decide +kernel
theorem r_63_78 : rt 63 78 = 119 := by decide +kernel
theorem r_63_79 : rt 63 79 = 120 := by decide +kernel
theorem r_63_80 : rt 63 80 = 121 := by decide +kernel
theorem r_63_81 : rt 63 81 = 122 := by decide +kernel
theorem r_63_82 : rt 63 82 = 123 := by decide +kernel
