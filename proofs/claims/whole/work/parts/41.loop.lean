def R_law : String := "FloatTowersLaw"
def lw_P (b : Addr) (xs : List Int32) (args : Array Value) (s : State) : Prop := args = #[.ref b] ∧ s.IntsAt b xs ∧ xs.length ≤ 4096 ∧ (Jvm.Cond.and given_1 narrow_1).before args s = true
def lw_Q (_ : Array Value) (s : State) (o : Outcome) (t : State) : Prop := o = .returned (some (.int 1)) ∧ Framed s o t [] 600000 7302250
def lw_Z (below : List Frame) (a : Array Value) (s : State) : State → Prop := fun t => ∃ o, t.status = .running ∧ Ended t below o ∧ lw_Q a s o t
/-- the law's own end, with 1 on the stack, nothing written that was there before, its room as the claim has it -/
theorem lw_ret {p : Program} {l : Launch} {e : Env} {s : State} {m : MethodId} {below : List Frame} {meth : Method} {c : Code} {b : Nat} (hx : p.tables.exec = Jvm.exec) (hb : c.code = code) (hr : meth.sig.returnType = ret) (hlocks : meth.locks = false) {pc : Nat} {H : Heap} {ls : Array Slot} (hdg : decode code pc = .ok (.ireturn, 1)) : W p l e room_1 s m #[Value.ref b] below meth c H [] 600000 7302250 (lw_Z below #[Value.ref b] s) (F0 m pc ls [.int 1]) := by
  intro T hT X
  obtain ⟨fs, hret, hrun, hended, hW, hframe⟩ := X.leave (v := some (.int 1)) (hlocks := hlocks) (fun h => by rw [hr] at h; cases h)
  have hmeth' : T.vm.method? m = some meth := X.method'
  refine ⟨T.setFrames fs, ?_, .returned (some (.int 1)), hrun, hended, rfl, ⟨_, rfl⟩, hW, hframe⟩
  jvm_step X.here [X.here.top, hx, hb, hdg, hmeth', hr, ret, narrow_b1]
  (try refine ⟨rfl, ?_⟩); (try refine ⟨rfl, ?_⟩)
  first | (intro acts; rw [hret _ acts rfl rfl rfl]) | rw [hret _ _ rfl rfl rfl]
  exact Steps.refl _
/-- what holds at the law's entry: the machine, the code, the tables' words (any of lw_tbl by 'hts w (by decide +kernel)'), the script of L ints xs at the cell b, what the Statement gives of the start (any of its parts by flat_of_before) -/
def lw_At (p : Program) (s : State) (m : MethodId) (meth : Method) (c : Code) (b L : Nat) (xs : Nat → Int32) : Prop :=
  p.tables.exec = Jvm.exec ∧ c.code = code ∧ meth.sig.returnType = ret ∧ c.maxLocals = 4 ∧ s.vm.findClass R_law = some m.cls ∧ (∀ w ∈ lw_tbl, w.before #[Value.ref b] s = true) ∧ va_X b L xs s s.heap ∧ b < s.heap.size ∧ meth.locks = false ∧ (Jvm.Cond.and given_1 narrow_1).before #[Value.ref b] s = true
theorem and63 (x : Int32) : ∃ k : Nat, k < 64 ∧ x &&& 63 = nI k := by
  have h : (x.toBitVec &&& 63#32).toNat < 64 := by
    rw [BitVec.toNat_and]
    exact Nat.lt_of_le_of_lt Nat.and_le_right (by decide)
  refine ⟨(x.toBitVec &&& 63#32).toNat, h, ?_⟩
  apply Int32.toBitVec_inj.mp
  show x.toBitVec &&& 63#32 = BitVec.ofNat 32 _
  rw [BitVec.ofNat_toNat, BitVec.setWidth_eq]

section LW
variable {p : Program} {l : Launch} {e : Env} {s : State} {m : MethodId} {below : List Frame} {meth : Method} {c : Code} {b L : Nat} {xs : Nat → Int32} {D : va_G} {cT : Nat → ClassId} {lo : Nat} {H : Heap} {locs : List Loc} {ls : Array Slot} {cells slots : Nat} {Q : State → Prop}
set_option maxRecDepth 100000 in
set_option maxHeartbeats 4000000 in
theorem lc_table (F : Fx p s m #[Value.ref b] c cL_law RL 4 D cT lo) (hX : va_X b L xs s s.heap) (hbl : b < s.heap.size) (hbA : ¬ lo ≤ b) {A : Nat → Int32} {i : Int32} (hA : lA L xs i A) {w w9 : Wd} {ad0 : Nat → Nat} (hP : wP D cT lo NB w ad0 H) (hS : va_S (fun q => lo ≤ q) s.heap H locs) (hl : lv_has ls 4 [(0, .ref b), (1, .ref (ad0 1)), (2, .ref (ad0 63)), (3, .int i)]) (hce : cells + 13 ≤ 600000) (hsl : slots + 89 ≤ 7302250) (h : l_step A w = some w9)
    (kk : ∀ (ad : Nat → Nat) (H : Heap) (locs : List Loc) (ls : Array Slot), wP D cT lo NB w9 ad H → va_S (fun q => lo ≤ q) s.heap H locs → lv_has ls 4 [(0, .ref b), (1, .ref (ad 1)), (2, .ref (ad 63)), (3, .int i)] → W p l e room_1 s m #[Value.ref b] below meth c H locs (cells + 13) (slots + 89) Q (F0 m 2228 ls [])) : W p l e room_1 s m #[Value.ref b] below meth c H locs cells slots Q (F0 m 33 ls [.int (A 0 &&& 63)]) := by
  obtain ⟨k, hk, e⟩ := and63 (A 0)
  unfold l_step at h
  rw [e] at h ⊢
  rw [nI_clamp (by omega)] at h
  revert h
  match k, hk with
  | 0, _ => exact fun h => lv_tableIn (off := 235) (tgt := 268) F.1 F.2.1 dL_law_33 (by decide) (by decide) rfl (by decide) (lc_0 F hX hbl hbA hA hP hS hl hce hsl h kk)
  | 1, _ => exact fun h => lv_tableIn (off := 268) (tgt := 301) F.1 F.2.1 dL_law_33 (by decide) (by decide) rfl (by decide) (lc_1 F hX hbl hbA hA hP hS hl hce hsl h kk)
  | 2, _ => exact fun h => lv_tableIn (off := 355) (tgt := 388) F.1 F.2.1 dL_law_33 (by decide) (by decide) rfl (by decide) (lc_2 F hX hbl hbA hA hP hS hl hce hsl h kk)
  | 3, _ => exact fun h => lv_tableIn (off := 388) (tgt := 421) F.1 F.2.1 dL_law_33 (by decide) (by decide) rfl (by decide) (lc_3 F hX hbl hbA hA hP hS hl hce hsl h kk)
  | 4, _ => exact fun h => lv_tableIn (off := 441) (tgt := 474) F.1 F.2.1 dL_law_33 (by decide) (by decide) rfl (by decide) (lc_4 F hX hbl hbA hA hP hS hl hce hsl h kk)
  | 5, _ => exact fun h => lv_tableIn (off := 504) (tgt := 537) F.1 F.2.1 dL_law_33 (by decide) (by decide) rfl (by decide) (lc_5 F hX hbl hbA hA hP hS hl hce hsl h kk)
  | 6, _ => exact fun h => lv_tableIn (off := 553) (tgt := 586) F.1 F.2.1 dL_law_33 (by decide) (by decide) rfl (by decide) (lc_6 F hX hbl hbA hA hP hS hl hce hsl h kk)
  | 7, _ => exact fun h => lv_tableIn (off := 656) (tgt := 689) F.1 F.2.1 dL_law_33 (by decide) (by decide) rfl (by decide) (lc_7 F hX hbl hbA hA hP hS hl hce hsl h kk)
  | 8, _ => exact fun h => lv_tableIn (off := 695) (tgt := 728) F.1 F.2.1 dL_law_33 (by decide) (by decide) rfl (by decide) (lc_8 F hX hbl hbA hA hP hS hl hce hsl h kk)
  | 9, _ => exact fun h => lv_tableIn (off := 738) (tgt := 771) F.1 F.2.1 dL_law_33 (by decide) (by decide) rfl (by decide) (lc_9 F hX hbl hbA hA hP hS hl hce hsl h kk)
  | 10, _ => exact fun h => lv_tableIn (off := 791) (tgt := 824) F.1 F.2.1 dL_law_33 (by decide) (by decide) rfl (by decide) (lc_10 F hX hbl hbA hA hP hS hl hce hsl h kk)
  | 11, _ => exact fun h => lv_tableIn (off := 844) (tgt := 877) F.1 F.2.1 dL_law_33 (by decide) (by decide) rfl (by decide) (lc_11 F hX hbl hbA hA hP hS hl hce hsl h kk)
  | 12, _ => exact fun h => lv_tableIn (off := 897) (tgt := 930) F.1 F.2.1 dL_law_33 (by decide) (by decide) rfl (by decide) (lc_12 F hX hbl hbA hA hP hS hl hce hsl h kk)
  | 13, _ => exact fun h => lv_tableIn (off := 920) (tgt := 953) F.1 F.2.1 dL_law_33 (by decide) (by decide) rfl (by decide) (lc_13 F hX hbl hbA hA hP hS hl hce hsl h kk)
  | 14, _ => exact fun h => lv_tableIn (off := 953) (tgt := 986) F.1 F.2.1 dL_law_33 (by decide) (by decide) rfl (by decide) (lc_14 F hX hbl hbA hA hP hS hl hce hsl h kk)
  | 15, _ => exact fun h => lv_tableIn (off := 996) (tgt := 1029) F.1 F.2.1 dL_law_33 (by decide) (by decide) rfl (by decide) (lc_15 F hX hbl hbA hA hP hS hl hce hsl h kk)
  | 16, _ => exact fun h => lv_tableIn (off := 1019) (tgt := 1052) F.1 F.2.1 dL_law_33 (by decide) (by decide) rfl (by decide) (lc_16 F hX hbl hbA hA hP hS hl hce hsl h kk)
  | 17, _ => exact fun h => lv_tableIn (off := 1052) (tgt := 1085) F.1 F.2.1 dL_law_33 (by decide) (by decide) rfl (by decide) (lc_17 F hX hbl hbA hA hP hS hl hce hsl h kk)
  | 18, _ => exact fun h => lv_tableIn (off := 1085) (tgt := 1118) F.1 F.2.1 dL_law_33 (by decide) (by decide) rfl (by decide) (lc_18 F hX hbl hbA hA hP hS hl hce hsl h kk)
  | 19, _ => exact fun h => lv_tableIn (off := 1160) (tgt := 1193) F.1 F.2.1 dL_law_33 (by decide) (by decide) rfl (by decide) (lc_19 F hX hbl hbA hA hP hS hl hce hsl h kk)
  | 20, _ => exact fun h => lv_tableIn (off := 1183) (tgt := 1216) F.1 F.2.1 dL_law_33 (by decide) (by decide) rfl (by decide) (lc_20 F hX hbl hbA hA hP hS hl hce hsl h kk)
  | 21, _ => exact fun h => lv_tableIn (off := 1196) (tgt := 1229) F.1 F.2.1 dL_law_33 (by decide) (by decide) rfl (by decide) (lc_21 F hX hbl hbA hA hP hS hl hce hsl h kk)
  | 22, _ => exact fun h => lv_tableIn (off := 1259) (tgt := 1292) F.1 F.2.1 dL_law_33 (by decide) (by decide) rfl (by decide) (lc_22 F hX hbl hbA hA hP hS hl hce hsl h kk)
  | 23, _ => exact fun h => lv_tableIn (off := 1292) (tgt := 1325) F.1 F.2.1 dL_law_33 (by decide) (by decide) rfl (by decide) (lc_23 F hX hbl hbA hA hP hS hl hce hsl h kk)
  | 24, _ => exact fun h => lv_tableIn (off := 1325) (tgt := 1358) F.1 F.2.1 dL_law_33 (by decide) (by decide) rfl (by decide) (lc_24 F hX hbl hbA hA hP hS hl hce hsl h kk)
  | 25, _ => exact fun h => lv_tableIn (off := 1348) (tgt := 1381) F.1 F.2.1 dL_law_33 (by decide) (by decide) rfl (by decide) (lc_25 F hX hbl hbA hA hP hS hl hce hsl h kk)
  | 26, _ => exact fun h => lv_tableIn (off := 1371) (tgt := 1404) F.1 F.2.1 dL_law_33 (by decide) (by decide) rfl (by decide) (lc_26 F hX hbl hbA hA hP hS hl hce hsl h kk)
  | 27, _ => exact fun h => lv_tableIn (off := 1394) (tgt := 1427) F.1 F.2.1 dL_law_33 (by decide) (by decide) rfl (by decide) (lc_27 F hX hbl hbA hA hP hS hl hce hsl h kk)
  | 28, _ => exact fun h => lv_tableIn (off := 1417) (tgt := 1450) F.1 F.2.1 dL_law_33 (by decide) (by decide) rfl (by decide) (lc_28 F hX hbl hbA hA hP hS hl hce hsl h kk)
  | 29, _ => exact fun h => lv_tableIn (off := 1440) (tgt := 1473) F.1 F.2.1 dL_law_33 (by decide) (by decide) rfl (by decide) (lc_29 F hX hbl hbA hA hP hS hl hce hsl h kk)
  | 30, _ => exact fun h => lv_tableIn (off := 1463) (tgt := 1496) F.1 F.2.1 dL_law_33 (by decide) (by decide) rfl (by decide) (lc_30 F hX hbl hbA hA hP hS hl hce hsl h kk)
  | 31, _ => exact fun h => lv_tableIn (off := 1486) (tgt := 1519) F.1 F.2.1 dL_law_33 (by decide) (by decide) rfl (by decide) (lc_31 F hX hbl hbA hA hP hS hl hce hsl h kk)
  | 32, _ => exact fun h => lv_tableIn (off := 1499) (tgt := 1532) F.1 F.2.1 dL_law_33 (by decide) (by decide) rfl (by decide) (lc_32 F hX hbl hbA hA hP hS hl hce hsl h kk)
  | 33, _ => exact fun h => lv_tableIn (off := 1522) (tgt := 1555) F.1 F.2.1 dL_law_33 (by decide) (by decide) rfl (by decide) (lc_33 F hX hbl hbA hA hP hS hl hce hsl h kk)
  | 34, _ => exact fun h => lv_tableIn (off := 1581) (tgt := 1614) F.1 F.2.1 dL_law_33 (by decide) (by decide) rfl (by decide) (lc_34 F hX hbl hbA hA hP hS hl hce hsl h kk)
  | 35, _ => exact fun h => lv_tableIn (off := 1624) (tgt := 1657) F.1 F.2.1 dL_law_33 (by decide) (by decide) rfl (by decide) (lc_35 F hX hbl hbA hA hP hS hl hce hsl h kk)
  | 36, _ => exact fun h => lv_tableIn (off := 1667) (tgt := 1700) F.1 F.2.1 dL_law_33 (by decide) (by decide) rfl (by decide) (lc_36 F hX hbl hbA hA hP hS hl hce hsl h kk)
  | 37, _ => exact fun h => lv_tableIn (off := 1680) (tgt := 1713) F.1 F.2.1 dL_law_33 (by decide) (by decide) rfl (by decide) (lc_37 F hX hbl hbA hA hP hS hl hce hsl h kk)
  | 38, _ => exact fun h => lv_tableIn (off := 1703) (tgt := 1736) F.1 F.2.1 dL_law_33 (by decide) (by decide) rfl (by decide) (lc_38 F hX hbl hbA hA hP hS hl hce hsl h kk)
  | 39, _ => exact fun h => lv_tableIn (off := 1736) (tgt := 1769) F.1 F.2.1 dL_law_33 (by decide) (by decide) rfl (by decide) (lc_39 F hX hbl hbA hA hP hS hl hce hsl h kk)
  | 40, _ => exact fun h => lv_tableIn (off := 1769) (tgt := 1802) F.1 F.2.1 dL_law_33 (by decide) (by decide) rfl (by decide) (lc_40 F hX hbl hbA hA hP hS hl hce hsl h kk)
  | 41, _ => exact fun h => lv_tableIn (off := 1792) (tgt := 1825) F.1 F.2.1 dL_law_33 (by decide) (by decide) rfl (by decide) (lc_41 F hX hbl hbA hA hP hS hl hce hsl h kk)
  | 42, _ => exact fun h => lv_tableIn (off := 1815) (tgt := 1848) F.1 F.2.1 dL_law_33 (by decide) (by decide) rfl (by decide) (lc_42 F hX hbl hbA hA hP hS hl hce hsl h kk)
  | 43, _ => exact fun h => lv_tableIn (off := 1838) (tgt := 1871) F.1 F.2.1 dL_law_33 (by decide) (by decide) rfl (by decide) (lc_43 F hX hbl hbA hA hP hS hl hce hsl h kk)
  | 44, _ => exact fun h => lv_tableIn (off := 1861) (tgt := 1894) F.1 F.2.1 dL_law_33 (by decide) (by decide) rfl (by decide) (lc_44 F hX hbl hbA hA hP hS hl hce hsl h kk)
  | 45, _ => exact fun h => lv_tableIn (off := 1874) (tgt := 1907) F.1 F.2.1 dL_law_33 (by decide) (by decide) rfl (by decide) (lc_45 F hX hbl hbA hA hP hS hl hce hsl h kk)
  | 46, _ => exact fun h => lv_tableIn (off := 1887) (tgt := 1920) F.1 F.2.1 dL_law_33 (by decide) (by decide) rfl (by decide) (lc_46 F hX hbl hbA hA hP hS hl hce hsl h kk)
  | 47, _ => exact fun h => lv_tableIn (off := 1910) (tgt := 1943) F.1 F.2.1 dL_law_33 (by decide) (by decide) rfl (by decide) (lc_47 F hX hbl hbA hA hP hS hl hce hsl h kk)
  | 48, _ => exact fun h => lv_tableIn (off := 1953) (tgt := 1986) F.1 F.2.1 dL_law_33 (by decide) (by decide) rfl (by decide) (lc_48 F hX hbl hbA hA hP hS hl hce hsl h kk)
  | 49, _ => exact fun h => lv_tableIn (off := 1976) (tgt := 2009) F.1 F.2.1 dL_law_33 (by decide) (by decide) rfl (by decide) (lc_49 F hX hbl hbA hA hP hS hl hce hsl h kk)
  | 50, _ => exact fun h => lv_tableIn (off := 2029) (tgt := 2062) F.1 F.2.1 dL_law_33 (by decide) (by decide) rfl (by decide) (lc_50 F hX hbl hbA hA hP hS hl hce hsl h kk)
  | 51, _ => exact fun h => lv_tableIn (off := 2072) (tgt := 2105) F.1 F.2.1 dL_law_33 (by decide) (by decide) rfl (by decide) (lc_51 F hX hbl hbA hA hP hS hl hce hsl h kk)
  | 52, _ => exact fun h => lv_tableIn (off := 2135) (tgt := 2168) F.1 F.2.1 dL_law_33 (by decide) (by decide) rfl (by decide) (lc_52 F hX hbl hbA hA hP hS hl hce hsl h kk)
  | 53, _ => exact fun h => lv_tableIn (off := 2158) (tgt := 2191) F.1 F.2.1 dL_law_33 (by decide) (by decide) rfl (by decide) (lc_53 F hX hbl hbA hA hP hS hl hce hsl h kk)
  | 54, _ => exact fun h => lv_tableIn (off := 2181) (tgt := 2214) F.1 F.2.1 dL_law_33 (by decide) (by decide) rfl (by decide) (lc_54 F hX hbl hbA hA hP hS hl hce hsl h kk)
  | 55, _ => exact fun h => lv_tableOut (tgt := 2228) F.1 F.2.1 dL_law_33 (by decide) (by decide) (by cases h; exact W.widen (k := cells + 13) (n := slots + 89) (by omega) (by omega) (kk _ _ _ _ hP hS hl))
  | 56, _ => exact fun h => lv_tableOut (tgt := 2228) F.1 F.2.1 dL_law_33 (by decide) (by decide) (by cases h; exact W.widen (k := cells + 13) (n := slots + 89) (by omega) (by omega) (kk _ _ _ _ hP hS hl))
  | 57, _ => exact fun h => lv_tableOut (tgt := 2228) F.1 F.2.1 dL_law_33 (by decide) (by decide) (by cases h; exact W.widen (k := cells + 13) (n := slots + 89) (by omega) (by omega) (kk _ _ _ _ hP hS hl))
  | 58, _ => exact fun h => lv_tableOut (tgt := 2228) F.1 F.2.1 dL_law_33 (by decide) (by decide) (by cases h; exact W.widen (k := cells + 13) (n := slots + 89) (by omega) (by omega) (kk _ _ _ _ hP hS hl))
  | 59, _ => exact fun h => lv_tableOut (tgt := 2228) F.1 F.2.1 dL_law_33 (by decide) (by decide) (by cases h; exact W.widen (k := cells + 13) (n := slots + 89) (by omega) (by omega) (kk _ _ _ _ hP hS hl))
  | 60, _ => exact fun h => lv_tableOut (tgt := 2228) F.1 F.2.1 dL_law_33 (by decide) (by decide) (by cases h; exact W.widen (k := cells + 13) (n := slots + 89) (by omega) (by omega) (kk _ _ _ _ hP hS hl))
  | 61, _ => exact fun h => lv_tableOut (tgt := 2228) F.1 F.2.1 dL_law_33 (by decide) (by decide) (by cases h; exact W.widen (k := cells + 13) (n := slots + 89) (by omega) (by omega) (kk _ _ _ _ hP hS hl))
  | 62, _ => exact fun h => lv_tableOut (tgt := 2228) F.1 F.2.1 dL_law_33 (by decide) (by decide) (by cases h; exact W.widen (k := cells + 13) (n := slots + 89) (by omega) (by omega) (kk _ _ _ _ hP hS hl))
  | 63, _ => exact fun h => lv_tableOut (tgt := 2228) F.1 F.2.1 dL_law_33 (by decide) (by decide) (by cases h; exact W.widen (k := cells + 13) (n := slots + 89) (by omega) (by omega) (kk _ _ _ _ hP hS hl))
  | _ + 64, hk => exact absurd hk (by omega)
end LW
theorem lt_1 {j : Nat} {c : Cond} (h : tables_1_1[j]? = some c) : c ∈ lw_tbl := List.mem_append_right _ (show c ∈ tables_1 from List.mem_append_left _ (List.mem_of_getElem? h))
theorem lt_2 {j : Nat} {c : Cond} (h : tables_1_2[j]? = some c) : c ∈ lw_tbl := List.mem_append_right _ (show c ∈ tables_1 from List.mem_append_right _ (List.mem_append_left _ (List.mem_of_getElem? h)))
theorem lt_3 {j : Nat} {c : Cond} (h : tables_1_3[j]? = some c) : c ∈ lw_tbl := List.mem_append_right _ (show c ∈ tables_1 from List.mem_append_right _ (List.mem_append_right _ (List.mem_append_left _ (List.mem_of_getElem? h))))
theorem lt_4 {j : Nat} {c : Cond} (h : tables_1_4[j]? = some c) : c ∈ lw_tbl := List.mem_append_right _ (show c ∈ tables_1 from List.mem_append_right _ (List.mem_append_right _ (List.mem_append_right _ (List.mem_append_left _ (List.mem_of_getElem? h)))))
theorem lt_5 {j : Nat} {c : Cond} (h : tables_1_5[j]? = some c) : c ∈ lw_tbl := List.mem_append_right _ (show c ∈ tables_1 from List.mem_append_right _ (List.mem_append_right _ (List.mem_append_right _ (List.mem_append_right _ (List.mem_append_left _ (List.mem_of_getElem? h))))))
theorem lt_6 {j : Nat} {c : Cond} (h : tables_1_6[j]? = some c) : c ∈ lw_tbl := List.mem_append_right _ (show c ∈ tables_1 from List.mem_append_right _ (List.mem_append_right _ (List.mem_append_right _ (List.mem_append_right _ (List.mem_append_right _ (List.mem_append_left _ (List.mem_of_getElem? h)))))))
theorem lt_7 {j : Nat} {c : Cond} (h : tables_1_7[j]? = some c) : c ∈ lw_tbl := List.mem_append_right _ (show c ∈ tables_1 from List.mem_append_right _ (List.mem_append_right _ (List.mem_append_right _ (List.mem_append_right _ (List.mem_append_right _ (List.mem_append_right _ (List.mem_append_left _ (List.mem_of_getElem? h))))))))
theorem lt_8 {j : Nat} {c : Cond} (h : tables_1_8[j]? = some c) : c ∈ lw_tbl := List.mem_append_right _ (show c ∈ tables_1 from List.mem_append_right _ (List.mem_append_right _ (List.mem_append_right _ (List.mem_append_right _ (List.mem_append_right _ (List.mem_append_right _ (List.mem_append_right _ (List.mem_append_left _ (List.mem_of_getElem? h)))))))))
theorem lt_9 {j : Nat} {c : Cond} (h : tables_1_9[j]? = some c) : c ∈ lw_tbl := List.mem_append_right _ (show c ∈ tables_1 from List.mem_append_right _ (List.mem_append_right _ (List.mem_append_right _ (List.mem_append_right _ (List.mem_append_right _ (List.mem_append_right _ (List.mem_append_right _ (List.mem_append_right _ (List.mem_of_getElem? h)))))))))
theorem lw_nest {b : Nat} {s : State} (hts : ∀ w ∈ lw_tbl, w.before #[Value.ref b] s = true) : ∀ q ∈ nestL, va_Nw (.methodLinkNest q.1 q.2.1 q.2.2.1 q.2.2.2) s :=
  List.forall_mem_cons.mpr ⟨va_Nw.of rfl (hts _ (lt_1 (j := 28) rfl)), List.forall_mem_cons.mpr ⟨va_Nw.of rfl (hts _ (lt_1 (j := 98) rfl)), List.forall_mem_cons.mpr ⟨va_Nw.of rfl (hts _ (lt_1 (j := 214) rfl)), List.forall_mem_cons.mpr ⟨va_Nw.of rfl (hts _ (lt_2 (j := 53) rfl)), List.forall_mem_cons.mpr ⟨va_Nw.of rfl (hts _ (lt_2 (j := 173) rfl)), List.forall_mem_cons.mpr ⟨va_Nw.of rfl (hts _ (lt_2 (j := 176) rfl)), List.forall_mem_cons.mpr ⟨va_Nw.of rfl (hts _ (lt_3 (j := 21) rfl)), List.forall_mem_cons.mpr ⟨va_Nw.of rfl (hts _ (lt_3 (j := 46) rfl)), List.forall_mem_cons.mpr ⟨va_Nw.of rfl (hts _ (lt_3 (j := 55) rfl)), List.forall_mem_cons.mpr ⟨va_Nw.of rfl (hts _ (lt_3 (j := 141) rfl)), List.forall_mem_cons.mpr ⟨va_Nw.of rfl (hts _ (lt_3 (j := 162) rfl)), List.forall_mem_cons.mpr ⟨va_Nw.of rfl (hts _ (lt_3 (j := 163) rfl)), List.forall_mem_cons.mpr ⟨va_Nw.of rfl (hts _ (lt_4 (j := 24) rfl)), List.forall_mem_cons.mpr ⟨va_Nw.of rfl (hts _ (lt_4 (j := 25) rfl)), List.forall_mem_cons.mpr ⟨va_Nw.of rfl (hts _ (lt_4 (j := 94) rfl)), List.forall_mem_cons.mpr ⟨va_Nw.of rfl (hts _ (lt_4 (j := 192) rfl)), List.forall_mem_cons.mpr ⟨va_Nw.of rfl (hts _ (lt_5 (j := 29) rfl)), List.forall_mem_cons.mpr ⟨va_Nw.of rfl (hts _ (lt_5 (j := 98) rfl)), List.forall_mem_cons.mpr ⟨va_Nw.of rfl (hts _ (lt_5 (j := 149) rfl)), List.forall_mem_cons.mpr ⟨va_Nw.of rfl (hts _ (lt_5 (j := 219) rfl)), fun _ h => absurd h List.not_mem_nil⟩⟩⟩⟩⟩⟩⟩⟩⟩⟩⟩⟩⟩⟩⟩⟩⟩⟩⟩⟩
theorem lw_ao {b : Nat} {s : State} (hts : ∀ w ∈ lw_tbl, w.before #[Value.ref b] s = true) : ∀ C ∈ aoL, va_AO C s :=
  List.forall_mem_cons.mpr ⟨va_AO.of (hts _ (lt_1 (j := 33) rfl)), List.forall_mem_cons.mpr ⟨va_AO.of (hts _ (lt_1 (j := 95) rfl)), List.forall_mem_cons.mpr ⟨va_AO.of (hts _ (lt_3 (j := 53) rfl)), fun _ h => absurd h List.not_mem_nil⟩⟩⟩
theorem lw_aoa {b : Nat} {s : State} (hts : ∀ w ∈ lw_tbl, w.before #[Value.ref b] s = true) : wAOA s := hts (.arrayOver (.array .int)) (lt_1 (j := 219) rfl)
theorem lw_kn {b : Nat} {s : State} (hts : ∀ w ∈ lw_tbl, w.before #[Value.ref b] s = true) : ∀ k : Nat, ∃ y : ClassId × (Nat → Nat), ∀ q : vw_C, vwCl[k]? = some q → u_Kn s q.1 q.2.1 q.2.2 y.1 y.2 := fun k => by
  match k with
  | 0 =>
    obtain ⟨cC, iS, h⟩ := u_known (C := RX0) (T := TX0) (N := 4) (n := 4) hts (fun c h => (List.mem_filter.mp (inw_X0 c h)).1) (hts _ (lt_2 (j := 177) rfl))
    exact ⟨(cC, iS), fun q hq => by cases hq; exact h⟩
  | 1 =>
    obtain ⟨cC, iS, h⟩ := u_known (C := RX1) (T := TX1) (N := 17) (n := 17) hts (fun c h => (List.mem_filter.mp (inw_X1 c h)).1) (hts _ (lt_3 (j := 47) rfl))
    exact ⟨(cC, iS), fun q hq => by cases hq; exact h⟩
  | 2 =>
    obtain ⟨cC, iS, h⟩ := u_known (C := RX2) (T := TX2) (N := 11) (n := 11) hts (fun c h => (List.mem_filter.mp (inw_X2 c h)).1) (hts _ (lt_2 (j := 8) rfl))
    exact ⟨(cC, iS), fun q hq => by cases hq; exact h⟩
  | 3 =>
    obtain ⟨cC, iS, h⟩ := u_known (C := RX3) (T := TX3) (N := 11) (n := 11) hts (fun c h => (List.mem_filter.mp (inw_X3 c h)).1) (hts _ (lt_1 (j := 89) rfl))
    exact ⟨(cC, iS), fun q hq => by cases hq; exact h⟩
  | 4 =>
    obtain ⟨cC, iS, h⟩ := u_known (C := RX4) (T := TX4) (N := 4) (n := 4) hts (fun c h => (List.mem_filter.mp (inw_X4 c h)).1) (hts _ (lt_2 (j := 81) rfl))
    exact ⟨(cC, iS), fun q hq => by cases hq; exact h⟩
  | 5 =>
    obtain ⟨cC, iS, h⟩ := u_known (C := RX5) (T := TX5) (N := 8) (n := 8) hts (fun c h => (List.mem_filter.mp (inw_X5 c h)).1) (hts _ (lt_1 (j := 97) rfl))
    exact ⟨(cC, iS), fun q hq => by cases hq; exact h⟩
  | 6 =>
    obtain ⟨cC, iS, h⟩ := u_known (C := RX6) (T := TX6) (N := 4) (n := 4) hts (fun c h => (List.mem_filter.mp (inw_X6 c h)).1) (hts _ (lt_2 (j := 101) rfl))
    exact ⟨(cC, iS), fun q hq => by cases hq; exact h⟩
  | 7 =>
    obtain ⟨cC, iS, h⟩ := u_known (C := RX7) (T := TX7) (N := 8) (n := 8) hts (fun c h => (List.mem_filter.mp (inw_X7 c h)).1) (hts _ (lt_1 (j := 213) rfl))
    exact ⟨(cC, iS), fun q hq => by cases hq; exact h⟩
  | 8 =>
    obtain ⟨cC, iS, h⟩ := u_known (C := RX8) (T := TX8) (N := 16) (n := 16) hts (fun c h => (List.mem_filter.mp (inw_X8 c h)).1) (hts _ (lt_1 (j := 27) rfl))
    exact ⟨(cC, iS), fun q hq => by cases hq; exact h⟩
  | 9 =>
    obtain ⟨cC, iS, h⟩ := u_known (C := RX9) (T := TX9) (N := 7) (n := 7) hts (fun c h => (List.mem_filter.mp (inw_X9 c h)).1) (hts _ (lt_2 (j := 52) rfl))
    exact ⟨(cC, iS), fun q hq => by cases hq; exact h⟩
  | 10 =>
    obtain ⟨cC, iS, h⟩ := u_known (C := RX10) (T := TX10) (N := 11) (n := 11) hts (fun c h => (List.mem_filter.mp (inw_X10 c h)).1) (hts _ (lt_1 (j := 171) rfl))
    exact ⟨(cC, iS), fun q hq => by cases hq; exact h⟩
  | 11 =>
    obtain ⟨cC, iS, h⟩ := u_known (C := RX11) (T := TX11) (N := 8) (n := 8) hts (fun c h => (List.mem_filter.mp (inw_X11 c h)).1) (hts _ (lt_1 (j := 19) rfl))
    exact ⟨(cC, iS), fun q hq => by cases hq; exact h⟩
  | 12 =>
    obtain ⟨cC, iS, h⟩ := u_known (C := RX12) (T := TX12) (N := 84) (n := 84) hts (fun c h => (List.mem_filter.mp (inw_X12 c h)).1) (hts _ (lt_6 (j := 73) rfl))
    exact ⟨(cC, iS), fun q hq => by cases hq; exact h⟩
  | n + 13 => exact ⟨(0, fun _ => 0), fun q hq => by simp [vwCl] at hq⟩
theorem lw_arp {s : State} {A : Array Value} {ty : FieldType} (h : (Cond.arrayClass ty).before A s = true) : ∃ c : ClassId, ArrOfT s c ty ∧ s.vm.findClass ("[" ++ ty.toString) = some c := by
  obtain ⟨c, k, comp, h1, h2, h3⟩ := Cond.arrayClass_spec h
  exact ⟨c, fun N z => ⟨(fun k h => by cases h), k, h2, comp, h3⟩, h1⟩
theorem lw_aro {s : State} {A : Array Value} {C : String} (h : (Cond.arrayOver (.object C)).before A s = true) : ∃ c : ClassId, ArrOfT s c (.object C) ∧ va_RA s c (.object C) := by
  obtain ⟨comp, c, k, h1, h2, h3, h4, h5⟩ := Cond.arrayOver_spec h
  exact ⟨c, fun N z => ⟨(fun k h => by cases h), k, h3, comp, h4⟩, k, comp, h3, h4, h1, h5⟩
theorem lw_ara {s : State} {A : Array Value} {t : FieldType} (h : (Cond.arrayOver (.array t)).before A s = true) : ∃ c : ClassId, ArrOfT s c (.array t) ∧ s.vm.findClass ("[" ++ (FieldType.array t).toString) = some c := by
  obtain ⟨comp, c, k, h1, h2, h3, h4⟩ := Cond.arrayOver_specA h
  exact ⟨c, fun N z => ⟨(fun k h => by cases h), k, h2, comp, h3⟩, h4⟩
theorem lw_ct {b : Nat} {s : State} (hts : ∀ w ∈ lw_tbl, w.before #[Value.ref b] s = true) : ∃ cT : Nat → ClassId, ∀ (k : Nat) (q : ClassId × FieldType), (tyl cT)[k]? = some q → ArrOfT s q.1 q.2 ∧ va_RA s q.1 q.2 := by
  obtain ⟨c1, a1, b1⟩ := lw_arp (hts _ (lt_1 (j := 86) rfl))
  obtain ⟨c2, a2, b2⟩ := lw_arp (hts _ (lt_1 (j := 87) rfl))
  obtain ⟨c3, a3, b3⟩ := lw_arp (hts _ (lt_1 (j := 211) rfl))
  obtain ⟨c4, a4, b4⟩ := lw_aro (hts _ (lt_1 (j := 33) rfl))
  obtain ⟨c5, a5, b5⟩ := lw_aro (hts _ (lt_1 (j := 95) rfl))
  obtain ⟨c6, a6, b6⟩ := lw_aro (hts _ (lt_3 (j := 53) rfl))
  obtain ⟨c7, a7, b7⟩ := lw_ara (hts _ (lt_1 (j := 219) rfl))
  refine ⟨fun k => match k with | 1 => c1 | 2 => c2 | 3 => c3 | 4 => c4 | 5 => c5 | 6 => c6 | _ => c7, fun k q hq => ?_⟩
  match k, hq with
  | 0, hq => cases hq; exact ⟨a1, b1⟩
  | 1, hq => cases hq; exact ⟨a2, b2⟩
  | 2, hq => cases hq; exact ⟨a3, b3⟩
  | 3, hq => cases hq; exact ⟨a4, b4⟩
  | 4, hq => cases hq; exact ⟨a5, b5⟩
  | 5, hq => cases hq; exact ⟨a6, b6⟩
  | 6, hq => cases hq; exact ⟨a7, b7⟩
  | n + 7, hq => simp [tyl] at hq
def lw_cs : Term := .static "FloatTowers" "COSINES" "[I"
theorem lw_cos {b : Nat} {s : State} (hts : ∀ w ∈ lw_tbl, w.before #[Value.ref b] s = true) (hgv : (Jvm.Cond.and given_1 narrow_1).before #[Value.ref b] s = true) :
    ∃ t : Nat, va_Z "FloatTowers" "COSINES" "[I" (.ref t) (fun q => s.heap.size ≤ q) s s.heap ∧ va_T .int t 36 (fun j => .int (cosT j)) (fun q => s.heap.size ≤ q) s s.heap := by
  have hs := flat_of_before _ hgv
  obtain ⟨t, h1, h2⟩ := va_Tof (tm := lw_cs) (ty := .int) (N := 36) (f := fun j => .int (cosT j)) (A := fun q => s.heap.size ≤ q) (by decide) (hs (.arrayOf lw_cs .int) (by decide +kernel)) (va_eqt (hs (.eq (.length lw_cs) (.int 36)) (by decide +kernel)))
    (fun j hj => va_eqt (hs (.eq (.elem lw_cs (.int (Int32.ofNat j))) (.int (cosT j))) (by
      match j, hj with
      | 0, _ => decide +kernel
      | 1, _ => decide +kernel
      | 2, _ => decide +kernel
      | 3, _ => decide +kernel
      | 4, _ => decide +kernel
      | 5, _ => decide +kernel
      | 6, _ => decide +kernel
      | 7, _ => decide +kernel
      | 8, _ => decide +kernel
      | 9, _ => decide +kernel
      | 10, _ => decide +kernel
      | 11, _ => decide +kernel
      | 12, _ => decide +kernel
      | 13, _ => decide +kernel
      | 14, _ => decide +kernel
      | 15, _ => decide +kernel
      | 16, _ => decide +kernel
      | 17, _ => decide +kernel
      | 18, _ => decide +kernel
      | 19, _ => decide +kernel
      | 20, _ => decide +kernel
      | 21, _ => decide +kernel
      | 22, _ => decide +kernel
      | 23, _ => decide +kernel
      | 24, _ => decide +kernel
      | 25, _ => decide +kernel
      | 26, _ => decide +kernel
      | 27, _ => decide +kernel
      | 28, _ => decide +kernel
      | 29, _ => decide +kernel
      | 30, _ => decide +kernel
      | 31, _ => decide +kernel
      | 32, _ => decide +kernel
      | 33, _ => decide +kernel
      | 34, _ => decide +kernel
      | 35, _ => decide +kernel
      | n + 36, hj => exact absurd hj (by omega)))) (fun a h q => absurd h (Nat.not_lt.mpr q))
  exact ⟨t, va_Zref (hts _ (lt_2 (j := 158) rfl)) (hts _ (lt_1 (j := 1) rfl)) h1 (fun a h q => absurd h (Nat.not_lt.mpr q)), h2⟩
theorem lw_wK {b : Nat} {s : State} (hts : ∀ w ∈ lw_tbl, w.before #[Value.ref b] s = true) (hgv : (Jvm.Cond.and given_1 narrow_1).before #[Value.ref b] s = true) : ∃ (D : va_G) (cT : Nat → ClassId), wK D cT s.heap.size s := by
  obtain ⟨f, hf⟩ := Classical.axiomOfChoice (lw_kn hts)
  obtain ⟨cT, hT⟩ := lw_ct hts
  exact ⟨(fun k => (f k).1, fun k => (f k).2), cT, ⟨hf, hT⟩, ⟨lw_nest hts, lw_ao hts, lw_aoa hts⟩, lw_cos hts hgv⟩
/-- the empty world -/
def wE : Wd := (fun _ => 0, fun _ _ => 0, fun _ _ => 0)
theorem wE_P {D : va_G} {cT : Nat → ClassId} {lo : Nat} {ad : Nat → Nat} {H : Heap} : wP D cT lo 0 wE ad H :=
  ⟨fun k h => absurd rfl h, fun i j h => absurd rfl h, fun k h => absurd rfl h, fun k j h => absurd rfl h, fun k j h => absurd rfl h, fun k _ h => absurd h (Nat.not_lt_zero k), fun k h => absurd rfl h⟩
theorem wP.up {D : va_G} {cT : Nat → ClassId} {lo : Nat} {w : Wd} {ad : Nat → Nat} {H : Heap} (h : wP D cT lo 0 w ad H) (hn : ∀ k, 0 < k → k < NB → wA w k = 2) : wP D cT lo NB w ad H :=
  ⟨h.1, h.2.1, h.2.2.1, h.2.2.2.1, h.2.2.2.2.1, hn, h.2.2.2.2.2.2⟩
theorem nI_sub8 {L t : Nat} (hL : L ≤ 4096) (ht : 8 * t ≤ L) : nI L - 8 < nI (8 * t) ↔ L < 8 * t + 8 := by
  have e : (nI L - 8).toInt = (L : Int) - 8 := by
    rw [Int32.toInt_sub, nI_toInt (by omega)]
    show ((L : Int) - 8).bmod (2 ^ 32) = _
    exact Int.bmod_eq_of_le (by omega) (by omega)
  rw [Int32.lt_iff_toInt_lt, e, nI_toInt (by omega)]
  omega
theorem lA_of {L t : Nat} {xs : Nat → Int32} (hL : L ≤ 4096) (h : 8 * t + 8 ≤ L) : lA L xs (nI (8 * t)) (fun d => xs (8 * t + d)) := fun d hd => by
  have e : nI (8 * t) + Int32.ofNat d = nI (8 * t + d) := nI_add _ _
  rw [e]
  exact ⟨vp_in_nI (by omega) (by omega), by rw [nI_clamp (by omega)]⟩
set_option maxRecDepth 100000 in
theorem law_loop {I : Nat → Wd → Prop} (hI : ∀ (t : Nat) (A : Nat → Int32) (w : Wd), t < 512 → I t w → ∃ w', l_step A w = some w' ∧ I (t + 1) w') {p : Program} {l : Launch} {e : Env} {s : State} {m : MethodId} {below : List Frame} {meth : Method} {c : Code} {b L : Nat} {xs : Nat → Int32} {D : va_G} {cT : Nat → ClassId} (hL : L ≤ 4096) (C0 : lw_At p s m meth c b L xs) (F : Fx p s m #[Value.ref b] c cL_law RL 4 D cT s.heap.size) :
    ∀ (n t : Nat) (w : Wd), I t w → 8 * t ≤ L → L < 8 * t + 8 * n → ∀ (ad : Nat → Nat) (H : Heap) (locs : List Loc) (ls : Array Slot) (cells slots : Nat), cells = 123 + 13 * t → slots = 25000 + 89 * t → wP D cT s.heap.size NB w ad H → va_S (fun q => s.heap.size ≤ q) s.heap H locs → lv_has ls 4 [(0, .ref b), (1, .ref (ad 1)), (2, .ref (ad 63)), (3, .int (nI (8 * t)))] → W p l e room_1 s m #[Value.ref b] below meth c H locs cells slots (lw_Z below #[Value.ref b] s) (F0 m 18 ls []) := by
  obtain ⟨hx, hb, hr, hml, hown, hts, hX, hbl, hlocks, hgv⟩ := C0
  have hbA : ¬ s.heap.size ≤ b := Nat.not_le.mpr hbl
  intro n
  induction n with
  | zero => intro t w _ h1 h2; exact absurd h2 (by omega)
  | succ n ih =>
    intro t w hw ht hn ad H locs ls cells slots hc hs hP hS hl
    have hcN : cells + 13 ≤ 600000 := by omega
    have hsN : slots + 89 ≤ 7302250 := by omega
    refine lv_iload_n hx hb dL_law_18 rfl (lv_at hl 3 rfl) ?_
    refine lv_aload_n hx hb dL_law_19 rfl (lv_at hl 0 rfl) ?_
    refine va_slen hx hb hX hbl hbA hS dL_law_20 ?_
    refine lv_bipush (v := 8) hx hb dL_law_21 (by decide) ?_
    refine lv_isub hx hb dL_law_23 ?_
    refine lv_icmp_gt (tgt := 2234) hx hb dL_law_24 (by decide) (fun hc1 => ?_) (fun hc1 => ?_)
    · refine lv_iconst (v := 1) hx hb dL_law_2234 (by decide) ?_
      refine va_forget (fun q hq => hS.2.2 q hq) ?_
      refine W.widen (k := 600000) (n := 7302250) (by omega) (by omega) ?_
      exact lw_ret hx hb hr hlocks dL_law_2235
    · have h8 : 8 * t + 8 ≤ L := Nat.not_lt.mp fun q => hc1 ((nI_sub8 hL ht).mpr q)
      have hA := lA_of (xs := xs) hL h8
      obtain ⟨w', hst, hw'⟩ := hI t (fun d => xs (8 * t + d)) w (by omega) hw
      have hA0 : vp_in (nI (8 * t)) L ∧ xs (nI (8 * t)).toNatClampNeg = xs (8 * t + 0) := ⟨vp_in_nI (by omega) (by omega), by rw [nI_clamp (by omega)]; rfl⟩
      refine lv_aload_n hx hb dL_law_27 rfl (lv_at hl 0 rfl) ?_
      refine lv_iload_n hx hb dL_law_28 rfl (lv_at hl 3 rfl) ?_
      refine y_scr F hX hbl hbA hS hA0 dL_law_29 ?_
      refine lv_bipush (v := 63) hx hb dL_law_30 (by decide) ?_
      refine lv_iand hx hb dL_law_32 ?_
      refine lc_table F hX hbl hbA hA hP hS hl hcN hsN hst (fun ad H locs ls hP hS hl => ?_)
      have e8 : nI (8 * t) + 8 = nI (8 * (t + 1)) := nI_add _ _
      refine lv_iinc (v := nI (8 * (t + 1))) (lv' := [(3, .int (nI (8 * (t + 1)))), (0, .ref b), (1, .ref (ad 1)), (2, .ref (ad 63))]) hx hb dL_law_2228 hl (k := 3) rfl (by rw [← e8]; rfl) (by decide) rfl (fun ls hl => ?_)
      refine lv_goto (tgt := 18) hx hb dL_law_2231 (by decide) ?_
      exact ih (t + 1) w' hw' (by omega) (by omega) ad H locs ls _ _ (by omega) (by omega) hP hS (lv_sub hl [1, 2, 3, 0] rfl)
/-- the law's start, out of what the functions do -/
theorem whole_start0 {I : Nat → Wd → Prop} (hI : ∀ (t : Nat) (A : Nat → Int32) (w : Wd), t < 512 → I t w → ∃ w', l_step A w = some w' ∧ I (t + 1) w') {w0 : Wd} (h0 : f_law0 wE = some w0) (hI0 : I 0 w0) (hn0 : ∀ k, 0 < k → k < NB → wA w0 k = 2) {p : Program} {e : Env} {s : State} {m : MethodId} {below : List Frame} {meth : Method} {c : Code} (l : Launch) {b L : Nat} {xs : Nat → Int32} (hL : L ≤ 4096) (C0 : lw_At p s m meth c b L xs) : W p l e room_1 s m #[Value.ref b] below meth c s.heap [] 0 0 (lw_Z below #[Value.ref b] s) (entryFrame m ([Value.ref b] : List Value).toArray 4) := by
  obtain ⟨hx, hb, hr, hml, hown, hts, hX, hbl, hlocks, hgv⟩ := id C0
  obtain ⟨D, cT, hK⟩ := lw_wK hts hgv
  have F : Fx p s m #[Value.ref b] c cL_law RL 4 D cT s.heap.size := ⟨hx, hb, hown, fun w h => hts w (List.mem_filter.mp h).1, hK, Nat.le_refl _, hml⟩
  have hbA : ¬ s.heap.size ≤ b := Nat.not_le.mpr hbl
  have hl := lv_entry ([.ref b]) (n := 4) (Nat.le_of_ble_eq_true rfl)
  rw [lg_entry_eq]
  generalize (lg_sl ([.ref b]) ++ List.replicate (4 - (lg_sl ([.ref b])).length) Slot.unset).toArray = ls at hl ⊢
  have hl : lv_has ls 4 [(0, .ref b)] := hl
  refine lc_start (ad0 := fun _ => 0) F hX hbl hbA wE_P va_S.rf hl h0 (fun ad H locs ls hP hS hl => ?_)
  exact law_loop hI hL C0 F 513 0 w0 hI0 (by omega) (by omega) ad H locs ls 123 25000 rfl rfl (hP.up hn0) hS (lv_sub hl [3, 2, 1, 0] rfl)

