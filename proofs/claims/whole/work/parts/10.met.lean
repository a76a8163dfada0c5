/-! ===== a contract out of a walk; members of a Car ===== -/
theorem x_met {l : Launch} {y : MethodName} {cc : ByteArray} {maxL mc ms : Nat} {ret : Option FieldType} {rm : Room} {D : va_G} {cT : Nat → ClassId} {lo nb : Nat} {w : Wd} {ad : Nat → Nat} {vs : List Value} {Qc : Array Value → State → Outcome → State → Prop} {lv : List (Nat × Value)} (hy : plainName y.cls = true) (hlen : (lg_sl vs).length ≤ maxL) (hlv : lv_args 0 vs = lv)
    (body : ∀ (p : Program) (e : Env) (s : State) (m : MethodId) (args : Array Value) (below : List Frame) (meth : Method) (c : Code) (ls : Array Slot), Fx p s m args c cc y.cls maxL D cT lo → meth.sig.returnType = ret → meth.locks = false → wP D cT lo nb w ad s.heap → meth.name = y.name → lv_has ls maxL lv →
      W p l e rm s m args below meth c s.heap [] 0 0 (MQ below Qc args s mc ms (fun q => lo ≤ q)) (F0 m 0 ls [])) : Met l y (.code y cc maxL ret :: TW) rm (mPc D cT lo nb w ad vs) Qc mc ms (fun q => lo ≤ q) := by
  refine Met.ofW (cc := cc) (maxL := maxL) (ret := ret) hy rfl ?_
  intro p e s m args below meth c s₁ B hml hv
  obtain ⟨rfl, hP, hK, hlo⟩ := hv
  have hl := lv_entry vs (n := maxL) hlen
  rw [lg_entry_eq]
  rw [hlv] at hl
  exact body p e s m vs.toArray below meth c _ ⟨B.exec, B.bytes, findClass_of_methodNamed B.named, fun q hq => atoms_spec (ws := .code y cc maxL ret :: TW) B.pre q (List.mem_cons_of_mem _ hq), hK, hlo, hml⟩ B.returns B.notSynchronized hP (name_of_methodNamed B.named B.method).1 hl
theorem x_metJ {l : Launch} {y : MethodName} {cc : ByteArray} {maxL mc ms : Nat} {ret : Option FieldType} {rm : Room} {D : va_G} {cT : Nat → ClassId} {lo nb : Nat} {w : Wd} {ad : Nat → Nat} {vs : List Value} {Qc : Array Value → State → Outcome → State → Prop} {lv : List (Nat × Value)} (hy : plainFor y = true) (hlen : (lg_sl vs).length ≤ maxL) (hlv : lv_args 0 vs = lv)
    (body : ∀ (p : Program) (e : Env) (s : State) (m : MethodId) (args : Array Value) (below : List Frame) (meth : Method) (c : Code) (ls : Array Slot), Fx p s m args c cc y.cls maxL D cT lo → meth.sig.returnType = ret → meth.locks = false → wP D cT lo nb w ad s.heap → meth.name = y.name → lv_has ls maxL lv →
      W p l e rm s m args below meth c s.heap [] 0 0 (MQ below Qc args s mc ms (fun q => lo ≤ q)) (F0 m 0 ls [])) : Met l y (.code y cc maxL ret :: TW) rm (mPc D cT lo nb w ad vs) Qc mc ms (fun q => lo ≤ q) := by
  refine MetFree.of_bodySF (code := cc) (maxLocals := maxL) (ret := ret) hy ?_ ?_
  · intro args s m h hn
    obtain ⟨meth, c, h1, h2, h3, h4, h5, h6, -, -⟩ := Cond.code_spec hn (atoms_spec (ws := .code y cc maxL ret :: TW) h _ List.mem_cons_self)
    exact ⟨meth, c, h1, h2, h3, h4, h5, h6⟩
  · intro p e s m args below meth c s₁ B hml hv _
    obtain ⟨rfl, hP, hK, hlo⟩ := hv
    have hh0 : s₁.heap = s.heap := by rw [B.state]; rfl
    have hl := lv_entry vs (n := maxL) hlen
    rw [hlv] at hl
    have key : W p l e rm s m vs.toArray below meth c s.heap [] 0 0 (MQ below Qc vs.toArray s mc ms (fun q => lo ≤ q)) (entryFrame m vs.toArray maxL) := by
      rw [lg_entry_eq]
      exact body p e s m vs.toArray below meth c _ ⟨B.exec, B.bytes, findClass_of_methodNamed B.named, fun q hq => atoms_spec (ws := .code y cc maxL ret :: TW) B.pre q (List.mem_cons_of_mem _ hq), hK, hlo, hml⟩ B.returns B.notSynchronized hP (name_of_methodNamed B.named B.method).1 hl
    obtain ⟨t, a1, o, b1, b2, b3⟩ := key s₁ hh0 (Stand.of_body B)
    exact ⟨t, o, a1, b1, b2, ⟨b3.1, b3.2⟩⟩
theorem car_ids {k : Nat} (h : kt k = (11, 0)) : k = 1000 ∨ k = 1020 ∨ k = 1040 ∨ k = 1060 := by
  unfold kt at h
  by_cases h1 : k < 250
  · rw [if_pos h1] at h
    have : ∀ k, k < 250 → ktT.getD k (0, 0) ≠ (11, 0) := by decide +kernel
    exact absurd h (this k h1)
  · rw [if_neg h1] at h
    by_cases h2 : k < 1000
    · rw [if_pos h2] at h
      by_cases h3 : 300 ≤ k ∧ k < 380
      · rw [if_pos h3] at h
        cases h
      · rw [if_neg h3] at h
        cases h
    · rw [if_neg h2] at h
      by_cases h4 : k < 1080
      · rw [if_pos h4] at h
        have : ∀ j, j < 20 → ktC.getD j (0, 0) = (11, 0) → j = 0 := by decide +kernel
        have := this ((k - 1000) % 20) (Nat.mod_lt _ (by decide)) h
        omega
      · rw [if_neg h4] at h
        by_cases h5 : k < 2000
        · rw [if_pos h5] at h
          cases h
        · rw [if_neg h5] at h
          cases h
theorem rects_ids {k n : Nat} (h : kt k = (6, n)) : k = 1004 ∨ k = 1024 ∨ k = 1044 ∨ k = 1064 := by
  unfold kt at h
  by_cases h1 : k < 250
  · rw [if_pos h1] at h
    have : ∀ k, k < 250 → (ktT.getD k (0, 0)).1 ≠ 6 := by decide +kernel
    exact absurd (by rw [h]) (this k h1)
  · rw [if_neg h1] at h
    by_cases h2 : k < 1000
    · rw [if_pos h2] at h
      by_cases h3 : 300 ≤ k ∧ k < 380
      · rw [if_pos h3] at h
        cases h
      · rw [if_neg h3] at h
        cases h
    · rw [if_neg h2] at h
      by_cases h4 : k < 1080
      · rw [if_pos h4] at h
        have : ∀ j, j < 20 → (ktC.getD j (0, 0)).1 = 6 → j = 4 := by decide +kernel
        have := this ((k - 1000) % 20) (Nat.mod_lt _ (by decide)) (by rw [h])
        omega
      · rw [if_neg h4] at h
        by_cases h5 : k < 2000
        · rw [if_pos h5] at h
          cases h
        · rw [if_neg h5] at h
          cases h
theorem carR_4 {k : Nat} (h : kt k = (11, 0)) : rt k 4 = k + 1 := by rcases car_ids h with rfl | rfl | rfl | rfl <;> decide +kernel
theorem carK_4 {k : Nat} (h : kt k = (11, 0)) : kt (k + 1) = (1, 5) := by rcases car_ids h with rfl | rfl | rfl | rfl <;> decide +kernel
theorem carR_5 {k : Nat} (h : kt k = (11, 0)) : rt k 5 = k + 2 := by rcases car_ids h with rfl | rfl | rfl | rfl <;> decide +kernel
theorem carK_5 {k : Nat} (h : kt k = (11, 0)) : kt (k + 2) = (1, 5) := by rcases car_ids h with rfl | rfl | rfl | rfl <;> decide +kernel
theorem carR_6 {k : Nat} (h : kt k = (11, 0)) : rt k 6 = k + 3 := by rcases car_ids h with rfl | rfl | rfl | rfl <;> decide +kernel
theorem carK_6 {k : Nat} (h : kt k = (11, 0)) : kt (k + 3) = (1, 5) := by rcases car_ids h with rfl | rfl | rfl | rfl <;> decide +kernel
theorem carR_8 {k : Nat} (h : kt k = (11, 0)) : rt k 8 = k + 4 := by rcases car_ids h with rfl | rfl | rfl | rfl <;> decide +kernel
theorem carK_8 {k : Nat} (h : kt k = (11, 0)) : kt (k + 4) = (6, 5) := by rcases car_ids h with rfl | rfl | rfl | rfl <;> decide +kernel
theorem carR_14 {k : Nat} (h : kt k = (11, 0)) : rt k 14 = k + 10 := by rcases car_ids h with rfl | rfl | rfl | rfl <;> decide +kernel
theorem carK_14 {k : Nat} (h : kt k = (11, 0)) : kt (k + 10) = (1, 4) := by rcases car_ids h with rfl | rfl | rfl | rfl <;> decide +kernel
theorem carR_15 {k : Nat} (h : kt k = (11, 0)) : rt k 15 = k + 11 := by rcases car_ids h with rfl | rfl | rfl | rfl <;> decide +kernel
theorem carK_15 {k : Nat} (h : kt k = (11, 0)) : kt (k + 11) = (1, 4) := by rcases car_ids h with rfl | rfl | rfl | rfl <;> decide +kernel
theorem carR_16 {k : Nat} (h : kt k = (11, 0)) : rt k 16 = k + 12 := by rcases car_ids h with rfl | rfl | rfl | rfl <;> decide +kernel
theorem carK_16 {k : Nat} (h : kt k = (11, 0)) : kt (k + 12) = (1, 4) := by rcases car_ids h with rfl | rfl | rfl | rfl <;> decide +kernel
theorem ek_10 : ∀ j, j < 20 → kt (rt 10 j) = (10, 0) := by decide +kernel
theorem ek_14 : ∀ j, j < 10 → kt (rt 14 j) = (10, 0) := by decide +kernel
theorem ek_15 : ∀ j, j < 10 → kt (rt 15 j) = (10, 0) := by decide +kernel
theorem ek_18 : ∀ j, j < 10 → kt (rt 18 j) = (10, 0) := by decide +kernel
theorem ek_22 : ∀ j, j < 4 → kt (rt 22 j) = (11, 0) := by decide +kernel
theorem ek_31 : ∀ j, j < 7 → kt (rt 31 j) = (1, 256) := by decide +kernel
theorem ek_56 : ∀ j, j < 4 → kt (rt 56 j) = (1, 60) := by decide +kernel
theorem ek_rects {k : Nat} (h : kt k = (6, 5)) : ∀ j, j < 5 → kt (rt k j) = (15, 0) := by rcases rects_ids h with rfl | rfl | rfl | rfl <;> decide +kernel
