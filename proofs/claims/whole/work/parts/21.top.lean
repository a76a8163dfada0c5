theorem dX11_within_0 : decode cX11_within 0 = .ok (.iload_n 0, 1) := by decide +kernel
theorem dX11_within_1 : decode cX11_within 1 = .ok (.iload_n 1, 1) := by decide +kernel
theorem dX11_within_2 : decode cX11_within 2 = .ok (.if_icmp .lt 12, 3) := by decide +kernel
theorem dX11_within_5 : decode cX11_within 5 = .ok (.iload_n 0, 1) := by decide +kernel
theorem dX11_within_6 : decode cX11_within 6 = .ok (.iload_n 2, 1) := by decide +kernel
theorem dX11_within_7 : decode cX11_within 7 = .ok (.if_icmp .gt 7, 3) := by decide +kernel
theorem dX11_within_10 : decode cX11_within 10 = .ok (.iconst 1, 1) := by decide +kernel
theorem dX11_within_11 : decode cX11_within 11 = .ok (.goto 4, 3) := by decide +kernel
theorem dX11_within_14 : decode cX11_within 14 = .ok (.iconst 0, 1) := by decide +kernel
theorem dX11_within_15 : decode cX11_within 15 = .ok (.ireturn, 1) := by decide +kernel
theorem dX11_isBox_0 : decode cX11_isBox 0 = .ok (.iload_n 0, 1) := by decide +kernel
theorem dX11_isBox_1 : decode cX11_isBox 1 = .ok (.sipush (-500), 3) := by decide +kernel
theorem dX11_isBox_4 : decode cX11_isBox 4 = .ok (.sipush 500, 3) := by decide +kernel
theorem dX11_isBox_7 : decode cX11_isBox 7 = .ok (.invokestatic 71, 3) := by decide +kernel
theorem dX11_isBox_10 : decode cX11_isBox 10 = .ok (.ifCond .eq 56, 3) := by decide +kernel
theorem dX11_isBox_13 : decode cX11_isBox 13 = .ok (.iload_n 1, 1) := by decide +kernel
theorem dX11_isBox_14 : decode cX11_isBox 14 = .ok (.sipush (-500), 3) := by decide +kernel
theorem dX11_isBox_17 : decode cX11_isBox 17 = .ok (.sipush 500, 3) := by decide +kernel
theorem dX11_isBox_20 : decode cX11_isBox 20 = .ok (.invokestatic 71, 3) := by decide +kernel
theorem dX11_isBox_23 : decode cX11_isBox 23 = .ok (.ifCond .eq 43, 3) := by decide +kernel
theorem dX11_isBox_26 : decode cX11_isBox 26 = .ok (.iload_n 2, 1) := by decide +kernel
theorem dX11_isBox_27 : decode cX11_isBox 27 = .ok (.sipush (-500), 3) := by decide +kernel
theorem dX11_isBox_30 : decode cX11_isBox 30 = .ok (.sipush 500, 3) := by decide +kernel
theorem dX11_isBox_33 : decode cX11_isBox 33 = .ok (.invokestatic 71, 3) := by decide +kernel
theorem dX11_isBox_36 : decode cX11_isBox 36 = .ok (.ifCond .eq 30, 3) := by decide +kernel
theorem dX11_isBox_39 : decode cX11_isBox 39 = .ok (.iload_n 3, 1) := by decide +kernel
theorem dX11_isBox_40 : decode cX11_isBox 40 = .ok (.sipush (-500), 3) := by decide +kernel
theorem dX11_isBox_43 : decode cX11_isBox 43 = .ok (.sipush 500, 3) := by decide +kernel
theorem dX11_isBox_46 : decode cX11_isBox 46 = .ok (.invokestatic 71, 3) := by decide +kernel
theorem dX11_isBox_49 : decode cX11_isBox 49 = .ok (.ifCond .eq 17, 3) := by decide +kernel
theorem dX11_isBox_52 : decode cX11_isBox 52 = .ok (.iload_n 0, 1) := by decide +kernel
theorem dX11_isBox_53 : decode cX11_isBox 53 = .ok (.iload_n 2, 1) := by decide +kernel
theorem dX11_isBox_54 : decode cX11_isBox 54 = .ok (.if_icmp .ge 12, 3) := by decide +kernel
theorem dX11_isBox_57 : decode cX11_isBox 57 = .ok (.iload_n 1, 1) := by decide +kernel
theorem dX11_isBox_58 : decode cX11_isBox 58 = .ok (.iload_n 3, 1) := by decide +kernel
theorem dX11_isBox_59 : decode cX11_isBox 59 = .ok (.if_icmp .ge 7, 3) := by decide +kernel
theorem dX11_isBox_62 : decode cX11_isBox 62 = .ok (.iconst 1, 1) := by decide +kernel
theorem dX11_isBox_63 : decode cX11_isBox 63 = .ok (.goto 4, 3) := by decide +kernel
theorem dX11_isBox_66 : decode cX11_isBox 66 = .ok (.iconst 0, 1) := by decide +kernel
theorem dX11_isBox_67 : decode cX11_isBox 67 = .ok (.ireturn, 1) := by decide +kernel
theorem dX11_cosine_0 : decode cX11_cosine 0 = .ok (.getstatic 370, 3) := by decide +kernel
theorem dX11_cosine_3 : decode cX11_cosine 3 = .ok (.iload_n 0, 1) := by decide +kernel
theorem dX11_cosine_4 : decode cX11_cosine 4 = .ok (.bipush 36, 2) := by decide +kernel
theorem dX11_cosine_6 : decode cX11_cosine 6 = .ok (.invokestatic 373, 3) := by decide +kernel
theorem dX11_cosine_9 : decode cX11_cosine 9 = .ok (.iaload, 1) := by decide +kernel
theorem dX11_cosine_10 : decode cX11_cosine 10 = .ok (.ireturn, 1) := by decide +kernel
theorem dX11_sine_0 : decode cX11_sine 0 = .ok (.getstatic 370, 3) := by decide +kernel
theorem dX11_sine_3 : decode cX11_sine 3 = .ok (.iload_n 0, 1) := by decide +kernel
theorem dX11_sine_4 : decode cX11_sine 4 = .ok (.bipush 9, 2) := by decide +kernel
theorem dX11_sine_6 : decode cX11_sine 6 = .ok (.isub, 1) := by decide +kernel
theorem dX11_sine_7 : decode cX11_sine 7 = .ok (.bipush 36, 2) := by decide +kernel
theorem dX11_sine_9 : decode cX11_sine 9 = .ok (.invokestatic 373, 3) := by decide +kernel
theorem dX11_sine_12 : decode cX11_sine 12 = .ok (.iaload, 1) := by decide +kernel
theorem dX11_sine_13 : decode cX11_sine 13 = .ok (.ireturn, 1) := by decide +kernel
theorem dX3_carAt_0 : decode cX3_carAt 0 = .ok (.iload_n 1, 1) := by decide +kernel
theorem dX3_carAt_1 : decode cX3_carAt 1 = .ok (.iconst 0, 1) := by decide +kernel
theorem dX3_carAt_2 : decode cX3_carAt 2 = .ok (.aload_n 0, 1) := by decide +kernel
theorem dX3_carAt_3 : decode cX3_carAt 3 = .ok (.getfield 41, 3) := by decide +kernel
theorem dX3_carAt_6 : decode cX3_carAt 6 = .ok (.iconst 1, 1) := by decide +kernel
theorem dX3_carAt_7 : decode cX3_carAt 7 = .ok (.isub, 1) := by decide +kernel
theorem dX3_carAt_8 : decode cX3_carAt 8 = .ok (.invokestatic 44, 3) := by decide +kernel
theorem dX3_carAt_11 : decode cX3_carAt 11 = .ok (.ifCond .eq 12, 3) := by decide +kernel
theorem dX3_carAt_14 : decode cX3_carAt 14 = .ok (.aload_n 0, 1) := by decide +kernel
theorem dX3_carAt_15 : decode cX3_carAt 15 = .ok (.getfield 13, 3) := by decide +kernel
theorem dX3_carAt_18 : decode cX3_carAt 18 = .ok (.iload_n 1, 1) := by decide +kernel
theorem dX3_carAt_19 : decode cX3_carAt 19 = .ok (.aaload, 1) := by decide +kernel
theorem dX3_carAt_20 : decode cX3_carAt 20 = .ok (.goto 4, 3) := by decide +kernel
theorem dX3_carAt_23 : decode cX3_carAt 23 = .ok (.aconst_null, 1) := by decide +kernel
theorem dX3_carAt_24 : decode cX3_carAt 24 = .ok (.areturn, 1) := by decide +kernel
def f_X11_within (a1 : Int32) (a2 : Int32) (a3 : Int32) : Int32 :=
if a1 < a2 then
(0 : Int32)
else
if a3 < a1 then
(0 : Int32)
else
(1 : Int32)
set_option maxRecDepth 100000 in
set_option maxHeartbeats 4000000 in
theorem c_X11_within (l : Launch) (D : va_G) (cT : Nat → ClassId) (lo nb : Nat) (w : Wd) (ad : Nat → Nat) (a1 : Int32) (a2 : Int32) (a3 : Int32) : Met l yX11_within (.code yX11_within cX11_within 3 (some .boolean) :: TW) { frames := 0, cells := 0, slots := 0, locals := 0 } (mPc D cT lo nb w ad [.int a1, .int a2, .int a3]) (mQz D cT lo nb w w ad (f_X11_within a1 a2 a3)) 0 0 (fun q => lo ≤ q) := by
  obtain ⟨r, h⟩ : ∃ r, f_X11_within a1 a2 a3 = r := ⟨_, rfl⟩
  rw [h]
  unfold f_X11_within at h
  refine x_met (lv := [(0, .int a1), (1, .int a2), (2, .int a3)]) (by decide +kernel) (Nat.le_of_ble_eq_true rfl) rfl ?_
  intro p e s m args below meth c ls F hr hlk hP hin hl
  have hx := F.1
  have hb := F.2.1
  have hS : va_S (fun q => lo ≤ q) s.heap s.heap [] := va_S.rf
  refine lv_iload_n hx hb dX11_within_0 rfl (lv_at hl 0 rfl) ?_
  refine lv_iload_n hx hb dX11_within_1 rfl (lv_at hl 1 rfl) ?_
  refine lv_icmp_lt (tgt := 14) hx hb dX11_within_2 (by decide) (fun hc => ?_) (fun hc => ?_)
  · have h := if_t _ hc h
    refine lv_iconst (v := 0) hx hb dX11_within_14 ic_0 ?_
    exact y_zretP h F hr hP hS hlk rfl dX11_within_15
  · have h := if_f _ hc h
    refine lv_iload_n hx hb dX11_within_5 rfl (lv_at hl 0 rfl) ?_
    refine lv_iload_n hx hb dX11_within_6 rfl (lv_at hl 2 rfl) ?_
    refine lv_icmp_gt (tgt := 14) hx hb dX11_within_7 (by decide) (fun hc => ?_) (fun hc => ?_)
    · have h := if_t _ hc h
      refine lv_iconst (v := 0) hx hb dX11_within_14 ic_0 ?_
      exact y_zretP h F hr hP hS hlk rfl dX11_within_15
    · have h := if_f _ hc h
      refine lv_iconst (v := 1) hx hb dX11_within_10 ic_1 ?_
      refine lv_goto (tgt := 15) hx hb dX11_within_11 (by decide) ?_
      exact y_zretP h F hr hP hS hlk rfl dX11_within_15
def f_X11_isBox (a1 : Int32) (a2 : Int32) (a3 : Int32) (a4 : Int32) : Int32 :=
if (f_X11_within a1 (-500 : Int32) (500 : Int32)) = 0 then
(0 : Int32)
else
if (f_X11_within a2 (-500 : Int32) (500 : Int32)) = 0 then
(0 : Int32)
else
if (f_X11_within a3 (-500 : Int32) (500 : Int32)) = 0 then
(0 : Int32)
else
if (f_X11_within a4 (-500 : Int32) (500 : Int32)) = 0 then
(0 : Int32)
else
if a3 ≤ a1 then
(0 : Int32)
else
if a4 ≤ a2 then
(0 : Int32)
else
(1 : Int32)
set_option maxRecDepth 100000 in
set_option maxHeartbeats 4000000 in
theorem c_X11_isBox (l : Launch) (D : va_G) (cT : Nat → ClassId) (lo nb : Nat) (w : Wd) (ad : Nat → Nat) (a1 : Int32) (a2 : Int32) (a3 : Int32) (a4 : Int32) : Met l yX11_isBox (.code yX11_isBox cX11_isBox 4 (some .boolean) :: TW) { frames := 1, cells := 0, slots := 0, locals := 22 } (mPc D cT lo nb w ad [.int a1, .int a2, .int a3, .int a4]) (mQz D cT lo nb w w ad (f_X11_isBox a1 a2 a3 a4)) 0 0 (fun q => lo ≤ q) := by
  obtain ⟨r, h⟩ : ∃ r, f_X11_isBox a1 a2 a3 a4 = r := ⟨_, rfl⟩
  rw [h]
  unfold f_X11_isBox at h
  refine x_met (lv := [(0, .int a1), (1, .int a2), (2, .int a3), (3, .int a4)]) (by decide +kernel) (Nat.le_of_ble_eq_true rfl) rfl ?_
  intro p e s m args below meth c ls F hr hlk hP hin hl
  have hx := F.1
  have hb := F.2.1
  have hS : va_S (fun q => lo ≤ q) s.heap s.heap [] := va_S.rf
  refine lv_iload_n hx hb dX11_isBox_0 rfl (lv_at hl 0 rfl) ?_
  refine lv_sipush (v := -500) hx hb dX11_isBox_1 is_m500 ?_
  refine lv_sipush (v := 500) hx hb dX11_isBox_4 is_500 ?_
  refine x_goesZ (x_runS (As := [.int a1, .int (-500 : Int32), .int (500 : Int32)]) (rest := []) F hP hS (c_X11_within l D cT lo nb w ad a1 (-500 : Int32) (500 : Int32)) cw_X11_within lk_X11_71 st_X11_within ⟨rfl, rfl, Nat.le_of_ble_eq_true rfl, Nat.le_of_ble_eq_true rfl⟩ hl.1 rfl (Nat.le_of_ble_eq_true rfl) dX11_isBox_7 ⟨Nat.zero_le _, Nat.zero_le _⟩) hS (fun H locs hz_7 hP hS _ => ?_)
  refine lv_if_eq (tgt := 66) hx hb dX11_isBox_10 (by decide) (fun hc => ?_) (fun hc => ?_)
  · have h := if_t _ hc h
    refine lv_iconst (v := 0) hx hb dX11_isBox_66 ic_0 ?_
    exact y_zretP h F hr hP hS hlk rfl dX11_isBox_67
  · have h := if_f _ hc h
    refine lv_iload_n hx hb dX11_isBox_13 rfl (lv_at hl 1 rfl) ?_
    refine lv_sipush (v := -500) hx hb dX11_isBox_14 is_m500 ?_
    refine lv_sipush (v := 500) hx hb dX11_isBox_17 is_500 ?_
    refine x_goesZ (x_runS (As := [.int a2, .int (-500 : Int32), .int (500 : Int32)]) (rest := []) F hP hS (c_X11_within l D cT lo nb w ad a2 (-500 : Int32) (500 : Int32)) cw_X11_within lk_X11_71 st_X11_within ⟨rfl, rfl, Nat.le_of_ble_eq_true rfl, Nat.le_of_ble_eq_true rfl⟩ hl.1 rfl (Nat.le_of_ble_eq_true rfl) dX11_isBox_20 ⟨Nat.zero_le _, Nat.zero_le _⟩) hS (fun H locs hz_20 hP hS _ => ?_)
    refine lv_if_eq (tgt := 66) hx hb dX11_isBox_23 (by decide) (fun hc => ?_) (fun hc => ?_)
    · have h := if_t _ hc h
      refine lv_iconst (v := 0) hx hb dX11_isBox_66 ic_0 ?_
      exact y_zretP h F hr hP hS hlk rfl dX11_isBox_67
    · have h := if_f _ hc h
      refine lv_iload_n hx hb dX11_isBox_26 rfl (lv_at hl 2 rfl) ?_
      refine lv_sipush (v := -500) hx hb dX11_isBox_27 is_m500 ?_
      refine lv_sipush (v := 500) hx hb dX11_isBox_30 is_500 ?_
      refine x_goesZ (x_runS (As := [.int a3, .int (-500 : Int32), .int (500 : Int32)]) (rest := []) F hP hS (c_X11_within l D cT lo nb w ad a3 (-500 : Int32) (500 : Int32)) cw_X11_within lk_X11_71 st_X11_within ⟨rfl, rfl, Nat.le_of_ble_eq_true rfl, Nat.le_of_ble_eq_true rfl⟩ hl.1 rfl (Nat.le_of_ble_eq_true rfl) dX11_isBox_33 ⟨Nat.zero_le _, Nat.zero_le _⟩) hS (fun H locs hz_33 hP hS _ => ?_)
      refine lv_if_eq (tgt := 66) hx hb dX11_isBox_36 (by decide) (fun hc => ?_) (fun hc => ?_)
      · have h := if_t _ hc h
        refine lv_iconst (v := 0) hx hb dX11_isBox_66 ic_0 ?_
        exact y_zretP h F hr hP hS hlk rfl dX11_isBox_67
      · have h := if_f _ hc h
        refine lv_iload_n hx hb dX11_isBox_39 rfl (lv_at hl 3 rfl) ?_
        refine lv_sipush (v := -500) hx hb dX11_isBox_40 is_m500 ?_
        refine lv_sipush (v := 500) hx hb dX11_isBox_43 is_500 ?_
        refine x_goesZ (x_runS (As := [.int a4, .int (-500 : Int32), .int (500 : Int32)]) (rest := []) F hP hS (c_X11_within l D cT lo nb w ad a4 (-500 : Int32) (500 : Int32)) cw_X11_within lk_X11_71 st_X11_within ⟨rfl, rfl, Nat.le_of_ble_eq_true rfl, Nat.le_of_ble_eq_true rfl⟩ hl.1 rfl (Nat.le_of_ble_eq_true rfl) dX11_isBox_46 ⟨Nat.zero_le _, Nat.zero_le _⟩) hS (fun H locs hz_46 hP hS _ => ?_)
        refine lv_if_eq (tgt := 66) hx hb dX11_isBox_49 (by decide) (fun hc => ?_) (fun hc => ?_)
        · have h := if_t _ hc h
          refine lv_iconst (v := 0) hx hb dX11_isBox_66 ic_0 ?_
          exact y_zretP h F hr hP hS hlk rfl dX11_isBox_67
        · have h := if_f _ hc h
          refine lv_iload_n hx hb dX11_isBox_52 rfl (lv_at hl 0 rfl) ?_
          refine lv_iload_n hx hb dX11_isBox_53 rfl (lv_at hl 2 rfl) ?_
          refine lv_icmp_ge (tgt := 66) hx hb dX11_isBox_54 (by decide) (fun hc => ?_) (fun hc => ?_)
          · have h := if_t _ hc h
            refine lv_iconst (v := 0) hx hb dX11_isBox_66 ic_0 ?_
            exact y_zretP h F hr hP hS hlk rfl dX11_isBox_67
          · have h := if_f _ hc h
            refine lv_iload_n hx hb dX11_isBox_57 rfl (lv_at hl 1 rfl) ?_
            refine lv_iload_n hx hb dX11_isBox_58 rfl (lv_at hl 3 rfl) ?_
            refine lv_icmp_ge (tgt := 66) hx hb dX11_isBox_59 (by decide) (fun hc => ?_) (fun hc => ?_)
            · have h := if_t _ hc h
              refine lv_iconst (v := 0) hx hb dX11_isBox_66 ic_0 ?_
              exact y_zretP h F hr hP hS hlk rfl dX11_isBox_67
            · have h := if_f _ hc h
              refine lv_iconst (v := 1) hx hb dX11_isBox_62 ic_1 ?_
              refine lv_goto (tgt := 67) hx hb dX11_isBox_63 (by decide) ?_
              exact y_zretP h F hr hP hS hlk rfl dX11_isBox_67
/-! ===== cosine, sine: out of the table; a car by its number ===== -/
theorem xor_neg (x : Int32) : 0 ≤ (x ^^^ 36) ↔ 0 ≤ x := by
  have h1 : (x ^^^ 36).toBitVec.msb = x.toBitVec.msb := by
    rw [Int32.toBitVec_xor, BitVec.msb_xor]
    have : (36 : Int32).toBitVec.msb = false := by decide
    rw [this, Bool.xor_false]
  rw [BitVec.msb_eq_toInt, BitVec.msb_eq_toInt] at h1
  rw [Int32.le_iff_toInt_le, Int32.le_iff_toInt_le]
  have h2 : ((x ^^^ 36).toInt < 0) ↔ (x.toInt < 0) := by
    constructor
    · intro h
      have : decide ((x ^^^ 36).toBitVec.toInt < 0) = true := decide_eq_true h
      rw [h1] at this
      exact of_decide_eq_true this
    · intro h
      have : decide (x.toBitVec.toInt < 0) = true := decide_eq_true h
      rw [← h1] at this
      exact of_decide_eq_true this
  have h0 : (0 : Int32).toInt = 0 := rfl
  rw [h0]
  omega
theorem fm36 (x : Int32) : (f_J9_floorMod_7cf53 x 36).toInt = x.toInt % 36 := by
  have hr := rem_toInt x 36
  have h36 : (36 : Int32).toInt = 36 := rfl
  rw [h36] at hr
  have hb := tmod_bounds (a := x.toInt) (M := 36) (by decide)
  have h0 : (0 : Int32).toInt = 0 := rfl
  have hT : x.toInt.tmod 36 = if 0 ≤ x.toInt then x.toInt % 36 else -((-x.toInt) % 36) := by
    by_cases h : 0 ≤ x.toInt
    · rw [if_pos h, Int.tmod_eq_emod_of_nonneg h]
    · rw [if_neg h]
      have e : x.toInt.tmod 36 = -((-x.toInt).tmod 36) := by
        rw [Int.neg_tmod, Int.neg_neg]
      rw [e, Int.tmod_eq_emod_of_nonneg (by omega)]
  unfold f_J9_floorMod_7cf53
  by_cases h : 0 ≤ (x ^^^ 36)
  · rw [if_pos h]
    have hx := (xor_neg x).mp h
    rw [Int32.le_iff_toInt_le, h0] at hx
    rw [hr, hT, if_pos hx]
  · rw [if_neg h]
    have hx : ¬ 0 ≤ x.toInt := fun z => h ((xor_neg x).mpr (by rw [Int32.le_iff_toInt_le, h0]; exact z))
    rw [if_neg hx] at hT
    by_cases h1 : x - x / 36 * 36 = 0
    · rw [if_pos h1, h1, h0]
      rw [h1, h0, hT] at hr
      omega
    · rw [if_neg h1]
      have h2 : (x - x / 36 * 36).toInt ≠ 0 := fun z => h1 (Int32.toInt_inj.mp (by rw [z]; rfl))
      rw [Int32.toInt_add, h36, hr, hT]
      rw [hr, hT] at h2
      rw [Int.bmod_eq_of_le (by omega) (by omega)]
      omega
theorem fm36_in (x : Int32) : vp_in (f_J9_floorMod_7cf53 x 36) 36 := by
  rw [vp_in_iff, fm36]
  omega
def f_X11_cosine (a1 : Int32) : Int32 := cosT (f_J9_floorMod_7cf53 a1 36).toNatClampNeg
def f_X11_sine (a1 : Int32) : Int32 := cosT (f_J9_floorMod_7cf53 (a1 - 9) 36).toNatClampNeg
set_option maxRecDepth 100000 in
set_option maxHeartbeats 4000000 in
theorem c_X11_cosine (l : Launch) (D : va_G) (cT : Nat → ClassId) (lo nb : Nat) (w : Wd) (ad : Nat → Nat) (a1 : Int32) : Met l yX11_cosine (.code yX11_cosine cX11_cosine 1 (some .int) :: TW) { frames := 1, cells := 0, slots := 0, locals := 22 } (mPc D cT lo nb w ad [.int a1]) (mQ D cT lo nb w w ad (some (.int (f_X11_cosine a1)))) 0 0 (fun q => lo ≤ q) := by
  refine x_met (lv := [(0, .int a1)]) (by decide +kernel) (Nat.le_of_ble_eq_true rfl) rfl ?_
  intro p e s m args below meth c ls F hr hlk hP hin hl
  have hx := F.1
  have hb := F.2.1
  have hS : va_S (fun q => lo ≤ q) s.heap s.heap [] := va_S.rf
  obtain ⟨tC, hZ, hT⟩ := F.2.2.2.2.1.2.2
  refine va_gets hx hb hZ hS F.2.2.1 (F.2.2.2.1 _ fl_COSINES) (fun _ h => h) dX11_cosine_0 ?_
  refine lv_iload_n hx hb dX11_cosine_3 rfl (lv_at hl 0 rfl) ?_
  refine lv_bipush (v := 36) hx hb dX11_cosine_4 ib_36 ?_
  refine x_goes (x_runS (As := [.int a1, .int 36]) (rest := [.ref tC]) F hP hS (c_J9_floorMod_7cf53 l D cT lo nb w ad a1 36 (by decide)) cw_J9_floorMod_7cf53 lk_X11_373 st_J9_floorMod_7cf53 ⟨rfl, rfl, Nat.le_of_ble_eq_true rfl, Nat.le_of_ble_eq_true rfl⟩ hl.1 rfl (Nat.le_of_ble_eq_true rfl) dX11_cosine_6 ⟨Nat.zero_le _, Nat.zero_le _⟩) hS (fun H locs hP hS _ => ?_)
  refine va_ti hx hb hT hS (fm36_in a1) rfl dX11_cosine_9 ?_
  exact x_iret F hr hP hS mono.refl hlk dX11_cosine_10
set_option maxRecDepth 100000 in
set_option maxHeartbeats 4000000 in
theorem c_X11_sine (l : Launch) (D : va_G) (cT : Nat → ClassId) (lo nb : Nat) (w : Wd) (ad : Nat → Nat) (a1 : Int32) : Met l yX11_sine (.code yX11_sine cX11_sine 1 (some .int) :: TW) { frames := 1, cells := 0, slots := 0, locals := 22 } (mPc D cT lo nb w ad [.int a1]) (mQ D cT lo nb w w ad (some (.int (f_X11_sine a1)))) 0 0 (fun q => lo ≤ q) := by
  refine x_met (lv := [(0, .int a1)]) (by decide +kernel) (Nat.le_of_ble_eq_true rfl) rfl ?_
  intro p e s m args below meth c ls F hr hlk hP hin hl
  have hx := F.1
  have hb := F.2.1
  have hS : va_S (fun q => lo ≤ q) s.heap s.heap [] := va_S.rf
  obtain ⟨tC, hZ, hT⟩ := F.2.2.2.2.1.2.2
  refine va_gets hx hb hZ hS F.2.2.1 (F.2.2.2.1 _ fl_COSINES) (fun _ h => h) dX11_sine_0 ?_
  refine lv_iload_n hx hb dX11_sine_3 rfl (lv_at hl 0 rfl) ?_
  refine lv_bipush (v := 9) hx hb dX11_sine_4 ib_9 ?_
  refine lv_isub hx hb dX11_sine_6 ?_
  refine lv_bipush (v := 36) hx hb dX11_sine_7 ib_36 ?_
  refine x_goes (x_runS (As := [.int (a1 - 9), .int 36]) (rest := [.ref tC]) F hP hS (c_J9_floorMod_7cf53 l D cT lo nb w ad (a1 - 9) 36 (by decide)) cw_J9_floorMod_7cf53 lk_X11_373 st_J9_floorMod_7cf53 ⟨rfl, rfl, Nat.le_of_ble_eq_true rfl, Nat.le_of_ble_eq_true rfl⟩ hl.1 rfl (Nat.le_of_ble_eq_true rfl) dX11_sine_9 ⟨Nat.zero_le _, Nat.zero_le _⟩) hS (fun H locs hP hS _ => ?_)
  refine va_ti hx hb hT hS (fm36_in (a1 - 9)) rfl dX11_sine_12 ?_
  exact x_iret F hr hP hS mono.refl hlk dX11_sine_13
def f_X3_carAt (w : Wd) (a1 : Int32) : Option Nat :=
  q_gt w 3 2 (fun v_3 => if f_X11_within a1 0 (v_3 - 1) = 0 then some 0 else q_ldq w 22 4 a1 (fun q_19 => some q_19))
set_option maxRecDepth 100000 in
set_option maxHeartbeats 4000000 in
theorem c_X3_carAt (l : Launch) (D : va_G) (cT : Nat → ClassId) (lo : Nat) (w : Wd) (ad : Nat → Nat) (a1 : Int32) (r : Nat) (h : f_X3_carAt w a1 = some r) : Met l yX3_carAt (.code yX3_carAt cX3_carAt 2 (some (.object "FloatTowers$Car")) :: TW) { frames := 1, cells := 0, slots := 0, locals := 22 } (mPc D cT lo NB w ad [.ref (ad 3), .int a1]) (mQr D cT lo NB w ad r (11, 0)) 0 0 (fun q => lo ≤ q) := by
  unfold f_X3_carAt at h
  refine x_met (lv := [(0, .ref (ad 3)), (1, .int a1)]) (by decide +kernel) (Nat.le_of_ble_eq_true rfl) rfl ?_
  intro p e s m args below meth c ls F hr hlk hP hin hl
  have hx := F.1
  have hb := F.2.1
  have hS : va_S (fun q => lo ≤ q) s.heap s.heap [] := va_S.rf
  refine lv_iload_n hx hb dX3_carAt_0 rfl (lv_at hl 1 rfl) ?_
  refine lv_iconst (v := 0) hx hb dX3_carAt_1 ic_0 ?_
  refine lv_aload_n hx hb dX3_carAt_2 rfl (lv_at hl 0 rfl) ?_
  refine y_geti h F hP k_3 (n2 (hP.al 3 rfl)) fl_X3_41 rfl dX3_carAt_3 (fun v_3 h => ?_)
  refine lv_iconst (v := 1) hx hb dX3_carAt_6 ic_1 ?_
  refine lv_isub hx hb dX3_carAt_7 ?_
  refine x_goesZ (x_runSN (As := [.int a1, .int 0, .int (v_3 - 1)]) (rest := []) F hP hS (c_X11_within l D cT lo NB w ad a1 0 (v_3 - 1)) cw_X11_within nl_X3_44 st_X11_within ⟨rfl, rfl, Nat.le_of_ble_eq_true rfl, Nat.le_of_ble_eq_true rfl⟩ hl.1 rfl (Nat.le_of_ble_eq_true rfl) dX3_carAt_8 ⟨Nat.zero_le _, Nat.zero_le _⟩) hS (fun H locs _ hP hS _ => ?_)
  refine lv_if_eq (tgt := 23) hx hb dX3_carAt_11 (by decide) (fun hc => ?_) (fun hc => ?_)
  · have h := Option.some.inj (if_t _ hc h)
    subst h
    refine lv_null hx hb dX3_carAt_23 ?_
    exact W.aret hx hb hr (Or.inl ⟨_, rfl⟩) (Or.inl rfl) (fun t ht hW => ⟨x_end F hP hS mono.refl ht hW, fun z => absurd rfl z⟩) hS.2.2 dX3_carAt_24 hlk
  · have h := if_f _ hc h
    refine lv_aload_n hx hb dX3_carAt_14 rfl (lv_at hl 0 rfl) ?_
    refine x_getr F hP k_3 (hP.al 3 rfl) fl_X3_13 rfl r_3_1 dX3_carAt_15 ?_
    refine lv_iload_n hx hb dX3_carAt_18 rfl (lv_at hl 1 rfl) ?_
    refine y_aald h F hP k_22 (by decide) (by decide) (n2 (hP.al 22 rfl)) ek_22 dX3_carAt_19 (fun q_19 hk ha h => ?_)
    have h := Option.some.inj h
    subst h
    refine lv_goto (tgt := 24) hx hb dX3_carAt_20 (by decide) ?_
    have hq : ¬ q_19 = 0 := fun z => by
      rw [z] at hk
      exact absurd hk (by decide +kernel)
    refine W.aret hx hb hr (Or.inl ⟨_, rfl⟩) (Or.inr ⟨_, rfl⟩) (fun t ht hW => ⟨?_, fun _ => ⟨hk, ha⟩⟩) hS.2.2 dX3_carAt_24 hlk
    rw [if_neg hq]
    exact x_end F hP hS mono.refl ht hW

