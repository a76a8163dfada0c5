theorem dJ7_fill_53178_0 : decode cJ7_fill_53178 0 = .ok (.iconst 0, 1) := by decide +kernel
theorem dJ7_fill_53178_1 : decode cJ7_fill_53178 1 = .ok (.istore_n 2, 1) := by decide +kernel
theorem dJ7_fill_53178_2 : decode cJ7_fill_53178 2 = .ok (.aload_n 0, 1) := by decide +kernel
theorem dJ7_fill_53178_3 : decode cJ7_fill_53178 3 = .ok (.arraylength, 1) := by decide +kernel
theorem dJ7_fill_53178_4 : decode cJ7_fill_53178 4 = .ok (.istore_n 3, 1) := by decide +kernel
theorem dJ7_fill_53178_5 : decode cJ7_fill_53178 5 = .ok (.iload_n 2, 1) := by decide +kernel
theorem dJ7_fill_53178_6 : decode cJ7_fill_53178 6 = .ok (.iload_n 3, 1) := by decide +kernel
theorem dJ7_fill_53178_7 : decode cJ7_fill_53178 7 = .ok (.if_icmp .ge 13, 3) := by decide +kernel
theorem dJ7_fill_53178_10 : decode cJ7_fill_53178 10 = .ok (.aload_n 0, 1) := by decide +kernel
theorem dJ7_fill_53178_11 : decode cJ7_fill_53178 11 = .ok (.iload_n 2, 1) := by decide +kernel
theorem dJ7_fill_53178_12 : decode cJ7_fill_53178 12 = .ok (.iload_n 1, 1) := by decide +kernel
theorem dJ7_fill_53178_13 : decode cJ7_fill_53178 13 = .ok (.iastore, 1) := by decide +kernel
theorem dJ7_fill_53178_14 : decode cJ7_fill_53178 14 = .ok (.iinc 2 1, 3) := by decide +kernel
theorem dJ7_fill_53178_17 : decode cJ7_fill_53178 17 = .ok (.goto (-12), 3) := by decide +kernel
theorem dJ7_fill_53178_20 : decode cJ7_fill_53178 20 = .ok (.return_, 1) := by decide +kernel
theorem dJ9_floorMod_7cf53_0 : decode cJ9_floorMod_7cf53 0 = .ok (.iload_n 0, 1) := by decide +kernel
theorem dJ9_floorMod_7cf53_1 : decode cJ9_floorMod_7cf53 1 = .ok (.iload_n 1, 1) := by decide +kernel
theorem dJ9_floorMod_7cf53_2 : decode cJ9_floorMod_7cf53 2 = .ok (.irem, 1) := by decide +kernel
theorem dJ9_floorMod_7cf53_3 : decode cJ9_floorMod_7cf53 3 = .ok (.istore_n 2, 1) := by decide +kernel
theorem dJ9_floorMod_7cf53_4 : decode cJ9_floorMod_7cf53 4 = .ok (.iload_n 0, 1) := by decide +kernel
theorem dJ9_floorMod_7cf53_5 : decode cJ9_floorMod_7cf53 5 = .ok (.iload_n 1, 1) := by decide +kernel
theorem dJ9_floorMod_7cf53_6 : decode cJ9_floorMod_7cf53 6 = .ok (.ixor, 1) := by decide +kernel
theorem dJ9_floorMod_7cf53_7 : decode cJ9_floorMod_7cf53 7 = .ok (.ifCond .ge 11, 3) := by decide +kernel
theorem dJ9_floorMod_7cf53_10 : decode cJ9_floorMod_7cf53 10 = .ok (.iload_n 2, 1) := by decide +kernel
theorem dJ9_floorMod_7cf53_11 : decode cJ9_floorMod_7cf53 11 = .ok (.ifCond .eq 7, 3) := by decide +kernel
theorem dJ9_floorMod_7cf53_14 : decode cJ9_floorMod_7cf53 14 = .ok (.iload_n 2, 1) := by decide +kernel
theorem dJ9_floorMod_7cf53_15 : decode cJ9_floorMod_7cf53 15 = .ok (.iload_n 1, 1) := by decide +kernel
theorem dJ9_floorMod_7cf53_16 : decode cJ9_floorMod_7cf53 16 = .ok (.iadd, 1) := by decide +kernel
theorem dJ9_floorMod_7cf53_17 : decode cJ9_floorMod_7cf53 17 = .ok (.ireturn, 1) := by decide +kernel
theorem dJ9_floorMod_7cf53_18 : decode cJ9_floorMod_7cf53 18 = .ok (.iload_n 2, 1) := by decide +kernel
theorem dJ9_floorMod_7cf53_19 : decode cJ9_floorMod_7cf53 19 = .ok (.ireturn, 1) := by decide +kernel
theorem dJ9_abs_0f7a4_0 : decode cJ9_abs_0f7a4 0 = .ok (.iload_n 0, 1) := by decide +kernel
theorem dJ9_abs_0f7a4_1 : decode cJ9_abs_0f7a4 1 = .ok (.ifCond .ge 8, 3) := by decide +kernel
theorem dJ9_abs_0f7a4_4 : decode cJ9_abs_0f7a4 4 = .ok (.iload_n 0, 1) := by decide +kernel
theorem dJ9_abs_0f7a4_5 : decode cJ9_abs_0f7a4 5 = .ok (.ineg, 1) := by decide +kernel
theorem dJ9_abs_0f7a4_6 : decode cJ9_abs_0f7a4 6 = .ok (.goto 4, 3) := by decide +kernel
theorem dJ9_abs_0f7a4_9 : decode cJ9_abs_0f7a4 9 = .ok (.iload_n 0, 1) := by decide +kernel
theorem dJ9_abs_0f7a4_10 : decode cJ9_abs_0f7a4 10 = .ok (.ireturn, 1) := by decide +kernel
theorem dJ9_floorDiv_7cf53_0 : decode cJ9_floorDiv_7cf53 0 = .ok (.iload_n 0, 1) := by decide +kernel
theorem dJ9_floorDiv_7cf53_1 : decode cJ9_floorDiv_7cf53 1 = .ok (.iload_n 1, 1) := by decide +kernel
theorem dJ9_floorDiv_7cf53_2 : decode cJ9_floorDiv_7cf53 2 = .ok (.idiv, 1) := by decide +kernel
theorem dJ9_floorDiv_7cf53_3 : decode cJ9_floorDiv_7cf53 3 = .ok (.istore_n 2, 1) := by decide +kernel
theorem dJ9_floorDiv_7cf53_4 : decode cJ9_floorDiv_7cf53 4 = .ok (.iload_n 0, 1) := by decide +kernel
theorem dJ9_floorDiv_7cf53_5 : decode cJ9_floorDiv_7cf53 5 = .ok (.iload_n 1, 1) := by decide +kernel
theorem dJ9_floorDiv_7cf53_6 : decode cJ9_floorDiv_7cf53 6 = .ok (.ixor, 1) := by decide +kernel
theorem dJ9_floorDiv_7cf53_7 : decode cJ9_floorDiv_7cf53 7 = .ok (.ifCond .ge 14, 3) := by decide +kernel
theorem dJ9_floorDiv_7cf53_10 : decode cJ9_floorDiv_7cf53 10 = .ok (.iload_n 2, 1) := by decide +kernel
theorem dJ9_floorDiv_7cf53_11 : decode cJ9_floorDiv_7cf53 11 = .ok (.iload_n 1, 1) := by decide +kernel
theorem dJ9_floorDiv_7cf53_12 : decode cJ9_floorDiv_7cf53 12 = .ok (.imul, 1) := by decide +kernel
theorem dJ9_floorDiv_7cf53_13 : decode cJ9_floorDiv_7cf53 13 = .ok (.iload_n 0, 1) := by decide +kernel
theorem dJ9_floorDiv_7cf53_14 : decode cJ9_floorDiv_7cf53 14 = .ok (.if_icmp .eq 7, 3) := by decide +kernel
theorem dJ9_floorDiv_7cf53_17 : decode cJ9_floorDiv_7cf53 17 = .ok (.iload_n 2, 1) := by decide +kernel
theorem dJ9_floorDiv_7cf53_18 : decode cJ9_floorDiv_7cf53 18 = .ok (.iconst 1, 1) := by decide +kernel
theorem dJ9_floorDiv_7cf53_19 : decode cJ9_floorDiv_7cf53 19 = .ok (.isub, 1) := by decide +kernel
theorem dJ9_floorDiv_7cf53_20 : decode cJ9_floorDiv_7cf53 20 = .ok (.ireturn, 1) := by decide +kernel
theorem dJ9_floorDiv_7cf53_21 : decode cJ9_floorDiv_7cf53 21 = .ok (.iload_n 2, 1) := by decide +kernel
theorem dJ9_floorDiv_7cf53_22 : decode cJ9_floorDiv_7cf53 22 = .ok (.ireturn, 1) := by decide +kernel
theorem dJ9_max_7cf53_0 : decode cJ9_max_7cf53 0 = .ok (.iload_n 0, 1) := by decide +kernel
theorem dJ9_max_7cf53_1 : decode cJ9_max_7cf53 1 = .ok (.iload_n 1, 1) := by decide +kernel
theorem dJ9_max_7cf53_2 : decode cJ9_max_7cf53 2 = .ok (.if_icmp .lt 7, 3) := by decide +kernel
theorem dJ9_max_7cf53_5 : decode cJ9_max_7cf53 5 = .ok (.iload_n 0, 1) := by decide +kernel
theorem dJ9_max_7cf53_6 : decode cJ9_max_7cf53 6 = .ok (.goto 4, 3) := by decide +kernel
theorem dJ9_max_7cf53_9 : decode cJ9_max_7cf53 9 = .ok (.iload_n 1, 1) := by decide +kernel
theorem dJ9_max_7cf53_10 : decode cJ9_max_7cf53 10 = .ok (.ireturn, 1) := by decide +kernel
theorem dJ6_bitCount_0f7a4_0 : decode cJ6_bitCount_0f7a4 0 = .ok (.iload_n 0, 1) := by decide +kernel
theorem dJ6_bitCount_0f7a4_1 : decode cJ6_bitCount_0f7a4 1 = .ok (.iload_n 0, 1) := by decide +kernel
theorem dJ6_bitCount_0f7a4_2 : decode cJ6_bitCount_0f7a4 2 = .ok (.iconst 1, 1) := by decide +kernel
theorem dJ6_bitCount_0f7a4_3 : decode cJ6_bitCount_0f7a4 3 = .ok (.iushr, 1) := by decide +kernel
theorem dJ6_bitCount_0f7a4_4 : decode cJ6_bitCount_0f7a4 4 = .ok (.ldc_w 265, 3) := by decide +kernel
theorem dJ6_bitCount_0f7a4_7 : decode cJ6_bitCount_0f7a4 7 = .ok (.iand, 1) := by decide +kernel
theorem dJ6_bitCount_0f7a4_8 : decode cJ6_bitCount_0f7a4 8 = .ok (.isub, 1) := by decide +kernel
theorem dJ6_bitCount_0f7a4_9 : decode cJ6_bitCount_0f7a4 9 = .ok (.istore_n 0, 1) := by decide +kernel
theorem dJ6_bitCount_0f7a4_10 : decode cJ6_bitCount_0f7a4 10 = .ok (.iload_n 0, 1) := by decide +kernel
theorem dJ6_bitCount_0f7a4_11 : decode cJ6_bitCount_0f7a4 11 = .ok (.ldc_w 266, 3) := by decide +kernel
theorem dJ6_bitCount_0f7a4_14 : decode cJ6_bitCount_0f7a4 14 = .ok (.iand, 1) := by decide +kernel
theorem dJ6_bitCount_0f7a4_15 : decode cJ6_bitCount_0f7a4 15 = .ok (.iload_n 0, 1) := by decide +kernel
theorem dJ6_bitCount_0f7a4_16 : decode cJ6_bitCount_0f7a4 16 = .ok (.iconst 2, 1) := by decide +kernel
theorem dJ6_bitCount_0f7a4_17 : decode cJ6_bitCount_0f7a4 17 = .ok (.iushr, 1) := by decide +kernel
theorem dJ6_bitCount_0f7a4_18 : decode cJ6_bitCount_0f7a4 18 = .ok (.ldc_w 266, 3) := by decide +kernel
theorem dJ6_bitCount_0f7a4_21 : decode cJ6_bitCount_0f7a4 21 = .ok (.iand, 1) := by decide +kernel
theorem dJ6_bitCount_0f7a4_22 : decode cJ6_bitCount_0f7a4 22 = .ok (.iadd, 1) := by decide +kernel
theorem dJ6_bitCount_0f7a4_23 : decode cJ6_bitCount_0f7a4 23 = .ok (.istore_n 0, 1) := by decide +kernel
theorem dJ6_bitCount_0f7a4_24 : decode cJ6_bitCount_0f7a4 24 = .ok (.iload_n 0, 1) := by decide +kernel
theorem dJ6_bitCount_0f7a4_25 : decode cJ6_bitCount_0f7a4 25 = .ok (.iload_n 0, 1) := by decide +kernel
theorem dJ6_bitCount_0f7a4_26 : decode cJ6_bitCount_0f7a4 26 = .ok (.iconst 4, 1) := by decide +kernel
theorem dJ6_bitCount_0f7a4_27 : decode cJ6_bitCount_0f7a4 27 = .ok (.iushr, 1) := by decide +kernel
theorem dJ6_bitCount_0f7a4_28 : decode cJ6_bitCount_0f7a4 28 = .ok (.iadd, 1) := by decide +kernel
theorem dJ6_bitCount_0f7a4_29 : decode cJ6_bitCount_0f7a4 29 = .ok (.ldc_w 267, 3) := by decide +kernel
theorem dJ6_bitCount_0f7a4_32 : decode cJ6_bitCount_0f7a4 32 = .ok (.iand, 1) := by decide +kernel
theorem dJ6_bitCount_0f7a4_33 : decode cJ6_bitCount_0f7a4 33 = .ok (.istore_n 0, 1) := by decide +kernel
theorem dJ6_bitCount_0f7a4_34 : decode cJ6_bitCount_0f7a4 34 = .ok (.iload_n 0, 1) := by decide +kernel
theorem dJ6_bitCount_0f7a4_35 : decode cJ6_bitCount_0f7a4 35 = .ok (.iload_n 0, 1) := by decide +kernel
theorem dJ6_bitCount_0f7a4_36 : decode cJ6_bitCount_0f7a4 36 = .ok (.bipush 8, 2) := by decide +kernel
theorem dJ6_bitCount_0f7a4_38 : decode cJ6_bitCount_0f7a4 38 = .ok (.iushr, 1) := by decide +kernel
theorem dJ6_bitCount_0f7a4_39 : decode cJ6_bitCount_0f7a4 39 = .ok (.iadd, 1) := by decide +kernel
theorem dJ6_bitCount_0f7a4_40 : decode cJ6_bitCount_0f7a4 40 = .ok (.istore_n 0, 1) := by decide +kernel
theorem dJ6_bitCount_0f7a4_41 : decode cJ6_bitCount_0f7a4 41 = .ok (.iload_n 0, 1) := by decide +kernel
theorem dJ6_bitCount_0f7a4_42 : decode cJ6_bitCount_0f7a4 42 = .ok (.iload_n 0, 1) := by decide +kernel
theorem dJ6_bitCount_0f7a4_43 : decode cJ6_bitCount_0f7a4 43 = .ok (.bipush 16, 2) := by decide +kernel
theorem dJ6_bitCount_0f7a4_45 : decode cJ6_bitCount_0f7a4 45 = .ok (.iushr, 1) := by decide +kernel
theorem dJ6_bitCount_0f7a4_46 : decode cJ6_bitCount_0f7a4 46 = .ok (.iadd, 1) := by decide +kernel
theorem dJ6_bitCount_0f7a4_47 : decode cJ6_bitCount_0f7a4 47 = .ok (.istore_n 0, 1) := by decide +kernel
theorem dJ6_bitCount_0f7a4_48 : decode cJ6_bitCount_0f7a4 48 = .ok (.iload_n 0, 1) := by decide +kernel
theorem dJ6_bitCount_0f7a4_49 : decode cJ6_bitCount_0f7a4 49 = .ok (.bipush 63, 2) := by decide +kernel
theorem dJ6_bitCount_0f7a4_51 : decode cJ6_bitCount_0f7a4 51 = .ok (.iand, 1) := by decide +kernel
theorem dJ6_bitCount_0f7a4_52 : decode cJ6_bitCount_0f7a4 52 = .ok (.ireturn, 1) := by decide +kernel
theorem dJ9_min_7cf53_0 : decode cJ9_min_7cf53 0 = .ok (.iload_n 0, 1) := by decide +kernel
theorem dJ9_min_7cf53_1 : decode cJ9_min_7cf53 1 = .ok (.iload_n 1, 1) := by decide +kernel
theorem dJ9_min_7cf53_2 : decode cJ9_min_7cf53 2 = .ok (.if_icmp .gt 7, 3) := by decide +kernel
theorem dJ9_min_7cf53_5 : decode cJ9_min_7cf53 5 = .ok (.iload_n 0, 1) := by decide +kernel
theorem dJ9_min_7cf53_6 : decode cJ9_min_7cf53 6 = .ok (.goto 4, 3) := by decide +kernel
theorem dJ9_min_7cf53_9 : decode cJ9_min_7cf53 9 = .ok (.iload_n 1, 1) := by decide +kernel
theorem dJ9_min_7cf53_10 : decode cJ9_min_7cf53 10 = .ok (.ireturn, 1) := by decide +kernel
def l_J7_fill_53178_5 (a1 : Nat) (n1 : Nat) (a2 : Int32) (v_4 : Int32) : Nat → Wd → Int32 → Option Wd
  | 0, _, _ => none
  | n_5 + 1, w_5l, x2_5l =>
    if v_4 ≤ x2_5l then
    some w_5l
    else
    q_st w_5l a1 n1 x2_5l a2 (fun w_13 =>
    q_lt (x2_5l + (1 : Int32)) (fun v_14 =>
    l_J7_fill_53178_5 a1 n1 a2 v_4 n_5 w_13 v_14))
def f_J7_fill_53178 (w : Wd) (a1 n1 : Nat) (a2 : Int32) : Option Wd :=
q_lt (nI n1) (fun v_4 =>
l_J7_fill_53178_5 a1 n1 a2 v_4 FU w (0 : Int32))
set_option maxRecDepth 100000 in
set_option maxHeartbeats 4000000 in
theorem c_J7_fill_53178 (l : Launch) (D : va_G) (cT : Nat → ClassId) (lo nb : Nat) (w : Wd) (ad : Nat → Nat) (a1 n1 : Nat) (hk1 : kt a1 = (1, n1)) (ha1 : wA w a1 = 2) (a2 : Int32) (w9 : Wd) (h : f_J7_fill_53178 w a1 n1 a2 = some w9) : Met l yJ7_fill_53178 (.code yJ7_fill_53178 cJ7_fill_53178 4 none :: TW) { frames := 0, cells := 0, slots := 0, locals := 0 } (mPc D cT lo nb w ad [.ref (ad a1), .int a2]) (mQ D cT lo nb w w9 ad none) 0 0 (fun q => lo ≤ q) := by
  unfold f_J7_fill_53178 at h
  refine x_met (lv := [(0, .ref (ad a1)), (1, .int a2)]) (by decide +kernel) (Nat.le_of_ble_eq_true rfl) rfl ?_
  intro p e s m args below meth c ls F hr hlk hP hin hl
  have hx := F.1
  have hb := F.2.1
  have hS : va_S (fun q => lo ≤ q) s.heap s.heap [] := va_S.rf
  have hM_w : mono w w := mono.refl
  refine lv_iconst (v := 0) hx hb dJ7_fill_53178_0 ic_0 ?_
  refine lv_istore_n (lv' := [(2, .int (0 : Int32)), (0, .ref (ad a1)), (1, .int a2)]) hx hb dJ7_fill_53178_1 rfl hl (Nat.le_of_ble_eq_true rfl) rfl (fun ls hl => ?_)
  refine lv_aload_n hx hb dJ7_fill_53178_2 rfl (lv_at hl 1 rfl) ?_
  refine x_alen F hP hk1 (n2 ha1) dJ7_fill_53178_3 ?_
  refine y_let h (fun v_4 h => ?_)
  refine lv_istore_n (lv' := [(3, .int v_4), (2, .int (0 : Int32)), (0, .ref (ad a1)), (1, .int a2)]) hx hb dJ7_fill_53178_4 rfl hl (Nat.le_of_ble_eq_true rfl) rfl (fun ls hl => ?_)
  have L_5 : ∀ (n_5 : Nat) (w_5l : Wd) (x2_5l : Int32), mono w w_5l → l_J7_fill_53178_5 a1 n1 a2 v_4 n_5 w_5l x2_5l = some w9 → GG p l e { frames := 0, cells := 0, slots := 0, locals := 0 } s m args below meth c 0 0 (MQ below (mQ D cT lo nb w w9 ad none) args s 0 0 (fun q => lo ≤ q)) D cT lo nb 4 ad w_5l 5 [(3, .int v_4), (2, .int x2_5l), (0, .ref (ad a1)), (1, .int a2)] [] := by
    intro n_5
    induction n_5 with
    | zero =>
      intro w_5l x2_5l _ h
      exact absurd h (by unfold l_J7_fill_53178_5; exact fun z => by cases z)
    | succ n_5 ih_5 =>
      intro w_5l x2_5l hm h H locs ls hP hS hl
      unfold l_J7_fill_53178_5 at h
      have hM_w := hm
      have ha1 := hm.2 _ ha1
      refine lv_iload_n hx hb dJ7_fill_53178_5 rfl (lv_at hl 1 rfl) ?_
      refine lv_iload_n hx hb dJ7_fill_53178_6 rfl (lv_at hl 0 rfl) ?_
      refine lv_icmp_ge (tgt := 20) hx hb dJ7_fill_53178_7 (by decide) (fun hc => ?_) (fun hc => ?_)
      · have h := if_t _ hc h
        exact y_vret h F hr hP hS hM_w hlk dJ7_fill_53178_20
      · have h := if_f _ hc h
        refine lv_aload_n hx hb dJ7_fill_53178_10 rfl (lv_at hl 2 rfl) ?_
        refine lv_iload_n hx hb dJ7_fill_53178_11 rfl (lv_at hl 1 rfl) ?_
        refine lv_iload_n hx hb dJ7_fill_53178_12 rfl (lv_at hl 3 rfl) ?_
        refine y_iast h F hP hS hk1 (n2 ha1) dJ7_fill_53178_13 (fun w_13 H locs hm h hP hS => ?_)
        have hM_w := hM_w.trans hm
        have ha1 := hm.2 _ ha1
        refine y_iinc (lv' := fun (v_14 : Int32) => [(2, .int v_14), (3, .int v_4), (0, .ref (ad a1)), (1, .int a2)]) h F ic_1 dJ7_fill_53178_14 hl (kq := 1) rfl (Nat.le_of_ble_eq_true rfl) (fun _ => rfl) (fun v_14 ls hl h => ?_)
        refine lv_goto (tgt := 5) hx hb dJ7_fill_53178_17 (by decide) ?_
        exact ih_5 w_13 v_14 hM_w h _ _ _ hP hS (lv_sub hl [1, 0, 2, 3] rfl)
  exact L_5 FU w (0 : Int32) mono.refl h _ _ _ hP hS (lv_sub hl [0, 1, 2, 3] rfl)
theorem pl_J9_floorMod_7cf53 : plainFor yJ9_floorMod_7cf53 = true := by decide +kernel
def f_J9_floorMod_7cf53 (a1 : Int32) (a2 : Int32) : Int32 :=
if 0 ≤ (a1 ^^^ a2) then
a1 - a1 / a2 * a2
else
if (a1 - a1 / a2 * a2) = 0 then
a1 - a1 / a2 * a2
else
(a1 - a1 / a2 * a2) + a2
set_option maxRecDepth 100000 in
set_option maxHeartbeats 4000000 in
theorem c_J9_floorMod_7cf53 (l : Launch) (D : va_G) (cT : Nat → ClassId) (lo nb : Nat) (w : Wd) (ad : Nat → Nat) (a1 : Int32) (a2 : Int32) (hnz : ¬ a2 = 0) : Met l yJ9_floorMod_7cf53 (.code yJ9_floorMod_7cf53 cJ9_floorMod_7cf53 3 (some .int) :: TW) { frames := 0, cells := 0, slots := 0, locals := 0 } (mPc D cT lo nb w ad [.int a1, .int a2]) (mQ D cT lo nb w w ad (some (.int (f_J9_floorMod_7cf53 a1 a2)))) 0 0 (fun q => lo ≤ q) := by
  obtain ⟨r, h⟩ : ∃ r, f_J9_floorMod_7cf53 a1 a2 = r := ⟨_, rfl⟩
  rw [h]
  unfold f_J9_floorMod_7cf53 at h
  refine x_metJ (lv := [(0, .int a1), (1, .int a2)]) pl_J9_floorMod_7cf53 (Nat.le_of_ble_eq_true rfl) rfl ?_
  intro p e s m args below meth c ls F hr hlk hP hin hl
  have hx := F.1
  have hb := F.2.1
  have hS : va_S (fun q => lo ≤ q) s.heap s.heap [] := va_S.rf
  refine lv_iload_n hx hb dJ9_floorMod_7cf53_0 rfl (lv_at hl 0 rfl) ?_
  refine lv_iload_n hx hb dJ9_floorMod_7cf53_1 rfl (lv_at hl 1 rfl) ?_
  refine lv_irem hx hb dJ9_floorMod_7cf53_2 hnz ?_
  refine lv_istore_n (lv' := [(2, .int (a1 - a1 / a2 * a2)), (0, .int a1), (1, .int a2)]) hx hb dJ9_floorMod_7cf53_3 rfl hl (Nat.le_of_ble_eq_true rfl) rfl (fun ls hl => ?_)
  refine lv_iload_n hx hb dJ9_floorMod_7cf53_4 rfl (lv_at hl 1 rfl) ?_
  refine lv_iload_n hx hb dJ9_floorMod_7cf53_5 rfl (lv_at hl 2 rfl) ?_
  refine lv_ixor hx hb dJ9_floorMod_7cf53_6 ?_
  refine lv_if_ge (tgt := 18) hx hb dJ9_floorMod_7cf53_7 (by decide) (fun hc => ?_) (fun hc => ?_)
  · have h := if_t _ hc h
    refine lv_iload_n hx hb dJ9_floorMod_7cf53_18 rfl (lv_at hl 0 rfl) ?_
    exact y_iretP h F hr hP hS hlk dJ9_floorMod_7cf53_19
  · have h := if_f _ hc h
    refine lv_iload_n hx hb dJ9_floorMod_7cf53_10 rfl (lv_at hl 0 rfl) ?_
    refine lv_if_eq (tgt := 18) hx hb dJ9_floorMod_7cf53_11 (by decide) (fun hc => ?_) (fun hc => ?_)
    · have h := if_t _ hc h
      refine lv_iload_n hx hb dJ9_floorMod_7cf53_18 rfl (lv_at hl 0 rfl) ?_
      exact y_iretP h F hr hP hS hlk dJ9_floorMod_7cf53_19
    · have h := if_f _ hc h
      refine lv_iload_n hx hb dJ9_floorMod_7cf53_14 rfl (lv_at hl 0 rfl) ?_
      refine lv_iload_n hx hb dJ9_floorMod_7cf53_15 rfl (lv_at hl 2 rfl) ?_
      refine lv_iadd hx hb dJ9_floorMod_7cf53_16 ?_
      exact y_iretP h F hr hP hS hlk dJ9_floorMod_7cf53_17
theorem pl_J9_abs_0f7a4 : plainFor yJ9_abs_0f7a4 = true := by decide +kernel
def f_J9_abs_0f7a4 (a1 : Int32) : Int32 :=
if 0 ≤ a1 then
a1
else
-a1
set_option maxRecDepth 100000 in
set_option maxHeartbeats 4000000 in
theorem c_J9_abs_0f7a4 (l : Launch) (D : va_G) (cT : Nat → ClassId) (lo nb : Nat) (w : Wd) (ad : Nat → Nat) (a1 : Int32) : Met l yJ9_abs_0f7a4 (.code yJ9_abs_0f7a4 cJ9_abs_0f7a4 1 (some .int) :: TW) { frames := 0, cells := 0, slots := 0, locals := 0 } (mPc D cT lo nb w ad [.int a1]) (mQ D cT lo nb w w ad (some (.int (f_J9_abs_0f7a4 a1)))) 0 0 (fun q => lo ≤ q) := by
  obtain ⟨r, h⟩ : ∃ r, f_J9_abs_0f7a4 a1 = r := ⟨_, rfl⟩
  rw [h]
  unfold f_J9_abs_0f7a4 at h
  refine x_metJ (lv := [(0, .int a1)]) pl_J9_abs_0f7a4 (Nat.le_of_ble_eq_true rfl) rfl ?_
  intro p e s m args below meth c ls F hr hlk hP hin hl
  have hx := F.1
  have hb := F.2.1
  have hS : va_S (fun q => lo ≤ q) s.heap s.heap [] := va_S.rf
  refine lv_iload_n hx hb dJ9_abs_0f7a4_0 rfl (lv_at hl 0 rfl) ?_
  refine lv_if_ge (tgt := 9) hx hb dJ9_abs_0f7a4_1 (by decide) (fun hc => ?_) (fun hc => ?_)
  · have h := if_t _ hc h
    refine lv_iload_n hx hb dJ9_abs_0f7a4_9 rfl (lv_at hl 0 rfl) ?_
    exact y_iretP h F hr hP hS hlk dJ9_abs_0f7a4_10
  · have h := if_f _ hc h
    refine lv_iload_n hx hb dJ9_abs_0f7a4_4 rfl (lv_at hl 0 rfl) ?_
    refine lv_ineg hx hb dJ9_abs_0f7a4_5 ?_
    refine lv_goto (tgt := 10) hx hb dJ9_abs_0f7a4_6 (by decide) ?_
    exact y_iretP h F hr hP hS hlk dJ9_abs_0f7a4_10
theorem pl_J9_floorDiv_7cf53 : plainFor yJ9_floorDiv_7cf53 = true := by decide +kernel
def f_J9_floorDiv_7cf53 (a1 : Int32) (a2 : Int32) : Int32 :=
if 0 ≤ (a1 ^^^ a2) then
a1 / a2
else
if ((a1 / a2) * a2) = a1 then
a1 / a2
else
(a1 / a2) - (1 : Int32)
set_option maxRecDepth 100000 in
set_option maxHeartbeats 4000000 in
theorem c_J9_floorDiv_7cf53 (l : Launch) (D : va_G) (cT : Nat → ClassId) (lo nb : Nat) (w : Wd) (ad : Nat → Nat) (a1 : Int32) (a2 : Int32) (hnz : ¬ a2 = 0) : Met l yJ9_floorDiv_7cf53 (.code yJ9_floorDiv_7cf53 cJ9_floorDiv_7cf53 3 (some .int) :: TW) { frames := 0, cells := 0, slots := 0, locals := 0 } (mPc D cT lo nb w ad [.int a1, .int a2]) (mQ D cT lo nb w w ad (some (.int (f_J9_floorDiv_7cf53 a1 a2)))) 0 0 (fun q => lo ≤ q) := by
  obtain ⟨r, h⟩ : ∃ r, f_J9_floorDiv_7cf53 a1 a2 = r := ⟨_, rfl⟩
  rw [h]
  unfold f_J9_floorDiv_7cf53 at h
  refine x_metJ (lv := [(0, .int a1), (1, .int a2)]) pl_J9_floorDiv_7cf53 (Nat.le_of_ble_eq_true rfl) rfl ?_
  intro p e s m args below meth c ls F hr hlk hP hin hl
  have hx := F.1
  have hb := F.2.1
  have hS : va_S (fun q => lo ≤ q) s.heap s.heap [] := va_S.rf
  refine lv_iload_n hx hb dJ9_floorDiv_7cf53_0 rfl (lv_at hl 0 rfl) ?_
  refine lv_iload_n hx hb dJ9_floorDiv_7cf53_1 rfl (lv_at hl 1 rfl) ?_
  refine lv_idiv hx hb dJ9_floorDiv_7cf53_2 hnz ?_
  refine lv_istore_n (lv' := [(2, .int (a1 / a2)), (0, .int a1), (1, .int a2)]) hx hb dJ9_floorDiv_7cf53_3 rfl hl (Nat.le_of_ble_eq_true rfl) rfl (fun ls hl => ?_)
  refine lv_iload_n hx hb dJ9_floorDiv_7cf53_4 rfl (lv_at hl 1 rfl) ?_
  refine lv_iload_n hx hb dJ9_floorDiv_7cf53_5 rfl (lv_at hl 2 rfl) ?_
  refine lv_ixor hx hb dJ9_floorDiv_7cf53_6 ?_
  refine lv_if_ge (tgt := 21) hx hb dJ9_floorDiv_7cf53_7 (by decide) (fun hc => ?_) (fun hc => ?_)
  · have h := if_t _ hc h
    refine lv_iload_n hx hb dJ9_floorDiv_7cf53_21 rfl (lv_at hl 0 rfl) ?_
    exact y_iretP h F hr hP hS hlk dJ9_floorDiv_7cf53_22
  · have h := if_f _ hc h
    refine lv_iload_n hx hb dJ9_floorDiv_7cf53_10 rfl (lv_at hl 0 rfl) ?_
    refine lv_iload_n hx hb dJ9_floorDiv_7cf53_11 rfl (lv_at hl 2 rfl) ?_
    refine lv_imul hx hb dJ9_floorDiv_7cf53_12 ?_
    refine lv_iload_n hx hb dJ9_floorDiv_7cf53_13 rfl (lv_at hl 1 rfl) ?_
    refine lv_icmp_eq (tgt := 21) hx hb dJ9_floorDiv_7cf53_14 (by decide) (fun hc => ?_) (fun hc => ?_)
    · have h := if_t _ hc h
      refine lv_iload_n hx hb dJ9_floorDiv_7cf53_21 rfl (lv_at hl 0 rfl) ?_
      exact y_iretP h F hr hP hS hlk dJ9_floorDiv_7cf53_22
    · have h := if_f _ hc h
      refine lv_iload_n hx hb dJ9_floorDiv_7cf53_17 rfl (lv_at hl 0 rfl) ?_
      refine lv_iconst (v := 1) hx hb dJ9_floorDiv_7cf53_18 ic_1 ?_
      refine lv_isub hx hb dJ9_floorDiv_7cf53_19 ?_
      exact y_iretP h F hr hP hS hlk dJ9_floorDiv_7cf53_20
theorem pl_J9_max_7cf53 : plainFor yJ9_max_7cf53 = true := by decide +kernel
def f_J9_max_7cf53 (a1 : Int32) (a2 : Int32) : Int32 :=
if a1 < a2 then
a2
else
a1
set_option maxRecDepth 100000 in
set_option maxHeartbeats 4000000 in
theorem c_J9_max_7cf53 (l : Launch) (D : va_G) (cT : Nat → ClassId) (lo nb : Nat) (w : Wd) (ad : Nat → Nat) (a1 : Int32) (a2 : Int32) : Met l yJ9_max_7cf53 (.code yJ9_max_7cf53 cJ9_max_7cf53 2 (some .int) :: TW) { frames := 0, cells := 0, slots := 0, locals := 0 } (mPc D cT lo nb w ad [.int a1, .int a2]) (mQ D cT lo nb w w ad (some (.int (f_J9_max_7cf53 a1 a2)))) 0 0 (fun q => lo ≤ q) := by
  obtain ⟨r, h⟩ : ∃ r, f_J9_max_7cf53 a1 a2 = r := ⟨_, rfl⟩
  rw [h]
  unfold f_J9_max_7cf53 at h
  refine x_metJ (lv := [(0, .int a1), (1, .int a2)]) pl_J9_max_7cf53 (Nat.le_of_ble_eq_true rfl) rfl ?_
  intro p e s m args below meth c ls F hr hlk hP hin hl
  have hx := F.1
  have hb := F.2.1
  have hS : va_S (fun q => lo ≤ q) s.heap s.heap [] := va_S.rf
  refine lv_iload_n hx hb dJ9_max_7cf53_0 rfl (lv_at hl 0 rfl) ?_
  refine lv_iload_n hx hb dJ9_max_7cf53_1 rfl (lv_at hl 1 rfl) ?_
  refine lv_icmp_lt (tgt := 9) hx hb dJ9_max_7cf53_2 (by decide) (fun hc => ?_) (fun hc => ?_)
  · have h := if_t _ hc h
    refine lv_iload_n hx hb dJ9_max_7cf53_9 rfl (lv_at hl 1 rfl) ?_
    exact y_iretP h F hr hP hS hlk dJ9_max_7cf53_10
  · have h := if_f _ hc h
    refine lv_iload_n hx hb dJ9_max_7cf53_5 rfl (lv_at hl 0 rfl) ?_
    refine lv_goto (tgt := 10) hx hb dJ9_max_7cf53_6 (by decide) ?_
    exact y_iretP h F hr hP hS hlk dJ9_max_7cf53_10
def f_J6_bitCount_0f7a4 (a1 : Int32) : Int32 :=
q_lt (a1 - (((a1.toUInt32 >>> ((1 : Int32).toUInt32 &&& Int32.toUInt32 31)).toInt32) &&& (1431655765 : Int32))) (fun v_9 =>
q_lt ((v_9 &&& (858993459 : Int32)) + (((v_9.toUInt32 >>> ((2 : Int32).toUInt32 &&& Int32.toUInt32 31)).toInt32) &&& (858993459 : Int32))) (fun v_23 =>
q_lt ((v_23 + ((v_23.toUInt32 >>> ((4 : Int32).toUInt32 &&& Int32.toUInt32 31)).toInt32)) &&& (252645135 : Int32)) (fun v_33 =>
q_lt (v_33 + ((v_33.toUInt32 >>> ((8 : Int32).toUInt32 &&& Int32.toUInt32 31)).toInt32)) (fun v_40 =>
q_lt (v_40 + ((v_40.toUInt32 >>> ((16 : Int32).toUInt32 &&& Int32.toUInt32 31)).toInt32)) (fun v_47 =>
v_47 &&& (63 : Int32))))))
set_option maxRecDepth 100000 in
set_option maxHeartbeats 4000000 in
theorem c_J6_bitCount_0f7a4 (l : Launch) (D : va_G) (cT : Nat → ClassId) (lo nb : Nat) (w : Wd) (ad : Nat → Nat) (a1 : Int32) : Met l yJ6_bitCount_0f7a4 (.code yJ6_bitCount_0f7a4 cJ6_bitCount_0f7a4 1 (some .int) :: TW) { frames := 0, cells := 0, slots := 0, locals := 0 } (mPc D cT lo nb w ad [.int a1]) (mQ D cT lo nb w w ad (some (.int (f_J6_bitCount_0f7a4 a1)))) 0 0 (fun q => lo ≤ q) := by
  obtain ⟨r, h⟩ : ∃ r, f_J6_bitCount_0f7a4 a1 = r := ⟨_, rfl⟩
  rw [h]
  unfold f_J6_bitCount_0f7a4 at h
  refine x_met (lv := [(0, .int a1)]) (by decide +kernel) (Nat.le_of_ble_eq_true rfl) rfl ?_
  intro p e s m args below meth c ls F hr hlk hP hin hl
  have hx := F.1
  have hb := F.2.1
  have hS : va_S (fun q => lo ≤ q) s.heap s.heap [] := va_S.rf
  refine lv_iload_n hx hb dJ6_bitCount_0f7a4_0 rfl (lv_at hl 0 rfl) ?_
  refine lv_iload_n hx hb dJ6_bitCount_0f7a4_1 rfl (lv_at hl 0 rfl) ?_
  refine lv_iconst (v := 1) hx hb dJ6_bitCount_0f7a4_2 ic_1 ?_
  refine lv_iushr hx hb dJ6_bitCount_0f7a4_3 rfl ?_
  refine lv_ldcw F.1 F.2.1 F.2.2.1 (F.2.2.2.1 _ ct_J6_265) dJ6_bitCount_0f7a4_4 ?_
  refine lv_iand hx hb dJ6_bitCount_0f7a4_7 ?_
  refine lv_isub hx hb dJ6_bitCount_0f7a4_8 ?_
  refine y_let h (fun v_9 h => ?_)
  refine lv_istore_n (lv' := [(0, .int v_9)]) hx hb dJ6_bitCount_0f7a4_9 rfl hl (Nat.le_of_ble_eq_true rfl) rfl (fun ls hl => ?_)
  refine lv_iload_n hx hb dJ6_bitCount_0f7a4_10 rfl (lv_at hl 0 rfl) ?_
  refine lv_ldcw F.1 F.2.1 F.2.2.1 (F.2.2.2.1 _ ct_J6_266) dJ6_bitCount_0f7a4_11 ?_
  refine lv_iand hx hb dJ6_bitCount_0f7a4_14 ?_
  refine lv_iload_n hx hb dJ6_bitCount_0f7a4_15 rfl (lv_at hl 0 rfl) ?_
  refine lv_iconst (v := 2) hx hb dJ6_bitCount_0f7a4_16 ic_2 ?_
  refine lv_iushr hx hb dJ6_bitCount_0f7a4_17 rfl ?_
  refine lv_ldcw F.1 F.2.1 F.2.2.1 (F.2.2.2.1 _ ct_J6_266) dJ6_bitCount_0f7a4_18 ?_
  refine lv_iand hx hb dJ6_bitCount_0f7a4_21 ?_
  refine lv_iadd hx hb dJ6_bitCount_0f7a4_22 ?_
  refine y_let h (fun v_23 h => ?_)
  refine lv_istore_n (lv' := [(0, .int v_23)]) hx hb dJ6_bitCount_0f7a4_23 rfl hl (Nat.le_of_ble_eq_true rfl) rfl (fun ls hl => ?_)
  refine lv_iload_n hx hb dJ6_bitCount_0f7a4_24 rfl (lv_at hl 0 rfl) ?_
  refine lv_iload_n hx hb dJ6_bitCount_0f7a4_25 rfl (lv_at hl 0 rfl) ?_
  refine lv_iconst (v := 4) hx hb dJ6_bitCount_0f7a4_26 ic_4 ?_
  refine lv_iushr hx hb dJ6_bitCount_0f7a4_27 rfl ?_
  refine lv_iadd hx hb dJ6_bitCount_0f7a4_28 ?_
  refine lv_ldcw F.1 F.2.1 F.2.2.1 (F.2.2.2.1 _ ct_J6_267) dJ6_bitCount_0f7a4_29 ?_
  refine lv_iand hx hb dJ6_bitCount_0f7a4_32 ?_
  refine y_let h (fun v_33 h => ?_)
  refine lv_istore_n (lv' := [(0, .int v_33)]) hx hb dJ6_bitCount_0f7a4_33 rfl hl (Nat.le_of_ble_eq_true rfl) rfl (fun ls hl => ?_)
  refine lv_iload_n hx hb dJ6_bitCount_0f7a4_34 rfl (lv_at hl 0 rfl) ?_
  refine lv_iload_n hx hb dJ6_bitCount_0f7a4_35 rfl (lv_at hl 0 rfl) ?_
  refine lv_bipush (v := 8) hx hb dJ6_bitCount_0f7a4_36 ib_8 ?_
  refine lv_iushr hx hb dJ6_bitCount_0f7a4_38 rfl ?_
  refine lv_iadd hx hb dJ6_bitCount_0f7a4_39 ?_
  refine y_let h (fun v_40 h => ?_)
  refine lv_istore_n (lv' := [(0, .int v_40)]) hx hb dJ6_bitCount_0f7a4_40 rfl hl (Nat.le_of_ble_eq_true rfl) rfl (fun ls hl => ?_)
  refine lv_iload_n hx hb dJ6_bitCount_0f7a4_41 rfl (lv_at hl 0 rfl) ?_
  refine lv_iload_n hx hb dJ6_bitCount_0f7a4_42 rfl (lv_at hl 0 rfl) ?_
  refine lv_bipush (v := 16) hx hb dJ6_bitCount_0f7a4_43 ib_16 ?_
  refine lv_iushr hx hb dJ6_bitCount_0f7a4_45 rfl ?_
  refine lv_iadd hx hb dJ6_bitCount_0f7a4_46 ?_
  refine y_let h (fun v_47 h => ?_)
  refine lv_istore_n (lv' := [(0, .int v_47)]) hx hb dJ6_bitCount_0f7a4_47 rfl hl (Nat.le_of_ble_eq_true rfl) rfl (fun ls hl => ?_)
  refine lv_iload_n hx hb dJ6_bitCount_0f7a4_48 rfl (lv_at hl 0 rfl) ?_
  refine lv_bipush (v := 63) hx hb dJ6_bitCount_0f7a4_49 ib_63 ?_
  refine lv_iand hx hb dJ6_bitCount_0f7a4_51 ?_
  exact y_iretP h F hr hP hS hlk dJ6_bitCount_0f7a4_52
theorem pl_J9_min_7cf53 : plainFor yJ9_min_7cf53 = true := by decide +kernel
def f_J9_min_7cf53 (a1 : Int32) (a2 : Int32) : Int32 :=
if a2 < a1 then
a2
else
a1
set_option maxRecDepth 100000 in
set_option maxHeartbeats 4000000 in
theorem c_J9_min_7cf53 (l : Launch) (D : va_G) (cT : Nat → ClassId) (lo nb : Nat) (w : Wd) (ad : Nat → Nat) (a1 : Int32) (a2 : Int32) : Met l yJ9_min_7cf53 (.code yJ9_min_7cf53 cJ9_min_7cf53 2 (some .int) :: TW) { frames := 0, cells := 0, slots := 0, locals := 0 } (mPc D cT lo nb w ad [.int a1, .int a2]) (mQ D cT lo nb w w ad (some (.int (f_J9_min_7cf53 a1 a2)))) 0 0 (fun q => lo ≤ q) := by
  obtain ⟨r, h⟩ : ∃ r, f_J9_min_7cf53 a1 a2 = r := ⟨_, rfl⟩
  rw [h]
  unfold f_J9_min_7cf53 at h
  refine x_metJ (lv := [(0, .int a1), (1, .int a2)]) pl_J9_min_7cf53 (Nat.le_of_ble_eq_true rfl) rfl ?_
  intro p e s m args below meth c ls F hr hlk hP hin hl
  have hx := F.1
  have hb := F.2.1
  have hS : va_S (fun q => lo ≤ q) s.heap s.heap [] := va_S.rf
  refine lv_iload_n hx hb dJ9_min_7cf53_0 rfl (lv_at hl 0 rfl) ?_
  refine lv_iload_n hx hb dJ9_min_7cf53_1 rfl (lv_at hl 1 rfl) ?_
  refine lv_icmp_gt (tgt := 9) hx hb dJ9_min_7cf53_2 (by decide) (fun hc => ?_) (fun hc => ?_)
  · have h := if_t _ hc h
    refine lv_iload_n hx hb dJ9_min_7cf53_9 rfl (lv_at hl 1 rfl) ?_
    exact y_iretP h F hr hP hS hlk dJ9_min_7cf53_10
  · have h := if_f _ hc h
    refine lv_iload_n hx hb dJ9_min_7cf53_5 rfl (lv_at hl 0 rfl) ?_
    refine lv_goto (tgt := 10) hx hb dJ9_min_7cf53_6 (by decide) ?_
    exact y_iretP h F hr hP hS hlk dJ9_min_7cf53_10
