def f_law0 (w : Wd) : Option Wd :=
q_nw w 1 (21, 0) 1 (fun w_0 =>
q_bo (f_X11_init w_0) (fun w_4 =>
q_ck w_4 1 2 (
q_nw w_4 63 (22, 0) 1 (fun w_8 =>
q_bo (f_X12_init w_8) (fun w_12 =>
q_ck w_12 63 2 (
some w_12))))))
def s_0 (A : Nat → Int32) (w : Wd) : Option Wd :=
if (f_X11_turn (A 1) (A 2)) = (f_X12_turn (A 1) (A 2)) then
some w
else
none
def s_1 (A : Nat → Int32) (w : Wd) : Option Wd :=
q_bi (f_X11_house w (A 1) (A 2) (A 3) (A 4) (A 5) (A 6) (A 7)) (fun v_339 w_339 =>
q_bi (f_X12_house w_339 (A 1) (A 2) (A 3) (A 4) (A 5) (A 6) (A 7)) (fun v_380 w_380 =>
if v_339 = v_380 then
some w_380
else
none))
def s_2 (A : Nat → Int32) (w : Wd) : Option Wd :=
q_bi (f_X11_cut w (A 1) (A 2)) (fun v_399 w_399 =>
q_bi (f_X12_cut w_399 (A 1) (A 2)) (fun v_413 w_413 =>
if v_399 = v_413 then
some w_413
else
none))
def s_3 (A : Nat → Int32) (w : Wd) : Option Wd :=
q_bi (f_X11_kerb w (A 1) (A 2) (A 3) (A 4)) (fun v_442 w_442 =>
q_bi (f_X12_kerb w_442 (A 1) (A 2) (A 3) (A 4)) (fun v_466 w_466 =>
if v_442 = v_466 then
some w_466
else
none))
def s_4 (A : Nat → Int32) (w : Wd) : Option Wd :=
q_bi (f_X11_wire w (A 1) (A 2) (A 3) (A 4) (A 5)) (fun v_500 w_500 =>
q_bi (f_X12_wire w_500 (A 1) (A 2) (A 3) (A 4) (A 5)) (fun v_529 w_529 =>
if v_500 = v_529 then
some w_529
else
none))
def s_5 (A : Nat → Int32) (w : Wd) : Option Wd :=
q_bi (f_X11_down w (A 1) (zb (A 2))) (fun v_556 w_556 =>
q_bi (f_X12_down w_556 (A 1) (zb (A 2))) (fun v_578 w_578 =>
if v_556 = v_578 then
some w_578
else
none))
def s_6 (A : Nat → Int32) (w : Wd) : Option Wd :=
q_bi (f_X11_slope w (A 1) (A 2) (A 3) (A 4) (A 5) (A 6) (zb (A 7))) (fun v_632 w_632 =>
q_bi (f_X12_slope w_632 (A 1) (A 2) (A 3) (A 4) (A 5) (A 6) (zb (A 7))) (fun v_681 w_681 =>
if v_632 = v_681 then
some w_681
else
none))
def s_7 (A : Nat → Int32) (w : Wd) : Option Wd :=
q_bi (f_X11_rain w (zb (A 1))) (fun v_703 w_703 =>
q_bi (f_X12_rain w_703 (zb (A 1))) (fun v_720 w_720 =>
if v_703 = v_720 then
some w_720
else
none))
def s_8 (A : Nat → Int32) (w : Wd) : Option Wd :=
q_bo (f_X11_ground w (A 1) (A 2) (A 3)) (fun v_744 =>
q_bo (f_X12_ground w (A 1) (A 2) (A 3)) (fun v_763 =>
if v_744 = v_763 then
some w
else
none))
def s_9 (A : Nat → Int32) (w : Wd) : Option Wd :=
q_bi (f_X11_car w (A 1) (A 2) (A 3) (A 4)) (fun v_792 w_792 =>
q_bi (f_X12_car w_792 (A 1) (A 2) (A 3) (A 4)) (fun v_816 w_816 =>
if v_792 = v_816 then
some w_816
else
none))
def s_10 (A : Nat → Int32) (w : Wd) : Option Wd :=
q_bi (f_X11_storey w (A 1) (A 2) (A 3) (A 4)) (fun v_845 w_845 =>
q_bi (f_X12_storey w_845 (A 1) (A 2) (A 3) (A 4)) (fun v_869 w_869 =>
if v_845 = v_869 then
some w_869
else
none))
def s_11 (A : Nat → Int32) (w : Wd) : Option Wd :=
q_bi (f_X11_stand w (A 1) (A 2) (A 3) (A 4)) (fun v_898 w_898 =>
q_bi (f_X12_stand w_898 (A 1) (A 2) (A 3) (A 4)) (fun v_922 w_922 =>
if v_898 = v_922 then
some w_922
else
none))
def s_12 (A : Nat → Int32) (w : Wd) : Option Wd :=
q_bi (f_X11_leave w (A 1)) (fun v_936 w_936 =>
q_bi (f_X12_leave w_936 (A 1)) (fun v_945 w_945 =>
if v_936 = v_945 then
some w_945
else
none))
def s_13 (A : Nat → Int32) (w : Wd) : Option Wd :=
q_bo (f_X11_about w (A 1) (A 2)) (fun v_964 =>
q_bo (f_X12_about w (A 1) (A 2)) (fun v_978 =>
if v_964 = v_978 then
some w
else
none))
def s_14 (A : Nat → Int32) (w : Wd) : Option Wd :=
q_bo (f_X11_wheel w (A 1) (A 2) (A 3)) (fun v_1002 =>
q_bo (f_X12_wheel w (A 1) (A 2) (A 3)) (fun v_1021 =>
if v_1002 = v_1021 then
some w
else
none))
def s_15 (A : Nat → Int32) (w : Wd) : Option Wd :=
q_bi (f_X11_feet w (A 1)) (fun v_1035 w_1035 =>
q_bi (f_X12_feet w_1035 (A 1)) (fun v_1044 w_1044 =>
if v_1035 = v_1044 then
some w_1044
else
none))
def s_16 (A : Nat → Int32) (w : Wd) : Option Wd :=
q_bi (f_X11_meets w (A 1) (A 2)) (fun v_1063 w_1063 =>
q_bi (f_X12_meets w_1063 (A 1) (A 2)) (fun v_1077 w_1077 =>
if v_1063 = v_1077 then
some w_1077
else
none))
def s_17 (A : Nat → Int32) (w : Wd) : Option Wd :=
q_bi (f_X11_move w (A 1) (A 2)) (fun v_1096 w_1096 =>
q_bi (f_X12_move w_1096 (A 1) (A 2)) (fun v_1110 w_1110 =>
if v_1096 = v_1110 then
some w_1110
else
none))
def s_18 (A : Nat → Int32) (w : Wd) : Option Wd :=
q_bi (f_X11_way w (A 1) (A 2) (A 3) (A 4) (A 5) (A 6)) (fun v_1150 w_1150 =>
q_bi (f_X12_way w_1150 (A 1) (A 2) (A 3) (A 4) (A 5) (A 6)) (fun v_1185 w_1185 =>
if v_1150 = v_1185 then
some w_1185
else
none))
def s_19 (A : Nat → Int32) (w : Wd) : Option Wd :=
q_bo (f_X11_step w (A 1)) (fun v_1199 =>
q_bo (f_X12_step w (A 1)) (fun v_1208 =>
if v_1199 = v_1208 then
some w
else
none))
def s_20 (A : Nat → Int32) (w : Wd) : Option Wd :=
if (f_X11_seen w) = (f_X12_seen w) then
some w
else
none
def s_21 (A : Nat → Int32) (w : Wd) : Option Wd :=
q_bi (f_X11_rope w (A 1) (A 2) (A 3) (A 4) (A 5)) (fun v_1255 w_1255 =>
q_bi (f_X12_rope w_1255 (A 1) (A 2) (A 3) (A 4) (A 5)) (fun v_1284 w_1284 =>
if v_1255 = v_1284 then
some w_1284
else
none))
def s_22 (A : Nat → Int32) (w : Wd) : Option Wd :=
q_bi (f_X11_set w (A 1) (A 2)) (fun v_1303 w_1303 =>
q_bi (f_X12_set w_1303 (A 1) (A 2)) (fun v_1317 w_1317 =>
if v_1303 = v_1317 then
some w_1317
else
none))
def s_23 (A : Nat → Int32) (w : Wd) : Option Wd :=
q_bi (f_X11_tight w (A 1) (A 2)) (fun v_1336 w_1336 =>
q_bo (f_X12_tight w_1336 (A 1) (A 2)) (fun v_1350 =>
if v_1336 = v_1350 then
some w_1336
else
none))
def s_24 (A : Nat → Int32) (w : Wd) : Option Wd :=
q_bi (f_X11_pull w (A 1)) (fun v_1364 w_1364 =>
q_bo (f_X12_pull w_1364 (A 1)) (fun v_1373 =>
if v_1364 = v_1373 then
some w_1364
else
none))
def s_25 (A : Nat → Int32) (w : Wd) : Option Wd :=
q_bo (f_X11_need w (A 1)) (fun v_1387 =>
q_bo (f_X12_need w (A 1)) (fun v_1396 =>
if v_1387 = v_1396 then
some w
else
none))
def s_26 (A : Nat → Int32) (w : Wd) : Option Wd :=
q_bi (f_X11_may w (A 1)) (fun v_1410 w_1410 =>
q_bo (f_X12_may w_1410 (A 1)) (fun v_1419 =>
if v_1410 = v_1419 then
some w_1410
else
none))
def s_27 (A : Nat → Int32) (w : Wd) : Option Wd :=
q_bi (f_X11_woods w (A 1)) (fun v_1433 w_1433 =>
q_bo (f_X12_woods w_1433 (A 1)) (fun v_1442 =>
if v_1433 = v_1442 then
some w_1433
else
none))
def s_28 (A : Nat → Int32) (w : Wd) : Option Wd :=
q_bi (f_X11_team w (A 1)) (fun v_1456 w_1456 =>
q_bi (f_X12_team w_1456 (A 1)) (fun v_1465 w_1465 =>
if v_1456 = v_1465 then
some w_1465
else
none))
def s_29 (A : Nat → Int32) (w : Wd) : Option Wd :=
q_bi (f_X11_stage w (A 1)) (fun v_1479 w_1479 =>
q_bi (f_X12_stage w_1479 (A 1)) (fun v_1488 w_1488 =>
if v_1479 = v_1488 then
some w_1488
else
none))
def s_30 (A : Nat → Int32) (w : Wd) : Option Wd :=
q_bi (f_X11_run w (A 1)) (fun v_1502 w_1502 =>
q_bi (f_X12_run w_1502 (A 1)) (fun v_1511 w_1511 =>
if v_1502 = v_1511 then
some w_1511
else
none))
def s_31 (A : Nat → Int32) (w : Wd) : Option Wd :=
q_bi (f_X11_roster w) (fun v_1520 w_1520 =>
q_bi (f_X12_roster w_1520) (fun v_1524 w_1524 =>
if v_1520 = v_1524 then
some w_1524
else
none))
def s_32 (A : Nat → Int32) (w : Wd) : Option Wd :=
q_bi (f_X11_pulls w (A 1)) (fun v_1538 w_1538 =>
q_bi (f_X12_pulls w_1538 (A 1)) (fun v_1547 w_1547 =>
if v_1538 = v_1547 then
some w_1547
else
none))
def s_33 (A : Nat → Int32) (w : Wd) : Option Wd :=
q_bi (f_X11_block w (A 1) (A 2) (zb (A 3))) (fun v_1579 w_1579 =>
q_bi (f_X12_block w_1579 (A 1) (A 2) (zb (A 3))) (fun v_1606 w_1606 =>
if v_1579 = v_1606 then
some w_1606
else
none))
def s_34 (A : Nat → Int32) (w : Wd) : Option Wd :=
q_bi (f_X11_enter w (A 1) (A 2) (A 3)) (fun v_1630 w_1630 =>
q_bi (f_X12_enter w_1630 (A 1) (A 2) (A 3)) (fun v_1649 w_1649 =>
if v_1630 = v_1649 then
some w_1649
else
none))
def s_35 (A : Nat → Int32) (w : Wd) : Option Wd :=
q_bi (f_X11_stuck w (A 1) (A 2) (A 3)) (fun v_1673 w_1673 =>
q_bi (f_X12_stuck w_1673 (A 1) (A 2) (A 3)) (fun v_1692 w_1692 =>
if v_1673 = v_1692 then
some w_1692
else
none))
def s_36 (A : Nat → Int32) (w : Wd) : Option Wd :=
q_bi (f_X11_home w) (fun v_1701 w_1701 =>
q_bi (f_X12_home w_1701) (fun v_1705 w_1705 =>
if v_1701 = v_1705 then
some w_1705
else
none))
def s_37 (A : Nat → Int32) (w : Wd) : Option Wd :=
q_bi (f_X11_gone w (A 1)) (fun v_1719 w_1719 =>
q_bi (f_X12_gone w_1719 (A 1)) (fun v_1728 w_1728 =>
if v_1719 = v_1728 then
some w_1728
else
none))
def s_38 (A : Nat → Int32) (w : Wd) : Option Wd :=
q_bi (f_X11_where w (A 1) (A 2)) (fun v_1747 w_1747 =>
q_bi (f_X12_where w_1747 (A 1) (A 2)) (fun v_1761 w_1761 =>
if v_1747 = v_1761 then
some w_1761
else
none))
def s_39 (A : Nat → Int32) (w : Wd) : Option Wd :=
q_bi (f_X11_task w (A 1) (A 2)) (fun v_1780 w_1780 =>
q_bi (f_X12_task w_1780 (A 1) (A 2)) (fun v_1794 w_1794 =>
if v_1780 = v_1794 then
some w_1794
else
none))
def s_40 (A : Nat → Int32) (w : Wd) : Option Wd :=
q_bi (f_X11_crews w (A 1)) (fun v_1808 w_1808 =>
q_bi (f_X12_crews w_1808 (A 1)) (fun v_1817 w_1817 =>
if v_1808 = v_1817 then
some w_1817
else
none))
def s_41 (A : Nat → Int32) (w : Wd) : Option Wd :=
q_bi (f_X11_late w (A 1)) (fun v_1831 w_1831 =>
q_bi (f_X12_late w_1831 (A 1)) (fun v_1840 w_1840 =>
if v_1831 = v_1840 then
some w_1840
else
none))
def s_42 (A : Nat → Int32) (w : Wd) : Option Wd :=
q_bi (f_X11_latest w (A 1)) (fun v_1854 w_1854 =>
q_bi (f_X12_latest w_1854 (A 1)) (fun v_1863 w_1863 =>
if v_1854 = v_1863 then
some w_1863
else
none))
def s_43 (A : Nat → Int32) (w : Wd) : Option Wd :=
q_bi (f_X11_type w (A 1)) (fun v_1877 w_1877 =>
q_bi (f_X12_type w_1877 (A 1)) (fun v_1886 w_1886 =>
if v_1877 = v_1886 then
some w_1886
else
none))
def s_44 (A : Nat → Int32) (w : Wd) : Option Wd :=
q_bi (f_X11_tear w) (fun v_1895 w_1895 =>
q_bi (f_X12_tear w_1895) (fun v_1899 w_1899 =>
if v_1895 = v_1899 then
some w_1899
else
none))
def s_45 (A : Nat → Int32) (w : Wd) : Option Wd :=
q_bo (f_X11_fault w) (fun v_1908 =>
q_bi (f_X12_fault w) (fun v_1912 w_1912 =>
if v_1908 = v_1912 then
some w_1912
else
none))
def s_46 (A : Nat → Int32) (w : Wd) : Option Wd :=
q_bi (f_X11_perform w (A 1)) (fun v_1926 w_1926 =>
q_bi (f_X12_perform w_1926 (A 1)) (fun v_1935 w_1935 =>
if v_1926 = v_1935 then
some w_1935
else
none))
def s_47 (A : Nat → Int32) (w : Wd) : Option Wd :=
q_bi (f_X11_sheet w (A 1) (A 2) (A 3)) (fun v_1959 w_1959 =>
q_bi (f_X12_sheet w_1959 (A 1) (A 2) (A 3)) (fun v_1978 w_1978 =>
if v_1959 = v_1978 then
some w_1978
else
none))
def s_48 (A : Nat → Int32) (w : Wd) : Option Wd :=
q_bi (f_X11_lose w (A 1)) (fun v_1992 w_1992 =>
q_bi (f_X12_lose w_1992 (A 1)) (fun v_2001 w_2001 =>
if v_1992 = v_2001 then
some w_2001
else
none))
def s_49 (A : Nat → Int32) (w : Wd) : Option Wd :=
q_bi (f_X11_put w (A 1) (A 2) (A 3) (A 4)) (fun v_2030 w_2030 =>
q_bi (f_X12_put w_2030 (A 1) (A 2) (A 3) (A 4)) (fun v_2054 w_2054 =>
if v_2030 = v_2054 then
some w_2054
else
none))
def s_50 (A : Nat → Int32) (w : Wd) : Option Wd :=
q_bi (f_X11_get w (A 1) (A 2) (A 3)) (fun v_2078 w_2078 =>
q_bi (f_X12_get w_2078 (A 1) (A 2) (A 3)) (fun v_2097 w_2097 =>
if v_2078 = v_2097 then
some w_2097
else
none))
def s_51 (A : Nat → Int32) (w : Wd) : Option Wd :=
q_bi (f_X11_copy w (A 1) (A 2) (A 3) (A 4) (A 5)) (fun v_2131 w_2131 =>
q_bi (f_X12_copy w_2131 (A 1) (A 2) (A 3) (A 4) (A 5)) (fun v_2160 w_2160 =>
if v_2131 = v_2160 then
some w_2160
else
none))
def s_52 (A : Nat → Int32) (w : Wd) : Option Wd :=
q_bi (f_X11_measure w (A 1)) (fun v_2174 w_2174 =>
q_bi (f_X12_measure w_2174 (A 1)) (fun v_2183 w_2183 =>
if v_2174 = v_2183 then
some w_2183
else
none))
def s_53 (A : Nat → Int32) (w : Wd) : Option Wd :=
q_bo (f_X11_count w (A 1)) (fun v_2197 =>
q_bo (f_X12_count w (A 1)) (fun v_2206 =>
if v_2197 = v_2206 then
some w
else
none))
def s_54 (A : Nat → Int32) (w : Wd) : Option Wd :=
q_bi (f_X11_digest w) (fun v_2215 w_2215 =>
q_bi (f_X12_digest w_2215) (fun v_2219 w_2219 =>
if (lg_cmp v_2215 v_2219) = 0 then
some w_2219
else
none))
/-- the functions of the 55 calls, in their order -/
def s_all : List ((Nat → Int32) → Wd → Option Wd) := [s_0, s_1, s_2, s_3, s_4, s_5, s_6, s_7, s_8, s_9, s_10, s_11, s_12, s_13, s_14, s_15, s_16, s_17, s_18, s_19, s_20, s_21, s_22, s_23, s_24, s_25, s_26, s_27, s_28, s_29, s_30, s_31, s_32, s_33, s_34, s_35, s_36, s_37, s_38, s_39, s_40, s_41, s_42, s_43, s_44, s_45, s_46, s_47, s_48, s_49, s_50, s_51, s_52, s_53, s_54]
def l_step (A : Nat → Int32) (w : Wd) : Option Wd := match s_all[(A 0 &&& 63).toNatClampNeg]? with | some f => f A w | none => some w
section LW
variable {p : Program} {l : Launch} {e : Env} {s : State} {m : MethodId} {below : List Frame} {meth : Method} {c : Code} {b L : Nat} {xs : Nat → Int32} {D : va_G} {cT : Nat → ClassId} {lo : Nat} {H : Heap} {locs : List Loc} {ls : Array Slot} {cells slots : Nat} {Q : State → Prop}
set_option maxRecDepth 100000 in
set_option maxHeartbeats 4000000 in
theorem lc_start (F : Fx p s m #[Value.ref b] c cL_law RL 4 D cT lo) (hX : va_X b L xs s s.heap) (hbl : b < s.heap.size) (hbA : ¬ lo ≤ b) {w w9 : Wd} {ad0 : Nat → Nat} (hP : wP D cT lo 0 w ad0 H) (hS : va_S (fun q => lo ≤ q) s.heap H locs) (hl : lv_has ls 4 [(0, .ref b)]) (h : f_law0 w = some w9)
    (kk : ∀ (ad : Nat → Nat) (H : Heap) (locs : List Loc) (ls : Array Slot), wP D cT lo 0 w9 ad H → va_S (fun q => lo ≤ q) s.heap H locs → lv_has ls 4 [(3, .int 0), (2, .ref (ad 63)), (1, .ref (ad 1)), (0, .ref b)] → W p l e room_1 s m #[Value.ref b] below meth c H locs 123 25000 Q (F0 m 18 ls [])) : W p l e room_1 s m #[Value.ref b] below meth c H locs 0 0 Q (F0 m 0 ls []) := by
  unfold f_law0 at h
  have hx := F.1
  have hb := F.2.1
  have hM_w : mono w w := mono.refl
  have hXA : ∀ k, wA w k ≠ 0 → ad0 k = ad0 k := fun _ _ => rfl
  refine y_new (k := 1) (ci := 11) h F hP hS cl_L_7 ib_X11 ini_X11 rfl inw_X11 tyX11_ok ftD_11 (Or.inl rfl) (Nat.le_of_ble_eq_true rfl) (Nat.le_of_ble_eq_true rfl) dL_law_0 (fun w_0 ad H hm hw_1 hk_1 hx h hP' hS => ?_)
  have hP := hP'
  have hXA : ∀ k, wA w k ≠ 0 → ad k = ad0 k := fun k hk => (hx k (hM_w.1 k hk)).trans (hXA k hk)
  have hM_w := hm
  have hn_1 : wA w_0 1 ≠ 0 := by rw [hw_1]; decide
  refine lv_dup F.1 F.2.1 dL_law_3 rfl ?_
  obtain ⟨w_4, hc_4, h⟩ := bo_s h
  refine x_goesA (x_runI (As := []) (rest := [.ref (ad 1)]) F hP hS (c_X11_init l D cT lo 0 w_0 ad hw_1 w_4 hc_4) cw_X11_init lk_L_9 rfl ii_X11_init ⟨rfl, rfl, Nat.le_of_ble_eq_true rfl, Nat.le_of_ble_eq_true rfl⟩ hl.1 rfl (Nat.le_of_ble_eq_true rfl) dL_law_4 ⟨Nat.le_of_ble_eq_true rfl, Nat.le_of_ble_eq_true rfl⟩) hS (fun ad H locs hx hP' hS hm => ?_)
  have e9 := hx 1 hn_1
  try rw [← e9] at hl
  try rw [← e9]
  have hP := hP'
  have hXA : ∀ k, wA w k ≠ 0 → ad k = ad0 k := fun k hk => (hx k (hM_w.1 k hk)).trans (hXA k hk)
  have hM_w := hM_w.trans hm
  have hn_1 := hm.1 _ hn_1
  obtain ⟨ha_1, h⟩ := ck_s h
  refine lv_astore_n (lv' := [(1, .ref (ad 1)), (0, .ref b)]) F.1 F.2.1 dL_law_7 rfl hl (Nat.le_of_ble_eq_true rfl) rfl (fun ls hl => ?_)
  refine y_new (k := 63) (ci := 12) h F hP hS cl_L_10 ib_X12 ini_X12 rfl inw_X12 tyX12_ok ftD_12 (Or.inl rfl) (Nat.le_of_ble_eq_true rfl) (Nat.le_of_ble_eq_true rfl) dL_law_8 (fun w_8 ad H hm hw_63 hk_63 hx h hP' hS => ?_)
  have e9 := hx 1 (n2 ha_1)
  try rw [← e9] at hl
  try rw [← e9]
  have hP := hP'
  have hXA : ∀ k, wA w k ≠ 0 → ad k = ad0 k := fun k hk => (hx k (hM_w.1 k hk)).trans (hXA k hk)
  have hM_w := hM_w.trans hm
  have ha_1 := hm.2 _ ha_1
  have hn_63 : wA w_8 63 ≠ 0 := by rw [hw_63]; decide
  refine lv_dup F.1 F.2.1 dL_law_11 rfl ?_
  obtain ⟨w_12, hc_12, h⟩ := bo_s h
  refine x_goesA (x_runI (As := []) (rest := [.ref (ad 63)]) F hP hS (c_X12_init l D cT lo 0 w_8 ad hw_63 w_12 hc_12) cw_X12_init lk_L_12 rfl ii_X12_init ⟨rfl, rfl, Nat.le_of_ble_eq_true rfl, Nat.le_of_ble_eq_true rfl⟩ hl.1 rfl (Nat.le_of_ble_eq_true rfl) dL_law_12 ⟨Nat.le_of_ble_eq_true rfl, Nat.le_of_ble_eq_true rfl⟩) hS (fun ad H locs hx hP' hS hm => ?_)
  have e9 := hx 1 (n2 ha_1)
  try rw [← e9] at hl
  try rw [← e9]
  have e9 := hx 63 hn_63
  try rw [← e9] at hl
  try rw [← e9]
  have hP := hP'
  have hXA : ∀ k, wA w k ≠ 0 → ad k = ad0 k := fun k hk => (hx k (hM_w.1 k hk)).trans (hXA k hk)
  have hM_w := hM_w.trans hm
  have ha_1 := hm.2 _ ha_1
  have hn_63 := hm.1 _ hn_63
  obtain ⟨ha_63, h⟩ := ck_s h
  refine lv_astore_n (lv' := [(2, .ref (ad 63)), (1, .ref (ad 1)), (0, .ref b)]) F.1 F.2.1 dL_law_15 rfl hl (Nat.le_of_ble_eq_true rfl) rfl (fun ls hl => ?_)
  refine lv_iconst (v := 0) F.1 F.2.1 dL_law_16 ic_0 ?_
  refine lv_istore_n (lv' := [(3, .int (0 : Int32)), (2, .ref (ad 63)), (1, .ref (ad 1)), (0, .ref b)]) F.1 F.2.1 dL_law_17 rfl hl (Nat.le_of_ble_eq_true rfl) rfl (fun ls hl => ?_)
  cases h
  refine W.widen (k := 123) (n := 25000) (Nat.le_of_ble_eq_true rfl) (Nat.le_of_ble_eq_true rfl) ?_
  exact kk _ _ _ _ hP hS hl
set_option maxRecDepth 100000 in
set_option maxHeartbeats 4000000 in
theorem lc_0 (F : Fx p s m #[Value.ref b] c cL_law RL 4 D cT lo) (hX : va_X b L xs s s.heap) (hbl : b < s.heap.size) (hbA : ¬ lo ≤ b) {A : Nat → Int32} {i : Int32} (hA : lA L xs i A) {w w9 : Wd} {ad0 : Nat → Nat} (hP : wP D cT lo NB w ad0 H) (hS : va_S (fun q => lo ≤ q) s.heap H locs) (hl : lv_has ls 4 [(0, .ref b), (1, .ref (ad0 1)), (2, .ref (ad0 63)), (3, .int i)]) (hce : cells + 13 ≤ 600000) (hsl : slots + 89 ≤ 7302250) (h : s_0 A w = some w9)
    (kk : ∀ (ad : Nat → Nat) (H : Heap) (locs : List Loc) (ls : Array Slot), wP D cT lo NB w9 ad H → va_S (fun q => lo ≤ q) s.heap H locs → lv_has ls 4 [(0, .ref b), (1, .ref (ad 1)), (2, .ref (ad 63)), (3, .int i)] → W p l e room_1 s m #[Value.ref b] below meth c H locs (cells + 13) (slots + 89) Q (F0 m 2228 ls [])) : W p l e room_1 s m #[Value.ref b] below meth c H locs cells slots Q (F0 m 268 ls []) := by
  unfold s_0 at h
  have hx := F.1
  have hb := F.2.1
  have hM_w : mono w w := mono.refl
  have hXA : ∀ k, wA w k ≠ 0 → ad0 k = ad0 k := fun _ _ => rfl
  refine lv_aload_n F.1 F.2.1 dL_law_268 rfl (lv_at hl 1 rfl) ?_
  refine lv_aload_n F.1 F.2.1 dL_law_269 rfl (lv_at hl 0 rfl) ?_
  refine lv_iload_n F.1 F.2.1 dL_law_270 rfl (lv_at hl 3 rfl) ?_
  refine lv_iconst (v := 1) F.1 F.2.1 dL_law_271 ic_1 ?_
  refine lv_iadd F.1 F.2.1 dL_law_272 ?_
  refine y_scr F hX hbl hbA hS (hA 1 (by decide)) dL_law_273 ?_
  refine lv_aload_n F.1 F.2.1 dL_law_274 rfl (lv_at hl 0 rfl) ?_
  refine lv_iload_n F.1 F.2.1 dL_law_275 rfl (lv_at hl 3 rfl) ?_
  refine lv_iconst (v := 2) F.1 F.2.1 dL_law_276 ic_2 ?_
  refine lv_iadd F.1 F.2.1 dL_law_277 ?_
  refine y_scr F hX hbl hbA hS (hA 2 (by decide)) dL_law_278 ?_
  refine x_goes (x_runV (As := [.int (A 1), .int (A 2)]) (rest := []) F hP hS (c_X11_turn l D cT lo NB w ad0 (A 1) (A 2)) cw_X11_turn lk_L_13 vi_X11_turn k_1 (n2 (hP.al 1 rfl)) rfl ⟨rfl, rfl, Nat.le_of_ble_eq_true rfl, Nat.le_of_ble_eq_true rfl⟩ hl.1 rfl (Nat.le_of_ble_eq_true rfl) dL_law_279 ⟨Nat.le_trans (by omega) hce, Nat.le_trans (by omega) hsl⟩) hS (fun H locs hP hS _ => ?_)
  refine lv_aload_n F.1 F.2.1 dL_law_282 rfl (lv_at hl 2 rfl) ?_
  refine lv_aload_n F.1 F.2.1 dL_law_283 rfl (lv_at hl 0 rfl) ?_
  refine lv_iload_n F.1 F.2.1 dL_law_284 rfl (lv_at hl 3 rfl) ?_
  refine lv_iconst (v := 1) F.1 F.2.1 dL_law_285 ic_1 ?_
  refine lv_iadd F.1 F.2.1 dL_law_286 ?_
  refine y_scr F hX hbl hbA hS (hA 1 (by decide)) dL_law_287 ?_
  refine lv_aload_n F.1 F.2.1 dL_law_288 rfl (lv_at hl 0 rfl) ?_
  refine lv_iload_n F.1 F.2.1 dL_law_289 rfl (lv_at hl 3 rfl) ?_
  refine lv_iconst (v := 2) F.1 F.2.1 dL_law_290 ic_2 ?_
  refine lv_iadd F.1 F.2.1 dL_law_291 ?_
  refine y_scr F hX hbl hbA hS (hA 2 (by decide)) dL_law_292 ?_
  refine x_goes (x_runV (As := [.int (A 1), .int (A 2)]) (rest := [.int (f_X11_turn (A 1) (A 2))]) F hP hS (c_X12_turn l D cT lo NB w ad0 (A 1) (A 2)) cw_X12_turn lk_L_17 vi_X12_turn k_63 (n2 (hP.al 63 rfl)) rfl ⟨rfl, rfl, Nat.le_of_ble_eq_true rfl, Nat.le_of_ble_eq_true rfl⟩ hl.1 rfl (Nat.le_of_ble_eq_true rfl) dL_law_293 ⟨Nat.le_trans (by omega) hce, Nat.le_trans (by omega) hsl⟩) hS (fun H locs hP hS _ => ?_)
  refine lv_icmp_eq (tgt := 2228) F.1 F.2.1 dL_law_296 (by decide) (fun hc => ?_) (fun hc => ?_)
  · have h := if_t _ hc h
    cases h
    refine W.widen (k := cells + 13) (n := slots + 89) (by omega) (by omega) ?_
    exact kk _ _ _ _ hP hS hl
  · have h := if_f _ hc h
    cases h
set_option maxRecDepth 100000 in
set_option maxHeartbeats 4000000 in
theorem lc_1 (F : Fx p s m #[Value.ref b] c cL_law RL 4 D cT lo) (hX : va_X b L xs s s.heap) (hbl : b < s.heap.size) (hbA : ¬ lo ≤ b) {A : Nat → Int32} {i : Int32} (hA : lA L xs i A) {w w9 : Wd} {ad0 : Nat → Nat} (hP : wP D cT lo NB w ad0 H) (hS : va_S (fun q => lo ≤ q) s.heap H locs) (hl : lv_has ls 4 [(0, .ref b), (1, .ref (ad0 1)), (2, .ref (ad0 63)), (3, .int i)]) (hce : cells + 13 ≤ 600000) (hsl : slots + 89 ≤ 7302250) (h : s_1 A w = some w9)
    (kk : ∀ (ad : Nat → Nat) (H : Heap) (locs : List Loc) (ls : Array Slot), wP D cT lo NB w9 ad H → va_S (fun q => lo ≤ q) s.heap H locs → lv_has ls 4 [(0, .ref b), (1, .ref (ad 1)), (2, .ref (ad 63)), (3, .int i)] → W p l e room_1 s m #[Value.ref b] below meth c H locs (cells + 13) (slots + 89) Q (F0 m 2228 ls [])) : W p l e room_1 s m #[Value.ref b] below meth c H locs cells slots Q (F0 m 301 ls []) := by
  unfold s_1 at h
  have hx := F.1
  have hb := F.2.1
  have hM_w : mono w w := mono.refl
  have hXA : ∀ k, wA w k ≠ 0 → ad0 k = ad0 k := fun _ _ => rfl
  refine lv_aload_n F.1 F.2.1 dL_law_301 rfl (lv_at hl 1 rfl) ?_
  refine lv_aload_n F.1 F.2.1 dL_law_302 rfl (lv_at hl 0 rfl) ?_
  refine lv_iload_n F.1 F.2.1 dL_law_303 rfl (lv_at hl 3 rfl) ?_
  refine lv_iconst (v := 1) F.1 F.2.1 dL_law_304 ic_1 ?_
  refine lv_iadd F.1 F.2.1 dL_law_305 ?_
  refine y_scr F hX hbl hbA hS (hA 1 (by decide)) dL_law_306 ?_
  refine lv_aload_n F.1 F.2.1 dL_law_307 rfl (lv_at hl 0 rfl) ?_
  refine lv_iload_n F.1 F.2.1 dL_law_308 rfl (lv_at hl 3 rfl) ?_
  refine lv_iconst (v := 2) F.1 F.2.1 dL_law_309 ic_2 ?_
  refine lv_iadd F.1 F.2.1 dL_law_310 ?_
  refine y_scr F hX hbl hbA hS (hA 2 (by decide)) dL_law_311 ?_
  refine lv_aload_n F.1 F.2.1 dL_law_312 rfl (lv_at hl 0 rfl) ?_
  refine lv_iload_n F.1 F.2.1 dL_law_313 rfl (lv_at hl 3 rfl) ?_
  refine lv_iconst (v := 3) F.1 F.2.1 dL_law_314 ic_3 ?_
  refine lv_iadd F.1 F.2.1 dL_law_315 ?_
  refine y_scr F hX hbl hbA hS (hA 3 (by decide)) dL_law_316 ?_
  refine lv_aload_n F.1 F.2.1 dL_law_317 rfl (lv_at hl 0 rfl) ?_
  refine lv_iload_n F.1 F.2.1 dL_law_318 rfl (lv_at hl 3 rfl) ?_
  refine lv_iconst (v := 4) F.1 F.2.1 dL_law_319 ic_4 ?_
  refine lv_iadd F.1 F.2.1 dL_law_320 ?_
  refine y_scr F hX hbl hbA hS (hA 4 (by decide)) dL_law_321 ?_
  refine lv_aload_n F.1 F.2.1 dL_law_322 rfl (lv_at hl 0 rfl) ?_
  refine lv_iload_n F.1 F.2.1 dL_law_323 rfl (lv_at hl 3 rfl) ?_
  refine lv_iconst (v := 5) F.1 F.2.1 dL_law_324 ic_5 ?_
  refine lv_iadd F.1 F.2.1 dL_law_325 ?_
  refine y_scr F hX hbl hbA hS (hA 5 (by decide)) dL_law_326 ?_
  refine lv_aload_n F.1 F.2.1 dL_law_327 rfl (lv_at hl 0 rfl) ?_
  refine lv_iload_n F.1 F.2.1 dL_law_328 rfl (lv_at hl 3 rfl) ?_
  refine lv_bipush (v := 6) F.1 F.2.1 dL_law_329 ib_6 ?_
  refine lv_iadd F.1 F.2.1 dL_law_331 ?_
  refine y_scr F hX hbl hbA hS (hA 6 (by decide)) dL_law_332 ?_
  refine lv_aload_n F.1 F.2.1 dL_law_333 rfl (lv_at hl 0 rfl) ?_
  refine lv_iload_n F.1 F.2.1 dL_law_334 rfl (lv_at hl 3 rfl) ?_
  refine lv_bipush (v := 7) F.1 F.2.1 dL_law_335 ib_7 ?_
  refine lv_iadd F.1 F.2.1 dL_law_337 ?_
  refine y_scr F hX hbl hbA hS (hA 7 (by decide)) dL_law_338 ?_
  obtain ⟨v_339, w_339, hc_339, h⟩ := bi_s h
  refine x_goesA (x_runV (As := [.int (A 1), .int (A 2), .int (A 3), .int (A 4), .int (A 5), .int (A 6), .int (A 7)]) (rest := []) F hP hS (c_X11_house l D cT lo w ad0 (A 1) (A 2) (A 3) (A 4) (A 5) (A 6) (A 7) v_339 w_339 hc_339) cw_X11_house lk_L_18 vi_X11_house k_1 (n2 (hP.al 1 rfl)) rfl ⟨rfl, rfl, Nat.le_of_ble_eq_true rfl, Nat.le_of_ble_eq_true rfl⟩ hl.1 rfl (Nat.le_of_ble_eq_true rfl) dL_law_339 ⟨Nat.le_trans (by omega) hce, Nat.le_trans (by omega) hsl⟩) hS (fun ad H locs hx hP' hS hm => ?_)
  have e9 := hx 1 (n2 (hP.al 1 rfl))
  try rw [← e9] at hl
  try rw [← e9]
  have e9 := hx 63 (n2 (hP.al 63 rfl))
  try rw [← e9] at hl
  try rw [← e9]
  have hP := hP'
  have hXA : ∀ k, wA w k ≠ 0 → ad k = ad0 k := fun k hk => (hx k (hM_w.1 k hk)).trans (hXA k hk)
  have hM_w := hm
  refine lv_aload_n F.1 F.2.1 dL_law_342 rfl (lv_at hl 2 rfl) ?_
  refine lv_aload_n F.1 F.2.1 dL_law_343 rfl (lv_at hl 0 rfl) ?_
  refine lv_iload_n F.1 F.2.1 dL_law_344 rfl (lv_at hl 3 rfl) ?_
  refine lv_iconst (v := 1) F.1 F.2.1 dL_law_345 ic_1 ?_
  refine lv_iadd F.1 F.2.1 dL_law_346 ?_
  refine y_scr F hX hbl hbA hS (hA 1 (by decide)) dL_law_347 ?_
  refine lv_aload_n F.1 F.2.1 dL_law_348 rfl (lv_at hl 0 rfl) ?_
  refine lv_iload_n F.1 F.2.1 dL_law_349 rfl (lv_at hl 3 rfl) ?_
  refine lv_iconst (v := 2) F.1 F.2.1 dL_law_350 ic_2 ?_
  refine lv_iadd F.1 F.2.1 dL_law_351 ?_
  refine y_scr F hX hbl hbA hS (hA 2 (by decide)) dL_law_352 ?_
  refine lv_aload_n F.1 F.2.1 dL_law_353 rfl (lv_at hl 0 rfl) ?_
  refine lv_iload_n F.1 F.2.1 dL_law_354 rfl (lv_at hl 3 rfl) ?_
  refine lv_iconst (v := 3) F.1 F.2.1 dL_law_355 ic_3 ?_
  refine lv_iadd F.1 F.2.1 dL_law_356 ?_
  refine y_scr F hX hbl hbA hS (hA 3 (by decide)) dL_law_357 ?_
  refine lv_aload_n F.1 F.2.1 dL_law_358 rfl (lv_at hl 0 rfl) ?_
  refine lv_iload_n F.1 F.2.1 dL_law_359 rfl (lv_at hl 3 rfl) ?_
  refine lv_iconst (v := 4) F.1 F.2.1 dL_law_360 ic_4 ?_
  refine lv_iadd F.1 F.2.1 dL_law_361 ?_
  refine y_scr F hX hbl hbA hS (hA 4 (by decide)) dL_law_362 ?_
  refine lv_aload_n F.1 F.2.1 dL_law_363 rfl (lv_at hl 0 rfl) ?_
  refine lv_iload_n F.1 F.2.1 dL_law_364 rfl (lv_at hl 3 rfl) ?_
  refine lv_iconst (v := 5) F.1 F.2.1 dL_law_365 ic_5 ?_
  refine lv_iadd F.1 F.2.1 dL_law_366 ?_
  refine y_scr F hX hbl hbA hS (hA 5 (by decide)) dL_law_367 ?_
  refine lv_aload_n F.1 F.2.1 dL_law_368 rfl (lv_at hl 0 rfl) ?_
  refine lv_iload_n F.1 F.2.1 dL_law_369 rfl (lv_at hl 3 rfl) ?_
  refine lv_bipush (v := 6) F.1 F.2.1 dL_law_370 ib_6 ?_
  refine lv_iadd F.1 F.2.1 dL_law_372 ?_
  refine y_scr F hX hbl hbA hS (hA 6 (by decide)) dL_law_373 ?_
  refine lv_aload_n F.1 F.2.1 dL_law_374 rfl (lv_at hl 0 rfl) ?_
  refine lv_iload_n F.1 F.2.1 dL_law_375 rfl (lv_at hl 3 rfl) ?_
  refine lv_bipush (v := 7) F.1 F.2.1 dL_law_376 ib_7 ?_
  refine lv_iadd F.1 F.2.1 dL_law_378 ?_
  refine y_scr F hX hbl hbA hS (hA 7 (by decide)) dL_law_379 ?_
  obtain ⟨v_380, w_380, hc_380, h⟩ := bi_s h
  refine x_goes (x_runV (As := [.int (A 1), .int (A 2), .int (A 3), .int (A 4), .int (A 5), .int (A 6), .int (A 7)]) (rest := [.int v_339]) F hP hS (c_X12_house l D cT lo w_339 ad (A 1) (A 2) (A 3) (A 4) (A 5) (A 6) (A 7) v_380 w_380 hc_380) cw_X12_house lk_L_22 vi_X12_house k_63 (n2 (hP.al 63 rfl)) rfl ⟨rfl, rfl, Nat.le_of_ble_eq_true rfl, Nat.le_of_ble_eq_true rfl⟩ hl.1 rfl (Nat.le_of_ble_eq_true rfl) dL_law_380 ⟨Nat.le_trans (by omega) hce, Nat.le_trans (by omega) hsl⟩) hS (fun H locs hP hS hm => ?_)
  have hM_w := hM_w.trans hm
  refine lv_icmp_eq (tgt := 2228) F.1 F.2.1 dL_law_383 (by decide) (fun hc => ?_) (fun hc => ?_)
  · have h := if_t _ hc h
    cases h
    refine W.widen (k := cells + 13) (n := slots + 89) (by omega) (by omega) ?_
    exact kk _ _ _ _ hP hS hl
  · have h := if_f _ hc h
    cases h
set_option maxRecDepth 100000 in
set_option maxHeartbeats 4000000 in
theorem lc_2 (F : Fx p s m #[Value.ref b] c cL_law RL 4 D cT lo) (hX : va_X b L xs s s.heap) (hbl : b < s.heap.size) (hbA : ¬ lo ≤ b) {A : Nat → Int32} {i : Int32} (hA : lA L xs i A) {w w9 : Wd} {ad0 : Nat → Nat} (hP : wP D cT lo NB w ad0 H) (hS : va_S (fun q => lo ≤ q) s.heap H locs) (hl : lv_has ls 4 [(0, .ref b), (1, .ref (ad0 1)), (2, .ref (ad0 63)), (3, .int i)]) (hce : cells + 13 ≤ 600000) (hsl : slots + 89 ≤ 7302250) (h : s_2 A w = some w9)
    (kk : ∀ (ad : Nat → Nat) (H : Heap) (locs : List Loc) (ls : Array Slot), wP D cT lo NB w9 ad H → va_S (fun q => lo ≤ q) s.heap H locs → lv_has ls 4 [(0, .ref b), (1, .ref (ad 1)), (2, .ref (ad 63)), (3, .int i)] → W p l e room_1 s m #[Value.ref b] below meth c H locs (cells + 13) (slots + 89) Q (F0 m 2228 ls [])) : W p l e room_1 s m #[Value.ref b] below meth c H locs cells slots Q (F0 m 388 ls []) := by
  unfold s_2 at h
  have hx := F.1
  have hb := F.2.1
  have hM_w : mono w w := mono.refl
  have hXA : ∀ k, wA w k ≠ 0 → ad0 k = ad0 k := fun _ _ => rfl
  refine lv_aload_n F.1 F.2.1 dL_law_388 rfl (lv_at hl 1 rfl) ?_
  refine lv_aload_n F.1 F.2.1 dL_law_389 rfl (lv_at hl 0 rfl) ?_
  refine lv_iload_n F.1 F.2.1 dL_law_390 rfl (lv_at hl 3 rfl) ?_
  refine lv_iconst (v := 1) F.1 F.2.1 dL_law_391 ic_1 ?_
  refine lv_iadd F.1 F.2.1 dL_law_392 ?_
  refine y_scr F hX hbl hbA hS (hA 1 (by decide)) dL_law_393 ?_
  refine lv_aload_n F.1 F.2.1 dL_law_394 rfl (lv_at hl 0 rfl) ?_
  refine lv_iload_n F.1 F.2.1 dL_law_395 rfl (lv_at hl 3 rfl) ?_
  refine lv_iconst (v := 2) F.1 F.2.1 dL_law_396 ic_2 ?_
  refine lv_iadd F.1 F.2.1 dL_law_397 ?_
  refine y_scr F hX hbl hbA hS (hA 2 (by decide)) dL_law_398 ?_
  obtain ⟨v_399, w_399, hc_399, h⟩ := bi_s h
  refine x_goes (x_runV (As := [.int (A 1), .int (A 2)]) (rest := []) F hP hS (c_X11_cut l D cT lo w ad0 (A 1) (A 2) v_399 w_399 hc_399) cw_X11_cut lk_L_23 vi_X11_cut k_1 (n2 (hP.al 1 rfl)) rfl ⟨rfl, rfl, Nat.le_of_ble_eq_true rfl, Nat.le_of_ble_eq_true rfl⟩ hl.1 rfl (Nat.le_of_ble_eq_true rfl) dL_law_399 ⟨Nat.le_trans (by omega) hce, Nat.le_trans (by omega) hsl⟩) hS (fun H locs hP hS hm => ?_)
  have hM_w := hm
  refine lv_aload_n F.1 F.2.1 dL_law_402 rfl (lv_at hl 2 rfl) ?_
  refine lv_aload_n F.1 F.2.1 dL_law_403 rfl (lv_at hl 0 rfl) ?_
  refine lv_iload_n F.1 F.2.1 dL_law_404 rfl (lv_at hl 3 rfl) ?_
  refine lv_iconst (v := 1) F.1 F.2.1 dL_law_405 ic_1 ?_
  refine lv_iadd F.1 F.2.1 dL_law_406 ?_
  refine y_scr F hX hbl hbA hS (hA 1 (by decide)) dL_law_407 ?_
  refine lv_aload_n F.1 F.2.1 dL_law_408 rfl (lv_at hl 0 rfl) ?_
  refine lv_iload_n F.1 F.2.1 dL_law_409 rfl (lv_at hl 3 rfl) ?_
  refine lv_iconst (v := 2) F.1 F.2.1 dL_law_410 ic_2 ?_
  refine lv_iadd F.1 F.2.1 dL_law_411 ?_
  refine y_scr F hX hbl hbA hS (hA 2 (by decide)) dL_law_412 ?_
  obtain ⟨v_413, w_413, hc_413, h⟩ := bi_s h
  refine x_goes (x_runV (As := [.int (A 1), .int (A 2)]) (rest := [.int v_399]) F hP hS (c_X12_cut l D cT lo w_399 ad0 (A 1) (A 2) v_413 w_413 hc_413) cw_X12_cut lk_L_26 vi_X12_cut k_63 (n2 (hP.al 63 rfl)) rfl ⟨rfl, rfl, Nat.le_of_ble_eq_true rfl, Nat.le_of_ble_eq_true rfl⟩ hl.1 rfl (Nat.le_of_ble_eq_true rfl) dL_law_413 ⟨Nat.le_trans (by omega) hce, Nat.le_trans (by omega) hsl⟩) hS (fun H locs hP hS hm => ?_)
  have hM_w := hM_w.trans hm
  refine lv_icmp_eq (tgt := 2228) F.1 F.2.1 dL_law_416 (by decide) (fun hc => ?_) (fun hc => ?_)
  · have h := if_t _ hc h
    cases h
    refine W.widen (k := cells + 13) (n := slots + 89) (by omega) (by omega) ?_
    exact kk _ _ _ _ hP hS hl
  · have h := if_f _ hc h
    cases h
set_option maxRecDepth 100000 in
set_option maxHeartbeats 4000000 in
theorem lc_3 (F : Fx p s m #[Value.ref b] c cL_law RL 4 D cT lo) (hX : va_X b L xs s s.heap) (hbl : b < s.heap.size) (hbA : ¬ lo ≤ b) {A : Nat → Int32} {i : Int32} (hA : lA L xs i A) {w w9 : Wd} {ad0 : Nat → Nat} (hP : wP D cT lo NB w ad0 H) (hS : va_S (fun q => lo ≤ q) s.heap H locs) (hl : lv_has ls 4 [(0, .ref b), (1, .ref (ad0 1)), (2, .ref (ad0 63)), (3, .int i)]) (hce : cells + 13 ≤ 600000) (hsl : slots + 89 ≤ 7302250) (h : s_3 A w = some w9)
    (kk : ∀ (ad : Nat → Nat) (H : Heap) (locs : List Loc) (ls : Array Slot), wP D cT lo NB w9 ad H → va_S (fun q => lo ≤ q) s.heap H locs → lv_has ls 4 [(0, .ref b), (1, .ref (ad 1)), (2, .ref (ad 63)), (3, .int i)] → W p l e room_1 s m #[Value.ref b] below meth c H locs (cells + 13) (slots + 89) Q (F0 m 2228 ls [])) : W p l e room_1 s m #[Value.ref b] below meth c H locs cells slots Q (F0 m 421 ls []) := by
  unfold s_3 at h
  have hx := F.1
  have hb := F.2.1
  have hM_w : mono w w := mono.refl
  have hXA : ∀ k, wA w k ≠ 0 → ad0 k = ad0 k := fun _ _ => rfl
  refine lv_aload_n F.1 F.2.1 dL_law_421 rfl (lv_at hl 1 rfl) ?_
  refine lv_aload_n F.1 F.2.1 dL_law_422 rfl (lv_at hl 0 rfl) ?_
  refine lv_iload_n F.1 F.2.1 dL_law_423 rfl (lv_at hl 3 rfl) ?_
  refine lv_iconst (v := 1) F.1 F.2.1 dL_law_424 ic_1 ?_
  refine lv_iadd F.1 F.2.1 dL_law_425 ?_
  refine y_scr F hX hbl hbA hS (hA 1 (by decide)) dL_law_426 ?_
  refine lv_aload_n F.1 F.2.1 dL_law_427 rfl (lv_at hl 0 rfl) ?_
  refine lv_iload_n F.1 F.2.1 dL_law_428 rfl (lv_at hl 3 rfl) ?_
  refine lv_iconst (v := 2) F.1 F.2.1 dL_law_429 ic_2 ?_
  refine lv_iadd F.1 F.2.1 dL_law_430 ?_
  refine y_scr F hX hbl hbA hS (hA 2 (by decide)) dL_law_431 ?_
  refine lv_aload_n F.1 F.2.1 dL_law_432 rfl (lv_at hl 0 rfl) ?_
  refine lv_iload_n F.1 F.2.1 dL_law_433 rfl (lv_at hl 3 rfl) ?_
  refine lv_iconst (v := 3) F.1 F.2.1 dL_law_434 ic_3 ?_
  refine lv_iadd F.1 F.2.1 dL_law_435 ?_
  refine y_scr F hX hbl hbA hS (hA 3 (by decide)) dL_law_436 ?_
  refine lv_aload_n F.1 F.2.1 dL_law_437 rfl (lv_at hl 0 rfl) ?_
  refine lv_iload_n F.1 F.2.1 dL_law_438 rfl (lv_at hl 3 rfl) ?_
  refine lv_iconst (v := 4) F.1 F.2.1 dL_law_439 ic_4 ?_
  refine lv_iadd F.1 F.2.1 dL_law_440 ?_
  refine y_scr F hX hbl hbA hS (hA 4 (by decide)) dL_law_441 ?_
  obtain ⟨v_442, w_442, hc_442, h⟩ := bi_s h
  refine x_goesA (x_runV (As := [.int (A 1), .int (A 2), .int (A 3), .int (A 4)]) (rest := []) F hP hS (c_X11_kerb l D cT lo w ad0 (A 1) (A 2) (A 3) (A 4) v_442 w_442 hc_442) cw_X11_kerb lk_L_27 vi_X11_kerb k_1 (n2 (hP.al 1 rfl)) rfl ⟨rfl, rfl, Nat.le_of_ble_eq_true rfl, Nat.le_of_ble_eq_true rfl⟩ hl.1 rfl (Nat.le_of_ble_eq_true rfl) dL_law_442 ⟨Nat.le_trans (by omega) hce, Nat.le_trans (by omega) hsl⟩) hS (fun ad H locs hx hP' hS hm => ?_)
  have e9 := hx 1 (n2 (hP.al 1 rfl))
  try rw [← e9] at hl
  try rw [← e9]
  have e9 := hx 63 (n2 (hP.al 63 rfl))
  try rw [← e9] at hl
  try rw [← e9]
  have hP := hP'
  have hXA : ∀ k, wA w k ≠ 0 → ad k = ad0 k := fun k hk => (hx k (hM_w.1 k hk)).trans (hXA k hk)
  have hM_w := hm
  refine lv_aload_n F.1 F.2.1 dL_law_445 rfl (lv_at hl 2 rfl) ?_
  refine lv_aload_n F.1 F.2.1 dL_law_446 rfl (lv_at hl 0 rfl) ?_
  refine lv_iload_n F.1 F.2.1 dL_law_447 rfl (lv_at hl 3 rfl) ?_
  refine lv_iconst (v := 1) F.1 F.2.1 dL_law_448 ic_1 ?_
  refine lv_iadd F.1 F.2.1 dL_law_449 ?_
  refine y_scr F hX hbl hbA hS (hA 1 (by decide)) dL_law_450 ?_
  refine lv_aload_n F.1 F.2.1 dL_law_451 rfl (lv_at hl 0 rfl) ?_
  refine lv_iload_n F.1 F.2.1 dL_law_452 rfl (lv_at hl 3 rfl) ?_
  refine lv_iconst (v := 2) F.1 F.2.1 dL_law_453 ic_2 ?_
  refine lv_iadd F.1 F.2.1 dL_law_454 ?_
  refine y_scr F hX hbl hbA hS (hA 2 (by decide)) dL_law_455 ?_
  refine lv_aload_n F.1 F.2.1 dL_law_456 rfl (lv_at hl 0 rfl) ?_
  refine lv_iload_n F.1 F.2.1 dL_law_457 rfl (lv_at hl 3 rfl) ?_
  refine lv_iconst (v := 3) F.1 F.2.1 dL_law_458 ic_3 ?_
  refine lv_iadd F.1 F.2.1 dL_law_459 ?_
  refine y_scr F hX hbl hbA hS (hA 3 (by decide)) dL_law_460 ?_
  refine lv_aload_n F.1 F.2.1 dL_law_461 rfl (lv_at hl 0 rfl) ?_
  refine lv_iload_n F.1 F.2.1 dL_law_462 rfl (lv_at hl 3 rfl) ?_
  refine lv_iconst (v := 4) F.1 F.2.1 dL_law_463 ic_4 ?_
  refine lv_iadd F.1 F.2.1 dL_law_464 ?_
  refine y_scr F hX hbl hbA hS (hA 4 (by decide)) dL_law_465 ?_
  obtain ⟨v_466, w_466, hc_466, h⟩ := bi_s h
  refine x_goes (x_runV (As := [.int (A 1), .int (A 2), .int (A 3), .int (A 4)]) (rest := [.int v_442]) F hP hS (c_X12_kerb l D cT lo w_442 ad (A 1) (A 2) (A 3) (A 4) v_466 w_466 hc_466) cw_X12_kerb lk_L_31 vi_X12_kerb k_63 (n2 (hP.al 63 rfl)) rfl ⟨rfl, rfl, Nat.le_of_ble_eq_true rfl, Nat.le_of_ble_eq_true rfl⟩ hl.1 rfl (Nat.le_of_ble_eq_true rfl) dL_law_466 ⟨Nat.le_trans (by omega) hce, Nat.le_trans (by omega) hsl⟩) hS (fun H locs hP hS hm => ?_)
  have hM_w := hM_w.trans hm
  refine lv_icmp_eq (tgt := 2228) F.1 F.2.1 dL_law_469 (by decide) (fun hc => ?_) (fun hc => ?_)
  · have h := if_t _ hc h
    cases h
    refine W.widen (k := cells + 13) (n := slots + 89) (by omega) (by omega) ?_
    exact kk _ _ _ _ hP hS hl
  · have h := if_f _ hc h
    cases h
set_option maxRecDepth 100000 in
set_option maxHeartbeats 4000000 in
theorem lc_4 (F : Fx p s m #[Value.ref b] c cL_law RL 4 D cT lo) (hX : va_X b L xs s s.heap) (hbl : b < s.heap.size) (hbA : ¬ lo ≤ b) {A : Nat → Int32} {i : Int32} (hA : lA L xs i A) {w w9 : Wd} {ad0 : Nat → Nat} (hP : wP D cT lo NB w ad0 H) (hS : va_S (fun q => lo ≤ q) s.heap H locs) (hl : lv_has ls 4 [(0, .ref b), (1, .ref (ad0 1)), (2, .ref (ad0 63)), (3, .int i)]) (hce : cells + 13 ≤ 600000) (hsl : slots + 89 ≤ 7302250) (h : s_4 A w = some w9)
    (kk : ∀ (ad : Nat → Nat) (H : Heap) (locs : List Loc) (ls : Array Slot), wP D cT lo NB w9 ad H → va_S (fun q => lo ≤ q) s.heap H locs → lv_has ls 4 [(0, .ref b), (1, .ref (ad 1)), (2, .ref (ad 63)), (3, .int i)] → W p l e room_1 s m #[Value.ref b] below meth c H locs (cells + 13) (slots + 89) Q (F0 m 2228 ls [])) : W p l e room_1 s m #[Value.ref b] below meth c H locs cells slots Q (F0 m 474 ls []) := by
  unfold s_4 at h
  have hx := F.1
  have hb := F.2.1
  have hM_w : mono w w := mono.refl
  have hXA : ∀ k, wA w k ≠ 0 → ad0 k = ad0 k := fun _ _ => rfl
  refine lv_aload_n F.1 F.2.1 dL_law_474 rfl (lv_at hl 1 rfl) ?_
  refine lv_aload_n F.1 F.2.1 dL_law_475 rfl (lv_at hl 0 rfl) ?_
  refine lv_iload_n F.1 F.2.1 dL_law_476 rfl (lv_at hl 3 rfl) ?_
  refine lv_iconst (v := 1) F.1 F.2.1 dL_law_477 ic_1 ?_
  refine lv_iadd F.1 F.2.1 dL_law_478 ?_
  refine y_scr F hX hbl hbA hS (hA 1 (by decide)) dL_law_479 ?_
  refine lv_aload_n F.1 F.2.1 dL_law_480 rfl (lv_at hl 0 rfl) ?_
  refine lv_iload_n F.1 F.2.1 dL_law_481 rfl (lv_at hl 3 rfl) ?_
  refine lv_iconst (v := 2) F.1 F.2.1 dL_law_482 ic_2 ?_
  refine lv_iadd F.1 F.2.1 dL_law_483 ?_
  refine y_scr F hX hbl hbA hS (hA 2 (by decide)) dL_law_484 ?_
  refine lv_aload_n F.1 F.2.1 dL_law_485 rfl (lv_at hl 0 rfl) ?_
  refine lv_iload_n F.1 F.2.1 dL_law_486 rfl (lv_at hl 3 rfl) ?_
  refine lv_iconst (v := 3) F.1 F.2.1 dL_law_487 ic_3 ?_
  refine lv_iadd F.1 F.2.1 dL_law_488 ?_
  refine y_scr F hX hbl hbA hS (hA 3 (by decide)) dL_law_489 ?_
  refine lv_aload_n F.1 F.2.1 dL_law_490 rfl (lv_at hl 0 rfl) ?_
  refine lv_iload_n F.1 F.2.1 dL_law_491 rfl (lv_at hl 3 rfl) ?_
  refine lv_iconst (v := 4) F.1 F.2.1 dL_law_492 ic_4 ?_
  refine lv_iadd F.1 F.2.1 dL_law_493 ?_
  refine y_scr F hX hbl hbA hS (hA 4 (by decide)) dL_law_494 ?_
  refine lv_aload_n F.1 F.2.1 dL_law_495 rfl (lv_at hl 0 rfl) ?_
  refine lv_iload_n F.1 F.2.1 dL_law_496 rfl (lv_at hl 3 rfl) ?_
  refine lv_iconst (v := 5) F.1 F.2.1 dL_law_497 ic_5 ?_
  refine lv_iadd F.1 F.2.1 dL_law_498 ?_
  refine y_scr F hX hbl hbA hS (hA 5 (by decide)) dL_law_499 ?_
  obtain ⟨v_500, w_500, hc_500, h⟩ := bi_s h
  refine x_goesA (x_runV (As := [.int (A 1), .int (A 2), .int (A 3), .int (A 4), .int (A 5)]) (rest := []) F hP hS (c_X11_wire l D cT lo w ad0 (A 1) (A 2) (A 3) (A 4) (A 5) v_500 w_500 hc_500) cw_X11_wire lk_L_32 vi_X11_wire k_1 (n2 (hP.al 1 rfl)) rfl ⟨rfl, rfl, Nat.le_of_ble_eq_true rfl, Nat.le_of_ble_eq_true rfl⟩ hl.1 rfl (Nat.le_of_ble_eq_true rfl) dL_law_500 ⟨Nat.le_trans (by omega) hce, Nat.le_trans (by omega) hsl⟩) hS (fun ad H locs hx hP' hS hm => ?_)
  have e9 := hx 1 (n2 (hP.al 1 rfl))
  try rw [← e9] at hl
  try rw [← e9]
  have e9 := hx 63 (n2 (hP.al 63 rfl))
  try rw [← e9] at hl
  try rw [← e9]
  have hP := hP'
  have hXA : ∀ k, wA w k ≠ 0 → ad k = ad0 k := fun k hk => (hx k (hM_w.1 k hk)).trans (hXA k hk)
  have hM_w := hm
  refine lv_aload_n F.1 F.2.1 dL_law_503 rfl (lv_at hl 2 rfl) ?_
  refine lv_aload_n F.1 F.2.1 dL_law_504 rfl (lv_at hl 0 rfl) ?_
  refine lv_iload_n F.1 F.2.1 dL_law_505 rfl (lv_at hl 3 rfl) ?_
  refine lv_iconst (v := 1) F.1 F.2.1 dL_law_506 ic_1 ?_
  refine lv_iadd F.1 F.2.1 dL_law_507 ?_
  refine y_scr F hX hbl hbA hS (hA 1 (by decide)) dL_law_508 ?_
  refine lv_aload_n F.1 F.2.1 dL_law_509 rfl (lv_at hl 0 rfl) ?_
  refine lv_iload_n F.1 F.2.1 dL_law_510 rfl (lv_at hl 3 rfl) ?_
  refine lv_iconst (v := 2) F.1 F.2.1 dL_law_511 ic_2 ?_
  refine lv_iadd F.1 F.2.1 dL_law_512 ?_
  refine y_scr F hX hbl hbA hS (hA 2 (by decide)) dL_law_513 ?_
  refine lv_aload_n F.1 F.2.1 dL_law_514 rfl (lv_at hl 0 rfl) ?_
  refine lv_iload_n F.1 F.2.1 dL_law_515 rfl (lv_at hl 3 rfl) ?_
  refine lv_iconst (v := 3) F.1 F.2.1 dL_law_516 ic_3 ?_
  refine lv_iadd F.1 F.2.1 dL_law_517 ?_
  refine y_scr F hX hbl hbA hS (hA 3 (by decide)) dL_law_518 ?_
  refine lv_aload_n F.1 F.2.1 dL_law_519 rfl (lv_at hl 0 rfl) ?_
  refine lv_iload_n F.1 F.2.1 dL_law_520 rfl (lv_at hl 3 rfl) ?_
  refine lv_iconst (v := 4) F.1 F.2.1 dL_law_521 ic_4 ?_
  refine lv_iadd F.1 F.2.1 dL_law_522 ?_
  refine y_scr F hX hbl hbA hS (hA 4 (by decide)) dL_law_523 ?_
  refine lv_aload_n F.1 F.2.1 dL_law_524 rfl (lv_at hl 0 rfl) ?_
  refine lv_iload_n F.1 F.2.1 dL_law_525 rfl (lv_at hl 3 rfl) ?_
  refine lv_iconst (v := 5) F.1 F.2.1 dL_law_526 ic_5 ?_
  refine lv_iadd F.1 F.2.1 dL_law_527 ?_
  refine y_scr F hX hbl hbA hS (hA 5 (by decide)) dL_law_528 ?_
  obtain ⟨v_529, w_529, hc_529, h⟩ := bi_s h
  refine x_goes (x_runV (As := [.int (A 1), .int (A 2), .int (A 3), .int (A 4), .int (A 5)]) (rest := [.int v_500]) F hP hS (c_X12_wire l D cT lo w_500 ad (A 1) (A 2) (A 3) (A 4) (A 5) v_529 w_529 hc_529) cw_X12_wire lk_L_36 vi_X12_wire k_63 (n2 (hP.al 63 rfl)) rfl ⟨rfl, rfl, Nat.le_of_ble_eq_true rfl, Nat.le_of_ble_eq_true rfl⟩ hl.1 rfl (Nat.le_of_ble_eq_true rfl) dL_law_529 ⟨Nat.le_trans (by omega) hce, Nat.le_trans (by omega) hsl⟩) hS (fun H locs hP hS hm => ?_)
  have hM_w := hM_w.trans hm
  refine lv_icmp_eq (tgt := 2228) F.1 F.2.1 dL_law_532 (by decide) (fun hc => ?_) (fun hc => ?_)
  · have h := if_t _ hc h
    cases h
    refine W.widen (k := cells + 13) (n := slots + 89) (by omega) (by omega) ?_
    exact kk _ _ _ _ hP hS hl
  · have h := if_f _ hc h
    cases h
set_option maxRecDepth 100000 in
set_option maxHeartbeats 4000000 in
theorem lc_5 (F : Fx p s m #[Value.ref b] c cL_law RL 4 D cT lo) (hX : va_X b L xs s s.heap) (hbl : b < s.heap.size) (hbA : ¬ lo ≤ b) {A : Nat → Int32} {i : Int32} (hA : lA L xs i A) {w w9 : Wd} {ad0 : Nat → Nat} (hP : wP D cT lo NB w ad0 H) (hS : va_S (fun q => lo ≤ q) s.heap H locs) (hl : lv_has ls 4 [(0, .ref b), (1, .ref (ad0 1)), (2, .ref (ad0 63)), (3, .int i)]) (hce : cells + 13 ≤ 600000) (hsl : slots + 89 ≤ 7302250) (h : s_5 A w = some w9)
    (kk : ∀ (ad : Nat → Nat) (H : Heap) (locs : List Loc) (ls : Array Slot), wP D cT lo NB w9 ad H → va_S (fun q => lo ≤ q) s.heap H locs → lv_has ls 4 [(0, .ref b), (1, .ref (ad 1)), (2, .ref (ad 63)), (3, .int i)] → W p l e room_1 s m #[Value.ref b] below meth c H locs (cells + 13) (slots + 89) Q (F0 m 2228 ls [])) : W p l e room_1 s m #[Value.ref b] below meth c H locs cells slots Q (F0 m 537 ls []) := by
  unfold s_5 at h
  have hx := F.1
  have hb := F.2.1
  have hM_w : mono w w := mono.refl
  have hXA : ∀ k, wA w k ≠ 0 → ad0 k = ad0 k := fun _ _ => rfl
  refine lv_aload_n F.1 F.2.1 dL_law_537 rfl (lv_at hl 1 rfl) ?_
  refine lv_aload_n F.1 F.2.1 dL_law_538 rfl (lv_at hl 0 rfl) ?_
  refine lv_iload_n F.1 F.2.1 dL_law_539 rfl (lv_at hl 3 rfl) ?_
  refine lv_iconst (v := 1) F.1 F.2.1 dL_law_540 ic_1 ?_
  refine lv_iadd F.1 F.2.1 dL_law_541 ?_
  refine y_scr F hX hbl hbA hS (hA 1 (by decide)) dL_law_542 ?_
  refine lv_aload_n F.1 F.2.1 dL_law_543 rfl (lv_at hl 0 rfl) ?_
  refine lv_iload_n F.1 F.2.1 dL_law_544 rfl (lv_at hl 3 rfl) ?_
  refine lv_iconst (v := 2) F.1 F.2.1 dL_law_545 ic_2 ?_
  refine lv_iadd F.1 F.2.1 dL_law_546 ?_
  refine y_scr F hX hbl hbA hS (hA 2 (by decide)) dL_law_547 ?_
  refine lv_nz F.1 F.2.1 dL_law_548 dL_law_551 dL_law_552 dL_law_555 ?_
  obtain ⟨v_556, w_556, hc_556, h⟩ := bi_s h
  refine x_goes (x_runV (As := [.int (A 1), .int (zb (A 2))]) (rest := []) F hP hS (c_X11_down l D cT lo w ad0 (A 1) (zb (A 2)) v_556 w_556 hc_556) cw_X11_down lk_L_37 vi_X11_down k_1 (n2 (hP.al 1 rfl)) rfl ⟨rfl, rfl, Nat.le_of_ble_eq_true rfl, Nat.le_of_ble_eq_true rfl⟩ hl.1 rfl (Nat.le_of_ble_eq_true rfl) dL_law_556 ⟨Nat.le_trans (by omega) hce, Nat.le_trans (by omega) hsl⟩) hS (fun H locs hP hS hm => ?_)
  have hM_w := hm
  refine lv_aload_n F.1 F.2.1 dL_law_559 rfl (lv_at hl 2 rfl) ?_
  refine lv_aload_n F.1 F.2.1 dL_law_560 rfl (lv_at hl 0 rfl) ?_
  refine lv_iload_n F.1 F.2.1 dL_law_561 rfl (lv_at hl 3 rfl) ?_
  refine lv_iconst (v := 1) F.1 F.2.1 dL_law_562 ic_1 ?_
  refine lv_iadd F.1 F.2.1 dL_law_563 ?_
  refine y_scr F hX hbl hbA hS (hA 1 (by decide)) dL_law_564 ?_
  refine lv_aload_n F.1 F.2.1 dL_law_565 rfl (lv_at hl 0 rfl) ?_
  refine lv_iload_n F.1 F.2.1 dL_law_566 rfl (lv_at hl 3 rfl) ?_
  refine lv_iconst (v := 2) F.1 F.2.1 dL_law_567 ic_2 ?_
  refine lv_iadd F.1 F.2.1 dL_law_568 ?_
  refine y_scr F hX hbl hbA hS (hA 2 (by decide)) dL_law_569 ?_
  refine lv_nz F.1 F.2.1 dL_law_570 dL_law_573 dL_law_574 dL_law_577 ?_
  obtain ⟨v_578, w_578, hc_578, h⟩ := bi_s h
  refine x_goes (x_runV (As := [.int (A 1), .int (zb (A 2))]) (rest := [.int v_556]) F hP hS (c_X12_down l D cT lo w_556 ad0 (A 1) (zb (A 2)) v_578 w_578 hc_578) cw_X12_down lk_L_41 vi_X12_down k_63 (n2 (hP.al 63 rfl)) rfl ⟨rfl, rfl, Nat.le_of_ble_eq_true rfl, Nat.le_of_ble_eq_true rfl⟩ hl.1 rfl (Nat.le_of_ble_eq_true rfl) dL_law_578 ⟨Nat.le_trans (by omega) hce, Nat.le_trans (by omega) hsl⟩) hS (fun H locs hP hS hm => ?_)
  have hM_w := hM_w.trans hm
  refine lv_icmp_eq (tgt := 2228) F.1 F.2.1 dL_law_581 (by decide) (fun hc => ?_) (fun hc => ?_)
  · have h := if_t _ hc h
    cases h
    refine W.widen (k := cells + 13) (n := slots + 89) (by omega) (by omega) ?_
    exact kk _ _ _ _ hP hS hl
  · have h := if_f _ hc h
    cases h
set_option maxRecDepth 100000 in
set_option maxHeartbeats 4000000 in
theorem lc_6 (F : Fx p s m #[Value.ref b] c cL_law RL 4 D cT lo) (hX : va_X b L xs s s.heap) (hbl : b < s.heap.size) (hbA : ¬ lo ≤ b) {A : Nat → Int32} {i : Int32} (hA : lA L xs i A) {w w9 : Wd} {ad0 : Nat → Nat} (hP : wP D cT lo NB w ad0 H) (hS : va_S (fun q => lo ≤ q) s.heap H locs) (hl : lv_has ls 4 [(0, .ref b), (1, .ref (ad0 1)), (2, .ref (ad0 63)), (3, .int i)]) (hce : cells + 13 ≤ 600000) (hsl : slots + 89 ≤ 7302250) (h : s_6 A w = some w9)
    (kk : ∀ (ad : Nat → Nat) (H : Heap) (locs : List Loc) (ls : Array Slot), wP D cT lo NB w9 ad H → va_S (fun q => lo ≤ q) s.heap H locs → lv_has ls 4 [(0, .ref b), (1, .ref (ad 1)), (2, .ref (ad 63)), (3, .int i)] → W p l e room_1 s m #[Value.ref b] below meth c H locs (cells + 13) (slots + 89) Q (F0 m 2228 ls [])) : W p l e room_1 s m #[Value.ref b] below meth c H locs cells slots Q (F0 m 586 ls []) := by
  unfold s_6 at h
  have hx := F.1
  have hb := F.2.1
  have hM_w : mono w w := mono.refl
  have hXA : ∀ k, wA w k ≠ 0 → ad0 k = ad0 k := fun _ _ => rfl
  refine lv_aload_n F.1 F.2.1 dL_law_586 rfl (lv_at hl 1 rfl) ?_
  refine lv_aload_n F.1 F.2.1 dL_law_587 rfl (lv_at hl 0 rfl) ?_
  refine lv_iload_n F.1 F.2.1 dL_law_588 rfl (lv_at hl 3 rfl) ?_
  refine lv_iconst (v := 1) F.1 F.2.1 dL_law_589 ic_1 ?_
  refine lv_iadd F.1 F.2.1 dL_law_590 ?_
  refine y_scr F hX hbl hbA hS (hA 1 (by decide)) dL_law_591 ?_
  refine lv_aload_n F.1 F.2.1 dL_law_592 rfl (lv_at hl 0 rfl) ?_
  refine lv_iload_n F.1 F.2.1 dL_law_593 rfl (lv_at hl 3 rfl) ?_
  refine lv_iconst (v := 2) F.1 F.2.1 dL_law_594 ic_2 ?_
  refine lv_iadd F.1 F.2.1 dL_law_595 ?_
  refine y_scr F hX hbl hbA hS (hA 2 (by decide)) dL_law_596 ?_
  refine lv_aload_n F.1 F.2.1 dL_law_597 rfl (lv_at hl 0 rfl) ?_
  refine lv_iload_n F.1 F.2.1 dL_law_598 rfl (lv_at hl 3 rfl) ?_
  refine lv_iconst (v := 3) F.1 F.2.1 dL_law_599 ic_3 ?_
  refine lv_iadd F.1 F.2.1 dL_law_600 ?_
  refine y_scr F hX hbl hbA hS (hA 3 (by decide)) dL_law_601 ?_
  refine lv_aload_n F.1 F.2.1 dL_law_602 rfl (lv_at hl 0 rfl) ?_
  refine lv_iload_n F.1 F.2.1 dL_law_603 rfl (lv_at hl 3 rfl) ?_
  refine lv_iconst (v := 4) F.1 F.2.1 dL_law_604 ic_4 ?_
  refine lv_iadd F.1 F.2.1 dL_law_605 ?_
  refine y_scr F hX hbl hbA hS (hA 4 (by decide)) dL_law_606 ?_
  refine lv_aload_n F.1 F.2.1 dL_law_607 rfl (lv_at hl 0 rfl) ?_
  refine lv_iload_n F.1 F.2.1 dL_law_608 rfl (lv_at hl 3 rfl) ?_
  refine lv_iconst (v := 5) F.1 F.2.1 dL_law_609 ic_5 ?_
  refine lv_iadd F.1 F.2.1 dL_law_610 ?_
  refine y_scr F hX hbl hbA hS (hA 5 (by decide)) dL_law_611 ?_
  refine lv_aload_n F.1 F.2.1 dL_law_612 rfl (lv_at hl 0 rfl) ?_
  refine lv_iload_n F.1 F.2.1 dL_law_613 rfl (lv_at hl 3 rfl) ?_
  refine lv_bipush (v := 6) F.1 F.2.1 dL_law_614 ib_6 ?_
  refine lv_iadd F.1 F.2.1 dL_law_616 ?_
  refine y_scr F hX hbl hbA hS (hA 6 (by decide)) dL_law_617 ?_
  refine lv_aload_n F.1 F.2.1 dL_law_618 rfl (lv_at hl 0 rfl) ?_
  refine lv_iload_n F.1 F.2.1 dL_law_619 rfl (lv_at hl 3 rfl) ?_
  refine lv_bipush (v := 7) F.1 F.2.1 dL_law_620 ib_7 ?_
  refine lv_iadd F.1 F.2.1 dL_law_622 ?_
  refine y_scr F hX hbl hbA hS (hA 7 (by decide)) dL_law_623 ?_
  refine lv_nz F.1 F.2.1 dL_law_624 dL_law_627 dL_law_628 dL_law_631 ?_
  obtain ⟨v_632, w_632, hc_632, h⟩ := bi_s h
  refine x_goesA (x_runV (As := [.int (A 1), .int (A 2), .int (A 3), .int (A 4), .int (A 5), .int (A 6), .int (zb (A 7))]) (rest := []) F hP hS (c_X11_slope l D cT lo w ad0 (A 1) (A 2) (A 3) (A 4) (A 5) (A 6) (zb (A 7)) v_632 w_632 hc_632) cw_X11_slope lk_L_42 vi_X11_slope k_1 (n2 (hP.al 1 rfl)) rfl ⟨rfl, rfl, Nat.le_of_ble_eq_true rfl, Nat.le_of_ble_eq_true rfl⟩ hl.1 rfl (Nat.le_of_ble_eq_true rfl) dL_law_632 ⟨Nat.le_trans (by omega) hce, Nat.le_trans (by omega) hsl⟩) hS (fun ad H locs hx hP' hS hm => ?_)
  have e9 := hx 1 (n2 (hP.al 1 rfl))
  try rw [← e9] at hl
  try rw [← e9]
  have e9 := hx 63 (n2 (hP.al 63 rfl))
  try rw [← e9] at hl
  try rw [← e9]
  have hP := hP'
  have hXA : ∀ k, wA w k ≠ 0 → ad k = ad0 k := fun k hk => (hx k (hM_w.1 k hk)).trans (hXA k hk)
  have hM_w := hm
  refine lv_aload_n F.1 F.2.1 dL_law_635 rfl (lv_at hl 2 rfl) ?_
  refine lv_aload_n F.1 F.2.1 dL_law_636 rfl (lv_at hl 0 rfl) ?_
  refine lv_iload_n F.1 F.2.1 dL_law_637 rfl (lv_at hl 3 rfl) ?_
  refine lv_iconst (v := 1) F.1 F.2.1 dL_law_638 ic_1 ?_
  refine lv_iadd F.1 F.2.1 dL_law_639 ?_
  refine y_scr F hX hbl hbA hS (hA 1 (by decide)) dL_law_640 ?_
  refine lv_aload_n F.1 F.2.1 dL_law_641 rfl (lv_at hl 0 rfl) ?_
  refine lv_iload_n F.1 F.2.1 dL_law_642 rfl (lv_at hl 3 rfl) ?_
  refine lv_iconst (v := 2) F.1 F.2.1 dL_law_643 ic_2 ?_
  refine lv_iadd F.1 F.2.1 dL_law_644 ?_
  refine y_scr F hX hbl hbA hS (hA 2 (by decide)) dL_law_645 ?_
  refine lv_aload_n F.1 F.2.1 dL_law_646 rfl (lv_at hl 0 rfl) ?_
  refine lv_iload_n F.1 F.2.1 dL_law_647 rfl (lv_at hl 3 rfl) ?_
  refine lv_iconst (v := 3) F.1 F.2.1 dL_law_648 ic_3 ?_
  refine lv_iadd F.1 F.2.1 dL_law_649 ?_
  refine y_scr F hX hbl hbA hS (hA 3 (by decide)) dL_law_650 ?_
  refine lv_aload_n F.1 F.2.1 dL_law_651 rfl (lv_at hl 0 rfl) ?_
  refine lv_iload_n F.1 F.2.1 dL_law_652 rfl (lv_at hl 3 rfl) ?_
  refine lv_iconst (v := 4) F.1 F.2.1 dL_law_653 ic_4 ?_
  refine lv_iadd F.1 F.2.1 dL_law_654 ?_
  refine y_scr F hX hbl hbA hS (hA 4 (by decide)) dL_law_655 ?_
  refine lv_aload_n F.1 F.2.1 dL_law_656 rfl (lv_at hl 0 rfl) ?_
  refine lv_iload_n F.1 F.2.1 dL_law_657 rfl (lv_at hl 3 rfl) ?_
  refine lv_iconst (v := 5) F.1 F.2.1 dL_law_658 ic_5 ?_
  refine lv_iadd F.1 F.2.1 dL_law_659 ?_
  refine y_scr F hX hbl hbA hS (hA 5 (by decide)) dL_law_660 ?_
  refine lv_aload_n F.1 F.2.1 dL_law_661 rfl (lv_at hl 0 rfl) ?_
  refine lv_iload_n F.1 F.2.1 dL_law_662 rfl (lv_at hl 3 rfl) ?_
  refine lv_bipush (v := 6) F.1 F.2.1 dL_law_663 ib_6 ?_
  refine lv_iadd F.1 F.2.1 dL_law_665 ?_
  refine y_scr F hX hbl hbA hS (hA 6 (by decide)) dL_law_666 ?_
  refine lv_aload_n F.1 F.2.1 dL_law_667 rfl (lv_at hl 0 rfl) ?_
  refine lv_iload_n F.1 F.2.1 dL_law_668 rfl (lv_at hl 3 rfl) ?_
  refine lv_bipush (v := 7) F.1 F.2.1 dL_law_669 ib_7 ?_
  refine lv_iadd F.1 F.2.1 dL_law_671 ?_
  refine y_scr F hX hbl hbA hS (hA 7 (by decide)) dL_law_672 ?_
  refine lv_nz F.1 F.2.1 dL_law_673 dL_law_676 dL_law_677 dL_law_680 ?_
  obtain ⟨v_681, w_681, hc_681, h⟩ := bi_s h
  refine x_goes (x_runV (As := [.int (A 1), .int (A 2), .int (A 3), .int (A 4), .int (A 5), .int (A 6), .int (zb (A 7))]) (rest := [.int v_632]) F hP hS (c_X12_slope l D cT lo w_632 ad (A 1) (A 2) (A 3) (A 4) (A 5) (A 6) (zb (A 7)) v_681 w_681 hc_681) cw_X12_slope lk_L_46 vi_X12_slope k_63 (n2 (hP.al 63 rfl)) rfl ⟨rfl, rfl, Nat.le_of_ble_eq_true rfl, Nat.le_of_ble_eq_true rfl⟩ hl.1 rfl (Nat.le_of_ble_eq_true rfl) dL_law_681 ⟨Nat.le_trans (by omega) hce, Nat.le_trans (by omega) hsl⟩) hS (fun H locs hP hS hm => ?_)
  have hM_w := hM_w.trans hm
  refine lv_icmp_eq (tgt := 2228) F.1 F.2.1 dL_law_684 (by decide) (fun hc => ?_) (fun hc => ?_)
  · have h := if_t _ hc h
    cases h
    refine W.widen (k := cells + 13) (n := slots + 89) (by omega) (by omega) ?_
    exact kk _ _ _ _ hP hS hl
  · have h := if_f _ hc h
    cases h
set_option maxRecDepth 100000 in
set_option maxHeartbeats 4000000 in
theorem lc_7 (F : Fx p s m #[Value.ref b] c cL_law RL 4 D cT lo) (hX : va_X b L xs s s.heap) (hbl : b < s.heap.size) (hbA : ¬ lo ≤ b) {A : Nat → Int32} {i : Int32} (hA : lA L xs i A) {w w9 : Wd} {ad0 : Nat → Nat} (hP : wP D cT lo NB w ad0 H) (hS : va_S (fun q => lo ≤ q) s.heap H locs) (hl : lv_has ls 4 [(0, .ref b), (1, .ref (ad0 1)), (2, .ref (ad0 63)), (3, .int i)]) (hce : cells + 13 ≤ 600000) (hsl : slots + 89 ≤ 7302250) (h : s_7 A w = some w9)
    (kk : ∀ (ad : Nat → Nat) (H : Heap) (locs : List Loc) (ls : Array Slot), wP D cT lo NB w9 ad H → va_S (fun q => lo ≤ q) s.heap H locs → lv_has ls 4 [(0, .ref b), (1, .ref (ad 1)), (2, .ref (ad 63)), (3, .int i)] → W p l e room_1 s m #[Value.ref b] below meth c H locs (cells + 13) (slots + 89) Q (F0 m 2228 ls [])) : W p l e room_1 s m #[Value.ref b] below meth c H locs cells slots Q (F0 m 689 ls []) := by
  unfold s_7 at h
  have hx := F.1
  have hb := F.2.1
  have hM_w : mono w w := mono.refl
  have hXA : ∀ k, wA w k ≠ 0 → ad0 k = ad0 k := fun _ _ => rfl
  refine lv_aload_n F.1 F.2.1 dL_law_689 rfl (lv_at hl 1 rfl) ?_
  refine lv_aload_n F.1 F.2.1 dL_law_690 rfl (lv_at hl 0 rfl) ?_
  refine lv_iload_n F.1 F.2.1 dL_law_691 rfl (lv_at hl 3 rfl) ?_
  refine lv_iconst (v := 1) F.1 F.2.1 dL_law_692 ic_1 ?_
  refine lv_iadd F.1 F.2.1 dL_law_693 ?_
  refine y_scr F hX hbl hbA hS (hA 1 (by decide)) dL_law_694 ?_
  refine lv_nz F.1 F.2.1 dL_law_695 dL_law_698 dL_law_699 dL_law_702 ?_
  obtain ⟨v_703, w_703, hc_703, h⟩ := bi_s h
  refine x_goes (x_runV (As := [.int (zb (A 1))]) (rest := []) F hP hS (c_X11_rain l D cT lo w ad0 (zb (A 1)) v_703 w_703 hc_703) cw_X11_rain lk_L_47 vi_X11_rain k_1 (n2 (hP.al 1 rfl)) rfl ⟨rfl, rfl, Nat.le_of_ble_eq_true rfl, Nat.le_of_ble_eq_true rfl⟩ hl.1 rfl (Nat.le_of_ble_eq_true rfl) dL_law_703 ⟨Nat.le_trans (by omega) hce, Nat.le_trans (by omega) hsl⟩) hS (fun H locs hP hS hm => ?_)
  have hM_w := hm
  refine lv_aload_n F.1 F.2.1 dL_law_706 rfl (lv_at hl 2 rfl) ?_
  refine lv_aload_n F.1 F.2.1 dL_law_707 rfl (lv_at hl 0 rfl) ?_
  refine lv_iload_n F.1 F.2.1 dL_law_708 rfl (lv_at hl 3 rfl) ?_
  refine lv_iconst (v := 1) F.1 F.2.1 dL_law_709 ic_1 ?_
  refine lv_iadd F.1 F.2.1 dL_law_710 ?_
  refine y_scr F hX hbl hbA hS (hA 1 (by decide)) dL_law_711 ?_
  refine lv_nz F.1 F.2.1 dL_law_712 dL_law_715 dL_law_716 dL_law_719 ?_
  obtain ⟨v_720, w_720, hc_720, h⟩ := bi_s h
  refine x_goes (x_runV (As := [.int (zb (A 1))]) (rest := [.int v_703]) F hP hS (c_X12_rain l D cT lo w_703 ad0 (zb (A 1)) v_720 w_720 hc_720) cw_X12_rain lk_L_51 vi_X12_rain k_63 (n2 (hP.al 63 rfl)) rfl ⟨rfl, rfl, Nat.le_of_ble_eq_true rfl, Nat.le_of_ble_eq_true rfl⟩ hl.1 rfl (Nat.le_of_ble_eq_true rfl) dL_law_720 ⟨Nat.le_trans (by omega) hce, Nat.le_trans (by omega) hsl⟩) hS (fun H locs hP hS hm => ?_)
  have hM_w := hM_w.trans hm
  refine lv_icmp_eq (tgt := 2228) F.1 F.2.1 dL_law_723 (by decide) (fun hc => ?_) (fun hc => ?_)
  · have h := if_t _ hc h
    cases h
    refine W.widen (k := cells + 13) (n := slots + 89) (by omega) (by omega) ?_
    exact kk _ _ _ _ hP hS hl
  · have h := if_f _ hc h
    cases h
set_option maxRecDepth 100000 in
set_option maxHeartbeats 4000000 in
theorem lc_8 (F : Fx p s m #[Value.ref b] c cL_law RL 4 D cT lo) (hX : va_X b L xs s s.heap) (hbl : b < s.heap.size) (hbA : ¬ lo ≤ b) {A : Nat → Int32} {i : Int32} (hA : lA L xs i A) {w w9 : Wd} {ad0 : Nat → Nat} (hP : wP D cT lo NB w ad0 H) (hS : va_S (fun q => lo ≤ q) s.heap H locs) (hl : lv_has ls 4 [(0, .ref b), (1, .ref (ad0 1)), (2, .ref (ad0 63)), (3, .int i)]) (hce : cells + 13 ≤ 600000) (hsl : slots + 89 ≤ 7302250) (h : s_8 A w = some w9)
    (kk : ∀ (ad : Nat → Nat) (H : Heap) (locs : List Loc) (ls : Array Slot), wP D cT lo NB w9 ad H → va_S (fun q => lo ≤ q) s.heap H locs → lv_has ls 4 [(0, .ref b), (1, .ref (ad 1)), (2, .ref (ad 63)), (3, .int i)] → W p l e room_1 s m #[Value.ref b] below meth c H locs (cells + 13) (slots + 89) Q (F0 m 2228 ls [])) : W p l e room_1 s m #[Value.ref b] below meth c H locs cells slots Q (F0 m 728 ls []) := by
  unfold s_8 at h
  have hx := F.1
  have hb := F.2.1
  have hM_w : mono w w := mono.refl
  have hXA : ∀ k, wA w k ≠ 0 → ad0 k = ad0 k := fun _ _ => rfl
  refine lv_aload_n F.1 F.2.1 dL_law_728 rfl (lv_at hl 1 rfl) ?_
  refine lv_aload_n F.1 F.2.1 dL_law_729 rfl (lv_at hl 0 rfl) ?_
  refine lv_iload_n F.1 F.2.1 dL_law_730 rfl (lv_at hl 3 rfl) ?_
  refine lv_iconst (v := 1) F.1 F.2.1 dL_law_731 ic_1 ?_
  refine lv_iadd F.1 F.2.1 dL_law_732 ?_
  refine y_scr F hX hbl hbA hS (hA 1 (by decide)) dL_law_733 ?_
  refine lv_aload_n F.1 F.2.1 dL_law_734 rfl (lv_at hl 0 rfl) ?_
  refine lv_iload_n F.1 F.2.1 dL_law_735 rfl (lv_at hl 3 rfl) ?_
  refine lv_iconst (v := 2) F.1 F.2.1 dL_law_736 ic_2 ?_
  refine lv_iadd F.1 F.2.1 dL_law_737 ?_
  refine y_scr F hX hbl hbA hS (hA 2 (by decide)) dL_law_738 ?_
  refine lv_aload_n F.1 F.2.1 dL_law_739 rfl (lv_at hl 0 rfl) ?_
  refine lv_iload_n F.1 F.2.1 dL_law_740 rfl (lv_at hl 3 rfl) ?_
  refine lv_iconst (v := 3) F.1 F.2.1 dL_law_741 ic_3 ?_
  refine lv_iadd F.1 F.2.1 dL_law_742 ?_
  refine y_scr F hX hbl hbA hS (hA 3 (by decide)) dL_law_743 ?_
  obtain ⟨v_744, hc_744, h⟩ := bo_s h
  refine x_goes (x_runV (As := [.int (A 1), .int (A 2), .int (A 3)]) (rest := []) F hP hS (c_X11_ground l D cT lo w ad0 (A 1) (A 2) (A 3) v_744 hc_744) cw_X11_ground lk_L_52 vi_X11_ground k_1 (n2 (hP.al 1 rfl)) rfl ⟨rfl, rfl, Nat.le_of_ble_eq_true rfl, Nat.le_of_ble_eq_true rfl⟩ hl.1 rfl (Nat.le_of_ble_eq_true rfl) dL_law_744 ⟨Nat.le_trans (by omega) hce, Nat.le_trans (by omega) hsl⟩) hS (fun H locs hP hS _ => ?_)
  refine lv_aload_n F.1 F.2.1 dL_law_747 rfl (lv_at hl 2 rfl) ?_
  refine lv_aload_n F.1 F.2.1 dL_law_748 rfl (lv_at hl 0 rfl) ?_
  refine lv_iload_n F.1 F.2.1 dL_law_749 rfl (lv_at hl 3 rfl) ?_
  refine lv_iconst (v := 1) F.1 F.2.1 dL_law_750 ic_1 ?_
  refine lv_iadd F.1 F.2.1 dL_law_751 ?_
  refine y_scr F hX hbl hbA hS (hA 1 (by decide)) dL_law_752 ?_
  refine lv_aload_n F.1 F.2.1 dL_law_753 rfl (lv_at hl 0 rfl) ?_
  refine lv_iload_n F.1 F.2.1 dL_law_754 rfl (lv_at hl 3 rfl) ?_
  refine lv_iconst (v := 2) F.1 F.2.1 dL_law_755 ic_2 ?_
  refine lv_iadd F.1 F.2.1 dL_law_756 ?_
  refine y_scr F hX hbl hbA hS (hA 2 (by decide)) dL_law_757 ?_
  refine lv_aload_n F.1 F.2.1 dL_law_758 rfl (lv_at hl 0 rfl) ?_
  refine lv_iload_n F.1 F.2.1 dL_law_759 rfl (lv_at hl 3 rfl) ?_
  refine lv_iconst (v := 3) F.1 F.2.1 dL_law_760 ic_3 ?_
  refine lv_iadd F.1 F.2.1 dL_law_761 ?_
  refine y_scr F hX hbl hbA hS (hA 3 (by decide)) dL_law_762 ?_
  obtain ⟨v_763, hc_763, h⟩ := bo_s h
  refine x_goes (x_runV (As := [.int (A 1), .int (A 2), .int (A 3)]) (rest := [.int v_744]) F hP hS (c_X12_ground l D cT lo w ad0 (A 1) (A 2) (A 3) v_763 hc_763) cw_X12_ground lk_L_56 vi_X12_ground k_63 (n2 (hP.al 63 rfl)) rfl ⟨rfl, rfl, Nat.le_of_ble_eq_true rfl, Nat.le_of_ble_eq_true rfl⟩ hl.1 rfl (Nat.le_of_ble_eq_true rfl) dL_law_763 ⟨Nat.le_trans (by omega) hce, Nat.le_trans (by omega) hsl⟩) hS (fun H locs hP hS _ => ?_)
  refine lv_icmp_eq (tgt := 2228) F.1 F.2.1 dL_law_766 (by decide) (fun hc => ?_) (fun hc => ?_)
  · have h := if_t _ hc h
    cases h
    refine W.widen (k := cells + 13) (n := slots + 89) (by omega) (by omega) ?_
    exact kk _ _ _ _ hP hS hl
  · have h := if_f _ hc h
    cases h
set_option maxRecDepth 100000 in
set_option maxHeartbeats 4000000 in
theorem lc_9 (F : Fx p s m #[Value.ref b] c cL_law RL 4 D cT lo) (hX : va_X b L xs s s.heap) (hbl : b < s.heap.size) (hbA : ¬ lo ≤ b) {A : Nat → Int32} {i : Int32} (hA : lA L xs i A) {w w9 : Wd} {ad0 : Nat → Nat} (hP : wP D cT lo NB w ad0 H) (hS : va_S (fun q => lo ≤ q) s.heap H locs) (hl : lv_has ls 4 [(0, .ref b), (1, .ref (ad0 1)), (2, .ref (ad0 63)), (3, .int i)]) (hce : cells + 13 ≤ 600000) (hsl : slots + 89 ≤ 7302250) (h : s_9 A w = some w9)
    (kk : ∀ (ad : Nat → Nat) (H : Heap) (locs : List Loc) (ls : Array Slot), wP D cT lo NB w9 ad H → va_S (fun q => lo ≤ q) s.heap H locs → lv_has ls 4 [(0, .ref b), (1, .ref (ad 1)), (2, .ref (ad 63)), (3, .int i)] → W p l e room_1 s m #[Value.ref b] below meth c H locs (cells + 13) (slots + 89) Q (F0 m 2228 ls [])) : W p l e room_1 s m #[Value.ref b] below meth c H locs cells slots Q (F0 m 771 ls []) := by
  unfold s_9 at h
  have hx := F.1
  have hb := F.2.1
  have hM_w : mono w w := mono.refl
  have hXA : ∀ k, wA w k ≠ 0 → ad0 k = ad0 k := fun _ _ => rfl
  refine lv_aload_n F.1 F.2.1 dL_law_771 rfl (lv_at hl 1 rfl) ?_
  refine lv_aload_n F.1 F.2.1 dL_law_772 rfl (lv_at hl 0 rfl) ?_
  refine lv_iload_n F.1 F.2.1 dL_law_773 rfl (lv_at hl 3 rfl) ?_
  refine lv_iconst (v := 1) F.1 F.2.1 dL_law_774 ic_1 ?_
  refine lv_iadd F.1 F.2.1 dL_law_775 ?_
  refine y_scr F hX hbl hbA hS (hA 1 (by decide)) dL_law_776 ?_
  refine lv_aload_n F.1 F.2.1 dL_law_777 rfl (lv_at hl 0 rfl) ?_
  refine lv_iload_n F.1 F.2.1 dL_law_778 rfl (lv_at hl 3 rfl) ?_
  refine lv_iconst (v := 2) F.1 F.2.1 dL_law_779 ic_2 ?_
  refine lv_iadd F.1 F.2.1 dL_law_780 ?_
  refine y_scr F hX hbl hbA hS (hA 2 (by decide)) dL_law_781 ?_
  refine lv_aload_n F.1 F.2.1 dL_law_782 rfl (lv_at hl 0 rfl) ?_
  refine lv_iload_n F.1 F.2.1 dL_law_783 rfl (lv_at hl 3 rfl) ?_
  refine lv_iconst (v := 3) F.1 F.2.1 dL_law_784 ic_3 ?_
  refine lv_iadd F.1 F.2.1 dL_law_785 ?_
  refine y_scr F hX hbl hbA hS (hA 3 (by decide)) dL_law_786 ?_
  refine lv_aload_n F.1 F.2.1 dL_law_787 rfl (lv_at hl 0 rfl) ?_
  refine lv_iload_n F.1 F.2.1 dL_law_788 rfl (lv_at hl 3 rfl) ?_
  refine lv_iconst (v := 4) F.1 F.2.1 dL_law_789 ic_4 ?_
  refine lv_iadd F.1 F.2.1 dL_law_790 ?_
  refine y_scr F hX hbl hbA hS (hA 4 (by decide)) dL_law_791 ?_
  obtain ⟨v_792, w_792, hc_792, h⟩ := bi_s h
  refine x_goesA (x_runV (As := [.int (A 1), .int (A 2), .int (A 3), .int (A 4)]) (rest := []) F hP hS (c_X11_car l D cT lo w ad0 (A 1) (A 2) (A 3) (A 4) v_792 w_792 hc_792) cw_X11_car lk_L_57 vi_X11_car k_1 (n2 (hP.al 1 rfl)) rfl ⟨rfl, rfl, Nat.le_of_ble_eq_true rfl, Nat.le_of_ble_eq_true rfl⟩ hl.1 rfl (Nat.le_of_ble_eq_true rfl) dL_law_792 ⟨Nat.le_trans (by omega) hce, Nat.le_trans (by omega) hsl⟩) hS (fun ad H locs hx hP' hS hm => ?_)
  have e9 := hx 1 (n2 (hP.al 1 rfl))
  try rw [← e9] at hl
  try rw [← e9]
  have e9 := hx 63 (n2 (hP.al 63 rfl))
  try rw [← e9] at hl
  try rw [← e9]
  have hP := hP'
  have hXA : ∀ k, wA w k ≠ 0 → ad k = ad0 k := fun k hk => (hx k (hM_w.1 k hk)).trans (hXA k hk)
  have hM_w := hm
  refine lv_aload_n F.1 F.2.1 dL_law_795 rfl (lv_at hl 2 rfl) ?_
  refine lv_aload_n F.1 F.2.1 dL_law_796 rfl (lv_at hl 0 rfl) ?_
  refine lv_iload_n F.1 F.2.1 dL_law_797 rfl (lv_at hl 3 rfl) ?_
  refine lv_iconst (v := 1) F.1 F.2.1 dL_law_798 ic_1 ?_
  refine lv_iadd F.1 F.2.1 dL_law_799 ?_
  refine y_scr F hX hbl hbA hS (hA 1 (by decide)) dL_law_800 ?_
  refine lv_aload_n F.1 F.2.1 dL_law_801 rfl (lv_at hl 0 rfl) ?_
  refine lv_iload_n F.1 F.2.1 dL_law_802 rfl (lv_at hl 3 rfl) ?_
  refine lv_iconst (v := 2) F.1 F.2.1 dL_law_803 ic_2 ?_
  refine lv_iadd F.1 F.2.1 dL_law_804 ?_
  refine y_scr F hX hbl hbA hS (hA 2 (by decide)) dL_law_805 ?_
  refine lv_aload_n F.1 F.2.1 dL_law_806 rfl (lv_at hl 0 rfl) ?_
  refine lv_iload_n F.1 F.2.1 dL_law_807 rfl (lv_at hl 3 rfl) ?_
  refine lv_iconst (v := 3) F.1 F.2.1 dL_law_808 ic_3 ?_
  refine lv_iadd F.1 F.2.1 dL_law_809 ?_
  refine y_scr F hX hbl hbA hS (hA 3 (by decide)) dL_law_810 ?_
  refine lv_aload_n F.1 F.2.1 dL_law_811 rfl (lv_at hl 0 rfl) ?_
  refine lv_iload_n F.1 F.2.1 dL_law_812 rfl (lv_at hl 3 rfl) ?_
  refine lv_iconst (v := 4) F.1 F.2.1 dL_law_813 ic_4 ?_
  refine lv_iadd F.1 F.2.1 dL_law_814 ?_
  refine y_scr F hX hbl hbA hS (hA 4 (by decide)) dL_law_815 ?_
  obtain ⟨v_816, w_816, hc_816, h⟩ := bi_s h
  refine x_goes (x_runV (As := [.int (A 1), .int (A 2), .int (A 3), .int (A 4)]) (rest := [.int v_792]) F hP hS (c_X12_car l D cT lo w_792 ad (A 1) (A 2) (A 3) (A 4) v_816 w_816 hc_816) cw_X12_car lk_L_60 vi_X12_car k_63 (n2 (hP.al 63 rfl)) rfl ⟨rfl, rfl, Nat.le_of_ble_eq_true rfl, Nat.le_of_ble_eq_true rfl⟩ hl.1 rfl (Nat.le_of_ble_eq_true rfl) dL_law_816 ⟨Nat.le_trans (by omega) hce, Nat.le_trans (by omega) hsl⟩) hS (fun H locs hP hS hm => ?_)
  have hM_w := hM_w.trans hm
  refine lv_icmp_eq (tgt := 2228) F.1 F.2.1 dL_law_819 (by decide) (fun hc => ?_) (fun hc => ?_)
  · have h := if_t _ hc h
    cases h
    refine W.widen (k := cells + 13) (n := slots + 89) (by omega) (by omega) ?_
    exact kk _ _ _ _ hP hS hl
  · have h := if_f _ hc h
    cases h
set_option maxRecDepth 100000 in
set_option maxHeartbeats 4000000 in
theorem lc_10 (F : Fx p s m #[Value.ref b] c cL_law RL 4 D cT lo) (hX : va_X b L xs s s.heap) (hbl : b < s.heap.size) (hbA : ¬ lo ≤ b) {A : Nat → Int32} {i : Int32} (hA : lA L xs i A) {w w9 : Wd} {ad0 : Nat → Nat} (hP : wP D cT lo NB w ad0 H) (hS : va_S (fun q => lo ≤ q) s.heap H locs) (hl : lv_has ls 4 [(0, .ref b), (1, .ref (ad0 1)), (2, .ref (ad0 63)), (3, .int i)]) (hce : cells + 13 ≤ 600000) (hsl : slots + 89 ≤ 7302250) (h : s_10 A w = some w9)
    (kk : ∀ (ad : Nat → Nat) (H : Heap) (locs : List Loc) (ls : Array Slot), wP D cT lo NB w9 ad H → va_S (fun q => lo ≤ q) s.heap H locs → lv_has ls 4 [(0, .ref b), (1, .ref (ad 1)), (2, .ref (ad 63)), (3, .int i)] → W p l e room_1 s m #[Value.ref b] below meth c H locs (cells + 13) (slots + 89) Q (F0 m 2228 ls [])) : W p l e room_1 s m #[Value.ref b] below meth c H locs cells slots Q (F0 m 824 ls []) := by
  unfold s_10 at h
  have hx := F.1
  have hb := F.2.1
  have hM_w : mono w w := mono.refl
  have hXA : ∀ k, wA w k ≠ 0 → ad0 k = ad0 k := fun _ _ => rfl
  refine lv_aload_n F.1 F.2.1 dL_law_824 rfl (lv_at hl 1 rfl) ?_
  refine lv_aload_n F.1 F.2.1 dL_law_825 rfl (lv_at hl 0 rfl) ?_
  refine lv_iload_n F.1 F.2.1 dL_law_826 rfl (lv_at hl 3 rfl) ?_
  refine lv_iconst (v := 1) F.1 F.2.1 dL_law_827 ic_1 ?_
  refine lv_iadd F.1 F.2.1 dL_law_828 ?_
  refine y_scr F hX hbl hbA hS (hA 1 (by decide)) dL_law_829 ?_
  refine lv_aload_n F.1 F.2.1 dL_law_830 rfl (lv_at hl 0 rfl) ?_
  refine lv_iload_n F.1 F.2.1 dL_law_831 rfl (lv_at hl 3 rfl) ?_
  refine lv_iconst (v := 2) F.1 F.2.1 dL_law_832 ic_2 ?_
  refine lv_iadd F.1 F.2.1 dL_law_833 ?_
  refine y_scr F hX hbl hbA hS (hA 2 (by decide)) dL_law_834 ?_
  refine lv_aload_n F.1 F.2.1 dL_law_835 rfl (lv_at hl 0 rfl) ?_
  refine lv_iload_n F.1 F.2.1 dL_law_836 rfl (lv_at hl 3 rfl) ?_
  refine lv_iconst (v := 3) F.1 F.2.1 dL_law_837 ic_3 ?_
  refine lv_iadd F.1 F.2.1 dL_law_838 ?_
  refine y_scr F hX hbl hbA hS (hA 3 (by decide)) dL_law_839 ?_
  refine lv_aload_n F.1 F.2.1 dL_law_840 rfl (lv_at hl 0 rfl) ?_
  refine lv_iload_n F.1 F.2.1 dL_law_841 rfl (lv_at hl 3 rfl) ?_
  refine lv_iconst (v := 4) F.1 F.2.1 dL_law_842 ic_4 ?_
  refine lv_iadd F.1 F.2.1 dL_law_843 ?_
  refine y_scr F hX hbl hbA hS (hA 4 (by decide)) dL_law_844 ?_
  obtain ⟨v_845, w_845, hc_845, h⟩ := bi_s h
  refine x_goes (x_runV (As := [.int (A 1), .int (A 2), .int (A 3), .int (A 4)]) (rest := []) F hP hS (c_X11_storey l D cT lo w ad0 (A 1) (A 2) (A 3) (A 4) v_845 w_845 hc_845) cw_X11_storey lk_L_61 vi_X11_storey k_1 (n2 (hP.al 1 rfl)) rfl ⟨rfl, rfl, Nat.le_of_ble_eq_true rfl, Nat.le_of_ble_eq_true rfl⟩ hl.1 rfl (Nat.le_of_ble_eq_true rfl) dL_law_845 ⟨Nat.le_trans (by omega) hce, Nat.le_trans (by omega) hsl⟩) hS (fun H locs hP hS hm => ?_)
  have hM_w := hm
  refine lv_aload_n F.1 F.2.1 dL_law_848 rfl (lv_at hl 2 rfl) ?_
  refine lv_aload_n F.1 F.2.1 dL_law_849 rfl (lv_at hl 0 rfl) ?_
  refine lv_iload_n F.1 F.2.1 dL_law_850 rfl (lv_at hl 3 rfl) ?_
  refine lv_iconst (v := 1) F.1 F.2.1 dL_law_851 ic_1 ?_
  refine lv_iadd F.1 F.2.1 dL_law_852 ?_
  refine y_scr F hX hbl hbA hS (hA 1 (by decide)) dL_law_853 ?_
  refine lv_aload_n F.1 F.2.1 dL_law_854 rfl (lv_at hl 0 rfl) ?_
  refine lv_iload_n F.1 F.2.1 dL_law_855 rfl (lv_at hl 3 rfl) ?_
  refine lv_iconst (v := 2) F.1 F.2.1 dL_law_856 ic_2 ?_
  refine lv_iadd F.1 F.2.1 dL_law_857 ?_
  refine y_scr F hX hbl hbA hS (hA 2 (by decide)) dL_law_858 ?_
  refine lv_aload_n F.1 F.2.1 dL_law_859 rfl (lv_at hl 0 rfl) ?_
  refine lv_iload_n F.1 F.2.1 dL_law_860 rfl (lv_at hl 3 rfl) ?_
  refine lv_iconst (v := 3) F.1 F.2.1 dL_law_861 ic_3 ?_
  refine lv_iadd F.1 F.2.1 dL_law_862 ?_
  refine y_scr F hX hbl hbA hS (hA 3 (by decide)) dL_law_863 ?_
  refine lv_aload_n F.1 F.2.1 dL_law_864 rfl (lv_at hl 0 rfl) ?_
  refine lv_iload_n F.1 F.2.1 dL_law_865 rfl (lv_at hl 3 rfl) ?_
  refine lv_iconst (v := 4) F.1 F.2.1 dL_law_866 ic_4 ?_
  refine lv_iadd F.1 F.2.1 dL_law_867 ?_
  refine y_scr F hX hbl hbA hS (hA 4 (by decide)) dL_law_868 ?_
  obtain ⟨v_869, w_869, hc_869, h⟩ := bi_s h
  refine x_goes (x_runV (As := [.int (A 1), .int (A 2), .int (A 3), .int (A 4)]) (rest := [.int v_845]) F hP hS (c_X12_storey l D cT lo w_845 ad0 (A 1) (A 2) (A 3) (A 4) v_869 w_869 hc_869) cw_X12_storey lk_L_64 vi_X12_storey k_63 (n2 (hP.al 63 rfl)) rfl ⟨rfl, rfl, Nat.le_of_ble_eq_true rfl, Nat.le_of_ble_eq_true rfl⟩ hl.1 rfl (Nat.le_of_ble_eq_true rfl) dL_law_869 ⟨Nat.le_trans (by omega) hce, Nat.le_trans (by omega) hsl⟩) hS (fun H locs hP hS hm => ?_)
  have hM_w := hM_w.trans hm
  refine lv_icmp_eq (tgt := 2228) F.1 F.2.1 dL_law_872 (by decide) (fun hc => ?_) (fun hc => ?_)
  · have h := if_t _ hc h
    cases h
    refine W.widen (k := cells + 13) (n := slots + 89) (by omega) (by omega) ?_
    exact kk _ _ _ _ hP hS hl
  · have h := if_f _ hc h
    cases h
set_option maxRecDepth 100000 in
set_option maxHeartbeats 4000000 in
theorem lc_11 (F : Fx p s m #[Value.ref b] c cL_law RL 4 D cT lo) (hX : va_X b L xs s s.heap) (hbl : b < s.heap.size) (hbA : ¬ lo ≤ b) {A : Nat → Int32} {i : Int32} (hA : lA L xs i A) {w w9 : Wd} {ad0 : Nat → Nat} (hP : wP D cT lo NB w ad0 H) (hS : va_S (fun q => lo ≤ q) s.heap H locs) (hl : lv_has ls 4 [(0, .ref b), (1, .ref (ad0 1)), (2, .ref (ad0 63)), (3, .int i)]) (hce : cells + 13 ≤ 600000) (hsl : slots + 89 ≤ 7302250) (h : s_11 A w = some w9)
    (kk : ∀ (ad : Nat → Nat) (H : Heap) (locs : List Loc) (ls : Array Slot), wP D cT lo NB w9 ad H → va_S (fun q => lo ≤ q) s.heap H locs → lv_has ls 4 [(0, .ref b), (1, .ref (ad 1)), (2, .ref (ad 63)), (3, .int i)] → W p l e room_1 s m #[Value.ref b] below meth c H locs (cells + 13) (slots + 89) Q (F0 m 2228 ls [])) : W p l e room_1 s m #[Value.ref b] below meth c H locs cells slots Q (F0 m 877 ls []) := by
  unfold s_11 at h
  have hx := F.1
  have hb := F.2.1
  have hM_w : mono w w := mono.refl
  have hXA : ∀ k, wA w k ≠ 0 → ad0 k = ad0 k := fun _ _ => rfl
  refine lv_aload_n F.1 F.2.1 dL_law_877 rfl (lv_at hl 1 rfl) ?_
  refine lv_aload_n F.1 F.2.1 dL_law_878 rfl (lv_at hl 0 rfl) ?_
  refine lv_iload_n F.1 F.2.1 dL_law_879 rfl (lv_at hl 3 rfl) ?_
  refine lv_iconst (v := 1) F.1 F.2.1 dL_law_880 ic_1 ?_
  refine lv_iadd F.1 F.2.1 dL_law_881 ?_
  refine y_scr F hX hbl hbA hS (hA 1 (by decide)) dL_law_882 ?_
  refine lv_aload_n F.1 F.2.1 dL_law_883 rfl (lv_at hl 0 rfl) ?_
  refine lv_iload_n F.1 F.2.1 dL_law_884 rfl (lv_at hl 3 rfl) ?_
  refine lv_iconst (v := 2) F.1 F.2.1 dL_law_885 ic_2 ?_
  refine lv_iadd F.1 F.2.1 dL_law_886 ?_
  refine y_scr F hX hbl hbA hS (hA 2 (by decide)) dL_law_887 ?_
  refine lv_aload_n F.1 F.2.1 dL_law_888 rfl (lv_at hl 0 rfl) ?_
  refine lv_iload_n F.1 F.2.1 dL_law_889 rfl (lv_at hl 3 rfl) ?_
  refine lv_iconst (v := 3) F.1 F.2.1 dL_law_890 ic_3 ?_
  refine lv_iadd F.1 F.2.1 dL_law_891 ?_
  refine y_scr F hX hbl hbA hS (hA 3 (by decide)) dL_law_892 ?_
  refine lv_aload_n F.1 F.2.1 dL_law_893 rfl (lv_at hl 0 rfl) ?_
  refine lv_iload_n F.1 F.2.1 dL_law_894 rfl (lv_at hl 3 rfl) ?_
  refine lv_iconst (v := 4) F.1 F.2.1 dL_law_895 ic_4 ?_
  refine lv_iadd F.1 F.2.1 dL_law_896 ?_
  refine y_scr F hX hbl hbA hS (hA 4 (by decide)) dL_law_897 ?_
  obtain ⟨v_898, w_898, hc_898, h⟩ := bi_s h
  refine x_goes (x_runV (As := [.int (A 1), .int (A 2), .int (A 3), .int (A 4)]) (rest := []) F hP hS (c_X11_stand l D cT lo w ad0 (A 1) (A 2) (A 3) (A 4) v_898 w_898 hc_898) cw_X11_stand lk_L_65 vi_X11_stand k_1 (n2 (hP.al 1 rfl)) rfl ⟨rfl, rfl, Nat.le_of_ble_eq_true rfl, Nat.le_of_ble_eq_true rfl⟩ hl.1 rfl (Nat.le_of_ble_eq_true rfl) dL_law_898 ⟨Nat.le_trans (by omega) hce, Nat.le_trans (by omega) hsl⟩) hS (fun H locs hP hS hm => ?_)
  have hM_w := hm
  refine lv_aload_n F.1 F.2.1 dL_law_901 rfl (lv_at hl 2 rfl) ?_
  refine lv_aload_n F.1 F.2.1 dL_law_902 rfl (lv_at hl 0 rfl) ?_
  refine lv_iload_n F.1 F.2.1 dL_law_903 rfl (lv_at hl 3 rfl) ?_
  refine lv_iconst (v := 1) F.1 F.2.1 dL_law_904 ic_1 ?_
  refine lv_iadd F.1 F.2.1 dL_law_905 ?_
  refine y_scr F hX hbl hbA hS (hA 1 (by decide)) dL_law_906 ?_
  refine lv_aload_n F.1 F.2.1 dL_law_907 rfl (lv_at hl 0 rfl) ?_
  refine lv_iload_n F.1 F.2.1 dL_law_908 rfl (lv_at hl 3 rfl) ?_
  refine lv_iconst (v := 2) F.1 F.2.1 dL_law_909 ic_2 ?_
  refine lv_iadd F.1 F.2.1 dL_law_910 ?_
  refine y_scr F hX hbl hbA hS (hA 2 (by decide)) dL_law_911 ?_
  refine lv_aload_n F.1 F.2.1 dL_law_912 rfl (lv_at hl 0 rfl) ?_
  refine lv_iload_n F.1 F.2.1 dL_law_913 rfl (lv_at hl 3 rfl) ?_
  refine lv_iconst (v := 3) F.1 F.2.1 dL_law_914 ic_3 ?_
  refine lv_iadd F.1 F.2.1 dL_law_915 ?_
  refine y_scr F hX hbl hbA hS (hA 3 (by decide)) dL_law_916 ?_
  refine lv_aload_n F.1 F.2.1 dL_law_917 rfl (lv_at hl 0 rfl) ?_
  refine lv_iload_n F.1 F.2.1 dL_law_918 rfl (lv_at hl 3 rfl) ?_
  refine lv_iconst (v := 4) F.1 F.2.1 dL_law_919 ic_4 ?_
  refine lv_iadd F.1 F.2.1 dL_law_920 ?_
  refine y_scr F hX hbl hbA hS (hA 4 (by decide)) dL_law_921 ?_
  obtain ⟨v_922, w_922, hc_922, h⟩ := bi_s h
  refine x_goes (x_runV (As := [.int (A 1), .int (A 2), .int (A 3), .int (A 4)]) (rest := [.int v_898]) F hP hS (c_X12_stand l D cT lo w_898 ad0 (A 1) (A 2) (A 3) (A 4) v_922 w_922 hc_922) cw_X12_stand lk_L_68 vi_X12_stand k_63 (n2 (hP.al 63 rfl)) rfl ⟨rfl, rfl, Nat.le_of_ble_eq_true rfl, Nat.le_of_ble_eq_true rfl⟩ hl.1 rfl (Nat.le_of_ble_eq_true rfl) dL_law_922 ⟨Nat.le_trans (by omega) hce, Nat.le_trans (by omega) hsl⟩) hS (fun H locs hP hS hm => ?_)
  have hM_w := hM_w.trans hm
  refine lv_icmp_eq (tgt := 2228) F.1 F.2.1 dL_law_925 (by decide) (fun hc => ?_) (fun hc => ?_)
  · have h := if_t _ hc h
    cases h
    refine W.widen (k := cells + 13) (n := slots + 89) (by omega) (by omega) ?_
    exact kk _ _ _ _ hP hS hl
  · have h := if_f _ hc h
    cases h
set_option maxRecDepth 100000 in
set_option maxHeartbeats 4000000 in
theorem lc_12 (F : Fx p s m #[Value.ref b] c cL_law RL 4 D cT lo) (hX : va_X b L xs s s.heap) (hbl : b < s.heap.size) (hbA : ¬ lo ≤ b) {A : Nat → Int32} {i : Int32} (hA : lA L xs i A) {w w9 : Wd} {ad0 : Nat → Nat} (hP : wP D cT lo NB w ad0 H) (hS : va_S (fun q => lo ≤ q) s.heap H locs) (hl : lv_has ls 4 [(0, .ref b), (1, .ref (ad0 1)), (2, .ref (ad0 63)), (3, .int i)]) (hce : cells + 13 ≤ 600000) (hsl : slots + 89 ≤ 7302250) (h : s_12 A w = some w9)
    (kk : ∀ (ad : Nat → Nat) (H : Heap) (locs : List Loc) (ls : Array Slot), wP D cT lo NB w9 ad H → va_S (fun q => lo ≤ q) s.heap H locs → lv_has ls 4 [(0, .ref b), (1, .ref (ad 1)), (2, .ref (ad 63)), (3, .int i)] → W p l e room_1 s m #[Value.ref b] below meth c H locs (cells + 13) (slots + 89) Q (F0 m 2228 ls [])) : W p l e room_1 s m #[Value.ref b] below meth c H locs cells slots Q (F0 m 930 ls []) := by
  unfold s_12 at h
  have hx := F.1
  have hb := F.2.1
  have hM_w : mono w w := mono.refl
  have hXA : ∀ k, wA w k ≠ 0 → ad0 k = ad0 k := fun _ _ => rfl
  refine lv_aload_n F.1 F.2.1 dL_law_930 rfl (lv_at hl 1 rfl) ?_
  refine lv_aload_n F.1 F.2.1 dL_law_931 rfl (lv_at hl 0 rfl) ?_
  refine lv_iload_n F.1 F.2.1 dL_law_932 rfl (lv_at hl 3 rfl) ?_
  refine lv_iconst (v := 1) F.1 F.2.1 dL_law_933 ic_1 ?_
  refine lv_iadd F.1 F.2.1 dL_law_934 ?_
  refine y_scr F hX hbl hbA hS (hA 1 (by decide)) dL_law_935 ?_
  obtain ⟨v_936, w_936, hc_936, h⟩ := bi_s h
  refine x_goes (x_runV (As := [.int (A 1)]) (rest := []) F hP hS (c_X11_leave l D cT lo w ad0 (A 1) v_936 w_936 hc_936) cw_X11_leave lk_L_69 vi_X11_leave k_1 (n2 (hP.al 1 rfl)) rfl ⟨rfl, rfl, Nat.le_of_ble_eq_true rfl, Nat.le_of_ble_eq_true rfl⟩ hl.1 rfl (Nat.le_of_ble_eq_true rfl) dL_law_936 ⟨Nat.le_trans (by omega) hce, Nat.le_trans (by omega) hsl⟩) hS (fun H locs hP hS hm => ?_)
  have hM_w := hm
  refine lv_aload_n F.1 F.2.1 dL_law_939 rfl (lv_at hl 2 rfl) ?_
  refine lv_aload_n F.1 F.2.1 dL_law_940 rfl (lv_at hl 0 rfl) ?_
  refine lv_iload_n F.1 F.2.1 dL_law_941 rfl (lv_at hl 3 rfl) ?_
  refine lv_iconst (v := 1) F.1 F.2.1 dL_law_942 ic_1 ?_
  refine lv_iadd F.1 F.2.1 dL_law_943 ?_
  refine y_scr F hX hbl hbA hS (hA 1 (by decide)) dL_law_944 ?_
  obtain ⟨v_945, w_945, hc_945, h⟩ := bi_s h
  refine x_goes (x_runV (As := [.int (A 1)]) (rest := [.int v_936]) F hP hS (c_X12_leave l D cT lo w_936 ad0 (A 1) v_945 w_945 hc_945) cw_X12_leave lk_L_73 vi_X12_leave k_63 (n2 (hP.al 63 rfl)) rfl ⟨rfl, rfl, Nat.le_of_ble_eq_true rfl, Nat.le_of_ble_eq_true rfl⟩ hl.1 rfl (Nat.le_of_ble_eq_true rfl) dL_law_945 ⟨Nat.le_trans (by omega) hce, Nat.le_trans (by omega) hsl⟩) hS (fun H locs hP hS hm => ?_)
  have hM_w := hM_w.trans hm
  refine lv_icmp_eq (tgt := 2228) F.1 F.2.1 dL_law_948 (by decide) (fun hc => ?_) (fun hc => ?_)
  · have h := if_t _ hc h
    cases h
    refine W.widen (k := cells + 13) (n := slots + 89) (by omega) (by omega) ?_
    exact kk _ _ _ _ hP hS hl
  · have h := if_f _ hc h
    cases h
set_option maxRecDepth 100000 in
set_option maxHeartbeats 4000000 in
theorem lc_13 (F : Fx p s m #[Value.ref b] c cL_law RL 4 D cT lo) (hX : va_X b L xs s s.heap) (hbl : b < s.heap.size) (hbA : ¬ lo ≤ b) {A : Nat → Int32} {i : Int32} (hA : lA L xs i A) {w w9 : Wd} {ad0 : Nat → Nat} (hP : wP D cT lo NB w ad0 H) (hS : va_S (fun q => lo ≤ q) s.heap H locs) (hl : lv_has ls 4 [(0, .ref b), (1, .ref (ad0 1)), (2, .ref (ad0 63)), (3, .int i)]) (hce : cells + 13 ≤ 600000) (hsl : slots + 89 ≤ 7302250) (h : s_13 A w = some w9)
    (kk : ∀ (ad : Nat → Nat) (H : Heap) (locs : List Loc) (ls : Array Slot), wP D cT lo NB w9 ad H → va_S (fun q => lo ≤ q) s.heap H locs → lv_has ls 4 [(0, .ref b), (1, .ref (ad 1)), (2, .ref (ad 63)), (3, .int i)] → W p l e room_1 s m #[Value.ref b] below meth c H locs (cells + 13) (slots + 89) Q (F0 m 2228 ls [])) : W p l e room_1 s m #[Value.ref b] below meth c H locs cells slots Q (F0 m 953 ls []) := by
  unfold s_13 at h
  have hx := F.1
  have hb := F.2.1
  have hM_w : mono w w := mono.refl
  have hXA : ∀ k, wA w k ≠ 0 → ad0 k = ad0 k := fun _ _ => rfl
  refine lv_aload_n F.1 F.2.1 dL_law_953 rfl (lv_at hl 1 rfl) ?_
  refine lv_aload_n F.1 F.2.1 dL_law_954 rfl (lv_at hl 0 rfl) ?_
  refine lv_iload_n F.1 F.2.1 dL_law_955 rfl (lv_at hl 3 rfl) ?_
  refine lv_iconst (v := 1) F.1 F.2.1 dL_law_956 ic_1 ?_
  refine lv_iadd F.1 F.2.1 dL_law_957 ?_
  refine y_scr F hX hbl hbA hS (hA 1 (by decide)) dL_law_958 ?_
  refine lv_aload_n F.1 F.2.1 dL_law_959 rfl (lv_at hl 0 rfl) ?_
  refine lv_iload_n F.1 F.2.1 dL_law_960 rfl (lv_at hl 3 rfl) ?_
  refine lv_iconst (v := 2) F.1 F.2.1 dL_law_961 ic_2 ?_
  refine lv_iadd F.1 F.2.1 dL_law_962 ?_
  refine y_scr F hX hbl hbA hS (hA 2 (by decide)) dL_law_963 ?_
  obtain ⟨v_964, hc_964, h⟩ := bo_s h
  refine x_goes (x_runV (As := [.int (A 1), .int (A 2)]) (rest := []) F hP hS (c_X11_about l D cT lo w ad0 (A 1) (A 2) v_964 hc_964) cw_X11_about lk_L_74 vi_X11_about k_1 (n2 (hP.al 1 rfl)) rfl ⟨rfl, rfl, Nat.le_of_ble_eq_true rfl, Nat.le_of_ble_eq_true rfl⟩ hl.1 rfl (Nat.le_of_ble_eq_true rfl) dL_law_964 ⟨Nat.le_trans (by omega) hce, Nat.le_trans (by omega) hsl⟩) hS (fun H locs hP hS _ => ?_)
  refine lv_aload_n F.1 F.2.1 dL_law_967 rfl (lv_at hl 2 rfl) ?_
  refine lv_aload_n F.1 F.2.1 dL_law_968 rfl (lv_at hl 0 rfl) ?_
  refine lv_iload_n F.1 F.2.1 dL_law_969 rfl (lv_at hl 3 rfl) ?_
  refine lv_iconst (v := 1) F.1 F.2.1 dL_law_970 ic_1 ?_
  refine lv_iadd F.1 F.2.1 dL_law_971 ?_
  refine y_scr F hX hbl hbA hS (hA 1 (by decide)) dL_law_972 ?_
  refine lv_aload_n F.1 F.2.1 dL_law_973 rfl (lv_at hl 0 rfl) ?_
  refine lv_iload_n F.1 F.2.1 dL_law_974 rfl (lv_at hl 3 rfl) ?_
  refine lv_iconst (v := 2) F.1 F.2.1 dL_law_975 ic_2 ?_
  refine lv_iadd F.1 F.2.1 dL_law_976 ?_
  refine y_scr F hX hbl hbA hS (hA 2 (by decide)) dL_law_977 ?_
  obtain ⟨v_978, hc_978, h⟩ := bo_s h
  refine x_goes (x_runV (As := [.int (A 1), .int (A 2)]) (rest := [.int v_964]) F hP hS (c_X12_about l D cT lo w ad0 (A 1) (A 2) v_978 hc_978) cw_X12_about lk_L_77 vi_X12_about k_63 (n2 (hP.al 63 rfl)) rfl ⟨rfl, rfl, Nat.le_of_ble_eq_true rfl, Nat.le_of_ble_eq_true rfl⟩ hl.1 rfl (Nat.le_of_ble_eq_true rfl) dL_law_978 ⟨Nat.le_trans (by omega) hce, Nat.le_trans (by omega) hsl⟩) hS (fun H locs hP hS _ => ?_)
  refine lv_icmp_eq (tgt := 2228) F.1 F.2.1 dL_law_981 (by decide) (fun hc => ?_) (fun hc => ?_)
  · have h := if_t _ hc h
    cases h
    refine W.widen (k := cells + 13) (n := slots + 89) (by omega) (by omega) ?_
    exact kk _ _ _ _ hP hS hl
  · have h := if_f _ hc h
    cases h
set_option maxRecDepth 100000 in
set_option maxHeartbeats 4000000 in
theorem lc_14 (F : Fx p s m #[Value.ref b] c cL_law RL 4 D cT lo) (hX : va_X b L xs s s.heap) (hbl : b < s.heap.size) (hbA : ¬ lo ≤ b) {A : Nat → Int32} {i : Int32} (hA : lA L xs i A) {w w9 : Wd} {ad0 : Nat → Nat} (hP : wP D cT lo NB w ad0 H) (hS : va_S (fun q => lo ≤ q) s.heap H locs) (hl : lv_has ls 4 [(0, .ref b), (1, .ref (ad0 1)), (2, .ref (ad0 63)), (3, .int i)]) (hce : cells + 13 ≤ 600000) (hsl : slots + 89 ≤ 7302250) (h : s_14 A w = some w9)
    (kk : ∀ (ad : Nat → Nat) (H : Heap) (locs : List Loc) (ls : Array Slot), wP D cT lo NB w9 ad H → va_S (fun q => lo ≤ q) s.heap H locs → lv_has ls 4 [(0, .ref b), (1, .ref (ad 1)), (2, .ref (ad 63)), (3, .int i)] → W p l e room_1 s m #[Value.ref b] below meth c H locs (cells + 13) (slots + 89) Q (F0 m 2228 ls [])) : W p l e room_1 s m #[Value.ref b] below meth c H locs cells slots Q (F0 m 986 ls []) := by
  unfold s_14 at h
  have hx := F.1
  have hb := F.2.1
  have hM_w : mono w w := mono.refl
  have hXA : ∀ k, wA w k ≠ 0 → ad0 k = ad0 k := fun _ _ => rfl
  refine lv_aload_n F.1 F.2.1 dL_law_986 rfl (lv_at hl 1 rfl) ?_
  refine lv_aload_n F.1 F.2.1 dL_law_987 rfl (lv_at hl 0 rfl) ?_
  refine lv_iload_n F.1 F.2.1 dL_law_988 rfl (lv_at hl 3 rfl) ?_
  refine lv_iconst (v := 1) F.1 F.2.1 dL_law_989 ic_1 ?_
  refine lv_iadd F.1 F.2.1 dL_law_990 ?_
  refine y_scr F hX hbl hbA hS (hA 1 (by decide)) dL_law_991 ?_
  refine lv_aload_n F.1 F.2.1 dL_law_992 rfl (lv_at hl 0 rfl) ?_
  refine lv_iload_n F.1 F.2.1 dL_law_993 rfl (lv_at hl 3 rfl) ?_
  refine lv_iconst (v := 2) F.1 F.2.1 dL_law_994 ic_2 ?_
  refine lv_iadd F.1 F.2.1 dL_law_995 ?_
  refine y_scr F hX hbl hbA hS (hA 2 (by decide)) dL_law_996 ?_
  refine lv_aload_n F.1 F.2.1 dL_law_997 rfl (lv_at hl 0 rfl) ?_
  refine lv_iload_n F.1 F.2.1 dL_law_998 rfl (lv_at hl 3 rfl) ?_
  refine lv_iconst (v := 3) F.1 F.2.1 dL_law_999 ic_3 ?_
  refine lv_iadd F.1 F.2.1 dL_law_1000 ?_
  refine y_scr F hX hbl hbA hS (hA 3 (by decide)) dL_law_1001 ?_
  obtain ⟨v_1002, hc_1002, h⟩ := bo_s h
  refine x_goes (x_runV (As := [.int (A 1), .int (A 2), .int (A 3)]) (rest := []) F hP hS (c_X11_wheel l D cT lo w ad0 (A 1) (A 2) (A 3) v_1002 hc_1002) cw_X11_wheel lk_L_78 vi_X11_wheel k_1 (n2 (hP.al 1 rfl)) rfl ⟨rfl, rfl, Nat.le_of_ble_eq_true rfl, Nat.le_of_ble_eq_true rfl⟩ hl.1 rfl (Nat.le_of_ble_eq_true rfl) dL_law_1002 ⟨Nat.le_trans (by omega) hce, Nat.le_trans (by omega) hsl⟩) hS (fun H locs hP hS _ => ?_)
  refine lv_aload_n F.1 F.2.1 dL_law_1005 rfl (lv_at hl 2 rfl) ?_
  refine lv_aload_n F.1 F.2.1 dL_law_1006 rfl (lv_at hl 0 rfl) ?_
  refine lv_iload_n F.1 F.2.1 dL_law_1007 rfl (lv_at hl 3 rfl) ?_
  refine lv_iconst (v := 1) F.1 F.2.1 dL_law_1008 ic_1 ?_
  refine lv_iadd F.1 F.2.1 dL_law_1009 ?_
  refine y_scr F hX hbl hbA hS (hA 1 (by decide)) dL_law_1010 ?_
  refine lv_aload_n F.1 F.2.1 dL_law_1011 rfl (lv_at hl 0 rfl) ?_
  refine lv_iload_n F.1 F.2.1 dL_law_1012 rfl (lv_at hl 3 rfl) ?_
  refine lv_iconst (v := 2) F.1 F.2.1 dL_law_1013 ic_2 ?_
  refine lv_iadd F.1 F.2.1 dL_law_1014 ?_
  refine y_scr F hX hbl hbA hS (hA 2 (by decide)) dL_law_1015 ?_
  refine lv_aload_n F.1 F.2.1 dL_law_1016 rfl (lv_at hl 0 rfl) ?_
  refine lv_iload_n F.1 F.2.1 dL_law_1017 rfl (lv_at hl 3 rfl) ?_
  refine lv_iconst (v := 3) F.1 F.2.1 dL_law_1018 ic_3 ?_
  refine lv_iadd F.1 F.2.1 dL_law_1019 ?_
  refine y_scr F hX hbl hbA hS (hA 3 (by decide)) dL_law_1020 ?_
  obtain ⟨v_1021, hc_1021, h⟩ := bo_s h
  refine x_goes (x_runV (As := [.int (A 1), .int (A 2), .int (A 3)]) (rest := [.int v_1002]) F hP hS (c_X12_wheel l D cT lo w ad0 (A 1) (A 2) (A 3) v_1021 hc_1021) cw_X12_wheel lk_L_81 vi_X12_wheel k_63 (n2 (hP.al 63 rfl)) rfl ⟨rfl, rfl, Nat.le_of_ble_eq_true rfl, Nat.le_of_ble_eq_true rfl⟩ hl.1 rfl (Nat.le_of_ble_eq_true rfl) dL_law_1021 ⟨Nat.le_trans (by omega) hce, Nat.le_trans (by omega) hsl⟩) hS (fun H locs hP hS _ => ?_)
  refine lv_icmp_eq (tgt := 2228) F.1 F.2.1 dL_law_1024 (by decide) (fun hc => ?_) (fun hc => ?_)
  · have h := if_t _ hc h
    cases h
    refine W.widen (k := cells + 13) (n := slots + 89) (by omega) (by omega) ?_
    exact kk _ _ _ _ hP hS hl
  · have h := if_f _ hc h
    cases h
set_option maxRecDepth 100000 in
set_option maxHeartbeats 4000000 in
theorem lc_15 (F : Fx p s m #[Value.ref b] c cL_law RL 4 D cT lo) (hX : va_X b L xs s s.heap) (hbl : b < s.heap.size) (hbA : ¬ lo ≤ b) {A : Nat → Int32} {i : Int32} (hA : lA L xs i A) {w w9 : Wd} {ad0 : Nat → Nat} (hP : wP D cT lo NB w ad0 H) (hS : va_S (fun q => lo ≤ q) s.heap H locs) (hl : lv_has ls 4 [(0, .ref b), (1, .ref (ad0 1)), (2, .ref (ad0 63)), (3, .int i)]) (hce : cells + 13 ≤ 600000) (hsl : slots + 89 ≤ 7302250) (h : s_15 A w = some w9)
    (kk : ∀ (ad : Nat → Nat) (H : Heap) (locs : List Loc) (ls : Array Slot), wP D cT lo NB w9 ad H → va_S (fun q => lo ≤ q) s.heap H locs → lv_has ls 4 [(0, .ref b), (1, .ref (ad 1)), (2, .ref (ad 63)), (3, .int i)] → W p l e room_1 s m #[Value.ref b] below meth c H locs (cells + 13) (slots + 89) Q (F0 m 2228 ls [])) : W p l e room_1 s m #[Value.ref b] below meth c H locs cells slots Q (F0 m 1029 ls []) := by
  unfold s_15 at h
  have hx := F.1
  have hb := F.2.1
  have hM_w : mono w w := mono.refl
  have hXA : ∀ k, wA w k ≠ 0 → ad0 k = ad0 k := fun _ _ => rfl
  refine lv_aload_n F.1 F.2.1 dL_law_1029 rfl (lv_at hl 1 rfl) ?_
  refine lv_aload_n F.1 F.2.1 dL_law_1030 rfl (lv_at hl 0 rfl) ?_
  refine lv_iload_n F.1 F.2.1 dL_law_1031 rfl (lv_at hl 3 rfl) ?_
  refine lv_iconst (v := 1) F.1 F.2.1 dL_law_1032 ic_1 ?_
  refine lv_iadd F.1 F.2.1 dL_law_1033 ?_
  refine y_scr F hX hbl hbA hS (hA 1 (by decide)) dL_law_1034 ?_
  obtain ⟨v_1035, w_1035, hc_1035, h⟩ := bi_s h
  refine x_goes (x_runV (As := [.int (A 1)]) (rest := []) F hP hS (c_X11_feet l D cT lo w ad0 (A 1) v_1035 w_1035 hc_1035) cw_X11_feet lk_L_82 vi_X11_feet k_1 (n2 (hP.al 1 rfl)) rfl ⟨rfl, rfl, Nat.le_of_ble_eq_true rfl, Nat.le_of_ble_eq_true rfl⟩ hl.1 rfl (Nat.le_of_ble_eq_true rfl) dL_law_1035 ⟨Nat.le_trans (by omega) hce, Nat.le_trans (by omega) hsl⟩) hS (fun H locs hP hS hm => ?_)
  have hM_w := hm
  refine lv_aload_n F.1 F.2.1 dL_law_1038 rfl (lv_at hl 2 rfl) ?_
  refine lv_aload_n F.1 F.2.1 dL_law_1039 rfl (lv_at hl 0 rfl) ?_
  refine lv_iload_n F.1 F.2.1 dL_law_1040 rfl (lv_at hl 3 rfl) ?_
  refine lv_iconst (v := 1) F.1 F.2.1 dL_law_1041 ic_1 ?_
  refine lv_iadd F.1 F.2.1 dL_law_1042 ?_
  refine y_scr F hX hbl hbA hS (hA 1 (by decide)) dL_law_1043 ?_
  obtain ⟨v_1044, w_1044, hc_1044, h⟩ := bi_s h
  refine x_goes (x_runV (As := [.int (A 1)]) (rest := [.int v_1035]) F hP hS (c_X12_feet l D cT lo w_1035 ad0 (A 1) v_1044 w_1044 hc_1044) cw_X12_feet lk_L_85 vi_X12_feet k_63 (n2 (hP.al 63 rfl)) rfl ⟨rfl, rfl, Nat.le_of_ble_eq_true rfl, Nat.le_of_ble_eq_true rfl⟩ hl.1 rfl (Nat.le_of_ble_eq_true rfl) dL_law_1044 ⟨Nat.le_trans (by omega) hce, Nat.le_trans (by omega) hsl⟩) hS (fun H locs hP hS hm => ?_)
  have hM_w := hM_w.trans hm
  refine lv_icmp_eq (tgt := 2228) F.1 F.2.1 dL_law_1047 (by decide) (fun hc => ?_) (fun hc => ?_)
  · have h := if_t _ hc h
    cases h
    refine W.widen (k := cells + 13) (n := slots + 89) (by omega) (by omega) ?_
    exact kk _ _ _ _ hP hS hl
  · have h := if_f _ hc h
    cases h
set_option maxRecDepth 100000 in
set_option maxHeartbeats 4000000 in
theorem lc_16 (F : Fx p s m #[Value.ref b] c cL_law RL 4 D cT lo) (hX : va_X b L xs s s.heap) (hbl : b < s.heap.size) (hbA : ¬ lo ≤ b) {A : Nat → Int32} {i : Int32} (hA : lA L xs i A) {w w9 : Wd} {ad0 : Nat → Nat} (hP : wP D cT lo NB w ad0 H) (hS : va_S (fun q => lo ≤ q) s.heap H locs) (hl : lv_has ls 4 [(0, .ref b), (1, .ref (ad0 1)), (2, .ref (ad0 63)), (3, .int i)]) (hce : cells + 13 ≤ 600000) (hsl : slots + 89 ≤ 7302250) (h : s_16 A w = some w9)
    (kk : ∀ (ad : Nat → Nat) (H : Heap) (locs : List Loc) (ls : Array Slot), wP D cT lo NB w9 ad H → va_S (fun q => lo ≤ q) s.heap H locs → lv_has ls 4 [(0, .ref b), (1, .ref (ad 1)), (2, .ref (ad 63)), (3, .int i)] → W p l e room_1 s m #[Value.ref b] below meth c H locs (cells + 13) (slots + 89) Q (F0 m 2228 ls [])) : W p l e room_1 s m #[Value.ref b] below meth c H locs cells slots Q (F0 m 1052 ls []) := by
  unfold s_16 at h
  have hx := F.1
  have hb := F.2.1
  have hM_w : mono w w := mono.refl
  have hXA : ∀ k, wA w k ≠ 0 → ad0 k = ad0 k := fun _ _ => rfl
  refine lv_aload_n F.1 F.2.1 dL_law_1052 rfl (lv_at hl 1 rfl) ?_
  refine lv_aload_n F.1 F.2.1 dL_law_1053 rfl (lv_at hl 0 rfl) ?_
  refine lv_iload_n F.1 F.2.1 dL_law_1054 rfl (lv_at hl 3 rfl) ?_
  refine lv_iconst (v := 1) F.1 F.2.1 dL_law_1055 ic_1 ?_
  refine lv_iadd F.1 F.2.1 dL_law_1056 ?_
  refine y_scr F hX hbl hbA hS (hA 1 (by decide)) dL_law_1057 ?_
  refine lv_aload_n F.1 F.2.1 dL_law_1058 rfl (lv_at hl 0 rfl) ?_
  refine lv_iload_n F.1 F.2.1 dL_law_1059 rfl (lv_at hl 3 rfl) ?_
  refine lv_iconst (v := 2) F.1 F.2.1 dL_law_1060 ic_2 ?_
  refine lv_iadd F.1 F.2.1 dL_law_1061 ?_
  refine y_scr F hX hbl hbA hS (hA 2 (by decide)) dL_law_1062 ?_
  obtain ⟨v_1063, w_1063, hc_1063, h⟩ := bi_s h
  refine x_goes (x_runV (As := [.int (A 1), .int (A 2)]) (rest := []) F hP hS (c_X11_meets l D cT lo w ad0 (A 1) (A 2) v_1063 w_1063 hc_1063) cw_X11_meets lk_L_86 vi_X11_meets k_1 (n2 (hP.al 1 rfl)) rfl ⟨rfl, rfl, Nat.le_of_ble_eq_true rfl, Nat.le_of_ble_eq_true rfl⟩ hl.1 rfl (Nat.le_of_ble_eq_true rfl) dL_law_1063 ⟨Nat.le_trans (by omega) hce, Nat.le_trans (by omega) hsl⟩) hS (fun H locs hP hS hm => ?_)
  have hM_w := hm
  refine lv_aload_n F.1 F.2.1 dL_law_1066 rfl (lv_at hl 2 rfl) ?_
  refine lv_aload_n F.1 F.2.1 dL_law_1067 rfl (lv_at hl 0 rfl) ?_
  refine lv_iload_n F.1 F.2.1 dL_law_1068 rfl (lv_at hl 3 rfl) ?_
  refine lv_iconst (v := 1) F.1 F.2.1 dL_law_1069 ic_1 ?_
  refine lv_iadd F.1 F.2.1 dL_law_1070 ?_
  refine y_scr F hX hbl hbA hS (hA 1 (by decide)) dL_law_1071 ?_
  refine lv_aload_n F.1 F.2.1 dL_law_1072 rfl (lv_at hl 0 rfl) ?_
  refine lv_iload_n F.1 F.2.1 dL_law_1073 rfl (lv_at hl 3 rfl) ?_
  refine lv_iconst (v := 2) F.1 F.2.1 dL_law_1074 ic_2 ?_
  refine lv_iadd F.1 F.2.1 dL_law_1075 ?_
  refine y_scr F hX hbl hbA hS (hA 2 (by decide)) dL_law_1076 ?_
  obtain ⟨v_1077, w_1077, hc_1077, h⟩ := bi_s h
  refine x_goes (x_runV (As := [.int (A 1), .int (A 2)]) (rest := [.int v_1063]) F hP hS (c_X12_meets l D cT lo w_1063 ad0 (A 1) (A 2) v_1077 w_1077 hc_1077) cw_X12_meets lk_L_89 vi_X12_meets k_63 (n2 (hP.al 63 rfl)) rfl ⟨rfl, rfl, Nat.le_of_ble_eq_true rfl, Nat.le_of_ble_eq_true rfl⟩ hl.1 rfl (Nat.le_of_ble_eq_true rfl) dL_law_1077 ⟨Nat.le_trans (by omega) hce, Nat.le_trans (by omega) hsl⟩) hS (fun H locs hP hS hm => ?_)
  have hM_w := hM_w.trans hm
  refine lv_icmp_eq (tgt := 2228) F.1 F.2.1 dL_law_1080 (by decide) (fun hc => ?_) (fun hc => ?_)
  · have h := if_t _ hc h
    cases h
    refine W.widen (k := cells + 13) (n := slots + 89) (by omega) (by omega) ?_
    exact kk _ _ _ _ hP hS hl
  · have h := if_f _ hc h
    cases h
set_option maxRecDepth 100000 in
set_option maxHeartbeats 4000000 in
theorem lc_17 (F : Fx p s m #[Value.ref b] c cL_law RL 4 D cT lo) (hX : va_X b L xs s s.heap) (hbl : b < s.heap.size) (hbA : ¬ lo ≤ b) {A : Nat → Int32} {i : Int32} (hA : lA L xs i A) {w w9 : Wd} {ad0 : Nat → Nat} (hP : wP D cT lo NB w ad0 H) (hS : va_S (fun q => lo ≤ q) s.heap H locs) (hl : lv_has ls 4 [(0, .ref b), (1, .ref (ad0 1)), (2, .ref (ad0 63)), (3, .int i)]) (hce : cells + 13 ≤ 600000) (hsl : slots + 89 ≤ 7302250) (h : s_17 A w = some w9)
    (kk : ∀ (ad : Nat → Nat) (H : Heap) (locs : List Loc) (ls : Array Slot), wP D cT lo NB w9 ad H → va_S (fun q => lo ≤ q) s.heap H locs → lv_has ls 4 [(0, .ref b), (1, .ref (ad 1)), (2, .ref (ad 63)), (3, .int i)] → W p l e room_1 s m #[Value.ref b] below meth c H locs (cells + 13) (slots + 89) Q (F0 m 2228 ls [])) : W p l e room_1 s m #[Value.ref b] below meth c H locs cells slots Q (F0 m 1085 ls []) := by
  unfold s_17 at h
  have hx := F.1
  have hb := F.2.1
  have hM_w : mono w w := mono.refl
  have hXA : ∀ k, wA w k ≠ 0 → ad0 k = ad0 k := fun _ _ => rfl
  refine lv_aload_n F.1 F.2.1 dL_law_1085 rfl (lv_at hl 1 rfl) ?_
  refine lv_aload_n F.1 F.2.1 dL_law_1086 rfl (lv_at hl 0 rfl) ?_
  refine lv_iload_n F.1 F.2.1 dL_law_1087 rfl (lv_at hl 3 rfl) ?_
  refine lv_iconst (v := 1) F.1 F.2.1 dL_law_1088 ic_1 ?_
  refine lv_iadd F.1 F.2.1 dL_law_1089 ?_
  refine y_scr F hX hbl hbA hS (hA 1 (by decide)) dL_law_1090 ?_
  refine lv_aload_n F.1 F.2.1 dL_law_1091 rfl (lv_at hl 0 rfl) ?_
  refine lv_iload_n F.1 F.2.1 dL_law_1092 rfl (lv_at hl 3 rfl) ?_
  refine lv_iconst (v := 2) F.1 F.2.1 dL_law_1093 ic_2 ?_
  refine lv_iadd F.1 F.2.1 dL_law_1094 ?_
  refine y_scr F hX hbl hbA hS (hA 2 (by decide)) dL_law_1095 ?_
  obtain ⟨v_1096, w_1096, hc_1096, h⟩ := bi_s h
  refine x_goes (x_runV (As := [.int (A 1), .int (A 2)]) (rest := []) F hP hS (c_X11_move l D cT lo w ad0 (A 1) (A 2) v_1096 w_1096 hc_1096) cw_X11_move lk_L_90 vi_X11_move k_1 (n2 (hP.al 1 rfl)) rfl ⟨rfl, rfl, Nat.le_of_ble_eq_true rfl, Nat.le_of_ble_eq_true rfl⟩ hl.1 rfl (Nat.le_of_ble_eq_true rfl) dL_law_1096 ⟨Nat.le_trans (by omega) hce, Nat.le_trans (by omega) hsl⟩) hS (fun H locs hP hS hm => ?_)
  have hM_w := hm
  refine lv_aload_n F.1 F.2.1 dL_law_1099 rfl (lv_at hl 2 rfl) ?_
  refine lv_aload_n F.1 F.2.1 dL_law_1100 rfl (lv_at hl 0 rfl) ?_
  refine lv_iload_n F.1 F.2.1 dL_law_1101 rfl (lv_at hl 3 rfl) ?_
  refine lv_iconst (v := 1) F.1 F.2.1 dL_law_1102 ic_1 ?_
  refine lv_iadd F.1 F.2.1 dL_law_1103 ?_
  refine y_scr F hX hbl hbA hS (hA 1 (by decide)) dL_law_1104 ?_
  refine lv_aload_n F.1 F.2.1 dL_law_1105 rfl (lv_at hl 0 rfl) ?_
  refine lv_iload_n F.1 F.2.1 dL_law_1106 rfl (lv_at hl 3 rfl) ?_
  refine lv_iconst (v := 2) F.1 F.2.1 dL_law_1107 ic_2 ?_
  refine lv_iadd F.1 F.2.1 dL_law_1108 ?_
  refine y_scr F hX hbl hbA hS (hA 2 (by decide)) dL_law_1109 ?_
  obtain ⟨v_1110, w_1110, hc_1110, h⟩ := bi_s h
  refine x_goes (x_runV (As := [.int (A 1), .int (A 2)]) (rest := [.int v_1096]) F hP hS (c_X12_move l D cT lo w_1096 ad0 (A 1) (A 2) v_1110 w_1110 hc_1110) cw_X12_move lk_L_93 vi_X12_move k_63 (n2 (hP.al 63 rfl)) rfl ⟨rfl, rfl, Nat.le_of_ble_eq_true rfl, Nat.le_of_ble_eq_true rfl⟩ hl.1 rfl (Nat.le_of_ble_eq_true rfl) dL_law_1110 ⟨Nat.le_trans (by omega) hce, Nat.le_trans (by omega) hsl⟩) hS (fun H locs hP hS hm => ?_)
  have hM_w := hM_w.trans hm
  refine lv_icmp_eq (tgt := 2228) F.1 F.2.1 dL_law_1113 (by decide) (fun hc => ?_) (fun hc => ?_)
  · have h := if_t _ hc h
    cases h
    refine W.widen (k := cells + 13) (n := slots + 89) (by omega) (by omega) ?_
    exact kk _ _ _ _ hP hS hl
  · have h := if_f _ hc h
    cases h
set_option maxRecDepth 100000 in
set_option maxHeartbeats 4000000 in
theorem lc_18 (F : Fx p s m #[Value.ref b] c cL_law RL 4 D cT lo) (hX : va_X b L xs s s.heap) (hbl : b < s.heap.size) (hbA : ¬ lo ≤ b) {A : Nat → Int32} {i : Int32} (hA : lA L xs i A) {w w9 : Wd} {ad0 : Nat → Nat} (hP : wP D cT lo NB w ad0 H) (hS : va_S (fun q => lo ≤ q) s.heap H locs) (hl : lv_has ls 4 [(0, .ref b), (1, .ref (ad0 1)), (2, .ref (ad0 63)), (3, .int i)]) (hce : cells + 13 ≤ 600000) (hsl : slots + 89 ≤ 7302250) (h : s_18 A w = some w9)
    (kk : ∀ (ad : Nat → Nat) (H : Heap) (locs : List Loc) (ls : Array Slot), wP D cT lo NB w9 ad H → va_S (fun q => lo ≤ q) s.heap H locs → lv_has ls 4 [(0, .ref b), (1, .ref (ad 1)), (2, .ref (ad 63)), (3, .int i)] → W p l e room_1 s m #[Value.ref b] below meth c H locs (cells + 13) (slots + 89) Q (F0 m 2228 ls [])) : W p l e room_1 s m #[Value.ref b] below meth c H locs cells slots Q (F0 m 1118 ls []) := by
  unfold s_18 at h
  have hx := F.1
  have hb := F.2.1
  have hM_w : mono w w := mono.refl
  have hXA : ∀ k, wA w k ≠ 0 → ad0 k = ad0 k := fun _ _ => rfl
  refine lv_aload_n F.1 F.2.1 dL_law_1118 rfl (lv_at hl 1 rfl) ?_
  refine lv_aload_n F.1 F.2.1 dL_law_1119 rfl (lv_at hl 0 rfl) ?_
  refine lv_iload_n F.1 F.2.1 dL_law_1120 rfl (lv_at hl 3 rfl) ?_
  refine lv_iconst (v := 1) F.1 F.2.1 dL_law_1121 ic_1 ?_
  refine lv_iadd F.1 F.2.1 dL_law_1122 ?_
  refine y_scr F hX hbl hbA hS (hA 1 (by decide)) dL_law_1123 ?_
  refine lv_aload_n F.1 F.2.1 dL_law_1124 rfl (lv_at hl 0 rfl) ?_
  refine lv_iload_n F.1 F.2.1 dL_law_1125 rfl (lv_at hl 3 rfl) ?_
  refine lv_iconst (v := 2) F.1 F.2.1 dL_law_1126 ic_2 ?_
  refine lv_iadd F.1 F.2.1 dL_law_1127 ?_
  refine y_scr F hX hbl hbA hS (hA 2 (by decide)) dL_law_1128 ?_
  refine lv_aload_n F.1 F.2.1 dL_law_1129 rfl (lv_at hl 0 rfl) ?_
  refine lv_iload_n F.1 F.2.1 dL_law_1130 rfl (lv_at hl 3 rfl) ?_
  refine lv_iconst (v := 3) F.1 F.2.1 dL_law_1131 ic_3 ?_
  refine lv_iadd F.1 F.2.1 dL_law_1132 ?_
  refine y_scr F hX hbl hbA hS (hA 3 (by decide)) dL_law_1133 ?_
  refine lv_aload_n F.1 F.2.1 dL_law_1134 rfl (lv_at hl 0 rfl) ?_
  refine lv_iload_n F.1 F.2.1 dL_law_1135 rfl (lv_at hl 3 rfl) ?_
  refine lv_iconst (v := 4) F.1 F.2.1 dL_law_1136 ic_4 ?_
  refine lv_iadd F.1 F.2.1 dL_law_1137 ?_
  refine y_scr F hX hbl hbA hS (hA 4 (by decide)) dL_law_1138 ?_
  refine lv_aload_n F.1 F.2.1 dL_law_1139 rfl (lv_at hl 0 rfl) ?_
  refine lv_iload_n F.1 F.2.1 dL_law_1140 rfl (lv_at hl 3 rfl) ?_
  refine lv_iconst (v := 5) F.1 F.2.1 dL_law_1141 ic_5 ?_
  refine lv_iadd F.1 F.2.1 dL_law_1142 ?_
  refine y_scr F hX hbl hbA hS (hA 5 (by decide)) dL_law_1143 ?_
  refine lv_aload_n F.1 F.2.1 dL_law_1144 rfl (lv_at hl 0 rfl) ?_
  refine lv_iload_n F.1 F.2.1 dL_law_1145 rfl (lv_at hl 3 rfl) ?_
  refine lv_bipush (v := 6) F.1 F.2.1 dL_law_1146 ib_6 ?_
  refine lv_iadd F.1 F.2.1 dL_law_1148 ?_
  refine y_scr F hX hbl hbA hS (hA 6 (by decide)) dL_law_1149 ?_
  obtain ⟨v_1150, w_1150, hc_1150, h⟩ := bi_s h
  refine x_goesA (x_runV (As := [.int (A 1), .int (A 2), .int (A 3), .int (A 4), .int (A 5), .int (A 6)]) (rest := []) F hP hS (c_X11_way l D cT lo w ad0 (A 1) (A 2) (A 3) (A 4) (A 5) (A 6) v_1150 w_1150 hc_1150) cw_X11_way lk_L_94 vi_X11_way k_1 (n2 (hP.al 1 rfl)) rfl ⟨rfl, rfl, Nat.le_of_ble_eq_true rfl, Nat.le_of_ble_eq_true rfl⟩ hl.1 rfl (Nat.le_of_ble_eq_true rfl) dL_law_1150 ⟨Nat.le_trans (by omega) hce, Nat.le_trans (by omega) hsl⟩) hS (fun ad H locs hx hP' hS hm => ?_)
  have e9 := hx 1 (n2 (hP.al 1 rfl))
  try rw [← e9] at hl
  try rw [← e9]
  have e9 := hx 63 (n2 (hP.al 63 rfl))
  try rw [← e9] at hl
  try rw [← e9]
  have hP := hP'
  have hXA : ∀ k, wA w k ≠ 0 → ad k = ad0 k := fun k hk => (hx k (hM_w.1 k hk)).trans (hXA k hk)
  have hM_w := hm
  refine lv_aload_n F.1 F.2.1 dL_law_1153 rfl (lv_at hl 2 rfl) ?_
  refine lv_aload_n F.1 F.2.1 dL_law_1154 rfl (lv_at hl 0 rfl) ?_
  refine lv_iload_n F.1 F.2.1 dL_law_1155 rfl (lv_at hl 3 rfl) ?_
  refine lv_iconst (v := 1) F.1 F.2.1 dL_law_1156 ic_1 ?_
  refine lv_iadd F.1 F.2.1 dL_law_1157 ?_
  refine y_scr F hX hbl hbA hS (hA 1 (by decide)) dL_law_1158 ?_
  refine lv_aload_n F.1 F.2.1 dL_law_1159 rfl (lv_at hl 0 rfl) ?_
  refine lv_iload_n F.1 F.2.1 dL_law_1160 rfl (lv_at hl 3 rfl) ?_
  refine lv_iconst (v := 2) F.1 F.2.1 dL_law_1161 ic_2 ?_
  refine lv_iadd F.1 F.2.1 dL_law_1162 ?_
  refine y_scr F hX hbl hbA hS (hA 2 (by decide)) dL_law_1163 ?_
  refine lv_aload_n F.1 F.2.1 dL_law_1164 rfl (lv_at hl 0 rfl) ?_
  refine lv_iload_n F.1 F.2.1 dL_law_1165 rfl (lv_at hl 3 rfl) ?_
  refine lv_iconst (v := 3) F.1 F.2.1 dL_law_1166 ic_3 ?_
  refine lv_iadd F.1 F.2.1 dL_law_1167 ?_
  refine y_scr F hX hbl hbA hS (hA 3 (by decide)) dL_law_1168 ?_
  refine lv_aload_n F.1 F.2.1 dL_law_1169 rfl (lv_at hl 0 rfl) ?_
  refine lv_iload_n F.1 F.2.1 dL_law_1170 rfl (lv_at hl 3 rfl) ?_
  refine lv_iconst (v := 4) F.1 F.2.1 dL_law_1171 ic_4 ?_
  refine lv_iadd F.1 F.2.1 dL_law_1172 ?_
  refine y_scr F hX hbl hbA hS (hA 4 (by decide)) dL_law_1173 ?_
  refine lv_aload_n F.1 F.2.1 dL_law_1174 rfl (lv_at hl 0 rfl) ?_
  refine lv_iload_n F.1 F.2.1 dL_law_1175 rfl (lv_at hl 3 rfl) ?_
  refine lv_iconst (v := 5) F.1 F.2.1 dL_law_1176 ic_5 ?_
  refine lv_iadd F.1 F.2.1 dL_law_1177 ?_
  refine y_scr F hX hbl hbA hS (hA 5 (by decide)) dL_law_1178 ?_
  refine lv_aload_n F.1 F.2.1 dL_law_1179 rfl (lv_at hl 0 rfl) ?_
  refine lv_iload_n F.1 F.2.1 dL_law_1180 rfl (lv_at hl 3 rfl) ?_
  refine lv_bipush (v := 6) F.1 F.2.1 dL_law_1181 ib_6 ?_
  refine lv_iadd F.1 F.2.1 dL_law_1183 ?_
  refine y_scr F hX hbl hbA hS (hA 6 (by decide)) dL_law_1184 ?_
  obtain ⟨v_1185, w_1185, hc_1185, h⟩ := bi_s h
  refine x_goes (x_runV (As := [.int (A 1), .int (A 2), .int (A 3), .int (A 4), .int (A 5), .int (A 6)]) (rest := [.int v_1150]) F hP hS (c_X12_way l D cT lo w_1150 ad (A 1) (A 2) (A 3) (A 4) (A 5) (A 6) v_1185 w_1185 hc_1185) cw_X12_way lk_L_98 vi_X12_way k_63 (n2 (hP.al 63 rfl)) rfl ⟨rfl, rfl, Nat.le_of_ble_eq_true rfl, Nat.le_of_ble_eq_true rfl⟩ hl.1 rfl (Nat.le_of_ble_eq_true rfl) dL_law_1185 ⟨Nat.le_trans (by omega) hce, Nat.le_trans (by omega) hsl⟩) hS (fun H locs hP hS hm => ?_)
  have hM_w := hM_w.trans hm
  refine lv_icmp_eq (tgt := 2228) F.1 F.2.1 dL_law_1188 (by decide) (fun hc => ?_) (fun hc => ?_)
  · have h := if_t _ hc h
    cases h
    refine W.widen (k := cells + 13) (n := slots + 89) (by omega) (by omega) ?_
    exact kk _ _ _ _ hP hS hl
  · have h := if_f _ hc h
    cases h
set_option maxRecDepth 100000 in
set_option maxHeartbeats 4000000 in
theorem lc_19 (F : Fx p s m #[Value.ref b] c cL_law RL 4 D cT lo) (hX : va_X b L xs s s.heap) (hbl : b < s.heap.size) (hbA : ¬ lo ≤ b) {A : Nat → Int32} {i : Int32} (hA : lA L xs i A) {w w9 : Wd} {ad0 : Nat → Nat} (hP : wP D cT lo NB w ad0 H) (hS : va_S (fun q => lo ≤ q) s.heap H locs) (hl : lv_has ls 4 [(0, .ref b), (1, .ref (ad0 1)), (2, .ref (ad0 63)), (3, .int i)]) (hce : cells + 13 ≤ 600000) (hsl : slots + 89 ≤ 7302250) (h : s_19 A w = some w9)
    (kk : ∀ (ad : Nat → Nat) (H : Heap) (locs : List Loc) (ls : Array Slot), wP D cT lo NB w9 ad H → va_S (fun q => lo ≤ q) s.heap H locs → lv_has ls 4 [(0, .ref b), (1, .ref (ad 1)), (2, .ref (ad 63)), (3, .int i)] → W p l e room_1 s m #[Value.ref b] below meth c H locs (cells + 13) (slots + 89) Q (F0 m 2228 ls [])) : W p l e room_1 s m #[Value.ref b] below meth c H locs cells slots Q (F0 m 1193 ls []) := by
  unfold s_19 at h
  have hx := F.1
  have hb := F.2.1
  have hM_w : mono w w := mono.refl
  have hXA : ∀ k, wA w k ≠ 0 → ad0 k = ad0 k := fun _ _ => rfl
  refine lv_aload_n F.1 F.2.1 dL_law_1193 rfl (lv_at hl 1 rfl) ?_
  refine lv_aload_n F.1 F.2.1 dL_law_1194 rfl (lv_at hl 0 rfl) ?_
  refine lv_iload_n F.1 F.2.1 dL_law_1195 rfl (lv_at hl 3 rfl) ?_
  refine lv_iconst (v := 1) F.1 F.2.1 dL_law_1196 ic_1 ?_
  refine lv_iadd F.1 F.2.1 dL_law_1197 ?_
  refine y_scr F hX hbl hbA hS (hA 1 (by decide)) dL_law_1198 ?_
  obtain ⟨v_1199, hc_1199, h⟩ := bo_s h
  refine x_goes (x_runV (As := [.int (A 1)]) (rest := []) F hP hS (c_X11_step l D cT lo w ad0 (A 1) v_1199 hc_1199) cw_X11_step lk_L_99 vi_X11_step k_1 (n2 (hP.al 1 rfl)) rfl ⟨rfl, rfl, Nat.le_of_ble_eq_true rfl, Nat.le_of_ble_eq_true rfl⟩ hl.1 rfl (Nat.le_of_ble_eq_true rfl) dL_law_1199 ⟨Nat.le_trans (by omega) hce, Nat.le_trans (by omega) hsl⟩) hS (fun H locs hP hS _ => ?_)
  refine lv_aload_n F.1 F.2.1 dL_law_1202 rfl (lv_at hl 2 rfl) ?_
  refine lv_aload_n F.1 F.2.1 dL_law_1203 rfl (lv_at hl 0 rfl) ?_
  refine lv_iload_n F.1 F.2.1 dL_law_1204 rfl (lv_at hl 3 rfl) ?_
  refine lv_iconst (v := 1) F.1 F.2.1 dL_law_1205 ic_1 ?_
  refine lv_iadd F.1 F.2.1 dL_law_1206 ?_
  refine y_scr F hX hbl hbA hS (hA 1 (by decide)) dL_law_1207 ?_
  obtain ⟨v_1208, hc_1208, h⟩ := bo_s h
  refine x_goes (x_runV (As := [.int (A 1)]) (rest := [.int v_1199]) F hP hS (c_X12_step l D cT lo w ad0 (A 1) v_1208 hc_1208) cw_X12_step lk_L_102 vi_X12_step k_63 (n2 (hP.al 63 rfl)) rfl ⟨rfl, rfl, Nat.le_of_ble_eq_true rfl, Nat.le_of_ble_eq_true rfl⟩ hl.1 rfl (Nat.le_of_ble_eq_true rfl) dL_law_1208 ⟨Nat.le_trans (by omega) hce, Nat.le_trans (by omega) hsl⟩) hS (fun H locs hP hS _ => ?_)
  refine lv_icmp_eq (tgt := 2228) F.1 F.2.1 dL_law_1211 (by decide) (fun hc => ?_) (fun hc => ?_)
  · have h := if_t _ hc h
    cases h
    refine W.widen (k := cells + 13) (n := slots + 89) (by omega) (by omega) ?_
    exact kk _ _ _ _ hP hS hl
  · have h := if_f _ hc h
    cases h
set_option maxRecDepth 100000 in
set_option maxHeartbeats 4000000 in
theorem lc_20 (F : Fx p s m #[Value.ref b] c cL_law RL 4 D cT lo) (hX : va_X b L xs s s.heap) (hbl : b < s.heap.size) (hbA : ¬ lo ≤ b) {A : Nat → Int32} {i : Int32} (hA : lA L xs i A) {w w9 : Wd} {ad0 : Nat → Nat} (hP : wP D cT lo NB w ad0 H) (hS : va_S (fun q => lo ≤ q) s.heap H locs) (hl : lv_has ls 4 [(0, .ref b), (1, .ref (ad0 1)), (2, .ref (ad0 63)), (3, .int i)]) (hce : cells + 13 ≤ 600000) (hsl : slots + 89 ≤ 7302250) (h : s_20 A w = some w9)
    (kk : ∀ (ad : Nat → Nat) (H : Heap) (locs : List Loc) (ls : Array Slot), wP D cT lo NB w9 ad H → va_S (fun q => lo ≤ q) s.heap H locs → lv_has ls 4 [(0, .ref b), (1, .ref (ad 1)), (2, .ref (ad 63)), (3, .int i)] → W p l e room_1 s m #[Value.ref b] below meth c H locs (cells + 13) (slots + 89) Q (F0 m 2228 ls [])) : W p l e room_1 s m #[Value.ref b] below meth c H locs cells slots Q (F0 m 1216 ls []) := by
  unfold s_20 at h
  have hx := F.1
  have hb := F.2.1
  have hM_w : mono w w := mono.refl
  have hXA : ∀ k, wA w k ≠ 0 → ad0 k = ad0 k := fun _ _ => rfl
  refine lv_aload_n F.1 F.2.1 dL_law_1216 rfl (lv_at hl 1 rfl) ?_
  refine x_goes (x_runV (As := []) (rest := []) F hP hS (c_X11_seen l D cT lo w ad0 ) cw_X11_seen lk_L_103 vi_X11_seen k_1 (n2 (hP.al 1 rfl)) rfl ⟨rfl, rfl, Nat.le_of_ble_eq_true rfl, Nat.le_of_ble_eq_true rfl⟩ hl.1 rfl (Nat.le_of_ble_eq_true rfl) dL_law_1217 ⟨Nat.le_trans (by omega) hce, Nat.le_trans (by omega) hsl⟩) hS (fun H locs hP hS _ => ?_)
  refine lv_aload_n F.1 F.2.1 dL_law_1220 rfl (lv_at hl 2 rfl) ?_
  refine x_goes (x_runV (As := []) (rest := [.int (f_X11_seen w)]) F hP hS (c_X12_seen l D cT lo w ad0 ) cw_X12_seen lk_L_107 vi_X12_seen k_63 (n2 (hP.al 63 rfl)) rfl ⟨rfl, rfl, Nat.le_of_ble_eq_true rfl, Nat.le_of_ble_eq_true rfl⟩ hl.1 rfl (Nat.le_of_ble_eq_true rfl) dL_law_1221 ⟨Nat.le_trans (by omega) hce, Nat.le_trans (by omega) hsl⟩) hS (fun H locs hP hS _ => ?_)
  refine lv_icmp_eq (tgt := 2228) F.1 F.2.1 dL_law_1224 (by decide) (fun hc => ?_) (fun hc => ?_)
  · have h := if_t _ hc h
    cases h
    refine W.widen (k := cells + 13) (n := slots + 89) (by omega) (by omega) ?_
    exact kk _ _ _ _ hP hS hl
  · have h := if_f _ hc h
    cases h
set_option maxRecDepth 100000 in
set_option maxHeartbeats 4000000 in
theorem lc_21 (F : Fx p s m #[Value.ref b] c cL_law RL 4 D cT lo) (hX : va_X b L xs s s.heap) (hbl : b < s.heap.size) (hbA : ¬ lo ≤ b) {A : Nat → Int32} {i : Int32} (hA : lA L xs i A) {w w9 : Wd} {ad0 : Nat → Nat} (hP : wP D cT lo NB w ad0 H) (hS : va_S (fun q => lo ≤ q) s.heap H locs) (hl : lv_has ls 4 [(0, .ref b), (1, .ref (ad0 1)), (2, .ref (ad0 63)), (3, .int i)]) (hce : cells + 13 ≤ 600000) (hsl : slots + 89 ≤ 7302250) (h : s_21 A w = some w9)
    (kk : ∀ (ad : Nat → Nat) (H : Heap) (locs : List Loc) (ls : Array Slot), wP D cT lo NB w9 ad H → va_S (fun q => lo ≤ q) s.heap H locs → lv_has ls 4 [(0, .ref b), (1, .ref (ad 1)), (2, .ref (ad 63)), (3, .int i)] → W p l e room_1 s m #[Value.ref b] below meth c H locs (cells + 13) (slots + 89) Q (F0 m 2228 ls [])) : W p l e room_1 s m #[Value.ref b] below meth c H locs cells slots Q (F0 m 1229 ls []) := by
  unfold s_21 at h
  have hx := F.1
  have hb := F.2.1
  have hM_w : mono w w := mono.refl
  have hXA : ∀ k, wA w k ≠ 0 → ad0 k = ad0 k := fun _ _ => rfl
  refine lv_aload_n F.1 F.2.1 dL_law_1229 rfl (lv_at hl 1 rfl) ?_
  refine lv_aload_n F.1 F.2.1 dL_law_1230 rfl (lv_at hl 0 rfl) ?_
  refine lv_iload_n F.1 F.2.1 dL_law_1231 rfl (lv_at hl 3 rfl) ?_
  refine lv_iconst (v := 1) F.1 F.2.1 dL_law_1232 ic_1 ?_
  refine lv_iadd F.1 F.2.1 dL_law_1233 ?_
  refine y_scr F hX hbl hbA hS (hA 1 (by decide)) dL_law_1234 ?_
  refine lv_aload_n F.1 F.2.1 dL_law_1235 rfl (lv_at hl 0 rfl) ?_
  refine lv_iload_n F.1 F.2.1 dL_law_1236 rfl (lv_at hl 3 rfl) ?_
  refine lv_iconst (v := 2) F.1 F.2.1 dL_law_1237 ic_2 ?_
  refine lv_iadd F.1 F.2.1 dL_law_1238 ?_
  refine y_scr F hX hbl hbA hS (hA 2 (by decide)) dL_law_1239 ?_
  refine lv_aload_n F.1 F.2.1 dL_law_1240 rfl (lv_at hl 0 rfl) ?_
  refine lv_iload_n F.1 F.2.1 dL_law_1241 rfl (lv_at hl 3 rfl) ?_
  refine lv_iconst (v := 3) F.1 F.2.1 dL_law_1242 ic_3 ?_
  refine lv_iadd F.1 F.2.1 dL_law_1243 ?_
  refine y_scr F hX hbl hbA hS (hA 3 (by decide)) dL_law_1244 ?_
  refine lv_aload_n F.1 F.2.1 dL_law_1245 rfl (lv_at hl 0 rfl) ?_
  refine lv_iload_n F.1 F.2.1 dL_law_1246 rfl (lv_at hl 3 rfl) ?_
  refine lv_iconst (v := 4) F.1 F.2.1 dL_law_1247 ic_4 ?_
  refine lv_iadd F.1 F.2.1 dL_law_1248 ?_
  refine y_scr F hX hbl hbA hS (hA 4 (by decide)) dL_law_1249 ?_
  refine lv_aload_n F.1 F.2.1 dL_law_1250 rfl (lv_at hl 0 rfl) ?_
  refine lv_iload_n F.1 F.2.1 dL_law_1251 rfl (lv_at hl 3 rfl) ?_
  refine lv_iconst (v := 5) F.1 F.2.1 dL_law_1252 ic_5 ?_
  refine lv_iadd F.1 F.2.1 dL_law_1253 ?_
  refine y_scr F hX hbl hbA hS (hA 5 (by decide)) dL_law_1254 ?_
  obtain ⟨v_1255, w_1255, hc_1255, h⟩ := bi_s h
  refine x_goes (x_runV (As := [.int (A 1), .int (A 2), .int (A 3), .int (A 4), .int (A 5)]) (rest := []) F hP hS (c_X11_rope l D cT lo w ad0 (A 1) (A 2) (A 3) (A 4) (A 5) v_1255 w_1255 hc_1255) cw_X11_rope lk_L_108 vi_X11_rope k_1 (n2 (hP.al 1 rfl)) rfl ⟨rfl, rfl, Nat.le_of_ble_eq_true rfl, Nat.le_of_ble_eq_true rfl⟩ hl.1 rfl (Nat.le_of_ble_eq_true rfl) dL_law_1255 ⟨Nat.le_trans (by omega) hce, Nat.le_trans (by omega) hsl⟩) hS (fun H locs hP hS hm => ?_)
  have hM_w := hm
  refine lv_aload_n F.1 F.2.1 dL_law_1258 rfl (lv_at hl 2 rfl) ?_
  refine lv_aload_n F.1 F.2.1 dL_law_1259 rfl (lv_at hl 0 rfl) ?_
  refine lv_iload_n F.1 F.2.1 dL_law_1260 rfl (lv_at hl 3 rfl) ?_
  refine lv_iconst (v := 1) F.1 F.2.1 dL_law_1261 ic_1 ?_
  refine lv_iadd F.1 F.2.1 dL_law_1262 ?_
  refine y_scr F hX hbl hbA hS (hA 1 (by decide)) dL_law_1263 ?_
  refine lv_aload_n F.1 F.2.1 dL_law_1264 rfl (lv_at hl 0 rfl) ?_
  refine lv_iload_n F.1 F.2.1 dL_law_1265 rfl (lv_at hl 3 rfl) ?_
  refine lv_iconst (v := 2) F.1 F.2.1 dL_law_1266 ic_2 ?_
  refine lv_iadd F.1 F.2.1 dL_law_1267 ?_
  refine y_scr F hX hbl hbA hS (hA 2 (by decide)) dL_law_1268 ?_
  refine lv_aload_n F.1 F.2.1 dL_law_1269 rfl (lv_at hl 0 rfl) ?_
  refine lv_iload_n F.1 F.2.1 dL_law_1270 rfl (lv_at hl 3 rfl) ?_
  refine lv_iconst (v := 3) F.1 F.2.1 dL_law_1271 ic_3 ?_
  refine lv_iadd F.1 F.2.1 dL_law_1272 ?_
  refine y_scr F hX hbl hbA hS (hA 3 (by decide)) dL_law_1273 ?_
  refine lv_aload_n F.1 F.2.1 dL_law_1274 rfl (lv_at hl 0 rfl) ?_
  refine lv_iload_n F.1 F.2.1 dL_law_1275 rfl (lv_at hl 3 rfl) ?_
  refine lv_iconst (v := 4) F.1 F.2.1 dL_law_1276 ic_4 ?_
  refine lv_iadd F.1 F.2.1 dL_law_1277 ?_
  refine y_scr F hX hbl hbA hS (hA 4 (by decide)) dL_law_1278 ?_
  refine lv_aload_n F.1 F.2.1 dL_law_1279 rfl (lv_at hl 0 rfl) ?_
  refine lv_iload_n F.1 F.2.1 dL_law_1280 rfl (lv_at hl 3 rfl) ?_
  refine lv_iconst (v := 5) F.1 F.2.1 dL_law_1281 ic_5 ?_
  refine lv_iadd F.1 F.2.1 dL_law_1282 ?_
  refine y_scr F hX hbl hbA hS (hA 5 (by decide)) dL_law_1283 ?_
  obtain ⟨v_1284, w_1284, hc_1284, h⟩ := bi_s h
  refine x_goes (x_runV (As := [.int (A 1), .int (A 2), .int (A 3), .int (A 4), .int (A 5)]) (rest := [.int v_1255]) F hP hS (c_X12_rope l D cT lo w_1255 ad0 (A 1) (A 2) (A 3) (A 4) (A 5) v_1284 w_1284 hc_1284) cw_X12_rope lk_L_111 vi_X12_rope k_63 (n2 (hP.al 63 rfl)) rfl ⟨rfl, rfl, Nat.le_of_ble_eq_true rfl, Nat.le_of_ble_eq_true rfl⟩ hl.1 rfl (Nat.le_of_ble_eq_true rfl) dL_law_1284 ⟨Nat.le_trans (by omega) hce, Nat.le_trans (by omega) hsl⟩) hS (fun H locs hP hS hm => ?_)
  have hM_w := hM_w.trans hm
  refine lv_icmp_eq (tgt := 2228) F.1 F.2.1 dL_law_1287 (by decide) (fun hc => ?_) (fun hc => ?_)
  · have h := if_t _ hc h
    cases h
    refine W.widen (k := cells + 13) (n := slots + 89) (by omega) (by omega) ?_
    exact kk _ _ _ _ hP hS hl
  · have h := if_f _ hc h
    cases h
set_option maxRecDepth 100000 in
set_option maxHeartbeats 4000000 in
theorem lc_22 (F : Fx p s m #[Value.ref b] c cL_law RL 4 D cT lo) (hX : va_X b L xs s s.heap) (hbl : b < s.heap.size) (hbA : ¬ lo ≤ b) {A : Nat → Int32} {i : Int32} (hA : lA L xs i A) {w w9 : Wd} {ad0 : Nat → Nat} (hP : wP D cT lo NB w ad0 H) (hS : va_S (fun q => lo ≤ q) s.heap H locs) (hl : lv_has ls 4 [(0, .ref b), (1, .ref (ad0 1)), (2, .ref (ad0 63)), (3, .int i)]) (hce : cells + 13 ≤ 600000) (hsl : slots + 89 ≤ 7302250) (h : s_22 A w = some w9)
    (kk : ∀ (ad : Nat → Nat) (H : Heap) (locs : List Loc) (ls : Array Slot), wP D cT lo NB w9 ad H → va_S (fun q => lo ≤ q) s.heap H locs → lv_has ls 4 [(0, .ref b), (1, .ref (ad 1)), (2, .ref (ad 63)), (3, .int i)] → W p l e room_1 s m #[Value.ref b] below meth c H locs (cells + 13) (slots + 89) Q (F0 m 2228 ls [])) : W p l e room_1 s m #[Value.ref b] below meth c H locs cells slots Q (F0 m 1292 ls []) := by
  unfold s_22 at h
  have hx := F.1
  have hb := F.2.1
  have hM_w : mono w w := mono.refl
  have hXA : ∀ k, wA w k ≠ 0 → ad0 k = ad0 k := fun _ _ => rfl
  refine lv_aload_n F.1 F.2.1 dL_law_1292 rfl (lv_at hl 1 rfl) ?_
  refine lv_aload_n F.1 F.2.1 dL_law_1293 rfl (lv_at hl 0 rfl) ?_
  refine lv_iload_n F.1 F.2.1 dL_law_1294 rfl (lv_at hl 3 rfl) ?_
  refine lv_iconst (v := 1) F.1 F.2.1 dL_law_1295 ic_1 ?_
  refine lv_iadd F.1 F.2.1 dL_law_1296 ?_
  refine y_scr F hX hbl hbA hS (hA 1 (by decide)) dL_law_1297 ?_
  refine lv_aload_n F.1 F.2.1 dL_law_1298 rfl (lv_at hl 0 rfl) ?_
  refine lv_iload_n F.1 F.2.1 dL_law_1299 rfl (lv_at hl 3 rfl) ?_
  refine lv_iconst (v := 2) F.1 F.2.1 dL_law_1300 ic_2 ?_
  refine lv_iadd F.1 F.2.1 dL_law_1301 ?_
  refine y_scr F hX hbl hbA hS (hA 2 (by decide)) dL_law_1302 ?_
  obtain ⟨v_1303, w_1303, hc_1303, h⟩ := bi_s h
  refine x_goes (x_runV (As := [.int (A 1), .int (A 2)]) (rest := []) F hP hS (c_X11_set l D cT lo w ad0 (A 1) (A 2) v_1303 w_1303 hc_1303) cw_X11_set lk_L_112 vi_X11_set k_1 (n2 (hP.al 1 rfl)) rfl ⟨rfl, rfl, Nat.le_of_ble_eq_true rfl, Nat.le_of_ble_eq_true rfl⟩ hl.1 rfl (Nat.le_of_ble_eq_true rfl) dL_law_1303 ⟨Nat.le_trans (by omega) hce, Nat.le_trans (by omega) hsl⟩) hS (fun H locs hP hS hm => ?_)
  have hM_w := hm
  refine lv_aload_n F.1 F.2.1 dL_law_1306 rfl (lv_at hl 2 rfl) ?_
  refine lv_aload_n F.1 F.2.1 dL_law_1307 rfl (lv_at hl 0 rfl) ?_
  refine lv_iload_n F.1 F.2.1 dL_law_1308 rfl (lv_at hl 3 rfl) ?_
  refine lv_iconst (v := 1) F.1 F.2.1 dL_law_1309 ic_1 ?_
  refine lv_iadd F.1 F.2.1 dL_law_1310 ?_
  refine y_scr F hX hbl hbA hS (hA 1 (by decide)) dL_law_1311 ?_
  refine lv_aload_n F.1 F.2.1 dL_law_1312 rfl (lv_at hl 0 rfl) ?_
  refine lv_iload_n F.1 F.2.1 dL_law_1313 rfl (lv_at hl 3 rfl) ?_
  refine lv_iconst (v := 2) F.1 F.2.1 dL_law_1314 ic_2 ?_
  refine lv_iadd F.1 F.2.1 dL_law_1315 ?_
  refine y_scr F hX hbl hbA hS (hA 2 (by decide)) dL_law_1316 ?_
  obtain ⟨v_1317, w_1317, hc_1317, h⟩ := bi_s h
  refine x_goes (x_runV (As := [.int (A 1), .int (A 2)]) (rest := [.int v_1303]) F hP hS (c_X12_set l D cT lo w_1303 ad0 (A 1) (A 2) v_1317 w_1317 hc_1317) cw_X12_set lk_L_115 vi_X12_set k_63 (n2 (hP.al 63 rfl)) rfl ⟨rfl, rfl, Nat.le_of_ble_eq_true rfl, Nat.le_of_ble_eq_true rfl⟩ hl.1 rfl (Nat.le_of_ble_eq_true rfl) dL_law_1317 ⟨Nat.le_trans (by omega) hce, Nat.le_trans (by omega) hsl⟩) hS (fun H locs hP hS hm => ?_)
  have hM_w := hM_w.trans hm
  refine lv_icmp_eq (tgt := 2228) F.1 F.2.1 dL_law_1320 (by decide) (fun hc => ?_) (fun hc => ?_)
  · have h := if_t _ hc h
    cases h
    refine W.widen (k := cells + 13) (n := slots + 89) (by omega) (by omega) ?_
    exact kk _ _ _ _ hP hS hl
  · have h := if_f _ hc h
    cases h
set_option maxRecDepth 100000 in
set_option maxHeartbeats 4000000 in
theorem lc_23 (F : Fx p s m #[Value.ref b] c cL_law RL 4 D cT lo) (hX : va_X b L xs s s.heap) (hbl : b < s.heap.size) (hbA : ¬ lo ≤ b) {A : Nat → Int32} {i : Int32} (hA : lA L xs i A) {w w9 : Wd} {ad0 : Nat → Nat} (hP : wP D cT lo NB w ad0 H) (hS : va_S (fun q => lo ≤ q) s.heap H locs) (hl : lv_has ls 4 [(0, .ref b), (1, .ref (ad0 1)), (2, .ref (ad0 63)), (3, .int i)]) (hce : cells + 13 ≤ 600000) (hsl : slots + 89 ≤ 7302250) (h : s_23 A w = some w9)
    (kk : ∀ (ad : Nat → Nat) (H : Heap) (locs : List Loc) (ls : Array Slot), wP D cT lo NB w9 ad H → va_S (fun q => lo ≤ q) s.heap H locs → lv_has ls 4 [(0, .ref b), (1, .ref (ad 1)), (2, .ref (ad 63)), (3, .int i)] → W p l e room_1 s m #[Value.ref b] below meth c H locs (cells + 13) (slots + 89) Q (F0 m 2228 ls [])) : W p l e room_1 s m #[Value.ref b] below meth c H locs cells slots Q (F0 m 1325 ls []) := by
  unfold s_23 at h
  have hx := F.1
  have hb := F.2.1
  have hM_w : mono w w := mono.refl
  have hXA : ∀ k, wA w k ≠ 0 → ad0 k = ad0 k := fun _ _ => rfl
  refine lv_aload_n F.1 F.2.1 dL_law_1325 rfl (lv_at hl 1 rfl) ?_
  refine lv_aload_n F.1 F.2.1 dL_law_1326 rfl (lv_at hl 0 rfl) ?_
  refine lv_iload_n F.1 F.2.1 dL_law_1327 rfl (lv_at hl 3 rfl) ?_
  refine lv_iconst (v := 1) F.1 F.2.1 dL_law_1328 ic_1 ?_
  refine lv_iadd F.1 F.2.1 dL_law_1329 ?_
  refine y_scr F hX hbl hbA hS (hA 1 (by decide)) dL_law_1330 ?_
  refine lv_aload_n F.1 F.2.1 dL_law_1331 rfl (lv_at hl 0 rfl) ?_
  refine lv_iload_n F.1 F.2.1 dL_law_1332 rfl (lv_at hl 3 rfl) ?_
  refine lv_iconst (v := 2) F.1 F.2.1 dL_law_1333 ic_2 ?_
  refine lv_iadd F.1 F.2.1 dL_law_1334 ?_
  refine y_scr F hX hbl hbA hS (hA 2 (by decide)) dL_law_1335 ?_
  obtain ⟨v_1336, w_1336, hc_1336, h⟩ := bi_s h
  refine x_goes (x_runV (As := [.int (A 1), .int (A 2)]) (rest := []) F hP hS (c_X11_tight l D cT lo w ad0 (A 1) (A 2) v_1336 w_1336 hc_1336) cw_X11_tight lk_L_116 vi_X11_tight k_1 (n2 (hP.al 1 rfl)) rfl ⟨rfl, rfl, Nat.le_of_ble_eq_true rfl, Nat.le_of_ble_eq_true rfl⟩ hl.1 rfl (Nat.le_of_ble_eq_true rfl) dL_law_1336 ⟨Nat.le_trans (by omega) hce, Nat.le_trans (by omega) hsl⟩) hS (fun H locs hP hS hm => ?_)
  have hM_w := hm
  refine lv_aload_n F.1 F.2.1 dL_law_1339 rfl (lv_at hl 2 rfl) ?_
  refine lv_aload_n F.1 F.2.1 dL_law_1340 rfl (lv_at hl 0 rfl) ?_
  refine lv_iload_n F.1 F.2.1 dL_law_1341 rfl (lv_at hl 3 rfl) ?_
  refine lv_iconst (v := 1) F.1 F.2.1 dL_law_1342 ic_1 ?_
  refine lv_iadd F.1 F.2.1 dL_law_1343 ?_
  refine y_scr F hX hbl hbA hS (hA 1 (by decide)) dL_law_1344 ?_
  refine lv_aload_n F.1 F.2.1 dL_law_1345 rfl (lv_at hl 0 rfl) ?_
  refine lv_iload_n F.1 F.2.1 dL_law_1346 rfl (lv_at hl 3 rfl) ?_
  refine lv_iconst (v := 2) F.1 F.2.1 dL_law_1347 ic_2 ?_
  refine lv_iadd F.1 F.2.1 dL_law_1348 ?_
  refine y_scr F hX hbl hbA hS (hA 2 (by decide)) dL_law_1349 ?_
  obtain ⟨v_1350, hc_1350, h⟩ := bo_s h
  refine x_goes (x_runV (As := [.int (A 1), .int (A 2)]) (rest := [.int v_1336]) F hP hS (c_X12_tight l D cT lo w_1336 ad0 (A 1) (A 2) v_1350 hc_1350) cw_X12_tight lk_L_119 vi_X12_tight k_63 (n2 (hP.al 63 rfl)) rfl ⟨rfl, rfl, Nat.le_of_ble_eq_true rfl, Nat.le_of_ble_eq_true rfl⟩ hl.1 rfl (Nat.le_of_ble_eq_true rfl) dL_law_1350 ⟨Nat.le_trans (by omega) hce, Nat.le_trans (by omega) hsl⟩) hS (fun H locs hP hS _ => ?_)
  refine lv_icmp_eq (tgt := 2228) F.1 F.2.1 dL_law_1353 (by decide) (fun hc => ?_) (fun hc => ?_)
  · have h := if_t _ hc h
    cases h
    refine W.widen (k := cells + 13) (n := slots + 89) (by omega) (by omega) ?_
    exact kk _ _ _ _ hP hS hl
  · have h := if_f _ hc h
    cases h
set_option maxRecDepth 100000 in
set_option maxHeartbeats 4000000 in
theorem lc_24 (F : Fx p s m #[Value.ref b] c cL_law RL 4 D cT lo) (hX : va_X b L xs s s.heap) (hbl : b < s.heap.size) (hbA : ¬ lo ≤ b) {A : Nat → Int32} {i : Int32} (hA : lA L xs i A) {w w9 : Wd} {ad0 : Nat → Nat} (hP : wP D cT lo NB w ad0 H) (hS : va_S (fun q => lo ≤ q) s.heap H locs) (hl : lv_has ls 4 [(0, .ref b), (1, .ref (ad0 1)), (2, .ref (ad0 63)), (3, .int i)]) (hce : cells + 13 ≤ 600000) (hsl : slots + 89 ≤ 7302250) (h : s_24 A w = some w9)
    (kk : ∀ (ad : Nat → Nat) (H : Heap) (locs : List Loc) (ls : Array Slot), wP D cT lo NB w9 ad H → va_S (fun q => lo ≤ q) s.heap H locs → lv_has ls 4 [(0, .ref b), (1, .ref (ad 1)), (2, .ref (ad 63)), (3, .int i)] → W p l e room_1 s m #[Value.ref b] below meth c H locs (cells + 13) (slots + 89) Q (F0 m 2228 ls [])) : W p l e room_1 s m #[Value.ref b] below meth c H locs cells slots Q (F0 m 1358 ls []) := by
  unfold s_24 at h
  have hx := F.1
  have hb := F.2.1
  have hM_w : mono w w := mono.refl
  have hXA : ∀ k, wA w k ≠ 0 → ad0 k = ad0 k := fun _ _ => rfl
  refine lv_aload_n F.1 F.2.1 dL_law_1358 rfl (lv_at hl 1 rfl) ?_
  refine lv_aload_n F.1 F.2.1 dL_law_1359 rfl (lv_at hl 0 rfl) ?_
  refine lv_iload_n F.1 F.2.1 dL_law_1360 rfl (lv_at hl 3 rfl) ?_
  refine lv_iconst (v := 1) F.1 F.2.1 dL_law_1361 ic_1 ?_
  refine lv_iadd F.1 F.2.1 dL_law_1362 ?_
  refine y_scr F hX hbl hbA hS (hA 1 (by decide)) dL_law_1363 ?_
  obtain ⟨v_1364, w_1364, hc_1364, h⟩ := bi_s h
  refine x_goes (x_runV (As := [.int (A 1)]) (rest := []) F hP hS (c_X11_pull l D cT lo w ad0 (A 1) v_1364 w_1364 hc_1364) cw_X11_pull lk_L_120 vi_X11_pull k_1 (n2 (hP.al 1 rfl)) rfl ⟨rfl, rfl, Nat.le_of_ble_eq_true rfl, Nat.le_of_ble_eq_true rfl⟩ hl.1 rfl (Nat.le_of_ble_eq_true rfl) dL_law_1364 ⟨Nat.le_trans (by omega) hce, Nat.le_trans (by omega) hsl⟩) hS (fun H locs hP hS hm => ?_)
  have hM_w := hm
  refine lv_aload_n F.1 F.2.1 dL_law_1367 rfl (lv_at hl 2 rfl) ?_
  refine lv_aload_n F.1 F.2.1 dL_law_1368 rfl (lv_at hl 0 rfl) ?_
  refine lv_iload_n F.1 F.2.1 dL_law_1369 rfl (lv_at hl 3 rfl) ?_
  refine lv_iconst (v := 1) F.1 F.2.1 dL_law_1370 ic_1 ?_
  refine lv_iadd F.1 F.2.1 dL_law_1371 ?_
  refine y_scr F hX hbl hbA hS (hA 1 (by decide)) dL_law_1372 ?_
  obtain ⟨v_1373, hc_1373, h⟩ := bo_s h
  refine x_goes (x_runV (As := [.int (A 1)]) (rest := [.int v_1364]) F hP hS (c_X12_pull l D cT lo w_1364 ad0 (A 1) v_1373 hc_1373) cw_X12_pull lk_L_123 vi_X12_pull k_63 (n2 (hP.al 63 rfl)) rfl ⟨rfl, rfl, Nat.le_of_ble_eq_true rfl, Nat.le_of_ble_eq_true rfl⟩ hl.1 rfl (Nat.le_of_ble_eq_true rfl) dL_law_1373 ⟨Nat.le_trans (by omega) hce, Nat.le_trans (by omega) hsl⟩) hS (fun H locs hP hS _ => ?_)
  refine lv_icmp_eq (tgt := 2228) F.1 F.2.1 dL_law_1376 (by decide) (fun hc => ?_) (fun hc => ?_)
  · have h := if_t _ hc h
    cases h
    refine W.widen (k := cells + 13) (n := slots + 89) (by omega) (by omega) ?_
    exact kk _ _ _ _ hP hS hl
  · have h := if_f _ hc h
    cases h
set_option maxRecDepth 100000 in
set_option maxHeartbeats 4000000 in
theorem lc_25 (F : Fx p s m #[Value.ref b] c cL_law RL 4 D cT lo) (hX : va_X b L xs s s.heap) (hbl : b < s.heap.size) (hbA : ¬ lo ≤ b) {A : Nat → Int32} {i : Int32} (hA : lA L xs i A) {w w9 : Wd} {ad0 : Nat → Nat} (hP : wP D cT lo NB w ad0 H) (hS : va_S (fun q => lo ≤ q) s.heap H locs) (hl : lv_has ls 4 [(0, .ref b), (1, .ref (ad0 1)), (2, .ref (ad0 63)), (3, .int i)]) (hce : cells + 13 ≤ 600000) (hsl : slots + 89 ≤ 7302250) (h : s_25 A w = some w9)
    (kk : ∀ (ad : Nat → Nat) (H : Heap) (locs : List Loc) (ls : Array Slot), wP D cT lo NB w9 ad H → va_S (fun q => lo ≤ q) s.heap H locs → lv_has ls 4 [(0, .ref b), (1, .ref (ad 1)), (2, .ref (ad 63)), (3, .int i)] → W p l e room_1 s m #[Value.ref b] below meth c H locs (cells + 13) (slots + 89) Q (F0 m 2228 ls [])) : W p l e room_1 s m #[Value.ref b] below meth c H locs cells slots Q (F0 m 1381 ls []) := by
  unfold s_25 at h
  have hx := F.1
  have hb := F.2.1
  have hM_w : mono w w := mono.refl
  have hXA : ∀ k, wA w k ≠ 0 → ad0 k = ad0 k := fun _ _ => rfl
  refine lv_aload_n F.1 F.2.1 dL_law_1381 rfl (lv_at hl 1 rfl) ?_
  refine lv_aload_n F.1 F.2.1 dL_law_1382 rfl (lv_at hl 0 rfl) ?_
  refine lv_iload_n F.1 F.2.1 dL_law_1383 rfl (lv_at hl 3 rfl) ?_
  refine lv_iconst (v := 1) F.1 F.2.1 dL_law_1384 ic_1 ?_
  refine lv_iadd F.1 F.2.1 dL_law_1385 ?_
  refine y_scr F hX hbl hbA hS (hA 1 (by decide)) dL_law_1386 ?_
  obtain ⟨v_1387, hc_1387, h⟩ := bo_s h
  refine x_goes (x_runV (As := [.int (A 1)]) (rest := []) F hP hS (c_X11_need l D cT lo w ad0 (A 1) v_1387 hc_1387) cw_X11_need lk_L_124 vi_X11_need k_1 (n2 (hP.al 1 rfl)) rfl ⟨rfl, rfl, Nat.le_of_ble_eq_true rfl, Nat.le_of_ble_eq_true rfl⟩ hl.1 rfl (Nat.le_of_ble_eq_true rfl) dL_law_1387 ⟨Nat.le_trans (by omega) hce, Nat.le_trans (by omega) hsl⟩) hS (fun H locs hP hS _ => ?_)
  refine lv_aload_n F.1 F.2.1 dL_law_1390 rfl (lv_at hl 2 rfl) ?_
  refine lv_aload_n F.1 F.2.1 dL_law_1391 rfl (lv_at hl 0 rfl) ?_
  refine lv_iload_n F.1 F.2.1 dL_law_1392 rfl (lv_at hl 3 rfl) ?_
  refine lv_iconst (v := 1) F.1 F.2.1 dL_law_1393 ic_1 ?_
  refine lv_iadd F.1 F.2.1 dL_law_1394 ?_
  refine y_scr F hX hbl hbA hS (hA 1 (by decide)) dL_law_1395 ?_
  obtain ⟨v_1396, hc_1396, h⟩ := bo_s h
  refine x_goes (x_runV (As := [.int (A 1)]) (rest := [.int v_1387]) F hP hS (c_X12_need l D cT lo w ad0 (A 1) v_1396 hc_1396) cw_X12_need lk_L_127 vi_X12_need k_63 (n2 (hP.al 63 rfl)) rfl ⟨rfl, rfl, Nat.le_of_ble_eq_true rfl, Nat.le_of_ble_eq_true rfl⟩ hl.1 rfl (Nat.le_of_ble_eq_true rfl) dL_law_1396 ⟨Nat.le_trans (by omega) hce, Nat.le_trans (by omega) hsl⟩) hS (fun H locs hP hS _ => ?_)
  refine lv_icmp_eq (tgt := 2228) F.1 F.2.1 dL_law_1399 (by decide) (fun hc => ?_) (fun hc => ?_)
  · have h := if_t _ hc h
    cases h
    refine W.widen (k := cells + 13) (n := slots + 89) (by omega) (by omega) ?_
    exact kk _ _ _ _ hP hS hl
  · have h := if_f _ hc h
    cases h
set_option maxRecDepth 100000 in
set_option maxHeartbeats 4000000 in
theorem lc_26 (F : Fx p s m #[Value.ref b] c cL_law RL 4 D cT lo) (hX : va_X b L xs s s.heap) (hbl : b < s.heap.size) (hbA : ¬ lo ≤ b) {A : Nat → Int32} {i : Int32} (hA : lA L xs i A) {w w9 : Wd} {ad0 : Nat → Nat} (hP : wP D cT lo NB w ad0 H) (hS : va_S (fun q => lo ≤ q) s.heap H locs) (hl : lv_has ls 4 [(0, .ref b), (1, .ref (ad0 1)), (2, .ref (ad0 63)), (3, .int i)]) (hce : cells + 13 ≤ 600000) (hsl : slots + 89 ≤ 7302250) (h : s_26 A w = some w9)
    (kk : ∀ (ad : Nat → Nat) (H : Heap) (locs : List Loc) (ls : Array Slot), wP D cT lo NB w9 ad H → va_S (fun q => lo ≤ q) s.heap H locs → lv_has ls 4 [(0, .ref b), (1, .ref (ad 1)), (2, .ref (ad 63)), (3, .int i)] → W p l e room_1 s m #[Value.ref b] below meth c H locs (cells + 13) (slots + 89) Q (F0 m 2228 ls [])) : W p l e room_1 s m #[Value.ref b] below meth c H locs cells slots Q (F0 m 1404 ls []) := by
  unfold s_26 at h
  have hx := F.1
  have hb := F.2.1
  have hM_w : mono w w := mono.refl
  have hXA : ∀ k, wA w k ≠ 0 → ad0 k = ad0 k := fun _ _ => rfl
  refine lv_aload_n F.1 F.2.1 dL_law_1404 rfl (lv_at hl 1 rfl) ?_
  refine lv_aload_n F.1 F.2.1 dL_law_1405 rfl (lv_at hl 0 rfl) ?_
  refine lv_iload_n F.1 F.2.1 dL_law_1406 rfl (lv_at hl 3 rfl) ?_
  refine lv_iconst (v := 1) F.1 F.2.1 dL_law_1407 ic_1 ?_
  refine lv_iadd F.1 F.2.1 dL_law_1408 ?_
  refine y_scr F hX hbl hbA hS (hA 1 (by decide)) dL_law_1409 ?_
  obtain ⟨v_1410, w_1410, hc_1410, h⟩ := bi_s h
  refine x_goes (x_runV (As := [.int (A 1)]) (rest := []) F hP hS (c_X11_may l D cT lo w ad0 (A 1) v_1410 w_1410 hc_1410) cw_X11_may lk_L_128 vi_X11_may k_1 (n2 (hP.al 1 rfl)) rfl ⟨rfl, rfl, Nat.le_of_ble_eq_true rfl, Nat.le_of_ble_eq_true rfl⟩ hl.1 rfl (Nat.le_of_ble_eq_true rfl) dL_law_1410 ⟨Nat.le_trans (by omega) hce, Nat.le_trans (by omega) hsl⟩) hS (fun H locs hP hS hm => ?_)
  have hM_w := hm
  refine lv_aload_n F.1 F.2.1 dL_law_1413 rfl (lv_at hl 2 rfl) ?_
  refine lv_aload_n F.1 F.2.1 dL_law_1414 rfl (lv_at hl 0 rfl) ?_
  refine lv_iload_n F.1 F.2.1 dL_law_1415 rfl (lv_at hl 3 rfl) ?_
  refine lv_iconst (v := 1) F.1 F.2.1 dL_law_1416 ic_1 ?_
  refine lv_iadd F.1 F.2.1 dL_law_1417 ?_
  refine y_scr F hX hbl hbA hS (hA 1 (by decide)) dL_law_1418 ?_
  obtain ⟨v_1419, hc_1419, h⟩ := bo_s h
  refine x_goes (x_runV (As := [.int (A 1)]) (rest := [.int v_1410]) F hP hS (c_X12_may l D cT lo w_1410 ad0 (A 1) v_1419 hc_1419) cw_X12_may lk_L_131 vi_X12_may k_63 (n2 (hP.al 63 rfl)) rfl ⟨rfl, rfl, Nat.le_of_ble_eq_true rfl, Nat.le_of_ble_eq_true rfl⟩ hl.1 rfl (Nat.le_of_ble_eq_true rfl) dL_law_1419 ⟨Nat.le_trans (by omega) hce, Nat.le_trans (by omega) hsl⟩) hS (fun H locs hP hS _ => ?_)
  refine lv_icmp_eq (tgt := 2228) F.1 F.2.1 dL_law_1422 (by decide) (fun hc => ?_) (fun hc => ?_)
  · have h := if_t _ hc h
    cases h
    refine W.widen (k := cells + 13) (n := slots + 89) (by omega) (by omega) ?_
    exact kk _ _ _ _ hP hS hl
  · have h := if_f _ hc h
    cases h
set_option maxRecDepth 100000 in
set_option maxHeartbeats 4000000 in
theorem lc_27 (F : Fx p s m #[Value.ref b] c cL_law RL 4 D cT lo) (hX : va_X b L xs s s.heap) (hbl : b < s.heap.size) (hbA : ¬ lo ≤ b) {A : Nat → Int32} {i : Int32} (hA : lA L xs i A) {w w9 : Wd} {ad0 : Nat → Nat} (hP : wP D cT lo NB w ad0 H) (hS : va_S (fun q => lo ≤ q) s.heap H locs) (hl : lv_has ls 4 [(0, .ref b), (1, .ref (ad0 1)), (2, .ref (ad0 63)), (3, .int i)]) (hce : cells + 13 ≤ 600000) (hsl : slots + 89 ≤ 7302250) (h : s_27 A w = some w9)
    (kk : ∀ (ad : Nat → Nat) (H : Heap) (locs : List Loc) (ls : Array Slot), wP D cT lo NB w9 ad H → va_S (fun q => lo ≤ q) s.heap H locs → lv_has ls 4 [(0, .ref b), (1, .ref (ad 1)), (2, .ref (ad 63)), (3, .int i)] → W p l e room_1 s m #[Value.ref b] below meth c H locs (cells + 13) (slots + 89) Q (F0 m 2228 ls [])) : W p l e room_1 s m #[Value.ref b] below meth c H locs cells slots Q (F0 m 1427 ls []) := by
  unfold s_27 at h
  have hx := F.1
  have hb := F.2.1
  have hM_w : mono w w := mono.refl
  have hXA : ∀ k, wA w k ≠ 0 → ad0 k = ad0 k := fun _ _ => rfl
  refine lv_aload_n F.1 F.2.1 dL_law_1427 rfl (lv_at hl 1 rfl) ?_
  refine lv_aload_n F.1 F.2.1 dL_law_1428 rfl (lv_at hl 0 rfl) ?_
  refine lv_iload_n F.1 F.2.1 dL_law_1429 rfl (lv_at hl 3 rfl) ?_
  refine lv_iconst (v := 1) F.1 F.2.1 dL_law_1430 ic_1 ?_
  refine lv_iadd F.1 F.2.1 dL_law_1431 ?_
  refine y_scr F hX hbl hbA hS (hA 1 (by decide)) dL_law_1432 ?_
  obtain ⟨v_1433, w_1433, hc_1433, h⟩ := bi_s h
  refine x_goes (x_runV (As := [.int (A 1)]) (rest := []) F hP hS (c_X11_woods l D cT lo w ad0 (A 1) v_1433 w_1433 hc_1433) cw_X11_woods lk_L_132 vi_X11_woods k_1 (n2 (hP.al 1 rfl)) rfl ⟨rfl, rfl, Nat.le_of_ble_eq_true rfl, Nat.le_of_ble_eq_true rfl⟩ hl.1 rfl (Nat.le_of_ble_eq_true rfl) dL_law_1433 ⟨Nat.le_trans (by omega) hce, Nat.le_trans (by omega) hsl⟩) hS (fun H locs hP hS hm => ?_)
  have hM_w := hm
  refine lv_aload_n F.1 F.2.1 dL_law_1436 rfl (lv_at hl 2 rfl) ?_
  refine lv_aload_n F.1 F.2.1 dL_law_1437 rfl (lv_at hl 0 rfl) ?_
  refine lv_iload_n F.1 F.2.1 dL_law_1438 rfl (lv_at hl 3 rfl) ?_
  refine lv_iconst (v := 1) F.1 F.2.1 dL_law_1439 ic_1 ?_
  refine lv_iadd F.1 F.2.1 dL_law_1440 ?_
  refine y_scr F hX hbl hbA hS (hA 1 (by decide)) dL_law_1441 ?_
  obtain ⟨v_1442, hc_1442, h⟩ := bo_s h
  refine x_goes (x_runV (As := [.int (A 1)]) (rest := [.int v_1433]) F hP hS (c_X12_woods l D cT lo w_1433 ad0 (A 1) v_1442 hc_1442) cw_X12_woods lk_L_135 vi_X12_woods k_63 (n2 (hP.al 63 rfl)) rfl ⟨rfl, rfl, Nat.le_of_ble_eq_true rfl, Nat.le_of_ble_eq_true rfl⟩ hl.1 rfl (Nat.le_of_ble_eq_true rfl) dL_law_1442 ⟨Nat.le_trans (by omega) hce, Nat.le_trans (by omega) hsl⟩) hS (fun H locs hP hS _ => ?_)
  refine lv_icmp_eq (tgt := 2228) F.1 F.2.1 dL_law_1445 (by decide) (fun hc => ?_) (fun hc => ?_)
  · have h := if_t _ hc h
    cases h
    refine W.widen (k := cells + 13) (n := slots + 89) (by omega) (by omega) ?_
    exact kk _ _ _ _ hP hS hl
  · have h := if_f _ hc h
    cases h
set_option maxRecDepth 100000 in
set_option maxHeartbeats 4000000 in
theorem lc_28 (F : Fx p s m #[Value.ref b] c cL_law RL 4 D cT lo) (hX : va_X b L xs s s.heap) (hbl : b < s.heap.size) (hbA : ¬ lo ≤ b) {A : Nat → Int32} {i : Int32} (hA : lA L xs i A) {w w9 : Wd} {ad0 : Nat → Nat} (hP : wP D cT lo NB w ad0 H) (hS : va_S (fun q => lo ≤ q) s.heap H locs) (hl : lv_has ls 4 [(0, .ref b), (1, .ref (ad0 1)), (2, .ref (ad0 63)), (3, .int i)]) (hce : cells + 13 ≤ 600000) (hsl : slots + 89 ≤ 7302250) (h : s_28 A w = some w9)
    (kk : ∀ (ad : Nat → Nat) (H : Heap) (locs : List Loc) (ls : Array Slot), wP D cT lo NB w9 ad H → va_S (fun q => lo ≤ q) s.heap H locs → lv_has ls 4 [(0, .ref b), (1, .ref (ad 1)), (2, .ref (ad 63)), (3, .int i)] → W p l e room_1 s m #[Value.ref b] below meth c H locs (cells + 13) (slots + 89) Q (F0 m 2228 ls [])) : W p l e room_1 s m #[Value.ref b] below meth c H locs cells slots Q (F0 m 1450 ls []) := by
  unfold s_28 at h
  have hx := F.1
  have hb := F.2.1
  have hM_w : mono w w := mono.refl
  have hXA : ∀ k, wA w k ≠ 0 → ad0 k = ad0 k := fun _ _ => rfl
  refine lv_aload_n F.1 F.2.1 dL_law_1450 rfl (lv_at hl 1 rfl) ?_
  refine lv_aload_n F.1 F.2.1 dL_law_1451 rfl (lv_at hl 0 rfl) ?_
  refine lv_iload_n F.1 F.2.1 dL_law_1452 rfl (lv_at hl 3 rfl) ?_
  refine lv_iconst (v := 1) F.1 F.2.1 dL_law_1453 ic_1 ?_
  refine lv_iadd F.1 F.2.1 dL_law_1454 ?_
  refine y_scr F hX hbl hbA hS (hA 1 (by decide)) dL_law_1455 ?_
  obtain ⟨v_1456, w_1456, hc_1456, h⟩ := bi_s h
  refine x_goes (x_runV (As := [.int (A 1)]) (rest := []) F hP hS (c_X11_team l D cT lo w ad0 (A 1) v_1456 w_1456 hc_1456) cw_X11_team lk_L_136 vi_X11_team k_1 (n2 (hP.al 1 rfl)) rfl ⟨rfl, rfl, Nat.le_of_ble_eq_true rfl, Nat.le_of_ble_eq_true rfl⟩ hl.1 rfl (Nat.le_of_ble_eq_true rfl) dL_law_1456 ⟨Nat.le_trans (by omega) hce, Nat.le_trans (by omega) hsl⟩) hS (fun H locs hP hS hm => ?_)
  have hM_w := hm
  refine lv_aload_n F.1 F.2.1 dL_law_1459 rfl (lv_at hl 2 rfl) ?_
  refine lv_aload_n F.1 F.2.1 dL_law_1460 rfl (lv_at hl 0 rfl) ?_
  refine lv_iload_n F.1 F.2.1 dL_law_1461 rfl (lv_at hl 3 rfl) ?_
  refine lv_iconst (v := 1) F.1 F.2.1 dL_law_1462 ic_1 ?_
  refine lv_iadd F.1 F.2.1 dL_law_1463 ?_
  refine y_scr F hX hbl hbA hS (hA 1 (by decide)) dL_law_1464 ?_
  obtain ⟨v_1465, w_1465, hc_1465, h⟩ := bi_s h
  refine x_goes (x_runV (As := [.int (A 1)]) (rest := [.int v_1456]) F hP hS (c_X12_team l D cT lo w_1456 ad0 (A 1) v_1465 w_1465 hc_1465) cw_X12_team lk_L_139 vi_X12_team k_63 (n2 (hP.al 63 rfl)) rfl ⟨rfl, rfl, Nat.le_of_ble_eq_true rfl, Nat.le_of_ble_eq_true rfl⟩ hl.1 rfl (Nat.le_of_ble_eq_true rfl) dL_law_1465 ⟨Nat.le_trans (by omega) hce, Nat.le_trans (by omega) hsl⟩) hS (fun H locs hP hS hm => ?_)
  have hM_w := hM_w.trans hm
  refine lv_icmp_eq (tgt := 2228) F.1 F.2.1 dL_law_1468 (by decide) (fun hc => ?_) (fun hc => ?_)
  · have h := if_t _ hc h
    cases h
    refine W.widen (k := cells + 13) (n := slots + 89) (by omega) (by omega) ?_
    exact kk _ _ _ _ hP hS hl
  · have h := if_f _ hc h
    cases h
set_option maxRecDepth 100000 in
set_option maxHeartbeats 4000000 in
theorem lc_29 (F : Fx p s m #[Value.ref b] c cL_law RL 4 D cT lo) (hX : va_X b L xs s s.heap) (hbl : b < s.heap.size) (hbA : ¬ lo ≤ b) {A : Nat → Int32} {i : Int32} (hA : lA L xs i A) {w w9 : Wd} {ad0 : Nat → Nat} (hP : wP D cT lo NB w ad0 H) (hS : va_S (fun q => lo ≤ q) s.heap H locs) (hl : lv_has ls 4 [(0, .ref b), (1, .ref (ad0 1)), (2, .ref (ad0 63)), (3, .int i)]) (hce : cells + 13 ≤ 600000) (hsl : slots + 89 ≤ 7302250) (h : s_29 A w = some w9)
    (kk : ∀ (ad : Nat → Nat) (H : Heap) (locs : List Loc) (ls : Array Slot), wP D cT lo NB w9 ad H → va_S (fun q => lo ≤ q) s.heap H locs → lv_has ls 4 [(0, .ref b), (1, .ref (ad 1)), (2, .ref (ad 63)), (3, .int i)] → W p l e room_1 s m #[Value.ref b] below meth c H locs (cells + 13) (slots + 89) Q (F0 m 2228 ls [])) : W p l e room_1 s m #[Value.ref b] below meth c H locs cells slots Q (F0 m 1473 ls []) := by
  unfold s_29 at h
  have hx := F.1
  have hb := F.2.1
  have hM_w : mono w w := mono.refl
  have hXA : ∀ k, wA w k ≠ 0 → ad0 k = ad0 k := fun _ _ => rfl
  refine lv_aload_n F.1 F.2.1 dL_law_1473 rfl (lv_at hl 1 rfl) ?_
  refine lv_aload_n F.1 F.2.1 dL_law_1474 rfl (lv_at hl 0 rfl) ?_
  refine lv_iload_n F.1 F.2.1 dL_law_1475 rfl (lv_at hl 3 rfl) ?_
  refine lv_iconst (v := 1) F.1 F.2.1 dL_law_1476 ic_1 ?_
  refine lv_iadd F.1 F.2.1 dL_law_1477 ?_
  refine y_scr F hX hbl hbA hS (hA 1 (by decide)) dL_law_1478 ?_
  obtain ⟨v_1479, w_1479, hc_1479, h⟩ := bi_s h
  refine x_goes (x_runV (As := [.int (A 1)]) (rest := []) F hP hS (c_X11_stage l D cT lo w ad0 (A 1) v_1479 w_1479 hc_1479) cw_X11_stage lk_L_140 vi_X11_stage k_1 (n2 (hP.al 1 rfl)) rfl ⟨rfl, rfl, Nat.le_of_ble_eq_true rfl, Nat.le_of_ble_eq_true rfl⟩ hl.1 rfl (Nat.le_of_ble_eq_true rfl) dL_law_1479 ⟨Nat.le_trans (by omega) hce, Nat.le_trans (by omega) hsl⟩) hS (fun H locs hP hS hm => ?_)
  have hM_w := hm
  refine lv_aload_n F.1 F.2.1 dL_law_1482 rfl (lv_at hl 2 rfl) ?_
  refine lv_aload_n F.1 F.2.1 dL_law_1483 rfl (lv_at hl 0 rfl) ?_
  refine lv_iload_n F.1 F.2.1 dL_law_1484 rfl (lv_at hl 3 rfl) ?_
  refine lv_iconst (v := 1) F.1 F.2.1 dL_law_1485 ic_1 ?_
  refine lv_iadd F.1 F.2.1 dL_law_1486 ?_
  refine y_scr F hX hbl hbA hS (hA 1 (by decide)) dL_law_1487 ?_
  obtain ⟨v_1488, w_1488, hc_1488, h⟩ := bi_s h
  refine x_goes (x_runV (As := [.int (A 1)]) (rest := [.int v_1479]) F hP hS (c_X12_stage l D cT lo w_1479 ad0 (A 1) v_1488 w_1488 hc_1488) cw_X12_stage lk_L_143 vi_X12_stage k_63 (n2 (hP.al 63 rfl)) rfl ⟨rfl, rfl, Nat.le_of_ble_eq_true rfl, Nat.le_of_ble_eq_true rfl⟩ hl.1 rfl (Nat.le_of_ble_eq_true rfl) dL_law_1488 ⟨Nat.le_trans (by omega) hce, Nat.le_trans (by omega) hsl⟩) hS (fun H locs hP hS hm => ?_)
  have hM_w := hM_w.trans hm
  refine lv_icmp_eq (tgt := 2228) F.1 F.2.1 dL_law_1491 (by decide) (fun hc => ?_) (fun hc => ?_)
  · have h := if_t _ hc h
    cases h
    refine W.widen (k := cells + 13) (n := slots + 89) (by omega) (by omega) ?_
    exact kk _ _ _ _ hP hS hl
  · have h := if_f _ hc h
    cases h
set_option maxRecDepth 100000 in
set_option maxHeartbeats 4000000 in
theorem lc_30 (F : Fx p s m #[Value.ref b] c cL_law RL 4 D cT lo) (hX : va_X b L xs s s.heap) (hbl : b < s.heap.size) (hbA : ¬ lo ≤ b) {A : Nat → Int32} {i : Int32} (hA : lA L xs i A) {w w9 : Wd} {ad0 : Nat → Nat} (hP : wP D cT lo NB w ad0 H) (hS : va_S (fun q => lo ≤ q) s.heap H locs) (hl : lv_has ls 4 [(0, .ref b), (1, .ref (ad0 1)), (2, .ref (ad0 63)), (3, .int i)]) (hce : cells + 13 ≤ 600000) (hsl : slots + 89 ≤ 7302250) (h : s_30 A w = some w9)
    (kk : ∀ (ad : Nat → Nat) (H : Heap) (locs : List Loc) (ls : Array Slot), wP D cT lo NB w9 ad H → va_S (fun q => lo ≤ q) s.heap H locs → lv_has ls 4 [(0, .ref b), (1, .ref (ad 1)), (2, .ref (ad 63)), (3, .int i)] → W p l e room_1 s m #[Value.ref b] below meth c H locs (cells + 13) (slots + 89) Q (F0 m 2228 ls [])) : W p l e room_1 s m #[Value.ref b] below meth c H locs cells slots Q (F0 m 1496 ls []) := by
  unfold s_30 at h
  have hx := F.1
  have hb := F.2.1
  have hM_w : mono w w := mono.refl
  have hXA : ∀ k, wA w k ≠ 0 → ad0 k = ad0 k := fun _ _ => rfl
  refine lv_aload_n F.1 F.2.1 dL_law_1496 rfl (lv_at hl 1 rfl) ?_
  refine lv_aload_n F.1 F.2.1 dL_law_1497 rfl (lv_at hl 0 rfl) ?_
  refine lv_iload_n F.1 F.2.1 dL_law_1498 rfl (lv_at hl 3 rfl) ?_
  refine lv_iconst (v := 1) F.1 F.2.1 dL_law_1499 ic_1 ?_
  refine lv_iadd F.1 F.2.1 dL_law_1500 ?_
  refine y_scr F hX hbl hbA hS (hA 1 (by decide)) dL_law_1501 ?_
  obtain ⟨v_1502, w_1502, hc_1502, h⟩ := bi_s h
  refine x_goes (x_runV (As := [.int (A 1)]) (rest := []) F hP hS (c_X11_run l D cT lo w ad0 (A 1) v_1502 w_1502 hc_1502) cw_X11_run lk_L_144 vi_X11_run k_1 (n2 (hP.al 1 rfl)) rfl ⟨rfl, rfl, Nat.le_of_ble_eq_true rfl, Nat.le_of_ble_eq_true rfl⟩ hl.1 rfl (Nat.le_of_ble_eq_true rfl) dL_law_1502 ⟨Nat.le_trans (by omega) hce, Nat.le_trans (by omega) hsl⟩) hS (fun H locs hP hS hm => ?_)
  have hM_w := hm
  refine lv_aload_n F.1 F.2.1 dL_law_1505 rfl (lv_at hl 2 rfl) ?_
  refine lv_aload_n F.1 F.2.1 dL_law_1506 rfl (lv_at hl 0 rfl) ?_
  refine lv_iload_n F.1 F.2.1 dL_law_1507 rfl (lv_at hl 3 rfl) ?_
  refine lv_iconst (v := 1) F.1 F.2.1 dL_law_1508 ic_1 ?_
  refine lv_iadd F.1 F.2.1 dL_law_1509 ?_
  refine y_scr F hX hbl hbA hS (hA 1 (by decide)) dL_law_1510 ?_
  obtain ⟨v_1511, w_1511, hc_1511, h⟩ := bi_s h
  refine x_goes (x_runV (As := [.int (A 1)]) (rest := [.int v_1502]) F hP hS (c_X12_run l D cT lo w_1502 ad0 (A 1) v_1511 w_1511 hc_1511) cw_X12_run lk_L_147 vi_X12_run k_63 (n2 (hP.al 63 rfl)) rfl ⟨rfl, rfl, Nat.le_of_ble_eq_true rfl, Nat.le_of_ble_eq_true rfl⟩ hl.1 rfl (Nat.le_of_ble_eq_true rfl) dL_law_1511 ⟨Nat.le_trans (by omega) hce, Nat.le_trans (by omega) hsl⟩) hS (fun H locs hP hS hm => ?_)
  have hM_w := hM_w.trans hm
  refine lv_icmp_eq (tgt := 2228) F.1 F.2.1 dL_law_1514 (by decide) (fun hc => ?_) (fun hc => ?_)
  · have h := if_t _ hc h
    cases h
    refine W.widen (k := cells + 13) (n := slots + 89) (by omega) (by omega) ?_
    exact kk _ _ _ _ hP hS hl
  · have h := if_f _ hc h
    cases h
set_option maxRecDepth 100000 in
set_option maxHeartbeats 4000000 in
theorem lc_31 (F : Fx p s m #[Value.ref b] c cL_law RL 4 D cT lo) (hX : va_X b L xs s s.heap) (hbl : b < s.heap.size) (hbA : ¬ lo ≤ b) {A : Nat → Int32} {i : Int32} (hA : lA L xs i A) {w w9 : Wd} {ad0 : Nat → Nat} (hP : wP D cT lo NB w ad0 H) (hS : va_S (fun q => lo ≤ q) s.heap H locs) (hl : lv_has ls 4 [(0, .ref b), (1, .ref (ad0 1)), (2, .ref (ad0 63)), (3, .int i)]) (hce : cells + 13 ≤ 600000) (hsl : slots + 89 ≤ 7302250) (h : s_31 A w = some w9)
    (kk : ∀ (ad : Nat → Nat) (H : Heap) (locs : List Loc) (ls : Array Slot), wP D cT lo NB w9 ad H → va_S (fun q => lo ≤ q) s.heap H locs → lv_has ls 4 [(0, .ref b), (1, .ref (ad 1)), (2, .ref (ad 63)), (3, .int i)] → W p l e room_1 s m #[Value.ref b] below meth c H locs (cells + 13) (slots + 89) Q (F0 m 2228 ls [])) : W p l e room_1 s m #[Value.ref b] below meth c H locs cells slots Q (F0 m 1519 ls []) := by
  unfold s_31 at h
  have hx := F.1
  have hb := F.2.1
  have hM_w : mono w w := mono.refl
  have hXA : ∀ k, wA w k ≠ 0 → ad0 k = ad0 k := fun _ _ => rfl
  refine lv_aload_n F.1 F.2.1 dL_law_1519 rfl (lv_at hl 1 rfl) ?_
  obtain ⟨v_1520, w_1520, hc_1520, h⟩ := bi_s h
  refine x_goes (x_runV (As := []) (rest := []) F hP hS (c_X11_roster l D cT lo w ad0  v_1520 w_1520 hc_1520) cw_X11_roster lk_L_148 vi_X11_roster k_1 (n2 (hP.al 1 rfl)) rfl ⟨rfl, rfl, Nat.le_of_ble_eq_true rfl, Nat.le_of_ble_eq_true rfl⟩ hl.1 rfl (Nat.le_of_ble_eq_true rfl) dL_law_1520 ⟨Nat.le_trans (by omega) hce, Nat.le_trans (by omega) hsl⟩) hS (fun H locs hP hS hm => ?_)
  have hM_w := hm
  refine lv_aload_n F.1 F.2.1 dL_law_1523 rfl (lv_at hl 2 rfl) ?_
  obtain ⟨v_1524, w_1524, hc_1524, h⟩ := bi_s h
  refine x_goes (x_runV (As := []) (rest := [.int v_1520]) F hP hS (c_X12_roster l D cT lo w_1520 ad0  v_1524 w_1524 hc_1524) cw_X12_roster lk_L_151 vi_X12_roster k_63 (n2 (hP.al 63 rfl)) rfl ⟨rfl, rfl, Nat.le_of_ble_eq_true rfl, Nat.le_of_ble_eq_true rfl⟩ hl.1 rfl (Nat.le_of_ble_eq_true rfl) dL_law_1524 ⟨Nat.le_trans (by omega) hce, Nat.le_trans (by omega) hsl⟩) hS (fun H locs hP hS hm => ?_)
  have hM_w := hM_w.trans hm
  refine lv_icmp_eq (tgt := 2228) F.1 F.2.1 dL_law_1527 (by decide) (fun hc => ?_) (fun hc => ?_)
  · have h := if_t _ hc h
    cases h
    refine W.widen (k := cells + 13) (n := slots + 89) (by omega) (by omega) ?_
    exact kk _ _ _ _ hP hS hl
  · have h := if_f _ hc h
    cases h
set_option maxRecDepth 100000 in
set_option maxHeartbeats 4000000 in
theorem lc_32 (F : Fx p s m #[Value.ref b] c cL_law RL 4 D cT lo) (hX : va_X b L xs s s.heap) (hbl : b < s.heap.size) (hbA : ¬ lo ≤ b) {A : Nat → Int32} {i : Int32} (hA : lA L xs i A) {w w9 : Wd} {ad0 : Nat → Nat} (hP : wP D cT lo NB w ad0 H) (hS : va_S (fun q => lo ≤ q) s.heap H locs) (hl : lv_has ls 4 [(0, .ref b), (1, .ref (ad0 1)), (2, .ref (ad0 63)), (3, .int i)]) (hce : cells + 13 ≤ 600000) (hsl : slots + 89 ≤ 7302250) (h : s_32 A w = some w9)
    (kk : ∀ (ad : Nat → Nat) (H : Heap) (locs : List Loc) (ls : Array Slot), wP D cT lo NB w9 ad H → va_S (fun q => lo ≤ q) s.heap H locs → lv_has ls 4 [(0, .ref b), (1, .ref (ad 1)), (2, .ref (ad 63)), (3, .int i)] → W p l e room_1 s m #[Value.ref b] below meth c H locs (cells + 13) (slots + 89) Q (F0 m 2228 ls [])) : W p l e room_1 s m #[Value.ref b] below meth c H locs cells slots Q (F0 m 1532 ls []) := by
  unfold s_32 at h
  have hx := F.1
  have hb := F.2.1
  have hM_w : mono w w := mono.refl
  have hXA : ∀ k, wA w k ≠ 0 → ad0 k = ad0 k := fun _ _ => rfl
  refine lv_aload_n F.1 F.2.1 dL_law_1532 rfl (lv_at hl 1 rfl) ?_
  refine lv_aload_n F.1 F.2.1 dL_law_1533 rfl (lv_at hl 0 rfl) ?_
  refine lv_iload_n F.1 F.2.1 dL_law_1534 rfl (lv_at hl 3 rfl) ?_
  refine lv_iconst (v := 1) F.1 F.2.1 dL_law_1535 ic_1 ?_
  refine lv_iadd F.1 F.2.1 dL_law_1536 ?_
  refine y_scr F hX hbl hbA hS (hA 1 (by decide)) dL_law_1537 ?_
  obtain ⟨v_1538, w_1538, hc_1538, h⟩ := bi_s h
  refine x_goes (x_runV (As := [.int (A 1)]) (rest := []) F hP hS (c_X11_pulls l D cT lo w ad0 (A 1) v_1538 w_1538 hc_1538) cw_X11_pulls lk_L_152 vi_X11_pulls k_1 (n2 (hP.al 1 rfl)) rfl ⟨rfl, rfl, Nat.le_of_ble_eq_true rfl, Nat.le_of_ble_eq_true rfl⟩ hl.1 rfl (Nat.le_of_ble_eq_true rfl) dL_law_1538 ⟨Nat.le_trans (by omega) hce, Nat.le_trans (by omega) hsl⟩) hS (fun H locs hP hS hm => ?_)
  have hM_w := hm
  refine lv_aload_n F.1 F.2.1 dL_law_1541 rfl (lv_at hl 2 rfl) ?_
  refine lv_aload_n F.1 F.2.1 dL_law_1542 rfl (lv_at hl 0 rfl) ?_
  refine lv_iload_n F.1 F.2.1 dL_law_1543 rfl (lv_at hl 3 rfl) ?_
  refine lv_iconst (v := 1) F.1 F.2.1 dL_law_1544 ic_1 ?_
  refine lv_iadd F.1 F.2.1 dL_law_1545 ?_
  refine y_scr F hX hbl hbA hS (hA 1 (by decide)) dL_law_1546 ?_
  obtain ⟨v_1547, w_1547, hc_1547, h⟩ := bi_s h
  refine x_goes (x_runV (As := [.int (A 1)]) (rest := [.int v_1538]) F hP hS (c_X12_pulls l D cT lo w_1538 ad0 (A 1) v_1547 w_1547 hc_1547) cw_X12_pulls lk_L_155 vi_X12_pulls k_63 (n2 (hP.al 63 rfl)) rfl ⟨rfl, rfl, Nat.le_of_ble_eq_true rfl, Nat.le_of_ble_eq_true rfl⟩ hl.1 rfl (Nat.le_of_ble_eq_true rfl) dL_law_1547 ⟨Nat.le_trans (by omega) hce, Nat.le_trans (by omega) hsl⟩) hS (fun H locs hP hS hm => ?_)
  have hM_w := hM_w.trans hm
  refine lv_icmp_eq (tgt := 2228) F.1 F.2.1 dL_law_1550 (by decide) (fun hc => ?_) (fun hc => ?_)
  · have h := if_t _ hc h
    cases h
    refine W.widen (k := cells + 13) (n := slots + 89) (by omega) (by omega) ?_
    exact kk _ _ _ _ hP hS hl
  · have h := if_f _ hc h
    cases h
set_option maxRecDepth 100000 in
set_option maxHeartbeats 4000000 in
theorem lc_33 (F : Fx p s m #[Value.ref b] c cL_law RL 4 D cT lo) (hX : va_X b L xs s s.heap) (hbl : b < s.heap.size) (hbA : ¬ lo ≤ b) {A : Nat → Int32} {i : Int32} (hA : lA L xs i A) {w w9 : Wd} {ad0 : Nat → Nat} (hP : wP D cT lo NB w ad0 H) (hS : va_S (fun q => lo ≤ q) s.heap H locs) (hl : lv_has ls 4 [(0, .ref b), (1, .ref (ad0 1)), (2, .ref (ad0 63)), (3, .int i)]) (hce : cells + 13 ≤ 600000) (hsl : slots + 89 ≤ 7302250) (h : s_33 A w = some w9)
    (kk : ∀ (ad : Nat → Nat) (H : Heap) (locs : List Loc) (ls : Array Slot), wP D cT lo NB w9 ad H → va_S (fun q => lo ≤ q) s.heap H locs → lv_has ls 4 [(0, .ref b), (1, .ref (ad 1)), (2, .ref (ad 63)), (3, .int i)] → W p l e room_1 s m #[Value.ref b] below meth c H locs (cells + 13) (slots + 89) Q (F0 m 2228 ls [])) : W p l e room_1 s m #[Value.ref b] below meth c H locs cells slots Q (F0 m 1555 ls []) := by
  unfold s_33 at h
  have hx := F.1
  have hb := F.2.1
  have hM_w : mono w w := mono.refl
  have hXA : ∀ k, wA w k ≠ 0 → ad0 k = ad0 k := fun _ _ => rfl
  refine lv_aload_n F.1 F.2.1 dL_law_1555 rfl (lv_at hl 1 rfl) ?_
  refine lv_aload_n F.1 F.2.1 dL_law_1556 rfl (lv_at hl 0 rfl) ?_
  refine lv_iload_n F.1 F.2.1 dL_law_1557 rfl (lv_at hl 3 rfl) ?_
  refine lv_iconst (v := 1) F.1 F.2.1 dL_law_1558 ic_1 ?_
  refine lv_iadd F.1 F.2.1 dL_law_1559 ?_
  refine y_scr F hX hbl hbA hS (hA 1 (by decide)) dL_law_1560 ?_
  refine lv_aload_n F.1 F.2.1 dL_law_1561 rfl (lv_at hl 0 rfl) ?_
  refine lv_iload_n F.1 F.2.1 dL_law_1562 rfl (lv_at hl 3 rfl) ?_
  refine lv_iconst (v := 2) F.1 F.2.1 dL_law_1563 ic_2 ?_
  refine lv_iadd F.1 F.2.1 dL_law_1564 ?_
  refine y_scr F hX hbl hbA hS (hA 2 (by decide)) dL_law_1565 ?_
  refine lv_aload_n F.1 F.2.1 dL_law_1566 rfl (lv_at hl 0 rfl) ?_
  refine lv_iload_n F.1 F.2.1 dL_law_1567 rfl (lv_at hl 3 rfl) ?_
  refine lv_iconst (v := 3) F.1 F.2.1 dL_law_1568 ic_3 ?_
  refine lv_iadd F.1 F.2.1 dL_law_1569 ?_
  refine y_scr F hX hbl hbA hS (hA 3 (by decide)) dL_law_1570 ?_
  refine lv_nz F.1 F.2.1 dL_law_1571 dL_law_1574 dL_law_1575 dL_law_1578 ?_
  obtain ⟨v_1579, w_1579, hc_1579, h⟩ := bi_s h
  refine x_goes (x_runV (As := [.int (A 1), .int (A 2), .int (zb (A 3))]) (rest := []) F hP hS (c_X11_block l D cT lo w ad0 (A 1) (A 2) (zb (A 3)) v_1579 w_1579 hc_1579) cw_X11_block lk_L_156 vi_X11_block k_1 (n2 (hP.al 1 rfl)) rfl ⟨rfl, rfl, Nat.le_of_ble_eq_true rfl, Nat.le_of_ble_eq_true rfl⟩ hl.1 rfl (Nat.le_of_ble_eq_true rfl) dL_law_1579 ⟨Nat.le_trans (by omega) hce, Nat.le_trans (by omega) hsl⟩) hS (fun H locs hP hS hm => ?_)
  have hM_w := hm
  refine lv_aload_n F.1 F.2.1 dL_law_1582 rfl (lv_at hl 2 rfl) ?_
  refine lv_aload_n F.1 F.2.1 dL_law_1583 rfl (lv_at hl 0 rfl) ?_
  refine lv_iload_n F.1 F.2.1 dL_law_1584 rfl (lv_at hl 3 rfl) ?_
  refine lv_iconst (v := 1) F.1 F.2.1 dL_law_1585 ic_1 ?_
  refine lv_iadd F.1 F.2.1 dL_law_1586 ?_
  refine y_scr F hX hbl hbA hS (hA 1 (by decide)) dL_law_1587 ?_
  refine lv_aload_n F.1 F.2.1 dL_law_1588 rfl (lv_at hl 0 rfl) ?_
  refine lv_iload_n F.1 F.2.1 dL_law_1589 rfl (lv_at hl 3 rfl) ?_
  refine lv_iconst (v := 2) F.1 F.2.1 dL_law_1590 ic_2 ?_
  refine lv_iadd F.1 F.2.1 dL_law_1591 ?_
  refine y_scr F hX hbl hbA hS (hA 2 (by decide)) dL_law_1592 ?_
  refine lv_aload_n F.1 F.2.1 dL_law_1593 rfl (lv_at hl 0 rfl) ?_
  refine lv_iload_n F.1 F.2.1 dL_law_1594 rfl (lv_at hl 3 rfl) ?_
  refine lv_iconst (v := 3) F.1 F.2.1 dL_law_1595 ic_3 ?_
  refine lv_iadd F.1 F.2.1 dL_law_1596 ?_
  refine y_scr F hX hbl hbA hS (hA 3 (by decide)) dL_law_1597 ?_
  refine lv_nz F.1 F.2.1 dL_law_1598 dL_law_1601 dL_law_1602 dL_law_1605 ?_
  obtain ⟨v_1606, w_1606, hc_1606, h⟩ := bi_s h
  refine x_goes (x_runV (As := [.int (A 1), .int (A 2), .int (zb (A 3))]) (rest := [.int v_1579]) F hP hS (c_X12_block l D cT lo w_1579 ad0 (A 1) (A 2) (zb (A 3)) v_1606 w_1606 hc_1606) cw_X12_block lk_L_160 vi_X12_block k_63 (n2 (hP.al 63 rfl)) rfl ⟨rfl, rfl, Nat.le_of_ble_eq_true rfl, Nat.le_of_ble_eq_true rfl⟩ hl.1 rfl (Nat.le_of_ble_eq_true rfl) dL_law_1606 ⟨Nat.le_trans (by omega) hce, Nat.le_trans (by omega) hsl⟩) hS (fun H locs hP hS hm => ?_)
  have hM_w := hM_w.trans hm
  refine lv_icmp_eq (tgt := 2228) F.1 F.2.1 dL_law_1609 (by decide) (fun hc => ?_) (fun hc => ?_)
  · have h := if_t _ hc h
    cases h
    refine W.widen (k := cells + 13) (n := slots + 89) (by omega) (by omega) ?_
    exact kk _ _ _ _ hP hS hl
  · have h := if_f _ hc h
    cases h
set_option maxRecDepth 100000 in
set_option maxHeartbeats 4000000 in
theorem lc_34 (F : Fx p s m #[Value.ref b] c cL_law RL 4 D cT lo) (hX : va_X b L xs s s.heap) (hbl : b < s.heap.size) (hbA : ¬ lo ≤ b) {A : Nat → Int32} {i : Int32} (hA : lA L xs i A) {w w9 : Wd} {ad0 : Nat → Nat} (hP : wP D cT lo NB w ad0 H) (hS : va_S (fun q => lo ≤ q) s.heap H locs) (hl : lv_has ls 4 [(0, .ref b), (1, .ref (ad0 1)), (2, .ref (ad0 63)), (3, .int i)]) (hce : cells + 13 ≤ 600000) (hsl : slots + 89 ≤ 7302250) (h : s_34 A w = some w9)
    (kk : ∀ (ad : Nat → Nat) (H : Heap) (locs : List Loc) (ls : Array Slot), wP D cT lo NB w9 ad H → va_S (fun q => lo ≤ q) s.heap H locs → lv_has ls 4 [(0, .ref b), (1, .ref (ad 1)), (2, .ref (ad 63)), (3, .int i)] → W p l e room_1 s m #[Value.ref b] below meth c H locs (cells + 13) (slots + 89) Q (F0 m 2228 ls [])) : W p l e room_1 s m #[Value.ref b] below meth c H locs cells slots Q (F0 m 1614 ls []) := by
  unfold s_34 at h
  have hx := F.1
  have hb := F.2.1
  have hM_w : mono w w := mono.refl
  have hXA : ∀ k, wA w k ≠ 0 → ad0 k = ad0 k := fun _ _ => rfl
  refine lv_aload_n F.1 F.2.1 dL_law_1614 rfl (lv_at hl 1 rfl) ?_
  refine lv_aload_n F.1 F.2.1 dL_law_1615 rfl (lv_at hl 0 rfl) ?_
  refine lv_iload_n F.1 F.2.1 dL_law_1616 rfl (lv_at hl 3 rfl) ?_
  refine lv_iconst (v := 1) F.1 F.2.1 dL_law_1617 ic_1 ?_
  refine lv_iadd F.1 F.2.1 dL_law_1618 ?_
  refine y_scr F hX hbl hbA hS (hA 1 (by decide)) dL_law_1619 ?_
  refine lv_aload_n F.1 F.2.1 dL_law_1620 rfl (lv_at hl 0 rfl) ?_
  refine lv_iload_n F.1 F.2.1 dL_law_1621 rfl (lv_at hl 3 rfl) ?_
  refine lv_iconst (v := 2) F.1 F.2.1 dL_law_1622 ic_2 ?_
  refine lv_iadd F.1 F.2.1 dL_law_1623 ?_
  refine y_scr F hX hbl hbA hS (hA 2 (by decide)) dL_law_1624 ?_
  refine lv_aload_n F.1 F.2.1 dL_law_1625 rfl (lv_at hl 0 rfl) ?_
  refine lv_iload_n F.1 F.2.1 dL_law_1626 rfl (lv_at hl 3 rfl) ?_
  refine lv_iconst (v := 3) F.1 F.2.1 dL_law_1627 ic_3 ?_
  refine lv_iadd F.1 F.2.1 dL_law_1628 ?_
  refine y_scr F hX hbl hbA hS (hA 3 (by decide)) dL_law_1629 ?_
  obtain ⟨v_1630, w_1630, hc_1630, h⟩ := bi_s h
  refine x_goes (x_runV (As := [.int (A 1), .int (A 2), .int (A 3)]) (rest := []) F hP hS (c_X11_enter l D cT lo w ad0 (A 1) (A 2) (A 3) v_1630 w_1630 hc_1630) cw_X11_enter lk_L_161 vi_X11_enter k_1 (n2 (hP.al 1 rfl)) rfl ⟨rfl, rfl, Nat.le_of_ble_eq_true rfl, Nat.le_of_ble_eq_true rfl⟩ hl.1 rfl (Nat.le_of_ble_eq_true rfl) dL_law_1630 ⟨Nat.le_trans (by omega) hce, Nat.le_trans (by omega) hsl⟩) hS (fun H locs hP hS hm => ?_)
  have hM_w := hm
  refine lv_aload_n F.1 F.2.1 dL_law_1633 rfl (lv_at hl 2 rfl) ?_
  refine lv_aload_n F.1 F.2.1 dL_law_1634 rfl (lv_at hl 0 rfl) ?_
  refine lv_iload_n F.1 F.2.1 dL_law_1635 rfl (lv_at hl 3 rfl) ?_
  refine lv_iconst (v := 1) F.1 F.2.1 dL_law_1636 ic_1 ?_
  refine lv_iadd F.1 F.2.1 dL_law_1637 ?_
  refine y_scr F hX hbl hbA hS (hA 1 (by decide)) dL_law_1638 ?_
  refine lv_aload_n F.1 F.2.1 dL_law_1639 rfl (lv_at hl 0 rfl) ?_
  refine lv_iload_n F.1 F.2.1 dL_law_1640 rfl (lv_at hl 3 rfl) ?_
  refine lv_iconst (v := 2) F.1 F.2.1 dL_law_1641 ic_2 ?_
  refine lv_iadd F.1 F.2.1 dL_law_1642 ?_
  refine y_scr F hX hbl hbA hS (hA 2 (by decide)) dL_law_1643 ?_
  refine lv_aload_n F.1 F.2.1 dL_law_1644 rfl (lv_at hl 0 rfl) ?_
  refine lv_iload_n F.1 F.2.1 dL_law_1645 rfl (lv_at hl 3 rfl) ?_
  refine lv_iconst (v := 3) F.1 F.2.1 dL_law_1646 ic_3 ?_
  refine lv_iadd F.1 F.2.1 dL_law_1647 ?_
  refine y_scr F hX hbl hbA hS (hA 3 (by decide)) dL_law_1648 ?_
  obtain ⟨v_1649, w_1649, hc_1649, h⟩ := bi_s h
  refine x_goes (x_runV (As := [.int (A 1), .int (A 2), .int (A 3)]) (rest := [.int v_1630]) F hP hS (c_X12_enter l D cT lo w_1630 ad0 (A 1) (A 2) (A 3) v_1649 w_1649 hc_1649) cw_X12_enter lk_L_164 vi_X12_enter k_63 (n2 (hP.al 63 rfl)) rfl ⟨rfl, rfl, Nat.le_of_ble_eq_true rfl, Nat.le_of_ble_eq_true rfl⟩ hl.1 rfl (Nat.le_of_ble_eq_true rfl) dL_law_1649 ⟨Nat.le_trans (by omega) hce, Nat.le_trans (by omega) hsl⟩) hS (fun H locs hP hS hm => ?_)
  have hM_w := hM_w.trans hm
  refine lv_icmp_eq (tgt := 2228) F.1 F.2.1 dL_law_1652 (by decide) (fun hc => ?_) (fun hc => ?_)
  · have h := if_t _ hc h
    cases h
    refine W.widen (k := cells + 13) (n := slots + 89) (by omega) (by omega) ?_
    exact kk _ _ _ _ hP hS hl
  · have h := if_f _ hc h
    cases h
set_option maxRecDepth 100000 in
set_option maxHeartbeats 4000000 in
theorem lc_35 (F : Fx p s m #[Value.ref b] c cL_law RL 4 D cT lo) (hX : va_X b L xs s s.heap) (hbl : b < s.heap.size) (hbA : ¬ lo ≤ b) {A : Nat → Int32} {i : Int32} (hA : lA L xs i A) {w w9 : Wd} {ad0 : Nat → Nat} (hP : wP D cT lo NB w ad0 H) (hS : va_S (fun q => lo ≤ q) s.heap H locs) (hl : lv_has ls 4 [(0, .ref b), (1, .ref (ad0 1)), (2, .ref (ad0 63)), (3, .int i)]) (hce : cells + 13 ≤ 600000) (hsl : slots + 89 ≤ 7302250) (h : s_35 A w = some w9)
    (kk : ∀ (ad : Nat → Nat) (H : Heap) (locs : List Loc) (ls : Array Slot), wP D cT lo NB w9 ad H → va_S (fun q => lo ≤ q) s.heap H locs → lv_has ls 4 [(0, .ref b), (1, .ref (ad 1)), (2, .ref (ad 63)), (3, .int i)] → W p l e room_1 s m #[Value.ref b] below meth c H locs (cells + 13) (slots + 89) Q (F0 m 2228 ls [])) : W p l e room_1 s m #[Value.ref b] below meth c H locs cells slots Q (F0 m 1657 ls []) := by
  unfold s_35 at h
  have hx := F.1
  have hb := F.2.1
  have hM_w : mono w w := mono.refl
  have hXA : ∀ k, wA w k ≠ 0 → ad0 k = ad0 k := fun _ _ => rfl
  refine lv_aload_n F.1 F.2.1 dL_law_1657 rfl (lv_at hl 1 rfl) ?_
  refine lv_aload_n F.1 F.2.1 dL_law_1658 rfl (lv_at hl 0 rfl) ?_
  refine lv_iload_n F.1 F.2.1 dL_law_1659 rfl (lv_at hl 3 rfl) ?_
  refine lv_iconst (v := 1) F.1 F.2.1 dL_law_1660 ic_1 ?_
  refine lv_iadd F.1 F.2.1 dL_law_1661 ?_
  refine y_scr F hX hbl hbA hS (hA 1 (by decide)) dL_law_1662 ?_
  refine lv_aload_n F.1 F.2.1 dL_law_1663 rfl (lv_at hl 0 rfl) ?_
  refine lv_iload_n F.1 F.2.1 dL_law_1664 rfl (lv_at hl 3 rfl) ?_
  refine lv_iconst (v := 2) F.1 F.2.1 dL_law_1665 ic_2 ?_
  refine lv_iadd F.1 F.2.1 dL_law_1666 ?_
  refine y_scr F hX hbl hbA hS (hA 2 (by decide)) dL_law_1667 ?_
  refine lv_aload_n F.1 F.2.1 dL_law_1668 rfl (lv_at hl 0 rfl) ?_
  refine lv_iload_n F.1 F.2.1 dL_law_1669 rfl (lv_at hl 3 rfl) ?_
  refine lv_iconst (v := 3) F.1 F.2.1 dL_law_1670 ic_3 ?_
  refine lv_iadd F.1 F.2.1 dL_law_1671 ?_
  refine y_scr F hX hbl hbA hS (hA 3 (by decide)) dL_law_1672 ?_
  obtain ⟨v_1673, w_1673, hc_1673, h⟩ := bi_s h
  refine x_goes (x_runV (As := [.int (A 1), .int (A 2), .int (A 3)]) (rest := []) F hP hS (c_X11_stuck l D cT lo w ad0 (A 1) (A 2) (A 3) v_1673 w_1673 hc_1673) cw_X11_stuck lk_L_165 vi_X11_stuck k_1 (n2 (hP.al 1 rfl)) rfl ⟨rfl, rfl, Nat.le_of_ble_eq_true rfl, Nat.le_of_ble_eq_true rfl⟩ hl.1 rfl (Nat.le_of_ble_eq_true rfl) dL_law_1673 ⟨Nat.le_trans (by omega) hce, Nat.le_trans (by omega) hsl⟩) hS (fun H locs hP hS hm => ?_)
  have hM_w := hm
  refine lv_aload_n F.1 F.2.1 dL_law_1676 rfl (lv_at hl 2 rfl) ?_
  refine lv_aload_n F.1 F.2.1 dL_law_1677 rfl (lv_at hl 0 rfl) ?_
  refine lv_iload_n F.1 F.2.1 dL_law_1678 rfl (lv_at hl 3 rfl) ?_
  refine lv_iconst (v := 1) F.1 F.2.1 dL_law_1679 ic_1 ?_
  refine lv_iadd F.1 F.2.1 dL_law_1680 ?_
  refine y_scr F hX hbl hbA hS (hA 1 (by decide)) dL_law_1681 ?_
  refine lv_aload_n F.1 F.2.1 dL_law_1682 rfl (lv_at hl 0 rfl) ?_
  refine lv_iload_n F.1 F.2.1 dL_law_1683 rfl (lv_at hl 3 rfl) ?_
  refine lv_iconst (v := 2) F.1 F.2.1 dL_law_1684 ic_2 ?_
  refine lv_iadd F.1 F.2.1 dL_law_1685 ?_
  refine y_scr F hX hbl hbA hS (hA 2 (by decide)) dL_law_1686 ?_
  refine lv_aload_n F.1 F.2.1 dL_law_1687 rfl (lv_at hl 0 rfl) ?_
  refine lv_iload_n F.1 F.2.1 dL_law_1688 rfl (lv_at hl 3 rfl) ?_
  refine lv_iconst (v := 3) F.1 F.2.1 dL_law_1689 ic_3 ?_
  refine lv_iadd F.1 F.2.1 dL_law_1690 ?_
  refine y_scr F hX hbl hbA hS (hA 3 (by decide)) dL_law_1691 ?_
  obtain ⟨v_1692, w_1692, hc_1692, h⟩ := bi_s h
  refine x_goes (x_runV (As := [.int (A 1), .int (A 2), .int (A 3)]) (rest := [.int v_1673]) F hP hS (c_X12_stuck l D cT lo w_1673 ad0 (A 1) (A 2) (A 3) v_1692 w_1692 hc_1692) cw_X12_stuck lk_L_168 vi_X12_stuck k_63 (n2 (hP.al 63 rfl)) rfl ⟨rfl, rfl, Nat.le_of_ble_eq_true rfl, Nat.le_of_ble_eq_true rfl⟩ hl.1 rfl (Nat.le_of_ble_eq_true rfl) dL_law_1692 ⟨Nat.le_trans (by omega) hce, Nat.le_trans (by omega) hsl⟩) hS (fun H locs hP hS hm => ?_)
  have hM_w := hM_w.trans hm
  refine lv_icmp_eq (tgt := 2228) F.1 F.2.1 dL_law_1695 (by decide) (fun hc => ?_) (fun hc => ?_)
  · have h := if_t _ hc h
    cases h
    refine W.widen (k := cells + 13) (n := slots + 89) (by omega) (by omega) ?_
    exact kk _ _ _ _ hP hS hl
  · have h := if_f _ hc h
    cases h
set_option maxRecDepth 100000 in
set_option maxHeartbeats 4000000 in
theorem lc_36 (F : Fx p s m #[Value.ref b] c cL_law RL 4 D cT lo) (hX : va_X b L xs s s.heap) (hbl : b < s.heap.size) (hbA : ¬ lo ≤ b) {A : Nat → Int32} {i : Int32} (hA : lA L xs i A) {w w9 : Wd} {ad0 : Nat → Nat} (hP : wP D cT lo NB w ad0 H) (hS : va_S (fun q => lo ≤ q) s.heap H locs) (hl : lv_has ls 4 [(0, .ref b), (1, .ref (ad0 1)), (2, .ref (ad0 63)), (3, .int i)]) (hce : cells + 13 ≤ 600000) (hsl : slots + 89 ≤ 7302250) (h : s_36 A w = some w9)
    (kk : ∀ (ad : Nat → Nat) (H : Heap) (locs : List Loc) (ls : Array Slot), wP D cT lo NB w9 ad H → va_S (fun q => lo ≤ q) s.heap H locs → lv_has ls 4 [(0, .ref b), (1, .ref (ad 1)), (2, .ref (ad 63)), (3, .int i)] → W p l e room_1 s m #[Value.ref b] below meth c H locs (cells + 13) (slots + 89) Q (F0 m 2228 ls [])) : W p l e room_1 s m #[Value.ref b] below meth c H locs cells slots Q (F0 m 1700 ls []) := by
  unfold s_36 at h
  have hx := F.1
  have hb := F.2.1
  have hM_w : mono w w := mono.refl
  have hXA : ∀ k, wA w k ≠ 0 → ad0 k = ad0 k := fun _ _ => rfl
  refine lv_aload_n F.1 F.2.1 dL_law_1700 rfl (lv_at hl 1 rfl) ?_
  obtain ⟨v_1701, w_1701, hc_1701, h⟩ := bi_s h
  refine x_goes (x_runV (As := []) (rest := []) F hP hS (c_X11_home l D cT lo w ad0  v_1701 w_1701 hc_1701) cw_X11_home lk_L_169 vi_X11_home k_1 (n2 (hP.al 1 rfl)) rfl ⟨rfl, rfl, Nat.le_of_ble_eq_true rfl, Nat.le_of_ble_eq_true rfl⟩ hl.1 rfl (Nat.le_of_ble_eq_true rfl) dL_law_1701 ⟨Nat.le_trans (by omega) hce, Nat.le_trans (by omega) hsl⟩) hS (fun H locs hP hS hm => ?_)
  have hM_w := hm
  refine lv_aload_n F.1 F.2.1 dL_law_1704 rfl (lv_at hl 2 rfl) ?_
  obtain ⟨v_1705, w_1705, hc_1705, h⟩ := bi_s h
  refine x_goes (x_runV (As := []) (rest := [.int v_1701]) F hP hS (c_X12_home l D cT lo w_1701 ad0  v_1705 w_1705 hc_1705) cw_X12_home lk_L_172 vi_X12_home k_63 (n2 (hP.al 63 rfl)) rfl ⟨rfl, rfl, Nat.le_of_ble_eq_true rfl, Nat.le_of_ble_eq_true rfl⟩ hl.1 rfl (Nat.le_of_ble_eq_true rfl) dL_law_1705 ⟨Nat.le_trans (by omega) hce, Nat.le_trans (by omega) hsl⟩) hS (fun H locs hP hS hm => ?_)
  have hM_w := hM_w.trans hm
  refine lv_icmp_eq (tgt := 2228) F.1 F.2.1 dL_law_1708 (by decide) (fun hc => ?_) (fun hc => ?_)
  · have h := if_t _ hc h
    cases h
    refine W.widen (k := cells + 13) (n := slots + 89) (by omega) (by omega) ?_
    exact kk _ _ _ _ hP hS hl
  · have h := if_f _ hc h
    cases h
set_option maxRecDepth 100000 in
set_option maxHeartbeats 4000000 in
theorem lc_37 (F : Fx p s m #[Value.ref b] c cL_law RL 4 D cT lo) (hX : va_X b L xs s s.heap) (hbl : b < s.heap.size) (hbA : ¬ lo ≤ b) {A : Nat → Int32} {i : Int32} (hA : lA L xs i A) {w w9 : Wd} {ad0 : Nat → Nat} (hP : wP D cT lo NB w ad0 H) (hS : va_S (fun q => lo ≤ q) s.heap H locs) (hl : lv_has ls 4 [(0, .ref b), (1, .ref (ad0 1)), (2, .ref (ad0 63)), (3, .int i)]) (hce : cells + 13 ≤ 600000) (hsl : slots + 89 ≤ 7302250) (h : s_37 A w = some w9)
    (kk : ∀ (ad : Nat → Nat) (H : Heap) (locs : List Loc) (ls : Array Slot), wP D cT lo NB w9 ad H → va_S (fun q => lo ≤ q) s.heap H locs → lv_has ls 4 [(0, .ref b), (1, .ref (ad 1)), (2, .ref (ad 63)), (3, .int i)] → W p l e room_1 s m #[Value.ref b] below meth c H locs (cells + 13) (slots + 89) Q (F0 m 2228 ls [])) : W p l e room_1 s m #[Value.ref b] below meth c H locs cells slots Q (F0 m 1713 ls []) := by
  unfold s_37 at h
  have hx := F.1
  have hb := F.2.1
  have hM_w : mono w w := mono.refl
  have hXA : ∀ k, wA w k ≠ 0 → ad0 k = ad0 k := fun _ _ => rfl
  refine lv_aload_n F.1 F.2.1 dL_law_1713 rfl (lv_at hl 1 rfl) ?_
  refine lv_aload_n F.1 F.2.1 dL_law_1714 rfl (lv_at hl 0 rfl) ?_
  refine lv_iload_n F.1 F.2.1 dL_law_1715 rfl (lv_at hl 3 rfl) ?_
  refine lv_iconst (v := 1) F.1 F.2.1 dL_law_1716 ic_1 ?_
  refine lv_iadd F.1 F.2.1 dL_law_1717 ?_
  refine y_scr F hX hbl hbA hS (hA 1 (by decide)) dL_law_1718 ?_
  obtain ⟨v_1719, w_1719, hc_1719, h⟩ := bi_s h
  refine x_goes (x_runV (As := [.int (A 1)]) (rest := []) F hP hS (c_X11_gone l D cT lo w ad0 (A 1) v_1719 w_1719 hc_1719) cw_X11_gone lk_L_173 vi_X11_gone k_1 (n2 (hP.al 1 rfl)) rfl ⟨rfl, rfl, Nat.le_of_ble_eq_true rfl, Nat.le_of_ble_eq_true rfl⟩ hl.1 rfl (Nat.le_of_ble_eq_true rfl) dL_law_1719 ⟨Nat.le_trans (by omega) hce, Nat.le_trans (by omega) hsl⟩) hS (fun H locs hP hS hm => ?_)
  have hM_w := hm
  refine lv_aload_n F.1 F.2.1 dL_law_1722 rfl (lv_at hl 2 rfl) ?_
  refine lv_aload_n F.1 F.2.1 dL_law_1723 rfl (lv_at hl 0 rfl) ?_
  refine lv_iload_n F.1 F.2.1 dL_law_1724 rfl (lv_at hl 3 rfl) ?_
  refine lv_iconst (v := 1) F.1 F.2.1 dL_law_1725 ic_1 ?_
  refine lv_iadd F.1 F.2.1 dL_law_1726 ?_
  refine y_scr F hX hbl hbA hS (hA 1 (by decide)) dL_law_1727 ?_
  obtain ⟨v_1728, w_1728, hc_1728, h⟩ := bi_s h
  refine x_goes (x_runV (As := [.int (A 1)]) (rest := [.int v_1719]) F hP hS (c_X12_gone l D cT lo w_1719 ad0 (A 1) v_1728 w_1728 hc_1728) cw_X12_gone lk_L_176 vi_X12_gone k_63 (n2 (hP.al 63 rfl)) rfl ⟨rfl, rfl, Nat.le_of_ble_eq_true rfl, Nat.le_of_ble_eq_true rfl⟩ hl.1 rfl (Nat.le_of_ble_eq_true rfl) dL_law_1728 ⟨Nat.le_trans (by omega) hce, Nat.le_trans (by omega) hsl⟩) hS (fun H locs hP hS hm => ?_)
  have hM_w := hM_w.trans hm
  refine lv_icmp_eq (tgt := 2228) F.1 F.2.1 dL_law_1731 (by decide) (fun hc => ?_) (fun hc => ?_)
  · have h := if_t _ hc h
    cases h
    refine W.widen (k := cells + 13) (n := slots + 89) (by omega) (by omega) ?_
    exact kk _ _ _ _ hP hS hl
  · have h := if_f _ hc h
    cases h
set_option maxRecDepth 100000 in
set_option maxHeartbeats 4000000 in
theorem lc_38 (F : Fx p s m #[Value.ref b] c cL_law RL 4 D cT lo) (hX : va_X b L xs s s.heap) (hbl : b < s.heap.size) (hbA : ¬ lo ≤ b) {A : Nat → Int32} {i : Int32} (hA : lA L xs i A) {w w9 : Wd} {ad0 : Nat → Nat} (hP : wP D cT lo NB w ad0 H) (hS : va_S (fun q => lo ≤ q) s.heap H locs) (hl : lv_has ls 4 [(0, .ref b), (1, .ref (ad0 1)), (2, .ref (ad0 63)), (3, .int i)]) (hce : cells + 13 ≤ 600000) (hsl : slots + 89 ≤ 7302250) (h : s_38 A w = some w9)
    (kk : ∀ (ad : Nat → Nat) (H : Heap) (locs : List Loc) (ls : Array Slot), wP D cT lo NB w9 ad H → va_S (fun q => lo ≤ q) s.heap H locs → lv_has ls 4 [(0, .ref b), (1, .ref (ad 1)), (2, .ref (ad 63)), (3, .int i)] → W p l e room_1 s m #[Value.ref b] below meth c H locs (cells + 13) (slots + 89) Q (F0 m 2228 ls [])) : W p l e room_1 s m #[Value.ref b] below meth c H locs cells slots Q (F0 m 1736 ls []) := by
  unfold s_38 at h
  have hx := F.1
  have hb := F.2.1
  have hM_w : mono w w := mono.refl
  have hXA : ∀ k, wA w k ≠ 0 → ad0 k = ad0 k := fun _ _ => rfl
  refine lv_aload_n F.1 F.2.1 dL_law_1736 rfl (lv_at hl 1 rfl) ?_
  refine lv_aload_n F.1 F.2.1 dL_law_1737 rfl (lv_at hl 0 rfl) ?_
  refine lv_iload_n F.1 F.2.1 dL_law_1738 rfl (lv_at hl 3 rfl) ?_
  refine lv_iconst (v := 1) F.1 F.2.1 dL_law_1739 ic_1 ?_
  refine lv_iadd F.1 F.2.1 dL_law_1740 ?_
  refine y_scr F hX hbl hbA hS (hA 1 (by decide)) dL_law_1741 ?_
  refine lv_aload_n F.1 F.2.1 dL_law_1742 rfl (lv_at hl 0 rfl) ?_
  refine lv_iload_n F.1 F.2.1 dL_law_1743 rfl (lv_at hl 3 rfl) ?_
  refine lv_iconst (v := 2) F.1 F.2.1 dL_law_1744 ic_2 ?_
  refine lv_iadd F.1 F.2.1 dL_law_1745 ?_
  refine y_scr F hX hbl hbA hS (hA 2 (by decide)) dL_law_1746 ?_
  obtain ⟨v_1747, w_1747, hc_1747, h⟩ := bi_s h
  refine x_goes (x_runV (As := [.int (A 1), .int (A 2)]) (rest := []) F hP hS (c_X11_where l D cT lo w ad0 (A 1) (A 2) v_1747 w_1747 hc_1747) cw_X11_where lk_L_177 vi_X11_where k_1 (n2 (hP.al 1 rfl)) rfl ⟨rfl, rfl, Nat.le_of_ble_eq_true rfl, Nat.le_of_ble_eq_true rfl⟩ hl.1 rfl (Nat.le_of_ble_eq_true rfl) dL_law_1747 ⟨Nat.le_trans (by omega) hce, Nat.le_trans (by omega) hsl⟩) hS (fun H locs hP hS hm => ?_)
  have hM_w := hm
  refine lv_aload_n F.1 F.2.1 dL_law_1750 rfl (lv_at hl 2 rfl) ?_
  refine lv_aload_n F.1 F.2.1 dL_law_1751 rfl (lv_at hl 0 rfl) ?_
  refine lv_iload_n F.1 F.2.1 dL_law_1752 rfl (lv_at hl 3 rfl) ?_
  refine lv_iconst (v := 1) F.1 F.2.1 dL_law_1753 ic_1 ?_
  refine lv_iadd F.1 F.2.1 dL_law_1754 ?_
  refine y_scr F hX hbl hbA hS (hA 1 (by decide)) dL_law_1755 ?_
  refine lv_aload_n F.1 F.2.1 dL_law_1756 rfl (lv_at hl 0 rfl) ?_
  refine lv_iload_n F.1 F.2.1 dL_law_1757 rfl (lv_at hl 3 rfl) ?_
  refine lv_iconst (v := 2) F.1 F.2.1 dL_law_1758 ic_2 ?_
  refine lv_iadd F.1 F.2.1 dL_law_1759 ?_
  refine y_scr F hX hbl hbA hS (hA 2 (by decide)) dL_law_1760 ?_
  obtain ⟨v_1761, w_1761, hc_1761, h⟩ := bi_s h
  refine x_goes (x_runV (As := [.int (A 1), .int (A 2)]) (rest := [.int v_1747]) F hP hS (c_X12_where l D cT lo w_1747 ad0 (A 1) (A 2) v_1761 w_1761 hc_1761) cw_X12_where lk_L_180 vi_X12_where k_63 (n2 (hP.al 63 rfl)) rfl ⟨rfl, rfl, Nat.le_of_ble_eq_true rfl, Nat.le_of_ble_eq_true rfl⟩ hl.1 rfl (Nat.le_of_ble_eq_true rfl) dL_law_1761 ⟨Nat.le_trans (by omega) hce, Nat.le_trans (by omega) hsl⟩) hS (fun H locs hP hS hm => ?_)
  have hM_w := hM_w.trans hm
  refine lv_icmp_eq (tgt := 2228) F.1 F.2.1 dL_law_1764 (by decide) (fun hc => ?_) (fun hc => ?_)
  · have h := if_t _ hc h
    cases h
    refine W.widen (k := cells + 13) (n := slots + 89) (by omega) (by omega) ?_
    exact kk _ _ _ _ hP hS hl
  · have h := if_f _ hc h
    cases h
set_option maxRecDepth 100000 in
set_option maxHeartbeats 4000000 in
theorem lc_39 (F : Fx p s m #[Value.ref b] c cL_law RL 4 D cT lo) (hX : va_X b L xs s s.heap) (hbl : b < s.heap.size) (hbA : ¬ lo ≤ b) {A : Nat → Int32} {i : Int32} (hA : lA L xs i A) {w w9 : Wd} {ad0 : Nat → Nat} (hP : wP D cT lo NB w ad0 H) (hS : va_S (fun q => lo ≤ q) s.heap H locs) (hl : lv_has ls 4 [(0, .ref b), (1, .ref (ad0 1)), (2, .ref (ad0 63)), (3, .int i)]) (hce : cells + 13 ≤ 600000) (hsl : slots + 89 ≤ 7302250) (h : s_39 A w = some w9)
    (kk : ∀ (ad : Nat → Nat) (H : Heap) (locs : List Loc) (ls : Array Slot), wP D cT lo NB w9 ad H → va_S (fun q => lo ≤ q) s.heap H locs → lv_has ls 4 [(0, .ref b), (1, .ref (ad 1)), (2, .ref (ad 63)), (3, .int i)] → W p l e room_1 s m #[Value.ref b] below meth c H locs (cells + 13) (slots + 89) Q (F0 m 2228 ls [])) : W p l e room_1 s m #[Value.ref b] below meth c H locs cells slots Q (F0 m 1769 ls []) := by
  unfold s_39 at h
  have hx := F.1
  have hb := F.2.1
  have hM_w : mono w w := mono.refl
  have hXA : ∀ k, wA w k ≠ 0 → ad0 k = ad0 k := fun _ _ => rfl
  refine lv_aload_n F.1 F.2.1 dL_law_1769 rfl (lv_at hl 1 rfl) ?_
  refine lv_aload_n F.1 F.2.1 dL_law_1770 rfl (lv_at hl 0 rfl) ?_
  refine lv_iload_n F.1 F.2.1 dL_law_1771 rfl (lv_at hl 3 rfl) ?_
  refine lv_iconst (v := 1) F.1 F.2.1 dL_law_1772 ic_1 ?_
  refine lv_iadd F.1 F.2.1 dL_law_1773 ?_
  refine y_scr F hX hbl hbA hS (hA 1 (by decide)) dL_law_1774 ?_
  refine lv_aload_n F.1 F.2.1 dL_law_1775 rfl (lv_at hl 0 rfl) ?_
  refine lv_iload_n F.1 F.2.1 dL_law_1776 rfl (lv_at hl 3 rfl) ?_
  refine lv_iconst (v := 2) F.1 F.2.1 dL_law_1777 ic_2 ?_
  refine lv_iadd F.1 F.2.1 dL_law_1778 ?_
  refine y_scr F hX hbl hbA hS (hA 2 (by decide)) dL_law_1779 ?_
  obtain ⟨v_1780, w_1780, hc_1780, h⟩ := bi_s h
  refine x_goes (x_runV (As := [.int (A 1), .int (A 2)]) (rest := []) F hP hS (c_X11_task l D cT lo w ad0 (A 1) (A 2) v_1780 w_1780 hc_1780) cw_X11_task lk_L_181 vi_X11_task k_1 (n2 (hP.al 1 rfl)) rfl ⟨rfl, rfl, Nat.le_of_ble_eq_true rfl, Nat.le_of_ble_eq_true rfl⟩ hl.1 rfl (Nat.le_of_ble_eq_true rfl) dL_law_1780 ⟨Nat.le_trans (by omega) hce, Nat.le_trans (by omega) hsl⟩) hS (fun H locs hP hS hm => ?_)
  have hM_w := hm
  refine lv_aload_n F.1 F.2.1 dL_law_1783 rfl (lv_at hl 2 rfl) ?_
  refine lv_aload_n F.1 F.2.1 dL_law_1784 rfl (lv_at hl 0 rfl) ?_
  refine lv_iload_n F.1 F.2.1 dL_law_1785 rfl (lv_at hl 3 rfl) ?_
  refine lv_iconst (v := 1) F.1 F.2.1 dL_law_1786 ic_1 ?_
  refine lv_iadd F.1 F.2.1 dL_law_1787 ?_
  refine y_scr F hX hbl hbA hS (hA 1 (by decide)) dL_law_1788 ?_
  refine lv_aload_n F.1 F.2.1 dL_law_1789 rfl (lv_at hl 0 rfl) ?_
  refine lv_iload_n F.1 F.2.1 dL_law_1790 rfl (lv_at hl 3 rfl) ?_
  refine lv_iconst (v := 2) F.1 F.2.1 dL_law_1791 ic_2 ?_
  refine lv_iadd F.1 F.2.1 dL_law_1792 ?_
  refine y_scr F hX hbl hbA hS (hA 2 (by decide)) dL_law_1793 ?_
  obtain ⟨v_1794, w_1794, hc_1794, h⟩ := bi_s h
  refine x_goes (x_runV (As := [.int (A 1), .int (A 2)]) (rest := [.int v_1780]) F hP hS (c_X12_task l D cT lo w_1780 ad0 (A 1) (A 2) v_1794 w_1794 hc_1794) cw_X12_task lk_L_184 vi_X12_task k_63 (n2 (hP.al 63 rfl)) rfl ⟨rfl, rfl, Nat.le_of_ble_eq_true rfl, Nat.le_of_ble_eq_true rfl⟩ hl.1 rfl (Nat.le_of_ble_eq_true rfl) dL_law_1794 ⟨Nat.le_trans (by omega) hce, Nat.le_trans (by omega) hsl⟩) hS (fun H locs hP hS hm => ?_)
  have hM_w := hM_w.trans hm
  refine lv_icmp_eq (tgt := 2228) F.1 F.2.1 dL_law_1797 (by decide) (fun hc => ?_) (fun hc => ?_)
  · have h := if_t _ hc h
    cases h
    refine W.widen (k := cells + 13) (n := slots + 89) (by omega) (by omega) ?_
    exact kk _ _ _ _ hP hS hl
  · have h := if_f _ hc h
    cases h
set_option maxRecDepth 100000 in
set_option maxHeartbeats 4000000 in
theorem lc_40 (F : Fx p s m #[Value.ref b] c cL_law RL 4 D cT lo) (hX : va_X b L xs s s.heap) (hbl : b < s.heap.size) (hbA : ¬ lo ≤ b) {A : Nat → Int32} {i : Int32} (hA : lA L xs i A) {w w9 : Wd} {ad0 : Nat → Nat} (hP : wP D cT lo NB w ad0 H) (hS : va_S (fun q => lo ≤ q) s.heap H locs) (hl : lv_has ls 4 [(0, .ref b), (1, .ref (ad0 1)), (2, .ref (ad0 63)), (3, .int i)]) (hce : cells + 13 ≤ 600000) (hsl : slots + 89 ≤ 7302250) (h : s_40 A w = some w9)
    (kk : ∀ (ad : Nat → Nat) (H : Heap) (locs : List Loc) (ls : Array Slot), wP D cT lo NB w9 ad H → va_S (fun q => lo ≤ q) s.heap H locs → lv_has ls 4 [(0, .ref b), (1, .ref (ad 1)), (2, .ref (ad 63)), (3, .int i)] → W p l e room_1 s m #[Value.ref b] below meth c H locs (cells + 13) (slots + 89) Q (F0 m 2228 ls [])) : W p l e room_1 s m #[Value.ref b] below meth c H locs cells slots Q (F0 m 1802 ls []) := by
  unfold s_40 at h
  have hx := F.1
  have hb := F.2.1
  have hM_w : mono w w := mono.refl
  have hXA : ∀ k, wA w k ≠ 0 → ad0 k = ad0 k := fun _ _ => rfl
  refine lv_aload_n F.1 F.2.1 dL_law_1802 rfl (lv_at hl 1 rfl) ?_
  refine lv_aload_n F.1 F.2.1 dL_law_1803 rfl (lv_at hl 0 rfl) ?_
  refine lv_iload_n F.1 F.2.1 dL_law_1804 rfl (lv_at hl 3 rfl) ?_
  refine lv_iconst (v := 1) F.1 F.2.1 dL_law_1805 ic_1 ?_
  refine lv_iadd F.1 F.2.1 dL_law_1806 ?_
  refine y_scr F hX hbl hbA hS (hA 1 (by decide)) dL_law_1807 ?_
  obtain ⟨v_1808, w_1808, hc_1808, h⟩ := bi_s h
  refine x_goes (x_runV (As := [.int (A 1)]) (rest := []) F hP hS (c_X11_crews l D cT lo w ad0 (A 1) v_1808 w_1808 hc_1808) cw_X11_crews lk_L_185 vi_X11_crews k_1 (n2 (hP.al 1 rfl)) rfl ⟨rfl, rfl, Nat.le_of_ble_eq_true rfl, Nat.le_of_ble_eq_true rfl⟩ hl.1 rfl (Nat.le_of_ble_eq_true rfl) dL_law_1808 ⟨Nat.le_trans (by omega) hce, Nat.le_trans (by omega) hsl⟩) hS (fun H locs hP hS hm => ?_)
  have hM_w := hm
  refine lv_aload_n F.1 F.2.1 dL_law_1811 rfl (lv_at hl 2 rfl) ?_
  refine lv_aload_n F.1 F.2.1 dL_law_1812 rfl (lv_at hl 0 rfl) ?_
  refine lv_iload_n F.1 F.2.1 dL_law_1813 rfl (lv_at hl 3 rfl) ?_
  refine lv_iconst (v := 1) F.1 F.2.1 dL_law_1814 ic_1 ?_
  refine lv_iadd F.1 F.2.1 dL_law_1815 ?_
  refine y_scr F hX hbl hbA hS (hA 1 (by decide)) dL_law_1816 ?_
  obtain ⟨v_1817, w_1817, hc_1817, h⟩ := bi_s h
  refine x_goes (x_runV (As := [.int (A 1)]) (rest := [.int v_1808]) F hP hS (c_X12_crews l D cT lo w_1808 ad0 (A 1) v_1817 w_1817 hc_1817) cw_X12_crews lk_L_188 vi_X12_crews k_63 (n2 (hP.al 63 rfl)) rfl ⟨rfl, rfl, Nat.le_of_ble_eq_true rfl, Nat.le_of_ble_eq_true rfl⟩ hl.1 rfl (Nat.le_of_ble_eq_true rfl) dL_law_1817 ⟨Nat.le_trans (by omega) hce, Nat.le_trans (by omega) hsl⟩) hS (fun H locs hP hS hm => ?_)
  have hM_w := hM_w.trans hm
  refine lv_icmp_eq (tgt := 2228) F.1 F.2.1 dL_law_1820 (by decide) (fun hc => ?_) (fun hc => ?_)
  · have h := if_t _ hc h
    cases h
    refine W.widen (k := cells + 13) (n := slots + 89) (by omega) (by omega) ?_
    exact kk _ _ _ _ hP hS hl
  · have h := if_f _ hc h
    cases h
set_option maxRecDepth 100000 in
set_option maxHeartbeats 4000000 in
theorem lc_41 (F : Fx p s m #[Value.ref b] c cL_law RL 4 D cT lo) (hX : va_X b L xs s s.heap) (hbl : b < s.heap.size) (hbA : ¬ lo ≤ b) {A : Nat → Int32} {i : Int32} (hA : lA L xs i A) {w w9 : Wd} {ad0 : Nat → Nat} (hP : wP D cT lo NB w ad0 H) (hS : va_S (fun q => lo ≤ q) s.heap H locs) (hl : lv_has ls 4 [(0, .ref b), (1, .ref (ad0 1)), (2, .ref (ad0 63)), (3, .int i)]) (hce : cells + 13 ≤ 600000) (hsl : slots + 89 ≤ 7302250) (h : s_41 A w = some w9)
    (kk : ∀ (ad : Nat → Nat) (H : Heap) (locs : List Loc) (ls : Array Slot), wP D cT lo NB w9 ad H → va_S (fun q => lo ≤ q) s.heap H locs → lv_has ls 4 [(0, .ref b), (1, .ref (ad 1)), (2, .ref (ad 63)), (3, .int i)] → W p l e room_1 s m #[Value.ref b] below meth c H locs (cells + 13) (slots + 89) Q (F0 m 2228 ls [])) : W p l e room_1 s m #[Value.ref b] below meth c H locs cells slots Q (F0 m 1825 ls []) := by
  unfold s_41 at h
  have hx := F.1
  have hb := F.2.1
  have hM_w : mono w w := mono.refl
  have hXA : ∀ k, wA w k ≠ 0 → ad0 k = ad0 k := fun _ _ => rfl
  refine lv_aload_n F.1 F.2.1 dL_law_1825 rfl (lv_at hl 1 rfl) ?_
  refine lv_aload_n F.1 F.2.1 dL_law_1826 rfl (lv_at hl 0 rfl) ?_
  refine lv_iload_n F.1 F.2.1 dL_law_1827 rfl (lv_at hl 3 rfl) ?_
  refine lv_iconst (v := 1) F.1 F.2.1 dL_law_1828 ic_1 ?_
  refine lv_iadd F.1 F.2.1 dL_law_1829 ?_
  refine y_scr F hX hbl hbA hS (hA 1 (by decide)) dL_law_1830 ?_
  obtain ⟨v_1831, w_1831, hc_1831, h⟩ := bi_s h
  refine x_goes (x_runV (As := [.int (A 1)]) (rest := []) F hP hS (c_X11_late l D cT lo w ad0 (A 1) v_1831 w_1831 hc_1831) cw_X11_late lk_L_189 vi_X11_late k_1 (n2 (hP.al 1 rfl)) rfl ⟨rfl, rfl, Nat.le_of_ble_eq_true rfl, Nat.le_of_ble_eq_true rfl⟩ hl.1 rfl (Nat.le_of_ble_eq_true rfl) dL_law_1831 ⟨Nat.le_trans (by omega) hce, Nat.le_trans (by omega) hsl⟩) hS (fun H locs hP hS hm => ?_)
  have hM_w := hm
  refine lv_aload_n F.1 F.2.1 dL_law_1834 rfl (lv_at hl 2 rfl) ?_
  refine lv_aload_n F.1 F.2.1 dL_law_1835 rfl (lv_at hl 0 rfl) ?_
  refine lv_iload_n F.1 F.2.1 dL_law_1836 rfl (lv_at hl 3 rfl) ?_
  refine lv_iconst (v := 1) F.1 F.2.1 dL_law_1837 ic_1 ?_
  refine lv_iadd F.1 F.2.1 dL_law_1838 ?_
  refine y_scr F hX hbl hbA hS (hA 1 (by decide)) dL_law_1839 ?_
  obtain ⟨v_1840, w_1840, hc_1840, h⟩ := bi_s h
  refine x_goes (x_runV (As := [.int (A 1)]) (rest := [.int v_1831]) F hP hS (c_X12_late l D cT lo w_1831 ad0 (A 1) v_1840 w_1840 hc_1840) cw_X12_late lk_L_192 vi_X12_late k_63 (n2 (hP.al 63 rfl)) rfl ⟨rfl, rfl, Nat.le_of_ble_eq_true rfl, Nat.le_of_ble_eq_true rfl⟩ hl.1 rfl (Nat.le_of_ble_eq_true rfl) dL_law_1840 ⟨Nat.le_trans (by omega) hce, Nat.le_trans (by omega) hsl⟩) hS (fun H locs hP hS hm => ?_)
  have hM_w := hM_w.trans hm
  refine lv_icmp_eq (tgt := 2228) F.1 F.2.1 dL_law_1843 (by decide) (fun hc => ?_) (fun hc => ?_)
  · have h := if_t _ hc h
    cases h
    refine W.widen (k := cells + 13) (n := slots + 89) (by omega) (by omega) ?_
    exact kk _ _ _ _ hP hS hl
  · have h := if_f _ hc h
    cases h
set_option maxRecDepth 100000 in
set_option maxHeartbeats 4000000 in
theorem lc_42 (F : Fx p s m #[Value.ref b] c cL_law RL 4 D cT lo) (hX : va_X b L xs s s.heap) (hbl : b < s.heap.size) (hbA : ¬ lo ≤ b) {A : Nat → Int32} {i : Int32} (hA : lA L xs i A) {w w9 : Wd} {ad0 : Nat → Nat} (hP : wP D cT lo NB w ad0 H) (hS : va_S (fun q => lo ≤ q) s.heap H locs) (hl : lv_has ls 4 [(0, .ref b), (1, .ref (ad0 1)), (2, .ref (ad0 63)), (3, .int i)]) (hce : cells + 13 ≤ 600000) (hsl : slots + 89 ≤ 7302250) (h : s_42 A w = some w9)
    (kk : ∀ (ad : Nat → Nat) (H : Heap) (locs : List Loc) (ls : Array Slot), wP D cT lo NB w9 ad H → va_S (fun q => lo ≤ q) s.heap H locs → lv_has ls 4 [(0, .ref b), (1, .ref (ad 1)), (2, .ref (ad 63)), (3, .int i)] → W p l e room_1 s m #[Value.ref b] below meth c H locs (cells + 13) (slots + 89) Q (F0 m 2228 ls [])) : W p l e room_1 s m #[Value.ref b] below meth c H locs cells slots Q (F0 m 1848 ls []) := by
  unfold s_42 at h
  have hx := F.1
  have hb := F.2.1
  have hM_w : mono w w := mono.refl
  have hXA : ∀ k, wA w k ≠ 0 → ad0 k = ad0 k := fun _ _ => rfl
  refine lv_aload_n F.1 F.2.1 dL_law_1848 rfl (lv_at hl 1 rfl) ?_
  refine lv_aload_n F.1 F.2.1 dL_law_1849 rfl (lv_at hl 0 rfl) ?_
  refine lv_iload_n F.1 F.2.1 dL_law_1850 rfl (lv_at hl 3 rfl) ?_
  refine lv_iconst (v := 1) F.1 F.2.1 dL_law_1851 ic_1 ?_
  refine lv_iadd F.1 F.2.1 dL_law_1852 ?_
  refine y_scr F hX hbl hbA hS (hA 1 (by decide)) dL_law_1853 ?_
  obtain ⟨v_1854, w_1854, hc_1854, h⟩ := bi_s h
  refine x_goes (x_runV (As := [.int (A 1)]) (rest := []) F hP hS (c_X11_latest l D cT lo w ad0 (A 1) v_1854 w_1854 hc_1854) cw_X11_latest lk_L_193 vi_X11_latest k_1 (n2 (hP.al 1 rfl)) rfl ⟨rfl, rfl, Nat.le_of_ble_eq_true rfl, Nat.le_of_ble_eq_true rfl⟩ hl.1 rfl (Nat.le_of_ble_eq_true rfl) dL_law_1854 ⟨Nat.le_trans (by omega) hce, Nat.le_trans (by omega) hsl⟩) hS (fun H locs hP hS hm => ?_)
  have hM_w := hm
  refine lv_aload_n F.1 F.2.1 dL_law_1857 rfl (lv_at hl 2 rfl) ?_
  refine lv_aload_n F.1 F.2.1 dL_law_1858 rfl (lv_at hl 0 rfl) ?_
  refine lv_iload_n F.1 F.2.1 dL_law_1859 rfl (lv_at hl 3 rfl) ?_
  refine lv_iconst (v := 1) F.1 F.2.1 dL_law_1860 ic_1 ?_
  refine lv_iadd F.1 F.2.1 dL_law_1861 ?_
  refine y_scr F hX hbl hbA hS (hA 1 (by decide)) dL_law_1862 ?_
  obtain ⟨v_1863, w_1863, hc_1863, h⟩ := bi_s h
  refine x_goes (x_runV (As := [.int (A 1)]) (rest := [.int v_1854]) F hP hS (c_X12_latest l D cT lo w_1854 ad0 (A 1) v_1863 w_1863 hc_1863) cw_X12_latest lk_L_196 vi_X12_latest k_63 (n2 (hP.al 63 rfl)) rfl ⟨rfl, rfl, Nat.le_of_ble_eq_true rfl, Nat.le_of_ble_eq_true rfl⟩ hl.1 rfl (Nat.le_of_ble_eq_true rfl) dL_law_1863 ⟨Nat.le_trans (by omega) hce, Nat.le_trans (by omega) hsl⟩) hS (fun H locs hP hS hm => ?_)
  have hM_w := hM_w.trans hm
  refine lv_icmp_eq (tgt := 2228) F.1 F.2.1 dL_law_1866 (by decide) (fun hc => ?_) (fun hc => ?_)
  · have h := if_t _ hc h
    cases h
    refine W.widen (k := cells + 13) (n := slots + 89) (by omega) (by omega) ?_
    exact kk _ _ _ _ hP hS hl
  · have h := if_f _ hc h
    cases h
set_option maxRecDepth 100000 in
set_option maxHeartbeats 4000000 in
theorem lc_43 (F : Fx p s m #[Value.ref b] c cL_law RL 4 D cT lo) (hX : va_X b L xs s s.heap) (hbl : b < s.heap.size) (hbA : ¬ lo ≤ b) {A : Nat → Int32} {i : Int32} (hA : lA L xs i A) {w w9 : Wd} {ad0 : Nat → Nat} (hP : wP D cT lo NB w ad0 H) (hS : va_S (fun q => lo ≤ q) s.heap H locs) (hl : lv_has ls 4 [(0, .ref b), (1, .ref (ad0 1)), (2, .ref (ad0 63)), (3, .int i)]) (hce : cells + 13 ≤ 600000) (hsl : slots + 89 ≤ 7302250) (h : s_43 A w = some w9)
    (kk : ∀ (ad : Nat → Nat) (H : Heap) (locs : List Loc) (ls : Array Slot), wP D cT lo NB w9 ad H → va_S (fun q => lo ≤ q) s.heap H locs → lv_has ls 4 [(0, .ref b), (1, .ref (ad 1)), (2, .ref (ad 63)), (3, .int i)] → W p l e room_1 s m #[Value.ref b] below meth c H locs (cells + 13) (slots + 89) Q (F0 m 2228 ls [])) : W p l e room_1 s m #[Value.ref b] below meth c H locs cells slots Q (F0 m 1871 ls []) := by
  unfold s_43 at h
  have hx := F.1
  have hb := F.2.1
  have hM_w : mono w w := mono.refl
  have hXA : ∀ k, wA w k ≠ 0 → ad0 k = ad0 k := fun _ _ => rfl
  refine lv_aload_n F.1 F.2.1 dL_law_1871 rfl (lv_at hl 1 rfl) ?_
  refine lv_aload_n F.1 F.2.1 dL_law_1872 rfl (lv_at hl 0 rfl) ?_
  refine lv_iload_n F.1 F.2.1 dL_law_1873 rfl (lv_at hl 3 rfl) ?_
  refine lv_iconst (v := 1) F.1 F.2.1 dL_law_1874 ic_1 ?_
  refine lv_iadd F.1 F.2.1 dL_law_1875 ?_
  refine y_scr F hX hbl hbA hS (hA 1 (by decide)) dL_law_1876 ?_
  obtain ⟨v_1877, w_1877, hc_1877, h⟩ := bi_s h
  refine x_goes (x_runV (As := [.int (A 1)]) (rest := []) F hP hS (c_X11_type l D cT lo w ad0 (A 1) v_1877 w_1877 hc_1877) cw_X11_type lk_L_197 vi_X11_type k_1 (n2 (hP.al 1 rfl)) rfl ⟨rfl, rfl, Nat.le_of_ble_eq_true rfl, Nat.le_of_ble_eq_true rfl⟩ hl.1 rfl (Nat.le_of_ble_eq_true rfl) dL_law_1877 ⟨Nat.le_trans (by omega) hce, Nat.le_trans (by omega) hsl⟩) hS (fun H locs hP hS hm => ?_)
  have hM_w := hm
  refine lv_aload_n F.1 F.2.1 dL_law_1880 rfl (lv_at hl 2 rfl) ?_
  refine lv_aload_n F.1 F.2.1 dL_law_1881 rfl (lv_at hl 0 rfl) ?_
  refine lv_iload_n F.1 F.2.1 dL_law_1882 rfl (lv_at hl 3 rfl) ?_
  refine lv_iconst (v := 1) F.1 F.2.1 dL_law_1883 ic_1 ?_
  refine lv_iadd F.1 F.2.1 dL_law_1884 ?_
  refine y_scr F hX hbl hbA hS (hA 1 (by decide)) dL_law_1885 ?_
  obtain ⟨v_1886, w_1886, hc_1886, h⟩ := bi_s h
  refine x_goes (x_runV (As := [.int (A 1)]) (rest := [.int v_1877]) F hP hS (c_X12_type l D cT lo w_1877 ad0 (A 1) v_1886 w_1886 hc_1886) cw_X12_type lk_L_200 vi_X12_type k_63 (n2 (hP.al 63 rfl)) rfl ⟨rfl, rfl, Nat.le_of_ble_eq_true rfl, Nat.le_of_ble_eq_true rfl⟩ hl.1 rfl (Nat.le_of_ble_eq_true rfl) dL_law_1886 ⟨Nat.le_trans (by omega) hce, Nat.le_trans (by omega) hsl⟩) hS (fun H locs hP hS hm => ?_)
  have hM_w := hM_w.trans hm
  refine lv_icmp_eq (tgt := 2228) F.1 F.2.1 dL_law_1889 (by decide) (fun hc => ?_) (fun hc => ?_)
  · have h := if_t _ hc h
    cases h
    refine W.widen (k := cells + 13) (n := slots + 89) (by omega) (by omega) ?_
    exact kk _ _ _ _ hP hS hl
  · have h := if_f _ hc h
    cases h
set_option maxRecDepth 100000 in
set_option maxHeartbeats 4000000 in
theorem lc_44 (F : Fx p s m #[Value.ref b] c cL_law RL 4 D cT lo) (hX : va_X b L xs s s.heap) (hbl : b < s.heap.size) (hbA : ¬ lo ≤ b) {A : Nat → Int32} {i : Int32} (hA : lA L xs i A) {w w9 : Wd} {ad0 : Nat → Nat} (hP : wP D cT lo NB w ad0 H) (hS : va_S (fun q => lo ≤ q) s.heap H locs) (hl : lv_has ls 4 [(0, .ref b), (1, .ref (ad0 1)), (2, .ref (ad0 63)), (3, .int i)]) (hce : cells + 13 ≤ 600000) (hsl : slots + 89 ≤ 7302250) (h : s_44 A w = some w9)
    (kk : ∀ (ad : Nat → Nat) (H : Heap) (locs : List Loc) (ls : Array Slot), wP D cT lo NB w9 ad H → va_S (fun q => lo ≤ q) s.heap H locs → lv_has ls 4 [(0, .ref b), (1, .ref (ad 1)), (2, .ref (ad 63)), (3, .int i)] → W p l e room_1 s m #[Value.ref b] below meth c H locs (cells + 13) (slots + 89) Q (F0 m 2228 ls [])) : W p l e room_1 s m #[Value.ref b] below meth c H locs cells slots Q (F0 m 1894 ls []) := by
  unfold s_44 at h
  have hx := F.1
  have hb := F.2.1
  have hM_w : mono w w := mono.refl
  have hXA : ∀ k, wA w k ≠ 0 → ad0 k = ad0 k := fun _ _ => rfl
  refine lv_aload_n F.1 F.2.1 dL_law_1894 rfl (lv_at hl 1 rfl) ?_
  obtain ⟨v_1895, w_1895, hc_1895, h⟩ := bi_s h
  refine x_goes (x_runV (As := []) (rest := []) F hP hS (c_X11_tear l D cT lo w ad0  v_1895 w_1895 hc_1895) cw_X11_tear lk_L_201 vi_X11_tear k_1 (n2 (hP.al 1 rfl)) rfl ⟨rfl, rfl, Nat.le_of_ble_eq_true rfl, Nat.le_of_ble_eq_true rfl⟩ hl.1 rfl (Nat.le_of_ble_eq_true rfl) dL_law_1895 ⟨Nat.le_trans (by omega) hce, Nat.le_trans (by omega) hsl⟩) hS (fun H locs hP hS hm => ?_)
  have hM_w := hm
  refine lv_aload_n F.1 F.2.1 dL_law_1898 rfl (lv_at hl 2 rfl) ?_
  obtain ⟨v_1899, w_1899, hc_1899, h⟩ := bi_s h
  refine x_goes (x_runV (As := []) (rest := [.int v_1895]) F hP hS (c_X12_tear l D cT lo w_1895 ad0  v_1899 w_1899 hc_1899) cw_X12_tear lk_L_204 vi_X12_tear k_63 (n2 (hP.al 63 rfl)) rfl ⟨rfl, rfl, Nat.le_of_ble_eq_true rfl, Nat.le_of_ble_eq_true rfl⟩ hl.1 rfl (Nat.le_of_ble_eq_true rfl) dL_law_1899 ⟨Nat.le_trans (by omega) hce, Nat.le_trans (by omega) hsl⟩) hS (fun H locs hP hS hm => ?_)
  have hM_w := hM_w.trans hm
  refine lv_icmp_eq (tgt := 2228) F.1 F.2.1 dL_law_1902 (by decide) (fun hc => ?_) (fun hc => ?_)
  · have h := if_t _ hc h
    cases h
    refine W.widen (k := cells + 13) (n := slots + 89) (by omega) (by omega) ?_
    exact kk _ _ _ _ hP hS hl
  · have h := if_f _ hc h
    cases h
set_option maxRecDepth 100000 in
set_option maxHeartbeats 4000000 in
theorem lc_45 (F : Fx p s m #[Value.ref b] c cL_law RL 4 D cT lo) (hX : va_X b L xs s s.heap) (hbl : b < s.heap.size) (hbA : ¬ lo ≤ b) {A : Nat → Int32} {i : Int32} (hA : lA L xs i A) {w w9 : Wd} {ad0 : Nat → Nat} (hP : wP D cT lo NB w ad0 H) (hS : va_S (fun q => lo ≤ q) s.heap H locs) (hl : lv_has ls 4 [(0, .ref b), (1, .ref (ad0 1)), (2, .ref (ad0 63)), (3, .int i)]) (hce : cells + 13 ≤ 600000) (hsl : slots + 89 ≤ 7302250) (h : s_45 A w = some w9)
    (kk : ∀ (ad : Nat → Nat) (H : Heap) (locs : List Loc) (ls : Array Slot), wP D cT lo NB w9 ad H → va_S (fun q => lo ≤ q) s.heap H locs → lv_has ls 4 [(0, .ref b), (1, .ref (ad 1)), (2, .ref (ad 63)), (3, .int i)] → W p l e room_1 s m #[Value.ref b] below meth c H locs (cells + 13) (slots + 89) Q (F0 m 2228 ls [])) : W p l e room_1 s m #[Value.ref b] below meth c H locs cells slots Q (F0 m 1907 ls []) := by
  unfold s_45 at h
  have hx := F.1
  have hb := F.2.1
  have hM_w : mono w w := mono.refl
  have hXA : ∀ k, wA w k ≠ 0 → ad0 k = ad0 k := fun _ _ => rfl
  refine lv_aload_n F.1 F.2.1 dL_law_1907 rfl (lv_at hl 1 rfl) ?_
  obtain ⟨v_1908, hc_1908, h⟩ := bo_s h
  refine x_goes (x_runV (As := []) (rest := []) F hP hS (c_X11_fault l D cT lo w ad0  v_1908 hc_1908) cw_X11_fault lk_L_205 vi_X11_fault k_1 (n2 (hP.al 1 rfl)) rfl ⟨rfl, rfl, Nat.le_of_ble_eq_true rfl, Nat.le_of_ble_eq_true rfl⟩ hl.1 rfl (Nat.le_of_ble_eq_true rfl) dL_law_1908 ⟨Nat.le_trans (by omega) hce, Nat.le_trans (by omega) hsl⟩) hS (fun H locs hP hS _ => ?_)
  refine lv_aload_n F.1 F.2.1 dL_law_1911 rfl (lv_at hl 2 rfl) ?_
  obtain ⟨v_1912, w_1912, hc_1912, h⟩ := bi_s h
  refine x_goes (x_runV (As := []) (rest := [.int v_1908]) F hP hS (c_X12_fault l D cT lo w ad0  v_1912 w_1912 hc_1912) cw_X12_fault lk_L_208 vi_X12_fault k_63 (n2 (hP.al 63 rfl)) rfl ⟨rfl, rfl, Nat.le_of_ble_eq_true rfl, Nat.le_of_ble_eq_true rfl⟩ hl.1 rfl (Nat.le_of_ble_eq_true rfl) dL_law_1912 ⟨Nat.le_trans (by omega) hce, Nat.le_trans (by omega) hsl⟩) hS (fun H locs hP hS hm => ?_)
  have hM_w := hm
  refine lv_icmp_eq (tgt := 2228) F.1 F.2.1 dL_law_1915 (by decide) (fun hc => ?_) (fun hc => ?_)
  · have h := if_t _ hc h
    cases h
    refine W.widen (k := cells + 13) (n := slots + 89) (by omega) (by omega) ?_
    exact kk _ _ _ _ hP hS hl
  · have h := if_f _ hc h
    cases h
set_option maxRecDepth 100000 in
set_option maxHeartbeats 4000000 in
theorem lc_46 (F : Fx p s m #[Value.ref b] c cL_law RL 4 D cT lo) (hX : va_X b L xs s s.heap) (hbl : b < s.heap.size) (hbA : ¬ lo ≤ b) {A : Nat → Int32} {i : Int32} (hA : lA L xs i A) {w w9 : Wd} {ad0 : Nat → Nat} (hP : wP D cT lo NB w ad0 H) (hS : va_S (fun q => lo ≤ q) s.heap H locs) (hl : lv_has ls 4 [(0, .ref b), (1, .ref (ad0 1)), (2, .ref (ad0 63)), (3, .int i)]) (hce : cells + 13 ≤ 600000) (hsl : slots + 89 ≤ 7302250) (h : s_46 A w = some w9)
    (kk : ∀ (ad : Nat → Nat) (H : Heap) (locs : List Loc) (ls : Array Slot), wP D cT lo NB w9 ad H → va_S (fun q => lo ≤ q) s.heap H locs → lv_has ls 4 [(0, .ref b), (1, .ref (ad 1)), (2, .ref (ad 63)), (3, .int i)] → W p l e room_1 s m #[Value.ref b] below meth c H locs (cells + 13) (slots + 89) Q (F0 m 2228 ls [])) : W p l e room_1 s m #[Value.ref b] below meth c H locs cells slots Q (F0 m 1920 ls []) := by
  unfold s_46 at h
  have hx := F.1
  have hb := F.2.1
  have hM_w : mono w w := mono.refl
  have hXA : ∀ k, wA w k ≠ 0 → ad0 k = ad0 k := fun _ _ => rfl
  refine lv_aload_n F.1 F.2.1 dL_law_1920 rfl (lv_at hl 1 rfl) ?_
  refine lv_aload_n F.1 F.2.1 dL_law_1921 rfl (lv_at hl 0 rfl) ?_
  refine lv_iload_n F.1 F.2.1 dL_law_1922 rfl (lv_at hl 3 rfl) ?_
  refine lv_iconst (v := 1) F.1 F.2.1 dL_law_1923 ic_1 ?_
  refine lv_iadd F.1 F.2.1 dL_law_1924 ?_
  refine y_scr F hX hbl hbA hS (hA 1 (by decide)) dL_law_1925 ?_
  obtain ⟨v_1926, w_1926, hc_1926, h⟩ := bi_s h
  refine x_goes (x_runV (As := [.int (A 1)]) (rest := []) F hP hS (c_X11_perform l D cT lo w ad0 (A 1) v_1926 w_1926 hc_1926) cw_X11_perform lk_L_209 vi_X11_perform k_1 (n2 (hP.al 1 rfl)) rfl ⟨rfl, rfl, Nat.le_of_ble_eq_true rfl, Nat.le_of_ble_eq_true rfl⟩ hl.1 rfl (Nat.le_of_ble_eq_true rfl) dL_law_1926 ⟨Nat.le_trans (by omega) hce, Nat.le_trans (by omega) hsl⟩) hS (fun H locs hP hS hm => ?_)
  have hM_w := hm
  refine lv_aload_n F.1 F.2.1 dL_law_1929 rfl (lv_at hl 2 rfl) ?_
  refine lv_aload_n F.1 F.2.1 dL_law_1930 rfl (lv_at hl 0 rfl) ?_
  refine lv_iload_n F.1 F.2.1 dL_law_1931 rfl (lv_at hl 3 rfl) ?_
  refine lv_iconst (v := 1) F.1 F.2.1 dL_law_1932 ic_1 ?_
  refine lv_iadd F.1 F.2.1 dL_law_1933 ?_
  refine y_scr F hX hbl hbA hS (hA 1 (by decide)) dL_law_1934 ?_
  obtain ⟨v_1935, w_1935, hc_1935, h⟩ := bi_s h
  refine x_goes (x_runV (As := [.int (A 1)]) (rest := [.int v_1926]) F hP hS (c_X12_perform l D cT lo w_1926 ad0 (A 1) v_1935 w_1935 hc_1935) cw_X12_perform lk_L_212 vi_X12_perform k_63 (n2 (hP.al 63 rfl)) rfl ⟨rfl, rfl, Nat.le_of_ble_eq_true rfl, Nat.le_of_ble_eq_true rfl⟩ hl.1 rfl (Nat.le_of_ble_eq_true rfl) dL_law_1935 ⟨Nat.le_trans (by omega) hce, Nat.le_trans (by omega) hsl⟩) hS (fun H locs hP hS hm => ?_)
  have hM_w := hM_w.trans hm
  refine lv_icmp_eq (tgt := 2228) F.1 F.2.1 dL_law_1938 (by decide) (fun hc => ?_) (fun hc => ?_)
  · have h := if_t _ hc h
    cases h
    refine W.widen (k := cells + 13) (n := slots + 89) (by omega) (by omega) ?_
    exact kk _ _ _ _ hP hS hl
  · have h := if_f _ hc h
    cases h
set_option maxRecDepth 100000 in
set_option maxHeartbeats 4000000 in
theorem lc_47 (F : Fx p s m #[Value.ref b] c cL_law RL 4 D cT lo) (hX : va_X b L xs s s.heap) (hbl : b < s.heap.size) (hbA : ¬ lo ≤ b) {A : Nat → Int32} {i : Int32} (hA : lA L xs i A) {w w9 : Wd} {ad0 : Nat → Nat} (hP : wP D cT lo NB w ad0 H) (hS : va_S (fun q => lo ≤ q) s.heap H locs) (hl : lv_has ls 4 [(0, .ref b), (1, .ref (ad0 1)), (2, .ref (ad0 63)), (3, .int i)]) (hce : cells + 13 ≤ 600000) (hsl : slots + 89 ≤ 7302250) (h : s_47 A w = some w9)
    (kk : ∀ (ad : Nat → Nat) (H : Heap) (locs : List Loc) (ls : Array Slot), wP D cT lo NB w9 ad H → va_S (fun q => lo ≤ q) s.heap H locs → lv_has ls 4 [(0, .ref b), (1, .ref (ad 1)), (2, .ref (ad 63)), (3, .int i)] → W p l e room_1 s m #[Value.ref b] below meth c H locs (cells + 13) (slots + 89) Q (F0 m 2228 ls [])) : W p l e room_1 s m #[Value.ref b] below meth c H locs cells slots Q (F0 m 1943 ls []) := by
  unfold s_47 at h
  have hx := F.1
  have hb := F.2.1
  have hM_w : mono w w := mono.refl
  have hXA : ∀ k, wA w k ≠ 0 → ad0 k = ad0 k := fun _ _ => rfl
  refine lv_aload_n F.1 F.2.1 dL_law_1943 rfl (lv_at hl 1 rfl) ?_
  refine lv_aload_n F.1 F.2.1 dL_law_1944 rfl (lv_at hl 0 rfl) ?_
  refine lv_iload_n F.1 F.2.1 dL_law_1945 rfl (lv_at hl 3 rfl) ?_
  refine lv_iconst (v := 1) F.1 F.2.1 dL_law_1946 ic_1 ?_
  refine lv_iadd F.1 F.2.1 dL_law_1947 ?_
  refine y_scr F hX hbl hbA hS (hA 1 (by decide)) dL_law_1948 ?_
  refine lv_aload_n F.1 F.2.1 dL_law_1949 rfl (lv_at hl 0 rfl) ?_
  refine lv_iload_n F.1 F.2.1 dL_law_1950 rfl (lv_at hl 3 rfl) ?_
  refine lv_iconst (v := 2) F.1 F.2.1 dL_law_1951 ic_2 ?_
  refine lv_iadd F.1 F.2.1 dL_law_1952 ?_
  refine y_scr F hX hbl hbA hS (hA 2 (by decide)) dL_law_1953 ?_
  refine lv_aload_n F.1 F.2.1 dL_law_1954 rfl (lv_at hl 0 rfl) ?_
  refine lv_iload_n F.1 F.2.1 dL_law_1955 rfl (lv_at hl 3 rfl) ?_
  refine lv_iconst (v := 3) F.1 F.2.1 dL_law_1956 ic_3 ?_
  refine lv_iadd F.1 F.2.1 dL_law_1957 ?_
  refine y_scr F hX hbl hbA hS (hA 3 (by decide)) dL_law_1958 ?_
  obtain ⟨v_1959, w_1959, hc_1959, h⟩ := bi_s h
  refine x_goes (x_runV (As := [.int (A 1), .int (A 2), .int (A 3)]) (rest := []) F hP hS (c_X11_sheet l D cT lo w ad0 (A 1) (A 2) (A 3) v_1959 w_1959 hc_1959) cw_X11_sheet lk_L_213 vi_X11_sheet k_1 (n2 (hP.al 1 rfl)) rfl ⟨rfl, rfl, Nat.le_of_ble_eq_true rfl, Nat.le_of_ble_eq_true rfl⟩ hl.1 rfl (Nat.le_of_ble_eq_true rfl) dL_law_1959 ⟨Nat.le_trans (by omega) hce, Nat.le_trans (by omega) hsl⟩) hS (fun H locs hP hS hm => ?_)
  have hM_w := hm
  refine lv_aload_n F.1 F.2.1 dL_law_1962 rfl (lv_at hl 2 rfl) ?_
  refine lv_aload_n F.1 F.2.1 dL_law_1963 rfl (lv_at hl 0 rfl) ?_
  refine lv_iload_n F.1 F.2.1 dL_law_1964 rfl (lv_at hl 3 rfl) ?_
  refine lv_iconst (v := 1) F.1 F.2.1 dL_law_1965 ic_1 ?_
  refine lv_iadd F.1 F.2.1 dL_law_1966 ?_
  refine y_scr F hX hbl hbA hS (hA 1 (by decide)) dL_law_1967 ?_
  refine lv_aload_n F.1 F.2.1 dL_law_1968 rfl (lv_at hl 0 rfl) ?_
  refine lv_iload_n F.1 F.2.1 dL_law_1969 rfl (lv_at hl 3 rfl) ?_
  refine lv_iconst (v := 2) F.1 F.2.1 dL_law_1970 ic_2 ?_
  refine lv_iadd F.1 F.2.1 dL_law_1971 ?_
  refine y_scr F hX hbl hbA hS (hA 2 (by decide)) dL_law_1972 ?_
  refine lv_aload_n F.1 F.2.1 dL_law_1973 rfl (lv_at hl 0 rfl) ?_
  refine lv_iload_n F.1 F.2.1 dL_law_1974 rfl (lv_at hl 3 rfl) ?_
  refine lv_iconst (v := 3) F.1 F.2.1 dL_law_1975 ic_3 ?_
  refine lv_iadd F.1 F.2.1 dL_law_1976 ?_
  refine y_scr F hX hbl hbA hS (hA 3 (by decide)) dL_law_1977 ?_
  obtain ⟨v_1978, w_1978, hc_1978, h⟩ := bi_s h
  refine x_goes (x_runV (As := [.int (A 1), .int (A 2), .int (A 3)]) (rest := [.int v_1959]) F hP hS (c_X12_sheet l D cT lo w_1959 ad0 (A 1) (A 2) (A 3) v_1978 w_1978 hc_1978) cw_X12_sheet lk_L_216 vi_X12_sheet k_63 (n2 (hP.al 63 rfl)) rfl ⟨rfl, rfl, Nat.le_of_ble_eq_true rfl, Nat.le_of_ble_eq_true rfl⟩ hl.1 rfl (Nat.le_of_ble_eq_true rfl) dL_law_1978 ⟨Nat.le_trans (by omega) hce, Nat.le_trans (by omega) hsl⟩) hS (fun H locs hP hS hm => ?_)
  have hM_w := hM_w.trans hm
  refine lv_icmp_eq (tgt := 2228) F.1 F.2.1 dL_law_1981 (by decide) (fun hc => ?_) (fun hc => ?_)
  · have h := if_t _ hc h
    cases h
    refine W.widen (k := cells + 13) (n := slots + 89) (by omega) (by omega) ?_
    exact kk _ _ _ _ hP hS hl
  · have h := if_f _ hc h
    cases h
set_option maxRecDepth 100000 in
set_option maxHeartbeats 4000000 in
theorem lc_48 (F : Fx p s m #[Value.ref b] c cL_law RL 4 D cT lo) (hX : va_X b L xs s s.heap) (hbl : b < s.heap.size) (hbA : ¬ lo ≤ b) {A : Nat → Int32} {i : Int32} (hA : lA L xs i A) {w w9 : Wd} {ad0 : Nat → Nat} (hP : wP D cT lo NB w ad0 H) (hS : va_S (fun q => lo ≤ q) s.heap H locs) (hl : lv_has ls 4 [(0, .ref b), (1, .ref (ad0 1)), (2, .ref (ad0 63)), (3, .int i)]) (hce : cells + 13 ≤ 600000) (hsl : slots + 89 ≤ 7302250) (h : s_48 A w = some w9)
    (kk : ∀ (ad : Nat → Nat) (H : Heap) (locs : List Loc) (ls : Array Slot), wP D cT lo NB w9 ad H → va_S (fun q => lo ≤ q) s.heap H locs → lv_has ls 4 [(0, .ref b), (1, .ref (ad 1)), (2, .ref (ad 63)), (3, .int i)] → W p l e room_1 s m #[Value.ref b] below meth c H locs (cells + 13) (slots + 89) Q (F0 m 2228 ls [])) : W p l e room_1 s m #[Value.ref b] below meth c H locs cells slots Q (F0 m 1986 ls []) := by
  unfold s_48 at h
  have hx := F.1
  have hb := F.2.1
  have hM_w : mono w w := mono.refl
  have hXA : ∀ k, wA w k ≠ 0 → ad0 k = ad0 k := fun _ _ => rfl
  refine lv_aload_n F.1 F.2.1 dL_law_1986 rfl (lv_at hl 1 rfl) ?_
  refine lv_aload_n F.1 F.2.1 dL_law_1987 rfl (lv_at hl 0 rfl) ?_
  refine lv_iload_n F.1 F.2.1 dL_law_1988 rfl (lv_at hl 3 rfl) ?_
  refine lv_iconst (v := 1) F.1 F.2.1 dL_law_1989 ic_1 ?_
  refine lv_iadd F.1 F.2.1 dL_law_1990 ?_
  refine y_scr F hX hbl hbA hS (hA 1 (by decide)) dL_law_1991 ?_
  obtain ⟨v_1992, w_1992, hc_1992, h⟩ := bi_s h
  refine x_goes (x_runV (As := [.int (A 1)]) (rest := []) F hP hS (c_X11_lose l D cT lo w ad0 (A 1) v_1992 w_1992 hc_1992) cw_X11_lose lk_L_217 vi_X11_lose k_1 (n2 (hP.al 1 rfl)) rfl ⟨rfl, rfl, Nat.le_of_ble_eq_true rfl, Nat.le_of_ble_eq_true rfl⟩ hl.1 rfl (Nat.le_of_ble_eq_true rfl) dL_law_1992 ⟨Nat.le_trans (by omega) hce, Nat.le_trans (by omega) hsl⟩) hS (fun H locs hP hS hm => ?_)
  have hM_w := hm
  refine lv_aload_n F.1 F.2.1 dL_law_1995 rfl (lv_at hl 2 rfl) ?_
  refine lv_aload_n F.1 F.2.1 dL_law_1996 rfl (lv_at hl 0 rfl) ?_
  refine lv_iload_n F.1 F.2.1 dL_law_1997 rfl (lv_at hl 3 rfl) ?_
  refine lv_iconst (v := 1) F.1 F.2.1 dL_law_1998 ic_1 ?_
  refine lv_iadd F.1 F.2.1 dL_law_1999 ?_
  refine y_scr F hX hbl hbA hS (hA 1 (by decide)) dL_law_2000 ?_
  obtain ⟨v_2001, w_2001, hc_2001, h⟩ := bi_s h
  refine x_goes (x_runV (As := [.int (A 1)]) (rest := [.int v_1992]) F hP hS (c_X12_lose l D cT lo w_1992 ad0 (A 1) v_2001 w_2001 hc_2001) cw_X12_lose lk_L_220 vi_X12_lose k_63 (n2 (hP.al 63 rfl)) rfl ⟨rfl, rfl, Nat.le_of_ble_eq_true rfl, Nat.le_of_ble_eq_true rfl⟩ hl.1 rfl (Nat.le_of_ble_eq_true rfl) dL_law_2001 ⟨Nat.le_trans (by omega) hce, Nat.le_trans (by omega) hsl⟩) hS (fun H locs hP hS hm => ?_)
  have hM_w := hM_w.trans hm
  refine lv_icmp_eq (tgt := 2228) F.1 F.2.1 dL_law_2004 (by decide) (fun hc => ?_) (fun hc => ?_)
  · have h := if_t _ hc h
    cases h
    refine W.widen (k := cells + 13) (n := slots + 89) (by omega) (by omega) ?_
    exact kk _ _ _ _ hP hS hl
  · have h := if_f _ hc h
    cases h
set_option maxRecDepth 100000 in
set_option maxHeartbeats 4000000 in
theorem lc_49 (F : Fx p s m #[Value.ref b] c cL_law RL 4 D cT lo) (hX : va_X b L xs s s.heap) (hbl : b < s.heap.size) (hbA : ¬ lo ≤ b) {A : Nat → Int32} {i : Int32} (hA : lA L xs i A) {w w9 : Wd} {ad0 : Nat → Nat} (hP : wP D cT lo NB w ad0 H) (hS : va_S (fun q => lo ≤ q) s.heap H locs) (hl : lv_has ls 4 [(0, .ref b), (1, .ref (ad0 1)), (2, .ref (ad0 63)), (3, .int i)]) (hce : cells + 13 ≤ 600000) (hsl : slots + 89 ≤ 7302250) (h : s_49 A w = some w9)
    (kk : ∀ (ad : Nat → Nat) (H : Heap) (locs : List Loc) (ls : Array Slot), wP D cT lo NB w9 ad H → va_S (fun q => lo ≤ q) s.heap H locs → lv_has ls 4 [(0, .ref b), (1, .ref (ad 1)), (2, .ref (ad 63)), (3, .int i)] → W p l e room_1 s m #[Value.ref b] below meth c H locs (cells + 13) (slots + 89) Q (F0 m 2228 ls [])) : W p l e room_1 s m #[Value.ref b] below meth c H locs cells slots Q (F0 m 2009 ls []) := by
  unfold s_49 at h
  have hx := F.1
  have hb := F.2.1
  have hM_w : mono w w := mono.refl
  have hXA : ∀ k, wA w k ≠ 0 → ad0 k = ad0 k := fun _ _ => rfl
  refine lv_aload_n F.1 F.2.1 dL_law_2009 rfl (lv_at hl 1 rfl) ?_
  refine lv_aload_n F.1 F.2.1 dL_law_2010 rfl (lv_at hl 0 rfl) ?_
  refine lv_iload_n F.1 F.2.1 dL_law_2011 rfl (lv_at hl 3 rfl) ?_
  refine lv_iconst (v := 1) F.1 F.2.1 dL_law_2012 ic_1 ?_
  refine lv_iadd F.1 F.2.1 dL_law_2013 ?_
  refine y_scr F hX hbl hbA hS (hA 1 (by decide)) dL_law_2014 ?_
  refine lv_aload_n F.1 F.2.1 dL_law_2015 rfl (lv_at hl 0 rfl) ?_
  refine lv_iload_n F.1 F.2.1 dL_law_2016 rfl (lv_at hl 3 rfl) ?_
  refine lv_iconst (v := 2) F.1 F.2.1 dL_law_2017 ic_2 ?_
  refine lv_iadd F.1 F.2.1 dL_law_2018 ?_
  refine y_scr F hX hbl hbA hS (hA 2 (by decide)) dL_law_2019 ?_
  refine lv_aload_n F.1 F.2.1 dL_law_2020 rfl (lv_at hl 0 rfl) ?_
  refine lv_iload_n F.1 F.2.1 dL_law_2021 rfl (lv_at hl 3 rfl) ?_
  refine lv_iconst (v := 3) F.1 F.2.1 dL_law_2022 ic_3 ?_
  refine lv_iadd F.1 F.2.1 dL_law_2023 ?_
  refine y_scr F hX hbl hbA hS (hA 3 (by decide)) dL_law_2024 ?_
  refine lv_aload_n F.1 F.2.1 dL_law_2025 rfl (lv_at hl 0 rfl) ?_
  refine lv_iload_n F.1 F.2.1 dL_law_2026 rfl (lv_at hl 3 rfl) ?_
  refine lv_iconst (v := 4) F.1 F.2.1 dL_law_2027 ic_4 ?_
  refine lv_iadd F.1 F.2.1 dL_law_2028 ?_
  refine y_scr F hX hbl hbA hS (hA 4 (by decide)) dL_law_2029 ?_
  obtain ⟨v_2030, w_2030, hc_2030, h⟩ := bi_s h
  refine x_goes (x_runV (As := [.int (A 1), .int (A 2), .int (A 3), .int (A 4)]) (rest := []) F hP hS (c_X11_put l D cT lo w ad0 (A 1) (A 2) (A 3) (A 4) v_2030 w_2030 hc_2030) cw_X11_put lk_L_221 vi_X11_put k_1 (n2 (hP.al 1 rfl)) rfl ⟨rfl, rfl, Nat.le_of_ble_eq_true rfl, Nat.le_of_ble_eq_true rfl⟩ hl.1 rfl (Nat.le_of_ble_eq_true rfl) dL_law_2030 ⟨Nat.le_trans (by omega) hce, Nat.le_trans (by omega) hsl⟩) hS (fun H locs hP hS hm => ?_)
  have hM_w := hm
  refine lv_aload_n F.1 F.2.1 dL_law_2033 rfl (lv_at hl 2 rfl) ?_
  refine lv_aload_n F.1 F.2.1 dL_law_2034 rfl (lv_at hl 0 rfl) ?_
  refine lv_iload_n F.1 F.2.1 dL_law_2035 rfl (lv_at hl 3 rfl) ?_
  refine lv_iconst (v := 1) F.1 F.2.1 dL_law_2036 ic_1 ?_
  refine lv_iadd F.1 F.2.1 dL_law_2037 ?_
  refine y_scr F hX hbl hbA hS (hA 1 (by decide)) dL_law_2038 ?_
  refine lv_aload_n F.1 F.2.1 dL_law_2039 rfl (lv_at hl 0 rfl) ?_
  refine lv_iload_n F.1 F.2.1 dL_law_2040 rfl (lv_at hl 3 rfl) ?_
  refine lv_iconst (v := 2) F.1 F.2.1 dL_law_2041 ic_2 ?_
  refine lv_iadd F.1 F.2.1 dL_law_2042 ?_
  refine y_scr F hX hbl hbA hS (hA 2 (by decide)) dL_law_2043 ?_
  refine lv_aload_n F.1 F.2.1 dL_law_2044 rfl (lv_at hl 0 rfl) ?_
  refine lv_iload_n F.1 F.2.1 dL_law_2045 rfl (lv_at hl 3 rfl) ?_
  refine lv_iconst (v := 3) F.1 F.2.1 dL_law_2046 ic_3 ?_
  refine lv_iadd F.1 F.2.1 dL_law_2047 ?_
  refine y_scr F hX hbl hbA hS (hA 3 (by decide)) dL_law_2048 ?_
  refine lv_aload_n F.1 F.2.1 dL_law_2049 rfl (lv_at hl 0 rfl) ?_
  refine lv_iload_n F.1 F.2.1 dL_law_2050 rfl (lv_at hl 3 rfl) ?_
  refine lv_iconst (v := 4) F.1 F.2.1 dL_law_2051 ic_4 ?_
  refine lv_iadd F.1 F.2.1 dL_law_2052 ?_
  refine y_scr F hX hbl hbA hS (hA 4 (by decide)) dL_law_2053 ?_
  obtain ⟨v_2054, w_2054, hc_2054, h⟩ := bi_s h
  refine x_goes (x_runV (As := [.int (A 1), .int (A 2), .int (A 3), .int (A 4)]) (rest := [.int v_2030]) F hP hS (c_X12_put l D cT lo w_2030 ad0 (A 1) (A 2) (A 3) (A 4) v_2054 w_2054 hc_2054) cw_X12_put lk_L_224 vi_X12_put k_63 (n2 (hP.al 63 rfl)) rfl ⟨rfl, rfl, Nat.le_of_ble_eq_true rfl, Nat.le_of_ble_eq_true rfl⟩ hl.1 rfl (Nat.le_of_ble_eq_true rfl) dL_law_2054 ⟨Nat.le_trans (by omega) hce, Nat.le_trans (by omega) hsl⟩) hS (fun H locs hP hS hm => ?_)
  have hM_w := hM_w.trans hm
  refine lv_icmp_eq (tgt := 2228) F.1 F.2.1 dL_law_2057 (by decide) (fun hc => ?_) (fun hc => ?_)
  · have h := if_t _ hc h
    cases h
    refine W.widen (k := cells + 13) (n := slots + 89) (by omega) (by omega) ?_
    exact kk _ _ _ _ hP hS hl
  · have h := if_f _ hc h
    cases h
set_option maxRecDepth 100000 in
set_option maxHeartbeats 4000000 in
theorem lc_50 (F : Fx p s m #[Value.ref b] c cL_law RL 4 D cT lo) (hX : va_X b L xs s s.heap) (hbl : b < s.heap.size) (hbA : ¬ lo ≤ b) {A : Nat → Int32} {i : Int32} (hA : lA L xs i A) {w w9 : Wd} {ad0 : Nat → Nat} (hP : wP D cT lo NB w ad0 H) (hS : va_S (fun q => lo ≤ q) s.heap H locs) (hl : lv_has ls 4 [(0, .ref b), (1, .ref (ad0 1)), (2, .ref (ad0 63)), (3, .int i)]) (hce : cells + 13 ≤ 600000) (hsl : slots + 89 ≤ 7302250) (h : s_50 A w = some w9)
    (kk : ∀ (ad : Nat → Nat) (H : Heap) (locs : List Loc) (ls : Array Slot), wP D cT lo NB w9 ad H → va_S (fun q => lo ≤ q) s.heap H locs → lv_has ls 4 [(0, .ref b), (1, .ref (ad 1)), (2, .ref (ad 63)), (3, .int i)] → W p l e room_1 s m #[Value.ref b] below meth c H locs (cells + 13) (slots + 89) Q (F0 m 2228 ls [])) : W p l e room_1 s m #[Value.ref b] below meth c H locs cells slots Q (F0 m 2062 ls []) := by
  unfold s_50 at h
  have hx := F.1
  have hb := F.2.1
  have hM_w : mono w w := mono.refl
  have hXA : ∀ k, wA w k ≠ 0 → ad0 k = ad0 k := fun _ _ => rfl
  refine lv_aload_n F.1 F.2.1 dL_law_2062 rfl (lv_at hl 1 rfl) ?_
  refine lv_aload_n F.1 F.2.1 dL_law_2063 rfl (lv_at hl 0 rfl) ?_
  refine lv_iload_n F.1 F.2.1 dL_law_2064 rfl (lv_at hl 3 rfl) ?_
  refine lv_iconst (v := 1) F.1 F.2.1 dL_law_2065 ic_1 ?_
  refine lv_iadd F.1 F.2.1 dL_law_2066 ?_
  refine y_scr F hX hbl hbA hS (hA 1 (by decide)) dL_law_2067 ?_
  refine lv_aload_n F.1 F.2.1 dL_law_2068 rfl (lv_at hl 0 rfl) ?_
  refine lv_iload_n F.1 F.2.1 dL_law_2069 rfl (lv_at hl 3 rfl) ?_
  refine lv_iconst (v := 2) F.1 F.2.1 dL_law_2070 ic_2 ?_
  refine lv_iadd F.1 F.2.1 dL_law_2071 ?_
  refine y_scr F hX hbl hbA hS (hA 2 (by decide)) dL_law_2072 ?_
  refine lv_aload_n F.1 F.2.1 dL_law_2073 rfl (lv_at hl 0 rfl) ?_
  refine lv_iload_n F.1 F.2.1 dL_law_2074 rfl (lv_at hl 3 rfl) ?_
  refine lv_iconst (v := 3) F.1 F.2.1 dL_law_2075 ic_3 ?_
  refine lv_iadd F.1 F.2.1 dL_law_2076 ?_
  refine y_scr F hX hbl hbA hS (hA 3 (by decide)) dL_law_2077 ?_
  obtain ⟨v_2078, w_2078, hc_2078, h⟩ := bi_s h
  refine x_goes (x_runV (As := [.int (A 1), .int (A 2), .int (A 3)]) (rest := []) F hP hS (c_X11_get l D cT lo w ad0 (A 1) (A 2) (A 3) v_2078 w_2078 hc_2078) cw_X11_get lk_L_225 vi_X11_get k_1 (n2 (hP.al 1 rfl)) rfl ⟨rfl, rfl, Nat.le_of_ble_eq_true rfl, Nat.le_of_ble_eq_true rfl⟩ hl.1 rfl (Nat.le_of_ble_eq_true rfl) dL_law_2078 ⟨Nat.le_trans (by omega) hce, Nat.le_trans (by omega) hsl⟩) hS (fun H locs hP hS hm => ?_)
  have hM_w := hm
  refine lv_aload_n F.1 F.2.1 dL_law_2081 rfl (lv_at hl 2 rfl) ?_
  refine lv_aload_n F.1 F.2.1 dL_law_2082 rfl (lv_at hl 0 rfl) ?_
  refine lv_iload_n F.1 F.2.1 dL_law_2083 rfl (lv_at hl 3 rfl) ?_
  refine lv_iconst (v := 1) F.1 F.2.1 dL_law_2084 ic_1 ?_
  refine lv_iadd F.1 F.2.1 dL_law_2085 ?_
  refine y_scr F hX hbl hbA hS (hA 1 (by decide)) dL_law_2086 ?_
  refine lv_aload_n F.1 F.2.1 dL_law_2087 rfl (lv_at hl 0 rfl) ?_
  refine lv_iload_n F.1 F.2.1 dL_law_2088 rfl (lv_at hl 3 rfl) ?_
  refine lv_iconst (v := 2) F.1 F.2.1 dL_law_2089 ic_2 ?_
  refine lv_iadd F.1 F.2.1 dL_law_2090 ?_
  refine y_scr F hX hbl hbA hS (hA 2 (by decide)) dL_law_2091 ?_
  refine lv_aload_n F.1 F.2.1 dL_law_2092 rfl (lv_at hl 0 rfl) ?_
  refine lv_iload_n F.1 F.2.1 dL_law_2093 rfl (lv_at hl 3 rfl) ?_
  refine lv_iconst (v := 3) F.1 F.2.1 dL_law_2094 ic_3 ?_
  refine lv_iadd F.1 F.2.1 dL_law_2095 ?_
  refine y_scr F hX hbl hbA hS (hA 3 (by decide)) dL_law_2096 ?_
  obtain ⟨v_2097, w_2097, hc_2097, h⟩ := bi_s h
  refine x_goes (x_runV (As := [.int (A 1), .int (A 2), .int (A 3)]) (rest := [.int v_2078]) F hP hS (c_X12_get l D cT lo w_2078 ad0 (A 1) (A 2) (A 3) v_2097 w_2097 hc_2097) cw_X12_get lk_L_228 vi_X12_get k_63 (n2 (hP.al 63 rfl)) rfl ⟨rfl, rfl, Nat.le_of_ble_eq_true rfl, Nat.le_of_ble_eq_true rfl⟩ hl.1 rfl (Nat.le_of_ble_eq_true rfl) dL_law_2097 ⟨Nat.le_trans (by omega) hce, Nat.le_trans (by omega) hsl⟩) hS (fun H locs hP hS hm => ?_)
  have hM_w := hM_w.trans hm
  refine lv_icmp_eq (tgt := 2228) F.1 F.2.1 dL_law_2100 (by decide) (fun hc => ?_) (fun hc => ?_)
  · have h := if_t _ hc h
    cases h
    refine W.widen (k := cells + 13) (n := slots + 89) (by omega) (by omega) ?_
    exact kk _ _ _ _ hP hS hl
  · have h := if_f _ hc h
    cases h
set_option maxRecDepth 100000 in
set_option maxHeartbeats 4000000 in
theorem lc_51 (F : Fx p s m #[Value.ref b] c cL_law RL 4 D cT lo) (hX : va_X b L xs s s.heap) (hbl : b < s.heap.size) (hbA : ¬ lo ≤ b) {A : Nat → Int32} {i : Int32} (hA : lA L xs i A) {w w9 : Wd} {ad0 : Nat → Nat} (hP : wP D cT lo NB w ad0 H) (hS : va_S (fun q => lo ≤ q) s.heap H locs) (hl : lv_has ls 4 [(0, .ref b), (1, .ref (ad0 1)), (2, .ref (ad0 63)), (3, .int i)]) (hce : cells + 13 ≤ 600000) (hsl : slots + 89 ≤ 7302250) (h : s_51 A w = some w9)
    (kk : ∀ (ad : Nat → Nat) (H : Heap) (locs : List Loc) (ls : Array Slot), wP D cT lo NB w9 ad H → va_S (fun q => lo ≤ q) s.heap H locs → lv_has ls 4 [(0, .ref b), (1, .ref (ad 1)), (2, .ref (ad 63)), (3, .int i)] → W p l e room_1 s m #[Value.ref b] below meth c H locs (cells + 13) (slots + 89) Q (F0 m 2228 ls [])) : W p l e room_1 s m #[Value.ref b] below meth c H locs cells slots Q (F0 m 2105 ls []) := by
  unfold s_51 at h
  have hx := F.1
  have hb := F.2.1
  have hM_w : mono w w := mono.refl
  have hXA : ∀ k, wA w k ≠ 0 → ad0 k = ad0 k := fun _ _ => rfl
  refine lv_aload_n F.1 F.2.1 dL_law_2105 rfl (lv_at hl 1 rfl) ?_
  refine lv_aload_n F.1 F.2.1 dL_law_2106 rfl (lv_at hl 0 rfl) ?_
  refine lv_iload_n F.1 F.2.1 dL_law_2107 rfl (lv_at hl 3 rfl) ?_
  refine lv_iconst (v := 1) F.1 F.2.1 dL_law_2108 ic_1 ?_
  refine lv_iadd F.1 F.2.1 dL_law_2109 ?_
  refine y_scr F hX hbl hbA hS (hA 1 (by decide)) dL_law_2110 ?_
  refine lv_aload_n F.1 F.2.1 dL_law_2111 rfl (lv_at hl 0 rfl) ?_
  refine lv_iload_n F.1 F.2.1 dL_law_2112 rfl (lv_at hl 3 rfl) ?_
  refine lv_iconst (v := 2) F.1 F.2.1 dL_law_2113 ic_2 ?_
  refine lv_iadd F.1 F.2.1 dL_law_2114 ?_
  refine y_scr F hX hbl hbA hS (hA 2 (by decide)) dL_law_2115 ?_
  refine lv_aload_n F.1 F.2.1 dL_law_2116 rfl (lv_at hl 0 rfl) ?_
  refine lv_iload_n F.1 F.2.1 dL_law_2117 rfl (lv_at hl 3 rfl) ?_
  refine lv_iconst (v := 3) F.1 F.2.1 dL_law_2118 ic_3 ?_
  refine lv_iadd F.1 F.2.1 dL_law_2119 ?_
  refine y_scr F hX hbl hbA hS (hA 3 (by decide)) dL_law_2120 ?_
  refine lv_aload_n F.1 F.2.1 dL_law_2121 rfl (lv_at hl 0 rfl) ?_
  refine lv_iload_n F.1 F.2.1 dL_law_2122 rfl (lv_at hl 3 rfl) ?_
  refine lv_iconst (v := 4) F.1 F.2.1 dL_law_2123 ic_4 ?_
  refine lv_iadd F.1 F.2.1 dL_law_2124 ?_
  refine y_scr F hX hbl hbA hS (hA 4 (by decide)) dL_law_2125 ?_
  refine lv_aload_n F.1 F.2.1 dL_law_2126 rfl (lv_at hl 0 rfl) ?_
  refine lv_iload_n F.1 F.2.1 dL_law_2127 rfl (lv_at hl 3 rfl) ?_
  refine lv_iconst (v := 5) F.1 F.2.1 dL_law_2128 ic_5 ?_
  refine lv_iadd F.1 F.2.1 dL_law_2129 ?_
  refine y_scr F hX hbl hbA hS (hA 5 (by decide)) dL_law_2130 ?_
  obtain ⟨v_2131, w_2131, hc_2131, h⟩ := bi_s h
  refine x_goes (x_runV (As := [.int (A 1), .int (A 2), .int (A 3), .int (A 4), .int (A 5)]) (rest := []) F hP hS (c_X11_copy l D cT lo w ad0 (A 1) (A 2) (A 3) (A 4) (A 5) v_2131 w_2131 hc_2131) cw_X11_copy lk_L_229 vi_X11_copy k_1 (n2 (hP.al 1 rfl)) rfl ⟨rfl, rfl, Nat.le_of_ble_eq_true rfl, Nat.le_of_ble_eq_true rfl⟩ hl.1 rfl (Nat.le_of_ble_eq_true rfl) dL_law_2131 ⟨Nat.le_trans (by omega) hce, Nat.le_trans (by omega) hsl⟩) hS (fun H locs hP hS hm => ?_)
  have hM_w := hm
  refine lv_aload_n F.1 F.2.1 dL_law_2134 rfl (lv_at hl 2 rfl) ?_
  refine lv_aload_n F.1 F.2.1 dL_law_2135 rfl (lv_at hl 0 rfl) ?_
  refine lv_iload_n F.1 F.2.1 dL_law_2136 rfl (lv_at hl 3 rfl) ?_
  refine lv_iconst (v := 1) F.1 F.2.1 dL_law_2137 ic_1 ?_
  refine lv_iadd F.1 F.2.1 dL_law_2138 ?_
  refine y_scr F hX hbl hbA hS (hA 1 (by decide)) dL_law_2139 ?_
  refine lv_aload_n F.1 F.2.1 dL_law_2140 rfl (lv_at hl 0 rfl) ?_
  refine lv_iload_n F.1 F.2.1 dL_law_2141 rfl (lv_at hl 3 rfl) ?_
  refine lv_iconst (v := 2) F.1 F.2.1 dL_law_2142 ic_2 ?_
  refine lv_iadd F.1 F.2.1 dL_law_2143 ?_
  refine y_scr F hX hbl hbA hS (hA 2 (by decide)) dL_law_2144 ?_
  refine lv_aload_n F.1 F.2.1 dL_law_2145 rfl (lv_at hl 0 rfl) ?_
  refine lv_iload_n F.1 F.2.1 dL_law_2146 rfl (lv_at hl 3 rfl) ?_
  refine lv_iconst (v := 3) F.1 F.2.1 dL_law_2147 ic_3 ?_
  refine lv_iadd F.1 F.2.1 dL_law_2148 ?_
  refine y_scr F hX hbl hbA hS (hA 3 (by decide)) dL_law_2149 ?_
  refine lv_aload_n F.1 F.2.1 dL_law_2150 rfl (lv_at hl 0 rfl) ?_
  refine lv_iload_n F.1 F.2.1 dL_law_2151 rfl (lv_at hl 3 rfl) ?_
  refine lv_iconst (v := 4) F.1 F.2.1 dL_law_2152 ic_4 ?_
  refine lv_iadd F.1 F.2.1 dL_law_2153 ?_
  refine y_scr F hX hbl hbA hS (hA 4 (by decide)) dL_law_2154 ?_
  refine lv_aload_n F.1 F.2.1 dL_law_2155 rfl (lv_at hl 0 rfl) ?_
  refine lv_iload_n F.1 F.2.1 dL_law_2156 rfl (lv_at hl 3 rfl) ?_
  refine lv_iconst (v := 5) F.1 F.2.1 dL_law_2157 ic_5 ?_
  refine lv_iadd F.1 F.2.1 dL_law_2158 ?_
  refine y_scr F hX hbl hbA hS (hA 5 (by decide)) dL_law_2159 ?_
  obtain ⟨v_2160, w_2160, hc_2160, h⟩ := bi_s h
  refine x_goes (x_runV (As := [.int (A 1), .int (A 2), .int (A 3), .int (A 4), .int (A 5)]) (rest := [.int v_2131]) F hP hS (c_X12_copy l D cT lo w_2131 ad0 (A 1) (A 2) (A 3) (A 4) (A 5) v_2160 w_2160 hc_2160) cw_X12_copy lk_L_232 vi_X12_copy k_63 (n2 (hP.al 63 rfl)) rfl ⟨rfl, rfl, Nat.le_of_ble_eq_true rfl, Nat.le_of_ble_eq_true rfl⟩ hl.1 rfl (Nat.le_of_ble_eq_true rfl) dL_law_2160 ⟨Nat.le_trans (by omega) hce, Nat.le_trans (by omega) hsl⟩) hS (fun H locs hP hS hm => ?_)
  have hM_w := hM_w.trans hm
  refine lv_icmp_eq (tgt := 2228) F.1 F.2.1 dL_law_2163 (by decide) (fun hc => ?_) (fun hc => ?_)
  · have h := if_t _ hc h
    cases h
    refine W.widen (k := cells + 13) (n := slots + 89) (by omega) (by omega) ?_
    exact kk _ _ _ _ hP hS hl
  · have h := if_f _ hc h
    cases h
set_option maxRecDepth 100000 in
set_option maxHeartbeats 4000000 in
theorem lc_52 (F : Fx p s m #[Value.ref b] c cL_law RL 4 D cT lo) (hX : va_X b L xs s s.heap) (hbl : b < s.heap.size) (hbA : ¬ lo ≤ b) {A : Nat → Int32} {i : Int32} (hA : lA L xs i A) {w w9 : Wd} {ad0 : Nat → Nat} (hP : wP D cT lo NB w ad0 H) (hS : va_S (fun q => lo ≤ q) s.heap H locs) (hl : lv_has ls 4 [(0, .ref b), (1, .ref (ad0 1)), (2, .ref (ad0 63)), (3, .int i)]) (hce : cells + 13 ≤ 600000) (hsl : slots + 89 ≤ 7302250) (h : s_52 A w = some w9)
    (kk : ∀ (ad : Nat → Nat) (H : Heap) (locs : List Loc) (ls : Array Slot), wP D cT lo NB w9 ad H → va_S (fun q => lo ≤ q) s.heap H locs → lv_has ls 4 [(0, .ref b), (1, .ref (ad 1)), (2, .ref (ad 63)), (3, .int i)] → W p l e room_1 s m #[Value.ref b] below meth c H locs (cells + 13) (slots + 89) Q (F0 m 2228 ls [])) : W p l e room_1 s m #[Value.ref b] below meth c H locs cells slots Q (F0 m 2168 ls []) := by
  unfold s_52 at h
  have hx := F.1
  have hb := F.2.1
  have hM_w : mono w w := mono.refl
  have hXA : ∀ k, wA w k ≠ 0 → ad0 k = ad0 k := fun _ _ => rfl
  refine lv_aload_n F.1 F.2.1 dL_law_2168 rfl (lv_at hl 1 rfl) ?_
  refine lv_aload_n F.1 F.2.1 dL_law_2169 rfl (lv_at hl 0 rfl) ?_
  refine lv_iload_n F.1 F.2.1 dL_law_2170 rfl (lv_at hl 3 rfl) ?_
  refine lv_iconst (v := 1) F.1 F.2.1 dL_law_2171 ic_1 ?_
  refine lv_iadd F.1 F.2.1 dL_law_2172 ?_
  refine y_scr F hX hbl hbA hS (hA 1 (by decide)) dL_law_2173 ?_
  obtain ⟨v_2174, w_2174, hc_2174, h⟩ := bi_s h
  refine x_goesA (x_runV (As := [.int (A 1)]) (rest := []) F hP hS (c_X11_measure l D cT lo w ad0 (A 1) v_2174 w_2174 hc_2174) cw_X11_measure lk_L_233 vi_X11_measure k_1 (n2 (hP.al 1 rfl)) rfl ⟨rfl, rfl, Nat.le_of_ble_eq_true rfl, Nat.le_of_ble_eq_true rfl⟩ hl.1 rfl (Nat.le_of_ble_eq_true rfl) dL_law_2174 ⟨Nat.le_trans (by omega) hce, Nat.le_trans (by omega) hsl⟩) hS (fun ad H locs hx hP' hS hm => ?_)
  have e9 := hx 1 (n2 (hP.al 1 rfl))
  try rw [← e9] at hl
  try rw [← e9]
  have e9 := hx 63 (n2 (hP.al 63 rfl))
  try rw [← e9] at hl
  try rw [← e9]
  have hP := hP'
  have hXA : ∀ k, wA w k ≠ 0 → ad k = ad0 k := fun k hk => (hx k (hM_w.1 k hk)).trans (hXA k hk)
  have hM_w := hm
  refine lv_aload_n F.1 F.2.1 dL_law_2177 rfl (lv_at hl 2 rfl) ?_
  refine lv_aload_n F.1 F.2.1 dL_law_2178 rfl (lv_at hl 0 rfl) ?_
  refine lv_iload_n F.1 F.2.1 dL_law_2179 rfl (lv_at hl 3 rfl) ?_
  refine lv_iconst (v := 1) F.1 F.2.1 dL_law_2180 ic_1 ?_
  refine lv_iadd F.1 F.2.1 dL_law_2181 ?_
  refine y_scr F hX hbl hbA hS (hA 1 (by decide)) dL_law_2182 ?_
  obtain ⟨v_2183, w_2183, hc_2183, h⟩ := bi_s h
  refine x_goes (x_runV (As := [.int (A 1)]) (rest := [.int v_2174]) F hP hS (c_X12_measure l D cT lo w_2174 ad (A 1) v_2183 w_2183 hc_2183) cw_X12_measure lk_L_236 vi_X12_measure k_63 (n2 (hP.al 63 rfl)) rfl ⟨rfl, rfl, Nat.le_of_ble_eq_true rfl, Nat.le_of_ble_eq_true rfl⟩ hl.1 rfl (Nat.le_of_ble_eq_true rfl) dL_law_2183 ⟨Nat.le_trans (by omega) hce, Nat.le_trans (by omega) hsl⟩) hS (fun H locs hP hS hm => ?_)
  have hM_w := hM_w.trans hm
  refine lv_icmp_eq (tgt := 2228) F.1 F.2.1 dL_law_2186 (by decide) (fun hc => ?_) (fun hc => ?_)
  · have h := if_t _ hc h
    cases h
    refine W.widen (k := cells + 13) (n := slots + 89) (by omega) (by omega) ?_
    exact kk _ _ _ _ hP hS hl
  · have h := if_f _ hc h
    cases h
set_option maxRecDepth 100000 in
set_option maxHeartbeats 4000000 in
theorem lc_53 (F : Fx p s m #[Value.ref b] c cL_law RL 4 D cT lo) (hX : va_X b L xs s s.heap) (hbl : b < s.heap.size) (hbA : ¬ lo ≤ b) {A : Nat → Int32} {i : Int32} (hA : lA L xs i A) {w w9 : Wd} {ad0 : Nat → Nat} (hP : wP D cT lo NB w ad0 H) (hS : va_S (fun q => lo ≤ q) s.heap H locs) (hl : lv_has ls 4 [(0, .ref b), (1, .ref (ad0 1)), (2, .ref (ad0 63)), (3, .int i)]) (hce : cells + 13 ≤ 600000) (hsl : slots + 89 ≤ 7302250) (h : s_53 A w = some w9)
    (kk : ∀ (ad : Nat → Nat) (H : Heap) (locs : List Loc) (ls : Array Slot), wP D cT lo NB w9 ad H → va_S (fun q => lo ≤ q) s.heap H locs → lv_has ls 4 [(0, .ref b), (1, .ref (ad 1)), (2, .ref (ad 63)), (3, .int i)] → W p l e room_1 s m #[Value.ref b] below meth c H locs (cells + 13) (slots + 89) Q (F0 m 2228 ls [])) : W p l e room_1 s m #[Value.ref b] below meth c H locs cells slots Q (F0 m 2191 ls []) := by
  unfold s_53 at h
  have hx := F.1
  have hb := F.2.1
  have hM_w : mono w w := mono.refl
  have hXA : ∀ k, wA w k ≠ 0 → ad0 k = ad0 k := fun _ _ => rfl
  refine lv_aload_n F.1 F.2.1 dL_law_2191 rfl (lv_at hl 1 rfl) ?_
  refine lv_aload_n F.1 F.2.1 dL_law_2192 rfl (lv_at hl 0 rfl) ?_
  refine lv_iload_n F.1 F.2.1 dL_law_2193 rfl (lv_at hl 3 rfl) ?_
  refine lv_iconst (v := 1) F.1 F.2.1 dL_law_2194 ic_1 ?_
  refine lv_iadd F.1 F.2.1 dL_law_2195 ?_
  refine y_scr F hX hbl hbA hS (hA 1 (by decide)) dL_law_2196 ?_
  obtain ⟨v_2197, hc_2197, h⟩ := bo_s h
  refine x_goes (x_runV (As := [.int (A 1)]) (rest := []) F hP hS (c_X11_count l D cT lo w ad0 (A 1) v_2197 hc_2197) cw_X11_count lk_L_237 vi_X11_count k_1 (n2 (hP.al 1 rfl)) rfl ⟨rfl, rfl, Nat.le_of_ble_eq_true rfl, Nat.le_of_ble_eq_true rfl⟩ hl.1 rfl (Nat.le_of_ble_eq_true rfl) dL_law_2197 ⟨Nat.le_trans (by omega) hce, Nat.le_trans (by omega) hsl⟩) hS (fun H locs hP hS _ => ?_)
  refine lv_aload_n F.1 F.2.1 dL_law_2200 rfl (lv_at hl 2 rfl) ?_
  refine lv_aload_n F.1 F.2.1 dL_law_2201 rfl (lv_at hl 0 rfl) ?_
  refine lv_iload_n F.1 F.2.1 dL_law_2202 rfl (lv_at hl 3 rfl) ?_
  refine lv_iconst (v := 1) F.1 F.2.1 dL_law_2203 ic_1 ?_
  refine lv_iadd F.1 F.2.1 dL_law_2204 ?_
  refine y_scr F hX hbl hbA hS (hA 1 (by decide)) dL_law_2205 ?_
  obtain ⟨v_2206, hc_2206, h⟩ := bo_s h
  refine x_goes (x_runV (As := [.int (A 1)]) (rest := [.int v_2197]) F hP hS (c_X12_count l D cT lo w ad0 (A 1) v_2206 hc_2206) cw_X12_count lk_L_240 vi_X12_count k_63 (n2 (hP.al 63 rfl)) rfl ⟨rfl, rfl, Nat.le_of_ble_eq_true rfl, Nat.le_of_ble_eq_true rfl⟩ hl.1 rfl (Nat.le_of_ble_eq_true rfl) dL_law_2206 ⟨Nat.le_trans (by omega) hce, Nat.le_trans (by omega) hsl⟩) hS (fun H locs hP hS _ => ?_)
  refine lv_icmp_eq (tgt := 2228) F.1 F.2.1 dL_law_2209 (by decide) (fun hc => ?_) (fun hc => ?_)
  · have h := if_t _ hc h
    cases h
    refine W.widen (k := cells + 13) (n := slots + 89) (by omega) (by omega) ?_
    exact kk _ _ _ _ hP hS hl
  · have h := if_f _ hc h
    cases h
set_option maxRecDepth 100000 in
set_option maxHeartbeats 4000000 in
theorem lc_54 (F : Fx p s m #[Value.ref b] c cL_law RL 4 D cT lo) (hX : va_X b L xs s s.heap) (hbl : b < s.heap.size) (hbA : ¬ lo ≤ b) {A : Nat → Int32} {i : Int32} (hA : lA L xs i A) {w w9 : Wd} {ad0 : Nat → Nat} (hP : wP D cT lo NB w ad0 H) (hS : va_S (fun q => lo ≤ q) s.heap H locs) (hl : lv_has ls 4 [(0, .ref b), (1, .ref (ad0 1)), (2, .ref (ad0 63)), (3, .int i)]) (hce : cells + 13 ≤ 600000) (hsl : slots + 89 ≤ 7302250) (h : s_54 A w = some w9)
    (kk : ∀ (ad : Nat → Nat) (H : Heap) (locs : List Loc) (ls : Array Slot), wP D cT lo NB w9 ad H → va_S (fun q => lo ≤ q) s.heap H locs → lv_has ls 4 [(0, .ref b), (1, .ref (ad 1)), (2, .ref (ad 63)), (3, .int i)] → W p l e room_1 s m #[Value.ref b] below meth c H locs (cells + 13) (slots + 89) Q (F0 m 2228 ls [])) : W p l e room_1 s m #[Value.ref b] below meth c H locs cells slots Q (F0 m 2214 ls []) := by
  unfold s_54 at h
  have hx := F.1
  have hb := F.2.1
  have hM_w : mono w w := mono.refl
  have hXA : ∀ k, wA w k ≠ 0 → ad0 k = ad0 k := fun _ _ => rfl
  refine lv_aload_n F.1 F.2.1 dL_law_2214 rfl (lv_at hl 1 rfl) ?_
  obtain ⟨v_2215, w_2215, hc_2215, h⟩ := bi_s h
  refine x_goes (x_runV (As := []) (rest := []) F hP hS (c_X11_digest l D cT lo w ad0  v_2215 w_2215 hc_2215) cw_X11_digest lk_L_241 vi_X11_digest k_1 (n2 (hP.al 1 rfl)) rfl ⟨rfl, rfl, Nat.le_of_ble_eq_true rfl, Nat.le_of_ble_eq_true rfl⟩ hl.1 rfl (Nat.le_of_ble_eq_true rfl) dL_law_2215 ⟨Nat.le_trans (by omega) hce, Nat.le_trans (by omega) hsl⟩) hS (fun H locs hP hS hm => ?_)
  have hM_w := hm
  refine lv_aload_n F.1 F.2.1 dL_law_2218 rfl (lv_at hl 2 rfl) ?_
  obtain ⟨v_2219, w_2219, hc_2219, h⟩ := bi_s h
  refine x_goes (x_runV (As := []) (rest := [.long v_2215]) F hP hS (c_X12_digest l D cT lo w_2215 ad0  v_2219 w_2219 hc_2219) cw_X12_digest lk_L_245 vi_X12_digest k_63 (n2 (hP.al 63 rfl)) rfl ⟨rfl, rfl, Nat.le_of_ble_eq_true rfl, Nat.le_of_ble_eq_true rfl⟩ hl.1 rfl (Nat.le_of_ble_eq_true rfl) dL_law_2219 ⟨Nat.le_trans (by omega) hce, Nat.le_trans (by omega) hsl⟩) hS (fun H locs hP hS hm => ?_)
  have hM_w := hM_w.trans hm
  refine W.lcmp F.1 F.2.1 dL_law_2222 ?_
  refine lv_if_eq (tgt := 2228) F.1 F.2.1 dL_law_2223 (by decide) (fun hc => ?_) (fun hc => ?_)
  · have h := if_t _ hc h
    cases h
    refine W.widen (k := cells + 13) (n := slots + 89) (by omega) (by omega) ?_
    exact kk _ _ _ _ hP hS hl
  · have h := if_f _ hc h
    cases h
end LW
