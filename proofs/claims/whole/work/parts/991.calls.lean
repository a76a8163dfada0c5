/-! ===== the 55 calls ===== -/
theorem wq1 {t : Nat} {w w1 : Wd} (h : WQ t 1 w) (c : wS w1 2 4 = wS w 2 4) (m : am w w1) : WQ t 1 w1 := fun i hi hc => by
  rw [c] at hc
  rw [m]; exact h i hi hc
theorem wq3 {t : Nat} {w w1 : Wd} (h : WQ t 3 w) (c : wS w1 2 10 = wS w 2 10) (m : am w w1) : WQ t 3 w1 := fun i hi hc => by
  rw [c] at hc
  rw [m]; exact h i hi hc
theorem wq4 {t : Nat} {w w1 : Wd} (h : WQ t 4 w) (c : wS w1 2 15 = wS w 2 15) (m : am w w1) : WQ t 4 w1 := fun i hi hc => by
  rw [c] at hc
  rw [m]; exact h i hi hc
theorem wq5 {t : Nat} {w w1 : Wd} (h : WQ t 5 w) (c : wS w1 3 2 = wS w 3 2) (m : am w w1) : WQ t 5 w1 := fun i hi hc o ho => by
  rw [c] at hc
  rw [m]; exact h i hi hc o ho
theorem only1 {n : Nat} {w w' : Wd} (h : only n w w') : ∀ b, b ≠ 0 → b ∉ [n] → sm b w w' := fun b h0 hb => h b h0 (fun z => hb (by rw [z]; exact List.mem_singleton.mpr rfl))
theorem SK.mk {t n : Nat} {w v : Wd} {oc om : Option (Int32 × Wd)} (h : IN t w v) (e : ∃ r w1 v1, oc = some (r, w1) ∧ om = some (r, v1) ∧ RR n w1 v1 ∧ only n w w1 ∧ only n v v1 ∧ cm w w1 ∧ mm v v1 ∧ am v v1 ∧ (∀ k, ¬ WB n k → wA w1 k = wA w k) ∧ WQ t n w1) : SK (t + 1) w v oc om := by
  obtain ⟨r, w1, v1, h1, h2, h3, h4, h5, h6, h7, h8, h9, h10⟩ := e
  refine ⟨r, w1, v1, h1, h2, (h.up [n] (only1 h4) (only1 h5) (fun k hk => h9 k (hk n (List.mem_singleton.mpr rfl))) (fun m hm => ?_)).t, h6, h7, h8⟩
  rw [List.mem_singleton.mp hm]
  exact ⟨h3, h10⟩
theorem turn_eq (a b : Int32) : f_X11_turn a b = f_X12_turn a b := by
  unfold f_X11_turn f_X12_turn f_X12_isHeading
  rw [in_eq]
  rcases win_c a 0 35 with q | ⟨q, a1, a2⟩
  · rw [q]; rfl
  rw [q, if_neg one0, if_neg one0]
  have B := bt_w (bt_of a1 a2 (show (0 : Int32).toInt = 0 by decide) (show (35 : Int32).toInt = 35 by decide)) (show (-120 : Int) ≤ 0 by decide) (show (35 : Int) ≤ 120 by decide)
  rw [cos_eq B, sin_eq B]
section calls
variable {t : Nat} {w : Wd}
theorem zk_0 (A : Nat → Int32) (h : IN t w w) : ∃ w', s_0 A w = some w' ∧ IN (t + 1) w' w' := by
  unfold s_0
  rw [if_pos (turn_eq _ _)]
  exact ⟨w, rfl, h.t⟩

theorem zk_1 (A : Nat → Int32) (h : IN t w w) : ∃ w', s_1 A w = some w' ∧ IN (t + 1) w' w' := by
  unfold s_1
  exact kb h (fc := fun w => f_X11_house w (A 1) (A 2) (A 3) (A 4) (A 5) (A 6) (A 7)) (fm := fun w => f_X12_house w (A 1) (A 2) (A 3) (A 4) (A 5) (A 6) (A 7)) (fun w v h => by
    have e : f_X11_house w (A 1) (A 2) (A 3) (A 4) (A 5) (A 6) (A 7) = f_X8_addHouse w (A 1) (A 2) (A 3) (A 4) (A 5) (A 6) (A 7) := bi_id _
    simp only [e]
    obtain ⟨r, w1, v1, h1, h2, h3, h4, h5, h6, h7, h8, h9, h10⟩ := c_addHouse (h.1 1) (h.2 1) (A 1) (A 2) (A 3) (A 4) (A 5) (A 6) (A 7)
    exact SK.mk (n := 1) h ⟨r, w1, v1, h1, h2, h3, h4, h5, h6, h7, h8, fun k hk => h9 k (by
      have hk' : ¬ (300 ≤ k ∧ k < 320) := hk
      omega), h10⟩)

theorem zk_2 (A : Nat → Int32) (h : IN t w w) : ∃ w', s_2 A w = some w' ∧ IN (t + 1) w' w' := by
  unfold s_2
  exact kb h (fc := fun w => f_X11_cut w (A 1) (A 2)) (fm := fun w => f_X12_cut w (A 1) (A 2)) (fun w v h => by
    exact SK.of1 (a := 1) h (c_cut (h.1 1) _ _) (fun _ _ x => x) (fun r w1 e m => wq1 (h.2 1) (n_cut _ _ r w1 e) m))

theorem zk_3 (A : Nat → Int32) (h : IN t w w) : ∃ w', s_3 A w = some w' ∧ IN (t + 1) w' w' := by
  unfold s_3
  exact kb h (fc := fun w => f_X11_kerb w (A 1) (A 2) (A 3) (A 4)) (fm := fun w => f_X12_kerb w (A 1) (A 2) (A 3) (A 4)) (fun w v h => by
    have e : f_X11_kerb w (A 1) (A 2) (A 3) (A 4) = f_X8_addKerb w (A 1) (A 2) (A 3) (A 4) := bi_id _
    simp only [e]
    obtain ⟨r, w1, v1, h1, h2, h3, h4, h5, h6, h7, h8, h9, h10⟩ := c__addKerb (h.1 2) (h.2 2) (A 1) (A 2) (A 3) (A 4)
    exact SK.mk (n := 2) h ⟨r, w1, v1, h1, h2, h3, h4, h5, h6, h7, h8, fun k hk => h9 k (by
      have hk' : ¬ (330 ≤ k ∧ k < 340) := hk
      omega), h10⟩)

theorem zk_4 (A : Nat → Int32) (h : IN t w w) : ∃ w', s_4 A w = some w' ∧ IN (t + 1) w' w' := by
  unfold s_4
  exact kb h (fc := fun w => f_X11_wire w (A 1) (A 2) (A 3) (A 4) (A 5)) (fm := fun w => f_X12_wire w (A 1) (A 2) (A 3) (A 4) (A 5)) (fun w v h => by
    have e : f_X11_wire w (A 1) (A 2) (A 3) (A 4) (A 5) = f_X8_addWire w (A 1) (A 2) (A 3) (A 4) (A 5) := bi_id _
    simp only [e]
    obtain ⟨r, w1, v1, h1, h2, h3, h4, h5, h6, h7, h8, h9, h10⟩ := c__addWire (h.1 3) (h.2 3) (A 1) (A 2) (A 3) (A 4) (A 5)
    exact SK.mk (n := 3) h ⟨r, w1, v1, h1, h2, h3, h4, h5, h6, h7, h8, fun k hk => h9 k (by
      have hk' : ¬ (350 ≤ k ∧ k < 360) := hk
      omega), h10⟩)

theorem zk_5 (A : Nat → Int32) (h : IN t w w) : ∃ w', s_5 A w = some w' ∧ IN (t + 1) w' w' := by
  unfold s_5
  exact kb h (fc := fun w => f_X11_down w (A 1) (zb (A 2))) (fm := fun w => f_X12_down w (A 1) (zb (A 2))) (fun w v h => by
    have e : f_X11_down w (A 1) (zb (A 2)) = f_X8_lower w (A 1) (zb (A 2)) := bi_id _
    simp only [e]
    exact SK.of1 (a := 3) h (c_down (h.1 3) _ _ (zb_c _)) (fun _ _ x => x) (fun r w1 e m => wq3 (h.2 3) (n_lower _ _ r w1 e) m))

theorem zk_6 (A : Nat → Int32) (h : IN t w w) : ∃ w', s_6 A w = some w' ∧ IN (t + 1) w' w' := by
  unfold s_6
  exact kb h (fc := fun w => f_X11_slope w (A 1) (A 2) (A 3) (A 4) (A 5) (A 6) (zb (A 7))) (fm := fun w => f_X12_slope w (A 1) (A 2) (A 3) (A 4) (A 5) (A 6) (zb (A 7))) (fun w v h => by
    have e : f_X11_slope w (A 1) (A 2) (A 3) (A 4) (A 5) (A 6) (zb (A 7)) = f_X8_addSlope w (A 1) (A 2) (A 3) (A 4) (A 5) (A 6) (zb (A 7)) := bi_id _
    simp only [e]
    obtain ⟨r, w1, v1, h1, h2, h3, h4, h5, h6, h7, h8, h9, h10⟩ := c__addSlope (h.1 4) (h.2 4) (A 1) (A 2) (A 3) (A 4) (A 5) (A 6) (zb (A 7)) (zb_c _)
    exact SK.mk (n := 4) h ⟨r, w1, v1, h1, h2, h3, h4, h5, h6, h7, h8, fun k hk => h9 k (by
      have hk' : ¬ (370 ≤ k ∧ k < 380) := hk
      omega), h10⟩)

theorem zk_7 (A : Nat → Int32) (h : IN t w w) : ∃ w', s_7 A w = some w' ∧ IN (t + 1) w' w' := by
  unfold s_7
  exact kb h (fc := fun w => f_X11_rain w (zb (A 1))) (fm := fun w => f_X12_rain w (zb (A 1))) (fun w v h => by
    have e : f_X11_rain w (zb (A 1)) = f_X8_wetAll w (zb (A 1)) := bi_id _
    simp only [e]
    exact SK.of1 (a := 4) h (c_rain (h.1 4) _ (zb_c _)) (fun _ _ x => x) (fun r w1 e m => wq4 (h.2 4) (n_wet FU w 0 0 rfl r w1 e) m))

theorem zk_8 (A : Nat → Int32) (h : IN t w w) : ∃ w', s_8 A w = some w' ∧ IN (t + 1) w' w' := by
  unfold s_8
  exact kr h (c_ground (h.1 4) _ _ _)

theorem zk_9 (A : Nat → Int32) (h : IN t w w) : ∃ w', s_9 A w = some w' ∧ IN (t + 1) w' w' := by
  unfold s_9
  exact kb h (fc := fun w => f_X11_car w (A 1) (A 2) (A 3) (A 4)) (fm := fun w => f_X12_car w (A 1) (A 2) (A 3) (A 4)) (fun w v h => by
    have e : f_X11_car w (A 1) (A 2) (A 3) (A 4) = f_X3_addCar w (A 1) (A 2) (A 3) (A 4) := bi_id _
    simp only [e]
    obtain ⟨r, w1, v1, h1, h2, h3, h4, h5, h6, h7, h8, h9, h10⟩ := c_addCar (h.1 5) (h.2 5) (A 1) (A 2) (A 3) (A 4)
    exact SK.mk (n := 5) h ⟨r, w1, v1, h1, h2, h3, h4, h5, h6, h7, h8, fun k hk => h9 k (by
      have hk' : ¬ (1000 ≤ k ∧ k < 1080) := hk
      omega), h10⟩)

theorem zk_10 (A : Nat → Int32) (h : IN t w w) : ∃ w', s_10 A w = some w' ∧ IN (t + 1) w' w' := by
  unfold s_10
  exact kb h (fc := fun w => f_X11_storey w (A 1) (A 2) (A 3) (A 4)) (fm := fun w => f_X12_storey w (A 1) (A 2) (A 3) (A 4)) (fun w v h => by
    exact SK.of1 (a := 5) h (c_storey (h.1 5) _ _ _ _) (fun _ _ x => x) (fun r w1 e m => wq5 (h.2 5) (n_storey (h.1 5) _ _ _ _ r w1 e) m))

theorem zk_11 (A : Nat → Int32) (h : IN t w w) : ∃ w', s_11 A w = some w' ∧ IN (t + 1) w' w' := by
  unfold s_11
  exact kb h (fc := fun w => f_X11_stand w (A 1) (A 2) (A 3) (A 4)) (fm := fun w => f_X12_stand w (A 1) (A 2) (A 3) (A 4)) (fun w v h => by
    exact SK.of1 (a := 5) h (c_stand h.RS _ _ _ _) (fun _ _ x => x.2.2.2.2.1) (fun r w1 e m => wq5 (h.2 5) (n_stand h.RS _ _ _ _ r w1 e) m))

theorem zk_12 (A : Nat → Int32) (h : IN t w w) : ∃ w', s_12 A w = some w' ∧ IN (t + 1) w' w' := by
  unfold s_12
  exact kb h (fc := fun w => f_X11_leave w (A 1)) (fm := fun w => f_X12_leave w (A 1)) (fun w v h => by
    exact SK.of1 (a := 5) h (c_leave (h.1 5) _) (fun _ _ x => x) (fun r w1 e m => wq5 (h.2 5) (n_leave (h.1 5) _ r w1 e) m))

theorem zk_13 (A : Nat → Int32) (h : IN t w w) : ∃ w', s_13 A w = some w' ∧ IN (t + 1) w' w' := by
  unfold s_13
  exact kr h (c_about (h.1 5) _ _)

theorem zk_14 (A : Nat → Int32) (h : IN t w w) : ∃ w', s_14 A w = some w' ∧ IN (t + 1) w' w' := by
  unfold s_14
  exact kr h (c_wheel (h.1 5) _ _ _)

theorem zk_15 (A : Nat → Int32) (h : IN t w w) : ∃ w', s_15 A w = some w' ∧ IN (t + 1) w' w' := by
  unfold s_15
  exact kb h (fc := fun w => f_X11_feet w (A 1)) (fm := fun w => f_X12_feet w (A 1)) (fun w v h => by
    exact SK.of1 (a := 6) h (c_feet (h.1 6) _) (fun _ _ x => x) (fun _ _ _ _ => trivial))

theorem zk_16 (A : Nat → Int32) (h : IN t w w) : ∃ w', s_16 A w = some w' ∧ IN (t + 1) w' w' := by
  unfold s_16
  exact kb h (fc := fun w => f_X11_meets w (A 1) (A 2)) (fm := fun w => f_X12_meets w (A 1) (A 2)) (fun w v h => by
    obtain ⟨r, w1, v1, h1, h2, -, h4, h5, h6, h7, h8, h9⟩ := c_meets h.RS (A 1) (A 2)
    exact ⟨r, w1, v1, h1, h2, (h.fr0 h4 h5 h8).t, h6, h7, h9⟩)

theorem zk_17 (A : Nat → Int32) (h : IN t w w) : ∃ w', s_17 A w = some w' ∧ IN (t + 1) w' w' := by
  unfold s_17
  exact kb h (fc := fun w => f_X11_move w (A 1) (A 2)) (fm := fun w => f_X12_move w (A 1) (A 2)) (fun w v h => by
    exact SK.of1 (a := 5) h (c_move h.RS _ _) (fun _ _ x => x.2.2.2.2.1) (fun r w1 e m => wq5 (h.2 5) (n_move h.RS _ _ r w1 e) m))

theorem zk_18 (A : Nat → Int32) (h : IN t w w) (ht : t < 512) : ∃ w', s_18 A w = some w' ∧ IN (t + 1) w' w' := by
  unfold s_18
  exact kb h (fc := fun w => f_X11_way w (A 1) (A 2) (A 3) (A 4) (A 5) (A 6)) (fm := fun w => f_X12_way w (A 1) (A 2) (A 3) (A 4) (A 5) (A 6)) (fun w v h => by
    obtain ⟨g, g1, g2, g3⟩ := h.2 13
    obtain ⟨r, w1, v1, h1, h2, h3, h4, h5, h6, h7, h8, h9, g', h10, h11, h12⟩ := c_way h.RS (h.1 7) g2 (show g < 600 by omega) g3 (A 1) (A 2) (A 3) (A 4) (A 5) (A 6)
    refine ⟨r, w1, v1, h1, h2, h.t.up [7, 13] (fun b h0 hb => h4 b h0 (fun z => hb (by rw [z]; decide)) (fun z => hb (by rw [z]; decide))) (fun b h0 hb => h5 b h0 (fun z => hb (by rw [z]; decide))) (fun k hk => h9 k (by
      have hk' : ¬ (2000 ≤ k) := hk 13 (by decide)
      omega)) (fun n hn => ?_), h6, h7, h8⟩
    rcases List.mem_cons.mp hn with rfl | hn
    · exact ⟨h3, trivial⟩
    · rw [List.mem_singleton.mp hn]
      exact ⟨trivial, g', by omega, h11, h12⟩)

theorem zk_19 (A : Nat → Int32) (h : IN t w w) : ∃ w', s_19 A w = some w' ∧ IN (t + 1) w' w' := by
  unfold s_19
  exact kr h (c_step (h.1 7) _)

theorem zk_20 (A : Nat → Int32) (h : IN t w w) : ∃ w', s_20 A w = some w' ∧ IN (t + 1) w' w' := by
  unfold s_20
  rw [if_pos (c_seen (h.1 7))]
  exact ⟨w, rfl, h.t⟩

theorem zk_21 (A : Nat → Int32) (h : IN t w w) : ∃ w', s_21 A w = some w' ∧ IN (t + 1) w' w' := by
  unfold s_21
  exact kb h (fc := fun w => f_X11_rope w (A 1) (A 2) (A 3) (A 4) (A 5)) (fm := fun w => f_X12_rope w (A 1) (A 2) (A 3) (A 4) (A 5)) (fun w v h => by
    exact SK.of1 (a := 5) h (c_rope (h.1 5) _ _ _ _ _) (fun _ _ x => x) (fun r w1 e m => wq5 (h.2 5) (n_rope (h.1 5) _ _ _ _ _ r w1 e) m))

theorem zk_22 (A : Nat → Int32) (h : IN t w w) : ∃ w', s_22 A w = some w' ∧ IN (t + 1) w' w' := by
  unfold s_22
  exact kb h (fc := fun w => f_X11_set w (A 1) (A 2)) (fm := fun w => f_X12_set w (A 1) (A 2)) (fun w v h => by
    have e : f_X11_set w (A 1) (A 2) = f_X3_tellNumber w (A 1) (A 2) := bi_id _
    simp only [e]
    exact SK.of1 (a := 6) h (c_set (h.1 6) _ _) (fun _ _ x => x) (fun _ _ _ _ => trivial))

theorem zk_23 (A : Nat → Int32) (h : IN t w w) : ∃ w', s_23 A w = some w' ∧ IN (t + 1) w' w' := by
  unfold s_23
  exact kl h (fc := fun w => f_X11_tight w (A 1) (A 2)) (fm := fun w => f_X12_tight w (A 1) (A 2)) (fun w v R => c_tight R _ _)

theorem zk_24 (A : Nat → Int32) (h : IN t w w) : ∃ w', s_24 A w = some w' ∧ IN (t + 1) w' w' := by
  unfold s_24
  exact kl h (fc := fun w => f_X11_pull w (A 1)) (fm := fun w => f_X12_pull w (A 1)) (fun w v R => c_pull R _)

theorem zk_25 (A : Nat → Int32) (h : IN t w w) : ∃ w', s_25 A w = some w' ∧ IN (t + 1) w' w' := by
  unfold s_25
  exact kr h (c_need h.RS _)

theorem zk_26 (A : Nat → Int32) (h : IN t w w) : ∃ w', s_26 A w = some w' ∧ IN (t + 1) w' w' := by
  unfold s_26
  exact kl h (fc := fun w => f_X11_may w (A 1)) (fm := fun w => f_X12_may w (A 1)) (fun w v R => c_may R _)

theorem zk_27 (A : Nat → Int32) (h : IN t w w) : ∃ w', s_27 A w = some w' ∧ IN (t + 1) w' w' := by
  unfold s_27
  exact kl h (fc := fun w => f_X11_woods w (A 1)) (fm := fun w => f_X12_woods w (A 1)) (fun w v R => c_woods R _)

theorem zk_28 (A : Nat → Int32) (h : IN t w w) : ∃ w', s_28 A w = some w' ∧ IN (t + 1) w' w' := by
  unfold s_28
  exact kb h (fc := fun w => f_X11_team w (A 1)) (fm := fun w => f_X12_team w (A 1)) (fun w v h => by
    exact SK.of1 (a := 8) h (c_team (h.1 8) _) (fun _ _ x => x) (fun _ _ _ _ => trivial))

theorem zk_29 (A : Nat → Int32) (h : IN t w w) : ∃ w', s_29 A w = some w' ∧ IN (t + 1) w' w' := by
  unfold s_29
  exact kb h (fc := fun w => f_X11_stage w (A 1)) (fm := fun w => f_X12_stage w (A 1)) (fun w v h => by
    exact SK.of1 (a := 8) h (c_stage (h.1 8) _) (fun _ _ x => x) (fun _ _ _ _ => trivial))

theorem zk_30 (A : Nat → Int32) (h : IN t w w) : ∃ w', s_30 A w = some w' ∧ IN (t + 1) w' w' := by
  unfold s_30
  exact kb h (fc := fun w => f_X11_run w (A 1)) (fm := fun w => f_X12_run w (A 1)) (fun w v h => by
    exact SK.of1 (a := 8) h (c_run (h.1 8) _) (fun _ _ x => x) (fun _ _ _ _ => trivial))

theorem zk_31 (A : Nat → Int32) (h : IN t w w) : ∃ w', s_31 A w = some w' ∧ IN (t + 1) w' w' := by
  unfold s_31
  exact kb h (fc := fun w => f_X11_roster w) (fm := fun w => f_X12_roster w) (fun w v h => by
    exact SK.of1 (a := 8) h (c_roster (h.1 8)) (fun _ _ x => x) (fun _ _ _ _ => trivial))

theorem zk_32 (A : Nat → Int32) (h : IN t w w) : ∃ w', s_32 A w = some w' ∧ IN (t + 1) w' w' := by
  unfold s_32
  exact kb h (fc := fun w => f_X11_pulls w (A 1)) (fm := fun w => f_X12_pulls w (A 1)) (fun w v h => by
    exact SK.of1 (a := 8) h (c_pulls (h.1 8) _) (fun _ _ x => x) (fun _ _ _ _ => trivial))

theorem zk_33 (A : Nat → Int32) (h : IN t w w) : ∃ w', s_33 A w = some w' ∧ IN (t + 1) w' w' := by
  unfold s_33
  exact kb h (fc := fun w => f_X11_block w (A 1) (A 2) (zb (A 3))) (fm := fun w => f_X12_block w (A 1) (A 2) (zb (A 3))) (fun w v h => by
    have e : f_X11_block w (A 1) (A 2) (zb (A 3)) = f_X2_tellBlock w (A 1) (A 2) (zb (A 3)) := bi_id _
    simp only [e]
    exact SK.of1 (a := 9) h (c_block (h.1 9) _ _ _ (zb_c _)) (fun _ _ x => x) (fun _ _ _ _ => trivial))

theorem zk_34 (A : Nat → Int32) (h : IN t w w) : ∃ w', s_34 A w = some w' ∧ IN (t + 1) w' w' := by
  unfold s_34
  exact kb h (fc := fun w => f_X11_enter w (A 1) (A 2) (A 3)) (fm := fun w => f_X12_enter w (A 1) (A 2) (A 3)) (fun w v h => by
    have e : f_X11_enter w (A 1) (A 2) (A 3) = f_X2_addCar w (A 1) (A 2) (A 3) := bi_id _
    simp only [e]
    exact SK.of1 (a := 9) h (c_enter (h.1 9) _ _ _) (fun _ _ x => x) (fun _ _ _ _ => trivial))

theorem zk_35 (A : Nat → Int32) (h : IN t w w) : ∃ w', s_35 A w = some w' ∧ IN (t + 1) w' w' := by
  unfold s_35
  exact kb h (fc := fun w => f_X11_stuck w (A 1) (A 2) (A 3)) (fm := fun w => f_X12_stuck w (A 1) (A 2) (A 3)) (fun w v h => by
    have e : f_X11_stuck w (A 1) (A 2) (A 3) = f_X2_stick w (A 1) (A 2) (A 3) := bi_id _
    simp only [e]
    exact SK.of1 (a := 9) h (c_stuck (h.1 9) _ _ _) (fun _ _ x => x) (fun _ _ _ _ => trivial))

theorem zk_36 (A : Nat → Int32) (h : IN t w w) : ∃ w', s_36 A w = some w' ∧ IN (t + 1) w' w' := by
  unfold s_36
  exact kb h (fc := fun w => f_X11_home w) (fm := fun w => f_X12_home w) (fun w v h => by
    have e : f_X11_home w = f_X2_clearCars w := bi_id _
    simp only [e]
    exact SK.of1 (a := 9) h (c_home (h.1 9)) (fun _ _ x => x) (fun _ _ _ _ => trivial))

theorem zk_37 (A : Nat → Int32) (h : IN t w w) : ∃ w', s_37 A w = some w' ∧ IN (t + 1) w' w' := by
  unfold s_37
  exact kb h (fc := fun w => f_X11_gone w (A 1)) (fm := fun w => f_X12_gone w (A 1)) (fun w v h => by
    exact SK.of1 (a := 9) h (c_gone (h.1 9) _) (fun _ _ x => x) (fun _ _ _ _ => trivial))

theorem zk_38 (A : Nat → Int32) (h : IN t w w) : ∃ w', s_38 A w = some w' ∧ IN (t + 1) w' w' := by
  unfold s_38
  exact kb h (fc := fun w => f_X11_where w (A 1) (A 2)) (fm := fun w => f_X12_where w (A 1) (A 2)) (fun w v h => by
    exact SK.of1 (a := 9) h (c_where (h.1 9) _ _) (fun _ _ x => x) (fun _ _ _ _ => trivial))

theorem zk_39 (A : Nat → Int32) (h : IN t w w) : ∃ w', s_39 A w = some w' ∧ IN (t + 1) w' w' := by
  unfold s_39
  exact kb h (fc := fun w => f_X11_task w (A 1) (A 2)) (fm := fun w => f_X12_task w (A 1) (A 2)) (fun w v h => by
    have e : f_X11_task w (A 1) (A 2) = f_X9_addTask w (A 1) (A 2) := bi_id _
    simp only [e]
    exact SK.of1 (a := 10) h (c_task (h.1 10) _ _) (fun _ _ x => x) (fun _ _ _ _ => trivial))

theorem zk_40 (A : Nat → Int32) (h : IN t w w) : ∃ w', s_40 A w = some w' ∧ IN (t + 1) w' w' := by
  unfold s_40
  exact kb h (fc := fun w => f_X11_crews w (A 1)) (fm := fun w => f_X12_crews w (A 1)) (fun w v h => by
    have e : f_X11_crews w (A 1) = f_X9_tellCrews w (A 1) := bi_id _
    simp only [e]
    exact SK.of1 (a := 10) h (c_crews (h.1 10) _) (fun _ _ x => x) (fun _ _ _ _ => trivial))

theorem zk_41 (A : Nat → Int32) (h : IN t w w) : ∃ w', s_41 A w = some w' ∧ IN (t + 1) w' w' := by
  unfold s_41
  exact kb h (fc := fun w => f_X11_late w (A 1)) (fm := fun w => f_X12_late w (A 1)) (fun w v h => by
    exact SK.of1 (a := 10) h (c_late (h.1 10) _) (fun _ _ x => x) (fun _ _ _ _ => trivial))

theorem zk_42 (A : Nat → Int32) (h : IN t w w) : ∃ w', s_42 A w = some w' ∧ IN (t + 1) w' w' := by
  unfold s_42
  exact kb h (fc := fun w => f_X11_latest w (A 1)) (fm := fun w => f_X12_latest w (A 1)) (fun w v h => by
    exact SK.of1 (a := 10) h (c_latest (h.1 10) _) (fun _ _ x => x) (fun _ _ _ _ => trivial))

theorem zk_43 (A : Nat → Int32) (h : IN t w w) : ∃ w', s_43 A w = some w' ∧ IN (t + 1) w' w' := by
  unfold s_43
  exact kb h (fc := fun w => f_X11_type w (A 1)) (fm := fun w => f_X12_type w (A 1)) (fun w v h => by
    have e : f_X11_type w (A 1) = f_X4_append w (A 1) := bi_id _
    simp only [e]
    exact SK.of1 (a := 11) h (c_type (h.1 11) _) (fun _ _ x => x) (fun _ _ _ _ => trivial))

theorem zk_44 (A : Nat → Int32) (h : IN t w w) : ∃ w', s_44 A w = some w' ∧ IN (t + 1) w' w' := by
  unfold s_44
  exact kb h (fc := fun w => f_X11_tear w) (fm := fun w => f_X12_tear w) (fun w v h => by
    have e : f_X11_tear w = f_X4_clear w := bi_id _
    simp only [e]
    exact SK.of1 (a := 11) h (c_tear (h.1 11)) (fun _ _ x => x) (fun _ _ _ _ => trivial))

theorem zk_45 (A : Nat → Int32) (h : IN t w w) : ∃ w', s_45 A w = some w' ∧ IN (t + 1) w' w' := by
  unfold s_45
  obtain ⟨r, v', h1, h2, h3⟩ := c_fault (h.1 11)
  rw [h1, bo_e, h2, bi_e, if_pos rfl]
  exact ⟨v', rfl, (h.fr0 h3.only h3.only h3.2).t⟩

theorem zk_46 (A : Nat → Int32) (h : IN t w w) : ∃ w', s_46 A w = some w' ∧ IN (t + 1) w' w' := by
  unfold s_46
  exact kb h (fc := fun w => f_X11_perform w (A 1)) (fm := fun w => f_X12_perform w (A 1)) (fun w v h => by
    obtain ⟨r, w1, v1, h1, h2, h3, h4, h5, h6, h7, h8, h9, h10, h11⟩ := c_perform h.RS (h.1 11) (A 1)
    refine ⟨r, w1, v1, h1, h2, (h.up [3, 5, 6] (fun b h0 hb => h4 b h0 (fun z => hb (by rw [z]; decide)) (fun z => hb (by rw [z]; decide)) (fun z => hb (by rw [z]; decide))) (fun b h0 hb => h5 b h0 (fun z => hb (by rw [z]; decide)) (fun z => hb (by rw [z]; decide)) (fun z => hb (by rw [z]; decide))) (fun k _ => h8 k) (fun n hn => ?_)).t, h6, h7, h9⟩
    rcases List.mem_cons.mp hn with rfl | hn
    · exact ⟨h3.2.2.1, wq3 (h.2 3) h11 h8⟩
    rcases List.mem_cons.mp hn with rfl | hn
    · exact ⟨h3.2.2.2.2.1, wq5 (h.2 5) h10 h8⟩
    · rw [List.mem_singleton.mp hn]
      exact ⟨h3.2.2.2.2.2, trivial⟩)

theorem zk_47 (A : Nat → Int32) (h : IN t w w) : ∃ w', s_47 A w = some w' ∧ IN (t + 1) w' w' := by
  unfold s_47
  exact kb h (fc := fun w => f_X11_sheet w (A 1) (A 2) (A 3)) (fm := fun w => f_X12_sheet w (A 1) (A 2) (A 3)) (fun w v h => by
    exact SK.of1 (a := 12) h (c_sheet (h.1 12) _ _ _) (fun _ _ x => x) (fun _ _ _ _ => trivial))

theorem zk_48 (A : Nat → Int32) (h : IN t w w) : ∃ w', s_48 A w = some w' ∧ IN (t + 1) w' w' := by
  unfold s_48
  exact kb h (fc := fun w => f_X11_lose w (A 1)) (fm := fun w => f_X12_lose w (A 1)) (fun w v h => by
    exact SK.of1 (a := 12) h (c_lose (h.1 12) _) (fun _ _ x => x) (fun _ _ _ _ => trivial))

theorem zk_49 (A : Nat → Int32) (h : IN t w w) : ∃ w', s_49 A w = some w' ∧ IN (t + 1) w' w' := by
  unfold s_49
  exact kb h (fc := fun w => f_X11_put w (A 1) (A 2) (A 3) (A 4)) (fm := fun w => f_X12_put w (A 1) (A 2) (A 3) (A 4)) (fun w v h => by
    exact SK.of1 (a := 12) h (c_put (h.1 12) _ _ _ _) (fun _ _ x => x) (fun _ _ _ _ => trivial))

theorem zk_50 (A : Nat → Int32) (h : IN t w w) : ∃ w', s_50 A w = some w' ∧ IN (t + 1) w' w' := by
  unfold s_50
  exact kb h (fc := fun w => f_X11_get w (A 1) (A 2) (A 3)) (fm := fun w => f_X12_get w (A 1) (A 2) (A 3)) (fun w v h => by
    exact SK.of1 (a := 12) h (c_get (h.1 12) _ _ _) (fun _ _ x => x) (fun _ _ _ _ => trivial))

theorem zk_51 (A : Nat → Int32) (h : IN t w w) : ∃ w', s_51 A w = some w' ∧ IN (t + 1) w' w' := by
  unfold s_51
  exact kb h (fc := fun w => f_X11_copy w (A 1) (A 2) (A 3) (A 4) (A 5)) (fm := fun w => f_X12_copy w (A 1) (A 2) (A 3) (A 4) (A 5)) (fun w v h => by
    exact SK.of1 (a := 12) h (c_copy (h.1 12) _ _ _ _ _) (fun _ _ x => x) (fun _ _ _ _ => trivial))

theorem zk_52 (A : Nat → Int32) (h : IN t w w) : ∃ w', s_52 A w = some w' ∧ IN (t + 1) w' w' := by
  unfold s_52
  exact kb h (fc := fun w => f_X11_measure w (A 1)) (fm := fun w => f_X12_measure w (A 1)) (fun w v h => by
    obtain ⟨r, w1, v1, h1, h2, h3, h12, h4, h5, h6, h7, h8, h9, h10⟩ := c_measure (h.1 1) (h.1 12) (h.2 1) (A 1)
    refine ⟨r, w1, v1, h1, h2, (h.up [1, 12] (fun b h0 hb => h4 b h0 (fun z => hb (by rw [z]; decide)) (fun z => hb (by rw [z]; decide))) (fun b h0 hb => h5 b h0 (fun z => hb (by rw [z]; decide)) (fun z => hb (by rw [z]; decide))) (fun k hk => h9 k (by
      have hk' : ¬ (300 ≤ k ∧ k < 320) := hk 1 (by decide)
      omega)) (fun n hn => ?_)).t, h6, h7, h8⟩
    rcases List.mem_cons.mp hn with rfl | hn
    · exact ⟨h3, h10⟩
    · rw [List.mem_singleton.mp hn]
      exact ⟨h12, trivial⟩)

theorem zk_53 (A : Nat → Int32) (h : IN t w w) : ∃ w', s_53 A w = some w' ∧ IN (t + 1) w' w' := by
  unfold s_53
  obtain ⟨n, ns, D, -⟩ := h.1 8
  obtain ⟨n9, -, a1, a2, -⟩ := h.1 9
  obtain ⟨n10, -, b1, b2, -⟩ := h.1 10
  obtain ⟨n11, -, c1, c2, -⟩ := h.1 11
  exact kr h (c_count h.RS (a1.trans a2.symm) (b1.trans b2.symm) (c1.trans c2.symm) (h.1 12).2 (D.2.2.1.trans D.2.2.2.1.symm) (D.2.2.2.2.1.trans D.2.2.2.2.2.1.symm) _)
theorem zk_54 (A : Nat → Int32) (h : IN t w w) : ∃ w', s_54 A w = some w' ∧ IN (t + 1) w' w' := by
  unfold s_54
  obtain ⟨r, w1, w2, a1, a2, a3⟩ := kk h (fc := fun w => f_X11_digest w) (fm := fun w => f_X12_digest w) (fun w v h => by
    obtain ⟨r, w1, v1, h1, h2, h3, h4, h5, h6, h7, h8, h9⟩ := c_digest h.RS (h.1 8) (h.1 9) (h.1 10) (h.1 11) (h.1 12)
    refine ⟨r, w1, v1, h1, h2, (h.up [8] (only1 h4) (only1 h5) (fun k _ => h8 k) (fun n hn => ?_)).t, h6, h7, h9⟩
    rw [List.mem_singleton.mp hn]
    exact ⟨h3, trivial⟩)
  refine ⟨w2, ?_, a3⟩
  have a1' : f_X11_digest w = some (r, w1) := a1
  have a2' : f_X12_digest w1 = some (r, w2) := a2
  rw [a1', bi_e, a2', bi_e, if_pos ((lg_eq r r).mpr rfl)]
end calls
def GK (f : (Nat → Int32) → Wd → Option Wd) : Prop := ∀ (t : Nat) (A : Nat → Int32) (w : Wd), t < 512 → IN t w w → ∃ w', f A w = some w' ∧ IN (t + 1) w' w'

theorem all_k : ∀ f, f ∈ s_all → GK f := List.forall_mem_cons.mpr ⟨fun t A w ht h => zk_0 A h, List.forall_mem_cons.mpr ⟨fun t A w ht h => zk_1 A h, List.forall_mem_cons.mpr ⟨fun t A w ht h => zk_2 A h, List.forall_mem_cons.mpr ⟨fun t A w ht h => zk_3 A h, List.forall_mem_cons.mpr ⟨fun t A w ht h => zk_4 A h, List.forall_mem_cons.mpr ⟨fun t A w ht h => zk_5 A h, List.forall_mem_cons.mpr ⟨fun t A w ht h => zk_6 A h, List.forall_mem_cons.mpr ⟨fun t A w ht h => zk_7 A h, List.forall_mem_cons.mpr ⟨fun t A w ht h => zk_8 A h, List.forall_mem_cons.mpr ⟨fun t A w ht h => zk_9 A h, List.forall_mem_cons.mpr ⟨fun t A w ht h => zk_10 A h, List.forall_mem_cons.mpr ⟨fun t A w ht h => zk_11 A h, List.forall_mem_cons.mpr ⟨fun t A w ht h => zk_12 A h, List.forall_mem_cons.mpr ⟨fun t A w ht h => zk_13 A h, List.forall_mem_cons.mpr ⟨fun t A w ht h => zk_14 A h, List.forall_mem_cons.mpr ⟨fun t A w ht h => zk_15 A h, List.forall_mem_cons.mpr ⟨fun t A w ht h => zk_16 A h, List.forall_mem_cons.mpr ⟨fun t A w ht h => zk_17 A h, List.forall_mem_cons.mpr ⟨fun t A w ht h => zk_18 A h ht, List.forall_mem_cons.mpr ⟨fun t A w ht h => zk_19 A h, List.forall_mem_cons.mpr ⟨fun t A w ht h => zk_20 A h, List.forall_mem_cons.mpr ⟨fun t A w ht h => zk_21 A h, List.forall_mem_cons.mpr ⟨fun t A w ht h => zk_22 A h, List.forall_mem_cons.mpr ⟨fun t A w ht h => zk_23 A h, List.forall_mem_cons.mpr ⟨fun t A w ht h => zk_24 A h, List.forall_mem_cons.mpr ⟨fun t A w ht h => zk_25 A h, List.forall_mem_cons.mpr ⟨fun t A w ht h => zk_26 A h, List.forall_mem_cons.mpr ⟨fun t A w ht h => zk_27 A h, List.forall_mem_cons.mpr ⟨fun t A w ht h => zk_28 A h, List.forall_mem_cons.mpr ⟨fun t A w ht h => zk_29 A h, List.forall_mem_cons.mpr ⟨fun t A w ht h => zk_30 A h, List.forall_mem_cons.mpr ⟨fun t A w ht h => zk_31 A h, List.forall_mem_cons.mpr ⟨fun t A w ht h => zk_32 A h, List.forall_mem_cons.mpr ⟨fun t A w ht h => zk_33 A h, List.forall_mem_cons.mpr ⟨fun t A w ht h => zk_34 A h, List.forall_mem_cons.mpr ⟨fun t A w ht h => zk_35 A h, List.forall_mem_cons.mpr ⟨fun t A w ht h => zk_36 A h, List.forall_mem_cons.mpr ⟨fun t A w ht h => zk_37 A h, List.forall_mem_cons.mpr ⟨fun t A w ht h => zk_38 A h, List.forall_mem_cons.mpr ⟨fun t A w ht h => zk_39 A h, List.forall_mem_cons.mpr ⟨fun t A w ht h => zk_40 A h, List.forall_mem_cons.mpr ⟨fun t A w ht h => zk_41 A h, List.forall_mem_cons.mpr ⟨fun t A w ht h => zk_42 A h, List.forall_mem_cons.mpr ⟨fun t A w ht h => zk_43 A h, List.forall_mem_cons.mpr ⟨fun t A w ht h => zk_44 A h, List.forall_mem_cons.mpr ⟨fun t A w ht h => zk_45 A h, List.forall_mem_cons.mpr ⟨fun t A w ht h => zk_46 A h, List.forall_mem_cons.mpr ⟨fun t A w ht h => zk_47 A h, List.forall_mem_cons.mpr ⟨fun t A w ht h => zk_48 A h, List.forall_mem_cons.mpr ⟨fun t A w ht h => zk_49 A h, List.forall_mem_cons.mpr ⟨fun t A w ht h => zk_50 A h, List.forall_mem_cons.mpr ⟨fun t A w ht h => zk_51 A h, List.forall_mem_cons.mpr ⟨fun t A w ht h => zk_52 A h, List.forall_mem_cons.mpr ⟨fun t A w ht h => zk_53 A h, List.forall_mem_cons.mpr ⟨fun t A w ht h => zk_54 A h, fun f hf => absurd hf List.not_mem_nil⟩⟩⟩⟩⟩⟩⟩⟩⟩⟩⟩⟩⟩⟩⟩⟩⟩⟩⟩⟩⟩⟩⟩⟩⟩⟩⟩⟩⟩⟩⟩⟩⟩⟩⟩⟩⟩⟩⟩⟩⟩⟩⟩⟩⟩⟩⟩⟩⟩⟩⟩⟩⟩⟩⟩

theorem hI_k : ∀ (t : Nat) (A : Nat → Int32) (w : Wd), t < 512 → IN t w w → ∃ w', l_step A w = some w' ∧ IN (t + 1) w' w' := by
  intro t A w ht h
  unfold l_step
  cases e : s_all[(A 0 &&& 63).toNatClampNeg]? with
  | none => exact ⟨w, rfl, h.t⟩
  | some f => exact all_k f (List.mem_of_getElem? e) t A w ht h
