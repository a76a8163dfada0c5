theorem tw_0 {j : Nat} {c : Cond} (h : (k2_sels lw_privs)[j]? = some c) (hg : goodWord c = true) : c ∈ TW := List.mem_filter.mpr ⟨List.mem_append_left _ (List.mem_of_getElem? h), hg⟩
theorem tw_1 {j : Nat} {c : Cond} (h : tables_1_1[j]? = some c) (hg : goodWord c = true) : c ∈ TW := List.mem_filter.mpr ⟨List.mem_append_right _ (show c ∈ tables_1 from List.mem_append_left _ (List.mem_of_getElem? h)), hg⟩
theorem tw_2 {j : Nat} {c : Cond} (h : tables_1_2[j]? = some c) (hg : goodWord c = true) : c ∈ TW := List.mem_filter.mpr ⟨List.mem_append_right _ (show c ∈ tables_1 from List.mem_append_right _ (List.mem_append_left _ (List.mem_of_getElem? h))), hg⟩
theorem tw_3 {j : Nat} {c : Cond} (h : tables_1_3[j]? = some c) (hg : goodWord c = true) : c ∈ TW := List.mem_filter.mpr ⟨List.mem_append_right _ (show c ∈ tables_1 from List.mem_append_right _ (List.mem_append_right _ (List.mem_append_left _ (List.mem_of_getElem? h)))), hg⟩
theorem tw_4 {j : Nat} {c : Cond} (h : tables_1_4[j]? = some c) (hg : goodWord c = true) : c ∈ TW := List.mem_filter.mpr ⟨List.mem_append_right _ (show c ∈ tables_1 from List.mem_append_right _ (List.mem_append_right _ (List.mem_append_right _ (List.mem_append_left _ (List.mem_of_getElem? h))))), hg⟩
theorem tw_5 {j : Nat} {c : Cond} (h : tables_1_5[j]? = some c) (hg : goodWord c = true) : c ∈ TW := List.mem_filter.mpr ⟨List.mem_append_right _ (show c ∈ tables_1 from List.mem_append_right _ (List.mem_append_right _ (List.mem_append_right _ (List.mem_append_right _ (List.mem_append_left _ (List.mem_of_getElem? h)))))), hg⟩
theorem tw_6 {j : Nat} {c : Cond} (h : tables_1_6[j]? = some c) (hg : goodWord c = true) : c ∈ TW := List.mem_filter.mpr ⟨List.mem_append_right _ (show c ∈ tables_1 from List.mem_append_right _ (List.mem_append_right _ (List.mem_append_right _ (List.mem_append_right _ (List.mem_append_right _ (List.mem_append_left _ (List.mem_of_getElem? h))))))), hg⟩
theorem tw_7 {j : Nat} {c : Cond} (h : tables_1_7[j]? = some c) (hg : goodWord c = true) : c ∈ TW := List.mem_filter.mpr ⟨List.mem_append_right _ (show c ∈ tables_1 from List.mem_append_right _ (List.mem_append_right _ (List.mem_append_right _ (List.mem_append_right _ (List.mem_append_right _ (List.mem_append_right _ (List.mem_append_left _ (List.mem_of_getElem? h)))))))), hg⟩
theorem tw_8 {j : Nat} {c : Cond} (h : tables_1_8[j]? = some c) (hg : goodWord c = true) : c ∈ TW := List.mem_filter.mpr ⟨List.mem_append_right _ (show c ∈ tables_1 from List.mem_append_right _ (List.mem_append_right _ (List.mem_append_right _ (List.mem_append_right _ (List.mem_append_right _ (List.mem_append_right _ (List.mem_append_right _ (List.mem_append_left _ (List.mem_of_getElem? h))))))))), hg⟩
theorem tw_9 {j : Nat} {c : Cond} (h : tables_1_9[j]? = some c) (hg : goodWord c = true) : c ∈ TW := List.mem_filter.mpr ⟨List.mem_append_right _ (show c ∈ tables_1 from List.mem_append_right _ (List.mem_append_right _ (List.mem_append_right _ (List.mem_append_right _ (List.mem_append_right _ (List.mem_append_right _ (List.mem_append_right _ (List.mem_append_right _ (List.mem_of_getElem? h))))))))), hg⟩
theorem ic_0 : Int32.ofInt 0 = 0 := by decide
theorem ic_1 : Int32.ofInt 1 = 1 := by decide
theorem ib_65 : (Int8.ofInt 65).toInt32 = 65 := by decide
theorem ic_5 : Int32.ofInt 5 = 5 := by decide
theorem ic_4 : Int32.ofInt 4 = 4 := by decide
theorem ib_20 : (Int8.ofInt 20).toInt32 = 20 := by decide
theorem ib_99 : (Int8.ofInt 99).toInt32 = 99 := by decide
theorem ib_m2 : (Int8.ofInt (-2)).toInt32 = (-2) := by decide
theorem ib_30 : (Int8.ofInt 30).toInt32 = 30 := by decide
theorem ib_m4 : (Int8.ofInt (-4)).toInt32 = (-4) := by decide
theorem ib_100 : (Int8.ofInt 100).toInt32 = 100 := by decide
theorem ic_2 : Int32.ofInt 2 = 2 := by decide
theorem ic_3 : Int32.ofInt 3 = 3 := by decide
theorem ib_10 : (Int8.ofInt 10).toInt32 = 10 := by decide
theorem ib_18 : (Int8.ofInt 18).toInt32 = 18 := by decide
theorem ib_19 : (Int8.ofInt 19).toInt32 = 19 := by decide
theorem ib_60 : (Int8.ofInt 60).toInt32 = 60 := by decide
theorem is_999 : (Int16.ofInt 999).toInt32 = 999 := by decide
theorem is_2000 : (Int16.ofInt 2000).toInt32 = 2000 := by decide
theorem ib_101 : (Int8.ofInt 101).toInt32 = 101 := by decide
theorem ic_m1 : Int32.ofInt (-1) = (-1) := by decide
theorem ib_12 : (Int8.ofInt 12).toInt32 = 12 := by decide
theorem ib_9 : (Int8.ofInt 9).toInt32 = 9 := by decide
theorem ib_6 : (Int8.ofInt 6).toInt32 = 6 := by decide
theorem ib_36 : (Int8.ofInt 36).toInt32 = 36 := by decide
theorem is_4225 : (Int16.ofInt 4225).toInt32 = 4225 := by decide
theorem is_6000 : (Int16.ofInt 6000).toInt32 = 6000 := by decide
theorem is_5000 : (Int16.ofInt 5000).toInt32 = 5000 := by decide
theorem is_4000 : (Int16.ofInt 4000).toInt32 = 4000 := by decide
theorem is_3000 : (Int16.ofInt 3000).toInt32 = 3000 := by decide
theorem is_1000 : (Int16.ofInt 1000).toInt32 = 1000 := by decide
theorem ib_80 : (Int8.ofInt 80).toInt32 = 80 := by decide
theorem is_255 : (Int16.ofInt 255).toInt32 = 255 := by decide
theorem ib_48 : (Int8.ofInt 48).toInt32 = 48 := by decide
theorem ib_57 : (Int8.ofInt 57).toInt32 = 57 := by decide
theorem ib_40 : (Int8.ofInt 40).toInt32 = 40 := by decide
theorem ib_108 : (Int8.ofInt 108).toInt32 = 108 := by decide
theorem ib_114 : (Int8.ofInt 114).toInt32 = 114 := by decide
theorem ib_119 : (Int8.ofInt 119).toInt32 = 119 := by decide
theorem ib_59 : (Int8.ofInt 59).toInt32 = 59 := by decide
theorem ib_102 : (Int8.ofInt 102).toInt32 = 102 := by decide
theorem ib_m10 : (Int8.ofInt (-10)).toInt32 = (-10) := by decide
theorem is_m500 : (Int16.ofInt (-500)).toInt32 = (-500) := by decide
theorem is_500 : (Int16.ofInt 500).toInt32 = 500 := by decide
theorem ib_7 : (Int8.ofInt 7).toInt32 = 7 := by decide
theorem is_256 : (Int16.ofInt 256).toInt32 = 256 := by decide
theorem is_300 : (Int16.ofInt 300).toInt32 = 300 := by decide
theorem ib_8 : (Int8.ofInt 8).toInt32 = 8 := by decide
theorem ib_16 : (Int8.ofInt 16).toInt32 = 16 := by decide
theorem ib_63 : (Int8.ofInt 63).toInt32 = 63 := by decide
theorem ib_m3 : (Int8.ofInt (-3)).toInt32 = (-3) := by decide
theorem is_m200 : (Int16.ofInt (-200)).toInt32 = (-200) := by decide
theorem is_200 : (Int16.ofInt 200).toInt32 = 200 := by decide
theorem is_2001 : (Int16.ofInt 2001).toInt32 = 2001 := by decide
theorem is_m10000 : (Int16.ofInt (-10000)).toInt32 = (-10000) := by decide
theorem is_1500 : (Int16.ofInt 1500).toInt32 = 1500 := by decide
theorem is_1024 : (Int16.ofInt 1024).toInt32 = 1024 := by decide
theorem ib_23 : (Int8.ofInt 23).toInt32 = 23 := by decide
theorem ib_22 : (Int8.ofInt 22).toInt32 = 22 := by decide
theorem ib_15 : (Int8.ofInt 15).toInt32 = 15 := by decide
theorem ib_m5 : (Int8.ofInt (-5)).toInt32 = (-5) := by decide
theorem ib_35 : (Int8.ofInt 35).toInt32 = 35 := by decide
theorem is_m1000 : (Int16.ofInt (-1000)).toInt32 = (-1000) := by decide
theorem ib_m9 : (Int8.ofInt (-9)).toInt32 = (-9) := by decide
theorem is_4096 : (Int16.ofInt 4096).toInt32 = 4096 := by decide
theorem is_1792 : (Int16.ofInt 1792).toInt32 = 1792 := by decide
theorem is_240 : (Int16.ofInt 240).toInt32 = 240 := by decide
theorem ib_25 : (Int8.ofInt 25).toInt32 = 25 := by decide
theorem ib_33 : (Int8.ofInt 33).toInt32 = 33 := by decide
theorem ib_39 : (Int8.ofInt 39).toInt32 = 39 := by decide
theorem ib_52 : (Int8.ofInt 52).toInt32 = 52 := by decide
theorem ib_56 : (Int8.ofInt 56).toInt32 = 56 := by decide
theorem ib_31 : (Int8.ofInt 31).toInt32 = 31 := by decide
theorem ib_17 : (Int8.ofInt 17).toInt32 = 17 := by decide
theorem is_7919 : (Int16.ofInt 7919).toInt32 = 7919 := by decide
theorem is_4095 : (Int16.ofInt 4095).toInt32 = 4095 := by decide
theorem ib_21 : (Int8.ofInt 21).toInt32 = 21 := by decide
theorem ib_98 : (Int8.ofInt 98).toInt32 = 98 := by decide
theorem ib_13 : (Int8.ofInt 13).toInt32 = 13 := by decide
theorem inw_X0 : ∀ c ∈ u_ws RX0 TX0 4, c ∈ TW := fun c hc => by
  obtain ⟨k, hk, rfl⟩ := List.mem_map.mp hc
  exact (lt_s (lt_s (lt_s (lt_s (lt_0) (tw_2 (j := 190) rfl rfl)) (tw_2 (j := 192) rfl rfl)) (tw_2 (j := 194) rfl rfl)) (tw_2 (j := 196) rfl rfl) : ∀ k, k < 4 → u_lay RX0 TX0 k ∈ TW) k (List.mem_range.mp hk)
theorem inw_X1 : ∀ c ∈ u_ws RX1 TX1 17, c ∈ TW := fun c hc => by
  obtain ⟨k, hk, rfl⟩ := List.mem_map.mp hc
  exact (lt_s (lt_s (lt_s (lt_s (lt_s (lt_s (lt_s (lt_s (lt_s (lt_s (lt_s (lt_s (lt_s (lt_s (lt_s (lt_s (lt_s (lt_0) (tw_3 (j := 94) rfl rfl)) (tw_3 (j := 96) rfl rfl)) (tw_3 (j := 98) rfl rfl)) (tw_3 (j := 100) rfl rfl)) (tw_3 (j := 102) rfl rfl)) (tw_3 (j := 104) rfl rfl)) (tw_3 (j := 106) rfl rfl)) (tw_3 (j := 108) rfl rfl)) (tw_3 (j := 110) rfl rfl)) (tw_3 (j := 112) rfl rfl)) (tw_3 (j := 114) rfl rfl)) (tw_3 (j := 116) rfl rfl)) (tw_3 (j := 118) rfl rfl)) (tw_3 (j := 120) rfl rfl)) (tw_3 (j := 122) rfl rfl)) (tw_3 (j := 124) rfl rfl)) (tw_3 (j := 126) rfl rfl) : ∀ k, k < 17 → u_lay RX1 TX1 k ∈ TW) k (List.mem_range.mp hk)
theorem inw_X10 : ∀ c ∈ u_ws RX10 TX10 11, c ∈ TW := fun c hc => by
  obtain ⟨k, hk, rfl⟩ := List.mem_map.mp hc
  exact (lt_s (lt_s (lt_s (lt_s (lt_s (lt_s (lt_s (lt_s (lt_s (lt_s (lt_s (lt_0) (tw_1 (j := 188) rfl rfl)) (tw_1 (j := 190) rfl rfl)) (tw_1 (j := 192) rfl rfl)) (tw_1 (j := 194) rfl rfl)) (tw_1 (j := 196) rfl rfl)) (tw_1 (j := 198) rfl rfl)) (tw_1 (j := 200) rfl rfl)) (tw_1 (j := 202) rfl rfl)) (tw_1 (j := 204) rfl rfl)) (tw_1 (j := 206) rfl rfl)) (tw_1 (j := 208) rfl rfl) : ∀ k, k < 11 → u_lay RX10 TX10 k ∈ TW) k (List.mem_range.mp hk)
theorem inw_X11 : ∀ c ∈ u_ws RX11 TX11 8, c ∈ TW := fun c hc => by
  obtain ⟨k, hk, rfl⟩ := List.mem_map.mp hc
  exact (lt_s (lt_s (lt_s (lt_s (lt_s (lt_s (lt_s (lt_s (lt_0) (tw_2 (j := 130) rfl rfl)) (tw_2 (j := 132) rfl rfl)) (tw_2 (j := 134) rfl rfl)) (tw_2 (j := 136) rfl rfl)) (tw_2 (j := 138) rfl rfl)) (tw_2 (j := 140) rfl rfl)) (tw_2 (j := 142) rfl rfl)) (tw_2 (j := 144) rfl rfl) : ∀ k, k < 8 → u_lay RX11 TX11 k ∈ TW) k (List.mem_range.mp hk)
theorem inw_X12 : ∀ c ∈ u_ws RX12 TX12 84, c ∈ TW := fun c hc => by
  obtain ⟨k, hk, rfl⟩ := List.mem_map.mp hc
  exact (lt_s (lt_s (lt_s (lt_s (lt_s (lt_s (lt_s (lt_s (lt_s (lt_s (lt_s (lt_s (lt_s (lt_s (lt_s (lt_s (lt_s (lt_s (lt_s (lt_s (lt_s (lt_s (lt_s (lt_s (lt_s (lt_s (lt_s (lt_s (lt_s (lt_s (lt_s (lt_s (lt_s (lt_s (lt_s (lt_s (lt_s (lt_s (lt_s (lt_s (lt_s (lt_s (lt_s (lt_s (lt_s (lt_s (lt_s (lt_s (lt_s (lt_s (lt_s (lt_s (lt_s (lt_s (lt_s (lt_s (lt_s (lt_s (lt_s (lt_s (lt_s (lt_s (lt_s (lt_s (lt_s (lt_s (lt_s (lt_s (lt_s (lt_s (lt_s (lt_s (lt_s (lt_s (lt_s (lt_s (lt_s (lt_s (lt_s (lt_s (lt_s (lt_s (lt_s (lt_s (lt_0) (tw_6 (j := 162) rfl rfl)) (tw_6 (j := 164) rfl rfl)) (tw_6 (j := 166) rfl rfl)) (tw_6 (j := 168) rfl rfl)) (tw_6 (j := 170) rfl rfl)) (tw_6 (j := 172) rfl rfl)) (tw_6 (j := 174) rfl rfl)) (tw_6 (j := 176) rfl rfl)) (tw_6 (j := 178) rfl rfl)) (tw_6 (j := 180) rfl rfl)) (tw_6 (j := 182) rfl rfl)) (tw_6 (j := 184) rfl rfl)) (tw_6 (j := 186) rfl rfl)) (tw_6 (j := 188) rfl rfl)) (tw_6 (j := 190) rfl rfl)) (tw_6 (j := 192) rfl rfl)) (tw_6 (j := 194) rfl rfl)) (tw_6 (j := 196) rfl rfl)) (tw_6 (j := 198) rfl rfl)) (tw_6 (j := 200) rfl rfl)) (tw_6 (j := 202) rfl rfl)) (tw_6 (j := 204) rfl rfl)) (tw_6 (j := 206) rfl rfl)) (tw_6 (j := 208) rfl rfl)) (tw_6 (j := 210) rfl rfl)) (tw_6 (j := 212) rfl rfl)) (tw_6 (j := 214) rfl rfl)) (tw_6 (j := 216) rfl rfl)) (tw_6 (j := 218) rfl rfl)) (tw_6 (j := 220) rfl rfl)) (tw_6 (j := 222) rfl rfl)) (tw_6 (j := 224) rfl rfl)) (tw_6 (j := 226) rfl rfl)) (tw_6 (j := 228) rfl rfl)) (tw_6 (j := 230) rfl rfl)) (tw_6 (j := 232) rfl rfl)) (tw_6 (j := 234) rfl rfl)) (tw_6 (j := 236) rfl rfl)) (tw_6 (j := 238) rfl rfl)) (tw_7 (j := 0) rfl rfl)) (tw_7 (j := 2) rfl rfl)) (tw_7 (j := 4) rfl rfl)) (tw_7 (j := 6) rfl rfl)) (tw_7 (j := 8) rfl rfl)) (tw_7 (j := 10) rfl rfl)) (tw_7 (j := 12) rfl rfl)) (tw_7 (j := 14) rfl rfl)) (tw_7 (j := 16) rfl rfl)) (tw_7 (j := 18) rfl rfl)) (tw_7 (j := 20) rfl rfl)) (tw_7 (j := 22) rfl rfl)) (tw_7 (j := 24) rfl rfl)) (tw_7 (j := 26) rfl rfl)) (tw_7 (j := 28) rfl rfl)) (tw_7 (j := 30) rfl rfl)) (tw_7 (j := 32) rfl rfl)) (tw_7 (j := 34) rfl rfl)) (tw_7 (j := 36) rfl rfl)) (tw_7 (j := 38) rfl rfl)) (tw_7 (j := 40) rfl rfl)) (tw_7 (j := 42) rfl rfl)) (tw_7 (j := 44) rfl rfl)) (tw_7 (j := 46) rfl rfl)) (tw_7 (j := 48) rfl rfl)) (tw_7 (j := 50) rfl rfl)) (tw_7 (j := 52) rfl rfl)) (tw_7 (j := 54) rfl rfl)) (tw_7 (j := 56) rfl rfl)) (tw_7 (j := 58) rfl rfl)) (tw_7 (j := 60) rfl rfl)) (tw_7 (j := 62) rfl rfl)) (tw_7 (j := 64) rfl rfl)) (tw_7 (j := 66) rfl rfl)) (tw_7 (j := 68) rfl rfl)) (tw_7 (j := 70) rfl rfl)) (tw_7 (j := 72) rfl rfl)) (tw_7 (j := 74) rfl rfl)) (tw_7 (j := 76) rfl rfl)) (tw_7 (j := 78) rfl rfl)) (tw_7 (j := 80) rfl rfl)) (tw_7 (j := 82) rfl rfl)) (tw_7 (j := 84) rfl rfl)) (tw_7 (j := 86) rfl rfl)) (tw_7 (j := 88) rfl rfl) : ∀ k, k < 84 → u_lay RX12 TX12 k ∈ TW) k (List.mem_range.mp hk)
theorem inw_X2 : ∀ c ∈ u_ws RX2 TX2 11, c ∈ TW := fun c hc => by
  obtain ⟨k, hk, rfl⟩ := List.mem_map.mp hc
  exact (lt_s (lt_s (lt_s (lt_s (lt_s (lt_s (lt_s (lt_s (lt_s (lt_s (lt_s (lt_0) (tw_2 (j := 28) rfl rfl)) (tw_2 (j := 30) rfl rfl)) (tw_2 (j := 32) rfl rfl)) (tw_2 (j := 34) rfl rfl)) (tw_2 (j := 36) rfl rfl)) (tw_2 (j := 38) rfl rfl)) (tw_2 (j := 40) rfl rfl)) (tw_2 (j := 42) rfl rfl)) (tw_2 (j := 44) rfl rfl)) (tw_2 (j := 46) rfl rfl)) (tw_2 (j := 48) rfl rfl) : ∀ k, k < 11 → u_lay RX2 TX2 k ∈ TW) k (List.mem_range.mp hk)
theorem inw_X3 : ∀ c ∈ u_ws RX3 TX3 11, c ∈ TW := fun c hc => by
  obtain ⟨k, hk, rfl⟩ := List.mem_map.mp hc
  exact (lt_s (lt_s (lt_s (lt_s (lt_s (lt_s (lt_s (lt_s (lt_s (lt_s (lt_s (lt_0) (tw_1 (j := 147) rfl rfl)) (tw_1 (j := 149) rfl rfl)) (tw_1 (j := 151) rfl rfl)) (tw_1 (j := 153) rfl rfl)) (tw_1 (j := 155) rfl rfl)) (tw_1 (j := 157) rfl rfl)) (tw_1 (j := 159) rfl rfl)) (tw_1 (j := 161) rfl rfl)) (tw_1 (j := 163) rfl rfl)) (tw_1 (j := 165) rfl rfl)) (tw_1 (j := 167) rfl rfl) : ∀ k, k < 11 → u_lay RX3 TX3 k ∈ TW) k (List.mem_range.mp hk)
theorem inw_X4 : ∀ c ∈ u_ws RX4 TX4 4, c ∈ TW := fun c hc => by
  obtain ⟨k, hk, rfl⟩ := List.mem_map.mp hc
  exact (lt_s (lt_s (lt_s (lt_s (lt_0) (tw_2 (j := 91) rfl rfl)) (tw_2 (j := 93) rfl rfl)) (tw_2 (j := 95) rfl rfl)) (tw_2 (j := 97) rfl rfl) : ∀ k, k < 4 → u_lay RX4 TX4 k ∈ TW) k (List.mem_range.mp hk)
theorem inw_X5 : ∀ c ∈ u_ws RX5 TX5 8, c ∈ TW := fun c hc => by
  obtain ⟨k, hk, rfl⟩ := List.mem_map.mp hc
  exact (lt_s (lt_s (lt_s (lt_s (lt_s (lt_s (lt_s (lt_s (lt_0) (tw_1 (j := 110) rfl rfl)) (tw_1 (j := 112) rfl rfl)) (tw_1 (j := 114) rfl rfl)) (tw_1 (j := 116) rfl rfl)) (tw_1 (j := 118) rfl rfl)) (tw_1 (j := 120) rfl rfl)) (tw_1 (j := 122) rfl rfl)) (tw_1 (j := 124) rfl rfl) : ∀ k, k < 8 → u_lay RX5 TX5 k ∈ TW) k (List.mem_range.mp hk)
theorem inw_X6 : ∀ c ∈ u_ws RX6 TX6 4, c ∈ TW := fun c hc => by
  obtain ⟨k, hk, rfl⟩ := List.mem_map.mp hc
  exact (lt_s (lt_s (lt_s (lt_s (lt_0) (tw_2 (j := 113) rfl rfl)) (tw_2 (j := 115) rfl rfl)) (tw_2 (j := 117) rfl rfl)) (tw_2 (j := 119) rfl rfl) : ∀ k, k < 4 → u_lay RX6 TX6 k ∈ TW) k (List.mem_range.mp hk)
theorem inw_X7 : ∀ c ∈ u_ws RX7 TX7 8, c ∈ TW := fun c hc => by
  obtain ⟨k, hk, rfl⟩ := List.mem_map.mp hc
  exact (lt_s (lt_s (lt_s (lt_s (lt_s (lt_s (lt_s (lt_s (lt_0) (tw_1 (j := 230) rfl rfl)) (tw_1 (j := 232) rfl rfl)) (tw_1 (j := 234) rfl rfl)) (tw_1 (j := 236) rfl rfl)) (tw_1 (j := 238) rfl rfl)) (tw_2 (j := 0) rfl rfl)) (tw_2 (j := 2) rfl rfl)) (tw_2 (j := 4) rfl rfl) : ∀ k, k < 8 → u_lay RX7 TX7 k ∈ TW) k (List.mem_range.mp hk)
theorem inw_X8 : ∀ c ∈ u_ws RX8 TX8 16, c ∈ TW := fun c hc => by
  obtain ⟨k, hk, rfl⟩ := List.mem_map.mp hc
  exact (lt_s (lt_s (lt_s (lt_s (lt_s (lt_s (lt_s (lt_s (lt_s (lt_s (lt_s (lt_s (lt_s (lt_s (lt_s (lt_s (lt_0) (tw_1 (j := 53) rfl rfl)) (tw_1 (j := 55) rfl rfl)) (tw_1 (j := 57) rfl rfl)) (tw_1 (j := 59) rfl rfl)) (tw_1 (j := 61) rfl rfl)) (tw_1 (j := 63) rfl rfl)) (tw_1 (j := 65) rfl rfl)) (tw_1 (j := 67) rfl rfl)) (tw_1 (j := 69) rfl rfl)) (tw_1 (j := 71) rfl rfl)) (tw_1 (j := 73) rfl rfl)) (tw_1 (j := 75) rfl rfl)) (tw_1 (j := 77) rfl rfl)) (tw_1 (j := 79) rfl rfl)) (tw_1 (j := 81) rfl rfl)) (tw_1 (j := 83) rfl rfl) : ∀ k, k < 16 → u_lay RX8 TX8 k ∈ TW) k (List.mem_range.mp hk)
theorem inw_X9 : ∀ c ∈ u_ws RX9 TX9 7, c ∈ TW := fun c hc => by
  obtain ⟨k, hk, rfl⟩ := List.mem_map.mp hc
  exact (lt_s (lt_s (lt_s (lt_s (lt_s (lt_s (lt_s (lt_0) (tw_2 (j := 65) rfl rfl)) (tw_2 (j := 67) rfl rfl)) (tw_2 (j := 69) rfl rfl)) (tw_2 (j := 71) rfl rfl)) (tw_2 (j := 73) rfl rfl)) (tw_2 (j := 75) rfl rfl)) (tw_2 (j := 77) rfl rfl) : ∀ k, k < 7 → u_lay RX9 TX9 k ∈ TW) k (List.mem_range.mp hk)
theorem ac_boolean : Cond.arrayClass .boolean ∈ TW := tw_1 (j := 87) rfl rfl
theorem ac_int : Cond.arrayClass .int ∈ TW := tw_1 (j := 86) rfl rfl
theorem ac_long : Cond.arrayClass .long ∈ TW := tw_1 (j := 211) rfl rfl
theorem ao_X0 : RX0 ∈ aoL := List.mem_of_getElem? (i := 0) rfl
theorem ao_X1 : RX1 ∈ aoL := List.mem_of_getElem? (i := 1) rfl
theorem ao_X5 : RX5 ∈ aoL := List.mem_of_getElem? (i := 2) rfl
theorem cd_obj : Cond.code objectInit ⟨#[0xb1]⟩ 1 none ∈ TW := tw_1 (j := 25) rfl rfl
theorem cl_X11_16 : Cond.classLink RX11 16 RX3 ∈ TW := tw_1 (j := 88) rfl rfl
theorem cl_X11_194 : Cond.classLink RX11 194 RX0 ∈ TW := tw_4 (j := 44) rfl rfl
theorem cl_X11_25 : Cond.classLink RX11 25 RX10 ∈ TW := tw_1 (j := 170) rfl rfl
theorem cl_X11_34 : Cond.classLink RX11 34 RX7 ∈ TW := tw_1 (j := 212) rfl rfl
theorem cl_X11_41 : Cond.classLink RX11 41 RX2 ∈ TW := tw_2 (j := 7) rfl rfl
theorem cl_X11_48 : Cond.classLink RX11 48 RX9 ∈ TW := tw_2 (j := 51) rfl rfl
theorem cl_X11_55 : Cond.classLink RX11 55 RX4 ∈ TW := tw_2 (j := 80) rfl rfl
theorem cl_X11_64 : Cond.classLink RX11 64 RX6 ∈ TW := tw_2 (j := 100) rfl rfl
theorem cl_X11_7 : Cond.classLink RX11 7 RX8 ∈ TW := tw_1 (j := 26) rfl rfl
theorem cl_X1_21 : Cond.classLink RX1 21 RX5 ∈ TW := tw_3 (j := 52) rfl rfl
theorem cl_X3_11 : Cond.classLink RX3 11 RX1 ∈ TW := tw_1 (j := 94) rfl rfl
theorem cl_X3_30 : Cond.classLink RX3 30 RX5 ∈ TW := tw_1 (j := 96) rfl rfl
theorem cl_X6_11 : Cond.classLink RX6 11 "[[I" ∈ TW := tw_2 (j := 106) rfl rfl
theorem cl_X7_22 : Cond.classLink RX7 22 "[[I" ∈ TW := tw_1 (j := 218) rfl rfl
theorem cl_X8_11 : Cond.classLink RX8 11 RX0 ∈ TW := tw_1 (j := 32) rfl rfl
theorem ct_J6_265 : Cond.constant RJ6 265 (1431655765) ∈ TW := tw_5 (j := 1) rfl rfl
theorem ct_J6_266 : Cond.constant RJ6 266 (858993459) ∈ TW := tw_5 (j := 2) rfl rfl
theorem ct_J6_267 : Cond.constant RJ6 267 (252645135) ∈ TW := tw_5 (j := 3) rfl rfl
theorem ct_X10_118 : Cond.constant RX10 118 (-1640531535) ∈ TW := tw_4 (j := 62) rfl rfl
theorem ct_X10_86 : Cond.constant RX10 86 (40000) ∈ TW := tw_4 (j := 54) rfl rfl
theorem ct_X10_87 : Cond.constantLong RX10 87 (131071) ∈ TW := tw_4 (j := 74) rfl rfl
theorem ct_X10_89 : Cond.constantLong RX10 89 (63) ∈ TW := tw_4 (j := 75) rfl rfl
theorem ct_X11_110 : Cond.constant RX11 110 (-40000) ∈ TW := tw_3 (j := 11) rfl rfl
theorem ct_X11_111 : Cond.constant RX11 111 (40000) ∈ TW := tw_3 (j := 12) rfl rfl
theorem ct_X11_150 : Cond.constant RX11 150 (-2147483648) ∈ TW := tw_4 (j := 0) rfl rfl
theorem ct_X11_356 : Cond.constantLong RX11 356 (17) ∈ TW := tw_6 (j := 64) rfl rfl
theorem ct_X11_358 : Cond.constantLong RX11 358 (31) ∈ TW := tw_6 (j := 65) rfl rfl
theorem ct_X12_248 : Cond.constant RX12 248 (-40000) ∈ TW := tw_7 (j := 148) rfl rfl
theorem ct_X12_249 : Cond.constant RX12 249 (40000) ∈ TW := tw_7 (j := 149) rfl rfl
theorem ct_X12_329 : Cond.constant RX12 329 (-2147483648) ∈ TW := tw_8 (j := 9) rfl rfl
theorem ct_X12_385 : Cond.constantLong RX12 385 (65) ∈ TW := tw_8 (j := 113) rfl rfl
theorem ct_X12_391 : Cond.constantLong RX12 391 (10) ∈ TW := tw_8 (j := 117) rfl rfl
theorem ct_X12_483 : Cond.constantLong RX12 483 (17) ∈ TW := tw_9 (j := 66) rfl rfl
theorem ct_X12_485 : Cond.constantLong RX12 485 (31) ∈ TW := tw_9 (j := 67) rfl rfl
theorem ct_X1_109 : Cond.constant RX1 109 (-2147483648) ∈ TW := tw_4 (j := 5) rfl rfl
theorem ct_X3_123 : Cond.constant RX3 123 (-40000) ∈ TW := tw_3 (j := 226) rfl rfl
theorem ct_X3_124 : Cond.constant RX3 124 (40000) ∈ TW := tw_3 (j := 227) rfl rfl
theorem ct_X6_59 : Cond.constant RX6 59 (-2147483648) ∈ TW := tw_6 (j := 22) rfl rfl
theorem cw_J6_bitCount_0f7a4 : CW yJ6_bitCount_0f7a4 cJ6_bitCount_0f7a4 1 (some .int) 1 := ⟨tw_5 (j := 0) rfl rfl, tw_1 (j := 16) rfl rfl, by decide, by decide, by decide⟩
theorem cw_J7_fill_53178 : CW yJ7_fill_53178 cJ7_fill_53178 4 none 2 := ⟨tw_2 (j := 15) rfl rfl, tw_1 (j := 8) rfl rfl, by decide, by decide, by decide⟩
theorem cw_J9_abs_0f7a4 : CW yJ9_abs_0f7a4 cJ9_abs_0f7a4 1 (some .int) 1 := ⟨tw_3 (j := 170) rfl rfl, tw_1 (j := 13) rfl rfl, by decide, by decide, by decide⟩
theorem cw_J9_floorDiv_7cf53 : CW yJ9_floorDiv_7cf53 cJ9_floorDiv_7cf53 3 (some .int) 2 := ⟨tw_4 (j := 166) rfl rfl, tw_1 (j := 13) rfl rfl, by decide, by decide, by decide⟩
theorem cw_J9_floorMod_7cf53 : CW yJ9_floorMod_7cf53 cJ9_floorMod_7cf53 3 (some .int) 2 := ⟨tw_2 (j := 161) rfl rfl, tw_1 (j := 13) rfl rfl, by decide, by decide, by decide⟩
theorem cw_J9_max_7cf53 : CW yJ9_max_7cf53 cJ9_max_7cf53 2 (some .int) 2 := ⟨tw_4 (j := 183) rfl rfl, tw_1 (j := 13) rfl rfl, by decide, by decide, by decide⟩
theorem cw_J9_min_7cf53 : CW yJ9_min_7cf53 cJ9_min_7cf53 2 (some .int) 2 := ⟨tw_5 (j := 6) rfl rfl, tw_1 (j := 13) rfl rfl, by decide, by decide, by decide⟩
theorem cw_X0_holds : CW yX0_holds cX0_holds 3 (some .boolean) 2 := ⟨tw_3 (j := 20) rfl rfl, tw_1 (j := 14) rfl rfl, by decide, by decide, by decide⟩
theorem cw_X0_holdsInside : CW yX0_holdsInside cX0_holdsInside 3 (some .boolean) 2 := ⟨tw_3 (j := 212) rfl rfl, tw_1 (j := 14) rfl rfl, by decide, by decide, by decide⟩
theorem cw_X0_init : CW yX0_init cX0_init 5 none 4 := ⟨tw_2 (j := 180) rfl rfl, tw_1 (j := 14) rfl rfl, by decide, by decide, by decide⟩
theorem cw_X10_bucketOf : CW yX10_bucketOf cX10_bucketOf 2 (some .int) 1 := ⟨tw_4 (j := 61) rfl rfl, tw_1 (j := 5) rfl rfl, by decide, by decide, by decide⟩
theorem cw_X10_find : CW yX10_find cX10_find 8 (some .int) 3 := ⟨tw_4 (j := 49) rfl rfl, tw_1 (j := 5) rfl rfl, by decide, by decide, by decide⟩
theorem cw_X10_goOn : CW yX10_goOn cX10_goOn 14 (some .int) 2 := ⟨tw_4 (j := 73) rfl rfl, tw_1 (j := 5) rfl rfl, by decide, by decide, by decide⟩
theorem cw_X10_init : CW yX10_init cX10_init 2 none 1 := ⟨tw_1 (j := 174) rfl rfl, tw_1 (j := 5) rfl rfl, by decide, by decide, by decide⟩
theorem cw_X10_isGoal : CW yX10_isGoal cX10_isGoal 5 (some .boolean) 3 := ⟨tw_4 (j := 66) rfl rfl, tw_1 (j := 5) rfl rfl, by decide, by decide, by decide⟩
theorem cw_X10_isNoted : CW yX10_isNoted cX10_isNoted 5 (some .boolean) 1 := ⟨tw_4 (j := 80) rfl rfl, tw_1 (j := 5) rfl rfl, by decide, by decide, by decide⟩
theorem cw_X10_keepSteps : CW yX10_keepSteps cX10_keepSteps 4 none 1 := ⟨tw_4 (j := 85) rfl rfl, tw_1 (j := 5) rfl rfl, by decide, by decide, by decide⟩
theorem cw_X10_note : CW yX10_note cX10_note 5 none 2 := ⟨tw_4 (j := 58) rfl rfl, tw_1 (j := 5) rfl rfl, by decide, by decide, by decide⟩
theorem cw_X10_standingOf : CW yX10_standingOf cX10_standingOf 3 (some .long) 3 := ⟨tw_4 (j := 53) rfl rfl, tw_1 (j := 5) rfl rfl, by decide, by decide, by decide⟩
theorem cw_X10_stepAt : CW yX10_stepAt cX10_stepAt 2 (some .int) 1 := ⟨tw_4 (j := 93) rfl rfl, tw_1 (j := 5) rfl rfl, by decide, by decide, by decide⟩
theorem cw_X11_about : CW yX11_about cX11_about 4 (some .int) 2 := ⟨tw_3 (j := 239) rfl rfl, tw_1 (j := 1) rfl rfl, by decide, by decide, by decide⟩
theorem cw_X11_cosine : CW yX11_cosine cX11_cosine 1 (some .int) 1 := ⟨tw_2 (j := 156) rfl rfl, tw_1 (j := 1) rfl rfl, by decide, by decide, by decide⟩
theorem cw_X11_count : CW yX11_count cX11_count 2 (some .int) 1 := ⟨tw_6 (j := 51) rfl rfl, tw_1 (j := 1) rfl rfl, by decide, by decide, by decide⟩
theorem cw_X11_digestCars : CW yX11_digestCars cX11_digestCars 7 (some .long) 1 := ⟨tw_6 (j := 70) rfl rfl, tw_1 (j := 1) rfl rfl, by decide, by decide, by decide⟩
theorem cw_X11_isBox : CW yX11_isBox cX11_isBox 4 (some .boolean) 4 := ⟨tw_2 (j := 175) rfl rfl, tw_1 (j := 1) rfl rfl, by decide, by decide, by decide⟩
theorem cw_X11_sine : CW yX11_sine cX11_sine 1 (some .int) 1 := ⟨tw_2 (j := 164) rfl rfl, tw_1 (j := 1) rfl rfl, by decide, by decide, by decide⟩
theorem cw_X11_within : CW yX11_within cX11_within 3 (some .boolean) 3 := ⟨tw_2 (j := 153) rfl rfl, tw_1 (j := 1) rfl rfl, by decide, by decide, by decide⟩
theorem cw_X12_aboutOf : CW yX12_aboutOf cX12_aboutOf 3 (some .int) 2 := ⟨tw_8 (j := 8) rfl rfl, tw_1 (j := 12) rfl rfl, by decide, by decide, by decide⟩
theorem cw_X12_across : CW yX12_across cX12_across 1 (some .int) 1 := ⟨tw_7 (j := 109) rfl rfl, tw_1 (j := 12) rfl rfl, by decide, by decide, by decide⟩
theorem cw_X12_after : CW yX12_after cX12_after 7 (some .int) 3 := ⟨tw_8 (j := 157) rfl rfl, tw_1 (j := 12) rfl rfl, by decide, by decide, by decide⟩
theorem cw_X12_along : CW yX12_along cX12_along 3 (some .int) 1 := ⟨tw_7 (j := 103) rfl rfl, tw_1 (j := 12) rfl rfl, by decide, by decide, by decide⟩
theorem cw_X12_amount : CW yX12_amount cX12_amount 1 (some .int) 1 := ⟨tw_7 (j := 202) rfl rfl, tw_1 (j := 12) rfl rfl, by decide, by decide, by decide⟩
theorem cw_X12_areApart : CW yX12_areApart cX12_areApart 14 (some .boolean) 9 := ⟨tw_7 (j := 199) rfl rfl, tw_1 (j := 12) rfl rfl, by decide, by decide, by decide⟩
theorem cw_X12_box : CW yX12_box cX12_box 6 none 6 := ⟨tw_7 (j := 119) rfl rfl, tw_1 (j := 12) rfl rfl, by decide, by decide, by decide⟩
theorem cw_X12_byteAt : CW yX12_byteAt cX12_byteAt 2 (some .int) 1 := ⟨tw_9 (j := 11) rfl rfl, tw_1 (j := 12) rfl rfl, by decide, by decide, by decide⟩
theorem cw_X12_comes : CW yX12_comes cX12_comes 4 none 3 := ⟨tw_8 (j := 199) rfl rfl, tw_1 (j := 12) rfl rfl, by decide, by decide, by decide⟩
theorem cw_X12_count : CW yX12_count cX12_count 4 (some .int) 1 := ⟨tw_9 (j := 61) rfl rfl, tw_1 (j := 12) rfl rfl, by decide, by decide, by decide⟩
theorem cw_X12_counts : CW yX12_counts cX12_counts 5 none 4 := ⟨tw_8 (j := 45) rfl rfl, tw_1 (j := 12) rfl rfl, by decide, by decide, by decide⟩
theorem cw_X12_countsFrom : CW yX12_countsFrom cX12_countsFrom 5 (some .int) 3 := ⟨tw_8 (j := 153) rfl rfl, tw_1 (j := 12) rfl rfl, by decide, by decide, by decide⟩
theorem cw_X12_cross : CW yX12_cross cX12_cross 8 (some .long) 4 := ⟨tw_8 (j := 88) rfl rfl, tw_1 (j := 12) rfl rfl, by decide, by decide, by decide⟩
theorem cw_X12_days : CW yX12_days cX12_days 4 none 1 := ⟨tw_8 (j := 191) rfl rfl, tw_1 (j := 12) rfl rfl, by decide, by decide, by decide⟩
theorem cw_X12_does : CW yX12_does cX12_does 3 (some .boolean) 2 := ⟨tw_8 (j := 33) rfl rfl, tw_1 (j := 12) rfl rfl, by decide, by decide, by decide⟩
theorem cw_X12_faultNow : CW yX12_faultNow cX12_faultNow 2 (some .int) 0 := ⟨tw_9 (j := 3) rfl rfl, tw_1 (j := 12) rfl rfl, by decide, by decide, by decide⟩
theorem cw_X12_finds : CW yX12_finds cX12_finds 2 (some .int) 1 := ⟨tw_9 (j := 32) rfl rfl, tw_1 (j := 12) rfl rfl, by decide, by decide, by decide⟩
theorem cw_X12_floorBy : CW yX12_floorBy cX12_floorBy 6 (some .int) 2 := ⟨tw_8 (j := 116) rfl rfl, tw_1 (j := 12) rfl rfl, by decide, by decide, by decide⟩
theorem cw_X12_footOf : CW yX12_footOf cX12_footOf 3 (some .int) 2 := ⟨tw_7 (j := 169) rfl rfl, tw_1 (j := 12) rfl rfl, by decide, by decide, by decide⟩
theorem cw_X12_goes : CW yX12_goes cX12_goes 9 none 5 := ⟨tw_8 (j := 25) rfl rfl, tw_1 (j := 12) rfl rfl, by decide, by decide, by decide⟩
theorem cw_X12_goesThrough : CW yX12_goesThrough cX12_goesThrough 24 (some .boolean) 5 := ⟨tw_8 (j := 85) rfl rfl, tw_1 (j := 12) rfl rfl, by decide, by decide, by decide⟩
theorem cw_X12_halfBroad : CW yX12_halfBroad cX12_halfBroad 4 (some .int) 2 := ⟨tw_7 (j := 193) rfl rfl, tw_1 (j := 12) rfl rfl, by decide, by decide, by decide⟩
theorem cw_X12_halfLong : CW yX12_halfLong cX12_halfLong 4 (some .int) 2 := ⟨tw_7 (j := 189) rfl rfl, tw_1 (j := 12) rfl rfl, by decide, by decide, by decide⟩
theorem cw_X12_hasRoom : CW yX12_hasRoom cX12_hasRoom 4 (some .boolean) 1 := ⟨tw_8 (j := 203) rfl rfl, tw_1 (j := 12) rfl rfl, by decide, by decide, by decide⟩
theorem cw_X12_house : CW yX12_house cX12_house 8 (some .int) 7 := ⟨tw_7 (j := 113) rfl rfl, tw_1 (j := 12) rfl rfl, by decide, by decide, by decide⟩
theorem cw_X12_in : CW yX12_in cX12_in 3 (some .boolean) 3 := ⟨tw_7 (j := 100) rfl rfl, tw_1 (j := 12) rfl rfl, by decide, by decide, by decide⟩
theorem cw_X12_isBox : CW yX12_isBox cX12_isBox 4 (some .boolean) 4 := ⟨tw_7 (j := 116) rfl rfl, tw_1 (j := 12) rfl rfl, by decide, by decide, by decide⟩
theorem cw_X12_isCar : CW yX12_isCar cX12_isCar 2 (some .boolean) 1 := ⟨tw_7 (j := 165) rfl rfl, tw_1 (j := 12) rfl rfl, by decide, by decide, by decide⟩
theorem cw_X12_isGoal : CW yX12_isGoal cX12_isGoal 8 (some .boolean) 6 := ⟨tw_8 (j := 49) rfl rfl, tw_1 (j := 12) rfl rfl, by decide, by decide, by decide⟩
theorem cw_X12_isHeading : CW yX12_isHeading cX12_isHeading 1 (some .boolean) 1 := ⟨tw_7 (j := 97) rfl rfl, tw_1 (j := 12) rfl rfl, by decide, by decide, by decide⟩
theorem cw_X12_isOnWet : CW yX12_isOnWet cX12_isOnWet 3 (some .boolean) 1 := ⟨tw_8 (j := 104) rfl rfl, tw_1 (j := 12) rfl rfl, by decide, by decide, by decide⟩
theorem cw_X12_isSheet : CW yX12_isSheet cX12_isSheet 1 (some .boolean) 1 := ⟨tw_9 (j := 28) rfl rfl, tw_1 (j := 12) rfl rfl, by decide, by decide, by decide⟩
theorem cw_X12_lacks : CW yX12_lacks cX12_lacks 4 (some .int) 3 := ⟨tw_9 (j := 44) rfl rfl, tw_1 (j := 12) rfl rfl, by decide, by decide, by decide⟩
theorem cw_X12_leastOf : CW yX12_leastOf cX12_leastOf 1 (some .int) 1 := ⟨tw_9 (j := 17) rfl rfl, tw_1 (j := 12) rfl rfl, by decide, by decide, by decide⟩
theorem cw_X12_meetsCar : CW yX12_meetsCar cX12_meetsCar 8 (some .boolean) 2 := ⟨tw_7 (j := 232) rfl rfl, tw_1 (j := 12) rfl rfl, by decide, by decide, by decide⟩
theorem cw_X12_meetsEaves : CW yX12_meetsEaves cX12_meetsEaves 4 (some .boolean) 2 := ⟨tw_7 (j := 206) rfl rfl, tw_1 (j := 12) rfl rfl, by decide, by decide, by decide⟩
theorem cw_X12_meetsHouse : CW yX12_meetsHouse cX12_meetsHouse 4 (some .boolean) 2 := ⟨tw_7 (j := 181) rfl rfl, tw_1 (j := 12) rfl rfl, by decide, by decide, by decide⟩
theorem cw_X12_meetsKerb : CW yX12_meetsKerb cX12_meetsKerb 7 (some .boolean) 2 := ⟨tw_7 (j := 214) rfl rfl, tw_1 (j := 12) rfl rfl, by decide, by decide, by decide⟩
theorem cw_X12_meetsNow : CW yX12_meetsNow cX12_meetsNow 3 (some .int) 1 := ⟨tw_7 (j := 177) rfl rfl, tw_1 (j := 12) rfl rfl, by decide, by decide, by decide⟩
theorem cw_X12_meetsWire : CW yX12_meetsWire cX12_meetsWire 5 (some .boolean) 2 := ⟨tw_7 (j := 210) rfl rfl, tw_1 (j := 12) rfl rfl, by decide, by decide, by decide⟩
theorem cw_X12_mostOf : CW yX12_mostOf cX12_mostOf 1 (some .int) 1 := ⟨tw_9 (j := 14) rfl rfl, tw_1 (j := 12) rfl rfl, by decide, by decide, by decide⟩
theorem cw_X12_needOf : CW yX12_needOf cX12_needOf 4 (some .int) 1 := ⟨tw_8 (j := 112) rfl rfl, tw_1 (j := 12) rfl rfl, by decide, by decide, by decide⟩
theorem cw_X12_ones : CW yX12_ones cX12_ones 3 (some .int) 1 := ⟨tw_8 (j := 163) rfl rfl, tw_1 (j := 12) rfl rfl, by decide, by decide, by decide⟩
theorem cw_X12_part : CW yX12_part cX12_part 3 (some .int) 0 := ⟨tw_9 (j := 7) rfl rfl, tw_1 (j := 12) rfl rfl, by decide, by decide, by decide⟩
theorem cw_X12_pullOf : CW yX12_pullOf cX12_pullOf 5 (some .int) 1 := ⟨tw_8 (j := 100) rfl rfl, tw_1 (j := 12) rfl rfl, by decide, by decide, by decide⟩
theorem cw_X12_quarter : CW yX12_quarter cX12_quarter 1 (some .int) 1 := ⟨tw_7 (j := 106) rfl rfl, tw_1 (j := 12) rfl rfl, by decide, by decide, by decide⟩
theorem cw_X12_ropeHeading : CW yX12_ropeHeading cX12_ropeHeading 3 (some .int) 2 := ⟨tw_8 (j := 81) rfl rfl, tw_1 (j := 12) rfl rfl, by decide, by decide, by decide⟩
theorem cw_X12_ropeIs : CW yX12_ropeIs cX12_ropeIs 7 (some .int) 2 := ⟨tw_8 (j := 77) rfl rfl, tw_1 (j := 12) rfl rfl, by decide, by decide, by decide⟩
theorem cw_X12_rosterOrNot : CW yX12_rosterOrNot cX12_rosterOrNot 2 (some .int) 0 := ⟨tw_8 (j := 145) rfl rfl, tw_1 (j := 12) rfl rfl, by decide, by decide, by decide⟩
theorem cw_X12_rosters : CW yX12_rosters cX12_rosters 6 (some .int) 0 := ⟨tw_8 (j := 149) rfl rfl, tw_1 (j := 12) rfl rfl, by decide, by decide, by decide⟩
theorem cw_X12_runOf : CW yX12_runOf cX12_runOf 2 (some .int) 2 := ⟨tw_8 (j := 160) rfl rfl, tw_1 (j := 12) rfl rfl, by decide, by decide, by decide⟩
theorem cw_X12_settles : CW yX12_settles cX12_settles 2 none 1 := ⟨tw_7 (j := 236) rfl rfl, tw_1 (j := 12) rfl rfl, by decide, by decide, by decide⟩
theorem cw_X12_signBroad : CW yX12_signBroad cX12_signBroad 1 (some .int) 1 := ⟨tw_7 (j := 224) rfl rfl, tw_1 (j := 12) rfl rfl, by decide, by decide, by decide⟩
theorem cw_X12_signLong : CW yX12_signLong cX12_signLong 1 (some .int) 1 := ⟨tw_7 (j := 221) rfl rfl, tw_1 (j := 12) rfl rfl, by decide, by decide, by decide⟩
theorem cw_X12_slopeAt : CW yX12_slopeAt cX12_slopeAt 5 (some .int) 2 := ⟨tw_7 (j := 153) rfl rfl, tw_1 (j := 12) rfl rfl, by decide, by decide, by decide⟩
theorem cw_X12_slotOf : CW yX12_slotOf cX12_slotOf 5 (some .int) 3 := ⟨tw_8 (j := 41) rfl rfl, tw_1 (j := 12) rfl rfl, by decide, by decide, by decide⟩
theorem cw_X12_standsNow : CW yX12_standsNow cX12_standsNow 2 (some .boolean) 1 := ⟨tw_8 (j := 96) rfl rfl, tw_1 (j := 12) rfl rfl, by decide, by decide, by decide⟩
theorem cw_X12_tells : CW yX12_tells cX12_tells 3 (some .int) 0 := ⟨tw_8 (j := 53) rfl rfl, tw_1 (j := 12) rfl rfl, by decide, by decide, by decide⟩
theorem cw_X12_touch : CW yX12_touch cX12_touch 9 (some .boolean) 8 := ⟨tw_7 (j := 196) rfl rfl, tw_1 (j := 12) rfl rfl, by decide, by decide, by decide⟩
theorem cw_X12_touchesBox : CW yX12_touchesBox cX12_touchesBox 11 (some .boolean) 5 := ⟨tw_7 (j := 185) rfl rfl, tw_1 (j := 12) rfl rfl, by decide, by decide, by decide⟩
theorem cw_X12_turns : CW yX12_turns cX12_turns 4 none 2 := ⟨tw_8 (j := 195) rfl rfl, tw_1 (j := 12) rfl rfl, by decide, by decide, by decide⟩
theorem cw_X12_wheelX : CW yX12_wheelX cX12_wheelX 5 (some .int) 4 := ⟨tw_7 (j := 218) rfl rfl, tw_1 (j := 12) rfl rfl, by decide, by decide, by decide⟩
theorem cw_X12_wheelY : CW yX12_wheelY cX12_wheelY 5 (some .int) 4 := ⟨tw_7 (j := 228) rfl rfl, tw_1 (j := 12) rfl rfl, by decide, by decide, by decide⟩
theorem cw_X12_works : CW yX12_works cX12_works 6 none 0 := ⟨tw_8 (j := 223) rfl rfl, tw_1 (j := 12) rfl rfl, by decide, by decide, by decide⟩
theorem cw_X1_acrossOf : CW yX1_acrossOf cX1_acrossOf 2 (some .int) 1 := ⟨tw_3 (j := 204) rfl rfl, tw_1 (j := 15) rfl rfl, by decide, by decide, by decide⟩
theorem cw_X1_addStorey : CW yX1_addStorey cX1_addStorey 4 (some .int) 3 := ⟨tw_3 (j := 140) rfl rfl, tw_1 (j := 15) rfl rfl, by decide, by decide, by decide⟩
theorem cw_X1_alongOf : CW yX1_alongOf cX1_alongOf 2 (some .int) 1 := ⟨tw_3 (j := 200) rfl rfl, tw_1 (j := 15) rfl rfl, by decide, by decide, by decide⟩
theorem cw_X1_footOf : CW yX1_footOf cX1_footOf 2 (some .int) 1 := ⟨tw_3 (j := 145) rfl rfl, tw_1 (j := 15) rfl rfl, by decide, by decide, by decide⟩
theorem cw_X1_heightOf : CW yX1_heightOf cX1_heightOf 2 (some .int) 1 := ⟨tw_3 (j := 149) rfl rfl, tw_1 (j := 15) rfl rfl, by decide, by decide, by decide⟩
theorem cw_X1_init : CW yX1_init cX1_init 6 none 4 := ⟨tw_3 (j := 50) rfl rfl, tw_1 (j := 15) rfl rfl, by decide, by decide, by decide⟩
theorem cw_X1_isSlack : CW yX1_isSlack cX1_isSlack 2 (some .boolean) 1 := ⟨tw_4 (j := 136) rfl rfl, tw_1 (j := 15) rfl rfl, by decide, by decide, by decide⟩
theorem cw_X1_layAt : CW yX1_layAt cX1_layAt 10 none 3 := ⟨tw_3 (j := 161) rfl rfl, tw_1 (j := 15) rfl rfl, by decide, by decide, by decide⟩
theorem cw_X1_layRope : CW yX1_layRope cX1_layRope 9 none 2 := ⟨tw_4 (j := 122) rfl rfl, tw_1 (j := 15) rfl rfl, by decide, by decide, by decide⟩
theorem cw_X1_ropeTurn : CW yX1_ropeTurn cX1_ropeTurn 2 (some .int) 1 := ⟨tw_4 (j := 126) rfl rfl, tw_1 (j := 15) rfl rfl, by decide, by decide, by decide⟩
theorem cw_X1_standAt : CW yX1_standAt cX1_standAt 4 none 3 := ⟨tw_3 (j := 231) rfl rfl, tw_1 (j := 15) rfl rfl, by decide, by decide, by decide⟩
theorem cw_X1_tell : CW yX1_tell cX1_tell 2 (some .int) 1 := ⟨tw_4 (j := 4) rfl rfl, tw_1 (j := 15) rfl rfl, by decide, by decide, by decide⟩
theorem cw_X1_wheelX : CW yX1_wheelX cX1_wheelX 3 (some .int) 2 := ⟨tw_3 (j := 196) rfl rfl, tw_1 (j := 15) rfl rfl, by decide, by decide, by decide⟩
theorem cw_X1_wheelY : CW yX1_wheelY cX1_wheelY 3 (some .int) 2 := ⟨tw_3 (j := 208) rfl rfl, tw_1 (j := 15) rfl rfl, by decide, by decide, by decide⟩
theorem cw_X2_addCar : CW yX2_addCar cX2_addCar 4 (some .int) 3 := ⟨tw_5 (j := 37) rfl rfl, tw_1 (j := 7) rfl rfl, by decide, by decide, by decide⟩
theorem cw_X2_clearCars : CW yX2_clearCars cX2_clearCars 2 (some .int) 0 := ⟨tw_5 (j := 53) rfl rfl, tw_1 (j := 7) rfl rfl, by decide, by decide, by decide⟩
theorem cw_X2_enterBlock : CW yX2_enterBlock cX2_enterBlock 4 none 3 := ⟨tw_5 (j := 73) rfl rfl, tw_1 (j := 7) rfl rfl, by decide, by decide, by decide⟩
theorem cw_X2_goneOf : CW yX2_goneOf cX2_goneOf 2 (some .int) 1 := ⟨tw_5 (j := 61) rfl rfl, tw_1 (j := 7) rfl rfl, by decide, by decide, by decide⟩
theorem cw_X2_hasRoom : CW yX2_hasRoom cX2_hasRoom 4 (some .boolean) 1 := ⟨tw_5 (j := 77) rfl rfl, tw_1 (j := 7) rfl rfl, by decide, by decide, by decide⟩
theorem cw_X2_hasStayed : CW yX2_hasStayed cX2_hasStayed 4 (some .boolean) 2 := ⟨tw_5 (j := 81) rfl rfl, tw_1 (j := 7) rfl rfl, by decide, by decide, by decide⟩
theorem cw_X2_init : CW yX2_init cX2_init 1 none 0 := ⟨tw_2 (j := 11) rfl rfl, tw_1 (j := 7) rfl rfl, by decide, by decide, by decide⟩
theorem cw_X2_pass : CW yX2_pass cX2_pass 4 none 2 := ⟨tw_5 (j := 69) rfl rfl, tw_1 (j := 7) rfl rfl, by decide, by decide, by decide⟩
theorem cw_X2_passTo : CW yX2_passTo cX2_passTo 4 none 1 := ⟨tw_5 (j := 65) rfl rfl, tw_1 (j := 7) rfl rfl, by decide, by decide, by decide⟩
theorem cw_X2_placeOf : CW yX2_placeOf cX2_placeOf 3 (some .int) 2 := ⟨tw_5 (j := 89) rfl rfl, tw_1 (j := 7) rfl rfl, by decide, by decide, by decide⟩
theorem cw_X2_stick : CW yX2_stick cX2_stick 4 (some .int) 3 := ⟨tw_5 (j := 45) rfl rfl, tw_1 (j := 7) rfl rfl, by decide, by decide, by decide⟩
theorem cw_X2_tellBlock : CW yX2_tellBlock cX2_tellBlock 4 (some .int) 3 := ⟨tw_5 (j := 28) rfl rfl, tw_1 (j := 7) rfl rfl, by decide, by decide, by decide⟩
theorem cw_X3_addCar : CW yX3_addCar cX3_addCar 5 (some .int) 4 := ⟨tw_3 (j := 45) rfl rfl, tw_1 (j := 3) rfl rfl, by decide, by decide, by decide⟩
theorem cw_X3_aim : CW yX3_aim cX3_aim 7 none 5 := ⟨tw_4 (j := 23) rfl rfl, tw_1 (j := 3) rfl rfl, by decide, by decide, by decide⟩
theorem cw_X3_carAt : CW yX3_carAt cX3_carAt 2 (some (.object "FloatTowers$Car")) 1 := ⟨tw_3 (j := 136) rfl rfl, tw_1 (j := 3) rfl rfl, by decide, by decide, by decide⟩
theorem cw_X3_carMet : CW yX3_carMet cX3_carMet 5 (some .int) 1 := ⟨tw_3 (j := 216) rfl rfl, tw_1 (j := 3) rfl rfl, by decide, by decide, by decide⟩
theorem cw_X3_carsThatStand : CW yX3_carsThatStand cX3_carsThatStand 3 (some .int) 0 := ⟨tw_6 (j := 59) rfl rfl, tw_1 (j := 3) rfl rfl, by decide, by decide, by decide⟩
theorem cw_X3_drive : CW yX3_drive cX3_drive 3 (some .boolean) 2 := ⟨tw_4 (j := 35) rfl rfl, tw_1 (j := 3) rfl rfl, by decide, by decide, by decide⟩
theorem cw_X3_fewestWoods : CW yX3_fewestWoods cX3_fewestWoods 7 (some .int) 1 := ⟨tw_4 (j := 178) rfl rfl, tw_1 (j := 3) rfl rfl, by decide, by decide, by decide⟩
theorem cw_X3_firstMet : CW yX3_firstMet cX3_firstMet 6 (some .int) 4 := ⟨tw_3 (j := 157) rfl rfl, tw_1 (j := 3) rfl rfl, by decide, by decide, by decide⟩
theorem cw_X3_houseBitten : CW yX3_houseBitten cX3_houseBitten 3 (some .int) 2 := ⟨tw_4 (j := 118) rfl rfl, tw_1 (j := 3) rfl rfl, by decide, by decide, by decide⟩
theorem cw_X3_init : CW yX3_init cX3_init 2 none 1 := ⟨tw_1 (j := 92) rfl rfl, tw_1 (j := 3) rfl rfl, by decide, by decide, by decide⟩
theorem cw_X3_isWetUnder : CW yX3_isWetUnder cX3_isWetUnder 2 (some .boolean) 1 := ⟨tw_4 (j := 148) rfl rfl, tw_1 (j := 3) rfl rfl, by decide, by decide, by decide⟩
theorem cw_X3_needOf : CW yX3_needOf cX3_needOf 5 (some .int) 1 := ⟨tw_4 (j := 161) rfl rfl, tw_1 (j := 3) rfl rfl, by decide, by decide, by decide⟩
theorem cw_X3_pullOf : CW yX3_pullOf cX3_pullOf 6 (some .int) 1 := ⟨tw_4 (j := 144) rfl rfl, tw_1 (j := 3) rfl rfl, by decide, by decide, by decide⟩
theorem cw_X3_storeyTouches : CW yX3_storeyTouches cX3_storeyTouches 6 (some .boolean) 3 := ⟨tw_3 (j := 219) rfl rfl, tw_1 (j := 3) rfl rfl, by decide, by decide, by decide⟩
theorem cw_X3_tellNumber : CW yX3_tellNumber cX3_tellNumber 4 (some .int) 2 := ⟨tw_4 (j := 110) rfl rfl, tw_1 (j := 3) rfl rfl, by decide, by decide, by decide⟩
theorem cw_X4_append : CW yX4_append cX4_append 2 (some .int) 1 := ⟨tw_5 (j := 148) rfl rfl, tw_1 (j := 10) rfl rfl, by decide, by decide, by decide⟩
theorem cw_X4_byteAt : CW yX4_byteAt cX4_byteAt 2 (some .int) 1 := ⟨tw_5 (j := 169) rfl rfl, tw_1 (j := 10) rfl rfl, by decide, by decide, by decide⟩
theorem cw_X4_carryOut : CW yX4_carryOut cX4_carryOut 8 (some .int) 1 := ⟨tw_5 (j := 195) rfl rfl, tw_1 (j := 10) rfl rfl, by decide, by decide, by decide⟩
theorem cw_X4_clear : CW yX4_clear cX4_clear 2 (some .int) 0 := ⟨tw_5 (j := 157) rfl rfl, tw_1 (j := 10) rfl rfl, by decide, by decide, by decide⟩
theorem cw_X4_faultPlace : CW yX4_faultPlace cX4_faultPlace 4 (some .int) 0 := ⟨tw_5 (j := 165) rfl rfl, tw_1 (j := 10) rfl rfl, by decide, by decide, by decide⟩
theorem cw_X4_figuresAt : CW yX4_figuresAt cX4_figuresAt 2 (some .int) 1 := ⟨tw_5 (j := 176) rfl rfl, tw_1 (j := 10) rfl rfl, by decide, by decide, by decide⟩
theorem cw_X4_init : CW yX4_init cX4_init 3 none 2 := ⟨tw_2 (j := 84) rfl rfl, tw_1 (j := 10) rfl rfl, by decide, by decide, by decide⟩
theorem cw_X4_isFigure : CW yX4_isFigure cX4_isFigure 2 (some .boolean) 1 := ⟨tw_5 (j := 180) rfl rfl, tw_1 (j := 10) rfl rfl, by decide, by decide, by decide⟩
theorem cw_X4_leastBehind : CW yX4_leastBehind cX4_leastBehind 1 (some .int) 1 := ⟨tw_5 (j := 187) rfl rfl, tw_1 (j := 10) rfl rfl, by decide, by decide, by decide⟩
theorem cw_X4_mostBehind : CW yX4_mostBehind cX4_mostBehind 1 (some .int) 1 := ⟨tw_5 (j := 172) rfl rfl, tw_1 (j := 10) rfl rfl, by decide, by decide, by decide⟩
theorem cw_X4_moveOf : CW yX4_moveOf cX4_moveOf 2 (some .int) 2 := ⟨tw_5 (j := 201) rfl rfl, tw_1 (j := 10) rfl rfl, by decide, by decide, by decide⟩
theorem cw_X4_movesAsked : CW yX4_movesAsked cX4_movesAsked 2 (some .int) 2 := ⟨tw_5 (j := 198) rfl rfl, tw_1 (j := 10) rfl rfl, by decide, by decide, by decide⟩
theorem cw_X4_numberAt : CW yX4_numberAt cX4_numberAt 3 (some .int) 1 := ⟨tw_5 (j := 184) rfl rfl, tw_1 (j := 10) rfl rfl, by decide, by decide, by decide⟩
theorem cw_X4_otherDone : CW yX4_otherDone cX4_otherDone 3 (some .boolean) 2 := ⟨tw_5 (j := 206) rfl rfl, tw_1 (j := 10) rfl rfl, by decide, by decide, by decide⟩
theorem cw_X5_init : CW yX5_init cX5_init 1 none 0 := ⟨tw_1 (j := 100) rfl rfl, tw_1 (j := 4) rfl rfl, by decide, by decide, by decide⟩
theorem cw_X5_lay : CW yX5_lay cX5_lay 7 none 6 := ⟨tw_3 (j := 167) rfl rfl, tw_1 (j := 4) rfl rfl, by decide, by decide, by decide⟩
theorem cw_X5_liesApartFrom : CW yX5_liesApartFrom cX5_liesApartFrom 6 (some .boolean) 1 := ⟨tw_3 (j := 225) rfl rfl, tw_1 (j := 4) rfl rfl, by decide, by decide, by decide⟩
theorem cw_X5_touchesBox : CW yX5_touchesBox cX5_touchesBox 9 (some .boolean) 2 := ⟨tw_3 (j := 179) rfl rfl, tw_1 (j := 4) rfl rfl, by decide, by decide, by decide⟩
theorem cw_X6_buildHouses : CW yX6_buildHouses cX6_buildHouses 7 (some .int) 2 := ⟨tw_6 (j := 46) rfl rfl, tw_1 (j := 11) rfl rfl, by decide, by decide, by decide⟩
theorem cw_X6_carryOver : CW yX6_carryOver cX6_carryOver 6 (some .int) 5 := ⟨tw_6 (j := 30) rfl rfl, tw_1 (j := 11) rfl rfl, by decide, by decide, by decide⟩
theorem cw_X6_drop : CW yX6_drop cX6_drop 3 (some .int) 1 := ⟨tw_5 (j := 234) rfl rfl, tw_1 (j := 11) rfl rfl, by decide, by decide, by decide⟩
theorem cw_X6_find : CW yX6_find cX6_find 2 (some .int) 1 := ⟨tw_5 (j := 226) rfl rfl, tw_1 (j := 11) rfl rfl, by decide, by decide, by decide⟩
theorem cw_X6_hasItems : CW yX6_hasItems cX6_hasItems 4 (some .boolean) 3 := ⟨tw_6 (j := 34) rfl rfl, tw_1 (j := 11) rfl rfl, by decide, by decide, by decide⟩
theorem cw_X6_init : CW yX6_init cX6_init 1 none 0 := ⟨tw_2 (j := 104) rfl rfl, tw_1 (j := 11) rfl rfl, by decide, by decide, by decide⟩
theorem cw_X6_isForm : CW yX6_isForm cX6_isForm 1 (some .boolean) 1 := ⟨tw_5 (j := 222) rfl rfl, tw_1 (j := 11) rfl rfl, by decide, by decide, by decide⟩
theorem cw_X6_isSheet : CW yX6_isSheet cX6_isSheet 1 (some .boolean) 1 := ⟨tw_5 (j := 218) rfl rfl, tw_1 (j := 11) rfl rfl, by decide, by decide, by decide⟩
theorem cw_X6_lowestBits : CW yX6_lowestBits cX6_lowestBits 2 (some .int) 2 := ⟨tw_6 (j := 13) rfl rfl, tw_1 (j := 11) rfl rfl, by decide, by decide, by decide⟩
theorem cw_X6_read : CW yX6_read cX6_read 4 (some .int) 3 := ⟨tw_6 (j := 21) rfl rfl, tw_1 (j := 11) rfl rfl, by decide, by decide, by decide⟩
theorem cw_X6_refusalOf : CW yX6_refusalOf cX6_refusalOf 2 (some .int) 1 := ⟨tw_5 (j := 238) rfl rfl, tw_1 (j := 11) rfl rfl, by decide, by decide, by decide⟩
theorem cw_X6_refusalOfItem : CW yX6_refusalOfItem cX6_refusalOfItem 4 (some .int) 3 := ⟨tw_6 (j := 10) rfl rfl, tw_1 (j := 11) rfl rfl, by decide, by decide, by decide⟩
theorem cw_X6_renew : CW yX6_renew cX6_renew 4 (some .int) 3 := ⟨tw_5 (j := 215) rfl rfl, tw_1 (j := 11) rfl rfl, by decide, by decide, by decide⟩
theorem cw_X6_write : CW yX6_write cX6_write 6 (some .int) 4 := ⟨tw_6 (j := 6) rfl rfl, tw_1 (j := 11) rfl rfl, by decide, by decide, by decide⟩
theorem cw_X7_addStage : CW yX7_addStage cX7_addStage 2 (some .int) 1 := ⟨tw_4 (j := 200) rfl rfl, tw_1 (j := 6) rfl rfl, by decide, by decide, by decide⟩
theorem cw_X7_addTeam : CW yX7_addTeam cX7_addTeam 2 (some .int) 1 := ⟨tw_4 (j := 191) rfl rfl, tw_1 (j := 6) rfl rfl, by decide, by decide, by decide⟩
theorem cw_X7_choose : CW yX7_choose cX7_choose 4 none 0 := ⟨tw_5 (j := 10) rfl rfl, tw_1 (j := 6) rfl rfl, by decide, by decide, by decide⟩
theorem cw_X7_fewest : CW yX7_fewest cX7_fewest 1 (some .int) 0 := ⟨tw_4 (j := 216) rfl rfl, tw_1 (j := 6) rfl rfl, by decide, by decide, by decide⟩
theorem cw_X7_fewestAt : CW yX7_fewestAt cX7_fewestAt 5 (some .int) 2 := ⟨tw_4 (j := 225) rfl rfl, tw_1 (j := 6) rfl rfl, by decide, by decide, by decide⟩
theorem cw_X7_fewestWith : CW yX7_fewestWith cX7_fewestWith 5 (some .int) 3 := ⟨tw_4 (j := 229) rfl rfl, tw_1 (j := 6) rfl rfl, by decide, by decide, by decide⟩
theorem cw_X7_handsOf : CW yX7_handsOf cX7_handsOf 4 (some .int) 1 := ⟨tw_4 (j := 237) rfl rfl, tw_1 (j := 6) rfl rfl, by decide, by decide, by decide⟩
theorem cw_X7_init : CW yX7_init cX7_init 1 none 0 := ⟨tw_1 (j := 216) rfl rfl, tw_1 (j := 6) rfl rfl, by decide, by decide, by decide⟩
theorem cw_X7_reckon : CW yX7_reckon cX7_reckon 3 none 0 := ⟨tw_4 (j := 220) rfl rfl, tw_1 (j := 6) rfl rfl, by decide, by decide, by decide⟩
theorem cw_X7_stateBehind : CW yX7_stateBehind cX7_stateBehind 6 (some .int) 2 := ⟨tw_4 (j := 233) rfl rfl, tw_1 (j := 6) rfl rfl, by decide, by decide, by decide⟩
theorem cw_X7_teamsOf : CW yX7_teamsOf cX7_teamsOf 2 (some .int) 1 := ⟨tw_5 (j := 19) rfl rfl, tw_1 (j := 6) rfl rfl, by decide, by decide, by decide⟩
theorem cw_X7_tellRun : CW yX7_tellRun cX7_tellRun 3 (some .int) 1 := ⟨tw_4 (j := 208) rfl rfl, tw_1 (j := 6) rfl rfl, by decide, by decide, by decide⟩
theorem cw_X8_addHouse : CW yX8_addHouse cX8_addHouse 8 (some .int) 7 := ⟨tw_2 (j := 172) rfl rfl, tw_1 (j := 2) rfl rfl, by decide, by decide, by decide⟩
theorem cw_X8_addKerb : CW yX8_addKerb cX8_addKerb 5 (some .int) 4 := ⟨tw_2 (j := 214) rfl rfl, tw_1 (j := 2) rfl rfl, by decide, by decide, by decide⟩
theorem cw_X8_addSlope : CW yX8_addSlope cX8_addSlope 8 (some .int) 7 := ⟨tw_2 (j := 238) rfl rfl, tw_1 (j := 2) rfl rfl, by decide, by decide, by decide⟩
theorem cw_X8_addWire : CW yX8_addWire cX8_addWire 6 (some .int) 5 := ⟨tw_2 (j := 222) rfl rfl, tw_1 (j := 2) rfl rfl, by decide, by decide, by decide⟩
theorem cw_X8_cutEaves : CW yX8_cutEaves cX8_cutEaves 4 (some .int) 2 := ⟨tw_2 (j := 206) rfl rfl, tw_1 (j := 2) rfl rfl, by decide, by decide, by decide⟩
theorem cw_X8_eavesMet : CW yX8_eavesMet cX8_eavesMet 4 (some .int) 1 := ⟨tw_3 (j := 183) rfl rfl, tw_1 (j := 2) rfl rfl, by decide, by decide, by decide⟩
theorem cw_X8_houseMet : CW yX8_houseMet cX8_houseMet 4 (some .int) 1 := ⟨tw_3 (j := 174) rfl rfl, tw_1 (j := 2) rfl rfl, by decide, by decide, by decide⟩
theorem cw_X8_houseOnLine : CW yX8_houseOnLine cX8_houseOnLine 3 (some .int) 1 := ⟨tw_4 (j := 132) rfl rfl, tw_1 (j := 2) rfl rfl, by decide, by decide, by decide⟩
theorem cw_X8_init : CW yX8_init cX8_init 1 none 0 := ⟨tw_1 (j := 30) rfl rfl, tw_1 (j := 2) rfl rfl, by decide, by decide, by decide⟩
theorem cw_X8_isSlope : CW yX8_isSlope cX8_isSlope 2 (some .boolean) 1 := ⟨tw_3 (j := 29) rfl rfl, tw_1 (j := 2) rfl rfl, by decide, by decide, by decide⟩
theorem cw_X8_isWet : CW yX8_isWet cX8_isWet 2 (some .boolean) 1 := ⟨tw_3 (j := 37) rfl rfl, tw_1 (j := 2) rfl rfl, by decide, by decide, by decide⟩
theorem cw_X8_kerbMet : CW yX8_kerbMet cX8_kerbMet 7 (some .int) 4 := ⟨tw_3 (j := 192) rfl rfl, tw_1 (j := 2) rfl rfl, by decide, by decide, by decide⟩
theorem cw_X8_lower : CW yX8_lower cX8_lower 4 (some .int) 2 := ⟨tw_2 (j := 230) rfl rfl, tw_1 (j := 2) rfl rfl, by decide, by decide, by decide⟩
theorem cw_X8_riseXOf : CW yX8_riseXOf cX8_riseXOf 2 (some .int) 1 := ⟨tw_3 (j := 25) rfl rfl, tw_1 (j := 2) rfl rfl, by decide, by decide, by decide⟩
theorem cw_X8_riseYOf : CW yX8_riseYOf cX8_riseYOf 2 (some .int) 1 := ⟨tw_3 (j := 33) rfl rfl, tw_1 (j := 2) rfl rfl, by decide, by decide, by decide⟩
theorem cw_X8_slopeAt : CW yX8_slopeAt cX8_slopeAt 4 (some .int) 2 := ⟨tw_3 (j := 16) rfl rfl, tw_1 (j := 2) rfl rfl, by decide, by decide, by decide⟩
theorem cw_X8_wetAll : CW yX8_wetAll cX8_wetAll 4 (some .int) 1 := ⟨tw_3 (j := 6) rfl rfl, tw_1 (j := 2) rfl rfl, by decide, by decide, by decide⟩
theorem cw_X8_wireMet : CW yX8_wireMet cX8_wireMet 4 (some .int) 1 := ⟨tw_3 (j := 188) rfl rfl, tw_1 (j := 2) rfl rfl, by decide, by decide, by decide⟩
theorem cw_X8_wiresThatHang : CW yX8_wiresThatHang cX8_wiresThatHang 3 (some .int) 0 := ⟨tw_6 (j := 55) rfl rfl, tw_1 (j := 2) rfl rfl, by decide, by decide, by decide⟩
theorem cw_X9_addTask : CW yX9_addTask cX9_addTask 3 (some .int) 2 := ⟨tw_5 (j := 97) rfl rfl, tw_1 (j := 9) rfl rfl, by decide, by decide, by decide⟩
theorem cw_X9_firstFree : CW yX9_firstFree cX9_firstFree 3 (some .int) 0 := ⟨tw_5 (j := 127) rfl rfl, tw_1 (j := 9) rfl rfl, by decide, by decide, by decide⟩
theorem cw_X9_greatestLate : CW yX9_greatestLate cX9_greatestLate 3 (some .int) 0 := ⟨tw_5 (j := 135) rfl rfl, tw_1 (j := 9) rfl rfl, by decide, by decide, by decide⟩
theorem cw_X9_howManyLate : CW yX9_howManyLate cX9_howManyLate 3 (some .int) 0 := ⟨tw_5 (j := 140) rfl rfl, tw_1 (j := 9) rfl rfl, by decide, by decide, by decide⟩
theorem cw_X9_init : CW yX9_init cX9_init 1 none 0 := ⟨tw_2 (j := 55) rfl rfl, tw_1 (j := 9) rfl rfl, by decide, by decide, by decide⟩
theorem cw_X9_lateOf : CW yX9_lateOf cX9_lateOf 2 (some .int) 1 := ⟨tw_5 (j := 114) rfl rfl, tw_1 (j := 9) rfl rfl, by decide, by decide, by decide⟩
theorem cw_X9_nextTask : CW yX9_nextTask cX9_nextTask 4 (some .int) 0 := ⟨tw_5 (j := 123) rfl rfl, tw_1 (j := 9) rfl rfl, by decide, by decide, by decide⟩
theorem cw_X9_share : CW yX9_share cX9_share 4 none 0 := ⟨tw_5 (j := 118) rfl rfl, tw_1 (j := 9) rfl rfl, by decide, by decide, by decide⟩
theorem cw_X9_tellCrews : CW yX9_tellCrews cX9_tellCrews 3 (some .int) 1 := ⟨tw_5 (j := 106) rfl rfl, tw_1 (j := 9) rfl rfl, by decide, by decide, by decide⟩
theorem fl_COSINES : Cond.fieldLink RX11 370 "FloatTowers" "COSINES" "[I" ∈ TW := tw_2 (j := 157) rfl rfl
theorem fl_X0_15 : FL RX0 15 0 1 .int true := ⟨RX0, TX0, 4, rfl, by decide, tw_2 (j := 184) rfl rfl, rfl, rfl, by decide +kernel, inw_X0, ⟨tyX0, tyX0_ok⟩, nmX0⟩
theorem fl_X0_18 : FL RX0 18 0 2 .int true := ⟨RX0, TX0, 4, rfl, by decide, tw_2 (j := 186) rfl rfl, rfl, rfl, by decide +kernel, inw_X0, ⟨tyX0, tyX0_ok⟩, nmX0⟩
theorem fl_X0_21 : FL RX0 21 0 3 .int true := ⟨RX0, TX0, 4, rfl, by decide, tw_2 (j := 188) rfl rfl, rfl, rfl, by decide +kernel, inw_X0, ⟨tyX0, tyX0_ok⟩, nmX0⟩
theorem fl_X0_9 : FL RX0 9 0 0 .int true := ⟨RX0, TX0, 4, rfl, by decide, tw_2 (j := 182) rfl rfl, rfl, rfl, by decide +kernel, inw_X0, ⟨tyX0, tyX0_ok⟩, nmX0⟩
theorem fl_X10_100 : FL RX10 100 3 9 .int false := ⟨RX3, TX3, 11, rfl, by decide, tw_1 (j := 141) rfl rfl, rfl, rfl, by decide +kernel, inw_X3, ⟨tyX3, tyX3_ok⟩, nmX3⟩
theorem fl_X10_103 : FL RX10 103 3 10 .int false := ⟨RX3, TX3, 11, rfl, by decide, tw_1 (j := 144) rfl rfl, rfl, rfl, by decide +kernel, inw_X3, ⟨tyX3, tyX3_ok⟩, nmX3⟩
theorem fl_X10_11 : FL RX10 11 10 1 (tyX10 1) true := ⟨RX10, TX10, 11, rfl, by decide, tw_1 (j := 177) rfl rfl, rfl, rfl, by decide +kernel, inw_X10, ⟨tyX10, tyX10_ok⟩, nmX10⟩
theorem fl_X10_15 : FL RX10 15 10 2 (tyX10 2) true := ⟨RX10, TX10, 11, rfl, by decide, tw_1 (j := 178) rfl rfl, rfl, rfl, by decide +kernel, inw_X10, ⟨tyX10, tyX10_ok⟩, nmX10⟩
theorem fl_X10_19 : FL RX10 19 10 3 (tyX10 3) true := ⟨RX10, TX10, 11, rfl, by decide, tw_1 (j := 179) rfl rfl, rfl, rfl, by decide +kernel, inw_X10, ⟨tyX10, tyX10_ok⟩, nmX10⟩
theorem fl_X10_22 : FL RX10 22 10 4 (tyX10 4) true := ⟨RX10, TX10, 11, rfl, by decide, tw_1 (j := 180) rfl rfl, rfl, rfl, by decide +kernel, inw_X10, ⟨tyX10, tyX10_ok⟩, nmX10⟩
theorem fl_X10_25 : FL RX10 25 10 6 (tyX10 6) true := ⟨RX10, TX10, 11, rfl, by decide, tw_1 (j := 183) rfl rfl, rfl, rfl, by decide +kernel, inw_X10, ⟨tyX10, tyX10_ok⟩, nmX10⟩
theorem fl_X10_28 : FL RX10 28 10 0 (tyX10 0) true := ⟨RX10, TX10, 11, rfl, by decide, tw_1 (j := 176) rfl rfl, rfl, rfl, by decide +kernel, inw_X10, ⟨tyX10, tyX10_ok⟩, nmX10⟩
theorem fl_X10_32 : FL RX10 32 10 7 .int false := ⟨RX10, TX10, 11, rfl, by decide, tw_1 (j := 184) rfl rfl, rfl, rfl, by decide +kernel, inw_X10, ⟨tyX10, tyX10_ok⟩, nmX10⟩
theorem fl_X10_40 : FL RX10 40 10 8 (tyX10 8) false := ⟨RX10, TX10, 11, rfl, by decide, tw_1 (j := 185) rfl rfl, rfl, rfl, by decide +kernel, inw_X10, ⟨tyX10, tyX10_ok⟩, nmX10⟩
theorem fl_X10_44 : FL RX10 44 10 9 (tyX10 9) false := ⟨RX10, TX10, 11, rfl, by decide, tw_1 (j := 186) rfl rfl, rfl, rfl, by decide +kernel, inw_X10, ⟨tyX10, tyX10_ok⟩, nmX10⟩
theorem fl_X10_48 : FL RX10 48 10 10 .int false := ⟨RX10, TX10, 11, rfl, by decide, tw_1 (j := 187) rfl rfl, rfl, rfl, by decide +kernel, inw_X10, ⟨tyX10, tyX10_ok⟩, nmX10⟩
theorem fl_X10_51 : FL RX10 51 10 5 .int false := ⟨RX10, TX10, 11, rfl, by decide, tw_1 (j := 181) rfl rfl, rfl, rfl, by decide +kernel, inw_X10, ⟨tyX10, tyX10_ok⟩, nmX10⟩
theorem fl_X10_60 : FL RX10 60 1 9 .int false := ⟨RX1, TX1, 17, rfl, by decide, tw_3 (j := 70) rfl rfl, rfl, rfl, by decide +kernel, inw_X1, ⟨tyX1, tyX1_ok⟩, nmX1⟩
theorem fl_X10_65 : FL RX10 65 1 10 .int false := ⟨RX1, TX1, 17, rfl, by decide, tw_3 (j := 74) rfl rfl, rfl, rfl, by decide +kernel, inw_X1, ⟨tyX1, tyX1_ok⟩, nmX1⟩
theorem fl_X10_68 : FL RX10 68 1 11 .int false := ⟨RX1, TX1, 17, rfl, by decide, tw_3 (j := 78) rfl rfl, rfl, rfl, by decide +kernel, inw_X1, ⟨tyX1, tyX1_ok⟩, nmX1⟩
theorem fl_X10_97 : FL RX10 97 3 8 .int false := ⟨RX3, TX3, 11, rfl, by decide, tw_1 (j := 138) rfl rfl, rfl, rfl, by decide +kernel, inw_X3, ⟨tyX3, tyX3_ok⟩, nmX3⟩
theorem fl_X11_10 : FL RX11 10 11 0 (tyX11 0) true := ⟨RX11, TX11, 8, rfl, by decide, tw_2 (j := 122) rfl rfl, rfl, rfl, by decide +kernel, inw_X11, ⟨tyX11, tyX11_ok⟩, nmX11⟩
theorem fl_X11_146 : FL RX11 146 1 12 .boolean false := ⟨RX1, TX1, 17, rfl, by decide, tw_3 (j := 84) rfl rfl, rfl, rfl, by decide +kernel, inw_X1, ⟨tyX1, tyX1_ok⟩, nmX1⟩
theorem fl_X11_154 : FL RX11 154 1 9 .int false := ⟨RX1, TX1, 17, rfl, by decide, tw_3 (j := 73) rfl rfl, rfl, rfl, by decide +kernel, inw_X1, ⟨tyX1, tyX1_ok⟩, nmX1⟩
theorem fl_X11_158 : FL RX11 158 1 11 .int false := ⟨RX1, TX1, 17, rfl, by decide, tw_3 (j := 81) rfl rfl, rfl, rfl, by decide +kernel, inw_X1, ⟨tyX1, tyX1_ok⟩, nmX1⟩
theorem fl_X11_164 : FL RX11 164 1 10 .int false := ⟨RX1, TX1, 17, rfl, by decide, tw_3 (j := 77) rfl rfl, rfl, rfl, by decide +kernel, inw_X1, ⟨tyX1, tyX1_ok⟩, nmX1⟩
theorem fl_X11_170 : FL RX11 170 3 3 .int false := ⟨RX3, TX3, 11, rfl, by decide, tw_1 (j := 133) rfl rfl, rfl, rfl, by decide +kernel, inw_X3, ⟨tyX3, tyX3_ok⟩, nmX3⟩
theorem fl_X11_177 : FL RX11 177 3 8 .int false := ⟨RX3, TX3, 11, rfl, by decide, tw_1 (j := 140) rfl rfl, rfl, rfl, by decide +kernel, inw_X3, ⟨tyX3, tyX3_ok⟩, nmX3⟩
theorem fl_X11_180 : FL RX11 180 3 9 .int false := ⟨RX3, TX3, 11, rfl, by decide, tw_1 (j := 143) rfl rfl, rfl, rfl, by decide +kernel, inw_X3, ⟨tyX3, tyX3_ok⟩, nmX3⟩
theorem fl_X11_183 : FL RX11 183 3 10 .int false := ⟨RX3, TX3, 11, rfl, by decide, tw_1 (j := 146) rfl rfl, rfl, rfl, by decide +kernel, inw_X3, ⟨tyX3, tyX3_ok⟩, nmX3⟩
theorem fl_X11_206 : FL RX11 206 10 5 .int false := ⟨RX10, TX10, 11, rfl, by decide, tw_1 (j := 182) rfl rfl, rfl, rfl, by decide +kernel, inw_X10, ⟨tyX10, tyX10_ok⟩, nmX10⟩
theorem fl_X11_209 : FL RX11 209 1 14 (tyX1 14) true := ⟨RX1, TX1, 17, rfl, by decide, tw_3 (j := 89) rfl rfl, rfl, rfl, by decide +kernel, inw_X1, ⟨tyX1, tyX1_ok⟩, nmX1⟩
theorem fl_X11_21 : FL RX11 21 11 1 (tyX11 1) true := ⟨RX11, TX11, 8, rfl, by decide, tw_2 (j := 123) rfl rfl, rfl, rfl, by decide +kernel, inw_X11, ⟨tyX11, tyX11_ok⟩, nmX11⟩
theorem fl_X11_213 : FL RX11 213 1 15 (tyX1 15) true := ⟨RX1, TX1, 17, rfl, by decide, tw_3 (j := 91) rfl rfl, rfl, rfl, by decide +kernel, inw_X1, ⟨tyX1, tyX1_ok⟩, nmX1⟩
theorem fl_X11_216 : FL RX11 216 1 16 (tyX1 16) true := ⟨RX1, TX1, 17, rfl, by decide, tw_3 (j := 93) rfl rfl, rfl, rfl, by decide +kernel, inw_X1, ⟨tyX1, tyX1_ok⟩, nmX1⟩
theorem fl_X11_30 : FL RX11 30 11 2 (tyX11 2) true := ⟨RX11, TX11, 8, rfl, by decide, tw_2 (j := 124) rfl rfl, rfl, rfl, by decide +kernel, inw_X11, ⟨tyX11, tyX11_ok⟩, nmX11⟩
theorem fl_X11_322 : FL RX11 322 8 4 .int false := ⟨RX8, TX8, 16, rfl, by decide, tw_1 (j := 39) rfl rfl, rfl, rfl, by decide +kernel, inw_X8, ⟨tyX8, tyX8_ok⟩, nmX8⟩
theorem fl_X11_325 : FL RX11 325 8 6 .int false := ⟨RX8, TX8, 16, rfl, by decide, tw_1 (j := 42) rfl rfl, rfl, rfl, by decide +kernel, inw_X8, ⟨tyX8, tyX8_ok⟩, nmX8⟩
theorem fl_X11_331 : FL RX11 331 8 15 .int false := ⟨RX8, TX8, 16, rfl, by decide, tw_1 (j := 52) rfl rfl, rfl, rfl, by decide +kernel, inw_X8, ⟨tyX8, tyX8_ok⟩, nmX8⟩
theorem fl_X11_334 : FL RX11 334 3 2 .int false := ⟨RX3, TX3, 11, rfl, by decide, tw_1 (j := 130) rfl rfl, rfl, rfl, by decide +kernel, inw_X3, ⟨tyX3, tyX3_ok⟩, nmX3⟩
theorem fl_X11_340 : FL RX11 340 2 7 .int false := ⟨RX2, TX2, 11, rfl, by decide, tw_2 (j := 24) rfl rfl, rfl, rfl, by decide +kernel, inw_X2, ⟨tyX2, tyX2_ok⟩, nmX2⟩
theorem fl_X11_341 : FL RX11 341 9 2 .int false := ⟨RX9, TX9, 7, rfl, by decide, tw_2 (j := 60) rfl rfl, rfl, rfl, by decide +kernel, inw_X9, ⟨tyX9, tyX9_ok⟩, nmX9⟩
theorem fl_X11_344 : FL RX11 344 4 3 .int false := ⟨RX4, TX4, 4, rfl, by decide, tw_2 (j := 90) rfl rfl, rfl, rfl, by decide +kernel, inw_X4, ⟨tyX4, tyX4_ok⟩, nmX4⟩
theorem fl_X11_347 : FL RX11 347 6 3 .int false := ⟨RX6, TX6, 4, rfl, by decide, tw_2 (j := 112) rfl rfl, rfl, rfl, by decide +kernel, inw_X6, ⟨tyX6, tyX6_ok⟩, nmX6⟩
theorem fl_X11_350 : FL RX11 350 7 1 .int false := ⟨RX7, TX7, 8, rfl, by decide, tw_1 (j := 222) rfl rfl, rfl, rfl, by decide +kernel, inw_X7, ⟨tyX7, tyX7_ok⟩, nmX7⟩
theorem fl_X11_353 : FL RX11 353 7 3 .int false := ⟨RX7, TX7, 8, rfl, by decide, tw_1 (j := 225) rfl rfl, rfl, rfl, by decide +kernel, inw_X7, ⟨tyX7, tyX7_ok⟩, nmX7⟩
theorem fl_X11_37 : FL RX11 37 11 3 (tyX11 3) true := ⟨RX11, TX11, 8, rfl, by decide, tw_2 (j := 125) rfl rfl, rfl, rfl, by decide +kernel, inw_X11, ⟨tyX11, tyX11_ok⟩, nmX11⟩
theorem fl_X11_44 : FL RX11 44 11 4 (tyX11 4) true := ⟨RX11, TX11, 8, rfl, by decide, tw_2 (j := 126) rfl rfl, rfl, rfl, by decide +kernel, inw_X11, ⟨tyX11, tyX11_ok⟩, nmX11⟩
theorem fl_X11_51 : FL RX11 51 11 5 (tyX11 5) true := ⟨RX11, TX11, 8, rfl, by decide, tw_2 (j := 127) rfl rfl, rfl, rfl, by decide +kernel, inw_X11, ⟨tyX11, tyX11_ok⟩, nmX11⟩
theorem fl_X11_60 : FL RX11 60 11 6 (tyX11 6) true := ⟨RX11, TX11, 8, rfl, by decide, tw_2 (j := 128) rfl rfl, rfl, rfl, by decide +kernel, inw_X11, ⟨tyX11, tyX11_ok⟩, nmX11⟩
theorem fl_X11_67 : FL RX11 67 11 7 (tyX11 7) true := ⟨RX11, TX11, 8, rfl, by decide, tw_2 (j := 129) rfl rfl, rfl, rfl, by decide +kernel, inw_X11, ⟨tyX11, tyX11_ok⟩, nmX11⟩
theorem fl_X12_102 : FL RX12 102 12 39 (tyX12 39) true := ⟨RX12, TX12, 84, rfl, by decide, tw_6 (j := 117) rfl rfl, rfl, rfl, by decide +kernel, inw_X12, ⟨tyX12, tyX12_ok⟩, nmX12⟩
theorem fl_X12_105 : FL RX12 105 12 40 (tyX12 40) true := ⟨RX12, TX12, 84, rfl, by decide, tw_6 (j := 118) rfl rfl, rfl, rfl, by decide +kernel, inw_X12, ⟨tyX12, tyX12_ok⟩, nmX12⟩
theorem fl_X12_108 : FL RX12 108 12 41 (tyX12 41) true := ⟨RX12, TX12, 84, rfl, by decide, tw_6 (j := 119) rfl rfl, rfl, rfl, by decide +kernel, inw_X12, ⟨tyX12, tyX12_ok⟩, nmX12⟩
theorem fl_X12_111 : FL RX12 111 12 43 (tyX12 43) true := ⟨RX12, TX12, 84, rfl, by decide, tw_6 (j := 121) rfl rfl, rfl, rfl, by decide +kernel, inw_X12, ⟨tyX12, tyX12_ok⟩, nmX12⟩
theorem fl_X12_114 : FL RX12 114 12 44 (tyX12 44) true := ⟨RX12, TX12, 84, rfl, by decide, tw_6 (j := 122) rfl rfl, rfl, rfl, by decide +kernel, inw_X12, ⟨tyX12, tyX12_ok⟩, nmX12⟩
theorem fl_X12_117 : FL RX12 117 12 45 (tyX12 45) true := ⟨RX12, TX12, 84, rfl, by decide, tw_6 (j := 123) rfl rfl, rfl, rfl, by decide +kernel, inw_X12, ⟨tyX12, tyX12_ok⟩, nmX12⟩
theorem fl_X12_120 : FL RX12 120 12 46 (tyX12 46) true := ⟨RX12, TX12, 84, rfl, by decide, tw_6 (j := 124) rfl rfl, rfl, rfl, by decide +kernel, inw_X12, ⟨tyX12, tyX12_ok⟩, nmX12⟩
theorem fl_X12_123 : FL RX12 123 12 47 .int false := ⟨RX12, TX12, 84, rfl, by decide, tw_6 (j := 125) rfl rfl, rfl, rfl, by decide +kernel, inw_X12, ⟨tyX12, tyX12_ok⟩, nmX12⟩
theorem fl_X12_126 : FL RX12 126 12 48 .int false := ⟨RX12, TX12, 84, rfl, by decide, tw_6 (j := 126) rfl rfl, rfl, rfl, by decide +kernel, inw_X12, ⟨tyX12, tyX12_ok⟩, nmX12⟩
theorem fl_X12_129 : FL RX12 129 12 49 .int false := ⟨RX12, TX12, 84, rfl, by decide, tw_6 (j := 127) rfl rfl, rfl, rfl, by decide +kernel, inw_X12, ⟨tyX12, tyX12_ok⟩, nmX12⟩
theorem fl_X12_13 : FL RX12 13 12 2 (tyX12 2) true := ⟨RX12, TX12, 84, rfl, by decide, tw_6 (j := 80) rfl rfl, rfl, rfl, by decide +kernel, inw_X12, ⟨tyX12, tyX12_ok⟩, nmX12⟩
theorem fl_X12_132 : FL RX12 132 12 51 (tyX12 51) true := ⟨RX12, TX12, 84, rfl, by decide, tw_6 (j := 129) rfl rfl, rfl, rfl, by decide +kernel, inw_X12, ⟨tyX12, tyX12_ok⟩, nmX12⟩
theorem fl_X12_135 : FL RX12 135 12 53 (tyX12 53) true := ⟨RX12, TX12, 84, rfl, by decide, tw_6 (j := 131) rfl rfl, rfl, rfl, by decide +kernel, inw_X12, ⟨tyX12, tyX12_ok⟩, nmX12⟩
theorem fl_X12_138 : FL RX12 138 12 54 .int false := ⟨RX12, TX12, 84, rfl, by decide, tw_6 (j := 132) rfl rfl, rfl, rfl, by decide +kernel, inw_X12, ⟨tyX12, tyX12_ok⟩, nmX12⟩
theorem fl_X12_141 : FL RX12 141 12 55 (tyX12 55) true := ⟨RX12, TX12, 84, rfl, by decide, tw_6 (j := 133) rfl rfl, rfl, rfl, by decide +kernel, inw_X12, ⟨tyX12, tyX12_ok⟩, nmX12⟩
theorem fl_X12_144 : FL RX12 144 12 56 (tyX12 56) true := ⟨RX12, TX12, 84, rfl, by decide, tw_6 (j := 134) rfl rfl, rfl, rfl, by decide +kernel, inw_X12, ⟨tyX12, tyX12_ok⟩, nmX12⟩
theorem fl_X12_147 : FL RX12 147 12 57 (tyX12 57) true := ⟨RX12, TX12, 84, rfl, by decide, tw_6 (j := 135) rfl rfl, rfl, rfl, by decide +kernel, inw_X12, ⟨tyX12, tyX12_ok⟩, nmX12⟩
theorem fl_X12_150 : FL RX12 150 12 58 (tyX12 58) true := ⟨RX12, TX12, 84, rfl, by decide, tw_6 (j := 136) rfl rfl, rfl, rfl, by decide +kernel, inw_X12, ⟨tyX12, tyX12_ok⟩, nmX12⟩
theorem fl_X12_153 : FL RX12 153 12 60 (tyX12 60) true := ⟨RX12, TX12, 84, rfl, by decide, tw_6 (j := 138) rfl rfl, rfl, rfl, by decide +kernel, inw_X12, ⟨tyX12, tyX12_ok⟩, nmX12⟩
theorem fl_X12_156 : FL RX12 156 12 61 (tyX12 61) true := ⟨RX12, TX12, 84, rfl, by decide, tw_6 (j := 139) rfl rfl, rfl, rfl, by decide +kernel, inw_X12, ⟨tyX12, tyX12_ok⟩, nmX12⟩
theorem fl_X12_159 : FL RX12 159 12 62 (tyX12 62) true := ⟨RX12, TX12, 84, rfl, by decide, tw_6 (j := 140) rfl rfl, rfl, rfl, by decide +kernel, inw_X12, ⟨tyX12, tyX12_ok⟩, nmX12⟩
theorem fl_X12_16 : FL RX12 16 12 3 (tyX12 3) true := ⟨RX12, TX12, 84, rfl, by decide, tw_6 (j := 81) rfl rfl, rfl, rfl, by decide +kernel, inw_X12, ⟨tyX12, tyX12_ok⟩, nmX12⟩
theorem fl_X12_162 : FL RX12 162 12 63 (tyX12 63) true := ⟨RX12, TX12, 84, rfl, by decide, tw_6 (j := 141) rfl rfl, rfl, rfl, by decide +kernel, inw_X12, ⟨tyX12, tyX12_ok⟩, nmX12⟩
theorem fl_X12_165 : FL RX12 165 12 64 (tyX12 64) true := ⟨RX12, TX12, 84, rfl, by decide, tw_6 (j := 142) rfl rfl, rfl, rfl, by decide +kernel, inw_X12, ⟨tyX12, tyX12_ok⟩, nmX12⟩
theorem fl_X12_168 : FL RX12 168 12 65 (tyX12 65) true := ⟨RX12, TX12, 84, rfl, by decide, tw_6 (j := 143) rfl rfl, rfl, rfl, by decide +kernel, inw_X12, ⟨tyX12, tyX12_ok⟩, nmX12⟩
theorem fl_X12_171 : FL RX12 171 12 66 (tyX12 66) true := ⟨RX12, TX12, 84, rfl, by decide, tw_6 (j := 144) rfl rfl, rfl, rfl, by decide +kernel, inw_X12, ⟨tyX12, tyX12_ok⟩, nmX12⟩
theorem fl_X12_174 : FL RX12 174 12 67 (tyX12 67) true := ⟨RX12, TX12, 84, rfl, by decide, tw_6 (j := 145) rfl rfl, rfl, rfl, by decide +kernel, inw_X12, ⟨tyX12, tyX12_ok⟩, nmX12⟩
theorem fl_X12_177 : FL RX12 177 12 69 (tyX12 69) true := ⟨RX12, TX12, 84, rfl, by decide, tw_6 (j := 147) rfl rfl, rfl, rfl, by decide +kernel, inw_X12, ⟨tyX12, tyX12_ok⟩, nmX12⟩
theorem fl_X12_180 : FL RX12 180 12 70 (tyX12 70) true := ⟨RX12, TX12, 84, rfl, by decide, tw_6 (j := 148) rfl rfl, rfl, rfl, by decide +kernel, inw_X12, ⟨tyX12, tyX12_ok⟩, nmX12⟩
theorem fl_X12_183 : FL RX12 183 12 71 (tyX12 71) true := ⟨RX12, TX12, 84, rfl, by decide, tw_6 (j := 149) rfl rfl, rfl, rfl, by decide +kernel, inw_X12, ⟨tyX12, tyX12_ok⟩, nmX12⟩
theorem fl_X12_186 : FL RX12 186 12 72 .int false := ⟨RX12, TX12, 84, rfl, by decide, tw_6 (j := 150) rfl rfl, rfl, rfl, by decide +kernel, inw_X12, ⟨tyX12, tyX12_ok⟩, nmX12⟩
theorem fl_X12_189 : FL RX12 189 12 73 (tyX12 73) true := ⟨RX12, TX12, 84, rfl, by decide, tw_6 (j := 151) rfl rfl, rfl, rfl, by decide +kernel, inw_X12, ⟨tyX12, tyX12_ok⟩, nmX12⟩
theorem fl_X12_19 : FL RX12 19 12 4 (tyX12 4) true := ⟨RX12, TX12, 84, rfl, by decide, tw_6 (j := 82) rfl rfl, rfl, rfl, by decide +kernel, inw_X12, ⟨tyX12, tyX12_ok⟩, nmX12⟩
theorem fl_X12_192 : FL RX12 192 12 75 (tyX12 75) true := ⟨RX12, TX12, 84, rfl, by decide, tw_6 (j := 153) rfl rfl, rfl, rfl, by decide +kernel, inw_X12, ⟨tyX12, tyX12_ok⟩, nmX12⟩
theorem fl_X12_195 : FL RX12 195 12 78 (tyX12 78) true := ⟨RX12, TX12, 84, rfl, by decide, tw_6 (j := 156) rfl rfl, rfl, rfl, by decide +kernel, inw_X12, ⟨tyX12, tyX12_ok⟩, nmX12⟩
theorem fl_X12_198 : FL RX12 198 12 79 (tyX12 79) true := ⟨RX12, TX12, 84, rfl, by decide, tw_6 (j := 157) rfl rfl, rfl, rfl, by decide +kernel, inw_X12, ⟨tyX12, tyX12_ok⟩, nmX12⟩
theorem fl_X12_201 : FL RX12 201 12 80 (tyX12 80) true := ⟨RX12, TX12, 84, rfl, by decide, tw_6 (j := 158) rfl rfl, rfl, rfl, by decide +kernel, inw_X12, ⟨tyX12, tyX12_ok⟩, nmX12⟩
theorem fl_X12_204 : FL RX12 204 12 81 (tyX12 81) true := ⟨RX12, TX12, 84, rfl, by decide, tw_6 (j := 159) rfl rfl, rfl, rfl, by decide +kernel, inw_X12, ⟨tyX12, tyX12_ok⟩, nmX12⟩
theorem fl_X12_207 : FL RX12 207 12 82 (tyX12 82) true := ⟨RX12, TX12, 84, rfl, by decide, tw_6 (j := 160) rfl rfl, rfl, rfl, by decide +kernel, inw_X12, ⟨tyX12, tyX12_ok⟩, nmX12⟩
theorem fl_X12_22 : FL RX12 22 12 6 (tyX12 6) true := ⟨RX12, TX12, 84, rfl, by decide, tw_6 (j := 84) rfl rfl, rfl, rfl, by decide +kernel, inw_X12, ⟨tyX12, tyX12_ok⟩, nmX12⟩
theorem fl_X12_232 : FL RX12 232 12 0 .int false := ⟨RX12, TX12, 84, rfl, by decide, tw_6 (j := 78) rfl rfl, rfl, rfl, by decide +kernel, inw_X12, ⟨tyX12, tyX12_ok⟩, nmX12⟩
theorem fl_X12_239 : FL RX12 239 12 5 .int false := ⟨RX12, TX12, 84, rfl, by decide, tw_6 (j := 83) rfl rfl, rfl, rfl, by decide +kernel, inw_X12, ⟨tyX12, tyX12_ok⟩, nmX12⟩
theorem fl_X12_242 : FL RX12 242 12 7 .int false := ⟨RX12, TX12, 84, rfl, by decide, tw_6 (j := 85) rfl rfl, rfl, rfl, by decide +kernel, inw_X12, ⟨tyX12, tyX12_ok⟩, nmX12⟩
theorem fl_X12_245 : FL RX12 245 12 11 .int false := ⟨RX12, TX12, 84, rfl, by decide, tw_6 (j := 89) rfl rfl, rfl, rfl, by decide +kernel, inw_X12, ⟨tyX12, tyX12_ok⟩, nmX12⟩
theorem fl_X12_25 : FL RX12 25 12 8 (tyX12 8) true := ⟨RX12, TX12, 84, rfl, by decide, tw_6 (j := 86) rfl rfl, rfl, rfl, by decide +kernel, inw_X12, ⟨tyX12, tyX12_ok⟩, nmX12⟩
theorem fl_X12_254 : FL RX12 254 12 16 .int false := ⟨RX12, TX12, 84, rfl, by decide, tw_6 (j := 94) rfl rfl, rfl, rfl, by decide +kernel, inw_X12, ⟨tyX12, tyX12_ok⟩, nmX12⟩
theorem fl_X12_270 : FL RX12 270 12 31 .int false := ⟨RX12, TX12, 84, rfl, by decide, tw_6 (j := 109) rfl rfl, rfl, rfl, by decide +kernel, inw_X12, ⟨tyX12, tyX12_ok⟩, nmX12⟩
theorem fl_X12_273 : FL RX12 273 12 32 .int false := ⟨RX12, TX12, 84, rfl, by decide, tw_6 (j := 110) rfl rfl, rfl, rfl, by decide +kernel, inw_X12, ⟨tyX12, tyX12_ok⟩, nmX12⟩
theorem fl_X12_276 : FL RX12 276 12 33 .int false := ⟨RX12, TX12, 84, rfl, by decide, tw_6 (j := 111) rfl rfl, rfl, rfl, by decide +kernel, inw_X12, ⟨tyX12, tyX12_ok⟩, nmX12⟩
theorem fl_X12_28 : FL RX12 28 12 9 (tyX12 9) true := ⟨RX12, TX12, 84, rfl, by decide, tw_6 (j := 87) rfl rfl, rfl, rfl, by decide +kernel, inw_X12, ⟨tyX12, tyX12_ok⟩, nmX12⟩
theorem fl_X12_31 : FL RX12 31 12 10 (tyX12 10) true := ⟨RX12, TX12, 84, rfl, by decide, tw_6 (j := 88) rfl rfl, rfl, rfl, by decide +kernel, inw_X12, ⟨tyX12, tyX12_ok⟩, nmX12⟩
theorem fl_X12_340 : FL RX12 340 12 34 .int false := ⟨RX12, TX12, 84, rfl, by decide, tw_6 (j := 112) rfl rfl, rfl, rfl, by decide +kernel, inw_X12, ⟨tyX12, tyX12_ok⟩, nmX12⟩
theorem fl_X12_343 : FL RX12 343 12 42 .int false := ⟨RX12, TX12, 84, rfl, by decide, tw_6 (j := 120) rfl rfl, rfl, rfl, by decide +kernel, inw_X12, ⟨tyX12, tyX12_ok⟩, nmX12⟩
theorem fl_X12_35 : FL RX12 35 12 12 (tyX12 12) true := ⟨RX12, TX12, 84, rfl, by decide, tw_6 (j := 90) rfl rfl, rfl, rfl, by decide +kernel, inw_X12, ⟨tyX12, tyX12_ok⟩, nmX12⟩
theorem fl_X12_38 : FL RX12 38 12 13 (tyX12 13) true := ⟨RX12, TX12, 84, rfl, by decide, tw_6 (j := 91) rfl rfl, rfl, rfl, by decide +kernel, inw_X12, ⟨tyX12, tyX12_ok⟩, nmX12⟩
theorem fl_X12_396 : FL RX12 396 12 50 .int false := ⟨RX12, TX12, 84, rfl, by decide, tw_6 (j := 128) rfl rfl, rfl, rfl, by decide +kernel, inw_X12, ⟨tyX12, tyX12_ok⟩, nmX12⟩
theorem fl_X12_399 : FL RX12 399 12 52 .int false := ⟨RX12, TX12, 84, rfl, by decide, tw_6 (j := 130) rfl rfl, rfl, rfl, by decide +kernel, inw_X12, ⟨tyX12, tyX12_ok⟩, nmX12⟩
theorem fl_X12_41 : FL RX12 41 12 14 (tyX12 14) true := ⟨RX12, TX12, 84, rfl, by decide, tw_6 (j := 92) rfl rfl, rfl, rfl, by decide +kernel, inw_X12, ⟨tyX12, tyX12_ok⟩, nmX12⟩
theorem fl_X12_420 : FL RX12 420 12 59 .int false := ⟨RX12, TX12, 84, rfl, by decide, tw_6 (j := 137) rfl rfl, rfl, rfl, by decide +kernel, inw_X12, ⟨tyX12, tyX12_ok⟩, nmX12⟩
theorem fl_X12_437 : FL RX12 437 12 68 .int false := ⟨RX12, TX12, 84, rfl, by decide, tw_6 (j := 146) rfl rfl, rfl, rfl, by decide +kernel, inw_X12, ⟨tyX12, tyX12_ok⟩, nmX12⟩
theorem fl_X12_44 : FL RX12 44 12 15 (tyX12 15) true := ⟨RX12, TX12, 84, rfl, by decide, tw_6 (j := 93) rfl rfl, rfl, rfl, by decide +kernel, inw_X12, ⟨tyX12, tyX12_ok⟩, nmX12⟩
theorem fl_X12_443 : FL RX12 443 12 74 .int false := ⟨RX12, TX12, 84, rfl, by decide, tw_6 (j := 152) rfl rfl, rfl, rfl, by decide +kernel, inw_X12, ⟨tyX12, tyX12_ok⟩, nmX12⟩
theorem fl_X12_446 : FL RX12 446 12 76 .int false := ⟨RX12, TX12, 84, rfl, by decide, tw_6 (j := 154) rfl rfl, rfl, rfl, by decide +kernel, inw_X12, ⟨tyX12, tyX12_ok⟩, nmX12⟩
theorem fl_X12_455 : FL RX12 455 12 77 .int false := ⟨RX12, TX12, 84, rfl, by decide, tw_6 (j := 155) rfl rfl, rfl, rfl, by decide +kernel, inw_X12, ⟨tyX12, tyX12_ok⟩, nmX12⟩
theorem fl_X12_467 : FL RX12 467 12 83 .int false := ⟨RX12, TX12, 84, rfl, by decide, tw_6 (j := 161) rfl rfl, rfl, rfl, by decide +kernel, inw_X12, ⟨tyX12, tyX12_ok⟩, nmX12⟩
theorem fl_X12_47 : FL RX12 47 12 17 (tyX12 17) true := ⟨RX12, TX12, 84, rfl, by decide, tw_6 (j := 95) rfl rfl, rfl, rfl, by decide +kernel, inw_X12, ⟨tyX12, tyX12_ok⟩, nmX12⟩
theorem fl_X12_50 : FL RX12 50 12 18 (tyX12 18) true := ⟨RX12, TX12, 84, rfl, by decide, tw_6 (j := 96) rfl rfl, rfl, rfl, by decide +kernel, inw_X12, ⟨tyX12, tyX12_ok⟩, nmX12⟩
theorem fl_X12_53 : FL RX12 53 12 19 (tyX12 19) true := ⟨RX12, TX12, 84, rfl, by decide, tw_6 (j := 97) rfl rfl, rfl, rfl, by decide +kernel, inw_X12, ⟨tyX12, tyX12_ok⟩, nmX12⟩
theorem fl_X12_56 : FL RX12 56 12 20 (tyX12 20) true := ⟨RX12, TX12, 84, rfl, by decide, tw_6 (j := 98) rfl rfl, rfl, rfl, by decide +kernel, inw_X12, ⟨tyX12, tyX12_ok⟩, nmX12⟩
theorem fl_X12_59 : FL RX12 59 12 21 (tyX12 21) true := ⟨RX12, TX12, 84, rfl, by decide, tw_6 (j := 99) rfl rfl, rfl, rfl, by decide +kernel, inw_X12, ⟨tyX12, tyX12_ok⟩, nmX12⟩
theorem fl_X12_62 : FL RX12 62 12 22 (tyX12 22) true := ⟨RX12, TX12, 84, rfl, by decide, tw_6 (j := 100) rfl rfl, rfl, rfl, by decide +kernel, inw_X12, ⟨tyX12, tyX12_ok⟩, nmX12⟩
theorem fl_X12_65 : FL RX12 65 12 23 (tyX12 23) true := ⟨RX12, TX12, 84, rfl, by decide, tw_6 (j := 101) rfl rfl, rfl, rfl, by decide +kernel, inw_X12, ⟨tyX12, tyX12_ok⟩, nmX12⟩
theorem fl_X12_68 : FL RX12 68 12 24 (tyX12 24) true := ⟨RX12, TX12, 84, rfl, by decide, tw_6 (j := 102) rfl rfl, rfl, rfl, by decide +kernel, inw_X12, ⟨tyX12, tyX12_ok⟩, nmX12⟩
theorem fl_X12_7 : FL RX12 7 12 1 (tyX12 1) true := ⟨RX12, TX12, 84, rfl, by decide, tw_6 (j := 79) rfl rfl, rfl, rfl, by decide +kernel, inw_X12, ⟨tyX12, tyX12_ok⟩, nmX12⟩
theorem fl_X12_71 : FL RX12 71 12 25 (tyX12 25) true := ⟨RX12, TX12, 84, rfl, by decide, tw_6 (j := 103) rfl rfl, rfl, rfl, by decide +kernel, inw_X12, ⟨tyX12, tyX12_ok⟩, nmX12⟩
theorem fl_X12_74 : FL RX12 74 12 26 (tyX12 26) true := ⟨RX12, TX12, 84, rfl, by decide, tw_6 (j := 104) rfl rfl, rfl, rfl, by decide +kernel, inw_X12, ⟨tyX12, tyX12_ok⟩, nmX12⟩
theorem fl_X12_77 : FL RX12 77 12 27 (tyX12 27) true := ⟨RX12, TX12, 84, rfl, by decide, tw_6 (j := 105) rfl rfl, rfl, rfl, by decide +kernel, inw_X12, ⟨tyX12, tyX12_ok⟩, nmX12⟩
theorem fl_X12_80 : FL RX12 80 12 28 (tyX12 28) true := ⟨RX12, TX12, 84, rfl, by decide, tw_6 (j := 106) rfl rfl, rfl, rfl, by decide +kernel, inw_X12, ⟨tyX12, tyX12_ok⟩, nmX12⟩
theorem fl_X12_83 : FL RX12 83 12 29 (tyX12 29) true := ⟨RX12, TX12, 84, rfl, by decide, tw_6 (j := 107) rfl rfl, rfl, rfl, by decide +kernel, inw_X12, ⟨tyX12, tyX12_ok⟩, nmX12⟩
theorem fl_X12_86 : FL RX12 86 12 30 .int false := ⟨RX12, TX12, 84, rfl, by decide, tw_6 (j := 108) rfl rfl, rfl, rfl, by decide +kernel, inw_X12, ⟨tyX12, tyX12_ok⟩, nmX12⟩
theorem fl_X12_90 : FL RX12 90 12 35 (tyX12 35) true := ⟨RX12, TX12, 84, rfl, by decide, tw_6 (j := 113) rfl rfl, rfl, rfl, by decide +kernel, inw_X12, ⟨tyX12, tyX12_ok⟩, nmX12⟩
theorem fl_X12_93 : FL RX12 93 12 36 (tyX12 36) true := ⟨RX12, TX12, 84, rfl, by decide, tw_6 (j := 114) rfl rfl, rfl, rfl, by decide +kernel, inw_X12, ⟨tyX12, tyX12_ok⟩, nmX12⟩
theorem fl_X12_96 : FL RX12 96 12 37 (tyX12 37) true := ⟨RX12, TX12, 84, rfl, by decide, tw_6 (j := 115) rfl rfl, rfl, rfl, by decide +kernel, inw_X12, ⟨tyX12, tyX12_ok⟩, nmX12⟩
theorem fl_X12_99 : FL RX12 99 12 38 (tyX12 38) true := ⟨RX12, TX12, 84, rfl, by decide, tw_6 (j := 116) rfl rfl, rfl, rfl, by decide +kernel, inw_X12, ⟨tyX12, tyX12_ok⟩, nmX12⟩
theorem fl_X1_11 : FL RX1 11 1 4 (tyX1 4) true := ⟨RX1, TX1, 17, rfl, by decide, tw_3 (j := 61) rfl rfl, rfl, rfl, by decide +kernel, inw_X1, ⟨tyX1, tyX1_ok⟩, nmX1⟩
theorem fl_X1_110 : FL RX1 110 1 13 .int false := ⟨RX1, TX1, 17, rfl, by decide, tw_3 (j := 86) rfl rfl, rfl, rfl, by decide +kernel, inw_X1, ⟨tyX1, tyX1_ok⟩, nmX1⟩
theorem fl_X1_15 : FL RX1 15 1 5 (tyX1 5) true := ⟨RX1, TX1, 17, rfl, by decide, tw_3 (j := 62) rfl rfl, rfl, rfl, by decide +kernel, inw_X1, ⟨tyX1, tyX1_ok⟩, nmX1⟩
theorem fl_X1_18 : FL RX1 18 1 6 (tyX1 6) true := ⟨RX1, TX1, 17, rfl, by decide, tw_3 (j := 63) rfl rfl, rfl, rfl, by decide +kernel, inw_X1, ⟨tyX1, tyX1_ok⟩, nmX1⟩
theorem fl_X1_23 : FL RX1 23 1 8 (tyX1 8) true := ⟨RX1, TX1, 17, rfl, by decide, tw_3 (j := 67) rfl rfl, rfl, rfl, by decide +kernel, inw_X1, ⟨tyX1, tyX1_ok⟩, nmX1⟩
theorem fl_X1_27 : FL RX1 27 1 14 (tyX1 14) true := ⟨RX1, TX1, 17, rfl, by decide, tw_3 (j := 87) rfl rfl, rfl, rfl, by decide +kernel, inw_X1, ⟨tyX1, tyX1_ok⟩, nmX1⟩
theorem fl_X1_30 : FL RX1 30 1 15 (tyX1 15) true := ⟨RX1, TX1, 17, rfl, by decide, tw_3 (j := 90) rfl rfl, rfl, rfl, by decide +kernel, inw_X1, ⟨tyX1, tyX1_ok⟩, nmX1⟩
theorem fl_X1_33 : FL RX1 33 1 16 (tyX1 16) true := ⟨RX1, TX1, 17, rfl, by decide, tw_3 (j := 92) rfl rfl, rfl, rfl, by decide +kernel, inw_X1, ⟨tyX1, tyX1_ok⟩, nmX1⟩
theorem fl_X1_36 : FL RX1 36 1 0 .int true := ⟨RX1, TX1, 17, rfl, by decide, tw_3 (j := 56) rfl rfl, rfl, rfl, by decide +kernel, inw_X1, ⟨tyX1, tyX1_ok⟩, nmX1⟩
theorem fl_X1_40 : FL RX1 40 1 1 .int true := ⟨RX1, TX1, 17, rfl, by decide, tw_3 (j := 57) rfl rfl, rfl, rfl, by decide +kernel, inw_X1, ⟨tyX1, tyX1_ok⟩, nmX1⟩
theorem fl_X1_43 : FL RX1 43 1 2 .int true := ⟨RX1, TX1, 17, rfl, by decide, tw_3 (j := 58) rfl rfl, rfl, rfl, by decide +kernel, inw_X1, ⟨tyX1, tyX1_ok⟩, nmX1⟩
theorem fl_X1_46 : FL RX1 46 1 3 .int true := ⟨RX1, TX1, 17, rfl, by decide, tw_3 (j := 60) rfl rfl, rfl, rfl, by decide +kernel, inw_X1, ⟨tyX1, tyX1_ok⟩, nmX1⟩
theorem fl_X1_60 : FL RX1 60 1 7 .int false := ⟨RX1, TX1, 17, rfl, by decide, tw_3 (j := 64) rfl rfl, rfl, rfl, by decide +kernel, inw_X1, ⟨tyX1, tyX1_ok⟩, nmX1⟩
theorem fl_X1_80 : FL RX1 80 1 9 .int false := ⟨RX1, TX1, 17, rfl, by decide, tw_3 (j := 71) rfl rfl, rfl, rfl, by decide +kernel, inw_X1, ⟨tyX1, tyX1_ok⟩, nmX1⟩
theorem fl_X1_83 : FL RX1 83 1 10 .int false := ⟨RX1, TX1, 17, rfl, by decide, tw_3 (j := 75) rfl rfl, rfl, rfl, by decide +kernel, inw_X1, ⟨tyX1, tyX1_ok⟩, nmX1⟩
theorem fl_X1_86 : FL RX1 86 1 11 .int false := ⟨RX1, TX1, 17, rfl, by decide, tw_3 (j := 79) rfl rfl, rfl, rfl, by decide +kernel, inw_X1, ⟨tyX1, tyX1_ok⟩, nmX1⟩
theorem fl_X1_89 : FL RX1 89 1 12 .boolean false := ⟨RX1, TX1, 17, rfl, by decide, tw_3 (j := 83) rfl rfl, rfl, rfl, by decide +kernel, inw_X1, ⟨tyX1, tyX1_ok⟩, nmX1⟩
theorem fl_X2_11 : FL RX2 11 2 0 (tyX2 0) true := ⟨RX2, TX2, 11, rfl, by decide, tw_2 (j := 16) rfl rfl, rfl, rfl, by decide +kernel, inw_X2, ⟨tyX2, tyX2_ok⟩, nmX2⟩
theorem fl_X2_15 : FL RX2 15 2 1 (tyX2 1) true := ⟨RX2, TX2, 11, rfl, by decide, tw_2 (j := 17) rfl rfl, rfl, rfl, by decide +kernel, inw_X2, ⟨tyX2, tyX2_ok⟩, nmX2⟩
theorem fl_X2_19 : FL RX2 19 2 2 (tyX2 2) true := ⟨RX2, TX2, 11, rfl, by decide, tw_2 (j := 18) rfl rfl, rfl, rfl, by decide +kernel, inw_X2, ⟨tyX2, tyX2_ok⟩, nmX2⟩
theorem fl_X2_22 : FL RX2 22 2 3 (tyX2 3) true := ⟨RX2, TX2, 11, rfl, by decide, tw_2 (j := 19) rfl rfl, rfl, rfl, by decide +kernel, inw_X2, ⟨tyX2, tyX2_ok⟩, nmX2⟩
theorem fl_X2_25 : FL RX2 25 2 4 (tyX2 4) true := ⟨RX2, TX2, 11, rfl, by decide, tw_2 (j := 20) rfl rfl, rfl, rfl, by decide +kernel, inw_X2, ⟨tyX2, tyX2_ok⟩, nmX2⟩
theorem fl_X2_28 : FL RX2 28 2 5 (tyX2 5) true := ⟨RX2, TX2, 11, rfl, by decide, tw_2 (j := 21) rfl rfl, rfl, rfl, by decide +kernel, inw_X2, ⟨tyX2, tyX2_ok⟩, nmX2⟩
theorem fl_X2_31 : FL RX2 31 2 6 (tyX2 6) true := ⟨RX2, TX2, 11, rfl, by decide, tw_2 (j := 22) rfl rfl, rfl, rfl, by decide +kernel, inw_X2, ⟨tyX2, tyX2_ok⟩, nmX2⟩
theorem fl_X2_34 : FL RX2 34 2 8 (tyX2 8) true := ⟨RX2, TX2, 11, rfl, by decide, tw_2 (j := 25) rfl rfl, rfl, rfl, by decide +kernel, inw_X2, ⟨tyX2, tyX2_ok⟩, nmX2⟩
theorem fl_X2_37 : FL RX2 37 2 9 (tyX2 9) true := ⟨RX2, TX2, 11, rfl, by decide, tw_2 (j := 26) rfl rfl, rfl, rfl, by decide +kernel, inw_X2, ⟨tyX2, tyX2_ok⟩, nmX2⟩
theorem fl_X2_40 : FL RX2 40 2 10 (tyX2 10) true := ⟨RX2, TX2, 11, rfl, by decide, tw_2 (j := 27) rfl rfl, rfl, rfl, by decide +kernel, inw_X2, ⟨tyX2, tyX2_ok⟩, nmX2⟩
theorem fl_X2_53 : FL RX2 53 2 7 .int false := ⟨RX2, TX2, 11, rfl, by decide, tw_2 (j := 23) rfl rfl, rfl, rfl, by decide +kernel, inw_X2, ⟨tyX2, tyX2_ok⟩, nmX2⟩
theorem fl_X3_125 : FL RX3 125 1 7 .int false := ⟨RX1, TX1, 17, rfl, by decide, tw_3 (j := 65) rfl rfl, rfl, rfl, by decide +kernel, inw_X1, ⟨tyX1, tyX1_ok⟩, nmX1⟩
theorem fl_X3_13 : FL RX3 13 3 1 (tyX3 1) true := ⟨RX3, TX3, 11, rfl, by decide, tw_1 (j := 128) rfl rfl, rfl, rfl, by decide +kernel, inw_X3, ⟨tyX3, tyX3_ok⟩, nmX3⟩
theorem fl_X3_132 : FL RX3 132 1 8 (tyX1 8) true := ⟨RX1, TX1, 17, rfl, by decide, tw_3 (j := 68) rfl rfl, rfl, rfl, by decide +kernel, inw_X1, ⟨tyX1, tyX1_ok⟩, nmX1⟩
theorem fl_X3_17 : FL RX3 17 3 3 .int false := ⟨RX3, TX3, 11, rfl, by decide, tw_1 (j := 131) rfl rfl, rfl, rfl, by decide +kernel, inw_X3, ⟨tyX3, tyX3_ok⟩, nmX3⟩
theorem fl_X3_172 : FL RX3 172 1 14 (tyX1 14) true := ⟨RX1, TX1, 17, rfl, by decide, tw_3 (j := 88) rfl rfl, rfl, rfl, by decide +kernel, inw_X1, ⟨tyX1, tyX1_ok⟩, nmX1⟩
theorem fl_X3_185 : FL RX3 185 1 2 .int true := ⟨RX1, TX1, 17, rfl, by decide, tw_3 (j := 59) rfl rfl, rfl, rfl, by decide +kernel, inw_X1, ⟨tyX1, tyX1_ok⟩, nmX1⟩
theorem fl_X3_21 : FL RX3 21 3 4 .int false := ⟨RX3, TX3, 11, rfl, by decide, tw_1 (j := 134) rfl rfl, rfl, rfl, by decide +kernel, inw_X3, ⟨tyX3, tyX3_ok⟩, nmX3⟩
theorem fl_X3_24 : FL RX3 24 3 5 .int false := ⟨RX3, TX3, 11, rfl, by decide, tw_1 (j := 135) rfl rfl, rfl, rfl, by decide +kernel, inw_X3, ⟨tyX3, tyX3_ok⟩, nmX3⟩
theorem fl_X3_27 : FL RX3 27 3 6 .int false := ⟨RX3, TX3, 11, rfl, by decide, tw_1 (j := 136) rfl rfl, rfl, rfl, by decide +kernel, inw_X3, ⟨tyX3, tyX3_ok⟩, nmX3⟩
theorem fl_X3_33 : FL RX3 33 3 7 (tyX3 7) true := ⟨RX3, TX3, 11, rfl, by decide, tw_1 (j := 137) rfl rfl, rfl, rfl, by decide +kernel, inw_X3, ⟨tyX3, tyX3_ok⟩, nmX3⟩
theorem fl_X3_37 : FL RX3 37 3 0 (tyX3 0) true := ⟨RX3, TX3, 11, rfl, by decide, tw_1 (j := 127) rfl rfl, rfl, rfl, by decide +kernel, inw_X3, ⟨tyX3, tyX3_ok⟩, nmX3⟩
theorem fl_X3_41 : FL RX3 41 3 2 .int false := ⟨RX3, TX3, 11, rfl, by decide, tw_1 (j := 129) rfl rfl, rfl, rfl, by decide +kernel, inw_X3, ⟨tyX3, tyX3_ok⟩, nmX3⟩
theorem fl_X3_51 : FL RX3 51 1 12 .boolean false := ⟨RX1, TX1, 17, rfl, by decide, tw_3 (j := 82) rfl rfl, rfl, rfl, by decide +kernel, inw_X1, ⟨tyX1, tyX1_ok⟩, nmX1⟩
theorem fl_X3_55 : FL RX3 55 1 9 .int false := ⟨RX1, TX1, 17, rfl, by decide, tw_3 (j := 72) rfl rfl, rfl, rfl, by decide +kernel, inw_X1, ⟨tyX1, tyX1_ok⟩, nmX1⟩
theorem fl_X3_58 : FL RX3 58 1 10 .int false := ⟨RX1, TX1, 17, rfl, by decide, tw_3 (j := 76) rfl rfl, rfl, rfl, by decide +kernel, inw_X1, ⟨tyX1, tyX1_ok⟩, nmX1⟩
theorem fl_X3_61 : FL RX3 61 1 11 .int false := ⟨RX1, TX1, 17, rfl, by decide, tw_3 (j := 80) rfl rfl, rfl, rfl, by decide +kernel, inw_X1, ⟨tyX1, tyX1_ok⟩, nmX1⟩
theorem fl_X3_68 : FL RX3 68 3 8 .int false := ⟨RX3, TX3, 11, rfl, by decide, tw_1 (j := 139) rfl rfl, rfl, rfl, by decide +kernel, inw_X3, ⟨tyX3, tyX3_ok⟩, nmX3⟩
theorem fl_X3_71 : FL RX3 71 3 9 .int false := ⟨RX3, TX3, 11, rfl, by decide, tw_1 (j := 142) rfl rfl, rfl, rfl, by decide +kernel, inw_X3, ⟨tyX3, tyX3_ok⟩, nmX3⟩
theorem fl_X3_74 : FL RX3 74 3 10 .int false := ⟨RX3, TX3, 11, rfl, by decide, tw_1 (j := 145) rfl rfl, rfl, rfl, by decide +kernel, inw_X3, ⟨tyX3, tyX3_ok⟩, nmX3⟩
theorem fl_X3_85 : FL RX3 85 1 13 .int false := ⟨RX1, TX1, 17, rfl, by decide, tw_3 (j := 85) rfl rfl, rfl, rfl, by decide +kernel, inw_X1, ⟨tyX1, tyX1_ok⟩, nmX1⟩
theorem fl_X4_11 : FL RX4 11 4 2 (tyX4 2) true := ⟨RX4, TX4, 4, rfl, by decide, tw_2 (j := 88) rfl rfl, rfl, rfl, by decide +kernel, inw_X4, ⟨tyX4, tyX4_ok⟩, nmX4⟩
theorem fl_X4_15 : FL RX4 15 4 0 (tyX4 0) true := ⟨RX4, TX4, 4, rfl, by decide, tw_2 (j := 86) rfl rfl, rfl, rfl, by decide +kernel, inw_X4, ⟨tyX4, tyX4_ok⟩, nmX4⟩
theorem fl_X4_19 : FL RX4 19 4 1 (tyX4 1) true := ⟨RX4, TX4, 4, rfl, by decide, tw_2 (j := 87) rfl rfl, rfl, rfl, by decide +kernel, inw_X4, ⟨tyX4, tyX4_ok⟩, nmX4⟩
theorem fl_X4_27 : FL RX4 27 4 3 .int false := ⟨RX4, TX4, 4, rfl, by decide, tw_2 (j := 89) rfl rfl, rfl, rfl, by decide +kernel, inw_X4, ⟨tyX4, tyX4_ok⟩, nmX4⟩
theorem fl_X4_74 : FL RX4 74 3 3 .int false := ⟨RX3, TX3, 11, rfl, by decide, tw_1 (j := 132) rfl rfl, rfl, rfl, by decide +kernel, inw_X3, ⟨tyX3, tyX3_ok⟩, nmX3⟩
theorem fl_X5_15 : FL RX5 15 5 1 .int false := ⟨RX5, TX5, 8, rfl, by decide, tw_1 (j := 103) rfl rfl, rfl, rfl, by decide +kernel, inw_X5, ⟨tyX5, tyX5_ok⟩, nmX5⟩
theorem fl_X5_18 : FL RX5 18 5 2 .int false := ⟨RX5, TX5, 8, rfl, by decide, tw_1 (j := 104) rfl rfl, rfl, rfl, by decide +kernel, inw_X5, ⟨tyX5, tyX5_ok⟩, nmX5⟩
theorem fl_X5_21 : FL RX5 21 5 3 .int false := ⟨RX5, TX5, 8, rfl, by decide, tw_1 (j := 105) rfl rfl, rfl, rfl, by decide +kernel, inw_X5, ⟨tyX5, tyX5_ok⟩, nmX5⟩
theorem fl_X5_24 : FL RX5 24 5 4 .int false := ⟨RX5, TX5, 8, rfl, by decide, tw_1 (j := 106) rfl rfl, rfl, rfl, by decide +kernel, inw_X5, ⟨tyX5, tyX5_ok⟩, nmX5⟩
theorem fl_X5_27 : FL RX5 27 5 5 .int false := ⟨RX5, TX5, 8, rfl, by decide, tw_1 (j := 107) rfl rfl, rfl, rfl, by decide +kernel, inw_X5, ⟨tyX5, tyX5_ok⟩, nmX5⟩
theorem fl_X5_36 : FL RX5 36 5 6 .int false := ⟨RX5, TX5, 8, rfl, by decide, tw_1 (j := 108) rfl rfl, rfl, rfl, by decide +kernel, inw_X5, ⟨tyX5, tyX5_ok⟩, nmX5⟩
theorem fl_X5_39 : FL RX5 39 5 7 .int false := ⟨RX5, TX5, 8, rfl, by decide, tw_1 (j := 109) rfl rfl, rfl, rfl, by decide +kernel, inw_X5, ⟨tyX5, tyX5_ok⟩, nmX5⟩
theorem fl_X5_42 : FL RX5 42 0 2 .int true := ⟨RX0, TX0, 4, rfl, by decide, tw_2 (j := 187) rfl rfl, rfl, rfl, by decide +kernel, inw_X0, ⟨tyX0, tyX0_ok⟩, nmX0⟩
theorem fl_X5_47 : FL RX5 47 0 0 .int true := ⟨RX0, TX0, 4, rfl, by decide, tw_2 (j := 183) rfl rfl, rfl, rfl, by decide +kernel, inw_X0, ⟨tyX0, tyX0_ok⟩, nmX0⟩
theorem fl_X5_50 : FL RX5 50 0 3 .int true := ⟨RX0, TX0, 4, rfl, by decide, tw_2 (j := 189) rfl rfl, rfl, rfl, by decide +kernel, inw_X0, ⟨tyX0, tyX0_ok⟩, nmX0⟩
theorem fl_X5_53 : FL RX5 53 0 1 .int true := ⟨RX0, TX0, 4, rfl, by decide, tw_2 (j := 185) rfl rfl, rfl, rfl, by decide +kernel, inw_X0, ⟨tyX0, tyX0_ok⟩, nmX0⟩
theorem fl_X5_9 : FL RX5 9 5 0 .int false := ⟨RX5, TX5, 8, rfl, by decide, tw_1 (j := 102) rfl rfl, rfl, rfl, by decide +kernel, inw_X5, ⟨tyX5, tyX5_ok⟩, nmX5⟩
theorem fl_X6_13 : FL RX6 13 6 0 (tyX6 0) true := ⟨RX6, TX6, 4, rfl, by decide, tw_2 (j := 108) rfl rfl, rfl, rfl, by decide +kernel, inw_X6, ⟨tyX6, tyX6_ok⟩, nmX6⟩
theorem fl_X6_16 : FL RX6 16 6 1 (tyX6 1) true := ⟨RX6, TX6, 4, rfl, by decide, tw_2 (j := 109) rfl rfl, rfl, rfl, by decide +kernel, inw_X6, ⟨tyX6, tyX6_ok⟩, nmX6⟩
theorem fl_X6_20 : FL RX6 20 6 2 (tyX6 2) true := ⟨RX6, TX6, 4, rfl, by decide, tw_2 (j := 110) rfl rfl, rfl, rfl, by decide +kernel, inw_X6, ⟨tyX6, tyX6_ok⟩, nmX6⟩
theorem fl_X6_33 : FL RX6 33 6 3 .int false := ⟨RX6, TX6, 4, rfl, by decide, tw_2 (j := 111) rfl rfl, rfl, rfl, by decide +kernel, inw_X6, ⟨tyX6, tyX6_ok⟩, nmX6⟩
theorem fl_X7_11 : FL RX7 11 7 0 (tyX7 0) true := ⟨RX7, TX7, 8, rfl, by decide, tw_1 (j := 220) rfl rfl, rfl, rfl, by decide +kernel, inw_X7, ⟨tyX7, tyX7_ok⟩, nmX7⟩
theorem fl_X7_15 : FL RX7 15 7 2 (tyX7 2) true := ⟨RX7, TX7, 8, rfl, by decide, tw_1 (j := 223) rfl rfl, rfl, rfl, by decide +kernel, inw_X7, ⟨tyX7, tyX7_ok⟩, nmX7⟩
theorem fl_X7_18 : FL RX7 18 7 4 .int false := ⟨RX7, TX7, 8, rfl, by decide, tw_1 (j := 226) rfl rfl, rfl, rfl, by decide +kernel, inw_X7, ⟨tyX7, tyX7_ok⟩, nmX7⟩
theorem fl_X7_24 : FL RX7 24 7 5 (tyX7 5) true := ⟨RX7, TX7, 8, rfl, by decide, tw_1 (j := 227) rfl rfl, rfl, rfl, by decide +kernel, inw_X7, ⟨tyX7, tyX7_ok⟩, nmX7⟩
theorem fl_X7_27 : FL RX7 27 7 6 (tyX7 6) true := ⟨RX7, TX7, 8, rfl, by decide, tw_1 (j := 228) rfl rfl, rfl, rfl, by decide +kernel, inw_X7, ⟨tyX7, tyX7_ok⟩, nmX7⟩
theorem fl_X7_34 : FL RX7 34 7 1 .int false := ⟨RX7, TX7, 8, rfl, by decide, tw_1 (j := 221) rfl rfl, rfl, rfl, by decide +kernel, inw_X7, ⟨tyX7, tyX7_ok⟩, nmX7⟩
theorem fl_X7_37 : FL RX7 37 7 7 .boolean false := ⟨RX7, TX7, 8, rfl, by decide, tw_1 (j := 229) rfl rfl, rfl, rfl, by decide +kernel, inw_X7, ⟨tyX7, tyX7_ok⟩, nmX7⟩
theorem fl_X7_41 : FL RX7 41 7 3 .int false := ⟨RX7, TX7, 8, rfl, by decide, tw_1 (j := 224) rfl rfl, rfl, rfl, by decide +kernel, inw_X7, ⟨tyX7, tyX7_ok⟩, nmX7⟩
theorem fl_X8_13 : FL RX8 13 8 0 (tyX8 0) true := ⟨RX8, TX8, 16, rfl, by decide, tw_1 (j := 34) rfl rfl, rfl, rfl, by decide +kernel, inw_X8, ⟨tyX8, tyX8_ok⟩, nmX8⟩
theorem fl_X8_17 : FL RX8 17 8 1 (tyX8 1) true := ⟨RX8, TX8, 16, rfl, by decide, tw_1 (j := 35) rfl rfl, rfl, rfl, by decide +kernel, inw_X8, ⟨tyX8, tyX8_ok⟩, nmX8⟩
theorem fl_X8_21 : FL RX8 21 8 2 (tyX8 2) true := ⟨RX8, TX8, 16, rfl, by decide, tw_1 (j := 36) rfl rfl, rfl, rfl, by decide +kernel, inw_X8, ⟨tyX8, tyX8_ok⟩, nmX8⟩
theorem fl_X8_24 : FL RX8 24 8 3 (tyX8 3) true := ⟨RX8, TX8, 16, rfl, by decide, tw_1 (j := 37) rfl rfl, rfl, rfl, by decide +kernel, inw_X8, ⟨tyX8, tyX8_ok⟩, nmX8⟩
theorem fl_X8_27 : FL RX8 27 8 5 (tyX8 5) true := ⟨RX8, TX8, 16, rfl, by decide, tw_1 (j := 40) rfl rfl, rfl, rfl, by decide +kernel, inw_X8, ⟨tyX8, tyX8_ok⟩, nmX8⟩
theorem fl_X8_30 : FL RX8 30 8 7 (tyX8 7) true := ⟨RX8, TX8, 16, rfl, by decide, tw_1 (j := 43) rfl rfl, rfl, rfl, by decide +kernel, inw_X8, ⟨tyX8, tyX8_ok⟩, nmX8⟩
theorem fl_X8_33 : FL RX8 33 8 8 (tyX8 8) true := ⟨RX8, TX8, 16, rfl, by decide, tw_1 (j := 44) rfl rfl, rfl, rfl, by decide +kernel, inw_X8, ⟨tyX8, tyX8_ok⟩, nmX8⟩
theorem fl_X8_36 : FL RX8 36 8 9 (tyX8 9) true := ⟨RX8, TX8, 16, rfl, by decide, tw_1 (j := 45) rfl rfl, rfl, rfl, by decide +kernel, inw_X8, ⟨tyX8, tyX8_ok⟩, nmX8⟩
theorem fl_X8_40 : FL RX8 40 8 11 (tyX8 11) true := ⟨RX8, TX8, 16, rfl, by decide, tw_1 (j := 47) rfl rfl, rfl, rfl, by decide +kernel, inw_X8, ⟨tyX8, tyX8_ok⟩, nmX8⟩
theorem fl_X8_43 : FL RX8 43 8 12 (tyX8 12) true := ⟨RX8, TX8, 16, rfl, by decide, tw_1 (j := 48) rfl rfl, rfl, rfl, by decide +kernel, inw_X8, ⟨tyX8, tyX8_ok⟩, nmX8⟩
theorem fl_X8_46 : FL RX8 46 8 13 (tyX8 13) true := ⟨RX8, TX8, 16, rfl, by decide, tw_1 (j := 49) rfl rfl, rfl, rfl, by decide +kernel, inw_X8, ⟨tyX8, tyX8_ok⟩, nmX8⟩
theorem fl_X8_49 : FL RX8 49 8 14 (tyX8 14) true := ⟨RX8, TX8, 16, rfl, by decide, tw_1 (j := 50) rfl rfl, rfl, rfl, by decide +kernel, inw_X8, ⟨tyX8, tyX8_ok⟩, nmX8⟩
theorem fl_X8_60 : FL RX8 60 8 4 .int false := ⟨RX8, TX8, 16, rfl, by decide, tw_1 (j := 38) rfl rfl, rfl, rfl, by decide +kernel, inw_X8, ⟨tyX8, tyX8_ok⟩, nmX8⟩
theorem fl_X8_67 : FL RX8 67 8 6 .int false := ⟨RX8, TX8, 16, rfl, by decide, tw_1 (j := 41) rfl rfl, rfl, rfl, by decide +kernel, inw_X8, ⟨tyX8, tyX8_ok⟩, nmX8⟩
theorem fl_X8_70 : FL RX8 70 8 10 .int false := ⟨RX8, TX8, 16, rfl, by decide, tw_1 (j := 46) rfl rfl, rfl, rfl, by decide +kernel, inw_X8, ⟨tyX8, tyX8_ok⟩, nmX8⟩
theorem fl_X8_73 : FL RX8 73 8 15 .int false := ⟨RX8, TX8, 16, rfl, by decide, tw_1 (j := 51) rfl rfl, rfl, rfl, by decide +kernel, inw_X8, ⟨tyX8, tyX8_ok⟩, nmX8⟩
theorem fl_X8_84 : FL RX8 84 1 7 .int false := ⟨RX1, TX1, 17, rfl, by decide, tw_3 (j := 66) rfl rfl, rfl, rfl, by decide +kernel, inw_X1, ⟨tyX1, tyX1_ok⟩, nmX1⟩
theorem fl_X8_93 : FL RX8 93 1 8 (tyX1 8) true := ⟨RX1, TX1, 17, rfl, by decide, tw_3 (j := 69) rfl rfl, rfl, rfl, by decide +kernel, inw_X1, ⟨tyX1, tyX1_ok⟩, nmX1⟩
theorem fl_X9_11 : FL RX9 11 9 0 (tyX9 0) true := ⟨RX9, TX9, 7, rfl, by decide, tw_2 (j := 57) rfl rfl, rfl, rfl, by decide +kernel, inw_X9, ⟨tyX9, tyX9_ok⟩, nmX9⟩
theorem fl_X9_15 : FL RX9 15 9 1 (tyX9 1) true := ⟨RX9, TX9, 7, rfl, by decide, tw_2 (j := 58) rfl rfl, rfl, rfl, by decide +kernel, inw_X9, ⟨tyX9, tyX9_ok⟩, nmX9⟩
theorem fl_X9_18 : FL RX9 18 9 3 .int false := ⟨RX9, TX9, 7, rfl, by decide, tw_2 (j := 61) rfl rfl, rfl, rfl, by decide +kernel, inw_X9, ⟨tyX9, tyX9_ok⟩, nmX9⟩
theorem fl_X9_22 : FL RX9 22 9 4 (tyX9 4) true := ⟨RX9, TX9, 7, rfl, by decide, tw_2 (j := 62) rfl rfl, rfl, rfl, by decide +kernel, inw_X9, ⟨tyX9, tyX9_ok⟩, nmX9⟩
theorem fl_X9_25 : FL RX9 25 9 5 (tyX9 5) true := ⟨RX9, TX9, 7, rfl, by decide, tw_2 (j := 63) rfl rfl, rfl, rfl, by decide +kernel, inw_X9, ⟨tyX9, tyX9_ok⟩, nmX9⟩
theorem fl_X9_29 : FL RX9 29 9 6 (tyX9 6) true := ⟨RX9, TX9, 7, rfl, by decide, tw_2 (j := 64) rfl rfl, rfl, rfl, by decide +kernel, inw_X9, ⟨tyX9, tyX9_ok⟩, nmX9⟩
theorem fl_X9_36 : FL RX9 36 9 2 .int false := ⟨RX9, TX9, 7, rfl, by decide, tw_2 (j := 59) rfl rfl, rfl, rfl, by decide +kernel, inw_X9, ⟨tyX9, tyX9_ok⟩, nmX9⟩
theorem ib_X0 : Cond.instantiable RX0 4 ∈ TW := tw_2 (j := 177) rfl rfl
theorem ib_X1 : Cond.instantiable RX1 17 ∈ TW := tw_3 (j := 47) rfl rfl
theorem ib_X10 : Cond.instantiable RX10 11 ∈ TW := tw_1 (j := 171) rfl rfl
theorem ib_X2 : Cond.instantiable RX2 11 ∈ TW := tw_2 (j := 8) rfl rfl
theorem ib_X3 : Cond.instantiable RX3 11 ∈ TW := tw_1 (j := 89) rfl rfl
theorem ib_X4 : Cond.instantiable RX4 4 ∈ TW := tw_2 (j := 81) rfl rfl
theorem ib_X5 : Cond.instantiable RX5 8 ∈ TW := tw_1 (j := 97) rfl rfl
theorem ib_X6 : Cond.instantiable RX6 4 ∈ TW := tw_2 (j := 101) rfl rfl
theorem ib_X7 : Cond.instantiable RX7 8 ∈ TW := tw_1 (j := 213) rfl rfl
theorem ib_X8 : Cond.instantiable RX8 16 ∈ TW := tw_1 (j := 27) rfl rfl
theorem ib_X9 : Cond.instantiable RX9 7 ∈ TW := tw_2 (j := 52) rfl rfl
theorem ii_X0_init : Cond.instanceMethod yX0_init ∈ TW := tw_2 (j := 179) rfl rfl
theorem ii_X10_init : Cond.instanceMethod yX10_init ∈ TW := tw_1 (j := 173) rfl rfl
theorem ii_X1_init : Cond.instanceMethod yX1_init ∈ TW := tw_3 (j := 49) rfl rfl
theorem ii_X2_init : Cond.instanceMethod yX2_init ∈ TW := tw_2 (j := 10) rfl rfl
theorem ii_X3_init : Cond.instanceMethod yX3_init ∈ TW := tw_1 (j := 91) rfl rfl
theorem ii_X4_init : Cond.instanceMethod yX4_init ∈ TW := tw_2 (j := 83) rfl rfl
theorem ii_X5_init : Cond.instanceMethod yX5_init ∈ TW := tw_1 (j := 99) rfl rfl
theorem ii_X6_init : Cond.instanceMethod yX6_init ∈ TW := tw_2 (j := 103) rfl rfl
theorem ii_X7_init : Cond.instanceMethod yX7_init ∈ TW := tw_1 (j := 215) rfl rfl
theorem ii_X8_init : Cond.instanceMethod yX8_init ∈ TW := tw_1 (j := 29) rfl rfl
theorem ii_X9_init : Cond.instanceMethod yX9_init ∈ TW := tw_2 (j := 54) rfl rfl
theorem in_System : Cond.initialized "java/lang/System" ∈ TW := tw_1 (j := 17) rfl rfl
theorem ini_X0 : Cond.initialized RX0 ∈ TW := tw_1 (j := 14) rfl rfl
theorem ini_X1 : Cond.initialized RX1 ∈ TW := tw_1 (j := 15) rfl rfl
theorem ini_X10 : Cond.initialized RX10 ∈ TW := tw_1 (j := 5) rfl rfl
theorem ini_X2 : Cond.initialized RX2 ∈ TW := tw_1 (j := 7) rfl rfl
theorem ini_X3 : Cond.initialized RX3 ∈ TW := tw_1 (j := 3) rfl rfl
theorem ini_X4 : Cond.initialized RX4 ∈ TW := tw_1 (j := 10) rfl rfl
theorem ini_X5 : Cond.initialized RX5 ∈ TW := tw_1 (j := 4) rfl rfl
theorem ini_X6 : Cond.initialized RX6 ∈ TW := tw_1 (j := 11) rfl rfl
theorem ini_X7 : Cond.initialized RX7 ∈ TW := tw_1 (j := 6) rfl rfl
theorem ini_X8 : Cond.initialized RX8 ∈ TW := tw_1 (j := 2) rfl rfl
theorem ini_X9 : Cond.initialized RX9 ∈ TW := tw_1 (j := 9) rfl rfl
theorem lk_X0_3 : Cond.methodLink RX0 3 objectInit ∈ TW := tw_2 (j := 181) rfl rfl
theorem lk_X10_106 : Cond.methodLink RX10 106 yX10_isNoted ∈ TW := tw_4 (j := 77) rfl rfl
theorem lk_X10_110 : Cond.methodLink RX10 110 yX3_firstMet ∈ TW := tw_4 (j := 81) rfl rfl
theorem lk_X10_114 : Cond.methodLink RX10 114 yX10_keepSteps ∈ TW := tw_4 (j := 82) rfl rfl
theorem lk_X10_119 : Cond.methodLink RX10 119 yX10_bucketOf ∈ TW := tw_4 (j := 59) rfl rfl
theorem lk_X10_123 : Cond.methodLink RX10 123 yX1_wheelX ∈ TW := tw_4 (j := 67) rfl rfl
theorem lk_X10_126 : Cond.methodLink RX10 126 yX1_wheelY ∈ TW := tw_4 (j := 68) rfl rfl
theorem lk_X10_129 : Cond.methodLink RX10 129 yX0_holds ∈ TW := tw_4 (j := 69) rfl rfl
theorem lk_X10_3 : Cond.methodLink RX10 3 objectInit ∈ TW := tw_1 (j := 175) rfl rfl
theorem lk_X10_54 : Cond.methodLink RX10 54 yJ7_fill_53178 ∈ TW := tw_4 (j := 50) rfl rfl
theorem lk_X10_71 : Cond.methodLink RX10 71 yX10_standingOf ∈ TW := tw_4 (j := 51) rfl rfl
theorem lk_X10_75 : Cond.methodLink RX10 75 yX10_note ∈ TW := tw_4 (j := 55) rfl rfl
theorem lk_X10_79 : Cond.methodLink RX10 79 yX10_isGoal ∈ TW := tw_4 (j := 63) rfl rfl
theorem lk_X10_82 : Cond.methodLink RX10 82 yX10_goOn ∈ TW := tw_4 (j := 70) rfl rfl
theorem lk_X10_91 : Cond.methodLink RX10 91 yX3_aim ∈ TW := tw_4 (j := 76) rfl rfl
theorem lk_X11_1 : Cond.methodLink RX11 1 objectInit ∈ TW := tw_1 (j := 23) rfl rfl
theorem lk_X11_102 : Cond.methodLink RX11 102 yX8_addSlope ∈ TW := tw_2 (j := 235) rfl rfl
theorem lk_X11_106 : Cond.methodLink RX11 106 yX8_wetAll ∈ TW := tw_3 (j := 3) rfl rfl
theorem lk_X11_112 : Cond.methodLink RX11 112 yX8_slopeAt ∈ TW := tw_3 (j := 13) rfl rfl
theorem lk_X11_115 : Cond.methodLink RX11 115 yX8_riseXOf ∈ TW := tw_3 (j := 22) rfl rfl
theorem lk_X11_118 : Cond.methodLink RX11 118 yX8_riseYOf ∈ TW := tw_3 (j := 30) rfl rfl
theorem lk_X11_121 : Cond.methodLink RX11 121 yX8_isWet ∈ TW := tw_3 (j := 34) rfl rfl
theorem lk_X11_125 : Cond.methodLink RX11 125 yX3_addCar ∈ TW := tw_3 (j := 42) rfl rfl
theorem lk_X11_128 : Cond.methodLink RX11 128 yX3_carAt ∈ TW := tw_3 (j := 133) rfl rfl
theorem lk_X11_132 : Cond.methodLink RX11 132 yX1_addStorey ∈ TW := tw_3 (j := 137) rfl rfl
theorem lk_X11_138 : Cond.methodLink RX11 138 yX3_firstMet ∈ TW := tw_3 (j := 154) rfl rfl
theorem lk_X11_142 : Cond.methodLink RX11 142 yX1_standAt ∈ TW := tw_3 (j := 228) rfl rfl
theorem lk_X11_151 : Cond.methodLink RX11 151 yX1_tell ∈ TW := tw_4 (j := 1) rfl rfl
theorem lk_X11_161 : Cond.methodLink RX11 161 yX1_wheelX ∈ TW := tw_4 (j := 10) rfl rfl
theorem lk_X11_167 : Cond.methodLink RX11 167 yX1_wheelY ∈ TW := tw_4 (j := 11) rfl rfl
theorem lk_X11_173 : Cond.methodLink RX11 173 yX3_aim ∈ TW := tw_4 (j := 20) rfl rfl
theorem lk_X11_18 : Cond.methodLink RX11 18 yX3_init ∈ TW := tw_1 (j := 90) rfl rfl
theorem lk_X11_186 : Cond.methodLink RX11 186 yX3_drive ∈ TW := tw_4 (j := 32) rfl rfl
theorem lk_X11_190 : Cond.methodLink RX11 190 yX11_isBox ∈ TW := tw_4 (j := 43) rfl rfl
theorem lk_X11_196 : Cond.methodLink RX11 196 yX0_init ∈ TW := tw_4 (j := 45) rfl rfl
theorem lk_X11_199 : Cond.methodLink RX11 199 yX10_find ∈ TW := tw_4 (j := 46) rfl rfl
theorem lk_X11_203 : Cond.methodLink RX11 203 yX10_stepAt ∈ TW := tw_4 (j := 90) rfl rfl
theorem lk_X11_219 : Cond.methodLink RX11 219 yX3_tellNumber ∈ TW := tw_4 (j := 107) rfl rfl
theorem lk_X11_222 : Cond.methodLink RX11 222 yX3_houseBitten ∈ TW := tw_4 (j := 115) rfl rfl
theorem lk_X11_226 : Cond.methodLink RX11 226 yX1_isSlack ∈ TW := tw_4 (j := 133) rfl rfl
theorem lk_X11_229 : Cond.methodLink RX11 229 yX3_pullOf ∈ TW := tw_4 (j := 141) rfl rfl
theorem lk_X11_233 : Cond.methodLink RX11 233 yX3_needOf ∈ TW := tw_4 (j := 158) rfl rfl
theorem lk_X11_236 : Cond.methodLink RX11 236 yX3_fewestWoods ∈ TW := tw_4 (j := 175) rfl rfl
theorem lk_X11_239 : Cond.methodLink RX11 239 yX7_addTeam ∈ TW := tw_4 (j := 188) rfl rfl
theorem lk_X11_242 : Cond.methodLink RX11 242 yX7_addStage ∈ TW := tw_4 (j := 197) rfl rfl
theorem lk_X11_245 : Cond.methodLink RX11 245 yX7_tellRun ∈ TW := tw_4 (j := 205) rfl rfl
theorem lk_X11_248 : Cond.methodLink RX11 248 yX7_fewest ∈ TW := tw_4 (j := 213) rfl rfl
theorem lk_X11_252 : Cond.methodLink RX11 252 yX7_teamsOf ∈ TW := tw_5 (j := 16) rfl rfl
theorem lk_X11_255 : Cond.methodLink RX11 255 yX2_tellBlock ∈ TW := tw_5 (j := 25) rfl rfl
theorem lk_X11_259 : Cond.methodLink RX11 259 yX2_addCar ∈ TW := tw_5 (j := 34) rfl rfl
theorem lk_X11_261 : Cond.methodLink RX11 261 yX2_stick ∈ TW := tw_5 (j := 42) rfl rfl
theorem lk_X11_264 : Cond.methodLink RX11 264 yX2_clearCars ∈ TW := tw_5 (j := 50) rfl rfl
theorem lk_X11_267 : Cond.methodLink RX11 267 yX2_goneOf ∈ TW := tw_5 (j := 58) rfl rfl
theorem lk_X11_27 : Cond.methodLink RX11 27 yX10_init ∈ TW := tw_1 (j := 172) rfl rfl
theorem lk_X11_270 : Cond.methodLink RX11 270 yX2_placeOf ∈ TW := tw_5 (j := 86) rfl rfl
theorem lk_X11_273 : Cond.methodLink RX11 273 yX9_addTask ∈ TW := tw_5 (j := 94) rfl rfl
theorem lk_X11_276 : Cond.methodLink RX11 276 yX9_tellCrews ∈ TW := tw_5 (j := 103) rfl rfl
theorem lk_X11_279 : Cond.methodLink RX11 279 yX9_lateOf ∈ TW := tw_5 (j := 111) rfl rfl
theorem lk_X11_282 : Cond.methodLink RX11 282 yX9_greatestLate ∈ TW := tw_5 (j := 132) rfl rfl
theorem lk_X11_285 : Cond.methodLink RX11 285 yX9_howManyLate ∈ TW := tw_5 (j := 137) rfl rfl
theorem lk_X11_288 : Cond.methodLink RX11 288 yX4_append ∈ TW := tw_5 (j := 145) rfl rfl
theorem lk_X11_291 : Cond.methodLink RX11 291 yX4_clear ∈ TW := tw_5 (j := 154) rfl rfl
theorem lk_X11_294 : Cond.methodLink RX11 294 yX4_faultPlace ∈ TW := tw_5 (j := 162) rfl rfl
theorem lk_X11_297 : Cond.methodLink RX11 297 yX4_carryOut ∈ TW := tw_5 (j := 192) rfl rfl
theorem lk_X11_300 : Cond.methodLink RX11 300 yX6_renew ∈ TW := tw_5 (j := 212) rfl rfl
theorem lk_X11_303 : Cond.methodLink RX11 303 yX6_drop ∈ TW := tw_5 (j := 231) rfl rfl
theorem lk_X11_306 : Cond.methodLink RX11 306 yX6_write ∈ TW := tw_6 (j := 3) rfl rfl
theorem lk_X11_309 : Cond.methodLink RX11 309 yX6_read ∈ TW := tw_6 (j := 18) rfl rfl
theorem lk_X11_312 : Cond.methodLink RX11 312 yX6_carryOver ∈ TW := tw_6 (j := 27) rfl rfl
theorem lk_X11_315 : Cond.methodLink RX11 315 yX6_refusalOf ∈ TW := tw_6 (j := 42) rfl rfl
theorem lk_X11_318 : Cond.methodLink RX11 318 yX6_buildHouses ∈ TW := tw_6 (j := 43) rfl rfl
theorem lk_X11_328 : Cond.methodLink RX11 328 yX8_wiresThatHang ∈ TW := tw_6 (j := 52) rfl rfl
theorem lk_X11_337 : Cond.methodLink RX11 337 yX3_carsThatStand ∈ TW := tw_6 (j := 56) rfl rfl
theorem lk_X11_360 : Cond.methodLink RX11 360 yX11_count ∈ TW := tw_6 (j := 66) rfl rfl
theorem lk_X11_363 : Cond.methodLink RX11 363 yX11_digestCars ∈ TW := tw_6 (j := 67) rfl rfl
theorem lk_X11_367 : Cond.methodLink RX11 367 yX11_about ∈ TW := tw_6 (j := 71) rfl rfl
theorem lk_X11_373 : Cond.methodLink RX11 373 yJ9_floorMod_7cf53 ∈ TW := tw_2 (j := 159) rfl rfl
theorem lk_X11_43 : Cond.methodLink RX11 43 yX2_init ∈ TW := tw_2 (j := 9) rfl rfl
theorem lk_X11_57 : Cond.methodLink RX11 57 yX4_init ∈ TW := tw_2 (j := 82) rfl rfl
theorem lk_X11_66 : Cond.methodLink RX11 66 yX6_init ∈ TW := tw_2 (j := 102) rfl rfl
theorem lk_X11_71 : Cond.methodLink RX11 71 yX11_within ∈ TW := tw_2 (j := 151) rfl rfl
theorem lk_X11_75 : Cond.methodLink RX11 75 yX11_cosine ∈ TW := tw_2 (j := 154) rfl rfl
theorem lk_X11_79 : Cond.methodLink RX11 79 yX11_sine ∈ TW := tw_2 (j := 162) rfl rfl
theorem lk_X11_82 : Cond.methodLink RX11 82 yX8_addHouse ∈ TW := tw_2 (j := 169) rfl rfl
theorem lk_X11_86 : Cond.methodLink RX11 86 yX8_cutEaves ∈ TW := tw_2 (j := 203) rfl rfl
theorem lk_X11_90 : Cond.methodLink RX11 90 yX8_addKerb ∈ TW := tw_2 (j := 211) rfl rfl
theorem lk_X11_94 : Cond.methodLink RX11 94 yX8_addWire ∈ TW := tw_2 (j := 219) rfl rfl
theorem lk_X11_98 : Cond.methodLink RX11 98 yX8_lower ∈ TW := tw_2 (j := 227) rfl rfl
theorem lk_X12_1 : Cond.methodLink RX12 1 objectInit ∈ TW := tw_6 (j := 77) rfl rfl
theorem lk_X12_210 : Cond.methodLink RX12 210 yX12_quarter ∈ TW := tw_7 (j := 104) rfl rfl
theorem lk_X12_214 : Cond.methodLink RX12 214 yX12_along ∈ TW := tw_7 (j := 101) rfl rfl
theorem lk_X12_217 : Cond.methodLink RX12 217 yX12_in ∈ TW := tw_7 (j := 98) rfl rfl
theorem lk_X12_221 : Cond.methodLink RX12 221 yX12_isHeading ∈ TW := tw_7 (j := 95) rfl rfl
theorem lk_X12_225 : Cond.methodLink RX12 225 yX12_across ∈ TW := tw_7 (j := 107) rfl rfl
theorem lk_X12_228 : Cond.methodLink RX12 228 yX12_isBox ∈ TW := tw_7 (j := 114) rfl rfl
theorem lk_X12_235 : Cond.methodLink RX12 235 yX12_box ∈ TW := tw_7 (j := 117) rfl rfl
theorem lk_X12_250 : Cond.methodLink RX12 250 yX12_slopeAt ∈ TW := tw_7 (j := 150) rfl rfl
theorem lk_X12_257 : Cond.methodLink RX12 257 yX12_isCar ∈ TW := tw_7 (j := 162) rfl rfl
theorem lk_X12_260 : Cond.methodLink RX12 260 yX12_footOf ∈ TW := tw_7 (j := 166) rfl rfl
theorem lk_X12_263 : Cond.methodLink RX12 263 yX12_amount ∈ TW := tw_7 (j := 200) rfl rfl
theorem lk_X12_266 : Cond.methodLink RX12 266 yX12_areApart ∈ TW := tw_7 (j := 197) rfl rfl
theorem lk_X12_279 : Cond.methodLink RX12 279 yX12_halfLong ∈ TW := tw_7 (j := 186) rfl rfl
theorem lk_X12_282 : Cond.methodLink RX12 282 yX12_halfBroad ∈ TW := tw_7 (j := 190) rfl rfl
theorem lk_X12_285 : Cond.methodLink RX12 285 yX12_touch ∈ TW := tw_7 (j := 194) rfl rfl
theorem lk_X12_289 : Cond.methodLink RX12 289 yX12_touchesBox ∈ TW := tw_7 (j := 182) rfl rfl
theorem lk_X12_293 : Cond.methodLink RX12 293 yX12_signLong ∈ TW := tw_7 (j := 219) rfl rfl
theorem lk_X12_296 : Cond.methodLink RX12 296 yX12_signBroad ∈ TW := tw_7 (j := 222) rfl rfl
theorem lk_X12_299 : Cond.methodLink RX12 299 yX12_wheelX ∈ TW := tw_7 (j := 215) rfl rfl
theorem lk_X12_303 : Cond.methodLink RX12 303 yX12_wheelY ∈ TW := tw_7 (j := 225) rfl rfl
theorem lk_X12_306 : Cond.methodLink RX12 306 yX12_meetsHouse ∈ TW := tw_7 (j := 178) rfl rfl
theorem lk_X12_310 : Cond.methodLink RX12 310 yX12_meetsEaves ∈ TW := tw_7 (j := 203) rfl rfl
theorem lk_X12_313 : Cond.methodLink RX12 313 yX12_meetsWire ∈ TW := tw_7 (j := 207) rfl rfl
theorem lk_X12_316 : Cond.methodLink RX12 316 yX12_meetsKerb ∈ TW := tw_7 (j := 211) rfl rfl
theorem lk_X12_319 : Cond.methodLink RX12 319 yX12_meetsCar ∈ TW := tw_7 (j := 229) rfl rfl
theorem lk_X12_322 : Cond.methodLink RX12 322 yX12_meetsNow ∈ TW := tw_7 (j := 174) rfl rfl
theorem lk_X12_325 : Cond.methodLink RX12 325 yX12_settles ∈ TW := tw_7 (j := 233) rfl rfl
theorem lk_X12_330 : Cond.methodLink RX12 330 yX12_aboutOf ∈ TW := tw_8 (j := 5) rfl rfl
theorem lk_X12_333 : Cond.methodLink RX12 333 yX12_goes ∈ TW := tw_8 (j := 22) rfl rfl
theorem lk_X12_337 : Cond.methodLink RX12 337 yX12_does ∈ TW := tw_8 (j := 30) rfl rfl
theorem lk_X12_346 : Cond.methodLink RX12 346 yX12_slotOf ∈ TW := tw_8 (j := 38) rfl rfl
theorem lk_X12_350 : Cond.methodLink RX12 350 yX12_counts ∈ TW := tw_8 (j := 42) rfl rfl
theorem lk_X12_354 : Cond.methodLink RX12 354 yX12_isGoal ∈ TW := tw_8 (j := 46) rfl rfl
theorem lk_X12_358 : Cond.methodLink RX12 358 yX12_tells ∈ TW := tw_8 (j := 50) rfl rfl
theorem lk_X12_362 : Cond.methodLink RX12 362 yX12_cross ∈ TW := tw_8 (j := 86) rfl rfl
theorem lk_X12_366 : Cond.methodLink RX12 366 yX12_ropeHeading ∈ TW := tw_8 (j := 78) rfl rfl
theorem lk_X12_369 : Cond.methodLink RX12 369 yX12_goesThrough ∈ TW := tw_8 (j := 82) rfl rfl
theorem lk_X12_373 : Cond.methodLink RX12 373 yX12_ropeIs ∈ TW := tw_8 (j := 74) rfl rfl
theorem lk_X12_376 : Cond.methodLink RX12 376 yX12_isOnWet ∈ TW := tw_8 (j := 101) rfl rfl
theorem lk_X12_379 : Cond.methodLink RX12 379 yX12_standsNow ∈ TW := tw_8 (j := 93) rfl rfl
theorem lk_X12_382 : Cond.methodLink RX12 382 yX12_pullOf ∈ TW := tw_8 (j := 97) rfl rfl
theorem lk_X12_387 : Cond.methodLink RX12 387 yX12_floorBy ∈ TW := tw_8 (j := 114) rfl rfl
theorem lk_X12_393 : Cond.methodLink RX12 393 yX12_needOf ∈ TW := tw_8 (j := 109) rfl rfl
theorem lk_X12_402 : Cond.methodLink RX12 402 yX12_runOf ∈ TW := tw_8 (j := 158) rfl rfl
theorem lk_X12_405 : Cond.methodLink RX12 405 yX12_after ∈ TW := tw_8 (j := 154) rfl rfl
theorem lk_X12_408 : Cond.methodLink RX12 408 yX12_ones ∈ TW := tw_8 (j := 161) rfl rfl
theorem lk_X12_411 : Cond.methodLink RX12 411 yX12_countsFrom ∈ TW := tw_8 (j := 150) rfl rfl
theorem lk_X12_414 : Cond.methodLink RX12 414 yX12_rosters ∈ TW := tw_8 (j := 146) rfl rfl
theorem lk_X12_417 : Cond.methodLink RX12 417 yX12_rosterOrNot ∈ TW := tw_8 (j := 142) rfl rfl
theorem lk_X12_423 : Cond.methodLink RX12 423 yX12_hasRoom ∈ TW := tw_8 (j := 200) rfl rfl
theorem lk_X12_426 : Cond.methodLink RX12 426 yX12_comes ∈ TW := tw_8 (j := 196) rfl rfl
theorem lk_X12_430 : Cond.methodLink RX12 430 yX12_turns ∈ TW := tw_8 (j := 192) rfl rfl
theorem lk_X12_434 : Cond.methodLink RX12 434 yX12_days ∈ TW := tw_8 (j := 188) rfl rfl
theorem lk_X12_440 : Cond.methodLink RX12 440 yX12_works ∈ TW := tw_8 (j := 220) rfl rfl
theorem lk_X12_449 : Cond.methodLink RX12 449 yX12_byteAt ∈ TW := tw_9 (j := 8) rfl rfl
theorem lk_X12_452 : Cond.methodLink RX12 452 yX12_mostOf ∈ TW := tw_9 (j := 12) rfl rfl
theorem lk_X12_458 : Cond.methodLink RX12 458 yX12_leastOf ∈ TW := tw_9 (j := 15) rfl rfl
theorem lk_X12_461 : Cond.methodLink RX12 461 yX12_part ∈ TW := tw_9 (j := 4) rfl rfl
theorem lk_X12_464 : Cond.methodLink RX12 464 yX12_faultNow ∈ TW := tw_9 (j := 0) rfl rfl
theorem lk_X12_470 : Cond.methodLink RX12 470 yX12_isSheet ∈ TW := tw_9 (j := 26) rfl rfl
theorem lk_X12_473 : Cond.methodLink RX12 473 yX12_finds ∈ TW := tw_9 (j := 29) rfl rfl
theorem lk_X12_476 : Cond.methodLink RX12 476 yX12_lacks ∈ TW := tw_9 (j := 41) rfl rfl
theorem lk_X12_479 : Cond.methodLink RX12 479 yX12_house ∈ TW := tw_9 (j := 57) rfl rfl
theorem lk_X12_487 : Cond.methodLink RX12 487 yX12_count ∈ TW := tw_9 (j := 68) rfl rfl
theorem lk_X1_102 : Cond.methodLink RX1 102 yX1_wheelX ∈ TW := tw_4 (j := 127) rfl rfl
theorem lk_X1_106 : Cond.methodLink RX1 106 yX1_wheelY ∈ TW := tw_4 (j := 128) rfl rfl
theorem lk_X1_3 : Cond.methodLink RX1 3 objectInit ∈ TW := tw_3 (j := 51) rfl rfl
theorem lk_X1_49 : Cond.methodLink RX1 49 yJ7_fill_53178 ∈ TW := tw_3 (j := 54) rfl rfl
theorem lk_X1_63 : Cond.methodLink RX1 63 yX1_footOf ∈ TW := tw_3 (j := 142) rfl rfl
theorem lk_X1_67 : Cond.methodLink RX1 67 yX1_heightOf ∈ TW := tw_3 (j := 146) rfl rfl
theorem lk_X1_76 : Cond.methodLink RX1 76 yX5_lay ∈ TW := tw_3 (j := 164) rfl rfl
theorem lk_X1_93 : Cond.methodLink RX1 93 yX1_alongOf ∈ TW := tw_3 (j := 197) rfl rfl
theorem lk_X1_96 : Cond.methodLink RX1 96 yX1_acrossOf ∈ TW := tw_3 (j := 201) rfl rfl
theorem lk_X1_99 : Cond.methodLink RX1 99 yX1_ropeTurn ∈ TW := tw_4 (j := 123) rfl rfl
theorem lk_X2_3 : Cond.methodLink RX2 3 objectInit ∈ TW := tw_2 (j := 12) rfl rfl
theorem lk_X2_43 : Cond.methodLink RX2 43 yJ7_fill_53178 ∈ TW := tw_2 (j := 13) rfl rfl
theorem lk_X2_57 : Cond.methodLink RX2 57 yX2_passTo ∈ TW := tw_5 (j := 62) rfl rfl
theorem lk_X2_61 : Cond.methodLink RX2 61 yX2_pass ∈ TW := tw_5 (j := 66) rfl rfl
theorem lk_X2_65 : Cond.methodLink RX2 65 yX2_enterBlock ∈ TW := tw_5 (j := 70) rfl rfl
theorem lk_X2_69 : Cond.methodLink RX2 69 yX2_hasStayed ∈ TW := tw_5 (j := 78) rfl rfl
theorem lk_X2_73 : Cond.methodLink RX2 73 yX2_hasRoom ∈ TW := tw_5 (j := 74) rfl rfl
theorem lk_X3_102 : Cond.methodLink RX3 102 yX1_layAt ∈ TW := tw_3 (j := 158) rfl rfl
theorem lk_X3_105 : Cond.methodLink RX3 105 yX8_houseMet ∈ TW := tw_3 (j := 171) rfl rfl
theorem lk_X3_111 : Cond.methodLink RX3 111 yX8_eavesMet ∈ TW := tw_3 (j := 180) rfl rfl
theorem lk_X3_114 : Cond.methodLink RX3 114 yX8_wireMet ∈ TW := tw_3 (j := 185) rfl rfl
theorem lk_X3_117 : Cond.methodLink RX3 117 yX8_kerbMet ∈ TW := tw_3 (j := 189) rfl rfl
theorem lk_X3_120 : Cond.methodLink RX3 120 yX3_carMet ∈ TW := tw_3 (j := 213) rfl rfl
theorem lk_X3_128 : Cond.methodLink RX3 128 yX3_storeyTouches ∈ TW := tw_3 (j := 217) rfl rfl
theorem lk_X3_136 : Cond.methodLink RX3 136 yX1_footOf ∈ TW := tw_3 (j := 220) rfl rfl
theorem lk_X3_139 : Cond.methodLink RX3 139 yX1_heightOf ∈ TW := tw_3 (j := 221) rfl rfl
theorem lk_X3_142 : Cond.methodLink RX3 142 yX5_liesApartFrom ∈ TW := tw_3 (j := 222) rfl rfl
theorem lk_X3_146 : Cond.methodLink RX3 146 yX1_layRope ∈ TW := tw_4 (j := 119) rfl rfl
theorem lk_X3_150 : Cond.methodLink RX3 150 yX8_houseOnLine ∈ TW := tw_4 (j := 129) rfl rfl
theorem lk_X3_154 : Cond.methodLink RX3 154 yX8_slopeAt ∈ TW := tw_4 (j := 149) rfl rfl
theorem lk_X3_157 : Cond.methodLink RX3 157 yX8_isWet ∈ TW := tw_4 (j := 150) rfl rfl
theorem lk_X3_161 : Cond.methodLink RX3 161 yX3_isWetUnder ∈ TW := tw_4 (j := 145) rfl rfl
theorem lk_X3_165 : Cond.methodLink RX3 165 yX1_isSlack ∈ TW := tw_4 (j := 151) rfl rfl
theorem lk_X3_168 : Cond.methodLink RX3 168 yX3_houseBitten ∈ TW := tw_4 (j := 152) rfl rfl
theorem lk_X3_176 : Cond.methodLink RX3 176 yX1_ropeTurn ∈ TW := tw_4 (j := 153) rfl rfl
theorem lk_X3_179 : Cond.methodLink RX3 179 yX8_riseXOf ∈ TW := tw_4 (j := 162) rfl rfl
theorem lk_X3_182 : Cond.methodLink RX3 182 yX8_riseYOf ∈ TW := tw_4 (j := 163) rfl rfl
theorem lk_X3_188 : Cond.methodLink RX3 188 yJ9_floorDiv_7cf53 ∈ TW := tw_4 (j := 164) rfl rfl
theorem lk_X3_193 : Cond.methodLink RX3 193 yX3_needOf ∈ TW := tw_4 (j := 179) rfl rfl
theorem lk_X3_196 : Cond.methodLink RX3 196 yX3_pullOf ∈ TW := tw_4 (j := 180) rfl rfl
theorem lk_X3_199 : Cond.methodLink RX3 199 yJ9_max_7cf53 ∈ TW := tw_4 (j := 181) rfl rfl
theorem lk_X3_3 : Cond.methodLink RX3 3 objectInit ∈ TW := tw_1 (j := 93) rfl rfl
theorem lk_X3_48 : Cond.methodLink RX3 48 yX1_init ∈ TW := tw_3 (j := 48) rfl rfl
theorem lk_X3_64 : Cond.methodLink RX3 64 yX3_aim ∈ TW := tw_4 (j := 36) rfl rfl
theorem lk_X3_77 : Cond.methodLink RX3 77 yX3_firstMet ∈ TW := tw_4 (j := 37) rfl rfl
theorem lk_X3_81 : Cond.methodLink RX3 81 yX1_standAt ∈ TW := tw_4 (j := 38) rfl rfl
theorem lk_X3_95 : Cond.methodLink RX3 95 yX1_wheelX ∈ TW := tw_4 (j := 26) rfl rfl
theorem lk_X3_99 : Cond.methodLink RX3 99 yX1_wheelY ∈ TW := tw_4 (j := 27) rfl rfl
theorem lk_X4_3 : Cond.methodLink RX4 3 objectInit ∈ TW := tw_2 (j := 85) rfl rfl
theorem lk_X4_31 : Cond.methodLink RX4 31 yX4_byteAt ∈ TW := tw_5 (j := 166) rfl rfl
theorem lk_X4_35 : Cond.methodLink RX4 35 yX4_isFigure ∈ TW := tw_5 (j := 177) rfl rfl
theorem lk_X4_39 : Cond.methodLink RX4 39 yX4_figuresAt ∈ TW := tw_5 (j := 173) rfl rfl
theorem lk_X4_42 : Cond.methodLink RX4 42 yX4_mostBehind ∈ TW := tw_5 (j := 170) rfl rfl
theorem lk_X4_45 : Cond.methodLink RX4 45 yX4_numberAt ∈ TW := tw_5 (j := 181) rfl rfl
theorem lk_X4_48 : Cond.methodLink RX4 48 yX4_leastBehind ∈ TW := tw_5 (j := 185) rfl rfl
theorem lk_X4_51 : Cond.methodLink RX4 51 yX4_movesAsked ∈ TW := tw_5 (j := 196) rfl rfl
theorem lk_X4_55 : Cond.methodLink RX4 55 yX4_moveOf ∈ TW := tw_5 (j := 199) rfl rfl
theorem lk_X4_58 : Cond.methodLink RX4 58 yX3_drive ∈ TW := tw_5 (j := 202) rfl rfl
theorem lk_X4_64 : Cond.methodLink RX4 64 yX4_otherDone ∈ TW := tw_5 (j := 203) rfl rfl
theorem lk_X4_68 : Cond.methodLink RX4 68 yX8_lower ∈ TW := tw_5 (j := 207) rfl rfl
theorem lk_X5_3 : Cond.methodLink RX5 3 objectInit ∈ TW := tw_1 (j := 101) rfl rfl
theorem lk_X5_30 : Cond.methodLink RX5 30 yJ9_abs_0f7a4 ∈ TW := tw_3 (j := 168) rfl rfl
theorem lk_X6_23 : Cond.methodLink RX6 23 yJ7_fill_53178 ∈ TW := tw_2 (j := 107) rfl rfl
theorem lk_X6_3 : Cond.methodLink RX6 3 objectInit ∈ TW := tw_2 (j := 105) rfl rfl
theorem lk_X6_37 : Cond.methodLink RX6 37 yX6_isSheet ∈ TW := tw_5 (j := 216) rfl rfl
theorem lk_X6_41 : Cond.methodLink RX6 41 yX6_find ∈ TW := tw_5 (j := 223) rfl rfl
theorem lk_X6_45 : Cond.methodLink RX6 45 yX6_isForm ∈ TW := tw_5 (j := 220) rfl rfl
theorem lk_X6_48 : Cond.methodLink RX6 48 yX6_refusalOf ∈ TW := tw_5 (j := 235) rfl rfl
theorem lk_X6_51 : Cond.methodLink RX6 51 yX6_refusalOfItem ∈ TW := tw_6 (j := 7) rfl rfl
theorem lk_X6_55 : Cond.methodLink RX6 55 yX6_lowestBits ∈ TW := tw_6 (j := 11) rfl rfl
theorem lk_X6_60 : Cond.methodLink RX6 60 yX6_hasItems ∈ TW := tw_6 (j := 31) rfl rfl
theorem lk_X6_63 : Cond.methodLink RX6 63 arraycopyName ∈ TW := tw_6 (j := 35) rfl rfl
theorem lk_X6_69 : Cond.methodLink RX6 69 yX8_addHouse ∈ TW := tw_6 (j := 47) rfl rfl
theorem lk_X7_3 : Cond.methodLink RX7 3 objectInit ∈ TW := tw_1 (j := 217) rfl rfl
theorem lk_X7_44 : Cond.methodLink RX7 44 yX7_reckon ∈ TW := tw_4 (j := 217) rfl rfl
theorem lk_X7_47 : Cond.methodLink RX7 47 yX7_fewest ∈ TW := tw_5 (j := 20) rfl rfl
theorem lk_X7_51 : Cond.methodLink RX7 51 yJ7_fill_53178 ∈ TW := tw_4 (j := 221) rfl rfl
theorem lk_X7_57 : Cond.methodLink RX7 57 yX7_fewestAt ∈ TW := tw_4 (j := 222) rfl rfl
theorem lk_X7_61 : Cond.methodLink RX7 61 yX7_choose ∈ TW := tw_5 (j := 7) rfl rfl
theorem lk_X7_64 : Cond.methodLink RX7 64 yX7_fewestWith ∈ TW := tw_4 (j := 226) rfl rfl
theorem lk_X7_68 : Cond.methodLink RX7 68 yJ9_min_7cf53 ∈ TW := tw_5 (j := 4) rfl rfl
theorem lk_X7_73 : Cond.methodLink RX7 73 yX7_stateBehind ∈ TW := tw_4 (j := 230) rfl rfl
theorem lk_X7_76 : Cond.methodLink RX7 76 yX7_handsOf ∈ TW := tw_4 (j := 234) rfl rfl
theorem lk_X7_80 : Cond.methodLink RX7 80 yJ6_bitCount_0f7a4 ∈ TW := tw_4 (j := 238) rfl rfl
theorem lk_X7_85 : Cond.methodLink RX7 85 yJ9_max_7cf53 ∈ TW := tw_5 (j := 11) rfl rfl
theorem lk_X8_103 : Cond.methodLink RX8 103 yX1_heightOf ∈ TW := tw_3 (j := 184) rfl rfl
theorem lk_X8_106 : Cond.methodLink RX8 106 yX1_wheelX ∈ TW := tw_3 (j := 193) rfl rfl
theorem lk_X8_110 : Cond.methodLink RX8 110 yX1_wheelY ∈ TW := tw_3 (j := 205) rfl rfl
theorem lk_X8_113 : Cond.methodLink RX8 113 yX0_holdsInside ∈ TW := tw_3 (j := 209) rfl rfl
theorem lk_X8_3 : Cond.methodLink RX8 3 objectInit ∈ TW := tw_1 (j := 31) rfl rfl
theorem lk_X8_64 : Cond.methodLink RX8 64 yX0_init ∈ TW := tw_2 (j := 178) rfl rfl
theorem lk_X8_76 : Cond.methodLink RX8 76 yX0_holds ∈ TW := tw_3 (j := 17) rfl rfl
theorem lk_X8_80 : Cond.methodLink RX8 80 yX8_isSlope ∈ TW := tw_3 (j := 26) rfl rfl
theorem lk_X8_89 : Cond.methodLink RX8 89 yX1_footOf ∈ TW := tw_3 (j := 175) rfl rfl
theorem lk_X8_97 : Cond.methodLink RX8 97 yX5_touchesBox ∈ TW := tw_3 (j := 176) rfl rfl
theorem lk_X9_3 : Cond.methodLink RX9 3 objectInit ∈ TW := tw_2 (j := 56) rfl rfl
theorem lk_X9_39 : Cond.methodLink RX9 39 yX9_share ∈ TW := tw_5 (j := 115) rfl rfl
theorem lk_X9_42 : Cond.methodLink RX9 42 yJ9_max_7cf53 ∈ TW := tw_5 (j := 136) rfl rfl
theorem lk_X9_48 : Cond.methodLink RX9 48 yJ7_fill_53178 ∈ TW := tw_5 (j := 119) rfl rfl
theorem lk_X9_54 : Cond.methodLink RX9 54 yX9_nextTask ∈ TW := tw_5 (j := 120) rfl rfl
theorem lk_X9_58 : Cond.methodLink RX9 58 yX9_firstFree ∈ TW := tw_5 (j := 124) rfl rfl
theorem na_copy : Cond.native arraycopyName ∈ TW := tw_6 (j := 37) rfl rfl
theorem nl_X0_24 : ((RX0, 24, yX11_within, "FloatTowers") : String × Nat × MethodName × String) ∈ nestL := List.mem_of_getElem? (i := 6) rfl
theorem nl_X10_36 : ((RX10, 36, yX11_within, "FloatTowers") : String × Nat × MethodName × String) ∈ nestL := List.mem_of_getElem? (i := 14) rfl
theorem nl_X11_36 : ((RX11, 36, yX7_init, "FloatTowers") : String × Nat × MethodName × String) ∈ nestL := List.mem_of_getElem? (i := 2) rfl
theorem nl_X11_50 : ((RX11, 50, yX9_init, "FloatTowers") : String × Nat × MethodName × String) ∈ nestL := List.mem_of_getElem? (i := 3) rfl
theorem nl_X11_9 : ((RX11, 9, yX8_init, "FloatTowers") : String × Nat × MethodName × String) ∈ nestL := List.mem_of_getElem? (i := 0) rfl
theorem nl_X1_55 : ((RX1, 55, yX5_init, "FloatTowers") : String × Nat × MethodName × String) ∈ nestL := List.mem_of_getElem? (i := 8) rfl
theorem nl_X1_56 : ((RX1, 56, yX11_within, "FloatTowers") : String × Nat × MethodName × String) ∈ nestL := List.mem_of_getElem? (i := 9) rfl
theorem nl_X1_70 : ((RX1, 70, yX11_cosine, "FloatTowers") : String × Nat × MethodName × String) ∈ nestL := List.mem_of_getElem? (i := 10) rfl
theorem nl_X1_73 : ((RX1, 73, yX11_sine, "FloatTowers") : String × Nat × MethodName × String) ∈ nestL := List.mem_of_getElem? (i := 11) rfl
theorem nl_X2_49 : ((RX2, 49, yX11_within, "FloatTowers") : String × Nat × MethodName × String) ∈ nestL := List.mem_of_getElem? (i := 16) rfl
theorem nl_X3_32 : ((RX3, 32, yX5_init, "FloatTowers") : String × Nat × MethodName × String) ∈ nestL := List.mem_of_getElem? (i := 1) rfl
theorem nl_X3_44 : ((RX3, 44, yX11_within, "FloatTowers") : String × Nat × MethodName × String) ∈ nestL := List.mem_of_getElem? (i := 7) rfl
theorem nl_X3_88 : ((RX3, 88, yX11_cosine, "FloatTowers") : String × Nat × MethodName × String) ∈ nestL := List.mem_of_getElem? (i := 12) rfl
theorem nl_X3_92 : ((RX3, 92, yX11_sine, "FloatTowers") : String × Nat × MethodName × String) ∈ nestL := List.mem_of_getElem? (i := 13) rfl
theorem nl_X4_23 : ((RX4, 23, yX11_within, "FloatTowers") : String × Nat × MethodName × String) ∈ nestL := List.mem_of_getElem? (i := 18) rfl
theorem nl_X6_29 : ((RX6, 29, yX11_within, "FloatTowers") : String × Nat × MethodName × String) ∈ nestL := List.mem_of_getElem? (i := 19) rfl
theorem nl_X7_30 : ((RX7, 30, yX11_within, "FloatTowers") : String × Nat × MethodName × String) ∈ nestL := List.mem_of_getElem? (i := 15) rfl
theorem nl_X8_52 : ((RX8, 52, yX11_isBox, "FloatTowers") : String × Nat × MethodName × String) ∈ nestL := List.mem_of_getElem? (i := 4) rfl
theorem nl_X8_56 : ((RX8, 56, yX11_within, "FloatTowers") : String × Nat × MethodName × String) ∈ nestL := List.mem_of_getElem? (i := 5) rfl
theorem nl_X9_32 : ((RX9, 32, yX11_within, "FloatTowers") : String × Nat × MethodName × String) ∈ nestL := List.mem_of_getElem? (i := 17) rfl
theorem st_J6_bitCount_0f7a4 : Cond.static yJ6_bitCount_0f7a4 ∈ TW := tw_4 (j := 239) rfl rfl
theorem st_J7_fill_53178 : Cond.static yJ7_fill_53178 ∈ TW := tw_2 (j := 14) rfl rfl
theorem st_J9_abs_0f7a4 : Cond.static yJ9_abs_0f7a4 ∈ TW := tw_3 (j := 169) rfl rfl
theorem st_J9_floorDiv_7cf53 : Cond.static yJ9_floorDiv_7cf53 ∈ TW := tw_4 (j := 165) rfl rfl
theorem st_J9_floorMod_7cf53 : Cond.static yJ9_floorMod_7cf53 ∈ TW := tw_2 (j := 160) rfl rfl
theorem st_J9_max_7cf53 : Cond.static yJ9_max_7cf53 ∈ TW := tw_4 (j := 182) rfl rfl
theorem st_J9_min_7cf53 : Cond.static yJ9_min_7cf53 ∈ TW := tw_5 (j := 5) rfl rfl
theorem st_X10_bucketOf : Cond.static yX10_bucketOf ∈ TW := tw_4 (j := 60) rfl rfl
theorem st_X10_standingOf : Cond.static yX10_standingOf ∈ TW := tw_4 (j := 52) rfl rfl
theorem st_X11_cosine : Cond.static yX11_cosine ∈ TW := tw_2 (j := 155) rfl rfl
theorem st_X11_isBox : Cond.static yX11_isBox ∈ TW := tw_2 (j := 174) rfl rfl
theorem st_X11_sine : Cond.static yX11_sine ∈ TW := tw_2 (j := 163) rfl rfl
theorem st_X11_within : Cond.static yX11_within ∈ TW := tw_2 (j := 152) rfl rfl
theorem st_X12_across : Cond.static yX12_across ∈ TW := tw_7 (j := 108) rfl rfl
theorem st_X12_along : Cond.static yX12_along ∈ TW := tw_7 (j := 102) rfl rfl
theorem st_X12_amount : Cond.static yX12_amount ∈ TW := tw_7 (j := 201) rfl rfl
theorem st_X12_areApart : Cond.static yX12_areApart ∈ TW := tw_7 (j := 198) rfl rfl
theorem st_X12_box : Cond.static yX12_box ∈ TW := tw_7 (j := 118) rfl rfl
theorem st_X12_cross : Cond.static yX12_cross ∈ TW := tw_8 (j := 87) rfl rfl
theorem st_X12_floorBy : Cond.static yX12_floorBy ∈ TW := tw_8 (j := 115) rfl rfl
theorem st_X12_in : Cond.static yX12_in ∈ TW := tw_7 (j := 99) rfl rfl
theorem st_X12_isBox : Cond.static yX12_isBox ∈ TW := tw_7 (j := 115) rfl rfl
theorem st_X12_isHeading : Cond.static yX12_isHeading ∈ TW := tw_7 (j := 96) rfl rfl
theorem st_X12_isSheet : Cond.static yX12_isSheet ∈ TW := tw_9 (j := 27) rfl rfl
theorem st_X12_leastOf : Cond.static yX12_leastOf ∈ TW := tw_9 (j := 16) rfl rfl
theorem st_X12_mostOf : Cond.static yX12_mostOf ∈ TW := tw_9 (j := 13) rfl rfl
theorem st_X12_ones : Cond.static yX12_ones ∈ TW := tw_8 (j := 162) rfl rfl
theorem st_X12_quarter : Cond.static yX12_quarter ∈ TW := tw_7 (j := 105) rfl rfl
theorem st_X12_runOf : Cond.static yX12_runOf ∈ TW := tw_8 (j := 159) rfl rfl
theorem st_X12_signBroad : Cond.static yX12_signBroad ∈ TW := tw_7 (j := 223) rfl rfl
theorem st_X12_signLong : Cond.static yX12_signLong ∈ TW := tw_7 (j := 220) rfl rfl
theorem st_X12_touch : Cond.static yX12_touch ∈ TW := tw_7 (j := 195) rfl rfl
theorem st_X3_storeyTouches : Cond.static yX3_storeyTouches ∈ TW := tw_3 (j := 218) rfl rfl
theorem st_X4_leastBehind : Cond.static yX4_leastBehind ∈ TW := tw_5 (j := 186) rfl rfl
theorem st_X4_mostBehind : Cond.static yX4_mostBehind ∈ TW := tw_5 (j := 171) rfl rfl
theorem st_X4_moveOf : Cond.static yX4_moveOf ∈ TW := tw_5 (j := 200) rfl rfl
theorem st_X4_movesAsked : Cond.static yX4_movesAsked ∈ TW := tw_5 (j := 197) rfl rfl
theorem st_X6_isForm : Cond.static yX6_isForm ∈ TW := tw_5 (j := 221) rfl rfl
theorem st_X6_isSheet : Cond.static yX6_isSheet ∈ TW := tw_5 (j := 217) rfl rfl
theorem st_X6_lowestBits : Cond.static yX6_lowestBits ∈ TW := tw_6 (j := 12) rfl rfl
theorem st_copy : Cond.static arraycopyName ∈ TW := tw_6 (j := 36) rfl rfl
theorem vi_X0_holds : Cond.instanceMethod yX0_holds ∈ TW ∧ Cond.selects (yX0_holds).cls yX0_holds yX0_holds ∈ TW := ⟨tw_3 (j := 18) rfl rfl, tw_3 (j := 19) rfl rfl⟩
theorem vi_X0_holdsInside : Cond.instanceMethod yX0_holdsInside ∈ TW ∧ Cond.selects (yX0_holdsInside).cls yX0_holdsInside yX0_holdsInside ∈ TW := ⟨tw_3 (j := 210) rfl rfl, tw_3 (j := 211) rfl rfl⟩
theorem vi_X10_find : Cond.instanceMethod yX10_find ∈ TW ∧ Cond.selects (yX10_find).cls yX10_find yX10_find ∈ TW := ⟨tw_4 (j := 47) rfl rfl, tw_4 (j := 48) rfl rfl⟩
theorem vi_X10_goOn : Cond.instanceMethod yX10_goOn ∈ TW ∧ Cond.selects (yX10_goOn).cls yX10_goOn yX10_goOn ∈ TW := ⟨tw_4 (j := 72) rfl rfl, tw_0 (j := 6) rfl rfl⟩
theorem vi_X10_isGoal : Cond.instanceMethod yX10_isGoal ∈ TW ∧ Cond.selects (yX10_isGoal).cls yX10_isGoal yX10_isGoal ∈ TW := ⟨tw_4 (j := 65) rfl rfl, tw_0 (j := 5) rfl rfl⟩
theorem vi_X10_isNoted : Cond.instanceMethod yX10_isNoted ∈ TW ∧ Cond.selects (yX10_isNoted).cls yX10_isNoted yX10_isNoted ∈ TW := ⟨tw_4 (j := 79) rfl rfl, tw_0 (j := 7) rfl rfl⟩
theorem vi_X10_keepSteps : Cond.instanceMethod yX10_keepSteps ∈ TW ∧ Cond.selects (yX10_keepSteps).cls yX10_keepSteps yX10_keepSteps ∈ TW := ⟨tw_4 (j := 84) rfl rfl, tw_0 (j := 8) rfl rfl⟩
theorem vi_X10_note : Cond.instanceMethod yX10_note ∈ TW ∧ Cond.selects (yX10_note).cls yX10_note yX10_note ∈ TW := ⟨tw_4 (j := 57) rfl rfl, tw_0 (j := 4) rfl rfl⟩
theorem vi_X10_stepAt : Cond.instanceMethod yX10_stepAt ∈ TW ∧ Cond.selects (yX10_stepAt).cls yX10_stepAt yX10_stepAt ∈ TW := ⟨tw_4 (j := 91) rfl rfl, tw_4 (j := 92) rfl rfl⟩
theorem vi_X11_about : Cond.instanceMethod yX11_about ∈ TW ∧ Cond.selects (yX11_about).cls yX11_about yX11_about ∈ TW := ⟨tw_3 (j := 237) rfl rfl, tw_3 (j := 238) rfl rfl⟩
theorem vi_X11_count : Cond.instanceMethod yX11_count ∈ TW ∧ Cond.selects (yX11_count).cls yX11_count yX11_count ∈ TW := ⟨tw_6 (j := 49) rfl rfl, tw_6 (j := 50) rfl rfl⟩
theorem vi_X11_digestCars : Cond.instanceMethod yX11_digestCars ∈ TW ∧ Cond.selects (yX11_digestCars).cls yX11_digestCars yX11_digestCars ∈ TW := ⟨tw_6 (j := 69) rfl rfl, tw_0 (j := 32) rfl rfl⟩
theorem vi_X12_aboutOf : Cond.instanceMethod yX12_aboutOf ∈ TW ∧ Cond.selects (yX12_aboutOf).cls yX12_aboutOf yX12_aboutOf ∈ TW := ⟨tw_8 (j := 7) rfl rfl, tw_0 (j := 48) rfl rfl⟩
theorem vi_X12_after : Cond.instanceMethod yX12_after ∈ TW ∧ Cond.selects (yX12_after).cls yX12_after yX12_after ∈ TW := ⟨tw_8 (j := 156) rfl rfl, tw_0 (j := 65) rfl rfl⟩
theorem vi_X12_byteAt : Cond.instanceMethod yX12_byteAt ∈ TW ∧ Cond.selects (yX12_byteAt).cls yX12_byteAt yX12_byteAt ∈ TW := ⟨tw_9 (j := 10) rfl rfl, tw_0 (j := 73) rfl rfl⟩
theorem vi_X12_comes : Cond.instanceMethod yX12_comes ∈ TW ∧ Cond.selects (yX12_comes).cls yX12_comes yX12_comes ∈ TW := ⟨tw_8 (j := 198) rfl rfl, tw_0 (j := 68) rfl rfl⟩
theorem vi_X12_count : Cond.instanceMethod yX12_count ∈ TW ∧ Cond.selects (yX12_count).cls yX12_count yX12_count ∈ TW := ⟨tw_9 (j := 59) rfl rfl, tw_9 (j := 60) rfl rfl⟩
theorem vi_X12_counts : Cond.instanceMethod yX12_counts ∈ TW ∧ Cond.selects (yX12_counts).cls yX12_counts yX12_counts ∈ TW := ⟨tw_8 (j := 44) rfl rfl, tw_0 (j := 52) rfl rfl⟩
theorem vi_X12_countsFrom : Cond.instanceMethod yX12_countsFrom ∈ TW ∧ Cond.selects (yX12_countsFrom).cls yX12_countsFrom yX12_countsFrom ∈ TW := ⟨tw_8 (j := 152) rfl rfl, tw_0 (j := 64) rfl rfl⟩
theorem vi_X12_days : Cond.instanceMethod yX12_days ∈ TW ∧ Cond.selects (yX12_days).cls yX12_days yX12_days ∈ TW := ⟨tw_8 (j := 190) rfl rfl, tw_0 (j := 66) rfl rfl⟩
theorem vi_X12_does : Cond.instanceMethod yX12_does ∈ TW ∧ Cond.selects (yX12_does).cls yX12_does yX12_does ∈ TW := ⟨tw_8 (j := 32) rfl rfl, tw_0 (j := 50) rfl rfl⟩
theorem vi_X12_faultNow : Cond.instanceMethod yX12_faultNow ∈ TW ∧ Cond.selects (yX12_faultNow).cls yX12_faultNow yX12_faultNow ∈ TW := ⟨tw_9 (j := 2) rfl rfl, tw_0 (j := 71) rfl rfl⟩
theorem vi_X12_finds : Cond.instanceMethod yX12_finds ∈ TW ∧ Cond.selects (yX12_finds).cls yX12_finds yX12_finds ∈ TW := ⟨tw_9 (j := 31) rfl rfl, tw_0 (j := 74) rfl rfl⟩
theorem vi_X12_footOf : Cond.instanceMethod yX12_footOf ∈ TW ∧ Cond.selects (yX12_footOf).cls yX12_footOf yX12_footOf ∈ TW := ⟨tw_7 (j := 168) rfl rfl, tw_0 (j := 35) rfl rfl⟩
theorem vi_X12_goes : Cond.instanceMethod yX12_goes ∈ TW ∧ Cond.selects (yX12_goes).cls yX12_goes yX12_goes ∈ TW := ⟨tw_8 (j := 24) rfl rfl, tw_0 (j := 49) rfl rfl⟩
theorem vi_X12_goesThrough : Cond.instanceMethod yX12_goesThrough ∈ TW ∧ Cond.selects (yX12_goesThrough).cls yX12_goesThrough yX12_goesThrough ∈ TW := ⟨tw_8 (j := 84) rfl rfl, tw_0 (j := 57) rfl rfl⟩
theorem vi_X12_halfBroad : Cond.instanceMethod yX12_halfBroad ∈ TW ∧ Cond.selects (yX12_halfBroad).cls yX12_halfBroad yX12_halfBroad ∈ TW := ⟨tw_7 (j := 192) rfl rfl, tw_0 (j := 40) rfl rfl⟩
theorem vi_X12_halfLong : Cond.instanceMethod yX12_halfLong ∈ TW ∧ Cond.selects (yX12_halfLong).cls yX12_halfLong yX12_halfLong ∈ TW := ⟨tw_7 (j := 188) rfl rfl, tw_0 (j := 39) rfl rfl⟩
theorem vi_X12_hasRoom : Cond.instanceMethod yX12_hasRoom ∈ TW ∧ Cond.selects (yX12_hasRoom).cls yX12_hasRoom yX12_hasRoom ∈ TW := ⟨tw_8 (j := 202) rfl rfl, tw_0 (j := 69) rfl rfl⟩
theorem vi_X12_house : Cond.instanceMethod yX12_house ∈ TW ∧ Cond.selects (yX12_house).cls yX12_house yX12_house ∈ TW := ⟨tw_7 (j := 111) rfl rfl, tw_7 (j := 112) rfl rfl⟩
theorem vi_X12_isCar : Cond.instanceMethod yX12_isCar ∈ TW ∧ Cond.selects (yX12_isCar).cls yX12_isCar yX12_isCar ∈ TW := ⟨tw_7 (j := 164) rfl rfl, tw_0 (j := 34) rfl rfl⟩
theorem vi_X12_isGoal : Cond.instanceMethod yX12_isGoal ∈ TW ∧ Cond.selects (yX12_isGoal).cls yX12_isGoal yX12_isGoal ∈ TW := ⟨tw_8 (j := 48) rfl rfl, tw_0 (j := 53) rfl rfl⟩
theorem vi_X12_isOnWet : Cond.instanceMethod yX12_isOnWet ∈ TW ∧ Cond.selects (yX12_isOnWet).cls yX12_isOnWet yX12_isOnWet ∈ TW := ⟨tw_8 (j := 103) rfl rfl, tw_0 (j := 60) rfl rfl⟩
theorem vi_X12_lacks : Cond.instanceMethod yX12_lacks ∈ TW ∧ Cond.selects (yX12_lacks).cls yX12_lacks yX12_lacks ∈ TW := ⟨tw_9 (j := 43) rfl rfl, tw_0 (j := 75) rfl rfl⟩
theorem vi_X12_meetsCar : Cond.instanceMethod yX12_meetsCar ∈ TW ∧ Cond.selects (yX12_meetsCar).cls yX12_meetsCar yX12_meetsCar ∈ TW := ⟨tw_7 (j := 231) rfl rfl, tw_0 (j := 46) rfl rfl⟩
theorem vi_X12_meetsEaves : Cond.instanceMethod yX12_meetsEaves ∈ TW ∧ Cond.selects (yX12_meetsEaves).cls yX12_meetsEaves yX12_meetsEaves ∈ TW := ⟨tw_7 (j := 205) rfl rfl, tw_0 (j := 41) rfl rfl⟩
theorem vi_X12_meetsHouse : Cond.instanceMethod yX12_meetsHouse ∈ TW ∧ Cond.selects (yX12_meetsHouse).cls yX12_meetsHouse yX12_meetsHouse ∈ TW := ⟨tw_7 (j := 180) rfl rfl, tw_0 (j := 37) rfl rfl⟩
theorem vi_X12_meetsKerb : Cond.instanceMethod yX12_meetsKerb ∈ TW ∧ Cond.selects (yX12_meetsKerb).cls yX12_meetsKerb yX12_meetsKerb ∈ TW := ⟨tw_7 (j := 213) rfl rfl, tw_0 (j := 43) rfl rfl⟩
theorem vi_X12_meetsNow : Cond.instanceMethod yX12_meetsNow ∈ TW ∧ Cond.selects (yX12_meetsNow).cls yX12_meetsNow yX12_meetsNow ∈ TW := ⟨tw_7 (j := 176) rfl rfl, tw_0 (j := 36) rfl rfl⟩
theorem vi_X12_meetsWire : Cond.instanceMethod yX12_meetsWire ∈ TW ∧ Cond.selects (yX12_meetsWire).cls yX12_meetsWire yX12_meetsWire ∈ TW := ⟨tw_7 (j := 209) rfl rfl, tw_0 (j := 42) rfl rfl⟩
theorem vi_X12_needOf : Cond.instanceMethod yX12_needOf ∈ TW ∧ Cond.selects (yX12_needOf).cls yX12_needOf yX12_needOf ∈ TW := ⟨tw_8 (j := 111) rfl rfl, tw_0 (j := 61) rfl rfl⟩
theorem vi_X12_part : Cond.instanceMethod yX12_part ∈ TW ∧ Cond.selects (yX12_part).cls yX12_part yX12_part ∈ TW := ⟨tw_9 (j := 6) rfl rfl, tw_0 (j := 72) rfl rfl⟩
theorem vi_X12_pullOf : Cond.instanceMethod yX12_pullOf ∈ TW ∧ Cond.selects (yX12_pullOf).cls yX12_pullOf yX12_pullOf ∈ TW := ⟨tw_8 (j := 99) rfl rfl, tw_0 (j := 59) rfl rfl⟩
theorem vi_X12_ropeHeading : Cond.instanceMethod yX12_ropeHeading ∈ TW ∧ Cond.selects (yX12_ropeHeading).cls yX12_ropeHeading yX12_ropeHeading ∈ TW := ⟨tw_8 (j := 80) rfl rfl, tw_0 (j := 56) rfl rfl⟩
theorem vi_X12_ropeIs : Cond.instanceMethod yX12_ropeIs ∈ TW ∧ Cond.selects (yX12_ropeIs).cls yX12_ropeIs yX12_ropeIs ∈ TW := ⟨tw_8 (j := 76) rfl rfl, tw_0 (j := 55) rfl rfl⟩
theorem vi_X12_rosterOrNot : Cond.instanceMethod yX12_rosterOrNot ∈ TW ∧ Cond.selects (yX12_rosterOrNot).cls yX12_rosterOrNot yX12_rosterOrNot ∈ TW := ⟨tw_8 (j := 144) rfl rfl, tw_0 (j := 62) rfl rfl⟩
theorem vi_X12_rosters : Cond.instanceMethod yX12_rosters ∈ TW ∧ Cond.selects (yX12_rosters).cls yX12_rosters yX12_rosters ∈ TW := ⟨tw_8 (j := 148) rfl rfl, tw_0 (j := 63) rfl rfl⟩
theorem vi_X12_settles : Cond.instanceMethod yX12_settles ∈ TW ∧ Cond.selects (yX12_settles).cls yX12_settles yX12_settles ∈ TW := ⟨tw_7 (j := 235) rfl rfl, tw_0 (j := 47) rfl rfl⟩
theorem vi_X12_slopeAt : Cond.instanceMethod yX12_slopeAt ∈ TW ∧ Cond.selects (yX12_slopeAt).cls yX12_slopeAt yX12_slopeAt ∈ TW := ⟨tw_7 (j := 152) rfl rfl, tw_0 (j := 33) rfl rfl⟩
theorem vi_X12_slotOf : Cond.instanceMethod yX12_slotOf ∈ TW ∧ Cond.selects (yX12_slotOf).cls yX12_slotOf yX12_slotOf ∈ TW := ⟨tw_8 (j := 40) rfl rfl, tw_0 (j := 51) rfl rfl⟩
theorem vi_X12_standsNow : Cond.instanceMethod yX12_standsNow ∈ TW ∧ Cond.selects (yX12_standsNow).cls yX12_standsNow yX12_standsNow ∈ TW := ⟨tw_8 (j := 95) rfl rfl, tw_0 (j := 58) rfl rfl⟩
theorem vi_X12_tells : Cond.instanceMethod yX12_tells ∈ TW ∧ Cond.selects (yX12_tells).cls yX12_tells yX12_tells ∈ TW := ⟨tw_8 (j := 52) rfl rfl, tw_0 (j := 54) rfl rfl⟩
theorem vi_X12_touchesBox : Cond.instanceMethod yX12_touchesBox ∈ TW ∧ Cond.selects (yX12_touchesBox).cls yX12_touchesBox yX12_touchesBox ∈ TW := ⟨tw_7 (j := 184) rfl rfl, tw_0 (j := 38) rfl rfl⟩
theorem vi_X12_turns : Cond.instanceMethod yX12_turns ∈ TW ∧ Cond.selects (yX12_turns).cls yX12_turns yX12_turns ∈ TW := ⟨tw_8 (j := 194) rfl rfl, tw_0 (j := 67) rfl rfl⟩
theorem vi_X12_wheelX : Cond.instanceMethod yX12_wheelX ∈ TW ∧ Cond.selects (yX12_wheelX).cls yX12_wheelX yX12_wheelX ∈ TW := ⟨tw_7 (j := 217) rfl rfl, tw_0 (j := 44) rfl rfl⟩
theorem vi_X12_wheelY : Cond.instanceMethod yX12_wheelY ∈ TW ∧ Cond.selects (yX12_wheelY).cls yX12_wheelY yX12_wheelY ∈ TW := ⟨tw_7 (j := 227) rfl rfl, tw_0 (j := 45) rfl rfl⟩
theorem vi_X12_works : Cond.instanceMethod yX12_works ∈ TW ∧ Cond.selects (yX12_works).cls yX12_works yX12_works ∈ TW := ⟨tw_8 (j := 222) rfl rfl, tw_0 (j := 70) rfl rfl⟩
theorem vi_X1_acrossOf : Cond.instanceMethod yX1_acrossOf ∈ TW ∧ Cond.selects (yX1_acrossOf).cls yX1_acrossOf yX1_acrossOf ∈ TW := ⟨tw_3 (j := 203) rfl rfl, tw_0 (j := 2) rfl rfl⟩
theorem vi_X1_addStorey : Cond.instanceMethod yX1_addStorey ∈ TW ∧ Cond.selects (yX1_addStorey).cls yX1_addStorey yX1_addStorey ∈ TW := ⟨tw_3 (j := 138) rfl rfl, tw_3 (j := 139) rfl rfl⟩
theorem vi_X1_alongOf : Cond.instanceMethod yX1_alongOf ∈ TW ∧ Cond.selects (yX1_alongOf).cls yX1_alongOf yX1_alongOf ∈ TW := ⟨tw_3 (j := 199) rfl rfl, tw_0 (j := 1) rfl rfl⟩
theorem vi_X1_footOf : Cond.instanceMethod yX1_footOf ∈ TW ∧ Cond.selects (yX1_footOf).cls yX1_footOf yX1_footOf ∈ TW := ⟨tw_3 (j := 143) rfl rfl, tw_3 (j := 144) rfl rfl⟩
theorem vi_X1_heightOf : Cond.instanceMethod yX1_heightOf ∈ TW ∧ Cond.selects (yX1_heightOf).cls yX1_heightOf yX1_heightOf ∈ TW := ⟨tw_3 (j := 147) rfl rfl, tw_3 (j := 148) rfl rfl⟩
theorem vi_X1_isSlack : Cond.instanceMethod yX1_isSlack ∈ TW ∧ Cond.selects (yX1_isSlack).cls yX1_isSlack yX1_isSlack ∈ TW := ⟨tw_4 (j := 134) rfl rfl, tw_4 (j := 135) rfl rfl⟩
theorem vi_X1_layAt : Cond.instanceMethod yX1_layAt ∈ TW ∧ Cond.selects (yX1_layAt).cls yX1_layAt yX1_layAt ∈ TW := ⟨tw_3 (j := 159) rfl rfl, tw_3 (j := 160) rfl rfl⟩
theorem vi_X1_layRope : Cond.instanceMethod yX1_layRope ∈ TW ∧ Cond.selects (yX1_layRope).cls yX1_layRope yX1_layRope ∈ TW := ⟨tw_4 (j := 120) rfl rfl, tw_4 (j := 121) rfl rfl⟩
theorem vi_X1_ropeTurn : Cond.instanceMethod yX1_ropeTurn ∈ TW ∧ Cond.selects (yX1_ropeTurn).cls yX1_ropeTurn yX1_ropeTurn ∈ TW := ⟨tw_4 (j := 124) rfl rfl, tw_4 (j := 125) rfl rfl⟩
theorem vi_X1_standAt : Cond.instanceMethod yX1_standAt ∈ TW ∧ Cond.selects (yX1_standAt).cls yX1_standAt yX1_standAt ∈ TW := ⟨tw_3 (j := 229) rfl rfl, tw_3 (j := 230) rfl rfl⟩
theorem vi_X1_tell : Cond.instanceMethod yX1_tell ∈ TW ∧ Cond.selects (yX1_tell).cls yX1_tell yX1_tell ∈ TW := ⟨tw_4 (j := 2) rfl rfl, tw_4 (j := 3) rfl rfl⟩
theorem vi_X1_wheelX : Cond.instanceMethod yX1_wheelX ∈ TW ∧ Cond.selects (yX1_wheelX).cls yX1_wheelX yX1_wheelX ∈ TW := ⟨tw_3 (j := 194) rfl rfl, tw_3 (j := 195) rfl rfl⟩
theorem vi_X1_wheelY : Cond.instanceMethod yX1_wheelY ∈ TW ∧ Cond.selects (yX1_wheelY).cls yX1_wheelY yX1_wheelY ∈ TW := ⟨tw_3 (j := 206) rfl rfl, tw_3 (j := 207) rfl rfl⟩
theorem vi_X2_addCar : Cond.instanceMethod yX2_addCar ∈ TW ∧ Cond.selects (yX2_addCar).cls yX2_addCar yX2_addCar ∈ TW := ⟨tw_5 (j := 35) rfl rfl, tw_5 (j := 36) rfl rfl⟩
theorem vi_X2_clearCars : Cond.instanceMethod yX2_clearCars ∈ TW ∧ Cond.selects (yX2_clearCars).cls yX2_clearCars yX2_clearCars ∈ TW := ⟨tw_5 (j := 51) rfl rfl, tw_5 (j := 52) rfl rfl⟩
theorem vi_X2_enterBlock : Cond.instanceMethod yX2_enterBlock ∈ TW ∧ Cond.selects (yX2_enterBlock).cls yX2_enterBlock yX2_enterBlock ∈ TW := ⟨tw_5 (j := 72) rfl rfl, tw_0 (j := 18) rfl rfl⟩
theorem vi_X2_goneOf : Cond.instanceMethod yX2_goneOf ∈ TW ∧ Cond.selects (yX2_goneOf).cls yX2_goneOf yX2_goneOf ∈ TW := ⟨tw_5 (j := 59) rfl rfl, tw_5 (j := 60) rfl rfl⟩
theorem vi_X2_hasRoom : Cond.instanceMethod yX2_hasRoom ∈ TW ∧ Cond.selects (yX2_hasRoom).cls yX2_hasRoom yX2_hasRoom ∈ TW := ⟨tw_5 (j := 76) rfl rfl, tw_0 (j := 19) rfl rfl⟩
theorem vi_X2_hasStayed : Cond.instanceMethod yX2_hasStayed ∈ TW ∧ Cond.selects (yX2_hasStayed).cls yX2_hasStayed yX2_hasStayed ∈ TW := ⟨tw_5 (j := 80) rfl rfl, tw_0 (j := 20) rfl rfl⟩
theorem vi_X2_pass : Cond.instanceMethod yX2_pass ∈ TW ∧ Cond.selects (yX2_pass).cls yX2_pass yX2_pass ∈ TW := ⟨tw_5 (j := 68) rfl rfl, tw_0 (j := 17) rfl rfl⟩
theorem vi_X2_passTo : Cond.instanceMethod yX2_passTo ∈ TW ∧ Cond.selects (yX2_passTo).cls yX2_passTo yX2_passTo ∈ TW := ⟨tw_5 (j := 64) rfl rfl, tw_0 (j := 16) rfl rfl⟩
theorem vi_X2_placeOf : Cond.instanceMethod yX2_placeOf ∈ TW ∧ Cond.selects (yX2_placeOf).cls yX2_placeOf yX2_placeOf ∈ TW := ⟨tw_5 (j := 87) rfl rfl, tw_5 (j := 88) rfl rfl⟩
theorem vi_X2_stick : Cond.instanceMethod yX2_stick ∈ TW ∧ Cond.selects (yX2_stick).cls yX2_stick yX2_stick ∈ TW := ⟨tw_5 (j := 43) rfl rfl, tw_5 (j := 44) rfl rfl⟩
theorem vi_X2_tellBlock : Cond.instanceMethod yX2_tellBlock ∈ TW ∧ Cond.selects (yX2_tellBlock).cls yX2_tellBlock yX2_tellBlock ∈ TW := ⟨tw_5 (j := 26) rfl rfl, tw_5 (j := 27) rfl rfl⟩
theorem vi_X3_addCar : Cond.instanceMethod yX3_addCar ∈ TW ∧ Cond.selects (yX3_addCar).cls yX3_addCar yX3_addCar ∈ TW := ⟨tw_3 (j := 43) rfl rfl, tw_3 (j := 44) rfl rfl⟩
theorem vi_X3_aim : Cond.instanceMethod yX3_aim ∈ TW ∧ Cond.selects (yX3_aim).cls yX3_aim yX3_aim ∈ TW := ⟨tw_4 (j := 21) rfl rfl, tw_4 (j := 22) rfl rfl⟩
theorem vi_X3_carAt : Cond.instanceMethod yX3_carAt ∈ TW ∧ Cond.selects (yX3_carAt).cls yX3_carAt yX3_carAt ∈ TW := ⟨tw_3 (j := 134) rfl rfl, tw_3 (j := 135) rfl rfl⟩
theorem vi_X3_carMet : Cond.instanceMethod yX3_carMet ∈ TW ∧ Cond.selects (yX3_carMet).cls yX3_carMet yX3_carMet ∈ TW := ⟨tw_3 (j := 215) rfl rfl, tw_0 (j := 3) rfl rfl⟩
theorem vi_X3_carsThatStand : Cond.instanceMethod yX3_carsThatStand ∈ TW ∧ Cond.selects (yX3_carsThatStand).cls yX3_carsThatStand yX3_carsThatStand ∈ TW := ⟨tw_6 (j := 57) rfl rfl, tw_6 (j := 58) rfl rfl⟩
theorem vi_X3_drive : Cond.instanceMethod yX3_drive ∈ TW ∧ Cond.selects (yX3_drive).cls yX3_drive yX3_drive ∈ TW := ⟨tw_4 (j := 33) rfl rfl, tw_4 (j := 34) rfl rfl⟩
theorem vi_X3_fewestWoods : Cond.instanceMethod yX3_fewestWoods ∈ TW ∧ Cond.selects (yX3_fewestWoods).cls yX3_fewestWoods yX3_fewestWoods ∈ TW := ⟨tw_4 (j := 176) rfl rfl, tw_4 (j := 177) rfl rfl⟩
theorem vi_X3_firstMet : Cond.instanceMethod yX3_firstMet ∈ TW ∧ Cond.selects (yX3_firstMet).cls yX3_firstMet yX3_firstMet ∈ TW := ⟨tw_3 (j := 155) rfl rfl, tw_3 (j := 156) rfl rfl⟩
theorem vi_X3_houseBitten : Cond.instanceMethod yX3_houseBitten ∈ TW ∧ Cond.selects (yX3_houseBitten).cls yX3_houseBitten yX3_houseBitten ∈ TW := ⟨tw_4 (j := 116) rfl rfl, tw_4 (j := 117) rfl rfl⟩
theorem vi_X3_isWetUnder : Cond.instanceMethod yX3_isWetUnder ∈ TW ∧ Cond.selects (yX3_isWetUnder).cls yX3_isWetUnder yX3_isWetUnder ∈ TW := ⟨tw_4 (j := 147) rfl rfl, tw_0 (j := 9) rfl rfl⟩
theorem vi_X3_needOf : Cond.instanceMethod yX3_needOf ∈ TW ∧ Cond.selects (yX3_needOf).cls yX3_needOf yX3_needOf ∈ TW := ⟨tw_4 (j := 159) rfl rfl, tw_4 (j := 160) rfl rfl⟩
theorem vi_X3_pullOf : Cond.instanceMethod yX3_pullOf ∈ TW ∧ Cond.selects (yX3_pullOf).cls yX3_pullOf yX3_pullOf ∈ TW := ⟨tw_4 (j := 142) rfl rfl, tw_4 (j := 143) rfl rfl⟩
theorem vi_X3_tellNumber : Cond.instanceMethod yX3_tellNumber ∈ TW ∧ Cond.selects (yX3_tellNumber).cls yX3_tellNumber yX3_tellNumber ∈ TW := ⟨tw_4 (j := 108) rfl rfl, tw_4 (j := 109) rfl rfl⟩
theorem vi_X4_append : Cond.instanceMethod yX4_append ∈ TW ∧ Cond.selects (yX4_append).cls yX4_append yX4_append ∈ TW := ⟨tw_5 (j := 146) rfl rfl, tw_5 (j := 147) rfl rfl⟩
theorem vi_X4_byteAt : Cond.instanceMethod yX4_byteAt ∈ TW ∧ Cond.selects (yX4_byteAt).cls yX4_byteAt yX4_byteAt ∈ TW := ⟨tw_5 (j := 168) rfl rfl, tw_0 (j := 24) rfl rfl⟩
theorem vi_X4_carryOut : Cond.instanceMethod yX4_carryOut ∈ TW ∧ Cond.selects (yX4_carryOut).cls yX4_carryOut yX4_carryOut ∈ TW := ⟨tw_5 (j := 193) rfl rfl, tw_5 (j := 194) rfl rfl⟩
theorem vi_X4_clear : Cond.instanceMethod yX4_clear ∈ TW ∧ Cond.selects (yX4_clear).cls yX4_clear yX4_clear ∈ TW := ⟨tw_5 (j := 155) rfl rfl, tw_5 (j := 156) rfl rfl⟩
theorem vi_X4_faultPlace : Cond.instanceMethod yX4_faultPlace ∈ TW ∧ Cond.selects (yX4_faultPlace).cls yX4_faultPlace yX4_faultPlace ∈ TW := ⟨tw_5 (j := 163) rfl rfl, tw_5 (j := 164) rfl rfl⟩
theorem vi_X4_figuresAt : Cond.instanceMethod yX4_figuresAt ∈ TW ∧ Cond.selects (yX4_figuresAt).cls yX4_figuresAt yX4_figuresAt ∈ TW := ⟨tw_5 (j := 175) rfl rfl, tw_0 (j := 25) rfl rfl⟩
theorem vi_X4_isFigure : Cond.instanceMethod yX4_isFigure ∈ TW ∧ Cond.selects (yX4_isFigure).cls yX4_isFigure yX4_isFigure ∈ TW := ⟨tw_5 (j := 179) rfl rfl, tw_0 (j := 26) rfl rfl⟩
theorem vi_X4_numberAt : Cond.instanceMethod yX4_numberAt ∈ TW ∧ Cond.selects (yX4_numberAt).cls yX4_numberAt yX4_numberAt ∈ TW := ⟨tw_5 (j := 183) rfl rfl, tw_0 (j := 27) rfl rfl⟩
theorem vi_X4_otherDone : Cond.instanceMethod yX4_otherDone ∈ TW ∧ Cond.selects (yX4_otherDone).cls yX4_otherDone yX4_otherDone ∈ TW := ⟨tw_5 (j := 205) rfl rfl, tw_0 (j := 28) rfl rfl⟩
theorem vi_X5_lay : Cond.instanceMethod yX5_lay ∈ TW ∧ Cond.selects (yX5_lay).cls yX5_lay yX5_lay ∈ TW := ⟨tw_3 (j := 165) rfl rfl, tw_3 (j := 166) rfl rfl⟩
theorem vi_X5_liesApartFrom : Cond.instanceMethod yX5_liesApartFrom ∈ TW ∧ Cond.selects (yX5_liesApartFrom).cls yX5_liesApartFrom yX5_liesApartFrom ∈ TW := ⟨tw_3 (j := 223) rfl rfl, tw_3 (j := 224) rfl rfl⟩
theorem vi_X5_touchesBox : Cond.instanceMethod yX5_touchesBox ∈ TW ∧ Cond.selects (yX5_touchesBox).cls yX5_touchesBox yX5_touchesBox ∈ TW := ⟨tw_3 (j := 177) rfl rfl, tw_3 (j := 178) rfl rfl⟩
theorem vi_X6_buildHouses : Cond.instanceMethod yX6_buildHouses ∈ TW ∧ Cond.selects (yX6_buildHouses).cls yX6_buildHouses yX6_buildHouses ∈ TW := ⟨tw_6 (j := 44) rfl rfl, tw_6 (j := 45) rfl rfl⟩
theorem vi_X6_carryOver : Cond.instanceMethod yX6_carryOver ∈ TW ∧ Cond.selects (yX6_carryOver).cls yX6_carryOver yX6_carryOver ∈ TW := ⟨tw_6 (j := 28) rfl rfl, tw_6 (j := 29) rfl rfl⟩
theorem vi_X6_drop : Cond.instanceMethod yX6_drop ∈ TW ∧ Cond.selects (yX6_drop).cls yX6_drop yX6_drop ∈ TW := ⟨tw_5 (j := 232) rfl rfl, tw_5 (j := 233) rfl rfl⟩
theorem vi_X6_find : Cond.instanceMethod yX6_find ∈ TW ∧ Cond.selects (yX6_find).cls yX6_find yX6_find ∈ TW := ⟨tw_5 (j := 225) rfl rfl, tw_0 (j := 29) rfl rfl⟩
theorem vi_X6_hasItems : Cond.instanceMethod yX6_hasItems ∈ TW ∧ Cond.selects (yX6_hasItems).cls yX6_hasItems yX6_hasItems ∈ TW := ⟨tw_6 (j := 33) rfl rfl, tw_0 (j := 31) rfl rfl⟩
theorem vi_X6_read : Cond.instanceMethod yX6_read ∈ TW ∧ Cond.selects (yX6_read).cls yX6_read yX6_read ∈ TW := ⟨tw_6 (j := 19) rfl rfl, tw_6 (j := 20) rfl rfl⟩
theorem vi_X6_refusalOf : Cond.instanceMethod yX6_refusalOf ∈ TW ∧ Cond.selects (yX6_refusalOf).cls yX6_refusalOf yX6_refusalOf ∈ TW := ⟨tw_5 (j := 236) rfl rfl, tw_5 (j := 237) rfl rfl⟩
theorem vi_X6_refusalOfItem : Cond.instanceMethod yX6_refusalOfItem ∈ TW ∧ Cond.selects (yX6_refusalOfItem).cls yX6_refusalOfItem yX6_refusalOfItem ∈ TW := ⟨tw_6 (j := 9) rfl rfl, tw_0 (j := 30) rfl rfl⟩
theorem vi_X6_renew : Cond.instanceMethod yX6_renew ∈ TW ∧ Cond.selects (yX6_renew).cls yX6_renew yX6_renew ∈ TW := ⟨tw_5 (j := 213) rfl rfl, tw_5 (j := 214) rfl rfl⟩
theorem vi_X6_write : Cond.instanceMethod yX6_write ∈ TW ∧ Cond.selects (yX6_write).cls yX6_write yX6_write ∈ TW := ⟨tw_6 (j := 4) rfl rfl, tw_6 (j := 5) rfl rfl⟩
theorem vi_X7_addStage : Cond.instanceMethod yX7_addStage ∈ TW ∧ Cond.selects (yX7_addStage).cls yX7_addStage yX7_addStage ∈ TW := ⟨tw_4 (j := 198) rfl rfl, tw_4 (j := 199) rfl rfl⟩
theorem vi_X7_addTeam : Cond.instanceMethod yX7_addTeam ∈ TW ∧ Cond.selects (yX7_addTeam).cls yX7_addTeam yX7_addTeam ∈ TW := ⟨tw_4 (j := 189) rfl rfl, tw_4 (j := 190) rfl rfl⟩
theorem vi_X7_choose : Cond.instanceMethod yX7_choose ∈ TW ∧ Cond.selects (yX7_choose).cls yX7_choose yX7_choose ∈ TW := ⟨tw_5 (j := 9) rfl rfl, tw_0 (j := 15) rfl rfl⟩
theorem vi_X7_fewest : Cond.instanceMethod yX7_fewest ∈ TW ∧ Cond.selects (yX7_fewest).cls yX7_fewest yX7_fewest ∈ TW := ⟨tw_4 (j := 214) rfl rfl, tw_4 (j := 215) rfl rfl⟩
theorem vi_X7_fewestAt : Cond.instanceMethod yX7_fewestAt ∈ TW ∧ Cond.selects (yX7_fewestAt).cls yX7_fewestAt yX7_fewestAt ∈ TW := ⟨tw_4 (j := 224) rfl rfl, tw_0 (j := 11) rfl rfl⟩
theorem vi_X7_fewestWith : Cond.instanceMethod yX7_fewestWith ∈ TW ∧ Cond.selects (yX7_fewestWith).cls yX7_fewestWith yX7_fewestWith ∈ TW := ⟨tw_4 (j := 228) rfl rfl, tw_0 (j := 12) rfl rfl⟩
theorem vi_X7_handsOf : Cond.instanceMethod yX7_handsOf ∈ TW ∧ Cond.selects (yX7_handsOf).cls yX7_handsOf yX7_handsOf ∈ TW := ⟨tw_4 (j := 236) rfl rfl, tw_0 (j := 14) rfl rfl⟩
theorem vi_X7_reckon : Cond.instanceMethod yX7_reckon ∈ TW ∧ Cond.selects (yX7_reckon).cls yX7_reckon yX7_reckon ∈ TW := ⟨tw_4 (j := 219) rfl rfl, tw_0 (j := 10) rfl rfl⟩
theorem vi_X7_stateBehind : Cond.instanceMethod yX7_stateBehind ∈ TW ∧ Cond.selects (yX7_stateBehind).cls yX7_stateBehind yX7_stateBehind ∈ TW := ⟨tw_4 (j := 232) rfl rfl, tw_0 (j := 13) rfl rfl⟩
theorem vi_X7_teamsOf : Cond.instanceMethod yX7_teamsOf ∈ TW ∧ Cond.selects (yX7_teamsOf).cls yX7_teamsOf yX7_teamsOf ∈ TW := ⟨tw_5 (j := 17) rfl rfl, tw_5 (j := 18) rfl rfl⟩
theorem vi_X7_tellRun : Cond.instanceMethod yX7_tellRun ∈ TW ∧ Cond.selects (yX7_tellRun).cls yX7_tellRun yX7_tellRun ∈ TW := ⟨tw_4 (j := 206) rfl rfl, tw_4 (j := 207) rfl rfl⟩
theorem vi_X8_addHouse : Cond.instanceMethod yX8_addHouse ∈ TW ∧ Cond.selects (yX8_addHouse).cls yX8_addHouse yX8_addHouse ∈ TW := ⟨tw_2 (j := 170) rfl rfl, tw_2 (j := 171) rfl rfl⟩
theorem vi_X8_addKerb : Cond.instanceMethod yX8_addKerb ∈ TW ∧ Cond.selects (yX8_addKerb).cls yX8_addKerb yX8_addKerb ∈ TW := ⟨tw_2 (j := 212) rfl rfl, tw_2 (j := 213) rfl rfl⟩
theorem vi_X8_addSlope : Cond.instanceMethod yX8_addSlope ∈ TW ∧ Cond.selects (yX8_addSlope).cls yX8_addSlope yX8_addSlope ∈ TW := ⟨tw_2 (j := 236) rfl rfl, tw_2 (j := 237) rfl rfl⟩
theorem vi_X8_addWire : Cond.instanceMethod yX8_addWire ∈ TW ∧ Cond.selects (yX8_addWire).cls yX8_addWire yX8_addWire ∈ TW := ⟨tw_2 (j := 220) rfl rfl, tw_2 (j := 221) rfl rfl⟩
theorem vi_X8_cutEaves : Cond.instanceMethod yX8_cutEaves ∈ TW ∧ Cond.selects (yX8_cutEaves).cls yX8_cutEaves yX8_cutEaves ∈ TW := ⟨tw_2 (j := 204) rfl rfl, tw_2 (j := 205) rfl rfl⟩
theorem vi_X8_eavesMet : Cond.instanceMethod yX8_eavesMet ∈ TW ∧ Cond.selects (yX8_eavesMet).cls yX8_eavesMet yX8_eavesMet ∈ TW := ⟨tw_3 (j := 181) rfl rfl, tw_3 (j := 182) rfl rfl⟩
theorem vi_X8_houseMet : Cond.instanceMethod yX8_houseMet ∈ TW ∧ Cond.selects (yX8_houseMet).cls yX8_houseMet yX8_houseMet ∈ TW := ⟨tw_3 (j := 172) rfl rfl, tw_3 (j := 173) rfl rfl⟩
theorem vi_X8_houseOnLine : Cond.instanceMethod yX8_houseOnLine ∈ TW ∧ Cond.selects (yX8_houseOnLine).cls yX8_houseOnLine yX8_houseOnLine ∈ TW := ⟨tw_4 (j := 130) rfl rfl, tw_4 (j := 131) rfl rfl⟩
theorem vi_X8_isSlope : Cond.instanceMethod yX8_isSlope ∈ TW ∧ Cond.selects (yX8_isSlope).cls yX8_isSlope yX8_isSlope ∈ TW := ⟨tw_3 (j := 28) rfl rfl, tw_0 (j := 0) rfl rfl⟩
theorem vi_X8_isWet : Cond.instanceMethod yX8_isWet ∈ TW ∧ Cond.selects (yX8_isWet).cls yX8_isWet yX8_isWet ∈ TW := ⟨tw_3 (j := 35) rfl rfl, tw_3 (j := 36) rfl rfl⟩
theorem vi_X8_kerbMet : Cond.instanceMethod yX8_kerbMet ∈ TW ∧ Cond.selects (yX8_kerbMet).cls yX8_kerbMet yX8_kerbMet ∈ TW := ⟨tw_3 (j := 190) rfl rfl, tw_3 (j := 191) rfl rfl⟩
theorem vi_X8_lower : Cond.instanceMethod yX8_lower ∈ TW ∧ Cond.selects (yX8_lower).cls yX8_lower yX8_lower ∈ TW := ⟨tw_2 (j := 228) rfl rfl, tw_2 (j := 229) rfl rfl⟩
theorem vi_X8_riseXOf : Cond.instanceMethod yX8_riseXOf ∈ TW ∧ Cond.selects (yX8_riseXOf).cls yX8_riseXOf yX8_riseXOf ∈ TW := ⟨tw_3 (j := 23) rfl rfl, tw_3 (j := 24) rfl rfl⟩
theorem vi_X8_riseYOf : Cond.instanceMethod yX8_riseYOf ∈ TW ∧ Cond.selects (yX8_riseYOf).cls yX8_riseYOf yX8_riseYOf ∈ TW := ⟨tw_3 (j := 31) rfl rfl, tw_3 (j := 32) rfl rfl⟩
theorem vi_X8_slopeAt : Cond.instanceMethod yX8_slopeAt ∈ TW ∧ Cond.selects (yX8_slopeAt).cls yX8_slopeAt yX8_slopeAt ∈ TW := ⟨tw_3 (j := 14) rfl rfl, tw_3 (j := 15) rfl rfl⟩
theorem vi_X8_wetAll : Cond.instanceMethod yX8_wetAll ∈ TW ∧ Cond.selects (yX8_wetAll).cls yX8_wetAll yX8_wetAll ∈ TW := ⟨tw_3 (j := 4) rfl rfl, tw_3 (j := 5) rfl rfl⟩
theorem vi_X8_wireMet : Cond.instanceMethod yX8_wireMet ∈ TW ∧ Cond.selects (yX8_wireMet).cls yX8_wireMet yX8_wireMet ∈ TW := ⟨tw_3 (j := 186) rfl rfl, tw_3 (j := 187) rfl rfl⟩
theorem vi_X8_wiresThatHang : Cond.instanceMethod yX8_wiresThatHang ∈ TW ∧ Cond.selects (yX8_wiresThatHang).cls yX8_wiresThatHang yX8_wiresThatHang ∈ TW := ⟨tw_6 (j := 53) rfl rfl, tw_6 (j := 54) rfl rfl⟩
theorem vi_X9_addTask : Cond.instanceMethod yX9_addTask ∈ TW ∧ Cond.selects (yX9_addTask).cls yX9_addTask yX9_addTask ∈ TW := ⟨tw_5 (j := 95) rfl rfl, tw_5 (j := 96) rfl rfl⟩
theorem vi_X9_firstFree : Cond.instanceMethod yX9_firstFree ∈ TW ∧ Cond.selects (yX9_firstFree).cls yX9_firstFree yX9_firstFree ∈ TW := ⟨tw_5 (j := 126) rfl rfl, tw_0 (j := 23) rfl rfl⟩
theorem vi_X9_greatestLate : Cond.instanceMethod yX9_greatestLate ∈ TW ∧ Cond.selects (yX9_greatestLate).cls yX9_greatestLate yX9_greatestLate ∈ TW := ⟨tw_5 (j := 133) rfl rfl, tw_5 (j := 134) rfl rfl⟩
theorem vi_X9_howManyLate : Cond.instanceMethod yX9_howManyLate ∈ TW ∧ Cond.selects (yX9_howManyLate).cls yX9_howManyLate yX9_howManyLate ∈ TW := ⟨tw_5 (j := 138) rfl rfl, tw_5 (j := 139) rfl rfl⟩
theorem vi_X9_lateOf : Cond.instanceMethod yX9_lateOf ∈ TW ∧ Cond.selects (yX9_lateOf).cls yX9_lateOf yX9_lateOf ∈ TW := ⟨tw_5 (j := 112) rfl rfl, tw_5 (j := 113) rfl rfl⟩
theorem vi_X9_nextTask : Cond.instanceMethod yX9_nextTask ∈ TW ∧ Cond.selects (yX9_nextTask).cls yX9_nextTask yX9_nextTask ∈ TW := ⟨tw_5 (j := 122) rfl rfl, tw_0 (j := 22) rfl rfl⟩
theorem vi_X9_share : Cond.instanceMethod yX9_share ∈ TW ∧ Cond.selects (yX9_share).cls yX9_share yX9_share ∈ TW := ⟨tw_5 (j := 117) rfl rfl, tw_0 (j := 21) rfl rfl⟩
theorem vi_X9_tellCrews : Cond.instanceMethod yX9_tellCrews ∈ TW ∧ Cond.selects (yX9_tellCrews).cls yX9_tellCrews yX9_tellCrews ∈ TW := ⟨tw_5 (j := 104) rfl rfl, tw_5 (j := 105) rfl rfl⟩
theorem vi_obj : Cond.instanceMethod objectInit ∈ TW := tw_1 (j := 24) rfl rfl
