/-! ===== a standing packed; its bucket; its slot ===== -/
theorem and_mask (n k : Nat) (hn : n < 2 ^ 31) (m : Int32) (hm : m.toBitVec.toNat = 2 ^ k - 1) : nI n &&& m = nI (n % 2 ^ k) := by
  apply Int32.toBitVec_inj.mp
  apply BitVec.eq_of_toNat_eq
  rw [Int32.toBitVec_and, BitVec.toNat_and, hm]
  have e : ∀ a : Nat, a < 2 ^ 31 → (nI a).toBitVec.toNat = a := fun a ha => by
    show (BitVec.ofNat 32 a).toNat = a
    rw [BitVec.toNat_ofNat]
    exact Nat.mod_eq_of_lt (by omega)
  rw [e n hn, e _ (Nat.lt_of_le_of_lt (Nat.mod_le _ _) hn)]
  exact Nat.and_two_pow_sub_one_eq_mod n k
theorem and4095 (a : Int32) : ∃ s, s < 4096 ∧ a &&& 4095 = nI s := by
  refine ⟨a.toBitVec.toNat &&& 4095, Nat.lt_succ_of_le Nat.and_le_right, ?_⟩
  apply Int32.toBitVec_inj.mp
  apply BitVec.eq_of_toNat_eq
  rw [Int32.toBitVec_and, BitVec.toNat_and]
  show a.toBitVec.toNat &&& 4095 = (BitVec.ofNat 32 (a.toBitVec.toNat &&& 4095)).toNat
  rw [BitVec.toNat_ofNat]
  have : a.toBitVec.toNat &&& 4095 ≤ 4095 := Nat.and_le_right
  exact (Nat.mod_eq_of_lt (by omega)).symm
theorem next4095 {s : Nat} (h : s < 4096) : (nI s + 1) &&& 4095 = nI ((s + 1) % 4096) := by
  rw [nI_1]
  exact and_mask (s + 1) 12 (by omega) 4095 (by decide)
theorem ushr22 (x : Int32) : ∃ b, b < 1024 ∧ (x.toUInt32 >>> ((22 : Int32).toUInt32 &&& Int32.toUInt32 31)).toInt32 = nI b := by
  have c : ((22 : Int32).toUInt32 &&& Int32.toUInt32 31).toNat % 32 = 22 := by decide
  refine ⟨(x.toUInt32 >>> ((22 : Int32).toUInt32 &&& Int32.toUInt32 31)).toNat, ?_, ?_⟩
  · rw [UInt32.toNat_shiftRight, c, Nat.shiftRight_eq_div_pow]
    have := x.toUInt32.toNat_lt
    omega
  · apply Int32.toBitVec_inj.mp
    apply BitVec.eq_of_toNat_eq
    show _ = (BitVec.ofNat 32 _).toNat
    rw [BitVec.toNat_ofNat]
    have := (x.toUInt32 >>> ((22 : Int32).toUInt32 &&& Int32.toUInt32 31)).toNat_lt
    rw [Nat.mod_eq_of_lt this]
    rfl
theorem bucket_k (s : Int64) : ∃ b, b < 1024 ∧ f_X10_bucketOf s = nI b := by
  unfold f_X10_bucketOf
  exact ushr22 _
theorem shl_mul (a : Int64) : a <<< ((23 : Int32).toInt64 &&& 63) = a * 8388608 ∧ a <<< ((6 : Int32).toInt64 &&& 63) = a * 64 := by
  have c1 : (((23 : Int32).toInt64 &&& 63).toBitVec.smod 64).toNat = 23 := by decide
  have c2 : (((6 : Int32).toInt64 &&& 63).toBitVec.smod 64).toNat = 6 := by decide
  constructor
  · apply Int64.toBitVec_inj.mp
    rw [Int64.toBitVec_shiftLeft, Int64.toBitVec_mul, BitVec.shiftLeft_eq', c1, BitVec.shiftLeft_eq_mul_twoPow]
    congr 1
  · apply Int64.toBitVec_inj.mp
    rw [Int64.toBitVec_shiftLeft, Int64.toBitVec_mul, BitVec.shiftLeft_eq', c2, BitVec.shiftLeft_eq_mul_twoPow]
    congr 1
/-- an int64 that is no less than 0, by its number -/
theorem nn64 {a : Int64} {n : Nat} (h : a.toInt = n) : a.toBitVec.toNat = n := by
  have e : a.toInt = a.toBitVec.toInt := rfl
  rw [e, BitVec.toInt_eq_toNat_cond] at h
  have := a.toBitVec.isLt
  by_cases c : 2 * a.toBitVec.toNat < 2 ^ 64
  · rw [if_pos c] at h; omega
  · rw [if_neg c] at h; omega
theorem to64 {a : Int64} {n : Nat} (h : a.toBitVec.toNat = n) (hn : n < 2 ^ 63) : a.toInt = n := by
  have e : a.toInt = a.toBitVec.toInt := rfl
  rw [e, BitVec.toInt_eq_toNat_cond, h, if_pos (by omega)]
theorem neg_or {a b : Int64} (h : a.toInt < 0 ∨ b.toInt < 0) : (a ||| b).toInt < 0 := by
  have e : ∀ x : Int64, x.toInt < 0 ↔ x.toBitVec.msb = true := fun x => by
    rw [BitVec.msb_eq_toInt]
    exact (decide_eq_true_iff).symm
  rw [e, Int64.toBitVec_or, BitVec.msb_or]
  rcases h with h | h
  · rw [(e a).mp h]; rfl
  · rw [(e b).mp h, Bool.or_true]
/-- what a standing is packed into -/
theorem pack {x y h : Int32} (hx : bt (-60000) 60000 x) (hy : bt (-60000) 60000 y) (hh : bt 0 35 h) :
    (0 ≤ x.toInt + 40000 ∧ 0 ≤ y.toInt + 40000 → (f_X10_standingOf x y h).toInt = (x.toInt + 40000) * 8388608 + (y.toInt + 40000) * 64 + h.toInt) ∧
    (x.toInt + 40000 < 0 ∨ y.toInt + 40000 < 0 → (f_X10_standingOf x y h).toInt < 0) := by
  have k4 : V (40000 : Int32) 40000 40000 := V.lit (by decide)
  have vx := V6.of ((V.of (M := 60000) hx (by decide) (by decide)).add k4 (by decide))
  have vy := V6.of ((V.of (M := 60000) hy (by decide) (by decide)).add k4 (by decide))
  have vh := V6.of (V.of (M := 35) hh (by decide) (by decide))
  have p1 := vx.mul (V6.lit (a := 8388608) (z := 8388608) (M := 8388608) (by decide) (by decide)) (by decide)
  have p2 := vy.mul (V6.lit (a := 64) (z := 64) (M := 64) (by decide) (by decide)) (by decide)
  have h1 := hx.2
  have h2 := hy.2
  have h3 := hh.1
  have h4 := hh.2
  unfold f_X10_standingOf
  rw [(shl_mul _).1, (shl_mul _).2]
  refine ⟨fun ⟨a0, b0⟩ => ?_, fun hn => ?_⟩
  · obtain ⟨A, eA⟩ : ∃ A : Nat, x.toInt + 40000 = A := ⟨(x.toInt + 40000).toNat, by omega⟩
    obtain ⟨B, eB⟩ : ∃ B : Nat, y.toInt + 40000 = B := ⟨(y.toInt + 40000).toNat, by omega⟩
    obtain ⟨C, eC⟩ : ∃ C : Nat, h.toInt = C := ⟨h.toInt.toNat, by omega⟩
    have q1 := p1.1
    have q2 := p2.1
    have q3 := vh.1
    rw [eA] at q1
    rw [eB] at q2
    rw [eC] at q3
    have n1 := nn64 (n := A * 8388608) (by rw [q1]; omega)
    have n2 := nn64 (n := B * 64) (by rw [q2]; omega)
    have n3 := nn64 (n := C) q3
    rw [eA, eB, eC]
    have r : ((((x + 40000).toInt64 * 8388608) ||| ((y + 40000).toInt64 * 64)) ||| h.toInt64).toBitVec.toNat = A * 8388608 + B * 64 + C := by
      rw [Int64.toBitVec_or, Int64.toBitVec_or, BitVec.toNat_or, BitVec.toNat_or, n1, n2, n3]
      have e1 : A * 8388608 ||| B * 64 = A * 8388608 + B * 64 := by
        have := Nat.shiftLeft_add_eq_or_of_lt (i := 23) (b := B * 64) (by omega) A
        rw [Nat.shiftLeft_eq] at this
        exact this.symm
      have e2 : (A * 131072 + B) * 64 ||| C = (A * 131072 + B) * 64 + C := by
        have := Nat.shiftLeft_add_eq_or_of_lt (i := 6) (b := C) (by omega) (A * 131072 + B)
        rw [Nat.shiftLeft_eq] at this
        exact this.symm
      rw [e1, show A * 8388608 + B * 64 = (A * 131072 + B) * 64 by omega, e2]
    rw [to64 r (by omega)]
    omega
  · apply neg_or
    refine Or.inl (neg_or ?_)
    rw [p1.1, p2.1]
    omega
theorem pack_in {x y h : Int32} (hx : bt (-40000) 40000 x) (hy : bt (-40000) 40000 y) (hh : bt 0 35 h) : (f_X10_standingOf x y h).toInt = (x.toInt + 40000) * 8388608 + (y.toInt + 40000) * 64 + h.toInt :=
  (pack (bt_w hx (by decide) (by decide)) (bt_w hy (by decide) (by decide)) hh).1 ⟨by have := hx.1; omega, by have := hy.1; omega⟩
theorem pack_inj {x y h a b c : Int32} (hx : bt (-60000) 60000 x) (hy : bt (-60000) 60000 y) (hh : bt 0 35 h) (ha : bt (-40000) 40000 a) (hb : bt (-40000) 40000 b) (hc : bt 0 35 c) : f_X10_standingOf a b c = f_X10_standingOf x y h ↔ a = x ∧ b = y ∧ c = h := by
  refine ⟨fun e => ?_, fun e => by rw [e.1, e.2.1, e.2.2]⟩
  have i := pack_in ha hb hc
  obtain ⟨p, q⟩ := pack hx hy hh
  rw [e] at i
  have a1 := ha.1
  have a2 := ha.2
  have b1 := hb.1
  have b2 := hb.2
  have c1 := hc.1
  have c2 := hc.2
  have x2 := hx.2
  have y2 := hy.2
  have h1 := hh.1
  have h2 := hh.2
  by_cases k : x.toInt + 40000 < 0 ∨ y.toInt + 40000 < 0
  · have := q k
    omega
  · have j := p (by omega)
    rw [i] at j
    refine ⟨Int32.toInt_inj.mp ?_, Int32.toInt_inj.mp ?_, Int32.toInt_inj.mp ?_⟩
    · omega
    · omega
    · omega
theorem shr64 {a : Int64} {n : Nat} (h : a.toInt = n) : (a >>> ((23 : Int32).toInt64 &&& 63)).toInt = n / 8388608 ∧ (a >>> ((6 : Int32).toInt64 &&& 63)).toInt = n / 64 := by
  have c1 : (((23 : Int32).toInt64 &&& 63).toBitVec.smod 64).toNat = 23 := by decide
  have c2 : (((6 : Int32).toInt64 &&& 63).toBitVec.smod 64).toNat = 6 := by decide
  have e : ∀ x : Int64, x.toInt = x.toBitVec.toInt := fun _ => rfl
  constructor
  · rw [e, Int64.toBitVec_shiftRight, BitVec.sshiftRight_eq', c1, BitVec.toInt_sshiftRight, ← e, h, Int.shiftRight_eq_div_pow]
    rfl
  · rw [e, Int64.toBitVec_shiftRight, BitVec.sshiftRight_eq', c2, BitVec.toInt_sshiftRight, ← e, h, Int.shiftRight_eq_div_pow]
    rfl
theorem and64 {a m : Int64} {n k : Nat} (h : a.toInt = n) (hm : m.toBitVec.toNat = 2 ^ k - 1) (hk : k < 60) (hn : n < 2 ^ 62) : (a &&& m).toInt = ((n % 2 ^ k : Nat) : Int) := by
  refine to64 ?_ ?_
  · rw [Int64.toBitVec_and, BitVec.toNat_and, nn64 h, hm]
    exact Nat.and_two_pow_sub_one_eq_mod n k
  · exact Nat.lt_of_le_of_lt (Nat.mod_le _ _) (by omega)
/-- the class reads its standings back -/
theorem unpack {x y h : Int32} (hx : bt (-40000) 40000 x) (hy : bt (-40000) 40000 y) (hh : bt 0 35 h) :
    ((f_X10_standingOf x y h >>> ((23 : Int32).toInt64 &&& 63)).toInt32 - 40000 = x) ∧ (((f_X10_standingOf x y h >>> ((6 : Int32).toInt64 &&& 63)) &&& 131071).toInt32 - 40000 = y) ∧ (f_X10_standingOf x y h &&& 63).toInt32 = h := by
  have i := pack_in hx hy hh
  have a1 := hx.1
  have a2 := hx.2
  have b1 := hy.1
  have b2 := hy.2
  have c1 := hh.1
  have c2 := hh.2
  obtain ⟨A, eA⟩ : ∃ A : Nat, x.toInt + 40000 = A := ⟨(x.toInt + 40000).toNat, by omega⟩
  obtain ⟨B, eB⟩ : ∃ B : Nat, y.toInt + 40000 = B := ⟨(y.toInt + 40000).toNat, by omega⟩
  obtain ⟨C, eC⟩ : ∃ C : Nat, h.toInt = C := ⟨h.toInt.toNat, by omega⟩
  rw [eA, eB, eC] at i
  have i' : (f_X10_standingOf x y h).toInt = ((A * 8388608 + B * 64 + C : Nat) : Int) := by rw [i]; omega
  obtain ⟨s1, s2⟩ := shr64 i'
  have k4 : V (40000 : Int32) 40000 40000 := V.lit (by decide)
  refine ⟨?_, ?_, ?_⟩
  · have v1 : V6 (f_X10_standingOf x y h >>> ((23 : Int32).toInt64 &&& 63)) (A : Int) 80000 := ⟨by rw [s1]; omega, by omega⟩
    have v2 := (v1.i (by decide)).sub k4 (by decide)
    apply Int32.toInt_inj.mp
    rw [v2.1]; omega
  · have s2' : (f_X10_standingOf x y h >>> ((6 : Int32).toInt64 &&& 63)).toInt = ((A * 131072 + B : Nat) : Int) := by rw [s2]; omega
    have s3 := and64 (k := 17) s2' (show (131071 : Int64).toBitVec.toNat = 2 ^ 17 - 1 by decide) (by decide) (by omega)
    have v1 : V6 ((f_X10_standingOf x y h >>> ((6 : Int32).toInt64 &&& 63)) &&& 131071) (B : Int) 80000 := ⟨by rw [s3]; omega, by omega⟩
    have v2 := (v1.i (by decide)).sub k4 (by decide)
    apply Int32.toInt_inj.mp
    rw [v2.1]; omega
  · have s3 := and64 (k := 6) i' (show (63 : Int64).toBitVec.toNat = 2 ^ 6 - 1 by decide) (by decide) (by omega)
    have v1 : V6 (f_X10_standingOf x y h &&& 63) (C : Int) 35 := ⟨by rw [s3]; omega, by omega⟩
    apply Int32.toInt_inj.mp
    rw [(v1.i (by decide)).1, eC]
theorem shr4 {f m : Nat} (hm : m < 16) (hf : f < 100000) : nI (16 * f + m) >>> ((4 : Int32) &&& 31) = nI f ∧ nI (16 * f + m) &&& 15 = nI m := by
  have c1 : (((4 : Int32) &&& 31).toBitVec.smod 32).toNat = 4 := by decide
  constructor
  · apply Int32.toInt_inj.mp
    have e : ∀ x : Int32, x.toInt = x.toBitVec.toInt := fun _ => rfl
    rw [e, Int32.toBitVec_shiftRight, BitVec.sshiftRight_eq', c1, BitVec.toInt_sshiftRight, ← e, nI_toInt (by omega), nI_toInt (by omega), Int.shiftRight_eq_div_pow]
    show ((16 * f + m : Nat) : Int) / 16 = f
    omega
  · have := and_mask (16 * f + m) 4 (by omega) 15 (by decide)
    rw [this, show (16 * f + m) % 2 ^ 4 = m by omega]
