/-! ===== PURE: no bytecode any more. Worlds read and written; areas ===== -/
theorem wS_sJ {w : Wd} {k j a b : Nat} {v : Int64} : wS (sJ w k j v) a b = wS w a b := rfl
theorem wL_sI {w : Wd} {k j a b : Nat} {v : Int32} : wL (sI w k j v) a b = wL w a b := rfl
theorem wA_sI {w : Wd} {k j a : Nat} {v : Int32} : wA (sI w k j v) a = wA w a := rfl
theorem wA_sJ {w : Wd} {k j a : Nat} {v : Int64} : wA (sJ w k j v) a = wA w a := rfl
theorem wS_sR {w : Wd} {k a j : Nat} : wS (sR w k) a j = wS w a j := rfl
theorem wL_sR {w : Wd} {k a j : Nat} : wL (sR w k) a j = wL w a j := rfl
theorem in_eq : f_X12_in = f_X11_within := rfl
theorem isBox_eq : f_X12_isBox = f_X11_isBox := rfl
theorem bnd {i n : Nat} (h : i < n) (hn : n < 2 ^ 31) : ¬ (nI i < 0 ∨ n ≤ (nI i).toNatClampNeg) := nI_in h hn
section QV
variable {β : Type} {w : Wd} {k n i : Nat}
theorem ld_n {K : Int32 → Option β} (h : i < n) (hn : n < 2 ^ 31) : q_ld w k n (nI i) K = K (wS w k i) := by
  unfold q_ld; rw [if_neg (bnd h hn), nI_clamp (by omega)]
theorem ldl_n {K : Int64 → Option β} (h : i < n) (hn : n < 2 ^ 31) : q_ldl w k n (nI i) K = K (wL w k i) := by
  unfold q_ldl; rw [if_neg (bnd h hn), nI_clamp (by omega)]
theorem ldq_n {K : Nat → Option β} (h : i < n) (hn : n < 2 ^ 31) (hs : wS w k i ≠ 0) : q_ldq w k n (nI i) K = K (rt k i) := by
  unfold q_ldq; rw [if_neg (bnd h hn), nI_clamp (by omega), if_neg hs]
theorem st_n {x : Int32} {K : Wd → Option β} (h : i < n) (hn : n < 2 ^ 31) : q_st w k n (nI i) x K = K (sI w k i x) := by
  unfold q_st; rw [if_neg (bnd h hn), nI_clamp (by omega)]
theorem sz_n {x : Int32} {K : Wd → Option β} (h : i < n) (hn : n < 2 ^ 31) : q_sz w k n (nI i) x K = K (sI w k i (vp_nar .boolean x)) := by
  unfold q_sz; rw [if_neg (bnd h hn), nI_clamp (by omega)]
theorem sl_n {x : Int64} {K : Wd → Option β} (h : i < n) (hn : n < 2 ^ 31) : q_sl w k n (nI i) x K = K (sJ w k i x) := by
  unfold q_sl; rw [if_neg (bnd h hn), nI_clamp (by omega)]
theorem bo_k {α : Type} {o : Option α} {K : α → Option β} {a : α} (h : o = some a) : q_bo o K = K a := by rw [h]; rfl
theorem bi_k {α : Type} {o : Option (α × Wd)} {K : α → Wd → Option β} {a : α} {w' : Wd} (h : o = some (a, w')) : q_bi o K = K a w' := by rw [h]; rfl
theorem bo_v {α : Type} {K : α → Option β} {a : α} : q_bo (some a) K = K a := rfl
theorem bi_v {α : Type} {K : α → Wd → Option β} {a : α} {w' : Wd} : q_bi (some (a, w')) K = K a w' := rfl
theorem nw_k {c : Nat × Nat} {K : Wd → Option β} (h : wA w k = 0) (hk : kt k = c) : q_nw w k c n K = K (sN w k n) := by
  unfold q_nw; rw [if_pos ⟨h, hk⟩]
theorem ck_k {K : Option β} (h : wA w k = n) : q_ck w k n K = K := by
  unfold q_ck; rw [if_pos h]
end QV
theorem win_t {a lo hi : Int32} (h1 : lo ≤ a) (h2 : a ≤ hi) : f_X11_within a lo hi = 1 := by
  unfold f_X11_within
  rw [if_neg (Int32.not_lt.mpr h1), if_neg (Int32.not_lt.mpr h2)]
theorem win_f {a lo hi : Int32} (h : a < lo ∨ hi < a) : f_X11_within a lo hi = 0 := by
  unfold f_X11_within
  rcases h with h | h
  · rw [if_pos h]
  · rw [if_pos h]; simp
/-- in bounds or not: then also by its number -/
theorem win_c (a lo hi : Int32) : f_X11_within a lo hi = 0 ∨ (f_X11_within a lo hi = 1 ∧ lo ≤ a ∧ a ≤ hi) := by
  unfold f_X11_within
  by_cases h : a < lo
  · rw [if_pos h]; exact Or.inl rfl
  · rw [if_neg h]
    by_cases h2 : hi < a
    · rw [if_pos h2]; exact Or.inl rfl
    · rw [if_neg h2]; exact Or.inr ⟨rfl, Int32.not_lt.mp h, Int32.not_lt.mp h2⟩
theorem nI_ex {a : Int32} {n : Nat} (h : 0 ≤ a) (h2 : a < nI n) (hn : n < 2 ^ 31) : ∃ i, i < n ∧ a = nI i := by
  rw [Int32.le_iff_toInt_le] at h
  rw [Int32.lt_iff_toInt_lt, nI_toInt hn] at h2
  have h0 : (0 : Int32).toInt = 0 := by decide
  rw [h0] at h
  refine ⟨a.toInt.toNat, by omega, ?_⟩
  apply Int32.toInt_inj.mp
  rw [nI_toInt (by omega)]
  omega
theorem sub1 {n : Nat} {a : Int32} (hn : n < 2 ^ 31) : a ≤ nI n - 1 ↔ a < nI n := by
  rw [Int32.le_iff_toInt_le, Int32.lt_iff_toInt_lt, nI_toInt hn]
  have e : (nI n - 1).toInt = (n : Int) - 1 := by
    rw [Int32.toInt_sub, nI_toInt hn]
    show ((n : Int) - 1).bmod (2 ^ 32) = _
    exact Int.bmod_eq_of_le (by omega) (by omega)
  rw [e]; omega
/-- a number that must lie below a count -/
theorem win_n (a : Int32) {n : Nat} (hn : n < 2 ^ 31) : f_X11_within a 0 (nI n - 1) = 0 ∨ (f_X11_within a 0 (nI n - 1) = 1 ∧ ∃ i, i < n ∧ a = nI i) := by
  rcases win_c a 0 (nI n - 1) with h | ⟨h, h1, h2⟩
  · exact Or.inl h
  · exact Or.inr ⟨h, nI_ex h1 ((sub1 hn).mp h2) hn⟩
theorem win_v {i n : Nat} (h : i < n) (hn : n < 2 ^ 31) : f_X11_within (nI i) 0 (nI n - 1) = 1 := win_t (nI_pos' (by omega)) ((sub1 hn).mpr (nI_lt h hn))
/-- areas: 1 houses, 2 kerbs, 3 wires, 4 slopes, 5 cars, 6 numbers, 7 way, 8 shifts, 9 day, 10 tasks, 11 orders, 12 sheets, 13 the goals' count; 0 scratch -/
def arT : List Nat := [0, 0, 0, 0, 0, 8, 9, 0, 0, 12, 1, 1, 1, 1, 2, 3, 3, 3, 4, 4, 4, 4, 5, 0, 0, 0, 0, 0, 7, 8, 8, 8, 8, 8, 8, 8, 8, 8, 8, 8, 9, 9, 9, 9, 9, 9, 9, 0, 0, 0, 10, 10, 0, 0, 0, 11, 12, 12, 12, 12, 12, 12, 12, 0, 1, 1, 1, 1, 2, 3, 3, 3, 4, 4, 4, 4, 5, 5, 5, 5, 5, 5, 5, 5, 5, 5, 5, 5, 5, 0, 0, 0, 0, 0, 0, 0, 7, 5, 5, 5, 8, 8, 8, 8, 9, 9, 9, 9, 9, 9, 9, 0, 0, 0, 10, 10, 0, 0, 11, 12, 12, 12, 12, 0]
def arM : List Nat := [1, 1, 1, 1, 1, 2, 2, 3, 3, 3, 3, 4, 4, 4, 4, 4, 5, 5, 5, 5, 5, 5, 5, 5, 5, 5, 5, 5, 5, 5, 6, 0, 0, 0, 7, 0, 0, 0, 0, 0, 0, 0, 7, 7, 5, 5, 5, 6, 6, 6, 8, 8, 8, 8, 8, 8, 8, 9, 9, 9, 9, 9, 9, 9, 9, 0, 0, 0, 10, 10, 10, 0, 10, 0, 11, 11, 0, 0, 12, 12, 12, 12, 0, 12]
def arO (k j : Nat) : Nat := if k = 2 then [0, 0, 0, 0, 1, 0, 2, 0, 0, 0, 3, 0, 0, 0, 0, 4].getD j 0 else if k = 3 then [0, 0, 5, 6, 6, 6, 6].getD j 0 else if k = 4 then [0, 0, 0, 0, 0, 7, 0, 7].getD j 0 else if k = 7 then [0, 0, 10, 10].getD j 0 else if k = 8 then [0, 0, 0, 11].getD j 0 else arM.getD j 0
def arC : List Nat := [5, 5, 5, 5, 5, 0, 0, 0, 0, 0, 5, 5, 5, 5, 5, 5, 5, 5, 5, 5]
def Ar (k j : Nat) : Nat := if k < 124 then (if k = 2 ∨ k = 3 ∨ k = 4 ∨ k = 7 ∨ k = 8 ∨ k = 63 then arO k j else arT.getD k 0) else if k < 300 then 0 else if k < 320 then 1 else if k < 330 then 0 else if k < 340 then 2 else if k < 350 then 0 else if k < 360 then 3 else if k < 370 then 0 else if k < 380 then 4 else if k < 999 then 0 else if k = 999 then 13 else if k < 1080 then arC.getD ((k - 1000) % 20) 0 else 0
theorem Ar_house {i j : Nat} (h : i < 20) : Ar (300 + i) j = 1 := by
  unfold Ar; rw [if_neg (by omega), if_neg (by omega), if_pos (by omega)]
theorem Ar_kerb {i j : Nat} (h : i < 10) : Ar (330 + i) j = 2 := by
  unfold Ar; rw [if_neg (by omega), if_neg (by omega), if_neg (by omega), if_neg (by omega), if_pos (by omega)]
theorem Ar_wire {i j : Nat} (h : i < 10) : Ar (350 + i) j = 3 := by
  unfold Ar; rw [if_neg (by omega), if_neg (by omega), if_neg (by omega), if_neg (by omega), if_neg (by omega), if_neg (by omega), if_pos (by omega)]
theorem Ar_slope {i j : Nat} (h : i < 10) : Ar (370 + i) j = 4 := by
  unfold Ar; rw [if_neg (by omega), if_neg (by omega), if_neg (by omega), if_neg (by omega), if_neg (by omega), if_neg (by omega), if_neg (by omega), if_neg (by omega), if_pos (by omega)]
theorem Ar_car {c o j : Nat} (h : c < 4) (ho : o < 20) : Ar (1000 + 20 * c + o) j = arC.getD o 0 := by
  unfold Ar
  rw [if_neg (by omega), if_neg (by omega), if_neg (by omega), if_neg (by omega), if_neg (by omega), if_neg (by omega), if_neg (by omega), if_neg (by omega), if_neg (by omega), if_neg (by omega), if_neg (by omega), if_pos (by omega)]
  rw [show (1000 + 20 * c + o - 1000) % 20 = o by omega]
theorem Ar_goal {n j : Nat} : Ar (2000 + n) j = 0 := by
  unfold Ar
  rw [if_neg (by omega), if_neg (by omega), if_neg (by omega), if_neg (by omega), if_neg (by omega), if_neg (by omega), if_neg (by omega), if_neg (by omega), if_neg (by omega), if_neg (by omega), if_neg (by omega), if_neg (by omega)]
/-- two worlds are alike in an area -/
def sm (a : Nat) (w w' : Wd) : Prop := ∀ k j, Ar k j = a → wS w' k j = wS w k j ∧ wL w' k j = wL w k j
/-- alike in all areas but scratch and a -/
def only (a : Nat) (w w' : Wd) : Prop := ∀ b, b ≠ 0 → b ≠ a → sm b w w'
def am (w w' : Wd) : Prop := ∀ k, wA w' k = wA w k
theorem sm.refl {a : Nat} {w : Wd} : sm a w w := fun _ _ _ => ⟨rfl, rfl⟩
theorem sm.trans {a : Nat} {u v w : Wd} (h1 : sm a u v) (h2 : sm a v w) : sm a u w := fun k j h => ⟨(h2 k j h).1.trans (h1 k j h).1, (h2 k j h).2.trans (h1 k j h).2⟩
theorem only.refl {a : Nat} {w : Wd} : only a w w := fun _ _ _ => sm.refl
theorem only.trans {a : Nat} {u v w : Wd} (h1 : only a u v) (h2 : only a v w) : only a u w := fun b h0 h => (h1 b h0 h).trans (h2 b h0 h)
theorem am.refl {w : Wd} : am w w := fun _ => rfl
theorem am.trans {u v w : Wd} (h1 : am u v) (h2 : am v w) : am u w := fun k => (h2 k).trans (h1 k)
theorem am.sI {w : Wd} {k j : Nat} {v : Int32} : am w (sI w k j v) := fun _ => rfl
theorem am.sJ {w : Wd} {k j : Nat} {v : Int64} : am w (sJ w k j v) := fun _ => rfl
theorem sm.sI {a : Nat} {w : Wd} {k j : Nat} {v : Int32} (h : Ar k j ≠ a) : sm a w (sI w k j v) := fun p q hp => ⟨by
  rw [wS_sI, if_neg (fun z => h (by rw [← z.1, ← z.2]; exact hp))], rfl⟩
theorem sm.sJ {a : Nat} {w : Wd} {k j : Nat} {v : Int64} (h : Ar k j ≠ a) : sm a w (sJ w k j v) := fun p q hp => ⟨rfl, by
  rw [wL_sJ, if_neg (fun z => h (by rw [← z.1, ← z.2]; exact hp))]⟩
theorem sm.sN {a : Nat} {w : Wd} {k n : Nat} (h : ∀ j, Ar k j ≠ a) : sm a w (sN w k n) := fun p q hp => by
  have e : ¬ p = k := fun z => h q (by rw [← z]; exact hp)
  exact ⟨by rw [wS_sN, if_neg e], by rw [wL_sN, if_neg e]⟩
theorem sm.sR {a : Nat} {w : Wd} {k : Nat} : sm a w (sR w k) := fun _ _ _ => ⟨rfl, rfl⟩
/-- a write of area a, or of scratch -/
theorem only.sI {a : Nat} {w : Wd} {k j : Nat} {v : Int32} (h : Ar k j = a ∨ Ar k j = 0) : only a w (sI w k j v) := fun b h0 hb => sm.sI (by rcases h with h | h <;> omega)
theorem only.sJ {a : Nat} {w : Wd} {k j : Nat} {v : Int64} (h : Ar k j = a ∨ Ar k j = 0) : only a w (sJ w k j v) := fun b h0 hb => sm.sJ (by rcases h with h | h <;> omega)
theorem only.sN {a : Nat} {w : Wd} {k n : Nat} (h : ∀ j, Ar k j = a ∨ Ar k j = 0) : only a w (sN w k n) := fun b h0 hb => sm.sN (fun j => by rcases h j with h | h <;> omega)
theorem only.sR {a : Nat} {w : Wd} {k : Nat} : only a w (sR w k) := fun _ _ _ => sm.sR
theorem only.of0 {a : Nat} {w w' : Wd} (h : only 0 w w') : only a w w' := fun b h0 _ => h b h0 h0
/-- what the class's methods leave: the reference's objects; and the other way round -/
def cm (w w' : Wd) : Prop := ∀ k j, 63 ≤ k → k < 124 → wS w' k j = wS w k j
def mm (v v' : Wd) : Prop := ∀ k j, (k < 63 ∨ 124 ≤ k) → wS v' k j = wS v k j ∧ wL v' k j = wL v k j
theorem cm.refl {w : Wd} : cm w w := fun _ _ _ _ => rfl
theorem cm.trans {u v w : Wd} (h1 : cm u v) (h2 : cm v w) : cm u w := fun k j a b => (h2 k j a b).trans (h1 k j a b)
theorem mm.refl {w : Wd} : mm w w := fun _ _ _ => ⟨rfl, rfl⟩
theorem mm.trans {u v w : Wd} (h1 : mm u v) (h2 : mm v w) : mm u w := fun k j a => ⟨(h2 k j a).1.trans (h1 k j a).1, (h2 k j a).2.trans (h1 k j a).2⟩
theorem cm.sI {w : Wd} {k j : Nat} {v : Int32} (h : k < 63 ∨ 124 ≤ k) : cm w (sI w k j v) := fun p q h1 h2 => by
  rw [wS_sI, if_neg (fun z => by omega)]
theorem cm.sJ {w : Wd} {k j : Nat} {v : Int64} : cm w (sJ w k j v) := fun p q h1 h2 => rfl
theorem cm.sN {w : Wd} {k n : Nat} (h : k < 63 ∨ 124 ≤ k) : cm w (sN w k n) := fun p q h1 h2 => by
  rw [wS_sN, if_neg (fun z => by omega)]
theorem cm.sR {w : Wd} {k : Nat} : cm w (sR w k) := fun _ _ _ _ => rfl
theorem mm.sI {w : Wd} {k j : Nat} {v : Int32} (h1 : 63 ≤ k) (h2 : k < 124) : mm w (sI w k j v) := fun p q h => ⟨by
  rw [wS_sI, if_neg (fun z => by omega)], rfl⟩
def bt (lo hi : Int) (v : Int32) : Prop := lo ≤ v.toInt ∧ v.toInt ≤ hi
theorem bt_of {lo hi : Int} {l h a : Int32} (h1 : l ≤ a) (h2 : a ≤ h) (e1 : l.toInt = lo) (e2 : h.toInt = hi) : bt lo hi a := by
  rw [Int32.le_iff_toInt_le] at h1 h2
  exact ⟨by omega, by omega⟩
/-- the same box here and there -/
def bxR (w : Wd) (k : Nat) (v : Wd) (m b : Nat) : Prop := wS w k 0 = wS v m b ∧ wS w k 1 = wS v m (b + 1) ∧ wS w k 2 = wS v m (b + 2) ∧ wS w k 3 = wS v m (b + 3)
def bxO (w : Wd) (k : Nat) : Prop := bt (-500) 500 (wS w k 0) ∧ bt (-500) 500 (wS w k 1) ∧ bt (-500) 500 (wS w k 2) ∧ bt (-500) 500 (wS w k 3) ∧ (wS w k 0).toInt < (wS w k 2).toInt ∧ (wS w k 1).toInt < (wS w k 3).toInt
theorem isBox_c (a b c d : Int32) : f_X11_isBox a b c d = 0 ∨ (f_X11_isBox a b c d = 1 ∧ bt (-500) 500 a ∧ bt (-500) 500 b ∧ bt (-500) 500 c ∧ bt (-500) 500 d ∧ a.toInt < c.toInt ∧ b.toInt < d.toInt) := by
  unfold f_X11_isBox
  rcases win_c a (-500) 500 with h | ⟨h, h1, h2⟩ <;> rw [h]
  · exact Or.inl rfl
  rcases win_c b (-500) 500 with g | ⟨g, g1, g2⟩ <;> rw [g]
  · exact Or.inl rfl
  rcases win_c c (-500) 500 with p | ⟨p, p1, p2⟩ <;> rw [p]
  · exact Or.inl rfl
  rcases win_c d (-500) 500 with q | ⟨q, q1, q2⟩ <;> rw [q]
  · exact Or.inl rfl
  by_cases r : c ≤ a
  · exact Or.inl (by rw [if_pos r]; rfl)
  by_cases t : d ≤ b
  · exact Or.inl (by rw [if_neg r, if_pos t]; rfl)
  refine Or.inr ⟨by rw [if_neg r, if_neg t]; rfl, bt_of h1 h2 (by decide) (by decide), bt_of g1 g2 (by decide) (by decide), bt_of p1 p2 (by decide) (by decide), bt_of q1 q2 (by decide) (by decide), ?_, ?_⟩
  · rw [Int32.le_iff_toInt_le] at r; omega
  · rw [Int32.le_iff_toInt_le] at t; omega
theorem nI_mul4 (n : Nat) : (4 : Int32) * nI n = nI (4 * n) := (Int32.ofNat_mul 4 n).symm
theorem nI_p2 (n : Nat) : nI n + 2 = nI (n + 2) := nI_add n 2
theorem nI_p3 (n : Nat) : nI n + 3 = nI (n + 3) := nI_add n 3
