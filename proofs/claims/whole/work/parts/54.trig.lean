/-! ===== rows filled; the turns' table ===== -/
def sFr (w : Wd) (k i n : Nat) (x : Int32) : Wd := (w.1, fun a b => if a = k ∧ i ≤ b ∧ b < n then x else w.2.1 a b, w.2.2)
theorem wS_sFr {w : Wd} {k i n a b : Nat} {x : Int32} : wS (sFr w k i n x) a b = if a = k ∧ i ≤ b ∧ b < n then x else wS w a b := rfl
theorem wL_sFr {w : Wd} {k i n a b : Nat} {x : Int32} : wL (sFr w k i n x) a b = wL w a b := rfl
theorem wA_sFr {w : Wd} {k i n a : Nat} {x : Int32} : wA (sFr w k i n x) a = wA w a := rfl
theorem l_fill {k n : Nat} {x : Int32} (hn : n < 2 ^ 31) : ∀ (m i f : Nat) (w : Wd), i + m = n → m < f → l_J7_fill_53178_5 k n x (nI n) f w (nI i) = some (sFr w k i n x)
  | 0, i, f + 1, w, hi, _ => by
    unfold l_J7_fill_53178_5
    rw [if_pos (nI_le (show n ≤ i by omega) (by omega))]
    congr 1
    unfold sFr
    refine Prod.ext rfl (Prod.ext (funext fun a => funext fun b => ?_) rfl)
    show w.2.1 a b = if a = k ∧ i ≤ b ∧ b < n then x else w.2.1 a b
    rw [if_neg (by omega)]
  | m + 1, i, f + 1, w, hi, hf => by
    unfold l_J7_fill_53178_5
    rw [if_neg (nI_ge (show i < n by omega) hn), st_n (show i < n by omega) hn, nI_1]
    unfold q_lt
    show l_J7_fill_53178_5 k n x (nI n) f (sI w k i x) (nI (i + 1)) = _
    rw [l_fill hn m (i + 1) f _ (by omega) (by omega)]
    congr 1
    unfold sFr sI
    refine Prod.ext rfl (Prod.ext (funext fun a => funext fun b => ?_) rfl)
    show (if a = k ∧ i + 1 ≤ b ∧ b < n then x else if a = k ∧ b = i then x else w.2.1 a b) = if a = k ∧ i ≤ b ∧ b < n then x else w.2.1 a b
    by_cases h1 : a = k ∧ i + 1 ≤ b ∧ b < n
    · rw [if_pos h1, if_pos (by omega)]
    · rw [if_neg h1]
      by_cases h2 : a = k ∧ b = i
      · rw [if_pos h2, if_pos (by omega)]
      · rw [if_neg h2, if_neg (by omega)]
theorem fill_k {k n : Nat} {x : Int32} {w : Wd} (hn : n < 10000) : f_J7_fill_53178 w k n x = some (sFr w k 0 n x) := by
  unfold f_J7_fill_53178 q_lt
  exact l_fill (by omega) n 0 FU w (by omega) (by unfold FU; omega)
theorem only.sFr {a : Nat} {w : Wd} {k i n : Nat} {x : Int32} (h : ∀ j, Ar k j = a ∨ Ar k j = 0) : only a w (sFr w k i n x) := fun b h0 hb p q hp => by
  have e : ¬ (p = k ∧ i ≤ q ∧ q < n) := fun z => by
    rcases h q with g | g
    · exact hb (by rw [← hp, z.1, g])
    · exact h0 (by rw [← hp, z.1, g])
  exact ⟨by rw [wS_sFr, if_neg e], rfl⟩
theorem cm.sFr {w : Wd} {k i n : Nat} {x : Int32} (h : k < 63 ∨ 124 ≤ k) : cm w (sFr w k i n x) := fun p q h1 h2 => by
  rw [wS_sFr, if_neg (fun z => by omega)]
theorem ofInt_toInt (a : Int32) : Int32.ofInt a.toInt = a := Int32.ofInt_toInt a
theorem cos_t : ∀ k : Fin 241, f_X11_cosine (Int32.ofInt ((k.val : Int) - 120)) = f_X12_along (Int32.ofInt ((k.val : Int) - 120)) ∧ f_X11_sine (Int32.ofInt ((k.val : Int) - 120)) = f_X12_across (Int32.ofInt ((k.val : Int) - 120)) := by decide +kernel
theorem tab {P : Int32 → Prop} (h : ∀ k : Fin 241, P (Int32.ofInt ((k.val : Int) - 120))) {a : Int32} (ha : bt (-120) 120 a) : P a := by
  have h1 := ha.1
  have h2 := ha.2
  have e := h ⟨(a.toInt + 120).toNat, by omega⟩
  have e2 : (((a.toInt + 120).toNat : Nat) : Int) - 120 = a.toInt := by omega
  simp only [e2, ofInt_toInt] at e
  exact e
theorem cos_eq {a : Int32} (h : bt (-120) 120 a) : f_X11_cosine a = f_X12_along a := (tab (P := fun a => f_X11_cosine a = f_X12_along a ∧ f_X11_sine a = f_X12_across a) cos_t h).1
theorem sin_eq {a : Int32} (h : bt (-120) 120 a) : f_X11_sine a = f_X12_across a := (tab (P := fun a => f_X11_cosine a = f_X12_along a ∧ f_X11_sine a = f_X12_across a) cos_t h).2
def trP (a : Int32) : Prop := (-65 ≤ (f_X12_along a).toInt ∧ (f_X12_along a).toInt ≤ 65 ∧ -65 ≤ (f_X12_across a).toInt ∧ (f_X12_across a).toInt ≤ 65) ∧ f_X12_along a * f_X12_along a + f_X12_across a * f_X12_across a = 4225 ∧ f_X12_along (a + 9) = - f_X12_across a ∧ f_X12_across (a + 9) = f_X12_along a
theorem tr_t : ∀ k : Fin 241, trP (Int32.ofInt ((k.val : Int) - 120)) := by unfold trP; decide +kernel
theorem tr {a : Int32} (h : bt (-120) 120 a) : trP a := tab tr_t h
