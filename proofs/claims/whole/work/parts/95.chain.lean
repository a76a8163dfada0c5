/-! ===== what the class has noted: buckets and chains; what the reference has: the open table ===== -/
def bk (w : Wd) (i : Nat) : Int32 := f_X10_bucketOf (wL w 24 i)
def CH (w : Wd) (N : Nat) : Prop :=
  (∀ b, b < 1024 → (wS w 27 b = -1 ∧ ∀ j, j < N → bk w j ≠ nI b) ∨ ∃ i, i < N ∧ wS w 27 b = nI i ∧ bk w i = nI b ∧ ∀ j, i < j → j < N → bk w j ≠ nI b) ∧
  (∀ i, i < N → (wS w 26 i = -1 ∧ ∀ j, j < i → bk w j ≠ bk w i) ∨ ∃ k, k < i ∧ wS w 26 i = nI k ∧ bk w k = bk w i ∧ ∀ j, k < j → j < i → bk w j ≠ bk w i)
theorem lg_eq (a b : Int64) : lg_cmp a b = 0 ↔ a = b := by
  unfold lg_cmp
  by_cases h : b < a
  · rw [if_pos h]
    refine ⟨fun z => absurd z (by decide), fun z => ?_⟩
    rw [z, Int64.lt_iff_toInt_lt] at h
    exact absurd h (Int.lt_irrefl _)
  · rw [if_neg h]
    by_cases g : a = b
    · rw [if_pos g]; exact ⟨fun _ => g, fun _ => rfl⟩
    · rw [if_neg g]; exact ⟨fun z => absurd z (by decide), fun z => absurd z g⟩
/-- the chain of a bucket, from a place on -/
theorem l_noted {w : Wd} {N : Nat} (C : CH w N) (hN : N ≤ 1500) (s : Int64) : ∀ (q x f : Nat) (p : Int32), q ≤ N → x + q ≤ 1500 → q < f →
    ((p = -1 ∧ ∀ j, j < q → bk w j ≠ f_X10_bucketOf s) ∨ ∃ i, i < q ∧ p = nI i ∧ bk w i = f_X10_bucketOf s ∧ ∀ j, i < j → j < q → bk w j ≠ f_X10_bucketOf s) →
    (l_X10_isNoted_13 s w f (nI x) p = some 1 ∧ ∃ i, i < q ∧ wL w 24 i = s) ∨ (l_X10_isNoted_13 s w f (nI x) p = some 0 ∧ ∀ i, i < q → wL w 24 i ≠ s)
  | q, x, f + 1, p, hq, hx, hf, h => by
    unfold l_X10_isNoted_13
    rcases h with ⟨rfl, h⟩ | ⟨i, hi, rfl, hb, h⟩
    · refine Or.inr ⟨?_, fun i hi e => h i hi (by unfold bk; rw [e])⟩
      by_cases k : (1500 : Int32) ≤ nI x
      · rw [if_pos k]
      · rw [if_neg k, if_pos (by decide)]
    · have hx2 : x < 1500 := by omega
      rw [if_neg (show ¬ (1500 : Int32) ≤ nI x from fun k => by have := (nI_leI (a := 1500) (by decide) (by omega)).mp k; omega), if_neg (nI_pos (by omega))]
      simp only [ldl_n (show i < 1500 by omega) (show 1500 < 2 ^ 31 by decide), lg_eq]
      by_cases e : wL w 24 i = s
      · rw [if_pos e]
        exact Or.inl ⟨rfl, i, hi, e⟩
      · rw [if_neg e]
        simp only [ld_n (show i < 1500 by omega) (show 1500 < 2 ^ 31 by decide), q_lt, nI_1]
        have nx := C.2 i (by omega)
        rw [hb] at nx
        have I := l_noted C hN s i (x + 1) f (wS w 26 i) (by omega) (by omega) (by omega) (by
          rcases nx with ⟨a, b⟩ | ⟨k, a, b, c, d⟩
          · exact Or.inl ⟨a, b⟩
          · exact Or.inr ⟨k, a, b, c, d⟩)
        rcases I with ⟨a, j, b, c⟩ | ⟨a, b⟩
        · exact Or.inl ⟨a, j, by omega, c⟩
        · refine Or.inr ⟨a, fun j hj g => ?_⟩
          by_cases y : j < i
          · exact b j y g
          · by_cases y2 : j = i
            · exact e (by rw [← y2]; exact g)
            · exact h j (by omega) hj (by unfold bk; rw [g])
theorem c_noted {w : Wd} {N : Nat} (C : CH w N) (hN : N ≤ 1500) (s : Int64) : (f_X10_isNoted w s = some 1 ∧ ∃ i, i < N ∧ wL w 24 i = s) ∨ (f_X10_isNoted w s = some 0 ∧ ∀ i, i < N → wL w 24 i ≠ s) := by
  obtain ⟨b, hb, eb⟩ := bucket_k s
  have L := l_noted C hN s N 0 FU (wS w 27 b) (Nat.le_refl _) (by omega) (by unfold FU; omega) (by
    rcases C.1 b hb with ⟨x, y⟩ | ⟨i, x, y, z, t⟩
    · exact Or.inl ⟨x, by rw [eb]; exact y⟩
    · exact Or.inr ⟨i, x, y, by rw [eb]; exact z, by rw [eb]; exact t⟩)
  rw [nI_0] at L
  unfold f_X10_isNoted
  rw [eb, ld_n hb (show 1024 < 2 ^ 31 by decide)]
  exact L
/-- changed in the class's search rows and its count -/
def FrN (w w' : Wd) : Prop := (∀ p j, ¬ (24 ≤ p ∧ p ≤ 27) → ¬ (p = 4 ∧ j = 5) → wS w' p j = wS w p j ∧ wL w' p j = wL w p j) ∧ am w w'
theorem c_note {w : Wd} {N : Nat} (hN : N < 1500) (e : wS w 4 5 = nI N) (C : CH w N) (s : Int64) (y : Int32) : ∃ w', f_X10_note w s y = some w' ∧ FrN w w' ∧ wS w' 4 5 = nI (N + 1) ∧ CH w' (N + 1) ∧ (∀ i, wL w' 24 i = if i = N then s else wL w 24 i) ∧ ∀ i, wS w' 25 i = if i = N then y else wS w 25 i := by
  obtain ⟨b, hb, eb⟩ := bucket_k s
  unfold f_X10_note
  rw [eb]
  simp only [q_gt, q_lt, q_jn, q_pt, q_bo, q_bi, e, sl_n hN (show 1500 < 2 ^ 31 by decide), st_n hN (show 1500 < 2 ^ 31 by decide), ld_n hb (show 1024 < 2 ^ 31 by decide), st_n hb (show 1024 < 2 ^ 31 by decide), wS_sI, wS_sJ, if_false, if_true, false_and, and_false, true_and, and_true, and_self, reduceIte, Nat.reduceEqDiff, ne_eq, not_false_eq_true, not_true_eq_false, nI_1]
  have fL : ∀ i, wL (sI (sI (sI (sI (sJ w 24 N s) 25 N y) 26 N (wS w 27 b)) 27 b (nI N)) 4 5 (nI (N + 1))) 24 i = if i = N then s else wL w 24 i := fun i => by
    rw [wL_sI, wL_sI, wL_sI, wL_sI, wL_sJ]
    by_cases h : i = N
    · rw [if_pos ⟨rfl, h⟩, if_pos h]
    · rw [if_neg (fun z => h z.2), if_neg h]
  have fb : ∀ i, i < N → bk (sI (sI (sI (sI (sJ w 24 N s) 25 N y) 26 N (wS w 27 b)) 27 b (nI N)) 4 5 (nI (N + 1))) i = bk w i := fun i hi => by
    unfold bk
    rw [fL, if_neg (by omega)]
  have fN : bk (sI (sI (sI (sI (sJ w 24 N s) 25 N y) 26 N (wS w 27 b)) 27 b (nI N)) 4 5 (nI (N + 1))) N = nI b := by
    unfold bk
    rw [fL, if_pos rfl, eb]
  refine ⟨_, rfl, ⟨fun p j h1 h2 => ⟨?_, ?_⟩, fun _ => rfl⟩, ?_, ⟨fun c hc => ?_, fun i hi => ?_⟩, fL, fun i => ?_⟩
  · rw [wS_sI, if_neg (by omega), wS_sI, if_neg (by omega), wS_sI, if_neg (by omega), wS_sI, if_neg (by omega), wS_sJ]
  · rw [wL_sI, wL_sI, wL_sI, wL_sI, wL_sJ, if_neg (by omega)]
  · rw [wS_sI, if_pos ⟨rfl, rfl⟩]
  · by_cases hcb : c = b
    · subst hcb
      refine Or.inr ⟨N, by omega, ?_, fN, fun j h1 h2 => by omega⟩
      rw [wS_sI, if_neg (by omega), wS_sI, if_pos ⟨rfl, rfl⟩]
    · have e27 : wS (sI (sI (sI (sI (sJ w 24 N s) 25 N y) 26 N (wS w 27 b)) 27 b (nI N)) 4 5 (nI (N + 1))) 27 c = wS w 27 c := by
        rw [wS_sI, if_neg (by omega), wS_sI, if_neg (by omega), wS_sI, if_neg (by omega), wS_sI, if_neg (by omega), wS_sJ]
      have nb : ¬ nI b = nI c := fun z => hcb ((nI_eq (by omega) (by omega)).mp z).symm
      rw [e27]
      rcases C.1 c hc with ⟨x, y⟩ | ⟨i, x, y, z, t⟩
      · refine Or.inl ⟨x, fun j hj => ?_⟩
        by_cases q : j = N
        · rw [q, fN]; exact nb
        · rw [fb j (by omega)]; exact y j (by omega)
      · refine Or.inr ⟨i, by omega, y, by rw [fb i x]; exact z, fun j h1 h2 => ?_⟩
        by_cases q : j = N
        · rw [q, fN]; exact nb
        · rw [fb j (by omega)]; exact t j h1 (by omega)
  · by_cases q : i = N
    · subst q
      have e26 : wS (sI (sI (sI (sI (sJ w 24 i s) 25 i y) 26 i (wS w 27 b)) 27 b (nI i)) 4 5 (nI (i + 1))) 26 i = wS w 27 b := by
        rw [wS_sI, if_neg (by omega), wS_sI, if_neg (by omega), wS_sI, if_pos ⟨rfl, rfl⟩]
      rw [e26, fN]
      rcases C.1 b hb with ⟨x, y⟩ | ⟨k, x, y, z, t⟩
      · exact Or.inl ⟨x, fun j hj => by rw [fb j hj]; exact y j hj⟩
      · exact Or.inr ⟨k, x, y, by rw [fb k x]; exact z, fun j h1 h2 => by rw [fb j h2]; exact t j h1 h2⟩
    · have e26 : wS (sI (sI (sI (sI (sJ w 24 N s) 25 N y) 26 N (wS w 27 b)) 27 b (nI N)) 4 5 (nI (N + 1))) 26 i = wS w 26 i := by
        rw [wS_sI, if_neg (by omega), wS_sI, if_neg (by omega), wS_sI, if_neg (by omega), wS_sI, if_neg (by omega), wS_sJ]
      rw [e26, fb i (by omega)]
      rcases C.2 i (by omega) with ⟨x, y⟩ | ⟨k, x, y, z, t⟩
      · exact Or.inl ⟨x, fun j hj => by rw [fb j (by omega)]; exact y j hj⟩
      · exact Or.inr ⟨k, x, y, by rw [fb k (by omega)]; exact z, fun j h1 h2 => by rw [fb j (by omega)]; exact t j h1 h2⟩
  · rw [wS_sI, if_neg (by omega), wS_sI, if_neg (by omega), wS_sI, if_neg (by omega), wS_sI]
    by_cases h : i = N
    · rw [if_pos ⟨rfl, h⟩, if_pos h]
    · rw [if_neg (fun z => h z.2), if_neg h, wS_sJ]
/-! the reference's table -/
def hs (x y h : Int32) : Int32 := (((x * (31 : Int32)) + (y * (17 : Int32))) + (h * (7919 : Int32))) &&& (4095 : Int32)
def HT (v : Wd) (N : Nat) : Prop :=
  (∀ r, r < 4096 → wS v 95 r = 0 ∨ ∃ i, i < N ∧ wS v 95 r = nI (i + 1)) ∧
  (∀ i, i < N → ∃ s k, hs (wS v 89 i) (wS v 90 i) (wS v 91 i) = nI s ∧ s < 4096 ∧ k < 4096 ∧ wS v 95 ((s + k) % 4096) = nI (i + 1) ∧ ∀ j, j < k → wS v 95 ((s + j) % 4096) ≠ 0) ∧
  ct (wS v 95) 4096 = N
theorem l_slot {v : Wd} {N : Nat} (T : HT v N) (hN : N ≤ 1500) (x y h : Int32) (s : Nat) (hs4 : s < 4096) (z : Nat) (hz : wS v 95 ((s + z) % 4096) = 0) : ∀ (m k f : Nat), k + m = z → m < f → (∀ j, j < k → wS v 95 ((s + j) % 4096) ≠ 0) →
    (∀ j, j < k → ∀ i, wS v 95 ((s + j) % 4096) = nI (i + 1) → i < N → ¬ (wS v 89 i = x ∧ wS v 90 i = y ∧ wS v 91 i = h)) →
    ∃ r, k ≤ r ∧ r ≤ z ∧ l_X12_slotOf_21 x y h v f (nI ((s + k) % 4096)) = some (nI ((s + r) % 4096)) ∧ (∀ j, j < r → wS v 95 ((s + j) % 4096) ≠ 0) ∧ (∀ j, j < r → ∀ i, wS v 95 ((s + j) % 4096) = nI (i + 1) → i < N → ¬ (wS v 89 i = x ∧ wS v 90 i = y ∧ wS v 91 i = h)) ∧
      (wS v 95 ((s + r) % 4096) = 0 ∨ ∃ i, i < N ∧ wS v 95 ((s + r) % 4096) = nI (i + 1) ∧ wS v 89 i = x ∧ wS v 90 i = y ∧ wS v 91 i = h)
  | m, k, f + 1, hk, hf, hp, hq => by
    have hlt : (s + k) % 4096 < 4096 := Nat.mod_lt _ (by decide)
    unfold l_X12_slotOf_21
    simp only [ld_n hlt (show 4096 < 2 ^ 31 by decide)]
    by_cases h0 : wS v 95 ((s + k) % 4096) = 0
    · rw [if_pos h0]
      exact ⟨k, Nat.le_refl _, by omega, rfl, hp, hq, Or.inl h0⟩
    · rw [if_neg h0]
      rcases m with _ | m
      · exfalso
        have : k = z := by omega
        rw [this] at h0
        exact h0 hz
      rcases T.1 _ hlt with a | ⟨i, hi, ei⟩
      · exact absurd a h0
      have next : ¬ (wS v 89 i = x ∧ wS v 90 i = y ∧ wS v 91 i = h) → ∃ r, k ≤ r ∧ r ≤ z ∧ l_X12_slotOf_21 x y h v f (nI ((s + k) % 4096 + 1) &&& 4095) = some (nI ((s + r) % 4096)) ∧ (∀ j, j < r → wS v 95 ((s + j) % 4096) ≠ 0) ∧ (∀ j, j < r → ∀ i, wS v 95 ((s + j) % 4096) = nI (i + 1) → i < N → ¬ (wS v 89 i = x ∧ wS v 90 i = y ∧ wS v 91 i = h)) ∧
          (wS v 95 ((s + r) % 4096) = 0 ∨ ∃ i, i < N ∧ wS v 95 ((s + r) % 4096) = nI (i + 1) ∧ wS v 89 i = x ∧ wS v 90 i = y ∧ wS v 91 i = h) := by
        intro nt
        have en : nI ((s + k) % 4096 + 1) &&& 4095 = nI ((s + (k + 1)) % 4096) := by
          rw [← nI_1, next4095 hlt]
          congr 1
          omega
        obtain ⟨r, r1, r2, r3⟩ := l_slot T hN x y h s hs4 z hz m (k + 1) f (by omega) (by omega) (fun j hj => by
          by_cases q : j = k
          · rw [q]; exact h0
          · exact hp j (by omega)) (fun j hj i' e' hi' => by
          by_cases q : j = k
          · rw [q, ei] at e'
            have : i + 1 = i' + 1 := (nI_eq (by omega) (by omega)).mp e'
            rw [show i' = i by omega]; exact nt
          · exact hq j (by omega) i' e' hi')
        rw [en]
        exact ⟨r, by omega, r2, r3⟩
      simp only [ei, nI_pred, ld_n (show i < 1500 by omega) (show 1500 < 2 ^ 31 by decide), q_jn, q_lt, nI_1]
      by_cases e1 : wS v 89 i = x
      · rw [if_pos e1]
        by_cases e2 : wS v 90 i = y
        · rw [if_pos e2]
          by_cases e3 : wS v 91 i = h
          · rw [if_pos e3]
            exact ⟨k, Nat.le_refl _, by omega, rfl, hp, hq, Or.inr ⟨i, hi, ei, e1, e2, e3⟩⟩
          · rw [if_neg e3]; exact next (fun z => e3 z.2.2)
        · rw [if_neg e2]; exact next (fun z => e2 z.2.1)
      · rw [if_neg e1]; exact next (fun z => e1 z.1)
theorem c_slot {v : Wd} {N : Nat} (T : HT v N) (hN : N ≤ 1500) (x y h : Int32) : ∃ s r, hs x y h = nI s ∧ s < 4096 ∧ r < 4096 ∧ f_X12_slotOf v x y h = some (nI ((s + r) % 4096)) ∧
    ((wS v 95 ((s + r) % 4096) = 0 ∧ (∀ j, j < r → wS v 95 ((s + j) % 4096) ≠ 0) ∧ ∀ i, i < N → ¬ (wS v 89 i = x ∧ wS v 90 i = y ∧ wS v 91 i = h)) ∨
     (¬ wS v 95 ((s + r) % 4096) = 0 ∧ ∃ i, i < N ∧ wS v 89 i = x ∧ wS v 90 i = y ∧ wS v 91 i = h)) := by
  obtain ⟨s, hs4, es⟩ := and4095 (((x * (31 : Int32)) + (y * (17 : Int32))) + (h * (7919 : Int32)))
  obtain ⟨z0, hz0, ez0⟩ := ct_ex (show ct (wS v 95) 4096 < 4096 by rw [T.2.2]; omega)
  have ez : wS v 95 ((s + (z0 + 4096 - s) % 4096) % 4096) = 0 := by
    rw [show (s + (z0 + 4096 - s) % 4096) % 4096 = z0 by omega]
    exact ez0
  obtain ⟨r, -, r2, r3, r4, r5, r6⟩ := l_slot T hN x y h s hs4 _ ez ((z0 + 4096 - s) % 4096) 0 FU (by omega) (by have : (z0 + 4096 - s) % 4096 < 4096 := Nat.mod_lt _ (by decide); unfold FU; omega) (fun j hj => absurd hj (Nat.not_lt_zero j)) (fun j hj => absurd hj (Nat.not_lt_zero j))
  refine ⟨s, r, es, hs4, by omega, ?_, ?_⟩
  · unfold f_X12_slotOf
    rw [es]
    rw [show (s + 0) % 4096 = s by omega] at r3
    exact r3
  · rcases r6 with a | ⟨i, hi, a, b⟩
    · refine Or.inl ⟨a, r4, fun i hi e => ?_⟩
      obtain ⟨s', k, k1, k2, k3, k4, k5⟩ := T.2.1 i hi
      rw [e.1, e.2.1, e.2.2] at k1
      have ss : s' = s := (nI_eq (by omega) (by omega)).mp (k1.symm.trans es)
      subst ss
      rcases Nat.lt_trichotomy k r with g | g | g
      · exact r5 k g i k4 hi e
      · rw [g, a] at k4
        exact nI_ne0 (n := i + 1) (by omega) (by omega) k4.symm
      · exact k5 r g a
    · refine Or.inr ⟨?_, i, hi, b⟩
      rw [a]
      exact nI_ne0 (by omega) (by omega)
theorem HT.add {v v' : Wd} {N s r : Nat} (T : HT v N) (hN : N < 1500) (h4 : s < 4096) (hr : r < 4096) (z0 : wS v 95 ((s + r) % 4096) = 0) (z1 : ∀ j, j < r → wS v 95 ((s + j) % 4096) ≠ 0) (e95 : ∀ q, wS v' 95 q = if q = (s + r) % 4096 then nI (N + 1) else wS v 95 q) (e89 : ∀ i, i ≠ N → wS v' 89 i = wS v 89 i ∧ wS v' 90 i = wS v 90 i ∧ wS v' 91 i = wS v 91 i) (hh : hs (wS v' 89 N) (wS v' 90 N) (wS v' 91 N) = nI s) : HT v' (N + 1) := by
  have hp : (s + r) % 4096 < 4096 := Nat.mod_lt _ (by decide)
  have nz : ∀ q, wS v 95 q ≠ 0 → wS v' 95 q ≠ 0 := fun q h => by
    rw [e95]
    by_cases k : q = (s + r) % 4096
    · rw [if_pos k]; exact nI_ne0 (by omega) (by omega)
    · rw [if_neg k]; exact h
  refine ⟨fun q hq => ?_, fun i hi => ?_, ?_⟩
  · rw [e95]
    by_cases k : q = (s + r) % 4096
    · rw [if_pos k]; exact Or.inr ⟨N, by omega, rfl⟩
    · rw [if_neg k]
      rcases T.1 q hq with a | ⟨i, a, b⟩
      · exact Or.inl a
      · exact Or.inr ⟨i, by omega, b⟩
  · by_cases q : i = N
    · subst q
      exact ⟨s, r, hh, h4, hr, by rw [e95, if_pos rfl], fun j hj => nz _ (z1 j hj)⟩
    · obtain ⟨x1, x2, x3⟩ := e89 i q
      obtain ⟨s', k, k1, k2, k3, k4, k5⟩ := T.2.1 i (by omega)
      refine ⟨s', k, by rw [x1, x2, x3]; exact k1, k2, k3, ?_, fun j hj => nz _ (k5 j hj)⟩
      rw [e95, if_neg]
      · exact k4
      · intro y
        rw [y, z0] at k4
        exact nI_ne0 (n := i + 1) (by omega) (by omega) k4.symm
  · rw [ct_set (g := wS v 95) (j := (s + r) % 4096) z0 (by rw [e95, if_pos rfl]; exact nI_ne0 (by omega) (by omega)) (fun i hi => by rw [e95, if_neg hi]) hp, T.2.2]
/-- changed in the reference's search rows and its count -/
def FrM (v v' : Wd) : Prop := (∀ p j, ¬ (89 ≤ p ∧ p ≤ 95) → ¬ (p = 63 ∧ j = 34) → wS v' p j = wS v p j ∧ wL v' p j = wL v p j) ∧ am v v'
theorem c_counts {v : Wd} {N s r : Nat} (hN : N < 1500) (e : wS v 63 34 = nI N) (T : HT v N) (hh : hs (wS v 63 31) (wS v 63 32) (wS v 63 33) = nI s) (h4 : s < 4096) (hr : r < 4096) (z0 : wS v 95 ((s + r) % 4096) = 0) (z1 : ∀ j, j < r → wS v 95 ((s + j) % 4096) ≠ 0) (a b d : Int32) :
    ∃ v', f_X12_counts v (nI ((s + r) % 4096)) a b d = some v' ∧ FrM v v' ∧ wS v' 63 34 = nI (N + 1) ∧ HT v' (N + 1) ∧ (∀ i, i ≠ N → wS v' 89 i = wS v 89 i ∧ wS v' 90 i = wS v 90 i ∧ wS v' 91 i = wS v 91 i ∧ wS v' 92 i = wS v 92 i ∧ wS v' 93 i = wS v 93 i ∧ wS v' 94 i = wS v 94 i) ∧
      wS v' 89 N = wS v 63 31 ∧ wS v' 90 N = wS v 63 32 ∧ wS v' 91 N = wS v 63 33 ∧ wS v' 92 N = a ∧ wS v' 93 N = b ∧ wS v' 94 N = d := by
  have hp : (s + r) % 4096 < 4096 := Nat.mod_lt _ (by decide)
  unfold f_X12_counts
  simp only [q_gt, q_lt, q_jn, q_pt, q_bo, q_bi, e, st_n hN (show 1500 < 2 ^ 31 by decide), st_n hp (show 4096 < 2 ^ 31 by decide), wS_sI, if_false, if_true, false_and, and_false, true_and, and_true, and_self, reduceIte, Nat.reduceEqDiff, ne_eq, not_false_eq_true, not_true_eq_false, nI_1]
  refine ⟨_, rfl, ⟨fun q j h1 h2 => ⟨?_, rfl⟩, fun _ => rfl⟩, ?_, ?_, fun i hi => ⟨?_, ?_, ?_, ?_, ?_, ?_⟩, ?_, ?_, ?_, ?_, ?_, ?_⟩
  · (repeat first | rw [wS_sI, if_pos ⟨rfl, rfl⟩] | rw [wS_sI, if_neg (by omega)] | rw [wS_sN, if_neg (by omega)] | rw [wS_sR] | rw [wS_sN, if_pos rfl] | rw [wS_sFr, if_neg (by omega)] | rw [wS_sFr, if_pos (by omega)])
  · (repeat first | rw [wS_sI, if_pos ⟨rfl, rfl⟩] | rw [wS_sI, if_neg (by omega)] | rw [wS_sN, if_neg (by omega)] | rw [wS_sR] | rw [wS_sN, if_pos rfl] | rw [wS_sFr, if_neg (by omega)] | rw [wS_sFr, if_pos (by omega)])
  · refine T.add hN h4 hr z0 z1 (fun q => ?_) (fun i hi => ⟨?_, ?_, ?_⟩) ?_
    · rw [wS_sI]
      by_cases k : q = (s + r) % 4096
      · rw [if_pos ⟨rfl, k⟩, if_pos k]
      · rw [if_neg (fun z => k z.2), if_neg k]
        (repeat first | rw [wS_sI, if_pos ⟨rfl, rfl⟩] | rw [wS_sI, if_neg (by omega)] | rw [wS_sN, if_neg (by omega)] | rw [wS_sR] | rw [wS_sN, if_pos rfl] | rw [wS_sFr, if_neg (by omega)] | rw [wS_sFr, if_pos (by omega)])
    · (repeat first | rw [wS_sI, if_pos ⟨rfl, rfl⟩] | rw [wS_sI, if_neg (by omega)] | rw [wS_sN, if_neg (by omega)] | rw [wS_sR] | rw [wS_sN, if_pos rfl] | rw [wS_sFr, if_neg (by omega)] | rw [wS_sFr, if_pos (by omega)])
    · (repeat first | rw [wS_sI, if_pos ⟨rfl, rfl⟩] | rw [wS_sI, if_neg (by omega)] | rw [wS_sN, if_neg (by omega)] | rw [wS_sR] | rw [wS_sN, if_pos rfl] | rw [wS_sFr, if_neg (by omega)] | rw [wS_sFr, if_pos (by omega)])
    · (repeat first | rw [wS_sI, if_pos ⟨rfl, rfl⟩] | rw [wS_sI, if_neg (by omega)] | rw [wS_sN, if_neg (by omega)] | rw [wS_sR] | rw [wS_sN, if_pos rfl] | rw [wS_sFr, if_neg (by omega)] | rw [wS_sFr, if_pos (by omega)])
    · rw [← hh]
      congr 1
      · (repeat first | rw [wS_sI, if_pos ⟨rfl, rfl⟩] | rw [wS_sI, if_neg (by omega)] | rw [wS_sN, if_neg (by omega)] | rw [wS_sR] | rw [wS_sN, if_pos rfl] | rw [wS_sFr, if_neg (by omega)] | rw [wS_sFr, if_pos (by omega)])
      · (repeat first | rw [wS_sI, if_pos ⟨rfl, rfl⟩] | rw [wS_sI, if_neg (by omega)] | rw [wS_sN, if_neg (by omega)] | rw [wS_sR] | rw [wS_sN, if_pos rfl] | rw [wS_sFr, if_neg (by omega)] | rw [wS_sFr, if_pos (by omega)])
      · (repeat first | rw [wS_sI, if_pos ⟨rfl, rfl⟩] | rw [wS_sI, if_neg (by omega)] | rw [wS_sN, if_neg (by omega)] | rw [wS_sR] | rw [wS_sN, if_pos rfl] | rw [wS_sFr, if_neg (by omega)] | rw [wS_sFr, if_pos (by omega)])
  all_goals (repeat first | rw [wS_sI, if_pos ⟨rfl, rfl⟩] | rw [wS_sI, if_neg (by omega)] | rw [wS_sN, if_neg (by omega)] | rw [wS_sR] | rw [wS_sN, if_pos rfl] | rw [wS_sFr, if_neg (by omega)] | rw [wS_sFr, if_pos (by omega)])
