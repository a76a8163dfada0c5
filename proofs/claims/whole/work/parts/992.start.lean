/-! ===== the start ===== -/
def w0 : Wd := (f_law0 wE).getD wE
theorem w0_some : (f_law0 wE).isSome = true := by decide +kernel
theorem h0_k : f_law0 wE = some w0 := by
  unfold w0
  rcases h : f_law0 wE with _ | a
  · have := w0_some
    rw [h] at this
    exact absurd this (by decide)
  · rfl
theorem i_n : ∀ k : Fin 124, 0 < k.val → wA w0 k.val = 2 := by decide +kernel
theorem i_a : (wS w0 2 4 = 0 ∧ wS w0 63 0 = 0) ∧ (wS w0 2 6 = 0 ∧ wS w0 63 5 = 0) ∧ (wS w0 2 10 = 0 ∧ wS w0 63 7 = 0) ∧ (wS w0 2 15 = 0 ∧ wS w0 63 11 = 0) ∧ (wS w0 3 2 = 0 ∧ wS w0 63 16 = 0) := by decide +kernel
theorem i_6 : (wS w0 3 3 = 4 ∧ wS w0 63 30 = 4) ∧ (wS w0 3 4 = 3 ∧ wS w0 63 47 = 3) ∧ (wS w0 3 5 = 20 ∧ wS w0 63 48 = 20) ∧ (wS w0 3 6 = 12 ∧ wS w0 63 49 = 12) := by decide +kernel
theorem i_7 : (wS w0 4 5 = 0 ∧ wS w0 63 34 = 0) ∧ (wS w0 4 7 = 0 ∧ wS w0 63 42 = 0) := by decide +kernel
theorem i_8 : (wS w0 5 1 = 0 ∧ wS w0 63 50 = 0) ∧ (wS w0 5 3 = 0 ∧ wS w0 63 52 = 0) ∧ (wS w0 5 4 = 2 ∧ wS w0 63 54 = 2) ∧ wS w0 5 7 = 0 ∧ ∀ i : Fin 7, wS w0 31 i.val ≠ 0 := by decide +kernel
theorem i_9 : (wS w0 6 7 = 0 ∧ wS w0 63 59 = 0) ∧ ∀ i : Fin 20, (wS w0 40 i.val = 10 ∧ wS w0 104 i.val = 10) ∧ (wS w0 41 i.val = 0 ∧ wS w0 105 i.val = 0) := by decide +kernel
theorem i_10 : (wS w0 7 2 = 0 ∧ wS w0 63 68 = 0) ∧ (wS w0 7 3 = 1 ∧ wS w0 63 72 = 1) := by decide +kernel
theorem i_11 : wS w0 8 3 = 0 ∧ wS w0 63 74 = 0 := by decide +kernel
theorem i_12 : (wS w0 9 3 = 0 ∧ wS w0 63 83 = 0) ∧ ∀ s : Fin 4, (wS w0 56 s.val ≠ 0 ∧ wS w0 61 s.val = -1 ∧ wS w0 119 s.val = 0 ∧ wS w0 62 s.val = 0 ∧ wS w0 121 s.val = 0) ∧ ∀ i : Fin 60, wS w0 (57 + s.val) i.val = 0 ∧ wS w0 122 (60 * s.val + i.val) = 0 := by decide +kernel
theorem i_b : ∀ i : Fin 10, (wS w0 17 i.val = 0 ∧ wS w0 71 i.val = 0) ∧ (wS w0 21 i.val = 0 ∧ wS w0 75 i.val = 0) := by decide +kernel
theorem i_5 : ∀ c : Fin 4, (wS w0 80 c.val = 0 ∧ wS w0 84 c.val = 0 ∧ wS w0 85 c.val = 0 ∧ wS w0 86 c.val = 0 ∧ wS w0 87 c.val = 0 ∧ wS w0 88 c.val = 0) ∧ ∀ r : Fin 4, wS w0 97 (4 * c.val + r.val) = 0 ∧ wS w0 98 (4 * c.val + r.val) = 20 ∧ wS w0 99 (4 * c.val + r.val) = 0 := by decide +kernel
theorem i_m : (∀ i : Fin 20, wA w0 (300 + i.val) = 0) ∧ (∀ i : Fin 10, wA w0 (330 + i.val) = 0 ∧ wA w0 (350 + i.val) = 0 ∧ wA w0 (370 + i.val) = 0) ∧ (∀ c : Fin 4, ∀ o : Fin 13, wA w0 (K5 c.val + o.val) = 0) ∧ wS w0 999 0 = 0 := by decide +kernel
theorem i_g : ∀ n : Fin 600, wA w0 (2000 + n.val) = 0 := by decide +kernel
theorem nz {k j : Nat} (h : wS w0 k j = 0) : wS w0 k j = nI 0 := h.trans nI_0.symm
theorem RR0 : ∀ n, RR n w0 w0
  | 0 => trivial
  | 1 => ⟨0, by decide, nz i_a.1.1, nz i_a.1.2, fun i hi => absurd hi (Nat.not_lt_zero i)⟩
  | 2 => ⟨0, by decide, nz i_a.2.1.1, nz i_a.2.1.2, fun i hi => absurd hi (Nat.not_lt_zero i)⟩
  | 3 => ⟨0, by decide, nz i_a.2.2.1.1, nz i_a.2.2.1.2, fun i hi => absurd hi (Nat.not_lt_zero i), fun i hi => ⟨(i_b ⟨i, hi⟩).1.1.trans (i_b ⟨i, hi⟩).1.2.symm, Or.inl (i_b ⟨i, hi⟩).1.1⟩⟩
  | 4 => ⟨0, by decide, nz i_a.2.2.2.1.1, nz i_a.2.2.2.1.2, fun i hi => absurd hi (Nat.not_lt_zero i), fun i hi => ⟨(i_b ⟨i, hi⟩).2.1.trans (i_b ⟨i, hi⟩).2.2.symm, Or.inl (i_b ⟨i, hi⟩).2.1⟩⟩
  | 5 => ⟨0, by decide, nz i_a.2.2.2.2.1, nz i_a.2.2.2.2.2, fun i hi => absurd hi (Nat.not_lt_zero i), fun c _ hc => ⟨(i_5 ⟨c, hc⟩).1.1, (i_5 ⟨c, hc⟩).1.2.1, (i_5 ⟨c, hc⟩).1.2.2.1, (i_5 ⟨c, hc⟩).1.2.2.2.1, (i_5 ⟨c, hc⟩).1.2.2.2.2.1, (i_5 ⟨c, hc⟩).1.2.2.2.2.2, fun r hr => (i_5 ⟨c, hc⟩).2 ⟨r, hr⟩⟩⟩
  | 6 => ⟨⟨i_6.1.1.trans i_6.1.2.symm, by rw [i_6.1.1]; exact ⟨by decide, by decide⟩⟩, ⟨i_6.2.1.1.trans i_6.2.1.2.symm, by rw [i_6.2.1.1]; exact ⟨by decide, by decide⟩⟩, ⟨i_6.2.2.1.1.trans i_6.2.2.1.2.symm, by rw [i_6.2.2.1.1]; exact ⟨by decide, by decide⟩⟩, i_6.2.2.2.1.trans i_6.2.2.2.2.symm, by rw [i_6.2.2.2.1]; exact ⟨by decide, by decide⟩⟩
  | 7 => ⟨i_7.1.1.trans i_7.1.2.symm, 0, by decide, nz i_7.2.1, nz i_7.2.2, fun j hj => absurd hj (Nat.not_lt_zero j)⟩
  | 8 => ⟨0, 0, ⟨by decide, by decide, nz i_8.1.1, nz i_8.1.2, nz i_8.2.1.1, nz i_8.2.1.2, fun i hi => absurd hi (Nat.not_lt_zero i), fun i hi => absurd hi (Nat.not_lt_zero i), ⟨i_8.2.2.1.1.trans i_8.2.2.1.2.symm, by rw [i_8.2.2.1.1]; exact ⟨by decide, by decide⟩⟩, fun i hi => i_8.2.2.2.2 ⟨i, hi⟩⟩, Or.inl i_8.2.2.2.1⟩
  | 9 => ⟨0, by decide, nz i_9.1.1, nz i_9.1.2, fun i hi => ⟨⟨(i_9.2 ⟨i, hi⟩).1.1.trans (i_9.2 ⟨i, hi⟩).1.2.symm, by rw [show wS w0 40 i = 10 from (i_9.2 ⟨i, hi⟩).1.1]; exact ⟨by decide, by decide⟩⟩, (i_9.2 ⟨i, hi⟩).2.1.trans (i_9.2 ⟨i, hi⟩).2.2.symm, Or.inl (i_9.2 ⟨i, hi⟩).2.1⟩, fun i hi => absurd hi (Nat.not_lt_zero i)⟩
  | 10 => ⟨0, by decide, nz i_10.1.1, nz i_10.1.2, fun i hi => absurd hi (Nat.not_lt_zero i), i_10.2.1.trans i_10.2.2.symm, by rw [i_10.2.1]; exact ⟨by decide, by decide⟩⟩
  | 11 => ⟨0, by decide, nz i_11.1, nz i_11.2, fun i hi => absurd hi (Nat.not_lt_zero i)⟩
  | 12 => ⟨fun s hs => ⟨(i_12.2 ⟨s, hs⟩).1.1, Or.inl ⟨(i_12.2 ⟨s, hs⟩).1.2.1, (i_12.2 ⟨s, hs⟩).1.2.2.1⟩, ⟨0, by decide, nz (i_12.2 ⟨s, hs⟩).1.2.2.2.1, nz (i_12.2 ⟨s, hs⟩).1.2.2.2.2⟩, fun i hi => ((i_12.2 ⟨s, hs⟩).2 ⟨i, hi⟩).1.trans ((i_12.2 ⟨s, hs⟩).2 ⟨i, hi⟩).2.symm⟩, i_12.1.1.trans i_12.1.2.symm⟩
  | _ + 13 => trivial
theorem WQ0 : ∀ n, WQ 0 n w0
  | 0 => trivial
  | 1 => fun i hi _ => i_m.1 ⟨i, hi⟩
  | 2 => fun i hi _ => (i_m.2.1 ⟨i, hi⟩).1
  | 3 => fun i hi _ => (i_m.2.1 ⟨i, hi⟩).2.1
  | 4 => fun i hi _ => (i_m.2.1 ⟨i, hi⟩).2.2
  | 5 => fun c hc _ o ho => i_m.2.2.1 ⟨c, hc⟩ ⟨o, ho⟩
  | 6 => trivial
  | 7 => trivial
  | 8 => trivial
  | 9 => trivial
  | 10 => trivial
  | 11 => trivial
  | 12 => trivial
  | 13 => ⟨0, by decide, nz i_m.2.2.2, fun n _ hn => i_g ⟨n, hn⟩⟩
  | _ + 14 => trivial
theorem IN0 : IN 0 w0 w0 := ⟨RR0, WQ0⟩
theorem hn_k : ∀ k, 0 < k → k < NB → wA w0 k = 2 := fun k h1 h2 => i_n ⟨k, h2⟩ h1
