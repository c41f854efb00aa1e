/-! COMPARING two states of one row -/
theorem same_A {M M2 : Nat} {S S2 : StV} {w : Nat → Int32} {A B : Nat → Nat} (hA : RA M S w A) (hB : RA M2 S2 w B) : (∀ j, j < 64 → A j = B j) ∧ (∀ j, 64 ≤ j → j < 81 → A j = B j) ∧ (∀ p, p < 6 → ∀ j, 82 + 5 * p ≤ j → j < 82 + 5 * p + 5 → A j = B j) := by
  have e : ∀ j, j < 129 → A j < 2 ^ 31 → B j < 2 ^ 31 → A j = B j := fun j hj h1 h2 => (nI_eq h1 h2).mp ((hA.1 j hj).symm.trans (hB.1 j hj))
  have a7 := hA.2.2.2.2.2.2.1
  have b7 := hB.2.2.2.2.2.2.1
  have a8 := hA.2.2.2.2.2.2.2.1
  have b8 := hB.2.2.2.2.2.2.2.1
  have a9 := hA.2.2.2.2.2.2.2.2.1
  have b9 := hB.2.2.2.2.2.2.2.2.1
  refine ⟨fun j hj => ?_, fun j h1 h2 => e j (by omega) (a8.bd h1 h2) (b8.bd h1 h2), fun p hp j h1 h2 => e j (by omega) (a9.bd hp h1 h2) (b9.bd hp h1 h2)⟩
  have := a7 j hj
  have := b7 j hj
  exact e j (by omega) (by omega) (by omega)
theorem difE {n : Nat} {c c2 : ChV} {A B : Nat → Nat} (h1 : RCh c A) (h2 : RCh c2 B) (i1 : ICh A) (i2 : ICh B) (he : ∀ p, p < 6 → ∀ j, 82 + 5 * p ≤ j → j < 82 + 5 * p + 5 → A j = B j) : ∀ (m i k : Nat) (r : Int32), i + m = 6 → m < k → F_X1_differences_L4 n k c c2 r (nI i) = some r := by
  intro m
  induction m with
  | zero =>
    intro i k r hi hk
    obtain ⟨k, rfl⟩ : ∃ z, k = z + 1 := ⟨k - 1, by omega⟩
    rw [F_X1_differences_L4, if_pos (show (6 : Int32) ≤ nI i by rw [lit, nI_leI (by omega) (by omega)]; omega)]
  | succ m ih =>
    intro i k r hi hk
    obtain ⟨k, rfl⟩ : ∃ z, k = z + 1 := ⟨k - 1, by omega⟩
    have c0 : cntD A B 5 (82 + 5 * i) = 0 := (cntD_0 A B 5 (82 + 5 * i)).mpr (he i (by omega))
    rw [F_X1_differences_L4, if_neg (show ¬ (6 : Int32) ≤ nI i by rw [lit, nI_leI (by omega) (by omega)]; omega), likeLamp_s h1 h2 i1 i2 (by omega), c0, if_pos rfl, bnd_some, if_neg n10, nI_1]
    exact ih (i + 1) k r (by omega) (by omega)
theorem cmp_s {n : Nat} {u : HLV} {w : Nat → Int32} (hn : 100 < n) (h1 : RS (HL_now u) w) (h2 : RS (HL_stored u) w) (hi : Hx_isStored (HL_Hx u) = 1) : F_X9_compare n u 0 = some 0 ∧ F_X9_compare n u 1 = some 0 ∧ F_X9_compare n u 2 = some 0 ∧ F_X9_compare n u 3 = some 1000000 := by
  obtain ⟨A, hA, _⟩ := h1
  obtain ⟨B, hB, _⟩ := h2
  obtain ⟨e1, e2, e3⟩ := same_A hA hB
  obtain ⟨a1, a2, a3, a4, a5, a6, a7, a8, a9, a10⟩ := hA
  obtain ⟨b1, b2, b3, b4, b5, b6, b7, b8, b9, b10⟩ := hB
  have head : ∀ k : Int32, F_X9_isOutside k 0 3 = some 0 → F_X9_compare n u k = if k = 0 then (F_X2_differences n (St_Ci (HL_now u)) (St_Ci (HL_stored u))).bind fun q2 => some q2 else if k = 1 then (F_X4_isLike n (St_Fl (HL_now u)) (St_Fl (HL_stored u))).bind fun q3 => if q3 = 0 then some 1 else some 0 else if k = 2 then (F_X1_differences n (St_Ch (HL_now u)) (St_Ch (HL_stored u))).bind fun q4 => some q4 else some (((So_tick (St_So (HL_now u))) - (So_tick (St_So (HL_stored u)))) + 1000000) := by
    intro k hk
    unfold F_X9_compare
    rw [hk, bnd_some, if_pos rfl, hi, if_neg n10]
  refine ⟨?_, ?_, ?_, ?_⟩
  · have c0 : cntD A B 64 0 = 0 := (cntD_0 A B 64 0).mpr (fun j _ hj => e1 j (by omega))
    have d := dif0L (n := n) a2 b2 a7 b7 64 0 0 n (by omega) (by omega)
    have d' : F_X2_differences n (St_Ci (HL_now u)) (St_Ci (HL_stored u)) = some (nI (0 + cntD A B 64 0)) := d
    rw [head 0 (by decide +kernel), if_pos rfl, d', bnd_some, c0]
    rfl
  · have c0 : cntD A B 17 64 = 0 := (cntD_0 A B 17 64).mpr (fun j h1 hj => e2 j h1 (by omega))
    rw [head 1 (by decide +kernel), if_neg n10, if_pos rfl, isLike_s (by omega) a3 b3 a8 b8, c0, if_pos rfl, bnd_some, if_neg n10]
  · have d : F_X1_differences n (St_Ch (HL_now u)) (St_Ch (HL_stored u)) = some 0 := difE a4 b4 a9 b9 e3 6 0 n 0 (by omega) (by omega)
    rw [head 2 (by decide +kernel), if_neg (by decide), if_neg (by decide), if_pos rfl, d, bnd_some]
  · have t : So_tick (St_So (HL_now u)) = So_tick (St_So (HL_stored u)) := by
      rw [a5.2.1, b5.2.1, ← a1 116 (by decide), b1 116 (by decide)]
    rw [head 3 (by decide +kernel), if_neg (by decide), if_neg (by decide), if_neg (by decide), t, Int32.sub_self, Int32.zero_add]
