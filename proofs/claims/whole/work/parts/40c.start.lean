/-! THE START: both lights as they are made -/
def A0 (k : Nat) : Nat := if k < 65 then 1 else if k < 67 then 2 else if k = 114 then 3 else if k = 115 then 50 else 0
theorem A0_1 {k : Nat} (h : k < 65) : A0 k = 1 := if_pos h
theorem A0_0 {k : Nat} (h : 67 ≤ k) (h1 : k ≠ 114) (h2 : k ≠ 115) : A0 k = 0 := by
  unfold A0
  rw [if_neg (by omega), if_neg (by omega), if_neg h1, if_neg h2]
theorem colL {n : Nat} : ∀ (m i k : Nat) (c : CiV), i + m = 64 → m < k → (∀ j, j < i → c j = nI 1) → ∃ c2 : CiV, F_X2_init_L14 n k c (nI i) = some c2 ∧ ∀ j, j < 64 → c2 j = nI 1 := by
  intro m
  induction m with
  | zero =>
    intro i k c hi hk hc
    obtain ⟨k, rfl⟩ : ∃ z, k = z + 1 := ⟨k - 1, by omega⟩
    refine ⟨c, ?_, fun j hj => hc j (by omega)⟩
    rw [F_X2_init_L14, if_pos (by rw [lit, nI_leI (by omega) (by omega)]; omega)]
  | succ m ih =>
    intro i k c hi hk hc
    obtain ⟨k, rfl⟩ : ∃ z, k = z + 1 := ⟨k - 1, by omega⟩
    obtain ⟨c2, g1, g2⟩ := ih (i + 1) k (upd c i (nI 1)) (by omega) (by omega) (fun j hj => by
      by_cases e : j = i
      · rw [e, upd_at]
      · rw [upd_ne e]; exact hc j (by omega))
    refine ⟨c2, ?_, g2⟩
    rw [F_X2_init_L14, if_neg (by rw [lit, nI_leI (by omega) (by omega)]; omega), chk_nI (by omega) (by decide), nI_clamp (by omega), nI_1]
    exact g1
theorem start_c {n : Nat} (hn : 100 < n) : ∃ S, F_X7_init n = some S ∧ ∀ w, nIf w A0 → RA 1000000 S w A0 := by
  obtain ⟨c, g1, g2⟩ := colL (n := n) 64 0 n (fun _ => 0) (by omega) (by omega) (fun j hj => by omega)
  have f : F_X4_init = some (Fl_mk (upd (fun _ => 0) 0 2) (upd (fun _ => 0) 0 2) 1 2 2) := rfl
  refine ⟨St_mk (So_mk (fun _ => 0) 0 50 0) c (Fl_mk (upd (fun _ => 0) 0 2) (upd (fun _ => 0) 0 2) 1 2 2) (Ch_mk (fun _ => 0) (fun _ => 0) (fun _ => 0) 0 0 3 0) (Lo_mk (fun _ => 0) (fun _ => 0) (fun _ => 0) (fun _ => 0) (fun _ => 0) 0 0), ?_, fun w hw => ⟨hw, ?_, ⟨rfl, ?_, rfl, rfl⟩, ⟨?_, rfl, rfl, rfl, rfl⟩, ⟨?_, rfl, rfl, rfl⟩, ⟨rfl, rfl, ?_, ?_⟩, ?_, ⟨by decide, by decide, ?_, ?_⟩, ⟨by decide, by decide, by decide, by decide, by decide, by decide, ?_⟩, ⟨by decide, ?_, by decide, by decide, by decide, ?_, by decide⟩⟩⟩
  · unfold F_X7_init F_X2_init
    rw [show F_X2_init_L14 n n (Ci_mk (fun _ => 0)) 0 = some c from g1, bnd_some, f, bnd_some]
    rfl
  · intro j hj
    rw [A0_1 (by omega)]
    exact g2 j hj
  · intro i hi
    have hi : i < 1 := hi
    obtain rfl : i = 0 := by omega
    exact ⟨rfl, rfl⟩
  · intro p hp
    rw [A0_0 (by omega) (by omega) (by omega), A0_0 (by omega) (by omega) (by omega), A0_0 (by omega) (by omega) (by omega)]
    exact ⟨rfl, rfl, rfl⟩
  · intro j hj
    rw [A0_0 (by omega) (by omega) (by omega)]
    rfl
  · intro j hj
    rw [A0_0 (by omega) (by omega) (by omega)]
    rfl
  · intro i hi
    rw [A0_0 (by omega) (by omega) (by omega)] at hi
    omega
  · intro j hj
    rw [A0_1 (by omega)]
    decide
  · intro i hi
    have hi : i < 1 := hi
    obtain rfl : i = 0 := by omega
    decide
  · intro i h1 h2
    have h1 : 1 ≤ i := h1
    exact ⟨A0_0 (by omega) (by omega) (by omega), A0_0 (by omega) (by omega) (by omega)⟩
  · intro p hp
    exact Or.inl ⟨A0_0 (by omega) (by omega) (by omega), A0_0 (by omega) (by omega) (by omega), A0_0 (by omega) (by omega) (by omega), A0_0 (by omega) (by omega) (by omega), A0_0 (by omega) (by omega) (by omega)⟩
  · intro j hj
    rw [A0_0 (by omega) (by omega) (by omega), A0_0 (by omega) (by omega) (by omega)]
    exact Nat.le_refl _
  · intro j hj
    rw [A0_0 (by omega) (by omega) (by omega), A0_0 (by omega) (by omega) (by omega)]
    exact Nat.le_refl _
def setSin (v : MdV) (s : Nat → Int32) : MdV := Md_mk (Md_now v) (Md_past v) (Md_stored v) (Md_kept v) (Md_text v) s (Md_numbers v) (Md_isStored v) (Md_saved v) (Md_length v) (Md_place v) (Md_many v) (Md_wrong v) (Md_reason v) (Md_items v)
theorem sinL1 {n : Nat} : ∀ (m i k : Nat) (v : MdV), i + m = 16 → 1 ≤ i → m < k → ∃ s2, F_X10_init_L143 n k v (nI i) = F_X10_init_L172 n n (setSin v s2) 0 ∧ (∀ j, i ≤ j → j < 16 → s2 (32 - j) = Md_sines v j) ∧ ∀ j, (j ≤ 16 ∨ 32 - i < j) → s2 j = Md_sines v j := by
  intro m
  induction m with
  | zero =>
    intro i k v hi h1 hk
    obtain ⟨k, rfl⟩ : ∃ z, k = z + 1 := ⟨k - 1, by omega⟩
    refine ⟨Md_sines v, ?_, fun j z1 z2 => by omega, fun j _ => rfl⟩
    rw [F_X10_init_L143, if_pos (by rw [lit, nI_leI (by omega) (by omega)]; omega)]
    rfl
  | succ m ih =>
    intro i k v hi h1 hk
    obtain ⟨k, rfl⟩ : ∃ z, k = z + 1 := ⟨k - 1, by omega⟩
    obtain ⟨s2, g1, g2, g3⟩ := ih (i + 1) k (setSin v (upd (Md_sines v) (32 - i) (Md_sines v i))) (by omega) (by omega) (by omega)
    have q : ∀ j, Md_sines (setSin v (upd (Md_sines v) (32 - i) (Md_sines v i))) j = upd (Md_sines v) (32 - i) (Md_sines v i) j := fun j => rfl
    refine ⟨s2, ?_, ?_, ?_⟩
    · rw [F_X10_init_L143, if_neg (by rw [lit, nI_leI (by omega) (by omega)]; omega), show (32 : Int32) - nI i = nI (32 - i) from pk_sub (a := 32) (by omega), chk_nI (by omega) (by decide), chk_nI (by omega) (by decide), nI_clamp (by omega), nI_clamp (by omega), nI_1]
      exact g1
    · intro j z1 z2
      by_cases e : j = i
      · subst e
        rw [g3 _ (by omega), q, upd_at]
      · rw [g2 j (by omega) z2, q, upd_ne (by omega)]
    · intro j hj
      rw [g3 j (by omega), q, upd_ne (by omega)]
theorem sinL2 {n : Nat} : ∀ (m i k : Nat) (v : MdV), i + m = 32 → m < k → ∃ (s2 w2 : Nat → Int32), F_X10_init_L172 n k v (nI i) = some (setNow (setSin v s2) w2) ∧ (∀ j, i ≤ j → j < 32 → s2 (32 + j) = -Md_sines v j) ∧ (∀ j, j < 32 + i → s2 j = Md_sines v j) ∧
    (∀ j, i ≤ j → j < 32 → w2 j = 1 ∧ w2 (32 + j) = 1) ∧ w2 64 = 1 ∧ w2 65 = 2 ∧ w2 66 = 2 ∧ w2 114 = 3 ∧ w2 115 = 50 ∧ ∀ j, (j < i ∨ (32 ≤ j ∧ j < 32 + i) ∨ 67 ≤ j) → j ≠ 114 → j ≠ 115 → w2 j = Md_now v j := by
  intro m
  induction m with
  | zero =>
    intro i k v hi hk
    obtain ⟨k, rfl⟩ : ∃ z, k = z + 1 := ⟨k - 1, by omega⟩
    refine ⟨Md_sines v, upd (upd (upd (upd (upd (Md_now v) 64 1) 65 2) 66 2) 114 3) 115 50, ?_, fun j z1 z2 => by omega, fun j _ => rfl, fun j z1 z2 => by omega, ?_, ?_, ?_, ?_, ?_, ?_⟩
    · rw [F_X10_init_L172, if_pos (by rw [lit, nI_leI (by omega) (by omega)]; omega)]
      rfl
    · rw [upd_ne (by decide), upd_ne (by decide), upd_ne (by decide), upd_ne (by decide), upd_at]
    · rw [upd_ne (by decide), upd_ne (by decide), upd_ne (by decide), upd_at]
    · rw [upd_ne (by decide), upd_ne (by decide), upd_at]
    · rw [upd_ne (by decide), upd_at]
    · rw [upd_at]
    · intro j z1 z2 z3
      rw [upd_ne z3, upd_ne z2, upd_ne (by omega), upd_ne (by omega), upd_ne (by omega)]
  | succ m ih =>
    intro i k v hi hk
    obtain ⟨k, rfl⟩ : ∃ z, k = z + 1 := ⟨k - 1, by omega⟩
    obtain ⟨s2, w2, g1, g2, g3, g4, g5, g6, g7, g8, g9, g10⟩ := ih (i + 1) k (setNow (setSin v (upd (Md_sines v) (32 + i) (-Md_sines v i))) (upd (upd (Md_now v) i 1) (32 + i) 1)) (by omega) (by omega)
    have q : ∀ j, Md_sines (setNow (setSin v (upd (Md_sines v) (32 + i) (-Md_sines v i))) (upd (upd (Md_now v) i 1) (32 + i) 1)) j = upd (Md_sines v) (32 + i) (-Md_sines v i) j := fun j => rfl
    have q2 : ∀ j, Md_now (setNow (setSin v (upd (Md_sines v) (32 + i) (-Md_sines v i))) (upd (upd (Md_now v) i 1) (32 + i) 1)) j = upd (upd (Md_now v) i 1) (32 + i) 1 j := fun j => rfl
    refine ⟨s2, w2, ?_, ?_, ?_, ?_, g5, g6, g7, g8, g9, ?_⟩
    · rw [F_X10_init_L172, if_neg (by rw [lit, nI_leI (by omega) (by omega)]; omega), show (32 : Int32) + nI i = nI (32 + i) from nI_add 32 i, chk_nI (by omega) (by decide), chk_nI (by omega) (by decide), chk_nI (by omega) (by decide), chk_nI (by omega) (by decide), nI_clamp (by omega), nI_clamp (by omega), nI_1]
      exact g1
    · intro j z1 z2
      by_cases e : j = i
      · subst e
        rw [g3 _ (by omega), q, upd_at]
      · rw [g2 j (by omega) z2, q, upd_ne (by omega)]
    · intro j hj
      rw [g3 j (by omega), q, upd_ne (by omega)]
    · intro j z1 z2
      by_cases e : j = i
      · subst e
        rw [g10 j (by omega) (by omega) (by omega), g10 (32 + j) (by omega) (by omega) (by omega), q2, q2, upd_at, upd_ne (by omega), upd_at]
        exact ⟨rfl, rfl⟩
      · exact g4 j (by omega) z2
    · intro j z1 z2 z3
      rw [g10 j (by omega) z2 z3, q2, upd_ne (by omega), upd_ne (by omega)]
def sin0 : Nat → Int32 := upd (upd (upd (upd (upd (upd (upd (upd (upd (upd (upd (upd (upd (upd (upd (upd (upd (fun _ => 0) 0 0) 1 98) 2 195) 3 290) 4 383) 5 471) 6 556) 7 634) 8 707) 9 773) 10 831) 11 882) 12 924) 13 957) 14 981) 15 995) 16 1000
theorem sin0_s : ∀ j, j < 17 → sin0 j = zI (sI j) := by decide +kernel
theorem sI_mirror : ∀ j, j < 16 → sI (32 - j) = sI j := by decide +kernel
def Md0 : MdV := Md_mk (fun _ => 0) (fun _ => 0) (fun _ => 0) (fun _ => 0) (fun _ => 0) (fun _ => 0) (fun _ => 0) 0 0 0 0 0 0 0 0
theorem start_m {n : Nat} (hn : 100 < n) : ∃ v, F_X10_init n = some v ∧ nIf (Md_now v) A0 ∧ RSin v ∧ Md_isStored v = 0 ∧ Md_saved v = 0 ∧ Md_length v = 0 := by
  have e : F_X10_init n = F_X10_init_L143 n n (setSin Md0 sin0) 1 := rfl
  obtain ⟨s1, g1, g2, g3⟩ := sinL1 (n := n) 15 1 n (setSin Md0 sin0) (by omega) (by omega) (by omega)
  obtain ⟨s2, w2, k1, k2, k3, k4, k5, k6, k7, k8, k9, k10⟩ := sinL2 (n := n) 32 0 n (setSin (setSin Md0 sin0) s1) (by omega) (by omega)
  have p1 : ∀ j, j < 32 → s1 j = zI (sI j) := by
    intro j hj
    by_cases c : j ≤ 16
    · rw [g3 j (Or.inl c)]
      exact sin0_s j (by omega)
    · have := g2 (32 - j) (by omega) (by omega)
      rw [show 32 - (32 - j) = j by omega] at this
      rw [this]
      show sin0 (32 - j) = _
      rw [sin0_s _ (by omega), ← sI_mirror (32 - j) (by omega), show 32 - (32 - j) = j by omega]
  refine ⟨setNow (setSin (setSin (setSin Md0 sin0) s1) s2) w2, e.trans (g1.trans k1), ?_, ?_, rfl, rfl, rfl⟩
  · intro j hj
    show w2 j = _
    by_cases c1 : j < 32
    · rw [(k4 j (by omega) c1).1, A0_1 (by omega)]
      rfl
    · by_cases c2 : j < 64
      · have := (k4 (j - 32) (by omega) (by omega)).2
        rw [show 32 + (j - 32) = j by omega] at this
        rw [this, A0_1 (by omega)]
        rfl
      · by_cases c3 : j < 67
        · rcases (show j = 64 ∨ j = 65 ∨ j = 66 by omega) with rfl | rfl | rfl
          · rw [k5]; rfl
          · rw [k6]; rfl
          · rw [k7]; rfl
        · by_cases c4 : j = 114
          · rw [c4, k8]; rfl
          · by_cases c5 : j = 115
            · rw [c5, k9]; rfl
            · rw [k10 j (by omega) c4 c5, A0_0 (by omega) c4 c5]
              rfl
  · intro j hj
    show s2 j = _
    by_cases c : j < 32
    · rw [k3 j (by omega)]
      exact p1 j c
    · have := k2 (j - 32) (by omega) (by omega)
      rw [show 32 + (j - 32) = j by omega] at this
      rw [this]
      show -s1 (j - 32) = _
      rw [p1 _ (by omega), zI_neg, ← sI_half, show j - 32 + 32 = j by omega]
theorem pure_all (L : Nat) (xs : Nat → Int32) (hL : L ≤ 3072) : ∃ (n k : Nat) (u : HLV) (v : MdV), F_X9_init n = some u ∧ F_X10_init n = some v ∧ F_law n L xs k u v 0 = some 1 := by
  obtain ⟨n, hn⟩ : ∃ n, 30000 < n := ⟨30001, by omega⟩
  obtain ⟨S, s1, s2⟩ := start_c (n := n) (by omega)
  obtain ⟨v, v1, v2, v3, v4, v5, v6⟩ := start_m (n := n) (by omega)
  have hS := s2 _ v2
  refine ⟨n, 513, HL_mk (Hx_mk 0) S S S (Hi_mk (Ho_mk 0 0) (pick5 S S S S S)) (Tx_mk (fun _ => 0) (fun _ => 0) 0 0 0 0 0), v, ?_, v1, ?_⟩
  · unfold F_X9_init F_X5_init
    rw [s1]
    rfl
  · have hR : R (HL_mk (Hx_mk 0) S S S (Hi_mk (Ho_mk 0 0) (pick5 S S S S S)) (Tx_mk (fun _ => 0) (fun _ => 0) 0 0 0 0 0)) v := by
      refine ⟨⟨A0, hS⟩, v3, Or.inl ⟨rfl, v4⟩, ⟨0, 0, by omega, by omega, rfl, rfl, v5, fun j hj => by omega⟩, ⟨0, by omega, rfl, v6, fun j hj => by omega⟩⟩
    exact lawL hn hL 512 0 513 _ v hR (by omega) (by omega) (by omega)
