/-! ERRORS: areErrors, as a whole -/
def keepsV (u u2 : HLV) : Prop := HL_Hx u2 = HL_Hx u ∧ HL_stored u2 = HL_stored u ∧ Tx_length (HL_text u2) = Tx_length (HL_text u)
theorem keepsU.v {u u2 : HLV} (h : keepsU u u2) : keepsV u u2 := ⟨h.1, h.2.1, by rw [h.2.2]⟩
theorem keepsV.trans {u u2 u3 : HLV} (h : keepsV u u2) (h2 : keepsV u2 u3) : keepsV u u3 := ⟨h2.1.trans h.1, h2.2.1.trans h.2.1, h2.2.2.trans h.2.2⟩
theorem ent_none {M : Nat} {u : HLV} {w : Nat → Int32} {A : Nat → Nat} (hA : RA M (HL_now u) w A) (hM : M < 2 ^ 30) : F_X9_entry u (nI (A 128)) 0 = some (-4) := by
  have k40 := hA.2.2.2.2.2.2.2.2.2.k40
  unfold F_X9_entry
  rw [if_neg (nI_pos (by omega)), show F_X9_isOutside 0 0 3 = some 0 from by decide +kernel, bnd_some, if_pos rfl, kept_s hA hM, bnd_some, if_neg (nI_nlt (Nat.le_refl _) (by omega))]
theorem add_no {n : Nat} {u : HLV} {w : Nat → Int32} {A : Nat → Nat} {M : Nat} (hA : RA M (HL_now u) w A) : F_X9_addLamp n u (1 - nI (A 81)) 1 1 = some (-2, u) := by
  have h81 := hA.2.2.2.2.2.2.2.2.1.1
  have kd := hA.2.2.2.1.2.1
  unfold F_X9_addLamp
  rcases (show A 81 = 0 ∨ A 81 = 1 by omega) with e | e
  · rw [e] at kd ⊢
    rw [show (1 : Int32) - nI 0 = 1 from rfl, show F_X9_isOutside 1 0 1 = some 0 from by decide +kernel, bnd_some, if_pos rfl, show F_X9_isOutside 1 1 2000 = some 0 from by decide +kernel, bnd_some, if_pos rfl, show F_X9_isOutside 1 1 5000 = some 0 from by decide +kernel, bnd_some, if_pos rfl, kd, if_neg (by decide)]
  · rw [e] at kd ⊢
    rw [show (1 : Int32) - nI 1 = 0 from rfl, show F_X9_isOutside 0 0 1 = some 0 from by decide +kernel, bnd_some, if_pos rfl, show F_X9_isOutside 1 1 2000 = some 0 from by decide +kernel, bnd_some, if_pos rfl, show F_X9_isOutside 1 1 5000 = some 0 from by decide +kernel, bnd_some, if_pos rfl, kd, if_neg (by decide)]
theorem count5 {M n : Nat} {u : HLV} {w : Nat → Int32} {A : Nat → Nat} (hA : RA M (HL_now u) w A) : F_X9_count n u 5 = some (nI (A 81)) := by
  show some (Ch_kind (St_Ch (HL_now u))) = _
  rw [hA.2.2.2.1.2.1]
theorem count8 {n : Nat} {u : HLV} {w : Nat → Int32} {A : Nat → Nat} (hA : RA 1000000 (HL_now u) w A) : F_X9_count n u 8 = some (nI (A 128)) := by
  show (F_X6_kept (St_Lo (HL_now u))).bind (fun q => some q) = _
  rw [kept_s hA (by decide), bnd_some]
/-- a light without a text: no fault, whatever the state -/
theorem fault_0 {n : Nat} {u : HLV} (hn : 10 < n) (h : OK u) (ht : Tx_length (HL_text u) = 0) : ∃ u2, F_X9_fault n u 0 = some (-4, u2) ∧ OK u2 ∧ HL_now u2 = HL_now u ∧ keepsV u u2 ∧ HL_hist u2 = HL_hist u := by
  obtain ⟨v, hv⟩ := h
  obtain ⟨S', g1, _, _⟩ := becomeS (S := HL_trial u) hv.1
  obtain ⟨k, rfl⟩ : ∃ z, n = z + 1 := ⟨n - 1, by omega⟩
  have c : F_X8_carryOut (k + 1) (HL_text u) S' = some (1, Tx_mk (Tx_signs (HL_text u)) (Tx_numbers (HL_text u)) (Tx_length (HL_text u)) 0 0 (Tx_faultIndex (HL_text u)) (Tx_faultReason (HL_text u)), S') := by
    unfold F_X8_carryOut
    rw [F_X8_carryOut_L12, if_neg (by decide), if_pos (show Tx_length (HL_text u) ≤ 0 by rw [ht]; decide)]
  refine ⟨HL_mk (HL_Hx u) (HL_now u) (HL_stored u) S' (HL_hist u) (Tx_mk (Tx_signs (HL_text u)) (Tx_numbers (HL_text u)) (Tx_length (HL_text u)) 0 0 (Tx_faultIndex (HL_text u)) (Tx_faultReason (HL_text u))), ?_, ⟨v, hv.1, hv.2.1, hv.2.2.1, hv.2.2.2.1, hv.2.2.2.2⟩, rfl, ⟨rfl, rfl, rfl⟩, rfl⟩
  unfold F_X9_fault
  rw [show F_X9_isOutside 0 0 1 = some 0 from by decide +kernel, bnd_some, if_pos rfl, g1, bnd_some, c, bnd_some, if_neg n10]
theorem err_601 {n : Nat} {u : HLV} {w : Nat → Int32} {a : Int64} (hn : 30000 < n) (h : OK u) (hw : RS (HL_now u) w) (hp : Prt n w a) : ∃ u2, F_L_areErrors_J601 n u a = some (1, u2) ∧ OK u2 ∧ keepsV u u2 := by
  obtain ⟨A, hA, _⟩ := id hw
  obtain ⟨c0, _⟩ := code_s (n := n) (by omega) hA (by decide)
  have a8 := hA.2.2.2.2.2.2.2.1
  have a3 := hA.2.2.1
  have h8 := a8.2.1
  have fin : ∃ u2, ((F_L_print n u).bind fun q => if (lg_cmp q.1 a) = 0 then some ((1 : Int32), q.2) else some (0, q.2)) = some (1, u2) ∧ OK u2 ∧ keepsV u u2 := by
    obtain ⟨u2, g1, g2, g3, _, _⟩ := prt_eq h hw hp
    exact ⟨u2, g1, g2, g3.v⟩
  unfold F_L_areErrors_J601
  rw [c0, bnd_some]
  by_cases c : A 64 < 8
  · rw [if_pos (show nI (A 64) < 8 by rw [lit, nI_ltI (by omega) (by omega)]; exact c)]
    exact fin
  · have full : F_X9_setCode u 1 1 0 = some (-3, u) := by
      unfold F_X9_setCode F_X4_isFull
      rw [show F_X9_isOutside 1 1 60 = some 0 from by decide +kernel, bnd_some, if_pos rfl, show F_X9_isOutside 1 0 60 = some 0 from by decide +kernel, bnd_some, if_pos rfl, show F_X9_isOutside 0 0 1 = some 0 from by decide +kernel, bnd_some, if_pos rfl, if_pos rfl, a3.1, if_neg (show ¬ nI (A 64) < 8 by rw [lit, nI_ltI (by omega) (by omega)]; exact c), bnd_some, if_neg n10]
    rw [if_neg (show ¬ nI (A 64) < 8 by rw [lit, nI_ltI (by omega) (by omega)]; exact c), full, bnd_some, if_pos rfl]
    exact fin
theorem err_571 {n : Nat} {u : HLV} {w : Nat → Int32} {a : Int64} (hn : 30000 < n) (h : OK u) (hw : RS (HL_now u) w) (hp : Prt n w a) : ∃ u2, F_L_areErrors_J571 n u a 1 = some (1, u2) ∧ OK u2 ∧ keepsV u u2 := by
  obtain ⟨A, hA, _⟩ := id hw
  have a4 := hA.2.2.2.1
  have a9 := hA.2.2.2.2.2.2.2.2.1
  have h81 := a9.1
  have ll := cntL_le A 6 0
  have g1 : F_X9_count n u 1 = some (nI (cntL A 6 0)) := by
    show (F_X1_lamps n (St_Ch (HL_now u))).bind (fun q => some q) = _
    rw [lampsE_c (by omega) a4 a9, bnd_some]
  unfold F_L_areErrors_J571
  rw [if_neg n10, g1, bnd_some]
  by_cases c : cntL A 6 0 < 6
  · rw [if_pos (show nI (cntL A 6 0) < 6 by rw [lit, nI_ltI (by omega) (by omega)]; exact c)]
    exact err_601 hn h hw hp
  · have full : F_X9_addLamp n u (nI (A 81)) 1 1 = some (-3, u) := by
      have le : F_X1_lowestEmpty n (St_Ch (HL_now u)) = some (-1) := by
        rcases empty_s (n := n) (v := setNow Mdz w) (by omega) a4 hA.1 a9 with ⟨p, hp6, p0, _, _⟩ | ⟨g, _⟩
        · exact absurd p0 (cntL_full A 6 0 (by omega) p (by omega) (by omega))
        · exact g
      have o1 : F_X9_isOutside (nI (A 81)) 0 1 = some 0 := by
        rcases (show A 81 = 0 ∨ A 81 = 1 by omega) with e | e <;> rw [e] <;> decide +kernel
      unfold F_X9_addLamp
      rw [o1, bnd_some, if_pos rfl, show F_X9_isOutside 1 1 2000 = some 0 from by decide +kernel, bnd_some, if_pos rfl, show F_X9_isOutside 1 1 5000 = some 0 from by decide +kernel, bnd_some, if_pos rfl, a4.2.1, if_pos rfl, le, bnd_some, if_pos rfl]
    rw [if_neg (show ¬ nI (cntL A 6 0) < 6 by rw [lit, nI_ltI (by omega) (by omega)]; exact c), count5 hA, bnd_some, full, bnd_some, if_pos rfl]
    exact err_601 hn h hw hp
theorem err_527 {n : Nat} {u : HLV} {w : Nat → Int32} {a : Int64} (hn : 30000 < n) (h : OK u) (hw : RS (HL_now u) w) (hp : Prt n w a) : ∃ u2, F_L_areErrors_J527 n u a = some (1, u2) ∧ OK u2 ∧ keepsV u u2 := by
  obtain ⟨v, hv⟩ := id h
  unfold F_L_areErrors_J527 F_L_areErrors_J532
  have c11 : F_X9_count n u 11 = if Hx_isStored (HL_Hx u) = 0 then some 0 else some 1 := rfl
  rw [c11]
  rcases hv.2.2.1 with ⟨e1, _⟩ | ⟨e1, _⟩
  · have rc : F_X9_recall u = some (-2, u) := by
      unfold F_X9_recall
      rw [e1, if_pos rfl]
    have cp : F_X9_compare n u 0 = some (-2) := by
      unfold F_X9_compare
      rw [show F_X9_isOutside 0 0 3 = some 0 from by decide +kernel, bnd_some, if_pos rfl, e1, if_pos rfl]
    rw [e1, if_pos rfl, bnd_some, if_pos rfl, if_neg n10, rc, bnd_some, if_pos rfl]
    show ∃ u2, (F_X9_compare n u 0).bind _ = _ ∧ _
    rw [cp, bnd_some, if_pos rfl]
    unfold F_L_areErrors_J570
    exact err_571 hn h hw hp
  · rw [e1, if_neg n10, bnd_some, if_neg n10]
    exact err_571 hn h hw hp
theorem err_480 {n : Nat} {u : HLV} {w : Nat → Int32} {a : Int64} (hn : 30000 < n) (h : OK u) (ht : Tx_length (HL_text u) = 0) (hw : RS (HL_now u) w) (hp : Prt n w a) : ∃ u2, F_L_areErrors_J480 n u a = some (1, u2) ∧ OK u2 ∧ keepsV u u2 := by
  obtain ⟨u1, f1, f2, f3, f4, _⟩ := fault_0 (n := n) (by omega) h ht
  unfold F_L_areErrors_J480
  simp only [er_compare1, er_type1, er_fault1, f1, bnd_some, eq_self, if_true]
  obtain ⟨u2, g1, g2, g3⟩ := err_527 (u := u1) hn f2 (by rw [f3]; exact hw) hp
  exact ⟨u2, g1, g2, f4.trans g3⟩
theorem err_318 {n : Nat} {u : HLV} {w : Nat → Int32} {a : Int64} (hn : 30000 < n) (h : OK u) (ht : Tx_length (HL_text u) = 0) (hw : RS (HL_now u) w) (hp : Prt n w a) : ∃ u2, F_L_areErrors_J318 n u a 1 = some (1, u2) ∧ OK u2 ∧ keepsV u u2 := by
  obtain ⟨A, hA, hB⟩ := id hw
  have hT := hA.tick
  have c8 := count8 (n := n) hA
  have en := ent_none hA (by decide)
  have a6 : F_X9_account u 6 = some (nI (A 122)) := acc_s (k := 6) hA (by decide)
  have l1 := hA.2.2.2.2.2.1.1
  unfold F_L_areErrors_J318
  rw [if_neg n10]
  simp only [er_advance1, er_advance2, er_account1, er_count1, er_sees1, er_sees2, er_pass1, er_pass2, er_entry1, er_entry2, c8, en, er_seen1, a6, bnd_some, eq_self, if_true]
  by_cases c : A 122 = 0
  · have s0 : F_X9_seen u 0 = some (-2) := by
      unfold F_X9_seen
      rw [show F_X9_isOutside 0 0 3 = some 0 from by decide +kernel, bnd_some, if_pos rfl, l1, c, if_pos (show nI 0 = 0 from rfl)]
    rw [c, if_neg (show ¬ (0 : Int32) < nI 0 by decide), s0, bnd_some, if_pos rfl]
    exact err_480 hn h ht hw hp
  · rw [if_pos (show (0 : Int32) < nI (A 122) from nI_lt (a := 0) (by omega) (by omega))]
    exact err_480 hn h ht hw hp
theorem stE {X : Option (Int32 × HLV)} {c : Int32} {v : HLV} {A B : Int32 × HLV → Option (Int32 × HLV)} (h : X = some (c, v)) : (X.bind fun q => if q.1 = c then A q else B q) = A (c, v) := by
  rw [h]
  exact if_pos rfl
theorem stV {X : Option Int32} {c : Int32} {A B : Int32 → Option (Int32 × HLV)} (h : X = some c) : (X.bind fun q => if q = c then A q else B q) = A c := by
  rw [h]
  exact if_pos rfl
theorem sec_64 {M n : Nat} {u : HLV} {w : Nat → Int32} {A : Nat → Nat} (hn : 64 < n) (hA : RA M (HL_now u) w A) : F_X9_sector n u 64 0 = some (-4) := by
  have hN := nSec_in A
  have := sector_s (n := n) (u := u) (s := 64) (w := 0) hn hA.2.1 hA.2.2.2.2.2.2.1 (by omega) (by omega)
  rw [if_neg (by omega)] at this
  exact this
theorem dir_0 {n : Nat} {u : HLV} (hn : 64 < n) : F_X9_direction n u 0 0 = some (-4) := by
  have := direction_s (n := n) (u := u) (x := 0) (y := 0) hn ⟨by decide, by decide⟩ ⟨by decide, by decide⟩
  rw [dirI_00] at this
  exact this
theorem aga_0 {n : Nat} {u : HLV} (hn : 64 < n) : F_X9_again n u 0 0 = some (-4) := by
  have := again_c (n := n) (u := u) (x := 0) (y := 0) hn ⟨by decide, by decide⟩ ⟨by decide, by decide⟩
  rw [dirI_00] at this
  exact this
theorem err_0 {n : Nat} {u u0 : HLV} {w : Nat → Int32} {A : Nat → Nat} {a : Int64} (hn : 30000 < n) (hA : RA 1000000 (HL_now u) w A) (p1 : F_L_print n u0 = some (a, u)) : F_L_areErrors n u0 = F_L_areErrors_J318 n u a 1 := by
  unfold F_L_areErrors
  rw [p1, bnd_some]
  dsimp only
  rw [stE (er_paint1 n u)]
  dsimp only
  rw [stE (er_paint2 n u)]
  dsimp only
  rw [stE (er_paint3 n u)]
  dsimp only
  rw [stV (er_color1 u), stV (er_sector1 n u), stV (er_sector2 n u), stV (sec_64 (by omega) hA), stV (er_direction1 n u), stV (dir_0 (u := u) (by omega)), stV (er_again1 n u), stV (aga_0 (u := u) (by omega))]
  rw [stE (er_setCode1 u)]
  dsimp only
  rw [stE (er_setCode2 u)]
  dsimp only
  rw [stE (er_setCode3 u)]
  dsimp only
  rw [stV (er_code1 n u), stV (er_next1 n u), stE (er_setChanger1 n u)]
  dsimp only
  rw [stE (er_addLamp1 n u)]
  dsimp only
  rw [stE (er_addLamp2 n u)]
  dsimp only
  rw [stE (er_addLamp3 n u)]
  dsimp only
  rw [count5 (n := n) hA, bnd_some, stE (add_no (n := n) hA)]
  dsimp only
  rw [stE (er_takeLamp1 u)]
  dsimp only
  rw [stV (er_lamp1 u), stV (er_lamp2 u), stE (er_set1 u)]
  dsimp only
  rw [stE (er_set2 u)]
  dsimp only
  rw [stE (er_set3 u)]
  dsimp only
  rw [stV (er_rangeBits1 n u)]
theorem areErrors_s {n : Nat} {u : HLV} (hn : 30000 < n) (h : OK u) (ht : Tx_length (HL_text u) = 0) : ∃ u2, F_L_areErrors n u = some (1, u2) ∧ OK u2 ∧ keepsV u u2 := by
  obtain ⟨w, hw⟩ := h.row
  obtain ⟨a, S, p1, hp⟩ := print_s hn h hw
  obtain ⟨A, hA, hB⟩ := id hw
  have hU := h.tr S
  have hAU : RA 1000000 (HL_now (setTr u S)) w A := hA
  rw [err_0 hn hAU p1]
  obtain ⟨u2, g1, g2, g3⟩ := err_318 (u := setTr u S) hn hU ht hw hp
  exact ⟨u2, g1, g2, (setTr_keeps u S).v.trans g3⟩
