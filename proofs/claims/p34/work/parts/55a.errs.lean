/-! ERRORS: calls with an argument out of its range answer -1 and change nothing -/
theorem er_paint1 (n : Nat) (u : HLV) : F_X9_paint n u 4 0 0 = some (-1, u) := by
  unfold F_X9_paint
  simp only [show F_X9_isOutside 4 0 3 = some 1 from by decide +kernel, bnd_some, eq_self, if_true, if_neg n10]
theorem er_paint2 (n : Nat) (u : HLV) : F_X9_paint n u 0 64 0 = some (-1, u) := by
  unfold F_X9_paint
  simp only [show F_X9_isOutside 0 0 3 = some 0 from by decide +kernel, show F_X9_isOutside 64 0 63 = some 1 from by decide +kernel, bnd_some, eq_self, if_true, if_neg n10]
theorem er_paint3 (n : Nat) (u : HLV) : F_X9_paint n u 0 0 (-1) = some (-1, u) := by
  unfold F_X9_paint
  simp only [show F_X9_isOutside 0 0 3 = some 0 from by decide +kernel, show F_X9_isOutside 0 0 63 = some 0 from by decide +kernel, show F_X9_isOutside (-1) 0 63 = some 1 from by decide +kernel, bnd_some, eq_self, if_true, if_neg n10]
theorem er_setCode1 (u : HLV) : F_X9_setCode u 0 0 0 = some (-1, u) := by
  unfold F_X9_setCode
  simp only [show F_X9_isOutside 0 1 60 = some 1 from by decide +kernel, bnd_some, eq_self, if_true, if_neg n10]
theorem er_setCode2 (u : HLV) : F_X9_setCode u 1 61 0 = some (-1, u) := by
  unfold F_X9_setCode
  simp only [show F_X9_isOutside 1 1 60 = some 0 from by decide +kernel, show F_X9_isOutside 61 0 60 = some 1 from by decide +kernel, bnd_some, eq_self, if_true, if_neg n10]
theorem er_setCode3 (u : HLV) : F_X9_setCode u 1 1 2 = some (-1, u) := by
  unfold F_X9_setCode
  simp only [show F_X9_isOutside 1 1 60 = some 0 from by decide +kernel, show F_X9_isOutside 1 0 60 = some 0 from by decide +kernel, show F_X9_isOutside 2 0 1 = some 1 from by decide +kernel, bnd_some, eq_self, if_true, if_neg n10]
theorem er_setChanger1 (n : Nat) (u : HLV) : F_X9_setChanger n u 2 = some (-1, u) := by
  unfold F_X9_setChanger
  simp only [show F_X9_isOutside 2 0 1 = some 1 from by decide +kernel, bnd_some, eq_self, if_true, if_neg n10]
theorem er_addLamp1 (n : Nat) (u : HLV) : F_X9_addLamp n u 2 1 1 = some (-1, u) := by
  unfold F_X9_addLamp
  simp only [show F_X9_isOutside 2 0 1 = some 1 from by decide +kernel, bnd_some, eq_self, if_true, if_neg n10]
theorem er_addLamp2 (n : Nat) (u : HLV) : F_X9_addLamp n u 0 0 1 = some (-1, u) := by
  unfold F_X9_addLamp
  simp only [show F_X9_isOutside 0 0 1 = some 0 from by decide +kernel, show F_X9_isOutside 0 1 2000 = some 1 from by decide +kernel, bnd_some, eq_self, if_true, if_neg n10]
theorem er_addLamp3 (n : Nat) (u : HLV) : F_X9_addLamp n u 0 1 5001 = some (-1, u) := by
  unfold F_X9_addLamp
  simp only [show F_X9_isOutside 0 0 1 = some 0 from by decide +kernel, show F_X9_isOutside 1 1 2000 = some 0 from by decide +kernel, show F_X9_isOutside 5001 1 5000 = some 1 from by decide +kernel, bnd_some, eq_self, if_true, if_neg n10]
theorem er_takeLamp1 (u : HLV) : F_X9_takeLamp u 6 = some (-1, u) := by
  unfold F_X9_takeLamp
  simp only [show F_X9_isOutside 6 0 5 = some 1 from by decide +kernel, bnd_some, eq_self, if_true, if_neg n10]
theorem er_advance1 (n : Nat) (u : HLV) : F_X9_advance n u 0 = some (-1, u) := by
  unfold F_X9_advance
  simp only [show F_X9_isOutside 0 1 2000 = some 1 from by decide +kernel, bnd_some, eq_self, if_true, if_neg n10]
theorem er_advance2 (n : Nat) (u : HLV) : F_X9_advance n u 2001 = some (-1, u) := by
  unfold F_X9_advance
  simp only [show F_X9_isOutside 2001 1 2000 = some 1 from by decide +kernel, bnd_some, eq_self, if_true, if_neg n10]
theorem er_type1 (u : HLV) : F_X9_type u 31 = some (-1, u) := by
  unfold F_X9_type
  simp only [show F_X9_isOutside 31 32 126 = some 1 from by decide +kernel, bnd_some, eq_self, if_true, if_neg n10]
theorem er_color1 (u : HLV) : F_X9_color u 64 = some (-1) := by
  unfold F_X9_color
  simp only [show F_X9_isOutside 64 0 63 = some 1 from by decide +kernel, bnd_some, eq_self, if_true, if_neg n10]
theorem er_lamp1 (u : HLV) : F_X9_lamp u 6 0 = some (-1) := by
  unfold F_X9_lamp
  simp only [show F_X9_isOutside 6 0 5 = some 1 from by decide +kernel, bnd_some, eq_self, if_true, if_neg n10]
theorem er_lamp2 (u : HLV) : F_X9_lamp u 0 6 = some (-1) := by
  unfold F_X9_lamp
  simp only [show F_X9_isOutside 0 0 5 = some 0 from by decide +kernel, show F_X9_isOutside 6 0 5 = some 1 from by decide +kernel, bnd_some, eq_self, if_true, if_neg n10]
theorem er_rangeBits1 (n : Nat) (u : HLV) : F_X9_rangeBits n u 4 = some (-1) := by
  unfold F_X9_rangeBits
  simp only [show F_X9_isOutside 4 0 3 = some 1 from by decide +kernel, bnd_some, eq_self, if_true, if_neg n10]
theorem er_next1 (n : Nat) (u : HLV) : F_X9_next n u 2 = some (-1) := by
  unfold F_X9_next
  simp only [show F_X9_isOutside 2 0 1 = some 1 from by decide +kernel, bnd_some, eq_self, if_true, if_neg n10]
theorem er_seen1 (u : HLV) : F_X9_seen u 4 = some (-1) := by
  unfold F_X9_seen
  simp only [show F_X9_isOutside 4 0 3 = some 1 from by decide +kernel, bnd_some, eq_self, if_true, if_neg n10]
theorem er_compare1 (n : Nat) (u : HLV) : F_X9_compare n u 4 = some (-1) := by
  unfold F_X9_compare
  simp only [show F_X9_isOutside 4 0 3 = some 1 from by decide +kernel, bnd_some, eq_self, if_true, if_neg n10]
theorem er_fault1 (n : Nat) (u : HLV) : F_X9_fault n u 2 = some (-1, u) := by
  unfold F_X9_fault
  simp only [show F_X9_isOutside 2 0 1 = some 1 from by decide +kernel, bnd_some, eq_self, if_true, if_neg n10]
theorem er_sector1 (n : Nat) (u : HLV) : F_X9_sector n u (-1) 0 = some (-1) := by
  unfold F_X9_sector
  rw [if_pos (by decide)]
theorem er_sector2 (n : Nat) (u : HLV) : F_X9_sector n u 0 3 = some (-1) := by
  unfold F_X9_sector
  rw [if_neg (by decide), show F_X9_isOutside 3 0 2 = some 1 from by decide +kernel, bnd_some, if_neg n10]
theorem er_direction1 (n : Nat) (u : HLV) : F_X9_direction n u 10001 0 = some (-1) := by
  unfold F_X9_direction
  rw [show F_X9_isFar 10001 = some 1 from by decide +kernel, bnd_some, if_neg n10]
theorem er_again1 (n : Nat) (u : HLV) : F_X9_again n u 0 (-10001) = some (-1) := by
  unfold F_X9_again
  rw [show F_X9_isFar 0 = some 0 from by decide +kernel, bnd_some, if_pos rfl, show F_X9_isFar (-10001) = some 1 from by decide +kernel, bnd_some, if_neg n10]
theorem er_code1 (n : Nat) (u : HLV) : F_X9_code n u 5 = some (-1) := by
  unfold F_X9_code
  rw [if_neg (by decide), if_neg (by decide), if_neg (by decide), if_neg (by decide), if_neg (by decide)]
theorem er_set1 (u : HLV) : F_X9_set u 2 1 = some (-1, u) := by
  unfold F_X9_set F_X9_set_J49
  rw [if_neg (by decide), if_neg (by decide)]
theorem er_set2 (u : HLV) : F_X9_set u 0 51 = some (-1, u) := by
  unfold F_X9_set F_X9_set_J49
  rw [if_pos rfl, show F_X9_isOutside 51 0 50 = some 1 from by decide +kernel, bnd_some, if_neg n10, if_neg (by decide)]
theorem er_set3 (u : HLV) : F_X9_set u 1 0 = some (-1, u) := by
  unfold F_X9_set F_X9_set_J49
  rw [if_neg (by decide), if_pos rfl, show F_X9_isOutside 0 1 100 = some 1 from by decide +kernel, bnd_some, if_neg n10]
theorem er_account1 (u : HLV) : F_X9_account u 8 = some (-1) := by
  unfold F_X9_account
  rw [if_neg (by decide), if_neg (by decide), if_neg (by decide), if_neg (by decide), if_neg (by decide), if_neg (by decide), if_neg (by decide), if_neg (by decide)]
theorem er_count1 (n : Nat) (u : HLV) : F_X9_count n u 12 = some (-1) := by
  unfold F_X9_count
  rw [if_neg (by decide), if_neg (by decide), if_neg (by decide), if_neg (by decide), if_neg (by decide), if_neg (by decide), if_neg (by decide), if_neg (by decide), if_neg (by decide), if_neg (by decide), if_neg (by decide), if_neg (by decide)]
theorem er_sees1 (n : Nat) (u : HLV) : F_X9_sees n u 10001 0 = some (-1, u) := by
  unfold F_X9_sees
  rw [show F_X9_isFar 10001 = some 1 from by decide +kernel, bnd_some, if_neg n10]
theorem er_sees2 (n : Nat) (u : HLV) : F_X9_sees n u 0 0 = some (-2, u) := by
  unfold F_X9_sees
  rw [show F_X9_isFar 0 = some 0 from by decide +kernel, bnd_some, if_pos rfl, bnd_some, if_pos rfl, if_pos rfl, if_pos rfl]
theorem er_pass1 (n : Nat) (u : HLV) : F_X9_pass n u 0 0 0 10001 1 = some (-1, u) := by
  unfold F_X9_pass
  rw [show F_X9_isFar 0 = some 0 from by decide +kernel, show F_X9_isFar 10001 = some 1 from by decide +kernel]
  simp only [bnd_some, eq_self, if_true, if_neg n10]
theorem er_pass2 (n : Nat) (u : HLV) : F_X9_pass n u 0 0 0 0 501 = some (-1, u) := by
  unfold F_X9_pass
  rw [show F_X9_isFar 0 = some 0 from by decide +kernel, show F_X9_isOutside 501 1 500 = some 1 from by decide +kernel]
  simp only [bnd_some, eq_self, if_true, if_neg n10]
theorem er_entry1 (u : HLV) : F_X9_entry u (-1) 0 = some (-1) := by
  unfold F_X9_entry
  rw [if_pos (by decide)]
theorem er_entry2 (u : HLV) : F_X9_entry u 0 4 = some (-1) := by
  unfold F_X9_entry
  rw [if_neg (by decide), show F_X9_isOutside 4 0 3 = some 1 from by decide +kernel, bnd_some, if_neg n10]
