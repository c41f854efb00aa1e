/-! PRINT: it tells of the row alone -/
/-- the answers of two lights with one row -/
theorem two_now {u u' : HLV} {w : Nat → Int32} (h : OK u) (hw : RS (HL_now u) w) (hw' : RS (HL_now u') w) : ∃ v, R u v ∧ R (HL_mk (HL_Hx u) (HL_now u') (HL_stored u) (HL_trial u') (HL_hist u) (HL_text u)) v := by
  obtain ⟨v, hv, e⟩ := h.at hw
  subst e
  exact ⟨v, hv, hw', hv.2.1, hv.2.2.1, hv.2.2.2.1, hv.2.2.2.2⟩
section PR
variable {n : Nat} {u u' : HLV} {w : Nat → Int32}
theorem cg_color (h : OK u) (hw : RS (HL_now u) w) (hw' : RS (HL_now u') w) (x : Int32) : ∃ a, F_X9_color u x = some a ∧ F_X9_color u' x = some a := by
  obtain ⟨v, h1, h2⟩ := two_now h hw hw'
  obtain ⟨a, g1, g2⟩ := op_color h1 x
  obtain ⟨b, k1, k2⟩ := op_color h2 x
  obtain rfl := Option.some.inj (g2.symm.trans k2)
  exact ⟨a, g1, k1⟩
theorem cg_code (hn : 30000 < n) (h : OK u) (hw : RS (HL_now u) w) (hw' : RS (HL_now u') w) (x : Int32) : ∃ a, F_X9_code n u x = some a ∧ F_X9_code n u' x = some a := by
  obtain ⟨v, h1, h2⟩ := two_now h hw hw'
  obtain ⟨a, g1, g2⟩ := op_code (n := n) (by omega) h1 x
  obtain ⟨b, k1, k2⟩ := op_code (n := n) (by omega) h2 x
  obtain rfl := Option.some.inj (g2.symm.trans k2)
  exact ⟨a, g1, k1⟩
theorem cg_account (h : OK u) (hw : RS (HL_now u) w) (hw' : RS (HL_now u') w) (x : Int32) : ∃ a, F_X9_account u x = some a ∧ F_X9_account u' x = some a := by
  obtain ⟨v, h1, h2⟩ := two_now h hw hw'
  obtain ⟨a, g1, g2⟩ := op_account h1 x
  obtain ⟨b, k1, k2⟩ := op_account h2 x
  obtain rfl := Option.some.inj (g2.symm.trans k2)
  exact ⟨a, g1, k1⟩
theorem cg_lamp (h : OK u) (hw : RS (HL_now u) w) (hw' : RS (HL_now u') w) (x y : Int32) : ∃ a, F_X9_lamp u x y = some a ∧ F_X9_lamp u' x y = some a := by
  obtain ⟨v, h1, h2⟩ := two_now h hw hw'
  obtain ⟨a, g1, g2⟩ := op_lamp h1 x y
  obtain ⟨b, k1, k2⟩ := op_lamp h2 x y
  obtain rfl := Option.some.inj (g2.symm.trans k2)
  exact ⟨a, g1, k1⟩
theorem cg_entry (h : OK u) (hw : RS (HL_now u) w) (hw' : RS (HL_now u') w) (x y : Int32) : ∃ a, F_X9_entry u x y = some a ∧ F_X9_entry u' x y = some a := by
  obtain ⟨v, h1, h2⟩ := two_now h hw hw'
  obtain ⟨a, g1, g2⟩ := op_entry h1 x y
  obtain ⟨b, k1, k2⟩ := op_entry h2 x y
  obtain rfl := Option.some.inj (g2.symm.trans k2)
  exact ⟨a, g1, k1⟩
theorem cg_seen (h : OK u) (hw : RS (HL_now u) w) (hw' : RS (HL_now u') w) (x : Int32) : ∃ a, F_X9_seen u x = some a ∧ F_X9_seen u' x = some a := by
  obtain ⟨v, h1, h2⟩ := two_now h hw hw'
  obtain ⟨a, g1, g2⟩ := op_seen h1 x
  obtain ⟨b, k1, k2⟩ := op_seen h2 x
  obtain rfl := Option.some.inj (g2.symm.trans k2)
  exact ⟨a, g1, k1⟩
theorem cg_shareBits (hn : 30000 < n) (h : OK u) (hw : RS (HL_now u) w) (hw' : RS (HL_now u') w) : ∃ a, F_X9_shareBits n u = some a ∧ F_X9_shareBits n u' = some a := by
  obtain ⟨v, h1, h2⟩ := two_now h hw hw'
  obtain ⟨a, g1, g2⟩ := op_shareBits (n := n) (by omega) h1
  obtain ⟨b, k1, k2⟩ := op_shareBits (n := n) (by omega) h2
  obtain rfl := Option.some.inj (g2.symm.trans k2)
  exact ⟨a, g1, k1⟩
theorem cg_rangeBits (hn : 30000 < n) (h : OK u) (hw : RS (HL_now u) w) (hw' : RS (HL_now u') w) (x : Int32) : ∃ a, F_X9_rangeBits n u x = some a ∧ F_X9_rangeBits n u' x = some a := by
  obtain ⟨v, h1, h2⟩ := two_now h hw hw'
  obtain ⟨a, g1, g2⟩ := op_rangeBits (n := n) (by omega) h1 x
  obtain ⟨b, k1, k2⟩ := op_rangeBits (n := n) (by omega) h2 x
  obtain rfl := Option.some.inj (g2.symm.trans k2)
  exact ⟨a, g1, k1⟩
theorem count_now {n : Nat} {u u' : HLV} (hn : HL_now u = HL_now u') {i : Nat} (hi : i < 9) : F_X9_count n u (nI i) = F_X9_count n u' (nI i) := by
  have e : i = 0 ∨ i = 1 ∨ i = 2 ∨ i = 3 ∨ i = 4 ∨ i = 5 ∨ i = 6 ∨ i = 7 ∨ i = 8 := by omega
  unfold F_X9_count
  rw [hn]
  rcases e with rfl | rfl | rfl | rfl | rfl | rfl | rfl | rfl | rfl <;> rfl
theorem cg_count (hn : 30000 < n) (h : OK u) (hw : RS (HL_now u) w) (hw' : RS (HL_now u') w) {i : Nat} (hi : i < 9) : ∃ a, F_X9_count n u (nI i) = some a ∧ F_X9_count n u' (nI i) = some a := by
  obtain ⟨v, h1, h2⟩ := two_now h hw hw'
  obtain ⟨a, g1, g2⟩ := op_count (n := n) (by omega) h1 (nI i)
  obtain ⟨b, k1, k2⟩ := op_count (n := n) (by omega) h2 (nI i)
  obtain rfl := Option.some.inj (g2.symm.trans k2)
  exact ⟨a, g1, (count_now (n := n) (u := u') (u' := HL_mk (HL_Hx u) (HL_now u') (HL_stored u) (HL_trial u') (HL_hist u) (HL_text u)) rfl hi).trans k1⟩
theorem prL155 (hn : 30000 < n) (h : OK u) (hw : RS (HL_now u) w) (hw' : RS (HL_now u') w) : ∀ (m i k : Nat) (x : Int64), i + m = 4 → m < k → ∃ (a : Int64) (S S' : StV), F_L_print_L155 n k u x (nI i) = some (a, setTr u S) ∧ F_L_print_L155 n k u' x (nI i) = some (a, setTr u' S') := by
  intro m
  induction m with
  | zero =>
    intro i k x hi hk
    obtain ⟨k, rfl⟩ : ∃ z, k = z + 1 := ⟨k - 1, by omega⟩
    have le : (4 : Int32) ≤ nI i := by rw [lit, nI_leI (by omega) (by omega)]; omega
    obtain ⟨a, a1, a2⟩ := cg_shareBits (n := n) hn h hw hw'
    obtain ⟨b, b1, b2⟩ := cg_rangeBits (n := n) hn h hw hw' 2
    obtain ⟨S, s1⟩ := until_s (n := n) hn hw
    obtain ⟨S', s2⟩ := until_s (n := n) hn hw'
    rw [F_L_print_L155, if_pos le, a1, bnd_some, b1, bnd_some, s1, bnd_some, F_L_print_L155, if_pos le, a2, bnd_some, b2, bnd_some, s2, bnd_some]
    exact ⟨_, S, S', rfl, rfl⟩
  | succ m ih =>
    intro i k x hi hk
    obtain ⟨k, rfl⟩ : ∃ z, k = z + 1 := ⟨k - 1, by omega⟩
    have le : ¬ (4 : Int32) ≤ nI i := by rw [lit, nI_leI (by omega) (by omega)]; omega
    obtain ⟨a, a1, a2⟩ := cg_entry h hw hw' (nI i) (nI i)
    obtain ⟨b, b1, b2⟩ := cg_seen h hw hw' (nI i)
    rw [F_L_print_L155, if_neg le, a1, bnd_some, b1, bnd_some, F_L_print_L155, if_neg le, a2, bnd_some, b2, bnd_some, nI_1]
    exact ih (i + 1) k _ (by omega) (by omega)
theorem prL128 (hn : 30000 < n) (h : OK u) (hw : RS (HL_now u) w) (hw' : RS (HL_now u') w) : ∀ (m i k : Nat) (x : Int64), i + m = 9 → m < k → ∃ (a : Int64) (S S' : StV), F_L_print_L128 n k u x (nI i) = some (a, setTr u S) ∧ F_L_print_L128 n k u' x (nI i) = some (a, setTr u' S') := by
  intro m
  induction m with
  | zero =>
    intro i k x hi hk
    obtain ⟨k, rfl⟩ : ∃ z, k = z + 1 := ⟨k - 1, by omega⟩
    have le : (9 : Int32) ≤ nI i := by rw [lit, nI_leI (by omega) (by omega)]; omega
    rw [F_L_print_L128, if_pos le, F_L_print_L128, if_pos le]
    exact prL155 hn h hw hw' 4 0 n x (by omega) (by omega)
  | succ m ih =>
    intro i k x hi hk
    obtain ⟨k, rfl⟩ : ∃ z, k = z + 1 := ⟨k - 1, by omega⟩
    have le : ¬ (9 : Int32) ≤ nI i := by rw [lit, nI_leI (by omega) (by omega)]; omega
    obtain ⟨a, a1, a2⟩ := cg_count (n := n) hn h hw hw' (i := i) (by omega)
    rw [F_L_print_L128, if_neg le, a1, bnd_some, F_L_print_L128, if_neg le, a2, bnd_some, nI_1]
    exact ih (i + 1) k _ (by omega) (by omega)
theorem prL59 (hn : 30000 < n) (h : OK u) (hw : RS (HL_now u) w) (hw' : RS (HL_now u') w) : ∀ (m i k : Nat) (x : Int64), i + m = 8 → m < k → ∃ (a : Int64) (S S' : StV), F_L_print_L59 n k u x (nI i) = some (a, setTr u S) ∧ F_L_print_L59 n k u' x (nI i) = some (a, setTr u' S') := by
  intro m
  induction m with
  | zero =>
    intro i k x hi hk
    obtain ⟨k, rfl⟩ : ∃ z, k = z + 1 := ⟨k - 1, by omega⟩
    have le : (8 : Int32) ≤ nI i := by rw [lit, nI_leI (by omega) (by omega)]; omega
    rw [F_L_print_L59, if_pos le, F_L_print_L59, if_pos le]
    exact prL128 hn h hw hw' 9 0 n x (by omega) (by omega)
  | succ m ih =>
    intro i k x hi hk
    obtain ⟨k, rfl⟩ : ∃ z, k = z + 1 := ⟨k - 1, by omega⟩
    have le : ¬ (8 : Int32) ≤ nI i := by rw [lit, nI_leI (by omega) (by omega)]; omega
    obtain ⟨a, a1, a2⟩ := cg_account h hw hw' (nI i)
    obtain ⟨b, b1, b2⟩ := cg_lamp h hw hw' (nI i) 3
    obtain ⟨c, c1, c2⟩ := cg_lamp h hw hw' (nI i) 4
    obtain ⟨d, d1, d2⟩ := cg_lamp h hw hw' (nI i) 1
    rw [F_L_print_L59, if_neg le, a1, bnd_some, F_L_print_L59, if_neg le, a2, bnd_some, nI_1]
    by_cases e : (6 : Int32) ≤ nI i
    · rw [if_pos e, if_pos e]
      exact ih (i + 1) k _ (by omega) (by omega)
    · rw [if_neg e, if_neg e, b1, bnd_some, c1, bnd_some, d1, bnd_some, b2, bnd_some, c2, bnd_some, d2, bnd_some]
      exact ih (i + 1) k _ (by omega) (by omega)
theorem prL33 (hn : 30000 < n) (h : OK u) (hw : RS (HL_now u) w) (hw' : RS (HL_now u') w) : ∀ (m i k : Nat) (x : Int64), i + m = 5 → m < k → ∃ (a : Int64) (S S' : StV), F_L_print_L33 n k u x (nI i) = some (a, setTr u S) ∧ F_L_print_L33 n k u' x (nI i) = some (a, setTr u' S') := by
  intro m
  induction m with
  | zero =>
    intro i k x hi hk
    obtain ⟨k, rfl⟩ : ∃ z, k = z + 1 := ⟨k - 1, by omega⟩
    have le : (5 : Int32) ≤ nI i := by rw [lit, nI_leI (by omega) (by omega)]; omega
    rw [F_L_print_L33, if_pos le, F_L_print_L33, if_pos le]
    exact prL59 hn h hw hw' 8 0 n x (by omega) (by omega)
  | succ m ih =>
    intro i k x hi hk
    obtain ⟨k, rfl⟩ : ∃ z, k = z + 1 := ⟨k - 1, by omega⟩
    have le : ¬ (5 : Int32) ≤ nI i := by rw [lit, nI_leI (by omega) (by omega)]; omega
    obtain ⟨a, a1, a2⟩ := cg_code (n := n) hn h hw hw' (nI i)
    rw [F_L_print_L33, if_neg le, a1, bnd_some, F_L_print_L33, if_neg le, a2, bnd_some, nI_1]
    exact ih (i + 1) k _ (by omega) (by omega)
theorem prL6 (hn : 30000 < n) (h : OK u) (hw : RS (HL_now u) w) (hw' : RS (HL_now u') w) : ∀ (m i k : Nat) (x : Int64), i + m = 64 → m < k → ∃ (a : Int64) (S S' : StV), F_L_print_L6 n k u x (nI i) = some (a, setTr u S) ∧ F_L_print_L6 n k u' x (nI i) = some (a, setTr u' S') := by
  intro m
  induction m with
  | zero =>
    intro i k x hi hk
    obtain ⟨k, rfl⟩ : ∃ z, k = z + 1 := ⟨k - 1, by omega⟩
    have le : (64 : Int32) ≤ nI i := by rw [lit, nI_leI (by omega) (by omega)]; omega
    rw [F_L_print_L6, if_pos le, F_L_print_L6, if_pos le]
    exact prL33 hn h hw hw' 5 0 n x (by omega) (by omega)
  | succ m ih =>
    intro i k x hi hk
    obtain ⟨k, rfl⟩ : ∃ z, k = z + 1 := ⟨k - 1, by omega⟩
    have le : ¬ (64 : Int32) ≤ nI i := by rw [lit, nI_leI (by omega) (by omega)]; omega
    obtain ⟨a, a1, a2⟩ := cg_color h hw hw' (nI i)
    rw [F_L_print_L6, if_neg le, a1, bnd_some, F_L_print_L6, if_neg le, a2, bnd_some, nI_1]
    exact ih (i + 1) k _ (by omega) (by omega)
/-- the row w prints a -/
def Prt (n : Nat) (w : Nat → Int32) (a : Int64) : Prop := ∀ u, RS (HL_now u) w → ∃ S, F_L_print n u = some (a, setTr u S)
theorem print_s (hn : 30000 < n) (h : OK u) (hw : RS (HL_now u) w) : ∃ (a : Int64) (S : StV), F_L_print n u = some (a, setTr u S) ∧ Prt n w a := by
  obtain ⟨a, S, S', g1, g2⟩ := prL6 (u' := u) hn h hw hw 64 0 n 17 (by omega) (by omega)
  refine ⟨a, S, g1, fun u' hw' => ?_⟩
  obtain ⟨b, T, T', k1, k2⟩ := prL6 (u' := u') hn h hw hw' 64 0 n 17 (by omega) (by omega)
  have ee := Option.some.inj (g1.symm.trans k1)
  obtain ⟨e1, e2⟩ := Prod.mk.inj ee
  rw [e1]
  exact ⟨T', k2⟩
end PR
