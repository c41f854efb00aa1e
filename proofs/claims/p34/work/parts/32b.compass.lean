/-! COMPASS: the loops -/
def RSin (v : MdV) : Prop := ∀ k, k < 64 → Md_sines v k = zI (sI k)
def dirI (x y : Int) : Int32 := match fndD x y 64 0 with | some j => nI j | none => -4
theorem fndD_s (x y : Int) (m k : Nat) : fndD x y (m + 1) k = if 0 ≤ crs x y k ∧ crs x y (k + 1) < 0 then some k else fndD x y m (k + 1) := rfl
theorem grt_s (u v : Int) (k : Nat) : grt u v (k + 1) = if 0 ≤ crs u v (k + 1) then k + 1 else grt u v k := rfl
theorem fndD_lt (x y : Int) : ∀ m i j, fndD x y m i = some j → i ≤ j ∧ j < i + m := by
  intro m
  induction m with
  | zero => intro i j h; cases h
  | succ m ih =>
    intro i j h
    unfold fndD at h
    split at h
    · cases h; omega
    · have := ih _ _ h; omega
theorem dirI_cases (x y : Int) : (∃ j, j < 64 ∧ dirI x y = nI j) ∨ dirI x y = -4 := by
  unfold dirI
  cases h : fndD x y 64 0 with
  | none => exact Or.inr rfl
  | some j => exact Or.inl ⟨j, by have := fndD_lt _ _ _ _ _ h; omega, rfl⟩
theorem dirI_some {x y : Int} (h : ¬ (x = 0 ∧ y = 0)) : ∃ j, j < 64 ∧ dirI x y = nI j := by
  have key : ∃ q u v, q < 4 ∧ 0 ≤ u ∧ 0 < v ∧ ∀ k, crs x y (k + 16 * q) = crs u v k := by
    by_cases h0 : 0 ≤ x ∧ 0 < y
    · exact ⟨0, x, y, by decide, h0.1, h0.2, fun k => rfl⟩
    · by_cases h1 : 0 < x
      · exact ⟨1, -y, x, by decide, by omega, h1, fun k => crs_rot x y k⟩
      · by_cases h2 : y < 0
        · refine ⟨2, -x, -y, by decide, by omega, by omega, fun k => ?_⟩
          rw [show k + 16 * 2 = k + 16 + 16 by omega, crs_rot, crs_rot]
        · refine ⟨3, y, -x, by decide, by omega, by omega, fun k => ?_⟩
          rw [show k + 16 * 3 = k + 16 + 16 + 16 by omega, crs_rot, crs_rot, crs_rot, Int.neg_neg]
  obtain ⟨q, u, v, hq, hu, hv, hr⟩ := key
  have := quarter x y u v hu hv q hq hr
  obtain ⟨a, _, _⟩ := grt_in u v hu hv 15 (by decide) (by show crs u v 16 < 0; rw [crs_16]; omega)
  exact ⟨16 * q + grt u v 15, by omega, by unfold dirI; rw [this]⟩
theorem dirI_q {x y u v : Int} (hu : 0 ≤ u) (hv : 0 < v) (q : Nat) (hq : q < 4) (hr : ∀ k, crs x y (k + 16 * q) = crs u v k) : dirI x y = nI (16 * q + grt u v 15) := by
  unfold dirI
  rw [quarter x y u v hu hv q hq hr]
theorem dirI_00 : dirI 0 0 = -4 := by decide +kernel
theorem east_s : ∀ j, j < 128 → F_X3_east (nI j) = some (zI (sI j)) := by decide +kernel
theorem north_s (j : Nat) (h : j < 112) : F_X3_north (nI j) = some (zI (sI (j + 16))) := by
  unfold F_X3_north
  rw [lit, nI_add, east_s _ (by omega)]
  rfl
theorem cross_s {v : MdV} (h : RSin v) {x y : Int} {k : Nat} (hk : k < 1000) : F_X10_cross v (zI x) (zI y) (nI k) = some (zI (crs x y k)) := by
  have m1 : k % 64 < 64 := Nat.mod_lt _ (by decide)
  have m2 : (k + 16) % 64 < 64 := Nat.mod_lt _ (by decide)
  unfold F_X10_cross
  rw [lit, lit, nI_add, pk_rem (by omega) (by decide) (by decide), pk_rem (by omega) (by decide) (by decide), chk_nI m1 (by decide), chk_nI m2 (by decide), nI_clamp (by omega), nI_clamp (by omega), h _ m1, h _ m2, sI_mod, sI_mod, zI_mul, zI_mul, zI_sub]
  rfl
theorem zI_0 : (0 : Int32) = zI 0 := rfl
theorem crs_lt {x y : Int} (hx : ok4 x) (hy : ok4 y) (k : Nat) : (zI (crs x y k) < 0) ↔ crs x y k < 0 := by
  have := crs_bd hx hy k
  rw [zI_0, zI_ltI (by omega) (by omega) (by omega) (by omega)]
theorem crs_le {x y : Int} (hx : ok4 x) (hy : ok4 y) (k : Nat) : (0 ≤ zI (crs x y k)) ↔ 0 ≤ crs x y k := by
  have := crs_bd hx hy k
  rw [zI_0, zI_leI (by omega) (by omega) (by omega) (by omega)]
theorem betweenL {n : Nat} {x y : Int} (hx : ok4 x) (hy : ok4 y) : ∀ (m i k : Nat), i + m = 64 → m < k → F_X3_between_L2 n k (zI x) (zI y) (nI i) = some (match fndD x y m i with | some j => nI j | none => -4) := by
  intro m
  induction m with
  | zero =>
    intro i k hi hk
    obtain ⟨k, rfl⟩ : ∃ z, k = z + 1 := ⟨k - 1, by omega⟩
    rw [F_X3_between_L2, if_pos (by rw [lit, nI_leI (by omega) (by omega)]; omega)]
    rfl
  | succ m ih =>
    intro i k hi hk
    obtain ⟨k, rfl⟩ : ∃ z, k = z + 1 := ⟨k - 1, by omega⟩
    rw [F_X3_between_L2, if_neg (by rw [lit, nI_leI (by omega) (by omega)]; omega), north_s i (by omega), bnd_some, east_s i (by omega), bnd_some, zI_mul, zI_mul, zI_sub, nI_1, north_s _ (by omega), bnd_some, east_s _ (by omega), bnd_some, zI_mul, zI_mul, zI_sub]
    show (if zI (crs x y i) < 0 then _ else if 0 ≤ zI (crs x y (i + 1)) then _ else _) = _
    rw [ih (i + 1) k (by omega) (by omega)]
    simp only [crs_lt hx hy, crs_le hx hy]
    rw [fndD_s]
    by_cases e : crs x y i < 0
    · rw [if_pos e, if_neg (by omega)]
    · rw [if_neg e]
      by_cases e2 : 0 ≤ crs x y (i + 1)
      · rw [if_pos e2, if_neg (fun q => absurd q.2 (by omega))]
      · rw [if_neg e2, if_pos ⟨by omega, by omega⟩]
theorem directionL {n : Nat} {x y : Int} {v : MdV} (h : RSin v) (hx : ok4 x) (hy : ok4 y) : ∀ (m i k : Nat), i + m = 64 → m < k → F_X10_directionOf_L2 n k v (zI x) (zI y) (nI i) = some (match fndD x y m i with | some j => nI j | none => -4) := by
  intro m
  induction m with
  | zero =>
    intro i k hi hk
    obtain ⟨k, rfl⟩ : ∃ z, k = z + 1 := ⟨k - 1, by omega⟩
    rw [F_X10_directionOf_L2, if_pos (by rw [lit, nI_leI (by omega) (by omega)]; omega)]
    rfl
  | succ m ih =>
    intro i k hi hk
    obtain ⟨k, rfl⟩ : ∃ z, k = z + 1 := ⟨k - 1, by omega⟩
    rw [F_X10_directionOf_L2, if_neg (by rw [lit, nI_leI (by omega) (by omega)]; omega), cross_s h (by omega), bnd_some, nI_1, cross_s h (by omega), bnd_some]
    rw [ih (i + 1) k (by omega) (by omega)]
    simp only [crs_lt hx hy, crs_le hx hy]
    rw [fndD_s]
    by_cases e : crs x y i < 0
    · rw [if_pos e, if_neg (by omega)]
    · rw [if_neg e]
      by_cases e2 : 0 ≤ crs x y (i + 1)
      · rw [if_pos e2, if_neg (fun q => absurd q.2 (by omega))]
      · rw [if_neg e2, if_pos ⟨by omega, by omega⟩]
theorem between_s {n : Nat} {x y : Int} (hn : 64 < n) (hx : ok4 x) (hy : ok4 y) : F_X3_between n (zI x) (zI y) = some (dirI x y) := betweenL hx hy 64 0 n (by decide) hn
theorem directionOf_s {n : Nat} {x y : Int} {v : MdV} (hn : 64 < n) (h : RSin v) (hx : ok4 x) (hy : ok4 y) : F_X10_directionOf n v (zI x) (zI y) = some (dirI x y) := directionL h hx hy 64 0 n (by decide) hn
theorem greatL {n : Nat} {x y : Int} (hx : ok4 x) (hy : ok4 y) : ∀ (i k : Nat), i < 16 → i < k → F_X3_greatestPoint_L3 n k (zI x) (zI y) (nI i) = some (nI (grt x y i)) := by
  intro i
  induction i with
  | zero =>
    intro k hi hk
    obtain ⟨k, rfl⟩ : ∃ z, k = z + 1 := ⟨k - 1, by omega⟩
    rfl
  | succ i ih =>
    intro k hi hk
    obtain ⟨k, rfl⟩ : ∃ z, k = z + 1 := ⟨k - 1, by omega⟩
    have a := sI_bd (i + 1)
    have b := sI_bd (i + 1 + 16)
    have p := mul_bd (A := 10000) (B := 1000) hx.1 hx.2 b.1 b.2 (by decide) (by decide)
    have q := mul_bd (A := 10000) (B := 1000) hy.1 hy.2 a.1 a.2 (by decide) (by decide)
    rw [F_X3_greatestPoint_L3, if_neg (nI_nle (by omega) (by omega)), north_s _ (by omega), bnd_some, east_s _ (by omega), bnd_some, zI_mul, zI_mul, pk_m1, ih k (by omega) (by omega)]
    simp only [zI_ltI (a := x * sI (i + 1 + 16)) (b := y * sI (i + 1)) (by omega) (by omega) (by omega) (by omega)]
    rw [grt_s]
    unfold crs
    by_cases e : x * sI (i + 1 + 16) < y * sI (i + 1)
    · rw [if_pos e, if_neg (by omega)]
    · rw [if_neg e, if_pos (by omega)]
theorem great_s {n : Nat} {x y : Int} (hn : 16 < n) (hx : ok4 x) (hy : ok4 y) : F_X3_greatestPoint n (zI x) (zI y) = some (nI (grt x y 15)) := greatL hx hy 15 n (by decide) (by omega)
theorem ok4.neg {x : Int} (h : ok4 x) : ok4 (-x) := by unfold ok4 at *; omega
theorem byQuarter_s {n : Nat} {x y : Int} (hn : 16 < n) (hx : ok4 x) (hy : ok4 y) : F_X3_byQuarter n (zI x) (zI y) = some (dirI x y) := by
  have hx2 := hx
  have hy2 := hy
  unfold ok4 at hx2 hy2
  unfold F_X3_byQuarter F_X3_byQuarter_J14
  rw [zI_neg, zI_neg, great_s hn hx hy, great_s hn hy.neg hx, great_s hn hx.neg hy.neg, great_s hn hy hx.neg]
  simp only [bnd_some, zI_0, zI_ltI (a := x) (b := 0) (by omega) (by omega) (by omega) (by omega), zI_leI (a := y) (b := 0) (by omega) (by omega) (by omega) (by omega), zI_leI (a := x) (b := 0) (by omega) (by omega) (by omega) (by omega), zI_leI (b := x) (a := 0) (by omega) (by omega) (by omega) (by omega), zI_leI (b := y) (a := 0) (by omega) (by omega) (by omega) (by omega)]
  have rest : ¬ (0 ≤ x ∧ 0 < y) → (if x ≤ 0 then if 0 ≤ y then if 0 ≤ x then some (-4) else some (48 + nI (grt y (-x) 15)) else some (32 + nI (grt (-x) (-y) 15)) else some (16 + nI (grt (-y) x 15))) = some (dirI x y) := by
    intro h0
    by_cases h1 : x ≤ 0
    · rw [if_pos h1]
      by_cases h2 : 0 ≤ y
      · rw [if_pos h2]
        by_cases h3 : 0 ≤ x
        · have e1 : x = 0 := by omega
          have e2 : y = 0 := by omega
          rw [if_pos h3, e1, e2, dirI_00]
        · rw [if_neg h3, dirI_q (u := y) (v := -x) (by omega) (by omega) 3 (by decide) (fun k => by rw [show k + 16 * 3 = k + 16 + 16 + 16 by omega, crs_rot, crs_rot, crs_rot, Int.neg_neg]), lit, nI_add]
      · rw [if_neg h2, dirI_q (u := -x) (v := -y) (by omega) (by omega) 2 (by decide) (fun k => by rw [show k + 16 * 2 = k + 16 + 16 by omega, crs_rot, crs_rot]), lit, nI_add]
    · rw [if_neg h1, dirI_q (u := -y) (v := x) (by omega) (by omega) 1 (by decide) (fun k => crs_rot x y k), lit, nI_add]
  by_cases h : x < 0
  · rw [if_pos h]; exact rest (by omega)
  · rw [if_neg h]
    by_cases h2 : y ≤ 0
    · rw [if_pos h2]; exact rest (by omega)
    · rw [if_neg h2, dirI_q (u := x) (v := y) (by omega) (by omega) 0 (by decide) (fun k => rfl), Nat.mul_zero, Nat.zero_add]
theorem againL {n : Nat} {x y : Int} {v : MdV} {q : Nat} (h : RSin v) (hx : ok4 x) (hy : ok4 y) (hq : q < 4) : ∀ (m i k : Nat), i + m = 16 → m < k → F_X10_again_L119 n k v (nI q) (zI x) (zI y) (nI (grt x y (i - 1))) (nI i) = some (nI (16 * q + grt x y 15)) := by
  intro m
  induction m with
  | zero =>
    intro i k hi hk
    obtain ⟨k, rfl⟩ : ∃ z, k = z + 1 := ⟨k - 1, by omega⟩
    rw [F_X10_again_L119, if_pos (by rw [lit, nI_leI (by omega) (by omega)]; omega), show i - 1 = 15 by omega, lit, pk_mul, nI_add]
  | succ m ih =>
    intro i k hi hk
    obtain ⟨k, rfl⟩ : ∃ z, k = z + 1 := ⟨k - 1, by omega⟩
    rw [F_X10_again_L119, if_neg (by rw [lit, nI_leI (by omega) (by omega)]; omega), cross_s h (by omega), bnd_some, nI_1]
    simp only [crs_lt hx hy]
    have := ih (i + 1) k (by omega) (by omega)
    rw [Nat.add_sub_cancel] at this
    by_cases e : crs x y i < 0
    · rw [if_pos e]
      by_cases e0 : i = 0
      · subst e0; exact this
      · obtain ⟨j, rfl⟩ : ∃ z, i = z + 1 := ⟨i - 1, by omega⟩
        rw [Nat.add_sub_cancel]
        rw [grt_s, if_neg (by omega)] at this
        exact this
    · rw [if_neg e]
      by_cases e0 : i = 0
      · subst e0; exact this
      · obtain ⟨j, rfl⟩ : ∃ z, i = z + 1 := ⟨i - 1, by omega⟩
        have g : grt x y (j + 1) = j + 1 := by rw [grt_s]; exact if_pos (by omega)
        rw [g] at this
        exact this
