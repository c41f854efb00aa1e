/-! COMPASS: integers in 32 bits, the 64 points -/
def zI (z : Int) : Int32 := Int32.ofInt z
theorem zI_nI (n : Nat) : nI n = zI (n : Int) := Int32.ofInt_eq_ofNat.symm
theorem zI_toInt {z : Int} (h : -2147483648 ≤ z) (h2 : z < 2147483648) : (zI z).toInt = z := Int32.toInt_ofInt_of_le (by omega) (by omega)
theorem zI_of (x : Int32) : x = zI x.toInt := (Int32.ofInt_toInt x).symm
theorem zI_add (a b : Int) : zI a + zI b = zI (a + b) := (Int32.ofInt_add a b).symm
theorem zI_sub (a b : Int) : zI a - zI b = zI (a - b) := (Int32.ofInt_sub a b).symm
theorem zI_mul (a b : Int) : zI a * zI b = zI (a * b) := (Int32.ofInt_mul a b).symm
theorem zI_neg (a : Int) : - zI a = zI (-a) := (Int32.ofInt_neg a).symm
theorem zI_ltI {a b : Int} (h : -2147483648 ≤ a) (h2 : a < 2147483648) (h3 : -2147483648 ≤ b) (h4 : b < 2147483648) : zI a < zI b ↔ a < b := by
  rw [Int32.lt_iff_toInt_lt, zI_toInt h h2, zI_toInt h3 h4]
theorem zI_leI {a b : Int} (h : -2147483648 ≤ a) (h2 : a < 2147483648) (h3 : -2147483648 ≤ b) (h4 : b < 2147483648) : zI a ≤ zI b ↔ a ≤ b := by
  rw [Int32.le_iff_toInt_le, zI_toInt h h2, zI_toInt h3 h4]
theorem zI_eqI {a b : Int} (h : -2147483648 ≤ a) (h2 : a < 2147483648) (h3 : -2147483648 ≤ b) (h4 : b < 2147483648) : zI a = zI b ↔ a = b := by
  rw [← Int32.toInt_inj, zI_toInt h h2, zI_toInt h3 h4]
def sT : List Int := [0, 98, 195, 290, 383, 471, 556, 634, 707, 773, 831, 882, 924, 957, 981, 995, 1000, 995, 981, 957, 924, 882, 831, 773, 707, 634, 556, 471, 383, 290, 195, 98, 0, (-98), (-195), (-290), (-383), (-471), (-556), (-634), (-707), (-773), (-831), (-882), (-924), (-957), (-981), (-995), (-1000), (-995), (-981), (-957), (-924), (-882), (-831), (-773), (-707), (-634), (-556), (-471), (-383), (-290), (-195), (-98)]
def sI (k : Nat) : Int := sT.getD (k % 64) 0
def crs (x y : Int) (k : Nat) : Int := x * sI (k + 16) - y * sI k
theorem crs_0 (u v : Int) : crs u v 0 = u * 1000 - v * 0 := rfl
theorem crs_1 (u v : Int) : crs u v 1 = u * 995 - v * 98 := rfl
theorem crs_2 (u v : Int) : crs u v 2 = u * 981 - v * 195 := rfl
theorem crs_3 (u v : Int) : crs u v 3 = u * 957 - v * 290 := rfl
theorem crs_4 (u v : Int) : crs u v 4 = u * 924 - v * 383 := rfl
theorem crs_5 (u v : Int) : crs u v 5 = u * 882 - v * 471 := rfl
theorem crs_6 (u v : Int) : crs u v 6 = u * 831 - v * 556 := rfl
theorem crs_7 (u v : Int) : crs u v 7 = u * 773 - v * 634 := rfl
theorem crs_8 (u v : Int) : crs u v 8 = u * 707 - v * 707 := rfl
theorem crs_9 (u v : Int) : crs u v 9 = u * 634 - v * 773 := rfl
theorem crs_10 (u v : Int) : crs u v 10 = u * 556 - v * 831 := rfl
theorem crs_11 (u v : Int) : crs u v 11 = u * 471 - v * 882 := rfl
theorem crs_12 (u v : Int) : crs u v 12 = u * 383 - v * 924 := rfl
theorem crs_13 (u v : Int) : crs u v 13 = u * 290 - v * 957 := rfl
theorem crs_14 (u v : Int) : crs u v 14 = u * 195 - v * 981 := rfl
theorem crs_15 (u v : Int) : crs u v 15 = u * 98 - v * 995 := rfl
theorem crs_16 (u v : Int) : crs u v 16 = u * 0 - v * 1000 := rfl
theorem crs_17 (u v : Int) : crs u v 17 = u * (-98) - v * 995 := rfl
theorem crs_18 (u v : Int) : crs u v 18 = u * (-195) - v * 981 := rfl
theorem crs_19 (u v : Int) : crs u v 19 = u * (-290) - v * 957 := rfl
theorem crs_20 (u v : Int) : crs u v 20 = u * (-383) - v * 924 := rfl
theorem crs_21 (u v : Int) : crs u v 21 = u * (-471) - v * 882 := rfl
theorem crs_22 (u v : Int) : crs u v 22 = u * (-556) - v * 831 := rfl
theorem crs_23 (u v : Int) : crs u v 23 = u * (-634) - v * 773 := rfl
theorem crs_24 (u v : Int) : crs u v 24 = u * (-707) - v * 707 := rfl
theorem crs_25 (u v : Int) : crs u v 25 = u * (-773) - v * 634 := rfl
theorem crs_26 (u v : Int) : crs u v 26 = u * (-831) - v * 556 := rfl
theorem crs_27 (u v : Int) : crs u v 27 = u * (-882) - v * 471 := rfl
theorem crs_28 (u v : Int) : crs u v 28 = u * (-924) - v * 383 := rfl
theorem crs_29 (u v : Int) : crs u v 29 = u * (-957) - v * 290 := rfl
theorem crs_30 (u v : Int) : crs u v 30 = u * (-981) - v * 195 := rfl
theorem crs_31 (u v : Int) : crs u v 31 = u * (-995) - v * 98 := rfl
theorem crs_32 (u v : Int) : crs u v 32 = u * (-1000) - v * 0 := rfl
theorem crs_33 (u v : Int) : crs u v 33 = u * (-995) - v * (-98) := rfl
theorem crs_34 (u v : Int) : crs u v 34 = u * (-981) - v * (-195) := rfl
theorem crs_35 (u v : Int) : crs u v 35 = u * (-957) - v * (-290) := rfl
theorem crs_36 (u v : Int) : crs u v 36 = u * (-924) - v * (-383) := rfl
theorem crs_37 (u v : Int) : crs u v 37 = u * (-882) - v * (-471) := rfl
theorem crs_38 (u v : Int) : crs u v 38 = u * (-831) - v * (-556) := rfl
theorem crs_39 (u v : Int) : crs u v 39 = u * (-773) - v * (-634) := rfl
theorem crs_40 (u v : Int) : crs u v 40 = u * (-707) - v * (-707) := rfl
theorem crs_41 (u v : Int) : crs u v 41 = u * (-634) - v * (-773) := rfl
theorem crs_42 (u v : Int) : crs u v 42 = u * (-556) - v * (-831) := rfl
theorem crs_43 (u v : Int) : crs u v 43 = u * (-471) - v * (-882) := rfl
theorem crs_44 (u v : Int) : crs u v 44 = u * (-383) - v * (-924) := rfl
theorem crs_45 (u v : Int) : crs u v 45 = u * (-290) - v * (-957) := rfl
theorem crs_46 (u v : Int) : crs u v 46 = u * (-195) - v * (-981) := rfl
theorem crs_47 (u v : Int) : crs u v 47 = u * (-98) - v * (-995) := rfl
theorem crs_48 (u v : Int) : crs u v 48 = u * 0 - v * (-1000) := rfl
theorem crs_49 (u v : Int) : crs u v 49 = u * 98 - v * (-995) := rfl
theorem crs_50 (u v : Int) : crs u v 50 = u * 195 - v * (-981) := rfl
theorem crs_51 (u v : Int) : crs u v 51 = u * 290 - v * (-957) := rfl
theorem crs_52 (u v : Int) : crs u v 52 = u * 383 - v * (-924) := rfl
theorem crs_53 (u v : Int) : crs u v 53 = u * 471 - v * (-882) := rfl
theorem crs_54 (u v : Int) : crs u v 54 = u * 556 - v * (-831) := rfl
theorem crs_55 (u v : Int) : crs u v 55 = u * 634 - v * (-773) := rfl
theorem crs_56 (u v : Int) : crs u v 56 = u * 707 - v * (-707) := rfl
theorem crs_57 (u v : Int) : crs u v 57 = u * 773 - v * (-634) := rfl
theorem crs_58 (u v : Int) : crs u v 58 = u * 831 - v * (-556) := rfl
theorem crs_59 (u v : Int) : crs u v 59 = u * 882 - v * (-471) := rfl
theorem crs_60 (u v : Int) : crs u v 60 = u * 924 - v * (-383) := rfl
theorem crs_61 (u v : Int) : crs u v 61 = u * 957 - v * (-290) := rfl
theorem crs_62 (u v : Int) : crs u v 62 = u * 981 - v * (-195) := rfl
theorem crs_63 (u v : Int) : crs u v 63 = u * 995 - v * (-98) := rfl
theorem crs_64 (u v : Int) : crs u v 64 = u * 1000 - v * 0 := rfl
theorem sI_in : ∀ k, k < 64 → -1000 ≤ sI k ∧ sI k ≤ 1000 := by decide +kernel
theorem sI_mod (k : Nat) : sI (k % 64) = sI k := by unfold sI; rw [Nat.mod_mod]
theorem sI_bd (k : Nat) : -1000 ≤ sI k ∧ sI k ≤ 1000 := by rw [← sI_mod]; exact sI_in _ (Nat.mod_lt _ (by decide))
theorem sI_per (k : Nat) : sI (k + 64) = sI k := by unfold sI; rw [Nat.add_mod_right]
theorem sI_half0 : ∀ k, k < 64 → sI (k + 32) = -sI k := by decide +kernel
theorem sI_half (k : Nat) : sI (k + 32) = -sI k := by
  rw [← sI_mod k, ← sI_half0 _ (Nat.mod_lt k (by decide)), ← sI_mod (k + 32), ← sI_mod (k % 64 + 32)]
  congr 1
  omega
theorem crs_rot (x y : Int) (k : Nat) : crs x y (k + 16) = crs (-y) x k := by
  unfold crs
  rw [show k + 16 + 16 = k + 32 by omega, sI_half]
  simp only [Int.mul_neg, Int.neg_mul]
  omega
theorem crs_per (x y : Int) (k : Nat) : crs x y (k + 64) = crs x y k := by
  unfold crs
  rw [show k + 64 + 16 = (k + 16) + 64 by omega, sI_per, sI_per]
theorem mul_bd {a b : Int} {A B : Int} (h : -A ≤ a) (h2 : a ≤ A) (h3 : -B ≤ b) (h4 : b ≤ B) (hA : 0 ≤ A) (hB : 0 ≤ B) : -(A * B) ≤ a * b ∧ a * b ≤ A * B := by
  have q : (a * b).natAbs ≤ (A * B).natAbs := by
    rw [Int.natAbs_mul, Int.natAbs_mul]
    exact Nat.mul_le_mul (by omega) (by omega)
  have p : 0 ≤ A * B := Int.mul_nonneg hA hB
  omega
def ok4 (z : Int) : Prop := -10000 ≤ z ∧ z ≤ 10000
theorem crs_bd {x y : Int} (hx : ok4 x) (hy : ok4 y) (k : Nat) : -20000000 ≤ crs x y k ∧ crs x y k ≤ 20000000 := by
  unfold ok4 at hx hy
  have a := sI_bd k
  have b := sI_bd (k + 16)
  have p := mul_bd (A := 10000) (B := 1000) hx.1 hx.2 b.1 b.2 (by decide) (by decide)
  have q := mul_bd (A := 10000) (B := 1000) hy.1 hy.2 a.1 a.2 (by decide) (by decide)
  unfold crs
  omega
theorem mono16 (u v : Int) (hu : 0 ≤ u) (hv : 0 < v) (j : Nat) (hj : j < 16) (h : 0 ≤ crs u v (j + 1)) : 0 ≤ crs u v j := by
  have : j = 0 ∨ j = 1 ∨ j = 2 ∨ j = 3 ∨ j = 4 ∨ j = 5 ∨ j = 6 ∨ j = 7 ∨ j = 8 ∨ j = 9 ∨ j = 10 ∨ j = 11 ∨ j = 12 ∨ j = 13 ∨ j = 14 ∨ j = 15 := by omega
  rcases this with rfl | rfl | rfl | rfl | rfl | rfl | rfl | rfl | rfl | rfl | rfl | rfl | rfl | rfl | rfl | rfl
  all_goals
    simp only [Nat.reduceAdd, crs_0, crs_1, crs_2, crs_3, crs_4, crs_5, crs_6, crs_7, crs_8, crs_9, crs_10, crs_11, crs_12, crs_13, crs_14, crs_15, crs_16, crs_17, crs_18, crs_19, crs_20, crs_21, crs_22, crs_23, crs_24, crs_25, crs_26, crs_27, crs_28, crs_29, crs_30, crs_31, crs_32, crs_33, crs_34, crs_35, crs_36, crs_37, crs_38, crs_39, crs_40, crs_41, crs_42, crs_43, crs_44, crs_45, crs_46, crs_47, crs_48, crs_49, crs_50, crs_51, crs_52, crs_53, crs_54, crs_55, crs_56, crs_57, crs_58, crs_59, crs_60, crs_61, crs_62, crs_63, crs_64] at h ⊢
    omega
theorem no16 (u v : Int) (hu : 0 ≤ u) (hv : 0 < v) (j : Nat) (hj : j < 16) : crs u v (16 + j) < 0 ∧ ¬ (0 ≤ crs u v (32 + j) ∧ crs u v (32 + j + 1) < 0) ∧ 0 ≤ crs u v (48 + j + 1) := by
  have : j = 0 ∨ j = 1 ∨ j = 2 ∨ j = 3 ∨ j = 4 ∨ j = 5 ∨ j = 6 ∨ j = 7 ∨ j = 8 ∨ j = 9 ∨ j = 10 ∨ j = 11 ∨ j = 12 ∨ j = 13 ∨ j = 14 ∨ j = 15 := by omega
  rcases this with rfl | rfl | rfl | rfl | rfl | rfl | rfl | rfl | rfl | rfl | rfl | rfl | rfl | rfl | rfl | rfl
  all_goals
    simp only [Nat.reduceAdd, Nat.add_zero, crs_0, crs_1, crs_2, crs_3, crs_4, crs_5, crs_6, crs_7, crs_8, crs_9, crs_10, crs_11, crs_12, crs_13, crs_14, crs_15, crs_16, crs_17, crs_18, crs_19, crs_20, crs_21, crs_22, crs_23, crs_24, crs_25, crs_26, crs_27, crs_28, crs_29, crs_30, crs_31, crs_32, crs_33, crs_34, crs_35, crs_36, crs_37, crs_38, crs_39, crs_40, crs_41, crs_42, crs_43, crs_44, crs_45, crs_46, crs_47, crs_48, crs_49, crs_50, crs_51, crs_52, crs_53, crs_54, crs_55, crs_56, crs_57, crs_58, crs_59, crs_60, crs_61, crs_62, crs_63, crs_64]
    omega
/-- the first point from k on, of m, that a place lies behind -/
def fndD (x y : Int) : Nat → Nat → Option Nat
  | 0, _ => none
  | m + 1, k => if 0 ≤ crs x y k ∧ crs x y (k + 1) < 0 then some k else fndD x y m (k + 1)
theorem fndD_at (x y : Int) : ∀ (m k g : Nat), k ≤ g → g < k + m → (∀ r, k ≤ r → r < g → ¬ (0 ≤ crs x y r ∧ crs x y (r + 1) < 0)) → (0 ≤ crs x y g ∧ crs x y (g + 1) < 0) → fndD x y m k = some g := by
  intro m
  induction m with
  | zero => intro k g h1 h2; omega
  | succ m ih =>
    intro k g h1 h2 h3 h4
    unfold fndD
    by_cases e : k = g
    · subst e; rw [if_pos h4]
    · rw [if_neg (h3 k (Nat.le_refl _) (by omega))]
      exact ih (k + 1) g (by omega) (by omega) (fun r a b => h3 r (by omega) b) h4
/-- the greatest point of the first quarter that a place there is at or behind -/
def grt (u v : Int) : Nat → Nat
  | 0 => 0
  | k + 1 => if 0 ≤ crs u v (k + 1) then k + 1 else grt u v k
theorem grt_in (u v : Int) (hu : 0 ≤ u) (hv : 0 < v) : ∀ k, k < 16 → crs u v (k + 1) < 0 → grt u v k ≤ k ∧ 0 ≤ crs u v (grt u v k) ∧ crs u v (grt u v k + 1) < 0 := by
  intro k
  induction k with
  | zero =>
    intro _ h
    refine ⟨Nat.le_refl _, ?_, h⟩
    show 0 ≤ crs u v 0
    rw [crs_0]; omega
  | succ k ih =>
    intro hk h
    unfold grt
    by_cases e : 0 ≤ crs u v (k + 1)
    · rw [if_pos e]; exact ⟨Nat.le_refl _, e, h⟩
    · rw [if_neg e]
      obtain ⟨a, b, c⟩ := ih (by omega) (by omega)
      exact ⟨by omega, b, c⟩
theorem quarter (x y u v : Int) (hu : 0 ≤ u) (hv : 0 < v) (q : Nat) (hq : q < 4) (hr : ∀ k, crs x y (k + 16 * q) = crs u v k) : fndD x y 64 0 = some (16 * q + grt u v 15) := by
  obtain ⟨a, b, c⟩ := grt_in u v hu hv 15 (by decide) (by show crs u v 16 < 0; rw [crs_16]; omega)
  refine fndD_at x y 64 0 _ (by omega) (by omega) ?_ ?_
  · intro r _ hrg
    by_cases e : 16 * q ≤ r
    · have e1 : r = (r - 16 * q) + 16 * q := by omega
      have e2 : r + 1 = (r - 16 * q + 1) + 16 * q := by omega
      rw [e2, hr]
      intro hh
      -- below the greatest: the next one is at or behind too
      have down : ∀ d j, j + d = grt u v 15 → 0 ≤ crs u v j := by
        intro d
        induction d with
        | zero => intro j hj; rw [Nat.add_zero] at hj; rw [hj]; exact b
        | succ d ih => intro j hj; exact mono16 u v hu hv j (by omega) (ih (j + 1) (by omega))
      have := down (grt u v 15 - (r - 16 * q + 1)) (r - 16 * q + 1) (by omega)
      omega
    · rw [← crs_per x y r, ← crs_per x y (r + 1), show r + 64 = (r + 64 - 16 * q) + 16 * q by omega, show r + 1 + 64 = (r + 64 - 16 * q + 1) + 16 * q by omega, hr, hr]
      have : (∃ j, j < 16 ∧ r + 64 - 16 * q = 16 + j) ∨ (∃ j, j < 16 ∧ r + 64 - 16 * q = 32 + j) ∨ (∃ j, j < 16 ∧ r + 64 - 16 * q = 48 + j) := by
        by_cases e3 : r + 64 - 16 * q < 32
        · exact Or.inl ⟨r + 64 - 16 * q - 16, by omega, by omega⟩
        · by_cases e4 : r + 64 - 16 * q < 48
          · exact Or.inr (Or.inl ⟨r + 64 - 16 * q - 32, by omega, by omega⟩)
          · exact Or.inr (Or.inr ⟨r + 64 - 16 * q - 48, by omega, by omega⟩)
      rcases this with ⟨j, hj, ej⟩ | ⟨j, hj, ej⟩ | ⟨j, hj, ej⟩
      · rw [ej]; have := (no16 u v hu hv j hj).1; omega
      · rw [ej]; exact (no16 u v hu hv j hj).2.1
      · rw [ej]; have := (no16 u v hu hv j hj).2.2; omega
  · rw [show 16 * q + grt u v 15 = grt u v 15 + 16 * q by omega, hr, show grt u v 15 + 16 * q + 1 = (grt u v 15 + 1) + 16 * q by omega, hr]
    exact ⟨b, c⟩
