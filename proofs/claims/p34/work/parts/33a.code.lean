/-! CODE: sums, lit or not -/
theorem sumL_in {A : Nat → Nat} (h : IFl A) : ∀ k, k ≤ A 64 → k ≤ sumL A k ∧ sumL A k ≤ 60 * k := by
  intro k
  induction k with
  | zero => intro _; exact ⟨Nat.le_refl _, Nat.le_refl _⟩
  | succ k ih =>
    intro hk
    have a := ih (by omega)
    have b := h.2.2.1 k (by omega)
    unfold sumL
    omega
theorem sumD_in {A : Nat → Nat} (h : IFl A) : ∀ k, k ≤ A 64 → sumD A k ≤ 60 * k := by
  intro k
  induction k with
  | zero => intro _; exact Nat.le_refl _
  | succ k ih =>
    intro hk
    have a := ih (by omega)
    have b := h.2.2.1 k (by omega)
    unfold sumD
    omega
def per (A : Nat → Nat) : Nat := sumL A (A 64) + sumD A (A 64)
theorem per_in {A : Nat → Nat} (h : IFl A) : 1 ≤ per A ∧ per A ≤ 960 ∧ 1 ≤ sumL A (A 64) ∧ sumL A (A 64) ≤ 480 ∧ sumD A (A 64) ≤ 480 := by
  have a := sumL_in h (A 64) (Nat.le_refl _)
  have b := sumD_in h (A 64) (Nat.le_refl _)
  have c := h.1
  have d := h.2.1
  unfold per
  omega
theorem now_s {v : MdV} {A : Nat → Nat} (h : nIf (Md_now v) A) {k : Nat} (hk : k < 129) : Md_now v k = nI (A k) := h k hk
theorem light_s {v : MdV} {A : Nat → Nat} (h : nIf (Md_now v) A) {i : Nat} (hi : i < 32) : F_X10_light v (nI i) = some (nI (A (65 + 2 * i))) := by
  unfold F_X10_light
  simp (disch := omega) only [lit, chk_nI, nzd_nI, nI_clamp, nI_leI, nI_ltI, nI_eq, nI_add, pk_mul, bnd_some]
  rw [h _ (by omega)]
theorem dark_s {v : MdV} {A : Nat → Nat} (h : nIf (Md_now v) A) {i : Nat} (hi : i < 31) : F_X10_dark v (nI i) = some (nI (A (66 + 2 * i))) := by
  unfold F_X10_dark
  simp (disch := omega) only [lit, chk_nI, nzd_nI, nI_clamp, nI_leI, nI_ltI, nI_eq, nI_add, pk_mul, bnd_some]
  rw [h _ (by omega), show 65 + 2 * i + 1 = 66 + 2 * i by omega]
theorem lightsL {v : MdV} {A : Nat → Nat} (h : nIf (Md_now v) A) (hI : IFl A) {n : Nat} : ∀ (m i k : Nat), i + m = A 64 → m < k → F_X10_lights_L4 n k v (nI (sumL A i)) (nI i) = some (nI (sumL A (A 64))) := by
  intro m
  have h8 := hI.2.1
  induction m with
  | zero =>
    intro i k hi hk
    obtain ⟨k, rfl⟩ : ∃ z, k = z + 1 := ⟨k - 1, by omega⟩
    rw [F_X10_lights_L4, lit, chk_nI (by omega) (by omega), nI_clamp (by omega), h _ (by omega), if_pos (nI_le (by omega) (by omega))]
    rw [show i = A 64 by omega]
  | succ m ih =>
    intro i k hi hk
    obtain ⟨k, rfl⟩ : ∃ z, k = z + 1 := ⟨k - 1, by omega⟩
    rw [F_X10_lights_L4, lit, chk_nI (by omega) (by omega), nI_clamp (by omega), h _ (by omega), if_neg (nI_ge (by omega) (by omega)), light_s h (by omega), bnd_some, nI_1, nI_add]
    exact ih (i + 1) k (by omega) (by omega)
theorem darksL {v : MdV} {A : Nat → Nat} (h : nIf (Md_now v) A) (hI : IFl A) {n : Nat} : ∀ (m i k : Nat), i + m = A 64 → m < k → F_X10_darks_L4 n k v (nI (sumD A i)) (nI i) = some (nI (sumD A (A 64))) := by
  intro m
  have h8 := hI.2.1
  induction m with
  | zero =>
    intro i k hi hk
    obtain ⟨k, rfl⟩ : ∃ z, k = z + 1 := ⟨k - 1, by omega⟩
    rw [F_X10_darks_L4, lit, chk_nI (by omega) (by omega), nI_clamp (by omega), h _ (by omega), if_pos (nI_le (by omega) (by omega))]
    rw [show i = A 64 by omega]
  | succ m ih =>
    intro i k hi hk
    obtain ⟨k, rfl⟩ : ∃ z, k = z + 1 := ⟨k - 1, by omega⟩
    rw [F_X10_darks_L4, lit, chk_nI (by omega) (by omega), nI_clamp (by omega), h _ (by omega), if_neg (nI_ge (by omega) (by omega)), dark_s h (by omega), bnd_some, nI_1, nI_add]
    exact ih (i + 1) k (by omega) (by omega)
theorem lights_m {v : MdV} {A : Nat → Nat} (h : nIf (Md_now v) A) (hI : IFl A) {n : Nat} (hn : 8 < n) : F_X10_lights n v = some (nI (sumL A (A 64))) := by
  have := hI.2.1
  exact lightsL h hI (n := n) (A 64) 0 n (by omega) (by omega)
theorem darks_m {v : MdV} {A : Nat → Nat} (h : nIf (Md_now v) A) (hI : IFl A) {n : Nat} (hn : 8 < n) : F_X10_darks n v = some (nI (sumD A (A 64))) := by
  have := hI.2.1
  exact darksL h hI (n := n) (A 64) 0 n (by omega) (by omega)
theorem period_m {v : MdV} {A : Nat → Nat} (h : nIf (Md_now v) A) (hI : IFl A) {n : Nat} (hn : 8 < n) : F_X10_period n v = some (nI (per A)) := by
  unfold F_X10_period per
  rw [lights_m h hI hn, darks_m h hI hn, bnd_some, bnd_some, nI_add]
theorem period_c {f : FlV} {A : Nat → Nat} (h : RFl f A) : F_X4_period f = some (nI (per A)) := by
  unfold F_X4_period per
  rw [h.2.2.1, h.2.2.2, nI_add]
def litG (A : Nat → Nat) : Nat → Nat → Nat → Bool
  | 0, _, _ => false
  | m + 1, i, r => if r < A (65 + 2 * i) then true else if r < A (65 + 2 * i) + A (66 + 2 * i) then false else litG A m (i + 1) (r - (A (65 + 2 * i) + A (66 + 2 * i)))
theorem litG_s (A : Nat → Nat) (m i r : Nat) : litG A (m + 1) i r = if r < A (65 + 2 * i) then true else if r < A (65 + 2 * i) + A (66 + 2 * i) then false else litG A m (i + 1) (r - (A (65 + 2 * i) + A (66 + 2 * i))) := rfl
def litA (A : Nat → Nat) (t : Nat) : Bool := litG A (A 64) 0 (t % per A)
theorem litL_c {f : FlV} {A : Nat → Nat} (h : RFl f A) (hI : IFl A) {n : Nat} : ∀ (m i r k : Nat), i + m = A 64 → m < k → r < 1000 → F_X4_isLitAt_L19 n k f (nI r) (nI i) = some (if litG A m i r = true then 1 else 0) := by
  intro m
  have h8 := hI.2.1
  induction m with
  | zero =>
    intro i r k hi hk hr
    obtain ⟨k, rfl⟩ : ∃ z, k = z + 1 := ⟨k - 1, by omega⟩
    rw [F_X4_isLitAt_L19, h.1, if_pos (nI_le (by omega) (by omega))]
    rfl
  | succ m ih =>
    intro i r k hi hk hr
    obtain ⟨k, rfl⟩ : ∃ z, k = z + 1 := ⟨k - 1, by omega⟩
    obtain ⟨e1, e2⟩ := h.2.1 i (by omega)
    obtain ⟨b1, b2, b3⟩ := hI.2.2.1 i (by omega)
    have n8 : ¬ (8 : Int32) ≤ nI i := by rw [lit, nI_leI (by omega) (by omega)]; omega
    rw [F_X4_isLitAt_L19, h.1, if_neg (nI_ge (by omega) (by omega)), if_neg n8, if_neg n8, chk_nI (by omega) (by omega), chk_nI (by omega) (by omega), chk_nI (by omega) (by omega), nI_clamp (by omega), e1, e2, nI_add, litG_s]
    by_cases c1 : r < A (65 + 2 * i)
    · rw [if_neg (nI_ge c1 (by omega)), if_pos c1]
      rfl
    · rw [if_pos (nI_le (by omega) (by omega)), if_neg c1]
      by_cases c2 : r < A (65 + 2 * i) + A (66 + 2 * i)
      · have : ¬ 0 ≤ nI r - nI (A (65 + 2 * i) + A (66 + 2 * i)) := Int32.not_le.mpr (pk_sneg (by omega) c2)
        rw [if_neg this, if_pos c2]
        rfl
      · rw [pk_sub (by omega), if_pos (nI_pos' (by omega)), if_neg c2, nI_1]
        exact ih (i + 1) _ k (by omega) (by omega) (by omega)
theorem litL_m {v : MdV} {A : Nat → Nat} (h : nIf (Md_now v) A) (hI : IFl A) {n : Nat} : ∀ (m i r k : Nat), i + m = A 64 → m < k → r < 1000 → r + sumL A i + sumD A i < per A → F_X10_isLitAt_L9 n k v (nI r) (nI i) = some (if litG A m i r = true then 1 else 0) := by
  intro m
  have h8 := hI.2.1
  induction m with
  | zero =>
    intro i r k hi hk hr hs
    unfold per at hs
    rw [show i = A 64 by omega] at hs
    omega
  | succ m ih =>
    intro i r k hi hk hr hs
    obtain ⟨k, rfl⟩ : ∃ z, k = z + 1 := ⟨k - 1, by omega⟩
    obtain ⟨b1, b2, b3⟩ := hI.2.2.1 i (by omega)
    rw [F_X10_isLitAt_L9, light_s h (by omega), dark_s h (by omega), litG_s]
    simp only [bnd_some]
    rw [nI_add]
    by_cases c2 : r < A (65 + 2 * i) + A (66 + 2 * i)
    · rw [if_pos (nI_lt c2 (by omega)), if_pos c2]
      by_cases c1 : r < A (65 + 2 * i)
      · rw [if_neg (nI_ge c1 (by omega)), if_pos c1]
        rfl
      · rw [if_pos (nI_le (by omega) (by omega)), if_neg c1]
        rfl
    · rw [if_neg (nI_nlt (by omega) (by omega)), if_neg (show ¬ r < A (65 + 2 * i) by omega), if_neg c2, nI_1, pk_sub (by omega)]
      refine ih (i + 1) _ k (by omega) (by omega) (by omega) ?_
      show r - (A (65 + 2 * i) + A (66 + 2 * i)) + (sumL A i + A (65 + 2 * i)) + (sumD A i + A (66 + 2 * i)) < per A
      omega
theorem lit_c {f : FlV} {A : Nat → Nat} (h : RFl f A) (hI : IFl A) {n t : Nat} (hn : 8 < n) (ht : t < 2 ^ 31) : F_X4_isLitAt n f (nI t) = some (if litA A t = true then 1 else 0) := by
  have p := per_in hI
  have h8 := hI.2.1
  have q := Nat.mod_lt t (show 0 < per A by omega)
  unfold F_X4_isLitAt litA
  rw [period_c h, bnd_some, if_pos (by rw [lit, nI_leI (by omega) (by omega)]; omega), nzd_nI (by omega) (by omega), pk_rem ht (by omega) (by omega)]
  exact litL_c h hI (A 64) 0 _ n (by omega) (by omega) (by omega)
theorem lit_m {v : MdV} {A : Nat → Nat} (h : nIf (Md_now v) A) (hI : IFl A) {n t : Nat} (hn : 8 < n) (ht : t < 2 ^ 31) : F_X10_isLitAt n v (nI t) = some (if litA A t = true then 1 else 0) := by
  have p := per_in hI
  have h8 := hI.2.1
  have q := Nat.mod_lt t (show 0 < per A by omega)
  unfold F_X10_isLitAt litA
  rw [period_m h hI hn, bnd_some, nzd_nI (by omega) (by omega), pk_rem ht (by omega) (by omega)]
  exact litL_m h hI (A 64) 0 _ n (by omega) (by omega) (by omega) (by show t % per A + 0 + 0 < per A; omega)
