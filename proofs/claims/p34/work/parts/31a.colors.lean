/-! COLORS -/
theorem colorAt_e {c : CiV} {A : Nat → Nat} {x : Int32} {j : Nat} (h : RCi c A) (e : x &&& 63 = nI j) (hj : j < 64) : F_X2_colorAt c x = some (nI (A j)) := by
  unfold F_X2_colorAt
  rw [e]
  simp (disch := omega) only [lit, nI_leI, if_neg, chk_nI, nI_clamp, Ci_colors]
  rw [h _ hj]
theorem colorAt_s {c : CiV} {A : Nat → Nat} {j : Nat} (h : RCi c A) (hj : j < 2 ^ 31) : F_X2_colorAt c (nI j) = some (nI (A (j % 64))) :=
  colorAt_e h (pk_andN (by omega) 6 (by decide)) (Nat.mod_lt _ (by decide))
def beg (A : Nat → Nat) (j : Nat) : Bool := decide (A j ≠ A ((j + 63) % 64))
theorem ICi.lt {A : Nat → Nat} (h : ICi A) (j : Nat) : A (j % 64) < 2 ^ 31 := by
  have := h (j % 64) (Nat.mod_lt _ (by decide))
  omega
theorem isBegin_s {c : CiV} {A : Nat → Nat} {j : Nat} (h : RCi c A) (hI : ICi A) (hj : j < 64) : F_X2_isBegin c (nI j) = some (if beg A j = true then 1 else 0) := by
  have hk : ∀ j, j < 64 → (nI j - 1) &&& 63 = nI ((j + 63) % 64) := by decide +kernel
  have h1 := hI j hj
  have h2 := hI ((j + 63) % 64) (Nat.mod_lt _ (by decide))
  unfold F_X2_isBegin beg
  rw [colorAt_s h (by omega), colorAt_e h (hk j hj) (Nat.mod_lt _ (by decide)), Nat.mod_eq_of_lt hj]
  by_cases e : A j = A ((j + 63) % 64)
  · simp [e]
  · have e2 : ¬ nI (A j) = nI (A ((j + 63) % 64)) := fun z => e ((nI_eq (by omega) (by omega)).mp z)
    simp [e, e2]
theorem begins_s {v : MdV} {A : Nat → Nat} {j : Nat} (h : nIf (Md_now v) A) (hI : ICi A) (hj : j < 64) : F_X10_begins v (nI j) = some (if beg A j = true then 1 else 0) := by
  have h1 := hI j hj
  have hm : (j + 63) % 64 < 64 := Nat.mod_lt _ (by decide)
  have h2 := hI ((j + 63) % 64) hm
  have e1 : (nI j + 64) - 1 = nI (j + 63) := by
    show nI j + nI 64 - nI 1 = _
    rw [nI_add, pk_sub (by omega)]
    rfl
  unfold F_X10_begins beg
  rw [e1, lit, pk_rem (by omega) (by omega) (by omega)]
  rw [chk_nI (by omega) (by omega), chk_nI (by omega) (by omega), nI_clamp (by omega), nI_clamp (by omega), h j (by omega), h _ (by omega)]
  by_cases e : A j = A ((j + 63) % 64)
  · simp [e]
  · have e2 : ¬ nI (A j) = nI (A ((j + 63) % 64)) := fun z => e ((nI_eq (by omega) (by omega)).mp z)
    simp [e, e2]
/-- how many begins stand from i on -/
def cntB (A : Nat → Nat) : Nat → Nat → Nat
  | 0, _ => 0
  | m + 1, i => (if beg A i = true then 1 else 0) + cntB A m (i + 1)
theorem cntB_le (A : Nat → Nat) : ∀ m i, cntB A m i ≤ m := by
  intro m
  induction m with
  | zero => intro i; exact Nat.le_refl _
  | succ m ih =>
    intro i
    have := ih (i + 1)
    unfold cntB
    split <;> omega
theorem sectorsL_c {c : CiV} {A : Nat → Nat} (h : RCi c A) (hI : ICi A) {n : Nat} : ∀ (m i x k : Nat), i + m = 64 → m < k → x ≤ i → F_X2_sectors_L4 n k c (nI x) (nI i) = some (if x + cntB A m i = 0 then 1 else nI (x + cntB A m i)) := by
  intro m
  induction m with
  | zero =>
    intro i x k hi hk hx
    obtain ⟨k, rfl⟩ : ∃ z, k = z + 1 := ⟨k - 1, by omega⟩
    rw [F_X2_sectors_L4, if_pos (by rw [lit, nI_leI (by omega) (by omega)]; omega)]
    unfold cntB
    by_cases e : x = 0
    · subst e; simp [nI_0]
    · have : ¬ nI x = 0 := nI_ne0 (by omega) (by omega)
      simp [e, this]
  | succ m ih =>
    intro i x k hi hk hx
    obtain ⟨k, rfl⟩ : ∃ z, k = z + 1 := ⟨k - 1, by omega⟩
    have hb := cntB_le A m (i + 1)
    rw [F_X2_sectors_L4, if_neg (by rw [lit, nI_leI (by omega) (by omega)]; omega), isBegin_s h hI (by omega), bnd_some]
    by_cases e : beg A i = true
    · rw [if_pos e, if_neg (by decide), nI_1, nI_1, ih (i + 1) (x + 1) k (by omega) (by omega) (by omega), cntB, if_pos e]
      simp only [Nat.add_assoc]
    · rw [if_neg e, if_pos rfl, nI_1, ih (i + 1) x k (by omega) (by omega) (by omega), cntB, if_neg e, Nat.zero_add]
theorem sectorsL_m {v : MdV} {A : Nat → Nat} (h : nIf (Md_now v) A) (hI : ICi A) {n : Nat} : ∀ (m i x k : Nat), i + m = 64 → m < k → x ≤ i → F_X10_sectors_L4 n k v (nI x) (nI i) = some (if x + cntB A m i = 0 then 1 else nI (x + cntB A m i)) := by
  intro m
  induction m with
  | zero =>
    intro i x k hi hk hx
    obtain ⟨k, rfl⟩ : ∃ z, k = z + 1 := ⟨k - 1, by omega⟩
    rw [F_X10_sectors_L4, if_pos (by rw [lit, nI_leI (by omega) (by omega)]; omega)]
    unfold cntB
    by_cases e : x = 0
    · subst e; simp [nI_0]
    · have : ¬ nI x = 0 := nI_ne0 (by omega) (by omega)
      simp [e, this]
  | succ m ih =>
    intro i x k hi hk hx
    obtain ⟨k, rfl⟩ : ∃ z, k = z + 1 := ⟨k - 1, by omega⟩
    have hb := cntB_le A m (i + 1)
    rw [F_X10_sectors_L4, if_neg (by rw [lit, nI_leI (by omega) (by omega)]; omega), begins_s h hI (by omega), bnd_some]
    by_cases e : beg A i = true
    · rw [if_pos e, if_neg (by decide), nI_1, nI_1, ih (i + 1) (x + 1) k (by omega) (by omega) (by omega), cntB, if_pos e]
      simp only [Nat.add_assoc]
    · rw [if_neg e, if_pos rfl, Int32.add_zero, nI_1, ih (i + 1) x k (by omega) (by omega) (by omega), cntB, if_neg e, Nat.zero_add]
def nSec (A : Nat → Nat) : Nat := if cntB A 64 0 = 0 then 1 else cntB A 64 0
theorem nSec_in (A : Nat → Nat) : 1 ≤ nSec A ∧ nSec A ≤ 64 := by
  have := cntB_le A 64 0
  unfold nSec
  split <;> omega
theorem sectors_c {c : CiV} {A : Nat → Nat} (h : RCi c A) (hI : ICi A) {n : Nat} (hn : 64 < n) : F_X2_sectors n c = some (nI (nSec A)) := by
  unfold F_X2_sectors nSec
  have := sectorsL_c h hI (n := n) 64 0 0 n (by omega) (by omega) (by omega)
  rw [nI_0] at this
  rw [this, Nat.zero_add]
  split <;> rfl
theorem sectors_m {v : MdV} {A : Nat → Nat} (h : nIf (Md_now v) A) (hI : ICi A) {n : Nat} (hn : 64 < n) : F_X10_sectors n v = some (nI (nSec A)) := by
  unfold F_X10_sectors nSec
  have := sectorsL_m h hI (n := n) 64 0 0 n (by omega) (by omega) (by omega)
  rw [nI_0] at this
  rw [this, Nat.zero_add]
  split <;> rfl
