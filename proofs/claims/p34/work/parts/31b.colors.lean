/-! COLORS: where a sector begins, how long it is -/
def fndB (A : Nat → Nat) : Nat → Nat → Nat → Option Nat
  | 0, _, _ => none
  | m + 1, i, t => if beg A i = true then (if t = 0 then some i else fndB A m (i + 1) (t - 1)) else fndB A m (i + 1) t
theorem fndB_none (A : Nat → Nat) : ∀ m i t, fndB A m i t = none ↔ cntB A m i ≤ t := by
  intro m
  induction m with
  | zero => intro i t; simp [fndB, cntB]
  | succ m ih =>
    intro i t
    unfold fndB cntB
    by_cases e : beg A i = true
    · rw [if_pos e, if_pos e]
      by_cases e2 : t = 0
      · rw [if_pos e2]
        constructor
        · intro h; cases h
        · intro h; omega
      · rw [if_neg e2, ih]
        omega
    · rw [if_neg e, if_neg e, ih]
      omega
theorem fndB_lt (A : Nat → Nat) : ∀ m i t j, fndB A m i t = some j → i ≤ j ∧ j < i + m := by
  intro m
  induction m with
  | zero => intro i t j h; cases h
  | succ m ih =>
    intro i t j h
    unfold fndB at h
    split at h
    · split at h
      · cases h; omega
      · have := ih _ _ _ h; omega
    · have := ih _ _ _ h; omega
theorem beginOfL_c {c : CiV} {A : Nat → Nat} (h : RCi c A) (hI : ICi A) {n : Nat} : ∀ (m i b k s : Nat), i + m = 64 → m < k → b ≤ i → b ≤ s → s < 2 ^ 31 → F_X2_beginOf_L4 n k c (nI s) (nI b) (nI i) = some (match fndB A m i (s - b) with | some j => nI j | none => if b + cntB A m i = 0 ∧ s = 0 then nI 0 else -1) := by
  intro m
  induction m with
  | zero =>
    intro i b k s hi hk hb hs hs2
    obtain ⟨k, rfl⟩ : ∃ z, k = z + 1 := ⟨k - 1, by omega⟩
    rw [F_X2_beginOf_L4, if_pos (by rw [lit, nI_leI (by omega) (by omega)]; omega)]
    unfold fndB cntB
    by_cases e : b = 0
    · subst e
      rw [if_pos (nI_0)]
      by_cases e2 : s = 0
      · subst e2; rfl
      · rw [if_neg (nI_ne0 (by omega) (by omega))]
        simp [e2]
    · rw [if_neg (nI_ne0 (by omega) (by omega))]
      simp [e]
  | succ m ih =>
    intro i b k s hi hk hb hs hs2
    obtain ⟨k, rfl⟩ : ∃ z, k = z + 1 := ⟨k - 1, by omega⟩
    rw [F_X2_beginOf_L4, if_neg (by rw [lit, nI_leI (by omega) (by omega)]; omega), isBegin_s h hI (by omega), bnd_some]
    unfold fndB cntB
    by_cases e : beg A i = true
    · rw [if_pos e, if_neg (by decide), if_pos e, if_pos e]
      by_cases e2 : s = b
      · subst e2
        rw [if_pos rfl, if_pos (Nat.sub_self _)]
      · have e3 : ¬ nI b = nI s := fun z => e2 ((nI_eq (by omega) (by omega)).mp z).symm
        rw [if_neg e3, if_neg (by omega), nI_1, nI_1, ih (i + 1) (b + 1) k s (by omega) (by omega) (by omega) (by omega) hs2]
        rw [show s - (b + 1) = s - b - 1 by omega, show b + 1 + cntB A m (i + 1) = b + (1 + cntB A m (i + 1)) by omega]
    · rw [if_neg e, if_pos rfl, if_neg e, if_neg e, nI_1, ih (i + 1) b k s (by omega) (by omega) (by omega) (by omega) hs2, Nat.zero_add]
theorem beginOfL_m {v : MdV} {A : Nat → Nat} (h : nIf (Md_now v) A) (hI : ICi A) {n : Nat} : ∀ (m i k t : Nat), i + m = 64 → m < k → t < 2 ^ 31 → F_X10_beginOf_L4 n k v (nI t) (nI i) = some (match fndB A m i t with | some j => nI j | none => nI 0) := by
  intro m
  induction m with
  | zero =>
    intro i k t hi hk ht
    obtain ⟨k, rfl⟩ : ∃ z, k = z + 1 := ⟨k - 1, by omega⟩
    rw [F_X10_beginOf_L4, if_pos (by rw [lit, nI_leI (by omega) (by omega)]; omega)]
    rfl
  | succ m ih =>
    intro i k t hi hk ht
    obtain ⟨k, rfl⟩ : ∃ z, k = z + 1 := ⟨k - 1, by omega⟩
    rw [F_X10_beginOf_L4, if_neg (by rw [lit, nI_leI (by omega) (by omega)]; omega), begins_s h hI (by omega), bnd_some]
    unfold fndB
    by_cases e : beg A i = true
    · rw [if_pos e, if_neg (by decide), if_pos e]
      by_cases e2 : t = 0
      · subst e2; rw [if_pos nI_0, if_pos rfl]
      · obtain ⟨t, rfl⟩ : ∃ z, t = z + 1 := ⟨t - 1, by omega⟩
        rw [if_neg (nI_ne0 (by omega) (by omega)), if_neg e2, pk_m1, nI_1, ih (i + 1) k t (by omega) (by omega) (by omega)]
        rfl
    · rw [if_neg e, if_pos rfl, if_neg e, nI_1, ih (i + 1) k t (by omega) (by omega) ht]
def lenF (A : Nat → Nat) (b : Nat) : Nat → Nat → Nat
  | 0, x => x
  | m + 1, x => if A ((b + x) % 64) = A b then lenF A b m (x + 1) else x
theorem lenF_in (A : Nat → Nat) (b : Nat) : ∀ m x, x ≤ lenF A b m x ∧ lenF A b m x ≤ x + m := by
  intro m
  induction m with
  | zero => intro x; exact ⟨Nat.le_refl _, Nat.le_refl _⟩
  | succ m ih =>
    intro x
    have := ih (x + 1)
    unfold lenF
    split <;> omega
theorem lengthL_c {c : CiV} {A : Nat → Nat} (h : RCi c A) (hI : ICi A) {n b : Nat} (hb : b < 64) : ∀ (m x k : Nat), x + m = 64 → m < k → F_X2_lengthFrom_L2 n k c (nI b) (nI x) = some (nI (lenF A b m x)) := by
  intro m
  induction m with
  | zero =>
    intro x k hx hk
    obtain ⟨k, rfl⟩ : ∃ z, k = z + 1 := ⟨k - 1, by omega⟩
    rw [F_X2_lengthFrom_L2, if_pos (by rw [lit, nI_leI (by omega) (by omega)]; omega)]
    rfl
  | succ m ih =>
    intro x k hx hk
    obtain ⟨k, rfl⟩ : ∃ z, k = z + 1 := ⟨k - 1, by omega⟩
    have i1 := hI.lt (b + x)
    have i2 := hI.lt b
    rw [Nat.mod_eq_of_lt hb] at i2
    rw [F_X2_lengthFrom_L2, if_neg (by rw [lit, nI_leI (by omega) (by omega)]; omega), nI_add, colorAt_s h (by omega), bnd_some, colorAt_s h (by omega), bnd_some, Nat.mod_eq_of_lt hb]
    unfold lenF
    by_cases e : A ((b + x) % 64) = A b
    · rw [if_pos (by rw [e]), if_pos e, nI_1, ih (x + 1) k (by omega) (by omega)]
    · rw [if_neg (fun z => e ((nI_eq i1 i2).mp z)), if_neg e]
theorem sectorL_m {v : MdV} {A : Nat → Nat} (h : nIf (Md_now v) A) (hI : ICi A) {n b w : Nat} (hb : b < 64) (hw : w < 3) : ∀ (m x k : Nat), x + m = 64 → 1 ≤ x → m < k → A ((b + x - 1) % 64) = A b → F_X10_sector_L35 n k v (nI w) (nI b) (nI x) = some (if w = 0 then nI b else if w = 1 then nI (lenF A b m x) else nI (A b)) := by
  have fin : ∀ y : Nat, y < 2 ^ 31 → (if nI w = 0 then some (nI b) else if nI w = 1 then some (nI y) else chk (nI b) 289 (some (Md_now v (nI b).toNatClampNeg))) = some (if w = 0 then nI b else if w = 1 then nI y else nI (A b)) := by
    intro y hy
    rw [chk_nI (by omega) (by omega), nI_clamp (by omega), h b (by omega)]
    have : w = 0 ∨ w = 1 ∨ w = 2 := by omega
    rcases this with rfl | rfl | rfl <;> rfl
  intro m
  induction m with
  | zero =>
    intro x k hx h1 hk ha
    obtain ⟨k, rfl⟩ : ∃ z, k = z + 1 := ⟨k - 1, by omega⟩
    rw [F_X10_sector_L35, if_pos (by rw [lit, nI_leI (by omega) (by omega)]; omega)]
    exact fin x (by omega)
  | succ m ih =>
    intro x k hx h1 hk ha
    obtain ⟨k, rfl⟩ : ∃ z, k = z + 1 := ⟨k - 1, by omega⟩
    have hm : (b + x) % 64 < 64 := Nat.mod_lt _ (by decide)
    have e64 : (nI b + nI x) - (nI b + nI x) / 64 * 64 = nI ((b + x) % 64) := by
      rw [nI_add]
      exact pk_rem (by omega) (by decide) (by decide)
    rw [F_X10_sector_L35, if_neg (by rw [lit, nI_leI (by omega) (by omega)]; omega), e64, begins_s h hI hm, bnd_some]
    have e3 : ((b + x) % 64 + 63) % 64 = (b + x - 1) % 64 := by omega
    unfold lenF
    by_cases e : A ((b + x) % 64) = A b
    · have hbeg : ¬ beg A ((b + x) % 64) = true := by
        unfold beg
        rw [e3, ha, e]
        simp
      rw [if_neg hbeg, if_pos rfl, if_pos e, nI_1, ih (x + 1) k (by omega) (by omega) (by omega) (by rw [show b + (x + 1) - 1 = b + x by omega]; exact e)]
    · have hbeg : beg A ((b + x) % 64) = true := by
        unfold beg
        rw [e3, ha]
        simp [e]
      rw [if_pos hbeg, if_neg (by decide), if_neg e]
      exact fin x (by omega)
