/-! LAMPS: how many, and how many that are not burnt out -/
def cntL (A : Nat → Nat) : Nat → Nat → Nat
  | 0, _ => 0
  | m + 1, i => (if A (82 + 5 * i) = 0 then 0 else 1) + cntL A m (i + 1)
def cntG (A : Nat → Nat) : Nat → Nat → Nat
  | 0, _ => 0
  | m + 1, i => (if goodA A i = 0 then 0 else 1) + cntG A m (i + 1)
theorem cntL_le (A : Nat → Nat) : ∀ m i, cntL A m i ≤ m := by
  intro m
  induction m with
  | zero => intro i; exact Nat.le_refl _
  | succ m ih =>
    intro i
    have := ih (i + 1)
    unfold cntL
    split <;> omega
theorem cntG_le (A : Nat → Nat) : ∀ m i, cntG A m i ≤ cntL A m i := by
  intro m
  induction m with
  | zero => intro i; exact Nat.le_refl _
  | succ m ih =>
    intro i
    have := ih (i + 1)
    unfold cntG cntL
    by_cases g : goodA A i = 0
    · rw [if_pos g]; split <;> omega
    · rw [if_neg g]
      have g1 : A (82 + 5 * i) = 1 := by
        unfold goodA at g
        split at g
        · next h => exact h.1
        · exact absurd rfl g
      rw [if_neg (by omega)]
      omega
theorem cntL_full (A : Nat → Nat) : ∀ m i, cntL A m i = m → ∀ p, i ≤ p → p < i + m → A (82 + 5 * p) ≠ 0 := by
  intro m
  induction m with
  | zero => intro i _ p h1 h2; omega
  | succ m ih =>
    intro i h p h1 h2
    have le := cntL_le A m (i + 1)
    unfold cntL at h
    by_cases e : A (82 + 5 * i) = 0
    · rw [if_pos e] at h; omega
    · rw [if_neg e] at h
      by_cases e2 : p = i
      · rw [e2]; exact e
      · exact ih (i + 1) (by omega) p (by omega) (by omega)
theorem lampsLE {n : Nat} {c : ChV} {A : Nat → Nat} (h : RCh c A) (hI : ICh A) : ∀ (m i r k : Nat), i + m = 6 → m < k → F_X1_lamps_L4 n k c (nI r) (nI i) = some (nI (r + cntL A m i)) := by
  intro m
  induction m with
  | zero =>
    intro i r k hi hk
    obtain ⟨k, rfl⟩ : ∃ z, k = z + 1 := ⟨k - 1, by omega⟩
    have : (6 : Int32) ≤ nI i := by rw [lit, nI_leI (by omega) (by omega)]; omega
    rw [F_X1_lamps_L4, if_pos this]
    rfl
  | succ m ih =>
    intro i r k hi hk
    obtain ⟨k, rfl⟩ : ∃ z, k = z + 1 := ⟨k - 1, by omega⟩
    have : ¬ (6 : Int32) ≤ nI i := by rw [lit, nI_leI (by omega) (by omega)]; omega
    rw [F_X1_lamps_L4, if_neg this, hasLamp_s h hI (by omega), bnd_some, nI_1, nI_1, cntL]
    rcases hI.has (p := i) (by omega) with ⟨a, _⟩ | ⟨a, _⟩
    · rw [a, if_pos (show nI 0 = 0 from rfl), if_pos rfl, Nat.zero_add]
      exact ih (i + 1) r k (by omega) (by omega)
    · rw [a, if_neg (show ¬ nI 1 = 0 by decide), if_neg (by decide), ← Nat.add_assoc]
      exact ih (i + 1) (r + 1) k (by omega) (by omega)
theorem goodLE {n : Nat} {c : ChV} {A : Nat → Nat} (h : RCh c A) (hI : ICh A) : ∀ (m i r k : Nat), i + m = 6 → m < k → F_X1_goodLamps_L4 n k c (nI r) (nI i) = some (nI (r + cntG A m i)) := by
  intro m
  induction m with
  | zero =>
    intro i r k hi hk
    obtain ⟨k, rfl⟩ : ∃ z, k = z + 1 := ⟨k - 1, by omega⟩
    have : (6 : Int32) ≤ nI i := by rw [lit, nI_leI (by omega) (by omega)]; omega
    rw [F_X1_goodLamps_L4, if_pos this]
    rfl
  | succ m ih =>
    intro i r k hi hk
    obtain ⟨k, rfl⟩ : ∃ z, k = z + 1 := ⟨k - 1, by omega⟩
    have : ¬ (6 : Int32) ≤ nI i := by rw [lit, nI_leI (by omega) (by omega)]; omega
    rw [F_X1_goodLamps_L4, if_neg this, canBurn_s h hI (by omega), bnd_some, nI_1, nI_1, cntG]
    rcases goodA_in A i with a | a
    · rw [a, if_pos (show nI 0 = 0 from rfl), if_pos rfl, Nat.zero_add]
      exact ih (i + 1) r k (by omega) (by omega)
    · rw [a, if_neg (show ¬ nI 1 = 0 by decide), if_neg (by decide), ← Nat.add_assoc]
      exact ih (i + 1) (r + 1) k (by omega) (by omega)
theorem lampsE_c {n : Nat} {c : ChV} {A : Nat → Nat} (hn : 8 < n) (h : RCh c A) (hI : ICh A) : F_X1_lamps n c = some (nI (cntL A 6 0)) := by
  have := lampsLE (n := n) h hI 6 0 0 n (by omega) (by omega)
  rw [Nat.zero_add] at this
  exact this
theorem goodE_c {n : Nat} {c : ChV} {A : Nat → Nat} (hn : 8 < n) (h : RCh c A) (hI : ICh A) : F_X1_goodLamps n c = some (nI (cntG A 6 0)) := by
  have := goodLE (n := n) h hI 6 0 0 n (by omega) (by omega)
  rw [Nat.zero_add] at this
  exact this
