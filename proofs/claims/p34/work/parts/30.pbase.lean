/-! THE PURE LAYER: numbers, the abstract state, what ties both sides to it -/
theorem lit (k : Nat) : (OfNat.ofNat k : Int32) = nI (OfNat.ofNat k) := Eq.trans rfl rfl
theorem chk_nI {α : Type} {j N : Nat} {a : Option α} (h : j < N) (hN : N < 2 ^ 31) : chk (nI j) N a = a := by
  unfold chk
  exact if_neg (nI_in h hN)
theorem nzd_nI {α : Type} {j : Nat} {a : Option α} (h0 : 0 < j) (h : j < 2 ^ 31) : nzd (nI j) a = a := by
  unfold nzd
  exact if_neg (nI_ne0 h0 h)
theorem nI_lt0 {n : Nat} (h : n < 2 ^ 31) : (nI n < 0) ↔ False := iff_false_intro (nI_pos h)
theorem upd_at {f : Nat → Int32} {k : Nat} {x : Int32} : upd f k x k = x := pk_us
theorem upd_ne {f : Nat → Int32} {k j : Nat} {x : Int32} (h : j ≠ k) : upd f k x j = f j := pk_un h
/-- a Nat state written at a place -/
def sA (A : Nat → Nat) (k x : Nat) : Nat → Nat := fun j => if j = k then x else A j
theorem sA_at {A : Nat → Nat} {k x : Nat} : sA A k x k = x := by simp [sA]
theorem sA_ne {A : Nat → Nat} {k x j : Nat} (h : j ≠ k) : sA A k x j = A j := by simp [sA, h]
def nIf (w : Nat → Int32) (A : Nat → Nat) : Prop := ∀ k, k < 129 → w k = nI (A k)
theorem nIf.upd {w : Nat → Int32} {A : Nat → Nat} (h : nIf w A) (k x : Nat) : nIf (upd w k (nI x)) (sA A k x) := by
  intro j hj
  by_cases e : j = k
  · subst e; rw [upd_at, sA_at]
  · rw [upd_ne e, sA_ne e]; exact h j hj
theorem bnd_some {α β : Type} (a : α) (f : α → Option β) : (some a).bind f = f a := rfl
/-! sums of the code's parts -/
def sumL (A : Nat → Nat) : Nat → Nat
  | 0 => 0
  | k + 1 => sumL A k + A (65 + 2 * k)
def sumD (A : Nat → Nat) : Nat → Nat
  | 0 => 0
  | k + 1 => sumD A k + A (66 + 2 * k)
def RCi (c : CiV) (A : Nat → Nat) : Prop := ∀ k, k < 64 → c k = nI (A k)
def ICi (A : Nat → Nat) : Prop := ∀ k, k < 64 → A k ≤ 3
def RFl (f : FlV) (A : Nat → Nat) : Prop := Fl_parts f = nI (A 64) ∧ (∀ i, i < A 64 → Fl_lights f i = nI (A (65 + 2 * i)) ∧ Fl_darks f i = nI (A (66 + 2 * i))) ∧ Fl_allLight f = nI (sumL A (A 64)) ∧ Fl_allDark f = nI (sumD A (A 64))
def IFl (A : Nat → Nat) : Prop := 1 ≤ A 64 ∧ A 64 ≤ 8 ∧ (∀ i, i < A 64 → 1 ≤ A (65 + 2 * i) ∧ A (65 + 2 * i) ≤ 60 ∧ A (66 + 2 * i) ≤ 60) ∧ ∀ i, A 64 ≤ i → i < 8 → A (65 + 2 * i) = 0 ∧ A (66 + 2 * i) = 0
def RCh (c : ChV) (A : Nat → Nat) : Prop := (∀ p, p < 6 → Ch_intensities c p = nI (A (84 + 5 * p)) ∧ Ch_lives c p = nI (A (85 + 5 * p)) ∧ Ch_uses c p = nI (A (86 + 5 * p))) ∧ Ch_kind c = nI (A 81) ∧ Ch_present c = nI (A 112) ∧ Ch_change c = nI (A 114) ∧ Ch_changeLeft c = nI (A 113)
def lampIn (A : Nat → Nat) (p : Nat) : Prop := (A (82 + 5 * p) = 0 ∧ A (83 + 5 * p) = 0 ∧ A (84 + 5 * p) = 0 ∧ A (85 + 5 * p) = 0 ∧ A (86 + 5 * p) = 0) ∨ (A (82 + 5 * p) = 1 ∧ A (83 + 5 * p) = A 81 ∧ 1 ≤ A (84 + 5 * p) ∧ A (84 + 5 * p) ≤ 2000 ∧ 1 ≤ A (85 + 5 * p) ∧ A (85 + 5 * p) ≤ 5000 ∧ A (86 + 5 * p) ≤ A (85 + 5 * p))
def ICh (A : Nat → Nat) : Prop := A 81 ≤ 1 ∧ A 112 ≤ 5 ∧ A 113 ≤ 50 ∧ A 114 ≤ 50 ∧ 1 ≤ A 115 ∧ A 115 ≤ 100 ∧ ∀ p, p < 6 → lampIn A p
def RSo (s : SoV) (A : Nat → Nat) : Prop := (∀ j, j < 4 → So_spent s j = nI (A (117 + j))) ∧ So_tick s = nI (A 116) ∧ So_clear s = nI (A 115) ∧ So_changesBegun s = nI (A 121)
/-- bounds of what grows with time: M the greatest tick -/
def ITi (M : Nat) (A : Nat → Nat) : Prop := A 116 ≤ M ∧ (∀ j, j < 4 → A (117 + j) ≤ A 116) ∧ A 121 ≤ A 116 ∧ A 116 = A 117 + A 118 + A 119 + A 120 ∧ A 123 ≤ A 116 ∧ (∀ j, j < 4 → A (124 + j) ≤ A 116) ∧ A 128 = min (A 123) 40
def RLo (l : LoV) (w : Nat → Int32) (A : Nat → Nat) : Prop := Lo_passages l = nI (A 122) ∧ Lo_entries l = nI (A 123) ∧ (∀ j, j < 4 → Lo_shown l j = nI (A (124 + j))) ∧ ∀ i, i < A 128 → Lo_ticks l ((A 123 - 1 - i) % 40) = w (129 + 4 * (A 128 - 1 - i)) ∧ Lo_colors l ((A 123 - 1 - i) % 40) = w (129 + 4 * (A 128 - 1 - i) + 1) ∧ Lo_directions l ((A 123 - 1 - i) % 40) = w (129 + 4 * (A 128 - 1 - i) + 2) ∧ Lo_numbers l ((A 123 - 1 - i) % 40) = w (129 + 4 * (A 128 - 1 - i) + 3)
/-- a state of the class and the reference's row are one, and in bounds -/
def RA (M : Nat) (S : StV) (w : Nat → Int32) (A : Nat → Nat) : Prop := nIf w A ∧ RCi (St_Ci S) A ∧ RFl (St_Fl S) A ∧ RCh (St_Ch S) A ∧ RSo (St_So S) A ∧ RLo (St_Lo S) w A ∧ ICi A ∧ IFl A ∧ ICh A ∧ ITi M A
def RS (S : StV) (w : Nat → Int32) : Prop := ∃ A, RA 1000000 S w A ∧ A 122 ≤ A 116
def setNow (v : MdV) (w : Nat → Int32) : MdV := Md_mk w (Md_past v) (Md_stored v) (Md_kept v) (Md_text v) (Md_sines v) (Md_numbers v) (Md_isStored v) (Md_saved v) (Md_length v) (Md_place v) (Md_many v) (Md_wrong v) (Md_reason v) (Md_items v)
/-! arguments: any int, against bounds -/
theorem out_s (x : Int32) (lo hi : Int32) : F_X9_isOutside x lo hi = some (if x < lo ∨ hi < x then 1 else 0) := by
  unfold F_X9_isOutside
  by_cases h : x < lo
  · simp [h]
  · by_cases h2 : hi < x
    · simp [h, h2]
    · have h3 : x ≤ hi := Int32.not_lt.mp h2
      simp [h, h2, h3]
theorem wi_s (x : Int32) (lo hi : Int32) : F_X10_within x lo hi = some (if x < lo ∨ hi < x then 0 else 1) := by
  unfold F_X10_within
  by_cases h : x < lo
  · simp [h]
  · by_cases h2 : hi < x
    · have h3 : ¬ x ≤ hi := Int32.not_le.mpr h2
      simp [h, h2, h3]
    · have h3 : x ≤ hi := Int32.not_lt.mp h2
      simp [h, h2, h3]
