/-! COLORS: painting -/
theorem idx64_c : ∀ f k : Nat, f < 64 → k < 64 → (nI f + nI k) &&& 63 = nI ((f + k) % 64) := by
  intro f k hf hk
  rw [nI_add]
  exact pk_andN (by omega) 6 (by decide)
theorem idx64_m : ∀ f k : Nat, f < 64 → k < 64 → (nI f + nI k) - (nI f + nI k) / 64 * 64 = nI ((f + k) % 64) := by
  intro f k hf hk
  rw [nI_add, lit]
  exact pk_rem (by omega) (by decide) (by decide)
theorem steps_c : ∀ f : Nat, f < 64 → ∀ t : Nat, t < 64 → (nI t - nI f) &&& 63 = nI ((t + 64 - f) % 64) := by decide +kernel
theorem steps_m : ∀ f : Nat, f < 64 → ∀ t : Nat, t < 64 → (((nI t - nI f) + 64) - ((nI t - nI f) + 64) / 64 * 64) + 1 = nI ((t + 64 - f) % 64 + 1) := by decide +kernel
/-- the part of the row from a place on is as it was -/
def frm (lo hi : Nat) (A A' : Nat → Nat) : Prop := ∀ j, (j < lo ∨ hi ≤ j) → A' j = A j
def frmw (lo hi : Nat) (w w' : Nat → Int32) : Prop := ∀ j, (j < lo ∨ hi ≤ j) → w' j = w j
theorem RCi.upd {c : CiV} {A : Nat → Nat} (h : RCi c A) (k x : Nat) : RCi (upd c k (nI x)) (sA A k x) := by
  intro j hj
  by_cases e : j = k
  · subst e; rw [upd_at, sA_at]
  · rw [upd_ne e, sA_ne e]; exact h j hj
theorem paintL {n : Nat} {col f : Nat} (hc : col ≤ 3) (hf : f < 64) : ∀ (m i r k k2 : Nat) (c : CiV) (v : MdV) (A : Nat → Nat), i + m ≤ 64 → m < k → m < k2 → RCi c A → nIf (Md_now v) A → ICi A →
    ∃ (r2 : Nat) (c2 : CiV) (w2 : Nat → Int32) (A2 : Nat → Nat), F_X2_give_L14 n k c (nI col) (nI f) (nI (i + m) - 1) (nI r) (nI i) = some (nI r2, c2) ∧
      F_X10_paints_L19 n k2 v (nI col) (nI f) (nI r) (nI (i + m)) (nI i) = some (nI r2, setNow v w2) ∧ RCi c2 A2 ∧ nIf w2 A2 ∧ ICi A2 ∧ frm 0 64 A A2 ∧ frmw 0 64 (Md_now v) w2 ∧ r ≤ r2 ∧ r2 ≤ r + m := by
  intro m
  induction m with
  | zero =>
    intro i r k k2 c v A hi hk hk2 h1 h2 h3
    obtain ⟨k, rfl⟩ : ∃ z, k = z + 1 := ⟨k - 1, by omega⟩
    obtain ⟨k2, rfl⟩ : ∃ z, k2 = z + 1 := ⟨k2 - 1, by omega⟩
    have hlt : nI (i + 0) - 1 < nI i := by
      by_cases e : i = 0
      · subst e; decide
      · show nI i - nI 1 < nI i
        rw [pk_sub (by omega), nI_ltI (by omega) (by omega)]
        omega
    refine ⟨r, c, Md_now v, A, ?_, ?_, h1, h2, h3, fun j _ => rfl, fun j _ => rfl, Nat.le_refl _, Nat.le_refl _⟩
    · rw [F_X2_give_L14, if_pos hlt]
    · rw [F_X10_paints_L19, if_pos (by rw [nI_leI (by omega) (by omega)]; omega)]
      rfl
  | succ m ih =>
    intro i r k k2 c v A hi hk hk2 h1 h2 h3
    obtain ⟨k, rfl⟩ : ∃ z, k = z + 1 := ⟨k - 1, by omega⟩
    obtain ⟨k2, rfl⟩ : ∃ z, k2 = z + 1 := ⟨k2 - 1, by omega⟩
    have hm : (f + i) % 64 < 64 := Nat.mod_lt _ (by decide)
    have hnlt : ¬ nI (i + (m + 1)) - 1 < nI i := by
      show ¬ nI (i + (m + 1)) - nI 1 < nI i
      rw [pk_sub (by omega), nI_ltI (by omega) (by omega)]
      omega
    have hA2 : ICi (sA A ((f + i) % 64) col) := by
      intro j hj
      unfold sA
      split
      · exact hc
      · exact h3 j hj
    have hv : nIf (upd (Md_now v) ((f + i) % 64) (nI col)) (sA A ((f + i) % 64) col) := h2.upd _ _
    have b3 := h3 _ hm
    have E1 : F_X2_give_L14 n (k + 1) c (nI col) (nI f) (nI (i + (m + 1)) - 1) (nI r) (nI i) = if nI (A ((f + i) % 64)) = nI col then F_X2_give_L14 n k c (nI col) (nI f) (nI (i + (m + 1)) - 1) (nI r) (nI (i + 1)) else F_X2_give_L14 n k (upd c ((f + i) % 64) (nI col)) (nI col) (nI f) (nI (i + (m + 1)) - 1) (nI (r + 1)) (nI (i + 1)) := by
      rw [F_X2_give_L14, if_neg hnlt, idx64_c f i hf (by omega), if_neg (by rw [lit, nI_leI (by omega) (by omega)]; omega), chk_nI hm (by omega), chk_nI hm (by omega), nI_clamp (by omega), nI_1, nI_1]
      show (if c ((f + i) % 64) = nI col then _ else _) = _
      rw [h1 _ hm]
    have E2 : F_X10_paints_L19 n (k2 + 1) v (nI col) (nI f) (nI r) (nI (i + (m + 1))) (nI i) = if nI (A ((f + i) % 64)) = nI col then F_X10_paints_L19 n k2 (setNow v (upd (Md_now v) ((f + i) % 64) (nI col))) (nI col) (nI f) (nI r) (nI (i + (m + 1))) (nI (i + 1)) else F_X10_paints_L19 n k2 (setNow v (upd (Md_now v) ((f + i) % 64) (nI col))) (nI col) (nI f) (nI (r + 1)) (nI (i + (m + 1))) (nI (i + 1)) := by
      rw [F_X10_paints_L19, if_neg (by rw [nI_leI (by omega) (by omega)]; omega), idx64_m f i hf (by omega), chk_nI (by omega) (by omega), chk_nI (by omega) (by omega), chk_nI (by omega) (by omega), nI_clamp (by omega), h2 _ (by omega), nI_1, nI_1, Int32.add_zero]
      rfl
    rw [E1, E2, show i + (m + 1) = (i + 1) + m by omega]
    have hfr : ∀ {A2 w2}, frm 0 64 (sA A ((f + i) % 64) col) A2 → frmw 0 64 (upd (Md_now v) ((f + i) % 64) (nI col)) w2 → frm 0 64 A A2 ∧ frmw 0 64 (Md_now v) w2 := by
      intro A2 w2 q1 q2
      refine ⟨fun j hj => ?_, fun j hj => ?_⟩
      · rw [q1 j hj, sA_ne (by omega)]
      · rw [q2 j hj, upd_ne (by omega)]
    by_cases e : A ((f + i) % 64) = col
    · have h1' : RCi c (sA A ((f + i) % 64) col) := by
        intro j hj
        by_cases e2 : j = (f + i) % 64
        · rw [e2, sA_at, h1 _ hm, e]
        · rw [sA_ne e2]; exact h1 j hj
      obtain ⟨r2, c2, w2, A2, g1, g2, g3, g4, g5, g6, g7, g8, g9⟩ := ih (i + 1) r k k2 c (setNow v (upd (Md_now v) ((f + i) % 64) (nI col))) _ (by omega) (by omega) (by omega) h1' hv hA2
      obtain ⟨f1, f2⟩ := hfr g6 g7
      refine ⟨r2, c2, w2, A2, ?_, ?_, g3, g4, g5, f1, f2, g8, by omega⟩
      · rw [if_pos (by rw [e])]; exact g1
      · rw [if_pos (by rw [e])]; exact g2
    · have e3 : ¬ nI (A ((f + i) % 64)) = nI col := fun z => e ((nI_eq (by omega) (by omega)).mp z)
      obtain ⟨r2, c2, w2, A2, g1, g2, g3, g4, g5, g6, g7, g8, g9⟩ := ih (i + 1) (r + 1) k k2 _ (setNow v (upd (Md_now v) ((f + i) % 64) (nI col))) _ (by omega) (by omega) (by omega) (h1.upd _ col) hv hA2
      obtain ⟨f1, f2⟩ := hfr g6 g7
      refine ⟨r2, c2, w2, A2, ?_, ?_, g3, g4, g5, f1, f2, by omega, by omega⟩
      · rw [if_neg e3]; exact g1
      · rw [if_neg e3]; exact g2
theorem paint_s {n : Nat} {col f t : Nat} {c : CiV} {v : MdV} {A : Nat → Nat} (hn : 64 < n) (hc : col ≤ 3) (hf : f < 64) (ht : t < 64) (h1 : RCi c A) (h2 : nIf (Md_now v) A) (h3 : ICi A) :
    ∃ (r2 : Nat) (c2 : CiV) (w2 : Nat → Int32) (A2 : Nat → Nat), F_X2_give n c (nI col) (nI f) (nI t) = some (nI r2, c2) ∧
      F_X10_paints n v (nI col) (nI f) (nI t) = some (nI r2, setNow v w2) ∧ RCi c2 A2 ∧ nIf w2 A2 ∧ ICi A2 ∧ frm 0 64 A A2 ∧ frmw 0 64 (Md_now v) w2 ∧ r2 ≤ 64 := by
  have hm : (t + 64 - f) % 64 < 64 := Nat.mod_lt _ (by decide)
  obtain ⟨r2, c2, w2, A2, g1, g2, g3, g4, g5, g6, g7, g8, g9⟩ := paintL (n := n) hc hf ((t + 64 - f) % 64 + 1) 0 0 n n c v A (by omega) (by omega) (by omega) h1 h2 h3
  refine ⟨r2, c2, w2, A2, ?_, ?_, g3, g4, g5, g6, g7, by omega⟩
  · unfold F_X2_give
    rw [steps_c f hf t ht]
    rw [Nat.zero_add] at g1
    have : nI ((t + 64 - f) % 64 + 1) - 1 = nI ((t + 64 - f) % 64) := by
      show nI ((t + 64 - f) % 64 + 1) - nI 1 = _
      rw [pk_sub (by omega)]; rfl
    rw [this] at g1
    exact g1
  · unfold F_X10_paints
    rw [steps_m f hf t ht]
    rw [Nat.zero_add] at g2
    exact g2
