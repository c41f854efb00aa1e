/-! TICKS: looking for another lamp -/
theorem looksL {n : Nat} {c : ChV} {v : MdV} {A : Nat → Nat} (h : RCh c A) (hw : nIf (Md_now v) A) (hI : ICh A) (hb : A 121 < 2 ^ 30) : ∀ (m i k k2 : Nat), i + m = 6 → m < k → m + 1 < k2 →
    (∃ p, p < 6 ∧ goodA A p = 1 ∧ F_X1_beginsChange_L22 n k c (nI i) = some (nI 1, Ch_mk (Ch_intensities c) (Ch_lives c) (Ch_uses c) (Ch_kind c) (nI p) (nI (A 114)) (nI (A 114))) ∧ F_X10_looks_L26 n k2 v (nI i) = F_X10_looks_J95 n (setNow v (upd (upd (upd (Md_now v) 112 (nI p)) 113 (nI (A 114))) 121 (nI (A 121 + 1)))))
    ∨ (F_X1_beginsChange_L22 n k c (nI i) = some (nI 0, c) ∧ F_X10_looks_L26 n k2 v (nI i) = F_X10_looks_J95 n v) := by
  have h5 := hI.2.1
  have e112 : Md_now v 112 = nI (A 112) := hw 112 (by omega)
  have e114 : Md_now v 114 = nI (A 114) := hw 114 (by omega)
  have e121 : Md_now v 121 = nI (A 121) := hw 121 (by omega)
  intro m
  induction m with
  | zero =>
    intro i k k2 hi hk hk2
    obtain ⟨k, rfl⟩ : ∃ z, k = z + 1 := ⟨k - 1, by omega⟩
    obtain ⟨k2, rfl⟩ : ∃ z, k2 = z + 1 := ⟨k2 - 1, by omega⟩
    have : (6 : Int32) ≤ nI i := by rw [lit, nI_leI (by omega) (by omega)]; omega
    exact Or.inr ⟨by rw [F_X1_beginsChange_L22, if_pos this]; rfl, by rw [F_X10_looks_L26, if_pos this]⟩
  | succ m ih =>
    intro i k k2 hi hk hk2
    obtain ⟨k, rfl⟩ : ∃ z, k = z + 1 := ⟨k - 1, by omega⟩
    obtain ⟨k2, rfl⟩ : ∃ z, k2 = z + 1 := ⟨k2 - 1, by omega⟩
    have n6 : ¬ (6 : Int32) ≤ nI i := by rw [lit, nI_leI (by omega) (by omega)]; omega
    have hm : (A 112 + i) % 6 < 6 := Nat.mod_lt _ (by decide)
    have ix : (nI (A 112) + nI i) - (nI (A 112) + nI i) / 6 * 6 = nI ((A 112 + i) % 6) := by
      rw [nI_add, lit]; exact pk_rem (by omega) (by decide) (by decide)
    have c112 : (112 : Int32).toNatClampNeg = 112 := rfl
    have k112 : ∀ {α : Type} {a : Option α}, chk 112 289 a = a := fun {α} {a} => chk_nI (j := 112) (by decide) (by decide)
    have k113 : ∀ {α : Type} {a : Option α}, chk 113 289 a = a := fun {α} {a} => chk_nI (j := 113) (by decide) (by decide)
    have k114 : ∀ {α : Type} {a : Option α}, chk 114 289 a = a := fun {α} {a} => chk_nI (j := 114) (by decide) (by decide)
    have k121 : ∀ {α : Type} {a : Option α}, chk 121 289 a = a := fun {α} {a} => chk_nI (j := 121) (by decide) (by decide)
    have c113 : (113 : Int32).toNatClampNeg = 113 := rfl
    have c114 : (114 : Int32).toNatClampNeg = 114 := rfl
    have c121 : (121 : Int32).toNatClampNeg = 121 := rfl
    have E1 : F_X1_beginsChange_L22 n (k + 1) c (nI i) = if nI (goodA A ((A 112 + i) % 6)) = 0 then F_X1_beginsChange_L22 n k c (nI (i + 1)) else some (1, Ch_mk (Ch_intensities c) (Ch_lives c) (Ch_uses c) (Ch_kind c) (nI ((A 112 + i) % 6)) (nI (A 114)) (nI (A 114))) := by
      rw [F_X1_beginsChange_L22, if_neg n6, h.2.2.1, h.2.2.2.1, ix, canBurn_s h hI hm, bnd_some, nI_1]
    rcases goodA_in A ((A 112 + i) % 6) with g | g
    · have E2 : F_X10_looks_L26 n (k2 + 1) v (nI i) = F_X10_looks_L26 n k2 v (nI (i + 1)) := by
        rw [F_X10_looks_L26, if_neg n6, c112, k112, e112, ix, isGood_s hw hI hm, bnd_some, g, if_pos (show nI 0 = 0 from rfl), nI_1]
      rw [E1, E2, g, if_pos (show nI 0 = 0 from rfl)]
      exact ih (i + 1) k k2 (by omega) (by omega) (by omega)
    · have n1 : ¬ nI 1 = 0 := by decide
      left
      refine ⟨(A 112 + i) % 6, hm, g, ?_, ?_⟩
      · rw [E1, g, if_neg n1]; rfl
      · obtain ⟨k2, rfl⟩ : ∃ z, k2 = z + 1 := ⟨k2 - 1, by omega⟩
        have x1 : upd (Md_now v) 112 (nI ((A 112 + i) % 6)) 114 = nI (A 114) := by rw [upd_ne (by decide), e114]
        have x2 : upd (upd (Md_now v) 112 (nI ((A 112 + i) % 6))) 113 (nI (A 114)) 121 = nI (A 121) := by rw [upd_ne (by decide), upd_ne (by decide), e121]
        rw [F_X10_looks_L26, if_neg n6, c112, c113, c114, c121, k112, k112, k113, k114, k121, k121, e112, ix, isGood_s hw hI hm, bnd_some, g, if_neg n1, x1, x2, nI_1, F_X10_looks_L26, if_pos (by decide)]
        rfl
theorem beginsC_s {n : Nat} {c : ChV} {v : MdV} {A : Nat → Nat} (hn : 10 < n) (h : RCh c A) (hw : nIf (Md_now v) A) (hI : ICh A) (hb : A 121 < 2 ^ 30) :
    ∃ (b : Nat) (c1 : ChV) (w1 : Nat → Int32) (A1 : Nat → Nat), b ≤ 1 ∧ F_X1_beginsChange n c = some (nI b, c1) ∧ F_X10_looks n v = F_X10_looks_J95 n (setNow v w1) ∧ RCh c1 A1 ∧ nIf w1 A1 ∧ ICh A1 ∧ A1 121 = A 121 + b ∧ (∀ j, j ≠ 112 → j ≠ 113 → j ≠ 121 → A1 j = A j) ∧ (∀ j, j ≠ 112 → j ≠ 113 → j ≠ 121 → w1 j = Md_now v j) := by
  have h5 := hI.2.1
  have e112 : Md_now v 112 = nI (A 112) := hw 112 (by omega)
  have e113 : Md_now v 113 = nI (A 113) := hw 113 (by omega)
  have c112 : (112 : Int32).toNatClampNeg = 112 := rfl
  have k112 : ∀ {α : Type} {a : Option α}, chk 112 289 a = a := fun {α} {a} => chk_nI (j := 112) (by decide) (by decide)
  have k113 : ∀ {α : Type} {a : Option α}, chk 113 289 a = a := fun {α} {a} => chk_nI (j := 113) (by decide) (by decide)
  have c113 : (113 : Int32).toNatClampNeg = 113 := rfl
  have hL := hI.2.2.1
  have n1 : ¬ nI 1 = 0 := by decide
  have same : ∀ b, b = 0 → F_X1_beginsChange n c = some (nI b, c) → F_X10_looks n v = F_X10_looks_J95 n v → ∃ (b : Nat) (c1 : ChV) (w1 : Nat → Int32) (A1 : Nat → Nat), b ≤ 1 ∧ F_X1_beginsChange n c = some (nI b, c1) ∧ F_X10_looks n v = F_X10_looks_J95 n (setNow v w1) ∧ RCh c1 A1 ∧ nIf w1 A1 ∧ ICh A1 ∧ A1 121 = A 121 + b ∧ (∀ j, j ≠ 112 → j ≠ 113 → j ≠ 121 → A1 j = A j) ∧ (∀ j, j ≠ 112 → j ≠ 113 → j ≠ 121 → w1 j = Md_now v j) :=
    fun b hb g1 g2 => ⟨b, c, Md_now v, A, by omega, g1, g2, h, hw, hI, by omega, fun _ _ _ _ => rfl, fun _ _ _ _ => rfl⟩
  by_cases e0 : A 113 = 0
  · have z1 : nI (A 113) = 0 := by rw [e0]; rfl
    have z2 : ¬ (0 : Int32) < nI (A 113) := by rw [e0]; decide
    have E1 : F_X1_beginsChange n c = if nI (goodA A (A 112)) = 0 then F_X1_beginsChange_L22 n n c 1 else some (0, c) := by
      unfold F_X1_beginsChange
      rw [h.2.2.2.2, if_neg z2, h.2.2.1, canBurn_s h hI (by omega), bnd_some]
    have E2 : F_X10_looks n v = if nI (goodA A (A 112)) = 0 then F_X10_looks_L26 n n v 1 else F_X10_looks_J95 n v := by
      unfold F_X10_looks
      rw [k113, k112, c113, c112, e112, e113, if_pos z1, isGood_s hw hI (by omega), bnd_some]
    rcases goodA_in A (A 112) with g | g
    · rw [g, if_pos (show nI 0 = 0 from rfl)] at E1 E2
      rcases looksL (n := n) h hw hI hb 5 1 n n (by omega) (by omega) (by omega) with ⟨p, hp, _, g1, g2⟩ | ⟨g1, g2⟩
      · let A1 := sA (sA (sA A 112 p) 113 (A 114)) 121 (A 121 + 1)
        have o : ∀ j, j ≠ 112 → j ≠ 113 → j ≠ 121 → A1 j = A j := by
          intro j h1 h2 h3
          show sA _ _ _ _ = _
          rw [sA_ne h3, sA_ne h2, sA_ne h1]
        have q112 : A1 112 = p := by show sA _ _ _ _ = _; rw [sA_ne (by omega), sA_ne (by omega), sA_at]
        have q113 : A1 113 = A 114 := by show sA _ _ _ _ = _; rw [sA_ne (by omega), sA_at]
        have q121 : A1 121 = A 121 + 1 := sA_at
        refine ⟨1, _, _, A1, by omega, E1.trans g1, E2.trans g2, ⟨?_, ?_, ?_, ?_, ?_⟩, ((hw.upd _ _).upd _ _).upd _ _, ?_, q121, o, ?_⟩
        · intro q hq
          rw [o _ (by omega) (by omega) (by omega), o _ (by omega) (by omega) (by omega), o _ (by omega) (by omega) (by omega)]
          exact h.1 q hq
        · rw [o _ (by omega) (by omega) (by omega)]; exact h.2.1
        · rw [q112]
        · rw [o _ (by omega) (by omega) (by omega)]
        · rw [q113]
        · obtain ⟨r1, r2, r3, r4, r5, r6, r7⟩ := hI
          have b1 := o 81 (by omega) (by omega) (by omega)
          have b2 := o 114 (by omega) (by omega) (by omega)
          have b3 := o 115 (by omega) (by omega) (by omega)
          refine ⟨by omega, by omega, by omega, by omega, by omega, by omega, ?_⟩
          intro q hq
          exact (r7 q hq).cg hq (fun j _ _ => o j (by omega) (by omega) (by omega)) b1
        · intro j h1 h2 h3
          rw [upd_ne h3, upd_ne h2, upd_ne h1]
      · exact same 0 rfl (E1.trans g1) (E2.trans g2)
    · rw [g, if_neg n1] at E1 E2
      exact same 0 rfl E1 E2
  · have z1 : ¬ nI (A 113) = 0 := nI_ne0 (by omega) (by omega)
    have z2 : (0 : Int32) < nI (A 113) := nI_lt (a := 0) (by omega) (by omega)
    refine same 0 rfl ?_ ?_
    · unfold F_X1_beginsChange
      rw [h.2.2.2.2, if_pos z2]; rfl
    · unfold F_X10_looks
      rw [k113, c113, e113, if_neg z1]
/-- what a tick is, once another lamp was looked for -/
def whatA (A : Nat → Nat) : Nat := if 0 < A 113 then 3 else if goodA A (A 112) = 0 then 4 else if litA A (A 116) = true then 1 else 2
theorem J95_s {n : Nat} {v : MdV} {A : Nat → Nat} (hn : 8 < n) (hw : nIf (Md_now v) A) (hI : ICh A) (hF : IFl A) (ht : A 116 < 2 ^ 31) : F_X10_looks_J95 n v = some (nI (whatA A), v) := by
  have e112 : Md_now v 112 = nI (A 112) := hw 112 (by omega)
  have e113 : Md_now v 113 = nI (A 113) := hw 113 (by omega)
  have e116 : Md_now v 116 = nI (A 116) := hw 116 (by omega)
  have c112 : (112 : Int32).toNatClampNeg = 112 := rfl
  have c116 : (116 : Int32).toNatClampNeg = 116 := rfl
  have k112 : ∀ {α : Type} {a : Option α}, chk 112 289 a = a := fun {α} {a} => chk_nI (j := 112) (by decide) (by decide)
  have k113 : ∀ {α : Type} {a : Option α}, chk 113 289 a = a := fun {α} {a} => chk_nI (j := 113) (by decide) (by decide)
  have k116 : ∀ {α : Type} {a : Option α}, chk 116 289 a = a := fun {α} {a} => chk_nI (j := 116) (by decide) (by decide)
  have c113 : (113 : Int32).toNatClampNeg = 113 := rfl
  have h5 := hI.2.1
  have hL := hI.2.2.1
  unfold F_X10_looks_J95 whatA
  rw [k113, k112, k116, c112, c113, c116, e112, e113, e116, isGood_s hw hI (by omega), bnd_some, lit_m hw hF hn ht, bnd_some]
  by_cases e0 : 0 < A 113
  · rw [if_neg (nI_nle e0 (by omega)), if_pos e0]; rfl
  · have z : nI (A 113) ≤ 0 := nI_le (b := 0) (by omega) (by omega)
    rw [if_pos z, if_neg e0]
    rcases goodA_in A (A 112) with g | g
    · rw [g]; rfl
    · rw [g, if_neg (show ¬ nI 1 = 0 by decide), if_neg (show ¬ 1 = 0 by decide)]
      by_cases l : litA A (A 116) = true
      · rw [if_pos l, if_pos l]; rfl
      · rw [if_neg l, if_neg l]; rfl
