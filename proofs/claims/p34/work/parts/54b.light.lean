/-! A LIGHT AT REST: its sectors, code and lamps -/
theorem sector_s {n : Nat} {u : HLV} {A : Nat → Nat} (hn : 64 < n) (h2 : RCi (St_Ci (HL_now u)) A) (hI : ICi A) {s w : Nat} (hs : s < 2 ^ 30) (hw : w ≤ 2) :
    F_X9_sector n u (nI s) (nI w) = if s < nSec A then some (if w = 0 then nI (sb A s) else if w = 1 then nI (lenF A (sb A s) 63 1) else nI (A (sb A s))) else some (-4) := by
  have q : ¬ (nI w < 0 ∨ 2 < nI w) := by
    rw [show (0 : Int32) = nI 0 from rfl, show (2 : Int32) = nI 2 from rfl, nI_ltI (by omega) (by omega), nI_ltI (by omega) (by omega)]
    omega
  have b1 := beginOfL_c h2 hI (n := n) 64 0 0 n s (by omega) hn (by omega) (by omega) (by omega)
  rw [nI_0, Nat.zero_add, Nat.sub_zero] at b1
  have b1' : F_X2_beginOf n (St_Ci (HL_now u)) (nI s) = some (match fndB A 64 0 s with | some j => nI j | none => if cntB A 64 0 = 0 ∧ s = 0 then nI 0 else -1) := b1
  unfold F_X9_sector
  rw [if_neg (nI_pos (by omega)), out_s, bnd_some, if_neg q, if_pos rfl, b1', bnd_some]
  by_cases hf : s < nSec A
  · rw [if_pos hf]
    have key : (match fndB A 64 0 s with | some j => nI j | none => if cntB A 64 0 = 0 ∧ s = 0 then nI 0 else -1) = nI (sb A s) ∧ sb A s < 64 := by
      unfold sb
      cases e3 : fndB A 64 0 s with
      | some j => exact ⟨rfl, by have := fndB_lt A _ _ _ _ e3; show j < 64; omega⟩
      | none =>
        have := (fndB_none A 64 0 s).mp e3
        have e4 : cntB A 64 0 = 0 ∧ s = 0 := by
          unfold nSec at hf
          split at hf <;> omega
        refine ⟨?_, by decide⟩
        show (if cntB A 64 0 = 0 ∧ s = 0 then nI 0 else (-1 : Int32)) = nI 0
        rw [if_pos e4]
    obtain ⟨k1, k2⟩ := key
    have l1 := lengthL_c h2 hI (n := n) k2 63 1 n (by decide) (by omega)
    rw [k1, if_neg (n4_of (by omega)).2.2.2]
    unfold F_X2_lengthFrom
    rw [show (1 : Int32) = nI 1 from rfl, l1, colorAt_s h2 (by omega), Nat.mod_eq_of_lt k2, bnd_some, bnd_some]
    rcases (show w = 0 ∨ w = 1 ∨ w = 2 by omega) with rfl | rfl | rfl <;> rfl
  · rw [if_neg hf]
    have e3 : fndB A 64 0 s = none := by
      rw [fndB_none]
      unfold nSec at hf
      split at hf <;> omega
    have e4 : ¬ (cntB A 64 0 = 0 ∧ s = 0) := by
      intro z
      unfold nSec at hf
      rw [if_pos z.1] at hf
      omega
    have k : (match fndB A 64 0 s with | some j => nI j | none => if cntB A 64 0 = 0 ∧ s = 0 then nI 0 else -1) = -1 := by
      rw [e3]
      show (if cntB A 64 0 = 0 ∧ s = 0 then nI 0 else (-1 : Int32)) = -1
      rw [if_neg e4]
    rw [k, if_pos rfl]
/-- the loop over the sectors -/
theorem lightL13 {n : Nat} {u : HLV} {A : Nat → Nat} (hn : 64 < n) (h2 : RCi (St_Ci (HL_now u)) A) (hI : ICi A) : ∀ (m s k : Nat), s + m = nSec A → m < k → F_L_isLight_L13 n k u (nI (if s < nSec A then sb A s - sb A 0 else 64)) (nI (nSec A)) 1 (nI s) = F_L_isLight_J144 n u (nI 64) 1 := by
  have hN := nSec_in A
  obtain ⟨S1, S2, S3, S4, S5⟩ := sec_all A
  intro m
  induction m with
  | zero =>
    intro s k hs hk
    obtain ⟨k, rfl⟩ : ∃ z, k = z + 1 := ⟨k - 1, by omega⟩
    rw [F_L_isLight_L13, if_pos (nI_le (by omega) (by omega)), if_neg (show ¬ s < nSec A by omega)]
  | succ m ih =>
    intro s k hs hk
    obtain ⟨k, rfl⟩ : ∃ z, k = z + 1 := ⟨k - 1, by omega⟩
    have hsN : s < nSec A := by omega
    obtain ⟨t1, t2, t3, t4, t5⟩ := S3 s hsN
    have hl : ∀ s, (fun s => lenF A (sb A s) 63 1) s = lenF A (sb A s) 63 1 := fun _ => rfl
    rw [hl] at t2 t3 t4 t5
    have hb := fun j (hj : j < nSec A) => hI (sb A j) (S3 j hj).1
    have z0 : F_X9_sector n u (nI s) 0 = some (nI (sb A s)) := (sector_s (n := n) (w := 0) hn h2 hI (by omega) (by omega)).trans (by rw [if_pos hsN]; rfl)
    have z1 : F_X9_sector n u (nI s) 1 = some (nI (lenF A (sb A s) 63 1)) := (sector_s (n := n) (w := 1) hn h2 hI (by omega) (by omega)).trans (by rw [if_pos hsN]; rfl)
    have z2 : F_X9_sector n u (nI s) 2 = some (nI (A (sb A s))) := (sector_s (n := n) (w := 2) hn h2 hI (by omega) (by omega)).trans (by rw [if_pos hsN]; rfl)
    have m1 : (sb A s + lenF A (sb A s) 63 1 - 1) % 64 < 64 := Nat.mod_lt _ (by decide)
    have m2 : (sb A s + lenF A (sb A s) 63 1) % 64 < 64 := Nat.mod_lt _ (by decide)
    have c0 : F_X9_color u (nI (sb A s)) = some (nI (A (sb A s))) := color_s rfl h2 t1
    have x1 : ((nI (sb A s) + nI (lenF A (sb A s) 63 1)) - 1) - ((nI (sb A s) + nI (lenF A (sb A s) 63 1)) - 1) / 64 * 64 = nI ((sb A s + lenF A (sb A s) 63 1 - 1) % 64) := by
      rw [nI_add, show nI (sb A s + lenF A (sb A s) 63 1) - 1 = nI (sb A s + lenF A (sb A s) 63 1 - 1) from pk_sub (b := 1) (by omega), mod64 (by omega)]
    have x2 : (nI (sb A s) + nI (lenF A (sb A s) 63 1)) - (nI (sb A s) + nI (lenF A (sb A s) 63 1)) / 64 * 64 = nI ((sb A s + lenF A (sb A s) 63 1) % 64) := by
      rw [nI_add, mod64 (by omega)]
    have c1 : F_X9_color u (nI ((sb A s + lenF A (sb A s) 63 1 - 1) % 64)) = some (nI (A (sb A s))) := by
      rw [color_s rfl h2 m1, t4]
    have c2 : F_X9_color u (nI ((sb A s + lenF A (sb A s) 63 1) % 64)) = some (nI (A ((sb A s + lenF A (sb A s) 63 1) % 64))) := color_s rfl h2 m2
    have sum : nI (if s < nSec A then sb A s - sb A 0 else 64) + nI (lenF A (sb A s) 63 1) = nI (if s + 1 < nSec A then sb A (s + 1) - sb A 0 else 64) := by
      rw [nI_add, if_pos hsN]
      refine congrArg nI ?_
      have le0 : ∀ j, j < nSec A → sb A 0 ≤ sb A j := by
        intro j
        induction j with
        | zero => intro _; exact Nat.le_refl _
        | succ j ihj =>
          intro hj
          have := (S4 j hj).1
          have := ihj (by omega)
          omega
      have l0 := le0 s hsN
      by_cases c : s + 1 < nSec A
      · rw [if_pos c]
        have q := S4 s c
        rw [hl] at q
        omega
      · rw [if_neg c]
        have e : s = nSec A - 1 := by omega
        rw [hl, ← e] at S5
        omega
    have nx := ih (s + 1) k (by omega) (by omega)
    rw [F_L_isLight_L13, if_neg (show ¬ nI (nSec A) ≤ nI s from nI_nlE (by omega) (by omega)), if_neg n10, z0, bnd_some, z1, bnd_some]
    by_cases s0 : s = 0
    · subst s0
      rw [if_pos (show nI 0 = 0 from rfl), c0, bnd_some, z2, bnd_some, if_pos rfl, x1, c1, bnd_some, bnd_some, if_pos rfl]
      by_cases one : nSec A = 1
      · rw [if_pos (show nI (nSec A) = 1 by rw [one]; rfl), sum, nI_1]
        exact nx
      · have ne1 : ¬ nI (nSec A) = 1 := fun z => one ((nI_eq (b := 1) (by omega) (by omega)).mp z)
        have nc : ¬ nI (A ((sb A 0 + lenF A (sb A 0) 63 1) % 64)) = nI (A (sb A 0)) := fun z => t5 one ((nI_eq (hI.lt _) (by have := hb 0 (by omega); omega)).mp z)
        rw [if_neg ne1, x2, c2, bnd_some, bnd_some, if_neg nc, sum, nI_1]
        exact nx
    · obtain ⟨s', rfl⟩ : ∃ z, s = z + 1 := ⟨s - 1, by omega⟩
      have one : nSec A ≠ 1 := by omega
      have ne1 : ¬ nI (nSec A) = 1 := fun z => one ((nI_eq (b := 1) (by omega) (by omega)).mp z)
      have nc : ¬ nI (A ((sb A (s' + 1) + lenF A (sb A (s' + 1)) 63 1) % 64)) = nI (A (sb A (s' + 1))) := fun z => t5 one ((nI_eq (hI.lt _) (by have := hb (s' + 1) hsN; omega)).mp z)
      have zp : F_X9_sector n u (nI s') 0 = some (nI (sb A s')) := (sector_s (n := n) (w := 0) hn h2 hI (by omega) (by omega)).trans (by rw [if_pos (show s' < nSec A by omega)]; rfl)
      have up := (S4 s' hsN).1
      rw [if_neg (show ¬ nI (s' + 1) = 0 from nI_ne0 (by omega) (by omega)), show nI (s' + 1) - 1 = nI s' from pk_sub (a := s' + 1) (b := 1) (by omega), zp, bnd_some, if_neg (show ¬ nI (sb A (s' + 1)) ≤ nI (sb A s') from nI_nlE up (by omega)), c0, bnd_some, z2, bnd_some, if_pos rfl, x1, c1, bnd_some, bnd_some, if_pos rfl, if_neg ne1, x2, c2, bnd_some, bnd_some, if_neg nc, sum, nI_1]
      exact nx
theorem code_s {M n : Nat} {u : HLV} {w : Nat → Int32} {A : Nat → Nat} (hn : 8 < n) (hA : RA M (HL_now u) w A) (hM : M < 2 ^ 30) : F_X9_code n u 0 = some (nI (A 64)) ∧ F_X9_code n u 1 = some (nI (per A)) ∧ F_X9_code n u 2 = some (nI (sumL A (A 64))) ∧ (∃ k : Int32, F_X9_code n u 3 = some k ∧ (k = 0 ↔ sumD A (A 64) = 0)) ∧ F_X9_code n u 4 = some (if litA A (A 116) = true then 1 else 0) := by
  obtain ⟨a1, a2, a3, a4, a5, a6, a7, a8, a9, a10⟩ := hA
  have p := per_in a8
  have t0 := a10.1
  refine ⟨?_, ?_, ?_, ?_, ?_⟩
  · show (F_X4_parts (St_Fl (HL_now u))).bind (fun q => some q) = _
    unfold F_X4_parts
    rw [a3.1, bnd_some]
  · show (F_X4_period (St_Fl (HL_now u))).bind (fun q => some q) = _
    rw [period_c a3, bnd_some]
  · show (F_X4_lightTicks (St_Fl (HL_now u))).bind (fun q => some q) = _
    unfold F_X4_lightTicks
    rw [a3.2.2.1, bnd_some]
  · show ∃ k : Int32, (F_X4_kind (St_Fl (HL_now u))).bind (fun q => some q) = some k ∧ _
    unfold F_X4_kind
    rw [a3.2.2.2]
    by_cases e : sumD A (A 64) = 0
    · rw [e, if_pos (show nI 0 = 0 from rfl), bnd_some]
      exact ⟨0, rfl, fun _ => rfl, fun _ => rfl⟩
    · rw [if_neg (nI_ne0 (by omega) (by omega))]
      have fin : ∀ X : Option Int32, (X = some 1 ∨ X = some 2 ∨ X = some 3) → ∃ k : Int32, X.bind (fun q => some q) = some k ∧ (k = 0 ↔ sumD A (A 64) = 0) := by
        intro X hX
        rcases hX with rfl | rfl | rfl
        · exact ⟨1, rfl, fun z => absurd z (by decide), fun z => absurd z e⟩
        · exact ⟨2, rfl, fun z => absurd z (by decide), fun z => absurd z e⟩
        · exact ⟨3, rfl, fun z => absurd z (by decide), fun z => absurd z e⟩
      refine fin _ ?_
      split
      · split
        · exact Or.inl rfl
        · split
          · exact Or.inr (Or.inr rfl)
          · exact Or.inr (Or.inl rfl)
      · split
        · exact Or.inr (Or.inr rfl)
        · exact Or.inr (Or.inl rfl)
  · show (F_X4_isLitAt n (St_Fl (HL_now u)) (So_tick (St_So (HL_now u)))).bind (fun q => if q = 0 then some (0 : Int32) else some 1) = _
    rw [a5.2.1, lit_c a3 a8 hn (by omega), bnd_some]
    split <;> rfl
theorem next_s {M n : Nat} {u : HLV} {w : Nat → Int32} {A : Nat → Nat} (hn : 8 < n) (hA : RA M (HL_now u) w A) (hM : M < 2 ^ 30) : F_X9_next n u (if litA A (A 116) = true then 1 else 0) = some (nI (A 116)) := by
  obtain ⟨a1, a2, a3, a4, a5, a6, a7, a8, a9, a10⟩ := hA
  have p := per_in a8
  have t0 := a10.1
  obtain ⟨k, rfl⟩ : ∃ z, n = z + 1 := ⟨n - 1, by omega⟩
  unfold F_X9_next
  have q : ∀ b : Int32, b = 0 ∨ b = 1 → F_X9_isOutside b 0 1 = some 0 := by
    intro b hb
    rcases hb with rfl | rfl <;> rfl
  rw [q _ (by split; exact Or.inr rfl; exact Or.inl rfl), bnd_some, if_pos rfl, period_c a3, bnd_some, F_X9_next_L24, if_neg (show ¬ nI (per A) ≤ 0 from nI_nlE (b := 0) (by omega) (by omega)), a5.2.1, Int32.add_zero, lit_c a3 a8 (by omega) (by omega), bnd_some]
  by_cases l : litA A (A 116) = true
  · simp [l]
  · simp [l]
theorem lampE_s {M : Nat} {u : HLV} {w : Nat → Int32} {A : Nat → Nat} (hA : RA M (HL_now u) w A) {p : Nat} (hp : p < 6) :
    (A (82 + 5 * p) = 0 ∧ F_X9_lamp u (nI p) 0 = some (-4)) ∨ (F_X9_lamp u (nI p) 0 = some (nI (A 81)) ∧ F_X9_lamp u (nI p) 1 = some (nI (A (84 + 5 * p))) ∧ F_X9_lamp u (nI p) 2 = some (nI (A (85 + 5 * p))) ∧ F_X9_lamp u (nI p) 3 = some (nI (A (86 + 5 * p))) ∧ F_X9_lamp u (nI p) 4 = some (nI (brA A p)) ∧
      F_X9_lamp u (nI p) 5 = some (if A (86 + 5 * p) < A (85 + 5 * p) then 0 else 1) ∧ 1 ≤ A (84 + 5 * p) ∧ A (84 + 5 * p) ≤ 2000 ∧ A (86 + 5 * p) ≤ A (85 + 5 * p) ∧ A (85 + 5 * p) ≤ 5000 ∧ brA A p ≤ A (84 + 5 * p) ∧ A (84 + 5 * p) ≤ brA A p * 2) := by
  obtain ⟨a1, a2, a3, hc, a5, a6, a7, a8, hI, a10⟩ := hA
  have q0 := n10
  have q : ¬ (nI p < 0 ∨ 5 < nI p) := by
    rw [show (0 : Int32) = nI 0 from rfl, show (5 : Int32) = nI 5 from rfl, nI_ltI (by omega) (by omega), nI_ltI (by omega) (by omega)]
    omega
  obtain ⟨e1, e2, e3⟩ := hc.1 p hp
  have head : ∀ k : Nat, k < 6 → F_X9_lamp u (nI p) (nI k) = if nI (A (82 + 5 * p)) = 0 then some (-4) else if nI k = 0 then some (nI (A 81)) else if nI k = 1 then some (nI (A (84 + 5 * p))) else if nI k = 2 then some (nI (A (85 + 5 * p))) else if nI k = 3 then some (nI (A (86 + 5 * p))) else if nI k = 4 then some (nI (brA A p)) else if nI (goodA A p) = 0 then some 1 else some 0 := by
    intro k hk
    have q2 : ¬ (nI k < 0 ∨ 5 < nI k) := by
      rw [show (0 : Int32) = nI 0 from rfl, show (5 : Int32) = nI 5 from rfl, nI_ltI (by omega) (by omega), nI_ltI (by omega) (by omega)]
      omega
    unfold F_X9_lamp F_X1_intensityOf F_X1_lifeOf F_X1_useOf
    rw [out_s, bnd_some, if_neg q, if_pos rfl, out_s, bnd_some, if_neg q2, if_pos rfl, hasLamp_s hc hI hp, bnd_some, hc.2.1, isPlace_s hp, bnd_some, bnd_some, bnd_some, if_neg q0, if_neg q0, if_neg q0, chk_nI hp (by decide), chk_nI hp (by decide), chk_nI hp (by decide), nI_clamp (by omega), e1, e2, e3, bright_c hc hI hp, canBurn_s hc hI hp]
    rfl
  rcases hI.has hp with ⟨a, b, b2, _⟩ | ⟨a, a3, b0, b1, b, b2, b3⟩
  · left
    refine ⟨a, (head 0 (by omega)).trans ?_⟩
    rw [a]
    rfl
  · right
    have n1 : ¬ nI (A (82 + 5 * p)) = 0 := by rw [a]; decide
    have hb : brA A p = A (84 + 5 * p) - A (84 + 5 * p) * A (86 + 5 * p) / (2 * A (85 + 5 * p)) := by unfold brA; rw [if_neg (by omega)]
    have half : A (84 + 5 * p) * A (86 + 5 * p) / (2 * A (85 + 5 * p)) * 2 ≤ A (84 + 5 * p) := by
      have h1 : A (84 + 5 * p) * A (86 + 5 * p) ≤ A (84 + 5 * p) * A (85 + 5 * p) := Nat.mul_le_mul_left _ b3
      have h2 : A (84 + 5 * p) * A (86 + 5 * p) / (2 * A (85 + 5 * p)) ≤ A (84 + 5 * p) * A (85 + 5 * p) / (2 * A (85 + 5 * p)) := Nat.div_le_div_right h1
      have h3 : A (84 + 5 * p) * A (85 + 5 * p) / (2 * A (85 + 5 * p)) = A (84 + 5 * p) / 2 := Nat.mul_div_mul_right _ _ (by omega)
      omega
    refine ⟨(head 0 (by omega)).trans (by rw [if_neg n1]; rfl), (head 1 (by omega)).trans (by rw [if_neg n1]; rfl), (head 2 (by omega)).trans (by rw [if_neg n1]; rfl), (head 3 (by omega)).trans (by rw [if_neg n1]; rfl), (head 4 (by omega)).trans (by rw [if_neg n1]; rfl), (head 5 (by omega)).trans ?_, b0, b1, b3, b2, by omega, by omega⟩
    rw [if_neg n1]
    show (if nI (goodA A p) = 0 then some (1 : Int32) else some 0) = _
    by_cases g : A (86 + 5 * p) < A (85 + 5 * p)
    · rw [if_pos g, goodA_1 a g]
      rfl
    · rw [if_neg g, goodA_0 g]
      rfl
theorem lightL281 {M n : Nat} {u : HLV} {w : Nat → Int32} {A : Nat → Nat} (hA : RA M (HL_now u) w A) : ∀ (m i k : Nat), i + m = 6 → m < k → F_L_isLight_L281 n k u 1 (nI i) = F_L_isLight_J416 n u 1 := by
  intro m
  induction m with
  | zero =>
    intro i k hi hk
    obtain ⟨k, rfl⟩ : ∃ z, k = z + 1 := ⟨k - 1, by omega⟩
    rw [F_L_isLight_L281, if_pos (show (6 : Int32) ≤ nI i by rw [lit, nI_leI (by omega) (by omega)]; omega)]
  | succ m ih =>
    intro i k hi hk
    obtain ⟨k, rfl⟩ : ∃ z, k = z + 1 := ⟨k - 1, by omega⟩
    have nx := ih (i + 1) k (by omega) (by omega)
    have h81 := hA.2.2.2.2.2.2.2.2.1.1
    rw [F_L_isLight_L281, if_neg (show ¬ (6 : Int32) ≤ nI i by rw [lit, nI_leI (by omega) (by omega)]; omega), if_neg n10, nI_1]
    rcases lampE_s hA (p := i) (by omega) with ⟨_, g⟩ | ⟨g0, g1, g2, g3, g4, g5, b1, b2, b3, b4, b5, b6⟩
    · rw [g, bnd_some, if_pos rfl]
      exact nx
    · have c5 : F_X9_count n u 5 = some (nI (A 81)) := by
        show some (Ch_kind (St_Ch (HL_now u))) = _
        rw [hA.2.2.2.1.2.1]
      rw [g0, bnd_some, if_neg (n4_of (by omega)).1, bnd_some, c5, bnd_some, if_pos rfl, g3, g2, g4, g1, g5]
      simp only [bnd_some]
      have m2 : nI (brA A i) * 2 = nI (brA A i * 2) := pk_mul (brA A i) 2
      rw [if_neg (nI_nlt (by omega) (by omega)), m2, if_neg (nI_nlt (by omega) (by omega)), if_neg (nI_nlt (by omega) (by omega))]
      by_cases c : A (86 + 5 * i) < A (85 + 5 * i)
      · rw [if_pos (nI_lt c (by omega)), if_pos c, if_pos rfl]
        exact nx
      · rw [if_neg (nI_nlt (by omega) (by omega)), if_neg c, if_pos rfl]
        exact nx
