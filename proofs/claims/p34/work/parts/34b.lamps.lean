/-! LAMPS -/
theorem lampAt_s {v : MdV} {A : Nat → Nat} (h : nIf (Md_now v) A) {p k : Nat} (hp : p < 6) (hk : k < 5) : F_X10_lampAt v (nI p) (nI k) = some (nI (A (82 + 5 * p + k))) := by
  unfold F_X10_lampAt
  simp (disch := omega) only [lit, chk_nI, nzd_nI, nI_clamp, nI_leI, nI_ltI, nI_eq, nI_add, pk_mul, bnd_some]
  rw [h _ (by omega)]
theorem ICh.has {A : Nat → Nat} (h : ICh A) {p : Nat} (hp : p < 6) : (A (82 + 5 * p) = 0 ∧ A (85 + 5 * p) = 0 ∧ A (86 + 5 * p) = 0 ∧ A (84 + 5 * p) = 0) ∨ (A (82 + 5 * p) = 1 ∧ A (83 + 5 * p) = A 81 ∧ 1 ≤ A (84 + 5 * p) ∧ A (84 + 5 * p) ≤ 2000 ∧ 1 ≤ A (85 + 5 * p) ∧ A (85 + 5 * p) ≤ 5000 ∧ A (86 + 5 * p) ≤ A (85 + 5 * p)) := by
  have := h.2.2.2.2.2.2 p hp
  unfold lampIn at this
  omega
def goodA (A : Nat → Nat) (p : Nat) : Nat := if A (82 + 5 * p) = 1 ∧ A (86 + 5 * p) < A (85 + 5 * p) then 1 else 0
theorem goodA_1 {A : Nat → Nat} {p : Nat} (h : A (82 + 5 * p) = 1) (g : A (86 + 5 * p) < A (85 + 5 * p)) : goodA A p = 1 := if_pos ⟨h, g⟩
theorem goodA_0 {A : Nat → Nat} {p : Nat} (g : ¬ A (86 + 5 * p) < A (85 + 5 * p)) : goodA A p = 0 := if_neg (fun q => g q.2)
theorem goodA_in (A : Nat → Nat) (p : Nat) : goodA A p = 0 ∨ goodA A p = 1 := by unfold goodA; split <;> omega
theorem isPlace_s {p : Nat} (hp : p < 6) : F_X1_isPlace (nI p) = some 1 := by
  unfold F_X1_isPlace
  rw [if_neg (nI_pos (by omega)), if_neg (by rw [lit, nI_leI (by omega) (by omega)]; omega)]
theorem hasLamp_s {c : ChV} {A : Nat → Nat} (h : RCh c A) (hI : ICh A) {p : Nat} (hp : p < 6) : F_X1_hasLamp c (nI p) = some (nI (A (82 + 5 * p))) := by
  obtain ⟨e1, e2, e3⟩ := h.1 p hp
  unfold F_X1_hasLamp
  rw [isPlace_s hp, bnd_some, if_neg (by decide), chk_nI hp (by decide), nI_clamp (by omega), e2]
  rcases hI.has hp with ⟨a, b, _⟩ | ⟨a, _, _, _, b, _⟩
  · rw [a, b]; rfl
  · rw [a, if_neg (nI_nle (by omega) (by omega))]; rfl
theorem canBurn_s {c : ChV} {A : Nat → Nat} (h : RCh c A) (hI : ICh A) {p : Nat} (hp : p < 6) : F_X1_canBurn c (nI p) = some (nI (goodA A p)) := by
  obtain ⟨e1, e2, e3⟩ := h.1 p hp
  unfold F_X1_canBurn
  rw [isPlace_s hp, bnd_some, if_neg (by decide), chk_nI hp (by decide), chk_nI hp (by decide), nI_clamp (by omega), e2, e3]
  rcases hI.has hp with ⟨a, b, b2, _⟩ | ⟨a, _, _, _, b, b2, b3⟩
  · rw [goodA_0 (by omega), b, b2]; rfl
  · by_cases g : A (86 + 5 * p) < A (85 + 5 * p)
    · rw [if_neg (nI_ge g (by omega)), goodA_1 a g]; rfl
    · rw [if_pos (nI_le (by omega) (by omega)), goodA_0 g]; rfl
theorem burnt_s {v : MdV} {A : Nat → Nat} (h : nIf (Md_now v) A) (hI : ICh A) {p : Nat} (hp : p < 6) : F_X10_isBurnt v (nI p) = some (if A (86 + 5 * p) < A (85 + 5 * p) then 0 else 1) := by
  unfold F_X10_isBurnt
  rw [show (4 : Int32) = nI 4 from rfl, show (3 : Int32) = nI 3 from rfl, lampAt_s h hp (by decide), lampAt_s h hp (by decide), bnd_some, bnd_some, show 82 + 5 * p + 4 = 86 + 5 * p by omega, show 82 + 5 * p + 3 = 85 + 5 * p by omega]
  have b : A (86 + 5 * p) < 2 ^ 31 ∧ A (85 + 5 * p) < 2 ^ 31 := by
    rcases hI.has hp with ⟨a, b, b2, _⟩ | ⟨a, _, _, _, b, b2, b3⟩ <;> omega
  by_cases g : A (86 + 5 * p) < A (85 + 5 * p)
  · rw [if_pos (nI_lt g b.2), if_pos g]
  · rw [if_neg (nI_nlt (by omega) b.1), if_neg g]
theorem isGood_s {v : MdV} {A : Nat → Nat} (h : nIf (Md_now v) A) (hI : ICh A) {p : Nat} (hp : p < 6) : F_X10_isGood v (nI p) = some (nI (goodA A p)) := by
  unfold F_X10_isGood
  rw [show F_X10_lampAt v (nI p) 0 = _ from lampAt_s h (p := p) (k := 0) hp (by decide), bnd_some, burnt_s h hI hp, bnd_some, Nat.add_zero]
  rcases hI.has hp with ⟨a, b, b2, _⟩ | ⟨a, _, _, _, b, b2, b3⟩
  · rw [a, goodA_0 (by omega)]; rfl
  · rw [a]
    by_cases g : A (86 + 5 * p) < A (85 + 5 * p)
    · rw [if_pos g, goodA_1 a g]; rfl
    · rw [if_neg g, goodA_0 g]; rfl
theorem lampsL {n : Nat} {c : ChV} {v : MdV} {A : Nat → Nat} (h : RCh c A) (hw : nIf (Md_now v) A) (hI : ICh A) : ∀ (m i r k k2 : Nat), i + m = 6 → m < k → m < k2 → ∃ a, F_X1_lamps_L4 n k c (nI r) (nI i) = some a ∧ F_X10_lamps_L4 n k2 v (nI r) (nI i) = some a := by
  intro m
  induction m with
  | zero =>
    intro i r k k2 hi hk hk2
    obtain ⟨k, rfl⟩ : ∃ z, k = z + 1 := ⟨k - 1, by omega⟩
    obtain ⟨k2, rfl⟩ : ∃ z, k2 = z + 1 := ⟨k2 - 1, by omega⟩
    have : (6 : Int32) ≤ nI i := by rw [lit, nI_leI (by omega) (by omega)]; omega
    exact ⟨nI r, by rw [F_X1_lamps_L4, if_pos this], by rw [F_X10_lamps_L4, if_pos this]⟩
  | succ m ih =>
    intro i r k k2 hi hk hk2
    obtain ⟨k, rfl⟩ : ∃ z, k = z + 1 := ⟨k - 1, by omega⟩
    obtain ⟨k2, rfl⟩ : ∃ z, k2 = z + 1 := ⟨k2 - 1, by omega⟩
    have : ¬ (6 : Int32) ≤ nI i := by rw [lit, nI_leI (by omega) (by omega)]; omega
    have d := hI.has (p := i) (by omega)
    rw [F_X1_lamps_L4, if_neg this, hasLamp_s h hI (by omega), bnd_some, F_X10_lamps_L4, if_neg this, show (0 : Int32) = nI 0 from rfl, lampAt_s hw (by omega) (by decide), bnd_some, Nat.add_zero, nI_1, nI_1, nI_add]
    rcases d with ⟨a, _⟩ | ⟨a, _⟩
    · rw [a, if_pos rfl]
      exact ih (i + 1) r k k2 (by omega) (by omega) (by omega)
    · rw [a, if_neg (by decide)]
      exact ih (i + 1) (r + 1) k k2 (by omega) (by omega) (by omega)
theorem goodL {n : Nat} {c : ChV} {v : MdV} {A : Nat → Nat} (h : RCh c A) (hw : nIf (Md_now v) A) (hI : ICh A) : ∀ (m i r k k2 : Nat), i + m = 6 → m < k → m < k2 → ∃ a, F_X1_goodLamps_L4 n k c (nI r) (nI i) = some a ∧ F_X10_good_L4 n k2 v (nI r) (nI i) = some a := by
  intro m
  induction m with
  | zero =>
    intro i r k k2 hi hk hk2
    obtain ⟨k, rfl⟩ : ∃ z, k = z + 1 := ⟨k - 1, by omega⟩
    obtain ⟨k2, rfl⟩ : ∃ z, k2 = z + 1 := ⟨k2 - 1, by omega⟩
    have : (6 : Int32) ≤ nI i := by rw [lit, nI_leI (by omega) (by omega)]; omega
    exact ⟨nI r, by rw [F_X1_goodLamps_L4, if_pos this], by rw [F_X10_good_L4, if_pos this]⟩
  | succ m ih =>
    intro i r k k2 hi hk hk2
    obtain ⟨k, rfl⟩ : ∃ z, k = z + 1 := ⟨k - 1, by omega⟩
    obtain ⟨k2, rfl⟩ : ∃ z, k2 = z + 1 := ⟨k2 - 1, by omega⟩
    have : ¬ (6 : Int32) ≤ nI i := by rw [lit, nI_leI (by omega) (by omega)]; omega
    rw [F_X1_goodLamps_L4, if_neg this, canBurn_s h hI (by omega), bnd_some, F_X10_good_L4, if_neg this, isGood_s hw hI (by omega), bnd_some, Int32.add_zero, nI_1, nI_1]
    rcases goodA_in A i with a | a
    · rw [a]
      exact ih (i + 1) r k k2 (by omega) (by omega) (by omega)
    · rw [a]
      exact ih (i + 1) (r + 1) k k2 (by omega) (by omega) (by omega)
theorem lamps_s {n : Nat} {c : ChV} {v : MdV} {A : Nat → Nat} (hn : 8 < n) (h : RCh c A) (hw : nIf (Md_now v) A) (hI : ICh A) : ∃ a, F_X1_lamps n c = some a ∧ F_X10_lamps n v = some a :=
  lampsL h hw hI 6 0 0 n n (by omega) (by omega) (by omega)
theorem good_s {n : Nat} {c : ChV} {v : MdV} {A : Nat → Nat} (hn : 8 < n) (h : RCh c A) (hw : nIf (Md_now v) A) (hI : ICh A) : ∃ a, F_X1_goodLamps n c = some a ∧ F_X10_good n v = some a :=
  goodL h hw hI 6 0 0 n n (by omega) (by omega) (by omega)
theorem emptyL {n : Nat} {c : ChV} {v : MdV} {A : Nat → Nat} (h : RCh c A) (hw : nIf (Md_now v) A) (hI : ICh A) : ∀ (m i k k2 : Nat), i + m = 6 → m < k → m < k2 → (∃ p, p < 6 ∧ A (82 + 5 * p) = 0 ∧ F_X1_lowestEmpty_L2 n k c (nI i) = some (nI p) ∧ F_X10_empty_L2 n k2 v (nI i) = some (nI p)) ∨ (F_X1_lowestEmpty_L2 n k c (nI i) = some (-1) ∧ F_X10_empty_L2 n k2 v (nI i) = some (-4)) := by
  intro m
  induction m with
  | zero =>
    intro i k k2 hi hk hk2
    obtain ⟨k, rfl⟩ : ∃ z, k = z + 1 := ⟨k - 1, by omega⟩
    obtain ⟨k2, rfl⟩ : ∃ z, k2 = z + 1 := ⟨k2 - 1, by omega⟩
    have : (6 : Int32) ≤ nI i := by rw [lit, nI_leI (by omega) (by omega)]; omega
    exact Or.inr ⟨by rw [F_X1_lowestEmpty_L2, if_pos this], by rw [F_X10_empty_L2, if_pos this]⟩
  | succ m ih =>
    intro i k k2 hi hk hk2
    obtain ⟨k, rfl⟩ : ∃ z, k = z + 1 := ⟨k - 1, by omega⟩
    obtain ⟨k2, rfl⟩ : ∃ z, k2 = z + 1 := ⟨k2 - 1, by omega⟩
    have : ¬ (6 : Int32) ≤ nI i := by rw [lit, nI_leI (by omega) (by omega)]; omega
    have e1 : F_X1_lowestEmpty_L2 n (k + 1) c (nI i) = if nI (A (82 + 5 * i)) = 0 then some (nI i) else F_X1_lowestEmpty_L2 n k c (nI (i + 1)) := by
      rw [F_X1_lowestEmpty_L2, if_neg this, hasLamp_s h hI (by omega), bnd_some, nI_1]
    have e2 : F_X10_empty_L2 n (k2 + 1) v (nI i) = if nI (A (82 + 5 * i)) = 0 then some (nI i) else F_X10_empty_L2 n k2 v (nI (i + 1)) := by
      rw [F_X10_empty_L2, if_neg this, show F_X10_lampAt v (nI i) 0 = _ from lampAt_s hw (p := i) (k := 0) (by omega) (by decide), bnd_some, Nat.add_zero, nI_1]
    rw [e1, e2]
    rcases hI.has (p := i) (by omega) with ⟨a, _⟩ | ⟨a, _⟩
    · rw [a]
      exact Or.inl ⟨i, by omega, a, rfl, rfl⟩
    · rw [a, if_neg (by decide), if_neg (by decide)]
      exact ih (i + 1) k k2 (by omega) (by omega) (by omega)
theorem empty_s {n : Nat} {c : ChV} {v : MdV} {A : Nat → Nat} (hn : 8 < n) (h : RCh c A) (hw : nIf (Md_now v) A) (hI : ICh A) : (∃ p, p < 6 ∧ A (82 + 5 * p) = 0 ∧ F_X1_lowestEmpty n c = some (nI p) ∧ F_X10_empty n v = some (nI p)) ∨ (F_X1_lowestEmpty n c = some (-1) ∧ F_X10_empty n v = some (-4)) :=
  emptyL h hw hI 6 0 n n (by omega) (by omega) (by omega)
/-- how bright the lamp at a place is -/
def brA (A : Nat → Nat) (p : Nat) : Nat := if A (82 + 5 * p) = 0 then 0 else A (84 + 5 * p) - A (84 + 5 * p) * A (86 + 5 * p) / (2 * A (85 + 5 * p))
theorem ICh.br {A : Nat → Nat} (h : ICh A) {p : Nat} (hp : p < 6) : brA A p ≤ 2000 := by
  unfold brA
  split
  · omega
  · rcases h.has hp with ⟨a, _⟩ | ⟨a, _, _, b, _⟩
    · omega
    · exact Nat.le_trans (Nat.sub_le _ _) b
theorem br_in {i l u : Nat} (hi : i ≤ 2000) (hl : 1 ≤ l) (hl2 : l ≤ 5000) (hu : u ≤ l) : i * u ≤ 10000000 ∧ i * u / (2 * l) ≤ i := by
  have a : i * u ≤ 2000 * 5000 := Nat.mul_le_mul hi (by omega)
  have b : i * u ≤ i * (2 * l) := Nat.mul_le_mul (Nat.le_refl _) (by omega)
  refine ⟨by omega, ?_⟩
  exact Nat.div_le_of_le_mul (by rw [Nat.mul_comm (2 * l)]; exact b)
theorem bright_c {c : ChV} {A : Nat → Nat} (h : RCh c A) (hI : ICh A) {p : Nat} (hp : p < 6) : F_X1_brightnessOf c (nI p) = some (nI (brA A p)) := by
  obtain ⟨e1, e2, e3⟩ := h.1 p hp
  unfold F_X1_brightnessOf brA
  rw [isPlace_s hp, bnd_some, if_neg (by decide), chk_nI hp (by decide), chk_nI hp (by decide), chk_nI hp (by decide), chk_nI hp (by decide), nI_clamp (by omega), e1, e2, e3]
  rcases hI.has hp with ⟨a, b, b2, _⟩ | ⟨a, _, b0, b1, b, b2, b3⟩
  · rw [a, b]; rfl
  · obtain ⟨q1, q2⟩ := br_in b1 b b2 b3
    have g0 : ¬ A (82 + 5 * p) = 0 := by omega
    have g1 : (1 : Int32) ≤ nI (A (85 + 5 * p)) := nI_le (a := 1) b (by omega)
    rw [if_neg g0, if_pos g1, show (2 : Int32) = nI 2 from rfl, pk_mul, pk_mul, nzd_nI (by omega) (by omega), pk_div (by omega) (by omega) (by omega), pk_sub q2]
theorem bright_m {v : MdV} {A : Nat → Nat} (h : nIf (Md_now v) A) (hI : ICh A) {p : Nat} (hp : p < 6) : F_X10_brightness v (nI p) = some (nI (brA A p)) := by
  unfold F_X10_brightness brA
  rw [show (4 : Int32) = nI 4 from rfl, show (3 : Int32) = nI 3 from rfl, show (2 : Int32) = nI 2 from rfl, show (0 : Int32) = nI 0 from rfl, lampAt_s h hp (by decide), lampAt_s h hp (by decide), lampAt_s h hp (by decide), lampAt_s h hp (by decide)]
  simp only [bnd_some]
  rw [show 82 + 5 * p + 4 = 86 + 5 * p by omega, show 82 + 5 * p + 3 = 85 + 5 * p by omega, show 82 + 5 * p + 2 = 84 + 5 * p by omega, Nat.add_zero]
  rcases hI.has hp with ⟨a, b, b2, _⟩ | ⟨a, _, b0, b1, b, b2, b3⟩
  · rw [a]; rfl
  · obtain ⟨q1, q2⟩ := br_in b1 b b2 b3
    have g0 : ¬ A (82 + 5 * p) = 0 := by omega
    have g1 : ¬ nI (A (82 + 5 * p)) = nI 0 := by rw [a]; decide
    rw [if_neg g0, if_neg g1, pk_mul, pk_mul, nzd_nI (by omega) (by omega), pk_div (by omega) (by omega) (by omega), pk_sub q2]
theorem op_lamp {u : HLV} {v : MdV} (h : R u v) (x y : Int32) : ∃ a, F_X9_lamp u x y = some a ∧ F_X10_lamp v x y = some a := by
  obtain ⟨⟨A, ⟨hw, _, _, hc, _, _, _, _, hI, _⟩, _⟩, _⟩ := h
  have q0 : ¬ (1 : Int32) = 0 := by decide
  unfold F_X9_lamp F_X10_lamp
  rw [out_s, out_s, wi_s, wi_s]
  simp only [bnd_some]
  rcases arg_n (x := x) (lo := 0) (hi := 5) 0 5 rfl rfl (by decide) (by decide) with q | ⟨p, _, hp, rfl, q⟩
  · rw [if_pos q, if_pos q]
    exact ⟨-1, rfl, rfl⟩
  rcases arg_n (x := y) (lo := 0) (hi := 5) 0 5 rfl rfl (by decide) (by decide) with q2 | ⟨k, _, hk, rfl, q2⟩
  · rw [if_neg q, if_neg q, if_pos q2, if_pos q2]
    exact ⟨-1, rfl, rfl⟩
  have hp' : p < 6 := by omega
  obtain ⟨e1, e2, e3⟩ := hc.1 p hp'
  rw [if_neg q, if_neg q, if_neg q2, if_neg q2, if_pos rfl, if_pos rfl, if_neg q0, if_neg q0, hasLamp_s hc hI hp', bnd_some, show F_X10_lampAt v (nI p) 0 = _ from lampAt_s hw (p := p) (k := 0) hp' (by decide), bnd_some, Nat.add_zero]
  rcases hI.has hp' with ⟨a, b, b2, _⟩ | ⟨a, a3, b0, b1, b, b2, b3⟩
  · rw [a]
    exact ⟨-4, rfl, rfl⟩
  · have o : ∀ k, k < 5 → F_X10_lampAt v (nI p) (nI k) = some (nI (A (82 + 5 * p + k))) := fun k hk => lampAt_s hw hp' hk
    have n1 : ¬ nI 1 = 0 := by decide
    rw [a, if_neg n1, if_neg n1, bright_c hc hI hp', bright_m hw hI hp', burnt_s hw hI hp', canBurn_s hc hI hp']
    unfold F_X1_intensityOf F_X1_lifeOf F_X1_useOf
    rw [isPlace_s hp', bnd_some, bnd_some, bnd_some, if_neg q0, if_neg q0, if_neg q0, chk_nI hp' (by decide), chk_nI hp' (by decide), chk_nI hp' (by decide), nI_clamp (by omega), e1, e2, e3]
    have : k = 0 ∨ k = 1 ∨ k = 2 ∨ k = 3 ∨ k = 4 ∨ k = 5 := by omega
    rcases this with rfl | rfl | rfl | rfl | rfl | rfl
    · refine ⟨nI (A 81), ?_, ?_⟩
      · show some (Ch_kind (St_Ch (HL_now u))) = _
        rw [hc.2.1]
      · show (F_X10_lampAt v (nI p) (nI 1)).bind _ = _
        rw [o 1 (by decide), bnd_some, show 82 + 5 * p + 1 = 83 + 5 * p by omega, a3]
    · refine ⟨nI (A (84 + 5 * p)), rfl, ?_⟩
      show (F_X10_lampAt v (nI p) (nI 2)).bind _ = _
      rw [o 2 (by decide), bnd_some, show 82 + 5 * p + 2 = 84 + 5 * p by omega]
    · refine ⟨nI (A (85 + 5 * p)), rfl, ?_⟩
      show (F_X10_lampAt v (nI p) (nI 3)).bind _ = _
      rw [o 3 (by decide), bnd_some, show 82 + 5 * p + 3 = 85 + 5 * p by omega]
    · refine ⟨nI (A (86 + 5 * p)), rfl, ?_⟩
      show (F_X10_lampAt v (nI p) (nI 4)).bind _ = _
      rw [o 4 (by decide), bnd_some, show 82 + 5 * p + 4 = 86 + 5 * p by omega]
    · exact ⟨_, rfl, rfl⟩
    · by_cases g : A (86 + 5 * p) < A (85 + 5 * p)
      · rw [if_pos g, goodA_1 a g]
        exact ⟨0, rfl, rfl⟩
      · rw [if_neg g, goodA_0 g]
        exact ⟨1, rfl, rfl⟩
