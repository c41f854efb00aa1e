/-! OPS: comparing -/
def cntD (A B : Nat → Nat) : Nat → Nat → Nat
  | 0, _ => 0
  | m + 1, i => (if A i = B i then 0 else 1) + cntD A B m (i + 1)
theorem cntD_le (A B : Nat → Nat) : ∀ m i, cntD A B m i ≤ m := by
  intro m
  induction m with
  | zero => intro i; exact Nat.le_refl _
  | succ m ih =>
    intro i
    have := ih (i + 1)
    unfold cntD
    split <;> omega
theorem cntD_0 (A B : Nat → Nat) : ∀ m i, cntD A B m i = 0 ↔ ∀ j, i ≤ j → j < i + m → A j = B j := by
  intro m
  induction m with
  | zero => intro i; exact ⟨fun _ j h1 h2 => by omega, fun _ => rfl⟩
  | succ m ih =>
    intro i
    unfold cntD
    by_cases e : A i = B i
    · rw [if_pos e, Nat.zero_add, ih]
      constructor
      · intro h j h1 h2
        by_cases e2 : j = i
        · rw [e2, e]
        · exact h j (by omega) (by omega)
      · intro h j h1 h2
        exact h j (by omega) (by omega)
    · rw [if_neg e]
      constructor
      · intro h; omega
      · intro h; exact absurd (h i (Nat.le_refl _) (by omega)) e
theorem difL_m {n : Nat} {v : MdV} {A B : Nat → Nat} {lo many : Nat} (h1 : nIf (Md_now v) A) (h2 : nIf (Md_stored v) B) (hl : lo + many ≤ 129) (hb : ∀ j, lo ≤ j → j < lo + many → A j < 2 ^ 31 ∧ B j < 2 ^ 31) :
    ∀ (m i r k : Nat), i + m = lo + many → lo ≤ i → m < k → F_X10_different_L5 n k v (nI lo) (nI many) (nI r) (nI i) = some (nI (r + cntD A B m i)) := by
  intro m
  induction m with
  | zero =>
    intro i r k hi hl2 hk
    obtain ⟨k, rfl⟩ : ∃ z, k = z + 1 := ⟨k - 1, by omega⟩
    rw [F_X10_different_L5, nI_add, if_pos (nI_le (by omega) (by omega))]
    rfl
  | succ m ih =>
    intro i r k hi hl2 hk
    obtain ⟨k, rfl⟩ : ∃ z, k = z + 1 := ⟨k - 1, by omega⟩
    obtain ⟨b1, b2⟩ := hb i hl2 (by omega)
    rw [F_X10_different_L5, nI_add, if_neg (nI_nlE (by omega) (by omega)), chk_nI (by omega) (by omega), chk_nI (by omega) (by omega), nI_clamp (by omega), h1 i (by omega), h2 i (by omega), Int32.add_zero, nI_1, nI_1]
    unfold cntD
    by_cases e : A i = B i
    · rw [if_pos (by rw [e]), if_pos e, ih (i + 1) r k (by omega) (by omega) (by omega), Nat.zero_add]
    · rw [if_neg (fun z => e ((nI_eq b1 b2).mp z)), if_neg e, ih (i + 1) (r + 1) k (by omega) (by omega) (by omega), Nat.add_assoc]
theorem different_s {n : Nat} {v : MdV} {A B : Nat → Nat} {lo many : Nat} (hn : many < n) (h1 : nIf (Md_now v) A) (h2 : nIf (Md_stored v) B) (hl : lo + many ≤ 129) (hb : ∀ j, lo ≤ j → j < lo + many → A j < 2 ^ 31 ∧ B j < 2 ^ 31) : F_X10_different n v (nI lo) (nI many) = some (nI (cntD A B many lo)) := by
  have := difL_m (n := n) h1 h2 hl hb many lo 0 n (by omega) (Nat.le_refl _) hn
  rw [Nat.zero_add] at this
  exact this
theorem dif0L {n : Nat} {c c2 : CiV} {A B : Nat → Nat} (h1 : RCi c A) (h2 : RCi c2 B) (i1 : ICi A) (i2 : ICi B) : ∀ (m i r k : Nat), i + m = 64 → m < k → F_X2_differences_L4 n k c c2 (nI r) (nI i) = some (nI (r + cntD A B m i)) := by
  intro m
  induction m with
  | zero =>
    intro i r k hi hk
    obtain ⟨k, rfl⟩ : ∃ z, k = z + 1 := ⟨k - 1, by omega⟩
    rw [F_X2_differences_L4, if_pos (by rw [lit, nI_leI (by omega) (by omega)]; omega)]
    rfl
  | succ m ih =>
    intro i r k hi hk
    obtain ⟨k, rfl⟩ : ∃ z, k = z + 1 := ⟨k - 1, by omega⟩
    have b1 := i1 i (by omega)
    have b2 := i2 i (by omega)
    rw [F_X2_differences_L4, if_neg (by rw [lit, nI_leI (by omega) (by omega)]; omega), colorAt_s h1 (by omega), bnd_some, colorAt_s h2 (by omega), bnd_some, Nat.mod_eq_of_lt (by omega), nI_1, nI_1]
    unfold cntD
    by_cases e : A i = B i
    · rw [if_pos (by rw [e]), if_pos e, ih (i + 1) r k (by omega) (by omega), Nat.zero_add]
    · rw [if_neg (fun z => e ((nI_eq (by omega) (by omega)).mp z)), if_neg e, ih (i + 1) (r + 1) k (by omega) (by omega), Nat.add_assoc]
theorem likeL {n : Nat} {f f2 : FlV} {A B : Nat → Nat} (h1 : RFl f A) (h2 : RFl f2 B) (i1 : IFl A) (i2 : IFl B) (he : A 64 = B 64) : ∀ (m i k : Nat), i + m = A 64 → m < k →
    (F_X4_isLike_L15 n k f f2 (nI i) = some 1 ∧ ∀ j, i ≤ j → j < A 64 → A (65 + 2 * j) = B (65 + 2 * j) ∧ A (66 + 2 * j) = B (66 + 2 * j)) ∨ (F_X4_isLike_L15 n k f f2 (nI i) = some 0 ∧ ∃ j, j < A 64 ∧ ¬ (A (65 + 2 * j) = B (65 + 2 * j) ∧ A (66 + 2 * j) = B (66 + 2 * j))) := by
  intro m
  have h8 := i1.2.1
  induction m with
  | zero =>
    intro i k hi hk
    obtain ⟨k, rfl⟩ : ∃ z, k = z + 1 := ⟨k - 1, by omega⟩
    refine Or.inl ⟨?_, fun j z1 z2 => by omega⟩
    rw [F_X4_isLike_L15, h1.1, if_pos (nI_le (by omega) (by omega))]
  | succ m ih =>
    intro i k hi hk
    obtain ⟨k, rfl⟩ : ∃ z, k = z + 1 := ⟨k - 1, by omega⟩
    obtain ⟨e1, e2⟩ := h1.2.1 i (by omega)
    obtain ⟨e3, e4⟩ := h2.2.1 i (by omega)
    obtain ⟨b1, b2, b3⟩ := i1.2.2.1 i (by omega)
    obtain ⟨b4, b5, b6⟩ := i2.2.2.1 i (by omega)
    have n8 : ¬ (8 : Int32) ≤ nI i := by rw [lit, nI_leI (by omega) (by omega)]; omega
    rw [F_X4_isLike_L15, h1.1, if_neg (nI_nlE (by omega) (by omega)), if_neg n8, chk_nI (by omega) (by omega), chk_nI (by omega) (by omega), chk_nI (by omega) (by omega), chk_nI (by omega) (by omega), nI_clamp (by omega), e1, e2, e3, e4, nI_1]
    by_cases c1 : A (65 + 2 * i) = B (65 + 2 * i)
    · rw [if_pos (by rw [c1])]
      by_cases c2 : A (66 + 2 * i) = B (66 + 2 * i)
      · rw [if_pos (by rw [c2])]
        rcases ih (i + 1) k (by omega) (by omega) with ⟨g1, g2⟩ | g
        · refine Or.inl ⟨g1, fun j z1 z2 => ?_⟩
          by_cases e : j = i
          · rw [e]; exact ⟨c1, c2⟩
          · exact g2 j (by omega) z2
        · exact Or.inr g
      · rw [if_neg (fun z => c2 ((nI_eq (by omega) (by omega)).mp z))]
        exact Or.inr ⟨rfl, i, by omega, fun z => c2 z.2⟩
    · rw [if_neg (fun z => c1 ((nI_eq (by omega) (by omega)).mp z))]
      exact Or.inr ⟨rfl, i, by omega, fun z => c1 z.1⟩
theorem IFl.bd {A : Nat → Nat} (h : IFl A) {j : Nat} (h1 : 64 ≤ j) (h2 : j < 81) : A j < 2 ^ 31 := by
  obtain ⟨r1, r2, r3, r4⟩ := h
  by_cases e : j = 64
  · subst e; omega
  · obtain ⟨i, hi, hj⟩ : ∃ i, i < 8 ∧ (j = 65 + 2 * i ∨ j = 66 + 2 * i) := ⟨(j - 65) / 2, by omega, by omega⟩
    have : A (65 + 2 * i) ≤ 60 ∧ A (66 + 2 * i) ≤ 60 := by
      by_cases c : i < A 64
      · have := r3 i c; omega
      · have := r4 i (by omega) hi; omega
    rcases hj with rfl | rfl <;> omega
theorem isLike_s {n : Nat} {f f2 : FlV} {A B : Nat → Nat} (hn : 8 < n) (h1 : RFl f A) (h2 : RFl f2 B) (i1 : IFl A) (i2 : IFl B) : F_X4_isLike n f f2 = some (if cntD A B 17 64 = 0 then 1 else 0) := by
  have b1 := i1.2.1
  have b2 := i2.2.1
  unfold F_X4_isLike
  rw [h1.1, h2.1]
  by_cases e : A 64 = B 64
  · rw [if_pos (by rw [e])]
    rcases likeL (n := n) h1 h2 i1 i2 e (A 64) 0 n (by omega) (by omega) with ⟨g1, g2⟩ | ⟨g1, j, hj, g2⟩
    · have : cntD A B 17 64 = 0 := by
        rw [cntD_0]
        intro j z1 z2
        by_cases e4 : j = 64
        · rw [e4, e]
        · obtain ⟨i, hi, hj⟩ : ∃ i, i < 8 ∧ (j = 65 + 2 * i ∨ j = 66 + 2 * i) := ⟨(j - 65) / 2, by omega, by omega⟩
          have both : A (65 + 2 * i) = B (65 + 2 * i) ∧ A (66 + 2 * i) = B (66 + 2 * i) := by
            by_cases c : i < A 64
            · exact g2 i (by omega) c
            · have x1 := i1.2.2.2 i (by omega) hi
              have x2 := i2.2.2.2 i (by omega) hi
              omega
          rcases hj with rfl | rfl
          · exact both.1
          · exact both.2
      rw [if_pos this]
      exact g1
    · have : ¬ cntD A B 17 64 = 0 := by
        rw [cntD_0]
        intro z
        exact g2 ⟨z _ (by omega) (by omega), z _ (by omega) (by omega)⟩
      rw [if_neg this]
      exact g1
  · have : ¬ cntD A B 17 64 = 0 := by
      rw [cntD_0]
      intro z
      exact e (z 64 (by omega) (by omega))
    rw [if_neg (fun z => e ((nI_eq (by omega) (by omega)).mp z)), if_neg this]
theorem likeLamp_s {c c2 : ChV} {A B : Nat → Nat} (h1 : RCh c A) (h2 : RCh c2 B) (i1 : ICh A) (i2 : ICh B) {p : Nat} (hp : p < 6) : F_X1_isLike c c2 (nI p) = some (if cntD A B 5 (82 + 5 * p) = 0 then 1 else 0) := by
  have q0 : ¬ (1 : Int32) = 0 := by decide
  obtain ⟨e1, e2, e3⟩ := h1.1 p hp
  obtain ⟨e4, e5, e6⟩ := h2.1 p hp
  have o1 : F_X1_intensityOf c (nI p) = some (nI (A (84 + 5 * p))) := by
    unfold F_X1_intensityOf; rw [isPlace_s hp, bnd_some, if_neg q0, chk_nI hp (by decide), nI_clamp (by omega), e1]
  have o2 : F_X1_lifeOf c (nI p) = some (nI (A (85 + 5 * p))) := by
    unfold F_X1_lifeOf; rw [isPlace_s hp, bnd_some, if_neg q0, chk_nI hp (by decide), nI_clamp (by omega), e2]
  have o3 : F_X1_useOf c (nI p) = some (nI (A (86 + 5 * p))) := by
    unfold F_X1_useOf; rw [isPlace_s hp, bnd_some, if_neg q0, chk_nI hp (by decide), nI_clamp (by omega), e3]
  have o4 : F_X1_intensityOf c2 (nI p) = some (nI (B (84 + 5 * p))) := by
    unfold F_X1_intensityOf; rw [isPlace_s hp, bnd_some, if_neg q0, chk_nI hp (by decide), nI_clamp (by omega), e4]
  have o5 : F_X1_lifeOf c2 (nI p) = some (nI (B (85 + 5 * p))) := by
    unfold F_X1_lifeOf; rw [isPlace_s hp, bnd_some, if_neg q0, chk_nI hp (by decide), nI_clamp (by omega), e5]
  have o6 : F_X1_useOf c2 (nI p) = some (nI (B (86 + 5 * p))) := by
    unfold F_X1_useOf; rw [isPlace_s hp, bnd_some, if_neg q0, chk_nI hp (by decide), nI_clamp (by omega), e6]
  have l1 := i1.2.2.2.2.2.2 p hp
  have l2 := i2.2.2.2.2.2.2 p hp
  have k1 := i1.1
  have k2 := i2.1
  unfold lampIn at l1 l2
  unfold F_X1_isLike
  rw [hasLamp_s h1 i1 hp, hasLamp_s h2 i2 hp, o1, o2, o3, o4, o5, o6, h1.2.1, h2.2.1]
  simp only [bnd_some]
  have all : (A (82 + 5 * p) = B (82 + 5 * p) ∧ A (83 + 5 * p) = B (83 + 5 * p) ∧ A (84 + 5 * p) = B (84 + 5 * p) ∧ A (85 + 5 * p) = B (85 + 5 * p) ∧ A (86 + 5 * p) = B (86 + 5 * p)) ↔ cntD A B 5 (82 + 5 * p) = 0 := by
    rw [cntD_0]
    constructor
    · intro z j z1 z2
      rcases (show j = 82 + 5 * p ∨ j = 83 + 5 * p ∨ j = 84 + 5 * p ∨ j = 85 + 5 * p ∨ j = 86 + 5 * p by omega) with rfl | rfl | rfl | rfl | rfl
      · exact z.1
      · exact z.2.1
      · exact z.2.2.1
      · exact z.2.2.2.1
      · exact z.2.2.2.2
    · intro z
      exact ⟨z _ (by omega) (by omega), z _ (by omega) (by omega), z _ (by omega) (by omega), z _ (by omega) (by omega), z _ (by omega) (by omega)⟩
  by_cases cD : cntD A B 5 (82 + 5 * p) = 0
  · obtain ⟨z1, z2, z3, z4, z5⟩ := all.mpr cD
    rw [if_pos cD]
    rcases l1 with ⟨a1, a2, a3, a4, a5⟩ | ⟨a1, a2, a3⟩
    · rw [← z1, a1, if_pos (show nI 0 = 0 from rfl), if_pos rfl]
    · have zk : A 81 = B 81 := by omega
      rw [← z1, ← z3, ← z4, ← z5, a1, zk]
      simp
  · rw [if_neg cD]
    have nall := fun z => cD (all.mp z)
    rcases l1 with ⟨a1, a2, a3, a4, a5⟩ | ⟨a1, a2, a3, a4, a5, a6, a7⟩
    · rcases l2 with ⟨b1, b2, b3, b4, b5⟩ | ⟨b1, b2, b3⟩
      · exact absurd ⟨by omega, by omega, by omega, by omega, by omega⟩ nall
      · rw [a1, b1]; rfl
    · rcases l2 with ⟨b1, b2, b3, b4, b5⟩ | ⟨b1, b2, b3, b4, b5, b6, b7⟩
      · rw [a1, b1]; rfl
      · rw [a1, b1, if_neg (show ¬ nI 1 = 0 by decide), if_neg (show ¬ nI 1 = 0 by decide)]
        by_cases c1 : A 81 = B 81
        · rw [if_pos (show nI (A 81) = nI (B 81) by rw [c1])]
          by_cases c2 : A (84 + 5 * p) = B (84 + 5 * p)
          · rw [if_pos (show nI (A (84 + 5 * p)) = nI (B (84 + 5 * p)) by rw [c2])]
            by_cases c3 : A (85 + 5 * p) = B (85 + 5 * p)
            · rw [if_pos (show nI (A (85 + 5 * p)) = nI (B (85 + 5 * p)) by rw [c3])]
              by_cases c4 : A (86 + 5 * p) = B (86 + 5 * p)
              · exact absurd ⟨by omega, by omega, c2, c3, c4⟩ nall
              · rw [if_neg (fun z => c4 ((nI_eq (by omega) (by omega)).mp z))]
            · rw [if_neg (fun z => c3 ((nI_eq (by omega) (by omega)).mp z))]
          · rw [if_neg (fun z => c2 ((nI_eq (by omega) (by omega)).mp z))]
        · rw [if_neg (fun z => c1 ((nI_eq (by omega) (by omega)).mp z))]
theorem ICh.bd {A : Nat → Nat} (h : ICh A) {p j : Nat} (hp : p < 6) (h1 : 82 + 5 * p ≤ j) (h2 : j < 82 + 5 * p + 5) : A j < 2 ^ 31 := by
  have l := h.2.2.2.2.2.2 p hp
  have k := h.1
  unfold lampIn at l
  rcases (show j = 82 + 5 * p ∨ j = 83 + 5 * p ∨ j = 84 + 5 * p ∨ j = 85 + 5 * p ∨ j = 86 + 5 * p by omega) with rfl | rfl | rfl | rfl | rfl <;> omega
theorem dif2L {n : Nat} {c c2 : ChV} {v : MdV} {A B : Nat → Nat} {wh : Int32} (hn : 8 < n) (h1 : RCh c A) (h2 : RCh c2 B) (i1 : ICh A) (i2 : ICh B) (w1 : nIf (Md_now v) A) (w2 : nIf (Md_stored v) B) : ∀ (m i r k k2 : Nat), i + m = 6 → m < k → m < k2 →
    ∃ a, F_X1_differences_L4 n k c c2 (nI r) (nI i) = some a ∧ F_X10_compare_L59 n k2 v wh (nI r) (nI i) = if wh = 2 then some a else some ((nI (A 116) - nI (B 116)) + 1000000) := by
  intro m
  induction m with
  | zero =>
    intro i r k k2 hi hk hk2
    obtain ⟨k, rfl⟩ : ∃ z, k = z + 1 := ⟨k - 1, by omega⟩
    obtain ⟨k2, rfl⟩ : ∃ z, k2 = z + 1 := ⟨k2 - 1, by omega⟩
    have : (6 : Int32) ≤ nI i := by rw [lit, nI_leI (by omega) (by omega)]; omega
    have c116 : (116 : Int32).toNatClampNeg = 116 := rfl
    have k116 : ∀ {α : Type} {a : Option α}, chk 116 289 a = a := fun {α} {a} => chk_nI (j := 116) (by decide) (by decide)
    refine ⟨nI r, by rw [F_X1_differences_L4, if_pos this], ?_⟩
    rw [F_X10_compare_L59, if_pos this, k116, k116, c116, w1 116 (by decide), w2 116 (by decide)]
  | succ m ih =>
    intro i r k k2 hi hk hk2
    obtain ⟨k, rfl⟩ : ∃ z, k = z + 1 := ⟨k - 1, by omega⟩
    obtain ⟨k2, rfl⟩ : ∃ z, k2 = z + 1 := ⟨k2 - 1, by omega⟩
    have : ¬ (6 : Int32) ≤ nI i := by rw [lit, nI_leI (by omega) (by omega)]; omega
    have hp : i < 6 := by omega
    have i0 : (82 : Int32) + 5 * nI i = nI (82 + 5 * i) := by rw [lit, lit, pk_mul, nI_add]
    have le5 := cntD_le A B 5 (82 + 5 * i)
    rw [F_X1_differences_L4, if_neg this, likeLamp_s h1 h2 i1 i2 hp, bnd_some, F_X10_compare_L59, if_neg this, i0, show F_X10_different n v (nI (82 + 5 * i)) 5 = _ from different_s (many := 5) (by omega) w1 w2 (by omega) (fun j z1 z2 => ⟨i1.bd hp z1 z2, i2.bd hp z1 z2⟩), bnd_some, nI_1, nI_1, Int32.add_zero]
    by_cases e : cntD A B 5 (82 + 5 * i) = 0
    · rw [e, if_pos rfl, if_neg (show ¬ (1 : Int32) = 0 by decide), if_pos (show nI 0 ≤ 0 by decide)]
      exact ih (i + 1) r k k2 (by omega) (by omega) (by omega)
    · have g : ¬ nI (cntD A B 5 (82 + 5 * i)) ≤ 0 := nI_nlE (b := 0) (by omega) (by omega)
      rw [if_neg e, if_pos rfl, if_neg g]
      exact ih (i + 1) (r + 1) k k2 (by omega) (by omega) (by omega)
theorem op_compare {n : Nat} {u : HLV} {v : MdV} (hn : 100 < n) (h : R u v) (x : Int32) : ∃ a, F_X9_compare n u x = some a ∧ F_X10_compare n v x = some a := by
  have q0 : ¬ (1 : Int32) = 0 := by decide
  obtain ⟨⟨A, hA, _⟩, _, h3, _, _⟩ := h
  unfold F_X9_compare F_X10_compare
  rw [out_s, wi_s, bnd_some, bnd_some]
  rcases arg_n (x := x) (lo := 0) (hi := 3) 0 3 rfl rfl (by decide) (by decide) with q | ⟨w, _, hw, rfl, q⟩
  · rw [if_pos q, if_pos q]
    exact ⟨-1, rfl, rfl⟩
  rw [if_neg q, if_neg q, if_pos rfl, if_neg q0]
  rcases h3 with ⟨e1, e2⟩ | ⟨e1, e2, B, hB, _⟩
  · rw [e1, e2, if_pos rfl, if_pos rfl]
    exact ⟨-2, rfl, rfl⟩
  rw [e1, e2, if_neg q0, if_neg q0]
  obtain ⟨a1, a2, a3, a4, a5, a6, a7, a8, a9, a10⟩ := hA
  obtain ⟨b1, b2, b3, b4, b5, b6, b7, b8, b9, b10⟩ := hB
  rcases (show w = 0 ∨ w = 1 ∨ w = 2 ∨ w = 3 by omega) with rfl | rfl | rfl | rfl
  · have d := dif0L (n := n) a2 b2 a7 b7 64 0 0 n (by omega) (by omega)
    have d' : F_X2_differences n (St_Ci (HL_now u)) (St_Ci (HL_stored u)) = some (nI (0 + cntD A B 64 0)) := d
    have e := different_s (n := n) (v := v) (A := A) (B := B) (lo := 0) (many := 64) (by omega) a1 b1 (by omega) (fun j _ z => by have := a7 j (by omega); have := b7 j (by omega); omega)
    rw [if_pos (show nI 0 = 0 from rfl), if_pos (show nI 0 = 0 from rfl), d', show F_X10_different n v 0 64 = _ from e, bnd_some, bnd_some, Nat.zero_add]
    exact ⟨_, rfl, rfl⟩
  · have e := different_s (n := n) (v := v) (A := A) (B := B) (lo := 64) (many := 17) (by omega) a1 b1 (by omega) (fun j z1 z2 => ⟨a8.bd z1 (by omega), b8.bd z1 (by omega)⟩)
    have le := cntD_le A B 17 64
    rw [if_neg (show ¬ nI 1 = 0 by decide), if_neg (show ¬ nI 1 = 0 by decide), if_pos (show nI 1 = 1 from rfl), if_pos (show nI 1 = 1 from rfl), isLike_s (by omega) a3 b3 a8 b8, show F_X10_different n v 64 17 = _ from e, bnd_some, bnd_some]
    by_cases c : cntD A B 17 64 = 0
    · rw [if_pos c, if_neg q0, c]
      exact ⟨0, rfl, rfl⟩
    · have g : ¬ nI (cntD A B 17 64) ≤ 0 := nI_nlE (b := 0) (by omega) (by omega)
      rw [if_neg c, if_pos rfl, if_neg g]
      exact ⟨1, rfl, rfl⟩
  · obtain ⟨a, g1, g2⟩ := dif2L (n := n) (v := v) (wh := 2) (by omega) a4 b4 a9 b9 a1 b1 6 0 0 n n (by omega) (by omega) (by omega)
    rw [if_pos rfl] at g2
    have g1' : F_X1_differences n (St_Ch (HL_now u)) (St_Ch (HL_stored u)) = some a := g1
    refine ⟨a, ?_, g2⟩
    rw [if_neg (show ¬ nI 2 = 0 by decide), if_neg (show ¬ nI 2 = 1 by decide), if_pos (show nI 2 = 2 from rfl), g1', bnd_some]
  · obtain ⟨a, g1, g2⟩ := dif2L (n := n) (v := v) (wh := 3) (by omega) a4 b4 a9 b9 a1 b1 6 0 0 n n (by omega) (by omega) (by omega)
    rw [if_neg (by decide)] at g2
    refine ⟨_, ?_, g2⟩
    rw [if_neg (show ¬ nI 3 = 0 by decide), if_neg (show ¬ nI 3 = 1 by decide), if_neg (show ¬ nI 3 = 2 by decide), a5.2.1, b5.2.1]
