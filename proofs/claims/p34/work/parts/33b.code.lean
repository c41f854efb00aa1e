/-! CODE: asking, appending, taking away -/
theorem both {α : Type} {X : Option α} (h : X.isSome = true) : ∃ a, X = some a ∧ X = some a := by
  cases X with
  | none => cases h
  | some a => exact ⟨a, rfl, rfl⟩
theorem sumL_cg {A A' : Nat → Nat} : ∀ k, (∀ i, i < k → A' (65 + 2 * i) = A (65 + 2 * i)) → sumL A' k = sumL A k := by
  intro k
  induction k with
  | zero => intro _; rfl
  | succ k ih =>
    intro h
    show sumL A' k + A' (65 + 2 * k) = sumL A k + A (65 + 2 * k)
    rw [ih (fun i hi => h i (by omega)), h k (by omega)]
theorem sumD_cg {A A' : Nat → Nat} : ∀ k, (∀ i, i < k → A' (66 + 2 * i) = A (66 + 2 * i)) → sumD A' k = sumD A k := by
  intro k
  induction k with
  | zero => intro _; rfl
  | succ k ih =>
    intro h
    show sumD A' k + A' (66 + 2 * k) = sumD A k + A (66 + 2 * k)
    rw [ih (fun i hi => h i (by omega)), h k (by omega)]
def IFl0 (A : Nat → Nat) : Prop := A 64 ≤ 8 ∧ (∀ i, i < A 64 → 1 ≤ A (65 + 2 * i) ∧ A (65 + 2 * i) ≤ 60 ∧ A (66 + 2 * i) ≤ 60) ∧ ∀ i, A 64 ≤ i → i < 8 → A (65 + 2 * i) = 0 ∧ A (66 + 2 * i) = 0
theorem append_s {f : FlV} {v : MdV} {A : Nat → Nat} {l d : Nat} (h : RFl f A) (hI : IFl0 A) (hp : A 64 < 8) (hl : 1 ≤ l) (hl2 : l ≤ 60) (hd : d ≤ 60) (hw : nIf (Md_now v) A) :
    ∃ (f2 : FlV) (w2 : Nat → Int32) (A2 : Nat → Nat), F_X4_append f (nI l) (nI d) = some f2 ∧ F_X10_appends v (nI l) (nI d) = some (setNow v w2) ∧ RFl f2 A2 ∧ nIf w2 A2 ∧ IFl A2 ∧ A2 64 = A 64 + 1 ∧ frm 64 81 A A2 ∧ frmw 64 81 (Md_now v) w2 := by
  obtain ⟨r1, r2, r3, r4⟩ := h
  have n8 : ¬ (8 : Int32) ≤ nI (A 64) := by rw [lit, nI_leI (by omega) (by omega)]; omega
  have l8 : nI (A 64) < (8 : Int32) := Int32.not_le.mp n8
  let A2 := sA (sA (sA A (65 + 2 * A 64) l) (65 + 2 * A 64 + 1) d) 64 (A 64 + 1)
  have a64 : A2 64 = A 64 + 1 := sA_at
  have aL : A2 (65 + 2 * A 64) = l := by
    show sA (sA (sA A _ _) _ _) _ _ _ = _
    rw [sA_ne (by omega), sA_ne (by omega), sA_at]
  have aD : A2 (66 + 2 * A 64) = d := by
    show sA (sA (sA A _ _) _ _) _ _ _ = _
    rw [sA_ne (by omega), show 66 + 2 * A 64 = 65 + 2 * A 64 + 1 by omega, sA_at]
  have aO : ∀ j, j ≠ 64 → j ≠ 65 + 2 * A 64 → j ≠ 66 + 2 * A 64 → A2 j = A j := by
    intro j h1 h2 h3
    show sA (sA (sA A _ _) _ _) _ _ _ = _
    rw [sA_ne h1, sA_ne (by omega), sA_ne h2]
  refine ⟨Fl_mk (upd (Fl_lights f) (A 64) (nI l)) (upd (Fl_darks f) (A 64) (nI d)) (nI (A 64 + 1)) (nI (sumL A (A 64) + l)) (nI (sumD A (A 64) + d)), upd (upd (upd (Md_now v) (65 + 2 * A 64) (nI l)) (65 + 2 * A 64 + 1) (nI d)) 64 (nI (A 64 + 1)), A2, ?_, ?_, ⟨?_, ?_, ?_, ?_⟩, ?_, ⟨?_, ?_, ?_, ?_⟩, a64, ?_, ?_⟩
  · unfold F_X4_append
    rw [r1, if_neg (nI_pos (by omega)), if_neg n8, if_pos l8, chk_nI (by omega) (by omega), chk_nI (by omega) (by omega), nI_clamp (by omega), nI_1, r3, r4, nI_add, nI_add]
  · unfold F_X10_appends
    have q1 : Md_now v 64 = nI (A 64) := hw 64 (by omega)
    have q2 : upd (Md_now v) (65 + 2 * A 64) (nI l) 64 = nI (A 64) := by rw [upd_ne (by omega), q1]
    have q3 : upd (upd (Md_now v) (65 + 2 * A 64) (nI l)) (65 + 2 * A 64 + 1) (nI d) 64 = nI (A 64) := by rw [upd_ne (by omega), q2]
    have c64 : (64 : Int32).toNatClampNeg = 64 := rfl
    have i1 : (65 : Int32) + 2 * nI (A 64) = nI (65 + 2 * A 64) := by rw [lit, lit, pk_mul, nI_add]
    have i2 : nI (65 + 2 * A 64) + 1 = nI (65 + 2 * A 64 + 1) := nI_1 _
    have k64 : ∀ {α : Type} {a : Option α}, chk 64 289 a = a := fun {α} {a} => chk_nI (j := 64) (by decide) (by decide)
    rw [c64, q1, i1, nI_clamp (by omega), q2, i1, i2, nI_clamp (by omega), q3, k64, k64, k64, k64, chk_nI (by omega) (by decide), chk_nI (by omega) (by decide), nI_1]
    rfl
  · rw [a64]
  · intro i hi
    rw [a64] at hi
    by_cases e : i = A 64
    · subst e
      rw [aL, aD]
      exact ⟨upd_at, upd_at⟩
    · rw [aO _ (by omega) (by omega) (by omega), aO _ (by omega) (by omega) (by omega)]
      obtain ⟨z1, z2⟩ := r2 i (by omega)
      refine ⟨?_, ?_⟩
      · show upd (Fl_lights f) (A 64) (nI l) i = _
        rw [upd_ne e, z1]
      · show upd (Fl_darks f) (A 64) (nI d) i = _
        rw [upd_ne e, z2]
  · rw [a64]
    show nI (sumL A (A 64) + l) = nI (sumL A2 (A 64) + A2 (65 + 2 * A 64))
    rw [aL, sumL_cg (A := A) (A' := A2) (A 64) (fun i hi => aO _ (by omega) (by omega) (by omega))]
  · rw [a64]
    show nI (sumD A (A 64) + d) = nI (sumD A2 (A 64) + A2 (66 + 2 * A 64))
    rw [aD, sumD_cg (A := A) (A' := A2) (A 64) (fun i hi => aO _ (by omega) (by omega) (by omega))]
  · exact ((hw.upd _ _).upd _ _).upd _ _
  · omega
  · omega
  · intro i hi
    rw [a64] at hi
    by_cases e : i = A 64
    · subst e; rw [aL, aD]; exact ⟨hl, hl2, hd⟩
    · rw [aO _ (by omega) (by omega) (by omega), aO _ (by omega) (by omega) (by omega)]
      exact hI.2.1 i (by omega)
  · intro i hi h8
    rw [a64] at hi
    rw [aO _ (by omega) (by omega) (by omega), aO _ (by omega) (by omega) (by omega)]
    exact hI.2.2 i (by omega) h8
  · intro j hj
    exact aO j (by omega) (by omega) (by omega)
  · intro j hj
    rw [upd_ne (by omega), upd_ne (by omega), upd_ne (by omega)]
theorem clearL {n : Nat} : ∀ (m i k : Nat) (v : MdV) (A : Nat → Nat), i + m = 16 → m < k → nIf (Md_now v) A →
    ∃ (w2 : Nat → Int32) (A2 : Nat → Nat), F_X10_clearsCode_L10 n k v (nI i) = some (setNow v w2) ∧ nIf w2 A2 ∧ (∀ j, 65 + i ≤ j → j < 81 → A2 j = 0) ∧ frm (65 + i) 81 A A2 ∧ frmw (65 + i) 81 (Md_now v) w2 := by
  intro m
  induction m with
  | zero =>
    intro i k v A hi hk hw
    obtain ⟨k, rfl⟩ : ∃ z, k = z + 1 := ⟨k - 1, by omega⟩
    refine ⟨Md_now v, A, ?_, hw, fun j h1 h2 => by omega, fun j _ => rfl, fun j _ => rfl⟩
    rw [F_X10_clearsCode_L10, if_pos (by rw [lit, nI_leI (by omega) (by omega)]; omega)]
    rfl
  | succ m ih =>
    intro i k v A hi hk hw
    obtain ⟨k, rfl⟩ : ∃ z, k = z + 1 := ⟨k - 1, by omega⟩
    obtain ⟨w2, A2, g1, g2, g3, g4, g5⟩ := ih (i + 1) k (setNow v (upd (Md_now v) (65 + i) (nI 0))) (sA A (65 + i) 0) (by omega) (by omega) (hw.upd _ _)
    refine ⟨w2, A2, ?_, g2, ?_, ?_, ?_⟩
    · rw [F_X10_clearsCode_L10, if_neg (by rw [lit, nI_leI (by omega) (by omega)]; omega), lit 65, nI_add, chk_nI (by show 65 + i < 289; omega) (by decide), nI_clamp (by show 65 + i < _; omega), nI_1]
      exact g1
    · intro j h1 h2
      by_cases e : j = 65 + i
      · rw [g4 j (by omega), e, sA_at]
      · exact g3 j (by omega) h2
    · intro j hj
      rw [g4 j (by omega), sA_ne (by omega)]
    · intro j hj
      rw [g5 j (by omega)]
      exact upd_ne (by omega)
theorem clears_s {n : Nat} {v : MdV} {A : Nat → Nat} (hn : 16 < n) (hw : nIf (Md_now v) A) :
    ∃ (w2 : Nat → Int32) (A2 : Nat → Nat), F_X10_clearsCode n v = some (setNow v w2) ∧ nIf w2 A2 ∧ (∀ j, 64 ≤ j → j < 81 → A2 j = 0) ∧ frm 64 81 A A2 ∧ frmw 64 81 (Md_now v) w2 := by
  obtain ⟨w2, A2, g1, g2, g3, g4, g5⟩ := clearL (n := n) 16 0 n (setNow v (upd (Md_now v) 64 (nI 0))) (sA A 64 0) (by omega) (by omega) (hw.upd _ _)
  refine ⟨w2, A2, g1, g2, ?_, ?_, ?_⟩
  · intro j h1 h2
    by_cases e : j = 64
    · rw [g4 j (by omega), e, sA_at]
    · exact g3 j (by omega) h2
  · intro j hj
    rw [g4 j (by omega), sA_ne (by omega)]
  · intro j hj
    rw [g5 j (by omega)]
    exact upd_ne (by omega)
theorem drop_s {f : FlV} {A : Nat → Nat} (h : ∀ j, 64 ≤ j → j < 81 → A j = 0) : ∃ f2, F_X4_drop f = some f2 ∧ RFl f2 A ∧ IFl0 A := by
  have h64 := h 64 (by omega) (by omega)
  refine ⟨Fl_mk (Fl_lights f) (Fl_darks f) 0 0 0, rfl, ⟨?_, ?_, ?_, ?_⟩, ?_, ?_, ?_⟩
  · rw [h64]; rfl
  · intro i hi; omega
  · rw [h64]; rfl
  · rw [h64]; rfl
  · omega
  · intro i hi; omega
  · intro i _ hi
    exact ⟨h _ (by omega) (by omega), h _ (by omega) (by omega)⟩
theorem kind_s {n : Nat} {f : FlV} {v : MdV} {A : Nat → Nat} (hn : 8 < n) (h : RFl f A) (hI : IFl A) (hw : nIf (Md_now v) A) : ∃ a, F_X4_kind f = some a ∧ F_X10_kindOfCode n v = some a := by
  have p := per_in hI
  obtain ⟨r1, r2, r3, r4⟩ := h
  obtain ⟨b1, b2, b3⟩ := hI.2.2.1 0 (by have := hI.1; omega)
  have h8 := hI.2.1
  have c64 : (64 : Int32).toNatClampNeg = 64 := rfl
  have k64 : ∀ {α : Type} {a : Option α}, chk 64 289 a = a := fun {α} {a} => chk_nI (j := 64) (by decide) (by decide)
  unfold F_X4_kind F_X10_kindOfCode
  rw [darks_m hw hI hn, lights_m hw hI hn, r1, r3, r4, c64, k64, hw 64 (by omega), show (0 : Int32) = nI 0 from rfl, light_s hw (by omega), dark_s hw (by omega)]
  simp only [bnd_some]
  rw [show (1 : Int32) = nI 1 from rfl]
  by_cases e : sumD A (A 64) = 0
  · rw [e]
    exact ⟨nI 0, if_pos rfl, if_pos rfl⟩
  · have e' : ¬ nI (sumD A (A 64)) = nI 0 := by rw [nI_eq (by omega) (by omega)]; exact e
    rw [if_neg e', if_neg e']
    by_cases e2 : A 64 = 1
    · have x1 : sumL A 1 = A 65 := by show 0 + A (65 + 2 * 0) = _; rw [Nat.zero_add]
      have x2 : sumD A 1 = A 66 := by show 0 + A (66 + 2 * 0) = _; rw [Nat.zero_add]
      rw [e2, x1, x2]
      rw [if_pos rfl]
      exact both (by (repeat' split) <;> rfl)
    · have e3 : ¬ nI (A 64) = nI 1 := by rw [nI_eq (by omega) (by omega)]; exact e2
      rw [if_neg e3, if_neg e3]
      exact both (by split <;> rfl)
theorem op_code {n : Nat} {u : HLV} {v : MdV} (hn : 8 < n) (h : R u v) (x : Int32) : ∃ a, F_X9_code n u x = some a ∧ F_X10_code n v x = some a := by
  obtain ⟨⟨A, ⟨h1, _, h3, _, h5, _, _, hI, _, hT⟩, _⟩, _⟩ := h
  obtain ⟨s1, s2, s3, s4⟩ := h5
  have ht := hT.1
  have c64 : (64 : Int32).toNatClampNeg = 64 := rfl
  have k64 : ∀ {α : Type} {a : Option α}, chk 64 289 a = a := fun {α} {a} => chk_nI (j := 64) (by decide) (by decide)
  have c116 : (116 : Int32).toNatClampNeg = 116 := rfl
  have k116 : ∀ {α : Type} {a : Option α}, chk 116 289 a = a := fun {α} {a} => chk_nI (j := 116) (by decide) (by decide)
  obtain ⟨kk, k1, k2⟩ := kind_s hn h3 hI h1
  unfold F_X9_code F_X10_code F_X4_parts F_X4_lightTicks
  rw [period_c h3, period_m h1 hI hn, lights_m h1 hI hn, k1, k2, c64, k64, c116, k116, h1 64 (by omega), h1 116 (by omega), s2, lit_c h3 hI hn (by omega), lit_m h1 hI hn (by omega), h3.1, h3.2.2.1]
  simp only [bnd_some]
  exact both (by (repeat' split) <;> rfl)
theorem nextL {n : Nat} {u : HLV} {v : MdV} {A : Nat → Nat} {b : Nat} (hn : 8 < n) (h1 : nIf (Md_now v) A) (h3 : RFl (St_Fl (HL_now u)) A) (hI : IFl A) (ht : So_tick (St_So (HL_now u)) = nI (A 116)) (hT : A 116 ≤ 1000000) (hb : b < 2) :
    ∀ (m i k k2 : Nat), i + m = per A → m < k → m < k2 → ∃ a, F_X9_next_L24 n k u (nI b) (nI (per A)) (nI i) = some a ∧ F_X10_next_L19 n k2 v (nI b) (nI (A 116 + i)) = some a := by
  have p := per_in hI
  have c116 : (116 : Int32).toNatClampNeg = 116 := rfl
  have k116 : ∀ {α : Type} {a : Option α}, chk 116 289 a = a := fun {α} {a} => chk_nI (j := 116) (by decide) (by decide)
  intro m
  induction m with
  | zero =>
    intro i k k2 hi hk hk2
    obtain ⟨k, rfl⟩ : ∃ z, k = z + 1 := ⟨k - 1, by omega⟩
    obtain ⟨k2, rfl⟩ : ∃ z, k2 = z + 1 := ⟨k2 - 1, by omega⟩
    refine ⟨-4, ?_, ?_⟩
    · rw [F_X9_next_L24, if_pos (nI_le (by omega) (by omega))]
    · rw [F_X10_next_L19, k116, period_m h1 hI hn, bnd_some, c116, h1 116 (by omega), nI_add, if_pos (nI_le (by omega) (by omega))]
  | succ m ih =>
    intro i k k2 hi hk hk2
    obtain ⟨k, rfl⟩ : ∃ z, k = z + 1 := ⟨k - 1, by omega⟩
    obtain ⟨k2, rfl⟩ : ∃ z, k2 = z + 1 := ⟨k2 - 1, by omega⟩
    obtain ⟨a, g1, g2⟩ := ih (i + 1) k k2 (by omega) (by omega) (by omega)
    have E1 : F_X9_next_L24 n (k + 1) u (nI b) (nI (per A)) (nI i) = if nI b = 1 then (if (if litA A (A 116 + i) = true then (1 : Int32) else 0) = 1 then some (nI (A 116 + i)) else some a) else (if (if litA A (A 116 + i) = true then (1 : Int32) else 0) = 0 then some (nI (A 116 + i)) else some a) := by
      rw [F_X9_next_L24, if_neg (nI_ge (by omega) (by omega)), ht, nI_add, lit_c h3 hI hn (by omega), bnd_some, nI_1, g1]
    have E2 : F_X10_next_L19 n (k2 + 1) v (nI b) (nI (A 116 + i)) = if nI b = 1 then (if (if litA A (A 116 + i) = true then (1 : Int32) else 0) = 1 then some (nI (A 116 + i)) else some a) else (if (if litA A (A 116 + i) = true then (1 : Int32) else 0) = 0 then some (nI (A 116 + i)) else some a) := by
      rw [F_X10_next_L19, k116, period_m h1 hI hn, bnd_some, c116, h1 116 (by omega), nI_add, if_neg (nI_ge (by omega) (by omega)), lit_m h1 hI hn (by omega), bnd_some, nI_1, Nat.add_assoc, g2]
    rw [E1, E2]
    by_cases e : nI b = 1
    · rw [if_pos e]
      split <;> exact ⟨_, rfl, rfl⟩
    · rw [if_neg e]
      split <;> exact ⟨_, rfl, rfl⟩
theorem op_next {n : Nat} {u : HLV} {v : MdV} (hn : 1000 < n) (h : R u v) (x : Int32) : ∃ a, F_X9_next n u x = some a ∧ F_X10_next n v x = some a := by
  obtain ⟨⟨A, ⟨h1, _, h3, _, h5, _, _, hI, _, hT⟩, _⟩, _⟩ := h
  obtain ⟨s1, s2, s3, s4⟩ := h5
  have p := per_in hI
  have c116 : (116 : Int32).toNatClampNeg = 116 := rfl
  have k116 : ∀ {α : Type} {a : Option α}, chk 116 289 a = a := fun {α} {a} => chk_nI (j := 116) (by decide) (by decide)
  unfold F_X9_next F_X10_next
  rw [out_s, wi_s, bnd_some, bnd_some]
  rcases arg_n (x := x) (lo := 0) (hi := 1) 0 1 rfl rfl (by decide) (by decide) with q | ⟨b, _, hb, rfl, q⟩
  · rw [if_pos q, if_pos q]
    exact ⟨-1, rfl, rfl⟩
  · obtain ⟨a, g1, g2⟩ := nextL (n := n) (b := b) (by omega) h1 h3 hI s2 hT.1 (by omega) (per A) 0 n n (by omega) (by omega) (by omega)
    refine ⟨a, ?_, ?_⟩
    · rw [if_neg q, if_pos rfl, period_c h3, bnd_some]
      exact g1
    · have q0 : ¬ (1 : Int32) = 0 := by decide
      rw [if_neg q, if_neg q0, k116, c116, h1 116 (by omega)]
      exact g2
