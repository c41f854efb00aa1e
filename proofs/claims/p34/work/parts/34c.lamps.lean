/-! LAMPS: putting in, taking out, another changer -/
theorem insert_c {c : ChV} {p : Nat} {i l : Int32} (hp : p < 6) : F_X1_insert c (nI p) i l = some (Ch_mk (upd (Ch_intensities c) p i) (upd (Ch_lives c) p l) (upd (Ch_uses c) p 0) (Ch_kind c) (Ch_present c) (Ch_change c) (Ch_changeLeft c)) := by
  unfold F_X1_insert
  rw [isPlace_s hp, bnd_some, if_neg (by decide), chk_nI hp (by decide), chk_nI hp (by decide), chk_nI hp (by decide), nI_clamp (by omega)]
def setL (A : Nat → Nat) (p a b c d e : Nat) : Nat → Nat := sA (sA (sA (sA (sA A (82 + 5 * p) a) (82 + 5 * p + 1) b) (82 + 5 * p + 2) c) (82 + 5 * p + 3) d) (82 + 5 * p + 4) e
theorem setL_out {A : Nat → Nat} {p a b c d e j : Nat} (h : j < 82 + 5 * p ∨ 87 + 5 * p ≤ j) : setL A p a b c d e j = A j := by
  unfold setL
  rw [sA_ne (by omega), sA_ne (by omega), sA_ne (by omega), sA_ne (by omega), sA_ne (by omega)]
theorem setL_at {A : Nat → Nat} {p a b c d e : Nat} : setL A p a b c d e (82 + 5 * p) = a ∧ setL A p a b c d e (83 + 5 * p) = b ∧ setL A p a b c d e (84 + 5 * p) = c ∧ setL A p a b c d e (85 + 5 * p) = d ∧ setL A p a b c d e (86 + 5 * p) = e := by
  unfold setL
  refine ⟨?_, ?_, ?_, ?_, ?_⟩
  · rw [sA_ne (by omega), sA_ne (by omega), sA_ne (by omega), sA_ne (by omega), sA_at]
  · rw [sA_ne (by omega), sA_ne (by omega), sA_ne (by omega), show 83 + 5 * p = 82 + 5 * p + 1 by omega, sA_at]
  · rw [sA_ne (by omega), sA_ne (by omega), show 84 + 5 * p = 82 + 5 * p + 2 by omega, sA_at]
  · rw [sA_ne (by omega), show 85 + 5 * p = 82 + 5 * p + 3 by omega, sA_at]
  · rw [show 86 + 5 * p = 82 + 5 * p + 4 by omega, sA_at]
/-- the class's changer with another lamp at a place -/
theorem RCh_setL {c : ChV} {A : Nat → Nat} (h : RCh c A) {p a b i l u : Nat} (hp : p < 6) : RCh (Ch_mk (upd (Ch_intensities c) p (nI i)) (upd (Ch_lives c) p (nI l)) (upd (Ch_uses c) p (nI u)) (Ch_kind c) (Ch_present c) (Ch_change c) (Ch_changeLeft c)) (setL A p a b i l u) := by
  obtain ⟨r1, r2, r3, r4, r5⟩ := h
  obtain ⟨q1, q2, q3, q4, q5⟩ := setL_at (A := A) (p := p) (a := a) (b := b) (c := i) (d := l) (e := u)
  refine ⟨?_, ?_, ?_, ?_, ?_⟩
  · intro q hq
    by_cases e : q = p
    · subst e
      rw [q3, q4, q5]
      exact ⟨upd_at, upd_at, upd_at⟩
    · rw [setL_out (by omega), setL_out (by omega), setL_out (by omega)]
      obtain ⟨z1, z2, z3⟩ := r1 q hq
      refine ⟨?_, ?_, ?_⟩
      · show upd _ _ _ _ = _
        rw [upd_ne e]; exact z1
      · show upd _ _ _ _ = _
        rw [upd_ne e]; exact z2
      · show upd _ _ _ _ = _
        rw [upd_ne e]; exact z3
  · rw [setL_out (by omega)]; exact r2
  · rw [setL_out (by omega)]; exact r3
  · rw [setL_out (by omega)]; exact r4
  · rw [setL_out (by omega)]; exact r5
theorem ICh_setL {A : Nat → Nat} (h : ICh A) {p a b i l u : Nat} (hp : p < 6) (hl : (a = 0 ∧ b = 0 ∧ i = 0 ∧ l = 0 ∧ u = 0) ∨ (a = 1 ∧ b = A 81 ∧ 1 ≤ i ∧ i ≤ 2000 ∧ 1 ≤ l ∧ l ≤ 5000 ∧ u ≤ l)) : ICh (setL A p a b i l u) := by
  obtain ⟨r1, r2, r3, r4, r5, r6, r7⟩ := h
  obtain ⟨q1, q2, q3, q4, q5⟩ := setL_at (A := A) (p := p) (a := a) (b := b) (c := i) (d := l) (e := u)
  have o : ∀ j, j < 82 + 5 * p ∨ 87 + 5 * p ≤ j → setL A p a b i l u j = A j := fun j hj => setL_out hj
  refine ⟨?_, ?_, ?_, ?_, ?_, ?_, ?_⟩
  · rw [o _ (by omega)]; exact r1
  · rw [o _ (by omega)]; exact r2
  · rw [o _ (by omega)]; exact r3
  · rw [o _ (by omega)]; exact r4
  · rw [o _ (by omega)]; exact r5
  · rw [o _ (by omega)]; exact r6
  · intro q hq
    by_cases e : q = p
    · subst e
      unfold lampIn
      rw [q1, q2, q3, q4, q5, o 81 (by omega)]
      exact hl
    · exact (r7 q hq).cg hq (fun j _ _ => o j (by omega)) (o 81 (by omega))
theorem puts_m {v : MdV} {A : Nat → Nat} (h : nIf (Md_now v) A) {p i l : Nat} (hp : p < 6) : ∃ w2, F_X10_puts v (nI p) (nI i) (nI l) = some (setNow v w2) ∧ nIf w2 (setL A p 1 (A 81) i l 0) ∧ frmw 81 115 (Md_now v) w2 := by
  refine ⟨upd (upd (upd (upd (upd (Md_now v) (82 + 5 * p) (nI 1)) (82 + 5 * p + 1) (nI (A 81))) (82 + 5 * p + 2) (nI i)) (82 + 5 * p + 3) (nI l)) (82 + 5 * p + 4) (nI 0), ?_, ?_, ?_⟩
  · unfold F_X10_puts
    have i0 : (82 : Int32) + 5 * nI p = nI (82 + 5 * p) := by rw [lit, lit, pk_mul, nI_add]
    have c81 : (81 : Int32).toNatClampNeg = 81 := rfl
    have k81 : ∀ {α : Type} {a : Option α}, chk 81 289 a = a := fun {α} {a} => chk_nI (j := 81) (by decide) (by decide)
    have e81 : upd (Md_now v) (82 + 5 * p) (nI 1) 81 = nI (A 81) := by rw [upd_ne (by omega)]; exact h 81 (by decide)
    rw [i0, c81, k81, show (1 : Int32) = nI 1 from rfl, show (2 : Int32) = nI 2 from rfl, show (3 : Int32) = nI 3 from rfl, show (4 : Int32) = nI 4 from rfl, nI_add, nI_add, nI_add, nI_add, chk_nI (by omega) (by decide), chk_nI (by omega) (by decide), chk_nI (by omega) (by decide), chk_nI (by omega) (by decide), chk_nI (by omega) (by decide), nI_clamp (by omega), nI_clamp (by omega), nI_clamp (by omega), nI_clamp (by omega), nI_clamp (by omega), e81]
    rfl
  · exact ((((h.upd _ _).upd _ _).upd _ _).upd _ _).upd _ _
  · intro j hj
    rw [upd_ne (by omega), upd_ne (by omega), upd_ne (by omega), upd_ne (by omega), upd_ne (by omega)]
theorem takeL {n : Nat} {p : Nat} {r : Int32} (hp : p < 6) : ∀ (m i k : Nat) (v : MdV) (A : Nat → Nat), i + m = 5 → m < k → nIf (Md_now v) A →
    ∃ (w2 : Nat → Int32) (A2 : Nat → Nat), F_X10_takeLamp_L36 n k v (nI p) r (nI i) = some (r, setNow v w2) ∧ nIf w2 A2 ∧ (∀ j, 82 + 5 * p + i ≤ j → j < 87 + 5 * p → A2 j = 0) ∧ frm (82 + 5 * p + i) (87 + 5 * p) A A2 ∧ frmw (82 + 5 * p + i) (87 + 5 * p) (Md_now v) w2 := by
  intro m
  induction m with
  | zero =>
    intro i k v A hi hk hw
    obtain ⟨k, rfl⟩ : ∃ z, k = z + 1 := ⟨k - 1, by omega⟩
    refine ⟨Md_now v, A, ?_, hw, fun j h1 h2 => by omega, fun j _ => rfl, fun j _ => rfl⟩
    rw [F_X10_takeLamp_L36, if_pos (by rw [lit, nI_leI (by omega) (by omega)]; omega)]
    rfl
  | succ m ih =>
    intro i k v A hi hk hw
    obtain ⟨k, rfl⟩ : ∃ z, k = z + 1 := ⟨k - 1, by omega⟩
    obtain ⟨w2, A2, g1, g2, g3, g4, g5⟩ := ih (i + 1) k (setNow v (upd (Md_now v) (82 + 5 * p + i) (nI 0))) (sA A (82 + 5 * p + i) 0) (by omega) (by omega) (hw.upd _ _)
    refine ⟨w2, A2, ?_, g2, ?_, ?_, ?_⟩
    · have i0 : (82 : Int32) + 5 * nI p = nI (82 + 5 * p) := by rw [lit, lit, pk_mul, nI_add]
      rw [F_X10_takeLamp_L36, if_neg (by rw [lit, nI_leI (by omega) (by omega)]; omega), i0, nI_add, chk_nI (by omega) (by decide), nI_clamp (by omega), nI_1]
      exact g1
    · intro j h1 h2
      by_cases e : j = 82 + 5 * p + i
      · rw [g4 j (by omega), e, sA_at]
      · exact g3 j (by omega) h2
    · intro j hj
      rw [g4 j (by omega), sA_ne (by omega)]
    · intro j hj
      rw [g5 j (by omega)]
      exact upd_ne (by omega)
theorem RCh.ext {c : ChV} {A A' : Nat → Nat} (h : RCh c A) (e : ∀ j, A' j = A j) : RCh c A' := h.cg (fun j _ _ => e j)
theorem take_m {n : Nat} {v : MdV} {A : Nat → Nat} {r : Int32} (hn : 8 < n) (h : nIf (Md_now v) A) {p : Nat} (hp : p < 6) : ∃ (w2 : Nat → Int32), F_X10_takeLamp_L36 n n v (nI p) r 0 = some (r, setNow v w2) ∧ nIf w2 (setL A p 0 0 0 0 0) ∧ frmw 81 115 (Md_now v) w2 := by
  obtain ⟨w2, A2, g1, g2, g3, g4, g5⟩ := takeL (n := n) (r := r) hp 5 0 n v A (by omega) (by omega) h
  obtain ⟨q1, q2, q3, q4, q5⟩ := setL_at (A := A) (p := p) (a := 0) (b := 0) (c := 0) (d := 0) (e := 0)
  have e : ∀ j, setL A p 0 0 0 0 0 j = A2 j := by
    intro j
    by_cases o : j < 82 + 5 * p ∨ 87 + 5 * p ≤ j
    · rw [setL_out o, g4 j (by omega)]
    · rw [g3 j (by omega) (by omega)]
      have : j = 82 + 5 * p ∨ j = 83 + 5 * p ∨ j = 84 + 5 * p ∨ j = 85 + 5 * p ∨ j = 86 + 5 * p := by omega
      rcases this with rfl | rfl | rfl | rfl | rfl
      · exact q1
      · exact q2
      · exact q3
      · exact q4
      · exact q5
  refine ⟨w2, g1, ?_, fun j hj => g5 j (by omega)⟩
  intro k hk
  rw [e]
  exact g2 k hk
theorem renewL {n : Nat} {kind : Int32} : ∀ (m i k : Nat) (c : ChV), i + m = 6 → m < k → ∃ a b d, F_X1_renew_L2 n k c kind (nI i) = some (Ch_mk a b d kind 0 (Ch_change c) 0) ∧ (∀ p, i ≤ p → p < 6 → a p = 0 ∧ b p = 0 ∧ d p = 0) ∧ ∀ p, p < i → a p = Ch_intensities c p ∧ b p = Ch_lives c p ∧ d p = Ch_uses c p := by
  intro m
  induction m with
  | zero =>
    intro i k c hi hk
    obtain ⟨k, rfl⟩ : ∃ z, k = z + 1 := ⟨k - 1, by omega⟩
    refine ⟨Ch_intensities c, Ch_lives c, Ch_uses c, ?_, fun p h1 h2 => by omega, fun p _ => ⟨rfl, rfl, rfl⟩⟩
    rw [F_X1_renew_L2, if_pos (by rw [lit, nI_leI (by omega) (by omega)]; omega)]
  | succ m ih =>
    intro i k c hi hk
    obtain ⟨k, rfl⟩ : ∃ z, k = z + 1 := ⟨k - 1, by omega⟩
    obtain ⟨a, b, d, g1, g2, g3⟩ := ih (i + 1) k (Ch_mk (upd (Ch_intensities c) i 0) (upd (Ch_lives c) i 0) (upd (Ch_uses c) i 0) (Ch_kind c) (Ch_present c) (Ch_change c) (Ch_changeLeft c)) (by omega) (by omega)
    refine ⟨a, b, d, ?_, ?_, ?_⟩
    · rw [F_X1_renew_L2, if_neg (by rw [lit, nI_leI (by omega) (by omega)]; omega), insert_c (by omega), bnd_some, nI_1]
      exact g1
    · intro p h1 h2
      by_cases e : p = i
      · subst e
        obtain ⟨z1, z2, z3⟩ := g3 p (by omega)
        rw [z1, z2, z3]
        exact ⟨upd_at, upd_at, upd_at⟩
      · exact g2 p (by omega) h2
    · intro p hp
      obtain ⟨z1, z2, z3⟩ := g3 p (by omega)
      rw [z1, z2, z3]
      exact ⟨upd_ne (by omega), upd_ne (by omega), upd_ne (by omega)⟩
theorem setsL {n : Nat} {kind r : Int32} {kn : Nat} (hkn : kind = nI kn) : ∀ (m i k : Nat) (v : MdV) (A : Nat → Nat), i + m = 30 → m < k → nIf (Md_now v) A →
    ∃ (w2 : Nat → Int32) (A2 : Nat → Nat), F_X10_setsChanger_L7 n k v kind r (nI i) = some (r, setNow v w2) ∧ nIf w2 A2 ∧ (∀ j, 82 + i ≤ j → j < 112 → A2 j = 0) ∧ A2 81 = kn ∧ A2 112 = 0 ∧ A2 113 = 0 ∧ (∀ j, j ≠ 81 → j ≠ 112 → j ≠ 113 → (j < 82 + i ∨ 112 ≤ j) → A2 j = A j) ∧ frmw 81 114 (Md_now v) w2 := by
  intro m
  induction m with
  | zero =>
    intro i k v A hi hk hw
    obtain ⟨k, rfl⟩ : ∃ z, k = z + 1 := ⟨k - 1, by omega⟩
    refine ⟨upd (upd (upd (Md_now v) 81 kind) 112 0) 113 0, sA (sA (sA A 81 kn) 112 0) 113 0, ?_, ?_, fun j h1 h2 => by omega, ?_, ?_, ?_, ?_, ?_⟩
    · rw [F_X10_setsChanger_L7, if_pos (by rw [lit, nI_leI (by omega) (by omega)]; omega), show (81 : Int32) = nI 81 from rfl, show (112 : Int32) = nI 112 from rfl, show (113 : Int32) = nI 113 from rfl, chk_nI (by omega) (by omega), chk_nI (by omega) (by omega), chk_nI (by omega) (by omega), nI_clamp (by omega), nI_clamp (by omega), nI_clamp (by omega)]
      rfl
    · rw [hkn]
      exact ((hw.upd _ _).upd _ 0).upd _ 0
    · rw [sA_ne (by omega), sA_ne (by omega), sA_at]
    · rw [sA_ne (by omega), sA_at]
    · rw [sA_at]
    · intro j h1 h2 h3 _
      rw [sA_ne h3, sA_ne h2, sA_ne h1]
    · intro j hj
      rw [upd_ne (by omega), upd_ne (by omega), upd_ne (by omega)]
  | succ m ih =>
    intro i k v A hi hk hw
    obtain ⟨k, rfl⟩ : ∃ z, k = z + 1 := ⟨k - 1, by omega⟩
    obtain ⟨w2, A2, g1, g2, g3, g4, g5, g6, g7, g8⟩ := ih (i + 1) k (setNow v (upd (Md_now v) (82 + i) (nI 0))) (sA A (82 + i) 0) (by omega) (by omega) (hw.upd _ _)
    refine ⟨w2, A2, ?_, g2, ?_, g4, g5, g6, ?_, ?_⟩
    · rw [F_X10_setsChanger_L7, if_neg (by rw [lit, nI_leI (by omega) (by omega)]; omega), lit 82, nI_add, chk_nI (by show 82 + i < 289; omega) (by decide), nI_clamp (by show 82 + i < _; omega), nI_1]
      exact g1
    · intro j h1 h2
      by_cases e : j = 82 + i
      · rw [g7 j (by omega) (by omega) (by omega) (by omega), e, sA_at]
      · exact g3 j (by omega) h2
    · intro j h1 h2 h3 hj
      rw [g7 j h1 h2 h3 (by omega), sA_ne (by omega)]
    · intro j hj
      rw [g8 j hj]
      exact upd_ne (by omega)
theorem changer_s {n : Nat} {c : ChV} {v : MdV} {A : Nat → Nat} {kn : Nat} (hn : 40 < n) (hk : kn ≤ 1) (h : RCh c A) (hw : nIf (Md_now v) A) (hI : ICh A) :
    ∃ (r : Int32) (c2 : ChV) (w2 : Nat → Int32) (A2 : Nat → Nat), F_X1_lamps n c = some r ∧ F_X1_renew n c (nI kn) = some c2 ∧ F_X10_setsChanger n v (nI kn) = some (r, setNow v w2) ∧ RCh c2 A2 ∧ nIf w2 A2 ∧ ICh A2 ∧ frm 81 114 A A2 ∧ frmw 81 114 (Md_now v) w2 := by
  obtain ⟨r, l1, l2⟩ := lamps_s (n := n) (by omega) h hw hI
  obtain ⟨a, b, d, g1, g2, _⟩ := renewL (n := n) (kind := nI kn) 6 0 n c (by omega) (by omega)
  obtain ⟨w2, A2, q1, q2, q3, q4, q5, q6, q7, q8⟩ := setsL (n := n) (kind := nI kn) (r := r) rfl 30 0 n v A (by omega) (by omega) hw
  obtain ⟨i1, i2, i3, i4, i5, i6, i7⟩ := hI
  have b1 := q7 114 (by omega) (by omega) (by omega) (by omega)
  have b2 := q7 115 (by omega) (by omega) (by omega) (by omega)
  refine ⟨r, Ch_mk a b d (nI kn) 0 (Ch_change c) 0, w2, A2, l1, g1, ?_, ⟨?_, ?_, ?_, ?_, ?_⟩, q2, ⟨by omega, by omega, by omega, by omega, by omega, by omega, ?_⟩, ?_, q8⟩
  · unfold F_X10_setsChanger
    rw [l2, bnd_some]
    exact q1
  · intro p hp
    obtain ⟨z1, z2, z3⟩ := g2 p (by omega) hp
    rw [q3 _ (by omega) (by omega), q3 _ (by omega) (by omega), q3 _ (by omega) (by omega)]
    exact ⟨z1, z2, z3⟩
  · rw [q4]
  · rw [q5]; rfl
  · rw [b1]; exact h.2.2.2.1
  · rw [q6]; rfl
  · intro p hp
    unfold lampIn
    rw [q3 _ (by omega) (by omega), q3 _ (by omega) (by omega), q3 _ (by omega) (by omega), q3 _ (by omega) (by omega), q3 _ (by omega) (by omega)]
    exact Or.inl ⟨rfl, rfl, rfl, rfl, rfl⟩
  · intro j hj
    exact q7 j (by omega) (by omega) (by omega) (by omega)
