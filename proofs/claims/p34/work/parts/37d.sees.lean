/-! SHIPS: what sees tells; an entry, a passage's begin -/
theorem far_0 {x : Int} (h : ok4 x) : ¬ far (zI x) := by
  unfold ok4 at h
  unfold far
  rw [show (-10000 : Int32) = zI (-10000) from rfl, show (10000 : Int32) = zI 10000 from rfl, zI_ltI (by omega) (by omega) (by omega) (by omega), zI_ltI (by omega) (by omega) (by omega) (by omega)]
  omega
theorem sees_s {n : Nat} {u : HLV} {w : Nat → Int32} {A : Nat → Nat} {x y : Int} (hn : 300 < n) (h : RA 1000000 (HL_now u) w A) (hx : ok4 x) (hy : ok4 y) :
    (x = 0 ∧ y = 0 ∧ F_X9_sees n u (zI x) (zI y) = some (-2, u)) ∨ (¬ (x = 0 ∧ y = 0) ∧ ∃ (S2 : StV) (col : Nat), col ≤ 3 ∧ F_X9_sees n u (zI x) (zI y) = some (nI col, setTr u S2) ∧ F_X10_seenAt n (setNow Mdz (tkw n w)) (zI x) (zI y) (tkx n w) = some (nI col) ∧ (col = 0 ∨ ∃ j, j < 64 ∧ dirI x y = nI j ∧ col = A j)) := by
  obtain ⟨S', g1, g2, _⟩ := become_s (S := HL_trial u) h
  obtain ⟨k, S1, A1, k1, k4, t1, t2, t3, t4, t5, t6, t7, t8, t9⟩ := tick_c (n := n) (by omega) (by omega) g2
  obtain ⟨col, hc, c1, c2, c3⟩ := shown_s (n := n) (v := setNow Mdz (tkw n w)) (by omega) t3 (RSin_z _) hx hy k1 k4
  have m1 : F_X9_sees_J27 n u (zI x) (zI y) = some (nI col, setTr u S1) := by
    unfold F_X9_sees_J27
    rw [g1, bnd_some, t1, bnd_some, c1, bnd_some]
    rfl
  unfold F_X9_sees
  rw [far_c, far_c, bnd_some, if_neg (far_0 hx), if_pos rfl, bnd_some, if_neg (far_0 hy), if_pos rfl, m1]
  simp only [zI_ne0 hx, zI_ne0 hy]
  have fin : ¬ (x = 0 ∧ y = 0) → ∃ (S2 : StV) (col2 : Nat), col2 ≤ 3 ∧ some (nI col, setTr u S1) = some (nI col2, setTr u S2) ∧ F_X10_seenAt n (setNow Mdz (tkw n w)) (zI x) (zI y) (tkx n w) = some (nI col2) ∧ (col2 = 0 ∨ ∃ j, j < 64 ∧ dirI x y = nI j ∧ col2 = A j) := by
    intro _
    refine ⟨S1, col, hc, rfl, by rw [t2]; exact c2, ?_⟩
    rcases c3 with z | ⟨j, hj, e, z⟩
    · exact Or.inl z
    · exact Or.inr ⟨j, hj, e, by rw [z, t9 j (by omega)]⟩
  by_cases ex : x = 0
  · rw [if_pos ex]
    by_cases ey : y = 0
    · rw [if_pos ey]
      exact Or.inl ⟨ex, ey, rfl⟩
    · rw [if_neg ey]
      exact Or.inr ⟨fun z => ey z.2, fin (fun z => ey z.2)⟩
  · rw [if_neg ex]
    exact Or.inr ⟨fun z => ex z.1, fin (fun z => ex z.1)⟩
theorem add_c {l : LoV} {E : Nat} {x1 x2 x3 : Int32} (r2 : Lo_entries l = nI E) (hE : E < 2 ^ 30) :
    F_X6_add l x1 x2 x3 = some (Lo_mk (upd (Lo_ticks l) (E % 40) x1) (upd (Lo_colors l) (E % 40) x2) (upd (Lo_directions l) (E % 40) x3) (upd (Lo_numbers l) (E % 40) (Lo_passages l - 1)) (Lo_shown l) (Lo_passages l) (nI (E + 1))) := by
  have hm : E % 40 < 40 := Nat.mod_lt _ (by decide)
  have er : Lo_entries l - Lo_entries l / 40 * 40 = nI (E % 40) := by
    rw [r2, lit]
    exact pk_rem (by omega) (by decide) (by decide)
  unfold F_X6_add
  rw [er, if_pos (nI_pos' (by omega)), chk_nI hm (by decide), chk_nI hm (by decide), chk_nI hm (by decide), chk_nI hm (by decide), nI_clamp (by omega), r2, nI_1]
theorem begin_c {n M : Nat} {S : StV} {w : Nat → Int32} {A : Nat → Nat} (hn : 10 < n) (h : RA M S w A) :
    ∃ (l2 : LoV) (w2 : Nat → Int32) (A2 : Nat → Nat), F_X6_beginPassage n (St_Lo S) = some l2 ∧ RA M (St_mk (St_So S) (St_Ci S) (St_Fl S) (St_Ch S) l2) w2 A2 ∧ A2 122 = A 122 + 1 ∧ (∀ j, 124 ≤ j → j < 128 → A2 j = 0) ∧ (∀ j, j ≠ 122 → (j < 124 ∨ 128 ≤ j) → A2 j = A j) := by
  have hA := h
  obtain ⟨a1, a2, a3, a4, a5, ⟨r1, r2, r3, r4⟩, a7, a8, a9, a10⟩ := h
  obtain ⟨t1, t2, t3, t4, t5, t6, t7⟩ := a10
  obtain ⟨sh, g1, g2, g3⟩ := beginL_c (n := n) 4 0 n (Lo_mk (Lo_ticks (St_Lo S)) (Lo_colors (St_Lo S)) (Lo_directions (St_Lo S)) (Lo_numbers (St_Lo S)) (Lo_shown (St_Lo S)) (Lo_passages (St_Lo S) + 1) (Lo_entries (St_Lo S))) (by omega) (by omega)
  let A2 : Nat → Nat := fun j => if j = 122 then A 122 + 1 else if 124 ≤ j ∧ j < 128 then 0 else A j
  let w2 : Nat → Int32 := fun j => if j < 129 then nI (A2 j) else w j
  have b1 : A2 122 = A 122 + 1 := if_pos rfl
  have b2 : ∀ j, 124 ≤ j → j < 128 → A2 j = 0 := fun j z1 z2 => by
    show (if j = 122 then _ else if 124 ≤ j ∧ j < 128 then 0 else A j) = 0
    rw [if_neg (by omega), if_pos ⟨z1, z2⟩]
  have b3 : ∀ j, j ≠ 122 → (j < 124 ∨ 128 ≤ j) → A2 j = A j := fun j z1 z2 => by
    show (if j = 122 then _ else if 124 ≤ j ∧ j < 128 then 0 else A j) = A j
    rw [if_neg z1, if_neg (by omega)]
  have wO : ∀ j, 129 ≤ j → w2 j = w j := fun j hj => if_neg (by omega)
  refine ⟨_, w2, A2, g1, RA_lo hA ⟨?_, ?_, ?_, ?_⟩ ?_ ⟨?_, ?_, ?_, ?_, ?_, ?_, ?_⟩ (fun j hj => b3 j (by omega) (by omega)), b1, b2, b3⟩
  · rw [b1]
    show Lo_passages (St_Lo S) + 1 = _
    rw [r1, nI_1]
  · rw [b3 123 (by omega) (by omega)]; exact r2
  · intro j hj
    rw [b2 _ (by omega) (by omega)]
    exact g2 j (by omega) hj
  · intro i hi
    rw [b3 128 (by omega) (by omega)] at hi ⊢
    rw [b3 123 (by omega) (by omega), wO _ (by omega), wO _ (by omega), wO _ (by omega), wO _ (by omega)]
    exact r4 i hi
  · intro j hj
    exact if_pos hj
  · rw [b3 116 (by omega) (by omega)]; exact t1
  · intro j hj
    rw [b3 _ (by omega) (by omega), b3 116 (by omega) (by omega)]
    exact t2 j hj
  · rw [b3 121 (by omega) (by omega), b3 116 (by omega) (by omega)]; exact t3
  · rw [b3 116 (by omega) (by omega), b3 117 (by omega) (by omega), b3 118 (by omega) (by omega), b3 119 (by omega) (by omega), b3 120 (by omega) (by omega)]; exact t4
  · rw [b3 123 (by omega) (by omega), b3 116 (by omega) (by omega)]; exact t5
  · intro j hj
    rw [b2 _ (by omega) (by omega)]
    omega
  · rw [b3 128 (by omega) (by omega), b3 123 (by omega) (by omega)]; exact t7
theorem floor0 {x : Int} {t : Nat} (z : Int32) (h1 : 1 ≤ t) (ht : t < 2 ^ 31) : F_J9_floorDiv_7cf53 (z * nI 0) (nI t) = some 0 := by
  obtain ⟨g1, _⟩ := alongP (x := x) (V := 0) (W := z * nI 0) (by rw [show nI 0 = (0 : Int32) from rfl, Int32.mul_zero]) (by omega) h1 ht
  rw [g1, Nat.zero_div]
  rfl
theorem zI_inj {x y : Int} (hx : ok4 x) (hy : ok4 y) (h : zI x = zI y) : x = y := by
  unfold ok4 at hx hy
  exact (zI_eqI (by omega) (by omega) (by omega) (by omega)).mp h
