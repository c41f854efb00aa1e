/-! TIME: the ticks ahead of a row, as a plain model has them -/
def Mdz : MdV := Md_mk (fun _ => 0) (fun _ => 0) (fun _ => 0) (fun _ => 0) (fun _ => 0) (fun k => zI (sI k)) (fun _ => 0) 0 0 0 0 0 0 0 0
theorem RSin_z (w : Nat → Int32) : RSin (setNow Mdz w) := fun _ _ => rfl
def tkx (n : Nat) (w : Nat → Int32) : Int32 := match F_X10_ticks n (setNow Mdz w) with
  | some q => q.1
  | none => 0
def tkw (n : Nat) (w : Nat → Int32) : Nat → Int32 := match F_X10_ticks n (setNow Mdz w) with
  | some q => Md_now q.2
  | none => w
theorem tick_c {n M : Nat} {S : StV} {w : Nat → Int32} {A : Nat → Nat} (hn : 10 < n) (hM : M < 2 ^ 29) (h : RA M S w A) :
    ∃ (x : Nat) (S2 : StV) (A2 : Nat → Nat), 1 ≤ x ∧ x ≤ 4 ∧ F_X7_goOn n S = some (nI (x - 1), S2) ∧ tkx n w = nI x ∧ RA (M + 1) S2 (tkw n w) A2 ∧ A2 116 = A 116 + 1 ∧ (∀ j, 122 ≤ j → j < 129 → A2 j = A j) ∧ (∀ j, 129 ≤ j → tkw n w j = w j) ∧ St_Lo S2 = St_Lo S ∧ (∀ j, j < 4 → A2 (117 + j) = A (117 + j) + if j + 1 = x then 1 else 0) ∧ (∀ j, j < 81 → A2 j = A j) := by
  obtain ⟨x, S2, w2, A2, x1, x4, g1, g2, g3, g4, g5, g6, g7, g8, g9⟩ := tick_s (v := setNow Mdz w) hn hM h
  have e1 : tkx n w = nI x := by unfold tkx; rw [g2]
  have e2 : tkw n w = w2 := by unfold tkw; rw [g2]; rfl
  rw [e2]
  exact ⟨x, S2, A2, x1, x4, g1, e1, g3, g4, g5, g6, g7, g8, g9⟩
/-- the kind of the tick so far ahead; how many of a kind there are -/
def sqk (n : Nat) : Nat → (Nat → Int32) → Int32
  | 0, w => tkx n w
  | t + 1, w => sqk n t (tkw n w)
def cntk (n : Nat) (x : Int32) : Nat → (Nat → Int32) → Nat
  | 0, _ => 0
  | m + 1, w => (if tkx n w = x then 1 else 0) + cntk n x m (tkw n w)
theorem cntk_le (n : Nat) (x : Int32) : ∀ m w, cntk n x m w ≤ m := by
  intro m
  induction m with
  | zero => intro w; exact Nat.le_refl _
  | succ m ih =>
    intro w
    have := ih (tkw n w)
    unfold cntk
    split <;> omega
theorem cntk_0 (n : Nat) (x : Int32) : ∀ m w, (∀ t, t < m → sqk n t w ≠ x) → cntk n x m w = 0 := by
  intro m
  induction m with
  | zero => intro w _; rfl
  | succ m ih =>
    intro w h
    have h0 : ¬ tkx n w = x := h 0 (by omega)
    rw [cntk, if_neg h0, ih (tkw n w) (fun t ht => h (t + 1) (by omega))]
theorem cntk_1 (n : Nat) (x : Int32) : ∀ m w, (∀ t, t < m → sqk n t w ≠ x) → sqk n m w = x → cntk n x (m + 1) w = 1 := by
  intro m
  induction m with
  | zero =>
    intro w _ h
    have h : tkx n w = x := h
    rw [cntk, if_pos h]
    rfl
  | succ m ih =>
    intro w h h2
    have h0 : ¬ tkx n w = x := h 0 (by omega)
    rw [cntk, if_neg h0, ih (tkw n w) (fun t ht => h (t + 1) (by omega)) h2]
/-- the answer of untilIdle: the first idle tick from i on, of m -/
def idl (n : Nat) : Nat → Nat → (Nat → Int32) → Int32
  | 0, _, _ => -4
  | m + 1, i, w => if tkx n w = 4 then nI i else idl n m (i + 1) (tkw n w)
theorem idl_s (n : Nat) : ∀ m i w, (∃ j, j < m ∧ idl n m i w = nI (i + j) ∧ sqk n j w = 4 ∧ ∀ t, t < j → sqk n t w ≠ 4) ∨ (idl n m i w = -4 ∧ ∀ t, t < m → sqk n t w ≠ 4) := by
  intro m
  induction m with
  | zero => intro i w; exact Or.inr ⟨rfl, fun t ht => by omega⟩
  | succ m ih =>
    intro i w
    rw [idl]
    by_cases e : tkx n w = 4
    · rw [if_pos e]
      exact Or.inl ⟨0, by omega, rfl, e, fun t ht => by omega⟩
    · rw [if_neg e]
      have c : ∀ j, (∀ t, t < j → sqk n t (tkw n w) ≠ 4) → ∀ t, t < j + 1 → sqk n t w ≠ 4 := by
        intro j hj t ht
        cases t with
        | zero => exact e
        | succ t => exact hj t (by omega)
      rcases ih (i + 1) (tkw n w) with ⟨j, h1, h2, h3, h4⟩ | ⟨h1, h2⟩
      · exact Or.inl ⟨j + 1, by omega, by rw [h2]; congr 1; omega, h3, c j h4⟩
      · exact Or.inr ⟨h1, c m h2⟩
def setTr (u : HLV) (S : StV) : HLV := HL_mk (HL_Hx u) (HL_now u) (HL_stored u) S (HL_hist u) (HL_text u)
theorem idleC {n : Nat} (hn : 300 < n) : ∀ (m i k M : Nat) (u : HLV) (w : Nat → Int32) (A : Nat → Nat), i + m = 20000 → m < k → M + m < 2 ^ 29 → RA M (HL_trial u) w A →
    ∃ (S2 : StV), F_X9_untilIdle_L13 n k u (nI i) = some (idl n m i w, setTr u S2) := by
  intro m
  induction m with
  | zero =>
    intro i k M u w A hi hk hM h
    obtain ⟨k, rfl⟩ : ∃ z, k = z + 1 := ⟨k - 1, by omega⟩
    have le : (20000 : Int32) ≤ nI i := by rw [lit, nI_leI (by omega) (by omega)]; omega
    exact ⟨HL_trial u, by rw [F_X9_untilIdle_L13, if_pos le]; rfl⟩
  | succ m ih =>
    intro i k M u w A hi hk hM h
    obtain ⟨k, rfl⟩ : ∃ z, k = z + 1 := ⟨k - 1, by omega⟩
    have le : ¬ (20000 : Int32) ≤ nI i := by rw [lit, nI_leI (by omega) (by omega)]; omega
    obtain ⟨x, S1, A1, x1, x2, g1, g2, g3, g4, _⟩ := tick_c (n := n) (by omega) (by omega) h
    obtain ⟨_, _, z3, z4⟩ := nI_lit1 x1 x2
    rw [F_X9_untilIdle_L13, if_neg le, g1, bnd_some, idl, nI_1, g2]
    simp only [z3, z4]
    by_cases e : x = 4
    · rw [if_pos e, if_pos e]
      exact ⟨S1, rfl⟩
    · rw [if_neg e, if_neg e]
      exact ih (i + 1) k (M + 1) (setTr u S1) (tkw n w) A1 (by omega) (by omega) (by omega) g3
/-- untilIdle: what is told, out of the row -/
theorem until_s {n : Nat} {u : HLV} {w : Nat → Int32} (hn : 30000 < n) (h : RS (HL_now u) w) : ∃ S2, F_X9_untilIdle n u = some (idl n 20000 0 w, setTr u S2) := by
  obtain ⟨A, hA, _⟩ := h
  obtain ⟨S', g1, g2, _⟩ := become_s (S := HL_trial u) hA
  obtain ⟨S2, r1⟩ := idleC (n := n) (by omega) 20000 0 n 1000000 (setTr u S') w A (by omega) (by omega) (by omega) g2
  unfold F_X9_untilIdle
  rw [g1, bnd_some]
  exact ⟨S2, r1⟩
theorem advC {n t : Nat} (hn : 10 < n) (ht : t < 2 ^ 20) : ∀ (m i r k M : Nat) (u : HLV) (w : Nat → Int32) (A : Nat → Nat), i + m = t → r ≤ i → m < k → M + m < 2 ^ 29 → RA M (HL_now u) w A →
    ∃ (S2 : StV) (w2 : Nat → Int32) (A2 : Nat → Nat), F_X9_advance_L45 n k u (nI t) (nI r) (nI i) = some (nI (r + cntk n 1 m w), HL_mk (HL_Hx u) S2 (HL_stored u) (HL_trial u) (HL_hist u) (HL_text u)) ∧ RA (M + m) S2 w2 A2 ∧ A2 116 = A 116 + m ∧ A2 122 = A 122 ∧ A2 117 = A 117 + cntk n 1 m w ∧ A2 120 = A 120 + cntk n 4 m w := by
  intro m
  induction m with
  | zero =>
    intro i r k M u w A hi hr hk hM h
    obtain ⟨k, rfl⟩ : ∃ z, k = z + 1 := ⟨k - 1, by omega⟩
    have le : nI t ≤ nI i := nI_le (by omega) (by omega)
    refine ⟨HL_now u, w, A, ?_, h, rfl, rfl, rfl, rfl⟩
    rw [F_X9_advance_L45, if_pos le]
    rfl
  | succ m ih =>
    intro i r k M u w A hi hr hk hM h
    obtain ⟨k, rfl⟩ : ∃ z, k = z + 1 := ⟨k - 1, by omega⟩
    have le : ¬ nI t ≤ nI i := nI_nlE (by omega) (by omega)
    obtain ⟨x, S1, A1, x1, x2, g1, g2, g3, g4, g5, _, _, g6, _⟩ := tick_c (n := n) hn (by omega) h
    obtain ⟨z1, z2, z3, z4⟩ := nI_lit1 x1 x2
    have b0 := g6 0 (by omega)
    have b3 := g6 3 (by omega)
    have b122 := g5 122 (by omega) (by omega)
    have a0 : A1 117 = A 117 + if 0 + 1 = x then 1 else 0 := b0
    have a3 : A1 120 = A 120 + if 3 + 1 = x then 1 else 0 := b3
    rw [F_X9_advance_L45, if_neg le, g1, bnd_some, nI_1, nI_1]
    simp only [z2, cntk, g2, z1, z3]
    by_cases e : x = 1
    · rw [if_pos e, if_pos e, if_neg (show ¬ x = 4 by omega)]
      rw [if_pos (by omega)] at a0
      rw [if_neg (by omega)] at a3
      obtain ⟨S2, w2, A2, q1, q2, q3, q4, q5, q6⟩ := ih (i + 1) (r + 1) k (M + 1) (HL_mk (HL_Hx u) S1 (HL_stored u) (HL_trial u) (HL_hist u) (HL_text u)) (tkw n w) A1 (by omega) (by omega) (by omega) (by omega) g3
      exact ⟨S2, w2, A2, by rw [← Nat.add_assoc]; exact q1, by rw [show M + (m + 1) = M + 1 + m by omega]; exact q2, by omega, by omega, by omega, by omega⟩
    · rw [if_neg e, if_neg e]
      rw [if_neg (by omega)] at a0
      obtain ⟨S2, w2, A2, q1, q2, q3, q4, q5, q6⟩ := ih (i + 1) r k (M + 1) (HL_mk (HL_Hx u) S1 (HL_stored u) (HL_trial u) (HL_hist u) (HL_text u)) (tkw n w) A1 (by omega) (by omega) (by omega) (by omega) g3
      refine ⟨S2, w2, A2, by rw [Nat.zero_add]; exact q1, by rw [show M + (m + 1) = M + 1 + m by omega]; exact q2, by omega, by omega, by omega, ?_⟩
      by_cases e4 : x = 4
      · rw [if_pos e4]
        rw [if_pos (by omega)] at a3
        omega
      · rw [if_neg e4]
        rw [if_neg (by omega)] at a3
        omega
/-- advance by t ticks, in full -/
theorem adv_s {n t : Nat} {u : HLV} {v : MdV} (hn : 3000 < n) (h : R u v) (t1 : 1 ≤ t) (t2 : t ≤ 2000) :
    F_X9_advance n u (nI t) = some (-3, u) ∨ ∃ (h2 : HiV) (S2 : StV) (v2 : MdV) (A A2 : Nat → Nat), F_X5_keep (HL_hist u) (HL_now u) = some h2 ∧ F_X9_advance n u (nI t) = some (nI (cntk n 1 t (Md_now v)), HL_mk (HL_Hx u) S2 (HL_stored u) (HL_trial u) h2 (HL_text u)) ∧
      R (HL_mk (HL_Hx u) S2 (HL_stored u) (HL_trial u) h2 (HL_text u)) v2 ∧ RA 1000000 (HL_now u) (Md_now v) A ∧ RA 1000000 S2 (Md_now v2) A2 ∧ A2 117 = A 117 + cntk n 1 t (Md_now v) ∧ A2 120 = A 120 + cntk n 4 t (Md_now v) := by
  have q0 : ¬ (1 : Int32) = 0 := by decide
  obtain ⟨h2, p2, s2, k1, k2, k3⟩ := saves_s (n := n) (by omega) h
  obtain ⟨A, hA, hB⟩ := h.1
  have hT := hA.tick
  obtain ⟨l1, l2⟩ := last_s (T := A 116) (t := t) hT (by omega)
  have q : ¬ (nI t < 1 ∨ 2000 < nI t) := by
    rw [show (1 : Int32) = nI 1 from rfl, show (2000 : Int32) = nI 2000 from rfl, nI_ltI (by omega) (by omega), nI_ltI (by omega) (by omega)]
    omega
  unfold F_X9_advance
  rw [out_s, bnd_some, if_neg q, if_pos rfl, hA.2.2.2.2.1.2.1, k1, bnd_some]
  simp only [l1]
  by_cases e : A 116 + t ≤ 1000000
  · rw [if_pos e]
    obtain ⟨S2, w2, A2, g1, g2, g3, g4, g5, g6⟩ := advC (n := n) (t := t) (by omega) (by omega) t 0 0 n (A 116) (HL_mk (HL_Hx u) (HL_now u) (HL_stored u) (HL_trial u) h2 (HL_text u)) (Md_now v) A (by omega) (by omega) (by omega) (by omega) (hA.at (Nat.le_refl _))
    rw [Nat.zero_add] at g1
    have g2' := g2.at (M' := 1000000) (by omega)
    exact Or.inr ⟨h2, S2, setNow (setPast v p2 s2) w2, A, A2, rfl, g1, h.next ⟨A2, g2', by omega⟩ k3, hA, g2', g5, g6⟩
  · rw [if_neg e]
    exact Or.inl rfl
theorem op_advance {n : Nat} {u : HLV} {v : MdV} (hn : 3000 < n) (h : R u v) (x : Int32) : ∃ a u2 v2, F_X9_advance n u x = some (a, u2) ∧ R u2 v2 ∧ (-4 : Int32) ≤ a := by
  rcases arg_n (x := x) (lo := 1) (hi := 2000) 1 2000 rfl rfl (by decide) (by decide) with q | ⟨t, ht1, ht, rfl, q⟩
  · refine ⟨-1, u, v, ?_, h, by decide⟩
    unfold F_X9_advance
    rw [out_s, bnd_some, if_pos q]
    rfl
  · rcases adv_s hn h ht1 ht with g | ⟨h2, S2, v2, A, A2, k1, g1, g2, g3⟩
    · exact ⟨-3, u, v, g, h, by decide⟩
    · have := cntk_le n 1 t (Md_now v)
      exact ⟨_, _, v2, g1, g2, nI_m4 (by omega)⟩
