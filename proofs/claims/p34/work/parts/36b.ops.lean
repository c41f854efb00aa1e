theorem nI_m4 {k : Nat} (h : k < 2 ^ 31) : (-4 : Int32) ≤ nI k := by
  rw [Int32.le_iff_toInt_le, nI_toInt h]
  have : (-4 : Int32).toInt = -4 := by decide
  omega
/-! OPS: changes without time -/
theorem op_paint {n : Nat} {u : HLV} {v : MdV} (hn : 1200 < n) (h : R u v) (x y z : Int32) : ∃ a u2 v2, F_X9_paint n u x y z = some (a, u2) ∧ F_X10_paint n v x y z = some (a, v2) ∧ R u2 v2 ∧ (-4 : Int32) ≤ a := by
  have q0 : ¬ (1 : Int32) = 0 := by decide
  unfold F_X9_paint F_X10_paint
  rw [out_s, out_s, out_s, wi_s, isPoint_s, isPoint_s]
  simp only [bnd_some]
  rcases arg_n (x := x) (lo := 0) (hi := 3) 0 3 rfl rfl (by decide) (by decide) with q | ⟨c, _, hc, rfl, q⟩
  · rw [if_pos q, if_pos q]
    exact ⟨-1, u, v, rfl, rfl, h, by decide⟩
  rw [if_neg q, if_neg q, if_pos rfl, if_neg q0]
  rcases arg_n (x := y) (lo := 0) (hi := 63) 0 63 rfl rfl (by decide) (by decide) with q | ⟨f, _, hf, rfl, q⟩
  · rw [if_pos q, if_pos q]
    exact ⟨-1, u, v, rfl, rfl, h, by decide⟩
  rw [if_neg q, if_neg q, if_pos rfl, if_neg q0]
  rcases arg_n (x := z) (lo := 0) (hi := 63) 0 63 rfl rfl (by decide) (by decide) with q | ⟨t, _, ht, rfl, q⟩
  · rw [if_pos q, if_pos q]
    exact ⟨-1, u, v, rfl, rfl, h, by decide⟩
  rw [if_neg q, if_neg q, if_pos rfl, if_neg q0]
  obtain ⟨h2, p2, s2, k1, k2, k3⟩ := saves_s hn h
  obtain ⟨A, hA, hB⟩ := h.1
  obtain ⟨r2, c2, w2, A2, g1, g2, g3, g4, g5, g6, g7, g8⟩ := paint_s (n := n) (v := setPast v p2 s2) (by omega) hc (by omega : f < 64) (by omega : t < 64) hA.2.1 hA.1 hA.2.2.2.2.2.2.1
  rw [k1, k2, bnd_some, bnd_some, g1, g2, bnd_some, bnd_some]
  exact ⟨_, _, _, rfl, rfl, h.next ⟨A2, RA_ci hA g3 g4 g5 g6 g7, by rw [g6 122 (by omega), g6 116 (by omega)]; exact hB⟩ k3, nI_m4 (by omega)⟩
theorem isLight_s (x : Int32) : F_X10_isLight x = some (if x < 1 ∨ 60 < x then 0 else 1) := by
  unfold F_X10_isLight
  rw [wi_s, bnd_some]
  unfold zck
  by_cases h : x < 1 ∨ 60 < x
  · simp [h]
  · simp [h]
theorem isDark_s (x : Int32) : F_X10_isDark x = some (if x < 0 ∨ 60 < x then 0 else 1) := by
  unfold F_X10_isDark
  rw [wi_s, bnd_some]
  unfold zck
  by_cases h : x < 0 ∨ 60 < x
  · simp [h]
  · simp [h]
theorem op_setCode {n : Nat} {u : HLV} {v : MdV} (hn : 1200 < n) (h : R u v) (x y z : Int32) : ∃ a u2 v2, F_X9_setCode u x y z = some (a, u2) ∧ F_X10_setCode n v x y z = some (a, v2) ∧ R u2 v2 ∧ (-4 : Int32) ≤ a := by
  have q0 : ¬ (1 : Int32) = 0 := by decide
  have q01 : ¬ (0 : Int32) = 1 := by decide
  unfold F_X9_setCode F_X10_setCode
  rw [out_s, out_s, out_s, wi_s, isLight_s, isDark_s]
  simp only [bnd_some]
  rcases arg_n (x := x) (lo := 1) (hi := 60) 1 60 rfl rfl (by decide) (by decide) with q | ⟨l, hl, hl2, rfl, q⟩
  · rw [if_pos q, if_pos q]
    exact ⟨-1, u, v, rfl, rfl, h, by decide⟩
  rw [if_neg q, if_neg q, if_pos rfl, if_neg q0]
  rcases arg_n (x := y) (lo := 0) (hi := 60) 0 60 rfl rfl (by decide) (by decide) with q | ⟨d, _, hd, rfl, q⟩
  · rw [if_pos q, if_pos q]
    exact ⟨-1, u, v, rfl, rfl, h, by decide⟩
  rw [if_neg q, if_neg q, if_pos rfl, if_neg q0]
  rcases arg_n (x := z) (lo := 0) (hi := 1) 0 1 rfl rfl (by decide) (by decide) with q | ⟨b, _, hb, rfl, q⟩
  · rw [if_pos q, if_pos q]
    exact ⟨-1, u, v, rfl, rfl, h, by decide⟩
  rw [if_neg q, if_neg q, if_pos rfl, if_neg q0]
  obtain ⟨h2, p2, s2, k1, k2, k3⟩ := saves_s hn h
  obtain ⟨A, hA, hB⟩ := h.1
  obtain ⟨a1, _, a3, _, _, _, _, a8, _, _⟩ := id hA
  have e64 : Md_now v 64 = nI (A 64) := a1 64 (by decide)
  have c64 : (64 : Int32).toNatClampNeg = 64 := rfl
  have k64 : ∀ {α : Type} {a : Option α}, chk 64 289 a = a := fun {α} {a} => chk_nI (j := 64) (by decide) (by decide)
  have h8 := a8.2.1
  have full : F_X4_isFull (St_Fl (HL_now u)) = some (if A 64 < 8 then 0 else 1) := by
    unfold F_X4_isFull
    rw [a3.1, show (8 : Int32) = nI 8 from rfl]
    by_cases e : A 64 < 8
    · rw [if_pos (nI_lt e (by omega)), if_pos e]
    · rw [if_neg (nI_nlt (by omega) (by omega)), if_neg e]
  rw [k64, c64, e64, full, bnd_some, k2, bnd_some]
  unfold F_X9_setCode_J51
  rw [k1, bnd_some]
  rcases (show b = 0 ∨ b = 1 by omega) with rfl | rfl
  · rw [if_pos (show nI 0 = 0 from rfl), if_pos (show nI 0 = 0 from rfl), if_neg (show ¬ nI 0 = 1 by decide), if_neg (show ¬ nI 0 = 1 by decide)]
    by_cases e : A 64 < 8
    · have e8 : ¬ nI (A 64) = 8 := fun z => by have := (nI_eq (b := 8) (by omega) (by omega)).mp z; omega
      obtain ⟨f2, w2, A2, g1, g2, g3, g4, g5, g6, g7, g8⟩ := append_s (v := setPast v p2 s2) a3 ⟨h8, a8.2.2.1, a8.2.2.2⟩ e hl hl2 hd a1
      rw [if_pos e, if_pos rfl, if_neg e8, g1, g2, bnd_some, bnd_some, period_c g3, period_m (v := setNow (setPast v p2 s2) w2) g4 g5 (by omega), bnd_some, bnd_some]
      exact ⟨_, _, _, rfl, rfl, h.next ⟨A2, RA_fl hA g3 g4 g5 g7 g8, by rw [g7 122 (by omega), g7 116 (by omega)]; exact hB⟩ k3, nI_m4 (by have := per_in g5; omega)⟩
    · have e8 : nI (A 64) = 8 := by rw [show A 64 = 8 by omega]; rfl
      rw [if_neg e, if_neg q0, if_pos e8]
      exact ⟨-3, u, v, rfl, rfl, h, by decide⟩
  · rw [if_neg (show ¬ nI 1 = 0 by decide), if_neg (show ¬ nI 1 = 0 by decide), if_pos (show nI 1 = 1 from rfl), if_pos (show nI 1 = 1 from rfl)]
    obtain ⟨w1, A1, c1, c2, c3, c4, c5⟩ := clears_s (n := n) (v := setPast v p2 s2) (by omega) a1
    obtain ⟨f1, d1, d2, d3⟩ := drop_s (f := St_Fl (HL_now u)) c3
    have z64 := c3 64 (by omega) (by omega)
    obtain ⟨f2, w2, A2, g1, g2, g3, g4, g5, g6, g7, g8⟩ := append_s (v := setNow (setPast v p2 s2) w1) d2 d3 (by omega) hl hl2 hd c2
    rw [c1, d1, bnd_some, bnd_some, g1, g2, bnd_some, bnd_some, period_c g3, period_m (v := setNow (setNow (setPast v p2 s2) w1) w2) g4 g5 (by omega), bnd_some, bnd_some]
    refine ⟨_, _, _, rfl, rfl, h.next ⟨A2, RA_fl hA g3 g4 g5 ?_ ?_, by rw [g7 122 (by omega), g7 116 (by omega), c4 122 (by omega), c4 116 (by omega)]; exact hB⟩ k3, nI_m4 (by have := per_in g5; omega)⟩
    · intro j hj
      rw [g7 j hj, c4 j hj]
    · intro j hj
      rw [g8 j hj]
      exact c5 j hj
theorem op_setChanger {n : Nat} {u : HLV} {v : MdV} (hn : 1200 < n) (h : R u v) (x : Int32) : ∃ a u2 v2, F_X9_setChanger n u x = some (a, u2) ∧ F_X10_setChanger n v x = some (a, v2) ∧ R u2 v2 ∧ (-4 : Int32) ≤ a := by
  have q0 : ¬ (1 : Int32) = 0 := by decide
  unfold F_X9_setChanger F_X10_setChanger
  rw [out_s, wi_s]
  simp only [bnd_some]
  rcases arg_n (x := x) (lo := 0) (hi := 1) 0 1 rfl rfl (by decide) (by decide) with q | ⟨b, _, hb, rfl, q⟩
  · rw [if_pos q, if_pos q]
    exact ⟨-1, u, v, rfl, rfl, h, by decide⟩
  rw [if_neg q, if_neg q, if_pos rfl, if_neg q0]
  obtain ⟨h2, p2, s2, k1, k2, k3⟩ := saves_s hn h
  obtain ⟨A, hA, hB⟩ := h.1
  obtain ⟨a1, _, _, a4, _, _, _, _, a9, _⟩ := id hA
  obtain ⟨r, c2, w2, A2, g1, g2, g3, g4, g5, g6, g7, g8⟩ := changer_s (n := n) (v := setPast v p2 s2) (by omega) hb a4 a1 a9
  rw [k1, k2, bnd_some, bnd_some, g1, g2, g3, bnd_some, bnd_some, bnd_some]
  have ge := lampsE_c (n := n) (by omega) a4 a9
  obtain rfl : nI (cntL A 6 0) = r := Option.some.inj (ge.symm.trans g1)
  have cl := cntL_le A 6 0
  exact ⟨_, _, _, rfl, rfl, h.next ⟨A2, RA_ch hA g4 g5 g6 (fun j hj => g7 j (by omega)) (fun j hj => g8 j (by omega)), by rw [g7 122 (by omega), g7 116 (by omega)]; exact hB⟩ k3, nI_m4 (by omega)⟩
theorem isLamp_s (x y : Int32) : F_X10_isLamp x y = some (if (x < 1 ∨ 2000 < x) ∨ (y < 1 ∨ 5000 < y) then 0 else 1) := by
  unfold F_X10_isLamp
  rw [wi_s, wi_s, bnd_some, bnd_some]
  by_cases h : x < 1 ∨ 2000 < x
  · simp [h]
  · by_cases h2 : y < 1 ∨ 5000 < y
    · simp [h, h2]
    · simp [h, h2]
theorem op_addLamp {n : Nat} {u : HLV} {v : MdV} (hn : 1200 < n) (h : R u v) (x y z : Int32) : ∃ a u2 v2, F_X9_addLamp n u x y z = some (a, u2) ∧ F_X10_addLamp n v x y z = some (a, v2) ∧ R u2 v2 ∧ (-4 : Int32) ≤ a := by
  have q0 : ¬ (1 : Int32) = 0 := by decide
  unfold F_X9_addLamp F_X10_addLamp
  rw [out_s, out_s, out_s, wi_s, isLamp_s]
  simp only [bnd_some]
  rcases arg_n (x := x) (lo := 0) (hi := 1) 0 1 rfl rfl (by decide) (by decide) with q | ⟨b, _, hb, rfl, q⟩
  · rw [if_pos q, if_pos q]
    exact ⟨-1, u, v, rfl, rfl, h, by decide⟩
  rw [if_neg q, if_neg q, if_pos rfl, if_neg q0]
  rcases arg_n (x := y) (lo := 1) (hi := 2000) 1 2000 rfl rfl (by decide) (by decide) with q | ⟨i, hi, hi2, rfl, q⟩
  · rw [if_pos q, if_pos (Or.inl q)]
    exact ⟨-1, u, v, rfl, rfl, h, by decide⟩
  rcases arg_n (x := z) (lo := 1) (hi := 5000) 1 5000 rfl rfl (by decide) (by decide) with q2 | ⟨l, hl, hl2, rfl, q2⟩
  · rw [if_neg q, if_pos rfl, if_pos q2, if_pos (Or.inr q2)]
    exact ⟨-1, u, v, rfl, rfl, h, by decide⟩
  rw [if_neg q, if_pos rfl, if_neg q2, if_pos rfl, if_neg (fun o => Or.elim o q q2), if_neg q0]
  obtain ⟨h2, p2, s2, k1, k2, k3⟩ := saves_s hn h
  obtain ⟨A, hA, hB⟩ := h.1
  obtain ⟨a1, _, _, a4, _, _, _, _, a9, _⟩ := id hA
  have e81 : Md_now v 81 = nI (A 81) := a1 81 (by decide)
  have c81 : (81 : Int32).toNatClampNeg = 81 := rfl
  have k81 : ∀ {α : Type} {a : Option α}, chk 81 289 a = a := fun {α} {a} => chk_nI (j := 81) (by decide) (by decide)
  have h81 := a9.1
  rw [k81, c81, e81, a4.2.1]
  by_cases e : nI b = nI (A 81)
  · have e' : b = A 81 := (nI_eq (by omega) (by omega)).mp e
    rw [if_pos e, if_pos e]
    rcases empty_s (n := n) (by omega) a4 a1 a9 with ⟨p, hp, p0, g1, g2⟩ | ⟨g1, g2⟩
    · have n4 : ¬ nI p = -4 := by
        rcases (show p = 0 ∨ p = 1 ∨ p = 2 ∨ p = 3 ∨ p = 4 ∨ p = 5 by omega) with rfl | rfl | rfl | rfl | rfl | rfl <;> decide
      have n1 : ¬ nI p = -1 := by
        rcases (show p = 0 ∨ p = 1 ∨ p = 2 ∨ p = 3 ∨ p = 4 ∨ p = 5 by omega) with rfl | rfl | rfl | rfl | rfl | rfl <;> decide
      obtain ⟨w2, m1, m2, m3⟩ := puts_m (v := setPast v p2 s2) (i := i) (l := l) a1 hp
      rw [g1, g2, bnd_some, bnd_some, if_neg n1, if_neg n4, k1, k2, bnd_some, bnd_some, insert_c hp, m1, bnd_some, bnd_some]
      refine ⟨_, _, _, rfl, rfl, h.next ⟨_, RA_ch hA (RCh_setL a4 hp (a := 1) (b := A 81) (i := i) (l := l) (u := 0)) m2 (ICh_setL a9 hp (Or.inr ⟨rfl, rfl, hi, hi2, hl, hl2, by omega⟩)) (fun j hj => setL_out (by omega)) m3, by rw [setL_out (by omega), setL_out (by omega)]; exact hB⟩ k3, nI_m4 (by omega)⟩
    · rw [g1, g2, bnd_some, bnd_some, if_pos rfl, if_pos rfl]
      exact ⟨-3, u, v, rfl, rfl, h, by decide⟩
  · rw [if_neg e, if_neg e]
    exact ⟨-2, u, v, rfl, rfl, h, by decide⟩
theorem op_takeLamp {n : Nat} {u : HLV} {v : MdV} (hn : 1200 < n) (h : R u v) (x : Int32) : ∃ a u2 v2, F_X9_takeLamp u x = some (a, u2) ∧ F_X10_takeLamp n v x = some (a, v2) ∧ R u2 v2 ∧ (-4 : Int32) ≤ a := by
  have q0 : ¬ (1 : Int32) = 0 := by decide
  unfold F_X9_takeLamp F_X10_takeLamp
  rw [out_s, wi_s]
  simp only [bnd_some]
  rcases arg_n (x := x) (lo := 0) (hi := 5) 0 5 rfl rfl (by decide) (by decide) with q | ⟨p, _, hp, rfl, q⟩
  · rw [if_pos q, if_pos q]
    exact ⟨-1, u, v, rfl, rfl, h, by decide⟩
  rw [if_neg q, if_neg q, if_pos rfl, if_neg q0]
  have hp' : p < 6 := by omega
  obtain ⟨h2, p2, s2, k1, k2, k3⟩ := saves_s hn h
  obtain ⟨A, hA, hB⟩ := h.1
  obtain ⟨a1, _, _, a4, _, _, _, _, a9, _⟩ := id hA
  rw [hasLamp_s a4 a9 hp', bnd_some, show F_X10_lampAt v (nI p) 0 = _ from lampAt_s a1 (p := p) (k := 0) hp' (by decide), bnd_some, Nat.add_zero, show F_X10_lampAt v (nI p) 4 = _ from lampAt_s a1 (p := p) (k := 4) hp' (by decide), bnd_some, show 82 + 5 * p + 4 = 86 + 5 * p by omega]
  rcases a9.has hp' with ⟨e, _⟩ | ⟨e, _⟩
  · rw [e, if_pos (show nI 0 = 0 from rfl), if_pos (show nI 0 = 0 from rfl)]
    exact ⟨-4, u, v, rfl, rfl, h, by decide⟩
  · obtain ⟨w2, m1, m2, m3⟩ := take_m (n := n) (v := setPast v p2 s2) (r := nI (A (86 + 5 * p))) (by omega) a1 hp'
    have us : F_X1_useOf (St_Ch (HL_now u)) (nI p) = some (nI (A (86 + 5 * p))) := by
      unfold F_X1_useOf
      rw [isPlace_s hp', bnd_some, if_neg q0, chk_nI hp' (by decide), nI_clamp (by omega), (a4.1 p hp').2.2]
    rw [e, if_neg (show ¬ nI 1 = 0 by decide), if_neg (show ¬ nI 1 = 0 by decide), k1, k2, bnd_some, bnd_some, us, bnd_some, insert_c hp', bnd_some, m1]
    exact ⟨_, _, _, rfl, rfl, h.next ⟨_, RA_ch hA (RCh_setL a4 hp' (a := 0) (b := 0) (i := 0) (l := 0) (u := 0)) m2 (ICh_setL a9 hp' (Or.inl ⟨rfl, rfl, rfl, rfl, rfl⟩)) (fun j hj => setL_out (by omega)) m3, by rw [setL_out (by omega), setL_out (by omega)]; exact hB⟩ k3, nI_m4 (by have := a9.has hp'; omega)⟩
theorem canSet_s (x y : Int32) : F_X10_canSet x y = some (if (x = 0 ∧ ¬ (y < 0 ∨ 50 < y)) ∨ (x = 1 ∧ ¬ (y < 1 ∨ 100 < y)) then 1 else 0) := by
  have q0 : ¬ (1 : Int32) = 0 := by decide
  have q01 : ¬ (0 : Int32) = 1 := by decide
  unfold F_X10_canSet
  rw [wi_s, wi_s]
  simp only [bnd_some]
  by_cases h : x = 0
  · subst h
    rw [if_pos rfl, if_neg q01]
    by_cases h2 : y < 0 ∨ 50 < y
    · rw [if_pos h2, if_pos rfl, if_neg (fun o => o.elim (fun z => z.2 h2) (fun z => q01 z.1))]
    · rw [if_neg h2, if_neg q0, if_pos (Or.inl ⟨rfl, h2⟩)]
  · rw [if_neg h]
    by_cases h1 : x = 1
    · rw [if_pos h1]
      by_cases h2 : y < 1 ∨ 100 < y
      · rw [if_pos h2, if_pos rfl, if_neg (fun o => o.elim (fun z => h z.1) (fun z => z.2 h2))]
      · rw [if_neg h2, if_neg q0, if_pos (Or.inr ⟨h1, h2⟩)]
    · rw [if_neg h1, if_neg (fun o => o.elim (fun z => h z.1) (fun z => h1 z.1))]
theorem op_set {n : Nat} {u : HLV} {v : MdV} (hn : 1200 < n) (h : R u v) (x y : Int32) : ∃ a u2 v2, F_X9_set u x y = some (a, u2) ∧ F_X10_set n v x y = some (a, v2) ∧ R u2 v2 ∧ (-4 : Int32) ≤ a := by
  have q0 : ¬ (1 : Int32) = 0 := by decide
  have q01 : ¬ (0 : Int32) = 1 := by decide
  obtain ⟨h2, p2, s2, k1, k2, k3⟩ := saves_s hn h
  obtain ⟨A, hA, hB⟩ := h.1
  obtain ⟨a1, _, _, a4, a5, _, _, _, a9, _⟩ := id hA
  unfold F_X9_set F_X10_set F_X9_set_J49
  rw [out_s, out_s, canSet_s, k1, k2]
  simp only [bnd_some]
  by_cases h0 : x = 0
  · subst h0
    rw [if_pos rfl]
    rcases arg_n (x := y) (lo := 0) (hi := 50) 0 50 rfl rfl (by decide) (by decide) with q | ⟨b, _, hb, rfl, q⟩
    · rw [if_pos q, if_neg q0, if_neg q01, if_neg (fun (o : ((0 : Int32) = 0 ∧ ¬ (y < 0 ∨ 50 < y)) ∨ ((0 : Int32) = 1 ∧ ¬ (y < 1 ∨ 100 < y))) => Or.elim o (fun z => z.2 q) (fun z => q01 z.1)), if_pos rfl]
      exact ⟨-1, u, v, rfl, rfl, h, by decide⟩
    · rw [if_neg q, if_pos rfl, if_pos (Or.inl ⟨rfl, q⟩), if_neg q0, show (114 : Int32) + 0 = nI 114 from rfl, chk_nI (by decide) (by decide), chk_nI (by decide) (by decide), nI_clamp (by decide), a1 114 (by decide), a4.2.2.2.1]
      exact ⟨_, _, _, rfl, rfl, h.next ⟨_, RA_change hA hb, by rw [sA_ne (by omega), sA_ne (by omega)]; exact hB⟩ k3, nI_m4 (by have := a9.2.2.2.1; omega)⟩
  · rw [if_neg h0]
    by_cases h1 : x = 1
    · subst h1
      rw [if_pos rfl]
      rcases arg_n (x := y) (lo := 1) (hi := 100) 1 100 rfl rfl (by decide) (by decide) with q | ⟨b, hb1, hb, rfl, q⟩
      · rw [if_pos q, if_neg q0, if_neg (fun (o : ((1 : Int32) = 0 ∧ ¬ (y < 0 ∨ 50 < y)) ∨ ((1 : Int32) = 1 ∧ ¬ (y < 1 ∨ 100 < y))) => Or.elim o (fun z => h0 z.1) (fun z => z.2 q)), if_pos rfl]
        exact ⟨-1, u, v, rfl, rfl, h, by decide⟩
      · rw [if_neg q, if_pos rfl, if_pos (Or.inr ⟨rfl, q⟩), if_neg q0, show (114 : Int32) + 1 = nI 115 from rfl, chk_nI (by decide) (by decide), chk_nI (by decide) (by decide), nI_clamp (by decide), a1 115 (by decide), a5.2.2.1]
        exact ⟨_, _, _, rfl, rfl, h.next ⟨_, RA_clear hA hb1 hb, by rw [sA_ne (by omega), sA_ne (by omega)]; exact hB⟩ k3, nI_m4 (by have := a9.2.2.2.2.2.1; omega)⟩
    · rw [if_neg h1, if_neg (fun (o : (x = 0 ∧ ¬ (y < 0 ∨ 50 < y)) ∨ (x = 1 ∧ ¬ (y < 1 ∨ 100 < y))) => Or.elim o (fun z => h0 z.1) (fun z => h1 z.1)), if_pos rfl]
      exact ⟨-1, u, v, rfl, rfl, h, by decide⟩
theorem op_undo {n : Nat} {u : HLV} {v : MdV} (hn : 1200 < n) (h : R u v) : ∃ a u2 v2, F_X9_undo u = some (a, u2) ∧ F_X10_undo n v = some (a, v2) ∧ R u2 v2 ∧ (-4 : Int32) ≤ a := by
  obtain ⟨h1, hs1, h3, ⟨s, e, hs, he, q1, q2, q3, q4⟩, h5⟩ := id h
  unfold F_X9_undo F_X10_undo
  rw [q1, q3]
  by_cases c : s = 0
  · subst c
    rw [if_pos (show nI 0 = 0 from rfl), if_pos (show nI 0 = 0 from rfl)]
    exact ⟨-2, u, v, rfl, rfl, h, by decide⟩
  · have c0 : ¬ nI s = 0 := nI_ne0 (by omega) (by omega)
    obtain ⟨t, rfl⟩ : ∃ t, s = t + 1 := ⟨s - 1, by omega⟩
    have s1 : nI (t + 1) - 1 = nI t := pk_sub (a := t + 1) (b := 1) (by omega)
    have row := q4 t (by omega)
    rw [show (e + 5 - (t + 1) + t) % 5 = (e + 4) % 5 by omega] at row
    obtain ⟨S', g1, g2, _⟩ := becomeS (S := HL_now u) row
    obtain ⟨w2, b1, b2, b3⟩ := bring_s (n := n) (n0 := 1445) (n1 := 289) (v := Md_past v) (u := Md_now v) (x := 289 * nI t) (y := 0) (a := 289 * t) (b := 0) (by omega) (by rw [lit, pk_mul]) rfl (by omega) (by omega) (by omega) (by omega)
    have gt : ∀ x2 : Int32, x2 = nI ((e + 4) % 5) → F_X5_giveBack_t (HL_hist u) (HL_now u) x2 = some (Hi_mk (Ho_mk (nI t) (nI ((e + 4) % 5))) (Hi_Hr (HL_hist u)), S') := by
      intro x2 hx
      subst hx
      have z : ¬ nI (t + 1) < 1 := nI_nlt (a := t + 1) (b := 1) (by omega) (by omega)
      unfold F_X5_giveBack_t
      rw [q1, if_neg z, if_neg (nI_pos (by omega)), if_neg (by rw [lit, nI_leI (by omega) (by omega)]; omega), chk_nI (by omega) (by decide), nI_clamp (by omega), g1, bnd_some, s1]
    have gb : F_X5_giveBack (HL_hist u) (HL_now u) = some (Hi_mk (Ho_mk (nI t) (nI ((e + 4) % 5))) (Hi_Hr (HL_hist u)), S') := by
      unfold F_X5_giveBack
      rw [q2]
      by_cases e0 : e = 0
      · subst e0
        rw [if_pos (show nI 0 ≤ 0 by decide)]
        exact gt _ rfl
      · have : ¬ nI e ≤ 0 := nI_nlE (b := 0) (by omega) (by omega)
        rw [if_neg this]
        refine gt _ ?_
        rw [show (e + 4) % 5 = e - 1 by omega]
        exact pk_sub (a := e) (b := 1) (by omega)
    rw [if_neg c0, if_neg c0, gb, bnd_some, s1, b1, bnd_some]
    refine ⟨nI t, _, _, rfl, rfl, ⟨g2.cgw (fun k hk => ?_), hs1, h3, ⟨t, (e + 4) % 5, by omega, by omega, rfl, rfl, rfl, ?_⟩, h5⟩, nI_m4 (by omega)⟩
    · have := b2 k hk
      rw [Nat.zero_add] at this
      exact this
    · intro j hj
      have := q4 j (by omega)
      rw [show (e + 5 - (t + 1) + j) % 5 = ((e + 4) % 5 + 5 - t + j) % 5 by omega] at this
      exact this
theorem op_store {n : Nat} {u : HLV} {v : MdV} (hn : 1200 < n) (h : R u v) : ∃ a u2 v2, F_X9_store u = some (a, u2) ∧ F_X10_store n v = some (a, v2) ∧ R u2 v2 ∧ (-4 : Int32) ≤ a := by
  obtain ⟨h1, hs1, h3, h4, h5⟩ := id h
  obtain ⟨S', g1, g2, _⟩ := becomeS (S := HL_stored u) h1
  obtain ⟨w2, b1, b2, b3⟩ := bring_s (n := n) (n0 := 289) (n1 := 289) (v := Md_now v) (u := Md_stored v) (x := 0) (y := 0) (a := 0) (b := 0) (by omega) rfl rfl (by omega) (by omega) (by omega) (by omega)
  obtain ⟨A, hA, hB⟩ := h1
  have c116 : (116 : Int32).toNatClampNeg = 116 := rfl
  have k116 : ∀ {α : Type} {a : Option α}, chk 116 289 a = a := fun {α} {a} => chk_nI (j := 116) (by decide) (by decide)
  unfold F_X9_store F_X10_store
  rw [g1, b1, bnd_some, bnd_some, k116, c116, hA.1 116 (by decide), hA.2.2.2.2.1.2.1]
  refine ⟨_, _, _, rfl, rfl, ⟨⟨A, hA, hB⟩, hs1, Or.inr ⟨rfl, rfl, g2.cgw (fun k hk => ?_)⟩, h4, h5⟩, nI_m4 (by have := hA.2.2.2.2.2.2.2.2.2.1; omega)⟩
  have := b2 k hk
  rw [Nat.zero_add] at this
  exact this
theorem op_recall {n : Nat} {u : HLV} {v : MdV} (hn : 1200 < n) (h : R u v) : ∃ a u2 v2, F_X9_recall u = some (a, u2) ∧ F_X10_recall n v = some (a, v2) ∧ R u2 v2 ∧ (-4 : Int32) ≤ a := by
  have q0 : ¬ (1 : Int32) = 0 := by decide
  obtain ⟨h2, p2, s2, k1, k2, k3⟩ := saves_s hn h
  obtain ⟨h1, hs1, h3, h4, h5⟩ := id h
  have c116 : (116 : Int32).toNatClampNeg = 116 := rfl
  have k116 : ∀ {α : Type} {a : Option α}, chk 116 289 a = a := fun {α} {a} => chk_nI (j := 116) (by decide) (by decide)
  unfold F_X9_recall F_X10_recall
  rcases h3 with ⟨e1, e2⟩ | ⟨e1, e2, hS⟩
  · rw [e1, e2, if_pos rfl, if_pos rfl]
    exact ⟨-2, u, v, rfl, rfl, h, by decide⟩
  · obtain ⟨S', g1, g2, g3⟩ := becomeS (S := HL_now u) hS
    obtain ⟨w2, b1, b2, b3⟩ := bring_s (n := n) (n0 := 289) (n1 := 289) (v := Md_stored v) (u := Md_now v) (x := 0) (y := 0) (a := 0) (b := 0) (by omega) rfl rfl (by omega) (by omega) (by omega) (by omega)
    have b2' : ∀ k, k < 289 → w2 k = Md_stored v k := fun k hk => by
      have := b2 k hk
      rw [Nat.zero_add] at this
      exact this
    have b1' : F_X10_bring n 289 289 (Md_stored (setPast v p2 s2)) (Md_now (setPast v p2 s2)) 0 0 = some w2 := b1
    rw [e1, e2, if_neg q0, if_neg q0, k1, k2, bnd_some, bnd_some, g1, b1', bnd_some, bnd_some, k116, c116, g3]
    obtain ⟨A, hA, hB⟩ := id hS
    rw [b2' 116 (by decide), hA.1 116 (by decide), hA.2.2.2.2.1.2.1]
    exact ⟨_, _, _, rfl, rfl, ⟨g2.cgw b2', hs1, Or.inr ⟨e1, e2, hS⟩, k3, h5⟩, nI_m4 (by have := hA.2.2.2.2.2.2.2.2.2.1; omega)⟩
