/-! AHEAD: what is told of ticks ahead is what they bring -/
theorem acc_s {M : Nat} {u : HLV} {w : Nat → Int32} {A : Nat → Nat} (hA : RA M (HL_now u) w A) {k : Nat} (hk : k < 8) : F_X9_account u (nI k) = some (nI (A (116 + k))) := by
  obtain ⟨a1, _, _, _, ⟨s1, s2, s3, s4⟩, ⟨l1, l2, _, _⟩, _⟩ := hA
  have sp : ∀ j, j < 4 → F_X7_ticksOf (HL_now u) (nI j) = some (nI (A (117 + j))) := by
    intro j hj
    unfold F_X7_ticksOf
    rw [if_neg (nI_pos (by omega)), if_neg (by rw [lit, nI_leI (by omega) (by omega)]; omega), chk_nI hj (by decide), nI_clamp (by omega), s1 j hj]
  unfold F_X9_account
  rw [s2, s4, l1, l2, show F_X7_ticksOf (HL_now u) 0 = _ from sp 0 (by decide), show F_X7_ticksOf (HL_now u) 1 = _ from sp 1 (by decide), show F_X7_ticksOf (HL_now u) 2 = _ from sp 2 (by decide), show F_X7_ticksOf (HL_now u) 3 = _ from sp 3 (by decide)]
  rcases (show k = 0 ∨ k = 1 ∨ k = 2 ∨ k = 3 ∨ k = 4 ∨ k = 5 ∨ k = 6 ∨ k = 7 by omega) with rfl | rfl | rfl | rfl | rfl | rfl | rfl | rfl <;> rfl
theorem n10 : ¬ (1 : Int32) = 0 := by decide
/-- print and compare: what it answers on a light with the row w -/
theorem prt_eq {n : Nat} {u : HLV} {w : Nat → Int32} {a : Int64} (h : OK u) (hw : RS (HL_now u) w) (hp : Prt n w a) : ∃ u2, ((F_L_print n u).bind fun q => if (lg_cmp q.1 a) = 0 then some ((1 : Int32), q.2) else some (0, q.2)) = some (1, u2) ∧ OK u2 ∧ keepsU u u2 ∧ RS (HL_now u2) w ∧ HL_now u2 = HL_now u := by
  obtain ⟨S, g⟩ := hp u hw
  refine ⟨setTr u S, ?_, h.tr S, setTr_keeps u S, hw, rfl⟩
  rw [g, bnd_some, if_pos ((lg_cmp_eq a a).mpr rfl)]
theorem ahead_106 {n : Nat} {u : HLV} {w : Nat → Int32} {a : Int64} (hn : 30000 < n) (h : OK u) (hw : RS (HL_now u) w) (hp : Prt n w a) : ∃ u2, F_L_isAhead_J106 n u a (idl n 20000 0 w) (w 120) 1 = some (1, u2) ∧ OK u2 ∧ keepsU u u2 ∧ RS (HL_now u2) w := by
  unfold F_L_isAhead_J106
  have fin : ∃ u2, ((F_L_print n u).bind fun q => if (lg_cmp q.1 a) = 0 then some ((1 : Int32), q.2) else some (0, q.2)) = some (1, u2) ∧ OK u2 ∧ keepsU u u2 ∧ RS (HL_now u2) w := by
    obtain ⟨u2, g1, g2, g3, g4, _⟩ := prt_eq h hw hp
    exact ⟨u2, g1, g2, g3, g4⟩
  rw [if_neg n10]
  rcases idl_s n 20000 0 w with ⟨j, hj, e, s1, s2⟩ | ⟨e, s1⟩
  · rw [Nat.zero_add] at e
    rw [e, if_neg (nI_pos (by omega))]
    by_cases c : 1999 ≤ j
    · rw [if_pos (show (1999 : Int32) ≤ nI j by rw [lit, nI_leI (by omega) (by omega)]; exact c)]
      exact fin
    · rw [if_neg (show ¬ (1999 : Int32) ≤ nI j by rw [lit, nI_leI (by omega) (by omega)]; exact c), nI_1]
      obtain ⟨v, hv, ev⟩ := h.at hw
      rcases adv_s (n := n) (t := j + 1) (by omega) hv (by omega) (by omega) with g | ⟨h2, S2, v2, A, A2, k1, g1, g2, hA, hA2, _, g3⟩
      · rw [g, bnd_some, if_pos rfl]
        exact fin
      · rw [ev] at g1 g3 hA
        have b := cntk_le n 1 (j + 1) w
        have n3 : ¬ nI (cntk n 1 (j + 1) w) = -3 := by
          intro z
          have := congrArg Int32.toInt z
          rw [nI_toInt (by omega), show (-3 : Int32).toInt = -3 from rfl] at this
          omega
        have e4 : F_X9_account (HL_mk (HL_Hx u) S2 (HL_stored u) (HL_trial u) h2 (HL_text u)) 4 = some (nI (A2 120)) := acc_s (k := 4) hA2 (by decide)
        have e5 : nI (A2 120) = w 120 + 1 := by
          rw [g3, cntk_1 n 4 j w s2 s1, hA.1 120 (by decide), nI_1]
        rw [g1, bnd_some, if_neg n3, if_neg n10]
        show ∃ u2, (F_X9_account (HL_mk (HL_Hx u) S2 (HL_stored u) (HL_trial u) h2 (HL_text u)) 4).bind _ = _ ∧ _
        rw [e4, bnd_some, if_pos e5]
        obtain ⟨t, u2, ht, q1, q2, q3, q4⟩ := undo_back h hw k1 ⟨v2, g2⟩ rfl
        show ∃ u2, (F_X9_undo (HL_mk (HL_Hx u) S2 (HL_stored u) (HL_trial u) h2 (HL_text u))).bind _ = _ ∧ _
        rw [q1, bnd_some, if_neg (nI_pos (by omega))]
        obtain ⟨u3, r1, r2, r3, r4, _⟩ := prt_eq q2 q3 hp
        exact ⟨u3, r1, r2, (keepsU.trans (u2 := HL_mk (HL_Hx u) S2 (HL_stored u) (HL_trial u) h2 (HL_text u)) ⟨rfl, rfl, rfl⟩ q4).trans r3, r4⟩
  · rw [e, if_pos (show (-4 : Int32) < 0 by decide)]
    exact fin
theorem ahead_40 {n m : Nat} {u : HLV} {w : Nat → Int32} {a : Int64} (hn : 30000 < n) (h : OK u) (hw : RS (HL_now u) w) (hp : Prt n w a) (hm : m ≤ 1999) (hs : ∀ t, t < m → sqk n t w ≠ 4) : ∃ u2, F_L_isAhead_J40 n u a (idl n 20000 0 w) (w 120) 1 (nI m) = some (1, u2) ∧ OK u2 ∧ keepsU u u2 ∧ RS (HL_now u2) w := by
  unfold F_L_isAhead_J40
  by_cases c : m = 0
  · subst c
    rw [if_pos (show nI 0 ≤ 0 by decide)]
    exact ahead_106 hn h hw hp
  · rw [if_neg (show ¬ nI m ≤ 0 from nI_nlE (b := 0) (by omega) (by omega))]
    obtain ⟨A0, hA0, _⟩ := id hw
    have e1 : F_X9_account u 1 = some (nI (A0 117)) := acc_s (k := 1) hA0 (by decide)
    rw [e1, bnd_some]
    obtain ⟨v, hv, ev⟩ := h.at hw
    rcases adv_s (n := n) (t := m) (by omega) hv (by omega) (by omega) with g | ⟨h2, S2, v2, A, A2, k1, g1, g2, hA, hA2, g3, g4⟩
    · rw [g, bnd_some, if_pos rfl]
      exact ahead_106 hn h hw hp
    · rw [ev] at g1 g3 g4 hA
      have b := cntk_le n 1 m w
      have n3 : ¬ nI (cntk n 1 m w) = -3 := by
        intro z
        have := congrArg Int32.toInt z
        rw [nI_toInt (by omega), show (-3 : Int32).toInt = -3 from rfl] at this
        omega
      have e4 : F_X9_account (HL_mk (HL_Hx u) S2 (HL_stored u) (HL_trial u) h2 (HL_text u)) 4 = some (nI (A2 120)) := acc_s (k := 4) hA2 (by decide)
      have e5 : nI (A2 120) = w 120 := by
        rw [g4, cntk_0 n 4 m w hs, hA.1 120 (by decide), Nat.add_zero]
      have e6 : F_X9_account (HL_mk (HL_Hx u) S2 (HL_stored u) (HL_trial u) h2 (HL_text u)) 1 = some (nI (A2 117)) := acc_s (k := 1) hA2 (by decide)
      have e7 : nI (A2 117) = nI (A0 117) + nI (cntk n 1 m w) := by
        rw [← hA0.1 117 (by decide), hA.1 117 (by decide), nI_add, g3]
      rw [g1, bnd_some, if_neg n3]
      show ∃ u2, (F_X9_account (HL_mk (HL_Hx u) S2 (HL_stored u) (HL_trial u) h2 (HL_text u)) 4).bind _ = _ ∧ _
      rw [e4, bnd_some, if_pos e5]
      show ∃ u2, (F_X9_account (HL_mk (HL_Hx u) S2 (HL_stored u) (HL_trial u) h2 (HL_text u)) 1).bind _ = _ ∧ _
      rw [e6, bnd_some, if_pos e7]
      obtain ⟨t, u2, ht, q1, q2, q3, q4⟩ := undo_back h hw k1 ⟨v2, g2⟩ rfl
      show ∃ u2, (F_X9_undo (HL_mk (HL_Hx u) S2 (HL_stored u) (HL_trial u) h2 (HL_text u))).bind _ = _ ∧ _
      rw [q1, bnd_some, if_neg (nI_pos (by omega))]
      obtain ⟨u3, r1, r2, r3, r4⟩ := ahead_106 hn q2 q3 hp
      exact ⟨u3, r1, r2, (keepsU.trans (u2 := HL_mk (HL_Hx u) S2 (HL_stored u) (HL_trial u) h2 (HL_text u)) ⟨rfl, rfl, rfl⟩ q4).trans r3, r4⟩
theorem isAhead_s {n : Nat} {u : HLV} (hn : 30000 < n) (h : OK u) : ∃ u2, F_L_isAhead n u = some (1, u2) ∧ OK u2 ∧ keepsU u u2 := by
  obtain ⟨w, hw⟩ := h.row
  obtain ⟨a, S, p1, hp⟩ := print_s hn h hw
  obtain ⟨S2, i1⟩ := until_s (u := setTr u S) hn hw
  obtain ⟨A, hA, _⟩ := id hw
  have e4 : F_X9_account (setTr u S2) 4 = some (w 120) := by
    rw [hA.1 120 (by decide)]
    exact acc_s (u := setTr u S2) (k := 4) hA (by decide)
  have hU := h.tr S2
  have fin : ∀ m, m ≤ 1999 → (∀ t, t < m → sqk n t w ≠ 4) → ∃ u2, F_L_isAhead_J40 n (setTr u S2) a (idl n 20000 0 w) (w 120) 1 (nI m) = some (1, u2) ∧ OK u2 ∧ keepsU u u2 := by
    intro m hm hs
    obtain ⟨u2, g1, g2, g3, _⟩ := ahead_40 (u := setTr u S2) hn hU hw hp hm hs
    exact ⟨u2, g1, g2, (setTr_keeps u S2).trans g3⟩
  unfold F_L_isAhead
  rw [p1, bnd_some]
  show ∃ u2, (F_X9_untilIdle n (setTr u S)).bind _ = _ ∧ _
  rw [i1, bnd_some]
  show ∃ u2, (F_X9_account (setTr u S2) 4).bind _ = _ ∧ _
  rw [e4, bnd_some]
  show ∃ u2, (if idl n 20000 0 w = -4 then F_L_isAhead_J40 n (setTr u S2) a (idl n 20000 0 w) (w 120) 1 (nI 1999) else if idl n 20000 0 w ≤ 1999 then F_L_isAhead_J40 n (setTr u S2) a (idl n 20000 0 w) (w 120) 1 (idl n 20000 0 w) else F_L_isAhead_J40 n (setTr u S2) a (idl n 20000 0 w) (w 120) 1 (nI 1999)) = some (1, u2) ∧ _
  rcases idl_s n 20000 0 w with ⟨j, hj, e, s1, s2⟩ | ⟨e, s1⟩
  · rw [Nat.zero_add] at e
    have n4 : ¬ idl n 20000 0 w = -4 := by
      intro z
      rw [e] at z
      have := congrArg Int32.toInt z
      rw [nI_toInt (by omega), show (-4 : Int32).toInt = -4 from rfl] at this
      omega
    rw [if_neg n4]
    by_cases c : j ≤ 1999
    · rw [if_pos (show idl n 20000 0 w ≤ 1999 by rw [e, lit, nI_leI (by omega) (by omega)]; exact c)]
      have := fin j c s2
      rw [← e] at this
      exact this
    · rw [if_neg (show ¬ idl n 20000 0 w ≤ 1999 by rw [e, lit, nI_leI (by omega) (by omega)]; exact c)]
      exact fin 1999 (by omega) (fun t ht => s2 t (by omega))
  · rw [if_pos e]
    exact fin 1999 (by omega) (fun t ht => s1 t (by omega))
