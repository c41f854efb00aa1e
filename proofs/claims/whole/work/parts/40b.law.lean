/-! THE LAW: its loop, out of all ops -/
theorem end_s {L i : Nat} (hL : L ≤ 3072) (hi : i < 10000) : ((Int32.ofNat L) - 6 < nI i) ↔ L < i + 6 := by
  have a : (nI L - nI 6).toInt = (L : Int) - (6 : Nat) := by
    rw [Int32.toInt_sub, nI_toInt (by omega), nI_toInt (by omega)]
    exact Int.bmod_eq_of_le (by omega) (by omega)
  show nI L - nI 6 < nI i ↔ _
  rw [Int32.lt_iff_toInt_lt, a, nI_toInt (by omega)]
  omega
set_option maxHeartbeats 8000000 in
theorem lawL {n L : Nat} {xs : Nat → Int32} (hn : 30000 < n) (hL : L ≤ 3072) : ∀ (m i k : Nat) (u : HLV) (v : MdV), R u v → L < i + 6 * m + 6 → i ≤ L + 6 → m < k → F_law n L xs k u v (nI i) = some 1 := by
  intro m
  induction m with
  | zero =>
    intro i k u v h h1 h2 hk
    obtain ⟨k, rfl⟩ : ∃ z, k = z + 1 := ⟨k - 1, by omega⟩
    rw [F_law, if_pos ((end_s hL (by omega)).mpr (by omega))]
  | succ m ih =>
    intro i k u v h h1 h2 hk
    obtain ⟨k, rfl⟩ : ∃ z, k = z + 1 := ⟨k - 1, by omega⟩
    by_cases c : L < i + 6
    · rw [F_law, if_pos ((end_s hL (by omega)).mpr c)]
    have nx : ∀ (u : HLV) (v : MdV), R u v → F_law n L xs k u v (nI i + 6) = some 1 := by
      intro u v h
      rw [show nI i + 6 = nI (i + 6) from nI_add i 6]
      exact ih (i + 6) k u v h (by omega) (by omega) (by omega)
    have k0 : ∀ {α : Type} {a : Option α}, chk (nI i) L a = a := fun {α} {a} => chk_nI (by omega) (by omega)
    have k1 : ∀ {α : Type} {a : Option α}, chk (nI i + 1) L a = a := fun {α} {a} => by rw [show nI i + 1 = nI (i + 1) from nI_add i 1]; exact chk_nI (by omega) (by omega)
    have k2 : ∀ {α : Type} {a : Option α}, chk (nI i + 2) L a = a := fun {α} {a} => by rw [show nI i + 2 = nI (i + 2) from nI_add i 2]; exact chk_nI (by omega) (by omega)
    have k3 : ∀ {α : Type} {a : Option α}, chk (nI i + 3) L a = a := fun {α} {a} => by rw [show nI i + 3 = nI (i + 3) from nI_add i 3]; exact chk_nI (by omega) (by omega)
    have k4 : ∀ {α : Type} {a : Option α}, chk (nI i + 4) L a = a := fun {α} {a} => by rw [show nI i + 4 = nI (i + 4) from nI_add i 4]; exact chk_nI (by omega) (by omega)
    have k5 : ∀ {α : Type} {a : Option α}, chk (nI i + 5) L a = a := fun {α} {a} => by rw [show nI i + 5 = nI (i + 5) from nI_add i 5]; exact chk_nI (by omega) (by omega)
    rw [F_law, if_neg (fun z => c ((end_s hL (by omega)).mp z)), k0]
    generalize xs (nI i).toNatClampNeg &&& 31 = cc
    generalize xs (nI i + 1).toNatClampNeg = y1
    generalize xs (nI i + 2).toNatClampNeg = y2
    generalize xs (nI i + 3).toNatClampNeg = y3
    generalize xs (nI i + 4).toNatClampNeg = y4
    generalize xs (nI i + 5).toNatClampNeg = y5
    by_cases e0 : cc = 0
    · rw [if_pos e0]
      obtain ⟨a, u2, v2, g1, g2, g3⟩ := op_paint (n := n) (by omega) h y1 y2 y3
      rw [k1, k2, k3, g1, bnd_some, k1, k2, k3, g2, bnd_some]
      show (if a = a then F_law n L xs k u2 v2 (nI i + 6) else some 0) = some 1
      rw [if_pos rfl]
      exact nx u2 v2 g3
    rw [if_neg e0]
    by_cases e1 : cc = 1
    · rw [if_pos e1]
      obtain ⟨a, g1, g2⟩ := op_color h y1
      rw [k1, g1, bnd_some, k1, g2, bnd_some, if_pos rfl]
      exact nx u v h
    rw [if_neg e1]
    by_cases e2 : cc = 2
    · rw [if_pos e2]
      obtain ⟨a, g1, g2⟩ := op_sector (n := n) (by omega) h y1 y2
      rw [k1, k2, g1, bnd_some, k1, k2, g2, bnd_some, if_pos rfl]
      exact nx u v h
    rw [if_neg e2]
    by_cases e3 : cc = 3
    · rw [if_pos e3]
      obtain ⟨a, g1, g2⟩ := op_direction (n := n) (by omega) h y1 y2
      rw [k1, k2, g1, bnd_some, k1, k2, g2, bnd_some, if_pos rfl]
      exact nx u v h
    rw [if_neg e3]
    by_cases e4 : cc = 4
    · rw [if_pos e4]
      obtain ⟨a, g1, g2⟩ := op_again (n := n) (by omega) h y1 y2
      rw [k1, k2, g1, bnd_some, k1, k2, g2, bnd_some, if_pos rfl]
      exact nx u v h
    rw [if_neg e4]
    by_cases e5 : cc = 5
    · rw [if_pos e5]
      obtain ⟨a, u2, v2, g1, g2, g3⟩ := op_setCode (n := n) (by omega) h y1 y2 y3
      rw [k1, k2, k3, g1, bnd_some, k1, k2, k3, g2, bnd_some]
      show (if a = a then F_law n L xs k u2 v2 (nI i + 6) else some 0) = some 1
      rw [if_pos rfl]
      exact nx u2 v2 g3
    rw [if_neg e5]
    by_cases e6 : cc = 6
    · rw [if_pos e6]
      obtain ⟨a, g1, g2⟩ := op_code (n := n) (by omega) h y1
      rw [k1, g1, bnd_some, k1, g2, bnd_some, if_pos rfl]
      exact nx u v h
    rw [if_neg e6]
    by_cases e7 : cc = 7
    · rw [if_pos e7]
      obtain ⟨a, g1, g2⟩ := op_shareBits (n := n) (by omega) h 
      rw [g1, bnd_some, g2, bnd_some, if_pos ((lg_cmp_eq a a).mpr rfl)]
      exact nx u v h
    rw [if_neg e7]
    by_cases e8 : cc = 8
    · rw [if_pos e8]
      obtain ⟨a, g1, g2⟩ := op_next (n := n) (by omega) h y1
      rw [k1, g1, bnd_some, k1, g2, bnd_some, if_pos rfl]
      exact nx u v h
    rw [if_neg e8]
    by_cases e9 : cc = 9
    · rw [if_pos e9]
      obtain ⟨a, u2, v2, g1, g2, g3⟩ := op_setChanger (n := n) (by omega) h y1
      rw [k1, g1, bnd_some, k1, g2, bnd_some]
      show (if a = a then F_law n L xs k u2 v2 (nI i + 6) else some 0) = some 1
      rw [if_pos rfl]
      exact nx u2 v2 g3
    rw [if_neg e9]
    by_cases e10 : cc = 10
    · rw [if_pos e10]
      obtain ⟨a, u2, v2, g1, g2, g3⟩ := op_addLamp (n := n) (by omega) h y1 y2 y3
      rw [k1, k2, k3, g1, bnd_some, k1, k2, k3, g2, bnd_some]
      show (if a = a then F_law n L xs k u2 v2 (nI i + 6) else some 0) = some 1
      rw [if_pos rfl]
      exact nx u2 v2 g3
    rw [if_neg e10]
    by_cases e11 : cc = 11
    · rw [if_pos e11]
      obtain ⟨a, u2, v2, g1, g2, g3⟩ := op_takeLamp (n := n) (by omega) h y1
      rw [k1, g1, bnd_some, k1, g2, bnd_some]
      show (if a = a then F_law n L xs k u2 v2 (nI i + 6) else some 0) = some 1
      rw [if_pos rfl]
      exact nx u2 v2 g3
    rw [if_neg e11]
    by_cases e12 : cc = 12
    · rw [if_pos e12]
      obtain ⟨a, g1, g2⟩ := op_lamp h y1 y2
      rw [k1, k2, g1, bnd_some, k1, k2, g2, bnd_some, if_pos rfl]
      exact nx u v h
    rw [if_neg e12]
    by_cases e13 : cc = 13
    · rw [if_pos e13]
      obtain ⟨a, u2, v2, g1, g2, g3⟩ := op_set (n := n) (by omega) h y1 y2
      rw [k1, k2, g1, bnd_some, k1, k2, g2, bnd_some]
      show (if a = a then F_law n L xs k u2 v2 (nI i + 6) else some 0) = some 1
      rw [if_pos rfl]
      exact nx u2 v2 g3
    rw [if_neg e13]
    by_cases e14 : cc = 14
    · rw [if_pos e14]
      obtain ⟨a, g1, g2⟩ := op_rangeBits (n := n) (by omega) h y1
      rw [k1, g1, bnd_some, k1, g2, bnd_some, if_pos rfl]
      exact nx u v h
    rw [if_neg e14]
    by_cases e15 : cc = 15
    · rw [if_pos e15]
      obtain ⟨a, u2, v2, g1, g2, g3⟩ := op_advance (n := n) (by omega) h y1
      rw [k1, g1, bnd_some, k1, g2, bnd_some]
      show (if a = a then F_law n L xs k u2 v2 (nI i + 6) else some 0) = some 1
      rw [if_pos rfl]
      exact nx u2 v2 g3
    rw [if_neg e15]
    by_cases e16 : cc = 16
    · rw [if_pos e16]
      obtain ⟨a, g1, g2⟩ := op_account h y1
      rw [k1, g1, bnd_some, k1, g2, bnd_some, if_pos rfl]
      exact nx u v h
    rw [if_neg e16]
    by_cases e17 : cc = 17
    · rw [if_pos e17]
      obtain ⟨a, g1, g2⟩ := op_count (n := n) (by omega) h y1
      rw [k1, g1, bnd_some, k1, g2, bnd_some, if_pos rfl]
      exact nx u v h
    rw [if_neg e17]
    by_cases e18 : cc = 18
    · rw [if_pos e18]
      obtain ⟨a, u2, v2, g1, g2, g3⟩ := op_untilIdle (n := n) (by omega) h 
      rw [g1, bnd_some, g2, bnd_some]
      show (if a = a then F_law n L xs k u2 v2 (nI i + 6) else some 0) = some 1
      rw [if_pos rfl]
      exact nx u2 v2 g3
    rw [if_neg e18]
    by_cases e19 : cc = 19
    · rw [if_pos e19]
      obtain ⟨a, u2, v2, g1, g2, g3⟩ := op_sees (n := n) (by omega) h y1 y2
      rw [k1, k2, g1, bnd_some, k1, k2, g2, bnd_some]
      show (if a = a then F_law n L xs k u2 v2 (nI i + 6) else some 0) = some 1
      rw [if_pos rfl]
      exact nx u2 v2 g3
    rw [if_neg e19]
    by_cases e20 : cc = 20
    · rw [if_pos e20]
      obtain ⟨a, u2, v2, g1, g2, g3⟩ := op_pass (n := n) (by omega) h y1 y2 y3 y4 y5
      rw [k1, k2, k3, k4, k5, g1, bnd_some, k1, k2, k3, k4, k5, g2, bnd_some]
      show (if a = a then F_law n L xs k u2 v2 (nI i + 6) else some 0) = some 1
      rw [if_pos rfl]
      exact nx u2 v2 g3
    rw [if_neg e20]
    by_cases e21 : cc = 21
    · rw [if_pos e21]
      obtain ⟨a, g1, g2⟩ := op_entry h y1 y2
      rw [k1, k2, g1, bnd_some, k1, k2, g2, bnd_some, if_pos rfl]
      exact nx u v h
    rw [if_neg e21]
    by_cases e22 : cc = 22
    · rw [if_pos e22]
      obtain ⟨a, g1, g2⟩ := op_seen h y1
      rw [k1, g1, bnd_some, k1, g2, bnd_some, if_pos rfl]
      exact nx u v h
    rw [if_neg e22]
    by_cases e23 : cc = 23
    · rw [if_pos e23]
      obtain ⟨a, u2, v2, g1, g2, g3⟩ := op_store (n := n) (by omega) h 
      rw [g1, bnd_some, g2, bnd_some]
      show (if a = a then F_law n L xs k u2 v2 (nI i + 6) else some 0) = some 1
      rw [if_pos rfl]
      exact nx u2 v2 g3
    rw [if_neg e23]
    by_cases e24 : cc = 24
    · rw [if_pos e24]
      obtain ⟨a, u2, v2, g1, g2, g3⟩ := op_recall (n := n) (by omega) h 
      rw [g1, bnd_some, g2, bnd_some]
      show (if a = a then F_law n L xs k u2 v2 (nI i + 6) else some 0) = some 1
      rw [if_pos rfl]
      exact nx u2 v2 g3
    rw [if_neg e24]
    by_cases e25 : cc = 25
    · rw [if_pos e25]
      obtain ⟨a, g1, g2⟩ := op_compare (n := n) (by omega) h y1
      rw [k1, g1, bnd_some, k1, g2, bnd_some, if_pos rfl]
      exact nx u v h
    rw [if_neg e25]
    by_cases e26 : cc = 26
    · rw [if_pos e26]
      obtain ⟨a, u2, v2, g1, g2, g3⟩ := op_undo (n := n) (by omega) h 
      rw [g1, bnd_some, g2, bnd_some]
      show (if a = a then F_law n L xs k u2 v2 (nI i + 6) else some 0) = some 1
      rw [if_pos rfl]
      exact nx u2 v2 g3
    rw [if_neg e26]
    by_cases e27 : cc = 27
    · rw [if_pos e27]
      obtain ⟨a, u2, v2, g1, g2, g3⟩ := op_type h y1
      rw [k1, g1, bnd_some, k1, g2, bnd_some]
      show (if a = a then F_law n L xs k u2 v2 (nI i + 6) else some 0) = some 1
      rw [if_pos rfl]
      exact nx u2 v2 g3
    rw [if_neg e27]
    by_cases e28 : cc = 28
    · rw [if_pos e28]
      obtain ⟨a, u2, v2, g1, g2, g3⟩ := op_clearText h 
      rw [g1, bnd_some, g2, bnd_some]
      show (if a = a then F_law n L xs k u2 v2 (nI i + 6) else some 0) = some 1
      rw [if_pos rfl]
      exact nx u2 v2 g3
    rw [if_neg e28]
    by_cases e29 : cc = 29
    · rw [if_pos e29]
      obtain ⟨a, u2, v2, g1, g2, g3⟩ := op_fault (n := n) (by omega) h y1
      rw [k1, g1, bnd_some, k1, g2, bnd_some]
      show (if a = a then F_law n L xs k u2 v2 (nI i + 6) else some 0) = some 1
      rw [if_pos rfl]
      exact nx u2 v2 g3
    rw [if_neg e29]
    by_cases e30 : cc = 30
    · rw [if_pos e30]
      obtain ⟨a, u2, v2, g1, g2, g3⟩ := op_load (n := n) (by omega) h 
      rw [g1, bnd_some, g2, bnd_some]
      show (if a = a then F_law n L xs k u2 v2 (nI i + 6) else some 0) = some 1
      rw [if_pos rfl]
      exact nx u2 v2 g3
    rw [if_neg e30]
    exact nx u v h
