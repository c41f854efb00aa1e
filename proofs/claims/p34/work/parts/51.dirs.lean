/-! DIRECTIONS: turned places, and areDirections -/
theorem quad {x y : Int} (h : ¬ (x = 0 ∧ y = 0)) : ∃ q u v, q < 4 ∧ 0 ≤ u ∧ 0 < v ∧ ∀ k, crs x y (k + 16 * q) = crs u v k := by
  by_cases h0 : 0 ≤ x ∧ 0 < y
  · exact ⟨0, x, y, by decide, h0.1, h0.2, fun k => rfl⟩
  · by_cases h1 : 0 < x
    · exact ⟨1, -y, x, by decide, by omega, h1, fun k => crs_rot x y k⟩
    · by_cases h2 : y < 0
      · refine ⟨2, -x, -y, by decide, by omega, by omega, fun k => ?_⟩
        rw [show k + 16 * 2 = k + 16 + 16 by omega, crs_rot, crs_rot]
      · refine ⟨3, y, -x, by decide, by omega, by omega, fun k => ?_⟩
        rw [show k + 16 * 3 = k + 16 + 16 + 16 by omega, crs_rot, crs_rot, crs_rot, Int.neg_neg]
/-- a quarter further: the direction is 16 more -/
theorem dir_turn {x y : Int} {j : Nat} (h : ¬ (x = 0 ∧ y = 0)) (hj : j < 64) (e : dirI x y = nI j) : dirI y (-x) = nI ((j + 16) % 64) := by
  obtain ⟨q, u, v, hq, hu, hv, hr⟩ := quad h
  have e1 := dirI_q hu hv q hq hr
  obtain ⟨a, _, _⟩ := grt_in u v hu hv 15 (by decide) (by show crs u v 16 < 0; rw [crs_16]; omega)
  have ej : j = 16 * q + grt u v 15 := (nI_eq (by omega) (by omega)).mp (e.symm.trans e1)
  have t : ∀ k, crs y (-x) (k + 16) = crs x y k := by
    intro k
    rw [crs_rot, Int.neg_neg]
  by_cases c : q = 3
  · subst c
    have e2 := dirI_q (x := y) (y := -x) hu hv 0 (by decide) (fun k => by
      rw [show k + 16 * 0 = k by omega, ← crs_per, show k + 64 = (k + 16 * 3) + 16 by omega, t]
      exact hr k)
    rw [e2]
    congr 1
    omega
  · have e2 := dirI_q (x := y) (y := -x) hu hv (q + 1) (by omega) (fun k => by
      rw [show k + 16 * (q + 1) = (k + 16 * q) + 16 by omega, t]
      exact hr k)
    rw [e2]
    congr 1
    omega
theorem dir_half {x y : Int} {j : Nat} (h : ¬ (x = 0 ∧ y = 0)) (hj : j < 64) (e : dirI x y = nI j) : dirI (-x) (-y) = nI ((j + 32) % 64) := by
  have e1 := dir_turn h hj e
  have e2 := dir_turn (x := y) (y := -x) (fun z => h ⟨by omega, z.1⟩) (Nat.mod_lt _ (by decide)) e1
  rw [e2]
  congr 1
  omega
theorem direction_s {n : Nat} {u : HLV} {x y : Int} (hn : 64 < n) (hx : ok4 x) (hy : ok4 y) : F_X9_direction n u (zI x) (zI y) = some (dirI x y) := by
  unfold F_X9_direction
  rw [far_c, bnd_some, if_neg (far_0 hx), if_pos rfl, far_c, bnd_some, if_neg (far_0 hy), if_pos rfl, between_s hn hx hy, bnd_some]
theorem again_c {n : Nat} {u : HLV} {x y : Int} (hn : 64 < n) (hx : ok4 x) (hy : ok4 y) : F_X9_again n u (zI x) (zI y) = some (dirI x y) := by
  unfold F_X9_again
  rw [far_c, bnd_some, if_neg (far_0 hx), if_pos rfl, far_c, bnd_some, if_neg (far_0 hy), if_pos rfl, byQuarter_s (by omega) hx hy, bnd_some]
theorem color_s {u : HLV} {c : CiV} {A : Nat → Nat} {j : Nat} (hc : St_Ci (HL_now u) = c) (h : RCi c A) (hj : j < 64) : F_X9_color u (nI j) = some (nI (A j)) := by
  have q : ¬ (nI j < 0 ∨ 63 < nI j) := by
    rw [show (0 : Int32) = nI 0 from rfl, show (63 : Int32) = nI 63 from rfl, nI_ltI (by omega) (by omega), nI_ltI (by omega) (by omega)]
    omega
  unfold F_X9_color
  rw [out_s, bnd_some, if_neg q, if_pos rfl, hc, colorAt_s h (by omega), Nat.mod_eq_of_lt hj, bnd_some]
theorem mod64 {j : Nat} (h : j < 1000) : nI j - nI j / 64 * 64 = nI (j % 64) := pk_rem (by omega) (by decide) (by decide)
theorem areDir {n : Nat} {u : HLV} {x y : Int} (hn : 3000 < n) (h : OK u) (hx : ok4 x) (hy : ok4 y) : ∃ S, F_L_areDirections n u (zI x) (zI y) = some (1, setTr u S) := by
  obtain ⟨w, A, hA, hB⟩ := h.row
  have a7 := hA.2.2.2.2.2.2.1
  have J79 : ∀ k : Int32, (k = -4 ∨ ∃ j, j < 64 ∧ k = nI j ∧ dirI x y = nI j ∧ ¬ (x = 0 ∧ y = 0)) → ∃ S, F_L_areDirections_J79 n u (zI x) (zI y) k 1 = some (1, setTr u S) := by
    intro k hk
    unfold F_L_areDirections_J79
    rw [if_neg (show ¬ (1 : Int32) = 0 by decide)]
    rcases hk with rfl | ⟨j, hj, rfl, ej, hne⟩
    · rw [if_pos rfl]
      exact ⟨HL_trial u, rfl⟩
    · have n4 : ¬ nI j = -4 := by
        intro z
        have := congrArg Int32.toInt z
        rw [nI_toInt (by omega), show (-4 : Int32).toInt = -4 from rfl] at this
        omega
      rw [if_neg n4]
      rcases sees_s (n := n) (by omega) hA hx hy with ⟨z1, z2, _⟩ | ⟨_, S2, col, hc, g1, g2, g3⟩
      · exact absurd ⟨z1, z2⟩ hne
      · rw [g1, bnd_some]
        by_cases c0 : nI col = 0
        · rw [if_pos c0]
          exact ⟨S2, rfl⟩
        · rw [if_neg c0]
          rcases sees_s (n := n) (u := setTr u S2) (by omega) hA hx hy with ⟨z1, z2, _⟩ | ⟨_, S3, col3, hc3, k1, k2, k3⟩
          · exact absurd ⟨z1, z2⟩ hne
          · have k1' : F_X9_sees n (setTr u S2) (zI x) (zI y) = some (nI col3, setTr u S3) := k1
            show ∃ S, (F_X9_sees n (setTr u S2) (zI x) (zI y)).bind _ = _
            rw [k1', bnd_some]
            show ∃ S, (F_X9_color (setTr u S3) (nI j)).bind _ = _
            rw [color_s (u := setTr u S3) (c := St_Ci (HL_now u)) rfl hA.2.1 hj, bnd_some]
            have same : nI col3 = nI (A j) := by
              have e := Option.some.inj (g2.symm.trans k2)
              rcases k3 with z | ⟨j', hj', ej', z⟩
              · exact absurd (e.trans (by rw [z]; rfl)) c0
              · have : j' = j := (nI_eq (by omega) (by omega)).mp (ej'.symm.trans ej)
                rw [z, this]
            rw [if_pos same]
            exact ⟨S3, rfl⟩
  by_cases h0 : x = 0 ∧ y = 0
  · obtain ⟨rfl, rfl⟩ := h0
    unfold F_L_areDirections
    rw [direction_s (by omega) hx hy, bnd_some, again_c (by omega) hx hy, bnd_some, if_pos rfl, show - zI 0 = zI 0 from rfl, direction_s (by omega) hx hy, bnd_some, dirI_00, if_pos rfl]
    unfold F_L_areDirections_J43
    rw [if_pos rfl, show - zI 0 = zI 0 from rfl, direction_s (by omega) hx hy, bnd_some, dirI_00, if_pos rfl]
    unfold F_L_areDirections_J71
    rw [if_pos rfl]
    exact J79 _ (Or.inl rfl)
  · obtain ⟨j, hj, ej⟩ := dirI_some h0
    have n4 : ¬ nI j = -4 := by
      intro z
      have := congrArg Int32.toInt z
      rw [nI_toInt (by omega), show (-4 : Int32).toInt = -4 from rfl] at this
      omega
    have e32 := dir_half h0 hj ej
    have e16 := dir_turn h0 hj ej
    have m32 : (nI j + 32) - (nI j + 32) / 64 * 64 = nI ((j + 32) % 64) := by
      rw [show nI j + 32 = nI (j + 32) from nI_add j 32, mod64 (by omega)]
    have m16 : (nI j + 16) - (nI j + 16) / 64 * 64 = nI ((j + 16) % 64) := by
      rw [show nI j + 16 = nI (j + 16) from nI_add j 16, mod64 (by omega)]
    unfold F_L_areDirections
    rw [direction_s (by omega) hx hy, bnd_some, again_c (by omega) hx hy, bnd_some, if_pos rfl, zI_neg, zI_neg, direction_s (by omega) hx.neg hy.neg, bnd_some, ej, if_neg n4, m32, e32]
    unfold F_L_areDirections_J43
    rw [if_pos rfl, zI_neg, direction_s (by omega) hy hx.neg, bnd_some, if_neg n4, m16, e16]
    unfold F_L_areDirections_J71
    rw [if_pos rfl]
    exact J79 _ (Or.inr ⟨j, hj, rfl, ej, h0⟩)
