/-! WHAT TIES BOTH LIGHTS -/
def RHis (h : HiV) (past : Nat → Int32) (saved : Int32) : Prop := ∃ s e : Nat, s ≤ 5 ∧ e < 5 ∧ Ho_states (Hi_Ho h) = nI s ∧ Ho_end (Hi_Ho h) = nI e ∧ saved = nI s ∧ ∀ j, j < s → RS (Hi_Hr h ((e + 5 - s + j) % 5)) (fun k => past (289 * j + k))
def RTxt (t : TxV) (text : Nat → Int32) (len : Int32) : Prop := ∃ L : Nat, L ≤ 120 ∧ Tx_length t = nI L ∧ len = nI L ∧ ∀ j, j < L → ∃ c : Nat, 32 ≤ c ∧ c ≤ 126 ∧ Tx_signs t j = nI c ∧ text j = nI c
def RSto (x : HxV) (S : StV) (b : Int32) (w : Nat → Int32) : Prop := (Hx_isStored x = 0 ∧ b = 0) ∨ (Hx_isStored x = 1 ∧ b = 1 ∧ RS S w)
def R (u : HLV) (v : MdV) : Prop := RS (HL_now u) (Md_now v) ∧ RSin v ∧ RSto (HL_Hx u) (HL_stored u) (Md_isStored v) (Md_stored v) ∧ RHis (HL_hist u) (Md_past v) (Md_saved v) ∧ RTxt (HL_text u) (Md_text v) (Md_length v)
/-! arguments -/
theorem arg_n {x lo hi : Int32} (a b : Nat) (hl : lo = nI a) (hh : hi = nI b) (hb : b < 2 ^ 31) (hab : a ≤ b) : (x < lo ∨ hi < x) ∨ ∃ j : Nat, a ≤ j ∧ j ≤ b ∧ x = nI j ∧ ¬ (x < lo ∨ hi < x) := by
  by_cases h : x < lo ∨ hi < x
  · exact Or.inl h
  · right
    have h1 : ¬ x < lo := fun q => h (Or.inl q)
    have h2 : ¬ hi < x := fun q => h (Or.inr q)
    have e : (nI a).toInt = (a : Int) := nI_toInt (by omega)
    have e2 : (nI b).toInt = (b : Int) := nI_toInt hb
    rw [hl, Int32.lt_iff_toInt_lt, e] at h1
    rw [hh, Int32.lt_iff_toInt_lt, e2] at h2
    refine ⟨x.toInt.toNat, by omega, by omega, ?_, h⟩
    rw [zI_nI, show ((x.toInt.toNat : Nat) : Int) = x.toInt by omega]
    exact zI_of x
abbrev far (x : Int32) : Prop := x < -10000 ∨ 10000 < x
theorem arg_z (x : Int32) : far x ∨ ∃ z : Int, ok4 z ∧ x = zI z ∧ ¬ far x := by
  by_cases h : far x
  · exact Or.inl h
  · right
    have h' := h
    unfold far at h'
    have h1 : ¬ x < -10000 := fun q => h' (Or.inl q)
    have h2 : ¬ 10000 < x := fun q => h' (Or.inr q)
    rw [Int32.lt_iff_toInt_lt, show (-10000 : Int32).toInt = -10000 from by decide +kernel] at h1
    rw [Int32.lt_iff_toInt_lt, show (10000 : Int32).toInt = 10000 from by decide +kernel] at h2
    exact ⟨x.toInt, by unfold ok4; omega, zI_of x, h⟩
theorem far_c (x : Int32) : F_X9_isFar x = some (if far x then 1 else 0) := by
  unfold F_X9_isFar
  rw [out_s, bnd_some]
  unfold far zck
  by_cases h : x < -10000 ∨ 10000 < x
  · simp [h]
  · simp [h]
theorem far_m (x y : Int32) : F_X10_isFar x y = some (if far x ∨ far y then 1 else 0) := by
  unfold F_X10_isFar
  rw [wi_s, wi_s, bnd_some, bnd_some]
  unfold far
  by_cases h : x < -10000 ∨ 10000 < x
  · simp [h]
  · by_cases h2 : y < -10000 ∨ 10000 < y
    · simp [h, h2]
    · simp [h, h2]
theorem isPoint_s (x : Int32) : F_X10_isPoint x = some (if x < 0 ∨ 63 < x then 0 else 1) := by
  unfold F_X10_isPoint
  rw [wi_s, bnd_some]
  unfold zck
  by_cases h : x < 0 ∨ 63 < x
  · simp [h]
  · simp [h]
/-! OPS: color, sector, direction, again -/
theorem op_color {u : HLV} {v : MdV} (h : R u v) (x : Int32) : ∃ a, F_X9_color u x = some a ∧ F_X10_color v x = some a := by
  obtain ⟨⟨A, ⟨h1, h2, _⟩, _⟩, _⟩ := h
  unfold F_X9_color F_X10_color
  rw [out_s, isPoint_s, bnd_some, bnd_some]
  rcases arg_n (x := x) (lo := 0) (hi := 63) 0 63 rfl rfl (by decide) (by decide) with q | ⟨j, _, hj, rfl, q⟩
  · rw [if_pos q, if_pos q]
    exact ⟨-1, rfl, rfl⟩
  · rw [if_neg q, if_neg q]
    refine ⟨nI (A j), ?_, ?_⟩
    · rw [if_pos rfl, colorAt_s h2 (by omega), bnd_some, Nat.mod_eq_of_lt (by omega)]
    · rw [if_neg (by decide), chk_nI (by omega) (by decide), nI_clamp (by omega), h1 _ (by omega)]
theorem op_direction {n : Nat} {u : HLV} {v : MdV} (hn : 64 < n) (h : R u v) (x y : Int32) : ∃ a, F_X9_direction n u x y = some a ∧ F_X10_direction n v x y = some a := by
  obtain ⟨_, hs, _⟩ := h
  unfold F_X9_direction F_X10_direction
  rw [far_c, far_m, far_c, bnd_some, bnd_some, bnd_some]
  rcases arg_z x with q | ⟨z, hz, rfl, q⟩
  · rw [if_pos q, if_pos (Or.inl q), if_neg (by decide), if_neg (by decide)]
    exact ⟨-1, rfl, rfl⟩
  · rw [if_neg q, if_pos rfl]
    rcases arg_z y with q2 | ⟨z2, hz2, rfl, q2⟩
    · rw [if_pos q2, if_pos (Or.inr q2), if_neg (by decide), if_neg (by decide)]
      exact ⟨-1, rfl, rfl⟩
    · refine ⟨dirI z z2, ?_, ?_⟩
      · rw [if_neg q2, if_pos rfl, between_s hn hz hz2]; rfl
      rw [if_neg (fun (e : far (zI z) ∨ far (zI z2)) => e.elim q q2), if_pos rfl, directionOf_s hn hs hz hz2]
      by_cases e : zI z = 0
      · rw [if_pos e]
        by_cases e2 : zI z2 = 0
        · have a1 := hz
          have a2 := hz2
          unfold ok4 at a1 a2
          rw [zI_0, zI_eqI (by omega) (by omega) (by omega) (by omega)] at e e2
          subst e
          subst e2
          rw [if_pos (show zI 0 = 0 from rfl), dirI_00]
        · rw [if_neg e2]; rfl
      · rw [if_neg e]; rfl
theorem zI_ne0 {z : Int} (h : ok4 z) : zI z = 0 ↔ z = 0 := by
  unfold ok4 at h
  rw [zI_0, zI_eqI (by omega) (by omega) (by omega) (by omega)]
theorem again_J80 {n : Nat} {v : MdV} (hn : 64 < n) (hs : RSin v) {u' v' : Int} {q : Nat} (hq : q < 4) (hu : ok4 u') (hv : ok4 v') : F_X10_again_L119 n n v (OfNat.ofNat q) (zI u') (zI v') 0 0 = some (nI (16 * q + grt u' v' 15)) :=
  againL (n := n) hs hu hv hq 16 0 n (by decide) (by omega)
theorem again_s {n : Nat} {v : MdV} (hn : 64 < n) (hs : RSin v) {x y : Int} (hx : ok4 x) (hy : ok4 y) (hne : ¬ (x = 0 ∧ y = 0)) : F_X10_again_J21 n v (zI x) (zI y) = some (dirI x y) := by
  have hx2 := hx
  have hy2 := hy
  unfold ok4 at hx2 hy2
  have j0 : ∀ a b c : Int32, F_X10_again_J50 n v a b 0 = F_X10_again_L119 n n v 0 a b 0 0 := fun a b c => rfl
  have j1 : ∀ a b c : Int32, F_X10_again_J50 n v a b 1 = F_X10_again_L119 n n v 1 (-b) a 0 0 := fun a b c => rfl
  have j2 : ∀ a b c : Int32, F_X10_again_J50 n v a b 2 = F_X10_again_L119 n n v 2 (-a) (-b) 0 0 := fun a b c => rfl
  have j3 : ∀ a b c : Int32, F_X10_again_J50 n v a b 3 = F_X10_again_L119 n n v 3 b (-a) 0 0 := fun a b c => rfl
  unfold F_X10_again_J21 F_X10_again_J33
  rw [j0 _ _ 0, j1 _ _ 0, j2 _ _ 0, j3 _ _ 0]
  rw [zI_neg, zI_neg, again_J80 hn hs (q := 0) (by decide) hx hy, again_J80 hn hs (q := 1) (by decide) hy.neg hx, again_J80 hn hs (q := 2) (by decide) hx.neg hy.neg, again_J80 hn hs (q := 3) (by decide) hy hx.neg]
  simp only [zI_0, zI_ltI (a := x) (b := 0) (by omega) (by omega) (by omega) (by omega), zI_leI (a := y) (b := 0) (by omega) (by omega) (by omega) (by omega), zI_leI (a := x) (b := 0) (by omega) (by omega) (by omega) (by omega), zI_leI (b := x) (a := 0) (by omega) (by omega) (by omega) (by omega), zI_leI (b := y) (a := 0) (by omega) (by omega) (by omega) (by omega)]
  have rest : ¬ (0 ≤ x ∧ 0 < y) → (if x ≤ 0 then if 0 ≤ y then some (nI (16 * 3 + grt y (-x) 15)) else some (nI (16 * 2 + grt (-x) (-y) 15)) else some (nI (16 * 1 + grt (-y) x 15))) = some (dirI x y) := by
    intro h0
    by_cases h1 : x ≤ 0
    · rw [if_pos h1]
      by_cases h2 : 0 ≤ y
      · rw [if_pos h2, dirI_q (u := y) (v := -x) (by omega) (by omega) 3 (by decide) (fun k => by rw [show k + 16 * 3 = k + 16 + 16 + 16 by omega, crs_rot, crs_rot, crs_rot, Int.neg_neg])]
      · rw [if_neg h2, dirI_q (u := -x) (v := -y) (by omega) (by omega) 2 (by decide) (fun k => by rw [show k + 16 * 2 = k + 16 + 16 by omega, crs_rot, crs_rot])]
    · rw [if_neg h1, dirI_q (u := -y) (v := x) (by omega) (by omega) 1 (by decide) (fun k => crs_rot x y k)]
  by_cases h : x < 0
  · rw [if_pos h]; exact rest (by omega)
  · rw [if_neg h]
    by_cases h2 : y ≤ 0
    · rw [if_pos h2]; exact rest (by omega)
    · rw [if_neg h2, dirI_q (u := x) (v := y) (by omega) (by omega) 0 (by decide) (fun k => rfl)]
theorem op_again {n : Nat} {u : HLV} {v : MdV} (hn : 64 < n) (h : R u v) (x y : Int32) : ∃ a, F_X9_again n u x y = some a ∧ F_X10_again n v x y = some a := by
  obtain ⟨_, hs, _⟩ := h
  unfold F_X9_again F_X10_again
  rw [far_c, far_m, far_c, bnd_some, bnd_some, bnd_some]
  rcases arg_z x with q | ⟨z, hz, rfl, q⟩
  · rw [if_pos q, if_pos (Or.inl q), if_neg (by decide), if_neg (by decide)]
    exact ⟨-1, rfl, rfl⟩
  · rw [if_neg q, if_pos rfl]
    rcases arg_z y with q2 | ⟨z2, hz2, rfl, q2⟩
    · rw [if_pos q2, if_pos (Or.inr q2), if_neg (by decide), if_neg (by decide)]
      exact ⟨-1, rfl, rfl⟩
    · refine ⟨dirI z z2, ?_, ?_⟩
      · rw [if_neg q2, if_pos rfl, byQuarter_s (by omega) hz hz2]; rfl
      rw [if_neg (fun (e : far (zI z) ∨ far (zI z2)) => e.elim q q2), if_pos rfl]
      by_cases e : zI z = 0
      · rw [if_pos e]
        by_cases e2 : zI z2 = 0
        · rw [if_pos e2, (zI_ne0 hz).mp e, (zI_ne0 hz2).mp e2, dirI_00]
        · rw [if_neg e2, again_s hn hs hz hz2 (fun w => e2 ((zI_ne0 hz2).mpr w.2))]
      · rw [if_neg e, again_s hn hs hz hz2 (fun w => e ((zI_ne0 hz).mpr w.1))]
theorem op_sector {n : Nat} {u : HLV} {v : MdV} (hn : 64 < n) (h : R u v) (x y : Int32) : ∃ a, F_X9_sector n u x y = some a ∧ F_X10_sector n v x y = some a := by
  obtain ⟨⟨A, ⟨h1, h2, _, _, _, _, hI, _⟩, _⟩, _⟩ := h
  unfold F_X9_sector F_X10_sector
  rw [out_s, wi_s, bnd_some, bnd_some]
  rcases arg_n (x := y) (lo := 0) (hi := 2) 0 2 rfl rfl (by decide) (by decide) with q | ⟨w, _, hw, rfl, q⟩
  · refine ⟨-1, ?_, ?_⟩
    · rw [if_pos q]; split <;> rfl
    · rw [if_pos q]; rfl
  · have q0 : ¬ (1 : Int32) = 0 := by decide
    rw [if_neg q, if_neg q, if_pos rfl, if_neg q0]
    by_cases e : x < 0
    · have : ¬ 0 ≤ x := Int32.not_le.mpr e
      rw [if_pos e, if_neg this]
      exact ⟨-1, rfl, rfl⟩
    · have e' : 0 ≤ x := Int32.not_lt.mp e
      obtain ⟨s, hs, rfl⟩ : ∃ s : Nat, s < 2 ^ 31 ∧ x = nI s := by
        refine ⟨x.toInt.toNat, ?_, ?_⟩
        · have := x.toInt_lt; omega
        · rw [Int32.le_iff_toInt_le] at e'
          rw [zI_nI, show ((x.toInt.toNat : Nat) : Int) = x.toInt by have : (0 : Int32).toInt = 0 := rfl; omega]
          exact zI_of x
      have n1 := nSec_in A
      rw [if_neg e, if_pos e', sectors_m h1 hI hn, bnd_some]
      have b1 := beginOfL_c h2 hI (n := n) 64 0 0 n s (by omega) hn (by omega) (by omega) hs
      rw [nI_0, Nat.zero_add, Nat.sub_zero] at b1
      have b2 := beginOfL_m h1 hI (n := n) 64 0 n s (by omega) hn hs
      rw [nI_0] at b2
      by_cases hf : s < nSec A
      · rw [if_pos (nI_lt hf (by omega))]
        have key : ∃ b : Nat, b < 64 ∧ F_X2_beginOf n (St_Ci (HL_now u)) (nI s) = some (nI b) ∧ F_X10_beginOf n v (nI s) = some (nI b) := by
          unfold F_X2_beginOf F_X10_beginOf
          rw [b1, b2]
          cases e3 : fndB A 64 0 s with
          | some j => exact ⟨j, by have := fndB_lt A _ _ _ _ e3; omega, rfl, rfl⟩
          | none =>
            have := (fndB_none A 64 0 s).mp e3
            refine ⟨0, by decide, ?_, rfl⟩
            have e4 : cntB A 64 0 = 0 ∧ s = 0 := by
              unfold nSec at hf
              split at hf <;> omega
            show some (if cntB A 64 0 = 0 ∧ s = 0 then (0 : Int32) else -1) = _
            rw [if_pos e4]
            rfl
        obtain ⟨b, hb, k1, k2⟩ := key
        have m1 := sectorL_m h1 hI (n := n) hb (w := w) (by omega) 63 1 n (by decide) (by decide) (by omega) (by rw [Nat.add_sub_cancel, Nat.mod_eq_of_lt hb])
        have l1 := lengthL_c h2 hI (n := n) hb 63 1 n (by decide) (by omega)
        have nm : ¬ nI b = -1 := by
          intro z
          have z2 := congrArg Int32.toInt z
          rw [nI_toInt (by omega)] at z2
          have z3 : (-1 : Int32).toInt = -1 := by decide
          omega
        rw [k1, k2, bnd_some, bnd_some, if_neg nm]
        unfold F_X2_lengthFrom
        rw [show (1 : Int32) = nI 1 from rfl, m1, l1, colorAt_s h2 (by omega), Nat.mod_eq_of_lt hb, bnd_some, bnd_some]
        have : w = 0 ∨ w = 1 ∨ w = 2 := by omega
        rcases this with rfl | rfl | rfl
        · exact ⟨_, rfl, rfl⟩
        · exact ⟨_, rfl, rfl⟩
        · exact ⟨_, rfl, rfl⟩
      · rw [if_neg (nI_nlt (by omega) (by omega))]
        refine ⟨-4, ?_, rfl⟩
        have e3 : fndB A 64 0 s = none := by
          rw [fndB_none]
          unfold nSec at hf
          split at hf <;> omega
        have e4 : ¬ (cntB A 64 0 = 0 ∧ s = 0) := by
          intro z
          unfold nSec at hf
          rw [if_pos z.1] at hf
          omega
        have b3 : F_X2_beginOf n (St_Ci (HL_now u)) (nI s) = some (-1) := by
          unfold F_X2_beginOf
          rw [b1, e3]
          show some (if cntB A 64 0 = 0 ∧ s = 0 then (0 : Int32) else -1) = _
          rw [if_neg e4]
        rw [b3, bnd_some, if_pos rfl]
