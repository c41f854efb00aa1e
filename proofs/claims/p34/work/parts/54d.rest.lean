/-! A LIGHT AT REST: the bits of its ranges, and isLight -/
theorem sh23 : ∀ e : Nat, e < 256 → (nI e <<< ((23 : Int32) &&& 31)).toInt = ((e * 8388608 : Nat) : Int) := by decide +kernel
/-- what the bits of a range are worth, out of its worth -/
def Rb (z : Nat) (r : Int32) : Prop := ∃ (c e : Nat), 2 ^ 52 ≤ c ∧ c < 2 ^ 53 ∧ e < 200 ∧ c * 2 ^ (e + 895) = z * 2 ^ 925 ∧ r.toInt = ((e * 8388608 + (c - 2 ^ 52) / 2 ^ 29 : Nat) : Int)
theorem Rb_le {z1 z2 : Nat} {r1 r2 : Int32} (h1 : Rb z1 r1) (h2 : Rb z2 r2) (h : z1 ≤ z2) : ¬ r2 < r1 := by
  obtain ⟨c1, e1, a1, a2, a3, a4, a5⟩ := h1
  obtain ⟨c2, e2, b1, b2, b3, b4, b5⟩ := h2
  have m : c1 * 2 ^ (e1 + 895) ≤ c2 * 2 ^ (e2 + 895) := by
    rw [a4, b4]
    exact Nat.mul_le_mul_right _ h
  have le : e1 ≤ e2 := by
    apply Nat.le_of_not_lt
    intro z
    have k1 : 2 ^ 52 * 2 ^ (e2 + 1 + 895) ≤ c1 * 2 ^ (e1 + 895) := Nat.mul_le_mul a1 (Nat.pow_le_pow_right (by decide) (by omega))
    have k2 : c2 * 2 ^ (e2 + 895) < 2 ^ 53 * 2 ^ (e2 + 895) := Nat.mul_lt_mul_of_pos_right b2 (Nat.two_pow_pos _)
    have k3 : (2 : Nat) ^ 52 * 2 ^ (e2 + 1 + 895) = 2 ^ 53 * 2 ^ (e2 + 895) := by rw [← Nat.pow_add, ← Nat.pow_add, show 52 + (e2 + 1 + 895) = 53 + (e2 + 895) by omega]
    omega
  rw [Int32.lt_iff_toInt_lt, a5, b5]
  have d1 : (c1 - 2 ^ 52) / 2 ^ 29 < 8388608 := by
    rw [p52] at a1 ⊢
    rw [p53] at a2
    omega
  by_cases e : e1 = e2
  · subst e
    have k := Nat.le_of_mul_le_mul_right m (Nat.two_pow_pos _)
    have : (c1 - 2 ^ 52) / 2 ^ 29 ≤ (c2 - 2 ^ 52) / 2 ^ 29 := Nat.div_le_div_right (by omega)
    omega
  · omega
theorem rb_s {M n : Nat} {u : HLV} {w : Nat → Int32} {A : Nat → Nat} {col pc : Nat} (hn : 2000 < n) (hA : RA M (HL_now u) w A) (hc : col ≤ 3) (hp : pctI col = nI pc) (hp1 : 1 ≤ pc) (hp2 : pc ≤ 100) (hb : 1 ≤ brA A (A 112)) : ∃ (z : Nat) (r : Int32), ZM (rngA (nI (brA A (A 112))) (nI pc) (nI (A 115))) z ∧ F_X9_rangeBits n u (nI col) = some r ∧ Rb z r := by
  have q0 := n10
  obtain ⟨i1, i2, i3, i4, i5, i6, i7⟩ := id hA.2.2.2.2.2.2.2.2.1
  have brl := hA.2.2.2.2.2.2.2.2.1.br (p := A 112) (by omega)
  have pf := rng_PF (b := brA A (A 112)) (p := pc) (cl := A 115) hb brl hp1 hp2 (by omega) (by omega)
  obtain ⟨z, hz⟩ := pf.zm
  obtain ⟨c, q', hx, q1, q2, q3⟩ := f2d_zm pf hz (by decide) (by decide)
  have q : ¬ (nI col < 0 ∨ 3 < nI col) := by
    rw [show (0 : Int32) = nI 0 from rfl, show (3 : Int32) = nI 3 from rfl, nI_ltI (by omega) (by omega), nI_ltI (by omega) (by omega)]
    omega
  have cl0 := nI_tne (n := A 115) (by omega) (by omega)
  have n4 := (rng_nn (nI (brA A (A 112))) (nI pc) cl0).2.2.2
  have n5 := f2d_nn n4
  have fin : ∀ (e : Nat) (y : UInt64), e < 200 → q' + 179 = (e : Int) → NB y c (-52) → ∀ r : Int32, r = (((nI e).toInt64 * one23 + FP.d2l (FP.dmul (FP.dsub y FP.dconst1) 4710765210229538816)).toInt32) → Rb z r := by
    intro e y he hq hy r hr
    have dv := digits_val hy
    rw [Int64.toInt32_add, exp23 e (by omega), d2i_d2l hy] at hr
    have c1 := hx.2.1
    have c2 := hx.2.2.1
    refine ⟨c, e, c1, c2, he, ?_, ?_⟩
    · rw [← q3]
      congr 2
      omega
    · rw [hr, Int32.toInt_add, sh23 e (by omega), dv]
      have small : (c - 2 ^ 52) / 2 ^ 29 < 8388608 := by
        rw [p52] at c1 ⊢
        rw [p53] at c2
        omega
      rw [Int.bmod_eq_of_le (by omega) (by omega)]
      omega
  unfold F_X9_rangeBits
  rw [out_s, bnd_some, if_neg q, if_pos rfl, range_c hA hc, bnd_some, hp]
  unfold F_X0_ofFloat F_X0_join
  rw [nn64_e n5, zero_gt hx, if_pos (show (0 : Int32) < Op.cmpValue (some .gt) .g by decide)]
  by_cases s : q' < -52
  · obtain ⟨d, hd⟩ : ∃ d : Nat, q' + d = -52 := ⟨(-52 - q').toNat, by omega⟩
    obtain ⟨y, g0, g1, _⟩ := dblL (n := n) (v := Mdz) d n n 0 (127 - d) _ c q' hx hd (by omega) (by omega) (by omega)
    rw [show 127 - d + d = 127 by omega] at g1
    obtain ⟨n', rfl⟩ : ∃ z, n = z + 1 := ⟨n - 1, by omega⟩
    refine ⟨z, _, hz, ?_, fin (127 - d) y (by omega) (by omega) g0 _ rfl⟩
    show (((F_X0_join_L22 (n' + 1) (n' + 1) (nI 127) one23 _ (nI 127) 0).bind _).bind _) = _
    rw [join_22 (by omega) hx (by omega) (by decide) (by decide)]
    rw [show F_X0_join_L57 (n' + 1) (n' + 1) (nI 127) one23 (FP.f2d (rngA (nI (brA A (A 112))) (nI pc) (nI (A 115)))) (nI 127) 0 = _ from g1, bnd_some, bnd_some]
  · obtain ⟨d, hd⟩ : ∃ d : Nat, q' = -52 + d := ⟨(q' + 52).toNat, by omega⟩
    obtain ⟨y, g0, g1, _⟩ := halfL (n := n) (v := Mdz) d n n 0 127 _ c q' hx hd (by omega) (by omega) (by omega)
    obtain ⟨y2, k0, k1, _⟩ := dblL (n := n) (v := Mdz) 0 n n 0 (127 + d) y c (-52) g0 (by omega) (by omega) (by omega) (by omega)
    refine ⟨z, _, hz, ?_, fin (127 + d) y2 (by omega) (by omega) k0 _ rfl⟩
    show (((F_X0_join_L22 n n 127 one23 _ (nI 127) (nI 0)).bind _).bind _) = _
    rw [g1, show F_X0_join_L57 n n 127 one23 y (nI (127 + d)) 0 = _ from k1, bnd_some, bnd_some]
theorem rb_0 {M n : Nat} {u : HLV} {w : Nat → Int32} {A : Nat → Nat} {col : Nat} (hA : RA M (HL_now u) w A) (hc : col ≤ 3) (hz : brA A (A 112) = 0 ∨ col = 0) : F_X9_rangeBits n u (nI col) = some 0 := by
  obtain ⟨i1, i2, i3, i4, i5, i6, i7⟩ := id hA.2.2.2.2.2.2.2.2.1
  have q : ¬ (nI col < 0 ∨ 3 < nI col) := by
    rw [show (0 : Int32) = nI 0 from rfl, show (3 : Int32) = nI 3 from rfl, nI_ltI (by omega) (by omega), nI_ltI (by omega) (by omega)]
    omega
  have cl0 := nI_tne (n := A 115) (by omega) (by omega)
  have n4 := (rng_nn (nI (brA A (A 112))) (pctI col) cl0).2.2.2
  have n5 := f2d_nn n4
  have e : FP.dcmp (FP.f2d (rngA (nI (brA A (A 112))) (pctI col) (nI (A 115)))) FP.dconst0 = some .eq := by
    refine rng_0 ?_ cl0
    rcases hz with z | z
    · left; rw [z]; rfl
    · right; rw [z]; rfl
  unfold F_X9_rangeBits
  rw [out_s, bnd_some, if_neg q, if_pos rfl, range_c hA hc, bnd_some]
  unfold F_X0_ofFloat F_X0_join
  rw [nn64_e n5, e, if_neg (show ¬ (0 : Int32) < Op.cmpValue (some .eq) .g by decide)]
  rfl
theorem light416 {M n : Nat} {u : HLV} {w : Nat → Int32} {A : Nat → Nat} (hn : 2000 < n) (hA : RA M (HL_now u) w A) : F_L_isLight_J416 n u 1 = some 1 := by
  obtain ⟨i1, i2, i3, i4, i5, i6, i7⟩ := id hA.2.2.2.2.2.2.2.2.1
  have brl := hA.2.2.2.2.2.2.2.2.1.br (p := A 112) (by omega)
  have r0 : F_X9_rangeBits n u 0 = some 0 := rb_0 (col := 0) hA (by decide) (Or.inr rfl)
  unfold F_L_isLight_J416
  rw [if_neg n10, r0, bnd_some, if_pos rfl]
  by_cases hb : brA A (A 112) = 0
  · have r1 : F_X9_rangeBits n u 1 = some 0 := rb_0 (col := 1) hA (by decide) (Or.inl hb)
    have r2 : F_X9_rangeBits n u 2 = some 0 := rb_0 (col := 2) hA (by decide) (Or.inl hb)
    have r3 : F_X9_rangeBits n u 3 = some 0 := rb_0 (col := 3) hA (by decide) (Or.inl hb)
    rw [r2, bnd_some, r3, bnd_some, if_neg (show ¬ (0 : Int32) < 0 by decide), bnd_some, r1, bnd_some, if_neg (show ¬ (0 : Int32) < 0 by decide)]
  · obtain ⟨z1, v1, a1, a2, a3⟩ := rb_s (col := 1) (pc := 100) hn hA (by decide) rfl (by decide) (by decide) (by omega)
    obtain ⟨z2, v2, b1, b2, b3⟩ := rb_s (col := 2) (pc := 40) hn hA (by decide) rfl (by decide) (by decide) (by omega)
    obtain ⟨z3, v3, c1, c2, c3⟩ := rb_s (col := 3) (pc := 55) hn hA (by decide) rfl (by decide) (by decide) (by omega)
    have r1 : F_X9_rangeBits n u 1 = some v1 := a2
    have r2 : F_X9_rangeBits n u 2 = some v2 := b2
    have r3 : F_X9_rangeBits n u 3 = some v3 := c2
    obtain ⟨x1, x2, y1, y2, y3⟩ := rng_le (b := brA A (A 112)) (p1 := 40) (p2 := 55) (cl := A 115) (by omega) brl (by decide) (by decide) (by decide) (by omega) (by omega)
    obtain ⟨x3, x4, y4, y5, y6⟩ := rng_le (b := brA A (A 112)) (p1 := 55) (p2 := 100) (cl := A 115) (by omega) brl (by decide) (by decide) (by decide) (by omega) (by omega)
    have l1 : z2 ≤ z3 := by rw [b1.uniq y1, c1.uniq y2]; exact y3
    have l2 : z3 ≤ z1 := by rw [c1.uniq y4, a1.uniq y5]; exact y6
    rw [r2, bnd_some, r3, bnd_some, if_neg (Rb_le b3 c3 l1), bnd_some, r1, bnd_some, if_neg (Rb_le c3 a3 l2)]
theorem lawLight_s {n : Nat} {u : HLV} (hn : 30000 < n) (h : OK u) : F_L_isLight n u = some 1 := by
  obtain ⟨w, A, hA, hB⟩ := h.row
  have hA' := hA
  obtain ⟨a1, a2, a3, a4, a5, a6, a7, a8, a9, a10⟩ := hA'
  have p := per_in a8
  have hN := nSec_in A
  obtain ⟨t0, t1, t2, t3, t4, t5, t6⟩ := id a10
  have c0 : F_X9_count n u 0 = some (nI (nSec A)) := by
    show (F_X2_sectors n (St_Ci (HL_now u))).bind (fun q => some q) = _
    rw [sectors_c a2 a7 (by omega), bnd_some]
  have L := lightL13 (n := n) (u := u) (by omega) a2 a7 (nSec A) 0 n (by omega) (by omega)
  rw [if_pos (show 0 < nSec A by omega), Nat.sub_self] at L
  unfold F_L_isLight
  rw [c0, bnd_some, show F_L_isLight_L13 n n u 0 (nI (nSec A)) 1 0 = _ from L]
  unfold F_L_isLight_J144
  have e0 : F_X9_account u 0 = some (nI (A 116)) := acc_s (k := 0) hA (by decide)
  have e1 : F_X9_account u 1 = some (nI (A 117)) := acc_s (k := 1) hA (by decide)
  have e2 : F_X9_account u 2 = some (nI (A 118)) := acc_s (k := 2) hA (by decide)
  have e3 : F_X9_account u 3 = some (nI (A 119)) := acc_s (k := 3) hA (by decide)
  have e4 : F_X9_account u 4 = some (nI (A 120)) := acc_s (k := 4) hA (by decide)
  have sm : nI (A 116) = ((nI (A 117) + nI (A 118)) + nI (A 119)) + nI (A 120) := by rw [nI_add, nI_add, nI_add, t3]
  obtain ⟨_, d1, d2, ⟨kk, d3, dk⟩, d4⟩ := code_s (n := n) (by omega) hA (by decide)
  have lp : sumL A (A 64) ≤ per A := by unfold per; omega
  have nx := next_s (n := n) (by omega) hA (by decide)
  have g1 : F_X9_count n u 1 = some (nI (cntL A 6 0)) := by
    show (F_X1_lamps n (St_Ch (HL_now u))).bind (fun q => some q) = _
    rw [lampsE_c (by omega) a4 a9, bnd_some]
  have g2 : F_X9_count n u 2 = some (nI (cntG A 6 0)) := by
    show (F_X1_goodLamps n (St_Ch (HL_now u))).bind (fun q => some q) = _
    rw [goodE_c (by omega) a4 a9, bnd_some]
  have g4 : F_X9_count n u 4 = some (nI (A 113)) := by
    show some (Ch_changeLeft (St_Ch (HL_now u))) = _
    rw [a4.2.2.2.2]
  have gl := cntG_le A 6 0
  have ll := cntL_le A 6 0
  have i3 := a9.2.2.1
  have J229 : ∀ y : Int32, F_L_isLight_J229 n u y y = some 1 := by
    intro y
    unfold F_L_isLight_J229
    rw [if_pos rfl, g2, bnd_some, g1, bnd_some, if_neg (nI_nlt (by omega) (by omega)), g4, bnd_some, if_neg (show ¬ (50 : Int32) < nI (A 113) by rw [lit, nI_ltI (by omega) (by omega)]; omega), d4, bnd_some, nx, bnd_some, e0, bnd_some, if_pos rfl]
    rw [show F_L_isLight_L281 n n u 1 0 = _ from lightL281 hA 6 0 n (by omega) (by omega)]
    exact light416 (by omega) hA
  rw [if_neg n10, if_pos (show nI 64 = 64 from rfl), e0, bnd_some, e1, bnd_some, e2, bnd_some, e3, bnd_some, e4, bnd_some, if_pos sm, d2, bnd_some, d1, bnd_some, if_neg (nI_nlt lp (by omega)), d3, bnd_some]
  by_cases e : kk = 0
  · have z := dk.mp e
    have pe : per A = sumL A (A 64) := by unfold per; omega
    rw [if_pos e]
    unfold F_L_isLight_J211
    rw [d1, bnd_some, d2, bnd_some, if_pos (by rw [pe])]
    exact J229 1
  · have z : sumD A (A 64) ≠ 0 := fun z => e (dk.mpr z)
    have pe : ¬ nI (per A) = nI (sumL A (A 64)) := by
      intro y
      have := (nI_eq (by omega) (by omega)).mp y
      unfold per at this
      omega
    rw [if_neg e]
    unfold F_L_isLight_J211
    rw [d1, bnd_some, d2, bnd_some, if_neg pe]
    exact J229 0
