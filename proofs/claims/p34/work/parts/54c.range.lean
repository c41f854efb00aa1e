/-! THE RANGE grows with the percent; so do its bits -/
theorem round_mono {f : FP.Core.Fmt} (hf : FP.Core.Good f) {s t1 t2 : Bool} {A1 A2 B c1 c2 : Nat} {e q1 q2 : Int} (hB : 0 < B) (h : A1 ≤ A2) (h1 : FP.Core.roundRatio f s A1 B e = .fin t1 c1 q1) (h2 : FP.Core.roundRatio f s A2 B e = .fin t2 c2 q2) : c1 * 2 ^ (q1 - f.qmin).toNat ≤ c2 * 2 ^ (q2 - f.qmin).toNat := by
  have F1 := FP.Core.roundRatio_fits hf s A1 hB e
  have F2 := FP.Core.roundRatio_fits hf s A2 hB e
  rw [h1] at F1
  rw [h2] at F2
  by_cases eq : A1 = A2
  · subst eq
    rw [h1] at h2
    cases h2
    exact Nat.le_refl _
  obtain ⟨e0, z1, z2⟩ : ∃ e0 : Int, e0 ≤ f.qmin ∧ e0 ≤ e := ⟨min f.qmin e, by omega, by omega⟩
  have n1 := FP.Core.roundRatio_nearest hf hB h1 F2.1 F2.2.1 z1 z2
  have n2 := FP.Core.roundRatio_nearest hf hB h2 F1.1 F1.2.1 z1 z2
  unfold FP.Core.distance FP.Core.inUnits at n1 n2
  have p0 := Nat.two_pow_pos (e - e0).toNat
  have lt : A1 * 2 ^ (e - e0).toNat < A2 * 2 ^ (e - e0).toNat := Nat.mul_lt_mul_of_pos_right (by omega) p0
  rw [← Int.natCast_mul, ← Int.natCast_mul] at n1 n2
  have key : c1 * 2 ^ (q1 - e0).toNat * B ≤ c2 * 2 ^ (q2 - e0).toNat * B := by
    generalize c1 * 2 ^ (q1 - e0).toNat * B = w1 at n1 n2 ⊢
    generalize c2 * 2 ^ (q2 - e0).toNat * B = w2 at n1 n2 ⊢
    generalize A1 * 2 ^ (e - e0).toNat = a1 at n1 lt
    generalize A2 * 2 ^ (e - e0).toNat = a2 at n2 lt
    omega
  have key2 := Nat.le_of_mul_le_mul_right key hB
  have sp : ∀ q : Int, f.qmin ≤ q → (q - e0).toNat = (q - f.qmin).toNat + (f.qmin - e0).toNat := by
    intro q hq
    omega
  rw [sp q1 F1.2.1, sp q2 F2.2.1, Nat.pow_add, Nat.pow_add, ← Nat.mul_assoc, ← Nat.mul_assoc] at key2
  exact Nat.le_of_mul_le_mul_right key2 (Nat.two_pow_pos _)
/-- a float's worth, in units of the least -/
def ZM (x : UInt32) (z : Nat) : Prop := ∃ c q, FP.Core.val32 x = .fin false c q ∧ -149 ≤ q ∧ c * 2 ^ (q + 149).toNat = z
theorem PF.zm {x : UInt32} {lo hi : Nat} (h : PF x lo hi) : ∃ z, ZM x z := by
  obtain ⟨c, q, h1, h2, _⟩ := h
  exact ⟨_, c, q, h1, h2, rfl⟩
theorem zm_div {x y : UInt32} {z r : Nat} (h : ZM x z) (hy : FP.Core.val32 y = .fin false 13107200 (-(r : Int))) : FP.Core.val32 (FP.fdiv x y) = FP.Core.roundRatio FP.Core.b32 false z 13107200 ((r : Int) - 149) := by
  obtain ⟨c, q, h1, h2, h3⟩ := h
  have v : FP.Core.val32 (FP.fdiv x y) = FP.Core.roundRatio FP.Core.b32 false c 13107200 (q - -(r : Int)) := by
    show FP.Core.val32 (FP.Core.fdiv x y) = _
    rw [FP.Core.val32_fdiv, h1, hy]
    rfl
  rw [v]
  refine FP.Core.roundRatio_congr (by decide) (by decide) ?_
  rw [← h3, show (q - -(r : Int) - ((r : Int) - 149)).toNat = (q + 149).toNat by omega, show ((r : Int) - 149 - (q - -(r : Int))).toNat = 0 by omega, Nat.pow_zero, Nat.mul_one, Nat.mul_assoc, Nat.mul_assoc, Nat.mul_comm (13107200 : Nat)]
theorem zm_mul {x y : UInt32} {z m k : Nat} (h : ZM x z) (hy : FP.Core.val32 y = .fin false (m * 2 ^ k) (-(k : Int))) : FP.Core.val32 (FP.fmul x y) = FP.Core.roundRatio FP.Core.b32 false (z * m) 1 (-149) := by
  obtain ⟨c, q, h1, h2, h3⟩ := h
  obtain ⟨E, hE⟩ : ∃ E : Nat, q = (E : Int) - 149 := ⟨(q + 149).toNat, by omega⟩
  have v : FP.Core.val32 (FP.fmul x y) = FP.Core.roundRatio FP.Core.b32 false (c * (m * 2 ^ k)) 1 (q + -(k : Int)) := by
    show FP.Core.val32 (FP.Core.fmul x y) = _
    rw [FP.Core.val32_fmul, h1, hy]
    rfl
  rw [v]
  refine FP.Core.roundRatio_congr (by decide) (by decide) ?_
  rw [← h3, show (q + 149).toNat = E by omega, Nat.mul_one, Nat.mul_one]
  by_cases c' : k ≤ E
  · rw [show (q + -(k : Int) - -149).toNat = E - k by omega, show (-149 - (q + -(k : Int))).toNat = 0 by omega, Nat.pow_zero, Nat.mul_one, Nat.mul_assoc, Nat.mul_assoc, ← Nat.pow_add, show k + (E - k) = E by omega, Nat.mul_assoc, Nat.mul_comm m]
  · rw [show (q + -(k : Int) - -149).toNat = 0 by omega, show (-149 - (q + -(k : Int))).toNat = k - E by omega, Nat.pow_zero, Nat.mul_one, Nat.mul_assoc, Nat.mul_assoc, Nat.mul_comm (2 ^ E), Nat.mul_assoc, ← Nat.pow_add, show k - E + E = k by omega]
theorem zm_le {x1 x2 : UInt32} {A1 A2 B : Nat} {e : Int} {lo hi lo2 hi2 : Nat} (hB : 0 < B) (h : A1 ≤ A2) (h1 : FP.Core.val32 x1 = FP.Core.roundRatio FP.Core.b32 false A1 B e) (h2 : FP.Core.val32 x2 = FP.Core.roundRatio FP.Core.b32 false A2 B e) (p1 : PF x1 lo hi) (p2 : PF x2 lo2 hi2) : ∃ z1 z2, ZM x1 z1 ∧ ZM x2 z2 ∧ z1 ≤ z2 := by
  obtain ⟨c1, q1, a1, a2, _⟩ := p1
  obtain ⟨c2, q2, b1, b2, _⟩ := p2
  have m := round_mono FP.Core.good_b32 hB h (h1.symm.trans a1) (h2.symm.trans b1)
  rw [FP.Core.qmin_b32, show q1 - -149 = q1 + 149 by omega, show q2 - -149 = q2 + 149 by omega] at m
  exact ⟨_, _, ⟨c1, q1, a1, a2, rfl⟩, ⟨c2, q2, b1, b2, rfl⟩, m⟩
theorem PF_i2f {b : Nat} (hb : 1 ≤ b) (hb2 : b ≤ 2000) : PF (FP.i2f (nI b)) 149 160 := by
  have v := v_i2f b (by omega) (by omega)
  have L : Nat.log2 b ≤ 10 := by
    have := (Nat.log2_lt (show b ≠ 0 by omega)).mpr (show b < 2 ^ 11 by omega)
    omega
  refine ⟨_, _, v, by omega, ?_, ?_⟩
  · rw [show (-((23 - Nat.log2 b : Nat) : Int) + 149).toNat = 149 - (23 - Nat.log2 b) by omega, Nat.mul_assoc, ← Nat.pow_add, show 23 - Nat.log2 b + (149 - (23 - Nat.log2 b)) = 149 by omega]
    exact Nat.le_mul_of_pos_left _ hb
  · rw [show (-((23 - Nat.log2 b : Nat) : Int) + 149).toNat = 149 - (23 - Nat.log2 b) by omega, Nat.mul_assoc, ← Nat.pow_add, show 23 - Nat.log2 b + (149 - (23 - Nat.log2 b)) = 149 by omega, show (160 : Nat) = 11 + 149 from rfl, Nat.pow_add]
    exact Nat.mul_le_mul_right _ (by omega)
theorem ZM.uniq {x : UInt32} {z z2 : Nat} (h : ZM x z) (h2 : ZM x z2) : z = z2 := by
  obtain ⟨c, q, a1, a2, a3⟩ := h
  obtain ⟨c2, q2, b1, b2, b3⟩ := h2
  rw [a1] at b1
  cases b1
  exact a3.symm.trans b3
/-- a greater percent, a greater range -/
theorem rng_le {b p1 p2 cl : Nat} (hb : 1 ≤ b) (hb2 : b ≤ 2000) (hp1 : 1 ≤ p1) (hp : p1 ≤ p2) (hp2 : p2 ≤ 100) (hc : 1 ≤ cl) (hc2 : cl ≤ 100) : ∃ z1 z2, ZM (rngA (nI b) (nI p1) (nI cl)) z1 ∧ ZM (rngA (nI b) (nI p2) (nI cl)) z2 ∧ z1 ≤ z2 := by
  have a0 := PF_i2f hb hb2
  obtain ⟨z0, h0⟩ := a0.zm
  have P1 : ∀ p, 1 ≤ p → p ≤ 100 → PF (FP.fmul (FP.i2f (nI b)) (FP.i2f (nI p))) 149 167 := fun p h1 h2 => PF_mul (b := 7) a0 (v_i2f p (by omega) (by omega)) h1 (by omega) (by decide) (by decide) (by decide) (by decide) (by decide) (by decide)
  have P2 : ∀ p, 1 ≤ p → p ≤ 100 → PF (FP.fdiv (FP.fmul (FP.i2f (nI b)) (FP.i2f (nI p))) 1120403456) 142 161 := fun p h1 h2 => PF_div (P1 p h1 h2) v_100 (by decide) (by decide) (by decide) (by decide) (by decide) (by decide)
  have P3 : ∀ p, 1 ≤ p → p ≤ 100 → PF (FP.fmul (FP.fdiv (FP.fmul (FP.i2f (nI b)) (FP.i2f (nI p))) 1120403456) (FP.i2f (nI cl))) 142 168 := fun p h1 h2 => PF_mul (b := 7) (P2 p h1 h2) (v_i2f cl (by omega) (by omega)) hc (by omega) (by decide) (by decide) (by decide) (by decide) (by decide) (by decide)
  have P4 : ∀ p, 1 ≤ p → p ≤ 100 → PF (rngA (nI b) (nI p) (nI cl)) 136 163 := fun p h1 h2 => rng_PF hb hb2 h1 h2 hc hc2
  have q1 : p1 ≤ 100 := by omega
  have q2 : 1 ≤ p2 := by omega
  obtain ⟨x1, x2, h1, h2, l1⟩ := zm_le (by decide) (Nat.mul_le_mul_left z0 hp) (zm_mul h0 (v_i2f p1 (by omega) (by omega))) (zm_mul h0 (v_i2f p2 (by omega) (by omega))) (P1 p1 hp1 q1) (P1 p2 q2 hp2)
  obtain ⟨y1, y2, h3, h4, l2⟩ := zm_le (by decide) l1 (zm_div h1 v_100) (zm_div h2 v_100) (P2 p1 hp1 q1) (P2 p2 q2 hp2)
  obtain ⟨w1, w2, h5, h6, l3⟩ := zm_le (by decide) (Nat.mul_le_mul_right cl l2) (zm_mul h3 (v_i2f cl (by omega) (by omega))) (zm_mul h4 (v_i2f cl (by omega) (by omega))) (P3 p1 hp1 q1) (P3 p2 q2 hp2)
  exact zm_le (by decide) l3 (zm_div h5 v_50) (zm_div h6 v_50) (P4 p1 hp1 q1) (P4 p2 q2 hp2)
/-- the double of a float: what it is worth -/
theorem f2d_zm {x : UInt32} {lo hi z : Nat} (h : PF x lo hi) (hz : ZM x z) (hhi : hi ≤ 250) (hlo : 136 ≤ lo) : ∃ c q, NB (FP.f2d x) c q ∧ (lo : Int) - 202 < q ∧ q ≤ (hi : Int) - 201 ∧ c * 2 ^ (q + 1074).toNat = z * 2 ^ 925 := by
  obtain ⟨c', q', n1, n2, n3⟩ := PF_f2d h hhi
  refine ⟨c', q', n1, n2, n3, ?_⟩
  have nn := (FP.Core.notNaN_iff32 x).mpr (fin_nn h.fin)
  obtain ⟨c, q, e1, e2, e3⟩ := hz
  have F := FP.Core.val32_fits x
  rw [e1] at F
  obtain ⟨f1, f2, f3, f4⟩ := F
  have f1 : c < 2 ^ 24 := f1
  rw [qmax_b32] at f3
  obtain ⟨c2, q2, r1, r2⟩ := FP.Core.round_exact FP.Core.good_b64 false (c := c) (q := q) (Nat.lt_of_lt_of_le f1 (by decide)) (by rw [FP.Core.qmin_b64]; omega) (by rw [qmax_b64]; omega)
  have v : FP.Core.val64 (FP.f2d x) = .fin false c2 q2 := by
    rw [FP.f2d_core nn, FP.Core.val64_f2d, e1]
    exact r1
  have v1 := n1.1
  rw [v] at v1
  cases v1
  have F2 := FP.Core.val64_fits (FP.f2d x)
  rw [v] at F2
  have g2 := F2.2.1
  rw [FP.Core.qmin_b64] at g2
  have r2 : c' * 2 ^ (q' - FP.Core.b64.qmin).toNat = c * 2 ^ (q - FP.Core.b64.qmin).toNat := r2
  rw [FP.Core.qmin_b64, show q' - -1074 = q' + 1074 by omega, show (q - -1074).toNat = (q + 149).toNat + 925 by omega, Nat.pow_add, ← Nat.mul_assoc, e3] at r2
  exact r2
theorem v_p23 : FP.Core.val64 4710765210229538816 = .fin false 4503599627370496 (-29) := by decide +kernel
/-- the digits behind the leading one -/
theorem digits_val {y : UInt64} {c : Nat} (h : NB y c (-52)) : (FP.d2i (FP.dmul (FP.dsub y FP.dconst1) 4710765210229538816)).toInt = (((c - 2 ^ 52) / 2 ^ 29 : Nat) : Int) := by
  obtain ⟨h1, h2, h3, _, _⟩ := id h
  have s1 := dsub_nn h.nn nz_one
  have s2 : FP.Core.val64 (FP.Core.dmul (FP.Core.dsub y FP.dconst1) 4710765210229538816) ≠ .nan := dmul_nn s1 nz_p23
  have v1 : FP.Core.val64 (FP.Core.dsub y FP.dconst1) = FP.Core.round FP.Core.b64 (.fin false (c - 2 ^ 52) (-52)) := by
    rw [FP.Core.val64_dsub, h1, v_one]
    have su : FP.Core.sumUnits false c (-52) true 4503599627370496 (-52) (min (-52) (-52)) = ((c - 2 ^ 52 : Nat) : Int) := by
      show (c * 2 ^ ((-52 : Int) - min (-52) (-52)).toNat : Nat) + -((4503599627370496 * 2 ^ ((-52 : Int) - min (-52) (-52)).toNat : Nat) : Int) = _
      rw [show ((-52 : Int) - min (-52) (-52)).toNat = 0 by decide, Nat.pow_zero, Nat.mul_one]
      rw [p52] at h2 ⊢
      omega
    show FP.Core.round FP.Core.b64 (.fin (FP.Core.sumSign false true (FP.Core.sumUnits false c (-52) true 4503599627370496 (-52) (min (-52) (-52)))) (FP.Core.sumUnits false c (-52) true 4503599627370496 (-52) (min (-52) (-52))).natAbs (min (-52) (-52))) = _
    rw [su, Int.natAbs_natCast]
    have sg : FP.Core.sumSign false true ((c - 2 ^ 52 : Nat) : Int) = false := by
      unfold FP.Core.sumSign
      split
      · rfl
      · exact decide_eq_false (by omega)
    rw [sg]
    rfl
  obtain ⟨c1, q1, r1, r2⟩ := FP.Core.round_exact FP.Core.good_b64 false (c := c - 2 ^ 52) (q := -52) (by have : FP.Core.b64.p = 53 := rfl; rw [this]; omega) (by rw [FP.Core.qmin_b64]; omega) (by rw [qmax_b64]; omega)
  rw [r1] at v1
  have F1 := FP.Core.val64_fits (FP.Core.dsub y FP.dconst1)
  rw [v1] at F1
  obtain ⟨f1, f2, f3, f4⟩ := F1
  rw [FP.Core.qmin_b64] at f2
  have r2 : c1 * 2 ^ (q1 - FP.Core.b64.qmin).toNat = (c - 2 ^ 52) * 2 ^ (-52 - FP.Core.b64.qmin).toNat := r2
  rw [FP.Core.qmin_b64, show (-52 - -1074 : Int).toNat = 1022 from rfl] at r2
  have q1le : q1 ≤ -52 ∨ c1 = 0 := by
    by_cases z : c1 = 0
    · exact Or.inr z
    · left
      rcases f4 with f4 | f4
      · rw [FP.Core.qmin_b64] at f4; omega
      · rw [FP.Core.tails_b64] at f4
        apply Int.le_of_not_gt
        intro hq
        have b1 : 2 ^ 52 * 2 ^ 1023 ≤ c1 * 2 ^ (q1 - -1074).toNat := Nat.mul_le_mul f4 (Nat.pow_le_pow_right (by decide) (by omega))
        have b2 : (c - 2 ^ 52) * 2 ^ 1022 < 2 ^ 52 * 2 ^ 1022 := Nat.mul_lt_mul_of_pos_right (by rw [p52] at h2 ⊢; rw [p53] at h3; omega) (Nat.two_pow_pos _)
        rw [r2] at b1
        have b3 : (2 : Nat) ^ 1022 ≤ 2 ^ 1023 := Nat.pow_le_pow_right (by decide) (by decide)
        have b4 : 2 ^ 52 * 2 ^ 1022 ≤ 2 ^ 52 * (2 : Nat) ^ 1023 := Nat.mul_le_mul_left _ b3
        omega
  have v2 : FP.Core.val64 (FP.Core.dmul (FP.Core.dsub y FP.dconst1) 4710765210229538816) = FP.Core.round FP.Core.b64 (.fin false c1 (q1 + 23)) := by
    rw [FP.Core.val64_dmul, v1, v_p23]
    show FP.Core.roundRatio FP.Core.b64 false (c1 * 4503599627370496) 1 (q1 + -29) = FP.Core.roundRatio FP.Core.b64 false c1 1 (q1 + 23)
    refine FP.Core.roundRatio_congr (by decide) (by decide) ?_
    rw [show (q1 + -29 - (q1 + 23)).toNat = 0 by omega, show (q1 + 23 - (q1 + -29)).toNat = 52 by omega, Nat.pow_zero, Nat.mul_one, Nat.mul_one, Nat.mul_one]
    try rfl
  have v3 : FP.Core.sgn (FP.Core.val64 (FP.Core.dmul (FP.Core.dsub y FP.dconst1) 4710765210229538816)) = false ∧ FP.Core.zmag FP.Core.b64 (FP.Core.val64 (FP.Core.dmul (FP.Core.dsub y FP.dconst1) 4710765210229538816)) = (c - 2 ^ 52) * 2 ^ 1045 := by
    rw [v2]
    rcases q1le with hq | hq
    · obtain ⟨c2, q2, k1, k2⟩ := FP.Core.round_exact FP.Core.good_b64 false (c := c1) (q := q1 + 23) f1 (by rw [FP.Core.qmin_b64]; omega) (by rw [qmax_b64]; omega)
      rw [k1]
      refine ⟨rfl, ?_⟩
      show FP.Core.inUnits c2 q2 FP.Core.b64.qmin = _
      rw [k2]
      show c1 * 2 ^ (q1 + 23 - FP.Core.b64.qmin).toNat = _
      rw [FP.Core.qmin_b64, show (q1 + 23 - -1074).toNat = (q1 - -1074).toNat + 23 by omega, Nat.pow_add, ← Nat.mul_assoc, r2, Nat.mul_assoc, ← Nat.pow_add]
    · subst hq
      rw [Nat.zero_mul] at r2
      have z : c - 2 ^ 52 = 0 := by
        rcases Nat.mul_eq_zero.mp r2.symm with z | z
        · exact z
        · exact absurd z (Nat.ne_of_gt (Nat.two_pow_pos _))
      rw [z, Nat.zero_mul]
      exact ⟨rfl, show FP.Core.inUnits 0 _ _ = 0 by unfold FP.Core.inUnits; rw [Nat.zero_mul]⟩
  have I := FP.Core.d2i_val s2
  rw [v3.1, v3.2] at I
  have dv : (c - 2 ^ 52) * 2 ^ 1045 / FP.Core.one64 = (c - 2 ^ 52) / 2 ^ 29 := by
    unfold FP.Core.one64
    rw [show (1074 : Nat) = 29 + 1045 from rfl, Nat.pow_add]
    exact Nat.mul_div_mul_right _ _ (Nat.two_pow_pos _)
  rw [dv] at I
  have small : (c - 2 ^ 52) / 2 ^ 29 < 2 ^ 23 := by
    rw [p52] at h2 ⊢
    rw [p53] at h3
    omega
  have I2 : (FP.Core.d2i (FP.Core.dmul (FP.Core.dsub y FP.dconst1) 4710765210229538816)).toInt = max (-2 ^ 31) (min (2 ^ 31 - 1) (FP.Core.signed false ((c - 2 ^ 52) / 2 ^ 29))) := I
  show (FP.Core.d2i (FP.Core.dmul (FP.Core.dsub y FP.dconst1) 4710765210229538816)).toInt = _
  rw [I2]
  show max (-2 ^ 31) (min (2 ^ 31 - 1) (((c - 2 ^ 52) / 2 ^ 29 : Nat) : Int)) = _
  generalize (c - 2 ^ 52) / 2 ^ 29 = m at small ⊢
  omega
