/-! THE BITS of the share and of the range -/
set_option maxRecDepth 100000 in
theorem v_i2d : ∀ m, m < 1000 → 0 < m → FP.Core.val64 (FP.i2d (nI m)) = .fin false (m * 2 ^ (52 - Nat.log2 m)) (-((52 - Nat.log2 m : Nat) : Int)) := by decide +kernel
theorem share_NB {l p : Nat} (h1 : 1 ≤ l) (h2 : l ≤ p) (h3 : p ≤ 960) : ∃ c q, NB (FP.ddiv (FP.i2d (nI l)) (FP.i2d (nI p))) c q ∧ -63 < q ∧ q ≤ -52 := by
  have t52 : FP.Core.b64.tails = 2 ^ 52 := FP.Core.tails_b64
  have vl := v_i2d l (by omega) (by omega)
  have vp := v_i2d p (by omega) (by omega)
  obtain ⟨j, hj, ej⟩ : ∃ j, j ≤ 52 ∧ 52 - Nat.log2 l = j := ⟨_, by omega, rfl⟩
  obtain ⟨k, hk, ek⟩ : ∃ k, k ≤ 52 ∧ 52 - Nat.log2 p = k := ⟨_, by omega, rfl⟩
  rw [ej] at vl
  rw [ek] at vp
  have pk := Nat.two_pow_pos k
  have pB : 0 < p * 2 ^ k := Nat.mul_pos (by omega) pk
  have v : FP.Core.val64 (FP.ddiv (FP.i2d (nI l)) (FP.i2d (nI p))) = FP.Core.roundRatio FP.Core.b64 false (l * 2 ^ j) (p * 2 ^ k) (-(j : Int) - -(k : Int)) := by
    show FP.Core.val64 (FP.Core.ddiv _ _) = _
    rw [FP.Core.val64_ddiv, vl, vp]
    show (if p * 2 ^ k = 0 then _ else FP.Core.roundRatio FP.Core.b64 false (l * 2 ^ j) (p * 2 ^ k) (-(j : Int) - -(k : Int))) = _
    rw [if_neg (by omega)]
  have fitsV : ∀ z : Nat, 52 ≤ z → z ≤ 1100 → FP.Core.fits FP.Core.b64 (.fin false (2 ^ 52) ((z : Int) - 1126)) := fun z h1 h2 => ⟨by decide, by rw [FP.Core.qmin_b64]; omega, by rw [qmax_b64]; omega, Or.inr (by rw [t52]; exact Nat.le_refl _)⟩
  have zV : ∀ z : Nat, 52 ≤ z → FP.Core.zmag FP.Core.b64 (.fin false (2 ^ 52) ((z : Int) - 1126)) = 2 ^ z := by
    intro z hz
    show 2 ^ 52 * 2 ^ ((z : Int) - 1126 - FP.Core.b64.qmin).toNat = _
    rw [FP.Core.qmin_b64, show ((z : Int) - 1126 - -1074).toNat = z - 52 by omega, ← Nat.pow_add]
    congr 1
    omega
  have eU : FP.Core.inUnits (l * 2 ^ j) (-(j : Int) - -(k : Int)) (-1134) = l * 2 ^ 1134 * 2 ^ k := by
    show l * 2 ^ j * 2 ^ ((-(j : Int) - -(k : Int)) - -1134).toNat = _
    rw [show ((-(j : Int) - -(k : Int)) - -1134).toNat = 1134 + k - j by omega, Nat.mul_assoc, ← Nat.pow_add, Nat.mul_assoc, ← Nat.pow_add]
    congr 2
    omega
  have eS : (FP.Core.b64.qmin - -1134).toNat = 60 := by rw [FP.Core.qmin_b64]; rfl
  have G := FP.Core.zmag_roundRatio_ge FP.Core.good_b64 (s := false) (e0 := -1134) (e := -(j : Int) - -(k : Int)) (A := l * 2 ^ j) pB (fitsV 1064 (by decide) (by decide)) (by rw [FP.Core.qmin_b64]; omega) (by omega) (by
    rw [zV 1064 (by decide), eS, eU, ← Nat.mul_assoc]
    refine Nat.mul_le_mul_right _ ?_
    rw [← Nat.pow_add, show (1134 : Nat) = 10 + (1064 + 60) from rfl, Nat.pow_add 2 10, ← Nat.mul_assoc, Nat.mul_comm]
    exact Nat.mul_le_mul_right _ (by omega))
  have H := FP.Core.zmag_roundRatio_le FP.Core.good_b64 (s := false) (e0 := -1134) (e := -(j : Int) - -(k : Int)) (A := l * 2 ^ j) pB (fitsV 1074 (by decide) (by decide)) (fun z => by cases z) (by rw [FP.Core.qmin_b64]; omega) (by omega) (by
    rw [zV 1074 (by decide), eS, eU, ← Nat.mul_assoc]
    refine Nat.mul_le_mul_right _ ?_
    rw [← Nat.pow_add, Nat.mul_comm]
    exact Nat.mul_le_mul_left _ h2)
  rw [zV 1064 (by decide)] at G
  rw [zV 1074 (by decide)] at H
  rcases FP.Core.roundRatio_cases FP.Core.b64 false (l * 2 ^ j) (p * 2 ^ k) (-(j : Int) - -(k : Int)) with ⟨c, q, hc⟩ | hc
  · rw [hc] at G H v
    have z : FP.Core.zmag FP.Core.b64 (.fin false c q) = c * 2 ^ (q + 1074).toNat := by
      show c * 2 ^ (q - FP.Core.b64.qmin).toNat = _
      rw [FP.Core.qmin_b64, show q - -1074 = q + 1074 by omega]
    rw [z] at G H
    obtain ⟨n1, n2, n3⟩ := NB_of v G H (by decide)
    exact ⟨c, q, n1, by omega, by omega⟩
  · rw [hc] at H
    have z : FP.Core.zmag FP.Core.b64 (.inf false) = 2 ^ 52 * 2 ^ 2046 := by decide +kernel
    rw [z, ← Nat.pow_add] at H
    have := (Nat.pow_le_pow_iff_right (by decide : 1 < 2)).mp H
    omega
abbrev one52 : Int64 := 1 <<< ((52 : Int32).toInt64 &&& 63)
abbrev one23 : Int64 := 1 <<< ((23 : Int32).toInt64 &&& 63)
theorem l2d_52 : FP.l2d one52 = 4841369599423283200 := by decide +kernel
theorem l2d_23 : FP.l2d one23 = 4710765210229538816 := by decide +kernel
set_option maxRecDepth 100000 in
def lz (z : Nat) : Int64 := Int64.ofInt (z : Int)
theorem exp52 : ∀ e, e < 1100 → (nI e).toInt64 * one52 = lz e <<< ((52 : Int32).toInt64 &&& 63) := by decide +kernel
theorem lz_m1 (a : Nat) : lz (a + 1) - 1 = lz a := by
  show Int64.ofInt ((a + 1 : Nat) : Int) - Int64.ofInt 1 = Int64.ofInt (a : Int)
  rw [← Int64.ofInt_sub]
  congr 1
  omega
theorem shareL {n : Nat} {v : MdV} : ∀ (d k k2 i e : Nat) (x : UInt64) (c : Nat) (q : Int), NB x c q → q + d = -52 → d < k → d < k2 → i + d < 1023 → e < 1100 →
    ∃ r, F_X0_join_L57 n k 1023 one52 x (nI (e + d)) (nI i) = some r ∧ F_X10_shareBits_L16 n k2 v x (lz (e + d)) = some r := by
  intro d
  induction d with
  | zero =>
    intro k k2 i e x c q h hq hk hk2 hi he
    obtain ⟨k, rfl⟩ : ∃ z, k = z + 1 := ⟨k - 1, by omega⟩
    obtain ⟨k2, rfl⟩ : ∃ z, k2 = z + 1 := ⟨k2 - 1, by omega⟩
    have n1 : ¬ (1023 : Int32) ≤ nI i := by rw [lit, nI_leI (by omega) (by omega)]; omega
    have s1 := dsub_nn h.nn nz_one
    have s2 := dmul_nn s1 nz_p52
    have o := one_ge h (by omega)
    refine ⟨lz e <<< ((52 : Int32).toInt64 &&& 63) + FP.d2l (FP.dmul (FP.dsub x FP.dconst1) 4841369599423283200), ?_, ?_⟩
    · rw [F_X0_join_L57, if_neg n1, if_pos o, l2d_52, nn64_e s1, nn64_e s2, Nat.add_zero, exp52 e he]
    · rw [F_X10_shareBits_L16, if_pos o, nn64_e s1, nn64_e s2, Nat.add_zero]
  | succ d ih =>
    intro k k2 i e x c q h hq hk hk2 hi he
    obtain ⟨k, rfl⟩ : ∃ z, k = z + 1 := ⟨k - 1, by omega⟩
    obtain ⟨k2, rfl⟩ : ∃ z, k2 = z + 1 := ⟨k2 - 1, by omega⟩
    have n1 : ¬ (1023 : Int32) ≤ nI i := by rw [lit, nI_leI (by omega) (by omega)]; omega
    have o := one_lt h (by omega)
    have b := NB_dbl h (by omega)
    obtain ⟨r, g1, g2⟩ := ih k k2 (i + 1) e _ c (q + 1) b (by omega) (by omega) (by omega) (by omega) he
    refine ⟨r, ?_, ?_⟩
    · rw [F_X0_join_L57, if_neg n1, if_neg o, nn64_e b.nn, ← Nat.add_assoc, pk_m1, nI_1]
      exact g1
    · rw [F_X10_shareBits_L16, if_neg o, nn64_e b.nn, ← Nat.add_assoc, lz_m1]
      exact g2
theorem join_22 {n : Nat} {x : UInt64} {c : Nat} {q : Int} {o : Int64} {b : Nat} {e : Int32} (hn : 0 < n) (h : NB x c q) (hq : q < -51) (hb : 0 < b) (hb2 : b < 2 ^ 30) : F_X0_join_L22 n n (nI b) o x e 0 = F_X0_join_L57 n n (nI b) o x e 0 := by
  obtain ⟨n', rfl⟩ : ∃ z, n = z + 1 := ⟨n - 1, by omega⟩
  have n1 : ¬ nI b ≤ 0 := nI_nlE (b := 0) hb (by omega)
  conv => lhs; rw [F_X0_join_L22]
  rw [if_neg n1, if_pos (two_lt h hq)]
theorem op_shareBits {n : Nat} {u : HLV} {v : MdV} (hn : 2000 < n) (h : R u v) : ∃ a, F_X9_shareBits n u = some a ∧ F_X10_shareBits n v = some a := by
  obtain ⟨⟨A, hA, _⟩, _⟩ := h
  obtain ⟨a1, _, a3, _, _, _, _, a8, _, _⟩ := hA
  have p := per_in a8
  have lp : sumL A (A 64) ≤ per A := by unfold per; omega
  obtain ⟨c, q, hx, q1, q2⟩ := share_NB p.2.2.1 lp p.2.1
  have n0 : ¬ nI (per A) = 0 := nI_ne0 (by omega) (by omega)
  obtain ⟨d, hd⟩ : ∃ d : Nat, q + d = -52 := ⟨(-52 - q).toNat, by omega⟩
  obtain ⟨r, g1, g2⟩ := shareL (n := n) (v := v) d n n 0 (1023 - d) _ c q hx hd (by omega) (by omega) (by omega) (by omega)
  rw [show 1023 - d + d = 1023 by omega] at g1 g2
  refine ⟨r, ?_, ?_⟩
  · unfold F_X9_shareBits F_X4_share F_X0_ofDouble F_X0_join
    rw [period_c a3, bnd_some, if_neg n0, bnd_some, a3.2.2.1, nn64_e hx.nn, bnd_some, zero_gt hx, if_pos (show (0 : Int32) < Op.cmpValue (some .gt) .g by decide)]
    show ((F_X0_join_L22 n n (nI 1023) one52 _ (nI 1023) 0).bind _).bind _ = _
    rw [join_22 (by omega) hx (by omega) (by decide) (by decide)]
    rw [show F_X0_join_L57 n n (nI 1023) one52 (FP.ddiv (FP.i2d (nI (sumL A (A 64)))) (FP.i2d (nI (per A)))) (nI 1023) 0 = some r from g1, bnd_some, bnd_some]
  · unfold F_X10_shareBits
    rw [lights_m a1 a8 (by omega), period_m a1 a8 (by omega), bnd_some, bnd_some, nn64_e hx.nn]
    exact g2
/-! the range's bits -/
theorem halfL {n : Nat} {v : MdV} : ∀ (d k k2 i e : Nat) (x : UInt64) (c : Nat) (q : Int), NB x c q → q = -52 + d → d < k → d < k2 → i + d < 127 →
    ∃ y, NB y c (-52) ∧ F_X0_join_L22 n k 127 one23 x (nI e) (nI i) = F_X0_join_L57 n n 127 one23 y (nI (e + d)) 0 ∧ F_X10_rangeBits_L30 n k2 v x (nI e) = F_X10_rangeBits_L50 n n v y (nI (e + d)) := by
  intro d
  induction d with
  | zero =>
    intro k k2 i e x c q h hq hk hk2 hi
    obtain ⟨k, rfl⟩ : ∃ z, k = z + 1 := ⟨k - 1, by omega⟩
    obtain ⟨k2, rfl⟩ : ∃ z, k2 = z + 1 := ⟨k2 - 1, by omega⟩
    have n1 : ¬ (127 : Int32) ≤ nI i := by rw [lit, nI_leI (by omega) (by omega)]; omega
    have hq' : q = -52 := by omega
    subst hq'
    refine ⟨x, h, ?_, ?_⟩
    · rw [F_X0_join_L22, if_neg n1, if_pos (two_lt h (by omega))]
      rfl
    · rw [F_X10_rangeBits_L30, if_pos (two_lt h (by omega))]
      rfl
  | succ d ih =>
    intro k k2 i e x c q h hq hk hk2 hi
    obtain ⟨k, rfl⟩ : ∃ z, k = z + 1 := ⟨k - 1, by omega⟩
    obtain ⟨k2, rfl⟩ : ∃ z, k2 = z + 1 := ⟨k2 - 1, by omega⟩
    have n1 : ¬ (127 : Int32) ≤ nI i := by rw [lit, nI_leI (by omega) (by omega)]; omega
    have b := NB_half h (by omega)
    obtain ⟨y, g0, g1, g2⟩ := ih k k2 (i + 1) (e + 1) _ c (q - 1) b (by omega) (by omega) (by omega) (by omega)
    refine ⟨y, g0, ?_, ?_⟩
    · rw [F_X0_join_L22, if_neg n1, if_neg (two_ge h (by omega)), nn64_e b.nn, nI_1, nI_1, show e + (d + 1) = e + 1 + d by omega]
      exact g1
    · rw [F_X10_rangeBits_L30, if_neg (two_ge h (by omega)), nn64_e b.nn, nI_1, show e + (d + 1) = e + 1 + d by omega]
      exact g2
theorem dblL {n : Nat} {v : MdV} : ∀ (d k k2 i e : Nat) (x : UInt64) (c : Nat) (q : Int), NB x c q → q + d = -52 → d < k → d < k2 → i + d < 127 →
    ∃ y, NB y c (-52) ∧ F_X0_join_L57 n k 127 one23 x (nI (e + d)) (nI i) = some ((nI e).toInt64 * one23 + FP.d2l (FP.dmul (FP.dsub y FP.dconst1) 4710765210229538816)) ∧ F_X10_rangeBits_L50 n k2 v x (nI (e + d)) = some ((nI e <<< (23 &&& 31)) + FP.d2i (FP.dmul (FP.dsub y FP.dconst1) 4710765210229538816)) := by
  intro d
  induction d with
  | zero =>
    intro k k2 i e x c q h hq hk hk2 hi
    obtain ⟨k, rfl⟩ : ∃ z, k = z + 1 := ⟨k - 1, by omega⟩
    obtain ⟨k2, rfl⟩ : ∃ z, k2 = z + 1 := ⟨k2 - 1, by omega⟩
    have n1 : ¬ (127 : Int32) ≤ nI i := by rw [lit, nI_leI (by omega) (by omega)]; omega
    have s1 := dsub_nn h.nn nz_one
    have s2 := dmul_nn s1 nz_p23
    have o := one_ge h (by omega)
    have hq' : q = -52 := by omega
    subst hq'
    refine ⟨x, h, ?_, ?_⟩
    · rw [F_X0_join_L57, if_neg n1, if_pos o, l2d_23, nn64_e s1, nn64_e s2, Nat.add_zero]
    · rw [F_X10_rangeBits_L50, if_pos o, nn64_e s1, nn64_e s2, Nat.add_zero]
  | succ d ih =>
    intro k k2 i e x c q h hq hk hk2 hi
    obtain ⟨k, rfl⟩ : ∃ z, k = z + 1 := ⟨k - 1, by omega⟩
    obtain ⟨k2, rfl⟩ : ∃ z, k2 = z + 1 := ⟨k2 - 1, by omega⟩
    have n1 : ¬ (127 : Int32) ≤ nI i := by rw [lit, nI_leI (by omega) (by omega)]; omega
    have o := one_lt h (by omega)
    have b := NB_dbl h (by omega)
    obtain ⟨y, g0, g1, g2⟩ := ih k k2 (i + 1) e _ c (q + 1) b (by omega) (by omega) (by omega) (by omega)
    refine ⟨y, g0, ?_, ?_⟩
    · rw [F_X0_join_L57, if_neg n1, if_neg o, nn64_e b.nn, ← Nat.add_assoc, pk_m1, nI_1]
      exact g1
    · rw [F_X10_rangeBits_L50, if_neg o, nn64_e b.nn, ← Nat.add_assoc, pk_m1]
      exact g2
theorem NB_bits {y : UInt64} {c : Nat} (h : NB y c (-52)) : y.toNat % 2 ^ 63 < 1024 * 2 ^ 52 := by
  obtain ⟨h1, h2, h3, h4, h5⟩ := h
  have nn : FP.Core.decode FP.Core.b64 y.toNat ≠ .nan := by
    show FP.Core.val64 y ≠ .nan
    rw [h1]
    exact fun z => by cases z
  have sz : y.toNat < 2 * FP.Core.b64.exps * FP.Core.b64.tails := by
    rw [FP.Core.size_b64]
    exact y.toNat_lt
  have E := FP.Core.encode_decode FP.Core.good_b64 y.toNat sz nn
  rw [show FP.Core.decode FP.Core.b64 y.toNat = FP.Core.val64 y from rfl, h1] at E
  have E2 : FP.Core.encode FP.Core.b64 (.fin false c (-52)) = (0 * FP.Core.b64.exps + ((-52 - FP.Core.b64.qmin).toNat + 1)) * FP.Core.b64.tails + (c - FP.Core.b64.tails) := by
    show (if c < FP.Core.b64.tails then FP.Core.assemble FP.Core.b64 false 0 c else FP.Core.assemble FP.Core.b64 false ((-52 - FP.Core.b64.qmin).toNat + 1) (c - FP.Core.b64.tails)) = _
    rw [if_neg (by rw [FP.Core.tails_b64]; omega)]
    rfl
  rw [E2, FP.Core.tails_b64, FP.Core.qmin_b64, Nat.zero_mul, Nat.zero_add, show ((-52 : Int) - -1074).toNat + 1 = 1023 from rfl] at E
  rw [p52] at h2 E ⊢
  rw [p53] at h3
  have : y.toNat % 2 ^ 63 ≤ y.toNat := Nat.mod_le _ _
  omega
theorem one_bits : (FP.dconst1 : UInt64).toNat % 2 ^ 63 < 1024 * 2 ^ 52 := by decide +kernel
theorem p23_bits : (4710765210229538816 : UInt64).toNat % 2 ^ 63 < 1047 * 2 ^ 52 := by decide +kernel
theorem d2i_d2l {y : UInt64} {c : Nat} (h : NB y c (-52)) : (FP.d2l (FP.dmul (FP.dsub y FP.dconst1) 4710765210229538816)).toInt32 = FP.d2i (FP.dmul (FP.dsub y FP.dconst1) 4710765210229538816) := by
  have s1 := dsub_nn h.nn nz_one
  have s2 : FP.Core.val64 (FP.Core.dmul (FP.Core.dsub y FP.dconst1) 4710765210229538816) ≠ .nan := dmul_nn s1 nz_p23
  have b1 := FP.Core.dsub_mag (NB_bits h) one_bits (by decide)
  have b2 := FP.Core.dmul_mag b1 p23_bits (by decide) (by decide)
  have b3 : (FP.Core.dmul (FP.Core.dsub y FP.dconst1) 4710765210229538816).toNat % 2 ^ 63 < 1051 * 2 ^ 52 := b2
  obtain ⟨s, c2, q2, e1, e2⟩ := FP.Core.mag_bits (K := 1051) b3 (by decide)
  have zm : FP.Core.zmag FP.Core.b64 (FP.Core.val64 (FP.Core.dmul (FP.Core.dsub y FP.dconst1) 4710765210229538816)) / FP.Core.one64 < 2 ^ 28 := by
    refine Nat.div_lt_of_lt_mul ?_
    have z : FP.Core.zmag FP.Core.b64 (.fin s c2 q2) = c2 * 2 ^ (q2 - FP.Core.b64.qmin).toNat := rfl
    have e3 : 2 ^ 52 * 2 ^ (1051 - 1) = (2 : Nat) ^ (1074 + 28) := by rw [← Nat.pow_add]
    rw [e1, z]
    unfold FP.Core.one64
    rw [← Nat.pow_add, ← e3]
    exact e2
  have L := FP.Core.d2l_val s2
  have I := FP.Core.d2i_val s2
  generalize FP.Core.zmag FP.Core.b64 (FP.Core.val64 (FP.Core.dmul (FP.Core.dsub y FP.dconst1) 4710765210229538816)) / FP.Core.one64 = m at zm L I
  generalize FP.Core.sgn (FP.Core.val64 (FP.Core.dmul (FP.Core.dsub y FP.dconst1) 4710765210229538816)) = sg at L I
  have sb : -268435456 < FP.Core.signed sg m ∧ FP.Core.signed sg m < 268435456 := by
    have : (2 : Nat) ^ 28 = 268435456 := by decide
    unfold FP.Core.signed
    split <;> omega
  generalize FP.Core.signed sg m = z at sb L I
  have L2 : (FP.Core.d2l (FP.Core.dmul (FP.Core.dsub y FP.dconst1) 4710765210229538816)).toInt = z := by rw [L]; omega
  have I2 : (FP.Core.d2i (FP.Core.dmul (FP.Core.dsub y FP.dconst1) 4710765210229538816)).toInt = z := by rw [I]; omega
  apply Int32.toInt_inj.mp
  show (FP.Core.d2l (FP.Core.dmul (FP.Core.dsub y FP.dconst1) 4710765210229538816)).toInt32.toInt = (FP.Core.d2i (FP.Core.dmul (FP.Core.dsub y FP.dconst1) 4710765210229538816)).toInt
  rw [FP.Core.int64_toInt32 (by omega) (by omega), L2, I2]
set_option maxRecDepth 100000 in
theorem exp23 : ∀ e, e < 300 → ((nI e).toInt64 * one23).toInt32 = nI e <<< (23 &&& 31) := by decide +kernel
theorem op_rangeBits {n : Nat} {u : HLV} {v : MdV} (hn : 2000 < n) (h : R u v) (x : Int32) : ∃ a, F_X9_rangeBits n u x = some a ∧ F_X10_rangeBits n v x = some a := by
  have q0 : ¬ (1 : Int32) = 0 := by decide
  obtain ⟨⟨A, hA, _⟩, _⟩ := h
  obtain ⟨a1, _, _, _, _, _, _, _, a9, _⟩ := id hA
  obtain ⟨i1, i2, i3, i4, i5, i6, i7⟩ := id a9
  unfold F_X9_rangeBits F_X10_rangeBits
  rw [out_s, wi_s, bnd_some, bnd_some]
  rcases arg_n (x := x) (lo := 0) (hi := 3) 0 3 rfl rfl (by decide) (by decide) with q | ⟨col, _, hc, rfl, q⟩
  · rw [if_pos q, if_pos q]
    exact ⟨-1, rfl, rfl⟩
  rw [if_neg q, if_neg q, if_pos rfl, if_neg q0, range_c hA hc, range_m a1 a9 hc, bnd_some, bnd_some]
  have cl0 := nI_tne (n := A 115) (by omega) (by omega)
  obtain ⟨n1, n2, n3, n4⟩ := rng_nn (nI (brA A (A 112))) (pctI col) cl0
  have n5 := f2d_nn n4
  have brl := a9.br (p := A 112) (by omega)
  unfold F_X0_ofFloat F_X0_join
  rw [nn64_e n5, nn64_e n5]
  by_cases z : brA A (A 112) = 0 ∨ col = 0
  · have e : FP.dcmp (FP.f2d (rngA (nI (brA A (A 112))) (pctI col) (nI (A 115)))) FP.dconst0 = some .eq := by
      refine rng_0 ?_ cl0
      rcases z with z | z
      · left; rw [z]; rfl
      · right; rw [z]; rfl
    rw [e, if_neg (show ¬ (0 : Int32) < Op.cmpValue (some .eq) .g by decide), if_pos (show Op.cmpValue (some .eq) .l = 0 by decide)]
    exact ⟨0, rfl, rfl⟩
  · obtain ⟨pc, hp1, hp2, hp⟩ : ∃ pc : Nat, 1 ≤ pc ∧ pc ≤ 100 ∧ pctI col = nI pc := by
      rcases (show col = 1 ∨ col = 2 ∨ col = 3 by omega) with rfl | rfl | rfl
      · exact ⟨100, by decide, by decide, rfl⟩
      · exact ⟨40, by decide, by decide, rfl⟩
      · exact ⟨55, by decide, by decide, rfl⟩
    rw [hp] at n5 ⊢
    obtain ⟨c, q', hx, q1, q2⟩ := PF_f2d (rng_PF (b := brA A (A 112)) (p := pc) (cl := A 115) (by omega) brl hp1 hp2 (by omega) (by omega)) (by decide)
    rw [zero_gt hx, if_pos (show (0 : Int32) < Op.cmpValue (some .gt) .g by decide), if_neg (show ¬ Op.cmpValue (some .gt) .l = 0 by decide)]
    have fin : ∀ (e : Nat) (y : UInt64) (cy : Nat), e < 300 → NB y cy (-52) → ((nI e).toInt64 * one23 + FP.d2l (FP.dmul (FP.dsub y FP.dconst1) 4710765210229538816)).toInt32 = (nI e <<< (23 &&& 31)) + FP.d2i (FP.dmul (FP.dsub y FP.dconst1) 4710765210229538816) := by
      intro e y cy he hy
      rw [Int64.toInt32_add, exp23 e he, d2i_d2l hy]
    by_cases s : q' < -52
    · obtain ⟨d, hd⟩ : ∃ d : Nat, q' + d = -52 := ⟨(-52 - q').toNat, by omega⟩
      obtain ⟨y, g0, g1, g2⟩ := dblL (n := n) (v := v) d n n 0 (127 - d) _ c q' hx hd (by omega) (by omega) (by omega)
      rw [show 127 - d + d = 127 by omega] at g1 g2
      obtain ⟨n', rfl⟩ : ∃ z, n = z + 1 := ⟨n - 1, by omega⟩
      refine ⟨(nI (127 - d) <<< (23 &&& 31)) + FP.d2i (FP.dmul (FP.dsub y FP.dconst1) 4710765210229538816), ?_, ?_⟩
      · show (((F_X0_join_L22 (n' + 1) (n' + 1) (nI 127) one23 _ (nI 127) 0).bind _).bind _) = _
        rw [join_22 (by omega) hx (by omega) (by decide) (by decide)]
        rw [show F_X0_join_L57 (n' + 1) (n' + 1) (nI 127) one23 (FP.f2d (rngA (nI (brA A (A 112))) (nI pc) (nI (A 115)))) (nI 127) 0 = _ from g1, bnd_some, bnd_some, fin _ y c (by omega) g0]
      · rw [F_X10_rangeBits_L30, if_pos (two_lt hx (by omega))]
        exact g2
    · obtain ⟨d, hd⟩ : ∃ d : Nat, q' = -52 + d := ⟨(q' + 52).toNat, by omega⟩
      obtain ⟨y, g0, g1, g2⟩ := halfL (n := n) (v := v) d n n 0 127 _ c q' hx hd (by omega) (by omega) (by omega)
      obtain ⟨y2, k0, k1, k2⟩ := dblL (n := n) (v := v) 0 n n 0 (127 + d) y c (-52) g0 (by omega) (by omega) (by omega) (by omega)
      refine ⟨(nI (127 + d) <<< (23 &&& 31)) + FP.d2i (FP.dmul (FP.dsub y2 FP.dconst1) 4710765210229538816), ?_, ?_⟩
      · show (((F_X0_join_L22 n n 127 one23 _ (nI 127) (nI 0)).bind _).bind _) = _
        rw [g1, show F_X0_join_L57 n n 127 one23 y (nI (127 + d)) 0 = _ from k1, bnd_some, bnd_some, fin _ y2 c (by omega) k0]
      · exact g2.trans k2
