/-! FLOATING POINT: normal numbers, doubled and halved -/
def NB (x : UInt64) (c : Nat) (q : Int) : Prop := FP.Core.val64 x = .fin false c q ∧ 2 ^ 52 ≤ c ∧ c < 2 ^ 53 ∧ -1074 ≤ q ∧ q ≤ 971
theorem qmax_b64 : FP.Core.b64.qmax = 971 := by decide
theorem qmax_b32 : FP.Core.b32.qmax = 104 := by decide
theorem p52 : (2 : Nat) ^ 52 = 4503599627370496 := by decide
theorem p53 : (2 : Nat) ^ 53 = 9007199254740992 := by decide
theorem v_two : FP.Core.val64 4611686018427387904 = .fin false 4503599627370496 (-51) := by decide +kernel
theorem v_one : FP.Core.val64 FP.dconst1 = .fin false 4503599627370496 (-52) := by decide +kernel
theorem NB.nz {x : UInt64} {c : Nat} {q : Int} (h : NB x c q) : dnz x := ⟨false, c, q, h.1, fun e => by have := h.2.1; rw [p52] at this; omega⟩
theorem NB.nn {x : UInt64} {c : Nat} {q : Int} (h : NB x c q) : dnn x := by
  show FP.Core.val64 x ≠ .nan
  rw [h.1]
  exact fun z => by cases z
theorem NB_dbl {x : UInt64} {c : Nat} {q : Int} (h : NB x c q) (hq : q ≤ 970) : NB (FP.dmul x 4611686018427387904) c (q + 1) := by
  obtain ⟨h1, h2, h3, h4, h5⟩ := h
  refine ⟨?_, h2, h3, by omega, by omega⟩
  show FP.Core.val64 (FP.Core.dmul x 4611686018427387904) = _
  rw [FP.Core.val64_dmul, h1, v_two]
  show FP.Core.roundRatio FP.Core.b64 false (c * 4503599627370496) 1 (q + -51) = _
  refine FP.Core.roundRatio_exact FP.Core.good_b64 (by decide) ⟨h3, by rw [FP.Core.qmin_b64]; omega, by rw [qmax_b64]; omega, Or.inr h2⟩ ?_
  rw [show (q + -51 - (q + 1)).toNat = 0 by omega, show (q + 1 - (q + -51)).toNat = 52 by omega, p52, Nat.pow_zero]
  omega
theorem NB_half {x : UInt64} {c : Nat} {q : Int} (h : NB x c q) (hq : -1073 ≤ q) : NB (FP.ddiv x 4611686018427387904) c (q - 1) := by
  obtain ⟨h1, h2, h3, h4, h5⟩ := h
  refine ⟨?_, h2, h3, by omega, by omega⟩
  show FP.Core.val64 (FP.Core.ddiv x 4611686018427387904) = _
  rw [FP.Core.val64_ddiv, h1, v_two]
  show FP.Core.roundRatio FP.Core.b64 false c 4503599627370496 (q - -51) = _
  refine FP.Core.roundRatio_exact FP.Core.good_b64 (by decide) ⟨h3, by rw [FP.Core.qmin_b64]; omega, by rw [qmax_b64]; omega, Or.inr h2⟩ ?_
  rw [show (q - -51 - (q - 1)).toNat = 52 by omega, show (q - 1 - (q - -51)).toNat = 0 by omega, p52, Nat.pow_zero]
  omega
theorem ordN {x y : UInt64} {c : Nat} {q r : Int} (h : NB x c q) (hy : FP.Core.val64 y = .fin false 4503599627370496 r) : (q < r → FP.dcmp x y = some .lt) ∧ (r ≤ q → FP.dcmp x y = some .gt ∨ FP.dcmp x y = some .eq) := by
  obtain ⟨h1, h2, h3, h4, h5⟩ := h
  rw [p52] at h2
  rw [p53] at h3
  have e : FP.dcmp x y = some (compare ((c * 2 ^ (q - min q r).toNat : Nat) : Int) ((4503599627370496 * 2 ^ (r - min q r).toNat : Nat) : Int)) := by
    show FP.Core.order (FP.Core.val64 x) (FP.Core.val64 y) = _
    rw [h1, hy]
    rfl
  rw [e]
  refine ⟨fun hl => ?_, fun hl => ?_⟩
  · rw [show min q r = q by omega, show (q - q).toNat = 0 by omega]
    obtain ⟨k, hk⟩ : ∃ k, (r - q).toNat = k + 1 := ⟨(r - q).toNat - 1, by omega⟩
    rw [hk, Nat.pow_succ, Nat.pow_zero]
    have := Nat.two_pow_pos k
    exact congrArg some ((FP.Core.compare_lt_iff _ _).mpr (by omega))
  · rw [show min q r = r by omega, show (r - r).toNat = 0 by omega, Nat.pow_zero]
    have p := Nat.two_pow_pos (q - r).toNat
    have le : c * 1 ≤ c * 2 ^ (q - r).toNat := Nat.mul_le_mul_left c p
    generalize c * 2 ^ (q - r).toNat = V at le
    by_cases g : 4503599627370496 < V
    · left
      exact congrArg some ((FP.Core.compare_gt_iff _ _).mpr (by omega))
    · right
      exact congrArg some ((FP.Core.compare_eq_iff _ _).mpr (by omega))
theorem cmp_g {o : Option Ordering} : (o = some .lt → ¬ 0 ≤ Op.cmpValue o .g) ∧ (o = some .gt ∨ o = some .eq → 0 ≤ Op.cmpValue o .g) := by
  rcases o with _ | (_ | _ | _) <;> decide
theorem cmp_l {o : Option Ordering} : (o = some .lt → Op.cmpValue o .l < 0) ∧ (o = some .gt ∨ o = some .eq → ¬ Op.cmpValue o .l < 0) := by
  rcases o with _ | (_ | _ | _) <;> decide
theorem one_lt {x : UInt64} {c : Nat} {q : Int} (h : NB x c q) (hq : q < -52) : ¬ 0 ≤ Op.cmpValue (FP.dcmp x FP.dconst1) .g := cmp_g.1 ((ordN h v_one).1 hq)
theorem one_ge {x : UInt64} {c : Nat} {q : Int} (h : NB x c q) (hq : -52 ≤ q) : 0 ≤ Op.cmpValue (FP.dcmp x FP.dconst1) .g := cmp_g.2 ((ordN h v_one).2 hq)
theorem two_lt {x : UInt64} {c : Nat} {q : Int} (h : NB x c q) (hq : q < -51) : Op.cmpValue (FP.dcmp x 4611686018427387904) .l < 0 := cmp_l.1 ((ordN h v_two).1 hq)
theorem two_ge {x : UInt64} {c : Nat} {q : Int} (h : NB x c q) (hq : -51 ≤ q) : ¬ Op.cmpValue (FP.dcmp x 4611686018427387904) .l < 0 := cmp_l.2 ((ordN h v_two).2 hq)
theorem zero_gt {x : UInt64} {c : Nat} {q : Int} (h : NB x c q) : FP.dcmp x FP.dconst0 = some .gt := by
  obtain ⟨h1, h2, h3, h4, h5⟩ := h
  rw [p52] at h2
  show FP.Core.order (FP.Core.val64 x) (FP.Core.val64 0) = _
  rw [h1, FP.Core.val64_zero]
  show some (compare ((c * 2 ^ (q - min q FP.Core.b64.qmin).toNat : Nat) : Int) ((0 * 2 ^ (FP.Core.b64.qmin - min q FP.Core.b64.qmin).toNat : Nat) : Int)) = _
  have p := Nat.two_pow_pos (q - min q FP.Core.b64.qmin).toNat
  have le : c * 1 ≤ c * 2 ^ (q - min q FP.Core.b64.qmin).toNat := Nat.mul_le_mul_left c p
  rw [Nat.zero_mul]
  generalize c * 2 ^ (q - min q FP.Core.b64.qmin).toNat = V at le
  exact congrArg some ((FP.Core.compare_gt_iff _ _).mpr (by omega))
/-- a number between two powers is a normal one -/
theorem NB_of {x : UInt64} {c lo hi : Nat} {q : Int} (h : FP.Core.val64 x = .fin false c q) (h1 : 2 ^ lo ≤ c * 2 ^ (q + 1074).toNat) (h2 : c * 2 ^ (q + 1074).toNat ≤ 2 ^ hi) (h53 : 53 ≤ lo) : NB x c q ∧ (lo : Int) - 53 < q + 1074 ∧ q + 1074 ≤ (hi : Int) - 52 := by
  have f := FP.Core.val64_fits x
  rw [h] at f
  obtain ⟨f1, f2, f3, f4⟩ := f
  have f1 : c < 2 ^ 53 := f1
  rw [FP.Core.qmin_b64] at f2 f4
  rw [qmax_b64] at f3
  obtain ⟨E, hE⟩ : ∃ E : Nat, q = (E : Int) - 1074 := ⟨(q + 1074).toNat, by omega⟩
  rw [show (q + 1074).toNat = E by omega] at h1 h2
  have big : 2 ^ 52 ≤ c := by
    rcases f4 with f4 | f4
    · exfalso
      rw [show E = 0 by omega, Nat.pow_zero, Nat.mul_one] at h1
      have := Nat.pow_le_pow_right (show 0 < 2 by decide) h53
      omega
    · exact f4
  have a1 : 2 ^ lo < 2 ^ (53 + E) := by
    rw [Nat.pow_add]
    exact Nat.lt_of_le_of_lt h1 (Nat.mul_lt_mul_of_pos_right f1 (Nat.two_pow_pos E))
  have a2 : 2 ^ (52 + E) ≤ 2 ^ hi := by
    rw [Nat.pow_add]
    exact Nat.le_trans (Nat.mul_le_mul_right _ big) h2
  have b1 := (Nat.pow_lt_pow_iff_right (by decide : 1 < 2)).mp a1
  have b2 := (Nat.pow_le_pow_iff_right (by decide : 1 < 2)).mp a2
  exact ⟨⟨h, big, f1, f2, f3⟩, by omega, by omega⟩
/-- a float between two powers, in units of its least -/
def PF (x : UInt32) (lo hi : Nat) : Prop := ∃ c q, FP.Core.val32 x = .fin false c q ∧ -149 ≤ q ∧ 2 ^ lo ≤ c * 2 ^ (q + 149).toNat ∧ c * 2 ^ (q + 149).toNat ≤ 2 ^ hi
theorem PF.fin {x : UInt32} {lo hi : Nat} (h : PF x lo hi) : FP.Core.FFin x := by
  obtain ⟨c, q, h, _⟩ := h
  exact ⟨false, c, q, h⟩
/-- what rounds to a float between two powers -/
theorem PF_round {x : UInt32} {A B lo hi s : Nat} {e : Int} (h : FP.Core.val32 x = FP.Core.roundRatio FP.Core.b32 false A B e) (hB : 0 < B) (he : -149 - (s : Int) ≤ e) (h23 : 23 ≤ lo) (hlo : lo ≤ 270) (h24 : 23 ≤ hi) (hhi : hi ≤ 270)
    (h1 : 2 ^ lo * 2 ^ s * B ≤ A * 2 ^ (e + 149 + s).toNat) (h2 : A * 2 ^ (e + 149 + s).toNat ≤ 2 ^ hi * 2 ^ s * B) : PF x lo hi := by
  have t23 : FP.Core.b32.tails = 2 ^ 23 := FP.Core.tails_b32
  have fitsV : ∀ k : Nat, 23 ≤ k → k ≤ 270 → FP.Core.fits FP.Core.b32 (.fin false (2 ^ 23) ((k : Int) - 172)) := fun k h1 h2 => ⟨by decide, by rw [FP.Core.qmin_b32]; omega, by rw [qmax_b32]; omega, Or.inr (by rw [t23]; exact Nat.le_refl _)⟩
  have zV : ∀ k : Nat, 23 ≤ k → FP.Core.zmag FP.Core.b32 (.fin false (2 ^ 23) ((k : Int) - 172)) = 2 ^ k := by
    intro k hk
    show 2 ^ 23 * 2 ^ ((k : Int) - 172 - FP.Core.b32.qmin).toNat = _
    rw [FP.Core.qmin_b32, show ((k : Int) - 172 - -149).toNat = k - 23 by omega, ← Nat.pow_add]
    congr 1
    omega
  have eU : FP.Core.inUnits A e (-149 - (s : Int)) = A * 2 ^ (e + 149 + s).toNat := by
    show A * 2 ^ (e - (-149 - (s : Int))).toNat = _
    rw [show e - (-149 - (s : Int)) = e + 149 + s by omega]
  have eS : (FP.Core.b32.qmin - (-149 - (s : Int))).toNat = s := by rw [FP.Core.qmin_b32]; omega
  have G := FP.Core.zmag_roundRatio_ge FP.Core.good_b32 (s := false) (e0 := -149 - (s : Int)) hB (fitsV lo h23 hlo) (by rw [FP.Core.qmin_b32]; omega) he (by rw [zV lo h23, eS, eU]; exact h1)
  have H := FP.Core.zmag_roundRatio_le FP.Core.good_b32 (s := false) (e0 := -149 - (s : Int)) hB (fitsV hi h24 hhi) (fun z => by cases z) (by rw [FP.Core.qmin_b32]; omega) he (by rw [zV hi h24, eS, eU]; exact h2)
  rw [zV lo h23] at G
  rw [zV hi h24] at H
  have F := FP.Core.val32_fits x
  rcases FP.Core.roundRatio_cases FP.Core.b32 false A B e with ⟨c, q, hc⟩ | hc
  · rw [hc] at G H h
    rw [h] at F
    have fq := F.2.1
    rw [FP.Core.qmin_b32] at fq
    have z : FP.Core.zmag FP.Core.b32 (.fin false c q) = c * 2 ^ (q + 149).toNat := by
      show c * 2 ^ (q - FP.Core.b32.qmin).toNat = _
      rw [FP.Core.qmin_b32, show q - -149 = q + 149 by omega]
    rw [z] at G H
    exact ⟨c, q, h, fq, G, H⟩
  · rw [hc] at H
    have z : FP.Core.zmag FP.Core.b32 (.inf false) = 2 ^ 277 := by decide +kernel
    rw [z] at H
    have := (Nat.pow_le_pow_iff_right (by decide : 1 < 2)).mp H
    omega
/-- a product with a whole number -/
theorem PF_mul {x y : UInt32} {lo hi lo' hi' m k b : Nat} (h : PF x lo hi) (hy : FP.Core.val32 y = .fin false (m * 2 ^ k) (-(k : Int))) (hm : 1 ≤ m) (hb : m ≤ 2 ^ b) (h1 : lo' ≤ lo) (h2 : hi + b ≤ hi') (h23 : 23 ≤ lo') (h24 : 23 ≤ hi') (h3 : lo' ≤ 270) (h4 : hi' ≤ 270) : PF (FP.fmul x y) lo' hi' := by
  obtain ⟨c, q, e1, e2, e3, e4⟩ := h
  obtain ⟨E, hE⟩ : ∃ E : Nat, q = (E : Int) - 149 := ⟨(q + 149).toNat, by omega⟩
  rw [show (q + 149).toNat = E by omega] at e3 e4
  have v : FP.Core.val32 (FP.fmul x y) = FP.Core.roundRatio FP.Core.b32 false (c * (m * 2 ^ k)) 1 (q + -(k : Int)) := by
    show FP.Core.val32 (FP.Core.fmul x y) = _
    rw [FP.Core.val32_fmul, e1, hy]
    rfl
  refine PF_round (s := k) v (by decide) (by omega) h23 h3 h24 h4 ?_ ?_
  · rw [show (q + -(k : Int) + 149 + k).toNat = E by omega, Nat.mul_one]
    have a : 2 ^ lo' ≤ c * 2 ^ E := Nat.le_trans (Nat.pow_le_pow_right (by decide) h1) e3
    calc 2 ^ lo' * 2 ^ k ≤ (c * 2 ^ E) * 2 ^ k := Nat.mul_le_mul_right _ a
      _ ≤ (c * 2 ^ E) * (m * 2 ^ k) := Nat.mul_le_mul_left _ (Nat.le_mul_of_pos_left _ hm)
      _ = c * (m * 2 ^ k) * 2 ^ E := by rw [Nat.mul_assoc, Nat.mul_assoc, Nat.mul_comm (2 ^ E)]
  · rw [show (q + -(k : Int) + 149 + k).toNat = E by omega, Nat.mul_one]
    calc c * (m * 2 ^ k) * 2 ^ E = (c * 2 ^ E) * m * 2 ^ k := by rw [Nat.mul_assoc, Nat.mul_comm (m * 2 ^ k), ← Nat.mul_assoc, ← Nat.mul_assoc]
      _ ≤ 2 ^ hi * 2 ^ b * 2 ^ k := Nat.mul_le_mul_right _ (Nat.mul_le_mul e4 hb)
      _ = 2 ^ (hi + b) * 2 ^ k := by rw [← Nat.pow_add]
      _ ≤ 2 ^ hi' * 2 ^ k := Nat.mul_le_mul_right _ (Nat.pow_le_pow_right (by decide) h2)
/-- a quotient by 100 or 50 -/
theorem PF_div {x y : UInt32} {lo hi lo' hi' r : Nat} (h : PF x lo hi) (hy : FP.Core.val32 y = .fin false 13107200 (-(r : Int))) (h1 : lo' + 24 ≤ lo + r) (h2 : hi + r ≤ hi' + 23) (h23 : 23 ≤ lo') (h24 : 23 ≤ hi') (h3 : lo' ≤ 270) (h4 : hi' ≤ 270) : PF (FP.fdiv x y) lo' hi' := by
  obtain ⟨c, q, e1, e2, e3, e4⟩ := h
  obtain ⟨E, hE⟩ : ∃ E : Nat, q = (E : Int) - 149 := ⟨(q + 149).toNat, by omega⟩
  rw [show (q + 149).toNat = E by omega] at e3 e4
  have v : FP.Core.val32 (FP.fdiv x y) = FP.Core.roundRatio FP.Core.b32 false c 13107200 (q - -(r : Int)) := by
    show FP.Core.val32 (FP.Core.fdiv x y) = _
    rw [FP.Core.val32_fdiv, e1, hy]
    rfl
  refine PF_round (s := 0) v (by decide) (by omega) h23 h3 h24 h4 ?_ ?_
  · rw [show (q - -(r : Int) + 149 + (0 : Nat)).toNat = E + r by omega, Nat.pow_zero, Nat.mul_one]
    calc 2 ^ lo' * 13107200 ≤ 2 ^ lo' * 2 ^ 24 := Nat.mul_le_mul_left _ (by decide)
      _ = 2 ^ (lo' + 24) := by rw [← Nat.pow_add]
      _ ≤ 2 ^ (lo + r) := Nat.pow_le_pow_right (by decide) h1
      _ = 2 ^ lo * 2 ^ r := by rw [Nat.pow_add]
      _ ≤ c * 2 ^ E * 2 ^ r := Nat.mul_le_mul_right _ e3
      _ = c * 2 ^ (E + r) := by rw [Nat.mul_assoc, ← Nat.pow_add]
  · rw [show (q - -(r : Int) + 149 + (0 : Nat)).toNat = E + r by omega, Nat.pow_zero, Nat.mul_one]
    calc c * 2 ^ (E + r) = c * 2 ^ E * 2 ^ r := by rw [Nat.mul_assoc, ← Nat.pow_add]
      _ ≤ 2 ^ hi * 2 ^ r := Nat.mul_le_mul_right _ e4
      _ = 2 ^ (hi + r) := by rw [← Nat.pow_add]
      _ ≤ 2 ^ (hi' + 23) := Nat.pow_le_pow_right (by decide) h2
      _ = 2 ^ hi' * 2 ^ 23 := by rw [Nat.pow_add]
      _ ≤ 2 ^ hi' * 13107200 := Nat.mul_le_mul_left _ (by decide)
/-- such a float as a double -/
theorem PF_f2d {x : UInt32} {lo hi : Nat} (h : PF x lo hi) (hhi : hi ≤ 250) : ∃ c q, NB (FP.f2d x) c q ∧ (lo : Int) - 202 < q ∧ q ≤ (hi : Int) - 201 := by
  have nn := (FP.Core.notNaN_iff32 x).mpr (fin_nn h.fin)
  obtain ⟨c, q, e1, e2, e3, e4⟩ := h
  have F := FP.Core.val32_fits x
  rw [e1] at F
  obtain ⟨f1, f2, f3, f4⟩ := F
  have f1 : c < 2 ^ 24 := f1
  rw [qmax_b32] at f3
  obtain ⟨c', q', r1, r2⟩ := FP.Core.round_exact FP.Core.good_b64 false (c := c) (q := q) (Nat.lt_of_lt_of_le f1 (by decide)) (by rw [FP.Core.qmin_b64]; omega) (by rw [qmax_b64]; omega)
  have v : FP.Core.val64 (FP.f2d x) = .fin false c' q' := by
    rw [FP.f2d_core nn, FP.Core.val64_f2d, e1]
    exact r1
  have F2 := FP.Core.val64_fits (FP.f2d x)
  rw [v] at F2
  have g2 := F2.2.1
  rw [FP.Core.qmin_b64] at g2
  have u : c' * 2 ^ (q' + 1074).toNat = c * 2 ^ (q + 149).toNat * 2 ^ 925 := by
    have r2 : c' * 2 ^ (q' - FP.Core.b64.qmin).toNat = c * 2 ^ (q - FP.Core.b64.qmin).toNat := r2
    rw [FP.Core.qmin_b64, show q' - -1074 = q' + 1074 by omega, show (q - -1074).toNat = (q + 149).toNat + 925 by omega, Nat.pow_add, ← Nat.mul_assoc] at r2
    exact r2
  have l1 : 2 ^ (lo + 925) ≤ c' * 2 ^ (q' + 1074).toNat := by
    rw [u, Nat.pow_add]
    exact Nat.mul_le_mul_right _ e3
  have l2 : c' * 2 ^ (q' + 1074).toNat ≤ 2 ^ (hi + 925) := by
    rw [u, Nat.pow_add]
    exact Nat.mul_le_mul_right _ e4
  obtain ⟨n1, n2, n3⟩ := NB_of v l1 l2 (by omega)
  exact ⟨c', q', n1, by omega, by omega⟩
theorem v_100 : FP.Core.val32 1120403456 = .fin false 13107200 (-((17 : Nat) : Int)) := by decide +kernel
theorem v_50 : FP.Core.val32 1112014848 = .fin false 13107200 (-((18 : Nat) : Int)) := by decide +kernel
set_option maxRecDepth 100000 in
theorem v_i2f : ∀ m, m < 2001 → 0 < m → FP.Core.val32 (FP.i2f (nI m)) = .fin false (m * 2 ^ (23 - Nat.log2 m)) (-((23 - Nat.log2 m : Nat) : Int)) := by decide +kernel
theorem rng_PF {b p cl : Nat} (hb : 1 ≤ b) (hb2 : b ≤ 2000) (hp : 1 ≤ p) (hp2 : p ≤ 100) (hc : 1 ≤ cl) (hc2 : cl ≤ 100) : PF (rngA (nI b) (nI p) (nI cl)) 136 163 := by
  have a0 : PF (FP.i2f (nI b)) 149 160 := by
    have v := v_i2f b (by omega) (by omega)
    have L : Nat.log2 b ≤ 10 := by
      have := (Nat.log2_lt (show b ≠ 0 by omega)).mpr (show b < 2 ^ 11 by omega)
      omega
    refine ⟨_, _, v, by omega, ?_, ?_⟩
    · rw [show (-((23 - Nat.log2 b : Nat) : Int) + 149).toNat = 149 - (23 - Nat.log2 b) by omega, Nat.mul_assoc, ← Nat.pow_add, show 23 - Nat.log2 b + (149 - (23 - Nat.log2 b)) = 149 by omega]
      exact Nat.le_mul_of_pos_left _ hb
    · rw [show (-((23 - Nat.log2 b : Nat) : Int) + 149).toNat = 149 - (23 - Nat.log2 b) by omega, Nat.mul_assoc, ← Nat.pow_add, show 23 - Nat.log2 b + (149 - (23 - Nat.log2 b)) = 149 by omega, show (160 : Nat) = 11 + 149 from rfl, Nat.pow_add]
      exact Nat.mul_le_mul_right _ (by omega)
  have a1 : PF (FP.fmul (FP.i2f (nI b)) (FP.i2f (nI p))) 149 167 := PF_mul (b := 7) a0 (v_i2f p (by omega) (by omega)) hp (by omega) (by decide) (by decide) (by decide) (by decide) (by decide) (by decide)
  have a2 : PF (FP.fdiv (FP.fmul (FP.i2f (nI b)) (FP.i2f (nI p))) 1120403456) 142 161 := PF_div a1 v_100 (by decide) (by decide) (by decide) (by decide) (by decide) (by decide)
  have a3 : PF (FP.fmul (FP.fdiv (FP.fmul (FP.i2f (nI b)) (FP.i2f (nI p))) 1120403456) (FP.i2f (nI cl))) 142 168 := PF_mul (b := 7) a2 (v_i2f cl (by omega) (by omega)) hc (by omega) (by decide) (by decide) (by decide) (by decide) (by decide) (by decide)
  exact PF_div a3 v_50 (by decide) (by decide) (by decide) (by decide) (by decide) (by decide)
/-- a range of nothing -/
theorem rng_0 {b p cl : Int32} (h : b = 0 ∨ p = 0) (hc : cl.toInt ≠ 0) : FP.dcmp (FP.f2d (rngA b p cl)) FP.dconst0 = some .eq := by
  have z0 : FP.Core.FZero (FP.i2f 0) := ⟨false, FP.Core.b32.qmin, by decide +kernel⟩
  have m : ∀ x : UInt32, FP.Core.FFin x → ∀ z : UInt32, FP.Core.FZero z → FP.Core.FZero (FP.fmul x z) := fun x hx z hz => FP.Core.fmul_zero hx hz
  have m2 : ∀ x : UInt32, FP.Core.FFin x → ∀ z : UInt32, FP.Core.FZero z → FP.Core.FZero (FP.fmul z x) := fun x hx z hz => FP.Core.fzero_mul hx hz
  have d : ∀ z y : UInt32, fnz y → FP.Core.FZero z → FP.Core.FZero (FP.fdiv z y) := by
    intro z y hy hz
    obtain ⟨s, q, h1⟩ := hz
    obtain ⟨t, dd, r, h2, h3⟩ := hy
    refine ⟨s != t, FP.Core.b32.qmin, ?_⟩
    show FP.Core.val32 (FP.Core.fdiv z y) = _
    rw [FP.Core.val32_fdiv, h1, h2]
    show (if dd = 0 then _ else FP.Core.roundRatio FP.Core.b32 (s != t) 0 dd (q - r)) = _
    rw [if_neg h3]
    rfl
  have a1 : FP.Core.FZero (FP.fmul (FP.i2f b) (FP.i2f p)) := by
    rcases h with rfl | rfl
    · exact m2 _ (i2f_fin p) _ z0
    · exact m _ (i2f_fin b) _ z0
  have a4 : FP.Core.FZero (rngA b p cl) := d _ _ nz_50 (m2 _ (i2f_fin cl) _ (d _ _ nz_100 a1))
  have nn := (FP.Core.notNaN_iff32 (rngA b p cl)).mpr (fin_nn a4.fin)
  obtain ⟨s, q, h1⟩ := a4
  have : FP.Core.DZero (FP.f2d (rngA b p cl)) := by
    refine ⟨s, FP.Core.b64.qmin, ?_⟩
    rw [FP.f2d_core nn, FP.Core.val64_f2d, h1]
    rfl
  exact FP.Core.zero_iff.mpr this
