/-! FLOATING POINT, ahead of all else: what is no NaN -/
abbrev dnn (x : UInt64) : Prop := FP.Core.val64 x ≠ .nan
abbrev fnn (x : UInt32) : Prop := FP.Core.val32 x ≠ .nan
theorem p64_nn {x : UInt64} (h : dnn x) : x &&& 0x7fffffffffffffff ≤ 0x7ff0000000000000 := by
  have h2 := (FP.Core.ne_nan x).mp h
  rw [UInt64.le_iff_toNat_le, UInt64.toNat_and]
  show x.toNat &&& (2 ^ 63 - 1) ≤ 9218868437227405312
  rw [Nat.and_two_pow_sub_one_eq_mod]
  exact h2
theorem p32_nn {x : UInt32} (h : fnn x) : x &&& 0x7fffffff ≤ 0x7f800000 := by
  have h2 := (FP.Core.ne_nan32 x).mp h
  rw [UInt32.le_iff_toNat_le, UInt32.toNat_and]
  show x.toNat &&& (2 ^ 31 - 1) ≤ 2139095040
  rw [Nat.and_two_pow_sub_one_eq_mod]
  exact h2
theorem p_prod {f : FP.Core.Fmt} {x y : FP.Core.Datum} (hx : x ≠ .nan) (hy : ∃ t d r, y = .fin t d r ∧ (d ≠ 0 ∨ ∃ s c q, x = .fin s c q)) : FP.Core.round f (FP.Core.exactProduct x y) ≠ .nan := by
  obtain ⟨t, d, r, rfl, h⟩ := hy
  cases x with
  | nan => exact absurd rfl hx
  | inf s =>
    rcases h with h | ⟨s', c, q, h⟩
    · show FP.Core.round f (if d = 0 then .nan else .inf (s != t)) ≠ .nan
      rw [if_neg h]
      exact fun z => by cases z
    · cases h
  | fin s c q => exact FP.Core.roundRatio_ne_nan _ _ _ _ _
theorem p_sq {f : FP.Core.Fmt} {x : FP.Core.Datum} (hx : x ≠ .nan) : FP.Core.round f (FP.Core.exactProduct x x) ≠ .nan := by
  cases x with
  | nan => exact absurd rfl hx
  | inf s => exact fun z => by cases z
  | fin s c q => exact FP.Core.roundRatio_ne_nan _ _ _ _ _
theorem p_quo {f : FP.Core.Fmt} {x y : FP.Core.Datum} (hx : x ≠ .nan) (hy : ∃ t d r, y = .fin t d r ∧ d ≠ 0) : FP.Core.quotient f x y ≠ .nan := by
  obtain ⟨t, d, r, rfl, h⟩ := hy
  cases x with
  | nan => exact absurd rfl hx
  | inf s => exact fun z => by cases z
  | fin s c q =>
    show (if d = 0 then _ else FP.Core.roundRatio f (s != t) c d (q - r)) ≠ .nan
    rw [if_neg h]
    exact FP.Core.roundRatio_ne_nan _ _ _ _ _
theorem p_dif {f : FP.Core.Fmt} {x y : FP.Core.Datum} (hx : x ≠ .nan) (hy : ∃ t d r, y = .fin t d r) : FP.Core.round f (FP.Core.exactSum x (FP.Core.negate y)) ≠ .nan := by
  obtain ⟨t, d, r, rfl⟩ := hy
  cases x with
  | nan => exact absurd rfl hx
  | inf s => exact fun z => by cases z
  | fin s c q => exact FP.Core.roundRatio_ne_nan _ _ _ _ _
/-- a number other than 0, as its bits are decoded -/
abbrev dnz (b : UInt64) : Prop := ∃ t d r, FP.Core.val64 b = .fin t d r ∧ d ≠ 0
abbrev fnz (b : UInt32) : Prop := ∃ t d r, FP.Core.val32 b = .fin t d r ∧ d ≠ 0
theorem dmul_nn {a b : UInt64} (ha : dnn a) (hb : dnz b) : dnn (FP.dmul a b) := by
  show FP.Core.val64 (FP.Core.dmul a b) ≠ .nan
  rw [FP.Core.val64_dmul]
  obtain ⟨t, d, r, h1, h2⟩ := hb
  exact p_prod ha ⟨t, d, r, h1, Or.inl h2⟩
theorem dsq_nn {a : UInt64} (ha : dnn a) : dnn (FP.dmul a a) := by
  show FP.Core.val64 (FP.Core.dmul a a) ≠ .nan
  rw [FP.Core.val64_dmul]
  exact p_sq ha
theorem ddiv_nn {a b : UInt64} (ha : dnn a) (hb : dnz b) : dnn (FP.ddiv a b) := by
  show FP.Core.val64 (FP.Core.ddiv a b) ≠ .nan
  rw [FP.Core.val64_ddiv]
  exact p_quo ha hb
theorem dsub_nn {a b : UInt64} (ha : dnn a) (hb : dnz b) : dnn (FP.dsub a b) := by
  show FP.Core.val64 (FP.Core.dsub a b) ≠ .nan
  rw [FP.Core.val64_dsub]
  obtain ⟨t, d, r, h1, _⟩ := hb
  exact p_dif ha ⟨t, d, r, h1⟩
theorem fmul_nn {a b : UInt32} (ha : fnn a) (hb : fnz b) : fnn (FP.fmul a b) := by
  show FP.Core.val32 (FP.Core.fmul a b) ≠ .nan
  rw [FP.Core.val32_fmul]
  obtain ⟨t, d, r, h1, h2⟩ := hb
  exact p_prod ha ⟨t, d, r, h1, Or.inl h2⟩
theorem fmul_nn2 {a b : UInt32} (ha : FP.Core.FFin a) (hb : FP.Core.FFin b) : fnn (FP.fmul a b) := by
  show FP.Core.val32 (FP.Core.fmul a b) ≠ .nan
  rw [FP.Core.val32_fmul]
  obtain ⟨s, c, q, h1⟩ := ha
  obtain ⟨t, d, r, h2⟩ := hb
  exact p_prod (by rw [h1]; exact fun z => by cases z) ⟨t, d, r, h2, Or.inr ⟨s, c, q, h1⟩⟩
theorem fdiv_nn {a b : UInt32} (ha : fnn a) (hb : fnz b) : fnn (FP.fdiv a b) := by
  show FP.Core.val32 (FP.Core.fdiv a b) ≠ .nan
  rw [FP.Core.val32_fdiv]
  exact p_quo ha hb
theorem f2d_nn {a : UInt32} (ha : fnn a) : dnn (FP.f2d a) := by
  have h := (FP.Core.notNaN_iff32 a).mpr ha
  refine (FP.Core.notNaN_iff _).mp ?_
  rw [← h]
  exact FP.f2d_nan a
theorem i2f_fin (v : Int32) : FP.Core.FFin (FP.i2f v) := FP.Core.fin_of_lt32 (K := 160) (FP.Core.i2f_mag v) (by decide)
theorem i2d_fin (v : Int32) : FP.Core.DFin (FP.i2d v) := FP.Core.fin_of_lt (K := 1056) (FP.Core.i2d_mag v) (by decide)
theorem i2f_nz {v : Int32} (h : v.toInt ≠ 0) : fnz (FP.i2f v) := by
  obtain ⟨s, c, q, h1⟩ := i2f_fin v
  refine ⟨s, c, q, h1, fun e => ?_⟩
  have z : FP.Core.FZero (FP.i2f v) := ⟨s, q, by rw [h1, e]⟩
  have := (FP.Core.zero_bits232 _).mp z
  have h2 := (FP.Core.i2f_big h).1
  rw [show (FP.i2f v).toNat % 2 ^ 31 = 0 from this] at h2
  omega
theorem i2d_nz {v : Int32} (h : v.toInt ≠ 0) : dnz (FP.i2d v) := by
  obtain ⟨s, c, q, h1⟩ := i2d_fin v
  refine ⟨s, c, q, h1, fun e => ?_⟩
  have z : FP.Core.DZero (FP.i2d v) := ⟨s, q, by rw [h1, e]⟩
  have := (FP.Core.zero_bits2 _).mp z
  have h2 := (FP.Core.i2d_big h).1
  rw [show (FP.i2d v).toNat % 2 ^ 63 = 0 from this] at h2
  omega
theorem nz_100 : fnz 1120403456 := ⟨false, 13107200, -17, by decide +kernel, by decide⟩
theorem nz_50 : fnz 1112014848 := ⟨false, 13107200, -18, by decide +kernel, by decide⟩
theorem nz_two : dnz 4611686018427387904 := ⟨false, 4503599627370496, -51, by decide +kernel, by decide⟩
theorem nz_one : dnz FP.dconst1 := ⟨false, 4503599627370496, -52, by decide +kernel, by decide⟩
theorem nz_p52 : dnz 4841369599423283200 := ⟨false, 4503599627370496, 0, by decide +kernel, by decide⟩
theorem nz_p23 : dnz 4710765210229538816 := ⟨false, 4503599627370496, -29, by decide +kernel, by decide⟩
