/-! SHIPS: the range, what is seen -/
theorem nn32_e {α : Type} {x : UInt32} {a : Option α} (h : fnn x) : nn32 x a = a := by
  unfold nn32
  exact if_pos (p32_nn h)
theorem nn64_e {α : Type} {x : UInt64} {a : Option α} (h : dnn x) : nn64 x a = a := by
  unfold nn64
  exact if_pos (p64_nn h)
theorem fin_nn {x : UInt32} (h : FP.Core.FFin x) : fnn x := by
  obtain ⟨s, c, q, h⟩ := h
  show FP.Core.val32 x ≠ .nan
  rw [h]
  exact fun z => by cases z
theorem finD_nn {x : UInt64} (h : FP.Core.DFin x) : dnn x := by
  obtain ⟨s, c, q, h⟩ := h
  show FP.Core.val64 x ≠ .nan
  rw [h]
  exact fun z => by cases z
def rngA (b pc cl : Int32) : UInt32 := FP.fdiv (FP.fmul (FP.fdiv (FP.fmul (FP.i2f b) (FP.i2f pc)) 1120403456) (FP.i2f cl)) 1112014848
theorem rng_nn (b pc : Int32) {cl : Int32} (h : cl.toInt ≠ 0) : fnn (FP.fmul (FP.i2f b) (FP.i2f pc)) ∧ fnn (FP.fdiv (FP.fmul (FP.i2f b) (FP.i2f pc)) 1120403456) ∧ fnn (FP.fmul (FP.fdiv (FP.fmul (FP.i2f b) (FP.i2f pc)) 1120403456) (FP.i2f cl)) ∧ fnn (rngA b pc cl) := by
  have a := fmul_nn2 (i2f_fin b) (i2f_fin pc)
  have c := fdiv_nn a nz_100
  have d := fmul_nn c (i2f_nz h)
  exact ⟨a, c, d, fdiv_nn d nz_50⟩
def pctI (c : Nat) : Int32 := if c = 0 then 0 else if c = 1 then 100 else if c = 2 then 40 else 55
theorem pct_c {c : Nat} (h : c ≤ 3) : F_X7_percentOf (nI c) = some (pctI c) := by
  rcases (show c = 0 ∨ c = 1 ∨ c = 2 ∨ c = 3 by omega) with rfl | rfl | rfl | rfl <;> decide
theorem pct_m {c : Nat} (h : c ≤ 3) : F_X10_percent (nI c) = some (pctI c) := by
  rcases (show c = 0 ∨ c = 1 ∨ c = 2 ∨ c = 3 by omega) with rfl | rfl | rfl | rfl <;> decide
theorem nI_tne {n : Nat} (h0 : 0 < n) (h : n < 2 ^ 31) : (nI n).toInt ≠ 0 := by
  rw [nI_toInt h]
  omega
theorem range_c {M : Nat} {S : StV} {w : Nat → Int32} {A : Nat → Nat} (h : RA M S w A) {c : Nat} (hc : c ≤ 3) : F_X7_rangeOf S (nI c) = some (rngA (nI (brA A (A 112))) (pctI c) (nI (A 115))) := by
  obtain ⟨a1, a2, a3, a4, a5, a6, a7, a8, a9, a10⟩ := h
  obtain ⟨i1, i2, i3, i4, i5, i6, i7⟩ := id a9
  obtain ⟨n1, n2, n3, n4⟩ := rng_nn (nI (brA A (A 112))) (pctI c) (cl := nI (A 115)) (nI_tne (by omega) (by omega))
  unfold F_X7_rangeOf
  rw [a4.2.2.1, bright_c a4 a9 (by omega), bnd_some, pct_c hc, bnd_some, a5.2.2.1, nn32_e n1, nn32_e n2, nn32_e n3]
  exact nn32_e n4
theorem range_m {v : MdV} {A : Nat → Nat} (a1 : nIf (Md_now v) A) (a9 : ICh A) {c : Nat} (hc : c ≤ 3) : F_X10_range v (nI c) = some (rngA (nI (brA A (A 112))) (pctI c) (nI (A 115))) := by
  obtain ⟨i1, i2, i3, i4, i5, i6, i7⟩ := id a9
  obtain ⟨n1, n2, n3, n4⟩ := rng_nn (nI (brA A (A 112))) (pctI c) (cl := nI (A 115)) (nI_tne (by omega) (by omega))
  have k112 : ∀ {α : Type} {a : Option α}, chk 112 289 a = a := fun {α} {a} => chk_nI (j := 112) (by decide) (by decide)
  have k115 : ∀ {α : Type} {a : Option α}, chk 115 289 a = a := fun {α} {a} => chk_nI (j := 115) (by decide) (by decide)
  have c112 : (112 : Int32).toNatClampNeg = 112 := rfl
  have c115 : (115 : Int32).toNatClampNeg = 115 := rfl
  unfold F_X10_range
  rw [k112, c112, a1 112 (by decide), bright_m a1 a9 (by omega), bnd_some, pct_m hc, bnd_some, nn32_e n1, nn32_e n2, k115, c115, a1 115 (by decide), nn32_e n3]
  exact nn32_e n4
theorem inRange_c {M : Nat} {S : StV} {w : Nat → Int32} {A : Nat → Nat} (h : RA M S w A) {c : Nat} (hc : c ≤ 3) (x y : Int32) : F_X7_isInRange S x y (nI c) = if 0 < (Op.cmpValue (FP.dcmp (FP.i2d ((x * x) + (y * y))) (FP.dmul (FP.f2d (rngA (nI (brA A (A 112))) (pctI c) (nI (A 115)))) (FP.f2d (rngA (nI (brA A (A 112))) (pctI c) (nI (A 115)))))) .g) then some 0 else some 1 := by
  obtain ⟨i1, i2, i3, i4, i5, i6, i7⟩ := h.2.2.2.2.2.2.2.2.1
  obtain ⟨n1, n2, n3, n4⟩ := rng_nn (nI (brA A (A 112))) (pctI c) (cl := nI (A 115)) (nI_tne (by omega) (by omega))
  have n5 := f2d_nn n4
  unfold F_X7_isInRange
  rw [range_c h hc, bnd_some, nn64_e n5, nn64_e n5, nn64_e (dsq_nn n5)]
theorem shown_s {n M : Nat} {S : StV} {v : MdV} {A : Nat → Nat} {x y : Int} {k : Nat} (hn : 64 < n) (h : RA M S (Md_now v) A) (hs : RSin v) (hx : ok4 x) (hy : ok4 y) (k1 : 1 ≤ k) (k4 : k ≤ 4) :
    ∃ col : Nat, col ≤ 3 ∧ F_X7_shownAt n S (zI x) (zI y) (nI (k - 1)) = some (nI col) ∧ F_X10_seenAt n v (zI x) (zI y) (nI k) = some (nI col) ∧ (col = 0 ∨ ∃ j, j < 64 ∧ dirI x y = nI j ∧ col = A j) := by
  obtain ⟨z1, z2, _, _⟩ := nI_lit1 k1 k4
  have main : ¬ (x = 0 ∧ y = 0) → ∃ col : Nat, col ≤ 3 ∧ F_X7_shownAt_J14 n S (zI x) (zI y) = some (nI col) ∧ F_X10_seenAt_J8 n v (zI x) (zI y) (nI 1) = some (nI col) ∧ (col = 0 ∨ ∃ j, j < 64 ∧ dirI x y = nI j ∧ col = A j) := by
    intro hne
    obtain ⟨j, hj, ej⟩ := dirI_some hne
    have hA := h
    obtain ⟨a1, a2, a3, a4, a5, a6, a7, a8, a9, a10⟩ := h
    have h3 := a7 j hj
    obtain ⟨i1, i2, i3, i4, i5, i6, i7⟩ := id a9
    obtain ⟨n1, n2, n3, n4⟩ := rng_nn (nI (brA A (A 112))) (pctI (A j)) (cl := nI (A 115)) (nI_tne (by omega) (by omega))
    have n5 := f2d_nn n4
    unfold F_X7_shownAt_J14 F_X10_seenAt_J8
    rw [byQuarter_s (by omega) hx hy, directionOf_s hn hs hx hy, ej, bnd_some, bnd_some, colorAt_s a2 (by omega), bnd_some, Nat.mod_eq_of_lt hj, inRange_c hA h3, if_pos (show nI 1 = 1 from rfl), chk_nI (by omega) (by decide), nI_clamp (by omega), a1 j (by omega), range_m a1 a9 h3, bnd_some, nn64_e n5, nn64_e (dsq_nn n5)]
    by_cases c0 : A j = 0
    · rw [c0, if_pos (show nI 0 ≤ 0 by decide)]
      refine ⟨0, by decide, ?_, rfl, Or.inl rfl⟩
      split <;> rfl
    · have : ¬ nI (A j) ≤ 0 := nI_nlE (b := 0) (by omega) (by omega)
      rw [if_neg this]
      by_cases c1 : 0 < (Op.cmpValue (FP.dcmp (FP.i2d ((zI x * zI x) + (zI y * zI y))) (FP.dmul (FP.f2d (rngA (nI (brA A (A 112))) (pctI (A j)) (nI (A 115)))) (FP.f2d (rngA (nI (brA A (A 112))) (pctI (A j)) (nI (A 115)))))) .g)
      · rw [if_pos c1, if_pos c1]
        exact ⟨0, by decide, rfl, rfl, Or.inl rfl⟩
      · rw [if_neg c1, if_neg c1]
        exact ⟨A j, h3, rfl, rfl, Or.inr ⟨j, hj, rfl, rfl⟩⟩
  unfold F_X7_shownAt F_X10_seenAt
  simp only [z2, zI_ne0 hx, zI_ne0 hy]
  by_cases e : k = 1
  · subst e
    rw [if_pos rfl]
    by_cases ex : x = 0
    · rw [if_pos ex, if_pos ex]
      by_cases ey : y = 0
      · rw [if_pos ey, if_pos ey]
        exact ⟨0, by decide, rfl, rfl, Or.inl rfl⟩
      · rw [if_neg ey, if_neg ey]
        exact main (fun q => ey q.2)
    · rw [if_neg ex, if_neg ex]
      exact main (fun q => ex q.1)
  · have j8 : F_X10_seenAt_J8 n v (zI x) (zI y) (nI k) = some 0 := by
      unfold F_X10_seenAt_J8
      rw [if_neg (fun q => e (z1.mp q))]
    rw [if_neg e, j8]
    refine ⟨0, by decide, rfl, ?_, Or.inl rfl⟩
    split
    · split <;> rfl
    · rfl
