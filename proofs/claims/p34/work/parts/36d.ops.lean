/-! OPS: time -/
theorem RA.at {M M' : Nat} {S : StV} {w : Nat → Int32} {A : Nat → Nat} (h : RA M S w A) (hM : A 116 ≤ M') : RA M' S w A := by
  obtain ⟨a1, a2, a3, a4, a5, a6, a7, a8, a9, t1, t2⟩ := h
  exact ⟨a1, a2, a3, a4, a5, a6, a7, a8, a9, hM, t2⟩
theorem RA.tick {M : Nat} {S : StV} {w : Nat → Int32} {A : Nat → Nat} (h : RA M S w A) : A 116 ≤ M := h.2.2.2.2.2.2.2.2.2.1
theorem setNow2 (v : MdV) (a b : Nat → Int32) : setNow (setNow v a) b = setNow v b := rfl
theorem nI_lit1 {x : Nat} (h : 1 ≤ x) (h2 : x ≤ 4) : (nI x = 1 ↔ x = 1) ∧ (nI (x - 1) = 0 ↔ x = 1) ∧ (nI x = 4 ↔ x = 4) ∧ (nI (x - 1) = 3 ↔ x = 4) := by
  rcases (show x = 1 ∨ x = 2 ∨ x = 3 ∨ x = 4 by omega) with rfl | rfl | rfl | rfl <;> decide
/-- whether the ticks go beyond the last one -/
theorem last_s {T t : Nat} (hT : T ≤ 1000000) (ht : t < 2 ^ 20) : (nI t ≤ 1000000 - nI T ↔ T + t ≤ 1000000) ∧ (nI T + nI t ≤ 1000000 ↔ T + t ≤ 1000000) := by
  have e : (1000000 : Int32) - nI T = nI (1000000 - T) := pk_sub (a := 1000000) hT
  rw [e, nI_add, lit, nI_leI (by omega) (by omega), nI_leI (by omega) (by omega)]
  omega
theorem ne_out {x lo hi k : Int32} (q : x < lo ∨ hi < x) (h : ¬ (k < lo ∨ hi < k)) : ¬ x = k := fun z => h (z ▸ q)
theorem op_account {u : HLV} {v : MdV} (h : R u v) (x : Int32) : ∃ a, F_X9_account u x = some a ∧ F_X10_account v x = some a := by
  have q0 : ¬ (1 : Int32) = 0 := by decide
  obtain ⟨⟨A, hA, _⟩, _⟩ := h
  obtain ⟨a1, _, _, _, ⟨s1, s2, s3, s4⟩, ⟨l1, l2, _, _⟩, _⟩ := hA
  have sp : ∀ j, j < 4 → F_X7_ticksOf (HL_now u) (nI j) = some (nI (A (117 + j))) := by
    intro j hj
    unfold F_X7_ticksOf
    rw [if_neg (nI_pos (by omega)), if_neg (by rw [lit, nI_leI (by omega) (by omega)]; omega), chk_nI hj (by decide), nI_clamp (by omega), s1 j hj]
  unfold F_X9_account F_X10_account
  rw [wi_s, bnd_some, s2, s4, l1, l2, show F_X7_ticksOf (HL_now u) 0 = _ from sp 0 (by decide), show F_X7_ticksOf (HL_now u) 1 = _ from sp 1 (by decide), show F_X7_ticksOf (HL_now u) 2 = _ from sp 2 (by decide), show F_X7_ticksOf (HL_now u) 3 = _ from sp 3 (by decide)]
  rcases arg_n (x := x) (lo := 0) (hi := 7) 0 7 rfl rfl (by decide) (by decide) with q | ⟨k, _, hk, rfl, q⟩
  · rw [if_pos q, if_neg (ne_out q (by decide)), if_neg (ne_out q (by decide)), if_neg (ne_out q (by decide)), if_neg (ne_out q (by decide)), if_neg (ne_out q (by decide)), if_neg (ne_out q (by decide)), if_neg (ne_out q (by decide)), if_neg (ne_out q (by decide))]
    exact ⟨-1, rfl, rfl⟩
  · have i1 : (116 : Int32) + nI k = nI (116 + k) := by rw [lit, nI_add]
    rw [if_neg q, if_neg q0, i1, chk_nI (by omega) (by decide), nI_clamp (by omega), a1 _ (by omega)]
    rcases (show k = 0 ∨ k = 1 ∨ k = 2 ∨ k = 3 ∨ k = 4 ∨ k = 5 ∨ k = 6 ∨ k = 7 by omega) with rfl | rfl | rfl | rfl | rfl | rfl | rfl | rfl <;> exact ⟨_, rfl, rfl⟩
theorem iteS {α : Type} {c : Prop} [Decidable c] {X Y : Option α} (hx : X.isSome = true) (hy : Y.isSome = true) : (if c then X else Y).isSome = true := by
  split
  · exact hx
  · exact hy
theorem op_count {n : Nat} {u : HLV} {v : MdV} (hn : 100 < n) (h : R u v) (x : Int32) : ∃ a, F_X9_count n u x = some a ∧ F_X10_count n v x = some a := by
  obtain ⟨⟨A, hA, _⟩, _, h3, ⟨s, e, hs, he, q1, q2, q3, q4⟩, ⟨L, hL, t1, t2, _⟩⟩ := h
  obtain ⟨a1, a2, a3, a4, a5, a6, a7, a8, a9, a10⟩ := hA
  obtain ⟨r2, m1, m2⟩ := lamps_s (n := n) (by omega) a4 a1 a9
  obtain ⟨r3, m3, m4⟩ := good_s (n := n) (by omega) a4 a1 a9
  have k112 : ∀ {α : Type} {a : Option α}, chk 112 289 a = a := fun {α} {a} => chk_nI (j := 112) (by decide) (by decide)
  have k113 : ∀ {α : Type} {a : Option α}, chk 113 289 a = a := fun {α} {a} => chk_nI (j := 113) (by decide) (by decide)
  have k81 : ∀ {α : Type} {a : Option α}, chk 81 289 a = a := fun {α} {a} => chk_nI (j := 81) (by decide) (by decide)
  have k114 : ∀ {α : Type} {a : Option α}, chk 114 289 a = a := fun {α} {a} => chk_nI (j := 114) (by decide) (by decide)
  have k115 : ∀ {α : Type} {a : Option α}, chk 115 289 a = a := fun {α} {a} => chk_nI (j := 115) (by decide) (by decide)
  have k128 : ∀ {α : Type} {a : Option α}, chk 128 289 a = a := fun {α} {a} => chk_nI (j := 128) (by decide) (by decide)
  have c112 : (112 : Int32).toNatClampNeg = 112 := rfl
  have c113 : (113 : Int32).toNatClampNeg = 113 := rfl
  have c81 : (81 : Int32).toNatClampNeg = 81 := rfl
  have c114 : (114 : Int32).toNatClampNeg = 114 := rfl
  have c115 : (115 : Int32).toNatClampNeg = 115 := rfl
  have c128 : (128 : Int32).toNatClampNeg = 128 := rfl
  have kp : F_X6_kept (St_Lo (HL_now u)) = some (nI (A 128)) := by
    have t7 := a10.2.2.2.2.2.2
    have t4 := a10.2.2.2.2.1
    have t0 := a10.1
    unfold F_X6_kept
    rw [a6.2.1, show (40 : Int32) = nI 40 from rfl, t7]
    by_cases c : A 123 < 40
    · rw [if_neg (nI_nlE c (by omega)), Nat.min_eq_left (by omega)]
    · rw [if_pos (nI_le (by omega) (by omega)), Nat.min_eq_right (by omega)]
  have st : (if Hx_isStored (HL_Hx u) = 0 then some (0 : Int32) else some 1) = if Md_isStored v = 0 then some (0 : Int32) else some 1 := by
    rcases h3 with ⟨e1, e2⟩ | ⟨e1, e2, _⟩ <;> rw [e1, e2]
  unfold F_X9_count F_X10_count
  rw [sectors_c a2 a7 (by omega), sectors_m a1 a7 (by omega), m1, m2, m3, m4, k112, k113, k81, k114, k115, k128, c112, c113, c81, c114, c115, c128, a1 112 (by decide), a1 113 (by decide), a1 81 (by decide), a1 114 (by decide), a1 115 (by decide), a1 128 (by decide), kp, st, q1, q3, t1, t2, a4.2.1, a4.2.2.1, a4.2.2.2.1, a4.2.2.2.2, a5.2.2.1]
  simp only [bnd_some]
  exact both (by repeat' (first | refine iteS ?_ ?_ | rfl))
def setKept (v : MdV) (q : Nat → Int32) : MdV := Md_mk (Md_now v) (Md_past v) (Md_stored v) q (Md_text v) (Md_sines v) (Md_numbers v) (Md_isStored v) (Md_saved v) (Md_length v) (Md_place v) (Md_many v) (Md_wrong v) (Md_reason v) (Md_items v)
theorem back_s {n : Nat} (v : MdV) (hn : 289 < n) : ∃ w3, F_X10_bring n 289 289 (Md_kept v) (Md_now v) 0 0 = some w3 ∧ ∀ j, j < 289 → w3 j = Md_kept v j := by
  obtain ⟨w2, b1, b2, b3⟩ := bring_s (n := n) (n0 := 289) (n1 := 289) (v := Md_kept v) (u := Md_now v) (x := 0) (y := 0) (a := 0) (b := 0) hn rfl rfl (by omega) (by omega) (by omega) (by omega)
  refine ⟨w2, b1, fun j hj => ?_⟩
  have := b2 j hj
  rw [Nat.zero_add] at this
  exact this
theorem forth_s {n : Nat} (v : MdV) (hn : 289 < n) : ∃ q, F_X10_bring n 289 289 (Md_now v) (Md_kept v) 0 0 = some q ∧ ∀ j, j < 289 → q j = Md_now v j := by
  obtain ⟨w2, b1, b2, b3⟩ := bring_s (n := n) (n0 := 289) (n1 := 289) (v := Md_now v) (u := Md_kept v) (x := 0) (y := 0) (a := 0) (b := 0) hn rfl rfl (by omega) (by omega) (by omega) (by omega)
  refine ⟨w2, b1, fun j hj => ?_⟩
  have := b2 j hj
  rw [Nat.zero_add] at this
  exact this
/-- after a look: all is as it was -/
theorem R.look {u : HLV} {v : MdV} (h : R u v) {tr : StV} {w2 q : Nat → Int32} (hq : ∀ j, j < 289 → w2 j = Md_now v j) : R (HL_mk (HL_Hx u) (HL_now u) (HL_stored u) tr (HL_hist u) (HL_text u)) (setNow (setKept v q) w2) :=
  ⟨h.1.cgw hq, h.2.1, h.2.2.1, h.2.2.2.1, h.2.2.2.2⟩
