/-! SHIPS: where a ship is -/
theorem xor_nn {a b : Int32} (hb : 0 ≤ b.toInt) : (0 ≤ a ^^^ b) ↔ 0 ≤ a.toInt := by
  have e1 : decide ((a ^^^ b).toInt < 0) = (decide (a.toInt < 0) ^^ decide (b.toInt < 0)) := by
    rw [← Int32.toInt_toBitVec, ← Int32.toInt_toBitVec, ← Int32.toInt_toBitVec, ← BitVec.msb_eq_toInt, ← BitVec.msb_eq_toInt, ← BitVec.msb_eq_toInt, Int32.toBitVec_xor, BitVec.msb_xor]
  rw [show decide (b.toInt < 0) = false from decide_eq_false (by omega), Bool.xor_false] at e1
  have e2 := decide_eq_decide.mp e1
  rw [Int32.le_iff_toInt_le]
  have : (0 : Int32).toInt = 0 := rfl
  omega
theorem alongP {x : Int} {V t : Nat} {W : Int32} (hW : W = nI V) (hV : V < 2 ^ 31) (h1 : 1 ≤ t) (ht : t < 2 ^ 31) : F_J9_floorDiv_7cf53 W (nI t) = some (nI (V / t)) ∧ (if 0 ≤ W - W / nI t * nI t then some (zI x + W / nI t) else some (zI x + (W / nI t - 1))) = some (zI x + nI (V / t)) := by
  subst hW
  have d : nI V / nI t = nI (V / t) := pk_div hV (by omega) ht
  have m := Nat.mod_lt V (show 0 < t by omega)
  refine ⟨?_, ?_⟩
  · unfold F_J9_floorDiv_7cf53
    rw [nzd_nI (by omega) ht, if_pos ((xor_nn (by rw [nI_toInt ht]; omega)).mpr (by rw [nI_toInt hV]; omega)), d]
  · rw [pk_rem hV (by omega) ht, if_pos (nI_pos' (by omega)), d]
theorem alongN {x : Int} {V t : Nat} {W : Int32} (hW : W = zI (-(V : Int))) (hV : V < 2 ^ 30) (hV0 : 0 < V) (h1 : 1 ≤ t) (ht : t < 2 ^ 30) : F_J9_floorDiv_7cf53 W (nI t) = some (zI (-((if V % t = 0 then V / t else V / t + 1 : Nat) : Int))) ∧ (if 0 ≤ W - W / nI t * nI t then some (zI x + W / nI t) else some (zI x + (W / nI t - 1))) = some (zI x + zI (-((if V % t = 0 then V / t else V / t + 1 : Nat) : Int))) := by
  subst hW
  have m := Nat.mod_lt V (show 0 < t by omega)
  have le := Nat.div_le_self V t
  have dm := Nat.div_add_mod V t
  have td : (V : Int).tdiv (t : Int) = ((V / t : Nat) : Int) := rfl
  generalize V / t = Q at le dm td ⊢
  generalize V % t = Z at m dm ⊢
  have d : zI (-(V : Int)) / nI t = zI (-(Q : Int)) := by
    apply Int32.toInt_inj.mp
    rw [Int32.toInt_div_of_ne_right _ _ (fun z => by have := congrArg Int32.toInt z; rw [nI_toInt (by omega), show (-1 : Int32).toInt = -1 from rfl] at this; omega), zI_toInt (by omega) (by omega), zI_toInt (by omega) (by omega), nI_toInt (by omega), Int.neg_tdiv, td]
  have r : zI (-(V : Int)) - zI (-(Q : Int)) * nI t = zI (-(Z : Int)) := by
    rw [zI_nI, zI_mul, zI_sub]
    congr 1
    have : ((t * Q + Z : Nat) : Int) = (V : Int) := by rw [dm]
    rw [Int.natCast_add, Int.natCast_mul] at this
    rw [Int.neg_mul, Int.mul_comm]
    omega
  have neg : ¬ (0 : Int) ≤ (zI (-(V : Int))).toInt := by
    rw [zI_toInt (by omega) (by omega)]
    omega
  have eqq : (zI (-(Q : Int)) * nI t = zI (-(V : Int))) ↔ Z = 0 := by
    rw [zI_nI, zI_mul]
    have e : -(Q : Int) * (t : Int) = -((t * Q : Nat) : Int) := by
      rw [Int.natCast_mul, Int.neg_mul, Int.mul_comm]
    generalize t * Q = P at e dm
    rw [e, zI_eqI (by omega) (by omega) (by omega) (by omega)]
    omega
  have q1 : zI (-(Q : Int)) - 1 = zI (-((Q + 1 : Nat) : Int)) := by
    show zI (-(Q : Int)) - zI 1 = _
    rw [zI_sub]
    congr 1
    omega
  have hz : (0 ≤ zI (-(Z : Int))) ↔ Z = 0 := by
    rw [zI_0, zI_leI (by omega) (by omega) (by omega) (by omega)]
    omega
  refine ⟨?_, ?_⟩
  · unfold F_J9_floorDiv_7cf53
    rw [nzd_nI (by omega) (by omega), if_neg (fun z => neg ((xor_nn (by rw [nI_toInt (by omega)]; omega)).mp z)), d]
    simp only [eqq]
    by_cases c : Z = 0
    · rw [if_pos c, if_pos c]
    · rw [if_neg c, if_neg c, q1]
  · rw [d, r]
    simp only [hz]
    by_cases c : Z = 0
    · rw [if_pos c, if_pos c]
    · rw [if_neg c, if_neg c, q1]
theorem along_s {x tx : Int} {i t : Nat} (hx : ok4 x) (htx : ok4 tx) (hi : i < t) (h5 : t ≤ 500) : ∃ (q : Int32) (p : Int), ok4 p ∧ F_J9_floorDiv_7cf53 ((zI tx - zI x) * nI i) (nI t) = some q ∧ zI x + q = zI p ∧ F_X10_along (zI x) (zI tx) (nI i) (nI t) = some (zI p) := by
  have nz : ∀ {α : Type} {a : Option α}, nzd (nI t) a = a := fun {α} {a} => nzd_nI (by omega) (by omega)
  unfold ok4 at hx htx ⊢
  unfold F_X10_along
  rw [nz, nz]
  by_cases c : x ≤ tx
  · obtain ⟨D, hD⟩ : ∃ D : Nat, tx = x + D := ⟨(tx - x).toNat, by omega⟩
    have hV : (zI tx - zI x) * nI i = nI (D * i) := by
      rw [zI_sub, zI_nI, zI_mul, zI_nI]
      congr 1
      rw [show tx - x = (D : Int) by omega, Int.natCast_mul]
    have b1 : D * i ≤ 20000 * 500 := Nat.mul_le_mul (by omega) (by omega)
    have b2 : D * i / t ≤ D := Nat.div_le_of_le_mul (by rw [Nat.mul_comm t]; exact Nat.mul_le_mul (Nat.le_refl _) (by omega))
    obtain ⟨g1, g2⟩ := alongP (x := x) hV (by omega) (by omega : 1 ≤ t) (by omega)
    generalize D * i / t = Q at b2 g1 g2
    have s : zI x + nI Q = zI (x + (Q : Int)) := by rw [zI_nI, zI_add]
    refine ⟨_, x + (Q : Int), ⟨by omega, by omega⟩, g1, s, ?_⟩
    rw [g2, s]
  · obtain ⟨D, hD⟩ : ∃ D : Nat, tx = x - D := ⟨(x - tx).toNat, by omega⟩
    by_cases i0 : i = 0
    · subst i0
      have hV : (zI tx - zI x) * nI 0 = nI 0 := by
        rw [show nI 0 = (0 : Int32) from rfl, Int32.mul_zero]
      obtain ⟨g1, g2⟩ := alongP (x := x) hV (by omega) (by omega : 1 ≤ t) (by omega)
      have s : zI x + nI (0 / t) = zI x := by rw [Nat.zero_div, show nI 0 = (0 : Int32) from rfl, Int32.add_zero]
      exact ⟨_, x, hx, g1, s, by rw [g2, s]⟩
    · have hV : (zI tx - zI x) * nI i = zI (-((D * i : Nat) : Int)) := by
        rw [zI_sub, zI_nI, zI_mul]
        congr 1
        rw [show tx - x = -(D : Int) by omega, Int.natCast_mul, Int.neg_mul]
      have b1 : D * i ≤ 20000 * 500 := Nat.mul_le_mul (by omega) (by omega)
      have b0 : 0 < D * i := Nat.mul_pos (by omega) (by omega)
      have b3 : D * i < t * D := by rw [Nat.mul_comm t]; exact Nat.mul_lt_mul_of_pos_left hi (by omega)
      have b2 : D * i / t < D := Nat.div_lt_of_lt_mul b3
      obtain ⟨g1, g2⟩ := alongN (x := x) hV (by omega) b0 (by omega : 1 ≤ t) (by omega)
      have b4 : (if D * i % t = 0 then D * i / t else D * i / t + 1) ≤ D := by split <;> omega
      generalize (if D * i % t = 0 then D * i / t else D * i / t + 1) = Q at b4 g1 g2
      have s : zI x + zI (-(Q : Int)) = zI (x - (Q : Int)) := by
        rw [zI_add]
        rfl
      exact ⟨_, x - (Q : Int), ⟨by omega, by omega⟩, g1, s, by rw [g2, s]⟩
/-! SHIPS: passing -/
theorem beginL_c {n : Nat} : ∀ (m i k : Nat) (l : LoV), i + m = 4 → m < k → ∃ sh, F_X6_beginPassage_L12 n k l (nI i) = some (Lo_mk (Lo_ticks l) (Lo_colors l) (Lo_directions l) (Lo_numbers l) sh (Lo_passages l) (Lo_entries l)) ∧ (∀ j, i ≤ j → j < 4 → sh j = 0) ∧ ∀ j, j < i → sh j = Lo_shown l j := by
  intro m
  induction m with
  | zero =>
    intro i k l hi hk
    obtain ⟨k, rfl⟩ : ∃ z, k = z + 1 := ⟨k - 1, by omega⟩
    refine ⟨Lo_shown l, ?_, fun j h1 h2 => by omega, fun j _ => rfl⟩
    rw [F_X6_beginPassage_L12, if_pos (by rw [lit, nI_leI (by omega) (by omega)]; omega)]
  | succ m ih =>
    intro i k l hi hk
    obtain ⟨k, rfl⟩ : ∃ z, k = z + 1 := ⟨k - 1, by omega⟩
    obtain ⟨sh, g1, g2, g3⟩ := ih (i + 1) k (Lo_mk (Lo_ticks l) (Lo_colors l) (Lo_directions l) (Lo_numbers l) (upd (Lo_shown l) i 0) (Lo_passages l) (Lo_entries l)) (by omega) (by omega)
    refine ⟨sh, ?_, ?_, ?_⟩
    · rw [F_X6_beginPassage_L12, if_neg (by rw [lit, nI_leI (by omega) (by omega)]; omega), chk_nI (by omega) (by decide), nI_clamp (by omega), nI_1]
      exact g1
    · intro j h1 h2
      by_cases e : j = i
      · subst e
        rw [g3 _ (by omega)]
        exact upd_at
      · exact g2 j (by omega) h2
    · intro j hj
      rw [g3 j (by omega)]
      exact upd_ne (by omega)
theorem beginL_m {n : Nat} {x1 x2 x3 x4 x5 x6 x7 x8 : Int32} : ∀ (m i k : Nat) (v : MdV), i + m = 4 → m < k → ∃ w2, F_X10_pass_L89 n k v x1 x2 x3 x4 x5 x6 x7 x8 (nI i) = F_X10_pass_L115 n n (setNow v w2) x1 x2 x3 x4 x5 x6 x7 x8 0 ∧ (∀ j, 124 + i ≤ j → j < 128 → w2 j = 0) ∧ ∀ j, (j < 124 + i ∨ 128 ≤ j) → w2 j = Md_now v j := by
  intro m
  induction m with
  | zero =>
    intro i k v hi hk
    obtain ⟨k, rfl⟩ : ∃ z, k = z + 1 := ⟨k - 1, by omega⟩
    refine ⟨Md_now v, ?_, fun j h1 h2 => by omega, fun j _ => rfl⟩
    rw [F_X10_pass_L89, if_pos (by rw [lit, nI_leI (by omega) (by omega)]; omega)]
    rfl
  | succ m ih =>
    intro i k v hi hk
    obtain ⟨k, rfl⟩ : ∃ z, k = z + 1 := ⟨k - 1, by omega⟩
    obtain ⟨w2, g1, g2, g3⟩ := ih (i + 1) k (setNow v (upd (Md_now v) (124 + i) 0)) (by omega) (by omega)
    have q : ∀ j, Md_now (setNow v (upd (Md_now v) (124 + i) 0)) j = upd (Md_now v) (124 + i) 0 j := fun j => rfl
    refine ⟨w2, ?_, ?_, ?_⟩
    · rw [F_X10_pass_L89, if_neg (by rw [lit, nI_leI (by omega) (by omega)]; omega), show (124 : Int32) = nI 124 from rfl, nI_add, chk_nI (by omega) (by decide), nI_clamp (by omega), nI_1]
      exact g1
    · intro j h1 h2
      by_cases e : j = 124 + i
      · subst e
        rw [g3 _ (by omega), q, upd_at]
      · exact g2 j (by omega) h2
    · intro j hj
      rw [g3 j (by omega), q, upd_ne (by omega)]
theorem begin_s {n M : Nat} {S : StV} {v : MdV} {A : Nat → Nat} {x1 x2 x3 x4 x5 x6 x7 x8 : Int32} (hn : 10 < n) (h : RA M S (Md_now v) A) :
    ∃ (l2 : LoV) (w2 : Nat → Int32) (A2 : Nat → Nat), F_X6_beginPassage n (St_Lo S) = some l2 ∧ F_X10_pass_L89 n n (setNow v (upd (Md_now v) 122 (nI (A 122 + 1)))) x1 x2 x3 x4 x5 x6 x7 x8 0 = F_X10_pass_L115 n n (setNow v w2) x1 x2 x3 x4 x5 x6 x7 x8 0 ∧ RA M (St_mk (St_So S) (St_Ci S) (St_Fl S) (St_Ch S) l2) w2 A2 ∧ A2 122 = A 122 + 1 ∧ A2 116 = A 116 ∧ A2 123 = A 123 := by
  have hA := h
  obtain ⟨a1, a2, a3, a4, a5, ⟨r1, r2, r3, r4⟩, a7, a8, a9, a10⟩ := h
  obtain ⟨t1, t2, t3, t4, t5, t6, t7⟩ := a10
  obtain ⟨sh, g1, g2, g3⟩ := beginL_c (n := n) 4 0 n (Lo_mk (Lo_ticks (St_Lo S)) (Lo_colors (St_Lo S)) (Lo_directions (St_Lo S)) (Lo_numbers (St_Lo S)) (Lo_shown (St_Lo S)) (Lo_passages (St_Lo S) + 1) (Lo_entries (St_Lo S))) (by omega) (by omega)
  obtain ⟨w2, q1, q2, q3⟩ := beginL_m (n := n) (x1 := x1) (x2 := x2) (x3 := x3) (x4 := x4) (x5 := x5) (x6 := x6) (x7 := x7) (x8 := x8) 4 0 n (setNow v (upd (Md_now v) 122 (nI (A 122 + 1)))) (by omega) (by omega)
  let A2 : Nat → Nat := fun j => if j = 122 then A 122 + 1 else if 124 ≤ j ∧ j < 128 then 0 else A j
  have b1 : A2 122 = A 122 + 1 := if_pos rfl
  have b2 : ∀ j, 124 ≤ j → j < 128 → A2 j = 0 := fun j z1 z2 => by
    show (if j = 122 then _ else if 124 ≤ j ∧ j < 128 then 0 else A j) = 0
    rw [if_neg (by omega), if_pos ⟨z1, z2⟩]
  have b3 : ∀ j, j ≠ 122 → (j < 124 ∨ 128 ≤ j) → A2 j = A j := fun j z1 z2 => by
    show (if j = 122 then _ else if 124 ≤ j ∧ j < 128 then 0 else A j) = A j
    rw [if_neg z1, if_neg (by omega)]
  have w122 : w2 122 = nI (A 122 + 1) := by
    rw [q3 122 (by omega)]
    show upd (Md_now v) 122 (nI (A 122 + 1)) 122 = _
    exact upd_at
  have wO : ∀ j, j ≠ 122 → (j < 124 ∨ 128 ≤ j) → w2 j = Md_now v j := by
    intro j z1 z2
    rw [q3 j (by omega)]
    show upd (Md_now v) 122 (nI (A 122 + 1)) j = _
    exact upd_ne z1
  refine ⟨_, w2, A2, g1, q1, RA_lo hA ⟨?_, ?_, ?_, ?_⟩ ?_ ⟨?_, ?_, ?_, ?_, ?_, ?_, ?_⟩ (fun j hj => b3 j (by omega) (by omega)), b1, b3 116 (by omega) (by omega), b3 123 (by omega) (by omega)⟩
  · rw [b1]
    show Lo_passages (St_Lo S) + 1 = _
    rw [r1, nI_1]
  · rw [b3 123 (by omega) (by omega)]; exact r2
  · intro j hj
    rw [b2 _ (by omega) (by omega)]
    exact g2 j (by omega) hj
  · intro i hi
    rw [b3 128 (by omega) (by omega)] at hi ⊢
    rw [b3 123 (by omega) (by omega), wO _ (by omega) (by omega), wO _ (by omega) (by omega), wO _ (by omega) (by omega), wO _ (by omega) (by omega)]
    exact r4 i hi
  · intro j hj
    by_cases e : j = 122
    · rw [e, b1, w122]
    · by_cases e2 : 124 ≤ j ∧ j < 128
      · rw [b2 j e2.1 e2.2, q2 j (by omega) e2.2]
        rfl
      · rw [b3 j e (by omega), wO j e (by omega)]
        exact a1 j hj
  · rw [b3 116 (by omega) (by omega)]; exact t1
  · intro j hj
    rw [b3 _ (by omega) (by omega), b3 116 (by omega) (by omega)]
    exact t2 j hj
  · rw [b3 121 (by omega) (by omega), b3 116 (by omega) (by omega)]; exact t3
  · exact Nat.le_refl _
  · rw [b3 123 (by omega) (by omega), b3 116 (by omega) (by omega)]; exact t5
  · intro j hj
    rw [b2 _ (by omega) (by omega)]
    omega
  · rw [b3 128 (by omega) (by omega), b3 123 (by omega) (by omega)]; exact t7
theorem pass_m {n k2 col : Nat} {v v1 : MdV} {x1 x2 x3 x4 x5 x6 x7 x8 x9 q5 q6 wh d : Int32} {W : Nat → Int32} (le : ¬ x5 ≤ x9) (h5 : F_X10_along x1 x3 x9 x5 = some q5) (h6 : F_X10_along x2 x4 x9 x5 = some q6) (h7 : F_X10_ticks n v = some (wh, v1)) (h8 : F_X10_seenAt n v1 q5 q6 wh = some (nI col)) (hc : col ≤ 3)
    (hW : W = upd (Md_now v1) (124 + col) (Md_now v1 (124 + col) + 1)) (hd1 : q5 = 0 → q6 = 0 → d = -4) (hd2 : ¬ (q5 = 0 ∧ q6 = 0) → F_X10_directionOf n (setNow v1 W) q5 q6 = some d) :
    F_X10_pass_L115 n (k2 + 1) v x1 x2 x3 x4 x5 x6 x7 x8 x9 = if nI col = x8 then F_X10_pass_L115 n k2 (setNow v1 W) x1 x2 x3 x4 x5 x6 x7 (nI col) (x9 + 1) else (F_X10_logs n (setNow v1 W) (Md_now v 116) (nI col) d x7).bind fun q => F_X10_pass_L115 n k2 q x1 x2 x3 x4 x5 x6 x7 (nI col) (x9 + 1) := by
  subst hW
  have k116 : ∀ {α : Type} {a : Option α}, chk 116 289 a = a := fun {α} {a} => chk_nI (j := 116) (by decide) (by decide)
  have c116 : (116 : Int32).toNatClampNeg = 116 := rfl
  have i1 : (124 : Int32) + nI col = nI (124 + col) := by rw [lit, nI_add]
  rw [F_X10_pass_L115, if_neg le, h5, bnd_some, h6, bnd_some, k116, h7, bnd_some, h8, bnd_some, i1, chk_nI (by omega) (by decide), chk_nI (by omega) (by decide), nI_clamp (by omega), c116]
  by_cases e : nI col = x8
  · rw [if_pos e, if_pos e]
    rfl
  · rw [if_neg e, if_neg e]
    by_cases e5 : q5 = 0
    · rw [if_pos e5]
      by_cases e6 : q6 = 0
      · rw [if_pos e6, hd1 e5 e6]
        rfl
      · rw [if_neg e6]
        show (F_X10_directionOf n (setNow v1 (upd (Md_now v1) (124 + col) (Md_now v1 (124 + col) + 1))) q5 q6).bind _ = _
        rw [hd2 (fun z => e6 z.2), bnd_some]
        rfl
    · rw [if_neg e5]
      show (F_X10_directionOf n (setNow v1 (upd (Md_now v1) (124 + col) (Md_now v1 (124 + col) + 1))) q5 q6).bind _ = _
      rw [hd2 (fun z => e5 z.1), bnd_some]
      rfl
theorem ship_c {n k col : Nat} {S S1 : StV} {x y b dir : Int32} (h1 : F_X7_goOn n S = some (nI (k - 1), S1)) (h2 : F_X7_shownAt n S1 x y (nI (k - 1)) = some (nI col)) (hc : col ≤ 3) (h3 : F_X3_byQuarter n x y = some dir) :
    F_X7_goOnWithShip n S x y b = if nI col = b then some (nI col, St_mk (St_So S1) (St_Ci S1) (St_Fl S1) (St_Ch S1) (Lo_mk (Lo_ticks (St_Lo S1)) (Lo_colors (St_Lo S1)) (Lo_directions (St_Lo S1)) (Lo_numbers (St_Lo S1)) (upd (Lo_shown (St_Lo S1)) col (Lo_shown (St_Lo S1) col + 1)) (Lo_passages (St_Lo S1)) (Lo_entries (St_Lo S1)))) else
      (F_X6_add (Lo_mk (Lo_ticks (St_Lo S1)) (Lo_colors (St_Lo S1)) (Lo_directions (St_Lo S1)) (Lo_numbers (St_Lo S1)) (upd (Lo_shown (St_Lo S1)) col (Lo_shown (St_Lo S1) col + 1)) (Lo_passages (St_Lo S1)) (Lo_entries (St_Lo S1))) (So_tick (St_So S1) - 1) (nI col) dir).bind fun q5 => some (nI col, St_mk (St_So S1) (St_Ci S1) (St_Fl S1) (St_Ch S1) q5) := by
  unfold F_X7_goOnWithShip
  rw [h1, bnd_some, h2, bnd_some, addShown_c hc, bnd_some, h3, bnd_some]
theorem passL {n t : Nat} {x y tx ty : Int} {pas had : Nat} (hn : 300 < n) (hx : ok4 x) (hy : ok4 y) (htx : ok4 tx) (hty : ok4 ty) (ht : t ≤ 500) : ∀ (m i k k2 M : Nat) (u : HLV) (v : MdV) (A : Nat → Nat) (b c : Int32), i + m = t → m < k → m < k2 → M + m < 2 ^ 29 → RA M (HL_now u) (Md_now v) A → A 116 = M → RSin v → A 122 = pas + 1 →
    ((b = -1 ∧ c = -4) ∨ ∃ d, d ≤ 3 ∧ b = nI d ∧ c = nI d) →
    ∃ (a : Int32) (S2 : StV) (w2 : Nat → Int32) (A2 : Nat → Nat), F_X9_pass_L100 n k u (zI x) (zI y) (zI tx) (zI ty) (nI t) (nI had) b (nI i) = some (a, HL_mk (HL_Hx u) S2 (HL_stored u) (HL_trial u) (HL_hist u) (HL_text u)) ∧ F_X10_pass_L115 n k2 v (zI x) (zI y) (zI tx) (zI ty) (nI t) (nI had) (nI pas) c (nI i) = some (a, setNow v w2) ∧ RA (M + m) S2 w2 A2 := by
  intro m
  induction m with
  | zero =>
    intro i k k2 M u v A b c hi hk hk2 hM h hA hs hp hbc
    obtain ⟨k, rfl⟩ : ∃ z, k = z + 1 := ⟨k - 1, by omega⟩
    obtain ⟨k2, rfl⟩ : ∃ z, k2 = z + 1 := ⟨k2 - 1, by omega⟩
    have le : nI t ≤ nI i := nI_le (by omega) (by omega)
    have k123 : ∀ {α : Type} {a : Option α}, chk 123 289 a = a := fun {α} {a} => chk_nI (j := 123) (by decide) (by decide)
    have c123 : (123 : Int32).toNatClampNeg = 123 := rfl
    refine ⟨nI (A 123) - nI had, HL_now u, Md_now v, A, ?_, ?_, h⟩
    · rw [F_X9_pass_L100, if_pos le, h.2.2.2.2.2.1.2.1]
    · rw [F_X10_pass_L115, if_pos le, k123, c123, h.1 123 (by decide)]
      rfl
  | succ m ih =>
    intro i k k2 M u v A b c hi hk hk2 hM h hA hs hp hbc
    obtain ⟨k, rfl⟩ : ∃ z, k = z + 1 := ⟨k - 1, by omega⟩
    obtain ⟨k2, rfl⟩ : ∃ z, k2 = z + 1 := ⟨k2 - 1, by omega⟩
    have le : ¬ nI t ≤ nI i := nI_nlE (by omega) (by omega)
    obtain ⟨q1, p1, o1, f1, e1, f2⟩ := along_s hx htx (show i < t by omega) ht
    obtain ⟨q2, p2, o2, f3, e2, f4⟩ := along_s hy hty (show i < t by omega) ht
    obtain ⟨kd, S1, w1, A1, d1, d4, g1, g2, g3, g4, g5, g6, g7⟩ := tick_s (n := n) (by omega) (by omega) h
    obtain ⟨col, hc, c1, c2⟩ := shown_s (n := n) (v := setNow v w1) (by omega) g3 hs o1 o2 d1 d4
    have sc := ship_c (b := b) g1 c1 hc (byQuarter_s (n := n) (by omega) o1 o2)
    obtain ⟨t1, t2, t3, t4, t5, t6, t7⟩ := id h.2.2.2.2.2.2.2.2.2
    obtain ⟨s1, s2, s3, s4, s5, s6, s7⟩ := id g3.2.2.2.2.2.2.2.2.2
    have a122 := g5 122 (by omega) (by omega)
    have a123 := g5 123 (by omega) (by omega)
    have a128 := g5 128 (by omega) (by omega)
    have aC := g5 (124 + col) (by omega) (by omega)
    have tC := t6 col (by omega)
    -- the shown color counted
    let A3 := sA A1 (124 + col) (A1 (124 + col) + 1)
    let w3 := upd w1 (124 + col) (nI (A1 (124 + col) + 1))
    have hw3 : w3 = upd (Md_now (setNow v w1)) (124 + col) (Md_now (setNow v w1) (124 + col) + 1) := by
      show upd w1 (124 + col) (nI (A1 (124 + col) + 1)) = upd w1 (124 + col) (w1 (124 + col) + 1)
      rw [g3.1 (124 + col) (by omega), nI_1]
    have L3 := RLo_shown (c := col) g3.2.2.2.2.2.1 (by omega) hc
    have n3 : nIf w3 A3 := g3.1.upd _ _
    have o3 : ∀ j, j ≠ 124 + col → A3 j = A1 j := fun j z => sA_ne z
    have i3 : ITi (M + 1) A3 := by
      have z1 := o3 116 (by omega)
      have z2 := o3 121 (by omega)
      have z3 := o3 123 (by omega)
      have z4 := o3 128 (by omega)
      refine ⟨by omega, ?_, by omega, Nat.le_refl _, by omega, ?_, by rw [z4, z3]; exact s7⟩
      · intro j hj
        rw [o3 _ (by omega), z1]
        exact s2 j hj
      · intro j hj
        rw [z1]
        by_cases e : j = col
        · rw [e]
          show sA A1 (124 + col) (A1 (124 + col) + 1) (124 + col) ≤ _
          rw [sA_at]
          omega
        · rw [o3 _ (by omega)]
          exact s6 j hj
    have R3 : RA (M + 1) (St_mk (St_So S1) (St_Ci S1) (St_Fl S1) (St_Ch S1) (Lo_mk (Lo_ticks (St_Lo S1)) (Lo_colors (St_Lo S1)) (Lo_directions (St_Lo S1)) (Lo_numbers (St_Lo S1)) (upd (Lo_shown (St_Lo S1)) col (Lo_shown (St_Lo S1) col + 1)) (Lo_passages (St_Lo S1)) (Lo_entries (St_Lo S1)))) w3 A3 := RA_lo g3 L3 n3 i3 (fun j hj => o3 j (by omega))
    have pm := pass_m (n := n) (k2 := k2) (x6 := nI had) (x7 := nI pas) (x8 := c) (d := dirI p1 p2) le f2 f4 g2 c2 hc hw3 (fun z1 z2 => by rw [(zI_ne0 o1).mp z1, (zI_ne0 o2).mp z2, dirI_00]) (fun _ => directionOf_s (by omega) hs o1 o2)
    have bc : (nI col = b) ↔ (nI col = c) := by
      rcases hbc with ⟨z1, z2⟩ | ⟨d, hd, z1, z2⟩
      · rw [z1, z2]
        rcases (show col = 0 ∨ col = 1 ∨ col = 2 ∨ col = 3 by omega) with rfl | rfl | rfl | rfl <;> decide
      · rw [z1, z2]
    rw [F_X9_pass_L100, if_neg le, f1, bnd_some, f3, bnd_some, e1, e2, sc, pm, nI_1]
    by_cases e : nI col = c
    · rw [if_pos e, if_pos (bc.mpr e), bnd_some]
      obtain ⟨a, S2, w2, A2, r1, r2, r3⟩ := ih (i + 1) k k2 (M + 1) (HL_mk (HL_Hx u) (St_mk (St_So S1) (St_Ci S1) (St_Fl S1) (St_Ch S1) (Lo_mk (Lo_ticks (St_Lo S1)) (Lo_colors (St_Lo S1)) (Lo_directions (St_Lo S1)) (Lo_numbers (St_Lo S1)) (upd (Lo_shown (St_Lo S1)) col (Lo_shown (St_Lo S1) col + 1)) (Lo_passages (St_Lo S1)) (Lo_entries (St_Lo S1)))) (HL_stored u) (HL_trial u) (HL_hist u) (HL_text u)) (setNow v w3) A3 (nI col) (nI col) (by omega) (by omega) (by omega) (by omega) R3 (by rw [o3 116 (by omega)]; omega) hs (by rw [o3 122 (by omega)]; omega) (Or.inr ⟨col, hc, rfl, rfl⟩)
      exact ⟨a, S2, w2, A2, r1, r2, by rw [show M + (m + 1) = M + 1 + m by omega]; exact r3⟩
    · have tk : So_tick (St_So S1) - 1 = nI (A 116) := by
        rw [g3.2.2.2.2.1.2.1, g4]
        exact pk_sub (a := A 116 + 1) (b := 1) (by omega)
      have pa : Lo_passages (St_Lo S1) - 1 = nI pas := by
        rw [g3.2.2.2.2.2.1.1, a122, hp]
        exact pk_sub (a := pas + 1) (b := 1) (by omega)
      have q8 : A3 128 = min (A3 123) 40 := by rw [o3 128 (by omega), o3 123 (by omega)]; exact s7
      have qE : A3 123 < 2 ^ 30 := by rw [o3 123 (by omega)]; omega
      obtain ⟨l4, w4, y1, y2, y3, y4⟩ := add_s (n := n) (v := setNow v w3) (A := A3) (x1 := nI (A 116)) (x2 := nI col) (x3 := dirI p1 p2) (pas := nI pas) (by omega) L3 n3 q8 qE pa
      have z3 := o3 123 (by omega)
      let A4 := sA (sA A3 128 (min (A3 123 + 1) 40)) 123 (A3 123 + 1)
      have o4 : ∀ j, j ≠ 128 → j ≠ 123 → A4 j = A3 j := fun j z1 z2 => by
        show sA (sA A3 128 _) 123 _ j = _
        rw [sA_ne z2, sA_ne z1]
      have b123 : A4 123 = A3 123 + 1 := sA_at
      have b128 : A4 128 = min (A3 123 + 1) 40 := by
        show sA (sA A3 128 _) 123 _ 128 = _
        rw [sA_ne (by decide), sA_at]
      have i4 : ITi (M + 1) A4 := by
        obtain ⟨v1, v2, v3, v4, v5, v6, v7⟩ := i3
        have z1 := o4 116 (by omega) (by omega)
        have z2 := o4 121 (by omega) (by omega)
        have z116 := o3 116 (by omega)
        refine ⟨by omega, ?_, by omega, Nat.le_refl _, by omega, ?_, by rw [b128, b123]⟩
        · intro j hj
          rw [o4 _ (by omega) (by omega), z1]
          exact v2 j hj
        · intro j hj
          rw [o4 _ (by omega) (by omega), z1]
          exact v6 j hj
      have R4 := RA_lo R3 y3 y4 i4 (fun j hj => o4 j (by omega) (by omega))
      rw [if_neg e, if_neg (fun z => e (bc.mp z)), tk, h.1 116 (by decide), y1, bnd_some, bnd_some]
      have y2' : F_X10_logs n (setNow (setNow v w1) w3) (nI (A 116)) (nI col) (dirI p1 p2) (nI pas) = some (setNow v w4) := y2
      rw [y2', bnd_some]
      obtain ⟨a, S2, w2, A2, r1, r2, r3⟩ := ih (i + 1) k k2 (M + 1) (HL_mk (HL_Hx u) (St_mk (St_So S1) (St_Ci S1) (St_Fl S1) (St_Ch S1) l4) (HL_stored u) (HL_trial u) (HL_hist u) (HL_text u)) (setNow v w4) A4 (nI col) (nI col) (by omega) (by omega) (by omega) (by omega) R4 (by rw [o4 116 (by omega) (by omega), o3 116 (by omega)]; omega) hs (by rw [o4 122 (by omega) (by omega), o3 122 (by omega)]; omega) (Or.inr ⟨col, hc, rfl, rfl⟩)
      exact ⟨a, S2, w2, A2, r1, r2, by rw [show M + (m + 1) = M + 1 + m by omega]; exact r3⟩
theorem op_pass {n : Nat} {u : HLV} {v : MdV} (hn : 3000 < n) (h : R u v) (x1 x2 x3 x4 x5 : Int32) : ∃ a u2 v2, F_X9_pass n u x1 x2 x3 x4 x5 = some (a, u2) ∧ F_X10_pass n v x1 x2 x3 x4 x5 = some (a, v2) ∧ R u2 v2 := by
  have q0 : ¬ (1 : Int32) = 0 := by decide
  unfold F_X9_pass F_X10_pass
  rw [far_c, far_c, far_c, far_c, far_m, far_m, out_s, wi_s]
  simp only [bnd_some]
  rcases arg_z x1 with q | ⟨z1, o1, rfl, q1⟩
  · rw [if_pos q, if_pos (Or.inl q), if_neg q0, if_neg q0]
    exact ⟨-1, u, v, rfl, rfl, h⟩
  rcases arg_z x2 with q | ⟨z2, o2, rfl, q2⟩
  · rw [if_neg q1, if_pos rfl, if_pos q, if_pos (Or.inr q), if_neg q0, if_neg q0]
    exact ⟨-1, u, v, rfl, rfl, h⟩
  rw [if_neg q1, if_pos rfl, if_neg q2, if_pos rfl, if_neg (fun (e : far (zI z1) ∨ far (zI z2)) => e.elim q1 q2), if_pos rfl]
  rcases arg_z x3 with q | ⟨z3, o3, rfl, q3⟩
  · rw [if_pos q, if_pos (Or.inl q), if_neg q0, if_neg q0]
    exact ⟨-1, u, v, rfl, rfl, h⟩
  rcases arg_z x4 with q | ⟨z4, o4, rfl, q4⟩
  · rw [if_neg q3, if_pos rfl, if_pos q, if_pos (Or.inr q), if_neg q0, if_neg q0]
    exact ⟨-1, u, v, rfl, rfl, h⟩
  rw [if_neg q3, if_pos rfl, if_neg q4, if_pos rfl, if_neg (fun (e : far (zI z3) ∨ far (zI z4)) => e.elim q3 q4), if_pos rfl]
  rcases arg_n (x := x5) (lo := 1) (hi := 500) 1 500 rfl rfl (by decide) (by decide) with q | ⟨t, ht1, ht, rfl, q⟩
  · rw [if_pos q, if_pos q]
    exact ⟨-1, u, v, rfl, rfl, h⟩
  rw [if_neg q, if_neg q, if_pos rfl, if_neg q0]
  obtain ⟨h2, p2, s2, k1, k2, k3⟩ := saves_s (n := n) (by omega) h
  obtain ⟨A, hA⟩ := h.1
  have hT := hA.tick
  have c116 : (116 : Int32).toNatClampNeg = 116 := rfl
  have k116 : ∀ {α : Type} {a : Option α}, chk 116 289 a = a := fun {α} {a} => chk_nI (j := 116) (by decide) (by decide)
  have c122 : (122 : Int32).toNatClampNeg = 122 := rfl
  have k122 : ∀ {α : Type} {a : Option α}, chk 122 289 a = a := fun {α} {a} => chk_nI (j := 122) (by decide) (by decide)
  have c123 : (123 : Int32).toNatClampNeg = 123 := rfl
  have k123 : ∀ {α : Type} {a : Option α}, chk 123 289 a = a := fun {α} {a} => chk_nI (j := 123) (by decide) (by decide)
  obtain ⟨l1, l2⟩ := last_s (T := A 116) (t := t) hT (by omega)
  obtain ⟨l5, w5, A5, g1, g2, g3, g4, g5, g6⟩ := begin_s (n := n) (v := setPast v p2 s2) (x1 := zI z1) (x2 := zI z2) (x3 := zI z3) (x4 := zI z4) (x5 := nI t) (x6 := nI (A 123)) (x7 := nI (A 122)) (x8 := -4) (by omega) hA
  rw [k116, c116, hA.1 116 (by decide), hA.2.2.2.2.1.2.1, k1, k2, bnd_some, bnd_some, g1, bnd_some, k123, k122, k122, k122, c122, c123]
  simp only [l1, l2]
  by_cases e : A 116 + t ≤ 1000000
  · rw [if_pos e, if_pos e]
    obtain ⟨a, S2, w2, A2, r1, r2, r3⟩ := passL (n := n) (t := t) (pas := A 122) (had := A 123) (by omega) o1 o2 o3 o4 ht t 0 n n (A 116) (HL_mk (HL_Hx u) (St_mk (St_So (HL_now u)) (St_Ci (HL_now u)) (St_Fl (HL_now u)) (St_Ch (HL_now u)) l5) (HL_stored u) (HL_trial u) h2 (HL_text u)) (setNow (setPast v p2 s2) w5) A5 (-1) (-4) (by omega) (by omega) (by omega) (by omega) (g3.at (by omega)) g5 h.2.1 g4 (Or.inl ⟨rfl, rfl⟩)
    refine ⟨a, _, _, ?_, ?_, h.next (tr := HL_trial u) ⟨A2, r3.at (by have := r3.tick; omega)⟩ k3⟩
    · rw [show Lo_entries l5 = nI (A 123) from g3.2.2.2.2.2.1.2.1.trans (by rw [g6])]
      exact r1
    · have e122 : Md_now (setPast v p2 s2) 122 = nI (A 122) := hA.1 122 (by decide)
      have e123 : Md_now (setPast v p2 s2) 123 = nI (A 123) := hA.1 123 (by decide)
      rw [e122, e123, nI_1]
      exact g2.trans r2
  · rw [if_neg e, if_neg e]
    exact ⟨-3, u, v, rfl, rfl, h⟩
