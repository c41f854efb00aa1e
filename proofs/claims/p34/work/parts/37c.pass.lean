/-! SHIPS: where a ship is -/
theorem xor_nn {a b : Int32} (hb : 0 ≤ b.toInt) : (0 ≤ a ^^^ b) ↔ 0 ≤ a.toInt := by
  have e1 : decide ((a ^^^ b).toInt < 0) = (decide (a.toInt < 0) ^^ decide (b.toInt < 0)) := by
    rw [← Int32.toInt_toBitVec, ← Int32.toInt_toBitVec, ← Int32.toInt_toBitVec, ← BitVec.msb_eq_toInt, ← BitVec.msb_eq_toInt, ← BitVec.msb_eq_toInt, Int32.toBitVec_xor, BitVec.msb_xor]
  rw [show decide (b.toInt < 0) = false from decide_eq_false (by omega), Bool.xor_false] at e1
  have e2 := decide_eq_decide.mp e1
  rw [Int32.le_iff_toInt_le]
  have : (0 : Int32).toInt = 0 := rfl
  omega
theorem alongP {x : Int} {V t : Nat} {W : Int32} (hW : W = nI V) (hV : V < 2 ^ 31) (h1 : 1 ≤ t) (ht : t < 2 ^ 31) : F_J9_floorDiv_7cf53 W (nI t) = some (nI (V / t)) ∧ (if 0 ≤ W - W / nI t * nI t then some (zI x + W / nI t) else some (zI x + (W / nI t - 1))) = some (zI x + nI (V / t)) := by
  subst hW
  have d : nI V / nI t = nI (V / t) := pk_div hV (by omega) ht
  have m := Nat.mod_lt V (show 0 < t by omega)
  refine ⟨?_, ?_⟩
  · unfold F_J9_floorDiv_7cf53
    rw [nzd_nI (by omega) ht, if_pos ((xor_nn (by rw [nI_toInt ht]; omega)).mpr (by rw [nI_toInt hV]; omega)), d]
  · rw [pk_rem hV (by omega) ht, if_pos (nI_pos' (by omega)), d]
theorem alongN {x : Int} {V t : Nat} {W : Int32} (hW : W = zI (-(V : Int))) (hV : V < 2 ^ 30) (hV0 : 0 < V) (h1 : 1 ≤ t) (ht : t < 2 ^ 30) : F_J9_floorDiv_7cf53 W (nI t) = some (zI (-((if V % t = 0 then V / t else V / t + 1 : Nat) : Int))) ∧ (if 0 ≤ W - W / nI t * nI t then some (zI x + W / nI t) else some (zI x + (W / nI t - 1))) = some (zI x + zI (-((if V % t = 0 then V / t else V / t + 1 : Nat) : Int))) := by
  subst hW
  have m := Nat.mod_lt V (show 0 < t by omega)
  have le := Nat.div_le_self V t
  have dm := Nat.div_add_mod V t
  have td : (V : Int).tdiv (t : Int) = ((V / t : Nat) : Int) := rfl
  generalize V / t = Q at le dm td ⊢
  generalize V % t = Z at m dm ⊢
  have d : zI (-(V : Int)) / nI t = zI (-(Q : Int)) := by
    apply Int32.toInt_inj.mp
    rw [Int32.toInt_div_of_ne_right _ _ (fun z => by have := congrArg Int32.toInt z; rw [nI_toInt (by omega), show (-1 : Int32).toInt = -1 from rfl] at this; omega), zI_toInt (by omega) (by omega), zI_toInt (by omega) (by omega), nI_toInt (by omega), Int.neg_tdiv, td]
  have r : zI (-(V : Int)) - zI (-(Q : Int)) * nI t = zI (-(Z : Int)) := by
    rw [zI_nI, zI_mul, zI_sub]
    congr 1
    have : ((t * Q + Z : Nat) : Int) = (V : Int) := by rw [dm]
    rw [Int.natCast_add, Int.natCast_mul] at this
    rw [Int.neg_mul, Int.mul_comm]
    omega
  have neg : ¬ (0 : Int) ≤ (zI (-(V : Int))).toInt := by
    rw [zI_toInt (by omega) (by omega)]
    omega
  have eqq : (zI (-(Q : Int)) * nI t = zI (-(V : Int))) ↔ Z = 0 := by
    rw [zI_nI, zI_mul]
    have e : -(Q : Int) * (t : Int) = -((t * Q : Nat) : Int) := by
      rw [Int.natCast_mul, Int.neg_mul, Int.mul_comm]
    generalize t * Q = P at e dm
    rw [e, zI_eqI (by omega) (by omega) (by omega) (by omega)]
    omega
  have q1 : zI (-(Q : Int)) - 1 = zI (-((Q + 1 : Nat) : Int)) := by
    show zI (-(Q : Int)) - zI 1 = _
    rw [zI_sub]
    congr 1
    omega
  have hz : (0 ≤ zI (-(Z : Int))) ↔ Z = 0 := by
    rw [zI_0, zI_leI (by omega) (by omega) (by omega) (by omega)]
    omega
  refine ⟨?_, ?_⟩
  · unfold F_J9_floorDiv_7cf53
    rw [nzd_nI (by omega) (by omega), if_neg (fun z => neg ((xor_nn (by rw [nI_toInt (by omega)]; omega)).mp z)), d]
    simp only [eqq]
    by_cases c : Z = 0
    · rw [if_pos c, if_pos c]
    · rw [if_neg c, if_neg c, q1]
  · rw [d, r]
    simp only [hz]
    by_cases c : Z = 0
    · rw [if_pos c, if_pos c]
    · rw [if_neg c, if_neg c, q1]
theorem along_s {x tx : Int} {i t : Nat} (hx : ok4 x) (htx : ok4 tx) (hi : i < t) (h5 : t ≤ 500) : ∃ (q : Int32) (p : Int), ok4 p ∧ F_J9_floorDiv_7cf53 ((zI tx - zI x) * nI i) (nI t) = some q ∧ zI x + q = zI p ∧ F_X10_along (zI x) (zI tx) (nI i) (nI t) = some (zI p) := by
  have nz : ∀ {α : Type} {a : Option α}, nzd (nI t) a = a := fun {α} {a} => nzd_nI (by omega) (by omega)
  unfold ok4 at hx htx ⊢
  unfold F_X10_along
  rw [nz, nz]
  by_cases c : x ≤ tx
  · obtain ⟨D, hD⟩ : ∃ D : Nat, tx = x + D := ⟨(tx - x).toNat, by omega⟩
    have hV : (zI tx - zI x) * nI i = nI (D * i) := by
      rw [zI_sub, zI_nI, zI_mul, zI_nI]
      congr 1
      rw [show tx - x = (D : Int) by omega, Int.natCast_mul]
    have b1 : D * i ≤ 20000 * 500 := Nat.mul_le_mul (by omega) (by omega)
    have b2 : D * i / t ≤ D := Nat.div_le_of_le_mul (by rw [Nat.mul_comm t]; exact Nat.mul_le_mul (Nat.le_refl _) (by omega))
    obtain ⟨g1, g2⟩ := alongP (x := x) hV (by omega) (by omega : 1 ≤ t) (by omega)
    generalize D * i / t = Q at b2 g1 g2
    have s : zI x + nI Q = zI (x + (Q : Int)) := by rw [zI_nI, zI_add]
    refine ⟨_, x + (Q : Int), ⟨by omega, by omega⟩, g1, s, ?_⟩
    rw [g2, s]
  · obtain ⟨D, hD⟩ : ∃ D : Nat, tx = x - D := ⟨(x - tx).toNat, by omega⟩
    by_cases i0 : i = 0
    · subst i0
      have hV : (zI tx - zI x) * nI 0 = nI 0 := by
        rw [show nI 0 = (0 : Int32) from rfl, Int32.mul_zero]
      obtain ⟨g1, g2⟩ := alongP (x := x) hV (by omega) (by omega : 1 ≤ t) (by omega)
      have s : zI x + nI (0 / t) = zI x := by rw [Nat.zero_div, show nI 0 = (0 : Int32) from rfl, Int32.add_zero]
      exact ⟨_, x, hx, g1, s, by rw [g2, s]⟩
    · have hV : (zI tx - zI x) * nI i = zI (-((D * i : Nat) : Int)) := by
        rw [zI_sub, zI_nI, zI_mul]
        congr 1
        rw [show tx - x = -(D : Int) by omega, Int.natCast_mul, Int.neg_mul]
      have b1 : D * i ≤ 20000 * 500 := Nat.mul_le_mul (by omega) (by omega)
      have b0 : 0 < D * i := Nat.mul_pos (by omega) (by omega)
      have b3 : D * i < t * D := by rw [Nat.mul_comm t]; exact Nat.mul_lt_mul_of_pos_left hi (by omega)
      have b2 : D * i / t < D := Nat.div_lt_of_lt_mul b3
      obtain ⟨g1, g2⟩ := alongN (x := x) hV (by omega) b0 (by omega : 1 ≤ t) (by omega)
      have b4 : (if D * i % t = 0 then D * i / t else D * i / t + 1) ≤ D := by split <;> omega
      generalize (if D * i % t = 0 then D * i / t else D * i / t + 1) = Q at b4 g1 g2
      have s : zI x + zI (-(Q : Int)) = zI (x - (Q : Int)) := by
        rw [zI_add]
        rfl
      exact ⟨_, x - (Q : Int), ⟨by omega, by omega⟩, g1, s, by rw [g2, s]⟩
/-! SHIPS: passing -/
theorem beginL_c {n : Nat} : ∀ (m i k : Nat) (l : LoV), i + m = 4 → m < k → ∃ sh, F_X6_beginPassage_L12 n k l (nI i) = some (Lo_mk (Lo_ticks l) (Lo_colors l) (Lo_directions l) (Lo_numbers l) sh (Lo_passages l) (Lo_entries l)) ∧ (∀ j, i ≤ j → j < 4 → sh j = 0) ∧ ∀ j, j < i → sh j = Lo_shown l j := by
  intro m
  induction m with
  | zero =>
    intro i k l hi hk
    obtain ⟨k, rfl⟩ : ∃ z, k = z + 1 := ⟨k - 1, by omega⟩
    refine ⟨Lo_shown l, ?_, fun j h1 h2 => by omega, fun j _ => rfl⟩
    rw [F_X6_beginPassage_L12, if_pos (by rw [lit, nI_leI (by omega) (by omega)]; omega)]
  | succ m ih =>
    intro i k l hi hk
    obtain ⟨k, rfl⟩ : ∃ z, k = z + 1 := ⟨k - 1, by omega⟩
    obtain ⟨sh, g1, g2, g3⟩ := ih (i + 1) k (Lo_mk (Lo_ticks l) (Lo_colors l) (Lo_directions l) (Lo_numbers l) (upd (Lo_shown l) i 0) (Lo_passages l) (Lo_entries l)) (by omega) (by omega)
    refine ⟨sh, ?_, ?_, ?_⟩
    · rw [F_X6_beginPassage_L12, if_neg (by rw [lit, nI_leI (by omega) (by omega)]; omega), chk_nI (by omega) (by decide), nI_clamp (by omega), nI_1]
      exact g1
    · intro j h1 h2
      by_cases e : j = i
      · subst e
        rw [g3 _ (by omega)]
        exact upd_at
      · exact g2 j (by omega) h2
    · intro j hj
      rw [g3 j (by omega)]
      exact upd_ne (by omega)
