/-! THE LAW -/
/-- what holds between the law's steps: the light is fine, without a text; what is stored prints what the law remembers -/
def LI (n : Nat) (u : HLV) (s : Int64) : Prop := OK u ∧ Tx_length (HL_text u) = 0 ∧ (Hx_isStored (HL_Hx u) = 1 → ∃ w, RS (HL_stored u) w ∧ Prt n w s)
theorem LI.keep {n : Nat} {u u2 : HLV} {s : Int64} (h : LI n u s) (ho : OK u2) (hk : keepsV u u2) : LI n u2 s := by
  obtain ⟨_, h2, h3⟩ := h
  refine ⟨ho, hk.2.2.trans h2, fun z => ?_⟩
  rw [hk.1] at z
  obtain ⟨w, a, b⟩ := h3 z
  exact ⟨w, by rw [hk.2.1]; exact a, b⟩
theorem rem_z {a m : Nat} (ha : a < 2 ^ 31) (h0 : 0 < m) (hm : m < 2 ^ 31) : nI a - nI a / (nI m) * (nI m) = nI (a % m) := pk_rem ha h0 hm
theorem sub_z (a b : Nat) : nI a - nI b = zI ((a : Int) - (b : Int)) := by
  rw [zI_nI, zI_nI, zI_sub]
section LAW
variable {n : Nat} {rec : HLV → Int32 → Int64 → Int32 → Option Int32} {x3 : Int64} {t : Nat}
theorem law_e (hn : 30000 < n) (ht : t < 100) {u : HLV} (h : LI n u x3) : ∃ u', LI n u' x3 ∧ (if (nI t - nI t / 8 * 8) = 5 then (F_L_areErrors n u).bind fun q => if q.1 = 0 then rec q.2 (0 : Int32) x3 (nI t + 1) else rec q.2 (1 : Int32) x3 (nI t + 1) else rec u (1 : Int32) x3 (nI t + 1)) = rec u' 1 x3 (nI (t + 1)) := by
  rw [nI_1]
  by_cases c : (nI t - nI t / 8 * 8) = 5
  · obtain ⟨u2, g1, g2, g3⟩ := areErrors_s hn h.1 h.2.1
    rw [if_pos c, g1, bnd_some, if_neg n10]
    exact ⟨u2, h.keep g2 g3, rfl⟩
  · rw [if_neg c]
    exact ⟨u, h, rfl⟩
theorem law_p (hn : 30000 < n) (ht : t < 100) {a b : Nat} (ha : a < 8192) (hb : b < 8192) {u : HLV} (h : LI n u x3) : ∃ u', LI n u' x3 ∧ (if (nI t - nI t / 3 * 3) = 2 then (F_L_isPassage n u ((nI b - nI b / 900 * 900) - 450) ((nI a - nI a / 900 * 900) - 450) (1 + (nI a - nI a / 70 * 70))).bind fun q8 => if q8.1 = 0 then rec q8.2 (0 : Int32) x3 (nI t + 1) else if (nI t - nI t / 8 * 8) = 5 then (F_L_areErrors n q8.2).bind fun q9 => if q9.1 = 0 then rec q9.2 (0 : Int32) x3 (nI t + 1) else rec q9.2 (1 : Int32) x3 (nI t + 1) else rec q8.2 (1 : Int32) x3 (nI t + 1) else if (nI t - nI t / 8 * 8) = 5 then (F_L_areErrors n u).bind fun q7 => if q7.1 = 0 then rec q7.2 (0 : Int32) x3 (nI t + 1) else rec q7.2 (1 : Int32) x3 (nI t + 1) else rec u (1 : Int32) x3 (nI t + 1)) = rec u' 1 x3 (nI (t + 1)) := by
  by_cases c : (nI t - nI t / 3 * 3) = 2
  · have e1 : (nI b - nI b / 900 * 900) - 450 = zI (((b % 900 : Nat) : Int) - 450) := by
      rw [show nI b - nI b / 900 * 900 = nI (b % 900) from rem_z (by omega) (by decide) (by decide)]
      exact sub_z _ 450
    have e2 : (nI a - nI a / 900 * 900) - 450 = zI (((a % 900 : Nat) : Int) - 450) := by
      rw [show nI a - nI a / 900 * 900 = nI (a % 900) from rem_z (by omega) (by decide) (by decide)]
      exact sub_z _ 450
    have e3 : 1 + (nI a - nI a / 70 * 70) = nI (1 + a % 70) := by
      rw [show nI a - nI a / 70 * 70 = nI (a % 70) from rem_z (by omega) (by decide) (by decide)]
      exact nI_add 1 _
    obtain ⟨u2, g1, g2, g3⟩ := isPassage_s (t := 1 + a % 70) (x := ((b % 900 : Nat) : Int) - 450) (y := ((a % 900 : Nat) : Int) - 450) hn h.1 ⟨by omega, by omega⟩ ⟨by omega, by omega⟩ (by omega) (by omega)
    rw [if_pos c, e1, e2, e3, g1, bnd_some, if_neg n10]
    exact law_e hn ht (h.keep g2 g3.v)
  · rw [if_neg c]
    exact law_e hn ht h
theorem law_J (hn : 30000 < n) (ht : t < 100) {a b : Nat} (ha : a < 8192) (hb : b < 8192) {u : HLV} (h : LI n u x3) {x9 : Int32} (h9 : (-4 : Int32) ≤ x9) : ∃ u', LI n u' x3 ∧ F_law_J n rec u 1 x3 (nI t) (nI a) (nI b) x9 = rec u' 1 x3 (nI (t + 1)) := by
  have e1 : (nI a - nI a / 400 * 400) - 200 = zI (((a % 400 : Nat) : Int) - 200) := by
    rw [show nI a - nI a / 400 * 400 = nI (a % 400) from rem_z (by omega) (by decide) (by decide)]
    exact sub_z _ 200
  have e2 : (nI b - nI b / 400 * 400) - 200 = zI (((b % 400 : Nat) : Int) - 200) := by
    rw [show nI b - nI b / 400 * 400 = nI (b % 400) from rem_z (by omega) (by decide) (by decide)]
    exact sub_z _ 200
  obtain ⟨S, d1⟩ := areDir (n := n) (u := u) (x := ((a % 400 : Nat) : Int) - 200) (y := ((b % 400 : Nat) : Int) - 200) (by omega) h.1 ⟨by omega, by omega⟩ ⟨by omega, by omega⟩
  have hS : LI n (setTr u S) x3 := h.keep (h.1.tr S) (setTr_keeps u S).v
  unfold F_law_J
  rw [if_neg n10, if_neg (Int32.not_lt.mpr h9), lawLight_s hn h.1, bnd_some, if_neg n10, e1, e2, d1, bnd_some, if_neg n10]
  by_cases c : (nI t - nI t / 4 * 4) = 1
  · obtain ⟨u2, g1, g2, g3⟩ := isAhead_s hn hS.1
    rw [if_pos c]
    show ∃ u', LI n u' x3 ∧ (F_L_isAhead n (setTr u S)).bind _ = _
    rw [g1, bnd_some, if_neg n10]
    exact law_p hn ht ha hb (hS.keep g2 g3.v)
  · rw [if_neg c]
    exact law_p hn ht ha hb hS
end LAW
theorem and_z (y : Int32) : ∃ z : Nat, z < 2 ^ 31 ∧ y &&& 2147483647 = nI z := by
  refine ⟨(y.toBitVec &&& 2147483647#32).toNat, ?_, ?_⟩
  · rw [BitVec.toNat_and]
    have : y.toBitVec.toNat &&& (2147483647#32).toNat ≤ (2147483647#32).toNat := Nat.and_le_right
    have e : (2147483647#32).toNat = 2147483647 := rfl
    omega
  · apply Int32.toBitVec_inj.mp
    show y.toBitVec &&& 2147483647#32 = BitVec.ofNat 32 (y.toBitVec &&& 2147483647#32).toNat
    rw [BitVec.ofNat_toNat, BitVec.setWidth_eq]
theorem low_s (y : Int32) {m : Nat} (h0 : 0 < m) (hm : m < 2 ^ 31) : ∃ z : Nat, z < m ∧ F_L_low y (nI m) = some (nI z) := by
  obtain ⟨z, hz, e⟩ := and_z y
  refine ⟨z % m, Nat.mod_lt _ h0, ?_⟩
  unfold F_L_low
  rw [nzd_nI h0 hm, e, rem_z hz h0 hm]
theorem cell_s {L t : Nat} (xs : Nat → Int32) (hL : L ≤ 260) (ht : t < 100) : ∃ c, F_L_cell L xs (nI t) = some c := by
  unfold F_L_cell
  by_cases c : L ≤ t
  · rw [if_pos (show Int32.ofNat L ≤ nI t from nI_le c (by omega))]
    exact ⟨_, rfl⟩
  · rw [if_neg (show ¬ Int32.ofNat L ≤ nI t from nI_nlE (by omega) (by omega)), chk_nI (by omega) (by omega)]
    exact ⟨_, rfl⟩
theorem lawL {n L : Nat} {xs : Nat → Int32} (hn : 30000 < n) (hL : L ≤ 260) : ∀ (m t k : Nat) (u : HLV) (x3 : Int64), t + m = 30 → m < k → LI n u x3 → F_law n L xs k u 1 x3 (nI t) = some 1 := by
  intro m
  induction m with
  | zero =>
    intro t k u x3 hi hk h
    obtain ⟨k, rfl⟩ : ∃ z, k = z + 1 := ⟨k - 1, by omega⟩
    obtain ⟨u2, g1, _, _⟩ := areErrors_s hn h.1 h.2.1
    rw [F_law, if_pos (show (30 : Int32) ≤ nI t by rw [lit, nI_leI (by omega) (by omega)]; omega), if_neg n10, g1, bnd_some, if_neg n10]
  | succ m ih =>
    intro t k u x3 hi hk h
    obtain ⟨k, rfl⟩ : ∃ z, k = z + 1 := ⟨k - 1, by omega⟩
    obtain ⟨c, hc⟩ := cell_s (t := t) xs hL (by omega)
    obtain ⟨a, ha, la⟩ := low_s (c >>> (5 &&& 31)) (m := 8192) (by decide) (by decide)
    obtain ⟨b, hb, lb⟩ := low_s (c >>> (11 &&& 31)) (m := 8192) (by decide) (by decide)
    obtain ⟨s, hs, ls⟩ := low_s c (m := 18) (by decide) (by decide)
    have la : F_L_low (c >>> (5 &&& 31)) 8192 = some (nI a) := la
    have lb : F_L_low (c >>> (11 &&& 31)) 8192 = some (nI b) := lb
    have ls : F_L_low c 18 = some (nI s) := ls
    have J : ∀ (u2 : HLV) (y : Int64) (r : Int32), LI n u2 y → (-4 : Int32) ≤ r → F_law_J n (fun a b c d => F_law n L xs k a b c d) u2 1 y (nI t) (nI a) (nI b) r = some 1 := by
      intro u2 y r h2 hr
      obtain ⟨u', g1, g2⟩ := law_J (t := t) (rec := fun a b c d => F_law n L xs k a b c d) hn (by omega) ha hb h2 hr
      rw [g2]
      exact ih (t + 1) k u' y (by omega) (by omega) g1
    obtain ⟨v, hv⟩ := h.1
    have fin : ∀ (X : Option (Int32 × HLV)), (∃ r u2 v2, X = some (r, u2) ∧ R u2 v2 ∧ (-4 : Int32) ≤ r) → Kp u X → (X.bind fun q => F_law_J n (fun a b c d => F_law n L xs k a b c d) q.2 1 x3 (nI t) (nI a) (nI b) q.1) = some 1 := by
      intro X hX hK
      obtain ⟨r, u2, v2, g1, g2, g3⟩ := hX
      have kp := hK _ g1
      rw [g1, bnd_some]
      exact J u2 x3 r (h.keep ⟨v2, g2⟩ kp.v) g3
    have opP : ∀ {X : Option (Int32 × HLV)} {Y : Option (Int32 × MdV)}, (∃ r u2 v2, X = some (r, u2) ∧ Y = some (r, v2) ∧ R u2 v2 ∧ (-4 : Int32) ≤ r) → ∃ r u2 v2, X = some (r, u2) ∧ R u2 v2 ∧ (-4 : Int32) ≤ r := by
      intro X Y hX
      obtain ⟨r, u2, v2, g1, _, g2, g3⟩ := hX
      exact ⟨r, u2, v2, g1, g2, g3⟩
    obtain ⟨A, hA, _⟩ := id hv.1
    have nx : ∀ i j : Nat, i < 100 → j < 100 → i ≠ j → ¬ nI i = nI j := fun i j h1 h2 h3 z => h3 ((nI_eq (by omega) (by omega)).mp z)
    have pnt : ((F_X9_paint n u (nI a - nI a / 4 * 4) (nI b - nI b / 64 * 64) (nI a - nI a / 64 * 64)).bind fun q => F_law_J n (fun a b c d => F_law n L xs k a b c d) q.2 1 x3 (nI t) (nI a) (nI b) q.1) = some 1 := fin _ (opP (op_paint (n := n) (by omega) hv _ _ _)) (kp_paint _ _ _ _ _)
    have cod : ∀ z : Int32, ((F_X9_setCode u (1 + (nI a - nI a / 60 * 60)) (nI b - nI b / 61 * 61) z).bind fun q => F_law_J n (fun a b c d => F_law n L xs k a b c d) q.2 1 x3 (nI t) (nI a) (nI b) q.1) = some 1 := fun z => fin _ (opP (op_setCode (n := n) (by omega) hv _ _ _)) (kp_setCode _ _ _ _)
    have lmp : ((F_X9_count n u 5).bind fun q => (F_X9_addLamp n u q (1 + (nI a - nI a / 2000 * 2000)) (1 + (nI b - nI b / 90 * 90))).bind fun q => F_law_J n (fun a b c d => F_law n L xs k a b c d) q.2 1 x3 (nI t) (nI a) (nI b) q.1) = some 1 := by
      rw [count5 hA, bnd_some]
      exact fin _ (opP (op_addLamp (n := n) (by omega) hv _ _ _)) (kp_addLamp _ _ _ _ _)
    have adv : ((F_X9_advance n u (1 + (nI a - nI a / 150 * 150))).bind fun q => F_law_J n (fun a b c d => F_law n L xs k a b c d) q.2 1 x3 (nI t) (nI a) (nI b) q.1) = some 1 := fin _ (op_advance (by omega) hv _) (kp_advance _ _ _)
    have und : ((F_X9_undo u).bind fun q => F_law_J n (fun a b c d => F_law n L xs k a b c d) q.2 1 x3 (nI t) (nI a) (nI b) q.1) = some 1 := fin _ (opP (op_undo (n := n) (by omega) hv)) (kp_undo _)
    rw [F_law, if_neg (show ¬ (30 : Int32) ≤ nI t by rw [lit, nI_leI (by omega) (by omega)]; omega), if_neg n10, hc, bnd_some, la, bnd_some, lb, bnd_some, ls, bnd_some]
    by_cases e0 : s = 0
    · subst e0; rw [if_pos (show nI 0 = 0 from rfl)]; exact pnt
    rw [if_neg (show ¬ nI s = 0 from nx s 0 (by omega) (by omega) e0)]
    by_cases e1 : s = 1
    · subst e1; rw [if_pos (show nI 1 = 1 from rfl)]; exact pnt
    rw [if_neg (show ¬ nI s = 1 from nx s 1 (by omega) (by omega) e1)]
    by_cases e2 : s = 2
    · subst e2
      rw [if_pos (show nI 2 = 2 from rfl)]
      split
      · exact cod 1
      · exact cod 0
    rw [if_neg (show ¬ nI s = 2 from nx s 2 (by omega) (by omega) e2)]
    by_cases e3 : s = 3
    · subst e3
      rw [if_pos (show nI 3 = 3 from rfl)]
      split
      · exact cod 1
      · exact cod 0
    rw [if_neg (show ¬ nI s = 3 from nx s 3 (by omega) (by omega) e3)]
    by_cases e4 : s = 4
    · subst e4; rw [if_pos (show nI 4 = 4 from rfl)]; exact fin _ (opP (op_setChanger (n := n) (by omega) hv _)) (kp_setChanger _ _ _)
    rw [if_neg (show ¬ nI s = 4 from nx s 4 (by omega) (by omega) e4)]
    by_cases e5 : s = 5
    · subst e5; rw [if_pos (show nI 5 = 5 from rfl)]; exact lmp
    rw [if_neg (show ¬ nI s = 5 from nx s 5 (by omega) (by omega) e5)]
    by_cases e6 : s = 6
    · subst e6; rw [if_pos (show nI 6 = 6 from rfl)]; exact lmp
    rw [if_neg (show ¬ nI s = 6 from nx s 6 (by omega) (by omega) e6)]
    by_cases e7 : s = 7
    · subst e7; rw [if_pos (show nI 7 = 7 from rfl)]; exact lmp
    rw [if_neg (show ¬ nI s = 7 from nx s 7 (by omega) (by omega) e7)]
    by_cases e8 : s = 8
    · subst e8; rw [if_pos (show nI 8 = 8 from rfl)]; exact lmp
    rw [if_neg (show ¬ nI s = 8 from nx s 8 (by omega) (by omega) e8)]
    by_cases e9 : s = 9
    · subst e9; rw [if_pos (show nI 9 = 9 from rfl)]; exact fin _ (opP (op_takeLamp (n := n) (by omega) hv _)) (kp_takeLamp _ _)
    rw [if_neg (show ¬ nI s = 9 from nx s 9 (by omega) (by omega) e9)]
    by_cases e10 : s = 10
    · subst e10; rw [if_pos (show nI 10 = 10 from rfl)]; exact fin _ (opP (op_set (n := n) (by omega) hv _ _)) (kp_set _ _ _)
    rw [if_neg (show ¬ nI s = 10 from nx s 10 (by omega) (by omega) e10)]
    by_cases e11 : s = 11
    · subst e11; rw [if_pos (show nI 11 = 11 from rfl)]; exact adv
    rw [if_neg (show ¬ nI s = 11 from nx s 11 (by omega) (by omega) e11)]
    by_cases e12 : s = 12
    · subst e12; rw [if_pos (show nI 12 = 12 from rfl)]; exact adv
    rw [if_neg (show ¬ nI s = 12 from nx s 12 (by omega) (by omega) e12)]
    by_cases e13 : s = 13
    · subst e13; rw [if_pos (show nI 13 = 13 from rfl)]; exact fin _ (op_pass (by omega) hv _ _ _ _ _) (kp_pass _ _ _ _ _ _ _)
    rw [if_neg (show ¬ nI s = 13 from nx s 13 (by omega) (by omega) e13)]
    by_cases e14 : s = 14
    · subst e14
      rw [if_pos (show nI 14 = 14 from rfl)]
      obtain ⟨S', b1, b2, _⟩ := becomeS (S := HL_stored u) hv.1
      have st : F_X9_store u = some (So_tick (St_So (HL_now u)), HL_mk (Hx_mk 1) (HL_now u) S' (HL_trial u) (HL_hist u) (HL_text u)) := by
        unfold F_X9_store
        rw [b1, bnd_some]
      obtain ⟨r, u1, v1, g1, _, g2, g3⟩ := op_store (n := n) (by omega) hv
      have ee := Option.some.inj (st.symm.trans g1)
      obtain ⟨x1, x2⟩ := Prod.mk.inj ee
      obtain ⟨pa, S, p1, hp⟩ := print_s (u := u1) hn ⟨v1, g2⟩ (w := Md_now v) (by rw [← x2]; exact hv.1)
      obtain ⟨c0, c1, c2, c3⟩ := cmp_s (n := n) (u := setTr u1 S) (w := Md_now v) (by omega) (by rw [← x2]; exact hv.1) (by rw [← x2]; exact b2) (by rw [← x2]; rfl)
      rw [g1, bnd_some]
      show (F_L_print n u1).bind _ = _
      rw [p1, bnd_some]
      show (F_X9_compare n (setTr u1 S) 0).bind _ = _
      rw [c0, bnd_some, if_pos rfl]
      show (F_X9_compare n (setTr u1 S) 1).bind _ = _
      rw [c1, bnd_some, if_pos rfl]
      show (F_X9_compare n (setTr u1 S) 2).bind _ = _
      rw [c2, bnd_some, if_pos rfl]
      show (F_X9_compare n (setTr u1 S) 3).bind _ = _
      rw [c3, bnd_some, if_pos rfl]
      refine J (setTr u1 S) pa r ⟨⟨v1, g2⟩, ?_, fun _ => ⟨Md_now v, ?_, hp⟩⟩ g3
      · rw [← x2]
        exact h.2.1
      · rw [← x2]
        exact b2
    rw [if_neg (show ¬ nI s = 14 from nx s 14 (by omega) (by omega) e14)]
    by_cases e15 : s = 15
    · subst e15
      rw [if_pos (show nI 15 = 15 from rfl)]
      rcases hv.2.2.1 with ⟨i1, _⟩ | ⟨i1, _⟩
      · have rc : F_X9_recall u = some (-2, u) := by
          unfold F_X9_recall
          rw [i1, if_pos rfl]
        rw [rc, bnd_some, if_pos rfl]
        exact J u x3 (-2) h (by decide)
      · obtain ⟨w, hw, hp⟩ := h.2.2 i1
        obtain ⟨h2, _, _, k1, _, _⟩ := saves_s (n := n) (by omega) hv
        obtain ⟨S', b1, b2, b3⟩ := becomeS (S := HL_now u) hw
        obtain ⟨B, hB, _⟩ := id hw
        have rc : F_X9_recall u = some (So_tick (St_So S'), HL_mk (HL_Hx u) S' (HL_stored u) (HL_trial u) h2 (HL_text u)) := by
          unfold F_X9_recall
          rw [i1, if_neg n10, k1, bnd_some, b1, bnd_some]
        obtain ⟨r, u1, v1, g1, _, g2, g3⟩ := op_recall (n := n) (by omega) hv
        have kp := kp_recall u _ g1
        have ee := Option.some.inj (rc.symm.trans g1)
        obtain ⟨x1, x2⟩ := Prod.mk.inj ee
        have hw1 : RS (HL_now u1) w := by rw [← x2]; exact b2
        have nr : ¬ r = -2 := by
          rw [← x1, b3, hB.2.2.2.2.1.2.1]
          exact (n4_of (by have := hB.tick; omega)).2.2.1
        obtain ⟨S, p1⟩ := hp u1 hw1
        obtain ⟨_, _, _, c3⟩ := cmp_s (n := n) (u := setTr u1 S) (w := w) (by omega) hw1 (show RS (HL_stored u1) w by rw [kp.2.1]; exact hw) (show Hx_isStored (HL_Hx u1) = 1 by rw [kp.1]; exact i1)
        rw [g1, bnd_some, if_neg nr]
        show (F_L_print n u1).bind _ = _
        rw [p1, bnd_some, if_pos ((lg_cmp_eq x3 x3).mpr rfl)]
        show (F_X9_compare n (setTr u1 S) 3).bind _ = _
        rw [c3, bnd_some, if_pos rfl]
        exact J (setTr u1 S) x3 r (h.keep ⟨v1, g2⟩ (kp.trans (setTr_keeps u1 S)).v) g3
    rw [if_neg (show ¬ nI s = 15 from nx s 15 (by omega) (by omega) e15)]
    exact und
