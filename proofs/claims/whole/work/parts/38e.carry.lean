/-! TEXT: carrying it out -/
theorem bind_eta {α β γ : Type} (X : Option (α × β × γ)) : (X.bind fun q => some (q.1, q.2.1, q.2.2)) = X := by
  cases X with
  | none => rfl
  | some a => rfl
theorem ItemR.mono {L p e : Nat} {t : TxV} {v : MdV} {X : Option (Int32 × TxV × StV)} {Y : Option (Int32 × MdV)} (h : ItemR L e t v X Y) (he : p ≤ e) : ItemR L p t v X Y := by
  obtain ⟨r, nb, x, S2, w2, nb2, pl, mn, h1, h2, h3, h4⟩ := h
  refine ⟨r, nb, x, S2, w2, nb2, pl, mn, h1, h2, h3, fun z => ?_⟩
  obtain ⟨p2, a, b, c⟩ := h4 z
  exact ⟨p2, by omega, b, c⟩
theorem item_s {n p : Nat} {t : TxV} {v : MdV} {S : StV} {T : Nat → Nat} {L : Nat} {w nb nbC : Nat → Int32} {mn : Int32} (hn : 200 < n) (h : TC t T L) (hm : TM v T L) (hp : p ≤ L) (hS : RS S w) : ItemR L p t v (F_X8_carryOutItem n (setC t nbC (nI p)) S) (F_X10_reasonOf n (setT v w nb (nI p) mn)) := by
  have h1 := h.1
  have q0 : ¬ (1 : Int32) = 0 := by decide
  obtain ⟨e1, e2, _⟩ := lend_in (T := T) hp
  have ea : Tx_at (setC t nbC (nI p)) = nI p := rfl
  have wl := wdn_lt (T := T) hp
  unfold F_X8_carryOutItem F_X10_reasonOf
  rw [skipLetters_c (by omega) h hp, bnd_some, ea, isWord_c (by omega) h (show 0 < 14 by decide) hp, isWord_c (by omega) h (show 1 < 14 by decide) hp, isWord_c (by omega) h (show 2 < 14 by decide) hp, isWord_c (by omega) h (show 3 < 14 by decide) hp, isWord_c (by omega) h (show 4 < 14 by decide) hp, isWord_c (by omega) h (show 5 < 14 by decide) hp, word_m (by omega) hm hp]
  simp only [bnd_some]
  rw [itemOf_s wl, bnd_some]
  unfold itN
  by_cases c0 : wdn T L p = cd 0
  · rw [if_pos c0, if_neg q0, if_pos c0, if_neg (show ¬ (0 : Int32) = -4 by decide), if_pos rfl, bind_eta]
    exact (item_sector (by omega) h hm e2 hS).mono e1
  rw [if_neg c0, if_pos rfl, if_neg c0]
  by_cases c1 : wdn T L p = cd 1
  · rw [if_pos c1, if_neg q0, if_pos c1, if_neg (show ¬ (1 : Int32) = -4 by decide), if_neg q0, if_neg (show ¬ (1 : Int32) = 2 by decide), if_neg (show ¬ (1 : Int32) = 3 by decide), bind_eta]
    exact (item_code hn h hm e2 hS).mono e1
  rw [if_neg c1, if_pos rfl, if_neg c1]
  by_cases c2 : wdn T L p = cd 2
  · rw [if_pos c2, if_neg q0, if_pos c2, if_neg (show ¬ (2 : Int32) = -4 by decide), if_neg (show ¬ (2 : Int32) = 0 by decide), if_pos rfl, bind_eta]
    exact (item_changer (by omega) h hm e2 hS).mono e1
  rw [if_neg c2, if_pos rfl, if_neg c2]
  by_cases c3 : wdn T L p = cd 3
  · rw [if_pos c3, if_neg q0, if_pos c3, if_neg (show ¬ (3 : Int32) = -4 by decide), if_neg (show ¬ (3 : Int32) = 0 by decide), if_neg (show ¬ (3 : Int32) = 2 by decide), if_pos rfl, bind_eta]
    exact (item_lamp (by omega) h hm e2 hS).mono e1
  rw [if_neg c3, if_pos rfl, if_neg c3]
  by_cases c4 : wdn T L p = cd 4
  · rw [if_pos c4, if_neg q0, if_pos c4, if_neg (show ¬ (4 : Int32) = -4 by decide), if_neg (show ¬ (4 : Int32) = 0 by decide), if_neg (show ¬ (4 : Int32) = 2 by decide), if_neg (show ¬ (4 : Int32) = 3 by decide), bind_eta]
    exact (item_clear (by omega) h hm e2 hS).mono e1
  rw [if_neg c4, if_pos rfl, if_neg c4]
  by_cases c5 : wdn T L p = cd 5
  · rw [if_pos c5, if_neg q0, if_pos c5, if_neg (show ¬ (5 : Int32) = -4 by decide), if_neg (show ¬ (5 : Int32) = 0 by decide), if_neg (show ¬ (5 : Int32) = 2 by decide), if_neg (show ¬ (5 : Int32) = 3 by decide), bind_eta]
    exact (item_change (by omega) h hm e2 hS).mono e1
  rw [if_neg c5, if_pos rfl, if_neg c5, if_pos rfl]
  exact ⟨1, nbC, _, S, w, nb, _, mn, by decide, rfl, rfl, fun z => by omega⟩
def sameT (t t2 : TxV) : Prop := Tx_signs t2 = Tx_signs t ∧ Tx_length t2 = Tx_length t
def sameV (v v2 : MdV) : Prop := Md_past v2 = Md_past v ∧ Md_stored v2 = Md_stored v ∧ Md_kept v2 = Md_kept v ∧ Md_text v2 = Md_text v ∧ Md_sines v2 = Md_sines v ∧ Md_isStored v2 = Md_isStored v ∧ Md_saved v2 = Md_saved v ∧ Md_length v2 = Md_length v
def CarryR (t : TxV) (v : MdV) (X : Option (Int32 × TxV × StV)) (Y : Option MdV) : Prop :=
  (∃ t2 S2 v2, X = some (1, t2, S2) ∧ Y = some v2 ∧ RS S2 (Md_now v2) ∧ Tx_items t2 = Md_items v2 ∧ Md_wrong v2 = -4 ∧ Md_reason v2 = -4 ∧ sameT t t2 ∧ sameV v v2) ∨
  (∃ t2 S2 v2, ∃ p r : Nat, X = some (0, t2, S2) ∧ Y = some v2 ∧ p < 1000 ∧ Tx_faultIndex t2 = nI p ∧ Tx_faultReason t2 = nI r ∧ Md_wrong v2 = nI p ∧ Md_reason v2 = nI r ∧ sameT t t2 ∧ sameV v v2)
theorem carryL {n : Nat} {T : Nat → Nat} {L : Nat} (hn : 200 < n) : ∀ (m i k k2 p : Nat) (t : TxV) (S : StV) (v : MdV) (w nb nbC : Nat → Int32) (mn : Int32), p + m = L → m < k → m + 1 < k2 → i ≤ p → TC t T L → TM v T L → RS S w → Tx_items t = Md_items v → Md_wrong v = -4 → Md_reason v = -4 →
    CarryR t v (F_X8_carryOut_L12 n k (setC t nbC (nI p)) S (nI i)) (F_X10_carriesOut_L22 n k2 (setT v w nb (nI p) mn)) := by
  intro m
  induction m using Nat.strongRecOn with
  | ind m ih =>
    intro i k k2 p t S v w nb nbC mn hp hk hk2 hi h hm hS hit hwr hre
    obtain ⟨k, rfl⟩ : ∃ z, k = z + 1 := ⟨k - 1, by omega⟩
    obtain ⟨k2, rfl⟩ : ∃ z, k2 = z + 2 := ⟨k2 - 2, by omega⟩
    have h1 := h.1
    have len : Tx_length (setC t nbC (nI p)) = nI L := h.2.1
    have lenM : Md_length (setT v w nb (nI p) mn) = nI L := hm.2.1
    have ea : Tx_at (setC t nbC (nI p)) = nI p := rfl
    have ep : Md_place (setT v w nb (nI p) mn) = nI p := rfl
    have ew : Md_wrong (setT v w nb (nI p) mn) = -4 := hwr
    by_cases cL : L ≤ p
    · have le : nI L ≤ nI p := nI_le cL (by omega)
      refine Or.inl ⟨setC t nbC (nI p), S, setT v w nb (nI p) mn, ?_, ?_, hS, hit, hwr, hre, ⟨rfl, rfl⟩, ⟨rfl, rfl, rfl, rfl, rfl, rfl, rfl, rfl⟩⟩
      · rw [F_X8_carryOut_L12, len, ea, if_pos le]
        split <;> rfl
      · rw [F_X10_carriesOut_L22, lenM, ep, if_pos le]
    · have le : ¬ nI L ≤ nI p := nI_nlE (by omega) (by omega)
      have n120 : ¬ (120 : Int32) ≤ nI i := by rw [lit, nI_leI (by omega) (by omega)]; omega
      have I := item_s (n := n) (p := p) (t := Tx_mk (Tx_signs t) nbC (Tx_length t) (nI p) (Tx_items t) (nI p) (Tx_faultReason t)) (nbC := nbC) (nb := nb) (mn := mn) hn h hm (by omega) hS
      obtain ⟨r, nb2, x, S2, w2, nb3, pl, mn2, hr, g1, g2, g3⟩ := I
      have g1' : F_X8_carryOutItem n (Tx_mk (Tx_signs (setC t nbC (nI p))) (Tx_numbers (setC t nbC (nI p))) (Tx_length (setC t nbC (nI p))) (Tx_at (setC t nbC (nI p))) (Tx_items (setC t nbC (nI p))) (Tx_at (setC t nbC (nI p))) (Tx_faultReason (setC t nbC (nI p)))) S = _ := g1
      have le' : ¬ Tx_length (setC t nbC (nI p)) ≤ Tx_at (setC t nbC (nI p)) := by rw [len, ea]; exact le
      rw [F_X8_carryOut_L12, if_neg n120, if_neg le', g1', bnd_some, F_X10_carriesOut_L22, lenM, ep, if_neg le, ew, if_pos rfl, g2, bnd_some]
      by_cases c0 : r = 0
      · obtain ⟨p2, z1, z2, z3, z4, z5⟩ := g3 c0
        subst c0
        subst z3
        subst z4
        rw [if_pos (show nI 0 = 0 from rfl), if_pos (show nI 0 ≤ 0 by decide), nI_1]
        have J := ih (L - p2) (by omega) (i + 1) k (k2 + 1) p2 (Tx_mk (Tx_signs t) nb2 (Tx_length t) (nI p2) (Tx_items t + 1) (nI p) (nI 0)) S2 (Md_mk w2 (Md_past v) (Md_stored v) (Md_kept v) (Md_text v) (Md_sines v) nb3 (Md_isStored v) (Md_saved v) (Md_length v) (nI p2) mn2 (Md_wrong v) (Md_reason v) (Md_items v + 1)) w2 nb3 nb2 mn2 (by omega) (by omega) (by omega) (by omega) h hm z5 (by show Tx_items t + 1 = Md_items v + 1; rw [hit]) hwr hre
        exact J
      · have n0 : ¬ nI r = 0 := nI_ne0 (by omega) (by omega)
        have n1 : ¬ nI r ≤ 0 := nI_nlE (b := 0) (by omega) (by omega)
        rw [if_neg n0, if_neg n1]
        refine Or.inr ⟨_, S2, Md_mk w2 (Md_past v) (Md_stored v) (Md_kept v) (Md_text v) (Md_sines v) nb3 (Md_isStored v) (Md_saved v) (Md_length v) pl mn2 (nI p) (nI r) (Md_items v), p, r, rfl, ?_, by omega, rfl, rfl, rfl, rfl, ⟨rfl, rfl⟩, ⟨rfl, rfl, rfl, rfl, rfl, rfl, rfl, rfl⟩⟩
        rw [F_X10_carriesOut_L22]
        show (if Md_length v ≤ pl then _ else if nI p = -4 then _ else _) = _
        rw [if_neg (nI_n4 (by omega)).1]
        split <;> rfl
theorem carry_s {n : Nat} {t : TxV} {S : StV} {v : MdV} (hn : 200 < n) (h : RTxt t (Md_text v) (Md_length v)) (hS : RS S (Md_now v)) : CarryR t v (F_X8_carryOut n t S) (F_X10_carriesOut n v) := by
  obtain ⟨L, hL, h1, h2, h3⟩ := h
  have hT : ∀ j, j < L → 32 ≤ (Tx_signs t j).toNatClampNeg ∧ (Tx_signs t j).toNatClampNeg ≤ 126 ∧ Tx_signs t j = nI (Tx_signs t j).toNatClampNeg ∧ Md_text v j = nI (Tx_signs t j).toNatClampNeg := by
    intro j hj
    obtain ⟨c, c1, c2, c3, c4⟩ := h3 j hj
    rw [c3, nI_clamp (by omega)]
    exact ⟨c1, c2, rfl, c4⟩
  have J := carryL (n := n) (T := fun j => (Tx_signs t j).toNatClampNeg) (L := L) hn L 0 n n 0 (Tx_mk (Tx_signs t) (Tx_numbers t) (Tx_length t) 0 0 (Tx_faultIndex t) (Tx_faultReason t)) S (Md_mk (Md_now v) (Md_past v) (Md_stored v) (Md_kept v) (Md_text v) (Md_sines v) (Md_numbers v) (Md_isStored v) (Md_saved v) (Md_length v) 0 (Md_many v) (-4) (-4) 0) (Md_now v) (Md_numbers v) (Tx_numbers t) (Md_many v) (by omega) (by omega) (by omega) (Nat.le_refl _) ⟨hL, h1, fun j hj => ⟨(hT j hj).1, (hT j hj).2.1, (hT j hj).2.2.1⟩⟩ ⟨hL, h2, fun j hj => ⟨(hT j hj).1, (hT j hj).2.1, (hT j hj).2.2.2⟩⟩ hS rfl rfl rfl
  exact J
/-! OPS: texts -/
theorem char_s : ∀ q, q < 127 → ((nI q).toUInt32 % 65536).toInt32 = nI q := by decide +kernel
theorem op_type {u : HLV} {v : MdV} (h : R u v) (x : Int32) : ∃ a u2 v2, F_X9_type u x = some (a, u2) ∧ F_X10_type v x = some (a, v2) ∧ R u2 v2 := by
  have q0 : ¬ (1 : Int32) = 0 := by decide
  obtain ⟨h1, h2, h3, h4, ⟨L, hL, t1, t2, t3⟩⟩ := id h
  unfold F_X9_type F_X10_type F_X8_isFull F_X8_append
  rw [out_s, wi_s, bnd_some, bnd_some, t1, t2]
  rcases arg_n (x := x) (lo := 32) (hi := 126) 32 126 rfl rfl (by decide) (by decide) with q | ⟨c, hc1, hc, rfl, q⟩
  · rw [if_pos q, if_pos q]
    exact ⟨-1, u, v, rfl, rfl, h⟩
  rw [if_neg q, if_neg q, if_pos rfl, if_neg q0]
  by_cases cL : L < 120
  · have l1 : nI L < 120 := nI_lt (b := 120) cL (by omega)
    have l2 : ¬ nI L = 120 := fun z => by have := (nI_eq (b := 120) (by omega) (by omega)).mp z; omega
    have l3 : ¬ (120 : Int32) ≤ nI L := nI_nlE (a := 120) cL (by omega)
    rw [if_pos l1, bnd_some, if_pos rfl, if_neg (nI_pos (by omega)), if_neg l3, chk_nI cL (by decide), chk_nI cL (by decide), nI_clamp (by omega), char_s c (by omega), char_s c (by omega), bnd_some, if_neg l2, nI_1]
    refine ⟨nI (L + 1), _, _, rfl, rfl, h1, h2, h3, h4, ⟨L + 1, by omega, rfl, rfl, fun j hj => ?_⟩⟩
    by_cases e : j = L
    · subst e
      exact ⟨c, hc1, hc, upd_at, upd_at⟩
    · obtain ⟨d, d1, d2, d3, d4⟩ := t3 j (by omega)
      refine ⟨d, d1, d2, ?_, ?_⟩
      · show upd _ _ _ _ = _
        rw [upd_ne e]; exact d3
      · show upd _ _ _ _ = _
        rw [upd_ne e]; exact d4
  · have l1 : ¬ nI L < 120 := nI_nlt (b := 120) (by omega) (by omega)
    have l2 : nI L = 120 := by rw [show L = 120 by omega]; rfl
    rw [if_neg l1, bnd_some, if_neg q0, if_pos l2]
    exact ⟨-3, u, v, rfl, rfl, h⟩
theorem op_clearText {u : HLV} {v : MdV} (h : R u v) : ∃ a u2 v2, F_X9_clearText u = some (a, u2) ∧ F_X10_clearText v = some (a, v2) ∧ R u2 v2 := by
  obtain ⟨h1, h2, h3, h4, ⟨L, hL, t1, t2, t3⟩⟩ := id h
  unfold F_X9_clearText F_X10_clearText
  rw [t1, t2]
  exact ⟨nI L, _, _, rfl, rfl, h1, h2, h3, h4, ⟨0, by decide, rfl, rfl, fun j hj => by omega⟩⟩
theorem RTxt.same {t t2 : TxV} {tx : Nat → Int32} {l : Int32} (h : RTxt t tx l) (s : sameT t t2) : RTxt t2 tx l := by
  obtain ⟨L, hL, t1, t2', t3⟩ := h
  obtain ⟨s1, s2⟩ := s
  refine ⟨L, hL, by rw [s2]; exact t1, t2', fun j hj => ?_⟩
  rw [s1]
  exact t3 j hj
/-- after the text was carried out in thought: all is as it was -/
theorem R.think {u : HLV} {v v2 : MdV} {t2 : TxV} (h : R u v) {tr : StV} {w2 : Nat → Int32} {pl mn wr re it : Int32} {nb kp q : Nat → Int32} (hq : ∀ j, j < 289 → w2 j = Md_now v j) (st : sameT (HL_text u) t2) (sv : sameV (setKept v q) v2) : R (HL_mk (HL_Hx u) (HL_now u) (HL_stored u) tr (HL_hist u) t2) (Md_mk w2 (Md_past v2) (Md_stored v2) kp (Md_text v2) (Md_sines v2) nb (Md_isStored v2) (Md_saved v2) (Md_length v2) pl mn wr re it) := by
  obtain ⟨h1, h2, h3, h4, h5⟩ := h
  obtain ⟨s1, s2, s3, s4, s5, s6, s7, s8⟩ := sv
  refine ⟨h1.cgw hq, ?_, ?_, ?_, ?_⟩
  · intro k hk
    show Md_sines v2 k = _
    rw [s5]
    exact h2 k hk
  · show RSto (HL_Hx u) (HL_stored u) (Md_isStored v2) (Md_stored v2)
    rw [s6, s2]
    exact h3
  · show RHis (HL_hist u) (Md_past v2) (Md_saved v2)
    rw [s1, s7]
    exact h4
  · show RTxt t2 (Md_text v2) (Md_length v2)
    rw [s4, s8]
    exact h5.same st
theorem op_fault {n : Nat} {u : HLV} {v : MdV} (hn : 300 < n) (h : R u v) (x : Int32) : ∃ a u2 v2, F_X9_fault n u x = some (a, u2) ∧ F_X10_fault n v x = some (a, v2) ∧ R u2 v2 := by
  have q0 : ¬ (1 : Int32) = 0 := by decide
  unfold F_X9_fault F_X10_fault
  rw [out_s, wi_s, bnd_some, bnd_some]
  rcases arg_n (x := x) (lo := 0) (hi := 1) 0 1 rfl rfl (by decide) (by decide) with q | ⟨b, _, hb, rfl, q⟩
  · rw [if_pos q, if_pos q]
    exact ⟨-1, u, v, rfl, rfl, h⟩
  rw [if_neg q, if_neg q, if_pos rfl, if_neg q0]
  obtain ⟨S', g1, g2, _⟩ := becomeS (S := HL_trial u) h.1
  obtain ⟨kp, b1, b2⟩ := forth_s (n := n) v (by omega)
  have C := carry_s (n := n) (t := HL_text u) (S := S') (v := setKept v kp) (by omega) h.2.2.2.2 g2
  rw [g1, b1, bnd_some, bnd_some]
  rcases C with ⟨t2, S2, v2, c1, c2, c3, c4, c5, c6, c7, c8⟩ | ⟨t2, S2, v2, p, r, c1, c2, c3, c4, c5, c6, c7, c8, c9⟩
  · obtain ⟨w3, b3, b4⟩ := back_s (n := n) v2 (by omega)
    have c2' : F_X10_carriesOut n (Md_mk (Md_now v) (Md_past v) (Md_stored v) kp (Md_text v) (Md_sines v) (Md_numbers v) (Md_isStored v) (Md_saved v) (Md_length v) (Md_place v) (Md_many v) (Md_wrong v) (Md_reason v) (Md_items v)) = some v2 := c2
    rw [c1, bnd_some, if_neg q0, c2', bnd_some, b3, bnd_some, c5, c6]
    have fin : R (HL_mk (HL_Hx u) (HL_now u) (HL_stored u) S2 (HL_hist u) t2) (Md_mk w3 (Md_past v2) (Md_stored v2) (Md_kept v2) (Md_text v2) (Md_sines v2) (Md_numbers v2) (Md_isStored v2) (Md_saved v2) (Md_length v2) (Md_place v2) (Md_many v2) (-4) (-4) (Md_items v2)) :=
      R.think (v2 := v2) h (fun j hj => (b4 j hj).trans (by rw [c8.2.2.1]; exact b2 j hj)) c7 c8
    refine ⟨-4, _, _, rfl, ?_, fin⟩
    rw [ite_self]
  · obtain ⟨w3, b3, b4⟩ := back_s (n := n) v2 (by omega)
    have c2' : F_X10_carriesOut n (Md_mk (Md_now v) (Md_past v) (Md_stored v) kp (Md_text v) (Md_sines v) (Md_numbers v) (Md_isStored v) (Md_saved v) (Md_length v) (Md_place v) (Md_many v) (Md_wrong v) (Md_reason v) (Md_items v)) = some v2 := c2
    rw [c1, bnd_some, if_pos rfl, c2', bnd_some, b3, bnd_some, c4, c5, c6, c7]
    have fin : R (HL_mk (HL_Hx u) (HL_now u) (HL_stored u) S2 (HL_hist u) t2) (Md_mk w3 (Md_past v2) (Md_stored v2) (Md_kept v2) (Md_text v2) (Md_sines v2) (Md_numbers v2) (Md_isStored v2) (Md_saved v2) (Md_length v2) (Md_place v2) (Md_many v2) (nI p) (nI r) (Md_items v2)) :=
      R.think (v2 := v2) h (fun j hj => (b4 j hj).trans (by rw [c9.2.2.1]; exact b2 j hj)) c8 c9
    by_cases e : nI b = 0
    · rw [if_pos e, if_pos e]
      exact ⟨_, _, _, rfl, rfl, fin⟩
    · rw [if_neg e, if_neg e]
      exact ⟨_, _, _, rfl, rfl, fin⟩
theorem op_load {n : Nat} {u : HLV} {v : MdV} (hn : 1200 < n) (h : R u v) : ∃ a u2 v2, F_X9_load n u = some (a, u2) ∧ F_X10_load n v = some (a, v2) ∧ R u2 v2 := by
  unfold F_X9_load F_X10_load
  obtain ⟨S', g1, g2, _⟩ := becomeS (S := HL_trial u) h.1
  obtain ⟨kp, b1, b2⟩ := forth_s (n := n) v (by omega)
  have C := carry_s (n := n) (t := HL_text u) (S := S') (v := setKept v kp) (by omega) h.2.2.2.2 g2
  rw [g1, b1, bnd_some, bnd_some]
  rcases C with ⟨t2, S2, v2, c1, c2, c3, c4, c5, c6, c7, c8⟩ | ⟨t2, S2, v2, p, r, c1, c2, c3, c4, c5, c6, c7, c8, c9⟩
  · obtain ⟨w3, b3, b4⟩ := back_s (n := n) v2 (by omega)
    have c2' : F_X10_carriesOut n (Md_mk (Md_now v) (Md_past v) (Md_stored v) kp (Md_text v) (Md_sines v) (Md_numbers v) (Md_isStored v) (Md_saved v) (Md_length v) (Md_place v) (Md_many v) (Md_wrong v) (Md_reason v) (Md_items v)) = some v2 := c2
    have eq3 : ∀ j, j < 289 → w3 j = Md_now v j := fun j hj => (b4 j hj).trans (by rw [c8.2.2.1]; exact b2 j hj)
    have fin : R (HL_mk (HL_Hx u) (HL_now u) (HL_stored u) (HL_trial u) (HL_hist u) (HL_text u)) (Md_mk w3 (Md_past v2) (Md_stored v2) (Md_kept v2) (Md_text v2) (Md_sines v2) (Md_numbers v2) (Md_isStored v2) (Md_saved v2) (Md_length v2) (Md_place v2) (Md_many v2) (Md_wrong v2) (Md_reason v2) (Md_items v2)) :=
      R.think (v2 := v2) h eq3 ⟨rfl, rfl⟩ c8
    obtain ⟨h2, p2, s2, k1, k2, k3⟩ := saves_s hn fin
    have k1' : F_X5_keep (HL_hist u) (HL_now u) = some h2 := k1
    -- once more, from the start that was brought back
    have g3 : RS S' (Md_now (setPast (Md_mk w3 (Md_past v2) (Md_stored v2) (Md_kept v2) (Md_text v2) (Md_sines v2) (Md_numbers v2) (Md_isStored v2) (Md_saved v2) (Md_length v2) (Md_place v2) (Md_many v2) (Md_wrong v2) (Md_reason v2) (Md_items v2)) p2 s2)) := g2.cgw eq3
    have C2 := carry_s (n := n) (t := HL_text u) (S := S') (v := setPast (Md_mk w3 (Md_past v2) (Md_stored v2) (Md_kept v2) (Md_text v2) (Md_sines v2) (Md_numbers v2) (Md_isStored v2) (Md_saved v2) (Md_length v2) (Md_place v2) (Md_many v2) (Md_wrong v2) (Md_reason v2) (Md_items v2)) p2 s2) (by omega) fin.2.2.2.2 g3
    rw [c1, bnd_some, if_neg (show ¬ (1 : Int32) = 0 by decide), c2', bnd_some, b3, bnd_some, c5, if_pos rfl, k1', bnd_some]
    rw [c5] at k2
    rw [k2, bnd_some]
    rcases C2 with ⟨t3, S3, v3, d1, d2, d3, d4, d5, d6, d7, d8⟩ | ⟨t3, S3, v3, p, r, d1, d2, d3, d4, d5, d6, d7, d8, d9⟩
    · rw [c1] at d1
      have E := Option.some.inj d1
      have e1 : t2 = t3 := congrArg (fun z : Int32 × TxV × StV => z.2.1) E
      have e2 : S2 = S3 := congrArg (fun z : Int32 × TxV × StV => z.2.2) E
      subst e1
      subst e2
      obtain ⟨S4, f1, f2, _⟩ := becomeS (S := HL_now u) d3
      rw [c5] at d2
      rw [f1, d2, bnd_some, bnd_some]
      refine ⟨Tx_items t2, _, _, rfl, by rw [d4], ?_⟩
      obtain ⟨s1, s2', s3, s4, s5, s6, s7, s8⟩ := d8
      refine ⟨f2, ?_, ?_, ?_, ?_⟩
      · intro k hk
        rw [s5]
        exact fin.2.1 k hk
      · show RSto (HL_Hx u) (HL_stored u) (Md_isStored v3) (Md_stored v3)
        rw [s6, s2']
        exact fin.2.2.1
      · show RHis h2 (Md_past v3) (Md_saved v3)
        rw [s1, s7]
        exact k3
      · show RTxt t2 (Md_text v3) (Md_length v3)
        rw [s4, s8]
        exact fin.2.2.2.2.same c7
    · rw [c1] at d1
      have E := Option.some.inj d1
      have e1 : (1 : Int32) = 0 := congrArg (fun z : Int32 × TxV × StV => z.1) E
      exact absurd e1 (by decide)
  · obtain ⟨w3, b3, b4⟩ := back_s (n := n) v2 (by omega)
    have c2' : F_X10_carriesOut n (Md_mk (Md_now v) (Md_past v) (Md_stored v) kp (Md_text v) (Md_sines v) (Md_numbers v) (Md_isStored v) (Md_saved v) (Md_length v) (Md_place v) (Md_many v) (Md_wrong v) (Md_reason v) (Md_items v)) = some v2 := c2
    have n4 : ¬ nI p = -4 := (nI_n4 (by omega)).1
    rw [c1, bnd_some, if_pos rfl, c2', bnd_some, b3, bnd_some, c6, if_neg n4]
    exact ⟨-2, _, _, rfl, rfl, R.think (v2 := v2) h (fun j hj => (b4 j hj).trans (by rw [c9.2.2.1]; exact b2 j hj)) c8 c9⟩
