/-! WHAT STAYS: the stored state and the text, over the calls -/
def keepsU (u u2 : HLV) : Prop := HL_Hx u2 = HL_Hx u ∧ HL_stored u2 = HL_stored u ∧ HL_text u2 = HL_text u
def Kp (u : HLV) (X : Option (Int32 × HLV)) : Prop := ∀ r, X = some r → keepsU u r.2
theorem Kp.bind {α : Type} {u : HLV} {X : Option α} {f : α → Option (Int32 × HLV)} (h : ∀ q, Kp u (f q)) : Kp u (X.bind f) := by
  intro r hr
  obtain ⟨q, _, h2⟩ := bnd_s hr
  exact h q r h2
theorem Kp.ite {u : HLV} {c : Prop} [Decidable c] {X Y : Option (Int32 × HLV)} (hx : Kp u X) (hy : Kp u Y) : Kp u (if c then X else Y) := by
  intro r hr
  split at hr
  · exact hx r hr
  · exact hy r hr
theorem Kp.sm {u u2 : HLV} {a : Int32} (h : keepsU u u2) : Kp u (some (a, u2)) := by
  intro r hr
  cases hr
  exact h
theorem Kp.ck {u : HLV} {i : Int32} {N : Nat} {X : Option (Int32 × HLV)} (h : Kp u X) : Kp u (chk i N X) := by
  intro r hr
  obtain ⟨_, h2⟩ := chk_s hr
  exact h r h2
theorem keepsU.rf (u : HLV) : keepsU u u := ⟨rfl, rfl, rfl⟩
theorem keepsU.trans {u u2 u3 : HLV} (h : keepsU u u2) (h2 : keepsU u2 u3) : keepsU u u3 := ⟨h2.1.trans h.1, h2.2.1.trans h.2.1, h2.2.2.trans h.2.2⟩
theorem kp_paint (n : Nat) (u : HLV) (x y z : Int32) : Kp u (F_X9_paint n u x y z) := by
  unfold F_X9_paint
  repeat' (first | (with_reducible refine Kp.bind (fun _ => ?_)) | (with_reducible refine Kp.ite ?_ ?_) | exact Kp.sm ⟨rfl, rfl, rfl⟩)
theorem kp_setCode (u : HLV) (x y z : Int32) : Kp u (F_X9_setCode u x y z) := by
  unfold F_X9_setCode F_X9_setCode_J51
  repeat' (first | (with_reducible refine Kp.bind (fun _ => ?_)) | (with_reducible refine Kp.ite ?_ ?_) | exact Kp.sm ⟨rfl, rfl, rfl⟩)
theorem kp_setChanger (n : Nat) (u : HLV) (x : Int32) : Kp u (F_X9_setChanger n u x) := by
  unfold F_X9_setChanger
  repeat' (first | (with_reducible refine Kp.bind (fun _ => ?_)) | (with_reducible refine Kp.ite ?_ ?_) | exact Kp.sm ⟨rfl, rfl, rfl⟩)
theorem kp_addLamp (n : Nat) (u : HLV) (x y z : Int32) : Kp u (F_X9_addLamp n u x y z) := by
  unfold F_X9_addLamp
  repeat' (first | (with_reducible refine Kp.bind (fun _ => ?_)) | (with_reducible refine Kp.ite ?_ ?_) | exact Kp.sm ⟨rfl, rfl, rfl⟩)
theorem kp_takeLamp (u : HLV) (x : Int32) : Kp u (F_X9_takeLamp u x) := by
  unfold F_X9_takeLamp
  repeat' (first | (with_reducible refine Kp.bind (fun _ => ?_)) | (with_reducible refine Kp.ite ?_ ?_) | exact Kp.sm ⟨rfl, rfl, rfl⟩)
theorem kp_set (u : HLV) (x y : Int32) : Kp u (F_X9_set u x y) := by
  unfold F_X9_set F_X9_set_J49
  repeat' (first | (with_reducible refine Kp.bind (fun _ => ?_)) | (with_reducible refine Kp.ite ?_ ?_) | exact Kp.sm ⟨rfl, rfl, rfl⟩)
theorem kp_undo (u : HLV) : Kp u (F_X9_undo u) := by
  unfold F_X9_undo
  repeat' (first | (with_reducible refine Kp.bind (fun _ => ?_)) | (with_reducible refine Kp.ite ?_ ?_) | exact Kp.sm ⟨rfl, rfl, rfl⟩)
theorem kp_recall (u : HLV) : Kp u (F_X9_recall u) := by
  unfold F_X9_recall
  repeat' (first | (with_reducible refine Kp.bind (fun _ => ?_)) | (with_reducible refine Kp.ite ?_ ?_) | exact Kp.sm ⟨rfl, rfl, rfl⟩)
theorem kp_advL (n : Nat) (u : HLV) : ∀ (k : Nat) (u2 : HLV) (x y z : Int32), keepsU u u2 → Kp u (F_X9_advance_L45 n k u2 x y z) := by
  intro k
  induction k with
  | zero => intro u2 x y z _ r hr; cases hr
  | succ k ih =>
    intro u2 x y z h
    rw [F_X9_advance_L45]
    exact Kp.ite (Kp.sm h) (Kp.bind fun q => Kp.ite (ih _ _ _ _ h) (ih _ _ _ _ h))
theorem kp_advance (n : Nat) (u : HLV) (x : Int32) : Kp u (F_X9_advance n u x) := by
  unfold F_X9_advance
  exact Kp.bind fun _ => Kp.ite (Kp.ite (Kp.bind fun _ => kp_advL n u n _ _ _ _ ⟨rfl, rfl, rfl⟩) (Kp.sm ⟨rfl, rfl, rfl⟩)) (Kp.sm ⟨rfl, rfl, rfl⟩)
theorem kp_passL (n : Nat) (u : HLV) : ∀ (k : Nat) (u2 : HLV) (x1 x2 x3 x4 x5 x6 x7 x8 : Int32), keepsU u u2 → Kp u (F_X9_pass_L100 n k u2 x1 x2 x3 x4 x5 x6 x7 x8) := by
  intro k
  induction k with
  | zero => intro u2 x1 x2 x3 x4 x5 x6 x7 x8 _ r hr; cases hr
  | succ k ih =>
    intro u2 x1 x2 x3 x4 x5 x6 x7 x8 h
    rw [F_X9_pass_L100]
    exact Kp.ite (Kp.sm h) (Kp.bind fun q => Kp.bind fun q2 => Kp.bind fun q3 => ih _ _ _ _ _ _ _ _ _ h)
theorem kp_pass (n : Nat) (u : HLV) (x1 x2 x3 x4 x5 : Int32) : Kp u (F_X9_pass n u x1 x2 x3 x4 x5) := by
  unfold F_X9_pass
  repeat' (first | (with_reducible refine Kp.bind (fun _ => ?_)) | (with_reducible refine Kp.ite ?_ ?_) | exact kp_passL n u n _ _ _ _ _ _ _ _ _ ⟨rfl, rfl, rfl⟩ | exact Kp.sm ⟨rfl, rfl, rfl⟩)
theorem setTr_keeps (u : HLV) (S : StV) : keepsU u (setTr u S) := ⟨rfl, rfl, rfl⟩
/-! a light that is fine: one whose model there is -/
def OK (u : HLV) : Prop := ∃ v, R u v
theorem OK.tr {u : HLV} (h : OK u) (S : StV) : OK (setTr u S) := by
  obtain ⟨v, h⟩ := h
  exact ⟨v, h⟩
theorem OK.row {u : HLV} (h : OK u) : ∃ w, RS (HL_now u) w := by
  obtain ⟨v, h⟩ := h
  exact ⟨_, h.1⟩
/-- a light that is fine, with the row w -/
theorem OK.at {u : HLV} {w : Nat → Int32} (h : OK u) (hw : RS (HL_now u) w) : ∃ v, R u v ∧ Md_now v = w := by
  obtain ⟨v, h⟩ := h
  exact ⟨setNow v w, ⟨hw, h.2.1, h.2.2.1, h.2.2.2.1, h.2.2.2.2⟩, rfl⟩
/-- another state that is fine put in as the present one -/
theorem OK.put {u : HLV} {S tr : StV} {w : Nat → Int32} (h : OK u) (hw : RS S w) : OK (HL_mk (HL_Hx u) S (HL_stored u) tr (HL_hist u) (HL_text u)) := by
  obtain ⟨v, h⟩ := h
  exact ⟨setNow v w, hw, h.2.1, h.2.2.1, h.2.2.2.1, h.2.2.2.2⟩
/-- after a change: undo brings back what was kept -/
theorem undo_back {u u' : HLV} {w : Nat → Int32} {h2 : HiV} (h : OK u) (hw : RS (HL_now u) w) (hk : F_X5_keep (HL_hist u) (HL_now u) = some h2) (h' : OK u') (he : HL_hist u' = h2) : ∃ (t : Nat) (u2 : HLV), t < 2 ^ 31 ∧ F_X9_undo u' = some (nI t, u2) ∧ OK u2 ∧ RS (HL_now u2) w ∧ keepsU u' u2 := by
  obtain ⟨v, hv⟩ := h
  obtain ⟨v', hv'⟩ := h'
  obtain ⟨_, _, _, ⟨s, e, hs, he5, q1, q2, q3, q4⟩, _⟩ := hv
  obtain ⟨S', k1, k2⟩ := keep_s hs he5 q1 q2 hw
  obtain rfl := Option.some.inj (k1.symm.trans hk)
  obtain ⟨a, u2, v2, g1, _, g2, _⟩ := op_undo (n := 2000) (by omega) hv'
  have kp := kp_undo u' _ g1
  obtain ⟨t, ht⟩ : ∃ t, (if s < 5 then s + 1 else 5) = t + 1 := by
    by_cases c : s < 5
    · exact ⟨s, by rw [if_pos c]⟩
    · exact ⟨4, by rw [if_neg c]⟩
  have t5 : t < 5 := by
    by_cases c : s < 5
    · rw [if_pos c] at ht; omega
    · rw [if_neg c] at ht; omega
  obtain ⟨S'', b1, b2, _⟩ := becomeS (S := HL_now u') k2
  have st : Ho_states (Hi_Ho (HL_hist u')) = nI (t + 1) := by
    rw [he]
    show nI (if s < 5 then s + 1 else 5) = _
    rw [ht]
  have en : Ho_end (Hi_Ho (HL_hist u')) = nI ((e + 1) % 5) := congrArg (fun h => Ho_end (Hi_Ho h)) he
  have rw_ : Hi_Hr (HL_hist u') e = S' := by
    rw [he]
    show hset (Hi_Hr (HL_hist u)) e S' e = S'
    unfold hset
    rw [if_pos rfl]
  have s1 : nI (t + 1) - 1 = nI t := pk_sub (a := t + 1) (b := 1) (by omega)
  have gt : ∀ x2 : Int32, x2 = nI e → F_X5_giveBack_t (HL_hist u') (HL_now u') x2 = some (Hi_mk (Ho_mk (nI t) (nI e)) (Hi_Hr (HL_hist u')), S'') := by
    intro x2 hx
    subst hx
    have z : ¬ nI (t + 1) < 1 := nI_nlt (a := t + 1) (b := 1) (by omega) (by omega)
    unfold F_X5_giveBack_t
    rw [st, if_neg z, if_neg (nI_pos (by omega)), if_neg (by rw [lit, nI_leI (by omega) (by omega)]; omega), chk_nI (by omega) (by decide), nI_clamp (by omega), rw_, b1, bnd_some, s1]
  have gb : F_X5_giveBack (HL_hist u') (HL_now u') = some (Hi_mk (Ho_mk (nI t) (nI e)) (Hi_Hr (HL_hist u')), S'') := by
    unfold F_X5_giveBack
    rw [en]
    by_cases e0 : (e + 1) % 5 = 0
    · rw [e0, if_pos (show nI 0 ≤ 0 by decide)]
      refine gt _ ?_
      rw [show e = 4 by omega]
      rfl
    · have : ¬ nI ((e + 1) % 5) ≤ 0 := nI_nlE (b := 0) (by omega) (by omega)
      rw [if_neg this]
      refine gt _ ?_
      rw [show (e + 1) % 5 = e + 1 by omega]
      exact pk_sub (a := e + 1) (b := 1) (by omega)
  have c0 : ¬ nI (t + 1) = 0 := nI_ne0 (by omega) (by omega)
  have full : F_X9_undo u' = some (nI t, HL_mk (HL_Hx u') S'' (HL_stored u') (HL_trial u') (Hi_mk (Ho_mk (nI t) (nI e)) (Hi_Hr (HL_hist u'))) (HL_text u')) := by
    unfold F_X9_undo
    rw [st, if_neg c0, gb, bnd_some]
    try rfl
  have ee := Option.some.inj (full.symm.trans g1)
  obtain ⟨e1, e2⟩ := Prod.mk.inj ee
  refine ⟨t, u2, by omega, by rw [g1, e1], ⟨v2, g2⟩, ?_, kp⟩
  rw [← e2]
  exact b2
