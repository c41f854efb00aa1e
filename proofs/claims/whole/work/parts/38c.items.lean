/-! TEXT: items -/
def ItemR (L p0 : Nat) (t : TxV) (v : MdV) (X : Option (Int32 × TxV × StV)) (Y : Option (Int32 × MdV)) : Prop := ∃ (r : Nat) (nb : Nat → Int32) (x : Int32) (S2 : StV) (w2 nb2 : Nat → Int32) (pl mn : Int32), r ≤ 6 ∧ X = some (nI r, setC t nb x, S2) ∧ Y = some (nI r, setT v w2 nb2 pl mn) ∧ (r = 0 → ∃ p2, p0 < p2 ∧ p2 ≤ L ∧ x = nI p2 ∧ pl = nI p2 ∧ RS S2 w2)
/-- the roads of the reference, item by item -/
theorem rd_45a {n : Nat} {u : MdV} : F_X10_reasonOf_J39 n u 4 0 = (F_X10_readsNumbers n u 1).bind fun q4 => if 1 ≤ Md_many q4 then F_X10_reasonOf_J147 n q4 4 0 else some (2, q4) := rfl
theorem rd_45b {n : Nat} {u : MdV} : F_X10_reasonOf_J39 n u 5 0 = (F_X10_readsNumbers n u 1).bind fun q4 => if 1 ≤ Md_many q4 then F_X10_reasonOf_J147 n q4 5 0 else some (2, q4) := rfl
theorem rd_4c {n : Nat} {u : MdV} {x : Int32} : F_X10_reasonOf_J147 n u 4 x = ((F_X10_canSet 1 (Md_numbers u 0)).bind fun q => zck q (some q)).bind fun q5 => if q5 = 0 then some (3, u) else F_X10_reasonOf_J205 n u 4 x := rfl
theorem rd_5c {n : Nat} {u : MdV} {x : Int32} : F_X10_reasonOf_J147 n u 5 x = ((F_X10_canSet 0 (Md_numbers u 0)).bind fun q => zck q (some q)).bind fun q5 => if q5 = 0 then some (3, u) else F_X10_reasonOf_J205 n u 5 x := rfl
theorem rd_end {n p : Nat} {v : MdV} {T : Nat → Nat} {L : Nat} {w nb : Nat → Int32} {mn x1 x2 : Int32} (h : TM v T L) (hp : p < 2 ^ 20) : F_X10_reasonOf_J205 n (setT v w nb (nI p) mn) x1 x2 = if cx T L p = 59 then (F_X10_does n (setT v w nb (nI (p + 1)) mn) x1 x2).bind fun q7 => some (0, q7) else some (6, setT v w nb (nI p) mn) := by
  have tb : TB T L := ⟨h.1, fun j hj => ⟨(h.2.2 j hj).1, (h.2.2 j hj).2.1⟩⟩
  have hc := cx_in tb p
  have ep : Md_place (setT v w nb (nI p) mn) = nI p := rfl
  unfold F_X10_reasonOf_J205
  rw [ep, at_m h (by omega), bnd_some, nI_1]
  by_cases c : cx T L p = 59
  · rw [if_pos (show nI (cx T L p) = 59 by rw [c]; rfl), if_pos c]
  · rw [if_neg (show ¬ nI (cx T L p) = 59 from fun z => c ((nI_eq (b := 59) (by omega) (by omega)).mp z)), if_neg c]
theorem zck_1 {α : Type} {a : Option α} : zck 1 a = a := if_pos (Or.inr rfl)
theorem zck_0 {α : Type} {a : Option α} : zck 0 a = a := if_pos (Or.inl rfl)
theorem reasonN_c {t : TxV} {T : Nat → Nat} {L e a lo hi : Nat} {nb : Nat → Int32} (h : TC t T L) (he : e < 2 ^ 20) (ha : a < 10000) (hlo : lo < 10000) (hhi : hi < 10000) : F_X8_reasonOf (setC t nb (nI e)) (nI a) (nI lo) (nI hi) = if a < lo ∨ hi < a then some (3, setC t nb (nI e)) else if cx T L e = 59 then some (0, setC t nb (nI (e + 1))) else some (6, setC t nb (nI e)) := by
  have n1 : ¬ nI a = -1 := by
    intro z
    have := congrArg Int32.toInt z
    rw [nI_toInt (by omega), show (-1 : Int32).toInt = -1 from rfl] at this
    omega
  unfold F_X8_reasonOf
  rw [if_neg n1]
  by_cases c1 : a < lo
  · rw [if_pos (nI_lt c1 (by omega)), if_pos (Or.inl c1)]
  · rw [if_neg (nI_nlt (by omega) (by omega))]
    by_cases c2 : a ≤ hi
    · rw [if_pos (nI_le c2 (by omega)), if_neg (by omega), show F_X8_skips (setC t nb (nI e)) 59 = _ from skips_c (s := 59) h (by omega) (by decide)]
      by_cases c3 : cx T L e = 59
      · rw [if_pos c3, if_pos c3, bnd_some, if_neg (show ¬ (1 : Int32) = 0 by decide)]
      · rw [if_neg c3, if_neg c3, bnd_some, if_pos rfl]
    · rw [if_neg (nI_nlE (by omega) (by omega)), if_pos (Or.inr (by omega))]
theorem item_clear {n p : Nat} {t : TxV} {v : MdV} {S : StV} {T : Nat → Nat} {L : Nat} {w nb nbC : Nat → Int32} {mn : Int32} (hn : 10 < n) (h : TC t T L) (hm : TM v T L) (hp : p ≤ L) (hS : RS S w) : ItemR L p t v (F_X8_carryOutClear n (setC t nbC (nI p)) S) (F_X10_reasonOf_J39 n (setT v w nb (nI p) mn) 4 0) := by
  obtain ⟨n', rfl⟩ : ∃ z, n = z + 2 := ⟨n - 2, by omega⟩
  have h1 := h.1
  have q0 : ¬ (1 : Int32) = 0 := by decide
  rw [rd_45a, rn_0]
  unfold F_X8_carryOutClear
  by_cases c : isN T L p
  · obtain ⟨z1, z2, z3⟩ := isN_in c
    have R := (rn_a (n := n' + 2) (k := n' + 1) (w := w) (nb := nb) (q := 0) (most := 1) hn hm c (by decide) (by decide)).trans (rn_c (q := 1) (most := 1) (by decide) (by decide))
    rw [num_a hn h c, bnd_some, show F_X10_readsNumbers_L5 (n' + 2) (n' + 2) (setT v w nb (nI p) (nI 0)) 1 = _ from R, bnd_some]
    show ItemR L p t v ((F_X8_reasonOf (setC t nbC (nI (nuE T L p))) (nI (nuV T L p)) 1 100).bind _) (if (1 : Int32) ≤ nI 1 then F_X10_reasonOf_J147 (n' + 2) (setT v w (upd nb 0 (nI (nuV T L p))) (nI (nuE T L p)) (nI 1)) 4 0 else _)
    rw [if_pos (show (1 : Int32) ≤ nI 1 by decide), rd_4c]
    show ItemR L p t v _ (((F_X10_canSet 1 (upd nb 0 (nI (nuV T L p)) 0)).bind fun q => zck q (some q)).bind _)
    rw [upd_at, canSet_s, bnd_some, show F_X8_reasonOf (setC t nbC (nI (nuE T L p))) (nI (nuV T L p)) 1 100 = _ from reasonN_c (lo := 1) (hi := 100) h (by omega) z1 (by decide) (by decide)]
    have cond : (((1 : Int32) = 0 ∧ ¬ (nI (nuV T L p) < 0 ∨ 50 < nI (nuV T L p))) ∨ ((1 : Int32) = 1 ∧ ¬ (nI (nuV T L p) < 1 ∨ 100 < nI (nuV T L p)))) ↔ ¬ (nuV T L p < 1 ∨ 100 < nuV T L p) := by
      rw [show (nI (nuV T L p) < 1) = (nuV T L p < 1) from propext (nI_ltI (b := 1) (by omega) (by omega)), show (100 < nI (nuV T L p)) = (100 < nuV T L p) from propext (nI_ltI (a := 100) (by omega) (by omega))]
      exact ⟨fun z => z.elim (fun y => absurd y.1 q0) (fun y => y.2), fun z => Or.inr ⟨rfl, z⟩⟩
    by_cases c1 : nuV T L p < 1 ∨ 100 < nuV T L p
    · rw [if_pos c1, if_neg (fun z => cond.mp z c1), bnd_some, zck_0, bnd_some, if_pos rfl]
      exact ⟨3, nbC, _, S, w, _, _, _, by decide, rfl, rfl, fun z => by omega⟩
    · rw [if_neg c1, if_pos (cond.mpr c1), zck_1, bnd_some, if_neg q0, rd_end hm (by omega)]
      by_cases c2 : cx T L (nuE T L p) = 59
      · have hL := cx_lt (T := T) (L := L) (j := nuE T L p) (by omega)
        obtain ⟨A, hA⟩ := hS
        rw [if_pos c2, if_pos c2, bnd_some, if_pos rfl]
        refine ⟨0, nbC, nI (nuE T L p + 1), _, upd w 115 (nI (nuV T L p)), upd nb 0 (nI (nuV T L p)), nI (nuE T L p + 1), nI 1, by decide, rfl, ?_, fun _ => ⟨nuE T L p + 1, by omega, by omega, rfl, rfl, ⟨_, RA_clear hA (x := nuV T L p) (by omega) (by omega)⟩⟩⟩
        show some ((0 : Int32), setT v (upd w 115 (upd nb 0 (nI (nuV T L p)) 0)) (upd nb 0 (nI (nuV T L p))) (nI (nuE T L p + 1)) (nI 1)) = _
        rw [upd_at]
        rfl
      · rw [if_neg c2, if_neg c2, bnd_some, if_neg (show ¬ (6 : Int32) = 0 by decide)]
        exact ⟨6, nbC, _, S, w, _, _, _, by decide, rfl, rfl, fun z => by omega⟩
  · obtain ⟨p', hp', g⟩ := num_b (n := n' + 2) (nb := nbC) hn h (p := p) (by omega) c
    rw [g, bnd_some, show F_X10_readsNumbers_L5 (n' + 2) (n' + 2) (setT v w nb (nI p) (nI 0)) 1 = _ from rn_b (q := 0) (most := 1) hm (by omega) c (by decide) (by decide), bnd_some]
    exact ⟨2, nbC, _, S, w, _, _, _, by decide, rfl, rfl, fun z => by omega⟩
theorem item_change {n p : Nat} {t : TxV} {v : MdV} {S : StV} {T : Nat → Nat} {L : Nat} {w nb nbC : Nat → Int32} {mn : Int32} (hn : 10 < n) (h : TC t T L) (hm : TM v T L) (hp : p ≤ L) (hS : RS S w) : ItemR L p t v (F_X8_carryOutChange n (setC t nbC (nI p)) S) (F_X10_reasonOf_J39 n (setT v w nb (nI p) mn) 5 0) := by
  obtain ⟨n', rfl⟩ : ∃ z, n = z + 2 := ⟨n - 2, by omega⟩
  have h1 := h.1
  have q0 : ¬ (1 : Int32) = 0 := by decide
  have q01 : ¬ (0 : Int32) = 1 := by decide
  rw [rd_45b, rn_0]
  unfold F_X8_carryOutChange
  by_cases c : isN T L p
  · obtain ⟨z1, z2, z3⟩ := isN_in c
    have R := (rn_a (n := n' + 2) (k := n' + 1) (w := w) (nb := nb) (q := 0) (most := 1) hn hm c (by decide) (by decide)).trans (rn_c (q := 1) (most := 1) (by decide) (by decide))
    rw [num_a hn h c, bnd_some, show F_X10_readsNumbers_L5 (n' + 2) (n' + 2) (setT v w nb (nI p) (nI 0)) 1 = _ from R, bnd_some]
    show ItemR L p t v ((F_X8_reasonOf (setC t nbC (nI (nuE T L p))) (nI (nuV T L p)) 0 50).bind _) (if (1 : Int32) ≤ nI 1 then F_X10_reasonOf_J147 (n' + 2) (setT v w (upd nb 0 (nI (nuV T L p))) (nI (nuE T L p)) (nI 1)) 5 0 else _)
    rw [if_pos (show (1 : Int32) ≤ nI 1 by decide), rd_5c]
    show ItemR L p t v _ (((F_X10_canSet 0 (upd nb 0 (nI (nuV T L p)) 0)).bind fun q => zck q (some q)).bind _)
    rw [upd_at, canSet_s, bnd_some, show F_X8_reasonOf (setC t nbC (nI (nuE T L p))) (nI (nuV T L p)) 0 50 = _ from reasonN_c (lo := 0) (hi := 50) h (by omega) z1 (by decide) (by decide)]
    have cond : (((0 : Int32) = 0 ∧ ¬ (nI (nuV T L p) < 0 ∨ 50 < nI (nuV T L p))) ∨ ((0 : Int32) = 1 ∧ ¬ (nI (nuV T L p) < 1 ∨ 100 < nI (nuV T L p)))) ↔ ¬ (nuV T L p < 0 ∨ 50 < nuV T L p) := by
      rw [show (nI (nuV T L p) < 0) = (nuV T L p < 0) from propext (nI_ltI (b := 0) (by omega) (by omega)), show (50 < nI (nuV T L p)) = (50 < nuV T L p) from propext (nI_ltI (a := 50) (by omega) (by omega))]
      exact ⟨fun z => z.elim (fun y => y.2) (fun y => absurd y.1 q01), fun z => Or.inl ⟨rfl, z⟩⟩
    by_cases c1 : nuV T L p < 0 ∨ 50 < nuV T L p
    · rw [if_pos c1, if_neg (fun z => cond.mp z c1), bnd_some, zck_0, bnd_some, if_pos rfl]
      exact ⟨3, nbC, _, S, w, _, _, _, by decide, rfl, rfl, fun z => by omega⟩
    · rw [if_neg c1, if_pos (cond.mpr c1), zck_1, bnd_some, if_neg q0, rd_end hm (by omega)]
      by_cases c2 : cx T L (nuE T L p) = 59
      · have hL := cx_lt (T := T) (L := L) (j := nuE T L p) (by omega)
        obtain ⟨A, hA⟩ := hS
        rw [if_pos c2, if_pos c2, bnd_some, if_pos rfl]
        refine ⟨0, nbC, nI (nuE T L p + 1), _, upd w 114 (nI (nuV T L p)), upd nb 0 (nI (nuV T L p)), nI (nuE T L p + 1), nI 1, by decide, rfl, ?_, fun _ => ⟨nuE T L p + 1, by omega, by omega, rfl, rfl, ⟨_, RA_change hA (x := nuV T L p) (by omega)⟩⟩⟩
        show some ((0 : Int32), setT v (upd w 114 (upd nb 0 (nI (nuV T L p)) 0)) (upd nb 0 (nI (nuV T L p))) (nI (nuE T L p + 1)) (nI 1)) = _
        rw [upd_at]
        rfl
      · rw [if_neg c2, if_neg c2, bnd_some, if_neg (show ¬ (6 : Int32) = 0 by decide)]
        exact ⟨6, nbC, _, S, w, _, _, _, by decide, rfl, rfl, fun z => by omega⟩
  · obtain ⟨p', hp', g⟩ := num_b (n := n' + 2) (nb := nbC) hn h (p := p) (by omega) c
    rw [g, bnd_some, show F_X10_readsNumbers_L5 (n' + 2) (n' + 2) (setT v w nb (nI p) (nI 0)) 1 = _ from rn_b (q := 0) (most := 1) hm (by omega) c (by decide) (by decide), bnd_some]
    exact ⟨2, nbC, _, S, w, _, _, _, by decide, rfl, rfl, fun z => by omega⟩
/-! a second word -/
def kiC (a b w : Nat) : Int32 := if w = cd a then 0 else if w = cd b then 1 else -1
def coC (w : Nat) : Int32 := if w = cd 10 then 0 else if w = cd 11 then 1 else if w = cd 12 then 2 else if w = cd 13 then 3 else -1
theorem ki_s (a b w : Nat) : (kiC a b w = -1 ∧ kiN a b w = -4) ∨ ∃ k, k ≤ 1 ∧ kiC a b w = nI k ∧ kiN a b w = nI k := by
  unfold kiC kiN
  by_cases c : w = cd a
  · rw [if_pos c, if_pos c]; exact Or.inr ⟨0, by decide, rfl, rfl⟩
  · rw [if_neg c, if_neg c]
    by_cases c2 : w = cd b
    · rw [if_pos c2, if_pos c2]; exact Or.inr ⟨1, by decide, rfl, rfl⟩
    · rw [if_neg c2, if_neg c2]; exact Or.inl ⟨rfl, rfl⟩
theorem co_s (w : Nat) : (coC w = -1 ∧ coN w = -4) ∨ ∃ k, k ≤ 3 ∧ coC w = nI k ∧ coN w = nI k := by
  unfold coC coN
  by_cases c : w = cd 10
  · rw [if_pos c, if_pos c]; exact Or.inr ⟨0, by decide, rfl, rfl⟩
  · rw [if_neg c, if_neg c]
    by_cases c2 : w = cd 11
    · rw [if_pos c2, if_pos c2]; exact Or.inr ⟨1, by decide, rfl, rfl⟩
    · rw [if_neg c2, if_neg c2]
      by_cases c3 : w = cd 12
      · rw [if_pos c3, if_pos c3]; exact Or.inr ⟨2, by decide, rfl, rfl⟩
      · rw [if_neg c3, if_neg c3]
        by_cases c4 : w = cd 13
        · rw [if_pos c4, if_pos c4]; exact Or.inr ⟨3, by decide, rfl, rfl⟩
        · rw [if_neg c4, if_neg c4]; exact Or.inl ⟨rfl, rfl⟩
theorem either_c {n p a b : Nat} {t : TxV} {T : Nat → Nat} {L : Nat} {nb : Nat → Int32} (hn : 120 < n) (h : TC t T L) (hp : p ≤ L) (ha : a < 14) (hb : b < 14) : F_X8_readEither n (setC t nb (nI p)) a b = if cx T L p = 32 then some (kiC a b (wdn T L (p + 1)), setC t nb (nI (lend T L (p + 1)))) else some (-1, setC t nb (nI p)) := by
  have h1 := h.1
  unfold F_X8_readEither
  rw [show F_X8_skips (setC t nb (nI p)) 32 = _ from skips_c (s := 32) h (by omega) (by decide)]
  by_cases c : cx T L p = 32
  · have hL := cx_lt (T := T) (L := L) (j := p) (by omega)
    rw [if_pos c, if_pos c, bnd_some, if_neg (show ¬ (1 : Int32) = 0 by decide)]
    show (F_X8_skipLetters n (setC t nb (nI (p + 1)))).bind _ = _
    rw [skipLetters_c hn h (by omega), bnd_some]
    show (F_X8_isWord n (setC t nb (nI (lend T L (p + 1)))) (nI (p + 1)) a).bind _ = _
    rw [isWord_c (by omega) h ha (by omega), bnd_some]
    unfold kiC
    by_cases c1 : wdn T L (p + 1) = cd a
    · rw [if_pos c1, if_pos c1, if_neg (show ¬ (1 : Int32) = 0 by decide)]
    · rw [if_neg c1, if_neg c1, if_pos rfl]
      show (F_X8_isWord n (setC t nb (nI (lend T L (p + 1)))) (nI (p + 1)) b).bind _ = _
      rw [isWord_c (by omega) h hb (by omega), bnd_some]
      by_cases c2 : wdn T L (p + 1) = cd b
      · rw [if_pos c2, if_pos c2, if_neg (show ¬ (1 : Int32) = 0 by decide)]
      · rw [if_neg c2, if_neg c2, if_pos rfl]
  · rw [if_neg c, if_neg c, bnd_some, if_pos rfl]
theorem color_c {n p : Nat} {t : TxV} {T : Nat → Nat} {L : Nat} {nb : Nat → Int32} (hn : 120 < n) (h : TC t T L) (hp : p ≤ L) : F_X8_readColor n (setC t nb (nI p)) = if cx T L p = 32 then some (coC (wdn T L (p + 1)), setC t nb (nI (lend T L (p + 1)))) else some (-1, setC t nb (nI p)) := by
  have h1 := h.1
  unfold F_X8_readColor
  rw [show F_X8_skips (setC t nb (nI p)) 32 = _ from skips_c (s := 32) h (by omega) (by decide)]
  by_cases c : cx T L p = 32
  · have hL := cx_lt (T := T) (L := L) (j := p) (by omega)
    rw [if_pos c, if_pos c, bnd_some, if_neg (show ¬ (1 : Int32) = 0 by decide)]
    show (F_X8_skipLetters n (setC t nb (nI (p + 1)))).bind _ = _
    rw [skipLetters_c hn h (by omega), bnd_some]
    show (F_X8_isWord n (setC t nb (nI (lend T L (p + 1)))) (nI (p + 1)) 10).bind _ = _
    rw [isWord_c (by omega) h (by decide) (by omega), bnd_some]
    unfold coC
    by_cases c1 : wdn T L (p + 1) = cd 10
    · rw [if_pos c1, if_pos c1, if_neg (show ¬ (1 : Int32) = 0 by decide)]
    · rw [if_neg c1, if_neg c1, if_pos rfl]
      show (F_X8_isWord n (setC t nb (nI (lend T L (p + 1)))) (nI (p + 1)) 11).bind _ = _
      rw [isWord_c (by omega) h (by decide) (by omega), bnd_some]
      by_cases c2 : wdn T L (p + 1) = cd 11
      · rw [if_pos c2, if_pos c2, if_neg (show ¬ (1 : Int32) = 0 by decide)]
      · rw [if_neg c2, if_neg c2, if_pos rfl]
        show (F_X8_isWord n (setC t nb (nI (lend T L (p + 1)))) (nI (p + 1)) 12).bind _ = _
        rw [isWord_c (by omega) h (by decide) (by omega), bnd_some]
        by_cases c3 : wdn T L (p + 1) = cd 12
        · rw [if_pos c3, if_pos c3, if_neg (show ¬ (1 : Int32) = 0 by decide)]
        · rw [if_neg c3, if_neg c3, if_pos rfl]
          show (F_X8_isWord n (setC t nb (nI (lend T L (p + 1)))) (nI (p + 1)) 13).bind _ = _
          rw [isWord_c (by omega) h (by decide) (by omega), bnd_some]
          by_cases c4 : wdn T L (p + 1) = cd 13
          · rw [if_pos c4, if_pos c4, if_neg (show ¬ (1 : Int32) = 0 by decide)]
          · rw [if_neg c4, if_neg c4, if_pos rfl]
  · rw [if_neg c, if_neg c, bnd_some, if_pos rfl]
theorem second_m {n p : Nat} {v : MdV} {T : Nat → Nat} {L : Nat} {w nb : Nat → Int32} {mn : Int32} (hn : 120 < n) (h : TM v T L) (hp : p ≤ L) :
    F_X10_second n (setT v w nb (nI p) mn) 0 = (if cx T L p = 32 then some (coN (wdn T L (p + 1)), setT v w nb (nI (lend T L (p + 1))) mn) else some (-4, setT v w nb (nI p) mn)) ∧
    F_X10_second n (setT v w nb (nI p) mn) 2 = (if cx T L p = 32 then some (kiN 6 7 (wdn T L (p + 1)), setT v w nb (nI (lend T L (p + 1))) mn) else some (-4, setT v w nb (nI p) mn)) ∧
    F_X10_second n (setT v w nb (nI p) mn) 3 = (if cx T L p = 32 then some (kiN 8 9 (wdn T L (p + 1)), setT v w nb (nI (lend T L (p + 1))) mn) else some (-4, setT v w nb (nI p) mn)) := by
  have h1 := h.1
  have tb : TB T L := ⟨h.1, fun j hj => ⟨(h.2.2 j hj).1, (h.2.2 j hj).2.1⟩⟩
  have hc := cx_in tb p
  have ep : Md_place (setT v w nb (nI p) mn) = nI p := rfl
  unfold F_X10_second
  rw [ep, at_m h (by omega), bnd_some, bnd_some, bnd_some]
  by_cases c : cx T L p = 32
  · have hL := cx_lt (T := T) (L := L) (j := p) (by omega)
    have z : nI (cx T L p) = 32 := by rw [c]; rfl
    have W := word_m (w := w) (nb := nb) (mn := mn) hn h (show p + 1 ≤ L by omega)
    have wl := wdn_lt (T := T) (show p + 1 ≤ L by omega)
    obtain ⟨k1, k0⟩ := kindOf_s wl
    rw [if_pos z, if_pos z, if_pos z, if_pos c, if_pos c, if_pos c, nI_1]
    refine ⟨?_, ?_, ?_⟩
    · show (F_X10_word n (setT v w nb (nI (p + 1)) mn)).bind (fun q2 => (F_X10_colorOf q2.1).bind fun q5 => some (q5, q2.2)) = _
      rw [W, bnd_some, colorOf_s wl, bnd_some]
    · show (F_X10_word n (setT v w nb (nI (p + 1)) mn)).bind (fun q2 => (F_X10_kindOf q2.1 1).bind fun q4 => some (q4, q2.2)) = _
      rw [W, bnd_some, k1, bnd_some]
    · show (F_X10_word n (setT v w nb (nI (p + 1)) mn)).bind (fun q2 => (F_X10_kindOf q2.1 0).bind fun q3 => some (q3, q2.2)) = _
      rw [W, bnd_some, k0, bnd_some]
  · have z : ¬ nI (cx T L p) = 32 := fun z => c ((nI_eq (b := 32) (by omega) (by omega)).mp z)
    rw [if_neg z, if_neg z, if_neg z, if_neg c, if_neg c, if_neg c]
    exact ⟨rfl, rfl, rfl⟩
theorem nI_n4 {k : Nat} (h : k < 2 ^ 30) : ¬ nI k = -4 ∧ ¬ nI k = -1 := by
  refine ⟨fun z => ?_, fun z => ?_⟩
  · have := congrArg Int32.toInt z
    rw [nI_toInt (by omega), show (-4 : Int32).toInt = -4 from rfl] at this
    omega
  · have := congrArg Int32.toInt z
    rw [nI_toInt (by omega), show (-1 : Int32).toInt = -1 from rfl] at this
    omega
theorem rd_2a {n : Nat} {u : MdV} {y : Int32} (h : ¬ y = -4) : F_X10_reasonOf_J39 n u 2 y = (F_X10_readsNumbers n u 0).bind fun q4 => if 0 ≤ Md_many q4 then F_X10_reasonOf_J147 n q4 2 y else some (2, q4) := by
  unfold F_X10_reasonOf_J39
  rw [if_neg h]
  rfl
theorem rd_3a {n : Nat} {u : MdV} {y : Int32} (h : ¬ y = -4) : F_X10_reasonOf_J39 n u 3 y = (F_X10_readsNumbers n u 2).bind fun q4 => if 2 ≤ Md_many q4 then F_X10_reasonOf_J147 n q4 3 y else some (2, q4) := by
  unfold F_X10_reasonOf_J39
  rw [if_neg h]
  rfl
theorem rd_0a {n : Nat} {u : MdV} {y : Int32} (h : ¬ y = -4) : F_X10_reasonOf_J39 n u 0 y = (F_X10_readsNumbers n u 2).bind fun q4 => if 2 ≤ Md_many q4 then F_X10_reasonOf_J147 n q4 0 y else some (2, q4) := by
  unfold F_X10_reasonOf_J39
  rw [if_neg h]
  rfl
theorem rd_x4 {n : Nat} {u : MdV} {x : Int32} : F_X10_reasonOf_J39 n u x (-4) = some (1, u) := by
  unfold F_X10_reasonOf_J39
  rw [if_pos rfl]
theorem rd_2c {n : Nat} {u : MdV} {x : Int32} : F_X10_reasonOf_J147 n u 2 x = ((F_X10_areParts n u).bind fun q => zck q (some q)).bind fun q5 => if q5 = 0 then some (3, u) else F_X10_reasonOf_J205 n u 2 x := rfl
theorem rd_0c {n : Nat} {u : MdV} {x : Int32} : F_X10_reasonOf_J147 n u 0 x = ((F_X10_isPoint (Md_numbers u 0)).bind fun q1 => if q1 = 0 then some (0 : Int32) else (F_X10_isPoint (Md_numbers u 1)).bind fun q2 => if q2 = 0 then some (0 : Int32) else some (1 : Int32)).bind fun q5 => if q5 = 0 then some (3, u) else F_X10_reasonOf_J205 n u 0 x := rfl
theorem rd_3c {n : Nat} {u : MdV} {x : Int32} : F_X10_reasonOf_J147 n u 3 x = ((F_X10_isLamp (Md_numbers u 0) (Md_numbers u 1)).bind fun q => zck q (some q)).bind fun q5 => if q5 = 0 then some (3, u) else if x = Md_now u 81 then (F_X10_empty n u).bind fun q8 => if q8 = (-4) then some (5, u) else F_X10_reasonOf_J205 n u 3 x else some (4, u) := rfl
theorem does_2 {n : Nat} {u : MdV} {x : Int32} : F_X10_does n u 2 x = (F_X10_setsChanger n u x).bind fun q4 => some q4.2 := rfl
theorem does_0 {n : Nat} {u : MdV} {x : Int32} : F_X10_does n u 0 x = (F_X10_paints n u x (Md_numbers u 0) (Md_numbers u 1)).bind fun q1 => some q1.2 := rfl
theorem does_3 {n : Nat} {u : MdV} {x : Int32} : F_X10_does n u 3 x = (F_X10_empty n u).bind fun q5 => (F_X10_puts u q5 (Md_numbers u 0) (Md_numbers u 1)).bind fun q6 => some q6 := rfl
theorem item_changer {n p : Nat} {t : TxV} {v : MdV} {S : StV} {T : Nat → Nat} {L : Nat} {w nb nbC : Nat → Int32} {mn : Int32} (hn : 120 < n) (h : TC t T L) (hm : TM v T L) (hp : p ≤ L) (hS : RS S w) : ItemR L p t v (F_X8_carryOutChanger n (setC t nbC (nI p)) S) (F_X10_reasonOf_J30 n (setT v w nb (nI p) mn) 2) := by
  have h1 := h.1
  have q0 : ¬ (1 : Int32) = 0 := by decide
  unfold F_X8_carryOutChanger F_X10_reasonOf_J30
  rw [either_c hn h hp (by decide) (by decide), (second_m hn hm hp).2.1]
  by_cases c : cx T L p = 32
  · have hL := cx_lt (T := T) (L := L) (j := p) (by omega)
    obtain ⟨e1, e2, _⟩ := lend_in (T := T) (show p + 1 ≤ L by omega)
    rw [if_pos c, if_pos c, bnd_some, bnd_some]
    rcases ki_s 6 7 (wdn T L (p + 1)) with ⟨k1, k2⟩ | ⟨kd, hk, k1, k2⟩
    · rw [k1, k2, if_pos rfl]
      show ItemR L p t v _ (F_X10_reasonOf_J39 n _ 2 (-4))
      rw [rd_x4]
      exact ⟨1, nbC, _, S, w, _, _, _, by decide, rfl, rfl, fun z => by omega⟩
    · rw [k1, k2, if_neg (nI_n4 (by omega)).2]
      show ItemR L p t v ((F_X8_skips (setC t nbC (nI (lend T L (p + 1)))) 59).bind _) (F_X10_reasonOf_J39 n (setT v w nb (nI (lend T L (p + 1))) mn) 2 (nI kd))
      obtain ⟨n', rfl⟩ : ∃ z, n = z + 1 := ⟨n - 1, by omega⟩
      have ap : F_X10_areParts (n' + 1) (setT v w nb (nI (lend T L (p + 1))) (nI 0)) = some 1 := rfl
      rw [rd_2a (nI_n4 (by omega)).1, rn_0, show F_X10_readsNumbers_L5 (n' + 1) (n' + 1) (setT v w nb (nI (lend T L (p + 1))) (nI 0)) 0 = _ from rn_c (q := 0) (most := 0) (by decide) (by decide), bnd_some]
      show ItemR L p t v _ (if (0 : Int32) ≤ nI 0 then F_X10_reasonOf_J147 (n' + 1) (setT v w nb (nI (lend T L (p + 1))) (nI 0)) 2 (nI kd) else _)
      rw [if_pos (show (0 : Int32) ≤ nI 0 by decide), rd_2c, ap, bnd_some, zck_1, bnd_some, if_neg q0, rd_end hm (by omega), show F_X8_skips (setC t nbC (nI (lend T L (p + 1)))) 59 = _ from skips_c (s := 59) h (by omega) (by decide)]
      by_cases c2 : cx T L (lend T L (p + 1)) = 59
      · have hL2 := cx_lt (T := T) (L := L) (j := lend T L (p + 1)) (by omega)
        obtain ⟨A, hA⟩ := hS
        obtain ⟨r, c2', w2, A2, g1, g2, g3, g4, g5, g6, g7, g8⟩ := changer_s (n := n' + 1) (v := setT v w nb (nI (lend T L (p + 1) + 1)) (nI 0)) (by omega) hk hA.2.2.2.1 hA.1 hA.2.2.2.2.2.2.2.2.1
        rw [if_pos c2, if_pos c2, bnd_some, if_neg q0, does_2, g3, bnd_some, bnd_some]
        show ItemR L p t v ((F_X1_renew (n' + 1) (St_Ch S) (nI kd)).bind _) _
        rw [g2, bnd_some]
        exact ⟨0, nbC, _, _, w2, nb, _, _, by decide, rfl, rfl, fun _ => ⟨lend T L (p + 1) + 1, by omega, by omega, rfl, rfl, ⟨A2, RA_ch hA g4 g5 g6 (fun j hj => g7 j (by omega)) (fun j hj => g8 j (by omega))⟩⟩⟩
      · rw [if_neg c2, if_neg c2, bnd_some, if_pos rfl]
        exact ⟨6, nbC, _, S, w, _, _, _, by decide, rfl, rfl, fun z => by omega⟩
  · rw [if_neg c, if_neg c, bnd_some, bnd_some, if_pos rfl]
    show ItemR L p t v _ (F_X10_reasonOf_J39 n _ 2 (-4))
    rw [rd_x4]
    exact ⟨1, nbC, _, S, w, _, _, _, by decide, rfl, rfl, fun z => by omega⟩
theorem item_sector {n p : Nat} {t : TxV} {v : MdV} {S : StV} {T : Nat → Nat} {L : Nat} {w nb nbC : Nat → Int32} {mn : Int32} (hn : 120 < n) (h : TC t T L) (hm : TM v T L) (hp : p ≤ L) (hS : RS S w) : ItemR L p t v (F_X8_carryOutSector n (setC t nbC (nI p)) S) (F_X10_reasonOf_J30 n (setT v w nb (nI p) mn) 0) := by
  have h1 := h.1
  have q0 : ¬ (1 : Int32) = 0 := by decide
  unfold F_X8_carryOutSector F_X10_reasonOf_J30
  rw [color_c hn h hp, (second_m hn hm hp).1]
  by_cases c : cx T L p = 32
  · have hL := cx_lt (T := T) (L := L) (j := p) (by omega)
    obtain ⟨e1, e2, _⟩ := lend_in (T := T) (show p + 1 ≤ L by omega)
    rw [if_pos c, if_pos c, bnd_some, bnd_some]
    rcases co_s (wdn T L (p + 1)) with ⟨k1, k2⟩ | ⟨kd, hk, k1, k2⟩
    · rw [k1, k2, if_pos rfl]
      show ItemR L p t v _ (F_X10_reasonOf_J39 n _ 0 (-4))
      rw [rd_x4]
      exact ⟨1, nbC, _, S, w, _, _, _, by decide, rfl, rfl, fun z => by omega⟩
    · rw [k1, k2, if_neg (nI_n4 (by omega)).2]
      show ItemR L p t v ((F_X8_readNumber n (setC t nbC (nI (lend T L (p + 1))))).bind _) (F_X10_reasonOf_J39 n (setT v w nb (nI (lend T L (p + 1))) mn) 0 (nI kd))
      rw [rd_0a (nI_n4 (by omega)).1]
      rcases two_s (w := w) (nb := nb) (nbC := nbC) (mn := mn) (by omega : 10 < n) h hm e2 with ⟨a, b, e, nb2, p1, ha, hb, he, he2, f1, f2, f3, f4, f5⟩ | ⟨x, y, p1, p2, q, nb2, pl, hxy, f1, f2, f3, hq⟩
      · rw [f1, bnd_some]
        show ItemR L p t v ((F_X8_readNumber n (setC t nbC (nI p1))).bind _) _
        rw [f2, bnd_some, f3, bnd_some, if_neg (nI_n4 (by omega)).2, if_neg (nI_n4 (by omega)).2]
        show ItemR L p t v (if (64 : Int32) ≤ nI a then _ else if nI b < 64 then (F_X8_skips (setC t nbC (nI e)) 59).bind _ else _) (if (2 : Int32) ≤ nI 2 then F_X10_reasonOf_J147 n (setT v w nb2 (nI e) (nI 2)) 0 (nI kd) else _)
        rw [if_pos (show (2 : Int32) ≤ nI 2 by decide), rd_0c]
        show ItemR L p t v _ (((F_X10_isPoint (nb2 0)).bind fun q1 => if q1 = 0 then some (0 : Int32) else (F_X10_isPoint (nb2 1)).bind fun q2 => if q2 = 0 then some (0 : Int32) else some (1 : Int32)).bind _)
        rw [f4, f5, isPoint_s, isPoint_s, bnd_some, bnd_some]
        have bad : ∀ z : Nat, z < 10000 → ((nI z < 0 ∨ 63 < nI z) ↔ 64 ≤ z) := by
          intro z hz
          rw [show (63 < nI z) = (63 < z) from propext (nI_ltI (a := 63) (by omega) (by omega))]
          have := nI_pos (n := z) (by omega)
          exact ⟨fun y => y.elim (fun a => absurd a this) (fun a => a), Or.inr⟩
        simp only [bad a ha, bad b hb]
        by_cases ca : 64 ≤ a
        · rw [if_pos (show (64 : Int32) ≤ nI a from nI_le (a := 64) ca (by omega)), if_pos ca, if_pos rfl, bnd_some, if_pos rfl]
          exact ⟨3, nbC, _, S, w, _, _, _, by decide, rfl, rfl, fun z => by omega⟩
        · have na : ¬ (64 : Int32) ≤ nI a := nI_nlE (a := 64) (by omega) (by omega)
          rw [if_neg na, if_neg ca, if_neg q0]
          by_cases cb : 64 ≤ b
          · have nb' : ¬ nI b < 64 := nI_nlt (b := 64) cb (by omega)
            rw [if_neg nb', if_pos cb, if_pos rfl, bnd_some, if_pos rfl]
            exact ⟨3, nbC, _, S, w, _, _, _, by decide, rfl, rfl, fun z => by omega⟩
          · rw [if_pos (show nI b < 64 from nI_lt (b := 64) (by omega) (by omega)), if_neg cb, if_neg q0, bnd_some, if_neg q0, rd_end hm (by omega), show F_X8_skips (setC t nbC (nI e)) 59 = _ from skips_c (s := 59) h (by omega) (by decide)]
            by_cases c2 : cx T L e = 59
            · have hL2 := cx_lt (T := T) (L := L) (j := e) (by omega)
              obtain ⟨A, hA⟩ := hS
              obtain ⟨r2, c2', w2, A2, g1, g2, g3, g4, g5, g6, g7, g8⟩ := paint_s (n := n) (v := setT v w nb2 (nI (e + 1)) (nI 2)) (by omega) hk (by omega : a < 64) (by omega : b < 64) hA.2.1 hA.1 hA.2.2.2.2.2.2.1
              rw [if_pos c2, if_pos c2, bnd_some, if_neg q0, does_0]
              show ItemR L p t v ((F_X2_give n (St_Ci S) (nI kd) (nI a) (nI b)).bind _) (((F_X10_paints n (setT v w nb2 (nI (e + 1)) (nI 2)) (nI kd) (nb2 0) (nb2 1)).bind _).bind _)
              rw [f4, f5, g1, bnd_some, g2, bnd_some, bnd_some]
              exact ⟨0, nbC, _, _, w2, nb2, _, _, by decide, rfl, rfl, fun _ => ⟨e + 1, by omega, by omega, rfl, rfl, ⟨A2, RA_ci hA g3 g4 g5 g6 g7⟩⟩⟩
            · rw [if_neg c2, if_neg c2, bnd_some, if_pos rfl]
              exact ⟨6, nbC, _, S, w, _, _, _, by decide, rfl, rfl, fun z => by omega⟩
      · rw [f1, bnd_some]
        show ItemR L p t v ((F_X8_readNumber n (setC t nbC (nI p1))).bind _) _
        rw [f2, bnd_some, f3, bnd_some]
        have nq : ¬ (2 : Int32) ≤ nI q := nI_nlE (a := 2) hq (by omega)
        have X : (if x = -1 then some ((2 : Int32), setC t nbC (nI p2), S) else if y = -1 then some ((2 : Int32), setC t nbC (nI p2), S) else if (64 : Int32) ≤ x then some ((3 : Int32), setC t nbC (nI p2), S) else if y < 64 then (F_X8_skips (setC t nbC (nI p2)) 59).bind (fun q4 => if q4.1 = 0 then some ((6 : Int32), q4.2, S) else (F_X2_give n (St_Ci S) (nI kd) x y).bind fun q5 => some ((0 : Int32), q4.2, (St_mk (St_So S) q5.2 (St_Fl S) (St_Ch S) (St_Lo S)))) else some ((3 : Int32), setC t nbC (nI p2), S)) = some ((2 : Int32), setC t nbC (nI p2), S) := by
          rcases hxy with rfl | rfl
          · rw [if_pos rfl]
          · by_cases cx1 : x = -1
            · rw [if_pos cx1]
            · rw [if_neg cx1, if_pos rfl]
        refine ⟨2, nbC, nI p2, S, w, nb2, pl, nI q, by decide, X, ?_, fun z => by omega⟩
        exact if_neg nq
  · rw [if_neg c, if_neg c, bnd_some, bnd_some, if_pos rfl]
    show ItemR L p t v _ (F_X10_reasonOf_J39 n _ 0 (-4))
    rw [rd_x4]
    exact ⟨1, nbC, _, S, w, _, _, _, by decide, rfl, rfl, fun z => by omega⟩
