/-! TEXT: the lamp, the code, all items -/
theorem item_lamp {n p : Nat} {t : TxV} {v : MdV} {S : StV} {T : Nat → Nat} {L : Nat} {w nb nbC : Nat → Int32} {mn : Int32} (hn : 120 < n) (h : TC t T L) (hm : TM v T L) (hp : p ≤ L) (hS : RS S w) : ItemR L p t v (F_X8_carryOutLamp n (setC t nbC (nI p)) S) (F_X10_reasonOf_J30 n (setT v w nb (nI p) mn) 3) := by
  have h1 := h.1
  have q0 : ¬ (1 : Int32) = 0 := by decide
  unfold F_X8_carryOutLamp F_X10_reasonOf_J30
  rw [either_c hn h hp (by decide) (by decide), (second_m hn hm hp).2.2]
  by_cases c : cx T L p = 32
  · have hL := cx_lt (T := T) (L := L) (j := p) (by omega)
    obtain ⟨e1, e2, _⟩ := lend_in (T := T) (show p + 1 ≤ L by omega)
    rw [if_pos c, if_pos c, bnd_some, bnd_some]
    rcases ki_s 8 9 (wdn T L (p + 1)) with ⟨k1, k2⟩ | ⟨kd, hk, k1, k2⟩
    · rw [k1, k2, if_pos rfl]
      show ItemR L p t v _ (F_X10_reasonOf_J39 n _ 3 (-4))
      rw [rd_x4]
      exact ⟨1, nbC, _, S, w, _, _, _, by decide, rfl, rfl, fun z => by omega⟩
    · rw [k1, k2, if_neg (nI_n4 (by omega)).2]
      show ItemR L p t v ((F_X8_readNumber n (setC t nbC (nI (lend T L (p + 1))))).bind _) (F_X10_reasonOf_J39 n (setT v w nb (nI (lend T L (p + 1))) mn) 3 (nI kd))
      rw [rd_3a (nI_n4 (by omega)).1]
      rcases two_s (w := w) (nb := nb) (nbC := nbC) (mn := mn) (by omega : 10 < n) h hm e2 with ⟨a, b, e, nb2, p1, ha, hb, he, he2, f1, f2, f3, f4, f5⟩ | ⟨x, y, p1, p2, q, nb2, pl, hxy, f1, f2, f3, hq⟩
      · rw [f1, bnd_some]
        show ItemR L p t v ((F_X8_readNumber n (setC t nbC (nI p1))).bind _) _
        rw [f2, bnd_some, f3, bnd_some, if_neg (nI_n4 (by omega)).2, if_neg (nI_n4 (by omega)).2]
        obtain ⟨A, hA⟩ := hS
        obtain ⟨a1, _, _, a4, _, _, _, _, a9, _⟩ := id hA
        have h81 := a9.1
        show ItemR L p t v (if nI a < 1 then some ((3 : Int32), setC t nbC (nI e), S) else if 2000 < nI a then some ((3 : Int32), setC t nbC (nI e), S) else if nI b < 1 then some ((3 : Int32), setC t nbC (nI e), S) else if nI b ≤ 5000 then (if nI kd = Ch_kind (St_Ch S) then (F_X1_lowestEmpty n (St_Ch S)).bind (fun q4 => if q4 = (-1) then some ((5 : Int32), setC t nbC (nI e), S) else (F_X8_skips (setC t nbC (nI e)) 59).bind (fun q5 => if q5.1 = 0 then some ((6 : Int32), q5.2, S) else (F_X1_insert (St_Ch S) q4 (nI a) (nI b)).bind fun q6 => some ((0 : Int32), q5.2, (St_mk (St_So S) (St_Ci S) (St_Fl S) q6 (St_Lo S))))) else some ((4 : Int32), setC t nbC (nI e), S)) else some ((3 : Int32), setC t nbC (nI e), S)) (if (2 : Int32) ≤ nI 2 then F_X10_reasonOf_J147 n (setT v w nb2 (nI e) (nI 2)) 3 (nI kd) else _)
        rw [if_pos (show (2 : Int32) ≤ nI 2 by decide), rd_3c]
        show ItemR L p t v _ (((F_X10_isLamp (nb2 0) (nb2 1)).bind fun q => zck q (some q)).bind (fun q5 => if q5 = 0 then some ((3 : Int32), setT v w nb2 (nI e) (nI 2)) else if nI kd = w 81 then (F_X10_empty n (setT v w nb2 (nI e) (nI 2))).bind (fun q8 => if q8 = (-4) then some ((5 : Int32), setT v w nb2 (nI e) (nI 2)) else F_X10_reasonOf_J205 n (setT v w nb2 (nI e) (nI 2)) 3 (nI kd)) else some ((4 : Int32), setT v w nb2 (nI e) (nI 2))))
        rw [f4, f5, isLamp_s, bnd_some, a4.2.1, a1 81 (by decide)]
        have bad : ((nI a < 1 ∨ 2000 < nI a) ∨ (nI b < 1 ∨ 5000 < nI b)) ↔ ((a < 1 ∨ 2000 < a) ∨ (b < 1 ∨ 5000 < b)) := by
          rw [show (nI a < 1) = (a < 1) from propext (nI_ltI (b := 1) (by omega) (by omega)), show (2000 < nI a) = (2000 < a) from propext (nI_ltI (a := 2000) (by omega) (by omega)), show (nI b < 1) = (b < 1) from propext (nI_ltI (b := 1) (by omega) (by omega)), show (5000 < nI b) = (5000 < b) from propext (nI_ltI (a := 5000) (by omega) (by omega))]
        have s1 : (nI a < 1) = (a < 1) := propext (nI_ltI (b := 1) (by omega) (by omega))
        have s2 : (2000 < nI a) = (2000 < a) := propext (nI_ltI (a := 2000) (by omega) (by omega))
        have s3 : (nI b < 1) = (b < 1) := propext (nI_ltI (b := 1) (by omega) (by omega))
        have s5 : (5000 < nI b) = (5000 < b) := propext (nI_ltI (a := 5000) (by omega) (by omega))
        have s4 : (nI b ≤ 5000) = (b ≤ 5000) := propext (nI_leI (b := 5000) (by omega) (by omega))
        have fail3 : (∀ X : Option (Int32 × TxV × StV), X = some ((3 : Int32), setC t nbC (nI e), S) → ((a < 1 ∨ 2000 < a) ∨ (b < 1 ∨ 5000 < b)) → ∀ Y : Option (Int32 × MdV), Y = some ((3 : Int32), setT v w nb2 (nI e) (nI 2)) → ItemR L p t v X Y) := by
          intro X hX _ Y hY
          exact ⟨3, nbC, _, S, w, _, _, _, by decide, hX, hY, fun z => by omega⟩
        by_cases cb : (a < 1 ∨ 2000 < a) ∨ (b < 1 ∨ 5000 < b)
        · refine fail3 _ ?_ cb _ ?_
          · simp only [s1, s2, s3, s4]
            by_cases d1 : a < 1
            · rw [if_pos d1]
            · rw [if_neg d1]
              by_cases d2 : 2000 < a
              · rw [if_pos d2]
              · rw [if_neg d2]
                by_cases d3 : b < 1
                · rw [if_pos d3]
                · rw [if_neg d3, if_neg (by omega)]
          · rw [if_pos (bad.mpr cb), zck_0, bnd_some, if_pos rfl]
        · simp only [s1, s2, s3, s4, s5]
          rw [if_neg (fun z => cb (Or.inl (Or.inl z))), if_neg (fun z => cb (Or.inl (Or.inr z))), if_neg (fun z => cb (Or.inr (Or.inl z))), if_pos (show b ≤ 5000 by omega), if_neg cb, zck_1, bnd_some, if_neg q0]
          by_cases ck : nI kd = nI (A 81)
          · rw [if_pos ck, if_pos ck]
            rcases empty_s (n := n) (v := setT v w nb2 (nI e) (nI 2)) (by omega) a4 a1 a9 with ⟨pp, hpp, _, g1, g2⟩ | ⟨g1, g2⟩
            · rw [g1, g2, bnd_some, bnd_some, if_neg (nI_n4 (by omega)).2, if_neg (nI_n4 (by omega)).1, rd_end hm (by omega), show F_X8_skips (setC t nbC (nI e)) 59 = _ from skips_c (s := 59) h (by omega) (by decide)]
              by_cases c2 : cx T L e = 59
              · have hL2 := cx_lt (T := T) (L := L) (j := e) (by omega)
                have g2' : F_X10_empty n (setT v w nb2 (nI (e + 1)) (nI 2)) = some (nI pp) := by
                  rcases empty_s (n := n) (v := setT v w nb2 (nI (e + 1)) (nI 2)) (by omega) a4 a1 a9 with ⟨p3, _, _, g3, g4⟩ | ⟨g3, g4⟩
                  · rw [g1] at g3
                    rw [g4]
                    exact g3.symm
                  · rw [g1] at g3
                    exact absurd (Option.some.inj g3) (nI_n4 (by omega)).2
                obtain ⟨w2, m1, m2, m3⟩ := puts_m (v := setT v w nb2 (nI (e + 1)) (nI 2)) (i := a) (l := b) a1 hpp
                rw [if_pos c2, if_pos c2, bnd_some, if_neg q0, does_3, g2', bnd_some]
                show ItemR L p t v _ (((F_X10_puts (setT v w nb2 (nI (e + 1)) (nI 2)) (nI pp) (nb2 0) (nb2 1)).bind _).bind _)
                rw [f4, f5, insert_c hpp, bnd_some, m1, bnd_some, bnd_some]
                exact ⟨0, nbC, _, _, w2, nb2, _, _, by decide, rfl, rfl, fun _ => ⟨e + 1, by omega, by omega, rfl, rfl, ⟨_, RA_ch hA (RCh_setL a4 hpp (a := 1) (b := A 81) (i := a) (l := b) (u := 0)) m2 (ICh_setL a9 hpp (Or.inr ⟨rfl, rfl, by omega, by omega, by omega, by omega, by omega⟩)) (fun j hj => setL_out (by omega)) m3⟩⟩⟩
              · rw [if_neg c2, if_neg c2, bnd_some, if_pos rfl]
                exact ⟨6, nbC, _, S, w, _, _, _, by decide, rfl, rfl, fun z => by omega⟩
            · rw [g1, g2, bnd_some, bnd_some, if_pos rfl, if_pos rfl]
              exact ⟨5, nbC, _, S, w, _, _, _, by decide, rfl, rfl, fun z => by omega⟩
          · rw [if_neg ck, if_neg ck]
            exact ⟨4, nbC, _, S, w, _, _, _, by decide, rfl, rfl, fun z => by omega⟩
      · rw [f1, bnd_some]
        show ItemR L p t v ((F_X8_readNumber n (setC t nbC (nI p1))).bind _) _
        rw [f2, bnd_some, f3, bnd_some]
        have nq : ¬ (2 : Int32) ≤ nI q := nI_nlE (a := 2) hq (by omega)
        refine ⟨2, nbC, nI p2, S, w, nb2, pl, nI q, by decide, ?_, ?_, fun z => by omega⟩
        · by_cases cx1 : x = -1
          · exact if_pos cx1
          · have cy : y = -1 := hxy.resolve_left cx1
            exact (if_neg cx1).trans (if_pos cy)
        · exact if_neg nq
  · rw [if_neg c, if_neg c, bnd_some, bnd_some, if_pos rfl]
    show ItemR L p t v _ (F_X10_reasonOf_J39 n _ 3 (-4))
    rw [rd_x4]
    exact ⟨1, nbC, _, S, w, _, _, _, by decide, rfl, rfl, fun z => by omega⟩
/-! the code -/
def okv (j a : Nat) : Bool := decide ((if j % 2 = 0 then 1 else 0) ≤ a ∧ a ≤ 60)
def allR (vl : Nat → Nat) : Nat → Bool
  | 0 => true
  | r + 1 => allR vl r && okv r (vl r)
theorem allR_cg {vl vl' : Nat → Nat} : ∀ r, (∀ j, j < r → vl j = vl' j) → allR vl r = allR vl' r := by
  intro r
  induction r with
  | zero => intro _; rfl
  | succ r ih =>
    intro h
    unfold allR
    rw [ih (fun j hj => h j (by omega)), h r (by omega)]
theorem allR_at {vl : Nat → Nat} : ∀ r, allR vl r = true → ∀ j, j < r → okv j (vl j) = true := by
  intro r
  induction r with
  | zero => intro _ j hj; omega
  | succ r ih =>
    intro h j hj
    unfold allR at h
    rw [Bool.and_eq_true] at h
    by_cases e : j = r
    · rw [e]; exact h.2
    · exact ih h.1 j (by omega)
def bI (b : Bool) : Int32 := if b = true then 1 else 0
theorem areL {n r : Nat} {v : MdV} {vl : Nat → Nat} (hr : r ≤ 64) (hm : Md_many v = nI r) (hv : ∀ j, j < r → Md_numbers v j = nI (vl j) ∧ vl j < 10000) : ∀ (m i k : Nat), i + m = r → m < k → F_X10_areParts_L4 n k v (bI (allR vl i)) (nI i) = some (bI (allR vl r)) := by
  intro m
  induction m with
  | zero =>
    intro i k hi hk
    obtain ⟨k, rfl⟩ : ∃ z, k = z + 1 := ⟨k - 1, by omega⟩
    obtain rfl : i = r := by omega
    rw [F_X10_areParts_L4, hm, if_pos (nI_le (Nat.le_refl _) (by omega))]
    unfold bI
    split
    · rw [zck_1]
    · rw [zck_0]
  | succ m ih =>
    intro i k hi hk
    obtain ⟨k, rfl⟩ : ∃ z, k = z + 1 := ⟨k - 1, by omega⟩
    obtain ⟨e1, e2⟩ := hv i (by omega)
    have I := ih (i + 1) k (by omega) (by omega)
    have rem : nI i - nI i / 2 * 2 = nI (i % 2) := by rw [lit]; exact pk_rem (by omega) (by decide) (by decide)
    rw [F_X10_areParts_L4, hm, if_neg (nI_nlE (by omega) (by omega)), rem, chk_nI (by omega) (by decide), chk_nI (by omega) (by decide), nI_clamp (by omega), e1, isLight_s, isDark_s, bnd_some, bnd_some, nI_1]
    have l1 : (nI (vl i) < 1 ∨ 60 < nI (vl i)) ↔ (vl i < 1 ∨ 60 < vl i) := by
      rw [show (nI (vl i) < 1) = (vl i < 1) from propext (nI_ltI (b := 1) (by omega) (by omega)), show (60 < nI (vl i)) = (60 < vl i) from propext (nI_ltI (a := 60) (by omega) (by omega))]
    have l2 : (nI (vl i) < 0 ∨ 60 < nI (vl i)) ↔ (60 < vl i) := by
      rw [show (60 < nI (vl i)) = (60 < vl i) from propext (nI_ltI (a := 60) (by omega) (by omega))]
      have := nI_pos (n := vl i) (by omega)
      exact ⟨fun z => z.elim (fun y => absurd y this) (fun y => y), Or.inr⟩
    have ev : (nI (i % 2) = 0) ↔ i % 2 = 0 := nI_eq (b := 0) (by omega) (by omega)
    simp only [l1, l2, ev]
    have ex : allR vl (i + 1) = (allR vl i && okv i (vl i)) := rfl
    cases hA : allR vl i with
    | false =>
      rw [hA] at ex
      rw [ex] at I
      show (if (0 : Int32) = 0 then _ else _) = _
      rw [if_pos rfl]
      exact I
    | true =>
      rw [hA] at ex
      show (if (1 : Int32) = 0 then _ else _) = _
      rw [if_neg (show ¬ (1 : Int32) = 0 by decide)]
      by_cases c : i % 2 = 0
      · rw [if_pos c]
        by_cases d : vl i < 1 ∨ 60 < vl i
        · have o : okv i (vl i) = false := by
            unfold okv
            rw [if_pos c]
            exact decide_eq_false (by omega)
          rw [ex, o] at I
          rw [if_pos d, if_pos rfl]
          exact I
        · have o : okv i (vl i) = true := by
            unfold okv
            rw [if_pos c]
            exact decide_eq_true (by omega)
          rw [ex, o] at I
          rw [if_neg d, if_neg (show ¬ (1 : Int32) = 0 by decide)]
          exact I
      · rw [if_neg c]
        by_cases d : 60 < vl i
        · have o : okv i (vl i) = false := by
            unfold okv
            rw [if_neg c]
            exact decide_eq_false (by omega)
          rw [ex, o] at I
          rw [if_pos d, if_pos rfl]
          exact I
        · have o : okv i (vl i) = true := by
            unfold okv
            rw [if_neg c]
            exact decide_eq_true (by omega)
          rw [ex, o] at I
          rw [if_neg d, if_neg (show ¬ (1 : Int32) = 0 by decide)]
          exact I
theorem areParts_s {n r : Nat} {v : MdV} {vl : Nat → Nat} (hn : 64 < n) (hr : r ≤ 64) (hm : Md_many v = nI r) (hv : ∀ j, j < r → Md_numbers v j = nI (vl j) ∧ vl j < 10000) : F_X10_areParts n v = some (bI (allR vl r)) := areL hr hm hv r 0 n (by omega) (by omega)
/-- the parts put in, on both sides -/
theorem partsL {n r : Nat} {t : TxV} {S0 : StV} {vl : Nat → Nat} (hr : r ≤ 16) (he : r % 2 = 0) (hok : allR vl r = true) (hc : ∀ j, j < r → Tx_numbers t j = nI (vl j)) : ∀ (m i k k2 : Nat) (f : FlV) (v : MdV) (A : Nat → Nat), 2 * i + 2 * m = r → m < k → m < k2 → (∀ j, j < r → Md_numbers v j = nI (vl j)) → Md_many v = nI r → RFl f A → IFl0 A → nIf (Md_now v) A → A 64 = i →
    ∃ (f2 : FlV) (w2 : Nat → Int32) (A2 : Nat → Nat), F_X8_carryOutCode_L145 n k t (St_mk (St_So S0) (St_Ci S0) f (St_Ch S0) (St_Lo S0)) (nI r) (nI (2 * i)) = some (0, t, St_mk (St_So S0) (St_Ci S0) f2 (St_Ch S0) (St_Lo S0)) ∧ F_X10_does_L63 n k2 v (nI (2 * i)) = some (setNow v w2) ∧ RFl f2 A2 ∧ nIf w2 A2 ∧ IFl0 A2 ∧ A2 64 = i + m ∧ frm 64 81 A A2 ∧ frmw 64 81 (Md_now v) w2 := by
  intro m
  induction m with
  | zero =>
    intro i k k2 f v A hi hk hk2 hv hm h1 h2 h3 h4
    obtain ⟨k, rfl⟩ : ∃ z, k = z + 1 := ⟨k - 1, by omega⟩
    obtain ⟨k2, rfl⟩ : ∃ z, k2 = z + 1 := ⟨k2 - 1, by omega⟩
    refine ⟨f, Md_now v, A, ?_, ?_, h1, h3, h2, h4, fun j _ => rfl, fun j _ => rfl⟩
    · rw [F_X8_carryOutCode_L145, nI_1, if_pos (nI_le (by omega) (by omega))]
    · rw [F_X10_does_L63, hm, if_pos (nI_le (by omega) (by omega))]
      rfl
  | succ m ih =>
    intro i k k2 f v A hi hk hk2 hv hm h1 h2 h3 h4
    obtain ⟨k, rfl⟩ : ∃ z, k = z + 1 := ⟨k - 1, by omega⟩
    obtain ⟨k2, rfl⟩ : ∃ z, k2 = z + 1 := ⟨k2 - 1, by omega⟩
    have o1 := allR_at r hok (2 * i) (by omega)
    have o2 := allR_at r hok (2 * i + 1) (by omega)
    unfold okv at o1 o2
    rw [if_pos (by omega)] at o1
    rw [if_neg (by omega)] at o2
    have o1 := of_decide_eq_true o1
    have o2 := of_decide_eq_true o2
    obtain ⟨f2, w2, A2, g1, g2, g3, g4, g5, g6, g7, g8⟩ := append_s (v := v) (l := vl (2 * i)) (d := vl (2 * i + 1)) h1 h2 (by omega) o1.1 o1.2 o2.2 h3
    obtain ⟨f3, w3, A3, q1, q2, q3, q4, q5, q6, q7, q8⟩ := ih (i + 1) k k2 f2 (setNow v w2) A2 (by omega) (by omega) (by omega) hv hm g3 ⟨g5.2.1, g5.2.2.1, g5.2.2.2⟩ g4 (by omega)
    have two : nI (2 * i) + 2 = nI (2 * (i + 1)) := nI_add (2 * i) 2
    refine ⟨f3, w3, A3, ?_, ?_, q3, q4, q5, by omega, ?_, ?_⟩
    · rw [F_X8_carryOutCode_L145, nI_1, if_neg (nI_nlE (by omega) (by omega)), if_neg (by rw [lit, nI_leI (by omega) (by omega)]; omega), chk_nI (by omega) (by decide), chk_nI (by omega) (by decide), nI_clamp (by omega), nI_clamp (by omega), hc _ (by omega), hc _ (by omega)]
      show (F_X4_append f (nI (vl (2 * i))) (nI (vl (2 * i + 1)))).bind _ = _
      rw [g1, bnd_some, two]
      exact q1
    · rw [F_X10_does_L63, hm, if_neg (nI_nlE (by omega) (by omega)), nI_1, chk_nI (by omega) (by decide), chk_nI (by omega) (by decide), nI_clamp (by omega), nI_clamp (by omega), hv _ (by omega), hv _ (by omega), g2, bnd_some, two]
      exact q2
    · intro j hj
      rw [q7 j hj, g7 j hj]
    · intro j hj
      rw [q8 j hj]
      exact g8 j hj
theorem rd_1a {n : Nat} {u : MdV} : F_X10_reasonOf_J39 n u 1 0 = (F_X10_readsNumbers n u 64).bind fun q4 => if Md_many q4 = 0 then some (2, q4) else if Md_many q4 - Md_many q4 / 2 * 2 = 1 then some (2, q4) else (F_X10_at q4 (Md_place q4)).bind fun q9 => if q9 = 32 then some (2, q4) else F_X10_reasonOf_J147 n q4 1 0 := rfl
theorem rd_1c {n : Nat} {u : MdV} : F_X10_reasonOf_J147 n u 1 0 = ((F_X10_areParts n u).bind fun q => zck q (some q)).bind fun q5 => if q5 = 0 then some (3, u) else if Md_many u ≤ 16 then F_X10_reasonOf_J205 n u 1 0 else some (5, u) := rfl
theorem does_1 {n : Nat} {u : MdV} : F_X10_does n u 1 0 = (F_X10_clearsCode n u).bind fun q2 => F_X10_does_L63 n n q2 0 := rfl
/-- behind the numbers -/
theorem code_end {n p0 p r : Nat} {t : TxV} {v : MdV} {S : StV} {T : Nat → Nat} {L : Nat} {w nbM nbC : Nat → Int32} {vl : Nat → Nat} (hn : 120 < n) (h : TC t T L) (hm : TM v T L) (hp : p ≤ L) (hp0 : p0 ≤ p) (hS : RS S w) (hr : r < 64) (hM : ∀ j, j < r → nbM j = nI (vl j) ∧ vl j < 10000) (hC : ∀ j, j < r → j < 16 → nbC j = nI (vl j)) (h32 : ¬ cx T L p = 32) :
    ItemR L p0 t v (F_X8_carryOutCode_J96 n (setC t nbC (nI p)) S (nI r) (bI (allR vl r))) (if Md_many (setT v w nbM (nI p) (nI r)) = 0 then some (2, setT v w nbM (nI p) (nI r)) else if Md_many (setT v w nbM (nI p) (nI r)) - Md_many (setT v w nbM (nI p) (nI r)) / 2 * 2 = 1 then some (2, setT v w nbM (nI p) (nI r)) else (F_X10_at (setT v w nbM (nI p) (nI r)) (Md_place (setT v w nbM (nI p) (nI r)))).bind fun q9 => if q9 = 32 then some (2, setT v w nbM (nI p) (nI r)) else F_X10_reasonOf_J147 n (setT v w nbM (nI p) (nI r)) 1 0) := by
  have h1 := h.1
  have q0 : ¬ (1 : Int32) = 0 := by decide
  have em : Md_many (setT v w nbM (nI p) (nI r)) = nI r := rfl
  have ep : Md_place (setT v w nbM (nI p) (nI r)) = nI p := rfl
  have hc := cx_in h.b p
  have rem : nI r - nI r / 2 * 2 = nI (r % 2) := by rw [lit]; exact pk_rem (by omega) (by decide) (by decide)
  unfold F_X8_carryOutCode_J96
  rw [em, ep, rem, at_m hm (by omega), bnd_some, if_neg (show ¬ nI (cx T L p) = 32 from fun z => h32 ((nI_eq (b := 32) (by omega) (by omega)).mp z))]
  by_cases c0 : r = 0
  · rw [if_pos (show nI r = 0 by rw [c0]; rfl), if_pos (show nI r = 0 by rw [c0]; rfl)]
    exact ⟨2, nbC, _, S, w, _, _, _, by decide, rfl, rfl, fun z => by omega⟩
  · have n0 : ¬ nI r = 0 := nI_ne0 (by omega) (by omega)
    rw [if_neg n0, if_neg n0]
    by_cases c1 : r % 2 = 1
    · rw [if_pos (show nI (r % 2) = 1 by rw [c1]; rfl), if_pos (show nI (r % 2) = 1 by rw [c1]; rfl)]
      exact ⟨2, nbC, _, S, w, _, _, _, by decide, rfl, rfl, fun z => by omega⟩
    · have n1 : ¬ nI (r % 2) = 1 := fun z => c1 ((nI_eq (b := 1) (by omega) (by omega)).mp z)
      rw [if_neg n1, if_neg n1, rd_1c, areParts_s (r := r) (vl := vl) (by omega) (by omega) em (fun j hj => hM j hj), bnd_some, em]
      cases hA : allR vl r with
      | false =>
        show ItemR L p0 t v (if (0 : Int32) = 0 then _ else _) ((zck 0 (some 0)).bind _)
        rw [if_pos rfl, zck_0, bnd_some, if_pos rfl]
        exact ⟨3, nbC, _, S, w, _, _, _, by decide, rfl, rfl, fun z => by omega⟩
      | true =>
        show ItemR L p0 t v (if (1 : Int32) = 0 then _ else _) ((zck 1 (some 1)).bind _)
        rw [if_neg q0, zck_1, bnd_some, if_neg q0]
        by_cases c16 : r ≤ 16
        · have l16 : nI r ≤ 16 := nI_le (b := 16) c16 (by omega)
          rw [if_pos l16, if_pos l16, rd_end hm (by omega), show F_X8_skips (setC t nbC (nI p)) 59 = _ from skips_c (s := 59) h (by omega) (by decide)]
          by_cases c2 : cx T L p = 59
          · have hL2 := cx_lt (T := T) (L := L) (j := p) (by omega)
            obtain ⟨A, hA2⟩ := hS
            obtain ⟨w1, A1, k1, k2, k3, k4, k5⟩ := clears_s (n := n) (v := setT v w nbM (nI (p + 1)) (nI r)) (by omega) hA2.1
            obtain ⟨f1, d1, d2, d3⟩ := drop_s (f := St_Fl S) k3
            have z64 := k3 64 (by omega) (by omega)
            obtain ⟨f2, w2, A2, g1, g2, g3, g4, g5, g6, g7, g8⟩ := partsL (n := n) (r := r) (t := setC t nbC (nI (p + 1))) (S0 := S) (vl := vl) c16 (by omega) hA (fun j hj => hC j hj (by omega)) (r / 2) 0 n n f1 (setNow (setT v w nbM (nI (p + 1)) (nI r)) w1) A1 (by omega) (by omega) (by omega) (fun j hj => (hM j hj).1) rfl d2 d3 k2 z64
            rw [if_pos c2, if_pos c2, bnd_some, if_neg q0, does_1, k1, bnd_some]
            show ItemR L p0 t v ((F_X4_drop (St_Fl S)).bind _) ((F_X10_does_L63 n n (setNow (setT v w nbM (nI (p + 1)) (nI r)) w1) 0).bind _)
            rw [d1, bnd_some, show F_X10_does_L63 n n (setNow (setT v w nbM (nI (p + 1)) (nI r)) w1) 0 = _ from g2, bnd_some]
            refine ⟨0, nbC, nI (p + 1), _, w2, nbM, nI (p + 1), nI r, by decide, g1, rfl, fun _ => ⟨p + 1, by omega, by omega, rfl, rfl, ⟨A2, RA_fl hA2 g3 g4 ⟨by omega, g5.1, g5.2.1, g5.2.2⟩ ?_ ?_⟩⟩⟩
            · intro j hj
              rw [g7 j hj, k4 j hj]
            · intro j hj
              rw [g8 j hj]
              exact k5 j hj
          · rw [if_neg c2, if_neg c2, bnd_some, if_pos rfl]
            exact ⟨6, nbC, _, S, w, _, _, _, by decide, rfl, rfl, fun z => by omega⟩
        · have l16 : ¬ nI r ≤ 16 := nI_nlE (b := 16) (by omega) (by omega)
          rw [if_neg l16, if_neg l16]
          exact ⟨5, nbC, _, S, w, _, _, _, by decide, rfl, rfl, fun z => by omega⟩
/-- one number more, in the class -/
theorem codeStep {n k p r : Nat} {t : TxV} {S : StV} {T : Nat → Nat} {L : Nat} {nbC : Nat → Int32} {b : Bool} (hn : 120 < n) (h : TC t T L) (hN : isN T L p) (hr : r < 120) : ∃ nb2 : Nat → Int32, F_X8_carryOutCode_L7 n (k + 1) (setC t nbC (nI p)) S (nI r) (bI b) (nI r) = F_X8_carryOutCode_L7 n k (setC t nb2 (nI (nuE T L p))) S (nI (r + 1)) (bI (b && okv r (nuV T L p))) (nI (r + 1)) ∧ (r < 16 → nb2 = upd nbC r (nI (nuV T L p))) ∧ (16 ≤ r → nb2 = nbC) := by
  have h1 := h.1
  obtain ⟨z1, z2, z3⟩ := isN_in hN
  have hL := cx_lt (T := T) (L := L) (j := p) (by have := hN.1; omega)
  have ea : Tx_at (setC t nbC (nI p)) = nI p := rfl
  have rem : nI r - nI r / 2 * 2 = nI (r % 2) := by rw [lit]; exact pk_rem (by omega) (by decide) (by decide)
  have ev : (nI (r % 2) = 0) = (r % 2 = 0) := propext (nI_eq (b := 0) (by omega) (by omega))
  have s1 : (nI (nuV T L p) < 1) = (nuV T L p < 1) := propext (nI_ltI (b := 1) (by omega) (by omega))
  have s0 : ¬ nI (nuV T L p) < 0 := nI_pos (by omega)
  have s6 : (nI (nuV T L p) ≤ 60) = (nuV T L p ≤ 60) := propext (nI_leI (b := 60) (by omega) (by omega))
  have s16 : ((16 : Int32) ≤ nI r) = (16 ≤ r) := propext (nI_leI (a := 16) (by omega) (by omega))
  refine ⟨if r < 16 then upd nbC r (nI (nuV T L p)) else nbC, ?_, fun c => if_pos c, fun c => if_neg (by omega)⟩
  rw [F_X8_carryOutCode_L7, if_neg (by rw [lit, nI_leI (by omega) (by omega)]; omega), ea, sign_c h (by omega), bnd_some, hN.1, if_pos (show nI 32 = 32 from rfl), num_a (by omega) h hN, bnd_some, if_neg (nI_n4 (by omega)).2, rem, nI_1]
  dsimp only []
  simp only [ev, s1, s6, s16]
  rw [if_neg s0]
  have fin : ∀ (f : Bool), f = (b && okv r (nuV T L p)) → (if 16 ≤ r then F_X8_carryOutCode_L7 n k (setC t nbC (nI (nuE T L p))) S (nI (r + 1)) (bI f) (nI (r + 1)) else chk (nI r) 16 (F_X8_carryOutCode_L7 n k (setC t (upd nbC (nI r).toNatClampNeg (nI (nuV T L p))) (nI (nuE T L p))) S (nI (r + 1)) (bI f) (nI (r + 1)))) = F_X8_carryOutCode_L7 n k (setC t (if r < 16 then upd nbC r (nI (nuV T L p)) else nbC) (nI (nuE T L p))) S (nI (r + 1)) (bI (b && okv r (nuV T L p))) (nI (r + 1)) := by
    intro f hf
    rw [← hf]
    by_cases c : 16 ≤ r
    · rw [if_pos c, if_neg (by omega)]
    · rw [if_neg c, if_pos (by omega), chk_nI (by omega) (by decide), nI_clamp (by omega)]
  by_cases c : r % 2 = 0
  · rw [if_pos c]
    by_cases d1 : nuV T L p < 1
    · rw [if_pos d1]
      refine fin false ?_
      unfold okv
      rw [if_pos c, decide_eq_false (by omega), Bool.and_false]
    · rw [if_neg d1]
      by_cases d2 : nuV T L p ≤ 60
      · rw [if_pos d2]
        refine fin b ?_
        unfold okv
        rw [if_pos c, decide_eq_true (by omega), Bool.and_true]
      · rw [if_neg d2]
        refine fin false ?_
        unfold okv
        rw [if_pos c, decide_eq_false (by omega), Bool.and_false]
  · rw [if_neg c]
    by_cases d2 : nuV T L p ≤ 60
    · rw [if_pos d2]
      refine fin b ?_
      unfold okv
      rw [if_neg c, decide_eq_true (by omega), Bool.and_true]
    · rw [if_neg d2]
      refine fin false ?_
      unfold okv
      rw [if_neg c, decide_eq_false (by omega), Bool.and_false]
theorem codeL {n p0 : Nat} {t : TxV} {v : MdV} {S : StV} {T : Nat → Nat} {L : Nat} {w : Nat → Int32} (hn : 120 < n) (h : TC t T L) (hm : TM v T L) (hS : RS S w) : ∀ (m p k k2 r : Nat) (nbC nbM : Nat → Int32) (vl : Nat → Nat), p + m = L + 2 → p ≤ L → m < k → m < k2 → p0 ≤ p → 2 * r ≤ p → (∀ j, j < r → nbM j = nI (vl j) ∧ vl j < 10000) → (∀ j, j < r → j < 16 → nbC j = nI (vl j)) →
    ItemR L p0 t v (F_X8_carryOutCode_L7 n k (setC t nbC (nI p)) S (nI r) (bI (allR vl r)) (nI r)) ((F_X10_readsNumbers_L5 n k2 (setT v w nbM (nI p) (nI r)) (nI 64)).bind fun q4 => if Md_many q4 = 0 then some (2, q4) else if Md_many q4 - Md_many q4 / 2 * 2 = 1 then some (2, q4) else (F_X10_at q4 (Md_place q4)).bind fun q9 => if q9 = 32 then some (2, q4) else F_X10_reasonOf_J147 n q4 1 0) := by
  have h1 := h.1
  intro m
  induction m using Nat.strongRecOn with
  | ind m ih =>
    intro p k k2 r nbC nbM vl hp hpl hk hk2 hp0 hr hM hC
    obtain ⟨k, rfl⟩ : ∃ z, k = z + 1 := ⟨k - 1, by omega⟩
    obtain ⟨k2, rfl⟩ : ∃ z, k2 = z + 1 := ⟨k2 - 1, by omega⟩
    have hc := cx_in h.b p
    by_cases cN : isN T L p
    · obtain ⟨z1, z2, z3⟩ := isN_in cN
      obtain ⟨nb2, g1, g2, g3⟩ := codeStep (n := n) (k := k) (S := S) (nbC := nbC) (b := allR vl r) hn h cN (show r < 120 by omega)
      rw [g1, rn_a (by omega) hm cN (by omega) (by omega)]
      have vc : ∀ j, j < r → vl j = sA vl r (nuV T L p) j := fun j hj => (sA_ne (by omega)).symm
      have vr : sA vl r (nuV T L p) r = nuV T L p := sA_at
      have e : (allR vl r && okv r (nuV T L p)) = allR (sA vl r (nuV T L p)) (r + 1) := by
        show _ = (allR (sA vl r (nuV T L p)) r && okv r (sA vl r (nuV T L p) r))
        rw [vr, allR_cg r vc]
      rw [e]
      refine ih (L + 2 - nuE T L p) (by omega) (nuE T L p) k k2 (r + 1) nb2 (upd nbM r (nI (nuV T L p))) (sA vl r (nuV T L p)) (by omega) z3 (by omega) (by omega) (by omega) (by omega) ?_ ?_
      · intro j hj
        by_cases ej : j = r
        · rw [ej, upd_at, vr]
          exact ⟨rfl, z1⟩
        · rw [upd_ne ej, ← vc j (by omega)]
          exact hM j (by omega)
      · intro j hj h16
        by_cases ej : j = r
        · subst ej
          rw [g2 h16, upd_at, vr]
        · rw [← vc j (by omega)]
          by_cases c16 : r < 16
          · rw [g2 c16, upd_ne ej]
            exact hC j (by omega) h16
          · rw [g3 (by omega)]
            exact hC j (by omega) h16
    · rw [rn_b hm (by omega) cN (by omega) (by omega), bnd_some]
      by_cases c32 : cx T L p = 32
      · have hL := cx_lt (T := T) (L := L) (j := p) (by omega)
        have ea : Tx_at (setC t nbC (nI p)) = nI p := rfl
        have em : Md_many (setT v w nbM (nI p) (nI r)) = nI r := rfl
        have ep : Md_place (setT v w nbM (nI p) (nI r)) = nI p := rfl
        obtain ⟨p', hp', g⟩ := num_b (n := n) (nb := nbC) (by omega) h (p := p) (by omega) cN
        rw [F_X8_carryOutCode_L7, if_neg (by rw [lit, nI_leI (by omega) (by omega)]; omega), ea, sign_c h (by omega), bnd_some, c32, if_pos (show nI 32 = 32 from rfl), g, bnd_some, if_pos rfl]
        refine ⟨2, nbC, nI p', S, w, nbM, nI p, nI r, by decide, rfl, ?_, fun z => by omega⟩
        rw [em, ep, at_m hm (by omega), bnd_some, c32, if_pos (show nI 32 = 32 from rfl)]
        split
        · rfl
        · split <;> rfl
      · have E := code_end (p0 := p0) (nbM := nbM) (nbC := nbC) (vl := vl) hn h hm hpl hp0 hS (show r < 64 by omega) hM hC c32
        have ea : Tx_at (setC t nbC (nI p)) = nI p := rfl
        have X : F_X8_carryOutCode_L7 n (k + 1) (setC t nbC (nI p)) S (nI r) (bI (allR vl r)) (nI r) = F_X8_carryOutCode_J96 n (setC t nbC (nI p)) S (nI r) (bI (allR vl r)) := by
          rw [F_X8_carryOutCode_L7, if_neg (by rw [lit, nI_leI (by omega) (by omega)]; omega), ea, sign_c h (by omega), bnd_some, if_neg (show ¬ nI (cx T L p) = 32 from fun z => c32 ((nI_eq (b := 32) (by omega) (by omega)).mp z))]
        rw [X]
        exact E
theorem item_code {n p : Nat} {t : TxV} {v : MdV} {S : StV} {T : Nat → Nat} {L : Nat} {w nb nbC : Nat → Int32} {mn : Int32} (hn : 200 < n) (h : TC t T L) (hm : TM v T L) (hp : p ≤ L) (hS : RS S w) : ItemR L p t v (F_X8_carryOutCode n (setC t nbC (nI p)) S) (F_X10_reasonOf_J39 n (setT v w nb (nI p) mn) 1 0) := by
  have h1 := h.1
  rw [rd_1a, rn_0]
  exact codeL (n := n) (p0 := p) (by omega) h hm hS (L + 2 - p) p n n 0 nbC nb (fun _ => 0) (by omega) hp (by omega) (by omega) (Nat.le_refl _) (by omega) (fun j hj => by omega) (fun j hj => by omega)
