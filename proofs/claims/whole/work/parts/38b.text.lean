/-! TEXT: numbers -/
def digF (T : Nat → Nat) (L : Nat) : Nat → Nat → Nat → Nat × Nat
  | 0, p, v => (v, p)
  | m + 1, p, v => if 48 ≤ cx T L p ∧ cx T L p ≤ 57 then digF T L m (p + 1) (v * 10 + (cx T L p - 48)) else (v, p)
theorem digF_in {T : Nat → Nat} {L : Nat} : ∀ m a p v, a + m = 4 → v < 10 ^ a → p ≤ L → (digF T L m p v).1 < 10000 ∧ p ≤ (digF T L m p v).2 ∧ (digF T L m p v).2 ≤ L := by
  intro m
  induction m with
  | zero =>
    intro a p v ha hv hp
    obtain rfl : a = 4 := by omega
    exact ⟨hv, Nat.le_refl _, hp⟩
  | succ m ih =>
    intro a p v ha hv hp
    unfold digF
    by_cases c : 48 ≤ cx T L p ∧ cx T L p ≤ 57
    · rw [if_pos c]
      have hL := cx_lt (T := T) (L := L) (j := p) (by omega)
      have h2 : v * 10 + (cx T L p - 48) < 10 ^ (a + 1) := by rw [Nat.pow_succ]; omega
      obtain ⟨z1, z2, z3⟩ := ih (a + 1) (p + 1) _ (by omega) h2 (by omega)
      exact ⟨z1, by omega, z3⟩
    · rw [if_neg c]
      refine ⟨?_, Nat.le_refl _, hp⟩
      have : 10 ^ a ≤ 10 ^ 4 := Nat.pow_le_pow_right (by decide) (by omega)
      show v < 10000
      omega
def isN (T : Nat → Nat) (L p : Nat) : Prop := cx T L p = 32 ∧ 48 ≤ cx T L (p + 1) ∧ cx T L (p + 1) ≤ 57
def nuV (T : Nat → Nat) (L p : Nat) : Nat := (digF T L 4 (p + 1) 0).1
def nuE (T : Nat → Nat) (L p : Nat) : Nat := (digF T L 4 (p + 1) 0).2
theorem digF_1 {T : Nat → Nat} {L p : Nat} (h : isN T L p) : digF T L 4 (p + 1) 0 = digF T L 3 (p + 2) (cx T L (p + 1) - 48) := by
  show (if 48 ≤ cx T L (p + 1) ∧ cx T L (p + 1) ≤ 57 then digF T L 3 (p + 1 + 1) (0 * 10 + (cx T L (p + 1) - 48)) else (0, p + 1)) = _
  rw [if_pos h.2, Nat.zero_mul, Nat.zero_add]
theorem isN_in {T : Nat → Nat} {L p : Nat} (h : isN T L p) : nuV T L p < 10000 ∧ p + 2 ≤ nuE T L p ∧ nuE T L p ≤ L := by
  have hL := cx_lt (T := T) (L := L) (j := p + 1) (by have := h.2.1; omega)
  unfold nuV nuE
  rw [digF_1 h]
  have := h.2.2
  obtain ⟨z1, z2, z3⟩ := digF_in (T := T) (L := L) 3 1 (p + 2) (cx T L (p + 1) - 48) (by omega) (by omega) (by omega)
  exact ⟨z1, z2, z3⟩
theorem skips_c {t : TxV} {T : Nat → Nat} {L p s : Nat} {nb : Nat → Int32} (h : TC t T L) (hp : p < 2 ^ 30) (hs : s < 2 ^ 30) : F_X8_skips (setC t nb (nI p)) (nI s) = if cx T L p = s then some (1, setC t nb (nI (p + 1))) else some (0, setC t nb (nI p)) := by
  have ea : Tx_at (setC t nb (nI p)) = nI p := rfl
  have hc := cx_in h.b p
  unfold F_X8_skips
  rw [ea, sign_c h hp, bnd_some, nI_1]
  by_cases c : cx T L p = s
  · rw [if_pos (by rw [c]), if_pos c]
  · rw [if_neg (fun z => c ((nI_eq (by omega) (by omega)).mp z)), if_neg c]
theorem digL_c {n : Nat} {t : TxV} {T : Nat → Nat} {L : Nat} {nb : Nat → Int32} (h : TC t T L) : ∀ (m a k p v : Nat), a + m = 4 → 1 ≤ a → m < k → v < 10 ^ a → p ≤ L → F_X8_readNumber_L15 n k (setC t nb (nI p)) (nI v) (nI a) = some (nI (digF T L m p v).1, setC t nb (nI (digF T L m p v).2)) := by
  have h1 := h.1
  intro m
  induction m with
  | zero =>
    intro a k p v ha h1 hk hv hp
    obtain ⟨k, rfl⟩ : ∃ z, k = z + 1 := ⟨k - 1, by omega⟩
    obtain rfl : a = 4 := by omega
    rw [F_X8_readNumber_L15, if_pos (show (4 : Int32) ≤ nI 4 by decide), if_neg (show ¬ nI 4 = 0 by decide)]
    rfl
  | succ m ih =>
    intro a k p v ha h1 hk hv hp
    obtain ⟨k, rfl⟩ : ∃ z, k = z + 1 := ⟨k - 1, by omega⟩
    have ea : Tx_at (setC t nb (nI p)) = nI p := rfl
    have hc := cx_in h.b p
    have a4 : ¬ (4 : Int32) ≤ nI a := by rw [lit, nI_leI (by omega) (by omega)]; omega
    have a0 : ¬ nI a = 0 := nI_ne0 (by omega) (by omega)
    rw [F_X8_readNumber_L15, if_neg a4, ea, sign_c h (by omega), bnd_some, bnd_some, bnd_some, if_neg a0, nI_1, nI_1]
    unfold digF
    by_cases c1 : 48 ≤ cx T L p
    · have z1 : ¬ nI (cx T L p) < 48 := nI_nlt (b := 48) (by omega) (by omega)
      rw [if_neg z1]
      by_cases c2 : cx T L p ≤ 57
      · have z2 : ¬ (57 : Int32) < nI (cx T L p) := nI_nlt (a := 57) (by omega) (by omega)
        have hL := cx_lt (T := T) (L := L) (j := p) (by omega)
        have h2 : v * 10 + (cx T L p - 48) < 10 ^ (a + 1) := by rw [Nat.pow_succ]; omega
        rw [if_neg z2, if_pos ⟨c1, c2⟩, show nI (cx T L p) - 48 = nI (cx T L p - 48) from pk_sub (a := cx T L p) (b := 48) c1, show (10 : Int32) = nI 10 from rfl, pk_mul, nI_add]
        exact ih (a + 1) k (p + 1) _ (by omega) (by omega) (by omega) h2 (by omega)
      · have z2 : (57 : Int32) < nI (cx T L p) := nI_lt (a := 57) (by omega) (by omega)
        rw [if_pos z2, if_neg (by omega)]
    · have z1 : nI (cx T L p) < 48 := nI_lt (b := 48) (by omega) (by omega)
      rw [if_pos z1, if_neg (by omega)]
theorem num_a {n : Nat} {t : TxV} {T : Nat → Nat} {L p : Nat} {nb : Nat → Int32} (hn : 10 < n) (h : TC t T L) (hN : isN T L p) : F_X8_readNumber n (setC t nb (nI p)) = some (nI (nuV T L p), setC t nb (nI (nuE T L p))) := by
  obtain ⟨n', rfl⟩ : ∃ z, n = z + 1 := ⟨n - 1, by omega⟩
  have h1 := h.1
  obtain ⟨g1, g2, g3⟩ := id hN
  have hL := cx_lt (T := T) (L := L) (j := p + 1) (by omega)
  have ea : Tx_at (setC t nb (nI (p + 1))) = nI (p + 1) := rfl
  have z1 : ¬ nI (cx T L (p + 1)) < 48 := nI_nlt (b := 48) g2 (by omega)
  have z2 : ¬ (57 : Int32) < nI (cx T L (p + 1)) := nI_nlt (a := 57) g3 (by omega)
  unfold F_X8_readNumber
  rw [show F_X8_skips (setC t nb (nI p)) 32 = _ from skips_c (s := 32) h (by omega) (by decide), if_pos g1, bnd_some, if_neg (show ¬ (1 : Int32) = 0 by decide)]
  show F_X8_readNumber_L15 (n' + 1) (n' + 1) (setC t nb (nI (p + 1))) 0 0 = _
  rw [F_X8_readNumber_L15, if_neg (show ¬ (4 : Int32) ≤ 0 by decide), ea, sign_c h (by omega), bnd_some, bnd_some, bnd_some, if_neg z1, if_neg z2, nI_1, show nI (cx T L (p + 1)) - 48 = nI (cx T L (p + 1) - 48) from pk_sub (a := cx T L (p + 1)) (b := 48) g2, Int32.zero_mul, Int32.zero_add, Int32.zero_add]
  unfold nuV nuE
  rw [digF_1 hN]
  exact digL_c h 3 1 n' (p + 2) _ (by omega) (by omega) (by omega) (by omega) (by omega)
theorem num_b {n : Nat} {t : TxV} {T : Nat → Nat} {L p : Nat} {nb : Nat → Int32} (hn : 10 < n) (h : TC t T L) (hp : p < 2 ^ 20) (hN : ¬ isN T L p) : ∃ p', p' ≤ p + 1 ∧ F_X8_readNumber n (setC t nb (nI p)) = some (-1, setC t nb (nI p')) := by
  obtain ⟨n', rfl⟩ : ∃ z, n = z + 1 := ⟨n - 1, by omega⟩
  have hc := cx_in h.b (p + 1)
  unfold F_X8_readNumber
  rw [show F_X8_skips (setC t nb (nI p)) 32 = _ from skips_c (s := 32) h (by omega) (by decide)]
  by_cases c : cx T L p = 32
  · have ea : Tx_at (setC t nb (nI (p + 1))) = nI (p + 1) := rfl
    refine ⟨p + 1, Nat.le_refl _, ?_⟩
    rw [if_pos c, bnd_some, if_neg (show ¬ (1 : Int32) = 0 by decide)]
    show F_X8_readNumber_L15 (n' + 1) (n' + 1) (setC t nb (nI (p + 1))) 0 0 = _
    rw [F_X8_readNumber_L15, if_neg (show ¬ (4 : Int32) ≤ 0 by decide), ea, sign_c h (by omega), bnd_some, bnd_some, if_pos rfl]
    by_cases c1 : 48 ≤ cx T L (p + 1)
    · have z1 : ¬ nI (cx T L (p + 1)) < 48 := nI_nlt (b := 48) c1 (by omega)
      have c2 : 57 < cx T L (p + 1) := by
        refine Nat.lt_of_not_le fun z => hN ⟨c, c1, z⟩
      have z2 : (57 : Int32) < nI (cx T L (p + 1)) := nI_lt (a := 57) c2 (by omega)
      rw [if_neg z1, if_pos z2]
    · have z1 : nI (cx T L (p + 1)) < 48 := nI_lt (b := 48) (by omega) (by omega)
      rw [if_pos z1]
  · refine ⟨p, by omega, ?_⟩
    rw [if_neg c, bnd_some, if_pos rfl]
theorem digL_m {n : Nat} {v : MdV} {T : Nat → Nat} {L : Nat} {w nb : Nat → Int32} {mn x1 : Int32} (h : TM v T L) : ∀ (m a k p vv : Nat), a + m = 4 → m < k → vv < 10 ^ a → p ≤ L → F_X10_readsNumbers_L60 n k (setT v w nb (nI p) mn) x1 (nI vv) (nI a) = some (setT v w nb (nI (digF T L m p vv).2) mn, x1, nI (digF T L m p vv).1) := by
  have h1 := h.1
  have tb : TB T L := ⟨h.1, fun j hj => ⟨(h.2.2 j hj).1, (h.2.2 j hj).2.1⟩⟩
  intro m
  induction m with
  | zero =>
    intro a k p vv ha hk hv hp
    obtain ⟨k, rfl⟩ : ∃ z, k = z + 1 := ⟨k - 1, by omega⟩
    obtain rfl : a = 4 := by omega
    rw [F_X10_readsNumbers_L60, if_pos (show (4 : Int32) ≤ nI 4 by decide)]
    rfl
  | succ m ih =>
    intro a k p vv ha hk hv hp
    obtain ⟨k, rfl⟩ : ∃ z, k = z + 1 := ⟨k - 1, by omega⟩
    have ep : Md_place (setT v w nb (nI p) mn) = nI p := rfl
    have hc := cx_in tb p
    have a4 : ¬ (4 : Int32) ≤ nI a := by rw [lit, nI_leI (by omega) (by omega)]; omega
    rw [F_X10_readsNumbers_L60, if_neg a4, ep, at_m h (by omega), bnd_some, show F_X10_within (nI (cx T L p)) 48 57 = _ from wi_n (lo := 48) (hi := 57) (by omega) (by decide) (by decide), bnd_some, bnd_some, nI_1, nI_1]
    unfold digF
    by_cases c : 48 ≤ cx T L p ∧ cx T L p ≤ 57
    · have hL := cx_lt (T := T) (L := L) (j := p) (by omega)
      have h2 : vv * 10 + (cx T L p - 48) < 10 ^ (a + 1) := by rw [Nat.pow_succ]; omega
      have ev : ((10 * nI vv) + nI (cx T L p)) - 48 = nI (vv * 10 + (cx T L p - 48)) := by
        rw [show (10 : Int32) = nI 10 from rfl, pk_mul, nI_add, show (48 : Int32) = nI 48 from rfl, pk_sub (by omega)]
        congr 1
        omega
      rw [if_pos c, if_neg (show ¬ (1 : Int32) = 0 by decide), if_pos c, ev]
      exact ih (a + 1) k (p + 1) _ (by omega) (by omega) h2 (by omega)
    · rw [if_neg c, if_pos rfl, if_neg c]
theorem rn_a {n k q most p : Nat} {v : MdV} {T : Nat → Nat} {L : Nat} {w nb : Nat → Int32} (hn : 10 < n) (h : TM v T L) (hN : isN T L p) (hq : q < most) (hm : most ≤ 64) : F_X10_readsNumbers_L5 n (k + 1) (setT v w nb (nI p) (nI q)) (nI most) = F_X10_readsNumbers_L5 n k (setT v w (upd nb q (nI (nuV T L p))) (nI (nuE T L p)) (nI (q + 1))) (nI most) := by
  have h1 := h.1
  have tb : TB T L := ⟨h.1, fun j hj => ⟨(h.2.2 j hj).1, (h.2.2 j hj).2.1⟩⟩
  obtain ⟨g1, g2, g3⟩ := id hN
  have hL := cx_lt (T := T) (L := L) (j := p + 1) (by omega)
  have ep : Md_place (setT v w nb (nI p) (nI q)) = nI p := rfl
  have em : Md_many (setT v w nb (nI p) (nI q)) = nI q := rfl
  have D := digL_m (n := n) (w := w) (nb := nb) (mn := nI q) (x1 := nI most) h 4 0 n (p + 1) 0 (by omega) (by omega) (by decide) (by omega)
  rw [F_X10_readsNumbers_L5, em, if_neg (nI_nlE hq (by omega)), ep, at_m h (by omega), bnd_some, g1, if_pos (show nI 32 = 32 from rfl), nI_1, at_m h (by omega), bnd_some, show F_X10_within (nI (cx T L (p + 1))) 48 57 = _ from wi_n (lo := 48) (hi := 57) (by omega) (by decide) (by decide), bnd_some, if_pos (show 48 ≤ cx T L (p + 1) ∧ cx T L (p + 1) ≤ 57 from ⟨g2, g3⟩), if_neg (show ¬ (1 : Int32) = 0 by decide)]
  show (F_X10_readsNumbers_L60 n n (setT v w nb (nI (p + 1)) (nI q)) (nI most) 0 0).bind _ = _
  rw [show F_X10_readsNumbers_L60 n n (setT v w nb (nI (p + 1)) (nI q)) (nI most) 0 0 = _ from D, bnd_some]
  show chk (nI q) 64 (F_X10_readsNumbers_L5 n k (setT v w (upd nb (nI q).toNatClampNeg (nI (nuV T L p))) (nI (nuE T L p)) (nI q + 1)) (nI most)) = _
  rw [chk_nI (by omega) (by decide), nI_clamp (by omega), nI_1]
theorem rn_b {n k q most p : Nat} {v : MdV} {T : Nat → Nat} {L : Nat} {w nb : Nat → Int32} (h : TM v T L) (hp : p < 2 ^ 20) (hN : ¬ isN T L p) (hq : q < most) (hm : most ≤ 64) : F_X10_readsNumbers_L5 n (k + 1) (setT v w nb (nI p) (nI q)) (nI most) = some (setT v w nb (nI p) (nI q)) := by
  have h1 := h.1
  have tb : TB T L := ⟨h.1, fun j hj => ⟨(h.2.2 j hj).1, (h.2.2 j hj).2.1⟩⟩
  have hc := cx_in tb p
  have hc1 := cx_in tb (p + 1)
  have ep : Md_place (setT v w nb (nI p) (nI q)) = nI p := rfl
  have em : Md_many (setT v w nb (nI p) (nI q)) = nI q := rfl
  rw [F_X10_readsNumbers_L5, em, if_neg (nI_nlE hq (by omega)), ep, at_m h (by omega), bnd_some]
  by_cases c : cx T L p = 32
  · rw [if_pos (show nI (cx T L p) = 32 by rw [c]; rfl), nI_1, at_m h (by omega), bnd_some, show F_X10_within (nI (cx T L (p + 1))) 48 57 = _ from wi_n (lo := 48) (hi := 57) (by omega) (by decide) (by decide), bnd_some, if_neg (fun z => hN ⟨c, z⟩), if_pos rfl]
  · rw [if_neg (show ¬ nI (cx T L p) = 32 from fun z => c ((nI_eq (b := 32) (by omega) (by omega)).mp z))]
theorem rn_c {n k q most : Nat} {v : MdV} {w nb : Nat → Int32} {pl : Int32} (hq : most ≤ q) (hq2 : q < 2 ^ 30) : F_X10_readsNumbers_L5 n (k + 1) (setT v w nb pl (nI q)) (nI most) = some (setT v w nb pl (nI q)) := by
  have em : Md_many (setT v w nb pl (nI q)) = nI q := rfl
  rw [F_X10_readsNumbers_L5, em, if_pos (nI_le hq (by omega))]
theorem rn_0 {n : Nat} {v : MdV} {w nb : Nat → Int32} {pl mn x : Int32} : F_X10_readsNumbers n (setT v w nb pl mn) x = F_X10_readsNumbers_L5 n n (setT v w nb pl (nI 0)) x := rfl
/-- two numbers -/
theorem two_s {n p : Nat} {t : TxV} {v : MdV} {T : Nat → Nat} {L : Nat} {w nb nbC : Nat → Int32} {mn : Int32} (hn : 10 < n) (h : TC t T L) (hm : TM v T L) (hp : p ≤ L) :
    (∃ a b e : Nat, ∃ nb2 : Nat → Int32, ∃ p1 : Nat, a < 10000 ∧ b < 10000 ∧ p < e ∧ e ≤ L ∧ F_X8_readNumber n (setC t nbC (nI p)) = some (nI a, setC t nbC (nI p1)) ∧ F_X8_readNumber n (setC t nbC (nI p1)) = some (nI b, setC t nbC (nI e)) ∧ F_X10_readsNumbers n (setT v w nb (nI p) mn) 2 = some (setT v w nb2 (nI e) (nI 2)) ∧ nb2 0 = nI a ∧ nb2 1 = nI b) ∨
    (∃ (x y : Int32) (p1 p2 q : Nat) (nb2 : Nat → Int32) (pl : Int32), (x = -1 ∨ y = -1) ∧ F_X8_readNumber n (setC t nbC (nI p)) = some (x, setC t nbC (nI p1)) ∧ F_X8_readNumber n (setC t nbC (nI p1)) = some (y, setC t nbC (nI p2)) ∧ F_X10_readsNumbers n (setT v w nb (nI p) mn) 2 = some (setT v w nb2 pl (nI q)) ∧ q < 2) := by
  obtain ⟨n', rfl⟩ : ∃ z, n = z + 3 := ⟨n - 3, by omega⟩
  have h1 := h.1
  by_cases c : isN T L p
  · obtain ⟨z1, z2, z3⟩ := isN_in c
    by_cases c2 : isN T L (nuE T L p)
    · obtain ⟨y1, y2, y3⟩ := isN_in c2
      refine Or.inl ⟨nuV T L p, nuV T L (nuE T L p), nuE T L (nuE T L p), upd (upd nb 0 (nI (nuV T L p))) 1 (nI (nuV T L (nuE T L p))), nuE T L p, z1, y1, by omega, y3, num_a hn h c, num_a hn h c2, ?_, ?_, ?_⟩
      · rw [rn_0]
        exact (rn_a (q := 0) (most := 2) hn hm c (by decide) (by decide)).trans ((rn_a (q := 1) (most := 2) hn hm c2 (by decide) (by decide)).trans (rn_c (q := 2) (most := 2) (by decide) (by decide)))
      · rw [upd_ne (by decide), upd_at]
      · rw [upd_at]
    · obtain ⟨p', hp', g⟩ := num_b (n := n' + 3) (nb := nbC) hn h (p := nuE T L p) (by omega) c2
      refine Or.inr ⟨nI (nuV T L p), -1, nuE T L p, p', 1, upd nb 0 (nI (nuV T L p)), nI (nuE T L p), Or.inr rfl, num_a hn h c, g, ?_, by decide⟩
      rw [rn_0]
      exact (rn_a (q := 0) (most := 2) hn hm c (by decide) (by decide)).trans (rn_b (q := 1) (most := 2) hm (by omega) c2 (by decide) (by decide))
  · obtain ⟨p', hp', g⟩ := num_b (n := n' + 3) (nb := nbC) hn h (p := p) (by omega) c
    have ref : F_X10_readsNumbers (n' + 3) (setT v w nb (nI p) mn) 2 = some (setT v w nb (nI p) (nI 0)) := by
      rw [rn_0]
      exact rn_b (q := 0) (most := 2) hm (by omega) c (by decide) (by decide)
    by_cases c2 : isN T L p'
    · exact Or.inr ⟨-1, nI (nuV T L p'), p', nuE T L p', 0, nb, nI p, Or.inl rfl, g, num_a hn h c2, ref, by decide⟩
    · obtain ⟨p2, hp2, g2⟩ := num_b (n := n' + 3) (nb := nbC) hn h (p := p') (by omega) c2
      exact Or.inr ⟨-1, -1, p', p2, 0, nb, nI p, Or.inl rfl, g, g2, ref, by decide⟩
