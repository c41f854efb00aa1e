/-! TEXT: signs, words, numbers -/
abbrev setC (t : TxV) (nb : Nat → Int32) (x : Int32) : TxV := Tx_mk (Tx_signs t) nb (Tx_length t) x (Tx_items t) (Tx_faultIndex t) (Tx_faultReason t)
abbrev setT (v : MdV) (w nb : Nat → Int32) (pl mn : Int32) : MdV := Md_mk w (Md_past v) (Md_stored v) (Md_kept v) (Md_text v) (Md_sines v) nb (Md_isStored v) (Md_saved v) (Md_length v) pl mn (Md_wrong v) (Md_reason v) (Md_items v)
def cx (T : Nat → Nat) (L j : Nat) : Nat := if j < L then T j else 0
def TC (t : TxV) (T : Nat → Nat) (L : Nat) : Prop := L ≤ 120 ∧ Tx_length t = nI L ∧ ∀ j, j < L → 32 ≤ T j ∧ T j ≤ 126 ∧ Tx_signs t j = nI (T j)
def TM (v : MdV) (T : Nat → Nat) (L : Nat) : Prop := L ≤ 120 ∧ Md_length v = nI L ∧ ∀ j, j < L → 32 ≤ T j ∧ T j ≤ 126 ∧ Md_text v j = nI (T j)
def TB (T : Nat → Nat) (L : Nat) : Prop := L ≤ 120 ∧ ∀ j, j < L → 32 ≤ T j ∧ T j ≤ 126
theorem TC.b {t : TxV} {T : Nat → Nat} {L : Nat} (h : TC t T L) : TB T L := ⟨h.1, fun j hj => ⟨(h.2.2 j hj).1, (h.2.2 j hj).2.1⟩⟩
theorem cx_in {T : Nat → Nat} {L : Nat} (h : TB T L) (j : Nat) : cx T L j ≤ 126 := by
  unfold cx
  split
  · exact (h.2 j (by assumption)).2
  · omega
theorem cx_out {T : Nat → Nat} {L j : Nat} (h : L ≤ j) : cx T L j = 0 := if_neg (by omega)
theorem cx_lt {T : Nat → Nat} {L j : Nat} (h : 0 < cx T L j) : j < L := by
  unfold cx at h
  split at h
  · assumption
  · omega
theorem sign_c {t : TxV} {T : Nat → Nat} {L j : Nat} {nb : Nat → Int32} {x : Int32} (h : TC t T L) (hj : j < 2 ^ 30) : F_X8_signAt (setC t nb x) (nI j) = some (nI (cx T L j)) := by
  obtain ⟨h1, h2, h3⟩ := h
  have hlen : Tx_length (setC t nb x) = nI L := h2
  unfold F_X8_signAt cx
  rw [hlen, if_neg (nI_pos (by omega))]
  by_cases c : j < L
  · obtain ⟨z1, z2, z3⟩ := h3 j c
    have z3' : Tx_signs (setC t nb x) j = nI (T j) := z3
    rw [if_neg (nI_nlE c (by omega)), if_neg (by rw [lit, nI_leI (by omega) (by omega)]; omega), chk_nI (by omega) (by decide), nI_clamp (by omega), z3', if_pos c]
    unfold cck
    refine if_pos ?_
    have : ∀ q, q < 127 → ((nI q).toUInt32 % 65536).toInt32 = nI q := by decide +kernel
    exact this _ (by omega)
  · rw [if_pos (nI_le (by omega) (by omega)), if_neg c]
    rfl
theorem at_m {v : MdV} {T : Nat → Nat} {L j : Nat} {w nb : Nat → Int32} {x mn : Int32} (h : TM v T L) (hj : j < 2 ^ 30) : F_X10_at (setT v w nb x mn) (nI j) = some (nI (cx T L j)) := by
  obtain ⟨h1, h2, h3⟩ := h
  have hlen : Md_length (setT v w nb x mn) = nI L := h2
  unfold F_X10_at cx
  rw [hlen]
  by_cases c : j < L
  · obtain ⟨z1, z2, z3⟩ := h3 j c
    have z3' : Md_text (setT v w nb x mn) j = nI (T j) := z3
    rw [if_neg (nI_nlE c (by omega)), chk_nI (by omega) (by decide), nI_clamp (by omega), z3', if_pos c]
  · rw [if_pos (nI_le (by omega) (by omega)), if_neg c]
    rfl
theorem wi_n {a lo hi : Nat} (ha : a < 2 ^ 30) (hl : lo < 2 ^ 30) (hh : hi < 2 ^ 30) : F_X10_within (nI a) (nI lo) (nI hi) = some (if lo ≤ a ∧ a ≤ hi then 1 else 0) := by
  have e : (nI a < nI lo ∨ nI hi < nI a) ↔ (a < lo ∨ hi < a) := by
    rw [nI_ltI (by omega) (by omega), nI_ltI (by omega) (by omega)]
  rw [wi_s]
  by_cases c : lo ≤ a ∧ a ≤ hi
  · rw [if_pos c, if_neg (fun z => by have := e.mp z; omega)]
  · rw [if_neg c, if_pos (e.mpr (by omega))]
def lendF (T : Nat → Nat) (L : Nat) : Nat → Nat → Nat
  | 0, p => p
  | m + 1, p => if 97 ≤ cx T L p ∧ cx T L p ≤ 122 then lendF T L m (p + 1) else p
def lend (T : Nat → Nat) (L p : Nat) : Nat := lendF T L (L - p) p
theorem lendF_in (T : Nat → Nat) (L : Nat) : ∀ m p, p ≤ lendF T L m p ∧ (lendF T L m p ≤ p + m) ∧ ∀ j, p ≤ j → j < lendF T L m p → 97 ≤ T j ∧ T j ≤ 122 := by
  intro m
  induction m with
  | zero => intro p; exact ⟨Nat.le_refl _, Nat.le_refl _, fun j h1 h2 => by unfold lendF at h2; omega⟩
  | succ m ih =>
    intro p
    unfold lendF
    by_cases c : 97 ≤ cx T L p ∧ cx T L p ≤ 122
    · rw [if_pos c]
      obtain ⟨z1, z2, z3⟩ := ih (p + 1)
      refine ⟨by omega, by omega, fun j h1 h2 => ?_⟩
      by_cases e : j = p
      · subst e
        have := cx_lt (T := T) (L := L) (j := j) (by omega)
        unfold cx at c
        rw [if_pos this] at c
        exact c
      · exact z3 j (by omega) h2
    · rw [if_neg c]
      exact ⟨Nat.le_refl _, by omega, fun j h1 h2 => by omega⟩
theorem lend_in {T : Nat → Nat} {L p : Nat} (h : p ≤ L) : p ≤ lend T L p ∧ lend T L p ≤ L ∧ ∀ j, p ≤ j → j < lend T L p → 97 ≤ T j ∧ T j ≤ 122 := by
  obtain ⟨z1, z2, z3⟩ := lendF_in T L (L - p) p
  exact ⟨z1, by unfold lend; omega, z3⟩
theorem skipL_c {n : Nat} {t : TxV} {T : Nat → Nat} {L : Nat} {nb : Nat → Int32} (h : TC t T L) : ∀ (m i k p : Nat), p + m = L → m < k → i ≤ p → F_X8_skipLetters_L2 n k (setC t nb (nI p)) (nI i) = some (setC t nb (nI (lendF T L m p))) := by
  have h1 := h.1
  intro m
  induction m with
  | zero =>
    intro i k p hp hk hi
    obtain ⟨k, rfl⟩ : ∃ z, k = z + 1 := ⟨k - 1, by omega⟩
    have ea : Tx_at (setC t nb (nI p)) = nI p := rfl
    have z : nI (cx T L p) < 97 := by rw [cx_out (by omega)]; decide
    rw [F_X8_skipLetters_L2, ea, sign_c h (by omega), bnd_some, if_pos z]
    show (if (120 : Int32) ≤ nI i then _ else _) = _
    split <;> rfl
  | succ m ih =>
    intro i k p hp hk hi
    obtain ⟨k, rfl⟩ : ∃ z, k = z + 1 := ⟨k - 1, by omega⟩
    have ea : Tx_at (setC t nb (nI p)) = nI p := rfl
    have hc := cx_in h.b p
    have n120 : ¬ (120 : Int32) ≤ nI i := by rw [lit, nI_leI (by omega) (by omega)]; omega
    rw [F_X8_skipLetters_L2, if_neg n120, ea, sign_c h (by omega), bnd_some, bnd_some]
    unfold lendF
    by_cases c1 : 97 ≤ cx T L p
    · have z1 : ¬ nI (cx T L p) < 97 := nI_nlt (b := 97) (by omega) (by omega)
      rw [if_neg z1]
      by_cases c2 : cx T L p ≤ 122
      · have z2 : ¬ (122 : Int32) < nI (cx T L p) := nI_nlt (a := 122) (by omega) (by omega)
        rw [if_neg z2, if_pos ⟨c1, c2⟩, nI_1, nI_1]
        exact ih (i + 1) k (p + 1) (by omega) (by omega) (by omega)
      · have z2 : (122 : Int32) < nI (cx T L p) := nI_lt (a := 122) (by omega) (by omega)
        rw [if_pos z2, if_neg (by omega)]
    · have z1 : nI (cx T L p) < 97 := nI_lt (b := 97) (by omega) (by omega)
      rw [if_pos z1, if_neg (by omega)]
theorem skipLetters_c {n p : Nat} {t : TxV} {T : Nat → Nat} {L : Nat} {nb : Nat → Int32} (hn : 120 < n) (h : TC t T L) (hp : p ≤ L) : F_X8_skipLetters n (setC t nb (nI p)) = some (setC t nb (nI (lend T L p))) := by
  have h1 := h.1
  exact skipL_c h (L - p) 0 n p (by omega) (by omega) (by omega)
/-! numbers to the base 32 -/
def nV (d : Nat → Nat) : Nat → Nat
  | 0 => 0
  | c + 1 => 32 * nV d c + d c
theorem nV_inj {d d' : Nat → Nat} : ∀ c c', (∀ j, j < c → 1 ≤ d j ∧ d j ≤ 26) → (∀ j, j < c' → 1 ≤ d' j ∧ d' j ≤ 26) → nV d c = nV d' c' → c = c' ∧ ∀ j, j < c → d j = d' j := by
  intro c
  induction c with
  | zero =>
    intro c' _ h2 h
    cases c' with
    | zero => exact ⟨rfl, fun j hj => by omega⟩
    | succ c' =>
      have := h2 c' (by omega)
      unfold nV at h
      omega
  | succ c ih =>
    intro c' h1 h2 h
    have a := h1 c (by omega)
    cases c' with
    | zero =>
      unfold nV at h
      omega
    | succ c' =>
      have b := h2 c' (by omega)
      unfold nV at h
      obtain ⟨z1, z2⟩ := ih c' (fun j hj => h1 j (by omega)) (fun j hj => h2 j (by omega)) (by omega)
      refine ⟨by omega, fun j hj => ?_⟩
      by_cases e : j = c
      · subst e
        have y : d j = d' c' := by omega
        rw [y, z1]
      · exact z2 j (by omega)
theorem nV_cg {d d' : Nat → Nat} : ∀ c, (∀ j, j < c → d j = d' j) → nV d c = nV d' c := by
  intro c
  induction c with
  | zero => intro _; rfl
  | succ c ih =>
    intro h
    unfold nV
    rw [ih (fun j hj => h j (by omega)), h c (by omega)]
theorem nV_lt {d : Nat → Nat} : ∀ c, (∀ j, j < c → d j ≤ 26) → nV d c < 32 ^ c := by
  intro c
  induction c with
  | zero =>
    intro _
    show 0 < 32 ^ 0
    decide
  | succ c ih =>
    intro h
    have a := ih (fun j hj => h j (by omega))
    have b := h c (by omega)
    unfold nV
    rw [Nat.pow_succ]
    omega
/-- the words: their letters, 1 to 26 -/
def wT : List (List Nat) := [[19, 5, 3, 20, 15, 18], [3, 15, 4, 5], [3, 8, 1, 14, 7, 5, 18], [12, 1, 13, 16], [3, 12, 5, 1, 18], [3, 8, 1, 14, 7, 5], [2, 21, 12, 2, 19], [2, 21, 18, 14, 5, 18, 19], [2, 21, 12, 2], [2, 21, 18, 14, 5, 18], [4, 1, 18, 11], [23, 8, 9, 20, 5], [18, 5, 4], [7, 18, 5, 5, 14]]
def wl (i j : Nat) : Nat := (wT.getD i []).getD j 0
def cd (i : Nat) : Nat := [642896370, 113797, 3491175602, 394672, 3544114, 109099237, 2797651, 2871465555, 87426, 89733298, 132683, 24389253, 18596, 7935150].getD i 0
theorem wl_in : ∀ i, i < 14 → gLen.getD i 0 ≤ 7 ∧ ∀ j, j < gLen.getD i 0 → (1 ≤ wl i j ∧ wl i j ≤ 26) := by decide +kernel
theorem cd_is : ∀ i, i < 14 → cd i = nV (wl i) (gLen.getD i 0) ∧ 0 < cd i := by decide +kernel
theorem charAt_s : ∀ i, i < 14 → ∀ j, j < gLen.getD i 0 → F_J0_charAt_5068e i (nI j) = some (nI (96 + wl i j)) := by decide +kernel
/-- the number of the word from p on, 0 if there is none or a long one -/
def wdn (T : Nat → Nat) (L p : Nat) : Nat := if lend T L p - p ≤ 8 then nV (fun j => T (p + j) - 96) (lend T L p - p) else 0
theorem isWordL {n i p : Nat} {t : TxV} {T : Nat → Nat} {L : Nat} {nb : Nat → Int32} {x : Int32} (h : TC t T L) (hi : i < 14) (hpl : p ≤ L) : ∀ (m j k : Nat), j + m = gLen.getD i 0 → m < k →
    (F_X8_isWord_L17 n k (setC t nb x) (nI p) i (nI j) = some 1 ∧ ∀ r, j ≤ r → r < gLen.getD i 0 → cx T L (p + r) = 96 + wl i r) ∨ (F_X8_isWord_L17 n k (setC t nb x) (nI p) i (nI j) = some 0 ∧ ∃ r, r < gLen.getD i 0 ∧ cx T L (p + r) ≠ 96 + wl i r) := by
  have h1 := h.1
  obtain ⟨l7, l26⟩ := wl_in i hi
  have len : F_J0_length_8abf5 i = some (nI (gLen.getD i 0)) := if_pos hi
  intro m
  induction m with
  | zero =>
    intro j k hj hk
    obtain ⟨k, rfl⟩ : ∃ z, k = z + 1 := ⟨k - 1, by omega⟩
    refine Or.inl ⟨?_, fun r z1 z2 => by omega⟩
    rw [F_X8_isWord_L17, len, bnd_some, if_pos (nI_le (by omega) (by omega))]
  | succ m ih =>
    intro j k hj hk
    obtain ⟨k, rfl⟩ : ∃ z, k = z + 1 := ⟨k - 1, by omega⟩
    have hc := cx_in h.b (p + j)
    have hl := l26 j (by omega)
    rw [F_X8_isWord_L17, len, bnd_some, if_neg (nI_nlE (by omega) (by omega)), nI_add, sign_c h (by omega), bnd_some, charAt_s i hi j (by omega), bnd_some, nI_1]
    by_cases e : cx T L (p + j) = 96 + wl i j
    · rw [if_pos (by rw [e])]
      rcases ih (j + 1) k (by omega) (by omega) with ⟨g1, g2⟩ | g
      · refine Or.inl ⟨g1, fun r z1 z2 => ?_⟩
        by_cases e2 : r = j
        · rw [e2, e]
        · exact g2 r (by omega) z2
      · exact Or.inr g
    · rw [if_neg (fun z => e ((nI_eq (by omega) (by omega)).mp z))]
      exact Or.inr ⟨rfl, j, by omega, e⟩
theorem isWord_c {n i p : Nat} {t : TxV} {T : Nat → Nat} {L : Nat} {nb : Nat → Int32} (hn : 10 < n) (h : TC t T L) (hi : i < 14) (hp : p ≤ L) : F_X8_isWord n (setC t nb (nI (lend T L p))) (nI p) i = some (if wdn T L p = cd i then 1 else 0) := by
  have h1 := h.1
  obtain ⟨l7, l26⟩ := wl_in i hi
  obtain ⟨c1, c2⟩ := cd_is i hi
  obtain ⟨e1, e2, e3⟩ := lend_in (T := T) hp
  have len : F_J0_length_8abf5 i = some (nI (gLen.getD i 0)) := if_pos hi
  have ea : Tx_at (setC t nb (nI (lend T L p))) = nI (lend T L p) := rfl
  have dT : ∀ j, j < lend T L p - p → 1 ≤ T (p + j) - 96 ∧ T (p + j) - 96 ≤ 26 := fun j hj => by
    have := e3 (p + j) (by omega) (by omega)
    omega
  have cxT : ∀ j, j < lend T L p - p → cx T L (p + j) = T (p + j) := fun j hj => if_pos (by omega)
  unfold F_X8_isWord
  rw [len, bnd_some, ea, pk_sub e1]
  by_cases c : lend T L p - p = gLen.getD i 0
  · have hw : wdn T L p = nV (fun j => T (p + j) - 96) (gLen.getD i 0) := by
      unfold wdn
      rw [if_pos (by omega), c]
    rw [if_pos (by rw [c]), hw, c1]
    rcases isWordL (n := n) (nb := nb) (x := nI (lend T L p)) h hi hp (gLen.getD i 0) 0 n (by omega) (by omega) with ⟨g1, g2⟩ | ⟨g1, r, hr, g2⟩
    · have : nV (fun j => T (p + j) - 96) (gLen.getD i 0) = nV (wl i) (gLen.getD i 0) := by
        refine nV_cg _ (fun j hj => ?_)
        have z := g2 j (by omega) hj
        rw [cxT j (by omega)] at z
        show T (p + j) - 96 = wl i j
        omega
      rw [if_pos this]
      exact g1
    · have : ¬ nV (fun j => T (p + j) - 96) (gLen.getD i 0) = nV (wl i) (gLen.getD i 0) := by
        intro z
        have y := (nV_inj _ _ (fun j hj => dT j (by omega)) l26 z).2 r hr
        have y : T (p + r) - 96 = wl i r := y
        rw [cxT r (by omega)] at g2
        have := e3 (p + r) (by omega) (by omega)
        omega
      rw [if_neg this]
      exact g1
  · have : ¬ wdn T L p = cd i := by
      intro z
      unfold wdn at z
      split at z
      · rw [c1] at z
        exact c (nV_inj _ _ dT l26 z).1
      · omega
    rw [if_neg (fun z => c ((nI_eq (by omega) (by omega)).mp z)), if_neg this]
def lz (z : Nat) : Int64 := Int64.ofInt (z : Int)
theorem lz_eq {a b : Nat} (ha : a < 2 ^ 62) (hb : b < 2 ^ 62) : lz a = lz b ↔ a = b := by
  unfold lz
  rw [← Int64.toInt_inj, Int64.toInt_ofInt_of_le (by omega) (by omega), Int64.toInt_ofInt_of_le (by omega) (by omega)]
  omega
theorem lz_nI {c : Nat} (h : c < 2 ^ 31) : (nI c).toInt64 = lz c := by
  unfold lz
  apply Int64.toInt_inj.mp
  rw [Int32.toInt_toInt64, nI_toInt h, Int64.toInt_ofInt_of_le (by omega) (by omega)]
theorem lz_step {a c : Nat} (h : 96 ≤ c) : lz a * 32 + lz c - 96 = lz (32 * a + (c - 96)) := by
  show Int64.ofInt (a : Int) * Int64.ofInt 32 + Int64.ofInt (c : Int) - Int64.ofInt 96 = Int64.ofInt _
  rw [← Int64.ofInt_mul, ← Int64.ofInt_add, ← Int64.ofInt_sub]
  congr 1
  omega
theorem wordL {n p : Nat} {v : MdV} {T : Nat → Nat} {L : Nat} {w nb : Nat → Int32} {mn : Int32} (h : TM v T L) : ∀ (m c k : Nat), p + c + m = L → m < k → (∀ j, j < c → 97 ≤ T (p + j) ∧ T (p + j) ≤ 122) →
    F_X10_word_L4 n k (setT v w nb (nI (p + c)) mn) (lz (if c ≤ 8 then nV (fun j => T (p + j) - 96) c else 0)) (nI c) = some (lz (if lendF T L m (p + c) - p ≤ 8 then nV (fun j => T (p + j) - 96) (lendF T L m (p + c) - p) else 0), setT v w nb (nI (lendF T L m (p + c))) mn) := by
  have h1 := h.1
  have tb : TB T L := ⟨h.1, fun j hj => ⟨(h.2.2 j hj).1, (h.2.2 j hj).2.1⟩⟩
  have stop : ∀ c, c ≤ 130 → (if nI c ≤ 8 then some (lz (if c ≤ 8 then nV (fun j => T (p + j) - 96) c else 0), setT v w nb (nI (p + c)) mn) else some ((0 : Int64), setT v w nb (nI (p + c)) mn)) = some (lz (if c ≤ 8 then nV (fun j => T (p + j) - 96) c else 0), setT v w nb (nI (p + c)) mn) := by
    intro c hc
    by_cases e : c ≤ 8
    · rw [if_pos (show nI c ≤ 8 from nI_le (b := 8) e (by omega))]
    · have : ¬ nI c ≤ 8 := nI_nlE (b := 8) (by omega) (by omega)
      rw [if_neg this, if_neg e]
      rfl
  intro m
  induction m with
  | zero =>
    intro c k hc hk hT
    obtain ⟨k, rfl⟩ : ∃ z, k = z + 1 := ⟨k - 1, by omega⟩
    have ep : Md_place (setT v w nb (nI (p + c)) mn) = nI (p + c) := rfl
    rw [F_X10_word_L4, ep, at_m h (by omega), bnd_some, show F_X10_within (nI (cx T L (p + c))) 97 122 = _ from wi_n (lo := 97) (hi := 122) (by have := cx_in tb (p + c); omega) (by decide) (by decide), bnd_some, cx_out (T := T) (show L ≤ p + c by omega), if_neg (show ¬ (97 ≤ 0 ∧ 0 ≤ 122) by omega), if_pos rfl, stop c (by omega)]
    unfold lendF
    rw [Nat.add_sub_cancel_left]
  | succ m ih =>
    intro c k hc hk hT
    obtain ⟨k, rfl⟩ : ∃ z, k = z + 1 := ⟨k - 1, by omega⟩
    have ep : Md_place (setT v w nb (nI (p + c)) mn) = nI (p + c) := rfl
    have hx := cx_in tb (p + c)
    have cT : cx T L (p + c) = T (p + c) := if_pos (by omega)
    rw [F_X10_word_L4, ep, at_m h (by omega), bnd_some, show F_X10_within (nI (cx T L (p + c))) 97 122 = _ from wi_n (lo := 97) (hi := 122) (by omega) (by decide) (by decide), bnd_some, bnd_some]
    unfold lendF
    by_cases e : 97 ≤ cx T L (p + c) ∧ cx T L (p + c) ≤ 122
    · rw [if_pos e, if_neg (show ¬ (1 : Int32) = 0 by decide), if_pos e, nI_1, nI_1]
      have hT' : ∀ j, j < c + 1 → 97 ≤ T (p + j) ∧ T (p + j) ≤ 122 := by
        intro j hj
        by_cases ej : j = c
        · rw [ej, ← cT]; exact e
        · exact hT j (by omega)
      have I := ih (c + 1) k (by omega) (by omega) hT'
      rw [show p + (c + 1) = p + c + 1 by omega] at I
      by_cases e8 : c + 1 ≤ 8
      · rw [if_pos (show nI (c + 1) ≤ 8 from nI_le (b := 8) e8 (by omega)), if_pos (show c ≤ 8 by omega), lz_nI (by omega), lz_step (by omega), cT]
        rw [if_pos e8] at I
        exact I
      · have : ¬ nI (c + 1) ≤ 8 := nI_nlE (b := 8) (by omega) (by omega)
        rw [if_neg this]
        rw [if_neg e8] at I
        exact I
    · rw [if_neg e, if_pos rfl, if_neg e, stop c (by omega), Nat.add_sub_cancel_left]
theorem word_m {n p : Nat} {v : MdV} {T : Nat → Nat} {L : Nat} {w nb : Nat → Int32} {mn : Int32} (hn : 120 < n) (h : TM v T L) (hp : p ≤ L) : F_X10_word n (setT v w nb (nI p) mn) = some (lz (wdn T L p), setT v w nb (nI (lend T L p)) mn) := by
  have h1 := h.1
  have := wordL (n := n) (p := p) (w := w) (nb := nb) (mn := mn) h (L - p) 0 n (by omega) (by omega) (fun j hj => by omega)
  exact this
theorem wdn_lt {T : Nat → Nat} {L p : Nat} (hp : p ≤ L) : wdn T L p < 2 ^ 62 := by
  obtain ⟨e1, e2, e3⟩ := lend_in (T := T) hp
  unfold wdn
  split
  · have h := nV_lt (d := fun j => T (p + j) - 96) (lend T L p - p) (fun j hj => by
      have := e3 (p + j) (by omega) (by omega)
      show T (p + j) - 96 ≤ 26
      omega)
    have : 32 ^ (lend T L p - p) ≤ 32 ^ 8 := Nat.pow_le_pow_right (by decide) (by omega)
    omega
  · decide
def itN (w : Nat) : Int32 := if w = cd 0 then 0 else if w = cd 1 then 1 else if w = cd 2 then 2 else if w = cd 3 then 3 else if w = cd 4 then 4 else if w = cd 5 then 5 else -4
def coN (w : Nat) : Int32 := if w = cd 10 then 0 else if w = cd 11 then 1 else if w = cd 12 then 2 else if w = cd 13 then 3 else -4
def kiN (a b w : Nat) : Int32 := if w = cd a then 0 else if w = cd b then 1 else -4
theorem lzc {w i : Nat} (hw : w < 2 ^ 62) (hi : i < 14) : (lg_cmp (lz w) (lz (cd i)) = 0) ↔ w = cd i := by
  rw [lg_cmp_eq, lz_eq hw (by have : ∀ i, i < 14 → cd i < 2 ^ 62 := by decide +kernel
                              exact this i hi)]
theorem itemOf_s {w : Nat} (hw : w < 2 ^ 62) : F_X10_itemOf (lz w) = some (itN w) := by
  unfold F_X10_itemOf itN
  rw [show F_X10_spelled 99 104 97 110 = some 106542 by decide +kernel, show F_X10_spelled 115 101 99 116 = some 627828 by decide +kernel, bnd_some, bnd_some, show F_X10_longer 627828 111 114 0 = some (lz (cd 0)) by decide +kernel, bnd_some, show F_X10_spelled 99 111 100 101 = some (lz (cd 1)) by decide +kernel, bnd_some, show F_X10_longer 106542 103 101 114 = some (lz (cd 2)) by decide +kernel, bnd_some, show F_X10_spelled 108 97 109 112 = some (lz (cd 3)) by decide +kernel, bnd_some, show F_X10_spelled 99 108 101 97 = some 110753 by decide +kernel, bnd_some, show F_X10_longer 110753 114 0 0 = some (lz (cd 4)) by decide +kernel, bnd_some, show F_X10_longer 106542 103 101 0 = some (lz (cd 5)) by decide +kernel, bnd_some]
  simp only [lzc hw (show 0 < 14 by decide), lzc hw (show 1 < 14 by decide), lzc hw (show 2 < 14 by decide), lzc hw (show 3 < 14 by decide), lzc hw (show 4 < 14 by decide), lzc hw (show 5 < 14 by decide)]
  repeat' split
  all_goals rfl
theorem colorOf_s {w : Nat} (hw : w < 2 ^ 62) : F_X10_colorOf (lz w) = some (coN w) := by
  unfold F_X10_colorOf coN
  rw [show F_X10_spelled 100 97 114 107 = some (lz (cd 10)) by decide +kernel, bnd_some, show F_X10_spelled 119 104 105 116 = some 762164 by decide +kernel, bnd_some, show F_X10_longer 762164 101 0 0 = some (lz (cd 11)) by decide +kernel, bnd_some, show F_X10_spelled 114 101 100 0 = some (lz (cd 12)) by decide +kernel, bnd_some, show F_X10_spelled 103 114 101 101 = some 247973 by decide +kernel, bnd_some, show F_X10_longer 247973 110 0 0 = some (lz (cd 13)) by decide +kernel, bnd_some]
  simp only [lzc hw (show 10 < 14 by decide), lzc hw (show 11 < 14 by decide), lzc hw (show 12 < 14 by decide), lzc hw (show 13 < 14 by decide)]
  repeat' split
  all_goals rfl
theorem kindOf_s {w : Nat} (hw : w < 2 ^ 62) : F_X10_kindOf (lz w) 1 = some (kiN 6 7 w) ∧ F_X10_kindOf (lz w) 0 = some (kiN 8 9 w) := by
  unfold F_X10_kindOf F_X10_kindOf_J49 F_X10_kindOf_J69 kiN
  rw [show F_X10_spelled 98 117 108 98 = some (lz (cd 8)) by decide +kernel, bnd_some, bnd_some, show F_X10_spelled 98 117 114 110 = some 87630 by decide +kernel, bnd_some, bnd_some, show F_X10_longer 87630 101 114 0 = some (lz (cd 9)) by decide +kernel, bnd_some, bnd_some, show F_X10_longer (lz (cd 8)) 115 0 0 = some (lz (cd 6)) by decide +kernel, bnd_some, bnd_some, show F_X10_longer (lz (cd 9)) 115 0 0 = some (lz (cd 7)) by decide +kernel, bnd_some, bnd_some]
  simp only [lzc hw (show 6 < 14 by decide), lzc hw (show 7 < 14 by decide), lzc hw (show 8 < 14 by decide), lzc hw (show 9 < 14 by decide), if_pos, if_neg (show ¬ (1 : Int32) = 0 by decide)]
  refine ⟨?_, ?_⟩
  · repeat' split
    all_goals rfl
  · repeat' split
    all_goals rfl
