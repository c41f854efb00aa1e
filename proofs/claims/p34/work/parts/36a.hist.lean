/-! HISTORY: copies on both sides -/
theorem nI_nlE {a b : Nat} (h : b < a) (ha : a < 2 ^ 31) : ¬ nI a ≤ nI b := nI_ge h ha
theorem cpy0 {α : Type} {f g : Nat → α} {n k : Nat} (h : k < n) : va_cpy f g 0 0 n k = f k := by
  unfold va_cpy
  rw [if_pos ⟨by omega, by omega⟩, Nat.sub_zero, Nat.zero_add]
theorem cpk_4 {α : Type} {a : Option α} : cpk 0 0 4 4 4 a = a := if_neg (by decide)
theorem cpk_6 {α : Type} {a : Option α} : cpk 0 0 6 6 6 a = a := if_neg (by decide)
theorem cpk_8 {α : Type} {a : Option α} : cpk 0 0 8 8 8 a = a := if_neg (by decide)
theorem cpk_40 {α : Type} {a : Option α} : cpk 0 0 40 40 40 a = a := if_neg (by decide)
theorem cpk_64 {α : Type} {a : Option α} : cpk 0 0 64 64 64 a = a := if_neg (by decide)
theorem become_s {M : Nat} {S S2 : StV} {w : Nat → Int32} {A : Nat → Nat} (h : RA M S2 w A) : ∃ S', F_X7_become S S2 = some S' ∧ RA M S' w A ∧ So_tick (St_So S') = So_tick (St_So S2) := by
  obtain ⟨a1, a2, a3, a4, a5, a6, a7, a8, a9, a10⟩ := h
  have k4 : (4 : Int32).toNatClampNeg = 4 := rfl
  have k6 : (6 : Int32).toNatClampNeg = 6 := rfl
  have k8 : (8 : Int32).toNatClampNeg = 8 := rfl
  have k40 : (40 : Int32).toNatClampNeg = 40 := rfl
  have k64 : (64 : Int32).toNatClampNeg = 64 := rfl
  have k0 : (0 : Int32).toNatClampNeg = 0 := rfl
  unfold F_X7_become F_X2_become F_X4_become F_X1_become F_X6_become
  simp only [cpk_4, cpk_6, cpk_8, cpk_40, cpk_64, k0, k4, k6, k8, k40, k64]
  refine ⟨_, rfl, ⟨a1, ?_, ?_, ?_, ?_, ?_, a7, a8, a9, a10⟩, rfl⟩
  · intro j hj
    show va_cpy _ _ 0 0 64 j = _
    rw [cpy0 hj]
    exact a2 j hj
  · obtain ⟨r1, r2, r3, r4⟩ := a3
    refine ⟨r1, fun i hi => ?_, r3, r4⟩
    have := a8.2.1
    show va_cpy _ _ 0 0 8 i = _ ∧ va_cpy _ _ 0 0 8 i = _
    rw [cpy0 (by omega), cpy0 (by omega)]
    exact r2 i hi
  · obtain ⟨r1, r2, r3, r4, r5⟩ := a4
    refine ⟨fun i hi => ?_, r2, r3, r4, r5⟩
    show va_cpy _ _ 0 0 6 i = _ ∧ va_cpy _ _ 0 0 6 i = _ ∧ va_cpy _ _ 0 0 6 i = _
    rw [cpy0 hi, cpy0 hi, cpy0 hi]
    exact r1 i hi
  · obtain ⟨r1, r2, r3, r4⟩ := a5
    refine ⟨fun i hi => ?_, r2, r3, r4⟩
    show va_cpy _ _ 0 0 4 i = _
    rw [cpy0 hi]
    exact r1 i hi
  · obtain ⟨r1, r2, r3, r4⟩ := a6
    refine ⟨r1, r2, fun i hi => ?_, fun i hi => ?_⟩
    · show va_cpy _ _ 0 0 4 i = _
      rw [cpy0 hi]
      exact r3 i hi
    · have hm : (A 123 - 1 - i) % 40 < 40 := Nat.mod_lt _ (by decide)
      show va_cpy _ _ 0 0 40 _ = _ ∧ va_cpy _ _ 0 0 40 _ = _ ∧ va_cpy _ _ 0 0 40 _ = _ ∧ va_cpy _ _ 0 0 40 _ = _
      rw [cpy0 hm, cpy0 hm, cpy0 hm, cpy0 hm]
      exact r4 i hi
theorem RA.cgw {M : Nat} {S : StV} {w w2 : Nat → Int32} {A : Nat → Nat} (h : RA M S w A) (e : ∀ k, k < 289 → w2 k = w k) : RA M S w2 A := by
  obtain ⟨a1, a2, a3, a4, a5, a6, a7, a8, a9, a10⟩ := h
  exact ⟨fun k hk => by rw [e k (by omega)]; exact a1 k hk, a2, a3, a4, a5, a6.cg a10.k40 (fun _ _ _ => rfl) (fun j _ hj => e j hj), a7, a8, a9, a10⟩
theorem RS.cgw {S : StV} {w w2 : Nat → Int32} (h : RS S w) (e : ∀ k, k < 289 → w2 k = w k) : RS S w2 := by
  obtain ⟨A, h, hb⟩ := h
  exact ⟨A, h.cgw e, hb⟩
theorem becomeS {S S2 : StV} {w : Nat → Int32} (h : RS S2 w) : ∃ S', F_X7_become S S2 = some S' ∧ RS S' w ∧ So_tick (St_So S') = So_tick (St_So S2) := by
  obtain ⟨A, h, hb⟩ := h
  obtain ⟨S', g1, g2, g3⟩ := become_s (S := S) h
  exact ⟨S', g1, ⟨A, g2, hb⟩, g3⟩
/-- the reference's copying -/
theorem bringL {n n0 n1 a b : Nat} (ha : a + 289 ≤ n0) (hb : b + 289 ≤ n1) (h0 : n0 < 2 ^ 30) (h1 : n1 < 2 ^ 30) : ∀ (m i k : Nat) (v u : Nat → Int32), i + m = 289 → m < k →
    ∃ u2, F_X10_bring_L3 n n0 n1 k v u (nI a) (nI b) (nI i) = some u2 ∧ (∀ j, i ≤ j → j < 289 → u2 (b + j) = v (a + j)) ∧ ∀ j, (j < b + i ∨ b + 289 ≤ j) → u2 j = u j := by
  intro m
  induction m with
  | zero =>
    intro i k v u hi hk
    obtain ⟨k, rfl⟩ : ∃ z, k = z + 1 := ⟨k - 1, by omega⟩
    refine ⟨u, ?_, fun j h1 h2 => by omega, fun j _ => rfl⟩
    rw [F_X10_bring_L3, if_pos (by rw [lit, nI_leI (by omega) (by omega)]; omega)]
  | succ m ih =>
    intro i k v u hi hk
    obtain ⟨k, rfl⟩ : ∃ z, k = z + 1 := ⟨k - 1, by omega⟩
    obtain ⟨u2, g1, g2, g3⟩ := ih (i + 1) k v (upd u (b + i) (v (a + i))) (by omega) (by omega)
    refine ⟨u2, ?_, ?_, ?_⟩
    · rw [F_X10_bring_L3, if_neg (by rw [lit, nI_leI (by omega) (by omega)]; omega), nI_add, nI_add, chk_nI (by omega) (by omega), chk_nI (by omega) (by omega), nI_clamp (by omega), nI_clamp (by omega), nI_1]
      exact g1
    · intro j h1 h2
      by_cases e : j = i
      · subst e
        rw [g3 _ (by omega), upd_at]
      · exact g2 j (by omega) h2
    · intro j hj
      rw [g3 j (by omega), upd_ne (by omega)]
theorem bring_s {n n0 n1 a b : Nat} {v u : Nat → Int32} {x y : Int32} (hn : 289 < n) (hx : x = nI a) (hy : y = nI b) (ha : a + 289 ≤ n0) (hb : b + 289 ≤ n1) (h0 : n0 < 2 ^ 30) (h1 : n1 < 2 ^ 30) :
    ∃ u2, F_X10_bring n n0 n1 v u x y = some u2 ∧ (∀ j, j < 289 → u2 (b + j) = v (a + j)) ∧ ∀ j, (j < b ∨ b + 289 ≤ j) → u2 j = u j := by
  obtain ⟨u2, g1, g2, g3⟩ := bringL (n := n) ha hb h0 h1 289 0 n v u (by omega) (by omega)
  subst hx
  subst hy
  exact ⟨u2, g1, fun j hj => g2 j (by omega) hj, fun j hj => g3 j (by omega)⟩
def setPast (v : MdV) (p : Nat → Int32) (s : Int32) : MdV := Md_mk (Md_now v) p (Md_stored v) (Md_kept v) (Md_text v) (Md_sines v) (Md_numbers v) (Md_isStored v) s (Md_length v) (Md_place v) (Md_many v) (Md_wrong v) (Md_reason v) (Md_items v)
theorem J49_s {n s : Nat} {u : MdV} (hn : 289 < n) (hs : Md_saved u = nI s) (h5 : s < 5) : ∃ p2, F_X10_saves_J49 n u = some (setPast u p2 (nI (s + 1))) ∧ (∀ j, j < 289 → p2 (289 * s + j) = Md_now u j) ∧ ∀ j, j < 289 * s → p2 j = Md_past u j := by
  obtain ⟨p2, g1, g2, g3⟩ := bring_s (n := n) (n0 := 289) (n1 := 1445) (v := Md_now u) (u := Md_past u) (x := 0) (y := 289 * nI s) (a := 0) (b := 289 * s) hn rfl (by rw [lit, pk_mul]) (by omega) (by omega) (by omega) (by omega)
  refine ⟨p2, ?_, ?_, fun j hj => g3 j (by omega)⟩
  · unfold F_X10_saves_J49
    rw [hs, g1, bnd_some, nI_1]
    rfl
  · intro j hj
    rw [g2 j hj, Nat.zero_add]
theorem shiftL {n : Nat} : ∀ (m i k : Nat) (v : MdV), i + m = 1156 → m < k → ∃ p2, F_X10_saves_L10 n k v (nI i) = F_X10_saves_J49 n (setPast v p2 (Md_saved v - 1)) ∧ (∀ j, i ≤ j → j < 1156 → p2 j = Md_past v (j + 289)) ∧ ∀ j, j < i → p2 j = Md_past v j := by
  intro m
  induction m with
  | zero =>
    intro i k v hi hk
    obtain ⟨k, rfl⟩ : ∃ z, k = z + 1 := ⟨k - 1, by omega⟩
    refine ⟨Md_past v, ?_, fun j h1 h2 => by omega, fun j _ => rfl⟩
    rw [F_X10_saves_L10, if_pos (by rw [lit, nI_leI (by omega) (by omega)]; omega)]
    rfl
  | succ m ih =>
    intro i k v hi hk
    obtain ⟨k, rfl⟩ : ∃ z, k = z + 1 := ⟨k - 1, by omega⟩
    obtain ⟨p2, g1, g2, g3⟩ := ih (i + 1) k (setPast v (upd (Md_past v) i (Md_past v (i + 289))) (Md_saved v)) (by omega) (by omega)
    have q : ∀ j, Md_past (setPast v (upd (Md_past v) i (Md_past v (i + 289))) (Md_saved v)) j = upd (Md_past v) i (Md_past v (i + 289)) j := fun j => rfl
    refine ⟨p2, ?_, ?_, ?_⟩
    · rw [F_X10_saves_L10, if_neg (by rw [lit, nI_leI (by omega) (by omega)]; omega), show (289 : Int32) = nI 289 from rfl, nI_add, chk_nI (by omega) (by omega), chk_nI (by omega) (by omega), nI_clamp (by omega), nI_clamp (by omega), nI_1]
      exact g1
    · intro j h1 h2
      by_cases e : j = i
      · subst e
        rw [g3 _ (by omega), q, upd_at]
      · rw [g2 j (by omega) h2, q, upd_ne (by omega)]
    · intro j hj
      rw [g3 j (by omega), q, upd_ne (by omega)]
theorem saves_m {n s : Nat} {v : MdV} (hn : 1200 < n) (hs : Md_saved v = nI s) (h5 : s ≤ 5) : ∃ p2, F_X10_saves n v = some (setPast v p2 (nI (if s < 5 then s + 1 else 5))) ∧
    (∀ j, j < 289 → p2 (289 * (if s < 5 then s else 4) + j) = Md_now v j) ∧ ∀ j, j < 289 * (if s < 5 then s else 4) → p2 j = if s < 5 then Md_past v j else Md_past v (j + 289) := by
  unfold F_X10_saves
  by_cases e : s < 5
  · have : ¬ nI s = 5 := fun z => by have := (nI_eq (b := 5) (by omega) (by omega)).mp z; omega
    rw [hs, if_neg this]
    simp only [if_pos e]
    exact J49_s (by omega) hs e
  · obtain rfl : s = 5 := by omega
    rw [hs, if_pos (show nI 5 = 5 from rfl)]
    obtain ⟨p1, g1, g2, g3⟩ := shiftL (n := n) 1156 0 n v (by omega) (by omega)
    obtain ⟨p2, q1, q2, q3⟩ := J49_s (n := n) (s := 4) (u := setPast v p1 (Md_saved v - 1)) (by omega) (by show Md_saved v - 1 = _; rw [hs]; rfl) (by decide)
    refine ⟨p2, ?_, ?_, ?_⟩
    · exact (show F_X10_saves_L10 n n v 0 = _ from g1).trans q1
    · exact fun j hj => q2 j hj
    · intro j hj
      have hj : j < 289 * 4 := hj
      rw [q3 j hj, if_neg e]
      exact g2 j (by omega) (by omega)
theorem keep_s {h : HiV} {S : StV} {w : Nat → Int32} {s e : Nat} (hs : s ≤ 5) (he : e < 5) (h1 : Ho_states (Hi_Ho h) = nI s) (h2 : Ho_end (Hi_Ho h) = nI e) (hR : RS S w) :
    ∃ S', F_X5_keep h S = some (Hi_mk (Ho_mk (nI (if s < 5 then s + 1 else 5)) (nI ((e + 1) % 5))) (hset (Hi_Hr h) e S')) ∧ RS S' w := by
  obtain ⟨S', g1, g2, _⟩ := becomeS (S := Hi_Hr h e) hR
  refine ⟨S', ?_, g2⟩
  have t : ∀ x : Int32, F_X5_keep_t h S' x = some (Hi_mk (Ho_mk (nI (if s < 5 then s + 1 else 5)) x) (hset (Hi_Hr h) e S')) := by
    intro x
    unfold F_X5_keep_t
    rw [h1, h2, nI_clamp (by omega), show (5 : Int32) = nI 5 from rfl]
    by_cases q : s < 5
    · rw [if_neg (nI_nlE q (by omega)), if_pos q, nI_1]
    · rw [if_pos (nI_le (by omega) (by omega)), if_neg q, show s = 5 by omega]
  unfold F_X5_keep
  rw [h2, if_neg (nI_pos (by omega)), show (5 : Int32) = nI 5 from rfl, if_neg (nI_nlE he (by omega)), chk_nI he (by decide), nI_clamp (by omega), g1, bnd_some, nI_1, t, t]
  by_cases q : e + 1 < 5
  · rw [if_neg (nI_nlE q (by omega)), Nat.mod_eq_of_lt q]
  · rw [if_pos (nI_le (by omega) (by omega)), show (e + 1) % 5 = 0 by omega]
    rfl
theorem saves_s {n : Nat} {u : HLV} {v : MdV} (hn : 1200 < n) (h : R u v) : ∃ h2 p2 s2, F_X5_keep (HL_hist u) (HL_now u) = some h2 ∧ F_X10_saves n v = some (setPast v p2 s2) ∧ RHis h2 p2 s2 := by
  obtain ⟨h1, _, _, ⟨s, e, hs, he, q1, q2, q3, q4⟩, _⟩ := h
  obtain ⟨p2, g1, g2, g3⟩ := saves_m hn q3 hs
  obtain ⟨S', k1, k2⟩ := keep_s hs he q1 q2 h1
  refine ⟨_, p2, _, k1, g1, (if s < 5 then s + 1 else 5), (e + 1) % 5, by split <;> omega, by omega, rfl, rfl, rfl, ?_⟩
  intro j hj
  by_cases c : s < 5
  · simp only [if_pos c] at hj g2 g3 ⊢
    by_cases e1 : j = s
    · subst e1
      have : ((e + 1) % 5 + 5 - (j + 1) + j) % 5 = e := by omega
      rw [this]
      show RS (hset (Hi_Hr (HL_hist u)) e S' e) _
      unfold hset
      rw [if_pos rfl]
      exact k2.cgw (fun k hk => g2 k hk)
    · have i1 : ((e + 1) % 5 + 5 - (s + 1) + j) % 5 = (e + 5 - s + j) % 5 := by omega
      have i2 : (e + 5 - s + j) % 5 ≠ e := by omega
      rw [i1]
      show RS (hset (Hi_Hr (HL_hist u)) e S' _) _
      unfold hset
      rw [if_neg i2]
      exact (q4 j (by omega)).cgw (fun k hk => g3 _ (by omega))
  · simp only [if_neg c] at hj g2 g3 ⊢
    obtain rfl : s = 5 := by omega
    by_cases e1 : j = 4
    · subst e1
      have : ((e + 1) % 5 + 5 - 5 + 4) % 5 = e := by omega
      rw [this]
      show RS (hset (Hi_Hr (HL_hist u)) e S' e) _
      unfold hset
      rw [if_pos rfl]
      exact k2.cgw (fun k hk => g2 k hk)
    · have i1 : ((e + 1) % 5 + 5 - 5 + j) % 5 = (e + 5 - 5 + (j + 1)) % 5 := by omega
      have i2 : (e + 5 - 5 + (j + 1)) % 5 ≠ e := by omega
      rw [i1]
      show RS (hset (Hi_Hr (HL_hist u)) e S' _) _
      unfold hset
      rw [if_neg i2]
      refine (q4 (j + 1) (by omega)).cgw (fun k hk => ?_)
      rw [g3 _ (by omega)]
      show Md_past v (289 * j + k + 289) = Md_past v (289 * (j + 1) + k)
      congr 1
      omega
/-- after a change -/
theorem R.next {u : HLV} {v : MdV} (h : R u v) {S2 tr : StV} {w2 p2 : Nat → Int32} {s2 : Int32} {h2 : HiV} (g1 : RS S2 w2) (g2 : RHis h2 p2 s2) : R (HL_mk (HL_Hx u) S2 (HL_stored u) tr h2 (HL_text u)) (setNow (setPast v p2 s2) w2) :=
  ⟨g1, h.2.1, h.2.2.1, g2, h.2.2.2.2⟩
