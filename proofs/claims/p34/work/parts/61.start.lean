/-! THE START: the light as it is made -/
def A0 (k : Nat) : Nat := if k < 65 then 1 else if k < 67 then 2 else if k = 114 then 3 else if k = 115 then 50 else 0
theorem A0_1 {k : Nat} (h : k < 65) : A0 k = 1 := if_pos h
theorem A0_0 {k : Nat} (h : 67 ≤ k) (h1 : k ≠ 114) (h2 : k ≠ 115) : A0 k = 0 := by
  unfold A0
  rw [if_neg (by omega), if_neg (by omega), if_neg h1, if_neg h2]
theorem colL {n : Nat} : ∀ (m i k : Nat) (c : CiV), i + m = 64 → m < k → (∀ j, j < i → c j = nI 1) → ∃ c2 : CiV, F_X2_init_L14 n k c (nI i) = some c2 ∧ ∀ j, j < 64 → c2 j = nI 1 := by
  intro m
  induction m with
  | zero =>
    intro i k c hi hk hc
    obtain ⟨k, rfl⟩ : ∃ z, k = z + 1 := ⟨k - 1, by omega⟩
    refine ⟨c, ?_, fun j hj => hc j (by omega)⟩
    rw [F_X2_init_L14, if_pos (by rw [lit, nI_leI (by omega) (by omega)]; omega)]
  | succ m ih =>
    intro i k c hi hk hc
    obtain ⟨k, rfl⟩ : ∃ z, k = z + 1 := ⟨k - 1, by omega⟩
    obtain ⟨c2, g1, g2⟩ := ih (i + 1) k (upd c i (nI 1)) (by omega) (by omega) (fun j hj => by
      by_cases e : j = i
      · rw [e, upd_at]
      · rw [upd_ne e]; exact hc j (by omega))
    refine ⟨c2, ?_, g2⟩
    rw [F_X2_init_L14, if_neg (by rw [lit, nI_leI (by omega) (by omega)]; omega), chk_nI (by omega) (by decide), nI_clamp (by omega), nI_1]
    exact g1
theorem start_c {n : Nat} (hn : 100 < n) : ∃ S, F_X7_init n = some S ∧ ∀ w, nIf w A0 → RA 1000000 S w A0 := by
  obtain ⟨c, g1, g2⟩ := colL (n := n) 64 0 n (fun _ => 0) (by omega) (by omega) (fun j hj => by omega)
  have f : F_X4_init = some (Fl_mk (upd (fun _ => 0) 0 2) (upd (fun _ => 0) 0 2) 1 2 2) := rfl
  refine ⟨St_mk (So_mk (fun _ => 0) 0 50 0) c (Fl_mk (upd (fun _ => 0) 0 2) (upd (fun _ => 0) 0 2) 1 2 2) (Ch_mk (fun _ => 0) (fun _ => 0) (fun _ => 0) 0 0 3 0) (Lo_mk (fun _ => 0) (fun _ => 0) (fun _ => 0) (fun _ => 0) (fun _ => 0) 0 0), ?_, fun w hw => ⟨hw, ?_, ⟨rfl, ?_, rfl, rfl⟩, ⟨?_, rfl, rfl, rfl, rfl⟩, ⟨?_, rfl, rfl, rfl⟩, ⟨rfl, rfl, ?_, ?_⟩, ?_, ⟨by decide, by decide, ?_, ?_⟩, ⟨by decide, by decide, by decide, by decide, by decide, by decide, ?_⟩, ⟨by decide, ?_, by decide, by decide, by decide, ?_, by decide⟩⟩⟩
  · unfold F_X7_init F_X2_init
    rw [show F_X2_init_L14 n n (Ci_mk (fun _ => 0)) 0 = some c from g1, bnd_some, f, bnd_some]
    rfl
  · intro j hj
    rw [A0_1 (by omega)]
    exact g2 j hj
  · intro i hi
    have hi : i < 1 := hi
    obtain rfl : i = 0 := by omega
    exact ⟨rfl, rfl⟩
  · intro p hp
    rw [A0_0 (by omega) (by omega) (by omega), A0_0 (by omega) (by omega) (by omega), A0_0 (by omega) (by omega) (by omega)]
    exact ⟨rfl, rfl, rfl⟩
  · intro j hj
    rw [A0_0 (by omega) (by omega) (by omega)]
    rfl
  · intro j hj
    rw [A0_0 (by omega) (by omega) (by omega)]
    rfl
  · intro i hi
    rw [A0_0 (by omega) (by omega) (by omega)] at hi
    omega
  · intro j hj
    rw [A0_1 (by omega)]
    decide
  · intro i hi
    have hi : i < 1 := hi
    obtain rfl : i = 0 := by omega
    decide
  · intro i h1 h2
    have h1 : 1 ≤ i := h1
    exact ⟨A0_0 (by omega) (by omega) (by omega), A0_0 (by omega) (by omega) (by omega)⟩
  · intro p hp
    exact Or.inl ⟨A0_0 (by omega) (by omega) (by omega), A0_0 (by omega) (by omega) (by omega), A0_0 (by omega) (by omega) (by omega), A0_0 (by omega) (by omega) (by omega), A0_0 (by omega) (by omega) (by omega)⟩
  · intro j hj
    rw [A0_0 (by omega) (by omega) (by omega), A0_0 (by omega) (by omega) (by omega)]
    exact Nat.le_refl _
  · intro j hj
    rw [A0_0 (by omega) (by omega) (by omega), A0_0 (by omega) (by omega) (by omega)]
    exact Nat.le_refl _
/-- nothing can burn: no change begins, the tick is idle -/
theorem idle_first {n : Nat} {S : StV} {w : Nat → Int32} {A : Nat → Nat} (hn : 300 < n) (hA : RA 1000000 S w A) (hg : ∀ p, p < 6 → goodA A p = 0) (h113 : A 113 = 0) : tkx n w = 4 := by
  obtain ⟨a1, a2, a3, a4, a5, a6, a7, a8, a9, a10⟩ := id hA
  obtain ⟨t0, t1, t2, t3, t4, t5, t6⟩ := id a10
  have h5 := a9.2.1
  have bc : F_X1_beginsChange n (St_Ch S) = some (nI 0, St_Ch S) := by
    unfold F_X1_beginsChange
    rw [a4.2.2.2.2, h113, if_neg (show ¬ (0 : Int32) < nI 0 by decide), a4.2.2.1, canBurn_s a4 a9 (by omega), bnd_some, hg _ (by omega), if_pos (show nI 0 = 0 from rfl)]
    rcases looksL (n := n) (v := setNow Mdz w) a4 a1 a9 (by omega) 5 1 n n (by omega) (by omega) (by omega) with ⟨p, hp, g, _, _⟩ | ⟨g, _⟩
    · rw [hg p hp] at g
      exact absurd g (by decide)
    · exact g
  have wh : whatA A = 4 := by
    unfold whatA
    rw [if_neg (by omega), if_pos (hg _ (by omega))]
  obtain ⟨c2, g1, _⟩ := J20_s (n := n) (ci := St_Ci S) (lo := St_Lo S) (by omega) a5 a3 a4 a9 a8 (by omega)
  have key : F_X7_goOn n S = F_X7_goOn_J20 n (St_mk (St_So S) (St_Ci S) (St_Fl S) (St_Ch S) (St_Lo S)) := by
    unfold F_X7_goOn
    rw [bc, bnd_some]
    rfl
  obtain ⟨x, S2, A2, x1, x4, k1, k2, _⟩ := tick_c (n := n) (by omega) (by omega) hA
  have e := Option.some.inj (k1.symm.trans (key.trans g1))
  have e2 := (Prod.mk.inj e).1
  rw [wh] at e2
  have : x - 1 = 4 - 1 := (nI_eq (by omega) (by omega)).mp e2
  rw [k2, show x = 4 by omega]
  rfl
theorem pure_all (L : Nat) (xs : Nat → Int32) (hL : L ≤ 260) : ∃ (n k : Nat) (u : HLV), F_X9_init n = some u ∧ F_law_S n L xs k u = some 1 := by
  obtain ⟨n, hn⟩ : ∃ n, 30000 < n := ⟨30001, by omega⟩
  obtain ⟨S, s1, s2⟩ := start_c (n := n) (by omega)
  obtain ⟨w, hw0⟩ : ∃ w : Nat → Int32, w = fun k => nI (A0 k) := ⟨_, rfl⟩
  have hS := s2 w (fun k _ => by rw [hw0])
  refine ⟨n, 31, HL_mk (Hx_mk 0) S S S (Hi_mk (Ho_mk 0 0) (pick5 S S S S S)) (Tx_mk (fun _ => 0) (fun _ => 0) 0 0 0 0 0), ?_, ?_⟩
  · unfold F_X9_init F_X5_init
    rw [s1]
    rfl
  · obtain ⟨u, hu⟩ : ∃ u : HLV, u = HL_mk (Hx_mk 0) S S S (Hi_mk (Ho_mk 0 0) (pick5 S S S S S)) (Tx_mk (fun _ => 0) (fun _ => 0) 0 0 0 0 0) := ⟨_, rfl⟩
    rw [← hu]
    have hR : R u (setNow Mdz w) := by
      rw [hu]
      exact ⟨⟨A0, hS, by decide⟩, RSin_z _, Or.inl ⟨rfl, rfl⟩, ⟨0, 0, by omega, by omega, rfl, rfl, rfl, fun j hj => by omega⟩, ⟨0, by omega, rfl, rfl, fun j hj => by omega⟩⟩
    have hO : OK u := ⟨_, hR⟩
    have hA : RA 1000000 (HL_now u) w A0 := by rw [hu]; exact hS
    have hw : RS (HL_now u) w := ⟨A0, hA, by decide⟩
    have un : F_X9_undo u = some (-2, u) := by
      rw [hu]
      rfl
    have c0 : F_X9_count n u 0 = some 1 := by
      show (F_X2_sectors n (St_Ci (HL_now u))).bind (fun q => some q) = _
      rw [sectors_c hA.2.1 hA.2.2.2.2.2.2.1 (by omega), bnd_some, show nSec A0 = 1 by decide +kernel]
      rfl
    have c3 : F_X9_code n u 3 = some 1 := by
      show (F_X4_kind (St_Fl (HL_now u))).bind (fun q => some q) = _
      obtain ⟨f1, f2, f3, f4⟩ := hA.2.2.1
      unfold F_X4_kind
      rw [f1, f3, f4, show A0 64 = 1 by decide, show sumL A0 1 = 2 by decide, show sumD A0 1 = 2 by decide]
      rfl
    obtain ⟨S2, i1⟩ := until_s (n := n) hn hw
    have t4 : tkx n w = 4 := idle_first (n := n) (by omega) hA (fun p hp => by
      unfold goodA
      rw [if_neg (fun z => by have := A0_0 (k := 82 + 5 * p) (by omega) (by omega) (by omega); omega)]) (by decide)
    have i0 : idl n 20000 0 w = 0 := by
      show idl n (19999 + 1) 0 w = 0
      rw [idl, if_pos t4]
      rfl
    rw [i0] at i1
    have hU := hO.tr S2
    have tx : Tx_length (HL_text (setTr u S2)) = 0 := by rw [hu]; rfl
    obtain ⟨u1, f1, f2, f3, f4, _⟩ := fault_0 (n := n) (by omega) hU tx
    obtain ⟨u2, g1, g2, g3⟩ := areErrors_s (n := n) hn f2 (f4.2.2.trans tx)
    unfold F_law_S
    rw [un, bnd_some, if_pos rfl]
    show (F_X9_count n u 0).bind _ = _
    rw [c0, bnd_some, if_pos rfl]
    show (F_X9_code n u 3).bind _ = _
    rw [c3, bnd_some, if_pos rfl]
    show (F_X9_untilIdle n u).bind _ = _
    rw [i1, bnd_some, if_pos rfl]
    show (F_X9_fault n (setTr u S2) 0).bind _ = _
    rw [f1, bnd_some, if_pos rfl]
    show (F_L_areErrors n u1).bind _ = _
    rw [g1, bnd_some, if_neg n10]
    have k : keepsV u u2 := ((setTr_keeps u S2).v.trans f4).trans g3
    refine lawL hn hL 30 0 31 u2 0 (by omega) (by omega) ⟨g2, by rw [k.2.2, hu], fun z => ?_⟩
    rw [k.1, hu] at z
    exact absurd (show (0 : Int32) = 1 from z) (by decide)
