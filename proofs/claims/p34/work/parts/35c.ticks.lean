/-! TICKS: the class's tick, and both -/
theorem tick_use {A : Nat → Nat} (hI : ICh A) {p : Nat} (hp : p < 6) : tickA A (86 + 5 * p) = A (86 + 5 * p) + (if p = A 112 then eA A else 0) := by
  have hw := whatA_in A
  have h5 := hI.2.1
  by_cases e : p = A 112
  · rw [if_pos e, e]
    exact (tickA_at h5).2.1
  · rw [if_neg e, tickA_out (by omega) (by omega) (by omega) (by omega)]
    rfl
theorem RCh_tick {c : ChV} {A : Nat → Nat} (h : RCh c A) (hI : ICh A) {u : Nat → Int32} {l : Int32} (hu : ∀ p, p < 6 → u p = nI (A (86 + 5 * p) + (if p = A 112 then eA A else 0))) (hl : l = nI (A 113 - dA A)) : RCh (Ch_mk (Ch_intensities c) (Ch_lives c) u (Ch_kind c) (Ch_present c) (Ch_change c) l) (tickA A) := by
  have hw := whatA_in A
  have h5 := hI.2.1
  obtain ⟨r1, r2, r3, r4, r5⟩ := h
  refine ⟨?_, ?_, ?_, ?_, ?_⟩
  · intro p hp
    obtain ⟨z1, z2, z3⟩ := r1 p hp
    rw [tick_use hI hp, tickA_out (j := 84 + 5 * p) (by omega) (by omega) (by omega) (by omega), tickA_out (j := 85 + 5 * p) (by omega) (by omega) (by omega) (by omega)]
    exact ⟨z1, z2, hu p hp⟩
  · rw [tickA_out (by omega) (by omega) (by omega) (by omega)]; exact r2
  · rw [tickA_out (by omega) (by omega) (by omega) (by omega)]; exact r3
  · rw [tickA_out (by omega) (by omega) (by omega) (by omega)]; exact r4
  · rw [(tickA_at h5).1]; exact hl
theorem spend_c {c : ChV} {A : Nat → Nat} (h : RCh c A) (hI : ICh A) (ht : A 116 < 2 ^ 31) : ∃ c2, F_X1_spend c (nI (A 116)) (if litA A (A 116) = true then 1 else 0) = some (nI (whatA A - 1), c2) ∧ RCh c2 (tickA A) := by
  have h5 := hI.2.1
  have hL := hI.2.2.1
  have h81 := hI.1
  obtain ⟨r1, r2, r3, r4, r5⟩ := id h
  unfold F_X1_spend
  rw [r5, r3, isPlace_s (by omega), bnd_some, canBurn_s h hI (by omega), bnd_some, r2, chk_nI (by omega) (by decide), chk_nI (by omega) (by decide), chk_nI (by omega) (by decide), chk_nI (by omega) (by decide), nI_clamp (by omega), (r1 (A 112) (by omega)).2.2, show (4 : Int32) = nI 4 from rfl, pk_rem ht (by decide) (by decide)]
  have same : ∀ x : Int32, x = nI (A 113 - dA A) → eA A = 0 → RCh (Ch_mk (Ch_intensities c) (Ch_lives c) (Ch_uses c) (nI (A 81)) (nI (A 112)) (Ch_change c) x) (tickA A) := by
    intro x hx he
    rw [← r2, ← r3]
    refine RCh_tick h hI (fun p hp => ?_) hx
    rw [he, (r1 p hp).2.2]
    split <;> rfl
  have sameC : dA A = 0 → eA A = 0 → RCh c (tickA A) := by
    intro hd he
    refine RCh_tick (u := Ch_uses c) (l := Ch_changeLeft c) h hI (fun p hp => ?_) (by rw [r5, hd]; rfl)
    rw [he, (r1 p hp).2.2]
    split <;> rfl
  have more : dA A = 0 → eA A = 1 → RCh (Ch_mk (Ch_intensities c) (Ch_lives c) (upd (Ch_uses c) (A 112) (nI (A (86 + 5 * A 112)) + 1)) (nI (A 81)) (nI (A 112)) (Ch_change c) (nI (A 113))) (tickA A) := by
    intro hd he
    rw [← r2, ← r3]
    refine RCh_tick h hI (fun p hp => ?_) (by rw [hd]; rfl)
    by_cases e : p = A 112
    · rw [if_pos e, he, e, upd_at, nI_1]
    · rw [if_neg e, upd_ne e, (r1 p hp).2.2]
      rfl
  by_cases e : 0 < A 113
  · have w3 : whatA A = 3 := by unfold whatA; rw [if_pos e]
    have hd : dA A = 1 := by unfold dA; rw [if_pos w3]
    have he : eA A = 0 := by unfold eA; rw [if_neg (by omega)]
    rw [if_neg (nI_nle e (by omega)), w3]
    refine ⟨_, rfl, same _ ?_ he⟩
    rw [hd]
    exact pk_sub (a := A 113) (b := 1) e
  · have z : nI (A 113) ≤ 0 := nI_le (b := 0) (by omega) (by omega)
    rw [if_pos z]
    rcases goodA_in A (A 112) with g | g
    · have w4 : whatA A = 4 := by unfold whatA; rw [if_neg e, if_pos g]
      have hd : dA A = 0 := by unfold dA; rw [if_neg (by omega)]
      have he : eA A = 0 := by unfold eA; rw [if_neg (by omega)]
      rw [g, w4]
      exact ⟨_, rfl, sameC hd he⟩
    · have g0 : ¬ goodA A (A 112) = 0 := by omega
      rw [g]
      by_cases l : litA A (A 116) = true
      · have w1 : whatA A = 1 := by unfold whatA; rw [if_neg e, if_neg g0, if_pos l]
        have hd : dA A = 0 := by unfold dA; rw [if_neg (by omega)]
        have he : eA A = 1 := by unfold eA; rw [if_pos (Or.inl w1)]
        rw [if_pos l, w1]
        exact ⟨_, rfl, more hd he⟩
      · have w2 : whatA A = 2 := by unfold whatA; rw [if_neg e, if_neg g0, if_neg l]
        have hd : dA A = 0 := by unfold dA; rw [if_neg (by omega)]
        have no : eA A = 0 → ∃ c2, some ((1 : Int32), c) = some (nI (2 - 1), c2) ∧ RCh c2 (tickA A) := fun he => ⟨c, rfl, sameC hd he⟩
        rw [if_neg l, w2]
        show ∃ c2, (if nI (A 81) = 1 then (if nI (A 116 % 4) = 0 then some ((1 : Int32), Ch_mk (Ch_intensities c) (Ch_lives c) (upd (Ch_uses c) (A 112) (nI (A (86 + 5 * A 112)) + 1)) (nI (A 81)) (nI (A 112)) (Ch_change c) (nI (A 113))) else some ((1 : Int32), c)) else some ((1 : Int32), c)) = some (nI (2 - 1), c2) ∧ RCh c2 (tickA A)
        by_cases q3 : A 81 = 1
        · rw [if_pos (show nI (A 81) = 1 by rw [q3]; rfl)]
          by_cases q4 : A 116 % 4 = 0
          · have he : eA A = 1 := by unfold eA; rw [if_pos (Or.inr ⟨w2, q3, q4⟩)]
            rw [if_pos (show nI (A 116 % 4) = 0 by rw [q4]; rfl)]
            exact ⟨_, rfl, more hd he⟩
          · have q4' : ¬ nI (A 116 % 4) = 0 := nI_ne0 (by omega) (by omega)
            rw [if_neg q4']
            exact no (by unfold eA; rw [if_neg (by omega)])
        · have q3' : ¬ nI (A 81) = 1 := fun z => q3 ((nI_eq (b := 1) (by omega) (by omega)).mp z)
          rw [if_neg q3']
          exact no (by unfold eA; rw [if_neg (by omega)])
theorem J20_s {n : Nat} {so : SoV} {ci : CiV} {fl : FlV} {ch : ChV} {lo : LoV} {A : Nat → Nat} (hn : 8 < n) (hs : RSo so A) (hf : RFl fl A) (hc : RCh ch A) (hI : ICh A) (hF : IFl A) (ht : A 116 < 2 ^ 31) :
    ∃ c2, F_X7_goOn_J20 n (St_mk so ci fl ch lo) = some (nI (whatA A - 1), St_mk (So_mk (upd (So_spent so) (whatA A - 1) (nI (A (116 + whatA A) + 1))) (nI (A 116 + 1)) (So_clear so) (So_changesBegun so)) ci fl c2 lo) ∧ RCh c2 (tickA A) := by
  have hw := whatA_in A
  obtain ⟨c2, g1, g2⟩ := spend_c hc hI ht
  refine ⟨c2, ?_, g2⟩
  have e1 : So_tick so = nI (A 116) := hs.2.1
  have e2 : So_spent so (whatA A - 1) = nI (A (116 + whatA A)) := by
    rw [hs.1 _ (by omega), show 117 + (whatA A - 1) = 116 + whatA A by omega]
  have l0 : ¬ nI (whatA A - 1) < 0 := nI_pos (by omega)
  have l4 : ¬ (4 : Int32) ≤ nI (whatA A - 1) := by rw [lit, nI_leI (by omega) (by omega)]; omega
  unfold F_X7_goOn_J20
  show (F_X4_isLitAt n fl (So_tick so)).bind (fun q2 => (F_X1_spend ch (So_tick so) q2).bind (fun q3 => if q3.1 < 0 then some (q3.1, (St_mk (So_mk (So_spent so) ((So_tick so) + 1) (So_clear so) (So_changesBegun so)) ci fl q3.2 lo)) else if 4 ≤ q3.1 then some (q3.1, (St_mk (So_mk (So_spent so) ((So_tick so) + 1) (So_clear so) (So_changesBegun so)) ci fl q3.2 lo)) else chk q3.1 4 (chk q3.1 4 (some (q3.1, (St_mk (So_mk (upd (So_spent so) q3.1.toNatClampNeg (((So_spent so) q3.1.toNatClampNeg) + 1)) ((So_tick so) + 1) (So_clear so) (So_changesBegun so)) ci fl q3.2 lo)))))) = _
  rw [e1, lit_c hf hF hn ht, bnd_some, g1, bnd_some]
  show (if nI (whatA A - 1) < 0 then _ else if 4 ≤ nI (whatA A - 1) then _ else chk (nI (whatA A - 1)) 4 (chk (nI (whatA A - 1)) 4 (some (nI (whatA A - 1), (St_mk (So_mk (upd (So_spent so) (nI (whatA A - 1)).toNatClampNeg (((So_spent so) (nI (whatA A - 1)).toNatClampNeg) + 1)) (nI (A 116) + 1) (So_clear so) (So_changesBegun so)) ci fl c2 lo))))) = _
  rw [if_neg l0, if_neg l4, chk_nI (by omega) (by decide), chk_nI (by omega) (by decide), nI_clamp (by omega), e2, nI_1, nI_1]
/-- one tick on both sides -/
theorem tick_s {n M : Nat} {S : StV} {v : MdV} {A : Nat → Nat} (hn : 10 < n) (hM : M < 2 ^ 29) (h : RA M S (Md_now v) A) :
    ∃ (x : Nat) (S2 : StV) (w2 : Nat → Int32) (A2 : Nat → Nat), 1 ≤ x ∧ x ≤ 4 ∧ F_X7_goOn n S = some (nI (x - 1), S2) ∧ F_X10_ticks n v = some (nI x, setNow v w2) ∧ RA (M + 1) S2 w2 A2 ∧ A2 116 = A 116 + 1 ∧ (∀ j, 122 ≤ j → j < 129 → A2 j = A j) ∧ (∀ j, 129 ≤ j → w2 j = Md_now v j) ∧ St_Lo S2 = St_Lo S ∧ (∀ j, j < 4 → A2 (117 + j) = A (117 + j) + if j + 1 = x then 1 else 0) ∧ (∀ j, j < 81 → A2 j = A j) := by
  obtain ⟨a1, a2, a3, a4, a5, a6, a7, a8, a9, a10⟩ := h
  obtain ⟨t1, t2, t3, t4, t5, t6, t7⟩ := id a10
  obtain ⟨b, c1, w1, A1, hb, g1, g2, g3, g4, g5, g6, g7, g8⟩ := beginsC_s (n := n) hn a4 a1 a9 (by omega)
  have f7 : ∀ j, j ≠ 112 → j ≠ 113 → j ≠ 121 → A1 j = A j := g7
  have e116 : A1 116 = A 116 := g7 116 (by decide) (by decide) (by decide)
  have b1 : RFl (St_Fl S) A1 := a3.cg a8.2.1 (fun j _ _ => g7 j (by omega) (by omega) (by omega))
  have b2 : IFl A1 := a8.cg (fun j _ _ => g7 j (by omega) (by omega) (by omega))
  have b3 : RSo (So_mk (So_spent (St_So S)) (So_tick (St_So S)) (So_clear (St_So S)) (nI (A1 121))) A1 := by
    obtain ⟨s1, s2, s3, s4⟩ := a5
    refine ⟨?_, ?_, ?_, rfl⟩
    · intro j hj; rw [g7 (117 + j) (by omega) (by omega) (by omega)]; exact s1 j hj
    · rw [e116]; exact s2
    · rw [g7 115 (by omega) (by omega) (by omega)]; exact s3
  obtain ⟨c2, q1, q2⟩ := J20_s (n := n) (ci := St_Ci S) (lo := St_Lo S) (by omega) b3 b1 g3 g5 b2 (by omega)
  have hl : F_X10_looks n v = some (nI (whatA A1), setNow v w1) := g2.trans (J95_s (v := setNow v w1) (by omega) g4 g5 b2 (by omega))
  obtain ⟨w2, k1, k2, k3⟩ := ticks_m hl g4 g5 (by omega)
  have hwh := whatA_in A1
  have h5 := g5.2.1
  have key : F_X7_goOn n S = F_X7_goOn_J20 n (St_mk (So_mk (So_spent (St_So S)) (So_tick (St_So S)) (So_clear (St_So S)) (nI (A1 121))) (St_Ci S) (St_Fl S) c1 (St_Lo S)) := by
    have s4 := a5.2.2.2
    unfold F_X7_goOn
    rw [g1, bnd_some]
    rcases (show b = 0 ∨ b = 1 by omega) with rfl | rfl
    · show F_X7_goOn_J20 n (St_mk (St_So S) (St_Ci S) (St_Fl S) c1 (St_Lo S)) = _
      rw [g6, Nat.add_zero, ← s4]
    · show F_X7_goOn_J20 n (St_mk (So_mk (So_spent (St_So S)) (So_tick (St_So S)) (So_clear (St_So S)) ((So_changesBegun (St_So S)) + 1)) (St_Ci S) (St_Fl S) c1 (St_Lo S)) = _
      rw [g6, s4, nI_1]
  have tO : ∀ j, j ≠ 113 → j ≠ 86 + 5 * A1 112 → j ≠ 116 → j ≠ 116 + whatA A1 → j ≠ 112 → j ≠ 121 → tickA A1 j = A j := by
    intro j h1 h2 h3 h4 h5 h6
    rw [tickA_out h1 h2 h3 h4, g7 j h5 h1 h6]
  obtain ⟨u1, u2, u3, u4⟩ := tickA_at (A := A1) h5
  have u121 : tickA A1 121 = A 121 + b := by rw [tickA_out (by omega) (by omega) (by omega) (by omega), g6]
  have acc : ∀ j, j < 4 → tickA A1 (117 + j) = A (117 + j) + if j + 1 = whatA A1 then 1 else 0 := by
    intro j hj
    by_cases e : j + 1 = whatA A1
    · have y : 117 + j = 116 + whatA A1 := by omega
      rw [if_pos e, y, u4, g7 _ (by omega) (by omega) (by omega)]
    · rw [if_neg e, tO _ (by omega) (by omega) (by omega) (by omega) (by omega) (by omega)]
      rfl
  refine ⟨whatA A1, _, w2, tickA A1, hwh.1, hwh.2, key.trans q1, k1, ⟨k2, ?_, ?_, q2, ?_, ?_, ?_, ?_, ICh_tick g5, ?_⟩, ?_, ?_, ?_, rfl, acc, fun j hj => tO j (by omega) (by omega) (by omega) (by omega) (by omega) (by omega)⟩
  · exact a2.cg (fun j hj => tO j (by omega) (by omega) (by omega) (by omega) (by omega) (by omega))
  · exact a3.cg a8.2.1 (fun j _ _ => tO j (by omega) (by omega) (by omega) (by omega) (by omega) (by omega))
  · refine ⟨?_, ?_, ?_, ?_⟩
    · intro j hj
      show upd _ _ _ _ = _
      by_cases e : j = whatA A1 - 1
      · rw [e, upd_at, show 117 + (whatA A1 - 1) = 116 + whatA A1 by omega, u4]
      · rw [upd_ne e, tO _ (by omega) (by omega) (by omega) (by omega) (by omega) (by omega)]
        exact a5.1 j hj
    · rw [u3]
    · rw [tickA_out (by omega) (by omega) (by omega) (by omega)]
      exact b3.2.2.1
    · rw [tickA_out (by omega) (by omega) (by omega) (by omega)]
  · exact a6.cg a10.k40 (fun j _ _ => tO j (by omega) (by omega) (by omega) (by omega) (by omega) (by omega)) (fun j _ _ => by rw [k3 j (by omega) (by omega) (by omega) (by omega), g8 j (by omega) (by omega) (by omega)])
  · exact a7.cg (fun j hj => tO j (by omega) (by omega) (by omega) (by omega) (by omega) (by omega))
  · exact a8.cg (fun j _ _ => tO j (by omega) (by omega) (by omega) (by omega) (by omega) (by omega))
  · have o : ∀ j, 122 ≤ j → j < 129 → tickA A1 j = A j := fun j _ _ => tO j (by omega) (by omega) (by omega) (by omega) (by omega) (by omega)
    have o2 := o 122 (by omega) (by omega)
    have o3 := o 123 (by omega) (by omega)
    have o8 := o 128 (by omega) (by omega)
    have x0 : tickA A1 117 = A 117 + if 0 + 1 = whatA A1 then 1 else 0 := acc 0 (by omega)
    have x1 : tickA A1 118 = A 118 + if 1 + 1 = whatA A1 then 1 else 0 := acc 1 (by omega)
    have x2 : tickA A1 119 = A 119 + if 2 + 1 = whatA A1 then 1 else 0 := acc 2 (by omega)
    have x3 : tickA A1 120 = A 120 + if 3 + 1 = whatA A1 then 1 else 0 := acc 3 (by omega)
    have jj : tickA A1 116 = tickA A1 117 + tickA A1 118 + tickA A1 119 + tickA A1 120 := by
      rw [u3, e116, x0, x1, x2, x3]
      rcases (show whatA A1 = 1 ∨ whatA A1 = 2 ∨ whatA A1 = 3 ∨ whatA A1 = 4 by omega) with z | z | z | z <;> rw [z] <;> simp <;> omega
    refine ⟨by omega, ?_, by omega, jj, by omega, ?_, by rw [o8, o3]; exact t7⟩
    · intro j hj
      have z := t2 j hj
      by_cases e : j = whatA A1 - 1
      · have y : 117 + j = 116 + whatA A1 := by omega
        rw [y, u4, u3, g7 _ (by omega) (by omega) (by omega)]
        rw [y] at z
        omega
      · rw [tO _ (by omega) (by omega) (by omega) (by omega) (by omega) (by omega)]
        omega
    · intro j hj
      have z := t6 j hj
      rw [o _ (by omega) (by omega)]
      omega
  · rw [u3, e116]
  · exact fun j _ _ => tO j (by omega) (by omega) (by omega) (by omega) (by omega) (by omega)
  · intro j hj
    rw [k3 j (by omega) (by omega) (by omega) (by omega), g8 j (by omega) (by omega) (by omega)]
