/-! SHIPS: a passage, with what the log gets -/
/-- the entries of the passage pas, g of them, the first one at the place E of all; i ticks have gone by since the tick T -/
def PLog (T E pas i g : Nat) (l : LoV) (tf cf : Nat → Nat) (df : Nat → Int32) : Prop :=
  (∀ q, q < g → g - 1 - q < 40 → Lo_ticks l ((E + q) % 40) = nI (tf q) ∧ Lo_colors l ((E + q) % 40) = nI (cf q) ∧ Lo_directions l ((E + q) % 40) = df q ∧ Lo_numbers l ((E + q) % 40) = nI pas) ∧
  (∀ q, q < g → tf q < T + i ∧ cf q ≤ 3) ∧ (∀ q, q + 1 < g → tf q < tf (q + 1) ∧ cf q ≠ cf (q + 1)) ∧ g ≤ i ∧ (0 < i → 0 < g) ∧ (0 < g → tf 0 = T)
def sN {α : Type} (f : Nat → α) (k : Nat) (x : α) : Nat → α := fun j => if j = k then x else f j
theorem sN_at {α : Type} {f : Nat → α} {k : Nat} {x : α} : sN f k x k = x := if_pos rfl
theorem sN_ne {α : Type} {f : Nat → α} {k j : Nat} {x : α} (h : j ≠ k) : sN f k x j = f j := if_neg h
/-- the same entries a tick later -/
theorem PLog.stay {T E pas i g : Nat} {l l2 : LoV} {tf cf : Nat → Nat} {df : Nat → Int32} (h : PLog T E pas i g l tf cf df) (hg : 0 < g) (e1 : Lo_ticks l2 = Lo_ticks l) (e2 : Lo_colors l2 = Lo_colors l) (e3 : Lo_directions l2 = Lo_directions l) (e4 : Lo_numbers l2 = Lo_numbers l) : PLog T E pas (i + 1) g l2 tf cf df := by
  obtain ⟨h1, h2, h3, h4, h5, h6⟩ := h
  refine ⟨fun q z1 z2 => ?_, fun q z => ?_, h3, by omega, fun _ => hg, h6⟩
  · rw [e1, e2, e3, e4]
    exact h1 q z1 z2
  · have := h2 q z
    exact ⟨by omega, this.2⟩
/-- one more entry -/
theorem PLog.more {T E pas i g col : Nat} {l : LoV} {sh : Nat → Int32} {pa en d : Int32} {tf cf : Nat → Nat} {df : Nat → Int32} (h : PLog T E pas i g l tf cf df) (hc : col ≤ 3) (hn : 0 < g → cf (g - 1) ≠ col) (hz : g = 0 → i = 0) :
    PLog T E pas (i + 1) (g + 1) (Lo_mk (upd (Lo_ticks l) ((E + g) % 40) (nI (T + i))) (upd (Lo_colors l) ((E + g) % 40) (nI col)) (upd (Lo_directions l) ((E + g) % 40) d) (upd (Lo_numbers l) ((E + g) % 40) (nI pas)) sh pa en) (sN tf g (T + i)) (sN cf g col) (sN df g d) := by
  obtain ⟨h1, h2, h3, h4, h5, h6⟩ := h
  refine ⟨fun q z1 z2 => ?_, fun q z => ?_, fun q z => ?_, by omega, fun _ => by omega, fun _ => ?_⟩
  · show upd _ _ _ _ = _ ∧ upd _ _ _ _ = _ ∧ upd _ _ _ _ = _ ∧ upd _ _ _ _ = _
    by_cases e : q = g
    · subst e
      rw [upd_at, upd_at, upd_at, upd_at, sN_at, sN_at, sN_at]
      exact ⟨rfl, rfl, rfl, rfl⟩
    · have ne : (E + q) % 40 ≠ (E + g) % 40 := by omega
      rw [upd_ne ne, upd_ne ne, upd_ne ne, upd_ne ne, sN_ne e, sN_ne e, sN_ne e]
      exact h1 q (by omega) (by omega)
  · by_cases e : q = g
    · subst e
      rw [sN_at, sN_at]
      exact ⟨by omega, hc⟩
    · rw [sN_ne e, sN_ne e]
      have := h2 q (by omega)
      exact ⟨by omega, this.2⟩
  · by_cases e : q + 1 = g
    · have e2 : q = g - 1 := by omega
      rw [e, sN_at, sN_at, sN_ne (by omega), sN_ne (by omega), e2]
      have := h2 (g - 1) (by omega)
      exact ⟨this.1, hn (by omega)⟩
    · rw [sN_ne (by omega), sN_ne (by omega), sN_ne (by omega), sN_ne (by omega)]
      exact h3 q (by omega)
  · by_cases e : g = 0
    · subst e
      rw [sN_at, hz rfl]
      rfl
    · rw [sN_ne (by omega)]
      exact h6 (by omega)
theorem ship_c {n k col : Nat} {S S1 : StV} {x y b dir : Int32} (h1 : F_X7_goOn n S = some (nI (k - 1), S1)) (h2 : F_X7_shownAt n S1 x y (nI (k - 1)) = some (nI col)) (hc : col ≤ 3) (h3 : F_X3_byQuarter n x y = some dir) :
    F_X7_goOnWithShip n S x y b = if nI col = b then some (nI col, St_mk (St_So S1) (St_Ci S1) (St_Fl S1) (St_Ch S1) (Lo_mk (Lo_ticks (St_Lo S1)) (Lo_colors (St_Lo S1)) (Lo_directions (St_Lo S1)) (Lo_numbers (St_Lo S1)) (upd (Lo_shown (St_Lo S1)) col (Lo_shown (St_Lo S1) col + 1)) (Lo_passages (St_Lo S1)) (Lo_entries (St_Lo S1)))) else
      (F_X6_add (Lo_mk (Lo_ticks (St_Lo S1)) (Lo_colors (St_Lo S1)) (Lo_directions (St_Lo S1)) (Lo_numbers (St_Lo S1)) (upd (Lo_shown (St_Lo S1)) col (Lo_shown (St_Lo S1) col + 1)) (Lo_passages (St_Lo S1)) (Lo_entries (St_Lo S1))) (So_tick (St_So S1) - 1) (nI col) dir).bind fun q5 => some (nI col, St_mk (St_So S1) (St_Ci S1) (St_Fl S1) (St_Ch S1) q5) := by
  unfold F_X7_goOnWithShip
  rw [h1, bnd_some, h2, bnd_some, addShown_c hc, bnd_some, h3, bnd_some]
theorem passC {n t : Nat} {x y tx ty : Int} {pas had T : Nat} (hn : 300 < n) (hx : ok4 x) (hy : ok4 y) (htx : ok4 tx) (hty : ok4 ty) (t1 : 1 ≤ t) (ht : t ≤ 500) : ∀ (m i k M g : Nat) (u : HLV) (w : Nat → Int32) (A : Nat → Nat) (b : Int32) (tf cf : Nat → Nat) (df : Nat → Int32), i + m = t → m < k → M + m < 2 ^ 29 → RA M (HL_now u) w A → A 116 = T + i → A 122 = pas + 1 → A 123 = had + g → A 124 + A 125 + A 126 + A 127 = i →
    PLog T had pas i g (St_Lo (HL_now u)) tf cf df → ((g = 0 ∧ i = 0 ∧ b = -1) ∨ (0 < g ∧ b = nI (cf (g - 1)))) →
    ∃ (S2 : StV) (w2 : Nat → Int32) (A2 : Nat → Nat) (g2 : Nat) (tf2 cf2 : Nat → Nat) (df2 : Nat → Int32), F_X9_pass_L100 n k u (zI x) (zI y) (zI tx) (zI ty) (nI t) (nI had) b (nI i) = some (nI g2, HL_mk (HL_Hx u) S2 (HL_stored u) (HL_trial u) (HL_hist u) (HL_text u)) ∧ RA (M + m) S2 w2 A2 ∧ A2 116 = T + t ∧ A2 122 = pas + 1 ∧ A2 123 = had + g2 ∧ A2 124 + A2 125 + A2 126 + A2 127 = t ∧ PLog T had pas t g2 (St_Lo S2) tf2 cf2 df2 ∧
      (0 < g → cf2 0 = cf 0 ∧ df2 0 = df 0) ∧ (g = 0 → i = 0 → 0 < m → ∃ (k1 : Int32) (Sx : StV), F_X7_goOn n (HL_now u) = some (k1, Sx) ∧ F_X7_shownAt n Sx (zI x) (zI y) k1 = some (nI (cf2 0)) ∧ df2 0 = dirI x y) := by
  intro m
  induction m with
  | zero =>
    intro i k M g u w A b tf cf df hi hk hM h hA hp hE hs hL hb
    obtain ⟨k, rfl⟩ : ∃ z, k = z + 1 := ⟨k - 1, by omega⟩
    have le : nI t ≤ nI i := nI_le (by omega) (by omega)
    obtain ⟨t0, _, _, _, t5, _⟩ := id h.2.2.2.2.2.2.2.2.2
    refine ⟨HL_now u, w, A, g, tf, cf, df, ?_, h, by omega, hp, hE, by omega, by rw [show t = i by omega]; exact hL, fun _ => ⟨rfl, rfl⟩, fun _ _ z => by omega⟩
    rw [F_X9_pass_L100, if_pos le, h.2.2.2.2.2.1.2.1, hE, pk_sub (by omega), Nat.add_sub_cancel_left]
    try rfl
  | succ m ih =>
    intro i k M g u w A b tf cf df hi hk hM h hA hp hE hs hL hb
    obtain ⟨k, rfl⟩ : ∃ z, k = z + 1 := ⟨k - 1, by omega⟩
    have le : ¬ nI t ≤ nI i := nI_nlE (by omega) (by omega)
    obtain ⟨q1, p1, o1, f1, e1, _⟩ := along_s hx htx (show i < t by omega) ht
    obtain ⟨q2, p2, o2, f3, e2, _⟩ := along_s hy hty (show i < t by omega) ht
    obtain ⟨kd, S1, A1, d1, d4, g1, g2, g3, g4, g5, g6, g7, g8, g9⟩ := tick_c (n := n) (by omega) (by omega) h
    obtain ⟨col, hc, c1, c2, _⟩ := shown_s (n := n) (v := setNow Mdz (tkw n w)) (by omega) g3 (RSin_z _) o1 o2 d1 d4
    have sc := ship_c (b := b) g1 c1 hc (byQuarter_s (n := n) (by omega) o1 o2)
    obtain ⟨t1', t2, t3, t4, t5, t6, t7⟩ := id h.2.2.2.2.2.2.2.2.2
    obtain ⟨s1, s2, s3, s4, s5, s6, s7⟩ := id g3.2.2.2.2.2.2.2.2.2
    have a122 := g5 122 (by omega) (by omega)
    have a123 := g5 123 (by omega) (by omega)
    have a128 := g5 128 (by omega) (by omega)
    have a124 := g5 124 (by omega) (by omega)
    have a125 := g5 125 (by omega) (by omega)
    have a126 := g5 126 (by omega) (by omega)
    have a127 := g5 127 (by omega) (by omega)
    have aC := g5 (124 + col) (by omega) (by omega)
    have tC := t6 col (by omega)
    -- the shown color counted
    let A3 := sA A1 (124 + col) (A1 (124 + col) + 1)
    let w3 := upd (tkw n w) (124 + col) (nI (A1 (124 + col) + 1))
    have L3 := RLo_shown (c := col) g3.2.2.2.2.2.1 (by omega) hc
    have n3 : nIf w3 A3 := g3.1.upd _ _
    have o3 : ∀ j, j ≠ 124 + col → A3 j = A1 j := fun j z => sA_ne z
    have sh3 : A3 124 + A3 125 + A3 126 + A3 127 = i + 1 := by
      have z : A3 (124 + col) = A1 (124 + col) + 1 := sA_at
      rcases (show col = 0 ∨ col = 1 ∨ col = 2 ∨ col = 3 by omega) with e | e | e | e
      · subst e
        have z : A3 124 = A1 124 + 1 := z
        rw [z, o3 125 (by omega), o3 126 (by omega), o3 127 (by omega)]; omega
      · subst e
        have z : A3 125 = A1 125 + 1 := z
        rw [z, o3 124 (by omega), o3 126 (by omega), o3 127 (by omega)]; omega
      · subst e
        have z : A3 126 = A1 126 + 1 := z
        rw [z, o3 124 (by omega), o3 125 (by omega), o3 127 (by omega)]; omega
      · subst e
        have z : A3 127 = A1 127 + 1 := z
        rw [z, o3 124 (by omega), o3 125 (by omega), o3 126 (by omega)]; omega
    have i3 : ITi (M + 1) A3 := by
      have z1 := o3 116 (by omega)
      have z2 := o3 121 (by omega)
      have z3 := o3 123 (by omega)
      have z4 := o3 128 (by omega)
      have y1 := o3 117 (by omega)
      have y2 := o3 118 (by omega)
      have y3 := o3 119 (by omega)
      have y4 := o3 120 (by omega)
      refine ⟨by omega, ?_, by omega, by omega, by omega, ?_, by rw [z4, z3]; exact s7⟩
      · intro j hj
        rw [o3 _ (by omega), z1]
        exact s2 j hj
      · intro j hj
        rw [z1]
        by_cases e : j = col
        · rw [e]
          show sA A1 (124 + col) (A1 (124 + col) + 1) (124 + col) ≤ _
          rw [sA_at]
          omega
        · rw [o3 _ (by omega)]
          exact s6 j hj
    have R3 : RA (M + 1) (St_mk (St_So S1) (St_Ci S1) (St_Fl S1) (St_Ch S1) (Lo_mk (Lo_ticks (St_Lo S1)) (Lo_colors (St_Lo S1)) (Lo_directions (St_Lo S1)) (Lo_numbers (St_Lo S1)) (upd (Lo_shown (St_Lo S1)) col (Lo_shown (St_Lo S1) col + 1)) (Lo_passages (St_Lo S1)) (Lo_entries (St_Lo S1)))) w3 A3 := RA_lo g3 L3 n3 i3 (fun j hj => o3 j (by omega))
    have first : i = 0 → F_X7_shownAt n S1 (zI x) (zI y) (nI (kd - 1)) = some (nI col) ∧ dirI p1 p2 = dirI x y := by
      intro z
      subst z
      have q10 : q1 = 0 := Option.some.inj (f1.symm.trans (floor0 (x := x) _ t1 (by omega)))
      have q20 : q2 = 0 := Option.some.inj (f3.symm.trans (floor0 (x := x) _ t1 (by omega)))
      rw [q10, Int32.add_zero] at e1
      rw [q20, Int32.add_zero] at e2
      obtain rfl := zI_inj hx o1 e1
      obtain rfl := zI_inj hy o2 e2
      exact ⟨c1, rfl⟩
    rw [F_X9_pass_L100, if_neg le, f1, bnd_some, f3, bnd_some, e1, e2, sc, nI_1]
    by_cases e : nI col = b
    · rcases hb with ⟨z1, z2, z3⟩ | ⟨z1, z2⟩
      · exfalso
        rw [z3] at e
        rcases (show col = 0 ∨ col = 1 ∨ col = 2 ∨ col = 3 by omega) with rfl | rfl | rfl | rfl <;> exact absurd e (by decide)
      · have hcf := (hL.2.1 (g - 1) (by omega)).2
        have ec : col = cf (g - 1) := (nI_eq (by omega) (by omega)).mp (e.trans z2)
        rw [if_pos e, bnd_some]
        obtain ⟨S2, w2, A2, g', tf2, cf2, df2, r1, r2, r3, r4, r5, r6, r7, r8, r9⟩ := ih (i + 1) k (M + 1) g (HL_mk (HL_Hx u) (St_mk (St_So S1) (St_Ci S1) (St_Fl S1) (St_Ch S1) (Lo_mk (Lo_ticks (St_Lo S1)) (Lo_colors (St_Lo S1)) (Lo_directions (St_Lo S1)) (Lo_numbers (St_Lo S1)) (upd (Lo_shown (St_Lo S1)) col (Lo_shown (St_Lo S1) col + 1)) (Lo_passages (St_Lo S1)) (Lo_entries (St_Lo S1)))) (HL_stored u) (HL_trial u) (HL_hist u) (HL_text u)) w3 A3 (nI col) tf cf df (by omega) (by omega) (by omega) R3 (by rw [o3 116 (by omega)]; omega) (by rw [o3 122 (by omega)]; omega) (by rw [o3 123 (by omega)]; omega) sh3
          (hL.stay z1 (by show Lo_ticks (St_Lo S1) = _; rw [g7]) (by show Lo_colors (St_Lo S1) = _; rw [g7]) (by show Lo_directions (St_Lo S1) = _; rw [g7]) (by show Lo_numbers (St_Lo S1) = _; rw [g7])) (Or.inr ⟨z1, by rw [← ec]⟩)
        exact ⟨S2, w2, A2, g', tf2, cf2, df2, r1, by rw [show M + (m + 1) = M + 1 + m by omega]; exact r2, r3, r4, r5, r6, r7, r8, fun z => by omega⟩
    · have tk : So_tick (St_So S1) - 1 = nI (T + i) := by
        rw [g3.2.2.2.2.1.2.1, g4, hA]
        exact pk_sub (a := T + i + 1) (b := 1) (by omega)
      have pa : Lo_passages (St_Lo S1) - 1 = nI pas := by
        rw [g3.2.2.2.2.2.1.1, a122, hp]
        exact pk_sub (a := pas + 1) (b := 1) (by omega)
      have q8 : A3 128 = min (A3 123) 40 := by rw [o3 128 (by omega), o3 123 (by omega)]; exact s7
      have z3 := o3 123 (by omega)
      have qE : A3 123 < 2 ^ 30 := by omega
      have e3 : A3 123 = had + g := by omega
      obtain ⟨l4, w4, y1, _, y3, y4⟩ := add_s (n := n) (v := setNow Mdz w3) (A := A3) (x1 := nI (T + i)) (x2 := nI col) (x3 := dirI p1 p2) (pas := nI pas) (by omega) L3 n3 q8 qE pa
      have y5 := add_c (l := Lo_mk (Lo_ticks (St_Lo S1)) (Lo_colors (St_Lo S1)) (Lo_directions (St_Lo S1)) (Lo_numbers (St_Lo S1)) (upd (Lo_shown (St_Lo S1)) col (Lo_shown (St_Lo S1) col + 1)) (Lo_passages (St_Lo S1)) (Lo_entries (St_Lo S1))) (E := A3 123) (x1 := nI (T + i)) (x2 := nI col) (x3 := dirI p1 p2) L3.2.1 qE
      obtain rfl := Option.some.inj (y5.symm.trans y1)
      let A4 := sA (sA A3 128 (min (A3 123 + 1) 40)) 123 (A3 123 + 1)
      have o4 : ∀ j, j ≠ 128 → j ≠ 123 → A4 j = A3 j := fun j z1 z2 => by
        show sA (sA A3 128 _) 123 _ j = _
        rw [sA_ne z2, sA_ne z1]
      have b123 : A4 123 = A3 123 + 1 := sA_at
      have b128 : A4 128 = min (A3 123 + 1) 40 := by
        show sA (sA A3 128 _) 123 _ 128 = _
        rw [sA_ne (by decide), sA_at]
      have i4 : ITi (M + 1) A4 := by
        obtain ⟨v1, v2, v3, v4, v5, v6, v7⟩ := i3
        have z1 := o4 116 (by omega) (by omega)
        have z2 := o4 121 (by omega) (by omega)
        have z116 := o3 116 (by omega)
        have x1 := o4 117 (by omega) (by omega)
        have x2 := o4 118 (by omega) (by omega)
        have x3 := o4 119 (by omega) (by omega)
        have x4 := o4 120 (by omega) (by omega)
        refine ⟨by omega, ?_, by omega, by omega, by omega, ?_, by rw [b128, b123]⟩
        · intro j hj
          rw [o4 _ (by omega) (by omega), z1]
          exact v2 j hj
        · intro j hj
          rw [o4 _ (by omega) (by omega), z1]
          exact v6 j hj
      have R4 := RA_lo R3 y3 y4 i4 (fun j hj => o4 j (by omega) (by omega))
      have hng : 0 < g → cf (g - 1) ≠ col := by
        intro z z2
        rcases hb with ⟨y1, _⟩ | ⟨_, y2⟩
        · omega
        · exact e (by rw [y2, z2])
      have hgz : g = 0 → i = 0 := by
        intro z
        rcases hb with ⟨_, y2, _⟩ | ⟨y1, _⟩
        · exact y2
        · omega
      have PL := hL.more (sh := upd (Lo_shown (St_Lo S1)) col (Lo_shown (St_Lo S1) col + 1)) (pa := Lo_passages (St_Lo S1)) (en := nI (A3 123 + 1)) (d := dirI p1 p2) hc hng hgz
      rw [if_neg e, tk, y1, bnd_some, bnd_some]
      obtain ⟨S2, w2, A2, g', tf2, cf2, df2, r1, r2, r3, r4, r5, r6, r7, r8, r9⟩ := ih (i + 1) k (M + 1) (g + 1) (HL_mk (HL_Hx u) (St_mk (St_So S1) (St_Ci S1) (St_Fl S1) (St_Ch S1) (Lo_mk (upd (Lo_ticks (St_Lo S1)) (A3 123 % 40) (nI (T + i))) (upd (Lo_colors (St_Lo S1)) (A3 123 % 40) (nI col)) (upd (Lo_directions (St_Lo S1)) (A3 123 % 40) (dirI p1 p2)) (upd (Lo_numbers (St_Lo S1)) (A3 123 % 40) (Lo_passages (St_Lo S1) - 1)) (upd (Lo_shown (St_Lo S1)) col (Lo_shown (St_Lo S1) col + 1)) (Lo_passages (St_Lo S1)) (nI (A3 123 + 1)))) (HL_stored u) (HL_trial u) (HL_hist u) (HL_text u)) w4 A4 (nI col) (sN tf g (T + i)) (sN cf g col) (sN df g (dirI p1 p2)) (by omega) (by omega) (by omega) R4 (by rw [o4 116 (by omega) (by omega), o3 116 (by omega)]; omega) (by rw [o4 122 (by omega) (by omega), o3 122 (by omega)]; omega) (by omega) (by rw [o4 124 (by omega) (by omega), o4 125 (by omega) (by omega), o4 126 (by omega) (by omega), o4 127 (by omega) (by omega)]; exact sh3)
        (by rw [e3, pa, g7]; rw [e3, g7] at PL; exact PL) (Or.inr ⟨by omega, by rw [Nat.add_sub_cancel, sN_at]⟩)
      obtain ⟨r8a, r8b⟩ := r8 (by omega)
      refine ⟨S2, w2, A2, g', tf2, cf2, df2, r1, by rw [show M + (m + 1) = M + 1 + m by omega]; exact r2, r3, r4, r5, r6, r7, fun z => ?_, fun z1 z2 _ => ?_⟩
      · rw [r8a, r8b, sN_ne (by omega), sN_ne (by omega)]
        exact ⟨rfl, rfl⟩
      · obtain ⟨x1, x2⟩ := first z2
        rw [r8a, r8b]
        subst z1
        rw [sN_at, sN_at]
        exact ⟨_, S1, g1, x1, x2⟩
/-- what a passage leaves: of the place (x, y) it begins at, t ticks, g entries -/
def PassR (n : Nat) (u : HLV) (w : Nat → Int32) (x y : Int) (t g : Nat) (S2 : StV) (A A2 : Nat → Nat) : Prop :=
  ∃ (tf cf : Nat → Nat) (df : Nat → Int32), A2 116 = A 116 + t ∧ A2 122 = A 122 + 1 ∧ A2 123 = A 123 + g ∧ A2 124 + A2 125 + A2 126 + A2 127 = t ∧ PLog (A 116) (A 123) (A 122) t g (St_Lo S2) tf cf df ∧ F_X10_seenAt n (setNow Mdz (tkw n w)) (zI x) (zI y) (tkx n w) = some (nI (cf 0)) ∧ df 0 = dirI x y
theorem shown_lo (n : Nat) (S : StV) (l : LoV) (x y k : Int32) : F_X7_shownAt n (St_mk (St_So S) (St_Ci S) (St_Fl S) (St_Ch S) l) x y k = F_X7_shownAt n S x y k := rfl
theorem J20_lo {n : Nat} {u S1 : StV} {k1 : Int32} (l : LoV) (h : F_X7_goOn_J20 n u = some (k1, S1)) : F_X7_goOn_J20 n (St_mk (St_So u) (St_Ci u) (St_Fl u) (St_Ch u) l) = some (k1, St_mk (St_So S1) (St_Ci S1) (St_Fl S1) (St_Ch S1) l) := by
  unfold F_X7_goOn_J20 at h ⊢
  obtain ⟨q2, h2, h⟩ := bnd_s h
  obtain ⟨q3, h3, h⟩ := bnd_s h
  show (F_X4_isLitAt n (St_Fl u) (So_tick (St_So u))).bind _ = _
  rw [h2, bnd_some]
  show (F_X1_spend (St_Ch u) (So_tick (St_So u)) q2).bind _ = _
  rw [h3, bnd_some]
  by_cases c1 : q3.1 < 0
  · rw [if_pos c1] at h ⊢
    cases h
    rfl
  · rw [if_neg c1] at h ⊢
    by_cases c2 : 4 ≤ q3.1
    · rw [if_pos c2] at h ⊢
      cases h
      rfl
    · rw [if_neg c2] at h ⊢
      obtain ⟨c3, h⟩ := chk_s h
      obtain ⟨_, h⟩ := chk_s h
      have k4 : ∀ {α : Type} {a : Option α}, chk q3.1 4 a = a := fun {α} {a} => if_neg c3
      rw [k4, k4]
      cases h
      rfl
theorem goOn_lo {n : Nat} {S S1 : StV} {k1 : Int32} (l : LoV) (h : F_X7_goOn n S = some (k1, S1)) : F_X7_goOn n (St_mk (St_So S) (St_Ci S) (St_Fl S) (St_Ch S) l) = some (k1, St_mk (St_So S1) (St_Ci S1) (St_Fl S1) (St_Ch S1) l) := by
  unfold F_X7_goOn at h ⊢
  obtain ⟨q1, h1, h⟩ := bnd_s h
  show (F_X1_beginsChange n (St_Ch S)).bind _ = _
  rw [h1, bnd_some]
  by_cases c1 : q1.1 = 0
  · rw [if_pos c1] at h ⊢
    exact J20_lo l h
  · rw [if_neg c1] at h ⊢
    exact J20_lo l h
theorem pass_s {n t : Nat} {u : HLV} {v : MdV} {x y tx ty : Int} (hn : 3000 < n) (h : R u v) (hx : ok4 x) (hy : ok4 y) (htx : ok4 tx) (hty : ok4 ty) (t1 : 1 ≤ t) (t2 : t ≤ 500) :
    F_X9_pass n u (zI x) (zI y) (zI tx) (zI ty) (nI t) = some (-3, u) ∨ ∃ (h2 : HiV) (S2 : StV) (v2 : MdV) (A A2 : Nat → Nat) (g : Nat), F_X5_keep (HL_hist u) (HL_now u) = some h2 ∧ F_X9_pass n u (zI x) (zI y) (zI tx) (zI ty) (nI t) = some (nI g, HL_mk (HL_Hx u) S2 (HL_stored u) (HL_trial u) h2 (HL_text u)) ∧
      R (HL_mk (HL_Hx u) S2 (HL_stored u) (HL_trial u) h2 (HL_text u)) v2 ∧ RA 1000000 (HL_now u) (Md_now v) A ∧ A 122 ≤ A 116 ∧ RA 1000000 S2 (Md_now v2) A2 ∧ PassR n u (Md_now v) x y t g S2 A A2 := by
  obtain ⟨h2, p2, s2, k1, k2, k3⟩ := saves_s (n := n) (by omega) h
  obtain ⟨A, hA, hB⟩ := h.1
  have hT := hA.tick
  obtain ⟨l1, l2⟩ := last_s (T := A 116) (t := t) hT (by omega)
  have q : ¬ (nI t < 1 ∨ 500 < nI t) := by
    rw [show (1 : Int32) = nI 1 from rfl, show (500 : Int32) = nI 500 from rfl, nI_ltI (by omega) (by omega), nI_ltI (by omega) (by omega)]
    omega
  obtain ⟨l5, w5, A5, g1, g2, g3, g4, g5⟩ := begin_c (n := n) (by omega) hA
  have e116 := g5 116 (by omega) (by omega)
  have e123 := g5 123 (by omega) (by omega)
  unfold F_X9_pass
  rw [far_c, far_c, far_c, far_c, out_s]
  simp only [bnd_some]
  rw [if_neg (far_0 hx), if_neg (far_0 hy), if_neg (far_0 htx), if_neg (far_0 hty), if_neg q, hA.2.2.2.2.1.2.1, k1, bnd_some, g1, bnd_some]
  simp only [eq_self, if_true, l1]
  by_cases e : A 116 + t ≤ 1000000
  · rw [if_pos e]
    have P0 : PLog (A 116) (A 123) (A 122) 0 0 l5 (fun _ => 0) (fun _ => 0) (fun _ => 0) := ⟨fun q z => by omega, fun q z => by omega, fun q z => by omega, by omega, fun z => by omega, fun z => by omega⟩
    obtain ⟨S2, w2, A2, g', tf2, cf2, df2, r1, r2, r3, r4, r5, r6, r7, r8, r9⟩ := passC (n := n) (t := t) (pas := A 122) (had := A 123) (T := A 116) (by omega) hx hy htx hty t1 t2 t 0 n (A 116) 0 (HL_mk (HL_Hx u) (St_mk (St_So (HL_now u)) (St_Ci (HL_now u)) (St_Fl (HL_now u)) (St_Ch (HL_now u)) l5) (HL_stored u) (HL_trial u) h2 (HL_text u)) w5 A5 (-1) _ _ _ (by omega) (by omega) (by omega) (g2.at (by omega)) (by omega) g3 (by omega) (by rw [g4 124 (by omega) (by omega), g4 125 (by omega) (by omega), g4 126 (by omega) (by omega), g4 127 (by omega) (by omega)]) P0 (Or.inl ⟨rfl, rfl, rfl⟩)
    have r2' := r2.at (M' := 1000000) (by omega)
    obtain ⟨kk, Sx, y1, y2, y3⟩ := r9 rfl rfl (by omega)
    obtain ⟨x', S1, A1, d1, d4, z1, z2, z3, z4, z5, z6, z7, z8, z9⟩ := tick_c (n := n) (by omega) (by omega) hA
    obtain ⟨col, hc, c1, c2, _⟩ := shown_s (n := n) (v := setNow Mdz (tkw n (Md_now v))) (by omega) z3 (RSin_z _) hx hy d1 d4
    have z1' := goOn_lo l5 z1
    have y1' : F_X7_goOn n (St_mk (St_So (HL_now u)) (St_Ci (HL_now u)) (St_Fl (HL_now u)) (St_Ch (HL_now u)) l5) = some (kk, Sx) := y1
    have ee := Option.some.inj (z1'.symm.trans y1')
    obtain ⟨ek, eS⟩ := Prod.mk.inj ee
    rw [← ek, ← eS, shown_lo, c1] at y2
    refine Or.inr ⟨h2, S2, setNow (setPast v p2 s2) w2, A, A2, g', rfl, ?_, h.next ⟨A2, r2', by omega⟩ k3, hA, hB, r2', tf2, cf2, df2, r3, r4, r5, r6, r7, ?_, y3⟩
    · rw [show Lo_entries l5 = nI (A 123) from g2.2.2.2.2.2.1.2.1.trans (by rw [e123])]
      exact r1
    · rw [z2, c2]
      exact y2
  · rw [if_neg e]
    exact Or.inl rfl
theorem op_pass {n : Nat} {u : HLV} {v : MdV} (hn : 3000 < n) (h : R u v) (x1 x2 x3 x4 x5 : Int32) : ∃ a u2 v2, F_X9_pass n u x1 x2 x3 x4 x5 = some (a, u2) ∧ R u2 v2 ∧ (-4 : Int32) ≤ a := by
  have bad : F_X9_pass n u x1 x2 x3 x4 x5 = some (-1, u) → ∃ a u2 v2, F_X9_pass n u x1 x2 x3 x4 x5 = some (a, u2) ∧ R u2 v2 ∧ (-4 : Int32) ≤ a := fun g => ⟨-1, u, v, g, h, by decide⟩
  have q0 : ¬ (1 : Int32) = 0 := by decide
  rcases arg_z x1 with q | ⟨z1, o1, rfl, q1⟩
  · refine bad ?_
    unfold F_X9_pass
    rw [far_c, bnd_some, if_pos q, if_neg q0]
  rcases arg_z x2 with q | ⟨z2, o2, rfl, q2⟩
  · refine bad ?_
    unfold F_X9_pass
    rw [far_c, bnd_some, if_neg q1, if_pos rfl, far_c, bnd_some, if_pos q, if_neg q0]
  rcases arg_z x3 with q | ⟨z3, o3, rfl, q3⟩
  · refine bad ?_
    unfold F_X9_pass
    rw [far_c, bnd_some, if_neg q1, if_pos rfl, far_c, bnd_some, if_neg q2, if_pos rfl, far_c, bnd_some, if_pos q, if_neg q0]
  rcases arg_z x4 with q | ⟨z4, o4, rfl, q4⟩
  · refine bad ?_
    unfold F_X9_pass
    rw [far_c, bnd_some, if_neg q1, if_pos rfl, far_c, bnd_some, if_neg q2, if_pos rfl, far_c, bnd_some, if_neg q3, if_pos rfl, far_c, bnd_some, if_pos q, if_neg q0]
  rcases arg_n (x := x5) (lo := 1) (hi := 500) 1 500 rfl rfl (by decide) (by decide) with q | ⟨t, ht1, ht, rfl, q⟩
  · refine bad ?_
    unfold F_X9_pass
    rw [far_c, bnd_some, if_neg q1, if_pos rfl, far_c, bnd_some, if_neg q2, if_pos rfl, far_c, bnd_some, if_neg q3, if_pos rfl, far_c, bnd_some, if_neg q4, if_pos rfl, out_s, bnd_some, if_pos q, if_neg q0]
  rcases pass_s hn h o1 o2 o3 o4 ht1 ht with g | ⟨h2, S2, v2, A, A2, g, k1, g1, g2, _, _, _, tf, cf, df, _, _, _, _, P, _⟩
  · exact ⟨-3, u, v, g, h, by decide⟩
  · have := P.2.2.2.1
    exact ⟨_, _, v2, g1, g2, nI_m4 (by omega)⟩
