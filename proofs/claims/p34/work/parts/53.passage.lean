/-! A PASSAGE: each tick once, its entries change the color -/
theorem kept_s {M : Nat} {S : StV} {w : Nat → Int32} {A : Nat → Nat} (hA : RA M S w A) (hM : M < 2 ^ 30) : F_X6_kept (St_Lo S) = some (nI (A 128)) := by
  obtain ⟨a1, a2, a3, a4, a5, a6, a7, a8, a9, a10⟩ := hA
  have t7 := a10.2.2.2.2.2.2
  have t4 := a10.2.2.2.2.1
  have t0 := a10.1
  unfold F_X6_kept
  rw [a6.2.1, show (40 : Int32) = nI 40 from rfl, t7]
  by_cases c : A 123 < 40
  · rw [if_neg (nI_nlE c (by omega)), Nat.min_eq_left (by omega)]
  · rw [if_pos (nI_le (by omega) (by omega)), Nat.min_eq_right (by omega)]
/-- an entry of a passage's g, by its place from the latest -/
theorem ent_s {u : HLV} {w : Nat → Int32} {A : Nat → Nat} {E g i T pas t : Nat} {tf cf : Nat → Nat} {df : Nat → Int32} (hA : RA 1000000 (HL_now u) w A) (hE : A 123 = E + g) (hP : PLog T E pas t g (St_Lo (HL_now u)) tf cf df) (hi : i < g) (h40 : i < 40) :
    F_X9_entry u (nI i) 0 = some (nI (tf (g - 1 - i))) ∧ F_X9_entry u (nI i) 1 = some (nI (cf (g - 1 - i))) ∧ F_X9_entry u (nI i) 2 = some (df (g - 1 - i)) ∧ F_X9_entry u (nI i) 3 = some (nI pas) := by
  have kp := kept_s hA (by decide)
  obtain ⟨a1, a2, a3, a4, a5, a6, a7, a8, a9, a10⟩ := hA
  have t7 := a10.2.2.2.2.2.2
  have t4 := a10.2.2.2.2.1
  have t0 := a10.1
  have r2 := a6.2.1
  have c : i < A 128 := by omega
  have hm : (A 123 - 1 - i) % 40 < 40 := Nat.mod_lt _ (by decide)
  have er : (((nI (A 123)) - 1) - nI i) - (((nI (A 123)) - 1) - nI i) / 40 * 40 = nI ((A 123 - 1 - i) % 40) := by
    rw [show nI (A 123) - 1 = nI (A 123 - 1) from pk_sub (a := A 123) (b := 1) (by omega), pk_sub (by omega), lit]
    exact pk_rem (by omega) (by decide) (by decide)
  have e0 : ¬ nI i < 0 := nI_pos (by omega)
  have el : nI i < nI (A 128) := nI_lt c (by omega)
  obtain ⟨o1, o2, o3, o4⟩ := hP.1 (g - 1 - i) (by omega) (by omega)
  have ix : (E + (g - 1 - i)) % 40 = (A 123 - 1 - i) % 40 := by congr 1; omega
  rw [ix] at o1 o2 o3 o4
  have gen : ∀ w : Nat, w ≤ 3 → F_X9_entry u (nI i) (nI w) = (F_X6_valueOf (St_Lo (HL_now u)) (nI i) (nI w)).bind fun q3 => some q3 := by
    intro w hw
    have q : ¬ (nI w < 0 ∨ 3 < nI w) := by
      rw [show (0 : Int32) = nI 0 from rfl, show (3 : Int32) = nI 3 from rfl, nI_ltI (by omega) (by omega), nI_ltI (by omega) (by omega)]
      omega
    unfold F_X9_entry
    rw [if_neg e0, out_s, bnd_some, if_neg q, if_pos rfl, kp, bnd_some, if_pos el]
  have val : ∀ w : Nat, F_X6_valueOf (St_Lo (HL_now u)) (nI i) (nI w) = if nI w = 0 then some (nI (tf (g - 1 - i))) else if nI w = 1 then some (nI (cf (g - 1 - i))) else if nI w = 2 then some (df (g - 1 - i)) else some (nI pas) := by
    intro w
    unfold F_X6_valueOf
    rw [r2, er, if_pos (nI_pos' (by omega)), chk_nI hm (by decide), chk_nI hm (by decide), chk_nI hm (by decide), chk_nI hm (by decide), nI_clamp (by omega), o1, o2, o3, o4]
  exact ⟨(gen 0 (by omega)).trans (by rw [val]; rfl), (gen 1 (by omega)).trans (by rw [val]; rfl), (gen 2 (by omega)).trans (by rw [val]; rfl), (gen 3 (by omega)).trans (by rw [val]; rfl)⟩
theorem seen_s {u : HLV} {w : Nat → Int32} {A : Nat → Nat} (hA : RA 1000000 (HL_now u) w A) (hp : 1 ≤ A 122) (hp2 : A 122 < 2 ^ 31) {c : Nat} (hc : c ≤ 3) : F_X9_seen u (nI c) = some (nI (A (124 + c))) := by
  obtain ⟨a1, a2, a3, a4, a5, ⟨r1, r2, r3, r4⟩, a7, a8, a9, a10⟩ := hA
  have q : ¬ (nI c < 0 ∨ 3 < nI c) := by
    rw [show (0 : Int32) = nI 0 from rfl, show (3 : Int32) = nI 3 from rfl, nI_ltI (by omega) (by omega), nI_ltI (by omega) (by omega)]
    omega
  have sh : F_X6_shownTicks (St_Lo (HL_now u)) (nI c) = some (nI (A (124 + c))) := by
    unfold F_X6_shownTicks
    rw [if_neg (nI_pos (by omega)), if_neg (by rw [lit, nI_leI (by omega) (by omega)]; omega), chk_nI (by omega) (by decide), nI_clamp (by omega), r3 c (by omega)]
  have n0 : ¬ nI (A 122) = 0 := nI_ne0 (by omega) (by omega)
  unfold F_X9_seen
  rw [out_s, bnd_some, if_neg q, if_pos rfl, r1, if_neg n0, sh, bnd_some]
theorem n4_of {j : Nat} (h : j < 2 ^ 31) : ¬ nI j = -4 ∧ ¬ nI j = -3 ∧ ¬ nI j = -2 ∧ ¬ nI j = -1 := by
  refine ⟨fun z => ?_, fun z => ?_, fun z => ?_, fun z => ?_⟩
  · have := congrArg Int32.toInt z
    rw [nI_toInt h, show (-4 : Int32).toInt = -4 from rfl] at this
    omega
  · have := congrArg Int32.toInt z
    rw [nI_toInt h, show (-3 : Int32).toInt = -3 from rfl] at this
    omega
  · have := congrArg Int32.toInt z
    rw [nI_toInt h, show (-2 : Int32).toInt = -2 from rfl] at this
    omega
  · have := congrArg Int32.toInt z
    rw [nI_toInt h, show (-1 : Int32).toInt = -1 from rfl] at this
    omega
/-- after a passage: taken back, all is as it was -/
theorem pas_370 {n : Nat} {u u' : HLV} {w : Nat → Int32} {h2 : HiV} {a : Int64} (h : OK u) (hw : RS (HL_now u) w) (hk : F_X5_keep (HL_hist u) (HL_now u) = some h2) (h' : OK u') (he : HL_hist u' = h2) (hp : Prt n w a) : ∃ u2, F_L_isPassage_J370 n u' a = some (1, u2) ∧ OK u2 ∧ keepsU u' u2 := by
  obtain ⟨t, u2, ht, q1, q2, q3, q4⟩ := undo_back h hw hk h' he
  unfold F_L_isPassage_J370 F_L_isPassage_J375
  rw [if_neg n10, q1, bnd_some, if_neg (nI_pos ht)]
  obtain ⟨u3, r1, r2, r3, _, _⟩ := prt_eq q2 q3 hp
  exact ⟨u3, r1, r2, q4.trans r3⟩
theorem pas_loop {n T E pas t g K : Nat} {u : HLV} {w : Nat → Int32} {A : Nat → Nat} {tf cf : Nat → Nat} {df : Nat → Int32} {x1 x2 x6 x8 : Int32} {x4 : Int64} (hA : RA 1000000 (HL_now u) w A) (hE : A 123 = E + g) (hP : PLog T E pas t g (St_Lo (HL_now u)) tf cf df) (hp : A 122 = pas + 1) (hpb : pas < 2 ^ 30) (hT : T + t < 2 ^ 30) (hK : K ≤ g) (hK4 : K ≤ 40) : ∀ (m i k : Nat), i + m = K → m < k → F_L_isPassage_L186 n k u x1 x2 x4 x6 x8 (nI g) 1 (nI K) (nI i) = F_L_isPassage_J276 n u x1 x2 x4 x6 x8 (nI g) 1 := by
  intro m
  induction m with
  | zero =>
    intro i k hi hk
    obtain ⟨k, rfl⟩ : ∃ z, k = z + 1 := ⟨k - 1, by omega⟩
    rw [F_L_isPassage_L186, if_pos (nI_le (by omega) (by omega))]
  | succ m ih =>
    intro i k hi hk
    obtain ⟨k, rfl⟩ : ∃ z, k = z + 1 := ⟨k - 1, by omega⟩
    obtain ⟨e0, e1, e2, e3⟩ := ent_s hA hE hP (i := i) (by omega) (by omega)
    have ac : F_X9_account u 6 = some (nI (A 122)) := acc_s (k := 6) hA (by decide)
    have eq1 : nI pas = nI (A 122) - 1 := by
      rw [hp]
      exact (pk_sub (a := pas + 1) (b := 1) (by omega)).symm
    rw [F_L_isPassage_L186, if_neg (nI_nlE (by omega) (by omega)), if_neg n10, e3, bnd_some, ac, bnd_some, if_pos eq1, nI_1]
    by_cases c : i + 1 = K
    · rw [if_pos (by rw [c])]
      exact ih (i + 1) k (by omega) (by omega)
    · obtain ⟨f0, f1, _, _⟩ := ent_s hA hE hP (i := i + 1) (by omega) (by omega)
      have q := hP.2.2.1 (g - 1 - (i + 1)) (by omega)
      rw [show g - 1 - (i + 1) + 1 = g - 1 - i by omega] at q
      have b1 := hP.2.1 (g - 1 - i) (by omega)
      have b2 := hP.2.1 (g - 1 - (i + 1)) (by omega)
      have ne : ¬ nI (i + 1) = nI K := fun z => c ((nI_eq (by omega) (by omega)).mp z)
      have nle : ¬ nI (tf (g - 1 - i)) ≤ nI (tf (g - 1 - (i + 1))) := nI_nlE q.1 (by omega)
      have nc : ¬ nI (cf (g - 1 - i)) = nI (cf (g - 1 - (i + 1))) := fun z => q.2 ((nI_eq (by omega) (by omega)).mp z).symm
      rw [if_neg ne, e0, bnd_some, f0, bnd_some, if_neg nle, e1, bnd_some, f1, bnd_some, if_neg nc]
      exact ih (i + 1) k (by omega) (by omega)
theorem isPassage_s {n t : Nat} {u : HLV} {x y : Int} (hn : 30000 < n) (h : OK u) (hx : ok4 x) (hy : ok4 y) (t1 : 1 ≤ t) (t2 : t ≤ 500) : ∃ u2, F_L_isPassage n u (zI x) (zI y) (nI t) = some (1, u2) ∧ OK u2 ∧ keepsU u u2 := by
  obtain ⟨w, hw⟩ := h.row
  obtain ⟨a, S, p1, hp⟩ := print_s hn h hw
  obtain ⟨A, hA, hB⟩ := id hw
  have hT := hA.tick
  have e0 : F_X9_account (setTr u S) 0 = some (nI (A 116)) := acc_s (u := setTr u S) (k := 0) hA (by decide)
  have e7 : F_X9_account (setTr u S) 7 = some (nI (A 123)) := acc_s (u := setTr u S) (k := 7) hA (by decide)
  unfold F_L_isPassage
  rw [p1, bnd_some]
  show ∃ u2, (F_X9_account (setTr u S) 0).bind _ = _ ∧ _
  rw [e0, bnd_some]
  show ∃ u2, (F_X9_account (setTr u S) 7).bind _ = _ ∧ _
  rw [e7, bnd_some]
  -- what is seen ahead
  obtain ⟨sv, S3, g1, hsee⟩ : ∃ (sv : Int32) (S3 : StV), F_X9_sees n (setTr u S) (zI x) (zI y) = some (sv, setTr u S3) ∧ ((x = 0 ∧ y = 0 ∧ sv = -2) ∨ (¬ (x = 0 ∧ y = 0) ∧ ∃ col : Nat, col ≤ 3 ∧ sv = nI col ∧ F_X10_seenAt n (setNow Mdz (tkw n w)) (zI x) (zI y) (tkx n w) = some (nI col))) := by
    rcases sees_s (n := n) (u := setTr u S) (by omega) hA hx hy with ⟨z1, z2, g⟩ | ⟨hne, S2, col, hc, g, g2, _⟩
    · exact ⟨-2, S, g, Or.inl ⟨z1, z2, rfl⟩⟩
    · exact ⟨nI col, S2, g, Or.inr ⟨hne, col, hc, rfl, g2⟩⟩
  show ∃ u2, (F_X9_sees n (setTr u S) (zI x) (zI y)).bind _ = _ ∧ _
  rw [g1, bnd_some]
  show ∃ u2, (F_X9_pass n (setTr u S3) (zI x) (zI y) (zI y) (zI x) (nI t)).bind _ = _ ∧ _
  have hU := h.tr S3
  obtain ⟨v, hv, ev⟩ := hU.at (w := w) hw
  rcases pass_s (n := n) (t := t) (tx := y) (ty := x) (by omega) hv hx hy hy hx t1 t2 with g | ⟨h2, S2, v2, A', A2, g, k1, g1', g2, hA', hB', hA2, tf, cf, df, r1, r2, r3, r4, P, r6, r7⟩
  · rw [g, bnd_some, if_pos rfl]
    obtain ⟨u3, q1, q2, q3, _, _⟩ := prt_eq hU (w := w) hw hp
    exact ⟨u3, q1, q2, (setTr_keeps u S3).trans q3⟩
  · rw [ev] at r6 hA'
    have w116 : A' 116 = A 116 := (nI_eq (by have := hA'.tick; omega) (by omega)).mp ((hA'.1 116 (by decide)).symm.trans (hA.1 116 (by decide)))
    have b123 : A 123 ≤ A 116 := hA.2.2.2.2.2.2.2.2.2.2.2.2.2.1
    have b123' : A' 123 ≤ A' 116 := hA'.2.2.2.2.2.2.2.2.2.2.2.2.2.1
    have w123 : A' 123 = A 123 := (nI_eq (by omega) (by omega)).mp ((hA'.1 123 (by decide)).symm.trans (hA.1 123 (by decide)))
    have g1i := P.2.2.2.1
    have gp : 0 < g := P.2.2.2.2.1 (by omega)
    have hU2 : OK (HL_mk (HL_Hx (setTr u S3)) S2 (HL_stored (setTr u S3)) (HL_trial (setTr u S3)) h2 (HL_text (setTr u S3))) := ⟨v2, g2⟩
    obtain ⟨U, hUe⟩ : ∃ U, U = HL_mk (HL_Hx (setTr u S3)) S2 (HL_stored (setTr u S3)) (HL_trial (setTr u S3)) h2 (HL_text (setTr u S3)) := ⟨_, rfl⟩
    rw [← hUe] at hU2 g1'
    have hA2U : RA 1000000 (HL_now U) (Md_now v2) A2 := by rw [hUe]; exact hA2
    have PU : PLog (A' 116) (A' 123) (A' 122) t g (St_Lo (HL_now U)) tf cf df := by rw [hUe]; exact P
    have kU : keepsU u U := by rw [hUe]; exact ⟨rfl, rfl, rfl⟩
    have heU : HL_hist U = h2 := by rw [hUe]
    have fin : ∃ u2, F_L_isPassage_J370 n U a = some (1, u2) ∧ OK u2 ∧ keepsU u u2 := by
      obtain ⟨u2, q1, q2, q3⟩ := pas_370 (u := setTr u S3) hU (w := w) hw k1 hU2 heU hp
      exact ⟨u2, q1, q2, kU.trans q3⟩
    have s0 : F_X9_seen U 0 = some (nI (A2 124)) := seen_s (c := 0) hA2U (by omega) (by omega) (by decide)
    have s1 : F_X9_seen U 1 = some (nI (A2 125)) := seen_s (c := 1) hA2U (by omega) (by omega) (by decide)
    have s2 : F_X9_seen U 2 = some (nI (A2 126)) := seen_s (c := 2) hA2U (by omega) (by omega) (by decide)
    have s3 : F_X9_seen U 3 = some (nI (A2 127)) := seen_s (c := 3) hA2U (by omega) (by omega) (by decide)
    have c0 : F_X9_account U 0 = some (nI (A2 116)) := acc_s (k := 0) hA2U (by decide)
    have c7 : F_X9_account U 7 = some (nI (A2 123)) := acc_s (k := 7) hA2U (by decide)
    have t7 : A2 128 = min (A2 123) 40 := hA2.2.2.2.2.2.2.2.2.2.2.2.2.2.2.2
    have c8 : F_X9_count n U 8 = some (nI (A2 128)) := by
      show (F_X6_kept (St_Lo (HL_now U))).bind (fun q => some q) = _
      rw [kept_s hA2U (by decide), bnd_some]
    have sm : ((nI (A2 124) + nI (A2 125)) + nI (A2 126)) + nI (A2 127) = nI t := by
      rw [nI_add, nI_add, nI_add, r4]
    have m0 : nI (A2 116) = nI (A 116) + nI t := by rw [nI_add, r1, w116]
    have m7 : nI (A2 123) = nI (A 123) + nI g := by rw [nI_add, r3, w123]
    have le0 : ¬ nI g ≤ 0 := nI_nlE (b := 0) gp (by omega)
    have le1 : ¬ nI t < nI g := nI_nlt g1i (by omega)
    have nm3 := (n4_of (j := g) (by omega)).2.1
    -- the loop, then the first entry
    have L : ∀ K : Nat, K = min g 40 → ∃ u2, F_L_isPassage_L186 n n U (zI x) (zI y) a (nI (A 116)) sv (nI g) 1 (nI K) 0 = some (1, u2) ∧ OK u2 ∧ keepsU u u2 := by
      intro K hK
      have lp := pas_loop (n := n) (K := K) (x1 := zI x) (x2 := zI y) (x6 := nI (A 116)) (x8 := sv) (x4 := a) hA2U r3 PU r2 (by omega) (by omega) (by omega) (by omega) K 0 n (by omega) (by omega)
      rw [show F_L_isPassage_L186 n n U (zI x) (zI y) a (nI (A 116)) sv (nI g) 1 (nI K) 0 = _ from lp]
      unfold F_L_isPassage_J276
      rw [if_neg n10]
      by_cases c : 40 < g
      · rw [if_pos (show (40 : Int32) < nI g by rw [lit, nI_ltI (by omega) (by omega)]; exact c)]
        exact fin
      · rw [if_neg (show ¬ (40 : Int32) < nI g by rw [lit, nI_ltI (by omega) (by omega)]; exact c), show nI g - 1 = nI (g - 1) from pk_sub (a := g) (b := 1) gp]
        obtain ⟨f0, f1, f2, _⟩ := ent_s hA2U r3 PU (i := g - 1) (by omega) (by omega)
        rw [show g - 1 - (g - 1) = 0 by omega] at f0 f1 f2
        have tf0 : tf 0 = A' 116 := P.2.2.2.2.2 gp
        rw [f0, bnd_some, if_pos (by rw [tf0, w116])]
        rcases hsee with ⟨z1, z2, z3⟩ | ⟨hne, col, hc, z3, z4⟩
        · subst z1
          subst z2
          have q0 : F_X10_seenAt n (setNow Mdz (tkw n w)) (zI 0) (zI 0) (tkx n w) = some 0 := by
            unfold F_X10_seenAt
            rw [if_pos (show zI 0 = 0 from rfl), if_pos (show zI 0 = 0 from rfl)]
          have q1 : nI (cf 0) = 0 := (Option.some.inj (q0.symm.trans r6)).symm
          rw [if_pos z3, f1, bnd_some, if_pos q1, f2, bnd_some, if_pos (by rw [r7, dirI_00])]
          exact fin
        · have q1 : nI (cf 0) = sv := by rw [z3]; exact (Option.some.inj (z4.symm.trans r6)).symm
          rw [if_neg (by rw [z3]; exact (n4_of (by omega)).2.2.1), f1, bnd_some, if_pos q1, f2, bnd_some, direction_s (by omega) hx hy, bnd_some, if_pos r7]
          exact fin
    rw [g1', bnd_some, if_neg nm3]
    show ∃ u2, (F_X9_seen U 0).bind _ = _ ∧ _
    rw [s0, bnd_some]
    show ∃ u2, (F_X9_seen U 1).bind _ = _ ∧ _
    rw [s1, bnd_some]
    show ∃ u2, (F_X9_seen U 2).bind _ = _ ∧ _
    rw [s2, bnd_some]
    show ∃ u2, (F_X9_seen U 3).bind _ = _ ∧ _
    rw [s3, bnd_some]
    rw [if_neg le0, if_neg le1, if_pos sm]
    show ∃ u2, (F_X9_account U 0).bind _ = _ ∧ _
    rw [c0, bnd_some, if_pos m0]
    show ∃ u2, (F_X9_account U 7).bind _ = _ ∧ _
    rw [c7, bnd_some, if_pos m7]
    show ∃ u2, (F_X9_count n U 8).bind _ = _ ∧ _
    rw [c8, bnd_some, nI_add]
    have fork : ∃ u2, (if nI g ≤ 40 then F_L_isPassage_L186 n n U (zI x) (zI y) a (nI (A 116)) sv (nI g) 1 (nI g) 0 else F_L_isPassage_L186 n n U (zI x) (zI y) a (nI (A 116)) sv (nI g) 1 40 0) = some (1, u2) ∧ OK u2 ∧ keepsU u u2 := by
      by_cases c : g ≤ 40
      · rw [if_pos (show nI g ≤ 40 by rw [lit, nI_leI (by omega) (by omega)]; exact c)]
        exact L g (by omega)
      · rw [if_neg (show ¬ nI g ≤ 40 by rw [lit, nI_leI (by omega) (by omega)]; exact c)]
        exact L 40 (by omega)
    by_cases c : A 123 + g ≤ 40
    · rw [if_pos (show nI (A 123 + g) ≤ 40 by rw [lit, nI_leI (by omega) (by omega)]; exact c), if_pos (show nI (A2 128) = nI (A 123 + g) by congr 1; omega)]
      exact fork
    · rw [if_neg (show ¬ nI (A 123 + g) ≤ 40 by rw [lit, nI_leI (by omega) (by omega)]; exact c), if_pos (show nI (A2 128) = 40 by rw [show A2 128 = 40 by omega]; rfl)]
      exact fork
