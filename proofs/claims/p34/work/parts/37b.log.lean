/-! SHIPS: the log -/
theorem RA_lo {M : Nat} {S : StV} {w w2 : Nat → Int32} {A A2 : Nat → Nat} {l : LoV} (h : RA M S w A) (h1 : RLo l w2 A2) (h2 : nIf w2 A2) (h3 : ITi M A2) (f : ∀ j, j < 122 → A2 j = A j) : RA M (St_mk (St_So S) (St_Ci S) (St_Fl S) (St_Ch S) l) w2 A2 := by
  obtain ⟨a1, a2, a3, a4, a5, a6, a7, a8, a9, a10⟩ := h
  exact ⟨h2, a2.cg (fun j _ => f j (by omega)), a3.cg a8.2.1 (fun j _ _ => f j (by omega)), a4.cg (fun j _ _ => f j (by omega)), a5.cg (fun j _ _ => f j (by omega)), h1, a7.cg (fun j _ => f j (by omega)), a8.cg (fun j _ _ => f j (by omega)), a9.cg (fun j _ _ => f j (by omega)), h3⟩
theorem J60_s {n K E : Nat} {u : MdV} {x1 x2 x3 x4 : Int32} (hK : Md_now u 128 = nI K) (hE : Md_now u 123 = nI E) (h39 : K ≤ 39) :
    F_X10_logs_J60 n u x1 x2 x3 x4 = some (setNow u (upd (upd (upd (upd (upd (upd (Md_now u) (129 + 4 * K) x1) (129 + 4 * K + 1) x2) (129 + 4 * K + 2) x3) (129 + 4 * K + 3) x4) 128 (nI (K + 1))) 123 (nI (E + 1)))) := by
  have c128 : (128 : Int32).toNatClampNeg = 128 := rfl
  have c123 : (123 : Int32).toNatClampNeg = 123 := rfl
  have k128 : ∀ {α : Type} {a : Option α}, chk 128 289 a = a := fun {α} {a} => chk_nI (j := 128) (by decide) (by decide)
  have k123 : ∀ {α : Type} {a : Option α}, chk 123 289 a = a := fun {α} {a} => chk_nI (j := 123) (by decide) (by decide)
  have i0 : (129 : Int32) + 4 * nI K = nI (129 + 4 * K) := by rw [lit, lit, pk_mul, nI_add]
  have l1 : nI (129 + 4 * K) + 1 = nI (129 + 4 * K + 1) := nI_1 _
  have l2 : nI (129 + 4 * K) + 2 = nI (129 + 4 * K + 2) := nI_add (129 + 4 * K) 2
  have l3 : nI (129 + 4 * K) + 3 = nI (129 + 4 * K + 3) := nI_add (129 + 4 * K) 3
  have v128 : upd (upd (upd (upd (Md_now u) (129 + 4 * K) x1) (129 + 4 * K + 1) x2) (129 + 4 * K + 2) x3) (129 + 4 * K + 3) x4 128 = nI K := by
    rw [upd_ne (by omega), upd_ne (by omega), upd_ne (by omega), upd_ne (by omega)]
    exact hK
  have v123 : upd (upd (upd (upd (upd (Md_now u) (129 + 4 * K) x1) (129 + 4 * K + 1) x2) (129 + 4 * K + 2) x3) (129 + 4 * K + 3) x4) 128 (nI (K + 1)) 123 = nI E := by
    rw [upd_ne (by omega), upd_ne (by omega), upd_ne (by omega), upd_ne (by omega), upd_ne (by omega)]
    exact hE
  unfold F_X10_logs_J60
  rw [c128, c123, hK, i0, l1, l2, l3, nI_clamp (by omega), nI_clamp (by omega), nI_clamp (by omega), nI_clamp (by omega), v128, nI_1, v123, nI_1, k128, k128, k128, k123, k123, chk_nI (by omega) (by decide), chk_nI (by omega) (by decide), chk_nI (by omega) (by decide), chk_nI (by omega) (by decide)]
  rfl
theorem slideL {n : Nat} {x1 x2 x3 x4 : Int32} : ∀ (m i k : Nat) (v : MdV), i + m = 285 → 129 ≤ i → m < k → ∃ w2, F_X10_logs_L18 n k v x1 x2 x3 x4 (nI i) = F_X10_logs_J60 n (setNow v (upd w2 128 (w2 128 - 1))) x1 x2 x3 x4 ∧ (∀ j, i ≤ j → j < 285 → w2 j = Md_now v (j + 4)) ∧ ∀ j, (j < i ∨ 285 ≤ j) → w2 j = Md_now v j := by
  intro m
  induction m with
  | zero =>
    intro i k v hi h9 hk
    obtain ⟨k, rfl⟩ : ∃ z, k = z + 1 := ⟨k - 1, by omega⟩
    have k128 : ∀ {α : Type} {a : Option α}, chk 128 289 a = a := fun {α} {a} => chk_nI (j := 128) (by decide) (by decide)
    refine ⟨Md_now v, ?_, fun j h1 h2 => by omega, fun j _ => rfl⟩
    rw [F_X10_logs_L18, if_pos (by rw [lit, nI_leI (by omega) (by omega)]; omega), k128, k128]
    rfl
  | succ m ih =>
    intro i k v hi h9 hk
    obtain ⟨k, rfl⟩ : ∃ z, k = z + 1 := ⟨k - 1, by omega⟩
    obtain ⟨w2, g1, g2, g3⟩ := ih (i + 1) k (setNow v (upd (Md_now v) i (Md_now v (i + 4)))) (by omega) (by omega) (by omega)
    have q : ∀ j, Md_now (setNow v (upd (Md_now v) i (Md_now v (i + 4)))) j = upd (Md_now v) i (Md_now v (i + 4)) j := fun j => rfl
    refine ⟨w2, ?_, ?_, ?_⟩
    · rw [F_X10_logs_L18, if_neg (by rw [lit, nI_leI (by omega) (by omega)]; omega), show (4 : Int32) = nI 4 from rfl, nI_add, chk_nI (by omega) (by omega), chk_nI (by omega) (by omega), nI_clamp (by omega), nI_clamp (by omega), nI_1]
      exact g1
    · intro j h1 h2
      by_cases e : j = i
      · subst e
        rw [g3 _ (by omega), q, upd_at]
      · rw [g2 j (by omega) h2, q, upd_ne (by omega)]
    · intro j hj
      rw [g3 j (by omega), q, upd_ne (by omega)]
/-- what the reference's log is after an entry: the rows moved, if it was full -/
theorem logs_m {n : Nat} {v : MdV} {A : Nat → Nat} {x1 x2 x3 x4 : Int32} (hn : 200 < n) (hw : nIf (Md_now v) A) (h8 : A 128 = min (A 123) 40) :
    ∃ (w2 : Nat → Int32) (K : Nat), F_X10_logs n v x1 x2 x3 x4 = some (setNow v w2) ∧ K + 1 = min (A 123 + 1) 40 ∧ w2 128 = nI (K + 1) ∧ w2 123 = nI (A 123 + 1) ∧ (∀ j, j < 128 → j ≠ 123 → w2 j = Md_now v j) ∧
      w2 (129 + 4 * K) = x1 ∧ w2 (129 + 4 * K + 1) = x2 ∧ w2 (129 + 4 * K + 2) = x3 ∧ w2 (129 + 4 * K + 3) = x4 ∧ ∀ p c, p < K → c < 4 → w2 (129 + 4 * p + c) = Md_now v (129 + 4 * (if A 128 = 40 then p + 1 else p) + c) := by
  have e128 : Md_now v 128 = nI (A 128) := hw 128 (by decide)
  have e123 : Md_now v 123 = nI (A 123) := hw 123 (by decide)
  have c128 : (128 : Int32).toNatClampNeg = 128 := rfl
  have k128 : ∀ {α : Type} {a : Option α}, chk 128 289 a = a := fun {α} {a} => chk_nI (j := 128) (by decide) (by decide)
  have wr : ∀ (wx : Nat → Int32) (K : Nat), K ≤ 39 → wx 128 = nI K → wx 123 = nI (A 123) → (∀ j, j < 128 → wx j = Md_now v j) →
      (upd (upd (upd (upd (upd (upd wx (129 + 4 * K) x1) (129 + 4 * K + 1) x2) (129 + 4 * K + 2) x3) (129 + 4 * K + 3) x4) 128 (nI (K + 1))) 123 (nI (A 123 + 1))) 128 = nI (K + 1) ∧
      (∀ j, j < 128 → j ≠ 123 → (upd (upd (upd (upd (upd (upd wx (129 + 4 * K) x1) (129 + 4 * K + 1) x2) (129 + 4 * K + 2) x3) (129 + 4 * K + 3) x4) 128 (nI (K + 1))) 123 (nI (A 123 + 1))) j = Md_now v j) ∧
      (upd (upd (upd (upd (upd (upd wx (129 + 4 * K) x1) (129 + 4 * K + 1) x2) (129 + 4 * K + 2) x3) (129 + 4 * K + 3) x4) 128 (nI (K + 1))) 123 (nI (A 123 + 1))) (129 + 4 * K) = x1 ∧
      (upd (upd (upd (upd (upd (upd wx (129 + 4 * K) x1) (129 + 4 * K + 1) x2) (129 + 4 * K + 2) x3) (129 + 4 * K + 3) x4) 128 (nI (K + 1))) 123 (nI (A 123 + 1))) (129 + 4 * K + 1) = x2 ∧
      (upd (upd (upd (upd (upd (upd wx (129 + 4 * K) x1) (129 + 4 * K + 1) x2) (129 + 4 * K + 2) x3) (129 + 4 * K + 3) x4) 128 (nI (K + 1))) 123 (nI (A 123 + 1))) (129 + 4 * K + 2) = x3 ∧
      (upd (upd (upd (upd (upd (upd wx (129 + 4 * K) x1) (129 + 4 * K + 1) x2) (129 + 4 * K + 2) x3) (129 + 4 * K + 3) x4) 128 (nI (K + 1))) 123 (nI (A 123 + 1))) (129 + 4 * K + 3) = x4 ∧
      ∀ p c, p < K → c < 4 → (upd (upd (upd (upd (upd (upd wx (129 + 4 * K) x1) (129 + 4 * K + 1) x2) (129 + 4 * K + 2) x3) (129 + 4 * K + 3) x4) 128 (nI (K + 1))) 123 (nI (A 123 + 1))) (129 + 4 * p + c) = wx (129 + 4 * p + c) := by
    intro wx K h39 h1 h2 h3
    refine ⟨?_, ?_, ?_, ?_, ?_, ?_, ?_⟩
    · rw [upd_ne (by omega), upd_at]
    · intro j hj hj2
      rw [upd_ne hj2, upd_ne (by omega), upd_ne (by omega), upd_ne (by omega), upd_ne (by omega), upd_ne (by omega)]
      exact h3 j hj
    · rw [upd_ne (by omega), upd_ne (by omega), upd_ne (by omega), upd_ne (by omega), upd_ne (by omega), upd_at]
    · rw [upd_ne (by omega), upd_ne (by omega), upd_ne (by omega), upd_ne (by omega), upd_at]
    · rw [upd_ne (by omega), upd_ne (by omega), upd_ne (by omega), upd_at]
    · rw [upd_ne (by omega), upd_ne (by omega), upd_at]
    · intro p c hp hc
      rw [upd_ne (by omega), upd_ne (by omega), upd_ne (by omega), upd_ne (by omega), upd_ne (by omega), upd_ne (by omega)]
  unfold F_X10_logs
  rw [k128, c128, e128]
  by_cases e : A 128 = 40
  · obtain ⟨ws, g1, g2, g3⟩ := slideL (n := n) (x1 := x1) (x2 := x2) (x3 := x3) (x4 := x4) 156 129 n v (by omega) (by omega) (by omega)
    have s128 : ws 128 = nI 40 := by rw [g3 128 (by omega), e128, e]
    have s128' : ws 128 - 1 = nI 39 := by rw [s128]; rfl
    have s1 : upd ws 128 (ws 128 - 1) 128 = nI 39 := by rw [upd_at, s128']
    have s2 : upd ws 128 (ws 128 - 1) 123 = nI (A 123) := by rw [upd_ne (by decide), g3 123 (by omega), e123]
    obtain ⟨f1, f2, f3, f4, f5, f6, f7⟩ := wr (upd ws 128 (ws 128 - 1)) 39 (by omega) s1 s2 (fun j hj => by rw [upd_ne (by omega), g3 j (by omega)])
    have L := J60_s (n := n) (u := setNow v (upd ws 128 (ws 128 - 1))) (x1 := x1) (x2 := x2) (x3 := x3) (x4 := x4) s1 s2 (by omega)
    refine ⟨_, 39, ?_, by omega, f1, upd_at, f2, f3, f4, f5, f6, fun p c hp hc => ?_⟩
    · rw [if_pos (show nI (A 128) = 40 by rw [e]; rfl)]
      exact (show F_X10_logs_L18 n n v x1 x2 x3 x4 129 = _ from g1).trans L
    · rw [f7 p c hp hc, if_pos e, upd_ne (by omega), g2 _ (by omega) (by omega)]
      congr 1
      omega
  · have h39 : A 128 ≤ 39 := by omega
    have n40 : ¬ nI (A 128) = 40 := fun z => e ((nI_eq (b := 40) (by omega) (by omega)).mp z)
    obtain ⟨f1, f2, f3, f4, f5, f6, f7⟩ := wr (Md_now v) (A 128) h39 e128 e123 (fun j _ => rfl)
    refine ⟨_, A 128, ?_, by omega, f1, upd_at, f2, f3, f4, f5, f6, fun p c hp hc => ?_⟩
    · rw [if_neg n40]
      exact J60_s e128 e123 h39
    · rw [f7 p c hp hc, if_neg e]
theorem add_s {n : Nat} {l : LoV} {v : MdV} {A : Nat → Nat} {x1 x2 x3 pas : Int32} (hn : 200 < n) (h : RLo l (Md_now v) A) (hw : nIf (Md_now v) A) (h8 : A 128 = min (A 123) 40) (hE : A 123 < 2 ^ 30) (hp : Lo_passages l - 1 = pas) :
    ∃ (l2 : LoV) (w2 : Nat → Int32), F_X6_add l x1 x2 x3 = some l2 ∧ F_X10_logs n v x1 x2 x3 pas = some (setNow v w2) ∧ RLo l2 w2 (sA (sA A 128 (min (A 123 + 1) 40)) 123 (A 123 + 1)) ∧ nIf w2 (sA (sA A 128 (min (A 123 + 1) 40)) 123 (A 123 + 1)) := by
  obtain ⟨r1, r2, r3, r4⟩ := h
  obtain ⟨w2, K, g1, g2, g3, g4, g5, g6, g7, g8, g9, g10⟩ := logs_m (n := n) (x1 := x1) (x2 := x2) (x3 := x3) (x4 := pas) hn hw h8
  have hm : A 123 % 40 < 40 := Nat.mod_lt _ (by decide)
  have er : Lo_entries l - Lo_entries l / 40 * 40 = nI (A 123 % 40) := by
    rw [r2, lit]
    exact pk_rem (by omega) (by decide) (by decide)
  have a128 : sA (sA A 128 (min (A 123 + 1) 40)) 123 (A 123 + 1) 128 = K + 1 := by rw [sA_ne (by omega), sA_at, g2]
  have a123 : sA (sA A 128 (min (A 123 + 1) 40)) 123 (A 123 + 1) 123 = A 123 + 1 := sA_at
  have aO : ∀ j, j ≠ 128 → j ≠ 123 → sA (sA A 128 (min (A 123 + 1) 40)) 123 (A 123 + 1) j = A j := fun j z1 z2 => by rw [sA_ne z2, sA_ne z1]
  refine ⟨Lo_mk (upd (Lo_ticks l) (A 123 % 40) x1) (upd (Lo_colors l) (A 123 % 40) x2) (upd (Lo_directions l) (A 123 % 40) x3) (upd (Lo_numbers l) (A 123 % 40) pas) (Lo_shown l) (Lo_passages l) (nI (A 123 + 1)), w2, ?_, g1, ⟨?_, ?_, ?_, ?_⟩, ?_⟩
  · unfold F_X6_add
    rw [er, if_pos (nI_pos' (by omega)), chk_nI hm (by decide), chk_nI hm (by decide), chk_nI hm (by decide), chk_nI hm (by decide), nI_clamp (by omega), hp, r2, nI_1]
  · rw [aO 122 (by decide) (by decide)]
    exact r1
  · rw [a123]
  · intro j hj
    rw [aO _ (by omega) (by omega)]
    exact r3 j hj
  · intro i hi
    rw [a128] at hi ⊢
    rw [a123, show A 123 + 1 - 1 - i = A 123 - i by omega]
    by_cases i0 : i = 0
    · subst i0
      rw [Nat.sub_zero, show K + 1 - 1 - 0 = K by omega, g6, g7, g8, g9]
      exact ⟨upd_at, upd_at, upd_at, upd_at⟩
    · have ne : (A 123 - i) % 40 ≠ A 123 % 40 := by omega
      have old := r4 (i - 1) (by omega)
      rw [show A 123 - 1 - (i - 1) = A 123 - i by omega] at old
      have pos : ∀ c, c < 4 → w2 (129 + 4 * (K + 1 - 1 - i) + c) = Md_now v (129 + 4 * (A 128 - 1 - (i - 1)) + c) := by
        intro c hc
        rw [g10 _ c (by omega) hc]
        congr 1
        split <;> omega
      have p0 := pos 0 (by decide)
      rw [Nat.add_zero, Nat.add_zero] at p0
      rw [p0, pos 1 (by decide), pos 2 (by decide), pos 3 (by decide)]
      refine ⟨?_, ?_, ?_, ?_⟩
      · show upd _ _ _ _ = _
        rw [upd_ne ne]; exact old.1
      · show upd _ _ _ _ = _
        rw [upd_ne ne]; exact old.2.1
      · show upd _ _ _ _ = _
        rw [upd_ne ne]; exact old.2.2.1
      · show upd _ _ _ _ = _
        rw [upd_ne ne]; exact old.2.2.2
  · intro j hj
    by_cases e1 : j = 128
    · rw [e1, a128, g3]
    · by_cases e2 : j = 123
      · rw [e2, a123, g4]
      · rw [aO j e1 e2, g5 j (by omega) e2]
        exact hw j hj
theorem addShown_c {l : LoV} {c : Nat} (hc : c ≤ 3) : F_X6_addShown l (nI c) = some (Lo_mk (Lo_ticks l) (Lo_colors l) (Lo_directions l) (Lo_numbers l) (upd (Lo_shown l) c (Lo_shown l c + 1)) (Lo_passages l) (Lo_entries l)) := by
  unfold F_X6_addShown
  rw [if_neg (nI_pos (by omega)), if_neg (by rw [lit, nI_leI (by omega) (by omega)]; omega), chk_nI (by omega) (by decide), chk_nI (by omega) (by decide), nI_clamp (by omega)]
theorem RLo_shown {l : LoV} {w : Nat → Int32} {A : Nat → Nat} {c : Nat} (h : RLo l w A) (h40 : A 128 ≤ 40) (hc : c ≤ 3) : RLo (Lo_mk (Lo_ticks l) (Lo_colors l) (Lo_directions l) (Lo_numbers l) (upd (Lo_shown l) c (Lo_shown l c + 1)) (Lo_passages l) (Lo_entries l)) (upd w (124 + c) (nI (A (124 + c) + 1))) (sA A (124 + c) (A (124 + c) + 1)) := by
  obtain ⟨r1, r2, r3, r4⟩ := h
  have aO : ∀ j, j ≠ 124 + c → sA A (124 + c) (A (124 + c) + 1) j = A j := fun j z => sA_ne z
  refine ⟨?_, ?_, ?_, ?_⟩
  · rw [aO _ (by omega)]; exact r1
  · rw [aO _ (by omega)]; exact r2
  · intro j hj
    show upd _ _ _ _ = _
    by_cases e : j = c
    · rw [e, upd_at, sA_at, r3 c (by omega), nI_1]
    · rw [upd_ne e, aO _ (by omega)]
      exact r3 j hj
  · intro i hi
    rw [aO 128 (by omega)] at hi ⊢
    rw [aO 123 (by omega), upd_ne (by omega), upd_ne (by omega), upd_ne (by omega), upd_ne (by omega)]
    exact r4 i hi
theorem op_entry {u : HLV} {v : MdV} (h : R u v) (x y : Int32) : ∃ a, F_X9_entry u x y = some a ∧ F_X10_entry v x y = some a := by
  have q0 : ¬ (1 : Int32) = 0 := by decide
  obtain ⟨⟨A, hA, _⟩, _⟩ := h
  obtain ⟨a1, a2, a3, a4, a5, a6, a7, a8, a9, a10⟩ := hA
  have t7 := a10.2.2.2.2.2.2
  have t4 := a10.2.2.2.2.1
  have t0 := a10.1
  obtain ⟨r1, r2, r3, r4⟩ := a6
  have k128 : ∀ {α : Type} {a : Option α}, chk 128 289 a = a := fun {α} {a} => chk_nI (j := 128) (by decide) (by decide)
  have c128 : (128 : Int32).toNatClampNeg = 128 := rfl
  have kp : F_X6_kept (St_Lo (HL_now u)) = some (nI (A 128)) := by
    unfold F_X6_kept
    rw [r2, show (40 : Int32) = nI 40 from rfl, t7]
    by_cases c : A 123 < 40
    · rw [if_neg (nI_nlE c (by omega)), Nat.min_eq_left (by omega)]
    · rw [if_pos (nI_le (by omega) (by omega)), Nat.min_eq_right (by omega)]
  unfold F_X9_entry F_X10_entry
  rw [out_s, wi_s, bnd_some, bnd_some, kp, bnd_some, k128, k128, c128, a1 128 (by decide)]
  by_cases e : x < 0
  · rw [if_pos e, if_pos e]
    exact ⟨-1, rfl, rfl⟩
  rw [if_neg e, if_neg e]
  rcases arg_n (x := y) (lo := 0) (hi := 3) 0 3 rfl rfl (by decide) (by decide) with q | ⟨w, _, hw, rfl, q⟩
  · rw [if_pos q, if_pos q]
    exact ⟨-1, rfl, rfl⟩
  rw [if_neg q, if_neg q, if_pos rfl, if_neg q0]
  have e' : 0 ≤ x := Int32.not_lt.mp e
  obtain ⟨i, hi, rfl⟩ : ∃ s : Nat, s < 2 ^ 31 ∧ x = nI s := by
    refine ⟨x.toInt.toNat, ?_, ?_⟩
    · have := x.toInt_lt; omega
    · rw [Int32.le_iff_toInt_le] at e'
      rw [zI_nI, show ((x.toInt.toNat : Nat) : Int) = x.toInt by have : (0 : Int32).toInt = 0 := rfl; omega]
      exact zI_of x
  by_cases c : i < A 128
  · have hm : (A 123 - 1 - i) % 40 < 40 := Nat.mod_lt _ (by decide)
    have er : (((nI (A 123)) - 1) - nI i) - (((nI (A 123)) - 1) - nI i) / 40 * 40 = nI ((A 123 - 1 - i) % 40) := by
      rw [show nI (A 123) - 1 = nI (A 123 - 1) from pk_sub (a := A 123) (b := 1) (by omega), pk_sub (by omega), lit]
      exact pk_rem (by omega) (by decide) (by decide)
    have i1 : ((129 : Int32) + (4 * ((nI (A 128) - 1) - nI i))) + nI w = nI (129 + 4 * (A 128 - 1 - i) + w) := by
      rw [show nI (A 128) - 1 = nI (A 128 - 1) from pk_sub (a := A 128) (b := 1) (by omega), pk_sub (by omega), lit, lit, pk_mul, nI_add, nI_add]
    obtain ⟨o1, o2, o3, o4⟩ := r4 i c
    rw [if_pos (nI_lt c (by omega)), if_pos (nI_lt c (by omega)), i1, chk_nI (by omega) (by decide), nI_clamp (by omega)]
    unfold F_X6_valueOf
    rw [r2, er, if_pos (nI_pos' (by omega)), chk_nI hm (by decide), chk_nI hm (by decide), chk_nI hm (by decide), chk_nI hm (by decide), nI_clamp (by omega), o1, o2, o3, o4]
    rcases (show w = 0 ∨ w = 1 ∨ w = 2 ∨ w = 3 by omega) with rfl | rfl | rfl | rfl <;> exact ⟨_, rfl, rfl⟩
  · rw [if_neg (nI_nlt (by omega) (by omega)), if_neg (nI_nlt (by omega) (by omega))]
    exact ⟨-4, rfl, rfl⟩
theorem op_seen {u : HLV} {v : MdV} (h : R u v) (x : Int32) : ∃ a, F_X9_seen u x = some a ∧ F_X10_seen v x = some a := by
  have q0 : ¬ (1 : Int32) = 0 := by decide
  obtain ⟨⟨A, hA, _⟩, _⟩ := h
  obtain ⟨a1, a2, a3, a4, a5, ⟨r1, r2, r3, r4⟩, a7, a8, a9, a10⟩ := hA
  have k122 : ∀ {α : Type} {a : Option α}, chk 122 289 a = a := fun {α} {a} => chk_nI (j := 122) (by decide) (by decide)
  have c122 : (122 : Int32).toNatClampNeg = 122 := rfl
  unfold F_X9_seen F_X10_seen
  rw [out_s, wi_s, bnd_some, bnd_some, k122, c122, a1 122 (by decide), r1]
  rcases arg_n (x := x) (lo := 0) (hi := 3) 0 3 rfl rfl (by decide) (by decide) with q | ⟨c, _, hc, rfl, q⟩
  · rw [if_pos q, if_pos q]
    exact ⟨-1, rfl, rfl⟩
  rw [if_neg q, if_neg q, if_pos rfl, if_neg q0]
  have sh : F_X6_shownTicks (St_Lo (HL_now u)) (nI c) = some (nI (A (124 + c))) := by
    unfold F_X6_shownTicks
    rw [if_neg (nI_pos (by omega)), if_neg (by rw [lit, nI_leI (by omega) (by omega)]; omega), chk_nI (by omega) (by decide), nI_clamp (by omega), r3 c (by omega)]
  have i1 : (124 : Int32) + nI c = nI (124 + c) := by rw [lit, nI_add]
  rw [sh, i1, chk_nI (by omega) (by decide), nI_clamp (by omega), a1 _ (by omega), bnd_some]
  exact both (by split <;> rfl)
