/-! TICKS: one tick -/
theorem whatA_in (A : Nat → Nat) : 1 ≤ whatA A ∧ whatA A ≤ 4 := by
  unfold whatA
  repeat' split
  all_goals omega
def dA (A : Nat → Nat) : Nat := if whatA A = 3 then 1 else 0
def eA (A : Nat → Nat) : Nat := if whatA A = 1 ∨ (whatA A = 2 ∧ A 81 = 1 ∧ A 116 % 4 = 0) then 1 else 0
def tickA (A : Nat → Nat) : Nat → Nat := sA (sA (sA (sA A 113 (A 113 - dA A)) (86 + 5 * A 112) (A (86 + 5 * A 112) + eA A)) (116 + whatA A) (A (116 + whatA A) + 1)) 116 (A 116 + 1)
theorem whatA_3 (A : Nat → Nat) : whatA A = 3 ↔ 0 < A 113 := by
  unfold whatA
  by_cases e : 0 < A 113
  · rw [if_pos e]; exact ⟨fun _ => e, fun _ => rfl⟩
  · rw [if_neg e]
    by_cases g : goodA A (A 112) = 0
    · rw [if_pos g]; omega
    · rw [if_neg g]
      by_cases l : litA A (A 116) = true
      · rw [if_pos l]; omega
      · rw [if_neg l]; omega
theorem whatA_12 {A : Nat → Nat} (h : whatA A = 1 ∨ whatA A = 2) : goodA A (A 112) = 1 := by
  rcases goodA_in A (A 112) with g | g
  · unfold whatA at h
    by_cases e : 0 < A 113
    · rw [if_pos e] at h; omega
    · rw [if_neg e, if_pos g] at h; omega
  · exact g
theorem dA_in (A : Nat → Nat) : dA A ≤ 1 ∧ (dA A = 1 → 1 ≤ A 113) := by
  unfold dA
  by_cases e : whatA A = 3
  · have := (whatA_3 A).mp e
    rw [if_pos e]
    omega
  · rw [if_neg e]
    omega
theorem eA_in (A : Nat → Nat) : eA A ≤ 1 ∧ (eA A = 1 → goodA A (A 112) = 1) := by
  unfold eA
  by_cases c : whatA A = 1 ∨ (whatA A = 2 ∧ A 81 = 1 ∧ A 116 % 4 = 0)
  · rw [if_pos c]
    exact ⟨Nat.le_refl _, fun _ => whatA_12 (c.imp id And.left)⟩
  · rw [if_neg c]
    omega
theorem J85_s {n : Nat} {u : MdV} {x w a e B T : Nat} (hx : 1 ≤ x) (hx2 : x ≤ 4) (hw : w < 116) (hB : Md_now u (116 + x) = nI B) (hT : Md_now u 116 = nI T) : F_X10_ticks_J85 n u (nI x) (nI w) (nI a) (nI e) = some (nI x, setNow u (upd (upd (upd (Md_now u) w (nI (a + e))) (116 + x) (nI (B + 1))) 116 (nI (T + 1)))) := by
  have c116 : (116 : Int32).toNatClampNeg = 116 := rfl
  have k116 : ∀ {α : Type} {a : Option α}, chk 116 289 a = a := fun {α} {a} => chk_nI (j := 116) (by decide) (by decide)
  have i1 : (116 : Int32) + nI x = nI (116 + x) := by rw [lit, nI_add]
  have x1 : upd (Md_now u) w (nI (a + e)) (116 + x) = nI B := by rw [upd_ne (by omega), hB]
  have x2 : upd (upd (Md_now u) w (nI (a + e))) (116 + x) (nI (B + 1)) 116 = nI T := by rw [upd_ne (by omega), upd_ne (by omega), hT]
  unfold F_X10_ticks_J85
  rw [c116, k116, k116, i1, nI_add, chk_nI (by omega) (by decide), chk_nI (by omega) (by decide), chk_nI (by omega) (by decide), nI_clamp (by omega), nI_clamp (by omega), x1, nI_1, x2, nI_1]
  rfl
theorem ticks_m {n : Nat} {v : MdV} {w1 : Nat → Int32} {A : Nat → Nat} (hl : F_X10_looks n v = some (nI (whatA A), setNow v w1)) (hw : nIf w1 A) (hI : ICh A) (ht : A 116 < 2 ^ 31) :
    ∃ w2, F_X10_ticks n v = some (nI (whatA A), setNow v w2) ∧ nIf w2 (tickA A) ∧ ∀ j, j ≠ 113 → j ≠ 86 + 5 * A 112 → j ≠ 116 → j ≠ 116 + whatA A → w2 j = w1 j := by
  have hwh := whatA_in A
  have h5 := hI.2.1
  have h81 := hI.1
  have hL := hI.2.2.1
  obtain ⟨d1, d2⟩ := dA_in A
  have e112 : w1 112 = nI (A 112) := hw 112 (by omega)
  have e113 : w1 113 = nI (A 113) := hw 113 (by omega)
  have e116 : w1 116 = nI (A 116) := hw 116 (by omega)
  have e81 : w1 81 = nI (A 81) := hw 81 (by omega)
  have c112 : (112 : Int32).toNatClampNeg = 112 := rfl
  have c113 : (113 : Int32).toNatClampNeg = 113 := rfl
  have c116 : (116 : Int32).toNatClampNeg = 116 := rfl
  have c81 : (81 : Int32).toNatClampNeg = 81 := rfl
  have k81 : ∀ {α : Type} {a : Option α}, chk 81 289 a = a := fun {α} {a} => chk_nI (j := 81) (by decide) (by decide)
  have k112 : ∀ {α : Type} {a : Option α}, chk 112 289 a = a := fun {α} {a} => chk_nI (j := 112) (by decide) (by decide)
  have k113 : ∀ {α : Type} {a : Option α}, chk 113 289 a = a := fun {α} {a} => chk_nI (j := 113) (by decide) (by decide)
  have k116 : ∀ {α : Type} {a : Option α}, chk 116 289 a = a := fun {α} {a} => chk_nI (j := 116) (by decide) (by decide)
  let wa := upd w1 113 (nI (A 113 - dA A))
  let w2 := upd (upd (upd wa (86 + 5 * A 112) (nI (A (86 + 5 * A 112) + eA A))) (116 + whatA A) (nI (A (116 + whatA A) + 1))) 116 (nI (A 116 + 1))
  have ub : ∀ j, j ≠ 113 → wa j = w1 j := fun j hj => upd_ne hj
  have J85 : F_X10_ticks_J85 n (setNow v wa) (nI (whatA A)) (nI (86 + 5 * A 112)) (nI (A (86 + 5 * A 112))) (nI (eA A)) = some (nI (whatA A), setNow v w2) :=
    J85_s (u := setNow v wa) (B := A (116 + whatA A)) (T := A 116) hwh.1 hwh.2 (by omega) ((ub _ (by omega)).trans (hw _ (by omega))) ((ub _ (by omega)).trans e116)
  have iU : ((82 : Int32) + 5 * nI (A 112)) + 4 = nI (86 + 5 * A 112) := by
    rw [lit 82, lit 5, lit 4, pk_mul, nI_add, nI_add]
    congr 1
    show 82 + 5 * A 112 + 4 = _
    omega
  have xU : upd w1 113 (nI (A 113 - dA A)) (86 + 5 * A 112) = nI (A (86 + 5 * A 112)) := (ub _ (by omega)).trans (hw _ (by omega))
  have x81 : upd w1 113 (nI (A 113 - dA A)) 81 = nI (A 81) := (ub _ (by omega)).trans e81
  have x116 : upd w1 113 (nI (A 113 - dA A)) 116 = nI (A 116) := (ub _ (by omega)).trans e116
  have J38 : F_X10_ticks_J38 n (setNow v w1) (nI (whatA A)) (nI (86 + 5 * A 112)) 113 (nI (A 113)) (nI (dA A)) = some (nI (whatA A), setNow v w2) := by
    have r4 : nI (A 116) - nI (A 116) / 4 * 4 = nI (A 116 % 4) := by rw [lit]; exact pk_rem ht (by decide) (by decide)
    have sb : nI (A 113) - nI (dA A) = nI (A 113 - dA A) := by
      have : dA A ≤ A 113 := by
        rcases Nat.lt_or_ge (dA A) 1 with q | q
        · omega
        · have := d2 (by omega); omega
      exact pk_sub this
    unfold F_X10_ticks_J38 F_X10_ticks_J80 F_X10_ticks_J84
    show chk 113 289 (chk (nI (86 + 5 * A 112)) 289 (if nI (whatA A) = 1 then F_X10_ticks_J85 n (setNow v (upd w1 (113 : Int32).toNatClampNeg (nI (A 113) - nI (dA A)))) (nI (whatA A)) (nI (86 + 5 * A 112)) (upd w1 (113 : Int32).toNatClampNeg (nI (A 113) - nI (dA A)) (nI (86 + 5 * A 112)).toNatClampNeg) 1
      else if nI (whatA A) = 2 then chk 81 289 (if (upd w1 (113 : Int32).toNatClampNeg (nI (A 113) - nI (dA A)) (81 : Int32).toNatClampNeg) = 1 then chk 116 289 (if ((upd w1 (113 : Int32).toNatClampNeg (nI (A 113) - nI (dA A)) (116 : Int32).toNatClampNeg) - (upd w1 (113 : Int32).toNatClampNeg (nI (A 113) - nI (dA A)) (116 : Int32).toNatClampNeg) / 4 * 4) = 0 then F_X10_ticks_J85 n (setNow v (upd w1 (113 : Int32).toNatClampNeg (nI (A 113) - nI (dA A)))) (nI (whatA A)) (nI (86 + 5 * A 112)) (upd w1 (113 : Int32).toNatClampNeg (nI (A 113) - nI (dA A)) (nI (86 + 5 * A 112)).toNatClampNeg) 1 else F_X10_ticks_J85 n (setNow v (upd w1 (113 : Int32).toNatClampNeg (nI (A 113) - nI (dA A)))) (nI (whatA A)) (nI (86 + 5 * A 112)) (upd w1 (113 : Int32).toNatClampNeg (nI (A 113) - nI (dA A)) (nI (86 + 5 * A 112)).toNatClampNeg) 0) else F_X10_ticks_J85 n (setNow v (upd w1 (113 : Int32).toNatClampNeg (nI (A 113) - nI (dA A)))) (nI (whatA A)) (nI (86 + 5 * A 112)) (upd w1 (113 : Int32).toNatClampNeg (nI (A 113) - nI (dA A)) (nI (86 + 5 * A 112)).toNatClampNeg) 0)
      else F_X10_ticks_J85 n (setNow v (upd w1 (113 : Int32).toNatClampNeg (nI (A 113) - nI (dA A)))) (nI (whatA A)) (nI (86 + 5 * A 112)) (upd w1 (113 : Int32).toNatClampNeg (nI (A 113) - nI (dA A)) (nI (86 + 5 * A 112)).toNatClampNeg) 0)) = _
    rw [k113, k81, k116, chk_nI (by omega) (by decide), c113, c81, c116, nI_clamp (by omega), sb, xU, x81, x116, r4, show (1 : Int32) = nI 1 from rfl, show (0 : Int32) = nI 0 from rfl, show (2 : Int32) = nI 2 from rfl]
    have key : ∀ e, e = eA A → F_X10_ticks_J85 n (setNow v (upd w1 113 (nI (A 113 - dA A)))) (nI (whatA A)) (nI (86 + 5 * A 112)) (nI (A (86 + 5 * A 112))) (nI e) = some (nI (whatA A), setNow v w2) := fun e he => by rw [he]; exact J85
    by_cases q1 : whatA A = 1
    · rw [if_pos (by rw [q1])]
      exact key 1 (by unfold eA; rw [if_pos (Or.inl q1)])
    · have q1' : ¬ nI (whatA A) = nI 1 := by rw [nI_eq (by omega) (by omega)]; exact q1
      rw [if_neg q1']
      by_cases q2 : whatA A = 2
      · rw [if_pos (by rw [q2])]
        by_cases q3 : A 81 = 1
        · rw [if_pos (by rw [q3])]
          by_cases q4 : A 116 % 4 = 0
          · rw [if_pos (by rw [q4])]
            exact key 1 (by unfold eA; rw [if_pos (Or.inr ⟨q2, q3, q4⟩)])
          · have q4' : ¬ nI (A 116 % 4) = nI 0 := by rw [nI_eq (by omega) (by omega)]; exact q4
            rw [if_neg q4']
            exact key 0 (by unfold eA; rw [if_neg (by omega)])
        · have q3' : ¬ nI (A 81) = nI 1 := by rw [nI_eq (by omega) (by omega)]; exact q3
          rw [if_neg q3']
          exact key 0 (by unfold eA; rw [if_neg (by omega)])
      · have q2' : ¬ nI (whatA A) = nI 2 := by rw [nI_eq (by omega) (by omega)]; exact q2
        rw [if_neg q2']
        exact key 0 (by unfold eA; rw [if_neg (by omega)])
  refine ⟨w2, ?_, ?_, ?_⟩
  · unfold F_X10_ticks
    rw [hl, bnd_some]
    show chk 112 289 (chk 113 289 (if nI (whatA A) = 3 then F_X10_ticks_J38 n (setNow v w1) (nI (whatA A)) ((82 + (5 * (w1 (112 : Int32).toNatClampNeg))) + 4) 113 (w1 (113 : Int32).toNatClampNeg) 1 else F_X10_ticks_J38 n (setNow v w1) (nI (whatA A)) ((82 + (5 * (w1 (112 : Int32).toNatClampNeg))) + 4) 113 (w1 (113 : Int32).toNatClampNeg) 0)) = _
    rw [k112, k113, c112, c113, e112, e113, iU]
    by_cases q3 : whatA A = 3
    · have hd : dA A = 1 := by unfold dA; rw [if_pos q3]
      rw [hd] at J38
      rw [if_pos (by rw [q3]; rfl)]
      exact J38
    · have hd : dA A = 0 := by unfold dA; rw [if_neg q3]
      rw [hd] at J38
      have : ¬ nI (whatA A) = 3 := fun z => q3 ((nI_eq (b := 3) (by omega) (by omega)).mp z)
      rw [if_neg this]
      exact J38
  · exact (((hw.upd _ _).upd _ _).upd _ _).upd _ _
  · intro j h1 h2 h3 h4
    show upd _ _ _ _ = _
    rw [upd_ne h3, upd_ne h4, upd_ne h2]
    exact ub j h1
theorem tickA_out {A : Nat → Nat} {j : Nat} (h1 : j ≠ 113) (h2 : j ≠ 86 + 5 * A 112) (h3 : j ≠ 116) (h4 : j ≠ 116 + whatA A) : tickA A j = A j := by
  unfold tickA
  rw [sA_ne h3, sA_ne h4, sA_ne h2, sA_ne h1]
theorem tickA_at {A : Nat → Nat} (h : A 112 ≤ 5) : tickA A 113 = A 113 - dA A ∧ tickA A (86 + 5 * A 112) = A (86 + 5 * A 112) + eA A ∧ tickA A 116 = A 116 + 1 ∧ tickA A (116 + whatA A) = A (116 + whatA A) + 1 := by
  have := whatA_in A
  unfold tickA
  refine ⟨?_, ?_, sA_at, ?_⟩
  · rw [sA_ne (by omega), sA_ne (by omega), sA_ne (by omega), sA_at]
  · rw [sA_ne (by omega), sA_ne (by omega), sA_at]
  · rw [sA_ne (by omega), sA_at]
theorem goodA_lt {A : Nat → Nat} {p : Nat} (h : goodA A p = 1) : A (82 + 5 * p) = 1 ∧ A (86 + 5 * p) < A (85 + 5 * p) := by
  unfold goodA at h
  split at h
  · assumption
  · omega
theorem ICh_tick {A : Nat → Nat} (hI : ICh A) : ICh (tickA A) := by
  have hw := whatA_in A
  obtain ⟨e1, e2⟩ := eA_in A
  have hI' := hI
  obtain ⟨r1, r2, r3, r4, r5, r6, r7⟩ := hI'
  obtain ⟨t1, t2, t3, t4⟩ := tickA_at (A := A) r2
  have b1 : tickA A 81 = A 81 := tickA_out (by omega) (by omega) (by omega) (by omega)
  have b2 : tickA A 112 = A 112 := tickA_out (by omega) (by omega) (by omega) (by omega)
  have b3 : tickA A 114 = A 114 := tickA_out (by omega) (by omega) (by omega) (by omega)
  have b4 : tickA A 115 = A 115 := tickA_out (by omega) (by omega) (by omega) (by omega)
  refine ⟨by omega, by omega, by omega, by omega, by omega, by omega, ?_⟩
  intro p hp
  by_cases e : p = A 112
  · have q1 : tickA A (82 + 5 * p) = A (82 + 5 * p) := tickA_out (by omega) (by omega) (by omega) (by omega)
    have q2 : tickA A (83 + 5 * p) = A (83 + 5 * p) := tickA_out (by omega) (by omega) (by omega) (by omega)
    have q3 : tickA A (84 + 5 * p) = A (84 + 5 * p) := tickA_out (by omega) (by omega) (by omega) (by omega)
    have q4 : tickA A (85 + 5 * p) = A (85 + 5 * p) := tickA_out (by omega) (by omega) (by omega) (by omega)
    have q5 : tickA A (86 + 5 * p) = A (86 + 5 * p) + eA A := by rw [e]; exact t2
    have := hI.has hp
    unfold lampIn
    rw [q1, q2, q3, q4, q5, b1]
    have z := r7 p hp
    unfold lampIn at z
    by_cases e0 : eA A = 1
    · have g := goodA_lt (e2 e0)
      rw [← e] at g
      omega
    · omega
  · exact (r7 p hp).cg hp (fun j _ _ => tickA_out (by omega) (by omega) (by omega) (by omega)) b1
