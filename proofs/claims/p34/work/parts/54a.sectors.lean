/-! SECTORS: together they are the circle -/
/-- how many begins stand before j -/
def cB (A : Nat → Nat) : Nat → Nat
  | 0 => 0
  | j + 1 => cB A j + (if beg A j = true then 1 else 0)
theorem cB_up (A : Nat → Nat) (j : Nat) : ∀ d, cB A j ≤ cB A (j + d) := by
  intro d
  induction d with
  | zero => exact Nat.le_refl _
  | succ d ih =>
    show cB A j ≤ cB A (j + d) + _
    omega
theorem cB_mono {A : Nat → Nat} {j j' : Nat} (h : j ≤ j') : cB A j ≤ cB A j' := by
  have := cB_up A j (j' - j)
  rw [show j + (j' - j) = j' by omega] at this
  exact this
theorem cB_beg {A : Nat → Nat} {j j' : Nat} (h : beg A j = true) (hj : j < j') : cB A j + 1 ≤ cB A j' := by
  have h1 : cB A (j + 1) = cB A j + 1 := by
    show cB A j + (if beg A j = true then 1 else 0) = _
    rw [if_pos h]
  have := cB_mono (A := A) (j := j + 1) (j' := j') hj
  omega
theorem cntB_cB (A : Nat → Nat) : ∀ m i, cB A i + cntB A m i = cB A (i + m) := by
  intro m
  induction m with
  | zero => intro i; rfl
  | succ m ih =>
    intro i
    have := ih (i + 1)
    rw [cntB, show i + (m + 1) = i + 1 + m by omega, ← this]
    show _ = cB A i + (if beg A i = true then 1 else 0) + _
    omega
theorem fndB_some (A : Nat → Nat) : ∀ m i t j, fndB A m i t = some j → i ≤ j ∧ j < i + m ∧ beg A j = true ∧ cB A j = cB A i + t := by
  intro m
  induction m with
  | zero => intro i t j h; cases h
  | succ m ih =>
    intro i t j h
    unfold fndB at h
    have up : cB A (i + 1) = cB A i + (if beg A i = true then 1 else 0) := rfl
    by_cases e : beg A i = true
    · rw [if_pos e] at h up
      by_cases e2 : t = 0
      · rw [if_pos e2] at h
        cases h
        exact ⟨Nat.le_refl _, by omega, e, by omega⟩
      · rw [if_neg e2] at h
        obtain ⟨a, b, c, d⟩ := ih _ _ _ h
        exact ⟨by omega, by omega, c, by omega⟩
    · rw [if_neg e] at h up
      obtain ⟨a, b, c, d⟩ := ih _ _ _ h
      exact ⟨by omega, by omega, c, by omega⟩
/-- the begin of a sector -/
def sb (A : Nat → Nat) (s : Nat) : Nat := match fndB A 64 0 s with
  | some j => j
  | none => 0
theorem nb_of {A : Nat → Nat} {j : Nat} (h : ¬ beg A j = true) : A j = A ((j + 63) % 64) := by
  unfold beg at h
  simpa using h
theorem beg_of {A : Nat → Nat} {j : Nat} (h : beg A j = true) : A j ≠ A ((j + 63) % 64) := by
  unfold beg at h
  simpa using h
theorem same_run {A : Nat → Nat} {b d : Nat} (hb : b < 64) (h : ∀ x, 0 < x → x < d → ¬ beg A ((b + x) % 64) = true) : ∀ x, x < d → A ((b + x) % 64) = A b := by
  intro x
  induction x with
  | zero => intro _; rw [Nat.add_zero, Nat.mod_eq_of_lt hb]
  | succ x ih =>
    intro hx
    have e := nb_of (h (x + 1) (by omega) hx)
    rw [e, show ((b + (x + 1)) % 64 + 63) % 64 = (b + x) % 64 by omega]
    exact ih (by omega)
theorem lenF_is {A : Nat → Nat} {b d : Nat} (h1 : ∀ x, x < d → A ((b + x) % 64) = A b) : ∀ m x, x ≤ d → d ≤ x + m → (d < x + m → A ((b + d) % 64) ≠ A b) → lenF A b m x = d := by
  intro m
  induction m with
  | zero => intro x a c _; unfold lenF; omega
  | succ m ih =>
    intro x a c h2
    unfold lenF
    by_cases e : x < d
    · rw [if_pos (h1 x e)]
      exact ih (x + 1) (by omega) (by omega) (fun z => h2 (by omega))
    · have : x = d := by omega
      subst this
      rw [if_neg (h2 (by omega))]
/-- what is said of N sectors, the begins b, the lengths d -/
def Sec (A : Nat → Nat) (N : Nat) (b d : Nat → Nat) : Prop :=
  1 ≤ N ∧ N ≤ 64 ∧ (∀ s, s < N → b s < 64 ∧ 1 ≤ d s ∧ d s ≤ 64 ∧ A ((b s + d s - 1) % 64) = A (b s) ∧ (N ≠ 1 → A ((b s + d s) % 64) ≠ A (b s))) ∧ (∀ s, s + 1 < N → b s < b (s + 1) ∧ d s = b (s + 1) - b s) ∧ d (N - 1) = b 0 + 64 - b (N - 1)
theorem sec_all (A : Nat → Nat) : Sec A (nSec A) (sb A) (fun s => lenF A (sb A s) 63 1) := by
  have c64 := cntB_cB A 64 0
  have c0 : cB A 0 = 0 := rfl
  rw [Nat.zero_add] at c64
  have hin := nSec_in A
  by_cases hz : cntB A 64 0 = 0
  · have hN : nSec A = 1 := by unfold nSec; rw [if_pos hz]
    have none_ : fndB A 64 0 0 = none := (fndB_none A 64 0 0).mpr (by omega)
    have b0 : sb A 0 = 0 := by unfold sb; rw [none_]
    have nb : ∀ j, j < 64 → ¬ beg A j = true := by
      intro j hj z
      have := cB_beg z hj
      omega
    have run := same_run (A := A) (b := 0) (d := 64) (by decide) (fun x _ hx => nb _ (Nat.mod_lt _ (by decide)))
    have ln : lenF A 0 63 1 = 64 := lenF_is run 63 1 (by decide) (by decide) (fun z => by omega)
    rw [hN]
    refine ⟨by decide, by decide, fun s hs => ?_, fun s hs => by omega, ?_⟩
    · have : s = 0 := by omega
      subst this
      show sb A 0 < 64 ∧ 1 ≤ lenF A (sb A 0) 63 1 ∧ lenF A (sb A 0) 63 1 ≤ 64 ∧ A ((sb A 0 + lenF A (sb A 0) 63 1 - 1) % 64) = A (sb A 0) ∧ _
      rw [b0, ln]
      exact ⟨by decide, by decide, by decide, run 63 (by decide), fun z => absurd rfl z⟩
    · show lenF A (sb A (1 - 1)) 63 1 = sb A 0 + 64 - sb A (1 - 1)
      rw [show 1 - 1 = 0 from rfl, b0, ln]
  · have hN : nSec A = cntB A 64 0 := by unfold nSec; rw [if_neg hz]
    have m0 : cB A 64 = nSec A := by omega
    -- the begins
    have fb : ∀ s, s < nSec A → sb A s < 64 ∧ beg A (sb A s) = true ∧ cB A (sb A s) = s := by
      intro s hs
      unfold sb
      cases e : fndB A 64 0 s with
      | none => have := (fndB_none A 64 0 s).mp e; omega
      | some j =>
        obtain ⟨_, a, b, c⟩ := fndB_some A 64 0 s j e
        show j < 64 ∧ beg A j = true ∧ cB A j = s
        exact ⟨by omega, b, by omega⟩
    have up : ∀ s, s + 1 < nSec A → sb A s < sb A (s + 1) := by
      intro s hs
      obtain ⟨_, _, a⟩ := fb s (by omega)
      obtain ⟨_, _, b⟩ := fb (s + 1) hs
      apply Nat.lt_of_not_le
      intro z
      have := cB_mono (A := A) z
      omega
    obtain ⟨f1, f2, f3⟩ := fb 0 (by omega)
    have first : ∀ j, j < sb A 0 → ¬ beg A j = true := by
      intro j hj z
      have := cB_beg z hj
      omega
    -- the next begin
    let nx : Nat → Nat := fun s => if s + 1 < nSec A then sb A (s + 1) else sb A 0 + 64
    have nx1 : ∀ s, s + 1 < nSec A → nx s = sb A (s + 1) := fun s hs => if_pos hs
    have nx2 : ∀ s, ¬ s + 1 < nSec A → nx s = sb A 0 + 64 := fun s hs => if_neg hs
    have le0 : ∀ s, s < nSec A → sb A 0 ≤ sb A s := by
      intro s hs
      obtain ⟨_, _, a⟩ := fb s hs
      apply Nat.le_of_not_lt
      intro z
      exact absurd (fb s hs).2.1 (first _ z)
    have key : ∀ s, s < nSec A → sb A s < nx s ∧ nx s ≤ sb A s + 64 ∧ (∀ x, x < nx s - sb A s → A ((sb A s + x) % 64) = A (sb A s)) ∧ beg A (nx s % 64) = true := by
      intro s hs
      obtain ⟨a1, a2, a3⟩ := fb s hs
      have l0 := le0 s hs
      by_cases c : s + 1 < nSec A
      · obtain ⟨b1, b2, b3⟩ := fb (s + 1) c
        have u := up s c
        rw [nx1 s c]
        refine ⟨u, by omega, same_run a1 (fun x x0 hx z => ?_), by rw [Nat.mod_eq_of_lt b1]; exact b2⟩
        rw [Nat.mod_eq_of_lt (by omega)] at z
        have y1 := cB_beg a2 (show sb A s < sb A s + x by omega)
        have y2 := cB_beg z (show sb A s + x < sb A (s + 1) by omega)
        omega
      · rw [nx2 s c]
        refine ⟨by omega, by omega, same_run a1 (fun x x0 hx z => ?_), by rw [show (sb A 0 + 64) % 64 = sb A 0 by omega]; exact f2⟩
        by_cases w : sb A s + x < 64
        · rw [Nat.mod_eq_of_lt w] at z
          have y1 := cB_beg a2 (show sb A s < sb A s + x by omega)
          have y2 := cB_beg z w
          omega
        · rw [show (sb A s + x) % 64 = sb A s + x - 64 by omega] at z
          exact first _ (by omega) z
    have stop : ∀ s, s < nSec A → A (nx s % 64) ≠ A (sb A s) := by
      intro s hs
      obtain ⟨k1, k2, k3, k4⟩ := key s hs
      have q := k3 (nx s - sb A s - 1) (by omega)
      have r := beg_of k4
      rw [← q]
      rw [show (nx s % 64 + 63) % 64 = (sb A s + (nx s - sb A s - 1)) % 64 by omega] at r
      exact r
    -- more than one
    have two : nSec A ≠ 1 := by
      intro z
      have e := nx2 0 (by omega)
      have s0 := stop 0 (by omega)
      rw [e, show (sb A 0 + 64) % 64 = sb A 0 by omega] at s0
      exact s0 rfl
    have ln : ∀ s, s < nSec A → lenF A (sb A s) 63 1 = nx s - sb A s := by
      intro s hs
      obtain ⟨k1, k2, k3, k4⟩ := key s hs
      refine lenF_is k3 63 1 (by omega) (by omega) (fun _ => ?_)
      rw [show sb A s + (nx s - sb A s) = nx s by omega]
      exact stop s hs
    refine ⟨hin.1, hin.2, fun s hs => ?_, fun s hs => ⟨up s hs, ?_⟩, ?_⟩
    · obtain ⟨k1, k2, k3, k4⟩ := key s hs
      show sb A s < 64 ∧ 1 ≤ lenF A (sb A s) 63 1 ∧ lenF A (sb A s) 63 1 ≤ 64 ∧ A ((sb A s + lenF A (sb A s) 63 1 - 1) % 64) = A (sb A s) ∧ (nSec A ≠ 1 → A ((sb A s + lenF A (sb A s) 63 1) % 64) ≠ A (sb A s))
      rw [ln s hs]
      refine ⟨(fb s hs).1, by omega, by omega, ?_, fun _ => ?_⟩
      · rw [show sb A s + (nx s - sb A s) - 1 = sb A s + (nx s - sb A s - 1) by omega]
        exact k3 _ (by omega)
      · rw [show sb A s + (nx s - sb A s) = nx s by omega]
        exact stop s hs
    · show lenF A (sb A s) 63 1 = _
      rw [ln s (by omega), nx1 s hs]
    · show lenF A (sb A (nSec A - 1)) 63 1 = _
      rw [ln _ (by omega), nx2 _ (by omega)]
