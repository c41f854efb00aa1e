/-! FRAMES: what of a state is as it was -/
theorem RCi.cg {c : CiV} {A A' : Nat → Nat} (h : RCi c A) (e : ∀ j, j < 64 → A' j = A j) : RCi c A' := by
  intro j hj; rw [e j hj]; exact h j hj
theorem ICi.cg {A A' : Nat → Nat} (h : ICi A) (e : ∀ j, j < 64 → A' j = A j) : ICi A' := by
  intro j hj; rw [e j hj]; exact h j hj
theorem RFl.cg {f : FlV} {A A' : Nat → Nat} (h : RFl f A) (hI : A 64 ≤ 8) (e : ∀ j, 64 ≤ j → j < 81 → A' j = A j) : RFl f A' := by
  obtain ⟨r1, r2, r3, r4⟩ := h
  have e64 := e 64 (by omega) (by omega)
  refine ⟨by rw [e64]; exact r1, ?_, ?_, ?_⟩
  · intro i hi
    rw [e64] at hi
    rw [e _ (by omega) (by omega), e _ (by omega) (by omega)]
    exact r2 i hi
  · rw [e64, sumL_cg (A := A) (A' := A') _ (fun i hi => e _ (by omega) (by omega))]; exact r3
  · rw [e64, sumD_cg (A := A) (A' := A') _ (fun i hi => e _ (by omega) (by omega))]; exact r4
theorem IFl.cg {A A' : Nat → Nat} (h : IFl A) (e : ∀ j, 64 ≤ j → j < 81 → A' j = A j) : IFl A' := by
  obtain ⟨r1, r2, r3, r4⟩ := h
  have e64 := e 64 (by omega) (by omega)
  refine ⟨by omega, by omega, ?_, ?_⟩
  · intro i hi
    rw [e64] at hi
    rw [e _ (by omega) (by omega), e _ (by omega) (by omega)]
    exact r3 i hi
  · intro i hi h8
    rw [e64] at hi
    rw [e _ (by omega) (by omega), e _ (by omega) (by omega)]
    exact r4 i hi h8
theorem RCh.cg {c : ChV} {A A' : Nat → Nat} (h : RCh c A) (e : ∀ j, 81 ≤ j → j < 115 → A' j = A j) : RCh c A' := by
  obtain ⟨r1, r2, r3, r4, r5⟩ := h
  refine ⟨?_, ?_, ?_, ?_, ?_⟩
  · intro p hp
    rw [e _ (by omega) (by omega), e _ (by omega) (by omega), e _ (by omega) (by omega)]
    exact r1 p hp
  · rw [e _ (by omega) (by omega)]; exact r2
  · rw [e _ (by omega) (by omega)]; exact r3
  · rw [e _ (by omega) (by omega)]; exact r4
  · rw [e _ (by omega) (by omega)]; exact r5
theorem lampIn.cg {A A' : Nat → Nat} {p : Nat} (hp : p < 6) (h : lampIn A p) (e : ∀ j, 82 + 5 * p ≤ j → j < 87 + 5 * p → A' j = A j) (e81 : A' 81 = A 81) : lampIn A' p := by
  unfold lampIn at *
  rw [e _ (by omega) (by omega), e _ (by omega) (by omega), e _ (by omega) (by omega), e _ (by omega) (by omega), e _ (by omega) (by omega), e81]
  exact h
theorem ICh.cg {A A' : Nat → Nat} (h : ICh A) (e : ∀ j, 81 ≤ j → j < 116 → A' j = A j) : ICh A' := by
  obtain ⟨r1, r2, r3, r4, r5, r6, r7⟩ := h
  have a := e 81 (by omega) (by omega)
  have b := e 112 (by omega) (by omega)
  have c := e 113 (by omega) (by omega)
  have d := e 114 (by omega) (by omega)
  have f := e 115 (by omega) (by omega)
  refine ⟨by omega, by omega, by omega, by omega, by omega, by omega, ?_⟩
  intro p hp
  exact (r7 p hp).cg hp (fun j h1 h2 => e j (by omega) (by omega)) a
theorem RSo.cg {s : SoV} {A A' : Nat → Nat} (h : RSo s A) (e : ∀ j, 115 ≤ j → j < 122 → A' j = A j) : RSo s A' := by
  obtain ⟨r1, r2, r3, r4⟩ := h
  refine ⟨?_, ?_, ?_, ?_⟩
  · intro j hj; rw [e _ (by omega) (by omega)]; exact r1 j hj
  · rw [e _ (by omega) (by omega)]; exact r2
  · rw [e _ (by omega) (by omega)]; exact r3
  · rw [e _ (by omega) (by omega)]; exact r4
theorem ITi.cg {M : Nat} {A A' : Nat → Nat} (h : ITi M A) (e : ∀ j, 116 ≤ j → j < 129 → A' j = A j) : ITi M A' := by
  obtain ⟨r1, r2, r3, r4, r5, r6, r7⟩ := h
  have a := e 116 (by omega) (by omega)
  have b := e 121 (by omega) (by omega)
  have c := e 122 (by omega) (by omega)
  have d := e 123 (by omega) (by omega)
  have f := e 128 (by omega) (by omega)
  have g1 := e 117 (by omega) (by omega)
  have g2 := e 118 (by omega) (by omega)
  have g3 := e 119 (by omega) (by omega)
  have g4 := e 120 (by omega) (by omega)
  refine ⟨by omega, ?_, by omega, by omega, by omega, ?_, by rw [f, d]; exact r7⟩
  · intro j hj; rw [e _ (by omega) (by omega), a]; exact r2 j hj
  · intro j hj; rw [e _ (by omega) (by omega), a]; exact r6 j hj
theorem RLo.cg {l : LoV} {w w' : Nat → Int32} {A A' : Nat → Nat} (h : RLo l w A) (h40 : A 128 ≤ 40) (e : ∀ j, 122 ≤ j → j < 129 → A' j = A j) (e2 : ∀ j, 129 ≤ j → j < 289 → w' j = w j) : RLo l w' A' := by
  obtain ⟨r1, r2, r3, r4⟩ := h
  have c := e 122 (by omega) (by omega)
  have d := e 123 (by omega) (by omega)
  have f := e 128 (by omega) (by omega)
  refine ⟨by rw [c]; exact r1, by rw [d]; exact r2, ?_, ?_⟩
  · intro j hj; rw [e _ (by omega) (by omega)]; exact r3 j hj
  · intro i hi
    rw [f] at hi ⊢
    rw [d, e2 _ (by omega) (by omega), e2 _ (by omega) (by omega), e2 _ (by omega) (by omega), e2 _ (by omega) (by omega)]
    exact r4 i hi
theorem ITi.k40 {M : Nat} {A : Nat → Nat} (h : ITi M A) : A 128 ≤ 40 := by
  have := h.2.2.2.2.2.2
  omega
theorem RA_ci {M : Nat} {S : StV} {w w2 : Nat → Int32} {A A2 : Nat → Nat} {c : CiV} (h : RA M S w A) (h1 : RCi c A2) (h2 : nIf w2 A2) (h3 : ICi A2) (f1 : frm 0 64 A A2) (f2 : frmw 0 64 w w2) : RA M (St_mk (St_So S) c (St_Fl S) (St_Ch S) (St_Lo S)) w2 A2 := by
  obtain ⟨a1, a2, a3, a4, a5, a6, a7, a8, a9, a10⟩ := h
  exact ⟨h2, h1, a3.cg a8.2.1 (fun j _ _ => f1 j (by omega)), a4.cg (fun j _ _ => f1 j (by omega)), a5.cg (fun j _ _ => f1 j (by omega)), a6.cg a10.k40 (fun j _ _ => f1 j (by omega)) (fun j _ _ => f2 j (by omega)), h3, a8.cg (fun j _ _ => f1 j (by omega)), a9.cg (fun j _ _ => f1 j (by omega)), a10.cg (fun j _ _ => f1 j (by omega))⟩
theorem RA_fl {M : Nat} {S : StV} {w w2 : Nat → Int32} {A A2 : Nat → Nat} {f : FlV} (h : RA M S w A) (h1 : RFl f A2) (h2 : nIf w2 A2) (h3 : IFl A2) (f1 : frm 64 81 A A2) (f2 : frmw 64 81 w w2) : RA M (St_mk (St_So S) (St_Ci S) f (St_Ch S) (St_Lo S)) w2 A2 := by
  obtain ⟨a1, a2, a3, a4, a5, a6, a7, a8, a9, a10⟩ := h
  exact ⟨h2, a2.cg (fun j _ => f1 j (by omega)), h1, a4.cg (fun j _ _ => f1 j (by omega)), a5.cg (fun j _ _ => f1 j (by omega)), a6.cg a10.k40 (fun j _ _ => f1 j (by omega)) (fun j _ _ => f2 j (by omega)), a7.cg (fun j _ => f1 j (by omega)), h3, a9.cg (fun j _ _ => f1 j (by omega)), a10.cg (fun j _ _ => f1 j (by omega))⟩
theorem RA_ch {M : Nat} {S : StV} {w w2 : Nat → Int32} {A A2 : Nat → Nat} {c : ChV} (h : RA M S w A) (h1 : RCh c A2) (h2 : nIf w2 A2) (h3 : ICh A2) (f1 : frm 81 115 A A2) (f2 : frmw 81 115 w w2) : RA M (St_mk (St_So S) (St_Ci S) (St_Fl S) c (St_Lo S)) w2 A2 := by
  obtain ⟨a1, a2, a3, a4, a5, a6, a7, a8, a9, a10⟩ := h
  exact ⟨h2, a2.cg (fun j _ => f1 j (by omega)), a3.cg a8.2.1 (fun j _ _ => f1 j (by omega)), h1, a5.cg (fun j _ _ => f1 j (by omega)), a6.cg a10.k40 (fun j _ _ => f1 j (by omega)) (fun j _ _ => f2 j (by omega)), a7.cg (fun j _ => f1 j (by omega)), a8.cg (fun j _ _ => f1 j (by omega)), h3, a10.cg (fun j _ _ => f1 j (by omega))⟩
/-- clear alone -/
theorem RA_clear {M : Nat} {S : StV} {w : Nat → Int32} {A : Nat → Nat} {x : Nat} (h : RA M S w A) (h1 : 1 ≤ x) (h2 : x ≤ 100) : RA M (St_mk (So_mk (So_spent (St_So S)) (So_tick (St_So S)) (nI x) (So_changesBegun (St_So S))) (St_Ci S) (St_Fl S) (St_Ch S) (St_Lo S)) (upd w 115 (nI x)) (sA A 115 x) := by
  obtain ⟨a1, a2, a3, a4, a5, a6, a7, a8, a9, a10⟩ := h
  have f1 : ∀ j, j ≠ 115 → sA A 115 x j = A j := fun j hj => sA_ne hj
  have f2 : ∀ j, j ≠ 115 → upd w 115 (nI x) j = w j := fun j hj => upd_ne hj
  refine ⟨a1.upd _ _, a2.cg (fun j _ => f1 j (by omega)), a3.cg a8.2.1 (fun j _ _ => f1 j (by omega)), a4.cg (fun j _ _ => f1 j (by omega)), ?_, a6.cg a10.k40 (fun j _ _ => f1 j (by omega)) (fun j _ _ => f2 j (by omega)), a7.cg (fun j _ => f1 j (by omega)), a8.cg (fun j _ _ => f1 j (by omega)), ?_, a10.cg (fun j _ _ => f1 j (by omega))⟩
  · obtain ⟨r1, r2, r3, r4⟩ := a5
    refine ⟨?_, ?_, ?_, ?_⟩
    · intro j hj; rw [f1 _ (by omega)]; exact r1 j hj
    · rw [f1 _ (by omega)]; exact r2
    · rw [sA_at]
    · rw [f1 _ (by omega)]; exact r4
  · obtain ⟨r1, r2, r3, r4, r5, r6, r7⟩ := a9
    have q : sA A 115 x 115 = x := sA_at
    have b1 := f1 81 (by omega)
    have b2 := f1 112 (by omega)
    have b3 := f1 113 (by omega)
    have b4 := f1 114 (by omega)
    refine ⟨by omega, by omega, by omega, by omega, by omega, by omega, ?_⟩
    intro p hp
    exact (r7 p hp).cg hp (fun j _ _ => f1 j (by omega)) b1
/-- change alone -/
theorem RA_change {M : Nat} {S : StV} {w : Nat → Int32} {A : Nat → Nat} {x : Nat} (h : RA M S w A) (h2 : x ≤ 50) : RA M (St_mk (St_So S) (St_Ci S) (St_Fl S) (Ch_mk (Ch_intensities (St_Ch S)) (Ch_lives (St_Ch S)) (Ch_uses (St_Ch S)) (Ch_kind (St_Ch S)) (Ch_present (St_Ch S)) (nI x) (Ch_changeLeft (St_Ch S))) (St_Lo S)) (upd w 114 (nI x)) (sA A 114 x) := by
  have f1 : ∀ j, j ≠ 114 → sA A 114 x j = A j := fun j hj => sA_ne hj
  have f2 : ∀ j, j ≠ 114 → upd w 114 (nI x) j = w j := fun j hj => upd_ne hj
  refine RA_ch h ?_ (h.1.upd _ _) ?_ (fun j _ => f1 j (by omega)) (fun j _ => f2 j (by omega))
  · obtain ⟨r1, r2, r3, r4, r5⟩ := h.2.2.2.1
    refine ⟨?_, ?_, ?_, ?_, ?_⟩
    · intro p hp
      rw [f1 _ (by omega), f1 _ (by omega), f1 _ (by omega)]
      exact r1 p hp
    · rw [f1 _ (by omega)]; exact r2
    · rw [f1 _ (by omega)]; exact r3
    · rw [sA_at]
    · rw [f1 _ (by omega)]; exact r5
  · obtain ⟨r1, r2, r3, r4, r5, r6, r7⟩ := h.2.2.2.2.2.2.2.2.1
    have q : sA A 114 x 114 = x := sA_at
    have b1 := f1 81 (by omega)
    have b2 := f1 112 (by omega)
    have b3 := f1 113 (by omega)
    have b4 := f1 115 (by omega)
    refine ⟨by omega, by omega, by omega, by omega, by omega, by omega, ?_⟩
    intro p hp
    exact (r7 p hp).cg hp (fun j _ _ => f1 j (by omega)) b1
