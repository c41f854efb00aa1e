-- the law from its entry, out of what the pure pictures answer: printed by wip/p34/lawgen34.py
def gStI (i : Nat) : Nat := (gStr.getD i (0, "")).1
abbrev nzF : List Cond := flatC (Jvm.Cond.and given_1 narrow_1)
set_option maxRecDepth 100000 in
theorem nz_sin : (Cond.arrayOf (.static "HarborLight$Compass" "SINES" "[I") .int) ∈ nzF ∧ (Cond.eq (.length (.static "HarborLight$Compass" "SINES" "[I")) (.int (Int32.ofNat 17))) ∈ nzF ∧ ∀ j, j < 17 → (Cond.eq (.elem (.static "HarborLight$Compass" "SINES" "[I") (.int (Int32.ofNat j))) (.int (gSin j))) ∈ nzF := ⟨by decide +kernel, by decide +kernel, by decide +kernel⟩
set_option maxRecDepth 100000 in
theorem nz_str1 : ∀ i, i < 14 → (Cond.exactly (.string "HarborLight$Text" (gStI i)) "java/lang/String") ∈ nzF ∧ (Cond.eq (.field (.string "HarborLight$Text" (gStI i)) "java/lang/String" "coder" "B") (.int 0)) ∈ nzF ∧ (Cond.arrayOf (.field (.string "HarborLight$Text" (gStI i)) "java/lang/String" "value" "[B") .byte) ∈ nzF ∧ (Cond.eq (.length (.field (.string "HarborLight$Text" (gStI i)) "java/lang/String" "value" "[B")) (.int (Int32.ofNat (gLen.getD i 0)))) ∈ nzF := by decide +kernel
set_option maxRecDepth 100000 in
theorem nz_str2 : ∀ i, i < 14 → ∀ j, j < gLen.getD i 0 → (Cond.eq (.elem (.field (.string "HarborLight$Text" (gStI i)) "java/lang/String" "value" "[B") (.int (Int32.ofNat j))) (.int ((gByt.getD i []).getD j 0))) ∈ nzF := by decide +kernel
set_option maxRecDepth 100000 in
theorem nz_s3_0 : ∀ j, j < 14 → 0 ≠ j → (Cond.not (Cond.eq (.string "HarborLight$Text" (gStI 0)) (.string "HarborLight$Text" (gStI j)))) ∈ nzF ∨ (Cond.not (Cond.eq (.string "HarborLight$Text" (gStI j)) (.string "HarborLight$Text" (gStI 0)))) ∈ nzF := by decide +kernel
set_option maxRecDepth 100000 in
theorem nz_s3_1 : ∀ j, j < 14 → 1 ≠ j → (Cond.not (Cond.eq (.string "HarborLight$Text" (gStI 1)) (.string "HarborLight$Text" (gStI j)))) ∈ nzF ∨ (Cond.not (Cond.eq (.string "HarborLight$Text" (gStI j)) (.string "HarborLight$Text" (gStI 1)))) ∈ nzF := by decide +kernel
set_option maxRecDepth 100000 in
theorem nz_s3_2 : ∀ j, j < 14 → 2 ≠ j → (Cond.not (Cond.eq (.string "HarborLight$Text" (gStI 2)) (.string "HarborLight$Text" (gStI j)))) ∈ nzF ∨ (Cond.not (Cond.eq (.string "HarborLight$Text" (gStI j)) (.string "HarborLight$Text" (gStI 2)))) ∈ nzF := by decide +kernel
set_option maxRecDepth 100000 in
theorem nz_s3_3 : ∀ j, j < 14 → 3 ≠ j → (Cond.not (Cond.eq (.string "HarborLight$Text" (gStI 3)) (.string "HarborLight$Text" (gStI j)))) ∈ nzF ∨ (Cond.not (Cond.eq (.string "HarborLight$Text" (gStI j)) (.string "HarborLight$Text" (gStI 3)))) ∈ nzF := by decide +kernel
set_option maxRecDepth 100000 in
theorem nz_s3_4 : ∀ j, j < 14 → 4 ≠ j → (Cond.not (Cond.eq (.string "HarborLight$Text" (gStI 4)) (.string "HarborLight$Text" (gStI j)))) ∈ nzF ∨ (Cond.not (Cond.eq (.string "HarborLight$Text" (gStI j)) (.string "HarborLight$Text" (gStI 4)))) ∈ nzF := by decide +kernel
set_option maxRecDepth 100000 in
theorem nz_s3_5 : ∀ j, j < 14 → 5 ≠ j → (Cond.not (Cond.eq (.string "HarborLight$Text" (gStI 5)) (.string "HarborLight$Text" (gStI j)))) ∈ nzF ∨ (Cond.not (Cond.eq (.string "HarborLight$Text" (gStI j)) (.string "HarborLight$Text" (gStI 5)))) ∈ nzF := by decide +kernel
set_option maxRecDepth 100000 in
theorem nz_s3_6 : ∀ j, j < 14 → 6 ≠ j → (Cond.not (Cond.eq (.string "HarborLight$Text" (gStI 6)) (.string "HarborLight$Text" (gStI j)))) ∈ nzF ∨ (Cond.not (Cond.eq (.string "HarborLight$Text" (gStI j)) (.string "HarborLight$Text" (gStI 6)))) ∈ nzF := by decide +kernel
set_option maxRecDepth 100000 in
theorem nz_s3_7 : ∀ j, j < 14 → 7 ≠ j → (Cond.not (Cond.eq (.string "HarborLight$Text" (gStI 7)) (.string "HarborLight$Text" (gStI j)))) ∈ nzF ∨ (Cond.not (Cond.eq (.string "HarborLight$Text" (gStI j)) (.string "HarborLight$Text" (gStI 7)))) ∈ nzF := by decide +kernel
set_option maxRecDepth 100000 in
theorem nz_s3_8 : ∀ j, j < 14 → 8 ≠ j → (Cond.not (Cond.eq (.string "HarborLight$Text" (gStI 8)) (.string "HarborLight$Text" (gStI j)))) ∈ nzF ∨ (Cond.not (Cond.eq (.string "HarborLight$Text" (gStI j)) (.string "HarborLight$Text" (gStI 8)))) ∈ nzF := by decide +kernel
set_option maxRecDepth 100000 in
theorem nz_s3_9 : ∀ j, j < 14 → 9 ≠ j → (Cond.not (Cond.eq (.string "HarborLight$Text" (gStI 9)) (.string "HarborLight$Text" (gStI j)))) ∈ nzF ∨ (Cond.not (Cond.eq (.string "HarborLight$Text" (gStI j)) (.string "HarborLight$Text" (gStI 9)))) ∈ nzF := by decide +kernel
set_option maxRecDepth 100000 in
theorem nz_s3_10 : ∀ j, j < 14 → 10 ≠ j → (Cond.not (Cond.eq (.string "HarborLight$Text" (gStI 10)) (.string "HarborLight$Text" (gStI j)))) ∈ nzF ∨ (Cond.not (Cond.eq (.string "HarborLight$Text" (gStI j)) (.string "HarborLight$Text" (gStI 10)))) ∈ nzF := by decide +kernel
set_option maxRecDepth 100000 in
theorem nz_s3_11 : ∀ j, j < 14 → 11 ≠ j → (Cond.not (Cond.eq (.string "HarborLight$Text" (gStI 11)) (.string "HarborLight$Text" (gStI j)))) ∈ nzF ∨ (Cond.not (Cond.eq (.string "HarborLight$Text" (gStI j)) (.string "HarborLight$Text" (gStI 11)))) ∈ nzF := by decide +kernel
set_option maxRecDepth 100000 in
theorem nz_s3_12 : ∀ j, j < 14 → 12 ≠ j → (Cond.not (Cond.eq (.string "HarborLight$Text" (gStI 12)) (.string "HarborLight$Text" (gStI j)))) ∈ nzF ∨ (Cond.not (Cond.eq (.string "HarborLight$Text" (gStI j)) (.string "HarborLight$Text" (gStI 12)))) ∈ nzF := by decide +kernel
set_option maxRecDepth 100000 in
theorem nz_s3_13 : ∀ j, j < 14 → 13 ≠ j → (Cond.not (Cond.eq (.string "HarborLight$Text" (gStI 13)) (.string "HarborLight$Text" (gStI j)))) ∈ nzF ∨ (Cond.not (Cond.eq (.string "HarborLight$Text" (gStI j)) (.string "HarborLight$Text" (gStI 13)))) ∈ nzF := by decide +kernel
theorem nz_str3 : ∀ i, i < 14 → ∀ j, j < 14 → i ≠ j → (Cond.not (Cond.eq (.string "HarborLight$Text" (gStI i)) (.string "HarborLight$Text" (gStI j)))) ∈ nzF ∨ (Cond.not (Cond.eq (.string "HarborLight$Text" (gStI j)) (.string "HarborLight$Text" (gStI i)))) ∈ nzF := by
  intro i hi
  match i, hi with
  | 0, _ => exact nz_s3_0
  | 1, _ => exact nz_s3_1
  | 2, _ => exact nz_s3_2
  | 3, _ => exact nz_s3_3
  | 4, _ => exact nz_s3_4
  | 5, _ => exact nz_s3_5
  | 6, _ => exact nz_s3_6
  | 7, _ => exact nz_s3_7
  | 8, _ => exact nz_s3_8
  | 9, _ => exact nz_s3_9
  | 10, _ => exact nz_s3_10
  | 11, _ => exact nz_s3_11
  | 12, _ => exact nz_s3_12
  | 13, _ => exact nz_s3_13
  | i + 14, h => exact absurd h (by omega)
set_option maxRecDepth 100000 in
theorem nz_mis : (Cond.eq (.static "java/lang/String" "COMPACT_STRINGS" "Z") (.int 1)) ∈ nzF ∧ (Cond.isRef (.static "jdk/internal/util/Preconditions" "SIOOBE_FORMATTER" "Ljava/util/function/BiFunction;")) ∈ nzF := ⟨by decide +kernel, by decide +kernel⟩
set_option maxRecDepth 100000 in
theorem nz_ref : ∀ (i : Nat) (q : Nat × String), gStr[i]? = some q → (Cond.stringRef "HarborLight$Text" q.1 q.2) ∈ lw_tbl := by
  have h : ∀ q ∈ gStr, (Cond.stringRef "HarborLight$Text" q.1 q.2) ∈ lw_tbl := by decide +kernel
  exact fun i q hq => h q (List.mem_of_getElem? hq)
set_option maxRecDepth 100000 in
theorem nz_nf : ∀ (i : Nat) (q : String × Nat × String × String × String), gNF[i]? = some q → (Cond.fieldLinkNest q.1 q.2.1 q.2.2.1 q.2.2.2.1 q.2.2.2.2 "HarborLight") ∈ lw_tbl := by
  have h : ∀ q ∈ gNF, (Cond.fieldLinkNest q.1 q.2.1 q.2.2.1 q.2.2.2.1 q.2.2.2.2 "HarborLight") ∈ lw_tbl := by decide +kernel
  exact fun i q hq => h q (List.mem_of_getElem? hq)
set_option maxRecDepth 100000 in
theorem nz_nm : ∀ (i : Nat) (q : String × Nat × MethodName), gNM[i]? = some q → (Cond.methodLinkNest q.1 q.2.1 q.2.2 "HarborLight") ∈ lw_tbl := by
  have h : ∀ q ∈ gNM, (Cond.methodLinkNest q.1 q.2.1 q.2.2 "HarborLight") ∈ lw_tbl := by decide +kernel
  exact fun i q hq => h q (List.mem_of_getElem? hq)
set_option maxRecDepth 100000 in
theorem nz_lay : (Cond.laysStatic "HarborLight$Compass" "SINES" "[I") ∈ lw_tbl ∧ (Cond.laysStatic "java/lang/String" "COMPACT_STRINGS" "Z") ∈ lw_tbl ∧ (Cond.laysStatic "jdk/internal/util/Preconditions" "SIOOBE_FORMATTER" "Ljava/util/function/BiFunction;") ∈ lw_tbl ∧ (Cond.initialized "HarborLight$Compass") ∈ lw_tbl ∧ (Cond.initialized "java/lang/String") ∈ lw_tbl ∧ (Cond.initialized "jdk/internal/util/Preconditions") ∈ lw_tbl ∧ (Cond.arrayClass .int) ∈ lw_tbl ∧ (Cond.arrayClass .char) ∈ lw_tbl ∧ (Cond.arrayOver (.object "HarborLight$State")) ∈ lw_tbl := by
  refine ⟨by decide +kernel, by decide +kernel, by decide +kernel, by decide +kernel, by decide +kernel, by decide +kernel, by decide +kernel, by decide +kernel, by decide +kernel⟩
theorem gZ_start {s : State} {args : Array Value} {G : va_G} {cI cC cS : ClassId} (hts : ∀ w ∈ lw_tbl, w.before args s = true) (hgv : (Jvm.Cond.and given_1 narrow_1).before args s = true) : ∃ (t : Nat) (aK aV : Nat → Nat), gZ (G, cI, cC, cS, t, aK, aV) (fun q : Nat => s.heap.size ≤ q) s s.heap := by
  have hs := flat_of_before _ hgv
  have hA : ∀ a : Nat, a < s.heap.size → ¬ (fun q : Nat => s.heap.size ≤ q) a := fun a h z => Nat.not_le.mpr h z
  obtain ⟨l1, l2, l3, l4, l5, l6, -, -, l9⟩ := nz_lay
  obtain ⟨t, ht, hT⟩ := va_Tof (N := 17) (f := fun j => .int (gSin j)) (A := fun q : Nat => s.heap.size ≤ q) (by decide) (hs _ nz_sin.1) (va_eqt (hs _ nz_sin.2.1)) (fun j hj => va_eqt (hs _ (nz_sin.2.2 j hj))) hA
  obtain ⟨aK, aV, hV, hR⟩ := vk_Sof (N := 14) (tm := fun i => .string "HarborLight$Text" (gStI i)) (len := gLen) (byt := gByt) (A := fun q : Nat => s.heap.size ≤ q) (by decide) (fun i hi => hs _ (nz_str1 i hi).1) (fun i hi => hs _ (nz_str1 i hi).2.1) (fun i hi => hs _ (nz_str1 i hi).2.2.1) (fun i hi => hs _ (nz_str1 i hi).2.2.2) (fun i hi j hj => hs _ (nz_str2 i hi j hj)) (fun i j hi hj hij => (nz_str3 i hi j hj hij).imp (hs _) (hs _)) hA
  refine ⟨t, aK, aV, va_Zref (hts _ l1) (hts _ l4) ht hA, hT, va_Zof (hts _ l2) (hts _ l5) (va_eqi (hs _ nz_mis.1)) hA, va_Zqof (hts _ l3) (hts _ l6) (hs _ nz_mis.2) hA, hV, fun i q hq => ?_, fun i q hq => va_Nw.of rfl (hts _ (nz_nf i q hq)), fun i q hq => va_Nw.of rfl (hts _ (nz_nm i q hq)), ?_⟩
  · have hi : i < 14 := (List.getElem?_eq_some_iff.mp hq).1
    have e : gStI i = q.1 := by unfold gStI; rw [List.getD_eq_getElem?_getD, hq]; rfl
    refine vk_R.of (hts _ (nz_ref i q hq)) ?_
    rw [← e]
    exact hR i hi
  · have h := hts _ l9
    exact h
set_option maxHeartbeats 4000000 in
set_option maxRecDepth 100000 in
theorem start_of (hpure : ∀ (L : Nat) (xs : Nat → Int32), L ≤ 260 → ∃ (n k : Nat) (u : HLV), F_X9_init n = some u ∧ F_law_S n L xs k u = some 1) {p : Program} {e : Env} {s : State} {m : MethodId} {below : List Frame} {meth : Method} {c : Code} (l : Launch) (hflags : l.flags = flags0) {b L : Nat} {xs : Nat → Int32} (hL : L ≤ 260) (C0 : lw_At p s m meth c b L xs) : W p l e room_1 s m #[Value.ref b] below meth c s.heap [] 0 0 (lw_Z below #[Value.ref b] s) (entryFrame m ([Value.ref b] : List Value).toArray 10) := by
  obtain ⟨hx, hb, hr, hml, hown, hts0, hX, hbl, hlocks, hgv⟩ := C0
  obtain ⟨n, kk, u0, hu, hF⟩ := hpure L xs hL
  obtain ⟨c0, iS0, hKn0⟩ := u_known (C := RX1) (T := TX1) (N := 7) (n := 7) hts0 lin_X1 (hts0 (.instantiable RX1 7) (List.mem_of_getElem? (i := 83) (by decide +kernel)))
  obtain ⟨c1, iS1, hKn1⟩ := u_known (C := RX2) (T := TX2) (N := 1) (n := 1) hts0 lin_X2 (hts0 (.instantiable RX2 1) (List.mem_of_getElem? (i := 50) (by decide +kernel)))
  obtain ⟨c2, iS2, hKn2⟩ := u_known (C := RX4) (T := TX4) (N := 5) (n := 5) hts0 lin_X4 (hts0 (.instantiable RX4 5) (List.mem_of_getElem? (i := 61) (by decide +kernel)))
  obtain ⟨c3, iS3, hKn3⟩ := u_known (C := RX5) (T := TX5) (N := 3) (n := 3) hts0 lin_X5 (hts0 (.instantiable RX5 3) (List.mem_of_getElem? (i := 184) (by decide +kernel)))
  obtain ⟨c4, iS4, hKn4⟩ := u_known (C := RX6) (T := TX6) (N := 7) (n := 7) hts0 lin_X6 (hts0 (.instantiable RX6 7) (List.mem_of_getElem? (i := 118) (by decide +kernel)))
  obtain ⟨c5, iS5, hKn5⟩ := u_known (C := RX7) (T := TX7) (N := 8) (n := 8) hts0 lin_X7 (hts0 (.instantiable RX7 8) (List.mem_of_getElem? (i := 44) (by decide +kernel)))
  obtain ⟨c6, iS6, hKn6⟩ := u_known (C := RX8) (T := TX8) (N := 7) (n := 7) hts0 lin_X8 (hts0 (.instantiable RX8 7) (List.mem_of_getElem? (i := 204) (by decide +kernel)))
  obtain ⟨c7, iS7, hKn7⟩ := u_known (C := RX9) (T := TX9) (N := 6) (n := 6) hts0 lin_X9 (hts0 (.instantiable RX9 6) (List.mem_of_getElem? (i := 36) (by decide +kernel)))
  obtain ⟨dC, dI, hKc⟩ : ∃ (dC : Nat → ClassId) (dI : Nat → Nat → Nat), ∀ (k : Nat) (q : vw_C), vwCl[k]? = some q → u_Kn s q.1 q.2.1 q.2.2 (dC k) (dI k) := by
    refine ⟨fun k => [c0, c1, c2, c3, c4, c5, c6, c7].getD k c0, fun k => [iS0, iS1, iS2, iS3, iS4, iS5, iS6, iS7].getD k iS0, ?_⟩
    intro k q hq
    match k, hq with
    | 0, hq => cases hq; exact hKn0
    | 1, hq => cases hq; exact hKn1
    | 2, hq => cases hq; exact hKn2
    | 3, hq => cases hq; exact hKn3
    | 4, hq => cases hq; exact hKn4
    | 5, hq => cases hq; exact hKn5
    | 6, hq => cases hq; exact hKn6
    | 7, hq => cases hq; exact hKn7
    | k + 8, hq => simp [vwCl] at hq
  obtain ⟨cI, kI, pI, i1, i2, i3⟩ := Cond.arrayClass_spec (hts0 _ nz_lay.2.2.2.2.2.2.1)
  obtain ⟨cC, kC, pC, j1, j2, j3⟩ := Cond.arrayClass_spec (hts0 _ nz_lay.2.2.2.2.2.2.2.1)
  obtain ⟨pS, cS, kS, s1, -, s2, s3, s4⟩ := Cond.arrayOver_spec (hts0 _ nz_lay.2.2.2.2.2.2.2.2)
  obtain ⟨t, aK, aV, hZ⟩ := gZ_start (G := (dC, dI)) (cI := cI) (cC := cC) (cS := cS) hts0 hgv
  obtain ⟨E, hE⟩ : ∃ E : GE, E = ((dC, dI), cI, cC, cS, t, aK, aV) := ⟨_, rfl⟩
  rw [← hE] at hZ
  have hK : gK E s := by
    rw [hE]
    refine ⟨hKc, fun k q hq => ?_⟩
    match k, hq with
    | 0, hq => cases hq; exact ⟨fun n z => ⟨fun k h => (by cases h), kI, i2, pI, i3⟩, i1⟩
    | 1, hq => cases hq; exact ⟨fun n z => ⟨fun k h => (by cases h), kC, j2, pC, j3⟩, j1⟩
    | 2, hq => cases hq; exact ⟨fun n z => ⟨fun k h => (by cases h), kS, s2, pS, s3⟩, kS, pS, s2, s3, s1, s4⟩
    | k + 3, hq => simp [gT] at hq
  clear hE hKc
  obtain ⟨A, hAe⟩ : ∃ A : Nat → Prop, A = fun q : Nat => s.heap.size ≤ q := ⟨_, rfl⟩
  have hZA : gZ E A s s.heap := by rw [hAe]; exact hZ
  have hA : ∀ q : Nat, s.heap.size ≤ q → A q := fun q h => by rw [hAe]; exact h
  have hts : ∀ w ∈ wsL_law, w.before #[Value.ref b] s = true := fun w h => hts0 w (wsL_law_in w h)
  have hown : s.vm.findClass RL = some m.cls := hown
  have hS : va_S A s.heap s.heap [] := va_S.rf
  have hP : va_P E.1 vwCl (bl []) s.heap := fun k q h => by cases h
  have hD : va_D A (bl []) := va_D_iff.mpr ⟨List.Pairwise.nil, fun q h => by cases h⟩
  have hl := lv_entry ([.ref b]) (n := 10) (Nat.le_of_ble_eq_true rfl)
  rw [lg_entry_eq]
  generalize (lg_sl ([.ref b]) ++ List.replicate (10 - (lg_sl ([.ref b])).length) Slot.unset).toArray = ls at hl ⊢
  have hl : lv_has ls 10 [(0, .ref b)] := hl
  have in_X9 : ∀ w ∈ wsX90, w ∈ wsL_law := by decide +kernel
  refine g_new (T := TX9) (N := 6) (ci := 7) (fs := [.null, .null, .null, .null, .null, .int 0]) hx hb hts in_X9 tyX9 tyX9_ok hown (hts (.classLink RL 14 RX9) (by decide +kernel)) (hts (.instantiable RX9 6) (by decide +kernel)) (hts (.initialized RX9) (by decide +kernel)) hK hP hD hS hA rfl (fun j hj => by rcases (show j = 0 ∨ j = 1 ∨ j = 2 ∨ j = 3 ∨ j = 4 ∨ j = 5 by omega) with rfl | rfl | rfl | rfl | rfl | rfl <;> rfl) (Nat.le_of_ble_eq_true rfl) (Nat.le_of_ble_eq_true rfl) dL_law_0 (fun o H hP hD hS => ?_)
  have hP : va_P E.1 vwCl (bl [[(o, .inr (7, [.null, .null, .null, .null, .null, .int 0]))]]) H := hP
  have hD : va_D A (bl [[(o, .inr (7, [.null, .null, .null, .null, .null, .int 0]))]]) := hD
  refine lv_dup hx hb dL_law_3 rfl ?_
  refine g_callN (rest := [.ref o]) ⟨hx, hb, hml, hown, hts⟩ hK hZA hA (c_X9_init l E o n u0 hu) (cwI 0 hts gL_law_X9_init rfl rfl rfl (hts (.initialized RX9) (by decide +kernel)) (hts (.methodLink RL 114 yX9_init) (by decide +kernel)) (hts (.instanceMethod yX9_init) (by decide +kernel)) rfl (by decide +kernel) ⟨Nat.le_of_ble_eq_true rfl, Nat.le_of_ble_eq_true rfl⟩) hP hD hS [0] [] rfl rfl rfl hl.1 (Nat.le_of_ble_eq_true rfl) dL_law_4 ⟨Nat.le_of_ble_eq_true rfl, Nat.le_of_ble_eq_true rfl⟩ (fun z _ H locs hP hD hS => ?_)
  have hP : va_P E.1 vwCl (bl [HL_c E o z.1 z.2.1 z.2.2.1 z.2.2.2.1 z.2.2.2.2.1 z.2.2.2.2.2.1 z.2.2.2.2.2.2.1 z.2.2.2.2.2.2.2.1 z.2.2.2.2.2.2.2.2 u0]) H := hP
  have hD : va_D A (bl [HL_c E o z.1 z.2.1 z.2.2.1 z.2.2.2.1 z.2.2.2.2.1 z.2.2.2.2.2.1 z.2.2.2.2.2.2.1 z.2.2.2.2.2.2.2.1 z.2.2.2.2.2.2.2.2 u0]) := hD
  refine W.eq (g2 := F0 m 7 ls [.ref o]) rfl ?_
  refine lv_astore_n (lv' := [(1, .ref o), (0, .ref b)]) hx hb dL_law_7 rfl hl (by decide) rfl (fun ls hl => ?_)
  rw [hAe] at hD hS
  exact law_body hx hb hr hml hown hts hX hbl hlocks hK hZ n o z.1 z.2.1 z.2.2.1 z.2.2.2.1 z.2.2.2.2.1 z.2.2.2.2.2.1 z.2.2.2.2.2.2.1 z.2.2.2.2.2.2.2.1 z.2.2.2.2.2.2.2.2 kk u0 H _ hP hD hS ls (lv_sub hl [1, 0] rfl) hF
