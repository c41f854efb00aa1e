-- the law's loop: printed by wip/p34/lawgen34.py
def F_law_J (n : Nat) (rec : HLV → Int32 → Int64 → Int32 → Option Int32) (u : HLV) (x2 : Int32) (x3 : Int64) (x5 x7 x8 x9 : Int32) : Option Int32 := if x2 = 0 then rec u (0 : Int32) x3 (x5 + 1) else if x9 < (-4) then rec u (0 : Int32) x3 (x5 + 1) else (F_L_isLight n u).bind fun q1 => if q1 = 0 then rec u (0 : Int32) x3 (x5 + 1) else (F_L_areDirections n u ((x7 - x7 / 400 * 400) - 200) ((x8 - x8 / 400 * 400) - 200)).bind fun q2 => if q2.1 = 0 then rec q2.2 (0 : Int32) x3 (x5 + 1) else if (x5 - x5 / 4 * 4) = 1 then (F_L_isAhead n q2.2).bind fun q6 => if q6.1 = 0 then rec q6.2 (0 : Int32) x3 (x5 + 1) else if (x5 - x5 / 3 * 3) = 2 then (F_L_isPassage n q6.2 ((x8 - x8 / 900 * 900) - 450) ((x7 - x7 / 900 * 900) - 450) (1 + (x7 - x7 / 70 * 70))).bind fun q8 => if q8.1 = 0 then rec q8.2 (0 : Int32) x3 (x5 + 1) else if (x5 - x5 / 8 * 8) = 5 then (F_L_areErrors n q8.2).bind fun q9 => if q9.1 = 0 then rec q9.2 (0 : Int32) x3 (x5 + 1) else rec q9.2 (1 : Int32) x3 (x5 + 1) else rec q8.2 (1 : Int32) x3 (x5 + 1) else if (x5 - x5 / 8 * 8) = 5 then (F_L_areErrors n q6.2).bind fun q7 => if q7.1 = 0 then rec q7.2 (0 : Int32) x3 (x5 + 1) else rec q7.2 (1 : Int32) x3 (x5 + 1) else rec q6.2 (1 : Int32) x3 (x5 + 1) else if (x5 - x5 / 3 * 3) = 2 then (F_L_isPassage n q2.2 ((x8 - x8 / 900 * 900) - 450) ((x7 - x7 / 900 * 900) - 450) (1 + (x7 - x7 / 70 * 70))).bind fun q4 => if q4.1 = 0 then rec q4.2 (0 : Int32) x3 (x5 + 1) else if (x5 - x5 / 8 * 8) = 5 then (F_L_areErrors n q4.2).bind fun q5 => if q5.1 = 0 then rec q5.2 (0 : Int32) x3 (x5 + 1) else rec q5.2 (1 : Int32) x3 (x5 + 1) else rec q4.2 (1 : Int32) x3 (x5 + 1) else if (x5 - x5 / 8 * 8) = 5 then (F_L_areErrors n q2.2).bind fun q3 => if q3.1 = 0 then rec q3.2 (0 : Int32) x3 (x5 + 1) else rec q3.2 (1 : Int32) x3 (x5 + 1) else rec q2.2 (1 : Int32) x3 (x5 + 1)
def F_law (n L : Nat) (xs : Nat → Int32) : Nat → HLV → Int32 → Int64 → Int32 → Option Int32
  | 0, _, _, _, _ => none
  | k + 1, u, x2, x3, x5 => if 30 ≤ x5 then if x2 = 0 then some 0 else (F_L_areErrors n u).bind fun q10 => if q10.1 = 0 then some 0 else some 1 else if x2 = 0 then if x2 = 0 then some 0 else (F_L_areErrors n u).bind fun q11 => if q11.1 = 0 then some 0 else some 1 else (F_L_cell L xs x5).bind fun q12 => (F_L_low (q12 >>> (5 &&& 31)) 8192).bind fun q13 => (F_L_low (q12 >>> (11 &&& 31)) 8192).bind fun q14 => (F_L_low q12 18).bind fun q15 => if q15 = 0 then (F_X9_paint n u (q13 - q13 / 4 * 4) (q14 - q14 / 64 * 64) (q13 - q13 / 64 * 64)).bind fun q16 => F_law_J n (fun a b c d => F_law n L xs k a b c d) q16.2 x2 x3 x5 q13 q14 q16.1 else if q15 = 1 then (F_X9_paint n u (q13 - q13 / 4 * 4) (q14 - q14 / 64 * 64) (q13 - q13 / 64 * 64)).bind fun q17 => F_law_J n (fun a b c d => F_law n L xs k a b c d) q17.2 x2 x3 x5 q13 q14 q17.1 else if q15 = 2 then if (q13 - q13 / 3 * 3) = 0 then (F_X9_setCode u (1 + (q13 - q13 / 60 * 60)) (q14 - q14 / 61 * 61) 1).bind fun q19 => F_law_J n (fun a b c d => F_law n L xs k a b c d) q19.2 x2 x3 x5 q13 q14 q19.1 else (F_X9_setCode u (1 + (q13 - q13 / 60 * 60)) (q14 - q14 / 61 * 61) 0).bind fun q18 => F_law_J n (fun a b c d => F_law n L xs k a b c d) q18.2 x2 x3 x5 q13 q14 q18.1 else if q15 = 3 then if (q13 - q13 / 3 * 3) = 0 then (F_X9_setCode u (1 + (q13 - q13 / 60 * 60)) (q14 - q14 / 61 * 61) 1).bind fun q21 => F_law_J n (fun a b c d => F_law n L xs k a b c d) q21.2 x2 x3 x5 q13 q14 q21.1 else (F_X9_setCode u (1 + (q13 - q13 / 60 * 60)) (q14 - q14 / 61 * 61) 0).bind fun q20 => F_law_J n (fun a b c d => F_law n L xs k a b c d) q20.2 x2 x3 x5 q13 q14 q20.1 else if q15 = 4 then (F_X9_setChanger n u (q13 - q13 / 2 * 2)).bind fun q22 => F_law_J n (fun a b c d => F_law n L xs k a b c d) q22.2 x2 x3 x5 q13 q14 q22.1 else if q15 = 5 then (F_X9_count n u 5).bind fun q23 => (F_X9_addLamp n u q23 (1 + (q13 - q13 / 2000 * 2000)) (1 + (q14 - q14 / 90 * 90))).bind fun q24 => F_law_J n (fun a b c d => F_law n L xs k a b c d) q24.2 x2 x3 x5 q13 q14 q24.1 else if q15 = 6 then (F_X9_count n u 5).bind fun q25 => (F_X9_addLamp n u q25 (1 + (q13 - q13 / 2000 * 2000)) (1 + (q14 - q14 / 90 * 90))).bind fun q26 => F_law_J n (fun a b c d => F_law n L xs k a b c d) q26.2 x2 x3 x5 q13 q14 q26.1 else if q15 = 7 then (F_X9_count n u 5).bind fun q27 => (F_X9_addLamp n u q27 (1 + (q13 - q13 / 2000 * 2000)) (1 + (q14 - q14 / 90 * 90))).bind fun q28 => F_law_J n (fun a b c d => F_law n L xs k a b c d) q28.2 x2 x3 x5 q13 q14 q28.1 else if q15 = 8 then (F_X9_count n u 5).bind fun q29 => (F_X9_addLamp n u q29 (1 + (q13 - q13 / 2000 * 2000)) (1 + (q14 - q14 / 90 * 90))).bind fun q30 => F_law_J n (fun a b c d => F_law n L xs k a b c d) q30.2 x2 x3 x5 q13 q14 q30.1 else if q15 = 9 then (F_X9_takeLamp u (q13 - q13 / 6 * 6)).bind fun q31 => F_law_J n (fun a b c d => F_law n L xs k a b c d) q31.2 x2 x3 x5 q13 q14 q31.1 else if q15 = 10 then (F_X9_set u (q13 - q13 / 2 * 2) (1 + (q14 - q14 / 50 * 50))).bind fun q32 => F_law_J n (fun a b c d => F_law n L xs k a b c d) q32.2 x2 x3 x5 q13 q14 q32.1 else if q15 = 11 then (F_X9_advance n u (1 + (q13 - q13 / 150 * 150))).bind fun q33 => F_law_J n (fun a b c d => F_law n L xs k a b c d) q33.2 x2 x3 x5 q13 q14 q33.1 else if q15 = 12 then (F_X9_advance n u (1 + (q13 - q13 / 150 * 150))).bind fun q34 => F_law_J n (fun a b c d => F_law n L xs k a b c d) q34.2 x2 x3 x5 q13 q14 q34.1 else if q15 = 13 then (F_X9_pass n u ((q13 - q13 / 2000 * 2000) - 1000) ((q14 - q14 / 2000 * 2000) - 1000) ((q14 - q14 / 600 * 600) - 300) (300 - (q13 - q13 / 600 * 600)) (1 + (q13 - q13 / 60 * 60))).bind fun q35 => F_law_J n (fun a b c d => F_law n L xs k a b c d) q35.2 x2 x3 x5 q13 q14 q35.1 else if q15 = 14 then (F_X9_store u).bind fun q36 => (F_L_print n q36.2).bind fun q37 => (F_X9_compare n q37.2 0).bind fun q38 => if q38 = 0 then (F_X9_compare n q37.2 1).bind fun q39 => if q39 = 0 then (F_X9_compare n q37.2 2).bind fun q40 => if q40 = 0 then (F_X9_compare n q37.2 3).bind fun q41 => if q41 = 1000000 then F_law_J n (fun a b c d => F_law n L xs k a b c d) q37.2 (1 : Int32) q37.1 x5 q13 q14 q36.1 else F_law_J n (fun a b c d => F_law n L xs k a b c d) q37.2 (0 : Int32) q37.1 x5 q13 q14 q36.1 else F_law_J n (fun a b c d => F_law n L xs k a b c d) q37.2 (0 : Int32) q37.1 x5 q13 q14 q36.1 else F_law_J n (fun a b c d => F_law n L xs k a b c d) q37.2 (0 : Int32) q37.1 x5 q13 q14 q36.1 else F_law_J n (fun a b c d => F_law n L xs k a b c d) q37.2 (0 : Int32) q37.1 x5 q13 q14 q36.1 else if q15 = 15 then (F_X9_recall u).bind fun q42 => if q42.1 = (-2) then F_law_J n (fun a b c d => F_law n L xs k a b c d) q42.2 (1 : Int32) x3 x5 q13 q14 q42.1 else (F_L_print n q42.2).bind fun q43 => if (lg_cmp q43.1 x3) = 0 then (F_X9_compare n q43.2 3).bind fun q44 => if q44 = 1000000 then F_law_J n (fun a b c d => F_law n L xs k a b c d) q43.2 (1 : Int32) x3 x5 q13 q14 q42.1 else F_law_J n (fun a b c d => F_law n L xs k a b c d) q43.2 (0 : Int32) x3 x5 q13 q14 q42.1 else F_law_J n (fun a b c d => F_law n L xs k a b c d) q43.2 (0 : Int32) x3 x5 q13 q14 q42.1 else (F_X9_undo u).bind fun q45 => F_law_J n (fun a b c d => F_law n L xs k a b c d) q45.2 x2 x3 x5 q13 q14 q45.1
set_option maxHeartbeats 40000000 in
set_option maxRecDepth 100000 in
theorem law_loop {p : Program} {l : Launch} {e : Env} {s : State} {m : MethodId} {below : List Frame} {meth : Method} {cd : Code} {E : GE} {b L : Nat} {xs : Nat → Int32} (hx : p.tables.exec = Jvm.exec) (hb : cd.code = cL_law) (hr : meth.sig.returnType = ret) (hml : cd.maxLocals = 10) (hown : s.vm.findClass RL = some m.cls) (hts : ∀ w ∈ wsL_law, w.before #[Value.ref b] s = true) (hX : va_X b L xs s s.heap) (hbl : b < s.heap.size) (hlocks : meth.locks = false) (hK : gK E s) (hZ : gZ E (fun q : Nat => s.heap.size ≤ q) s s.heap) (n : Nat) (o : Nat) (qh : Nat) (qr : Nat) (qt : Nat) (qs : Nat) (qn : Nat) (fn : Nat → Nat) (fs : Nat → Nat) (ft : Nat → Nat) (gh : Nat → Nat → Nat) :
    ∀ (k : Nat) (u : HLV) (x2 : Int32) (x3 : Int64) (x5 : Int32) (H : Heap) (locs : List Loc), va_P E.1 vwCl (bl [HL_c E o qh qr qt qs qn fn fs ft gh u]) H → va_D (fun q : Nat => s.heap.size ≤ q) (bl [HL_c E o qh qr qt qs qn fn fs ft gh u]) → va_S (fun q : Nat => s.heap.size ≤ q) s.heap H locs → ∀ ls : Array Slot, lv_has ls 10 [(0, .ref b), (1, .ref o), (2, .int x2), (3, .long x3), (5, .int x5)] → F_law n L xs k u x2 x3 x5 = some 1 → W p l e room_1 s m #[Value.ref b] below meth cd H locs 600000 7302250 (lw_Z below #[Value.ref b] s) (F0 m 70 ls []) := by
  obtain ⟨A, hAe⟩ : ∃ A : Nat → Prop, A = fun q : Nat => s.heap.size ≤ q := ⟨_, rfl⟩
  rw [← hAe] at hZ ⊢
  have hA : ∀ q : Nat, s.heap.size ≤ q → A q := fun q h => by rw [hAe]; exact h
  have hbA : ¬ A b := by rw [hAe]; exact Nat.not_le.mpr hbl
  have w0 := hts (.constant RL 129 (1000000)) (by decide +kernel)
  intro k
  induction k with
  | zero => intro u x2 x3 x5 H locs hP hD hS ls hl hF; cases hF
  | succ k ih =>
    have hJ : ∀ (u : HLV) (x2 : Int32) (x3 : Int64) (x5 x7 x8 x9 : Int32) (H : Heap) (locs : List Loc), va_P E.1 vwCl (bl [HL_c E o qh qr qt qs qn fn fs ft gh u]) H → va_D A (bl [HL_c E o qh qr qt qs qn fn fs ft gh u]) → va_S A s.heap H locs → ∀ ls : Array Slot, lv_has ls 10 [(0, .ref b), (1, .ref o), (2, .int x2), (3, .long x3), (5, .int x5), (7, .int x7), (8, .int x8), (9, .int x9)] → F_law_J n (fun a b c d => F_law n L xs k a b c d) u x2 x3 x5 x7 x8 x9 = some 1 → W p l e room_1 s m #[Value.ref b] below meth cd H locs 600000 7302250 (lw_Z below #[Value.ref b] s) (F0 m 510 ls []) := by
      intro u x2 x3 x5 x7 x8 x9 H locs hP hD hS ls hl hF
      rw [F_law_J] at hF
      refine lv_iload_n hx hb dL_law_510 rfl (lv_at hl 2 rfl) ?_
      refine f_if_eq (tgt := 632) hx hb dL_law_511 (by decide) hF (fun hF => ?_) (fun hF => ?_)
      · refine lv_iconst (v := 0) hx hb dL_law_632 (by decide) ?_
        refine lv_istore_n (lv' := [(2, .int 0), (0, .ref b), (1, .ref o), (3, .long x3), (5, .int x5), (7, .int x7), (8, .int x8), (9, .int x9)]) hx hb dL_law_633 rfl hl (by decide) rfl (fun ls hl => ?_)
        refine lv_iinc (v := (x5 + 1)) (lv' := [(5, .int (x5 + 1)), (2, .int 0), (0, .ref b), (1, .ref o), (3, .long x3), (7, .int x7), (8, .int x8), (9, .int x9)]) hx hb dL_law_634 hl (k := 4) rfl rfl (by decide) rfl (fun ls hl => ?_)
        refine lv_goto (tgt := 70) hx hb dL_law_637 (by decide) ?_
        exact ih u (0 : Int32) x3 (x5 + 1) _ _ hP hD hS _ (lv_sub hl [2, 3, 1, 4, 0] rfl) hF
      · refine lv_iload hx hb dL_law_514 (lv_at hl 7 rfl) ?_
        refine lv_bipush (v := (-4)) hx hb dL_law_516 (by decide) ?_
        refine f_icmp_lt (tgt := 632) hx hb dL_law_518 (by decide) hF (fun hF => ?_) (fun hF => ?_)
        · refine lv_iconst (v := 0) hx hb dL_law_632 (by decide) ?_
          refine lv_istore_n (lv' := [(2, .int 0), (0, .ref b), (1, .ref o), (3, .long x3), (5, .int x5), (7, .int x7), (8, .int x8), (9, .int x9)]) hx hb dL_law_633 rfl hl (by decide) rfl (fun ls hl => ?_)
          refine lv_iinc (v := (x5 + 1)) (lv' := [(5, .int (x5 + 1)), (2, .int 0), (0, .ref b), (1, .ref o), (3, .long x3), (7, .int x7), (8, .int x8), (9, .int x9)]) hx hb dL_law_634 hl (k := 4) rfl rfl (by decide) rfl (fun ls hl => ?_)
          refine lv_goto (tgt := 70) hx hb dL_law_637 (by decide) ?_
          exact ih u (0 : Int32) x3 (x5 + 1) _ _ hP hD hS _ (lv_sub hl [2, 3, 1, 4, 0] rfl) hF
        · refine lv_aload_n hx hb dL_law_521 rfl (lv_at hl 1 rfl) ?_
          obtain ⟨q1, h_q1, hF⟩ := bnd_s hF
          refine g_callS (As := [.ref o]) (rest := []) ⟨hx, hb, hml, hown, hts⟩ hK hZ hA (c_L_isLight l E o qh qr qt qs qn fn fs ft gh n u q1 h_q1) (va_cwS 1 hts gL_law_L_isLight rfl rfl rfl (by decide +kernel) ⟨Nat.le_of_ble_eq_true rfl, Nat.le_of_ble_eq_true rfl⟩) hP hD hS [0] [] rfl rfl rfl hl.1 rfl (Nat.le_of_ble_eq_true rfl) dL_law_522 ⟨Nat.le_of_ble_eq_true rfl, Nat.le_of_ble_eq_true rfl⟩ (fun H locs hP hD hS => ?_)
          have hP : va_P E.1 vwCl (bl [HL_c E o qh qr qt qs qn fn fs ft gh u]) H := hP
          have hD : va_D A (bl [HL_c E o qh qr qt qs qn fn fs ft gh u]) := hD
          refine W.eq (g2 := F0 m 525 ls [.int q1]) rfl ?_
          refine f_if_eq (tgt := 632) hx hb dL_law_525 (by decide) hF (fun hF => ?_) (fun hF => ?_)
          · refine lv_iconst (v := 0) hx hb dL_law_632 (by decide) ?_
            refine lv_istore_n (lv' := [(2, .int 0), (0, .ref b), (1, .ref o), (3, .long x3), (5, .int x5), (7, .int x7), (8, .int x8), (9, .int x9)]) hx hb dL_law_633 rfl hl (by decide) rfl (fun ls hl => ?_)
            refine lv_iinc (v := (x5 + 1)) (lv' := [(5, .int (x5 + 1)), (2, .int 0), (0, .ref b), (1, .ref o), (3, .long x3), (7, .int x7), (8, .int x8), (9, .int x9)]) hx hb dL_law_634 hl (k := 4) rfl rfl (by decide) rfl (fun ls hl => ?_)
            refine lv_goto (tgt := 70) hx hb dL_law_637 (by decide) ?_
            exact ih u (0 : Int32) x3 (x5 + 1) _ _ hP hD hS _ (lv_sub hl [2, 3, 1, 4, 0] rfl) hF
          · refine lv_aload_n hx hb dL_law_528 rfl (lv_at hl 1 rfl) ?_
            refine lv_iload hx hb dL_law_529 (lv_at hl 5 rfl) ?_
            refine lv_sipush (v := 400) hx hb dL_law_531 (by decide) ?_
            refine lv_irem hx hb dL_law_534 (by decide) ?_
            refine lv_sipush (v := 200) hx hb dL_law_535 (by decide) ?_
            refine lv_isub hx hb dL_law_538 ?_
            refine lv_iload hx hb dL_law_539 (lv_at hl 6 rfl) ?_
            refine lv_sipush (v := 400) hx hb dL_law_541 (by decide) ?_
            refine lv_irem hx hb dL_law_544 (by decide) ?_
            refine lv_sipush (v := 200) hx hb dL_law_545 (by decide) ?_
            refine lv_isub hx hb dL_law_548 ?_
            obtain ⟨q2, h_q2, hF⟩ := bnd_s hF
            refine g_callS (As := [.ref o, .int ((x7 - x7 / 400 * 400) - 200), .int ((x8 - x8 / 400 * 400) - 200)]) (rest := []) ⟨hx, hb, hml, hown, hts⟩ hK hZ hA (c_L_areDirections l E o qh qr qt qs qn fn fs ft gh n u ((x7 - x7 / 400 * 400) - 200) ((x8 - x8 / 400 * 400) - 200) q2 h_q2) (va_cwS 3 hts gL_law_L_areDirections rfl rfl rfl (by decide +kernel) ⟨Nat.le_of_ble_eq_true rfl, Nat.le_of_ble_eq_true rfl⟩) hP hD hS [0] [] rfl rfl rfl hl.1 rfl (Nat.le_of_ble_eq_true rfl) dL_law_549 ⟨Nat.le_of_ble_eq_true rfl, Nat.le_of_ble_eq_true rfl⟩ (fun H locs hP hD hS => ?_)
            have hP : va_P E.1 vwCl (bl [HL_c E o qh qr qt qs qn fn fs ft gh q2.2]) H := hP
            have hD : va_D A (bl [HL_c E o qh qr qt qs qn fn fs ft gh q2.2]) := hD
            refine W.eq (g2 := F0 m 552 ls [.int q2.1]) rfl ?_
            refine f_if_eq (tgt := 632) hx hb dL_law_552 (by decide) hF (fun hF => ?_) (fun hF => ?_)
            · refine lv_iconst (v := 0) hx hb dL_law_632 (by decide) ?_
              refine lv_istore_n (lv' := [(2, .int 0), (0, .ref b), (1, .ref o), (3, .long x3), (5, .int x5), (7, .int x7), (8, .int x8), (9, .int x9)]) hx hb dL_law_633 rfl hl (by decide) rfl (fun ls hl => ?_)
              refine lv_iinc (v := (x5 + 1)) (lv' := [(5, .int (x5 + 1)), (2, .int 0), (0, .ref b), (1, .ref o), (3, .long x3), (7, .int x7), (8, .int x8), (9, .int x9)]) hx hb dL_law_634 hl (k := 4) rfl rfl (by decide) rfl (fun ls hl => ?_)
              refine lv_goto (tgt := 70) hx hb dL_law_637 (by decide) ?_
              exact ih q2.2 (0 : Int32) x3 (x5 + 1) _ _ hP hD hS _ (lv_sub hl [2, 3, 1, 4, 0] rfl) hF
            · refine lv_iload hx hb dL_law_555 (lv_at hl 4 rfl) ?_
              refine lv_iconst (v := 4) hx hb dL_law_557 (by decide) ?_
              refine lv_irem hx hb dL_law_558 (by decide) ?_
              refine lv_iconst (v := 1) hx hb dL_law_559 (by decide) ?_
              refine f_icmp_ne (tgt := 570) hx hb dL_law_560 (by decide) hF (fun hF => ?_) (fun hF => ?_)
              · refine lv_iload hx hb dL_law_570 (lv_at hl 4 rfl) ?_
                refine lv_iconst (v := 3) hx hb dL_law_572 (by decide) ?_
                refine lv_irem hx hb dL_law_573 (by decide) ?_
                refine lv_iconst (v := 2) hx hb dL_law_574 (by decide) ?_
                refine f_icmp_ne (tgt := 612) hx hb dL_law_575 (by decide) hF (fun hF => ?_) (fun hF => ?_)
                · refine lv_iload hx hb dL_law_612 (lv_at hl 4 rfl) ?_
                  refine lv_bipush (v := 8) hx hb dL_law_614 (by decide) ?_
                  refine lv_irem hx hb dL_law_616 (by decide) ?_
                  refine lv_iconst (v := 5) hx hb dL_law_617 (by decide) ?_
                  refine f_icmp_ne (tgt := 628) hx hb dL_law_618 (by decide) hF (fun hF => ?_) (fun hF => ?_)
                  · refine lv_iconst (v := 1) hx hb dL_law_628 (by decide) ?_
                    refine lv_goto (tgt := 633) hx hb dL_law_629 (by decide) ?_
                    refine lv_istore_n (lv' := [(2, .int 1), (0, .ref b), (1, .ref o), (3, .long x3), (5, .int x5), (7, .int x7), (8, .int x8), (9, .int x9)]) hx hb dL_law_633 rfl hl (by decide) rfl (fun ls hl => ?_)
                    refine lv_iinc (v := (x5 + 1)) (lv' := [(5, .int (x5 + 1)), (2, .int 1), (0, .ref b), (1, .ref o), (3, .long x3), (7, .int x7), (8, .int x8), (9, .int x9)]) hx hb dL_law_634 hl (k := 4) rfl rfl (by decide) rfl (fun ls hl => ?_)
                    refine lv_goto (tgt := 70) hx hb dL_law_637 (by decide) ?_
                    exact ih q2.2 (1 : Int32) x3 (x5 + 1) _ _ hP hD hS _ (lv_sub hl [2, 3, 1, 4, 0] rfl) hF
                  · refine lv_aload_n hx hb dL_law_621 rfl (lv_at hl 1 rfl) ?_
                    obtain ⟨q3, h_q3, hF⟩ := bnd_s hF
                    refine g_callS (As := [.ref o]) (rest := []) ⟨hx, hb, hml, hown, hts⟩ hK hZ hA (c_L_areErrors l E o qh qr qt qs qn fn fs ft gh n q2.2 q3 h_q3) (va_cwS 1 hts gL_law_L_areErrors rfl rfl rfl (by decide +kernel) ⟨Nat.le_of_ble_eq_true rfl, Nat.le_of_ble_eq_true rfl⟩) hP hD hS [0] [] rfl rfl rfl hl.1 rfl (Nat.le_of_ble_eq_true rfl) dL_law_622 ⟨Nat.le_of_ble_eq_true rfl, Nat.le_of_ble_eq_true rfl⟩ (fun H locs hP hD hS => ?_)
                    have hP : va_P E.1 vwCl (bl [HL_c E o qh qr qt qs qn fn fs ft gh q3.2]) H := hP
                    have hD : va_D A (bl [HL_c E o qh qr qt qs qn fn fs ft gh q3.2]) := hD
                    refine W.eq (g2 := F0 m 625 ls [.int q3.1]) rfl ?_
                    refine f_if_eq (tgt := 632) hx hb dL_law_625 (by decide) hF (fun hF => ?_) (fun hF => ?_)
                    · refine lv_iconst (v := 0) hx hb dL_law_632 (by decide) ?_
                      refine lv_istore_n (lv' := [(2, .int 0), (0, .ref b), (1, .ref o), (3, .long x3), (5, .int x5), (7, .int x7), (8, .int x8), (9, .int x9)]) hx hb dL_law_633 rfl hl (by decide) rfl (fun ls hl => ?_)
                      refine lv_iinc (v := (x5 + 1)) (lv' := [(5, .int (x5 + 1)), (2, .int 0), (0, .ref b), (1, .ref o), (3, .long x3), (7, .int x7), (8, .int x8), (9, .int x9)]) hx hb dL_law_634 hl (k := 4) rfl rfl (by decide) rfl (fun ls hl => ?_)
                      refine lv_goto (tgt := 70) hx hb dL_law_637 (by decide) ?_
                      exact ih q3.2 (0 : Int32) x3 (x5 + 1) _ _ hP hD hS _ (lv_sub hl [2, 3, 1, 4, 0] rfl) hF
                    · refine lv_iconst (v := 1) hx hb dL_law_628 (by decide) ?_
                      refine lv_goto (tgt := 633) hx hb dL_law_629 (by decide) ?_
                      refine lv_istore_n (lv' := [(2, .int 1), (0, .ref b), (1, .ref o), (3, .long x3), (5, .int x5), (7, .int x7), (8, .int x8), (9, .int x9)]) hx hb dL_law_633 rfl hl (by decide) rfl (fun ls hl => ?_)
                      refine lv_iinc (v := (x5 + 1)) (lv' := [(5, .int (x5 + 1)), (2, .int 1), (0, .ref b), (1, .ref o), (3, .long x3), (7, .int x7), (8, .int x8), (9, .int x9)]) hx hb dL_law_634 hl (k := 4) rfl rfl (by decide) rfl (fun ls hl => ?_)
                      refine lv_goto (tgt := 70) hx hb dL_law_637 (by decide) ?_
                      exact ih q3.2 (1 : Int32) x3 (x5 + 1) _ _ hP hD hS _ (lv_sub hl [2, 3, 1, 4, 0] rfl) hF
                · refine lv_aload_n hx hb dL_law_578 rfl (lv_at hl 1 rfl) ?_
                  refine lv_iload hx hb dL_law_579 (lv_at hl 6 rfl) ?_
                  refine lv_sipush (v := 900) hx hb dL_law_581 (by decide) ?_
                  refine lv_irem hx hb dL_law_584 (by decide) ?_
                  refine lv_sipush (v := 450) hx hb dL_law_585 (by decide) ?_
                  refine lv_isub hx hb dL_law_588 ?_
                  refine lv_iload hx hb dL_law_589 (lv_at hl 5 rfl) ?_
                  refine lv_sipush (v := 900) hx hb dL_law_591 (by decide) ?_
                  refine lv_irem hx hb dL_law_594 (by decide) ?_
                  refine lv_sipush (v := 450) hx hb dL_law_595 (by decide) ?_
                  refine lv_isub hx hb dL_law_598 ?_
                  refine lv_iconst (v := 1) hx hb dL_law_599 (by decide) ?_
                  refine lv_iload hx hb dL_law_600 (lv_at hl 5 rfl) ?_
                  refine lv_bipush (v := 70) hx hb dL_law_602 (by decide) ?_
                  refine lv_irem hx hb dL_law_604 (by decide) ?_
                  refine lv_iadd hx hb dL_law_605 ?_
                  obtain ⟨q4, h_q4, hF⟩ := bnd_s hF
                  refine g_callS (As := [.ref o, .int ((x8 - x8 / 900 * 900) - 450), .int ((x7 - x7 / 900 * 900) - 450), .int (1 + (x7 - x7 / 70 * 70))]) (rest := []) ⟨hx, hb, hml, hown, hts⟩ hK hZ hA (c_L_isPassage l E o qh qr qt qs qn fn fs ft gh n q2.2 ((x8 - x8 / 900 * 900) - 450) ((x7 - x7 / 900 * 900) - 450) (1 + (x7 - x7 / 70 * 70)) q4 h_q4) (va_cwS 4 hts gL_law_L_isPassage rfl rfl rfl (by decide +kernel) ⟨Nat.le_of_ble_eq_true rfl, Nat.le_of_ble_eq_true rfl⟩) hP hD hS [0] [] rfl rfl rfl hl.1 rfl (Nat.le_of_ble_eq_true rfl) dL_law_606 ⟨Nat.le_of_ble_eq_true rfl, Nat.le_of_ble_eq_true rfl⟩ (fun H locs hP hD hS => ?_)
                  have hP : va_P E.1 vwCl (bl [HL_c E o qh qr qt qs qn fn fs ft gh q4.2]) H := hP
                  have hD : va_D A (bl [HL_c E o qh qr qt qs qn fn fs ft gh q4.2]) := hD
                  refine W.eq (g2 := F0 m 609 ls [.int q4.1]) rfl ?_
                  refine f_if_eq (tgt := 632) hx hb dL_law_609 (by decide) hF (fun hF => ?_) (fun hF => ?_)
                  · refine lv_iconst (v := 0) hx hb dL_law_632 (by decide) ?_
                    refine lv_istore_n (lv' := [(2, .int 0), (0, .ref b), (1, .ref o), (3, .long x3), (5, .int x5), (7, .int x7), (8, .int x8), (9, .int x9)]) hx hb dL_law_633 rfl hl (by decide) rfl (fun ls hl => ?_)
                    refine lv_iinc (v := (x5 + 1)) (lv' := [(5, .int (x5 + 1)), (2, .int 0), (0, .ref b), (1, .ref o), (3, .long x3), (7, .int x7), (8, .int x8), (9, .int x9)]) hx hb dL_law_634 hl (k := 4) rfl rfl (by decide) rfl (fun ls hl => ?_)
                    refine lv_goto (tgt := 70) hx hb dL_law_637 (by decide) ?_
                    exact ih q4.2 (0 : Int32) x3 (x5 + 1) _ _ hP hD hS _ (lv_sub hl [2, 3, 1, 4, 0] rfl) hF
                  · refine lv_iload hx hb dL_law_612 (lv_at hl 4 rfl) ?_
                    refine lv_bipush (v := 8) hx hb dL_law_614 (by decide) ?_
                    refine lv_irem hx hb dL_law_616 (by decide) ?_
                    refine lv_iconst (v := 5) hx hb dL_law_617 (by decide) ?_
                    refine f_icmp_ne (tgt := 628) hx hb dL_law_618 (by decide) hF (fun hF => ?_) (fun hF => ?_)
                    · refine lv_iconst (v := 1) hx hb dL_law_628 (by decide) ?_
                      refine lv_goto (tgt := 633) hx hb dL_law_629 (by decide) ?_
                      refine lv_istore_n (lv' := [(2, .int 1), (0, .ref b), (1, .ref o), (3, .long x3), (5, .int x5), (7, .int x7), (8, .int x8), (9, .int x9)]) hx hb dL_law_633 rfl hl (by decide) rfl (fun ls hl => ?_)
                      refine lv_iinc (v := (x5 + 1)) (lv' := [(5, .int (x5 + 1)), (2, .int 1), (0, .ref b), (1, .ref o), (3, .long x3), (7, .int x7), (8, .int x8), (9, .int x9)]) hx hb dL_law_634 hl (k := 4) rfl rfl (by decide) rfl (fun ls hl => ?_)
                      refine lv_goto (tgt := 70) hx hb dL_law_637 (by decide) ?_
                      exact ih q4.2 (1 : Int32) x3 (x5 + 1) _ _ hP hD hS _ (lv_sub hl [2, 3, 1, 4, 0] rfl) hF
                    · refine lv_aload_n hx hb dL_law_621 rfl (lv_at hl 1 rfl) ?_
                      obtain ⟨q5, h_q5, hF⟩ := bnd_s hF
                      refine g_callS (As := [.ref o]) (rest := []) ⟨hx, hb, hml, hown, hts⟩ hK hZ hA (c_L_areErrors l E o qh qr qt qs qn fn fs ft gh n q4.2 q5 h_q5) (va_cwS 1 hts gL_law_L_areErrors rfl rfl rfl (by decide +kernel) ⟨Nat.le_of_ble_eq_true rfl, Nat.le_of_ble_eq_true rfl⟩) hP hD hS [0] [] rfl rfl rfl hl.1 rfl (Nat.le_of_ble_eq_true rfl) dL_law_622 ⟨Nat.le_of_ble_eq_true rfl, Nat.le_of_ble_eq_true rfl⟩ (fun H locs hP hD hS => ?_)
                      have hP : va_P E.1 vwCl (bl [HL_c E o qh qr qt qs qn fn fs ft gh q5.2]) H := hP
                      have hD : va_D A (bl [HL_c E o qh qr qt qs qn fn fs ft gh q5.2]) := hD
                      refine W.eq (g2 := F0 m 625 ls [.int q5.1]) rfl ?_
                      refine f_if_eq (tgt := 632) hx hb dL_law_625 (by decide) hF (fun hF => ?_) (fun hF => ?_)
                      · refine lv_iconst (v := 0) hx hb dL_law_632 (by decide) ?_
                        refine lv_istore_n (lv' := [(2, .int 0), (0, .ref b), (1, .ref o), (3, .long x3), (5, .int x5), (7, .int x7), (8, .int x8), (9, .int x9)]) hx hb dL_law_633 rfl hl (by decide) rfl (fun ls hl => ?_)
                        refine lv_iinc (v := (x5 + 1)) (lv' := [(5, .int (x5 + 1)), (2, .int 0), (0, .ref b), (1, .ref o), (3, .long x3), (7, .int x7), (8, .int x8), (9, .int x9)]) hx hb dL_law_634 hl (k := 4) rfl rfl (by decide) rfl (fun ls hl => ?_)
                        refine lv_goto (tgt := 70) hx hb dL_law_637 (by decide) ?_
                        exact ih q5.2 (0 : Int32) x3 (x5 + 1) _ _ hP hD hS _ (lv_sub hl [2, 3, 1, 4, 0] rfl) hF
                      · refine lv_iconst (v := 1) hx hb dL_law_628 (by decide) ?_
                        refine lv_goto (tgt := 633) hx hb dL_law_629 (by decide) ?_
                        refine lv_istore_n (lv' := [(2, .int 1), (0, .ref b), (1, .ref o), (3, .long x3), (5, .int x5), (7, .int x7), (8, .int x8), (9, .int x9)]) hx hb dL_law_633 rfl hl (by decide) rfl (fun ls hl => ?_)
                        refine lv_iinc (v := (x5 + 1)) (lv' := [(5, .int (x5 + 1)), (2, .int 1), (0, .ref b), (1, .ref o), (3, .long x3), (7, .int x7), (8, .int x8), (9, .int x9)]) hx hb dL_law_634 hl (k := 4) rfl rfl (by decide) rfl (fun ls hl => ?_)
                        refine lv_goto (tgt := 70) hx hb dL_law_637 (by decide) ?_
                        exact ih q5.2 (1 : Int32) x3 (x5 + 1) _ _ hP hD hS _ (lv_sub hl [2, 3, 1, 4, 0] rfl) hF
              · refine lv_aload_n hx hb dL_law_563 rfl (lv_at hl 1 rfl) ?_
                obtain ⟨q6, h_q6, hF⟩ := bnd_s hF
                refine g_callS (As := [.ref o]) (rest := []) ⟨hx, hb, hml, hown, hts⟩ hK hZ hA (c_L_isAhead l E o qh qr qt qs qn fn fs ft gh n q2.2 q6 h_q6) (va_cwS 1 hts gL_law_L_isAhead rfl rfl rfl (by decide +kernel) ⟨Nat.le_of_ble_eq_true rfl, Nat.le_of_ble_eq_true rfl⟩) hP hD hS [0] [] rfl rfl rfl hl.1 rfl (Nat.le_of_ble_eq_true rfl) dL_law_564 ⟨Nat.le_of_ble_eq_true rfl, Nat.le_of_ble_eq_true rfl⟩ (fun H locs hP hD hS => ?_)
                have hP : va_P E.1 vwCl (bl [HL_c E o qh qr qt qs qn fn fs ft gh q6.2]) H := hP
                have hD : va_D A (bl [HL_c E o qh qr qt qs qn fn fs ft gh q6.2]) := hD
                refine W.eq (g2 := F0 m 567 ls [.int q6.1]) rfl ?_
                refine f_if_eq (tgt := 632) hx hb dL_law_567 (by decide) hF (fun hF => ?_) (fun hF => ?_)
                · refine lv_iconst (v := 0) hx hb dL_law_632 (by decide) ?_
                  refine lv_istore_n (lv' := [(2, .int 0), (0, .ref b), (1, .ref o), (3, .long x3), (5, .int x5), (7, .int x7), (8, .int x8), (9, .int x9)]) hx hb dL_law_633 rfl hl (by decide) rfl (fun ls hl => ?_)
                  refine lv_iinc (v := (x5 + 1)) (lv' := [(5, .int (x5 + 1)), (2, .int 0), (0, .ref b), (1, .ref o), (3, .long x3), (7, .int x7), (8, .int x8), (9, .int x9)]) hx hb dL_law_634 hl (k := 4) rfl rfl (by decide) rfl (fun ls hl => ?_)
                  refine lv_goto (tgt := 70) hx hb dL_law_637 (by decide) ?_
                  exact ih q6.2 (0 : Int32) x3 (x5 + 1) _ _ hP hD hS _ (lv_sub hl [2, 3, 1, 4, 0] rfl) hF
                · refine lv_iload hx hb dL_law_570 (lv_at hl 4 rfl) ?_
                  refine lv_iconst (v := 3) hx hb dL_law_572 (by decide) ?_
                  refine lv_irem hx hb dL_law_573 (by decide) ?_
                  refine lv_iconst (v := 2) hx hb dL_law_574 (by decide) ?_
                  refine f_icmp_ne (tgt := 612) hx hb dL_law_575 (by decide) hF (fun hF => ?_) (fun hF => ?_)
                  · refine lv_iload hx hb dL_law_612 (lv_at hl 4 rfl) ?_
                    refine lv_bipush (v := 8) hx hb dL_law_614 (by decide) ?_
                    refine lv_irem hx hb dL_law_616 (by decide) ?_
                    refine lv_iconst (v := 5) hx hb dL_law_617 (by decide) ?_
                    refine f_icmp_ne (tgt := 628) hx hb dL_law_618 (by decide) hF (fun hF => ?_) (fun hF => ?_)
                    · refine lv_iconst (v := 1) hx hb dL_law_628 (by decide) ?_
                      refine lv_goto (tgt := 633) hx hb dL_law_629 (by decide) ?_
                      refine lv_istore_n (lv' := [(2, .int 1), (0, .ref b), (1, .ref o), (3, .long x3), (5, .int x5), (7, .int x7), (8, .int x8), (9, .int x9)]) hx hb dL_law_633 rfl hl (by decide) rfl (fun ls hl => ?_)
                      refine lv_iinc (v := (x5 + 1)) (lv' := [(5, .int (x5 + 1)), (2, .int 1), (0, .ref b), (1, .ref o), (3, .long x3), (7, .int x7), (8, .int x8), (9, .int x9)]) hx hb dL_law_634 hl (k := 4) rfl rfl (by decide) rfl (fun ls hl => ?_)
                      refine lv_goto (tgt := 70) hx hb dL_law_637 (by decide) ?_
                      exact ih q6.2 (1 : Int32) x3 (x5 + 1) _ _ hP hD hS _ (lv_sub hl [2, 3, 1, 4, 0] rfl) hF
                    · refine lv_aload_n hx hb dL_law_621 rfl (lv_at hl 1 rfl) ?_
                      obtain ⟨q7, h_q7, hF⟩ := bnd_s hF
                      refine g_callS (As := [.ref o]) (rest := []) ⟨hx, hb, hml, hown, hts⟩ hK hZ hA (c_L_areErrors l E o qh qr qt qs qn fn fs ft gh n q6.2 q7 h_q7) (va_cwS 1 hts gL_law_L_areErrors rfl rfl rfl (by decide +kernel) ⟨Nat.le_of_ble_eq_true rfl, Nat.le_of_ble_eq_true rfl⟩) hP hD hS [0] [] rfl rfl rfl hl.1 rfl (Nat.le_of_ble_eq_true rfl) dL_law_622 ⟨Nat.le_of_ble_eq_true rfl, Nat.le_of_ble_eq_true rfl⟩ (fun H locs hP hD hS => ?_)
                      have hP : va_P E.1 vwCl (bl [HL_c E o qh qr qt qs qn fn fs ft gh q7.2]) H := hP
                      have hD : va_D A (bl [HL_c E o qh qr qt qs qn fn fs ft gh q7.2]) := hD
                      refine W.eq (g2 := F0 m 625 ls [.int q7.1]) rfl ?_
                      refine f_if_eq (tgt := 632) hx hb dL_law_625 (by decide) hF (fun hF => ?_) (fun hF => ?_)
                      · refine lv_iconst (v := 0) hx hb dL_law_632 (by decide) ?_
                        refine lv_istore_n (lv' := [(2, .int 0), (0, .ref b), (1, .ref o), (3, .long x3), (5, .int x5), (7, .int x7), (8, .int x8), (9, .int x9)]) hx hb dL_law_633 rfl hl (by decide) rfl (fun ls hl => ?_)
                        refine lv_iinc (v := (x5 + 1)) (lv' := [(5, .int (x5 + 1)), (2, .int 0), (0, .ref b), (1, .ref o), (3, .long x3), (7, .int x7), (8, .int x8), (9, .int x9)]) hx hb dL_law_634 hl (k := 4) rfl rfl (by decide) rfl (fun ls hl => ?_)
                        refine lv_goto (tgt := 70) hx hb dL_law_637 (by decide) ?_
                        exact ih q7.2 (0 : Int32) x3 (x5 + 1) _ _ hP hD hS _ (lv_sub hl [2, 3, 1, 4, 0] rfl) hF
                      · refine lv_iconst (v := 1) hx hb dL_law_628 (by decide) ?_
                        refine lv_goto (tgt := 633) hx hb dL_law_629 (by decide) ?_
                        refine lv_istore_n (lv' := [(2, .int 1), (0, .ref b), (1, .ref o), (3, .long x3), (5, .int x5), (7, .int x7), (8, .int x8), (9, .int x9)]) hx hb dL_law_633 rfl hl (by decide) rfl (fun ls hl => ?_)
                        refine lv_iinc (v := (x5 + 1)) (lv' := [(5, .int (x5 + 1)), (2, .int 1), (0, .ref b), (1, .ref o), (3, .long x3), (7, .int x7), (8, .int x8), (9, .int x9)]) hx hb dL_law_634 hl (k := 4) rfl rfl (by decide) rfl (fun ls hl => ?_)
                        refine lv_goto (tgt := 70) hx hb dL_law_637 (by decide) ?_
                        exact ih q7.2 (1 : Int32) x3 (x5 + 1) _ _ hP hD hS _ (lv_sub hl [2, 3, 1, 4, 0] rfl) hF
                  · refine lv_aload_n hx hb dL_law_578 rfl (lv_at hl 1 rfl) ?_
                    refine lv_iload hx hb dL_law_579 (lv_at hl 6 rfl) ?_
                    refine lv_sipush (v := 900) hx hb dL_law_581 (by decide) ?_
                    refine lv_irem hx hb dL_law_584 (by decide) ?_
                    refine lv_sipush (v := 450) hx hb dL_law_585 (by decide) ?_
                    refine lv_isub hx hb dL_law_588 ?_
                    refine lv_iload hx hb dL_law_589 (lv_at hl 5 rfl) ?_
                    refine lv_sipush (v := 900) hx hb dL_law_591 (by decide) ?_
                    refine lv_irem hx hb dL_law_594 (by decide) ?_
                    refine lv_sipush (v := 450) hx hb dL_law_595 (by decide) ?_
                    refine lv_isub hx hb dL_law_598 ?_
                    refine lv_iconst (v := 1) hx hb dL_law_599 (by decide) ?_
                    refine lv_iload hx hb dL_law_600 (lv_at hl 5 rfl) ?_
                    refine lv_bipush (v := 70) hx hb dL_law_602 (by decide) ?_
                    refine lv_irem hx hb dL_law_604 (by decide) ?_
                    refine lv_iadd hx hb dL_law_605 ?_
                    obtain ⟨q8, h_q8, hF⟩ := bnd_s hF
                    refine g_callS (As := [.ref o, .int ((x8 - x8 / 900 * 900) - 450), .int ((x7 - x7 / 900 * 900) - 450), .int (1 + (x7 - x7 / 70 * 70))]) (rest := []) ⟨hx, hb, hml, hown, hts⟩ hK hZ hA (c_L_isPassage l E o qh qr qt qs qn fn fs ft gh n q6.2 ((x8 - x8 / 900 * 900) - 450) ((x7 - x7 / 900 * 900) - 450) (1 + (x7 - x7 / 70 * 70)) q8 h_q8) (va_cwS 4 hts gL_law_L_isPassage rfl rfl rfl (by decide +kernel) ⟨Nat.le_of_ble_eq_true rfl, Nat.le_of_ble_eq_true rfl⟩) hP hD hS [0] [] rfl rfl rfl hl.1 rfl (Nat.le_of_ble_eq_true rfl) dL_law_606 ⟨Nat.le_of_ble_eq_true rfl, Nat.le_of_ble_eq_true rfl⟩ (fun H locs hP hD hS => ?_)
                    have hP : va_P E.1 vwCl (bl [HL_c E o qh qr qt qs qn fn fs ft gh q8.2]) H := hP
                    have hD : va_D A (bl [HL_c E o qh qr qt qs qn fn fs ft gh q8.2]) := hD
                    refine W.eq (g2 := F0 m 609 ls [.int q8.1]) rfl ?_
                    refine f_if_eq (tgt := 632) hx hb dL_law_609 (by decide) hF (fun hF => ?_) (fun hF => ?_)
                    · refine lv_iconst (v := 0) hx hb dL_law_632 (by decide) ?_
                      refine lv_istore_n (lv' := [(2, .int 0), (0, .ref b), (1, .ref o), (3, .long x3), (5, .int x5), (7, .int x7), (8, .int x8), (9, .int x9)]) hx hb dL_law_633 rfl hl (by decide) rfl (fun ls hl => ?_)
                      refine lv_iinc (v := (x5 + 1)) (lv' := [(5, .int (x5 + 1)), (2, .int 0), (0, .ref b), (1, .ref o), (3, .long x3), (7, .int x7), (8, .int x8), (9, .int x9)]) hx hb dL_law_634 hl (k := 4) rfl rfl (by decide) rfl (fun ls hl => ?_)
                      refine lv_goto (tgt := 70) hx hb dL_law_637 (by decide) ?_
                      exact ih q8.2 (0 : Int32) x3 (x5 + 1) _ _ hP hD hS _ (lv_sub hl [2, 3, 1, 4, 0] rfl) hF
                    · refine lv_iload hx hb dL_law_612 (lv_at hl 4 rfl) ?_
                      refine lv_bipush (v := 8) hx hb dL_law_614 (by decide) ?_
                      refine lv_irem hx hb dL_law_616 (by decide) ?_
                      refine lv_iconst (v := 5) hx hb dL_law_617 (by decide) ?_
                      refine f_icmp_ne (tgt := 628) hx hb dL_law_618 (by decide) hF (fun hF => ?_) (fun hF => ?_)
                      · refine lv_iconst (v := 1) hx hb dL_law_628 (by decide) ?_
                        refine lv_goto (tgt := 633) hx hb dL_law_629 (by decide) ?_
                        refine lv_istore_n (lv' := [(2, .int 1), (0, .ref b), (1, .ref o), (3, .long x3), (5, .int x5), (7, .int x7), (8, .int x8), (9, .int x9)]) hx hb dL_law_633 rfl hl (by decide) rfl (fun ls hl => ?_)
                        refine lv_iinc (v := (x5 + 1)) (lv' := [(5, .int (x5 + 1)), (2, .int 1), (0, .ref b), (1, .ref o), (3, .long x3), (7, .int x7), (8, .int x8), (9, .int x9)]) hx hb dL_law_634 hl (k := 4) rfl rfl (by decide) rfl (fun ls hl => ?_)
                        refine lv_goto (tgt := 70) hx hb dL_law_637 (by decide) ?_
                        exact ih q8.2 (1 : Int32) x3 (x5 + 1) _ _ hP hD hS _ (lv_sub hl [2, 3, 1, 4, 0] rfl) hF
                      · refine lv_aload_n hx hb dL_law_621 rfl (lv_at hl 1 rfl) ?_
                        obtain ⟨q9, h_q9, hF⟩ := bnd_s hF
                        refine g_callS (As := [.ref o]) (rest := []) ⟨hx, hb, hml, hown, hts⟩ hK hZ hA (c_L_areErrors l E o qh qr qt qs qn fn fs ft gh n q8.2 q9 h_q9) (va_cwS 1 hts gL_law_L_areErrors rfl rfl rfl (by decide +kernel) ⟨Nat.le_of_ble_eq_true rfl, Nat.le_of_ble_eq_true rfl⟩) hP hD hS [0] [] rfl rfl rfl hl.1 rfl (Nat.le_of_ble_eq_true rfl) dL_law_622 ⟨Nat.le_of_ble_eq_true rfl, Nat.le_of_ble_eq_true rfl⟩ (fun H locs hP hD hS => ?_)
                        have hP : va_P E.1 vwCl (bl [HL_c E o qh qr qt qs qn fn fs ft gh q9.2]) H := hP
                        have hD : va_D A (bl [HL_c E o qh qr qt qs qn fn fs ft gh q9.2]) := hD
                        refine W.eq (g2 := F0 m 625 ls [.int q9.1]) rfl ?_
                        refine f_if_eq (tgt := 632) hx hb dL_law_625 (by decide) hF (fun hF => ?_) (fun hF => ?_)
                        · refine lv_iconst (v := 0) hx hb dL_law_632 (by decide) ?_
                          refine lv_istore_n (lv' := [(2, .int 0), (0, .ref b), (1, .ref o), (3, .long x3), (5, .int x5), (7, .int x7), (8, .int x8), (9, .int x9)]) hx hb dL_law_633 rfl hl (by decide) rfl (fun ls hl => ?_)
                          refine lv_iinc (v := (x5 + 1)) (lv' := [(5, .int (x5 + 1)), (2, .int 0), (0, .ref b), (1, .ref o), (3, .long x3), (7, .int x7), (8, .int x8), (9, .int x9)]) hx hb dL_law_634 hl (k := 4) rfl rfl (by decide) rfl (fun ls hl => ?_)
                          refine lv_goto (tgt := 70) hx hb dL_law_637 (by decide) ?_
                          exact ih q9.2 (0 : Int32) x3 (x5 + 1) _ _ hP hD hS _ (lv_sub hl [2, 3, 1, 4, 0] rfl) hF
                        · refine lv_iconst (v := 1) hx hb dL_law_628 (by decide) ?_
                          refine lv_goto (tgt := 633) hx hb dL_law_629 (by decide) ?_
                          refine lv_istore_n (lv' := [(2, .int 1), (0, .ref b), (1, .ref o), (3, .long x3), (5, .int x5), (7, .int x7), (8, .int x8), (9, .int x9)]) hx hb dL_law_633 rfl hl (by decide) rfl (fun ls hl => ?_)
                          refine lv_iinc (v := (x5 + 1)) (lv' := [(5, .int (x5 + 1)), (2, .int 1), (0, .ref b), (1, .ref o), (3, .long x3), (7, .int x7), (8, .int x8), (9, .int x9)]) hx hb dL_law_634 hl (k := 4) rfl rfl (by decide) rfl (fun ls hl => ?_)
                          refine lv_goto (tgt := 70) hx hb dL_law_637 (by decide) ?_
                          exact ih q9.2 (1 : Int32) x3 (x5 + 1) _ _ hP hD hS _ (lv_sub hl [2, 3, 1, 4, 0] rfl) hF
    intro u x2 x3 x5 H locs hP hD hS ls hl hF
    rw [F_law] at hF
    refine lv_iload hx hb dL_law_70 (lv_at hl 4 rfl) ?_
    refine lv_bipush (v := 30) hx hb dL_law_72 (by decide) ?_
    refine f_icmp_ge (tgt := 640) hx hb dL_law_74 (by decide) hF (fun hF => ?_) (fun hF => ?_)
    · refine lv_iload_n hx hb dL_law_640 rfl (lv_at hl 2 rfl) ?_
      refine f_if_eq (tgt := 655) hx hb dL_law_641 (by decide) hF (fun hF => ?_) (fun hF => ?_)
      · refine lv_iconst (v := 0) hx hb dL_law_655 (by decide) ?_
        cases hF
      · refine lv_aload_n hx hb dL_law_644 rfl (lv_at hl 1 rfl) ?_
        obtain ⟨q10, h_q10, hF⟩ := bnd_s hF
        refine g_callS (As := [.ref o]) (rest := []) ⟨hx, hb, hml, hown, hts⟩ hK hZ hA (c_L_areErrors l E o qh qr qt qs qn fn fs ft gh n u q10 h_q10) (va_cwS 1 hts gL_law_L_areErrors rfl rfl rfl (by decide +kernel) ⟨Nat.le_of_ble_eq_true rfl, Nat.le_of_ble_eq_true rfl⟩) hP hD hS [0] [] rfl rfl rfl hl.1 rfl (Nat.le_of_ble_eq_true rfl) dL_law_645 ⟨Nat.le_of_ble_eq_true rfl, Nat.le_of_ble_eq_true rfl⟩ (fun H locs hP hD hS => ?_)
        have hP : va_P E.1 vwCl (bl [HL_c E o qh qr qt qs qn fn fs ft gh q10.2]) H := hP
        have hD : va_D A (bl [HL_c E o qh qr qt qs qn fn fs ft gh q10.2]) := hD
        refine W.eq (g2 := F0 m 648 ls [.int q10.1]) rfl ?_
        refine f_if_eq (tgt := 655) hx hb dL_law_648 (by decide) hF (fun hF => ?_) (fun hF => ?_)
        · refine lv_iconst (v := 0) hx hb dL_law_655 (by decide) ?_
          cases hF
        · refine lv_iconst (v := 1) hx hb dL_law_651 (by decide) ?_
          refine lv_goto (tgt := 656) hx hb dL_law_652 (by decide) ?_
          refine va_forget (fun q hq => by have h9 := hS.2.2 q hq; rw [hAe] at h9; exact h9) ?_
          exact lw_ret (d0 := s.drawn) (Drawn.sameBut.refl s.drawn lw_cs) hx hb hr hlocks dL_law_656
    · refine lv_iload_n hx hb dL_law_77 rfl (lv_at hl 2 rfl) ?_
      refine f_if_eq (tgt := 640) hx hb dL_law_78 (by decide) hF (fun hF => ?_) (fun hF => ?_)
      · refine lv_iload_n hx hb dL_law_640 rfl (lv_at hl 2 rfl) ?_
        refine f_if_eq (tgt := 655) hx hb dL_law_641 (by decide) hF (fun hF => ?_) (fun hF => ?_)
        · refine lv_iconst (v := 0) hx hb dL_law_655 (by decide) ?_
          cases hF
        · refine lv_aload_n hx hb dL_law_644 rfl (lv_at hl 1 rfl) ?_
          obtain ⟨q11, h_q11, hF⟩ := bnd_s hF
          refine g_callS (As := [.ref o]) (rest := []) ⟨hx, hb, hml, hown, hts⟩ hK hZ hA (c_L_areErrors l E o qh qr qt qs qn fn fs ft gh n u q11 h_q11) (va_cwS 1 hts gL_law_L_areErrors rfl rfl rfl (by decide +kernel) ⟨Nat.le_of_ble_eq_true rfl, Nat.le_of_ble_eq_true rfl⟩) hP hD hS [0] [] rfl rfl rfl hl.1 rfl (Nat.le_of_ble_eq_true rfl) dL_law_645 ⟨Nat.le_of_ble_eq_true rfl, Nat.le_of_ble_eq_true rfl⟩ (fun H locs hP hD hS => ?_)
          have hP : va_P E.1 vwCl (bl [HL_c E o qh qr qt qs qn fn fs ft gh q11.2]) H := hP
          have hD : va_D A (bl [HL_c E o qh qr qt qs qn fn fs ft gh q11.2]) := hD
          refine W.eq (g2 := F0 m 648 ls [.int q11.1]) rfl ?_
          refine f_if_eq (tgt := 655) hx hb dL_law_648 (by decide) hF (fun hF => ?_) (fun hF => ?_)
          · refine lv_iconst (v := 0) hx hb dL_law_655 (by decide) ?_
            cases hF
          · refine lv_iconst (v := 1) hx hb dL_law_651 (by decide) ?_
            refine lv_goto (tgt := 656) hx hb dL_law_652 (by decide) ?_
            refine va_forget (fun q hq => by have h9 := hS.2.2 q hq; rw [hAe] at h9; exact h9) ?_
            exact lw_ret (d0 := s.drawn) (Drawn.sameBut.refl s.drawn lw_cs) hx hb hr hlocks dL_law_656
      · refine lv_aload_n hx hb dL_law_81 rfl (lv_at hl 0 rfl) ?_
        refine lv_iload hx hb dL_law_82 (lv_at hl 4 rfl) ?_
        obtain ⟨q12, h_q12, hF⟩ := bnd_s hF
        refine g_cell (rest := []) ⟨hx, hb, hml, hown, hts⟩ hK hZ hA hX hbl hbA (c_L_cell l E b L xs x5 q12 h_q12) (va_cwS 2 hts gL_law_L_cell rfl rfl rfl (by decide +kernel) ⟨Nat.le_of_ble_eq_true rfl, Nat.le_of_ble_eq_true rfl⟩) hP hD hS [0] rfl hl.1 rfl (Nat.le_of_ble_eq_true rfl) dL_law_84 ⟨Nat.le_of_ble_eq_true rfl, Nat.le_of_ble_eq_true rfl⟩ (fun H locs hP hD hS => ?_)
        have hP : va_P E.1 vwCl (bl [HL_c E o qh qr qt qs qn fn fs ft gh u]) H := hP
        have hD : va_D A (bl [HL_c E o qh qr qt qs qn fn fs ft gh u]) := hD
        refine W.eq (g2 := F0 m 87 ls [.int q12]) rfl ?_
        refine lv_istore (lv' := [(6, .int q12), (0, .ref b), (1, .ref o), (2, .int x2), (3, .long x3), (5, .int x5)]) hx hb dL_law_87 hl (by decide) rfl (fun ls hl => ?_)
        refine lv_iload hx hb dL_law_89 (lv_at hl 0 rfl) ?_
        refine lv_iconst (v := 5) hx hb dL_law_91 (by decide) ?_
        refine lv_ishr hx hb dL_law_92 ?_
        refine lv_sipush (v := 8192) hx hb dL_law_93 (by decide) ?_
        obtain ⟨q13, h_q13, hF⟩ := bnd_s hF
        refine g_callS (As := [.int (q12 >>> (5 &&& 31)), .int 8192]) (rest := []) ⟨hx, hb, hml, hown, hts⟩ hK hZ hA (c_L_low l E  (q12 >>> (5 &&& 31)) (8192) q13 h_q13) (va_cwS 2 hts gL_law_L_low rfl rfl rfl (by decide +kernel) ⟨Nat.le_of_ble_eq_true rfl, Nat.le_of_ble_eq_true rfl⟩) hP hD hS [] [0] rfl rfl rfl hl.1 rfl (Nat.le_of_ble_eq_true rfl) dL_law_96 ⟨Nat.le_of_ble_eq_true rfl, Nat.le_of_ble_eq_true rfl⟩ (fun H locs hP hD hS => ?_)
        have hP : va_P E.1 vwCl (bl [HL_c E o qh qr qt qs qn fn fs ft gh u]) H := hP
        have hD : va_D A (bl [HL_c E o qh qr qt qs qn fn fs ft gh u]) := hD
        refine W.eq (g2 := F0 m 99 ls [.int q13]) rfl ?_
        refine lv_istore (lv' := [(7, .int q13), (6, .int q12), (0, .ref b), (1, .ref o), (2, .int x2), (3, .long x3), (5, .int x5)]) hx hb dL_law_99 hl (by decide) rfl (fun ls hl => ?_)
        refine lv_iload hx hb dL_law_101 (lv_at hl 1 rfl) ?_
        refine lv_bipush (v := 11) hx hb dL_law_103 (by decide) ?_
        refine lv_ishr hx hb dL_law_105 ?_
        refine lv_sipush (v := 8192) hx hb dL_law_106 (by decide) ?_
        obtain ⟨q14, h_q14, hF⟩ := bnd_s hF
        refine g_callS (As := [.int (q12 >>> (11 &&& 31)), .int 8192]) (rest := []) ⟨hx, hb, hml, hown, hts⟩ hK hZ hA (c_L_low l E  (q12 >>> (11 &&& 31)) (8192) q14 h_q14) (va_cwS 2 hts gL_law_L_low rfl rfl rfl (by decide +kernel) ⟨Nat.le_of_ble_eq_true rfl, Nat.le_of_ble_eq_true rfl⟩) hP hD hS [] [0] rfl rfl rfl hl.1 rfl (Nat.le_of_ble_eq_true rfl) dL_law_109 ⟨Nat.le_of_ble_eq_true rfl, Nat.le_of_ble_eq_true rfl⟩ (fun H locs hP hD hS => ?_)
        have hP : va_P E.1 vwCl (bl [HL_c E o qh qr qt qs qn fn fs ft gh u]) H := hP
        have hD : va_D A (bl [HL_c E o qh qr qt qs qn fn fs ft gh u]) := hD
        refine W.eq (g2 := F0 m 112 ls [.int q14]) rfl ?_
        refine lv_istore (lv' := [(8, .int q14), (7, .int q13), (6, .int q12), (0, .ref b), (1, .ref o), (2, .int x2), (3, .long x3), (5, .int x5)]) hx hb dL_law_112 hl (by decide) rfl (fun ls hl => ?_)
        refine lv_iconst (v := 0) hx hb dL_law_114 (by decide) ?_
        refine lv_istore (lv' := [(9, .int 0), (8, .int q14), (7, .int q13), (6, .int q12), (0, .ref b), (1, .ref o), (2, .int x2), (3, .long x3), (5, .int x5)]) hx hb dL_law_115 hl (by decide) rfl (fun ls hl => ?_)
        refine lv_iload hx hb dL_law_117 (lv_at hl 3 rfl) ?_
        refine lv_bipush (v := 18) hx hb dL_law_119 (by decide) ?_
        obtain ⟨q15, h_q15, hF⟩ := bnd_s hF
        refine g_callS (As := [.int q12, .int 18]) (rest := []) ⟨hx, hb, hml, hown, hts⟩ hK hZ hA (c_L_low l E  q12 (18) q15 h_q15) (va_cwS 2 hts gL_law_L_low rfl rfl rfl (by decide +kernel) ⟨Nat.le_of_ble_eq_true rfl, Nat.le_of_ble_eq_true rfl⟩) hP hD hS [] [0] rfl rfl rfl hl.1 rfl (Nat.le_of_ble_eq_true rfl) dL_law_121 ⟨Nat.le_of_ble_eq_true rfl, Nat.le_of_ble_eq_true rfl⟩ (fun H locs hP hD hS => ?_)
        have hP : va_P E.1 vwCl (bl [HL_c E o qh qr qt qs qn fn fs ft gh u]) H := hP
        have hD : va_D A (bl [HL_c E o qh qr qt qs qn fn fs ft gh u]) := hD
        refine W.eq (g2 := F0 m 124 ls [.int q15]) rfl ?_
        refine f_ite hF (fun q0_ hF => ?_) (fun q0_ hF => ?_)
        · rw [q0_]
          refine lv_tableIn (tgt := 204) hx hb dL_law_124 (by decide) (by decide) rfl (by decide) ?_
          refine lv_aload_n hx hb dL_law_204 rfl (lv_at hl 5 rfl) ?_
          refine lv_iload hx hb dL_law_205 (lv_at hl 2 rfl) ?_
          refine lv_iconst (v := 4) hx hb dL_law_207 (by decide) ?_
          refine lv_irem hx hb dL_law_208 (by decide) ?_
          refine lv_iload hx hb dL_law_209 (lv_at hl 1 rfl) ?_
          refine lv_bipush (v := 64) hx hb dL_law_211 (by decide) ?_
          refine lv_irem hx hb dL_law_213 (by decide) ?_
          refine lv_iload hx hb dL_law_214 (lv_at hl 2 rfl) ?_
          refine lv_bipush (v := 64) hx hb dL_law_216 (by decide) ?_
          refine lv_irem hx hb dL_law_218 (by decide) ?_
          obtain ⟨q16, h_q16, hF⟩ := bnd_s hF
          refine g_callV (As := [.int (q13 - q13 / 4 * 4), .int (q14 - q14 / 64 * 64), .int (q13 - q13 / 64 * 64)]) (rest := []) ⟨hx, hb, hml, hown, hts⟩ hK hZ hA (c_X9_paint l E o qh qr qt qs qn fn fs ft gh n u (q13 - q13 / 4 * 4) (q14 - q14 / 64 * 64) (q13 - q13 / 64 * 64) q16 h_q16) (cwV 3 hts gL_law_X9_paint rfl rfl rfl (by decide +kernel) ⟨Nat.le_of_ble_eq_true rfl, Nat.le_of_ble_eq_true rfl⟩) hP hD hS [0] [] rfl rfl rfl rfl rfl rfl hl.1 rfl (Nat.le_of_ble_eq_true rfl) dL_law_219 ⟨Nat.le_of_ble_eq_true rfl, Nat.le_of_ble_eq_true rfl⟩ (fun H locs hP hD hS => ?_)
          have hP : va_P E.1 vwCl (bl [HL_c E o qh qr qt qs qn fn fs ft gh q16.2]) H := hP
          have hD : va_D A (bl [HL_c E o qh qr qt qs qn fn fs ft gh q16.2]) := hD
          refine W.eq (g2 := F0 m 222 ls [.int q16.1]) rfl ?_
          refine lv_istore (lv' := [(9, .int q16.1), (8, .int q14), (7, .int q13), (6, .int q12), (0, .ref b), (1, .ref o), (2, .int x2), (3, .long x3), (5, .int x5)]) hx hb dL_law_222 hl (by decide) rfl (fun ls hl => ?_)
          refine lv_goto (tgt := 510) hx hb dL_law_224 (by decide) ?_
          exact hJ q16.2 x2 x3 x5 q13 q14 q16.1 _ _ hP hD hS _ (lv_sub hl [4, 5, 6, 7, 8, 2, 1, 0] rfl) hF
        refine f_ite hF (fun q1_ hF => ?_) (fun q1_ hF => ?_)
        · rw [q1_]
          refine lv_tableIn (tgt := 204) hx hb dL_law_124 (by decide) (by decide) rfl (by decide) ?_
          refine lv_aload_n hx hb dL_law_204 rfl (lv_at hl 5 rfl) ?_
          refine lv_iload hx hb dL_law_205 (lv_at hl 2 rfl) ?_
          refine lv_iconst (v := 4) hx hb dL_law_207 (by decide) ?_
          refine lv_irem hx hb dL_law_208 (by decide) ?_
          refine lv_iload hx hb dL_law_209 (lv_at hl 1 rfl) ?_
          refine lv_bipush (v := 64) hx hb dL_law_211 (by decide) ?_
          refine lv_irem hx hb dL_law_213 (by decide) ?_
          refine lv_iload hx hb dL_law_214 (lv_at hl 2 rfl) ?_
          refine lv_bipush (v := 64) hx hb dL_law_216 (by decide) ?_
          refine lv_irem hx hb dL_law_218 (by decide) ?_
          obtain ⟨q17, h_q17, hF⟩ := bnd_s hF
          refine g_callV (As := [.int (q13 - q13 / 4 * 4), .int (q14 - q14 / 64 * 64), .int (q13 - q13 / 64 * 64)]) (rest := []) ⟨hx, hb, hml, hown, hts⟩ hK hZ hA (c_X9_paint l E o qh qr qt qs qn fn fs ft gh n u (q13 - q13 / 4 * 4) (q14 - q14 / 64 * 64) (q13 - q13 / 64 * 64) q17 h_q17) (cwV 3 hts gL_law_X9_paint rfl rfl rfl (by decide +kernel) ⟨Nat.le_of_ble_eq_true rfl, Nat.le_of_ble_eq_true rfl⟩) hP hD hS [0] [] rfl rfl rfl rfl rfl rfl hl.1 rfl (Nat.le_of_ble_eq_true rfl) dL_law_219 ⟨Nat.le_of_ble_eq_true rfl, Nat.le_of_ble_eq_true rfl⟩ (fun H locs hP hD hS => ?_)
          have hP : va_P E.1 vwCl (bl [HL_c E o qh qr qt qs qn fn fs ft gh q17.2]) H := hP
          have hD : va_D A (bl [HL_c E o qh qr qt qs qn fn fs ft gh q17.2]) := hD
          refine W.eq (g2 := F0 m 222 ls [.int q17.1]) rfl ?_
          refine lv_istore (lv' := [(9, .int q17.1), (8, .int q14), (7, .int q13), (6, .int q12), (0, .ref b), (1, .ref o), (2, .int x2), (3, .long x3), (5, .int x5)]) hx hb dL_law_222 hl (by decide) rfl (fun ls hl => ?_)
          refine lv_goto (tgt := 510) hx hb dL_law_224 (by decide) ?_
          exact hJ q17.2 x2 x3 x5 q13 q14 q17.1 _ _ hP hD hS _ (lv_sub hl [4, 5, 6, 7, 8, 2, 1, 0] rfl) hF
        refine f_ite hF (fun q2_ hF => ?_) (fun q2_ hF => ?_)
        · rw [q2_]
          refine lv_tableIn (tgt := 227) hx hb dL_law_124 (by decide) (by decide) rfl (by decide) ?_
          refine lv_aload_n hx hb dL_law_227 rfl (lv_at hl 5 rfl) ?_
          refine lv_iconst (v := 1) hx hb dL_law_228 (by decide) ?_
          refine lv_iload hx hb dL_law_229 (lv_at hl 2 rfl) ?_
          refine lv_bipush (v := 60) hx hb dL_law_231 (by decide) ?_
          refine lv_irem hx hb dL_law_233 (by decide) ?_
          refine lv_iadd hx hb dL_law_234 ?_
          refine lv_iload hx hb dL_law_235 (lv_at hl 1 rfl) ?_
          refine lv_bipush (v := 61) hx hb dL_law_237 (by decide) ?_
          refine lv_irem hx hb dL_law_239 (by decide) ?_
          refine lv_iload hx hb dL_law_240 (lv_at hl 2 rfl) ?_
          refine lv_iconst (v := 3) hx hb dL_law_242 (by decide) ?_
          refine lv_irem hx hb dL_law_243 (by decide) ?_
          refine f_if_ne (tgt := 251) hx hb dL_law_244 (by decide) hF (fun hF => ?_) (fun hF => ?_)
          · refine lv_iconst (v := 0) hx hb dL_law_251 (by decide) ?_
            obtain ⟨q18, h_q18, hF⟩ := bnd_s hF
            refine g_callV (As := [.int (1 + (q13 - q13 / 60 * 60)), .int (q14 - q14 / 61 * 61), .int 0]) (rest := []) ⟨hx, hb, hml, hown, hts⟩ hK hZ hA (c_X9_setCode l E o qh qr qt qs qn fn fs ft gh u (1 + (q13 - q13 / 60 * 60)) (q14 - q14 / 61 * 61) (0) q18 h_q18) (cwV 3 hts gL_law_X9_setCode rfl rfl rfl (by decide +kernel) ⟨Nat.le_of_ble_eq_true rfl, Nat.le_of_ble_eq_true rfl⟩) hP hD hS [0] [] rfl rfl rfl rfl rfl rfl hl.1 rfl (Nat.le_of_ble_eq_true rfl) dL_law_252 ⟨Nat.le_of_ble_eq_true rfl, Nat.le_of_ble_eq_true rfl⟩ (fun H locs hP hD hS => ?_)
            have hP : va_P E.1 vwCl (bl [HL_c E o qh qr qt qs qn fn fs ft gh q18.2]) H := hP
            have hD : va_D A (bl [HL_c E o qh qr qt qs qn fn fs ft gh q18.2]) := hD
            refine W.eq (g2 := F0 m 255 ls [.int q18.1]) rfl ?_
            refine lv_istore (lv' := [(9, .int q18.1), (8, .int q14), (7, .int q13), (6, .int q12), (0, .ref b), (1, .ref o), (2, .int x2), (3, .long x3), (5, .int x5)]) hx hb dL_law_255 hl (by decide) rfl (fun ls hl => ?_)
            refine lv_goto (tgt := 510) hx hb dL_law_257 (by decide) ?_
            exact hJ q18.2 x2 x3 x5 q13 q14 q18.1 _ _ hP hD hS _ (lv_sub hl [4, 5, 6, 7, 8, 2, 1, 0] rfl) hF
          · refine lv_iconst (v := 1) hx hb dL_law_247 (by decide) ?_
            refine lv_goto (tgt := 252) hx hb dL_law_248 (by decide) ?_
            obtain ⟨q19, h_q19, hF⟩ := bnd_s hF
            refine g_callV (As := [.int (1 + (q13 - q13 / 60 * 60)), .int (q14 - q14 / 61 * 61), .int 1]) (rest := []) ⟨hx, hb, hml, hown, hts⟩ hK hZ hA (c_X9_setCode l E o qh qr qt qs qn fn fs ft gh u (1 + (q13 - q13 / 60 * 60)) (q14 - q14 / 61 * 61) (1) q19 h_q19) (cwV 3 hts gL_law_X9_setCode rfl rfl rfl (by decide +kernel) ⟨Nat.le_of_ble_eq_true rfl, Nat.le_of_ble_eq_true rfl⟩) hP hD hS [0] [] rfl rfl rfl rfl rfl rfl hl.1 rfl (Nat.le_of_ble_eq_true rfl) dL_law_252 ⟨Nat.le_of_ble_eq_true rfl, Nat.le_of_ble_eq_true rfl⟩ (fun H locs hP hD hS => ?_)
            have hP : va_P E.1 vwCl (bl [HL_c E o qh qr qt qs qn fn fs ft gh q19.2]) H := hP
            have hD : va_D A (bl [HL_c E o qh qr qt qs qn fn fs ft gh q19.2]) := hD
            refine W.eq (g2 := F0 m 255 ls [.int q19.1]) rfl ?_
            refine lv_istore (lv' := [(9, .int q19.1), (8, .int q14), (7, .int q13), (6, .int q12), (0, .ref b), (1, .ref o), (2, .int x2), (3, .long x3), (5, .int x5)]) hx hb dL_law_255 hl (by decide) rfl (fun ls hl => ?_)
            refine lv_goto (tgt := 510) hx hb dL_law_257 (by decide) ?_
            exact hJ q19.2 x2 x3 x5 q13 q14 q19.1 _ _ hP hD hS _ (lv_sub hl [4, 5, 6, 7, 8, 2, 1, 0] rfl) hF
        refine f_ite hF (fun q3_ hF => ?_) (fun q3_ hF => ?_)
        · rw [q3_]
          refine lv_tableIn (tgt := 227) hx hb dL_law_124 (by decide) (by decide) rfl (by decide) ?_
          refine lv_aload_n hx hb dL_law_227 rfl (lv_at hl 5 rfl) ?_
          refine lv_iconst (v := 1) hx hb dL_law_228 (by decide) ?_
          refine lv_iload hx hb dL_law_229 (lv_at hl 2 rfl) ?_
          refine lv_bipush (v := 60) hx hb dL_law_231 (by decide) ?_
          refine lv_irem hx hb dL_law_233 (by decide) ?_
          refine lv_iadd hx hb dL_law_234 ?_
          refine lv_iload hx hb dL_law_235 (lv_at hl 1 rfl) ?_
          refine lv_bipush (v := 61) hx hb dL_law_237 (by decide) ?_
          refine lv_irem hx hb dL_law_239 (by decide) ?_
          refine lv_iload hx hb dL_law_240 (lv_at hl 2 rfl) ?_
          refine lv_iconst (v := 3) hx hb dL_law_242 (by decide) ?_
          refine lv_irem hx hb dL_law_243 (by decide) ?_
          refine f_if_ne (tgt := 251) hx hb dL_law_244 (by decide) hF (fun hF => ?_) (fun hF => ?_)
          · refine lv_iconst (v := 0) hx hb dL_law_251 (by decide) ?_
            obtain ⟨q20, h_q20, hF⟩ := bnd_s hF
            refine g_callV (As := [.int (1 + (q13 - q13 / 60 * 60)), .int (q14 - q14 / 61 * 61), .int 0]) (rest := []) ⟨hx, hb, hml, hown, hts⟩ hK hZ hA (c_X9_setCode l E o qh qr qt qs qn fn fs ft gh u (1 + (q13 - q13 / 60 * 60)) (q14 - q14 / 61 * 61) (0) q20 h_q20) (cwV 3 hts gL_law_X9_setCode rfl rfl rfl (by decide +kernel) ⟨Nat.le_of_ble_eq_true rfl, Nat.le_of_ble_eq_true rfl⟩) hP hD hS [0] [] rfl rfl rfl rfl rfl rfl hl.1 rfl (Nat.le_of_ble_eq_true rfl) dL_law_252 ⟨Nat.le_of_ble_eq_true rfl, Nat.le_of_ble_eq_true rfl⟩ (fun H locs hP hD hS => ?_)
            have hP : va_P E.1 vwCl (bl [HL_c E o qh qr qt qs qn fn fs ft gh q20.2]) H := hP
            have hD : va_D A (bl [HL_c E o qh qr qt qs qn fn fs ft gh q20.2]) := hD
            refine W.eq (g2 := F0 m 255 ls [.int q20.1]) rfl ?_
            refine lv_istore (lv' := [(9, .int q20.1), (8, .int q14), (7, .int q13), (6, .int q12), (0, .ref b), (1, .ref o), (2, .int x2), (3, .long x3), (5, .int x5)]) hx hb dL_law_255 hl (by decide) rfl (fun ls hl => ?_)
            refine lv_goto (tgt := 510) hx hb dL_law_257 (by decide) ?_
            exact hJ q20.2 x2 x3 x5 q13 q14 q20.1 _ _ hP hD hS _ (lv_sub hl [4, 5, 6, 7, 8, 2, 1, 0] rfl) hF
          · refine lv_iconst (v := 1) hx hb dL_law_247 (by decide) ?_
            refine lv_goto (tgt := 252) hx hb dL_law_248 (by decide) ?_
            obtain ⟨q21, h_q21, hF⟩ := bnd_s hF
            refine g_callV (As := [.int (1 + (q13 - q13 / 60 * 60)), .int (q14 - q14 / 61 * 61), .int 1]) (rest := []) ⟨hx, hb, hml, hown, hts⟩ hK hZ hA (c_X9_setCode l E o qh qr qt qs qn fn fs ft gh u (1 + (q13 - q13 / 60 * 60)) (q14 - q14 / 61 * 61) (1) q21 h_q21) (cwV 3 hts gL_law_X9_setCode rfl rfl rfl (by decide +kernel) ⟨Nat.le_of_ble_eq_true rfl, Nat.le_of_ble_eq_true rfl⟩) hP hD hS [0] [] rfl rfl rfl rfl rfl rfl hl.1 rfl (Nat.le_of_ble_eq_true rfl) dL_law_252 ⟨Nat.le_of_ble_eq_true rfl, Nat.le_of_ble_eq_true rfl⟩ (fun H locs hP hD hS => ?_)
            have hP : va_P E.1 vwCl (bl [HL_c E o qh qr qt qs qn fn fs ft gh q21.2]) H := hP
            have hD : va_D A (bl [HL_c E o qh qr qt qs qn fn fs ft gh q21.2]) := hD
            refine W.eq (g2 := F0 m 255 ls [.int q21.1]) rfl ?_
            refine lv_istore (lv' := [(9, .int q21.1), (8, .int q14), (7, .int q13), (6, .int q12), (0, .ref b), (1, .ref o), (2, .int x2), (3, .long x3), (5, .int x5)]) hx hb dL_law_255 hl (by decide) rfl (fun ls hl => ?_)
            refine lv_goto (tgt := 510) hx hb dL_law_257 (by decide) ?_
            exact hJ q21.2 x2 x3 x5 q13 q14 q21.1 _ _ hP hD hS _ (lv_sub hl [4, 5, 6, 7, 8, 2, 1, 0] rfl) hF
        refine f_ite hF (fun q4_ hF => ?_) (fun q4_ hF => ?_)
        · rw [q4_]
          refine lv_tableIn (tgt := 260) hx hb dL_law_124 (by decide) (by decide) rfl (by decide) ?_
          refine lv_aload_n hx hb dL_law_260 rfl (lv_at hl 5 rfl) ?_
          refine lv_iload hx hb dL_law_261 (lv_at hl 2 rfl) ?_
          refine lv_iconst (v := 2) hx hb dL_law_263 (by decide) ?_
          refine lv_irem hx hb dL_law_264 (by decide) ?_
          obtain ⟨q22, h_q22, hF⟩ := bnd_s hF
          refine g_callV (As := [.int (q13 - q13 / 2 * 2)]) (rest := []) ⟨hx, hb, hml, hown, hts⟩ hK hZ hA (c_X9_setChanger l E o qh qr qt qs qn fn fs ft gh n u (q13 - q13 / 2 * 2) q22 h_q22) (cwV 1 hts gL_law_X9_setChanger rfl rfl rfl (by decide +kernel) ⟨Nat.le_of_ble_eq_true rfl, Nat.le_of_ble_eq_true rfl⟩) hP hD hS [0] [] rfl rfl rfl rfl rfl rfl hl.1 rfl (Nat.le_of_ble_eq_true rfl) dL_law_265 ⟨Nat.le_of_ble_eq_true rfl, Nat.le_of_ble_eq_true rfl⟩ (fun H locs hP hD hS => ?_)
          have hP : va_P E.1 vwCl (bl [HL_c E o qh qr qt qs qn fn fs ft gh q22.2]) H := hP
          have hD : va_D A (bl [HL_c E o qh qr qt qs qn fn fs ft gh q22.2]) := hD
          refine W.eq (g2 := F0 m 268 ls [.int q22.1]) rfl ?_
          refine lv_istore (lv' := [(9, .int q22.1), (8, .int q14), (7, .int q13), (6, .int q12), (0, .ref b), (1, .ref o), (2, .int x2), (3, .long x3), (5, .int x5)]) hx hb dL_law_268 hl (by decide) rfl (fun ls hl => ?_)
          refine lv_goto (tgt := 510) hx hb dL_law_270 (by decide) ?_
          exact hJ q22.2 x2 x3 x5 q13 q14 q22.1 _ _ hP hD hS _ (lv_sub hl [4, 5, 6, 7, 8, 2, 1, 0] rfl) hF
        refine f_ite hF (fun q5_ hF => ?_) (fun q5_ hF => ?_)
        · rw [q5_]
          refine lv_tableIn (tgt := 273) hx hb dL_law_124 (by decide) (by decide) rfl (by decide) ?_
          refine lv_aload_n hx hb dL_law_273 rfl (lv_at hl 5 rfl) ?_
          refine lv_aload_n hx hb dL_law_274 rfl (lv_at hl 5 rfl) ?_
          refine lv_iconst (v := 5) hx hb dL_law_275 (by decide) ?_
          obtain ⟨q23, h_q23, hF⟩ := bnd_s hF
          refine g_callV (As := [.int 5]) (rest := [.ref o]) ⟨hx, hb, hml, hown, hts⟩ hK hZ hA (c_X9_count l E o qh qr qt qs qn fn fs ft gh n u (5) q23 h_q23) (cwV 1 hts gL_law_X9_count rfl rfl rfl (by decide +kernel) ⟨Nat.le_of_ble_eq_true rfl, Nat.le_of_ble_eq_true rfl⟩) hP hD hS [0] [] rfl rfl rfl rfl rfl rfl hl.1 rfl (Nat.le_of_ble_eq_true rfl) dL_law_276 ⟨Nat.le_of_ble_eq_true rfl, Nat.le_of_ble_eq_true rfl⟩ (fun H locs hP hD hS => ?_)
          have hP : va_P E.1 vwCl (bl [HL_c E o qh qr qt qs qn fn fs ft gh u]) H := hP
          have hD : va_D A (bl [HL_c E o qh qr qt qs qn fn fs ft gh u]) := hD
          refine W.eq (g2 := F0 m 279 ls [.int q23, .ref o]) rfl ?_
          refine lv_iconst (v := 1) hx hb dL_law_279 (by decide) ?_
          refine lv_iload hx hb dL_law_280 (lv_at hl 2 rfl) ?_
          refine lv_sipush (v := 2000) hx hb dL_law_282 (by decide) ?_
          refine lv_irem hx hb dL_law_285 (by decide) ?_
          refine lv_iadd hx hb dL_law_286 ?_
          refine lv_iconst (v := 1) hx hb dL_law_287 (by decide) ?_
          refine lv_iload hx hb dL_law_288 (lv_at hl 1 rfl) ?_
          refine lv_bipush (v := 90) hx hb dL_law_290 (by decide) ?_
          refine lv_irem hx hb dL_law_292 (by decide) ?_
          refine lv_iadd hx hb dL_law_293 ?_
          obtain ⟨q24, h_q24, hF⟩ := bnd_s hF
          refine g_callV (As := [.int q23, .int (1 + (q13 - q13 / 2000 * 2000)), .int (1 + (q14 - q14 / 90 * 90))]) (rest := []) ⟨hx, hb, hml, hown, hts⟩ hK hZ hA (c_X9_addLamp l E o qh qr qt qs qn fn fs ft gh n u q23 (1 + (q13 - q13 / 2000 * 2000)) (1 + (q14 - q14 / 90 * 90)) q24 h_q24) (cwV 3 hts gL_law_X9_addLamp rfl rfl rfl (by decide +kernel) ⟨Nat.le_of_ble_eq_true rfl, Nat.le_of_ble_eq_true rfl⟩) hP hD hS [0] [] rfl rfl rfl rfl rfl rfl hl.1 rfl (Nat.le_of_ble_eq_true rfl) dL_law_294 ⟨Nat.le_of_ble_eq_true rfl, Nat.le_of_ble_eq_true rfl⟩ (fun H locs hP hD hS => ?_)
          have hP : va_P E.1 vwCl (bl [HL_c E o qh qr qt qs qn fn fs ft gh q24.2]) H := hP
          have hD : va_D A (bl [HL_c E o qh qr qt qs qn fn fs ft gh q24.2]) := hD
          refine W.eq (g2 := F0 m 297 ls [.int q24.1]) rfl ?_
          refine lv_istore (lv' := [(9, .int q24.1), (8, .int q14), (7, .int q13), (6, .int q12), (0, .ref b), (1, .ref o), (2, .int x2), (3, .long x3), (5, .int x5)]) hx hb dL_law_297 hl (by decide) rfl (fun ls hl => ?_)
          refine lv_goto (tgt := 510) hx hb dL_law_299 (by decide) ?_
          exact hJ q24.2 x2 x3 x5 q13 q14 q24.1 _ _ hP hD hS _ (lv_sub hl [4, 5, 6, 7, 8, 2, 1, 0] rfl) hF
        refine f_ite hF (fun q6_ hF => ?_) (fun q6_ hF => ?_)
        · rw [q6_]
          refine lv_tableIn (tgt := 273) hx hb dL_law_124 (by decide) (by decide) rfl (by decide) ?_
          refine lv_aload_n hx hb dL_law_273 rfl (lv_at hl 5 rfl) ?_
          refine lv_aload_n hx hb dL_law_274 rfl (lv_at hl 5 rfl) ?_
          refine lv_iconst (v := 5) hx hb dL_law_275 (by decide) ?_
          obtain ⟨q25, h_q25, hF⟩ := bnd_s hF
          refine g_callV (As := [.int 5]) (rest := [.ref o]) ⟨hx, hb, hml, hown, hts⟩ hK hZ hA (c_X9_count l E o qh qr qt qs qn fn fs ft gh n u (5) q25 h_q25) (cwV 1 hts gL_law_X9_count rfl rfl rfl (by decide +kernel) ⟨Nat.le_of_ble_eq_true rfl, Nat.le_of_ble_eq_true rfl⟩) hP hD hS [0] [] rfl rfl rfl rfl rfl rfl hl.1 rfl (Nat.le_of_ble_eq_true rfl) dL_law_276 ⟨Nat.le_of_ble_eq_true rfl, Nat.le_of_ble_eq_true rfl⟩ (fun H locs hP hD hS => ?_)
          have hP : va_P E.1 vwCl (bl [HL_c E o qh qr qt qs qn fn fs ft gh u]) H := hP
          have hD : va_D A (bl [HL_c E o qh qr qt qs qn fn fs ft gh u]) := hD
          refine W.eq (g2 := F0 m 279 ls [.int q25, .ref o]) rfl ?_
          refine lv_iconst (v := 1) hx hb dL_law_279 (by decide) ?_
          refine lv_iload hx hb dL_law_280 (lv_at hl 2 rfl) ?_
          refine lv_sipush (v := 2000) hx hb dL_law_282 (by decide) ?_
          refine lv_irem hx hb dL_law_285 (by decide) ?_
          refine lv_iadd hx hb dL_law_286 ?_
          refine lv_iconst (v := 1) hx hb dL_law_287 (by decide) ?_
          refine lv_iload hx hb dL_law_288 (lv_at hl 1 rfl) ?_
          refine lv_bipush (v := 90) hx hb dL_law_290 (by decide) ?_
          refine lv_irem hx hb dL_law_292 (by decide) ?_
          refine lv_iadd hx hb dL_law_293 ?_
          obtain ⟨q26, h_q26, hF⟩ := bnd_s hF
          refine g_callV (As := [.int q25, .int (1 + (q13 - q13 / 2000 * 2000)), .int (1 + (q14 - q14 / 90 * 90))]) (rest := []) ⟨hx, hb, hml, hown, hts⟩ hK hZ hA (c_X9_addLamp l E o qh qr qt qs qn fn fs ft gh n u q25 (1 + (q13 - q13 / 2000 * 2000)) (1 + (q14 - q14 / 90 * 90)) q26 h_q26) (cwV 3 hts gL_law_X9_addLamp rfl rfl rfl (by decide +kernel) ⟨Nat.le_of_ble_eq_true rfl, Nat.le_of_ble_eq_true rfl⟩) hP hD hS [0] [] rfl rfl rfl rfl rfl rfl hl.1 rfl (Nat.le_of_ble_eq_true rfl) dL_law_294 ⟨Nat.le_of_ble_eq_true rfl, Nat.le_of_ble_eq_true rfl⟩ (fun H locs hP hD hS => ?_)
          have hP : va_P E.1 vwCl (bl [HL_c E o qh qr qt qs qn fn fs ft gh q26.2]) H := hP
          have hD : va_D A (bl [HL_c E o qh qr qt qs qn fn fs ft gh q26.2]) := hD
          refine W.eq (g2 := F0 m 297 ls [.int q26.1]) rfl ?_
          refine lv_istore (lv' := [(9, .int q26.1), (8, .int q14), (7, .int q13), (6, .int q12), (0, .ref b), (1, .ref o), (2, .int x2), (3, .long x3), (5, .int x5)]) hx hb dL_law_297 hl (by decide) rfl (fun ls hl => ?_)
          refine lv_goto (tgt := 510) hx hb dL_law_299 (by decide) ?_
          exact hJ q26.2 x2 x3 x5 q13 q14 q26.1 _ _ hP hD hS _ (lv_sub hl [4, 5, 6, 7, 8, 2, 1, 0] rfl) hF
        refine f_ite hF (fun q7_ hF => ?_) (fun q7_ hF => ?_)
        · rw [q7_]
          refine lv_tableIn (tgt := 273) hx hb dL_law_124 (by decide) (by decide) rfl (by decide) ?_
          refine lv_aload_n hx hb dL_law_273 rfl (lv_at hl 5 rfl) ?_
          refine lv_aload_n hx hb dL_law_274 rfl (lv_at hl 5 rfl) ?_
          refine lv_iconst (v := 5) hx hb dL_law_275 (by decide) ?_
          obtain ⟨q27, h_q27, hF⟩ := bnd_s hF
          refine g_callV (As := [.int 5]) (rest := [.ref o]) ⟨hx, hb, hml, hown, hts⟩ hK hZ hA (c_X9_count l E o qh qr qt qs qn fn fs ft gh n u (5) q27 h_q27) (cwV 1 hts gL_law_X9_count rfl rfl rfl (by decide +kernel) ⟨Nat.le_of_ble_eq_true rfl, Nat.le_of_ble_eq_true rfl⟩) hP hD hS [0] [] rfl rfl rfl rfl rfl rfl hl.1 rfl (Nat.le_of_ble_eq_true rfl) dL_law_276 ⟨Nat.le_of_ble_eq_true rfl, Nat.le_of_ble_eq_true rfl⟩ (fun H locs hP hD hS => ?_)
          have hP : va_P E.1 vwCl (bl [HL_c E o qh qr qt qs qn fn fs ft gh u]) H := hP
          have hD : va_D A (bl [HL_c E o qh qr qt qs qn fn fs ft gh u]) := hD
          refine W.eq (g2 := F0 m 279 ls [.int q27, .ref o]) rfl ?_
          refine lv_iconst (v := 1) hx hb dL_law_279 (by decide) ?_
          refine lv_iload hx hb dL_law_280 (lv_at hl 2 rfl) ?_
          refine lv_sipush (v := 2000) hx hb dL_law_282 (by decide) ?_
          refine lv_irem hx hb dL_law_285 (by decide) ?_
          refine lv_iadd hx hb dL_law_286 ?_
          refine lv_iconst (v := 1) hx hb dL_law_287 (by decide) ?_
          refine lv_iload hx hb dL_law_288 (lv_at hl 1 rfl) ?_
          refine lv_bipush (v := 90) hx hb dL_law_290 (by decide) ?_
          refine lv_irem hx hb dL_law_292 (by decide) ?_
          refine lv_iadd hx hb dL_law_293 ?_
          obtain ⟨q28, h_q28, hF⟩ := bnd_s hF
          refine g_callV (As := [.int q27, .int (1 + (q13 - q13 / 2000 * 2000)), .int (1 + (q14 - q14 / 90 * 90))]) (rest := []) ⟨hx, hb, hml, hown, hts⟩ hK hZ hA (c_X9_addLamp l E o qh qr qt qs qn fn fs ft gh n u q27 (1 + (q13 - q13 / 2000 * 2000)) (1 + (q14 - q14 / 90 * 90)) q28 h_q28) (cwV 3 hts gL_law_X9_addLamp rfl rfl rfl (by decide +kernel) ⟨Nat.le_of_ble_eq_true rfl, Nat.le_of_ble_eq_true rfl⟩) hP hD hS [0] [] rfl rfl rfl rfl rfl rfl hl.1 rfl (Nat.le_of_ble_eq_true rfl) dL_law_294 ⟨Nat.le_of_ble_eq_true rfl, Nat.le_of_ble_eq_true rfl⟩ (fun H locs hP hD hS => ?_)
          have hP : va_P E.1 vwCl (bl [HL_c E o qh qr qt qs qn fn fs ft gh q28.2]) H := hP
          have hD : va_D A (bl [HL_c E o qh qr qt qs qn fn fs ft gh q28.2]) := hD
          refine W.eq (g2 := F0 m 297 ls [.int q28.1]) rfl ?_
          refine lv_istore (lv' := [(9, .int q28.1), (8, .int q14), (7, .int q13), (6, .int q12), (0, .ref b), (1, .ref o), (2, .int x2), (3, .long x3), (5, .int x5)]) hx hb dL_law_297 hl (by decide) rfl (fun ls hl => ?_)
          refine lv_goto (tgt := 510) hx hb dL_law_299 (by decide) ?_
          exact hJ q28.2 x2 x3 x5 q13 q14 q28.1 _ _ hP hD hS _ (lv_sub hl [4, 5, 6, 7, 8, 2, 1, 0] rfl) hF
        refine f_ite hF (fun q8_ hF => ?_) (fun q8_ hF => ?_)
        · rw [q8_]
          refine lv_tableIn (tgt := 273) hx hb dL_law_124 (by decide) (by decide) rfl (by decide) ?_
          refine lv_aload_n hx hb dL_law_273 rfl (lv_at hl 5 rfl) ?_
          refine lv_aload_n hx hb dL_law_274 rfl (lv_at hl 5 rfl) ?_
          refine lv_iconst (v := 5) hx hb dL_law_275 (by decide) ?_
          obtain ⟨q29, h_q29, hF⟩ := bnd_s hF
          refine g_callV (As := [.int 5]) (rest := [.ref o]) ⟨hx, hb, hml, hown, hts⟩ hK hZ hA (c_X9_count l E o qh qr qt qs qn fn fs ft gh n u (5) q29 h_q29) (cwV 1 hts gL_law_X9_count rfl rfl rfl (by decide +kernel) ⟨Nat.le_of_ble_eq_true rfl, Nat.le_of_ble_eq_true rfl⟩) hP hD hS [0] [] rfl rfl rfl rfl rfl rfl hl.1 rfl (Nat.le_of_ble_eq_true rfl) dL_law_276 ⟨Nat.le_of_ble_eq_true rfl, Nat.le_of_ble_eq_true rfl⟩ (fun H locs hP hD hS => ?_)
          have hP : va_P E.1 vwCl (bl [HL_c E o qh qr qt qs qn fn fs ft gh u]) H := hP
          have hD : va_D A (bl [HL_c E o qh qr qt qs qn fn fs ft gh u]) := hD
          refine W.eq (g2 := F0 m 279 ls [.int q29, .ref o]) rfl ?_
          refine lv_iconst (v := 1) hx hb dL_law_279 (by decide) ?_
          refine lv_iload hx hb dL_law_280 (lv_at hl 2 rfl) ?_
          refine lv_sipush (v := 2000) hx hb dL_law_282 (by decide) ?_
          refine lv_irem hx hb dL_law_285 (by decide) ?_
          refine lv_iadd hx hb dL_law_286 ?_
          refine lv_iconst (v := 1) hx hb dL_law_287 (by decide) ?_
          refine lv_iload hx hb dL_law_288 (lv_at hl 1 rfl) ?_
          refine lv_bipush (v := 90) hx hb dL_law_290 (by decide) ?_
          refine lv_irem hx hb dL_law_292 (by decide) ?_
          refine lv_iadd hx hb dL_law_293 ?_
          obtain ⟨q30, h_q30, hF⟩ := bnd_s hF
          refine g_callV (As := [.int q29, .int (1 + (q13 - q13 / 2000 * 2000)), .int (1 + (q14 - q14 / 90 * 90))]) (rest := []) ⟨hx, hb, hml, hown, hts⟩ hK hZ hA (c_X9_addLamp l E o qh qr qt qs qn fn fs ft gh n u q29 (1 + (q13 - q13 / 2000 * 2000)) (1 + (q14 - q14 / 90 * 90)) q30 h_q30) (cwV 3 hts gL_law_X9_addLamp rfl rfl rfl (by decide +kernel) ⟨Nat.le_of_ble_eq_true rfl, Nat.le_of_ble_eq_true rfl⟩) hP hD hS [0] [] rfl rfl rfl rfl rfl rfl hl.1 rfl (Nat.le_of_ble_eq_true rfl) dL_law_294 ⟨Nat.le_of_ble_eq_true rfl, Nat.le_of_ble_eq_true rfl⟩ (fun H locs hP hD hS => ?_)
          have hP : va_P E.1 vwCl (bl [HL_c E o qh qr qt qs qn fn fs ft gh q30.2]) H := hP
          have hD : va_D A (bl [HL_c E o qh qr qt qs qn fn fs ft gh q30.2]) := hD
          refine W.eq (g2 := F0 m 297 ls [.int q30.1]) rfl ?_
          refine lv_istore (lv' := [(9, .int q30.1), (8, .int q14), (7, .int q13), (6, .int q12), (0, .ref b), (1, .ref o), (2, .int x2), (3, .long x3), (5, .int x5)]) hx hb dL_law_297 hl (by decide) rfl (fun ls hl => ?_)
          refine lv_goto (tgt := 510) hx hb dL_law_299 (by decide) ?_
          exact hJ q30.2 x2 x3 x5 q13 q14 q30.1 _ _ hP hD hS _ (lv_sub hl [4, 5, 6, 7, 8, 2, 1, 0] rfl) hF
        refine f_ite hF (fun q9_ hF => ?_) (fun q9_ hF => ?_)
        · rw [q9_]
          refine lv_tableIn (tgt := 302) hx hb dL_law_124 (by decide) (by decide) rfl (by decide) ?_
          refine lv_aload_n hx hb dL_law_302 rfl (lv_at hl 5 rfl) ?_
          refine lv_iload hx hb dL_law_303 (lv_at hl 2 rfl) ?_
          refine lv_bipush (v := 6) hx hb dL_law_305 (by decide) ?_
          refine lv_irem hx hb dL_law_307 (by decide) ?_
          obtain ⟨q31, h_q31, hF⟩ := bnd_s hF
          refine g_callV (As := [.int (q13 - q13 / 6 * 6)]) (rest := []) ⟨hx, hb, hml, hown, hts⟩ hK hZ hA (c_X9_takeLamp l E o qh qr qt qs qn fn fs ft gh u (q13 - q13 / 6 * 6) q31 h_q31) (cwV 1 hts gL_law_X9_takeLamp rfl rfl rfl (by decide +kernel) ⟨Nat.le_of_ble_eq_true rfl, Nat.le_of_ble_eq_true rfl⟩) hP hD hS [0] [] rfl rfl rfl rfl rfl rfl hl.1 rfl (Nat.le_of_ble_eq_true rfl) dL_law_308 ⟨Nat.le_of_ble_eq_true rfl, Nat.le_of_ble_eq_true rfl⟩ (fun H locs hP hD hS => ?_)
          have hP : va_P E.1 vwCl (bl [HL_c E o qh qr qt qs qn fn fs ft gh q31.2]) H := hP
          have hD : va_D A (bl [HL_c E o qh qr qt qs qn fn fs ft gh q31.2]) := hD
          refine W.eq (g2 := F0 m 311 ls [.int q31.1]) rfl ?_
          refine lv_istore (lv' := [(9, .int q31.1), (8, .int q14), (7, .int q13), (6, .int q12), (0, .ref b), (1, .ref o), (2, .int x2), (3, .long x3), (5, .int x5)]) hx hb dL_law_311 hl (by decide) rfl (fun ls hl => ?_)
          refine lv_goto (tgt := 510) hx hb dL_law_313 (by decide) ?_
          exact hJ q31.2 x2 x3 x5 q13 q14 q31.1 _ _ hP hD hS _ (lv_sub hl [4, 5, 6, 7, 8, 2, 1, 0] rfl) hF
        refine f_ite hF (fun q10_ hF => ?_) (fun q10_ hF => ?_)
        · rw [q10_]
          refine lv_tableIn (tgt := 316) hx hb dL_law_124 (by decide) (by decide) rfl (by decide) ?_
          refine lv_aload_n hx hb dL_law_316 rfl (lv_at hl 5 rfl) ?_
          refine lv_iload hx hb dL_law_317 (lv_at hl 2 rfl) ?_
          refine lv_iconst (v := 2) hx hb dL_law_319 (by decide) ?_
          refine lv_irem hx hb dL_law_320 (by decide) ?_
          refine lv_iconst (v := 1) hx hb dL_law_321 (by decide) ?_
          refine lv_iload hx hb dL_law_322 (lv_at hl 1 rfl) ?_
          refine lv_bipush (v := 50) hx hb dL_law_324 (by decide) ?_
          refine lv_irem hx hb dL_law_326 (by decide) ?_
          refine lv_iadd hx hb dL_law_327 ?_
          obtain ⟨q32, h_q32, hF⟩ := bnd_s hF
          refine g_callV (As := [.int (q13 - q13 / 2 * 2), .int (1 + (q14 - q14 / 50 * 50))]) (rest := []) ⟨hx, hb, hml, hown, hts⟩ hK hZ hA (c_X9_set l E o qh qr qt qs qn fn fs ft gh u (q13 - q13 / 2 * 2) (1 + (q14 - q14 / 50 * 50)) q32 h_q32) (cwV 2 hts gL_law_X9_set rfl rfl rfl (by decide +kernel) ⟨Nat.le_of_ble_eq_true rfl, Nat.le_of_ble_eq_true rfl⟩) hP hD hS [0] [] rfl rfl rfl rfl rfl rfl hl.1 rfl (Nat.le_of_ble_eq_true rfl) dL_law_328 ⟨Nat.le_of_ble_eq_true rfl, Nat.le_of_ble_eq_true rfl⟩ (fun H locs hP hD hS => ?_)
          have hP : va_P E.1 vwCl (bl [HL_c E o qh qr qt qs qn fn fs ft gh q32.2]) H := hP
          have hD : va_D A (bl [HL_c E o qh qr qt qs qn fn fs ft gh q32.2]) := hD
          refine W.eq (g2 := F0 m 331 ls [.int q32.1]) rfl ?_
          refine lv_istore (lv' := [(9, .int q32.1), (8, .int q14), (7, .int q13), (6, .int q12), (0, .ref b), (1, .ref o), (2, .int x2), (3, .long x3), (5, .int x5)]) hx hb dL_law_331 hl (by decide) rfl (fun ls hl => ?_)
          refine lv_goto (tgt := 510) hx hb dL_law_333 (by decide) ?_
          exact hJ q32.2 x2 x3 x5 q13 q14 q32.1 _ _ hP hD hS _ (lv_sub hl [4, 5, 6, 7, 8, 2, 1, 0] rfl) hF
        refine f_ite hF (fun q11_ hF => ?_) (fun q11_ hF => ?_)
        · rw [q11_]
          refine lv_tableIn (tgt := 336) hx hb dL_law_124 (by decide) (by decide) rfl (by decide) ?_
          refine lv_aload_n hx hb dL_law_336 rfl (lv_at hl 5 rfl) ?_
          refine lv_iconst (v := 1) hx hb dL_law_337 (by decide) ?_
          refine lv_iload hx hb dL_law_338 (lv_at hl 2 rfl) ?_
          refine lv_sipush (v := 150) hx hb dL_law_340 (by decide) ?_
          refine lv_irem hx hb dL_law_343 (by decide) ?_
          refine lv_iadd hx hb dL_law_344 ?_
          obtain ⟨q33, h_q33, hF⟩ := bnd_s hF
          refine g_callV (As := [.int (1 + (q13 - q13 / 150 * 150))]) (rest := []) ⟨hx, hb, hml, hown, hts⟩ hK hZ hA (c_X9_advance l E o qh qr qt qs qn fn fs ft gh n u (1 + (q13 - q13 / 150 * 150)) q33 h_q33) (cwV 1 hts gL_law_X9_advance rfl rfl rfl (by decide +kernel) ⟨Nat.le_of_ble_eq_true rfl, Nat.le_of_ble_eq_true rfl⟩) hP hD hS [0] [] rfl rfl rfl rfl rfl rfl hl.1 rfl (Nat.le_of_ble_eq_true rfl) dL_law_345 ⟨Nat.le_of_ble_eq_true rfl, Nat.le_of_ble_eq_true rfl⟩ (fun H locs hP hD hS => ?_)
          have hP : va_P E.1 vwCl (bl [HL_c E o qh qr qt qs qn fn fs ft gh q33.2]) H := hP
          have hD : va_D A (bl [HL_c E o qh qr qt qs qn fn fs ft gh q33.2]) := hD
          refine W.eq (g2 := F0 m 348 ls [.int q33.1]) rfl ?_
          refine lv_istore (lv' := [(9, .int q33.1), (8, .int q14), (7, .int q13), (6, .int q12), (0, .ref b), (1, .ref o), (2, .int x2), (3, .long x3), (5, .int x5)]) hx hb dL_law_348 hl (by decide) rfl (fun ls hl => ?_)
          refine lv_goto (tgt := 510) hx hb dL_law_350 (by decide) ?_
          exact hJ q33.2 x2 x3 x5 q13 q14 q33.1 _ _ hP hD hS _ (lv_sub hl [4, 5, 6, 7, 8, 2, 1, 0] rfl) hF
        refine f_ite hF (fun q12_ hF => ?_) (fun q12_ hF => ?_)
        · rw [q12_]
          refine lv_tableIn (tgt := 336) hx hb dL_law_124 (by decide) (by decide) rfl (by decide) ?_
          refine lv_aload_n hx hb dL_law_336 rfl (lv_at hl 5 rfl) ?_
          refine lv_iconst (v := 1) hx hb dL_law_337 (by decide) ?_
          refine lv_iload hx hb dL_law_338 (lv_at hl 2 rfl) ?_
          refine lv_sipush (v := 150) hx hb dL_law_340 (by decide) ?_
          refine lv_irem hx hb dL_law_343 (by decide) ?_
          refine lv_iadd hx hb dL_law_344 ?_
          obtain ⟨q34, h_q34, hF⟩ := bnd_s hF
          refine g_callV (As := [.int (1 + (q13 - q13 / 150 * 150))]) (rest := []) ⟨hx, hb, hml, hown, hts⟩ hK hZ hA (c_X9_advance l E o qh qr qt qs qn fn fs ft gh n u (1 + (q13 - q13 / 150 * 150)) q34 h_q34) (cwV 1 hts gL_law_X9_advance rfl rfl rfl (by decide +kernel) ⟨Nat.le_of_ble_eq_true rfl, Nat.le_of_ble_eq_true rfl⟩) hP hD hS [0] [] rfl rfl rfl rfl rfl rfl hl.1 rfl (Nat.le_of_ble_eq_true rfl) dL_law_345 ⟨Nat.le_of_ble_eq_true rfl, Nat.le_of_ble_eq_true rfl⟩ (fun H locs hP hD hS => ?_)
          have hP : va_P E.1 vwCl (bl [HL_c E o qh qr qt qs qn fn fs ft gh q34.2]) H := hP
          have hD : va_D A (bl [HL_c E o qh qr qt qs qn fn fs ft gh q34.2]) := hD
          refine W.eq (g2 := F0 m 348 ls [.int q34.1]) rfl ?_
          refine lv_istore (lv' := [(9, .int q34.1), (8, .int q14), (7, .int q13), (6, .int q12), (0, .ref b), (1, .ref o), (2, .int x2), (3, .long x3), (5, .int x5)]) hx hb dL_law_348 hl (by decide) rfl (fun ls hl => ?_)
          refine lv_goto (tgt := 510) hx hb dL_law_350 (by decide) ?_
          exact hJ q34.2 x2 x3 x5 q13 q14 q34.1 _ _ hP hD hS _ (lv_sub hl [4, 5, 6, 7, 8, 2, 1, 0] rfl) hF
        refine f_ite hF (fun q13_ hF => ?_) (fun q13_ hF => ?_)
        · rw [q13_]
          refine lv_tableIn (tgt := 353) hx hb dL_law_124 (by decide) (by decide) rfl (by decide) ?_
          refine lv_aload_n hx hb dL_law_353 rfl (lv_at hl 5 rfl) ?_
          refine lv_iload hx hb dL_law_354 (lv_at hl 2 rfl) ?_
          refine lv_sipush (v := 2000) hx hb dL_law_356 (by decide) ?_
          refine lv_irem hx hb dL_law_359 (by decide) ?_
          refine lv_sipush (v := 1000) hx hb dL_law_360 (by decide) ?_
          refine lv_isub hx hb dL_law_363 ?_
          refine lv_iload hx hb dL_law_364 (lv_at hl 1 rfl) ?_
          refine lv_sipush (v := 2000) hx hb dL_law_366 (by decide) ?_
          refine lv_irem hx hb dL_law_369 (by decide) ?_
          refine lv_sipush (v := 1000) hx hb dL_law_370 (by decide) ?_
          refine lv_isub hx hb dL_law_373 ?_
          refine lv_iload hx hb dL_law_374 (lv_at hl 1 rfl) ?_
          refine lv_sipush (v := 600) hx hb dL_law_376 (by decide) ?_
          refine lv_irem hx hb dL_law_379 (by decide) ?_
          refine lv_sipush (v := 300) hx hb dL_law_380 (by decide) ?_
          refine lv_isub hx hb dL_law_383 ?_
          refine lv_sipush (v := 300) hx hb dL_law_384 (by decide) ?_
          refine lv_iload hx hb dL_law_387 (lv_at hl 2 rfl) ?_
          refine lv_sipush (v := 600) hx hb dL_law_389 (by decide) ?_
          refine lv_irem hx hb dL_law_392 (by decide) ?_
          refine lv_isub hx hb dL_law_393 ?_
          refine lv_iconst (v := 1) hx hb dL_law_394 (by decide) ?_
          refine lv_iload hx hb dL_law_395 (lv_at hl 2 rfl) ?_
          refine lv_bipush (v := 60) hx hb dL_law_397 (by decide) ?_
          refine lv_irem hx hb dL_law_399 (by decide) ?_
          refine lv_iadd hx hb dL_law_400 ?_
          obtain ⟨q35, h_q35, hF⟩ := bnd_s hF
          refine g_callV (As := [.int ((q13 - q13 / 2000 * 2000) - 1000), .int ((q14 - q14 / 2000 * 2000) - 1000), .int ((q14 - q14 / 600 * 600) - 300), .int (300 - (q13 - q13 / 600 * 600)), .int (1 + (q13 - q13 / 60 * 60))]) (rest := []) ⟨hx, hb, hml, hown, hts⟩ hK hZ hA (c_X9_pass l E o qh qr qt qs qn fn fs ft gh n u ((q13 - q13 / 2000 * 2000) - 1000) ((q14 - q14 / 2000 * 2000) - 1000) ((q14 - q14 / 600 * 600) - 300) (300 - (q13 - q13 / 600 * 600)) (1 + (q13 - q13 / 60 * 60)) q35 h_q35) (cwV 5 hts gL_law_X9_pass rfl rfl rfl (by decide +kernel) ⟨Nat.le_of_ble_eq_true rfl, Nat.le_of_ble_eq_true rfl⟩) hP hD hS [0] [] rfl rfl rfl rfl rfl rfl hl.1 rfl (Nat.le_of_ble_eq_true rfl) dL_law_401 ⟨Nat.le_of_ble_eq_true rfl, Nat.le_of_ble_eq_true rfl⟩ (fun H locs hP hD hS => ?_)
          have hP : va_P E.1 vwCl (bl [HL_c E o qh qr qt qs qn fn fs ft gh q35.2]) H := hP
          have hD : va_D A (bl [HL_c E o qh qr qt qs qn fn fs ft gh q35.2]) := hD
          refine W.eq (g2 := F0 m 404 ls [.int q35.1]) rfl ?_
          refine lv_istore (lv' := [(9, .int q35.1), (8, .int q14), (7, .int q13), (6, .int q12), (0, .ref b), (1, .ref o), (2, .int x2), (3, .long x3), (5, .int x5)]) hx hb dL_law_404 hl (by decide) rfl (fun ls hl => ?_)
          refine lv_goto (tgt := 510) hx hb dL_law_406 (by decide) ?_
          exact hJ q35.2 x2 x3 x5 q13 q14 q35.1 _ _ hP hD hS _ (lv_sub hl [4, 5, 6, 7, 8, 2, 1, 0] rfl) hF
        refine f_ite hF (fun q14_ hF => ?_) (fun q14_ hF => ?_)
        · rw [q14_]
          refine lv_tableIn (tgt := 409) hx hb dL_law_124 (by decide) (by decide) rfl (by decide) ?_
          refine lv_aload_n hx hb dL_law_409 rfl (lv_at hl 5 rfl) ?_
          obtain ⟨q36, h_q36, hF⟩ := bnd_s hF
          refine g_callV (As := []) (rest := []) ⟨hx, hb, hml, hown, hts⟩ hK hZ hA (c_X9_store l E o qh qr qt qs qn fn fs ft gh u q36 h_q36) (cwV 0 hts gL_law_X9_store rfl rfl rfl (by decide +kernel) ⟨Nat.le_of_ble_eq_true rfl, Nat.le_of_ble_eq_true rfl⟩) hP hD hS [0] [] rfl rfl rfl rfl rfl rfl hl.1 rfl (Nat.le_of_ble_eq_true rfl) dL_law_410 ⟨Nat.le_of_ble_eq_true rfl, Nat.le_of_ble_eq_true rfl⟩ (fun H locs hP hD hS => ?_)
          have hP : va_P E.1 vwCl (bl [HL_c E o qh qr qt qs qn fn fs ft gh q36.2]) H := hP
          have hD : va_D A (bl [HL_c E o qh qr qt qs qn fn fs ft gh q36.2]) := hD
          refine W.eq (g2 := F0 m 413 ls [.int q36.1]) rfl ?_
          refine lv_istore (lv' := [(9, .int q36.1), (8, .int q14), (7, .int q13), (6, .int q12), (0, .ref b), (1, .ref o), (2, .int x2), (3, .long x3), (5, .int x5)]) hx hb dL_law_413 hl (by decide) rfl (fun ls hl => ?_)
          refine lv_aload_n hx hb dL_law_415 rfl (lv_at hl 5 rfl) ?_
          obtain ⟨q37, h_q37, hF⟩ := bnd_s hF
          refine g_callS (As := [.ref o]) (rest := []) ⟨hx, hb, hml, hown, hts⟩ hK hZ hA (c_L_print l E o qh qr qt qs qn fn fs ft gh n q36.2 q37 h_q37) (va_cwS 1 hts gL_law_L_print rfl rfl rfl (by decide +kernel) ⟨Nat.le_of_ble_eq_true rfl, Nat.le_of_ble_eq_true rfl⟩) hP hD hS [0] [] rfl rfl rfl hl.1 rfl (Nat.le_of_ble_eq_true rfl) dL_law_416 ⟨Nat.le_of_ble_eq_true rfl, Nat.le_of_ble_eq_true rfl⟩ (fun H locs hP hD hS => ?_)
          have hP : va_P E.1 vwCl (bl [HL_c E o qh qr qt qs qn fn fs ft gh q37.2]) H := hP
          have hD : va_D A (bl [HL_c E o qh qr qt qs qn fn fs ft gh q37.2]) := hD
          refine W.eq (g2 := F0 m 419 ls [.long q37.1]) rfl ?_
          refine lv_lstore_n (lv' := [(3, .long q37.1), (9, .int q36.1), (8, .int q14), (7, .int q13), (6, .int q12), (0, .ref b), (1, .ref o), (2, .int x2), (5, .int x5)]) hx hb dL_law_419 rfl hl (by decide) rfl (fun ls hl => ?_)
          refine lv_aload_n hx hb dL_law_420 rfl (lv_at hl 6 rfl) ?_
          refine lv_iconst (v := 0) hx hb dL_law_421 (by decide) ?_
          obtain ⟨q38, h_q38, hF⟩ := bnd_s hF
          refine g_callV (As := [.int 0]) (rest := []) ⟨hx, hb, hml, hown, hts⟩ hK hZ hA (c_X9_compare l E o qh qr qt qs qn fn fs ft gh n q37.2 (0) q38 h_q38) (cwV 1 hts gL_law_X9_compare rfl rfl rfl (by decide +kernel) ⟨Nat.le_of_ble_eq_true rfl, Nat.le_of_ble_eq_true rfl⟩) hP hD hS [0] [] rfl rfl rfl rfl rfl rfl hl.1 rfl (Nat.le_of_ble_eq_true rfl) dL_law_422 ⟨Nat.le_of_ble_eq_true rfl, Nat.le_of_ble_eq_true rfl⟩ (fun H locs hP hD hS => ?_)
          have hP : va_P E.1 vwCl (bl [HL_c E o qh qr qt qs qn fn fs ft gh q37.2]) H := hP
          have hD : va_D A (bl [HL_c E o qh qr qt qs qn fn fs ft gh q37.2]) := hD
          refine W.eq (g2 := F0 m 425 ls [.int q38]) rfl ?_
          refine f_if_ne (tgt := 458) hx hb dL_law_425 (by decide) hF (fun hF => ?_) (fun hF => ?_)
          · refine lv_iconst (v := 0) hx hb dL_law_458 (by decide) ?_
            refine lv_istore_n (lv' := [(2, .int 0), (3, .long q37.1), (9, .int q36.1), (8, .int q14), (7, .int q13), (6, .int q12), (0, .ref b), (1, .ref o), (5, .int x5)]) hx hb dL_law_459 rfl hl (by decide) rfl (fun ls hl => ?_)
            refine lv_goto (tgt := 510) hx hb dL_law_460 (by decide) ?_
            exact hJ q37.2 (0 : Int32) q37.1 x5 q13 q14 q36.1 _ _ hP hD hS _ (lv_sub hl [6, 7, 0, 1, 8, 4, 3, 2] rfl) hF
          · refine lv_aload_n hx hb dL_law_428 rfl (lv_at hl 6 rfl) ?_
            refine lv_iconst (v := 1) hx hb dL_law_429 (by decide) ?_
            obtain ⟨q39, h_q39, hF⟩ := bnd_s hF
            refine g_callV (As := [.int 1]) (rest := []) ⟨hx, hb, hml, hown, hts⟩ hK hZ hA (c_X9_compare l E o qh qr qt qs qn fn fs ft gh n q37.2 (1) q39 h_q39) (cwV 1 hts gL_law_X9_compare rfl rfl rfl (by decide +kernel) ⟨Nat.le_of_ble_eq_true rfl, Nat.le_of_ble_eq_true rfl⟩) hP hD hS [0] [] rfl rfl rfl rfl rfl rfl hl.1 rfl (Nat.le_of_ble_eq_true rfl) dL_law_430 ⟨Nat.le_of_ble_eq_true rfl, Nat.le_of_ble_eq_true rfl⟩ (fun H locs hP hD hS => ?_)
            have hP : va_P E.1 vwCl (bl [HL_c E o qh qr qt qs qn fn fs ft gh q37.2]) H := hP
            have hD : va_D A (bl [HL_c E o qh qr qt qs qn fn fs ft gh q37.2]) := hD
            refine W.eq (g2 := F0 m 433 ls [.int q39]) rfl ?_
            refine f_if_ne (tgt := 458) hx hb dL_law_433 (by decide) hF (fun hF => ?_) (fun hF => ?_)
            · refine lv_iconst (v := 0) hx hb dL_law_458 (by decide) ?_
              refine lv_istore_n (lv' := [(2, .int 0), (3, .long q37.1), (9, .int q36.1), (8, .int q14), (7, .int q13), (6, .int q12), (0, .ref b), (1, .ref o), (5, .int x5)]) hx hb dL_law_459 rfl hl (by decide) rfl (fun ls hl => ?_)
              refine lv_goto (tgt := 510) hx hb dL_law_460 (by decide) ?_
              exact hJ q37.2 (0 : Int32) q37.1 x5 q13 q14 q36.1 _ _ hP hD hS _ (lv_sub hl [6, 7, 0, 1, 8, 4, 3, 2] rfl) hF
            · refine lv_aload_n hx hb dL_law_436 rfl (lv_at hl 6 rfl) ?_
              refine lv_iconst (v := 2) hx hb dL_law_437 (by decide) ?_
              obtain ⟨q40, h_q40, hF⟩ := bnd_s hF
              refine g_callV (As := [.int 2]) (rest := []) ⟨hx, hb, hml, hown, hts⟩ hK hZ hA (c_X9_compare l E o qh qr qt qs qn fn fs ft gh n q37.2 (2) q40 h_q40) (cwV 1 hts gL_law_X9_compare rfl rfl rfl (by decide +kernel) ⟨Nat.le_of_ble_eq_true rfl, Nat.le_of_ble_eq_true rfl⟩) hP hD hS [0] [] rfl rfl rfl rfl rfl rfl hl.1 rfl (Nat.le_of_ble_eq_true rfl) dL_law_438 ⟨Nat.le_of_ble_eq_true rfl, Nat.le_of_ble_eq_true rfl⟩ (fun H locs hP hD hS => ?_)
              have hP : va_P E.1 vwCl (bl [HL_c E o qh qr qt qs qn fn fs ft gh q37.2]) H := hP
              have hD : va_D A (bl [HL_c E o qh qr qt qs qn fn fs ft gh q37.2]) := hD
              refine W.eq (g2 := F0 m 441 ls [.int q40]) rfl ?_
              refine f_if_ne (tgt := 458) hx hb dL_law_441 (by decide) hF (fun hF => ?_) (fun hF => ?_)
              · refine lv_iconst (v := 0) hx hb dL_law_458 (by decide) ?_
                refine lv_istore_n (lv' := [(2, .int 0), (3, .long q37.1), (9, .int q36.1), (8, .int q14), (7, .int q13), (6, .int q12), (0, .ref b), (1, .ref o), (5, .int x5)]) hx hb dL_law_459 rfl hl (by decide) rfl (fun ls hl => ?_)
                refine lv_goto (tgt := 510) hx hb dL_law_460 (by decide) ?_
                exact hJ q37.2 (0 : Int32) q37.1 x5 q13 q14 q36.1 _ _ hP hD hS _ (lv_sub hl [6, 7, 0, 1, 8, 4, 3, 2] rfl) hF
              · refine lv_aload_n hx hb dL_law_444 rfl (lv_at hl 6 rfl) ?_
                refine lv_iconst (v := 3) hx hb dL_law_445 (by decide) ?_
                obtain ⟨q41, h_q41, hF⟩ := bnd_s hF
                refine g_callV (As := [.int 3]) (rest := []) ⟨hx, hb, hml, hown, hts⟩ hK hZ hA (c_X9_compare l E o qh qr qt qs qn fn fs ft gh n q37.2 (3) q41 h_q41) (cwV 1 hts gL_law_X9_compare rfl rfl rfl (by decide +kernel) ⟨Nat.le_of_ble_eq_true rfl, Nat.le_of_ble_eq_true rfl⟩) hP hD hS [0] [] rfl rfl rfl rfl rfl rfl hl.1 rfl (Nat.le_of_ble_eq_true rfl) dL_law_446 ⟨Nat.le_of_ble_eq_true rfl, Nat.le_of_ble_eq_true rfl⟩ (fun H locs hP hD hS => ?_)
                have hP : va_P E.1 vwCl (bl [HL_c E o qh qr qt qs qn fn fs ft gh q37.2]) H := hP
                have hD : va_D A (bl [HL_c E o qh qr qt qs qn fn fs ft gh q37.2]) := hD
                refine W.eq (g2 := F0 m 449 ls [.int q41]) rfl ?_
                refine lv_ldc (v := 1000000) hx hb hown w0 dL_law_449 ?_
                refine f_icmp_ne (tgt := 458) hx hb dL_law_451 (by decide) hF (fun hF => ?_) (fun hF => ?_)
                · refine lv_iconst (v := 0) hx hb dL_law_458 (by decide) ?_
                  refine lv_istore_n (lv' := [(2, .int 0), (3, .long q37.1), (9, .int q36.1), (8, .int q14), (7, .int q13), (6, .int q12), (0, .ref b), (1, .ref o), (5, .int x5)]) hx hb dL_law_459 rfl hl (by decide) rfl (fun ls hl => ?_)
                  refine lv_goto (tgt := 510) hx hb dL_law_460 (by decide) ?_
                  exact hJ q37.2 (0 : Int32) q37.1 x5 q13 q14 q36.1 _ _ hP hD hS _ (lv_sub hl [6, 7, 0, 1, 8, 4, 3, 2] rfl) hF
                · refine lv_iconst (v := 1) hx hb dL_law_454 (by decide) ?_
                  refine lv_goto (tgt := 459) hx hb dL_law_455 (by decide) ?_
                  refine lv_istore_n (lv' := [(2, .int 1), (3, .long q37.1), (9, .int q36.1), (8, .int q14), (7, .int q13), (6, .int q12), (0, .ref b), (1, .ref o), (5, .int x5)]) hx hb dL_law_459 rfl hl (by decide) rfl (fun ls hl => ?_)
                  refine lv_goto (tgt := 510) hx hb dL_law_460 (by decide) ?_
                  exact hJ q37.2 (1 : Int32) q37.1 x5 q13 q14 q36.1 _ _ hP hD hS _ (lv_sub hl [6, 7, 0, 1, 8, 4, 3, 2] rfl) hF
        refine f_ite hF (fun q15_ hF => ?_) (fun q15_ hF => ?_)
        · rw [q15_]
          refine lv_tableIn (tgt := 463) hx hb dL_law_124 (by decide) (by decide) rfl (by decide) ?_
          refine lv_aload_n hx hb dL_law_463 rfl (lv_at hl 5 rfl) ?_
          obtain ⟨q42, h_q42, hF⟩ := bnd_s hF
          refine g_callV (As := []) (rest := []) ⟨hx, hb, hml, hown, hts⟩ hK hZ hA (c_X9_recall l E o qh qr qt qs qn fn fs ft gh u q42 h_q42) (cwV 0 hts gL_law_X9_recall rfl rfl rfl (by decide +kernel) ⟨Nat.le_of_ble_eq_true rfl, Nat.le_of_ble_eq_true rfl⟩) hP hD hS [0] [] rfl rfl rfl rfl rfl rfl hl.1 rfl (Nat.le_of_ble_eq_true rfl) dL_law_464 ⟨Nat.le_of_ble_eq_true rfl, Nat.le_of_ble_eq_true rfl⟩ (fun H locs hP hD hS => ?_)
          have hP : va_P E.1 vwCl (bl [HL_c E o qh qr qt qs qn fn fs ft gh q42.2]) H := hP
          have hD : va_D A (bl [HL_c E o qh qr qt qs qn fn fs ft gh q42.2]) := hD
          refine W.eq (g2 := F0 m 467 ls [.int q42.1]) rfl ?_
          refine lv_istore (lv' := [(9, .int q42.1), (8, .int q14), (7, .int q13), (6, .int q12), (0, .ref b), (1, .ref o), (2, .int x2), (3, .long x3), (5, .int x5)]) hx hb dL_law_467 hl (by decide) rfl (fun ls hl => ?_)
          refine lv_iload hx hb dL_law_469 (lv_at hl 0 rfl) ?_
          refine lv_bipush (v := (-2)) hx hb dL_law_471 (by decide) ?_
          refine f_icmp_eq (tgt := 495) hx hb dL_law_473 (by decide) hF (fun hF => ?_) (fun hF => ?_)
          · refine lv_iconst (v := 1) hx hb dL_law_495 (by decide) ?_
            refine lv_goto (tgt := 500) hx hb dL_law_496 (by decide) ?_
            refine lv_istore_n (lv' := [(2, .int 1), (9, .int q42.1), (8, .int q14), (7, .int q13), (6, .int q12), (0, .ref b), (1, .ref o), (3, .long x3), (5, .int x5)]) hx hb dL_law_500 rfl hl (by decide) rfl (fun ls hl => ?_)
            refine lv_goto (tgt := 510) hx hb dL_law_501 (by decide) ?_
            exact hJ q42.2 (1 : Int32) x3 x5 q13 q14 q42.1 _ _ hP hD hS _ (lv_sub hl [5, 6, 0, 7, 8, 3, 2, 1] rfl) hF
          · refine lv_aload_n hx hb dL_law_476 rfl (lv_at hl 5 rfl) ?_
            obtain ⟨q43, h_q43, hF⟩ := bnd_s hF
            refine g_callS (As := [.ref o]) (rest := []) ⟨hx, hb, hml, hown, hts⟩ hK hZ hA (c_L_print l E o qh qr qt qs qn fn fs ft gh n q42.2 q43 h_q43) (va_cwS 1 hts gL_law_L_print rfl rfl rfl (by decide +kernel) ⟨Nat.le_of_ble_eq_true rfl, Nat.le_of_ble_eq_true rfl⟩) hP hD hS [0] [] rfl rfl rfl hl.1 rfl (Nat.le_of_ble_eq_true rfl) dL_law_477 ⟨Nat.le_of_ble_eq_true rfl, Nat.le_of_ble_eq_true rfl⟩ (fun H locs hP hD hS => ?_)
            have hP : va_P E.1 vwCl (bl [HL_c E o qh qr qt qs qn fn fs ft gh q43.2]) H := hP
            have hD : va_D A (bl [HL_c E o qh qr qt qs qn fn fs ft gh q43.2]) := hD
            refine W.eq (g2 := F0 m 480 ls [.long q43.1]) rfl ?_
            refine lv_lload_n hx hb dL_law_480 rfl (lv_at hl 7 rfl) ?_
            refine W.lcmp hx hb dL_law_481 ?_
            refine f_if_ne (tgt := 499) hx hb dL_law_482 (by decide) hF (fun hF => ?_) (fun hF => ?_)
            · refine lv_iconst (v := 0) hx hb dL_law_499 (by decide) ?_
              refine lv_istore_n (lv' := [(2, .int 0), (9, .int q42.1), (8, .int q14), (7, .int q13), (6, .int q12), (0, .ref b), (1, .ref o), (3, .long x3), (5, .int x5)]) hx hb dL_law_500 rfl hl (by decide) rfl (fun ls hl => ?_)
              refine lv_goto (tgt := 510) hx hb dL_law_501 (by decide) ?_
              exact hJ q43.2 (0 : Int32) x3 x5 q13 q14 q42.1 _ _ hP hD hS _ (lv_sub hl [5, 6, 0, 7, 8, 3, 2, 1] rfl) hF
            · refine lv_aload_n hx hb dL_law_485 rfl (lv_at hl 5 rfl) ?_
              refine lv_iconst (v := 3) hx hb dL_law_486 (by decide) ?_
              obtain ⟨q44, h_q44, hF⟩ := bnd_s hF
              refine g_callV (As := [.int 3]) (rest := []) ⟨hx, hb, hml, hown, hts⟩ hK hZ hA (c_X9_compare l E o qh qr qt qs qn fn fs ft gh n q43.2 (3) q44 h_q44) (cwV 1 hts gL_law_X9_compare rfl rfl rfl (by decide +kernel) ⟨Nat.le_of_ble_eq_true rfl, Nat.le_of_ble_eq_true rfl⟩) hP hD hS [0] [] rfl rfl rfl rfl rfl rfl hl.1 rfl (Nat.le_of_ble_eq_true rfl) dL_law_487 ⟨Nat.le_of_ble_eq_true rfl, Nat.le_of_ble_eq_true rfl⟩ (fun H locs hP hD hS => ?_)
              have hP : va_P E.1 vwCl (bl [HL_c E o qh qr qt qs qn fn fs ft gh q43.2]) H := hP
              have hD : va_D A (bl [HL_c E o qh qr qt qs qn fn fs ft gh q43.2]) := hD
              refine W.eq (g2 := F0 m 490 ls [.int q44]) rfl ?_
              refine lv_ldc (v := 1000000) hx hb hown w0 dL_law_490 ?_
              refine f_icmp_ne (tgt := 499) hx hb dL_law_492 (by decide) hF (fun hF => ?_) (fun hF => ?_)
              · refine lv_iconst (v := 0) hx hb dL_law_499 (by decide) ?_
                refine lv_istore_n (lv' := [(2, .int 0), (9, .int q42.1), (8, .int q14), (7, .int q13), (6, .int q12), (0, .ref b), (1, .ref o), (3, .long x3), (5, .int x5)]) hx hb dL_law_500 rfl hl (by decide) rfl (fun ls hl => ?_)
                refine lv_goto (tgt := 510) hx hb dL_law_501 (by decide) ?_
                exact hJ q43.2 (0 : Int32) x3 x5 q13 q14 q42.1 _ _ hP hD hS _ (lv_sub hl [5, 6, 0, 7, 8, 3, 2, 1] rfl) hF
              · refine lv_iconst (v := 1) hx hb dL_law_495 (by decide) ?_
                refine lv_goto (tgt := 500) hx hb dL_law_496 (by decide) ?_
                refine lv_istore_n (lv' := [(2, .int 1), (9, .int q42.1), (8, .int q14), (7, .int q13), (6, .int q12), (0, .ref b), (1, .ref o), (3, .long x3), (5, .int x5)]) hx hb dL_law_500 rfl hl (by decide) rfl (fun ls hl => ?_)
                refine lv_goto (tgt := 510) hx hb dL_law_501 (by decide) ?_
                exact hJ q43.2 (1 : Int32) x3 x5 q13 q14 q42.1 _ _ hP hD hS _ (lv_sub hl [5, 6, 0, 7, 8, 3, 2, 1] rfl) hF
        refine lv_tableOut (tgt := 504) hx hb dL_law_124 (by have t0_ := ne_toInt (z := 0) q0_ (by decide); have t1_ := ne_toInt (z := 1) q1_ (by decide); have t2_ := ne_toInt (z := 2) q2_ (by decide); have t3_ := ne_toInt (z := 3) q3_ (by decide); have t4_ := ne_toInt (z := 4) q4_ (by decide); have t5_ := ne_toInt (z := 5) q5_ (by decide); have t6_ := ne_toInt (z := 6) q6_ (by decide); have t7_ := ne_toInt (z := 7) q7_ (by decide); have t8_ := ne_toInt (z := 8) q8_ (by decide); have t9_ := ne_toInt (z := 9) q9_ (by decide); have t10_ := ne_toInt (z := 10) q10_ (by decide); have t11_ := ne_toInt (z := 11) q11_ (by decide); have t12_ := ne_toInt (z := 12) q12_ (by decide); have t13_ := ne_toInt (z := 13) q13_ (by decide); have t14_ := ne_toInt (z := 14) q14_ (by decide); have t15_ := ne_toInt (z := 15) q15_ (by decide); omega) (by decide) ?_
        refine lv_aload_n hx hb dL_law_504 rfl (lv_at hl 5 rfl) ?_
        obtain ⟨q45, h_q45, hF⟩ := bnd_s hF
        refine g_callV (As := []) (rest := []) ⟨hx, hb, hml, hown, hts⟩ hK hZ hA (c_X9_undo l E o qh qr qt qs qn fn fs ft gh u q45 h_q45) (cwV 0 hts gL_law_X9_undo rfl rfl rfl (by decide +kernel) ⟨Nat.le_of_ble_eq_true rfl, Nat.le_of_ble_eq_true rfl⟩) hP hD hS [0] [] rfl rfl rfl rfl rfl rfl hl.1 rfl (Nat.le_of_ble_eq_true rfl) dL_law_505 ⟨Nat.le_of_ble_eq_true rfl, Nat.le_of_ble_eq_true rfl⟩ (fun H locs hP hD hS => ?_)
        have hP : va_P E.1 vwCl (bl [HL_c E o qh qr qt qs qn fn fs ft gh q45.2]) H := hP
        have hD : va_D A (bl [HL_c E o qh qr qt qs qn fn fs ft gh q45.2]) := hD
        refine W.eq (g2 := F0 m 508 ls [.int q45.1]) rfl ?_
        refine lv_istore (lv' := [(9, .int q45.1), (8, .int q14), (7, .int q13), (6, .int q12), (0, .ref b), (1, .ref o), (2, .int x2), (3, .long x3), (5, .int x5)]) hx hb dL_law_508 hl (by decide) rfl (fun ls hl => ?_)
        exact hJ q45.2 x2 x3 x5 q13 q14 q45.1 _ _ hP hD hS _ (lv_sub hl [4, 5, 6, 7, 8, 2, 1, 0] rfl) hF
def F_law_S (n L : Nat) (xs : Nat → Int32) (kk : Nat) (u : HLV) : Option Int32 := (F_X9_undo u).bind fun q1 => if q1.1 = (-2) then (F_X9_count n q1.2 0).bind fun q2 => if q2 = 1 then (F_X9_code n q1.2 3).bind fun q3 => if q3 = 1 then (F_X9_untilIdle n q1.2).bind fun q4 => if q4.1 = 0 then (F_X9_fault n q4.2 0).bind fun q5 => if q5.1 = (-4) then (F_L_areErrors n q5.2).bind fun q6 => if q6.1 = 0 then F_law n L xs kk q6.2 (0 : Int32) (0 : Int64) (0 : Int32) else F_law n L xs kk q6.2 (1 : Int32) (0 : Int64) (0 : Int32) else F_law n L xs kk q5.2 (0 : Int32) (0 : Int64) (0 : Int32) else F_law n L xs kk q4.2 (0 : Int32) (0 : Int64) (0 : Int32) else F_law n L xs kk q1.2 (0 : Int32) (0 : Int64) (0 : Int32) else F_law n L xs kk q1.2 (0 : Int32) (0 : Int64) (0 : Int32) else F_law n L xs kk q1.2 (0 : Int32) (0 : Int64) (0 : Int32)
set_option maxHeartbeats 40000000 in
set_option maxRecDepth 100000 in
theorem law_body {p : Program} {l : Launch} {e : Env} {s : State} {m : MethodId} {below : List Frame} {meth : Method} {cd : Code} {E : GE} {b L : Nat} {xs : Nat → Int32} (hx : p.tables.exec = Jvm.exec) (hb : cd.code = cL_law) (hr : meth.sig.returnType = ret) (hml : cd.maxLocals = 10) (hown : s.vm.findClass RL = some m.cls) (hts : ∀ w ∈ wsL_law, w.before #[Value.ref b] s = true) (hX : va_X b L xs s s.heap) (hbl : b < s.heap.size) (hlocks : meth.locks = false) (hK : gK E s) (hZ : gZ E (fun q : Nat => s.heap.size ≤ q) s s.heap) (n : Nat) (o : Nat) (qh : Nat) (qr : Nat) (qt : Nat) (qs : Nat) (qn : Nat) (fn : Nat → Nat) (fs : Nat → Nat) (ft : Nat → Nat) (gh : Nat → Nat → Nat) (kk : Nat) (u : HLV) (H : Heap) (locs : List Loc) (hP : va_P E.1 vwCl (bl [HL_c E o qh qr qt qs qn fn fs ft gh u]) H) (hD : va_D (fun q : Nat => s.heap.size ≤ q) (bl [HL_c E o qh qr qt qs qn fn fs ft gh u])) (hS : va_S (fun q : Nat => s.heap.size ≤ q) s.heap H locs) (ls : Array Slot) (hl : lv_has ls 10 [(0, .ref b), (1, .ref o)]) (hF : F_law_S n L xs kk u = some 1) : W p l e room_1 s m #[Value.ref b] below meth cd H locs 142 2509 (lw_Z below #[Value.ref b] s) (F0 m 8 ls []) := by
  obtain ⟨A, hAe⟩ : ∃ A : Nat → Prop, A = fun q : Nat => s.heap.size ≤ q := ⟨_, rfl⟩
  rw [← hAe] at hD hS
  have hZA := hZ
  rw [← hAe] at hZA
  have hA : ∀ q : Nat, s.heap.size ≤ q → A q := fun q h => by rw [hAe]; exact h
  rw [F_law_S] at hF
  refine lv_aload_n hx hb dL_law_8 rfl (lv_at hl 1 rfl) ?_
  obtain ⟨q1, h_q1, hF⟩ := bnd_s hF
  refine g_callV (As := []) (rest := []) ⟨hx, hb, hml, hown, hts⟩ hK hZA hA (c_X9_undo l E o qh qr qt qs qn fn fs ft gh u q1 h_q1) (cwV 0 hts gL_law_X9_undo rfl rfl rfl (by decide +kernel) ⟨Nat.le_of_ble_eq_true rfl, Nat.le_of_ble_eq_true rfl⟩) hP hD hS [0] [] rfl rfl rfl rfl rfl rfl hl.1 rfl (Nat.le_of_ble_eq_true rfl) dL_law_9 ⟨Nat.le_of_ble_eq_true rfl, Nat.le_of_ble_eq_true rfl⟩ (fun H locs hP hD hS => ?_)
  have hP : va_P E.1 vwCl (bl [HL_c E o qh qr qt qs qn fn fs ft gh q1.2]) H := hP
  have hD : va_D A (bl [HL_c E o qh qr qt qs qn fn fs ft gh q1.2]) := hD
  refine W.eq (g2 := F0 m 12 ls [.int q1.1]) rfl ?_
  refine lv_bipush (v := (-2)) hx hb dL_law_12 (by decide) ?_
  refine f_icmp_ne (tgt := 63) hx hb dL_law_14 (by decide) hF (fun hF => ?_) (fun hF => ?_)
  · refine lv_iconst (v := 0) hx hb dL_law_63 (by decide) ?_
    refine lv_istore_n (lv' := [(2, .int 0), (0, .ref b), (1, .ref o)]) hx hb dL_law_64 rfl hl (by decide) rfl (fun ls hl => ?_)
    refine lv_lconst (v := 0) hx hb dL_law_65 (by decide) ?_
    refine lv_lstore_n (lv' := [(3, .long 0), (2, .int 0), (0, .ref b), (1, .ref o)]) hx hb dL_law_66 rfl hl (by decide) rfl (fun ls hl => ?_)
    refine lv_iconst (v := 0) hx hb dL_law_67 (by decide) ?_
    refine lv_istore (lv' := [(5, .int 0), (3, .long 0), (2, .int 0), (0, .ref b), (1, .ref o)]) hx hb dL_law_68 hl (by decide) rfl (fun ls hl => ?_)
    refine W.widen (k := 600000) (n := 7302250) (Nat.le_of_ble_eq_true rfl) (Nat.le_of_ble_eq_true rfl) ?_
    rw [hAe] at hD hS
    exact law_loop hx hb hr hml hown hts hX hbl hlocks hK hZ n o qh qr qt qs qn fn fs ft gh kk q1.2 (0 : Int32) (0 : Int64) (0 : Int32) _ _ hP hD hS _ (lv_sub hl [3, 4, 2, 1, 0] rfl) hF
  · refine lv_aload_n hx hb dL_law_17 rfl (lv_at hl 1 rfl) ?_
    refine lv_iconst (v := 0) hx hb dL_law_18 (by decide) ?_
    obtain ⟨q2, h_q2, hF⟩ := bnd_s hF
    refine g_callV (As := [.int 0]) (rest := []) ⟨hx, hb, hml, hown, hts⟩ hK hZA hA (c_X9_count l E o qh qr qt qs qn fn fs ft gh n q1.2 (0) q2 h_q2) (cwV 1 hts gL_law_X9_count rfl rfl rfl (by decide +kernel) ⟨Nat.le_of_ble_eq_true rfl, Nat.le_of_ble_eq_true rfl⟩) hP hD hS [0] [] rfl rfl rfl rfl rfl rfl hl.1 rfl (Nat.le_of_ble_eq_true rfl) dL_law_19 ⟨Nat.le_of_ble_eq_true rfl, Nat.le_of_ble_eq_true rfl⟩ (fun H locs hP hD hS => ?_)
    have hP : va_P E.1 vwCl (bl [HL_c E o qh qr qt qs qn fn fs ft gh q1.2]) H := hP
    have hD : va_D A (bl [HL_c E o qh qr qt qs qn fn fs ft gh q1.2]) := hD
    refine W.eq (g2 := F0 m 22 ls [.int q2]) rfl ?_
    refine lv_iconst (v := 1) hx hb dL_law_22 (by decide) ?_
    refine f_icmp_ne (tgt := 63) hx hb dL_law_23 (by decide) hF (fun hF => ?_) (fun hF => ?_)
    · refine lv_iconst (v := 0) hx hb dL_law_63 (by decide) ?_
      refine lv_istore_n (lv' := [(2, .int 0), (0, .ref b), (1, .ref o)]) hx hb dL_law_64 rfl hl (by decide) rfl (fun ls hl => ?_)
      refine lv_lconst (v := 0) hx hb dL_law_65 (by decide) ?_
      refine lv_lstore_n (lv' := [(3, .long 0), (2, .int 0), (0, .ref b), (1, .ref o)]) hx hb dL_law_66 rfl hl (by decide) rfl (fun ls hl => ?_)
      refine lv_iconst (v := 0) hx hb dL_law_67 (by decide) ?_
      refine lv_istore (lv' := [(5, .int 0), (3, .long 0), (2, .int 0), (0, .ref b), (1, .ref o)]) hx hb dL_law_68 hl (by decide) rfl (fun ls hl => ?_)
      refine W.widen (k := 600000) (n := 7302250) (Nat.le_of_ble_eq_true rfl) (Nat.le_of_ble_eq_true rfl) ?_
      rw [hAe] at hD hS
      exact law_loop hx hb hr hml hown hts hX hbl hlocks hK hZ n o qh qr qt qs qn fn fs ft gh kk q1.2 (0 : Int32) (0 : Int64) (0 : Int32) _ _ hP hD hS _ (lv_sub hl [3, 4, 2, 1, 0] rfl) hF
    · refine lv_aload_n hx hb dL_law_26 rfl (lv_at hl 1 rfl) ?_
      refine lv_iconst (v := 3) hx hb dL_law_27 (by decide) ?_
      obtain ⟨q3, h_q3, hF⟩ := bnd_s hF
      refine g_callV (As := [.int 3]) (rest := []) ⟨hx, hb, hml, hown, hts⟩ hK hZA hA (c_X9_code l E o qh qr qt qs qn fn fs ft gh n q1.2 (3) q3 h_q3) (cwV 1 hts gL_law_X9_code rfl rfl rfl (by decide +kernel) ⟨Nat.le_of_ble_eq_true rfl, Nat.le_of_ble_eq_true rfl⟩) hP hD hS [0] [] rfl rfl rfl rfl rfl rfl hl.1 rfl (Nat.le_of_ble_eq_true rfl) dL_law_28 ⟨Nat.le_of_ble_eq_true rfl, Nat.le_of_ble_eq_true rfl⟩ (fun H locs hP hD hS => ?_)
      have hP : va_P E.1 vwCl (bl [HL_c E o qh qr qt qs qn fn fs ft gh q1.2]) H := hP
      have hD : va_D A (bl [HL_c E o qh qr qt qs qn fn fs ft gh q1.2]) := hD
      refine W.eq (g2 := F0 m 31 ls [.int q3]) rfl ?_
      refine lv_iconst (v := 1) hx hb dL_law_31 (by decide) ?_
      refine f_icmp_ne (tgt := 63) hx hb dL_law_32 (by decide) hF (fun hF => ?_) (fun hF => ?_)
      · refine lv_iconst (v := 0) hx hb dL_law_63 (by decide) ?_
        refine lv_istore_n (lv' := [(2, .int 0), (0, .ref b), (1, .ref o)]) hx hb dL_law_64 rfl hl (by decide) rfl (fun ls hl => ?_)
        refine lv_lconst (v := 0) hx hb dL_law_65 (by decide) ?_
        refine lv_lstore_n (lv' := [(3, .long 0), (2, .int 0), (0, .ref b), (1, .ref o)]) hx hb dL_law_66 rfl hl (by decide) rfl (fun ls hl => ?_)
        refine lv_iconst (v := 0) hx hb dL_law_67 (by decide) ?_
        refine lv_istore (lv' := [(5, .int 0), (3, .long 0), (2, .int 0), (0, .ref b), (1, .ref o)]) hx hb dL_law_68 hl (by decide) rfl (fun ls hl => ?_)
        refine W.widen (k := 600000) (n := 7302250) (Nat.le_of_ble_eq_true rfl) (Nat.le_of_ble_eq_true rfl) ?_
        rw [hAe] at hD hS
        exact law_loop hx hb hr hml hown hts hX hbl hlocks hK hZ n o qh qr qt qs qn fn fs ft gh kk q1.2 (0 : Int32) (0 : Int64) (0 : Int32) _ _ hP hD hS _ (lv_sub hl [3, 4, 2, 1, 0] rfl) hF
      · refine lv_aload_n hx hb dL_law_35 rfl (lv_at hl 1 rfl) ?_
        obtain ⟨q4, h_q4, hF⟩ := bnd_s hF
        refine g_callV (As := []) (rest := []) ⟨hx, hb, hml, hown, hts⟩ hK hZA hA (c_X9_untilIdle l E o qh qr qt qs qn fn fs ft gh n q1.2 q4 h_q4) (cwV 0 hts gL_law_X9_untilIdle rfl rfl rfl (by decide +kernel) ⟨Nat.le_of_ble_eq_true rfl, Nat.le_of_ble_eq_true rfl⟩) hP hD hS [0] [] rfl rfl rfl rfl rfl rfl hl.1 rfl (Nat.le_of_ble_eq_true rfl) dL_law_36 ⟨Nat.le_of_ble_eq_true rfl, Nat.le_of_ble_eq_true rfl⟩ (fun H locs hP hD hS => ?_)
        have hP : va_P E.1 vwCl (bl [HL_c E o qh qr qt qs qn fn fs ft gh q4.2]) H := hP
        have hD : va_D A (bl [HL_c E o qh qr qt qs qn fn fs ft gh q4.2]) := hD
        refine W.eq (g2 := F0 m 39 ls [.int q4.1]) rfl ?_
        refine f_if_ne (tgt := 63) hx hb dL_law_39 (by decide) hF (fun hF => ?_) (fun hF => ?_)
        · refine lv_iconst (v := 0) hx hb dL_law_63 (by decide) ?_
          refine lv_istore_n (lv' := [(2, .int 0), (0, .ref b), (1, .ref o)]) hx hb dL_law_64 rfl hl (by decide) rfl (fun ls hl => ?_)
          refine lv_lconst (v := 0) hx hb dL_law_65 (by decide) ?_
          refine lv_lstore_n (lv' := [(3, .long 0), (2, .int 0), (0, .ref b), (1, .ref o)]) hx hb dL_law_66 rfl hl (by decide) rfl (fun ls hl => ?_)
          refine lv_iconst (v := 0) hx hb dL_law_67 (by decide) ?_
          refine lv_istore (lv' := [(5, .int 0), (3, .long 0), (2, .int 0), (0, .ref b), (1, .ref o)]) hx hb dL_law_68 hl (by decide) rfl (fun ls hl => ?_)
          refine W.widen (k := 600000) (n := 7302250) (Nat.le_of_ble_eq_true rfl) (Nat.le_of_ble_eq_true rfl) ?_
          rw [hAe] at hD hS
          exact law_loop hx hb hr hml hown hts hX hbl hlocks hK hZ n o qh qr qt qs qn fn fs ft gh kk q4.2 (0 : Int32) (0 : Int64) (0 : Int32) _ _ hP hD hS _ (lv_sub hl [3, 4, 2, 1, 0] rfl) hF
        · refine lv_aload_n hx hb dL_law_42 rfl (lv_at hl 1 rfl) ?_
          refine lv_iconst (v := 0) hx hb dL_law_43 (by decide) ?_
          obtain ⟨q5, h_q5, hF⟩ := bnd_s hF
          refine g_callV (As := [.int 0]) (rest := []) ⟨hx, hb, hml, hown, hts⟩ hK hZA hA (c_X9_fault l E o qh qr qt qs qn fn fs ft gh n q4.2 (0) q5 h_q5) (cwV 1 hts gL_law_X9_fault rfl rfl rfl (by decide +kernel) ⟨Nat.le_of_ble_eq_true rfl, Nat.le_of_ble_eq_true rfl⟩) hP hD hS [0] [] rfl rfl rfl rfl rfl rfl hl.1 rfl (Nat.le_of_ble_eq_true rfl) dL_law_44 ⟨Nat.le_of_ble_eq_true rfl, Nat.le_of_ble_eq_true rfl⟩ (fun H locs hP hD hS => ?_)
          have hP : va_P E.1 vwCl (bl [HL_c E o qh qr qt qs qn fn fs ft gh q5.2]) H := hP
          have hD : va_D A (bl [HL_c E o qh qr qt qs qn fn fs ft gh q5.2]) := hD
          refine W.eq (g2 := F0 m 47 ls [.int q5.1]) rfl ?_
          refine lv_bipush (v := (-4)) hx hb dL_law_47 (by decide) ?_
          refine f_icmp_ne (tgt := 63) hx hb dL_law_49 (by decide) hF (fun hF => ?_) (fun hF => ?_)
          · refine lv_iconst (v := 0) hx hb dL_law_63 (by decide) ?_
            refine lv_istore_n (lv' := [(2, .int 0), (0, .ref b), (1, .ref o)]) hx hb dL_law_64 rfl hl (by decide) rfl (fun ls hl => ?_)
            refine lv_lconst (v := 0) hx hb dL_law_65 (by decide) ?_
            refine lv_lstore_n (lv' := [(3, .long 0), (2, .int 0), (0, .ref b), (1, .ref o)]) hx hb dL_law_66 rfl hl (by decide) rfl (fun ls hl => ?_)
            refine lv_iconst (v := 0) hx hb dL_law_67 (by decide) ?_
            refine lv_istore (lv' := [(5, .int 0), (3, .long 0), (2, .int 0), (0, .ref b), (1, .ref o)]) hx hb dL_law_68 hl (by decide) rfl (fun ls hl => ?_)
            refine W.widen (k := 600000) (n := 7302250) (Nat.le_of_ble_eq_true rfl) (Nat.le_of_ble_eq_true rfl) ?_
            rw [hAe] at hD hS
            exact law_loop hx hb hr hml hown hts hX hbl hlocks hK hZ n o qh qr qt qs qn fn fs ft gh kk q5.2 (0 : Int32) (0 : Int64) (0 : Int32) _ _ hP hD hS _ (lv_sub hl [3, 4, 2, 1, 0] rfl) hF
          · refine lv_aload_n hx hb dL_law_52 rfl (lv_at hl 1 rfl) ?_
            obtain ⟨q6, h_q6, hF⟩ := bnd_s hF
            refine g_callS (As := [.ref o]) (rest := []) ⟨hx, hb, hml, hown, hts⟩ hK hZA hA (c_L_areErrors l E o qh qr qt qs qn fn fs ft gh n q5.2 q6 h_q6) (va_cwS 1 hts gL_law_L_areErrors rfl rfl rfl (by decide +kernel) ⟨Nat.le_of_ble_eq_true rfl, Nat.le_of_ble_eq_true rfl⟩) hP hD hS [0] [] rfl rfl rfl hl.1 rfl (Nat.le_of_ble_eq_true rfl) dL_law_53 ⟨Nat.le_of_ble_eq_true rfl, Nat.le_of_ble_eq_true rfl⟩ (fun H locs hP hD hS => ?_)
            have hP : va_P E.1 vwCl (bl [HL_c E o qh qr qt qs qn fn fs ft gh q6.2]) H := hP
            have hD : va_D A (bl [HL_c E o qh qr qt qs qn fn fs ft gh q6.2]) := hD
            refine W.eq (g2 := F0 m 56 ls [.int q6.1]) rfl ?_
            refine f_if_eq (tgt := 63) hx hb dL_law_56 (by decide) hF (fun hF => ?_) (fun hF => ?_)
            · refine lv_iconst (v := 0) hx hb dL_law_63 (by decide) ?_
              refine lv_istore_n (lv' := [(2, .int 0), (0, .ref b), (1, .ref o)]) hx hb dL_law_64 rfl hl (by decide) rfl (fun ls hl => ?_)
              refine lv_lconst (v := 0) hx hb dL_law_65 (by decide) ?_
              refine lv_lstore_n (lv' := [(3, .long 0), (2, .int 0), (0, .ref b), (1, .ref o)]) hx hb dL_law_66 rfl hl (by decide) rfl (fun ls hl => ?_)
              refine lv_iconst (v := 0) hx hb dL_law_67 (by decide) ?_
              refine lv_istore (lv' := [(5, .int 0), (3, .long 0), (2, .int 0), (0, .ref b), (1, .ref o)]) hx hb dL_law_68 hl (by decide) rfl (fun ls hl => ?_)
              refine W.widen (k := 600000) (n := 7302250) (Nat.le_of_ble_eq_true rfl) (Nat.le_of_ble_eq_true rfl) ?_
              rw [hAe] at hD hS
              exact law_loop hx hb hr hml hown hts hX hbl hlocks hK hZ n o qh qr qt qs qn fn fs ft gh kk q6.2 (0 : Int32) (0 : Int64) (0 : Int32) _ _ hP hD hS _ (lv_sub hl [3, 4, 2, 1, 0] rfl) hF
            · refine lv_iconst (v := 1) hx hb dL_law_59 (by decide) ?_
              refine lv_goto (tgt := 64) hx hb dL_law_60 (by decide) ?_
              refine lv_istore_n (lv' := [(2, .int 1), (0, .ref b), (1, .ref o)]) hx hb dL_law_64 rfl hl (by decide) rfl (fun ls hl => ?_)
              refine lv_lconst (v := 0) hx hb dL_law_65 (by decide) ?_
              refine lv_lstore_n (lv' := [(3, .long 0), (2, .int 1), (0, .ref b), (1, .ref o)]) hx hb dL_law_66 rfl hl (by decide) rfl (fun ls hl => ?_)
              refine lv_iconst (v := 0) hx hb dL_law_67 (by decide) ?_
              refine lv_istore (lv' := [(5, .int 0), (3, .long 0), (2, .int 1), (0, .ref b), (1, .ref o)]) hx hb dL_law_68 hl (by decide) rfl (fun ls hl => ?_)
              refine W.widen (k := 600000) (n := 7302250) (Nat.le_of_ble_eq_true rfl) (Nat.le_of_ble_eq_true rfl) ?_
              rw [hAe] at hD hS
              exact law_loop hx hb hr hml hown hts hX hbl hlocks hK hZ n o qh qr qt qs qn fn fs ft gh kk q6.2 (1 : Int32) (0 : Int64) (0 : Int32) _ _ hP hD hS _ (lv_sub hl [3, 4, 2, 1, 0] rfl) hF
