-- the law's loop: printed by wip/whole/lawgen.py
def F_law (n L : Nat) (xs : Nat → Int32) : Nat → HLV → MdV → Int32 → Option Int32
  | 0, _, _, _ => none
  | k + 1, u, u2, x3 => if ((Int32.ofNat L) - 6) < x3 then some 1 else chk x3 L (if ((xs x3.toNatClampNeg) &&& 31) = 0 then chk (x3 + 1) L (chk (x3 + 2) L (chk (x3 + 3) L ((F_X9_paint n u (xs (x3 + 1).toNatClampNeg) (xs (x3 + 2).toNatClampNeg) (xs (x3 + 3).toNatClampNeg)).bind fun q1 => chk (x3 + 1) L (chk (x3 + 2) L (chk (x3 + 3) L ((F_X10_paint n u2 (xs (x3 + 1).toNatClampNeg) (xs (x3 + 2).toNatClampNeg) (xs (x3 + 3).toNatClampNeg)).bind fun q2 => if q1.1 = q2.1 then F_law n L xs k q1.2 q2.2 (x3 + 6) else some 0)))))) else if ((xs x3.toNatClampNeg) &&& 31) = 1 then chk (x3 + 1) L ((F_X9_color u (xs (x3 + 1).toNatClampNeg)).bind fun q3 => chk (x3 + 1) L ((F_X10_color u2 (xs (x3 + 1).toNatClampNeg)).bind fun q4 => if q3 = q4 then F_law n L xs k u u2 (x3 + 6) else some 0)) else if ((xs x3.toNatClampNeg) &&& 31) = 2 then chk (x3 + 1) L (chk (x3 + 2) L ((F_X9_sector n u (xs (x3 + 1).toNatClampNeg) (xs (x3 + 2).toNatClampNeg)).bind fun q5 => chk (x3 + 1) L (chk (x3 + 2) L ((F_X10_sector n u2 (xs (x3 + 1).toNatClampNeg) (xs (x3 + 2).toNatClampNeg)).bind fun q6 => if q5 = q6 then F_law n L xs k u u2 (x3 + 6) else some 0)))) else if ((xs x3.toNatClampNeg) &&& 31) = 3 then chk (x3 + 1) L (chk (x3 + 2) L ((F_X9_direction n u (xs (x3 + 1).toNatClampNeg) (xs (x3 + 2).toNatClampNeg)).bind fun q7 => chk (x3 + 1) L (chk (x3 + 2) L ((F_X10_direction n u2 (xs (x3 + 1).toNatClampNeg) (xs (x3 + 2).toNatClampNeg)).bind fun q8 => if q7 = q8 then F_law n L xs k u u2 (x3 + 6) else some 0)))) else if ((xs x3.toNatClampNeg) &&& 31) = 4 then chk (x3 + 1) L (chk (x3 + 2) L ((F_X9_again n u (xs (x3 + 1).toNatClampNeg) (xs (x3 + 2).toNatClampNeg)).bind fun q9 => chk (x3 + 1) L (chk (x3 + 2) L ((F_X10_again n u2 (xs (x3 + 1).toNatClampNeg) (xs (x3 + 2).toNatClampNeg)).bind fun q10 => if q9 = q10 then F_law n L xs k u u2 (x3 + 6) else some 0)))) else if ((xs x3.toNatClampNeg) &&& 31) = 5 then chk (x3 + 1) L (chk (x3 + 2) L (chk (x3 + 3) L ((F_X9_setCode u (xs (x3 + 1).toNatClampNeg) (xs (x3 + 2).toNatClampNeg) (xs (x3 + 3).toNatClampNeg)).bind fun q11 => chk (x3 + 1) L (chk (x3 + 2) L (chk (x3 + 3) L ((F_X10_setCode n u2 (xs (x3 + 1).toNatClampNeg) (xs (x3 + 2).toNatClampNeg) (xs (x3 + 3).toNatClampNeg)).bind fun q12 => if q11.1 = q12.1 then F_law n L xs k q11.2 q12.2 (x3 + 6) else some 0)))))) else if ((xs x3.toNatClampNeg) &&& 31) = 6 then chk (x3 + 1) L ((F_X9_code n u (xs (x3 + 1).toNatClampNeg)).bind fun q13 => chk (x3 + 1) L ((F_X10_code n u2 (xs (x3 + 1).toNatClampNeg)).bind fun q14 => if q13 = q14 then F_law n L xs k u u2 (x3 + 6) else some 0)) else if ((xs x3.toNatClampNeg) &&& 31) = 7 then (F_X9_shareBits n u).bind fun q15 => (F_X10_shareBits n u2).bind fun q16 => if (lg_cmp q15 q16) = 0 then F_law n L xs k u u2 (x3 + 6) else some 0 else if ((xs x3.toNatClampNeg) &&& 31) = 8 then chk (x3 + 1) L ((F_X9_next n u (xs (x3 + 1).toNatClampNeg)).bind fun q17 => chk (x3 + 1) L ((F_X10_next n u2 (xs (x3 + 1).toNatClampNeg)).bind fun q18 => if q17 = q18 then F_law n L xs k u u2 (x3 + 6) else some 0)) else if ((xs x3.toNatClampNeg) &&& 31) = 9 then chk (x3 + 1) L ((F_X9_setChanger n u (xs (x3 + 1).toNatClampNeg)).bind fun q19 => chk (x3 + 1) L ((F_X10_setChanger n u2 (xs (x3 + 1).toNatClampNeg)).bind fun q20 => if q19.1 = q20.1 then F_law n L xs k q19.2 q20.2 (x3 + 6) else some 0)) else if ((xs x3.toNatClampNeg) &&& 31) = 10 then chk (x3 + 1) L (chk (x3 + 2) L (chk (x3 + 3) L ((F_X9_addLamp n u (xs (x3 + 1).toNatClampNeg) (xs (x3 + 2).toNatClampNeg) (xs (x3 + 3).toNatClampNeg)).bind fun q21 => chk (x3 + 1) L (chk (x3 + 2) L (chk (x3 + 3) L ((F_X10_addLamp n u2 (xs (x3 + 1).toNatClampNeg) (xs (x3 + 2).toNatClampNeg) (xs (x3 + 3).toNatClampNeg)).bind fun q22 => if q21.1 = q22.1 then F_law n L xs k q21.2 q22.2 (x3 + 6) else some 0)))))) else if ((xs x3.toNatClampNeg) &&& 31) = 11 then chk (x3 + 1) L ((F_X9_takeLamp u (xs (x3 + 1).toNatClampNeg)).bind fun q23 => chk (x3 + 1) L ((F_X10_takeLamp n u2 (xs (x3 + 1).toNatClampNeg)).bind fun q24 => if q23.1 = q24.1 then F_law n L xs k q23.2 q24.2 (x3 + 6) else some 0)) else if ((xs x3.toNatClampNeg) &&& 31) = 12 then chk (x3 + 1) L (chk (x3 + 2) L ((F_X9_lamp u (xs (x3 + 1).toNatClampNeg) (xs (x3 + 2).toNatClampNeg)).bind fun q25 => chk (x3 + 1) L (chk (x3 + 2) L ((F_X10_lamp u2 (xs (x3 + 1).toNatClampNeg) (xs (x3 + 2).toNatClampNeg)).bind fun q26 => if q25 = q26 then F_law n L xs k u u2 (x3 + 6) else some 0)))) else if ((xs x3.toNatClampNeg) &&& 31) = 13 then chk (x3 + 1) L (chk (x3 + 2) L ((F_X9_set u (xs (x3 + 1).toNatClampNeg) (xs (x3 + 2).toNatClampNeg)).bind fun q27 => chk (x3 + 1) L (chk (x3 + 2) L ((F_X10_set n u2 (xs (x3 + 1).toNatClampNeg) (xs (x3 + 2).toNatClampNeg)).bind fun q28 => if q27.1 = q28.1 then F_law n L xs k q27.2 q28.2 (x3 + 6) else some 0)))) else if ((xs x3.toNatClampNeg) &&& 31) = 14 then chk (x3 + 1) L ((F_X9_rangeBits n u (xs (x3 + 1).toNatClampNeg)).bind fun q29 => chk (x3 + 1) L ((F_X10_rangeBits n u2 (xs (x3 + 1).toNatClampNeg)).bind fun q30 => if q29 = q30 then F_law n L xs k u u2 (x3 + 6) else some 0)) else if ((xs x3.toNatClampNeg) &&& 31) = 15 then chk (x3 + 1) L ((F_X9_advance n u (xs (x3 + 1).toNatClampNeg)).bind fun q31 => chk (x3 + 1) L ((F_X10_advance n u2 (xs (x3 + 1).toNatClampNeg)).bind fun q32 => if q31.1 = q32.1 then F_law n L xs k q31.2 q32.2 (x3 + 6) else some 0)) else if ((xs x3.toNatClampNeg) &&& 31) = 16 then chk (x3 + 1) L ((F_X9_account u (xs (x3 + 1).toNatClampNeg)).bind fun q33 => chk (x3 + 1) L ((F_X10_account u2 (xs (x3 + 1).toNatClampNeg)).bind fun q34 => if q33 = q34 then F_law n L xs k u u2 (x3 + 6) else some 0)) else if ((xs x3.toNatClampNeg) &&& 31) = 17 then chk (x3 + 1) L ((F_X9_count n u (xs (x3 + 1).toNatClampNeg)).bind fun q35 => chk (x3 + 1) L ((F_X10_count n u2 (xs (x3 + 1).toNatClampNeg)).bind fun q36 => if q35 = q36 then F_law n L xs k u u2 (x3 + 6) else some 0)) else if ((xs x3.toNatClampNeg) &&& 31) = 18 then (F_X9_untilIdle n u).bind fun q37 => (F_X10_untilIdle n u2).bind fun q38 => if q37.1 = q38.1 then F_law n L xs k q37.2 q38.2 (x3 + 6) else some 0 else if ((xs x3.toNatClampNeg) &&& 31) = 19 then chk (x3 + 1) L (chk (x3 + 2) L ((F_X9_sees n u (xs (x3 + 1).toNatClampNeg) (xs (x3 + 2).toNatClampNeg)).bind fun q39 => chk (x3 + 1) L (chk (x3 + 2) L ((F_X10_sees n u2 (xs (x3 + 1).toNatClampNeg) (xs (x3 + 2).toNatClampNeg)).bind fun q40 => if q39.1 = q40.1 then F_law n L xs k q39.2 q40.2 (x3 + 6) else some 0)))) else if ((xs x3.toNatClampNeg) &&& 31) = 20 then chk (x3 + 1) L (chk (x3 + 2) L (chk (x3 + 3) L (chk (x3 + 4) L (chk (x3 + 5) L ((F_X9_pass n u (xs (x3 + 1).toNatClampNeg) (xs (x3 + 2).toNatClampNeg) (xs (x3 + 3).toNatClampNeg) (xs (x3 + 4).toNatClampNeg) (xs (x3 + 5).toNatClampNeg)).bind fun q41 => chk (x3 + 1) L (chk (x3 + 2) L (chk (x3 + 3) L (chk (x3 + 4) L (chk (x3 + 5) L ((F_X10_pass n u2 (xs (x3 + 1).toNatClampNeg) (xs (x3 + 2).toNatClampNeg) (xs (x3 + 3).toNatClampNeg) (xs (x3 + 4).toNatClampNeg) (xs (x3 + 5).toNatClampNeg)).bind fun q42 => if q41.1 = q42.1 then F_law n L xs k q41.2 q42.2 (x3 + 6) else some 0)))))))))) else if ((xs x3.toNatClampNeg) &&& 31) = 21 then chk (x3 + 1) L (chk (x3 + 2) L ((F_X9_entry u (xs (x3 + 1).toNatClampNeg) (xs (x3 + 2).toNatClampNeg)).bind fun q43 => chk (x3 + 1) L (chk (x3 + 2) L ((F_X10_entry u2 (xs (x3 + 1).toNatClampNeg) (xs (x3 + 2).toNatClampNeg)).bind fun q44 => if q43 = q44 then F_law n L xs k u u2 (x3 + 6) else some 0)))) else if ((xs x3.toNatClampNeg) &&& 31) = 22 then chk (x3 + 1) L ((F_X9_seen u (xs (x3 + 1).toNatClampNeg)).bind fun q45 => chk (x3 + 1) L ((F_X10_seen u2 (xs (x3 + 1).toNatClampNeg)).bind fun q46 => if q45 = q46 then F_law n L xs k u u2 (x3 + 6) else some 0)) else if ((xs x3.toNatClampNeg) &&& 31) = 23 then (F_X9_store u).bind fun q47 => (F_X10_store n u2).bind fun q48 => if q47.1 = q48.1 then F_law n L xs k q47.2 q48.2 (x3 + 6) else some 0 else if ((xs x3.toNatClampNeg) &&& 31) = 24 then (F_X9_recall u).bind fun q49 => (F_X10_recall n u2).bind fun q50 => if q49.1 = q50.1 then F_law n L xs k q49.2 q50.2 (x3 + 6) else some 0 else if ((xs x3.toNatClampNeg) &&& 31) = 25 then chk (x3 + 1) L ((F_X9_compare n u (xs (x3 + 1).toNatClampNeg)).bind fun q51 => chk (x3 + 1) L ((F_X10_compare n u2 (xs (x3 + 1).toNatClampNeg)).bind fun q52 => if q51 = q52 then F_law n L xs k u u2 (x3 + 6) else some 0)) else if ((xs x3.toNatClampNeg) &&& 31) = 26 then (F_X9_undo u).bind fun q53 => (F_X10_undo n u2).bind fun q54 => if q53.1 = q54.1 then F_law n L xs k q53.2 q54.2 (x3 + 6) else some 0 else if ((xs x3.toNatClampNeg) &&& 31) = 27 then chk (x3 + 1) L ((F_X9_type u (xs (x3 + 1).toNatClampNeg)).bind fun q55 => chk (x3 + 1) L ((F_X10_type u2 (xs (x3 + 1).toNatClampNeg)).bind fun q56 => if q55.1 = q56.1 then F_law n L xs k q55.2 q56.2 (x3 + 6) else some 0)) else if ((xs x3.toNatClampNeg) &&& 31) = 28 then (F_X9_clearText u).bind fun q57 => (F_X10_clearText u2).bind fun q58 => if q57.1 = q58.1 then F_law n L xs k q57.2 q58.2 (x3 + 6) else some 0 else if ((xs x3.toNatClampNeg) &&& 31) = 29 then chk (x3 + 1) L ((F_X9_fault n u (xs (x3 + 1).toNatClampNeg)).bind fun q59 => chk (x3 + 1) L ((F_X10_fault n u2 (xs (x3 + 1).toNatClampNeg)).bind fun q60 => if q59.1 = q60.1 then F_law n L xs k q59.2 q60.2 (x3 + 6) else some 0)) else if ((xs x3.toNatClampNeg) &&& 31) = 30 then (F_X9_load n u).bind fun q61 => (F_X10_load n u2).bind fun q62 => if q61.1 = q62.1 then F_law n L xs k q61.2 q62.2 (x3 + 6) else some 0 else F_law n L xs k u u2 (x3 + 6))
set_option maxHeartbeats 40000000 in
set_option maxRecDepth 100000 in
theorem law_loop {p : Program} {l : Launch} {e : Env} {s : State} {m : MethodId} {below : List Frame} {meth : Method} {cd : Code} {E : GE} {b L : Nat} {xs : Nat → Int32} (hx : p.tables.exec = Jvm.exec) (hb : cd.code = cL_law) (hr : meth.sig.returnType = ret) (hml : cd.maxLocals = 4) (hown : s.vm.findClass RL = some m.cls) (hts : ∀ w ∈ wsL_law, w.before #[Value.ref b] s = true) (hX : va_X b L xs s s.heap) (hbl : b < s.heap.size) (hlocks : meth.locks = false) (hK : gK E s) (hZ : gZ E (fun q : Nat => s.heap.size ≤ q) s s.heap) (n : Nat) (o : Nat) (qh : Nat) (qr : Nat) (qt : Nat) (qs : Nat) (qn : Nat) (fn : Nat → Nat) (fs : Nat → Nat) (ft : Nat → Nat) (gh : Nat → Nat → Nat) (o2 : Nat) (qa2 : Nat) (qb2 : Nat) (qc2 : Nat) (qd2 : Nat) (qe2 : Nat) (qf2 : Nat) (qg2 : Nat) :
    ∀ (k : Nat) (u : HLV) (u2 : MdV) (x3 : Int32) (H : Heap) (locs : List Loc), va_P E.1 vwCl (bl [HL_c E o qh qr qt qs qn fn fs ft gh u, Md_c E o2 qa2 qb2 qc2 qd2 qe2 qf2 qg2 u2]) H → va_D (fun q : Nat => s.heap.size ≤ q) (bl [HL_c E o qh qr qt qs qn fn fs ft gh u, Md_c E o2 qa2 qb2 qc2 qd2 qe2 qf2 qg2 u2]) → va_S (fun q : Nat => s.heap.size ≤ q) s.heap H locs → ∀ ls : Array Slot, lv_has ls 4 [(0, .ref b), (1, .ref o), (2, .ref o2), (3, .int x3)] → F_law n L xs k u u2 x3 = some 1 → W p l e room_1 s m #[Value.ref b] below meth cd H locs 600000 7302250 (lw_Z below #[Value.ref b] s) (F0 m 18 ls []) := by
  obtain ⟨A, hAe⟩ : ∃ A : Nat → Prop, A = fun q : Nat => s.heap.size ≤ q := ⟨_, rfl⟩
  rw [← hAe] at hZ ⊢
  have hA : ∀ q : Nat, s.heap.size ≤ q → A q := fun q h => by rw [hAe]; exact h
  have hbA : ¬ A b := by rw [hAe]; exact Nat.not_le.mpr hbl
  intro k
  induction k with
  | zero => intro u u2 x3 H locs hP hD hS ls hl hF; cases hF
  | succ k ih =>
    intro u u2 x3 H locs hP hD hS ls hl hF
    rw [F_law] at hF
    refine lv_iload_n hx hb dL_law_18 rfl (lv_at hl 3 rfl) ?_
    refine lv_aload_n hx hb dL_law_19 rfl (lv_at hl 0 rfl) ?_
    refine va_slen hx hb hX hbl hbA hS dL_law_20 ?_
    refine lv_bipush (v := 6) hx hb dL_law_21 (by decide) ?_
    refine lv_isub hx hb dL_law_23 ?_
    refine f_icmp_gt (tgt := 992) hx hb dL_law_24 (by decide) hF (fun hF => ?_) (fun hF => ?_)
    · refine lv_iconst (v := 1) hx hb dL_law_992 (by decide) ?_
      refine va_forget (fun q hq => by have h9 := hS.2.2 q hq; rw [hAe] at h9; exact h9) ?_
      exact lw_ret (d0 := s.drawn) (Drawn.sameBut.refl s.drawn lw_cs) hx hb hr hlocks dL_law_993
    · refine lv_aload_n hx hb dL_law_27 rfl (lv_at hl 0 rfl) ?_
      refine lv_iload_n hx hb dL_law_28 rfl (lv_at hl 3 rfl) ?_
      obtain ⟨hin, hF⟩ := chk_s hF
      refine va_sld hx hb hX hbl hbA hS hin dL_law_29 ?_
      refine lv_bipush (v := 31) hx hb dL_law_30 (by decide) ?_
      refine lv_iand hx hb dL_law_32 ?_
      refine f_ite hF (fun q0_ hF => ?_) (fun q0_ hF => ?_)
      · rw [q0_]
        refine lv_tableIn (tgt := 172) hx hb dL_law_33 (by decide) (by decide) rfl (by decide) ?_
        refine lv_aload_n hx hb dL_law_172 rfl (lv_at hl 1 rfl) ?_
        refine lv_aload_n hx hb dL_law_173 rfl (lv_at hl 0 rfl) ?_
        refine lv_iload_n hx hb dL_law_174 rfl (lv_at hl 3 rfl) ?_
        refine lv_iconst (v := 1) hx hb dL_law_175 (by decide) ?_
        refine lv_iadd hx hb dL_law_176 ?_
        obtain ⟨hin, hF⟩ := chk_s hF
        refine va_sld hx hb hX hbl hbA hS hin dL_law_177 ?_
        refine lv_aload_n hx hb dL_law_178 rfl (lv_at hl 0 rfl) ?_
        refine lv_iload_n hx hb dL_law_179 rfl (lv_at hl 3 rfl) ?_
        refine lv_iconst (v := 2) hx hb dL_law_180 (by decide) ?_
        refine lv_iadd hx hb dL_law_181 ?_
        obtain ⟨hin, hF⟩ := chk_s hF
        refine va_sld hx hb hX hbl hbA hS hin dL_law_182 ?_
        refine lv_aload_n hx hb dL_law_183 rfl (lv_at hl 0 rfl) ?_
        refine lv_iload_n hx hb dL_law_184 rfl (lv_at hl 3 rfl) ?_
        refine lv_iconst (v := 3) hx hb dL_law_185 (by decide) ?_
        refine lv_iadd hx hb dL_law_186 ?_
        obtain ⟨hin, hF⟩ := chk_s hF
        refine va_sld hx hb hX hbl hbA hS hin dL_law_187 ?_
        obtain ⟨q1, h_q1, hF⟩ := bnd_s hF
        refine g_callV (As := [.int (xs (x3 + 1).toNatClampNeg), .int (xs (x3 + 2).toNatClampNeg), .int (xs (x3 + 3).toNatClampNeg)]) (rest := []) ⟨hx, hb, hml, hown, hts⟩ hK hZ hA (c_X9_paint l E o qh qr qt qs qn fn fs ft gh n u (xs (x3 + 1).toNatClampNeg) (xs (x3 + 2).toNatClampNeg) (xs (x3 + 3).toNatClampNeg) q1 h_q1) (cwV 3 hts gL_law_X9_paint rfl rfl rfl (by decide +kernel) ⟨Nat.le_of_ble_eq_true rfl, Nat.le_of_ble_eq_true rfl⟩) hP hD hS [0] [1] rfl rfl rfl rfl rfl rfl hl.1 rfl (Nat.le_of_ble_eq_true rfl) dL_law_188 ⟨Nat.le_of_ble_eq_true rfl, Nat.le_of_ble_eq_true rfl⟩ (fun H locs hP hD hS => ?_)
        have hP : va_P E.1 vwCl (bl [HL_c E o qh qr qt qs qn fn fs ft gh q1.2, Md_c E o2 qa2 qb2 qc2 qd2 qe2 qf2 qg2 u2]) H := hP
        have hD : va_D A (bl [HL_c E o qh qr qt qs qn fn fs ft gh q1.2, Md_c E o2 qa2 qb2 qc2 qd2 qe2 qf2 qg2 u2]) := hD
        refine W.eq (g2 := F0 m 191 ls [.int q1.1]) rfl ?_
        refine lv_aload_n hx hb dL_law_191 rfl (lv_at hl 2 rfl) ?_
        refine lv_aload_n hx hb dL_law_192 rfl (lv_at hl 0 rfl) ?_
        refine lv_iload_n hx hb dL_law_193 rfl (lv_at hl 3 rfl) ?_
        refine lv_iconst (v := 1) hx hb dL_law_194 (by decide) ?_
        refine lv_iadd hx hb dL_law_195 ?_
        obtain ⟨hin, hF⟩ := chk_s hF
        refine va_sld hx hb hX hbl hbA hS hin dL_law_196 ?_
        refine lv_aload_n hx hb dL_law_197 rfl (lv_at hl 0 rfl) ?_
        refine lv_iload_n hx hb dL_law_198 rfl (lv_at hl 3 rfl) ?_
        refine lv_iconst (v := 2) hx hb dL_law_199 (by decide) ?_
        refine lv_iadd hx hb dL_law_200 ?_
        obtain ⟨hin, hF⟩ := chk_s hF
        refine va_sld hx hb hX hbl hbA hS hin dL_law_201 ?_
        refine lv_aload_n hx hb dL_law_202 rfl (lv_at hl 0 rfl) ?_
        refine lv_iload_n hx hb dL_law_203 rfl (lv_at hl 3 rfl) ?_
        refine lv_iconst (v := 3) hx hb dL_law_204 (by decide) ?_
        refine lv_iadd hx hb dL_law_205 ?_
        obtain ⟨hin, hF⟩ := chk_s hF
        refine va_sld hx hb hX hbl hbA hS hin dL_law_206 ?_
        obtain ⟨q2, h_q2, hF⟩ := bnd_s hF
        refine g_callV (As := [.int (xs (x3 + 1).toNatClampNeg), .int (xs (x3 + 2).toNatClampNeg), .int (xs (x3 + 3).toNatClampNeg)]) (rest := [.int q1.1]) ⟨hx, hb, hml, hown, hts⟩ hK hZ hA (c_X10_paint l E o2 qa2 qb2 qc2 qd2 qe2 qf2 qg2 n u2 (xs (x3 + 1).toNatClampNeg) (xs (x3 + 2).toNatClampNeg) (xs (x3 + 3).toNatClampNeg) q2 h_q2) (cwV 3 hts gL_law_X10_paint rfl rfl rfl (by decide +kernel) ⟨Nat.le_of_ble_eq_true rfl, Nat.le_of_ble_eq_true rfl⟩) hP hD hS [1] [0] rfl rfl rfl rfl rfl rfl hl.1 rfl (Nat.le_of_ble_eq_true rfl) dL_law_207 ⟨Nat.le_of_ble_eq_true rfl, Nat.le_of_ble_eq_true rfl⟩ (fun H locs hP hD hS => ?_)
        have hP : va_P E.1 vwCl (bl [Md_c E o2 qa2 qb2 qc2 qd2 qe2 qf2 qg2 q2.2, HL_c E o qh qr qt qs qn fn fs ft gh q1.2]) H := hP
        have hD : va_D A (bl [Md_c E o2 qa2 qb2 qc2 qd2 qe2 qf2 qg2 q2.2, HL_c E o qh qr qt qs qn fn fs ft gh q1.2]) := hD
        refine W.eq (g2 := F0 m 210 ls [.int q2.1, .int q1.1]) rfl ?_
        refine f_icmp_eq (tgt := 986) hx hb dL_law_210 (by decide) hF (fun hF => ?_) (fun hF => ?_)
        · refine lv_iinc (v := (x3 + 6)) (lv' := [(3, .int (x3 + 6)), (0, .ref b), (1, .ref o), (2, .ref o2)]) hx hb dL_law_986 hl (k := 3) rfl rfl (by decide) rfl (fun ls hl => ?_)
          refine lv_goto (tgt := 18) hx hb dL_law_989 (by decide) ?_
          exact ih q1.2 q2.2 (x3 + 6) _ _ (bl_P hP [1, 0] rfl) (bl_D hD [1, 0] rfl rfl) hS _ (lv_sub hl [1, 2, 3, 0] rfl) hF
        · refine lv_iconst (v := 0) hx hb dL_law_213 (by decide) ?_
          cases hF
      refine f_ite hF (fun q1_ hF => ?_) (fun q1_ hF => ?_)
      · rw [q1_]
        refine lv_tableIn (tgt := 215) hx hb dL_law_33 (by decide) (by decide) rfl (by decide) ?_
        refine lv_aload_n hx hb dL_law_215 rfl (lv_at hl 1 rfl) ?_
        refine lv_aload_n hx hb dL_law_216 rfl (lv_at hl 0 rfl) ?_
        refine lv_iload_n hx hb dL_law_217 rfl (lv_at hl 3 rfl) ?_
        refine lv_iconst (v := 1) hx hb dL_law_218 (by decide) ?_
        refine lv_iadd hx hb dL_law_219 ?_
        obtain ⟨hin, hF⟩ := chk_s hF
        refine va_sld hx hb hX hbl hbA hS hin dL_law_220 ?_
        obtain ⟨q3, h_q3, hF⟩ := bnd_s hF
        refine g_callV (As := [.int (xs (x3 + 1).toNatClampNeg)]) (rest := []) ⟨hx, hb, hml, hown, hts⟩ hK hZ hA (c_X9_color l E o qh qr qt qs qn fn fs ft gh u (xs (x3 + 1).toNatClampNeg) q3 h_q3) (cwV 1 hts gL_law_X9_color rfl rfl rfl (by decide +kernel) ⟨Nat.le_of_ble_eq_true rfl, Nat.le_of_ble_eq_true rfl⟩) hP hD hS [0] [1] rfl rfl rfl rfl rfl rfl hl.1 rfl (Nat.le_of_ble_eq_true rfl) dL_law_221 ⟨Nat.le_of_ble_eq_true rfl, Nat.le_of_ble_eq_true rfl⟩ (fun H locs hP hD hS => ?_)
        have hP : va_P E.1 vwCl (bl [HL_c E o qh qr qt qs qn fn fs ft gh u, Md_c E o2 qa2 qb2 qc2 qd2 qe2 qf2 qg2 u2]) H := hP
        have hD : va_D A (bl [HL_c E o qh qr qt qs qn fn fs ft gh u, Md_c E o2 qa2 qb2 qc2 qd2 qe2 qf2 qg2 u2]) := hD
        refine W.eq (g2 := F0 m 224 ls [.int q3]) rfl ?_
        refine lv_aload_n hx hb dL_law_224 rfl (lv_at hl 2 rfl) ?_
        refine lv_aload_n hx hb dL_law_225 rfl (lv_at hl 0 rfl) ?_
        refine lv_iload_n hx hb dL_law_226 rfl (lv_at hl 3 rfl) ?_
        refine lv_iconst (v := 1) hx hb dL_law_227 (by decide) ?_
        refine lv_iadd hx hb dL_law_228 ?_
        obtain ⟨hin, hF⟩ := chk_s hF
        refine va_sld hx hb hX hbl hbA hS hin dL_law_229 ?_
        obtain ⟨q4, h_q4, hF⟩ := bnd_s hF
        refine g_callV (As := [.int (xs (x3 + 1).toNatClampNeg)]) (rest := [.int q3]) ⟨hx, hb, hml, hown, hts⟩ hK hZ hA (c_X10_color l E o2 qa2 qb2 qc2 qd2 qe2 qf2 qg2 u2 (xs (x3 + 1).toNatClampNeg) q4 h_q4) (cwV 1 hts gL_law_X10_color rfl rfl rfl (by decide +kernel) ⟨Nat.le_of_ble_eq_true rfl, Nat.le_of_ble_eq_true rfl⟩) hP hD hS [1] [0] rfl rfl rfl rfl rfl rfl hl.1 rfl (Nat.le_of_ble_eq_true rfl) dL_law_230 ⟨Nat.le_of_ble_eq_true rfl, Nat.le_of_ble_eq_true rfl⟩ (fun H locs hP hD hS => ?_)
        have hP : va_P E.1 vwCl (bl [Md_c E o2 qa2 qb2 qc2 qd2 qe2 qf2 qg2 u2, HL_c E o qh qr qt qs qn fn fs ft gh u]) H := hP
        have hD : va_D A (bl [Md_c E o2 qa2 qb2 qc2 qd2 qe2 qf2 qg2 u2, HL_c E o qh qr qt qs qn fn fs ft gh u]) := hD
        refine W.eq (g2 := F0 m 233 ls [.int q4, .int q3]) rfl ?_
        refine f_icmp_eq (tgt := 986) hx hb dL_law_233 (by decide) hF (fun hF => ?_) (fun hF => ?_)
        · refine lv_iinc (v := (x3 + 6)) (lv' := [(3, .int (x3 + 6)), (0, .ref b), (1, .ref o), (2, .ref o2)]) hx hb dL_law_986 hl (k := 3) rfl rfl (by decide) rfl (fun ls hl => ?_)
          refine lv_goto (tgt := 18) hx hb dL_law_989 (by decide) ?_
          exact ih u u2 (x3 + 6) _ _ (bl_P hP [1, 0] rfl) (bl_D hD [1, 0] rfl rfl) hS _ (lv_sub hl [1, 2, 3, 0] rfl) hF
        · refine lv_iconst (v := 0) hx hb dL_law_236 (by decide) ?_
          cases hF
      refine f_ite hF (fun q2_ hF => ?_) (fun q2_ hF => ?_)
      · rw [q2_]
        refine lv_tableIn (tgt := 238) hx hb dL_law_33 (by decide) (by decide) rfl (by decide) ?_
        refine lv_aload_n hx hb dL_law_238 rfl (lv_at hl 1 rfl) ?_
        refine lv_aload_n hx hb dL_law_239 rfl (lv_at hl 0 rfl) ?_
        refine lv_iload_n hx hb dL_law_240 rfl (lv_at hl 3 rfl) ?_
        refine lv_iconst (v := 1) hx hb dL_law_241 (by decide) ?_
        refine lv_iadd hx hb dL_law_242 ?_
        obtain ⟨hin, hF⟩ := chk_s hF
        refine va_sld hx hb hX hbl hbA hS hin dL_law_243 ?_
        refine lv_aload_n hx hb dL_law_244 rfl (lv_at hl 0 rfl) ?_
        refine lv_iload_n hx hb dL_law_245 rfl (lv_at hl 3 rfl) ?_
        refine lv_iconst (v := 2) hx hb dL_law_246 (by decide) ?_
        refine lv_iadd hx hb dL_law_247 ?_
        obtain ⟨hin, hF⟩ := chk_s hF
        refine va_sld hx hb hX hbl hbA hS hin dL_law_248 ?_
        obtain ⟨q5, h_q5, hF⟩ := bnd_s hF
        refine g_callV (As := [.int (xs (x3 + 1).toNatClampNeg), .int (xs (x3 + 2).toNatClampNeg)]) (rest := []) ⟨hx, hb, hml, hown, hts⟩ hK hZ hA (c_X9_sector l E o qh qr qt qs qn fn fs ft gh n u (xs (x3 + 1).toNatClampNeg) (xs (x3 + 2).toNatClampNeg) q5 h_q5) (cwV 2 hts gL_law_X9_sector rfl rfl rfl (by decide +kernel) ⟨Nat.le_of_ble_eq_true rfl, Nat.le_of_ble_eq_true rfl⟩) hP hD hS [0] [1] rfl rfl rfl rfl rfl rfl hl.1 rfl (Nat.le_of_ble_eq_true rfl) dL_law_249 ⟨Nat.le_of_ble_eq_true rfl, Nat.le_of_ble_eq_true rfl⟩ (fun H locs hP hD hS => ?_)
        have hP : va_P E.1 vwCl (bl [HL_c E o qh qr qt qs qn fn fs ft gh u, Md_c E o2 qa2 qb2 qc2 qd2 qe2 qf2 qg2 u2]) H := hP
        have hD : va_D A (bl [HL_c E o qh qr qt qs qn fn fs ft gh u, Md_c E o2 qa2 qb2 qc2 qd2 qe2 qf2 qg2 u2]) := hD
        refine W.eq (g2 := F0 m 252 ls [.int q5]) rfl ?_
        refine lv_aload_n hx hb dL_law_252 rfl (lv_at hl 2 rfl) ?_
        refine lv_aload_n hx hb dL_law_253 rfl (lv_at hl 0 rfl) ?_
        refine lv_iload_n hx hb dL_law_254 rfl (lv_at hl 3 rfl) ?_
        refine lv_iconst (v := 1) hx hb dL_law_255 (by decide) ?_
        refine lv_iadd hx hb dL_law_256 ?_
        obtain ⟨hin, hF⟩ := chk_s hF
        refine va_sld hx hb hX hbl hbA hS hin dL_law_257 ?_
        refine lv_aload_n hx hb dL_law_258 rfl (lv_at hl 0 rfl) ?_
        refine lv_iload_n hx hb dL_law_259 rfl (lv_at hl 3 rfl) ?_
        refine lv_iconst (v := 2) hx hb dL_law_260 (by decide) ?_
        refine lv_iadd hx hb dL_law_261 ?_
        obtain ⟨hin, hF⟩ := chk_s hF
        refine va_sld hx hb hX hbl hbA hS hin dL_law_262 ?_
        obtain ⟨q6, h_q6, hF⟩ := bnd_s hF
        refine g_callV (As := [.int (xs (x3 + 1).toNatClampNeg), .int (xs (x3 + 2).toNatClampNeg)]) (rest := [.int q5]) ⟨hx, hb, hml, hown, hts⟩ hK hZ hA (c_X10_sector l E o2 qa2 qb2 qc2 qd2 qe2 qf2 qg2 n u2 (xs (x3 + 1).toNatClampNeg) (xs (x3 + 2).toNatClampNeg) q6 h_q6) (cwV 2 hts gL_law_X10_sector rfl rfl rfl (by decide +kernel) ⟨Nat.le_of_ble_eq_true rfl, Nat.le_of_ble_eq_true rfl⟩) hP hD hS [1] [0] rfl rfl rfl rfl rfl rfl hl.1 rfl (Nat.le_of_ble_eq_true rfl) dL_law_263 ⟨Nat.le_of_ble_eq_true rfl, Nat.le_of_ble_eq_true rfl⟩ (fun H locs hP hD hS => ?_)
        have hP : va_P E.1 vwCl (bl [Md_c E o2 qa2 qb2 qc2 qd2 qe2 qf2 qg2 u2, HL_c E o qh qr qt qs qn fn fs ft gh u]) H := hP
        have hD : va_D A (bl [Md_c E o2 qa2 qb2 qc2 qd2 qe2 qf2 qg2 u2, HL_c E o qh qr qt qs qn fn fs ft gh u]) := hD
        refine W.eq (g2 := F0 m 266 ls [.int q6, .int q5]) rfl ?_
        refine f_icmp_eq (tgt := 986) hx hb dL_law_266 (by decide) hF (fun hF => ?_) (fun hF => ?_)
        · refine lv_iinc (v := (x3 + 6)) (lv' := [(3, .int (x3 + 6)), (0, .ref b), (1, .ref o), (2, .ref o2)]) hx hb dL_law_986 hl (k := 3) rfl rfl (by decide) rfl (fun ls hl => ?_)
          refine lv_goto (tgt := 18) hx hb dL_law_989 (by decide) ?_
          exact ih u u2 (x3 + 6) _ _ (bl_P hP [1, 0] rfl) (bl_D hD [1, 0] rfl rfl) hS _ (lv_sub hl [1, 2, 3, 0] rfl) hF
        · refine lv_iconst (v := 0) hx hb dL_law_269 (by decide) ?_
          cases hF
      refine f_ite hF (fun q3_ hF => ?_) (fun q3_ hF => ?_)
      · rw [q3_]
        refine lv_tableIn (tgt := 271) hx hb dL_law_33 (by decide) (by decide) rfl (by decide) ?_
        refine lv_aload_n hx hb dL_law_271 rfl (lv_at hl 1 rfl) ?_
        refine lv_aload_n hx hb dL_law_272 rfl (lv_at hl 0 rfl) ?_
        refine lv_iload_n hx hb dL_law_273 rfl (lv_at hl 3 rfl) ?_
        refine lv_iconst (v := 1) hx hb dL_law_274 (by decide) ?_
        refine lv_iadd hx hb dL_law_275 ?_
        obtain ⟨hin, hF⟩ := chk_s hF
        refine va_sld hx hb hX hbl hbA hS hin dL_law_276 ?_
        refine lv_aload_n hx hb dL_law_277 rfl (lv_at hl 0 rfl) ?_
        refine lv_iload_n hx hb dL_law_278 rfl (lv_at hl 3 rfl) ?_
        refine lv_iconst (v := 2) hx hb dL_law_279 (by decide) ?_
        refine lv_iadd hx hb dL_law_280 ?_
        obtain ⟨hin, hF⟩ := chk_s hF
        refine va_sld hx hb hX hbl hbA hS hin dL_law_281 ?_
        obtain ⟨q7, h_q7, hF⟩ := bnd_s hF
        refine g_callV (As := [.int (xs (x3 + 1).toNatClampNeg), .int (xs (x3 + 2).toNatClampNeg)]) (rest := []) ⟨hx, hb, hml, hown, hts⟩ hK hZ hA (c_X9_direction l E o qh qr qt qs qn fn fs ft gh n u (xs (x3 + 1).toNatClampNeg) (xs (x3 + 2).toNatClampNeg) q7 h_q7) (cwV 2 hts gL_law_X9_direction rfl rfl rfl (by decide +kernel) ⟨Nat.le_of_ble_eq_true rfl, Nat.le_of_ble_eq_true rfl⟩) hP hD hS [0] [1] rfl rfl rfl rfl rfl rfl hl.1 rfl (Nat.le_of_ble_eq_true rfl) dL_law_282 ⟨Nat.le_of_ble_eq_true rfl, Nat.le_of_ble_eq_true rfl⟩ (fun H locs hP hD hS => ?_)
        have hP : va_P E.1 vwCl (bl [HL_c E o qh qr qt qs qn fn fs ft gh u, Md_c E o2 qa2 qb2 qc2 qd2 qe2 qf2 qg2 u2]) H := hP
        have hD : va_D A (bl [HL_c E o qh qr qt qs qn fn fs ft gh u, Md_c E o2 qa2 qb2 qc2 qd2 qe2 qf2 qg2 u2]) := hD
        refine W.eq (g2 := F0 m 285 ls [.int q7]) rfl ?_
        refine lv_aload_n hx hb dL_law_285 rfl (lv_at hl 2 rfl) ?_
        refine lv_aload_n hx hb dL_law_286 rfl (lv_at hl 0 rfl) ?_
        refine lv_iload_n hx hb dL_law_287 rfl (lv_at hl 3 rfl) ?_
        refine lv_iconst (v := 1) hx hb dL_law_288 (by decide) ?_
        refine lv_iadd hx hb dL_law_289 ?_
        obtain ⟨hin, hF⟩ := chk_s hF
        refine va_sld hx hb hX hbl hbA hS hin dL_law_290 ?_
        refine lv_aload_n hx hb dL_law_291 rfl (lv_at hl 0 rfl) ?_
        refine lv_iload_n hx hb dL_law_292 rfl (lv_at hl 3 rfl) ?_
        refine lv_iconst (v := 2) hx hb dL_law_293 (by decide) ?_
        refine lv_iadd hx hb dL_law_294 ?_
        obtain ⟨hin, hF⟩ := chk_s hF
        refine va_sld hx hb hX hbl hbA hS hin dL_law_295 ?_
        obtain ⟨q8, h_q8, hF⟩ := bnd_s hF
        refine g_callV (As := [.int (xs (x3 + 1).toNatClampNeg), .int (xs (x3 + 2).toNatClampNeg)]) (rest := [.int q7]) ⟨hx, hb, hml, hown, hts⟩ hK hZ hA (c_X10_direction l E o2 qa2 qb2 qc2 qd2 qe2 qf2 qg2 n u2 (xs (x3 + 1).toNatClampNeg) (xs (x3 + 2).toNatClampNeg) q8 h_q8) (cwV 2 hts gL_law_X10_direction rfl rfl rfl (by decide +kernel) ⟨Nat.le_of_ble_eq_true rfl, Nat.le_of_ble_eq_true rfl⟩) hP hD hS [1] [0] rfl rfl rfl rfl rfl rfl hl.1 rfl (Nat.le_of_ble_eq_true rfl) dL_law_296 ⟨Nat.le_of_ble_eq_true rfl, Nat.le_of_ble_eq_true rfl⟩ (fun H locs hP hD hS => ?_)
        have hP : va_P E.1 vwCl (bl [Md_c E o2 qa2 qb2 qc2 qd2 qe2 qf2 qg2 u2, HL_c E o qh qr qt qs qn fn fs ft gh u]) H := hP
        have hD : va_D A (bl [Md_c E o2 qa2 qb2 qc2 qd2 qe2 qf2 qg2 u2, HL_c E o qh qr qt qs qn fn fs ft gh u]) := hD
        refine W.eq (g2 := F0 m 299 ls [.int q8, .int q7]) rfl ?_
        refine f_icmp_eq (tgt := 986) hx hb dL_law_299 (by decide) hF (fun hF => ?_) (fun hF => ?_)
        · refine lv_iinc (v := (x3 + 6)) (lv' := [(3, .int (x3 + 6)), (0, .ref b), (1, .ref o), (2, .ref o2)]) hx hb dL_law_986 hl (k := 3) rfl rfl (by decide) rfl (fun ls hl => ?_)
          refine lv_goto (tgt := 18) hx hb dL_law_989 (by decide) ?_
          exact ih u u2 (x3 + 6) _ _ (bl_P hP [1, 0] rfl) (bl_D hD [1, 0] rfl rfl) hS _ (lv_sub hl [1, 2, 3, 0] rfl) hF
        · refine lv_iconst (v := 0) hx hb dL_law_302 (by decide) ?_
          cases hF
      refine f_ite hF (fun q4_ hF => ?_) (fun q4_ hF => ?_)
      · rw [q4_]
        refine lv_tableIn (tgt := 304) hx hb dL_law_33 (by decide) (by decide) rfl (by decide) ?_
        refine lv_aload_n hx hb dL_law_304 rfl (lv_at hl 1 rfl) ?_
        refine lv_aload_n hx hb dL_law_305 rfl (lv_at hl 0 rfl) ?_
        refine lv_iload_n hx hb dL_law_306 rfl (lv_at hl 3 rfl) ?_
        refine lv_iconst (v := 1) hx hb dL_law_307 (by decide) ?_
        refine lv_iadd hx hb dL_law_308 ?_
        obtain ⟨hin, hF⟩ := chk_s hF
        refine va_sld hx hb hX hbl hbA hS hin dL_law_309 ?_
        refine lv_aload_n hx hb dL_law_310 rfl (lv_at hl 0 rfl) ?_
        refine lv_iload_n hx hb dL_law_311 rfl (lv_at hl 3 rfl) ?_
        refine lv_iconst (v := 2) hx hb dL_law_312 (by decide) ?_
        refine lv_iadd hx hb dL_law_313 ?_
        obtain ⟨hin, hF⟩ := chk_s hF
        refine va_sld hx hb hX hbl hbA hS hin dL_law_314 ?_
        obtain ⟨q9, h_q9, hF⟩ := bnd_s hF
        refine g_callV (As := [.int (xs (x3 + 1).toNatClampNeg), .int (xs (x3 + 2).toNatClampNeg)]) (rest := []) ⟨hx, hb, hml, hown, hts⟩ hK hZ hA (c_X9_again l E o qh qr qt qs qn fn fs ft gh n u (xs (x3 + 1).toNatClampNeg) (xs (x3 + 2).toNatClampNeg) q9 h_q9) (cwV 2 hts gL_law_X9_again rfl rfl rfl (by decide +kernel) ⟨Nat.le_of_ble_eq_true rfl, Nat.le_of_ble_eq_true rfl⟩) hP hD hS [0] [1] rfl rfl rfl rfl rfl rfl hl.1 rfl (Nat.le_of_ble_eq_true rfl) dL_law_315 ⟨Nat.le_of_ble_eq_true rfl, Nat.le_of_ble_eq_true rfl⟩ (fun H locs hP hD hS => ?_)
        have hP : va_P E.1 vwCl (bl [HL_c E o qh qr qt qs qn fn fs ft gh u, Md_c E o2 qa2 qb2 qc2 qd2 qe2 qf2 qg2 u2]) H := hP
        have hD : va_D A (bl [HL_c E o qh qr qt qs qn fn fs ft gh u, Md_c E o2 qa2 qb2 qc2 qd2 qe2 qf2 qg2 u2]) := hD
        refine W.eq (g2 := F0 m 318 ls [.int q9]) rfl ?_
        refine lv_aload_n hx hb dL_law_318 rfl (lv_at hl 2 rfl) ?_
        refine lv_aload_n hx hb dL_law_319 rfl (lv_at hl 0 rfl) ?_
        refine lv_iload_n hx hb dL_law_320 rfl (lv_at hl 3 rfl) ?_
        refine lv_iconst (v := 1) hx hb dL_law_321 (by decide) ?_
        refine lv_iadd hx hb dL_law_322 ?_
        obtain ⟨hin, hF⟩ := chk_s hF
        refine va_sld hx hb hX hbl hbA hS hin dL_law_323 ?_
        refine lv_aload_n hx hb dL_law_324 rfl (lv_at hl 0 rfl) ?_
        refine lv_iload_n hx hb dL_law_325 rfl (lv_at hl 3 rfl) ?_
        refine lv_iconst (v := 2) hx hb dL_law_326 (by decide) ?_
        refine lv_iadd hx hb dL_law_327 ?_
        obtain ⟨hin, hF⟩ := chk_s hF
        refine va_sld hx hb hX hbl hbA hS hin dL_law_328 ?_
        obtain ⟨q10, h_q10, hF⟩ := bnd_s hF
        refine g_callV (As := [.int (xs (x3 + 1).toNatClampNeg), .int (xs (x3 + 2).toNatClampNeg)]) (rest := [.int q9]) ⟨hx, hb, hml, hown, hts⟩ hK hZ hA (c_X10_again l E o2 qa2 qb2 qc2 qd2 qe2 qf2 qg2 n u2 (xs (x3 + 1).toNatClampNeg) (xs (x3 + 2).toNatClampNeg) q10 h_q10) (cwV 2 hts gL_law_X10_again rfl rfl rfl (by decide +kernel) ⟨Nat.le_of_ble_eq_true rfl, Nat.le_of_ble_eq_true rfl⟩) hP hD hS [1] [0] rfl rfl rfl rfl rfl rfl hl.1 rfl (Nat.le_of_ble_eq_true rfl) dL_law_329 ⟨Nat.le_of_ble_eq_true rfl, Nat.le_of_ble_eq_true rfl⟩ (fun H locs hP hD hS => ?_)
        have hP : va_P E.1 vwCl (bl [Md_c E o2 qa2 qb2 qc2 qd2 qe2 qf2 qg2 u2, HL_c E o qh qr qt qs qn fn fs ft gh u]) H := hP
        have hD : va_D A (bl [Md_c E o2 qa2 qb2 qc2 qd2 qe2 qf2 qg2 u2, HL_c E o qh qr qt qs qn fn fs ft gh u]) := hD
        refine W.eq (g2 := F0 m 332 ls [.int q10, .int q9]) rfl ?_
        refine f_icmp_eq (tgt := 986) hx hb dL_law_332 (by decide) hF (fun hF => ?_) (fun hF => ?_)
        · refine lv_iinc (v := (x3 + 6)) (lv' := [(3, .int (x3 + 6)), (0, .ref b), (1, .ref o), (2, .ref o2)]) hx hb dL_law_986 hl (k := 3) rfl rfl (by decide) rfl (fun ls hl => ?_)
          refine lv_goto (tgt := 18) hx hb dL_law_989 (by decide) ?_
          exact ih u u2 (x3 + 6) _ _ (bl_P hP [1, 0] rfl) (bl_D hD [1, 0] rfl rfl) hS _ (lv_sub hl [1, 2, 3, 0] rfl) hF
        · refine lv_iconst (v := 0) hx hb dL_law_335 (by decide) ?_
          cases hF
      refine f_ite hF (fun q5_ hF => ?_) (fun q5_ hF => ?_)
      · rw [q5_]
        refine lv_tableIn (tgt := 337) hx hb dL_law_33 (by decide) (by decide) rfl (by decide) ?_
        refine lv_aload_n hx hb dL_law_337 rfl (lv_at hl 1 rfl) ?_
        refine lv_aload_n hx hb dL_law_338 rfl (lv_at hl 0 rfl) ?_
        refine lv_iload_n hx hb dL_law_339 rfl (lv_at hl 3 rfl) ?_
        refine lv_iconst (v := 1) hx hb dL_law_340 (by decide) ?_
        refine lv_iadd hx hb dL_law_341 ?_
        obtain ⟨hin, hF⟩ := chk_s hF
        refine va_sld hx hb hX hbl hbA hS hin dL_law_342 ?_
        refine lv_aload_n hx hb dL_law_343 rfl (lv_at hl 0 rfl) ?_
        refine lv_iload_n hx hb dL_law_344 rfl (lv_at hl 3 rfl) ?_
        refine lv_iconst (v := 2) hx hb dL_law_345 (by decide) ?_
        refine lv_iadd hx hb dL_law_346 ?_
        obtain ⟨hin, hF⟩ := chk_s hF
        refine va_sld hx hb hX hbl hbA hS hin dL_law_347 ?_
        refine lv_aload_n hx hb dL_law_348 rfl (lv_at hl 0 rfl) ?_
        refine lv_iload_n hx hb dL_law_349 rfl (lv_at hl 3 rfl) ?_
        refine lv_iconst (v := 3) hx hb dL_law_350 (by decide) ?_
        refine lv_iadd hx hb dL_law_351 ?_
        obtain ⟨hin, hF⟩ := chk_s hF
        refine va_sld hx hb hX hbl hbA hS hin dL_law_352 ?_
        obtain ⟨q11, h_q11, hF⟩ := bnd_s hF
        refine g_callV (As := [.int (xs (x3 + 1).toNatClampNeg), .int (xs (x3 + 2).toNatClampNeg), .int (xs (x3 + 3).toNatClampNeg)]) (rest := []) ⟨hx, hb, hml, hown, hts⟩ hK hZ hA (c_X9_setCode l E o qh qr qt qs qn fn fs ft gh u (xs (x3 + 1).toNatClampNeg) (xs (x3 + 2).toNatClampNeg) (xs (x3 + 3).toNatClampNeg) q11 h_q11) (cwV 3 hts gL_law_X9_setCode rfl rfl rfl (by decide +kernel) ⟨Nat.le_of_ble_eq_true rfl, Nat.le_of_ble_eq_true rfl⟩) hP hD hS [0] [1] rfl rfl rfl rfl rfl rfl hl.1 rfl (Nat.le_of_ble_eq_true rfl) dL_law_353 ⟨Nat.le_of_ble_eq_true rfl, Nat.le_of_ble_eq_true rfl⟩ (fun H locs hP hD hS => ?_)
        have hP : va_P E.1 vwCl (bl [HL_c E o qh qr qt qs qn fn fs ft gh q11.2, Md_c E o2 qa2 qb2 qc2 qd2 qe2 qf2 qg2 u2]) H := hP
        have hD : va_D A (bl [HL_c E o qh qr qt qs qn fn fs ft gh q11.2, Md_c E o2 qa2 qb2 qc2 qd2 qe2 qf2 qg2 u2]) := hD
        refine W.eq (g2 := F0 m 356 ls [.int q11.1]) rfl ?_
        refine lv_aload_n hx hb dL_law_356 rfl (lv_at hl 2 rfl) ?_
        refine lv_aload_n hx hb dL_law_357 rfl (lv_at hl 0 rfl) ?_
        refine lv_iload_n hx hb dL_law_358 rfl (lv_at hl 3 rfl) ?_
        refine lv_iconst (v := 1) hx hb dL_law_359 (by decide) ?_
        refine lv_iadd hx hb dL_law_360 ?_
        obtain ⟨hin, hF⟩ := chk_s hF
        refine va_sld hx hb hX hbl hbA hS hin dL_law_361 ?_
        refine lv_aload_n hx hb dL_law_362 rfl (lv_at hl 0 rfl) ?_
        refine lv_iload_n hx hb dL_law_363 rfl (lv_at hl 3 rfl) ?_
        refine lv_iconst (v := 2) hx hb dL_law_364 (by decide) ?_
        refine lv_iadd hx hb dL_law_365 ?_
        obtain ⟨hin, hF⟩ := chk_s hF
        refine va_sld hx hb hX hbl hbA hS hin dL_law_366 ?_
        refine lv_aload_n hx hb dL_law_367 rfl (lv_at hl 0 rfl) ?_
        refine lv_iload_n hx hb dL_law_368 rfl (lv_at hl 3 rfl) ?_
        refine lv_iconst (v := 3) hx hb dL_law_369 (by decide) ?_
        refine lv_iadd hx hb dL_law_370 ?_
        obtain ⟨hin, hF⟩ := chk_s hF
        refine va_sld hx hb hX hbl hbA hS hin dL_law_371 ?_
        obtain ⟨q12, h_q12, hF⟩ := bnd_s hF
        refine g_callV (As := [.int (xs (x3 + 1).toNatClampNeg), .int (xs (x3 + 2).toNatClampNeg), .int (xs (x3 + 3).toNatClampNeg)]) (rest := [.int q11.1]) ⟨hx, hb, hml, hown, hts⟩ hK hZ hA (c_X10_setCode l E o2 qa2 qb2 qc2 qd2 qe2 qf2 qg2 n u2 (xs (x3 + 1).toNatClampNeg) (xs (x3 + 2).toNatClampNeg) (xs (x3 + 3).toNatClampNeg) q12 h_q12) (cwV 3 hts gL_law_X10_setCode rfl rfl rfl (by decide +kernel) ⟨Nat.le_of_ble_eq_true rfl, Nat.le_of_ble_eq_true rfl⟩) hP hD hS [1] [0] rfl rfl rfl rfl rfl rfl hl.1 rfl (Nat.le_of_ble_eq_true rfl) dL_law_372 ⟨Nat.le_of_ble_eq_true rfl, Nat.le_of_ble_eq_true rfl⟩ (fun H locs hP hD hS => ?_)
        have hP : va_P E.1 vwCl (bl [Md_c E o2 qa2 qb2 qc2 qd2 qe2 qf2 qg2 q12.2, HL_c E o qh qr qt qs qn fn fs ft gh q11.2]) H := hP
        have hD : va_D A (bl [Md_c E o2 qa2 qb2 qc2 qd2 qe2 qf2 qg2 q12.2, HL_c E o qh qr qt qs qn fn fs ft gh q11.2]) := hD
        refine W.eq (g2 := F0 m 375 ls [.int q12.1, .int q11.1]) rfl ?_
        refine f_icmp_eq (tgt := 986) hx hb dL_law_375 (by decide) hF (fun hF => ?_) (fun hF => ?_)
        · refine lv_iinc (v := (x3 + 6)) (lv' := [(3, .int (x3 + 6)), (0, .ref b), (1, .ref o), (2, .ref o2)]) hx hb dL_law_986 hl (k := 3) rfl rfl (by decide) rfl (fun ls hl => ?_)
          refine lv_goto (tgt := 18) hx hb dL_law_989 (by decide) ?_
          exact ih q11.2 q12.2 (x3 + 6) _ _ (bl_P hP [1, 0] rfl) (bl_D hD [1, 0] rfl rfl) hS _ (lv_sub hl [1, 2, 3, 0] rfl) hF
        · refine lv_iconst (v := 0) hx hb dL_law_378 (by decide) ?_
          cases hF
      refine f_ite hF (fun q6_ hF => ?_) (fun q6_ hF => ?_)
      · rw [q6_]
        refine lv_tableIn (tgt := 380) hx hb dL_law_33 (by decide) (by decide) rfl (by decide) ?_
        refine lv_aload_n hx hb dL_law_380 rfl (lv_at hl 1 rfl) ?_
        refine lv_aload_n hx hb dL_law_381 rfl (lv_at hl 0 rfl) ?_
        refine lv_iload_n hx hb dL_law_382 rfl (lv_at hl 3 rfl) ?_
        refine lv_iconst (v := 1) hx hb dL_law_383 (by decide) ?_
        refine lv_iadd hx hb dL_law_384 ?_
        obtain ⟨hin, hF⟩ := chk_s hF
        refine va_sld hx hb hX hbl hbA hS hin dL_law_385 ?_
        obtain ⟨q13, h_q13, hF⟩ := bnd_s hF
        refine g_callV (As := [.int (xs (x3 + 1).toNatClampNeg)]) (rest := []) ⟨hx, hb, hml, hown, hts⟩ hK hZ hA (c_X9_code l E o qh qr qt qs qn fn fs ft gh n u (xs (x3 + 1).toNatClampNeg) q13 h_q13) (cwV 1 hts gL_law_X9_code rfl rfl rfl (by decide +kernel) ⟨Nat.le_of_ble_eq_true rfl, Nat.le_of_ble_eq_true rfl⟩) hP hD hS [0] [1] rfl rfl rfl rfl rfl rfl hl.1 rfl (Nat.le_of_ble_eq_true rfl) dL_law_386 ⟨Nat.le_of_ble_eq_true rfl, Nat.le_of_ble_eq_true rfl⟩ (fun H locs hP hD hS => ?_)
        have hP : va_P E.1 vwCl (bl [HL_c E o qh qr qt qs qn fn fs ft gh u, Md_c E o2 qa2 qb2 qc2 qd2 qe2 qf2 qg2 u2]) H := hP
        have hD : va_D A (bl [HL_c E o qh qr qt qs qn fn fs ft gh u, Md_c E o2 qa2 qb2 qc2 qd2 qe2 qf2 qg2 u2]) := hD
        refine W.eq (g2 := F0 m 389 ls [.int q13]) rfl ?_
        refine lv_aload_n hx hb dL_law_389 rfl (lv_at hl 2 rfl) ?_
        refine lv_aload_n hx hb dL_law_390 rfl (lv_at hl 0 rfl) ?_
        refine lv_iload_n hx hb dL_law_391 rfl (lv_at hl 3 rfl) ?_
        refine lv_iconst (v := 1) hx hb dL_law_392 (by decide) ?_
        refine lv_iadd hx hb dL_law_393 ?_
        obtain ⟨hin, hF⟩ := chk_s hF
        refine va_sld hx hb hX hbl hbA hS hin dL_law_394 ?_
        obtain ⟨q14, h_q14, hF⟩ := bnd_s hF
        refine g_callV (As := [.int (xs (x3 + 1).toNatClampNeg)]) (rest := [.int q13]) ⟨hx, hb, hml, hown, hts⟩ hK hZ hA (c_X10_code l E o2 qa2 qb2 qc2 qd2 qe2 qf2 qg2 n u2 (xs (x3 + 1).toNatClampNeg) q14 h_q14) (cwV 1 hts gL_law_X10_code rfl rfl rfl (by decide +kernel) ⟨Nat.le_of_ble_eq_true rfl, Nat.le_of_ble_eq_true rfl⟩) hP hD hS [1] [0] rfl rfl rfl rfl rfl rfl hl.1 rfl (Nat.le_of_ble_eq_true rfl) dL_law_395 ⟨Nat.le_of_ble_eq_true rfl, Nat.le_of_ble_eq_true rfl⟩ (fun H locs hP hD hS => ?_)
        have hP : va_P E.1 vwCl (bl [Md_c E o2 qa2 qb2 qc2 qd2 qe2 qf2 qg2 u2, HL_c E o qh qr qt qs qn fn fs ft gh u]) H := hP
        have hD : va_D A (bl [Md_c E o2 qa2 qb2 qc2 qd2 qe2 qf2 qg2 u2, HL_c E o qh qr qt qs qn fn fs ft gh u]) := hD
        refine W.eq (g2 := F0 m 398 ls [.int q14, .int q13]) rfl ?_
        refine f_icmp_eq (tgt := 986) hx hb dL_law_398 (by decide) hF (fun hF => ?_) (fun hF => ?_)
        · refine lv_iinc (v := (x3 + 6)) (lv' := [(3, .int (x3 + 6)), (0, .ref b), (1, .ref o), (2, .ref o2)]) hx hb dL_law_986 hl (k := 3) rfl rfl (by decide) rfl (fun ls hl => ?_)
          refine lv_goto (tgt := 18) hx hb dL_law_989 (by decide) ?_
          exact ih u u2 (x3 + 6) _ _ (bl_P hP [1, 0] rfl) (bl_D hD [1, 0] rfl rfl) hS _ (lv_sub hl [1, 2, 3, 0] rfl) hF
        · refine lv_iconst (v := 0) hx hb dL_law_401 (by decide) ?_
          cases hF
      refine f_ite hF (fun q7_ hF => ?_) (fun q7_ hF => ?_)
      · rw [q7_]
        refine lv_tableIn (tgt := 403) hx hb dL_law_33 (by decide) (by decide) rfl (by decide) ?_
        refine lv_aload_n hx hb dL_law_403 rfl (lv_at hl 1 rfl) ?_
        obtain ⟨q15, h_q15, hF⟩ := bnd_s hF
        refine g_callV (As := []) (rest := []) ⟨hx, hb, hml, hown, hts⟩ hK hZ hA (c_X9_shareBits l E o qh qr qt qs qn fn fs ft gh n u q15 h_q15) (cwV 0 hts gL_law_X9_shareBits rfl rfl rfl (by decide +kernel) ⟨Nat.le_of_ble_eq_true rfl, Nat.le_of_ble_eq_true rfl⟩) hP hD hS [0] [1] rfl rfl rfl rfl rfl rfl hl.1 rfl (Nat.le_of_ble_eq_true rfl) dL_law_404 ⟨Nat.le_of_ble_eq_true rfl, Nat.le_of_ble_eq_true rfl⟩ (fun H locs hP hD hS => ?_)
        have hP : va_P E.1 vwCl (bl [HL_c E o qh qr qt qs qn fn fs ft gh u, Md_c E o2 qa2 qb2 qc2 qd2 qe2 qf2 qg2 u2]) H := hP
        have hD : va_D A (bl [HL_c E o qh qr qt qs qn fn fs ft gh u, Md_c E o2 qa2 qb2 qc2 qd2 qe2 qf2 qg2 u2]) := hD
        refine W.eq (g2 := F0 m 407 ls [.long q15]) rfl ?_
        refine lv_aload_n hx hb dL_law_407 rfl (lv_at hl 2 rfl) ?_
        obtain ⟨q16, h_q16, hF⟩ := bnd_s hF
        refine g_callV (As := []) (rest := [.long q15]) ⟨hx, hb, hml, hown, hts⟩ hK hZ hA (c_X10_shareBits l E o2 qa2 qb2 qc2 qd2 qe2 qf2 qg2 n u2 q16 h_q16) (cwV 0 hts gL_law_X10_shareBits rfl rfl rfl (by decide +kernel) ⟨Nat.le_of_ble_eq_true rfl, Nat.le_of_ble_eq_true rfl⟩) hP hD hS [1] [0] rfl rfl rfl rfl rfl rfl hl.1 rfl (Nat.le_of_ble_eq_true rfl) dL_law_408 ⟨Nat.le_of_ble_eq_true rfl, Nat.le_of_ble_eq_true rfl⟩ (fun H locs hP hD hS => ?_)
        have hP : va_P E.1 vwCl (bl [Md_c E o2 qa2 qb2 qc2 qd2 qe2 qf2 qg2 u2, HL_c E o qh qr qt qs qn fn fs ft gh u]) H := hP
        have hD : va_D A (bl [Md_c E o2 qa2 qb2 qc2 qd2 qe2 qf2 qg2 u2, HL_c E o qh qr qt qs qn fn fs ft gh u]) := hD
        refine W.eq (g2 := F0 m 411 ls [.long q16, .long q15]) rfl ?_
        refine W.lcmp hx hb dL_law_411 ?_
        refine f_if_eq (tgt := 986) hx hb dL_law_412 (by decide) hF (fun hF => ?_) (fun hF => ?_)
        · refine lv_iinc (v := (x3 + 6)) (lv' := [(3, .int (x3 + 6)), (0, .ref b), (1, .ref o), (2, .ref o2)]) hx hb dL_law_986 hl (k := 3) rfl rfl (by decide) rfl (fun ls hl => ?_)
          refine lv_goto (tgt := 18) hx hb dL_law_989 (by decide) ?_
          exact ih u u2 (x3 + 6) _ _ (bl_P hP [1, 0] rfl) (bl_D hD [1, 0] rfl rfl) hS _ (lv_sub hl [1, 2, 3, 0] rfl) hF
        · refine lv_iconst (v := 0) hx hb dL_law_415 (by decide) ?_
          cases hF
      refine f_ite hF (fun q8_ hF => ?_) (fun q8_ hF => ?_)
      · rw [q8_]
        refine lv_tableIn (tgt := 417) hx hb dL_law_33 (by decide) (by decide) rfl (by decide) ?_
        refine lv_aload_n hx hb dL_law_417 rfl (lv_at hl 1 rfl) ?_
        refine lv_aload_n hx hb dL_law_418 rfl (lv_at hl 0 rfl) ?_
        refine lv_iload_n hx hb dL_law_419 rfl (lv_at hl 3 rfl) ?_
        refine lv_iconst (v := 1) hx hb dL_law_420 (by decide) ?_
        refine lv_iadd hx hb dL_law_421 ?_
        obtain ⟨hin, hF⟩ := chk_s hF
        refine va_sld hx hb hX hbl hbA hS hin dL_law_422 ?_
        obtain ⟨q17, h_q17, hF⟩ := bnd_s hF
        refine g_callV (As := [.int (xs (x3 + 1).toNatClampNeg)]) (rest := []) ⟨hx, hb, hml, hown, hts⟩ hK hZ hA (c_X9_next l E o qh qr qt qs qn fn fs ft gh n u (xs (x3 + 1).toNatClampNeg) q17 h_q17) (cwV 1 hts gL_law_X9_next rfl rfl rfl (by decide +kernel) ⟨Nat.le_of_ble_eq_true rfl, Nat.le_of_ble_eq_true rfl⟩) hP hD hS [0] [1] rfl rfl rfl rfl rfl rfl hl.1 rfl (Nat.le_of_ble_eq_true rfl) dL_law_423 ⟨Nat.le_of_ble_eq_true rfl, Nat.le_of_ble_eq_true rfl⟩ (fun H locs hP hD hS => ?_)
        have hP : va_P E.1 vwCl (bl [HL_c E o qh qr qt qs qn fn fs ft gh u, Md_c E o2 qa2 qb2 qc2 qd2 qe2 qf2 qg2 u2]) H := hP
        have hD : va_D A (bl [HL_c E o qh qr qt qs qn fn fs ft gh u, Md_c E o2 qa2 qb2 qc2 qd2 qe2 qf2 qg2 u2]) := hD
        refine W.eq (g2 := F0 m 426 ls [.int q17]) rfl ?_
        refine lv_aload_n hx hb dL_law_426 rfl (lv_at hl 2 rfl) ?_
        refine lv_aload_n hx hb dL_law_427 rfl (lv_at hl 0 rfl) ?_
        refine lv_iload_n hx hb dL_law_428 rfl (lv_at hl 3 rfl) ?_
        refine lv_iconst (v := 1) hx hb dL_law_429 (by decide) ?_
        refine lv_iadd hx hb dL_law_430 ?_
        obtain ⟨hin, hF⟩ := chk_s hF
        refine va_sld hx hb hX hbl hbA hS hin dL_law_431 ?_
        obtain ⟨q18, h_q18, hF⟩ := bnd_s hF
        refine g_callV (As := [.int (xs (x3 + 1).toNatClampNeg)]) (rest := [.int q17]) ⟨hx, hb, hml, hown, hts⟩ hK hZ hA (c_X10_next l E o2 qa2 qb2 qc2 qd2 qe2 qf2 qg2 n u2 (xs (x3 + 1).toNatClampNeg) q18 h_q18) (cwV 1 hts gL_law_X10_next rfl rfl rfl (by decide +kernel) ⟨Nat.le_of_ble_eq_true rfl, Nat.le_of_ble_eq_true rfl⟩) hP hD hS [1] [0] rfl rfl rfl rfl rfl rfl hl.1 rfl (Nat.le_of_ble_eq_true rfl) dL_law_432 ⟨Nat.le_of_ble_eq_true rfl, Nat.le_of_ble_eq_true rfl⟩ (fun H locs hP hD hS => ?_)
        have hP : va_P E.1 vwCl (bl [Md_c E o2 qa2 qb2 qc2 qd2 qe2 qf2 qg2 u2, HL_c E o qh qr qt qs qn fn fs ft gh u]) H := hP
        have hD : va_D A (bl [Md_c E o2 qa2 qb2 qc2 qd2 qe2 qf2 qg2 u2, HL_c E o qh qr qt qs qn fn fs ft gh u]) := hD
        refine W.eq (g2 := F0 m 435 ls [.int q18, .int q17]) rfl ?_
        refine f_icmp_eq (tgt := 986) hx hb dL_law_435 (by decide) hF (fun hF => ?_) (fun hF => ?_)
        · refine lv_iinc (v := (x3 + 6)) (lv' := [(3, .int (x3 + 6)), (0, .ref b), (1, .ref o), (2, .ref o2)]) hx hb dL_law_986 hl (k := 3) rfl rfl (by decide) rfl (fun ls hl => ?_)
          refine lv_goto (tgt := 18) hx hb dL_law_989 (by decide) ?_
          exact ih u u2 (x3 + 6) _ _ (bl_P hP [1, 0] rfl) (bl_D hD [1, 0] rfl rfl) hS _ (lv_sub hl [1, 2, 3, 0] rfl) hF
        · refine lv_iconst (v := 0) hx hb dL_law_438 (by decide) ?_
          cases hF
      refine f_ite hF (fun q9_ hF => ?_) (fun q9_ hF => ?_)
      · rw [q9_]
        refine lv_tableIn (tgt := 440) hx hb dL_law_33 (by decide) (by decide) rfl (by decide) ?_
        refine lv_aload_n hx hb dL_law_440 rfl (lv_at hl 1 rfl) ?_
        refine lv_aload_n hx hb dL_law_441 rfl (lv_at hl 0 rfl) ?_
        refine lv_iload_n hx hb dL_law_442 rfl (lv_at hl 3 rfl) ?_
        refine lv_iconst (v := 1) hx hb dL_law_443 (by decide) ?_
        refine lv_iadd hx hb dL_law_444 ?_
        obtain ⟨hin, hF⟩ := chk_s hF
        refine va_sld hx hb hX hbl hbA hS hin dL_law_445 ?_
        obtain ⟨q19, h_q19, hF⟩ := bnd_s hF
        refine g_callV (As := [.int (xs (x3 + 1).toNatClampNeg)]) (rest := []) ⟨hx, hb, hml, hown, hts⟩ hK hZ hA (c_X9_setChanger l E o qh qr qt qs qn fn fs ft gh n u (xs (x3 + 1).toNatClampNeg) q19 h_q19) (cwV 1 hts gL_law_X9_setChanger rfl rfl rfl (by decide +kernel) ⟨Nat.le_of_ble_eq_true rfl, Nat.le_of_ble_eq_true rfl⟩) hP hD hS [0] [1] rfl rfl rfl rfl rfl rfl hl.1 rfl (Nat.le_of_ble_eq_true rfl) dL_law_446 ⟨Nat.le_of_ble_eq_true rfl, Nat.le_of_ble_eq_true rfl⟩ (fun H locs hP hD hS => ?_)
        have hP : va_P E.1 vwCl (bl [HL_c E o qh qr qt qs qn fn fs ft gh q19.2, Md_c E o2 qa2 qb2 qc2 qd2 qe2 qf2 qg2 u2]) H := hP
        have hD : va_D A (bl [HL_c E o qh qr qt qs qn fn fs ft gh q19.2, Md_c E o2 qa2 qb2 qc2 qd2 qe2 qf2 qg2 u2]) := hD
        refine W.eq (g2 := F0 m 449 ls [.int q19.1]) rfl ?_
        refine lv_aload_n hx hb dL_law_449 rfl (lv_at hl 2 rfl) ?_
        refine lv_aload_n hx hb dL_law_450 rfl (lv_at hl 0 rfl) ?_
        refine lv_iload_n hx hb dL_law_451 rfl (lv_at hl 3 rfl) ?_
        refine lv_iconst (v := 1) hx hb dL_law_452 (by decide) ?_
        refine lv_iadd hx hb dL_law_453 ?_
        obtain ⟨hin, hF⟩ := chk_s hF
        refine va_sld hx hb hX hbl hbA hS hin dL_law_454 ?_
        obtain ⟨q20, h_q20, hF⟩ := bnd_s hF
        refine g_callV (As := [.int (xs (x3 + 1).toNatClampNeg)]) (rest := [.int q19.1]) ⟨hx, hb, hml, hown, hts⟩ hK hZ hA (c_X10_setChanger l E o2 qa2 qb2 qc2 qd2 qe2 qf2 qg2 n u2 (xs (x3 + 1).toNatClampNeg) q20 h_q20) (cwV 1 hts gL_law_X10_setChanger rfl rfl rfl (by decide +kernel) ⟨Nat.le_of_ble_eq_true rfl, Nat.le_of_ble_eq_true rfl⟩) hP hD hS [1] [0] rfl rfl rfl rfl rfl rfl hl.1 rfl (Nat.le_of_ble_eq_true rfl) dL_law_455 ⟨Nat.le_of_ble_eq_true rfl, Nat.le_of_ble_eq_true rfl⟩ (fun H locs hP hD hS => ?_)
        have hP : va_P E.1 vwCl (bl [Md_c E o2 qa2 qb2 qc2 qd2 qe2 qf2 qg2 q20.2, HL_c E o qh qr qt qs qn fn fs ft gh q19.2]) H := hP
        have hD : va_D A (bl [Md_c E o2 qa2 qb2 qc2 qd2 qe2 qf2 qg2 q20.2, HL_c E o qh qr qt qs qn fn fs ft gh q19.2]) := hD
        refine W.eq (g2 := F0 m 458 ls [.int q20.1, .int q19.1]) rfl ?_
        refine f_icmp_eq (tgt := 986) hx hb dL_law_458 (by decide) hF (fun hF => ?_) (fun hF => ?_)
        · refine lv_iinc (v := (x3 + 6)) (lv' := [(3, .int (x3 + 6)), (0, .ref b), (1, .ref o), (2, .ref o2)]) hx hb dL_law_986 hl (k := 3) rfl rfl (by decide) rfl (fun ls hl => ?_)
          refine lv_goto (tgt := 18) hx hb dL_law_989 (by decide) ?_
          exact ih q19.2 q20.2 (x3 + 6) _ _ (bl_P hP [1, 0] rfl) (bl_D hD [1, 0] rfl rfl) hS _ (lv_sub hl [1, 2, 3, 0] rfl) hF
        · refine lv_iconst (v := 0) hx hb dL_law_461 (by decide) ?_
          cases hF
      refine f_ite hF (fun q10_ hF => ?_) (fun q10_ hF => ?_)
      · rw [q10_]
        refine lv_tableIn (tgt := 463) hx hb dL_law_33 (by decide) (by decide) rfl (by decide) ?_
        refine lv_aload_n hx hb dL_law_463 rfl (lv_at hl 1 rfl) ?_
        refine lv_aload_n hx hb dL_law_464 rfl (lv_at hl 0 rfl) ?_
        refine lv_iload_n hx hb dL_law_465 rfl (lv_at hl 3 rfl) ?_
        refine lv_iconst (v := 1) hx hb dL_law_466 (by decide) ?_
        refine lv_iadd hx hb dL_law_467 ?_
        obtain ⟨hin, hF⟩ := chk_s hF
        refine va_sld hx hb hX hbl hbA hS hin dL_law_468 ?_
        refine lv_aload_n hx hb dL_law_469 rfl (lv_at hl 0 rfl) ?_
        refine lv_iload_n hx hb dL_law_470 rfl (lv_at hl 3 rfl) ?_
        refine lv_iconst (v := 2) hx hb dL_law_471 (by decide) ?_
        refine lv_iadd hx hb dL_law_472 ?_
        obtain ⟨hin, hF⟩ := chk_s hF
        refine va_sld hx hb hX hbl hbA hS hin dL_law_473 ?_
        refine lv_aload_n hx hb dL_law_474 rfl (lv_at hl 0 rfl) ?_
        refine lv_iload_n hx hb dL_law_475 rfl (lv_at hl 3 rfl) ?_
        refine lv_iconst (v := 3) hx hb dL_law_476 (by decide) ?_
        refine lv_iadd hx hb dL_law_477 ?_
        obtain ⟨hin, hF⟩ := chk_s hF
        refine va_sld hx hb hX hbl hbA hS hin dL_law_478 ?_
        obtain ⟨q21, h_q21, hF⟩ := bnd_s hF
        refine g_callV (As := [.int (xs (x3 + 1).toNatClampNeg), .int (xs (x3 + 2).toNatClampNeg), .int (xs (x3 + 3).toNatClampNeg)]) (rest := []) ⟨hx, hb, hml, hown, hts⟩ hK hZ hA (c_X9_addLamp l E o qh qr qt qs qn fn fs ft gh n u (xs (x3 + 1).toNatClampNeg) (xs (x3 + 2).toNatClampNeg) (xs (x3 + 3).toNatClampNeg) q21 h_q21) (cwV 3 hts gL_law_X9_addLamp rfl rfl rfl (by decide +kernel) ⟨Nat.le_of_ble_eq_true rfl, Nat.le_of_ble_eq_true rfl⟩) hP hD hS [0] [1] rfl rfl rfl rfl rfl rfl hl.1 rfl (Nat.le_of_ble_eq_true rfl) dL_law_479 ⟨Nat.le_of_ble_eq_true rfl, Nat.le_of_ble_eq_true rfl⟩ (fun H locs hP hD hS => ?_)
        have hP : va_P E.1 vwCl (bl [HL_c E o qh qr qt qs qn fn fs ft gh q21.2, Md_c E o2 qa2 qb2 qc2 qd2 qe2 qf2 qg2 u2]) H := hP
        have hD : va_D A (bl [HL_c E o qh qr qt qs qn fn fs ft gh q21.2, Md_c E o2 qa2 qb2 qc2 qd2 qe2 qf2 qg2 u2]) := hD
        refine W.eq (g2 := F0 m 482 ls [.int q21.1]) rfl ?_
        refine lv_aload_n hx hb dL_law_482 rfl (lv_at hl 2 rfl) ?_
        refine lv_aload_n hx hb dL_law_483 rfl (lv_at hl 0 rfl) ?_
        refine lv_iload_n hx hb dL_law_484 rfl (lv_at hl 3 rfl) ?_
        refine lv_iconst (v := 1) hx hb dL_law_485 (by decide) ?_
        refine lv_iadd hx hb dL_law_486 ?_
        obtain ⟨hin, hF⟩ := chk_s hF
        refine va_sld hx hb hX hbl hbA hS hin dL_law_487 ?_
        refine lv_aload_n hx hb dL_law_488 rfl (lv_at hl 0 rfl) ?_
        refine lv_iload_n hx hb dL_law_489 rfl (lv_at hl 3 rfl) ?_
        refine lv_iconst (v := 2) hx hb dL_law_490 (by decide) ?_
        refine lv_iadd hx hb dL_law_491 ?_
        obtain ⟨hin, hF⟩ := chk_s hF
        refine va_sld hx hb hX hbl hbA hS hin dL_law_492 ?_
        refine lv_aload_n hx hb dL_law_493 rfl (lv_at hl 0 rfl) ?_
        refine lv_iload_n hx hb dL_law_494 rfl (lv_at hl 3 rfl) ?_
        refine lv_iconst (v := 3) hx hb dL_law_495 (by decide) ?_
        refine lv_iadd hx hb dL_law_496 ?_
        obtain ⟨hin, hF⟩ := chk_s hF
        refine va_sld hx hb hX hbl hbA hS hin dL_law_497 ?_
        obtain ⟨q22, h_q22, hF⟩ := bnd_s hF
        refine g_callV (As := [.int (xs (x3 + 1).toNatClampNeg), .int (xs (x3 + 2).toNatClampNeg), .int (xs (x3 + 3).toNatClampNeg)]) (rest := [.int q21.1]) ⟨hx, hb, hml, hown, hts⟩ hK hZ hA (c_X10_addLamp l E o2 qa2 qb2 qc2 qd2 qe2 qf2 qg2 n u2 (xs (x3 + 1).toNatClampNeg) (xs (x3 + 2).toNatClampNeg) (xs (x3 + 3).toNatClampNeg) q22 h_q22) (cwV 3 hts gL_law_X10_addLamp rfl rfl rfl (by decide +kernel) ⟨Nat.le_of_ble_eq_true rfl, Nat.le_of_ble_eq_true rfl⟩) hP hD hS [1] [0] rfl rfl rfl rfl rfl rfl hl.1 rfl (Nat.le_of_ble_eq_true rfl) dL_law_498 ⟨Nat.le_of_ble_eq_true rfl, Nat.le_of_ble_eq_true rfl⟩ (fun H locs hP hD hS => ?_)
        have hP : va_P E.1 vwCl (bl [Md_c E o2 qa2 qb2 qc2 qd2 qe2 qf2 qg2 q22.2, HL_c E o qh qr qt qs qn fn fs ft gh q21.2]) H := hP
        have hD : va_D A (bl [Md_c E o2 qa2 qb2 qc2 qd2 qe2 qf2 qg2 q22.2, HL_c E o qh qr qt qs qn fn fs ft gh q21.2]) := hD
        refine W.eq (g2 := F0 m 501 ls [.int q22.1, .int q21.1]) rfl ?_
        refine f_icmp_eq (tgt := 986) hx hb dL_law_501 (by decide) hF (fun hF => ?_) (fun hF => ?_)
        · refine lv_iinc (v := (x3 + 6)) (lv' := [(3, .int (x3 + 6)), (0, .ref b), (1, .ref o), (2, .ref o2)]) hx hb dL_law_986 hl (k := 3) rfl rfl (by decide) rfl (fun ls hl => ?_)
          refine lv_goto (tgt := 18) hx hb dL_law_989 (by decide) ?_
          exact ih q21.2 q22.2 (x3 + 6) _ _ (bl_P hP [1, 0] rfl) (bl_D hD [1, 0] rfl rfl) hS _ (lv_sub hl [1, 2, 3, 0] rfl) hF
        · refine lv_iconst (v := 0) hx hb dL_law_504 (by decide) ?_
          cases hF
      refine f_ite hF (fun q11_ hF => ?_) (fun q11_ hF => ?_)
      · rw [q11_]
        refine lv_tableIn (tgt := 506) hx hb dL_law_33 (by decide) (by decide) rfl (by decide) ?_
        refine lv_aload_n hx hb dL_law_506 rfl (lv_at hl 1 rfl) ?_
        refine lv_aload_n hx hb dL_law_507 rfl (lv_at hl 0 rfl) ?_
        refine lv_iload_n hx hb dL_law_508 rfl (lv_at hl 3 rfl) ?_
        refine lv_iconst (v := 1) hx hb dL_law_509 (by decide) ?_
        refine lv_iadd hx hb dL_law_510 ?_
        obtain ⟨hin, hF⟩ := chk_s hF
        refine va_sld hx hb hX hbl hbA hS hin dL_law_511 ?_
        obtain ⟨q23, h_q23, hF⟩ := bnd_s hF
        refine g_callV (As := [.int (xs (x3 + 1).toNatClampNeg)]) (rest := []) ⟨hx, hb, hml, hown, hts⟩ hK hZ hA (c_X9_takeLamp l E o qh qr qt qs qn fn fs ft gh u (xs (x3 + 1).toNatClampNeg) q23 h_q23) (cwV 1 hts gL_law_X9_takeLamp rfl rfl rfl (by decide +kernel) ⟨Nat.le_of_ble_eq_true rfl, Nat.le_of_ble_eq_true rfl⟩) hP hD hS [0] [1] rfl rfl rfl rfl rfl rfl hl.1 rfl (Nat.le_of_ble_eq_true rfl) dL_law_512 ⟨Nat.le_of_ble_eq_true rfl, Nat.le_of_ble_eq_true rfl⟩ (fun H locs hP hD hS => ?_)
        have hP : va_P E.1 vwCl (bl [HL_c E o qh qr qt qs qn fn fs ft gh q23.2, Md_c E o2 qa2 qb2 qc2 qd2 qe2 qf2 qg2 u2]) H := hP
        have hD : va_D A (bl [HL_c E o qh qr qt qs qn fn fs ft gh q23.2, Md_c E o2 qa2 qb2 qc2 qd2 qe2 qf2 qg2 u2]) := hD
        refine W.eq (g2 := F0 m 515 ls [.int q23.1]) rfl ?_
        refine lv_aload_n hx hb dL_law_515 rfl (lv_at hl 2 rfl) ?_
        refine lv_aload_n hx hb dL_law_516 rfl (lv_at hl 0 rfl) ?_
        refine lv_iload_n hx hb dL_law_517 rfl (lv_at hl 3 rfl) ?_
        refine lv_iconst (v := 1) hx hb dL_law_518 (by decide) ?_
        refine lv_iadd hx hb dL_law_519 ?_
        obtain ⟨hin, hF⟩ := chk_s hF
        refine va_sld hx hb hX hbl hbA hS hin dL_law_520 ?_
        obtain ⟨q24, h_q24, hF⟩ := bnd_s hF
        refine g_callV (As := [.int (xs (x3 + 1).toNatClampNeg)]) (rest := [.int q23.1]) ⟨hx, hb, hml, hown, hts⟩ hK hZ hA (c_X10_takeLamp l E o2 qa2 qb2 qc2 qd2 qe2 qf2 qg2 n u2 (xs (x3 + 1).toNatClampNeg) q24 h_q24) (cwV 1 hts gL_law_X10_takeLamp rfl rfl rfl (by decide +kernel) ⟨Nat.le_of_ble_eq_true rfl, Nat.le_of_ble_eq_true rfl⟩) hP hD hS [1] [0] rfl rfl rfl rfl rfl rfl hl.1 rfl (Nat.le_of_ble_eq_true rfl) dL_law_521 ⟨Nat.le_of_ble_eq_true rfl, Nat.le_of_ble_eq_true rfl⟩ (fun H locs hP hD hS => ?_)
        have hP : va_P E.1 vwCl (bl [Md_c E o2 qa2 qb2 qc2 qd2 qe2 qf2 qg2 q24.2, HL_c E o qh qr qt qs qn fn fs ft gh q23.2]) H := hP
        have hD : va_D A (bl [Md_c E o2 qa2 qb2 qc2 qd2 qe2 qf2 qg2 q24.2, HL_c E o qh qr qt qs qn fn fs ft gh q23.2]) := hD
        refine W.eq (g2 := F0 m 524 ls [.int q24.1, .int q23.1]) rfl ?_
        refine f_icmp_eq (tgt := 986) hx hb dL_law_524 (by decide) hF (fun hF => ?_) (fun hF => ?_)
        · refine lv_iinc (v := (x3 + 6)) (lv' := [(3, .int (x3 + 6)), (0, .ref b), (1, .ref o), (2, .ref o2)]) hx hb dL_law_986 hl (k := 3) rfl rfl (by decide) rfl (fun ls hl => ?_)
          refine lv_goto (tgt := 18) hx hb dL_law_989 (by decide) ?_
          exact ih q23.2 q24.2 (x3 + 6) _ _ (bl_P hP [1, 0] rfl) (bl_D hD [1, 0] rfl rfl) hS _ (lv_sub hl [1, 2, 3, 0] rfl) hF
        · refine lv_iconst (v := 0) hx hb dL_law_527 (by decide) ?_
          cases hF
      refine f_ite hF (fun q12_ hF => ?_) (fun q12_ hF => ?_)
      · rw [q12_]
        refine lv_tableIn (tgt := 529) hx hb dL_law_33 (by decide) (by decide) rfl (by decide) ?_
        refine lv_aload_n hx hb dL_law_529 rfl (lv_at hl 1 rfl) ?_
        refine lv_aload_n hx hb dL_law_530 rfl (lv_at hl 0 rfl) ?_
        refine lv_iload_n hx hb dL_law_531 rfl (lv_at hl 3 rfl) ?_
        refine lv_iconst (v := 1) hx hb dL_law_532 (by decide) ?_
        refine lv_iadd hx hb dL_law_533 ?_
        obtain ⟨hin, hF⟩ := chk_s hF
        refine va_sld hx hb hX hbl hbA hS hin dL_law_534 ?_
        refine lv_aload_n hx hb dL_law_535 rfl (lv_at hl 0 rfl) ?_
        refine lv_iload_n hx hb dL_law_536 rfl (lv_at hl 3 rfl) ?_
        refine lv_iconst (v := 2) hx hb dL_law_537 (by decide) ?_
        refine lv_iadd hx hb dL_law_538 ?_
        obtain ⟨hin, hF⟩ := chk_s hF
        refine va_sld hx hb hX hbl hbA hS hin dL_law_539 ?_
        obtain ⟨q25, h_q25, hF⟩ := bnd_s hF
        refine g_callV (As := [.int (xs (x3 + 1).toNatClampNeg), .int (xs (x3 + 2).toNatClampNeg)]) (rest := []) ⟨hx, hb, hml, hown, hts⟩ hK hZ hA (c_X9_lamp l E o qh qr qt qs qn fn fs ft gh u (xs (x3 + 1).toNatClampNeg) (xs (x3 + 2).toNatClampNeg) q25 h_q25) (cwV 2 hts gL_law_X9_lamp rfl rfl rfl (by decide +kernel) ⟨Nat.le_of_ble_eq_true rfl, Nat.le_of_ble_eq_true rfl⟩) hP hD hS [0] [1] rfl rfl rfl rfl rfl rfl hl.1 rfl (Nat.le_of_ble_eq_true rfl) dL_law_540 ⟨Nat.le_of_ble_eq_true rfl, Nat.le_of_ble_eq_true rfl⟩ (fun H locs hP hD hS => ?_)
        have hP : va_P E.1 vwCl (bl [HL_c E o qh qr qt qs qn fn fs ft gh u, Md_c E o2 qa2 qb2 qc2 qd2 qe2 qf2 qg2 u2]) H := hP
        have hD : va_D A (bl [HL_c E o qh qr qt qs qn fn fs ft gh u, Md_c E o2 qa2 qb2 qc2 qd2 qe2 qf2 qg2 u2]) := hD
        refine W.eq (g2 := F0 m 543 ls [.int q25]) rfl ?_
        refine lv_aload_n hx hb dL_law_543 rfl (lv_at hl 2 rfl) ?_
        refine lv_aload_n hx hb dL_law_544 rfl (lv_at hl 0 rfl) ?_
        refine lv_iload_n hx hb dL_law_545 rfl (lv_at hl 3 rfl) ?_
        refine lv_iconst (v := 1) hx hb dL_law_546 (by decide) ?_
        refine lv_iadd hx hb dL_law_547 ?_
        obtain ⟨hin, hF⟩ := chk_s hF
        refine va_sld hx hb hX hbl hbA hS hin dL_law_548 ?_
        refine lv_aload_n hx hb dL_law_549 rfl (lv_at hl 0 rfl) ?_
        refine lv_iload_n hx hb dL_law_550 rfl (lv_at hl 3 rfl) ?_
        refine lv_iconst (v := 2) hx hb dL_law_551 (by decide) ?_
        refine lv_iadd hx hb dL_law_552 ?_
        obtain ⟨hin, hF⟩ := chk_s hF
        refine va_sld hx hb hX hbl hbA hS hin dL_law_553 ?_
        obtain ⟨q26, h_q26, hF⟩ := bnd_s hF
        refine g_callV (As := [.int (xs (x3 + 1).toNatClampNeg), .int (xs (x3 + 2).toNatClampNeg)]) (rest := [.int q25]) ⟨hx, hb, hml, hown, hts⟩ hK hZ hA (c_X10_lamp l E o2 qa2 qb2 qc2 qd2 qe2 qf2 qg2 u2 (xs (x3 + 1).toNatClampNeg) (xs (x3 + 2).toNatClampNeg) q26 h_q26) (cwV 2 hts gL_law_X10_lamp rfl rfl rfl (by decide +kernel) ⟨Nat.le_of_ble_eq_true rfl, Nat.le_of_ble_eq_true rfl⟩) hP hD hS [1] [0] rfl rfl rfl rfl rfl rfl hl.1 rfl (Nat.le_of_ble_eq_true rfl) dL_law_554 ⟨Nat.le_of_ble_eq_true rfl, Nat.le_of_ble_eq_true rfl⟩ (fun H locs hP hD hS => ?_)
        have hP : va_P E.1 vwCl (bl [Md_c E o2 qa2 qb2 qc2 qd2 qe2 qf2 qg2 u2, HL_c E o qh qr qt qs qn fn fs ft gh u]) H := hP
        have hD : va_D A (bl [Md_c E o2 qa2 qb2 qc2 qd2 qe2 qf2 qg2 u2, HL_c E o qh qr qt qs qn fn fs ft gh u]) := hD
        refine W.eq (g2 := F0 m 557 ls [.int q26, .int q25]) rfl ?_
        refine f_icmp_eq (tgt := 986) hx hb dL_law_557 (by decide) hF (fun hF => ?_) (fun hF => ?_)
        · refine lv_iinc (v := (x3 + 6)) (lv' := [(3, .int (x3 + 6)), (0, .ref b), (1, .ref o), (2, .ref o2)]) hx hb dL_law_986 hl (k := 3) rfl rfl (by decide) rfl (fun ls hl => ?_)
          refine lv_goto (tgt := 18) hx hb dL_law_989 (by decide) ?_
          exact ih u u2 (x3 + 6) _ _ (bl_P hP [1, 0] rfl) (bl_D hD [1, 0] rfl rfl) hS _ (lv_sub hl [1, 2, 3, 0] rfl) hF
        · refine lv_iconst (v := 0) hx hb dL_law_560 (by decide) ?_
          cases hF
      refine f_ite hF (fun q13_ hF => ?_) (fun q13_ hF => ?_)
      · rw [q13_]
        refine lv_tableIn (tgt := 562) hx hb dL_law_33 (by decide) (by decide) rfl (by decide) ?_
        refine lv_aload_n hx hb dL_law_562 rfl (lv_at hl 1 rfl) ?_
        refine lv_aload_n hx hb dL_law_563 rfl (lv_at hl 0 rfl) ?_
        refine lv_iload_n hx hb dL_law_564 rfl (lv_at hl 3 rfl) ?_
        refine lv_iconst (v := 1) hx hb dL_law_565 (by decide) ?_
        refine lv_iadd hx hb dL_law_566 ?_
        obtain ⟨hin, hF⟩ := chk_s hF
        refine va_sld hx hb hX hbl hbA hS hin dL_law_567 ?_
        refine lv_aload_n hx hb dL_law_568 rfl (lv_at hl 0 rfl) ?_
        refine lv_iload_n hx hb dL_law_569 rfl (lv_at hl 3 rfl) ?_
        refine lv_iconst (v := 2) hx hb dL_law_570 (by decide) ?_
        refine lv_iadd hx hb dL_law_571 ?_
        obtain ⟨hin, hF⟩ := chk_s hF
        refine va_sld hx hb hX hbl hbA hS hin dL_law_572 ?_
        obtain ⟨q27, h_q27, hF⟩ := bnd_s hF
        refine g_callV (As := [.int (xs (x3 + 1).toNatClampNeg), .int (xs (x3 + 2).toNatClampNeg)]) (rest := []) ⟨hx, hb, hml, hown, hts⟩ hK hZ hA (c_X9_set l E o qh qr qt qs qn fn fs ft gh u (xs (x3 + 1).toNatClampNeg) (xs (x3 + 2).toNatClampNeg) q27 h_q27) (cwV 2 hts gL_law_X9_set rfl rfl rfl (by decide +kernel) ⟨Nat.le_of_ble_eq_true rfl, Nat.le_of_ble_eq_true rfl⟩) hP hD hS [0] [1] rfl rfl rfl rfl rfl rfl hl.1 rfl (Nat.le_of_ble_eq_true rfl) dL_law_573 ⟨Nat.le_of_ble_eq_true rfl, Nat.le_of_ble_eq_true rfl⟩ (fun H locs hP hD hS => ?_)
        have hP : va_P E.1 vwCl (bl [HL_c E o qh qr qt qs qn fn fs ft gh q27.2, Md_c E o2 qa2 qb2 qc2 qd2 qe2 qf2 qg2 u2]) H := hP
        have hD : va_D A (bl [HL_c E o qh qr qt qs qn fn fs ft gh q27.2, Md_c E o2 qa2 qb2 qc2 qd2 qe2 qf2 qg2 u2]) := hD
        refine W.eq (g2 := F0 m 576 ls [.int q27.1]) rfl ?_
        refine lv_aload_n hx hb dL_law_576 rfl (lv_at hl 2 rfl) ?_
        refine lv_aload_n hx hb dL_law_577 rfl (lv_at hl 0 rfl) ?_
        refine lv_iload_n hx hb dL_law_578 rfl (lv_at hl 3 rfl) ?_
        refine lv_iconst (v := 1) hx hb dL_law_579 (by decide) ?_
        refine lv_iadd hx hb dL_law_580 ?_
        obtain ⟨hin, hF⟩ := chk_s hF
        refine va_sld hx hb hX hbl hbA hS hin dL_law_581 ?_
        refine lv_aload_n hx hb dL_law_582 rfl (lv_at hl 0 rfl) ?_
        refine lv_iload_n hx hb dL_law_583 rfl (lv_at hl 3 rfl) ?_
        refine lv_iconst (v := 2) hx hb dL_law_584 (by decide) ?_
        refine lv_iadd hx hb dL_law_585 ?_
        obtain ⟨hin, hF⟩ := chk_s hF
        refine va_sld hx hb hX hbl hbA hS hin dL_law_586 ?_
        obtain ⟨q28, h_q28, hF⟩ := bnd_s hF
        refine g_callV (As := [.int (xs (x3 + 1).toNatClampNeg), .int (xs (x3 + 2).toNatClampNeg)]) (rest := [.int q27.1]) ⟨hx, hb, hml, hown, hts⟩ hK hZ hA (c_X10_set l E o2 qa2 qb2 qc2 qd2 qe2 qf2 qg2 n u2 (xs (x3 + 1).toNatClampNeg) (xs (x3 + 2).toNatClampNeg) q28 h_q28) (cwV 2 hts gL_law_X10_set rfl rfl rfl (by decide +kernel) ⟨Nat.le_of_ble_eq_true rfl, Nat.le_of_ble_eq_true rfl⟩) hP hD hS [1] [0] rfl rfl rfl rfl rfl rfl hl.1 rfl (Nat.le_of_ble_eq_true rfl) dL_law_587 ⟨Nat.le_of_ble_eq_true rfl, Nat.le_of_ble_eq_true rfl⟩ (fun H locs hP hD hS => ?_)
        have hP : va_P E.1 vwCl (bl [Md_c E o2 qa2 qb2 qc2 qd2 qe2 qf2 qg2 q28.2, HL_c E o qh qr qt qs qn fn fs ft gh q27.2]) H := hP
        have hD : va_D A (bl [Md_c E o2 qa2 qb2 qc2 qd2 qe2 qf2 qg2 q28.2, HL_c E o qh qr qt qs qn fn fs ft gh q27.2]) := hD
        refine W.eq (g2 := F0 m 590 ls [.int q28.1, .int q27.1]) rfl ?_
        refine f_icmp_eq (tgt := 986) hx hb dL_law_590 (by decide) hF (fun hF => ?_) (fun hF => ?_)
        · refine lv_iinc (v := (x3 + 6)) (lv' := [(3, .int (x3 + 6)), (0, .ref b), (1, .ref o), (2, .ref o2)]) hx hb dL_law_986 hl (k := 3) rfl rfl (by decide) rfl (fun ls hl => ?_)
          refine lv_goto (tgt := 18) hx hb dL_law_989 (by decide) ?_
          exact ih q27.2 q28.2 (x3 + 6) _ _ (bl_P hP [1, 0] rfl) (bl_D hD [1, 0] rfl rfl) hS _ (lv_sub hl [1, 2, 3, 0] rfl) hF
        · refine lv_iconst (v := 0) hx hb dL_law_593 (by decide) ?_
          cases hF
      refine f_ite hF (fun q14_ hF => ?_) (fun q14_ hF => ?_)
      · rw [q14_]
        refine lv_tableIn (tgt := 595) hx hb dL_law_33 (by decide) (by decide) rfl (by decide) ?_
        refine lv_aload_n hx hb dL_law_595 rfl (lv_at hl 1 rfl) ?_
        refine lv_aload_n hx hb dL_law_596 rfl (lv_at hl 0 rfl) ?_
        refine lv_iload_n hx hb dL_law_597 rfl (lv_at hl 3 rfl) ?_
        refine lv_iconst (v := 1) hx hb dL_law_598 (by decide) ?_
        refine lv_iadd hx hb dL_law_599 ?_
        obtain ⟨hin, hF⟩ := chk_s hF
        refine va_sld hx hb hX hbl hbA hS hin dL_law_600 ?_
        obtain ⟨q29, h_q29, hF⟩ := bnd_s hF
        refine g_callV (As := [.int (xs (x3 + 1).toNatClampNeg)]) (rest := []) ⟨hx, hb, hml, hown, hts⟩ hK hZ hA (c_X9_rangeBits l E o qh qr qt qs qn fn fs ft gh n u (xs (x3 + 1).toNatClampNeg) q29 h_q29) (cwV 1 hts gL_law_X9_rangeBits rfl rfl rfl (by decide +kernel) ⟨Nat.le_of_ble_eq_true rfl, Nat.le_of_ble_eq_true rfl⟩) hP hD hS [0] [1] rfl rfl rfl rfl rfl rfl hl.1 rfl (Nat.le_of_ble_eq_true rfl) dL_law_601 ⟨Nat.le_of_ble_eq_true rfl, Nat.le_of_ble_eq_true rfl⟩ (fun H locs hP hD hS => ?_)
        have hP : va_P E.1 vwCl (bl [HL_c E o qh qr qt qs qn fn fs ft gh u, Md_c E o2 qa2 qb2 qc2 qd2 qe2 qf2 qg2 u2]) H := hP
        have hD : va_D A (bl [HL_c E o qh qr qt qs qn fn fs ft gh u, Md_c E o2 qa2 qb2 qc2 qd2 qe2 qf2 qg2 u2]) := hD
        refine W.eq (g2 := F0 m 604 ls [.int q29]) rfl ?_
        refine lv_aload_n hx hb dL_law_604 rfl (lv_at hl 2 rfl) ?_
        refine lv_aload_n hx hb dL_law_605 rfl (lv_at hl 0 rfl) ?_
        refine lv_iload_n hx hb dL_law_606 rfl (lv_at hl 3 rfl) ?_
        refine lv_iconst (v := 1) hx hb dL_law_607 (by decide) ?_
        refine lv_iadd hx hb dL_law_608 ?_
        obtain ⟨hin, hF⟩ := chk_s hF
        refine va_sld hx hb hX hbl hbA hS hin dL_law_609 ?_
        obtain ⟨q30, h_q30, hF⟩ := bnd_s hF
        refine g_callV (As := [.int (xs (x3 + 1).toNatClampNeg)]) (rest := [.int q29]) ⟨hx, hb, hml, hown, hts⟩ hK hZ hA (c_X10_rangeBits l E o2 qa2 qb2 qc2 qd2 qe2 qf2 qg2 n u2 (xs (x3 + 1).toNatClampNeg) q30 h_q30) (cwV 1 hts gL_law_X10_rangeBits rfl rfl rfl (by decide +kernel) ⟨Nat.le_of_ble_eq_true rfl, Nat.le_of_ble_eq_true rfl⟩) hP hD hS [1] [0] rfl rfl rfl rfl rfl rfl hl.1 rfl (Nat.le_of_ble_eq_true rfl) dL_law_610 ⟨Nat.le_of_ble_eq_true rfl, Nat.le_of_ble_eq_true rfl⟩ (fun H locs hP hD hS => ?_)
        have hP : va_P E.1 vwCl (bl [Md_c E o2 qa2 qb2 qc2 qd2 qe2 qf2 qg2 u2, HL_c E o qh qr qt qs qn fn fs ft gh u]) H := hP
        have hD : va_D A (bl [Md_c E o2 qa2 qb2 qc2 qd2 qe2 qf2 qg2 u2, HL_c E o qh qr qt qs qn fn fs ft gh u]) := hD
        refine W.eq (g2 := F0 m 613 ls [.int q30, .int q29]) rfl ?_
        refine f_icmp_eq (tgt := 986) hx hb dL_law_613 (by decide) hF (fun hF => ?_) (fun hF => ?_)
        · refine lv_iinc (v := (x3 + 6)) (lv' := [(3, .int (x3 + 6)), (0, .ref b), (1, .ref o), (2, .ref o2)]) hx hb dL_law_986 hl (k := 3) rfl rfl (by decide) rfl (fun ls hl => ?_)
          refine lv_goto (tgt := 18) hx hb dL_law_989 (by decide) ?_
          exact ih u u2 (x3 + 6) _ _ (bl_P hP [1, 0] rfl) (bl_D hD [1, 0] rfl rfl) hS _ (lv_sub hl [1, 2, 3, 0] rfl) hF
        · refine lv_iconst (v := 0) hx hb dL_law_616 (by decide) ?_
          cases hF
      refine f_ite hF (fun q15_ hF => ?_) (fun q15_ hF => ?_)
      · rw [q15_]
        refine lv_tableIn (tgt := 618) hx hb dL_law_33 (by decide) (by decide) rfl (by decide) ?_
        refine lv_aload_n hx hb dL_law_618 rfl (lv_at hl 1 rfl) ?_
        refine lv_aload_n hx hb dL_law_619 rfl (lv_at hl 0 rfl) ?_
        refine lv_iload_n hx hb dL_law_620 rfl (lv_at hl 3 rfl) ?_
        refine lv_iconst (v := 1) hx hb dL_law_621 (by decide) ?_
        refine lv_iadd hx hb dL_law_622 ?_
        obtain ⟨hin, hF⟩ := chk_s hF
        refine va_sld hx hb hX hbl hbA hS hin dL_law_623 ?_
        obtain ⟨q31, h_q31, hF⟩ := bnd_s hF
        refine g_callV (As := [.int (xs (x3 + 1).toNatClampNeg)]) (rest := []) ⟨hx, hb, hml, hown, hts⟩ hK hZ hA (c_X9_advance l E o qh qr qt qs qn fn fs ft gh n u (xs (x3 + 1).toNatClampNeg) q31 h_q31) (cwV 1 hts gL_law_X9_advance rfl rfl rfl (by decide +kernel) ⟨Nat.le_of_ble_eq_true rfl, Nat.le_of_ble_eq_true rfl⟩) hP hD hS [0] [1] rfl rfl rfl rfl rfl rfl hl.1 rfl (Nat.le_of_ble_eq_true rfl) dL_law_624 ⟨Nat.le_of_ble_eq_true rfl, Nat.le_of_ble_eq_true rfl⟩ (fun H locs hP hD hS => ?_)
        have hP : va_P E.1 vwCl (bl [HL_c E o qh qr qt qs qn fn fs ft gh q31.2, Md_c E o2 qa2 qb2 qc2 qd2 qe2 qf2 qg2 u2]) H := hP
        have hD : va_D A (bl [HL_c E o qh qr qt qs qn fn fs ft gh q31.2, Md_c E o2 qa2 qb2 qc2 qd2 qe2 qf2 qg2 u2]) := hD
        refine W.eq (g2 := F0 m 627 ls [.int q31.1]) rfl ?_
        refine lv_aload_n hx hb dL_law_627 rfl (lv_at hl 2 rfl) ?_
        refine lv_aload_n hx hb dL_law_628 rfl (lv_at hl 0 rfl) ?_
        refine lv_iload_n hx hb dL_law_629 rfl (lv_at hl 3 rfl) ?_
        refine lv_iconst (v := 1) hx hb dL_law_630 (by decide) ?_
        refine lv_iadd hx hb dL_law_631 ?_
        obtain ⟨hin, hF⟩ := chk_s hF
        refine va_sld hx hb hX hbl hbA hS hin dL_law_632 ?_
        obtain ⟨q32, h_q32, hF⟩ := bnd_s hF
        refine g_callV (As := [.int (xs (x3 + 1).toNatClampNeg)]) (rest := [.int q31.1]) ⟨hx, hb, hml, hown, hts⟩ hK hZ hA (c_X10_advance l E o2 qa2 qb2 qc2 qd2 qe2 qf2 qg2 n u2 (xs (x3 + 1).toNatClampNeg) q32 h_q32) (cwV 1 hts gL_law_X10_advance rfl rfl rfl (by decide +kernel) ⟨Nat.le_of_ble_eq_true rfl, Nat.le_of_ble_eq_true rfl⟩) hP hD hS [1] [0] rfl rfl rfl rfl rfl rfl hl.1 rfl (Nat.le_of_ble_eq_true rfl) dL_law_633 ⟨Nat.le_of_ble_eq_true rfl, Nat.le_of_ble_eq_true rfl⟩ (fun H locs hP hD hS => ?_)
        have hP : va_P E.1 vwCl (bl [Md_c E o2 qa2 qb2 qc2 qd2 qe2 qf2 qg2 q32.2, HL_c E o qh qr qt qs qn fn fs ft gh q31.2]) H := hP
        have hD : va_D A (bl [Md_c E o2 qa2 qb2 qc2 qd2 qe2 qf2 qg2 q32.2, HL_c E o qh qr qt qs qn fn fs ft gh q31.2]) := hD
        refine W.eq (g2 := F0 m 636 ls [.int q32.1, .int q31.1]) rfl ?_
        refine f_icmp_eq (tgt := 986) hx hb dL_law_636 (by decide) hF (fun hF => ?_) (fun hF => ?_)
        · refine lv_iinc (v := (x3 + 6)) (lv' := [(3, .int (x3 + 6)), (0, .ref b), (1, .ref o), (2, .ref o2)]) hx hb dL_law_986 hl (k := 3) rfl rfl (by decide) rfl (fun ls hl => ?_)
          refine lv_goto (tgt := 18) hx hb dL_law_989 (by decide) ?_
          exact ih q31.2 q32.2 (x3 + 6) _ _ (bl_P hP [1, 0] rfl) (bl_D hD [1, 0] rfl rfl) hS _ (lv_sub hl [1, 2, 3, 0] rfl) hF
        · refine lv_iconst (v := 0) hx hb dL_law_639 (by decide) ?_
          cases hF
      refine f_ite hF (fun q16_ hF => ?_) (fun q16_ hF => ?_)
      · rw [q16_]
        refine lv_tableIn (tgt := 641) hx hb dL_law_33 (by decide) (by decide) rfl (by decide) ?_
        refine lv_aload_n hx hb dL_law_641 rfl (lv_at hl 1 rfl) ?_
        refine lv_aload_n hx hb dL_law_642 rfl (lv_at hl 0 rfl) ?_
        refine lv_iload_n hx hb dL_law_643 rfl (lv_at hl 3 rfl) ?_
        refine lv_iconst (v := 1) hx hb dL_law_644 (by decide) ?_
        refine lv_iadd hx hb dL_law_645 ?_
        obtain ⟨hin, hF⟩ := chk_s hF
        refine va_sld hx hb hX hbl hbA hS hin dL_law_646 ?_
        obtain ⟨q33, h_q33, hF⟩ := bnd_s hF
        refine g_callV (As := [.int (xs (x3 + 1).toNatClampNeg)]) (rest := []) ⟨hx, hb, hml, hown, hts⟩ hK hZ hA (c_X9_account l E o qh qr qt qs qn fn fs ft gh u (xs (x3 + 1).toNatClampNeg) q33 h_q33) (cwV 1 hts gL_law_X9_account rfl rfl rfl (by decide +kernel) ⟨Nat.le_of_ble_eq_true rfl, Nat.le_of_ble_eq_true rfl⟩) hP hD hS [0] [1] rfl rfl rfl rfl rfl rfl hl.1 rfl (Nat.le_of_ble_eq_true rfl) dL_law_647 ⟨Nat.le_of_ble_eq_true rfl, Nat.le_of_ble_eq_true rfl⟩ (fun H locs hP hD hS => ?_)
        have hP : va_P E.1 vwCl (bl [HL_c E o qh qr qt qs qn fn fs ft gh u, Md_c E o2 qa2 qb2 qc2 qd2 qe2 qf2 qg2 u2]) H := hP
        have hD : va_D A (bl [HL_c E o qh qr qt qs qn fn fs ft gh u, Md_c E o2 qa2 qb2 qc2 qd2 qe2 qf2 qg2 u2]) := hD
        refine W.eq (g2 := F0 m 650 ls [.int q33]) rfl ?_
        refine lv_aload_n hx hb dL_law_650 rfl (lv_at hl 2 rfl) ?_
        refine lv_aload_n hx hb dL_law_651 rfl (lv_at hl 0 rfl) ?_
        refine lv_iload_n hx hb dL_law_652 rfl (lv_at hl 3 rfl) ?_
        refine lv_iconst (v := 1) hx hb dL_law_653 (by decide) ?_
        refine lv_iadd hx hb dL_law_654 ?_
        obtain ⟨hin, hF⟩ := chk_s hF
        refine va_sld hx hb hX hbl hbA hS hin dL_law_655 ?_
        obtain ⟨q34, h_q34, hF⟩ := bnd_s hF
        refine g_callV (As := [.int (xs (x3 + 1).toNatClampNeg)]) (rest := [.int q33]) ⟨hx, hb, hml, hown, hts⟩ hK hZ hA (c_X10_account l E o2 qa2 qb2 qc2 qd2 qe2 qf2 qg2 u2 (xs (x3 + 1).toNatClampNeg) q34 h_q34) (cwV 1 hts gL_law_X10_account rfl rfl rfl (by decide +kernel) ⟨Nat.le_of_ble_eq_true rfl, Nat.le_of_ble_eq_true rfl⟩) hP hD hS [1] [0] rfl rfl rfl rfl rfl rfl hl.1 rfl (Nat.le_of_ble_eq_true rfl) dL_law_656 ⟨Nat.le_of_ble_eq_true rfl, Nat.le_of_ble_eq_true rfl⟩ (fun H locs hP hD hS => ?_)
        have hP : va_P E.1 vwCl (bl [Md_c E o2 qa2 qb2 qc2 qd2 qe2 qf2 qg2 u2, HL_c E o qh qr qt qs qn fn fs ft gh u]) H := hP
        have hD : va_D A (bl [Md_c E o2 qa2 qb2 qc2 qd2 qe2 qf2 qg2 u2, HL_c E o qh qr qt qs qn fn fs ft gh u]) := hD
        refine W.eq (g2 := F0 m 659 ls [.int q34, .int q33]) rfl ?_
        refine f_icmp_eq (tgt := 986) hx hb dL_law_659 (by decide) hF (fun hF => ?_) (fun hF => ?_)
        · refine lv_iinc (v := (x3 + 6)) (lv' := [(3, .int (x3 + 6)), (0, .ref b), (1, .ref o), (2, .ref o2)]) hx hb dL_law_986 hl (k := 3) rfl rfl (by decide) rfl (fun ls hl => ?_)
          refine lv_goto (tgt := 18) hx hb dL_law_989 (by decide) ?_
          exact ih u u2 (x3 + 6) _ _ (bl_P hP [1, 0] rfl) (bl_D hD [1, 0] rfl rfl) hS _ (lv_sub hl [1, 2, 3, 0] rfl) hF
        · refine lv_iconst (v := 0) hx hb dL_law_662 (by decide) ?_
          cases hF
      refine f_ite hF (fun q17_ hF => ?_) (fun q17_ hF => ?_)
      · rw [q17_]
        refine lv_tableIn (tgt := 664) hx hb dL_law_33 (by decide) (by decide) rfl (by decide) ?_
        refine lv_aload_n hx hb dL_law_664 rfl (lv_at hl 1 rfl) ?_
        refine lv_aload_n hx hb dL_law_665 rfl (lv_at hl 0 rfl) ?_
        refine lv_iload_n hx hb dL_law_666 rfl (lv_at hl 3 rfl) ?_
        refine lv_iconst (v := 1) hx hb dL_law_667 (by decide) ?_
        refine lv_iadd hx hb dL_law_668 ?_
        obtain ⟨hin, hF⟩ := chk_s hF
        refine va_sld hx hb hX hbl hbA hS hin dL_law_669 ?_
        obtain ⟨q35, h_q35, hF⟩ := bnd_s hF
        refine g_callV (As := [.int (xs (x3 + 1).toNatClampNeg)]) (rest := []) ⟨hx, hb, hml, hown, hts⟩ hK hZ hA (c_X9_count l E o qh qr qt qs qn fn fs ft gh n u (xs (x3 + 1).toNatClampNeg) q35 h_q35) (cwV 1 hts gL_law_X9_count rfl rfl rfl (by decide +kernel) ⟨Nat.le_of_ble_eq_true rfl, Nat.le_of_ble_eq_true rfl⟩) hP hD hS [0] [1] rfl rfl rfl rfl rfl rfl hl.1 rfl (Nat.le_of_ble_eq_true rfl) dL_law_670 ⟨Nat.le_of_ble_eq_true rfl, Nat.le_of_ble_eq_true rfl⟩ (fun H locs hP hD hS => ?_)
        have hP : va_P E.1 vwCl (bl [HL_c E o qh qr qt qs qn fn fs ft gh u, Md_c E o2 qa2 qb2 qc2 qd2 qe2 qf2 qg2 u2]) H := hP
        have hD : va_D A (bl [HL_c E o qh qr qt qs qn fn fs ft gh u, Md_c E o2 qa2 qb2 qc2 qd2 qe2 qf2 qg2 u2]) := hD
        refine W.eq (g2 := F0 m 673 ls [.int q35]) rfl ?_
        refine lv_aload_n hx hb dL_law_673 rfl (lv_at hl 2 rfl) ?_
        refine lv_aload_n hx hb dL_law_674 rfl (lv_at hl 0 rfl) ?_
        refine lv_iload_n hx hb dL_law_675 rfl (lv_at hl 3 rfl) ?_
        refine lv_iconst (v := 1) hx hb dL_law_676 (by decide) ?_
        refine lv_iadd hx hb dL_law_677 ?_
        obtain ⟨hin, hF⟩ := chk_s hF
        refine va_sld hx hb hX hbl hbA hS hin dL_law_678 ?_
        obtain ⟨q36, h_q36, hF⟩ := bnd_s hF
        refine g_callV (As := [.int (xs (x3 + 1).toNatClampNeg)]) (rest := [.int q35]) ⟨hx, hb, hml, hown, hts⟩ hK hZ hA (c_X10_count l E o2 qa2 qb2 qc2 qd2 qe2 qf2 qg2 n u2 (xs (x3 + 1).toNatClampNeg) q36 h_q36) (cwV 1 hts gL_law_X10_count rfl rfl rfl (by decide +kernel) ⟨Nat.le_of_ble_eq_true rfl, Nat.le_of_ble_eq_true rfl⟩) hP hD hS [1] [0] rfl rfl rfl rfl rfl rfl hl.1 rfl (Nat.le_of_ble_eq_true rfl) dL_law_679 ⟨Nat.le_of_ble_eq_true rfl, Nat.le_of_ble_eq_true rfl⟩ (fun H locs hP hD hS => ?_)
        have hP : va_P E.1 vwCl (bl [Md_c E o2 qa2 qb2 qc2 qd2 qe2 qf2 qg2 u2, HL_c E o qh qr qt qs qn fn fs ft gh u]) H := hP
        have hD : va_D A (bl [Md_c E o2 qa2 qb2 qc2 qd2 qe2 qf2 qg2 u2, HL_c E o qh qr qt qs qn fn fs ft gh u]) := hD
        refine W.eq (g2 := F0 m 682 ls [.int q36, .int q35]) rfl ?_
        refine f_icmp_eq (tgt := 986) hx hb dL_law_682 (by decide) hF (fun hF => ?_) (fun hF => ?_)
        · refine lv_iinc (v := (x3 + 6)) (lv' := [(3, .int (x3 + 6)), (0, .ref b), (1, .ref o), (2, .ref o2)]) hx hb dL_law_986 hl (k := 3) rfl rfl (by decide) rfl (fun ls hl => ?_)
          refine lv_goto (tgt := 18) hx hb dL_law_989 (by decide) ?_
          exact ih u u2 (x3 + 6) _ _ (bl_P hP [1, 0] rfl) (bl_D hD [1, 0] rfl rfl) hS _ (lv_sub hl [1, 2, 3, 0] rfl) hF
        · refine lv_iconst (v := 0) hx hb dL_law_685 (by decide) ?_
          cases hF
      refine f_ite hF (fun q18_ hF => ?_) (fun q18_ hF => ?_)
      · rw [q18_]
        refine lv_tableIn (tgt := 687) hx hb dL_law_33 (by decide) (by decide) rfl (by decide) ?_
        refine lv_aload_n hx hb dL_law_687 rfl (lv_at hl 1 rfl) ?_
        obtain ⟨q37, h_q37, hF⟩ := bnd_s hF
        refine g_callV (As := []) (rest := []) ⟨hx, hb, hml, hown, hts⟩ hK hZ hA (c_X9_untilIdle l E o qh qr qt qs qn fn fs ft gh n u q37 h_q37) (cwV 0 hts gL_law_X9_untilIdle rfl rfl rfl (by decide +kernel) ⟨Nat.le_of_ble_eq_true rfl, Nat.le_of_ble_eq_true rfl⟩) hP hD hS [0] [1] rfl rfl rfl rfl rfl rfl hl.1 rfl (Nat.le_of_ble_eq_true rfl) dL_law_688 ⟨Nat.le_of_ble_eq_true rfl, Nat.le_of_ble_eq_true rfl⟩ (fun H locs hP hD hS => ?_)
        have hP : va_P E.1 vwCl (bl [HL_c E o qh qr qt qs qn fn fs ft gh q37.2, Md_c E o2 qa2 qb2 qc2 qd2 qe2 qf2 qg2 u2]) H := hP
        have hD : va_D A (bl [HL_c E o qh qr qt qs qn fn fs ft gh q37.2, Md_c E o2 qa2 qb2 qc2 qd2 qe2 qf2 qg2 u2]) := hD
        refine W.eq (g2 := F0 m 691 ls [.int q37.1]) rfl ?_
        refine lv_aload_n hx hb dL_law_691 rfl (lv_at hl 2 rfl) ?_
        obtain ⟨q38, h_q38, hF⟩ := bnd_s hF
        refine g_callV (As := []) (rest := [.int q37.1]) ⟨hx, hb, hml, hown, hts⟩ hK hZ hA (c_X10_untilIdle l E o2 qa2 qb2 qc2 qd2 qe2 qf2 qg2 n u2 q38 h_q38) (cwV 0 hts gL_law_X10_untilIdle rfl rfl rfl (by decide +kernel) ⟨Nat.le_of_ble_eq_true rfl, Nat.le_of_ble_eq_true rfl⟩) hP hD hS [1] [0] rfl rfl rfl rfl rfl rfl hl.1 rfl (Nat.le_of_ble_eq_true rfl) dL_law_692 ⟨Nat.le_of_ble_eq_true rfl, Nat.le_of_ble_eq_true rfl⟩ (fun H locs hP hD hS => ?_)
        have hP : va_P E.1 vwCl (bl [Md_c E o2 qa2 qb2 qc2 qd2 qe2 qf2 qg2 q38.2, HL_c E o qh qr qt qs qn fn fs ft gh q37.2]) H := hP
        have hD : va_D A (bl [Md_c E o2 qa2 qb2 qc2 qd2 qe2 qf2 qg2 q38.2, HL_c E o qh qr qt qs qn fn fs ft gh q37.2]) := hD
        refine W.eq (g2 := F0 m 695 ls [.int q38.1, .int q37.1]) rfl ?_
        refine f_icmp_eq (tgt := 986) hx hb dL_law_695 (by decide) hF (fun hF => ?_) (fun hF => ?_)
        · refine lv_iinc (v := (x3 + 6)) (lv' := [(3, .int (x3 + 6)), (0, .ref b), (1, .ref o), (2, .ref o2)]) hx hb dL_law_986 hl (k := 3) rfl rfl (by decide) rfl (fun ls hl => ?_)
          refine lv_goto (tgt := 18) hx hb dL_law_989 (by decide) ?_
          exact ih q37.2 q38.2 (x3 + 6) _ _ (bl_P hP [1, 0] rfl) (bl_D hD [1, 0] rfl rfl) hS _ (lv_sub hl [1, 2, 3, 0] rfl) hF
        · refine lv_iconst (v := 0) hx hb dL_law_698 (by decide) ?_
          cases hF
      refine f_ite hF (fun q19_ hF => ?_) (fun q19_ hF => ?_)
      · rw [q19_]
        refine lv_tableIn (tgt := 700) hx hb dL_law_33 (by decide) (by decide) rfl (by decide) ?_
        refine lv_aload_n hx hb dL_law_700 rfl (lv_at hl 1 rfl) ?_
        refine lv_aload_n hx hb dL_law_701 rfl (lv_at hl 0 rfl) ?_
        refine lv_iload_n hx hb dL_law_702 rfl (lv_at hl 3 rfl) ?_
        refine lv_iconst (v := 1) hx hb dL_law_703 (by decide) ?_
        refine lv_iadd hx hb dL_law_704 ?_
        obtain ⟨hin, hF⟩ := chk_s hF
        refine va_sld hx hb hX hbl hbA hS hin dL_law_705 ?_
        refine lv_aload_n hx hb dL_law_706 rfl (lv_at hl 0 rfl) ?_
        refine lv_iload_n hx hb dL_law_707 rfl (lv_at hl 3 rfl) ?_
        refine lv_iconst (v := 2) hx hb dL_law_708 (by decide) ?_
        refine lv_iadd hx hb dL_law_709 ?_
        obtain ⟨hin, hF⟩ := chk_s hF
        refine va_sld hx hb hX hbl hbA hS hin dL_law_710 ?_
        obtain ⟨q39, h_q39, hF⟩ := bnd_s hF
        refine g_callV (As := [.int (xs (x3 + 1).toNatClampNeg), .int (xs (x3 + 2).toNatClampNeg)]) (rest := []) ⟨hx, hb, hml, hown, hts⟩ hK hZ hA (c_X9_sees l E o qh qr qt qs qn fn fs ft gh n u (xs (x3 + 1).toNatClampNeg) (xs (x3 + 2).toNatClampNeg) q39 h_q39) (cwV 2 hts gL_law_X9_sees rfl rfl rfl (by decide +kernel) ⟨Nat.le_of_ble_eq_true rfl, Nat.le_of_ble_eq_true rfl⟩) hP hD hS [0] [1] rfl rfl rfl rfl rfl rfl hl.1 rfl (Nat.le_of_ble_eq_true rfl) dL_law_711 ⟨Nat.le_of_ble_eq_true rfl, Nat.le_of_ble_eq_true rfl⟩ (fun H locs hP hD hS => ?_)
        have hP : va_P E.1 vwCl (bl [HL_c E o qh qr qt qs qn fn fs ft gh q39.2, Md_c E o2 qa2 qb2 qc2 qd2 qe2 qf2 qg2 u2]) H := hP
        have hD : va_D A (bl [HL_c E o qh qr qt qs qn fn fs ft gh q39.2, Md_c E o2 qa2 qb2 qc2 qd2 qe2 qf2 qg2 u2]) := hD
        refine W.eq (g2 := F0 m 714 ls [.int q39.1]) rfl ?_
        refine lv_aload_n hx hb dL_law_714 rfl (lv_at hl 2 rfl) ?_
        refine lv_aload_n hx hb dL_law_715 rfl (lv_at hl 0 rfl) ?_
        refine lv_iload_n hx hb dL_law_716 rfl (lv_at hl 3 rfl) ?_
        refine lv_iconst (v := 1) hx hb dL_law_717 (by decide) ?_
        refine lv_iadd hx hb dL_law_718 ?_
        obtain ⟨hin, hF⟩ := chk_s hF
        refine va_sld hx hb hX hbl hbA hS hin dL_law_719 ?_
        refine lv_aload_n hx hb dL_law_720 rfl (lv_at hl 0 rfl) ?_
        refine lv_iload_n hx hb dL_law_721 rfl (lv_at hl 3 rfl) ?_
        refine lv_iconst (v := 2) hx hb dL_law_722 (by decide) ?_
        refine lv_iadd hx hb dL_law_723 ?_
        obtain ⟨hin, hF⟩ := chk_s hF
        refine va_sld hx hb hX hbl hbA hS hin dL_law_724 ?_
        obtain ⟨q40, h_q40, hF⟩ := bnd_s hF
        refine g_callV (As := [.int (xs (x3 + 1).toNatClampNeg), .int (xs (x3 + 2).toNatClampNeg)]) (rest := [.int q39.1]) ⟨hx, hb, hml, hown, hts⟩ hK hZ hA (c_X10_sees l E o2 qa2 qb2 qc2 qd2 qe2 qf2 qg2 n u2 (xs (x3 + 1).toNatClampNeg) (xs (x3 + 2).toNatClampNeg) q40 h_q40) (cwV 2 hts gL_law_X10_sees rfl rfl rfl (by decide +kernel) ⟨Nat.le_of_ble_eq_true rfl, Nat.le_of_ble_eq_true rfl⟩) hP hD hS [1] [0] rfl rfl rfl rfl rfl rfl hl.1 rfl (Nat.le_of_ble_eq_true rfl) dL_law_725 ⟨Nat.le_of_ble_eq_true rfl, Nat.le_of_ble_eq_true rfl⟩ (fun H locs hP hD hS => ?_)
        have hP : va_P E.1 vwCl (bl [Md_c E o2 qa2 qb2 qc2 qd2 qe2 qf2 qg2 q40.2, HL_c E o qh qr qt qs qn fn fs ft gh q39.2]) H := hP
        have hD : va_D A (bl [Md_c E o2 qa2 qb2 qc2 qd2 qe2 qf2 qg2 q40.2, HL_c E o qh qr qt qs qn fn fs ft gh q39.2]) := hD
        refine W.eq (g2 := F0 m 728 ls [.int q40.1, .int q39.1]) rfl ?_
        refine f_icmp_eq (tgt := 986) hx hb dL_law_728 (by decide) hF (fun hF => ?_) (fun hF => ?_)
        · refine lv_iinc (v := (x3 + 6)) (lv' := [(3, .int (x3 + 6)), (0, .ref b), (1, .ref o), (2, .ref o2)]) hx hb dL_law_986 hl (k := 3) rfl rfl (by decide) rfl (fun ls hl => ?_)
          refine lv_goto (tgt := 18) hx hb dL_law_989 (by decide) ?_
          exact ih q39.2 q40.2 (x3 + 6) _ _ (bl_P hP [1, 0] rfl) (bl_D hD [1, 0] rfl rfl) hS _ (lv_sub hl [1, 2, 3, 0] rfl) hF
        · refine lv_iconst (v := 0) hx hb dL_law_731 (by decide) ?_
          cases hF
      refine f_ite hF (fun q20_ hF => ?_) (fun q20_ hF => ?_)
      · rw [q20_]
        refine lv_tableIn (tgt := 733) hx hb dL_law_33 (by decide) (by decide) rfl (by decide) ?_
        refine lv_aload_n hx hb dL_law_733 rfl (lv_at hl 1 rfl) ?_
        refine lv_aload_n hx hb dL_law_734 rfl (lv_at hl 0 rfl) ?_
        refine lv_iload_n hx hb dL_law_735 rfl (lv_at hl 3 rfl) ?_
        refine lv_iconst (v := 1) hx hb dL_law_736 (by decide) ?_
        refine lv_iadd hx hb dL_law_737 ?_
        obtain ⟨hin, hF⟩ := chk_s hF
        refine va_sld hx hb hX hbl hbA hS hin dL_law_738 ?_
        refine lv_aload_n hx hb dL_law_739 rfl (lv_at hl 0 rfl) ?_
        refine lv_iload_n hx hb dL_law_740 rfl (lv_at hl 3 rfl) ?_
        refine lv_iconst (v := 2) hx hb dL_law_741 (by decide) ?_
        refine lv_iadd hx hb dL_law_742 ?_
        obtain ⟨hin, hF⟩ := chk_s hF
        refine va_sld hx hb hX hbl hbA hS hin dL_law_743 ?_
        refine lv_aload_n hx hb dL_law_744 rfl (lv_at hl 0 rfl) ?_
        refine lv_iload_n hx hb dL_law_745 rfl (lv_at hl 3 rfl) ?_
        refine lv_iconst (v := 3) hx hb dL_law_746 (by decide) ?_
        refine lv_iadd hx hb dL_law_747 ?_
        obtain ⟨hin, hF⟩ := chk_s hF
        refine va_sld hx hb hX hbl hbA hS hin dL_law_748 ?_
        refine lv_aload_n hx hb dL_law_749 rfl (lv_at hl 0 rfl) ?_
        refine lv_iload_n hx hb dL_law_750 rfl (lv_at hl 3 rfl) ?_
        refine lv_iconst (v := 4) hx hb dL_law_751 (by decide) ?_
        refine lv_iadd hx hb dL_law_752 ?_
        obtain ⟨hin, hF⟩ := chk_s hF
        refine va_sld hx hb hX hbl hbA hS hin dL_law_753 ?_
        refine lv_aload_n hx hb dL_law_754 rfl (lv_at hl 0 rfl) ?_
        refine lv_iload_n hx hb dL_law_755 rfl (lv_at hl 3 rfl) ?_
        refine lv_iconst (v := 5) hx hb dL_law_756 (by decide) ?_
        refine lv_iadd hx hb dL_law_757 ?_
        obtain ⟨hin, hF⟩ := chk_s hF
        refine va_sld hx hb hX hbl hbA hS hin dL_law_758 ?_
        obtain ⟨q41, h_q41, hF⟩ := bnd_s hF
        refine g_callV (As := [.int (xs (x3 + 1).toNatClampNeg), .int (xs (x3 + 2).toNatClampNeg), .int (xs (x3 + 3).toNatClampNeg), .int (xs (x3 + 4).toNatClampNeg), .int (xs (x3 + 5).toNatClampNeg)]) (rest := []) ⟨hx, hb, hml, hown, hts⟩ hK hZ hA (c_X9_pass l E o qh qr qt qs qn fn fs ft gh n u (xs (x3 + 1).toNatClampNeg) (xs (x3 + 2).toNatClampNeg) (xs (x3 + 3).toNatClampNeg) (xs (x3 + 4).toNatClampNeg) (xs (x3 + 5).toNatClampNeg) q41 h_q41) (cwV 5 hts gL_law_X9_pass rfl rfl rfl (by decide +kernel) ⟨Nat.le_of_ble_eq_true rfl, Nat.le_of_ble_eq_true rfl⟩) hP hD hS [0] [1] rfl rfl rfl rfl rfl rfl hl.1 rfl (Nat.le_of_ble_eq_true rfl) dL_law_759 ⟨Nat.le_of_ble_eq_true rfl, Nat.le_of_ble_eq_true rfl⟩ (fun H locs hP hD hS => ?_)
        have hP : va_P E.1 vwCl (bl [HL_c E o qh qr qt qs qn fn fs ft gh q41.2, Md_c E o2 qa2 qb2 qc2 qd2 qe2 qf2 qg2 u2]) H := hP
        have hD : va_D A (bl [HL_c E o qh qr qt qs qn fn fs ft gh q41.2, Md_c E o2 qa2 qb2 qc2 qd2 qe2 qf2 qg2 u2]) := hD
        refine W.eq (g2 := F0 m 762 ls [.int q41.1]) rfl ?_
        refine lv_aload_n hx hb dL_law_762 rfl (lv_at hl 2 rfl) ?_
        refine lv_aload_n hx hb dL_law_763 rfl (lv_at hl 0 rfl) ?_
        refine lv_iload_n hx hb dL_law_764 rfl (lv_at hl 3 rfl) ?_
        refine lv_iconst (v := 1) hx hb dL_law_765 (by decide) ?_
        refine lv_iadd hx hb dL_law_766 ?_
        obtain ⟨hin, hF⟩ := chk_s hF
        refine va_sld hx hb hX hbl hbA hS hin dL_law_767 ?_
        refine lv_aload_n hx hb dL_law_768 rfl (lv_at hl 0 rfl) ?_
        refine lv_iload_n hx hb dL_law_769 rfl (lv_at hl 3 rfl) ?_
        refine lv_iconst (v := 2) hx hb dL_law_770 (by decide) ?_
        refine lv_iadd hx hb dL_law_771 ?_
        obtain ⟨hin, hF⟩ := chk_s hF
        refine va_sld hx hb hX hbl hbA hS hin dL_law_772 ?_
        refine lv_aload_n hx hb dL_law_773 rfl (lv_at hl 0 rfl) ?_
        refine lv_iload_n hx hb dL_law_774 rfl (lv_at hl 3 rfl) ?_
        refine lv_iconst (v := 3) hx hb dL_law_775 (by decide) ?_
        refine lv_iadd hx hb dL_law_776 ?_
        obtain ⟨hin, hF⟩ := chk_s hF
        refine va_sld hx hb hX hbl hbA hS hin dL_law_777 ?_
        refine lv_aload_n hx hb dL_law_778 rfl (lv_at hl 0 rfl) ?_
        refine lv_iload_n hx hb dL_law_779 rfl (lv_at hl 3 rfl) ?_
        refine lv_iconst (v := 4) hx hb dL_law_780 (by decide) ?_
        refine lv_iadd hx hb dL_law_781 ?_
        obtain ⟨hin, hF⟩ := chk_s hF
        refine va_sld hx hb hX hbl hbA hS hin dL_law_782 ?_
        refine lv_aload_n hx hb dL_law_783 rfl (lv_at hl 0 rfl) ?_
        refine lv_iload_n hx hb dL_law_784 rfl (lv_at hl 3 rfl) ?_
        refine lv_iconst (v := 5) hx hb dL_law_785 (by decide) ?_
        refine lv_iadd hx hb dL_law_786 ?_
        obtain ⟨hin, hF⟩ := chk_s hF
        refine va_sld hx hb hX hbl hbA hS hin dL_law_787 ?_
        obtain ⟨q42, h_q42, hF⟩ := bnd_s hF
        refine g_callV (As := [.int (xs (x3 + 1).toNatClampNeg), .int (xs (x3 + 2).toNatClampNeg), .int (xs (x3 + 3).toNatClampNeg), .int (xs (x3 + 4).toNatClampNeg), .int (xs (x3 + 5).toNatClampNeg)]) (rest := [.int q41.1]) ⟨hx, hb, hml, hown, hts⟩ hK hZ hA (c_X10_pass l E o2 qa2 qb2 qc2 qd2 qe2 qf2 qg2 n u2 (xs (x3 + 1).toNatClampNeg) (xs (x3 + 2).toNatClampNeg) (xs (x3 + 3).toNatClampNeg) (xs (x3 + 4).toNatClampNeg) (xs (x3 + 5).toNatClampNeg) q42 h_q42) (cwV 5 hts gL_law_X10_pass rfl rfl rfl (by decide +kernel) ⟨Nat.le_of_ble_eq_true rfl, Nat.le_of_ble_eq_true rfl⟩) hP hD hS [1] [0] rfl rfl rfl rfl rfl rfl hl.1 rfl (Nat.le_of_ble_eq_true rfl) dL_law_788 ⟨Nat.le_of_ble_eq_true rfl, Nat.le_of_ble_eq_true rfl⟩ (fun H locs hP hD hS => ?_)
        have hP : va_P E.1 vwCl (bl [Md_c E o2 qa2 qb2 qc2 qd2 qe2 qf2 qg2 q42.2, HL_c E o qh qr qt qs qn fn fs ft gh q41.2]) H := hP
        have hD : va_D A (bl [Md_c E o2 qa2 qb2 qc2 qd2 qe2 qf2 qg2 q42.2, HL_c E o qh qr qt qs qn fn fs ft gh q41.2]) := hD
        refine W.eq (g2 := F0 m 791 ls [.int q42.1, .int q41.1]) rfl ?_
        refine f_icmp_eq (tgt := 986) hx hb dL_law_791 (by decide) hF (fun hF => ?_) (fun hF => ?_)
        · refine lv_iinc (v := (x3 + 6)) (lv' := [(3, .int (x3 + 6)), (0, .ref b), (1, .ref o), (2, .ref o2)]) hx hb dL_law_986 hl (k := 3) rfl rfl (by decide) rfl (fun ls hl => ?_)
          refine lv_goto (tgt := 18) hx hb dL_law_989 (by decide) ?_
          exact ih q41.2 q42.2 (x3 + 6) _ _ (bl_P hP [1, 0] rfl) (bl_D hD [1, 0] rfl rfl) hS _ (lv_sub hl [1, 2, 3, 0] rfl) hF
        · refine lv_iconst (v := 0) hx hb dL_law_794 (by decide) ?_
          cases hF
      refine f_ite hF (fun q21_ hF => ?_) (fun q21_ hF => ?_)
      · rw [q21_]
        refine lv_tableIn (tgt := 796) hx hb dL_law_33 (by decide) (by decide) rfl (by decide) ?_
        refine lv_aload_n hx hb dL_law_796 rfl (lv_at hl 1 rfl) ?_
        refine lv_aload_n hx hb dL_law_797 rfl (lv_at hl 0 rfl) ?_
        refine lv_iload_n hx hb dL_law_798 rfl (lv_at hl 3 rfl) ?_
        refine lv_iconst (v := 1) hx hb dL_law_799 (by decide) ?_
        refine lv_iadd hx hb dL_law_800 ?_
        obtain ⟨hin, hF⟩ := chk_s hF
        refine va_sld hx hb hX hbl hbA hS hin dL_law_801 ?_
        refine lv_aload_n hx hb dL_law_802 rfl (lv_at hl 0 rfl) ?_
        refine lv_iload_n hx hb dL_law_803 rfl (lv_at hl 3 rfl) ?_
        refine lv_iconst (v := 2) hx hb dL_law_804 (by decide) ?_
        refine lv_iadd hx hb dL_law_805 ?_
        obtain ⟨hin, hF⟩ := chk_s hF
        refine va_sld hx hb hX hbl hbA hS hin dL_law_806 ?_
        obtain ⟨q43, h_q43, hF⟩ := bnd_s hF
        refine g_callV (As := [.int (xs (x3 + 1).toNatClampNeg), .int (xs (x3 + 2).toNatClampNeg)]) (rest := []) ⟨hx, hb, hml, hown, hts⟩ hK hZ hA (c_X9_entry l E o qh qr qt qs qn fn fs ft gh u (xs (x3 + 1).toNatClampNeg) (xs (x3 + 2).toNatClampNeg) q43 h_q43) (cwV 2 hts gL_law_X9_entry rfl rfl rfl (by decide +kernel) ⟨Nat.le_of_ble_eq_true rfl, Nat.le_of_ble_eq_true rfl⟩) hP hD hS [0] [1] rfl rfl rfl rfl rfl rfl hl.1 rfl (Nat.le_of_ble_eq_true rfl) dL_law_807 ⟨Nat.le_of_ble_eq_true rfl, Nat.le_of_ble_eq_true rfl⟩ (fun H locs hP hD hS => ?_)
        have hP : va_P E.1 vwCl (bl [HL_c E o qh qr qt qs qn fn fs ft gh u, Md_c E o2 qa2 qb2 qc2 qd2 qe2 qf2 qg2 u2]) H := hP
        have hD : va_D A (bl [HL_c E o qh qr qt qs qn fn fs ft gh u, Md_c E o2 qa2 qb2 qc2 qd2 qe2 qf2 qg2 u2]) := hD
        refine W.eq (g2 := F0 m 810 ls [.int q43]) rfl ?_
        refine lv_aload_n hx hb dL_law_810 rfl (lv_at hl 2 rfl) ?_
        refine lv_aload_n hx hb dL_law_811 rfl (lv_at hl 0 rfl) ?_
        refine lv_iload_n hx hb dL_law_812 rfl (lv_at hl 3 rfl) ?_
        refine lv_iconst (v := 1) hx hb dL_law_813 (by decide) ?_
        refine lv_iadd hx hb dL_law_814 ?_
        obtain ⟨hin, hF⟩ := chk_s hF
        refine va_sld hx hb hX hbl hbA hS hin dL_law_815 ?_
        refine lv_aload_n hx hb dL_law_816 rfl (lv_at hl 0 rfl) ?_
        refine lv_iload_n hx hb dL_law_817 rfl (lv_at hl 3 rfl) ?_
        refine lv_iconst (v := 2) hx hb dL_law_818 (by decide) ?_
        refine lv_iadd hx hb dL_law_819 ?_
        obtain ⟨hin, hF⟩ := chk_s hF
        refine va_sld hx hb hX hbl hbA hS hin dL_law_820 ?_
        obtain ⟨q44, h_q44, hF⟩ := bnd_s hF
        refine g_callV (As := [.int (xs (x3 + 1).toNatClampNeg), .int (xs (x3 + 2).toNatClampNeg)]) (rest := [.int q43]) ⟨hx, hb, hml, hown, hts⟩ hK hZ hA (c_X10_entry l E o2 qa2 qb2 qc2 qd2 qe2 qf2 qg2 u2 (xs (x3 + 1).toNatClampNeg) (xs (x3 + 2).toNatClampNeg) q44 h_q44) (cwV 2 hts gL_law_X10_entry rfl rfl rfl (by decide +kernel) ⟨Nat.le_of_ble_eq_true rfl, Nat.le_of_ble_eq_true rfl⟩) hP hD hS [1] [0] rfl rfl rfl rfl rfl rfl hl.1 rfl (Nat.le_of_ble_eq_true rfl) dL_law_821 ⟨Nat.le_of_ble_eq_true rfl, Nat.le_of_ble_eq_true rfl⟩ (fun H locs hP hD hS => ?_)
        have hP : va_P E.1 vwCl (bl [Md_c E o2 qa2 qb2 qc2 qd2 qe2 qf2 qg2 u2, HL_c E o qh qr qt qs qn fn fs ft gh u]) H := hP
        have hD : va_D A (bl [Md_c E o2 qa2 qb2 qc2 qd2 qe2 qf2 qg2 u2, HL_c E o qh qr qt qs qn fn fs ft gh u]) := hD
        refine W.eq (g2 := F0 m 824 ls [.int q44, .int q43]) rfl ?_
        refine f_icmp_eq (tgt := 986) hx hb dL_law_824 (by decide) hF (fun hF => ?_) (fun hF => ?_)
        · refine lv_iinc (v := (x3 + 6)) (lv' := [(3, .int (x3 + 6)), (0, .ref b), (1, .ref o), (2, .ref o2)]) hx hb dL_law_986 hl (k := 3) rfl rfl (by decide) rfl (fun ls hl => ?_)
          refine lv_goto (tgt := 18) hx hb dL_law_989 (by decide) ?_
          exact ih u u2 (x3 + 6) _ _ (bl_P hP [1, 0] rfl) (bl_D hD [1, 0] rfl rfl) hS _ (lv_sub hl [1, 2, 3, 0] rfl) hF
        · refine lv_iconst (v := 0) hx hb dL_law_827 (by decide) ?_
          cases hF
      refine f_ite hF (fun q22_ hF => ?_) (fun q22_ hF => ?_)
      · rw [q22_]
        refine lv_tableIn (tgt := 829) hx hb dL_law_33 (by decide) (by decide) rfl (by decide) ?_
        refine lv_aload_n hx hb dL_law_829 rfl (lv_at hl 1 rfl) ?_
        refine lv_aload_n hx hb dL_law_830 rfl (lv_at hl 0 rfl) ?_
        refine lv_iload_n hx hb dL_law_831 rfl (lv_at hl 3 rfl) ?_
        refine lv_iconst (v := 1) hx hb dL_law_832 (by decide) ?_
        refine lv_iadd hx hb dL_law_833 ?_
        obtain ⟨hin, hF⟩ := chk_s hF
        refine va_sld hx hb hX hbl hbA hS hin dL_law_834 ?_
        obtain ⟨q45, h_q45, hF⟩ := bnd_s hF
        refine g_callV (As := [.int (xs (x3 + 1).toNatClampNeg)]) (rest := []) ⟨hx, hb, hml, hown, hts⟩ hK hZ hA (c_X9_seen l E o qh qr qt qs qn fn fs ft gh u (xs (x3 + 1).toNatClampNeg) q45 h_q45) (cwV 1 hts gL_law_X9_seen rfl rfl rfl (by decide +kernel) ⟨Nat.le_of_ble_eq_true rfl, Nat.le_of_ble_eq_true rfl⟩) hP hD hS [0] [1] rfl rfl rfl rfl rfl rfl hl.1 rfl (Nat.le_of_ble_eq_true rfl) dL_law_835 ⟨Nat.le_of_ble_eq_true rfl, Nat.le_of_ble_eq_true rfl⟩ (fun H locs hP hD hS => ?_)
        have hP : va_P E.1 vwCl (bl [HL_c E o qh qr qt qs qn fn fs ft gh u, Md_c E o2 qa2 qb2 qc2 qd2 qe2 qf2 qg2 u2]) H := hP
        have hD : va_D A (bl [HL_c E o qh qr qt qs qn fn fs ft gh u, Md_c E o2 qa2 qb2 qc2 qd2 qe2 qf2 qg2 u2]) := hD
        refine W.eq (g2 := F0 m 838 ls [.int q45]) rfl ?_
        refine lv_aload_n hx hb dL_law_838 rfl (lv_at hl 2 rfl) ?_
        refine lv_aload_n hx hb dL_law_839 rfl (lv_at hl 0 rfl) ?_
        refine lv_iload_n hx hb dL_law_840 rfl (lv_at hl 3 rfl) ?_
        refine lv_iconst (v := 1) hx hb dL_law_841 (by decide) ?_
        refine lv_iadd hx hb dL_law_842 ?_
        obtain ⟨hin, hF⟩ := chk_s hF
        refine va_sld hx hb hX hbl hbA hS hin dL_law_843 ?_
        obtain ⟨q46, h_q46, hF⟩ := bnd_s hF
        refine g_callV (As := [.int (xs (x3 + 1).toNatClampNeg)]) (rest := [.int q45]) ⟨hx, hb, hml, hown, hts⟩ hK hZ hA (c_X10_seen l E o2 qa2 qb2 qc2 qd2 qe2 qf2 qg2 u2 (xs (x3 + 1).toNatClampNeg) q46 h_q46) (cwV 1 hts gL_law_X10_seen rfl rfl rfl (by decide +kernel) ⟨Nat.le_of_ble_eq_true rfl, Nat.le_of_ble_eq_true rfl⟩) hP hD hS [1] [0] rfl rfl rfl rfl rfl rfl hl.1 rfl (Nat.le_of_ble_eq_true rfl) dL_law_844 ⟨Nat.le_of_ble_eq_true rfl, Nat.le_of_ble_eq_true rfl⟩ (fun H locs hP hD hS => ?_)
        have hP : va_P E.1 vwCl (bl [Md_c E o2 qa2 qb2 qc2 qd2 qe2 qf2 qg2 u2, HL_c E o qh qr qt qs qn fn fs ft gh u]) H := hP
        have hD : va_D A (bl [Md_c E o2 qa2 qb2 qc2 qd2 qe2 qf2 qg2 u2, HL_c E o qh qr qt qs qn fn fs ft gh u]) := hD
        refine W.eq (g2 := F0 m 847 ls [.int q46, .int q45]) rfl ?_
        refine f_icmp_eq (tgt := 986) hx hb dL_law_847 (by decide) hF (fun hF => ?_) (fun hF => ?_)
        · refine lv_iinc (v := (x3 + 6)) (lv' := [(3, .int (x3 + 6)), (0, .ref b), (1, .ref o), (2, .ref o2)]) hx hb dL_law_986 hl (k := 3) rfl rfl (by decide) rfl (fun ls hl => ?_)
          refine lv_goto (tgt := 18) hx hb dL_law_989 (by decide) ?_
          exact ih u u2 (x3 + 6) _ _ (bl_P hP [1, 0] rfl) (bl_D hD [1, 0] rfl rfl) hS _ (lv_sub hl [1, 2, 3, 0] rfl) hF
        · refine lv_iconst (v := 0) hx hb dL_law_850 (by decide) ?_
          cases hF
      refine f_ite hF (fun q23_ hF => ?_) (fun q23_ hF => ?_)
      · rw [q23_]
        refine lv_tableIn (tgt := 852) hx hb dL_law_33 (by decide) (by decide) rfl (by decide) ?_
        refine lv_aload_n hx hb dL_law_852 rfl (lv_at hl 1 rfl) ?_
        obtain ⟨q47, h_q47, hF⟩ := bnd_s hF
        refine g_callV (As := []) (rest := []) ⟨hx, hb, hml, hown, hts⟩ hK hZ hA (c_X9_store l E o qh qr qt qs qn fn fs ft gh u q47 h_q47) (cwV 0 hts gL_law_X9_store rfl rfl rfl (by decide +kernel) ⟨Nat.le_of_ble_eq_true rfl, Nat.le_of_ble_eq_true rfl⟩) hP hD hS [0] [1] rfl rfl rfl rfl rfl rfl hl.1 rfl (Nat.le_of_ble_eq_true rfl) dL_law_853 ⟨Nat.le_of_ble_eq_true rfl, Nat.le_of_ble_eq_true rfl⟩ (fun H locs hP hD hS => ?_)
        have hP : va_P E.1 vwCl (bl [HL_c E o qh qr qt qs qn fn fs ft gh q47.2, Md_c E o2 qa2 qb2 qc2 qd2 qe2 qf2 qg2 u2]) H := hP
        have hD : va_D A (bl [HL_c E o qh qr qt qs qn fn fs ft gh q47.2, Md_c E o2 qa2 qb2 qc2 qd2 qe2 qf2 qg2 u2]) := hD
        refine W.eq (g2 := F0 m 856 ls [.int q47.1]) rfl ?_
        refine lv_aload_n hx hb dL_law_856 rfl (lv_at hl 2 rfl) ?_
        obtain ⟨q48, h_q48, hF⟩ := bnd_s hF
        refine g_callV (As := []) (rest := [.int q47.1]) ⟨hx, hb, hml, hown, hts⟩ hK hZ hA (c_X10_store l E o2 qa2 qb2 qc2 qd2 qe2 qf2 qg2 n u2 q48 h_q48) (cwV 0 hts gL_law_X10_store rfl rfl rfl (by decide +kernel) ⟨Nat.le_of_ble_eq_true rfl, Nat.le_of_ble_eq_true rfl⟩) hP hD hS [1] [0] rfl rfl rfl rfl rfl rfl hl.1 rfl (Nat.le_of_ble_eq_true rfl) dL_law_857 ⟨Nat.le_of_ble_eq_true rfl, Nat.le_of_ble_eq_true rfl⟩ (fun H locs hP hD hS => ?_)
        have hP : va_P E.1 vwCl (bl [Md_c E o2 qa2 qb2 qc2 qd2 qe2 qf2 qg2 q48.2, HL_c E o qh qr qt qs qn fn fs ft gh q47.2]) H := hP
        have hD : va_D A (bl [Md_c E o2 qa2 qb2 qc2 qd2 qe2 qf2 qg2 q48.2, HL_c E o qh qr qt qs qn fn fs ft gh q47.2]) := hD
        refine W.eq (g2 := F0 m 860 ls [.int q48.1, .int q47.1]) rfl ?_
        refine f_icmp_eq (tgt := 986) hx hb dL_law_860 (by decide) hF (fun hF => ?_) (fun hF => ?_)
        · refine lv_iinc (v := (x3 + 6)) (lv' := [(3, .int (x3 + 6)), (0, .ref b), (1, .ref o), (2, .ref o2)]) hx hb dL_law_986 hl (k := 3) rfl rfl (by decide) rfl (fun ls hl => ?_)
          refine lv_goto (tgt := 18) hx hb dL_law_989 (by decide) ?_
          exact ih q47.2 q48.2 (x3 + 6) _ _ (bl_P hP [1, 0] rfl) (bl_D hD [1, 0] rfl rfl) hS _ (lv_sub hl [1, 2, 3, 0] rfl) hF
        · refine lv_iconst (v := 0) hx hb dL_law_863 (by decide) ?_
          cases hF
      refine f_ite hF (fun q24_ hF => ?_) (fun q24_ hF => ?_)
      · rw [q24_]
        refine lv_tableIn (tgt := 865) hx hb dL_law_33 (by decide) (by decide) rfl (by decide) ?_
        refine lv_aload_n hx hb dL_law_865 rfl (lv_at hl 1 rfl) ?_
        obtain ⟨q49, h_q49, hF⟩ := bnd_s hF
        refine g_callV (As := []) (rest := []) ⟨hx, hb, hml, hown, hts⟩ hK hZ hA (c_X9_recall l E o qh qr qt qs qn fn fs ft gh u q49 h_q49) (cwV 0 hts gL_law_X9_recall rfl rfl rfl (by decide +kernel) ⟨Nat.le_of_ble_eq_true rfl, Nat.le_of_ble_eq_true rfl⟩) hP hD hS [0] [1] rfl rfl rfl rfl rfl rfl hl.1 rfl (Nat.le_of_ble_eq_true rfl) dL_law_866 ⟨Nat.le_of_ble_eq_true rfl, Nat.le_of_ble_eq_true rfl⟩ (fun H locs hP hD hS => ?_)
        have hP : va_P E.1 vwCl (bl [HL_c E o qh qr qt qs qn fn fs ft gh q49.2, Md_c E o2 qa2 qb2 qc2 qd2 qe2 qf2 qg2 u2]) H := hP
        have hD : va_D A (bl [HL_c E o qh qr qt qs qn fn fs ft gh q49.2, Md_c E o2 qa2 qb2 qc2 qd2 qe2 qf2 qg2 u2]) := hD
        refine W.eq (g2 := F0 m 869 ls [.int q49.1]) rfl ?_
        refine lv_aload_n hx hb dL_law_869 rfl (lv_at hl 2 rfl) ?_
        obtain ⟨q50, h_q50, hF⟩ := bnd_s hF
        refine g_callV (As := []) (rest := [.int q49.1]) ⟨hx, hb, hml, hown, hts⟩ hK hZ hA (c_X10_recall l E o2 qa2 qb2 qc2 qd2 qe2 qf2 qg2 n u2 q50 h_q50) (cwV 0 hts gL_law_X10_recall rfl rfl rfl (by decide +kernel) ⟨Nat.le_of_ble_eq_true rfl, Nat.le_of_ble_eq_true rfl⟩) hP hD hS [1] [0] rfl rfl rfl rfl rfl rfl hl.1 rfl (Nat.le_of_ble_eq_true rfl) dL_law_870 ⟨Nat.le_of_ble_eq_true rfl, Nat.le_of_ble_eq_true rfl⟩ (fun H locs hP hD hS => ?_)
        have hP : va_P E.1 vwCl (bl [Md_c E o2 qa2 qb2 qc2 qd2 qe2 qf2 qg2 q50.2, HL_c E o qh qr qt qs qn fn fs ft gh q49.2]) H := hP
        have hD : va_D A (bl [Md_c E o2 qa2 qb2 qc2 qd2 qe2 qf2 qg2 q50.2, HL_c E o qh qr qt qs qn fn fs ft gh q49.2]) := hD
        refine W.eq (g2 := F0 m 873 ls [.int q50.1, .int q49.1]) rfl ?_
        refine f_icmp_eq (tgt := 986) hx hb dL_law_873 (by decide) hF (fun hF => ?_) (fun hF => ?_)
        · refine lv_iinc (v := (x3 + 6)) (lv' := [(3, .int (x3 + 6)), (0, .ref b), (1, .ref o), (2, .ref o2)]) hx hb dL_law_986 hl (k := 3) rfl rfl (by decide) rfl (fun ls hl => ?_)
          refine lv_goto (tgt := 18) hx hb dL_law_989 (by decide) ?_
          exact ih q49.2 q50.2 (x3 + 6) _ _ (bl_P hP [1, 0] rfl) (bl_D hD [1, 0] rfl rfl) hS _ (lv_sub hl [1, 2, 3, 0] rfl) hF
        · refine lv_iconst (v := 0) hx hb dL_law_876 (by decide) ?_
          cases hF
      refine f_ite hF (fun q25_ hF => ?_) (fun q25_ hF => ?_)
      · rw [q25_]
        refine lv_tableIn (tgt := 878) hx hb dL_law_33 (by decide) (by decide) rfl (by decide) ?_
        refine lv_aload_n hx hb dL_law_878 rfl (lv_at hl 1 rfl) ?_
        refine lv_aload_n hx hb dL_law_879 rfl (lv_at hl 0 rfl) ?_
        refine lv_iload_n hx hb dL_law_880 rfl (lv_at hl 3 rfl) ?_
        refine lv_iconst (v := 1) hx hb dL_law_881 (by decide) ?_
        refine lv_iadd hx hb dL_law_882 ?_
        obtain ⟨hin, hF⟩ := chk_s hF
        refine va_sld hx hb hX hbl hbA hS hin dL_law_883 ?_
        obtain ⟨q51, h_q51, hF⟩ := bnd_s hF
        refine g_callV (As := [.int (xs (x3 + 1).toNatClampNeg)]) (rest := []) ⟨hx, hb, hml, hown, hts⟩ hK hZ hA (c_X9_compare l E o qh qr qt qs qn fn fs ft gh n u (xs (x3 + 1).toNatClampNeg) q51 h_q51) (cwV 1 hts gL_law_X9_compare rfl rfl rfl (by decide +kernel) ⟨Nat.le_of_ble_eq_true rfl, Nat.le_of_ble_eq_true rfl⟩) hP hD hS [0] [1] rfl rfl rfl rfl rfl rfl hl.1 rfl (Nat.le_of_ble_eq_true rfl) dL_law_884 ⟨Nat.le_of_ble_eq_true rfl, Nat.le_of_ble_eq_true rfl⟩ (fun H locs hP hD hS => ?_)
        have hP : va_P E.1 vwCl (bl [HL_c E o qh qr qt qs qn fn fs ft gh u, Md_c E o2 qa2 qb2 qc2 qd2 qe2 qf2 qg2 u2]) H := hP
        have hD : va_D A (bl [HL_c E o qh qr qt qs qn fn fs ft gh u, Md_c E o2 qa2 qb2 qc2 qd2 qe2 qf2 qg2 u2]) := hD
        refine W.eq (g2 := F0 m 887 ls [.int q51]) rfl ?_
        refine lv_aload_n hx hb dL_law_887 rfl (lv_at hl 2 rfl) ?_
        refine lv_aload_n hx hb dL_law_888 rfl (lv_at hl 0 rfl) ?_
        refine lv_iload_n hx hb dL_law_889 rfl (lv_at hl 3 rfl) ?_
        refine lv_iconst (v := 1) hx hb dL_law_890 (by decide) ?_
        refine lv_iadd hx hb dL_law_891 ?_
        obtain ⟨hin, hF⟩ := chk_s hF
        refine va_sld hx hb hX hbl hbA hS hin dL_law_892 ?_
        obtain ⟨q52, h_q52, hF⟩ := bnd_s hF
        refine g_callV (As := [.int (xs (x3 + 1).toNatClampNeg)]) (rest := [.int q51]) ⟨hx, hb, hml, hown, hts⟩ hK hZ hA (c_X10_compare l E o2 qa2 qb2 qc2 qd2 qe2 qf2 qg2 n u2 (xs (x3 + 1).toNatClampNeg) q52 h_q52) (cwV 1 hts gL_law_X10_compare rfl rfl rfl (by decide +kernel) ⟨Nat.le_of_ble_eq_true rfl, Nat.le_of_ble_eq_true rfl⟩) hP hD hS [1] [0] rfl rfl rfl rfl rfl rfl hl.1 rfl (Nat.le_of_ble_eq_true rfl) dL_law_893 ⟨Nat.le_of_ble_eq_true rfl, Nat.le_of_ble_eq_true rfl⟩ (fun H locs hP hD hS => ?_)
        have hP : va_P E.1 vwCl (bl [Md_c E o2 qa2 qb2 qc2 qd2 qe2 qf2 qg2 u2, HL_c E o qh qr qt qs qn fn fs ft gh u]) H := hP
        have hD : va_D A (bl [Md_c E o2 qa2 qb2 qc2 qd2 qe2 qf2 qg2 u2, HL_c E o qh qr qt qs qn fn fs ft gh u]) := hD
        refine W.eq (g2 := F0 m 896 ls [.int q52, .int q51]) rfl ?_
        refine f_icmp_eq (tgt := 986) hx hb dL_law_896 (by decide) hF (fun hF => ?_) (fun hF => ?_)
        · refine lv_iinc (v := (x3 + 6)) (lv' := [(3, .int (x3 + 6)), (0, .ref b), (1, .ref o), (2, .ref o2)]) hx hb dL_law_986 hl (k := 3) rfl rfl (by decide) rfl (fun ls hl => ?_)
          refine lv_goto (tgt := 18) hx hb dL_law_989 (by decide) ?_
          exact ih u u2 (x3 + 6) _ _ (bl_P hP [1, 0] rfl) (bl_D hD [1, 0] rfl rfl) hS _ (lv_sub hl [1, 2, 3, 0] rfl) hF
        · refine lv_iconst (v := 0) hx hb dL_law_899 (by decide) ?_
          cases hF
      refine f_ite hF (fun q26_ hF => ?_) (fun q26_ hF => ?_)
      · rw [q26_]
        refine lv_tableIn (tgt := 901) hx hb dL_law_33 (by decide) (by decide) rfl (by decide) ?_
        refine lv_aload_n hx hb dL_law_901 rfl (lv_at hl 1 rfl) ?_
        obtain ⟨q53, h_q53, hF⟩ := bnd_s hF
        refine g_callV (As := []) (rest := []) ⟨hx, hb, hml, hown, hts⟩ hK hZ hA (c_X9_undo l E o qh qr qt qs qn fn fs ft gh u q53 h_q53) (cwV 0 hts gL_law_X9_undo rfl rfl rfl (by decide +kernel) ⟨Nat.le_of_ble_eq_true rfl, Nat.le_of_ble_eq_true rfl⟩) hP hD hS [0] [1] rfl rfl rfl rfl rfl rfl hl.1 rfl (Nat.le_of_ble_eq_true rfl) dL_law_902 ⟨Nat.le_of_ble_eq_true rfl, Nat.le_of_ble_eq_true rfl⟩ (fun H locs hP hD hS => ?_)
        have hP : va_P E.1 vwCl (bl [HL_c E o qh qr qt qs qn fn fs ft gh q53.2, Md_c E o2 qa2 qb2 qc2 qd2 qe2 qf2 qg2 u2]) H := hP
        have hD : va_D A (bl [HL_c E o qh qr qt qs qn fn fs ft gh q53.2, Md_c E o2 qa2 qb2 qc2 qd2 qe2 qf2 qg2 u2]) := hD
        refine W.eq (g2 := F0 m 905 ls [.int q53.1]) rfl ?_
        refine lv_aload_n hx hb dL_law_905 rfl (lv_at hl 2 rfl) ?_
        obtain ⟨q54, h_q54, hF⟩ := bnd_s hF
        refine g_callV (As := []) (rest := [.int q53.1]) ⟨hx, hb, hml, hown, hts⟩ hK hZ hA (c_X10_undo l E o2 qa2 qb2 qc2 qd2 qe2 qf2 qg2 n u2 q54 h_q54) (cwV 0 hts gL_law_X10_undo rfl rfl rfl (by decide +kernel) ⟨Nat.le_of_ble_eq_true rfl, Nat.le_of_ble_eq_true rfl⟩) hP hD hS [1] [0] rfl rfl rfl rfl rfl rfl hl.1 rfl (Nat.le_of_ble_eq_true rfl) dL_law_906 ⟨Nat.le_of_ble_eq_true rfl, Nat.le_of_ble_eq_true rfl⟩ (fun H locs hP hD hS => ?_)
        have hP : va_P E.1 vwCl (bl [Md_c E o2 qa2 qb2 qc2 qd2 qe2 qf2 qg2 q54.2, HL_c E o qh qr qt qs qn fn fs ft gh q53.2]) H := hP
        have hD : va_D A (bl [Md_c E o2 qa2 qb2 qc2 qd2 qe2 qf2 qg2 q54.2, HL_c E o qh qr qt qs qn fn fs ft gh q53.2]) := hD
        refine W.eq (g2 := F0 m 909 ls [.int q54.1, .int q53.1]) rfl ?_
        refine f_icmp_eq (tgt := 986) hx hb dL_law_909 (by decide) hF (fun hF => ?_) (fun hF => ?_)
        · refine lv_iinc (v := (x3 + 6)) (lv' := [(3, .int (x3 + 6)), (0, .ref b), (1, .ref o), (2, .ref o2)]) hx hb dL_law_986 hl (k := 3) rfl rfl (by decide) rfl (fun ls hl => ?_)
          refine lv_goto (tgt := 18) hx hb dL_law_989 (by decide) ?_
          exact ih q53.2 q54.2 (x3 + 6) _ _ (bl_P hP [1, 0] rfl) (bl_D hD [1, 0] rfl rfl) hS _ (lv_sub hl [1, 2, 3, 0] rfl) hF
        · refine lv_iconst (v := 0) hx hb dL_law_912 (by decide) ?_
          cases hF
      refine f_ite hF (fun q27_ hF => ?_) (fun q27_ hF => ?_)
      · rw [q27_]
        refine lv_tableIn (tgt := 914) hx hb dL_law_33 (by decide) (by decide) rfl (by decide) ?_
        refine lv_aload_n hx hb dL_law_914 rfl (lv_at hl 1 rfl) ?_
        refine lv_aload_n hx hb dL_law_915 rfl (lv_at hl 0 rfl) ?_
        refine lv_iload_n hx hb dL_law_916 rfl (lv_at hl 3 rfl) ?_
        refine lv_iconst (v := 1) hx hb dL_law_917 (by decide) ?_
        refine lv_iadd hx hb dL_law_918 ?_
        obtain ⟨hin, hF⟩ := chk_s hF
        refine va_sld hx hb hX hbl hbA hS hin dL_law_919 ?_
        obtain ⟨q55, h_q55, hF⟩ := bnd_s hF
        refine g_callV (As := [.int (xs (x3 + 1).toNatClampNeg)]) (rest := []) ⟨hx, hb, hml, hown, hts⟩ hK hZ hA (c_X9_type l E o qh qr qt qs qn fn fs ft gh u (xs (x3 + 1).toNatClampNeg) q55 h_q55) (cwV 1 hts gL_law_X9_type rfl rfl rfl (by decide +kernel) ⟨Nat.le_of_ble_eq_true rfl, Nat.le_of_ble_eq_true rfl⟩) hP hD hS [0] [1] rfl rfl rfl rfl rfl rfl hl.1 rfl (Nat.le_of_ble_eq_true rfl) dL_law_920 ⟨Nat.le_of_ble_eq_true rfl, Nat.le_of_ble_eq_true rfl⟩ (fun H locs hP hD hS => ?_)
        have hP : va_P E.1 vwCl (bl [HL_c E o qh qr qt qs qn fn fs ft gh q55.2, Md_c E o2 qa2 qb2 qc2 qd2 qe2 qf2 qg2 u2]) H := hP
        have hD : va_D A (bl [HL_c E o qh qr qt qs qn fn fs ft gh q55.2, Md_c E o2 qa2 qb2 qc2 qd2 qe2 qf2 qg2 u2]) := hD
        refine W.eq (g2 := F0 m 923 ls [.int q55.1]) rfl ?_
        refine lv_aload_n hx hb dL_law_923 rfl (lv_at hl 2 rfl) ?_
        refine lv_aload_n hx hb dL_law_924 rfl (lv_at hl 0 rfl) ?_
        refine lv_iload_n hx hb dL_law_925 rfl (lv_at hl 3 rfl) ?_
        refine lv_iconst (v := 1) hx hb dL_law_926 (by decide) ?_
        refine lv_iadd hx hb dL_law_927 ?_
        obtain ⟨hin, hF⟩ := chk_s hF
        refine va_sld hx hb hX hbl hbA hS hin dL_law_928 ?_
        obtain ⟨q56, h_q56, hF⟩ := bnd_s hF
        refine g_callV (As := [.int (xs (x3 + 1).toNatClampNeg)]) (rest := [.int q55.1]) ⟨hx, hb, hml, hown, hts⟩ hK hZ hA (c_X10_type l E o2 qa2 qb2 qc2 qd2 qe2 qf2 qg2 u2 (xs (x3 + 1).toNatClampNeg) q56 h_q56) (cwV 1 hts gL_law_X10_type rfl rfl rfl (by decide +kernel) ⟨Nat.le_of_ble_eq_true rfl, Nat.le_of_ble_eq_true rfl⟩) hP hD hS [1] [0] rfl rfl rfl rfl rfl rfl hl.1 rfl (Nat.le_of_ble_eq_true rfl) dL_law_929 ⟨Nat.le_of_ble_eq_true rfl, Nat.le_of_ble_eq_true rfl⟩ (fun H locs hP hD hS => ?_)
        have hP : va_P E.1 vwCl (bl [Md_c E o2 qa2 qb2 qc2 qd2 qe2 qf2 qg2 q56.2, HL_c E o qh qr qt qs qn fn fs ft gh q55.2]) H := hP
        have hD : va_D A (bl [Md_c E o2 qa2 qb2 qc2 qd2 qe2 qf2 qg2 q56.2, HL_c E o qh qr qt qs qn fn fs ft gh q55.2]) := hD
        refine W.eq (g2 := F0 m 932 ls [.int q56.1, .int q55.1]) rfl ?_
        refine f_icmp_eq (tgt := 986) hx hb dL_law_932 (by decide) hF (fun hF => ?_) (fun hF => ?_)
        · refine lv_iinc (v := (x3 + 6)) (lv' := [(3, .int (x3 + 6)), (0, .ref b), (1, .ref o), (2, .ref o2)]) hx hb dL_law_986 hl (k := 3) rfl rfl (by decide) rfl (fun ls hl => ?_)
          refine lv_goto (tgt := 18) hx hb dL_law_989 (by decide) ?_
          exact ih q55.2 q56.2 (x3 + 6) _ _ (bl_P hP [1, 0] rfl) (bl_D hD [1, 0] rfl rfl) hS _ (lv_sub hl [1, 2, 3, 0] rfl) hF
        · refine lv_iconst (v := 0) hx hb dL_law_935 (by decide) ?_
          cases hF
      refine f_ite hF (fun q28_ hF => ?_) (fun q28_ hF => ?_)
      · rw [q28_]
        refine lv_tableIn (tgt := 937) hx hb dL_law_33 (by decide) (by decide) rfl (by decide) ?_
        refine lv_aload_n hx hb dL_law_937 rfl (lv_at hl 1 rfl) ?_
        obtain ⟨q57, h_q57, hF⟩ := bnd_s hF
        refine g_callV (As := []) (rest := []) ⟨hx, hb, hml, hown, hts⟩ hK hZ hA (c_X9_clearText l E o qh qr qt qs qn fn fs ft gh u q57 h_q57) (cwV 0 hts gL_law_X9_clearText rfl rfl rfl (by decide +kernel) ⟨Nat.le_of_ble_eq_true rfl, Nat.le_of_ble_eq_true rfl⟩) hP hD hS [0] [1] rfl rfl rfl rfl rfl rfl hl.1 rfl (Nat.le_of_ble_eq_true rfl) dL_law_938 ⟨Nat.le_of_ble_eq_true rfl, Nat.le_of_ble_eq_true rfl⟩ (fun H locs hP hD hS => ?_)
        have hP : va_P E.1 vwCl (bl [HL_c E o qh qr qt qs qn fn fs ft gh q57.2, Md_c E o2 qa2 qb2 qc2 qd2 qe2 qf2 qg2 u2]) H := hP
        have hD : va_D A (bl [HL_c E o qh qr qt qs qn fn fs ft gh q57.2, Md_c E o2 qa2 qb2 qc2 qd2 qe2 qf2 qg2 u2]) := hD
        refine W.eq (g2 := F0 m 941 ls [.int q57.1]) rfl ?_
        refine lv_aload_n hx hb dL_law_941 rfl (lv_at hl 2 rfl) ?_
        obtain ⟨q58, h_q58, hF⟩ := bnd_s hF
        refine g_callV (As := []) (rest := [.int q57.1]) ⟨hx, hb, hml, hown, hts⟩ hK hZ hA (c_X10_clearText l E o2 qa2 qb2 qc2 qd2 qe2 qf2 qg2 u2 q58 h_q58) (cwV 0 hts gL_law_X10_clearText rfl rfl rfl (by decide +kernel) ⟨Nat.le_of_ble_eq_true rfl, Nat.le_of_ble_eq_true rfl⟩) hP hD hS [1] [0] rfl rfl rfl rfl rfl rfl hl.1 rfl (Nat.le_of_ble_eq_true rfl) dL_law_942 ⟨Nat.le_of_ble_eq_true rfl, Nat.le_of_ble_eq_true rfl⟩ (fun H locs hP hD hS => ?_)
        have hP : va_P E.1 vwCl (bl [Md_c E o2 qa2 qb2 qc2 qd2 qe2 qf2 qg2 q58.2, HL_c E o qh qr qt qs qn fn fs ft gh q57.2]) H := hP
        have hD : va_D A (bl [Md_c E o2 qa2 qb2 qc2 qd2 qe2 qf2 qg2 q58.2, HL_c E o qh qr qt qs qn fn fs ft gh q57.2]) := hD
        refine W.eq (g2 := F0 m 945 ls [.int q58.1, .int q57.1]) rfl ?_
        refine f_icmp_eq (tgt := 986) hx hb dL_law_945 (by decide) hF (fun hF => ?_) (fun hF => ?_)
        · refine lv_iinc (v := (x3 + 6)) (lv' := [(3, .int (x3 + 6)), (0, .ref b), (1, .ref o), (2, .ref o2)]) hx hb dL_law_986 hl (k := 3) rfl rfl (by decide) rfl (fun ls hl => ?_)
          refine lv_goto (tgt := 18) hx hb dL_law_989 (by decide) ?_
          exact ih q57.2 q58.2 (x3 + 6) _ _ (bl_P hP [1, 0] rfl) (bl_D hD [1, 0] rfl rfl) hS _ (lv_sub hl [1, 2, 3, 0] rfl) hF
        · refine lv_iconst (v := 0) hx hb dL_law_948 (by decide) ?_
          cases hF
      refine f_ite hF (fun q29_ hF => ?_) (fun q29_ hF => ?_)
      · rw [q29_]
        refine lv_tableIn (tgt := 950) hx hb dL_law_33 (by decide) (by decide) rfl (by decide) ?_
        refine lv_aload_n hx hb dL_law_950 rfl (lv_at hl 1 rfl) ?_
        refine lv_aload_n hx hb dL_law_951 rfl (lv_at hl 0 rfl) ?_
        refine lv_iload_n hx hb dL_law_952 rfl (lv_at hl 3 rfl) ?_
        refine lv_iconst (v := 1) hx hb dL_law_953 (by decide) ?_
        refine lv_iadd hx hb dL_law_954 ?_
        obtain ⟨hin, hF⟩ := chk_s hF
        refine va_sld hx hb hX hbl hbA hS hin dL_law_955 ?_
        obtain ⟨q59, h_q59, hF⟩ := bnd_s hF
        refine g_callV (As := [.int (xs (x3 + 1).toNatClampNeg)]) (rest := []) ⟨hx, hb, hml, hown, hts⟩ hK hZ hA (c_X9_fault l E o qh qr qt qs qn fn fs ft gh n u (xs (x3 + 1).toNatClampNeg) q59 h_q59) (cwV 1 hts gL_law_X9_fault rfl rfl rfl (by decide +kernel) ⟨Nat.le_of_ble_eq_true rfl, Nat.le_of_ble_eq_true rfl⟩) hP hD hS [0] [1] rfl rfl rfl rfl rfl rfl hl.1 rfl (Nat.le_of_ble_eq_true rfl) dL_law_956 ⟨Nat.le_of_ble_eq_true rfl, Nat.le_of_ble_eq_true rfl⟩ (fun H locs hP hD hS => ?_)
        have hP : va_P E.1 vwCl (bl [HL_c E o qh qr qt qs qn fn fs ft gh q59.2, Md_c E o2 qa2 qb2 qc2 qd2 qe2 qf2 qg2 u2]) H := hP
        have hD : va_D A (bl [HL_c E o qh qr qt qs qn fn fs ft gh q59.2, Md_c E o2 qa2 qb2 qc2 qd2 qe2 qf2 qg2 u2]) := hD
        refine W.eq (g2 := F0 m 959 ls [.int q59.1]) rfl ?_
        refine lv_aload_n hx hb dL_law_959 rfl (lv_at hl 2 rfl) ?_
        refine lv_aload_n hx hb dL_law_960 rfl (lv_at hl 0 rfl) ?_
        refine lv_iload_n hx hb dL_law_961 rfl (lv_at hl 3 rfl) ?_
        refine lv_iconst (v := 1) hx hb dL_law_962 (by decide) ?_
        refine lv_iadd hx hb dL_law_963 ?_
        obtain ⟨hin, hF⟩ := chk_s hF
        refine va_sld hx hb hX hbl hbA hS hin dL_law_964 ?_
        obtain ⟨q60, h_q60, hF⟩ := bnd_s hF
        refine g_callV (As := [.int (xs (x3 + 1).toNatClampNeg)]) (rest := [.int q59.1]) ⟨hx, hb, hml, hown, hts⟩ hK hZ hA (c_X10_fault l E o2 qa2 qb2 qc2 qd2 qe2 qf2 qg2 n u2 (xs (x3 + 1).toNatClampNeg) q60 h_q60) (cwV 1 hts gL_law_X10_fault rfl rfl rfl (by decide +kernel) ⟨Nat.le_of_ble_eq_true rfl, Nat.le_of_ble_eq_true rfl⟩) hP hD hS [1] [0] rfl rfl rfl rfl rfl rfl hl.1 rfl (Nat.le_of_ble_eq_true rfl) dL_law_965 ⟨Nat.le_of_ble_eq_true rfl, Nat.le_of_ble_eq_true rfl⟩ (fun H locs hP hD hS => ?_)
        have hP : va_P E.1 vwCl (bl [Md_c E o2 qa2 qb2 qc2 qd2 qe2 qf2 qg2 q60.2, HL_c E o qh qr qt qs qn fn fs ft gh q59.2]) H := hP
        have hD : va_D A (bl [Md_c E o2 qa2 qb2 qc2 qd2 qe2 qf2 qg2 q60.2, HL_c E o qh qr qt qs qn fn fs ft gh q59.2]) := hD
        refine W.eq (g2 := F0 m 968 ls [.int q60.1, .int q59.1]) rfl ?_
        refine f_icmp_eq (tgt := 986) hx hb dL_law_968 (by decide) hF (fun hF => ?_) (fun hF => ?_)
        · refine lv_iinc (v := (x3 + 6)) (lv' := [(3, .int (x3 + 6)), (0, .ref b), (1, .ref o), (2, .ref o2)]) hx hb dL_law_986 hl (k := 3) rfl rfl (by decide) rfl (fun ls hl => ?_)
          refine lv_goto (tgt := 18) hx hb dL_law_989 (by decide) ?_
          exact ih q59.2 q60.2 (x3 + 6) _ _ (bl_P hP [1, 0] rfl) (bl_D hD [1, 0] rfl rfl) hS _ (lv_sub hl [1, 2, 3, 0] rfl) hF
        · refine lv_iconst (v := 0) hx hb dL_law_971 (by decide) ?_
          cases hF
      refine f_ite hF (fun q30_ hF => ?_) (fun q30_ hF => ?_)
      · rw [q30_]
        refine lv_tableIn (tgt := 973) hx hb dL_law_33 (by decide) (by decide) rfl (by decide) ?_
        refine lv_aload_n hx hb dL_law_973 rfl (lv_at hl 1 rfl) ?_
        obtain ⟨q61, h_q61, hF⟩ := bnd_s hF
        refine g_callV (As := []) (rest := []) ⟨hx, hb, hml, hown, hts⟩ hK hZ hA (c_X9_load l E o qh qr qt qs qn fn fs ft gh n u q61 h_q61) (cwV 0 hts gL_law_X9_load rfl rfl rfl (by decide +kernel) ⟨Nat.le_of_ble_eq_true rfl, Nat.le_of_ble_eq_true rfl⟩) hP hD hS [0] [1] rfl rfl rfl rfl rfl rfl hl.1 rfl (Nat.le_of_ble_eq_true rfl) dL_law_974 ⟨Nat.le_of_ble_eq_true rfl, Nat.le_of_ble_eq_true rfl⟩ (fun H locs hP hD hS => ?_)
        have hP : va_P E.1 vwCl (bl [HL_c E o qh qr qt qs qn fn fs ft gh q61.2, Md_c E o2 qa2 qb2 qc2 qd2 qe2 qf2 qg2 u2]) H := hP
        have hD : va_D A (bl [HL_c E o qh qr qt qs qn fn fs ft gh q61.2, Md_c E o2 qa2 qb2 qc2 qd2 qe2 qf2 qg2 u2]) := hD
        refine W.eq (g2 := F0 m 977 ls [.int q61.1]) rfl ?_
        refine lv_aload_n hx hb dL_law_977 rfl (lv_at hl 2 rfl) ?_
        obtain ⟨q62, h_q62, hF⟩ := bnd_s hF
        refine g_callV (As := []) (rest := [.int q61.1]) ⟨hx, hb, hml, hown, hts⟩ hK hZ hA (c_X10_load l E o2 qa2 qb2 qc2 qd2 qe2 qf2 qg2 n u2 q62 h_q62) (cwV 0 hts gL_law_X10_load rfl rfl rfl (by decide +kernel) ⟨Nat.le_of_ble_eq_true rfl, Nat.le_of_ble_eq_true rfl⟩) hP hD hS [1] [0] rfl rfl rfl rfl rfl rfl hl.1 rfl (Nat.le_of_ble_eq_true rfl) dL_law_978 ⟨Nat.le_of_ble_eq_true rfl, Nat.le_of_ble_eq_true rfl⟩ (fun H locs hP hD hS => ?_)
        have hP : va_P E.1 vwCl (bl [Md_c E o2 qa2 qb2 qc2 qd2 qe2 qf2 qg2 q62.2, HL_c E o qh qr qt qs qn fn fs ft gh q61.2]) H := hP
        have hD : va_D A (bl [Md_c E o2 qa2 qb2 qc2 qd2 qe2 qf2 qg2 q62.2, HL_c E o qh qr qt qs qn fn fs ft gh q61.2]) := hD
        refine W.eq (g2 := F0 m 981 ls [.int q62.1, .int q61.1]) rfl ?_
        refine f_icmp_eq (tgt := 986) hx hb dL_law_981 (by decide) hF (fun hF => ?_) (fun hF => ?_)
        · refine lv_iinc (v := (x3 + 6)) (lv' := [(3, .int (x3 + 6)), (0, .ref b), (1, .ref o), (2, .ref o2)]) hx hb dL_law_986 hl (k := 3) rfl rfl (by decide) rfl (fun ls hl => ?_)
          refine lv_goto (tgt := 18) hx hb dL_law_989 (by decide) ?_
          exact ih q61.2 q62.2 (x3 + 6) _ _ (bl_P hP [1, 0] rfl) (bl_D hD [1, 0] rfl rfl) hS _ (lv_sub hl [1, 2, 3, 0] rfl) hF
        · refine lv_iconst (v := 0) hx hb dL_law_984 (by decide) ?_
          cases hF
      refine lv_tableOut (tgt := 986) hx hb dL_law_33 (by have t0_ := ne_toInt (z := 0) q0_ (by decide); have t1_ := ne_toInt (z := 1) q1_ (by decide); have t2_ := ne_toInt (z := 2) q2_ (by decide); have t3_ := ne_toInt (z := 3) q3_ (by decide); have t4_ := ne_toInt (z := 4) q4_ (by decide); have t5_ := ne_toInt (z := 5) q5_ (by decide); have t6_ := ne_toInt (z := 6) q6_ (by decide); have t7_ := ne_toInt (z := 7) q7_ (by decide); have t8_ := ne_toInt (z := 8) q8_ (by decide); have t9_ := ne_toInt (z := 9) q9_ (by decide); have t10_ := ne_toInt (z := 10) q10_ (by decide); have t11_ := ne_toInt (z := 11) q11_ (by decide); have t12_ := ne_toInt (z := 12) q12_ (by decide); have t13_ := ne_toInt (z := 13) q13_ (by decide); have t14_ := ne_toInt (z := 14) q14_ (by decide); have t15_ := ne_toInt (z := 15) q15_ (by decide); have t16_ := ne_toInt (z := 16) q16_ (by decide); have t17_ := ne_toInt (z := 17) q17_ (by decide); have t18_ := ne_toInt (z := 18) q18_ (by decide); have t19_ := ne_toInt (z := 19) q19_ (by decide); have t20_ := ne_toInt (z := 20) q20_ (by decide); have t21_ := ne_toInt (z := 21) q21_ (by decide); have t22_ := ne_toInt (z := 22) q22_ (by decide); have t23_ := ne_toInt (z := 23) q23_ (by decide); have t24_ := ne_toInt (z := 24) q24_ (by decide); have t25_ := ne_toInt (z := 25) q25_ (by decide); have t26_ := ne_toInt (z := 26) q26_ (by decide); have t27_ := ne_toInt (z := 27) q27_ (by decide); have t28_ := ne_toInt (z := 28) q28_ (by decide); have t29_ := ne_toInt (z := 29) q29_ (by decide); have t30_ := ne_toInt (z := 30) q30_ (by decide); omega) (by decide) ?_
      refine lv_iinc (v := (x3 + 6)) (lv' := [(3, .int (x3 + 6)), (0, .ref b), (1, .ref o), (2, .ref o2)]) hx hb dL_law_986 hl (k := 3) rfl rfl (by decide) rfl (fun ls hl => ?_)
      refine lv_goto (tgt := 18) hx hb dL_law_989 (by decide) ?_
      exact ih u u2 (x3 + 6) _ _ hP hD hS _ (lv_sub hl [1, 2, 3, 0] rfl) hF
