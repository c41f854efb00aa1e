-- the law's methods: printed by wip/p34/mkparts.py
def F_L_low (p0 : Int32) (p1 : Int32) : Option (Int32) := nzd p1 (some ((p0 &&& 2147483647) - (p0 &&& 2147483647) / p1 * p1))
set_option maxHeartbeats 4000000 in
set_option maxRecDepth 100000 in
theorem c_L_low (l : Launch) (E : GE)  (p0 : Int32) (p1 : Int32) (r : Int32) (hF : F_L_low p0 p1 = some r) : CT l E yL_low wsL_low ({ frames := 0, cells := 0, slots := 0, locals := 0 } : Room) [.int p0, .int p1] (bl []) (some (.int r)) (bl []) 0 0 := by
  refine CT.of (cc := cL_low) (maxL := 2) (ret := (some .int)) (by decide) rfl (Nat.le_of_ble_eq_true rfl) ?_
  intro p e s m args below meth cd A Q ls B hQ hP hD hS hl
  obtain ⟨hx, hb, hml, hown, hts, hr, hlocks, hK, hZ, hA, hnm⟩ := B
  have hown : s.vm.findClass RL = some m.cls := hown
  have hl : lv_has ls 2 [(0, .int p0), (1, .int p1)] := hl
  have w0 := hts (.constant RL 8 (2147483647)) (by decide +kernel)
  unfold F_L_low at hF
  refine lv_iload_n hx hb dL_low_0 rfl (lv_at hl 0 rfl) ?_
  refine lv_ldc (v := 2147483647) hx hb hown w0 dL_low_1 ?_
  refine lv_iand hx hb dL_low_3 ?_
  refine lv_iload_n hx hb dL_low_4 rfl (lv_at hl 1 rfl) ?_
  refine f_irem hx hb hF dL_low_5 (fun hF => ?_)
  exact g_iret (rvf := fun z => some (.int z)) (W1f := fun z => bl []) hx hb hr hlocks hQ hF rfl hP hD hS [] rfl rfl dL_low_6
def F_L_print_L155 (n : Nat) : Nat → HLV → Int64 → Int32 → Option (Int64 × HLV)
  | 0, _, _, _ => none
  | k + 1, u, x1, x3 => if 4 ≤ x3 then (F_X9_shareBits n u).bind fun q1 => (F_X9_rangeBits n u 2).bind fun q2 => (F_X9_untilIdle n u).bind fun q3 => some (((31 * ((31 * ((31 * x1) + q1)) + (q2.toInt64))) + (q3.1.toInt64)), q3.2) else (F_X9_entry u x3 x3).bind fun q4 => (F_X9_seen u x3).bind fun q5 => F_L_print_L155 n k u ((31 * ((31 * x1) + (q4.toInt64))) + (q5.toInt64)) (x3 + 1)
def F_L_print_L128 (n : Nat) : Nat → HLV → Int64 → Int32 → Option (Int64 × HLV)
  | 0, _, _, _ => none
  | k + 1, u, x1, x3 => if 9 ≤ x3 then F_L_print_L155 n n u x1 0 else (F_X9_count n u x3).bind fun q6 => F_L_print_L128 n k u ((31 * x1) + (q6.toInt64)) (x3 + 1)
def F_L_print_L59 (n : Nat) : Nat → HLV → Int64 → Int32 → Option (Int64 × HLV)
  | 0, _, _, _ => none
  | k + 1, u, x1, x3 => if 8 ≤ x3 then F_L_print_L128 n n u x1 0 else (F_X9_account u x3).bind fun q7 => if 6 ≤ x3 then F_L_print_L59 n k u ((31 * ((31 * x1) + (q7.toInt64))) + ((0 : Int32).toInt64)) (x3 + 1) else (F_X9_lamp u x3 3).bind fun q8 => (F_X9_lamp u x3 4).bind fun q9 => (F_X9_lamp u x3 1).bind fun q10 => F_L_print_L59 n k u ((31 * ((31 * x1) + (q7.toInt64))) + (((q8 + (7 * q9)) + (49 * q10)).toInt64)) (x3 + 1)
def F_L_print_L33 (n : Nat) : Nat → HLV → Int64 → Int32 → Option (Int64 × HLV)
  | 0, _, _, _ => none
  | k + 1, u, x1, x3 => if 5 ≤ x3 then F_L_print_L59 n n u x1 0 else (F_X9_code n u x3).bind fun q11 => F_L_print_L33 n k u ((31 * x1) + (q11.toInt64)) (x3 + 1)
def F_L_print_L6 (n : Nat) : Nat → HLV → Int64 → Int32 → Option (Int64 × HLV)
  | 0, _, _, _ => none
  | k + 1, u, x1, x3 => if 64 ≤ x3 then F_L_print_L33 n n u x1 0 else (F_X9_color u x3).bind fun q12 => F_L_print_L6 n k u ((31 * x1) + (q12.toInt64)) (x3 + 1)
def F_L_print (n : Nat) (v : HLV) : Option (Int64 × HLV) := F_L_print_L6 n n v 17 0
set_option maxHeartbeats 4000000 in
set_option maxRecDepth 100000 in
theorem c_L_print (l : Launch) (E : GE) (o : Nat) (qh : Nat) (qr : Nat) (qt : Nat) (qs : Nat) (qn : Nat) (fn : Nat → Nat) (fs : Nat → Nat) (ft : Nat → Nat) (gh : Nat → Nat → Nat) (n : Nat) (v : HLV) (r : Int64 × HLV) (hF : F_L_print n v = some r) : CT l E yL_print wsL_print ({ frames := 5, cells := 0, slots := 0, locals := 105 } : Room) [.ref o] (bl [HL_c E o qh qr qt qs qn fn fs ft gh v]) (some (.long r.1)) (bl [HL_c E o qh qr qt qs qn fn fs ft gh r.2]) 0 0 := by
  refine CT.of (cc := cL_print) (maxL := 4) (ret := (some .long)) (by decide) rfl (Nat.le_of_ble_eq_true rfl) ?_
  intro p e s m args below meth cd A Q ls B hQ hP hD hS hl
  obtain ⟨hx, hb, hml, hown, hts, hr, hlocks, hK, hZ, hA, hnm⟩ := B
  have hown : s.vm.findClass RL = some m.cls := hown
  have hl : lv_has ls 4 [(0, .ref o)] := hl
  have w0 := hts (.constantLong RL 9 (17)) (by decide +kernel)
  have w1 := hts (.constantLong RL 11 (31)) (by decide +kernel)
  have hL155 : ∀ (k : Nat) (u : HLV) (x1 : Int64) (x3 : Int32) (H : Heap) (locs : List Loc), va_P E.1 vwCl (bl [HL_c E o qh qr qt qs qn fn fs ft gh u]) H → va_D A (bl [HL_c E o qh qr qt qs qn fn fs ft gh u]) → va_S A s.heap H locs → ∀ ls : Array Slot, lv_has ls 4 [(0, .ref o), (1, .long x1), (3, .int x3)] → F_L_print_L155 n k u x1 x3 = some r → W p l e ({ frames := 5, cells := 0, slots := 0, locals := 105 } : Room) s m args below meth cd H locs 0 0 Q (F0 m 155 ls []) := by
    intro k
    induction k with
    | zero => intro u x1 x3 H locs hP hD hS ls hl hF; cases hF
    | succ k ih =>
      intro u x1 x3 H locs hP hD hS ls hl hF
      rw [F_L_print_L155] at hF
      refine lv_iload_n hx hb dL_print_155 rfl (lv_at hl 2 rfl) ?_
      refine lv_iconst (v := 4) hx hb dL_print_156 (by decide) ?_
      refine f_icmp_ge (tgt := 191) hx hb dL_print_157 (by decide) hF (fun hF => ?_) (fun hF => ?_)
      · refine lv_ldc2 (v := 31) hx hb hown w1 dL_print_191 ?_
        refine lv_ldc2 (v := 31) hx hb hown w1 dL_print_194 ?_
        refine lv_ldc2 (v := 31) hx hb hown w1 dL_print_197 ?_
        refine lv_lload_n hx hb dL_print_200 rfl (lv_at hl 1 rfl) ?_
        refine lv_lmul hx hb dL_print_201 ?_
        refine lv_aload_n hx hb dL_print_202 rfl (lv_at hl 0 rfl) ?_
        obtain ⟨q1, h_q1, hF⟩ := bnd_s hF
        refine g_callV (As := []) (rest := [.long (31 * x1), .long 31, .long 31]) ⟨hx, hb, hml, hown, hts⟩ hK hZ hA (c_X9_shareBits l E o qh qr qt qs qn fn fs ft gh n u q1 h_q1) (cwV 0 hts gL_print_X9_shareBits rfl rfl rfl (by decide +kernel) ⟨Nat.le_of_ble_eq_true rfl, Nat.le_of_ble_eq_true rfl⟩) hP hD hS [0] [] rfl rfl rfl rfl rfl rfl hl.1 rfl (Nat.le_of_ble_eq_true rfl) dL_print_203 ⟨Nat.le_of_ble_eq_true rfl, Nat.le_of_ble_eq_true rfl⟩ (fun H locs hP hD hS => ?_)
        have hP : va_P E.1 vwCl (bl [HL_c E o qh qr qt qs qn fn fs ft gh u]) H := hP
        have hD : va_D A (bl [HL_c E o qh qr qt qs qn fn fs ft gh u]) := hD
        refine W.eq (g2 := F0 m 206 ls [.long q1, .long (31 * x1), .long 31, .long 31]) rfl ?_
        refine lv_ladd hx hb dL_print_206 ?_
        refine lv_lmul hx hb dL_print_207 ?_
        refine lv_aload_n hx hb dL_print_208 rfl (lv_at hl 0 rfl) ?_
        refine lv_iconst (v := 2) hx hb dL_print_209 (by decide) ?_
        obtain ⟨q2, h_q2, hF⟩ := bnd_s hF
        refine g_callV (As := [.int 2]) (rest := [.long (31 * ((31 * x1) + q1)), .long 31]) ⟨hx, hb, hml, hown, hts⟩ hK hZ hA (c_X9_rangeBits l E o qh qr qt qs qn fn fs ft gh n u (2) q2 h_q2) (cwV 1 hts gL_print_X9_rangeBits rfl rfl rfl (by decide +kernel) ⟨Nat.le_of_ble_eq_true rfl, Nat.le_of_ble_eq_true rfl⟩) hP hD hS [0] [] rfl rfl rfl rfl rfl rfl hl.1 rfl (Nat.le_of_ble_eq_true rfl) dL_print_210 ⟨Nat.le_of_ble_eq_true rfl, Nat.le_of_ble_eq_true rfl⟩ (fun H locs hP hD hS => ?_)
        have hP : va_P E.1 vwCl (bl [HL_c E o qh qr qt qs qn fn fs ft gh u]) H := hP
        have hD : va_D A (bl [HL_c E o qh qr qt qs qn fn fs ft gh u]) := hD
        refine W.eq (g2 := F0 m 213 ls [.int q2, .long (31 * ((31 * x1) + q1)), .long 31]) rfl ?_
        refine lv_i2l (v := (q2.toInt64)) hx hb dL_print_213 rfl ?_
        refine lv_ladd hx hb dL_print_214 ?_
        refine lv_lmul hx hb dL_print_215 ?_
        refine lv_aload_n hx hb dL_print_216 rfl (lv_at hl 0 rfl) ?_
        obtain ⟨q3, h_q3, hF⟩ := bnd_s hF
        refine g_callV (As := []) (rest := [.long (31 * ((31 * ((31 * x1) + q1)) + (q2.toInt64)))]) ⟨hx, hb, hml, hown, hts⟩ hK hZ hA (c_X9_untilIdle l E o qh qr qt qs qn fn fs ft gh n u q3 h_q3) (cwV 0 hts gL_print_X9_untilIdle rfl rfl rfl (by decide +kernel) ⟨Nat.le_of_ble_eq_true rfl, Nat.le_of_ble_eq_true rfl⟩) hP hD hS [0] [] rfl rfl rfl rfl rfl rfl hl.1 rfl (Nat.le_of_ble_eq_true rfl) dL_print_217 ⟨Nat.le_of_ble_eq_true rfl, Nat.le_of_ble_eq_true rfl⟩ (fun H locs hP hD hS => ?_)
        have hP : va_P E.1 vwCl (bl [HL_c E o qh qr qt qs qn fn fs ft gh q3.2]) H := hP
        have hD : va_D A (bl [HL_c E o qh qr qt qs qn fn fs ft gh q3.2]) := hD
        refine W.eq (g2 := F0 m 220 ls [.int q3.1, .long (31 * ((31 * ((31 * x1) + q1)) + (q2.toInt64)))]) rfl ?_
        refine lv_i2l (v := (q3.1.toInt64)) hx hb dL_print_220 rfl ?_
        refine lv_ladd hx hb dL_print_221 ?_
        exact g_lret (rvf := fun z => some (.long z.1)) (W1f := fun z => bl [HL_c E o qh qr qt qs qn fn fs ft gh z.2]) hx hb hr hlocks hQ hF rfl hP hD hS [0] rfl rfl dL_print_222
      · refine lv_ldc2 (v := 31) hx hb hown w1 dL_print_160 ?_
        refine lv_ldc2 (v := 31) hx hb hown w1 dL_print_163 ?_
        refine lv_lload_n hx hb dL_print_166 rfl (lv_at hl 1 rfl) ?_
        refine lv_lmul hx hb dL_print_167 ?_
        refine lv_aload_n hx hb dL_print_168 rfl (lv_at hl 0 rfl) ?_
        refine lv_iload_n hx hb dL_print_169 rfl (lv_at hl 2 rfl) ?_
        refine lv_iload_n hx hb dL_print_170 rfl (lv_at hl 2 rfl) ?_
        obtain ⟨q4, h_q4, hF⟩ := bnd_s hF
        refine g_callV (As := [.int x3, .int x3]) (rest := [.long (31 * x1), .long 31]) ⟨hx, hb, hml, hown, hts⟩ hK hZ hA (c_X9_entry l E o qh qr qt qs qn fn fs ft gh u x3 x3 q4 h_q4) (cwV 2 hts gL_print_X9_entry rfl rfl rfl (by decide +kernel) ⟨Nat.le_of_ble_eq_true rfl, Nat.le_of_ble_eq_true rfl⟩) hP hD hS [0] [] rfl rfl rfl rfl rfl rfl hl.1 rfl (Nat.le_of_ble_eq_true rfl) dL_print_171 ⟨Nat.le_of_ble_eq_true rfl, Nat.le_of_ble_eq_true rfl⟩ (fun H locs hP hD hS => ?_)
        have hP : va_P E.1 vwCl (bl [HL_c E o qh qr qt qs qn fn fs ft gh u]) H := hP
        have hD : va_D A (bl [HL_c E o qh qr qt qs qn fn fs ft gh u]) := hD
        refine W.eq (g2 := F0 m 174 ls [.int q4, .long (31 * x1), .long 31]) rfl ?_
        refine lv_i2l (v := (q4.toInt64)) hx hb dL_print_174 rfl ?_
        refine lv_ladd hx hb dL_print_175 ?_
        refine lv_lmul hx hb dL_print_176 ?_
        refine lv_aload_n hx hb dL_print_177 rfl (lv_at hl 0 rfl) ?_
        refine lv_iload_n hx hb dL_print_178 rfl (lv_at hl 2 rfl) ?_
        obtain ⟨q5, h_q5, hF⟩ := bnd_s hF
        refine g_callV (As := [.int x3]) (rest := [.long (31 * ((31 * x1) + (q4.toInt64)))]) ⟨hx, hb, hml, hown, hts⟩ hK hZ hA (c_X9_seen l E o qh qr qt qs qn fn fs ft gh u x3 q5 h_q5) (cwV 1 hts gL_print_X9_seen rfl rfl rfl (by decide +kernel) ⟨Nat.le_of_ble_eq_true rfl, Nat.le_of_ble_eq_true rfl⟩) hP hD hS [0] [] rfl rfl rfl rfl rfl rfl hl.1 rfl (Nat.le_of_ble_eq_true rfl) dL_print_179 ⟨Nat.le_of_ble_eq_true rfl, Nat.le_of_ble_eq_true rfl⟩ (fun H locs hP hD hS => ?_)
        have hP : va_P E.1 vwCl (bl [HL_c E o qh qr qt qs qn fn fs ft gh u]) H := hP
        have hD : va_D A (bl [HL_c E o qh qr qt qs qn fn fs ft gh u]) := hD
        refine W.eq (g2 := F0 m 182 ls [.int q5, .long (31 * ((31 * x1) + (q4.toInt64)))]) rfl ?_
        refine lv_i2l (v := (q5.toInt64)) hx hb dL_print_182 rfl ?_
        refine lv_ladd hx hb dL_print_183 ?_
        refine lv_lstore_n (lv' := [(1, .long ((31 * ((31 * x1) + (q4.toInt64))) + (q5.toInt64))), (0, .ref o), (3, .int x3)]) hx hb dL_print_184 rfl hl (by decide) rfl (fun ls hl => ?_)
        refine lv_iinc (v := (x3 + 1)) (lv' := [(3, .int (x3 + 1)), (1, .long ((31 * ((31 * x1) + (q4.toInt64))) + (q5.toInt64))), (0, .ref o)]) hx hb dL_print_185 hl (k := 2) rfl rfl (by decide) rfl (fun ls hl => ?_)
        refine lv_goto (tgt := 155) hx hb dL_print_188 (by decide) ?_
        exact ih u ((31 * ((31 * x1) + (q4.toInt64))) + (q5.toInt64)) (x3 + 1) _ _ hP hD hS _ (lv_sub hl [2, 1, 0] rfl) hF
  have hL128 : ∀ (k : Nat) (u : HLV) (x1 : Int64) (x3 : Int32) (H : Heap) (locs : List Loc), va_P E.1 vwCl (bl [HL_c E o qh qr qt qs qn fn fs ft gh u]) H → va_D A (bl [HL_c E o qh qr qt qs qn fn fs ft gh u]) → va_S A s.heap H locs → ∀ ls : Array Slot, lv_has ls 4 [(0, .ref o), (1, .long x1), (3, .int x3)] → F_L_print_L128 n k u x1 x3 = some r → W p l e ({ frames := 5, cells := 0, slots := 0, locals := 105 } : Room) s m args below meth cd H locs 0 0 Q (F0 m 128 ls []) := by
    intro k
    induction k with
    | zero => intro u x1 x3 H locs hP hD hS ls hl hF; cases hF
    | succ k ih =>
      intro u x1 x3 H locs hP hD hS ls hl hF
      rw [F_L_print_L128] at hF
      refine lv_iload_n hx hb dL_print_128 rfl (lv_at hl 2 rfl) ?_
      refine lv_bipush (v := 9) hx hb dL_print_129 (by decide) ?_
      refine f_icmp_ge (tgt := 153) hx hb dL_print_131 (by decide) hF (fun hF => ?_) (fun hF => ?_)
      · refine lv_iconst (v := 0) hx hb dL_print_153 (by decide) ?_
        refine lv_istore_n (lv' := [(3, .int 0), (0, .ref o), (1, .long x1)]) hx hb dL_print_154 rfl hl (by decide) rfl (fun ls hl => ?_)
        exact hL155 n u x1 0 _ _ hP hD hS _ (lv_sub hl [1, 2, 0] rfl) hF
      · refine lv_ldc2 (v := 31) hx hb hown w1 dL_print_134 ?_
        refine lv_lload_n hx hb dL_print_137 rfl (lv_at hl 1 rfl) ?_
        refine lv_lmul hx hb dL_print_138 ?_
        refine lv_aload_n hx hb dL_print_139 rfl (lv_at hl 0 rfl) ?_
        refine lv_iload_n hx hb dL_print_140 rfl (lv_at hl 2 rfl) ?_
        obtain ⟨q6, h_q6, hF⟩ := bnd_s hF
        refine g_callV (As := [.int x3]) (rest := [.long (31 * x1)]) ⟨hx, hb, hml, hown, hts⟩ hK hZ hA (c_X9_count l E o qh qr qt qs qn fn fs ft gh n u x3 q6 h_q6) (cwV 1 hts gL_print_X9_count rfl rfl rfl (by decide +kernel) ⟨Nat.le_of_ble_eq_true rfl, Nat.le_of_ble_eq_true rfl⟩) hP hD hS [0] [] rfl rfl rfl rfl rfl rfl hl.1 rfl (Nat.le_of_ble_eq_true rfl) dL_print_141 ⟨Nat.le_of_ble_eq_true rfl, Nat.le_of_ble_eq_true rfl⟩ (fun H locs hP hD hS => ?_)
        have hP : va_P E.1 vwCl (bl [HL_c E o qh qr qt qs qn fn fs ft gh u]) H := hP
        have hD : va_D A (bl [HL_c E o qh qr qt qs qn fn fs ft gh u]) := hD
        refine W.eq (g2 := F0 m 144 ls [.int q6, .long (31 * x1)]) rfl ?_
        refine lv_i2l (v := (q6.toInt64)) hx hb dL_print_144 rfl ?_
        refine lv_ladd hx hb dL_print_145 ?_
        refine lv_lstore_n (lv' := [(1, .long ((31 * x1) + (q6.toInt64))), (0, .ref o), (3, .int x3)]) hx hb dL_print_146 rfl hl (by decide) rfl (fun ls hl => ?_)
        refine lv_iinc (v := (x3 + 1)) (lv' := [(3, .int (x3 + 1)), (1, .long ((31 * x1) + (q6.toInt64))), (0, .ref o)]) hx hb dL_print_147 hl (k := 2) rfl rfl (by decide) rfl (fun ls hl => ?_)
        refine lv_goto (tgt := 128) hx hb dL_print_150 (by decide) ?_
        exact ih u ((31 * x1) + (q6.toInt64)) (x3 + 1) _ _ hP hD hS _ (lv_sub hl [2, 1, 0] rfl) hF
  have hL59 : ∀ (k : Nat) (u : HLV) (x1 : Int64) (x3 : Int32) (H : Heap) (locs : List Loc), va_P E.1 vwCl (bl [HL_c E o qh qr qt qs qn fn fs ft gh u]) H → va_D A (bl [HL_c E o qh qr qt qs qn fn fs ft gh u]) → va_S A s.heap H locs → ∀ ls : Array Slot, lv_has ls 4 [(0, .ref o), (1, .long x1), (3, .int x3)] → F_L_print_L59 n k u x1 x3 = some r → W p l e ({ frames := 5, cells := 0, slots := 0, locals := 105 } : Room) s m args below meth cd H locs 0 0 Q (F0 m 59 ls []) := by
    intro k
    induction k with
    | zero => intro u x1 x3 H locs hP hD hS ls hl hF; cases hF
    | succ k ih =>
      intro u x1 x3 H locs hP hD hS ls hl hF
      rw [F_L_print_L59] at hF
      refine lv_iload_n hx hb dL_print_59 rfl (lv_at hl 2 rfl) ?_
      refine lv_bipush (v := 8) hx hb dL_print_60 (by decide) ?_
      refine f_icmp_ge (tgt := 126) hx hb dL_print_62 (by decide) hF (fun hF => ?_) (fun hF => ?_)
      · refine lv_iconst (v := 0) hx hb dL_print_126 (by decide) ?_
        refine lv_istore_n (lv' := [(3, .int 0), (0, .ref o), (1, .long x1)]) hx hb dL_print_127 rfl hl (by decide) rfl (fun ls hl => ?_)
        exact hL128 n u x1 0 _ _ hP hD hS _ (lv_sub hl [1, 2, 0] rfl) hF
      · refine lv_ldc2 (v := 31) hx hb hown w1 dL_print_65 ?_
        refine lv_ldc2 (v := 31) hx hb hown w1 dL_print_68 ?_
        refine lv_lload_n hx hb dL_print_71 rfl (lv_at hl 1 rfl) ?_
        refine lv_lmul hx hb dL_print_72 ?_
        refine lv_aload_n hx hb dL_print_73 rfl (lv_at hl 0 rfl) ?_
        refine lv_iload_n hx hb dL_print_74 rfl (lv_at hl 2 rfl) ?_
        obtain ⟨q7, h_q7, hF⟩ := bnd_s hF
        refine g_callV (As := [.int x3]) (rest := [.long (31 * x1), .long 31]) ⟨hx, hb, hml, hown, hts⟩ hK hZ hA (c_X9_account l E o qh qr qt qs qn fn fs ft gh u x3 q7 h_q7) (cwV 1 hts gL_print_X9_account rfl rfl rfl (by decide +kernel) ⟨Nat.le_of_ble_eq_true rfl, Nat.le_of_ble_eq_true rfl⟩) hP hD hS [0] [] rfl rfl rfl rfl rfl rfl hl.1 rfl (Nat.le_of_ble_eq_true rfl) dL_print_75 ⟨Nat.le_of_ble_eq_true rfl, Nat.le_of_ble_eq_true rfl⟩ (fun H locs hP hD hS => ?_)
        have hP : va_P E.1 vwCl (bl [HL_c E o qh qr qt qs qn fn fs ft gh u]) H := hP
        have hD : va_D A (bl [HL_c E o qh qr qt qs qn fn fs ft gh u]) := hD
        refine W.eq (g2 := F0 m 78 ls [.int q7, .long (31 * x1), .long 31]) rfl ?_
        refine lv_i2l (v := (q7.toInt64)) hx hb dL_print_78 rfl ?_
        refine lv_ladd hx hb dL_print_79 ?_
        refine lv_lmul hx hb dL_print_80 ?_
        refine lv_iload_n hx hb dL_print_81 rfl (lv_at hl 2 rfl) ?_
        refine lv_bipush (v := 6) hx hb dL_print_82 (by decide) ?_
        refine f_icmp_ge (tgt := 116) hx hb dL_print_84 (by decide) hF (fun hF => ?_) (fun hF => ?_)
        · refine lv_iconst (v := 0) hx hb dL_print_116 (by decide) ?_
          refine lv_i2l (v := ((0 : Int32).toInt64)) hx hb dL_print_117 rfl ?_
          refine lv_ladd hx hb dL_print_118 ?_
          refine lv_lstore_n (lv' := [(1, .long ((31 * ((31 * x1) + (q7.toInt64))) + ((0 : Int32).toInt64))), (0, .ref o), (3, .int x3)]) hx hb dL_print_119 rfl hl (by decide) rfl (fun ls hl => ?_)
          refine lv_iinc (v := (x3 + 1)) (lv' := [(3, .int (x3 + 1)), (1, .long ((31 * ((31 * x1) + (q7.toInt64))) + ((0 : Int32).toInt64))), (0, .ref o)]) hx hb dL_print_120 hl (k := 2) rfl rfl (by decide) rfl (fun ls hl => ?_)
          refine lv_goto (tgt := 59) hx hb dL_print_123 (by decide) ?_
          exact ih u ((31 * ((31 * x1) + (q7.toInt64))) + ((0 : Int32).toInt64)) (x3 + 1) _ _ hP hD hS _ (lv_sub hl [2, 1, 0] rfl) hF
        · refine lv_aload_n hx hb dL_print_87 rfl (lv_at hl 0 rfl) ?_
          refine lv_iload_n hx hb dL_print_88 rfl (lv_at hl 2 rfl) ?_
          refine lv_iconst (v := 3) hx hb dL_print_89 (by decide) ?_
          obtain ⟨q8, h_q8, hF⟩ := bnd_s hF
          refine g_callV (As := [.int x3, .int 3]) (rest := [.long (31 * ((31 * x1) + (q7.toInt64)))]) ⟨hx, hb, hml, hown, hts⟩ hK hZ hA (c_X9_lamp l E o qh qr qt qs qn fn fs ft gh u x3 (3) q8 h_q8) (cwV 2 hts gL_print_X9_lamp rfl rfl rfl (by decide +kernel) ⟨Nat.le_of_ble_eq_true rfl, Nat.le_of_ble_eq_true rfl⟩) hP hD hS [0] [] rfl rfl rfl rfl rfl rfl hl.1 rfl (Nat.le_of_ble_eq_true rfl) dL_print_90 ⟨Nat.le_of_ble_eq_true rfl, Nat.le_of_ble_eq_true rfl⟩ (fun H locs hP hD hS => ?_)
          have hP : va_P E.1 vwCl (bl [HL_c E o qh qr qt qs qn fn fs ft gh u]) H := hP
          have hD : va_D A (bl [HL_c E o qh qr qt qs qn fn fs ft gh u]) := hD
          refine W.eq (g2 := F0 m 93 ls [.int q8, .long (31 * ((31 * x1) + (q7.toInt64)))]) rfl ?_
          refine lv_bipush (v := 7) hx hb dL_print_93 (by decide) ?_
          refine lv_aload_n hx hb dL_print_95 rfl (lv_at hl 0 rfl) ?_
          refine lv_iload_n hx hb dL_print_96 rfl (lv_at hl 2 rfl) ?_
          refine lv_iconst (v := 4) hx hb dL_print_97 (by decide) ?_
          obtain ⟨q9, h_q9, hF⟩ := bnd_s hF
          refine g_callV (As := [.int x3, .int 4]) (rest := [.int 7, .int q8, .long (31 * ((31 * x1) + (q7.toInt64)))]) ⟨hx, hb, hml, hown, hts⟩ hK hZ hA (c_X9_lamp l E o qh qr qt qs qn fn fs ft gh u x3 (4) q9 h_q9) (cwV 2 hts gL_print_X9_lamp rfl rfl rfl (by decide +kernel) ⟨Nat.le_of_ble_eq_true rfl, Nat.le_of_ble_eq_true rfl⟩) hP hD hS [0] [] rfl rfl rfl rfl rfl rfl hl.1 rfl (Nat.le_of_ble_eq_true rfl) dL_print_98 ⟨Nat.le_of_ble_eq_true rfl, Nat.le_of_ble_eq_true rfl⟩ (fun H locs hP hD hS => ?_)
          have hP : va_P E.1 vwCl (bl [HL_c E o qh qr qt qs qn fn fs ft gh u]) H := hP
          have hD : va_D A (bl [HL_c E o qh qr qt qs qn fn fs ft gh u]) := hD
          refine W.eq (g2 := F0 m 101 ls [.int q9, .int 7, .int q8, .long (31 * ((31 * x1) + (q7.toInt64)))]) rfl ?_
          refine lv_imul hx hb dL_print_101 ?_
          refine lv_iadd hx hb dL_print_102 ?_
          refine lv_bipush (v := 49) hx hb dL_print_103 (by decide) ?_
          refine lv_aload_n hx hb dL_print_105 rfl (lv_at hl 0 rfl) ?_
          refine lv_iload_n hx hb dL_print_106 rfl (lv_at hl 2 rfl) ?_
          refine lv_iconst (v := 1) hx hb dL_print_107 (by decide) ?_
          obtain ⟨q10, h_q10, hF⟩ := bnd_s hF
          refine g_callV (As := [.int x3, .int 1]) (rest := [.int 49, .int (q8 + (7 * q9)), .long (31 * ((31 * x1) + (q7.toInt64)))]) ⟨hx, hb, hml, hown, hts⟩ hK hZ hA (c_X9_lamp l E o qh qr qt qs qn fn fs ft gh u x3 (1) q10 h_q10) (cwV 2 hts gL_print_X9_lamp rfl rfl rfl (by decide +kernel) ⟨Nat.le_of_ble_eq_true rfl, Nat.le_of_ble_eq_true rfl⟩) hP hD hS [0] [] rfl rfl rfl rfl rfl rfl hl.1 rfl (Nat.le_of_ble_eq_true rfl) dL_print_108 ⟨Nat.le_of_ble_eq_true rfl, Nat.le_of_ble_eq_true rfl⟩ (fun H locs hP hD hS => ?_)
          have hP : va_P E.1 vwCl (bl [HL_c E o qh qr qt qs qn fn fs ft gh u]) H := hP
          have hD : va_D A (bl [HL_c E o qh qr qt qs qn fn fs ft gh u]) := hD
          refine W.eq (g2 := F0 m 111 ls [.int q10, .int 49, .int (q8 + (7 * q9)), .long (31 * ((31 * x1) + (q7.toInt64)))]) rfl ?_
          refine lv_imul hx hb dL_print_111 ?_
          refine lv_iadd hx hb dL_print_112 ?_
          refine lv_goto (tgt := 117) hx hb dL_print_113 (by decide) ?_
          refine lv_i2l (v := (((q8 + (7 * q9)) + (49 * q10)).toInt64)) hx hb dL_print_117 rfl ?_
          refine lv_ladd hx hb dL_print_118 ?_
          refine lv_lstore_n (lv' := [(1, .long ((31 * ((31 * x1) + (q7.toInt64))) + (((q8 + (7 * q9)) + (49 * q10)).toInt64))), (0, .ref o), (3, .int x3)]) hx hb dL_print_119 rfl hl (by decide) rfl (fun ls hl => ?_)
          refine lv_iinc (v := (x3 + 1)) (lv' := [(3, .int (x3 + 1)), (1, .long ((31 * ((31 * x1) + (q7.toInt64))) + (((q8 + (7 * q9)) + (49 * q10)).toInt64))), (0, .ref o)]) hx hb dL_print_120 hl (k := 2) rfl rfl (by decide) rfl (fun ls hl => ?_)
          refine lv_goto (tgt := 59) hx hb dL_print_123 (by decide) ?_
          exact ih u ((31 * ((31 * x1) + (q7.toInt64))) + (((q8 + (7 * q9)) + (49 * q10)).toInt64)) (x3 + 1) _ _ hP hD hS _ (lv_sub hl [2, 1, 0] rfl) hF
  have hL33 : ∀ (k : Nat) (u : HLV) (x1 : Int64) (x3 : Int32) (H : Heap) (locs : List Loc), va_P E.1 vwCl (bl [HL_c E o qh qr qt qs qn fn fs ft gh u]) H → va_D A (bl [HL_c E o qh qr qt qs qn fn fs ft gh u]) → va_S A s.heap H locs → ∀ ls : Array Slot, lv_has ls 4 [(0, .ref o), (1, .long x1), (3, .int x3)] → F_L_print_L33 n k u x1 x3 = some r → W p l e ({ frames := 5, cells := 0, slots := 0, locals := 105 } : Room) s m args below meth cd H locs 0 0 Q (F0 m 33 ls []) := by
    intro k
    induction k with
    | zero => intro u x1 x3 H locs hP hD hS ls hl hF; cases hF
    | succ k ih =>
      intro u x1 x3 H locs hP hD hS ls hl hF
      rw [F_L_print_L33] at hF
      refine lv_iload_n hx hb dL_print_33 rfl (lv_at hl 2 rfl) ?_
      refine lv_iconst (v := 5) hx hb dL_print_34 (by decide) ?_
      refine f_icmp_ge (tgt := 57) hx hb dL_print_35 (by decide) hF (fun hF => ?_) (fun hF => ?_)
      · refine lv_iconst (v := 0) hx hb dL_print_57 (by decide) ?_
        refine lv_istore_n (lv' := [(3, .int 0), (0, .ref o), (1, .long x1)]) hx hb dL_print_58 rfl hl (by decide) rfl (fun ls hl => ?_)
        exact hL59 n u x1 0 _ _ hP hD hS _ (lv_sub hl [1, 2, 0] rfl) hF
      · refine lv_ldc2 (v := 31) hx hb hown w1 dL_print_38 ?_
        refine lv_lload_n hx hb dL_print_41 rfl (lv_at hl 1 rfl) ?_
        refine lv_lmul hx hb dL_print_42 ?_
        refine lv_aload_n hx hb dL_print_43 rfl (lv_at hl 0 rfl) ?_
        refine lv_iload_n hx hb dL_print_44 rfl (lv_at hl 2 rfl) ?_
        obtain ⟨q11, h_q11, hF⟩ := bnd_s hF
        refine g_callV (As := [.int x3]) (rest := [.long (31 * x1)]) ⟨hx, hb, hml, hown, hts⟩ hK hZ hA (c_X9_code l E o qh qr qt qs qn fn fs ft gh n u x3 q11 h_q11) (cwV 1 hts gL_print_X9_code rfl rfl rfl (by decide +kernel) ⟨Nat.le_of_ble_eq_true rfl, Nat.le_of_ble_eq_true rfl⟩) hP hD hS [0] [] rfl rfl rfl rfl rfl rfl hl.1 rfl (Nat.le_of_ble_eq_true rfl) dL_print_45 ⟨Nat.le_of_ble_eq_true rfl, Nat.le_of_ble_eq_true rfl⟩ (fun H locs hP hD hS => ?_)
        have hP : va_P E.1 vwCl (bl [HL_c E o qh qr qt qs qn fn fs ft gh u]) H := hP
        have hD : va_D A (bl [HL_c E o qh qr qt qs qn fn fs ft gh u]) := hD
        refine W.eq (g2 := F0 m 48 ls [.int q11, .long (31 * x1)]) rfl ?_
        refine lv_i2l (v := (q11.toInt64)) hx hb dL_print_48 rfl ?_
        refine lv_ladd hx hb dL_print_49 ?_
        refine lv_lstore_n (lv' := [(1, .long ((31 * x1) + (q11.toInt64))), (0, .ref o), (3, .int x3)]) hx hb dL_print_50 rfl hl (by decide) rfl (fun ls hl => ?_)
        refine lv_iinc (v := (x3 + 1)) (lv' := [(3, .int (x3 + 1)), (1, .long ((31 * x1) + (q11.toInt64))), (0, .ref o)]) hx hb dL_print_51 hl (k := 2) rfl rfl (by decide) rfl (fun ls hl => ?_)
        refine lv_goto (tgt := 33) hx hb dL_print_54 (by decide) ?_
        exact ih u ((31 * x1) + (q11.toInt64)) (x3 + 1) _ _ hP hD hS _ (lv_sub hl [2, 1, 0] rfl) hF
  have hL6 : ∀ (k : Nat) (u : HLV) (x1 : Int64) (x3 : Int32) (H : Heap) (locs : List Loc), va_P E.1 vwCl (bl [HL_c E o qh qr qt qs qn fn fs ft gh u]) H → va_D A (bl [HL_c E o qh qr qt qs qn fn fs ft gh u]) → va_S A s.heap H locs → ∀ ls : Array Slot, lv_has ls 4 [(0, .ref o), (1, .long x1), (3, .int x3)] → F_L_print_L6 n k u x1 x3 = some r → W p l e ({ frames := 5, cells := 0, slots := 0, locals := 105 } : Room) s m args below meth cd H locs 0 0 Q (F0 m 6 ls []) := by
    intro k
    induction k with
    | zero => intro u x1 x3 H locs hP hD hS ls hl hF; cases hF
    | succ k ih =>
      intro u x1 x3 H locs hP hD hS ls hl hF
      rw [F_L_print_L6] at hF
      refine lv_iload_n hx hb dL_print_6 rfl (lv_at hl 2 rfl) ?_
      refine lv_bipush (v := 64) hx hb dL_print_7 (by decide) ?_
      refine f_icmp_ge (tgt := 31) hx hb dL_print_9 (by decide) hF (fun hF => ?_) (fun hF => ?_)
      · refine lv_iconst (v := 0) hx hb dL_print_31 (by decide) ?_
        refine lv_istore_n (lv' := [(3, .int 0), (0, .ref o), (1, .long x1)]) hx hb dL_print_32 rfl hl (by decide) rfl (fun ls hl => ?_)
        exact hL33 n u x1 0 _ _ hP hD hS _ (lv_sub hl [1, 2, 0] rfl) hF
      · refine lv_ldc2 (v := 31) hx hb hown w1 dL_print_12 ?_
        refine lv_lload_n hx hb dL_print_15 rfl (lv_at hl 1 rfl) ?_
        refine lv_lmul hx hb dL_print_16 ?_
        refine lv_aload_n hx hb dL_print_17 rfl (lv_at hl 0 rfl) ?_
        refine lv_iload_n hx hb dL_print_18 rfl (lv_at hl 2 rfl) ?_
        obtain ⟨q12, h_q12, hF⟩ := bnd_s hF
        refine g_callV (As := [.int x3]) (rest := [.long (31 * x1)]) ⟨hx, hb, hml, hown, hts⟩ hK hZ hA (c_X9_color l E o qh qr qt qs qn fn fs ft gh u x3 q12 h_q12) (cwV 1 hts gL_print_X9_color rfl rfl rfl (by decide +kernel) ⟨Nat.le_of_ble_eq_true rfl, Nat.le_of_ble_eq_true rfl⟩) hP hD hS [0] [] rfl rfl rfl rfl rfl rfl hl.1 rfl (Nat.le_of_ble_eq_true rfl) dL_print_19 ⟨Nat.le_of_ble_eq_true rfl, Nat.le_of_ble_eq_true rfl⟩ (fun H locs hP hD hS => ?_)
        have hP : va_P E.1 vwCl (bl [HL_c E o qh qr qt qs qn fn fs ft gh u]) H := hP
        have hD : va_D A (bl [HL_c E o qh qr qt qs qn fn fs ft gh u]) := hD
        refine W.eq (g2 := F0 m 22 ls [.int q12, .long (31 * x1)]) rfl ?_
        refine lv_i2l (v := (q12.toInt64)) hx hb dL_print_22 rfl ?_
        refine lv_ladd hx hb dL_print_23 ?_
        refine lv_lstore_n (lv' := [(1, .long ((31 * x1) + (q12.toInt64))), (0, .ref o), (3, .int x3)]) hx hb dL_print_24 rfl hl (by decide) rfl (fun ls hl => ?_)
        refine lv_iinc (v := (x3 + 1)) (lv' := [(3, .int (x3 + 1)), (1, .long ((31 * x1) + (q12.toInt64))), (0, .ref o)]) hx hb dL_print_25 hl (k := 2) rfl rfl (by decide) rfl (fun ls hl => ?_)
        refine lv_goto (tgt := 6) hx hb dL_print_28 (by decide) ?_
        exact ih u ((31 * x1) + (q12.toInt64)) (x3 + 1) _ _ hP hD hS _ (lv_sub hl [2, 1, 0] rfl) hF
  unfold F_L_print at hF
  refine lv_ldc2 (v := 17) hx hb hown w0 dL_print_0 ?_
  refine lv_lstore_n (lv' := [(1, .long 17), (0, .ref o)]) hx hb dL_print_3 rfl hl (by decide) rfl (fun ls hl => ?_)
  refine lv_iconst (v := 0) hx hb dL_print_4 (by decide) ?_
  refine lv_istore_n (lv' := [(3, .int 0), (1, .long 17), (0, .ref o)]) hx hb dL_print_5 rfl hl (by decide) rfl (fun ls hl => ?_)
  exact hL6 n v 17 0 _ _ hP hD hS _ (lv_sub hl [2, 1, 0] rfl) hF
def F_L_areErrors_J601 (n : Nat) (u : HLV) (x1 : Int64) : Option (Int32 × HLV) := (F_X9_code n u 0).bind fun q5 => if q5 < 8 then (F_L_print n u).bind fun q6 => if (lg_cmp q6.1 x1) = 0 then some (1, q6.2) else some (0, q6.2) else (F_X9_setCode u 1 1 0).bind fun q7 => if q7.1 = (-3) then (F_L_print n q7.2).bind fun q8 => if (lg_cmp q8.1 x1) = 0 then some (1, q8.2) else some (0, q8.2) else some (0, q7.2)
def F_L_areErrors_J571 (n : Nat) (u : HLV) (x1 : Int64) (x3 : Int32) : Option (Int32 × HLV) := if x3 = 0 then some (0, u) else (F_X9_count n u 1).bind fun q4 => if q4 < 6 then F_L_areErrors_J601 n u x1 else (F_X9_count n u 5).bind fun q9 => (F_X9_addLamp n u q9 1 1).bind fun q10 => if q10.1 = (-3) then F_L_areErrors_J601 n q10.2 x1 else some (0, q10.2)
def F_L_areErrors_J570 (n : Nat) (u : HLV) (x1 : Int64) (y0 : Int32) : Option (Int32 × HLV) := F_L_areErrors_J571 n u x1 y0
def F_L_areErrors_J569 (n : Nat) (u : HLV) (x1 : Int64) : Option (Int32 × HLV) := F_L_areErrors_J570 n u x1 0
def F_L_areErrors_J532 (n : Nat) (u : HLV) (x1 : Int64) (y0 : Int32) : Option (Int32 × HLV) := (F_X9_count n u 11).bind fun q3 => if q3 = 0 then if y0 = 0 then F_L_areErrors_J569 n u x1 else (F_X9_recall u).bind fun q11 => if q11.1 = (-2) then (F_X9_compare n q11.2 0).bind fun q12 => if q12 = (-2) then F_L_areErrors_J570 n q11.2 x1 1 else F_L_areErrors_J569 n q11.2 x1 else F_L_areErrors_J569 n q11.2 x1 else F_L_areErrors_J571 n u x1 y0
def F_L_areErrors_J531 (n : Nat) (u : HLV) (x1 : Int64) : Option (Int32 × HLV) := F_L_areErrors_J532 n u x1 0
def F_L_areErrors_J527 (n : Nat) (u : HLV) (x1 : Int64) : Option (Int32 × HLV) := F_L_areErrors_J532 n u x1 1
def F_L_areErrors_J480 (n : Nat) (u : HLV) (x1 : Int64) : Option (Int32 × HLV) := (F_X9_compare n u 4).bind fun q27 => if q27 = (-1) then (F_X9_type u 31).bind fun q28 => if q28.1 = (-1) then (F_X9_fault n q28.2 2).bind fun q29 => if q29.1 = (-1) then (F_X9_fault n q29.2 0).bind fun q30 => if q30.1 = (-4) then F_L_areErrors_J527 n q30.2 x1 else (F_X9_load n q30.2).bind fun q31 => if q31.1 = (-2) then F_L_areErrors_J527 n q31.2 x1 else F_L_areErrors_J531 n q31.2 x1 else F_L_areErrors_J531 n q29.2 x1 else F_L_areErrors_J531 n q28.2 x1 else F_L_areErrors_J531 n u x1
def F_L_areErrors_J318 (n : Nat) (u : HLV) (x1 : Int64) (y0 : Int32) : Option (Int32 × HLV) := if y0 = 0 then F_L_areErrors_J531 n u x1 else (F_X9_advance n u 0).bind fun q13 => if q13.1 = (-1) then (F_X9_advance n q13.2 2001).bind fun q14 => if q14.1 = (-1) then (F_X9_account q14.2 8).bind fun q15 => if q15 = (-1) then (F_X9_count n q14.2 12).bind fun q16 => if q16 = (-1) then (F_X9_sees n q14.2 10001 0).bind fun q17 => if q17.1 = (-1) then (F_X9_sees n q17.2 0 0).bind fun q18 => if q18.1 = (-2) then (F_X9_pass n q18.2 0 0 0 10001 1).bind fun q19 => if q19.1 = (-1) then (F_X9_pass n q19.2 0 0 0 0 501).bind fun q20 => if q20.1 = (-1) then (F_X9_entry q20.2 (-1) 0).bind fun q21 => if q21 = (-1) then (F_X9_entry q20.2 0 4).bind fun q22 => if q22 = (-1) then (F_X9_count n q20.2 8).bind fun q23 => (F_X9_entry q20.2 q23 0).bind fun q24 => if q24 = (-4) then (F_X9_seen q20.2 4).bind fun q25 => if q25 = (-1) then (F_X9_account q20.2 6).bind fun q26 => if 0 < q26 then F_L_areErrors_J480 n q20.2 x1 else (F_X9_seen q20.2 0).bind fun q32 => if q32 = (-2) then F_L_areErrors_J480 n q20.2 x1 else F_L_areErrors_J531 n q20.2 x1 else F_L_areErrors_J531 n q20.2 x1 else F_L_areErrors_J531 n q20.2 x1 else F_L_areErrors_J531 n q20.2 x1 else F_L_areErrors_J531 n q20.2 x1 else F_L_areErrors_J531 n q20.2 x1 else F_L_areErrors_J531 n q19.2 x1 else F_L_areErrors_J531 n q18.2 x1 else F_L_areErrors_J531 n q17.2 x1 else F_L_areErrors_J531 n q14.2 x1 else F_L_areErrors_J531 n q14.2 x1 else F_L_areErrors_J531 n q14.2 x1 else F_L_areErrors_J531 n q13.2 x1
def F_L_areErrors_J317 (n : Nat) (u : HLV) (x1 : Int64) : Option (Int32 × HLV) := F_L_areErrors_J318 n u x1 0
def F_L_areErrors (n : Nat) (v : HLV) : Option (Int32 × HLV) := (F_L_print n v).bind fun q1 => (F_X9_paint n q1.2 4 0 0).bind fun q2 => if q2.1 = (-1) then (F_X9_paint n q2.2 0 64 0).bind fun q33 => if q33.1 = (-1) then (F_X9_paint n q33.2 0 0 (-1)).bind fun q34 => if q34.1 = (-1) then (F_X9_color q34.2 64).bind fun q35 => if q35 = (-1) then (F_X9_sector n q34.2 (-1) 0).bind fun q36 => if q36 = (-1) then (F_X9_sector n q34.2 0 3).bind fun q37 => if q37 = (-1) then (F_X9_sector n q34.2 64 0).bind fun q38 => if q38 = (-4) then (F_X9_direction n q34.2 10001 0).bind fun q39 => if q39 = (-1) then (F_X9_direction n q34.2 0 0).bind fun q40 => if q40 = (-4) then (F_X9_again n q34.2 0 (-10001)).bind fun q41 => if q41 = (-1) then (F_X9_again n q34.2 0 0).bind fun q42 => if q42 = (-4) then (F_X9_setCode q34.2 0 0 0).bind fun q43 => if q43.1 = (-1) then (F_X9_setCode q43.2 1 61 0).bind fun q44 => if q44.1 = (-1) then (F_X9_setCode q44.2 1 1 2).bind fun q45 => if q45.1 = (-1) then (F_X9_code n q45.2 5).bind fun q46 => if q46 = (-1) then (F_X9_next n q45.2 2).bind fun q47 => if q47 = (-1) then (F_X9_setChanger n q45.2 2).bind fun q48 => if q48.1 = (-1) then (F_X9_addLamp n q48.2 2 1 1).bind fun q49 => if q49.1 = (-1) then (F_X9_addLamp n q49.2 0 0 1).bind fun q50 => if q50.1 = (-1) then (F_X9_addLamp n q50.2 0 1 5001).bind fun q51 => if q51.1 = (-1) then (F_X9_count n q51.2 5).bind fun q52 => (F_X9_addLamp n q51.2 (1 - q52) 1 1).bind fun q53 => if q53.1 = (-2) then (F_X9_takeLamp q53.2 6).bind fun q54 => if q54.1 = (-1) then (F_X9_lamp q54.2 6 0).bind fun q55 => if q55 = (-1) then (F_X9_lamp q54.2 0 6).bind fun q56 => if q56 = (-1) then (F_X9_set q54.2 2 1).bind fun q57 => if q57.1 = (-1) then (F_X9_set q57.2 0 51).bind fun q58 => if q58.1 = (-1) then (F_X9_set q58.2 1 0).bind fun q59 => if q59.1 = (-1) then (F_X9_rangeBits n q59.2 4).bind fun q60 => if q60 = (-1) then F_L_areErrors_J318 n q59.2 q1.1 1 else F_L_areErrors_J317 n q59.2 q1.1 else F_L_areErrors_J317 n q59.2 q1.1 else F_L_areErrors_J317 n q58.2 q1.1 else F_L_areErrors_J317 n q57.2 q1.1 else F_L_areErrors_J317 n q54.2 q1.1 else F_L_areErrors_J317 n q54.2 q1.1 else F_L_areErrors_J317 n q54.2 q1.1 else F_L_areErrors_J317 n q53.2 q1.1 else F_L_areErrors_J317 n q51.2 q1.1 else F_L_areErrors_J317 n q50.2 q1.1 else F_L_areErrors_J317 n q49.2 q1.1 else F_L_areErrors_J317 n q48.2 q1.1 else F_L_areErrors_J317 n q45.2 q1.1 else F_L_areErrors_J317 n q45.2 q1.1 else F_L_areErrors_J317 n q45.2 q1.1 else F_L_areErrors_J317 n q44.2 q1.1 else F_L_areErrors_J317 n q43.2 q1.1 else F_L_areErrors_J317 n q34.2 q1.1 else F_L_areErrors_J317 n q34.2 q1.1 else F_L_areErrors_J317 n q34.2 q1.1 else F_L_areErrors_J317 n q34.2 q1.1 else F_L_areErrors_J317 n q34.2 q1.1 else F_L_areErrors_J317 n q34.2 q1.1 else F_L_areErrors_J317 n q34.2 q1.1 else F_L_areErrors_J317 n q34.2 q1.1 else F_L_areErrors_J317 n q34.2 q1.1 else F_L_areErrors_J317 n q33.2 q1.1 else F_L_areErrors_J317 n q2.2 q1.1
set_option maxHeartbeats 4000000 in
set_option maxRecDepth 100000 in
theorem c_L_areErrors (l : Launch) (E : GE) (o : Nat) (qh : Nat) (qr : Nat) (qt : Nat) (qs : Nat) (qn : Nat) (fn : Nat → Nat) (fs : Nat → Nat) (ft : Nat → Nat) (gh : Nat → Nat → Nat) (n : Nat) (v : HLV) (r : Int32 × HLV) (hF : F_L_areErrors n v = some r) : CT l E yL_areErrors wsL_areErrors ({ frames := 12, cells := 0, slots := 0, locals := 287 } : Room) [.ref o] (bl [HL_c E o qh qr qt qs qn fn fs ft gh v]) (some (.int r.1)) (bl [HL_c E o qh qr qt qs qn fn fs ft gh r.2]) 0 0 := by
  refine CT.of (cc := cL_areErrors) (maxL := 4) (ret := (some .boolean)) (by decide) rfl (Nat.le_of_ble_eq_true rfl) ?_
  intro p e s m args below meth cd A Q ls B hQ hP hD hS hl
  obtain ⟨hx, hb, hml, hown, hts, hr, hlocks, hK, hZ, hA, hnm⟩ := B
  have hown : s.vm.findClass RL = some m.cls := hown
  have hl : lv_has ls 4 [(0, .ref o)] := hl
  have hJ601 : ∀ (u : HLV) (x1 : Int64) (H : Heap) (locs : List Loc), va_P E.1 vwCl (bl [HL_c E o qh qr qt qs qn fn fs ft gh u]) H → va_D A (bl [HL_c E o qh qr qt qs qn fn fs ft gh u]) → va_S A s.heap H locs → ∀ ls : Array Slot, lv_has ls 4 [(0, .ref o), (1, .long x1)] → F_L_areErrors_J601 n u x1 = some r → W p l e ({ frames := 12, cells := 0, slots := 0, locals := 287 } : Room) s m args below meth cd H locs 0 0 Q (F0 m 601 ls []) := by
    intro u x1 H locs hP hD hS ls hl hF
    unfold F_L_areErrors_J601 at hF
    refine lv_aload_n hx hb dL_areErrors_601 rfl (lv_at hl 0 rfl) ?_
    refine lv_iconst (v := 0) hx hb dL_areErrors_602 (by decide) ?_
    obtain ⟨q5, h_q5, hF⟩ := bnd_s hF
    refine g_callV (As := [.int 0]) (rest := []) ⟨hx, hb, hml, hown, hts⟩ hK hZ hA (c_X9_code l E o qh qr qt qs qn fn fs ft gh n u (0) q5 h_q5) (cwV 1 hts gL_areErrors_X9_code rfl rfl rfl (by decide +kernel) ⟨Nat.le_of_ble_eq_true rfl, Nat.le_of_ble_eq_true rfl⟩) hP hD hS [0] [] rfl rfl rfl rfl rfl rfl hl.1 rfl (Nat.le_of_ble_eq_true rfl) dL_areErrors_603 ⟨Nat.le_of_ble_eq_true rfl, Nat.le_of_ble_eq_true rfl⟩ (fun H locs hP hD hS => ?_)
    have hP : va_P E.1 vwCl (bl [HL_c E o qh qr qt qs qn fn fs ft gh u]) H := hP
    have hD : va_D A (bl [HL_c E o qh qr qt qs qn fn fs ft gh u]) := hD
    refine W.eq (g2 := F0 m 606 ls [.int q5]) rfl ?_
    refine lv_bipush (v := 8) hx hb dL_areErrors_606 (by decide) ?_
    refine f_icmp_lt (tgt := 623) hx hb dL_areErrors_608 (by decide) hF (fun hF => ?_) (fun hF => ?_)
    · refine lv_aload_n hx hb dL_areErrors_623 rfl (lv_at hl 0 rfl) ?_
      obtain ⟨q6, h_q6, hF⟩ := bnd_s hF
      refine g_callS (As := [.ref o]) (rest := []) ⟨hx, hb, hml, hown, hts⟩ hK hZ hA (c_L_print l E o qh qr qt qs qn fn fs ft gh n u q6 h_q6) (va_cwS 1 hts gL_areErrors_L_print rfl rfl rfl (by decide +kernel) ⟨Nat.le_of_ble_eq_true rfl, Nat.le_of_ble_eq_true rfl⟩) hP hD hS [0] [] rfl rfl rfl hl.1 rfl (Nat.le_of_ble_eq_true rfl) dL_areErrors_624 ⟨Nat.le_of_ble_eq_true rfl, Nat.le_of_ble_eq_true rfl⟩ (fun H locs hP hD hS => ?_)
      have hP : va_P E.1 vwCl (bl [HL_c E o qh qr qt qs qn fn fs ft gh q6.2]) H := hP
      have hD : va_D A (bl [HL_c E o qh qr qt qs qn fn fs ft gh q6.2]) := hD
      refine W.eq (g2 := F0 m 627 ls [.long q6.1]) rfl ?_
      refine lv_lload_n hx hb dL_areErrors_627 rfl (lv_at hl 1 rfl) ?_
      refine W.lcmp hx hb dL_areErrors_628 ?_
      refine f_if_ne (tgt := 636) hx hb dL_areErrors_629 (by decide) hF (fun hF => ?_) (fun hF => ?_)
      · refine lv_iconst (v := 0) hx hb dL_areErrors_636 (by decide) ?_
        exact g_zret (rvf := fun z => some (.int z.1)) (W1f := fun z => bl [HL_c E o qh qr qt qs qn fn fs ft gh z.2]) hx hb hr hlocks rfl hQ hF rfl hP hD hS [0] rfl rfl dL_areErrors_637
      · refine lv_iconst (v := 1) hx hb dL_areErrors_632 (by decide) ?_
        refine lv_goto (tgt := 637) hx hb dL_areErrors_633 (by decide) ?_
        exact g_zret (rvf := fun z => some (.int z.1)) (W1f := fun z => bl [HL_c E o qh qr qt qs qn fn fs ft gh z.2]) hx hb hr hlocks rfl hQ hF rfl hP hD hS [0] rfl rfl dL_areErrors_637
    · refine lv_aload_n hx hb dL_areErrors_611 rfl (lv_at hl 0 rfl) ?_
      refine lv_iconst (v := 1) hx hb dL_areErrors_612 (by decide) ?_
      refine lv_iconst (v := 1) hx hb dL_areErrors_613 (by decide) ?_
      refine lv_iconst (v := 0) hx hb dL_areErrors_614 (by decide) ?_
      obtain ⟨q7, h_q7, hF⟩ := bnd_s hF
      refine g_callV (As := [.int 1, .int 1, .int 0]) (rest := []) ⟨hx, hb, hml, hown, hts⟩ hK hZ hA (c_X9_setCode l E o qh qr qt qs qn fn fs ft gh u (1) (1) (0) q7 h_q7) (cwV 3 hts gL_areErrors_X9_setCode rfl rfl rfl (by decide +kernel) ⟨Nat.le_of_ble_eq_true rfl, Nat.le_of_ble_eq_true rfl⟩) hP hD hS [0] [] rfl rfl rfl rfl rfl rfl hl.1 rfl (Nat.le_of_ble_eq_true rfl) dL_areErrors_615 ⟨Nat.le_of_ble_eq_true rfl, Nat.le_of_ble_eq_true rfl⟩ (fun H locs hP hD hS => ?_)
      have hP : va_P E.1 vwCl (bl [HL_c E o qh qr qt qs qn fn fs ft gh q7.2]) H := hP
      have hD : va_D A (bl [HL_c E o qh qr qt qs qn fn fs ft gh q7.2]) := hD
      refine W.eq (g2 := F0 m 618 ls [.int q7.1]) rfl ?_
      refine lv_bipush (v := (-3)) hx hb dL_areErrors_618 (by decide) ?_
      refine f_icmp_ne (tgt := 636) hx hb dL_areErrors_620 (by decide) hF (fun hF => ?_) (fun hF => ?_)
      · refine lv_iconst (v := 0) hx hb dL_areErrors_636 (by decide) ?_
        exact g_zret (rvf := fun z => some (.int z.1)) (W1f := fun z => bl [HL_c E o qh qr qt qs qn fn fs ft gh z.2]) hx hb hr hlocks rfl hQ hF rfl hP hD hS [0] rfl rfl dL_areErrors_637
      · refine lv_aload_n hx hb dL_areErrors_623 rfl (lv_at hl 0 rfl) ?_
        obtain ⟨q8, h_q8, hF⟩ := bnd_s hF
        refine g_callS (As := [.ref o]) (rest := []) ⟨hx, hb, hml, hown, hts⟩ hK hZ hA (c_L_print l E o qh qr qt qs qn fn fs ft gh n q7.2 q8 h_q8) (va_cwS 1 hts gL_areErrors_L_print rfl rfl rfl (by decide +kernel) ⟨Nat.le_of_ble_eq_true rfl, Nat.le_of_ble_eq_true rfl⟩) hP hD hS [0] [] rfl rfl rfl hl.1 rfl (Nat.le_of_ble_eq_true rfl) dL_areErrors_624 ⟨Nat.le_of_ble_eq_true rfl, Nat.le_of_ble_eq_true rfl⟩ (fun H locs hP hD hS => ?_)
        have hP : va_P E.1 vwCl (bl [HL_c E o qh qr qt qs qn fn fs ft gh q8.2]) H := hP
        have hD : va_D A (bl [HL_c E o qh qr qt qs qn fn fs ft gh q8.2]) := hD
        refine W.eq (g2 := F0 m 627 ls [.long q8.1]) rfl ?_
        refine lv_lload_n hx hb dL_areErrors_627 rfl (lv_at hl 1 rfl) ?_
        refine W.lcmp hx hb dL_areErrors_628 ?_
        refine f_if_ne (tgt := 636) hx hb dL_areErrors_629 (by decide) hF (fun hF => ?_) (fun hF => ?_)
        · refine lv_iconst (v := 0) hx hb dL_areErrors_636 (by decide) ?_
          exact g_zret (rvf := fun z => some (.int z.1)) (W1f := fun z => bl [HL_c E o qh qr qt qs qn fn fs ft gh z.2]) hx hb hr hlocks rfl hQ hF rfl hP hD hS [0] rfl rfl dL_areErrors_637
        · refine lv_iconst (v := 1) hx hb dL_areErrors_632 (by decide) ?_
          refine lv_goto (tgt := 637) hx hb dL_areErrors_633 (by decide) ?_
          exact g_zret (rvf := fun z => some (.int z.1)) (W1f := fun z => bl [HL_c E o qh qr qt qs qn fn fs ft gh z.2]) hx hb hr hlocks rfl hQ hF rfl hP hD hS [0] rfl rfl dL_areErrors_637
  have hJ571 : ∀ (u : HLV) (x1 : Int64) (x3 : Int32) (H : Heap) (locs : List Loc), va_P E.1 vwCl (bl [HL_c E o qh qr qt qs qn fn fs ft gh u]) H → va_D A (bl [HL_c E o qh qr qt qs qn fn fs ft gh u]) → va_S A s.heap H locs → ∀ ls : Array Slot, lv_has ls 4 [(0, .ref o), (1, .long x1), (3, .int x3)] → F_L_areErrors_J571 n u x1 x3 = some r → W p l e ({ frames := 12, cells := 0, slots := 0, locals := 287 } : Room) s m args below meth cd H locs 0 0 Q (F0 m 571 ls []) := by
    intro u x1 x3 H locs hP hD hS ls hl hF
    unfold F_L_areErrors_J571 at hF
    refine lv_iload_n hx hb dL_areErrors_571 rfl (lv_at hl 2 rfl) ?_
    refine f_if_eq (tgt := 636) hx hb dL_areErrors_572 (by decide) hF (fun hF => ?_) (fun hF => ?_)
    · refine lv_iconst (v := 0) hx hb dL_areErrors_636 (by decide) ?_
      exact g_zret (rvf := fun z => some (.int z.1)) (W1f := fun z => bl [HL_c E o qh qr qt qs qn fn fs ft gh z.2]) hx hb hr hlocks rfl hQ hF rfl hP hD hS [0] rfl rfl dL_areErrors_637
    · refine lv_aload_n hx hb dL_areErrors_575 rfl (lv_at hl 0 rfl) ?_
      refine lv_iconst (v := 1) hx hb dL_areErrors_576 (by decide) ?_
      obtain ⟨q4, h_q4, hF⟩ := bnd_s hF
      refine g_callV (As := [.int 1]) (rest := []) ⟨hx, hb, hml, hown, hts⟩ hK hZ hA (c_X9_count l E o qh qr qt qs qn fn fs ft gh n u (1) q4 h_q4) (cwV 1 hts gL_areErrors_X9_count rfl rfl rfl (by decide +kernel) ⟨Nat.le_of_ble_eq_true rfl, Nat.le_of_ble_eq_true rfl⟩) hP hD hS [0] [] rfl rfl rfl rfl rfl rfl hl.1 rfl (Nat.le_of_ble_eq_true rfl) dL_areErrors_577 ⟨Nat.le_of_ble_eq_true rfl, Nat.le_of_ble_eq_true rfl⟩ (fun H locs hP hD hS => ?_)
      have hP : va_P E.1 vwCl (bl [HL_c E o qh qr qt qs qn fn fs ft gh u]) H := hP
      have hD : va_D A (bl [HL_c E o qh qr qt qs qn fn fs ft gh u]) := hD
      refine W.eq (g2 := F0 m 580 ls [.int q4]) rfl ?_
      refine lv_bipush (v := 6) hx hb dL_areErrors_580 (by decide) ?_
      refine f_icmp_lt (tgt := 601) hx hb dL_areErrors_582 (by decide) hF (fun hF => ?_) (fun hF => ?_)
      · exact hJ601 u x1 _ _ hP hD hS _ (lv_sub hl [0, 1] rfl) hF
      · refine lv_aload_n hx hb dL_areErrors_585 rfl (lv_at hl 0 rfl) ?_
        refine lv_aload_n hx hb dL_areErrors_586 rfl (lv_at hl 0 rfl) ?_
        refine lv_iconst (v := 5) hx hb dL_areErrors_587 (by decide) ?_
        obtain ⟨q9, h_q9, hF⟩ := bnd_s hF
        refine g_callV (As := [.int 5]) (rest := [.ref o]) ⟨hx, hb, hml, hown, hts⟩ hK hZ hA (c_X9_count l E o qh qr qt qs qn fn fs ft gh n u (5) q9 h_q9) (cwV 1 hts gL_areErrors_X9_count rfl rfl rfl (by decide +kernel) ⟨Nat.le_of_ble_eq_true rfl, Nat.le_of_ble_eq_true rfl⟩) hP hD hS [0] [] rfl rfl rfl rfl rfl rfl hl.1 rfl (Nat.le_of_ble_eq_true rfl) dL_areErrors_588 ⟨Nat.le_of_ble_eq_true rfl, Nat.le_of_ble_eq_true rfl⟩ (fun H locs hP hD hS => ?_)
        have hP : va_P E.1 vwCl (bl [HL_c E o qh qr qt qs qn fn fs ft gh u]) H := hP
        have hD : va_D A (bl [HL_c E o qh qr qt qs qn fn fs ft gh u]) := hD
        refine W.eq (g2 := F0 m 591 ls [.int q9, .ref o]) rfl ?_
        refine lv_iconst (v := 1) hx hb dL_areErrors_591 (by decide) ?_
        refine lv_iconst (v := 1) hx hb dL_areErrors_592 (by decide) ?_
        obtain ⟨q10, h_q10, hF⟩ := bnd_s hF
        refine g_callV (As := [.int q9, .int 1, .int 1]) (rest := []) ⟨hx, hb, hml, hown, hts⟩ hK hZ hA (c_X9_addLamp l E o qh qr qt qs qn fn fs ft gh n u q9 (1) (1) q10 h_q10) (cwV 3 hts gL_areErrors_X9_addLamp rfl rfl rfl (by decide +kernel) ⟨Nat.le_of_ble_eq_true rfl, Nat.le_of_ble_eq_true rfl⟩) hP hD hS [0] [] rfl rfl rfl rfl rfl rfl hl.1 rfl (Nat.le_of_ble_eq_true rfl) dL_areErrors_593 ⟨Nat.le_of_ble_eq_true rfl, Nat.le_of_ble_eq_true rfl⟩ (fun H locs hP hD hS => ?_)
        have hP : va_P E.1 vwCl (bl [HL_c E o qh qr qt qs qn fn fs ft gh q10.2]) H := hP
        have hD : va_D A (bl [HL_c E o qh qr qt qs qn fn fs ft gh q10.2]) := hD
        refine W.eq (g2 := F0 m 596 ls [.int q10.1]) rfl ?_
        refine lv_bipush (v := (-3)) hx hb dL_areErrors_596 (by decide) ?_
        refine f_icmp_ne (tgt := 636) hx hb dL_areErrors_598 (by decide) hF (fun hF => ?_) (fun hF => ?_)
        · refine lv_iconst (v := 0) hx hb dL_areErrors_636 (by decide) ?_
          exact g_zret (rvf := fun z => some (.int z.1)) (W1f := fun z => bl [HL_c E o qh qr qt qs qn fn fs ft gh z.2]) hx hb hr hlocks rfl hQ hF rfl hP hD hS [0] rfl rfl dL_areErrors_637
        · exact hJ601 q10.2 x1 _ _ hP hD hS _ (lv_sub hl [0, 1] rfl) hF
  have hJ570 : ∀ (u : HLV) (x1 : Int64) (y0 : Int32) (H : Heap) (locs : List Loc), va_P E.1 vwCl (bl [HL_c E o qh qr qt qs qn fn fs ft gh u]) H → va_D A (bl [HL_c E o qh qr qt qs qn fn fs ft gh u]) → va_S A s.heap H locs → ∀ ls : Array Slot, lv_has ls 4 [(0, .ref o), (1, .long x1)] → F_L_areErrors_J570 n u x1 y0 = some r → W p l e ({ frames := 12, cells := 0, slots := 0, locals := 287 } : Room) s m args below meth cd H locs 0 0 Q (F0 m 570 ls [.int y0]) := by
    intro u x1 y0 H locs hP hD hS ls hl hF
    unfold F_L_areErrors_J570 at hF
    refine lv_istore_n (lv' := [(3, .int y0), (0, .ref o), (1, .long x1)]) hx hb dL_areErrors_570 rfl hl (by decide) rfl (fun ls hl => ?_)
    exact hJ571 u x1 y0 _ _ hP hD hS _ (lv_sub hl [1, 2, 0] rfl) hF
  have hJ569 : ∀ (u : HLV) (x1 : Int64) (H : Heap) (locs : List Loc), va_P E.1 vwCl (bl [HL_c E o qh qr qt qs qn fn fs ft gh u]) H → va_D A (bl [HL_c E o qh qr qt qs qn fn fs ft gh u]) → va_S A s.heap H locs → ∀ ls : Array Slot, lv_has ls 4 [(0, .ref o), (1, .long x1)] → F_L_areErrors_J569 n u x1 = some r → W p l e ({ frames := 12, cells := 0, slots := 0, locals := 287 } : Room) s m args below meth cd H locs 0 0 Q (F0 m 569 ls []) := by
    intro u x1 H locs hP hD hS ls hl hF
    unfold F_L_areErrors_J569 at hF
    refine lv_iconst (v := 0) hx hb dL_areErrors_569 (by decide) ?_
    exact hJ570 u x1 0 _ _ hP hD hS _ (lv_sub hl [0, 1] rfl) hF
  have hJ532 : ∀ (u : HLV) (x1 : Int64) (y0 : Int32) (H : Heap) (locs : List Loc), va_P E.1 vwCl (bl [HL_c E o qh qr qt qs qn fn fs ft gh u]) H → va_D A (bl [HL_c E o qh qr qt qs qn fn fs ft gh u]) → va_S A s.heap H locs → ∀ ls : Array Slot, lv_has ls 4 [(0, .ref o), (1, .long x1)] → F_L_areErrors_J532 n u x1 y0 = some r → W p l e ({ frames := 12, cells := 0, slots := 0, locals := 287 } : Room) s m args below meth cd H locs 0 0 Q (F0 m 532 ls [.int y0]) := by
    intro u x1 y0 H locs hP hD hS ls hl hF
    unfold F_L_areErrors_J532 at hF
    refine lv_istore_n (lv' := [(3, .int y0), (0, .ref o), (1, .long x1)]) hx hb dL_areErrors_532 rfl hl (by decide) rfl (fun ls hl => ?_)
    refine lv_aload_n hx hb dL_areErrors_533 rfl (lv_at hl 1 rfl) ?_
    refine lv_bipush (v := 11) hx hb dL_areErrors_534 (by decide) ?_
    obtain ⟨q3, h_q3, hF⟩ := bnd_s hF
    refine g_callV (As := [.int 11]) (rest := []) ⟨hx, hb, hml, hown, hts⟩ hK hZ hA (c_X9_count l E o qh qr qt qs qn fn fs ft gh n u (11) q3 h_q3) (cwV 1 hts gL_areErrors_X9_count rfl rfl rfl (by decide +kernel) ⟨Nat.le_of_ble_eq_true rfl, Nat.le_of_ble_eq_true rfl⟩) hP hD hS [0] [] rfl rfl rfl rfl rfl rfl hl.1 rfl (Nat.le_of_ble_eq_true rfl) dL_areErrors_536 ⟨Nat.le_of_ble_eq_true rfl, Nat.le_of_ble_eq_true rfl⟩ (fun H locs hP hD hS => ?_)
    have hP : va_P E.1 vwCl (bl [HL_c E o qh qr qt qs qn fn fs ft gh u]) H := hP
    have hD : va_D A (bl [HL_c E o qh qr qt qs qn fn fs ft gh u]) := hD
    refine W.eq (g2 := F0 m 539 ls [.int q3]) rfl ?_
    refine f_if_ne (tgt := 571) hx hb dL_areErrors_539 (by decide) hF (fun hF => ?_) (fun hF => ?_)
    · exact hJ571 u x1 y0 _ _ hP hD hS _ (lv_sub hl [1, 2, 0] rfl) hF
    · refine lv_iload_n hx hb dL_areErrors_542 rfl (lv_at hl 0 rfl) ?_
      refine f_if_eq (tgt := 569) hx hb dL_areErrors_543 (by decide) hF (fun hF => ?_) (fun hF => ?_)
      · exact hJ569 u x1 _ _ hP hD hS _ (lv_sub hl [1, 2] rfl) hF
      · refine lv_aload_n hx hb dL_areErrors_546 rfl (lv_at hl 1 rfl) ?_
        obtain ⟨q11, h_q11, hF⟩ := bnd_s hF
        refine g_callV (As := []) (rest := []) ⟨hx, hb, hml, hown, hts⟩ hK hZ hA (c_X9_recall l E o qh qr qt qs qn fn fs ft gh u q11 h_q11) (cwV 0 hts gL_areErrors_X9_recall rfl rfl rfl (by decide +kernel) ⟨Nat.le_of_ble_eq_true rfl, Nat.le_of_ble_eq_true rfl⟩) hP hD hS [0] [] rfl rfl rfl rfl rfl rfl hl.1 rfl (Nat.le_of_ble_eq_true rfl) dL_areErrors_547 ⟨Nat.le_of_ble_eq_true rfl, Nat.le_of_ble_eq_true rfl⟩ (fun H locs hP hD hS => ?_)
        have hP : va_P E.1 vwCl (bl [HL_c E o qh qr qt qs qn fn fs ft gh q11.2]) H := hP
        have hD : va_D A (bl [HL_c E o qh qr qt qs qn fn fs ft gh q11.2]) := hD
        refine W.eq (g2 := F0 m 550 ls [.int q11.1]) rfl ?_
        refine lv_bipush (v := (-2)) hx hb dL_areErrors_550 (by decide) ?_
        refine f_icmp_ne (tgt := 569) hx hb dL_areErrors_552 (by decide) hF (fun hF => ?_) (fun hF => ?_)
        · exact hJ569 q11.2 x1 _ _ hP hD hS _ (lv_sub hl [1, 2] rfl) hF
        · refine lv_aload_n hx hb dL_areErrors_555 rfl (lv_at hl 1 rfl) ?_
          refine lv_iconst (v := 0) hx hb dL_areErrors_556 (by decide) ?_
          obtain ⟨q12, h_q12, hF⟩ := bnd_s hF
          refine g_callV (As := [.int 0]) (rest := []) ⟨hx, hb, hml, hown, hts⟩ hK hZ hA (c_X9_compare l E o qh qr qt qs qn fn fs ft gh n q11.2 (0) q12 h_q12) (cwV 1 hts gL_areErrors_X9_compare rfl rfl rfl (by decide +kernel) ⟨Nat.le_of_ble_eq_true rfl, Nat.le_of_ble_eq_true rfl⟩) hP hD hS [0] [] rfl rfl rfl rfl rfl rfl hl.1 rfl (Nat.le_of_ble_eq_true rfl) dL_areErrors_557 ⟨Nat.le_of_ble_eq_true rfl, Nat.le_of_ble_eq_true rfl⟩ (fun H locs hP hD hS => ?_)
          have hP : va_P E.1 vwCl (bl [HL_c E o qh qr qt qs qn fn fs ft gh q11.2]) H := hP
          have hD : va_D A (bl [HL_c E o qh qr qt qs qn fn fs ft gh q11.2]) := hD
          refine W.eq (g2 := F0 m 560 ls [.int q12]) rfl ?_
          refine lv_bipush (v := (-2)) hx hb dL_areErrors_560 (by decide) ?_
          refine f_icmp_ne (tgt := 569) hx hb dL_areErrors_562 (by decide) hF (fun hF => ?_) (fun hF => ?_)
          · exact hJ569 q11.2 x1 _ _ hP hD hS _ (lv_sub hl [1, 2] rfl) hF
          · refine lv_iconst (v := 1) hx hb dL_areErrors_565 (by decide) ?_
            refine lv_goto (tgt := 570) hx hb dL_areErrors_566 (by decide) ?_
            exact hJ570 q11.2 x1 1 _ _ hP hD hS _ (lv_sub hl [1, 2] rfl) hF
  have hJ531 : ∀ (u : HLV) (x1 : Int64) (H : Heap) (locs : List Loc), va_P E.1 vwCl (bl [HL_c E o qh qr qt qs qn fn fs ft gh u]) H → va_D A (bl [HL_c E o qh qr qt qs qn fn fs ft gh u]) → va_S A s.heap H locs → ∀ ls : Array Slot, lv_has ls 4 [(0, .ref o), (1, .long x1)] → F_L_areErrors_J531 n u x1 = some r → W p l e ({ frames := 12, cells := 0, slots := 0, locals := 287 } : Room) s m args below meth cd H locs 0 0 Q (F0 m 531 ls []) := by
    intro u x1 H locs hP hD hS ls hl hF
    unfold F_L_areErrors_J531 at hF
    refine lv_iconst (v := 0) hx hb dL_areErrors_531 (by decide) ?_
    exact hJ532 u x1 0 _ _ hP hD hS _ (lv_sub hl [0, 1] rfl) hF
  have hJ527 : ∀ (u : HLV) (x1 : Int64) (H : Heap) (locs : List Loc), va_P E.1 vwCl (bl [HL_c E o qh qr qt qs qn fn fs ft gh u]) H → va_D A (bl [HL_c E o qh qr qt qs qn fn fs ft gh u]) → va_S A s.heap H locs → ∀ ls : Array Slot, lv_has ls 4 [(0, .ref o), (1, .long x1)] → F_L_areErrors_J527 n u x1 = some r → W p l e ({ frames := 12, cells := 0, slots := 0, locals := 287 } : Room) s m args below meth cd H locs 0 0 Q (F0 m 527 ls []) := by
    intro u x1 H locs hP hD hS ls hl hF
    unfold F_L_areErrors_J527 at hF
    refine lv_iconst (v := 1) hx hb dL_areErrors_527 (by decide) ?_
    refine lv_goto (tgt := 532) hx hb dL_areErrors_528 (by decide) ?_
    exact hJ532 u x1 1 _ _ hP hD hS _ (lv_sub hl [0, 1] rfl) hF
  have hJ480 : ∀ (u : HLV) (x1 : Int64) (H : Heap) (locs : List Loc), va_P E.1 vwCl (bl [HL_c E o qh qr qt qs qn fn fs ft gh u]) H → va_D A (bl [HL_c E o qh qr qt qs qn fn fs ft gh u]) → va_S A s.heap H locs → ∀ ls : Array Slot, lv_has ls 4 [(0, .ref o), (1, .long x1)] → F_L_areErrors_J480 n u x1 = some r → W p l e ({ frames := 12, cells := 0, slots := 0, locals := 287 } : Room) s m args below meth cd H locs 0 0 Q (F0 m 480 ls []) := by
    intro u x1 H locs hP hD hS ls hl hF
    unfold F_L_areErrors_J480 at hF
    refine lv_aload_n hx hb dL_areErrors_480 rfl (lv_at hl 0 rfl) ?_
    refine lv_iconst (v := 4) hx hb dL_areErrors_481 (by decide) ?_
    obtain ⟨q27, h_q27, hF⟩ := bnd_s hF
    refine g_callV (As := [.int 4]) (rest := []) ⟨hx, hb, hml, hown, hts⟩ hK hZ hA (c_X9_compare l E o qh qr qt qs qn fn fs ft gh n u (4) q27 h_q27) (cwV 1 hts gL_areErrors_X9_compare rfl rfl rfl (by decide +kernel) ⟨Nat.le_of_ble_eq_true rfl, Nat.le_of_ble_eq_true rfl⟩) hP hD hS [0] [] rfl rfl rfl rfl rfl rfl hl.1 rfl (Nat.le_of_ble_eq_true rfl) dL_areErrors_482 ⟨Nat.le_of_ble_eq_true rfl, Nat.le_of_ble_eq_true rfl⟩ (fun H locs hP hD hS => ?_)
    have hP : va_P E.1 vwCl (bl [HL_c E o qh qr qt qs qn fn fs ft gh u]) H := hP
    have hD : va_D A (bl [HL_c E o qh qr qt qs qn fn fs ft gh u]) := hD
    refine W.eq (g2 := F0 m 485 ls [.int q27]) rfl ?_
    refine lv_iconst (v := (-1)) hx hb dL_areErrors_485 (by decide) ?_
    refine f_icmp_ne (tgt := 531) hx hb dL_areErrors_486 (by decide) hF (fun hF => ?_) (fun hF => ?_)
    · exact hJ531 u x1 _ _ hP hD hS _ (lv_sub hl [0, 1] rfl) hF
    · refine lv_aload_n hx hb dL_areErrors_489 rfl (lv_at hl 0 rfl) ?_
      refine lv_bipush (v := 31) hx hb dL_areErrors_490 (by decide) ?_
      obtain ⟨q28, h_q28, hF⟩ := bnd_s hF
      refine g_callV (As := [.int 31]) (rest := []) ⟨hx, hb, hml, hown, hts⟩ hK hZ hA (c_X9_type l E o qh qr qt qs qn fn fs ft gh u (31) q28 h_q28) (cwV 1 hts gL_areErrors_X9_type rfl rfl rfl (by decide +kernel) ⟨Nat.le_of_ble_eq_true rfl, Nat.le_of_ble_eq_true rfl⟩) hP hD hS [0] [] rfl rfl rfl rfl rfl rfl hl.1 rfl (Nat.le_of_ble_eq_true rfl) dL_areErrors_492 ⟨Nat.le_of_ble_eq_true rfl, Nat.le_of_ble_eq_true rfl⟩ (fun H locs hP hD hS => ?_)
      have hP : va_P E.1 vwCl (bl [HL_c E o qh qr qt qs qn fn fs ft gh q28.2]) H := hP
      have hD : va_D A (bl [HL_c E o qh qr qt qs qn fn fs ft gh q28.2]) := hD
      refine W.eq (g2 := F0 m 495 ls [.int q28.1]) rfl ?_
      refine lv_iconst (v := (-1)) hx hb dL_areErrors_495 (by decide) ?_
      refine f_icmp_ne (tgt := 531) hx hb dL_areErrors_496 (by decide) hF (fun hF => ?_) (fun hF => ?_)
      · exact hJ531 q28.2 x1 _ _ hP hD hS _ (lv_sub hl [0, 1] rfl) hF
      · refine lv_aload_n hx hb dL_areErrors_499 rfl (lv_at hl 0 rfl) ?_
        refine lv_iconst (v := 2) hx hb dL_areErrors_500 (by decide) ?_
        obtain ⟨q29, h_q29, hF⟩ := bnd_s hF
        refine g_callV (As := [.int 2]) (rest := []) ⟨hx, hb, hml, hown, hts⟩ hK hZ hA (c_X9_fault l E o qh qr qt qs qn fn fs ft gh n q28.2 (2) q29 h_q29) (cwV 1 hts gL_areErrors_X9_fault rfl rfl rfl (by decide +kernel) ⟨Nat.le_of_ble_eq_true rfl, Nat.le_of_ble_eq_true rfl⟩) hP hD hS [0] [] rfl rfl rfl rfl rfl rfl hl.1 rfl (Nat.le_of_ble_eq_true rfl) dL_areErrors_501 ⟨Nat.le_of_ble_eq_true rfl, Nat.le_of_ble_eq_true rfl⟩ (fun H locs hP hD hS => ?_)
        have hP : va_P E.1 vwCl (bl [HL_c E o qh qr qt qs qn fn fs ft gh q29.2]) H := hP
        have hD : va_D A (bl [HL_c E o qh qr qt qs qn fn fs ft gh q29.2]) := hD
        refine W.eq (g2 := F0 m 504 ls [.int q29.1]) rfl ?_
        refine lv_iconst (v := (-1)) hx hb dL_areErrors_504 (by decide) ?_
        refine f_icmp_ne (tgt := 531) hx hb dL_areErrors_505 (by decide) hF (fun hF => ?_) (fun hF => ?_)
        · exact hJ531 q29.2 x1 _ _ hP hD hS _ (lv_sub hl [0, 1] rfl) hF
        · refine lv_aload_n hx hb dL_areErrors_508 rfl (lv_at hl 0 rfl) ?_
          refine lv_iconst (v := 0) hx hb dL_areErrors_509 (by decide) ?_
          obtain ⟨q30, h_q30, hF⟩ := bnd_s hF
          refine g_callV (As := [.int 0]) (rest := []) ⟨hx, hb, hml, hown, hts⟩ hK hZ hA (c_X9_fault l E o qh qr qt qs qn fn fs ft gh n q29.2 (0) q30 h_q30) (cwV 1 hts gL_areErrors_X9_fault rfl rfl rfl (by decide +kernel) ⟨Nat.le_of_ble_eq_true rfl, Nat.le_of_ble_eq_true rfl⟩) hP hD hS [0] [] rfl rfl rfl rfl rfl rfl hl.1 rfl (Nat.le_of_ble_eq_true rfl) dL_areErrors_510 ⟨Nat.le_of_ble_eq_true rfl, Nat.le_of_ble_eq_true rfl⟩ (fun H locs hP hD hS => ?_)
          have hP : va_P E.1 vwCl (bl [HL_c E o qh qr qt qs qn fn fs ft gh q30.2]) H := hP
          have hD : va_D A (bl [HL_c E o qh qr qt qs qn fn fs ft gh q30.2]) := hD
          refine W.eq (g2 := F0 m 513 ls [.int q30.1]) rfl ?_
          refine lv_bipush (v := (-4)) hx hb dL_areErrors_513 (by decide) ?_
          refine f_icmp_eq (tgt := 527) hx hb dL_areErrors_515 (by decide) hF (fun hF => ?_) (fun hF => ?_)
          · exact hJ527 q30.2 x1 _ _ hP hD hS _ (lv_sub hl [0, 1] rfl) hF
          · refine lv_aload_n hx hb dL_areErrors_518 rfl (lv_at hl 0 rfl) ?_
            obtain ⟨q31, h_q31, hF⟩ := bnd_s hF
            refine g_callV (As := []) (rest := []) ⟨hx, hb, hml, hown, hts⟩ hK hZ hA (c_X9_load l E o qh qr qt qs qn fn fs ft gh n q30.2 q31 h_q31) (cwV 0 hts gL_areErrors_X9_load rfl rfl rfl (by decide +kernel) ⟨Nat.le_of_ble_eq_true rfl, Nat.le_of_ble_eq_true rfl⟩) hP hD hS [0] [] rfl rfl rfl rfl rfl rfl hl.1 rfl (Nat.le_of_ble_eq_true rfl) dL_areErrors_519 ⟨Nat.le_of_ble_eq_true rfl, Nat.le_of_ble_eq_true rfl⟩ (fun H locs hP hD hS => ?_)
            have hP : va_P E.1 vwCl (bl [HL_c E o qh qr qt qs qn fn fs ft gh q31.2]) H := hP
            have hD : va_D A (bl [HL_c E o qh qr qt qs qn fn fs ft gh q31.2]) := hD
            refine W.eq (g2 := F0 m 522 ls [.int q31.1]) rfl ?_
            refine lv_bipush (v := (-2)) hx hb dL_areErrors_522 (by decide) ?_
            refine f_icmp_ne (tgt := 531) hx hb dL_areErrors_524 (by decide) hF (fun hF => ?_) (fun hF => ?_)
            · exact hJ531 q31.2 x1 _ _ hP hD hS _ (lv_sub hl [0, 1] rfl) hF
            · exact hJ527 q31.2 x1 _ _ hP hD hS _ (lv_sub hl [0, 1] rfl) hF
  have hJ318 : ∀ (u : HLV) (x1 : Int64) (y0 : Int32) (H : Heap) (locs : List Loc), va_P E.1 vwCl (bl [HL_c E o qh qr qt qs qn fn fs ft gh u]) H → va_D A (bl [HL_c E o qh qr qt qs qn fn fs ft gh u]) → va_S A s.heap H locs → ∀ ls : Array Slot, lv_has ls 4 [(0, .ref o), (1, .long x1)] → F_L_areErrors_J318 n u x1 y0 = some r → W p l e ({ frames := 12, cells := 0, slots := 0, locals := 287 } : Room) s m args below meth cd H locs 0 0 Q (F0 m 318 ls [.int y0]) := by
    intro u x1 y0 H locs hP hD hS ls hl hF
    unfold F_L_areErrors_J318 at hF
    refine lv_istore_n (lv' := [(3, .int y0), (0, .ref o), (1, .long x1)]) hx hb dL_areErrors_318 rfl hl (by decide) rfl (fun ls hl => ?_)
    refine lv_iload_n hx hb dL_areErrors_319 rfl (lv_at hl 0 rfl) ?_
    refine f_if_eq (tgt := 531) hx hb dL_areErrors_320 (by decide) hF (fun hF => ?_) (fun hF => ?_)
    · exact hJ531 u x1 _ _ hP hD hS _ (lv_sub hl [1, 2] rfl) hF
    · refine lv_aload_n hx hb dL_areErrors_323 rfl (lv_at hl 1 rfl) ?_
      refine lv_iconst (v := 0) hx hb dL_areErrors_324 (by decide) ?_
      obtain ⟨q13, h_q13, hF⟩ := bnd_s hF
      refine g_callV (As := [.int 0]) (rest := []) ⟨hx, hb, hml, hown, hts⟩ hK hZ hA (c_X9_advance l E o qh qr qt qs qn fn fs ft gh n u (0) q13 h_q13) (cwV 1 hts gL_areErrors_X9_advance rfl rfl rfl (by decide +kernel) ⟨Nat.le_of_ble_eq_true rfl, Nat.le_of_ble_eq_true rfl⟩) hP hD hS [0] [] rfl rfl rfl rfl rfl rfl hl.1 rfl (Nat.le_of_ble_eq_true rfl) dL_areErrors_325 ⟨Nat.le_of_ble_eq_true rfl, Nat.le_of_ble_eq_true rfl⟩ (fun H locs hP hD hS => ?_)
      have hP : va_P E.1 vwCl (bl [HL_c E o qh qr qt qs qn fn fs ft gh q13.2]) H := hP
      have hD : va_D A (bl [HL_c E o qh qr qt qs qn fn fs ft gh q13.2]) := hD
      refine W.eq (g2 := F0 m 328 ls [.int q13.1]) rfl ?_
      refine lv_iconst (v := (-1)) hx hb dL_areErrors_328 (by decide) ?_
      refine f_icmp_ne (tgt := 531) hx hb dL_areErrors_329 (by decide) hF (fun hF => ?_) (fun hF => ?_)
      · exact hJ531 q13.2 x1 _ _ hP hD hS _ (lv_sub hl [1, 2] rfl) hF
      · refine lv_aload_n hx hb dL_areErrors_332 rfl (lv_at hl 1 rfl) ?_
        refine lv_sipush (v := 2001) hx hb dL_areErrors_333 (by decide) ?_
        obtain ⟨q14, h_q14, hF⟩ := bnd_s hF
        refine g_callV (As := [.int 2001]) (rest := []) ⟨hx, hb, hml, hown, hts⟩ hK hZ hA (c_X9_advance l E o qh qr qt qs qn fn fs ft gh n q13.2 (2001) q14 h_q14) (cwV 1 hts gL_areErrors_X9_advance rfl rfl rfl (by decide +kernel) ⟨Nat.le_of_ble_eq_true rfl, Nat.le_of_ble_eq_true rfl⟩) hP hD hS [0] [] rfl rfl rfl rfl rfl rfl hl.1 rfl (Nat.le_of_ble_eq_true rfl) dL_areErrors_336 ⟨Nat.le_of_ble_eq_true rfl, Nat.le_of_ble_eq_true rfl⟩ (fun H locs hP hD hS => ?_)
        have hP : va_P E.1 vwCl (bl [HL_c E o qh qr qt qs qn fn fs ft gh q14.2]) H := hP
        have hD : va_D A (bl [HL_c E o qh qr qt qs qn fn fs ft gh q14.2]) := hD
        refine W.eq (g2 := F0 m 339 ls [.int q14.1]) rfl ?_
        refine lv_iconst (v := (-1)) hx hb dL_areErrors_339 (by decide) ?_
        refine f_icmp_ne (tgt := 531) hx hb dL_areErrors_340 (by decide) hF (fun hF => ?_) (fun hF => ?_)
        · exact hJ531 q14.2 x1 _ _ hP hD hS _ (lv_sub hl [1, 2] rfl) hF
        · refine lv_aload_n hx hb dL_areErrors_343 rfl (lv_at hl 1 rfl) ?_
          refine lv_bipush (v := 8) hx hb dL_areErrors_344 (by decide) ?_
          obtain ⟨q15, h_q15, hF⟩ := bnd_s hF
          refine g_callV (As := [.int 8]) (rest := []) ⟨hx, hb, hml, hown, hts⟩ hK hZ hA (c_X9_account l E o qh qr qt qs qn fn fs ft gh q14.2 (8) q15 h_q15) (cwV 1 hts gL_areErrors_X9_account rfl rfl rfl (by decide +kernel) ⟨Nat.le_of_ble_eq_true rfl, Nat.le_of_ble_eq_true rfl⟩) hP hD hS [0] [] rfl rfl rfl rfl rfl rfl hl.1 rfl (Nat.le_of_ble_eq_true rfl) dL_areErrors_346 ⟨Nat.le_of_ble_eq_true rfl, Nat.le_of_ble_eq_true rfl⟩ (fun H locs hP hD hS => ?_)
          have hP : va_P E.1 vwCl (bl [HL_c E o qh qr qt qs qn fn fs ft gh q14.2]) H := hP
          have hD : va_D A (bl [HL_c E o qh qr qt qs qn fn fs ft gh q14.2]) := hD
          refine W.eq (g2 := F0 m 349 ls [.int q15]) rfl ?_
          refine lv_iconst (v := (-1)) hx hb dL_areErrors_349 (by decide) ?_
          refine f_icmp_ne (tgt := 531) hx hb dL_areErrors_350 (by decide) hF (fun hF => ?_) (fun hF => ?_)
          · exact hJ531 q14.2 x1 _ _ hP hD hS _ (lv_sub hl [1, 2] rfl) hF
          · refine lv_aload_n hx hb dL_areErrors_353 rfl (lv_at hl 1 rfl) ?_
            refine lv_bipush (v := 12) hx hb dL_areErrors_354 (by decide) ?_
            obtain ⟨q16, h_q16, hF⟩ := bnd_s hF
            refine g_callV (As := [.int 12]) (rest := []) ⟨hx, hb, hml, hown, hts⟩ hK hZ hA (c_X9_count l E o qh qr qt qs qn fn fs ft gh n q14.2 (12) q16 h_q16) (cwV 1 hts gL_areErrors_X9_count rfl rfl rfl (by decide +kernel) ⟨Nat.le_of_ble_eq_true rfl, Nat.le_of_ble_eq_true rfl⟩) hP hD hS [0] [] rfl rfl rfl rfl rfl rfl hl.1 rfl (Nat.le_of_ble_eq_true rfl) dL_areErrors_356 ⟨Nat.le_of_ble_eq_true rfl, Nat.le_of_ble_eq_true rfl⟩ (fun H locs hP hD hS => ?_)
            have hP : va_P E.1 vwCl (bl [HL_c E o qh qr qt qs qn fn fs ft gh q14.2]) H := hP
            have hD : va_D A (bl [HL_c E o qh qr qt qs qn fn fs ft gh q14.2]) := hD
            refine W.eq (g2 := F0 m 359 ls [.int q16]) rfl ?_
            refine lv_iconst (v := (-1)) hx hb dL_areErrors_359 (by decide) ?_
            refine f_icmp_ne (tgt := 531) hx hb dL_areErrors_360 (by decide) hF (fun hF => ?_) (fun hF => ?_)
            · exact hJ531 q14.2 x1 _ _ hP hD hS _ (lv_sub hl [1, 2] rfl) hF
            · refine lv_aload_n hx hb dL_areErrors_363 rfl (lv_at hl 1 rfl) ?_
              refine lv_sipush (v := 10001) hx hb dL_areErrors_364 (by decide) ?_
              refine lv_iconst (v := 0) hx hb dL_areErrors_367 (by decide) ?_
              obtain ⟨q17, h_q17, hF⟩ := bnd_s hF
              refine g_callV (As := [.int 10001, .int 0]) (rest := []) ⟨hx, hb, hml, hown, hts⟩ hK hZ hA (c_X9_sees l E o qh qr qt qs qn fn fs ft gh n q14.2 (10001) (0) q17 h_q17) (cwV 2 hts gL_areErrors_X9_sees rfl rfl rfl (by decide +kernel) ⟨Nat.le_of_ble_eq_true rfl, Nat.le_of_ble_eq_true rfl⟩) hP hD hS [0] [] rfl rfl rfl rfl rfl rfl hl.1 rfl (Nat.le_of_ble_eq_true rfl) dL_areErrors_368 ⟨Nat.le_of_ble_eq_true rfl, Nat.le_of_ble_eq_true rfl⟩ (fun H locs hP hD hS => ?_)
              have hP : va_P E.1 vwCl (bl [HL_c E o qh qr qt qs qn fn fs ft gh q17.2]) H := hP
              have hD : va_D A (bl [HL_c E o qh qr qt qs qn fn fs ft gh q17.2]) := hD
              refine W.eq (g2 := F0 m 371 ls [.int q17.1]) rfl ?_
              refine lv_iconst (v := (-1)) hx hb dL_areErrors_371 (by decide) ?_
              refine f_icmp_ne (tgt := 531) hx hb dL_areErrors_372 (by decide) hF (fun hF => ?_) (fun hF => ?_)
              · exact hJ531 q17.2 x1 _ _ hP hD hS _ (lv_sub hl [1, 2] rfl) hF
              · refine lv_aload_n hx hb dL_areErrors_375 rfl (lv_at hl 1 rfl) ?_
                refine lv_iconst (v := 0) hx hb dL_areErrors_376 (by decide) ?_
                refine lv_iconst (v := 0) hx hb dL_areErrors_377 (by decide) ?_
                obtain ⟨q18, h_q18, hF⟩ := bnd_s hF
                refine g_callV (As := [.int 0, .int 0]) (rest := []) ⟨hx, hb, hml, hown, hts⟩ hK hZ hA (c_X9_sees l E o qh qr qt qs qn fn fs ft gh n q17.2 (0) (0) q18 h_q18) (cwV 2 hts gL_areErrors_X9_sees rfl rfl rfl (by decide +kernel) ⟨Nat.le_of_ble_eq_true rfl, Nat.le_of_ble_eq_true rfl⟩) hP hD hS [0] [] rfl rfl rfl rfl rfl rfl hl.1 rfl (Nat.le_of_ble_eq_true rfl) dL_areErrors_378 ⟨Nat.le_of_ble_eq_true rfl, Nat.le_of_ble_eq_true rfl⟩ (fun H locs hP hD hS => ?_)
                have hP : va_P E.1 vwCl (bl [HL_c E o qh qr qt qs qn fn fs ft gh q18.2]) H := hP
                have hD : va_D A (bl [HL_c E o qh qr qt qs qn fn fs ft gh q18.2]) := hD
                refine W.eq (g2 := F0 m 381 ls [.int q18.1]) rfl ?_
                refine lv_bipush (v := (-2)) hx hb dL_areErrors_381 (by decide) ?_
                refine f_icmp_ne (tgt := 531) hx hb dL_areErrors_383 (by decide) hF (fun hF => ?_) (fun hF => ?_)
                · exact hJ531 q18.2 x1 _ _ hP hD hS _ (lv_sub hl [1, 2] rfl) hF
                · refine lv_aload_n hx hb dL_areErrors_386 rfl (lv_at hl 1 rfl) ?_
                  refine lv_iconst (v := 0) hx hb dL_areErrors_387 (by decide) ?_
                  refine lv_iconst (v := 0) hx hb dL_areErrors_388 (by decide) ?_
                  refine lv_iconst (v := 0) hx hb dL_areErrors_389 (by decide) ?_
                  refine lv_sipush (v := 10001) hx hb dL_areErrors_390 (by decide) ?_
                  refine lv_iconst (v := 1) hx hb dL_areErrors_393 (by decide) ?_
                  obtain ⟨q19, h_q19, hF⟩ := bnd_s hF
                  refine g_callV (As := [.int 0, .int 0, .int 0, .int 10001, .int 1]) (rest := []) ⟨hx, hb, hml, hown, hts⟩ hK hZ hA (c_X9_pass l E o qh qr qt qs qn fn fs ft gh n q18.2 (0) (0) (0) (10001) (1) q19 h_q19) (cwV 5 hts gL_areErrors_X9_pass rfl rfl rfl (by decide +kernel) ⟨Nat.le_of_ble_eq_true rfl, Nat.le_of_ble_eq_true rfl⟩) hP hD hS [0] [] rfl rfl rfl rfl rfl rfl hl.1 rfl (Nat.le_of_ble_eq_true rfl) dL_areErrors_394 ⟨Nat.le_of_ble_eq_true rfl, Nat.le_of_ble_eq_true rfl⟩ (fun H locs hP hD hS => ?_)
                  have hP : va_P E.1 vwCl (bl [HL_c E o qh qr qt qs qn fn fs ft gh q19.2]) H := hP
                  have hD : va_D A (bl [HL_c E o qh qr qt qs qn fn fs ft gh q19.2]) := hD
                  refine W.eq (g2 := F0 m 397 ls [.int q19.1]) rfl ?_
                  refine lv_iconst (v := (-1)) hx hb dL_areErrors_397 (by decide) ?_
                  refine f_icmp_ne (tgt := 531) hx hb dL_areErrors_398 (by decide) hF (fun hF => ?_) (fun hF => ?_)
                  · exact hJ531 q19.2 x1 _ _ hP hD hS _ (lv_sub hl [1, 2] rfl) hF
                  · refine lv_aload_n hx hb dL_areErrors_401 rfl (lv_at hl 1 rfl) ?_
                    refine lv_iconst (v := 0) hx hb dL_areErrors_402 (by decide) ?_
                    refine lv_iconst (v := 0) hx hb dL_areErrors_403 (by decide) ?_
                    refine lv_iconst (v := 0) hx hb dL_areErrors_404 (by decide) ?_
                    refine lv_iconst (v := 0) hx hb dL_areErrors_405 (by decide) ?_
                    refine lv_sipush (v := 501) hx hb dL_areErrors_406 (by decide) ?_
                    obtain ⟨q20, h_q20, hF⟩ := bnd_s hF
                    refine g_callV (As := [.int 0, .int 0, .int 0, .int 0, .int 501]) (rest := []) ⟨hx, hb, hml, hown, hts⟩ hK hZ hA (c_X9_pass l E o qh qr qt qs qn fn fs ft gh n q19.2 (0) (0) (0) (0) (501) q20 h_q20) (cwV 5 hts gL_areErrors_X9_pass rfl rfl rfl (by decide +kernel) ⟨Nat.le_of_ble_eq_true rfl, Nat.le_of_ble_eq_true rfl⟩) hP hD hS [0] [] rfl rfl rfl rfl rfl rfl hl.1 rfl (Nat.le_of_ble_eq_true rfl) dL_areErrors_409 ⟨Nat.le_of_ble_eq_true rfl, Nat.le_of_ble_eq_true rfl⟩ (fun H locs hP hD hS => ?_)
                    have hP : va_P E.1 vwCl (bl [HL_c E o qh qr qt qs qn fn fs ft gh q20.2]) H := hP
                    have hD : va_D A (bl [HL_c E o qh qr qt qs qn fn fs ft gh q20.2]) := hD
                    refine W.eq (g2 := F0 m 412 ls [.int q20.1]) rfl ?_
                    refine lv_iconst (v := (-1)) hx hb dL_areErrors_412 (by decide) ?_
                    refine f_icmp_ne (tgt := 531) hx hb dL_areErrors_413 (by decide) hF (fun hF => ?_) (fun hF => ?_)
                    · exact hJ531 q20.2 x1 _ _ hP hD hS _ (lv_sub hl [1, 2] rfl) hF
                    · refine lv_aload_n hx hb dL_areErrors_416 rfl (lv_at hl 1 rfl) ?_
                      refine lv_iconst (v := (-1)) hx hb dL_areErrors_417 (by decide) ?_
                      refine lv_iconst (v := 0) hx hb dL_areErrors_418 (by decide) ?_
                      obtain ⟨q21, h_q21, hF⟩ := bnd_s hF
                      refine g_callV (As := [.int (-1), .int 0]) (rest := []) ⟨hx, hb, hml, hown, hts⟩ hK hZ hA (c_X9_entry l E o qh qr qt qs qn fn fs ft gh q20.2 ((-1)) (0) q21 h_q21) (cwV 2 hts gL_areErrors_X9_entry rfl rfl rfl (by decide +kernel) ⟨Nat.le_of_ble_eq_true rfl, Nat.le_of_ble_eq_true rfl⟩) hP hD hS [0] [] rfl rfl rfl rfl rfl rfl hl.1 rfl (Nat.le_of_ble_eq_true rfl) dL_areErrors_419 ⟨Nat.le_of_ble_eq_true rfl, Nat.le_of_ble_eq_true rfl⟩ (fun H locs hP hD hS => ?_)
                      have hP : va_P E.1 vwCl (bl [HL_c E o qh qr qt qs qn fn fs ft gh q20.2]) H := hP
                      have hD : va_D A (bl [HL_c E o qh qr qt qs qn fn fs ft gh q20.2]) := hD
                      refine W.eq (g2 := F0 m 422 ls [.int q21]) rfl ?_
                      refine lv_iconst (v := (-1)) hx hb dL_areErrors_422 (by decide) ?_
                      refine f_icmp_ne (tgt := 531) hx hb dL_areErrors_423 (by decide) hF (fun hF => ?_) (fun hF => ?_)
                      · exact hJ531 q20.2 x1 _ _ hP hD hS _ (lv_sub hl [1, 2] rfl) hF
                      · refine lv_aload_n hx hb dL_areErrors_426 rfl (lv_at hl 1 rfl) ?_
                        refine lv_iconst (v := 0) hx hb dL_areErrors_427 (by decide) ?_
                        refine lv_iconst (v := 4) hx hb dL_areErrors_428 (by decide) ?_
                        obtain ⟨q22, h_q22, hF⟩ := bnd_s hF
                        refine g_callV (As := [.int 0, .int 4]) (rest := []) ⟨hx, hb, hml, hown, hts⟩ hK hZ hA (c_X9_entry l E o qh qr qt qs qn fn fs ft gh q20.2 (0) (4) q22 h_q22) (cwV 2 hts gL_areErrors_X9_entry rfl rfl rfl (by decide +kernel) ⟨Nat.le_of_ble_eq_true rfl, Nat.le_of_ble_eq_true rfl⟩) hP hD hS [0] [] rfl rfl rfl rfl rfl rfl hl.1 rfl (Nat.le_of_ble_eq_true rfl) dL_areErrors_429 ⟨Nat.le_of_ble_eq_true rfl, Nat.le_of_ble_eq_true rfl⟩ (fun H locs hP hD hS => ?_)
                        have hP : va_P E.1 vwCl (bl [HL_c E o qh qr qt qs qn fn fs ft gh q20.2]) H := hP
                        have hD : va_D A (bl [HL_c E o qh qr qt qs qn fn fs ft gh q20.2]) := hD
                        refine W.eq (g2 := F0 m 432 ls [.int q22]) rfl ?_
                        refine lv_iconst (v := (-1)) hx hb dL_areErrors_432 (by decide) ?_
                        refine f_icmp_ne (tgt := 531) hx hb dL_areErrors_433 (by decide) hF (fun hF => ?_) (fun hF => ?_)
                        · exact hJ531 q20.2 x1 _ _ hP hD hS _ (lv_sub hl [1, 2] rfl) hF
                        · refine lv_aload_n hx hb dL_areErrors_436 rfl (lv_at hl 1 rfl) ?_
                          refine lv_aload_n hx hb dL_areErrors_437 rfl (lv_at hl 1 rfl) ?_
                          refine lv_bipush (v := 8) hx hb dL_areErrors_438 (by decide) ?_
                          obtain ⟨q23, h_q23, hF⟩ := bnd_s hF
                          refine g_callV (As := [.int 8]) (rest := [.ref o]) ⟨hx, hb, hml, hown, hts⟩ hK hZ hA (c_X9_count l E o qh qr qt qs qn fn fs ft gh n q20.2 (8) q23 h_q23) (cwV 1 hts gL_areErrors_X9_count rfl rfl rfl (by decide +kernel) ⟨Nat.le_of_ble_eq_true rfl, Nat.le_of_ble_eq_true rfl⟩) hP hD hS [0] [] rfl rfl rfl rfl rfl rfl hl.1 rfl (Nat.le_of_ble_eq_true rfl) dL_areErrors_440 ⟨Nat.le_of_ble_eq_true rfl, Nat.le_of_ble_eq_true rfl⟩ (fun H locs hP hD hS => ?_)
                          have hP : va_P E.1 vwCl (bl [HL_c E o qh qr qt qs qn fn fs ft gh q20.2]) H := hP
                          have hD : va_D A (bl [HL_c E o qh qr qt qs qn fn fs ft gh q20.2]) := hD
                          refine W.eq (g2 := F0 m 443 ls [.int q23, .ref o]) rfl ?_
                          refine lv_iconst (v := 0) hx hb dL_areErrors_443 (by decide) ?_
                          obtain ⟨q24, h_q24, hF⟩ := bnd_s hF
                          refine g_callV (As := [.int q23, .int 0]) (rest := []) ⟨hx, hb, hml, hown, hts⟩ hK hZ hA (c_X9_entry l E o qh qr qt qs qn fn fs ft gh q20.2 q23 (0) q24 h_q24) (cwV 2 hts gL_areErrors_X9_entry rfl rfl rfl (by decide +kernel) ⟨Nat.le_of_ble_eq_true rfl, Nat.le_of_ble_eq_true rfl⟩) hP hD hS [0] [] rfl rfl rfl rfl rfl rfl hl.1 rfl (Nat.le_of_ble_eq_true rfl) dL_areErrors_444 ⟨Nat.le_of_ble_eq_true rfl, Nat.le_of_ble_eq_true rfl⟩ (fun H locs hP hD hS => ?_)
                          have hP : va_P E.1 vwCl (bl [HL_c E o qh qr qt qs qn fn fs ft gh q20.2]) H := hP
                          have hD : va_D A (bl [HL_c E o qh qr qt qs qn fn fs ft gh q20.2]) := hD
                          refine W.eq (g2 := F0 m 447 ls [.int q24]) rfl ?_
                          refine lv_bipush (v := (-4)) hx hb dL_areErrors_447 (by decide) ?_
                          refine f_icmp_ne (tgt := 531) hx hb dL_areErrors_449 (by decide) hF (fun hF => ?_) (fun hF => ?_)
                          · exact hJ531 q20.2 x1 _ _ hP hD hS _ (lv_sub hl [1, 2] rfl) hF
                          · refine lv_aload_n hx hb dL_areErrors_452 rfl (lv_at hl 1 rfl) ?_
                            refine lv_iconst (v := 4) hx hb dL_areErrors_453 (by decide) ?_
                            obtain ⟨q25, h_q25, hF⟩ := bnd_s hF
                            refine g_callV (As := [.int 4]) (rest := []) ⟨hx, hb, hml, hown, hts⟩ hK hZ hA (c_X9_seen l E o qh qr qt qs qn fn fs ft gh q20.2 (4) q25 h_q25) (cwV 1 hts gL_areErrors_X9_seen rfl rfl rfl (by decide +kernel) ⟨Nat.le_of_ble_eq_true rfl, Nat.le_of_ble_eq_true rfl⟩) hP hD hS [0] [] rfl rfl rfl rfl rfl rfl hl.1 rfl (Nat.le_of_ble_eq_true rfl) dL_areErrors_454 ⟨Nat.le_of_ble_eq_true rfl, Nat.le_of_ble_eq_true rfl⟩ (fun H locs hP hD hS => ?_)
                            have hP : va_P E.1 vwCl (bl [HL_c E o qh qr qt qs qn fn fs ft gh q20.2]) H := hP
                            have hD : va_D A (bl [HL_c E o qh qr qt qs qn fn fs ft gh q20.2]) := hD
                            refine W.eq (g2 := F0 m 457 ls [.int q25]) rfl ?_
                            refine lv_iconst (v := (-1)) hx hb dL_areErrors_457 (by decide) ?_
                            refine f_icmp_ne (tgt := 531) hx hb dL_areErrors_458 (by decide) hF (fun hF => ?_) (fun hF => ?_)
                            · exact hJ531 q20.2 x1 _ _ hP hD hS _ (lv_sub hl [1, 2] rfl) hF
                            · refine lv_aload_n hx hb dL_areErrors_461 rfl (lv_at hl 1 rfl) ?_
                              refine lv_bipush (v := 6) hx hb dL_areErrors_462 (by decide) ?_
                              obtain ⟨q26, h_q26, hF⟩ := bnd_s hF
                              refine g_callV (As := [.int 6]) (rest := []) ⟨hx, hb, hml, hown, hts⟩ hK hZ hA (c_X9_account l E o qh qr qt qs qn fn fs ft gh q20.2 (6) q26 h_q26) (cwV 1 hts gL_areErrors_X9_account rfl rfl rfl (by decide +kernel) ⟨Nat.le_of_ble_eq_true rfl, Nat.le_of_ble_eq_true rfl⟩) hP hD hS [0] [] rfl rfl rfl rfl rfl rfl hl.1 rfl (Nat.le_of_ble_eq_true rfl) dL_areErrors_464 ⟨Nat.le_of_ble_eq_true rfl, Nat.le_of_ble_eq_true rfl⟩ (fun H locs hP hD hS => ?_)
                              have hP : va_P E.1 vwCl (bl [HL_c E o qh qr qt qs qn fn fs ft gh q20.2]) H := hP
                              have hD : va_D A (bl [HL_c E o qh qr qt qs qn fn fs ft gh q20.2]) := hD
                              refine W.eq (g2 := F0 m 467 ls [.int q26]) rfl ?_
                              refine f_if_gt (tgt := 480) hx hb dL_areErrors_467 (by decide) hF (fun hF => ?_) (fun hF => ?_)
                              · exact hJ480 q20.2 x1 _ _ hP hD hS _ (lv_sub hl [1, 2] rfl) hF
                              · refine lv_aload_n hx hb dL_areErrors_470 rfl (lv_at hl 1 rfl) ?_
                                refine lv_iconst (v := 0) hx hb dL_areErrors_471 (by decide) ?_
                                obtain ⟨q32, h_q32, hF⟩ := bnd_s hF
                                refine g_callV (As := [.int 0]) (rest := []) ⟨hx, hb, hml, hown, hts⟩ hK hZ hA (c_X9_seen l E o qh qr qt qs qn fn fs ft gh q20.2 (0) q32 h_q32) (cwV 1 hts gL_areErrors_X9_seen rfl rfl rfl (by decide +kernel) ⟨Nat.le_of_ble_eq_true rfl, Nat.le_of_ble_eq_true rfl⟩) hP hD hS [0] [] rfl rfl rfl rfl rfl rfl hl.1 rfl (Nat.le_of_ble_eq_true rfl) dL_areErrors_472 ⟨Nat.le_of_ble_eq_true rfl, Nat.le_of_ble_eq_true rfl⟩ (fun H locs hP hD hS => ?_)
                                have hP : va_P E.1 vwCl (bl [HL_c E o qh qr qt qs qn fn fs ft gh q20.2]) H := hP
                                have hD : va_D A (bl [HL_c E o qh qr qt qs qn fn fs ft gh q20.2]) := hD
                                refine W.eq (g2 := F0 m 475 ls [.int q32]) rfl ?_
                                refine lv_bipush (v := (-2)) hx hb dL_areErrors_475 (by decide) ?_
                                refine f_icmp_ne (tgt := 531) hx hb dL_areErrors_477 (by decide) hF (fun hF => ?_) (fun hF => ?_)
                                · exact hJ531 q20.2 x1 _ _ hP hD hS _ (lv_sub hl [1, 2] rfl) hF
                                · exact hJ480 q20.2 x1 _ _ hP hD hS _ (lv_sub hl [1, 2] rfl) hF
  have hJ317 : ∀ (u : HLV) (x1 : Int64) (H : Heap) (locs : List Loc), va_P E.1 vwCl (bl [HL_c E o qh qr qt qs qn fn fs ft gh u]) H → va_D A (bl [HL_c E o qh qr qt qs qn fn fs ft gh u]) → va_S A s.heap H locs → ∀ ls : Array Slot, lv_has ls 4 [(0, .ref o), (1, .long x1)] → F_L_areErrors_J317 n u x1 = some r → W p l e ({ frames := 12, cells := 0, slots := 0, locals := 287 } : Room) s m args below meth cd H locs 0 0 Q (F0 m 317 ls []) := by
    intro u x1 H locs hP hD hS ls hl hF
    unfold F_L_areErrors_J317 at hF
    refine lv_iconst (v := 0) hx hb dL_areErrors_317 (by decide) ?_
    exact hJ318 u x1 0 _ _ hP hD hS _ (lv_sub hl [0, 1] rfl) hF
  unfold F_L_areErrors at hF
  refine lv_aload_n hx hb dL_areErrors_0 rfl (lv_at hl 0 rfl) ?_
  obtain ⟨q1, h_q1, hF⟩ := bnd_s hF
  refine g_callS (As := [.ref o]) (rest := []) ⟨hx, hb, hml, hown, hts⟩ hK hZ hA (c_L_print l E o qh qr qt qs qn fn fs ft gh n v q1 h_q1) (va_cwS 1 hts gL_areErrors_L_print rfl rfl rfl (by decide +kernel) ⟨Nat.le_of_ble_eq_true rfl, Nat.le_of_ble_eq_true rfl⟩) hP hD hS [0] [] rfl rfl rfl hl.1 rfl (Nat.le_of_ble_eq_true rfl) dL_areErrors_1 ⟨Nat.le_of_ble_eq_true rfl, Nat.le_of_ble_eq_true rfl⟩ (fun H locs hP hD hS => ?_)
  have hP : va_P E.1 vwCl (bl [HL_c E o qh qr qt qs qn fn fs ft gh q1.2]) H := hP
  have hD : va_D A (bl [HL_c E o qh qr qt qs qn fn fs ft gh q1.2]) := hD
  refine W.eq (g2 := F0 m 4 ls [.long q1.1]) rfl ?_
  refine lv_lstore_n (lv' := [(1, .long q1.1), (0, .ref o)]) hx hb dL_areErrors_4 rfl hl (by decide) rfl (fun ls hl => ?_)
  refine lv_aload_n hx hb dL_areErrors_5 rfl (lv_at hl 1 rfl) ?_
  refine lv_iconst (v := 4) hx hb dL_areErrors_6 (by decide) ?_
  refine lv_iconst (v := 0) hx hb dL_areErrors_7 (by decide) ?_
  refine lv_iconst (v := 0) hx hb dL_areErrors_8 (by decide) ?_
  obtain ⟨q2, h_q2, hF⟩ := bnd_s hF
  refine g_callV (As := [.int 4, .int 0, .int 0]) (rest := []) ⟨hx, hb, hml, hown, hts⟩ hK hZ hA (c_X9_paint l E o qh qr qt qs qn fn fs ft gh n q1.2 (4) (0) (0) q2 h_q2) (cwV 3 hts gL_areErrors_X9_paint rfl rfl rfl (by decide +kernel) ⟨Nat.le_of_ble_eq_true rfl, Nat.le_of_ble_eq_true rfl⟩) hP hD hS [0] [] rfl rfl rfl rfl rfl rfl hl.1 rfl (Nat.le_of_ble_eq_true rfl) dL_areErrors_9 ⟨Nat.le_of_ble_eq_true rfl, Nat.le_of_ble_eq_true rfl⟩ (fun H locs hP hD hS => ?_)
  have hP : va_P E.1 vwCl (bl [HL_c E o qh qr qt qs qn fn fs ft gh q2.2]) H := hP
  have hD : va_D A (bl [HL_c E o qh qr qt qs qn fn fs ft gh q2.2]) := hD
  refine W.eq (g2 := F0 m 12 ls [.int q2.1]) rfl ?_
  refine lv_iconst (v := (-1)) hx hb dL_areErrors_12 (by decide) ?_
  refine f_icmp_ne (tgt := 317) hx hb dL_areErrors_13 (by decide) hF (fun hF => ?_) (fun hF => ?_)
  · exact hJ317 q2.2 q1.1 _ _ hP hD hS _ (lv_sub hl [1, 0] rfl) hF
  · refine lv_aload_n hx hb dL_areErrors_16 rfl (lv_at hl 1 rfl) ?_
    refine lv_iconst (v := 0) hx hb dL_areErrors_17 (by decide) ?_
    refine lv_bipush (v := 64) hx hb dL_areErrors_18 (by decide) ?_
    refine lv_iconst (v := 0) hx hb dL_areErrors_20 (by decide) ?_
    obtain ⟨q33, h_q33, hF⟩ := bnd_s hF
    refine g_callV (As := [.int 0, .int 64, .int 0]) (rest := []) ⟨hx, hb, hml, hown, hts⟩ hK hZ hA (c_X9_paint l E o qh qr qt qs qn fn fs ft gh n q2.2 (0) (64) (0) q33 h_q33) (cwV 3 hts gL_areErrors_X9_paint rfl rfl rfl (by decide +kernel) ⟨Nat.le_of_ble_eq_true rfl, Nat.le_of_ble_eq_true rfl⟩) hP hD hS [0] [] rfl rfl rfl rfl rfl rfl hl.1 rfl (Nat.le_of_ble_eq_true rfl) dL_areErrors_21 ⟨Nat.le_of_ble_eq_true rfl, Nat.le_of_ble_eq_true rfl⟩ (fun H locs hP hD hS => ?_)
    have hP : va_P E.1 vwCl (bl [HL_c E o qh qr qt qs qn fn fs ft gh q33.2]) H := hP
    have hD : va_D A (bl [HL_c E o qh qr qt qs qn fn fs ft gh q33.2]) := hD
    refine W.eq (g2 := F0 m 24 ls [.int q33.1]) rfl ?_
    refine lv_iconst (v := (-1)) hx hb dL_areErrors_24 (by decide) ?_
    refine f_icmp_ne (tgt := 317) hx hb dL_areErrors_25 (by decide) hF (fun hF => ?_) (fun hF => ?_)
    · exact hJ317 q33.2 q1.1 _ _ hP hD hS _ (lv_sub hl [1, 0] rfl) hF
    · refine lv_aload_n hx hb dL_areErrors_28 rfl (lv_at hl 1 rfl) ?_
      refine lv_iconst (v := 0) hx hb dL_areErrors_29 (by decide) ?_
      refine lv_iconst (v := 0) hx hb dL_areErrors_30 (by decide) ?_
      refine lv_iconst (v := (-1)) hx hb dL_areErrors_31 (by decide) ?_
      obtain ⟨q34, h_q34, hF⟩ := bnd_s hF
      refine g_callV (As := [.int 0, .int 0, .int (-1)]) (rest := []) ⟨hx, hb, hml, hown, hts⟩ hK hZ hA (c_X9_paint l E o qh qr qt qs qn fn fs ft gh n q33.2 (0) (0) ((-1)) q34 h_q34) (cwV 3 hts gL_areErrors_X9_paint rfl rfl rfl (by decide +kernel) ⟨Nat.le_of_ble_eq_true rfl, Nat.le_of_ble_eq_true rfl⟩) hP hD hS [0] [] rfl rfl rfl rfl rfl rfl hl.1 rfl (Nat.le_of_ble_eq_true rfl) dL_areErrors_32 ⟨Nat.le_of_ble_eq_true rfl, Nat.le_of_ble_eq_true rfl⟩ (fun H locs hP hD hS => ?_)
      have hP : va_P E.1 vwCl (bl [HL_c E o qh qr qt qs qn fn fs ft gh q34.2]) H := hP
      have hD : va_D A (bl [HL_c E o qh qr qt qs qn fn fs ft gh q34.2]) := hD
      refine W.eq (g2 := F0 m 35 ls [.int q34.1]) rfl ?_
      refine lv_iconst (v := (-1)) hx hb dL_areErrors_35 (by decide) ?_
      refine f_icmp_ne (tgt := 317) hx hb dL_areErrors_36 (by decide) hF (fun hF => ?_) (fun hF => ?_)
      · exact hJ317 q34.2 q1.1 _ _ hP hD hS _ (lv_sub hl [1, 0] rfl) hF
      · refine lv_aload_n hx hb dL_areErrors_39 rfl (lv_at hl 1 rfl) ?_
        refine lv_bipush (v := 64) hx hb dL_areErrors_40 (by decide) ?_
        obtain ⟨q35, h_q35, hF⟩ := bnd_s hF
        refine g_callV (As := [.int 64]) (rest := []) ⟨hx, hb, hml, hown, hts⟩ hK hZ hA (c_X9_color l E o qh qr qt qs qn fn fs ft gh q34.2 (64) q35 h_q35) (cwV 1 hts gL_areErrors_X9_color rfl rfl rfl (by decide +kernel) ⟨Nat.le_of_ble_eq_true rfl, Nat.le_of_ble_eq_true rfl⟩) hP hD hS [0] [] rfl rfl rfl rfl rfl rfl hl.1 rfl (Nat.le_of_ble_eq_true rfl) dL_areErrors_42 ⟨Nat.le_of_ble_eq_true rfl, Nat.le_of_ble_eq_true rfl⟩ (fun H locs hP hD hS => ?_)
        have hP : va_P E.1 vwCl (bl [HL_c E o qh qr qt qs qn fn fs ft gh q34.2]) H := hP
        have hD : va_D A (bl [HL_c E o qh qr qt qs qn fn fs ft gh q34.2]) := hD
        refine W.eq (g2 := F0 m 45 ls [.int q35]) rfl ?_
        refine lv_iconst (v := (-1)) hx hb dL_areErrors_45 (by decide) ?_
        refine f_icmp_ne (tgt := 317) hx hb dL_areErrors_46 (by decide) hF (fun hF => ?_) (fun hF => ?_)
        · exact hJ317 q34.2 q1.1 _ _ hP hD hS _ (lv_sub hl [1, 0] rfl) hF
        · refine lv_aload_n hx hb dL_areErrors_49 rfl (lv_at hl 1 rfl) ?_
          refine lv_iconst (v := (-1)) hx hb dL_areErrors_50 (by decide) ?_
          refine lv_iconst (v := 0) hx hb dL_areErrors_51 (by decide) ?_
          obtain ⟨q36, h_q36, hF⟩ := bnd_s hF
          refine g_callV (As := [.int (-1), .int 0]) (rest := []) ⟨hx, hb, hml, hown, hts⟩ hK hZ hA (c_X9_sector l E o qh qr qt qs qn fn fs ft gh n q34.2 ((-1)) (0) q36 h_q36) (cwV 2 hts gL_areErrors_X9_sector rfl rfl rfl (by decide +kernel) ⟨Nat.le_of_ble_eq_true rfl, Nat.le_of_ble_eq_true rfl⟩) hP hD hS [0] [] rfl rfl rfl rfl rfl rfl hl.1 rfl (Nat.le_of_ble_eq_true rfl) dL_areErrors_52 ⟨Nat.le_of_ble_eq_true rfl, Nat.le_of_ble_eq_true rfl⟩ (fun H locs hP hD hS => ?_)
          have hP : va_P E.1 vwCl (bl [HL_c E o qh qr qt qs qn fn fs ft gh q34.2]) H := hP
          have hD : va_D A (bl [HL_c E o qh qr qt qs qn fn fs ft gh q34.2]) := hD
          refine W.eq (g2 := F0 m 55 ls [.int q36]) rfl ?_
          refine lv_iconst (v := (-1)) hx hb dL_areErrors_55 (by decide) ?_
          refine f_icmp_ne (tgt := 317) hx hb dL_areErrors_56 (by decide) hF (fun hF => ?_) (fun hF => ?_)
          · exact hJ317 q34.2 q1.1 _ _ hP hD hS _ (lv_sub hl [1, 0] rfl) hF
          · refine lv_aload_n hx hb dL_areErrors_59 rfl (lv_at hl 1 rfl) ?_
            refine lv_iconst (v := 0) hx hb dL_areErrors_60 (by decide) ?_
            refine lv_iconst (v := 3) hx hb dL_areErrors_61 (by decide) ?_
            obtain ⟨q37, h_q37, hF⟩ := bnd_s hF
            refine g_callV (As := [.int 0, .int 3]) (rest := []) ⟨hx, hb, hml, hown, hts⟩ hK hZ hA (c_X9_sector l E o qh qr qt qs qn fn fs ft gh n q34.2 (0) (3) q37 h_q37) (cwV 2 hts gL_areErrors_X9_sector rfl rfl rfl (by decide +kernel) ⟨Nat.le_of_ble_eq_true rfl, Nat.le_of_ble_eq_true rfl⟩) hP hD hS [0] [] rfl rfl rfl rfl rfl rfl hl.1 rfl (Nat.le_of_ble_eq_true rfl) dL_areErrors_62 ⟨Nat.le_of_ble_eq_true rfl, Nat.le_of_ble_eq_true rfl⟩ (fun H locs hP hD hS => ?_)
            have hP : va_P E.1 vwCl (bl [HL_c E o qh qr qt qs qn fn fs ft gh q34.2]) H := hP
            have hD : va_D A (bl [HL_c E o qh qr qt qs qn fn fs ft gh q34.2]) := hD
            refine W.eq (g2 := F0 m 65 ls [.int q37]) rfl ?_
            refine lv_iconst (v := (-1)) hx hb dL_areErrors_65 (by decide) ?_
            refine f_icmp_ne (tgt := 317) hx hb dL_areErrors_66 (by decide) hF (fun hF => ?_) (fun hF => ?_)
            · exact hJ317 q34.2 q1.1 _ _ hP hD hS _ (lv_sub hl [1, 0] rfl) hF
            · refine lv_aload_n hx hb dL_areErrors_69 rfl (lv_at hl 1 rfl) ?_
              refine lv_bipush (v := 64) hx hb dL_areErrors_70 (by decide) ?_
              refine lv_iconst (v := 0) hx hb dL_areErrors_72 (by decide) ?_
              obtain ⟨q38, h_q38, hF⟩ := bnd_s hF
              refine g_callV (As := [.int 64, .int 0]) (rest := []) ⟨hx, hb, hml, hown, hts⟩ hK hZ hA (c_X9_sector l E o qh qr qt qs qn fn fs ft gh n q34.2 (64) (0) q38 h_q38) (cwV 2 hts gL_areErrors_X9_sector rfl rfl rfl (by decide +kernel) ⟨Nat.le_of_ble_eq_true rfl, Nat.le_of_ble_eq_true rfl⟩) hP hD hS [0] [] rfl rfl rfl rfl rfl rfl hl.1 rfl (Nat.le_of_ble_eq_true rfl) dL_areErrors_73 ⟨Nat.le_of_ble_eq_true rfl, Nat.le_of_ble_eq_true rfl⟩ (fun H locs hP hD hS => ?_)
              have hP : va_P E.1 vwCl (bl [HL_c E o qh qr qt qs qn fn fs ft gh q34.2]) H := hP
              have hD : va_D A (bl [HL_c E o qh qr qt qs qn fn fs ft gh q34.2]) := hD
              refine W.eq (g2 := F0 m 76 ls [.int q38]) rfl ?_
              refine lv_bipush (v := (-4)) hx hb dL_areErrors_76 (by decide) ?_
              refine f_icmp_ne (tgt := 317) hx hb dL_areErrors_78 (by decide) hF (fun hF => ?_) (fun hF => ?_)
              · exact hJ317 q34.2 q1.1 _ _ hP hD hS _ (lv_sub hl [1, 0] rfl) hF
              · refine lv_aload_n hx hb dL_areErrors_81 rfl (lv_at hl 1 rfl) ?_
                refine lv_sipush (v := 10001) hx hb dL_areErrors_82 (by decide) ?_
                refine lv_iconst (v := 0) hx hb dL_areErrors_85 (by decide) ?_
                obtain ⟨q39, h_q39, hF⟩ := bnd_s hF
                refine g_callV (As := [.int 10001, .int 0]) (rest := []) ⟨hx, hb, hml, hown, hts⟩ hK hZ hA (c_X9_direction l E o qh qr qt qs qn fn fs ft gh n q34.2 (10001) (0) q39 h_q39) (cwV 2 hts gL_areErrors_X9_direction rfl rfl rfl (by decide +kernel) ⟨Nat.le_of_ble_eq_true rfl, Nat.le_of_ble_eq_true rfl⟩) hP hD hS [0] [] rfl rfl rfl rfl rfl rfl hl.1 rfl (Nat.le_of_ble_eq_true rfl) dL_areErrors_86 ⟨Nat.le_of_ble_eq_true rfl, Nat.le_of_ble_eq_true rfl⟩ (fun H locs hP hD hS => ?_)
                have hP : va_P E.1 vwCl (bl [HL_c E o qh qr qt qs qn fn fs ft gh q34.2]) H := hP
                have hD : va_D A (bl [HL_c E o qh qr qt qs qn fn fs ft gh q34.2]) := hD
                refine W.eq (g2 := F0 m 89 ls [.int q39]) rfl ?_
                refine lv_iconst (v := (-1)) hx hb dL_areErrors_89 (by decide) ?_
                refine f_icmp_ne (tgt := 317) hx hb dL_areErrors_90 (by decide) hF (fun hF => ?_) (fun hF => ?_)
                · exact hJ317 q34.2 q1.1 _ _ hP hD hS _ (lv_sub hl [1, 0] rfl) hF
                · refine lv_aload_n hx hb dL_areErrors_93 rfl (lv_at hl 1 rfl) ?_
                  refine lv_iconst (v := 0) hx hb dL_areErrors_94 (by decide) ?_
                  refine lv_iconst (v := 0) hx hb dL_areErrors_95 (by decide) ?_
                  obtain ⟨q40, h_q40, hF⟩ := bnd_s hF
                  refine g_callV (As := [.int 0, .int 0]) (rest := []) ⟨hx, hb, hml, hown, hts⟩ hK hZ hA (c_X9_direction l E o qh qr qt qs qn fn fs ft gh n q34.2 (0) (0) q40 h_q40) (cwV 2 hts gL_areErrors_X9_direction rfl rfl rfl (by decide +kernel) ⟨Nat.le_of_ble_eq_true rfl, Nat.le_of_ble_eq_true rfl⟩) hP hD hS [0] [] rfl rfl rfl rfl rfl rfl hl.1 rfl (Nat.le_of_ble_eq_true rfl) dL_areErrors_96 ⟨Nat.le_of_ble_eq_true rfl, Nat.le_of_ble_eq_true rfl⟩ (fun H locs hP hD hS => ?_)
                  have hP : va_P E.1 vwCl (bl [HL_c E o qh qr qt qs qn fn fs ft gh q34.2]) H := hP
                  have hD : va_D A (bl [HL_c E o qh qr qt qs qn fn fs ft gh q34.2]) := hD
                  refine W.eq (g2 := F0 m 99 ls [.int q40]) rfl ?_
                  refine lv_bipush (v := (-4)) hx hb dL_areErrors_99 (by decide) ?_
                  refine f_icmp_ne (tgt := 317) hx hb dL_areErrors_101 (by decide) hF (fun hF => ?_) (fun hF => ?_)
                  · exact hJ317 q34.2 q1.1 _ _ hP hD hS _ (lv_sub hl [1, 0] rfl) hF
                  · refine lv_aload_n hx hb dL_areErrors_104 rfl (lv_at hl 1 rfl) ?_
                    refine lv_iconst (v := 0) hx hb dL_areErrors_105 (by decide) ?_
                    refine lv_sipush (v := (-10001)) hx hb dL_areErrors_106 (by decide) ?_
                    obtain ⟨q41, h_q41, hF⟩ := bnd_s hF
                    refine g_callV (As := [.int 0, .int (-10001)]) (rest := []) ⟨hx, hb, hml, hown, hts⟩ hK hZ hA (c_X9_again l E o qh qr qt qs qn fn fs ft gh n q34.2 (0) ((-10001)) q41 h_q41) (cwV 2 hts gL_areErrors_X9_again rfl rfl rfl (by decide +kernel) ⟨Nat.le_of_ble_eq_true rfl, Nat.le_of_ble_eq_true rfl⟩) hP hD hS [0] [] rfl rfl rfl rfl rfl rfl hl.1 rfl (Nat.le_of_ble_eq_true rfl) dL_areErrors_109 ⟨Nat.le_of_ble_eq_true rfl, Nat.le_of_ble_eq_true rfl⟩ (fun H locs hP hD hS => ?_)
                    have hP : va_P E.1 vwCl (bl [HL_c E o qh qr qt qs qn fn fs ft gh q34.2]) H := hP
                    have hD : va_D A (bl [HL_c E o qh qr qt qs qn fn fs ft gh q34.2]) := hD
                    refine W.eq (g2 := F0 m 112 ls [.int q41]) rfl ?_
                    refine lv_iconst (v := (-1)) hx hb dL_areErrors_112 (by decide) ?_
                    refine f_icmp_ne (tgt := 317) hx hb dL_areErrors_113 (by decide) hF (fun hF => ?_) (fun hF => ?_)
                    · exact hJ317 q34.2 q1.1 _ _ hP hD hS _ (lv_sub hl [1, 0] rfl) hF
                    · refine lv_aload_n hx hb dL_areErrors_116 rfl (lv_at hl 1 rfl) ?_
                      refine lv_iconst (v := 0) hx hb dL_areErrors_117 (by decide) ?_
                      refine lv_iconst (v := 0) hx hb dL_areErrors_118 (by decide) ?_
                      obtain ⟨q42, h_q42, hF⟩ := bnd_s hF
                      refine g_callV (As := [.int 0, .int 0]) (rest := []) ⟨hx, hb, hml, hown, hts⟩ hK hZ hA (c_X9_again l E o qh qr qt qs qn fn fs ft gh n q34.2 (0) (0) q42 h_q42) (cwV 2 hts gL_areErrors_X9_again rfl rfl rfl (by decide +kernel) ⟨Nat.le_of_ble_eq_true rfl, Nat.le_of_ble_eq_true rfl⟩) hP hD hS [0] [] rfl rfl rfl rfl rfl rfl hl.1 rfl (Nat.le_of_ble_eq_true rfl) dL_areErrors_119 ⟨Nat.le_of_ble_eq_true rfl, Nat.le_of_ble_eq_true rfl⟩ (fun H locs hP hD hS => ?_)
                      have hP : va_P E.1 vwCl (bl [HL_c E o qh qr qt qs qn fn fs ft gh q34.2]) H := hP
                      have hD : va_D A (bl [HL_c E o qh qr qt qs qn fn fs ft gh q34.2]) := hD
                      refine W.eq (g2 := F0 m 122 ls [.int q42]) rfl ?_
                      refine lv_bipush (v := (-4)) hx hb dL_areErrors_122 (by decide) ?_
                      refine f_icmp_ne (tgt := 317) hx hb dL_areErrors_124 (by decide) hF (fun hF => ?_) (fun hF => ?_)
                      · exact hJ317 q34.2 q1.1 _ _ hP hD hS _ (lv_sub hl [1, 0] rfl) hF
                      · refine lv_aload_n hx hb dL_areErrors_127 rfl (lv_at hl 1 rfl) ?_
                        refine lv_iconst (v := 0) hx hb dL_areErrors_128 (by decide) ?_
                        refine lv_iconst (v := 0) hx hb dL_areErrors_129 (by decide) ?_
                        refine lv_iconst (v := 0) hx hb dL_areErrors_130 (by decide) ?_
                        obtain ⟨q43, h_q43, hF⟩ := bnd_s hF
                        refine g_callV (As := [.int 0, .int 0, .int 0]) (rest := []) ⟨hx, hb, hml, hown, hts⟩ hK hZ hA (c_X9_setCode l E o qh qr qt qs qn fn fs ft gh q34.2 (0) (0) (0) q43 h_q43) (cwV 3 hts gL_areErrors_X9_setCode rfl rfl rfl (by decide +kernel) ⟨Nat.le_of_ble_eq_true rfl, Nat.le_of_ble_eq_true rfl⟩) hP hD hS [0] [] rfl rfl rfl rfl rfl rfl hl.1 rfl (Nat.le_of_ble_eq_true rfl) dL_areErrors_131 ⟨Nat.le_of_ble_eq_true rfl, Nat.le_of_ble_eq_true rfl⟩ (fun H locs hP hD hS => ?_)
                        have hP : va_P E.1 vwCl (bl [HL_c E o qh qr qt qs qn fn fs ft gh q43.2]) H := hP
                        have hD : va_D A (bl [HL_c E o qh qr qt qs qn fn fs ft gh q43.2]) := hD
                        refine W.eq (g2 := F0 m 134 ls [.int q43.1]) rfl ?_
                        refine lv_iconst (v := (-1)) hx hb dL_areErrors_134 (by decide) ?_
                        refine f_icmp_ne (tgt := 317) hx hb dL_areErrors_135 (by decide) hF (fun hF => ?_) (fun hF => ?_)
                        · exact hJ317 q43.2 q1.1 _ _ hP hD hS _ (lv_sub hl [1, 0] rfl) hF
                        · refine lv_aload_n hx hb dL_areErrors_138 rfl (lv_at hl 1 rfl) ?_
                          refine lv_iconst (v := 1) hx hb dL_areErrors_139 (by decide) ?_
                          refine lv_bipush (v := 61) hx hb dL_areErrors_140 (by decide) ?_
                          refine lv_iconst (v := 0) hx hb dL_areErrors_142 (by decide) ?_
                          obtain ⟨q44, h_q44, hF⟩ := bnd_s hF
                          refine g_callV (As := [.int 1, .int 61, .int 0]) (rest := []) ⟨hx, hb, hml, hown, hts⟩ hK hZ hA (c_X9_setCode l E o qh qr qt qs qn fn fs ft gh q43.2 (1) (61) (0) q44 h_q44) (cwV 3 hts gL_areErrors_X9_setCode rfl rfl rfl (by decide +kernel) ⟨Nat.le_of_ble_eq_true rfl, Nat.le_of_ble_eq_true rfl⟩) hP hD hS [0] [] rfl rfl rfl rfl rfl rfl hl.1 rfl (Nat.le_of_ble_eq_true rfl) dL_areErrors_143 ⟨Nat.le_of_ble_eq_true rfl, Nat.le_of_ble_eq_true rfl⟩ (fun H locs hP hD hS => ?_)
                          have hP : va_P E.1 vwCl (bl [HL_c E o qh qr qt qs qn fn fs ft gh q44.2]) H := hP
                          have hD : va_D A (bl [HL_c E o qh qr qt qs qn fn fs ft gh q44.2]) := hD
                          refine W.eq (g2 := F0 m 146 ls [.int q44.1]) rfl ?_
                          refine lv_iconst (v := (-1)) hx hb dL_areErrors_146 (by decide) ?_
                          refine f_icmp_ne (tgt := 317) hx hb dL_areErrors_147 (by decide) hF (fun hF => ?_) (fun hF => ?_)
                          · exact hJ317 q44.2 q1.1 _ _ hP hD hS _ (lv_sub hl [1, 0] rfl) hF
                          · refine lv_aload_n hx hb dL_areErrors_150 rfl (lv_at hl 1 rfl) ?_
                            refine lv_iconst (v := 1) hx hb dL_areErrors_151 (by decide) ?_
                            refine lv_iconst (v := 1) hx hb dL_areErrors_152 (by decide) ?_
                            refine lv_iconst (v := 2) hx hb dL_areErrors_153 (by decide) ?_
                            obtain ⟨q45, h_q45, hF⟩ := bnd_s hF
                            refine g_callV (As := [.int 1, .int 1, .int 2]) (rest := []) ⟨hx, hb, hml, hown, hts⟩ hK hZ hA (c_X9_setCode l E o qh qr qt qs qn fn fs ft gh q44.2 (1) (1) (2) q45 h_q45) (cwV 3 hts gL_areErrors_X9_setCode rfl rfl rfl (by decide +kernel) ⟨Nat.le_of_ble_eq_true rfl, Nat.le_of_ble_eq_true rfl⟩) hP hD hS [0] [] rfl rfl rfl rfl rfl rfl hl.1 rfl (Nat.le_of_ble_eq_true rfl) dL_areErrors_154 ⟨Nat.le_of_ble_eq_true rfl, Nat.le_of_ble_eq_true rfl⟩ (fun H locs hP hD hS => ?_)
                            have hP : va_P E.1 vwCl (bl [HL_c E o qh qr qt qs qn fn fs ft gh q45.2]) H := hP
                            have hD : va_D A (bl [HL_c E o qh qr qt qs qn fn fs ft gh q45.2]) := hD
                            refine W.eq (g2 := F0 m 157 ls [.int q45.1]) rfl ?_
                            refine lv_iconst (v := (-1)) hx hb dL_areErrors_157 (by decide) ?_
                            refine f_icmp_ne (tgt := 317) hx hb dL_areErrors_158 (by decide) hF (fun hF => ?_) (fun hF => ?_)
                            · exact hJ317 q45.2 q1.1 _ _ hP hD hS _ (lv_sub hl [1, 0] rfl) hF
                            · refine lv_aload_n hx hb dL_areErrors_161 rfl (lv_at hl 1 rfl) ?_
                              refine lv_iconst (v := 5) hx hb dL_areErrors_162 (by decide) ?_
                              obtain ⟨q46, h_q46, hF⟩ := bnd_s hF
                              refine g_callV (As := [.int 5]) (rest := []) ⟨hx, hb, hml, hown, hts⟩ hK hZ hA (c_X9_code l E o qh qr qt qs qn fn fs ft gh n q45.2 (5) q46 h_q46) (cwV 1 hts gL_areErrors_X9_code rfl rfl rfl (by decide +kernel) ⟨Nat.le_of_ble_eq_true rfl, Nat.le_of_ble_eq_true rfl⟩) hP hD hS [0] [] rfl rfl rfl rfl rfl rfl hl.1 rfl (Nat.le_of_ble_eq_true rfl) dL_areErrors_163 ⟨Nat.le_of_ble_eq_true rfl, Nat.le_of_ble_eq_true rfl⟩ (fun H locs hP hD hS => ?_)
                              have hP : va_P E.1 vwCl (bl [HL_c E o qh qr qt qs qn fn fs ft gh q45.2]) H := hP
                              have hD : va_D A (bl [HL_c E o qh qr qt qs qn fn fs ft gh q45.2]) := hD
                              refine W.eq (g2 := F0 m 166 ls [.int q46]) rfl ?_
                              refine lv_iconst (v := (-1)) hx hb dL_areErrors_166 (by decide) ?_
                              refine f_icmp_ne (tgt := 317) hx hb dL_areErrors_167 (by decide) hF (fun hF => ?_) (fun hF => ?_)
                              · exact hJ317 q45.2 q1.1 _ _ hP hD hS _ (lv_sub hl [1, 0] rfl) hF
                              · refine lv_aload_n hx hb dL_areErrors_170 rfl (lv_at hl 1 rfl) ?_
                                refine lv_iconst (v := 2) hx hb dL_areErrors_171 (by decide) ?_
                                obtain ⟨q47, h_q47, hF⟩ := bnd_s hF
                                refine g_callV (As := [.int 2]) (rest := []) ⟨hx, hb, hml, hown, hts⟩ hK hZ hA (c_X9_next l E o qh qr qt qs qn fn fs ft gh n q45.2 (2) q47 h_q47) (cwV 1 hts gL_areErrors_X9_next rfl rfl rfl (by decide +kernel) ⟨Nat.le_of_ble_eq_true rfl, Nat.le_of_ble_eq_true rfl⟩) hP hD hS [0] [] rfl rfl rfl rfl rfl rfl hl.1 rfl (Nat.le_of_ble_eq_true rfl) dL_areErrors_172 ⟨Nat.le_of_ble_eq_true rfl, Nat.le_of_ble_eq_true rfl⟩ (fun H locs hP hD hS => ?_)
                                have hP : va_P E.1 vwCl (bl [HL_c E o qh qr qt qs qn fn fs ft gh q45.2]) H := hP
                                have hD : va_D A (bl [HL_c E o qh qr qt qs qn fn fs ft gh q45.2]) := hD
                                refine W.eq (g2 := F0 m 175 ls [.int q47]) rfl ?_
                                refine lv_iconst (v := (-1)) hx hb dL_areErrors_175 (by decide) ?_
                                refine f_icmp_ne (tgt := 317) hx hb dL_areErrors_176 (by decide) hF (fun hF => ?_) (fun hF => ?_)
                                · exact hJ317 q45.2 q1.1 _ _ hP hD hS _ (lv_sub hl [1, 0] rfl) hF
                                · refine lv_aload_n hx hb dL_areErrors_179 rfl (lv_at hl 1 rfl) ?_
                                  refine lv_iconst (v := 2) hx hb dL_areErrors_180 (by decide) ?_
                                  obtain ⟨q48, h_q48, hF⟩ := bnd_s hF
                                  refine g_callV (As := [.int 2]) (rest := []) ⟨hx, hb, hml, hown, hts⟩ hK hZ hA (c_X9_setChanger l E o qh qr qt qs qn fn fs ft gh n q45.2 (2) q48 h_q48) (cwV 1 hts gL_areErrors_X9_setChanger rfl rfl rfl (by decide +kernel) ⟨Nat.le_of_ble_eq_true rfl, Nat.le_of_ble_eq_true rfl⟩) hP hD hS [0] [] rfl rfl rfl rfl rfl rfl hl.1 rfl (Nat.le_of_ble_eq_true rfl) dL_areErrors_181 ⟨Nat.le_of_ble_eq_true rfl, Nat.le_of_ble_eq_true rfl⟩ (fun H locs hP hD hS => ?_)
                                  have hP : va_P E.1 vwCl (bl [HL_c E o qh qr qt qs qn fn fs ft gh q48.2]) H := hP
                                  have hD : va_D A (bl [HL_c E o qh qr qt qs qn fn fs ft gh q48.2]) := hD
                                  refine W.eq (g2 := F0 m 184 ls [.int q48.1]) rfl ?_
                                  refine lv_iconst (v := (-1)) hx hb dL_areErrors_184 (by decide) ?_
                                  refine f_icmp_ne (tgt := 317) hx hb dL_areErrors_185 (by decide) hF (fun hF => ?_) (fun hF => ?_)
                                  · exact hJ317 q48.2 q1.1 _ _ hP hD hS _ (lv_sub hl [1, 0] rfl) hF
                                  · refine lv_aload_n hx hb dL_areErrors_188 rfl (lv_at hl 1 rfl) ?_
                                    refine lv_iconst (v := 2) hx hb dL_areErrors_189 (by decide) ?_
                                    refine lv_iconst (v := 1) hx hb dL_areErrors_190 (by decide) ?_
                                    refine lv_iconst (v := 1) hx hb dL_areErrors_191 (by decide) ?_
                                    obtain ⟨q49, h_q49, hF⟩ := bnd_s hF
                                    refine g_callV (As := [.int 2, .int 1, .int 1]) (rest := []) ⟨hx, hb, hml, hown, hts⟩ hK hZ hA (c_X9_addLamp l E o qh qr qt qs qn fn fs ft gh n q48.2 (2) (1) (1) q49 h_q49) (cwV 3 hts gL_areErrors_X9_addLamp rfl rfl rfl (by decide +kernel) ⟨Nat.le_of_ble_eq_true rfl, Nat.le_of_ble_eq_true rfl⟩) hP hD hS [0] [] rfl rfl rfl rfl rfl rfl hl.1 rfl (Nat.le_of_ble_eq_true rfl) dL_areErrors_192 ⟨Nat.le_of_ble_eq_true rfl, Nat.le_of_ble_eq_true rfl⟩ (fun H locs hP hD hS => ?_)
                                    have hP : va_P E.1 vwCl (bl [HL_c E o qh qr qt qs qn fn fs ft gh q49.2]) H := hP
                                    have hD : va_D A (bl [HL_c E o qh qr qt qs qn fn fs ft gh q49.2]) := hD
                                    refine W.eq (g2 := F0 m 195 ls [.int q49.1]) rfl ?_
                                    refine lv_iconst (v := (-1)) hx hb dL_areErrors_195 (by decide) ?_
                                    refine f_icmp_ne (tgt := 317) hx hb dL_areErrors_196 (by decide) hF (fun hF => ?_) (fun hF => ?_)
                                    · exact hJ317 q49.2 q1.1 _ _ hP hD hS _ (lv_sub hl [1, 0] rfl) hF
                                    · refine lv_aload_n hx hb dL_areErrors_199 rfl (lv_at hl 1 rfl) ?_
                                      refine lv_iconst (v := 0) hx hb dL_areErrors_200 (by decide) ?_
                                      refine lv_iconst (v := 0) hx hb dL_areErrors_201 (by decide) ?_
                                      refine lv_iconst (v := 1) hx hb dL_areErrors_202 (by decide) ?_
                                      obtain ⟨q50, h_q50, hF⟩ := bnd_s hF
                                      refine g_callV (As := [.int 0, .int 0, .int 1]) (rest := []) ⟨hx, hb, hml, hown, hts⟩ hK hZ hA (c_X9_addLamp l E o qh qr qt qs qn fn fs ft gh n q49.2 (0) (0) (1) q50 h_q50) (cwV 3 hts gL_areErrors_X9_addLamp rfl rfl rfl (by decide +kernel) ⟨Nat.le_of_ble_eq_true rfl, Nat.le_of_ble_eq_true rfl⟩) hP hD hS [0] [] rfl rfl rfl rfl rfl rfl hl.1 rfl (Nat.le_of_ble_eq_true rfl) dL_areErrors_203 ⟨Nat.le_of_ble_eq_true rfl, Nat.le_of_ble_eq_true rfl⟩ (fun H locs hP hD hS => ?_)
                                      have hP : va_P E.1 vwCl (bl [HL_c E o qh qr qt qs qn fn fs ft gh q50.2]) H := hP
                                      have hD : va_D A (bl [HL_c E o qh qr qt qs qn fn fs ft gh q50.2]) := hD
                                      refine W.eq (g2 := F0 m 206 ls [.int q50.1]) rfl ?_
                                      refine lv_iconst (v := (-1)) hx hb dL_areErrors_206 (by decide) ?_
                                      refine f_icmp_ne (tgt := 317) hx hb dL_areErrors_207 (by decide) hF (fun hF => ?_) (fun hF => ?_)
                                      · exact hJ317 q50.2 q1.1 _ _ hP hD hS _ (lv_sub hl [1, 0] rfl) hF
                                      · refine lv_aload_n hx hb dL_areErrors_210 rfl (lv_at hl 1 rfl) ?_
                                        refine lv_iconst (v := 0) hx hb dL_areErrors_211 (by decide) ?_
                                        refine lv_iconst (v := 1) hx hb dL_areErrors_212 (by decide) ?_
                                        refine lv_sipush (v := 5001) hx hb dL_areErrors_213 (by decide) ?_
                                        obtain ⟨q51, h_q51, hF⟩ := bnd_s hF
                                        refine g_callV (As := [.int 0, .int 1, .int 5001]) (rest := []) ⟨hx, hb, hml, hown, hts⟩ hK hZ hA (c_X9_addLamp l E o qh qr qt qs qn fn fs ft gh n q50.2 (0) (1) (5001) q51 h_q51) (cwV 3 hts gL_areErrors_X9_addLamp rfl rfl rfl (by decide +kernel) ⟨Nat.le_of_ble_eq_true rfl, Nat.le_of_ble_eq_true rfl⟩) hP hD hS [0] [] rfl rfl rfl rfl rfl rfl hl.1 rfl (Nat.le_of_ble_eq_true rfl) dL_areErrors_216 ⟨Nat.le_of_ble_eq_true rfl, Nat.le_of_ble_eq_true rfl⟩ (fun H locs hP hD hS => ?_)
                                        have hP : va_P E.1 vwCl (bl [HL_c E o qh qr qt qs qn fn fs ft gh q51.2]) H := hP
                                        have hD : va_D A (bl [HL_c E o qh qr qt qs qn fn fs ft gh q51.2]) := hD
                                        refine W.eq (g2 := F0 m 219 ls [.int q51.1]) rfl ?_
                                        refine lv_iconst (v := (-1)) hx hb dL_areErrors_219 (by decide) ?_
                                        refine f_icmp_ne (tgt := 317) hx hb dL_areErrors_220 (by decide) hF (fun hF => ?_) (fun hF => ?_)
                                        · exact hJ317 q51.2 q1.1 _ _ hP hD hS _ (lv_sub hl [1, 0] rfl) hF
                                        · refine lv_aload_n hx hb dL_areErrors_223 rfl (lv_at hl 1 rfl) ?_
                                          refine lv_iconst (v := 1) hx hb dL_areErrors_224 (by decide) ?_
                                          refine lv_aload_n hx hb dL_areErrors_225 rfl (lv_at hl 1 rfl) ?_
                                          refine lv_iconst (v := 5) hx hb dL_areErrors_226 (by decide) ?_
                                          obtain ⟨q52, h_q52, hF⟩ := bnd_s hF
                                          refine g_callV (As := [.int 5]) (rest := [.int 1, .ref o]) ⟨hx, hb, hml, hown, hts⟩ hK hZ hA (c_X9_count l E o qh qr qt qs qn fn fs ft gh n q51.2 (5) q52 h_q52) (cwV 1 hts gL_areErrors_X9_count rfl rfl rfl (by decide +kernel) ⟨Nat.le_of_ble_eq_true rfl, Nat.le_of_ble_eq_true rfl⟩) hP hD hS [0] [] rfl rfl rfl rfl rfl rfl hl.1 rfl (Nat.le_of_ble_eq_true rfl) dL_areErrors_227 ⟨Nat.le_of_ble_eq_true rfl, Nat.le_of_ble_eq_true rfl⟩ (fun H locs hP hD hS => ?_)
                                          have hP : va_P E.1 vwCl (bl [HL_c E o qh qr qt qs qn fn fs ft gh q51.2]) H := hP
                                          have hD : va_D A (bl [HL_c E o qh qr qt qs qn fn fs ft gh q51.2]) := hD
                                          refine W.eq (g2 := F0 m 230 ls [.int q52, .int 1, .ref o]) rfl ?_
                                          refine lv_isub hx hb dL_areErrors_230 ?_
                                          refine lv_iconst (v := 1) hx hb dL_areErrors_231 (by decide) ?_
                                          refine lv_iconst (v := 1) hx hb dL_areErrors_232 (by decide) ?_
                                          obtain ⟨q53, h_q53, hF⟩ := bnd_s hF
                                          refine g_callV (As := [.int (1 - q52), .int 1, .int 1]) (rest := []) ⟨hx, hb, hml, hown, hts⟩ hK hZ hA (c_X9_addLamp l E o qh qr qt qs qn fn fs ft gh n q51.2 (1 - q52) (1) (1) q53 h_q53) (cwV 3 hts gL_areErrors_X9_addLamp rfl rfl rfl (by decide +kernel) ⟨Nat.le_of_ble_eq_true rfl, Nat.le_of_ble_eq_true rfl⟩) hP hD hS [0] [] rfl rfl rfl rfl rfl rfl hl.1 rfl (Nat.le_of_ble_eq_true rfl) dL_areErrors_233 ⟨Nat.le_of_ble_eq_true rfl, Nat.le_of_ble_eq_true rfl⟩ (fun H locs hP hD hS => ?_)
                                          have hP : va_P E.1 vwCl (bl [HL_c E o qh qr qt qs qn fn fs ft gh q53.2]) H := hP
                                          have hD : va_D A (bl [HL_c E o qh qr qt qs qn fn fs ft gh q53.2]) := hD
                                          refine W.eq (g2 := F0 m 236 ls [.int q53.1]) rfl ?_
                                          refine lv_bipush (v := (-2)) hx hb dL_areErrors_236 (by decide) ?_
                                          refine f_icmp_ne (tgt := 317) hx hb dL_areErrors_238 (by decide) hF (fun hF => ?_) (fun hF => ?_)
                                          · exact hJ317 q53.2 q1.1 _ _ hP hD hS _ (lv_sub hl [1, 0] rfl) hF
                                          · refine lv_aload_n hx hb dL_areErrors_241 rfl (lv_at hl 1 rfl) ?_
                                            refine lv_bipush (v := 6) hx hb dL_areErrors_242 (by decide) ?_
                                            obtain ⟨q54, h_q54, hF⟩ := bnd_s hF
                                            refine g_callV (As := [.int 6]) (rest := []) ⟨hx, hb, hml, hown, hts⟩ hK hZ hA (c_X9_takeLamp l E o qh qr qt qs qn fn fs ft gh q53.2 (6) q54 h_q54) (cwV 1 hts gL_areErrors_X9_takeLamp rfl rfl rfl (by decide +kernel) ⟨Nat.le_of_ble_eq_true rfl, Nat.le_of_ble_eq_true rfl⟩) hP hD hS [0] [] rfl rfl rfl rfl rfl rfl hl.1 rfl (Nat.le_of_ble_eq_true rfl) dL_areErrors_244 ⟨Nat.le_of_ble_eq_true rfl, Nat.le_of_ble_eq_true rfl⟩ (fun H locs hP hD hS => ?_)
                                            have hP : va_P E.1 vwCl (bl [HL_c E o qh qr qt qs qn fn fs ft gh q54.2]) H := hP
                                            have hD : va_D A (bl [HL_c E o qh qr qt qs qn fn fs ft gh q54.2]) := hD
                                            refine W.eq (g2 := F0 m 247 ls [.int q54.1]) rfl ?_
                                            refine lv_iconst (v := (-1)) hx hb dL_areErrors_247 (by decide) ?_
                                            refine f_icmp_ne (tgt := 317) hx hb dL_areErrors_248 (by decide) hF (fun hF => ?_) (fun hF => ?_)
                                            · exact hJ317 q54.2 q1.1 _ _ hP hD hS _ (lv_sub hl [1, 0] rfl) hF
                                            · refine lv_aload_n hx hb dL_areErrors_251 rfl (lv_at hl 1 rfl) ?_
                                              refine lv_bipush (v := 6) hx hb dL_areErrors_252 (by decide) ?_
                                              refine lv_iconst (v := 0) hx hb dL_areErrors_254 (by decide) ?_
                                              obtain ⟨q55, h_q55, hF⟩ := bnd_s hF
                                              refine g_callV (As := [.int 6, .int 0]) (rest := []) ⟨hx, hb, hml, hown, hts⟩ hK hZ hA (c_X9_lamp l E o qh qr qt qs qn fn fs ft gh q54.2 (6) (0) q55 h_q55) (cwV 2 hts gL_areErrors_X9_lamp rfl rfl rfl (by decide +kernel) ⟨Nat.le_of_ble_eq_true rfl, Nat.le_of_ble_eq_true rfl⟩) hP hD hS [0] [] rfl rfl rfl rfl rfl rfl hl.1 rfl (Nat.le_of_ble_eq_true rfl) dL_areErrors_255 ⟨Nat.le_of_ble_eq_true rfl, Nat.le_of_ble_eq_true rfl⟩ (fun H locs hP hD hS => ?_)
                                              have hP : va_P E.1 vwCl (bl [HL_c E o qh qr qt qs qn fn fs ft gh q54.2]) H := hP
                                              have hD : va_D A (bl [HL_c E o qh qr qt qs qn fn fs ft gh q54.2]) := hD
                                              refine W.eq (g2 := F0 m 258 ls [.int q55]) rfl ?_
                                              refine lv_iconst (v := (-1)) hx hb dL_areErrors_258 (by decide) ?_
                                              refine f_icmp_ne (tgt := 317) hx hb dL_areErrors_259 (by decide) hF (fun hF => ?_) (fun hF => ?_)
                                              · exact hJ317 q54.2 q1.1 _ _ hP hD hS _ (lv_sub hl [1, 0] rfl) hF
                                              · refine lv_aload_n hx hb dL_areErrors_262 rfl (lv_at hl 1 rfl) ?_
                                                refine lv_iconst (v := 0) hx hb dL_areErrors_263 (by decide) ?_
                                                refine lv_bipush (v := 6) hx hb dL_areErrors_264 (by decide) ?_
                                                obtain ⟨q56, h_q56, hF⟩ := bnd_s hF
                                                refine g_callV (As := [.int 0, .int 6]) (rest := []) ⟨hx, hb, hml, hown, hts⟩ hK hZ hA (c_X9_lamp l E o qh qr qt qs qn fn fs ft gh q54.2 (0) (6) q56 h_q56) (cwV 2 hts gL_areErrors_X9_lamp rfl rfl rfl (by decide +kernel) ⟨Nat.le_of_ble_eq_true rfl, Nat.le_of_ble_eq_true rfl⟩) hP hD hS [0] [] rfl rfl rfl rfl rfl rfl hl.1 rfl (Nat.le_of_ble_eq_true rfl) dL_areErrors_266 ⟨Nat.le_of_ble_eq_true rfl, Nat.le_of_ble_eq_true rfl⟩ (fun H locs hP hD hS => ?_)
                                                have hP : va_P E.1 vwCl (bl [HL_c E o qh qr qt qs qn fn fs ft gh q54.2]) H := hP
                                                have hD : va_D A (bl [HL_c E o qh qr qt qs qn fn fs ft gh q54.2]) := hD
                                                refine W.eq (g2 := F0 m 269 ls [.int q56]) rfl ?_
                                                refine lv_iconst (v := (-1)) hx hb dL_areErrors_269 (by decide) ?_
                                                refine f_icmp_ne (tgt := 317) hx hb dL_areErrors_270 (by decide) hF (fun hF => ?_) (fun hF => ?_)
                                                · exact hJ317 q54.2 q1.1 _ _ hP hD hS _ (lv_sub hl [1, 0] rfl) hF
                                                · refine lv_aload_n hx hb dL_areErrors_273 rfl (lv_at hl 1 rfl) ?_
                                                  refine lv_iconst (v := 2) hx hb dL_areErrors_274 (by decide) ?_
                                                  refine lv_iconst (v := 1) hx hb dL_areErrors_275 (by decide) ?_
                                                  obtain ⟨q57, h_q57, hF⟩ := bnd_s hF
                                                  refine g_callV (As := [.int 2, .int 1]) (rest := []) ⟨hx, hb, hml, hown, hts⟩ hK hZ hA (c_X9_set l E o qh qr qt qs qn fn fs ft gh q54.2 (2) (1) q57 h_q57) (cwV 2 hts gL_areErrors_X9_set rfl rfl rfl (by decide +kernel) ⟨Nat.le_of_ble_eq_true rfl, Nat.le_of_ble_eq_true rfl⟩) hP hD hS [0] [] rfl rfl rfl rfl rfl rfl hl.1 rfl (Nat.le_of_ble_eq_true rfl) dL_areErrors_276 ⟨Nat.le_of_ble_eq_true rfl, Nat.le_of_ble_eq_true rfl⟩ (fun H locs hP hD hS => ?_)
                                                  have hP : va_P E.1 vwCl (bl [HL_c E o qh qr qt qs qn fn fs ft gh q57.2]) H := hP
                                                  have hD : va_D A (bl [HL_c E o qh qr qt qs qn fn fs ft gh q57.2]) := hD
                                                  refine W.eq (g2 := F0 m 279 ls [.int q57.1]) rfl ?_
                                                  refine lv_iconst (v := (-1)) hx hb dL_areErrors_279 (by decide) ?_
                                                  refine f_icmp_ne (tgt := 317) hx hb dL_areErrors_280 (by decide) hF (fun hF => ?_) (fun hF => ?_)
                                                  · exact hJ317 q57.2 q1.1 _ _ hP hD hS _ (lv_sub hl [1, 0] rfl) hF
                                                  · refine lv_aload_n hx hb dL_areErrors_283 rfl (lv_at hl 1 rfl) ?_
                                                    refine lv_iconst (v := 0) hx hb dL_areErrors_284 (by decide) ?_
                                                    refine lv_bipush (v := 51) hx hb dL_areErrors_285 (by decide) ?_
                                                    obtain ⟨q58, h_q58, hF⟩ := bnd_s hF
                                                    refine g_callV (As := [.int 0, .int 51]) (rest := []) ⟨hx, hb, hml, hown, hts⟩ hK hZ hA (c_X9_set l E o qh qr qt qs qn fn fs ft gh q57.2 (0) (51) q58 h_q58) (cwV 2 hts gL_areErrors_X9_set rfl rfl rfl (by decide +kernel) ⟨Nat.le_of_ble_eq_true rfl, Nat.le_of_ble_eq_true rfl⟩) hP hD hS [0] [] rfl rfl rfl rfl rfl rfl hl.1 rfl (Nat.le_of_ble_eq_true rfl) dL_areErrors_287 ⟨Nat.le_of_ble_eq_true rfl, Nat.le_of_ble_eq_true rfl⟩ (fun H locs hP hD hS => ?_)
                                                    have hP : va_P E.1 vwCl (bl [HL_c E o qh qr qt qs qn fn fs ft gh q58.2]) H := hP
                                                    have hD : va_D A (bl [HL_c E o qh qr qt qs qn fn fs ft gh q58.2]) := hD
                                                    refine W.eq (g2 := F0 m 290 ls [.int q58.1]) rfl ?_
                                                    refine lv_iconst (v := (-1)) hx hb dL_areErrors_290 (by decide) ?_
                                                    refine f_icmp_ne (tgt := 317) hx hb dL_areErrors_291 (by decide) hF (fun hF => ?_) (fun hF => ?_)
                                                    · exact hJ317 q58.2 q1.1 _ _ hP hD hS _ (lv_sub hl [1, 0] rfl) hF
                                                    · refine lv_aload_n hx hb dL_areErrors_294 rfl (lv_at hl 1 rfl) ?_
                                                      refine lv_iconst (v := 1) hx hb dL_areErrors_295 (by decide) ?_
                                                      refine lv_iconst (v := 0) hx hb dL_areErrors_296 (by decide) ?_
                                                      obtain ⟨q59, h_q59, hF⟩ := bnd_s hF
                                                      refine g_callV (As := [.int 1, .int 0]) (rest := []) ⟨hx, hb, hml, hown, hts⟩ hK hZ hA (c_X9_set l E o qh qr qt qs qn fn fs ft gh q58.2 (1) (0) q59 h_q59) (cwV 2 hts gL_areErrors_X9_set rfl rfl rfl (by decide +kernel) ⟨Nat.le_of_ble_eq_true rfl, Nat.le_of_ble_eq_true rfl⟩) hP hD hS [0] [] rfl rfl rfl rfl rfl rfl hl.1 rfl (Nat.le_of_ble_eq_true rfl) dL_areErrors_297 ⟨Nat.le_of_ble_eq_true rfl, Nat.le_of_ble_eq_true rfl⟩ (fun H locs hP hD hS => ?_)
                                                      have hP : va_P E.1 vwCl (bl [HL_c E o qh qr qt qs qn fn fs ft gh q59.2]) H := hP
                                                      have hD : va_D A (bl [HL_c E o qh qr qt qs qn fn fs ft gh q59.2]) := hD
                                                      refine W.eq (g2 := F0 m 300 ls [.int q59.1]) rfl ?_
                                                      refine lv_iconst (v := (-1)) hx hb dL_areErrors_300 (by decide) ?_
                                                      refine f_icmp_ne (tgt := 317) hx hb dL_areErrors_301 (by decide) hF (fun hF => ?_) (fun hF => ?_)
                                                      · exact hJ317 q59.2 q1.1 _ _ hP hD hS _ (lv_sub hl [1, 0] rfl) hF
                                                      · refine lv_aload_n hx hb dL_areErrors_304 rfl (lv_at hl 1 rfl) ?_
                                                        refine lv_iconst (v := 4) hx hb dL_areErrors_305 (by decide) ?_
                                                        obtain ⟨q60, h_q60, hF⟩ := bnd_s hF
                                                        refine g_callV (As := [.int 4]) (rest := []) ⟨hx, hb, hml, hown, hts⟩ hK hZ hA (c_X9_rangeBits l E o qh qr qt qs qn fn fs ft gh n q59.2 (4) q60 h_q60) (cwV 1 hts gL_areErrors_X9_rangeBits rfl rfl rfl (by decide +kernel) ⟨Nat.le_of_ble_eq_true rfl, Nat.le_of_ble_eq_true rfl⟩) hP hD hS [0] [] rfl rfl rfl rfl rfl rfl hl.1 rfl (Nat.le_of_ble_eq_true rfl) dL_areErrors_306 ⟨Nat.le_of_ble_eq_true rfl, Nat.le_of_ble_eq_true rfl⟩ (fun H locs hP hD hS => ?_)
                                                        have hP : va_P E.1 vwCl (bl [HL_c E o qh qr qt qs qn fn fs ft gh q59.2]) H := hP
                                                        have hD : va_D A (bl [HL_c E o qh qr qt qs qn fn fs ft gh q59.2]) := hD
                                                        refine W.eq (g2 := F0 m 309 ls [.int q60]) rfl ?_
                                                        refine lv_iconst (v := (-1)) hx hb dL_areErrors_309 (by decide) ?_
                                                        refine f_icmp_ne (tgt := 317) hx hb dL_areErrors_310 (by decide) hF (fun hF => ?_) (fun hF => ?_)
                                                        · exact hJ317 q59.2 q1.1 _ _ hP hD hS _ (lv_sub hl [1, 0] rfl) hF
                                                        · refine lv_iconst (v := 1) hx hb dL_areErrors_313 (by decide) ?_
                                                          refine lv_goto (tgt := 318) hx hb dL_areErrors_314 (by decide) ?_
                                                          exact hJ318 q59.2 q1.1 1 _ _ hP hD hS _ (lv_sub hl [1, 0] rfl) hF
def F_L_isLight_J416 (n : Nat) (v : HLV) (x3 : Int32) : Option (Int32) := if x3 = 0 then some 0 else (F_X9_rangeBits n v 0).bind fun q2 => if q2 = 0 then (F_X9_rangeBits n v 2).bind fun q3 => (F_X9_rangeBits n v 3).bind fun q4 => if q4 < q3 then some 0 else (F_X9_rangeBits n v 3).bind fun q5 => (F_X9_rangeBits n v 1).bind fun q6 => if q6 < q5 then some 0 else some 1 else some 0
def F_L_isLight_L281 (n : Nat) : Nat → HLV → Int32 → Int32 → Option (Int32)
  | 0, _, _, _ => none
  | k + 1, v, x3, x4 => if 6 ≤ x4 then F_L_isLight_J416 n v x3 else if x3 = 0 then F_L_isLight_J416 n v x3 else (F_X9_lamp v x4 0).bind fun q7 => if q7 = (-4) then F_L_isLight_L281 n k v 1 (x4 + 1) else (F_X9_lamp v x4 0).bind fun q8 => (F_X9_count n v 5).bind fun q9 => if q8 = q9 then (F_X9_lamp v x4 3).bind fun q10 => (F_X9_lamp v x4 2).bind fun q11 => if q11 < q10 then F_L_isLight_L281 n k v 0 (x4 + 1) else (F_X9_lamp v x4 4).bind fun q12 => (F_X9_lamp v x4 1).bind fun q13 => if (q12 * 2) < q13 then F_L_isLight_L281 n k v 0 (x4 + 1) else (F_X9_lamp v x4 4).bind fun q14 => (F_X9_lamp v x4 1).bind fun q15 => if q15 < q14 then F_L_isLight_L281 n k v 0 (x4 + 1) else (F_X9_lamp v x4 5).bind fun q16 => (F_X9_lamp v x4 3).bind fun q17 => (F_X9_lamp v x4 2).bind fun q18 => if q17 < q18 then if q16 = 0 then F_L_isLight_L281 n k v 1 (x4 + 1) else F_L_isLight_L281 n k v 0 (x4 + 1) else if q16 = 1 then F_L_isLight_L281 n k v 1 (x4 + 1) else F_L_isLight_L281 n k v 0 (x4 + 1) else F_L_isLight_L281 n k v 0 (x4 + 1)
def F_L_isLight_J229 (n : Nat) (v : HLV) (y0 : Int32) (y1 : Int32) : Option (Int32) := if y0 = y1 then (F_X9_count n v 2).bind fun q29 => (F_X9_count n v 1).bind fun q30 => if q30 < q29 then F_L_isLight_L281 n n v 0 0 else (F_X9_count n v 4).bind fun q31 => if 50 < q31 then F_L_isLight_L281 n n v 0 0 else (F_X9_code n v 4).bind fun q32 => (F_X9_next n v q32).bind fun q33 => (F_X9_account v 0).bind fun q34 => if q33 = q34 then F_L_isLight_L281 n n v 1 0 else F_L_isLight_L281 n n v 0 0 else F_L_isLight_L281 n n v 0 0
def F_L_isLight_J211 (n : Nat) (v : HLV) (y0 : Int32) : Option (Int32) := (F_X9_code n v 1).bind fun q27 => (F_X9_code n v 2).bind fun q28 => if q27 = q28 then F_L_isLight_J229 n v y0 1 else F_L_isLight_J229 n v y0 0
def F_L_isLight_J144 (n : Nat) (v : HLV) (x1 : Int32) (x3 : Int32) : Option (Int32) := if x3 = 0 then F_L_isLight_L281 n n v 0 0 else if x1 = 64 then (F_X9_account v 0).bind fun q19 => (F_X9_account v 1).bind fun q20 => (F_X9_account v 2).bind fun q21 => (F_X9_account v 3).bind fun q22 => (F_X9_account v 4).bind fun q23 => if q19 = (((q20 + q21) + q22) + q23) then (F_X9_code n v 2).bind fun q24 => (F_X9_code n v 1).bind fun q25 => if q25 < q24 then F_L_isLight_L281 n n v 0 0 else (F_X9_code n v 3).bind fun q26 => if q26 = 0 then F_L_isLight_J211 n v 1 else F_L_isLight_J211 n v 0 else F_L_isLight_L281 n n v 0 0 else F_L_isLight_L281 n n v 0 0
def F_L_isLight_L13 (n : Nat) : Nat → HLV → Int32 → Int32 → Int32 → Int32 → Option (Int32)
  | 0, _, _, _, _, _ => none
  | k + 1, v, x1, x2, x3, x4 => if x2 ≤ x4 then F_L_isLight_J144 n v x1 x3 else if x3 = 0 then F_L_isLight_J144 n v x1 x3 else (F_X9_sector n v x4 0).bind fun q35 => (F_X9_sector n v x4 1).bind fun q36 => if x4 = 0 then (F_X9_color v q35).bind fun q37 => (F_X9_sector n v x4 2).bind fun q38 => if q37 = q38 then (F_X9_color v (((q35 + q36) - 1) - ((q35 + q36) - 1) / 64 * 64)).bind fun q39 => (F_X9_sector n v x4 2).bind fun q40 => if q39 = q40 then if x2 = 1 then F_L_isLight_L13 n k v (x1 + q36) x2 1 (x4 + 1) else (F_X9_color v ((q35 + q36) - (q35 + q36) / 64 * 64)).bind fun q41 => (F_X9_sector n v x4 2).bind fun q42 => if q41 = q42 then F_L_isLight_L13 n k v (x1 + q36) x2 0 (x4 + 1) else F_L_isLight_L13 n k v (x1 + q36) x2 1 (x4 + 1) else F_L_isLight_L13 n k v (x1 + q36) x2 0 (x4 + 1) else F_L_isLight_L13 n k v (x1 + q36) x2 0 (x4 + 1) else (F_X9_sector n v (x4 - 1) 0).bind fun q43 => if q35 ≤ q43 then F_L_isLight_L13 n k v (x1 + q36) x2 0 (x4 + 1) else (F_X9_color v q35).bind fun q44 => (F_X9_sector n v x4 2).bind fun q45 => if q44 = q45 then (F_X9_color v (((q35 + q36) - 1) - ((q35 + q36) - 1) / 64 * 64)).bind fun q46 => (F_X9_sector n v x4 2).bind fun q47 => if q46 = q47 then if x2 = 1 then F_L_isLight_L13 n k v (x1 + q36) x2 1 (x4 + 1) else (F_X9_color v ((q35 + q36) - (q35 + q36) / 64 * 64)).bind fun q48 => (F_X9_sector n v x4 2).bind fun q49 => if q48 = q49 then F_L_isLight_L13 n k v (x1 + q36) x2 0 (x4 + 1) else F_L_isLight_L13 n k v (x1 + q36) x2 1 (x4 + 1) else F_L_isLight_L13 n k v (x1 + q36) x2 0 (x4 + 1) else F_L_isLight_L13 n k v (x1 + q36) x2 0 (x4 + 1)
def F_L_isLight (n : Nat) (v : HLV) : Option (Int32) := (F_X9_count n v 0).bind fun q1 => F_L_isLight_L13 n n v 0 q1 1 0
set_option maxHeartbeats 4000000 in
set_option maxRecDepth 100000 in
theorem c_L_isLight (l : Launch) (E : GE) (o : Nat) (qh : Nat) (qr : Nat) (qt : Nat) (qs : Nat) (qn : Nat) (fn : Nat → Nat) (fs : Nat → Nat) (ft : Nat → Nat) (gh : Nat → Nat → Nat) (n : Nat) (v : HLV) (r : Int32) (hF : F_L_isLight n v = some r) : CT l E yL_isLight wsL_isLight ({ frames := 4, cells := 0, slots := 0, locals := 89 } : Room) [.ref o] (bl [HL_c E o qh qr qt qs qn fn fs ft gh v]) (some (.int r)) (bl [HL_c E o qh qr qt qs qn fn fs ft gh v]) 0 0 := by
  refine CT.of (cc := cL_isLight) (maxL := 7) (ret := (some .boolean)) (by decide) rfl (Nat.le_of_ble_eq_true rfl) ?_
  intro p e s m args below meth cd A Q ls B hQ hP hD hS hl
  obtain ⟨hx, hb, hml, hown, hts, hr, hlocks, hK, hZ, hA, hnm⟩ := B
  have hown : s.vm.findClass RL = some m.cls := hown
  have hl : lv_has ls 7 [(0, .ref o)] := hl
  have hJ416 : ∀ (x3 : Int32) (H : Heap) (locs : List Loc), va_P E.1 vwCl (bl [HL_c E o qh qr qt qs qn fn fs ft gh v]) H → va_D A (bl [HL_c E o qh qr qt qs qn fn fs ft gh v]) → va_S A s.heap H locs → ∀ ls : Array Slot, lv_has ls 7 [(0, .ref o), (3, .int x3)] → F_L_isLight_J416 n v x3 = some r → W p l e ({ frames := 4, cells := 0, slots := 0, locals := 89 } : Room) s m args below meth cd H locs 0 0 Q (F0 m 416 ls []) := by
    intro x3 H locs hP hD hS ls hl hF
    unfold F_L_isLight_J416 at hF
    refine lv_iload_n hx hb dL_isLight_416 rfl (lv_at hl 1 rfl) ?_
    refine f_if_eq (tgt := 458) hx hb dL_isLight_417 (by decide) hF (fun hF => ?_) (fun hF => ?_)
    · refine lv_iconst (v := 0) hx hb dL_isLight_458 (by decide) ?_
      exact g_zret (rvf := fun z => some (.int z)) (W1f := fun z => bl [HL_c E o qh qr qt qs qn fn fs ft gh v]) hx hb hr hlocks rfl hQ hF rfl hP hD hS [0] rfl rfl dL_isLight_459
    · refine lv_aload_n hx hb dL_isLight_420 rfl (lv_at hl 0 rfl) ?_
      refine lv_iconst (v := 0) hx hb dL_isLight_421 (by decide) ?_
      obtain ⟨q2, h_q2, hF⟩ := bnd_s hF
      refine g_callV (As := [.int 0]) (rest := []) ⟨hx, hb, hml, hown, hts⟩ hK hZ hA (c_X9_rangeBits l E o qh qr qt qs qn fn fs ft gh n v (0) q2 h_q2) (cwV 1 hts gL_isLight_X9_rangeBits rfl rfl rfl (by decide +kernel) ⟨Nat.le_of_ble_eq_true rfl, Nat.le_of_ble_eq_true rfl⟩) hP hD hS [0] [] rfl rfl rfl rfl rfl rfl hl.1 rfl (Nat.le_of_ble_eq_true rfl) dL_isLight_422 ⟨Nat.le_of_ble_eq_true rfl, Nat.le_of_ble_eq_true rfl⟩ (fun H locs hP hD hS => ?_)
      have hP : va_P E.1 vwCl (bl [HL_c E o qh qr qt qs qn fn fs ft gh v]) H := hP
      have hD : va_D A (bl [HL_c E o qh qr qt qs qn fn fs ft gh v]) := hD
      refine W.eq (g2 := F0 m 425 ls [.int q2]) rfl ?_
      refine f_if_ne (tgt := 458) hx hb dL_isLight_425 (by decide) hF (fun hF => ?_) (fun hF => ?_)
      · refine lv_iconst (v := 0) hx hb dL_isLight_458 (by decide) ?_
        exact g_zret (rvf := fun z => some (.int z)) (W1f := fun z => bl [HL_c E o qh qr qt qs qn fn fs ft gh v]) hx hb hr hlocks rfl hQ hF rfl hP hD hS [0] rfl rfl dL_isLight_459
      · refine lv_aload_n hx hb dL_isLight_428 rfl (lv_at hl 0 rfl) ?_
        refine lv_iconst (v := 2) hx hb dL_isLight_429 (by decide) ?_
        obtain ⟨q3, h_q3, hF⟩ := bnd_s hF
        refine g_callV (As := [.int 2]) (rest := []) ⟨hx, hb, hml, hown, hts⟩ hK hZ hA (c_X9_rangeBits l E o qh qr qt qs qn fn fs ft gh n v (2) q3 h_q3) (cwV 1 hts gL_isLight_X9_rangeBits rfl rfl rfl (by decide +kernel) ⟨Nat.le_of_ble_eq_true rfl, Nat.le_of_ble_eq_true rfl⟩) hP hD hS [0] [] rfl rfl rfl rfl rfl rfl hl.1 rfl (Nat.le_of_ble_eq_true rfl) dL_isLight_430 ⟨Nat.le_of_ble_eq_true rfl, Nat.le_of_ble_eq_true rfl⟩ (fun H locs hP hD hS => ?_)
        have hP : va_P E.1 vwCl (bl [HL_c E o qh qr qt qs qn fn fs ft gh v]) H := hP
        have hD : va_D A (bl [HL_c E o qh qr qt qs qn fn fs ft gh v]) := hD
        refine W.eq (g2 := F0 m 433 ls [.int q3]) rfl ?_
        refine lv_aload_n hx hb dL_isLight_433 rfl (lv_at hl 0 rfl) ?_
        refine lv_iconst (v := 3) hx hb dL_isLight_434 (by decide) ?_
        obtain ⟨q4, h_q4, hF⟩ := bnd_s hF
        refine g_callV (As := [.int 3]) (rest := [.int q3]) ⟨hx, hb, hml, hown, hts⟩ hK hZ hA (c_X9_rangeBits l E o qh qr qt qs qn fn fs ft gh n v (3) q4 h_q4) (cwV 1 hts gL_isLight_X9_rangeBits rfl rfl rfl (by decide +kernel) ⟨Nat.le_of_ble_eq_true rfl, Nat.le_of_ble_eq_true rfl⟩) hP hD hS [0] [] rfl rfl rfl rfl rfl rfl hl.1 rfl (Nat.le_of_ble_eq_true rfl) dL_isLight_435 ⟨Nat.le_of_ble_eq_true rfl, Nat.le_of_ble_eq_true rfl⟩ (fun H locs hP hD hS => ?_)
        have hP : va_P E.1 vwCl (bl [HL_c E o qh qr qt qs qn fn fs ft gh v]) H := hP
        have hD : va_D A (bl [HL_c E o qh qr qt qs qn fn fs ft gh v]) := hD
        refine W.eq (g2 := F0 m 438 ls [.int q4, .int q3]) rfl ?_
        refine f_icmp_gt (tgt := 458) hx hb dL_isLight_438 (by decide) hF (fun hF => ?_) (fun hF => ?_)
        · refine lv_iconst (v := 0) hx hb dL_isLight_458 (by decide) ?_
          exact g_zret (rvf := fun z => some (.int z)) (W1f := fun z => bl [HL_c E o qh qr qt qs qn fn fs ft gh v]) hx hb hr hlocks rfl hQ hF rfl hP hD hS [0] rfl rfl dL_isLight_459
        · refine lv_aload_n hx hb dL_isLight_441 rfl (lv_at hl 0 rfl) ?_
          refine lv_iconst (v := 3) hx hb dL_isLight_442 (by decide) ?_
          obtain ⟨q5, h_q5, hF⟩ := bnd_s hF
          refine g_callV (As := [.int 3]) (rest := []) ⟨hx, hb, hml, hown, hts⟩ hK hZ hA (c_X9_rangeBits l E o qh qr qt qs qn fn fs ft gh n v (3) q5 h_q5) (cwV 1 hts gL_isLight_X9_rangeBits rfl rfl rfl (by decide +kernel) ⟨Nat.le_of_ble_eq_true rfl, Nat.le_of_ble_eq_true rfl⟩) hP hD hS [0] [] rfl rfl rfl rfl rfl rfl hl.1 rfl (Nat.le_of_ble_eq_true rfl) dL_isLight_443 ⟨Nat.le_of_ble_eq_true rfl, Nat.le_of_ble_eq_true rfl⟩ (fun H locs hP hD hS => ?_)
          have hP : va_P E.1 vwCl (bl [HL_c E o qh qr qt qs qn fn fs ft gh v]) H := hP
          have hD : va_D A (bl [HL_c E o qh qr qt qs qn fn fs ft gh v]) := hD
          refine W.eq (g2 := F0 m 446 ls [.int q5]) rfl ?_
          refine lv_aload_n hx hb dL_isLight_446 rfl (lv_at hl 0 rfl) ?_
          refine lv_iconst (v := 1) hx hb dL_isLight_447 (by decide) ?_
          obtain ⟨q6, h_q6, hF⟩ := bnd_s hF
          refine g_callV (As := [.int 1]) (rest := [.int q5]) ⟨hx, hb, hml, hown, hts⟩ hK hZ hA (c_X9_rangeBits l E o qh qr qt qs qn fn fs ft gh n v (1) q6 h_q6) (cwV 1 hts gL_isLight_X9_rangeBits rfl rfl rfl (by decide +kernel) ⟨Nat.le_of_ble_eq_true rfl, Nat.le_of_ble_eq_true rfl⟩) hP hD hS [0] [] rfl rfl rfl rfl rfl rfl hl.1 rfl (Nat.le_of_ble_eq_true rfl) dL_isLight_448 ⟨Nat.le_of_ble_eq_true rfl, Nat.le_of_ble_eq_true rfl⟩ (fun H locs hP hD hS => ?_)
          have hP : va_P E.1 vwCl (bl [HL_c E o qh qr qt qs qn fn fs ft gh v]) H := hP
          have hD : va_D A (bl [HL_c E o qh qr qt qs qn fn fs ft gh v]) := hD
          refine W.eq (g2 := F0 m 451 ls [.int q6, .int q5]) rfl ?_
          refine f_icmp_gt (tgt := 458) hx hb dL_isLight_451 (by decide) hF (fun hF => ?_) (fun hF => ?_)
          · refine lv_iconst (v := 0) hx hb dL_isLight_458 (by decide) ?_
            exact g_zret (rvf := fun z => some (.int z)) (W1f := fun z => bl [HL_c E o qh qr qt qs qn fn fs ft gh v]) hx hb hr hlocks rfl hQ hF rfl hP hD hS [0] rfl rfl dL_isLight_459
          · refine lv_iconst (v := 1) hx hb dL_isLight_454 (by decide) ?_
            refine lv_goto (tgt := 459) hx hb dL_isLight_455 (by decide) ?_
            exact g_zret (rvf := fun z => some (.int z)) (W1f := fun z => bl [HL_c E o qh qr qt qs qn fn fs ft gh v]) hx hb hr hlocks rfl hQ hF rfl hP hD hS [0] rfl rfl dL_isLight_459
  have hL281 : ∀ (k : Nat) (x3 : Int32) (x4 : Int32) (H : Heap) (locs : List Loc), va_P E.1 vwCl (bl [HL_c E o qh qr qt qs qn fn fs ft gh v]) H → va_D A (bl [HL_c E o qh qr qt qs qn fn fs ft gh v]) → va_S A s.heap H locs → ∀ ls : Array Slot, lv_has ls 7 [(0, .ref o), (3, .int x3), (4, .int x4)] → F_L_isLight_L281 n k v x3 x4 = some r → W p l e ({ frames := 4, cells := 0, slots := 0, locals := 89 } : Room) s m args below meth cd H locs 0 0 Q (F0 m 281 ls []) := by
    intro k
    induction k with
    | zero => intro x3 x4 H locs hP hD hS ls hl hF; cases hF
    | succ k ih =>
      intro x3 x4 H locs hP hD hS ls hl hF
      rw [F_L_isLight_L281] at hF
      refine lv_iload hx hb dL_isLight_281 (lv_at hl 2 rfl) ?_
      refine lv_bipush (v := 6) hx hb dL_isLight_283 (by decide) ?_
      refine f_icmp_ge (tgt := 416) hx hb dL_isLight_285 (by decide) hF (fun hF => ?_) (fun hF => ?_)
      · exact hJ416 x3 _ _ hP hD hS _ (lv_sub hl [0, 1] rfl) hF
      · refine lv_iload_n hx hb dL_isLight_288 rfl (lv_at hl 1 rfl) ?_
        refine f_if_eq (tgt := 416) hx hb dL_isLight_289 (by decide) hF (fun hF => ?_) (fun hF => ?_)
        · exact hJ416 x3 _ _ hP hD hS _ (lv_sub hl [0, 1] rfl) hF
        · refine lv_aload_n hx hb dL_isLight_292 rfl (lv_at hl 0 rfl) ?_
          refine lv_iload hx hb dL_isLight_293 (lv_at hl 2 rfl) ?_
          refine lv_iconst (v := 0) hx hb dL_isLight_295 (by decide) ?_
          obtain ⟨q7, h_q7, hF⟩ := bnd_s hF
          refine g_callV (As := [.int x4, .int 0]) (rest := []) ⟨hx, hb, hml, hown, hts⟩ hK hZ hA (c_X9_lamp l E o qh qr qt qs qn fn fs ft gh v x4 (0) q7 h_q7) (cwV 2 hts gL_isLight_X9_lamp rfl rfl rfl (by decide +kernel) ⟨Nat.le_of_ble_eq_true rfl, Nat.le_of_ble_eq_true rfl⟩) hP hD hS [0] [] rfl rfl rfl rfl rfl rfl hl.1 rfl (Nat.le_of_ble_eq_true rfl) dL_isLight_296 ⟨Nat.le_of_ble_eq_true rfl, Nat.le_of_ble_eq_true rfl⟩ (fun H locs hP hD hS => ?_)
          have hP : va_P E.1 vwCl (bl [HL_c E o qh qr qt qs qn fn fs ft gh v]) H := hP
          have hD : va_D A (bl [HL_c E o qh qr qt qs qn fn fs ft gh v]) := hD
          refine W.eq (g2 := F0 m 299 ls [.int q7]) rfl ?_
          refine lv_bipush (v := (-4)) hx hb dL_isLight_299 (by decide) ?_
          refine f_icmp_eq (tgt := 404) hx hb dL_isLight_301 (by decide) hF (fun hF => ?_) (fun hF => ?_)
          · refine lv_iconst (v := 1) hx hb dL_isLight_404 (by decide) ?_
            refine lv_goto (tgt := 409) hx hb dL_isLight_405 (by decide) ?_
            refine lv_istore_n (lv' := [(3, .int 1), (0, .ref o), (4, .int x4)]) hx hb dL_isLight_409 rfl hl (by decide) rfl (fun ls hl => ?_)
            refine lv_iinc (v := (x4 + 1)) (lv' := [(4, .int (x4 + 1)), (3, .int 1), (0, .ref o)]) hx hb dL_isLight_410 hl (k := 2) rfl rfl (by decide) rfl (fun ls hl => ?_)
            refine lv_goto (tgt := 281) hx hb dL_isLight_413 (by decide) ?_
            exact ih 1 (x4 + 1) _ _ hP hD hS _ (lv_sub hl [2, 1, 0] rfl) hF
          · refine lv_aload_n hx hb dL_isLight_304 rfl (lv_at hl 0 rfl) ?_
            refine lv_iload hx hb dL_isLight_305 (lv_at hl 2 rfl) ?_
            refine lv_iconst (v := 0) hx hb dL_isLight_307 (by decide) ?_
            obtain ⟨q8, h_q8, hF⟩ := bnd_s hF
            refine g_callV (As := [.int x4, .int 0]) (rest := []) ⟨hx, hb, hml, hown, hts⟩ hK hZ hA (c_X9_lamp l E o qh qr qt qs qn fn fs ft gh v x4 (0) q8 h_q8) (cwV 2 hts gL_isLight_X9_lamp rfl rfl rfl (by decide +kernel) ⟨Nat.le_of_ble_eq_true rfl, Nat.le_of_ble_eq_true rfl⟩) hP hD hS [0] [] rfl rfl rfl rfl rfl rfl hl.1 rfl (Nat.le_of_ble_eq_true rfl) dL_isLight_308 ⟨Nat.le_of_ble_eq_true rfl, Nat.le_of_ble_eq_true rfl⟩ (fun H locs hP hD hS => ?_)
            have hP : va_P E.1 vwCl (bl [HL_c E o qh qr qt qs qn fn fs ft gh v]) H := hP
            have hD : va_D A (bl [HL_c E o qh qr qt qs qn fn fs ft gh v]) := hD
            refine W.eq (g2 := F0 m 311 ls [.int q8]) rfl ?_
            refine lv_aload_n hx hb dL_isLight_311 rfl (lv_at hl 0 rfl) ?_
            refine lv_iconst (v := 5) hx hb dL_isLight_312 (by decide) ?_
            obtain ⟨q9, h_q9, hF⟩ := bnd_s hF
            refine g_callV (As := [.int 5]) (rest := [.int q8]) ⟨hx, hb, hml, hown, hts⟩ hK hZ hA (c_X9_count l E o qh qr qt qs qn fn fs ft gh n v (5) q9 h_q9) (cwV 1 hts gL_isLight_X9_count rfl rfl rfl (by decide +kernel) ⟨Nat.le_of_ble_eq_true rfl, Nat.le_of_ble_eq_true rfl⟩) hP hD hS [0] [] rfl rfl rfl rfl rfl rfl hl.1 rfl (Nat.le_of_ble_eq_true rfl) dL_isLight_313 ⟨Nat.le_of_ble_eq_true rfl, Nat.le_of_ble_eq_true rfl⟩ (fun H locs hP hD hS => ?_)
            have hP : va_P E.1 vwCl (bl [HL_c E o qh qr qt qs qn fn fs ft gh v]) H := hP
            have hD : va_D A (bl [HL_c E o qh qr qt qs qn fn fs ft gh v]) := hD
            refine W.eq (g2 := F0 m 316 ls [.int q9, .int q8]) rfl ?_
            refine f_icmp_ne (tgt := 408) hx hb dL_isLight_316 (by decide) hF (fun hF => ?_) (fun hF => ?_)
            · refine lv_iconst (v := 0) hx hb dL_isLight_408 (by decide) ?_
              refine lv_istore_n (lv' := [(3, .int 0), (0, .ref o), (4, .int x4)]) hx hb dL_isLight_409 rfl hl (by decide) rfl (fun ls hl => ?_)
              refine lv_iinc (v := (x4 + 1)) (lv' := [(4, .int (x4 + 1)), (3, .int 0), (0, .ref o)]) hx hb dL_isLight_410 hl (k := 2) rfl rfl (by decide) rfl (fun ls hl => ?_)
              refine lv_goto (tgt := 281) hx hb dL_isLight_413 (by decide) ?_
              exact ih 0 (x4 + 1) _ _ hP hD hS _ (lv_sub hl [2, 1, 0] rfl) hF
            · refine lv_aload_n hx hb dL_isLight_319 rfl (lv_at hl 0 rfl) ?_
              refine lv_iload hx hb dL_isLight_320 (lv_at hl 2 rfl) ?_
              refine lv_iconst (v := 3) hx hb dL_isLight_322 (by decide) ?_
              obtain ⟨q10, h_q10, hF⟩ := bnd_s hF
              refine g_callV (As := [.int x4, .int 3]) (rest := []) ⟨hx, hb, hml, hown, hts⟩ hK hZ hA (c_X9_lamp l E o qh qr qt qs qn fn fs ft gh v x4 (3) q10 h_q10) (cwV 2 hts gL_isLight_X9_lamp rfl rfl rfl (by decide +kernel) ⟨Nat.le_of_ble_eq_true rfl, Nat.le_of_ble_eq_true rfl⟩) hP hD hS [0] [] rfl rfl rfl rfl rfl rfl hl.1 rfl (Nat.le_of_ble_eq_true rfl) dL_isLight_323 ⟨Nat.le_of_ble_eq_true rfl, Nat.le_of_ble_eq_true rfl⟩ (fun H locs hP hD hS => ?_)
              have hP : va_P E.1 vwCl (bl [HL_c E o qh qr qt qs qn fn fs ft gh v]) H := hP
              have hD : va_D A (bl [HL_c E o qh qr qt qs qn fn fs ft gh v]) := hD
              refine W.eq (g2 := F0 m 326 ls [.int q10]) rfl ?_
              refine lv_aload_n hx hb dL_isLight_326 rfl (lv_at hl 0 rfl) ?_
              refine lv_iload hx hb dL_isLight_327 (lv_at hl 2 rfl) ?_
              refine lv_iconst (v := 2) hx hb dL_isLight_329 (by decide) ?_
              obtain ⟨q11, h_q11, hF⟩ := bnd_s hF
              refine g_callV (As := [.int x4, .int 2]) (rest := [.int q10]) ⟨hx, hb, hml, hown, hts⟩ hK hZ hA (c_X9_lamp l E o qh qr qt qs qn fn fs ft gh v x4 (2) q11 h_q11) (cwV 2 hts gL_isLight_X9_lamp rfl rfl rfl (by decide +kernel) ⟨Nat.le_of_ble_eq_true rfl, Nat.le_of_ble_eq_true rfl⟩) hP hD hS [0] [] rfl rfl rfl rfl rfl rfl hl.1 rfl (Nat.le_of_ble_eq_true rfl) dL_isLight_330 ⟨Nat.le_of_ble_eq_true rfl, Nat.le_of_ble_eq_true rfl⟩ (fun H locs hP hD hS => ?_)
              have hP : va_P E.1 vwCl (bl [HL_c E o qh qr qt qs qn fn fs ft gh v]) H := hP
              have hD : va_D A (bl [HL_c E o qh qr qt qs qn fn fs ft gh v]) := hD
              refine W.eq (g2 := F0 m 333 ls [.int q11, .int q10]) rfl ?_
              refine f_icmp_gt (tgt := 408) hx hb dL_isLight_333 (by decide) hF (fun hF => ?_) (fun hF => ?_)
              · refine lv_iconst (v := 0) hx hb dL_isLight_408 (by decide) ?_
                refine lv_istore_n (lv' := [(3, .int 0), (0, .ref o), (4, .int x4)]) hx hb dL_isLight_409 rfl hl (by decide) rfl (fun ls hl => ?_)
                refine lv_iinc (v := (x4 + 1)) (lv' := [(4, .int (x4 + 1)), (3, .int 0), (0, .ref o)]) hx hb dL_isLight_410 hl (k := 2) rfl rfl (by decide) rfl (fun ls hl => ?_)
                refine lv_goto (tgt := 281) hx hb dL_isLight_413 (by decide) ?_
                exact ih 0 (x4 + 1) _ _ hP hD hS _ (lv_sub hl [2, 1, 0] rfl) hF
              · refine lv_aload_n hx hb dL_isLight_336 rfl (lv_at hl 0 rfl) ?_
                refine lv_iload hx hb dL_isLight_337 (lv_at hl 2 rfl) ?_
                refine lv_iconst (v := 4) hx hb dL_isLight_339 (by decide) ?_
                obtain ⟨q12, h_q12, hF⟩ := bnd_s hF
                refine g_callV (As := [.int x4, .int 4]) (rest := []) ⟨hx, hb, hml, hown, hts⟩ hK hZ hA (c_X9_lamp l E o qh qr qt qs qn fn fs ft gh v x4 (4) q12 h_q12) (cwV 2 hts gL_isLight_X9_lamp rfl rfl rfl (by decide +kernel) ⟨Nat.le_of_ble_eq_true rfl, Nat.le_of_ble_eq_true rfl⟩) hP hD hS [0] [] rfl rfl rfl rfl rfl rfl hl.1 rfl (Nat.le_of_ble_eq_true rfl) dL_isLight_340 ⟨Nat.le_of_ble_eq_true rfl, Nat.le_of_ble_eq_true rfl⟩ (fun H locs hP hD hS => ?_)
                have hP : va_P E.1 vwCl (bl [HL_c E o qh qr qt qs qn fn fs ft gh v]) H := hP
                have hD : va_D A (bl [HL_c E o qh qr qt qs qn fn fs ft gh v]) := hD
                refine W.eq (g2 := F0 m 343 ls [.int q12]) rfl ?_
                refine lv_iconst (v := 2) hx hb dL_isLight_343 (by decide) ?_
                refine lv_imul hx hb dL_isLight_344 ?_
                refine lv_aload_n hx hb dL_isLight_345 rfl (lv_at hl 0 rfl) ?_
                refine lv_iload hx hb dL_isLight_346 (lv_at hl 2 rfl) ?_
                refine lv_iconst (v := 1) hx hb dL_isLight_348 (by decide) ?_
                obtain ⟨q13, h_q13, hF⟩ := bnd_s hF
                refine g_callV (As := [.int x4, .int 1]) (rest := [.int (q12 * 2)]) ⟨hx, hb, hml, hown, hts⟩ hK hZ hA (c_X9_lamp l E o qh qr qt qs qn fn fs ft gh v x4 (1) q13 h_q13) (cwV 2 hts gL_isLight_X9_lamp rfl rfl rfl (by decide +kernel) ⟨Nat.le_of_ble_eq_true rfl, Nat.le_of_ble_eq_true rfl⟩) hP hD hS [0] [] rfl rfl rfl rfl rfl rfl hl.1 rfl (Nat.le_of_ble_eq_true rfl) dL_isLight_349 ⟨Nat.le_of_ble_eq_true rfl, Nat.le_of_ble_eq_true rfl⟩ (fun H locs hP hD hS => ?_)
                have hP : va_P E.1 vwCl (bl [HL_c E o qh qr qt qs qn fn fs ft gh v]) H := hP
                have hD : va_D A (bl [HL_c E o qh qr qt qs qn fn fs ft gh v]) := hD
                refine W.eq (g2 := F0 m 352 ls [.int q13, .int (q12 * 2)]) rfl ?_
                refine f_icmp_lt (tgt := 408) hx hb dL_isLight_352 (by decide) hF (fun hF => ?_) (fun hF => ?_)
                · refine lv_iconst (v := 0) hx hb dL_isLight_408 (by decide) ?_
                  refine lv_istore_n (lv' := [(3, .int 0), (0, .ref o), (4, .int x4)]) hx hb dL_isLight_409 rfl hl (by decide) rfl (fun ls hl => ?_)
                  refine lv_iinc (v := (x4 + 1)) (lv' := [(4, .int (x4 + 1)), (3, .int 0), (0, .ref o)]) hx hb dL_isLight_410 hl (k := 2) rfl rfl (by decide) rfl (fun ls hl => ?_)
                  refine lv_goto (tgt := 281) hx hb dL_isLight_413 (by decide) ?_
                  exact ih 0 (x4 + 1) _ _ hP hD hS _ (lv_sub hl [2, 1, 0] rfl) hF
                · refine lv_aload_n hx hb dL_isLight_355 rfl (lv_at hl 0 rfl) ?_
                  refine lv_iload hx hb dL_isLight_356 (lv_at hl 2 rfl) ?_
                  refine lv_iconst (v := 4) hx hb dL_isLight_358 (by decide) ?_
                  obtain ⟨q14, h_q14, hF⟩ := bnd_s hF
                  refine g_callV (As := [.int x4, .int 4]) (rest := []) ⟨hx, hb, hml, hown, hts⟩ hK hZ hA (c_X9_lamp l E o qh qr qt qs qn fn fs ft gh v x4 (4) q14 h_q14) (cwV 2 hts gL_isLight_X9_lamp rfl rfl rfl (by decide +kernel) ⟨Nat.le_of_ble_eq_true rfl, Nat.le_of_ble_eq_true rfl⟩) hP hD hS [0] [] rfl rfl rfl rfl rfl rfl hl.1 rfl (Nat.le_of_ble_eq_true rfl) dL_isLight_359 ⟨Nat.le_of_ble_eq_true rfl, Nat.le_of_ble_eq_true rfl⟩ (fun H locs hP hD hS => ?_)
                  have hP : va_P E.1 vwCl (bl [HL_c E o qh qr qt qs qn fn fs ft gh v]) H := hP
                  have hD : va_D A (bl [HL_c E o qh qr qt qs qn fn fs ft gh v]) := hD
                  refine W.eq (g2 := F0 m 362 ls [.int q14]) rfl ?_
                  refine lv_aload_n hx hb dL_isLight_362 rfl (lv_at hl 0 rfl) ?_
                  refine lv_iload hx hb dL_isLight_363 (lv_at hl 2 rfl) ?_
                  refine lv_iconst (v := 1) hx hb dL_isLight_365 (by decide) ?_
                  obtain ⟨q15, h_q15, hF⟩ := bnd_s hF
                  refine g_callV (As := [.int x4, .int 1]) (rest := [.int q14]) ⟨hx, hb, hml, hown, hts⟩ hK hZ hA (c_X9_lamp l E o qh qr qt qs qn fn fs ft gh v x4 (1) q15 h_q15) (cwV 2 hts gL_isLight_X9_lamp rfl rfl rfl (by decide +kernel) ⟨Nat.le_of_ble_eq_true rfl, Nat.le_of_ble_eq_true rfl⟩) hP hD hS [0] [] rfl rfl rfl rfl rfl rfl hl.1 rfl (Nat.le_of_ble_eq_true rfl) dL_isLight_366 ⟨Nat.le_of_ble_eq_true rfl, Nat.le_of_ble_eq_true rfl⟩ (fun H locs hP hD hS => ?_)
                  have hP : va_P E.1 vwCl (bl [HL_c E o qh qr qt qs qn fn fs ft gh v]) H := hP
                  have hD : va_D A (bl [HL_c E o qh qr qt qs qn fn fs ft gh v]) := hD
                  refine W.eq (g2 := F0 m 369 ls [.int q15, .int q14]) rfl ?_
                  refine f_icmp_gt (tgt := 408) hx hb dL_isLight_369 (by decide) hF (fun hF => ?_) (fun hF => ?_)
                  · refine lv_iconst (v := 0) hx hb dL_isLight_408 (by decide) ?_
                    refine lv_istore_n (lv' := [(3, .int 0), (0, .ref o), (4, .int x4)]) hx hb dL_isLight_409 rfl hl (by decide) rfl (fun ls hl => ?_)
                    refine lv_iinc (v := (x4 + 1)) (lv' := [(4, .int (x4 + 1)), (3, .int 0), (0, .ref o)]) hx hb dL_isLight_410 hl (k := 2) rfl rfl (by decide) rfl (fun ls hl => ?_)
                    refine lv_goto (tgt := 281) hx hb dL_isLight_413 (by decide) ?_
                    exact ih 0 (x4 + 1) _ _ hP hD hS _ (lv_sub hl [2, 1, 0] rfl) hF
                  · refine lv_aload_n hx hb dL_isLight_372 rfl (lv_at hl 0 rfl) ?_
                    refine lv_iload hx hb dL_isLight_373 (lv_at hl 2 rfl) ?_
                    refine lv_iconst (v := 5) hx hb dL_isLight_375 (by decide) ?_
                    obtain ⟨q16, h_q16, hF⟩ := bnd_s hF
                    refine g_callV (As := [.int x4, .int 5]) (rest := []) ⟨hx, hb, hml, hown, hts⟩ hK hZ hA (c_X9_lamp l E o qh qr qt qs qn fn fs ft gh v x4 (5) q16 h_q16) (cwV 2 hts gL_isLight_X9_lamp rfl rfl rfl (by decide +kernel) ⟨Nat.le_of_ble_eq_true rfl, Nat.le_of_ble_eq_true rfl⟩) hP hD hS [0] [] rfl rfl rfl rfl rfl rfl hl.1 rfl (Nat.le_of_ble_eq_true rfl) dL_isLight_376 ⟨Nat.le_of_ble_eq_true rfl, Nat.le_of_ble_eq_true rfl⟩ (fun H locs hP hD hS => ?_)
                    have hP : va_P E.1 vwCl (bl [HL_c E o qh qr qt qs qn fn fs ft gh v]) H := hP
                    have hD : va_D A (bl [HL_c E o qh qr qt qs qn fn fs ft gh v]) := hD
                    refine W.eq (g2 := F0 m 379 ls [.int q16]) rfl ?_
                    refine lv_aload_n hx hb dL_isLight_379 rfl (lv_at hl 0 rfl) ?_
                    refine lv_iload hx hb dL_isLight_380 (lv_at hl 2 rfl) ?_
                    refine lv_iconst (v := 3) hx hb dL_isLight_382 (by decide) ?_
                    obtain ⟨q17, h_q17, hF⟩ := bnd_s hF
                    refine g_callV (As := [.int x4, .int 3]) (rest := [.int q16]) ⟨hx, hb, hml, hown, hts⟩ hK hZ hA (c_X9_lamp l E o qh qr qt qs qn fn fs ft gh v x4 (3) q17 h_q17) (cwV 2 hts gL_isLight_X9_lamp rfl rfl rfl (by decide +kernel) ⟨Nat.le_of_ble_eq_true rfl, Nat.le_of_ble_eq_true rfl⟩) hP hD hS [0] [] rfl rfl rfl rfl rfl rfl hl.1 rfl (Nat.le_of_ble_eq_true rfl) dL_isLight_383 ⟨Nat.le_of_ble_eq_true rfl, Nat.le_of_ble_eq_true rfl⟩ (fun H locs hP hD hS => ?_)
                    have hP : va_P E.1 vwCl (bl [HL_c E o qh qr qt qs qn fn fs ft gh v]) H := hP
                    have hD : va_D A (bl [HL_c E o qh qr qt qs qn fn fs ft gh v]) := hD
                    refine W.eq (g2 := F0 m 386 ls [.int q17, .int q16]) rfl ?_
                    refine lv_aload_n hx hb dL_isLight_386 rfl (lv_at hl 0 rfl) ?_
                    refine lv_iload hx hb dL_isLight_387 (lv_at hl 2 rfl) ?_
                    refine lv_iconst (v := 2) hx hb dL_isLight_389 (by decide) ?_
                    obtain ⟨q18, h_q18, hF⟩ := bnd_s hF
                    refine g_callV (As := [.int x4, .int 2]) (rest := [.int q17, .int q16]) ⟨hx, hb, hml, hown, hts⟩ hK hZ hA (c_X9_lamp l E o qh qr qt qs qn fn fs ft gh v x4 (2) q18 h_q18) (cwV 2 hts gL_isLight_X9_lamp rfl rfl rfl (by decide +kernel) ⟨Nat.le_of_ble_eq_true rfl, Nat.le_of_ble_eq_true rfl⟩) hP hD hS [0] [] rfl rfl rfl rfl rfl rfl hl.1 rfl (Nat.le_of_ble_eq_true rfl) dL_isLight_390 ⟨Nat.le_of_ble_eq_true rfl, Nat.le_of_ble_eq_true rfl⟩ (fun H locs hP hD hS => ?_)
                    have hP : va_P E.1 vwCl (bl [HL_c E o qh qr qt qs qn fn fs ft gh v]) H := hP
                    have hD : va_D A (bl [HL_c E o qh qr qt qs qn fn fs ft gh v]) := hD
                    refine W.eq (g2 := F0 m 393 ls [.int q18, .int q17, .int q16]) rfl ?_
                    refine f_icmp_lt (tgt := 400) hx hb dL_isLight_393 (by decide) hF (fun hF => ?_) (fun hF => ?_)
                    · refine lv_iconst (v := 0) hx hb dL_isLight_400 (by decide) ?_
                      refine f_icmp_ne (tgt := 408) hx hb dL_isLight_401 (by decide) hF (fun hF => ?_) (fun hF => ?_)
                      · refine lv_iconst (v := 0) hx hb dL_isLight_408 (by decide) ?_
                        refine lv_istore_n (lv' := [(3, .int 0), (0, .ref o), (4, .int x4)]) hx hb dL_isLight_409 rfl hl (by decide) rfl (fun ls hl => ?_)
                        refine lv_iinc (v := (x4 + 1)) (lv' := [(4, .int (x4 + 1)), (3, .int 0), (0, .ref o)]) hx hb dL_isLight_410 hl (k := 2) rfl rfl (by decide) rfl (fun ls hl => ?_)
                        refine lv_goto (tgt := 281) hx hb dL_isLight_413 (by decide) ?_
                        exact ih 0 (x4 + 1) _ _ hP hD hS _ (lv_sub hl [2, 1, 0] rfl) hF
                      · refine lv_iconst (v := 1) hx hb dL_isLight_404 (by decide) ?_
                        refine lv_goto (tgt := 409) hx hb dL_isLight_405 (by decide) ?_
                        refine lv_istore_n (lv' := [(3, .int 1), (0, .ref o), (4, .int x4)]) hx hb dL_isLight_409 rfl hl (by decide) rfl (fun ls hl => ?_)
                        refine lv_iinc (v := (x4 + 1)) (lv' := [(4, .int (x4 + 1)), (3, .int 1), (0, .ref o)]) hx hb dL_isLight_410 hl (k := 2) rfl rfl (by decide) rfl (fun ls hl => ?_)
                        refine lv_goto (tgt := 281) hx hb dL_isLight_413 (by decide) ?_
                        exact ih 1 (x4 + 1) _ _ hP hD hS _ (lv_sub hl [2, 1, 0] rfl) hF
                    · refine lv_iconst (v := 1) hx hb dL_isLight_396 (by decide) ?_
                      refine lv_goto (tgt := 401) hx hb dL_isLight_397 (by decide) ?_
                      refine f_icmp_ne (tgt := 408) hx hb dL_isLight_401 (by decide) hF (fun hF => ?_) (fun hF => ?_)
                      · refine lv_iconst (v := 0) hx hb dL_isLight_408 (by decide) ?_
                        refine lv_istore_n (lv' := [(3, .int 0), (0, .ref o), (4, .int x4)]) hx hb dL_isLight_409 rfl hl (by decide) rfl (fun ls hl => ?_)
                        refine lv_iinc (v := (x4 + 1)) (lv' := [(4, .int (x4 + 1)), (3, .int 0), (0, .ref o)]) hx hb dL_isLight_410 hl (k := 2) rfl rfl (by decide) rfl (fun ls hl => ?_)
                        refine lv_goto (tgt := 281) hx hb dL_isLight_413 (by decide) ?_
                        exact ih 0 (x4 + 1) _ _ hP hD hS _ (lv_sub hl [2, 1, 0] rfl) hF
                      · refine lv_iconst (v := 1) hx hb dL_isLight_404 (by decide) ?_
                        refine lv_goto (tgt := 409) hx hb dL_isLight_405 (by decide) ?_
                        refine lv_istore_n (lv' := [(3, .int 1), (0, .ref o), (4, .int x4)]) hx hb dL_isLight_409 rfl hl (by decide) rfl (fun ls hl => ?_)
                        refine lv_iinc (v := (x4 + 1)) (lv' := [(4, .int (x4 + 1)), (3, .int 1), (0, .ref o)]) hx hb dL_isLight_410 hl (k := 2) rfl rfl (by decide) rfl (fun ls hl => ?_)
                        refine lv_goto (tgt := 281) hx hb dL_isLight_413 (by decide) ?_
                        exact ih 1 (x4 + 1) _ _ hP hD hS _ (lv_sub hl [2, 1, 0] rfl) hF
  have hJ229 : ∀ (y0 : Int32) (y1 : Int32) (H : Heap) (locs : List Loc), va_P E.1 vwCl (bl [HL_c E o qh qr qt qs qn fn fs ft gh v]) H → va_D A (bl [HL_c E o qh qr qt qs qn fn fs ft gh v]) → va_S A s.heap H locs → ∀ ls : Array Slot, lv_has ls 7 [(0, .ref o)] → F_L_isLight_J229 n v y0 y1 = some r → W p l e ({ frames := 4, cells := 0, slots := 0, locals := 89 } : Room) s m args below meth cd H locs 0 0 Q (F0 m 229 ls [.int y1, .int y0]) := by
    intro y0 y1 H locs hP hD hS ls hl hF
    unfold F_L_isLight_J229 at hF
    refine f_icmp_ne (tgt := 276) hx hb dL_isLight_229 (by decide) hF (fun hF => ?_) (fun hF => ?_)
    · refine lv_iconst (v := 0) hx hb dL_isLight_276 (by decide) ?_
      refine lv_istore_n (lv' := [(3, .int 0), (0, .ref o)]) hx hb dL_isLight_277 rfl hl (by decide) rfl (fun ls hl => ?_)
      refine lv_iconst (v := 0) hx hb dL_isLight_278 (by decide) ?_
      refine lv_istore (lv' := [(4, .int 0), (3, .int 0), (0, .ref o)]) hx hb dL_isLight_279 hl (by decide) rfl (fun ls hl => ?_)
      exact hL281 n 0 0 _ _ hP hD hS _ (lv_sub hl [2, 1, 0] rfl) hF
    · refine lv_aload_n hx hb dL_isLight_232 rfl (lv_at hl 0 rfl) ?_
      refine lv_iconst (v := 2) hx hb dL_isLight_233 (by decide) ?_
      obtain ⟨q29, h_q29, hF⟩ := bnd_s hF
      refine g_callV (As := [.int 2]) (rest := []) ⟨hx, hb, hml, hown, hts⟩ hK hZ hA (c_X9_count l E o qh qr qt qs qn fn fs ft gh n v (2) q29 h_q29) (cwV 1 hts gL_isLight_X9_count rfl rfl rfl (by decide +kernel) ⟨Nat.le_of_ble_eq_true rfl, Nat.le_of_ble_eq_true rfl⟩) hP hD hS [0] [] rfl rfl rfl rfl rfl rfl hl.1 rfl (Nat.le_of_ble_eq_true rfl) dL_isLight_234 ⟨Nat.le_of_ble_eq_true rfl, Nat.le_of_ble_eq_true rfl⟩ (fun H locs hP hD hS => ?_)
      have hP : va_P E.1 vwCl (bl [HL_c E o qh qr qt qs qn fn fs ft gh v]) H := hP
      have hD : va_D A (bl [HL_c E o qh qr qt qs qn fn fs ft gh v]) := hD
      refine W.eq (g2 := F0 m 237 ls [.int q29]) rfl ?_
      refine lv_aload_n hx hb dL_isLight_237 rfl (lv_at hl 0 rfl) ?_
      refine lv_iconst (v := 1) hx hb dL_isLight_238 (by decide) ?_
      obtain ⟨q30, h_q30, hF⟩ := bnd_s hF
      refine g_callV (As := [.int 1]) (rest := [.int q29]) ⟨hx, hb, hml, hown, hts⟩ hK hZ hA (c_X9_count l E o qh qr qt qs qn fn fs ft gh n v (1) q30 h_q30) (cwV 1 hts gL_isLight_X9_count rfl rfl rfl (by decide +kernel) ⟨Nat.le_of_ble_eq_true rfl, Nat.le_of_ble_eq_true rfl⟩) hP hD hS [0] [] rfl rfl rfl rfl rfl rfl hl.1 rfl (Nat.le_of_ble_eq_true rfl) dL_isLight_239 ⟨Nat.le_of_ble_eq_true rfl, Nat.le_of_ble_eq_true rfl⟩ (fun H locs hP hD hS => ?_)
      have hP : va_P E.1 vwCl (bl [HL_c E o qh qr qt qs qn fn fs ft gh v]) H := hP
      have hD : va_D A (bl [HL_c E o qh qr qt qs qn fn fs ft gh v]) := hD
      refine W.eq (g2 := F0 m 242 ls [.int q30, .int q29]) rfl ?_
      refine f_icmp_gt (tgt := 276) hx hb dL_isLight_242 (by decide) hF (fun hF => ?_) (fun hF => ?_)
      · refine lv_iconst (v := 0) hx hb dL_isLight_276 (by decide) ?_
        refine lv_istore_n (lv' := [(3, .int 0), (0, .ref o)]) hx hb dL_isLight_277 rfl hl (by decide) rfl (fun ls hl => ?_)
        refine lv_iconst (v := 0) hx hb dL_isLight_278 (by decide) ?_
        refine lv_istore (lv' := [(4, .int 0), (3, .int 0), (0, .ref o)]) hx hb dL_isLight_279 hl (by decide) rfl (fun ls hl => ?_)
        exact hL281 n 0 0 _ _ hP hD hS _ (lv_sub hl [2, 1, 0] rfl) hF
      · refine lv_aload_n hx hb dL_isLight_245 rfl (lv_at hl 0 rfl) ?_
        refine lv_iconst (v := 4) hx hb dL_isLight_246 (by decide) ?_
        obtain ⟨q31, h_q31, hF⟩ := bnd_s hF
        refine g_callV (As := [.int 4]) (rest := []) ⟨hx, hb, hml, hown, hts⟩ hK hZ hA (c_X9_count l E o qh qr qt qs qn fn fs ft gh n v (4) q31 h_q31) (cwV 1 hts gL_isLight_X9_count rfl rfl rfl (by decide +kernel) ⟨Nat.le_of_ble_eq_true rfl, Nat.le_of_ble_eq_true rfl⟩) hP hD hS [0] [] rfl rfl rfl rfl rfl rfl hl.1 rfl (Nat.le_of_ble_eq_true rfl) dL_isLight_247 ⟨Nat.le_of_ble_eq_true rfl, Nat.le_of_ble_eq_true rfl⟩ (fun H locs hP hD hS => ?_)
        have hP : va_P E.1 vwCl (bl [HL_c E o qh qr qt qs qn fn fs ft gh v]) H := hP
        have hD : va_D A (bl [HL_c E o qh qr qt qs qn fn fs ft gh v]) := hD
        refine W.eq (g2 := F0 m 250 ls [.int q31]) rfl ?_
        refine lv_bipush (v := 50) hx hb dL_isLight_250 (by decide) ?_
        refine f_icmp_gt (tgt := 276) hx hb dL_isLight_252 (by decide) hF (fun hF => ?_) (fun hF => ?_)
        · refine lv_iconst (v := 0) hx hb dL_isLight_276 (by decide) ?_
          refine lv_istore_n (lv' := [(3, .int 0), (0, .ref o)]) hx hb dL_isLight_277 rfl hl (by decide) rfl (fun ls hl => ?_)
          refine lv_iconst (v := 0) hx hb dL_isLight_278 (by decide) ?_
          refine lv_istore (lv' := [(4, .int 0), (3, .int 0), (0, .ref o)]) hx hb dL_isLight_279 hl (by decide) rfl (fun ls hl => ?_)
          exact hL281 n 0 0 _ _ hP hD hS _ (lv_sub hl [2, 1, 0] rfl) hF
        · refine lv_aload_n hx hb dL_isLight_255 rfl (lv_at hl 0 rfl) ?_
          refine lv_aload_n hx hb dL_isLight_256 rfl (lv_at hl 0 rfl) ?_
          refine lv_iconst (v := 4) hx hb dL_isLight_257 (by decide) ?_
          obtain ⟨q32, h_q32, hF⟩ := bnd_s hF
          refine g_callV (As := [.int 4]) (rest := [.ref o]) ⟨hx, hb, hml, hown, hts⟩ hK hZ hA (c_X9_code l E o qh qr qt qs qn fn fs ft gh n v (4) q32 h_q32) (cwV 1 hts gL_isLight_X9_code rfl rfl rfl (by decide +kernel) ⟨Nat.le_of_ble_eq_true rfl, Nat.le_of_ble_eq_true rfl⟩) hP hD hS [0] [] rfl rfl rfl rfl rfl rfl hl.1 rfl (Nat.le_of_ble_eq_true rfl) dL_isLight_258 ⟨Nat.le_of_ble_eq_true rfl, Nat.le_of_ble_eq_true rfl⟩ (fun H locs hP hD hS => ?_)
          have hP : va_P E.1 vwCl (bl [HL_c E o qh qr qt qs qn fn fs ft gh v]) H := hP
          have hD : va_D A (bl [HL_c E o qh qr qt qs qn fn fs ft gh v]) := hD
          refine W.eq (g2 := F0 m 261 ls [.int q32, .ref o]) rfl ?_
          obtain ⟨q33, h_q33, hF⟩ := bnd_s hF
          refine g_callV (As := [.int q32]) (rest := []) ⟨hx, hb, hml, hown, hts⟩ hK hZ hA (c_X9_next l E o qh qr qt qs qn fn fs ft gh n v q32 q33 h_q33) (cwV 1 hts gL_isLight_X9_next rfl rfl rfl (by decide +kernel) ⟨Nat.le_of_ble_eq_true rfl, Nat.le_of_ble_eq_true rfl⟩) hP hD hS [0] [] rfl rfl rfl rfl rfl rfl hl.1 rfl (Nat.le_of_ble_eq_true rfl) dL_isLight_261 ⟨Nat.le_of_ble_eq_true rfl, Nat.le_of_ble_eq_true rfl⟩ (fun H locs hP hD hS => ?_)
          have hP : va_P E.1 vwCl (bl [HL_c E o qh qr qt qs qn fn fs ft gh v]) H := hP
          have hD : va_D A (bl [HL_c E o qh qr qt qs qn fn fs ft gh v]) := hD
          refine W.eq (g2 := F0 m 264 ls [.int q33]) rfl ?_
          refine lv_aload_n hx hb dL_isLight_264 rfl (lv_at hl 0 rfl) ?_
          refine lv_iconst (v := 0) hx hb dL_isLight_265 (by decide) ?_
          obtain ⟨q34, h_q34, hF⟩ := bnd_s hF
          refine g_callV (As := [.int 0]) (rest := [.int q33]) ⟨hx, hb, hml, hown, hts⟩ hK hZ hA (c_X9_account l E o qh qr qt qs qn fn fs ft gh v (0) q34 h_q34) (cwV 1 hts gL_isLight_X9_account rfl rfl rfl (by decide +kernel) ⟨Nat.le_of_ble_eq_true rfl, Nat.le_of_ble_eq_true rfl⟩) hP hD hS [0] [] rfl rfl rfl rfl rfl rfl hl.1 rfl (Nat.le_of_ble_eq_true rfl) dL_isLight_266 ⟨Nat.le_of_ble_eq_true rfl, Nat.le_of_ble_eq_true rfl⟩ (fun H locs hP hD hS => ?_)
          have hP : va_P E.1 vwCl (bl [HL_c E o qh qr qt qs qn fn fs ft gh v]) H := hP
          have hD : va_D A (bl [HL_c E o qh qr qt qs qn fn fs ft gh v]) := hD
          refine W.eq (g2 := F0 m 269 ls [.int q34, .int q33]) rfl ?_
          refine f_icmp_ne (tgt := 276) hx hb dL_isLight_269 (by decide) hF (fun hF => ?_) (fun hF => ?_)
          · refine lv_iconst (v := 0) hx hb dL_isLight_276 (by decide) ?_
            refine lv_istore_n (lv' := [(3, .int 0), (0, .ref o)]) hx hb dL_isLight_277 rfl hl (by decide) rfl (fun ls hl => ?_)
            refine lv_iconst (v := 0) hx hb dL_isLight_278 (by decide) ?_
            refine lv_istore (lv' := [(4, .int 0), (3, .int 0), (0, .ref o)]) hx hb dL_isLight_279 hl (by decide) rfl (fun ls hl => ?_)
            exact hL281 n 0 0 _ _ hP hD hS _ (lv_sub hl [2, 1, 0] rfl) hF
          · refine lv_iconst (v := 1) hx hb dL_isLight_272 (by decide) ?_
            refine lv_goto (tgt := 277) hx hb dL_isLight_273 (by decide) ?_
            refine lv_istore_n (lv' := [(3, .int 1), (0, .ref o)]) hx hb dL_isLight_277 rfl hl (by decide) rfl (fun ls hl => ?_)
            refine lv_iconst (v := 0) hx hb dL_isLight_278 (by decide) ?_
            refine lv_istore (lv' := [(4, .int 0), (3, .int 1), (0, .ref o)]) hx hb dL_isLight_279 hl (by decide) rfl (fun ls hl => ?_)
            exact hL281 n 1 0 _ _ hP hD hS _ (lv_sub hl [2, 1, 0] rfl) hF
  have hJ211 : ∀ (y0 : Int32) (H : Heap) (locs : List Loc), va_P E.1 vwCl (bl [HL_c E o qh qr qt qs qn fn fs ft gh v]) H → va_D A (bl [HL_c E o qh qr qt qs qn fn fs ft gh v]) → va_S A s.heap H locs → ∀ ls : Array Slot, lv_has ls 7 [(0, .ref o)] → F_L_isLight_J211 n v y0 = some r → W p l e ({ frames := 4, cells := 0, slots := 0, locals := 89 } : Room) s m args below meth cd H locs 0 0 Q (F0 m 211 ls [.int y0]) := by
    intro y0 H locs hP hD hS ls hl hF
    unfold F_L_isLight_J211 at hF
    refine lv_aload_n hx hb dL_isLight_211 rfl (lv_at hl 0 rfl) ?_
    refine lv_iconst (v := 1) hx hb dL_isLight_212 (by decide) ?_
    obtain ⟨q27, h_q27, hF⟩ := bnd_s hF
    refine g_callV (As := [.int 1]) (rest := [.int y0]) ⟨hx, hb, hml, hown, hts⟩ hK hZ hA (c_X9_code l E o qh qr qt qs qn fn fs ft gh n v (1) q27 h_q27) (cwV 1 hts gL_isLight_X9_code rfl rfl rfl (by decide +kernel) ⟨Nat.le_of_ble_eq_true rfl, Nat.le_of_ble_eq_true rfl⟩) hP hD hS [0] [] rfl rfl rfl rfl rfl rfl hl.1 rfl (Nat.le_of_ble_eq_true rfl) dL_isLight_213 ⟨Nat.le_of_ble_eq_true rfl, Nat.le_of_ble_eq_true rfl⟩ (fun H locs hP hD hS => ?_)
    have hP : va_P E.1 vwCl (bl [HL_c E o qh qr qt qs qn fn fs ft gh v]) H := hP
    have hD : va_D A (bl [HL_c E o qh qr qt qs qn fn fs ft gh v]) := hD
    refine W.eq (g2 := F0 m 216 ls [.int q27, .int y0]) rfl ?_
    refine lv_aload_n hx hb dL_isLight_216 rfl (lv_at hl 0 rfl) ?_
    refine lv_iconst (v := 2) hx hb dL_isLight_217 (by decide) ?_
    obtain ⟨q28, h_q28, hF⟩ := bnd_s hF
    refine g_callV (As := [.int 2]) (rest := [.int q27, .int y0]) ⟨hx, hb, hml, hown, hts⟩ hK hZ hA (c_X9_code l E o qh qr qt qs qn fn fs ft gh n v (2) q28 h_q28) (cwV 1 hts gL_isLight_X9_code rfl rfl rfl (by decide +kernel) ⟨Nat.le_of_ble_eq_true rfl, Nat.le_of_ble_eq_true rfl⟩) hP hD hS [0] [] rfl rfl rfl rfl rfl rfl hl.1 rfl (Nat.le_of_ble_eq_true rfl) dL_isLight_218 ⟨Nat.le_of_ble_eq_true rfl, Nat.le_of_ble_eq_true rfl⟩ (fun H locs hP hD hS => ?_)
    have hP : va_P E.1 vwCl (bl [HL_c E o qh qr qt qs qn fn fs ft gh v]) H := hP
    have hD : va_D A (bl [HL_c E o qh qr qt qs qn fn fs ft gh v]) := hD
    refine W.eq (g2 := F0 m 221 ls [.int q28, .int q27, .int y0]) rfl ?_
    refine f_icmp_ne (tgt := 228) hx hb dL_isLight_221 (by decide) hF (fun hF => ?_) (fun hF => ?_)
    · refine lv_iconst (v := 0) hx hb dL_isLight_228 (by decide) ?_
      exact hJ229 y0 0 _ _ hP hD hS _ (lv_sub hl [0] rfl) hF
    · refine lv_iconst (v := 1) hx hb dL_isLight_224 (by decide) ?_
      refine lv_goto (tgt := 229) hx hb dL_isLight_225 (by decide) ?_
      exact hJ229 y0 1 _ _ hP hD hS _ (lv_sub hl [0] rfl) hF
  have hJ144 : ∀ (x1 : Int32) (x3 : Int32) (H : Heap) (locs : List Loc), va_P E.1 vwCl (bl [HL_c E o qh qr qt qs qn fn fs ft gh v]) H → va_D A (bl [HL_c E o qh qr qt qs qn fn fs ft gh v]) → va_S A s.heap H locs → ∀ ls : Array Slot, lv_has ls 7 [(0, .ref o), (1, .int x1), (3, .int x3)] → F_L_isLight_J144 n v x1 x3 = some r → W p l e ({ frames := 4, cells := 0, slots := 0, locals := 89 } : Room) s m args below meth cd H locs 0 0 Q (F0 m 144 ls []) := by
    intro x1 x3 H locs hP hD hS ls hl hF
    unfold F_L_isLight_J144 at hF
    refine lv_iload_n hx hb dL_isLight_144 rfl (lv_at hl 2 rfl) ?_
    refine f_if_eq (tgt := 276) hx hb dL_isLight_145 (by decide) hF (fun hF => ?_) (fun hF => ?_)
    · refine lv_iconst (v := 0) hx hb dL_isLight_276 (by decide) ?_
      refine lv_istore_n (lv' := [(3, .int 0), (0, .ref o), (1, .int x1)]) hx hb dL_isLight_277 rfl hl (by decide) rfl (fun ls hl => ?_)
      refine lv_iconst (v := 0) hx hb dL_isLight_278 (by decide) ?_
      refine lv_istore (lv' := [(4, .int 0), (3, .int 0), (0, .ref o), (1, .int x1)]) hx hb dL_isLight_279 hl (by decide) rfl (fun ls hl => ?_)
      exact hL281 n 0 0 _ _ hP hD hS _ (lv_sub hl [2, 1, 0] rfl) hF
    · refine lv_iload_n hx hb dL_isLight_148 rfl (lv_at hl 1 rfl) ?_
      refine lv_bipush (v := 64) hx hb dL_isLight_149 (by decide) ?_
      refine f_icmp_ne (tgt := 276) hx hb dL_isLight_151 (by decide) hF (fun hF => ?_) (fun hF => ?_)
      · refine lv_iconst (v := 0) hx hb dL_isLight_276 (by decide) ?_
        refine lv_istore_n (lv' := [(3, .int 0), (0, .ref o), (1, .int x1)]) hx hb dL_isLight_277 rfl hl (by decide) rfl (fun ls hl => ?_)
        refine lv_iconst (v := 0) hx hb dL_isLight_278 (by decide) ?_
        refine lv_istore (lv' := [(4, .int 0), (3, .int 0), (0, .ref o), (1, .int x1)]) hx hb dL_isLight_279 hl (by decide) rfl (fun ls hl => ?_)
        exact hL281 n 0 0 _ _ hP hD hS _ (lv_sub hl [2, 1, 0] rfl) hF
      · refine lv_aload_n hx hb dL_isLight_154 rfl (lv_at hl 0 rfl) ?_
        refine lv_iconst (v := 0) hx hb dL_isLight_155 (by decide) ?_
        obtain ⟨q19, h_q19, hF⟩ := bnd_s hF
        refine g_callV (As := [.int 0]) (rest := []) ⟨hx, hb, hml, hown, hts⟩ hK hZ hA (c_X9_account l E o qh qr qt qs qn fn fs ft gh v (0) q19 h_q19) (cwV 1 hts gL_isLight_X9_account rfl rfl rfl (by decide +kernel) ⟨Nat.le_of_ble_eq_true rfl, Nat.le_of_ble_eq_true rfl⟩) hP hD hS [0] [] rfl rfl rfl rfl rfl rfl hl.1 rfl (Nat.le_of_ble_eq_true rfl) dL_isLight_156 ⟨Nat.le_of_ble_eq_true rfl, Nat.le_of_ble_eq_true rfl⟩ (fun H locs hP hD hS => ?_)
        have hP : va_P E.1 vwCl (bl [HL_c E o qh qr qt qs qn fn fs ft gh v]) H := hP
        have hD : va_D A (bl [HL_c E o qh qr qt qs qn fn fs ft gh v]) := hD
        refine W.eq (g2 := F0 m 159 ls [.int q19]) rfl ?_
        refine lv_aload_n hx hb dL_isLight_159 rfl (lv_at hl 0 rfl) ?_
        refine lv_iconst (v := 1) hx hb dL_isLight_160 (by decide) ?_
        obtain ⟨q20, h_q20, hF⟩ := bnd_s hF
        refine g_callV (As := [.int 1]) (rest := [.int q19]) ⟨hx, hb, hml, hown, hts⟩ hK hZ hA (c_X9_account l E o qh qr qt qs qn fn fs ft gh v (1) q20 h_q20) (cwV 1 hts gL_isLight_X9_account rfl rfl rfl (by decide +kernel) ⟨Nat.le_of_ble_eq_true rfl, Nat.le_of_ble_eq_true rfl⟩) hP hD hS [0] [] rfl rfl rfl rfl rfl rfl hl.1 rfl (Nat.le_of_ble_eq_true rfl) dL_isLight_161 ⟨Nat.le_of_ble_eq_true rfl, Nat.le_of_ble_eq_true rfl⟩ (fun H locs hP hD hS => ?_)
        have hP : va_P E.1 vwCl (bl [HL_c E o qh qr qt qs qn fn fs ft gh v]) H := hP
        have hD : va_D A (bl [HL_c E o qh qr qt qs qn fn fs ft gh v]) := hD
        refine W.eq (g2 := F0 m 164 ls [.int q20, .int q19]) rfl ?_
        refine lv_aload_n hx hb dL_isLight_164 rfl (lv_at hl 0 rfl) ?_
        refine lv_iconst (v := 2) hx hb dL_isLight_165 (by decide) ?_
        obtain ⟨q21, h_q21, hF⟩ := bnd_s hF
        refine g_callV (As := [.int 2]) (rest := [.int q20, .int q19]) ⟨hx, hb, hml, hown, hts⟩ hK hZ hA (c_X9_account l E o qh qr qt qs qn fn fs ft gh v (2) q21 h_q21) (cwV 1 hts gL_isLight_X9_account rfl rfl rfl (by decide +kernel) ⟨Nat.le_of_ble_eq_true rfl, Nat.le_of_ble_eq_true rfl⟩) hP hD hS [0] [] rfl rfl rfl rfl rfl rfl hl.1 rfl (Nat.le_of_ble_eq_true rfl) dL_isLight_166 ⟨Nat.le_of_ble_eq_true rfl, Nat.le_of_ble_eq_true rfl⟩ (fun H locs hP hD hS => ?_)
        have hP : va_P E.1 vwCl (bl [HL_c E o qh qr qt qs qn fn fs ft gh v]) H := hP
        have hD : va_D A (bl [HL_c E o qh qr qt qs qn fn fs ft gh v]) := hD
        refine W.eq (g2 := F0 m 169 ls [.int q21, .int q20, .int q19]) rfl ?_
        refine lv_iadd hx hb dL_isLight_169 ?_
        refine lv_aload_n hx hb dL_isLight_170 rfl (lv_at hl 0 rfl) ?_
        refine lv_iconst (v := 3) hx hb dL_isLight_171 (by decide) ?_
        obtain ⟨q22, h_q22, hF⟩ := bnd_s hF
        refine g_callV (As := [.int 3]) (rest := [.int (q20 + q21), .int q19]) ⟨hx, hb, hml, hown, hts⟩ hK hZ hA (c_X9_account l E o qh qr qt qs qn fn fs ft gh v (3) q22 h_q22) (cwV 1 hts gL_isLight_X9_account rfl rfl rfl (by decide +kernel) ⟨Nat.le_of_ble_eq_true rfl, Nat.le_of_ble_eq_true rfl⟩) hP hD hS [0] [] rfl rfl rfl rfl rfl rfl hl.1 rfl (Nat.le_of_ble_eq_true rfl) dL_isLight_172 ⟨Nat.le_of_ble_eq_true rfl, Nat.le_of_ble_eq_true rfl⟩ (fun H locs hP hD hS => ?_)
        have hP : va_P E.1 vwCl (bl [HL_c E o qh qr qt qs qn fn fs ft gh v]) H := hP
        have hD : va_D A (bl [HL_c E o qh qr qt qs qn fn fs ft gh v]) := hD
        refine W.eq (g2 := F0 m 175 ls [.int q22, .int (q20 + q21), .int q19]) rfl ?_
        refine lv_iadd hx hb dL_isLight_175 ?_
        refine lv_aload_n hx hb dL_isLight_176 rfl (lv_at hl 0 rfl) ?_
        refine lv_iconst (v := 4) hx hb dL_isLight_177 (by decide) ?_
        obtain ⟨q23, h_q23, hF⟩ := bnd_s hF
        refine g_callV (As := [.int 4]) (rest := [.int ((q20 + q21) + q22), .int q19]) ⟨hx, hb, hml, hown, hts⟩ hK hZ hA (c_X9_account l E o qh qr qt qs qn fn fs ft gh v (4) q23 h_q23) (cwV 1 hts gL_isLight_X9_account rfl rfl rfl (by decide +kernel) ⟨Nat.le_of_ble_eq_true rfl, Nat.le_of_ble_eq_true rfl⟩) hP hD hS [0] [] rfl rfl rfl rfl rfl rfl hl.1 rfl (Nat.le_of_ble_eq_true rfl) dL_isLight_178 ⟨Nat.le_of_ble_eq_true rfl, Nat.le_of_ble_eq_true rfl⟩ (fun H locs hP hD hS => ?_)
        have hP : va_P E.1 vwCl (bl [HL_c E o qh qr qt qs qn fn fs ft gh v]) H := hP
        have hD : va_D A (bl [HL_c E o qh qr qt qs qn fn fs ft gh v]) := hD
        refine W.eq (g2 := F0 m 181 ls [.int q23, .int ((q20 + q21) + q22), .int q19]) rfl ?_
        refine lv_iadd hx hb dL_isLight_181 ?_
        refine f_icmp_ne (tgt := 276) hx hb dL_isLight_182 (by decide) hF (fun hF => ?_) (fun hF => ?_)
        · refine lv_iconst (v := 0) hx hb dL_isLight_276 (by decide) ?_
          refine lv_istore_n (lv' := [(3, .int 0), (0, .ref o), (1, .int x1)]) hx hb dL_isLight_277 rfl hl (by decide) rfl (fun ls hl => ?_)
          refine lv_iconst (v := 0) hx hb dL_isLight_278 (by decide) ?_
          refine lv_istore (lv' := [(4, .int 0), (3, .int 0), (0, .ref o), (1, .int x1)]) hx hb dL_isLight_279 hl (by decide) rfl (fun ls hl => ?_)
          exact hL281 n 0 0 _ _ hP hD hS _ (lv_sub hl [2, 1, 0] rfl) hF
        · refine lv_aload_n hx hb dL_isLight_185 rfl (lv_at hl 0 rfl) ?_
          refine lv_iconst (v := 2) hx hb dL_isLight_186 (by decide) ?_
          obtain ⟨q24, h_q24, hF⟩ := bnd_s hF
          refine g_callV (As := [.int 2]) (rest := []) ⟨hx, hb, hml, hown, hts⟩ hK hZ hA (c_X9_code l E o qh qr qt qs qn fn fs ft gh n v (2) q24 h_q24) (cwV 1 hts gL_isLight_X9_code rfl rfl rfl (by decide +kernel) ⟨Nat.le_of_ble_eq_true rfl, Nat.le_of_ble_eq_true rfl⟩) hP hD hS [0] [] rfl rfl rfl rfl rfl rfl hl.1 rfl (Nat.le_of_ble_eq_true rfl) dL_isLight_187 ⟨Nat.le_of_ble_eq_true rfl, Nat.le_of_ble_eq_true rfl⟩ (fun H locs hP hD hS => ?_)
          have hP : va_P E.1 vwCl (bl [HL_c E o qh qr qt qs qn fn fs ft gh v]) H := hP
          have hD : va_D A (bl [HL_c E o qh qr qt qs qn fn fs ft gh v]) := hD
          refine W.eq (g2 := F0 m 190 ls [.int q24]) rfl ?_
          refine lv_aload_n hx hb dL_isLight_190 rfl (lv_at hl 0 rfl) ?_
          refine lv_iconst (v := 1) hx hb dL_isLight_191 (by decide) ?_
          obtain ⟨q25, h_q25, hF⟩ := bnd_s hF
          refine g_callV (As := [.int 1]) (rest := [.int q24]) ⟨hx, hb, hml, hown, hts⟩ hK hZ hA (c_X9_code l E o qh qr qt qs qn fn fs ft gh n v (1) q25 h_q25) (cwV 1 hts gL_isLight_X9_code rfl rfl rfl (by decide +kernel) ⟨Nat.le_of_ble_eq_true rfl, Nat.le_of_ble_eq_true rfl⟩) hP hD hS [0] [] rfl rfl rfl rfl rfl rfl hl.1 rfl (Nat.le_of_ble_eq_true rfl) dL_isLight_192 ⟨Nat.le_of_ble_eq_true rfl, Nat.le_of_ble_eq_true rfl⟩ (fun H locs hP hD hS => ?_)
          have hP : va_P E.1 vwCl (bl [HL_c E o qh qr qt qs qn fn fs ft gh v]) H := hP
          have hD : va_D A (bl [HL_c E o qh qr qt qs qn fn fs ft gh v]) := hD
          refine W.eq (g2 := F0 m 195 ls [.int q25, .int q24]) rfl ?_
          refine f_icmp_gt (tgt := 276) hx hb dL_isLight_195 (by decide) hF (fun hF => ?_) (fun hF => ?_)
          · refine lv_iconst (v := 0) hx hb dL_isLight_276 (by decide) ?_
            refine lv_istore_n (lv' := [(3, .int 0), (0, .ref o), (1, .int x1)]) hx hb dL_isLight_277 rfl hl (by decide) rfl (fun ls hl => ?_)
            refine lv_iconst (v := 0) hx hb dL_isLight_278 (by decide) ?_
            refine lv_istore (lv' := [(4, .int 0), (3, .int 0), (0, .ref o), (1, .int x1)]) hx hb dL_isLight_279 hl (by decide) rfl (fun ls hl => ?_)
            exact hL281 n 0 0 _ _ hP hD hS _ (lv_sub hl [2, 1, 0] rfl) hF
          · refine lv_aload_n hx hb dL_isLight_198 rfl (lv_at hl 0 rfl) ?_
            refine lv_iconst (v := 3) hx hb dL_isLight_199 (by decide) ?_
            obtain ⟨q26, h_q26, hF⟩ := bnd_s hF
            refine g_callV (As := [.int 3]) (rest := []) ⟨hx, hb, hml, hown, hts⟩ hK hZ hA (c_X9_code l E o qh qr qt qs qn fn fs ft gh n v (3) q26 h_q26) (cwV 1 hts gL_isLight_X9_code rfl rfl rfl (by decide +kernel) ⟨Nat.le_of_ble_eq_true rfl, Nat.le_of_ble_eq_true rfl⟩) hP hD hS [0] [] rfl rfl rfl rfl rfl rfl hl.1 rfl (Nat.le_of_ble_eq_true rfl) dL_isLight_200 ⟨Nat.le_of_ble_eq_true rfl, Nat.le_of_ble_eq_true rfl⟩ (fun H locs hP hD hS => ?_)
            have hP : va_P E.1 vwCl (bl [HL_c E o qh qr qt qs qn fn fs ft gh v]) H := hP
            have hD : va_D A (bl [HL_c E o qh qr qt qs qn fn fs ft gh v]) := hD
            refine W.eq (g2 := F0 m 203 ls [.int q26]) rfl ?_
            refine f_if_ne (tgt := 210) hx hb dL_isLight_203 (by decide) hF (fun hF => ?_) (fun hF => ?_)
            · refine lv_iconst (v := 0) hx hb dL_isLight_210 (by decide) ?_
              exact hJ211 0 _ _ hP hD hS _ (lv_sub hl [0] rfl) hF
            · refine lv_iconst (v := 1) hx hb dL_isLight_206 (by decide) ?_
              refine lv_goto (tgt := 211) hx hb dL_isLight_207 (by decide) ?_
              exact hJ211 1 _ _ hP hD hS _ (lv_sub hl [0] rfl) hF
  have hL13 : ∀ (k : Nat) (x1 : Int32) (x2 : Int32) (x3 : Int32) (x4 : Int32) (H : Heap) (locs : List Loc), va_P E.1 vwCl (bl [HL_c E o qh qr qt qs qn fn fs ft gh v]) H → va_D A (bl [HL_c E o qh qr qt qs qn fn fs ft gh v]) → va_S A s.heap H locs → ∀ ls : Array Slot, lv_has ls 7 [(0, .ref o), (1, .int x1), (2, .int x2), (3, .int x3), (4, .int x4)] → F_L_isLight_L13 n k v x1 x2 x3 x4 = some r → W p l e ({ frames := 4, cells := 0, slots := 0, locals := 89 } : Room) s m args below meth cd H locs 0 0 Q (F0 m 13 ls []) := by
    intro k
    induction k with
    | zero => intro x1 x2 x3 x4 H locs hP hD hS ls hl hF; cases hF
    | succ k ih =>
      intro x1 x2 x3 x4 H locs hP hD hS ls hl hF
      rw [F_L_isLight_L13] at hF
      refine lv_iload hx hb dL_isLight_13 (lv_at hl 4 rfl) ?_
      refine lv_iload_n hx hb dL_isLight_15 rfl (lv_at hl 2 rfl) ?_
      refine f_icmp_ge (tgt := 144) hx hb dL_isLight_16 (by decide) hF (fun hF => ?_) (fun hF => ?_)
      · exact hJ144 x1 x3 _ _ hP hD hS _ (lv_sub hl [0, 1, 3] rfl) hF
      · refine lv_iload_n hx hb dL_isLight_19 rfl (lv_at hl 3 rfl) ?_
        refine f_if_eq (tgt := 144) hx hb dL_isLight_20 (by decide) hF (fun hF => ?_) (fun hF => ?_)
        · exact hJ144 x1 x3 _ _ hP hD hS _ (lv_sub hl [0, 1, 3] rfl) hF
        · refine lv_aload_n hx hb dL_isLight_23 rfl (lv_at hl 0 rfl) ?_
          refine lv_iload hx hb dL_isLight_24 (lv_at hl 4 rfl) ?_
          refine lv_iconst (v := 0) hx hb dL_isLight_26 (by decide) ?_
          obtain ⟨q35, h_q35, hF⟩ := bnd_s hF
          refine g_callV (As := [.int x4, .int 0]) (rest := []) ⟨hx, hb, hml, hown, hts⟩ hK hZ hA (c_X9_sector l E o qh qr qt qs qn fn fs ft gh n v x4 (0) q35 h_q35) (cwV 2 hts gL_isLight_X9_sector rfl rfl rfl (by decide +kernel) ⟨Nat.le_of_ble_eq_true rfl, Nat.le_of_ble_eq_true rfl⟩) hP hD hS [0] [] rfl rfl rfl rfl rfl rfl hl.1 rfl (Nat.le_of_ble_eq_true rfl) dL_isLight_27 ⟨Nat.le_of_ble_eq_true rfl, Nat.le_of_ble_eq_true rfl⟩ (fun H locs hP hD hS => ?_)
          have hP : va_P E.1 vwCl (bl [HL_c E o qh qr qt qs qn fn fs ft gh v]) H := hP
          have hD : va_D A (bl [HL_c E o qh qr qt qs qn fn fs ft gh v]) := hD
          refine W.eq (g2 := F0 m 30 ls [.int q35]) rfl ?_
          refine lv_istore (lv' := [(5, .int q35), (0, .ref o), (1, .int x1), (2, .int x2), (3, .int x3), (4, .int x4)]) hx hb dL_isLight_30 hl (by decide) rfl (fun ls hl => ?_)
          refine lv_aload_n hx hb dL_isLight_32 rfl (lv_at hl 1 rfl) ?_
          refine lv_iload hx hb dL_isLight_33 (lv_at hl 5 rfl) ?_
          refine lv_iconst (v := 1) hx hb dL_isLight_35 (by decide) ?_
          obtain ⟨q36, h_q36, hF⟩ := bnd_s hF
          refine g_callV (As := [.int x4, .int 1]) (rest := []) ⟨hx, hb, hml, hown, hts⟩ hK hZ hA (c_X9_sector l E o qh qr qt qs qn fn fs ft gh n v x4 (1) q36 h_q36) (cwV 2 hts gL_isLight_X9_sector rfl rfl rfl (by decide +kernel) ⟨Nat.le_of_ble_eq_true rfl, Nat.le_of_ble_eq_true rfl⟩) hP hD hS [0] [] rfl rfl rfl rfl rfl rfl hl.1 rfl (Nat.le_of_ble_eq_true rfl) dL_isLight_36 ⟨Nat.le_of_ble_eq_true rfl, Nat.le_of_ble_eq_true rfl⟩ (fun H locs hP hD hS => ?_)
          have hP : va_P E.1 vwCl (bl [HL_c E o qh qr qt qs qn fn fs ft gh v]) H := hP
          have hD : va_D A (bl [HL_c E o qh qr qt qs qn fn fs ft gh v]) := hD
          refine W.eq (g2 := F0 m 39 ls [.int q36]) rfl ?_
          refine lv_istore (lv' := [(6, .int q36), (5, .int q35), (0, .ref o), (1, .int x1), (2, .int x2), (3, .int x3), (4, .int x4)]) hx hb dL_isLight_39 hl (by decide) rfl (fun ls hl => ?_)
          refine lv_iload_n hx hb dL_isLight_41 rfl (lv_at hl 3 rfl) ?_
          refine lv_iload hx hb dL_isLight_42 (lv_at hl 0 rfl) ?_
          refine lv_iadd hx hb dL_isLight_44 ?_
          refine lv_istore_n (lv' := [(1, .int (x1 + q36)), (6, .int q36), (5, .int q35), (0, .ref o), (2, .int x2), (3, .int x3), (4, .int x4)]) hx hb dL_isLight_45 rfl hl (by decide) rfl (fun ls hl => ?_)
          refine lv_iload hx hb dL_isLight_46 (lv_at hl 6 rfl) ?_
          refine f_if_eq (tgt := 65) hx hb dL_isLight_48 (by decide) hF (fun hF => ?_) (fun hF => ?_)
          · refine lv_aload_n hx hb dL_isLight_65 rfl (lv_at hl 3 rfl) ?_
            refine lv_iload hx hb dL_isLight_66 (lv_at hl 2 rfl) ?_
            obtain ⟨q37, h_q37, hF⟩ := bnd_s hF
            refine g_callV (As := [.int q35]) (rest := []) ⟨hx, hb, hml, hown, hts⟩ hK hZ hA (c_X9_color l E o qh qr qt qs qn fn fs ft gh v q35 q37 h_q37) (cwV 1 hts gL_isLight_X9_color rfl rfl rfl (by decide +kernel) ⟨Nat.le_of_ble_eq_true rfl, Nat.le_of_ble_eq_true rfl⟩) hP hD hS [0] [] rfl rfl rfl rfl rfl rfl hl.1 rfl (Nat.le_of_ble_eq_true rfl) dL_isLight_68 ⟨Nat.le_of_ble_eq_true rfl, Nat.le_of_ble_eq_true rfl⟩ (fun H locs hP hD hS => ?_)
            have hP : va_P E.1 vwCl (bl [HL_c E o qh qr qt qs qn fn fs ft gh v]) H := hP
            have hD : va_D A (bl [HL_c E o qh qr qt qs qn fn fs ft gh v]) := hD
            refine W.eq (g2 := F0 m 71 ls [.int q37]) rfl ?_
            refine lv_aload_n hx hb dL_isLight_71 rfl (lv_at hl 3 rfl) ?_
            refine lv_iload hx hb dL_isLight_72 (lv_at hl 6 rfl) ?_
            refine lv_iconst (v := 2) hx hb dL_isLight_74 (by decide) ?_
            obtain ⟨q38, h_q38, hF⟩ := bnd_s hF
            refine g_callV (As := [.int x4, .int 2]) (rest := [.int q37]) ⟨hx, hb, hml, hown, hts⟩ hK hZ hA (c_X9_sector l E o qh qr qt qs qn fn fs ft gh n v x4 (2) q38 h_q38) (cwV 2 hts gL_isLight_X9_sector rfl rfl rfl (by decide +kernel) ⟨Nat.le_of_ble_eq_true rfl, Nat.le_of_ble_eq_true rfl⟩) hP hD hS [0] [] rfl rfl rfl rfl rfl rfl hl.1 rfl (Nat.le_of_ble_eq_true rfl) dL_isLight_75 ⟨Nat.le_of_ble_eq_true rfl, Nat.le_of_ble_eq_true rfl⟩ (fun H locs hP hD hS => ?_)
            have hP : va_P E.1 vwCl (bl [HL_c E o qh qr qt qs qn fn fs ft gh v]) H := hP
            have hD : va_D A (bl [HL_c E o qh qr qt qs qn fn fs ft gh v]) := hD
            refine W.eq (g2 := F0 m 78 ls [.int q38, .int q37]) rfl ?_
            refine f_icmp_ne (tgt := 136) hx hb dL_isLight_78 (by decide) hF (fun hF => ?_) (fun hF => ?_)
            · refine lv_iconst (v := 0) hx hb dL_isLight_136 (by decide) ?_
              refine lv_istore_n (lv' := [(3, .int 0), (1, .int (x1 + q36)), (6, .int q36), (5, .int q35), (0, .ref o), (2, .int x2), (4, .int x4)]) hx hb dL_isLight_137 rfl hl (by decide) rfl (fun ls hl => ?_)
              refine lv_iinc (v := (x4 + 1)) (lv' := [(4, .int (x4 + 1)), (3, .int 0), (1, .int (x1 + q36)), (6, .int q36), (5, .int q35), (0, .ref o), (2, .int x2)]) hx hb dL_isLight_138 hl (k := 6) rfl rfl (by decide) rfl (fun ls hl => ?_)
              refine lv_goto (tgt := 13) hx hb dL_isLight_141 (by decide) ?_
              exact ih (x1 + q36) x2 0 (x4 + 1) _ _ hP hD hS _ (lv_sub hl [5, 2, 6, 1, 0] rfl) hF
            · refine lv_aload_n hx hb dL_isLight_81 rfl (lv_at hl 3 rfl) ?_
              refine lv_iload hx hb dL_isLight_82 (lv_at hl 2 rfl) ?_
              refine lv_iload hx hb dL_isLight_84 (lv_at hl 1 rfl) ?_
              refine lv_iadd hx hb dL_isLight_86 ?_
              refine lv_iconst (v := 1) hx hb dL_isLight_87 (by decide) ?_
              refine lv_isub hx hb dL_isLight_88 ?_
              refine lv_bipush (v := 64) hx hb dL_isLight_89 (by decide) ?_
              refine lv_irem hx hb dL_isLight_91 (by decide) ?_
              obtain ⟨q39, h_q39, hF⟩ := bnd_s hF
              refine g_callV (As := [.int (((q35 + q36) - 1) - ((q35 + q36) - 1) / 64 * 64)]) (rest := []) ⟨hx, hb, hml, hown, hts⟩ hK hZ hA (c_X9_color l E o qh qr qt qs qn fn fs ft gh v (((q35 + q36) - 1) - ((q35 + q36) - 1) / 64 * 64) q39 h_q39) (cwV 1 hts gL_isLight_X9_color rfl rfl rfl (by decide +kernel) ⟨Nat.le_of_ble_eq_true rfl, Nat.le_of_ble_eq_true rfl⟩) hP hD hS [0] [] rfl rfl rfl rfl rfl rfl hl.1 rfl (Nat.le_of_ble_eq_true rfl) dL_isLight_92 ⟨Nat.le_of_ble_eq_true rfl, Nat.le_of_ble_eq_true rfl⟩ (fun H locs hP hD hS => ?_)
              have hP : va_P E.1 vwCl (bl [HL_c E o qh qr qt qs qn fn fs ft gh v]) H := hP
              have hD : va_D A (bl [HL_c E o qh qr qt qs qn fn fs ft gh v]) := hD
              refine W.eq (g2 := F0 m 95 ls [.int q39]) rfl ?_
              refine lv_aload_n hx hb dL_isLight_95 rfl (lv_at hl 3 rfl) ?_
              refine lv_iload hx hb dL_isLight_96 (lv_at hl 6 rfl) ?_
              refine lv_iconst (v := 2) hx hb dL_isLight_98 (by decide) ?_
              obtain ⟨q40, h_q40, hF⟩ := bnd_s hF
              refine g_callV (As := [.int x4, .int 2]) (rest := [.int q39]) ⟨hx, hb, hml, hown, hts⟩ hK hZ hA (c_X9_sector l E o qh qr qt qs qn fn fs ft gh n v x4 (2) q40 h_q40) (cwV 2 hts gL_isLight_X9_sector rfl rfl rfl (by decide +kernel) ⟨Nat.le_of_ble_eq_true rfl, Nat.le_of_ble_eq_true rfl⟩) hP hD hS [0] [] rfl rfl rfl rfl rfl rfl hl.1 rfl (Nat.le_of_ble_eq_true rfl) dL_isLight_99 ⟨Nat.le_of_ble_eq_true rfl, Nat.le_of_ble_eq_true rfl⟩ (fun H locs hP hD hS => ?_)
              have hP : va_P E.1 vwCl (bl [HL_c E o qh qr qt qs qn fn fs ft gh v]) H := hP
              have hD : va_D A (bl [HL_c E o qh qr qt qs qn fn fs ft gh v]) := hD
              refine W.eq (g2 := F0 m 102 ls [.int q40, .int q39]) rfl ?_
              refine f_icmp_ne (tgt := 136) hx hb dL_isLight_102 (by decide) hF (fun hF => ?_) (fun hF => ?_)
              · refine lv_iconst (v := 0) hx hb dL_isLight_136 (by decide) ?_
                refine lv_istore_n (lv' := [(3, .int 0), (1, .int (x1 + q36)), (6, .int q36), (5, .int q35), (0, .ref o), (2, .int x2), (4, .int x4)]) hx hb dL_isLight_137 rfl hl (by decide) rfl (fun ls hl => ?_)
                refine lv_iinc (v := (x4 + 1)) (lv' := [(4, .int (x4 + 1)), (3, .int 0), (1, .int (x1 + q36)), (6, .int q36), (5, .int q35), (0, .ref o), (2, .int x2)]) hx hb dL_isLight_138 hl (k := 6) rfl rfl (by decide) rfl (fun ls hl => ?_)
                refine lv_goto (tgt := 13) hx hb dL_isLight_141 (by decide) ?_
                exact ih (x1 + q36) x2 0 (x4 + 1) _ _ hP hD hS _ (lv_sub hl [5, 2, 6, 1, 0] rfl) hF
              · refine lv_iload_n hx hb dL_isLight_105 rfl (lv_at hl 4 rfl) ?_
                refine lv_iconst (v := 1) hx hb dL_isLight_106 (by decide) ?_
                refine f_icmp_eq (tgt := 132) hx hb dL_isLight_107 (by decide) hF (fun hF => ?_) (fun hF => ?_)
                · refine lv_iconst (v := 1) hx hb dL_isLight_132 (by decide) ?_
                  refine lv_goto (tgt := 137) hx hb dL_isLight_133 (by decide) ?_
                  refine lv_istore_n (lv' := [(3, .int 1), (1, .int (x1 + q36)), (6, .int q36), (5, .int q35), (0, .ref o), (2, .int x2), (4, .int x4)]) hx hb dL_isLight_137 rfl hl (by decide) rfl (fun ls hl => ?_)
                  refine lv_iinc (v := (x4 + 1)) (lv' := [(4, .int (x4 + 1)), (3, .int 1), (1, .int (x1 + q36)), (6, .int q36), (5, .int q35), (0, .ref o), (2, .int x2)]) hx hb dL_isLight_138 hl (k := 6) rfl rfl (by decide) rfl (fun ls hl => ?_)
                  refine lv_goto (tgt := 13) hx hb dL_isLight_141 (by decide) ?_
                  exact ih (x1 + q36) x2 1 (x4 + 1) _ _ hP hD hS _ (lv_sub hl [5, 2, 6, 1, 0] rfl) hF
                · refine lv_aload_n hx hb dL_isLight_110 rfl (lv_at hl 3 rfl) ?_
                  refine lv_iload hx hb dL_isLight_111 (lv_at hl 2 rfl) ?_
                  refine lv_iload hx hb dL_isLight_113 (lv_at hl 1 rfl) ?_
                  refine lv_iadd hx hb dL_isLight_115 ?_
                  refine lv_bipush (v := 64) hx hb dL_isLight_116 (by decide) ?_
                  refine lv_irem hx hb dL_isLight_118 (by decide) ?_
                  obtain ⟨q41, h_q41, hF⟩ := bnd_s hF
                  refine g_callV (As := [.int ((q35 + q36) - (q35 + q36) / 64 * 64)]) (rest := []) ⟨hx, hb, hml, hown, hts⟩ hK hZ hA (c_X9_color l E o qh qr qt qs qn fn fs ft gh v ((q35 + q36) - (q35 + q36) / 64 * 64) q41 h_q41) (cwV 1 hts gL_isLight_X9_color rfl rfl rfl (by decide +kernel) ⟨Nat.le_of_ble_eq_true rfl, Nat.le_of_ble_eq_true rfl⟩) hP hD hS [0] [] rfl rfl rfl rfl rfl rfl hl.1 rfl (Nat.le_of_ble_eq_true rfl) dL_isLight_119 ⟨Nat.le_of_ble_eq_true rfl, Nat.le_of_ble_eq_true rfl⟩ (fun H locs hP hD hS => ?_)
                  have hP : va_P E.1 vwCl (bl [HL_c E o qh qr qt qs qn fn fs ft gh v]) H := hP
                  have hD : va_D A (bl [HL_c E o qh qr qt qs qn fn fs ft gh v]) := hD
                  refine W.eq (g2 := F0 m 122 ls [.int q41]) rfl ?_
                  refine lv_aload_n hx hb dL_isLight_122 rfl (lv_at hl 3 rfl) ?_
                  refine lv_iload hx hb dL_isLight_123 (lv_at hl 6 rfl) ?_
                  refine lv_iconst (v := 2) hx hb dL_isLight_125 (by decide) ?_
                  obtain ⟨q42, h_q42, hF⟩ := bnd_s hF
                  refine g_callV (As := [.int x4, .int 2]) (rest := [.int q41]) ⟨hx, hb, hml, hown, hts⟩ hK hZ hA (c_X9_sector l E o qh qr qt qs qn fn fs ft gh n v x4 (2) q42 h_q42) (cwV 2 hts gL_isLight_X9_sector rfl rfl rfl (by decide +kernel) ⟨Nat.le_of_ble_eq_true rfl, Nat.le_of_ble_eq_true rfl⟩) hP hD hS [0] [] rfl rfl rfl rfl rfl rfl hl.1 rfl (Nat.le_of_ble_eq_true rfl) dL_isLight_126 ⟨Nat.le_of_ble_eq_true rfl, Nat.le_of_ble_eq_true rfl⟩ (fun H locs hP hD hS => ?_)
                  have hP : va_P E.1 vwCl (bl [HL_c E o qh qr qt qs qn fn fs ft gh v]) H := hP
                  have hD : va_D A (bl [HL_c E o qh qr qt qs qn fn fs ft gh v]) := hD
                  refine W.eq (g2 := F0 m 129 ls [.int q42, .int q41]) rfl ?_
                  refine f_icmp_eq (tgt := 136) hx hb dL_isLight_129 (by decide) hF (fun hF => ?_) (fun hF => ?_)
                  · refine lv_iconst (v := 0) hx hb dL_isLight_136 (by decide) ?_
                    refine lv_istore_n (lv' := [(3, .int 0), (1, .int (x1 + q36)), (6, .int q36), (5, .int q35), (0, .ref o), (2, .int x2), (4, .int x4)]) hx hb dL_isLight_137 rfl hl (by decide) rfl (fun ls hl => ?_)
                    refine lv_iinc (v := (x4 + 1)) (lv' := [(4, .int (x4 + 1)), (3, .int 0), (1, .int (x1 + q36)), (6, .int q36), (5, .int q35), (0, .ref o), (2, .int x2)]) hx hb dL_isLight_138 hl (k := 6) rfl rfl (by decide) rfl (fun ls hl => ?_)
                    refine lv_goto (tgt := 13) hx hb dL_isLight_141 (by decide) ?_
                    exact ih (x1 + q36) x2 0 (x4 + 1) _ _ hP hD hS _ (lv_sub hl [5, 2, 6, 1, 0] rfl) hF
                  · refine lv_iconst (v := 1) hx hb dL_isLight_132 (by decide) ?_
                    refine lv_goto (tgt := 137) hx hb dL_isLight_133 (by decide) ?_
                    refine lv_istore_n (lv' := [(3, .int 1), (1, .int (x1 + q36)), (6, .int q36), (5, .int q35), (0, .ref o), (2, .int x2), (4, .int x4)]) hx hb dL_isLight_137 rfl hl (by decide) rfl (fun ls hl => ?_)
                    refine lv_iinc (v := (x4 + 1)) (lv' := [(4, .int (x4 + 1)), (3, .int 1), (1, .int (x1 + q36)), (6, .int q36), (5, .int q35), (0, .ref o), (2, .int x2)]) hx hb dL_isLight_138 hl (k := 6) rfl rfl (by decide) rfl (fun ls hl => ?_)
                    refine lv_goto (tgt := 13) hx hb dL_isLight_141 (by decide) ?_
                    exact ih (x1 + q36) x2 1 (x4 + 1) _ _ hP hD hS _ (lv_sub hl [5, 2, 6, 1, 0] rfl) hF
          · refine lv_iload hx hb dL_isLight_51 (lv_at hl 2 rfl) ?_
            refine lv_aload_n hx hb dL_isLight_53 rfl (lv_at hl 3 rfl) ?_
            refine lv_iload hx hb dL_isLight_54 (lv_at hl 6 rfl) ?_
            refine lv_iconst (v := 1) hx hb dL_isLight_56 (by decide) ?_
            refine lv_isub hx hb dL_isLight_57 ?_
            refine lv_iconst (v := 0) hx hb dL_isLight_58 (by decide) ?_
            obtain ⟨q43, h_q43, hF⟩ := bnd_s hF
            refine g_callV (As := [.int (x4 - 1), .int 0]) (rest := [.int q35]) ⟨hx, hb, hml, hown, hts⟩ hK hZ hA (c_X9_sector l E o qh qr qt qs qn fn fs ft gh n v (x4 - 1) (0) q43 h_q43) (cwV 2 hts gL_isLight_X9_sector rfl rfl rfl (by decide +kernel) ⟨Nat.le_of_ble_eq_true rfl, Nat.le_of_ble_eq_true rfl⟩) hP hD hS [0] [] rfl rfl rfl rfl rfl rfl hl.1 rfl (Nat.le_of_ble_eq_true rfl) dL_isLight_59 ⟨Nat.le_of_ble_eq_true rfl, Nat.le_of_ble_eq_true rfl⟩ (fun H locs hP hD hS => ?_)
            have hP : va_P E.1 vwCl (bl [HL_c E o qh qr qt qs qn fn fs ft gh v]) H := hP
            have hD : va_D A (bl [HL_c E o qh qr qt qs qn fn fs ft gh v]) := hD
            refine W.eq (g2 := F0 m 62 ls [.int q43, .int q35]) rfl ?_
            refine f_icmp_le (tgt := 136) hx hb dL_isLight_62 (by decide) hF (fun hF => ?_) (fun hF => ?_)
            · refine lv_iconst (v := 0) hx hb dL_isLight_136 (by decide) ?_
              refine lv_istore_n (lv' := [(3, .int 0), (1, .int (x1 + q36)), (6, .int q36), (5, .int q35), (0, .ref o), (2, .int x2), (4, .int x4)]) hx hb dL_isLight_137 rfl hl (by decide) rfl (fun ls hl => ?_)
              refine lv_iinc (v := (x4 + 1)) (lv' := [(4, .int (x4 + 1)), (3, .int 0), (1, .int (x1 + q36)), (6, .int q36), (5, .int q35), (0, .ref o), (2, .int x2)]) hx hb dL_isLight_138 hl (k := 6) rfl rfl (by decide) rfl (fun ls hl => ?_)
              refine lv_goto (tgt := 13) hx hb dL_isLight_141 (by decide) ?_
              exact ih (x1 + q36) x2 0 (x4 + 1) _ _ hP hD hS _ (lv_sub hl [5, 2, 6, 1, 0] rfl) hF
            · refine lv_aload_n hx hb dL_isLight_65 rfl (lv_at hl 3 rfl) ?_
              refine lv_iload hx hb dL_isLight_66 (lv_at hl 2 rfl) ?_
              obtain ⟨q44, h_q44, hF⟩ := bnd_s hF
              refine g_callV (As := [.int q35]) (rest := []) ⟨hx, hb, hml, hown, hts⟩ hK hZ hA (c_X9_color l E o qh qr qt qs qn fn fs ft gh v q35 q44 h_q44) (cwV 1 hts gL_isLight_X9_color rfl rfl rfl (by decide +kernel) ⟨Nat.le_of_ble_eq_true rfl, Nat.le_of_ble_eq_true rfl⟩) hP hD hS [0] [] rfl rfl rfl rfl rfl rfl hl.1 rfl (Nat.le_of_ble_eq_true rfl) dL_isLight_68 ⟨Nat.le_of_ble_eq_true rfl, Nat.le_of_ble_eq_true rfl⟩ (fun H locs hP hD hS => ?_)
              have hP : va_P E.1 vwCl (bl [HL_c E o qh qr qt qs qn fn fs ft gh v]) H := hP
              have hD : va_D A (bl [HL_c E o qh qr qt qs qn fn fs ft gh v]) := hD
              refine W.eq (g2 := F0 m 71 ls [.int q44]) rfl ?_
              refine lv_aload_n hx hb dL_isLight_71 rfl (lv_at hl 3 rfl) ?_
              refine lv_iload hx hb dL_isLight_72 (lv_at hl 6 rfl) ?_
              refine lv_iconst (v := 2) hx hb dL_isLight_74 (by decide) ?_
              obtain ⟨q45, h_q45, hF⟩ := bnd_s hF
              refine g_callV (As := [.int x4, .int 2]) (rest := [.int q44]) ⟨hx, hb, hml, hown, hts⟩ hK hZ hA (c_X9_sector l E o qh qr qt qs qn fn fs ft gh n v x4 (2) q45 h_q45) (cwV 2 hts gL_isLight_X9_sector rfl rfl rfl (by decide +kernel) ⟨Nat.le_of_ble_eq_true rfl, Nat.le_of_ble_eq_true rfl⟩) hP hD hS [0] [] rfl rfl rfl rfl rfl rfl hl.1 rfl (Nat.le_of_ble_eq_true rfl) dL_isLight_75 ⟨Nat.le_of_ble_eq_true rfl, Nat.le_of_ble_eq_true rfl⟩ (fun H locs hP hD hS => ?_)
              have hP : va_P E.1 vwCl (bl [HL_c E o qh qr qt qs qn fn fs ft gh v]) H := hP
              have hD : va_D A (bl [HL_c E o qh qr qt qs qn fn fs ft gh v]) := hD
              refine W.eq (g2 := F0 m 78 ls [.int q45, .int q44]) rfl ?_
              refine f_icmp_ne (tgt := 136) hx hb dL_isLight_78 (by decide) hF (fun hF => ?_) (fun hF => ?_)
              · refine lv_iconst (v := 0) hx hb dL_isLight_136 (by decide) ?_
                refine lv_istore_n (lv' := [(3, .int 0), (1, .int (x1 + q36)), (6, .int q36), (5, .int q35), (0, .ref o), (2, .int x2), (4, .int x4)]) hx hb dL_isLight_137 rfl hl (by decide) rfl (fun ls hl => ?_)
                refine lv_iinc (v := (x4 + 1)) (lv' := [(4, .int (x4 + 1)), (3, .int 0), (1, .int (x1 + q36)), (6, .int q36), (5, .int q35), (0, .ref o), (2, .int x2)]) hx hb dL_isLight_138 hl (k := 6) rfl rfl (by decide) rfl (fun ls hl => ?_)
                refine lv_goto (tgt := 13) hx hb dL_isLight_141 (by decide) ?_
                exact ih (x1 + q36) x2 0 (x4 + 1) _ _ hP hD hS _ (lv_sub hl [5, 2, 6, 1, 0] rfl) hF
              · refine lv_aload_n hx hb dL_isLight_81 rfl (lv_at hl 3 rfl) ?_
                refine lv_iload hx hb dL_isLight_82 (lv_at hl 2 rfl) ?_
                refine lv_iload hx hb dL_isLight_84 (lv_at hl 1 rfl) ?_
                refine lv_iadd hx hb dL_isLight_86 ?_
                refine lv_iconst (v := 1) hx hb dL_isLight_87 (by decide) ?_
                refine lv_isub hx hb dL_isLight_88 ?_
                refine lv_bipush (v := 64) hx hb dL_isLight_89 (by decide) ?_
                refine lv_irem hx hb dL_isLight_91 (by decide) ?_
                obtain ⟨q46, h_q46, hF⟩ := bnd_s hF
                refine g_callV (As := [.int (((q35 + q36) - 1) - ((q35 + q36) - 1) / 64 * 64)]) (rest := []) ⟨hx, hb, hml, hown, hts⟩ hK hZ hA (c_X9_color l E o qh qr qt qs qn fn fs ft gh v (((q35 + q36) - 1) - ((q35 + q36) - 1) / 64 * 64) q46 h_q46) (cwV 1 hts gL_isLight_X9_color rfl rfl rfl (by decide +kernel) ⟨Nat.le_of_ble_eq_true rfl, Nat.le_of_ble_eq_true rfl⟩) hP hD hS [0] [] rfl rfl rfl rfl rfl rfl hl.1 rfl (Nat.le_of_ble_eq_true rfl) dL_isLight_92 ⟨Nat.le_of_ble_eq_true rfl, Nat.le_of_ble_eq_true rfl⟩ (fun H locs hP hD hS => ?_)
                have hP : va_P E.1 vwCl (bl [HL_c E o qh qr qt qs qn fn fs ft gh v]) H := hP
                have hD : va_D A (bl [HL_c E o qh qr qt qs qn fn fs ft gh v]) := hD
                refine W.eq (g2 := F0 m 95 ls [.int q46]) rfl ?_
                refine lv_aload_n hx hb dL_isLight_95 rfl (lv_at hl 3 rfl) ?_
                refine lv_iload hx hb dL_isLight_96 (lv_at hl 6 rfl) ?_
                refine lv_iconst (v := 2) hx hb dL_isLight_98 (by decide) ?_
                obtain ⟨q47, h_q47, hF⟩ := bnd_s hF
                refine g_callV (As := [.int x4, .int 2]) (rest := [.int q46]) ⟨hx, hb, hml, hown, hts⟩ hK hZ hA (c_X9_sector l E o qh qr qt qs qn fn fs ft gh n v x4 (2) q47 h_q47) (cwV 2 hts gL_isLight_X9_sector rfl rfl rfl (by decide +kernel) ⟨Nat.le_of_ble_eq_true rfl, Nat.le_of_ble_eq_true rfl⟩) hP hD hS [0] [] rfl rfl rfl rfl rfl rfl hl.1 rfl (Nat.le_of_ble_eq_true rfl) dL_isLight_99 ⟨Nat.le_of_ble_eq_true rfl, Nat.le_of_ble_eq_true rfl⟩ (fun H locs hP hD hS => ?_)
                have hP : va_P E.1 vwCl (bl [HL_c E o qh qr qt qs qn fn fs ft gh v]) H := hP
                have hD : va_D A (bl [HL_c E o qh qr qt qs qn fn fs ft gh v]) := hD
                refine W.eq (g2 := F0 m 102 ls [.int q47, .int q46]) rfl ?_
                refine f_icmp_ne (tgt := 136) hx hb dL_isLight_102 (by decide) hF (fun hF => ?_) (fun hF => ?_)
                · refine lv_iconst (v := 0) hx hb dL_isLight_136 (by decide) ?_
                  refine lv_istore_n (lv' := [(3, .int 0), (1, .int (x1 + q36)), (6, .int q36), (5, .int q35), (0, .ref o), (2, .int x2), (4, .int x4)]) hx hb dL_isLight_137 rfl hl (by decide) rfl (fun ls hl => ?_)
                  refine lv_iinc (v := (x4 + 1)) (lv' := [(4, .int (x4 + 1)), (3, .int 0), (1, .int (x1 + q36)), (6, .int q36), (5, .int q35), (0, .ref o), (2, .int x2)]) hx hb dL_isLight_138 hl (k := 6) rfl rfl (by decide) rfl (fun ls hl => ?_)
                  refine lv_goto (tgt := 13) hx hb dL_isLight_141 (by decide) ?_
                  exact ih (x1 + q36) x2 0 (x4 + 1) _ _ hP hD hS _ (lv_sub hl [5, 2, 6, 1, 0] rfl) hF
                · refine lv_iload_n hx hb dL_isLight_105 rfl (lv_at hl 4 rfl) ?_
                  refine lv_iconst (v := 1) hx hb dL_isLight_106 (by decide) ?_
                  refine f_icmp_eq (tgt := 132) hx hb dL_isLight_107 (by decide) hF (fun hF => ?_) (fun hF => ?_)
                  · refine lv_iconst (v := 1) hx hb dL_isLight_132 (by decide) ?_
                    refine lv_goto (tgt := 137) hx hb dL_isLight_133 (by decide) ?_
                    refine lv_istore_n (lv' := [(3, .int 1), (1, .int (x1 + q36)), (6, .int q36), (5, .int q35), (0, .ref o), (2, .int x2), (4, .int x4)]) hx hb dL_isLight_137 rfl hl (by decide) rfl (fun ls hl => ?_)
                    refine lv_iinc (v := (x4 + 1)) (lv' := [(4, .int (x4 + 1)), (3, .int 1), (1, .int (x1 + q36)), (6, .int q36), (5, .int q35), (0, .ref o), (2, .int x2)]) hx hb dL_isLight_138 hl (k := 6) rfl rfl (by decide) rfl (fun ls hl => ?_)
                    refine lv_goto (tgt := 13) hx hb dL_isLight_141 (by decide) ?_
                    exact ih (x1 + q36) x2 1 (x4 + 1) _ _ hP hD hS _ (lv_sub hl [5, 2, 6, 1, 0] rfl) hF
                  · refine lv_aload_n hx hb dL_isLight_110 rfl (lv_at hl 3 rfl) ?_
                    refine lv_iload hx hb dL_isLight_111 (lv_at hl 2 rfl) ?_
                    refine lv_iload hx hb dL_isLight_113 (lv_at hl 1 rfl) ?_
                    refine lv_iadd hx hb dL_isLight_115 ?_
                    refine lv_bipush (v := 64) hx hb dL_isLight_116 (by decide) ?_
                    refine lv_irem hx hb dL_isLight_118 (by decide) ?_
                    obtain ⟨q48, h_q48, hF⟩ := bnd_s hF
                    refine g_callV (As := [.int ((q35 + q36) - (q35 + q36) / 64 * 64)]) (rest := []) ⟨hx, hb, hml, hown, hts⟩ hK hZ hA (c_X9_color l E o qh qr qt qs qn fn fs ft gh v ((q35 + q36) - (q35 + q36) / 64 * 64) q48 h_q48) (cwV 1 hts gL_isLight_X9_color rfl rfl rfl (by decide +kernel) ⟨Nat.le_of_ble_eq_true rfl, Nat.le_of_ble_eq_true rfl⟩) hP hD hS [0] [] rfl rfl rfl rfl rfl rfl hl.1 rfl (Nat.le_of_ble_eq_true rfl) dL_isLight_119 ⟨Nat.le_of_ble_eq_true rfl, Nat.le_of_ble_eq_true rfl⟩ (fun H locs hP hD hS => ?_)
                    have hP : va_P E.1 vwCl (bl [HL_c E o qh qr qt qs qn fn fs ft gh v]) H := hP
                    have hD : va_D A (bl [HL_c E o qh qr qt qs qn fn fs ft gh v]) := hD
                    refine W.eq (g2 := F0 m 122 ls [.int q48]) rfl ?_
                    refine lv_aload_n hx hb dL_isLight_122 rfl (lv_at hl 3 rfl) ?_
                    refine lv_iload hx hb dL_isLight_123 (lv_at hl 6 rfl) ?_
                    refine lv_iconst (v := 2) hx hb dL_isLight_125 (by decide) ?_
                    obtain ⟨q49, h_q49, hF⟩ := bnd_s hF
                    refine g_callV (As := [.int x4, .int 2]) (rest := [.int q48]) ⟨hx, hb, hml, hown, hts⟩ hK hZ hA (c_X9_sector l E o qh qr qt qs qn fn fs ft gh n v x4 (2) q49 h_q49) (cwV 2 hts gL_isLight_X9_sector rfl rfl rfl (by decide +kernel) ⟨Nat.le_of_ble_eq_true rfl, Nat.le_of_ble_eq_true rfl⟩) hP hD hS [0] [] rfl rfl rfl rfl rfl rfl hl.1 rfl (Nat.le_of_ble_eq_true rfl) dL_isLight_126 ⟨Nat.le_of_ble_eq_true rfl, Nat.le_of_ble_eq_true rfl⟩ (fun H locs hP hD hS => ?_)
                    have hP : va_P E.1 vwCl (bl [HL_c E o qh qr qt qs qn fn fs ft gh v]) H := hP
                    have hD : va_D A (bl [HL_c E o qh qr qt qs qn fn fs ft gh v]) := hD
                    refine W.eq (g2 := F0 m 129 ls [.int q49, .int q48]) rfl ?_
                    refine f_icmp_eq (tgt := 136) hx hb dL_isLight_129 (by decide) hF (fun hF => ?_) (fun hF => ?_)
                    · refine lv_iconst (v := 0) hx hb dL_isLight_136 (by decide) ?_
                      refine lv_istore_n (lv' := [(3, .int 0), (1, .int (x1 + q36)), (6, .int q36), (5, .int q35), (0, .ref o), (2, .int x2), (4, .int x4)]) hx hb dL_isLight_137 rfl hl (by decide) rfl (fun ls hl => ?_)
                      refine lv_iinc (v := (x4 + 1)) (lv' := [(4, .int (x4 + 1)), (3, .int 0), (1, .int (x1 + q36)), (6, .int q36), (5, .int q35), (0, .ref o), (2, .int x2)]) hx hb dL_isLight_138 hl (k := 6) rfl rfl (by decide) rfl (fun ls hl => ?_)
                      refine lv_goto (tgt := 13) hx hb dL_isLight_141 (by decide) ?_
                      exact ih (x1 + q36) x2 0 (x4 + 1) _ _ hP hD hS _ (lv_sub hl [5, 2, 6, 1, 0] rfl) hF
                    · refine lv_iconst (v := 1) hx hb dL_isLight_132 (by decide) ?_
                      refine lv_goto (tgt := 137) hx hb dL_isLight_133 (by decide) ?_
                      refine lv_istore_n (lv' := [(3, .int 1), (1, .int (x1 + q36)), (6, .int q36), (5, .int q35), (0, .ref o), (2, .int x2), (4, .int x4)]) hx hb dL_isLight_137 rfl hl (by decide) rfl (fun ls hl => ?_)
                      refine lv_iinc (v := (x4 + 1)) (lv' := [(4, .int (x4 + 1)), (3, .int 1), (1, .int (x1 + q36)), (6, .int q36), (5, .int q35), (0, .ref o), (2, .int x2)]) hx hb dL_isLight_138 hl (k := 6) rfl rfl (by decide) rfl (fun ls hl => ?_)
                      refine lv_goto (tgt := 13) hx hb dL_isLight_141 (by decide) ?_
                      exact ih (x1 + q36) x2 1 (x4 + 1) _ _ hP hD hS _ (lv_sub hl [5, 2, 6, 1, 0] rfl) hF
  unfold F_L_isLight at hF
  refine lv_iconst (v := 0) hx hb dL_isLight_0 (by decide) ?_
  refine lv_istore_n (lv' := [(1, .int 0), (0, .ref o)]) hx hb dL_isLight_1 rfl hl (by decide) rfl (fun ls hl => ?_)
  refine lv_aload_n hx hb dL_isLight_2 rfl (lv_at hl 1 rfl) ?_
  refine lv_iconst (v := 0) hx hb dL_isLight_3 (by decide) ?_
  obtain ⟨q1, h_q1, hF⟩ := bnd_s hF
  refine g_callV (As := [.int 0]) (rest := []) ⟨hx, hb, hml, hown, hts⟩ hK hZ hA (c_X9_count l E o qh qr qt qs qn fn fs ft gh n v (0) q1 h_q1) (cwV 1 hts gL_isLight_X9_count rfl rfl rfl (by decide +kernel) ⟨Nat.le_of_ble_eq_true rfl, Nat.le_of_ble_eq_true rfl⟩) hP hD hS [0] [] rfl rfl rfl rfl rfl rfl hl.1 rfl (Nat.le_of_ble_eq_true rfl) dL_isLight_4 ⟨Nat.le_of_ble_eq_true rfl, Nat.le_of_ble_eq_true rfl⟩ (fun H locs hP hD hS => ?_)
  have hP : va_P E.1 vwCl (bl [HL_c E o qh qr qt qs qn fn fs ft gh v]) H := hP
  have hD : va_D A (bl [HL_c E o qh qr qt qs qn fn fs ft gh v]) := hD
  refine W.eq (g2 := F0 m 7 ls [.int q1]) rfl ?_
  refine lv_istore_n (lv' := [(2, .int q1), (1, .int 0), (0, .ref o)]) hx hb dL_isLight_7 rfl hl (by decide) rfl (fun ls hl => ?_)
  refine lv_iconst (v := 1) hx hb dL_isLight_8 (by decide) ?_
  refine lv_istore_n (lv' := [(3, .int 1), (2, .int q1), (1, .int 0), (0, .ref o)]) hx hb dL_isLight_9 rfl hl (by decide) rfl (fun ls hl => ?_)
  refine lv_iconst (v := 0) hx hb dL_isLight_10 (by decide) ?_
  refine lv_istore (lv' := [(4, .int 0), (3, .int 1), (2, .int q1), (1, .int 0), (0, .ref o)]) hx hb dL_isLight_11 hl (by decide) rfl (fun ls hl => ?_)
  exact hL13 n 0 q1 1 0 _ _ hP hD hS _ (lv_sub hl [4, 3, 2, 1, 0] rfl) hF
def F_L_areDirections_J79 (n : Nat) (u : HLV) (x1 : Int32) (x2 : Int32) (x3 : Int32) (y0 : Int32) : Option (Int32 × HLV) := if y0 = 0 then some (0, u) else if x3 = (-4) then some (1, u) else (F_X9_sees n u x1 x2).bind fun q3 => if q3.1 = 0 then some (1, q3.2) else (F_X9_sees n q3.2 x1 x2).bind fun q4 => (F_X9_color q4.2 x3).bind fun q5 => if q4.1 = q5 then some (1, q4.2) else some (0, q4.2)
def F_L_areDirections_J78 (n : Nat) (u : HLV) (x1 : Int32) (x2 : Int32) (x3 : Int32) : Option (Int32 × HLV) := F_L_areDirections_J79 n u x1 x2 x3 0
def F_L_areDirections_J71 (n : Nat) (u : HLV) (x1 : Int32) (x2 : Int32) (x3 : Int32) (y0 : Int32) (y1 : Int32) : Option (Int32 × HLV) := if y0 = y1 then F_L_areDirections_J79 n u x1 x2 x3 1 else F_L_areDirections_J78 n u x1 x2 x3
def F_L_areDirections_J43 (n : Nat) (u : HLV) (x1 : Int32) (x2 : Int32) (x3 : Int32) (y0 : Int32) (y1 : Int32) : Option (Int32 × HLV) := if y0 = y1 then (F_X9_direction n u x2 (-x1)).bind fun q7 => if x3 = (-4) then F_L_areDirections_J71 n u x1 x2 x3 q7 (-4) else F_L_areDirections_J71 n u x1 x2 x3 q7 ((x3 + 16) - (x3 + 16) / 64 * 64) else F_L_areDirections_J78 n u x1 x2 x3
def F_L_areDirections (n : Nat) (v : HLV) (p0 : Int32) (p1 : Int32) : Option (Int32 × HLV) := (F_X9_direction n v p0 p1).bind fun q1 => (F_X9_again n v p0 p1).bind fun q2 => if q1 = q2 then (F_X9_direction n v (-p0) (-p1)).bind fun q6 => if q1 = (-4) then F_L_areDirections_J43 n v p0 p1 q1 q6 (-4) else F_L_areDirections_J43 n v p0 p1 q1 q6 ((q1 + 32) - (q1 + 32) / 64 * 64) else F_L_areDirections_J78 n v p0 p1 q1
set_option maxHeartbeats 4000000 in
set_option maxRecDepth 100000 in
theorem c_L_areDirections (l : Launch) (E : GE) (o : Nat) (qh : Nat) (qr : Nat) (qt : Nat) (qs : Nat) (qn : Nat) (fn : Nat → Nat) (fs : Nat → Nat) (ft : Nat → Nat) (gh : Nat → Nat → Nat) (n : Nat) (v : HLV) (p0 : Int32) (p1 : Int32) (r : Int32 × HLV) (hF : F_L_areDirections n v p0 p1 = some r) : CT l E yL_areDirections wsL_areDirections ({ frames := 6, cells := 0, slots := 0, locals := 135 } : Room) [.ref o, .int p0, .int p1] (bl [HL_c E o qh qr qt qs qn fn fs ft gh v]) (some (.int r.1)) (bl [HL_c E o qh qr qt qs qn fn fs ft gh r.2]) 0 0 := by
  refine CT.of (cc := cL_areDirections) (maxL := 5) (ret := (some .boolean)) (by decide) rfl (Nat.le_of_ble_eq_true rfl) ?_
  intro p e s m args below meth cd A Q ls B hQ hP hD hS hl
  obtain ⟨hx, hb, hml, hown, hts, hr, hlocks, hK, hZ, hA, hnm⟩ := B
  have hown : s.vm.findClass RL = some m.cls := hown
  have hl : lv_has ls 5 [(0, .ref o), (1, .int p0), (2, .int p1)] := hl
  have hJ79 : ∀ (u : HLV) (x1 : Int32) (x2 : Int32) (x3 : Int32) (y0 : Int32) (H : Heap) (locs : List Loc), va_P E.1 vwCl (bl [HL_c E o qh qr qt qs qn fn fs ft gh u]) H → va_D A (bl [HL_c E o qh qr qt qs qn fn fs ft gh u]) → va_S A s.heap H locs → ∀ ls : Array Slot, lv_has ls 5 [(0, .ref o), (1, .int x1), (2, .int x2), (3, .int x3)] → F_L_areDirections_J79 n u x1 x2 x3 y0 = some r → W p l e ({ frames := 6, cells := 0, slots := 0, locals := 135 } : Room) s m args below meth cd H locs 0 0 Q (F0 m 79 ls [.int y0]) := by
    intro u x1 x2 x3 y0 H locs hP hD hS ls hl hF
    unfold F_L_areDirections_J79 at hF
    refine lv_istore (lv' := [(4, .int y0), (0, .ref o), (1, .int x1), (2, .int x2), (3, .int x3)]) hx hb dL_areDirections_79 hl (by decide) rfl (fun ls hl => ?_)
    refine lv_iload hx hb dL_areDirections_81 (lv_at hl 0 rfl) ?_
    refine f_if_eq (tgt := 119) hx hb dL_areDirections_83 (by decide) hF (fun hF => ?_) (fun hF => ?_)
    · refine lv_iconst (v := 0) hx hb dL_areDirections_119 (by decide) ?_
      exact g_zret (rvf := fun z => some (.int z.1)) (W1f := fun z => bl [HL_c E o qh qr qt qs qn fn fs ft gh z.2]) hx hb hr hlocks rfl hQ hF rfl hP hD hS [0] rfl rfl dL_areDirections_120
    · refine lv_iload_n hx hb dL_areDirections_86 rfl (lv_at hl 4 rfl) ?_
      refine lv_bipush (v := (-4)) hx hb dL_areDirections_87 (by decide) ?_
      refine f_icmp_eq (tgt := 115) hx hb dL_areDirections_89 (by decide) hF (fun hF => ?_) (fun hF => ?_)
      · refine lv_iconst (v := 1) hx hb dL_areDirections_115 (by decide) ?_
        refine lv_goto (tgt := 120) hx hb dL_areDirections_116 (by decide) ?_
        exact g_zret (rvf := fun z => some (.int z.1)) (W1f := fun z => bl [HL_c E o qh qr qt qs qn fn fs ft gh z.2]) hx hb hr hlocks rfl hQ hF rfl hP hD hS [0] rfl rfl dL_areDirections_120
      · refine lv_aload_n hx hb dL_areDirections_92 rfl (lv_at hl 1 rfl) ?_
        refine lv_iload_n hx hb dL_areDirections_93 rfl (lv_at hl 2 rfl) ?_
        refine lv_iload_n hx hb dL_areDirections_94 rfl (lv_at hl 3 rfl) ?_
        obtain ⟨q3, h_q3, hF⟩ := bnd_s hF
        refine g_callV (As := [.int x1, .int x2]) (rest := []) ⟨hx, hb, hml, hown, hts⟩ hK hZ hA (c_X9_sees l E o qh qr qt qs qn fn fs ft gh n u x1 x2 q3 h_q3) (cwV 2 hts gL_areDirections_X9_sees rfl rfl rfl (by decide +kernel) ⟨Nat.le_of_ble_eq_true rfl, Nat.le_of_ble_eq_true rfl⟩) hP hD hS [0] [] rfl rfl rfl rfl rfl rfl hl.1 rfl (Nat.le_of_ble_eq_true rfl) dL_areDirections_95 ⟨Nat.le_of_ble_eq_true rfl, Nat.le_of_ble_eq_true rfl⟩ (fun H locs hP hD hS => ?_)
        have hP : va_P E.1 vwCl (bl [HL_c E o qh qr qt qs qn fn fs ft gh q3.2]) H := hP
        have hD : va_D A (bl [HL_c E o qh qr qt qs qn fn fs ft gh q3.2]) := hD
        refine W.eq (g2 := F0 m 98 ls [.int q3.1]) rfl ?_
        refine f_if_eq (tgt := 115) hx hb dL_areDirections_98 (by decide) hF (fun hF => ?_) (fun hF => ?_)
        · refine lv_iconst (v := 1) hx hb dL_areDirections_115 (by decide) ?_
          refine lv_goto (tgt := 120) hx hb dL_areDirections_116 (by decide) ?_
          exact g_zret (rvf := fun z => some (.int z.1)) (W1f := fun z => bl [HL_c E o qh qr qt qs qn fn fs ft gh z.2]) hx hb hr hlocks rfl hQ hF rfl hP hD hS [0] rfl rfl dL_areDirections_120
        · refine lv_aload_n hx hb dL_areDirections_101 rfl (lv_at hl 1 rfl) ?_
          refine lv_iload_n hx hb dL_areDirections_102 rfl (lv_at hl 2 rfl) ?_
          refine lv_iload_n hx hb dL_areDirections_103 rfl (lv_at hl 3 rfl) ?_
          obtain ⟨q4, h_q4, hF⟩ := bnd_s hF
          refine g_callV (As := [.int x1, .int x2]) (rest := []) ⟨hx, hb, hml, hown, hts⟩ hK hZ hA (c_X9_sees l E o qh qr qt qs qn fn fs ft gh n q3.2 x1 x2 q4 h_q4) (cwV 2 hts gL_areDirections_X9_sees rfl rfl rfl (by decide +kernel) ⟨Nat.le_of_ble_eq_true rfl, Nat.le_of_ble_eq_true rfl⟩) hP hD hS [0] [] rfl rfl rfl rfl rfl rfl hl.1 rfl (Nat.le_of_ble_eq_true rfl) dL_areDirections_104 ⟨Nat.le_of_ble_eq_true rfl, Nat.le_of_ble_eq_true rfl⟩ (fun H locs hP hD hS => ?_)
          have hP : va_P E.1 vwCl (bl [HL_c E o qh qr qt qs qn fn fs ft gh q4.2]) H := hP
          have hD : va_D A (bl [HL_c E o qh qr qt qs qn fn fs ft gh q4.2]) := hD
          refine W.eq (g2 := F0 m 107 ls [.int q4.1]) rfl ?_
          refine lv_aload_n hx hb dL_areDirections_107 rfl (lv_at hl 1 rfl) ?_
          refine lv_iload_n hx hb dL_areDirections_108 rfl (lv_at hl 4 rfl) ?_
          obtain ⟨q5, h_q5, hF⟩ := bnd_s hF
          refine g_callV (As := [.int x3]) (rest := [.int q4.1]) ⟨hx, hb, hml, hown, hts⟩ hK hZ hA (c_X9_color l E o qh qr qt qs qn fn fs ft gh q4.2 x3 q5 h_q5) (cwV 1 hts gL_areDirections_X9_color rfl rfl rfl (by decide +kernel) ⟨Nat.le_of_ble_eq_true rfl, Nat.le_of_ble_eq_true rfl⟩) hP hD hS [0] [] rfl rfl rfl rfl rfl rfl hl.1 rfl (Nat.le_of_ble_eq_true rfl) dL_areDirections_109 ⟨Nat.le_of_ble_eq_true rfl, Nat.le_of_ble_eq_true rfl⟩ (fun H locs hP hD hS => ?_)
          have hP : va_P E.1 vwCl (bl [HL_c E o qh qr qt qs qn fn fs ft gh q4.2]) H := hP
          have hD : va_D A (bl [HL_c E o qh qr qt qs qn fn fs ft gh q4.2]) := hD
          refine W.eq (g2 := F0 m 112 ls [.int q5, .int q4.1]) rfl ?_
          refine f_icmp_ne (tgt := 119) hx hb dL_areDirections_112 (by decide) hF (fun hF => ?_) (fun hF => ?_)
          · refine lv_iconst (v := 0) hx hb dL_areDirections_119 (by decide) ?_
            exact g_zret (rvf := fun z => some (.int z.1)) (W1f := fun z => bl [HL_c E o qh qr qt qs qn fn fs ft gh z.2]) hx hb hr hlocks rfl hQ hF rfl hP hD hS [0] rfl rfl dL_areDirections_120
          · refine lv_iconst (v := 1) hx hb dL_areDirections_115 (by decide) ?_
            refine lv_goto (tgt := 120) hx hb dL_areDirections_116 (by decide) ?_
            exact g_zret (rvf := fun z => some (.int z.1)) (W1f := fun z => bl [HL_c E o qh qr qt qs qn fn fs ft gh z.2]) hx hb hr hlocks rfl hQ hF rfl hP hD hS [0] rfl rfl dL_areDirections_120
  have hJ78 : ∀ (u : HLV) (x1 : Int32) (x2 : Int32) (x3 : Int32) (H : Heap) (locs : List Loc), va_P E.1 vwCl (bl [HL_c E o qh qr qt qs qn fn fs ft gh u]) H → va_D A (bl [HL_c E o qh qr qt qs qn fn fs ft gh u]) → va_S A s.heap H locs → ∀ ls : Array Slot, lv_has ls 5 [(0, .ref o), (1, .int x1), (2, .int x2), (3, .int x3)] → F_L_areDirections_J78 n u x1 x2 x3 = some r → W p l e ({ frames := 6, cells := 0, slots := 0, locals := 135 } : Room) s m args below meth cd H locs 0 0 Q (F0 m 78 ls []) := by
    intro u x1 x2 x3 H locs hP hD hS ls hl hF
    unfold F_L_areDirections_J78 at hF
    refine lv_iconst (v := 0) hx hb dL_areDirections_78 (by decide) ?_
    exact hJ79 u x1 x2 x3 0 _ _ hP hD hS _ (lv_sub hl [0, 1, 2, 3] rfl) hF
  have hJ71 : ∀ (u : HLV) (x1 : Int32) (x2 : Int32) (x3 : Int32) (y0 : Int32) (y1 : Int32) (H : Heap) (locs : List Loc), va_P E.1 vwCl (bl [HL_c E o qh qr qt qs qn fn fs ft gh u]) H → va_D A (bl [HL_c E o qh qr qt qs qn fn fs ft gh u]) → va_S A s.heap H locs → ∀ ls : Array Slot, lv_has ls 5 [(0, .ref o), (1, .int x1), (2, .int x2), (3, .int x3)] → F_L_areDirections_J71 n u x1 x2 x3 y0 y1 = some r → W p l e ({ frames := 6, cells := 0, slots := 0, locals := 135 } : Room) s m args below meth cd H locs 0 0 Q (F0 m 71 ls [.int y1, .int y0]) := by
    intro u x1 x2 x3 y0 y1 H locs hP hD hS ls hl hF
    unfold F_L_areDirections_J71 at hF
    refine f_icmp_ne (tgt := 78) hx hb dL_areDirections_71 (by decide) hF (fun hF => ?_) (fun hF => ?_)
    · exact hJ78 u x1 x2 x3 _ _ hP hD hS _ (lv_sub hl [0, 1, 2, 3] rfl) hF
    · refine lv_iconst (v := 1) hx hb dL_areDirections_74 (by decide) ?_
      refine lv_goto (tgt := 79) hx hb dL_areDirections_75 (by decide) ?_
      exact hJ79 u x1 x2 x3 1 _ _ hP hD hS _ (lv_sub hl [0, 1, 2, 3] rfl) hF
  have hJ43 : ∀ (u : HLV) (x1 : Int32) (x2 : Int32) (x3 : Int32) (y0 : Int32) (y1 : Int32) (H : Heap) (locs : List Loc), va_P E.1 vwCl (bl [HL_c E o qh qr qt qs qn fn fs ft gh u]) H → va_D A (bl [HL_c E o qh qr qt qs qn fn fs ft gh u]) → va_S A s.heap H locs → ∀ ls : Array Slot, lv_has ls 5 [(0, .ref o), (1, .int x1), (2, .int x2), (3, .int x3)] → F_L_areDirections_J43 n u x1 x2 x3 y0 y1 = some r → W p l e ({ frames := 6, cells := 0, slots := 0, locals := 135 } : Room) s m args below meth cd H locs 0 0 Q (F0 m 43 ls [.int y1, .int y0]) := by
    intro u x1 x2 x3 y0 y1 H locs hP hD hS ls hl hF
    unfold F_L_areDirections_J43 at hF
    refine f_icmp_ne (tgt := 78) hx hb dL_areDirections_43 (by decide) hF (fun hF => ?_) (fun hF => ?_)
    · exact hJ78 u x1 x2 x3 _ _ hP hD hS _ (lv_sub hl [0, 1, 2, 3] rfl) hF
    · refine lv_aload_n hx hb dL_areDirections_46 rfl (lv_at hl 0 rfl) ?_
      refine lv_iload_n hx hb dL_areDirections_47 rfl (lv_at hl 2 rfl) ?_
      refine lv_iload_n hx hb dL_areDirections_48 rfl (lv_at hl 1 rfl) ?_
      refine lv_ineg hx hb dL_areDirections_49 ?_
      obtain ⟨q7, h_q7, hF⟩ := bnd_s hF
      refine g_callV (As := [.int x2, .int (-x1)]) (rest := []) ⟨hx, hb, hml, hown, hts⟩ hK hZ hA (c_X9_direction l E o qh qr qt qs qn fn fs ft gh n u x2 (-x1) q7 h_q7) (cwV 2 hts gL_areDirections_X9_direction rfl rfl rfl (by decide +kernel) ⟨Nat.le_of_ble_eq_true rfl, Nat.le_of_ble_eq_true rfl⟩) hP hD hS [0] [] rfl rfl rfl rfl rfl rfl hl.1 rfl (Nat.le_of_ble_eq_true rfl) dL_areDirections_50 ⟨Nat.le_of_ble_eq_true rfl, Nat.le_of_ble_eq_true rfl⟩ (fun H locs hP hD hS => ?_)
      have hP : va_P E.1 vwCl (bl [HL_c E o qh qr qt qs qn fn fs ft gh u]) H := hP
      have hD : va_D A (bl [HL_c E o qh qr qt qs qn fn fs ft gh u]) := hD
      refine W.eq (g2 := F0 m 53 ls [.int q7]) rfl ?_
      refine lv_iload_n hx hb dL_areDirections_53 rfl (lv_at hl 3 rfl) ?_
      refine lv_bipush (v := (-4)) hx hb dL_areDirections_54 (by decide) ?_
      refine f_icmp_ne (tgt := 64) hx hb dL_areDirections_56 (by decide) hF (fun hF => ?_) (fun hF => ?_)
      · refine lv_iload_n hx hb dL_areDirections_64 rfl (lv_at hl 3 rfl) ?_
        refine lv_bipush (v := 16) hx hb dL_areDirections_65 (by decide) ?_
        refine lv_iadd hx hb dL_areDirections_67 ?_
        refine lv_bipush (v := 64) hx hb dL_areDirections_68 (by decide) ?_
        refine lv_irem hx hb dL_areDirections_70 (by decide) ?_
        exact hJ71 u x1 x2 x3 q7 ((x3 + 16) - (x3 + 16) / 64 * 64) _ _ hP hD hS _ (lv_sub hl [0, 1, 2, 3] rfl) hF
      · refine lv_bipush (v := (-4)) hx hb dL_areDirections_59 (by decide) ?_
        refine lv_goto (tgt := 71) hx hb dL_areDirections_61 (by decide) ?_
        exact hJ71 u x1 x2 x3 q7 (-4) _ _ hP hD hS _ (lv_sub hl [0, 1, 2, 3] rfl) hF
  unfold F_L_areDirections at hF
  refine lv_aload_n hx hb dL_areDirections_0 rfl (lv_at hl 0 rfl) ?_
  refine lv_iload_n hx hb dL_areDirections_1 rfl (lv_at hl 1 rfl) ?_
  refine lv_iload_n hx hb dL_areDirections_2 rfl (lv_at hl 2 rfl) ?_
  obtain ⟨q1, h_q1, hF⟩ := bnd_s hF
  refine g_callV (As := [.int p0, .int p1]) (rest := []) ⟨hx, hb, hml, hown, hts⟩ hK hZ hA (c_X9_direction l E o qh qr qt qs qn fn fs ft gh n v p0 p1 q1 h_q1) (cwV 2 hts gL_areDirections_X9_direction rfl rfl rfl (by decide +kernel) ⟨Nat.le_of_ble_eq_true rfl, Nat.le_of_ble_eq_true rfl⟩) hP hD hS [0] [] rfl rfl rfl rfl rfl rfl hl.1 rfl (Nat.le_of_ble_eq_true rfl) dL_areDirections_3 ⟨Nat.le_of_ble_eq_true rfl, Nat.le_of_ble_eq_true rfl⟩ (fun H locs hP hD hS => ?_)
  have hP : va_P E.1 vwCl (bl [HL_c E o qh qr qt qs qn fn fs ft gh v]) H := hP
  have hD : va_D A (bl [HL_c E o qh qr qt qs qn fn fs ft gh v]) := hD
  refine W.eq (g2 := F0 m 6 ls [.int q1]) rfl ?_
  refine lv_istore_n (lv' := [(3, .int q1), (0, .ref o), (1, .int p0), (2, .int p1)]) hx hb dL_areDirections_6 rfl hl (by decide) rfl (fun ls hl => ?_)
  refine lv_iload_n hx hb dL_areDirections_7 rfl (lv_at hl 0 rfl) ?_
  refine lv_aload_n hx hb dL_areDirections_8 rfl (lv_at hl 1 rfl) ?_
  refine lv_iload_n hx hb dL_areDirections_9 rfl (lv_at hl 2 rfl) ?_
  refine lv_iload_n hx hb dL_areDirections_10 rfl (lv_at hl 3 rfl) ?_
  obtain ⟨q2, h_q2, hF⟩ := bnd_s hF
  refine g_callV (As := [.int p0, .int p1]) (rest := [.int q1]) ⟨hx, hb, hml, hown, hts⟩ hK hZ hA (c_X9_again l E o qh qr qt qs qn fn fs ft gh n v p0 p1 q2 h_q2) (cwV 2 hts gL_areDirections_X9_again rfl rfl rfl (by decide +kernel) ⟨Nat.le_of_ble_eq_true rfl, Nat.le_of_ble_eq_true rfl⟩) hP hD hS [0] [] rfl rfl rfl rfl rfl rfl hl.1 rfl (Nat.le_of_ble_eq_true rfl) dL_areDirections_11 ⟨Nat.le_of_ble_eq_true rfl, Nat.le_of_ble_eq_true rfl⟩ (fun H locs hP hD hS => ?_)
  have hP : va_P E.1 vwCl (bl [HL_c E o qh qr qt qs qn fn fs ft gh v]) H := hP
  have hD : va_D A (bl [HL_c E o qh qr qt qs qn fn fs ft gh v]) := hD
  refine W.eq (g2 := F0 m 14 ls [.int q2, .int q1]) rfl ?_
  refine f_icmp_ne (tgt := 78) hx hb dL_areDirections_14 (by decide) hF (fun hF => ?_) (fun hF => ?_)
  · exact hJ78 v p0 p1 q1 _ _ hP hD hS _ (lv_sub hl [1, 2, 3, 0] rfl) hF
  · refine lv_aload_n hx hb dL_areDirections_17 rfl (lv_at hl 1 rfl) ?_
    refine lv_iload_n hx hb dL_areDirections_18 rfl (lv_at hl 2 rfl) ?_
    refine lv_ineg hx hb dL_areDirections_19 ?_
    refine lv_iload_n hx hb dL_areDirections_20 rfl (lv_at hl 3 rfl) ?_
    refine lv_ineg hx hb dL_areDirections_21 ?_
    obtain ⟨q6, h_q6, hF⟩ := bnd_s hF
    refine g_callV (As := [.int (-p0), .int (-p1)]) (rest := []) ⟨hx, hb, hml, hown, hts⟩ hK hZ hA (c_X9_direction l E o qh qr qt qs qn fn fs ft gh n v (-p0) (-p1) q6 h_q6) (cwV 2 hts gL_areDirections_X9_direction rfl rfl rfl (by decide +kernel) ⟨Nat.le_of_ble_eq_true rfl, Nat.le_of_ble_eq_true rfl⟩) hP hD hS [0] [] rfl rfl rfl rfl rfl rfl hl.1 rfl (Nat.le_of_ble_eq_true rfl) dL_areDirections_22 ⟨Nat.le_of_ble_eq_true rfl, Nat.le_of_ble_eq_true rfl⟩ (fun H locs hP hD hS => ?_)
    have hP : va_P E.1 vwCl (bl [HL_c E o qh qr qt qs qn fn fs ft gh v]) H := hP
    have hD : va_D A (bl [HL_c E o qh qr qt qs qn fn fs ft gh v]) := hD
    refine W.eq (g2 := F0 m 25 ls [.int q6]) rfl ?_
    refine lv_iload_n hx hb dL_areDirections_25 rfl (lv_at hl 0 rfl) ?_
    refine lv_bipush (v := (-4)) hx hb dL_areDirections_26 (by decide) ?_
    refine f_icmp_ne (tgt := 36) hx hb dL_areDirections_28 (by decide) hF (fun hF => ?_) (fun hF => ?_)
    · refine lv_iload_n hx hb dL_areDirections_36 rfl (lv_at hl 0 rfl) ?_
      refine lv_bipush (v := 32) hx hb dL_areDirections_37 (by decide) ?_
      refine lv_iadd hx hb dL_areDirections_39 ?_
      refine lv_bipush (v := 64) hx hb dL_areDirections_40 (by decide) ?_
      refine lv_irem hx hb dL_areDirections_42 (by decide) ?_
      exact hJ43 v p0 p1 q1 q6 ((q1 + 32) - (q1 + 32) / 64 * 64) _ _ hP hD hS _ (lv_sub hl [1, 2, 3, 0] rfl) hF
    · refine lv_bipush (v := (-4)) hx hb dL_areDirections_31 (by decide) ?_
      refine lv_goto (tgt := 43) hx hb dL_areDirections_33 (by decide) ?_
      exact hJ43 v p0 p1 q1 q6 (-4) _ _ hP hD hS _ (lv_sub hl [1, 2, 3, 0] rfl) hF
def F_L_isAhead_J106 (n : Nat) (u : HLV) (x1 : Int64) (x3 : Int32) (x4 : Int32) (x5 : Int32) : Option (Int32 × HLV) := if x3 < 0 then if x5 = 0 then some (0, u) else (F_L_print n u).bind fun q4 => if (lg_cmp q4.1 x1) = 0 then some (1, q4.2) else some (0, q4.2) else if 1999 ≤ x3 then if x5 = 0 then some (0, u) else (F_L_print n u).bind fun q5 => if (lg_cmp q5.1 x1) = 0 then some (1, q5.2) else some (0, q5.2) else if x5 = 0 then if x5 = 0 then some (0, u) else (F_L_print n u).bind fun q6 => if (lg_cmp q6.1 x1) = 0 then some (1, q6.2) else some (0, q6.2) else (F_X9_advance n u (x3 + 1)).bind fun q7 => if q7.1 = (-3) then (F_L_print n q7.2).bind fun q8 => if (lg_cmp q8.1 x1) = 0 then some (1, q8.2) else some (0, q8.2) else (F_X9_account q7.2 4).bind fun q9 => if q9 = (x4 + 1) then (F_X9_undo q7.2).bind fun q10 => if q10.1 < 0 then some (0, q10.2) else (F_L_print n q10.2).bind fun q11 => if (lg_cmp q11.1 x1) = 0 then some (1, q11.2) else some (0, q11.2) else some (0, q7.2)
def F_L_isAhead_J104 (n : Nat) (u : HLV) (x1 : Int64) (x3 : Int32) (x4 : Int32) (y0 : Int32) : Option (Int32 × HLV) := F_L_isAhead_J106 n u x1 x3 x4 y0
def F_L_isAhead_J99 (n : Nat) (u : HLV) (x1 : Int64) (x3 : Int32) (x4 : Int32) : Option (Int32 × HLV) := F_L_isAhead_J104 n u x1 x3 x4 1
def F_L_isAhead_J103 (n : Nat) (u : HLV) (x1 : Int64) (x3 : Int32) (x4 : Int32) : Option (Int32 × HLV) := F_L_isAhead_J104 n u x1 x3 x4 0
def F_L_isAhead_J40 (n : Nat) (u : HLV) (x1 : Int64) (x3 : Int32) (x4 : Int32) (x5 : Int32) (y0 : Int32) : Option (Int32 × HLV) := if y0 ≤ 0 then F_L_isAhead_J106 n u x1 x3 x4 x5 else (F_X9_account u 1).bind fun q12 => (F_X9_advance n u y0).bind fun q13 => if q13.1 = (-3) then F_L_isAhead_J99 n q13.2 x1 x3 x4 else (F_X9_account q13.2 4).bind fun q14 => if q14 = x4 then (F_X9_account q13.2 1).bind fun q15 => if q15 = (q12 + q13.1) then (F_X9_undo q13.2).bind fun q16 => if q16.1 < 0 then F_L_isAhead_J103 n q16.2 x1 x3 x4 else F_L_isAhead_J99 n q16.2 x1 x3 x4 else F_L_isAhead_J103 n q13.2 x1 x3 x4 else F_L_isAhead_J103 n q13.2 x1 x3 x4
def F_L_isAhead_J33 (n : Nat) (u : HLV) (x1 : Int64) (x3 : Int32) (x4 : Int32) (x5 : Int32) : Option (Int32 × HLV) := F_L_isAhead_J40 n u x1 x3 x4 x5 1999
def F_L_isAhead (n : Nat) (v : HLV) : Option (Int32 × HLV) := (F_L_print n v).bind fun q1 => (F_X9_untilIdle n q1.2).bind fun q2 => (F_X9_account q2.2 4).bind fun q3 => if q2.1 = (-4) then F_L_isAhead_J33 n q2.2 q1.1 q2.1 q3 1 else if q2.1 ≤ 1999 then F_L_isAhead_J40 n q2.2 q1.1 q2.1 q3 1 q2.1 else F_L_isAhead_J33 n q2.2 q1.1 q2.1 q3 1
set_option maxHeartbeats 4000000 in
set_option maxRecDepth 100000 in
theorem c_L_isAhead (l : Launch) (E : GE) (o : Nat) (qh : Nat) (qr : Nat) (qt : Nat) (qs : Nat) (qn : Nat) (fn : Nat → Nat) (fs : Nat → Nat) (ft : Nat → Nat) (gh : Nat → Nat → Nat) (n : Nat) (v : HLV) (r : Int32 × HLV) (hF : F_L_isAhead n v = some r) : CT l E yL_isAhead wsL_isAhead ({ frames := 6, cells := 0, slots := 0, locals := 144 } : Room) [.ref o] (bl [HL_c E o qh qr qt qs qn fn fs ft gh v]) (some (.int r.1)) (bl [HL_c E o qh qr qt qs qn fn fs ft gh r.2]) 0 0 := by
  refine CT.of (cc := cL_isAhead) (maxL := 9) (ret := (some .boolean)) (by decide) rfl (Nat.le_of_ble_eq_true rfl) ?_
  intro p e s m args below meth cd A Q ls B hQ hP hD hS hl
  obtain ⟨hx, hb, hml, hown, hts, hr, hlocks, hK, hZ, hA, hnm⟩ := B
  have hown : s.vm.findClass RL = some m.cls := hown
  have hl : lv_has ls 9 [(0, .ref o)] := hl
  have hJ106 : ∀ (u : HLV) (x1 : Int64) (x3 : Int32) (x4 : Int32) (x5 : Int32) (H : Heap) (locs : List Loc), va_P E.1 vwCl (bl [HL_c E o qh qr qt qs qn fn fs ft gh u]) H → va_D A (bl [HL_c E o qh qr qt qs qn fn fs ft gh u]) → va_S A s.heap H locs → ∀ ls : Array Slot, lv_has ls 9 [(0, .ref o), (1, .long x1), (3, .int x3), (4, .int x4), (5, .int x5)] → F_L_isAhead_J106 n u x1 x3 x4 x5 = some r → W p l e ({ frames := 6, cells := 0, slots := 0, locals := 144 } : Room) s m args below meth cd H locs 0 0 Q (F0 m 106 ls []) := by
    intro u x1 x3 x4 x5 H locs hP hD hS ls hl hF
    unfold F_L_isAhead_J106 at hF
    refine lv_iload_n hx hb dL_isAhead_106 rfl (lv_at hl 2 rfl) ?_
    refine f_if_lt (tgt := 164) hx hb dL_isAhead_107 (by decide) hF (fun hF => ?_) (fun hF => ?_)
    · refine lv_iload hx hb dL_isAhead_164 (lv_at hl 4 rfl) ?_
      refine f_if_eq (tgt := 182) hx hb dL_isAhead_166 (by decide) hF (fun hF => ?_) (fun hF => ?_)
      · refine lv_iconst (v := 0) hx hb dL_isAhead_182 (by decide) ?_
        exact g_zret (rvf := fun z => some (.int z.1)) (W1f := fun z => bl [HL_c E o qh qr qt qs qn fn fs ft gh z.2]) hx hb hr hlocks rfl hQ hF rfl hP hD hS [0] rfl rfl dL_isAhead_183
      · refine lv_aload_n hx hb dL_isAhead_169 rfl (lv_at hl 0 rfl) ?_
        obtain ⟨q4, h_q4, hF⟩ := bnd_s hF
        refine g_callS (As := [.ref o]) (rest := []) ⟨hx, hb, hml, hown, hts⟩ hK hZ hA (c_L_print l E o qh qr qt qs qn fn fs ft gh n u q4 h_q4) (va_cwS 1 hts gL_isAhead_L_print rfl rfl rfl (by decide +kernel) ⟨Nat.le_of_ble_eq_true rfl, Nat.le_of_ble_eq_true rfl⟩) hP hD hS [0] [] rfl rfl rfl hl.1 rfl (Nat.le_of_ble_eq_true rfl) dL_isAhead_170 ⟨Nat.le_of_ble_eq_true rfl, Nat.le_of_ble_eq_true rfl⟩ (fun H locs hP hD hS => ?_)
        have hP : va_P E.1 vwCl (bl [HL_c E o qh qr qt qs qn fn fs ft gh q4.2]) H := hP
        have hD : va_D A (bl [HL_c E o qh qr qt qs qn fn fs ft gh q4.2]) := hD
        refine W.eq (g2 := F0 m 173 ls [.long q4.1]) rfl ?_
        refine lv_lload_n hx hb dL_isAhead_173 rfl (lv_at hl 1 rfl) ?_
        refine W.lcmp hx hb dL_isAhead_174 ?_
        refine f_if_ne (tgt := 182) hx hb dL_isAhead_175 (by decide) hF (fun hF => ?_) (fun hF => ?_)
        · refine lv_iconst (v := 0) hx hb dL_isAhead_182 (by decide) ?_
          exact g_zret (rvf := fun z => some (.int z.1)) (W1f := fun z => bl [HL_c E o qh qr qt qs qn fn fs ft gh z.2]) hx hb hr hlocks rfl hQ hF rfl hP hD hS [0] rfl rfl dL_isAhead_183
        · refine lv_iconst (v := 1) hx hb dL_isAhead_178 (by decide) ?_
          refine lv_goto (tgt := 183) hx hb dL_isAhead_179 (by decide) ?_
          exact g_zret (rvf := fun z => some (.int z.1)) (W1f := fun z => bl [HL_c E o qh qr qt qs qn fn fs ft gh z.2]) hx hb hr hlocks rfl hQ hF rfl hP hD hS [0] rfl rfl dL_isAhead_183
    · refine lv_iload_n hx hb dL_isAhead_110 rfl (lv_at hl 2 rfl) ?_
      refine lv_sipush (v := 1999) hx hb dL_isAhead_111 (by decide) ?_
      refine f_icmp_ge (tgt := 164) hx hb dL_isAhead_114 (by decide) hF (fun hF => ?_) (fun hF => ?_)
      · refine lv_iload hx hb dL_isAhead_164 (lv_at hl 4 rfl) ?_
        refine f_if_eq (tgt := 182) hx hb dL_isAhead_166 (by decide) hF (fun hF => ?_) (fun hF => ?_)
        · refine lv_iconst (v := 0) hx hb dL_isAhead_182 (by decide) ?_
          exact g_zret (rvf := fun z => some (.int z.1)) (W1f := fun z => bl [HL_c E o qh qr qt qs qn fn fs ft gh z.2]) hx hb hr hlocks rfl hQ hF rfl hP hD hS [0] rfl rfl dL_isAhead_183
        · refine lv_aload_n hx hb dL_isAhead_169 rfl (lv_at hl 0 rfl) ?_
          obtain ⟨q5, h_q5, hF⟩ := bnd_s hF
          refine g_callS (As := [.ref o]) (rest := []) ⟨hx, hb, hml, hown, hts⟩ hK hZ hA (c_L_print l E o qh qr qt qs qn fn fs ft gh n u q5 h_q5) (va_cwS 1 hts gL_isAhead_L_print rfl rfl rfl (by decide +kernel) ⟨Nat.le_of_ble_eq_true rfl, Nat.le_of_ble_eq_true rfl⟩) hP hD hS [0] [] rfl rfl rfl hl.1 rfl (Nat.le_of_ble_eq_true rfl) dL_isAhead_170 ⟨Nat.le_of_ble_eq_true rfl, Nat.le_of_ble_eq_true rfl⟩ (fun H locs hP hD hS => ?_)
          have hP : va_P E.1 vwCl (bl [HL_c E o qh qr qt qs qn fn fs ft gh q5.2]) H := hP
          have hD : va_D A (bl [HL_c E o qh qr qt qs qn fn fs ft gh q5.2]) := hD
          refine W.eq (g2 := F0 m 173 ls [.long q5.1]) rfl ?_
          refine lv_lload_n hx hb dL_isAhead_173 rfl (lv_at hl 1 rfl) ?_
          refine W.lcmp hx hb dL_isAhead_174 ?_
          refine f_if_ne (tgt := 182) hx hb dL_isAhead_175 (by decide) hF (fun hF => ?_) (fun hF => ?_)
          · refine lv_iconst (v := 0) hx hb dL_isAhead_182 (by decide) ?_
            exact g_zret (rvf := fun z => some (.int z.1)) (W1f := fun z => bl [HL_c E o qh qr qt qs qn fn fs ft gh z.2]) hx hb hr hlocks rfl hQ hF rfl hP hD hS [0] rfl rfl dL_isAhead_183
          · refine lv_iconst (v := 1) hx hb dL_isAhead_178 (by decide) ?_
            refine lv_goto (tgt := 183) hx hb dL_isAhead_179 (by decide) ?_
            exact g_zret (rvf := fun z => some (.int z.1)) (W1f := fun z => bl [HL_c E o qh qr qt qs qn fn fs ft gh z.2]) hx hb hr hlocks rfl hQ hF rfl hP hD hS [0] rfl rfl dL_isAhead_183
      · refine lv_iload hx hb dL_isAhead_117 (lv_at hl 4 rfl) ?_
        refine f_if_eq (tgt := 164) hx hb dL_isAhead_119 (by decide) hF (fun hF => ?_) (fun hF => ?_)
        · refine lv_iload hx hb dL_isAhead_164 (lv_at hl 4 rfl) ?_
          refine f_if_eq (tgt := 182) hx hb dL_isAhead_166 (by decide) hF (fun hF => ?_) (fun hF => ?_)
          · refine lv_iconst (v := 0) hx hb dL_isAhead_182 (by decide) ?_
            exact g_zret (rvf := fun z => some (.int z.1)) (W1f := fun z => bl [HL_c E o qh qr qt qs qn fn fs ft gh z.2]) hx hb hr hlocks rfl hQ hF rfl hP hD hS [0] rfl rfl dL_isAhead_183
          · refine lv_aload_n hx hb dL_isAhead_169 rfl (lv_at hl 0 rfl) ?_
            obtain ⟨q6, h_q6, hF⟩ := bnd_s hF
            refine g_callS (As := [.ref o]) (rest := []) ⟨hx, hb, hml, hown, hts⟩ hK hZ hA (c_L_print l E o qh qr qt qs qn fn fs ft gh n u q6 h_q6) (va_cwS 1 hts gL_isAhead_L_print rfl rfl rfl (by decide +kernel) ⟨Nat.le_of_ble_eq_true rfl, Nat.le_of_ble_eq_true rfl⟩) hP hD hS [0] [] rfl rfl rfl hl.1 rfl (Nat.le_of_ble_eq_true rfl) dL_isAhead_170 ⟨Nat.le_of_ble_eq_true rfl, Nat.le_of_ble_eq_true rfl⟩ (fun H locs hP hD hS => ?_)
            have hP : va_P E.1 vwCl (bl [HL_c E o qh qr qt qs qn fn fs ft gh q6.2]) H := hP
            have hD : va_D A (bl [HL_c E o qh qr qt qs qn fn fs ft gh q6.2]) := hD
            refine W.eq (g2 := F0 m 173 ls [.long q6.1]) rfl ?_
            refine lv_lload_n hx hb dL_isAhead_173 rfl (lv_at hl 1 rfl) ?_
            refine W.lcmp hx hb dL_isAhead_174 ?_
            refine f_if_ne (tgt := 182) hx hb dL_isAhead_175 (by decide) hF (fun hF => ?_) (fun hF => ?_)
            · refine lv_iconst (v := 0) hx hb dL_isAhead_182 (by decide) ?_
              exact g_zret (rvf := fun z => some (.int z.1)) (W1f := fun z => bl [HL_c E o qh qr qt qs qn fn fs ft gh z.2]) hx hb hr hlocks rfl hQ hF rfl hP hD hS [0] rfl rfl dL_isAhead_183
            · refine lv_iconst (v := 1) hx hb dL_isAhead_178 (by decide) ?_
              refine lv_goto (tgt := 183) hx hb dL_isAhead_179 (by decide) ?_
              exact g_zret (rvf := fun z => some (.int z.1)) (W1f := fun z => bl [HL_c E o qh qr qt qs qn fn fs ft gh z.2]) hx hb hr hlocks rfl hQ hF rfl hP hD hS [0] rfl rfl dL_isAhead_183
        · refine lv_aload_n hx hb dL_isAhead_122 rfl (lv_at hl 0 rfl) ?_
          refine lv_iload_n hx hb dL_isAhead_123 rfl (lv_at hl 2 rfl) ?_
          refine lv_iconst (v := 1) hx hb dL_isAhead_124 (by decide) ?_
          refine lv_iadd hx hb dL_isAhead_125 ?_
          obtain ⟨q7, h_q7, hF⟩ := bnd_s hF
          refine g_callV (As := [.int (x3 + 1)]) (rest := []) ⟨hx, hb, hml, hown, hts⟩ hK hZ hA (c_X9_advance l E o qh qr qt qs qn fn fs ft gh n u (x3 + 1) q7 h_q7) (cwV 1 hts gL_isAhead_X9_advance rfl rfl rfl (by decide +kernel) ⟨Nat.le_of_ble_eq_true rfl, Nat.le_of_ble_eq_true rfl⟩) hP hD hS [0] [] rfl rfl rfl rfl rfl rfl hl.1 rfl (Nat.le_of_ble_eq_true rfl) dL_isAhead_126 ⟨Nat.le_of_ble_eq_true rfl, Nat.le_of_ble_eq_true rfl⟩ (fun H locs hP hD hS => ?_)
          have hP : va_P E.1 vwCl (bl [HL_c E o qh qr qt qs qn fn fs ft gh q7.2]) H := hP
          have hD : va_D A (bl [HL_c E o qh qr qt qs qn fn fs ft gh q7.2]) := hD
          refine W.eq (g2 := F0 m 129 ls [.int q7.1]) rfl ?_
          refine lv_istore (lv' := [(7, .int q7.1), (0, .ref o), (1, .long x1), (3, .int x3), (4, .int x4), (5, .int x5)]) hx hb dL_isAhead_129 hl (by decide) rfl (fun ls hl => ?_)
          refine lv_iload hx hb dL_isAhead_131 (lv_at hl 0 rfl) ?_
          refine lv_bipush (v := (-3)) hx hb dL_isAhead_133 (by decide) ?_
          refine f_icmp_eq (tgt := 157) hx hb dL_isAhead_135 (by decide) hF (fun hF => ?_) (fun hF => ?_)
          · refine lv_iconst (v := 1) hx hb dL_isAhead_157 (by decide) ?_
            refine lv_goto (tgt := 162) hx hb dL_isAhead_158 (by decide) ?_
            refine lv_istore (lv' := [(5, .int 1), (7, .int q7.1), (0, .ref o), (1, .long x1), (3, .int x3), (4, .int x4)]) hx hb dL_isAhead_162 hl (by decide) rfl (fun ls hl => ?_)
            refine lv_iload hx hb dL_isAhead_164 (lv_at hl 0 rfl) ?_
            refine lv_if_eq (tgt := 182) hx hb dL_isAhead_166 (by decide) (fun z => absurd z (by decide)) (fun _ => ?_)
            refine lv_aload_n hx hb dL_isAhead_169 rfl (lv_at hl 2 rfl) ?_
            obtain ⟨q8, h_q8, hF⟩ := bnd_s hF
            refine g_callS (As := [.ref o]) (rest := []) ⟨hx, hb, hml, hown, hts⟩ hK hZ hA (c_L_print l E o qh qr qt qs qn fn fs ft gh n q7.2 q8 h_q8) (va_cwS 1 hts gL_isAhead_L_print rfl rfl rfl (by decide +kernel) ⟨Nat.le_of_ble_eq_true rfl, Nat.le_of_ble_eq_true rfl⟩) hP hD hS [0] [] rfl rfl rfl hl.1 rfl (Nat.le_of_ble_eq_true rfl) dL_isAhead_170 ⟨Nat.le_of_ble_eq_true rfl, Nat.le_of_ble_eq_true rfl⟩ (fun H locs hP hD hS => ?_)
            have hP : va_P E.1 vwCl (bl [HL_c E o qh qr qt qs qn fn fs ft gh q8.2]) H := hP
            have hD : va_D A (bl [HL_c E o qh qr qt qs qn fn fs ft gh q8.2]) := hD
            refine W.eq (g2 := F0 m 173 ls [.long q8.1]) rfl ?_
            refine lv_lload_n hx hb dL_isAhead_173 rfl (lv_at hl 3 rfl) ?_
            refine W.lcmp hx hb dL_isAhead_174 ?_
            refine f_if_ne (tgt := 182) hx hb dL_isAhead_175 (by decide) hF (fun hF => ?_) (fun hF => ?_)
            · refine lv_iconst (v := 0) hx hb dL_isAhead_182 (by decide) ?_
              exact g_zret (rvf := fun z => some (.int z.1)) (W1f := fun z => bl [HL_c E o qh qr qt qs qn fn fs ft gh z.2]) hx hb hr hlocks rfl hQ hF rfl hP hD hS [0] rfl rfl dL_isAhead_183
            · refine lv_iconst (v := 1) hx hb dL_isAhead_178 (by decide) ?_
              refine lv_goto (tgt := 183) hx hb dL_isAhead_179 (by decide) ?_
              exact g_zret (rvf := fun z => some (.int z.1)) (W1f := fun z => bl [HL_c E o qh qr qt qs qn fn fs ft gh z.2]) hx hb hr hlocks rfl hQ hF rfl hP hD hS [0] rfl rfl dL_isAhead_183
          · refine lv_aload_n hx hb dL_isAhead_138 rfl (lv_at hl 1 rfl) ?_
            refine lv_iconst (v := 4) hx hb dL_isAhead_139 (by decide) ?_
            obtain ⟨q9, h_q9, hF⟩ := bnd_s hF
            refine g_callV (As := [.int 4]) (rest := []) ⟨hx, hb, hml, hown, hts⟩ hK hZ hA (c_X9_account l E o qh qr qt qs qn fn fs ft gh q7.2 (4) q9 h_q9) (cwV 1 hts gL_isAhead_X9_account rfl rfl rfl (by decide +kernel) ⟨Nat.le_of_ble_eq_true rfl, Nat.le_of_ble_eq_true rfl⟩) hP hD hS [0] [] rfl rfl rfl rfl rfl rfl hl.1 rfl (Nat.le_of_ble_eq_true rfl) dL_isAhead_140 ⟨Nat.le_of_ble_eq_true rfl, Nat.le_of_ble_eq_true rfl⟩ (fun H locs hP hD hS => ?_)
            have hP : va_P E.1 vwCl (bl [HL_c E o qh qr qt qs qn fn fs ft gh q7.2]) H := hP
            have hD : va_D A (bl [HL_c E o qh qr qt qs qn fn fs ft gh q7.2]) := hD
            refine W.eq (g2 := F0 m 143 ls [.int q9]) rfl ?_
            refine lv_iload hx hb dL_isAhead_143 (lv_at hl 4 rfl) ?_
            refine lv_iconst (v := 1) hx hb dL_isAhead_145 (by decide) ?_
            refine lv_iadd hx hb dL_isAhead_146 ?_
            refine f_icmp_ne (tgt := 161) hx hb dL_isAhead_147 (by decide) hF (fun hF => ?_) (fun hF => ?_)
            · refine lv_iconst (v := 0) hx hb dL_isAhead_161 (by decide) ?_
              refine lv_istore (lv' := [(5, .int 0), (7, .int q7.1), (0, .ref o), (1, .long x1), (3, .int x3), (4, .int x4)]) hx hb dL_isAhead_162 hl (by decide) rfl (fun ls hl => ?_)
              refine lv_iload hx hb dL_isAhead_164 (lv_at hl 0 rfl) ?_
              refine lv_if_eq (tgt := 182) hx hb dL_isAhead_166 (by decide) (fun _ => ?_) (fun z => absurd (by decide) z)
              refine lv_iconst (v := 0) hx hb dL_isAhead_182 (by decide) ?_
              exact g_zret (rvf := fun z => some (.int z.1)) (W1f := fun z => bl [HL_c E o qh qr qt qs qn fn fs ft gh z.2]) hx hb hr hlocks rfl hQ hF rfl hP hD hS [0] rfl rfl dL_isAhead_183
            · refine lv_aload_n hx hb dL_isAhead_150 rfl (lv_at hl 1 rfl) ?_
              obtain ⟨q10, h_q10, hF⟩ := bnd_s hF
              refine g_callV (As := []) (rest := []) ⟨hx, hb, hml, hown, hts⟩ hK hZ hA (c_X9_undo l E o qh qr qt qs qn fn fs ft gh q7.2 q10 h_q10) (cwV 0 hts gL_isAhead_X9_undo rfl rfl rfl (by decide +kernel) ⟨Nat.le_of_ble_eq_true rfl, Nat.le_of_ble_eq_true rfl⟩) hP hD hS [0] [] rfl rfl rfl rfl rfl rfl hl.1 rfl (Nat.le_of_ble_eq_true rfl) dL_isAhead_151 ⟨Nat.le_of_ble_eq_true rfl, Nat.le_of_ble_eq_true rfl⟩ (fun H locs hP hD hS => ?_)
              have hP : va_P E.1 vwCl (bl [HL_c E o qh qr qt qs qn fn fs ft gh q10.2]) H := hP
              have hD : va_D A (bl [HL_c E o qh qr qt qs qn fn fs ft gh q10.2]) := hD
              refine W.eq (g2 := F0 m 154 ls [.int q10.1]) rfl ?_
              refine f_if_lt (tgt := 161) hx hb dL_isAhead_154 (by decide) hF (fun hF => ?_) (fun hF => ?_)
              · refine lv_iconst (v := 0) hx hb dL_isAhead_161 (by decide) ?_
                refine lv_istore (lv' := [(5, .int 0), (7, .int q7.1), (0, .ref o), (1, .long x1), (3, .int x3), (4, .int x4)]) hx hb dL_isAhead_162 hl (by decide) rfl (fun ls hl => ?_)
                refine lv_iload hx hb dL_isAhead_164 (lv_at hl 0 rfl) ?_
                refine lv_if_eq (tgt := 182) hx hb dL_isAhead_166 (by decide) (fun _ => ?_) (fun z => absurd (by decide) z)
                refine lv_iconst (v := 0) hx hb dL_isAhead_182 (by decide) ?_
                exact g_zret (rvf := fun z => some (.int z.1)) (W1f := fun z => bl [HL_c E o qh qr qt qs qn fn fs ft gh z.2]) hx hb hr hlocks rfl hQ hF rfl hP hD hS [0] rfl rfl dL_isAhead_183
              · refine lv_iconst (v := 1) hx hb dL_isAhead_157 (by decide) ?_
                refine lv_goto (tgt := 162) hx hb dL_isAhead_158 (by decide) ?_
                refine lv_istore (lv' := [(5, .int 1), (7, .int q7.1), (0, .ref o), (1, .long x1), (3, .int x3), (4, .int x4)]) hx hb dL_isAhead_162 hl (by decide) rfl (fun ls hl => ?_)
                refine lv_iload hx hb dL_isAhead_164 (lv_at hl 0 rfl) ?_
                refine lv_if_eq (tgt := 182) hx hb dL_isAhead_166 (by decide) (fun z => absurd z (by decide)) (fun _ => ?_)
                refine lv_aload_n hx hb dL_isAhead_169 rfl (lv_at hl 2 rfl) ?_
                obtain ⟨q11, h_q11, hF⟩ := bnd_s hF
                refine g_callS (As := [.ref o]) (rest := []) ⟨hx, hb, hml, hown, hts⟩ hK hZ hA (c_L_print l E o qh qr qt qs qn fn fs ft gh n q10.2 q11 h_q11) (va_cwS 1 hts gL_isAhead_L_print rfl rfl rfl (by decide +kernel) ⟨Nat.le_of_ble_eq_true rfl, Nat.le_of_ble_eq_true rfl⟩) hP hD hS [0] [] rfl rfl rfl hl.1 rfl (Nat.le_of_ble_eq_true rfl) dL_isAhead_170 ⟨Nat.le_of_ble_eq_true rfl, Nat.le_of_ble_eq_true rfl⟩ (fun H locs hP hD hS => ?_)
                have hP : va_P E.1 vwCl (bl [HL_c E o qh qr qt qs qn fn fs ft gh q11.2]) H := hP
                have hD : va_D A (bl [HL_c E o qh qr qt qs qn fn fs ft gh q11.2]) := hD
                refine W.eq (g2 := F0 m 173 ls [.long q11.1]) rfl ?_
                refine lv_lload_n hx hb dL_isAhead_173 rfl (lv_at hl 3 rfl) ?_
                refine W.lcmp hx hb dL_isAhead_174 ?_
                refine f_if_ne (tgt := 182) hx hb dL_isAhead_175 (by decide) hF (fun hF => ?_) (fun hF => ?_)
                · refine lv_iconst (v := 0) hx hb dL_isAhead_182 (by decide) ?_
                  exact g_zret (rvf := fun z => some (.int z.1)) (W1f := fun z => bl [HL_c E o qh qr qt qs qn fn fs ft gh z.2]) hx hb hr hlocks rfl hQ hF rfl hP hD hS [0] rfl rfl dL_isAhead_183
                · refine lv_iconst (v := 1) hx hb dL_isAhead_178 (by decide) ?_
                  refine lv_goto (tgt := 183) hx hb dL_isAhead_179 (by decide) ?_
                  exact g_zret (rvf := fun z => some (.int z.1)) (W1f := fun z => bl [HL_c E o qh qr qt qs qn fn fs ft gh z.2]) hx hb hr hlocks rfl hQ hF rfl hP hD hS [0] rfl rfl dL_isAhead_183
  have hJ104 : ∀ (u : HLV) (x1 : Int64) (x3 : Int32) (x4 : Int32) (y0 : Int32) (H : Heap) (locs : List Loc), va_P E.1 vwCl (bl [HL_c E o qh qr qt qs qn fn fs ft gh u]) H → va_D A (bl [HL_c E o qh qr qt qs qn fn fs ft gh u]) → va_S A s.heap H locs → ∀ ls : Array Slot, lv_has ls 9 [(0, .ref o), (1, .long x1), (3, .int x3), (4, .int x4)] → F_L_isAhead_J104 n u x1 x3 x4 y0 = some r → W p l e ({ frames := 6, cells := 0, slots := 0, locals := 144 } : Room) s m args below meth cd H locs 0 0 Q (F0 m 104 ls [.int y0]) := by
    intro u x1 x3 x4 y0 H locs hP hD hS ls hl hF
    unfold F_L_isAhead_J104 at hF
    refine lv_istore (lv' := [(5, .int y0), (0, .ref o), (1, .long x1), (3, .int x3), (4, .int x4)]) hx hb dL_isAhead_104 hl (by decide) rfl (fun ls hl => ?_)
    exact hJ106 u x1 x3 x4 y0 _ _ hP hD hS _ (lv_sub hl [1, 2, 3, 4, 0] rfl) hF
  have hJ99 : ∀ (u : HLV) (x1 : Int64) (x3 : Int32) (x4 : Int32) (H : Heap) (locs : List Loc), va_P E.1 vwCl (bl [HL_c E o qh qr qt qs qn fn fs ft gh u]) H → va_D A (bl [HL_c E o qh qr qt qs qn fn fs ft gh u]) → va_S A s.heap H locs → ∀ ls : Array Slot, lv_has ls 9 [(0, .ref o), (1, .long x1), (3, .int x3), (4, .int x4)] → F_L_isAhead_J99 n u x1 x3 x4 = some r → W p l e ({ frames := 6, cells := 0, slots := 0, locals := 144 } : Room) s m args below meth cd H locs 0 0 Q (F0 m 99 ls []) := by
    intro u x1 x3 x4 H locs hP hD hS ls hl hF
    unfold F_L_isAhead_J99 at hF
    refine lv_iconst (v := 1) hx hb dL_isAhead_99 (by decide) ?_
    refine lv_goto (tgt := 104) hx hb dL_isAhead_100 (by decide) ?_
    exact hJ104 u x1 x3 x4 1 _ _ hP hD hS _ (lv_sub hl [0, 1, 2, 3] rfl) hF
  have hJ103 : ∀ (u : HLV) (x1 : Int64) (x3 : Int32) (x4 : Int32) (H : Heap) (locs : List Loc), va_P E.1 vwCl (bl [HL_c E o qh qr qt qs qn fn fs ft gh u]) H → va_D A (bl [HL_c E o qh qr qt qs qn fn fs ft gh u]) → va_S A s.heap H locs → ∀ ls : Array Slot, lv_has ls 9 [(0, .ref o), (1, .long x1), (3, .int x3), (4, .int x4)] → F_L_isAhead_J103 n u x1 x3 x4 = some r → W p l e ({ frames := 6, cells := 0, slots := 0, locals := 144 } : Room) s m args below meth cd H locs 0 0 Q (F0 m 103 ls []) := by
    intro u x1 x3 x4 H locs hP hD hS ls hl hF
    unfold F_L_isAhead_J103 at hF
    refine lv_iconst (v := 0) hx hb dL_isAhead_103 (by decide) ?_
    exact hJ104 u x1 x3 x4 0 _ _ hP hD hS _ (lv_sub hl [0, 1, 2, 3] rfl) hF
  have hJ40 : ∀ (u : HLV) (x1 : Int64) (x3 : Int32) (x4 : Int32) (x5 : Int32) (y0 : Int32) (H : Heap) (locs : List Loc), va_P E.1 vwCl (bl [HL_c E o qh qr qt qs qn fn fs ft gh u]) H → va_D A (bl [HL_c E o qh qr qt qs qn fn fs ft gh u]) → va_S A s.heap H locs → ∀ ls : Array Slot, lv_has ls 9 [(0, .ref o), (1, .long x1), (3, .int x3), (4, .int x4), (5, .int x5)] → F_L_isAhead_J40 n u x1 x3 x4 x5 y0 = some r → W p l e ({ frames := 6, cells := 0, slots := 0, locals := 144 } : Room) s m args below meth cd H locs 0 0 Q (F0 m 40 ls [.int y0]) := by
    intro u x1 x3 x4 x5 y0 H locs hP hD hS ls hl hF
    unfold F_L_isAhead_J40 at hF
    refine lv_istore (lv' := [(6, .int y0), (0, .ref o), (1, .long x1), (3, .int x3), (4, .int x4), (5, .int x5)]) hx hb dL_isAhead_40 hl (by decide) rfl (fun ls hl => ?_)
    refine lv_iload hx hb dL_isAhead_42 (lv_at hl 0 rfl) ?_
    refine f_if_le (tgt := 106) hx hb dL_isAhead_44 (by decide) hF (fun hF => ?_) (fun hF => ?_)
    · exact hJ106 u x1 x3 x4 x5 _ _ hP hD hS _ (lv_sub hl [1, 2, 3, 4, 5] rfl) hF
    · refine lv_aload_n hx hb dL_isAhead_47 rfl (lv_at hl 1 rfl) ?_
      refine lv_iconst (v := 1) hx hb dL_isAhead_48 (by decide) ?_
      obtain ⟨q12, h_q12, hF⟩ := bnd_s hF
      refine g_callV (As := [.int 1]) (rest := []) ⟨hx, hb, hml, hown, hts⟩ hK hZ hA (c_X9_account l E o qh qr qt qs qn fn fs ft gh u (1) q12 h_q12) (cwV 1 hts gL_isAhead_X9_account rfl rfl rfl (by decide +kernel) ⟨Nat.le_of_ble_eq_true rfl, Nat.le_of_ble_eq_true rfl⟩) hP hD hS [0] [] rfl rfl rfl rfl rfl rfl hl.1 rfl (Nat.le_of_ble_eq_true rfl) dL_isAhead_49 ⟨Nat.le_of_ble_eq_true rfl, Nat.le_of_ble_eq_true rfl⟩ (fun H locs hP hD hS => ?_)
      have hP : va_P E.1 vwCl (bl [HL_c E o qh qr qt qs qn fn fs ft gh u]) H := hP
      have hD : va_D A (bl [HL_c E o qh qr qt qs qn fn fs ft gh u]) := hD
      refine W.eq (g2 := F0 m 52 ls [.int q12]) rfl ?_
      refine lv_istore (lv' := [(7, .int q12), (6, .int y0), (0, .ref o), (1, .long x1), (3, .int x3), (4, .int x4), (5, .int x5)]) hx hb dL_isAhead_52 hl (by decide) rfl (fun ls hl => ?_)
      refine lv_aload_n hx hb dL_isAhead_54 rfl (lv_at hl 2 rfl) ?_
      refine lv_iload hx hb dL_isAhead_55 (lv_at hl 1 rfl) ?_
      obtain ⟨q13, h_q13, hF⟩ := bnd_s hF
      refine g_callV (As := [.int y0]) (rest := []) ⟨hx, hb, hml, hown, hts⟩ hK hZ hA (c_X9_advance l E o qh qr qt qs qn fn fs ft gh n u y0 q13 h_q13) (cwV 1 hts gL_isAhead_X9_advance rfl rfl rfl (by decide +kernel) ⟨Nat.le_of_ble_eq_true rfl, Nat.le_of_ble_eq_true rfl⟩) hP hD hS [0] [] rfl rfl rfl rfl rfl rfl hl.1 rfl (Nat.le_of_ble_eq_true rfl) dL_isAhead_57 ⟨Nat.le_of_ble_eq_true rfl, Nat.le_of_ble_eq_true rfl⟩ (fun H locs hP hD hS => ?_)
      have hP : va_P E.1 vwCl (bl [HL_c E o qh qr qt qs qn fn fs ft gh q13.2]) H := hP
      have hD : va_D A (bl [HL_c E o qh qr qt qs qn fn fs ft gh q13.2]) := hD
      refine W.eq (g2 := F0 m 60 ls [.int q13.1]) rfl ?_
      refine lv_istore (lv' := [(8, .int q13.1), (7, .int q12), (6, .int y0), (0, .ref o), (1, .long x1), (3, .int x3), (4, .int x4), (5, .int x5)]) hx hb dL_isAhead_60 hl (by decide) rfl (fun ls hl => ?_)
      refine lv_iload hx hb dL_isAhead_62 (lv_at hl 0 rfl) ?_
      refine lv_bipush (v := (-3)) hx hb dL_isAhead_64 (by decide) ?_
      refine f_icmp_eq (tgt := 99) hx hb dL_isAhead_66 (by decide) hF (fun hF => ?_) (fun hF => ?_)
      · exact hJ99 q13.2 x1 x3 x4 _ _ hP hD hS _ (lv_sub hl [3, 4, 5, 6] rfl) hF
      · refine lv_aload_n hx hb dL_isAhead_69 rfl (lv_at hl 3 rfl) ?_
        refine lv_iconst (v := 4) hx hb dL_isAhead_70 (by decide) ?_
        obtain ⟨q14, h_q14, hF⟩ := bnd_s hF
        refine g_callV (As := [.int 4]) (rest := []) ⟨hx, hb, hml, hown, hts⟩ hK hZ hA (c_X9_account l E o qh qr qt qs qn fn fs ft gh q13.2 (4) q14 h_q14) (cwV 1 hts gL_isAhead_X9_account rfl rfl rfl (by decide +kernel) ⟨Nat.le_of_ble_eq_true rfl, Nat.le_of_ble_eq_true rfl⟩) hP hD hS [0] [] rfl rfl rfl rfl rfl rfl hl.1 rfl (Nat.le_of_ble_eq_true rfl) dL_isAhead_71 ⟨Nat.le_of_ble_eq_true rfl, Nat.le_of_ble_eq_true rfl⟩ (fun H locs hP hD hS => ?_)
        have hP : va_P E.1 vwCl (bl [HL_c E o qh qr qt qs qn fn fs ft gh q13.2]) H := hP
        have hD : va_D A (bl [HL_c E o qh qr qt qs qn fn fs ft gh q13.2]) := hD
        refine W.eq (g2 := F0 m 74 ls [.int q14]) rfl ?_
        refine lv_iload hx hb dL_isAhead_74 (lv_at hl 6 rfl) ?_
        refine f_icmp_ne (tgt := 103) hx hb dL_isAhead_76 (by decide) hF (fun hF => ?_) (fun hF => ?_)
        · exact hJ103 q13.2 x1 x3 x4 _ _ hP hD hS _ (lv_sub hl [3, 4, 5, 6] rfl) hF
        · refine lv_aload_n hx hb dL_isAhead_79 rfl (lv_at hl 3 rfl) ?_
          refine lv_iconst (v := 1) hx hb dL_isAhead_80 (by decide) ?_
          obtain ⟨q15, h_q15, hF⟩ := bnd_s hF
          refine g_callV (As := [.int 1]) (rest := []) ⟨hx, hb, hml, hown, hts⟩ hK hZ hA (c_X9_account l E o qh qr qt qs qn fn fs ft gh q13.2 (1) q15 h_q15) (cwV 1 hts gL_isAhead_X9_account rfl rfl rfl (by decide +kernel) ⟨Nat.le_of_ble_eq_true rfl, Nat.le_of_ble_eq_true rfl⟩) hP hD hS [0] [] rfl rfl rfl rfl rfl rfl hl.1 rfl (Nat.le_of_ble_eq_true rfl) dL_isAhead_81 ⟨Nat.le_of_ble_eq_true rfl, Nat.le_of_ble_eq_true rfl⟩ (fun H locs hP hD hS => ?_)
          have hP : va_P E.1 vwCl (bl [HL_c E o qh qr qt qs qn fn fs ft gh q13.2]) H := hP
          have hD : va_D A (bl [HL_c E o qh qr qt qs qn fn fs ft gh q13.2]) := hD
          refine W.eq (g2 := F0 m 84 ls [.int q15]) rfl ?_
          refine lv_iload hx hb dL_isAhead_84 (lv_at hl 1 rfl) ?_
          refine lv_iload hx hb dL_isAhead_86 (lv_at hl 0 rfl) ?_
          refine lv_iadd hx hb dL_isAhead_88 ?_
          refine f_icmp_ne (tgt := 103) hx hb dL_isAhead_89 (by decide) hF (fun hF => ?_) (fun hF => ?_)
          · exact hJ103 q13.2 x1 x3 x4 _ _ hP hD hS _ (lv_sub hl [3, 4, 5, 6] rfl) hF
          · refine lv_aload_n hx hb dL_isAhead_92 rfl (lv_at hl 3 rfl) ?_
            obtain ⟨q16, h_q16, hF⟩ := bnd_s hF
            refine g_callV (As := []) (rest := []) ⟨hx, hb, hml, hown, hts⟩ hK hZ hA (c_X9_undo l E o qh qr qt qs qn fn fs ft gh q13.2 q16 h_q16) (cwV 0 hts gL_isAhead_X9_undo rfl rfl rfl (by decide +kernel) ⟨Nat.le_of_ble_eq_true rfl, Nat.le_of_ble_eq_true rfl⟩) hP hD hS [0] [] rfl rfl rfl rfl rfl rfl hl.1 rfl (Nat.le_of_ble_eq_true rfl) dL_isAhead_93 ⟨Nat.le_of_ble_eq_true rfl, Nat.le_of_ble_eq_true rfl⟩ (fun H locs hP hD hS => ?_)
            have hP : va_P E.1 vwCl (bl [HL_c E o qh qr qt qs qn fn fs ft gh q16.2]) H := hP
            have hD : va_D A (bl [HL_c E o qh qr qt qs qn fn fs ft gh q16.2]) := hD
            refine W.eq (g2 := F0 m 96 ls [.int q16.1]) rfl ?_
            refine f_if_lt (tgt := 103) hx hb dL_isAhead_96 (by decide) hF (fun hF => ?_) (fun hF => ?_)
            · exact hJ103 q16.2 x1 x3 x4 _ _ hP hD hS _ (lv_sub hl [3, 4, 5, 6] rfl) hF
            · exact hJ99 q16.2 x1 x3 x4 _ _ hP hD hS _ (lv_sub hl [3, 4, 5, 6] rfl) hF
  have hJ33 : ∀ (u : HLV) (x1 : Int64) (x3 : Int32) (x4 : Int32) (x5 : Int32) (H : Heap) (locs : List Loc), va_P E.1 vwCl (bl [HL_c E o qh qr qt qs qn fn fs ft gh u]) H → va_D A (bl [HL_c E o qh qr qt qs qn fn fs ft gh u]) → va_S A s.heap H locs → ∀ ls : Array Slot, lv_has ls 9 [(0, .ref o), (1, .long x1), (3, .int x3), (4, .int x4), (5, .int x5)] → F_L_isAhead_J33 n u x1 x3 x4 x5 = some r → W p l e ({ frames := 6, cells := 0, slots := 0, locals := 144 } : Room) s m args below meth cd H locs 0 0 Q (F0 m 33 ls []) := by
    intro u x1 x3 x4 x5 H locs hP hD hS ls hl hF
    unfold F_L_isAhead_J33 at hF
    refine lv_sipush (v := 1999) hx hb dL_isAhead_33 (by decide) ?_
    refine lv_goto (tgt := 40) hx hb dL_isAhead_36 (by decide) ?_
    exact hJ40 u x1 x3 x4 x5 1999 _ _ hP hD hS _ (lv_sub hl [0, 1, 2, 3, 4] rfl) hF
  unfold F_L_isAhead at hF
  refine lv_aload_n hx hb dL_isAhead_0 rfl (lv_at hl 0 rfl) ?_
  obtain ⟨q1, h_q1, hF⟩ := bnd_s hF
  refine g_callS (As := [.ref o]) (rest := []) ⟨hx, hb, hml, hown, hts⟩ hK hZ hA (c_L_print l E o qh qr qt qs qn fn fs ft gh n v q1 h_q1) (va_cwS 1 hts gL_isAhead_L_print rfl rfl rfl (by decide +kernel) ⟨Nat.le_of_ble_eq_true rfl, Nat.le_of_ble_eq_true rfl⟩) hP hD hS [0] [] rfl rfl rfl hl.1 rfl (Nat.le_of_ble_eq_true rfl) dL_isAhead_1 ⟨Nat.le_of_ble_eq_true rfl, Nat.le_of_ble_eq_true rfl⟩ (fun H locs hP hD hS => ?_)
  have hP : va_P E.1 vwCl (bl [HL_c E o qh qr qt qs qn fn fs ft gh q1.2]) H := hP
  have hD : va_D A (bl [HL_c E o qh qr qt qs qn fn fs ft gh q1.2]) := hD
  refine W.eq (g2 := F0 m 4 ls [.long q1.1]) rfl ?_
  refine lv_lstore_n (lv' := [(1, .long q1.1), (0, .ref o)]) hx hb dL_isAhead_4 rfl hl (by decide) rfl (fun ls hl => ?_)
  refine lv_aload_n hx hb dL_isAhead_5 rfl (lv_at hl 1 rfl) ?_
  obtain ⟨q2, h_q2, hF⟩ := bnd_s hF
  refine g_callV (As := []) (rest := []) ⟨hx, hb, hml, hown, hts⟩ hK hZ hA (c_X9_untilIdle l E o qh qr qt qs qn fn fs ft gh n q1.2 q2 h_q2) (cwV 0 hts gL_isAhead_X9_untilIdle rfl rfl rfl (by decide +kernel) ⟨Nat.le_of_ble_eq_true rfl, Nat.le_of_ble_eq_true rfl⟩) hP hD hS [0] [] rfl rfl rfl rfl rfl rfl hl.1 rfl (Nat.le_of_ble_eq_true rfl) dL_isAhead_6 ⟨Nat.le_of_ble_eq_true rfl, Nat.le_of_ble_eq_true rfl⟩ (fun H locs hP hD hS => ?_)
  have hP : va_P E.1 vwCl (bl [HL_c E o qh qr qt qs qn fn fs ft gh q2.2]) H := hP
  have hD : va_D A (bl [HL_c E o qh qr qt qs qn fn fs ft gh q2.2]) := hD
  refine W.eq (g2 := F0 m 9 ls [.int q2.1]) rfl ?_
  refine lv_istore_n (lv' := [(3, .int q2.1), (1, .long q1.1), (0, .ref o)]) hx hb dL_isAhead_9 rfl hl (by decide) rfl (fun ls hl => ?_)
  refine lv_aload_n hx hb dL_isAhead_10 rfl (lv_at hl 2 rfl) ?_
  refine lv_iconst (v := 4) hx hb dL_isAhead_11 (by decide) ?_
  obtain ⟨q3, h_q3, hF⟩ := bnd_s hF
  refine g_callV (As := [.int 4]) (rest := []) ⟨hx, hb, hml, hown, hts⟩ hK hZ hA (c_X9_account l E o qh qr qt qs qn fn fs ft gh q2.2 (4) q3 h_q3) (cwV 1 hts gL_isAhead_X9_account rfl rfl rfl (by decide +kernel) ⟨Nat.le_of_ble_eq_true rfl, Nat.le_of_ble_eq_true rfl⟩) hP hD hS [0] [] rfl rfl rfl rfl rfl rfl hl.1 rfl (Nat.le_of_ble_eq_true rfl) dL_isAhead_12 ⟨Nat.le_of_ble_eq_true rfl, Nat.le_of_ble_eq_true rfl⟩ (fun H locs hP hD hS => ?_)
  have hP : va_P E.1 vwCl (bl [HL_c E o qh qr qt qs qn fn fs ft gh q2.2]) H := hP
  have hD : va_D A (bl [HL_c E o qh qr qt qs qn fn fs ft gh q2.2]) := hD
  refine W.eq (g2 := F0 m 15 ls [.int q3]) rfl ?_
  refine lv_istore (lv' := [(4, .int q3), (3, .int q2.1), (1, .long q1.1), (0, .ref o)]) hx hb dL_isAhead_15 hl (by decide) rfl (fun ls hl => ?_)
  refine lv_iconst (v := 1) hx hb dL_isAhead_17 (by decide) ?_
  refine lv_istore (lv' := [(5, .int 1), (4, .int q3), (3, .int q2.1), (1, .long q1.1), (0, .ref o)]) hx hb dL_isAhead_18 hl (by decide) rfl (fun ls hl => ?_)
  refine lv_iload_n hx hb dL_isAhead_20 rfl (lv_at hl 2 rfl) ?_
  refine lv_bipush (v := (-4)) hx hb dL_isAhead_21 (by decide) ?_
  refine f_icmp_eq (tgt := 33) hx hb dL_isAhead_23 (by decide) hF (fun hF => ?_) (fun hF => ?_)
  · exact hJ33 q2.2 q1.1 q2.1 q3 1 _ _ hP hD hS _ (lv_sub hl [4, 3, 2, 1, 0] rfl) hF
  · refine lv_iload_n hx hb dL_isAhead_26 rfl (lv_at hl 2 rfl) ?_
    refine lv_sipush (v := 1999) hx hb dL_isAhead_27 (by decide) ?_
    refine f_icmp_le (tgt := 39) hx hb dL_isAhead_30 (by decide) hF (fun hF => ?_) (fun hF => ?_)
    · refine lv_iload_n hx hb dL_isAhead_39 rfl (lv_at hl 2 rfl) ?_
      exact hJ40 q2.2 q1.1 q2.1 q3 1 q2.1 _ _ hP hD hS _ (lv_sub hl [4, 3, 2, 1, 0] rfl) hF
    · exact hJ33 q2.2 q1.1 q2.1 q3 1 _ _ hP hD hS _ (lv_sub hl [4, 3, 2, 1, 0] rfl) hF
def F_L_isPassage_J375 (n : Nat) (u : HLV) (x4 : Int64) (y0 : Int32) : Option (Int32 × HLV) := if y0 = 0 then some (0, u) else (F_X9_undo u).bind fun q10 => if q10.1 < 0 then some (0, q10.2) else (F_L_print n q10.2).bind fun q11 => if (lg_cmp q11.1 x4) = 0 then some (1, q11.2) else some (0, q11.2)
def F_L_isPassage_J374 (n : Nat) (u : HLV) (x4 : Int64) : Option (Int32 × HLV) := F_L_isPassage_J375 n u x4 0
def F_L_isPassage_J370 (n : Nat) (u : HLV) (x4 : Int64) : Option (Int32 × HLV) := F_L_isPassage_J375 n u x4 1
def F_L_isPassage_J276 (n : Nat) (u : HLV) (x1 : Int32) (x2 : Int32) (x4 : Int64) (x6 : Int32) (x8 : Int32) (x9 : Int32) (x11 : Int32) : Option (Int32 × HLV) := if x11 = 0 then F_L_isPassage_J374 n u x4 else if 40 < x9 then F_L_isPassage_J370 n u x4 else (F_X9_entry u (x9 - 1) 0).bind fun q12 => if q12 = x6 then if x8 = (-2) then (F_X9_entry u (x9 - 1) 1).bind fun q16 => if q16 = 0 then (F_X9_entry u (x9 - 1) 2).bind fun q17 => if q17 = (-4) then F_L_isPassage_J370 n u x4 else F_L_isPassage_J374 n u x4 else F_L_isPassage_J374 n u x4 else (F_X9_entry u (x9 - 1) 1).bind fun q13 => if q13 = x8 then (F_X9_entry u (x9 - 1) 2).bind fun q14 => (F_X9_direction n u x1 x2).bind fun q15 => if q14 = q15 then F_L_isPassage_J370 n u x4 else F_L_isPassage_J374 n u x4 else F_L_isPassage_J374 n u x4 else F_L_isPassage_J374 n u x4
def F_L_isPassage_L186 (n : Nat) : Nat → HLV → Int32 → Int32 → Int64 → Int32 → Int32 → Int32 → Int32 → Int32 → Int32 → Option (Int32 × HLV)
  | 0, _, _, _, _, _, _, _, _, _, _ => none
  | k + 1, u, x1, x2, x4, x6, x8, x9, x11, x12, x13 => if x12 ≤ x13 then F_L_isPassage_J276 n u x1 x2 x4 x6 x8 x9 x11 else if x11 = 0 then F_L_isPassage_J276 n u x1 x2 x4 x6 x8 x9 x11 else (F_X9_entry u x13 3).bind fun q18 => (F_X9_account u 6).bind fun q19 => if q18 = (q19 - 1) then if (x13 + 1) = x12 then F_L_isPassage_L186 n k u x1 x2 x4 x6 x8 x9 1 x12 (x13 + 1) else (F_X9_entry u x13 0).bind fun q20 => (F_X9_entry u (x13 + 1) 0).bind fun q21 => if q20 ≤ q21 then F_L_isPassage_L186 n k u x1 x2 x4 x6 x8 x9 0 x12 (x13 + 1) else (F_X9_entry u x13 1).bind fun q22 => (F_X9_entry u (x13 + 1) 1).bind fun q23 => if q22 = q23 then F_L_isPassage_L186 n k u x1 x2 x4 x6 x8 x9 0 x12 (x13 + 1) else F_L_isPassage_L186 n k u x1 x2 x4 x6 x8 x9 1 x12 (x13 + 1) else F_L_isPassage_L186 n k u x1 x2 x4 x6 x8 x9 0 x12 (x13 + 1)
def F_L_isPassage (n : Nat) (v : HLV) (p0 : Int32) (p1 : Int32) (p2 : Int32) : Option (Int32 × HLV) := (F_L_print n v).bind fun q1 => (F_X9_account q1.2 0).bind fun q2 => (F_X9_account q1.2 7).bind fun q3 => (F_X9_sees n q1.2 p0 p1).bind fun q4 => (F_X9_pass n q4.2 p0 p1 p1 p0 p2).bind fun q5 => if q5.1 = (-3) then (F_L_print n q5.2).bind fun q27 => if (lg_cmp q27.1 q1.1) = 0 then some (1, q27.2) else some (0, q27.2) else (F_X9_seen q5.2 0).bind fun q6 => (F_X9_seen q5.2 1).bind fun q7 => (F_X9_seen q5.2 2).bind fun q8 => (F_X9_seen q5.2 3).bind fun q9 => if q5.1 ≤ 0 then if q5.1 ≤ 40 then F_L_isPassage_L186 n n q5.2 p0 p1 q1.1 q2 q4.1 q5.1 0 q5.1 0 else F_L_isPassage_L186 n n q5.2 p0 p1 q1.1 q2 q4.1 q5.1 0 40 0 else if p2 < q5.1 then if q5.1 ≤ 40 then F_L_isPassage_L186 n n q5.2 p0 p1 q1.1 q2 q4.1 q5.1 0 q5.1 0 else F_L_isPassage_L186 n n q5.2 p0 p1 q1.1 q2 q4.1 q5.1 0 40 0 else if (((q6 + q7) + q8) + q9) = p2 then (F_X9_account q5.2 0).bind fun q24 => if q24 = (q2 + p2) then (F_X9_account q5.2 7).bind fun q25 => if q25 = (q3 + q5.1) then (F_X9_count n q5.2 8).bind fun q26 => if (q3 + q5.1) ≤ 40 then if q26 = (q3 + q5.1) then if q5.1 ≤ 40 then F_L_isPassage_L186 n n q5.2 p0 p1 q1.1 q2 q4.1 q5.1 1 q5.1 0 else F_L_isPassage_L186 n n q5.2 p0 p1 q1.1 q2 q4.1 q5.1 1 40 0 else if q5.1 ≤ 40 then F_L_isPassage_L186 n n q5.2 p0 p1 q1.1 q2 q4.1 q5.1 0 q5.1 0 else F_L_isPassage_L186 n n q5.2 p0 p1 q1.1 q2 q4.1 q5.1 0 40 0 else if q26 = 40 then if q5.1 ≤ 40 then F_L_isPassage_L186 n n q5.2 p0 p1 q1.1 q2 q4.1 q5.1 1 q5.1 0 else F_L_isPassage_L186 n n q5.2 p0 p1 q1.1 q2 q4.1 q5.1 1 40 0 else if q5.1 ≤ 40 then F_L_isPassage_L186 n n q5.2 p0 p1 q1.1 q2 q4.1 q5.1 0 q5.1 0 else F_L_isPassage_L186 n n q5.2 p0 p1 q1.1 q2 q4.1 q5.1 0 40 0 else if q5.1 ≤ 40 then F_L_isPassage_L186 n n q5.2 p0 p1 q1.1 q2 q4.1 q5.1 0 q5.1 0 else F_L_isPassage_L186 n n q5.2 p0 p1 q1.1 q2 q4.1 q5.1 0 40 0 else if q5.1 ≤ 40 then F_L_isPassage_L186 n n q5.2 p0 p1 q1.1 q2 q4.1 q5.1 0 q5.1 0 else F_L_isPassage_L186 n n q5.2 p0 p1 q1.1 q2 q4.1 q5.1 0 40 0 else if q5.1 ≤ 40 then F_L_isPassage_L186 n n q5.2 p0 p1 q1.1 q2 q4.1 q5.1 0 q5.1 0 else F_L_isPassage_L186 n n q5.2 p0 p1 q1.1 q2 q4.1 q5.1 0 40 0
set_option maxHeartbeats 4000000 in
set_option maxRecDepth 100000 in
theorem c_L_isPassage (l : Launch) (E : GE) (o : Nat) (qh : Nat) (qr : Nat) (qt : Nat) (qs : Nat) (qn : Nat) (fn : Nat → Nat) (fs : Nat → Nat) (ft : Nat → Nat) (gh : Nat → Nat → Nat) (n : Nat) (v : HLV) (p0 : Int32) (p1 : Int32) (p2 : Int32) (r : Int32 × HLV) (hF : F_L_isPassage n v p0 p1 p2 = some r) : CT l E yL_isPassage wsL_isPassage ({ frames := 7, cells := 0, slots := 0, locals := 167 } : Room) [.ref o, .int p0, .int p1, .int p2] (bl [HL_c E o qh qr qt qs qn fn fs ft gh v]) (some (.int r.1)) (bl [HL_c E o qh qr qt qs qn fn fs ft gh r.2]) 0 0 := by
  refine CT.of (cc := cL_isPassage) (maxL := 14) (ret := (some .boolean)) (by decide) rfl (Nat.le_of_ble_eq_true rfl) ?_
  intro p e s m args below meth cd A Q ls B hQ hP hD hS hl
  obtain ⟨hx, hb, hml, hown, hts, hr, hlocks, hK, hZ, hA, hnm⟩ := B
  have hown : s.vm.findClass RL = some m.cls := hown
  have hl : lv_has ls 14 [(0, .ref o), (1, .int p0), (2, .int p1), (3, .int p2)] := hl
  have hJ375 : ∀ (u : HLV) (x4 : Int64) (y0 : Int32) (H : Heap) (locs : List Loc), va_P E.1 vwCl (bl [HL_c E o qh qr qt qs qn fn fs ft gh u]) H → va_D A (bl [HL_c E o qh qr qt qs qn fn fs ft gh u]) → va_S A s.heap H locs → ∀ ls : Array Slot, lv_has ls 14 [(0, .ref o), (4, .long x4)] → F_L_isPassage_J375 n u x4 y0 = some r → W p l e ({ frames := 7, cells := 0, slots := 0, locals := 167 } : Room) s m args below meth cd H locs 0 0 Q (F0 m 375 ls [.int y0]) := by
    intro u x4 y0 H locs hP hD hS ls hl hF
    unfold F_L_isPassage_J375 at hF
    refine lv_istore (lv' := [(11, .int y0), (0, .ref o), (4, .long x4)]) hx hb dL_isPassage_375 hl (by decide) rfl (fun ls hl => ?_)
    refine lv_iload hx hb dL_isPassage_377 (lv_at hl 0 rfl) ?_
    refine f_if_eq (tgt := 403) hx hb dL_isPassage_379 (by decide) hF (fun hF => ?_) (fun hF => ?_)
    · refine lv_iconst (v := 0) hx hb dL_isPassage_403 (by decide) ?_
      exact g_zret (rvf := fun z => some (.int z.1)) (W1f := fun z => bl [HL_c E o qh qr qt qs qn fn fs ft gh z.2]) hx hb hr hlocks rfl hQ hF rfl hP hD hS [0] rfl rfl dL_isPassage_404
    · refine lv_aload_n hx hb dL_isPassage_382 rfl (lv_at hl 1 rfl) ?_
      obtain ⟨q10, h_q10, hF⟩ := bnd_s hF
      refine g_callV (As := []) (rest := []) ⟨hx, hb, hml, hown, hts⟩ hK hZ hA (c_X9_undo l E o qh qr qt qs qn fn fs ft gh u q10 h_q10) (cwV 0 hts gL_isPassage_X9_undo rfl rfl rfl (by decide +kernel) ⟨Nat.le_of_ble_eq_true rfl, Nat.le_of_ble_eq_true rfl⟩) hP hD hS [0] [] rfl rfl rfl rfl rfl rfl hl.1 rfl (Nat.le_of_ble_eq_true rfl) dL_isPassage_383 ⟨Nat.le_of_ble_eq_true rfl, Nat.le_of_ble_eq_true rfl⟩ (fun H locs hP hD hS => ?_)
      have hP : va_P E.1 vwCl (bl [HL_c E o qh qr qt qs qn fn fs ft gh q10.2]) H := hP
      have hD : va_D A (bl [HL_c E o qh qr qt qs qn fn fs ft gh q10.2]) := hD
      refine W.eq (g2 := F0 m 386 ls [.int q10.1]) rfl ?_
      refine f_if_lt (tgt := 403) hx hb dL_isPassage_386 (by decide) hF (fun hF => ?_) (fun hF => ?_)
      · refine lv_iconst (v := 0) hx hb dL_isPassage_403 (by decide) ?_
        exact g_zret (rvf := fun z => some (.int z.1)) (W1f := fun z => bl [HL_c E o qh qr qt qs qn fn fs ft gh z.2]) hx hb hr hlocks rfl hQ hF rfl hP hD hS [0] rfl rfl dL_isPassage_404
      · refine lv_aload_n hx hb dL_isPassage_389 rfl (lv_at hl 1 rfl) ?_
        obtain ⟨q11, h_q11, hF⟩ := bnd_s hF
        refine g_callS (As := [.ref o]) (rest := []) ⟨hx, hb, hml, hown, hts⟩ hK hZ hA (c_L_print l E o qh qr qt qs qn fn fs ft gh n q10.2 q11 h_q11) (va_cwS 1 hts gL_isPassage_L_print rfl rfl rfl (by decide +kernel) ⟨Nat.le_of_ble_eq_true rfl, Nat.le_of_ble_eq_true rfl⟩) hP hD hS [0] [] rfl rfl rfl hl.1 rfl (Nat.le_of_ble_eq_true rfl) dL_isPassage_390 ⟨Nat.le_of_ble_eq_true rfl, Nat.le_of_ble_eq_true rfl⟩ (fun H locs hP hD hS => ?_)
        have hP : va_P E.1 vwCl (bl [HL_c E o qh qr qt qs qn fn fs ft gh q11.2]) H := hP
        have hD : va_D A (bl [HL_c E o qh qr qt qs qn fn fs ft gh q11.2]) := hD
        refine W.eq (g2 := F0 m 393 ls [.long q11.1]) rfl ?_
        refine lv_lload hx hb dL_isPassage_393 (lv_at hl 2 rfl) ?_
        refine W.lcmp hx hb dL_isPassage_395 ?_
        refine f_if_ne (tgt := 403) hx hb dL_isPassage_396 (by decide) hF (fun hF => ?_) (fun hF => ?_)
        · refine lv_iconst (v := 0) hx hb dL_isPassage_403 (by decide) ?_
          exact g_zret (rvf := fun z => some (.int z.1)) (W1f := fun z => bl [HL_c E o qh qr qt qs qn fn fs ft gh z.2]) hx hb hr hlocks rfl hQ hF rfl hP hD hS [0] rfl rfl dL_isPassage_404
        · refine lv_iconst (v := 1) hx hb dL_isPassage_399 (by decide) ?_
          refine lv_goto (tgt := 404) hx hb dL_isPassage_400 (by decide) ?_
          exact g_zret (rvf := fun z => some (.int z.1)) (W1f := fun z => bl [HL_c E o qh qr qt qs qn fn fs ft gh z.2]) hx hb hr hlocks rfl hQ hF rfl hP hD hS [0] rfl rfl dL_isPassage_404
  have hJ374 : ∀ (u : HLV) (x4 : Int64) (H : Heap) (locs : List Loc), va_P E.1 vwCl (bl [HL_c E o qh qr qt qs qn fn fs ft gh u]) H → va_D A (bl [HL_c E o qh qr qt qs qn fn fs ft gh u]) → va_S A s.heap H locs → ∀ ls : Array Slot, lv_has ls 14 [(0, .ref o), (4, .long x4)] → F_L_isPassage_J374 n u x4 = some r → W p l e ({ frames := 7, cells := 0, slots := 0, locals := 167 } : Room) s m args below meth cd H locs 0 0 Q (F0 m 374 ls []) := by
    intro u x4 H locs hP hD hS ls hl hF
    unfold F_L_isPassage_J374 at hF
    refine lv_iconst (v := 0) hx hb dL_isPassage_374 (by decide) ?_
    exact hJ375 u x4 0 _ _ hP hD hS _ (lv_sub hl [0, 1] rfl) hF
  have hJ370 : ∀ (u : HLV) (x4 : Int64) (H : Heap) (locs : List Loc), va_P E.1 vwCl (bl [HL_c E o qh qr qt qs qn fn fs ft gh u]) H → va_D A (bl [HL_c E o qh qr qt qs qn fn fs ft gh u]) → va_S A s.heap H locs → ∀ ls : Array Slot, lv_has ls 14 [(0, .ref o), (4, .long x4)] → F_L_isPassage_J370 n u x4 = some r → W p l e ({ frames := 7, cells := 0, slots := 0, locals := 167 } : Room) s m args below meth cd H locs 0 0 Q (F0 m 370 ls []) := by
    intro u x4 H locs hP hD hS ls hl hF
    unfold F_L_isPassage_J370 at hF
    refine lv_iconst (v := 1) hx hb dL_isPassage_370 (by decide) ?_
    refine lv_goto (tgt := 375) hx hb dL_isPassage_371 (by decide) ?_
    exact hJ375 u x4 1 _ _ hP hD hS _ (lv_sub hl [0, 1] rfl) hF
  have hJ276 : ∀ (u : HLV) (x1 : Int32) (x2 : Int32) (x4 : Int64) (x6 : Int32) (x8 : Int32) (x9 : Int32) (x11 : Int32) (H : Heap) (locs : List Loc), va_P E.1 vwCl (bl [HL_c E o qh qr qt qs qn fn fs ft gh u]) H → va_D A (bl [HL_c E o qh qr qt qs qn fn fs ft gh u]) → va_S A s.heap H locs → ∀ ls : Array Slot, lv_has ls 14 [(0, .ref o), (1, .int x1), (2, .int x2), (4, .long x4), (6, .int x6), (8, .int x8), (9, .int x9), (11, .int x11)] → F_L_isPassage_J276 n u x1 x2 x4 x6 x8 x9 x11 = some r → W p l e ({ frames := 7, cells := 0, slots := 0, locals := 167 } : Room) s m args below meth cd H locs 0 0 Q (F0 m 276 ls []) := by
    intro u x1 x2 x4 x6 x8 x9 x11 H locs hP hD hS ls hl hF
    unfold F_L_isPassage_J276 at hF
    refine lv_iload hx hb dL_isPassage_276 (lv_at hl 7 rfl) ?_
    refine f_if_eq (tgt := 374) hx hb dL_isPassage_278 (by decide) hF (fun hF => ?_) (fun hF => ?_)
    · exact hJ374 u x4 _ _ hP hD hS _ (lv_sub hl [0, 3] rfl) hF
    · refine lv_iload hx hb dL_isPassage_281 (lv_at hl 6 rfl) ?_
      refine lv_bipush (v := 40) hx hb dL_isPassage_283 (by decide) ?_
      refine f_icmp_gt (tgt := 370) hx hb dL_isPassage_285 (by decide) hF (fun hF => ?_) (fun hF => ?_)
      · exact hJ370 u x4 _ _ hP hD hS _ (lv_sub hl [0, 3] rfl) hF
      · refine lv_aload_n hx hb dL_isPassage_288 rfl (lv_at hl 0 rfl) ?_
        refine lv_iload hx hb dL_isPassage_289 (lv_at hl 6 rfl) ?_
        refine lv_iconst (v := 1) hx hb dL_isPassage_291 (by decide) ?_
        refine lv_isub hx hb dL_isPassage_292 ?_
        refine lv_iconst (v := 0) hx hb dL_isPassage_293 (by decide) ?_
        obtain ⟨q12, h_q12, hF⟩ := bnd_s hF
        refine g_callV (As := [.int (x9 - 1), .int 0]) (rest := []) ⟨hx, hb, hml, hown, hts⟩ hK hZ hA (c_X9_entry l E o qh qr qt qs qn fn fs ft gh u (x9 - 1) (0) q12 h_q12) (cwV 2 hts gL_isPassage_X9_entry rfl rfl rfl (by decide +kernel) ⟨Nat.le_of_ble_eq_true rfl, Nat.le_of_ble_eq_true rfl⟩) hP hD hS [0] [] rfl rfl rfl rfl rfl rfl hl.1 rfl (Nat.le_of_ble_eq_true rfl) dL_isPassage_294 ⟨Nat.le_of_ble_eq_true rfl, Nat.le_of_ble_eq_true rfl⟩ (fun H locs hP hD hS => ?_)
        have hP : va_P E.1 vwCl (bl [HL_c E o qh qr qt qs qn fn fs ft gh u]) H := hP
        have hD : va_D A (bl [HL_c E o qh qr qt qs qn fn fs ft gh u]) := hD
        refine W.eq (g2 := F0 m 297 ls [.int q12]) rfl ?_
        refine lv_iload hx hb dL_isPassage_297 (lv_at hl 4 rfl) ?_
        refine f_icmp_ne (tgt := 374) hx hb dL_isPassage_299 (by decide) hF (fun hF => ?_) (fun hF => ?_)
        · exact hJ374 u x4 _ _ hP hD hS _ (lv_sub hl [0, 3] rfl) hF
        · refine lv_iload hx hb dL_isPassage_302 (lv_at hl 5 rfl) ?_
          refine lv_bipush (v := (-2)) hx hb dL_isPassage_304 (by decide) ?_
          refine f_icmp_ne (tgt := 338) hx hb dL_isPassage_306 (by decide) hF (fun hF => ?_) (fun hF => ?_)
          · refine lv_aload_n hx hb dL_isPassage_338 rfl (lv_at hl 0 rfl) ?_
            refine lv_iload hx hb dL_isPassage_339 (lv_at hl 6 rfl) ?_
            refine lv_iconst (v := 1) hx hb dL_isPassage_341 (by decide) ?_
            refine lv_isub hx hb dL_isPassage_342 ?_
            refine lv_iconst (v := 1) hx hb dL_isPassage_343 (by decide) ?_
            obtain ⟨q13, h_q13, hF⟩ := bnd_s hF
            refine g_callV (As := [.int (x9 - 1), .int 1]) (rest := []) ⟨hx, hb, hml, hown, hts⟩ hK hZ hA (c_X9_entry l E o qh qr qt qs qn fn fs ft gh u (x9 - 1) (1) q13 h_q13) (cwV 2 hts gL_isPassage_X9_entry rfl rfl rfl (by decide +kernel) ⟨Nat.le_of_ble_eq_true rfl, Nat.le_of_ble_eq_true rfl⟩) hP hD hS [0] [] rfl rfl rfl rfl rfl rfl hl.1 rfl (Nat.le_of_ble_eq_true rfl) dL_isPassage_344 ⟨Nat.le_of_ble_eq_true rfl, Nat.le_of_ble_eq_true rfl⟩ (fun H locs hP hD hS => ?_)
            have hP : va_P E.1 vwCl (bl [HL_c E o qh qr qt qs qn fn fs ft gh u]) H := hP
            have hD : va_D A (bl [HL_c E o qh qr qt qs qn fn fs ft gh u]) := hD
            refine W.eq (g2 := F0 m 347 ls [.int q13]) rfl ?_
            refine lv_iload hx hb dL_isPassage_347 (lv_at hl 5 rfl) ?_
            refine f_icmp_ne (tgt := 374) hx hb dL_isPassage_349 (by decide) hF (fun hF => ?_) (fun hF => ?_)
            · exact hJ374 u x4 _ _ hP hD hS _ (lv_sub hl [0, 3] rfl) hF
            · refine lv_aload_n hx hb dL_isPassage_352 rfl (lv_at hl 0 rfl) ?_
              refine lv_iload hx hb dL_isPassage_353 (lv_at hl 6 rfl) ?_
              refine lv_iconst (v := 1) hx hb dL_isPassage_355 (by decide) ?_
              refine lv_isub hx hb dL_isPassage_356 ?_
              refine lv_iconst (v := 2) hx hb dL_isPassage_357 (by decide) ?_
              obtain ⟨q14, h_q14, hF⟩ := bnd_s hF
              refine g_callV (As := [.int (x9 - 1), .int 2]) (rest := []) ⟨hx, hb, hml, hown, hts⟩ hK hZ hA (c_X9_entry l E o qh qr qt qs qn fn fs ft gh u (x9 - 1) (2) q14 h_q14) (cwV 2 hts gL_isPassage_X9_entry rfl rfl rfl (by decide +kernel) ⟨Nat.le_of_ble_eq_true rfl, Nat.le_of_ble_eq_true rfl⟩) hP hD hS [0] [] rfl rfl rfl rfl rfl rfl hl.1 rfl (Nat.le_of_ble_eq_true rfl) dL_isPassage_358 ⟨Nat.le_of_ble_eq_true rfl, Nat.le_of_ble_eq_true rfl⟩ (fun H locs hP hD hS => ?_)
              have hP : va_P E.1 vwCl (bl [HL_c E o qh qr qt qs qn fn fs ft gh u]) H := hP
              have hD : va_D A (bl [HL_c E o qh qr qt qs qn fn fs ft gh u]) := hD
              refine W.eq (g2 := F0 m 361 ls [.int q14]) rfl ?_
              refine lv_aload_n hx hb dL_isPassage_361 rfl (lv_at hl 0 rfl) ?_
              refine lv_iload_n hx hb dL_isPassage_362 rfl (lv_at hl 1 rfl) ?_
              refine lv_iload_n hx hb dL_isPassage_363 rfl (lv_at hl 2 rfl) ?_
              obtain ⟨q15, h_q15, hF⟩ := bnd_s hF
              refine g_callV (As := [.int x1, .int x2]) (rest := [.int q14]) ⟨hx, hb, hml, hown, hts⟩ hK hZ hA (c_X9_direction l E o qh qr qt qs qn fn fs ft gh n u x1 x2 q15 h_q15) (cwV 2 hts gL_isPassage_X9_direction rfl rfl rfl (by decide +kernel) ⟨Nat.le_of_ble_eq_true rfl, Nat.le_of_ble_eq_true rfl⟩) hP hD hS [0] [] rfl rfl rfl rfl rfl rfl hl.1 rfl (Nat.le_of_ble_eq_true rfl) dL_isPassage_364 ⟨Nat.le_of_ble_eq_true rfl, Nat.le_of_ble_eq_true rfl⟩ (fun H locs hP hD hS => ?_)
              have hP : va_P E.1 vwCl (bl [HL_c E o qh qr qt qs qn fn fs ft gh u]) H := hP
              have hD : va_D A (bl [HL_c E o qh qr qt qs qn fn fs ft gh u]) := hD
              refine W.eq (g2 := F0 m 367 ls [.int q15, .int q14]) rfl ?_
              refine f_icmp_ne (tgt := 374) hx hb dL_isPassage_367 (by decide) hF (fun hF => ?_) (fun hF => ?_)
              · exact hJ374 u x4 _ _ hP hD hS _ (lv_sub hl [0, 3] rfl) hF
              · exact hJ370 u x4 _ _ hP hD hS _ (lv_sub hl [0, 3] rfl) hF
          · refine lv_aload_n hx hb dL_isPassage_309 rfl (lv_at hl 0 rfl) ?_
            refine lv_iload hx hb dL_isPassage_310 (lv_at hl 6 rfl) ?_
            refine lv_iconst (v := 1) hx hb dL_isPassage_312 (by decide) ?_
            refine lv_isub hx hb dL_isPassage_313 ?_
            refine lv_iconst (v := 1) hx hb dL_isPassage_314 (by decide) ?_
            obtain ⟨q16, h_q16, hF⟩ := bnd_s hF
            refine g_callV (As := [.int (x9 - 1), .int 1]) (rest := []) ⟨hx, hb, hml, hown, hts⟩ hK hZ hA (c_X9_entry l E o qh qr qt qs qn fn fs ft gh u (x9 - 1) (1) q16 h_q16) (cwV 2 hts gL_isPassage_X9_entry rfl rfl rfl (by decide +kernel) ⟨Nat.le_of_ble_eq_true rfl, Nat.le_of_ble_eq_true rfl⟩) hP hD hS [0] [] rfl rfl rfl rfl rfl rfl hl.1 rfl (Nat.le_of_ble_eq_true rfl) dL_isPassage_315 ⟨Nat.le_of_ble_eq_true rfl, Nat.le_of_ble_eq_true rfl⟩ (fun H locs hP hD hS => ?_)
            have hP : va_P E.1 vwCl (bl [HL_c E o qh qr qt qs qn fn fs ft gh u]) H := hP
            have hD : va_D A (bl [HL_c E o qh qr qt qs qn fn fs ft gh u]) := hD
            refine W.eq (g2 := F0 m 318 ls [.int q16]) rfl ?_
            refine f_if_ne (tgt := 374) hx hb dL_isPassage_318 (by decide) hF (fun hF => ?_) (fun hF => ?_)
            · exact hJ374 u x4 _ _ hP hD hS _ (lv_sub hl [0, 3] rfl) hF
            · refine lv_aload_n hx hb dL_isPassage_321 rfl (lv_at hl 0 rfl) ?_
              refine lv_iload hx hb dL_isPassage_322 (lv_at hl 6 rfl) ?_
              refine lv_iconst (v := 1) hx hb dL_isPassage_324 (by decide) ?_
              refine lv_isub hx hb dL_isPassage_325 ?_
              refine lv_iconst (v := 2) hx hb dL_isPassage_326 (by decide) ?_
              obtain ⟨q17, h_q17, hF⟩ := bnd_s hF
              refine g_callV (As := [.int (x9 - 1), .int 2]) (rest := []) ⟨hx, hb, hml, hown, hts⟩ hK hZ hA (c_X9_entry l E o qh qr qt qs qn fn fs ft gh u (x9 - 1) (2) q17 h_q17) (cwV 2 hts gL_isPassage_X9_entry rfl rfl rfl (by decide +kernel) ⟨Nat.le_of_ble_eq_true rfl, Nat.le_of_ble_eq_true rfl⟩) hP hD hS [0] [] rfl rfl rfl rfl rfl rfl hl.1 rfl (Nat.le_of_ble_eq_true rfl) dL_isPassage_327 ⟨Nat.le_of_ble_eq_true rfl, Nat.le_of_ble_eq_true rfl⟩ (fun H locs hP hD hS => ?_)
              have hP : va_P E.1 vwCl (bl [HL_c E o qh qr qt qs qn fn fs ft gh u]) H := hP
              have hD : va_D A (bl [HL_c E o qh qr qt qs qn fn fs ft gh u]) := hD
              refine W.eq (g2 := F0 m 330 ls [.int q17]) rfl ?_
              refine lv_bipush (v := (-4)) hx hb dL_isPassage_330 (by decide) ?_
              refine f_icmp_ne (tgt := 374) hx hb dL_isPassage_332 (by decide) hF (fun hF => ?_) (fun hF => ?_)
              · exact hJ374 u x4 _ _ hP hD hS _ (lv_sub hl [0, 3] rfl) hF
              · refine lv_goto (tgt := 370) hx hb dL_isPassage_335 (by decide) ?_
                exact hJ370 u x4 _ _ hP hD hS _ (lv_sub hl [0, 3] rfl) hF
  have hL186 : ∀ (k : Nat) (u : HLV) (x1 : Int32) (x2 : Int32) (x4 : Int64) (x6 : Int32) (x8 : Int32) (x9 : Int32) (x11 : Int32) (x12 : Int32) (x13 : Int32) (H : Heap) (locs : List Loc), va_P E.1 vwCl (bl [HL_c E o qh qr qt qs qn fn fs ft gh u]) H → va_D A (bl [HL_c E o qh qr qt qs qn fn fs ft gh u]) → va_S A s.heap H locs → ∀ ls : Array Slot, lv_has ls 14 [(0, .ref o), (1, .int x1), (2, .int x2), (4, .long x4), (6, .int x6), (8, .int x8), (9, .int x9), (11, .int x11), (12, .int x12), (13, .int x13)] → F_L_isPassage_L186 n k u x1 x2 x4 x6 x8 x9 x11 x12 x13 = some r → W p l e ({ frames := 7, cells := 0, slots := 0, locals := 167 } : Room) s m args below meth cd H locs 0 0 Q (F0 m 186 ls []) := by
    intro k
    induction k with
    | zero => intro u x1 x2 x4 x6 x8 x9 x11 x12 x13 H locs hP hD hS ls hl hF; cases hF
    | succ k ih =>
      intro u x1 x2 x4 x6 x8 x9 x11 x12 x13 H locs hP hD hS ls hl hF
      rw [F_L_isPassage_L186] at hF
      refine lv_iload hx hb dL_isPassage_186 (lv_at hl 9 rfl) ?_
      refine lv_iload hx hb dL_isPassage_188 (lv_at hl 8 rfl) ?_
      refine f_icmp_ge (tgt := 276) hx hb dL_isPassage_190 (by decide) hF (fun hF => ?_) (fun hF => ?_)
      · exact hJ276 u x1 x2 x4 x6 x8 x9 x11 _ _ hP hD hS _ (lv_sub hl [0, 1, 2, 3, 4, 5, 6, 7] rfl) hF
      · refine lv_iload hx hb dL_isPassage_193 (lv_at hl 7 rfl) ?_
        refine f_if_eq (tgt := 276) hx hb dL_isPassage_195 (by decide) hF (fun hF => ?_) (fun hF => ?_)
        · exact hJ276 u x1 x2 x4 x6 x8 x9 x11 _ _ hP hD hS _ (lv_sub hl [0, 1, 2, 3, 4, 5, 6, 7] rfl) hF
        · refine lv_aload_n hx hb dL_isPassage_198 rfl (lv_at hl 0 rfl) ?_
          refine lv_iload hx hb dL_isPassage_199 (lv_at hl 9 rfl) ?_
          refine lv_iconst (v := 3) hx hb dL_isPassage_201 (by decide) ?_
          obtain ⟨q18, h_q18, hF⟩ := bnd_s hF
          refine g_callV (As := [.int x13, .int 3]) (rest := []) ⟨hx, hb, hml, hown, hts⟩ hK hZ hA (c_X9_entry l E o qh qr qt qs qn fn fs ft gh u x13 (3) q18 h_q18) (cwV 2 hts gL_isPassage_X9_entry rfl rfl rfl (by decide +kernel) ⟨Nat.le_of_ble_eq_true rfl, Nat.le_of_ble_eq_true rfl⟩) hP hD hS [0] [] rfl rfl rfl rfl rfl rfl hl.1 rfl (Nat.le_of_ble_eq_true rfl) dL_isPassage_202 ⟨Nat.le_of_ble_eq_true rfl, Nat.le_of_ble_eq_true rfl⟩ (fun H locs hP hD hS => ?_)
          have hP : va_P E.1 vwCl (bl [HL_c E o qh qr qt qs qn fn fs ft gh u]) H := hP
          have hD : va_D A (bl [HL_c E o qh qr qt qs qn fn fs ft gh u]) := hD
          refine W.eq (g2 := F0 m 205 ls [.int q18]) rfl ?_
          refine lv_aload_n hx hb dL_isPassage_205 rfl (lv_at hl 0 rfl) ?_
          refine lv_bipush (v := 6) hx hb dL_isPassage_206 (by decide) ?_
          obtain ⟨q19, h_q19, hF⟩ := bnd_s hF
          refine g_callV (As := [.int 6]) (rest := [.int q18]) ⟨hx, hb, hml, hown, hts⟩ hK hZ hA (c_X9_account l E o qh qr qt qs qn fn fs ft gh u (6) q19 h_q19) (cwV 1 hts gL_isPassage_X9_account rfl rfl rfl (by decide +kernel) ⟨Nat.le_of_ble_eq_true rfl, Nat.le_of_ble_eq_true rfl⟩) hP hD hS [0] [] rfl rfl rfl rfl rfl rfl hl.1 rfl (Nat.le_of_ble_eq_true rfl) dL_isPassage_208 ⟨Nat.le_of_ble_eq_true rfl, Nat.le_of_ble_eq_true rfl⟩ (fun H locs hP hD hS => ?_)
          have hP : va_P E.1 vwCl (bl [HL_c E o qh qr qt qs qn fn fs ft gh u]) H := hP
          have hD : va_D A (bl [HL_c E o qh qr qt qs qn fn fs ft gh u]) := hD
          refine W.eq (g2 := F0 m 211 ls [.int q19, .int q18]) rfl ?_
          refine lv_iconst (v := 1) hx hb dL_isPassage_211 (by decide) ?_
          refine lv_isub hx hb dL_isPassage_212 ?_
          refine f_icmp_ne (tgt := 267) hx hb dL_isPassage_213 (by decide) hF (fun hF => ?_) (fun hF => ?_)
          · refine lv_iconst (v := 0) hx hb dL_isPassage_267 (by decide) ?_
            refine lv_istore (lv' := [(11, .int 0), (0, .ref o), (1, .int x1), (2, .int x2), (4, .long x4), (6, .int x6), (8, .int x8), (9, .int x9), (12, .int x12), (13, .int x13)]) hx hb dL_isPassage_268 hl (by decide) rfl (fun ls hl => ?_)
            refine lv_iinc (v := (x13 + 1)) (lv' := [(13, .int (x13 + 1)), (11, .int 0), (0, .ref o), (1, .int x1), (2, .int x2), (4, .long x4), (6, .int x6), (8, .int x8), (9, .int x9), (12, .int x12)]) hx hb dL_isPassage_270 hl (k := 9) rfl rfl (by decide) rfl (fun ls hl => ?_)
            refine lv_goto (tgt := 186) hx hb dL_isPassage_273 (by decide) ?_
            exact ih u x1 x2 x4 x6 x8 x9 0 x12 (x13 + 1) _ _ hP hD hS _ (lv_sub hl [2, 3, 4, 5, 6, 7, 8, 1, 9, 0] rfl) hF
          · refine lv_iload hx hb dL_isPassage_216 (lv_at hl 9 rfl) ?_
            refine lv_iconst (v := 1) hx hb dL_isPassage_218 (by decide) ?_
            refine lv_iadd hx hb dL_isPassage_219 ?_
            refine lv_iload hx hb dL_isPassage_220 (lv_at hl 8 rfl) ?_
            refine f_icmp_eq (tgt := 263) hx hb dL_isPassage_222 (by decide) hF (fun hF => ?_) (fun hF => ?_)
            · refine lv_iconst (v := 1) hx hb dL_isPassage_263 (by decide) ?_
              refine lv_goto (tgt := 268) hx hb dL_isPassage_264 (by decide) ?_
              refine lv_istore (lv' := [(11, .int 1), (0, .ref o), (1, .int x1), (2, .int x2), (4, .long x4), (6, .int x6), (8, .int x8), (9, .int x9), (12, .int x12), (13, .int x13)]) hx hb dL_isPassage_268 hl (by decide) rfl (fun ls hl => ?_)
              refine lv_iinc (v := (x13 + 1)) (lv' := [(13, .int (x13 + 1)), (11, .int 1), (0, .ref o), (1, .int x1), (2, .int x2), (4, .long x4), (6, .int x6), (8, .int x8), (9, .int x9), (12, .int x12)]) hx hb dL_isPassage_270 hl (k := 9) rfl rfl (by decide) rfl (fun ls hl => ?_)
              refine lv_goto (tgt := 186) hx hb dL_isPassage_273 (by decide) ?_
              exact ih u x1 x2 x4 x6 x8 x9 1 x12 (x13 + 1) _ _ hP hD hS _ (lv_sub hl [2, 3, 4, 5, 6, 7, 8, 1, 9, 0] rfl) hF
            · refine lv_aload_n hx hb dL_isPassage_225 rfl (lv_at hl 0 rfl) ?_
              refine lv_iload hx hb dL_isPassage_226 (lv_at hl 9 rfl) ?_
              refine lv_iconst (v := 0) hx hb dL_isPassage_228 (by decide) ?_
              obtain ⟨q20, h_q20, hF⟩ := bnd_s hF
              refine g_callV (As := [.int x13, .int 0]) (rest := []) ⟨hx, hb, hml, hown, hts⟩ hK hZ hA (c_X9_entry l E o qh qr qt qs qn fn fs ft gh u x13 (0) q20 h_q20) (cwV 2 hts gL_isPassage_X9_entry rfl rfl rfl (by decide +kernel) ⟨Nat.le_of_ble_eq_true rfl, Nat.le_of_ble_eq_true rfl⟩) hP hD hS [0] [] rfl rfl rfl rfl rfl rfl hl.1 rfl (Nat.le_of_ble_eq_true rfl) dL_isPassage_229 ⟨Nat.le_of_ble_eq_true rfl, Nat.le_of_ble_eq_true rfl⟩ (fun H locs hP hD hS => ?_)
              have hP : va_P E.1 vwCl (bl [HL_c E o qh qr qt qs qn fn fs ft gh u]) H := hP
              have hD : va_D A (bl [HL_c E o qh qr qt qs qn fn fs ft gh u]) := hD
              refine W.eq (g2 := F0 m 232 ls [.int q20]) rfl ?_
              refine lv_aload_n hx hb dL_isPassage_232 rfl (lv_at hl 0 rfl) ?_
              refine lv_iload hx hb dL_isPassage_233 (lv_at hl 9 rfl) ?_
              refine lv_iconst (v := 1) hx hb dL_isPassage_235 (by decide) ?_
              refine lv_iadd hx hb dL_isPassage_236 ?_
              refine lv_iconst (v := 0) hx hb dL_isPassage_237 (by decide) ?_
              obtain ⟨q21, h_q21, hF⟩ := bnd_s hF
              refine g_callV (As := [.int (x13 + 1), .int 0]) (rest := [.int q20]) ⟨hx, hb, hml, hown, hts⟩ hK hZ hA (c_X9_entry l E o qh qr qt qs qn fn fs ft gh u (x13 + 1) (0) q21 h_q21) (cwV 2 hts gL_isPassage_X9_entry rfl rfl rfl (by decide +kernel) ⟨Nat.le_of_ble_eq_true rfl, Nat.le_of_ble_eq_true rfl⟩) hP hD hS [0] [] rfl rfl rfl rfl rfl rfl hl.1 rfl (Nat.le_of_ble_eq_true rfl) dL_isPassage_238 ⟨Nat.le_of_ble_eq_true rfl, Nat.le_of_ble_eq_true rfl⟩ (fun H locs hP hD hS => ?_)
              have hP : va_P E.1 vwCl (bl [HL_c E o qh qr qt qs qn fn fs ft gh u]) H := hP
              have hD : va_D A (bl [HL_c E o qh qr qt qs qn fn fs ft gh u]) := hD
              refine W.eq (g2 := F0 m 241 ls [.int q21, .int q20]) rfl ?_
              refine f_icmp_le (tgt := 267) hx hb dL_isPassage_241 (by decide) hF (fun hF => ?_) (fun hF => ?_)
              · refine lv_iconst (v := 0) hx hb dL_isPassage_267 (by decide) ?_
                refine lv_istore (lv' := [(11, .int 0), (0, .ref o), (1, .int x1), (2, .int x2), (4, .long x4), (6, .int x6), (8, .int x8), (9, .int x9), (12, .int x12), (13, .int x13)]) hx hb dL_isPassage_268 hl (by decide) rfl (fun ls hl => ?_)
                refine lv_iinc (v := (x13 + 1)) (lv' := [(13, .int (x13 + 1)), (11, .int 0), (0, .ref o), (1, .int x1), (2, .int x2), (4, .long x4), (6, .int x6), (8, .int x8), (9, .int x9), (12, .int x12)]) hx hb dL_isPassage_270 hl (k := 9) rfl rfl (by decide) rfl (fun ls hl => ?_)
                refine lv_goto (tgt := 186) hx hb dL_isPassage_273 (by decide) ?_
                exact ih u x1 x2 x4 x6 x8 x9 0 x12 (x13 + 1) _ _ hP hD hS _ (lv_sub hl [2, 3, 4, 5, 6, 7, 8, 1, 9, 0] rfl) hF
              · refine lv_aload_n hx hb dL_isPassage_244 rfl (lv_at hl 0 rfl) ?_
                refine lv_iload hx hb dL_isPassage_245 (lv_at hl 9 rfl) ?_
                refine lv_iconst (v := 1) hx hb dL_isPassage_247 (by decide) ?_
                obtain ⟨q22, h_q22, hF⟩ := bnd_s hF
                refine g_callV (As := [.int x13, .int 1]) (rest := []) ⟨hx, hb, hml, hown, hts⟩ hK hZ hA (c_X9_entry l E o qh qr qt qs qn fn fs ft gh u x13 (1) q22 h_q22) (cwV 2 hts gL_isPassage_X9_entry rfl rfl rfl (by decide +kernel) ⟨Nat.le_of_ble_eq_true rfl, Nat.le_of_ble_eq_true rfl⟩) hP hD hS [0] [] rfl rfl rfl rfl rfl rfl hl.1 rfl (Nat.le_of_ble_eq_true rfl) dL_isPassage_248 ⟨Nat.le_of_ble_eq_true rfl, Nat.le_of_ble_eq_true rfl⟩ (fun H locs hP hD hS => ?_)
                have hP : va_P E.1 vwCl (bl [HL_c E o qh qr qt qs qn fn fs ft gh u]) H := hP
                have hD : va_D A (bl [HL_c E o qh qr qt qs qn fn fs ft gh u]) := hD
                refine W.eq (g2 := F0 m 251 ls [.int q22]) rfl ?_
                refine lv_aload_n hx hb dL_isPassage_251 rfl (lv_at hl 0 rfl) ?_
                refine lv_iload hx hb dL_isPassage_252 (lv_at hl 9 rfl) ?_
                refine lv_iconst (v := 1) hx hb dL_isPassage_254 (by decide) ?_
                refine lv_iadd hx hb dL_isPassage_255 ?_
                refine lv_iconst (v := 1) hx hb dL_isPassage_256 (by decide) ?_
                obtain ⟨q23, h_q23, hF⟩ := bnd_s hF
                refine g_callV (As := [.int (x13 + 1), .int 1]) (rest := [.int q22]) ⟨hx, hb, hml, hown, hts⟩ hK hZ hA (c_X9_entry l E o qh qr qt qs qn fn fs ft gh u (x13 + 1) (1) q23 h_q23) (cwV 2 hts gL_isPassage_X9_entry rfl rfl rfl (by decide +kernel) ⟨Nat.le_of_ble_eq_true rfl, Nat.le_of_ble_eq_true rfl⟩) hP hD hS [0] [] rfl rfl rfl rfl rfl rfl hl.1 rfl (Nat.le_of_ble_eq_true rfl) dL_isPassage_257 ⟨Nat.le_of_ble_eq_true rfl, Nat.le_of_ble_eq_true rfl⟩ (fun H locs hP hD hS => ?_)
                have hP : va_P E.1 vwCl (bl [HL_c E o qh qr qt qs qn fn fs ft gh u]) H := hP
                have hD : va_D A (bl [HL_c E o qh qr qt qs qn fn fs ft gh u]) := hD
                refine W.eq (g2 := F0 m 260 ls [.int q23, .int q22]) rfl ?_
                refine f_icmp_eq (tgt := 267) hx hb dL_isPassage_260 (by decide) hF (fun hF => ?_) (fun hF => ?_)
                · refine lv_iconst (v := 0) hx hb dL_isPassage_267 (by decide) ?_
                  refine lv_istore (lv' := [(11, .int 0), (0, .ref o), (1, .int x1), (2, .int x2), (4, .long x4), (6, .int x6), (8, .int x8), (9, .int x9), (12, .int x12), (13, .int x13)]) hx hb dL_isPassage_268 hl (by decide) rfl (fun ls hl => ?_)
                  refine lv_iinc (v := (x13 + 1)) (lv' := [(13, .int (x13 + 1)), (11, .int 0), (0, .ref o), (1, .int x1), (2, .int x2), (4, .long x4), (6, .int x6), (8, .int x8), (9, .int x9), (12, .int x12)]) hx hb dL_isPassage_270 hl (k := 9) rfl rfl (by decide) rfl (fun ls hl => ?_)
                  refine lv_goto (tgt := 186) hx hb dL_isPassage_273 (by decide) ?_
                  exact ih u x1 x2 x4 x6 x8 x9 0 x12 (x13 + 1) _ _ hP hD hS _ (lv_sub hl [2, 3, 4, 5, 6, 7, 8, 1, 9, 0] rfl) hF
                · refine lv_iconst (v := 1) hx hb dL_isPassage_263 (by decide) ?_
                  refine lv_goto (tgt := 268) hx hb dL_isPassage_264 (by decide) ?_
                  refine lv_istore (lv' := [(11, .int 1), (0, .ref o), (1, .int x1), (2, .int x2), (4, .long x4), (6, .int x6), (8, .int x8), (9, .int x9), (12, .int x12), (13, .int x13)]) hx hb dL_isPassage_268 hl (by decide) rfl (fun ls hl => ?_)
                  refine lv_iinc (v := (x13 + 1)) (lv' := [(13, .int (x13 + 1)), (11, .int 1), (0, .ref o), (1, .int x1), (2, .int x2), (4, .long x4), (6, .int x6), (8, .int x8), (9, .int x9), (12, .int x12)]) hx hb dL_isPassage_270 hl (k := 9) rfl rfl (by decide) rfl (fun ls hl => ?_)
                  refine lv_goto (tgt := 186) hx hb dL_isPassage_273 (by decide) ?_
                  exact ih u x1 x2 x4 x6 x8 x9 1 x12 (x13 + 1) _ _ hP hD hS _ (lv_sub hl [2, 3, 4, 5, 6, 7, 8, 1, 9, 0] rfl) hF
  unfold F_L_isPassage at hF
  refine lv_aload_n hx hb dL_isPassage_0 rfl (lv_at hl 0 rfl) ?_
  obtain ⟨q1, h_q1, hF⟩ := bnd_s hF
  refine g_callS (As := [.ref o]) (rest := []) ⟨hx, hb, hml, hown, hts⟩ hK hZ hA (c_L_print l E o qh qr qt qs qn fn fs ft gh n v q1 h_q1) (va_cwS 1 hts gL_isPassage_L_print rfl rfl rfl (by decide +kernel) ⟨Nat.le_of_ble_eq_true rfl, Nat.le_of_ble_eq_true rfl⟩) hP hD hS [0] [] rfl rfl rfl hl.1 rfl (Nat.le_of_ble_eq_true rfl) dL_isPassage_1 ⟨Nat.le_of_ble_eq_true rfl, Nat.le_of_ble_eq_true rfl⟩ (fun H locs hP hD hS => ?_)
  have hP : va_P E.1 vwCl (bl [HL_c E o qh qr qt qs qn fn fs ft gh q1.2]) H := hP
  have hD : va_D A (bl [HL_c E o qh qr qt qs qn fn fs ft gh q1.2]) := hD
  refine W.eq (g2 := F0 m 4 ls [.long q1.1]) rfl ?_
  refine lv_lstore (lv' := [(4, .long q1.1), (0, .ref o), (1, .int p0), (2, .int p1), (3, .int p2)]) hx hb dL_isPassage_4 hl (by decide) rfl (fun ls hl => ?_)
  refine lv_aload_n hx hb dL_isPassage_6 rfl (lv_at hl 1 rfl) ?_
  refine lv_iconst (v := 0) hx hb dL_isPassage_7 (by decide) ?_
  obtain ⟨q2, h_q2, hF⟩ := bnd_s hF
  refine g_callV (As := [.int 0]) (rest := []) ⟨hx, hb, hml, hown, hts⟩ hK hZ hA (c_X9_account l E o qh qr qt qs qn fn fs ft gh q1.2 (0) q2 h_q2) (cwV 1 hts gL_isPassage_X9_account rfl rfl rfl (by decide +kernel) ⟨Nat.le_of_ble_eq_true rfl, Nat.le_of_ble_eq_true rfl⟩) hP hD hS [0] [] rfl rfl rfl rfl rfl rfl hl.1 rfl (Nat.le_of_ble_eq_true rfl) dL_isPassage_8 ⟨Nat.le_of_ble_eq_true rfl, Nat.le_of_ble_eq_true rfl⟩ (fun H locs hP hD hS => ?_)
  have hP : va_P E.1 vwCl (bl [HL_c E o qh qr qt qs qn fn fs ft gh q1.2]) H := hP
  have hD : va_D A (bl [HL_c E o qh qr qt qs qn fn fs ft gh q1.2]) := hD
  refine W.eq (g2 := F0 m 11 ls [.int q2]) rfl ?_
  refine lv_istore (lv' := [(6, .int q2), (4, .long q1.1), (0, .ref o), (1, .int p0), (2, .int p1), (3, .int p2)]) hx hb dL_isPassage_11 hl (by decide) rfl (fun ls hl => ?_)
  refine lv_aload_n hx hb dL_isPassage_13 rfl (lv_at hl 2 rfl) ?_
  refine lv_bipush (v := 7) hx hb dL_isPassage_14 (by decide) ?_
  obtain ⟨q3, h_q3, hF⟩ := bnd_s hF
  refine g_callV (As := [.int 7]) (rest := []) ⟨hx, hb, hml, hown, hts⟩ hK hZ hA (c_X9_account l E o qh qr qt qs qn fn fs ft gh q1.2 (7) q3 h_q3) (cwV 1 hts gL_isPassage_X9_account rfl rfl rfl (by decide +kernel) ⟨Nat.le_of_ble_eq_true rfl, Nat.le_of_ble_eq_true rfl⟩) hP hD hS [0] [] rfl rfl rfl rfl rfl rfl hl.1 rfl (Nat.le_of_ble_eq_true rfl) dL_isPassage_16 ⟨Nat.le_of_ble_eq_true rfl, Nat.le_of_ble_eq_true rfl⟩ (fun H locs hP hD hS => ?_)
  have hP : va_P E.1 vwCl (bl [HL_c E o qh qr qt qs qn fn fs ft gh q1.2]) H := hP
  have hD : va_D A (bl [HL_c E o qh qr qt qs qn fn fs ft gh q1.2]) := hD
  refine W.eq (g2 := F0 m 19 ls [.int q3]) rfl ?_
  refine lv_istore (lv' := [(7, .int q3), (6, .int q2), (4, .long q1.1), (0, .ref o), (1, .int p0), (2, .int p1), (3, .int p2)]) hx hb dL_isPassage_19 hl (by decide) rfl (fun ls hl => ?_)
  refine lv_aload_n hx hb dL_isPassage_21 rfl (lv_at hl 3 rfl) ?_
  refine lv_iload_n hx hb dL_isPassage_22 rfl (lv_at hl 4 rfl) ?_
  refine lv_iload_n hx hb dL_isPassage_23 rfl (lv_at hl 5 rfl) ?_
  obtain ⟨q4, h_q4, hF⟩ := bnd_s hF
  refine g_callV (As := [.int p0, .int p1]) (rest := []) ⟨hx, hb, hml, hown, hts⟩ hK hZ hA (c_X9_sees l E o qh qr qt qs qn fn fs ft gh n q1.2 p0 p1 q4 h_q4) (cwV 2 hts gL_isPassage_X9_sees rfl rfl rfl (by decide +kernel) ⟨Nat.le_of_ble_eq_true rfl, Nat.le_of_ble_eq_true rfl⟩) hP hD hS [0] [] rfl rfl rfl rfl rfl rfl hl.1 rfl (Nat.le_of_ble_eq_true rfl) dL_isPassage_24 ⟨Nat.le_of_ble_eq_true rfl, Nat.le_of_ble_eq_true rfl⟩ (fun H locs hP hD hS => ?_)
  have hP : va_P E.1 vwCl (bl [HL_c E o qh qr qt qs qn fn fs ft gh q4.2]) H := hP
  have hD : va_D A (bl [HL_c E o qh qr qt qs qn fn fs ft gh q4.2]) := hD
  refine W.eq (g2 := F0 m 27 ls [.int q4.1]) rfl ?_
  refine lv_istore (lv' := [(8, .int q4.1), (7, .int q3), (6, .int q2), (4, .long q1.1), (0, .ref o), (1, .int p0), (2, .int p1), (3, .int p2)]) hx hb dL_isPassage_27 hl (by decide) rfl (fun ls hl => ?_)
  refine lv_aload_n hx hb dL_isPassage_29 rfl (lv_at hl 4 rfl) ?_
  refine lv_iload_n hx hb dL_isPassage_30 rfl (lv_at hl 5 rfl) ?_
  refine lv_iload_n hx hb dL_isPassage_31 rfl (lv_at hl 6 rfl) ?_
  refine lv_iload_n hx hb dL_isPassage_32 rfl (lv_at hl 6 rfl) ?_
  refine lv_iload_n hx hb dL_isPassage_33 rfl (lv_at hl 5 rfl) ?_
  refine lv_iload_n hx hb dL_isPassage_34 rfl (lv_at hl 7 rfl) ?_
  obtain ⟨q5, h_q5, hF⟩ := bnd_s hF
  refine g_callV (As := [.int p0, .int p1, .int p1, .int p0, .int p2]) (rest := []) ⟨hx, hb, hml, hown, hts⟩ hK hZ hA (c_X9_pass l E o qh qr qt qs qn fn fs ft gh n q4.2 p0 p1 p1 p0 p2 q5 h_q5) (cwV 5 hts gL_isPassage_X9_pass rfl rfl rfl (by decide +kernel) ⟨Nat.le_of_ble_eq_true rfl, Nat.le_of_ble_eq_true rfl⟩) hP hD hS [0] [] rfl rfl rfl rfl rfl rfl hl.1 rfl (Nat.le_of_ble_eq_true rfl) dL_isPassage_35 ⟨Nat.le_of_ble_eq_true rfl, Nat.le_of_ble_eq_true rfl⟩ (fun H locs hP hD hS => ?_)
  have hP : va_P E.1 vwCl (bl [HL_c E o qh qr qt qs qn fn fs ft gh q5.2]) H := hP
  have hD : va_D A (bl [HL_c E o qh qr qt qs qn fn fs ft gh q5.2]) := hD
  refine W.eq (g2 := F0 m 38 ls [.int q5.1]) rfl ?_
  refine lv_istore (lv' := [(9, .int q5.1), (8, .int q4.1), (7, .int q3), (6, .int q2), (4, .long q1.1), (0, .ref o), (1, .int p0), (2, .int p1), (3, .int p2)]) hx hb dL_isPassage_38 hl (by decide) rfl (fun ls hl => ?_)
  refine lv_iload hx hb dL_isPassage_40 (lv_at hl 0 rfl) ?_
  refine lv_bipush (v := (-3)) hx hb dL_isPassage_42 (by decide) ?_
  refine f_icmp_ne (tgt := 63) hx hb dL_isPassage_44 (by decide) hF (fun hF => ?_) (fun hF => ?_)
  · refine lv_aload_n hx hb dL_isPassage_63 rfl (lv_at hl 5 rfl) ?_
    refine lv_iconst (v := 0) hx hb dL_isPassage_64 (by decide) ?_
    obtain ⟨q6, h_q6, hF⟩ := bnd_s hF
    refine g_callV (As := [.int 0]) (rest := []) ⟨hx, hb, hml, hown, hts⟩ hK hZ hA (c_X9_seen l E o qh qr qt qs qn fn fs ft gh q5.2 (0) q6 h_q6) (cwV 1 hts gL_isPassage_X9_seen rfl rfl rfl (by decide +kernel) ⟨Nat.le_of_ble_eq_true rfl, Nat.le_of_ble_eq_true rfl⟩) hP hD hS [0] [] rfl rfl rfl rfl rfl rfl hl.1 rfl (Nat.le_of_ble_eq_true rfl) dL_isPassage_65 ⟨Nat.le_of_ble_eq_true rfl, Nat.le_of_ble_eq_true rfl⟩ (fun H locs hP hD hS => ?_)
    have hP : va_P E.1 vwCl (bl [HL_c E o qh qr qt qs qn fn fs ft gh q5.2]) H := hP
    have hD : va_D A (bl [HL_c E o qh qr qt qs qn fn fs ft gh q5.2]) := hD
    refine W.eq (g2 := F0 m 68 ls [.int q6]) rfl ?_
    refine lv_aload_n hx hb dL_isPassage_68 rfl (lv_at hl 5 rfl) ?_
    refine lv_iconst (v := 1) hx hb dL_isPassage_69 (by decide) ?_
    obtain ⟨q7, h_q7, hF⟩ := bnd_s hF
    refine g_callV (As := [.int 1]) (rest := [.int q6]) ⟨hx, hb, hml, hown, hts⟩ hK hZ hA (c_X9_seen l E o qh qr qt qs qn fn fs ft gh q5.2 (1) q7 h_q7) (cwV 1 hts gL_isPassage_X9_seen rfl rfl rfl (by decide +kernel) ⟨Nat.le_of_ble_eq_true rfl, Nat.le_of_ble_eq_true rfl⟩) hP hD hS [0] [] rfl rfl rfl rfl rfl rfl hl.1 rfl (Nat.le_of_ble_eq_true rfl) dL_isPassage_70 ⟨Nat.le_of_ble_eq_true rfl, Nat.le_of_ble_eq_true rfl⟩ (fun H locs hP hD hS => ?_)
    have hP : va_P E.1 vwCl (bl [HL_c E o qh qr qt qs qn fn fs ft gh q5.2]) H := hP
    have hD : va_D A (bl [HL_c E o qh qr qt qs qn fn fs ft gh q5.2]) := hD
    refine W.eq (g2 := F0 m 73 ls [.int q7, .int q6]) rfl ?_
    refine lv_iadd hx hb dL_isPassage_73 ?_
    refine lv_aload_n hx hb dL_isPassage_74 rfl (lv_at hl 5 rfl) ?_
    refine lv_iconst (v := 2) hx hb dL_isPassage_75 (by decide) ?_
    obtain ⟨q8, h_q8, hF⟩ := bnd_s hF
    refine g_callV (As := [.int 2]) (rest := [.int (q6 + q7)]) ⟨hx, hb, hml, hown, hts⟩ hK hZ hA (c_X9_seen l E o qh qr qt qs qn fn fs ft gh q5.2 (2) q8 h_q8) (cwV 1 hts gL_isPassage_X9_seen rfl rfl rfl (by decide +kernel) ⟨Nat.le_of_ble_eq_true rfl, Nat.le_of_ble_eq_true rfl⟩) hP hD hS [0] [] rfl rfl rfl rfl rfl rfl hl.1 rfl (Nat.le_of_ble_eq_true rfl) dL_isPassage_76 ⟨Nat.le_of_ble_eq_true rfl, Nat.le_of_ble_eq_true rfl⟩ (fun H locs hP hD hS => ?_)
    have hP : va_P E.1 vwCl (bl [HL_c E o qh qr qt qs qn fn fs ft gh q5.2]) H := hP
    have hD : va_D A (bl [HL_c E o qh qr qt qs qn fn fs ft gh q5.2]) := hD
    refine W.eq (g2 := F0 m 79 ls [.int q8, .int (q6 + q7)]) rfl ?_
    refine lv_iadd hx hb dL_isPassage_79 ?_
    refine lv_aload_n hx hb dL_isPassage_80 rfl (lv_at hl 5 rfl) ?_
    refine lv_iconst (v := 3) hx hb dL_isPassage_81 (by decide) ?_
    obtain ⟨q9, h_q9, hF⟩ := bnd_s hF
    refine g_callV (As := [.int 3]) (rest := [.int ((q6 + q7) + q8)]) ⟨hx, hb, hml, hown, hts⟩ hK hZ hA (c_X9_seen l E o qh qr qt qs qn fn fs ft gh q5.2 (3) q9 h_q9) (cwV 1 hts gL_isPassage_X9_seen rfl rfl rfl (by decide +kernel) ⟨Nat.le_of_ble_eq_true rfl, Nat.le_of_ble_eq_true rfl⟩) hP hD hS [0] [] rfl rfl rfl rfl rfl rfl hl.1 rfl (Nat.le_of_ble_eq_true rfl) dL_isPassage_82 ⟨Nat.le_of_ble_eq_true rfl, Nat.le_of_ble_eq_true rfl⟩ (fun H locs hP hD hS => ?_)
    have hP : va_P E.1 vwCl (bl [HL_c E o qh qr qt qs qn fn fs ft gh q5.2]) H := hP
    have hD : va_D A (bl [HL_c E o qh qr qt qs qn fn fs ft gh q5.2]) := hD
    refine W.eq (g2 := F0 m 85 ls [.int q9, .int ((q6 + q7) + q8)]) rfl ?_
    refine lv_iadd hx hb dL_isPassage_85 ?_
    refine lv_istore (lv' := [(10, .int (((q6 + q7) + q8) + q9)), (9, .int q5.1), (8, .int q4.1), (7, .int q3), (6, .int q2), (4, .long q1.1), (0, .ref o), (1, .int p0), (2, .int p1), (3, .int p2)]) hx hb dL_isPassage_86 hl (by decide) rfl (fun ls hl => ?_)
    refine lv_iload hx hb dL_isPassage_88 (lv_at hl 1 rfl) ?_
    refine f_if_le (tgt := 164) hx hb dL_isPassage_90 (by decide) hF (fun hF => ?_) (fun hF => ?_)
    · refine lv_iconst (v := 0) hx hb dL_isPassage_164 (by decide) ?_
      refine lv_istore (lv' := [(11, .int 0), (10, .int (((q6 + q7) + q8) + q9)), (9, .int q5.1), (8, .int q4.1), (7, .int q3), (6, .int q2), (4, .long q1.1), (0, .ref o), (1, .int p0), (2, .int p1), (3, .int p2)]) hx hb dL_isPassage_165 hl (by decide) rfl (fun ls hl => ?_)
      refine lv_iload hx hb dL_isPassage_167 (lv_at hl 2 rfl) ?_
      refine lv_bipush (v := 40) hx hb dL_isPassage_169 (by decide) ?_
      refine f_icmp_le (tgt := 179) hx hb dL_isPassage_171 (by decide) hF (fun hF => ?_) (fun hF => ?_)
      · refine lv_iload hx hb dL_isPassage_179 (lv_at hl 2 rfl) ?_
        refine lv_istore (lv' := [(12, .int q5.1), (11, .int 0), (10, .int (((q6 + q7) + q8) + q9)), (9, .int q5.1), (8, .int q4.1), (7, .int q3), (6, .int q2), (4, .long q1.1), (0, .ref o), (1, .int p0), (2, .int p1), (3, .int p2)]) hx hb dL_isPassage_181 hl (by decide) rfl (fun ls hl => ?_)
        refine lv_iconst (v := 0) hx hb dL_isPassage_183 (by decide) ?_
        refine lv_istore (lv' := [(13, .int 0), (12, .int q5.1), (11, .int 0), (10, .int (((q6 + q7) + q8) + q9)), (9, .int q5.1), (8, .int q4.1), (7, .int q3), (6, .int q2), (4, .long q1.1), (0, .ref o), (1, .int p0), (2, .int p1), (3, .int p2)]) hx hb dL_isPassage_184 hl (by decide) rfl (fun ls hl => ?_)
        exact hL186 n q5.2 p0 p1 q1.1 q2 q4.1 q5.1 0 q5.1 0 _ _ hP hD hS _ (lv_sub hl [9, 10, 11, 8, 7, 5, 4, 2, 1, 0] rfl) hF
      · refine lv_bipush (v := 40) hx hb dL_isPassage_174 (by decide) ?_
        refine lv_goto (tgt := 181) hx hb dL_isPassage_176 (by decide) ?_
        refine lv_istore (lv' := [(12, .int 40), (11, .int 0), (10, .int (((q6 + q7) + q8) + q9)), (9, .int q5.1), (8, .int q4.1), (7, .int q3), (6, .int q2), (4, .long q1.1), (0, .ref o), (1, .int p0), (2, .int p1), (3, .int p2)]) hx hb dL_isPassage_181 hl (by decide) rfl (fun ls hl => ?_)
        refine lv_iconst (v := 0) hx hb dL_isPassage_183 (by decide) ?_
        refine lv_istore (lv' := [(13, .int 0), (12, .int 40), (11, .int 0), (10, .int (((q6 + q7) + q8) + q9)), (9, .int q5.1), (8, .int q4.1), (7, .int q3), (6, .int q2), (4, .long q1.1), (0, .ref o), (1, .int p0), (2, .int p1), (3, .int p2)]) hx hb dL_isPassage_184 hl (by decide) rfl (fun ls hl => ?_)
        exact hL186 n q5.2 p0 p1 q1.1 q2 q4.1 q5.1 0 40 0 _ _ hP hD hS _ (lv_sub hl [9, 10, 11, 8, 7, 5, 4, 2, 1, 0] rfl) hF
    · refine lv_iload hx hb dL_isPassage_93 (lv_at hl 1 rfl) ?_
      refine lv_iload_n hx hb dL_isPassage_95 rfl (lv_at hl 9 rfl) ?_
      refine f_icmp_gt (tgt := 164) hx hb dL_isPassage_96 (by decide) hF (fun hF => ?_) (fun hF => ?_)
      · refine lv_iconst (v := 0) hx hb dL_isPassage_164 (by decide) ?_
        refine lv_istore (lv' := [(11, .int 0), (10, .int (((q6 + q7) + q8) + q9)), (9, .int q5.1), (8, .int q4.1), (7, .int q3), (6, .int q2), (4, .long q1.1), (0, .ref o), (1, .int p0), (2, .int p1), (3, .int p2)]) hx hb dL_isPassage_165 hl (by decide) rfl (fun ls hl => ?_)
        refine lv_iload hx hb dL_isPassage_167 (lv_at hl 2 rfl) ?_
        refine lv_bipush (v := 40) hx hb dL_isPassage_169 (by decide) ?_
        refine f_icmp_le (tgt := 179) hx hb dL_isPassage_171 (by decide) hF (fun hF => ?_) (fun hF => ?_)
        · refine lv_iload hx hb dL_isPassage_179 (lv_at hl 2 rfl) ?_
          refine lv_istore (lv' := [(12, .int q5.1), (11, .int 0), (10, .int (((q6 + q7) + q8) + q9)), (9, .int q5.1), (8, .int q4.1), (7, .int q3), (6, .int q2), (4, .long q1.1), (0, .ref o), (1, .int p0), (2, .int p1), (3, .int p2)]) hx hb dL_isPassage_181 hl (by decide) rfl (fun ls hl => ?_)
          refine lv_iconst (v := 0) hx hb dL_isPassage_183 (by decide) ?_
          refine lv_istore (lv' := [(13, .int 0), (12, .int q5.1), (11, .int 0), (10, .int (((q6 + q7) + q8) + q9)), (9, .int q5.1), (8, .int q4.1), (7, .int q3), (6, .int q2), (4, .long q1.1), (0, .ref o), (1, .int p0), (2, .int p1), (3, .int p2)]) hx hb dL_isPassage_184 hl (by decide) rfl (fun ls hl => ?_)
          exact hL186 n q5.2 p0 p1 q1.1 q2 q4.1 q5.1 0 q5.1 0 _ _ hP hD hS _ (lv_sub hl [9, 10, 11, 8, 7, 5, 4, 2, 1, 0] rfl) hF
        · refine lv_bipush (v := 40) hx hb dL_isPassage_174 (by decide) ?_
          refine lv_goto (tgt := 181) hx hb dL_isPassage_176 (by decide) ?_
          refine lv_istore (lv' := [(12, .int 40), (11, .int 0), (10, .int (((q6 + q7) + q8) + q9)), (9, .int q5.1), (8, .int q4.1), (7, .int q3), (6, .int q2), (4, .long q1.1), (0, .ref o), (1, .int p0), (2, .int p1), (3, .int p2)]) hx hb dL_isPassage_181 hl (by decide) rfl (fun ls hl => ?_)
          refine lv_iconst (v := 0) hx hb dL_isPassage_183 (by decide) ?_
          refine lv_istore (lv' := [(13, .int 0), (12, .int 40), (11, .int 0), (10, .int (((q6 + q7) + q8) + q9)), (9, .int q5.1), (8, .int q4.1), (7, .int q3), (6, .int q2), (4, .long q1.1), (0, .ref o), (1, .int p0), (2, .int p1), (3, .int p2)]) hx hb dL_isPassage_184 hl (by decide) rfl (fun ls hl => ?_)
          exact hL186 n q5.2 p0 p1 q1.1 q2 q4.1 q5.1 0 40 0 _ _ hP hD hS _ (lv_sub hl [9, 10, 11, 8, 7, 5, 4, 2, 1, 0] rfl) hF
      · refine lv_iload hx hb dL_isPassage_99 (lv_at hl 0 rfl) ?_
        refine lv_iload_n hx hb dL_isPassage_101 rfl (lv_at hl 9 rfl) ?_
        refine f_icmp_ne (tgt := 164) hx hb dL_isPassage_102 (by decide) hF (fun hF => ?_) (fun hF => ?_)
        · refine lv_iconst (v := 0) hx hb dL_isPassage_164 (by decide) ?_
          refine lv_istore (lv' := [(11, .int 0), (10, .int (((q6 + q7) + q8) + q9)), (9, .int q5.1), (8, .int q4.1), (7, .int q3), (6, .int q2), (4, .long q1.1), (0, .ref o), (1, .int p0), (2, .int p1), (3, .int p2)]) hx hb dL_isPassage_165 hl (by decide) rfl (fun ls hl => ?_)
          refine lv_iload hx hb dL_isPassage_167 (lv_at hl 2 rfl) ?_
          refine lv_bipush (v := 40) hx hb dL_isPassage_169 (by decide) ?_
          refine f_icmp_le (tgt := 179) hx hb dL_isPassage_171 (by decide) hF (fun hF => ?_) (fun hF => ?_)
          · refine lv_iload hx hb dL_isPassage_179 (lv_at hl 2 rfl) ?_
            refine lv_istore (lv' := [(12, .int q5.1), (11, .int 0), (10, .int (((q6 + q7) + q8) + q9)), (9, .int q5.1), (8, .int q4.1), (7, .int q3), (6, .int q2), (4, .long q1.1), (0, .ref o), (1, .int p0), (2, .int p1), (3, .int p2)]) hx hb dL_isPassage_181 hl (by decide) rfl (fun ls hl => ?_)
            refine lv_iconst (v := 0) hx hb dL_isPassage_183 (by decide) ?_
            refine lv_istore (lv' := [(13, .int 0), (12, .int q5.1), (11, .int 0), (10, .int (((q6 + q7) + q8) + q9)), (9, .int q5.1), (8, .int q4.1), (7, .int q3), (6, .int q2), (4, .long q1.1), (0, .ref o), (1, .int p0), (2, .int p1), (3, .int p2)]) hx hb dL_isPassage_184 hl (by decide) rfl (fun ls hl => ?_)
            exact hL186 n q5.2 p0 p1 q1.1 q2 q4.1 q5.1 0 q5.1 0 _ _ hP hD hS _ (lv_sub hl [9, 10, 11, 8, 7, 5, 4, 2, 1, 0] rfl) hF
          · refine lv_bipush (v := 40) hx hb dL_isPassage_174 (by decide) ?_
            refine lv_goto (tgt := 181) hx hb dL_isPassage_176 (by decide) ?_
            refine lv_istore (lv' := [(12, .int 40), (11, .int 0), (10, .int (((q6 + q7) + q8) + q9)), (9, .int q5.1), (8, .int q4.1), (7, .int q3), (6, .int q2), (4, .long q1.1), (0, .ref o), (1, .int p0), (2, .int p1), (3, .int p2)]) hx hb dL_isPassage_181 hl (by decide) rfl (fun ls hl => ?_)
            refine lv_iconst (v := 0) hx hb dL_isPassage_183 (by decide) ?_
            refine lv_istore (lv' := [(13, .int 0), (12, .int 40), (11, .int 0), (10, .int (((q6 + q7) + q8) + q9)), (9, .int q5.1), (8, .int q4.1), (7, .int q3), (6, .int q2), (4, .long q1.1), (0, .ref o), (1, .int p0), (2, .int p1), (3, .int p2)]) hx hb dL_isPassage_184 hl (by decide) rfl (fun ls hl => ?_)
            exact hL186 n q5.2 p0 p1 q1.1 q2 q4.1 q5.1 0 40 0 _ _ hP hD hS _ (lv_sub hl [9, 10, 11, 8, 7, 5, 4, 2, 1, 0] rfl) hF
        · refine lv_aload_n hx hb dL_isPassage_105 rfl (lv_at hl 6 rfl) ?_
          refine lv_iconst (v := 0) hx hb dL_isPassage_106 (by decide) ?_
          obtain ⟨q24, h_q24, hF⟩ := bnd_s hF
          refine g_callV (As := [.int 0]) (rest := []) ⟨hx, hb, hml, hown, hts⟩ hK hZ hA (c_X9_account l E o qh qr qt qs qn fn fs ft gh q5.2 (0) q24 h_q24) (cwV 1 hts gL_isPassage_X9_account rfl rfl rfl (by decide +kernel) ⟨Nat.le_of_ble_eq_true rfl, Nat.le_of_ble_eq_true rfl⟩) hP hD hS [0] [] rfl rfl rfl rfl rfl rfl hl.1 rfl (Nat.le_of_ble_eq_true rfl) dL_isPassage_107 ⟨Nat.le_of_ble_eq_true rfl, Nat.le_of_ble_eq_true rfl⟩ (fun H locs hP hD hS => ?_)
          have hP : va_P E.1 vwCl (bl [HL_c E o qh qr qt qs qn fn fs ft gh q5.2]) H := hP
          have hD : va_D A (bl [HL_c E o qh qr qt qs qn fn fs ft gh q5.2]) := hD
          refine W.eq (g2 := F0 m 110 ls [.int q24]) rfl ?_
          refine lv_iload hx hb dL_isPassage_110 (lv_at hl 4 rfl) ?_
          refine lv_iload_n hx hb dL_isPassage_112 rfl (lv_at hl 9 rfl) ?_
          refine lv_iadd hx hb dL_isPassage_113 ?_
          refine f_icmp_ne (tgt := 164) hx hb dL_isPassage_114 (by decide) hF (fun hF => ?_) (fun hF => ?_)
          · refine lv_iconst (v := 0) hx hb dL_isPassage_164 (by decide) ?_
            refine lv_istore (lv' := [(11, .int 0), (10, .int (((q6 + q7) + q8) + q9)), (9, .int q5.1), (8, .int q4.1), (7, .int q3), (6, .int q2), (4, .long q1.1), (0, .ref o), (1, .int p0), (2, .int p1), (3, .int p2)]) hx hb dL_isPassage_165 hl (by decide) rfl (fun ls hl => ?_)
            refine lv_iload hx hb dL_isPassage_167 (lv_at hl 2 rfl) ?_
            refine lv_bipush (v := 40) hx hb dL_isPassage_169 (by decide) ?_
            refine f_icmp_le (tgt := 179) hx hb dL_isPassage_171 (by decide) hF (fun hF => ?_) (fun hF => ?_)
            · refine lv_iload hx hb dL_isPassage_179 (lv_at hl 2 rfl) ?_
              refine lv_istore (lv' := [(12, .int q5.1), (11, .int 0), (10, .int (((q6 + q7) + q8) + q9)), (9, .int q5.1), (8, .int q4.1), (7, .int q3), (6, .int q2), (4, .long q1.1), (0, .ref o), (1, .int p0), (2, .int p1), (3, .int p2)]) hx hb dL_isPassage_181 hl (by decide) rfl (fun ls hl => ?_)
              refine lv_iconst (v := 0) hx hb dL_isPassage_183 (by decide) ?_
              refine lv_istore (lv' := [(13, .int 0), (12, .int q5.1), (11, .int 0), (10, .int (((q6 + q7) + q8) + q9)), (9, .int q5.1), (8, .int q4.1), (7, .int q3), (6, .int q2), (4, .long q1.1), (0, .ref o), (1, .int p0), (2, .int p1), (3, .int p2)]) hx hb dL_isPassage_184 hl (by decide) rfl (fun ls hl => ?_)
              exact hL186 n q5.2 p0 p1 q1.1 q2 q4.1 q5.1 0 q5.1 0 _ _ hP hD hS _ (lv_sub hl [9, 10, 11, 8, 7, 5, 4, 2, 1, 0] rfl) hF
            · refine lv_bipush (v := 40) hx hb dL_isPassage_174 (by decide) ?_
              refine lv_goto (tgt := 181) hx hb dL_isPassage_176 (by decide) ?_
              refine lv_istore (lv' := [(12, .int 40), (11, .int 0), (10, .int (((q6 + q7) + q8) + q9)), (9, .int q5.1), (8, .int q4.1), (7, .int q3), (6, .int q2), (4, .long q1.1), (0, .ref o), (1, .int p0), (2, .int p1), (3, .int p2)]) hx hb dL_isPassage_181 hl (by decide) rfl (fun ls hl => ?_)
              refine lv_iconst (v := 0) hx hb dL_isPassage_183 (by decide) ?_
              refine lv_istore (lv' := [(13, .int 0), (12, .int 40), (11, .int 0), (10, .int (((q6 + q7) + q8) + q9)), (9, .int q5.1), (8, .int q4.1), (7, .int q3), (6, .int q2), (4, .long q1.1), (0, .ref o), (1, .int p0), (2, .int p1), (3, .int p2)]) hx hb dL_isPassage_184 hl (by decide) rfl (fun ls hl => ?_)
              exact hL186 n q5.2 p0 p1 q1.1 q2 q4.1 q5.1 0 40 0 _ _ hP hD hS _ (lv_sub hl [9, 10, 11, 8, 7, 5, 4, 2, 1, 0] rfl) hF
          · refine lv_aload_n hx hb dL_isPassage_117 rfl (lv_at hl 6 rfl) ?_
            refine lv_bipush (v := 7) hx hb dL_isPassage_118 (by decide) ?_
            obtain ⟨q25, h_q25, hF⟩ := bnd_s hF
            refine g_callV (As := [.int 7]) (rest := []) ⟨hx, hb, hml, hown, hts⟩ hK hZ hA (c_X9_account l E o qh qr qt qs qn fn fs ft gh q5.2 (7) q25 h_q25) (cwV 1 hts gL_isPassage_X9_account rfl rfl rfl (by decide +kernel) ⟨Nat.le_of_ble_eq_true rfl, Nat.le_of_ble_eq_true rfl⟩) hP hD hS [0] [] rfl rfl rfl rfl rfl rfl hl.1 rfl (Nat.le_of_ble_eq_true rfl) dL_isPassage_120 ⟨Nat.le_of_ble_eq_true rfl, Nat.le_of_ble_eq_true rfl⟩ (fun H locs hP hD hS => ?_)
            have hP : va_P E.1 vwCl (bl [HL_c E o qh qr qt qs qn fn fs ft gh q5.2]) H := hP
            have hD : va_D A (bl [HL_c E o qh qr qt qs qn fn fs ft gh q5.2]) := hD
            refine W.eq (g2 := F0 m 123 ls [.int q25]) rfl ?_
            refine lv_iload hx hb dL_isPassage_123 (lv_at hl 3 rfl) ?_
            refine lv_iload hx hb dL_isPassage_125 (lv_at hl 1 rfl) ?_
            refine lv_iadd hx hb dL_isPassage_127 ?_
            refine f_icmp_ne (tgt := 164) hx hb dL_isPassage_128 (by decide) hF (fun hF => ?_) (fun hF => ?_)
            · refine lv_iconst (v := 0) hx hb dL_isPassage_164 (by decide) ?_
              refine lv_istore (lv' := [(11, .int 0), (10, .int (((q6 + q7) + q8) + q9)), (9, .int q5.1), (8, .int q4.1), (7, .int q3), (6, .int q2), (4, .long q1.1), (0, .ref o), (1, .int p0), (2, .int p1), (3, .int p2)]) hx hb dL_isPassage_165 hl (by decide) rfl (fun ls hl => ?_)
              refine lv_iload hx hb dL_isPassage_167 (lv_at hl 2 rfl) ?_
              refine lv_bipush (v := 40) hx hb dL_isPassage_169 (by decide) ?_
              refine f_icmp_le (tgt := 179) hx hb dL_isPassage_171 (by decide) hF (fun hF => ?_) (fun hF => ?_)
              · refine lv_iload hx hb dL_isPassage_179 (lv_at hl 2 rfl) ?_
                refine lv_istore (lv' := [(12, .int q5.1), (11, .int 0), (10, .int (((q6 + q7) + q8) + q9)), (9, .int q5.1), (8, .int q4.1), (7, .int q3), (6, .int q2), (4, .long q1.1), (0, .ref o), (1, .int p0), (2, .int p1), (3, .int p2)]) hx hb dL_isPassage_181 hl (by decide) rfl (fun ls hl => ?_)
                refine lv_iconst (v := 0) hx hb dL_isPassage_183 (by decide) ?_
                refine lv_istore (lv' := [(13, .int 0), (12, .int q5.1), (11, .int 0), (10, .int (((q6 + q7) + q8) + q9)), (9, .int q5.1), (8, .int q4.1), (7, .int q3), (6, .int q2), (4, .long q1.1), (0, .ref o), (1, .int p0), (2, .int p1), (3, .int p2)]) hx hb dL_isPassage_184 hl (by decide) rfl (fun ls hl => ?_)
                exact hL186 n q5.2 p0 p1 q1.1 q2 q4.1 q5.1 0 q5.1 0 _ _ hP hD hS _ (lv_sub hl [9, 10, 11, 8, 7, 5, 4, 2, 1, 0] rfl) hF
              · refine lv_bipush (v := 40) hx hb dL_isPassage_174 (by decide) ?_
                refine lv_goto (tgt := 181) hx hb dL_isPassage_176 (by decide) ?_
                refine lv_istore (lv' := [(12, .int 40), (11, .int 0), (10, .int (((q6 + q7) + q8) + q9)), (9, .int q5.1), (8, .int q4.1), (7, .int q3), (6, .int q2), (4, .long q1.1), (0, .ref o), (1, .int p0), (2, .int p1), (3, .int p2)]) hx hb dL_isPassage_181 hl (by decide) rfl (fun ls hl => ?_)
                refine lv_iconst (v := 0) hx hb dL_isPassage_183 (by decide) ?_
                refine lv_istore (lv' := [(13, .int 0), (12, .int 40), (11, .int 0), (10, .int (((q6 + q7) + q8) + q9)), (9, .int q5.1), (8, .int q4.1), (7, .int q3), (6, .int q2), (4, .long q1.1), (0, .ref o), (1, .int p0), (2, .int p1), (3, .int p2)]) hx hb dL_isPassage_184 hl (by decide) rfl (fun ls hl => ?_)
                exact hL186 n q5.2 p0 p1 q1.1 q2 q4.1 q5.1 0 40 0 _ _ hP hD hS _ (lv_sub hl [9, 10, 11, 8, 7, 5, 4, 2, 1, 0] rfl) hF
            · refine lv_aload_n hx hb dL_isPassage_131 rfl (lv_at hl 6 rfl) ?_
              refine lv_bipush (v := 8) hx hb dL_isPassage_132 (by decide) ?_
              obtain ⟨q26, h_q26, hF⟩ := bnd_s hF
              refine g_callV (As := [.int 8]) (rest := []) ⟨hx, hb, hml, hown, hts⟩ hK hZ hA (c_X9_count l E o qh qr qt qs qn fn fs ft gh n q5.2 (8) q26 h_q26) (cwV 1 hts gL_isPassage_X9_count rfl rfl rfl (by decide +kernel) ⟨Nat.le_of_ble_eq_true rfl, Nat.le_of_ble_eq_true rfl⟩) hP hD hS [0] [] rfl rfl rfl rfl rfl rfl hl.1 rfl (Nat.le_of_ble_eq_true rfl) dL_isPassage_134 ⟨Nat.le_of_ble_eq_true rfl, Nat.le_of_ble_eq_true rfl⟩ (fun H locs hP hD hS => ?_)
              have hP : va_P E.1 vwCl (bl [HL_c E o qh qr qt qs qn fn fs ft gh q5.2]) H := hP
              have hD : va_D A (bl [HL_c E o qh qr qt qs qn fn fs ft gh q5.2]) := hD
              refine W.eq (g2 := F0 m 137 ls [.int q26]) rfl ?_
              refine lv_iload hx hb dL_isPassage_137 (lv_at hl 3 rfl) ?_
              refine lv_iload hx hb dL_isPassage_139 (lv_at hl 1 rfl) ?_
              refine lv_iadd hx hb dL_isPassage_141 ?_
              refine lv_bipush (v := 40) hx hb dL_isPassage_142 (by decide) ?_
              refine f_icmp_le (tgt := 152) hx hb dL_isPassage_144 (by decide) hF (fun hF => ?_) (fun hF => ?_)
              · refine lv_iload hx hb dL_isPassage_152 (lv_at hl 3 rfl) ?_
                refine lv_iload hx hb dL_isPassage_154 (lv_at hl 1 rfl) ?_
                refine lv_iadd hx hb dL_isPassage_156 ?_
                refine f_icmp_ne (tgt := 164) hx hb dL_isPassage_157 (by decide) hF (fun hF => ?_) (fun hF => ?_)
                · refine lv_iconst (v := 0) hx hb dL_isPassage_164 (by decide) ?_
                  refine lv_istore (lv' := [(11, .int 0), (10, .int (((q6 + q7) + q8) + q9)), (9, .int q5.1), (8, .int q4.1), (7, .int q3), (6, .int q2), (4, .long q1.1), (0, .ref o), (1, .int p0), (2, .int p1), (3, .int p2)]) hx hb dL_isPassage_165 hl (by decide) rfl (fun ls hl => ?_)
                  refine lv_iload hx hb dL_isPassage_167 (lv_at hl 2 rfl) ?_
                  refine lv_bipush (v := 40) hx hb dL_isPassage_169 (by decide) ?_
                  refine f_icmp_le (tgt := 179) hx hb dL_isPassage_171 (by decide) hF (fun hF => ?_) (fun hF => ?_)
                  · refine lv_iload hx hb dL_isPassage_179 (lv_at hl 2 rfl) ?_
                    refine lv_istore (lv' := [(12, .int q5.1), (11, .int 0), (10, .int (((q6 + q7) + q8) + q9)), (9, .int q5.1), (8, .int q4.1), (7, .int q3), (6, .int q2), (4, .long q1.1), (0, .ref o), (1, .int p0), (2, .int p1), (3, .int p2)]) hx hb dL_isPassage_181 hl (by decide) rfl (fun ls hl => ?_)
                    refine lv_iconst (v := 0) hx hb dL_isPassage_183 (by decide) ?_
                    refine lv_istore (lv' := [(13, .int 0), (12, .int q5.1), (11, .int 0), (10, .int (((q6 + q7) + q8) + q9)), (9, .int q5.1), (8, .int q4.1), (7, .int q3), (6, .int q2), (4, .long q1.1), (0, .ref o), (1, .int p0), (2, .int p1), (3, .int p2)]) hx hb dL_isPassage_184 hl (by decide) rfl (fun ls hl => ?_)
                    exact hL186 n q5.2 p0 p1 q1.1 q2 q4.1 q5.1 0 q5.1 0 _ _ hP hD hS _ (lv_sub hl [9, 10, 11, 8, 7, 5, 4, 2, 1, 0] rfl) hF
                  · refine lv_bipush (v := 40) hx hb dL_isPassage_174 (by decide) ?_
                    refine lv_goto (tgt := 181) hx hb dL_isPassage_176 (by decide) ?_
                    refine lv_istore (lv' := [(12, .int 40), (11, .int 0), (10, .int (((q6 + q7) + q8) + q9)), (9, .int q5.1), (8, .int q4.1), (7, .int q3), (6, .int q2), (4, .long q1.1), (0, .ref o), (1, .int p0), (2, .int p1), (3, .int p2)]) hx hb dL_isPassage_181 hl (by decide) rfl (fun ls hl => ?_)
                    refine lv_iconst (v := 0) hx hb dL_isPassage_183 (by decide) ?_
                    refine lv_istore (lv' := [(13, .int 0), (12, .int 40), (11, .int 0), (10, .int (((q6 + q7) + q8) + q9)), (9, .int q5.1), (8, .int q4.1), (7, .int q3), (6, .int q2), (4, .long q1.1), (0, .ref o), (1, .int p0), (2, .int p1), (3, .int p2)]) hx hb dL_isPassage_184 hl (by decide) rfl (fun ls hl => ?_)
                    exact hL186 n q5.2 p0 p1 q1.1 q2 q4.1 q5.1 0 40 0 _ _ hP hD hS _ (lv_sub hl [9, 10, 11, 8, 7, 5, 4, 2, 1, 0] rfl) hF
                · refine lv_iconst (v := 1) hx hb dL_isPassage_160 (by decide) ?_
                  refine lv_goto (tgt := 165) hx hb dL_isPassage_161 (by decide) ?_
                  refine lv_istore (lv' := [(11, .int 1), (10, .int (((q6 + q7) + q8) + q9)), (9, .int q5.1), (8, .int q4.1), (7, .int q3), (6, .int q2), (4, .long q1.1), (0, .ref o), (1, .int p0), (2, .int p1), (3, .int p2)]) hx hb dL_isPassage_165 hl (by decide) rfl (fun ls hl => ?_)
                  refine lv_iload hx hb dL_isPassage_167 (lv_at hl 2 rfl) ?_
                  refine lv_bipush (v := 40) hx hb dL_isPassage_169 (by decide) ?_
                  refine f_icmp_le (tgt := 179) hx hb dL_isPassage_171 (by decide) hF (fun hF => ?_) (fun hF => ?_)
                  · refine lv_iload hx hb dL_isPassage_179 (lv_at hl 2 rfl) ?_
                    refine lv_istore (lv' := [(12, .int q5.1), (11, .int 1), (10, .int (((q6 + q7) + q8) + q9)), (9, .int q5.1), (8, .int q4.1), (7, .int q3), (6, .int q2), (4, .long q1.1), (0, .ref o), (1, .int p0), (2, .int p1), (3, .int p2)]) hx hb dL_isPassage_181 hl (by decide) rfl (fun ls hl => ?_)
                    refine lv_iconst (v := 0) hx hb dL_isPassage_183 (by decide) ?_
                    refine lv_istore (lv' := [(13, .int 0), (12, .int q5.1), (11, .int 1), (10, .int (((q6 + q7) + q8) + q9)), (9, .int q5.1), (8, .int q4.1), (7, .int q3), (6, .int q2), (4, .long q1.1), (0, .ref o), (1, .int p0), (2, .int p1), (3, .int p2)]) hx hb dL_isPassage_184 hl (by decide) rfl (fun ls hl => ?_)
                    exact hL186 n q5.2 p0 p1 q1.1 q2 q4.1 q5.1 1 q5.1 0 _ _ hP hD hS _ (lv_sub hl [9, 10, 11, 8, 7, 5, 4, 2, 1, 0] rfl) hF
                  · refine lv_bipush (v := 40) hx hb dL_isPassage_174 (by decide) ?_
                    refine lv_goto (tgt := 181) hx hb dL_isPassage_176 (by decide) ?_
                    refine lv_istore (lv' := [(12, .int 40), (11, .int 1), (10, .int (((q6 + q7) + q8) + q9)), (9, .int q5.1), (8, .int q4.1), (7, .int q3), (6, .int q2), (4, .long q1.1), (0, .ref o), (1, .int p0), (2, .int p1), (3, .int p2)]) hx hb dL_isPassage_181 hl (by decide) rfl (fun ls hl => ?_)
                    refine lv_iconst (v := 0) hx hb dL_isPassage_183 (by decide) ?_
                    refine lv_istore (lv' := [(13, .int 0), (12, .int 40), (11, .int 1), (10, .int (((q6 + q7) + q8) + q9)), (9, .int q5.1), (8, .int q4.1), (7, .int q3), (6, .int q2), (4, .long q1.1), (0, .ref o), (1, .int p0), (2, .int p1), (3, .int p2)]) hx hb dL_isPassage_184 hl (by decide) rfl (fun ls hl => ?_)
                    exact hL186 n q5.2 p0 p1 q1.1 q2 q4.1 q5.1 1 40 0 _ _ hP hD hS _ (lv_sub hl [9, 10, 11, 8, 7, 5, 4, 2, 1, 0] rfl) hF
              · refine lv_bipush (v := 40) hx hb dL_isPassage_147 (by decide) ?_
                refine lv_goto (tgt := 157) hx hb dL_isPassage_149 (by decide) ?_
                refine f_icmp_ne (tgt := 164) hx hb dL_isPassage_157 (by decide) hF (fun hF => ?_) (fun hF => ?_)
                · refine lv_iconst (v := 0) hx hb dL_isPassage_164 (by decide) ?_
                  refine lv_istore (lv' := [(11, .int 0), (10, .int (((q6 + q7) + q8) + q9)), (9, .int q5.1), (8, .int q4.1), (7, .int q3), (6, .int q2), (4, .long q1.1), (0, .ref o), (1, .int p0), (2, .int p1), (3, .int p2)]) hx hb dL_isPassage_165 hl (by decide) rfl (fun ls hl => ?_)
                  refine lv_iload hx hb dL_isPassage_167 (lv_at hl 2 rfl) ?_
                  refine lv_bipush (v := 40) hx hb dL_isPassage_169 (by decide) ?_
                  refine f_icmp_le (tgt := 179) hx hb dL_isPassage_171 (by decide) hF (fun hF => ?_) (fun hF => ?_)
                  · refine lv_iload hx hb dL_isPassage_179 (lv_at hl 2 rfl) ?_
                    refine lv_istore (lv' := [(12, .int q5.1), (11, .int 0), (10, .int (((q6 + q7) + q8) + q9)), (9, .int q5.1), (8, .int q4.1), (7, .int q3), (6, .int q2), (4, .long q1.1), (0, .ref o), (1, .int p0), (2, .int p1), (3, .int p2)]) hx hb dL_isPassage_181 hl (by decide) rfl (fun ls hl => ?_)
                    refine lv_iconst (v := 0) hx hb dL_isPassage_183 (by decide) ?_
                    refine lv_istore (lv' := [(13, .int 0), (12, .int q5.1), (11, .int 0), (10, .int (((q6 + q7) + q8) + q9)), (9, .int q5.1), (8, .int q4.1), (7, .int q3), (6, .int q2), (4, .long q1.1), (0, .ref o), (1, .int p0), (2, .int p1), (3, .int p2)]) hx hb dL_isPassage_184 hl (by decide) rfl (fun ls hl => ?_)
                    exact hL186 n q5.2 p0 p1 q1.1 q2 q4.1 q5.1 0 q5.1 0 _ _ hP hD hS _ (lv_sub hl [9, 10, 11, 8, 7, 5, 4, 2, 1, 0] rfl) hF
                  · refine lv_bipush (v := 40) hx hb dL_isPassage_174 (by decide) ?_
                    refine lv_goto (tgt := 181) hx hb dL_isPassage_176 (by decide) ?_
                    refine lv_istore (lv' := [(12, .int 40), (11, .int 0), (10, .int (((q6 + q7) + q8) + q9)), (9, .int q5.1), (8, .int q4.1), (7, .int q3), (6, .int q2), (4, .long q1.1), (0, .ref o), (1, .int p0), (2, .int p1), (3, .int p2)]) hx hb dL_isPassage_181 hl (by decide) rfl (fun ls hl => ?_)
                    refine lv_iconst (v := 0) hx hb dL_isPassage_183 (by decide) ?_
                    refine lv_istore (lv' := [(13, .int 0), (12, .int 40), (11, .int 0), (10, .int (((q6 + q7) + q8) + q9)), (9, .int q5.1), (8, .int q4.1), (7, .int q3), (6, .int q2), (4, .long q1.1), (0, .ref o), (1, .int p0), (2, .int p1), (3, .int p2)]) hx hb dL_isPassage_184 hl (by decide) rfl (fun ls hl => ?_)
                    exact hL186 n q5.2 p0 p1 q1.1 q2 q4.1 q5.1 0 40 0 _ _ hP hD hS _ (lv_sub hl [9, 10, 11, 8, 7, 5, 4, 2, 1, 0] rfl) hF
                · refine lv_iconst (v := 1) hx hb dL_isPassage_160 (by decide) ?_
                  refine lv_goto (tgt := 165) hx hb dL_isPassage_161 (by decide) ?_
                  refine lv_istore (lv' := [(11, .int 1), (10, .int (((q6 + q7) + q8) + q9)), (9, .int q5.1), (8, .int q4.1), (7, .int q3), (6, .int q2), (4, .long q1.1), (0, .ref o), (1, .int p0), (2, .int p1), (3, .int p2)]) hx hb dL_isPassage_165 hl (by decide) rfl (fun ls hl => ?_)
                  refine lv_iload hx hb dL_isPassage_167 (lv_at hl 2 rfl) ?_
                  refine lv_bipush (v := 40) hx hb dL_isPassage_169 (by decide) ?_
                  refine f_icmp_le (tgt := 179) hx hb dL_isPassage_171 (by decide) hF (fun hF => ?_) (fun hF => ?_)
                  · refine lv_iload hx hb dL_isPassage_179 (lv_at hl 2 rfl) ?_
                    refine lv_istore (lv' := [(12, .int q5.1), (11, .int 1), (10, .int (((q6 + q7) + q8) + q9)), (9, .int q5.1), (8, .int q4.1), (7, .int q3), (6, .int q2), (4, .long q1.1), (0, .ref o), (1, .int p0), (2, .int p1), (3, .int p2)]) hx hb dL_isPassage_181 hl (by decide) rfl (fun ls hl => ?_)
                    refine lv_iconst (v := 0) hx hb dL_isPassage_183 (by decide) ?_
                    refine lv_istore (lv' := [(13, .int 0), (12, .int q5.1), (11, .int 1), (10, .int (((q6 + q7) + q8) + q9)), (9, .int q5.1), (8, .int q4.1), (7, .int q3), (6, .int q2), (4, .long q1.1), (0, .ref o), (1, .int p0), (2, .int p1), (3, .int p2)]) hx hb dL_isPassage_184 hl (by decide) rfl (fun ls hl => ?_)
                    exact hL186 n q5.2 p0 p1 q1.1 q2 q4.1 q5.1 1 q5.1 0 _ _ hP hD hS _ (lv_sub hl [9, 10, 11, 8, 7, 5, 4, 2, 1, 0] rfl) hF
                  · refine lv_bipush (v := 40) hx hb dL_isPassage_174 (by decide) ?_
                    refine lv_goto (tgt := 181) hx hb dL_isPassage_176 (by decide) ?_
                    refine lv_istore (lv' := [(12, .int 40), (11, .int 1), (10, .int (((q6 + q7) + q8) + q9)), (9, .int q5.1), (8, .int q4.1), (7, .int q3), (6, .int q2), (4, .long q1.1), (0, .ref o), (1, .int p0), (2, .int p1), (3, .int p2)]) hx hb dL_isPassage_181 hl (by decide) rfl (fun ls hl => ?_)
                    refine lv_iconst (v := 0) hx hb dL_isPassage_183 (by decide) ?_
                    refine lv_istore (lv' := [(13, .int 0), (12, .int 40), (11, .int 1), (10, .int (((q6 + q7) + q8) + q9)), (9, .int q5.1), (8, .int q4.1), (7, .int q3), (6, .int q2), (4, .long q1.1), (0, .ref o), (1, .int p0), (2, .int p1), (3, .int p2)]) hx hb dL_isPassage_184 hl (by decide) rfl (fun ls hl => ?_)
                    exact hL186 n q5.2 p0 p1 q1.1 q2 q4.1 q5.1 1 40 0 _ _ hP hD hS _ (lv_sub hl [9, 10, 11, 8, 7, 5, 4, 2, 1, 0] rfl) hF
  · refine lv_aload_n hx hb dL_isPassage_47 rfl (lv_at hl 5 rfl) ?_
    obtain ⟨q27, h_q27, hF⟩ := bnd_s hF
    refine g_callS (As := [.ref o]) (rest := []) ⟨hx, hb, hml, hown, hts⟩ hK hZ hA (c_L_print l E o qh qr qt qs qn fn fs ft gh n q5.2 q27 h_q27) (va_cwS 1 hts gL_isPassage_L_print rfl rfl rfl (by decide +kernel) ⟨Nat.le_of_ble_eq_true rfl, Nat.le_of_ble_eq_true rfl⟩) hP hD hS [0] [] rfl rfl rfl hl.1 rfl (Nat.le_of_ble_eq_true rfl) dL_isPassage_48 ⟨Nat.le_of_ble_eq_true rfl, Nat.le_of_ble_eq_true rfl⟩ (fun H locs hP hD hS => ?_)
    have hP : va_P E.1 vwCl (bl [HL_c E o qh qr qt qs qn fn fs ft gh q27.2]) H := hP
    have hD : va_D A (bl [HL_c E o qh qr qt qs qn fn fs ft gh q27.2]) := hD
    refine W.eq (g2 := F0 m 51 ls [.long q27.1]) rfl ?_
    refine lv_lload hx hb dL_isPassage_51 (lv_at hl 4 rfl) ?_
    refine W.lcmp hx hb dL_isPassage_53 ?_
    refine f_if_ne (tgt := 61) hx hb dL_isPassage_54 (by decide) hF (fun hF => ?_) (fun hF => ?_)
    · refine lv_iconst (v := 0) hx hb dL_isPassage_61 (by decide) ?_
      exact g_zret (rvf := fun z => some (.int z.1)) (W1f := fun z => bl [HL_c E o qh qr qt qs qn fn fs ft gh z.2]) hx hb hr hlocks rfl hQ hF rfl hP hD hS [0] rfl rfl dL_isPassage_62
    · refine lv_iconst (v := 1) hx hb dL_isPassage_57 (by decide) ?_
      refine lv_goto (tgt := 62) hx hb dL_isPassage_58 (by decide) ?_
      exact g_zret (rvf := fun z => some (.int z.1)) (W1f := fun z => bl [HL_c E o qh qr qt qs qn fn fs ft gh z.2]) hx hb hr hlocks rfl hQ hF rfl hP hD hS [0] rfl rfl dL_isPassage_62
