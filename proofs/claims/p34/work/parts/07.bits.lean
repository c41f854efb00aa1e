-- X0: printed by wip/whole/parts.py: a pure picture and a contract a method
def F_X0_join_L57 (n : Nat) : Nat → Int32 → Int64 → UInt64 → Int32 → Int32 → Option (Int64)
  | 0, _, _, _, _, _ => none
  | k + 1, x2, x4, x6, x8, x9 => if x2 ≤ x9 then nn64 (FP.dsub x6 FP.dconst1) (nn64 (FP.dmul (FP.dsub x6 FP.dconst1) (FP.l2d x4)) (some (((x8.toInt64) * x4) + (FP.d2l (FP.dmul (FP.dsub x6 FP.dconst1) (FP.l2d x4)))))) else if 0 ≤ (Op.cmpValue (FP.dcmp x6 FP.dconst1) .g) then nn64 (FP.dsub x6 FP.dconst1) (nn64 (FP.dmul (FP.dsub x6 FP.dconst1) (FP.l2d x4)) (some (((x8.toInt64) * x4) + (FP.d2l (FP.dmul (FP.dsub x6 FP.dconst1) (FP.l2d x4)))))) else nn64 (FP.dmul x6 4611686018427387904) (F_X0_join_L57 n k x2 x4 (FP.dmul x6 4611686018427387904) (x8 + (-1)) (x9 + 1))
def F_X0_join_L22 (n : Nat) : Nat → Int32 → Int64 → UInt64 → Int32 → Int32 → Option (Int64)
  | 0, _, _, _, _, _ => none
  | k + 1, x2, x4, x6, x8, x9 => if x2 ≤ x9 then F_X0_join_L57 n n x2 x4 x6 x8 0 else if (Op.cmpValue (FP.dcmp x6 4611686018427387904) .l) < 0 then F_X0_join_L57 n n x2 x4 x6 x8 0 else nn64 (FP.ddiv x6 4611686018427387904) (F_X0_join_L22 n k x2 x4 (FP.ddiv x6 4611686018427387904) (x8 + 1) (x9 + 1))
def F_X0_join (n : Nat) (p0 : UInt64) (p1 : Int32) (p2 : Int32) : Option (Int64) := if 0 < (Op.cmpValue (FP.dcmp p0 FP.dconst0) .g) then F_X0_join_L22 n n p1 (1 <<< (p2.toInt64 &&& 63)) p0 p1 0 else some 0
set_option maxHeartbeats 4000000 in
set_option maxRecDepth 100000 in
theorem c_X0_join (l : Launch) (E : GE)  (n : Nat) (p0 : UInt64) (p1 : Int32) (p2 : Int32) (r : Int64) (hF : F_X0_join n p0 p1 p2 = some r) : CT l E yX0_join wsX0_join ({ frames := 0, cells := 0, slots := 0, locals := 0 } : Room) [.double p0, .int p1, .int p2] (bl []) (some (.long r)) (bl []) 0 0 := by
  refine CT.of (cc := cX0_join) (maxL := 10) (ret := (some .long)) (by decide) rfl (Nat.le_of_ble_eq_true rfl) ?_
  intro p e s m args below meth cd A Q ls B hQ hP hD hS hl
  obtain ⟨hx, hb, hml, hown, hts, hr, hlocks, hK, hZ, hA, hnm⟩ := B
  have hown : s.vm.findClass RX0 = some m.cls := hown
  have hl : lv_has ls 10 [(0, .double p0), (2, .int p1), (3, .int p2)] := hl
  have w0 := hts (.constantDouble RX0 13 (4611686018427387904)) (by decide +kernel)
  have hL57 : ∀ (k : Nat) (x2 : Int32) (x4 : Int64) (x6 : UInt64) (x8 : Int32) (x9 : Int32) (H : Heap) (locs : List Loc), va_P E.1 vwCl (bl []) H → va_D A (bl []) → va_S A s.heap H locs → ∀ ls : Array Slot, lv_has ls 10 [(2, .int x2), (4, .long x4), (6, .double x6), (8, .int x8), (9, .int x9)] → F_X0_join_L57 n k x2 x4 x6 x8 x9 = some r → W p l e ({ frames := 0, cells := 0, slots := 0, locals := 0 } : Room) s m args below meth cd H locs 0 0 Q (F0 m 57 ls []) := by
    intro k
    induction k with
    | zero => intro x2 x4 x6 x8 x9 H locs hP hD hS ls hl hF; cases hF
    | succ k ih =>
      intro x2 x4 x6 x8 x9 H locs hP hD hS ls hl hF
      rw [F_X0_join_L57] at hF
      refine lv_iload hx hb dX0_join_57 (lv_at hl 4 rfl) ?_
      refine lv_iload_n hx hb dX0_join_59 rfl (lv_at hl 0 rfl) ?_
      refine f_icmp_ge (tgt := 87) hx hb dX0_join_60 (by decide) hF (fun hF => ?_) (fun hF => ?_)
      · refine lv_iload hx hb dX0_join_87 (lv_at hl 3 rfl) ?_
        refine lv_i2l (v := (x8.toInt64)) hx hb dX0_join_89 rfl ?_
        refine lv_lload hx hb dX0_join_90 (lv_at hl 1 rfl) ?_
        refine lv_lmul hx hb dX0_join_92 ?_
        refine lv_dload hx hb dX0_join_93 (lv_at hl 2 rfl) ?_
        refine lv_dconst1 hx hb dX0_join_95 ?_
        refine f_dsub hx hb hF dX0_join_96 (fun hF => ?_)
        refine lv_lload hx hb dX0_join_97 (lv_at hl 1 rfl) ?_
        refine lv_l2d hx hb dX0_join_99 ?_
        refine f_dmul hx hb hF dX0_join_100 (fun hF => ?_)
        refine lv_d2l hx hb dX0_join_101 ?_
        refine lv_ladd hx hb dX0_join_102 ?_
        exact g_lret (rvf := fun z => some (.long z)) (W1f := fun z => bl []) hx hb hr hlocks hQ hF rfl hP hD hS [] rfl rfl dX0_join_103
      · refine lv_dload hx hb dX0_join_63 (lv_at hl 2 rfl) ?_
        refine lv_dconst1 hx hb dX0_join_65 ?_
        refine lv_dcmp hx hb dX0_join_66 ?_
        refine f_if_ge (tgt := 87) hx hb dX0_join_67 (by decide) hF (fun hF => ?_) (fun hF => ?_)
        · refine lv_iload hx hb dX0_join_87 (lv_at hl 3 rfl) ?_
          refine lv_i2l (v := (x8.toInt64)) hx hb dX0_join_89 rfl ?_
          refine lv_lload hx hb dX0_join_90 (lv_at hl 1 rfl) ?_
          refine lv_lmul hx hb dX0_join_92 ?_
          refine lv_dload hx hb dX0_join_93 (lv_at hl 2 rfl) ?_
          refine lv_dconst1 hx hb dX0_join_95 ?_
          refine f_dsub hx hb hF dX0_join_96 (fun hF => ?_)
          refine lv_lload hx hb dX0_join_97 (lv_at hl 1 rfl) ?_
          refine lv_l2d hx hb dX0_join_99 ?_
          refine f_dmul hx hb hF dX0_join_100 (fun hF => ?_)
          refine lv_d2l hx hb dX0_join_101 ?_
          refine lv_ladd hx hb dX0_join_102 ?_
          exact g_lret (rvf := fun z => some (.long z)) (W1f := fun z => bl []) hx hb hr hlocks hQ hF rfl hP hD hS [] rfl rfl dX0_join_103
        · refine lv_dload hx hb dX0_join_70 (lv_at hl 2 rfl) ?_
          refine lv_ldc2d (v := 4611686018427387904) hx hb hown w0 dX0_join_72 ?_
          refine f_dmul hx hb hF dX0_join_75 (fun hF => ?_)
          refine lv_dstore (lv' := [(6, .double (FP.dmul x6 4611686018427387904)), (2, .int x2), (4, .long x4), (8, .int x8), (9, .int x9)]) hx hb dX0_join_76 hl (by decide) rfl (fun ls hl => ?_)
          refine lv_iinc (v := (x8 + (-1))) (lv' := [(8, .int (x8 + (-1))), (6, .double (FP.dmul x6 4611686018427387904)), (2, .int x2), (4, .long x4), (9, .int x9)]) hx hb dX0_join_78 hl (k := 3) rfl rfl (by decide) rfl (fun ls hl => ?_)
          refine lv_iinc (v := (x9 + 1)) (lv' := [(9, .int (x9 + 1)), (8, .int (x8 + (-1))), (6, .double (FP.dmul x6 4611686018427387904)), (2, .int x2), (4, .long x4)]) hx hb dX0_join_81 hl (k := 4) rfl rfl (by decide) rfl (fun ls hl => ?_)
          refine lv_goto (tgt := 57) hx hb dX0_join_84 (by decide) ?_
          exact ih x2 x4 (FP.dmul x6 4611686018427387904) (x8 + (-1)) (x9 + 1) _ _ hP hD hS _ (lv_sub hl [3, 4, 2, 1, 0] rfl) hF
  have hL22 : ∀ (k : Nat) (x2 : Int32) (x4 : Int64) (x6 : UInt64) (x8 : Int32) (x9 : Int32) (H : Heap) (locs : List Loc), va_P E.1 vwCl (bl []) H → va_D A (bl []) → va_S A s.heap H locs → ∀ ls : Array Slot, lv_has ls 10 [(2, .int x2), (4, .long x4), (6, .double x6), (8, .int x8), (9, .int x9)] → F_X0_join_L22 n k x2 x4 x6 x8 x9 = some r → W p l e ({ frames := 0, cells := 0, slots := 0, locals := 0 } : Room) s m args below meth cd H locs 0 0 Q (F0 m 22 ls []) := by
    intro k
    induction k with
    | zero => intro x2 x4 x6 x8 x9 H locs hP hD hS ls hl hF; cases hF
    | succ k ih =>
      intro x2 x4 x6 x8 x9 H locs hP hD hS ls hl hF
      rw [F_X0_join_L22] at hF
      refine lv_iload hx hb dX0_join_22 (lv_at hl 4 rfl) ?_
      refine lv_iload_n hx hb dX0_join_24 rfl (lv_at hl 0 rfl) ?_
      refine f_icmp_ge (tgt := 54) hx hb dX0_join_25 (by decide) hF (fun hF => ?_) (fun hF => ?_)
      · refine lv_iconst (v := 0) hx hb dX0_join_54 (by decide) ?_
        refine lv_istore (lv' := [(9, .int 0), (2, .int x2), (4, .long x4), (6, .double x6), (8, .int x8)]) hx hb dX0_join_55 hl (by decide) rfl (fun ls hl => ?_)
        exact hL57 n x2 x4 x6 x8 0 _ _ hP hD hS _ (lv_sub hl [1, 2, 3, 4, 0] rfl) hF
      · refine lv_dload hx hb dX0_join_28 (lv_at hl 2 rfl) ?_
        refine lv_ldc2d (v := 4611686018427387904) hx hb hown w0 dX0_join_30 ?_
        refine lv_dcmp hx hb dX0_join_33 ?_
        refine f_if_lt (tgt := 54) hx hb dX0_join_34 (by decide) hF (fun hF => ?_) (fun hF => ?_)
        · refine lv_iconst (v := 0) hx hb dX0_join_54 (by decide) ?_
          refine lv_istore (lv' := [(9, .int 0), (2, .int x2), (4, .long x4), (6, .double x6), (8, .int x8)]) hx hb dX0_join_55 hl (by decide) rfl (fun ls hl => ?_)
          exact hL57 n x2 x4 x6 x8 0 _ _ hP hD hS _ (lv_sub hl [1, 2, 3, 4, 0] rfl) hF
        · refine lv_dload hx hb dX0_join_37 (lv_at hl 2 rfl) ?_
          refine lv_ldc2d (v := 4611686018427387904) hx hb hown w0 dX0_join_39 ?_
          refine f_ddiv hx hb hF dX0_join_42 (fun hF => ?_)
          refine lv_dstore (lv' := [(6, .double (FP.ddiv x6 4611686018427387904)), (2, .int x2), (4, .long x4), (8, .int x8), (9, .int x9)]) hx hb dX0_join_43 hl (by decide) rfl (fun ls hl => ?_)
          refine lv_iinc (v := (x8 + 1)) (lv' := [(8, .int (x8 + 1)), (6, .double (FP.ddiv x6 4611686018427387904)), (2, .int x2), (4, .long x4), (9, .int x9)]) hx hb dX0_join_45 hl (k := 3) rfl rfl (by decide) rfl (fun ls hl => ?_)
          refine lv_iinc (v := (x9 + 1)) (lv' := [(9, .int (x9 + 1)), (8, .int (x8 + 1)), (6, .double (FP.ddiv x6 4611686018427387904)), (2, .int x2), (4, .long x4)]) hx hb dX0_join_48 hl (k := 4) rfl rfl (by decide) rfl (fun ls hl => ?_)
          refine lv_goto (tgt := 22) hx hb dX0_join_51 (by decide) ?_
          exact ih x2 x4 (FP.ddiv x6 4611686018427387904) (x8 + 1) (x9 + 1) _ _ hP hD hS _ (lv_sub hl [3, 4, 2, 1, 0] rfl) hF
  unfold F_X0_join at hF
  refine lv_dload_n hx hb dX0_join_0 rfl (lv_at hl 0 rfl) ?_
  refine lv_dconst0 hx hb dX0_join_1 ?_
  refine lv_dcmp hx hb dX0_join_2 ?_
  refine f_if_gt (tgt := 8) hx hb dX0_join_3 (by decide) hF (fun hF => ?_) (fun hF => ?_)
  · refine lv_lconst (v := 1) hx hb dX0_join_8 (by decide) ?_
    refine lv_iload_n hx hb dX0_join_9 rfl (lv_at hl 2 rfl) ?_
    refine lv_lshl (v := (1 <<< (p2.toInt64 &&& 63))) hx hb dX0_join_10 rfl ?_
    refine lv_lstore (lv' := [(4, .long (1 <<< (p2.toInt64 &&& 63))), (0, .double p0), (2, .int p1), (3, .int p2)]) hx hb dX0_join_11 hl (by decide) rfl (fun ls hl => ?_)
    refine lv_dload_n hx hb dX0_join_13 rfl (lv_at hl 1 rfl) ?_
    refine lv_dstore (lv' := [(6, .double p0), (4, .long (1 <<< (p2.toInt64 &&& 63))), (0, .double p0), (2, .int p1), (3, .int p2)]) hx hb dX0_join_14 hl (by decide) rfl (fun ls hl => ?_)
    refine lv_iload_n hx hb dX0_join_16 rfl (lv_at hl 3 rfl) ?_
    refine lv_istore (lv' := [(8, .int p1), (6, .double p0), (4, .long (1 <<< (p2.toInt64 &&& 63))), (0, .double p0), (2, .int p1), (3, .int p2)]) hx hb dX0_join_17 hl (by decide) rfl (fun ls hl => ?_)
    refine lv_iconst (v := 0) hx hb dX0_join_19 (by decide) ?_
    refine lv_istore (lv' := [(9, .int 0), (8, .int p1), (6, .double p0), (4, .long (1 <<< (p2.toInt64 &&& 63))), (0, .double p0), (2, .int p1), (3, .int p2)]) hx hb dX0_join_20 hl (by decide) rfl (fun ls hl => ?_)
    exact hL22 n p1 (1 <<< (p2.toInt64 &&& 63)) p0 p1 0 _ _ hP hD hS _ (lv_sub hl [5, 3, 2, 1, 0] rfl) hF
  · refine lv_lconst (v := 0) hx hb dX0_join_6 (by decide) ?_
    exact g_lret (rvf := fun z => some (.long z)) (W1f := fun z => bl []) hx hb hr hlocks hQ hF rfl hP hD hS [] rfl rfl dX0_join_7
def F_X0_ofFloat (n : Nat) (p0 : UInt32) : Option (Int32) := nn64 (FP.f2d p0) ((F_X0_join n (FP.f2d p0) 127 23).bind fun q1 => some (q1.toInt32))
set_option maxHeartbeats 4000000 in
set_option maxRecDepth 100000 in
theorem c_X0_ofFloat (l : Launch) (E : GE)  (n : Nat) (p0 : UInt32) (r : Int32) (hF : F_X0_ofFloat n p0 = some r) : CT l E yX0_ofFloat wsX0_ofFloat ({ frames := 1, cells := 0, slots := 0, locals := 29 } : Room) [.float p0] (bl []) (some (.int r)) (bl []) 0 0 := by
  refine CT.of (cc := cX0_ofFloat) (maxL := 1) (ret := (some .int)) (by decide) rfl (Nat.le_of_ble_eq_true rfl) ?_
  intro p e s m args below meth cd A Q ls B hQ hP hD hS hl
  obtain ⟨hx, hb, hml, hown, hts, hr, hlocks, hK, hZ, hA, hnm⟩ := B
  have hown : s.vm.findClass RX0 = some m.cls := hown
  have hl : lv_has ls 1 [(0, .float p0)] := hl
  unfold F_X0_ofFloat at hF
  refine lv_fload_n hx hb dX0_ofFloat_0 rfl (lv_at hl 0 rfl) ?_
  refine f_f2d hx hb hF dX0_ofFloat_1 (fun hF => ?_)
  refine lv_bipush (v := 127) hx hb dX0_ofFloat_2 (by decide) ?_
  refine lv_bipush (v := 23) hx hb dX0_ofFloat_4 (by decide) ?_
  obtain ⟨q1, h_q1, hF⟩ := bnd_s hF
  refine g_callS (As := [.double (FP.f2d p0), .int 127, .int 23]) (rest := []) ⟨hx, hb, hml, hown, hts⟩ hK hZ hA (c_X0_join l E  n (FP.f2d p0) (127) (23) q1 h_q1) (va_cwS 3 hts gX0_ofFloat_X0_join rfl rfl rfl (by decide +kernel) ⟨Nat.le_of_ble_eq_true rfl, Nat.le_of_ble_eq_true rfl⟩) hP hD hS [] [] rfl rfl rfl hl.1 rfl (Nat.le_of_ble_eq_true rfl) dX0_ofFloat_6 ⟨Nat.le_of_ble_eq_true rfl, Nat.le_of_ble_eq_true rfl⟩ (fun H locs hP hD hS => ?_)
  have hP : va_P E.1 vwCl (bl []) H := hP
  have hD : va_D A (bl []) := hD
  refine W.eq (g2 := F0 m 9 ls [.long q1]) rfl ?_
  refine lv_l2i (v := (q1.toInt32)) hx hb dX0_ofFloat_9 rfl ?_
  exact g_iret (rvf := fun z => some (.int z)) (W1f := fun z => bl []) hx hb hr hlocks hQ hF rfl hP hD hS [] rfl rfl dX0_ofFloat_10
def F_X0_ofDouble (n : Nat) (p0 : UInt64) : Option (Int64) := (F_X0_join n p0 1023 52).bind fun q1 => some q1
set_option maxHeartbeats 4000000 in
set_option maxRecDepth 100000 in
theorem c_X0_ofDouble (l : Launch) (E : GE)  (n : Nat) (p0 : UInt64) (r : Int64) (hF : F_X0_ofDouble n p0 = some r) : CT l E yX0_ofDouble wsX0_ofDouble ({ frames := 1, cells := 0, slots := 0, locals := 29 } : Room) [.double p0] (bl []) (some (.long r)) (bl []) 0 0 := by
  refine CT.of (cc := cX0_ofDouble) (maxL := 2) (ret := (some .long)) (by decide) rfl (Nat.le_of_ble_eq_true rfl) ?_
  intro p e s m args below meth cd A Q ls B hQ hP hD hS hl
  obtain ⟨hx, hb, hml, hown, hts, hr, hlocks, hK, hZ, hA, hnm⟩ := B
  have hown : s.vm.findClass RX0 = some m.cls := hown
  have hl : lv_has ls 2 [(0, .double p0)] := hl
  unfold F_X0_ofDouble at hF
  refine lv_dload_n hx hb dX0_ofDouble_0 rfl (lv_at hl 0 rfl) ?_
  refine lv_sipush (v := 1023) hx hb dX0_ofDouble_1 (by decide) ?_
  refine lv_bipush (v := 52) hx hb dX0_ofDouble_4 (by decide) ?_
  obtain ⟨q1, h_q1, hF⟩ := bnd_s hF
  refine g_callS (As := [.double p0, .int 1023, .int 52]) (rest := []) ⟨hx, hb, hml, hown, hts⟩ hK hZ hA (c_X0_join l E  n p0 (1023) (52) q1 h_q1) (va_cwS 3 hts gX0_ofDouble_X0_join rfl rfl rfl (by decide +kernel) ⟨Nat.le_of_ble_eq_true rfl, Nat.le_of_ble_eq_true rfl⟩) hP hD hS [] [] rfl rfl rfl hl.1 rfl (Nat.le_of_ble_eq_true rfl) dX0_ofDouble_6 ⟨Nat.le_of_ble_eq_true rfl, Nat.le_of_ble_eq_true rfl⟩ (fun H locs hP hD hS => ?_)
  have hP : va_P E.1 vwCl (bl []) H := hP
  have hD : va_D A (bl []) := hD
  refine W.eq (g2 := F0 m 9 ls [.long q1]) rfl ?_
  exact g_lret (rvf := fun z => some (.long z)) (W1f := fun z => bl []) hx hb hr hlocks hQ hF rfl hP hD hS [] rfl rfl dX0_ofDouble_9
