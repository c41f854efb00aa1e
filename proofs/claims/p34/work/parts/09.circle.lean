-- X2 X3: printed by wip/whole/parts.py: a pure picture and a contract a method
def F_X2_become (v : CiV) (v2 : CiV) : Option (CiV) := cpk 0 0 64 64 64 (some (Ci_mk (va_cpy (Ci_colors v2) (Ci_colors v) (0 : Int32).toNatClampNeg (0 : Int32).toNatClampNeg (64 : Int32).toNatClampNeg)))
set_option maxHeartbeats 4000000 in
set_option maxRecDepth 100000 in
theorem c_X2_become (l : Launch) (E : GE) (o : Nat) (qa : Nat) (o2 : Nat) (qa2 : Nat) (v : CiV) (v2 : CiV) (r : CiV) (hF : F_X2_become v v2 = some r) : CT l E yX2_become wsX2_become ({ frames := 1, cells := 0, slots := 0, locals := 30 } : Room) [.ref o, .ref o2] (bl [Ci_c E o qa v, Ci_c E o2 qa2 v2]) (none) (bl [Ci_c E o qa r, Ci_c E o2 qa2 v2]) 0 0 := by
  refine CT.of (cc := cX2_become) (maxL := 2) (ret := none) (by decide) rfl (Nat.le_of_ble_eq_true rfl) ?_
  intro p e s m args below meth cd A Q ls B hQ hP hD hS hl
  obtain ⟨hx, hb, hml, hown, hts, hr, hlocks, hK, hZ, hA, hnm⟩ := B
  have hown : s.vm.findClass RX2 = some m.cls := hown
  have hl : lv_has ls 2 [(0, .ref o), (1, .ref o2)] := hl
  have w0 := hts (.fieldLink RX2 11 "HarborLight$Circle" "colors" "[I") (by decide +kernel)
  have w1 := hts (.methodLink RX2 17 arraycopyName) (by decide +kernel)
  have w2 := hts (.native arraycopyName) (by decide +kernel)
  have w3 := hts (.static arraycopyName) (by decide +kernel)
  have w4 := hts (.initialized "java/lang/System") (by decide +kernel)
  have in_X2 : ∀ w ∈ wsX20, w ∈ wsX2_become := by decide +kernel
  have hP : va_P E.1 vwCl (bl [[(o, .inr (1, [.ref qa]))], [(qa, .inl (E.2.1, 64, .inl (Ci_colors v)))], [(o2, .inr (1, [.ref qa2]))], [(qa2, .inl (E.2.1, 64, .inl (Ci_colors v2)))]]) s.heap := hP
  have hD : va_D A (bl [[(o, .inr (1, [.ref qa]))], [(qa, .inl (E.2.1, 64, .inl (Ci_colors v)))], [(o2, .inr (1, [.ref qa2]))], [(qa2, .inl (E.2.1, 64, .inl (Ci_colors v2)))]]) := hD
  unfold F_X2_become at hF
  refine lv_aload_n hx hb dX2_become_0 rfl (lv_at hl 1 rfl) ?_
  refine g_get (T := TX2) (N := 1) hx hb hts in_X2 hown hK hP 2 rfl rfl 0 (by decide) w0 rfl rfl dX2_become_1 ?_
  refine lv_iconst (v := 0) hx hb dX2_become_4 (by decide) ?_
  refine lv_aload_n hx hb dX2_become_5 rfl (lv_at hl 0 rfl) ?_
  refine g_get (T := TX2) (N := 1) hx hb hts in_X2 hown hK hP 0 rfl rfl 0 (by decide) w0 rfl rfl dX2_become_6 ?_
  refine lv_iconst (v := 0) hx hb dX2_become_9 (by decide) ?_
  refine lv_aload_n hx hb dX2_become_10 rfl (lv_at hl 0 rfl) ?_
  refine g_get (T := TX2) (N := 1) hx hb hts in_X2 hown hK hP 0 rfl rfl 0 (by decide) w0 rfl rfl dX2_become_11 ?_
  refine g_alen (v := 64) hx hb hK hP 1 0 rfl rfl rfl dX2_become_14 ?_
  refine f_copy hx hb (hml.trans hl.1.symm) hown w1 w2 w3 w4 hK hP hD hS 3 1 rfl rfl hF (Nat.le_of_ble_eq_true rfl) (Nat.le_of_ble_eq_true rfl) dX2_become_15 (fun hF H locs hP hD hS => ?_)
  have hP : va_P E.1 vwCl (bl [[(o, .inr (1, [.ref qa]))], [(qa, .inl (E.2.1, 64, .inl (va_cpy (Ci_colors v2) (Ci_colors v) (0 : Int32).toNatClampNeg (0 : Int32).toNatClampNeg (64 : Int32).toNatClampNeg)))], [(o2, .inr (1, [.ref qa2]))], [(qa2, .inl (E.2.1, 64, .inl (Ci_colors v2)))]]) H := hP
  have hD : va_D A (bl [[(o, .inr (1, [.ref qa]))], [(qa, .inl (E.2.1, 64, .inl (va_cpy (Ci_colors v2) (Ci_colors v) (0 : Int32).toNatClampNeg (0 : Int32).toNatClampNeg (64 : Int32).toNatClampNeg)))], [(o2, .inr (1, [.ref qa2]))], [(qa2, .inl (E.2.1, 64, .inl (Ci_colors v2)))]]) := hD
  exact g_vret (rvf := fun z => none) (W1f := fun z => bl [Ci_c E o qa z, Ci_c E o2 qa2 v2]) hx hb hr hlocks hQ hF rfl hP hD hS [0, 1, 2, 3] rfl rfl dX2_become_18
def F_X2_colorAt (v : CiV) (p0 : Int32) : Option (Int32) := if 64 ≤ (p0 &&& 63) then some 0 else chk (p0 &&& 63) 64 (some ((Ci_colors v) (p0 &&& 63).toNatClampNeg))
set_option maxHeartbeats 4000000 in
set_option maxRecDepth 100000 in
theorem c_X2_colorAt (l : Launch) (E : GE) (o : Nat) (qa : Nat) (v : CiV) (p0 : Int32) (r : Int32) (hF : F_X2_colorAt v p0 = some r) : CT l E yX2_colorAt wsX2_colorAt ({ frames := 0, cells := 0, slots := 0, locals := 0 } : Room) [.ref o, .int p0] (bl [Ci_c E o qa v]) (some (.int r)) (bl [Ci_c E o qa v]) 0 0 := by
  refine CT.of (cc := cX2_colorAt) (maxL := 3) (ret := (some .int)) (by decide) rfl (Nat.le_of_ble_eq_true rfl) ?_
  intro p e s m args below meth cd A Q ls B hQ hP hD hS hl
  obtain ⟨hx, hb, hml, hown, hts, hr, hlocks, hK, hZ, hA, hnm⟩ := B
  have hown : s.vm.findClass RX2 = some m.cls := hown
  have hl : lv_has ls 3 [(0, .ref o), (1, .int p0)] := hl
  have w0 := hts (.fieldLink RX2 11 "HarborLight$Circle" "colors" "[I") (by decide +kernel)
  have in_X2 : ∀ w ∈ wsX20, w ∈ wsX2_colorAt := by decide +kernel
  have hP : va_P E.1 vwCl (bl [[(o, .inr (1, [.ref qa]))], [(qa, .inl (E.2.1, 64, .inl (Ci_colors v)))]]) s.heap := hP
  have hD : va_D A (bl [[(o, .inr (1, [.ref qa]))], [(qa, .inl (E.2.1, 64, .inl (Ci_colors v)))]]) := hD
  unfold F_X2_colorAt at hF
  refine lv_iload_n hx hb dX2_colorAt_0 rfl (lv_at hl 1 rfl) ?_
  refine lv_bipush (v := 63) hx hb dX2_colorAt_1 (by decide) ?_
  refine lv_iand hx hb dX2_colorAt_3 ?_
  refine lv_istore_n (lv' := [(2, .int (p0 &&& 63)), (0, .ref o), (1, .int p0)]) hx hb dX2_colorAt_4 rfl hl (by decide) rfl (fun ls hl => ?_)
  refine lv_iload_n hx hb dX2_colorAt_5 rfl (lv_at hl 0 rfl) ?_
  refine lv_aload_n hx hb dX2_colorAt_6 rfl (lv_at hl 1 rfl) ?_
  refine g_get (T := TX2) (N := 1) hx hb hts in_X2 hown hK hP 0 rfl rfl 0 (by decide) w0 rfl rfl dX2_colorAt_7 ?_
  refine g_alen (v := 64) hx hb hK hP 1 0 rfl rfl rfl dX2_colorAt_10 ?_
  refine f_icmp_ge (tgt := 23) hx hb dX2_colorAt_11 (by decide) hF (fun hF => ?_) (fun hF => ?_)
  · refine lv_iconst (v := 0) hx hb dX2_colorAt_23 (by decide) ?_
    exact g_iret (rvf := fun z => some (.int z)) (W1f := fun z => bl [Ci_c E o qa v]) hx hb hr hlocks hQ hF rfl hP hD hS [0, 1] rfl rfl dX2_colorAt_24
  · refine lv_aload_n hx hb dX2_colorAt_14 rfl (lv_at hl 1 rfl) ?_
    refine g_get (T := TX2) (N := 1) hx hb hts in_X2 hown hK hP 0 rfl rfl 0 (by decide) w0 rfl rfl dX2_colorAt_15 ?_
    refine lv_iload_n hx hb dX2_colorAt_18 rfl (lv_at hl 0 rfl) ?_
    refine f_iald hx hb hK hP 1 rfl hF dX2_colorAt_19 (fun hF => ?_)
    refine lv_goto (tgt := 24) hx hb dX2_colorAt_20 (by decide) ?_
    exact g_iret (rvf := fun z => some (.int z)) (W1f := fun z => bl [Ci_c E o qa v]) hx hb hr hlocks hQ hF rfl hP hD hS [0, 1] rfl rfl dX2_colorAt_24
def F_X2_give_L14 (n : Nat) : Nat → CiV → Int32 → Int32 → Int32 → Int32 → Int32 → Option (Int32 × CiV)
  | 0, _, _, _, _, _, _ => none
  | k + 1, u, x1, x2, x4, x5, x6 => if x4 < x6 then some (x5, u) else if 64 ≤ ((x2 + x6) &&& 63) then F_X2_give_L14 n k u x1 x2 x4 x5 (x6 + 1) else chk ((x2 + x6) &&& 63) 64 (if ((Ci_colors u) ((x2 + x6) &&& 63).toNatClampNeg) = x1 then F_X2_give_L14 n k u x1 x2 x4 x5 (x6 + 1) else chk ((x2 + x6) &&& 63) 64 (F_X2_give_L14 n k (Ci_mk (upd (Ci_colors u) ((x2 + x6) &&& 63).toNatClampNeg x1)) x1 x2 x4 (x5 + 1) (x6 + 1)))
def F_X2_give (n : Nat) (v : CiV) (p0 : Int32) (p1 : Int32) (p2 : Int32) : Option (Int32 × CiV) := F_X2_give_L14 n n v p0 p1 ((p2 - p1) &&& 63) 0 0
set_option maxHeartbeats 4000000 in
set_option maxRecDepth 100000 in
theorem c_X2_give (l : Launch) (E : GE) (o : Nat) (qa : Nat) (n : Nat) (v : CiV) (p0 : Int32) (p1 : Int32) (p2 : Int32) (r : Int32 × CiV) (hF : F_X2_give n v p0 p1 p2 = some r) : CT l E yX2_give wsX2_give ({ frames := 0, cells := 0, slots := 0, locals := 0 } : Room) [.ref o, .int p0, .int p1, .int p2] (bl [Ci_c E o qa v]) (some (.int r.1)) (bl [Ci_c E o qa r.2]) 0 0 := by
  refine CT.of (cc := cX2_give) (maxL := 8) (ret := (some .int)) (by decide) rfl (Nat.le_of_ble_eq_true rfl) ?_
  intro p e s m args below meth cd A Q ls B hQ hP hD hS hl
  obtain ⟨hx, hb, hml, hown, hts, hr, hlocks, hK, hZ, hA, hnm⟩ := B
  have hown : s.vm.findClass RX2 = some m.cls := hown
  have hl : lv_has ls 8 [(0, .ref o), (1, .int p0), (2, .int p1), (3, .int p2)] := hl
  have w0 := hts (.fieldLink RX2 11 "HarborLight$Circle" "colors" "[I") (by decide +kernel)
  have in_X2 : ∀ w ∈ wsX20, w ∈ wsX2_give := by decide +kernel
  have hP : va_P E.1 vwCl (bl [[(o, .inr (1, [.ref qa]))], [(qa, .inl (E.2.1, 64, .inl (Ci_colors v)))]]) s.heap := hP
  have hD : va_D A (bl [[(o, .inr (1, [.ref qa]))], [(qa, .inl (E.2.1, 64, .inl (Ci_colors v)))]]) := hD
  have hL14 : ∀ (k : Nat) (u : CiV) (x1 : Int32) (x2 : Int32) (x4 : Int32) (x5 : Int32) (x6 : Int32) (H : Heap) (locs : List Loc), va_P E.1 vwCl (bl [[(o, .inr (1, [.ref qa]))], [(qa, .inl (E.2.1, 64, .inl (Ci_colors u)))]]) H → va_D A (bl [[(o, .inr (1, [.ref qa]))], [(qa, .inl (E.2.1, 64, .inl (Ci_colors u)))]]) → va_S A s.heap H locs → ∀ ls : Array Slot, lv_has ls 8 [(0, .ref o), (1, .int x1), (2, .int x2), (4, .int x4), (5, .int x5), (6, .int x6)] → F_X2_give_L14 n k u x1 x2 x4 x5 x6 = some r → W p l e ({ frames := 0, cells := 0, slots := 0, locals := 0 } : Room) s m args below meth cd H locs 0 0 Q (F0 m 14 ls []) := by
    intro k
    induction k with
    | zero => intro u x1 x2 x4 x5 x6 H locs hP hD hS ls hl hF; cases hF
    | succ k ih =>
      intro u x1 x2 x4 x5 x6 H locs hP hD hS ls hl hF
      rw [F_X2_give_L14] at hF
      refine lv_iload hx hb dX2_give_14 (lv_at hl 5 rfl) ?_
      refine lv_iload hx hb dX2_give_16 (lv_at hl 3 rfl) ?_
      refine f_icmp_gt (tgt := 68) hx hb dX2_give_18 (by decide) hF (fun hF => ?_) (fun hF => ?_)
      · refine lv_iload hx hb dX2_give_68 (lv_at hl 4 rfl) ?_
        exact g_iret (rvf := fun z => some (.int z.1)) (W1f := fun z => bl [Ci_c E o qa z.2]) hx hb hr hlocks hQ hF rfl hP hD hS [0, 1] rfl rfl dX2_give_70
      · refine lv_iload_n hx hb dX2_give_21 rfl (lv_at hl 2 rfl) ?_
        refine lv_iload hx hb dX2_give_22 (lv_at hl 5 rfl) ?_
        refine lv_iadd hx hb dX2_give_24 ?_
        refine lv_bipush (v := 63) hx hb dX2_give_25 (by decide) ?_
        refine lv_iand hx hb dX2_give_27 ?_
        refine lv_istore (lv' := [(7, .int ((x2 + x6) &&& 63)), (0, .ref o), (1, .int x1), (2, .int x2), (4, .int x4), (5, .int x5), (6, .int x6)]) hx hb dX2_give_28 hl (by decide) rfl (fun ls hl => ?_)
        refine lv_iload hx hb dX2_give_30 (lv_at hl 0 rfl) ?_
        refine lv_aload_n hx hb dX2_give_32 rfl (lv_at hl 1 rfl) ?_
        refine g_get (T := TX2) (N := 1) hx hb hts in_X2 hown hK hP 0 rfl rfl 0 (by decide) w0 rfl rfl dX2_give_33 ?_
        refine g_alen (v := 64) hx hb hK hP 1 0 rfl rfl rfl dX2_give_36 ?_
        refine f_icmp_ge (tgt := 62) hx hb dX2_give_37 (by decide) hF (fun hF => ?_) (fun hF => ?_)
        · refine lv_iinc (v := (x6 + 1)) (lv' := [(6, .int (x6 + 1)), (7, .int ((x2 + x6) &&& 63)), (0, .ref o), (1, .int x1), (2, .int x2), (4, .int x4), (5, .int x5)]) hx hb dX2_give_62 hl (k := 6) rfl rfl (by decide) rfl (fun ls hl => ?_)
          refine lv_goto (tgt := 14) hx hb dX2_give_65 (by decide) ?_
          exact ih u x1 x2 x4 x5 (x6 + 1) _ _ hP hD hS _ (lv_sub hl [2, 3, 4, 5, 6, 0] rfl) hF
        · refine lv_aload_n hx hb dX2_give_40 rfl (lv_at hl 1 rfl) ?_
          refine g_get (T := TX2) (N := 1) hx hb hts in_X2 hown hK hP 0 rfl rfl 0 (by decide) w0 rfl rfl dX2_give_41 ?_
          refine lv_iload hx hb dX2_give_44 (lv_at hl 0 rfl) ?_
          refine f_iald hx hb hK hP 1 rfl hF dX2_give_46 (fun hF => ?_)
          refine lv_iload_n hx hb dX2_give_47 rfl (lv_at hl 2 rfl) ?_
          refine f_icmp_eq (tgt := 62) hx hb dX2_give_48 (by decide) hF (fun hF => ?_) (fun hF => ?_)
          · refine lv_iinc (v := (x6 + 1)) (lv' := [(6, .int (x6 + 1)), (7, .int ((x2 + x6) &&& 63)), (0, .ref o), (1, .int x1), (2, .int x2), (4, .int x4), (5, .int x5)]) hx hb dX2_give_62 hl (k := 6) rfl rfl (by decide) rfl (fun ls hl => ?_)
            refine lv_goto (tgt := 14) hx hb dX2_give_65 (by decide) ?_
            exact ih u x1 x2 x4 x5 (x6 + 1) _ _ hP hD hS _ (lv_sub hl [2, 3, 4, 5, 6, 0] rfl) hF
          · refine lv_aload_n hx hb dX2_give_51 rfl (lv_at hl 1 rfl) ?_
            refine g_get (T := TX2) (N := 1) hx hb hts in_X2 hown hK hP 0 rfl rfl 0 (by decide) w0 rfl rfl dX2_give_52 ?_
            refine lv_iload hx hb dX2_give_55 (lv_at hl 0 rfl) ?_
            refine lv_iload_n hx hb dX2_give_57 rfl (lv_at hl 2 rfl) ?_
            refine f_iast hx hb hK hP hD hS 1 rfl hF dX2_give_58 (fun hF H locs hP hD hS => ?_)
            have hP : va_P E.1 vwCl (bl [[(o, .inr (1, [.ref qa]))], [(qa, .inl (E.2.1, 64, .inl (upd (Ci_colors u) ((x2 + x6) &&& 63).toNatClampNeg x1)))]]) H := hP
            have hD : va_D A (bl [[(o, .inr (1, [.ref qa]))], [(qa, .inl (E.2.1, 64, .inl (upd (Ci_colors u) ((x2 + x6) &&& 63).toNatClampNeg x1)))]]) := hD
            refine lv_iinc (v := (x5 + 1)) (lv' := [(5, .int (x5 + 1)), (7, .int ((x2 + x6) &&& 63)), (0, .ref o), (1, .int x1), (2, .int x2), (4, .int x4), (6, .int x6)]) hx hb dX2_give_59 hl (k := 5) rfl rfl (by decide) rfl (fun ls hl => ?_)
            refine lv_iinc (v := (x6 + 1)) (lv' := [(6, .int (x6 + 1)), (5, .int (x5 + 1)), (7, .int ((x2 + x6) &&& 63)), (0, .ref o), (1, .int x1), (2, .int x2), (4, .int x4)]) hx hb dX2_give_62 hl (k := 6) rfl rfl (by decide) rfl (fun ls hl => ?_)
            refine lv_goto (tgt := 14) hx hb dX2_give_65 (by decide) ?_
            exact ih (Ci_mk (upd (Ci_colors u) ((x2 + x6) &&& 63).toNatClampNeg x1)) x1 x2 x4 (x5 + 1) (x6 + 1) _ _ hP hD hS _ (lv_sub hl [3, 4, 5, 6, 1, 0] rfl) hF
  unfold F_X2_give at hF
  refine lv_iload_n hx hb dX2_give_0 rfl (lv_at hl 3 rfl) ?_
  refine lv_iload_n hx hb dX2_give_1 rfl (lv_at hl 2 rfl) ?_
  refine lv_isub hx hb dX2_give_2 ?_
  refine lv_bipush (v := 63) hx hb dX2_give_3 (by decide) ?_
  refine lv_iand hx hb dX2_give_5 ?_
  refine lv_istore (lv' := [(4, .int ((p2 - p1) &&& 63)), (0, .ref o), (1, .int p0), (2, .int p1), (3, .int p2)]) hx hb dX2_give_6 hl (by decide) rfl (fun ls hl => ?_)
  refine lv_iconst (v := 0) hx hb dX2_give_8 (by decide) ?_
  refine lv_istore (lv' := [(5, .int 0), (4, .int ((p2 - p1) &&& 63)), (0, .ref o), (1, .int p0), (2, .int p1), (3, .int p2)]) hx hb dX2_give_9 hl (by decide) rfl (fun ls hl => ?_)
  refine lv_iconst (v := 0) hx hb dX2_give_11 (by decide) ?_
  refine lv_istore (lv' := [(6, .int 0), (5, .int 0), (4, .int ((p2 - p1) &&& 63)), (0, .ref o), (1, .int p0), (2, .int p1), (3, .int p2)]) hx hb dX2_give_12 hl (by decide) rfl (fun ls hl => ?_)
  exact hL14 n v p0 p1 ((p2 - p1) &&& 63) 0 0 _ _ hP hD hS _ (lv_sub hl [3, 4, 5, 2, 1, 0] rfl) hF
def F_X2_isBegin (v : CiV) (p0 : Int32) : Option (Int32) := (F_X2_colorAt v p0).bind fun q1 => (F_X2_colorAt v (p0 - 1)).bind fun q2 => if q1 = q2 then some 0 else some 1
set_option maxHeartbeats 4000000 in
set_option maxRecDepth 100000 in
theorem c_X2_isBegin (l : Launch) (E : GE) (o : Nat) (qa : Nat) (v : CiV) (p0 : Int32) (r : Int32) (hF : F_X2_isBegin v p0 = some r) : CT l E yX2_isBegin wsX2_isBegin ({ frames := 1, cells := 0, slots := 0, locals := 22 } : Room) [.ref o, .int p0] (bl [Ci_c E o qa v]) (some (.int r)) (bl [Ci_c E o qa v]) 0 0 := by
  refine CT.of (cc := cX2_isBegin) (maxL := 2) (ret := (some .boolean)) (by decide) rfl (Nat.le_of_ble_eq_true rfl) ?_
  intro p e s m args below meth cd A Q ls B hQ hP hD hS hl
  obtain ⟨hx, hb, hml, hown, hts, hr, hlocks, hK, hZ, hA, hnm⟩ := B
  have hown : s.vm.findClass RX2 = some m.cls := hown
  have hl : lv_has ls 2 [(0, .ref o), (1, .int p0)] := hl
  unfold F_X2_isBegin at hF
  refine lv_aload_n hx hb dX2_isBegin_0 rfl (lv_at hl 0 rfl) ?_
  refine lv_iload_n hx hb dX2_isBegin_1 rfl (lv_at hl 1 rfl) ?_
  obtain ⟨q1, h_q1, hF⟩ := bnd_s hF
  refine g_callV (As := [.int p0]) (rest := []) ⟨hx, hb, hml, hown, hts⟩ hK hZ hA (c_X2_colorAt l E o qa v p0 q1 h_q1) (cwV 1 hts gX2_isBegin_X2_colorAt rfl rfl rfl (by decide +kernel) ⟨Nat.le_of_ble_eq_true rfl, Nat.le_of_ble_eq_true rfl⟩) hP hD hS [0] [] rfl rfl rfl rfl rfl rfl hl.1 rfl (Nat.le_of_ble_eq_true rfl) dX2_isBegin_2 ⟨Nat.le_of_ble_eq_true rfl, Nat.le_of_ble_eq_true rfl⟩ (fun H locs hP hD hS => ?_)
  have hP : va_P E.1 vwCl (bl [Ci_c E o qa v]) H := hP
  have hD : va_D A (bl [Ci_c E o qa v]) := hD
  refine W.eq (g2 := F0 m 5 ls [.int q1]) rfl ?_
  refine lv_aload_n hx hb dX2_isBegin_5 rfl (lv_at hl 0 rfl) ?_
  refine lv_iload_n hx hb dX2_isBegin_6 rfl (lv_at hl 1 rfl) ?_
  refine lv_iconst (v := 1) hx hb dX2_isBegin_7 (by decide) ?_
  refine lv_isub hx hb dX2_isBegin_8 ?_
  obtain ⟨q2, h_q2, hF⟩ := bnd_s hF
  refine g_callV (As := [.int (p0 - 1)]) (rest := [.int q1]) ⟨hx, hb, hml, hown, hts⟩ hK hZ hA (c_X2_colorAt l E o qa v (p0 - 1) q2 h_q2) (cwV 1 hts gX2_isBegin_X2_colorAt rfl rfl rfl (by decide +kernel) ⟨Nat.le_of_ble_eq_true rfl, Nat.le_of_ble_eq_true rfl⟩) hP hD hS [0] [] rfl rfl rfl rfl rfl rfl hl.1 rfl (Nat.le_of_ble_eq_true rfl) dX2_isBegin_9 ⟨Nat.le_of_ble_eq_true rfl, Nat.le_of_ble_eq_true rfl⟩ (fun H locs hP hD hS => ?_)
  have hP : va_P E.1 vwCl (bl [Ci_c E o qa v]) H := hP
  have hD : va_D A (bl [Ci_c E o qa v]) := hD
  refine W.eq (g2 := F0 m 12 ls [.int q2, .int q1]) rfl ?_
  refine f_icmp_eq (tgt := 19) hx hb dX2_isBegin_12 (by decide) hF (fun hF => ?_) (fun hF => ?_)
  · refine lv_iconst (v := 0) hx hb dX2_isBegin_19 (by decide) ?_
    exact g_zret (rvf := fun z => some (.int z)) (W1f := fun z => bl [Ci_c E o qa v]) hx hb hr hlocks rfl hQ hF rfl hP hD hS [0] rfl rfl dX2_isBegin_20
  · refine lv_iconst (v := 1) hx hb dX2_isBegin_15 (by decide) ?_
    refine lv_goto (tgt := 20) hx hb dX2_isBegin_16 (by decide) ?_
    exact g_zret (rvf := fun z => some (.int z)) (W1f := fun z => bl [Ci_c E o qa v]) hx hb hr hlocks rfl hQ hF rfl hP hD hS [0] rfl rfl dX2_isBegin_20
def F_X2_sectors_L4 (n : Nat) : Nat → CiV → Int32 → Int32 → Option (Int32)
  | 0, _, _, _ => none
  | k + 1, v, x1, x2 => if 64 ≤ x2 then if x1 = 0 then some 1 else some x1 else (F_X2_isBegin v x2).bind fun q1 => if q1 = 0 then F_X2_sectors_L4 n k v x1 (x2 + 1) else F_X2_sectors_L4 n k v (x1 + 1) (x2 + 1)
def F_X2_sectors (n : Nat) (v : CiV) : Option (Int32) := F_X2_sectors_L4 n n v 0 0
set_option maxHeartbeats 4000000 in
set_option maxRecDepth 100000 in
theorem c_X2_sectors (l : Launch) (E : GE) (o : Nat) (qa : Nat) (n : Nat) (v : CiV) (r : Int32) (hF : F_X2_sectors n v = some r) : CT l E yX2_sectors wsX2_sectors ({ frames := 2, cells := 0, slots := 0, locals := 43 } : Room) [.ref o] (bl [Ci_c E o qa v]) (some (.int r)) (bl [Ci_c E o qa v]) 0 0 := by
  refine CT.of (cc := cX2_sectors) (maxL := 3) (ret := (some .int)) (by decide) rfl (Nat.le_of_ble_eq_true rfl) ?_
  intro p e s m args below meth cd A Q ls B hQ hP hD hS hl
  obtain ⟨hx, hb, hml, hown, hts, hr, hlocks, hK, hZ, hA, hnm⟩ := B
  have hown : s.vm.findClass RX2 = some m.cls := hown
  have hl : lv_has ls 3 [(0, .ref o)] := hl
  have hL4 : ∀ (k : Nat) (x1 : Int32) (x2 : Int32) (H : Heap) (locs : List Loc), va_P E.1 vwCl (bl [Ci_c E o qa v]) H → va_D A (bl [Ci_c E o qa v]) → va_S A s.heap H locs → ∀ ls : Array Slot, lv_has ls 3 [(0, .ref o), (1, .int x1), (2, .int x2)] → F_X2_sectors_L4 n k v x1 x2 = some r → W p l e ({ frames := 2, cells := 0, slots := 0, locals := 43 } : Room) s m args below meth cd H locs 0 0 Q (F0 m 4 ls []) := by
    intro k
    induction k with
    | zero => intro x1 x2 H locs hP hD hS ls hl hF; cases hF
    | succ k ih =>
      intro x1 x2 H locs hP hD hS ls hl hF
      rw [F_X2_sectors_L4] at hF
      refine lv_iload_n hx hb dX2_sectors_4 rfl (lv_at hl 2 rfl) ?_
      refine lv_bipush (v := 64) hx hb dX2_sectors_5 (by decide) ?_
      refine f_icmp_ge (tgt := 27) hx hb dX2_sectors_7 (by decide) hF (fun hF => ?_) (fun hF => ?_)
      · refine lv_iload_n hx hb dX2_sectors_27 rfl (lv_at hl 1 rfl) ?_
        refine f_if_ne (tgt := 35) hx hb dX2_sectors_28 (by decide) hF (fun hF => ?_) (fun hF => ?_)
        · refine lv_iload_n hx hb dX2_sectors_35 rfl (lv_at hl 1 rfl) ?_
          exact g_iret (rvf := fun z => some (.int z)) (W1f := fun z => bl [Ci_c E o qa v]) hx hb hr hlocks hQ hF rfl hP hD hS [0] rfl rfl dX2_sectors_36
        · refine lv_iconst (v := 1) hx hb dX2_sectors_31 (by decide) ?_
          refine lv_goto (tgt := 36) hx hb dX2_sectors_32 (by decide) ?_
          exact g_iret (rvf := fun z => some (.int z)) (W1f := fun z => bl [Ci_c E o qa v]) hx hb hr hlocks hQ hF rfl hP hD hS [0] rfl rfl dX2_sectors_36
      · refine lv_aload_n hx hb dX2_sectors_10 rfl (lv_at hl 0 rfl) ?_
        refine lv_iload_n hx hb dX2_sectors_11 rfl (lv_at hl 2 rfl) ?_
        obtain ⟨q1, h_q1, hF⟩ := bnd_s hF
        refine g_callV (As := [.int x2]) (rest := []) ⟨hx, hb, hml, hown, hts⟩ hK hZ hA (c_X2_isBegin l E o qa v x2 q1 h_q1) (cwV 1 hts gX2_sectors_X2_isBegin rfl rfl rfl (by decide +kernel) ⟨Nat.le_of_ble_eq_true rfl, Nat.le_of_ble_eq_true rfl⟩) hP hD hS [0] [] rfl rfl rfl rfl rfl rfl hl.1 rfl (Nat.le_of_ble_eq_true rfl) dX2_sectors_12 ⟨Nat.le_of_ble_eq_true rfl, Nat.le_of_ble_eq_true rfl⟩ (fun H locs hP hD hS => ?_)
        have hP : va_P E.1 vwCl (bl [Ci_c E o qa v]) H := hP
        have hD : va_D A (bl [Ci_c E o qa v]) := hD
        refine W.eq (g2 := F0 m 15 ls [.int q1]) rfl ?_
        refine f_if_eq (tgt := 21) hx hb dX2_sectors_15 (by decide) hF (fun hF => ?_) (fun hF => ?_)
        · refine lv_iinc (v := (x2 + 1)) (lv' := [(2, .int (x2 + 1)), (0, .ref o), (1, .int x1)]) hx hb dX2_sectors_21 hl (k := 2) rfl rfl (by decide) rfl (fun ls hl => ?_)
          refine lv_goto (tgt := 4) hx hb dX2_sectors_24 (by decide) ?_
          exact ih x1 (x2 + 1) _ _ hP hD hS _ (lv_sub hl [1, 2, 0] rfl) hF
        · refine lv_iinc (v := (x1 + 1)) (lv' := [(1, .int (x1 + 1)), (0, .ref o), (2, .int x2)]) hx hb dX2_sectors_18 hl (k := 1) rfl rfl (by decide) rfl (fun ls hl => ?_)
          refine lv_iinc (v := (x2 + 1)) (lv' := [(2, .int (x2 + 1)), (1, .int (x1 + 1)), (0, .ref o)]) hx hb dX2_sectors_21 hl (k := 2) rfl rfl (by decide) rfl (fun ls hl => ?_)
          refine lv_goto (tgt := 4) hx hb dX2_sectors_24 (by decide) ?_
          exact ih (x1 + 1) (x2 + 1) _ _ hP hD hS _ (lv_sub hl [2, 1, 0] rfl) hF
  unfold F_X2_sectors at hF
  refine lv_iconst (v := 0) hx hb dX2_sectors_0 (by decide) ?_
  refine lv_istore_n (lv' := [(1, .int 0), (0, .ref o)]) hx hb dX2_sectors_1 rfl hl (by decide) rfl (fun ls hl => ?_)
  refine lv_iconst (v := 0) hx hb dX2_sectors_2 (by decide) ?_
  refine lv_istore_n (lv' := [(2, .int 0), (1, .int 0), (0, .ref o)]) hx hb dX2_sectors_3 rfl hl (by decide) rfl (fun ls hl => ?_)
  exact hL4 n 0 0 _ _ hP hD hS _ (lv_sub hl [2, 1, 0] rfl) hF
def F_X2_beginOf_L4 (n : Nat) : Nat → CiV → Int32 → Int32 → Int32 → Option (Int32)
  | 0, _, _, _, _ => none
  | k + 1, v, x1, x2, x3 => if 64 ≤ x3 then if x2 = 0 then if x1 = 0 then some 0 else some (-1) else some (-1) else (F_X2_isBegin v x3).bind fun q1 => if q1 = 0 then F_X2_beginOf_L4 n k v x1 x2 (x3 + 1) else if x2 = x1 then some x3 else F_X2_beginOf_L4 n k v x1 (x2 + 1) (x3 + 1)
def F_X2_beginOf (n : Nat) (v : CiV) (p0 : Int32) : Option (Int32) := F_X2_beginOf_L4 n n v p0 0 0
set_option maxHeartbeats 4000000 in
set_option maxRecDepth 100000 in
theorem c_X2_beginOf (l : Launch) (E : GE) (o : Nat) (qa : Nat) (n : Nat) (v : CiV) (p0 : Int32) (r : Int32) (hF : F_X2_beginOf n v p0 = some r) : CT l E yX2_beginOf wsX2_beginOf ({ frames := 2, cells := 0, slots := 0, locals := 43 } : Room) [.ref o, .int p0] (bl [Ci_c E o qa v]) (some (.int r)) (bl [Ci_c E o qa v]) 0 0 := by
  refine CT.of (cc := cX2_beginOf) (maxL := 4) (ret := (some .int)) (by decide) rfl (Nat.le_of_ble_eq_true rfl) ?_
  intro p e s m args below meth cd A Q ls B hQ hP hD hS hl
  obtain ⟨hx, hb, hml, hown, hts, hr, hlocks, hK, hZ, hA, hnm⟩ := B
  have hown : s.vm.findClass RX2 = some m.cls := hown
  have hl : lv_has ls 4 [(0, .ref o), (1, .int p0)] := hl
  have hL4 : ∀ (k : Nat) (x1 : Int32) (x2 : Int32) (x3 : Int32) (H : Heap) (locs : List Loc), va_P E.1 vwCl (bl [Ci_c E o qa v]) H → va_D A (bl [Ci_c E o qa v]) → va_S A s.heap H locs → ∀ ls : Array Slot, lv_has ls 4 [(0, .ref o), (1, .int x1), (2, .int x2), (3, .int x3)] → F_X2_beginOf_L4 n k v x1 x2 x3 = some r → W p l e ({ frames := 2, cells := 0, slots := 0, locals := 43 } : Room) s m args below meth cd H locs 0 0 Q (F0 m 4 ls []) := by
    intro k
    induction k with
    | zero => intro x1 x2 x3 H locs hP hD hS ls hl hF; cases hF
    | succ k ih =>
      intro x1 x2 x3 H locs hP hD hS ls hl hF
      rw [F_X2_beginOf_L4] at hF
      refine lv_iload_n hx hb dX2_beginOf_4 rfl (lv_at hl 3 rfl) ?_
      refine lv_bipush (v := 64) hx hb dX2_beginOf_5 (by decide) ?_
      refine f_icmp_ge (tgt := 34) hx hb dX2_beginOf_7 (by decide) hF (fun hF => ?_) (fun hF => ?_)
      · refine lv_iload_n hx hb dX2_beginOf_34 rfl (lv_at hl 2 rfl) ?_
        refine f_if_ne (tgt := 46) hx hb dX2_beginOf_35 (by decide) hF (fun hF => ?_) (fun hF => ?_)
        · refine lv_iconst (v := (-1)) hx hb dX2_beginOf_46 (by decide) ?_
          exact g_iret (rvf := fun z => some (.int z)) (W1f := fun z => bl [Ci_c E o qa v]) hx hb hr hlocks hQ hF rfl hP hD hS [0] rfl rfl dX2_beginOf_47
        · refine lv_iload_n hx hb dX2_beginOf_38 rfl (lv_at hl 1 rfl) ?_
          refine f_if_ne (tgt := 46) hx hb dX2_beginOf_39 (by decide) hF (fun hF => ?_) (fun hF => ?_)
          · refine lv_iconst (v := (-1)) hx hb dX2_beginOf_46 (by decide) ?_
            exact g_iret (rvf := fun z => some (.int z)) (W1f := fun z => bl [Ci_c E o qa v]) hx hb hr hlocks hQ hF rfl hP hD hS [0] rfl rfl dX2_beginOf_47
          · refine lv_iconst (v := 0) hx hb dX2_beginOf_42 (by decide) ?_
            refine lv_goto (tgt := 47) hx hb dX2_beginOf_43 (by decide) ?_
            exact g_iret (rvf := fun z => some (.int z)) (W1f := fun z => bl [Ci_c E o qa v]) hx hb hr hlocks hQ hF rfl hP hD hS [0] rfl rfl dX2_beginOf_47
      · refine lv_aload_n hx hb dX2_beginOf_10 rfl (lv_at hl 0 rfl) ?_
        refine lv_iload_n hx hb dX2_beginOf_11 rfl (lv_at hl 3 rfl) ?_
        obtain ⟨q1, h_q1, hF⟩ := bnd_s hF
        refine g_callV (As := [.int x3]) (rest := []) ⟨hx, hb, hml, hown, hts⟩ hK hZ hA (c_X2_isBegin l E o qa v x3 q1 h_q1) (cwV 1 hts gX2_beginOf_X2_isBegin rfl rfl rfl (by decide +kernel) ⟨Nat.le_of_ble_eq_true rfl, Nat.le_of_ble_eq_true rfl⟩) hP hD hS [0] [] rfl rfl rfl rfl rfl rfl hl.1 rfl (Nat.le_of_ble_eq_true rfl) dX2_beginOf_12 ⟨Nat.le_of_ble_eq_true rfl, Nat.le_of_ble_eq_true rfl⟩ (fun H locs hP hD hS => ?_)
        have hP : va_P E.1 vwCl (bl [Ci_c E o qa v]) H := hP
        have hD : va_D A (bl [Ci_c E o qa v]) := hD
        refine W.eq (g2 := F0 m 15 ls [.int q1]) rfl ?_
        refine f_if_eq (tgt := 28) hx hb dX2_beginOf_15 (by decide) hF (fun hF => ?_) (fun hF => ?_)
        · refine lv_iinc (v := (x3 + 1)) (lv' := [(3, .int (x3 + 1)), (0, .ref o), (1, .int x1), (2, .int x2)]) hx hb dX2_beginOf_28 hl (k := 3) rfl rfl (by decide) rfl (fun ls hl => ?_)
          refine lv_goto (tgt := 4) hx hb dX2_beginOf_31 (by decide) ?_
          exact ih x1 x2 (x3 + 1) _ _ hP hD hS _ (lv_sub hl [1, 2, 3, 0] rfl) hF
        · refine lv_iload_n hx hb dX2_beginOf_18 rfl (lv_at hl 2 rfl) ?_
          refine lv_iload_n hx hb dX2_beginOf_19 rfl (lv_at hl 1 rfl) ?_
          refine f_icmp_ne (tgt := 25) hx hb dX2_beginOf_20 (by decide) hF (fun hF => ?_) (fun hF => ?_)
          · refine lv_iinc (v := (x2 + 1)) (lv' := [(2, .int (x2 + 1)), (0, .ref o), (1, .int x1), (3, .int x3)]) hx hb dX2_beginOf_25 hl (k := 2) rfl rfl (by decide) rfl (fun ls hl => ?_)
            refine lv_iinc (v := (x3 + 1)) (lv' := [(3, .int (x3 + 1)), (2, .int (x2 + 1)), (0, .ref o), (1, .int x1)]) hx hb dX2_beginOf_28 hl (k := 3) rfl rfl (by decide) rfl (fun ls hl => ?_)
            refine lv_goto (tgt := 4) hx hb dX2_beginOf_31 (by decide) ?_
            exact ih x1 (x2 + 1) (x3 + 1) _ _ hP hD hS _ (lv_sub hl [2, 3, 1, 0] rfl) hF
          · refine lv_iload_n hx hb dX2_beginOf_23 rfl (lv_at hl 3 rfl) ?_
            exact g_iret (rvf := fun z => some (.int z)) (W1f := fun z => bl [Ci_c E o qa v]) hx hb hr hlocks hQ hF rfl hP hD hS [0] rfl rfl dX2_beginOf_24
  unfold F_X2_beginOf at hF
  refine lv_iconst (v := 0) hx hb dX2_beginOf_0 (by decide) ?_
  refine lv_istore_n (lv' := [(2, .int 0), (0, .ref o), (1, .int p0)]) hx hb dX2_beginOf_1 rfl hl (by decide) rfl (fun ls hl => ?_)
  refine lv_iconst (v := 0) hx hb dX2_beginOf_2 (by decide) ?_
  refine lv_istore_n (lv' := [(3, .int 0), (2, .int 0), (0, .ref o), (1, .int p0)]) hx hb dX2_beginOf_3 rfl hl (by decide) rfl (fun ls hl => ?_)
  exact hL4 n p0 0 0 _ _ hP hD hS _ (lv_sub hl [2, 3, 1, 0] rfl) hF
def F_X2_lengthFrom_L2 (n : Nat) : Nat → CiV → Int32 → Int32 → Option (Int32)
  | 0, _, _, _ => none
  | k + 1, v, x1, x2 => if 64 ≤ x2 then some x2 else (F_X2_colorAt v (x1 + x2)).bind fun q1 => (F_X2_colorAt v x1).bind fun q2 => if q1 = q2 then F_X2_lengthFrom_L2 n k v x1 (x2 + 1) else some x2
def F_X2_lengthFrom (n : Nat) (v : CiV) (p0 : Int32) : Option (Int32) := F_X2_lengthFrom_L2 n n v p0 1
set_option maxHeartbeats 4000000 in
set_option maxRecDepth 100000 in
theorem c_X2_lengthFrom (l : Launch) (E : GE) (o : Nat) (qa : Nat) (n : Nat) (v : CiV) (p0 : Int32) (r : Int32) (hF : F_X2_lengthFrom n v p0 = some r) : CT l E yX2_lengthFrom wsX2_lengthFrom ({ frames := 1, cells := 0, slots := 0, locals := 22 } : Room) [.ref o, .int p0] (bl [Ci_c E o qa v]) (some (.int r)) (bl [Ci_c E o qa v]) 0 0 := by
  refine CT.of (cc := cX2_lengthFrom) (maxL := 3) (ret := (some .int)) (by decide) rfl (Nat.le_of_ble_eq_true rfl) ?_
  intro p e s m args below meth cd A Q ls B hQ hP hD hS hl
  obtain ⟨hx, hb, hml, hown, hts, hr, hlocks, hK, hZ, hA, hnm⟩ := B
  have hown : s.vm.findClass RX2 = some m.cls := hown
  have hl : lv_has ls 3 [(0, .ref o), (1, .int p0)] := hl
  have hL2 : ∀ (k : Nat) (x1 : Int32) (x2 : Int32) (H : Heap) (locs : List Loc), va_P E.1 vwCl (bl [Ci_c E o qa v]) H → va_D A (bl [Ci_c E o qa v]) → va_S A s.heap H locs → ∀ ls : Array Slot, lv_has ls 3 [(0, .ref o), (1, .int x1), (2, .int x2)] → F_X2_lengthFrom_L2 n k v x1 x2 = some r → W p l e ({ frames := 1, cells := 0, slots := 0, locals := 22 } : Room) s m args below meth cd H locs 0 0 Q (F0 m 2 ls []) := by
    intro k
    induction k with
    | zero => intro x1 x2 H locs hP hD hS ls hl hF; cases hF
    | succ k ih =>
      intro x1 x2 H locs hP hD hS ls hl hF
      rw [F_X2_lengthFrom_L2] at hF
      refine lv_iload_n hx hb dX2_lengthFrom_2 rfl (lv_at hl 2 rfl) ?_
      refine lv_bipush (v := 64) hx hb dX2_lengthFrom_3 (by decide) ?_
      refine f_icmp_ge (tgt := 29) hx hb dX2_lengthFrom_5 (by decide) hF (fun hF => ?_) (fun hF => ?_)
      · refine lv_iload_n hx hb dX2_lengthFrom_29 rfl (lv_at hl 2 rfl) ?_
        exact g_iret (rvf := fun z => some (.int z)) (W1f := fun z => bl [Ci_c E o qa v]) hx hb hr hlocks hQ hF rfl hP hD hS [0] rfl rfl dX2_lengthFrom_30
      · refine lv_aload_n hx hb dX2_lengthFrom_8 rfl (lv_at hl 0 rfl) ?_
        refine lv_iload_n hx hb dX2_lengthFrom_9 rfl (lv_at hl 1 rfl) ?_
        refine lv_iload_n hx hb dX2_lengthFrom_10 rfl (lv_at hl 2 rfl) ?_
        refine lv_iadd hx hb dX2_lengthFrom_11 ?_
        obtain ⟨q1, h_q1, hF⟩ := bnd_s hF
        refine g_callV (As := [.int (x1 + x2)]) (rest := []) ⟨hx, hb, hml, hown, hts⟩ hK hZ hA (c_X2_colorAt l E o qa v (x1 + x2) q1 h_q1) (cwV 1 hts gX2_lengthFrom_X2_colorAt rfl rfl rfl (by decide +kernel) ⟨Nat.le_of_ble_eq_true rfl, Nat.le_of_ble_eq_true rfl⟩) hP hD hS [0] [] rfl rfl rfl rfl rfl rfl hl.1 rfl (Nat.le_of_ble_eq_true rfl) dX2_lengthFrom_12 ⟨Nat.le_of_ble_eq_true rfl, Nat.le_of_ble_eq_true rfl⟩ (fun H locs hP hD hS => ?_)
        have hP : va_P E.1 vwCl (bl [Ci_c E o qa v]) H := hP
        have hD : va_D A (bl [Ci_c E o qa v]) := hD
        refine W.eq (g2 := F0 m 15 ls [.int q1]) rfl ?_
        refine lv_aload_n hx hb dX2_lengthFrom_15 rfl (lv_at hl 0 rfl) ?_
        refine lv_iload_n hx hb dX2_lengthFrom_16 rfl (lv_at hl 1 rfl) ?_
        obtain ⟨q2, h_q2, hF⟩ := bnd_s hF
        refine g_callV (As := [.int x1]) (rest := [.int q1]) ⟨hx, hb, hml, hown, hts⟩ hK hZ hA (c_X2_colorAt l E o qa v x1 q2 h_q2) (cwV 1 hts gX2_lengthFrom_X2_colorAt rfl rfl rfl (by decide +kernel) ⟨Nat.le_of_ble_eq_true rfl, Nat.le_of_ble_eq_true rfl⟩) hP hD hS [0] [] rfl rfl rfl rfl rfl rfl hl.1 rfl (Nat.le_of_ble_eq_true rfl) dX2_lengthFrom_17 ⟨Nat.le_of_ble_eq_true rfl, Nat.le_of_ble_eq_true rfl⟩ (fun H locs hP hD hS => ?_)
        have hP : va_P E.1 vwCl (bl [Ci_c E o qa v]) H := hP
        have hD : va_D A (bl [Ci_c E o qa v]) := hD
        refine W.eq (g2 := F0 m 20 ls [.int q2, .int q1]) rfl ?_
        refine f_icmp_ne (tgt := 29) hx hb dX2_lengthFrom_20 (by decide) hF (fun hF => ?_) (fun hF => ?_)
        · refine lv_iload_n hx hb dX2_lengthFrom_29 rfl (lv_at hl 2 rfl) ?_
          exact g_iret (rvf := fun z => some (.int z)) (W1f := fun z => bl [Ci_c E o qa v]) hx hb hr hlocks hQ hF rfl hP hD hS [0] rfl rfl dX2_lengthFrom_30
        · refine lv_iinc (v := (x2 + 1)) (lv' := [(2, .int (x2 + 1)), (0, .ref o), (1, .int x1)]) hx hb dX2_lengthFrom_23 hl (k := 2) rfl rfl (by decide) rfl (fun ls hl => ?_)
          refine lv_goto (tgt := 2) hx hb dX2_lengthFrom_26 (by decide) ?_
          exact ih x1 (x2 + 1) _ _ hP hD hS _ (lv_sub hl [1, 2, 0] rfl) hF
  unfold F_X2_lengthFrom at hF
  refine lv_iconst (v := 1) hx hb dX2_lengthFrom_0 (by decide) ?_
  refine lv_istore_n (lv' := [(2, .int 1), (0, .ref o), (1, .int p0)]) hx hb dX2_lengthFrom_1 rfl hl (by decide) rfl (fun ls hl => ?_)
  exact hL2 n p0 1 _ _ hP hD hS _ (lv_sub hl [1, 2, 0] rfl) hF
def F_X2_differences_L4 (n : Nat) : Nat → CiV → CiV → Int32 → Int32 → Option (Int32)
  | 0, _, _, _, _ => none
  | k + 1, v, v2, x2, x3 => if 64 ≤ x3 then some x2 else (F_X2_colorAt v x3).bind fun q1 => (F_X2_colorAt v2 x3).bind fun q2 => if q1 = q2 then F_X2_differences_L4 n k v v2 x2 (x3 + 1) else F_X2_differences_L4 n k v v2 (x2 + 1) (x3 + 1)
def F_X2_differences (n : Nat) (v : CiV) (v2 : CiV) : Option (Int32) := F_X2_differences_L4 n n v v2 0 0
set_option maxHeartbeats 4000000 in
set_option maxRecDepth 100000 in
theorem c_X2_differences (l : Launch) (E : GE) (o : Nat) (qa : Nat) (o2 : Nat) (qa2 : Nat) (n : Nat) (v : CiV) (v2 : CiV) (r : Int32) (hF : F_X2_differences n v v2 = some r) : CT l E yX2_differences wsX2_differences ({ frames := 1, cells := 0, slots := 0, locals := 22 } : Room) [.ref o, .ref o2] (bl [Ci_c E o qa v, Ci_c E o2 qa2 v2]) (some (.int r)) (bl [Ci_c E o qa v, Ci_c E o2 qa2 v2]) 0 0 := by
  refine CT.of (cc := cX2_differences) (maxL := 4) (ret := (some .int)) (by decide) rfl (Nat.le_of_ble_eq_true rfl) ?_
  intro p e s m args below meth cd A Q ls B hQ hP hD hS hl
  obtain ⟨hx, hb, hml, hown, hts, hr, hlocks, hK, hZ, hA, hnm⟩ := B
  have hown : s.vm.findClass RX2 = some m.cls := hown
  have hl : lv_has ls 4 [(0, .ref o), (1, .ref o2)] := hl
  have hL4 : ∀ (k : Nat) (x2 : Int32) (x3 : Int32) (H : Heap) (locs : List Loc), va_P E.1 vwCl (bl [Ci_c E o qa v, Ci_c E o2 qa2 v2]) H → va_D A (bl [Ci_c E o qa v, Ci_c E o2 qa2 v2]) → va_S A s.heap H locs → ∀ ls : Array Slot, lv_has ls 4 [(0, .ref o), (1, .ref o2), (2, .int x2), (3, .int x3)] → F_X2_differences_L4 n k v v2 x2 x3 = some r → W p l e ({ frames := 1, cells := 0, slots := 0, locals := 22 } : Room) s m args below meth cd H locs 0 0 Q (F0 m 4 ls []) := by
    intro k
    induction k with
    | zero => intro x2 x3 H locs hP hD hS ls hl hF; cases hF
    | succ k ih =>
      intro x2 x3 H locs hP hD hS ls hl hF
      rw [F_X2_differences_L4] at hF
      refine lv_iload_n hx hb dX2_differences_4 rfl (lv_at hl 3 rfl) ?_
      refine lv_bipush (v := 64) hx hb dX2_differences_5 (by decide) ?_
      refine f_icmp_ge (tgt := 32) hx hb dX2_differences_7 (by decide) hF (fun hF => ?_) (fun hF => ?_)
      · refine lv_iload_n hx hb dX2_differences_32 rfl (lv_at hl 2 rfl) ?_
        exact g_iret (rvf := fun z => some (.int z)) (W1f := fun z => bl [Ci_c E o qa v, Ci_c E o2 qa2 v2]) hx hb hr hlocks hQ hF rfl hP hD hS [0, 1] rfl rfl dX2_differences_33
      · refine lv_aload_n hx hb dX2_differences_10 rfl (lv_at hl 0 rfl) ?_
        refine lv_iload_n hx hb dX2_differences_11 rfl (lv_at hl 3 rfl) ?_
        obtain ⟨q1, h_q1, hF⟩ := bnd_s hF
        refine g_callV (As := [.int x3]) (rest := []) ⟨hx, hb, hml, hown, hts⟩ hK hZ hA (c_X2_colorAt l E o qa v x3 q1 h_q1) (cwV 1 hts gX2_differences_X2_colorAt rfl rfl rfl (by decide +kernel) ⟨Nat.le_of_ble_eq_true rfl, Nat.le_of_ble_eq_true rfl⟩) hP hD hS [0] [1] rfl rfl rfl rfl rfl rfl hl.1 rfl (Nat.le_of_ble_eq_true rfl) dX2_differences_12 ⟨Nat.le_of_ble_eq_true rfl, Nat.le_of_ble_eq_true rfl⟩ (fun H locs hP hD hS => ?_)
        have hP : va_P E.1 vwCl (bl [Ci_c E o qa v, Ci_c E o2 qa2 v2]) H := hP
        have hD : va_D A (bl [Ci_c E o qa v, Ci_c E o2 qa2 v2]) := hD
        refine W.eq (g2 := F0 m 15 ls [.int q1]) rfl ?_
        refine lv_aload_n hx hb dX2_differences_15 rfl (lv_at hl 1 rfl) ?_
        refine lv_iload_n hx hb dX2_differences_16 rfl (lv_at hl 3 rfl) ?_
        obtain ⟨q2, h_q2, hF⟩ := bnd_s hF
        refine g_callV (As := [.int x3]) (rest := [.int q1]) ⟨hx, hb, hml, hown, hts⟩ hK hZ hA (c_X2_colorAt l E o2 qa2 v2 x3 q2 h_q2) (cwV 1 hts gX2_differences_X2_colorAt rfl rfl rfl (by decide +kernel) ⟨Nat.le_of_ble_eq_true rfl, Nat.le_of_ble_eq_true rfl⟩) hP hD hS [1] [0] rfl rfl rfl rfl rfl rfl hl.1 rfl (Nat.le_of_ble_eq_true rfl) dX2_differences_17 ⟨Nat.le_of_ble_eq_true rfl, Nat.le_of_ble_eq_true rfl⟩ (fun H locs hP hD hS => ?_)
        have hP : va_P E.1 vwCl (bl [Ci_c E o2 qa2 v2, Ci_c E o qa v]) H := hP
        have hD : va_D A (bl [Ci_c E o2 qa2 v2, Ci_c E o qa v]) := hD
        refine W.eq (g2 := F0 m 20 ls [.int q2, .int q1]) rfl ?_
        refine f_icmp_eq (tgt := 26) hx hb dX2_differences_20 (by decide) hF (fun hF => ?_) (fun hF => ?_)
        · refine lv_iinc (v := (x3 + 1)) (lv' := [(3, .int (x3 + 1)), (0, .ref o), (1, .ref o2), (2, .int x2)]) hx hb dX2_differences_26 hl (k := 3) rfl rfl (by decide) rfl (fun ls hl => ?_)
          refine lv_goto (tgt := 4) hx hb dX2_differences_29 (by decide) ?_
          exact ih x2 (x3 + 1) _ _ (bl_P hP [1, 0] rfl) (bl_D hD [1, 0] rfl rfl) hS _ (lv_sub hl [1, 2, 3, 0] rfl) hF
        · refine lv_iinc (v := (x2 + 1)) (lv' := [(2, .int (x2 + 1)), (0, .ref o), (1, .ref o2), (3, .int x3)]) hx hb dX2_differences_23 hl (k := 2) rfl rfl (by decide) rfl (fun ls hl => ?_)
          refine lv_iinc (v := (x3 + 1)) (lv' := [(3, .int (x3 + 1)), (2, .int (x2 + 1)), (0, .ref o), (1, .ref o2)]) hx hb dX2_differences_26 hl (k := 3) rfl rfl (by decide) rfl (fun ls hl => ?_)
          refine lv_goto (tgt := 4) hx hb dX2_differences_29 (by decide) ?_
          exact ih (x2 + 1) (x3 + 1) _ _ (bl_P hP [1, 0] rfl) (bl_D hD [1, 0] rfl rfl) hS _ (lv_sub hl [2, 3, 1, 0] rfl) hF
  unfold F_X2_differences at hF
  refine lv_iconst (v := 0) hx hb dX2_differences_0 (by decide) ?_
  refine lv_istore_n (lv' := [(2, .int 0), (0, .ref o), (1, .ref o2)]) hx hb dX2_differences_1 rfl hl (by decide) rfl (fun ls hl => ?_)
  refine lv_iconst (v := 0) hx hb dX2_differences_2 (by decide) ?_
  refine lv_istore_n (lv' := [(3, .int 0), (2, .int 0), (0, .ref o), (1, .ref o2)]) hx hb dX2_differences_3 rfl hl (by decide) rfl (fun ls hl => ?_)
  exact hL4 n 0 0 _ _ hP hD hS _ (lv_sub hl [2, 3, 1, 0] rfl) hF
def F_X3_east_J44 (x2 : Int32) (y0 : Int32) : Option (Int32) := if y0 < 0 then some 0 else if y0 < 17 then if x2 = 0 then chk y0 17 (some (gSin y0.toNatClampNeg)) else chk y0 17 (some (-(gSin y0.toNatClampNeg))) else some 0
def F_X3_east_J29 (x2 : Int32) (y0 : Int32) : Option (Int32) := if y0 ≤ 16 then F_X3_east_J44 x2 y0 else F_X3_east_J44 x2 (32 - y0)
def F_X3_east_J16 (x1 : Int32) (y0 : Int32) : Option (Int32) := if y0 = 0 then F_X3_east_J29 y0 x1 else F_X3_east_J29 y0 (x1 - 32)
def F_X3_east (p0 : Int32) : Option (Int32) := if (p0 &&& 63) < 32 then F_X3_east_J16 (p0 &&& 63) 0 else F_X3_east_J16 (p0 &&& 63) 1
set_option maxHeartbeats 4000000 in
set_option maxRecDepth 100000 in
theorem c_X3_east (l : Launch) (E : GE)  (p0 : Int32) (r : Int32) (hF : F_X3_east p0 = some r) : CT l E yX3_east wsX3_east ({ frames := 0, cells := 0, slots := 0, locals := 0 } : Room) [.int p0] (bl []) (some (.int r)) (bl []) 0 0 := by
  refine CT.of (cc := cX3_east) (maxL := 5) (ret := (some .int)) (by decide) rfl (Nat.le_of_ble_eq_true rfl) ?_
  intro p e s m args below meth cd A Q ls B hQ hP hD hS hl
  obtain ⟨hx, hb, hml, hown, hts, hr, hlocks, hK, hZ, hA, hnm⟩ := B
  have hown : s.vm.findClass RX3 = some m.cls := hown
  have hl : lv_has ls 5 [(0, .int p0)] := hl
  have w0 := hts (.fieldLink RX3 11 "HarborLight$Compass" "SINES" "[I") (by decide +kernel)
  have hJ44 : ∀ (x2 : Int32) (y0 : Int32) (H : Heap) (locs : List Loc), va_P E.1 vwCl (bl []) H → va_D A (bl []) → va_S A s.heap H locs → ∀ ls : Array Slot, lv_has ls 5 [(2, .int x2)] → F_X3_east_J44 x2 y0 = some r → W p l e ({ frames := 0, cells := 0, slots := 0, locals := 0 } : Room) s m args below meth cd H locs 0 0 Q (F0 m 44 ls [.int y0]) := by
    intro x2 y0 H locs hP hD hS ls hl hF
    unfold F_X3_east_J44 at hF
    refine lv_istore (lv' := [(4, .int y0), (2, .int x2)]) hx hb dX3_east_44 hl (by decide) rfl (fun ls hl => ?_)
    refine lv_iload hx hb dX3_east_46 (lv_at hl 0 rfl) ?_
    refine f_if_lt (tgt := 60) hx hb dX3_east_48 (by decide) hF (fun hF => ?_) (fun hF => ?_)
    · refine lv_iconst (v := 0) hx hb dX3_east_60 (by decide) ?_
      exact g_iret (rvf := fun z => some (.int z)) (W1f := fun z => bl []) hx hb hr hlocks hQ hF rfl hP hD hS [] rfl rfl dX3_east_61
    · refine lv_iload hx hb dX3_east_51 (lv_at hl 0 rfl) ?_
      refine va_gets hx hb hZ.1 hS hown w0 (fun _ h => h) dX3_east_53 ?_
      refine va_tlen (v := 17) hx hb hZ.2.1 hS rfl dX3_east_56 ?_
      refine f_icmp_lt (tgt := 62) hx hb dX3_east_57 (by decide) hF (fun hF => ?_) (fun hF => ?_)
      · refine lv_iload_n hx hb dX3_east_62 rfl (lv_at hl 1 rfl) ?_
        refine f_if_eq (tgt := 76) hx hb dX3_east_63 (by decide) hF (fun hF => ?_) (fun hF => ?_)
        · refine va_gets hx hb hZ.1 hS hown w0 (fun _ h => h) dX3_east_76 ?_
          refine lv_iload hx hb dX3_east_79 (lv_at hl 0 rfl) ?_
          refine f_tald hx hb hZ hS hF dX3_east_81 (fun hF => ?_)
          exact g_iret (rvf := fun z => some (.int z)) (W1f := fun z => bl []) hx hb hr hlocks hQ hF rfl hP hD hS [] rfl rfl dX3_east_82
        · refine va_gets hx hb hZ.1 hS hown w0 (fun _ h => h) dX3_east_66 ?_
          refine lv_iload hx hb dX3_east_69 (lv_at hl 0 rfl) ?_
          refine f_tald hx hb hZ hS hF dX3_east_71 (fun hF => ?_)
          refine lv_ineg hx hb dX3_east_72 ?_
          refine lv_goto (tgt := 82) hx hb dX3_east_73 (by decide) ?_
          exact g_iret (rvf := fun z => some (.int z)) (W1f := fun z => bl []) hx hb hr hlocks hQ hF rfl hP hD hS [] rfl rfl dX3_east_82
      · refine lv_iconst (v := 0) hx hb dX3_east_60 (by decide) ?_
        exact g_iret (rvf := fun z => some (.int z)) (W1f := fun z => bl []) hx hb hr hlocks hQ hF rfl hP hD hS [] rfl rfl dX3_east_61
  have hJ29 : ∀ (x2 : Int32) (y0 : Int32) (H : Heap) (locs : List Loc), va_P E.1 vwCl (bl []) H → va_D A (bl []) → va_S A s.heap H locs → ∀ ls : Array Slot, lv_has ls 5 [(2, .int x2)] → F_X3_east_J29 x2 y0 = some r → W p l e ({ frames := 0, cells := 0, slots := 0, locals := 0 } : Room) s m args below meth cd H locs 0 0 Q (F0 m 29 ls [.int y0]) := by
    intro x2 y0 H locs hP hD hS ls hl hF
    unfold F_X3_east_J29 at hF
    refine lv_istore_n (lv' := [(3, .int y0), (2, .int x2)]) hx hb dX3_east_29 rfl hl (by decide) rfl (fun ls hl => ?_)
    refine lv_iload_n hx hb dX3_east_30 rfl (lv_at hl 0 rfl) ?_
    refine lv_bipush (v := 16) hx hb dX3_east_31 (by decide) ?_
    refine f_icmp_le (tgt := 43) hx hb dX3_east_33 (by decide) hF (fun hF => ?_) (fun hF => ?_)
    · refine lv_iload_n hx hb dX3_east_43 rfl (lv_at hl 0 rfl) ?_
      exact hJ44 x2 y0 _ _ hP hD hS _ (lv_sub hl [1] rfl) hF
    · refine lv_bipush (v := 32) hx hb dX3_east_36 (by decide) ?_
      refine lv_iload_n hx hb dX3_east_38 rfl (lv_at hl 0 rfl) ?_
      refine lv_isub hx hb dX3_east_39 ?_
      refine lv_goto (tgt := 44) hx hb dX3_east_40 (by decide) ?_
      exact hJ44 x2 (32 - y0) _ _ hP hD hS _ (lv_sub hl [1] rfl) hF
  have hJ16 : ∀ (x1 : Int32) (y0 : Int32) (H : Heap) (locs : List Loc), va_P E.1 vwCl (bl []) H → va_D A (bl []) → va_S A s.heap H locs → ∀ ls : Array Slot, lv_has ls 5 [(1, .int x1)] → F_X3_east_J16 x1 y0 = some r → W p l e ({ frames := 0, cells := 0, slots := 0, locals := 0 } : Room) s m args below meth cd H locs 0 0 Q (F0 m 16 ls [.int y0]) := by
    intro x1 y0 H locs hP hD hS ls hl hF
    unfold F_X3_east_J16 at hF
    refine lv_istore_n (lv' := [(2, .int y0), (1, .int x1)]) hx hb dX3_east_16 rfl hl (by decide) rfl (fun ls hl => ?_)
    refine lv_iload_n hx hb dX3_east_17 rfl (lv_at hl 0 rfl) ?_
    refine f_if_eq (tgt := 28) hx hb dX3_east_18 (by decide) hF (fun hF => ?_) (fun hF => ?_)
    · refine lv_iload_n hx hb dX3_east_28 rfl (lv_at hl 1 rfl) ?_
      exact hJ29 y0 x1 _ _ hP hD hS _ (lv_sub hl [0] rfl) hF
    · refine lv_iload_n hx hb dX3_east_21 rfl (lv_at hl 1 rfl) ?_
      refine lv_bipush (v := 32) hx hb dX3_east_22 (by decide) ?_
      refine lv_isub hx hb dX3_east_24 ?_
      refine lv_goto (tgt := 29) hx hb dX3_east_25 (by decide) ?_
      exact hJ29 y0 (x1 - 32) _ _ hP hD hS _ (lv_sub hl [0] rfl) hF
  unfold F_X3_east at hF
  refine lv_iload_n hx hb dX3_east_0 rfl (lv_at hl 0 rfl) ?_
  refine lv_bipush (v := 63) hx hb dX3_east_1 (by decide) ?_
  refine lv_iand hx hb dX3_east_3 ?_
  refine lv_istore_n (lv' := [(1, .int (p0 &&& 63)), (0, .int p0)]) hx hb dX3_east_4 rfl hl (by decide) rfl (fun ls hl => ?_)
  refine lv_iload_n hx hb dX3_east_5 rfl (lv_at hl 0 rfl) ?_
  refine lv_bipush (v := 32) hx hb dX3_east_6 (by decide) ?_
  refine f_icmp_lt (tgt := 15) hx hb dX3_east_8 (by decide) hF (fun hF => ?_) (fun hF => ?_)
  · refine lv_iconst (v := 0) hx hb dX3_east_15 (by decide) ?_
    exact hJ16 (p0 &&& 63) 0 _ _ hP hD hS _ (lv_sub hl [0] rfl) hF
  · refine lv_iconst (v := 1) hx hb dX3_east_11 (by decide) ?_
    refine lv_goto (tgt := 16) hx hb dX3_east_12 (by decide) ?_
    exact hJ16 (p0 &&& 63) 1 _ _ hP hD hS _ (lv_sub hl [0] rfl) hF
def F_X3_north (p0 : Int32) : Option (Int32) := (F_X3_east (p0 + 16)).bind fun q1 => some q1
set_option maxHeartbeats 4000000 in
set_option maxRecDepth 100000 in
theorem c_X3_north (l : Launch) (E : GE)  (p0 : Int32) (r : Int32) (hF : F_X3_north p0 = some r) : CT l E yX3_north wsX3_north ({ frames := 1, cells := 0, slots := 0, locals := 24 } : Room) [.int p0] (bl []) (some (.int r)) (bl []) 0 0 := by
  refine CT.of (cc := cX3_north) (maxL := 1) (ret := (some .int)) (by decide) rfl (Nat.le_of_ble_eq_true rfl) ?_
  intro p e s m args below meth cd A Q ls B hQ hP hD hS hl
  obtain ⟨hx, hb, hml, hown, hts, hr, hlocks, hK, hZ, hA, hnm⟩ := B
  have hown : s.vm.findClass RX3 = some m.cls := hown
  have hl : lv_has ls 1 [(0, .int p0)] := hl
  unfold F_X3_north at hF
  refine lv_iload_n hx hb dX3_north_0 rfl (lv_at hl 0 rfl) ?_
  refine lv_bipush (v := 16) hx hb dX3_north_1 (by decide) ?_
  refine lv_iadd hx hb dX3_north_3 ?_
  obtain ⟨q1, h_q1, hF⟩ := bnd_s hF
  refine g_callS (As := [.int (p0 + 16)]) (rest := []) ⟨hx, hb, hml, hown, hts⟩ hK hZ hA (c_X3_east l E  (p0 + 16) q1 h_q1) (va_cwS 1 hts gX3_north_X3_east rfl rfl rfl (by decide +kernel) ⟨Nat.le_of_ble_eq_true rfl, Nat.le_of_ble_eq_true rfl⟩) hP hD hS [] [] rfl rfl rfl hl.1 rfl (Nat.le_of_ble_eq_true rfl) dX3_north_4 ⟨Nat.le_of_ble_eq_true rfl, Nat.le_of_ble_eq_true rfl⟩ (fun H locs hP hD hS => ?_)
  have hP : va_P E.1 vwCl (bl []) H := hP
  have hD : va_D A (bl []) := hD
  refine W.eq (g2 := F0 m 7 ls [.int q1]) rfl ?_
  exact g_iret (rvf := fun z => some (.int z)) (W1f := fun z => bl []) hx hb hr hlocks hQ hF rfl hP hD hS [] rfl rfl dX3_north_7
def F_X3_between_L2 (n : Nat) : Nat → Int32 → Int32 → Int32 → Option (Int32)
  | 0, _, _, _ => none
  | k + 1, x0, x1, x2 => if 64 ≤ x2 then some (-4) else (F_X3_north x2).bind fun q1 => (F_X3_east x2).bind fun q2 => if ((x0 * q1) - (x1 * q2)) < 0 then F_X3_between_L2 n k x0 x1 (x2 + 1) else (F_X3_north (x2 + 1)).bind fun q3 => (F_X3_east (x2 + 1)).bind fun q4 => if 0 ≤ ((x0 * q3) - (x1 * q4)) then F_X3_between_L2 n k x0 x1 (x2 + 1) else some x2
def F_X3_between (n : Nat) (p0 : Int32) (p1 : Int32) : Option (Int32) := F_X3_between_L2 n n p0 p1 0
set_option maxHeartbeats 4000000 in
set_option maxRecDepth 100000 in
theorem c_X3_between (l : Launch) (E : GE)  (n : Nat) (p0 : Int32) (p1 : Int32) (r : Int32) (hF : F_X3_between n p0 p1 = some r) : CT l E yX3_between wsX3_between ({ frames := 2, cells := 0, slots := 0, locals := 44 } : Room) [.int p0, .int p1] (bl []) (some (.int r)) (bl []) 0 0 := by
  refine CT.of (cc := cX3_between) (maxL := 3) (ret := (some .int)) (by decide) rfl (Nat.le_of_ble_eq_true rfl) ?_
  intro p e s m args below meth cd A Q ls B hQ hP hD hS hl
  obtain ⟨hx, hb, hml, hown, hts, hr, hlocks, hK, hZ, hA, hnm⟩ := B
  have hown : s.vm.findClass RX3 = some m.cls := hown
  have hl : lv_has ls 3 [(0, .int p0), (1, .int p1)] := hl
  have hL2 : ∀ (k : Nat) (x0 : Int32) (x1 : Int32) (x2 : Int32) (H : Heap) (locs : List Loc), va_P E.1 vwCl (bl []) H → va_D A (bl []) → va_S A s.heap H locs → ∀ ls : Array Slot, lv_has ls 3 [(0, .int x0), (1, .int x1), (2, .int x2)] → F_X3_between_L2 n k x0 x1 x2 = some r → W p l e ({ frames := 2, cells := 0, slots := 0, locals := 44 } : Room) s m args below meth cd H locs 0 0 Q (F0 m 2 ls []) := by
    intro k
    induction k with
    | zero => intro x0 x1 x2 H locs hP hD hS ls hl hF; cases hF
    | succ k ih =>
      intro x0 x1 x2 H locs hP hD hS ls hl hF
      rw [F_X3_between_L2] at hF
      refine lv_iload_n hx hb dX3_between_2 rfl (lv_at hl 2 rfl) ?_
      refine lv_bipush (v := 64) hx hb dX3_between_3 (by decide) ?_
      refine f_icmp_ge (tgt := 52) hx hb dX3_between_5 (by decide) hF (fun hF => ?_) (fun hF => ?_)
      · refine lv_bipush (v := (-4)) hx hb dX3_between_52 (by decide) ?_
        exact g_iret (rvf := fun z => some (.int z)) (W1f := fun z => bl []) hx hb hr hlocks hQ hF rfl hP hD hS [] rfl rfl dX3_between_54
      · refine lv_iload_n hx hb dX3_between_8 rfl (lv_at hl 0 rfl) ?_
        refine lv_iload_n hx hb dX3_between_9 rfl (lv_at hl 2 rfl) ?_
        obtain ⟨q1, h_q1, hF⟩ := bnd_s hF
        refine g_callS (As := [.int x2]) (rest := [.int x0]) ⟨hx, hb, hml, hown, hts⟩ hK hZ hA (c_X3_north l E  x2 q1 h_q1) (va_cwS 1 hts gX3_between_X3_north rfl rfl rfl (by decide +kernel) ⟨Nat.le_of_ble_eq_true rfl, Nat.le_of_ble_eq_true rfl⟩) hP hD hS [] [] rfl rfl rfl hl.1 rfl (Nat.le_of_ble_eq_true rfl) dX3_between_10 ⟨Nat.le_of_ble_eq_true rfl, Nat.le_of_ble_eq_true rfl⟩ (fun H locs hP hD hS => ?_)
        have hP : va_P E.1 vwCl (bl []) H := hP
        have hD : va_D A (bl []) := hD
        refine W.eq (g2 := F0 m 13 ls [.int q1, .int x0]) rfl ?_
        refine lv_imul hx hb dX3_between_13 ?_
        refine lv_iload_n hx hb dX3_between_14 rfl (lv_at hl 1 rfl) ?_
        refine lv_iload_n hx hb dX3_between_15 rfl (lv_at hl 2 rfl) ?_
        obtain ⟨q2, h_q2, hF⟩ := bnd_s hF
        refine g_callS (As := [.int x2]) (rest := [.int x1, .int (x0 * q1)]) ⟨hx, hb, hml, hown, hts⟩ hK hZ hA (c_X3_east l E  x2 q2 h_q2) (va_cwS 1 hts gX3_between_X3_east rfl rfl rfl (by decide +kernel) ⟨Nat.le_of_ble_eq_true rfl, Nat.le_of_ble_eq_true rfl⟩) hP hD hS [] [] rfl rfl rfl hl.1 rfl (Nat.le_of_ble_eq_true rfl) dX3_between_16 ⟨Nat.le_of_ble_eq_true rfl, Nat.le_of_ble_eq_true rfl⟩ (fun H locs hP hD hS => ?_)
        have hP : va_P E.1 vwCl (bl []) H := hP
        have hD : va_D A (bl []) := hD
        refine W.eq (g2 := F0 m 19 ls [.int q2, .int x1, .int (x0 * q1)]) rfl ?_
        refine lv_imul hx hb dX3_between_19 ?_
        refine lv_isub hx hb dX3_between_20 ?_
        refine f_if_lt (tgt := 46) hx hb dX3_between_21 (by decide) hF (fun hF => ?_) (fun hF => ?_)
        · refine lv_iinc (v := (x2 + 1)) (lv' := [(2, .int (x2 + 1)), (0, .int x0), (1, .int x1)]) hx hb dX3_between_46 hl (k := 2) rfl rfl (by decide) rfl (fun ls hl => ?_)
          refine lv_goto (tgt := 2) hx hb dX3_between_49 (by decide) ?_
          exact ih x0 x1 (x2 + 1) _ _ hP hD hS _ (lv_sub hl [1, 2, 0] rfl) hF
        · refine lv_iload_n hx hb dX3_between_24 rfl (lv_at hl 0 rfl) ?_
          refine lv_iload_n hx hb dX3_between_25 rfl (lv_at hl 2 rfl) ?_
          refine lv_iconst (v := 1) hx hb dX3_between_26 (by decide) ?_
          refine lv_iadd hx hb dX3_between_27 ?_
          obtain ⟨q3, h_q3, hF⟩ := bnd_s hF
          refine g_callS (As := [.int (x2 + 1)]) (rest := [.int x0]) ⟨hx, hb, hml, hown, hts⟩ hK hZ hA (c_X3_north l E  (x2 + 1) q3 h_q3) (va_cwS 1 hts gX3_between_X3_north rfl rfl rfl (by decide +kernel) ⟨Nat.le_of_ble_eq_true rfl, Nat.le_of_ble_eq_true rfl⟩) hP hD hS [] [] rfl rfl rfl hl.1 rfl (Nat.le_of_ble_eq_true rfl) dX3_between_28 ⟨Nat.le_of_ble_eq_true rfl, Nat.le_of_ble_eq_true rfl⟩ (fun H locs hP hD hS => ?_)
          have hP : va_P E.1 vwCl (bl []) H := hP
          have hD : va_D A (bl []) := hD
          refine W.eq (g2 := F0 m 31 ls [.int q3, .int x0]) rfl ?_
          refine lv_imul hx hb dX3_between_31 ?_
          refine lv_iload_n hx hb dX3_between_32 rfl (lv_at hl 1 rfl) ?_
          refine lv_iload_n hx hb dX3_between_33 rfl (lv_at hl 2 rfl) ?_
          refine lv_iconst (v := 1) hx hb dX3_between_34 (by decide) ?_
          refine lv_iadd hx hb dX3_between_35 ?_
          obtain ⟨q4, h_q4, hF⟩ := bnd_s hF
          refine g_callS (As := [.int (x2 + 1)]) (rest := [.int x1, .int (x0 * q3)]) ⟨hx, hb, hml, hown, hts⟩ hK hZ hA (c_X3_east l E  (x2 + 1) q4 h_q4) (va_cwS 1 hts gX3_between_X3_east rfl rfl rfl (by decide +kernel) ⟨Nat.le_of_ble_eq_true rfl, Nat.le_of_ble_eq_true rfl⟩) hP hD hS [] [] rfl rfl rfl hl.1 rfl (Nat.le_of_ble_eq_true rfl) dX3_between_36 ⟨Nat.le_of_ble_eq_true rfl, Nat.le_of_ble_eq_true rfl⟩ (fun H locs hP hD hS => ?_)
          have hP : va_P E.1 vwCl (bl []) H := hP
          have hD : va_D A (bl []) := hD
          refine W.eq (g2 := F0 m 39 ls [.int q4, .int x1, .int (x0 * q3)]) rfl ?_
          refine lv_imul hx hb dX3_between_39 ?_
          refine lv_isub hx hb dX3_between_40 ?_
          refine f_if_ge (tgt := 46) hx hb dX3_between_41 (by decide) hF (fun hF => ?_) (fun hF => ?_)
          · refine lv_iinc (v := (x2 + 1)) (lv' := [(2, .int (x2 + 1)), (0, .int x0), (1, .int x1)]) hx hb dX3_between_46 hl (k := 2) rfl rfl (by decide) rfl (fun ls hl => ?_)
            refine lv_goto (tgt := 2) hx hb dX3_between_49 (by decide) ?_
            exact ih x0 x1 (x2 + 1) _ _ hP hD hS _ (lv_sub hl [1, 2, 0] rfl) hF
          · refine lv_iload_n hx hb dX3_between_44 rfl (lv_at hl 2 rfl) ?_
            exact g_iret (rvf := fun z => some (.int z)) (W1f := fun z => bl []) hx hb hr hlocks hQ hF rfl hP hD hS [] rfl rfl dX3_between_45
  unfold F_X3_between at hF
  refine lv_iconst (v := 0) hx hb dX3_between_0 (by decide) ?_
  refine lv_istore_n (lv' := [(2, .int 0), (0, .int p0), (1, .int p1)]) hx hb dX3_between_1 rfl hl (by decide) rfl (fun ls hl => ?_)
  exact hL2 n p0 p1 0 _ _ hP hD hS _ (lv_sub hl [1, 2, 0] rfl) hF
def F_X3_greatestPoint_L3 (n : Nat) : Nat → Int32 → Int32 → Int32 → Option (Int32)
  | 0, _, _, _ => none
  | k + 1, x0, x1, x2 => if x2 ≤ 0 then some 0 else (F_X3_north x2).bind fun q1 => (F_X3_east x2).bind fun q2 => if (x0 * q1) < (x1 * q2) then F_X3_greatestPoint_L3 n k x0 x1 (x2 + (-1)) else some x2
def F_X3_greatestPoint (n : Nat) (p0 : Int32) (p1 : Int32) : Option (Int32) := F_X3_greatestPoint_L3 n n p0 p1 15
set_option maxHeartbeats 4000000 in
set_option maxRecDepth 100000 in
theorem c_X3_greatestPoint (l : Launch) (E : GE)  (n : Nat) (p0 : Int32) (p1 : Int32) (r : Int32) (hF : F_X3_greatestPoint n p0 p1 = some r) : CT l E yX3_greatestPoint wsX3_greatestPoint ({ frames := 2, cells := 0, slots := 0, locals := 44 } : Room) [.int p0, .int p1] (bl []) (some (.int r)) (bl []) 0 0 := by
  refine CT.of (cc := cX3_greatestPoint) (maxL := 3) (ret := (some .int)) (by decide) rfl (Nat.le_of_ble_eq_true rfl) ?_
  intro p e s m args below meth cd A Q ls B hQ hP hD hS hl
  obtain ⟨hx, hb, hml, hown, hts, hr, hlocks, hK, hZ, hA, hnm⟩ := B
  have hown : s.vm.findClass RX3 = some m.cls := hown
  have hl : lv_has ls 3 [(0, .int p0), (1, .int p1)] := hl
  have hL3 : ∀ (k : Nat) (x0 : Int32) (x1 : Int32) (x2 : Int32) (H : Heap) (locs : List Loc), va_P E.1 vwCl (bl []) H → va_D A (bl []) → va_S A s.heap H locs → ∀ ls : Array Slot, lv_has ls 3 [(0, .int x0), (1, .int x1), (2, .int x2)] → F_X3_greatestPoint_L3 n k x0 x1 x2 = some r → W p l e ({ frames := 2, cells := 0, slots := 0, locals := 44 } : Room) s m args below meth cd H locs 0 0 Q (F0 m 3 ls []) := by
    intro k
    induction k with
    | zero => intro x0 x1 x2 H locs hP hD hS ls hl hF; cases hF
    | succ k ih =>
      intro x0 x1 x2 H locs hP hD hS ls hl hF
      rw [F_X3_greatestPoint_L3] at hF
      refine lv_iload_n hx hb dX3_greatestPoint_3 rfl (lv_at hl 2 rfl) ?_
      refine f_if_le (tgt := 30) hx hb dX3_greatestPoint_4 (by decide) hF (fun hF => ?_) (fun hF => ?_)
      · refine lv_iconst (v := 0) hx hb dX3_greatestPoint_30 (by decide) ?_
        exact g_iret (rvf := fun z => some (.int z)) (W1f := fun z => bl []) hx hb hr hlocks hQ hF rfl hP hD hS [] rfl rfl dX3_greatestPoint_31
      · refine lv_iload_n hx hb dX3_greatestPoint_7 rfl (lv_at hl 0 rfl) ?_
        refine lv_iload_n hx hb dX3_greatestPoint_8 rfl (lv_at hl 2 rfl) ?_
        obtain ⟨q1, h_q1, hF⟩ := bnd_s hF
        refine g_callS (As := [.int x2]) (rest := [.int x0]) ⟨hx, hb, hml, hown, hts⟩ hK hZ hA (c_X3_north l E  x2 q1 h_q1) (va_cwS 1 hts gX3_greatestPoint_X3_north rfl rfl rfl (by decide +kernel) ⟨Nat.le_of_ble_eq_true rfl, Nat.le_of_ble_eq_true rfl⟩) hP hD hS [] [] rfl rfl rfl hl.1 rfl (Nat.le_of_ble_eq_true rfl) dX3_greatestPoint_9 ⟨Nat.le_of_ble_eq_true rfl, Nat.le_of_ble_eq_true rfl⟩ (fun H locs hP hD hS => ?_)
        have hP : va_P E.1 vwCl (bl []) H := hP
        have hD : va_D A (bl []) := hD
        refine W.eq (g2 := F0 m 12 ls [.int q1, .int x0]) rfl ?_
        refine lv_imul hx hb dX3_greatestPoint_12 ?_
        refine lv_iload_n hx hb dX3_greatestPoint_13 rfl (lv_at hl 1 rfl) ?_
        refine lv_iload_n hx hb dX3_greatestPoint_14 rfl (lv_at hl 2 rfl) ?_
        obtain ⟨q2, h_q2, hF⟩ := bnd_s hF
        refine g_callS (As := [.int x2]) (rest := [.int x1, .int (x0 * q1)]) ⟨hx, hb, hml, hown, hts⟩ hK hZ hA (c_X3_east l E  x2 q2 h_q2) (va_cwS 1 hts gX3_greatestPoint_X3_east rfl rfl rfl (by decide +kernel) ⟨Nat.le_of_ble_eq_true rfl, Nat.le_of_ble_eq_true rfl⟩) hP hD hS [] [] rfl rfl rfl hl.1 rfl (Nat.le_of_ble_eq_true rfl) dX3_greatestPoint_15 ⟨Nat.le_of_ble_eq_true rfl, Nat.le_of_ble_eq_true rfl⟩ (fun H locs hP hD hS => ?_)
        have hP : va_P E.1 vwCl (bl []) H := hP
        have hD : va_D A (bl []) := hD
        refine W.eq (g2 := F0 m 18 ls [.int q2, .int x1, .int (x0 * q1)]) rfl ?_
        refine lv_imul hx hb dX3_greatestPoint_18 ?_
        refine f_icmp_lt (tgt := 24) hx hb dX3_greatestPoint_19 (by decide) hF (fun hF => ?_) (fun hF => ?_)
        · refine lv_iinc (v := (x2 + (-1))) (lv' := [(2, .int (x2 + (-1))), (0, .int x0), (1, .int x1)]) hx hb dX3_greatestPoint_24 hl (k := 2) rfl rfl (by decide) rfl (fun ls hl => ?_)
          refine lv_goto (tgt := 3) hx hb dX3_greatestPoint_27 (by decide) ?_
          exact ih x0 x1 (x2 + (-1)) _ _ hP hD hS _ (lv_sub hl [1, 2, 0] rfl) hF
        · refine lv_iload_n hx hb dX3_greatestPoint_22 rfl (lv_at hl 2 rfl) ?_
          exact g_iret (rvf := fun z => some (.int z)) (W1f := fun z => bl []) hx hb hr hlocks hQ hF rfl hP hD hS [] rfl rfl dX3_greatestPoint_23
  unfold F_X3_greatestPoint at hF
  refine lv_bipush (v := 15) hx hb dX3_greatestPoint_0 (by decide) ?_
  refine lv_istore_n (lv' := [(2, .int 15), (0, .int p0), (1, .int p1)]) hx hb dX3_greatestPoint_2 rfl hl (by decide) rfl (fun ls hl => ?_)
  exact hL3 n p0 p1 15 _ _ hP hD hS _ (lv_sub hl [1, 2, 0] rfl) hF
def F_X3_byQuarter_J14 (n : Nat) (x0 : Int32) (x1 : Int32) : Option (Int32) := if x0 ≤ 0 then if 0 ≤ x1 then if 0 ≤ x0 then some (-4) else (F_X3_greatestPoint n x1 (-x0)).bind fun q1 => some (48 + q1) else (F_X3_greatestPoint n (-x0) (-x1)).bind fun q2 => some (32 + q2) else (F_X3_greatestPoint n (-x1) x0).bind fun q3 => some (16 + q3)
def F_X3_byQuarter (n : Nat) (p0 : Int32) (p1 : Int32) : Option (Int32) := if p0 < 0 then F_X3_byQuarter_J14 n p0 p1 else if p1 ≤ 0 then F_X3_byQuarter_J14 n p0 p1 else (F_X3_greatestPoint n p0 p1).bind fun q4 => some q4
set_option maxHeartbeats 4000000 in
set_option maxRecDepth 100000 in
theorem c_X3_byQuarter (l : Launch) (E : GE)  (n : Nat) (p0 : Int32) (p1 : Int32) (r : Int32) (hF : F_X3_byQuarter n p0 p1 = some r) : CT l E yX3_byQuarter wsX3_byQuarter ({ frames := 3, cells := 0, slots := 0, locals := 66 } : Room) [.int p0, .int p1] (bl []) (some (.int r)) (bl []) 0 0 := by
  refine CT.of (cc := cX3_byQuarter) (maxL := 2) (ret := (some .int)) (by decide) rfl (Nat.le_of_ble_eq_true rfl) ?_
  intro p e s m args below meth cd A Q ls B hQ hP hD hS hl
  obtain ⟨hx, hb, hml, hown, hts, hr, hlocks, hK, hZ, hA, hnm⟩ := B
  have hown : s.vm.findClass RX3 = some m.cls := hown
  have hl : lv_has ls 2 [(0, .int p0), (1, .int p1)] := hl
  have hJ14 : ∀ (x0 : Int32) (x1 : Int32) (H : Heap) (locs : List Loc), va_P E.1 vwCl (bl []) H → va_D A (bl []) → va_S A s.heap H locs → ∀ ls : Array Slot, lv_has ls 2 [(0, .int x0), (1, .int x1)] → F_X3_byQuarter_J14 n x0 x1 = some r → W p l e ({ frames := 3, cells := 0, slots := 0, locals := 66 } : Room) s m args below meth cd H locs 0 0 Q (F0 m 14 ls []) := by
    intro x0 x1 H locs hP hD hS ls hl hF
    unfold F_X3_byQuarter_J14 at hF
    refine lv_iload_n hx hb dX3_byQuarter_14 rfl (lv_at hl 0 rfl) ?_
    refine f_if_le (tgt := 28) hx hb dX3_byQuarter_15 (by decide) hF (fun hF => ?_) (fun hF => ?_)
    · refine lv_iload_n hx hb dX3_byQuarter_28 rfl (lv_at hl 1 rfl) ?_
      refine f_if_ge (tgt := 43) hx hb dX3_byQuarter_29 (by decide) hF (fun hF => ?_) (fun hF => ?_)
      · refine lv_iload_n hx hb dX3_byQuarter_43 rfl (lv_at hl 0 rfl) ?_
        refine f_if_ge (tgt := 59) hx hb dX3_byQuarter_44 (by decide) hF (fun hF => ?_) (fun hF => ?_)
        · refine lv_bipush (v := (-4)) hx hb dX3_byQuarter_59 (by decide) ?_
          exact g_iret (rvf := fun z => some (.int z)) (W1f := fun z => bl []) hx hb hr hlocks hQ hF rfl hP hD hS [] rfl rfl dX3_byQuarter_61
        · refine lv_bipush (v := 48) hx hb dX3_byQuarter_47 (by decide) ?_
          refine lv_iload_n hx hb dX3_byQuarter_49 rfl (lv_at hl 1 rfl) ?_
          refine lv_iload_n hx hb dX3_byQuarter_50 rfl (lv_at hl 0 rfl) ?_
          refine lv_ineg hx hb dX3_byQuarter_51 ?_
          obtain ⟨q1, h_q1, hF⟩ := bnd_s hF
          refine g_callS (As := [.int x1, .int (-x0)]) (rest := [.int 48]) ⟨hx, hb, hml, hown, hts⟩ hK hZ hA (c_X3_greatestPoint l E  n x1 (-x0) q1 h_q1) (va_cwS 2 hts gX3_byQuarter_X3_greatestPoint rfl rfl rfl (by decide +kernel) ⟨Nat.le_of_ble_eq_true rfl, Nat.le_of_ble_eq_true rfl⟩) hP hD hS [] [] rfl rfl rfl hl.1 rfl (Nat.le_of_ble_eq_true rfl) dX3_byQuarter_52 ⟨Nat.le_of_ble_eq_true rfl, Nat.le_of_ble_eq_true rfl⟩ (fun H locs hP hD hS => ?_)
          have hP : va_P E.1 vwCl (bl []) H := hP
          have hD : va_D A (bl []) := hD
          refine W.eq (g2 := F0 m 55 ls [.int q1, .int 48]) rfl ?_
          refine lv_iadd hx hb dX3_byQuarter_55 ?_
          refine lv_goto (tgt := 61) hx hb dX3_byQuarter_56 (by decide) ?_
          exact g_iret (rvf := fun z => some (.int z)) (W1f := fun z => bl []) hx hb hr hlocks hQ hF rfl hP hD hS [] rfl rfl dX3_byQuarter_61
      · refine lv_bipush (v := 32) hx hb dX3_byQuarter_32 (by decide) ?_
        refine lv_iload_n hx hb dX3_byQuarter_34 rfl (lv_at hl 0 rfl) ?_
        refine lv_ineg hx hb dX3_byQuarter_35 ?_
        refine lv_iload_n hx hb dX3_byQuarter_36 rfl (lv_at hl 1 rfl) ?_
        refine lv_ineg hx hb dX3_byQuarter_37 ?_
        obtain ⟨q2, h_q2, hF⟩ := bnd_s hF
        refine g_callS (As := [.int (-x0), .int (-x1)]) (rest := [.int 32]) ⟨hx, hb, hml, hown, hts⟩ hK hZ hA (c_X3_greatestPoint l E  n (-x0) (-x1) q2 h_q2) (va_cwS 2 hts gX3_byQuarter_X3_greatestPoint rfl rfl rfl (by decide +kernel) ⟨Nat.le_of_ble_eq_true rfl, Nat.le_of_ble_eq_true rfl⟩) hP hD hS [] [] rfl rfl rfl hl.1 rfl (Nat.le_of_ble_eq_true rfl) dX3_byQuarter_38 ⟨Nat.le_of_ble_eq_true rfl, Nat.le_of_ble_eq_true rfl⟩ (fun H locs hP hD hS => ?_)
        have hP : va_P E.1 vwCl (bl []) H := hP
        have hD : va_D A (bl []) := hD
        refine W.eq (g2 := F0 m 41 ls [.int q2, .int 32]) rfl ?_
        refine lv_iadd hx hb dX3_byQuarter_41 ?_
        exact g_iret (rvf := fun z => some (.int z)) (W1f := fun z => bl []) hx hb hr hlocks hQ hF rfl hP hD hS [] rfl rfl dX3_byQuarter_42
    · refine lv_bipush (v := 16) hx hb dX3_byQuarter_18 (by decide) ?_
      refine lv_iload_n hx hb dX3_byQuarter_20 rfl (lv_at hl 1 rfl) ?_
      refine lv_ineg hx hb dX3_byQuarter_21 ?_
      refine lv_iload_n hx hb dX3_byQuarter_22 rfl (lv_at hl 0 rfl) ?_
      obtain ⟨q3, h_q3, hF⟩ := bnd_s hF
      refine g_callS (As := [.int (-x1), .int x0]) (rest := [.int 16]) ⟨hx, hb, hml, hown, hts⟩ hK hZ hA (c_X3_greatestPoint l E  n (-x1) x0 q3 h_q3) (va_cwS 2 hts gX3_byQuarter_X3_greatestPoint rfl rfl rfl (by decide +kernel) ⟨Nat.le_of_ble_eq_true rfl, Nat.le_of_ble_eq_true rfl⟩) hP hD hS [] [] rfl rfl rfl hl.1 rfl (Nat.le_of_ble_eq_true rfl) dX3_byQuarter_23 ⟨Nat.le_of_ble_eq_true rfl, Nat.le_of_ble_eq_true rfl⟩ (fun H locs hP hD hS => ?_)
      have hP : va_P E.1 vwCl (bl []) H := hP
      have hD : va_D A (bl []) := hD
      refine W.eq (g2 := F0 m 26 ls [.int q3, .int 16]) rfl ?_
      refine lv_iadd hx hb dX3_byQuarter_26 ?_
      exact g_iret (rvf := fun z => some (.int z)) (W1f := fun z => bl []) hx hb hr hlocks hQ hF rfl hP hD hS [] rfl rfl dX3_byQuarter_27
  unfold F_X3_byQuarter at hF
  refine lv_iload_n hx hb dX3_byQuarter_0 rfl (lv_at hl 0 rfl) ?_
  refine f_if_lt (tgt := 14) hx hb dX3_byQuarter_1 (by decide) hF (fun hF => ?_) (fun hF => ?_)
  · exact hJ14 p0 p1 _ _ hP hD hS _ (lv_sub hl [0, 1] rfl) hF
  · refine lv_iload_n hx hb dX3_byQuarter_4 rfl (lv_at hl 1 rfl) ?_
    refine f_if_le (tgt := 14) hx hb dX3_byQuarter_5 (by decide) hF (fun hF => ?_) (fun hF => ?_)
    · exact hJ14 p0 p1 _ _ hP hD hS _ (lv_sub hl [0, 1] rfl) hF
    · refine lv_iload_n hx hb dX3_byQuarter_8 rfl (lv_at hl 0 rfl) ?_
      refine lv_iload_n hx hb dX3_byQuarter_9 rfl (lv_at hl 1 rfl) ?_
      obtain ⟨q4, h_q4, hF⟩ := bnd_s hF
      refine g_callS (As := [.int p0, .int p1]) (rest := []) ⟨hx, hb, hml, hown, hts⟩ hK hZ hA (c_X3_greatestPoint l E  n p0 p1 q4 h_q4) (va_cwS 2 hts gX3_byQuarter_X3_greatestPoint rfl rfl rfl (by decide +kernel) ⟨Nat.le_of_ble_eq_true rfl, Nat.le_of_ble_eq_true rfl⟩) hP hD hS [] [] rfl rfl rfl hl.1 rfl (Nat.le_of_ble_eq_true rfl) dX3_byQuarter_10 ⟨Nat.le_of_ble_eq_true rfl, Nat.le_of_ble_eq_true rfl⟩ (fun H locs hP hD hS => ?_)
      have hP : va_P E.1 vwCl (bl []) H := hP
      have hD : va_D A (bl []) := hD
      refine W.eq (g2 := F0 m 13 ls [.int q4]) rfl ?_
      exact g_iret (rvf := fun z => some (.int z)) (W1f := fun z => bl []) hx hb hr hlocks hQ hF rfl hP hD hS [] rfl rfl dX3_byQuarter_13
