-- X4: printed by wip/whole/parts.py: a pure picture and a contract a method
def F_X4_become (v : FlV) (v2 : FlV) : Option (FlV) := cpk 0 0 8 8 8 (cpk 0 0 8 8 8 (some (Fl_mk (va_cpy (Fl_lights v2) (Fl_lights v) (0 : Int32).toNatClampNeg (0 : Int32).toNatClampNeg (8 : Int32).toNatClampNeg) (va_cpy (Fl_darks v2) (Fl_darks v) (0 : Int32).toNatClampNeg (0 : Int32).toNatClampNeg (8 : Int32).toNatClampNeg) (Fl_parts v2) (Fl_allLight v2) (Fl_allDark v2))))
set_option maxHeartbeats 4000000 in
set_option maxRecDepth 100000 in
theorem c_X4_become (l : Launch) (E : GE) (o : Nat) (qa : Nat) (qb : Nat) (o2 : Nat) (qa2 : Nat) (qb2 : Nat) (v : FlV) (v2 : FlV) (r : FlV) (hF : F_X4_become v v2 = some r) : CT l E yX4_become wsX4_become ({ frames := 1, cells := 0, slots := 0, locals := 30 } : Room) [.ref o, .ref o2] (bl [Fl_c E o qa qb v, Fl_c E o2 qa2 qb2 v2]) (none) (bl [Fl_c E o qa qb r, Fl_c E o2 qa2 qb2 v2]) 0 0 := by
  refine CT.of (cc := cX4_become) (maxL := 2) (ret := none) (by decide) rfl (Nat.le_of_ble_eq_true rfl) ?_
  intro p e s m args below meth cd A Q ls B hQ hP hD hS hl
  obtain ⟨hx, hb, hml, hown, hts, hr, hlocks, hK, hZ, hA, hnm⟩ := B
  have hown : s.vm.findClass RX4 = some m.cls := hown
  have hl : lv_has ls 2 [(0, .ref o), (1, .ref o2)] := hl
  have w0 := hts (.fieldLink RX4 9 "HarborLight$FlashCode" "lights" "[I") (by decide +kernel)
  have w1 := hts (.methodLink RX4 26 arraycopyName) (by decide +kernel)
  have w2 := hts (.native arraycopyName) (by decide +kernel)
  have w3 := hts (.static arraycopyName) (by decide +kernel)
  have w4 := hts (.initialized "java/lang/System") (by decide +kernel)
  have w5 := hts (.fieldLink RX4 13 "HarborLight$FlashCode" "darks" "[I") (by decide +kernel)
  have w6 := hts (.fieldLink RX4 16 "HarborLight$FlashCode" "parts" "I") (by decide +kernel)
  have w7 := hts (.fieldLink RX4 20 "HarborLight$FlashCode" "allLight" "I") (by decide +kernel)
  have w8 := hts (.fieldLink RX4 23 "HarborLight$FlashCode" "allDark" "I") (by decide +kernel)
  have in_X4 : ∀ w ∈ wsX40, w ∈ wsX4_become := by decide +kernel
  have hP : va_P E.1 vwCl (bl [[(o, .inr (2, [.ref qa, .ref qb, .int (Fl_parts v), .int (Fl_allLight v), .int (Fl_allDark v)]))], [(qa, .inl (E.2.1, 8, .inl (Fl_lights v)))], [(qb, .inl (E.2.1, 8, .inl (Fl_darks v)))], [(o2, .inr (2, [.ref qa2, .ref qb2, .int (Fl_parts v2), .int (Fl_allLight v2), .int (Fl_allDark v2)]))], [(qa2, .inl (E.2.1, 8, .inl (Fl_lights v2)))], [(qb2, .inl (E.2.1, 8, .inl (Fl_darks v2)))]]) s.heap := hP
  have hD : va_D A (bl [[(o, .inr (2, [.ref qa, .ref qb, .int (Fl_parts v), .int (Fl_allLight v), .int (Fl_allDark v)]))], [(qa, .inl (E.2.1, 8, .inl (Fl_lights v)))], [(qb, .inl (E.2.1, 8, .inl (Fl_darks v)))], [(o2, .inr (2, [.ref qa2, .ref qb2, .int (Fl_parts v2), .int (Fl_allLight v2), .int (Fl_allDark v2)]))], [(qa2, .inl (E.2.1, 8, .inl (Fl_lights v2)))], [(qb2, .inl (E.2.1, 8, .inl (Fl_darks v2)))]]) := hD
  unfold F_X4_become at hF
  refine lv_aload_n hx hb dX4_become_0 rfl (lv_at hl 1 rfl) ?_
  refine g_get (T := TX4) (N := 5) hx hb hts in_X4 hown hK hP 3 rfl rfl 0 (by decide) w0 rfl rfl dX4_become_1 ?_
  refine lv_iconst (v := 0) hx hb dX4_become_4 (by decide) ?_
  refine lv_aload_n hx hb dX4_become_5 rfl (lv_at hl 0 rfl) ?_
  refine g_get (T := TX4) (N := 5) hx hb hts in_X4 hown hK hP 0 rfl rfl 0 (by decide) w0 rfl rfl dX4_become_6 ?_
  refine lv_iconst (v := 0) hx hb dX4_become_9 (by decide) ?_
  refine lv_aload_n hx hb dX4_become_10 rfl (lv_at hl 0 rfl) ?_
  refine g_get (T := TX4) (N := 5) hx hb hts in_X4 hown hK hP 0 rfl rfl 0 (by decide) w0 rfl rfl dX4_become_11 ?_
  refine g_alen (v := 8) hx hb hK hP 1 0 rfl rfl rfl dX4_become_14 ?_
  refine f_copy hx hb (hml.trans hl.1.symm) hown w1 w2 w3 w4 hK hP hD hS 4 1 rfl rfl hF (Nat.le_of_ble_eq_true rfl) (Nat.le_of_ble_eq_true rfl) dX4_become_15 (fun hF H locs hP hD hS => ?_)
  have hP : va_P E.1 vwCl (bl [[(o, .inr (2, [.ref qa, .ref qb, .int (Fl_parts v), .int (Fl_allLight v), .int (Fl_allDark v)]))], [(qa, .inl (E.2.1, 8, .inl (va_cpy (Fl_lights v2) (Fl_lights v) (0 : Int32).toNatClampNeg (0 : Int32).toNatClampNeg (8 : Int32).toNatClampNeg)))], [(qb, .inl (E.2.1, 8, .inl (Fl_darks v)))], [(o2, .inr (2, [.ref qa2, .ref qb2, .int (Fl_parts v2), .int (Fl_allLight v2), .int (Fl_allDark v2)]))], [(qa2, .inl (E.2.1, 8, .inl (Fl_lights v2)))], [(qb2, .inl (E.2.1, 8, .inl (Fl_darks v2)))]]) H := hP
  have hD : va_D A (bl [[(o, .inr (2, [.ref qa, .ref qb, .int (Fl_parts v), .int (Fl_allLight v), .int (Fl_allDark v)]))], [(qa, .inl (E.2.1, 8, .inl (va_cpy (Fl_lights v2) (Fl_lights v) (0 : Int32).toNatClampNeg (0 : Int32).toNatClampNeg (8 : Int32).toNatClampNeg)))], [(qb, .inl (E.2.1, 8, .inl (Fl_darks v)))], [(o2, .inr (2, [.ref qa2, .ref qb2, .int (Fl_parts v2), .int (Fl_allLight v2), .int (Fl_allDark v2)]))], [(qa2, .inl (E.2.1, 8, .inl (Fl_lights v2)))], [(qb2, .inl (E.2.1, 8, .inl (Fl_darks v2)))]]) := hD
  refine lv_aload_n hx hb dX4_become_18 rfl (lv_at hl 1 rfl) ?_
  refine g_get (T := TX4) (N := 5) hx hb hts in_X4 hown hK hP 3 rfl rfl 1 (by decide) w5 rfl rfl dX4_become_19 ?_
  refine lv_iconst (v := 0) hx hb dX4_become_22 (by decide) ?_
  refine lv_aload_n hx hb dX4_become_23 rfl (lv_at hl 0 rfl) ?_
  refine g_get (T := TX4) (N := 5) hx hb hts in_X4 hown hK hP 0 rfl rfl 1 (by decide) w5 rfl rfl dX4_become_24 ?_
  refine lv_iconst (v := 0) hx hb dX4_become_27 (by decide) ?_
  refine lv_aload_n hx hb dX4_become_28 rfl (lv_at hl 0 rfl) ?_
  refine g_get (T := TX4) (N := 5) hx hb hts in_X4 hown hK hP 0 rfl rfl 1 (by decide) w5 rfl rfl dX4_become_29 ?_
  refine g_alen (v := 8) hx hb hK hP 2 0 rfl rfl rfl dX4_become_32 ?_
  refine f_copy hx hb (hml.trans hl.1.symm) hown w1 w2 w3 w4 hK hP hD hS 5 2 rfl rfl hF (Nat.le_of_ble_eq_true rfl) (Nat.le_of_ble_eq_true rfl) dX4_become_33 (fun hF H locs hP hD hS => ?_)
  have hP : va_P E.1 vwCl (bl [[(o, .inr (2, [.ref qa, .ref qb, .int (Fl_parts v), .int (Fl_allLight v), .int (Fl_allDark v)]))], [(qa, .inl (E.2.1, 8, .inl (va_cpy (Fl_lights v2) (Fl_lights v) (0 : Int32).toNatClampNeg (0 : Int32).toNatClampNeg (8 : Int32).toNatClampNeg)))], [(qb, .inl (E.2.1, 8, .inl (va_cpy (Fl_darks v2) (Fl_darks v) (0 : Int32).toNatClampNeg (0 : Int32).toNatClampNeg (8 : Int32).toNatClampNeg)))], [(o2, .inr (2, [.ref qa2, .ref qb2, .int (Fl_parts v2), .int (Fl_allLight v2), .int (Fl_allDark v2)]))], [(qa2, .inl (E.2.1, 8, .inl (Fl_lights v2)))], [(qb2, .inl (E.2.1, 8, .inl (Fl_darks v2)))]]) H := hP
  have hD : va_D A (bl [[(o, .inr (2, [.ref qa, .ref qb, .int (Fl_parts v), .int (Fl_allLight v), .int (Fl_allDark v)]))], [(qa, .inl (E.2.1, 8, .inl (va_cpy (Fl_lights v2) (Fl_lights v) (0 : Int32).toNatClampNeg (0 : Int32).toNatClampNeg (8 : Int32).toNatClampNeg)))], [(qb, .inl (E.2.1, 8, .inl (va_cpy (Fl_darks v2) (Fl_darks v) (0 : Int32).toNatClampNeg (0 : Int32).toNatClampNeg (8 : Int32).toNatClampNeg)))], [(o2, .inr (2, [.ref qa2, .ref qb2, .int (Fl_parts v2), .int (Fl_allLight v2), .int (Fl_allDark v2)]))], [(qa2, .inl (E.2.1, 8, .inl (Fl_lights v2)))], [(qb2, .inl (E.2.1, 8, .inl (Fl_darks v2)))]]) := hD
  refine lv_aload_n hx hb dX4_become_36 rfl (lv_at hl 0 rfl) ?_
  refine lv_aload_n hx hb dX4_become_37 rfl (lv_at hl 1 rfl) ?_
  refine g_get (T := TX4) (N := 5) hx hb hts in_X4 hown hK hP 3 rfl rfl 2 (by decide) w6 rfl rfl dX4_become_38 ?_
  refine g_put (T := TX4) (N := 5) hx hb hts in_X4 tyX4 tyX4_ok nmX4 hown hK hP hD hS 0 rfl rfl 2 (by decide) w6 rfl rfl rfl rfl (Nat.le_of_ble_eq_true rfl) dX4_become_41 (fun H locs hP hD hS => ?_)
  have hP : va_P E.1 vwCl (bl [[(o, .inr (2, [.ref qa, .ref qb, .int (Fl_parts v2), .int (Fl_allLight v), .int (Fl_allDark v)]))], [(qa, .inl (E.2.1, 8, .inl (va_cpy (Fl_lights v2) (Fl_lights v) (0 : Int32).toNatClampNeg (0 : Int32).toNatClampNeg (8 : Int32).toNatClampNeg)))], [(qb, .inl (E.2.1, 8, .inl (va_cpy (Fl_darks v2) (Fl_darks v) (0 : Int32).toNatClampNeg (0 : Int32).toNatClampNeg (8 : Int32).toNatClampNeg)))], [(o2, .inr (2, [.ref qa2, .ref qb2, .int (Fl_parts v2), .int (Fl_allLight v2), .int (Fl_allDark v2)]))], [(qa2, .inl (E.2.1, 8, .inl (Fl_lights v2)))], [(qb2, .inl (E.2.1, 8, .inl (Fl_darks v2)))]]) H := hP
  have hD : va_D A (bl [[(o, .inr (2, [.ref qa, .ref qb, .int (Fl_parts v2), .int (Fl_allLight v), .int (Fl_allDark v)]))], [(qa, .inl (E.2.1, 8, .inl (va_cpy (Fl_lights v2) (Fl_lights v) (0 : Int32).toNatClampNeg (0 : Int32).toNatClampNeg (8 : Int32).toNatClampNeg)))], [(qb, .inl (E.2.1, 8, .inl (va_cpy (Fl_darks v2) (Fl_darks v) (0 : Int32).toNatClampNeg (0 : Int32).toNatClampNeg (8 : Int32).toNatClampNeg)))], [(o2, .inr (2, [.ref qa2, .ref qb2, .int (Fl_parts v2), .int (Fl_allLight v2), .int (Fl_allDark v2)]))], [(qa2, .inl (E.2.1, 8, .inl (Fl_lights v2)))], [(qb2, .inl (E.2.1, 8, .inl (Fl_darks v2)))]]) := hD
  refine lv_aload_n hx hb dX4_become_44 rfl (lv_at hl 0 rfl) ?_
  refine lv_aload_n hx hb dX4_become_45 rfl (lv_at hl 1 rfl) ?_
  refine g_get (T := TX4) (N := 5) hx hb hts in_X4 hown hK hP 3 rfl rfl 3 (by decide) w7 rfl rfl dX4_become_46 ?_
  refine g_put (T := TX4) (N := 5) hx hb hts in_X4 tyX4 tyX4_ok nmX4 hown hK hP hD hS 0 rfl rfl 3 (by decide) w7 rfl rfl rfl rfl (Nat.le_of_ble_eq_true rfl) dX4_become_49 (fun H locs hP hD hS => ?_)
  have hP : va_P E.1 vwCl (bl [[(o, .inr (2, [.ref qa, .ref qb, .int (Fl_parts v2), .int (Fl_allLight v2), .int (Fl_allDark v)]))], [(qa, .inl (E.2.1, 8, .inl (va_cpy (Fl_lights v2) (Fl_lights v) (0 : Int32).toNatClampNeg (0 : Int32).toNatClampNeg (8 : Int32).toNatClampNeg)))], [(qb, .inl (E.2.1, 8, .inl (va_cpy (Fl_darks v2) (Fl_darks v) (0 : Int32).toNatClampNeg (0 : Int32).toNatClampNeg (8 : Int32).toNatClampNeg)))], [(o2, .inr (2, [.ref qa2, .ref qb2, .int (Fl_parts v2), .int (Fl_allLight v2), .int (Fl_allDark v2)]))], [(qa2, .inl (E.2.1, 8, .inl (Fl_lights v2)))], [(qb2, .inl (E.2.1, 8, .inl (Fl_darks v2)))]]) H := hP
  have hD : va_D A (bl [[(o, .inr (2, [.ref qa, .ref qb, .int (Fl_parts v2), .int (Fl_allLight v2), .int (Fl_allDark v)]))], [(qa, .inl (E.2.1, 8, .inl (va_cpy (Fl_lights v2) (Fl_lights v) (0 : Int32).toNatClampNeg (0 : Int32).toNatClampNeg (8 : Int32).toNatClampNeg)))], [(qb, .inl (E.2.1, 8, .inl (va_cpy (Fl_darks v2) (Fl_darks v) (0 : Int32).toNatClampNeg (0 : Int32).toNatClampNeg (8 : Int32).toNatClampNeg)))], [(o2, .inr (2, [.ref qa2, .ref qb2, .int (Fl_parts v2), .int (Fl_allLight v2), .int (Fl_allDark v2)]))], [(qa2, .inl (E.2.1, 8, .inl (Fl_lights v2)))], [(qb2, .inl (E.2.1, 8, .inl (Fl_darks v2)))]]) := hD
  refine lv_aload_n hx hb dX4_become_52 rfl (lv_at hl 0 rfl) ?_
  refine lv_aload_n hx hb dX4_become_53 rfl (lv_at hl 1 rfl) ?_
  refine g_get (T := TX4) (N := 5) hx hb hts in_X4 hown hK hP 3 rfl rfl 4 (by decide) w8 rfl rfl dX4_become_54 ?_
  refine g_put (T := TX4) (N := 5) hx hb hts in_X4 tyX4 tyX4_ok nmX4 hown hK hP hD hS 0 rfl rfl 4 (by decide) w8 rfl rfl rfl rfl (Nat.le_of_ble_eq_true rfl) dX4_become_57 (fun H locs hP hD hS => ?_)
  have hP : va_P E.1 vwCl (bl [[(o, .inr (2, [.ref qa, .ref qb, .int (Fl_parts v2), .int (Fl_allLight v2), .int (Fl_allDark v2)]))], [(qa, .inl (E.2.1, 8, .inl (va_cpy (Fl_lights v2) (Fl_lights v) (0 : Int32).toNatClampNeg (0 : Int32).toNatClampNeg (8 : Int32).toNatClampNeg)))], [(qb, .inl (E.2.1, 8, .inl (va_cpy (Fl_darks v2) (Fl_darks v) (0 : Int32).toNatClampNeg (0 : Int32).toNatClampNeg (8 : Int32).toNatClampNeg)))], [(o2, .inr (2, [.ref qa2, .ref qb2, .int (Fl_parts v2), .int (Fl_allLight v2), .int (Fl_allDark v2)]))], [(qa2, .inl (E.2.1, 8, .inl (Fl_lights v2)))], [(qb2, .inl (E.2.1, 8, .inl (Fl_darks v2)))]]) H := hP
  have hD : va_D A (bl [[(o, .inr (2, [.ref qa, .ref qb, .int (Fl_parts v2), .int (Fl_allLight v2), .int (Fl_allDark v2)]))], [(qa, .inl (E.2.1, 8, .inl (va_cpy (Fl_lights v2) (Fl_lights v) (0 : Int32).toNatClampNeg (0 : Int32).toNatClampNeg (8 : Int32).toNatClampNeg)))], [(qb, .inl (E.2.1, 8, .inl (va_cpy (Fl_darks v2) (Fl_darks v) (0 : Int32).toNatClampNeg (0 : Int32).toNatClampNeg (8 : Int32).toNatClampNeg)))], [(o2, .inr (2, [.ref qa2, .ref qb2, .int (Fl_parts v2), .int (Fl_allLight v2), .int (Fl_allDark v2)]))], [(qa2, .inl (E.2.1, 8, .inl (Fl_lights v2)))], [(qb2, .inl (E.2.1, 8, .inl (Fl_darks v2)))]]) := hD
  exact g_vret (rvf := fun z => none) (W1f := fun z => bl [Fl_c E o qa qb z, Fl_c E o2 qa2 qb2 v2]) hx hb hr hlocks hQ hF rfl hP hD hS [0, 1, 2, 3, 4, 5] rfl rfl dX4_become_60
def F_X4_parts (v : FlV) : Option (Int32) := some (Fl_parts v)
set_option maxHeartbeats 4000000 in
set_option maxRecDepth 100000 in
theorem c_X4_parts (l : Launch) (E : GE) (o : Nat) (qa : Nat) (qb : Nat) (v : FlV) (r : Int32) (hF : F_X4_parts v = some r) : CT l E yX4_parts wsX4_parts ({ frames := 0, cells := 0, slots := 0, locals := 0 } : Room) [.ref o] (bl [Fl_c E o qa qb v]) (some (.int r)) (bl [Fl_c E o qa qb v]) 0 0 := by
  refine CT.of (cc := cX4_parts) (maxL := 1) (ret := (some .int)) (by decide) rfl (Nat.le_of_ble_eq_true rfl) ?_
  intro p e s m args below meth cd A Q ls B hQ hP hD hS hl
  obtain ⟨hx, hb, hml, hown, hts, hr, hlocks, hK, hZ, hA, hnm⟩ := B
  have hown : s.vm.findClass RX4 = some m.cls := hown
  have hl : lv_has ls 1 [(0, .ref o)] := hl
  have w0 := hts (.fieldLink RX4 16 "HarborLight$FlashCode" "parts" "I") (by decide +kernel)
  have in_X4 : ∀ w ∈ wsX40, w ∈ wsX4_parts := by decide +kernel
  have hP : va_P E.1 vwCl (bl [[(o, .inr (2, [.ref qa, .ref qb, .int (Fl_parts v), .int (Fl_allLight v), .int (Fl_allDark v)]))], [(qa, .inl (E.2.1, 8, .inl (Fl_lights v)))], [(qb, .inl (E.2.1, 8, .inl (Fl_darks v)))]]) s.heap := hP
  have hD : va_D A (bl [[(o, .inr (2, [.ref qa, .ref qb, .int (Fl_parts v), .int (Fl_allLight v), .int (Fl_allDark v)]))], [(qa, .inl (E.2.1, 8, .inl (Fl_lights v)))], [(qb, .inl (E.2.1, 8, .inl (Fl_darks v)))]]) := hD
  unfold F_X4_parts at hF
  refine lv_aload_n hx hb dX4_parts_0 rfl (lv_at hl 0 rfl) ?_
  refine g_get (T := TX4) (N := 5) hx hb hts in_X4 hown hK hP 0 rfl rfl 2 (by decide) w0 rfl rfl dX4_parts_1 ?_
  exact g_iret (rvf := fun z => some (.int z)) (W1f := fun z => bl [Fl_c E o qa qb v]) hx hb hr hlocks hQ hF rfl hP hD hS [0, 1, 2] rfl rfl dX4_parts_4
def F_X4_isFull (v : FlV) : Option (Int32) := if (Fl_parts v) < 8 then some 0 else some 1
set_option maxHeartbeats 4000000 in
set_option maxRecDepth 100000 in
theorem c_X4_isFull (l : Launch) (E : GE) (o : Nat) (qa : Nat) (qb : Nat) (v : FlV) (r : Int32) (hF : F_X4_isFull v = some r) : CT l E yX4_isFull wsX4_isFull ({ frames := 0, cells := 0, slots := 0, locals := 0 } : Room) [.ref o] (bl [Fl_c E o qa qb v]) (some (.int r)) (bl [Fl_c E o qa qb v]) 0 0 := by
  refine CT.of (cc := cX4_isFull) (maxL := 1) (ret := (some .boolean)) (by decide) rfl (Nat.le_of_ble_eq_true rfl) ?_
  intro p e s m args below meth cd A Q ls B hQ hP hD hS hl
  obtain ⟨hx, hb, hml, hown, hts, hr, hlocks, hK, hZ, hA, hnm⟩ := B
  have hown : s.vm.findClass RX4 = some m.cls := hown
  have hl : lv_has ls 1 [(0, .ref o)] := hl
  have w0 := hts (.fieldLink RX4 16 "HarborLight$FlashCode" "parts" "I") (by decide +kernel)
  have in_X4 : ∀ w ∈ wsX40, w ∈ wsX4_isFull := by decide +kernel
  have hP : va_P E.1 vwCl (bl [[(o, .inr (2, [.ref qa, .ref qb, .int (Fl_parts v), .int (Fl_allLight v), .int (Fl_allDark v)]))], [(qa, .inl (E.2.1, 8, .inl (Fl_lights v)))], [(qb, .inl (E.2.1, 8, .inl (Fl_darks v)))]]) s.heap := hP
  have hD : va_D A (bl [[(o, .inr (2, [.ref qa, .ref qb, .int (Fl_parts v), .int (Fl_allLight v), .int (Fl_allDark v)]))], [(qa, .inl (E.2.1, 8, .inl (Fl_lights v)))], [(qb, .inl (E.2.1, 8, .inl (Fl_darks v)))]]) := hD
  unfold F_X4_isFull at hF
  refine lv_aload_n hx hb dX4_isFull_0 rfl (lv_at hl 0 rfl) ?_
  refine g_get (T := TX4) (N := 5) hx hb hts in_X4 hown hK hP 0 rfl rfl 2 (by decide) w0 rfl rfl dX4_isFull_1 ?_
  refine lv_bipush (v := 8) hx hb dX4_isFull_4 (by decide) ?_
  refine f_icmp_lt (tgt := 13) hx hb dX4_isFull_6 (by decide) hF (fun hF => ?_) (fun hF => ?_)
  · refine lv_iconst (v := 0) hx hb dX4_isFull_13 (by decide) ?_
    exact g_zret (rvf := fun z => some (.int z)) (W1f := fun z => bl [Fl_c E o qa qb v]) hx hb hr hlocks rfl hQ hF rfl hP hD hS [0, 1, 2] rfl rfl dX4_isFull_14
  · refine lv_iconst (v := 1) hx hb dX4_isFull_9 (by decide) ?_
    refine lv_goto (tgt := 14) hx hb dX4_isFull_10 (by decide) ?_
    exact g_zret (rvf := fun z => some (.int z)) (W1f := fun z => bl [Fl_c E o qa qb v]) hx hb hr hlocks rfl hQ hF rfl hP hD hS [0, 1, 2] rfl rfl dX4_isFull_14
def F_X4_drop (v : FlV) : Option (FlV) := some (Fl_mk (Fl_lights v) (Fl_darks v) 0 0 0)
set_option maxHeartbeats 4000000 in
set_option maxRecDepth 100000 in
theorem c_X4_drop (l : Launch) (E : GE) (o : Nat) (qa : Nat) (qb : Nat) (v : FlV) (r : FlV) (hF : F_X4_drop v = some r) : CT l E yX4_drop wsX4_drop ({ frames := 0, cells := 0, slots := 0, locals := 0 } : Room) [.ref o] (bl [Fl_c E o qa qb v]) (none) (bl [Fl_c E o qa qb r]) 0 0 := by
  refine CT.of (cc := cX4_drop) (maxL := 1) (ret := none) (by decide) rfl (Nat.le_of_ble_eq_true rfl) ?_
  intro p e s m args below meth cd A Q ls B hQ hP hD hS hl
  obtain ⟨hx, hb, hml, hown, hts, hr, hlocks, hK, hZ, hA, hnm⟩ := B
  have hown : s.vm.findClass RX4 = some m.cls := hown
  have hl : lv_has ls 1 [(0, .ref o)] := hl
  have w0 := hts (.fieldLink RX4 16 "HarborLight$FlashCode" "parts" "I") (by decide +kernel)
  have w1 := hts (.fieldLink RX4 20 "HarborLight$FlashCode" "allLight" "I") (by decide +kernel)
  have w2 := hts (.fieldLink RX4 23 "HarborLight$FlashCode" "allDark" "I") (by decide +kernel)
  have in_X4 : ∀ w ∈ wsX40, w ∈ wsX4_drop := by decide +kernel
  have hP : va_P E.1 vwCl (bl [[(o, .inr (2, [.ref qa, .ref qb, .int (Fl_parts v), .int (Fl_allLight v), .int (Fl_allDark v)]))], [(qa, .inl (E.2.1, 8, .inl (Fl_lights v)))], [(qb, .inl (E.2.1, 8, .inl (Fl_darks v)))]]) s.heap := hP
  have hD : va_D A (bl [[(o, .inr (2, [.ref qa, .ref qb, .int (Fl_parts v), .int (Fl_allLight v), .int (Fl_allDark v)]))], [(qa, .inl (E.2.1, 8, .inl (Fl_lights v)))], [(qb, .inl (E.2.1, 8, .inl (Fl_darks v)))]]) := hD
  unfold F_X4_drop at hF
  refine lv_aload_n hx hb dX4_drop_0 rfl (lv_at hl 0 rfl) ?_
  refine lv_iconst (v := 0) hx hb dX4_drop_1 (by decide) ?_
  refine g_put (T := TX4) (N := 5) hx hb hts in_X4 tyX4 tyX4_ok nmX4 hown hK hP hD hS 0 rfl rfl 2 (by decide) w0 rfl rfl rfl rfl (Nat.le_of_ble_eq_true rfl) dX4_drop_2 (fun H locs hP hD hS => ?_)
  have hP : va_P E.1 vwCl (bl [[(o, .inr (2, [.ref qa, .ref qb, .int 0, .int (Fl_allLight v), .int (Fl_allDark v)]))], [(qa, .inl (E.2.1, 8, .inl (Fl_lights v)))], [(qb, .inl (E.2.1, 8, .inl (Fl_darks v)))]]) H := hP
  have hD : va_D A (bl [[(o, .inr (2, [.ref qa, .ref qb, .int 0, .int (Fl_allLight v), .int (Fl_allDark v)]))], [(qa, .inl (E.2.1, 8, .inl (Fl_lights v)))], [(qb, .inl (E.2.1, 8, .inl (Fl_darks v)))]]) := hD
  refine lv_aload_n hx hb dX4_drop_5 rfl (lv_at hl 0 rfl) ?_
  refine lv_iconst (v := 0) hx hb dX4_drop_6 (by decide) ?_
  refine g_put (T := TX4) (N := 5) hx hb hts in_X4 tyX4 tyX4_ok nmX4 hown hK hP hD hS 0 rfl rfl 3 (by decide) w1 rfl rfl rfl rfl (Nat.le_of_ble_eq_true rfl) dX4_drop_7 (fun H locs hP hD hS => ?_)
  have hP : va_P E.1 vwCl (bl [[(o, .inr (2, [.ref qa, .ref qb, .int 0, .int 0, .int (Fl_allDark v)]))], [(qa, .inl (E.2.1, 8, .inl (Fl_lights v)))], [(qb, .inl (E.2.1, 8, .inl (Fl_darks v)))]]) H := hP
  have hD : va_D A (bl [[(o, .inr (2, [.ref qa, .ref qb, .int 0, .int 0, .int (Fl_allDark v)]))], [(qa, .inl (E.2.1, 8, .inl (Fl_lights v)))], [(qb, .inl (E.2.1, 8, .inl (Fl_darks v)))]]) := hD
  refine lv_aload_n hx hb dX4_drop_10 rfl (lv_at hl 0 rfl) ?_
  refine lv_iconst (v := 0) hx hb dX4_drop_11 (by decide) ?_
  refine g_put (T := TX4) (N := 5) hx hb hts in_X4 tyX4 tyX4_ok nmX4 hown hK hP hD hS 0 rfl rfl 4 (by decide) w2 rfl rfl rfl rfl (Nat.le_of_ble_eq_true rfl) dX4_drop_12 (fun H locs hP hD hS => ?_)
  have hP : va_P E.1 vwCl (bl [[(o, .inr (2, [.ref qa, .ref qb, .int 0, .int 0, .int 0]))], [(qa, .inl (E.2.1, 8, .inl (Fl_lights v)))], [(qb, .inl (E.2.1, 8, .inl (Fl_darks v)))]]) H := hP
  have hD : va_D A (bl [[(o, .inr (2, [.ref qa, .ref qb, .int 0, .int 0, .int 0]))], [(qa, .inl (E.2.1, 8, .inl (Fl_lights v)))], [(qb, .inl (E.2.1, 8, .inl (Fl_darks v)))]]) := hD
  exact g_vret (rvf := fun z => none) (W1f := fun z => bl [Fl_c E o qa qb z]) hx hb hr hlocks hQ hF rfl hP hD hS [0, 1, 2] rfl rfl dX4_drop_15
def F_X4_append (v : FlV) (p0 : Int32) (p1 : Int32) : Option (FlV) := if (Fl_parts v) < 0 then some v else if 8 ≤ (Fl_parts v) then some v else if (Fl_parts v) < 8 then chk (Fl_parts v) 8 (chk (Fl_parts v) 8 (some (Fl_mk (upd (Fl_lights v) (Fl_parts v).toNatClampNeg p0) (upd (Fl_darks v) (Fl_parts v).toNatClampNeg p1) ((Fl_parts v) + 1) ((Fl_allLight v) + p0) ((Fl_allDark v) + p1)))) else some v
set_option maxHeartbeats 4000000 in
set_option maxRecDepth 100000 in
theorem c_X4_append (l : Launch) (E : GE) (o : Nat) (qa : Nat) (qb : Nat) (v : FlV) (p0 : Int32) (p1 : Int32) (r : FlV) (hF : F_X4_append v p0 p1 = some r) : CT l E yX4_append wsX4_append ({ frames := 0, cells := 0, slots := 0, locals := 0 } : Room) [.ref o, .int p0, .int p1] (bl [Fl_c E o qa qb v]) (none) (bl [Fl_c E o qa qb r]) 0 0 := by
  refine CT.of (cc := cX4_append) (maxL := 3) (ret := none) (by decide) rfl (Nat.le_of_ble_eq_true rfl) ?_
  intro p e s m args below meth cd A Q ls B hQ hP hD hS hl
  obtain ⟨hx, hb, hml, hown, hts, hr, hlocks, hK, hZ, hA, hnm⟩ := B
  have hown : s.vm.findClass RX4 = some m.cls := hown
  have hl : lv_has ls 3 [(0, .ref o), (1, .int p0), (2, .int p1)] := hl
  have w0 := hts (.fieldLink RX4 16 "HarborLight$FlashCode" "parts" "I") (by decide +kernel)
  have w1 := hts (.fieldLink RX4 9 "HarborLight$FlashCode" "lights" "[I") (by decide +kernel)
  have w2 := hts (.fieldLink RX4 13 "HarborLight$FlashCode" "darks" "[I") (by decide +kernel)
  have w3 := hts (.fieldLink RX4 20 "HarborLight$FlashCode" "allLight" "I") (by decide +kernel)
  have w4 := hts (.fieldLink RX4 23 "HarborLight$FlashCode" "allDark" "I") (by decide +kernel)
  have in_X4 : ∀ w ∈ wsX40, w ∈ wsX4_append := by decide +kernel
  have hP : va_P E.1 vwCl (bl [[(o, .inr (2, [.ref qa, .ref qb, .int (Fl_parts v), .int (Fl_allLight v), .int (Fl_allDark v)]))], [(qa, .inl (E.2.1, 8, .inl (Fl_lights v)))], [(qb, .inl (E.2.1, 8, .inl (Fl_darks v)))]]) s.heap := hP
  have hD : va_D A (bl [[(o, .inr (2, [.ref qa, .ref qb, .int (Fl_parts v), .int (Fl_allLight v), .int (Fl_allDark v)]))], [(qa, .inl (E.2.1, 8, .inl (Fl_lights v)))], [(qb, .inl (E.2.1, 8, .inl (Fl_darks v)))]]) := hD
  unfold F_X4_append at hF
  refine lv_aload_n hx hb dX4_append_0 rfl (lv_at hl 0 rfl) ?_
  refine g_get (T := TX4) (N := 5) hx hb hts in_X4 hown hK hP 0 rfl rfl 2 (by decide) w0 rfl rfl dX4_append_1 ?_
  refine f_if_lt (tgt := 31) hx hb dX4_append_4 (by decide) hF (fun hF => ?_) (fun hF => ?_)
  · exact g_vret (rvf := fun z => none) (W1f := fun z => bl [Fl_c E o qa qb z]) hx hb hr hlocks hQ hF rfl hP hD hS [0, 1, 2] rfl rfl dX4_append_31
  · refine lv_aload_n hx hb dX4_append_7 rfl (lv_at hl 0 rfl) ?_
    refine g_get (T := TX4) (N := 5) hx hb hts in_X4 hown hK hP 0 rfl rfl 2 (by decide) w0 rfl rfl dX4_append_8 ?_
    refine lv_aload_n hx hb dX4_append_11 rfl (lv_at hl 0 rfl) ?_
    refine g_get (T := TX4) (N := 5) hx hb hts in_X4 hown hK hP 0 rfl rfl 0 (by decide) w1 rfl rfl dX4_append_12 ?_
    refine g_alen (v := 8) hx hb hK hP 1 0 rfl rfl rfl dX4_append_15 ?_
    refine f_icmp_ge (tgt := 31) hx hb dX4_append_16 (by decide) hF (fun hF => ?_) (fun hF => ?_)
    · exact g_vret (rvf := fun z => none) (W1f := fun z => bl [Fl_c E o qa qb z]) hx hb hr hlocks hQ hF rfl hP hD hS [0, 1, 2] rfl rfl dX4_append_31
    · refine lv_aload_n hx hb dX4_append_19 rfl (lv_at hl 0 rfl) ?_
      refine g_get (T := TX4) (N := 5) hx hb hts in_X4 hown hK hP 0 rfl rfl 2 (by decide) w0 rfl rfl dX4_append_20 ?_
      refine lv_aload_n hx hb dX4_append_23 rfl (lv_at hl 0 rfl) ?_
      refine g_get (T := TX4) (N := 5) hx hb hts in_X4 hown hK hP 0 rfl rfl 1 (by decide) w2 rfl rfl dX4_append_24 ?_
      refine g_alen (v := 8) hx hb hK hP 2 0 rfl rfl rfl dX4_append_27 ?_
      refine f_icmp_lt (tgt := 32) hx hb dX4_append_28 (by decide) hF (fun hF => ?_) (fun hF => ?_)
      · refine lv_aload_n hx hb dX4_append_32 rfl (lv_at hl 0 rfl) ?_
        refine g_get (T := TX4) (N := 5) hx hb hts in_X4 hown hK hP 0 rfl rfl 0 (by decide) w1 rfl rfl dX4_append_33 ?_
        refine lv_aload_n hx hb dX4_append_36 rfl (lv_at hl 0 rfl) ?_
        refine g_get (T := TX4) (N := 5) hx hb hts in_X4 hown hK hP 0 rfl rfl 2 (by decide) w0 rfl rfl dX4_append_37 ?_
        refine lv_iload_n hx hb dX4_append_40 rfl (lv_at hl 1 rfl) ?_
        refine f_iast hx hb hK hP hD hS 1 rfl hF dX4_append_41 (fun hF H locs hP hD hS => ?_)
        have hP : va_P E.1 vwCl (bl [[(o, .inr (2, [.ref qa, .ref qb, .int (Fl_parts v), .int (Fl_allLight v), .int (Fl_allDark v)]))], [(qa, .inl (E.2.1, 8, .inl (upd (Fl_lights v) (Fl_parts v).toNatClampNeg p0)))], [(qb, .inl (E.2.1, 8, .inl (Fl_darks v)))]]) H := hP
        have hD : va_D A (bl [[(o, .inr (2, [.ref qa, .ref qb, .int (Fl_parts v), .int (Fl_allLight v), .int (Fl_allDark v)]))], [(qa, .inl (E.2.1, 8, .inl (upd (Fl_lights v) (Fl_parts v).toNatClampNeg p0)))], [(qb, .inl (E.2.1, 8, .inl (Fl_darks v)))]]) := hD
        refine lv_aload_n hx hb dX4_append_42 rfl (lv_at hl 0 rfl) ?_
        refine g_get (T := TX4) (N := 5) hx hb hts in_X4 hown hK hP 0 rfl rfl 1 (by decide) w2 rfl rfl dX4_append_43 ?_
        refine lv_aload_n hx hb dX4_append_46 rfl (lv_at hl 0 rfl) ?_
        refine g_get (T := TX4) (N := 5) hx hb hts in_X4 hown hK hP 0 rfl rfl 2 (by decide) w0 rfl rfl dX4_append_47 ?_
        refine lv_iload_n hx hb dX4_append_50 rfl (lv_at hl 2 rfl) ?_
        refine f_iast hx hb hK hP hD hS 2 rfl hF dX4_append_51 (fun hF H locs hP hD hS => ?_)
        have hP : va_P E.1 vwCl (bl [[(o, .inr (2, [.ref qa, .ref qb, .int (Fl_parts v), .int (Fl_allLight v), .int (Fl_allDark v)]))], [(qa, .inl (E.2.1, 8, .inl (upd (Fl_lights v) (Fl_parts v).toNatClampNeg p0)))], [(qb, .inl (E.2.1, 8, .inl (upd (Fl_darks v) (Fl_parts v).toNatClampNeg p1)))]]) H := hP
        have hD : va_D A (bl [[(o, .inr (2, [.ref qa, .ref qb, .int (Fl_parts v), .int (Fl_allLight v), .int (Fl_allDark v)]))], [(qa, .inl (E.2.1, 8, .inl (upd (Fl_lights v) (Fl_parts v).toNatClampNeg p0)))], [(qb, .inl (E.2.1, 8, .inl (upd (Fl_darks v) (Fl_parts v).toNatClampNeg p1)))]]) := hD
        refine lv_aload_n hx hb dX4_append_52 rfl (lv_at hl 0 rfl) ?_
        refine lv_dup hx hb dX4_append_53 rfl ?_
        refine g_get (T := TX4) (N := 5) hx hb hts in_X4 hown hK hP 0 rfl rfl 2 (by decide) w0 rfl rfl dX4_append_54 ?_
        refine lv_iconst (v := 1) hx hb dX4_append_57 (by decide) ?_
        refine lv_iadd hx hb dX4_append_58 ?_
        refine g_put (T := TX4) (N := 5) hx hb hts in_X4 tyX4 tyX4_ok nmX4 hown hK hP hD hS 0 rfl rfl 2 (by decide) w0 rfl rfl rfl rfl (Nat.le_of_ble_eq_true rfl) dX4_append_59 (fun H locs hP hD hS => ?_)
        have hP : va_P E.1 vwCl (bl [[(o, .inr (2, [.ref qa, .ref qb, .int ((Fl_parts v) + 1), .int (Fl_allLight v), .int (Fl_allDark v)]))], [(qa, .inl (E.2.1, 8, .inl (upd (Fl_lights v) (Fl_parts v).toNatClampNeg p0)))], [(qb, .inl (E.2.1, 8, .inl (upd (Fl_darks v) (Fl_parts v).toNatClampNeg p1)))]]) H := hP
        have hD : va_D A (bl [[(o, .inr (2, [.ref qa, .ref qb, .int ((Fl_parts v) + 1), .int (Fl_allLight v), .int (Fl_allDark v)]))], [(qa, .inl (E.2.1, 8, .inl (upd (Fl_lights v) (Fl_parts v).toNatClampNeg p0)))], [(qb, .inl (E.2.1, 8, .inl (upd (Fl_darks v) (Fl_parts v).toNatClampNeg p1)))]]) := hD
        refine lv_aload_n hx hb dX4_append_62 rfl (lv_at hl 0 rfl) ?_
        refine lv_dup hx hb dX4_append_63 rfl ?_
        refine g_get (T := TX4) (N := 5) hx hb hts in_X4 hown hK hP 0 rfl rfl 3 (by decide) w3 rfl rfl dX4_append_64 ?_
        refine lv_iload_n hx hb dX4_append_67 rfl (lv_at hl 1 rfl) ?_
        refine lv_iadd hx hb dX4_append_68 ?_
        refine g_put (T := TX4) (N := 5) hx hb hts in_X4 tyX4 tyX4_ok nmX4 hown hK hP hD hS 0 rfl rfl 3 (by decide) w3 rfl rfl rfl rfl (Nat.le_of_ble_eq_true rfl) dX4_append_69 (fun H locs hP hD hS => ?_)
        have hP : va_P E.1 vwCl (bl [[(o, .inr (2, [.ref qa, .ref qb, .int ((Fl_parts v) + 1), .int ((Fl_allLight v) + p0), .int (Fl_allDark v)]))], [(qa, .inl (E.2.1, 8, .inl (upd (Fl_lights v) (Fl_parts v).toNatClampNeg p0)))], [(qb, .inl (E.2.1, 8, .inl (upd (Fl_darks v) (Fl_parts v).toNatClampNeg p1)))]]) H := hP
        have hD : va_D A (bl [[(o, .inr (2, [.ref qa, .ref qb, .int ((Fl_parts v) + 1), .int ((Fl_allLight v) + p0), .int (Fl_allDark v)]))], [(qa, .inl (E.2.1, 8, .inl (upd (Fl_lights v) (Fl_parts v).toNatClampNeg p0)))], [(qb, .inl (E.2.1, 8, .inl (upd (Fl_darks v) (Fl_parts v).toNatClampNeg p1)))]]) := hD
        refine lv_aload_n hx hb dX4_append_72 rfl (lv_at hl 0 rfl) ?_
        refine lv_dup hx hb dX4_append_73 rfl ?_
        refine g_get (T := TX4) (N := 5) hx hb hts in_X4 hown hK hP 0 rfl rfl 4 (by decide) w4 rfl rfl dX4_append_74 ?_
        refine lv_iload_n hx hb dX4_append_77 rfl (lv_at hl 2 rfl) ?_
        refine lv_iadd hx hb dX4_append_78 ?_
        refine g_put (T := TX4) (N := 5) hx hb hts in_X4 tyX4 tyX4_ok nmX4 hown hK hP hD hS 0 rfl rfl 4 (by decide) w4 rfl rfl rfl rfl (Nat.le_of_ble_eq_true rfl) dX4_append_79 (fun H locs hP hD hS => ?_)
        have hP : va_P E.1 vwCl (bl [[(o, .inr (2, [.ref qa, .ref qb, .int ((Fl_parts v) + 1), .int ((Fl_allLight v) + p0), .int ((Fl_allDark v) + p1)]))], [(qa, .inl (E.2.1, 8, .inl (upd (Fl_lights v) (Fl_parts v).toNatClampNeg p0)))], [(qb, .inl (E.2.1, 8, .inl (upd (Fl_darks v) (Fl_parts v).toNatClampNeg p1)))]]) H := hP
        have hD : va_D A (bl [[(o, .inr (2, [.ref qa, .ref qb, .int ((Fl_parts v) + 1), .int ((Fl_allLight v) + p0), .int ((Fl_allDark v) + p1)]))], [(qa, .inl (E.2.1, 8, .inl (upd (Fl_lights v) (Fl_parts v).toNatClampNeg p0)))], [(qb, .inl (E.2.1, 8, .inl (upd (Fl_darks v) (Fl_parts v).toNatClampNeg p1)))]]) := hD
        exact g_vret (rvf := fun z => none) (W1f := fun z => bl [Fl_c E o qa qb z]) hx hb hr hlocks hQ hF rfl hP hD hS [0, 1, 2] rfl rfl dX4_append_82
      · exact g_vret (rvf := fun z => none) (W1f := fun z => bl [Fl_c E o qa qb z]) hx hb hr hlocks hQ hF rfl hP hD hS [0, 1, 2] rfl rfl dX4_append_31
def F_X4_period (v : FlV) : Option (Int32) := some ((Fl_allLight v) + (Fl_allDark v))
set_option maxHeartbeats 4000000 in
set_option maxRecDepth 100000 in
theorem c_X4_period (l : Launch) (E : GE) (o : Nat) (qa : Nat) (qb : Nat) (v : FlV) (r : Int32) (hF : F_X4_period v = some r) : CT l E yX4_period wsX4_period ({ frames := 0, cells := 0, slots := 0, locals := 0 } : Room) [.ref o] (bl [Fl_c E o qa qb v]) (some (.int r)) (bl [Fl_c E o qa qb v]) 0 0 := by
  refine CT.of (cc := cX4_period) (maxL := 1) (ret := (some .int)) (by decide) rfl (Nat.le_of_ble_eq_true rfl) ?_
  intro p e s m args below meth cd A Q ls B hQ hP hD hS hl
  obtain ⟨hx, hb, hml, hown, hts, hr, hlocks, hK, hZ, hA, hnm⟩ := B
  have hown : s.vm.findClass RX4 = some m.cls := hown
  have hl : lv_has ls 1 [(0, .ref o)] := hl
  have w0 := hts (.fieldLink RX4 20 "HarborLight$FlashCode" "allLight" "I") (by decide +kernel)
  have w1 := hts (.fieldLink RX4 23 "HarborLight$FlashCode" "allDark" "I") (by decide +kernel)
  have in_X4 : ∀ w ∈ wsX40, w ∈ wsX4_period := by decide +kernel
  have hP : va_P E.1 vwCl (bl [[(o, .inr (2, [.ref qa, .ref qb, .int (Fl_parts v), .int (Fl_allLight v), .int (Fl_allDark v)]))], [(qa, .inl (E.2.1, 8, .inl (Fl_lights v)))], [(qb, .inl (E.2.1, 8, .inl (Fl_darks v)))]]) s.heap := hP
  have hD : va_D A (bl [[(o, .inr (2, [.ref qa, .ref qb, .int (Fl_parts v), .int (Fl_allLight v), .int (Fl_allDark v)]))], [(qa, .inl (E.2.1, 8, .inl (Fl_lights v)))], [(qb, .inl (E.2.1, 8, .inl (Fl_darks v)))]]) := hD
  unfold F_X4_period at hF
  refine lv_aload_n hx hb dX4_period_0 rfl (lv_at hl 0 rfl) ?_
  refine g_get (T := TX4) (N := 5) hx hb hts in_X4 hown hK hP 0 rfl rfl 3 (by decide) w0 rfl rfl dX4_period_1 ?_
  refine lv_aload_n hx hb dX4_period_4 rfl (lv_at hl 0 rfl) ?_
  refine g_get (T := TX4) (N := 5) hx hb hts in_X4 hown hK hP 0 rfl rfl 4 (by decide) w1 rfl rfl dX4_period_5 ?_
  refine lv_iadd hx hb dX4_period_8 ?_
  exact g_iret (rvf := fun z => some (.int z)) (W1f := fun z => bl [Fl_c E o qa qb v]) hx hb hr hlocks hQ hF rfl hP hD hS [0, 1, 2] rfl rfl dX4_period_9
def F_X4_lightTicks (v : FlV) : Option (Int32) := some (Fl_allLight v)
set_option maxHeartbeats 4000000 in
set_option maxRecDepth 100000 in
theorem c_X4_lightTicks (l : Launch) (E : GE) (o : Nat) (qa : Nat) (qb : Nat) (v : FlV) (r : Int32) (hF : F_X4_lightTicks v = some r) : CT l E yX4_lightTicks wsX4_lightTicks ({ frames := 0, cells := 0, slots := 0, locals := 0 } : Room) [.ref o] (bl [Fl_c E o qa qb v]) (some (.int r)) (bl [Fl_c E o qa qb v]) 0 0 := by
  refine CT.of (cc := cX4_lightTicks) (maxL := 1) (ret := (some .int)) (by decide) rfl (Nat.le_of_ble_eq_true rfl) ?_
  intro p e s m args below meth cd A Q ls B hQ hP hD hS hl
  obtain ⟨hx, hb, hml, hown, hts, hr, hlocks, hK, hZ, hA, hnm⟩ := B
  have hown : s.vm.findClass RX4 = some m.cls := hown
  have hl : lv_has ls 1 [(0, .ref o)] := hl
  have w0 := hts (.fieldLink RX4 20 "HarborLight$FlashCode" "allLight" "I") (by decide +kernel)
  have in_X4 : ∀ w ∈ wsX40, w ∈ wsX4_lightTicks := by decide +kernel
  have hP : va_P E.1 vwCl (bl [[(o, .inr (2, [.ref qa, .ref qb, .int (Fl_parts v), .int (Fl_allLight v), .int (Fl_allDark v)]))], [(qa, .inl (E.2.1, 8, .inl (Fl_lights v)))], [(qb, .inl (E.2.1, 8, .inl (Fl_darks v)))]]) s.heap := hP
  have hD : va_D A (bl [[(o, .inr (2, [.ref qa, .ref qb, .int (Fl_parts v), .int (Fl_allLight v), .int (Fl_allDark v)]))], [(qa, .inl (E.2.1, 8, .inl (Fl_lights v)))], [(qb, .inl (E.2.1, 8, .inl (Fl_darks v)))]]) := hD
  unfold F_X4_lightTicks at hF
  refine lv_aload_n hx hb dX4_lightTicks_0 rfl (lv_at hl 0 rfl) ?_
  refine g_get (T := TX4) (N := 5) hx hb hts in_X4 hown hK hP 0 rfl rfl 3 (by decide) w0 rfl rfl dX4_lightTicks_1 ?_
  exact g_iret (rvf := fun z => some (.int z)) (W1f := fun z => bl [Fl_c E o qa qb v]) hx hb hr hlocks hQ hF rfl hP hD hS [0, 1, 2] rfl rfl dX4_lightTicks_4
def F_X4_share (v : FlV) : Option (UInt64) := (F_X4_period v).bind fun q1 => if q1 = 0 then some FP.dconst0 else (F_X4_period v).bind fun q2 => nn64 (FP.ddiv (FP.i2d (Fl_allLight v)) (FP.i2d q2)) (some (FP.ddiv (FP.i2d (Fl_allLight v)) (FP.i2d q2)))
set_option maxHeartbeats 4000000 in
set_option maxRecDepth 100000 in
theorem c_X4_share (l : Launch) (E : GE) (o : Nat) (qa : Nat) (qb : Nat) (v : FlV) (r : UInt64) (hF : F_X4_share v = some r) : CT l E yX4_share wsX4_share ({ frames := 1, cells := 0, slots := 0, locals := 20 } : Room) [.ref o] (bl [Fl_c E o qa qb v]) (some (.double r)) (bl [Fl_c E o qa qb v]) 0 0 := by
  refine CT.of (cc := cX4_share) (maxL := 1) (ret := (some .double)) (by decide) rfl (Nat.le_of_ble_eq_true rfl) ?_
  intro p e s m args below meth cd A Q ls B hQ hP hD hS hl
  obtain ⟨hx, hb, hml, hown, hts, hr, hlocks, hK, hZ, hA, hnm⟩ := B
  have hown : s.vm.findClass RX4 = some m.cls := hown
  have hl : lv_has ls 1 [(0, .ref o)] := hl
  have w0 := hts (.fieldLink RX4 20 "HarborLight$FlashCode" "allLight" "I") (by decide +kernel)
  have in_X4 : ∀ w ∈ wsX40, w ∈ wsX4_share := by decide +kernel
  have hP : va_P E.1 vwCl (bl [[(o, .inr (2, [.ref qa, .ref qb, .int (Fl_parts v), .int (Fl_allLight v), .int (Fl_allDark v)]))], [(qa, .inl (E.2.1, 8, .inl (Fl_lights v)))], [(qb, .inl (E.2.1, 8, .inl (Fl_darks v)))]]) s.heap := hP
  have hD : va_D A (bl [[(o, .inr (2, [.ref qa, .ref qb, .int (Fl_parts v), .int (Fl_allLight v), .int (Fl_allDark v)]))], [(qa, .inl (E.2.1, 8, .inl (Fl_lights v)))], [(qb, .inl (E.2.1, 8, .inl (Fl_darks v)))]]) := hD
  unfold F_X4_share at hF
  refine lv_aload_n hx hb dX4_share_0 rfl (lv_at hl 0 rfl) ?_
  obtain ⟨q1, h_q1, hF⟩ := bnd_s hF
  refine g_callV (As := []) (rest := []) ⟨hx, hb, hml, hown, hts⟩ hK hZ hA (c_X4_period l E o qa qb v q1 h_q1) (cwV 0 hts gX4_share_X4_period rfl rfl rfl (by decide +kernel) ⟨Nat.le_of_ble_eq_true rfl, Nat.le_of_ble_eq_true rfl⟩) hP hD hS [0, 1, 2] [] rfl rfl rfl rfl rfl rfl hl.1 rfl (Nat.le_of_ble_eq_true rfl) dX4_share_1 ⟨Nat.le_of_ble_eq_true rfl, Nat.le_of_ble_eq_true rfl⟩ (fun H locs hP hD hS => ?_)
  have hP : va_P E.1 vwCl (bl [[(o, .inr (2, [.ref qa, .ref qb, .int (Fl_parts v), .int (Fl_allLight v), .int (Fl_allDark v)]))], [(qa, .inl (E.2.1, 8, .inl (Fl_lights v)))], [(qb, .inl (E.2.1, 8, .inl (Fl_darks v)))]]) H := hP
  have hD : va_D A (bl [[(o, .inr (2, [.ref qa, .ref qb, .int (Fl_parts v), .int (Fl_allLight v), .int (Fl_allDark v)]))], [(qa, .inl (E.2.1, 8, .inl (Fl_lights v)))], [(qb, .inl (E.2.1, 8, .inl (Fl_darks v)))]]) := hD
  refine W.eq (g2 := F0 m 4 ls [.int q1]) rfl ?_
  refine f_if_ne (tgt := 11) hx hb dX4_share_4 (by decide) hF (fun hF => ?_) (fun hF => ?_)
  · refine lv_aload_n hx hb dX4_share_11 rfl (lv_at hl 0 rfl) ?_
    refine g_get (T := TX4) (N := 5) hx hb hts in_X4 hown hK hP 0 rfl rfl 3 (by decide) w0 rfl rfl dX4_share_12 ?_
    refine lv_i2d hx hb dX4_share_15 ?_
    refine lv_aload_n hx hb dX4_share_16 rfl (lv_at hl 0 rfl) ?_
    obtain ⟨q2, h_q2, hF⟩ := bnd_s hF
    refine g_callV (As := []) (rest := [.double (FP.i2d (Fl_allLight v))]) ⟨hx, hb, hml, hown, hts⟩ hK hZ hA (c_X4_period l E o qa qb v q2 h_q2) (cwV 0 hts gX4_share_X4_period rfl rfl rfl (by decide +kernel) ⟨Nat.le_of_ble_eq_true rfl, Nat.le_of_ble_eq_true rfl⟩) hP hD hS [0, 1, 2] [] rfl rfl rfl rfl rfl rfl hl.1 rfl (Nat.le_of_ble_eq_true rfl) dX4_share_17 ⟨Nat.le_of_ble_eq_true rfl, Nat.le_of_ble_eq_true rfl⟩ (fun H locs hP hD hS => ?_)
    have hP : va_P E.1 vwCl (bl [[(o, .inr (2, [.ref qa, .ref qb, .int (Fl_parts v), .int (Fl_allLight v), .int (Fl_allDark v)]))], [(qa, .inl (E.2.1, 8, .inl (Fl_lights v)))], [(qb, .inl (E.2.1, 8, .inl (Fl_darks v)))]]) H := hP
    have hD : va_D A (bl [[(o, .inr (2, [.ref qa, .ref qb, .int (Fl_parts v), .int (Fl_allLight v), .int (Fl_allDark v)]))], [(qa, .inl (E.2.1, 8, .inl (Fl_lights v)))], [(qb, .inl (E.2.1, 8, .inl (Fl_darks v)))]]) := hD
    refine W.eq (g2 := F0 m 20 ls [.int q2, .double (FP.i2d (Fl_allLight v))]) rfl ?_
    refine lv_i2d hx hb dX4_share_20 ?_
    refine f_ddiv hx hb hF dX4_share_21 (fun hF => ?_)
    exact g_dret (rvf := fun z => some (.double z)) (W1f := fun z => bl [Fl_c E o qa qb v]) hx hb hr hlocks hQ hF rfl hP hD hS [0, 1, 2] rfl rfl dX4_share_22
  · refine lv_dconst0 hx hb dX4_share_7 ?_
    refine lv_goto (tgt := 22) hx hb dX4_share_8 (by decide) ?_
    exact g_dret (rvf := fun z => some (.double z)) (W1f := fun z => bl [Fl_c E o qa qb v]) hx hb hr hlocks hQ hF rfl hP hD hS [0, 1, 2] rfl rfl dX4_share_22
def F_X4_kind (v : FlV) : Option (Int32) := if (Fl_allDark v) = 0 then some 0 else if (Fl_parts v) = 1 then if (Fl_allLight v) = (Fl_allDark v) then some 1 else if (Fl_allDark v) ≤ (Fl_allLight v) then some 3 else some 2 else if (Fl_allDark v) ≤ (Fl_allLight v) then some 3 else some 2
set_option maxHeartbeats 4000000 in
set_option maxRecDepth 100000 in
theorem c_X4_kind (l : Launch) (E : GE) (o : Nat) (qa : Nat) (qb : Nat) (v : FlV) (r : Int32) (hF : F_X4_kind v = some r) : CT l E yX4_kind wsX4_kind ({ frames := 0, cells := 0, slots := 0, locals := 0 } : Room) [.ref o] (bl [Fl_c E o qa qb v]) (some (.int r)) (bl [Fl_c E o qa qb v]) 0 0 := by
  refine CT.of (cc := cX4_kind) (maxL := 1) (ret := (some .int)) (by decide) rfl (Nat.le_of_ble_eq_true rfl) ?_
  intro p e s m args below meth cd A Q ls B hQ hP hD hS hl
  obtain ⟨hx, hb, hml, hown, hts, hr, hlocks, hK, hZ, hA, hnm⟩ := B
  have hown : s.vm.findClass RX4 = some m.cls := hown
  have hl : lv_has ls 1 [(0, .ref o)] := hl
  have w0 := hts (.fieldLink RX4 23 "HarborLight$FlashCode" "allDark" "I") (by decide +kernel)
  have w1 := hts (.fieldLink RX4 16 "HarborLight$FlashCode" "parts" "I") (by decide +kernel)
  have w2 := hts (.fieldLink RX4 20 "HarborLight$FlashCode" "allLight" "I") (by decide +kernel)
  have in_X4 : ∀ w ∈ wsX40, w ∈ wsX4_kind := by decide +kernel
  have hP : va_P E.1 vwCl (bl [[(o, .inr (2, [.ref qa, .ref qb, .int (Fl_parts v), .int (Fl_allLight v), .int (Fl_allDark v)]))], [(qa, .inl (E.2.1, 8, .inl (Fl_lights v)))], [(qb, .inl (E.2.1, 8, .inl (Fl_darks v)))]]) s.heap := hP
  have hD : va_D A (bl [[(o, .inr (2, [.ref qa, .ref qb, .int (Fl_parts v), .int (Fl_allLight v), .int (Fl_allDark v)]))], [(qa, .inl (E.2.1, 8, .inl (Fl_lights v)))], [(qb, .inl (E.2.1, 8, .inl (Fl_darks v)))]]) := hD
  unfold F_X4_kind at hF
  refine lv_aload_n hx hb dX4_kind_0 rfl (lv_at hl 0 rfl) ?_
  refine g_get (T := TX4) (N := 5) hx hb hts in_X4 hown hK hP 0 rfl rfl 4 (by decide) w0 rfl rfl dX4_kind_1 ?_
  refine f_if_ne (tgt := 9) hx hb dX4_kind_4 (by decide) hF (fun hF => ?_) (fun hF => ?_)
  · refine lv_aload_n hx hb dX4_kind_9 rfl (lv_at hl 0 rfl) ?_
    refine g_get (T := TX4) (N := 5) hx hb hts in_X4 hown hK hP 0 rfl rfl 2 (by decide) w1 rfl rfl dX4_kind_10 ?_
    refine lv_iconst (v := 1) hx hb dX4_kind_13 (by decide) ?_
    refine f_icmp_ne (tgt := 30) hx hb dX4_kind_14 (by decide) hF (fun hF => ?_) (fun hF => ?_)
    · refine lv_aload_n hx hb dX4_kind_30 rfl (lv_at hl 0 rfl) ?_
      refine g_get (T := TX4) (N := 5) hx hb hts in_X4 hown hK hP 0 rfl rfl 4 (by decide) w0 rfl rfl dX4_kind_31 ?_
      refine lv_aload_n hx hb dX4_kind_34 rfl (lv_at hl 0 rfl) ?_
      refine g_get (T := TX4) (N := 5) hx hb hts in_X4 hown hK hP 0 rfl rfl 3 (by decide) w2 rfl rfl dX4_kind_35 ?_
      refine f_icmp_le (tgt := 45) hx hb dX4_kind_38 (by decide) hF (fun hF => ?_) (fun hF => ?_)
      · refine lv_iconst (v := 3) hx hb dX4_kind_45 (by decide) ?_
        exact g_iret (rvf := fun z => some (.int z)) (W1f := fun z => bl [Fl_c E o qa qb v]) hx hb hr hlocks hQ hF rfl hP hD hS [0, 1, 2] rfl rfl dX4_kind_46
      · refine lv_iconst (v := 2) hx hb dX4_kind_41 (by decide) ?_
        refine lv_goto (tgt := 46) hx hb dX4_kind_42 (by decide) ?_
        exact g_iret (rvf := fun z => some (.int z)) (W1f := fun z => bl [Fl_c E o qa qb v]) hx hb hr hlocks hQ hF rfl hP hD hS [0, 1, 2] rfl rfl dX4_kind_46
    · refine lv_aload_n hx hb dX4_kind_17 rfl (lv_at hl 0 rfl) ?_
      refine g_get (T := TX4) (N := 5) hx hb hts in_X4 hown hK hP 0 rfl rfl 3 (by decide) w2 rfl rfl dX4_kind_18 ?_
      refine lv_aload_n hx hb dX4_kind_21 rfl (lv_at hl 0 rfl) ?_
      refine g_get (T := TX4) (N := 5) hx hb hts in_X4 hown hK hP 0 rfl rfl 4 (by decide) w0 rfl rfl dX4_kind_22 ?_
      refine f_icmp_ne (tgt := 30) hx hb dX4_kind_25 (by decide) hF (fun hF => ?_) (fun hF => ?_)
      · refine lv_aload_n hx hb dX4_kind_30 rfl (lv_at hl 0 rfl) ?_
        refine g_get (T := TX4) (N := 5) hx hb hts in_X4 hown hK hP 0 rfl rfl 4 (by decide) w0 rfl rfl dX4_kind_31 ?_
        refine lv_aload_n hx hb dX4_kind_34 rfl (lv_at hl 0 rfl) ?_
        refine g_get (T := TX4) (N := 5) hx hb hts in_X4 hown hK hP 0 rfl rfl 3 (by decide) w2 rfl rfl dX4_kind_35 ?_
        refine f_icmp_le (tgt := 45) hx hb dX4_kind_38 (by decide) hF (fun hF => ?_) (fun hF => ?_)
        · refine lv_iconst (v := 3) hx hb dX4_kind_45 (by decide) ?_
          exact g_iret (rvf := fun z => some (.int z)) (W1f := fun z => bl [Fl_c E o qa qb v]) hx hb hr hlocks hQ hF rfl hP hD hS [0, 1, 2] rfl rfl dX4_kind_46
        · refine lv_iconst (v := 2) hx hb dX4_kind_41 (by decide) ?_
          refine lv_goto (tgt := 46) hx hb dX4_kind_42 (by decide) ?_
          exact g_iret (rvf := fun z => some (.int z)) (W1f := fun z => bl [Fl_c E o qa qb v]) hx hb hr hlocks hQ hF rfl hP hD hS [0, 1, 2] rfl rfl dX4_kind_46
      · refine lv_iconst (v := 1) hx hb dX4_kind_28 (by decide) ?_
        exact g_iret (rvf := fun z => some (.int z)) (W1f := fun z => bl [Fl_c E o qa qb v]) hx hb hr hlocks hQ hF rfl hP hD hS [0, 1, 2] rfl rfl dX4_kind_29
  · refine lv_iconst (v := 0) hx hb dX4_kind_7 (by decide) ?_
    exact g_iret (rvf := fun z => some (.int z)) (W1f := fun z => bl [Fl_c E o qa qb v]) hx hb hr hlocks hQ hF rfl hP hD hS [0, 1, 2] rfl rfl dX4_kind_8
def F_X4_isLitAt_L19 (n : Nat) : Nat → FlV → Int32 → Int32 → Option (Int32)
  | 0, _, _, _ => none
  | k + 1, v, x3, x4 => if (Fl_parts v) ≤ x4 then some 0 else if 8 ≤ x4 then some 0 else if 8 ≤ x4 then some 0 else chk x4 8 (if ((Fl_lights v) x4.toNatClampNeg) ≤ x3 then chk x4 8 (chk x4 8 (if 0 ≤ (x3 - (((Fl_lights v) x4.toNatClampNeg) + ((Fl_darks v) x4.toNatClampNeg))) then F_X4_isLitAt_L19 n k v (x3 - (((Fl_lights v) x4.toNatClampNeg) + ((Fl_darks v) x4.toNatClampNeg))) (x4 + 1) else some 0)) else some 1)
def F_X4_isLitAt (n : Nat) (v : FlV) (p0 : Int32) : Option (Int32) := (F_X4_period v).bind fun q1 => if 1 ≤ q1 then nzd q1 (F_X4_isLitAt_L19 n n v (p0 - p0 / q1 * q1) 0) else some 0
set_option maxHeartbeats 4000000 in
set_option maxRecDepth 100000 in
theorem c_X4_isLitAt (l : Launch) (E : GE) (o : Nat) (qa : Nat) (qb : Nat) (n : Nat) (v : FlV) (p0 : Int32) (r : Int32) (hF : F_X4_isLitAt n v p0 = some r) : CT l E yX4_isLitAt wsX4_isLitAt ({ frames := 1, cells := 0, slots := 0, locals := 20 } : Room) [.ref o, .int p0] (bl [Fl_c E o qa qb v]) (some (.int r)) (bl [Fl_c E o qa qb v]) 0 0 := by
  refine CT.of (cc := cX4_isLitAt) (maxL := 5) (ret := (some .boolean)) (by decide) rfl (Nat.le_of_ble_eq_true rfl) ?_
  intro p e s m args below meth cd A Q ls B hQ hP hD hS hl
  obtain ⟨hx, hb, hml, hown, hts, hr, hlocks, hK, hZ, hA, hnm⟩ := B
  have hown : s.vm.findClass RX4 = some m.cls := hown
  have hl : lv_has ls 5 [(0, .ref o), (1, .int p0)] := hl
  have w0 := hts (.fieldLink RX4 16 "HarborLight$FlashCode" "parts" "I") (by decide +kernel)
  have w1 := hts (.fieldLink RX4 9 "HarborLight$FlashCode" "lights" "[I") (by decide +kernel)
  have w2 := hts (.fieldLink RX4 13 "HarborLight$FlashCode" "darks" "[I") (by decide +kernel)
  have in_X4 : ∀ w ∈ wsX40, w ∈ wsX4_isLitAt := by decide +kernel
  have hP : va_P E.1 vwCl (bl [[(o, .inr (2, [.ref qa, .ref qb, .int (Fl_parts v), .int (Fl_allLight v), .int (Fl_allDark v)]))], [(qa, .inl (E.2.1, 8, .inl (Fl_lights v)))], [(qb, .inl (E.2.1, 8, .inl (Fl_darks v)))]]) s.heap := hP
  have hD : va_D A (bl [[(o, .inr (2, [.ref qa, .ref qb, .int (Fl_parts v), .int (Fl_allLight v), .int (Fl_allDark v)]))], [(qa, .inl (E.2.1, 8, .inl (Fl_lights v)))], [(qb, .inl (E.2.1, 8, .inl (Fl_darks v)))]]) := hD
  have hL19 : ∀ (k : Nat) (x3 : Int32) (x4 : Int32) (H : Heap) (locs : List Loc), va_P E.1 vwCl (bl [[(o, .inr (2, [.ref qa, .ref qb, .int (Fl_parts v), .int (Fl_allLight v), .int (Fl_allDark v)]))], [(qa, .inl (E.2.1, 8, .inl (Fl_lights v)))], [(qb, .inl (E.2.1, 8, .inl (Fl_darks v)))]]) H → va_D A (bl [[(o, .inr (2, [.ref qa, .ref qb, .int (Fl_parts v), .int (Fl_allLight v), .int (Fl_allDark v)]))], [(qa, .inl (E.2.1, 8, .inl (Fl_lights v)))], [(qb, .inl (E.2.1, 8, .inl (Fl_darks v)))]]) → va_S A s.heap H locs → ∀ ls : Array Slot, lv_has ls 5 [(0, .ref o), (3, .int x3), (4, .int x4)] → F_X4_isLitAt_L19 n k v x3 x4 = some r → W p l e ({ frames := 1, cells := 0, slots := 0, locals := 20 } : Room) s m args below meth cd H locs 0 0 Q (F0 m 19 ls []) := by
    intro k
    induction k with
    | zero => intro x3 x4 H locs hP hD hS ls hl hF; cases hF
    | succ k ih =>
      intro x3 x4 H locs hP hD hS ls hl hF
      rw [F_X4_isLitAt_L19] at hF
      refine lv_iload hx hb dX4_isLitAt_19 (lv_at hl 2 rfl) ?_
      refine lv_aload_n hx hb dX4_isLitAt_21 rfl (lv_at hl 0 rfl) ?_
      refine g_get (T := TX4) (N := 5) hx hb hts in_X4 hown hK hP 0 rfl rfl 2 (by decide) w0 rfl rfl dX4_isLitAt_22 ?_
      refine f_icmp_ge (tgt := 91) hx hb dX4_isLitAt_25 (by decide) hF (fun hF => ?_) (fun hF => ?_)
      · refine lv_iconst (v := 0) hx hb dX4_isLitAt_91 (by decide) ?_
        exact g_zret (rvf := fun z => some (.int z)) (W1f := fun z => bl [Fl_c E o qa qb v]) hx hb hr hlocks rfl hQ hF rfl hP hD hS [0, 1, 2] rfl rfl dX4_isLitAt_92
      · refine lv_iload hx hb dX4_isLitAt_28 (lv_at hl 2 rfl) ?_
        refine lv_aload_n hx hb dX4_isLitAt_30 rfl (lv_at hl 0 rfl) ?_
        refine g_get (T := TX4) (N := 5) hx hb hts in_X4 hown hK hP 0 rfl rfl 0 (by decide) w1 rfl rfl dX4_isLitAt_31 ?_
        refine g_alen (v := 8) hx hb hK hP 1 0 rfl rfl rfl dX4_isLitAt_34 ?_
        refine f_icmp_ge (tgt := 91) hx hb dX4_isLitAt_35 (by decide) hF (fun hF => ?_) (fun hF => ?_)
        · refine lv_iconst (v := 0) hx hb dX4_isLitAt_91 (by decide) ?_
          exact g_zret (rvf := fun z => some (.int z)) (W1f := fun z => bl [Fl_c E o qa qb v]) hx hb hr hlocks rfl hQ hF rfl hP hD hS [0, 1, 2] rfl rfl dX4_isLitAt_92
        · refine lv_iload hx hb dX4_isLitAt_38 (lv_at hl 2 rfl) ?_
          refine lv_aload_n hx hb dX4_isLitAt_40 rfl (lv_at hl 0 rfl) ?_
          refine g_get (T := TX4) (N := 5) hx hb hts in_X4 hown hK hP 0 rfl rfl 1 (by decide) w2 rfl rfl dX4_isLitAt_41 ?_
          refine g_alen (v := 8) hx hb hK hP 2 0 rfl rfl rfl dX4_isLitAt_44 ?_
          refine f_icmp_ge (tgt := 91) hx hb dX4_isLitAt_45 (by decide) hF (fun hF => ?_) (fun hF => ?_)
          · refine lv_iconst (v := 0) hx hb dX4_isLitAt_91 (by decide) ?_
            exact g_zret (rvf := fun z => some (.int z)) (W1f := fun z => bl [Fl_c E o qa qb v]) hx hb hr hlocks rfl hQ hF rfl hP hD hS [0, 1, 2] rfl rfl dX4_isLitAt_92
          · refine lv_iload_n hx hb dX4_isLitAt_48 rfl (lv_at hl 1 rfl) ?_
            refine lv_aload_n hx hb dX4_isLitAt_49 rfl (lv_at hl 0 rfl) ?_
            refine g_get (T := TX4) (N := 5) hx hb hts in_X4 hown hK hP 0 rfl rfl 0 (by decide) w1 rfl rfl dX4_isLitAt_50 ?_
            refine lv_iload hx hb dX4_isLitAt_53 (lv_at hl 2 rfl) ?_
            refine f_iald hx hb hK hP 1 rfl hF dX4_isLitAt_55 (fun hF => ?_)
            refine f_icmp_ge (tgt := 61) hx hb dX4_isLitAt_56 (by decide) hF (fun hF => ?_) (fun hF => ?_)
            · refine lv_iload_n hx hb dX4_isLitAt_61 rfl (lv_at hl 1 rfl) ?_
              refine lv_aload_n hx hb dX4_isLitAt_62 rfl (lv_at hl 0 rfl) ?_
              refine g_get (T := TX4) (N := 5) hx hb hts in_X4 hown hK hP 0 rfl rfl 0 (by decide) w1 rfl rfl dX4_isLitAt_63 ?_
              refine lv_iload hx hb dX4_isLitAt_66 (lv_at hl 2 rfl) ?_
              refine f_iald hx hb hK hP 1 rfl hF dX4_isLitAt_68 (fun hF => ?_)
              refine lv_aload_n hx hb dX4_isLitAt_69 rfl (lv_at hl 0 rfl) ?_
              refine g_get (T := TX4) (N := 5) hx hb hts in_X4 hown hK hP 0 rfl rfl 1 (by decide) w2 rfl rfl dX4_isLitAt_70 ?_
              refine lv_iload hx hb dX4_isLitAt_73 (lv_at hl 2 rfl) ?_
              refine f_iald hx hb hK hP 2 rfl hF dX4_isLitAt_75 (fun hF => ?_)
              refine lv_iadd hx hb dX4_isLitAt_76 ?_
              refine lv_isub hx hb dX4_isLitAt_77 ?_
              refine lv_istore_n (lv' := [(3, .int (x3 - (((Fl_lights v) x4.toNatClampNeg) + ((Fl_darks v) x4.toNatClampNeg)))), (0, .ref o), (4, .int x4)]) hx hb dX4_isLitAt_78 rfl hl (by decide) rfl (fun ls hl => ?_)
              refine lv_iload_n hx hb dX4_isLitAt_79 rfl (lv_at hl 0 rfl) ?_
              refine f_if_ge (tgt := 85) hx hb dX4_isLitAt_80 (by decide) hF (fun hF => ?_) (fun hF => ?_)
              · refine lv_iinc (v := (x4 + 1)) (lv' := [(4, .int (x4 + 1)), (3, .int (x3 - (((Fl_lights v) x4.toNatClampNeg) + ((Fl_darks v) x4.toNatClampNeg)))), (0, .ref o)]) hx hb dX4_isLitAt_85 hl (k := 2) rfl rfl (by decide) rfl (fun ls hl => ?_)
                refine lv_goto (tgt := 19) hx hb dX4_isLitAt_88 (by decide) ?_
                exact ih (x3 - (((Fl_lights v) x4.toNatClampNeg) + ((Fl_darks v) x4.toNatClampNeg))) (x4 + 1) _ _ hP hD hS _ (lv_sub hl [2, 1, 0] rfl) hF
              · refine lv_iconst (v := 0) hx hb dX4_isLitAt_83 (by decide) ?_
                exact g_zret (rvf := fun z => some (.int z)) (W1f := fun z => bl [Fl_c E o qa qb v]) hx hb hr hlocks rfl hQ hF rfl hP hD hS [0, 1, 2] rfl rfl dX4_isLitAt_84
            · refine lv_iconst (v := 1) hx hb dX4_isLitAt_59 (by decide) ?_
              exact g_zret (rvf := fun z => some (.int z)) (W1f := fun z => bl [Fl_c E o qa qb v]) hx hb hr hlocks rfl hQ hF rfl hP hD hS [0, 1, 2] rfl rfl dX4_isLitAt_60
  unfold F_X4_isLitAt at hF
  refine lv_aload_n hx hb dX4_isLitAt_0 rfl (lv_at hl 0 rfl) ?_
  obtain ⟨q1, h_q1, hF⟩ := bnd_s hF
  refine g_callV (As := []) (rest := []) ⟨hx, hb, hml, hown, hts⟩ hK hZ hA (c_X4_period l E o qa qb v q1 h_q1) (cwV 0 hts gX4_isLitAt_X4_period rfl rfl rfl (by decide +kernel) ⟨Nat.le_of_ble_eq_true rfl, Nat.le_of_ble_eq_true rfl⟩) hP hD hS [0, 1, 2] [] rfl rfl rfl rfl rfl rfl hl.1 rfl (Nat.le_of_ble_eq_true rfl) dX4_isLitAt_1 ⟨Nat.le_of_ble_eq_true rfl, Nat.le_of_ble_eq_true rfl⟩ (fun H locs hP hD hS => ?_)
  have hP : va_P E.1 vwCl (bl [[(o, .inr (2, [.ref qa, .ref qb, .int (Fl_parts v), .int (Fl_allLight v), .int (Fl_allDark v)]))], [(qa, .inl (E.2.1, 8, .inl (Fl_lights v)))], [(qb, .inl (E.2.1, 8, .inl (Fl_darks v)))]]) H := hP
  have hD : va_D A (bl [[(o, .inr (2, [.ref qa, .ref qb, .int (Fl_parts v), .int (Fl_allLight v), .int (Fl_allDark v)]))], [(qa, .inl (E.2.1, 8, .inl (Fl_lights v)))], [(qb, .inl (E.2.1, 8, .inl (Fl_darks v)))]]) := hD
  refine W.eq (g2 := F0 m 4 ls [.int q1]) rfl ?_
  refine lv_istore_n (lv' := [(2, .int q1), (0, .ref o), (1, .int p0)]) hx hb dX4_isLitAt_4 rfl hl (by decide) rfl (fun ls hl => ?_)
  refine lv_iload_n hx hb dX4_isLitAt_5 rfl (lv_at hl 0 rfl) ?_
  refine lv_iconst (v := 1) hx hb dX4_isLitAt_6 (by decide) ?_
  refine f_icmp_ge (tgt := 12) hx hb dX4_isLitAt_7 (by decide) hF (fun hF => ?_) (fun hF => ?_)
  · refine lv_iload_n hx hb dX4_isLitAt_12 rfl (lv_at hl 2 rfl) ?_
    refine lv_iload_n hx hb dX4_isLitAt_13 rfl (lv_at hl 0 rfl) ?_
    refine f_irem hx hb hF dX4_isLitAt_14 (fun hF => ?_)
    refine lv_istore_n (lv' := [(3, .int (p0 - p0 / q1 * q1)), (2, .int q1), (0, .ref o), (1, .int p0)]) hx hb dX4_isLitAt_15 rfl hl (by decide) rfl (fun ls hl => ?_)
    refine lv_iconst (v := 0) hx hb dX4_isLitAt_16 (by decide) ?_
    refine lv_istore (lv' := [(4, .int 0), (3, .int (p0 - p0 / q1 * q1)), (2, .int q1), (0, .ref o), (1, .int p0)]) hx hb dX4_isLitAt_17 hl (by decide) rfl (fun ls hl => ?_)
    exact hL19 n (p0 - p0 / q1 * q1) 0 _ _ hP hD hS _ (lv_sub hl [3, 1, 0] rfl) hF
  · refine lv_iconst (v := 0) hx hb dX4_isLitAt_10 (by decide) ?_
    exact g_zret (rvf := fun z => some (.int z)) (W1f := fun z => bl [Fl_c E o qa qb v]) hx hb hr hlocks rfl hQ hF rfl hP hD hS [0, 1, 2] rfl rfl dX4_isLitAt_11
def F_X4_isLike_L15 (n : Nat) : Nat → FlV → FlV → Int32 → Option (Int32)
  | 0, _, _, _ => none
  | k + 1, v, v2, x2 => if (Fl_parts v) ≤ x2 then some 1 else if 8 ≤ x2 then some 1 else chk x2 8 (chk x2 8 (if ((Fl_lights v) x2.toNatClampNeg) = ((Fl_lights v2) x2.toNatClampNeg) then chk x2 8 (chk x2 8 (if ((Fl_darks v) x2.toNatClampNeg) = ((Fl_darks v2) x2.toNatClampNeg) then F_X4_isLike_L15 n k v v2 (x2 + 1) else some 0)) else some 0))
def F_X4_isLike (n : Nat) (v : FlV) (v2 : FlV) : Option (Int32) := if (Fl_parts v) = (Fl_parts v2) then F_X4_isLike_L15 n n v v2 0 else some 0
set_option maxHeartbeats 4000000 in
set_option maxRecDepth 100000 in
theorem c_X4_isLike (l : Launch) (E : GE) (o : Nat) (qa : Nat) (qb : Nat) (o2 : Nat) (qa2 : Nat) (qb2 : Nat) (n : Nat) (v : FlV) (v2 : FlV) (r : Int32) (hF : F_X4_isLike n v v2 = some r) : CT l E yX4_isLike wsX4_isLike ({ frames := 0, cells := 0, slots := 0, locals := 0 } : Room) [.ref o, .ref o2] (bl [Fl_c E o qa qb v, Fl_c E o2 qa2 qb2 v2]) (some (.int r)) (bl [Fl_c E o qa qb v, Fl_c E o2 qa2 qb2 v2]) 0 0 := by
  refine CT.of (cc := cX4_isLike) (maxL := 3) (ret := (some .boolean)) (by decide) rfl (Nat.le_of_ble_eq_true rfl) ?_
  intro p e s m args below meth cd A Q ls B hQ hP hD hS hl
  obtain ⟨hx, hb, hml, hown, hts, hr, hlocks, hK, hZ, hA, hnm⟩ := B
  have hown : s.vm.findClass RX4 = some m.cls := hown
  have hl : lv_has ls 3 [(0, .ref o), (1, .ref o2)] := hl
  have w0 := hts (.fieldLink RX4 16 "HarborLight$FlashCode" "parts" "I") (by decide +kernel)
  have w1 := hts (.fieldLink RX4 9 "HarborLight$FlashCode" "lights" "[I") (by decide +kernel)
  have w2 := hts (.fieldLink RX4 13 "HarborLight$FlashCode" "darks" "[I") (by decide +kernel)
  have in_X4 : ∀ w ∈ wsX40, w ∈ wsX4_isLike := by decide +kernel
  have hP : va_P E.1 vwCl (bl [[(o, .inr (2, [.ref qa, .ref qb, .int (Fl_parts v), .int (Fl_allLight v), .int (Fl_allDark v)]))], [(qa, .inl (E.2.1, 8, .inl (Fl_lights v)))], [(qb, .inl (E.2.1, 8, .inl (Fl_darks v)))], [(o2, .inr (2, [.ref qa2, .ref qb2, .int (Fl_parts v2), .int (Fl_allLight v2), .int (Fl_allDark v2)]))], [(qa2, .inl (E.2.1, 8, .inl (Fl_lights v2)))], [(qb2, .inl (E.2.1, 8, .inl (Fl_darks v2)))]]) s.heap := hP
  have hD : va_D A (bl [[(o, .inr (2, [.ref qa, .ref qb, .int (Fl_parts v), .int (Fl_allLight v), .int (Fl_allDark v)]))], [(qa, .inl (E.2.1, 8, .inl (Fl_lights v)))], [(qb, .inl (E.2.1, 8, .inl (Fl_darks v)))], [(o2, .inr (2, [.ref qa2, .ref qb2, .int (Fl_parts v2), .int (Fl_allLight v2), .int (Fl_allDark v2)]))], [(qa2, .inl (E.2.1, 8, .inl (Fl_lights v2)))], [(qb2, .inl (E.2.1, 8, .inl (Fl_darks v2)))]]) := hD
  have hL15 : ∀ (k : Nat) (x2 : Int32) (H : Heap) (locs : List Loc), va_P E.1 vwCl (bl [[(o, .inr (2, [.ref qa, .ref qb, .int (Fl_parts v), .int (Fl_allLight v), .int (Fl_allDark v)]))], [(qa, .inl (E.2.1, 8, .inl (Fl_lights v)))], [(qb, .inl (E.2.1, 8, .inl (Fl_darks v)))], [(o2, .inr (2, [.ref qa2, .ref qb2, .int (Fl_parts v2), .int (Fl_allLight v2), .int (Fl_allDark v2)]))], [(qa2, .inl (E.2.1, 8, .inl (Fl_lights v2)))], [(qb2, .inl (E.2.1, 8, .inl (Fl_darks v2)))]]) H → va_D A (bl [[(o, .inr (2, [.ref qa, .ref qb, .int (Fl_parts v), .int (Fl_allLight v), .int (Fl_allDark v)]))], [(qa, .inl (E.2.1, 8, .inl (Fl_lights v)))], [(qb, .inl (E.2.1, 8, .inl (Fl_darks v)))], [(o2, .inr (2, [.ref qa2, .ref qb2, .int (Fl_parts v2), .int (Fl_allLight v2), .int (Fl_allDark v2)]))], [(qa2, .inl (E.2.1, 8, .inl (Fl_lights v2)))], [(qb2, .inl (E.2.1, 8, .inl (Fl_darks v2)))]]) → va_S A s.heap H locs → ∀ ls : Array Slot, lv_has ls 3 [(0, .ref o), (1, .ref o2), (2, .int x2)] → F_X4_isLike_L15 n k v v2 x2 = some r → W p l e ({ frames := 0, cells := 0, slots := 0, locals := 0 } : Room) s m args below meth cd H locs 0 0 Q (F0 m 15 ls []) := by
    intro k
    induction k with
    | zero => intro x2 H locs hP hD hS ls hl hF; cases hF
    | succ k ih =>
      intro x2 H locs hP hD hS ls hl hF
      rw [F_X4_isLike_L15] at hF
      refine lv_iload_n hx hb dX4_isLike_15 rfl (lv_at hl 2 rfl) ?_
      refine lv_aload_n hx hb dX4_isLike_16 rfl (lv_at hl 0 rfl) ?_
      refine g_get (T := TX4) (N := 5) hx hb hts in_X4 hown hK hP 0 rfl rfl 2 (by decide) w0 rfl rfl dX4_isLike_17 ?_
      refine f_icmp_ge (tgt := 67) hx hb dX4_isLike_20 (by decide) hF (fun hF => ?_) (fun hF => ?_)
      · refine lv_iconst (v := 1) hx hb dX4_isLike_67 (by decide) ?_
        exact g_zret (rvf := fun z => some (.int z)) (W1f := fun z => bl [Fl_c E o qa qb v, Fl_c E o2 qa2 qb2 v2]) hx hb hr hlocks rfl hQ hF rfl hP hD hS [0, 1, 2, 3, 4, 5] rfl rfl dX4_isLike_68
      · refine lv_iload_n hx hb dX4_isLike_23 rfl (lv_at hl 2 rfl) ?_
        refine lv_bipush (v := 8) hx hb dX4_isLike_24 (by decide) ?_
        refine f_icmp_ge (tgt := 67) hx hb dX4_isLike_26 (by decide) hF (fun hF => ?_) (fun hF => ?_)
        · refine lv_iconst (v := 1) hx hb dX4_isLike_67 (by decide) ?_
          exact g_zret (rvf := fun z => some (.int z)) (W1f := fun z => bl [Fl_c E o qa qb v, Fl_c E o2 qa2 qb2 v2]) hx hb hr hlocks rfl hQ hF rfl hP hD hS [0, 1, 2, 3, 4, 5] rfl rfl dX4_isLike_68
        · refine lv_aload_n hx hb dX4_isLike_29 rfl (lv_at hl 0 rfl) ?_
          refine g_get (T := TX4) (N := 5) hx hb hts in_X4 hown hK hP 0 rfl rfl 0 (by decide) w1 rfl rfl dX4_isLike_30 ?_
          refine lv_iload_n hx hb dX4_isLike_33 rfl (lv_at hl 2 rfl) ?_
          refine f_iald hx hb hK hP 1 rfl hF dX4_isLike_34 (fun hF => ?_)
          refine lv_aload_n hx hb dX4_isLike_35 rfl (lv_at hl 1 rfl) ?_
          refine g_get (T := TX4) (N := 5) hx hb hts in_X4 hown hK hP 3 rfl rfl 0 (by decide) w1 rfl rfl dX4_isLike_36 ?_
          refine lv_iload_n hx hb dX4_isLike_39 rfl (lv_at hl 2 rfl) ?_
          refine f_iald hx hb hK hP 4 rfl hF dX4_isLike_40 (fun hF => ?_)
          refine f_icmp_ne (tgt := 59) hx hb dX4_isLike_41 (by decide) hF (fun hF => ?_) (fun hF => ?_)
          · refine lv_iconst (v := 0) hx hb dX4_isLike_59 (by decide) ?_
            exact g_zret (rvf := fun z => some (.int z)) (W1f := fun z => bl [Fl_c E o qa qb v, Fl_c E o2 qa2 qb2 v2]) hx hb hr hlocks rfl hQ hF rfl hP hD hS [0, 1, 2, 3, 4, 5] rfl rfl dX4_isLike_60
          · refine lv_aload_n hx hb dX4_isLike_44 rfl (lv_at hl 0 rfl) ?_
            refine g_get (T := TX4) (N := 5) hx hb hts in_X4 hown hK hP 0 rfl rfl 1 (by decide) w2 rfl rfl dX4_isLike_45 ?_
            refine lv_iload_n hx hb dX4_isLike_48 rfl (lv_at hl 2 rfl) ?_
            refine f_iald hx hb hK hP 2 rfl hF dX4_isLike_49 (fun hF => ?_)
            refine lv_aload_n hx hb dX4_isLike_50 rfl (lv_at hl 1 rfl) ?_
            refine g_get (T := TX4) (N := 5) hx hb hts in_X4 hown hK hP 3 rfl rfl 1 (by decide) w2 rfl rfl dX4_isLike_51 ?_
            refine lv_iload_n hx hb dX4_isLike_54 rfl (lv_at hl 2 rfl) ?_
            refine f_iald hx hb hK hP 5 rfl hF dX4_isLike_55 (fun hF => ?_)
            refine f_icmp_eq (tgt := 61) hx hb dX4_isLike_56 (by decide) hF (fun hF => ?_) (fun hF => ?_)
            · refine lv_iinc (v := (x2 + 1)) (lv' := [(2, .int (x2 + 1)), (0, .ref o), (1, .ref o2)]) hx hb dX4_isLike_61 hl (k := 2) rfl rfl (by decide) rfl (fun ls hl => ?_)
              refine lv_goto (tgt := 15) hx hb dX4_isLike_64 (by decide) ?_
              exact ih (x2 + 1) _ _ hP hD hS _ (lv_sub hl [1, 2, 0] rfl) hF
            · refine lv_iconst (v := 0) hx hb dX4_isLike_59 (by decide) ?_
              exact g_zret (rvf := fun z => some (.int z)) (W1f := fun z => bl [Fl_c E o qa qb v, Fl_c E o2 qa2 qb2 v2]) hx hb hr hlocks rfl hQ hF rfl hP hD hS [0, 1, 2, 3, 4, 5] rfl rfl dX4_isLike_60
  unfold F_X4_isLike at hF
  refine lv_aload_n hx hb dX4_isLike_0 rfl (lv_at hl 0 rfl) ?_
  refine g_get (T := TX4) (N := 5) hx hb hts in_X4 hown hK hP 0 rfl rfl 2 (by decide) w0 rfl rfl dX4_isLike_1 ?_
  refine lv_aload_n hx hb dX4_isLike_4 rfl (lv_at hl 1 rfl) ?_
  refine g_get (T := TX4) (N := 5) hx hb hts in_X4 hown hK hP 3 rfl rfl 2 (by decide) w0 rfl rfl dX4_isLike_5 ?_
  refine f_icmp_eq (tgt := 13) hx hb dX4_isLike_8 (by decide) hF (fun hF => ?_) (fun hF => ?_)
  · refine lv_iconst (v := 0) hx hb dX4_isLike_13 (by decide) ?_
    refine lv_istore_n (lv' := [(2, .int 0), (0, .ref o), (1, .ref o2)]) hx hb dX4_isLike_14 rfl hl (by decide) rfl (fun ls hl => ?_)
    exact hL15 n 0 _ _ hP hD hS _ (lv_sub hl [1, 2, 0] rfl) hF
  · refine lv_iconst (v := 0) hx hb dX4_isLike_11 (by decide) ?_
    exact g_zret (rvf := fun z => some (.int z)) (W1f := fun z => bl [Fl_c E o qa qb v, Fl_c E o2 qa2 qb2 v2]) hx hb hr hlocks rfl hQ hF rfl hP hD hS [0, 1, 2, 3, 4, 5] rfl rfl dX4_isLike_12
