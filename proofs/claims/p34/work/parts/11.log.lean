-- X6: printed by wip/whole/parts.py: a pure picture and a contract a method
def F_X6_become (v : LoV) (v2 : LoV) : Option (LoV) := cpk 0 0 40 40 40 (cpk 0 0 40 40 40 (cpk 0 0 40 40 40 (cpk 0 0 40 40 40 (cpk 0 0 4 4 4 (some (Lo_mk (va_cpy (Lo_ticks v2) (Lo_ticks v) (0 : Int32).toNatClampNeg (0 : Int32).toNatClampNeg (40 : Int32).toNatClampNeg) (va_cpy (Lo_colors v2) (Lo_colors v) (0 : Int32).toNatClampNeg (0 : Int32).toNatClampNeg (40 : Int32).toNatClampNeg) (va_cpy (Lo_directions v2) (Lo_directions v) (0 : Int32).toNatClampNeg (0 : Int32).toNatClampNeg (40 : Int32).toNatClampNeg) (va_cpy (Lo_numbers v2) (Lo_numbers v) (0 : Int32).toNatClampNeg (0 : Int32).toNatClampNeg (40 : Int32).toNatClampNeg) (va_cpy (Lo_shown v2) (Lo_shown v) (0 : Int32).toNatClampNeg (0 : Int32).toNatClampNeg (4 : Int32).toNatClampNeg) (Lo_passages v2) (Lo_entries v2)))))))
set_option maxHeartbeats 4000000 in
set_option maxRecDepth 100000 in
theorem c_X6_become (l : Launch) (E : GE) (o : Nat) (qa : Nat) (qb : Nat) (qc : Nat) (qd : Nat) (qe : Nat) (o2 : Nat) (qa2 : Nat) (qb2 : Nat) (qc2 : Nat) (qd2 : Nat) (qe2 : Nat) (v : LoV) (v2 : LoV) (r : LoV) (hF : F_X6_become v v2 = some r) : CT l E yX6_become wsX6_become ({ frames := 1, cells := 0, slots := 0, locals := 30 } : Room) [.ref o, .ref o2] (bl [Lo_c E o qa qb qc qd qe v, Lo_c E o2 qa2 qb2 qc2 qd2 qe2 v2]) (none) (bl [Lo_c E o qa qb qc qd qe r, Lo_c E o2 qa2 qb2 qc2 qd2 qe2 v2]) 0 0 := by
  refine CT.of (cc := cX6_become) (maxL := 2) (ret := none) (by decide) rfl (Nat.le_of_ble_eq_true rfl) ?_
  intro p e s m args below meth cd A Q ls B hQ hP hD hS hl
  obtain ⟨hx, hb, hml, hown, hts, hr, hlocks, hK, hZ, hA, hnm⟩ := B
  have hown : s.vm.findClass RX6 = some m.cls := hown
  have hl : lv_has ls 2 [(0, .ref o), (1, .ref o2)] := hl
  have w0 := hts (.fieldLink RX6 11 "HarborLight$Log" "ticks" "[I") (by decide +kernel)
  have w1 := hts (.methodLink RX6 27 arraycopyName) (by decide +kernel)
  have w2 := hts (.native arraycopyName) (by decide +kernel)
  have w3 := hts (.static arraycopyName) (by decide +kernel)
  have w4 := hts (.initialized "java/lang/System") (by decide +kernel)
  have w5 := hts (.fieldLink RX6 15 "HarborLight$Log" "colors" "[I") (by decide +kernel)
  have w6 := hts (.fieldLink RX6 18 "HarborLight$Log" "directions" "[I") (by decide +kernel)
  have w7 := hts (.fieldLink RX6 21 "HarborLight$Log" "numbers" "[I") (by decide +kernel)
  have w8 := hts (.fieldLink RX6 24 "HarborLight$Log" "shown" "[I") (by decide +kernel)
  have w9 := hts (.fieldLink RX6 33 "HarborLight$Log" "passages" "I") (by decide +kernel)
  have w10 := hts (.fieldLink RX6 37 "HarborLight$Log" "entries" "I") (by decide +kernel)
  have in_X6 : ∀ w ∈ wsX60, w ∈ wsX6_become := by decide +kernel
  have hP : va_P E.1 vwCl (bl [[(o, .inr (4, [.ref qa, .ref qb, .ref qc, .ref qd, .ref qe, .int (Lo_passages v), .int (Lo_entries v)]))], [(qa, .inl (E.2.1, 40, .inl (Lo_ticks v)))], [(qb, .inl (E.2.1, 40, .inl (Lo_colors v)))], [(qc, .inl (E.2.1, 40, .inl (Lo_directions v)))], [(qd, .inl (E.2.1, 40, .inl (Lo_numbers v)))], [(qe, .inl (E.2.1, 4, .inl (Lo_shown v)))], [(o2, .inr (4, [.ref qa2, .ref qb2, .ref qc2, .ref qd2, .ref qe2, .int (Lo_passages v2), .int (Lo_entries v2)]))], [(qa2, .inl (E.2.1, 40, .inl (Lo_ticks v2)))], [(qb2, .inl (E.2.1, 40, .inl (Lo_colors v2)))], [(qc2, .inl (E.2.1, 40, .inl (Lo_directions v2)))], [(qd2, .inl (E.2.1, 40, .inl (Lo_numbers v2)))], [(qe2, .inl (E.2.1, 4, .inl (Lo_shown v2)))]]) s.heap := hP
  have hD : va_D A (bl [[(o, .inr (4, [.ref qa, .ref qb, .ref qc, .ref qd, .ref qe, .int (Lo_passages v), .int (Lo_entries v)]))], [(qa, .inl (E.2.1, 40, .inl (Lo_ticks v)))], [(qb, .inl (E.2.1, 40, .inl (Lo_colors v)))], [(qc, .inl (E.2.1, 40, .inl (Lo_directions v)))], [(qd, .inl (E.2.1, 40, .inl (Lo_numbers v)))], [(qe, .inl (E.2.1, 4, .inl (Lo_shown v)))], [(o2, .inr (4, [.ref qa2, .ref qb2, .ref qc2, .ref qd2, .ref qe2, .int (Lo_passages v2), .int (Lo_entries v2)]))], [(qa2, .inl (E.2.1, 40, .inl (Lo_ticks v2)))], [(qb2, .inl (E.2.1, 40, .inl (Lo_colors v2)))], [(qc2, .inl (E.2.1, 40, .inl (Lo_directions v2)))], [(qd2, .inl (E.2.1, 40, .inl (Lo_numbers v2)))], [(qe2, .inl (E.2.1, 4, .inl (Lo_shown v2)))]]) := hD
  unfold F_X6_become at hF
  refine lv_aload_n hx hb dX6_become_0 rfl (lv_at hl 1 rfl) ?_
  refine g_get (T := TX6) (N := 7) hx hb hts in_X6 hown hK hP 6 rfl rfl 0 (by decide) w0 rfl rfl dX6_become_1 ?_
  refine lv_iconst (v := 0) hx hb dX6_become_4 (by decide) ?_
  refine lv_aload_n hx hb dX6_become_5 rfl (lv_at hl 0 rfl) ?_
  refine g_get (T := TX6) (N := 7) hx hb hts in_X6 hown hK hP 0 rfl rfl 0 (by decide) w0 rfl rfl dX6_become_6 ?_
  refine lv_iconst (v := 0) hx hb dX6_become_9 (by decide) ?_
  refine lv_bipush (v := 40) hx hb dX6_become_10 (by decide) ?_
  refine f_copy hx hb (hml.trans hl.1.symm) hown w1 w2 w3 w4 hK hP hD hS 7 1 rfl rfl hF (Nat.le_of_ble_eq_true rfl) (Nat.le_of_ble_eq_true rfl) dX6_become_12 (fun hF H locs hP hD hS => ?_)
  have hP : va_P E.1 vwCl (bl [[(o, .inr (4, [.ref qa, .ref qb, .ref qc, .ref qd, .ref qe, .int (Lo_passages v), .int (Lo_entries v)]))], [(qa, .inl (E.2.1, 40, .inl (va_cpy (Lo_ticks v2) (Lo_ticks v) (0 : Int32).toNatClampNeg (0 : Int32).toNatClampNeg (40 : Int32).toNatClampNeg)))], [(qb, .inl (E.2.1, 40, .inl (Lo_colors v)))], [(qc, .inl (E.2.1, 40, .inl (Lo_directions v)))], [(qd, .inl (E.2.1, 40, .inl (Lo_numbers v)))], [(qe, .inl (E.2.1, 4, .inl (Lo_shown v)))], [(o2, .inr (4, [.ref qa2, .ref qb2, .ref qc2, .ref qd2, .ref qe2, .int (Lo_passages v2), .int (Lo_entries v2)]))], [(qa2, .inl (E.2.1, 40, .inl (Lo_ticks v2)))], [(qb2, .inl (E.2.1, 40, .inl (Lo_colors v2)))], [(qc2, .inl (E.2.1, 40, .inl (Lo_directions v2)))], [(qd2, .inl (E.2.1, 40, .inl (Lo_numbers v2)))], [(qe2, .inl (E.2.1, 4, .inl (Lo_shown v2)))]]) H := hP
  have hD : va_D A (bl [[(o, .inr (4, [.ref qa, .ref qb, .ref qc, .ref qd, .ref qe, .int (Lo_passages v), .int (Lo_entries v)]))], [(qa, .inl (E.2.1, 40, .inl (va_cpy (Lo_ticks v2) (Lo_ticks v) (0 : Int32).toNatClampNeg (0 : Int32).toNatClampNeg (40 : Int32).toNatClampNeg)))], [(qb, .inl (E.2.1, 40, .inl (Lo_colors v)))], [(qc, .inl (E.2.1, 40, .inl (Lo_directions v)))], [(qd, .inl (E.2.1, 40, .inl (Lo_numbers v)))], [(qe, .inl (E.2.1, 4, .inl (Lo_shown v)))], [(o2, .inr (4, [.ref qa2, .ref qb2, .ref qc2, .ref qd2, .ref qe2, .int (Lo_passages v2), .int (Lo_entries v2)]))], [(qa2, .inl (E.2.1, 40, .inl (Lo_ticks v2)))], [(qb2, .inl (E.2.1, 40, .inl (Lo_colors v2)))], [(qc2, .inl (E.2.1, 40, .inl (Lo_directions v2)))], [(qd2, .inl (E.2.1, 40, .inl (Lo_numbers v2)))], [(qe2, .inl (E.2.1, 4, .inl (Lo_shown v2)))]]) := hD
  refine lv_aload_n hx hb dX6_become_15 rfl (lv_at hl 1 rfl) ?_
  refine g_get (T := TX6) (N := 7) hx hb hts in_X6 hown hK hP 6 rfl rfl 1 (by decide) w5 rfl rfl dX6_become_16 ?_
  refine lv_iconst (v := 0) hx hb dX6_become_19 (by decide) ?_
  refine lv_aload_n hx hb dX6_become_20 rfl (lv_at hl 0 rfl) ?_
  refine g_get (T := TX6) (N := 7) hx hb hts in_X6 hown hK hP 0 rfl rfl 1 (by decide) w5 rfl rfl dX6_become_21 ?_
  refine lv_iconst (v := 0) hx hb dX6_become_24 (by decide) ?_
  refine lv_bipush (v := 40) hx hb dX6_become_25 (by decide) ?_
  refine f_copy hx hb (hml.trans hl.1.symm) hown w1 w2 w3 w4 hK hP hD hS 8 2 rfl rfl hF (Nat.le_of_ble_eq_true rfl) (Nat.le_of_ble_eq_true rfl) dX6_become_27 (fun hF H locs hP hD hS => ?_)
  have hP : va_P E.1 vwCl (bl [[(o, .inr (4, [.ref qa, .ref qb, .ref qc, .ref qd, .ref qe, .int (Lo_passages v), .int (Lo_entries v)]))], [(qa, .inl (E.2.1, 40, .inl (va_cpy (Lo_ticks v2) (Lo_ticks v) (0 : Int32).toNatClampNeg (0 : Int32).toNatClampNeg (40 : Int32).toNatClampNeg)))], [(qb, .inl (E.2.1, 40, .inl (va_cpy (Lo_colors v2) (Lo_colors v) (0 : Int32).toNatClampNeg (0 : Int32).toNatClampNeg (40 : Int32).toNatClampNeg)))], [(qc, .inl (E.2.1, 40, .inl (Lo_directions v)))], [(qd, .inl (E.2.1, 40, .inl (Lo_numbers v)))], [(qe, .inl (E.2.1, 4, .inl (Lo_shown v)))], [(o2, .inr (4, [.ref qa2, .ref qb2, .ref qc2, .ref qd2, .ref qe2, .int (Lo_passages v2), .int (Lo_entries v2)]))], [(qa2, .inl (E.2.1, 40, .inl (Lo_ticks v2)))], [(qb2, .inl (E.2.1, 40, .inl (Lo_colors v2)))], [(qc2, .inl (E.2.1, 40, .inl (Lo_directions v2)))], [(qd2, .inl (E.2.1, 40, .inl (Lo_numbers v2)))], [(qe2, .inl (E.2.1, 4, .inl (Lo_shown v2)))]]) H := hP
  have hD : va_D A (bl [[(o, .inr (4, [.ref qa, .ref qb, .ref qc, .ref qd, .ref qe, .int (Lo_passages v), .int (Lo_entries v)]))], [(qa, .inl (E.2.1, 40, .inl (va_cpy (Lo_ticks v2) (Lo_ticks v) (0 : Int32).toNatClampNeg (0 : Int32).toNatClampNeg (40 : Int32).toNatClampNeg)))], [(qb, .inl (E.2.1, 40, .inl (va_cpy (Lo_colors v2) (Lo_colors v) (0 : Int32).toNatClampNeg (0 : Int32).toNatClampNeg (40 : Int32).toNatClampNeg)))], [(qc, .inl (E.2.1, 40, .inl (Lo_directions v)))], [(qd, .inl (E.2.1, 40, .inl (Lo_numbers v)))], [(qe, .inl (E.2.1, 4, .inl (Lo_shown v)))], [(o2, .inr (4, [.ref qa2, .ref qb2, .ref qc2, .ref qd2, .ref qe2, .int (Lo_passages v2), .int (Lo_entries v2)]))], [(qa2, .inl (E.2.1, 40, .inl (Lo_ticks v2)))], [(qb2, .inl (E.2.1, 40, .inl (Lo_colors v2)))], [(qc2, .inl (E.2.1, 40, .inl (Lo_directions v2)))], [(qd2, .inl (E.2.1, 40, .inl (Lo_numbers v2)))], [(qe2, .inl (E.2.1, 4, .inl (Lo_shown v2)))]]) := hD
  refine lv_aload_n hx hb dX6_become_30 rfl (lv_at hl 1 rfl) ?_
  refine g_get (T := TX6) (N := 7) hx hb hts in_X6 hown hK hP 6 rfl rfl 2 (by decide) w6 rfl rfl dX6_become_31 ?_
  refine lv_iconst (v := 0) hx hb dX6_become_34 (by decide) ?_
  refine lv_aload_n hx hb dX6_become_35 rfl (lv_at hl 0 rfl) ?_
  refine g_get (T := TX6) (N := 7) hx hb hts in_X6 hown hK hP 0 rfl rfl 2 (by decide) w6 rfl rfl dX6_become_36 ?_
  refine lv_iconst (v := 0) hx hb dX6_become_39 (by decide) ?_
  refine lv_bipush (v := 40) hx hb dX6_become_40 (by decide) ?_
  refine f_copy hx hb (hml.trans hl.1.symm) hown w1 w2 w3 w4 hK hP hD hS 9 3 rfl rfl hF (Nat.le_of_ble_eq_true rfl) (Nat.le_of_ble_eq_true rfl) dX6_become_42 (fun hF H locs hP hD hS => ?_)
  have hP : va_P E.1 vwCl (bl [[(o, .inr (4, [.ref qa, .ref qb, .ref qc, .ref qd, .ref qe, .int (Lo_passages v), .int (Lo_entries v)]))], [(qa, .inl (E.2.1, 40, .inl (va_cpy (Lo_ticks v2) (Lo_ticks v) (0 : Int32).toNatClampNeg (0 : Int32).toNatClampNeg (40 : Int32).toNatClampNeg)))], [(qb, .inl (E.2.1, 40, .inl (va_cpy (Lo_colors v2) (Lo_colors v) (0 : Int32).toNatClampNeg (0 : Int32).toNatClampNeg (40 : Int32).toNatClampNeg)))], [(qc, .inl (E.2.1, 40, .inl (va_cpy (Lo_directions v2) (Lo_directions v) (0 : Int32).toNatClampNeg (0 : Int32).toNatClampNeg (40 : Int32).toNatClampNeg)))], [(qd, .inl (E.2.1, 40, .inl (Lo_numbers v)))], [(qe, .inl (E.2.1, 4, .inl (Lo_shown v)))], [(o2, .inr (4, [.ref qa2, .ref qb2, .ref qc2, .ref qd2, .ref qe2, .int (Lo_passages v2), .int (Lo_entries v2)]))], [(qa2, .inl (E.2.1, 40, .inl (Lo_ticks v2)))], [(qb2, .inl (E.2.1, 40, .inl (Lo_colors v2)))], [(qc2, .inl (E.2.1, 40, .inl (Lo_directions v2)))], [(qd2, .inl (E.2.1, 40, .inl (Lo_numbers v2)))], [(qe2, .inl (E.2.1, 4, .inl (Lo_shown v2)))]]) H := hP
  have hD : va_D A (bl [[(o, .inr (4, [.ref qa, .ref qb, .ref qc, .ref qd, .ref qe, .int (Lo_passages v), .int (Lo_entries v)]))], [(qa, .inl (E.2.1, 40, .inl (va_cpy (Lo_ticks v2) (Lo_ticks v) (0 : Int32).toNatClampNeg (0 : Int32).toNatClampNeg (40 : Int32).toNatClampNeg)))], [(qb, .inl (E.2.1, 40, .inl (va_cpy (Lo_colors v2) (Lo_colors v) (0 : Int32).toNatClampNeg (0 : Int32).toNatClampNeg (40 : Int32).toNatClampNeg)))], [(qc, .inl (E.2.1, 40, .inl (va_cpy (Lo_directions v2) (Lo_directions v) (0 : Int32).toNatClampNeg (0 : Int32).toNatClampNeg (40 : Int32).toNatClampNeg)))], [(qd, .inl (E.2.1, 40, .inl (Lo_numbers v)))], [(qe, .inl (E.2.1, 4, .inl (Lo_shown v)))], [(o2, .inr (4, [.ref qa2, .ref qb2, .ref qc2, .ref qd2, .ref qe2, .int (Lo_passages v2), .int (Lo_entries v2)]))], [(qa2, .inl (E.2.1, 40, .inl (Lo_ticks v2)))], [(qb2, .inl (E.2.1, 40, .inl (Lo_colors v2)))], [(qc2, .inl (E.2.1, 40, .inl (Lo_directions v2)))], [(qd2, .inl (E.2.1, 40, .inl (Lo_numbers v2)))], [(qe2, .inl (E.2.1, 4, .inl (Lo_shown v2)))]]) := hD
  refine lv_aload_n hx hb dX6_become_45 rfl (lv_at hl 1 rfl) ?_
  refine g_get (T := TX6) (N := 7) hx hb hts in_X6 hown hK hP 6 rfl rfl 3 (by decide) w7 rfl rfl dX6_become_46 ?_
  refine lv_iconst (v := 0) hx hb dX6_become_49 (by decide) ?_
  refine lv_aload_n hx hb dX6_become_50 rfl (lv_at hl 0 rfl) ?_
  refine g_get (T := TX6) (N := 7) hx hb hts in_X6 hown hK hP 0 rfl rfl 3 (by decide) w7 rfl rfl dX6_become_51 ?_
  refine lv_iconst (v := 0) hx hb dX6_become_54 (by decide) ?_
  refine lv_bipush (v := 40) hx hb dX6_become_55 (by decide) ?_
  refine f_copy hx hb (hml.trans hl.1.symm) hown w1 w2 w3 w4 hK hP hD hS 10 4 rfl rfl hF (Nat.le_of_ble_eq_true rfl) (Nat.le_of_ble_eq_true rfl) dX6_become_57 (fun hF H locs hP hD hS => ?_)
  have hP : va_P E.1 vwCl (bl [[(o, .inr (4, [.ref qa, .ref qb, .ref qc, .ref qd, .ref qe, .int (Lo_passages v), .int (Lo_entries v)]))], [(qa, .inl (E.2.1, 40, .inl (va_cpy (Lo_ticks v2) (Lo_ticks v) (0 : Int32).toNatClampNeg (0 : Int32).toNatClampNeg (40 : Int32).toNatClampNeg)))], [(qb, .inl (E.2.1, 40, .inl (va_cpy (Lo_colors v2) (Lo_colors v) (0 : Int32).toNatClampNeg (0 : Int32).toNatClampNeg (40 : Int32).toNatClampNeg)))], [(qc, .inl (E.2.1, 40, .inl (va_cpy (Lo_directions v2) (Lo_directions v) (0 : Int32).toNatClampNeg (0 : Int32).toNatClampNeg (40 : Int32).toNatClampNeg)))], [(qd, .inl (E.2.1, 40, .inl (va_cpy (Lo_numbers v2) (Lo_numbers v) (0 : Int32).toNatClampNeg (0 : Int32).toNatClampNeg (40 : Int32).toNatClampNeg)))], [(qe, .inl (E.2.1, 4, .inl (Lo_shown v)))], [(o2, .inr (4, [.ref qa2, .ref qb2, .ref qc2, .ref qd2, .ref qe2, .int (Lo_passages v2), .int (Lo_entries v2)]))], [(qa2, .inl (E.2.1, 40, .inl (Lo_ticks v2)))], [(qb2, .inl (E.2.1, 40, .inl (Lo_colors v2)))], [(qc2, .inl (E.2.1, 40, .inl (Lo_directions v2)))], [(qd2, .inl (E.2.1, 40, .inl (Lo_numbers v2)))], [(qe2, .inl (E.2.1, 4, .inl (Lo_shown v2)))]]) H := hP
  have hD : va_D A (bl [[(o, .inr (4, [.ref qa, .ref qb, .ref qc, .ref qd, .ref qe, .int (Lo_passages v), .int (Lo_entries v)]))], [(qa, .inl (E.2.1, 40, .inl (va_cpy (Lo_ticks v2) (Lo_ticks v) (0 : Int32).toNatClampNeg (0 : Int32).toNatClampNeg (40 : Int32).toNatClampNeg)))], [(qb, .inl (E.2.1, 40, .inl (va_cpy (Lo_colors v2) (Lo_colors v) (0 : Int32).toNatClampNeg (0 : Int32).toNatClampNeg (40 : Int32).toNatClampNeg)))], [(qc, .inl (E.2.1, 40, .inl (va_cpy (Lo_directions v2) (Lo_directions v) (0 : Int32).toNatClampNeg (0 : Int32).toNatClampNeg (40 : Int32).toNatClampNeg)))], [(qd, .inl (E.2.1, 40, .inl (va_cpy (Lo_numbers v2) (Lo_numbers v) (0 : Int32).toNatClampNeg (0 : Int32).toNatClampNeg (40 : Int32).toNatClampNeg)))], [(qe, .inl (E.2.1, 4, .inl (Lo_shown v)))], [(o2, .inr (4, [.ref qa2, .ref qb2, .ref qc2, .ref qd2, .ref qe2, .int (Lo_passages v2), .int (Lo_entries v2)]))], [(qa2, .inl (E.2.1, 40, .inl (Lo_ticks v2)))], [(qb2, .inl (E.2.1, 40, .inl (Lo_colors v2)))], [(qc2, .inl (E.2.1, 40, .inl (Lo_directions v2)))], [(qd2, .inl (E.2.1, 40, .inl (Lo_numbers v2)))], [(qe2, .inl (E.2.1, 4, .inl (Lo_shown v2)))]]) := hD
  refine lv_aload_n hx hb dX6_become_60 rfl (lv_at hl 1 rfl) ?_
  refine g_get (T := TX6) (N := 7) hx hb hts in_X6 hown hK hP 6 rfl rfl 4 (by decide) w8 rfl rfl dX6_become_61 ?_
  refine lv_iconst (v := 0) hx hb dX6_become_64 (by decide) ?_
  refine lv_aload_n hx hb dX6_become_65 rfl (lv_at hl 0 rfl) ?_
  refine g_get (T := TX6) (N := 7) hx hb hts in_X6 hown hK hP 0 rfl rfl 4 (by decide) w8 rfl rfl dX6_become_66 ?_
  refine lv_iconst (v := 0) hx hb dX6_become_69 (by decide) ?_
  refine lv_iconst (v := 4) hx hb dX6_become_70 (by decide) ?_
  refine f_copy hx hb (hml.trans hl.1.symm) hown w1 w2 w3 w4 hK hP hD hS 11 5 rfl rfl hF (Nat.le_of_ble_eq_true rfl) (Nat.le_of_ble_eq_true rfl) dX6_become_71 (fun hF H locs hP hD hS => ?_)
  have hP : va_P E.1 vwCl (bl [[(o, .inr (4, [.ref qa, .ref qb, .ref qc, .ref qd, .ref qe, .int (Lo_passages v), .int (Lo_entries v)]))], [(qa, .inl (E.2.1, 40, .inl (va_cpy (Lo_ticks v2) (Lo_ticks v) (0 : Int32).toNatClampNeg (0 : Int32).toNatClampNeg (40 : Int32).toNatClampNeg)))], [(qb, .inl (E.2.1, 40, .inl (va_cpy (Lo_colors v2) (Lo_colors v) (0 : Int32).toNatClampNeg (0 : Int32).toNatClampNeg (40 : Int32).toNatClampNeg)))], [(qc, .inl (E.2.1, 40, .inl (va_cpy (Lo_directions v2) (Lo_directions v) (0 : Int32).toNatClampNeg (0 : Int32).toNatClampNeg (40 : Int32).toNatClampNeg)))], [(qd, .inl (E.2.1, 40, .inl (va_cpy (Lo_numbers v2) (Lo_numbers v) (0 : Int32).toNatClampNeg (0 : Int32).toNatClampNeg (40 : Int32).toNatClampNeg)))], [(qe, .inl (E.2.1, 4, .inl (va_cpy (Lo_shown v2) (Lo_shown v) (0 : Int32).toNatClampNeg (0 : Int32).toNatClampNeg (4 : Int32).toNatClampNeg)))], [(o2, .inr (4, [.ref qa2, .ref qb2, .ref qc2, .ref qd2, .ref qe2, .int (Lo_passages v2), .int (Lo_entries v2)]))], [(qa2, .inl (E.2.1, 40, .inl (Lo_ticks v2)))], [(qb2, .inl (E.2.1, 40, .inl (Lo_colors v2)))], [(qc2, .inl (E.2.1, 40, .inl (Lo_directions v2)))], [(qd2, .inl (E.2.1, 40, .inl (Lo_numbers v2)))], [(qe2, .inl (E.2.1, 4, .inl (Lo_shown v2)))]]) H := hP
  have hD : va_D A (bl [[(o, .inr (4, [.ref qa, .ref qb, .ref qc, .ref qd, .ref qe, .int (Lo_passages v), .int (Lo_entries v)]))], [(qa, .inl (E.2.1, 40, .inl (va_cpy (Lo_ticks v2) (Lo_ticks v) (0 : Int32).toNatClampNeg (0 : Int32).toNatClampNeg (40 : Int32).toNatClampNeg)))], [(qb, .inl (E.2.1, 40, .inl (va_cpy (Lo_colors v2) (Lo_colors v) (0 : Int32).toNatClampNeg (0 : Int32).toNatClampNeg (40 : Int32).toNatClampNeg)))], [(qc, .inl (E.2.1, 40, .inl (va_cpy (Lo_directions v2) (Lo_directions v) (0 : Int32).toNatClampNeg (0 : Int32).toNatClampNeg (40 : Int32).toNatClampNeg)))], [(qd, .inl (E.2.1, 40, .inl (va_cpy (Lo_numbers v2) (Lo_numbers v) (0 : Int32).toNatClampNeg (0 : Int32).toNatClampNeg (40 : Int32).toNatClampNeg)))], [(qe, .inl (E.2.1, 4, .inl (va_cpy (Lo_shown v2) (Lo_shown v) (0 : Int32).toNatClampNeg (0 : Int32).toNatClampNeg (4 : Int32).toNatClampNeg)))], [(o2, .inr (4, [.ref qa2, .ref qb2, .ref qc2, .ref qd2, .ref qe2, .int (Lo_passages v2), .int (Lo_entries v2)]))], [(qa2, .inl (E.2.1, 40, .inl (Lo_ticks v2)))], [(qb2, .inl (E.2.1, 40, .inl (Lo_colors v2)))], [(qc2, .inl (E.2.1, 40, .inl (Lo_directions v2)))], [(qd2, .inl (E.2.1, 40, .inl (Lo_numbers v2)))], [(qe2, .inl (E.2.1, 4, .inl (Lo_shown v2)))]]) := hD
  refine lv_aload_n hx hb dX6_become_74 rfl (lv_at hl 0 rfl) ?_
  refine lv_aload_n hx hb dX6_become_75 rfl (lv_at hl 1 rfl) ?_
  refine g_get (T := TX6) (N := 7) hx hb hts in_X6 hown hK hP 6 rfl rfl 5 (by decide) w9 rfl rfl dX6_become_76 ?_
  refine g_put (T := TX6) (N := 7) hx hb hts in_X6 tyX6 tyX6_ok nmX6 hown hK hP hD hS 0 rfl rfl 5 (by decide) w9 rfl rfl rfl rfl (Nat.le_of_ble_eq_true rfl) dX6_become_79 (fun H locs hP hD hS => ?_)
  have hP : va_P E.1 vwCl (bl [[(o, .inr (4, [.ref qa, .ref qb, .ref qc, .ref qd, .ref qe, .int (Lo_passages v2), .int (Lo_entries v)]))], [(qa, .inl (E.2.1, 40, .inl (va_cpy (Lo_ticks v2) (Lo_ticks v) (0 : Int32).toNatClampNeg (0 : Int32).toNatClampNeg (40 : Int32).toNatClampNeg)))], [(qb, .inl (E.2.1, 40, .inl (va_cpy (Lo_colors v2) (Lo_colors v) (0 : Int32).toNatClampNeg (0 : Int32).toNatClampNeg (40 : Int32).toNatClampNeg)))], [(qc, .inl (E.2.1, 40, .inl (va_cpy (Lo_directions v2) (Lo_directions v) (0 : Int32).toNatClampNeg (0 : Int32).toNatClampNeg (40 : Int32).toNatClampNeg)))], [(qd, .inl (E.2.1, 40, .inl (va_cpy (Lo_numbers v2) (Lo_numbers v) (0 : Int32).toNatClampNeg (0 : Int32).toNatClampNeg (40 : Int32).toNatClampNeg)))], [(qe, .inl (E.2.1, 4, .inl (va_cpy (Lo_shown v2) (Lo_shown v) (0 : Int32).toNatClampNeg (0 : Int32).toNatClampNeg (4 : Int32).toNatClampNeg)))], [(o2, .inr (4, [.ref qa2, .ref qb2, .ref qc2, .ref qd2, .ref qe2, .int (Lo_passages v2), .int (Lo_entries v2)]))], [(qa2, .inl (E.2.1, 40, .inl (Lo_ticks v2)))], [(qb2, .inl (E.2.1, 40, .inl (Lo_colors v2)))], [(qc2, .inl (E.2.1, 40, .inl (Lo_directions v2)))], [(qd2, .inl (E.2.1, 40, .inl (Lo_numbers v2)))], [(qe2, .inl (E.2.1, 4, .inl (Lo_shown v2)))]]) H := hP
  have hD : va_D A (bl [[(o, .inr (4, [.ref qa, .ref qb, .ref qc, .ref qd, .ref qe, .int (Lo_passages v2), .int (Lo_entries v)]))], [(qa, .inl (E.2.1, 40, .inl (va_cpy (Lo_ticks v2) (Lo_ticks v) (0 : Int32).toNatClampNeg (0 : Int32).toNatClampNeg (40 : Int32).toNatClampNeg)))], [(qb, .inl (E.2.1, 40, .inl (va_cpy (Lo_colors v2) (Lo_colors v) (0 : Int32).toNatClampNeg (0 : Int32).toNatClampNeg (40 : Int32).toNatClampNeg)))], [(qc, .inl (E.2.1, 40, .inl (va_cpy (Lo_directions v2) (Lo_directions v) (0 : Int32).toNatClampNeg (0 : Int32).toNatClampNeg (40 : Int32).toNatClampNeg)))], [(qd, .inl (E.2.1, 40, .inl (va_cpy (Lo_numbers v2) (Lo_numbers v) (0 : Int32).toNatClampNeg (0 : Int32).toNatClampNeg (40 : Int32).toNatClampNeg)))], [(qe, .inl (E.2.1, 4, .inl (va_cpy (Lo_shown v2) (Lo_shown v) (0 : Int32).toNatClampNeg (0 : Int32).toNatClampNeg (4 : Int32).toNatClampNeg)))], [(o2, .inr (4, [.ref qa2, .ref qb2, .ref qc2, .ref qd2, .ref qe2, .int (Lo_passages v2), .int (Lo_entries v2)]))], [(qa2, .inl (E.2.1, 40, .inl (Lo_ticks v2)))], [(qb2, .inl (E.2.1, 40, .inl (Lo_colors v2)))], [(qc2, .inl (E.2.1, 40, .inl (Lo_directions v2)))], [(qd2, .inl (E.2.1, 40, .inl (Lo_numbers v2)))], [(qe2, .inl (E.2.1, 4, .inl (Lo_shown v2)))]]) := hD
  refine lv_aload_n hx hb dX6_become_82 rfl (lv_at hl 0 rfl) ?_
  refine lv_aload_n hx hb dX6_become_83 rfl (lv_at hl 1 rfl) ?_
  refine g_get (T := TX6) (N := 7) hx hb hts in_X6 hown hK hP 6 rfl rfl 6 (by decide) w10 rfl rfl dX6_become_84 ?_
  refine g_put (T := TX6) (N := 7) hx hb hts in_X6 tyX6 tyX6_ok nmX6 hown hK hP hD hS 0 rfl rfl 6 (by decide) w10 rfl rfl rfl rfl (Nat.le_of_ble_eq_true rfl) dX6_become_87 (fun H locs hP hD hS => ?_)
  have hP : va_P E.1 vwCl (bl [[(o, .inr (4, [.ref qa, .ref qb, .ref qc, .ref qd, .ref qe, .int (Lo_passages v2), .int (Lo_entries v2)]))], [(qa, .inl (E.2.1, 40, .inl (va_cpy (Lo_ticks v2) (Lo_ticks v) (0 : Int32).toNatClampNeg (0 : Int32).toNatClampNeg (40 : Int32).toNatClampNeg)))], [(qb, .inl (E.2.1, 40, .inl (va_cpy (Lo_colors v2) (Lo_colors v) (0 : Int32).toNatClampNeg (0 : Int32).toNatClampNeg (40 : Int32).toNatClampNeg)))], [(qc, .inl (E.2.1, 40, .inl (va_cpy (Lo_directions v2) (Lo_directions v) (0 : Int32).toNatClampNeg (0 : Int32).toNatClampNeg (40 : Int32).toNatClampNeg)))], [(qd, .inl (E.2.1, 40, .inl (va_cpy (Lo_numbers v2) (Lo_numbers v) (0 : Int32).toNatClampNeg (0 : Int32).toNatClampNeg (40 : Int32).toNatClampNeg)))], [(qe, .inl (E.2.1, 4, .inl (va_cpy (Lo_shown v2) (Lo_shown v) (0 : Int32).toNatClampNeg (0 : Int32).toNatClampNeg (4 : Int32).toNatClampNeg)))], [(o2, .inr (4, [.ref qa2, .ref qb2, .ref qc2, .ref qd2, .ref qe2, .int (Lo_passages v2), .int (Lo_entries v2)]))], [(qa2, .inl (E.2.1, 40, .inl (Lo_ticks v2)))], [(qb2, .inl (E.2.1, 40, .inl (Lo_colors v2)))], [(qc2, .inl (E.2.1, 40, .inl (Lo_directions v2)))], [(qd2, .inl (E.2.1, 40, .inl (Lo_numbers v2)))], [(qe2, .inl (E.2.1, 4, .inl (Lo_shown v2)))]]) H := hP
  have hD : va_D A (bl [[(o, .inr (4, [.ref qa, .ref qb, .ref qc, .ref qd, .ref qe, .int (Lo_passages v2), .int (Lo_entries v2)]))], [(qa, .inl (E.2.1, 40, .inl (va_cpy (Lo_ticks v2) (Lo_ticks v) (0 : Int32).toNatClampNeg (0 : Int32).toNatClampNeg (40 : Int32).toNatClampNeg)))], [(qb, .inl (E.2.1, 40, .inl (va_cpy (Lo_colors v2) (Lo_colors v) (0 : Int32).toNatClampNeg (0 : Int32).toNatClampNeg (40 : Int32).toNatClampNeg)))], [(qc, .inl (E.2.1, 40, .inl (va_cpy (Lo_directions v2) (Lo_directions v) (0 : Int32).toNatClampNeg (0 : Int32).toNatClampNeg (40 : Int32).toNatClampNeg)))], [(qd, .inl (E.2.1, 40, .inl (va_cpy (Lo_numbers v2) (Lo_numbers v) (0 : Int32).toNatClampNeg (0 : Int32).toNatClampNeg (40 : Int32).toNatClampNeg)))], [(qe, .inl (E.2.1, 4, .inl (va_cpy (Lo_shown v2) (Lo_shown v) (0 : Int32).toNatClampNeg (0 : Int32).toNatClampNeg (4 : Int32).toNatClampNeg)))], [(o2, .inr (4, [.ref qa2, .ref qb2, .ref qc2, .ref qd2, .ref qe2, .int (Lo_passages v2), .int (Lo_entries v2)]))], [(qa2, .inl (E.2.1, 40, .inl (Lo_ticks v2)))], [(qb2, .inl (E.2.1, 40, .inl (Lo_colors v2)))], [(qc2, .inl (E.2.1, 40, .inl (Lo_directions v2)))], [(qd2, .inl (E.2.1, 40, .inl (Lo_numbers v2)))], [(qe2, .inl (E.2.1, 4, .inl (Lo_shown v2)))]]) := hD
  exact g_vret (rvf := fun z => none) (W1f := fun z => bl [Lo_c E o qa qb qc qd qe z, Lo_c E o2 qa2 qb2 qc2 qd2 qe2 v2]) hx hb hr hlocks hQ hF rfl hP hD hS [0, 1, 2, 3, 4, 5, 6, 7, 8, 9, 10, 11] rfl rfl dX6_become_90
def F_X6_beginPassage_L12 (n : Nat) : Nat → LoV → Int32 → Option (LoV)
  | 0, _, _ => none
  | k + 1, u, x1 => if 4 ≤ x1 then some u else chk x1 4 (F_X6_beginPassage_L12 n k (Lo_mk (Lo_ticks u) (Lo_colors u) (Lo_directions u) (Lo_numbers u) (upd (Lo_shown u) x1.toNatClampNeg 0) (Lo_passages u) (Lo_entries u)) (x1 + 1))
def F_X6_beginPassage (n : Nat) (v : LoV) : Option (LoV) := F_X6_beginPassage_L12 n n (Lo_mk (Lo_ticks v) (Lo_colors v) (Lo_directions v) (Lo_numbers v) (Lo_shown v) ((Lo_passages v) + 1) (Lo_entries v)) 0
set_option maxHeartbeats 4000000 in
set_option maxRecDepth 100000 in
theorem c_X6_beginPassage (l : Launch) (E : GE) (o : Nat) (qa : Nat) (qb : Nat) (qc : Nat) (qd : Nat) (qe : Nat) (n : Nat) (v : LoV) (r : LoV) (hF : F_X6_beginPassage n v = some r) : CT l E yX6_beginPassage wsX6_beginPassage ({ frames := 0, cells := 0, slots := 0, locals := 0 } : Room) [.ref o] (bl [Lo_c E o qa qb qc qd qe v]) (none) (bl [Lo_c E o qa qb qc qd qe r]) 0 0 := by
  refine CT.of (cc := cX6_beginPassage) (maxL := 2) (ret := none) (by decide) rfl (Nat.le_of_ble_eq_true rfl) ?_
  intro p e s m args below meth cd A Q ls B hQ hP hD hS hl
  obtain ⟨hx, hb, hml, hown, hts, hr, hlocks, hK, hZ, hA, hnm⟩ := B
  have hown : s.vm.findClass RX6 = some m.cls := hown
  have hl : lv_has ls 2 [(0, .ref o)] := hl
  have w0 := hts (.fieldLink RX6 33 "HarborLight$Log" "passages" "I") (by decide +kernel)
  have w1 := hts (.fieldLink RX6 24 "HarborLight$Log" "shown" "[I") (by decide +kernel)
  have in_X6 : ∀ w ∈ wsX60, w ∈ wsX6_beginPassage := by decide +kernel
  have hP : va_P E.1 vwCl (bl [[(o, .inr (4, [.ref qa, .ref qb, .ref qc, .ref qd, .ref qe, .int (Lo_passages v), .int (Lo_entries v)]))], [(qa, .inl (E.2.1, 40, .inl (Lo_ticks v)))], [(qb, .inl (E.2.1, 40, .inl (Lo_colors v)))], [(qc, .inl (E.2.1, 40, .inl (Lo_directions v)))], [(qd, .inl (E.2.1, 40, .inl (Lo_numbers v)))], [(qe, .inl (E.2.1, 4, .inl (Lo_shown v)))]]) s.heap := hP
  have hD : va_D A (bl [[(o, .inr (4, [.ref qa, .ref qb, .ref qc, .ref qd, .ref qe, .int (Lo_passages v), .int (Lo_entries v)]))], [(qa, .inl (E.2.1, 40, .inl (Lo_ticks v)))], [(qb, .inl (E.2.1, 40, .inl (Lo_colors v)))], [(qc, .inl (E.2.1, 40, .inl (Lo_directions v)))], [(qd, .inl (E.2.1, 40, .inl (Lo_numbers v)))], [(qe, .inl (E.2.1, 4, .inl (Lo_shown v)))]]) := hD
  have hL12 : ∀ (k : Nat) (u : LoV) (x1 : Int32) (H : Heap) (locs : List Loc), va_P E.1 vwCl (bl [[(o, .inr (4, [.ref qa, .ref qb, .ref qc, .ref qd, .ref qe, .int (Lo_passages u), .int (Lo_entries u)]))], [(qa, .inl (E.2.1, 40, .inl (Lo_ticks u)))], [(qb, .inl (E.2.1, 40, .inl (Lo_colors u)))], [(qc, .inl (E.2.1, 40, .inl (Lo_directions u)))], [(qd, .inl (E.2.1, 40, .inl (Lo_numbers u)))], [(qe, .inl (E.2.1, 4, .inl (Lo_shown u)))]]) H → va_D A (bl [[(o, .inr (4, [.ref qa, .ref qb, .ref qc, .ref qd, .ref qe, .int (Lo_passages u), .int (Lo_entries u)]))], [(qa, .inl (E.2.1, 40, .inl (Lo_ticks u)))], [(qb, .inl (E.2.1, 40, .inl (Lo_colors u)))], [(qc, .inl (E.2.1, 40, .inl (Lo_directions u)))], [(qd, .inl (E.2.1, 40, .inl (Lo_numbers u)))], [(qe, .inl (E.2.1, 4, .inl (Lo_shown u)))]]) → va_S A s.heap H locs → ∀ ls : Array Slot, lv_has ls 2 [(0, .ref o), (1, .int x1)] → F_X6_beginPassage_L12 n k u x1 = some r → W p l e ({ frames := 0, cells := 0, slots := 0, locals := 0 } : Room) s m args below meth cd H locs 0 0 Q (F0 m 12 ls []) := by
    intro k
    induction k with
    | zero => intro u x1 H locs hP hD hS ls hl hF; cases hF
    | succ k ih =>
      intro u x1 H locs hP hD hS ls hl hF
      rw [F_X6_beginPassage_L12] at hF
      refine lv_iload_n hx hb dX6_beginPassage_12 rfl (lv_at hl 1 rfl) ?_
      refine lv_iconst (v := 4) hx hb dX6_beginPassage_13 (by decide) ?_
      refine f_icmp_ge (tgt := 30) hx hb dX6_beginPassage_14 (by decide) hF (fun hF => ?_) (fun hF => ?_)
      · exact g_vret (rvf := fun z => none) (W1f := fun z => bl [Lo_c E o qa qb qc qd qe z]) hx hb hr hlocks hQ hF rfl hP hD hS [0, 1, 2, 3, 4, 5] rfl rfl dX6_beginPassage_30
      · refine lv_aload_n hx hb dX6_beginPassage_17 rfl (lv_at hl 0 rfl) ?_
        refine g_get (T := TX6) (N := 7) hx hb hts in_X6 hown hK hP 0 rfl rfl 4 (by decide) w1 rfl rfl dX6_beginPassage_18 ?_
        refine lv_iload_n hx hb dX6_beginPassage_21 rfl (lv_at hl 1 rfl) ?_
        refine lv_iconst (v := 0) hx hb dX6_beginPassage_22 (by decide) ?_
        refine f_iast hx hb hK hP hD hS 5 rfl hF dX6_beginPassage_23 (fun hF H locs hP hD hS => ?_)
        have hP : va_P E.1 vwCl (bl [[(o, .inr (4, [.ref qa, .ref qb, .ref qc, .ref qd, .ref qe, .int (Lo_passages u), .int (Lo_entries u)]))], [(qa, .inl (E.2.1, 40, .inl (Lo_ticks u)))], [(qb, .inl (E.2.1, 40, .inl (Lo_colors u)))], [(qc, .inl (E.2.1, 40, .inl (Lo_directions u)))], [(qd, .inl (E.2.1, 40, .inl (Lo_numbers u)))], [(qe, .inl (E.2.1, 4, .inl (upd (Lo_shown u) x1.toNatClampNeg 0)))]]) H := hP
        have hD : va_D A (bl [[(o, .inr (4, [.ref qa, .ref qb, .ref qc, .ref qd, .ref qe, .int (Lo_passages u), .int (Lo_entries u)]))], [(qa, .inl (E.2.1, 40, .inl (Lo_ticks u)))], [(qb, .inl (E.2.1, 40, .inl (Lo_colors u)))], [(qc, .inl (E.2.1, 40, .inl (Lo_directions u)))], [(qd, .inl (E.2.1, 40, .inl (Lo_numbers u)))], [(qe, .inl (E.2.1, 4, .inl (upd (Lo_shown u) x1.toNatClampNeg 0)))]]) := hD
        refine lv_iinc (v := (x1 + 1)) (lv' := [(1, .int (x1 + 1)), (0, .ref o)]) hx hb dX6_beginPassage_24 hl (k := 1) rfl rfl (by decide) rfl (fun ls hl => ?_)
        refine lv_goto (tgt := 12) hx hb dX6_beginPassage_27 (by decide) ?_
        exact ih (Lo_mk (Lo_ticks u) (Lo_colors u) (Lo_directions u) (Lo_numbers u) (upd (Lo_shown u) x1.toNatClampNeg 0) (Lo_passages u) (Lo_entries u)) (x1 + 1) _ _ hP hD hS _ (lv_sub hl [1, 0] rfl) hF
  unfold F_X6_beginPassage at hF
  refine lv_aload_n hx hb dX6_beginPassage_0 rfl (lv_at hl 0 rfl) ?_
  refine lv_dup hx hb dX6_beginPassage_1 rfl ?_
  refine g_get (T := TX6) (N := 7) hx hb hts in_X6 hown hK hP 0 rfl rfl 5 (by decide) w0 rfl rfl dX6_beginPassage_2 ?_
  refine lv_iconst (v := 1) hx hb dX6_beginPassage_5 (by decide) ?_
  refine lv_iadd hx hb dX6_beginPassage_6 ?_
  refine g_put (T := TX6) (N := 7) hx hb hts in_X6 tyX6 tyX6_ok nmX6 hown hK hP hD hS 0 rfl rfl 5 (by decide) w0 rfl rfl rfl rfl (Nat.le_of_ble_eq_true rfl) dX6_beginPassage_7 (fun H locs hP hD hS => ?_)
  have hP : va_P E.1 vwCl (bl [[(o, .inr (4, [.ref qa, .ref qb, .ref qc, .ref qd, .ref qe, .int ((Lo_passages v) + 1), .int (Lo_entries v)]))], [(qa, .inl (E.2.1, 40, .inl (Lo_ticks v)))], [(qb, .inl (E.2.1, 40, .inl (Lo_colors v)))], [(qc, .inl (E.2.1, 40, .inl (Lo_directions v)))], [(qd, .inl (E.2.1, 40, .inl (Lo_numbers v)))], [(qe, .inl (E.2.1, 4, .inl (Lo_shown v)))]]) H := hP
  have hD : va_D A (bl [[(o, .inr (4, [.ref qa, .ref qb, .ref qc, .ref qd, .ref qe, .int ((Lo_passages v) + 1), .int (Lo_entries v)]))], [(qa, .inl (E.2.1, 40, .inl (Lo_ticks v)))], [(qb, .inl (E.2.1, 40, .inl (Lo_colors v)))], [(qc, .inl (E.2.1, 40, .inl (Lo_directions v)))], [(qd, .inl (E.2.1, 40, .inl (Lo_numbers v)))], [(qe, .inl (E.2.1, 4, .inl (Lo_shown v)))]]) := hD
  refine lv_iconst (v := 0) hx hb dX6_beginPassage_10 (by decide) ?_
  refine lv_istore_n (lv' := [(1, .int 0), (0, .ref o)]) hx hb dX6_beginPassage_11 rfl hl (by decide) rfl (fun ls hl => ?_)
  exact hL12 n (Lo_mk (Lo_ticks v) (Lo_colors v) (Lo_directions v) (Lo_numbers v) (Lo_shown v) ((Lo_passages v) + 1) (Lo_entries v)) 0 _ _ hP hD hS _ (lv_sub hl [1, 0] rfl) hF
def F_X6_addShown (v : LoV) (p0 : Int32) : Option (LoV) := if p0 < 0 then some v else if 4 ≤ p0 then some v else chk p0 4 (chk p0 4 (some (Lo_mk (Lo_ticks v) (Lo_colors v) (Lo_directions v) (Lo_numbers v) (upd (Lo_shown v) p0.toNatClampNeg (((Lo_shown v) p0.toNatClampNeg) + 1)) (Lo_passages v) (Lo_entries v))))
set_option maxHeartbeats 4000000 in
set_option maxRecDepth 100000 in
theorem c_X6_addShown (l : Launch) (E : GE) (o : Nat) (qa : Nat) (qb : Nat) (qc : Nat) (qd : Nat) (qe : Nat) (v : LoV) (p0 : Int32) (r : LoV) (hF : F_X6_addShown v p0 = some r) : CT l E yX6_addShown wsX6_addShown ({ frames := 0, cells := 0, slots := 0, locals := 0 } : Room) [.ref o, .int p0] (bl [Lo_c E o qa qb qc qd qe v]) (none) (bl [Lo_c E o qa qb qc qd qe r]) 0 0 := by
  refine CT.of (cc := cX6_addShown) (maxL := 2) (ret := none) (by decide) rfl (Nat.le_of_ble_eq_true rfl) ?_
  intro p e s m args below meth cd A Q ls B hQ hP hD hS hl
  obtain ⟨hx, hb, hml, hown, hts, hr, hlocks, hK, hZ, hA, hnm⟩ := B
  have hown : s.vm.findClass RX6 = some m.cls := hown
  have hl : lv_has ls 2 [(0, .ref o), (1, .int p0)] := hl
  have w0 := hts (.fieldLink RX6 24 "HarborLight$Log" "shown" "[I") (by decide +kernel)
  have in_X6 : ∀ w ∈ wsX60, w ∈ wsX6_addShown := by decide +kernel
  have hP : va_P E.1 vwCl (bl [[(o, .inr (4, [.ref qa, .ref qb, .ref qc, .ref qd, .ref qe, .int (Lo_passages v), .int (Lo_entries v)]))], [(qa, .inl (E.2.1, 40, .inl (Lo_ticks v)))], [(qb, .inl (E.2.1, 40, .inl (Lo_colors v)))], [(qc, .inl (E.2.1, 40, .inl (Lo_directions v)))], [(qd, .inl (E.2.1, 40, .inl (Lo_numbers v)))], [(qe, .inl (E.2.1, 4, .inl (Lo_shown v)))]]) s.heap := hP
  have hD : va_D A (bl [[(o, .inr (4, [.ref qa, .ref qb, .ref qc, .ref qd, .ref qe, .int (Lo_passages v), .int (Lo_entries v)]))], [(qa, .inl (E.2.1, 40, .inl (Lo_ticks v)))], [(qb, .inl (E.2.1, 40, .inl (Lo_colors v)))], [(qc, .inl (E.2.1, 40, .inl (Lo_directions v)))], [(qd, .inl (E.2.1, 40, .inl (Lo_numbers v)))], [(qe, .inl (E.2.1, 4, .inl (Lo_shown v)))]]) := hD
  unfold F_X6_addShown at hF
  refine lv_iload_n hx hb dX6_addShown_0 rfl (lv_at hl 1 rfl) ?_
  refine f_if_lt (tgt := 19) hx hb dX6_addShown_1 (by decide) hF (fun hF => ?_) (fun hF => ?_)
  · exact g_vret (rvf := fun z => none) (W1f := fun z => bl [Lo_c E o qa qb qc qd qe z]) hx hb hr hlocks hQ hF rfl hP hD hS [0, 1, 2, 3, 4, 5] rfl rfl dX6_addShown_19
  · refine lv_iload_n hx hb dX6_addShown_4 rfl (lv_at hl 1 rfl) ?_
    refine lv_iconst (v := 4) hx hb dX6_addShown_5 (by decide) ?_
    refine f_icmp_ge (tgt := 19) hx hb dX6_addShown_6 (by decide) hF (fun hF => ?_) (fun hF => ?_)
    · exact g_vret (rvf := fun z => none) (W1f := fun z => bl [Lo_c E o qa qb qc qd qe z]) hx hb hr hlocks hQ hF rfl hP hD hS [0, 1, 2, 3, 4, 5] rfl rfl dX6_addShown_19
    · refine lv_aload_n hx hb dX6_addShown_9 rfl (lv_at hl 0 rfl) ?_
      refine g_get (T := TX6) (N := 7) hx hb hts in_X6 hown hK hP 0 rfl rfl 4 (by decide) w0 rfl rfl dX6_addShown_10 ?_
      refine lv_iload_n hx hb dX6_addShown_13 rfl (lv_at hl 1 rfl) ?_
      refine lv_dup2_11 hx hb dX6_addShown_14 rfl rfl ?_
      refine f_iald hx hb hK hP 5 rfl hF dX6_addShown_15 (fun hF => ?_)
      refine lv_iconst (v := 1) hx hb dX6_addShown_16 (by decide) ?_
      refine lv_iadd hx hb dX6_addShown_17 ?_
      refine f_iast hx hb hK hP hD hS 5 rfl hF dX6_addShown_18 (fun hF H locs hP hD hS => ?_)
      have hP : va_P E.1 vwCl (bl [[(o, .inr (4, [.ref qa, .ref qb, .ref qc, .ref qd, .ref qe, .int (Lo_passages v), .int (Lo_entries v)]))], [(qa, .inl (E.2.1, 40, .inl (Lo_ticks v)))], [(qb, .inl (E.2.1, 40, .inl (Lo_colors v)))], [(qc, .inl (E.2.1, 40, .inl (Lo_directions v)))], [(qd, .inl (E.2.1, 40, .inl (Lo_numbers v)))], [(qe, .inl (E.2.1, 4, .inl (upd (Lo_shown v) p0.toNatClampNeg (((Lo_shown v) p0.toNatClampNeg) + 1))))]]) H := hP
      have hD : va_D A (bl [[(o, .inr (4, [.ref qa, .ref qb, .ref qc, .ref qd, .ref qe, .int (Lo_passages v), .int (Lo_entries v)]))], [(qa, .inl (E.2.1, 40, .inl (Lo_ticks v)))], [(qb, .inl (E.2.1, 40, .inl (Lo_colors v)))], [(qc, .inl (E.2.1, 40, .inl (Lo_directions v)))], [(qd, .inl (E.2.1, 40, .inl (Lo_numbers v)))], [(qe, .inl (E.2.1, 4, .inl (upd (Lo_shown v) p0.toNatClampNeg (((Lo_shown v) p0.toNatClampNeg) + 1))))]]) := hD
      exact g_vret (rvf := fun z => none) (W1f := fun z => bl [Lo_c E o qa qb qc qd qe z]) hx hb hr hlocks hQ hF rfl hP hD hS [0, 1, 2, 3, 4, 5] rfl rfl dX6_addShown_19
def F_X6_shownTicks (v : LoV) (p0 : Int32) : Option (Int32) := if p0 < 0 then some 0 else if 4 ≤ p0 then some 0 else chk p0 4 (some ((Lo_shown v) p0.toNatClampNeg))
set_option maxHeartbeats 4000000 in
set_option maxRecDepth 100000 in
theorem c_X6_shownTicks (l : Launch) (E : GE) (o : Nat) (qa : Nat) (qb : Nat) (qc : Nat) (qd : Nat) (qe : Nat) (v : LoV) (p0 : Int32) (r : Int32) (hF : F_X6_shownTicks v p0 = some r) : CT l E yX6_shownTicks wsX6_shownTicks ({ frames := 0, cells := 0, slots := 0, locals := 0 } : Room) [.ref o, .int p0] (bl [Lo_c E o qa qb qc qd qe v]) (some (.int r)) (bl [Lo_c E o qa qb qc qd qe v]) 0 0 := by
  refine CT.of (cc := cX6_shownTicks) (maxL := 2) (ret := (some .int)) (by decide) rfl (Nat.le_of_ble_eq_true rfl) ?_
  intro p e s m args below meth cd A Q ls B hQ hP hD hS hl
  obtain ⟨hx, hb, hml, hown, hts, hr, hlocks, hK, hZ, hA, hnm⟩ := B
  have hown : s.vm.findClass RX6 = some m.cls := hown
  have hl : lv_has ls 2 [(0, .ref o), (1, .int p0)] := hl
  have w0 := hts (.fieldLink RX6 24 "HarborLight$Log" "shown" "[I") (by decide +kernel)
  have in_X6 : ∀ w ∈ wsX60, w ∈ wsX6_shownTicks := by decide +kernel
  have hP : va_P E.1 vwCl (bl [[(o, .inr (4, [.ref qa, .ref qb, .ref qc, .ref qd, .ref qe, .int (Lo_passages v), .int (Lo_entries v)]))], [(qa, .inl (E.2.1, 40, .inl (Lo_ticks v)))], [(qb, .inl (E.2.1, 40, .inl (Lo_colors v)))], [(qc, .inl (E.2.1, 40, .inl (Lo_directions v)))], [(qd, .inl (E.2.1, 40, .inl (Lo_numbers v)))], [(qe, .inl (E.2.1, 4, .inl (Lo_shown v)))]]) s.heap := hP
  have hD : va_D A (bl [[(o, .inr (4, [.ref qa, .ref qb, .ref qc, .ref qd, .ref qe, .int (Lo_passages v), .int (Lo_entries v)]))], [(qa, .inl (E.2.1, 40, .inl (Lo_ticks v)))], [(qb, .inl (E.2.1, 40, .inl (Lo_colors v)))], [(qc, .inl (E.2.1, 40, .inl (Lo_directions v)))], [(qd, .inl (E.2.1, 40, .inl (Lo_numbers v)))], [(qe, .inl (E.2.1, 4, .inl (Lo_shown v)))]]) := hD
  unfold F_X6_shownTicks at hF
  refine lv_iload_n hx hb dX6_shownTicks_0 rfl (lv_at hl 1 rfl) ?_
  refine f_if_lt (tgt := 18) hx hb dX6_shownTicks_1 (by decide) hF (fun hF => ?_) (fun hF => ?_)
  · refine lv_iconst (v := 0) hx hb dX6_shownTicks_18 (by decide) ?_
    exact g_iret (rvf := fun z => some (.int z)) (W1f := fun z => bl [Lo_c E o qa qb qc qd qe v]) hx hb hr hlocks hQ hF rfl hP hD hS [0, 1, 2, 3, 4, 5] rfl rfl dX6_shownTicks_19
  · refine lv_iload_n hx hb dX6_shownTicks_4 rfl (lv_at hl 1 rfl) ?_
    refine lv_iconst (v := 4) hx hb dX6_shownTicks_5 (by decide) ?_
    refine f_icmp_ge (tgt := 18) hx hb dX6_shownTicks_6 (by decide) hF (fun hF => ?_) (fun hF => ?_)
    · refine lv_iconst (v := 0) hx hb dX6_shownTicks_18 (by decide) ?_
      exact g_iret (rvf := fun z => some (.int z)) (W1f := fun z => bl [Lo_c E o qa qb qc qd qe v]) hx hb hr hlocks hQ hF rfl hP hD hS [0, 1, 2, 3, 4, 5] rfl rfl dX6_shownTicks_19
    · refine lv_aload_n hx hb dX6_shownTicks_9 rfl (lv_at hl 0 rfl) ?_
      refine g_get (T := TX6) (N := 7) hx hb hts in_X6 hown hK hP 0 rfl rfl 4 (by decide) w0 rfl rfl dX6_shownTicks_10 ?_
      refine lv_iload_n hx hb dX6_shownTicks_13 rfl (lv_at hl 1 rfl) ?_
      refine f_iald hx hb hK hP 5 rfl hF dX6_shownTicks_14 (fun hF => ?_)
      refine lv_goto (tgt := 19) hx hb dX6_shownTicks_15 (by decide) ?_
      exact g_iret (rvf := fun z => some (.int z)) (W1f := fun z => bl [Lo_c E o qa qb qc qd qe v]) hx hb hr hlocks hQ hF rfl hP hD hS [0, 1, 2, 3, 4, 5] rfl rfl dX6_shownTicks_19
def F_X6_add (v : LoV) (p0 : Int32) (p1 : Int32) (p2 : Int32) : Option (LoV) := if 0 ≤ ((Lo_entries v) - (Lo_entries v) / 40 * 40) then chk ((Lo_entries v) - (Lo_entries v) / 40 * 40) 40 (chk ((Lo_entries v) - (Lo_entries v) / 40 * 40) 40 (chk ((Lo_entries v) - (Lo_entries v) / 40 * 40) 40 (chk ((Lo_entries v) - (Lo_entries v) / 40 * 40) 40 (some (Lo_mk (upd (Lo_ticks v) ((Lo_entries v) - (Lo_entries v) / 40 * 40).toNatClampNeg p0) (upd (Lo_colors v) ((Lo_entries v) - (Lo_entries v) / 40 * 40).toNatClampNeg p1) (upd (Lo_directions v) ((Lo_entries v) - (Lo_entries v) / 40 * 40).toNatClampNeg p2) (upd (Lo_numbers v) ((Lo_entries v) - (Lo_entries v) / 40 * 40).toNatClampNeg ((Lo_passages v) - 1)) (Lo_shown v) (Lo_passages v) ((Lo_entries v) + 1)))))) else some v
set_option maxHeartbeats 4000000 in
set_option maxRecDepth 100000 in
theorem c_X6_add (l : Launch) (E : GE) (o : Nat) (qa : Nat) (qb : Nat) (qc : Nat) (qd : Nat) (qe : Nat) (v : LoV) (p0 : Int32) (p1 : Int32) (p2 : Int32) (r : LoV) (hF : F_X6_add v p0 p1 p2 = some r) : CT l E yX6_add wsX6_add ({ frames := 0, cells := 0, slots := 0, locals := 0 } : Room) [.ref o, .int p0, .int p1, .int p2] (bl [Lo_c E o qa qb qc qd qe v]) (none) (bl [Lo_c E o qa qb qc qd qe r]) 0 0 := by
  refine CT.of (cc := cX6_add) (maxL := 5) (ret := none) (by decide) rfl (Nat.le_of_ble_eq_true rfl) ?_
  intro p e s m args below meth cd A Q ls B hQ hP hD hS hl
  obtain ⟨hx, hb, hml, hown, hts, hr, hlocks, hK, hZ, hA, hnm⟩ := B
  have hown : s.vm.findClass RX6 = some m.cls := hown
  have hl : lv_has ls 5 [(0, .ref o), (1, .int p0), (2, .int p1), (3, .int p2)] := hl
  have w0 := hts (.fieldLink RX6 37 "HarborLight$Log" "entries" "I") (by decide +kernel)
  have w1 := hts (.fieldLink RX6 11 "HarborLight$Log" "ticks" "[I") (by decide +kernel)
  have w2 := hts (.fieldLink RX6 15 "HarborLight$Log" "colors" "[I") (by decide +kernel)
  have w3 := hts (.fieldLink RX6 18 "HarborLight$Log" "directions" "[I") (by decide +kernel)
  have w4 := hts (.fieldLink RX6 21 "HarborLight$Log" "numbers" "[I") (by decide +kernel)
  have w5 := hts (.fieldLink RX6 33 "HarborLight$Log" "passages" "I") (by decide +kernel)
  have in_X6 : ∀ w ∈ wsX60, w ∈ wsX6_add := by decide +kernel
  have hP : va_P E.1 vwCl (bl [[(o, .inr (4, [.ref qa, .ref qb, .ref qc, .ref qd, .ref qe, .int (Lo_passages v), .int (Lo_entries v)]))], [(qa, .inl (E.2.1, 40, .inl (Lo_ticks v)))], [(qb, .inl (E.2.1, 40, .inl (Lo_colors v)))], [(qc, .inl (E.2.1, 40, .inl (Lo_directions v)))], [(qd, .inl (E.2.1, 40, .inl (Lo_numbers v)))], [(qe, .inl (E.2.1, 4, .inl (Lo_shown v)))]]) s.heap := hP
  have hD : va_D A (bl [[(o, .inr (4, [.ref qa, .ref qb, .ref qc, .ref qd, .ref qe, .int (Lo_passages v), .int (Lo_entries v)]))], [(qa, .inl (E.2.1, 40, .inl (Lo_ticks v)))], [(qb, .inl (E.2.1, 40, .inl (Lo_colors v)))], [(qc, .inl (E.2.1, 40, .inl (Lo_directions v)))], [(qd, .inl (E.2.1, 40, .inl (Lo_numbers v)))], [(qe, .inl (E.2.1, 4, .inl (Lo_shown v)))]]) := hD
  unfold F_X6_add at hF
  refine lv_aload_n hx hb dX6_add_0 rfl (lv_at hl 0 rfl) ?_
  refine g_get (T := TX6) (N := 7) hx hb hts in_X6 hown hK hP 0 rfl rfl 6 (by decide) w0 rfl rfl dX6_add_1 ?_
  refine lv_bipush (v := 40) hx hb dX6_add_4 (by decide) ?_
  refine lv_irem hx hb dX6_add_6 (by decide) ?_
  refine lv_istore (lv' := [(4, .int ((Lo_entries v) - (Lo_entries v) / 40 * 40)), (0, .ref o), (1, .int p0), (2, .int p1), (3, .int p2)]) hx hb dX6_add_7 hl (by decide) rfl (fun ls hl => ?_)
  refine lv_iload hx hb dX6_add_9 (lv_at hl 0 rfl) ?_
  refine f_if_ge (tgt := 15) hx hb dX6_add_11 (by decide) hF (fun hF => ?_) (fun hF => ?_)
  · refine lv_aload_n hx hb dX6_add_15 rfl (lv_at hl 1 rfl) ?_
    refine g_get (T := TX6) (N := 7) hx hb hts in_X6 hown hK hP 0 rfl rfl 0 (by decide) w1 rfl rfl dX6_add_16 ?_
    refine lv_iload hx hb dX6_add_19 (lv_at hl 0 rfl) ?_
    refine lv_iload_n hx hb dX6_add_21 rfl (lv_at hl 2 rfl) ?_
    refine f_iast hx hb hK hP hD hS 1 rfl hF dX6_add_22 (fun hF H locs hP hD hS => ?_)
    have hP : va_P E.1 vwCl (bl [[(o, .inr (4, [.ref qa, .ref qb, .ref qc, .ref qd, .ref qe, .int (Lo_passages v), .int (Lo_entries v)]))], [(qa, .inl (E.2.1, 40, .inl (upd (Lo_ticks v) ((Lo_entries v) - (Lo_entries v) / 40 * 40).toNatClampNeg p0)))], [(qb, .inl (E.2.1, 40, .inl (Lo_colors v)))], [(qc, .inl (E.2.1, 40, .inl (Lo_directions v)))], [(qd, .inl (E.2.1, 40, .inl (Lo_numbers v)))], [(qe, .inl (E.2.1, 4, .inl (Lo_shown v)))]]) H := hP
    have hD : va_D A (bl [[(o, .inr (4, [.ref qa, .ref qb, .ref qc, .ref qd, .ref qe, .int (Lo_passages v), .int (Lo_entries v)]))], [(qa, .inl (E.2.1, 40, .inl (upd (Lo_ticks v) ((Lo_entries v) - (Lo_entries v) / 40 * 40).toNatClampNeg p0)))], [(qb, .inl (E.2.1, 40, .inl (Lo_colors v)))], [(qc, .inl (E.2.1, 40, .inl (Lo_directions v)))], [(qd, .inl (E.2.1, 40, .inl (Lo_numbers v)))], [(qe, .inl (E.2.1, 4, .inl (Lo_shown v)))]]) := hD
    refine lv_aload_n hx hb dX6_add_23 rfl (lv_at hl 1 rfl) ?_
    refine g_get (T := TX6) (N := 7) hx hb hts in_X6 hown hK hP 0 rfl rfl 1 (by decide) w2 rfl rfl dX6_add_24 ?_
    refine lv_iload hx hb dX6_add_27 (lv_at hl 0 rfl) ?_
    refine lv_iload_n hx hb dX6_add_29 rfl (lv_at hl 3 rfl) ?_
    refine f_iast hx hb hK hP hD hS 2 rfl hF dX6_add_30 (fun hF H locs hP hD hS => ?_)
    have hP : va_P E.1 vwCl (bl [[(o, .inr (4, [.ref qa, .ref qb, .ref qc, .ref qd, .ref qe, .int (Lo_passages v), .int (Lo_entries v)]))], [(qa, .inl (E.2.1, 40, .inl (upd (Lo_ticks v) ((Lo_entries v) - (Lo_entries v) / 40 * 40).toNatClampNeg p0)))], [(qb, .inl (E.2.1, 40, .inl (upd (Lo_colors v) ((Lo_entries v) - (Lo_entries v) / 40 * 40).toNatClampNeg p1)))], [(qc, .inl (E.2.1, 40, .inl (Lo_directions v)))], [(qd, .inl (E.2.1, 40, .inl (Lo_numbers v)))], [(qe, .inl (E.2.1, 4, .inl (Lo_shown v)))]]) H := hP
    have hD : va_D A (bl [[(o, .inr (4, [.ref qa, .ref qb, .ref qc, .ref qd, .ref qe, .int (Lo_passages v), .int (Lo_entries v)]))], [(qa, .inl (E.2.1, 40, .inl (upd (Lo_ticks v) ((Lo_entries v) - (Lo_entries v) / 40 * 40).toNatClampNeg p0)))], [(qb, .inl (E.2.1, 40, .inl (upd (Lo_colors v) ((Lo_entries v) - (Lo_entries v) / 40 * 40).toNatClampNeg p1)))], [(qc, .inl (E.2.1, 40, .inl (Lo_directions v)))], [(qd, .inl (E.2.1, 40, .inl (Lo_numbers v)))], [(qe, .inl (E.2.1, 4, .inl (Lo_shown v)))]]) := hD
    refine lv_aload_n hx hb dX6_add_31 rfl (lv_at hl 1 rfl) ?_
    refine g_get (T := TX6) (N := 7) hx hb hts in_X6 hown hK hP 0 rfl rfl 2 (by decide) w3 rfl rfl dX6_add_32 ?_
    refine lv_iload hx hb dX6_add_35 (lv_at hl 0 rfl) ?_
    refine lv_iload_n hx hb dX6_add_37 rfl (lv_at hl 4 rfl) ?_
    refine f_iast hx hb hK hP hD hS 3 rfl hF dX6_add_38 (fun hF H locs hP hD hS => ?_)
    have hP : va_P E.1 vwCl (bl [[(o, .inr (4, [.ref qa, .ref qb, .ref qc, .ref qd, .ref qe, .int (Lo_passages v), .int (Lo_entries v)]))], [(qa, .inl (E.2.1, 40, .inl (upd (Lo_ticks v) ((Lo_entries v) - (Lo_entries v) / 40 * 40).toNatClampNeg p0)))], [(qb, .inl (E.2.1, 40, .inl (upd (Lo_colors v) ((Lo_entries v) - (Lo_entries v) / 40 * 40).toNatClampNeg p1)))], [(qc, .inl (E.2.1, 40, .inl (upd (Lo_directions v) ((Lo_entries v) - (Lo_entries v) / 40 * 40).toNatClampNeg p2)))], [(qd, .inl (E.2.1, 40, .inl (Lo_numbers v)))], [(qe, .inl (E.2.1, 4, .inl (Lo_shown v)))]]) H := hP
    have hD : va_D A (bl [[(o, .inr (4, [.ref qa, .ref qb, .ref qc, .ref qd, .ref qe, .int (Lo_passages v), .int (Lo_entries v)]))], [(qa, .inl (E.2.1, 40, .inl (upd (Lo_ticks v) ((Lo_entries v) - (Lo_entries v) / 40 * 40).toNatClampNeg p0)))], [(qb, .inl (E.2.1, 40, .inl (upd (Lo_colors v) ((Lo_entries v) - (Lo_entries v) / 40 * 40).toNatClampNeg p1)))], [(qc, .inl (E.2.1, 40, .inl (upd (Lo_directions v) ((Lo_entries v) - (Lo_entries v) / 40 * 40).toNatClampNeg p2)))], [(qd, .inl (E.2.1, 40, .inl (Lo_numbers v)))], [(qe, .inl (E.2.1, 4, .inl (Lo_shown v)))]]) := hD
    refine lv_aload_n hx hb dX6_add_39 rfl (lv_at hl 1 rfl) ?_
    refine g_get (T := TX6) (N := 7) hx hb hts in_X6 hown hK hP 0 rfl rfl 3 (by decide) w4 rfl rfl dX6_add_40 ?_
    refine lv_iload hx hb dX6_add_43 (lv_at hl 0 rfl) ?_
    refine lv_aload_n hx hb dX6_add_45 rfl (lv_at hl 1 rfl) ?_
    refine g_get (T := TX6) (N := 7) hx hb hts in_X6 hown hK hP 0 rfl rfl 5 (by decide) w5 rfl rfl dX6_add_46 ?_
    refine lv_iconst (v := 1) hx hb dX6_add_49 (by decide) ?_
    refine lv_isub hx hb dX6_add_50 ?_
    refine f_iast hx hb hK hP hD hS 4 rfl hF dX6_add_51 (fun hF H locs hP hD hS => ?_)
    have hP : va_P E.1 vwCl (bl [[(o, .inr (4, [.ref qa, .ref qb, .ref qc, .ref qd, .ref qe, .int (Lo_passages v), .int (Lo_entries v)]))], [(qa, .inl (E.2.1, 40, .inl (upd (Lo_ticks v) ((Lo_entries v) - (Lo_entries v) / 40 * 40).toNatClampNeg p0)))], [(qb, .inl (E.2.1, 40, .inl (upd (Lo_colors v) ((Lo_entries v) - (Lo_entries v) / 40 * 40).toNatClampNeg p1)))], [(qc, .inl (E.2.1, 40, .inl (upd (Lo_directions v) ((Lo_entries v) - (Lo_entries v) / 40 * 40).toNatClampNeg p2)))], [(qd, .inl (E.2.1, 40, .inl (upd (Lo_numbers v) ((Lo_entries v) - (Lo_entries v) / 40 * 40).toNatClampNeg ((Lo_passages v) - 1))))], [(qe, .inl (E.2.1, 4, .inl (Lo_shown v)))]]) H := hP
    have hD : va_D A (bl [[(o, .inr (4, [.ref qa, .ref qb, .ref qc, .ref qd, .ref qe, .int (Lo_passages v), .int (Lo_entries v)]))], [(qa, .inl (E.2.1, 40, .inl (upd (Lo_ticks v) ((Lo_entries v) - (Lo_entries v) / 40 * 40).toNatClampNeg p0)))], [(qb, .inl (E.2.1, 40, .inl (upd (Lo_colors v) ((Lo_entries v) - (Lo_entries v) / 40 * 40).toNatClampNeg p1)))], [(qc, .inl (E.2.1, 40, .inl (upd (Lo_directions v) ((Lo_entries v) - (Lo_entries v) / 40 * 40).toNatClampNeg p2)))], [(qd, .inl (E.2.1, 40, .inl (upd (Lo_numbers v) ((Lo_entries v) - (Lo_entries v) / 40 * 40).toNatClampNeg ((Lo_passages v) - 1))))], [(qe, .inl (E.2.1, 4, .inl (Lo_shown v)))]]) := hD
    refine lv_aload_n hx hb dX6_add_52 rfl (lv_at hl 1 rfl) ?_
    refine lv_dup hx hb dX6_add_53 rfl ?_
    refine g_get (T := TX6) (N := 7) hx hb hts in_X6 hown hK hP 0 rfl rfl 6 (by decide) w0 rfl rfl dX6_add_54 ?_
    refine lv_iconst (v := 1) hx hb dX6_add_57 (by decide) ?_
    refine lv_iadd hx hb dX6_add_58 ?_
    refine g_put (T := TX6) (N := 7) hx hb hts in_X6 tyX6 tyX6_ok nmX6 hown hK hP hD hS 0 rfl rfl 6 (by decide) w0 rfl rfl rfl rfl (Nat.le_of_ble_eq_true rfl) dX6_add_59 (fun H locs hP hD hS => ?_)
    have hP : va_P E.1 vwCl (bl [[(o, .inr (4, [.ref qa, .ref qb, .ref qc, .ref qd, .ref qe, .int (Lo_passages v), .int ((Lo_entries v) + 1)]))], [(qa, .inl (E.2.1, 40, .inl (upd (Lo_ticks v) ((Lo_entries v) - (Lo_entries v) / 40 * 40).toNatClampNeg p0)))], [(qb, .inl (E.2.1, 40, .inl (upd (Lo_colors v) ((Lo_entries v) - (Lo_entries v) / 40 * 40).toNatClampNeg p1)))], [(qc, .inl (E.2.1, 40, .inl (upd (Lo_directions v) ((Lo_entries v) - (Lo_entries v) / 40 * 40).toNatClampNeg p2)))], [(qd, .inl (E.2.1, 40, .inl (upd (Lo_numbers v) ((Lo_entries v) - (Lo_entries v) / 40 * 40).toNatClampNeg ((Lo_passages v) - 1))))], [(qe, .inl (E.2.1, 4, .inl (Lo_shown v)))]]) H := hP
    have hD : va_D A (bl [[(o, .inr (4, [.ref qa, .ref qb, .ref qc, .ref qd, .ref qe, .int (Lo_passages v), .int ((Lo_entries v) + 1)]))], [(qa, .inl (E.2.1, 40, .inl (upd (Lo_ticks v) ((Lo_entries v) - (Lo_entries v) / 40 * 40).toNatClampNeg p0)))], [(qb, .inl (E.2.1, 40, .inl (upd (Lo_colors v) ((Lo_entries v) - (Lo_entries v) / 40 * 40).toNatClampNeg p1)))], [(qc, .inl (E.2.1, 40, .inl (upd (Lo_directions v) ((Lo_entries v) - (Lo_entries v) / 40 * 40).toNatClampNeg p2)))], [(qd, .inl (E.2.1, 40, .inl (upd (Lo_numbers v) ((Lo_entries v) - (Lo_entries v) / 40 * 40).toNatClampNeg ((Lo_passages v) - 1))))], [(qe, .inl (E.2.1, 4, .inl (Lo_shown v)))]]) := hD
    exact g_vret (rvf := fun z => none) (W1f := fun z => bl [Lo_c E o qa qb qc qd qe z]) hx hb hr hlocks hQ hF rfl hP hD hS [0, 1, 2, 3, 4, 5] rfl rfl dX6_add_62
  · exact g_vret (rvf := fun z => none) (W1f := fun z => bl [Lo_c E o qa qb qc qd qe z]) hx hb hr hlocks hQ hF rfl hP hD hS [0, 1, 2, 3, 4, 5] rfl rfl dX6_add_14
def F_X6_kept (v : LoV) : Option (Int32) := if 40 ≤ (Lo_entries v) then some 40 else some (Lo_entries v)
set_option maxHeartbeats 4000000 in
set_option maxRecDepth 100000 in
theorem c_X6_kept (l : Launch) (E : GE) (o : Nat) (qa : Nat) (qb : Nat) (qc : Nat) (qd : Nat) (qe : Nat) (v : LoV) (r : Int32) (hF : F_X6_kept v = some r) : CT l E yX6_kept wsX6_kept ({ frames := 0, cells := 0, slots := 0, locals := 0 } : Room) [.ref o] (bl [Lo_c E o qa qb qc qd qe v]) (some (.int r)) (bl [Lo_c E o qa qb qc qd qe v]) 0 0 := by
  refine CT.of (cc := cX6_kept) (maxL := 1) (ret := (some .int)) (by decide) rfl (Nat.le_of_ble_eq_true rfl) ?_
  intro p e s m args below meth cd A Q ls B hQ hP hD hS hl
  obtain ⟨hx, hb, hml, hown, hts, hr, hlocks, hK, hZ, hA, hnm⟩ := B
  have hown : s.vm.findClass RX6 = some m.cls := hown
  have hl : lv_has ls 1 [(0, .ref o)] := hl
  have w0 := hts (.fieldLink RX6 37 "HarborLight$Log" "entries" "I") (by decide +kernel)
  have in_X6 : ∀ w ∈ wsX60, w ∈ wsX6_kept := by decide +kernel
  have hP : va_P E.1 vwCl (bl [[(o, .inr (4, [.ref qa, .ref qb, .ref qc, .ref qd, .ref qe, .int (Lo_passages v), .int (Lo_entries v)]))], [(qa, .inl (E.2.1, 40, .inl (Lo_ticks v)))], [(qb, .inl (E.2.1, 40, .inl (Lo_colors v)))], [(qc, .inl (E.2.1, 40, .inl (Lo_directions v)))], [(qd, .inl (E.2.1, 40, .inl (Lo_numbers v)))], [(qe, .inl (E.2.1, 4, .inl (Lo_shown v)))]]) s.heap := hP
  have hD : va_D A (bl [[(o, .inr (4, [.ref qa, .ref qb, .ref qc, .ref qd, .ref qe, .int (Lo_passages v), .int (Lo_entries v)]))], [(qa, .inl (E.2.1, 40, .inl (Lo_ticks v)))], [(qb, .inl (E.2.1, 40, .inl (Lo_colors v)))], [(qc, .inl (E.2.1, 40, .inl (Lo_directions v)))], [(qd, .inl (E.2.1, 40, .inl (Lo_numbers v)))], [(qe, .inl (E.2.1, 4, .inl (Lo_shown v)))]]) := hD
  unfold F_X6_kept at hF
  refine lv_aload_n hx hb dX6_kept_0 rfl (lv_at hl 0 rfl) ?_
  refine g_get (T := TX6) (N := 7) hx hb hts in_X6 hown hK hP 0 rfl rfl 6 (by decide) w0 rfl rfl dX6_kept_1 ?_
  refine lv_bipush (v := 40) hx hb dX6_kept_4 (by decide) ?_
  refine f_icmp_ge (tgt := 16) hx hb dX6_kept_6 (by decide) hF (fun hF => ?_) (fun hF => ?_)
  · refine lv_bipush (v := 40) hx hb dX6_kept_16 (by decide) ?_
    exact g_iret (rvf := fun z => some (.int z)) (W1f := fun z => bl [Lo_c E o qa qb qc qd qe v]) hx hb hr hlocks hQ hF rfl hP hD hS [0, 1, 2, 3, 4, 5] rfl rfl dX6_kept_18
  · refine lv_aload_n hx hb dX6_kept_9 rfl (lv_at hl 0 rfl) ?_
    refine g_get (T := TX6) (N := 7) hx hb hts in_X6 hown hK hP 0 rfl rfl 6 (by decide) w0 rfl rfl dX6_kept_10 ?_
    refine lv_goto (tgt := 18) hx hb dX6_kept_13 (by decide) ?_
    exact g_iret (rvf := fun z => some (.int z)) (W1f := fun z => bl [Lo_c E o qa qb qc qd qe v]) hx hb hr hlocks hQ hF rfl hP hD hS [0, 1, 2, 3, 4, 5] rfl rfl dX6_kept_18
def F_X6_valueOf (v : LoV) (p0 : Int32) (p1 : Int32) : Option (Int32) := if 0 ≤ ((((Lo_entries v) - 1) - p0) - (((Lo_entries v) - 1) - p0) / 40 * 40) then if p1 = 0 then chk ((((Lo_entries v) - 1) - p0) - (((Lo_entries v) - 1) - p0) / 40 * 40) 40 (some ((Lo_ticks v) ((((Lo_entries v) - 1) - p0) - (((Lo_entries v) - 1) - p0) / 40 * 40).toNatClampNeg)) else if p1 = 1 then chk ((((Lo_entries v) - 1) - p0) - (((Lo_entries v) - 1) - p0) / 40 * 40) 40 (some ((Lo_colors v) ((((Lo_entries v) - 1) - p0) - (((Lo_entries v) - 1) - p0) / 40 * 40).toNatClampNeg)) else if p1 = 2 then chk ((((Lo_entries v) - 1) - p0) - (((Lo_entries v) - 1) - p0) / 40 * 40) 40 (some ((Lo_directions v) ((((Lo_entries v) - 1) - p0) - (((Lo_entries v) - 1) - p0) / 40 * 40).toNatClampNeg)) else chk ((((Lo_entries v) - 1) - p0) - (((Lo_entries v) - 1) - p0) / 40 * 40) 40 (some ((Lo_numbers v) ((((Lo_entries v) - 1) - p0) - (((Lo_entries v) - 1) - p0) / 40 * 40).toNatClampNeg)) else some (-4)
set_option maxHeartbeats 4000000 in
set_option maxRecDepth 100000 in
theorem c_X6_valueOf (l : Launch) (E : GE) (o : Nat) (qa : Nat) (qb : Nat) (qc : Nat) (qd : Nat) (qe : Nat) (v : LoV) (p0 : Int32) (p1 : Int32) (r : Int32) (hF : F_X6_valueOf v p0 p1 = some r) : CT l E yX6_valueOf wsX6_valueOf ({ frames := 0, cells := 0, slots := 0, locals := 0 } : Room) [.ref o, .int p0, .int p1] (bl [Lo_c E o qa qb qc qd qe v]) (some (.int r)) (bl [Lo_c E o qa qb qc qd qe v]) 0 0 := by
  refine CT.of (cc := cX6_valueOf) (maxL := 4) (ret := (some .int)) (by decide) rfl (Nat.le_of_ble_eq_true rfl) ?_
  intro p e s m args below meth cd A Q ls B hQ hP hD hS hl
  obtain ⟨hx, hb, hml, hown, hts, hr, hlocks, hK, hZ, hA, hnm⟩ := B
  have hown : s.vm.findClass RX6 = some m.cls := hown
  have hl : lv_has ls 4 [(0, .ref o), (1, .int p0), (2, .int p1)] := hl
  have w0 := hts (.fieldLink RX6 37 "HarborLight$Log" "entries" "I") (by decide +kernel)
  have w1 := hts (.fieldLink RX6 11 "HarborLight$Log" "ticks" "[I") (by decide +kernel)
  have w2 := hts (.fieldLink RX6 15 "HarborLight$Log" "colors" "[I") (by decide +kernel)
  have w3 := hts (.fieldLink RX6 18 "HarborLight$Log" "directions" "[I") (by decide +kernel)
  have w4 := hts (.fieldLink RX6 21 "HarborLight$Log" "numbers" "[I") (by decide +kernel)
  have in_X6 : ∀ w ∈ wsX60, w ∈ wsX6_valueOf := by decide +kernel
  have hP : va_P E.1 vwCl (bl [[(o, .inr (4, [.ref qa, .ref qb, .ref qc, .ref qd, .ref qe, .int (Lo_passages v), .int (Lo_entries v)]))], [(qa, .inl (E.2.1, 40, .inl (Lo_ticks v)))], [(qb, .inl (E.2.1, 40, .inl (Lo_colors v)))], [(qc, .inl (E.2.1, 40, .inl (Lo_directions v)))], [(qd, .inl (E.2.1, 40, .inl (Lo_numbers v)))], [(qe, .inl (E.2.1, 4, .inl (Lo_shown v)))]]) s.heap := hP
  have hD : va_D A (bl [[(o, .inr (4, [.ref qa, .ref qb, .ref qc, .ref qd, .ref qe, .int (Lo_passages v), .int (Lo_entries v)]))], [(qa, .inl (E.2.1, 40, .inl (Lo_ticks v)))], [(qb, .inl (E.2.1, 40, .inl (Lo_colors v)))], [(qc, .inl (E.2.1, 40, .inl (Lo_directions v)))], [(qd, .inl (E.2.1, 40, .inl (Lo_numbers v)))], [(qe, .inl (E.2.1, 4, .inl (Lo_shown v)))]]) := hD
  unfold F_X6_valueOf at hF
  refine lv_aload_n hx hb dX6_valueOf_0 rfl (lv_at hl 0 rfl) ?_
  refine g_get (T := TX6) (N := 7) hx hb hts in_X6 hown hK hP 0 rfl rfl 6 (by decide) w0 rfl rfl dX6_valueOf_1 ?_
  refine lv_iconst (v := 1) hx hb dX6_valueOf_4 (by decide) ?_
  refine lv_isub hx hb dX6_valueOf_5 ?_
  refine lv_iload_n hx hb dX6_valueOf_6 rfl (lv_at hl 1 rfl) ?_
  refine lv_isub hx hb dX6_valueOf_7 ?_
  refine lv_bipush (v := 40) hx hb dX6_valueOf_8 (by decide) ?_
  refine lv_irem hx hb dX6_valueOf_10 (by decide) ?_
  refine lv_istore_n (lv' := [(3, .int ((((Lo_entries v) - 1) - p0) - (((Lo_entries v) - 1) - p0) / 40 * 40)), (0, .ref o), (1, .int p0), (2, .int p1)]) hx hb dX6_valueOf_11 rfl hl (by decide) rfl (fun ls hl => ?_)
  refine lv_iload_n hx hb dX6_valueOf_12 rfl (lv_at hl 0 rfl) ?_
  refine f_if_ge (tgt := 19) hx hb dX6_valueOf_13 (by decide) hF (fun hF => ?_) (fun hF => ?_)
  · refine lv_iload_n hx hb dX6_valueOf_19 rfl (lv_at hl 3 rfl) ?_
    refine f_ite hF (fun q0_ hF => ?_) (fun q0_ hF => ?_)
    · rw [q0_]
      refine lv_tableIn (tgt := 48) hx hb dX6_valueOf_20 (by decide) (by decide) rfl (by decide) ?_
      refine lv_aload_n hx hb dX6_valueOf_48 rfl (lv_at hl 1 rfl) ?_
      refine g_get (T := TX6) (N := 7) hx hb hts in_X6 hown hK hP 0 rfl rfl 0 (by decide) w1 rfl rfl dX6_valueOf_49 ?_
      refine lv_iload_n hx hb dX6_valueOf_52 rfl (lv_at hl 0 rfl) ?_
      refine f_iald hx hb hK hP 1 rfl hF dX6_valueOf_53 (fun hF => ?_)
      exact g_iret (rvf := fun z => some (.int z)) (W1f := fun z => bl [Lo_c E o qa qb qc qd qe v]) hx hb hr hlocks hQ hF rfl hP hD hS [0, 1, 2, 3, 4, 5] rfl rfl dX6_valueOf_54
    refine f_ite hF (fun q1_ hF => ?_) (fun q1_ hF => ?_)
    · rw [q1_]
      refine lv_tableIn (tgt := 55) hx hb dX6_valueOf_20 (by decide) (by decide) rfl (by decide) ?_
      refine lv_aload_n hx hb dX6_valueOf_55 rfl (lv_at hl 1 rfl) ?_
      refine g_get (T := TX6) (N := 7) hx hb hts in_X6 hown hK hP 0 rfl rfl 1 (by decide) w2 rfl rfl dX6_valueOf_56 ?_
      refine lv_iload_n hx hb dX6_valueOf_59 rfl (lv_at hl 0 rfl) ?_
      refine f_iald hx hb hK hP 2 rfl hF dX6_valueOf_60 (fun hF => ?_)
      exact g_iret (rvf := fun z => some (.int z)) (W1f := fun z => bl [Lo_c E o qa qb qc qd qe v]) hx hb hr hlocks hQ hF rfl hP hD hS [0, 1, 2, 3, 4, 5] rfl rfl dX6_valueOf_61
    refine f_ite hF (fun q2_ hF => ?_) (fun q2_ hF => ?_)
    · rw [q2_]
      refine lv_tableIn (tgt := 62) hx hb dX6_valueOf_20 (by decide) (by decide) rfl (by decide) ?_
      refine lv_aload_n hx hb dX6_valueOf_62 rfl (lv_at hl 1 rfl) ?_
      refine g_get (T := TX6) (N := 7) hx hb hts in_X6 hown hK hP 0 rfl rfl 2 (by decide) w3 rfl rfl dX6_valueOf_63 ?_
      refine lv_iload_n hx hb dX6_valueOf_66 rfl (lv_at hl 0 rfl) ?_
      refine f_iald hx hb hK hP 3 rfl hF dX6_valueOf_67 (fun hF => ?_)
      exact g_iret (rvf := fun z => some (.int z)) (W1f := fun z => bl [Lo_c E o qa qb qc qd qe v]) hx hb hr hlocks hQ hF rfl hP hD hS [0, 1, 2, 3, 4, 5] rfl rfl dX6_valueOf_68
    refine lv_tableOut (tgt := 69) hx hb dX6_valueOf_20 (by have t0_ := ne_toInt (z := 0) q0_ (by decide); have t1_ := ne_toInt (z := 1) q1_ (by decide); have t2_ := ne_toInt (z := 2) q2_ (by decide); omega) (by decide) ?_
    refine lv_aload_n hx hb dX6_valueOf_69 rfl (lv_at hl 1 rfl) ?_
    refine g_get (T := TX6) (N := 7) hx hb hts in_X6 hown hK hP 0 rfl rfl 3 (by decide) w4 rfl rfl dX6_valueOf_70 ?_
    refine lv_iload_n hx hb dX6_valueOf_73 rfl (lv_at hl 0 rfl) ?_
    refine f_iald hx hb hK hP 4 rfl hF dX6_valueOf_74 (fun hF => ?_)
    exact g_iret (rvf := fun z => some (.int z)) (W1f := fun z => bl [Lo_c E o qa qb qc qd qe v]) hx hb hr hlocks hQ hF rfl hP hD hS [0, 1, 2, 3, 4, 5] rfl rfl dX6_valueOf_75
  · refine lv_bipush (v := (-4)) hx hb dX6_valueOf_16 (by decide) ?_
    exact g_iret (rvf := fun z => some (.int z)) (W1f := fun z => bl [Lo_c E o qa qb qc qd qe v]) hx hb hr hlocks hQ hF rfl hP hD hS [0, 1, 2, 3, 4, 5] rfl rfl dX6_valueOf_18
