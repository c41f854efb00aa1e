-- X7: printed by wip/whole/parts.py: a pure picture and a contract a method
def F_X7_become (v : StV) (v2 : StV) : Option (StV) := (F_X2_become (St_Ci v) (St_Ci v2)).bind fun q1 => (F_X4_become (St_Fl v) (St_Fl v2)).bind fun q2 => (F_X1_become (St_Ch v) (St_Ch v2)).bind fun q3 => (F_X6_become (St_Lo v) (St_Lo v2)).bind fun q4 => cpk 0 0 4 4 4 (some (St_mk (So_mk (va_cpy (So_spent (St_So v2)) (So_spent (St_So v)) (0 : Int32).toNatClampNeg (0 : Int32).toNatClampNeg (4 : Int32).toNatClampNeg) (So_tick (St_So v2)) (So_clear (St_So v2)) (So_changesBegun (St_So v2))) q1 q2 q3 q4))
set_option maxHeartbeats 4000000 in
set_option maxRecDepth 100000 in
theorem c_X7_become (l : Launch) (E : GE) (fa : Nat → Nat) (fa2 : Nat → Nat) (v : StV) (v2 : StV) (r : StV) (hF : F_X7_become v v2 = some r) : CT l E yX7_become wsX7_become ({ frames := 2, cells := 0, slots := 0, locals := 51 } : Room) [.ref (fa 0), .ref (fa2 0)] (bl [St_c E fa v, St_c E fa2 v2]) (none) (bl [St_c E fa r, St_c E fa2 v2]) 0 0 := by
  refine CT.of (cc := cX7_become) (maxL := 2) (ret := none) (by decide) rfl (Nat.le_of_ble_eq_true rfl) ?_
  intro p e s m args below meth cd A Q ls B hQ hP hD hS hl
  obtain ⟨hx, hb, hml, hown, hts, hr, hlocks, hK, hZ, hA, hnm⟩ := B
  have hown : s.vm.findClass RX7 = some m.cls := hown
  have hl : lv_has ls 2 [(0, .ref (fa 0)), (1, .ref (fa2 0))] := hl
  have w0 := hts (.fieldLink RX7 10 "HarborLight$State" "circle" "LHarborLight$Circle;") (by decide +kernel)
  have w1 := hts (.fieldLink RX7 19 "HarborLight$State" "flash" "LHarborLight$FlashCode;") (by decide +kernel)
  have w2 := hts (.fieldLink RX7 26 "HarborLight$State" "changer" "LHarborLight$Changer;") (by decide +kernel)
  have w3 := hts (.fieldLink RX7 33 "HarborLight$State" "log" "LHarborLight$Log;") (by decide +kernel)
  have w4 := hts (.fieldLink RX7 37 "HarborLight$State" "spent" "[I") (by decide +kernel)
  have w5 := hts (.methodLink RX7 58 arraycopyName) (by decide +kernel)
  have w6 := hts (.native arraycopyName) (by decide +kernel)
  have w7 := hts (.static arraycopyName) (by decide +kernel)
  have w8 := hts (.initialized "java/lang/System") (by decide +kernel)
  have w9 := hts (.fieldLink RX7 64 "HarborLight$State" "tick" "I") (by decide +kernel)
  have w10 := hts (.fieldLink RX7 41 "HarborLight$State" "clear" "I") (by decide +kernel)
  have w11 := hts (.fieldLink RX7 67 "HarborLight$State" "changesBegun" "I") (by decide +kernel)
  have in_X7 : ∀ w ∈ wsX70, w ∈ wsX7_become := by decide +kernel
  have hP : va_P E.1 vwCl (bl [[((fa 0), .inr (5, [.ref (fa 2), .ref (fa 4), .ref (fa 7), .ref (fa 11), .ref (fa 1), .int (So_tick (St_So v)), .int (So_clear (St_So v)), .int (So_changesBegun (St_So v))]))], [((fa 1), .inl (E.2.1, 4, .inl (So_spent (St_So v))))], Ci_c E (fa 2) (fa 3) (St_Ci v), Fl_c E (fa 4) (fa 5) (fa 6) (St_Fl v), Ch_c E (fa 7) (fa 8) (fa 9) (fa 10) (St_Ch v), Lo_c E (fa 11) (fa 12) (fa 13) (fa 14) (fa 15) (fa 16) (St_Lo v), [((fa2 0), .inr (5, [.ref (fa2 2), .ref (fa2 4), .ref (fa2 7), .ref (fa2 11), .ref (fa2 1), .int (So_tick (St_So v2)), .int (So_clear (St_So v2)), .int (So_changesBegun (St_So v2))]))], [((fa2 1), .inl (E.2.1, 4, .inl (So_spent (St_So v2))))], Ci_c E (fa2 2) (fa2 3) (St_Ci v2), Fl_c E (fa2 4) (fa2 5) (fa2 6) (St_Fl v2), Ch_c E (fa2 7) (fa2 8) (fa2 9) (fa2 10) (St_Ch v2), Lo_c E (fa2 11) (fa2 12) (fa2 13) (fa2 14) (fa2 15) (fa2 16) (St_Lo v2)]) s.heap := hP
  have hD : va_D A (bl [[((fa 0), .inr (5, [.ref (fa 2), .ref (fa 4), .ref (fa 7), .ref (fa 11), .ref (fa 1), .int (So_tick (St_So v)), .int (So_clear (St_So v)), .int (So_changesBegun (St_So v))]))], [((fa 1), .inl (E.2.1, 4, .inl (So_spent (St_So v))))], Ci_c E (fa 2) (fa 3) (St_Ci v), Fl_c E (fa 4) (fa 5) (fa 6) (St_Fl v), Ch_c E (fa 7) (fa 8) (fa 9) (fa 10) (St_Ch v), Lo_c E (fa 11) (fa 12) (fa 13) (fa 14) (fa 15) (fa 16) (St_Lo v), [((fa2 0), .inr (5, [.ref (fa2 2), .ref (fa2 4), .ref (fa2 7), .ref (fa2 11), .ref (fa2 1), .int (So_tick (St_So v2)), .int (So_clear (St_So v2)), .int (So_changesBegun (St_So v2))]))], [((fa2 1), .inl (E.2.1, 4, .inl (So_spent (St_So v2))))], Ci_c E (fa2 2) (fa2 3) (St_Ci v2), Fl_c E (fa2 4) (fa2 5) (fa2 6) (St_Fl v2), Ch_c E (fa2 7) (fa2 8) (fa2 9) (fa2 10) (St_Ch v2), Lo_c E (fa2 11) (fa2 12) (fa2 13) (fa2 14) (fa2 15) (fa2 16) (St_Lo v2)]) := hD
  unfold F_X7_become at hF
  refine lv_aload_n hx hb dX7_become_0 rfl (lv_at hl 0 rfl) ?_
  refine g_get (T := TX7) (N := 8) hx hb hts in_X7 hown hK hP 0 rfl rfl 0 (by decide) w0 rfl rfl dX7_become_1 ?_
  refine lv_aload_n hx hb dX7_become_4 rfl (lv_at hl 1 rfl) ?_
  refine g_get (T := TX7) (N := 8) hx hb hts in_X7 hown hK hP 6 rfl rfl 0 (by decide) w0 rfl rfl dX7_become_5 ?_
  obtain ⟨q1, h_q1, hF⟩ := bnd_s hF
  refine g_callV (As := [.ref (fa2 2)]) (rest := []) ⟨hx, hb, hml, hown, hts⟩ hK hZ hA (c_X2_become l E (fa 2) (fa 3) (fa2 2) (fa2 3) (St_Ci v) (St_Ci v2) q1 h_q1) (cwV 1 hts gX7_become_X2_become rfl rfl rfl (by decide +kernel) ⟨Nat.le_of_ble_eq_true rfl, Nat.le_of_ble_eq_true rfl⟩) hP hD hS [2, 8] [0, 1, 3, 4, 5, 6, 7, 9, 10, 11] rfl rfl rfl rfl rfl rfl hl.1 rfl (Nat.le_of_ble_eq_true rfl) dX7_become_8 ⟨Nat.le_of_ble_eq_true rfl, Nat.le_of_ble_eq_true rfl⟩ (fun H locs hP hD hS => ?_)
  have hP : va_P E.1 vwCl (bl [Ci_c E (fa 2) (fa 3) q1, Ci_c E (fa2 2) (fa2 3) (St_Ci v2), [((fa 0), .inr (5, [.ref (fa 2), .ref (fa 4), .ref (fa 7), .ref (fa 11), .ref (fa 1), .int (So_tick (St_So v)), .int (So_clear (St_So v)), .int (So_changesBegun (St_So v))]))], [((fa 1), .inl (E.2.1, 4, .inl (So_spent (St_So v))))], Fl_c E (fa 4) (fa 5) (fa 6) (St_Fl v), Ch_c E (fa 7) (fa 8) (fa 9) (fa 10) (St_Ch v), Lo_c E (fa 11) (fa 12) (fa 13) (fa 14) (fa 15) (fa 16) (St_Lo v), [((fa2 0), .inr (5, [.ref (fa2 2), .ref (fa2 4), .ref (fa2 7), .ref (fa2 11), .ref (fa2 1), .int (So_tick (St_So v2)), .int (So_clear (St_So v2)), .int (So_changesBegun (St_So v2))]))], [((fa2 1), .inl (E.2.1, 4, .inl (So_spent (St_So v2))))], Fl_c E (fa2 4) (fa2 5) (fa2 6) (St_Fl v2), Ch_c E (fa2 7) (fa2 8) (fa2 9) (fa2 10) (St_Ch v2), Lo_c E (fa2 11) (fa2 12) (fa2 13) (fa2 14) (fa2 15) (fa2 16) (St_Lo v2)]) H := hP
  have hD : va_D A (bl [Ci_c E (fa 2) (fa 3) q1, Ci_c E (fa2 2) (fa2 3) (St_Ci v2), [((fa 0), .inr (5, [.ref (fa 2), .ref (fa 4), .ref (fa 7), .ref (fa 11), .ref (fa 1), .int (So_tick (St_So v)), .int (So_clear (St_So v)), .int (So_changesBegun (St_So v))]))], [((fa 1), .inl (E.2.1, 4, .inl (So_spent (St_So v))))], Fl_c E (fa 4) (fa 5) (fa 6) (St_Fl v), Ch_c E (fa 7) (fa 8) (fa 9) (fa 10) (St_Ch v), Lo_c E (fa 11) (fa 12) (fa 13) (fa 14) (fa 15) (fa 16) (St_Lo v), [((fa2 0), .inr (5, [.ref (fa2 2), .ref (fa2 4), .ref (fa2 7), .ref (fa2 11), .ref (fa2 1), .int (So_tick (St_So v2)), .int (So_clear (St_So v2)), .int (So_changesBegun (St_So v2))]))], [((fa2 1), .inl (E.2.1, 4, .inl (So_spent (St_So v2))))], Fl_c E (fa2 4) (fa2 5) (fa2 6) (St_Fl v2), Ch_c E (fa2 7) (fa2 8) (fa2 9) (fa2 10) (St_Ch v2), Lo_c E (fa2 11) (fa2 12) (fa2 13) (fa2 14) (fa2 15) (fa2 16) (St_Lo v2)]) := hD
  refine W.eq (g2 := F0 m 11 ls []) rfl ?_
  refine lv_aload_n hx hb dX7_become_11 rfl (lv_at hl 0 rfl) ?_
  refine g_get (T := TX7) (N := 8) hx hb hts in_X7 hown hK hP 2 rfl rfl 1 (by decide) w1 rfl rfl dX7_become_12 ?_
  refine lv_aload_n hx hb dX7_become_15 rfl (lv_at hl 1 rfl) ?_
  refine g_get (T := TX7) (N := 8) hx hb hts in_X7 hown hK hP 7 rfl rfl 1 (by decide) w1 rfl rfl dX7_become_16 ?_
  obtain ⟨q2, h_q2, hF⟩ := bnd_s hF
  refine g_callV (As := [.ref (fa2 4)]) (rest := []) ⟨hx, hb, hml, hown, hts⟩ hK hZ hA (c_X4_become l E (fa 4) (fa 5) (fa 6) (fa2 4) (fa2 5) (fa2 6) (St_Fl v) (St_Fl v2) q2 h_q2) (cwV 1 hts gX7_become_X4_become rfl rfl rfl (by decide +kernel) ⟨Nat.le_of_ble_eq_true rfl, Nat.le_of_ble_eq_true rfl⟩) hP hD hS [4, 9] [0, 1, 2, 3, 5, 6, 7, 8, 10, 11] rfl rfl rfl rfl rfl rfl hl.1 rfl (Nat.le_of_ble_eq_true rfl) dX7_become_19 ⟨Nat.le_of_ble_eq_true rfl, Nat.le_of_ble_eq_true rfl⟩ (fun H locs hP hD hS => ?_)
  have hP : va_P E.1 vwCl (bl [Fl_c E (fa 4) (fa 5) (fa 6) q2, Fl_c E (fa2 4) (fa2 5) (fa2 6) (St_Fl v2), Ci_c E (fa 2) (fa 3) q1, Ci_c E (fa2 2) (fa2 3) (St_Ci v2), [((fa 0), .inr (5, [.ref (fa 2), .ref (fa 4), .ref (fa 7), .ref (fa 11), .ref (fa 1), .int (So_tick (St_So v)), .int (So_clear (St_So v)), .int (So_changesBegun (St_So v))]))], [((fa 1), .inl (E.2.1, 4, .inl (So_spent (St_So v))))], Ch_c E (fa 7) (fa 8) (fa 9) (fa 10) (St_Ch v), Lo_c E (fa 11) (fa 12) (fa 13) (fa 14) (fa 15) (fa 16) (St_Lo v), [((fa2 0), .inr (5, [.ref (fa2 2), .ref (fa2 4), .ref (fa2 7), .ref (fa2 11), .ref (fa2 1), .int (So_tick (St_So v2)), .int (So_clear (St_So v2)), .int (So_changesBegun (St_So v2))]))], [((fa2 1), .inl (E.2.1, 4, .inl (So_spent (St_So v2))))], Ch_c E (fa2 7) (fa2 8) (fa2 9) (fa2 10) (St_Ch v2), Lo_c E (fa2 11) (fa2 12) (fa2 13) (fa2 14) (fa2 15) (fa2 16) (St_Lo v2)]) H := hP
  have hD : va_D A (bl [Fl_c E (fa 4) (fa 5) (fa 6) q2, Fl_c E (fa2 4) (fa2 5) (fa2 6) (St_Fl v2), Ci_c E (fa 2) (fa 3) q1, Ci_c E (fa2 2) (fa2 3) (St_Ci v2), [((fa 0), .inr (5, [.ref (fa 2), .ref (fa 4), .ref (fa 7), .ref (fa 11), .ref (fa 1), .int (So_tick (St_So v)), .int (So_clear (St_So v)), .int (So_changesBegun (St_So v))]))], [((fa 1), .inl (E.2.1, 4, .inl (So_spent (St_So v))))], Ch_c E (fa 7) (fa 8) (fa 9) (fa 10) (St_Ch v), Lo_c E (fa 11) (fa 12) (fa 13) (fa 14) (fa 15) (fa 16) (St_Lo v), [((fa2 0), .inr (5, [.ref (fa2 2), .ref (fa2 4), .ref (fa2 7), .ref (fa2 11), .ref (fa2 1), .int (So_tick (St_So v2)), .int (So_clear (St_So v2)), .int (So_changesBegun (St_So v2))]))], [((fa2 1), .inl (E.2.1, 4, .inl (So_spent (St_So v2))))], Ch_c E (fa2 7) (fa2 8) (fa2 9) (fa2 10) (St_Ch v2), Lo_c E (fa2 11) (fa2 12) (fa2 13) (fa2 14) (fa2 15) (fa2 16) (St_Lo v2)]) := hD
  refine W.eq (g2 := F0 m 22 ls []) rfl ?_
  refine lv_aload_n hx hb dX7_become_22 rfl (lv_at hl 0 rfl) ?_
  refine g_get (T := TX7) (N := 8) hx hb hts in_X7 hown hK hP 4 rfl rfl 2 (by decide) w2 rfl rfl dX7_become_23 ?_
  refine lv_aload_n hx hb dX7_become_26 rfl (lv_at hl 1 rfl) ?_
  refine g_get (T := TX7) (N := 8) hx hb hts in_X7 hown hK hP 8 rfl rfl 2 (by decide) w2 rfl rfl dX7_become_27 ?_
  obtain ⟨q3, h_q3, hF⟩ := bnd_s hF
  refine g_callV (As := [.ref (fa2 7)]) (rest := []) ⟨hx, hb, hml, hown, hts⟩ hK hZ hA (c_X1_become l E (fa 7) (fa 8) (fa 9) (fa 10) (fa2 7) (fa2 8) (fa2 9) (fa2 10) (St_Ch v) (St_Ch v2) q3 h_q3) (cwV 1 hts gX7_become_X1_become rfl rfl rfl (by decide +kernel) ⟨Nat.le_of_ble_eq_true rfl, Nat.le_of_ble_eq_true rfl⟩) hP hD hS [6, 10] [0, 1, 2, 3, 4, 5, 7, 8, 9, 11] rfl rfl rfl rfl rfl rfl hl.1 rfl (Nat.le_of_ble_eq_true rfl) dX7_become_30 ⟨Nat.le_of_ble_eq_true rfl, Nat.le_of_ble_eq_true rfl⟩ (fun H locs hP hD hS => ?_)
  have hP : va_P E.1 vwCl (bl [Ch_c E (fa 7) (fa 8) (fa 9) (fa 10) q3, Ch_c E (fa2 7) (fa2 8) (fa2 9) (fa2 10) (St_Ch v2), Fl_c E (fa 4) (fa 5) (fa 6) q2, Fl_c E (fa2 4) (fa2 5) (fa2 6) (St_Fl v2), Ci_c E (fa 2) (fa 3) q1, Ci_c E (fa2 2) (fa2 3) (St_Ci v2), [((fa 0), .inr (5, [.ref (fa 2), .ref (fa 4), .ref (fa 7), .ref (fa 11), .ref (fa 1), .int (So_tick (St_So v)), .int (So_clear (St_So v)), .int (So_changesBegun (St_So v))]))], [((fa 1), .inl (E.2.1, 4, .inl (So_spent (St_So v))))], Lo_c E (fa 11) (fa 12) (fa 13) (fa 14) (fa 15) (fa 16) (St_Lo v), [((fa2 0), .inr (5, [.ref (fa2 2), .ref (fa2 4), .ref (fa2 7), .ref (fa2 11), .ref (fa2 1), .int (So_tick (St_So v2)), .int (So_clear (St_So v2)), .int (So_changesBegun (St_So v2))]))], [((fa2 1), .inl (E.2.1, 4, .inl (So_spent (St_So v2))))], Lo_c E (fa2 11) (fa2 12) (fa2 13) (fa2 14) (fa2 15) (fa2 16) (St_Lo v2)]) H := hP
  have hD : va_D A (bl [Ch_c E (fa 7) (fa 8) (fa 9) (fa 10) q3, Ch_c E (fa2 7) (fa2 8) (fa2 9) (fa2 10) (St_Ch v2), Fl_c E (fa 4) (fa 5) (fa 6) q2, Fl_c E (fa2 4) (fa2 5) (fa2 6) (St_Fl v2), Ci_c E (fa 2) (fa 3) q1, Ci_c E (fa2 2) (fa2 3) (St_Ci v2), [((fa 0), .inr (5, [.ref (fa 2), .ref (fa 4), .ref (fa 7), .ref (fa 11), .ref (fa 1), .int (So_tick (St_So v)), .int (So_clear (St_So v)), .int (So_changesBegun (St_So v))]))], [((fa 1), .inl (E.2.1, 4, .inl (So_spent (St_So v))))], Lo_c E (fa 11) (fa 12) (fa 13) (fa 14) (fa 15) (fa 16) (St_Lo v), [((fa2 0), .inr (5, [.ref (fa2 2), .ref (fa2 4), .ref (fa2 7), .ref (fa2 11), .ref (fa2 1), .int (So_tick (St_So v2)), .int (So_clear (St_So v2)), .int (So_changesBegun (St_So v2))]))], [((fa2 1), .inl (E.2.1, 4, .inl (So_spent (St_So v2))))], Lo_c E (fa2 11) (fa2 12) (fa2 13) (fa2 14) (fa2 15) (fa2 16) (St_Lo v2)]) := hD
  refine W.eq (g2 := F0 m 33 ls []) rfl ?_
  refine lv_aload_n hx hb dX7_become_33 rfl (lv_at hl 0 rfl) ?_
  refine g_get (T := TX7) (N := 8) hx hb hts in_X7 hown hK hP 6 rfl rfl 3 (by decide) w3 rfl rfl dX7_become_34 ?_
  refine lv_aload_n hx hb dX7_become_37 rfl (lv_at hl 1 rfl) ?_
  refine g_get (T := TX7) (N := 8) hx hb hts in_X7 hown hK hP 9 rfl rfl 3 (by decide) w3 rfl rfl dX7_become_38 ?_
  obtain ⟨q4, h_q4, hF⟩ := bnd_s hF
  refine g_callV (As := [.ref (fa2 11)]) (rest := []) ⟨hx, hb, hml, hown, hts⟩ hK hZ hA (c_X6_become l E (fa 11) (fa 12) (fa 13) (fa 14) (fa 15) (fa 16) (fa2 11) (fa2 12) (fa2 13) (fa2 14) (fa2 15) (fa2 16) (St_Lo v) (St_Lo v2) q4 h_q4) (cwV 1 hts gX7_become_X6_become rfl rfl rfl (by decide +kernel) ⟨Nat.le_of_ble_eq_true rfl, Nat.le_of_ble_eq_true rfl⟩) hP hD hS [8, 11] [0, 1, 2, 3, 4, 5, 6, 7, 9, 10] rfl rfl rfl rfl rfl rfl hl.1 rfl (Nat.le_of_ble_eq_true rfl) dX7_become_41 ⟨Nat.le_of_ble_eq_true rfl, Nat.le_of_ble_eq_true rfl⟩ (fun H locs hP hD hS => ?_)
  have hP : va_P E.1 vwCl (bl [Lo_c E (fa 11) (fa 12) (fa 13) (fa 14) (fa 15) (fa 16) q4, Lo_c E (fa2 11) (fa2 12) (fa2 13) (fa2 14) (fa2 15) (fa2 16) (St_Lo v2), Ch_c E (fa 7) (fa 8) (fa 9) (fa 10) q3, Ch_c E (fa2 7) (fa2 8) (fa2 9) (fa2 10) (St_Ch v2), Fl_c E (fa 4) (fa 5) (fa 6) q2, Fl_c E (fa2 4) (fa2 5) (fa2 6) (St_Fl v2), Ci_c E (fa 2) (fa 3) q1, Ci_c E (fa2 2) (fa2 3) (St_Ci v2), [((fa 0), .inr (5, [.ref (fa 2), .ref (fa 4), .ref (fa 7), .ref (fa 11), .ref (fa 1), .int (So_tick (St_So v)), .int (So_clear (St_So v)), .int (So_changesBegun (St_So v))]))], [((fa 1), .inl (E.2.1, 4, .inl (So_spent (St_So v))))], [((fa2 0), .inr (5, [.ref (fa2 2), .ref (fa2 4), .ref (fa2 7), .ref (fa2 11), .ref (fa2 1), .int (So_tick (St_So v2)), .int (So_clear (St_So v2)), .int (So_changesBegun (St_So v2))]))], [((fa2 1), .inl (E.2.1, 4, .inl (So_spent (St_So v2))))]]) H := hP
  have hD : va_D A (bl [Lo_c E (fa 11) (fa 12) (fa 13) (fa 14) (fa 15) (fa 16) q4, Lo_c E (fa2 11) (fa2 12) (fa2 13) (fa2 14) (fa2 15) (fa2 16) (St_Lo v2), Ch_c E (fa 7) (fa 8) (fa 9) (fa 10) q3, Ch_c E (fa2 7) (fa2 8) (fa2 9) (fa2 10) (St_Ch v2), Fl_c E (fa 4) (fa 5) (fa 6) q2, Fl_c E (fa2 4) (fa2 5) (fa2 6) (St_Fl v2), Ci_c E (fa 2) (fa 3) q1, Ci_c E (fa2 2) (fa2 3) (St_Ci v2), [((fa 0), .inr (5, [.ref (fa 2), .ref (fa 4), .ref (fa 7), .ref (fa 11), .ref (fa 1), .int (So_tick (St_So v)), .int (So_clear (St_So v)), .int (So_changesBegun (St_So v))]))], [((fa 1), .inl (E.2.1, 4, .inl (So_spent (St_So v))))], [((fa2 0), .inr (5, [.ref (fa2 2), .ref (fa2 4), .ref (fa2 7), .ref (fa2 11), .ref (fa2 1), .int (So_tick (St_So v2)), .int (So_clear (St_So v2)), .int (So_changesBegun (St_So v2))]))], [((fa2 1), .inl (E.2.1, 4, .inl (So_spent (St_So v2))))]]) := hD
  refine W.eq (g2 := F0 m 44 ls []) rfl ?_
  refine lv_aload_n hx hb dX7_become_44 rfl (lv_at hl 1 rfl) ?_
  refine g_get (T := TX7) (N := 8) hx hb hts in_X7 hown hK hP 10 rfl rfl 4 (by decide) w4 rfl rfl dX7_become_45 ?_
  refine lv_iconst (v := 0) hx hb dX7_become_48 (by decide) ?_
  refine lv_aload_n hx hb dX7_become_49 rfl (lv_at hl 0 rfl) ?_
  refine g_get (T := TX7) (N := 8) hx hb hts in_X7 hown hK hP 8 rfl rfl 4 (by decide) w4 rfl rfl dX7_become_50 ?_
  refine lv_iconst (v := 0) hx hb dX7_become_53 (by decide) ?_
  refine lv_iconst (v := 4) hx hb dX7_become_54 (by decide) ?_
  refine f_copy hx hb (hml.trans hl.1.symm) hown w5 w6 w7 w8 hK hP hD hS 11 9 rfl rfl hF (Nat.le_of_ble_eq_true rfl) (Nat.le_of_ble_eq_true rfl) dX7_become_55 (fun hF H locs hP hD hS => ?_)
  have hP : va_P E.1 vwCl (bl [Lo_c E (fa 11) (fa 12) (fa 13) (fa 14) (fa 15) (fa 16) q4, Lo_c E (fa2 11) (fa2 12) (fa2 13) (fa2 14) (fa2 15) (fa2 16) (St_Lo v2), Ch_c E (fa 7) (fa 8) (fa 9) (fa 10) q3, Ch_c E (fa2 7) (fa2 8) (fa2 9) (fa2 10) (St_Ch v2), Fl_c E (fa 4) (fa 5) (fa 6) q2, Fl_c E (fa2 4) (fa2 5) (fa2 6) (St_Fl v2), Ci_c E (fa 2) (fa 3) q1, Ci_c E (fa2 2) (fa2 3) (St_Ci v2), [((fa 0), .inr (5, [.ref (fa 2), .ref (fa 4), .ref (fa 7), .ref (fa 11), .ref (fa 1), .int (So_tick (St_So v)), .int (So_clear (St_So v)), .int (So_changesBegun (St_So v))]))], [((fa 1), .inl (E.2.1, 4, .inl (va_cpy (So_spent (St_So v2)) (So_spent (St_So v)) (0 : Int32).toNatClampNeg (0 : Int32).toNatClampNeg (4 : Int32).toNatClampNeg)))], [((fa2 0), .inr (5, [.ref (fa2 2), .ref (fa2 4), .ref (fa2 7), .ref (fa2 11), .ref (fa2 1), .int (So_tick (St_So v2)), .int (So_clear (St_So v2)), .int (So_changesBegun (St_So v2))]))], [((fa2 1), .inl (E.2.1, 4, .inl (So_spent (St_So v2))))]]) H := hP
  have hD : va_D A (bl [Lo_c E (fa 11) (fa 12) (fa 13) (fa 14) (fa 15) (fa 16) q4, Lo_c E (fa2 11) (fa2 12) (fa2 13) (fa2 14) (fa2 15) (fa2 16) (St_Lo v2), Ch_c E (fa 7) (fa 8) (fa 9) (fa 10) q3, Ch_c E (fa2 7) (fa2 8) (fa2 9) (fa2 10) (St_Ch v2), Fl_c E (fa 4) (fa 5) (fa 6) q2, Fl_c E (fa2 4) (fa2 5) (fa2 6) (St_Fl v2), Ci_c E (fa 2) (fa 3) q1, Ci_c E (fa2 2) (fa2 3) (St_Ci v2), [((fa 0), .inr (5, [.ref (fa 2), .ref (fa 4), .ref (fa 7), .ref (fa 11), .ref (fa 1), .int (So_tick (St_So v)), .int (So_clear (St_So v)), .int (So_changesBegun (St_So v))]))], [((fa 1), .inl (E.2.1, 4, .inl (va_cpy (So_spent (St_So v2)) (So_spent (St_So v)) (0 : Int32).toNatClampNeg (0 : Int32).toNatClampNeg (4 : Int32).toNatClampNeg)))], [((fa2 0), .inr (5, [.ref (fa2 2), .ref (fa2 4), .ref (fa2 7), .ref (fa2 11), .ref (fa2 1), .int (So_tick (St_So v2)), .int (So_clear (St_So v2)), .int (So_changesBegun (St_So v2))]))], [((fa2 1), .inl (E.2.1, 4, .inl (So_spent (St_So v2))))]]) := hD
  refine lv_aload_n hx hb dX7_become_58 rfl (lv_at hl 0 rfl) ?_
  refine lv_aload_n hx hb dX7_become_59 rfl (lv_at hl 1 rfl) ?_
  refine g_get (T := TX7) (N := 8) hx hb hts in_X7 hown hK hP 10 rfl rfl 5 (by decide) w9 rfl rfl dX7_become_60 ?_
  refine g_put (T := TX7) (N := 8) hx hb hts in_X7 tyX7 tyX7_ok nmX7 hown hK hP hD hS 8 rfl rfl 5 (by decide) w9 rfl rfl rfl rfl (Nat.le_of_ble_eq_true rfl) dX7_become_63 (fun H locs hP hD hS => ?_)
  have hP : va_P E.1 vwCl (bl [Lo_c E (fa 11) (fa 12) (fa 13) (fa 14) (fa 15) (fa 16) q4, Lo_c E (fa2 11) (fa2 12) (fa2 13) (fa2 14) (fa2 15) (fa2 16) (St_Lo v2), Ch_c E (fa 7) (fa 8) (fa 9) (fa 10) q3, Ch_c E (fa2 7) (fa2 8) (fa2 9) (fa2 10) (St_Ch v2), Fl_c E (fa 4) (fa 5) (fa 6) q2, Fl_c E (fa2 4) (fa2 5) (fa2 6) (St_Fl v2), Ci_c E (fa 2) (fa 3) q1, Ci_c E (fa2 2) (fa2 3) (St_Ci v2), [((fa 0), .inr (5, [.ref (fa 2), .ref (fa 4), .ref (fa 7), .ref (fa 11), .ref (fa 1), .int (So_tick (St_So v2)), .int (So_clear (St_So v)), .int (So_changesBegun (St_So v))]))], [((fa 1), .inl (E.2.1, 4, .inl (va_cpy (So_spent (St_So v2)) (So_spent (St_So v)) (0 : Int32).toNatClampNeg (0 : Int32).toNatClampNeg (4 : Int32).toNatClampNeg)))], [((fa2 0), .inr (5, [.ref (fa2 2), .ref (fa2 4), .ref (fa2 7), .ref (fa2 11), .ref (fa2 1), .int (So_tick (St_So v2)), .int (So_clear (St_So v2)), .int (So_changesBegun (St_So v2))]))], [((fa2 1), .inl (E.2.1, 4, .inl (So_spent (St_So v2))))]]) H := hP
  have hD : va_D A (bl [Lo_c E (fa 11) (fa 12) (fa 13) (fa 14) (fa 15) (fa 16) q4, Lo_c E (fa2 11) (fa2 12) (fa2 13) (fa2 14) (fa2 15) (fa2 16) (St_Lo v2), Ch_c E (fa 7) (fa 8) (fa 9) (fa 10) q3, Ch_c E (fa2 7) (fa2 8) (fa2 9) (fa2 10) (St_Ch v2), Fl_c E (fa 4) (fa 5) (fa 6) q2, Fl_c E (fa2 4) (fa2 5) (fa2 6) (St_Fl v2), Ci_c E (fa 2) (fa 3) q1, Ci_c E (fa2 2) (fa2 3) (St_Ci v2), [((fa 0), .inr (5, [.ref (fa 2), .ref (fa 4), .ref (fa 7), .ref (fa 11), .ref (fa 1), .int (So_tick (St_So v2)), .int (So_clear (St_So v)), .int (So_changesBegun (St_So v))]))], [((fa 1), .inl (E.2.1, 4, .inl (va_cpy (So_spent (St_So v2)) (So_spent (St_So v)) (0 : Int32).toNatClampNeg (0 : Int32).toNatClampNeg (4 : Int32).toNatClampNeg)))], [((fa2 0), .inr (5, [.ref (fa2 2), .ref (fa2 4), .ref (fa2 7), .ref (fa2 11), .ref (fa2 1), .int (So_tick (St_So v2)), .int (So_clear (St_So v2)), .int (So_changesBegun (St_So v2))]))], [((fa2 1), .inl (E.2.1, 4, .inl (So_spent (St_So v2))))]]) := hD
  refine lv_aload_n hx hb dX7_become_66 rfl (lv_at hl 0 rfl) ?_
  refine lv_aload_n hx hb dX7_become_67 rfl (lv_at hl 1 rfl) ?_
  refine g_get (T := TX7) (N := 8) hx hb hts in_X7 hown hK hP 10 rfl rfl 6 (by decide) w10 rfl rfl dX7_become_68 ?_
  refine g_put (T := TX7) (N := 8) hx hb hts in_X7 tyX7 tyX7_ok nmX7 hown hK hP hD hS 8 rfl rfl 6 (by decide) w10 rfl rfl rfl rfl (Nat.le_of_ble_eq_true rfl) dX7_become_71 (fun H locs hP hD hS => ?_)
  have hP : va_P E.1 vwCl (bl [Lo_c E (fa 11) (fa 12) (fa 13) (fa 14) (fa 15) (fa 16) q4, Lo_c E (fa2 11) (fa2 12) (fa2 13) (fa2 14) (fa2 15) (fa2 16) (St_Lo v2), Ch_c E (fa 7) (fa 8) (fa 9) (fa 10) q3, Ch_c E (fa2 7) (fa2 8) (fa2 9) (fa2 10) (St_Ch v2), Fl_c E (fa 4) (fa 5) (fa 6) q2, Fl_c E (fa2 4) (fa2 5) (fa2 6) (St_Fl v2), Ci_c E (fa 2) (fa 3) q1, Ci_c E (fa2 2) (fa2 3) (St_Ci v2), [((fa 0), .inr (5, [.ref (fa 2), .ref (fa 4), .ref (fa 7), .ref (fa 11), .ref (fa 1), .int (So_tick (St_So v2)), .int (So_clear (St_So v2)), .int (So_changesBegun (St_So v))]))], [((fa 1), .inl (E.2.1, 4, .inl (va_cpy (So_spent (St_So v2)) (So_spent (St_So v)) (0 : Int32).toNatClampNeg (0 : Int32).toNatClampNeg (4 : Int32).toNatClampNeg)))], [((fa2 0), .inr (5, [.ref (fa2 2), .ref (fa2 4), .ref (fa2 7), .ref (fa2 11), .ref (fa2 1), .int (So_tick (St_So v2)), .int (So_clear (St_So v2)), .int (So_changesBegun (St_So v2))]))], [((fa2 1), .inl (E.2.1, 4, .inl (So_spent (St_So v2))))]]) H := hP
  have hD : va_D A (bl [Lo_c E (fa 11) (fa 12) (fa 13) (fa 14) (fa 15) (fa 16) q4, Lo_c E (fa2 11) (fa2 12) (fa2 13) (fa2 14) (fa2 15) (fa2 16) (St_Lo v2), Ch_c E (fa 7) (fa 8) (fa 9) (fa 10) q3, Ch_c E (fa2 7) (fa2 8) (fa2 9) (fa2 10) (St_Ch v2), Fl_c E (fa 4) (fa 5) (fa 6) q2, Fl_c E (fa2 4) (fa2 5) (fa2 6) (St_Fl v2), Ci_c E (fa 2) (fa 3) q1, Ci_c E (fa2 2) (fa2 3) (St_Ci v2), [((fa 0), .inr (5, [.ref (fa 2), .ref (fa 4), .ref (fa 7), .ref (fa 11), .ref (fa 1), .int (So_tick (St_So v2)), .int (So_clear (St_So v2)), .int (So_changesBegun (St_So v))]))], [((fa 1), .inl (E.2.1, 4, .inl (va_cpy (So_spent (St_So v2)) (So_spent (St_So v)) (0 : Int32).toNatClampNeg (0 : Int32).toNatClampNeg (4 : Int32).toNatClampNeg)))], [((fa2 0), .inr (5, [.ref (fa2 2), .ref (fa2 4), .ref (fa2 7), .ref (fa2 11), .ref (fa2 1), .int (So_tick (St_So v2)), .int (So_clear (St_So v2)), .int (So_changesBegun (St_So v2))]))], [((fa2 1), .inl (E.2.1, 4, .inl (So_spent (St_So v2))))]]) := hD
  refine lv_aload_n hx hb dX7_become_74 rfl (lv_at hl 0 rfl) ?_
  refine lv_aload_n hx hb dX7_become_75 rfl (lv_at hl 1 rfl) ?_
  refine g_get (T := TX7) (N := 8) hx hb hts in_X7 hown hK hP 10 rfl rfl 7 (by decide) w11 rfl rfl dX7_become_76 ?_
  refine g_put (T := TX7) (N := 8) hx hb hts in_X7 tyX7 tyX7_ok nmX7 hown hK hP hD hS 8 rfl rfl 7 (by decide) w11 rfl rfl rfl rfl (Nat.le_of_ble_eq_true rfl) dX7_become_79 (fun H locs hP hD hS => ?_)
  have hP : va_P E.1 vwCl (bl [Lo_c E (fa 11) (fa 12) (fa 13) (fa 14) (fa 15) (fa 16) q4, Lo_c E (fa2 11) (fa2 12) (fa2 13) (fa2 14) (fa2 15) (fa2 16) (St_Lo v2), Ch_c E (fa 7) (fa 8) (fa 9) (fa 10) q3, Ch_c E (fa2 7) (fa2 8) (fa2 9) (fa2 10) (St_Ch v2), Fl_c E (fa 4) (fa 5) (fa 6) q2, Fl_c E (fa2 4) (fa2 5) (fa2 6) (St_Fl v2), Ci_c E (fa 2) (fa 3) q1, Ci_c E (fa2 2) (fa2 3) (St_Ci v2), [((fa 0), .inr (5, [.ref (fa 2), .ref (fa 4), .ref (fa 7), .ref (fa 11), .ref (fa 1), .int (So_tick (St_So v2)), .int (So_clear (St_So v2)), .int (So_changesBegun (St_So v2))]))], [((fa 1), .inl (E.2.1, 4, .inl (va_cpy (So_spent (St_So v2)) (So_spent (St_So v)) (0 : Int32).toNatClampNeg (0 : Int32).toNatClampNeg (4 : Int32).toNatClampNeg)))], [((fa2 0), .inr (5, [.ref (fa2 2), .ref (fa2 4), .ref (fa2 7), .ref (fa2 11), .ref (fa2 1), .int (So_tick (St_So v2)), .int (So_clear (St_So v2)), .int (So_changesBegun (St_So v2))]))], [((fa2 1), .inl (E.2.1, 4, .inl (So_spent (St_So v2))))]]) H := hP
  have hD : va_D A (bl [Lo_c E (fa 11) (fa 12) (fa 13) (fa 14) (fa 15) (fa 16) q4, Lo_c E (fa2 11) (fa2 12) (fa2 13) (fa2 14) (fa2 15) (fa2 16) (St_Lo v2), Ch_c E (fa 7) (fa 8) (fa 9) (fa 10) q3, Ch_c E (fa2 7) (fa2 8) (fa2 9) (fa2 10) (St_Ch v2), Fl_c E (fa 4) (fa 5) (fa 6) q2, Fl_c E (fa2 4) (fa2 5) (fa2 6) (St_Fl v2), Ci_c E (fa 2) (fa 3) q1, Ci_c E (fa2 2) (fa2 3) (St_Ci v2), [((fa 0), .inr (5, [.ref (fa 2), .ref (fa 4), .ref (fa 7), .ref (fa 11), .ref (fa 1), .int (So_tick (St_So v2)), .int (So_clear (St_So v2)), .int (So_changesBegun (St_So v2))]))], [((fa 1), .inl (E.2.1, 4, .inl (va_cpy (So_spent (St_So v2)) (So_spent (St_So v)) (0 : Int32).toNatClampNeg (0 : Int32).toNatClampNeg (4 : Int32).toNatClampNeg)))], [((fa2 0), .inr (5, [.ref (fa2 2), .ref (fa2 4), .ref (fa2 7), .ref (fa2 11), .ref (fa2 1), .int (So_tick (St_So v2)), .int (So_clear (St_So v2)), .int (So_changesBegun (St_So v2))]))], [((fa2 1), .inl (E.2.1, 4, .inl (So_spent (St_So v2))))]]) := hD
  exact g_vret (rvf := fun z => none) (W1f := fun z => bl [St_c E fa z, St_c E fa2 v2]) hx hb hr hlocks hQ hF rfl hP hD hS [8, 9, 6, 4, 2, 0, 10, 11, 7, 5, 3, 1] rfl rfl dX7_become_82
def F_X7_ticksOf (v : StV) (p0 : Int32) : Option (Int32) := if p0 < 0 then some 0 else if 4 ≤ p0 then some 0 else chk p0 4 (some ((So_spent (St_So v)) p0.toNatClampNeg))
set_option maxHeartbeats 4000000 in
set_option maxRecDepth 100000 in
theorem c_X7_ticksOf (l : Launch) (E : GE) (fa : Nat → Nat) (v : StV) (p0 : Int32) (r : Int32) (hF : F_X7_ticksOf v p0 = some r) : CT l E yX7_ticksOf wsX7_ticksOf ({ frames := 0, cells := 0, slots := 0, locals := 0 } : Room) [.ref (fa 0), .int p0] (bl [St_c E fa v]) (some (.int r)) (bl [St_c E fa v]) 0 0 := by
  refine CT.of (cc := cX7_ticksOf) (maxL := 2) (ret := (some .int)) (by decide) rfl (Nat.le_of_ble_eq_true rfl) ?_
  intro p e s m args below meth cd A Q ls B hQ hP hD hS hl
  obtain ⟨hx, hb, hml, hown, hts, hr, hlocks, hK, hZ, hA, hnm⟩ := B
  have hown : s.vm.findClass RX7 = some m.cls := hown
  have hl : lv_has ls 2 [(0, .ref (fa 0)), (1, .int p0)] := hl
  have w0 := hts (.fieldLink RX7 37 "HarborLight$State" "spent" "[I") (by decide +kernel)
  have in_X7 : ∀ w ∈ wsX70, w ∈ wsX7_ticksOf := by decide +kernel
  have hP : va_P E.1 vwCl (bl [[((fa 0), .inr (5, [.ref (fa 2), .ref (fa 4), .ref (fa 7), .ref (fa 11), .ref (fa 1), .int (So_tick (St_So v)), .int (So_clear (St_So v)), .int (So_changesBegun (St_So v))]))], [((fa 1), .inl (E.2.1, 4, .inl (So_spent (St_So v))))], Ci_c E (fa 2) (fa 3) (St_Ci v), Fl_c E (fa 4) (fa 5) (fa 6) (St_Fl v), Ch_c E (fa 7) (fa 8) (fa 9) (fa 10) (St_Ch v), Lo_c E (fa 11) (fa 12) (fa 13) (fa 14) (fa 15) (fa 16) (St_Lo v)]) s.heap := hP
  have hD : va_D A (bl [[((fa 0), .inr (5, [.ref (fa 2), .ref (fa 4), .ref (fa 7), .ref (fa 11), .ref (fa 1), .int (So_tick (St_So v)), .int (So_clear (St_So v)), .int (So_changesBegun (St_So v))]))], [((fa 1), .inl (E.2.1, 4, .inl (So_spent (St_So v))))], Ci_c E (fa 2) (fa 3) (St_Ci v), Fl_c E (fa 4) (fa 5) (fa 6) (St_Fl v), Ch_c E (fa 7) (fa 8) (fa 9) (fa 10) (St_Ch v), Lo_c E (fa 11) (fa 12) (fa 13) (fa 14) (fa 15) (fa 16) (St_Lo v)]) := hD
  unfold F_X7_ticksOf at hF
  refine lv_iload_n hx hb dX7_ticksOf_0 rfl (lv_at hl 1 rfl) ?_
  refine f_if_lt (tgt := 18) hx hb dX7_ticksOf_1 (by decide) hF (fun hF => ?_) (fun hF => ?_)
  · refine lv_iconst (v := 0) hx hb dX7_ticksOf_18 (by decide) ?_
    exact g_iret (rvf := fun z => some (.int z)) (W1f := fun z => bl [St_c E fa v]) hx hb hr hlocks hQ hF rfl hP hD hS [0, 1, 2, 3, 4, 5] rfl rfl dX7_ticksOf_19
  · refine lv_iload_n hx hb dX7_ticksOf_4 rfl (lv_at hl 1 rfl) ?_
    refine lv_iconst (v := 4) hx hb dX7_ticksOf_5 (by decide) ?_
    refine f_icmp_ge (tgt := 18) hx hb dX7_ticksOf_6 (by decide) hF (fun hF => ?_) (fun hF => ?_)
    · refine lv_iconst (v := 0) hx hb dX7_ticksOf_18 (by decide) ?_
      exact g_iret (rvf := fun z => some (.int z)) (W1f := fun z => bl [St_c E fa v]) hx hb hr hlocks hQ hF rfl hP hD hS [0, 1, 2, 3, 4, 5] rfl rfl dX7_ticksOf_19
    · refine lv_aload_n hx hb dX7_ticksOf_9 rfl (lv_at hl 0 rfl) ?_
      refine g_get (T := TX7) (N := 8) hx hb hts in_X7 hown hK hP 0 rfl rfl 4 (by decide) w0 rfl rfl dX7_ticksOf_10 ?_
      refine lv_iload_n hx hb dX7_ticksOf_13 rfl (lv_at hl 1 rfl) ?_
      refine f_iald hx hb hK hP 1 rfl hF dX7_ticksOf_14 (fun hF => ?_)
      refine lv_goto (tgt := 19) hx hb dX7_ticksOf_15 (by decide) ?_
      exact g_iret (rvf := fun z => some (.int z)) (W1f := fun z => bl [St_c E fa v]) hx hb hr hlocks hQ hF rfl hP hD hS [0, 1, 2, 3, 4, 5] rfl rfl dX7_ticksOf_19
def F_X7_goOn_J20 (n : Nat) (u : StV) : Option (Int32 × StV) := (F_X4_isLitAt n (St_Fl u) (So_tick (St_So u))).bind fun q2 => (F_X1_spend (St_Ch u) (So_tick (St_So u)) q2).bind fun q3 => if q3.1 < 0 then some (q3.1, (St_mk (So_mk (So_spent (St_So u)) ((So_tick (St_So u)) + 1) (So_clear (St_So u)) (So_changesBegun (St_So u))) (St_Ci u) (St_Fl u) q3.2 (St_Lo u))) else if 4 ≤ q3.1 then some (q3.1, (St_mk (So_mk (So_spent (St_So u)) ((So_tick (St_So u)) + 1) (So_clear (St_So u)) (So_changesBegun (St_So u))) (St_Ci u) (St_Fl u) q3.2 (St_Lo u))) else chk q3.1 4 (chk q3.1 4 (some (q3.1, (St_mk (So_mk (upd (So_spent (St_So u)) q3.1.toNatClampNeg (((So_spent (St_So u)) q3.1.toNatClampNeg) + 1)) ((So_tick (St_So u)) + 1) (So_clear (St_So u)) (So_changesBegun (St_So u))) (St_Ci u) (St_Fl u) q3.2 (St_Lo u)))))
def F_X7_goOn (n : Nat) (v : StV) : Option (Int32 × StV) := (F_X1_beginsChange n (St_Ch v)).bind fun q1 => if q1.1 = 0 then F_X7_goOn_J20 n (St_mk (St_So v) (St_Ci v) (St_Fl v) q1.2 (St_Lo v)) else F_X7_goOn_J20 n (St_mk (So_mk (So_spent (St_So v)) (So_tick (St_So v)) (So_clear (St_So v)) ((So_changesBegun (St_So v)) + 1)) (St_Ci v) (St_Fl v) q1.2 (St_Lo v))
set_option maxHeartbeats 4000000 in
set_option maxRecDepth 100000 in
theorem c_X7_goOn (l : Launch) (E : GE) (fa : Nat → Nat) (n : Nat) (v : StV) (r : Int32 × StV) (hF : F_X7_goOn n v = some r) : CT l E yX7_goOn wsX7_goOn ({ frames := 3, cells := 0, slots := 0, locals := 63 } : Room) [.ref (fa 0)] (bl [St_c E fa v]) (some (.int r.1)) (bl [St_c E fa r.2]) 0 0 := by
  refine CT.of (cc := cX7_goOn) (maxL := 2) (ret := (some .int)) (by decide) rfl (Nat.le_of_ble_eq_true rfl) ?_
  intro p e s m args below meth cd A Q ls B hQ hP hD hS hl
  obtain ⟨hx, hb, hml, hown, hts, hr, hlocks, hK, hZ, hA, hnm⟩ := B
  have hown : s.vm.findClass RX7 = some m.cls := hown
  have hl : lv_has ls 2 [(0, .ref (fa 0))] := hl
  have w0 := hts (.fieldLink RX7 26 "HarborLight$State" "changer" "LHarborLight$Changer;") (by decide +kernel)
  have w1 := hts (.fieldLink RX7 64 "HarborLight$State" "tick" "I") (by decide +kernel)
  have w2 := hts (.fieldLink RX7 19 "HarborLight$State" "flash" "LHarborLight$FlashCode;") (by decide +kernel)
  have w3 := hts (.fieldLink RX7 37 "HarborLight$State" "spent" "[I") (by decide +kernel)
  have w4 := hts (.fieldLink RX7 67 "HarborLight$State" "changesBegun" "I") (by decide +kernel)
  have in_X7 : ∀ w ∈ wsX70, w ∈ wsX7_goOn := by decide +kernel
  have hP : va_P E.1 vwCl (bl [[((fa 0), .inr (5, [.ref (fa 2), .ref (fa 4), .ref (fa 7), .ref (fa 11), .ref (fa 1), .int (So_tick (St_So v)), .int (So_clear (St_So v)), .int (So_changesBegun (St_So v))]))], [((fa 1), .inl (E.2.1, 4, .inl (So_spent (St_So v))))], Ci_c E (fa 2) (fa 3) (St_Ci v), Fl_c E (fa 4) (fa 5) (fa 6) (St_Fl v), Ch_c E (fa 7) (fa 8) (fa 9) (fa 10) (St_Ch v), Lo_c E (fa 11) (fa 12) (fa 13) (fa 14) (fa 15) (fa 16) (St_Lo v)]) s.heap := hP
  have hD : va_D A (bl [[((fa 0), .inr (5, [.ref (fa 2), .ref (fa 4), .ref (fa 7), .ref (fa 11), .ref (fa 1), .int (So_tick (St_So v)), .int (So_clear (St_So v)), .int (So_changesBegun (St_So v))]))], [((fa 1), .inl (E.2.1, 4, .inl (So_spent (St_So v))))], Ci_c E (fa 2) (fa 3) (St_Ci v), Fl_c E (fa 4) (fa 5) (fa 6) (St_Fl v), Ch_c E (fa 7) (fa 8) (fa 9) (fa 10) (St_Ch v), Lo_c E (fa 11) (fa 12) (fa 13) (fa 14) (fa 15) (fa 16) (St_Lo v)]) := hD
  have hJ20 : ∀ (u : StV) (H : Heap) (locs : List Loc), va_P E.1 vwCl (bl [Ch_c E (fa 7) (fa 8) (fa 9) (fa 10) (St_Ch u), [((fa 0), .inr (5, [.ref (fa 2), .ref (fa 4), .ref (fa 7), .ref (fa 11), .ref (fa 1), .int (So_tick (St_So u)), .int (So_clear (St_So u)), .int (So_changesBegun (St_So u))]))], [((fa 1), .inl (E.2.1, 4, .inl (So_spent (St_So u))))], Ci_c E (fa 2) (fa 3) (St_Ci u), Fl_c E (fa 4) (fa 5) (fa 6) (St_Fl u), Lo_c E (fa 11) (fa 12) (fa 13) (fa 14) (fa 15) (fa 16) (St_Lo u)]) H → va_D A (bl [Ch_c E (fa 7) (fa 8) (fa 9) (fa 10) (St_Ch u), [((fa 0), .inr (5, [.ref (fa 2), .ref (fa 4), .ref (fa 7), .ref (fa 11), .ref (fa 1), .int (So_tick (St_So u)), .int (So_clear (St_So u)), .int (So_changesBegun (St_So u))]))], [((fa 1), .inl (E.2.1, 4, .inl (So_spent (St_So u))))], Ci_c E (fa 2) (fa 3) (St_Ci u), Fl_c E (fa 4) (fa 5) (fa 6) (St_Fl u), Lo_c E (fa 11) (fa 12) (fa 13) (fa 14) (fa 15) (fa 16) (St_Lo u)]) → va_S A s.heap H locs → ∀ ls : Array Slot, lv_has ls 2 [(0, .ref (fa 0))] → F_X7_goOn_J20 n u = some r → W p l e ({ frames := 3, cells := 0, slots := 0, locals := 63 } : Room) s m args below meth cd H locs 0 0 Q (F0 m 20 ls []) := by
    intro u H locs hP hD hS ls hl hF
    unfold F_X7_goOn_J20 at hF
    refine lv_aload_n hx hb dX7_goOn_20 rfl (lv_at hl 0 rfl) ?_
    refine g_get (T := TX7) (N := 8) hx hb hts in_X7 hown hK hP 1 rfl rfl 2 (by decide) w0 rfl rfl dX7_goOn_21 ?_
    refine lv_aload_n hx hb dX7_goOn_24 rfl (lv_at hl 0 rfl) ?_
    refine g_get (T := TX7) (N := 8) hx hb hts in_X7 hown hK hP 1 rfl rfl 5 (by decide) w1 rfl rfl dX7_goOn_25 ?_
    refine lv_aload_n hx hb dX7_goOn_28 rfl (lv_at hl 0 rfl) ?_
    refine g_get (T := TX7) (N := 8) hx hb hts in_X7 hown hK hP 1 rfl rfl 1 (by decide) w2 rfl rfl dX7_goOn_29 ?_
    refine lv_aload_n hx hb dX7_goOn_32 rfl (lv_at hl 0 rfl) ?_
    refine g_get (T := TX7) (N := 8) hx hb hts in_X7 hown hK hP 1 rfl rfl 5 (by decide) w1 rfl rfl dX7_goOn_33 ?_
    obtain ⟨q2, h_q2, hF⟩ := bnd_s hF
    refine g_callV (As := [.int (So_tick (St_So u))]) (rest := [.int (So_tick (St_So u)), .ref (fa 7)]) ⟨hx, hb, hml, hown, hts⟩ hK hZ hA (c_X4_isLitAt l E (fa 4) (fa 5) (fa 6) n (St_Fl u) (So_tick (St_So u)) q2 h_q2) (cwV 1 hts gX7_goOn_X4_isLitAt rfl rfl rfl (by decide +kernel) ⟨Nat.le_of_ble_eq_true rfl, Nat.le_of_ble_eq_true rfl⟩) hP hD hS [4] [0, 1, 2, 3, 5] rfl rfl rfl rfl rfl rfl hl.1 rfl (Nat.le_of_ble_eq_true rfl) dX7_goOn_36 ⟨Nat.le_of_ble_eq_true rfl, Nat.le_of_ble_eq_true rfl⟩ (fun H locs hP hD hS => ?_)
    have hP : va_P E.1 vwCl (bl [Fl_c E (fa 4) (fa 5) (fa 6) (St_Fl u), Ch_c E (fa 7) (fa 8) (fa 9) (fa 10) (St_Ch u), [((fa 0), .inr (5, [.ref (fa 2), .ref (fa 4), .ref (fa 7), .ref (fa 11), .ref (fa 1), .int (So_tick (St_So u)), .int (So_clear (St_So u)), .int (So_changesBegun (St_So u))]))], [((fa 1), .inl (E.2.1, 4, .inl (So_spent (St_So u))))], Ci_c E (fa 2) (fa 3) (St_Ci u), Lo_c E (fa 11) (fa 12) (fa 13) (fa 14) (fa 15) (fa 16) (St_Lo u)]) H := hP
    have hD : va_D A (bl [Fl_c E (fa 4) (fa 5) (fa 6) (St_Fl u), Ch_c E (fa 7) (fa 8) (fa 9) (fa 10) (St_Ch u), [((fa 0), .inr (5, [.ref (fa 2), .ref (fa 4), .ref (fa 7), .ref (fa 11), .ref (fa 1), .int (So_tick (St_So u)), .int (So_clear (St_So u)), .int (So_changesBegun (St_So u))]))], [((fa 1), .inl (E.2.1, 4, .inl (So_spent (St_So u))))], Ci_c E (fa 2) (fa 3) (St_Ci u), Lo_c E (fa 11) (fa 12) (fa 13) (fa 14) (fa 15) (fa 16) (St_Lo u)]) := hD
    refine W.eq (g2 := F0 m 39 ls [.int q2, .int (So_tick (St_So u)), .ref (fa 7)]) rfl ?_
    obtain ⟨q3, h_q3, hF⟩ := bnd_s hF
    refine g_callV (As := [.int (So_tick (St_So u)), .int q2]) (rest := []) ⟨hx, hb, hml, hown, hts⟩ hK hZ hA (c_X1_spend l E (fa 7) (fa 8) (fa 9) (fa 10) (St_Ch u) (So_tick (St_So u)) q2 q3 h_q3) (cwV 2 hts gX7_goOn_X1_spend rfl rfl rfl (by decide +kernel) ⟨Nat.le_of_ble_eq_true rfl, Nat.le_of_ble_eq_true rfl⟩) hP hD hS [1] [0, 2, 3, 4, 5] rfl rfl rfl rfl rfl rfl hl.1 rfl (Nat.le_of_ble_eq_true rfl) dX7_goOn_39 ⟨Nat.le_of_ble_eq_true rfl, Nat.le_of_ble_eq_true rfl⟩ (fun H locs hP hD hS => ?_)
    have hP : va_P E.1 vwCl (bl [Ch_c E (fa 7) (fa 8) (fa 9) (fa 10) q3.2, Fl_c E (fa 4) (fa 5) (fa 6) (St_Fl u), [((fa 0), .inr (5, [.ref (fa 2), .ref (fa 4), .ref (fa 7), .ref (fa 11), .ref (fa 1), .int (So_tick (St_So u)), .int (So_clear (St_So u)), .int (So_changesBegun (St_So u))]))], [((fa 1), .inl (E.2.1, 4, .inl (So_spent (St_So u))))], Ci_c E (fa 2) (fa 3) (St_Ci u), Lo_c E (fa 11) (fa 12) (fa 13) (fa 14) (fa 15) (fa 16) (St_Lo u)]) H := hP
    have hD : va_D A (bl [Ch_c E (fa 7) (fa 8) (fa 9) (fa 10) q3.2, Fl_c E (fa 4) (fa 5) (fa 6) (St_Fl u), [((fa 0), .inr (5, [.ref (fa 2), .ref (fa 4), .ref (fa 7), .ref (fa 11), .ref (fa 1), .int (So_tick (St_So u)), .int (So_clear (St_So u)), .int (So_changesBegun (St_So u))]))], [((fa 1), .inl (E.2.1, 4, .inl (So_spent (St_So u))))], Ci_c E (fa 2) (fa 3) (St_Ci u), Lo_c E (fa 11) (fa 12) (fa 13) (fa 14) (fa 15) (fa 16) (St_Lo u)]) := hD
    refine W.eq (g2 := F0 m 42 ls [.int q3.1]) rfl ?_
    refine lv_istore_n (lv' := [(1, .int q3.1), (0, .ref (fa 0))]) hx hb dX7_goOn_42 rfl hl (by decide) rfl (fun ls hl => ?_)
    refine lv_iload_n hx hb dX7_goOn_43 rfl (lv_at hl 0 rfl) ?_
    refine f_if_lt (tgt := 62) hx hb dX7_goOn_44 (by decide) hF (fun hF => ?_) (fun hF => ?_)
    · refine lv_aload_n hx hb dX7_goOn_62 rfl (lv_at hl 1 rfl) ?_
      refine lv_dup hx hb dX7_goOn_63 rfl ?_
      refine g_get (T := TX7) (N := 8) hx hb hts in_X7 hown hK hP 2 rfl rfl 5 (by decide) w1 rfl rfl dX7_goOn_64 ?_
      refine lv_iconst (v := 1) hx hb dX7_goOn_67 (by decide) ?_
      refine lv_iadd hx hb dX7_goOn_68 ?_
      refine g_put (T := TX7) (N := 8) hx hb hts in_X7 tyX7 tyX7_ok nmX7 hown hK hP hD hS 2 rfl rfl 5 (by decide) w1 rfl rfl rfl rfl (Nat.le_of_ble_eq_true rfl) dX7_goOn_69 (fun H locs hP hD hS => ?_)
      have hP : va_P E.1 vwCl (bl [Ch_c E (fa 7) (fa 8) (fa 9) (fa 10) q3.2, Fl_c E (fa 4) (fa 5) (fa 6) (St_Fl u), [((fa 0), .inr (5, [.ref (fa 2), .ref (fa 4), .ref (fa 7), .ref (fa 11), .ref (fa 1), .int ((So_tick (St_So u)) + 1), .int (So_clear (St_So u)), .int (So_changesBegun (St_So u))]))], [((fa 1), .inl (E.2.1, 4, .inl (So_spent (St_So u))))], Ci_c E (fa 2) (fa 3) (St_Ci u), Lo_c E (fa 11) (fa 12) (fa 13) (fa 14) (fa 15) (fa 16) (St_Lo u)]) H := hP
      have hD : va_D A (bl [Ch_c E (fa 7) (fa 8) (fa 9) (fa 10) q3.2, Fl_c E (fa 4) (fa 5) (fa 6) (St_Fl u), [((fa 0), .inr (5, [.ref (fa 2), .ref (fa 4), .ref (fa 7), .ref (fa 11), .ref (fa 1), .int ((So_tick (St_So u)) + 1), .int (So_clear (St_So u)), .int (So_changesBegun (St_So u))]))], [((fa 1), .inl (E.2.1, 4, .inl (So_spent (St_So u))))], Ci_c E (fa 2) (fa 3) (St_Ci u), Lo_c E (fa 11) (fa 12) (fa 13) (fa 14) (fa 15) (fa 16) (St_Lo u)]) := hD
      refine lv_iload_n hx hb dX7_goOn_72 rfl (lv_at hl 0 rfl) ?_
      exact g_iret (rvf := fun z => some (.int z.1)) (W1f := fun z => bl [St_c E fa z.2]) hx hb hr hlocks hQ hF rfl hP hD hS [2, 3, 4, 1, 0, 5] rfl rfl dX7_goOn_73
    · refine lv_iload_n hx hb dX7_goOn_47 rfl (lv_at hl 0 rfl) ?_
      refine lv_iconst (v := 4) hx hb dX7_goOn_48 (by decide) ?_
      refine f_icmp_ge (tgt := 62) hx hb dX7_goOn_49 (by decide) hF (fun hF => ?_) (fun hF => ?_)
      · refine lv_aload_n hx hb dX7_goOn_62 rfl (lv_at hl 1 rfl) ?_
        refine lv_dup hx hb dX7_goOn_63 rfl ?_
        refine g_get (T := TX7) (N := 8) hx hb hts in_X7 hown hK hP 2 rfl rfl 5 (by decide) w1 rfl rfl dX7_goOn_64 ?_
        refine lv_iconst (v := 1) hx hb dX7_goOn_67 (by decide) ?_
        refine lv_iadd hx hb dX7_goOn_68 ?_
        refine g_put (T := TX7) (N := 8) hx hb hts in_X7 tyX7 tyX7_ok nmX7 hown hK hP hD hS 2 rfl rfl 5 (by decide) w1 rfl rfl rfl rfl (Nat.le_of_ble_eq_true rfl) dX7_goOn_69 (fun H locs hP hD hS => ?_)
        have hP : va_P E.1 vwCl (bl [Ch_c E (fa 7) (fa 8) (fa 9) (fa 10) q3.2, Fl_c E (fa 4) (fa 5) (fa 6) (St_Fl u), [((fa 0), .inr (5, [.ref (fa 2), .ref (fa 4), .ref (fa 7), .ref (fa 11), .ref (fa 1), .int ((So_tick (St_So u)) + 1), .int (So_clear (St_So u)), .int (So_changesBegun (St_So u))]))], [((fa 1), .inl (E.2.1, 4, .inl (So_spent (St_So u))))], Ci_c E (fa 2) (fa 3) (St_Ci u), Lo_c E (fa 11) (fa 12) (fa 13) (fa 14) (fa 15) (fa 16) (St_Lo u)]) H := hP
        have hD : va_D A (bl [Ch_c E (fa 7) (fa 8) (fa 9) (fa 10) q3.2, Fl_c E (fa 4) (fa 5) (fa 6) (St_Fl u), [((fa 0), .inr (5, [.ref (fa 2), .ref (fa 4), .ref (fa 7), .ref (fa 11), .ref (fa 1), .int ((So_tick (St_So u)) + 1), .int (So_clear (St_So u)), .int (So_changesBegun (St_So u))]))], [((fa 1), .inl (E.2.1, 4, .inl (So_spent (St_So u))))], Ci_c E (fa 2) (fa 3) (St_Ci u), Lo_c E (fa 11) (fa 12) (fa 13) (fa 14) (fa 15) (fa 16) (St_Lo u)]) := hD
        refine lv_iload_n hx hb dX7_goOn_72 rfl (lv_at hl 0 rfl) ?_
        exact g_iret (rvf := fun z => some (.int z.1)) (W1f := fun z => bl [St_c E fa z.2]) hx hb hr hlocks hQ hF rfl hP hD hS [2, 3, 4, 1, 0, 5] rfl rfl dX7_goOn_73
      · refine lv_aload_n hx hb dX7_goOn_52 rfl (lv_at hl 1 rfl) ?_
        refine g_get (T := TX7) (N := 8) hx hb hts in_X7 hown hK hP 2 rfl rfl 4 (by decide) w3 rfl rfl dX7_goOn_53 ?_
        refine lv_iload_n hx hb dX7_goOn_56 rfl (lv_at hl 0 rfl) ?_
        refine lv_dup2_11 hx hb dX7_goOn_57 rfl rfl ?_
        refine f_iald hx hb hK hP 3 rfl hF dX7_goOn_58 (fun hF => ?_)
        refine lv_iconst (v := 1) hx hb dX7_goOn_59 (by decide) ?_
        refine lv_iadd hx hb dX7_goOn_60 ?_
        refine f_iast hx hb hK hP hD hS 3 rfl hF dX7_goOn_61 (fun hF H locs hP hD hS => ?_)
        have hP : va_P E.1 vwCl (bl [Ch_c E (fa 7) (fa 8) (fa 9) (fa 10) q3.2, Fl_c E (fa 4) (fa 5) (fa 6) (St_Fl u), [((fa 0), .inr (5, [.ref (fa 2), .ref (fa 4), .ref (fa 7), .ref (fa 11), .ref (fa 1), .int (So_tick (St_So u)), .int (So_clear (St_So u)), .int (So_changesBegun (St_So u))]))], [((fa 1), .inl (E.2.1, 4, .inl (upd (So_spent (St_So u)) q3.1.toNatClampNeg (((So_spent (St_So u)) q3.1.toNatClampNeg) + 1))))], Ci_c E (fa 2) (fa 3) (St_Ci u), Lo_c E (fa 11) (fa 12) (fa 13) (fa 14) (fa 15) (fa 16) (St_Lo u)]) H := hP
        have hD : va_D A (bl [Ch_c E (fa 7) (fa 8) (fa 9) (fa 10) q3.2, Fl_c E (fa 4) (fa 5) (fa 6) (St_Fl u), [((fa 0), .inr (5, [.ref (fa 2), .ref (fa 4), .ref (fa 7), .ref (fa 11), .ref (fa 1), .int (So_tick (St_So u)), .int (So_clear (St_So u)), .int (So_changesBegun (St_So u))]))], [((fa 1), .inl (E.2.1, 4, .inl (upd (So_spent (St_So u)) q3.1.toNatClampNeg (((So_spent (St_So u)) q3.1.toNatClampNeg) + 1))))], Ci_c E (fa 2) (fa 3) (St_Ci u), Lo_c E (fa 11) (fa 12) (fa 13) (fa 14) (fa 15) (fa 16) (St_Lo u)]) := hD
        refine lv_aload_n hx hb dX7_goOn_62 rfl (lv_at hl 1 rfl) ?_
        refine lv_dup hx hb dX7_goOn_63 rfl ?_
        refine g_get (T := TX7) (N := 8) hx hb hts in_X7 hown hK hP 2 rfl rfl 5 (by decide) w1 rfl rfl dX7_goOn_64 ?_
        refine lv_iconst (v := 1) hx hb dX7_goOn_67 (by decide) ?_
        refine lv_iadd hx hb dX7_goOn_68 ?_
        refine g_put (T := TX7) (N := 8) hx hb hts in_X7 tyX7 tyX7_ok nmX7 hown hK hP hD hS 2 rfl rfl 5 (by decide) w1 rfl rfl rfl rfl (Nat.le_of_ble_eq_true rfl) dX7_goOn_69 (fun H locs hP hD hS => ?_)
        have hP : va_P E.1 vwCl (bl [Ch_c E (fa 7) (fa 8) (fa 9) (fa 10) q3.2, Fl_c E (fa 4) (fa 5) (fa 6) (St_Fl u), [((fa 0), .inr (5, [.ref (fa 2), .ref (fa 4), .ref (fa 7), .ref (fa 11), .ref (fa 1), .int ((So_tick (St_So u)) + 1), .int (So_clear (St_So u)), .int (So_changesBegun (St_So u))]))], [((fa 1), .inl (E.2.1, 4, .inl (upd (So_spent (St_So u)) q3.1.toNatClampNeg (((So_spent (St_So u)) q3.1.toNatClampNeg) + 1))))], Ci_c E (fa 2) (fa 3) (St_Ci u), Lo_c E (fa 11) (fa 12) (fa 13) (fa 14) (fa 15) (fa 16) (St_Lo u)]) H := hP
        have hD : va_D A (bl [Ch_c E (fa 7) (fa 8) (fa 9) (fa 10) q3.2, Fl_c E (fa 4) (fa 5) (fa 6) (St_Fl u), [((fa 0), .inr (5, [.ref (fa 2), .ref (fa 4), .ref (fa 7), .ref (fa 11), .ref (fa 1), .int ((So_tick (St_So u)) + 1), .int (So_clear (St_So u)), .int (So_changesBegun (St_So u))]))], [((fa 1), .inl (E.2.1, 4, .inl (upd (So_spent (St_So u)) q3.1.toNatClampNeg (((So_spent (St_So u)) q3.1.toNatClampNeg) + 1))))], Ci_c E (fa 2) (fa 3) (St_Ci u), Lo_c E (fa 11) (fa 12) (fa 13) (fa 14) (fa 15) (fa 16) (St_Lo u)]) := hD
        refine lv_iload_n hx hb dX7_goOn_72 rfl (lv_at hl 0 rfl) ?_
        exact g_iret (rvf := fun z => some (.int z.1)) (W1f := fun z => bl [St_c E fa z.2]) hx hb hr hlocks hQ hF rfl hP hD hS [2, 3, 4, 1, 0, 5] rfl rfl dX7_goOn_73
  unfold F_X7_goOn at hF
  refine lv_aload_n hx hb dX7_goOn_0 rfl (lv_at hl 0 rfl) ?_
  refine g_get (T := TX7) (N := 8) hx hb hts in_X7 hown hK hP 0 rfl rfl 2 (by decide) w0 rfl rfl dX7_goOn_1 ?_
  obtain ⟨q1, h_q1, hF⟩ := bnd_s hF
  refine g_callV (As := []) (rest := []) ⟨hx, hb, hml, hown, hts⟩ hK hZ hA (c_X1_beginsChange l E (fa 7) (fa 8) (fa 9) (fa 10) n (St_Ch v) q1 h_q1) (cwV 0 hts gX7_goOn_X1_beginsChange rfl rfl rfl (by decide +kernel) ⟨Nat.le_of_ble_eq_true rfl, Nat.le_of_ble_eq_true rfl⟩) hP hD hS [4] [0, 1, 2, 3, 5] rfl rfl rfl rfl rfl rfl hl.1 rfl (Nat.le_of_ble_eq_true rfl) dX7_goOn_4 ⟨Nat.le_of_ble_eq_true rfl, Nat.le_of_ble_eq_true rfl⟩ (fun H locs hP hD hS => ?_)
  have hP : va_P E.1 vwCl (bl [Ch_c E (fa 7) (fa 8) (fa 9) (fa 10) q1.2, [((fa 0), .inr (5, [.ref (fa 2), .ref (fa 4), .ref (fa 7), .ref (fa 11), .ref (fa 1), .int (So_tick (St_So v)), .int (So_clear (St_So v)), .int (So_changesBegun (St_So v))]))], [((fa 1), .inl (E.2.1, 4, .inl (So_spent (St_So v))))], Ci_c E (fa 2) (fa 3) (St_Ci v), Fl_c E (fa 4) (fa 5) (fa 6) (St_Fl v), Lo_c E (fa 11) (fa 12) (fa 13) (fa 14) (fa 15) (fa 16) (St_Lo v)]) H := hP
  have hD : va_D A (bl [Ch_c E (fa 7) (fa 8) (fa 9) (fa 10) q1.2, [((fa 0), .inr (5, [.ref (fa 2), .ref (fa 4), .ref (fa 7), .ref (fa 11), .ref (fa 1), .int (So_tick (St_So v)), .int (So_clear (St_So v)), .int (So_changesBegun (St_So v))]))], [((fa 1), .inl (E.2.1, 4, .inl (So_spent (St_So v))))], Ci_c E (fa 2) (fa 3) (St_Ci v), Fl_c E (fa 4) (fa 5) (fa 6) (St_Fl v), Lo_c E (fa 11) (fa 12) (fa 13) (fa 14) (fa 15) (fa 16) (St_Lo v)]) := hD
  refine W.eq (g2 := F0 m 7 ls [.int q1.1]) rfl ?_
  refine f_if_eq (tgt := 20) hx hb dX7_goOn_7 (by decide) hF (fun hF => ?_) (fun hF => ?_)
  · exact hJ20 (St_mk (St_So v) (St_Ci v) (St_Fl v) q1.2 (St_Lo v)) _ _ hP hD hS _ (lv_sub hl [0] rfl) hF
  · refine lv_aload_n hx hb dX7_goOn_10 rfl (lv_at hl 0 rfl) ?_
    refine lv_dup hx hb dX7_goOn_11 rfl ?_
    refine g_get (T := TX7) (N := 8) hx hb hts in_X7 hown hK hP 1 rfl rfl 7 (by decide) w4 rfl rfl dX7_goOn_12 ?_
    refine lv_iconst (v := 1) hx hb dX7_goOn_15 (by decide) ?_
    refine lv_iadd hx hb dX7_goOn_16 ?_
    refine g_put (T := TX7) (N := 8) hx hb hts in_X7 tyX7 tyX7_ok nmX7 hown hK hP hD hS 1 rfl rfl 7 (by decide) w4 rfl rfl rfl rfl (Nat.le_of_ble_eq_true rfl) dX7_goOn_17 (fun H locs hP hD hS => ?_)
    have hP : va_P E.1 vwCl (bl [Ch_c E (fa 7) (fa 8) (fa 9) (fa 10) q1.2, [((fa 0), .inr (5, [.ref (fa 2), .ref (fa 4), .ref (fa 7), .ref (fa 11), .ref (fa 1), .int (So_tick (St_So v)), .int (So_clear (St_So v)), .int ((So_changesBegun (St_So v)) + 1)]))], [((fa 1), .inl (E.2.1, 4, .inl (So_spent (St_So v))))], Ci_c E (fa 2) (fa 3) (St_Ci v), Fl_c E (fa 4) (fa 5) (fa 6) (St_Fl v), Lo_c E (fa 11) (fa 12) (fa 13) (fa 14) (fa 15) (fa 16) (St_Lo v)]) H := hP
    have hD : va_D A (bl [Ch_c E (fa 7) (fa 8) (fa 9) (fa 10) q1.2, [((fa 0), .inr (5, [.ref (fa 2), .ref (fa 4), .ref (fa 7), .ref (fa 11), .ref (fa 1), .int (So_tick (St_So v)), .int (So_clear (St_So v)), .int ((So_changesBegun (St_So v)) + 1)]))], [((fa 1), .inl (E.2.1, 4, .inl (So_spent (St_So v))))], Ci_c E (fa 2) (fa 3) (St_Ci v), Fl_c E (fa 4) (fa 5) (fa 6) (St_Fl v), Lo_c E (fa 11) (fa 12) (fa 13) (fa 14) (fa 15) (fa 16) (St_Lo v)]) := hD
    exact hJ20 (St_mk (So_mk (So_spent (St_So v)) (So_tick (St_So v)) (So_clear (St_So v)) ((So_changesBegun (St_So v)) + 1)) (St_Ci v) (St_Fl v) q1.2 (St_Lo v)) _ _ hP hD hS _ (lv_sub hl [0] rfl) hF
def F_X7_percentOf (p0 : Int32) : Option (Int32) := if p0 = 1 then some 100 else if p0 = 2 then some 40 else if p0 = 3 then some 55 else some 0
set_option maxHeartbeats 4000000 in
set_option maxRecDepth 100000 in
theorem c_X7_percentOf (l : Launch) (E : GE)  (p0 : Int32) (r : Int32) (hF : F_X7_percentOf p0 = some r) : CT l E yX7_percentOf wsX7_percentOf ({ frames := 0, cells := 0, slots := 0, locals := 0 } : Room) [.int p0] (bl []) (some (.int r)) (bl []) 0 0 := by
  refine CT.of (cc := cX7_percentOf) (maxL := 1) (ret := (some .int)) (by decide) rfl (Nat.le_of_ble_eq_true rfl) ?_
  intro p e s m args below meth cd A Q ls B hQ hP hD hS hl
  obtain ⟨hx, hb, hml, hown, hts, hr, hlocks, hK, hZ, hA, hnm⟩ := B
  have hown : s.vm.findClass RX7 = some m.cls := hown
  have hl : lv_has ls 1 [(0, .int p0)] := hl
  unfold F_X7_percentOf at hF
  refine lv_iload_n hx hb dX7_percentOf_0 rfl (lv_at hl 0 rfl) ?_
  refine f_ite hF (fun q1_ hF => ?_) (fun q1_ hF => ?_)
  · rw [q1_]
    refine lv_tableIn (tgt := 28) hx hb dX7_percentOf_1 (by decide) (by decide) rfl (by decide) ?_
    refine lv_bipush (v := 100) hx hb dX7_percentOf_28 (by decide) ?_
    exact g_iret (rvf := fun z => some (.int z)) (W1f := fun z => bl []) hx hb hr hlocks hQ hF rfl hP hD hS [] rfl rfl dX7_percentOf_30
  refine f_ite hF (fun q2_ hF => ?_) (fun q2_ hF => ?_)
  · rw [q2_]
    refine lv_tableIn (tgt := 31) hx hb dX7_percentOf_1 (by decide) (by decide) rfl (by decide) ?_
    refine lv_bipush (v := 40) hx hb dX7_percentOf_31 (by decide) ?_
    exact g_iret (rvf := fun z => some (.int z)) (W1f := fun z => bl []) hx hb hr hlocks hQ hF rfl hP hD hS [] rfl rfl dX7_percentOf_33
  refine f_ite hF (fun q3_ hF => ?_) (fun q3_ hF => ?_)
  · rw [q3_]
    refine lv_tableIn (tgt := 34) hx hb dX7_percentOf_1 (by decide) (by decide) rfl (by decide) ?_
    refine lv_bipush (v := 55) hx hb dX7_percentOf_34 (by decide) ?_
    exact g_iret (rvf := fun z => some (.int z)) (W1f := fun z => bl []) hx hb hr hlocks hQ hF rfl hP hD hS [] rfl rfl dX7_percentOf_36
  refine lv_tableOut (tgt := 37) hx hb dX7_percentOf_1 (by have t1_ := ne_toInt (z := 1) q1_ (by decide); have t2_ := ne_toInt (z := 2) q2_ (by decide); have t3_ := ne_toInt (z := 3) q3_ (by decide); omega) (by decide) ?_
  refine lv_iconst (v := 0) hx hb dX7_percentOf_37 (by decide) ?_
  exact g_iret (rvf := fun z => some (.int z)) (W1f := fun z => bl []) hx hb hr hlocks hQ hF rfl hP hD hS [] rfl rfl dX7_percentOf_38
def F_X7_rangeOf (v : StV) (p0 : Int32) : Option (UInt32) := (F_X1_brightnessOf (St_Ch v) (Ch_present (St_Ch v))).bind fun q1 => (F_X7_percentOf p0).bind fun q2 => nn32 (FP.fmul (FP.i2f q1) (FP.i2f q2)) (nn32 (FP.fdiv (FP.fmul (FP.i2f q1) (FP.i2f q2)) 1120403456) (nn32 (FP.fmul (FP.fdiv (FP.fmul (FP.i2f q1) (FP.i2f q2)) 1120403456) (FP.i2f (So_clear (St_So v)))) (nn32 (FP.fdiv (FP.fmul (FP.fdiv (FP.fmul (FP.i2f q1) (FP.i2f q2)) 1120403456) (FP.i2f (So_clear (St_So v)))) 1112014848) (some (FP.fdiv (FP.fmul (FP.fdiv (FP.fmul (FP.i2f q1) (FP.i2f q2)) 1120403456) (FP.i2f (So_clear (St_So v)))) 1112014848)))))
set_option maxHeartbeats 4000000 in
set_option maxRecDepth 100000 in
theorem c_X7_rangeOf (l : Launch) (E : GE) (fa : Nat → Nat) (v : StV) (p0 : Int32) (r : UInt32) (hF : F_X7_rangeOf v p0 = some r) : CT l E yX7_rangeOf wsX7_rangeOf ({ frames := 2, cells := 0, slots := 0, locals := 42 } : Room) [.ref (fa 0), .int p0] (bl [St_c E fa v]) (some (.float r)) (bl [St_c E fa v]) 0 0 := by
  refine CT.of (cc := cX7_rangeOf) (maxL := 3) (ret := (some .float)) (by decide) rfl (Nat.le_of_ble_eq_true rfl) ?_
  intro p e s m args below meth cd A Q ls B hQ hP hD hS hl
  obtain ⟨hx, hb, hml, hown, hts, hr, hlocks, hK, hZ, hA, hnm⟩ := B
  have hown : s.vm.findClass RX7 = some m.cls := hown
  have hl : lv_has ls 3 [(0, .ref (fa 0)), (1, .int p0)] := hl
  have w0 := hts (.fieldLink RX7 26 "HarborLight$State" "changer" "LHarborLight$Changer;") (by decide +kernel)
  have w1 := va_Nw.use (A := args) rfl (hZ.2.2.2.2.2.2.1 18 _ rfl)
  have w2 := hts (.constantFloat RX7 121 (1120403456)) (by decide +kernel)
  have w3 := hts (.fieldLink RX7 41 "HarborLight$State" "clear" "I") (by decide +kernel)
  have w4 := hts (.constantFloat RX7 122 (1112014848)) (by decide +kernel)
  have in_X1 : ∀ w ∈ wsX10, w ∈ wsX7_rangeOf := by decide +kernel
  have in_X7 : ∀ w ∈ wsX70, w ∈ wsX7_rangeOf := by decide +kernel
  have hP : va_P E.1 vwCl (bl [[((fa 0), .inr (5, [.ref (fa 2), .ref (fa 4), .ref (fa 7), .ref (fa 11), .ref (fa 1), .int (So_tick (St_So v)), .int (So_clear (St_So v)), .int (So_changesBegun (St_So v))]))], [((fa 1), .inl (E.2.1, 4, .inl (So_spent (St_So v))))], Ci_c E (fa 2) (fa 3) (St_Ci v), Fl_c E (fa 4) (fa 5) (fa 6) (St_Fl v), [((fa 7), .inr (0, [.ref (fa 8), .ref (fa 9), .ref (fa 10), .int (Ch_kind (St_Ch v)), .int (Ch_present (St_Ch v)), .int (Ch_change (St_Ch v)), .int (Ch_changeLeft (St_Ch v))]))], [((fa 8), .inl (E.2.1, 6, .inl (Ch_intensities (St_Ch v))))], [((fa 9), .inl (E.2.1, 6, .inl (Ch_lives (St_Ch v))))], [((fa 10), .inl (E.2.1, 6, .inl (Ch_uses (St_Ch v))))], Lo_c E (fa 11) (fa 12) (fa 13) (fa 14) (fa 15) (fa 16) (St_Lo v)]) s.heap := hP
  have hD : va_D A (bl [[((fa 0), .inr (5, [.ref (fa 2), .ref (fa 4), .ref (fa 7), .ref (fa 11), .ref (fa 1), .int (So_tick (St_So v)), .int (So_clear (St_So v)), .int (So_changesBegun (St_So v))]))], [((fa 1), .inl (E.2.1, 4, .inl (So_spent (St_So v))))], Ci_c E (fa 2) (fa 3) (St_Ci v), Fl_c E (fa 4) (fa 5) (fa 6) (St_Fl v), [((fa 7), .inr (0, [.ref (fa 8), .ref (fa 9), .ref (fa 10), .int (Ch_kind (St_Ch v)), .int (Ch_present (St_Ch v)), .int (Ch_change (St_Ch v)), .int (Ch_changeLeft (St_Ch v))]))], [((fa 8), .inl (E.2.1, 6, .inl (Ch_intensities (St_Ch v))))], [((fa 9), .inl (E.2.1, 6, .inl (Ch_lives (St_Ch v))))], [((fa 10), .inl (E.2.1, 6, .inl (Ch_uses (St_Ch v))))], Lo_c E (fa 11) (fa 12) (fa 13) (fa 14) (fa 15) (fa 16) (St_Lo v)]) := hD
  unfold F_X7_rangeOf at hF
  refine lv_aload_n hx hb dX7_rangeOf_0 rfl (lv_at hl 0 rfl) ?_
  refine g_get (T := TX7) (N := 8) hx hb hts in_X7 hown hK hP 0 rfl rfl 2 (by decide) w0 rfl rfl dX7_rangeOf_1 ?_
  refine lv_aload_n hx hb dX7_rangeOf_4 rfl (lv_at hl 0 rfl) ?_
  refine g_get (T := TX7) (N := 8) hx hb hts in_X7 hown hK hP 0 rfl rfl 2 (by decide) w0 rfl rfl dX7_rangeOf_5 ?_
  refine g_getN (T := TX1) (N := 7) hx hb hts in_X1 hown hK hP 4 rfl rfl 4 (by decide) w1 rfl rfl dX7_rangeOf_8 ?_
  obtain ⟨q1, h_q1, hF⟩ := bnd_s hF
  refine g_callV (As := [.int (Ch_present (St_Ch v))]) (rest := []) ⟨hx, hb, hml, hown, hts⟩ hK hZ hA (c_X1_brightnessOf l E (fa 7) (fa 8) (fa 9) (fa 10) (St_Ch v) (Ch_present (St_Ch v)) q1 h_q1) (cwV 1 hts gX7_rangeOf_X1_brightnessOf rfl rfl rfl (by decide +kernel) ⟨Nat.le_of_ble_eq_true rfl, Nat.le_of_ble_eq_true rfl⟩) hP hD hS [4, 5, 6, 7] [0, 1, 2, 3, 8] rfl rfl rfl rfl rfl rfl hl.1 rfl (Nat.le_of_ble_eq_true rfl) dX7_rangeOf_11 ⟨Nat.le_of_ble_eq_true rfl, Nat.le_of_ble_eq_true rfl⟩ (fun H locs hP hD hS => ?_)
  have hP : va_P E.1 vwCl (bl [[((fa 7), .inr (0, [.ref (fa 8), .ref (fa 9), .ref (fa 10), .int (Ch_kind (St_Ch v)), .int (Ch_present (St_Ch v)), .int (Ch_change (St_Ch v)), .int (Ch_changeLeft (St_Ch v))]))], [((fa 8), .inl (E.2.1, 6, .inl (Ch_intensities (St_Ch v))))], [((fa 9), .inl (E.2.1, 6, .inl (Ch_lives (St_Ch v))))], [((fa 10), .inl (E.2.1, 6, .inl (Ch_uses (St_Ch v))))], [((fa 0), .inr (5, [.ref (fa 2), .ref (fa 4), .ref (fa 7), .ref (fa 11), .ref (fa 1), .int (So_tick (St_So v)), .int (So_clear (St_So v)), .int (So_changesBegun (St_So v))]))], [((fa 1), .inl (E.2.1, 4, .inl (So_spent (St_So v))))], Ci_c E (fa 2) (fa 3) (St_Ci v), Fl_c E (fa 4) (fa 5) (fa 6) (St_Fl v), Lo_c E (fa 11) (fa 12) (fa 13) (fa 14) (fa 15) (fa 16) (St_Lo v)]) H := hP
  have hD : va_D A (bl [[((fa 7), .inr (0, [.ref (fa 8), .ref (fa 9), .ref (fa 10), .int (Ch_kind (St_Ch v)), .int (Ch_present (St_Ch v)), .int (Ch_change (St_Ch v)), .int (Ch_changeLeft (St_Ch v))]))], [((fa 8), .inl (E.2.1, 6, .inl (Ch_intensities (St_Ch v))))], [((fa 9), .inl (E.2.1, 6, .inl (Ch_lives (St_Ch v))))], [((fa 10), .inl (E.2.1, 6, .inl (Ch_uses (St_Ch v))))], [((fa 0), .inr (5, [.ref (fa 2), .ref (fa 4), .ref (fa 7), .ref (fa 11), .ref (fa 1), .int (So_tick (St_So v)), .int (So_clear (St_So v)), .int (So_changesBegun (St_So v))]))], [((fa 1), .inl (E.2.1, 4, .inl (So_spent (St_So v))))], Ci_c E (fa 2) (fa 3) (St_Ci v), Fl_c E (fa 4) (fa 5) (fa 6) (St_Fl v), Lo_c E (fa 11) (fa 12) (fa 13) (fa 14) (fa 15) (fa 16) (St_Lo v)]) := hD
  refine W.eq (g2 := F0 m 14 ls [.int q1]) rfl ?_
  refine lv_istore_n (lv' := [(2, .int q1), (0, .ref (fa 0)), (1, .int p0)]) hx hb dX7_rangeOf_14 rfl hl (by decide) rfl (fun ls hl => ?_)
  refine lv_iload_n hx hb dX7_rangeOf_15 rfl (lv_at hl 0 rfl) ?_
  refine lv_i2f hx hb dX7_rangeOf_16 ?_
  refine lv_iload_n hx hb dX7_rangeOf_17 rfl (lv_at hl 2 rfl) ?_
  obtain ⟨q2, h_q2, hF⟩ := bnd_s hF
  refine g_callS (As := [.int p0]) (rest := [.float (FP.i2f q1)]) ⟨hx, hb, hml, hown, hts⟩ hK hZ hA (c_X7_percentOf l E  p0 q2 h_q2) (va_cwS 1 hts gX7_rangeOf_X7_percentOf rfl rfl rfl (by decide +kernel) ⟨Nat.le_of_ble_eq_true rfl, Nat.le_of_ble_eq_true rfl⟩) hP hD hS [] [0, 1, 2, 3, 4, 5, 6, 7, 8] rfl rfl rfl hl.1 rfl (Nat.le_of_ble_eq_true rfl) dX7_rangeOf_18 ⟨Nat.le_of_ble_eq_true rfl, Nat.le_of_ble_eq_true rfl⟩ (fun H locs hP hD hS => ?_)
  have hP : va_P E.1 vwCl (bl [[((fa 7), .inr (0, [.ref (fa 8), .ref (fa 9), .ref (fa 10), .int (Ch_kind (St_Ch v)), .int (Ch_present (St_Ch v)), .int (Ch_change (St_Ch v)), .int (Ch_changeLeft (St_Ch v))]))], [((fa 8), .inl (E.2.1, 6, .inl (Ch_intensities (St_Ch v))))], [((fa 9), .inl (E.2.1, 6, .inl (Ch_lives (St_Ch v))))], [((fa 10), .inl (E.2.1, 6, .inl (Ch_uses (St_Ch v))))], [((fa 0), .inr (5, [.ref (fa 2), .ref (fa 4), .ref (fa 7), .ref (fa 11), .ref (fa 1), .int (So_tick (St_So v)), .int (So_clear (St_So v)), .int (So_changesBegun (St_So v))]))], [((fa 1), .inl (E.2.1, 4, .inl (So_spent (St_So v))))], Ci_c E (fa 2) (fa 3) (St_Ci v), Fl_c E (fa 4) (fa 5) (fa 6) (St_Fl v), Lo_c E (fa 11) (fa 12) (fa 13) (fa 14) (fa 15) (fa 16) (St_Lo v)]) H := hP
  have hD : va_D A (bl [[((fa 7), .inr (0, [.ref (fa 8), .ref (fa 9), .ref (fa 10), .int (Ch_kind (St_Ch v)), .int (Ch_present (St_Ch v)), .int (Ch_change (St_Ch v)), .int (Ch_changeLeft (St_Ch v))]))], [((fa 8), .inl (E.2.1, 6, .inl (Ch_intensities (St_Ch v))))], [((fa 9), .inl (E.2.1, 6, .inl (Ch_lives (St_Ch v))))], [((fa 10), .inl (E.2.1, 6, .inl (Ch_uses (St_Ch v))))], [((fa 0), .inr (5, [.ref (fa 2), .ref (fa 4), .ref (fa 7), .ref (fa 11), .ref (fa 1), .int (So_tick (St_So v)), .int (So_clear (St_So v)), .int (So_changesBegun (St_So v))]))], [((fa 1), .inl (E.2.1, 4, .inl (So_spent (St_So v))))], Ci_c E (fa 2) (fa 3) (St_Ci v), Fl_c E (fa 4) (fa 5) (fa 6) (St_Fl v), Lo_c E (fa 11) (fa 12) (fa 13) (fa 14) (fa 15) (fa 16) (St_Lo v)]) := hD
  refine W.eq (g2 := F0 m 21 ls [.int q2, .float (FP.i2f q1)]) rfl ?_
  refine lv_i2f hx hb dX7_rangeOf_21 ?_
  refine f_fmul hx hb hF dX7_rangeOf_22 (fun hF => ?_)
  refine lv_ldcf (v := 1120403456) hx hb hown w2 dX7_rangeOf_23 ?_
  refine f_fdiv hx hb hF dX7_rangeOf_25 (fun hF => ?_)
  refine lv_aload_n hx hb dX7_rangeOf_26 rfl (lv_at hl 1 rfl) ?_
  refine g_get (T := TX7) (N := 8) hx hb hts in_X7 hown hK hP 4 rfl rfl 6 (by decide) w3 rfl rfl dX7_rangeOf_27 ?_
  refine lv_i2f hx hb dX7_rangeOf_30 ?_
  refine f_fmul hx hb hF dX7_rangeOf_31 (fun hF => ?_)
  refine lv_ldcf (v := 1112014848) hx hb hown w4 dX7_rangeOf_32 ?_
  refine f_fdiv hx hb hF dX7_rangeOf_34 (fun hF => ?_)
  exact g_fret (rvf := fun z => some (.float z)) (W1f := fun z => bl [St_c E fa v]) hx hb hr hlocks hQ hF rfl hP hD hS [4, 5, 6, 7, 0, 1, 2, 3, 8] rfl rfl dX7_rangeOf_35
def F_X7_isInRange (v : StV) (p0 : Int32) (p1 : Int32) (p2 : Int32) : Option (Int32) := (F_X7_rangeOf v p2).bind fun q1 => nn64 (FP.f2d q1) (nn64 (FP.f2d q1) (nn64 (FP.dmul (FP.f2d q1) (FP.f2d q1)) (if 0 < (Op.cmpValue (FP.dcmp (FP.i2d ((p0 * p0) + (p1 * p1))) (FP.dmul (FP.f2d q1) (FP.f2d q1))) .g) then some 0 else some 1)))
set_option maxHeartbeats 4000000 in
set_option maxRecDepth 100000 in
theorem c_X7_isInRange (l : Launch) (E : GE) (fa : Nat → Nat) (v : StV) (p0 : Int32) (p1 : Int32) (p2 : Int32) (r : Int32) (hF : F_X7_isInRange v p0 p1 p2 = some r) : CT l E yX7_isInRange wsX7_isInRange ({ frames := 3, cells := 0, slots := 0, locals := 64 } : Room) [.ref (fa 0), .int p0, .int p1, .int p2] (bl [St_c E fa v]) (some (.int r)) (bl [St_c E fa v]) 0 0 := by
  refine CT.of (cc := cX7_isInRange) (maxL := 5) (ret := (some .boolean)) (by decide) rfl (Nat.le_of_ble_eq_true rfl) ?_
  intro p e s m args below meth cd A Q ls B hQ hP hD hS hl
  obtain ⟨hx, hb, hml, hown, hts, hr, hlocks, hK, hZ, hA, hnm⟩ := B
  have hown : s.vm.findClass RX7 = some m.cls := hown
  have hl : lv_has ls 5 [(0, .ref (fa 0)), (1, .int p0), (2, .int p1), (3, .int p2)] := hl
  unfold F_X7_isInRange at hF
  refine lv_aload_n hx hb dX7_isInRange_0 rfl (lv_at hl 0 rfl) ?_
  refine lv_iload_n hx hb dX7_isInRange_1 rfl (lv_at hl 3 rfl) ?_
  obtain ⟨q1, h_q1, hF⟩ := bnd_s hF
  refine g_callV (As := [.int p2]) (rest := []) ⟨hx, hb, hml, hown, hts⟩ hK hZ hA (c_X7_rangeOf l E fa v p2 q1 h_q1) (cwV 1 hts gX7_isInRange_X7_rangeOf rfl rfl rfl (by decide +kernel) ⟨Nat.le_of_ble_eq_true rfl, Nat.le_of_ble_eq_true rfl⟩) hP hD hS [0] [] rfl rfl rfl rfl rfl rfl hl.1 rfl (Nat.le_of_ble_eq_true rfl) dX7_isInRange_2 ⟨Nat.le_of_ble_eq_true rfl, Nat.le_of_ble_eq_true rfl⟩ (fun H locs hP hD hS => ?_)
  have hP : va_P E.1 vwCl (bl [St_c E fa v]) H := hP
  have hD : va_D A (bl [St_c E fa v]) := hD
  refine W.eq (g2 := F0 m 5 ls [.float q1]) rfl ?_
  refine lv_fstore (lv' := [(4, .float q1), (0, .ref (fa 0)), (1, .int p0), (2, .int p1), (3, .int p2)]) hx hb dX7_isInRange_5 hl (by decide) rfl (fun ls hl => ?_)
  refine lv_iload_n hx hb dX7_isInRange_7 rfl (lv_at hl 2 rfl) ?_
  refine lv_iload_n hx hb dX7_isInRange_8 rfl (lv_at hl 2 rfl) ?_
  refine lv_imul hx hb dX7_isInRange_9 ?_
  refine lv_iload_n hx hb dX7_isInRange_10 rfl (lv_at hl 3 rfl) ?_
  refine lv_iload_n hx hb dX7_isInRange_11 rfl (lv_at hl 3 rfl) ?_
  refine lv_imul hx hb dX7_isInRange_12 ?_
  refine lv_iadd hx hb dX7_isInRange_13 ?_
  refine lv_i2d hx hb dX7_isInRange_14 ?_
  refine lv_fload hx hb dX7_isInRange_15 (lv_at hl 0 rfl) ?_
  refine f_f2d hx hb hF dX7_isInRange_17 (fun hF => ?_)
  refine lv_fload hx hb dX7_isInRange_18 (lv_at hl 0 rfl) ?_
  refine f_f2d hx hb hF dX7_isInRange_20 (fun hF => ?_)
  refine f_dmul hx hb hF dX7_isInRange_21 (fun hF => ?_)
  refine lv_dcmp hx hb dX7_isInRange_22 ?_
  refine f_if_gt (tgt := 30) hx hb dX7_isInRange_23 (by decide) hF (fun hF => ?_) (fun hF => ?_)
  · refine lv_iconst (v := 0) hx hb dX7_isInRange_30 (by decide) ?_
    exact g_zret (rvf := fun z => some (.int z)) (W1f := fun z => bl [St_c E fa v]) hx hb hr hlocks rfl hQ hF rfl hP hD hS [0] rfl rfl dX7_isInRange_31
  · refine lv_iconst (v := 1) hx hb dX7_isInRange_26 (by decide) ?_
    refine lv_goto (tgt := 31) hx hb dX7_isInRange_27 (by decide) ?_
    exact g_zret (rvf := fun z => some (.int z)) (W1f := fun z => bl [St_c E fa v]) hx hb hr hlocks rfl hQ hF rfl hP hD hS [0] rfl rfl dX7_isInRange_31
def F_X7_shownAt_J14 (n : Nat) (v : StV) (x1 : Int32) (x2 : Int32) : Option (Int32) := (F_X3_byQuarter n x1 x2).bind fun q1 => (F_X2_colorAt (St_Ci v) q1).bind fun q2 => (F_X7_isInRange v x1 x2 q2).bind fun q3 => if q3 = 0 then some 0 else some q2
def F_X7_shownAt (n : Nat) (v : StV) (p0 : Int32) (p1 : Int32) (p2 : Int32) : Option (Int32) := if p2 = 0 then if p0 = 0 then if p1 = 0 then some 0 else F_X7_shownAt_J14 n v p0 p1 else F_X7_shownAt_J14 n v p0 p1 else some 0
set_option maxHeartbeats 4000000 in
set_option maxRecDepth 100000 in
theorem c_X7_shownAt (l : Launch) (E : GE) (fa : Nat → Nat) (n : Nat) (v : StV) (p0 : Int32) (p1 : Int32) (p2 : Int32) (r : Int32) (hF : F_X7_shownAt n v p0 p1 p2 = some r) : CT l E yX7_shownAt wsX7_shownAt ({ frames := 4, cells := 0, slots := 0, locals := 88 } : Room) [.ref (fa 0), .int p0, .int p1, .int p2] (bl [St_c E fa v]) (some (.int r)) (bl [St_c E fa v]) 0 0 := by
  refine CT.of (cc := cX7_shownAt) (maxL := 5) (ret := (some .int)) (by decide) rfl (Nat.le_of_ble_eq_true rfl) ?_
  intro p e s m args below meth cd A Q ls B hQ hP hD hS hl
  obtain ⟨hx, hb, hml, hown, hts, hr, hlocks, hK, hZ, hA, hnm⟩ := B
  have hown : s.vm.findClass RX7 = some m.cls := hown
  have hl : lv_has ls 5 [(0, .ref (fa 0)), (1, .int p0), (2, .int p1), (3, .int p2)] := hl
  have w0 := hts (.fieldLink RX7 10 "HarborLight$State" "circle" "LHarborLight$Circle;") (by decide +kernel)
  have in_X7 : ∀ w ∈ wsX70, w ∈ wsX7_shownAt := by decide +kernel
  have hP : va_P E.1 vwCl (bl [[((fa 0), .inr (5, [.ref (fa 2), .ref (fa 4), .ref (fa 7), .ref (fa 11), .ref (fa 1), .int (So_tick (St_So v)), .int (So_clear (St_So v)), .int (So_changesBegun (St_So v))]))], [((fa 1), .inl (E.2.1, 4, .inl (So_spent (St_So v))))], Ci_c E (fa 2) (fa 3) (St_Ci v), Fl_c E (fa 4) (fa 5) (fa 6) (St_Fl v), Ch_c E (fa 7) (fa 8) (fa 9) (fa 10) (St_Ch v), Lo_c E (fa 11) (fa 12) (fa 13) (fa 14) (fa 15) (fa 16) (St_Lo v)]) s.heap := hP
  have hD : va_D A (bl [[((fa 0), .inr (5, [.ref (fa 2), .ref (fa 4), .ref (fa 7), .ref (fa 11), .ref (fa 1), .int (So_tick (St_So v)), .int (So_clear (St_So v)), .int (So_changesBegun (St_So v))]))], [((fa 1), .inl (E.2.1, 4, .inl (So_spent (St_So v))))], Ci_c E (fa 2) (fa 3) (St_Ci v), Fl_c E (fa 4) (fa 5) (fa 6) (St_Fl v), Ch_c E (fa 7) (fa 8) (fa 9) (fa 10) (St_Ch v), Lo_c E (fa 11) (fa 12) (fa 13) (fa 14) (fa 15) (fa 16) (St_Lo v)]) := hD
  have hJ14 : ∀ (x1 : Int32) (x2 : Int32) (H : Heap) (locs : List Loc), va_P E.1 vwCl (bl [[((fa 0), .inr (5, [.ref (fa 2), .ref (fa 4), .ref (fa 7), .ref (fa 11), .ref (fa 1), .int (So_tick (St_So v)), .int (So_clear (St_So v)), .int (So_changesBegun (St_So v))]))], [((fa 1), .inl (E.2.1, 4, .inl (So_spent (St_So v))))], Ci_c E (fa 2) (fa 3) (St_Ci v), Fl_c E (fa 4) (fa 5) (fa 6) (St_Fl v), Ch_c E (fa 7) (fa 8) (fa 9) (fa 10) (St_Ch v), Lo_c E (fa 11) (fa 12) (fa 13) (fa 14) (fa 15) (fa 16) (St_Lo v)]) H → va_D A (bl [[((fa 0), .inr (5, [.ref (fa 2), .ref (fa 4), .ref (fa 7), .ref (fa 11), .ref (fa 1), .int (So_tick (St_So v)), .int (So_clear (St_So v)), .int (So_changesBegun (St_So v))]))], [((fa 1), .inl (E.2.1, 4, .inl (So_spent (St_So v))))], Ci_c E (fa 2) (fa 3) (St_Ci v), Fl_c E (fa 4) (fa 5) (fa 6) (St_Fl v), Ch_c E (fa 7) (fa 8) (fa 9) (fa 10) (St_Ch v), Lo_c E (fa 11) (fa 12) (fa 13) (fa 14) (fa 15) (fa 16) (St_Lo v)]) → va_S A s.heap H locs → ∀ ls : Array Slot, lv_has ls 5 [(0, .ref (fa 0)), (1, .int x1), (2, .int x2)] → F_X7_shownAt_J14 n v x1 x2 = some r → W p l e ({ frames := 4, cells := 0, slots := 0, locals := 88 } : Room) s m args below meth cd H locs 0 0 Q (F0 m 14 ls []) := by
    intro x1 x2 H locs hP hD hS ls hl hF
    unfold F_X7_shownAt_J14 at hF
    refine lv_aload_n hx hb dX7_shownAt_14 rfl (lv_at hl 0 rfl) ?_
    refine g_get (T := TX7) (N := 8) hx hb hts in_X7 hown hK hP 0 rfl rfl 0 (by decide) w0 rfl rfl dX7_shownAt_15 ?_
    refine lv_iload_n hx hb dX7_shownAt_18 rfl (lv_at hl 1 rfl) ?_
    refine lv_iload_n hx hb dX7_shownAt_19 rfl (lv_at hl 2 rfl) ?_
    obtain ⟨q1, h_q1, hF⟩ := bnd_s hF
    refine g_callS (As := [.int x1, .int x2]) (rest := [.ref (fa 2)]) ⟨hx, hb, hml, hown, hts⟩ hK hZ hA (c_X3_byQuarter l E  n x1 x2 q1 h_q1) (va_cwS 2 hts gX7_shownAt_X3_byQuarter rfl rfl rfl (by decide +kernel) ⟨Nat.le_of_ble_eq_true rfl, Nat.le_of_ble_eq_true rfl⟩) hP hD hS [] [0, 1, 2, 3, 4, 5] rfl rfl rfl hl.1 rfl (Nat.le_of_ble_eq_true rfl) dX7_shownAt_20 ⟨Nat.le_of_ble_eq_true rfl, Nat.le_of_ble_eq_true rfl⟩ (fun H locs hP hD hS => ?_)
    have hP : va_P E.1 vwCl (bl [[((fa 0), .inr (5, [.ref (fa 2), .ref (fa 4), .ref (fa 7), .ref (fa 11), .ref (fa 1), .int (So_tick (St_So v)), .int (So_clear (St_So v)), .int (So_changesBegun (St_So v))]))], [((fa 1), .inl (E.2.1, 4, .inl (So_spent (St_So v))))], Ci_c E (fa 2) (fa 3) (St_Ci v), Fl_c E (fa 4) (fa 5) (fa 6) (St_Fl v), Ch_c E (fa 7) (fa 8) (fa 9) (fa 10) (St_Ch v), Lo_c E (fa 11) (fa 12) (fa 13) (fa 14) (fa 15) (fa 16) (St_Lo v)]) H := hP
    have hD : va_D A (bl [[((fa 0), .inr (5, [.ref (fa 2), .ref (fa 4), .ref (fa 7), .ref (fa 11), .ref (fa 1), .int (So_tick (St_So v)), .int (So_clear (St_So v)), .int (So_changesBegun (St_So v))]))], [((fa 1), .inl (E.2.1, 4, .inl (So_spent (St_So v))))], Ci_c E (fa 2) (fa 3) (St_Ci v), Fl_c E (fa 4) (fa 5) (fa 6) (St_Fl v), Ch_c E (fa 7) (fa 8) (fa 9) (fa 10) (St_Ch v), Lo_c E (fa 11) (fa 12) (fa 13) (fa 14) (fa 15) (fa 16) (St_Lo v)]) := hD
    refine W.eq (g2 := F0 m 23 ls [.int q1, .ref (fa 2)]) rfl ?_
    obtain ⟨q2, h_q2, hF⟩ := bnd_s hF
    refine g_callV (As := [.int q1]) (rest := []) ⟨hx, hb, hml, hown, hts⟩ hK hZ hA (c_X2_colorAt l E (fa 2) (fa 3) (St_Ci v) q1 q2 h_q2) (cwV 1 hts gX7_shownAt_X2_colorAt rfl rfl rfl (by decide +kernel) ⟨Nat.le_of_ble_eq_true rfl, Nat.le_of_ble_eq_true rfl⟩) hP hD hS [2] [0, 1, 3, 4, 5] rfl rfl rfl rfl rfl rfl hl.1 rfl (Nat.le_of_ble_eq_true rfl) dX7_shownAt_23 ⟨Nat.le_of_ble_eq_true rfl, Nat.le_of_ble_eq_true rfl⟩ (fun H locs hP hD hS => ?_)
    have hP : va_P E.1 vwCl (bl [Ci_c E (fa 2) (fa 3) (St_Ci v), [((fa 0), .inr (5, [.ref (fa 2), .ref (fa 4), .ref (fa 7), .ref (fa 11), .ref (fa 1), .int (So_tick (St_So v)), .int (So_clear (St_So v)), .int (So_changesBegun (St_So v))]))], [((fa 1), .inl (E.2.1, 4, .inl (So_spent (St_So v))))], Fl_c E (fa 4) (fa 5) (fa 6) (St_Fl v), Ch_c E (fa 7) (fa 8) (fa 9) (fa 10) (St_Ch v), Lo_c E (fa 11) (fa 12) (fa 13) (fa 14) (fa 15) (fa 16) (St_Lo v)]) H := hP
    have hD : va_D A (bl [Ci_c E (fa 2) (fa 3) (St_Ci v), [((fa 0), .inr (5, [.ref (fa 2), .ref (fa 4), .ref (fa 7), .ref (fa 11), .ref (fa 1), .int (So_tick (St_So v)), .int (So_clear (St_So v)), .int (So_changesBegun (St_So v))]))], [((fa 1), .inl (E.2.1, 4, .inl (So_spent (St_So v))))], Fl_c E (fa 4) (fa 5) (fa 6) (St_Fl v), Ch_c E (fa 7) (fa 8) (fa 9) (fa 10) (St_Ch v), Lo_c E (fa 11) (fa 12) (fa 13) (fa 14) (fa 15) (fa 16) (St_Lo v)]) := hD
    refine W.eq (g2 := F0 m 26 ls [.int q2]) rfl ?_
    refine lv_istore (lv' := [(4, .int q2), (0, .ref (fa 0)), (1, .int x1), (2, .int x2)]) hx hb dX7_shownAt_26 hl (by decide) rfl (fun ls hl => ?_)
    refine lv_aload_n hx hb dX7_shownAt_28 rfl (lv_at hl 1 rfl) ?_
    refine lv_iload_n hx hb dX7_shownAt_29 rfl (lv_at hl 2 rfl) ?_
    refine lv_iload_n hx hb dX7_shownAt_30 rfl (lv_at hl 3 rfl) ?_
    refine lv_iload hx hb dX7_shownAt_31 (lv_at hl 0 rfl) ?_
    obtain ⟨q3, h_q3, hF⟩ := bnd_s hF
    refine g_callV (As := [.int x1, .int x2, .int q2]) (rest := []) ⟨hx, hb, hml, hown, hts⟩ hK hZ hA (c_X7_isInRange l E fa v x1 x2 q2 q3 h_q3) (cwV 3 hts gX7_shownAt_X7_isInRange rfl rfl rfl (by decide +kernel) ⟨Nat.le_of_ble_eq_true rfl, Nat.le_of_ble_eq_true rfl⟩) hP hD hS [1, 2, 0, 3, 4, 5] [] rfl rfl rfl rfl rfl rfl hl.1 rfl (Nat.le_of_ble_eq_true rfl) dX7_shownAt_33 ⟨Nat.le_of_ble_eq_true rfl, Nat.le_of_ble_eq_true rfl⟩ (fun H locs hP hD hS => ?_)
    have hP : va_P E.1 vwCl (bl [[((fa 0), .inr (5, [.ref (fa 2), .ref (fa 4), .ref (fa 7), .ref (fa 11), .ref (fa 1), .int (So_tick (St_So v)), .int (So_clear (St_So v)), .int (So_changesBegun (St_So v))]))], [((fa 1), .inl (E.2.1, 4, .inl (So_spent (St_So v))))], Ci_c E (fa 2) (fa 3) (St_Ci v), Fl_c E (fa 4) (fa 5) (fa 6) (St_Fl v), Ch_c E (fa 7) (fa 8) (fa 9) (fa 10) (St_Ch v), Lo_c E (fa 11) (fa 12) (fa 13) (fa 14) (fa 15) (fa 16) (St_Lo v)]) H := hP
    have hD : va_D A (bl [[((fa 0), .inr (5, [.ref (fa 2), .ref (fa 4), .ref (fa 7), .ref (fa 11), .ref (fa 1), .int (So_tick (St_So v)), .int (So_clear (St_So v)), .int (So_changesBegun (St_So v))]))], [((fa 1), .inl (E.2.1, 4, .inl (So_spent (St_So v))))], Ci_c E (fa 2) (fa 3) (St_Ci v), Fl_c E (fa 4) (fa 5) (fa 6) (St_Fl v), Ch_c E (fa 7) (fa 8) (fa 9) (fa 10) (St_Ch v), Lo_c E (fa 11) (fa 12) (fa 13) (fa 14) (fa 15) (fa 16) (St_Lo v)]) := hD
    refine W.eq (g2 := F0 m 36 ls [.int q3]) rfl ?_
    refine f_if_eq (tgt := 44) hx hb dX7_shownAt_36 (by decide) hF (fun hF => ?_) (fun hF => ?_)
    · refine lv_iconst (v := 0) hx hb dX7_shownAt_44 (by decide) ?_
      exact g_iret (rvf := fun z => some (.int z)) (W1f := fun z => bl [St_c E fa v]) hx hb hr hlocks hQ hF rfl hP hD hS [0, 1, 2, 3, 4, 5] rfl rfl dX7_shownAt_45
    · refine lv_iload hx hb dX7_shownAt_39 (lv_at hl 0 rfl) ?_
      refine lv_goto (tgt := 45) hx hb dX7_shownAt_41 (by decide) ?_
      exact g_iret (rvf := fun z => some (.int z)) (W1f := fun z => bl [St_c E fa v]) hx hb hr hlocks hQ hF rfl hP hD hS [0, 1, 2, 3, 4, 5] rfl rfl dX7_shownAt_45
  unfold F_X7_shownAt at hF
  refine lv_iload_n hx hb dX7_shownAt_0 rfl (lv_at hl 3 rfl) ?_
  refine f_if_ne (tgt := 12) hx hb dX7_shownAt_1 (by decide) hF (fun hF => ?_) (fun hF => ?_)
  · refine lv_iconst (v := 0) hx hb dX7_shownAt_12 (by decide) ?_
    exact g_iret (rvf := fun z => some (.int z)) (W1f := fun z => bl [St_c E fa v]) hx hb hr hlocks hQ hF rfl hP hD hS [0, 1, 2, 3, 4, 5] rfl rfl dX7_shownAt_13
  · refine lv_iload_n hx hb dX7_shownAt_4 rfl (lv_at hl 1 rfl) ?_
    refine f_if_ne (tgt := 14) hx hb dX7_shownAt_5 (by decide) hF (fun hF => ?_) (fun hF => ?_)
    · exact hJ14 p0 p1 _ _ hP hD hS _ (lv_sub hl [0, 1, 2] rfl) hF
    · refine lv_iload_n hx hb dX7_shownAt_8 rfl (lv_at hl 2 rfl) ?_
      refine f_if_ne (tgt := 14) hx hb dX7_shownAt_9 (by decide) hF (fun hF => ?_) (fun hF => ?_)
      · exact hJ14 p0 p1 _ _ hP hD hS _ (lv_sub hl [0, 1, 2] rfl) hF
      · refine lv_iconst (v := 0) hx hb dX7_shownAt_12 (by decide) ?_
        exact g_iret (rvf := fun z => some (.int z)) (W1f := fun z => bl [St_c E fa v]) hx hb hr hlocks hQ hF rfl hP hD hS [0, 1, 2, 3, 4, 5] rfl rfl dX7_shownAt_13
def F_X7_goOnWithShip (n : Nat) (v : StV) (p0 : Int32) (p1 : Int32) (p2 : Int32) : Option (Int32 × StV) := (F_X7_goOn n v).bind fun q1 => (F_X7_shownAt n q1.2 p0 p1 q1.1).bind fun q2 => (F_X6_addShown (St_Lo q1.2) q2).bind fun q3 => if q2 = p2 then some (q2, (St_mk (St_So q1.2) (St_Ci q1.2) (St_Fl q1.2) (St_Ch q1.2) q3)) else (F_X3_byQuarter n p0 p1).bind fun q4 => (F_X6_add q3 ((So_tick (St_So q1.2)) - 1) q2 q4).bind fun q5 => some (q2, (St_mk (St_So q1.2) (St_Ci q1.2) (St_Fl q1.2) (St_Ch q1.2) q5))
set_option maxHeartbeats 4000000 in
set_option maxRecDepth 100000 in
theorem c_X7_goOnWithShip (l : Launch) (E : GE) (fa : Nat → Nat) (n : Nat) (v : StV) (p0 : Int32) (p1 : Int32) (p2 : Int32) (r : Int32 × StV) (hF : F_X7_goOnWithShip n v p0 p1 p2 = some r) : CT l E yX7_goOnWithShip wsX7_goOnWithShip ({ frames := 5, cells := 0, slots := 0, locals := 112 } : Room) [.ref (fa 0), .int p0, .int p1, .int p2] (bl [St_c E fa v]) (some (.int r.1)) (bl [St_c E fa r.2]) 0 0 := by
  refine CT.of (cc := cX7_goOnWithShip) (maxL := 6) (ret := (some .int)) (by decide) rfl (Nat.le_of_ble_eq_true rfl) ?_
  intro p e s m args below meth cd A Q ls B hQ hP hD hS hl
  obtain ⟨hx, hb, hml, hown, hts, hr, hlocks, hK, hZ, hA, hnm⟩ := B
  have hown : s.vm.findClass RX7 = some m.cls := hown
  have hl : lv_has ls 6 [(0, .ref (fa 0)), (1, .int p0), (2, .int p1), (3, .int p2)] := hl
  have w0 := hts (.fieldLink RX7 33 "HarborLight$State" "log" "LHarborLight$Log;") (by decide +kernel)
  have w1 := hts (.fieldLink RX7 64 "HarborLight$State" "tick" "I") (by decide +kernel)
  have in_X7 : ∀ w ∈ wsX70, w ∈ wsX7_goOnWithShip := by decide +kernel
  have hP : va_P E.1 vwCl (bl [[((fa 0), .inr (5, [.ref (fa 2), .ref (fa 4), .ref (fa 7), .ref (fa 11), .ref (fa 1), .int (So_tick (St_So v)), .int (So_clear (St_So v)), .int (So_changesBegun (St_So v))]))], [((fa 1), .inl (E.2.1, 4, .inl (So_spent (St_So v))))], Ci_c E (fa 2) (fa 3) (St_Ci v), Fl_c E (fa 4) (fa 5) (fa 6) (St_Fl v), Ch_c E (fa 7) (fa 8) (fa 9) (fa 10) (St_Ch v), Lo_c E (fa 11) (fa 12) (fa 13) (fa 14) (fa 15) (fa 16) (St_Lo v)]) s.heap := hP
  have hD : va_D A (bl [[((fa 0), .inr (5, [.ref (fa 2), .ref (fa 4), .ref (fa 7), .ref (fa 11), .ref (fa 1), .int (So_tick (St_So v)), .int (So_clear (St_So v)), .int (So_changesBegun (St_So v))]))], [((fa 1), .inl (E.2.1, 4, .inl (So_spent (St_So v))))], Ci_c E (fa 2) (fa 3) (St_Ci v), Fl_c E (fa 4) (fa 5) (fa 6) (St_Fl v), Ch_c E (fa 7) (fa 8) (fa 9) (fa 10) (St_Ch v), Lo_c E (fa 11) (fa 12) (fa 13) (fa 14) (fa 15) (fa 16) (St_Lo v)]) := hD
  unfold F_X7_goOnWithShip at hF
  refine lv_aload_n hx hb dX7_goOnWithShip_0 rfl (lv_at hl 0 rfl) ?_
  obtain ⟨q1, h_q1, hF⟩ := bnd_s hF
  refine g_callV (As := []) (rest := []) ⟨hx, hb, hml, hown, hts⟩ hK hZ hA (c_X7_goOn l E fa n v q1 h_q1) (cwV 0 hts gX7_goOnWithShip_X7_goOn rfl rfl rfl (by decide +kernel) ⟨Nat.le_of_ble_eq_true rfl, Nat.le_of_ble_eq_true rfl⟩) hP hD hS [0, 1, 2, 3, 4, 5] [] rfl rfl rfl rfl rfl rfl hl.1 rfl (Nat.le_of_ble_eq_true rfl) dX7_goOnWithShip_1 ⟨Nat.le_of_ble_eq_true rfl, Nat.le_of_ble_eq_true rfl⟩ (fun H locs hP hD hS => ?_)
  have hP : va_P E.1 vwCl (bl [[((fa 0), .inr (5, [.ref (fa 2), .ref (fa 4), .ref (fa 7), .ref (fa 11), .ref (fa 1), .int (So_tick (St_So q1.2)), .int (So_clear (St_So q1.2)), .int (So_changesBegun (St_So q1.2))]))], [((fa 1), .inl (E.2.1, 4, .inl (So_spent (St_So q1.2))))], Ci_c E (fa 2) (fa 3) (St_Ci q1.2), Fl_c E (fa 4) (fa 5) (fa 6) (St_Fl q1.2), Ch_c E (fa 7) (fa 8) (fa 9) (fa 10) (St_Ch q1.2), Lo_c E (fa 11) (fa 12) (fa 13) (fa 14) (fa 15) (fa 16) (St_Lo q1.2)]) H := hP
  have hD : va_D A (bl [[((fa 0), .inr (5, [.ref (fa 2), .ref (fa 4), .ref (fa 7), .ref (fa 11), .ref (fa 1), .int (So_tick (St_So q1.2)), .int (So_clear (St_So q1.2)), .int (So_changesBegun (St_So q1.2))]))], [((fa 1), .inl (E.2.1, 4, .inl (So_spent (St_So q1.2))))], Ci_c E (fa 2) (fa 3) (St_Ci q1.2), Fl_c E (fa 4) (fa 5) (fa 6) (St_Fl q1.2), Ch_c E (fa 7) (fa 8) (fa 9) (fa 10) (St_Ch q1.2), Lo_c E (fa 11) (fa 12) (fa 13) (fa 14) (fa 15) (fa 16) (St_Lo q1.2)]) := hD
  refine W.eq (g2 := F0 m 4 ls [.int q1.1]) rfl ?_
  refine lv_istore (lv' := [(4, .int q1.1), (0, .ref (fa 0)), (1, .int p0), (2, .int p1), (3, .int p2)]) hx hb dX7_goOnWithShip_4 hl (by decide) rfl (fun ls hl => ?_)
  refine lv_aload_n hx hb dX7_goOnWithShip_6 rfl (lv_at hl 1 rfl) ?_
  refine lv_iload_n hx hb dX7_goOnWithShip_7 rfl (lv_at hl 2 rfl) ?_
  refine lv_iload_n hx hb dX7_goOnWithShip_8 rfl (lv_at hl 3 rfl) ?_
  refine lv_iload hx hb dX7_goOnWithShip_9 (lv_at hl 0 rfl) ?_
  obtain ⟨q2, h_q2, hF⟩ := bnd_s hF
  refine g_callV (As := [.int p0, .int p1, .int q1.1]) (rest := []) ⟨hx, hb, hml, hown, hts⟩ hK hZ hA (c_X7_shownAt l E fa n q1.2 p0 p1 q1.1 q2 h_q2) (cwV 3 hts gX7_goOnWithShip_X7_shownAt rfl rfl rfl (by decide +kernel) ⟨Nat.le_of_ble_eq_true rfl, Nat.le_of_ble_eq_true rfl⟩) hP hD hS [0, 1, 2, 3, 4, 5] [] rfl rfl rfl rfl rfl rfl hl.1 rfl (Nat.le_of_ble_eq_true rfl) dX7_goOnWithShip_11 ⟨Nat.le_of_ble_eq_true rfl, Nat.le_of_ble_eq_true rfl⟩ (fun H locs hP hD hS => ?_)
  have hP : va_P E.1 vwCl (bl [[((fa 0), .inr (5, [.ref (fa 2), .ref (fa 4), .ref (fa 7), .ref (fa 11), .ref (fa 1), .int (So_tick (St_So q1.2)), .int (So_clear (St_So q1.2)), .int (So_changesBegun (St_So q1.2))]))], [((fa 1), .inl (E.2.1, 4, .inl (So_spent (St_So q1.2))))], Ci_c E (fa 2) (fa 3) (St_Ci q1.2), Fl_c E (fa 4) (fa 5) (fa 6) (St_Fl q1.2), Ch_c E (fa 7) (fa 8) (fa 9) (fa 10) (St_Ch q1.2), Lo_c E (fa 11) (fa 12) (fa 13) (fa 14) (fa 15) (fa 16) (St_Lo q1.2)]) H := hP
  have hD : va_D A (bl [[((fa 0), .inr (5, [.ref (fa 2), .ref (fa 4), .ref (fa 7), .ref (fa 11), .ref (fa 1), .int (So_tick (St_So q1.2)), .int (So_clear (St_So q1.2)), .int (So_changesBegun (St_So q1.2))]))], [((fa 1), .inl (E.2.1, 4, .inl (So_spent (St_So q1.2))))], Ci_c E (fa 2) (fa 3) (St_Ci q1.2), Fl_c E (fa 4) (fa 5) (fa 6) (St_Fl q1.2), Ch_c E (fa 7) (fa 8) (fa 9) (fa 10) (St_Ch q1.2), Lo_c E (fa 11) (fa 12) (fa 13) (fa 14) (fa 15) (fa 16) (St_Lo q1.2)]) := hD
  refine W.eq (g2 := F0 m 14 ls [.int q2]) rfl ?_
  refine lv_istore (lv' := [(5, .int q2), (4, .int q1.1), (0, .ref (fa 0)), (1, .int p0), (2, .int p1), (3, .int p2)]) hx hb dX7_goOnWithShip_14 hl (by decide) rfl (fun ls hl => ?_)
  refine lv_aload_n hx hb dX7_goOnWithShip_16 rfl (lv_at hl 2 rfl) ?_
  refine g_get (T := TX7) (N := 8) hx hb hts in_X7 hown hK hP 0 rfl rfl 3 (by decide) w0 rfl rfl dX7_goOnWithShip_17 ?_
  refine lv_iload hx hb dX7_goOnWithShip_20 (lv_at hl 0 rfl) ?_
  obtain ⟨q3, h_q3, hF⟩ := bnd_s hF
  refine g_callV (As := [.int q2]) (rest := []) ⟨hx, hb, hml, hown, hts⟩ hK hZ hA (c_X6_addShown l E (fa 11) (fa 12) (fa 13) (fa 14) (fa 15) (fa 16) (St_Lo q1.2) q2 q3 h_q3) (cwV 1 hts gX7_goOnWithShip_X6_addShown rfl rfl rfl (by decide +kernel) ⟨Nat.le_of_ble_eq_true rfl, Nat.le_of_ble_eq_true rfl⟩) hP hD hS [5] [0, 1, 2, 3, 4] rfl rfl rfl rfl rfl rfl hl.1 rfl (Nat.le_of_ble_eq_true rfl) dX7_goOnWithShip_22 ⟨Nat.le_of_ble_eq_true rfl, Nat.le_of_ble_eq_true rfl⟩ (fun H locs hP hD hS => ?_)
  have hP : va_P E.1 vwCl (bl [Lo_c E (fa 11) (fa 12) (fa 13) (fa 14) (fa 15) (fa 16) q3, [((fa 0), .inr (5, [.ref (fa 2), .ref (fa 4), .ref (fa 7), .ref (fa 11), .ref (fa 1), .int (So_tick (St_So q1.2)), .int (So_clear (St_So q1.2)), .int (So_changesBegun (St_So q1.2))]))], [((fa 1), .inl (E.2.1, 4, .inl (So_spent (St_So q1.2))))], Ci_c E (fa 2) (fa 3) (St_Ci q1.2), Fl_c E (fa 4) (fa 5) (fa 6) (St_Fl q1.2), Ch_c E (fa 7) (fa 8) (fa 9) (fa 10) (St_Ch q1.2)]) H := hP
  have hD : va_D A (bl [Lo_c E (fa 11) (fa 12) (fa 13) (fa 14) (fa 15) (fa 16) q3, [((fa 0), .inr (5, [.ref (fa 2), .ref (fa 4), .ref (fa 7), .ref (fa 11), .ref (fa 1), .int (So_tick (St_So q1.2)), .int (So_clear (St_So q1.2)), .int (So_changesBegun (St_So q1.2))]))], [((fa 1), .inl (E.2.1, 4, .inl (So_spent (St_So q1.2))))], Ci_c E (fa 2) (fa 3) (St_Ci q1.2), Fl_c E (fa 4) (fa 5) (fa 6) (St_Fl q1.2), Ch_c E (fa 7) (fa 8) (fa 9) (fa 10) (St_Ch q1.2)]) := hD
  refine W.eq (g2 := F0 m 25 ls []) rfl ?_
  refine lv_iload hx hb dX7_goOnWithShip_25 (lv_at hl 0 rfl) ?_
  refine lv_iload_n hx hb dX7_goOnWithShip_27 rfl (lv_at hl 5 rfl) ?_
  refine f_icmp_eq (tgt := 51) hx hb dX7_goOnWithShip_28 (by decide) hF (fun hF => ?_) (fun hF => ?_)
  · refine lv_iload hx hb dX7_goOnWithShip_51 (lv_at hl 0 rfl) ?_
    exact g_iret (rvf := fun z => some (.int z.1)) (W1f := fun z => bl [St_c E fa z.2]) hx hb hr hlocks hQ hF rfl hP hD hS [1, 2, 3, 4, 5, 0] rfl rfl dX7_goOnWithShip_53
  · refine lv_aload_n hx hb dX7_goOnWithShip_31 rfl (lv_at hl 2 rfl) ?_
    refine g_get (T := TX7) (N := 8) hx hb hts in_X7 hown hK hP 1 rfl rfl 3 (by decide) w0 rfl rfl dX7_goOnWithShip_32 ?_
    refine lv_aload_n hx hb dX7_goOnWithShip_35 rfl (lv_at hl 2 rfl) ?_
    refine g_get (T := TX7) (N := 8) hx hb hts in_X7 hown hK hP 1 rfl rfl 5 (by decide) w1 rfl rfl dX7_goOnWithShip_36 ?_
    refine lv_iconst (v := 1) hx hb dX7_goOnWithShip_39 (by decide) ?_
    refine lv_isub hx hb dX7_goOnWithShip_40 ?_
    refine lv_iload hx hb dX7_goOnWithShip_41 (lv_at hl 0 rfl) ?_
    refine lv_iload_n hx hb dX7_goOnWithShip_43 rfl (lv_at hl 3 rfl) ?_
    refine lv_iload_n hx hb dX7_goOnWithShip_44 rfl (lv_at hl 4 rfl) ?_
    obtain ⟨q4, h_q4, hF⟩ := bnd_s hF
    refine g_callS (As := [.int p0, .int p1]) (rest := [.int q2, .int ((So_tick (St_So q1.2)) - 1), .ref (fa 11)]) ⟨hx, hb, hml, hown, hts⟩ hK hZ hA (c_X3_byQuarter l E  n p0 p1 q4 h_q4) (va_cwS 2 hts gX7_goOnWithShip_X3_byQuarter rfl rfl rfl (by decide +kernel) ⟨Nat.le_of_ble_eq_true rfl, Nat.le_of_ble_eq_true rfl⟩) hP hD hS [] [0, 1, 2, 3, 4, 5] rfl rfl rfl hl.1 rfl (Nat.le_of_ble_eq_true rfl) dX7_goOnWithShip_45 ⟨Nat.le_of_ble_eq_true rfl, Nat.le_of_ble_eq_true rfl⟩ (fun H locs hP hD hS => ?_)
    have hP : va_P E.1 vwCl (bl [Lo_c E (fa 11) (fa 12) (fa 13) (fa 14) (fa 15) (fa 16) q3, [((fa 0), .inr (5, [.ref (fa 2), .ref (fa 4), .ref (fa 7), .ref (fa 11), .ref (fa 1), .int (So_tick (St_So q1.2)), .int (So_clear (St_So q1.2)), .int (So_changesBegun (St_So q1.2))]))], [((fa 1), .inl (E.2.1, 4, .inl (So_spent (St_So q1.2))))], Ci_c E (fa 2) (fa 3) (St_Ci q1.2), Fl_c E (fa 4) (fa 5) (fa 6) (St_Fl q1.2), Ch_c E (fa 7) (fa 8) (fa 9) (fa 10) (St_Ch q1.2)]) H := hP
    have hD : va_D A (bl [Lo_c E (fa 11) (fa 12) (fa 13) (fa 14) (fa 15) (fa 16) q3, [((fa 0), .inr (5, [.ref (fa 2), .ref (fa 4), .ref (fa 7), .ref (fa 11), .ref (fa 1), .int (So_tick (St_So q1.2)), .int (So_clear (St_So q1.2)), .int (So_changesBegun (St_So q1.2))]))], [((fa 1), .inl (E.2.1, 4, .inl (So_spent (St_So q1.2))))], Ci_c E (fa 2) (fa 3) (St_Ci q1.2), Fl_c E (fa 4) (fa 5) (fa 6) (St_Fl q1.2), Ch_c E (fa 7) (fa 8) (fa 9) (fa 10) (St_Ch q1.2)]) := hD
    refine W.eq (g2 := F0 m 48 ls [.int q4, .int q2, .int ((So_tick (St_So q1.2)) - 1), .ref (fa 11)]) rfl ?_
    obtain ⟨q5, h_q5, hF⟩ := bnd_s hF
    refine g_callV (As := [.int ((So_tick (St_So q1.2)) - 1), .int q2, .int q4]) (rest := []) ⟨hx, hb, hml, hown, hts⟩ hK hZ hA (c_X6_add l E (fa 11) (fa 12) (fa 13) (fa 14) (fa 15) (fa 16) q3 ((So_tick (St_So q1.2)) - 1) q2 q4 q5 h_q5) (cwV 3 hts gX7_goOnWithShip_X6_add rfl rfl rfl (by decide +kernel) ⟨Nat.le_of_ble_eq_true rfl, Nat.le_of_ble_eq_true rfl⟩) hP hD hS [0] [1, 2, 3, 4, 5] rfl rfl rfl rfl rfl rfl hl.1 rfl (Nat.le_of_ble_eq_true rfl) dX7_goOnWithShip_48 ⟨Nat.le_of_ble_eq_true rfl, Nat.le_of_ble_eq_true rfl⟩ (fun H locs hP hD hS => ?_)
    have hP : va_P E.1 vwCl (bl [Lo_c E (fa 11) (fa 12) (fa 13) (fa 14) (fa 15) (fa 16) q5, [((fa 0), .inr (5, [.ref (fa 2), .ref (fa 4), .ref (fa 7), .ref (fa 11), .ref (fa 1), .int (So_tick (St_So q1.2)), .int (So_clear (St_So q1.2)), .int (So_changesBegun (St_So q1.2))]))], [((fa 1), .inl (E.2.1, 4, .inl (So_spent (St_So q1.2))))], Ci_c E (fa 2) (fa 3) (St_Ci q1.2), Fl_c E (fa 4) (fa 5) (fa 6) (St_Fl q1.2), Ch_c E (fa 7) (fa 8) (fa 9) (fa 10) (St_Ch q1.2)]) H := hP
    have hD : va_D A (bl [Lo_c E (fa 11) (fa 12) (fa 13) (fa 14) (fa 15) (fa 16) q5, [((fa 0), .inr (5, [.ref (fa 2), .ref (fa 4), .ref (fa 7), .ref (fa 11), .ref (fa 1), .int (So_tick (St_So q1.2)), .int (So_clear (St_So q1.2)), .int (So_changesBegun (St_So q1.2))]))], [((fa 1), .inl (E.2.1, 4, .inl (So_spent (St_So q1.2))))], Ci_c E (fa 2) (fa 3) (St_Ci q1.2), Fl_c E (fa 4) (fa 5) (fa 6) (St_Fl q1.2), Ch_c E (fa 7) (fa 8) (fa 9) (fa 10) (St_Ch q1.2)]) := hD
    refine W.eq (g2 := F0 m 51 ls []) rfl ?_
    refine lv_iload hx hb dX7_goOnWithShip_51 (lv_at hl 0 rfl) ?_
    exact g_iret (rvf := fun z => some (.int z.1)) (W1f := fun z => bl [St_c E fa z.2]) hx hb hr hlocks hQ hF rfl hP hD hS [1, 2, 3, 4, 5, 0] rfl rfl dX7_goOnWithShip_53
