-- X1: printed by wip/whole/parts.py: a pure picture and a contract a method
def F_X1_become (v : ChV) (v2 : ChV) : Option (ChV) := cpk 0 0 6 6 6 (cpk 0 0 6 6 6 (cpk 0 0 6 6 6 (some (Ch_mk (va_cpy (Ch_intensities v2) (Ch_intensities v) (0 : Int32).toNatClampNeg (0 : Int32).toNatClampNeg (6 : Int32).toNatClampNeg) (va_cpy (Ch_lives v2) (Ch_lives v) (0 : Int32).toNatClampNeg (0 : Int32).toNatClampNeg (6 : Int32).toNatClampNeg) (va_cpy (Ch_uses v2) (Ch_uses v) (0 : Int32).toNatClampNeg (0 : Int32).toNatClampNeg (6 : Int32).toNatClampNeg) (Ch_kind v2) (Ch_present v2) (Ch_change v2) (Ch_changeLeft v2)))))
set_option maxHeartbeats 4000000 in
set_option maxRecDepth 100000 in
theorem c_X1_become (l : Launch) (E : GE) (o : Nat) (qa : Nat) (qb : Nat) (qc : Nat) (o2 : Nat) (qa2 : Nat) (qb2 : Nat) (qc2 : Nat) (v : ChV) (v2 : ChV) (r : ChV) (hF : F_X1_become v v2 = some r) : CT l E yX1_become wsX1_become ({ frames := 1, cells := 0, slots := 0, locals := 30 } : Room) [.ref o, .ref o2] (bl [Ch_c E o qa qb qc v, Ch_c E o2 qa2 qb2 qc2 v2]) (none) (bl [Ch_c E o qa qb qc r, Ch_c E o2 qa2 qb2 qc2 v2]) 0 0 := by
  refine CT.of (cc := cX1_become) (maxL := 2) (ret := none) (by decide) rfl (Nat.le_of_ble_eq_true rfl) ?_
  intro p e s m args below meth cd A Q ls B hQ hP hD hS hl
  obtain ⟨hx, hb, hml, hown, hts, hr, hlocks, hK, hZ, hA, hnm⟩ := B
  have hown : s.vm.findClass RX1 = some m.cls := hown
  have hl : lv_has ls 2 [(0, .ref o), (1, .ref o2)] := hl
  have w0 := hts (.fieldLink RX1 11 "HarborLight$Changer" "intensities" "[I") (by decide +kernel)
  have w1 := hts (.methodLink RX1 25 arraycopyName) (by decide +kernel)
  have w2 := hts (.native arraycopyName) (by decide +kernel)
  have w3 := hts (.static arraycopyName) (by decide +kernel)
  have w4 := hts (.initialized "java/lang/System") (by decide +kernel)
  have w5 := hts (.fieldLink RX1 15 "HarborLight$Changer" "lives" "[I") (by decide +kernel)
  have w6 := hts (.fieldLink RX1 18 "HarborLight$Changer" "uses" "[I") (by decide +kernel)
  have w7 := hts (.fieldLink RX1 31 "HarborLight$Changer" "kind" "I") (by decide +kernel)
  have w8 := hts (.fieldLink RX1 34 "HarborLight$Changer" "present" "I") (by decide +kernel)
  have w9 := hts (.fieldLink RX1 21 "HarborLight$Changer" "change" "I") (by decide +kernel)
  have w10 := hts (.fieldLink RX1 37 "HarborLight$Changer" "changeLeft" "I") (by decide +kernel)
  have in_X1 : ∀ w ∈ wsX10, w ∈ wsX1_become := by decide +kernel
  have hP : va_P E.1 vwCl (bl [[(o, .inr (0, [.ref qa, .ref qb, .ref qc, .int (Ch_kind v), .int (Ch_present v), .int (Ch_change v), .int (Ch_changeLeft v)]))], [(qa, .inl (E.2.1, 6, .inl (Ch_intensities v)))], [(qb, .inl (E.2.1, 6, .inl (Ch_lives v)))], [(qc, .inl (E.2.1, 6, .inl (Ch_uses v)))], [(o2, .inr (0, [.ref qa2, .ref qb2, .ref qc2, .int (Ch_kind v2), .int (Ch_present v2), .int (Ch_change v2), .int (Ch_changeLeft v2)]))], [(qa2, .inl (E.2.1, 6, .inl (Ch_intensities v2)))], [(qb2, .inl (E.2.1, 6, .inl (Ch_lives v2)))], [(qc2, .inl (E.2.1, 6, .inl (Ch_uses v2)))]]) s.heap := hP
  have hD : va_D A (bl [[(o, .inr (0, [.ref qa, .ref qb, .ref qc, .int (Ch_kind v), .int (Ch_present v), .int (Ch_change v), .int (Ch_changeLeft v)]))], [(qa, .inl (E.2.1, 6, .inl (Ch_intensities v)))], [(qb, .inl (E.2.1, 6, .inl (Ch_lives v)))], [(qc, .inl (E.2.1, 6, .inl (Ch_uses v)))], [(o2, .inr (0, [.ref qa2, .ref qb2, .ref qc2, .int (Ch_kind v2), .int (Ch_present v2), .int (Ch_change v2), .int (Ch_changeLeft v2)]))], [(qa2, .inl (E.2.1, 6, .inl (Ch_intensities v2)))], [(qb2, .inl (E.2.1, 6, .inl (Ch_lives v2)))], [(qc2, .inl (E.2.1, 6, .inl (Ch_uses v2)))]]) := hD
  unfold F_X1_become at hF
  refine lv_aload_n hx hb dX1_become_0 rfl (lv_at hl 1 rfl) ?_
  refine g_get (T := TX1) (N := 7) hx hb hts in_X1 hown hK hP 4 rfl rfl 0 (by decide) w0 rfl rfl dX1_become_1 ?_
  refine lv_iconst (v := 0) hx hb dX1_become_4 (by decide) ?_
  refine lv_aload_n hx hb dX1_become_5 rfl (lv_at hl 0 rfl) ?_
  refine g_get (T := TX1) (N := 7) hx hb hts in_X1 hown hK hP 0 rfl rfl 0 (by decide) w0 rfl rfl dX1_become_6 ?_
  refine lv_iconst (v := 0) hx hb dX1_become_9 (by decide) ?_
  refine lv_bipush (v := 6) hx hb dX1_become_10 (by decide) ?_
  refine f_copy hx hb (hml.trans hl.1.symm) hown w1 w2 w3 w4 hK hP hD hS 5 1 rfl rfl hF (Nat.le_of_ble_eq_true rfl) (Nat.le_of_ble_eq_true rfl) dX1_become_12 (fun hF H locs hP hD hS => ?_)
  have hP : va_P E.1 vwCl (bl [[(o, .inr (0, [.ref qa, .ref qb, .ref qc, .int (Ch_kind v), .int (Ch_present v), .int (Ch_change v), .int (Ch_changeLeft v)]))], [(qa, .inl (E.2.1, 6, .inl (va_cpy (Ch_intensities v2) (Ch_intensities v) (0 : Int32).toNatClampNeg (0 : Int32).toNatClampNeg (6 : Int32).toNatClampNeg)))], [(qb, .inl (E.2.1, 6, .inl (Ch_lives v)))], [(qc, .inl (E.2.1, 6, .inl (Ch_uses v)))], [(o2, .inr (0, [.ref qa2, .ref qb2, .ref qc2, .int (Ch_kind v2), .int (Ch_present v2), .int (Ch_change v2), .int (Ch_changeLeft v2)]))], [(qa2, .inl (E.2.1, 6, .inl (Ch_intensities v2)))], [(qb2, .inl (E.2.1, 6, .inl (Ch_lives v2)))], [(qc2, .inl (E.2.1, 6, .inl (Ch_uses v2)))]]) H := hP
  have hD : va_D A (bl [[(o, .inr (0, [.ref qa, .ref qb, .ref qc, .int (Ch_kind v), .int (Ch_present v), .int (Ch_change v), .int (Ch_changeLeft v)]))], [(qa, .inl (E.2.1, 6, .inl (va_cpy (Ch_intensities v2) (Ch_intensities v) (0 : Int32).toNatClampNeg (0 : Int32).toNatClampNeg (6 : Int32).toNatClampNeg)))], [(qb, .inl (E.2.1, 6, .inl (Ch_lives v)))], [(qc, .inl (E.2.1, 6, .inl (Ch_uses v)))], [(o2, .inr (0, [.ref qa2, .ref qb2, .ref qc2, .int (Ch_kind v2), .int (Ch_present v2), .int (Ch_change v2), .int (Ch_changeLeft v2)]))], [(qa2, .inl (E.2.1, 6, .inl (Ch_intensities v2)))], [(qb2, .inl (E.2.1, 6, .inl (Ch_lives v2)))], [(qc2, .inl (E.2.1, 6, .inl (Ch_uses v2)))]]) := hD
  refine lv_aload_n hx hb dX1_become_15 rfl (lv_at hl 1 rfl) ?_
  refine g_get (T := TX1) (N := 7) hx hb hts in_X1 hown hK hP 4 rfl rfl 1 (by decide) w5 rfl rfl dX1_become_16 ?_
  refine lv_iconst (v := 0) hx hb dX1_become_19 (by decide) ?_
  refine lv_aload_n hx hb dX1_become_20 rfl (lv_at hl 0 rfl) ?_
  refine g_get (T := TX1) (N := 7) hx hb hts in_X1 hown hK hP 0 rfl rfl 1 (by decide) w5 rfl rfl dX1_become_21 ?_
  refine lv_iconst (v := 0) hx hb dX1_become_24 (by decide) ?_
  refine lv_bipush (v := 6) hx hb dX1_become_25 (by decide) ?_
  refine f_copy hx hb (hml.trans hl.1.symm) hown w1 w2 w3 w4 hK hP hD hS 6 2 rfl rfl hF (Nat.le_of_ble_eq_true rfl) (Nat.le_of_ble_eq_true rfl) dX1_become_27 (fun hF H locs hP hD hS => ?_)
  have hP : va_P E.1 vwCl (bl [[(o, .inr (0, [.ref qa, .ref qb, .ref qc, .int (Ch_kind v), .int (Ch_present v), .int (Ch_change v), .int (Ch_changeLeft v)]))], [(qa, .inl (E.2.1, 6, .inl (va_cpy (Ch_intensities v2) (Ch_intensities v) (0 : Int32).toNatClampNeg (0 : Int32).toNatClampNeg (6 : Int32).toNatClampNeg)))], [(qb, .inl (E.2.1, 6, .inl (va_cpy (Ch_lives v2) (Ch_lives v) (0 : Int32).toNatClampNeg (0 : Int32).toNatClampNeg (6 : Int32).toNatClampNeg)))], [(qc, .inl (E.2.1, 6, .inl (Ch_uses v)))], [(o2, .inr (0, [.ref qa2, .ref qb2, .ref qc2, .int (Ch_kind v2), .int (Ch_present v2), .int (Ch_change v2), .int (Ch_changeLeft v2)]))], [(qa2, .inl (E.2.1, 6, .inl (Ch_intensities v2)))], [(qb2, .inl (E.2.1, 6, .inl (Ch_lives v2)))], [(qc2, .inl (E.2.1, 6, .inl (Ch_uses v2)))]]) H := hP
  have hD : va_D A (bl [[(o, .inr (0, [.ref qa, .ref qb, .ref qc, .int (Ch_kind v), .int (Ch_present v), .int (Ch_change v), .int (Ch_changeLeft v)]))], [(qa, .inl (E.2.1, 6, .inl (va_cpy (Ch_intensities v2) (Ch_intensities v) (0 : Int32).toNatClampNeg (0 : Int32).toNatClampNeg (6 : Int32).toNatClampNeg)))], [(qb, .inl (E.2.1, 6, .inl (va_cpy (Ch_lives v2) (Ch_lives v) (0 : Int32).toNatClampNeg (0 : Int32).toNatClampNeg (6 : Int32).toNatClampNeg)))], [(qc, .inl (E.2.1, 6, .inl (Ch_uses v)))], [(o2, .inr (0, [.ref qa2, .ref qb2, .ref qc2, .int (Ch_kind v2), .int (Ch_present v2), .int (Ch_change v2), .int (Ch_changeLeft v2)]))], [(qa2, .inl (E.2.1, 6, .inl (Ch_intensities v2)))], [(qb2, .inl (E.2.1, 6, .inl (Ch_lives v2)))], [(qc2, .inl (E.2.1, 6, .inl (Ch_uses v2)))]]) := hD
  refine lv_aload_n hx hb dX1_become_30 rfl (lv_at hl 1 rfl) ?_
  refine g_get (T := TX1) (N := 7) hx hb hts in_X1 hown hK hP 4 rfl rfl 2 (by decide) w6 rfl rfl dX1_become_31 ?_
  refine lv_iconst (v := 0) hx hb dX1_become_34 (by decide) ?_
  refine lv_aload_n hx hb dX1_become_35 rfl (lv_at hl 0 rfl) ?_
  refine g_get (T := TX1) (N := 7) hx hb hts in_X1 hown hK hP 0 rfl rfl 2 (by decide) w6 rfl rfl dX1_become_36 ?_
  refine lv_iconst (v := 0) hx hb dX1_become_39 (by decide) ?_
  refine lv_bipush (v := 6) hx hb dX1_become_40 (by decide) ?_
  refine f_copy hx hb (hml.trans hl.1.symm) hown w1 w2 w3 w4 hK hP hD hS 7 3 rfl rfl hF (Nat.le_of_ble_eq_true rfl) (Nat.le_of_ble_eq_true rfl) dX1_become_42 (fun hF H locs hP hD hS => ?_)
  have hP : va_P E.1 vwCl (bl [[(o, .inr (0, [.ref qa, .ref qb, .ref qc, .int (Ch_kind v), .int (Ch_present v), .int (Ch_change v), .int (Ch_changeLeft v)]))], [(qa, .inl (E.2.1, 6, .inl (va_cpy (Ch_intensities v2) (Ch_intensities v) (0 : Int32).toNatClampNeg (0 : Int32).toNatClampNeg (6 : Int32).toNatClampNeg)))], [(qb, .inl (E.2.1, 6, .inl (va_cpy (Ch_lives v2) (Ch_lives v) (0 : Int32).toNatClampNeg (0 : Int32).toNatClampNeg (6 : Int32).toNatClampNeg)))], [(qc, .inl (E.2.1, 6, .inl (va_cpy (Ch_uses v2) (Ch_uses v) (0 : Int32).toNatClampNeg (0 : Int32).toNatClampNeg (6 : Int32).toNatClampNeg)))], [(o2, .inr (0, [.ref qa2, .ref qb2, .ref qc2, .int (Ch_kind v2), .int (Ch_present v2), .int (Ch_change v2), .int (Ch_changeLeft v2)]))], [(qa2, .inl (E.2.1, 6, .inl (Ch_intensities v2)))], [(qb2, .inl (E.2.1, 6, .inl (Ch_lives v2)))], [(qc2, .inl (E.2.1, 6, .inl (Ch_uses v2)))]]) H := hP
  have hD : va_D A (bl [[(o, .inr (0, [.ref qa, .ref qb, .ref qc, .int (Ch_kind v), .int (Ch_present v), .int (Ch_change v), .int (Ch_changeLeft v)]))], [(qa, .inl (E.2.1, 6, .inl (va_cpy (Ch_intensities v2) (Ch_intensities v) (0 : Int32).toNatClampNeg (0 : Int32).toNatClampNeg (6 : Int32).toNatClampNeg)))], [(qb, .inl (E.2.1, 6, .inl (va_cpy (Ch_lives v2) (Ch_lives v) (0 : Int32).toNatClampNeg (0 : Int32).toNatClampNeg (6 : Int32).toNatClampNeg)))], [(qc, .inl (E.2.1, 6, .inl (va_cpy (Ch_uses v2) (Ch_uses v) (0 : Int32).toNatClampNeg (0 : Int32).toNatClampNeg (6 : Int32).toNatClampNeg)))], [(o2, .inr (0, [.ref qa2, .ref qb2, .ref qc2, .int (Ch_kind v2), .int (Ch_present v2), .int (Ch_change v2), .int (Ch_changeLeft v2)]))], [(qa2, .inl (E.2.1, 6, .inl (Ch_intensities v2)))], [(qb2, .inl (E.2.1, 6, .inl (Ch_lives v2)))], [(qc2, .inl (E.2.1, 6, .inl (Ch_uses v2)))]]) := hD
  refine lv_aload_n hx hb dX1_become_45 rfl (lv_at hl 0 rfl) ?_
  refine lv_aload_n hx hb dX1_become_46 rfl (lv_at hl 1 rfl) ?_
  refine g_get (T := TX1) (N := 7) hx hb hts in_X1 hown hK hP 4 rfl rfl 3 (by decide) w7 rfl rfl dX1_become_47 ?_
  refine g_put (T := TX1) (N := 7) hx hb hts in_X1 tyX1 tyX1_ok nmX1 hown hK hP hD hS 0 rfl rfl 3 (by decide) w7 rfl rfl rfl rfl (Nat.le_of_ble_eq_true rfl) dX1_become_50 (fun H locs hP hD hS => ?_)
  have hP : va_P E.1 vwCl (bl [[(o, .inr (0, [.ref qa, .ref qb, .ref qc, .int (Ch_kind v2), .int (Ch_present v), .int (Ch_change v), .int (Ch_changeLeft v)]))], [(qa, .inl (E.2.1, 6, .inl (va_cpy (Ch_intensities v2) (Ch_intensities v) (0 : Int32).toNatClampNeg (0 : Int32).toNatClampNeg (6 : Int32).toNatClampNeg)))], [(qb, .inl (E.2.1, 6, .inl (va_cpy (Ch_lives v2) (Ch_lives v) (0 : Int32).toNatClampNeg (0 : Int32).toNatClampNeg (6 : Int32).toNatClampNeg)))], [(qc, .inl (E.2.1, 6, .inl (va_cpy (Ch_uses v2) (Ch_uses v) (0 : Int32).toNatClampNeg (0 : Int32).toNatClampNeg (6 : Int32).toNatClampNeg)))], [(o2, .inr (0, [.ref qa2, .ref qb2, .ref qc2, .int (Ch_kind v2), .int (Ch_present v2), .int (Ch_change v2), .int (Ch_changeLeft v2)]))], [(qa2, .inl (E.2.1, 6, .inl (Ch_intensities v2)))], [(qb2, .inl (E.2.1, 6, .inl (Ch_lives v2)))], [(qc2, .inl (E.2.1, 6, .inl (Ch_uses v2)))]]) H := hP
  have hD : va_D A (bl [[(o, .inr (0, [.ref qa, .ref qb, .ref qc, .int (Ch_kind v2), .int (Ch_present v), .int (Ch_change v), .int (Ch_changeLeft v)]))], [(qa, .inl (E.2.1, 6, .inl (va_cpy (Ch_intensities v2) (Ch_intensities v) (0 : Int32).toNatClampNeg (0 : Int32).toNatClampNeg (6 : Int32).toNatClampNeg)))], [(qb, .inl (E.2.1, 6, .inl (va_cpy (Ch_lives v2) (Ch_lives v) (0 : Int32).toNatClampNeg (0 : Int32).toNatClampNeg (6 : Int32).toNatClampNeg)))], [(qc, .inl (E.2.1, 6, .inl (va_cpy (Ch_uses v2) (Ch_uses v) (0 : Int32).toNatClampNeg (0 : Int32).toNatClampNeg (6 : Int32).toNatClampNeg)))], [(o2, .inr (0, [.ref qa2, .ref qb2, .ref qc2, .int (Ch_kind v2), .int (Ch_present v2), .int (Ch_change v2), .int (Ch_changeLeft v2)]))], [(qa2, .inl (E.2.1, 6, .inl (Ch_intensities v2)))], [(qb2, .inl (E.2.1, 6, .inl (Ch_lives v2)))], [(qc2, .inl (E.2.1, 6, .inl (Ch_uses v2)))]]) := hD
  refine lv_aload_n hx hb dX1_become_53 rfl (lv_at hl 0 rfl) ?_
  refine lv_aload_n hx hb dX1_become_54 rfl (lv_at hl 1 rfl) ?_
  refine g_get (T := TX1) (N := 7) hx hb hts in_X1 hown hK hP 4 rfl rfl 4 (by decide) w8 rfl rfl dX1_become_55 ?_
  refine g_put (T := TX1) (N := 7) hx hb hts in_X1 tyX1 tyX1_ok nmX1 hown hK hP hD hS 0 rfl rfl 4 (by decide) w8 rfl rfl rfl rfl (Nat.le_of_ble_eq_true rfl) dX1_become_58 (fun H locs hP hD hS => ?_)
  have hP : va_P E.1 vwCl (bl [[(o, .inr (0, [.ref qa, .ref qb, .ref qc, .int (Ch_kind v2), .int (Ch_present v2), .int (Ch_change v), .int (Ch_changeLeft v)]))], [(qa, .inl (E.2.1, 6, .inl (va_cpy (Ch_intensities v2) (Ch_intensities v) (0 : Int32).toNatClampNeg (0 : Int32).toNatClampNeg (6 : Int32).toNatClampNeg)))], [(qb, .inl (E.2.1, 6, .inl (va_cpy (Ch_lives v2) (Ch_lives v) (0 : Int32).toNatClampNeg (0 : Int32).toNatClampNeg (6 : Int32).toNatClampNeg)))], [(qc, .inl (E.2.1, 6, .inl (va_cpy (Ch_uses v2) (Ch_uses v) (0 : Int32).toNatClampNeg (0 : Int32).toNatClampNeg (6 : Int32).toNatClampNeg)))], [(o2, .inr (0, [.ref qa2, .ref qb2, .ref qc2, .int (Ch_kind v2), .int (Ch_present v2), .int (Ch_change v2), .int (Ch_changeLeft v2)]))], [(qa2, .inl (E.2.1, 6, .inl (Ch_intensities v2)))], [(qb2, .inl (E.2.1, 6, .inl (Ch_lives v2)))], [(qc2, .inl (E.2.1, 6, .inl (Ch_uses v2)))]]) H := hP
  have hD : va_D A (bl [[(o, .inr (0, [.ref qa, .ref qb, .ref qc, .int (Ch_kind v2), .int (Ch_present v2), .int (Ch_change v), .int (Ch_changeLeft v)]))], [(qa, .inl (E.2.1, 6, .inl (va_cpy (Ch_intensities v2) (Ch_intensities v) (0 : Int32).toNatClampNeg (0 : Int32).toNatClampNeg (6 : Int32).toNatClampNeg)))], [(qb, .inl (E.2.1, 6, .inl (va_cpy (Ch_lives v2) (Ch_lives v) (0 : Int32).toNatClampNeg (0 : Int32).toNatClampNeg (6 : Int32).toNatClampNeg)))], [(qc, .inl (E.2.1, 6, .inl (va_cpy (Ch_uses v2) (Ch_uses v) (0 : Int32).toNatClampNeg (0 : Int32).toNatClampNeg (6 : Int32).toNatClampNeg)))], [(o2, .inr (0, [.ref qa2, .ref qb2, .ref qc2, .int (Ch_kind v2), .int (Ch_present v2), .int (Ch_change v2), .int (Ch_changeLeft v2)]))], [(qa2, .inl (E.2.1, 6, .inl (Ch_intensities v2)))], [(qb2, .inl (E.2.1, 6, .inl (Ch_lives v2)))], [(qc2, .inl (E.2.1, 6, .inl (Ch_uses v2)))]]) := hD
  refine lv_aload_n hx hb dX1_become_61 rfl (lv_at hl 0 rfl) ?_
  refine lv_aload_n hx hb dX1_become_62 rfl (lv_at hl 1 rfl) ?_
  refine g_get (T := TX1) (N := 7) hx hb hts in_X1 hown hK hP 4 rfl rfl 5 (by decide) w9 rfl rfl dX1_become_63 ?_
  refine g_put (T := TX1) (N := 7) hx hb hts in_X1 tyX1 tyX1_ok nmX1 hown hK hP hD hS 0 rfl rfl 5 (by decide) w9 rfl rfl rfl rfl (Nat.le_of_ble_eq_true rfl) dX1_become_66 (fun H locs hP hD hS => ?_)
  have hP : va_P E.1 vwCl (bl [[(o, .inr (0, [.ref qa, .ref qb, .ref qc, .int (Ch_kind v2), .int (Ch_present v2), .int (Ch_change v2), .int (Ch_changeLeft v)]))], [(qa, .inl (E.2.1, 6, .inl (va_cpy (Ch_intensities v2) (Ch_intensities v) (0 : Int32).toNatClampNeg (0 : Int32).toNatClampNeg (6 : Int32).toNatClampNeg)))], [(qb, .inl (E.2.1, 6, .inl (va_cpy (Ch_lives v2) (Ch_lives v) (0 : Int32).toNatClampNeg (0 : Int32).toNatClampNeg (6 : Int32).toNatClampNeg)))], [(qc, .inl (E.2.1, 6, .inl (va_cpy (Ch_uses v2) (Ch_uses v) (0 : Int32).toNatClampNeg (0 : Int32).toNatClampNeg (6 : Int32).toNatClampNeg)))], [(o2, .inr (0, [.ref qa2, .ref qb2, .ref qc2, .int (Ch_kind v2), .int (Ch_present v2), .int (Ch_change v2), .int (Ch_changeLeft v2)]))], [(qa2, .inl (E.2.1, 6, .inl (Ch_intensities v2)))], [(qb2, .inl (E.2.1, 6, .inl (Ch_lives v2)))], [(qc2, .inl (E.2.1, 6, .inl (Ch_uses v2)))]]) H := hP
  have hD : va_D A (bl [[(o, .inr (0, [.ref qa, .ref qb, .ref qc, .int (Ch_kind v2), .int (Ch_present v2), .int (Ch_change v2), .int (Ch_changeLeft v)]))], [(qa, .inl (E.2.1, 6, .inl (va_cpy (Ch_intensities v2) (Ch_intensities v) (0 : Int32).toNatClampNeg (0 : Int32).toNatClampNeg (6 : Int32).toNatClampNeg)))], [(qb, .inl (E.2.1, 6, .inl (va_cpy (Ch_lives v2) (Ch_lives v) (0 : Int32).toNatClampNeg (0 : Int32).toNatClampNeg (6 : Int32).toNatClampNeg)))], [(qc, .inl (E.2.1, 6, .inl (va_cpy (Ch_uses v2) (Ch_uses v) (0 : Int32).toNatClampNeg (0 : Int32).toNatClampNeg (6 : Int32).toNatClampNeg)))], [(o2, .inr (0, [.ref qa2, .ref qb2, .ref qc2, .int (Ch_kind v2), .int (Ch_present v2), .int (Ch_change v2), .int (Ch_changeLeft v2)]))], [(qa2, .inl (E.2.1, 6, .inl (Ch_intensities v2)))], [(qb2, .inl (E.2.1, 6, .inl (Ch_lives v2)))], [(qc2, .inl (E.2.1, 6, .inl (Ch_uses v2)))]]) := hD
  refine lv_aload_n hx hb dX1_become_69 rfl (lv_at hl 0 rfl) ?_
  refine lv_aload_n hx hb dX1_become_70 rfl (lv_at hl 1 rfl) ?_
  refine g_get (T := TX1) (N := 7) hx hb hts in_X1 hown hK hP 4 rfl rfl 6 (by decide) w10 rfl rfl dX1_become_71 ?_
  refine g_put (T := TX1) (N := 7) hx hb hts in_X1 tyX1 tyX1_ok nmX1 hown hK hP hD hS 0 rfl rfl 6 (by decide) w10 rfl rfl rfl rfl (Nat.le_of_ble_eq_true rfl) dX1_become_74 (fun H locs hP hD hS => ?_)
  have hP : va_P E.1 vwCl (bl [[(o, .inr (0, [.ref qa, .ref qb, .ref qc, .int (Ch_kind v2), .int (Ch_present v2), .int (Ch_change v2), .int (Ch_changeLeft v2)]))], [(qa, .inl (E.2.1, 6, .inl (va_cpy (Ch_intensities v2) (Ch_intensities v) (0 : Int32).toNatClampNeg (0 : Int32).toNatClampNeg (6 : Int32).toNatClampNeg)))], [(qb, .inl (E.2.1, 6, .inl (va_cpy (Ch_lives v2) (Ch_lives v) (0 : Int32).toNatClampNeg (0 : Int32).toNatClampNeg (6 : Int32).toNatClampNeg)))], [(qc, .inl (E.2.1, 6, .inl (va_cpy (Ch_uses v2) (Ch_uses v) (0 : Int32).toNatClampNeg (0 : Int32).toNatClampNeg (6 : Int32).toNatClampNeg)))], [(o2, .inr (0, [.ref qa2, .ref qb2, .ref qc2, .int (Ch_kind v2), .int (Ch_present v2), .int (Ch_change v2), .int (Ch_changeLeft v2)]))], [(qa2, .inl (E.2.1, 6, .inl (Ch_intensities v2)))], [(qb2, .inl (E.2.1, 6, .inl (Ch_lives v2)))], [(qc2, .inl (E.2.1, 6, .inl (Ch_uses v2)))]]) H := hP
  have hD : va_D A (bl [[(o, .inr (0, [.ref qa, .ref qb, .ref qc, .int (Ch_kind v2), .int (Ch_present v2), .int (Ch_change v2), .int (Ch_changeLeft v2)]))], [(qa, .inl (E.2.1, 6, .inl (va_cpy (Ch_intensities v2) (Ch_intensities v) (0 : Int32).toNatClampNeg (0 : Int32).toNatClampNeg (6 : Int32).toNatClampNeg)))], [(qb, .inl (E.2.1, 6, .inl (va_cpy (Ch_lives v2) (Ch_lives v) (0 : Int32).toNatClampNeg (0 : Int32).toNatClampNeg (6 : Int32).toNatClampNeg)))], [(qc, .inl (E.2.1, 6, .inl (va_cpy (Ch_uses v2) (Ch_uses v) (0 : Int32).toNatClampNeg (0 : Int32).toNatClampNeg (6 : Int32).toNatClampNeg)))], [(o2, .inr (0, [.ref qa2, .ref qb2, .ref qc2, .int (Ch_kind v2), .int (Ch_present v2), .int (Ch_change v2), .int (Ch_changeLeft v2)]))], [(qa2, .inl (E.2.1, 6, .inl (Ch_intensities v2)))], [(qb2, .inl (E.2.1, 6, .inl (Ch_lives v2)))], [(qc2, .inl (E.2.1, 6, .inl (Ch_uses v2)))]]) := hD
  exact g_vret (rvf := fun z => none) (W1f := fun z => bl [Ch_c E o qa qb qc z, Ch_c E o2 qa2 qb2 qc2 v2]) hx hb hr hlocks hQ hF rfl hP hD hS [0, 1, 2, 3, 4, 5, 6, 7] rfl rfl dX1_become_77
def F_X1_isPlace (p0 : Int32) : Option (Int32) := if p0 < 0 then some 0 else if 6 ≤ p0 then some 0 else some 1
set_option maxHeartbeats 4000000 in
set_option maxRecDepth 100000 in
theorem c_X1_isPlace (l : Launch) (E : GE)  (p0 : Int32) (r : Int32) (hF : F_X1_isPlace p0 = some r) : CT l E yX1_isPlace wsX1_isPlace ({ frames := 0, cells := 0, slots := 0, locals := 0 } : Room) [.int p0] (bl []) (some (.int r)) (bl []) 0 0 := by
  refine CT.of (cc := cX1_isPlace) (maxL := 1) (ret := (some .boolean)) (by decide) rfl (Nat.le_of_ble_eq_true rfl) ?_
  intro p e s m args below meth cd A Q ls B hQ hP hD hS hl
  obtain ⟨hx, hb, hml, hown, hts, hr, hlocks, hK, hZ, hA, hnm⟩ := B
  have hown : s.vm.findClass RX1 = some m.cls := hown
  have hl : lv_has ls 1 [(0, .int p0)] := hl
  unfold F_X1_isPlace at hF
  refine lv_iload_n hx hb dX1_isPlace_0 rfl (lv_at hl 0 rfl) ?_
  refine f_if_lt (tgt := 14) hx hb dX1_isPlace_1 (by decide) hF (fun hF => ?_) (fun hF => ?_)
  · refine lv_iconst (v := 0) hx hb dX1_isPlace_14 (by decide) ?_
    exact g_zret (rvf := fun z => some (.int z)) (W1f := fun z => bl []) hx hb hr hlocks rfl hQ hF rfl hP hD hS [] rfl rfl dX1_isPlace_15
  · refine lv_iload_n hx hb dX1_isPlace_4 rfl (lv_at hl 0 rfl) ?_
    refine lv_bipush (v := 6) hx hb dX1_isPlace_5 (by decide) ?_
    refine f_icmp_ge (tgt := 14) hx hb dX1_isPlace_7 (by decide) hF (fun hF => ?_) (fun hF => ?_)
    · refine lv_iconst (v := 0) hx hb dX1_isPlace_14 (by decide) ?_
      exact g_zret (rvf := fun z => some (.int z)) (W1f := fun z => bl []) hx hb hr hlocks rfl hQ hF rfl hP hD hS [] rfl rfl dX1_isPlace_15
    · refine lv_iconst (v := 1) hx hb dX1_isPlace_10 (by decide) ?_
      refine lv_goto (tgt := 15) hx hb dX1_isPlace_11 (by decide) ?_
      exact g_zret (rvf := fun z => some (.int z)) (W1f := fun z => bl []) hx hb hr hlocks rfl hQ hF rfl hP hD hS [] rfl rfl dX1_isPlace_15
def F_X1_insert (v : ChV) (p0 : Int32) (p1 : Int32) (p2 : Int32) : Option (ChV) := (F_X1_isPlace p0).bind fun q1 => if q1 = 0 then some v else chk p0 6 (chk p0 6 (chk p0 6 (some (Ch_mk (upd (Ch_intensities v) p0.toNatClampNeg p1) (upd (Ch_lives v) p0.toNatClampNeg p2) (upd (Ch_uses v) p0.toNatClampNeg 0) (Ch_kind v) (Ch_present v) (Ch_change v) (Ch_changeLeft v)))))
set_option maxHeartbeats 4000000 in
set_option maxRecDepth 100000 in
theorem c_X1_insert (l : Launch) (E : GE) (o : Nat) (qa : Nat) (qb : Nat) (qc : Nat) (v : ChV) (p0 : Int32) (p1 : Int32) (p2 : Int32) (r : ChV) (hF : F_X1_insert v p0 p1 p2 = some r) : CT l E yX1_insert wsX1_insert ({ frames := 1, cells := 0, slots := 0, locals := 20 } : Room) [.ref o, .int p0, .int p1, .int p2] (bl [Ch_c E o qa qb qc v]) (none) (bl [Ch_c E o qa qb qc r]) 0 0 := by
  refine CT.of (cc := cX1_insert) (maxL := 4) (ret := none) (by decide) rfl (Nat.le_of_ble_eq_true rfl) ?_
  intro p e s m args below meth cd A Q ls B hQ hP hD hS hl
  obtain ⟨hx, hb, hml, hown, hts, hr, hlocks, hK, hZ, hA, hnm⟩ := B
  have hown : s.vm.findClass RX1 = some m.cls := hown
  have hl : lv_has ls 4 [(0, .ref o), (1, .int p0), (2, .int p1), (3, .int p2)] := hl
  have w0 := hts (.fieldLink RX1 11 "HarborLight$Changer" "intensities" "[I") (by decide +kernel)
  have w1 := hts (.fieldLink RX1 15 "HarborLight$Changer" "lives" "[I") (by decide +kernel)
  have w2 := hts (.fieldLink RX1 18 "HarborLight$Changer" "uses" "[I") (by decide +kernel)
  have in_X1 : ∀ w ∈ wsX10, w ∈ wsX1_insert := by decide +kernel
  have hP : va_P E.1 vwCl (bl [[(o, .inr (0, [.ref qa, .ref qb, .ref qc, .int (Ch_kind v), .int (Ch_present v), .int (Ch_change v), .int (Ch_changeLeft v)]))], [(qa, .inl (E.2.1, 6, .inl (Ch_intensities v)))], [(qb, .inl (E.2.1, 6, .inl (Ch_lives v)))], [(qc, .inl (E.2.1, 6, .inl (Ch_uses v)))]]) s.heap := hP
  have hD : va_D A (bl [[(o, .inr (0, [.ref qa, .ref qb, .ref qc, .int (Ch_kind v), .int (Ch_present v), .int (Ch_change v), .int (Ch_changeLeft v)]))], [(qa, .inl (E.2.1, 6, .inl (Ch_intensities v)))], [(qb, .inl (E.2.1, 6, .inl (Ch_lives v)))], [(qc, .inl (E.2.1, 6, .inl (Ch_uses v)))]]) := hD
  unfold F_X1_insert at hF
  refine lv_iload_n hx hb dX1_insert_0 rfl (lv_at hl 1 rfl) ?_
  obtain ⟨q1, h_q1, hF⟩ := bnd_s hF
  refine g_callS (As := [.int p0]) (rest := []) ⟨hx, hb, hml, hown, hts⟩ hK hZ hA (c_X1_isPlace l E  p0 q1 h_q1) (va_cwS 1 hts gX1_insert_X1_isPlace rfl rfl rfl (by decide +kernel) ⟨Nat.le_of_ble_eq_true rfl, Nat.le_of_ble_eq_true rfl⟩) hP hD hS [] [0, 1, 2, 3] rfl rfl rfl hl.1 rfl (Nat.le_of_ble_eq_true rfl) dX1_insert_1 ⟨Nat.le_of_ble_eq_true rfl, Nat.le_of_ble_eq_true rfl⟩ (fun H locs hP hD hS => ?_)
  have hP : va_P E.1 vwCl (bl [[(o, .inr (0, [.ref qa, .ref qb, .ref qc, .int (Ch_kind v), .int (Ch_present v), .int (Ch_change v), .int (Ch_changeLeft v)]))], [(qa, .inl (E.2.1, 6, .inl (Ch_intensities v)))], [(qb, .inl (E.2.1, 6, .inl (Ch_lives v)))], [(qc, .inl (E.2.1, 6, .inl (Ch_uses v)))]]) H := hP
  have hD : va_D A (bl [[(o, .inr (0, [.ref qa, .ref qb, .ref qc, .int (Ch_kind v), .int (Ch_present v), .int (Ch_change v), .int (Ch_changeLeft v)]))], [(qa, .inl (E.2.1, 6, .inl (Ch_intensities v)))], [(qb, .inl (E.2.1, 6, .inl (Ch_lives v)))], [(qc, .inl (E.2.1, 6, .inl (Ch_uses v)))]]) := hD
  refine W.eq (g2 := F0 m 4 ls [.int q1]) rfl ?_
  refine f_if_eq (tgt := 28) hx hb dX1_insert_4 (by decide) hF (fun hF => ?_) (fun hF => ?_)
  · exact g_vret (rvf := fun z => none) (W1f := fun z => bl [Ch_c E o qa qb qc z]) hx hb hr hlocks hQ hF rfl hP hD hS [0, 1, 2, 3] rfl rfl dX1_insert_28
  · refine lv_aload_n hx hb dX1_insert_7 rfl (lv_at hl 0 rfl) ?_
    refine g_get (T := TX1) (N := 7) hx hb hts in_X1 hown hK hP 0 rfl rfl 0 (by decide) w0 rfl rfl dX1_insert_8 ?_
    refine lv_iload_n hx hb dX1_insert_11 rfl (lv_at hl 1 rfl) ?_
    refine lv_iload_n hx hb dX1_insert_12 rfl (lv_at hl 2 rfl) ?_
    refine f_iast hx hb hK hP hD hS 1 rfl hF dX1_insert_13 (fun hF H locs hP hD hS => ?_)
    have hP : va_P E.1 vwCl (bl [[(o, .inr (0, [.ref qa, .ref qb, .ref qc, .int (Ch_kind v), .int (Ch_present v), .int (Ch_change v), .int (Ch_changeLeft v)]))], [(qa, .inl (E.2.1, 6, .inl (upd (Ch_intensities v) p0.toNatClampNeg p1)))], [(qb, .inl (E.2.1, 6, .inl (Ch_lives v)))], [(qc, .inl (E.2.1, 6, .inl (Ch_uses v)))]]) H := hP
    have hD : va_D A (bl [[(o, .inr (0, [.ref qa, .ref qb, .ref qc, .int (Ch_kind v), .int (Ch_present v), .int (Ch_change v), .int (Ch_changeLeft v)]))], [(qa, .inl (E.2.1, 6, .inl (upd (Ch_intensities v) p0.toNatClampNeg p1)))], [(qb, .inl (E.2.1, 6, .inl (Ch_lives v)))], [(qc, .inl (E.2.1, 6, .inl (Ch_uses v)))]]) := hD
    refine lv_aload_n hx hb dX1_insert_14 rfl (lv_at hl 0 rfl) ?_
    refine g_get (T := TX1) (N := 7) hx hb hts in_X1 hown hK hP 0 rfl rfl 1 (by decide) w1 rfl rfl dX1_insert_15 ?_
    refine lv_iload_n hx hb dX1_insert_18 rfl (lv_at hl 1 rfl) ?_
    refine lv_iload_n hx hb dX1_insert_19 rfl (lv_at hl 3 rfl) ?_
    refine f_iast hx hb hK hP hD hS 2 rfl hF dX1_insert_20 (fun hF H locs hP hD hS => ?_)
    have hP : va_P E.1 vwCl (bl [[(o, .inr (0, [.ref qa, .ref qb, .ref qc, .int (Ch_kind v), .int (Ch_present v), .int (Ch_change v), .int (Ch_changeLeft v)]))], [(qa, .inl (E.2.1, 6, .inl (upd (Ch_intensities v) p0.toNatClampNeg p1)))], [(qb, .inl (E.2.1, 6, .inl (upd (Ch_lives v) p0.toNatClampNeg p2)))], [(qc, .inl (E.2.1, 6, .inl (Ch_uses v)))]]) H := hP
    have hD : va_D A (bl [[(o, .inr (0, [.ref qa, .ref qb, .ref qc, .int (Ch_kind v), .int (Ch_present v), .int (Ch_change v), .int (Ch_changeLeft v)]))], [(qa, .inl (E.2.1, 6, .inl (upd (Ch_intensities v) p0.toNatClampNeg p1)))], [(qb, .inl (E.2.1, 6, .inl (upd (Ch_lives v) p0.toNatClampNeg p2)))], [(qc, .inl (E.2.1, 6, .inl (Ch_uses v)))]]) := hD
    refine lv_aload_n hx hb dX1_insert_21 rfl (lv_at hl 0 rfl) ?_
    refine g_get (T := TX1) (N := 7) hx hb hts in_X1 hown hK hP 0 rfl rfl 2 (by decide) w2 rfl rfl dX1_insert_22 ?_
    refine lv_iload_n hx hb dX1_insert_25 rfl (lv_at hl 1 rfl) ?_
    refine lv_iconst (v := 0) hx hb dX1_insert_26 (by decide) ?_
    refine f_iast hx hb hK hP hD hS 3 rfl hF dX1_insert_27 (fun hF H locs hP hD hS => ?_)
    have hP : va_P E.1 vwCl (bl [[(o, .inr (0, [.ref qa, .ref qb, .ref qc, .int (Ch_kind v), .int (Ch_present v), .int (Ch_change v), .int (Ch_changeLeft v)]))], [(qa, .inl (E.2.1, 6, .inl (upd (Ch_intensities v) p0.toNatClampNeg p1)))], [(qb, .inl (E.2.1, 6, .inl (upd (Ch_lives v) p0.toNatClampNeg p2)))], [(qc, .inl (E.2.1, 6, .inl (upd (Ch_uses v) p0.toNatClampNeg 0)))]]) H := hP
    have hD : va_D A (bl [[(o, .inr (0, [.ref qa, .ref qb, .ref qc, .int (Ch_kind v), .int (Ch_present v), .int (Ch_change v), .int (Ch_changeLeft v)]))], [(qa, .inl (E.2.1, 6, .inl (upd (Ch_intensities v) p0.toNatClampNeg p1)))], [(qb, .inl (E.2.1, 6, .inl (upd (Ch_lives v) p0.toNatClampNeg p2)))], [(qc, .inl (E.2.1, 6, .inl (upd (Ch_uses v) p0.toNatClampNeg 0)))]]) := hD
    exact g_vret (rvf := fun z => none) (W1f := fun z => bl [Ch_c E o qa qb qc z]) hx hb hr hlocks hQ hF rfl hP hD hS [0, 1, 2, 3] rfl rfl dX1_insert_28
def F_X1_renew_L2 (n : Nat) : Nat → ChV → Int32 → Int32 → Option (ChV)
  | 0, _, _, _ => none
  | k + 1, u, x1, x2 => if 6 ≤ x2 then some (Ch_mk (Ch_intensities u) (Ch_lives u) (Ch_uses u) x1 0 (Ch_change u) 0) else (F_X1_insert u x2 0 0).bind fun q1 => F_X1_renew_L2 n k q1 x1 (x2 + 1)
def F_X1_renew (n : Nat) (v : ChV) (p0 : Int32) : Option (ChV) := F_X1_renew_L2 n n v p0 0
set_option maxHeartbeats 4000000 in
set_option maxRecDepth 100000 in
theorem c_X1_renew (l : Launch) (E : GE) (o : Nat) (qa : Nat) (qb : Nat) (qc : Nat) (n : Nat) (v : ChV) (p0 : Int32) (r : ChV) (hF : F_X1_renew n v p0 = some r) : CT l E yX1_renew wsX1_renew ({ frames := 2, cells := 0, slots := 0, locals := 43 } : Room) [.ref o, .int p0] (bl [Ch_c E o qa qb qc v]) (none) (bl [Ch_c E o qa qb qc r]) 0 0 := by
  refine CT.of (cc := cX1_renew) (maxL := 3) (ret := none) (by decide) rfl (Nat.le_of_ble_eq_true rfl) ?_
  intro p e s m args below meth cd A Q ls B hQ hP hD hS hl
  obtain ⟨hx, hb, hml, hown, hts, hr, hlocks, hK, hZ, hA, hnm⟩ := B
  have hown : s.vm.findClass RX1 = some m.cls := hown
  have hl : lv_has ls 3 [(0, .ref o), (1, .int p0)] := hl
  have w0 := hts (.fieldLink RX1 31 "HarborLight$Changer" "kind" "I") (by decide +kernel)
  have w1 := hts (.fieldLink RX1 34 "HarborLight$Changer" "present" "I") (by decide +kernel)
  have w2 := hts (.fieldLink RX1 37 "HarborLight$Changer" "changeLeft" "I") (by decide +kernel)
  have in_X1 : ∀ w ∈ wsX10, w ∈ wsX1_renew := by decide +kernel
  have hP : va_P E.1 vwCl (bl [[(o, .inr (0, [.ref qa, .ref qb, .ref qc, .int (Ch_kind v), .int (Ch_present v), .int (Ch_change v), .int (Ch_changeLeft v)]))], [(qa, .inl (E.2.1, 6, .inl (Ch_intensities v)))], [(qb, .inl (E.2.1, 6, .inl (Ch_lives v)))], [(qc, .inl (E.2.1, 6, .inl (Ch_uses v)))]]) s.heap := hP
  have hD : va_D A (bl [[(o, .inr (0, [.ref qa, .ref qb, .ref qc, .int (Ch_kind v), .int (Ch_present v), .int (Ch_change v), .int (Ch_changeLeft v)]))], [(qa, .inl (E.2.1, 6, .inl (Ch_intensities v)))], [(qb, .inl (E.2.1, 6, .inl (Ch_lives v)))], [(qc, .inl (E.2.1, 6, .inl (Ch_uses v)))]]) := hD
  have hL2 : ∀ (k : Nat) (u : ChV) (x1 : Int32) (x2 : Int32) (H : Heap) (locs : List Loc), va_P E.1 vwCl (bl [[(o, .inr (0, [.ref qa, .ref qb, .ref qc, .int (Ch_kind u), .int (Ch_present u), .int (Ch_change u), .int (Ch_changeLeft u)]))], [(qa, .inl (E.2.1, 6, .inl (Ch_intensities u)))], [(qb, .inl (E.2.1, 6, .inl (Ch_lives u)))], [(qc, .inl (E.2.1, 6, .inl (Ch_uses u)))]]) H → va_D A (bl [[(o, .inr (0, [.ref qa, .ref qb, .ref qc, .int (Ch_kind u), .int (Ch_present u), .int (Ch_change u), .int (Ch_changeLeft u)]))], [(qa, .inl (E.2.1, 6, .inl (Ch_intensities u)))], [(qb, .inl (E.2.1, 6, .inl (Ch_lives u)))], [(qc, .inl (E.2.1, 6, .inl (Ch_uses u)))]]) → va_S A s.heap H locs → ∀ ls : Array Slot, lv_has ls 3 [(0, .ref o), (1, .int x1), (2, .int x2)] → F_X1_renew_L2 n k u x1 x2 = some r → W p l e ({ frames := 2, cells := 0, slots := 0, locals := 43 } : Room) s m args below meth cd H locs 0 0 Q (F0 m 2 ls []) := by
    intro k
    induction k with
    | zero => intro u x1 x2 H locs hP hD hS ls hl hF; cases hF
    | succ k ih =>
      intro u x1 x2 H locs hP hD hS ls hl hF
      rw [F_X1_renew_L2] at hF
      refine lv_iload_n hx hb dX1_renew_2 rfl (lv_at hl 2 rfl) ?_
      refine lv_bipush (v := 6) hx hb dX1_renew_3 (by decide) ?_
      refine f_icmp_ge (tgt := 21) hx hb dX1_renew_5 (by decide) hF (fun hF => ?_) (fun hF => ?_)
      · refine lv_aload_n hx hb dX1_renew_21 rfl (lv_at hl 0 rfl) ?_
        refine lv_iload_n hx hb dX1_renew_22 rfl (lv_at hl 1 rfl) ?_
        refine g_put (T := TX1) (N := 7) hx hb hts in_X1 tyX1 tyX1_ok nmX1 hown hK hP hD hS 0 rfl rfl 3 (by decide) w0 rfl rfl rfl rfl (Nat.le_of_ble_eq_true rfl) dX1_renew_23 (fun H locs hP hD hS => ?_)
        have hP : va_P E.1 vwCl (bl [[(o, .inr (0, [.ref qa, .ref qb, .ref qc, .int x1, .int (Ch_present u), .int (Ch_change u), .int (Ch_changeLeft u)]))], [(qa, .inl (E.2.1, 6, .inl (Ch_intensities u)))], [(qb, .inl (E.2.1, 6, .inl (Ch_lives u)))], [(qc, .inl (E.2.1, 6, .inl (Ch_uses u)))]]) H := hP
        have hD : va_D A (bl [[(o, .inr (0, [.ref qa, .ref qb, .ref qc, .int x1, .int (Ch_present u), .int (Ch_change u), .int (Ch_changeLeft u)]))], [(qa, .inl (E.2.1, 6, .inl (Ch_intensities u)))], [(qb, .inl (E.2.1, 6, .inl (Ch_lives u)))], [(qc, .inl (E.2.1, 6, .inl (Ch_uses u)))]]) := hD
        refine lv_aload_n hx hb dX1_renew_26 rfl (lv_at hl 0 rfl) ?_
        refine lv_iconst (v := 0) hx hb dX1_renew_27 (by decide) ?_
        refine g_put (T := TX1) (N := 7) hx hb hts in_X1 tyX1 tyX1_ok nmX1 hown hK hP hD hS 0 rfl rfl 4 (by decide) w1 rfl rfl rfl rfl (Nat.le_of_ble_eq_true rfl) dX1_renew_28 (fun H locs hP hD hS => ?_)
        have hP : va_P E.1 vwCl (bl [[(o, .inr (0, [.ref qa, .ref qb, .ref qc, .int x1, .int 0, .int (Ch_change u), .int (Ch_changeLeft u)]))], [(qa, .inl (E.2.1, 6, .inl (Ch_intensities u)))], [(qb, .inl (E.2.1, 6, .inl (Ch_lives u)))], [(qc, .inl (E.2.1, 6, .inl (Ch_uses u)))]]) H := hP
        have hD : va_D A (bl [[(o, .inr (0, [.ref qa, .ref qb, .ref qc, .int x1, .int 0, .int (Ch_change u), .int (Ch_changeLeft u)]))], [(qa, .inl (E.2.1, 6, .inl (Ch_intensities u)))], [(qb, .inl (E.2.1, 6, .inl (Ch_lives u)))], [(qc, .inl (E.2.1, 6, .inl (Ch_uses u)))]]) := hD
        refine lv_aload_n hx hb dX1_renew_31 rfl (lv_at hl 0 rfl) ?_
        refine lv_iconst (v := 0) hx hb dX1_renew_32 (by decide) ?_
        refine g_put (T := TX1) (N := 7) hx hb hts in_X1 tyX1 tyX1_ok nmX1 hown hK hP hD hS 0 rfl rfl 6 (by decide) w2 rfl rfl rfl rfl (Nat.le_of_ble_eq_true rfl) dX1_renew_33 (fun H locs hP hD hS => ?_)
        have hP : va_P E.1 vwCl (bl [[(o, .inr (0, [.ref qa, .ref qb, .ref qc, .int x1, .int 0, .int (Ch_change u), .int 0]))], [(qa, .inl (E.2.1, 6, .inl (Ch_intensities u)))], [(qb, .inl (E.2.1, 6, .inl (Ch_lives u)))], [(qc, .inl (E.2.1, 6, .inl (Ch_uses u)))]]) H := hP
        have hD : va_D A (bl [[(o, .inr (0, [.ref qa, .ref qb, .ref qc, .int x1, .int 0, .int (Ch_change u), .int 0]))], [(qa, .inl (E.2.1, 6, .inl (Ch_intensities u)))], [(qb, .inl (E.2.1, 6, .inl (Ch_lives u)))], [(qc, .inl (E.2.1, 6, .inl (Ch_uses u)))]]) := hD
        exact g_vret (rvf := fun z => none) (W1f := fun z => bl [Ch_c E o qa qb qc z]) hx hb hr hlocks hQ hF rfl hP hD hS [0, 1, 2, 3] rfl rfl dX1_renew_36
      · refine lv_aload_n hx hb dX1_renew_8 rfl (lv_at hl 0 rfl) ?_
        refine lv_iload_n hx hb dX1_renew_9 rfl (lv_at hl 2 rfl) ?_
        refine lv_iconst (v := 0) hx hb dX1_renew_10 (by decide) ?_
        refine lv_iconst (v := 0) hx hb dX1_renew_11 (by decide) ?_
        obtain ⟨q1, h_q1, hF⟩ := bnd_s hF
        refine g_callV (As := [.int x2, .int 0, .int 0]) (rest := []) ⟨hx, hb, hml, hown, hts⟩ hK hZ hA (c_X1_insert l E o qa qb qc u x2 (0) (0) q1 h_q1) (cwV 3 hts gX1_renew_X1_insert rfl rfl rfl (by decide +kernel) ⟨Nat.le_of_ble_eq_true rfl, Nat.le_of_ble_eq_true rfl⟩) hP hD hS [0, 1, 2, 3] [] rfl rfl rfl rfl rfl rfl hl.1 rfl (Nat.le_of_ble_eq_true rfl) dX1_renew_12 ⟨Nat.le_of_ble_eq_true rfl, Nat.le_of_ble_eq_true rfl⟩ (fun H locs hP hD hS => ?_)
        have hP : va_P E.1 vwCl (bl [[(o, .inr (0, [.ref qa, .ref qb, .ref qc, .int (Ch_kind q1), .int (Ch_present q1), .int (Ch_change q1), .int (Ch_changeLeft q1)]))], [(qa, .inl (E.2.1, 6, .inl (Ch_intensities q1)))], [(qb, .inl (E.2.1, 6, .inl (Ch_lives q1)))], [(qc, .inl (E.2.1, 6, .inl (Ch_uses q1)))]]) H := hP
        have hD : va_D A (bl [[(o, .inr (0, [.ref qa, .ref qb, .ref qc, .int (Ch_kind q1), .int (Ch_present q1), .int (Ch_change q1), .int (Ch_changeLeft q1)]))], [(qa, .inl (E.2.1, 6, .inl (Ch_intensities q1)))], [(qb, .inl (E.2.1, 6, .inl (Ch_lives q1)))], [(qc, .inl (E.2.1, 6, .inl (Ch_uses q1)))]]) := hD
        refine W.eq (g2 := F0 m 15 ls []) rfl ?_
        refine lv_iinc (v := (x2 + 1)) (lv' := [(2, .int (x2 + 1)), (0, .ref o), (1, .int x1)]) hx hb dX1_renew_15 hl (k := 2) rfl rfl (by decide) rfl (fun ls hl => ?_)
        refine lv_goto (tgt := 2) hx hb dX1_renew_18 (by decide) ?_
        exact ih q1 x1 (x2 + 1) _ _ hP hD hS _ (lv_sub hl [1, 2, 0] rfl) hF
  unfold F_X1_renew at hF
  refine lv_iconst (v := 0) hx hb dX1_renew_0 (by decide) ?_
  refine lv_istore_n (lv' := [(2, .int 0), (0, .ref o), (1, .int p0)]) hx hb dX1_renew_1 rfl hl (by decide) rfl (fun ls hl => ?_)
  exact hL2 n v p0 0 _ _ hP hD hS _ (lv_sub hl [1, 2, 0] rfl) hF
def F_X1_hasLamp (v : ChV) (p0 : Int32) : Option (Int32) := (F_X1_isPlace p0).bind fun q1 => if q1 = 0 then some 0 else chk p0 6 (if ((Ch_lives v) p0.toNatClampNeg) ≤ 0 then some 0 else some 1)
set_option maxHeartbeats 4000000 in
set_option maxRecDepth 100000 in
theorem c_X1_hasLamp (l : Launch) (E : GE) (o : Nat) (qa : Nat) (qb : Nat) (qc : Nat) (v : ChV) (p0 : Int32) (r : Int32) (hF : F_X1_hasLamp v p0 = some r) : CT l E yX1_hasLamp wsX1_hasLamp ({ frames := 1, cells := 0, slots := 0, locals := 20 } : Room) [.ref o, .int p0] (bl [Ch_c E o qa qb qc v]) (some (.int r)) (bl [Ch_c E o qa qb qc v]) 0 0 := by
  refine CT.of (cc := cX1_hasLamp) (maxL := 2) (ret := (some .boolean)) (by decide) rfl (Nat.le_of_ble_eq_true rfl) ?_
  intro p e s m args below meth cd A Q ls B hQ hP hD hS hl
  obtain ⟨hx, hb, hml, hown, hts, hr, hlocks, hK, hZ, hA, hnm⟩ := B
  have hown : s.vm.findClass RX1 = some m.cls := hown
  have hl : lv_has ls 2 [(0, .ref o), (1, .int p0)] := hl
  have w0 := hts (.fieldLink RX1 15 "HarborLight$Changer" "lives" "[I") (by decide +kernel)
  have in_X1 : ∀ w ∈ wsX10, w ∈ wsX1_hasLamp := by decide +kernel
  have hP : va_P E.1 vwCl (bl [[(o, .inr (0, [.ref qa, .ref qb, .ref qc, .int (Ch_kind v), .int (Ch_present v), .int (Ch_change v), .int (Ch_changeLeft v)]))], [(qa, .inl (E.2.1, 6, .inl (Ch_intensities v)))], [(qb, .inl (E.2.1, 6, .inl (Ch_lives v)))], [(qc, .inl (E.2.1, 6, .inl (Ch_uses v)))]]) s.heap := hP
  have hD : va_D A (bl [[(o, .inr (0, [.ref qa, .ref qb, .ref qc, .int (Ch_kind v), .int (Ch_present v), .int (Ch_change v), .int (Ch_changeLeft v)]))], [(qa, .inl (E.2.1, 6, .inl (Ch_intensities v)))], [(qb, .inl (E.2.1, 6, .inl (Ch_lives v)))], [(qc, .inl (E.2.1, 6, .inl (Ch_uses v)))]]) := hD
  unfold F_X1_hasLamp at hF
  refine lv_iload_n hx hb dX1_hasLamp_0 rfl (lv_at hl 1 rfl) ?_
  obtain ⟨q1, h_q1, hF⟩ := bnd_s hF
  refine g_callS (As := [.int p0]) (rest := []) ⟨hx, hb, hml, hown, hts⟩ hK hZ hA (c_X1_isPlace l E  p0 q1 h_q1) (va_cwS 1 hts gX1_hasLamp_X1_isPlace rfl rfl rfl (by decide +kernel) ⟨Nat.le_of_ble_eq_true rfl, Nat.le_of_ble_eq_true rfl⟩) hP hD hS [] [0, 1, 2, 3] rfl rfl rfl hl.1 rfl (Nat.le_of_ble_eq_true rfl) dX1_hasLamp_1 ⟨Nat.le_of_ble_eq_true rfl, Nat.le_of_ble_eq_true rfl⟩ (fun H locs hP hD hS => ?_)
  have hP : va_P E.1 vwCl (bl [[(o, .inr (0, [.ref qa, .ref qb, .ref qc, .int (Ch_kind v), .int (Ch_present v), .int (Ch_change v), .int (Ch_changeLeft v)]))], [(qa, .inl (E.2.1, 6, .inl (Ch_intensities v)))], [(qb, .inl (E.2.1, 6, .inl (Ch_lives v)))], [(qc, .inl (E.2.1, 6, .inl (Ch_uses v)))]]) H := hP
  have hD : va_D A (bl [[(o, .inr (0, [.ref qa, .ref qb, .ref qc, .int (Ch_kind v), .int (Ch_present v), .int (Ch_change v), .int (Ch_changeLeft v)]))], [(qa, .inl (E.2.1, 6, .inl (Ch_intensities v)))], [(qb, .inl (E.2.1, 6, .inl (Ch_lives v)))], [(qc, .inl (E.2.1, 6, .inl (Ch_uses v)))]]) := hD
  refine W.eq (g2 := F0 m 4 ls [.int q1]) rfl ?_
  refine f_if_eq (tgt := 20) hx hb dX1_hasLamp_4 (by decide) hF (fun hF => ?_) (fun hF => ?_)
  · refine lv_iconst (v := 0) hx hb dX1_hasLamp_20 (by decide) ?_
    exact g_zret (rvf := fun z => some (.int z)) (W1f := fun z => bl [Ch_c E o qa qb qc v]) hx hb hr hlocks rfl hQ hF rfl hP hD hS [0, 1, 2, 3] rfl rfl dX1_hasLamp_21
  · refine lv_aload_n hx hb dX1_hasLamp_7 rfl (lv_at hl 0 rfl) ?_
    refine g_get (T := TX1) (N := 7) hx hb hts in_X1 hown hK hP 0 rfl rfl 1 (by decide) w0 rfl rfl dX1_hasLamp_8 ?_
    refine lv_iload_n hx hb dX1_hasLamp_11 rfl (lv_at hl 1 rfl) ?_
    refine f_iald hx hb hK hP 2 rfl hF dX1_hasLamp_12 (fun hF => ?_)
    refine f_if_le (tgt := 20) hx hb dX1_hasLamp_13 (by decide) hF (fun hF => ?_) (fun hF => ?_)
    · refine lv_iconst (v := 0) hx hb dX1_hasLamp_20 (by decide) ?_
      exact g_zret (rvf := fun z => some (.int z)) (W1f := fun z => bl [Ch_c E o qa qb qc v]) hx hb hr hlocks rfl hQ hF rfl hP hD hS [0, 1, 2, 3] rfl rfl dX1_hasLamp_21
    · refine lv_iconst (v := 1) hx hb dX1_hasLamp_16 (by decide) ?_
      refine lv_goto (tgt := 21) hx hb dX1_hasLamp_17 (by decide) ?_
      exact g_zret (rvf := fun z => some (.int z)) (W1f := fun z => bl [Ch_c E o qa qb qc v]) hx hb hr hlocks rfl hQ hF rfl hP hD hS [0, 1, 2, 3] rfl rfl dX1_hasLamp_21
def F_X1_intensityOf (v : ChV) (p0 : Int32) : Option (Int32) := (F_X1_isPlace p0).bind fun q1 => if q1 = 0 then some 0 else chk p0 6 (some ((Ch_intensities v) p0.toNatClampNeg))
set_option maxHeartbeats 4000000 in
set_option maxRecDepth 100000 in
theorem c_X1_intensityOf (l : Launch) (E : GE) (o : Nat) (qa : Nat) (qb : Nat) (qc : Nat) (v : ChV) (p0 : Int32) (r : Int32) (hF : F_X1_intensityOf v p0 = some r) : CT l E yX1_intensityOf wsX1_intensityOf ({ frames := 1, cells := 0, slots := 0, locals := 20 } : Room) [.ref o, .int p0] (bl [Ch_c E o qa qb qc v]) (some (.int r)) (bl [Ch_c E o qa qb qc v]) 0 0 := by
  refine CT.of (cc := cX1_intensityOf) (maxL := 2) (ret := (some .int)) (by decide) rfl (Nat.le_of_ble_eq_true rfl) ?_
  intro p e s m args below meth cd A Q ls B hQ hP hD hS hl
  obtain ⟨hx, hb, hml, hown, hts, hr, hlocks, hK, hZ, hA, hnm⟩ := B
  have hown : s.vm.findClass RX1 = some m.cls := hown
  have hl : lv_has ls 2 [(0, .ref o), (1, .int p0)] := hl
  have w0 := hts (.fieldLink RX1 11 "HarborLight$Changer" "intensities" "[I") (by decide +kernel)
  have in_X1 : ∀ w ∈ wsX10, w ∈ wsX1_intensityOf := by decide +kernel
  have hP : va_P E.1 vwCl (bl [[(o, .inr (0, [.ref qa, .ref qb, .ref qc, .int (Ch_kind v), .int (Ch_present v), .int (Ch_change v), .int (Ch_changeLeft v)]))], [(qa, .inl (E.2.1, 6, .inl (Ch_intensities v)))], [(qb, .inl (E.2.1, 6, .inl (Ch_lives v)))], [(qc, .inl (E.2.1, 6, .inl (Ch_uses v)))]]) s.heap := hP
  have hD : va_D A (bl [[(o, .inr (0, [.ref qa, .ref qb, .ref qc, .int (Ch_kind v), .int (Ch_present v), .int (Ch_change v), .int (Ch_changeLeft v)]))], [(qa, .inl (E.2.1, 6, .inl (Ch_intensities v)))], [(qb, .inl (E.2.1, 6, .inl (Ch_lives v)))], [(qc, .inl (E.2.1, 6, .inl (Ch_uses v)))]]) := hD
  unfold F_X1_intensityOf at hF
  refine lv_iload_n hx hb dX1_intensityOf_0 rfl (lv_at hl 1 rfl) ?_
  obtain ⟨q1, h_q1, hF⟩ := bnd_s hF
  refine g_callS (As := [.int p0]) (rest := []) ⟨hx, hb, hml, hown, hts⟩ hK hZ hA (c_X1_isPlace l E  p0 q1 h_q1) (va_cwS 1 hts gX1_intensityOf_X1_isPlace rfl rfl rfl (by decide +kernel) ⟨Nat.le_of_ble_eq_true rfl, Nat.le_of_ble_eq_true rfl⟩) hP hD hS [] [0, 1, 2, 3] rfl rfl rfl hl.1 rfl (Nat.le_of_ble_eq_true rfl) dX1_intensityOf_1 ⟨Nat.le_of_ble_eq_true rfl, Nat.le_of_ble_eq_true rfl⟩ (fun H locs hP hD hS => ?_)
  have hP : va_P E.1 vwCl (bl [[(o, .inr (0, [.ref qa, .ref qb, .ref qc, .int (Ch_kind v), .int (Ch_present v), .int (Ch_change v), .int (Ch_changeLeft v)]))], [(qa, .inl (E.2.1, 6, .inl (Ch_intensities v)))], [(qb, .inl (E.2.1, 6, .inl (Ch_lives v)))], [(qc, .inl (E.2.1, 6, .inl (Ch_uses v)))]]) H := hP
  have hD : va_D A (bl [[(o, .inr (0, [.ref qa, .ref qb, .ref qc, .int (Ch_kind v), .int (Ch_present v), .int (Ch_change v), .int (Ch_changeLeft v)]))], [(qa, .inl (E.2.1, 6, .inl (Ch_intensities v)))], [(qb, .inl (E.2.1, 6, .inl (Ch_lives v)))], [(qc, .inl (E.2.1, 6, .inl (Ch_uses v)))]]) := hD
  refine W.eq (g2 := F0 m 4 ls [.int q1]) rfl ?_
  refine f_if_eq (tgt := 16) hx hb dX1_intensityOf_4 (by decide) hF (fun hF => ?_) (fun hF => ?_)
  · refine lv_iconst (v := 0) hx hb dX1_intensityOf_16 (by decide) ?_
    exact g_iret (rvf := fun z => some (.int z)) (W1f := fun z => bl [Ch_c E o qa qb qc v]) hx hb hr hlocks hQ hF rfl hP hD hS [0, 1, 2, 3] rfl rfl dX1_intensityOf_17
  · refine lv_aload_n hx hb dX1_intensityOf_7 rfl (lv_at hl 0 rfl) ?_
    refine g_get (T := TX1) (N := 7) hx hb hts in_X1 hown hK hP 0 rfl rfl 0 (by decide) w0 rfl rfl dX1_intensityOf_8 ?_
    refine lv_iload_n hx hb dX1_intensityOf_11 rfl (lv_at hl 1 rfl) ?_
    refine f_iald hx hb hK hP 1 rfl hF dX1_intensityOf_12 (fun hF => ?_)
    refine lv_goto (tgt := 17) hx hb dX1_intensityOf_13 (by decide) ?_
    exact g_iret (rvf := fun z => some (.int z)) (W1f := fun z => bl [Ch_c E o qa qb qc v]) hx hb hr hlocks hQ hF rfl hP hD hS [0, 1, 2, 3] rfl rfl dX1_intensityOf_17
def F_X1_lifeOf (v : ChV) (p0 : Int32) : Option (Int32) := (F_X1_isPlace p0).bind fun q1 => if q1 = 0 then some 0 else chk p0 6 (some ((Ch_lives v) p0.toNatClampNeg))
set_option maxHeartbeats 4000000 in
set_option maxRecDepth 100000 in
theorem c_X1_lifeOf (l : Launch) (E : GE) (o : Nat) (qa : Nat) (qb : Nat) (qc : Nat) (v : ChV) (p0 : Int32) (r : Int32) (hF : F_X1_lifeOf v p0 = some r) : CT l E yX1_lifeOf wsX1_lifeOf ({ frames := 1, cells := 0, slots := 0, locals := 20 } : Room) [.ref o, .int p0] (bl [Ch_c E o qa qb qc v]) (some (.int r)) (bl [Ch_c E o qa qb qc v]) 0 0 := by
  refine CT.of (cc := cX1_lifeOf) (maxL := 2) (ret := (some .int)) (by decide) rfl (Nat.le_of_ble_eq_true rfl) ?_
  intro p e s m args below meth cd A Q ls B hQ hP hD hS hl
  obtain ⟨hx, hb, hml, hown, hts, hr, hlocks, hK, hZ, hA, hnm⟩ := B
  have hown : s.vm.findClass RX1 = some m.cls := hown
  have hl : lv_has ls 2 [(0, .ref o), (1, .int p0)] := hl
  have w0 := hts (.fieldLink RX1 15 "HarborLight$Changer" "lives" "[I") (by decide +kernel)
  have in_X1 : ∀ w ∈ wsX10, w ∈ wsX1_lifeOf := by decide +kernel
  have hP : va_P E.1 vwCl (bl [[(o, .inr (0, [.ref qa, .ref qb, .ref qc, .int (Ch_kind v), .int (Ch_present v), .int (Ch_change v), .int (Ch_changeLeft v)]))], [(qa, .inl (E.2.1, 6, .inl (Ch_intensities v)))], [(qb, .inl (E.2.1, 6, .inl (Ch_lives v)))], [(qc, .inl (E.2.1, 6, .inl (Ch_uses v)))]]) s.heap := hP
  have hD : va_D A (bl [[(o, .inr (0, [.ref qa, .ref qb, .ref qc, .int (Ch_kind v), .int (Ch_present v), .int (Ch_change v), .int (Ch_changeLeft v)]))], [(qa, .inl (E.2.1, 6, .inl (Ch_intensities v)))], [(qb, .inl (E.2.1, 6, .inl (Ch_lives v)))], [(qc, .inl (E.2.1, 6, .inl (Ch_uses v)))]]) := hD
  unfold F_X1_lifeOf at hF
  refine lv_iload_n hx hb dX1_lifeOf_0 rfl (lv_at hl 1 rfl) ?_
  obtain ⟨q1, h_q1, hF⟩ := bnd_s hF
  refine g_callS (As := [.int p0]) (rest := []) ⟨hx, hb, hml, hown, hts⟩ hK hZ hA (c_X1_isPlace l E  p0 q1 h_q1) (va_cwS 1 hts gX1_lifeOf_X1_isPlace rfl rfl rfl (by decide +kernel) ⟨Nat.le_of_ble_eq_true rfl, Nat.le_of_ble_eq_true rfl⟩) hP hD hS [] [0, 1, 2, 3] rfl rfl rfl hl.1 rfl (Nat.le_of_ble_eq_true rfl) dX1_lifeOf_1 ⟨Nat.le_of_ble_eq_true rfl, Nat.le_of_ble_eq_true rfl⟩ (fun H locs hP hD hS => ?_)
  have hP : va_P E.1 vwCl (bl [[(o, .inr (0, [.ref qa, .ref qb, .ref qc, .int (Ch_kind v), .int (Ch_present v), .int (Ch_change v), .int (Ch_changeLeft v)]))], [(qa, .inl (E.2.1, 6, .inl (Ch_intensities v)))], [(qb, .inl (E.2.1, 6, .inl (Ch_lives v)))], [(qc, .inl (E.2.1, 6, .inl (Ch_uses v)))]]) H := hP
  have hD : va_D A (bl [[(o, .inr (0, [.ref qa, .ref qb, .ref qc, .int (Ch_kind v), .int (Ch_present v), .int (Ch_change v), .int (Ch_changeLeft v)]))], [(qa, .inl (E.2.1, 6, .inl (Ch_intensities v)))], [(qb, .inl (E.2.1, 6, .inl (Ch_lives v)))], [(qc, .inl (E.2.1, 6, .inl (Ch_uses v)))]]) := hD
  refine W.eq (g2 := F0 m 4 ls [.int q1]) rfl ?_
  refine f_if_eq (tgt := 16) hx hb dX1_lifeOf_4 (by decide) hF (fun hF => ?_) (fun hF => ?_)
  · refine lv_iconst (v := 0) hx hb dX1_lifeOf_16 (by decide) ?_
    exact g_iret (rvf := fun z => some (.int z)) (W1f := fun z => bl [Ch_c E o qa qb qc v]) hx hb hr hlocks hQ hF rfl hP hD hS [0, 1, 2, 3] rfl rfl dX1_lifeOf_17
  · refine lv_aload_n hx hb dX1_lifeOf_7 rfl (lv_at hl 0 rfl) ?_
    refine g_get (T := TX1) (N := 7) hx hb hts in_X1 hown hK hP 0 rfl rfl 1 (by decide) w0 rfl rfl dX1_lifeOf_8 ?_
    refine lv_iload_n hx hb dX1_lifeOf_11 rfl (lv_at hl 1 rfl) ?_
    refine f_iald hx hb hK hP 2 rfl hF dX1_lifeOf_12 (fun hF => ?_)
    refine lv_goto (tgt := 17) hx hb dX1_lifeOf_13 (by decide) ?_
    exact g_iret (rvf := fun z => some (.int z)) (W1f := fun z => bl [Ch_c E o qa qb qc v]) hx hb hr hlocks hQ hF rfl hP hD hS [0, 1, 2, 3] rfl rfl dX1_lifeOf_17
def F_X1_useOf (v : ChV) (p0 : Int32) : Option (Int32) := (F_X1_isPlace p0).bind fun q1 => if q1 = 0 then some 0 else chk p0 6 (some ((Ch_uses v) p0.toNatClampNeg))
set_option maxHeartbeats 4000000 in
set_option maxRecDepth 100000 in
theorem c_X1_useOf (l : Launch) (E : GE) (o : Nat) (qa : Nat) (qb : Nat) (qc : Nat) (v : ChV) (p0 : Int32) (r : Int32) (hF : F_X1_useOf v p0 = some r) : CT l E yX1_useOf wsX1_useOf ({ frames := 1, cells := 0, slots := 0, locals := 20 } : Room) [.ref o, .int p0] (bl [Ch_c E o qa qb qc v]) (some (.int r)) (bl [Ch_c E o qa qb qc v]) 0 0 := by
  refine CT.of (cc := cX1_useOf) (maxL := 2) (ret := (some .int)) (by decide) rfl (Nat.le_of_ble_eq_true rfl) ?_
  intro p e s m args below meth cd A Q ls B hQ hP hD hS hl
  obtain ⟨hx, hb, hml, hown, hts, hr, hlocks, hK, hZ, hA, hnm⟩ := B
  have hown : s.vm.findClass RX1 = some m.cls := hown
  have hl : lv_has ls 2 [(0, .ref o), (1, .int p0)] := hl
  have w0 := hts (.fieldLink RX1 18 "HarborLight$Changer" "uses" "[I") (by decide +kernel)
  have in_X1 : ∀ w ∈ wsX10, w ∈ wsX1_useOf := by decide +kernel
  have hP : va_P E.1 vwCl (bl [[(o, .inr (0, [.ref qa, .ref qb, .ref qc, .int (Ch_kind v), .int (Ch_present v), .int (Ch_change v), .int (Ch_changeLeft v)]))], [(qa, .inl (E.2.1, 6, .inl (Ch_intensities v)))], [(qb, .inl (E.2.1, 6, .inl (Ch_lives v)))], [(qc, .inl (E.2.1, 6, .inl (Ch_uses v)))]]) s.heap := hP
  have hD : va_D A (bl [[(o, .inr (0, [.ref qa, .ref qb, .ref qc, .int (Ch_kind v), .int (Ch_present v), .int (Ch_change v), .int (Ch_changeLeft v)]))], [(qa, .inl (E.2.1, 6, .inl (Ch_intensities v)))], [(qb, .inl (E.2.1, 6, .inl (Ch_lives v)))], [(qc, .inl (E.2.1, 6, .inl (Ch_uses v)))]]) := hD
  unfold F_X1_useOf at hF
  refine lv_iload_n hx hb dX1_useOf_0 rfl (lv_at hl 1 rfl) ?_
  obtain ⟨q1, h_q1, hF⟩ := bnd_s hF
  refine g_callS (As := [.int p0]) (rest := []) ⟨hx, hb, hml, hown, hts⟩ hK hZ hA (c_X1_isPlace l E  p0 q1 h_q1) (va_cwS 1 hts gX1_useOf_X1_isPlace rfl rfl rfl (by decide +kernel) ⟨Nat.le_of_ble_eq_true rfl, Nat.le_of_ble_eq_true rfl⟩) hP hD hS [] [0, 1, 2, 3] rfl rfl rfl hl.1 rfl (Nat.le_of_ble_eq_true rfl) dX1_useOf_1 ⟨Nat.le_of_ble_eq_true rfl, Nat.le_of_ble_eq_true rfl⟩ (fun H locs hP hD hS => ?_)
  have hP : va_P E.1 vwCl (bl [[(o, .inr (0, [.ref qa, .ref qb, .ref qc, .int (Ch_kind v), .int (Ch_present v), .int (Ch_change v), .int (Ch_changeLeft v)]))], [(qa, .inl (E.2.1, 6, .inl (Ch_intensities v)))], [(qb, .inl (E.2.1, 6, .inl (Ch_lives v)))], [(qc, .inl (E.2.1, 6, .inl (Ch_uses v)))]]) H := hP
  have hD : va_D A (bl [[(o, .inr (0, [.ref qa, .ref qb, .ref qc, .int (Ch_kind v), .int (Ch_present v), .int (Ch_change v), .int (Ch_changeLeft v)]))], [(qa, .inl (E.2.1, 6, .inl (Ch_intensities v)))], [(qb, .inl (E.2.1, 6, .inl (Ch_lives v)))], [(qc, .inl (E.2.1, 6, .inl (Ch_uses v)))]]) := hD
  refine W.eq (g2 := F0 m 4 ls [.int q1]) rfl ?_
  refine f_if_eq (tgt := 16) hx hb dX1_useOf_4 (by decide) hF (fun hF => ?_) (fun hF => ?_)
  · refine lv_iconst (v := 0) hx hb dX1_useOf_16 (by decide) ?_
    exact g_iret (rvf := fun z => some (.int z)) (W1f := fun z => bl [Ch_c E o qa qb qc v]) hx hb hr hlocks hQ hF rfl hP hD hS [0, 1, 2, 3] rfl rfl dX1_useOf_17
  · refine lv_aload_n hx hb dX1_useOf_7 rfl (lv_at hl 0 rfl) ?_
    refine g_get (T := TX1) (N := 7) hx hb hts in_X1 hown hK hP 0 rfl rfl 2 (by decide) w0 rfl rfl dX1_useOf_8 ?_
    refine lv_iload_n hx hb dX1_useOf_11 rfl (lv_at hl 1 rfl) ?_
    refine f_iald hx hb hK hP 3 rfl hF dX1_useOf_12 (fun hF => ?_)
    refine lv_goto (tgt := 17) hx hb dX1_useOf_13 (by decide) ?_
    exact g_iret (rvf := fun z => some (.int z)) (W1f := fun z => bl [Ch_c E o qa qb qc v]) hx hb hr hlocks hQ hF rfl hP hD hS [0, 1, 2, 3] rfl rfl dX1_useOf_17
def F_X1_brightnessOf (v : ChV) (p0 : Int32) : Option (Int32) := (F_X1_isPlace p0).bind fun q1 => if q1 = 0 then some 0 else chk p0 6 (if 1 ≤ ((Ch_lives v) p0.toNatClampNeg) then chk p0 6 (chk p0 6 (chk p0 6 (nzd (2 * ((Ch_lives v) p0.toNatClampNeg)) (some (((Ch_intensities v) p0.toNatClampNeg) - ((((Ch_intensities v) p0.toNatClampNeg) * ((Ch_uses v) p0.toNatClampNeg)) / (2 * ((Ch_lives v) p0.toNatClampNeg)))))))) else some 0)
set_option maxHeartbeats 4000000 in
set_option maxRecDepth 100000 in
theorem c_X1_brightnessOf (l : Launch) (E : GE) (o : Nat) (qa : Nat) (qb : Nat) (qc : Nat) (v : ChV) (p0 : Int32) (r : Int32) (hF : F_X1_brightnessOf v p0 = some r) : CT l E yX1_brightnessOf wsX1_brightnessOf ({ frames := 1, cells := 0, slots := 0, locals := 20 } : Room) [.ref o, .int p0] (bl [Ch_c E o qa qb qc v]) (some (.int r)) (bl [Ch_c E o qa qb qc v]) 0 0 := by
  refine CT.of (cc := cX1_brightnessOf) (maxL := 3) (ret := (some .int)) (by decide) rfl (Nat.le_of_ble_eq_true rfl) ?_
  intro p e s m args below meth cd A Q ls B hQ hP hD hS hl
  obtain ⟨hx, hb, hml, hown, hts, hr, hlocks, hK, hZ, hA, hnm⟩ := B
  have hown : s.vm.findClass RX1 = some m.cls := hown
  have hl : lv_has ls 3 [(0, .ref o), (1, .int p0)] := hl
  have w0 := hts (.fieldLink RX1 15 "HarborLight$Changer" "lives" "[I") (by decide +kernel)
  have w1 := hts (.fieldLink RX1 11 "HarborLight$Changer" "intensities" "[I") (by decide +kernel)
  have w2 := hts (.fieldLink RX1 18 "HarborLight$Changer" "uses" "[I") (by decide +kernel)
  have in_X1 : ∀ w ∈ wsX10, w ∈ wsX1_brightnessOf := by decide +kernel
  have hP : va_P E.1 vwCl (bl [[(o, .inr (0, [.ref qa, .ref qb, .ref qc, .int (Ch_kind v), .int (Ch_present v), .int (Ch_change v), .int (Ch_changeLeft v)]))], [(qa, .inl (E.2.1, 6, .inl (Ch_intensities v)))], [(qb, .inl (E.2.1, 6, .inl (Ch_lives v)))], [(qc, .inl (E.2.1, 6, .inl (Ch_uses v)))]]) s.heap := hP
  have hD : va_D A (bl [[(o, .inr (0, [.ref qa, .ref qb, .ref qc, .int (Ch_kind v), .int (Ch_present v), .int (Ch_change v), .int (Ch_changeLeft v)]))], [(qa, .inl (E.2.1, 6, .inl (Ch_intensities v)))], [(qb, .inl (E.2.1, 6, .inl (Ch_lives v)))], [(qc, .inl (E.2.1, 6, .inl (Ch_uses v)))]]) := hD
  unfold F_X1_brightnessOf at hF
  refine lv_iload_n hx hb dX1_brightnessOf_0 rfl (lv_at hl 1 rfl) ?_
  obtain ⟨q1, h_q1, hF⟩ := bnd_s hF
  refine g_callS (As := [.int p0]) (rest := []) ⟨hx, hb, hml, hown, hts⟩ hK hZ hA (c_X1_isPlace l E  p0 q1 h_q1) (va_cwS 1 hts gX1_brightnessOf_X1_isPlace rfl rfl rfl (by decide +kernel) ⟨Nat.le_of_ble_eq_true rfl, Nat.le_of_ble_eq_true rfl⟩) hP hD hS [] [0, 1, 2, 3] rfl rfl rfl hl.1 rfl (Nat.le_of_ble_eq_true rfl) dX1_brightnessOf_1 ⟨Nat.le_of_ble_eq_true rfl, Nat.le_of_ble_eq_true rfl⟩ (fun H locs hP hD hS => ?_)
  have hP : va_P E.1 vwCl (bl [[(o, .inr (0, [.ref qa, .ref qb, .ref qc, .int (Ch_kind v), .int (Ch_present v), .int (Ch_change v), .int (Ch_changeLeft v)]))], [(qa, .inl (E.2.1, 6, .inl (Ch_intensities v)))], [(qb, .inl (E.2.1, 6, .inl (Ch_lives v)))], [(qc, .inl (E.2.1, 6, .inl (Ch_uses v)))]]) H := hP
  have hD : va_D A (bl [[(o, .inr (0, [.ref qa, .ref qb, .ref qc, .int (Ch_kind v), .int (Ch_present v), .int (Ch_change v), .int (Ch_changeLeft v)]))], [(qa, .inl (E.2.1, 6, .inl (Ch_intensities v)))], [(qb, .inl (E.2.1, 6, .inl (Ch_lives v)))], [(qc, .inl (E.2.1, 6, .inl (Ch_uses v)))]]) := hD
  refine W.eq (g2 := F0 m 4 ls [.int q1]) rfl ?_
  refine f_if_eq (tgt := 17) hx hb dX1_brightnessOf_4 (by decide) hF (fun hF => ?_) (fun hF => ?_)
  · refine lv_iconst (v := 0) hx hb dX1_brightnessOf_17 (by decide) ?_
    exact g_iret (rvf := fun z => some (.int z)) (W1f := fun z => bl [Ch_c E o qa qb qc v]) hx hb hr hlocks hQ hF rfl hP hD hS [0, 1, 2, 3] rfl rfl dX1_brightnessOf_18
  · refine lv_aload_n hx hb dX1_brightnessOf_7 rfl (lv_at hl 0 rfl) ?_
    refine g_get (T := TX1) (N := 7) hx hb hts in_X1 hown hK hP 0 rfl rfl 1 (by decide) w0 rfl rfl dX1_brightnessOf_8 ?_
    refine lv_iload_n hx hb dX1_brightnessOf_11 rfl (lv_at hl 1 rfl) ?_
    refine f_iald hx hb hK hP 2 rfl hF dX1_brightnessOf_12 (fun hF => ?_)
    refine lv_iconst (v := 1) hx hb dX1_brightnessOf_13 (by decide) ?_
    refine f_icmp_ge (tgt := 19) hx hb dX1_brightnessOf_14 (by decide) hF (fun hF => ?_) (fun hF => ?_)
    · refine lv_aload_n hx hb dX1_brightnessOf_19 rfl (lv_at hl 0 rfl) ?_
      refine g_get (T := TX1) (N := 7) hx hb hts in_X1 hown hK hP 0 rfl rfl 0 (by decide) w1 rfl rfl dX1_brightnessOf_20 ?_
      refine lv_iload_n hx hb dX1_brightnessOf_23 rfl (lv_at hl 1 rfl) ?_
      refine f_iald hx hb hK hP 1 rfl hF dX1_brightnessOf_24 (fun hF => ?_)
      refine lv_istore_n (lv' := [(2, .int ((Ch_intensities v) p0.toNatClampNeg)), (0, .ref o), (1, .int p0)]) hx hb dX1_brightnessOf_25 rfl hl (by decide) rfl (fun ls hl => ?_)
      refine lv_iload_n hx hb dX1_brightnessOf_26 rfl (lv_at hl 0 rfl) ?_
      refine lv_iload_n hx hb dX1_brightnessOf_27 rfl (lv_at hl 0 rfl) ?_
      refine lv_aload_n hx hb dX1_brightnessOf_28 rfl (lv_at hl 1 rfl) ?_
      refine g_get (T := TX1) (N := 7) hx hb hts in_X1 hown hK hP 0 rfl rfl 2 (by decide) w2 rfl rfl dX1_brightnessOf_29 ?_
      refine lv_iload_n hx hb dX1_brightnessOf_32 rfl (lv_at hl 2 rfl) ?_
      refine f_iald hx hb hK hP 3 rfl hF dX1_brightnessOf_33 (fun hF => ?_)
      refine lv_imul hx hb dX1_brightnessOf_34 ?_
      refine lv_iconst (v := 2) hx hb dX1_brightnessOf_35 (by decide) ?_
      refine lv_aload_n hx hb dX1_brightnessOf_36 rfl (lv_at hl 1 rfl) ?_
      refine g_get (T := TX1) (N := 7) hx hb hts in_X1 hown hK hP 0 rfl rfl 1 (by decide) w0 rfl rfl dX1_brightnessOf_37 ?_
      refine lv_iload_n hx hb dX1_brightnessOf_40 rfl (lv_at hl 2 rfl) ?_
      refine f_iald hx hb hK hP 2 rfl hF dX1_brightnessOf_41 (fun hF => ?_)
      refine lv_imul hx hb dX1_brightnessOf_42 ?_
      refine f_idiv hx hb hF dX1_brightnessOf_43 (fun hF => ?_)
      refine lv_isub hx hb dX1_brightnessOf_44 ?_
      exact g_iret (rvf := fun z => some (.int z)) (W1f := fun z => bl [Ch_c E o qa qb qc v]) hx hb hr hlocks hQ hF rfl hP hD hS [0, 1, 2, 3] rfl rfl dX1_brightnessOf_45
    · refine lv_iconst (v := 0) hx hb dX1_brightnessOf_17 (by decide) ?_
      exact g_iret (rvf := fun z => some (.int z)) (W1f := fun z => bl [Ch_c E o qa qb qc v]) hx hb hr hlocks hQ hF rfl hP hD hS [0, 1, 2, 3] rfl rfl dX1_brightnessOf_18
def F_X1_lamps_L4 (n : Nat) : Nat → ChV → Int32 → Int32 → Option (Int32)
  | 0, _, _, _ => none
  | k + 1, v, x1, x2 => if 6 ≤ x2 then some x1 else (F_X1_hasLamp v x2).bind fun q1 => if q1 = 0 then F_X1_lamps_L4 n k v x1 (x2 + 1) else F_X1_lamps_L4 n k v (x1 + 1) (x2 + 1)
def F_X1_lamps (n : Nat) (v : ChV) : Option (Int32) := F_X1_lamps_L4 n n v 0 0
set_option maxHeartbeats 4000000 in
set_option maxRecDepth 100000 in
theorem c_X1_lamps (l : Launch) (E : GE) (o : Nat) (qa : Nat) (qb : Nat) (qc : Nat) (n : Nat) (v : ChV) (r : Int32) (hF : F_X1_lamps n v = some r) : CT l E yX1_lamps wsX1_lamps ({ frames := 2, cells := 0, slots := 0, locals := 41 } : Room) [.ref o] (bl [Ch_c E o qa qb qc v]) (some (.int r)) (bl [Ch_c E o qa qb qc v]) 0 0 := by
  refine CT.of (cc := cX1_lamps) (maxL := 3) (ret := (some .int)) (by decide) rfl (Nat.le_of_ble_eq_true rfl) ?_
  intro p e s m args below meth cd A Q ls B hQ hP hD hS hl
  obtain ⟨hx, hb, hml, hown, hts, hr, hlocks, hK, hZ, hA, hnm⟩ := B
  have hown : s.vm.findClass RX1 = some m.cls := hown
  have hl : lv_has ls 3 [(0, .ref o)] := hl
  have hL4 : ∀ (k : Nat) (x1 : Int32) (x2 : Int32) (H : Heap) (locs : List Loc), va_P E.1 vwCl (bl [Ch_c E o qa qb qc v]) H → va_D A (bl [Ch_c E o qa qb qc v]) → va_S A s.heap H locs → ∀ ls : Array Slot, lv_has ls 3 [(0, .ref o), (1, .int x1), (2, .int x2)] → F_X1_lamps_L4 n k v x1 x2 = some r → W p l e ({ frames := 2, cells := 0, slots := 0, locals := 41 } : Room) s m args below meth cd H locs 0 0 Q (F0 m 4 ls []) := by
    intro k
    induction k with
    | zero => intro x1 x2 H locs hP hD hS ls hl hF; cases hF
    | succ k ih =>
      intro x1 x2 H locs hP hD hS ls hl hF
      rw [F_X1_lamps_L4] at hF
      refine lv_iload_n hx hb dX1_lamps_4 rfl (lv_at hl 2 rfl) ?_
      refine lv_bipush (v := 6) hx hb dX1_lamps_5 (by decide) ?_
      refine f_icmp_ge (tgt := 27) hx hb dX1_lamps_7 (by decide) hF (fun hF => ?_) (fun hF => ?_)
      · refine lv_iload_n hx hb dX1_lamps_27 rfl (lv_at hl 1 rfl) ?_
        exact g_iret (rvf := fun z => some (.int z)) (W1f := fun z => bl [Ch_c E o qa qb qc v]) hx hb hr hlocks hQ hF rfl hP hD hS [0] rfl rfl dX1_lamps_28
      · refine lv_aload_n hx hb dX1_lamps_10 rfl (lv_at hl 0 rfl) ?_
        refine lv_iload_n hx hb dX1_lamps_11 rfl (lv_at hl 2 rfl) ?_
        obtain ⟨q1, h_q1, hF⟩ := bnd_s hF
        refine g_callV (As := [.int x2]) (rest := []) ⟨hx, hb, hml, hown, hts⟩ hK hZ hA (c_X1_hasLamp l E o qa qb qc v x2 q1 h_q1) (cwV 1 hts gX1_lamps_X1_hasLamp rfl rfl rfl (by decide +kernel) ⟨Nat.le_of_ble_eq_true rfl, Nat.le_of_ble_eq_true rfl⟩) hP hD hS [0] [] rfl rfl rfl rfl rfl rfl hl.1 rfl (Nat.le_of_ble_eq_true rfl) dX1_lamps_12 ⟨Nat.le_of_ble_eq_true rfl, Nat.le_of_ble_eq_true rfl⟩ (fun H locs hP hD hS => ?_)
        have hP : va_P E.1 vwCl (bl [Ch_c E o qa qb qc v]) H := hP
        have hD : va_D A (bl [Ch_c E o qa qb qc v]) := hD
        refine W.eq (g2 := F0 m 15 ls [.int q1]) rfl ?_
        refine f_if_eq (tgt := 21) hx hb dX1_lamps_15 (by decide) hF (fun hF => ?_) (fun hF => ?_)
        · refine lv_iinc (v := (x2 + 1)) (lv' := [(2, .int (x2 + 1)), (0, .ref o), (1, .int x1)]) hx hb dX1_lamps_21 hl (k := 2) rfl rfl (by decide) rfl (fun ls hl => ?_)
          refine lv_goto (tgt := 4) hx hb dX1_lamps_24 (by decide) ?_
          exact ih x1 (x2 + 1) _ _ hP hD hS _ (lv_sub hl [1, 2, 0] rfl) hF
        · refine lv_iinc (v := (x1 + 1)) (lv' := [(1, .int (x1 + 1)), (0, .ref o), (2, .int x2)]) hx hb dX1_lamps_18 hl (k := 1) rfl rfl (by decide) rfl (fun ls hl => ?_)
          refine lv_iinc (v := (x2 + 1)) (lv' := [(2, .int (x2 + 1)), (1, .int (x1 + 1)), (0, .ref o)]) hx hb dX1_lamps_21 hl (k := 2) rfl rfl (by decide) rfl (fun ls hl => ?_)
          refine lv_goto (tgt := 4) hx hb dX1_lamps_24 (by decide) ?_
          exact ih (x1 + 1) (x2 + 1) _ _ hP hD hS _ (lv_sub hl [2, 1, 0] rfl) hF
  unfold F_X1_lamps at hF
  refine lv_iconst (v := 0) hx hb dX1_lamps_0 (by decide) ?_
  refine lv_istore_n (lv' := [(1, .int 0), (0, .ref o)]) hx hb dX1_lamps_1 rfl hl (by decide) rfl (fun ls hl => ?_)
  refine lv_iconst (v := 0) hx hb dX1_lamps_2 (by decide) ?_
  refine lv_istore_n (lv' := [(2, .int 0), (1, .int 0), (0, .ref o)]) hx hb dX1_lamps_3 rfl hl (by decide) rfl (fun ls hl => ?_)
  exact hL4 n 0 0 _ _ hP hD hS _ (lv_sub hl [2, 1, 0] rfl) hF
def F_X1_canBurn (v : ChV) (p0 : Int32) : Option (Int32) := (F_X1_isPlace p0).bind fun q1 => if q1 = 0 then some 0 else chk p0 6 (chk p0 6 (if ((Ch_lives v) p0.toNatClampNeg) ≤ ((Ch_uses v) p0.toNatClampNeg) then some 0 else some 1))
set_option maxHeartbeats 4000000 in
set_option maxRecDepth 100000 in
theorem c_X1_canBurn (l : Launch) (E : GE) (o : Nat) (qa : Nat) (qb : Nat) (qc : Nat) (v : ChV) (p0 : Int32) (r : Int32) (hF : F_X1_canBurn v p0 = some r) : CT l E yX1_canBurn wsX1_canBurn ({ frames := 1, cells := 0, slots := 0, locals := 20 } : Room) [.ref o, .int p0] (bl [Ch_c E o qa qb qc v]) (some (.int r)) (bl [Ch_c E o qa qb qc v]) 0 0 := by
  refine CT.of (cc := cX1_canBurn) (maxL := 2) (ret := (some .boolean)) (by decide) rfl (Nat.le_of_ble_eq_true rfl) ?_
  intro p e s m args below meth cd A Q ls B hQ hP hD hS hl
  obtain ⟨hx, hb, hml, hown, hts, hr, hlocks, hK, hZ, hA, hnm⟩ := B
  have hown : s.vm.findClass RX1 = some m.cls := hown
  have hl : lv_has ls 2 [(0, .ref o), (1, .int p0)] := hl
  have w0 := hts (.fieldLink RX1 18 "HarborLight$Changer" "uses" "[I") (by decide +kernel)
  have w1 := hts (.fieldLink RX1 15 "HarborLight$Changer" "lives" "[I") (by decide +kernel)
  have in_X1 : ∀ w ∈ wsX10, w ∈ wsX1_canBurn := by decide +kernel
  have hP : va_P E.1 vwCl (bl [[(o, .inr (0, [.ref qa, .ref qb, .ref qc, .int (Ch_kind v), .int (Ch_present v), .int (Ch_change v), .int (Ch_changeLeft v)]))], [(qa, .inl (E.2.1, 6, .inl (Ch_intensities v)))], [(qb, .inl (E.2.1, 6, .inl (Ch_lives v)))], [(qc, .inl (E.2.1, 6, .inl (Ch_uses v)))]]) s.heap := hP
  have hD : va_D A (bl [[(o, .inr (0, [.ref qa, .ref qb, .ref qc, .int (Ch_kind v), .int (Ch_present v), .int (Ch_change v), .int (Ch_changeLeft v)]))], [(qa, .inl (E.2.1, 6, .inl (Ch_intensities v)))], [(qb, .inl (E.2.1, 6, .inl (Ch_lives v)))], [(qc, .inl (E.2.1, 6, .inl (Ch_uses v)))]]) := hD
  unfold F_X1_canBurn at hF
  refine lv_iload_n hx hb dX1_canBurn_0 rfl (lv_at hl 1 rfl) ?_
  obtain ⟨q1, h_q1, hF⟩ := bnd_s hF
  refine g_callS (As := [.int p0]) (rest := []) ⟨hx, hb, hml, hown, hts⟩ hK hZ hA (c_X1_isPlace l E  p0 q1 h_q1) (va_cwS 1 hts gX1_canBurn_X1_isPlace rfl rfl rfl (by decide +kernel) ⟨Nat.le_of_ble_eq_true rfl, Nat.le_of_ble_eq_true rfl⟩) hP hD hS [] [0, 1, 2, 3] rfl rfl rfl hl.1 rfl (Nat.le_of_ble_eq_true rfl) dX1_canBurn_1 ⟨Nat.le_of_ble_eq_true rfl, Nat.le_of_ble_eq_true rfl⟩ (fun H locs hP hD hS => ?_)
  have hP : va_P E.1 vwCl (bl [[(o, .inr (0, [.ref qa, .ref qb, .ref qc, .int (Ch_kind v), .int (Ch_present v), .int (Ch_change v), .int (Ch_changeLeft v)]))], [(qa, .inl (E.2.1, 6, .inl (Ch_intensities v)))], [(qb, .inl (E.2.1, 6, .inl (Ch_lives v)))], [(qc, .inl (E.2.1, 6, .inl (Ch_uses v)))]]) H := hP
  have hD : va_D A (bl [[(o, .inr (0, [.ref qa, .ref qb, .ref qc, .int (Ch_kind v), .int (Ch_present v), .int (Ch_change v), .int (Ch_changeLeft v)]))], [(qa, .inl (E.2.1, 6, .inl (Ch_intensities v)))], [(qb, .inl (E.2.1, 6, .inl (Ch_lives v)))], [(qc, .inl (E.2.1, 6, .inl (Ch_uses v)))]]) := hD
  refine W.eq (g2 := F0 m 4 ls [.int q1]) rfl ?_
  refine f_if_eq (tgt := 26) hx hb dX1_canBurn_4 (by decide) hF (fun hF => ?_) (fun hF => ?_)
  · refine lv_iconst (v := 0) hx hb dX1_canBurn_26 (by decide) ?_
    exact g_zret (rvf := fun z => some (.int z)) (W1f := fun z => bl [Ch_c E o qa qb qc v]) hx hb hr hlocks rfl hQ hF rfl hP hD hS [0, 1, 2, 3] rfl rfl dX1_canBurn_27
  · refine lv_aload_n hx hb dX1_canBurn_7 rfl (lv_at hl 0 rfl) ?_
    refine g_get (T := TX1) (N := 7) hx hb hts in_X1 hown hK hP 0 rfl rfl 2 (by decide) w0 rfl rfl dX1_canBurn_8 ?_
    refine lv_iload_n hx hb dX1_canBurn_11 rfl (lv_at hl 1 rfl) ?_
    refine f_iald hx hb hK hP 3 rfl hF dX1_canBurn_12 (fun hF => ?_)
    refine lv_aload_n hx hb dX1_canBurn_13 rfl (lv_at hl 0 rfl) ?_
    refine g_get (T := TX1) (N := 7) hx hb hts in_X1 hown hK hP 0 rfl rfl 1 (by decide) w1 rfl rfl dX1_canBurn_14 ?_
    refine lv_iload_n hx hb dX1_canBurn_17 rfl (lv_at hl 1 rfl) ?_
    refine f_iald hx hb hK hP 2 rfl hF dX1_canBurn_18 (fun hF => ?_)
    refine f_icmp_ge (tgt := 26) hx hb dX1_canBurn_19 (by decide) hF (fun hF => ?_) (fun hF => ?_)
    · refine lv_iconst (v := 0) hx hb dX1_canBurn_26 (by decide) ?_
      exact g_zret (rvf := fun z => some (.int z)) (W1f := fun z => bl [Ch_c E o qa qb qc v]) hx hb hr hlocks rfl hQ hF rfl hP hD hS [0, 1, 2, 3] rfl rfl dX1_canBurn_27
    · refine lv_iconst (v := 1) hx hb dX1_canBurn_22 (by decide) ?_
      refine lv_goto (tgt := 27) hx hb dX1_canBurn_23 (by decide) ?_
      exact g_zret (rvf := fun z => some (.int z)) (W1f := fun z => bl [Ch_c E o qa qb qc v]) hx hb hr hlocks rfl hQ hF rfl hP hD hS [0, 1, 2, 3] rfl rfl dX1_canBurn_27
def F_X1_goodLamps_L4 (n : Nat) : Nat → ChV → Int32 → Int32 → Option (Int32)
  | 0, _, _, _ => none
  | k + 1, v, x1, x2 => if 6 ≤ x2 then some x1 else (F_X1_canBurn v x2).bind fun q1 => if q1 = 0 then F_X1_goodLamps_L4 n k v x1 (x2 + 1) else F_X1_goodLamps_L4 n k v (x1 + 1) (x2 + 1)
def F_X1_goodLamps (n : Nat) (v : ChV) : Option (Int32) := F_X1_goodLamps_L4 n n v 0 0
set_option maxHeartbeats 4000000 in
set_option maxRecDepth 100000 in
theorem c_X1_goodLamps (l : Launch) (E : GE) (o : Nat) (qa : Nat) (qb : Nat) (qc : Nat) (n : Nat) (v : ChV) (r : Int32) (hF : F_X1_goodLamps n v = some r) : CT l E yX1_goodLamps wsX1_goodLamps ({ frames := 2, cells := 0, slots := 0, locals := 41 } : Room) [.ref o] (bl [Ch_c E o qa qb qc v]) (some (.int r)) (bl [Ch_c E o qa qb qc v]) 0 0 := by
  refine CT.of (cc := cX1_goodLamps) (maxL := 3) (ret := (some .int)) (by decide) rfl (Nat.le_of_ble_eq_true rfl) ?_
  intro p e s m args below meth cd A Q ls B hQ hP hD hS hl
  obtain ⟨hx, hb, hml, hown, hts, hr, hlocks, hK, hZ, hA, hnm⟩ := B
  have hown : s.vm.findClass RX1 = some m.cls := hown
  have hl : lv_has ls 3 [(0, .ref o)] := hl
  have hL4 : ∀ (k : Nat) (x1 : Int32) (x2 : Int32) (H : Heap) (locs : List Loc), va_P E.1 vwCl (bl [Ch_c E o qa qb qc v]) H → va_D A (bl [Ch_c E o qa qb qc v]) → va_S A s.heap H locs → ∀ ls : Array Slot, lv_has ls 3 [(0, .ref o), (1, .int x1), (2, .int x2)] → F_X1_goodLamps_L4 n k v x1 x2 = some r → W p l e ({ frames := 2, cells := 0, slots := 0, locals := 41 } : Room) s m args below meth cd H locs 0 0 Q (F0 m 4 ls []) := by
    intro k
    induction k with
    | zero => intro x1 x2 H locs hP hD hS ls hl hF; cases hF
    | succ k ih =>
      intro x1 x2 H locs hP hD hS ls hl hF
      rw [F_X1_goodLamps_L4] at hF
      refine lv_iload_n hx hb dX1_goodLamps_4 rfl (lv_at hl 2 rfl) ?_
      refine lv_bipush (v := 6) hx hb dX1_goodLamps_5 (by decide) ?_
      refine f_icmp_ge (tgt := 27) hx hb dX1_goodLamps_7 (by decide) hF (fun hF => ?_) (fun hF => ?_)
      · refine lv_iload_n hx hb dX1_goodLamps_27 rfl (lv_at hl 1 rfl) ?_
        exact g_iret (rvf := fun z => some (.int z)) (W1f := fun z => bl [Ch_c E o qa qb qc v]) hx hb hr hlocks hQ hF rfl hP hD hS [0] rfl rfl dX1_goodLamps_28
      · refine lv_aload_n hx hb dX1_goodLamps_10 rfl (lv_at hl 0 rfl) ?_
        refine lv_iload_n hx hb dX1_goodLamps_11 rfl (lv_at hl 2 rfl) ?_
        obtain ⟨q1, h_q1, hF⟩ := bnd_s hF
        refine g_callV (As := [.int x2]) (rest := []) ⟨hx, hb, hml, hown, hts⟩ hK hZ hA (c_X1_canBurn l E o qa qb qc v x2 q1 h_q1) (cwV 1 hts gX1_goodLamps_X1_canBurn rfl rfl rfl (by decide +kernel) ⟨Nat.le_of_ble_eq_true rfl, Nat.le_of_ble_eq_true rfl⟩) hP hD hS [0] [] rfl rfl rfl rfl rfl rfl hl.1 rfl (Nat.le_of_ble_eq_true rfl) dX1_goodLamps_12 ⟨Nat.le_of_ble_eq_true rfl, Nat.le_of_ble_eq_true rfl⟩ (fun H locs hP hD hS => ?_)
        have hP : va_P E.1 vwCl (bl [Ch_c E o qa qb qc v]) H := hP
        have hD : va_D A (bl [Ch_c E o qa qb qc v]) := hD
        refine W.eq (g2 := F0 m 15 ls [.int q1]) rfl ?_
        refine f_if_eq (tgt := 21) hx hb dX1_goodLamps_15 (by decide) hF (fun hF => ?_) (fun hF => ?_)
        · refine lv_iinc (v := (x2 + 1)) (lv' := [(2, .int (x2 + 1)), (0, .ref o), (1, .int x1)]) hx hb dX1_goodLamps_21 hl (k := 2) rfl rfl (by decide) rfl (fun ls hl => ?_)
          refine lv_goto (tgt := 4) hx hb dX1_goodLamps_24 (by decide) ?_
          exact ih x1 (x2 + 1) _ _ hP hD hS _ (lv_sub hl [1, 2, 0] rfl) hF
        · refine lv_iinc (v := (x1 + 1)) (lv' := [(1, .int (x1 + 1)), (0, .ref o), (2, .int x2)]) hx hb dX1_goodLamps_18 hl (k := 1) rfl rfl (by decide) rfl (fun ls hl => ?_)
          refine lv_iinc (v := (x2 + 1)) (lv' := [(2, .int (x2 + 1)), (1, .int (x1 + 1)), (0, .ref o)]) hx hb dX1_goodLamps_21 hl (k := 2) rfl rfl (by decide) rfl (fun ls hl => ?_)
          refine lv_goto (tgt := 4) hx hb dX1_goodLamps_24 (by decide) ?_
          exact ih (x1 + 1) (x2 + 1) _ _ hP hD hS _ (lv_sub hl [2, 1, 0] rfl) hF
  unfold F_X1_goodLamps at hF
  refine lv_iconst (v := 0) hx hb dX1_goodLamps_0 (by decide) ?_
  refine lv_istore_n (lv' := [(1, .int 0), (0, .ref o)]) hx hb dX1_goodLamps_1 rfl hl (by decide) rfl (fun ls hl => ?_)
  refine lv_iconst (v := 0) hx hb dX1_goodLamps_2 (by decide) ?_
  refine lv_istore_n (lv' := [(2, .int 0), (1, .int 0), (0, .ref o)]) hx hb dX1_goodLamps_3 rfl hl (by decide) rfl (fun ls hl => ?_)
  exact hL4 n 0 0 _ _ hP hD hS _ (lv_sub hl [2, 1, 0] rfl) hF
def F_X1_lowestEmpty_L2 (n : Nat) : Nat → ChV → Int32 → Option (Int32)
  | 0, _, _ => none
  | k + 1, v, x1 => if 6 ≤ x1 then some (-1) else (F_X1_hasLamp v x1).bind fun q1 => if q1 = 0 then some x1 else F_X1_lowestEmpty_L2 n k v (x1 + 1)
def F_X1_lowestEmpty (n : Nat) (v : ChV) : Option (Int32) := F_X1_lowestEmpty_L2 n n v 0
set_option maxHeartbeats 4000000 in
set_option maxRecDepth 100000 in
theorem c_X1_lowestEmpty (l : Launch) (E : GE) (o : Nat) (qa : Nat) (qb : Nat) (qc : Nat) (n : Nat) (v : ChV) (r : Int32) (hF : F_X1_lowestEmpty n v = some r) : CT l E yX1_lowestEmpty wsX1_lowestEmpty ({ frames := 2, cells := 0, slots := 0, locals := 41 } : Room) [.ref o] (bl [Ch_c E o qa qb qc v]) (some (.int r)) (bl [Ch_c E o qa qb qc v]) 0 0 := by
  refine CT.of (cc := cX1_lowestEmpty) (maxL := 2) (ret := (some .int)) (by decide) rfl (Nat.le_of_ble_eq_true rfl) ?_
  intro p e s m args below meth cd A Q ls B hQ hP hD hS hl
  obtain ⟨hx, hb, hml, hown, hts, hr, hlocks, hK, hZ, hA, hnm⟩ := B
  have hown : s.vm.findClass RX1 = some m.cls := hown
  have hl : lv_has ls 2 [(0, .ref o)] := hl
  have hL2 : ∀ (k : Nat) (x1 : Int32) (H : Heap) (locs : List Loc), va_P E.1 vwCl (bl [Ch_c E o qa qb qc v]) H → va_D A (bl [Ch_c E o qa qb qc v]) → va_S A s.heap H locs → ∀ ls : Array Slot, lv_has ls 2 [(0, .ref o), (1, .int x1)] → F_X1_lowestEmpty_L2 n k v x1 = some r → W p l e ({ frames := 2, cells := 0, slots := 0, locals := 41 } : Room) s m args below meth cd H locs 0 0 Q (F0 m 2 ls []) := by
    intro k
    induction k with
    | zero => intro x1 H locs hP hD hS ls hl hF; cases hF
    | succ k ih =>
      intro x1 H locs hP hD hS ls hl hF
      rw [F_X1_lowestEmpty_L2] at hF
      refine lv_iload_n hx hb dX1_lowestEmpty_2 rfl (lv_at hl 1 rfl) ?_
      refine lv_bipush (v := 6) hx hb dX1_lowestEmpty_3 (by decide) ?_
      refine f_icmp_ge (tgt := 24) hx hb dX1_lowestEmpty_5 (by decide) hF (fun hF => ?_) (fun hF => ?_)
      · refine lv_iconst (v := (-1)) hx hb dX1_lowestEmpty_24 (by decide) ?_
        exact g_iret (rvf := fun z => some (.int z)) (W1f := fun z => bl [Ch_c E o qa qb qc v]) hx hb hr hlocks hQ hF rfl hP hD hS [0] rfl rfl dX1_lowestEmpty_25
      · refine lv_aload_n hx hb dX1_lowestEmpty_8 rfl (lv_at hl 0 rfl) ?_
        refine lv_iload_n hx hb dX1_lowestEmpty_9 rfl (lv_at hl 1 rfl) ?_
        obtain ⟨q1, h_q1, hF⟩ := bnd_s hF
        refine g_callV (As := [.int x1]) (rest := []) ⟨hx, hb, hml, hown, hts⟩ hK hZ hA (c_X1_hasLamp l E o qa qb qc v x1 q1 h_q1) (cwV 1 hts gX1_lowestEmpty_X1_hasLamp rfl rfl rfl (by decide +kernel) ⟨Nat.le_of_ble_eq_true rfl, Nat.le_of_ble_eq_true rfl⟩) hP hD hS [0] [] rfl rfl rfl rfl rfl rfl hl.1 rfl (Nat.le_of_ble_eq_true rfl) dX1_lowestEmpty_10 ⟨Nat.le_of_ble_eq_true rfl, Nat.le_of_ble_eq_true rfl⟩ (fun H locs hP hD hS => ?_)
        have hP : va_P E.1 vwCl (bl [Ch_c E o qa qb qc v]) H := hP
        have hD : va_D A (bl [Ch_c E o qa qb qc v]) := hD
        refine W.eq (g2 := F0 m 13 ls [.int q1]) rfl ?_
        refine f_if_ne (tgt := 18) hx hb dX1_lowestEmpty_13 (by decide) hF (fun hF => ?_) (fun hF => ?_)
        · refine lv_iinc (v := (x1 + 1)) (lv' := [(1, .int (x1 + 1)), (0, .ref o)]) hx hb dX1_lowestEmpty_18 hl (k := 1) rfl rfl (by decide) rfl (fun ls hl => ?_)
          refine lv_goto (tgt := 2) hx hb dX1_lowestEmpty_21 (by decide) ?_
          exact ih (x1 + 1) _ _ hP hD hS _ (lv_sub hl [1, 0] rfl) hF
        · refine lv_iload_n hx hb dX1_lowestEmpty_16 rfl (lv_at hl 1 rfl) ?_
          exact g_iret (rvf := fun z => some (.int z)) (W1f := fun z => bl [Ch_c E o qa qb qc v]) hx hb hr hlocks hQ hF rfl hP hD hS [0] rfl rfl dX1_lowestEmpty_17
  unfold F_X1_lowestEmpty at hF
  refine lv_iconst (v := 0) hx hb dX1_lowestEmpty_0 (by decide) ?_
  refine lv_istore_n (lv' := [(1, .int 0), (0, .ref o)]) hx hb dX1_lowestEmpty_1 rfl hl (by decide) rfl (fun ls hl => ?_)
  exact hL2 n 0 _ _ hP hD hS _ (lv_sub hl [1, 0] rfl) hF
def F_X1_beginsChange_L22 (n : Nat) : Nat → ChV → Int32 → Option (Int32 × ChV)
  | 0, _, _ => none
  | k + 1, u, x1 => if 6 ≤ x1 then some (0, u) else (F_X1_canBurn u (((Ch_present u) + x1) - ((Ch_present u) + x1) / 6 * 6)).bind fun q2 => if q2 = 0 then F_X1_beginsChange_L22 n k u (x1 + 1) else some (1, (Ch_mk (Ch_intensities u) (Ch_lives u) (Ch_uses u) (Ch_kind u) (((Ch_present u) + x1) - ((Ch_present u) + x1) / 6 * 6) (Ch_change u) (Ch_change u)))
def F_X1_beginsChange (n : Nat) (v : ChV) : Option (Int32 × ChV) := if 0 < (Ch_changeLeft v) then some (0, v) else (F_X1_canBurn v (Ch_present v)).bind fun q1 => if q1 = 0 then F_X1_beginsChange_L22 n n v 1 else some (0, v)
set_option maxHeartbeats 4000000 in
set_option maxRecDepth 100000 in
theorem c_X1_beginsChange (l : Launch) (E : GE) (o : Nat) (qa : Nat) (qb : Nat) (qc : Nat) (n : Nat) (v : ChV) (r : Int32 × ChV) (hF : F_X1_beginsChange n v = some r) : CT l E yX1_beginsChange wsX1_beginsChange ({ frames := 2, cells := 0, slots := 0, locals := 41 } : Room) [.ref o] (bl [Ch_c E o qa qb qc v]) (some (.int r.1)) (bl [Ch_c E o qa qb qc r.2]) 0 0 := by
  refine CT.of (cc := cX1_beginsChange) (maxL := 3) (ret := (some .boolean)) (by decide) rfl (Nat.le_of_ble_eq_true rfl) ?_
  intro p e s m args below meth cd A Q ls B hQ hP hD hS hl
  obtain ⟨hx, hb, hml, hown, hts, hr, hlocks, hK, hZ, hA, hnm⟩ := B
  have hown : s.vm.findClass RX1 = some m.cls := hown
  have hl : lv_has ls 3 [(0, .ref o)] := hl
  have w0 := hts (.fieldLink RX1 37 "HarborLight$Changer" "changeLeft" "I") (by decide +kernel)
  have w1 := hts (.fieldLink RX1 34 "HarborLight$Changer" "present" "I") (by decide +kernel)
  have w2 := hts (.fieldLink RX1 21 "HarborLight$Changer" "change" "I") (by decide +kernel)
  have in_X1 : ∀ w ∈ wsX10, w ∈ wsX1_beginsChange := by decide +kernel
  have hP : va_P E.1 vwCl (bl [[(o, .inr (0, [.ref qa, .ref qb, .ref qc, .int (Ch_kind v), .int (Ch_present v), .int (Ch_change v), .int (Ch_changeLeft v)]))], [(qa, .inl (E.2.1, 6, .inl (Ch_intensities v)))], [(qb, .inl (E.2.1, 6, .inl (Ch_lives v)))], [(qc, .inl (E.2.1, 6, .inl (Ch_uses v)))]]) s.heap := hP
  have hD : va_D A (bl [[(o, .inr (0, [.ref qa, .ref qb, .ref qc, .int (Ch_kind v), .int (Ch_present v), .int (Ch_change v), .int (Ch_changeLeft v)]))], [(qa, .inl (E.2.1, 6, .inl (Ch_intensities v)))], [(qb, .inl (E.2.1, 6, .inl (Ch_lives v)))], [(qc, .inl (E.2.1, 6, .inl (Ch_uses v)))]]) := hD
  have hL22 : ∀ (k : Nat) (u : ChV) (x1 : Int32) (H : Heap) (locs : List Loc), va_P E.1 vwCl (bl [[(o, .inr (0, [.ref qa, .ref qb, .ref qc, .int (Ch_kind u), .int (Ch_present u), .int (Ch_change u), .int (Ch_changeLeft u)]))], [(qa, .inl (E.2.1, 6, .inl (Ch_intensities u)))], [(qb, .inl (E.2.1, 6, .inl (Ch_lives u)))], [(qc, .inl (E.2.1, 6, .inl (Ch_uses u)))]]) H → va_D A (bl [[(o, .inr (0, [.ref qa, .ref qb, .ref qc, .int (Ch_kind u), .int (Ch_present u), .int (Ch_change u), .int (Ch_changeLeft u)]))], [(qa, .inl (E.2.1, 6, .inl (Ch_intensities u)))], [(qb, .inl (E.2.1, 6, .inl (Ch_lives u)))], [(qc, .inl (E.2.1, 6, .inl (Ch_uses u)))]]) → va_S A s.heap H locs → ∀ ls : Array Slot, lv_has ls 3 [(0, .ref o), (1, .int x1)] → F_X1_beginsChange_L22 n k u x1 = some r → W p l e ({ frames := 2, cells := 0, slots := 0, locals := 41 } : Room) s m args below meth cd H locs 0 0 Q (F0 m 22 ls []) := by
    intro k
    induction k with
    | zero => intro u x1 H locs hP hD hS ls hl hF; cases hF
    | succ k ih =>
      intro u x1 H locs hP hD hS ls hl hF
      rw [F_X1_beginsChange_L22] at hF
      refine lv_iload_n hx hb dX1_beginsChange_22 rfl (lv_at hl 1 rfl) ?_
      refine lv_bipush (v := 6) hx hb dX1_beginsChange_23 (by decide) ?_
      refine f_icmp_ge (tgt := 67) hx hb dX1_beginsChange_25 (by decide) hF (fun hF => ?_) (fun hF => ?_)
      · refine lv_iconst (v := 0) hx hb dX1_beginsChange_67 (by decide) ?_
        exact g_zret (rvf := fun z => some (.int z.1)) (W1f := fun z => bl [Ch_c E o qa qb qc z.2]) hx hb hr hlocks rfl hQ hF rfl hP hD hS [0, 1, 2, 3] rfl rfl dX1_beginsChange_68
      · refine lv_aload_n hx hb dX1_beginsChange_28 rfl (lv_at hl 0 rfl) ?_
        refine g_get (T := TX1) (N := 7) hx hb hts in_X1 hown hK hP 0 rfl rfl 4 (by decide) w1 rfl rfl dX1_beginsChange_29 ?_
        refine lv_iload_n hx hb dX1_beginsChange_32 rfl (lv_at hl 1 rfl) ?_
        refine lv_iadd hx hb dX1_beginsChange_33 ?_
        refine lv_bipush (v := 6) hx hb dX1_beginsChange_34 (by decide) ?_
        refine lv_irem hx hb dX1_beginsChange_36 (by decide) ?_
        refine lv_istore_n (lv' := [(2, .int (((Ch_present u) + x1) - ((Ch_present u) + x1) / 6 * 6)), (0, .ref o), (1, .int x1)]) hx hb dX1_beginsChange_37 rfl hl (by decide) rfl (fun ls hl => ?_)
        refine lv_aload_n hx hb dX1_beginsChange_38 rfl (lv_at hl 1 rfl) ?_
        refine lv_iload_n hx hb dX1_beginsChange_39 rfl (lv_at hl 0 rfl) ?_
        obtain ⟨q2, h_q2, hF⟩ := bnd_s hF
        refine g_callV (As := [.int (((Ch_present u) + x1) - ((Ch_present u) + x1) / 6 * 6)]) (rest := []) ⟨hx, hb, hml, hown, hts⟩ hK hZ hA (c_X1_canBurn l E o qa qb qc u (((Ch_present u) + x1) - ((Ch_present u) + x1) / 6 * 6) q2 h_q2) (cwV 1 hts gX1_beginsChange_X1_canBurn rfl rfl rfl (by decide +kernel) ⟨Nat.le_of_ble_eq_true rfl, Nat.le_of_ble_eq_true rfl⟩) hP hD hS [0, 1, 2, 3] [] rfl rfl rfl rfl rfl rfl hl.1 rfl (Nat.le_of_ble_eq_true rfl) dX1_beginsChange_40 ⟨Nat.le_of_ble_eq_true rfl, Nat.le_of_ble_eq_true rfl⟩ (fun H locs hP hD hS => ?_)
        have hP : va_P E.1 vwCl (bl [[(o, .inr (0, [.ref qa, .ref qb, .ref qc, .int (Ch_kind u), .int (Ch_present u), .int (Ch_change u), .int (Ch_changeLeft u)]))], [(qa, .inl (E.2.1, 6, .inl (Ch_intensities u)))], [(qb, .inl (E.2.1, 6, .inl (Ch_lives u)))], [(qc, .inl (E.2.1, 6, .inl (Ch_uses u)))]]) H := hP
        have hD : va_D A (bl [[(o, .inr (0, [.ref qa, .ref qb, .ref qc, .int (Ch_kind u), .int (Ch_present u), .int (Ch_change u), .int (Ch_changeLeft u)]))], [(qa, .inl (E.2.1, 6, .inl (Ch_intensities u)))], [(qb, .inl (E.2.1, 6, .inl (Ch_lives u)))], [(qc, .inl (E.2.1, 6, .inl (Ch_uses u)))]]) := hD
        refine W.eq (g2 := F0 m 43 ls [.int q2]) rfl ?_
        refine f_if_eq (tgt := 61) hx hb dX1_beginsChange_43 (by decide) hF (fun hF => ?_) (fun hF => ?_)
        · refine lv_iinc (v := (x1 + 1)) (lv' := [(1, .int (x1 + 1)), (2, .int (((Ch_present u) + x1) - ((Ch_present u) + x1) / 6 * 6)), (0, .ref o)]) hx hb dX1_beginsChange_61 hl (k := 2) rfl rfl (by decide) rfl (fun ls hl => ?_)
          refine lv_goto (tgt := 22) hx hb dX1_beginsChange_64 (by decide) ?_
          exact ih u (x1 + 1) _ _ hP hD hS _ (lv_sub hl [2, 0] rfl) hF
        · refine lv_aload_n hx hb dX1_beginsChange_46 rfl (lv_at hl 1 rfl) ?_
          refine lv_iload_n hx hb dX1_beginsChange_47 rfl (lv_at hl 0 rfl) ?_
          refine g_put (T := TX1) (N := 7) hx hb hts in_X1 tyX1 tyX1_ok nmX1 hown hK hP hD hS 0 rfl rfl 4 (by decide) w1 rfl rfl rfl rfl (Nat.le_of_ble_eq_true rfl) dX1_beginsChange_48 (fun H locs hP hD hS => ?_)
          have hP : va_P E.1 vwCl (bl [[(o, .inr (0, [.ref qa, .ref qb, .ref qc, .int (Ch_kind u), .int (((Ch_present u) + x1) - ((Ch_present u) + x1) / 6 * 6), .int (Ch_change u), .int (Ch_changeLeft u)]))], [(qa, .inl (E.2.1, 6, .inl (Ch_intensities u)))], [(qb, .inl (E.2.1, 6, .inl (Ch_lives u)))], [(qc, .inl (E.2.1, 6, .inl (Ch_uses u)))]]) H := hP
          have hD : va_D A (bl [[(o, .inr (0, [.ref qa, .ref qb, .ref qc, .int (Ch_kind u), .int (((Ch_present u) + x1) - ((Ch_present u) + x1) / 6 * 6), .int (Ch_change u), .int (Ch_changeLeft u)]))], [(qa, .inl (E.2.1, 6, .inl (Ch_intensities u)))], [(qb, .inl (E.2.1, 6, .inl (Ch_lives u)))], [(qc, .inl (E.2.1, 6, .inl (Ch_uses u)))]]) := hD
          refine lv_aload_n hx hb dX1_beginsChange_51 rfl (lv_at hl 1 rfl) ?_
          refine lv_aload_n hx hb dX1_beginsChange_52 rfl (lv_at hl 1 rfl) ?_
          refine g_get (T := TX1) (N := 7) hx hb hts in_X1 hown hK hP 0 rfl rfl 5 (by decide) w2 rfl rfl dX1_beginsChange_53 ?_
          refine g_put (T := TX1) (N := 7) hx hb hts in_X1 tyX1 tyX1_ok nmX1 hown hK hP hD hS 0 rfl rfl 6 (by decide) w0 rfl rfl rfl rfl (Nat.le_of_ble_eq_true rfl) dX1_beginsChange_56 (fun H locs hP hD hS => ?_)
          have hP : va_P E.1 vwCl (bl [[(o, .inr (0, [.ref qa, .ref qb, .ref qc, .int (Ch_kind u), .int (((Ch_present u) + x1) - ((Ch_present u) + x1) / 6 * 6), .int (Ch_change u), .int (Ch_change u)]))], [(qa, .inl (E.2.1, 6, .inl (Ch_intensities u)))], [(qb, .inl (E.2.1, 6, .inl (Ch_lives u)))], [(qc, .inl (E.2.1, 6, .inl (Ch_uses u)))]]) H := hP
          have hD : va_D A (bl [[(o, .inr (0, [.ref qa, .ref qb, .ref qc, .int (Ch_kind u), .int (((Ch_present u) + x1) - ((Ch_present u) + x1) / 6 * 6), .int (Ch_change u), .int (Ch_change u)]))], [(qa, .inl (E.2.1, 6, .inl (Ch_intensities u)))], [(qb, .inl (E.2.1, 6, .inl (Ch_lives u)))], [(qc, .inl (E.2.1, 6, .inl (Ch_uses u)))]]) := hD
          refine lv_iconst (v := 1) hx hb dX1_beginsChange_59 (by decide) ?_
          exact g_zret (rvf := fun z => some (.int z.1)) (W1f := fun z => bl [Ch_c E o qa qb qc z.2]) hx hb hr hlocks rfl hQ hF rfl hP hD hS [0, 1, 2, 3] rfl rfl dX1_beginsChange_60
  unfold F_X1_beginsChange at hF
  refine lv_aload_n hx hb dX1_beginsChange_0 rfl (lv_at hl 0 rfl) ?_
  refine g_get (T := TX1) (N := 7) hx hb hts in_X1 hown hK hP 0 rfl rfl 6 (by decide) w0 rfl rfl dX1_beginsChange_1 ?_
  refine f_if_gt (tgt := 18) hx hb dX1_beginsChange_4 (by decide) hF (fun hF => ?_) (fun hF => ?_)
  · refine lv_iconst (v := 0) hx hb dX1_beginsChange_18 (by decide) ?_
    exact g_zret (rvf := fun z => some (.int z.1)) (W1f := fun z => bl [Ch_c E o qa qb qc z.2]) hx hb hr hlocks rfl hQ hF rfl hP hD hS [0, 1, 2, 3] rfl rfl dX1_beginsChange_19
  · refine lv_aload_n hx hb dX1_beginsChange_7 rfl (lv_at hl 0 rfl) ?_
    refine lv_aload_n hx hb dX1_beginsChange_8 rfl (lv_at hl 0 rfl) ?_
    refine g_get (T := TX1) (N := 7) hx hb hts in_X1 hown hK hP 0 rfl rfl 4 (by decide) w1 rfl rfl dX1_beginsChange_9 ?_
    obtain ⟨q1, h_q1, hF⟩ := bnd_s hF
    refine g_callV (As := [.int (Ch_present v)]) (rest := []) ⟨hx, hb, hml, hown, hts⟩ hK hZ hA (c_X1_canBurn l E o qa qb qc v (Ch_present v) q1 h_q1) (cwV 1 hts gX1_beginsChange_X1_canBurn rfl rfl rfl (by decide +kernel) ⟨Nat.le_of_ble_eq_true rfl, Nat.le_of_ble_eq_true rfl⟩) hP hD hS [0, 1, 2, 3] [] rfl rfl rfl rfl rfl rfl hl.1 rfl (Nat.le_of_ble_eq_true rfl) dX1_beginsChange_12 ⟨Nat.le_of_ble_eq_true rfl, Nat.le_of_ble_eq_true rfl⟩ (fun H locs hP hD hS => ?_)
    have hP : va_P E.1 vwCl (bl [[(o, .inr (0, [.ref qa, .ref qb, .ref qc, .int (Ch_kind v), .int (Ch_present v), .int (Ch_change v), .int (Ch_changeLeft v)]))], [(qa, .inl (E.2.1, 6, .inl (Ch_intensities v)))], [(qb, .inl (E.2.1, 6, .inl (Ch_lives v)))], [(qc, .inl (E.2.1, 6, .inl (Ch_uses v)))]]) H := hP
    have hD : va_D A (bl [[(o, .inr (0, [.ref qa, .ref qb, .ref qc, .int (Ch_kind v), .int (Ch_present v), .int (Ch_change v), .int (Ch_changeLeft v)]))], [(qa, .inl (E.2.1, 6, .inl (Ch_intensities v)))], [(qb, .inl (E.2.1, 6, .inl (Ch_lives v)))], [(qc, .inl (E.2.1, 6, .inl (Ch_uses v)))]]) := hD
    refine W.eq (g2 := F0 m 15 ls [.int q1]) rfl ?_
    refine f_if_eq (tgt := 20) hx hb dX1_beginsChange_15 (by decide) hF (fun hF => ?_) (fun hF => ?_)
    · refine lv_iconst (v := 1) hx hb dX1_beginsChange_20 (by decide) ?_
      refine lv_istore_n (lv' := [(1, .int 1), (0, .ref o)]) hx hb dX1_beginsChange_21 rfl hl (by decide) rfl (fun ls hl => ?_)
      exact hL22 n v 1 _ _ hP hD hS _ (lv_sub hl [1, 0] rfl) hF
    · refine lv_iconst (v := 0) hx hb dX1_beginsChange_18 (by decide) ?_
      exact g_zret (rvf := fun z => some (.int z.1)) (W1f := fun z => bl [Ch_c E o qa qb qc z.2]) hx hb hr hlocks rfl hQ hF rfl hP hD hS [0, 1, 2, 3] rfl rfl dX1_beginsChange_19
def F_X1_spend (v : ChV) (p0 : Int32) (p1 : Int32) : Option (Int32 × ChV) := if (Ch_changeLeft v) ≤ 0 then (F_X1_isPlace (Ch_present v)).bind fun q1 => if q1 = 0 then some (3, v) else (F_X1_canBurn v (Ch_present v)).bind fun q2 => if q2 = 0 then some (3, v) else if p1 = 0 then if (Ch_kind v) = 1 then if (p0 - p0 / 4 * 4) = 0 then chk (Ch_present v) 6 (chk (Ch_present v) 6 (some (1, (Ch_mk (Ch_intensities v) (Ch_lives v) (upd (Ch_uses v) (Ch_present v).toNatClampNeg (((Ch_uses v) (Ch_present v).toNatClampNeg) + 1)) (Ch_kind v) (Ch_present v) (Ch_change v) (Ch_changeLeft v))))) else some (1, v) else some (1, v) else chk (Ch_present v) 6 (chk (Ch_present v) 6 (some (0, (Ch_mk (Ch_intensities v) (Ch_lives v) (upd (Ch_uses v) (Ch_present v).toNatClampNeg (((Ch_uses v) (Ch_present v).toNatClampNeg) + 1)) (Ch_kind v) (Ch_present v) (Ch_change v) (Ch_changeLeft v))))) else some (2, (Ch_mk (Ch_intensities v) (Ch_lives v) (Ch_uses v) (Ch_kind v) (Ch_present v) (Ch_change v) ((Ch_changeLeft v) - 1)))
set_option maxHeartbeats 4000000 in
set_option maxRecDepth 100000 in
theorem c_X1_spend (l : Launch) (E : GE) (o : Nat) (qa : Nat) (qb : Nat) (qc : Nat) (v : ChV) (p0 : Int32) (p1 : Int32) (r : Int32 × ChV) (hF : F_X1_spend v p0 p1 = some r) : CT l E yX1_spend wsX1_spend ({ frames := 2, cells := 0, slots := 0, locals := 41 } : Room) [.ref o, .int p0, .int p1] (bl [Ch_c E o qa qb qc v]) (some (.int r.1)) (bl [Ch_c E o qa qb qc r.2]) 0 0 := by
  refine CT.of (cc := cX1_spend) (maxL := 3) (ret := (some .int)) (by decide) rfl (Nat.le_of_ble_eq_true rfl) ?_
  intro p e s m args below meth cd A Q ls B hQ hP hD hS hl
  obtain ⟨hx, hb, hml, hown, hts, hr, hlocks, hK, hZ, hA, hnm⟩ := B
  have hown : s.vm.findClass RX1 = some m.cls := hown
  have hl : lv_has ls 3 [(0, .ref o), (1, .int p0), (2, .int p1)] := hl
  have w0 := hts (.fieldLink RX1 37 "HarborLight$Changer" "changeLeft" "I") (by decide +kernel)
  have w1 := hts (.fieldLink RX1 34 "HarborLight$Changer" "present" "I") (by decide +kernel)
  have w2 := hts (.fieldLink RX1 31 "HarborLight$Changer" "kind" "I") (by decide +kernel)
  have w3 := hts (.fieldLink RX1 18 "HarborLight$Changer" "uses" "[I") (by decide +kernel)
  have in_X1 : ∀ w ∈ wsX10, w ∈ wsX1_spend := by decide +kernel
  have hP : va_P E.1 vwCl (bl [[(o, .inr (0, [.ref qa, .ref qb, .ref qc, .int (Ch_kind v), .int (Ch_present v), .int (Ch_change v), .int (Ch_changeLeft v)]))], [(qa, .inl (E.2.1, 6, .inl (Ch_intensities v)))], [(qb, .inl (E.2.1, 6, .inl (Ch_lives v)))], [(qc, .inl (E.2.1, 6, .inl (Ch_uses v)))]]) s.heap := hP
  have hD : va_D A (bl [[(o, .inr (0, [.ref qa, .ref qb, .ref qc, .int (Ch_kind v), .int (Ch_present v), .int (Ch_change v), .int (Ch_changeLeft v)]))], [(qa, .inl (E.2.1, 6, .inl (Ch_intensities v)))], [(qb, .inl (E.2.1, 6, .inl (Ch_lives v)))], [(qc, .inl (E.2.1, 6, .inl (Ch_uses v)))]]) := hD
  unfold F_X1_spend at hF
  refine lv_aload_n hx hb dX1_spend_0 rfl (lv_at hl 0 rfl) ?_
  refine g_get (T := TX1) (N := 7) hx hb hts in_X1 hown hK hP 0 rfl rfl 6 (by decide) w0 rfl rfl dX1_spend_1 ?_
  refine f_if_le (tgt := 19) hx hb dX1_spend_4 (by decide) hF (fun hF => ?_) (fun hF => ?_)
  · refine lv_aload_n hx hb dX1_spend_19 rfl (lv_at hl 0 rfl) ?_
    refine g_get (T := TX1) (N := 7) hx hb hts in_X1 hown hK hP 0 rfl rfl 4 (by decide) w1 rfl rfl dX1_spend_20 ?_
    obtain ⟨q1, h_q1, hF⟩ := bnd_s hF
    refine g_callS (As := [.int (Ch_present v)]) (rest := []) ⟨hx, hb, hml, hown, hts⟩ hK hZ hA (c_X1_isPlace l E  (Ch_present v) q1 h_q1) (va_cwS 1 hts gX1_spend_X1_isPlace rfl rfl rfl (by decide +kernel) ⟨Nat.le_of_ble_eq_true rfl, Nat.le_of_ble_eq_true rfl⟩) hP hD hS [] [0, 1, 2, 3] rfl rfl rfl hl.1 rfl (Nat.le_of_ble_eq_true rfl) dX1_spend_23 ⟨Nat.le_of_ble_eq_true rfl, Nat.le_of_ble_eq_true rfl⟩ (fun H locs hP hD hS => ?_)
    have hP : va_P E.1 vwCl (bl [[(o, .inr (0, [.ref qa, .ref qb, .ref qc, .int (Ch_kind v), .int (Ch_present v), .int (Ch_change v), .int (Ch_changeLeft v)]))], [(qa, .inl (E.2.1, 6, .inl (Ch_intensities v)))], [(qb, .inl (E.2.1, 6, .inl (Ch_lives v)))], [(qc, .inl (E.2.1, 6, .inl (Ch_uses v)))]]) H := hP
    have hD : va_D A (bl [[(o, .inr (0, [.ref qa, .ref qb, .ref qc, .int (Ch_kind v), .int (Ch_present v), .int (Ch_change v), .int (Ch_changeLeft v)]))], [(qa, .inl (E.2.1, 6, .inl (Ch_intensities v)))], [(qb, .inl (E.2.1, 6, .inl (Ch_lives v)))], [(qc, .inl (E.2.1, 6, .inl (Ch_uses v)))]]) := hD
    refine W.eq (g2 := F0 m 26 ls [.int q1]) rfl ?_
    refine f_if_eq (tgt := 40) hx hb dX1_spend_26 (by decide) hF (fun hF => ?_) (fun hF => ?_)
    · refine lv_iconst (v := 3) hx hb dX1_spend_40 (by decide) ?_
      exact g_iret (rvf := fun z => some (.int z.1)) (W1f := fun z => bl [Ch_c E o qa qb qc z.2]) hx hb hr hlocks hQ hF rfl hP hD hS [0, 1, 2, 3] rfl rfl dX1_spend_41
    · refine lv_aload_n hx hb dX1_spend_29 rfl (lv_at hl 0 rfl) ?_
      refine lv_aload_n hx hb dX1_spend_30 rfl (lv_at hl 0 rfl) ?_
      refine g_get (T := TX1) (N := 7) hx hb hts in_X1 hown hK hP 0 rfl rfl 4 (by decide) w1 rfl rfl dX1_spend_31 ?_
      obtain ⟨q2, h_q2, hF⟩ := bnd_s hF
      refine g_callV (As := [.int (Ch_present v)]) (rest := []) ⟨hx, hb, hml, hown, hts⟩ hK hZ hA (c_X1_canBurn l E o qa qb qc v (Ch_present v) q2 h_q2) (cwV 1 hts gX1_spend_X1_canBurn rfl rfl rfl (by decide +kernel) ⟨Nat.le_of_ble_eq_true rfl, Nat.le_of_ble_eq_true rfl⟩) hP hD hS [0, 1, 2, 3] [] rfl rfl rfl rfl rfl rfl hl.1 rfl (Nat.le_of_ble_eq_true rfl) dX1_spend_34 ⟨Nat.le_of_ble_eq_true rfl, Nat.le_of_ble_eq_true rfl⟩ (fun H locs hP hD hS => ?_)
      have hP : va_P E.1 vwCl (bl [[(o, .inr (0, [.ref qa, .ref qb, .ref qc, .int (Ch_kind v), .int (Ch_present v), .int (Ch_change v), .int (Ch_changeLeft v)]))], [(qa, .inl (E.2.1, 6, .inl (Ch_intensities v)))], [(qb, .inl (E.2.1, 6, .inl (Ch_lives v)))], [(qc, .inl (E.2.1, 6, .inl (Ch_uses v)))]]) H := hP
      have hD : va_D A (bl [[(o, .inr (0, [.ref qa, .ref qb, .ref qc, .int (Ch_kind v), .int (Ch_present v), .int (Ch_change v), .int (Ch_changeLeft v)]))], [(qa, .inl (E.2.1, 6, .inl (Ch_intensities v)))], [(qb, .inl (E.2.1, 6, .inl (Ch_lives v)))], [(qc, .inl (E.2.1, 6, .inl (Ch_uses v)))]]) := hD
      refine W.eq (g2 := F0 m 37 ls [.int q2]) rfl ?_
      refine f_if_ne (tgt := 42) hx hb dX1_spend_37 (by decide) hF (fun hF => ?_) (fun hF => ?_)
      · refine lv_iload_n hx hb dX1_spend_42 rfl (lv_at hl 2 rfl) ?_
        refine f_if_eq (tgt := 61) hx hb dX1_spend_43 (by decide) hF (fun hF => ?_) (fun hF => ?_)
        · refine lv_aload_n hx hb dX1_spend_61 rfl (lv_at hl 0 rfl) ?_
          refine g_get (T := TX1) (N := 7) hx hb hts in_X1 hown hK hP 0 rfl rfl 3 (by decide) w2 rfl rfl dX1_spend_62 ?_
          refine lv_iconst (v := 1) hx hb dX1_spend_65 (by decide) ?_
          refine f_icmp_ne (tgt := 88) hx hb dX1_spend_66 (by decide) hF (fun hF => ?_) (fun hF => ?_)
          · refine lv_iconst (v := 1) hx hb dX1_spend_88 (by decide) ?_
            exact g_iret (rvf := fun z => some (.int z.1)) (W1f := fun z => bl [Ch_c E o qa qb qc z.2]) hx hb hr hlocks hQ hF rfl hP hD hS [0, 1, 2, 3] rfl rfl dX1_spend_89
          · refine lv_iload_n hx hb dX1_spend_69 rfl (lv_at hl 1 rfl) ?_
            refine lv_iconst (v := 4) hx hb dX1_spend_70 (by decide) ?_
            refine lv_irem hx hb dX1_spend_71 (by decide) ?_
            refine f_if_ne (tgt := 88) hx hb dX1_spend_72 (by decide) hF (fun hF => ?_) (fun hF => ?_)
            · refine lv_iconst (v := 1) hx hb dX1_spend_88 (by decide) ?_
              exact g_iret (rvf := fun z => some (.int z.1)) (W1f := fun z => bl [Ch_c E o qa qb qc z.2]) hx hb hr hlocks hQ hF rfl hP hD hS [0, 1, 2, 3] rfl rfl dX1_spend_89
            · refine lv_aload_n hx hb dX1_spend_75 rfl (lv_at hl 0 rfl) ?_
              refine g_get (T := TX1) (N := 7) hx hb hts in_X1 hown hK hP 0 rfl rfl 2 (by decide) w3 rfl rfl dX1_spend_76 ?_
              refine lv_aload_n hx hb dX1_spend_79 rfl (lv_at hl 0 rfl) ?_
              refine g_get (T := TX1) (N := 7) hx hb hts in_X1 hown hK hP 0 rfl rfl 4 (by decide) w1 rfl rfl dX1_spend_80 ?_
              refine lv_dup2_11 hx hb dX1_spend_83 rfl rfl ?_
              refine f_iald hx hb hK hP 3 rfl hF dX1_spend_84 (fun hF => ?_)
              refine lv_iconst (v := 1) hx hb dX1_spend_85 (by decide) ?_
              refine lv_iadd hx hb dX1_spend_86 ?_
              refine f_iast hx hb hK hP hD hS 3 rfl hF dX1_spend_87 (fun hF H locs hP hD hS => ?_)
              have hP : va_P E.1 vwCl (bl [[(o, .inr (0, [.ref qa, .ref qb, .ref qc, .int (Ch_kind v), .int (Ch_present v), .int (Ch_change v), .int (Ch_changeLeft v)]))], [(qa, .inl (E.2.1, 6, .inl (Ch_intensities v)))], [(qb, .inl (E.2.1, 6, .inl (Ch_lives v)))], [(qc, .inl (E.2.1, 6, .inl (upd (Ch_uses v) (Ch_present v).toNatClampNeg (((Ch_uses v) (Ch_present v).toNatClampNeg) + 1))))]]) H := hP
              have hD : va_D A (bl [[(o, .inr (0, [.ref qa, .ref qb, .ref qc, .int (Ch_kind v), .int (Ch_present v), .int (Ch_change v), .int (Ch_changeLeft v)]))], [(qa, .inl (E.2.1, 6, .inl (Ch_intensities v)))], [(qb, .inl (E.2.1, 6, .inl (Ch_lives v)))], [(qc, .inl (E.2.1, 6, .inl (upd (Ch_uses v) (Ch_present v).toNatClampNeg (((Ch_uses v) (Ch_present v).toNatClampNeg) + 1))))]]) := hD
              refine lv_iconst (v := 1) hx hb dX1_spend_88 (by decide) ?_
              exact g_iret (rvf := fun z => some (.int z.1)) (W1f := fun z => bl [Ch_c E o qa qb qc z.2]) hx hb hr hlocks hQ hF rfl hP hD hS [0, 1, 2, 3] rfl rfl dX1_spend_89
        · refine lv_aload_n hx hb dX1_spend_46 rfl (lv_at hl 0 rfl) ?_
          refine g_get (T := TX1) (N := 7) hx hb hts in_X1 hown hK hP 0 rfl rfl 2 (by decide) w3 rfl rfl dX1_spend_47 ?_
          refine lv_aload_n hx hb dX1_spend_50 rfl (lv_at hl 0 rfl) ?_
          refine g_get (T := TX1) (N := 7) hx hb hts in_X1 hown hK hP 0 rfl rfl 4 (by decide) w1 rfl rfl dX1_spend_51 ?_
          refine lv_dup2_11 hx hb dX1_spend_54 rfl rfl ?_
          refine f_iald hx hb hK hP 3 rfl hF dX1_spend_55 (fun hF => ?_)
          refine lv_iconst (v := 1) hx hb dX1_spend_56 (by decide) ?_
          refine lv_iadd hx hb dX1_spend_57 ?_
          refine f_iast hx hb hK hP hD hS 3 rfl hF dX1_spend_58 (fun hF H locs hP hD hS => ?_)
          have hP : va_P E.1 vwCl (bl [[(o, .inr (0, [.ref qa, .ref qb, .ref qc, .int (Ch_kind v), .int (Ch_present v), .int (Ch_change v), .int (Ch_changeLeft v)]))], [(qa, .inl (E.2.1, 6, .inl (Ch_intensities v)))], [(qb, .inl (E.2.1, 6, .inl (Ch_lives v)))], [(qc, .inl (E.2.1, 6, .inl (upd (Ch_uses v) (Ch_present v).toNatClampNeg (((Ch_uses v) (Ch_present v).toNatClampNeg) + 1))))]]) H := hP
          have hD : va_D A (bl [[(o, .inr (0, [.ref qa, .ref qb, .ref qc, .int (Ch_kind v), .int (Ch_present v), .int (Ch_change v), .int (Ch_changeLeft v)]))], [(qa, .inl (E.2.1, 6, .inl (Ch_intensities v)))], [(qb, .inl (E.2.1, 6, .inl (Ch_lives v)))], [(qc, .inl (E.2.1, 6, .inl (upd (Ch_uses v) (Ch_present v).toNatClampNeg (((Ch_uses v) (Ch_present v).toNatClampNeg) + 1))))]]) := hD
          refine lv_iconst (v := 0) hx hb dX1_spend_59 (by decide) ?_
          exact g_iret (rvf := fun z => some (.int z.1)) (W1f := fun z => bl [Ch_c E o qa qb qc z.2]) hx hb hr hlocks hQ hF rfl hP hD hS [0, 1, 2, 3] rfl rfl dX1_spend_60
      · refine lv_iconst (v := 3) hx hb dX1_spend_40 (by decide) ?_
        exact g_iret (rvf := fun z => some (.int z.1)) (W1f := fun z => bl [Ch_c E o qa qb qc z.2]) hx hb hr hlocks hQ hF rfl hP hD hS [0, 1, 2, 3] rfl rfl dX1_spend_41
  · refine lv_aload_n hx hb dX1_spend_7 rfl (lv_at hl 0 rfl) ?_
    refine lv_dup hx hb dX1_spend_8 rfl ?_
    refine g_get (T := TX1) (N := 7) hx hb hts in_X1 hown hK hP 0 rfl rfl 6 (by decide) w0 rfl rfl dX1_spend_9 ?_
    refine lv_iconst (v := 1) hx hb dX1_spend_12 (by decide) ?_
    refine lv_isub hx hb dX1_spend_13 ?_
    refine g_put (T := TX1) (N := 7) hx hb hts in_X1 tyX1 tyX1_ok nmX1 hown hK hP hD hS 0 rfl rfl 6 (by decide) w0 rfl rfl rfl rfl (Nat.le_of_ble_eq_true rfl) dX1_spend_14 (fun H locs hP hD hS => ?_)
    have hP : va_P E.1 vwCl (bl [[(o, .inr (0, [.ref qa, .ref qb, .ref qc, .int (Ch_kind v), .int (Ch_present v), .int (Ch_change v), .int ((Ch_changeLeft v) - 1)]))], [(qa, .inl (E.2.1, 6, .inl (Ch_intensities v)))], [(qb, .inl (E.2.1, 6, .inl (Ch_lives v)))], [(qc, .inl (E.2.1, 6, .inl (Ch_uses v)))]]) H := hP
    have hD : va_D A (bl [[(o, .inr (0, [.ref qa, .ref qb, .ref qc, .int (Ch_kind v), .int (Ch_present v), .int (Ch_change v), .int ((Ch_changeLeft v) - 1)]))], [(qa, .inl (E.2.1, 6, .inl (Ch_intensities v)))], [(qb, .inl (E.2.1, 6, .inl (Ch_lives v)))], [(qc, .inl (E.2.1, 6, .inl (Ch_uses v)))]]) := hD
    refine lv_iconst (v := 2) hx hb dX1_spend_17 (by decide) ?_
    exact g_iret (rvf := fun z => some (.int z.1)) (W1f := fun z => bl [Ch_c E o qa qb qc z.2]) hx hb hr hlocks hQ hF rfl hP hD hS [0, 1, 2, 3] rfl rfl dX1_spend_18
def F_X1_isLike (v : ChV) (v2 : ChV) (p0 : Int32) : Option (Int32) := (F_X1_hasLamp v p0).bind fun q1 => if q1 = 0 then (F_X1_hasLamp v p0).bind fun q2 => (F_X1_hasLamp v2 p0).bind fun q3 => if q2 = q3 then some 1 else some 0 else (F_X1_hasLamp v2 p0).bind fun q4 => if q4 = 0 then (F_X1_hasLamp v p0).bind fun q11 => (F_X1_hasLamp v2 p0).bind fun q12 => if q11 = q12 then some 1 else some 0 else if (Ch_kind v) = (Ch_kind v2) then (F_X1_intensityOf v p0).bind fun q5 => (F_X1_intensityOf v2 p0).bind fun q6 => if q5 = q6 then (F_X1_lifeOf v p0).bind fun q7 => (F_X1_lifeOf v2 p0).bind fun q8 => if q7 = q8 then (F_X1_useOf v p0).bind fun q9 => (F_X1_useOf v2 p0).bind fun q10 => if q9 = q10 then some 1 else some 0 else some 0 else some 0 else some 0
set_option maxHeartbeats 4000000 in
set_option maxRecDepth 100000 in
theorem c_X1_isLike (l : Launch) (E : GE) (o : Nat) (qa : Nat) (qb : Nat) (qc : Nat) (o2 : Nat) (qa2 : Nat) (qb2 : Nat) (qc2 : Nat) (v : ChV) (v2 : ChV) (p0 : Int32) (r : Int32) (hF : F_X1_isLike v v2 p0 = some r) : CT l E yX1_isLike wsX1_isLike ({ frames := 2, cells := 0, slots := 0, locals := 41 } : Room) [.ref o, .ref o2, .int p0] (bl [Ch_c E o qa qb qc v, Ch_c E o2 qa2 qb2 qc2 v2]) (some (.int r)) (bl [Ch_c E o qa qb qc v, Ch_c E o2 qa2 qb2 qc2 v2]) 0 0 := by
  refine CT.of (cc := cX1_isLike) (maxL := 3) (ret := (some .boolean)) (by decide) rfl (Nat.le_of_ble_eq_true rfl) ?_
  intro p e s m args below meth cd A Q ls B hQ hP hD hS hl
  obtain ⟨hx, hb, hml, hown, hts, hr, hlocks, hK, hZ, hA, hnm⟩ := B
  have hown : s.vm.findClass RX1 = some m.cls := hown
  have hl : lv_has ls 3 [(0, .ref o), (1, .ref o2), (2, .int p0)] := hl
  have w0 := hts (.fieldLink RX1 31 "HarborLight$Changer" "kind" "I") (by decide +kernel)
  have in_X1 : ∀ w ∈ wsX10, w ∈ wsX1_isLike := by decide +kernel
  have hP : va_P E.1 vwCl (bl [[(o, .inr (0, [.ref qa, .ref qb, .ref qc, .int (Ch_kind v), .int (Ch_present v), .int (Ch_change v), .int (Ch_changeLeft v)]))], [(qa, .inl (E.2.1, 6, .inl (Ch_intensities v)))], [(qb, .inl (E.2.1, 6, .inl (Ch_lives v)))], [(qc, .inl (E.2.1, 6, .inl (Ch_uses v)))], [(o2, .inr (0, [.ref qa2, .ref qb2, .ref qc2, .int (Ch_kind v2), .int (Ch_present v2), .int (Ch_change v2), .int (Ch_changeLeft v2)]))], [(qa2, .inl (E.2.1, 6, .inl (Ch_intensities v2)))], [(qb2, .inl (E.2.1, 6, .inl (Ch_lives v2)))], [(qc2, .inl (E.2.1, 6, .inl (Ch_uses v2)))]]) s.heap := hP
  have hD : va_D A (bl [[(o, .inr (0, [.ref qa, .ref qb, .ref qc, .int (Ch_kind v), .int (Ch_present v), .int (Ch_change v), .int (Ch_changeLeft v)]))], [(qa, .inl (E.2.1, 6, .inl (Ch_intensities v)))], [(qb, .inl (E.2.1, 6, .inl (Ch_lives v)))], [(qc, .inl (E.2.1, 6, .inl (Ch_uses v)))], [(o2, .inr (0, [.ref qa2, .ref qb2, .ref qc2, .int (Ch_kind v2), .int (Ch_present v2), .int (Ch_change v2), .int (Ch_changeLeft v2)]))], [(qa2, .inl (E.2.1, 6, .inl (Ch_intensities v2)))], [(qb2, .inl (E.2.1, 6, .inl (Ch_lives v2)))], [(qc2, .inl (E.2.1, 6, .inl (Ch_uses v2)))]]) := hD
  unfold F_X1_isLike at hF
  refine lv_aload_n hx hb dX1_isLike_0 rfl (lv_at hl 0 rfl) ?_
  refine lv_iload_n hx hb dX1_isLike_1 rfl (lv_at hl 2 rfl) ?_
  obtain ⟨q1, h_q1, hF⟩ := bnd_s hF
  refine g_callV (As := [.int p0]) (rest := []) ⟨hx, hb, hml, hown, hts⟩ hK hZ hA (c_X1_hasLamp l E o qa qb qc v p0 q1 h_q1) (cwV 1 hts gX1_isLike_X1_hasLamp rfl rfl rfl (by decide +kernel) ⟨Nat.le_of_ble_eq_true rfl, Nat.le_of_ble_eq_true rfl⟩) hP hD hS [0, 1, 2, 3] [4, 5, 6, 7] rfl rfl rfl rfl rfl rfl hl.1 rfl (Nat.le_of_ble_eq_true rfl) dX1_isLike_2 ⟨Nat.le_of_ble_eq_true rfl, Nat.le_of_ble_eq_true rfl⟩ (fun H locs hP hD hS => ?_)
  have hP : va_P E.1 vwCl (bl [[(o, .inr (0, [.ref qa, .ref qb, .ref qc, .int (Ch_kind v), .int (Ch_present v), .int (Ch_change v), .int (Ch_changeLeft v)]))], [(qa, .inl (E.2.1, 6, .inl (Ch_intensities v)))], [(qb, .inl (E.2.1, 6, .inl (Ch_lives v)))], [(qc, .inl (E.2.1, 6, .inl (Ch_uses v)))], [(o2, .inr (0, [.ref qa2, .ref qb2, .ref qc2, .int (Ch_kind v2), .int (Ch_present v2), .int (Ch_change v2), .int (Ch_changeLeft v2)]))], [(qa2, .inl (E.2.1, 6, .inl (Ch_intensities v2)))], [(qb2, .inl (E.2.1, 6, .inl (Ch_lives v2)))], [(qc2, .inl (E.2.1, 6, .inl (Ch_uses v2)))]]) H := hP
  have hD : va_D A (bl [[(o, .inr (0, [.ref qa, .ref qb, .ref qc, .int (Ch_kind v), .int (Ch_present v), .int (Ch_change v), .int (Ch_changeLeft v)]))], [(qa, .inl (E.2.1, 6, .inl (Ch_intensities v)))], [(qb, .inl (E.2.1, 6, .inl (Ch_lives v)))], [(qc, .inl (E.2.1, 6, .inl (Ch_uses v)))], [(o2, .inr (0, [.ref qa2, .ref qb2, .ref qc2, .int (Ch_kind v2), .int (Ch_present v2), .int (Ch_change v2), .int (Ch_changeLeft v2)]))], [(qa2, .inl (E.2.1, 6, .inl (Ch_intensities v2)))], [(qb2, .inl (E.2.1, 6, .inl (Ch_lives v2)))], [(qc2, .inl (E.2.1, 6, .inl (Ch_uses v2)))]]) := hD
  refine W.eq (g2 := F0 m 5 ls [.int q1]) rfl ?_
  refine f_if_eq (tgt := 16) hx hb dX1_isLike_5 (by decide) hF (fun hF => ?_) (fun hF => ?_)
  · refine lv_aload_n hx hb dX1_isLike_16 rfl (lv_at hl 0 rfl) ?_
    refine lv_iload_n hx hb dX1_isLike_17 rfl (lv_at hl 2 rfl) ?_
    obtain ⟨q2, h_q2, hF⟩ := bnd_s hF
    refine g_callV (As := [.int p0]) (rest := []) ⟨hx, hb, hml, hown, hts⟩ hK hZ hA (c_X1_hasLamp l E o qa qb qc v p0 q2 h_q2) (cwV 1 hts gX1_isLike_X1_hasLamp rfl rfl rfl (by decide +kernel) ⟨Nat.le_of_ble_eq_true rfl, Nat.le_of_ble_eq_true rfl⟩) hP hD hS [0, 1, 2, 3] [4, 5, 6, 7] rfl rfl rfl rfl rfl rfl hl.1 rfl (Nat.le_of_ble_eq_true rfl) dX1_isLike_18 ⟨Nat.le_of_ble_eq_true rfl, Nat.le_of_ble_eq_true rfl⟩ (fun H locs hP hD hS => ?_)
    have hP : va_P E.1 vwCl (bl [[(o, .inr (0, [.ref qa, .ref qb, .ref qc, .int (Ch_kind v), .int (Ch_present v), .int (Ch_change v), .int (Ch_changeLeft v)]))], [(qa, .inl (E.2.1, 6, .inl (Ch_intensities v)))], [(qb, .inl (E.2.1, 6, .inl (Ch_lives v)))], [(qc, .inl (E.2.1, 6, .inl (Ch_uses v)))], [(o2, .inr (0, [.ref qa2, .ref qb2, .ref qc2, .int (Ch_kind v2), .int (Ch_present v2), .int (Ch_change v2), .int (Ch_changeLeft v2)]))], [(qa2, .inl (E.2.1, 6, .inl (Ch_intensities v2)))], [(qb2, .inl (E.2.1, 6, .inl (Ch_lives v2)))], [(qc2, .inl (E.2.1, 6, .inl (Ch_uses v2)))]]) H := hP
    have hD : va_D A (bl [[(o, .inr (0, [.ref qa, .ref qb, .ref qc, .int (Ch_kind v), .int (Ch_present v), .int (Ch_change v), .int (Ch_changeLeft v)]))], [(qa, .inl (E.2.1, 6, .inl (Ch_intensities v)))], [(qb, .inl (E.2.1, 6, .inl (Ch_lives v)))], [(qc, .inl (E.2.1, 6, .inl (Ch_uses v)))], [(o2, .inr (0, [.ref qa2, .ref qb2, .ref qc2, .int (Ch_kind v2), .int (Ch_present v2), .int (Ch_change v2), .int (Ch_changeLeft v2)]))], [(qa2, .inl (E.2.1, 6, .inl (Ch_intensities v2)))], [(qb2, .inl (E.2.1, 6, .inl (Ch_lives v2)))], [(qc2, .inl (E.2.1, 6, .inl (Ch_uses v2)))]]) := hD
    refine W.eq (g2 := F0 m 21 ls [.int q2]) rfl ?_
    refine lv_aload_n hx hb dX1_isLike_21 rfl (lv_at hl 1 rfl) ?_
    refine lv_iload_n hx hb dX1_isLike_22 rfl (lv_at hl 2 rfl) ?_
    obtain ⟨q3, h_q3, hF⟩ := bnd_s hF
    refine g_callV (As := [.int p0]) (rest := [.int q2]) ⟨hx, hb, hml, hown, hts⟩ hK hZ hA (c_X1_hasLamp l E o2 qa2 qb2 qc2 v2 p0 q3 h_q3) (cwV 1 hts gX1_isLike_X1_hasLamp rfl rfl rfl (by decide +kernel) ⟨Nat.le_of_ble_eq_true rfl, Nat.le_of_ble_eq_true rfl⟩) hP hD hS [4, 5, 6, 7] [0, 1, 2, 3] rfl rfl rfl rfl rfl rfl hl.1 rfl (Nat.le_of_ble_eq_true rfl) dX1_isLike_23 ⟨Nat.le_of_ble_eq_true rfl, Nat.le_of_ble_eq_true rfl⟩ (fun H locs hP hD hS => ?_)
    have hP : va_P E.1 vwCl (bl [[(o2, .inr (0, [.ref qa2, .ref qb2, .ref qc2, .int (Ch_kind v2), .int (Ch_present v2), .int (Ch_change v2), .int (Ch_changeLeft v2)]))], [(qa2, .inl (E.2.1, 6, .inl (Ch_intensities v2)))], [(qb2, .inl (E.2.1, 6, .inl (Ch_lives v2)))], [(qc2, .inl (E.2.1, 6, .inl (Ch_uses v2)))], [(o, .inr (0, [.ref qa, .ref qb, .ref qc, .int (Ch_kind v), .int (Ch_present v), .int (Ch_change v), .int (Ch_changeLeft v)]))], [(qa, .inl (E.2.1, 6, .inl (Ch_intensities v)))], [(qb, .inl (E.2.1, 6, .inl (Ch_lives v)))], [(qc, .inl (E.2.1, 6, .inl (Ch_uses v)))]]) H := hP
    have hD : va_D A (bl [[(o2, .inr (0, [.ref qa2, .ref qb2, .ref qc2, .int (Ch_kind v2), .int (Ch_present v2), .int (Ch_change v2), .int (Ch_changeLeft v2)]))], [(qa2, .inl (E.2.1, 6, .inl (Ch_intensities v2)))], [(qb2, .inl (E.2.1, 6, .inl (Ch_lives v2)))], [(qc2, .inl (E.2.1, 6, .inl (Ch_uses v2)))], [(o, .inr (0, [.ref qa, .ref qb, .ref qc, .int (Ch_kind v), .int (Ch_present v), .int (Ch_change v), .int (Ch_changeLeft v)]))], [(qa, .inl (E.2.1, 6, .inl (Ch_intensities v)))], [(qb, .inl (E.2.1, 6, .inl (Ch_lives v)))], [(qc, .inl (E.2.1, 6, .inl (Ch_uses v)))]]) := hD
    refine W.eq (g2 := F0 m 26 ls [.int q3, .int q2]) rfl ?_
    refine f_icmp_ne (tgt := 33) hx hb dX1_isLike_26 (by decide) hF (fun hF => ?_) (fun hF => ?_)
    · refine lv_iconst (v := 0) hx hb dX1_isLike_33 (by decide) ?_
      exact g_zret (rvf := fun z => some (.int z)) (W1f := fun z => bl [Ch_c E o qa qb qc v, Ch_c E o2 qa2 qb2 qc2 v2]) hx hb hr hlocks rfl hQ hF rfl hP hD hS [4, 5, 6, 7, 0, 1, 2, 3] rfl rfl dX1_isLike_34
    · refine lv_iconst (v := 1) hx hb dX1_isLike_29 (by decide) ?_
      refine lv_goto (tgt := 34) hx hb dX1_isLike_30 (by decide) ?_
      exact g_zret (rvf := fun z => some (.int z)) (W1f := fun z => bl [Ch_c E o qa qb qc v, Ch_c E o2 qa2 qb2 qc2 v2]) hx hb hr hlocks rfl hQ hF rfl hP hD hS [4, 5, 6, 7, 0, 1, 2, 3] rfl rfl dX1_isLike_34
  · refine lv_aload_n hx hb dX1_isLike_8 rfl (lv_at hl 1 rfl) ?_
    refine lv_iload_n hx hb dX1_isLike_9 rfl (lv_at hl 2 rfl) ?_
    obtain ⟨q4, h_q4, hF⟩ := bnd_s hF
    refine g_callV (As := [.int p0]) (rest := []) ⟨hx, hb, hml, hown, hts⟩ hK hZ hA (c_X1_hasLamp l E o2 qa2 qb2 qc2 v2 p0 q4 h_q4) (cwV 1 hts gX1_isLike_X1_hasLamp rfl rfl rfl (by decide +kernel) ⟨Nat.le_of_ble_eq_true rfl, Nat.le_of_ble_eq_true rfl⟩) hP hD hS [4, 5, 6, 7] [0, 1, 2, 3] rfl rfl rfl rfl rfl rfl hl.1 rfl (Nat.le_of_ble_eq_true rfl) dX1_isLike_10 ⟨Nat.le_of_ble_eq_true rfl, Nat.le_of_ble_eq_true rfl⟩ (fun H locs hP hD hS => ?_)
    have hP : va_P E.1 vwCl (bl [[(o2, .inr (0, [.ref qa2, .ref qb2, .ref qc2, .int (Ch_kind v2), .int (Ch_present v2), .int (Ch_change v2), .int (Ch_changeLeft v2)]))], [(qa2, .inl (E.2.1, 6, .inl (Ch_intensities v2)))], [(qb2, .inl (E.2.1, 6, .inl (Ch_lives v2)))], [(qc2, .inl (E.2.1, 6, .inl (Ch_uses v2)))], [(o, .inr (0, [.ref qa, .ref qb, .ref qc, .int (Ch_kind v), .int (Ch_present v), .int (Ch_change v), .int (Ch_changeLeft v)]))], [(qa, .inl (E.2.1, 6, .inl (Ch_intensities v)))], [(qb, .inl (E.2.1, 6, .inl (Ch_lives v)))], [(qc, .inl (E.2.1, 6, .inl (Ch_uses v)))]]) H := hP
    have hD : va_D A (bl [[(o2, .inr (0, [.ref qa2, .ref qb2, .ref qc2, .int (Ch_kind v2), .int (Ch_present v2), .int (Ch_change v2), .int (Ch_changeLeft v2)]))], [(qa2, .inl (E.2.1, 6, .inl (Ch_intensities v2)))], [(qb2, .inl (E.2.1, 6, .inl (Ch_lives v2)))], [(qc2, .inl (E.2.1, 6, .inl (Ch_uses v2)))], [(o, .inr (0, [.ref qa, .ref qb, .ref qc, .int (Ch_kind v), .int (Ch_present v), .int (Ch_change v), .int (Ch_changeLeft v)]))], [(qa, .inl (E.2.1, 6, .inl (Ch_intensities v)))], [(qb, .inl (E.2.1, 6, .inl (Ch_lives v)))], [(qc, .inl (E.2.1, 6, .inl (Ch_uses v)))]]) := hD
    refine W.eq (g2 := F0 m 13 ls [.int q4]) rfl ?_
    refine f_if_ne (tgt := 35) hx hb dX1_isLike_13 (by decide) hF (fun hF => ?_) (fun hF => ?_)
    · refine lv_aload_n hx hb dX1_isLike_35 rfl (lv_at hl 0 rfl) ?_
      refine g_get (T := TX1) (N := 7) hx hb hts in_X1 hown hK hP 4 rfl rfl 3 (by decide) w0 rfl rfl dX1_isLike_36 ?_
      refine lv_aload_n hx hb dX1_isLike_39 rfl (lv_at hl 1 rfl) ?_
      refine g_get (T := TX1) (N := 7) hx hb hts in_X1 hown hK hP 0 rfl rfl 3 (by decide) w0 rfl rfl dX1_isLike_40 ?_
      refine f_icmp_ne (tgt := 89) hx hb dX1_isLike_43 (by decide) hF (fun hF => ?_) (fun hF => ?_)
      · refine lv_iconst (v := 0) hx hb dX1_isLike_89 (by decide) ?_
        exact g_zret (rvf := fun z => some (.int z)) (W1f := fun z => bl [Ch_c E o qa qb qc v, Ch_c E o2 qa2 qb2 qc2 v2]) hx hb hr hlocks rfl hQ hF rfl hP hD hS [4, 5, 6, 7, 0, 1, 2, 3] rfl rfl dX1_isLike_90
      · refine lv_aload_n hx hb dX1_isLike_46 rfl (lv_at hl 0 rfl) ?_
        refine lv_iload_n hx hb dX1_isLike_47 rfl (lv_at hl 2 rfl) ?_
        obtain ⟨q5, h_q5, hF⟩ := bnd_s hF
        refine g_callV (As := [.int p0]) (rest := []) ⟨hx, hb, hml, hown, hts⟩ hK hZ hA (c_X1_intensityOf l E o qa qb qc v p0 q5 h_q5) (cwV 1 hts gX1_isLike_X1_intensityOf rfl rfl rfl (by decide +kernel) ⟨Nat.le_of_ble_eq_true rfl, Nat.le_of_ble_eq_true rfl⟩) hP hD hS [4, 5, 6, 7] [0, 1, 2, 3] rfl rfl rfl rfl rfl rfl hl.1 rfl (Nat.le_of_ble_eq_true rfl) dX1_isLike_48 ⟨Nat.le_of_ble_eq_true rfl, Nat.le_of_ble_eq_true rfl⟩ (fun H locs hP hD hS => ?_)
        have hP : va_P E.1 vwCl (bl [[(o, .inr (0, [.ref qa, .ref qb, .ref qc, .int (Ch_kind v), .int (Ch_present v), .int (Ch_change v), .int (Ch_changeLeft v)]))], [(qa, .inl (E.2.1, 6, .inl (Ch_intensities v)))], [(qb, .inl (E.2.1, 6, .inl (Ch_lives v)))], [(qc, .inl (E.2.1, 6, .inl (Ch_uses v)))], [(o2, .inr (0, [.ref qa2, .ref qb2, .ref qc2, .int (Ch_kind v2), .int (Ch_present v2), .int (Ch_change v2), .int (Ch_changeLeft v2)]))], [(qa2, .inl (E.2.1, 6, .inl (Ch_intensities v2)))], [(qb2, .inl (E.2.1, 6, .inl (Ch_lives v2)))], [(qc2, .inl (E.2.1, 6, .inl (Ch_uses v2)))]]) H := hP
        have hD : va_D A (bl [[(o, .inr (0, [.ref qa, .ref qb, .ref qc, .int (Ch_kind v), .int (Ch_present v), .int (Ch_change v), .int (Ch_changeLeft v)]))], [(qa, .inl (E.2.1, 6, .inl (Ch_intensities v)))], [(qb, .inl (E.2.1, 6, .inl (Ch_lives v)))], [(qc, .inl (E.2.1, 6, .inl (Ch_uses v)))], [(o2, .inr (0, [.ref qa2, .ref qb2, .ref qc2, .int (Ch_kind v2), .int (Ch_present v2), .int (Ch_change v2), .int (Ch_changeLeft v2)]))], [(qa2, .inl (E.2.1, 6, .inl (Ch_intensities v2)))], [(qb2, .inl (E.2.1, 6, .inl (Ch_lives v2)))], [(qc2, .inl (E.2.1, 6, .inl (Ch_uses v2)))]]) := hD
        refine W.eq (g2 := F0 m 51 ls [.int q5]) rfl ?_
        refine lv_aload_n hx hb dX1_isLike_51 rfl (lv_at hl 1 rfl) ?_
        refine lv_iload_n hx hb dX1_isLike_52 rfl (lv_at hl 2 rfl) ?_
        obtain ⟨q6, h_q6, hF⟩ := bnd_s hF
        refine g_callV (As := [.int p0]) (rest := [.int q5]) ⟨hx, hb, hml, hown, hts⟩ hK hZ hA (c_X1_intensityOf l E o2 qa2 qb2 qc2 v2 p0 q6 h_q6) (cwV 1 hts gX1_isLike_X1_intensityOf rfl rfl rfl (by decide +kernel) ⟨Nat.le_of_ble_eq_true rfl, Nat.le_of_ble_eq_true rfl⟩) hP hD hS [4, 5, 6, 7] [0, 1, 2, 3] rfl rfl rfl rfl rfl rfl hl.1 rfl (Nat.le_of_ble_eq_true rfl) dX1_isLike_53 ⟨Nat.le_of_ble_eq_true rfl, Nat.le_of_ble_eq_true rfl⟩ (fun H locs hP hD hS => ?_)
        have hP : va_P E.1 vwCl (bl [[(o2, .inr (0, [.ref qa2, .ref qb2, .ref qc2, .int (Ch_kind v2), .int (Ch_present v2), .int (Ch_change v2), .int (Ch_changeLeft v2)]))], [(qa2, .inl (E.2.1, 6, .inl (Ch_intensities v2)))], [(qb2, .inl (E.2.1, 6, .inl (Ch_lives v2)))], [(qc2, .inl (E.2.1, 6, .inl (Ch_uses v2)))], [(o, .inr (0, [.ref qa, .ref qb, .ref qc, .int (Ch_kind v), .int (Ch_present v), .int (Ch_change v), .int (Ch_changeLeft v)]))], [(qa, .inl (E.2.1, 6, .inl (Ch_intensities v)))], [(qb, .inl (E.2.1, 6, .inl (Ch_lives v)))], [(qc, .inl (E.2.1, 6, .inl (Ch_uses v)))]]) H := hP
        have hD : va_D A (bl [[(o2, .inr (0, [.ref qa2, .ref qb2, .ref qc2, .int (Ch_kind v2), .int (Ch_present v2), .int (Ch_change v2), .int (Ch_changeLeft v2)]))], [(qa2, .inl (E.2.1, 6, .inl (Ch_intensities v2)))], [(qb2, .inl (E.2.1, 6, .inl (Ch_lives v2)))], [(qc2, .inl (E.2.1, 6, .inl (Ch_uses v2)))], [(o, .inr (0, [.ref qa, .ref qb, .ref qc, .int (Ch_kind v), .int (Ch_present v), .int (Ch_change v), .int (Ch_changeLeft v)]))], [(qa, .inl (E.2.1, 6, .inl (Ch_intensities v)))], [(qb, .inl (E.2.1, 6, .inl (Ch_lives v)))], [(qc, .inl (E.2.1, 6, .inl (Ch_uses v)))]]) := hD
        refine W.eq (g2 := F0 m 56 ls [.int q6, .int q5]) rfl ?_
        refine f_icmp_ne (tgt := 89) hx hb dX1_isLike_56 (by decide) hF (fun hF => ?_) (fun hF => ?_)
        · refine lv_iconst (v := 0) hx hb dX1_isLike_89 (by decide) ?_
          exact g_zret (rvf := fun z => some (.int z)) (W1f := fun z => bl [Ch_c E o qa qb qc v, Ch_c E o2 qa2 qb2 qc2 v2]) hx hb hr hlocks rfl hQ hF rfl hP hD hS [4, 5, 6, 7, 0, 1, 2, 3] rfl rfl dX1_isLike_90
        · refine lv_aload_n hx hb dX1_isLike_59 rfl (lv_at hl 0 rfl) ?_
          refine lv_iload_n hx hb dX1_isLike_60 rfl (lv_at hl 2 rfl) ?_
          obtain ⟨q7, h_q7, hF⟩ := bnd_s hF
          refine g_callV (As := [.int p0]) (rest := []) ⟨hx, hb, hml, hown, hts⟩ hK hZ hA (c_X1_lifeOf l E o qa qb qc v p0 q7 h_q7) (cwV 1 hts gX1_isLike_X1_lifeOf rfl rfl rfl (by decide +kernel) ⟨Nat.le_of_ble_eq_true rfl, Nat.le_of_ble_eq_true rfl⟩) hP hD hS [4, 5, 6, 7] [0, 1, 2, 3] rfl rfl rfl rfl rfl rfl hl.1 rfl (Nat.le_of_ble_eq_true rfl) dX1_isLike_61 ⟨Nat.le_of_ble_eq_true rfl, Nat.le_of_ble_eq_true rfl⟩ (fun H locs hP hD hS => ?_)
          have hP : va_P E.1 vwCl (bl [[(o, .inr (0, [.ref qa, .ref qb, .ref qc, .int (Ch_kind v), .int (Ch_present v), .int (Ch_change v), .int (Ch_changeLeft v)]))], [(qa, .inl (E.2.1, 6, .inl (Ch_intensities v)))], [(qb, .inl (E.2.1, 6, .inl (Ch_lives v)))], [(qc, .inl (E.2.1, 6, .inl (Ch_uses v)))], [(o2, .inr (0, [.ref qa2, .ref qb2, .ref qc2, .int (Ch_kind v2), .int (Ch_present v2), .int (Ch_change v2), .int (Ch_changeLeft v2)]))], [(qa2, .inl (E.2.1, 6, .inl (Ch_intensities v2)))], [(qb2, .inl (E.2.1, 6, .inl (Ch_lives v2)))], [(qc2, .inl (E.2.1, 6, .inl (Ch_uses v2)))]]) H := hP
          have hD : va_D A (bl [[(o, .inr (0, [.ref qa, .ref qb, .ref qc, .int (Ch_kind v), .int (Ch_present v), .int (Ch_change v), .int (Ch_changeLeft v)]))], [(qa, .inl (E.2.1, 6, .inl (Ch_intensities v)))], [(qb, .inl (E.2.1, 6, .inl (Ch_lives v)))], [(qc, .inl (E.2.1, 6, .inl (Ch_uses v)))], [(o2, .inr (0, [.ref qa2, .ref qb2, .ref qc2, .int (Ch_kind v2), .int (Ch_present v2), .int (Ch_change v2), .int (Ch_changeLeft v2)]))], [(qa2, .inl (E.2.1, 6, .inl (Ch_intensities v2)))], [(qb2, .inl (E.2.1, 6, .inl (Ch_lives v2)))], [(qc2, .inl (E.2.1, 6, .inl (Ch_uses v2)))]]) := hD
          refine W.eq (g2 := F0 m 64 ls [.int q7]) rfl ?_
          refine lv_aload_n hx hb dX1_isLike_64 rfl (lv_at hl 1 rfl) ?_
          refine lv_iload_n hx hb dX1_isLike_65 rfl (lv_at hl 2 rfl) ?_
          obtain ⟨q8, h_q8, hF⟩ := bnd_s hF
          refine g_callV (As := [.int p0]) (rest := [.int q7]) ⟨hx, hb, hml, hown, hts⟩ hK hZ hA (c_X1_lifeOf l E o2 qa2 qb2 qc2 v2 p0 q8 h_q8) (cwV 1 hts gX1_isLike_X1_lifeOf rfl rfl rfl (by decide +kernel) ⟨Nat.le_of_ble_eq_true rfl, Nat.le_of_ble_eq_true rfl⟩) hP hD hS [4, 5, 6, 7] [0, 1, 2, 3] rfl rfl rfl rfl rfl rfl hl.1 rfl (Nat.le_of_ble_eq_true rfl) dX1_isLike_66 ⟨Nat.le_of_ble_eq_true rfl, Nat.le_of_ble_eq_true rfl⟩ (fun H locs hP hD hS => ?_)
          have hP : va_P E.1 vwCl (bl [[(o2, .inr (0, [.ref qa2, .ref qb2, .ref qc2, .int (Ch_kind v2), .int (Ch_present v2), .int (Ch_change v2), .int (Ch_changeLeft v2)]))], [(qa2, .inl (E.2.1, 6, .inl (Ch_intensities v2)))], [(qb2, .inl (E.2.1, 6, .inl (Ch_lives v2)))], [(qc2, .inl (E.2.1, 6, .inl (Ch_uses v2)))], [(o, .inr (0, [.ref qa, .ref qb, .ref qc, .int (Ch_kind v), .int (Ch_present v), .int (Ch_change v), .int (Ch_changeLeft v)]))], [(qa, .inl (E.2.1, 6, .inl (Ch_intensities v)))], [(qb, .inl (E.2.1, 6, .inl (Ch_lives v)))], [(qc, .inl (E.2.1, 6, .inl (Ch_uses v)))]]) H := hP
          have hD : va_D A (bl [[(o2, .inr (0, [.ref qa2, .ref qb2, .ref qc2, .int (Ch_kind v2), .int (Ch_present v2), .int (Ch_change v2), .int (Ch_changeLeft v2)]))], [(qa2, .inl (E.2.1, 6, .inl (Ch_intensities v2)))], [(qb2, .inl (E.2.1, 6, .inl (Ch_lives v2)))], [(qc2, .inl (E.2.1, 6, .inl (Ch_uses v2)))], [(o, .inr (0, [.ref qa, .ref qb, .ref qc, .int (Ch_kind v), .int (Ch_present v), .int (Ch_change v), .int (Ch_changeLeft v)]))], [(qa, .inl (E.2.1, 6, .inl (Ch_intensities v)))], [(qb, .inl (E.2.1, 6, .inl (Ch_lives v)))], [(qc, .inl (E.2.1, 6, .inl (Ch_uses v)))]]) := hD
          refine W.eq (g2 := F0 m 69 ls [.int q8, .int q7]) rfl ?_
          refine f_icmp_ne (tgt := 89) hx hb dX1_isLike_69 (by decide) hF (fun hF => ?_) (fun hF => ?_)
          · refine lv_iconst (v := 0) hx hb dX1_isLike_89 (by decide) ?_
            exact g_zret (rvf := fun z => some (.int z)) (W1f := fun z => bl [Ch_c E o qa qb qc v, Ch_c E o2 qa2 qb2 qc2 v2]) hx hb hr hlocks rfl hQ hF rfl hP hD hS [4, 5, 6, 7, 0, 1, 2, 3] rfl rfl dX1_isLike_90
          · refine lv_aload_n hx hb dX1_isLike_72 rfl (lv_at hl 0 rfl) ?_
            refine lv_iload_n hx hb dX1_isLike_73 rfl (lv_at hl 2 rfl) ?_
            obtain ⟨q9, h_q9, hF⟩ := bnd_s hF
            refine g_callV (As := [.int p0]) (rest := []) ⟨hx, hb, hml, hown, hts⟩ hK hZ hA (c_X1_useOf l E o qa qb qc v p0 q9 h_q9) (cwV 1 hts gX1_isLike_X1_useOf rfl rfl rfl (by decide +kernel) ⟨Nat.le_of_ble_eq_true rfl, Nat.le_of_ble_eq_true rfl⟩) hP hD hS [4, 5, 6, 7] [0, 1, 2, 3] rfl rfl rfl rfl rfl rfl hl.1 rfl (Nat.le_of_ble_eq_true rfl) dX1_isLike_74 ⟨Nat.le_of_ble_eq_true rfl, Nat.le_of_ble_eq_true rfl⟩ (fun H locs hP hD hS => ?_)
            have hP : va_P E.1 vwCl (bl [[(o, .inr (0, [.ref qa, .ref qb, .ref qc, .int (Ch_kind v), .int (Ch_present v), .int (Ch_change v), .int (Ch_changeLeft v)]))], [(qa, .inl (E.2.1, 6, .inl (Ch_intensities v)))], [(qb, .inl (E.2.1, 6, .inl (Ch_lives v)))], [(qc, .inl (E.2.1, 6, .inl (Ch_uses v)))], [(o2, .inr (0, [.ref qa2, .ref qb2, .ref qc2, .int (Ch_kind v2), .int (Ch_present v2), .int (Ch_change v2), .int (Ch_changeLeft v2)]))], [(qa2, .inl (E.2.1, 6, .inl (Ch_intensities v2)))], [(qb2, .inl (E.2.1, 6, .inl (Ch_lives v2)))], [(qc2, .inl (E.2.1, 6, .inl (Ch_uses v2)))]]) H := hP
            have hD : va_D A (bl [[(o, .inr (0, [.ref qa, .ref qb, .ref qc, .int (Ch_kind v), .int (Ch_present v), .int (Ch_change v), .int (Ch_changeLeft v)]))], [(qa, .inl (E.2.1, 6, .inl (Ch_intensities v)))], [(qb, .inl (E.2.1, 6, .inl (Ch_lives v)))], [(qc, .inl (E.2.1, 6, .inl (Ch_uses v)))], [(o2, .inr (0, [.ref qa2, .ref qb2, .ref qc2, .int (Ch_kind v2), .int (Ch_present v2), .int (Ch_change v2), .int (Ch_changeLeft v2)]))], [(qa2, .inl (E.2.1, 6, .inl (Ch_intensities v2)))], [(qb2, .inl (E.2.1, 6, .inl (Ch_lives v2)))], [(qc2, .inl (E.2.1, 6, .inl (Ch_uses v2)))]]) := hD
            refine W.eq (g2 := F0 m 77 ls [.int q9]) rfl ?_
            refine lv_aload_n hx hb dX1_isLike_77 rfl (lv_at hl 1 rfl) ?_
            refine lv_iload_n hx hb dX1_isLike_78 rfl (lv_at hl 2 rfl) ?_
            obtain ⟨q10, h_q10, hF⟩ := bnd_s hF
            refine g_callV (As := [.int p0]) (rest := [.int q9]) ⟨hx, hb, hml, hown, hts⟩ hK hZ hA (c_X1_useOf l E o2 qa2 qb2 qc2 v2 p0 q10 h_q10) (cwV 1 hts gX1_isLike_X1_useOf rfl rfl rfl (by decide +kernel) ⟨Nat.le_of_ble_eq_true rfl, Nat.le_of_ble_eq_true rfl⟩) hP hD hS [4, 5, 6, 7] [0, 1, 2, 3] rfl rfl rfl rfl rfl rfl hl.1 rfl (Nat.le_of_ble_eq_true rfl) dX1_isLike_79 ⟨Nat.le_of_ble_eq_true rfl, Nat.le_of_ble_eq_true rfl⟩ (fun H locs hP hD hS => ?_)
            have hP : va_P E.1 vwCl (bl [[(o2, .inr (0, [.ref qa2, .ref qb2, .ref qc2, .int (Ch_kind v2), .int (Ch_present v2), .int (Ch_change v2), .int (Ch_changeLeft v2)]))], [(qa2, .inl (E.2.1, 6, .inl (Ch_intensities v2)))], [(qb2, .inl (E.2.1, 6, .inl (Ch_lives v2)))], [(qc2, .inl (E.2.1, 6, .inl (Ch_uses v2)))], [(o, .inr (0, [.ref qa, .ref qb, .ref qc, .int (Ch_kind v), .int (Ch_present v), .int (Ch_change v), .int (Ch_changeLeft v)]))], [(qa, .inl (E.2.1, 6, .inl (Ch_intensities v)))], [(qb, .inl (E.2.1, 6, .inl (Ch_lives v)))], [(qc, .inl (E.2.1, 6, .inl (Ch_uses v)))]]) H := hP
            have hD : va_D A (bl [[(o2, .inr (0, [.ref qa2, .ref qb2, .ref qc2, .int (Ch_kind v2), .int (Ch_present v2), .int (Ch_change v2), .int (Ch_changeLeft v2)]))], [(qa2, .inl (E.2.1, 6, .inl (Ch_intensities v2)))], [(qb2, .inl (E.2.1, 6, .inl (Ch_lives v2)))], [(qc2, .inl (E.2.1, 6, .inl (Ch_uses v2)))], [(o, .inr (0, [.ref qa, .ref qb, .ref qc, .int (Ch_kind v), .int (Ch_present v), .int (Ch_change v), .int (Ch_changeLeft v)]))], [(qa, .inl (E.2.1, 6, .inl (Ch_intensities v)))], [(qb, .inl (E.2.1, 6, .inl (Ch_lives v)))], [(qc, .inl (E.2.1, 6, .inl (Ch_uses v)))]]) := hD
            refine W.eq (g2 := F0 m 82 ls [.int q10, .int q9]) rfl ?_
            refine f_icmp_ne (tgt := 89) hx hb dX1_isLike_82 (by decide) hF (fun hF => ?_) (fun hF => ?_)
            · refine lv_iconst (v := 0) hx hb dX1_isLike_89 (by decide) ?_
              exact g_zret (rvf := fun z => some (.int z)) (W1f := fun z => bl [Ch_c E o qa qb qc v, Ch_c E o2 qa2 qb2 qc2 v2]) hx hb hr hlocks rfl hQ hF rfl hP hD hS [4, 5, 6, 7, 0, 1, 2, 3] rfl rfl dX1_isLike_90
            · refine lv_iconst (v := 1) hx hb dX1_isLike_85 (by decide) ?_
              refine lv_goto (tgt := 90) hx hb dX1_isLike_86 (by decide) ?_
              exact g_zret (rvf := fun z => some (.int z)) (W1f := fun z => bl [Ch_c E o qa qb qc v, Ch_c E o2 qa2 qb2 qc2 v2]) hx hb hr hlocks rfl hQ hF rfl hP hD hS [4, 5, 6, 7, 0, 1, 2, 3] rfl rfl dX1_isLike_90
    · refine lv_aload_n hx hb dX1_isLike_16 rfl (lv_at hl 0 rfl) ?_
      refine lv_iload_n hx hb dX1_isLike_17 rfl (lv_at hl 2 rfl) ?_
      obtain ⟨q11, h_q11, hF⟩ := bnd_s hF
      refine g_callV (As := [.int p0]) (rest := []) ⟨hx, hb, hml, hown, hts⟩ hK hZ hA (c_X1_hasLamp l E o qa qb qc v p0 q11 h_q11) (cwV 1 hts gX1_isLike_X1_hasLamp rfl rfl rfl (by decide +kernel) ⟨Nat.le_of_ble_eq_true rfl, Nat.le_of_ble_eq_true rfl⟩) hP hD hS [4, 5, 6, 7] [0, 1, 2, 3] rfl rfl rfl rfl rfl rfl hl.1 rfl (Nat.le_of_ble_eq_true rfl) dX1_isLike_18 ⟨Nat.le_of_ble_eq_true rfl, Nat.le_of_ble_eq_true rfl⟩ (fun H locs hP hD hS => ?_)
      have hP : va_P E.1 vwCl (bl [[(o, .inr (0, [.ref qa, .ref qb, .ref qc, .int (Ch_kind v), .int (Ch_present v), .int (Ch_change v), .int (Ch_changeLeft v)]))], [(qa, .inl (E.2.1, 6, .inl (Ch_intensities v)))], [(qb, .inl (E.2.1, 6, .inl (Ch_lives v)))], [(qc, .inl (E.2.1, 6, .inl (Ch_uses v)))], [(o2, .inr (0, [.ref qa2, .ref qb2, .ref qc2, .int (Ch_kind v2), .int (Ch_present v2), .int (Ch_change v2), .int (Ch_changeLeft v2)]))], [(qa2, .inl (E.2.1, 6, .inl (Ch_intensities v2)))], [(qb2, .inl (E.2.1, 6, .inl (Ch_lives v2)))], [(qc2, .inl (E.2.1, 6, .inl (Ch_uses v2)))]]) H := hP
      have hD : va_D A (bl [[(o, .inr (0, [.ref qa, .ref qb, .ref qc, .int (Ch_kind v), .int (Ch_present v), .int (Ch_change v), .int (Ch_changeLeft v)]))], [(qa, .inl (E.2.1, 6, .inl (Ch_intensities v)))], [(qb, .inl (E.2.1, 6, .inl (Ch_lives v)))], [(qc, .inl (E.2.1, 6, .inl (Ch_uses v)))], [(o2, .inr (0, [.ref qa2, .ref qb2, .ref qc2, .int (Ch_kind v2), .int (Ch_present v2), .int (Ch_change v2), .int (Ch_changeLeft v2)]))], [(qa2, .inl (E.2.1, 6, .inl (Ch_intensities v2)))], [(qb2, .inl (E.2.1, 6, .inl (Ch_lives v2)))], [(qc2, .inl (E.2.1, 6, .inl (Ch_uses v2)))]]) := hD
      refine W.eq (g2 := F0 m 21 ls [.int q11]) rfl ?_
      refine lv_aload_n hx hb dX1_isLike_21 rfl (lv_at hl 1 rfl) ?_
      refine lv_iload_n hx hb dX1_isLike_22 rfl (lv_at hl 2 rfl) ?_
      obtain ⟨q12, h_q12, hF⟩ := bnd_s hF
      refine g_callV (As := [.int p0]) (rest := [.int q11]) ⟨hx, hb, hml, hown, hts⟩ hK hZ hA (c_X1_hasLamp l E o2 qa2 qb2 qc2 v2 p0 q12 h_q12) (cwV 1 hts gX1_isLike_X1_hasLamp rfl rfl rfl (by decide +kernel) ⟨Nat.le_of_ble_eq_true rfl, Nat.le_of_ble_eq_true rfl⟩) hP hD hS [4, 5, 6, 7] [0, 1, 2, 3] rfl rfl rfl rfl rfl rfl hl.1 rfl (Nat.le_of_ble_eq_true rfl) dX1_isLike_23 ⟨Nat.le_of_ble_eq_true rfl, Nat.le_of_ble_eq_true rfl⟩ (fun H locs hP hD hS => ?_)
      have hP : va_P E.1 vwCl (bl [[(o2, .inr (0, [.ref qa2, .ref qb2, .ref qc2, .int (Ch_kind v2), .int (Ch_present v2), .int (Ch_change v2), .int (Ch_changeLeft v2)]))], [(qa2, .inl (E.2.1, 6, .inl (Ch_intensities v2)))], [(qb2, .inl (E.2.1, 6, .inl (Ch_lives v2)))], [(qc2, .inl (E.2.1, 6, .inl (Ch_uses v2)))], [(o, .inr (0, [.ref qa, .ref qb, .ref qc, .int (Ch_kind v), .int (Ch_present v), .int (Ch_change v), .int (Ch_changeLeft v)]))], [(qa, .inl (E.2.1, 6, .inl (Ch_intensities v)))], [(qb, .inl (E.2.1, 6, .inl (Ch_lives v)))], [(qc, .inl (E.2.1, 6, .inl (Ch_uses v)))]]) H := hP
      have hD : va_D A (bl [[(o2, .inr (0, [.ref qa2, .ref qb2, .ref qc2, .int (Ch_kind v2), .int (Ch_present v2), .int (Ch_change v2), .int (Ch_changeLeft v2)]))], [(qa2, .inl (E.2.1, 6, .inl (Ch_intensities v2)))], [(qb2, .inl (E.2.1, 6, .inl (Ch_lives v2)))], [(qc2, .inl (E.2.1, 6, .inl (Ch_uses v2)))], [(o, .inr (0, [.ref qa, .ref qb, .ref qc, .int (Ch_kind v), .int (Ch_present v), .int (Ch_change v), .int (Ch_changeLeft v)]))], [(qa, .inl (E.2.1, 6, .inl (Ch_intensities v)))], [(qb, .inl (E.2.1, 6, .inl (Ch_lives v)))], [(qc, .inl (E.2.1, 6, .inl (Ch_uses v)))]]) := hD
      refine W.eq (g2 := F0 m 26 ls [.int q12, .int q11]) rfl ?_
      refine f_icmp_ne (tgt := 33) hx hb dX1_isLike_26 (by decide) hF (fun hF => ?_) (fun hF => ?_)
      · refine lv_iconst (v := 0) hx hb dX1_isLike_33 (by decide) ?_
        exact g_zret (rvf := fun z => some (.int z)) (W1f := fun z => bl [Ch_c E o qa qb qc v, Ch_c E o2 qa2 qb2 qc2 v2]) hx hb hr hlocks rfl hQ hF rfl hP hD hS [4, 5, 6, 7, 0, 1, 2, 3] rfl rfl dX1_isLike_34
      · refine lv_iconst (v := 1) hx hb dX1_isLike_29 (by decide) ?_
        refine lv_goto (tgt := 34) hx hb dX1_isLike_30 (by decide) ?_
        exact g_zret (rvf := fun z => some (.int z)) (W1f := fun z => bl [Ch_c E o qa qb qc v, Ch_c E o2 qa2 qb2 qc2 v2]) hx hb hr hlocks rfl hQ hF rfl hP hD hS [4, 5, 6, 7, 0, 1, 2, 3] rfl rfl dX1_isLike_34
def F_X1_differences_L4 (n : Nat) : Nat → ChV → ChV → Int32 → Int32 → Option (Int32)
  | 0, _, _, _, _ => none
  | k + 1, v, v2, x2, x3 => if 6 ≤ x3 then some x2 else (F_X1_isLike v v2 x3).bind fun q1 => if q1 = 0 then F_X1_differences_L4 n k v v2 (x2 + 1) (x3 + 1) else F_X1_differences_L4 n k v v2 x2 (x3 + 1)
def F_X1_differences (n : Nat) (v : ChV) (v2 : ChV) : Option (Int32) := F_X1_differences_L4 n n v v2 0 0
set_option maxHeartbeats 4000000 in
set_option maxRecDepth 100000 in
theorem c_X1_differences (l : Launch) (E : GE) (o : Nat) (qa : Nat) (qb : Nat) (qc : Nat) (o2 : Nat) (qa2 : Nat) (qb2 : Nat) (qc2 : Nat) (n : Nat) (v : ChV) (v2 : ChV) (r : Int32) (hF : F_X1_differences n v v2 = some r) : CT l E yX1_differences wsX1_differences ({ frames := 3, cells := 0, slots := 0, locals := 63 } : Room) [.ref o, .ref o2] (bl [Ch_c E o qa qb qc v, Ch_c E o2 qa2 qb2 qc2 v2]) (some (.int r)) (bl [Ch_c E o qa qb qc v, Ch_c E o2 qa2 qb2 qc2 v2]) 0 0 := by
  refine CT.of (cc := cX1_differences) (maxL := 4) (ret := (some .int)) (by decide) rfl (Nat.le_of_ble_eq_true rfl) ?_
  intro p e s m args below meth cd A Q ls B hQ hP hD hS hl
  obtain ⟨hx, hb, hml, hown, hts, hr, hlocks, hK, hZ, hA, hnm⟩ := B
  have hown : s.vm.findClass RX1 = some m.cls := hown
  have hl : lv_has ls 4 [(0, .ref o), (1, .ref o2)] := hl
  have hL4 : ∀ (k : Nat) (x2 : Int32) (x3 : Int32) (H : Heap) (locs : List Loc), va_P E.1 vwCl (bl [Ch_c E o qa qb qc v, Ch_c E o2 qa2 qb2 qc2 v2]) H → va_D A (bl [Ch_c E o qa qb qc v, Ch_c E o2 qa2 qb2 qc2 v2]) → va_S A s.heap H locs → ∀ ls : Array Slot, lv_has ls 4 [(0, .ref o), (1, .ref o2), (2, .int x2), (3, .int x3)] → F_X1_differences_L4 n k v v2 x2 x3 = some r → W p l e ({ frames := 3, cells := 0, slots := 0, locals := 63 } : Room) s m args below meth cd H locs 0 0 Q (F0 m 4 ls []) := by
    intro k
    induction k with
    | zero => intro x2 x3 H locs hP hD hS ls hl hF; cases hF
    | succ k ih =>
      intro x2 x3 H locs hP hD hS ls hl hF
      rw [F_X1_differences_L4] at hF
      refine lv_iload_n hx hb dX1_differences_4 rfl (lv_at hl 3 rfl) ?_
      refine lv_bipush (v := 6) hx hb dX1_differences_5 (by decide) ?_
      refine f_icmp_ge (tgt := 28) hx hb dX1_differences_7 (by decide) hF (fun hF => ?_) (fun hF => ?_)
      · refine lv_iload_n hx hb dX1_differences_28 rfl (lv_at hl 2 rfl) ?_
        exact g_iret (rvf := fun z => some (.int z)) (W1f := fun z => bl [Ch_c E o qa qb qc v, Ch_c E o2 qa2 qb2 qc2 v2]) hx hb hr hlocks hQ hF rfl hP hD hS [0, 1] rfl rfl dX1_differences_29
      · refine lv_aload_n hx hb dX1_differences_10 rfl (lv_at hl 0 rfl) ?_
        refine lv_aload_n hx hb dX1_differences_11 rfl (lv_at hl 1 rfl) ?_
        refine lv_iload_n hx hb dX1_differences_12 rfl (lv_at hl 3 rfl) ?_
        obtain ⟨q1, h_q1, hF⟩ := bnd_s hF
        refine g_callV (As := [.ref o2, .int x3]) (rest := []) ⟨hx, hb, hml, hown, hts⟩ hK hZ hA (c_X1_isLike l E o qa qb qc o2 qa2 qb2 qc2 v v2 x3 q1 h_q1) (cwV 2 hts gX1_differences_X1_isLike rfl rfl rfl (by decide +kernel) ⟨Nat.le_of_ble_eq_true rfl, Nat.le_of_ble_eq_true rfl⟩) hP hD hS [0, 1] [] rfl rfl rfl rfl rfl rfl hl.1 rfl (Nat.le_of_ble_eq_true rfl) dX1_differences_13 ⟨Nat.le_of_ble_eq_true rfl, Nat.le_of_ble_eq_true rfl⟩ (fun H locs hP hD hS => ?_)
        have hP : va_P E.1 vwCl (bl [Ch_c E o qa qb qc v, Ch_c E o2 qa2 qb2 qc2 v2]) H := hP
        have hD : va_D A (bl [Ch_c E o qa qb qc v, Ch_c E o2 qa2 qb2 qc2 v2]) := hD
        refine W.eq (g2 := F0 m 16 ls [.int q1]) rfl ?_
        refine f_if_ne (tgt := 22) hx hb dX1_differences_16 (by decide) hF (fun hF => ?_) (fun hF => ?_)
        · refine lv_iinc (v := (x3 + 1)) (lv' := [(3, .int (x3 + 1)), (0, .ref o), (1, .ref o2), (2, .int x2)]) hx hb dX1_differences_22 hl (k := 3) rfl rfl (by decide) rfl (fun ls hl => ?_)
          refine lv_goto (tgt := 4) hx hb dX1_differences_25 (by decide) ?_
          exact ih x2 (x3 + 1) _ _ hP hD hS _ (lv_sub hl [1, 2, 3, 0] rfl) hF
        · refine lv_iinc (v := (x2 + 1)) (lv' := [(2, .int (x2 + 1)), (0, .ref o), (1, .ref o2), (3, .int x3)]) hx hb dX1_differences_19 hl (k := 2) rfl rfl (by decide) rfl (fun ls hl => ?_)
          refine lv_iinc (v := (x3 + 1)) (lv' := [(3, .int (x3 + 1)), (2, .int (x2 + 1)), (0, .ref o), (1, .ref o2)]) hx hb dX1_differences_22 hl (k := 3) rfl rfl (by decide) rfl (fun ls hl => ?_)
          refine lv_goto (tgt := 4) hx hb dX1_differences_25 (by decide) ?_
          exact ih (x2 + 1) (x3 + 1) _ _ hP hD hS _ (lv_sub hl [2, 3, 1, 0] rfl) hF
  unfold F_X1_differences at hF
  refine lv_iconst (v := 0) hx hb dX1_differences_0 (by decide) ?_
  refine lv_istore_n (lv' := [(2, .int 0), (0, .ref o), (1, .ref o2)]) hx hb dX1_differences_1 rfl hl (by decide) rfl (fun ls hl => ?_)
  refine lv_iconst (v := 0) hx hb dX1_differences_2 (by decide) ?_
  refine lv_istore_n (lv' := [(3, .int 0), (2, .int 0), (0, .ref o), (1, .ref o2)]) hx hb dX1_differences_3 rfl hl (by decide) rfl (fun ls hl => ?_)
  exact hL4 n 0 0 _ _ hP hD hS _ (lv_sub hl [2, 3, 1, 0] rfl) hF
