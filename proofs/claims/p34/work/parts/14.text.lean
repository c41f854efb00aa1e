-- X8: printed by wip/whole/parts.py: a pure picture and a contract a method
def F_X8_isFull (v : TxV) : Option (Int32) := if (Tx_length v) < 120 then some 0 else some 1
set_option maxHeartbeats 4000000 in
set_option maxRecDepth 100000 in
theorem c_X8_isFull (l : Launch) (E : GE) (o : Nat) (qa : Nat) (qb : Nat) (v : TxV) (r : Int32) (hF : F_X8_isFull v = some r) : CT l E yX8_isFull wsX8_isFull ({ frames := 0, cells := 0, slots := 0, locals := 0 } : Room) [.ref o] (bl [Tx_c E o qa qb v]) (some (.int r)) (bl [Tx_c E o qa qb v]) 0 0 := by
  refine CT.of (cc := cX8_isFull) (maxL := 1) (ret := (some .boolean)) (by decide) rfl (Nat.le_of_ble_eq_true rfl) ?_
  intro p e s m args below meth cd A Q ls B hQ hP hD hS hl
  obtain ⟨hx, hb, hml, hown, hts, hr, hlocks, hK, hZ, hA, hnm⟩ := B
  have hown : s.vm.findClass RX8 = some m.cls := hown
  have hl : lv_has ls 1 [(0, .ref o)] := hl
  have w0 := hts (.fieldLink RX8 21 "HarborLight$Text" "length" "I") (by decide +kernel)
  have in_X8 : ∀ w ∈ wsX80, w ∈ wsX8_isFull := by decide +kernel
  have hP : va_P E.1 vwCl (bl [[(o, .inr (6, [.ref qa, .ref qb, .int (Tx_length v), .int (Tx_at v), .int (Tx_items v), .int (Tx_faultIndex v), .int (Tx_faultReason v)]))], [(qa, .inl (E.2.2.1, 120, .inl (Tx_signs v)))], [(qb, .inl (E.2.1, 16, .inl (Tx_numbers v)))]]) s.heap := hP
  have hD : va_D A (bl [[(o, .inr (6, [.ref qa, .ref qb, .int (Tx_length v), .int (Tx_at v), .int (Tx_items v), .int (Tx_faultIndex v), .int (Tx_faultReason v)]))], [(qa, .inl (E.2.2.1, 120, .inl (Tx_signs v)))], [(qb, .inl (E.2.1, 16, .inl (Tx_numbers v)))]]) := hD
  unfold F_X8_isFull at hF
  refine lv_aload_n hx hb dX8_isFull_0 rfl (lv_at hl 0 rfl) ?_
  refine g_get (T := TX8) (N := 7) hx hb hts in_X8 hown hK hP 0 rfl rfl 2 (by decide) w0 rfl rfl dX8_isFull_1 ?_
  refine lv_bipush (v := 120) hx hb dX8_isFull_4 (by decide) ?_
  refine f_icmp_lt (tgt := 13) hx hb dX8_isFull_6 (by decide) hF (fun hF => ?_) (fun hF => ?_)
  · refine lv_iconst (v := 0) hx hb dX8_isFull_13 (by decide) ?_
    exact g_zret (rvf := fun z => some (.int z)) (W1f := fun z => bl [Tx_c E o qa qb v]) hx hb hr hlocks rfl hQ hF rfl hP hD hS [0, 1, 2] rfl rfl dX8_isFull_14
  · refine lv_iconst (v := 1) hx hb dX8_isFull_9 (by decide) ?_
    refine lv_goto (tgt := 14) hx hb dX8_isFull_10 (by decide) ?_
    exact g_zret (rvf := fun z => some (.int z)) (W1f := fun z => bl [Tx_c E o qa qb v]) hx hb hr hlocks rfl hQ hF rfl hP hD hS [0, 1, 2] rfl rfl dX8_isFull_14
def F_X8_append (v : TxV) (p0 : Int32) : Option (TxV) := if (Tx_length v) < 0 then some v else if 120 ≤ (Tx_length v) then some v else chk (Tx_length v) 120 (some (Tx_mk (upd (Tx_signs v) (Tx_length v).toNatClampNeg ((p0.toUInt32 % 65536).toInt32)) (Tx_numbers v) ((Tx_length v) + 1) (Tx_at v) (Tx_items v) (Tx_faultIndex v) (Tx_faultReason v)))
set_option maxHeartbeats 4000000 in
set_option maxRecDepth 100000 in
theorem c_X8_append (l : Launch) (E : GE) (o : Nat) (qa : Nat) (qb : Nat) (v : TxV) (p0 : Int32) (r : TxV) (hF : F_X8_append v p0 = some r) : CT l E yX8_append wsX8_append ({ frames := 0, cells := 0, slots := 0, locals := 0 } : Room) [.ref o, .int p0] (bl [Tx_c E o qa qb v]) (none) (bl [Tx_c E o qa qb r]) 0 0 := by
  refine CT.of (cc := cX8_append) (maxL := 2) (ret := none) (by decide) rfl (Nat.le_of_ble_eq_true rfl) ?_
  intro p e s m args below meth cd A Q ls B hQ hP hD hS hl
  obtain ⟨hx, hb, hml, hown, hts, hr, hlocks, hK, hZ, hA, hnm⟩ := B
  have hown : s.vm.findClass RX8 = some m.cls := hown
  have hl : lv_has ls 2 [(0, .ref o), (1, .int p0)] := hl
  have w0 := hts (.fieldLink RX8 21 "HarborLight$Text" "length" "I") (by decide +kernel)
  have w1 := hts (.fieldLink RX8 13 "HarborLight$Text" "signs" "[C") (by decide +kernel)
  have in_X8 : ∀ w ∈ wsX80, w ∈ wsX8_append := by decide +kernel
  have hP : va_P E.1 vwCl (bl [[(o, .inr (6, [.ref qa, .ref qb, .int (Tx_length v), .int (Tx_at v), .int (Tx_items v), .int (Tx_faultIndex v), .int (Tx_faultReason v)]))], [(qa, .inl (E.2.2.1, 120, .inl (Tx_signs v)))], [(qb, .inl (E.2.1, 16, .inl (Tx_numbers v)))]]) s.heap := hP
  have hD : va_D A (bl [[(o, .inr (6, [.ref qa, .ref qb, .int (Tx_length v), .int (Tx_at v), .int (Tx_items v), .int (Tx_faultIndex v), .int (Tx_faultReason v)]))], [(qa, .inl (E.2.2.1, 120, .inl (Tx_signs v)))], [(qb, .inl (E.2.1, 16, .inl (Tx_numbers v)))]]) := hD
  unfold F_X8_append at hF
  refine lv_aload_n hx hb dX8_append_0 rfl (lv_at hl 0 rfl) ?_
  refine g_get (T := TX8) (N := 7) hx hb hts in_X8 hown hK hP 0 rfl rfl 2 (by decide) w0 rfl rfl dX8_append_1 ?_
  refine f_if_lt (tgt := 36) hx hb dX8_append_4 (by decide) hF (fun hF => ?_) (fun hF => ?_)
  · exact g_vret (rvf := fun z => none) (W1f := fun z => bl [Tx_c E o qa qb z]) hx hb hr hlocks hQ hF rfl hP hD hS [0, 1, 2] rfl rfl dX8_append_36
  · refine lv_aload_n hx hb dX8_append_7 rfl (lv_at hl 0 rfl) ?_
    refine g_get (T := TX8) (N := 7) hx hb hts in_X8 hown hK hP 0 rfl rfl 2 (by decide) w0 rfl rfl dX8_append_8 ?_
    refine lv_bipush (v := 120) hx hb dX8_append_11 (by decide) ?_
    refine f_icmp_ge (tgt := 36) hx hb dX8_append_13 (by decide) hF (fun hF => ?_) (fun hF => ?_)
    · exact g_vret (rvf := fun z => none) (W1f := fun z => bl [Tx_c E o qa qb z]) hx hb hr hlocks hQ hF rfl hP hD hS [0, 1, 2] rfl rfl dX8_append_36
    · refine lv_aload_n hx hb dX8_append_16 rfl (lv_at hl 0 rfl) ?_
      refine g_get (T := TX8) (N := 7) hx hb hts in_X8 hown hK hP 0 rfl rfl 0 (by decide) w1 rfl rfl dX8_append_17 ?_
      refine lv_aload_n hx hb dX8_append_20 rfl (lv_at hl 0 rfl) ?_
      refine g_get (T := TX8) (N := 7) hx hb hts in_X8 hown hK hP 0 rfl rfl 2 (by decide) w0 rfl rfl dX8_append_21 ?_
      refine lv_iload_n hx hb dX8_append_24 rfl (lv_at hl 1 rfl) ?_
      refine f_cast hx hb hK hP hD hS 1 rfl hF dX8_append_25 (fun hF H locs hP hD hS => ?_)
      have hP : va_P E.1 vwCl (bl [[(o, .inr (6, [.ref qa, .ref qb, .int (Tx_length v), .int (Tx_at v), .int (Tx_items v), .int (Tx_faultIndex v), .int (Tx_faultReason v)]))], [(qa, .inl (E.2.2.1, 120, .inl (upd (Tx_signs v) (Tx_length v).toNatClampNeg ((p0.toUInt32 % 65536).toInt32))))], [(qb, .inl (E.2.1, 16, .inl (Tx_numbers v)))]]) H := hP
      have hD : va_D A (bl [[(o, .inr (6, [.ref qa, .ref qb, .int (Tx_length v), .int (Tx_at v), .int (Tx_items v), .int (Tx_faultIndex v), .int (Tx_faultReason v)]))], [(qa, .inl (E.2.2.1, 120, .inl (upd (Tx_signs v) (Tx_length v).toNatClampNeg ((p0.toUInt32 % 65536).toInt32))))], [(qb, .inl (E.2.1, 16, .inl (Tx_numbers v)))]]) := hD
      refine lv_aload_n hx hb dX8_append_26 rfl (lv_at hl 0 rfl) ?_
      refine lv_dup hx hb dX8_append_27 rfl ?_
      refine g_get (T := TX8) (N := 7) hx hb hts in_X8 hown hK hP 0 rfl rfl 2 (by decide) w0 rfl rfl dX8_append_28 ?_
      refine lv_iconst (v := 1) hx hb dX8_append_31 (by decide) ?_
      refine lv_iadd hx hb dX8_append_32 ?_
      refine g_put (T := TX8) (N := 7) hx hb hts in_X8 tyX8 tyX8_ok nmX8 hown hK hP hD hS 0 rfl rfl 2 (by decide) w0 rfl rfl rfl rfl (Nat.le_of_ble_eq_true rfl) dX8_append_33 (fun H locs hP hD hS => ?_)
      have hP : va_P E.1 vwCl (bl [[(o, .inr (6, [.ref qa, .ref qb, .int ((Tx_length v) + 1), .int (Tx_at v), .int (Tx_items v), .int (Tx_faultIndex v), .int (Tx_faultReason v)]))], [(qa, .inl (E.2.2.1, 120, .inl (upd (Tx_signs v) (Tx_length v).toNatClampNeg ((p0.toUInt32 % 65536).toInt32))))], [(qb, .inl (E.2.1, 16, .inl (Tx_numbers v)))]]) H := hP
      have hD : va_D A (bl [[(o, .inr (6, [.ref qa, .ref qb, .int ((Tx_length v) + 1), .int (Tx_at v), .int (Tx_items v), .int (Tx_faultIndex v), .int (Tx_faultReason v)]))], [(qa, .inl (E.2.2.1, 120, .inl (upd (Tx_signs v) (Tx_length v).toNatClampNeg ((p0.toUInt32 % 65536).toInt32))))], [(qb, .inl (E.2.1, 16, .inl (Tx_numbers v)))]]) := hD
      exact g_vret (rvf := fun z => none) (W1f := fun z => bl [Tx_c E o qa qb z]) hx hb hr hlocks hQ hF rfl hP hD hS [0, 1, 2] rfl rfl dX8_append_36
def F_X8_signAt (v : TxV) (p0 : Int32) : Option (Int32) := if p0 < 0 then some 0 else if (Tx_length v) ≤ p0 then some 0 else if 120 ≤ p0 then some 0 else chk p0 120 (cck ((Tx_signs v) p0.toNatClampNeg) (some ((Tx_signs v) p0.toNatClampNeg)))
set_option maxHeartbeats 4000000 in
set_option maxRecDepth 100000 in
theorem c_X8_signAt (l : Launch) (E : GE) (o : Nat) (qa : Nat) (qb : Nat) (v : TxV) (p0 : Int32) (r : Int32) (hF : F_X8_signAt v p0 = some r) : CT l E yX8_signAt wsX8_signAt ({ frames := 0, cells := 0, slots := 0, locals := 0 } : Room) [.ref o, .int p0] (bl [Tx_c E o qa qb v]) (some (.int r)) (bl [Tx_c E o qa qb v]) 0 0 := by
  refine CT.of (cc := cX8_signAt) (maxL := 2) (ret := (some .char)) (by decide) rfl (Nat.le_of_ble_eq_true rfl) ?_
  intro p e s m args below meth cd A Q ls B hQ hP hD hS hl
  obtain ⟨hx, hb, hml, hown, hts, hr, hlocks, hK, hZ, hA, hnm⟩ := B
  have hown : s.vm.findClass RX8 = some m.cls := hown
  have hl : lv_has ls 2 [(0, .ref o), (1, .int p0)] := hl
  have w0 := hts (.fieldLink RX8 21 "HarborLight$Text" "length" "I") (by decide +kernel)
  have w1 := hts (.fieldLink RX8 13 "HarborLight$Text" "signs" "[C") (by decide +kernel)
  have in_X8 : ∀ w ∈ wsX80, w ∈ wsX8_signAt := by decide +kernel
  have hP : va_P E.1 vwCl (bl [[(o, .inr (6, [.ref qa, .ref qb, .int (Tx_length v), .int (Tx_at v), .int (Tx_items v), .int (Tx_faultIndex v), .int (Tx_faultReason v)]))], [(qa, .inl (E.2.2.1, 120, .inl (Tx_signs v)))], [(qb, .inl (E.2.1, 16, .inl (Tx_numbers v)))]]) s.heap := hP
  have hD : va_D A (bl [[(o, .inr (6, [.ref qa, .ref qb, .int (Tx_length v), .int (Tx_at v), .int (Tx_items v), .int (Tx_faultIndex v), .int (Tx_faultReason v)]))], [(qa, .inl (E.2.2.1, 120, .inl (Tx_signs v)))], [(qb, .inl (E.2.1, 16, .inl (Tx_numbers v)))]]) := hD
  unfold F_X8_signAt at hF
  refine lv_iload_n hx hb dX8_signAt_0 rfl (lv_at hl 1 rfl) ?_
  refine f_if_lt (tgt := 27) hx hb dX8_signAt_1 (by decide) hF (fun hF => ?_) (fun hF => ?_)
  · refine lv_iconst (v := 0) hx hb dX8_signAt_27 (by decide) ?_
    exact g_zret (rvf := fun z => some (.int z)) (W1f := fun z => bl [Tx_c E o qa qb v]) hx hb hr hlocks rfl hQ hF rfl hP hD hS [0, 1, 2] rfl rfl dX8_signAt_28
  · refine lv_iload_n hx hb dX8_signAt_4 rfl (lv_at hl 1 rfl) ?_
    refine lv_aload_n hx hb dX8_signAt_5 rfl (lv_at hl 0 rfl) ?_
    refine g_get (T := TX8) (N := 7) hx hb hts in_X8 hown hK hP 0 rfl rfl 2 (by decide) w0 rfl rfl dX8_signAt_6 ?_
    refine f_icmp_ge (tgt := 27) hx hb dX8_signAt_9 (by decide) hF (fun hF => ?_) (fun hF => ?_)
    · refine lv_iconst (v := 0) hx hb dX8_signAt_27 (by decide) ?_
      exact g_zret (rvf := fun z => some (.int z)) (W1f := fun z => bl [Tx_c E o qa qb v]) hx hb hr hlocks rfl hQ hF rfl hP hD hS [0, 1, 2] rfl rfl dX8_signAt_28
    · refine lv_iload_n hx hb dX8_signAt_12 rfl (lv_at hl 1 rfl) ?_
      refine lv_bipush (v := 120) hx hb dX8_signAt_13 (by decide) ?_
      refine f_icmp_ge (tgt := 27) hx hb dX8_signAt_15 (by decide) hF (fun hF => ?_) (fun hF => ?_)
      · refine lv_iconst (v := 0) hx hb dX8_signAt_27 (by decide) ?_
        exact g_zret (rvf := fun z => some (.int z)) (W1f := fun z => bl [Tx_c E o qa qb v]) hx hb hr hlocks rfl hQ hF rfl hP hD hS [0, 1, 2] rfl rfl dX8_signAt_28
      · refine lv_aload_n hx hb dX8_signAt_18 rfl (lv_at hl 0 rfl) ?_
        refine g_get (T := TX8) (N := 7) hx hb hts in_X8 hown hK hP 0 rfl rfl 0 (by decide) w1 rfl rfl dX8_signAt_19 ?_
        refine lv_iload_n hx hb dX8_signAt_22 rfl (lv_at hl 1 rfl) ?_
        refine f_cald hx hb hK hP 1 rfl hF dX8_signAt_23 (fun hF => ?_)
        refine lv_goto (tgt := 28) hx hb dX8_signAt_24 (by decide) ?_
        obtain ⟨hn9, hF⟩ := cck_s hF
        exact g_zret (rvf := fun z => some (.int z)) (W1f := fun z => bl [Tx_c E o qa qb v]) hx hb hr hlocks (cck_n hn9) hQ hF rfl hP hD hS [0, 1, 2] rfl rfl dX8_signAt_28
def F_X8_skipLetters_L2 (n : Nat) : Nat → TxV → Int32 → Option (TxV)
  | 0, _, _ => none
  | k + 1, u, x1 => if 120 ≤ x1 then some u else (F_X8_signAt u (Tx_at u)).bind fun q1 => if q1 < 97 then some u else (F_X8_signAt u (Tx_at u)).bind fun q2 => if 122 < q2 then some u else F_X8_skipLetters_L2 n k (Tx_mk (Tx_signs u) (Tx_numbers u) (Tx_length u) ((Tx_at u) + 1) (Tx_items u) (Tx_faultIndex u) (Tx_faultReason u)) (x1 + 1)
def F_X8_skipLetters (n : Nat) (v : TxV) : Option (TxV) := F_X8_skipLetters_L2 n n v 0
set_option maxHeartbeats 4000000 in
set_option maxRecDepth 100000 in
theorem c_X8_skipLetters (l : Launch) (E : GE) (o : Nat) (qa : Nat) (qb : Nat) (n : Nat) (v : TxV) (r : TxV) (hF : F_X8_skipLetters n v = some r) : CT l E yX8_skipLetters wsX8_skipLetters ({ frames := 1, cells := 0, slots := 0, locals := 21 } : Room) [.ref o] (bl [Tx_c E o qa qb v]) (none) (bl [Tx_c E o qa qb r]) 0 0 := by
  refine CT.of (cc := cX8_skipLetters) (maxL := 2) (ret := none) (by decide) rfl (Nat.le_of_ble_eq_true rfl) ?_
  intro p e s m args below meth cd A Q ls B hQ hP hD hS hl
  obtain ⟨hx, hb, hml, hown, hts, hr, hlocks, hK, hZ, hA, hnm⟩ := B
  have hown : s.vm.findClass RX8 = some m.cls := hown
  have hl : lv_has ls 2 [(0, .ref o)] := hl
  have w0 := hts (.fieldLink RX8 25 "HarborLight$Text" "at" "I") (by decide +kernel)
  have in_X8 : ∀ w ∈ wsX80, w ∈ wsX8_skipLetters := by decide +kernel
  have hP : va_P E.1 vwCl (bl [[(o, .inr (6, [.ref qa, .ref qb, .int (Tx_length v), .int (Tx_at v), .int (Tx_items v), .int (Tx_faultIndex v), .int (Tx_faultReason v)]))], [(qa, .inl (E.2.2.1, 120, .inl (Tx_signs v)))], [(qb, .inl (E.2.1, 16, .inl (Tx_numbers v)))]]) s.heap := hP
  have hD : va_D A (bl [[(o, .inr (6, [.ref qa, .ref qb, .int (Tx_length v), .int (Tx_at v), .int (Tx_items v), .int (Tx_faultIndex v), .int (Tx_faultReason v)]))], [(qa, .inl (E.2.2.1, 120, .inl (Tx_signs v)))], [(qb, .inl (E.2.1, 16, .inl (Tx_numbers v)))]]) := hD
  have hL2 : ∀ (k : Nat) (u : TxV) (x1 : Int32) (H : Heap) (locs : List Loc), va_P E.1 vwCl (bl [[(o, .inr (6, [.ref qa, .ref qb, .int (Tx_length u), .int (Tx_at u), .int (Tx_items u), .int (Tx_faultIndex u), .int (Tx_faultReason u)]))], [(qa, .inl (E.2.2.1, 120, .inl (Tx_signs u)))], [(qb, .inl (E.2.1, 16, .inl (Tx_numbers u)))]]) H → va_D A (bl [[(o, .inr (6, [.ref qa, .ref qb, .int (Tx_length u), .int (Tx_at u), .int (Tx_items u), .int (Tx_faultIndex u), .int (Tx_faultReason u)]))], [(qa, .inl (E.2.2.1, 120, .inl (Tx_signs u)))], [(qb, .inl (E.2.1, 16, .inl (Tx_numbers u)))]]) → va_S A s.heap H locs → ∀ ls : Array Slot, lv_has ls 2 [(0, .ref o), (1, .int x1)] → F_X8_skipLetters_L2 n k u x1 = some r → W p l e ({ frames := 1, cells := 0, slots := 0, locals := 21 } : Room) s m args below meth cd H locs 0 0 Q (F0 m 2 ls []) := by
    intro k
    induction k with
    | zero => intro u x1 H locs hP hD hS ls hl hF; cases hF
    | succ k ih =>
      intro u x1 H locs hP hD hS ls hl hF
      rw [F_X8_skipLetters_L2] at hF
      refine lv_iload_n hx hb dX8_skipLetters_2 rfl (lv_at hl 1 rfl) ?_
      refine lv_bipush (v := 120) hx hb dX8_skipLetters_3 (by decide) ?_
      refine f_icmp_ge (tgt := 50) hx hb dX8_skipLetters_5 (by decide) hF (fun hF => ?_) (fun hF => ?_)
      · exact g_vret (rvf := fun z => none) (W1f := fun z => bl [Tx_c E o qa qb z]) hx hb hr hlocks hQ hF rfl hP hD hS [0, 1, 2] rfl rfl dX8_skipLetters_50
      · refine lv_aload_n hx hb dX8_skipLetters_8 rfl (lv_at hl 0 rfl) ?_
        refine lv_aload_n hx hb dX8_skipLetters_9 rfl (lv_at hl 0 rfl) ?_
        refine g_get (T := TX8) (N := 7) hx hb hts in_X8 hown hK hP 0 rfl rfl 3 (by decide) w0 rfl rfl dX8_skipLetters_10 ?_
        obtain ⟨q1, h_q1, hF⟩ := bnd_s hF
        refine g_callV (As := [.int (Tx_at u)]) (rest := []) ⟨hx, hb, hml, hown, hts⟩ hK hZ hA (c_X8_signAt l E o qa qb u (Tx_at u) q1 h_q1) (cwV 1 hts gX8_skipLetters_X8_signAt rfl rfl rfl (by decide +kernel) ⟨Nat.le_of_ble_eq_true rfl, Nat.le_of_ble_eq_true rfl⟩) hP hD hS [0, 1, 2] [] rfl rfl rfl rfl rfl rfl hl.1 rfl (Nat.le_of_ble_eq_true rfl) dX8_skipLetters_13 ⟨Nat.le_of_ble_eq_true rfl, Nat.le_of_ble_eq_true rfl⟩ (fun H locs hP hD hS => ?_)
        have hP : va_P E.1 vwCl (bl [[(o, .inr (6, [.ref qa, .ref qb, .int (Tx_length u), .int (Tx_at u), .int (Tx_items u), .int (Tx_faultIndex u), .int (Tx_faultReason u)]))], [(qa, .inl (E.2.2.1, 120, .inl (Tx_signs u)))], [(qb, .inl (E.2.1, 16, .inl (Tx_numbers u)))]]) H := hP
        have hD : va_D A (bl [[(o, .inr (6, [.ref qa, .ref qb, .int (Tx_length u), .int (Tx_at u), .int (Tx_items u), .int (Tx_faultIndex u), .int (Tx_faultReason u)]))], [(qa, .inl (E.2.2.1, 120, .inl (Tx_signs u)))], [(qb, .inl (E.2.1, 16, .inl (Tx_numbers u)))]]) := hD
        refine W.eq (g2 := F0 m 16 ls [.int q1]) rfl ?_
        refine lv_bipush (v := 97) hx hb dX8_skipLetters_16 (by decide) ?_
        refine f_icmp_lt (tgt := 50) hx hb dX8_skipLetters_18 (by decide) hF (fun hF => ?_) (fun hF => ?_)
        · exact g_vret (rvf := fun z => none) (W1f := fun z => bl [Tx_c E o qa qb z]) hx hb hr hlocks hQ hF rfl hP hD hS [0, 1, 2] rfl rfl dX8_skipLetters_50
        · refine lv_aload_n hx hb dX8_skipLetters_21 rfl (lv_at hl 0 rfl) ?_
          refine lv_aload_n hx hb dX8_skipLetters_22 rfl (lv_at hl 0 rfl) ?_
          refine g_get (T := TX8) (N := 7) hx hb hts in_X8 hown hK hP 0 rfl rfl 3 (by decide) w0 rfl rfl dX8_skipLetters_23 ?_
          obtain ⟨q2, h_q2, hF⟩ := bnd_s hF
          refine g_callV (As := [.int (Tx_at u)]) (rest := []) ⟨hx, hb, hml, hown, hts⟩ hK hZ hA (c_X8_signAt l E o qa qb u (Tx_at u) q2 h_q2) (cwV 1 hts gX8_skipLetters_X8_signAt rfl rfl rfl (by decide +kernel) ⟨Nat.le_of_ble_eq_true rfl, Nat.le_of_ble_eq_true rfl⟩) hP hD hS [0, 1, 2] [] rfl rfl rfl rfl rfl rfl hl.1 rfl (Nat.le_of_ble_eq_true rfl) dX8_skipLetters_26 ⟨Nat.le_of_ble_eq_true rfl, Nat.le_of_ble_eq_true rfl⟩ (fun H locs hP hD hS => ?_)
          have hP : va_P E.1 vwCl (bl [[(o, .inr (6, [.ref qa, .ref qb, .int (Tx_length u), .int (Tx_at u), .int (Tx_items u), .int (Tx_faultIndex u), .int (Tx_faultReason u)]))], [(qa, .inl (E.2.2.1, 120, .inl (Tx_signs u)))], [(qb, .inl (E.2.1, 16, .inl (Tx_numbers u)))]]) H := hP
          have hD : va_D A (bl [[(o, .inr (6, [.ref qa, .ref qb, .int (Tx_length u), .int (Tx_at u), .int (Tx_items u), .int (Tx_faultIndex u), .int (Tx_faultReason u)]))], [(qa, .inl (E.2.2.1, 120, .inl (Tx_signs u)))], [(qb, .inl (E.2.1, 16, .inl (Tx_numbers u)))]]) := hD
          refine W.eq (g2 := F0 m 29 ls [.int q2]) rfl ?_
          refine lv_bipush (v := 122) hx hb dX8_skipLetters_29 (by decide) ?_
          refine f_icmp_gt (tgt := 50) hx hb dX8_skipLetters_31 (by decide) hF (fun hF => ?_) (fun hF => ?_)
          · exact g_vret (rvf := fun z => none) (W1f := fun z => bl [Tx_c E o qa qb z]) hx hb hr hlocks hQ hF rfl hP hD hS [0, 1, 2] rfl rfl dX8_skipLetters_50
          · refine lv_aload_n hx hb dX8_skipLetters_34 rfl (lv_at hl 0 rfl) ?_
            refine lv_dup hx hb dX8_skipLetters_35 rfl ?_
            refine g_get (T := TX8) (N := 7) hx hb hts in_X8 hown hK hP 0 rfl rfl 3 (by decide) w0 rfl rfl dX8_skipLetters_36 ?_
            refine lv_iconst (v := 1) hx hb dX8_skipLetters_39 (by decide) ?_
            refine lv_iadd hx hb dX8_skipLetters_40 ?_
            refine g_put (T := TX8) (N := 7) hx hb hts in_X8 tyX8 tyX8_ok nmX8 hown hK hP hD hS 0 rfl rfl 3 (by decide) w0 rfl rfl rfl rfl (Nat.le_of_ble_eq_true rfl) dX8_skipLetters_41 (fun H locs hP hD hS => ?_)
            have hP : va_P E.1 vwCl (bl [[(o, .inr (6, [.ref qa, .ref qb, .int (Tx_length u), .int ((Tx_at u) + 1), .int (Tx_items u), .int (Tx_faultIndex u), .int (Tx_faultReason u)]))], [(qa, .inl (E.2.2.1, 120, .inl (Tx_signs u)))], [(qb, .inl (E.2.1, 16, .inl (Tx_numbers u)))]]) H := hP
            have hD : va_D A (bl [[(o, .inr (6, [.ref qa, .ref qb, .int (Tx_length u), .int ((Tx_at u) + 1), .int (Tx_items u), .int (Tx_faultIndex u), .int (Tx_faultReason u)]))], [(qa, .inl (E.2.2.1, 120, .inl (Tx_signs u)))], [(qb, .inl (E.2.1, 16, .inl (Tx_numbers u)))]]) := hD
            refine lv_iinc (v := (x1 + 1)) (lv' := [(1, .int (x1 + 1)), (0, .ref o)]) hx hb dX8_skipLetters_44 hl (k := 1) rfl rfl (by decide) rfl (fun ls hl => ?_)
            refine lv_goto (tgt := 2) hx hb dX8_skipLetters_47 (by decide) ?_
            exact ih (Tx_mk (Tx_signs u) (Tx_numbers u) (Tx_length u) ((Tx_at u) + 1) (Tx_items u) (Tx_faultIndex u) (Tx_faultReason u)) (x1 + 1) _ _ hP hD hS _ (lv_sub hl [1, 0] rfl) hF
  unfold F_X8_skipLetters at hF
  refine lv_iconst (v := 0) hx hb dX8_skipLetters_0 (by decide) ?_
  refine lv_istore_n (lv' := [(1, .int 0), (0, .ref o)]) hx hb dX8_skipLetters_1 rfl hl (by decide) rfl (fun ls hl => ?_)
  exact hL2 n v 0 _ _ hP hD hS _ (lv_sub hl [1, 0] rfl) hF
def F_X8_isWord_L17 (n : Nat) : Nat → TxV → Int32 → Nat → Int32 → Option (Int32)
  | 0, _, _, _, _ => none
  | k + 1, v, x1, x2, x3 => (F_J0_length_8abf5 x2).bind fun q2 => if q2 ≤ x3 then some 1 else (F_X8_signAt v (x1 + x3)).bind fun q3 => (F_J0_charAt_5068e x2 x3).bind fun q4 => if q3 = q4 then F_X8_isWord_L17 n k v x1 x2 (x3 + 1) else some 0
def F_X8_isWord (n : Nat) (v : TxV) (p0 : Int32) (p1 : Nat) : Option (Int32) := (F_J0_length_8abf5 p1).bind fun q1 => if ((Tx_at v) - p0) = q1 then F_X8_isWord_L17 n n v p0 p1 0 else some 0
set_option maxHeartbeats 4000000 in
set_option maxRecDepth 100000 in
theorem c_X8_isWord (l : Launch) (E : GE) (o : Nat) (qa : Nat) (qb : Nat) (n : Nat) (v : TxV) (p0 : Int32) (p1 : Nat) (r : Int32) (hF : F_X8_isWord n v p0 p1 = some r) : CT l E yX8_isWord wsX8_isWord ({ frames := 6, cells := 0, slots := 0, locals := 151 } : Room) [.ref o, .int p0, .ref (E.2.2.2.2.2.1 p1)] (bl [Tx_c E o qa qb v]) (some (.int r)) (bl [Tx_c E o qa qb v]) 0 0 := by
  refine CT.of (cc := cX8_isWord) (maxL := 4) (ret := (some .boolean)) (by decide) rfl (Nat.le_of_ble_eq_true rfl) ?_
  intro p e s m args below meth cd A Q ls B hQ hP hD hS hl
  obtain ⟨hx, hb, hml, hown, hts, hr, hlocks, hK, hZ, hA, hnm⟩ := B
  have hown : s.vm.findClass RX8 = some m.cls := hown
  have hl : lv_has ls 4 [(0, .ref o), (1, .int p0), (2, .ref (E.2.2.2.2.2.1 p1))] := hl
  have w0 := hts (.fieldLink RX8 25 "HarborLight$Text" "at" "I") (by decide +kernel)
  have in_X8 : ∀ w ∈ wsX80, w ∈ wsX8_isWord := by decide +kernel
  have hP : va_P E.1 vwCl (bl [[(o, .inr (6, [.ref qa, .ref qb, .int (Tx_length v), .int (Tx_at v), .int (Tx_items v), .int (Tx_faultIndex v), .int (Tx_faultReason v)]))], [(qa, .inl (E.2.2.1, 120, .inl (Tx_signs v)))], [(qb, .inl (E.2.1, 16, .inl (Tx_numbers v)))]]) s.heap := hP
  have hD : va_D A (bl [[(o, .inr (6, [.ref qa, .ref qb, .int (Tx_length v), .int (Tx_at v), .int (Tx_items v), .int (Tx_faultIndex v), .int (Tx_faultReason v)]))], [(qa, .inl (E.2.2.1, 120, .inl (Tx_signs v)))], [(qb, .inl (E.2.1, 16, .inl (Tx_numbers v)))]]) := hD
  have hL17 : ∀ (k : Nat) (x1 : Int32) (x2 : Nat) (x3 : Int32) (H : Heap) (locs : List Loc), va_P E.1 vwCl (bl [[(o, .inr (6, [.ref qa, .ref qb, .int (Tx_length v), .int (Tx_at v), .int (Tx_items v), .int (Tx_faultIndex v), .int (Tx_faultReason v)]))], [(qa, .inl (E.2.2.1, 120, .inl (Tx_signs v)))], [(qb, .inl (E.2.1, 16, .inl (Tx_numbers v)))]]) H → va_D A (bl [[(o, .inr (6, [.ref qa, .ref qb, .int (Tx_length v), .int (Tx_at v), .int (Tx_items v), .int (Tx_faultIndex v), .int (Tx_faultReason v)]))], [(qa, .inl (E.2.2.1, 120, .inl (Tx_signs v)))], [(qb, .inl (E.2.1, 16, .inl (Tx_numbers v)))]]) → va_S A s.heap H locs → ∀ ls : Array Slot, lv_has ls 4 [(0, .ref o), (1, .int x1), (2, .ref (E.2.2.2.2.2.1 x2)), (3, .int x3)] → F_X8_isWord_L17 n k v x1 x2 x3 = some r → W p l e ({ frames := 6, cells := 0, slots := 0, locals := 151 } : Room) s m args below meth cd H locs 0 0 Q (F0 m 17 ls []) := by
    intro k
    induction k with
    | zero => intro x1 x2 x3 H locs hP hD hS ls hl hF; cases hF
    | succ k ih =>
      intro x1 x2 x3 H locs hP hD hS ls hl hF
      rw [F_X8_isWord_L17] at hF
      refine lv_iload_n hx hb dX8_isWord_17 rfl (lv_at hl 3 rfl) ?_
      refine lv_aload_n hx hb dX8_isWord_18 rfl (lv_at hl 2 rfl) ?_
      obtain ⟨q2, h_q2, hF⟩ := bnd_s hF
      refine g_callVs (F_J0_length_8abf5_i h_q2) (As := []) (rest := [.int x3]) ⟨hx, hb, hml, hown, hts⟩ hK hZ hA (c_J0_length_8abf5 l E x2  q2 h_q2) (cwV 0 hts gX8_isWord_J0_length_8abf5 rfl rfl rfl (by decide +kernel) ⟨Nat.le_of_ble_eq_true rfl, Nat.le_of_ble_eq_true rfl⟩) hP hD hS [] [0, 1, 2] rfl rfl rfl hl.1 rfl (Nat.le_of_ble_eq_true rfl) dX8_isWord_19 ⟨Nat.le_of_ble_eq_true rfl, Nat.le_of_ble_eq_true rfl⟩ (fun H locs hP hD hS => ?_)
      have hP : va_P E.1 vwCl (bl [[(o, .inr (6, [.ref qa, .ref qb, .int (Tx_length v), .int (Tx_at v), .int (Tx_items v), .int (Tx_faultIndex v), .int (Tx_faultReason v)]))], [(qa, .inl (E.2.2.1, 120, .inl (Tx_signs v)))], [(qb, .inl (E.2.1, 16, .inl (Tx_numbers v)))]]) H := hP
      have hD : va_D A (bl [[(o, .inr (6, [.ref qa, .ref qb, .int (Tx_length v), .int (Tx_at v), .int (Tx_items v), .int (Tx_faultIndex v), .int (Tx_faultReason v)]))], [(qa, .inl (E.2.2.1, 120, .inl (Tx_signs v)))], [(qb, .inl (E.2.1, 16, .inl (Tx_numbers v)))]]) := hD
      refine W.eq (g2 := F0 m 22 ls [.int q2, .int x3]) rfl ?_
      refine f_icmp_ge (tgt := 48) hx hb dX8_isWord_22 (by decide) hF (fun hF => ?_) (fun hF => ?_)
      · refine lv_iconst (v := 1) hx hb dX8_isWord_48 (by decide) ?_
        exact g_zret (rvf := fun z => some (.int z)) (W1f := fun z => bl [Tx_c E o qa qb v]) hx hb hr hlocks rfl hQ hF rfl hP hD hS [0, 1, 2] rfl rfl dX8_isWord_49
      · refine lv_aload_n hx hb dX8_isWord_25 rfl (lv_at hl 0 rfl) ?_
        refine lv_iload_n hx hb dX8_isWord_26 rfl (lv_at hl 1 rfl) ?_
        refine lv_iload_n hx hb dX8_isWord_27 rfl (lv_at hl 3 rfl) ?_
        refine lv_iadd hx hb dX8_isWord_28 ?_
        obtain ⟨q3, h_q3, hF⟩ := bnd_s hF
        refine g_callV (As := [.int (x1 + x3)]) (rest := []) ⟨hx, hb, hml, hown, hts⟩ hK hZ hA (c_X8_signAt l E o qa qb v (x1 + x3) q3 h_q3) (cwV 1 hts gX8_isWord_X8_signAt rfl rfl rfl (by decide +kernel) ⟨Nat.le_of_ble_eq_true rfl, Nat.le_of_ble_eq_true rfl⟩) hP hD hS [0, 1, 2] [] rfl rfl rfl rfl rfl rfl hl.1 rfl (Nat.le_of_ble_eq_true rfl) dX8_isWord_29 ⟨Nat.le_of_ble_eq_true rfl, Nat.le_of_ble_eq_true rfl⟩ (fun H locs hP hD hS => ?_)
        have hP : va_P E.1 vwCl (bl [[(o, .inr (6, [.ref qa, .ref qb, .int (Tx_length v), .int (Tx_at v), .int (Tx_items v), .int (Tx_faultIndex v), .int (Tx_faultReason v)]))], [(qa, .inl (E.2.2.1, 120, .inl (Tx_signs v)))], [(qb, .inl (E.2.1, 16, .inl (Tx_numbers v)))]]) H := hP
        have hD : va_D A (bl [[(o, .inr (6, [.ref qa, .ref qb, .int (Tx_length v), .int (Tx_at v), .int (Tx_items v), .int (Tx_faultIndex v), .int (Tx_faultReason v)]))], [(qa, .inl (E.2.2.1, 120, .inl (Tx_signs v)))], [(qb, .inl (E.2.1, 16, .inl (Tx_numbers v)))]]) := hD
        refine W.eq (g2 := F0 m 32 ls [.int q3]) rfl ?_
        refine lv_aload_n hx hb dX8_isWord_32 rfl (lv_at hl 2 rfl) ?_
        refine lv_iload_n hx hb dX8_isWord_33 rfl (lv_at hl 3 rfl) ?_
        obtain ⟨q4, h_q4, hF⟩ := bnd_s hF
        refine g_callVs (F_J0_charAt_5068e_i h_q4) (As := [.int x3]) (rest := [.int q3]) ⟨hx, hb, hml, hown, hts⟩ hK hZ hA (c_J0_charAt_5068e l E x2 x3 q4 h_q4) (cwV 1 hts gX8_isWord_J0_charAt_5068e rfl rfl rfl (by decide +kernel) ⟨Nat.le_of_ble_eq_true rfl, Nat.le_of_ble_eq_true rfl⟩) hP hD hS [] [0, 1, 2] rfl rfl rfl hl.1 rfl (Nat.le_of_ble_eq_true rfl) dX8_isWord_34 ⟨Nat.le_of_ble_eq_true rfl, Nat.le_of_ble_eq_true rfl⟩ (fun H locs hP hD hS => ?_)
        have hP : va_P E.1 vwCl (bl [[(o, .inr (6, [.ref qa, .ref qb, .int (Tx_length v), .int (Tx_at v), .int (Tx_items v), .int (Tx_faultIndex v), .int (Tx_faultReason v)]))], [(qa, .inl (E.2.2.1, 120, .inl (Tx_signs v)))], [(qb, .inl (E.2.1, 16, .inl (Tx_numbers v)))]]) H := hP
        have hD : va_D A (bl [[(o, .inr (6, [.ref qa, .ref qb, .int (Tx_length v), .int (Tx_at v), .int (Tx_items v), .int (Tx_faultIndex v), .int (Tx_faultReason v)]))], [(qa, .inl (E.2.2.1, 120, .inl (Tx_signs v)))], [(qb, .inl (E.2.1, 16, .inl (Tx_numbers v)))]]) := hD
        refine W.eq (g2 := F0 m 37 ls [.int q4, .int q3]) rfl ?_
        refine f_icmp_eq (tgt := 42) hx hb dX8_isWord_37 (by decide) hF (fun hF => ?_) (fun hF => ?_)
        · refine lv_iinc (v := (x3 + 1)) (lv' := [(3, .int (x3 + 1)), (0, .ref o), (1, .int x1), (2, .ref (E.2.2.2.2.2.1 x2))]) hx hb dX8_isWord_42 hl (k := 3) rfl rfl (by decide) rfl (fun ls hl => ?_)
          refine lv_goto (tgt := 17) hx hb dX8_isWord_45 (by decide) ?_
          exact ih x1 x2 (x3 + 1) _ _ hP hD hS _ (lv_sub hl [1, 2, 3, 0] rfl) hF
        · refine lv_iconst (v := 0) hx hb dX8_isWord_40 (by decide) ?_
          exact g_zret (rvf := fun z => some (.int z)) (W1f := fun z => bl [Tx_c E o qa qb v]) hx hb hr hlocks rfl hQ hF rfl hP hD hS [0, 1, 2] rfl rfl dX8_isWord_41
  unfold F_X8_isWord at hF
  refine lv_aload_n hx hb dX8_isWord_0 rfl (lv_at hl 0 rfl) ?_
  refine g_get (T := TX8) (N := 7) hx hb hts in_X8 hown hK hP 0 rfl rfl 3 (by decide) w0 rfl rfl dX8_isWord_1 ?_
  refine lv_iload_n hx hb dX8_isWord_4 rfl (lv_at hl 1 rfl) ?_
  refine lv_isub hx hb dX8_isWord_5 ?_
  refine lv_aload_n hx hb dX8_isWord_6 rfl (lv_at hl 2 rfl) ?_
  obtain ⟨q1, h_q1, hF⟩ := bnd_s hF
  refine g_callVs (F_J0_length_8abf5_i h_q1) (As := []) (rest := [.int ((Tx_at v) - p0)]) ⟨hx, hb, hml, hown, hts⟩ hK hZ hA (c_J0_length_8abf5 l E p1  q1 h_q1) (cwV 0 hts gX8_isWord_J0_length_8abf5 rfl rfl rfl (by decide +kernel) ⟨Nat.le_of_ble_eq_true rfl, Nat.le_of_ble_eq_true rfl⟩) hP hD hS [] [0, 1, 2] rfl rfl rfl hl.1 rfl (Nat.le_of_ble_eq_true rfl) dX8_isWord_7 ⟨Nat.le_of_ble_eq_true rfl, Nat.le_of_ble_eq_true rfl⟩ (fun H locs hP hD hS => ?_)
  have hP : va_P E.1 vwCl (bl [[(o, .inr (6, [.ref qa, .ref qb, .int (Tx_length v), .int (Tx_at v), .int (Tx_items v), .int (Tx_faultIndex v), .int (Tx_faultReason v)]))], [(qa, .inl (E.2.2.1, 120, .inl (Tx_signs v)))], [(qb, .inl (E.2.1, 16, .inl (Tx_numbers v)))]]) H := hP
  have hD : va_D A (bl [[(o, .inr (6, [.ref qa, .ref qb, .int (Tx_length v), .int (Tx_at v), .int (Tx_items v), .int (Tx_faultIndex v), .int (Tx_faultReason v)]))], [(qa, .inl (E.2.2.1, 120, .inl (Tx_signs v)))], [(qb, .inl (E.2.1, 16, .inl (Tx_numbers v)))]]) := hD
  refine W.eq (g2 := F0 m 10 ls [.int q1, .int ((Tx_at v) - p0)]) rfl ?_
  refine f_icmp_eq (tgt := 15) hx hb dX8_isWord_10 (by decide) hF (fun hF => ?_) (fun hF => ?_)
  · refine lv_iconst (v := 0) hx hb dX8_isWord_15 (by decide) ?_
    refine lv_istore_n (lv' := [(3, .int 0), (0, .ref o), (1, .int p0), (2, .ref (E.2.2.2.2.2.1 p1))]) hx hb dX8_isWord_16 rfl hl (by decide) rfl (fun ls hl => ?_)
    exact hL17 n p0 p1 0 _ _ hP hD hS _ (lv_sub hl [1, 2, 3, 0] rfl) hF
  · refine lv_iconst (v := 0) hx hb dX8_isWord_13 (by decide) ?_
    exact g_zret (rvf := fun z => some (.int z)) (W1f := fun z => bl [Tx_c E o qa qb v]) hx hb hr hlocks rfl hQ hF rfl hP hD hS [0, 1, 2] rfl rfl dX8_isWord_14
def F_X8_skips (v : TxV) (p0 : Int32) : Option (Int32 × TxV) := (F_X8_signAt v (Tx_at v)).bind fun q1 => if q1 = p0 then some (1, (Tx_mk (Tx_signs v) (Tx_numbers v) (Tx_length v) ((Tx_at v) + 1) (Tx_items v) (Tx_faultIndex v) (Tx_faultReason v))) else some (0, v)
set_option maxHeartbeats 4000000 in
set_option maxRecDepth 100000 in
theorem c_X8_skips (l : Launch) (E : GE) (o : Nat) (qa : Nat) (qb : Nat) (v : TxV) (p0 : Int32) (r : Int32 × TxV) (hF : F_X8_skips v p0 = some r) : CT l E yX8_skips wsX8_skips ({ frames := 1, cells := 0, slots := 0, locals := 21 } : Room) [.ref o, .int p0] (bl [Tx_c E o qa qb v]) (some (.int r.1)) (bl [Tx_c E o qa qb r.2]) 0 0 := by
  refine CT.of (cc := cX8_skips) (maxL := 2) (ret := (some .boolean)) (by decide) rfl (Nat.le_of_ble_eq_true rfl) ?_
  intro p e s m args below meth cd A Q ls B hQ hP hD hS hl
  obtain ⟨hx, hb, hml, hown, hts, hr, hlocks, hK, hZ, hA, hnm⟩ := B
  have hown : s.vm.findClass RX8 = some m.cls := hown
  have hl : lv_has ls 2 [(0, .ref o), (1, .int p0)] := hl
  have w0 := hts (.fieldLink RX8 25 "HarborLight$Text" "at" "I") (by decide +kernel)
  have in_X8 : ∀ w ∈ wsX80, w ∈ wsX8_skips := by decide +kernel
  have hP : va_P E.1 vwCl (bl [[(o, .inr (6, [.ref qa, .ref qb, .int (Tx_length v), .int (Tx_at v), .int (Tx_items v), .int (Tx_faultIndex v), .int (Tx_faultReason v)]))], [(qa, .inl (E.2.2.1, 120, .inl (Tx_signs v)))], [(qb, .inl (E.2.1, 16, .inl (Tx_numbers v)))]]) s.heap := hP
  have hD : va_D A (bl [[(o, .inr (6, [.ref qa, .ref qb, .int (Tx_length v), .int (Tx_at v), .int (Tx_items v), .int (Tx_faultIndex v), .int (Tx_faultReason v)]))], [(qa, .inl (E.2.2.1, 120, .inl (Tx_signs v)))], [(qb, .inl (E.2.1, 16, .inl (Tx_numbers v)))]]) := hD
  unfold F_X8_skips at hF
  refine lv_aload_n hx hb dX8_skips_0 rfl (lv_at hl 0 rfl) ?_
  refine lv_aload_n hx hb dX8_skips_1 rfl (lv_at hl 0 rfl) ?_
  refine g_get (T := TX8) (N := 7) hx hb hts in_X8 hown hK hP 0 rfl rfl 3 (by decide) w0 rfl rfl dX8_skips_2 ?_
  obtain ⟨q1, h_q1, hF⟩ := bnd_s hF
  refine g_callV (As := [.int (Tx_at v)]) (rest := []) ⟨hx, hb, hml, hown, hts⟩ hK hZ hA (c_X8_signAt l E o qa qb v (Tx_at v) q1 h_q1) (cwV 1 hts gX8_skips_X8_signAt rfl rfl rfl (by decide +kernel) ⟨Nat.le_of_ble_eq_true rfl, Nat.le_of_ble_eq_true rfl⟩) hP hD hS [0, 1, 2] [] rfl rfl rfl rfl rfl rfl hl.1 rfl (Nat.le_of_ble_eq_true rfl) dX8_skips_5 ⟨Nat.le_of_ble_eq_true rfl, Nat.le_of_ble_eq_true rfl⟩ (fun H locs hP hD hS => ?_)
  have hP : va_P E.1 vwCl (bl [[(o, .inr (6, [.ref qa, .ref qb, .int (Tx_length v), .int (Tx_at v), .int (Tx_items v), .int (Tx_faultIndex v), .int (Tx_faultReason v)]))], [(qa, .inl (E.2.2.1, 120, .inl (Tx_signs v)))], [(qb, .inl (E.2.1, 16, .inl (Tx_numbers v)))]]) H := hP
  have hD : va_D A (bl [[(o, .inr (6, [.ref qa, .ref qb, .int (Tx_length v), .int (Tx_at v), .int (Tx_items v), .int (Tx_faultIndex v), .int (Tx_faultReason v)]))], [(qa, .inl (E.2.2.1, 120, .inl (Tx_signs v)))], [(qb, .inl (E.2.1, 16, .inl (Tx_numbers v)))]]) := hD
  refine W.eq (g2 := F0 m 8 ls [.int q1]) rfl ?_
  refine lv_iload_n hx hb dX8_skips_8 rfl (lv_at hl 1 rfl) ?_
  refine f_icmp_eq (tgt := 14) hx hb dX8_skips_9 (by decide) hF (fun hF => ?_) (fun hF => ?_)
  · refine lv_aload_n hx hb dX8_skips_14 rfl (lv_at hl 0 rfl) ?_
    refine lv_dup hx hb dX8_skips_15 rfl ?_
    refine g_get (T := TX8) (N := 7) hx hb hts in_X8 hown hK hP 0 rfl rfl 3 (by decide) w0 rfl rfl dX8_skips_16 ?_
    refine lv_iconst (v := 1) hx hb dX8_skips_19 (by decide) ?_
    refine lv_iadd hx hb dX8_skips_20 ?_
    refine g_put (T := TX8) (N := 7) hx hb hts in_X8 tyX8 tyX8_ok nmX8 hown hK hP hD hS 0 rfl rfl 3 (by decide) w0 rfl rfl rfl rfl (Nat.le_of_ble_eq_true rfl) dX8_skips_21 (fun H locs hP hD hS => ?_)
    have hP : va_P E.1 vwCl (bl [[(o, .inr (6, [.ref qa, .ref qb, .int (Tx_length v), .int ((Tx_at v) + 1), .int (Tx_items v), .int (Tx_faultIndex v), .int (Tx_faultReason v)]))], [(qa, .inl (E.2.2.1, 120, .inl (Tx_signs v)))], [(qb, .inl (E.2.1, 16, .inl (Tx_numbers v)))]]) H := hP
    have hD : va_D A (bl [[(o, .inr (6, [.ref qa, .ref qb, .int (Tx_length v), .int ((Tx_at v) + 1), .int (Tx_items v), .int (Tx_faultIndex v), .int (Tx_faultReason v)]))], [(qa, .inl (E.2.2.1, 120, .inl (Tx_signs v)))], [(qb, .inl (E.2.1, 16, .inl (Tx_numbers v)))]]) := hD
    refine lv_iconst (v := 1) hx hb dX8_skips_24 (by decide) ?_
    exact g_zret (rvf := fun z => some (.int z.1)) (W1f := fun z => bl [Tx_c E o qa qb z.2]) hx hb hr hlocks rfl hQ hF rfl hP hD hS [0, 1, 2] rfl rfl dX8_skips_25
  · refine lv_iconst (v := 0) hx hb dX8_skips_12 (by decide) ?_
    exact g_zret (rvf := fun z => some (.int z.1)) (W1f := fun z => bl [Tx_c E o qa qb z.2]) hx hb hr hlocks rfl hQ hF rfl hP hD hS [0, 1, 2] rfl rfl dX8_skips_13
def F_X8_readColor (n : Nat) (v : TxV) : Option (Int32 × TxV) := (F_X8_skips v 32).bind fun q1 => if q1.1 = 0 then some ((-1), q1.2) else (F_X8_skipLetters n q1.2).bind fun q2 => (F_X8_isWord n q2 (Tx_at q1.2) 10).bind fun q3 => if q3 = 0 then (F_X8_isWord n q2 (Tx_at q1.2) 11).bind fun q4 => if q4 = 0 then (F_X8_isWord n q2 (Tx_at q1.2) 12).bind fun q5 => if q5 = 0 then (F_X8_isWord n q2 (Tx_at q1.2) 13).bind fun q6 => if q6 = 0 then some ((-1), q2) else some (3, q2) else some (2, q2) else some (1, q2) else some (0, q2)
set_option maxHeartbeats 4000000 in
set_option maxRecDepth 100000 in
theorem c_X8_readColor (l : Launch) (E : GE) (o : Nat) (qa : Nat) (qb : Nat) (n : Nat) (v : TxV) (r : Int32 × TxV) (hF : F_X8_readColor n v = some r) : CT l E yX8_readColor wsX8_readColor ({ frames := 7, cells := 0, slots := 0, locals := 174 } : Room) [.ref o] (bl [Tx_c E o qa qb v]) (some (.int r.1)) (bl [Tx_c E o qa qb r.2]) 0 0 := by
  refine CT.of (cc := cX8_readColor) (maxL := 2) (ret := (some .int)) (by decide) rfl (Nat.le_of_ble_eq_true rfl) ?_
  intro p e s m args below meth cd A Q ls B hQ hP hD hS hl
  obtain ⟨hx, hb, hml, hown, hts, hr, hlocks, hK, hZ, hA, hnm⟩ := B
  have hown : s.vm.findClass RX8 = some m.cls := hown
  have hl : lv_has ls 2 [(0, .ref o)] := hl
  have w0 := hts (.fieldLink RX8 25 "HarborLight$Text" "at" "I") (by decide +kernel)
  have in_X8 : ∀ w ∈ wsX80, w ∈ wsX8_readColor := by decide +kernel
  have hP : va_P E.1 vwCl (bl [[(o, .inr (6, [.ref qa, .ref qb, .int (Tx_length v), .int (Tx_at v), .int (Tx_items v), .int (Tx_faultIndex v), .int (Tx_faultReason v)]))], [(qa, .inl (E.2.2.1, 120, .inl (Tx_signs v)))], [(qb, .inl (E.2.1, 16, .inl (Tx_numbers v)))]]) s.heap := hP
  have hD : va_D A (bl [[(o, .inr (6, [.ref qa, .ref qb, .int (Tx_length v), .int (Tx_at v), .int (Tx_items v), .int (Tx_faultIndex v), .int (Tx_faultReason v)]))], [(qa, .inl (E.2.2.1, 120, .inl (Tx_signs v)))], [(qb, .inl (E.2.1, 16, .inl (Tx_numbers v)))]]) := hD
  unfold F_X8_readColor at hF
  refine lv_aload_n hx hb dX8_readColor_0 rfl (lv_at hl 0 rfl) ?_
  refine lv_bipush (v := 32) hx hb dX8_readColor_1 (by decide) ?_
  obtain ⟨q1, h_q1, hF⟩ := bnd_s hF
  refine g_callV (As := [.int 32]) (rest := []) ⟨hx, hb, hml, hown, hts⟩ hK hZ hA (c_X8_skips l E o qa qb v (32) q1 h_q1) (cwV 1 hts gX8_readColor_X8_skips rfl rfl rfl (by decide +kernel) ⟨Nat.le_of_ble_eq_true rfl, Nat.le_of_ble_eq_true rfl⟩) hP hD hS [0, 1, 2] [] rfl rfl rfl rfl rfl rfl hl.1 rfl (Nat.le_of_ble_eq_true rfl) dX8_readColor_3 ⟨Nat.le_of_ble_eq_true rfl, Nat.le_of_ble_eq_true rfl⟩ (fun H locs hP hD hS => ?_)
  have hP : va_P E.1 vwCl (bl [[(o, .inr (6, [.ref qa, .ref qb, .int (Tx_length q1.2), .int (Tx_at q1.2), .int (Tx_items q1.2), .int (Tx_faultIndex q1.2), .int (Tx_faultReason q1.2)]))], [(qa, .inl (E.2.2.1, 120, .inl (Tx_signs q1.2)))], [(qb, .inl (E.2.1, 16, .inl (Tx_numbers q1.2)))]]) H := hP
  have hD : va_D A (bl [[(o, .inr (6, [.ref qa, .ref qb, .int (Tx_length q1.2), .int (Tx_at q1.2), .int (Tx_items q1.2), .int (Tx_faultIndex q1.2), .int (Tx_faultReason q1.2)]))], [(qa, .inl (E.2.2.1, 120, .inl (Tx_signs q1.2)))], [(qb, .inl (E.2.1, 16, .inl (Tx_numbers q1.2)))]]) := hD
  refine W.eq (g2 := F0 m 6 ls [.int q1.1]) rfl ?_
  refine f_if_ne (tgt := 11) hx hb dX8_readColor_6 (by decide) hF (fun hF => ?_) (fun hF => ?_)
  · refine lv_aload_n hx hb dX8_readColor_11 rfl (lv_at hl 0 rfl) ?_
    refine g_get (T := TX8) (N := 7) hx hb hts in_X8 hown hK hP 0 rfl rfl 3 (by decide) w0 rfl rfl dX8_readColor_12 ?_
    refine lv_istore_n (lv' := [(1, .int (Tx_at q1.2)), (0, .ref o)]) hx hb dX8_readColor_15 rfl hl (by decide) rfl (fun ls hl => ?_)
    refine lv_aload_n hx hb dX8_readColor_16 rfl (lv_at hl 1 rfl) ?_
    obtain ⟨q2, h_q2, hF⟩ := bnd_s hF
    refine g_callV (As := []) (rest := []) ⟨hx, hb, hml, hown, hts⟩ hK hZ hA (c_X8_skipLetters l E o qa qb n q1.2 q2 h_q2) (cwV 0 hts gX8_readColor_X8_skipLetters rfl rfl rfl (by decide +kernel) ⟨Nat.le_of_ble_eq_true rfl, Nat.le_of_ble_eq_true rfl⟩) hP hD hS [0, 1, 2] [] rfl rfl rfl rfl rfl rfl hl.1 rfl (Nat.le_of_ble_eq_true rfl) dX8_readColor_17 ⟨Nat.le_of_ble_eq_true rfl, Nat.le_of_ble_eq_true rfl⟩ (fun H locs hP hD hS => ?_)
    have hP : va_P E.1 vwCl (bl [[(o, .inr (6, [.ref qa, .ref qb, .int (Tx_length q2), .int (Tx_at q2), .int (Tx_items q2), .int (Tx_faultIndex q2), .int (Tx_faultReason q2)]))], [(qa, .inl (E.2.2.1, 120, .inl (Tx_signs q2)))], [(qb, .inl (E.2.1, 16, .inl (Tx_numbers q2)))]]) H := hP
    have hD : va_D A (bl [[(o, .inr (6, [.ref qa, .ref qb, .int (Tx_length q2), .int (Tx_at q2), .int (Tx_items q2), .int (Tx_faultIndex q2), .int (Tx_faultReason q2)]))], [(qa, .inl (E.2.2.1, 120, .inl (Tx_signs q2)))], [(qb, .inl (E.2.1, 16, .inl (Tx_numbers q2)))]]) := hD
    refine W.eq (g2 := F0 m 20 ls []) rfl ?_
    refine lv_aload_n hx hb dX8_readColor_20 rfl (lv_at hl 1 rfl) ?_
    refine lv_iload_n hx hb dX8_readColor_21 rfl (lv_at hl 0 rfl) ?_
    refine va_ldcS hx hb hown (hZ.2.2.2.2.2.1 10 (156, "dark") rfl) dX8_readColor_22 ?_
    obtain ⟨q3, h_q3, hF⟩ := bnd_s hF
    refine g_callV (As := [.int (Tx_at q1.2), .ref (E.2.2.2.2.2.1 10)]) (rest := []) ⟨hx, hb, hml, hown, hts⟩ hK hZ hA (c_X8_isWord l E o qa qb n q2 (Tx_at q1.2) (10) q3 h_q3) (cwV 2 hts gX8_readColor_X8_isWord rfl rfl rfl (by decide +kernel) ⟨Nat.le_of_ble_eq_true rfl, Nat.le_of_ble_eq_true rfl⟩) hP hD hS [0, 1, 2] [] rfl rfl rfl rfl rfl rfl hl.1 rfl (Nat.le_of_ble_eq_true rfl) dX8_readColor_24 ⟨Nat.le_of_ble_eq_true rfl, Nat.le_of_ble_eq_true rfl⟩ (fun H locs hP hD hS => ?_)
    have hP : va_P E.1 vwCl (bl [[(o, .inr (6, [.ref qa, .ref qb, .int (Tx_length q2), .int (Tx_at q2), .int (Tx_items q2), .int (Tx_faultIndex q2), .int (Tx_faultReason q2)]))], [(qa, .inl (E.2.2.1, 120, .inl (Tx_signs q2)))], [(qb, .inl (E.2.1, 16, .inl (Tx_numbers q2)))]]) H := hP
    have hD : va_D A (bl [[(o, .inr (6, [.ref qa, .ref qb, .int (Tx_length q2), .int (Tx_at q2), .int (Tx_items q2), .int (Tx_faultIndex q2), .int (Tx_faultReason q2)]))], [(qa, .inl (E.2.2.1, 120, .inl (Tx_signs q2)))], [(qb, .inl (E.2.1, 16, .inl (Tx_numbers q2)))]]) := hD
    refine W.eq (g2 := F0 m 27 ls [.int q3]) rfl ?_
    refine f_if_eq (tgt := 32) hx hb dX8_readColor_27 (by decide) hF (fun hF => ?_) (fun hF => ?_)
    · refine lv_aload_n hx hb dX8_readColor_32 rfl (lv_at hl 1 rfl) ?_
      refine lv_iload_n hx hb dX8_readColor_33 rfl (lv_at hl 0 rfl) ?_
      refine va_ldcS hx hb hown (hZ.2.2.2.2.2.1 11 (158, "white") rfl) dX8_readColor_34 ?_
      obtain ⟨q4, h_q4, hF⟩ := bnd_s hF
      refine g_callV (As := [.int (Tx_at q1.2), .ref (E.2.2.2.2.2.1 11)]) (rest := []) ⟨hx, hb, hml, hown, hts⟩ hK hZ hA (c_X8_isWord l E o qa qb n q2 (Tx_at q1.2) (11) q4 h_q4) (cwV 2 hts gX8_readColor_X8_isWord rfl rfl rfl (by decide +kernel) ⟨Nat.le_of_ble_eq_true rfl, Nat.le_of_ble_eq_true rfl⟩) hP hD hS [0, 1, 2] [] rfl rfl rfl rfl rfl rfl hl.1 rfl (Nat.le_of_ble_eq_true rfl) dX8_readColor_36 ⟨Nat.le_of_ble_eq_true rfl, Nat.le_of_ble_eq_true rfl⟩ (fun H locs hP hD hS => ?_)
      have hP : va_P E.1 vwCl (bl [[(o, .inr (6, [.ref qa, .ref qb, .int (Tx_length q2), .int (Tx_at q2), .int (Tx_items q2), .int (Tx_faultIndex q2), .int (Tx_faultReason q2)]))], [(qa, .inl (E.2.2.1, 120, .inl (Tx_signs q2)))], [(qb, .inl (E.2.1, 16, .inl (Tx_numbers q2)))]]) H := hP
      have hD : va_D A (bl [[(o, .inr (6, [.ref qa, .ref qb, .int (Tx_length q2), .int (Tx_at q2), .int (Tx_items q2), .int (Tx_faultIndex q2), .int (Tx_faultReason q2)]))], [(qa, .inl (E.2.2.1, 120, .inl (Tx_signs q2)))], [(qb, .inl (E.2.1, 16, .inl (Tx_numbers q2)))]]) := hD
      refine W.eq (g2 := F0 m 39 ls [.int q4]) rfl ?_
      refine f_if_eq (tgt := 44) hx hb dX8_readColor_39 (by decide) hF (fun hF => ?_) (fun hF => ?_)
      · refine lv_aload_n hx hb dX8_readColor_44 rfl (lv_at hl 1 rfl) ?_
        refine lv_iload_n hx hb dX8_readColor_45 rfl (lv_at hl 0 rfl) ?_
        refine va_ldcS hx hb hown (hZ.2.2.2.2.2.1 12 (160, "red") rfl) dX8_readColor_46 ?_
        obtain ⟨q5, h_q5, hF⟩ := bnd_s hF
        refine g_callV (As := [.int (Tx_at q1.2), .ref (E.2.2.2.2.2.1 12)]) (rest := []) ⟨hx, hb, hml, hown, hts⟩ hK hZ hA (c_X8_isWord l E o qa qb n q2 (Tx_at q1.2) (12) q5 h_q5) (cwV 2 hts gX8_readColor_X8_isWord rfl rfl rfl (by decide +kernel) ⟨Nat.le_of_ble_eq_true rfl, Nat.le_of_ble_eq_true rfl⟩) hP hD hS [0, 1, 2] [] rfl rfl rfl rfl rfl rfl hl.1 rfl (Nat.le_of_ble_eq_true rfl) dX8_readColor_48 ⟨Nat.le_of_ble_eq_true rfl, Nat.le_of_ble_eq_true rfl⟩ (fun H locs hP hD hS => ?_)
        have hP : va_P E.1 vwCl (bl [[(o, .inr (6, [.ref qa, .ref qb, .int (Tx_length q2), .int (Tx_at q2), .int (Tx_items q2), .int (Tx_faultIndex q2), .int (Tx_faultReason q2)]))], [(qa, .inl (E.2.2.1, 120, .inl (Tx_signs q2)))], [(qb, .inl (E.2.1, 16, .inl (Tx_numbers q2)))]]) H := hP
        have hD : va_D A (bl [[(o, .inr (6, [.ref qa, .ref qb, .int (Tx_length q2), .int (Tx_at q2), .int (Tx_items q2), .int (Tx_faultIndex q2), .int (Tx_faultReason q2)]))], [(qa, .inl (E.2.2.1, 120, .inl (Tx_signs q2)))], [(qb, .inl (E.2.1, 16, .inl (Tx_numbers q2)))]]) := hD
        refine W.eq (g2 := F0 m 51 ls [.int q5]) rfl ?_
        refine f_if_eq (tgt := 56) hx hb dX8_readColor_51 (by decide) hF (fun hF => ?_) (fun hF => ?_)
        · refine lv_aload_n hx hb dX8_readColor_56 rfl (lv_at hl 1 rfl) ?_
          refine lv_iload_n hx hb dX8_readColor_57 rfl (lv_at hl 0 rfl) ?_
          refine va_ldcS hx hb hown (hZ.2.2.2.2.2.1 13 (162, "green") rfl) dX8_readColor_58 ?_
          obtain ⟨q6, h_q6, hF⟩ := bnd_s hF
          refine g_callV (As := [.int (Tx_at q1.2), .ref (E.2.2.2.2.2.1 13)]) (rest := []) ⟨hx, hb, hml, hown, hts⟩ hK hZ hA (c_X8_isWord l E o qa qb n q2 (Tx_at q1.2) (13) q6 h_q6) (cwV 2 hts gX8_readColor_X8_isWord rfl rfl rfl (by decide +kernel) ⟨Nat.le_of_ble_eq_true rfl, Nat.le_of_ble_eq_true rfl⟩) hP hD hS [0, 1, 2] [] rfl rfl rfl rfl rfl rfl hl.1 rfl (Nat.le_of_ble_eq_true rfl) dX8_readColor_60 ⟨Nat.le_of_ble_eq_true rfl, Nat.le_of_ble_eq_true rfl⟩ (fun H locs hP hD hS => ?_)
          have hP : va_P E.1 vwCl (bl [[(o, .inr (6, [.ref qa, .ref qb, .int (Tx_length q2), .int (Tx_at q2), .int (Tx_items q2), .int (Tx_faultIndex q2), .int (Tx_faultReason q2)]))], [(qa, .inl (E.2.2.1, 120, .inl (Tx_signs q2)))], [(qb, .inl (E.2.1, 16, .inl (Tx_numbers q2)))]]) H := hP
          have hD : va_D A (bl [[(o, .inr (6, [.ref qa, .ref qb, .int (Tx_length q2), .int (Tx_at q2), .int (Tx_items q2), .int (Tx_faultIndex q2), .int (Tx_faultReason q2)]))], [(qa, .inl (E.2.2.1, 120, .inl (Tx_signs q2)))], [(qb, .inl (E.2.1, 16, .inl (Tx_numbers q2)))]]) := hD
          refine W.eq (g2 := F0 m 63 ls [.int q6]) rfl ?_
          refine f_if_eq (tgt := 70) hx hb dX8_readColor_63 (by decide) hF (fun hF => ?_) (fun hF => ?_)
          · refine lv_iconst (v := (-1)) hx hb dX8_readColor_70 (by decide) ?_
            exact g_iret (rvf := fun z => some (.int z.1)) (W1f := fun z => bl [Tx_c E o qa qb z.2]) hx hb hr hlocks hQ hF rfl hP hD hS [0, 1, 2] rfl rfl dX8_readColor_71
          · refine lv_iconst (v := 3) hx hb dX8_readColor_66 (by decide) ?_
            refine lv_goto (tgt := 71) hx hb dX8_readColor_67 (by decide) ?_
            exact g_iret (rvf := fun z => some (.int z.1)) (W1f := fun z => bl [Tx_c E o qa qb z.2]) hx hb hr hlocks hQ hF rfl hP hD hS [0, 1, 2] rfl rfl dX8_readColor_71
        · refine lv_iconst (v := 2) hx hb dX8_readColor_54 (by decide) ?_
          exact g_iret (rvf := fun z => some (.int z.1)) (W1f := fun z => bl [Tx_c E o qa qb z.2]) hx hb hr hlocks hQ hF rfl hP hD hS [0, 1, 2] rfl rfl dX8_readColor_55
      · refine lv_iconst (v := 1) hx hb dX8_readColor_42 (by decide) ?_
        exact g_iret (rvf := fun z => some (.int z.1)) (W1f := fun z => bl [Tx_c E o qa qb z.2]) hx hb hr hlocks hQ hF rfl hP hD hS [0, 1, 2] rfl rfl dX8_readColor_43
    · refine lv_iconst (v := 0) hx hb dX8_readColor_30 (by decide) ?_
      exact g_iret (rvf := fun z => some (.int z.1)) (W1f := fun z => bl [Tx_c E o qa qb z.2]) hx hb hr hlocks hQ hF rfl hP hD hS [0, 1, 2] rfl rfl dX8_readColor_31
  · refine lv_iconst (v := (-1)) hx hb dX8_readColor_9 (by decide) ?_
    exact g_iret (rvf := fun z => some (.int z.1)) (W1f := fun z => bl [Tx_c E o qa qb z.2]) hx hb hr hlocks hQ hF rfl hP hD hS [0, 1, 2] rfl rfl dX8_readColor_10
def F_X8_readNumber_L15 (n : Nat) : Nat → TxV → Int32 → Int32 → Option (Int32 × TxV)
  | 0, _, _, _ => none
  | k + 1, u, x1, x2 => if 4 ≤ x2 then if x2 = 0 then some ((-1), u) else some (x1, u) else (F_X8_signAt u (Tx_at u)).bind fun q2 => if q2 < 48 then if x2 = 0 then some ((-1), u) else some (x1, u) else (F_X8_signAt u (Tx_at u)).bind fun q3 => if 57 < q3 then if x2 = 0 then some ((-1), u) else some (x1, u) else (F_X8_signAt u (Tx_at u)).bind fun q4 => F_X8_readNumber_L15 n k (Tx_mk (Tx_signs u) (Tx_numbers u) (Tx_length u) ((Tx_at u) + 1) (Tx_items u) (Tx_faultIndex u) (Tx_faultReason u)) ((x1 * 10) + (q4 - 48)) (x2 + 1)
def F_X8_readNumber (n : Nat) (v : TxV) : Option (Int32 × TxV) := (F_X8_skips v 32).bind fun q1 => if q1.1 = 0 then some ((-1), q1.2) else F_X8_readNumber_L15 n n q1.2 0 0
set_option maxHeartbeats 4000000 in
set_option maxRecDepth 100000 in
theorem c_X8_readNumber (l : Launch) (E : GE) (o : Nat) (qa : Nat) (qb : Nat) (n : Nat) (v : TxV) (r : Int32 × TxV) (hF : F_X8_readNumber n v = some r) : CT l E yX8_readNumber wsX8_readNumber ({ frames := 2, cells := 0, slots := 0, locals := 42 } : Room) [.ref o] (bl [Tx_c E o qa qb v]) (some (.int r.1)) (bl [Tx_c E o qa qb r.2]) 0 0 := by
  refine CT.of (cc := cX8_readNumber) (maxL := 3) (ret := (some .int)) (by decide) rfl (Nat.le_of_ble_eq_true rfl) ?_
  intro p e s m args below meth cd A Q ls B hQ hP hD hS hl
  obtain ⟨hx, hb, hml, hown, hts, hr, hlocks, hK, hZ, hA, hnm⟩ := B
  have hown : s.vm.findClass RX8 = some m.cls := hown
  have hl : lv_has ls 3 [(0, .ref o)] := hl
  have w0 := hts (.fieldLink RX8 25 "HarborLight$Text" "at" "I") (by decide +kernel)
  have in_X8 : ∀ w ∈ wsX80, w ∈ wsX8_readNumber := by decide +kernel
  have hP : va_P E.1 vwCl (bl [[(o, .inr (6, [.ref qa, .ref qb, .int (Tx_length v), .int (Tx_at v), .int (Tx_items v), .int (Tx_faultIndex v), .int (Tx_faultReason v)]))], [(qa, .inl (E.2.2.1, 120, .inl (Tx_signs v)))], [(qb, .inl (E.2.1, 16, .inl (Tx_numbers v)))]]) s.heap := hP
  have hD : va_D A (bl [[(o, .inr (6, [.ref qa, .ref qb, .int (Tx_length v), .int (Tx_at v), .int (Tx_items v), .int (Tx_faultIndex v), .int (Tx_faultReason v)]))], [(qa, .inl (E.2.2.1, 120, .inl (Tx_signs v)))], [(qb, .inl (E.2.1, 16, .inl (Tx_numbers v)))]]) := hD
  have hL15 : ∀ (k : Nat) (u : TxV) (x1 : Int32) (x2 : Int32) (H : Heap) (locs : List Loc), va_P E.1 vwCl (bl [[(o, .inr (6, [.ref qa, .ref qb, .int (Tx_length u), .int (Tx_at u), .int (Tx_items u), .int (Tx_faultIndex u), .int (Tx_faultReason u)]))], [(qa, .inl (E.2.2.1, 120, .inl (Tx_signs u)))], [(qb, .inl (E.2.1, 16, .inl (Tx_numbers u)))]]) H → va_D A (bl [[(o, .inr (6, [.ref qa, .ref qb, .int (Tx_length u), .int (Tx_at u), .int (Tx_items u), .int (Tx_faultIndex u), .int (Tx_faultReason u)]))], [(qa, .inl (E.2.2.1, 120, .inl (Tx_signs u)))], [(qb, .inl (E.2.1, 16, .inl (Tx_numbers u)))]]) → va_S A s.heap H locs → ∀ ls : Array Slot, lv_has ls 3 [(0, .ref o), (1, .int x1), (2, .int x2)] → F_X8_readNumber_L15 n k u x1 x2 = some r → W p l e ({ frames := 2, cells := 0, slots := 0, locals := 42 } : Room) s m args below meth cd H locs 0 0 Q (F0 m 15 ls []) := by
    intro k
    induction k with
    | zero => intro u x1 x2 H locs hP hD hS ls hl hF; cases hF
    | succ k ih =>
      intro u x1 x2 H locs hP hD hS ls hl hF
      rw [F_X8_readNumber_L15] at hF
      refine lv_iload_n hx hb dX8_readNumber_15 rfl (lv_at hl 2 rfl) ?_
      refine lv_iconst (v := 4) hx hb dX8_readNumber_16 (by decide) ?_
      refine f_icmp_ge (tgt := 79) hx hb dX8_readNumber_17 (by decide) hF (fun hF => ?_) (fun hF => ?_)
      · refine lv_iload_n hx hb dX8_readNumber_79 rfl (lv_at hl 2 rfl) ?_
        refine f_if_ne (tgt := 87) hx hb dX8_readNumber_80 (by decide) hF (fun hF => ?_) (fun hF => ?_)
        · refine lv_iload_n hx hb dX8_readNumber_87 rfl (lv_at hl 1 rfl) ?_
          exact g_iret (rvf := fun z => some (.int z.1)) (W1f := fun z => bl [Tx_c E o qa qb z.2]) hx hb hr hlocks hQ hF rfl hP hD hS [0, 1, 2] rfl rfl dX8_readNumber_88
        · refine lv_iconst (v := (-1)) hx hb dX8_readNumber_83 (by decide) ?_
          refine lv_goto (tgt := 88) hx hb dX8_readNumber_84 (by decide) ?_
          exact g_iret (rvf := fun z => some (.int z.1)) (W1f := fun z => bl [Tx_c E o qa qb z.2]) hx hb hr hlocks hQ hF rfl hP hD hS [0, 1, 2] rfl rfl dX8_readNumber_88
      · refine lv_aload_n hx hb dX8_readNumber_20 rfl (lv_at hl 0 rfl) ?_
        refine lv_aload_n hx hb dX8_readNumber_21 rfl (lv_at hl 0 rfl) ?_
        refine g_get (T := TX8) (N := 7) hx hb hts in_X8 hown hK hP 0 rfl rfl 3 (by decide) w0 rfl rfl dX8_readNumber_22 ?_
        obtain ⟨q2, h_q2, hF⟩ := bnd_s hF
        refine g_callV (As := [.int (Tx_at u)]) (rest := []) ⟨hx, hb, hml, hown, hts⟩ hK hZ hA (c_X8_signAt l E o qa qb u (Tx_at u) q2 h_q2) (cwV 1 hts gX8_readNumber_X8_signAt rfl rfl rfl (by decide +kernel) ⟨Nat.le_of_ble_eq_true rfl, Nat.le_of_ble_eq_true rfl⟩) hP hD hS [0, 1, 2] [] rfl rfl rfl rfl rfl rfl hl.1 rfl (Nat.le_of_ble_eq_true rfl) dX8_readNumber_25 ⟨Nat.le_of_ble_eq_true rfl, Nat.le_of_ble_eq_true rfl⟩ (fun H locs hP hD hS => ?_)
        have hP : va_P E.1 vwCl (bl [[(o, .inr (6, [.ref qa, .ref qb, .int (Tx_length u), .int (Tx_at u), .int (Tx_items u), .int (Tx_faultIndex u), .int (Tx_faultReason u)]))], [(qa, .inl (E.2.2.1, 120, .inl (Tx_signs u)))], [(qb, .inl (E.2.1, 16, .inl (Tx_numbers u)))]]) H := hP
        have hD : va_D A (bl [[(o, .inr (6, [.ref qa, .ref qb, .int (Tx_length u), .int (Tx_at u), .int (Tx_items u), .int (Tx_faultIndex u), .int (Tx_faultReason u)]))], [(qa, .inl (E.2.2.1, 120, .inl (Tx_signs u)))], [(qb, .inl (E.2.1, 16, .inl (Tx_numbers u)))]]) := hD
        refine W.eq (g2 := F0 m 28 ls [.int q2]) rfl ?_
        refine lv_bipush (v := 48) hx hb dX8_readNumber_28 (by decide) ?_
        refine f_icmp_lt (tgt := 79) hx hb dX8_readNumber_30 (by decide) hF (fun hF => ?_) (fun hF => ?_)
        · refine lv_iload_n hx hb dX8_readNumber_79 rfl (lv_at hl 2 rfl) ?_
          refine f_if_ne (tgt := 87) hx hb dX8_readNumber_80 (by decide) hF (fun hF => ?_) (fun hF => ?_)
          · refine lv_iload_n hx hb dX8_readNumber_87 rfl (lv_at hl 1 rfl) ?_
            exact g_iret (rvf := fun z => some (.int z.1)) (W1f := fun z => bl [Tx_c E o qa qb z.2]) hx hb hr hlocks hQ hF rfl hP hD hS [0, 1, 2] rfl rfl dX8_readNumber_88
          · refine lv_iconst (v := (-1)) hx hb dX8_readNumber_83 (by decide) ?_
            refine lv_goto (tgt := 88) hx hb dX8_readNumber_84 (by decide) ?_
            exact g_iret (rvf := fun z => some (.int z.1)) (W1f := fun z => bl [Tx_c E o qa qb z.2]) hx hb hr hlocks hQ hF rfl hP hD hS [0, 1, 2] rfl rfl dX8_readNumber_88
        · refine lv_aload_n hx hb dX8_readNumber_33 rfl (lv_at hl 0 rfl) ?_
          refine lv_aload_n hx hb dX8_readNumber_34 rfl (lv_at hl 0 rfl) ?_
          refine g_get (T := TX8) (N := 7) hx hb hts in_X8 hown hK hP 0 rfl rfl 3 (by decide) w0 rfl rfl dX8_readNumber_35 ?_
          obtain ⟨q3, h_q3, hF⟩ := bnd_s hF
          refine g_callV (As := [.int (Tx_at u)]) (rest := []) ⟨hx, hb, hml, hown, hts⟩ hK hZ hA (c_X8_signAt l E o qa qb u (Tx_at u) q3 h_q3) (cwV 1 hts gX8_readNumber_X8_signAt rfl rfl rfl (by decide +kernel) ⟨Nat.le_of_ble_eq_true rfl, Nat.le_of_ble_eq_true rfl⟩) hP hD hS [0, 1, 2] [] rfl rfl rfl rfl rfl rfl hl.1 rfl (Nat.le_of_ble_eq_true rfl) dX8_readNumber_38 ⟨Nat.le_of_ble_eq_true rfl, Nat.le_of_ble_eq_true rfl⟩ (fun H locs hP hD hS => ?_)
          have hP : va_P E.1 vwCl (bl [[(o, .inr (6, [.ref qa, .ref qb, .int (Tx_length u), .int (Tx_at u), .int (Tx_items u), .int (Tx_faultIndex u), .int (Tx_faultReason u)]))], [(qa, .inl (E.2.2.1, 120, .inl (Tx_signs u)))], [(qb, .inl (E.2.1, 16, .inl (Tx_numbers u)))]]) H := hP
          have hD : va_D A (bl [[(o, .inr (6, [.ref qa, .ref qb, .int (Tx_length u), .int (Tx_at u), .int (Tx_items u), .int (Tx_faultIndex u), .int (Tx_faultReason u)]))], [(qa, .inl (E.2.2.1, 120, .inl (Tx_signs u)))], [(qb, .inl (E.2.1, 16, .inl (Tx_numbers u)))]]) := hD
          refine W.eq (g2 := F0 m 41 ls [.int q3]) rfl ?_
          refine lv_bipush (v := 57) hx hb dX8_readNumber_41 (by decide) ?_
          refine f_icmp_gt (tgt := 79) hx hb dX8_readNumber_43 (by decide) hF (fun hF => ?_) (fun hF => ?_)
          · refine lv_iload_n hx hb dX8_readNumber_79 rfl (lv_at hl 2 rfl) ?_
            refine f_if_ne (tgt := 87) hx hb dX8_readNumber_80 (by decide) hF (fun hF => ?_) (fun hF => ?_)
            · refine lv_iload_n hx hb dX8_readNumber_87 rfl (lv_at hl 1 rfl) ?_
              exact g_iret (rvf := fun z => some (.int z.1)) (W1f := fun z => bl [Tx_c E o qa qb z.2]) hx hb hr hlocks hQ hF rfl hP hD hS [0, 1, 2] rfl rfl dX8_readNumber_88
            · refine lv_iconst (v := (-1)) hx hb dX8_readNumber_83 (by decide) ?_
              refine lv_goto (tgt := 88) hx hb dX8_readNumber_84 (by decide) ?_
              exact g_iret (rvf := fun z => some (.int z.1)) (W1f := fun z => bl [Tx_c E o qa qb z.2]) hx hb hr hlocks hQ hF rfl hP hD hS [0, 1, 2] rfl rfl dX8_readNumber_88
          · refine lv_iload_n hx hb dX8_readNumber_46 rfl (lv_at hl 1 rfl) ?_
            refine lv_bipush (v := 10) hx hb dX8_readNumber_47 (by decide) ?_
            refine lv_imul hx hb dX8_readNumber_49 ?_
            refine lv_aload_n hx hb dX8_readNumber_50 rfl (lv_at hl 0 rfl) ?_
            refine lv_aload_n hx hb dX8_readNumber_51 rfl (lv_at hl 0 rfl) ?_
            refine g_get (T := TX8) (N := 7) hx hb hts in_X8 hown hK hP 0 rfl rfl 3 (by decide) w0 rfl rfl dX8_readNumber_52 ?_
            obtain ⟨q4, h_q4, hF⟩ := bnd_s hF
            refine g_callV (As := [.int (Tx_at u)]) (rest := [.int (x1 * 10)]) ⟨hx, hb, hml, hown, hts⟩ hK hZ hA (c_X8_signAt l E o qa qb u (Tx_at u) q4 h_q4) (cwV 1 hts gX8_readNumber_X8_signAt rfl rfl rfl (by decide +kernel) ⟨Nat.le_of_ble_eq_true rfl, Nat.le_of_ble_eq_true rfl⟩) hP hD hS [0, 1, 2] [] rfl rfl rfl rfl rfl rfl hl.1 rfl (Nat.le_of_ble_eq_true rfl) dX8_readNumber_55 ⟨Nat.le_of_ble_eq_true rfl, Nat.le_of_ble_eq_true rfl⟩ (fun H locs hP hD hS => ?_)
            have hP : va_P E.1 vwCl (bl [[(o, .inr (6, [.ref qa, .ref qb, .int (Tx_length u), .int (Tx_at u), .int (Tx_items u), .int (Tx_faultIndex u), .int (Tx_faultReason u)]))], [(qa, .inl (E.2.2.1, 120, .inl (Tx_signs u)))], [(qb, .inl (E.2.1, 16, .inl (Tx_numbers u)))]]) H := hP
            have hD : va_D A (bl [[(o, .inr (6, [.ref qa, .ref qb, .int (Tx_length u), .int (Tx_at u), .int (Tx_items u), .int (Tx_faultIndex u), .int (Tx_faultReason u)]))], [(qa, .inl (E.2.2.1, 120, .inl (Tx_signs u)))], [(qb, .inl (E.2.1, 16, .inl (Tx_numbers u)))]]) := hD
            refine W.eq (g2 := F0 m 58 ls [.int q4, .int (x1 * 10)]) rfl ?_
            refine lv_bipush (v := 48) hx hb dX8_readNumber_58 (by decide) ?_
            refine lv_isub hx hb dX8_readNumber_60 ?_
            refine lv_iadd hx hb dX8_readNumber_61 ?_
            refine lv_istore_n (lv' := [(1, .int ((x1 * 10) + (q4 - 48))), (0, .ref o), (2, .int x2)]) hx hb dX8_readNumber_62 rfl hl (by decide) rfl (fun ls hl => ?_)
            refine lv_iinc (v := (x2 + 1)) (lv' := [(2, .int (x2 + 1)), (1, .int ((x1 * 10) + (q4 - 48))), (0, .ref o)]) hx hb dX8_readNumber_63 hl (k := 2) rfl rfl (by decide) rfl (fun ls hl => ?_)
            refine lv_aload_n hx hb dX8_readNumber_66 rfl (lv_at hl 2 rfl) ?_
            refine lv_dup hx hb dX8_readNumber_67 rfl ?_
            refine g_get (T := TX8) (N := 7) hx hb hts in_X8 hown hK hP 0 rfl rfl 3 (by decide) w0 rfl rfl dX8_readNumber_68 ?_
            refine lv_iconst (v := 1) hx hb dX8_readNumber_71 (by decide) ?_
            refine lv_iadd hx hb dX8_readNumber_72 ?_
            refine g_put (T := TX8) (N := 7) hx hb hts in_X8 tyX8 tyX8_ok nmX8 hown hK hP hD hS 0 rfl rfl 3 (by decide) w0 rfl rfl rfl rfl (Nat.le_of_ble_eq_true rfl) dX8_readNumber_73 (fun H locs hP hD hS => ?_)
            have hP : va_P E.1 vwCl (bl [[(o, .inr (6, [.ref qa, .ref qb, .int (Tx_length u), .int ((Tx_at u) + 1), .int (Tx_items u), .int (Tx_faultIndex u), .int (Tx_faultReason u)]))], [(qa, .inl (E.2.2.1, 120, .inl (Tx_signs u)))], [(qb, .inl (E.2.1, 16, .inl (Tx_numbers u)))]]) H := hP
            have hD : va_D A (bl [[(o, .inr (6, [.ref qa, .ref qb, .int (Tx_length u), .int ((Tx_at u) + 1), .int (Tx_items u), .int (Tx_faultIndex u), .int (Tx_faultReason u)]))], [(qa, .inl (E.2.2.1, 120, .inl (Tx_signs u)))], [(qb, .inl (E.2.1, 16, .inl (Tx_numbers u)))]]) := hD
            refine lv_goto (tgt := 15) hx hb dX8_readNumber_76 (by decide) ?_
            exact ih (Tx_mk (Tx_signs u) (Tx_numbers u) (Tx_length u) ((Tx_at u) + 1) (Tx_items u) (Tx_faultIndex u) (Tx_faultReason u)) ((x1 * 10) + (q4 - 48)) (x2 + 1) _ _ hP hD hS _ (lv_sub hl [2, 1, 0] rfl) hF
  unfold F_X8_readNumber at hF
  refine lv_aload_n hx hb dX8_readNumber_0 rfl (lv_at hl 0 rfl) ?_
  refine lv_bipush (v := 32) hx hb dX8_readNumber_1 (by decide) ?_
  obtain ⟨q1, h_q1, hF⟩ := bnd_s hF
  refine g_callV (As := [.int 32]) (rest := []) ⟨hx, hb, hml, hown, hts⟩ hK hZ hA (c_X8_skips l E o qa qb v (32) q1 h_q1) (cwV 1 hts gX8_readNumber_X8_skips rfl rfl rfl (by decide +kernel) ⟨Nat.le_of_ble_eq_true rfl, Nat.le_of_ble_eq_true rfl⟩) hP hD hS [0, 1, 2] [] rfl rfl rfl rfl rfl rfl hl.1 rfl (Nat.le_of_ble_eq_true rfl) dX8_readNumber_3 ⟨Nat.le_of_ble_eq_true rfl, Nat.le_of_ble_eq_true rfl⟩ (fun H locs hP hD hS => ?_)
  have hP : va_P E.1 vwCl (bl [[(o, .inr (6, [.ref qa, .ref qb, .int (Tx_length q1.2), .int (Tx_at q1.2), .int (Tx_items q1.2), .int (Tx_faultIndex q1.2), .int (Tx_faultReason q1.2)]))], [(qa, .inl (E.2.2.1, 120, .inl (Tx_signs q1.2)))], [(qb, .inl (E.2.1, 16, .inl (Tx_numbers q1.2)))]]) H := hP
  have hD : va_D A (bl [[(o, .inr (6, [.ref qa, .ref qb, .int (Tx_length q1.2), .int (Tx_at q1.2), .int (Tx_items q1.2), .int (Tx_faultIndex q1.2), .int (Tx_faultReason q1.2)]))], [(qa, .inl (E.2.2.1, 120, .inl (Tx_signs q1.2)))], [(qb, .inl (E.2.1, 16, .inl (Tx_numbers q1.2)))]]) := hD
  refine W.eq (g2 := F0 m 6 ls [.int q1.1]) rfl ?_
  refine f_if_ne (tgt := 11) hx hb dX8_readNumber_6 (by decide) hF (fun hF => ?_) (fun hF => ?_)
  · refine lv_iconst (v := 0) hx hb dX8_readNumber_11 (by decide) ?_
    refine lv_istore_n (lv' := [(1, .int 0), (0, .ref o)]) hx hb dX8_readNumber_12 rfl hl (by decide) rfl (fun ls hl => ?_)
    refine lv_iconst (v := 0) hx hb dX8_readNumber_13 (by decide) ?_
    refine lv_istore_n (lv' := [(2, .int 0), (1, .int 0), (0, .ref o)]) hx hb dX8_readNumber_14 rfl hl (by decide) rfl (fun ls hl => ?_)
    exact hL15 n q1.2 0 0 _ _ hP hD hS _ (lv_sub hl [2, 1, 0] rfl) hF
  · refine lv_iconst (v := (-1)) hx hb dX8_readNumber_9 (by decide) ?_
    exact g_iret (rvf := fun z => some (.int z.1)) (W1f := fun z => bl [Tx_c E o qa qb z.2]) hx hb hr hlocks hQ hF rfl hP hD hS [0, 1, 2] rfl rfl dX8_readNumber_10
def F_X8_carryOutSector (n : Nat) (v : TxV) (v2 : StV) : Option (Int32 × TxV × StV) := (F_X8_readColor n v).bind fun q1 => if q1.1 = (-1) then some (1, q1.2, v2) else (F_X8_readNumber n q1.2).bind fun q2 => (F_X8_readNumber n q2.2).bind fun q3 => if q2.1 = (-1) then some (2, q3.2, v2) else if q3.1 = (-1) then some (2, q3.2, v2) else if 64 ≤ q2.1 then some (3, q3.2, v2) else if q3.1 < 64 then (F_X8_skips q3.2 59).bind fun q4 => if q4.1 = 0 then some (6, q4.2, v2) else (F_X2_give n (St_Ci v2) q1.1 q2.1 q3.1).bind fun q5 => some (0, q4.2, (St_mk (St_So v2) q5.2 (St_Fl v2) (St_Ch v2) (St_Lo v2))) else some (3, q3.2, v2)
set_option maxHeartbeats 4000000 in
set_option maxRecDepth 100000 in
theorem c_X8_carryOutSector (l : Launch) (E : GE) (o : Nat) (qa : Nat) (qb : Nat) (fa2 : Nat → Nat) (n : Nat) (v : TxV) (v2 : StV) (r : Int32 × TxV × StV) (hF : F_X8_carryOutSector n v v2 = some r) : CT l E yX8_carryOutSector wsX8_carryOutSector ({ frames := 8, cells := 0, slots := 0, locals := 195 } : Room) [.ref o, .ref (fa2 0)] (bl [Tx_c E o qa qb v, St_c E fa2 v2]) (some (.int r.1)) (bl [Tx_c E o qa qb r.2.1, St_c E fa2 r.2.2]) 0 0 := by
  refine CT.of (cc := cX8_carryOutSector) (maxL := 5) (ret := (some .int)) (by decide) rfl (Nat.le_of_ble_eq_true rfl) ?_
  intro p e s m args below meth cd A Q ls B hQ hP hD hS hl
  obtain ⟨hx, hb, hml, hown, hts, hr, hlocks, hK, hZ, hA, hnm⟩ := B
  have hown : s.vm.findClass RX8 = some m.cls := hown
  have hl : lv_has ls 5 [(0, .ref o), (1, .ref (fa2 0))] := hl
  have w0 := va_Nw.use (A := args) rfl (hZ.2.2.2.2.2.2.1 19 _ rfl)
  have in_X7 : ∀ w ∈ wsX70, w ∈ wsX8_carryOutSector := by decide +kernel
  have hP : va_P E.1 vwCl (bl [Tx_c E o qa qb v, [((fa2 0), .inr (5, [.ref (fa2 2), .ref (fa2 4), .ref (fa2 7), .ref (fa2 11), .ref (fa2 1), .int (So_tick (St_So v2)), .int (So_clear (St_So v2)), .int (So_changesBegun (St_So v2))]))], [((fa2 1), .inl (E.2.1, 4, .inl (So_spent (St_So v2))))], Ci_c E (fa2 2) (fa2 3) (St_Ci v2), Fl_c E (fa2 4) (fa2 5) (fa2 6) (St_Fl v2), Ch_c E (fa2 7) (fa2 8) (fa2 9) (fa2 10) (St_Ch v2), Lo_c E (fa2 11) (fa2 12) (fa2 13) (fa2 14) (fa2 15) (fa2 16) (St_Lo v2)]) s.heap := hP
  have hD : va_D A (bl [Tx_c E o qa qb v, [((fa2 0), .inr (5, [.ref (fa2 2), .ref (fa2 4), .ref (fa2 7), .ref (fa2 11), .ref (fa2 1), .int (So_tick (St_So v2)), .int (So_clear (St_So v2)), .int (So_changesBegun (St_So v2))]))], [((fa2 1), .inl (E.2.1, 4, .inl (So_spent (St_So v2))))], Ci_c E (fa2 2) (fa2 3) (St_Ci v2), Fl_c E (fa2 4) (fa2 5) (fa2 6) (St_Fl v2), Ch_c E (fa2 7) (fa2 8) (fa2 9) (fa2 10) (St_Ch v2), Lo_c E (fa2 11) (fa2 12) (fa2 13) (fa2 14) (fa2 15) (fa2 16) (St_Lo v2)]) := hD
  unfold F_X8_carryOutSector at hF
  refine lv_aload_n hx hb dX8_carryOutSector_0 rfl (lv_at hl 0 rfl) ?_
  obtain ⟨q1, h_q1, hF⟩ := bnd_s hF
  refine g_callV (As := []) (rest := []) ⟨hx, hb, hml, hown, hts⟩ hK hZ hA (c_X8_readColor l E o qa qb n v q1 h_q1) (cwV 0 hts gX8_carryOutSector_X8_readColor rfl rfl rfl (by decide +kernel) ⟨Nat.le_of_ble_eq_true rfl, Nat.le_of_ble_eq_true rfl⟩) hP hD hS [0] [1, 2, 3, 4, 5, 6] rfl rfl rfl rfl rfl rfl hl.1 rfl (Nat.le_of_ble_eq_true rfl) dX8_carryOutSector_1 ⟨Nat.le_of_ble_eq_true rfl, Nat.le_of_ble_eq_true rfl⟩ (fun H locs hP hD hS => ?_)
  have hP : va_P E.1 vwCl (bl [Tx_c E o qa qb q1.2, [((fa2 0), .inr (5, [.ref (fa2 2), .ref (fa2 4), .ref (fa2 7), .ref (fa2 11), .ref (fa2 1), .int (So_tick (St_So v2)), .int (So_clear (St_So v2)), .int (So_changesBegun (St_So v2))]))], [((fa2 1), .inl (E.2.1, 4, .inl (So_spent (St_So v2))))], Ci_c E (fa2 2) (fa2 3) (St_Ci v2), Fl_c E (fa2 4) (fa2 5) (fa2 6) (St_Fl v2), Ch_c E (fa2 7) (fa2 8) (fa2 9) (fa2 10) (St_Ch v2), Lo_c E (fa2 11) (fa2 12) (fa2 13) (fa2 14) (fa2 15) (fa2 16) (St_Lo v2)]) H := hP
  have hD : va_D A (bl [Tx_c E o qa qb q1.2, [((fa2 0), .inr (5, [.ref (fa2 2), .ref (fa2 4), .ref (fa2 7), .ref (fa2 11), .ref (fa2 1), .int (So_tick (St_So v2)), .int (So_clear (St_So v2)), .int (So_changesBegun (St_So v2))]))], [((fa2 1), .inl (E.2.1, 4, .inl (So_spent (St_So v2))))], Ci_c E (fa2 2) (fa2 3) (St_Ci v2), Fl_c E (fa2 4) (fa2 5) (fa2 6) (St_Fl v2), Ch_c E (fa2 7) (fa2 8) (fa2 9) (fa2 10) (St_Ch v2), Lo_c E (fa2 11) (fa2 12) (fa2 13) (fa2 14) (fa2 15) (fa2 16) (St_Lo v2)]) := hD
  refine W.eq (g2 := F0 m 4 ls [.int q1.1]) rfl ?_
  refine lv_istore_n (lv' := [(2, .int q1.1), (0, .ref o), (1, .ref (fa2 0))]) hx hb dX8_carryOutSector_4 rfl hl (by decide) rfl (fun ls hl => ?_)
  refine lv_iload_n hx hb dX8_carryOutSector_5 rfl (lv_at hl 0 rfl) ?_
  refine lv_iconst (v := (-1)) hx hb dX8_carryOutSector_6 (by decide) ?_
  refine f_icmp_ne (tgt := 12) hx hb dX8_carryOutSector_7 (by decide) hF (fun hF => ?_) (fun hF => ?_)
  · refine lv_aload_n hx hb dX8_carryOutSector_12 rfl (lv_at hl 1 rfl) ?_
    obtain ⟨q2, h_q2, hF⟩ := bnd_s hF
    refine g_callV (As := []) (rest := []) ⟨hx, hb, hml, hown, hts⟩ hK hZ hA (c_X8_readNumber l E o qa qb n q1.2 q2 h_q2) (cwV 0 hts gX8_carryOutSector_X8_readNumber rfl rfl rfl (by decide +kernel) ⟨Nat.le_of_ble_eq_true rfl, Nat.le_of_ble_eq_true rfl⟩) hP hD hS [0] [1, 2, 3, 4, 5, 6] rfl rfl rfl rfl rfl rfl hl.1 rfl (Nat.le_of_ble_eq_true rfl) dX8_carryOutSector_13 ⟨Nat.le_of_ble_eq_true rfl, Nat.le_of_ble_eq_true rfl⟩ (fun H locs hP hD hS => ?_)
    have hP : va_P E.1 vwCl (bl [Tx_c E o qa qb q2.2, [((fa2 0), .inr (5, [.ref (fa2 2), .ref (fa2 4), .ref (fa2 7), .ref (fa2 11), .ref (fa2 1), .int (So_tick (St_So v2)), .int (So_clear (St_So v2)), .int (So_changesBegun (St_So v2))]))], [((fa2 1), .inl (E.2.1, 4, .inl (So_spent (St_So v2))))], Ci_c E (fa2 2) (fa2 3) (St_Ci v2), Fl_c E (fa2 4) (fa2 5) (fa2 6) (St_Fl v2), Ch_c E (fa2 7) (fa2 8) (fa2 9) (fa2 10) (St_Ch v2), Lo_c E (fa2 11) (fa2 12) (fa2 13) (fa2 14) (fa2 15) (fa2 16) (St_Lo v2)]) H := hP
    have hD : va_D A (bl [Tx_c E o qa qb q2.2, [((fa2 0), .inr (5, [.ref (fa2 2), .ref (fa2 4), .ref (fa2 7), .ref (fa2 11), .ref (fa2 1), .int (So_tick (St_So v2)), .int (So_clear (St_So v2)), .int (So_changesBegun (St_So v2))]))], [((fa2 1), .inl (E.2.1, 4, .inl (So_spent (St_So v2))))], Ci_c E (fa2 2) (fa2 3) (St_Ci v2), Fl_c E (fa2 4) (fa2 5) (fa2 6) (St_Fl v2), Ch_c E (fa2 7) (fa2 8) (fa2 9) (fa2 10) (St_Ch v2), Lo_c E (fa2 11) (fa2 12) (fa2 13) (fa2 14) (fa2 15) (fa2 16) (St_Lo v2)]) := hD
    refine W.eq (g2 := F0 m 16 ls [.int q2.1]) rfl ?_
    refine lv_istore_n (lv' := [(3, .int q2.1), (2, .int q1.1), (0, .ref o), (1, .ref (fa2 0))]) hx hb dX8_carryOutSector_16 rfl hl (by decide) rfl (fun ls hl => ?_)
    refine lv_aload_n hx hb dX8_carryOutSector_17 rfl (lv_at hl 2 rfl) ?_
    obtain ⟨q3, h_q3, hF⟩ := bnd_s hF
    refine g_callV (As := []) (rest := []) ⟨hx, hb, hml, hown, hts⟩ hK hZ hA (c_X8_readNumber l E o qa qb n q2.2 q3 h_q3) (cwV 0 hts gX8_carryOutSector_X8_readNumber rfl rfl rfl (by decide +kernel) ⟨Nat.le_of_ble_eq_true rfl, Nat.le_of_ble_eq_true rfl⟩) hP hD hS [0] [1, 2, 3, 4, 5, 6] rfl rfl rfl rfl rfl rfl hl.1 rfl (Nat.le_of_ble_eq_true rfl) dX8_carryOutSector_18 ⟨Nat.le_of_ble_eq_true rfl, Nat.le_of_ble_eq_true rfl⟩ (fun H locs hP hD hS => ?_)
    have hP : va_P E.1 vwCl (bl [Tx_c E o qa qb q3.2, [((fa2 0), .inr (5, [.ref (fa2 2), .ref (fa2 4), .ref (fa2 7), .ref (fa2 11), .ref (fa2 1), .int (So_tick (St_So v2)), .int (So_clear (St_So v2)), .int (So_changesBegun (St_So v2))]))], [((fa2 1), .inl (E.2.1, 4, .inl (So_spent (St_So v2))))], Ci_c E (fa2 2) (fa2 3) (St_Ci v2), Fl_c E (fa2 4) (fa2 5) (fa2 6) (St_Fl v2), Ch_c E (fa2 7) (fa2 8) (fa2 9) (fa2 10) (St_Ch v2), Lo_c E (fa2 11) (fa2 12) (fa2 13) (fa2 14) (fa2 15) (fa2 16) (St_Lo v2)]) H := hP
    have hD : va_D A (bl [Tx_c E o qa qb q3.2, [((fa2 0), .inr (5, [.ref (fa2 2), .ref (fa2 4), .ref (fa2 7), .ref (fa2 11), .ref (fa2 1), .int (So_tick (St_So v2)), .int (So_clear (St_So v2)), .int (So_changesBegun (St_So v2))]))], [((fa2 1), .inl (E.2.1, 4, .inl (So_spent (St_So v2))))], Ci_c E (fa2 2) (fa2 3) (St_Ci v2), Fl_c E (fa2 4) (fa2 5) (fa2 6) (St_Fl v2), Ch_c E (fa2 7) (fa2 8) (fa2 9) (fa2 10) (St_Ch v2), Lo_c E (fa2 11) (fa2 12) (fa2 13) (fa2 14) (fa2 15) (fa2 16) (St_Lo v2)]) := hD
    refine W.eq (g2 := F0 m 21 ls [.int q3.1]) rfl ?_
    refine lv_istore (lv' := [(4, .int q3.1), (3, .int q2.1), (2, .int q1.1), (0, .ref o), (1, .ref (fa2 0))]) hx hb dX8_carryOutSector_21 hl (by decide) rfl (fun ls hl => ?_)
    refine lv_iload_n hx hb dX8_carryOutSector_23 rfl (lv_at hl 1 rfl) ?_
    refine lv_iconst (v := (-1)) hx hb dX8_carryOutSector_24 (by decide) ?_
    refine f_icmp_eq (tgt := 34) hx hb dX8_carryOutSector_25 (by decide) hF (fun hF => ?_) (fun hF => ?_)
    · refine lv_iconst (v := 2) hx hb dX8_carryOutSector_34 (by decide) ?_
      exact g_iret (rvf := fun z => some (.int z.1)) (W1f := fun z => bl [Tx_c E o qa qb z.2.1, St_c E fa2 z.2.2]) hx hb hr hlocks hQ hF rfl hP hD hS [0, 1, 2, 3, 4, 5, 6] rfl rfl dX8_carryOutSector_35
    · refine lv_iload hx hb dX8_carryOutSector_28 (lv_at hl 0 rfl) ?_
      refine lv_iconst (v := (-1)) hx hb dX8_carryOutSector_30 (by decide) ?_
      refine f_icmp_ne (tgt := 36) hx hb dX8_carryOutSector_31 (by decide) hF (fun hF => ?_) (fun hF => ?_)
      · refine lv_iload_n hx hb dX8_carryOutSector_36 rfl (lv_at hl 1 rfl) ?_
        refine lv_bipush (v := 64) hx hb dX8_carryOutSector_37 (by decide) ?_
        refine f_icmp_ge (tgt := 49) hx hb dX8_carryOutSector_39 (by decide) hF (fun hF => ?_) (fun hF => ?_)
        · refine lv_iconst (v := 3) hx hb dX8_carryOutSector_49 (by decide) ?_
          exact g_iret (rvf := fun z => some (.int z.1)) (W1f := fun z => bl [Tx_c E o qa qb z.2.1, St_c E fa2 z.2.2]) hx hb hr hlocks hQ hF rfl hP hD hS [0, 1, 2, 3, 4, 5, 6] rfl rfl dX8_carryOutSector_50
        · refine lv_iload hx hb dX8_carryOutSector_42 (lv_at hl 0 rfl) ?_
          refine lv_bipush (v := 64) hx hb dX8_carryOutSector_44 (by decide) ?_
          refine f_icmp_lt (tgt := 51) hx hb dX8_carryOutSector_46 (by decide) hF (fun hF => ?_) (fun hF => ?_)
          · refine lv_aload_n hx hb dX8_carryOutSector_51 rfl (lv_at hl 3 rfl) ?_
            refine lv_bipush (v := 59) hx hb dX8_carryOutSector_52 (by decide) ?_
            obtain ⟨q4, h_q4, hF⟩ := bnd_s hF
            refine g_callV (As := [.int 59]) (rest := []) ⟨hx, hb, hml, hown, hts⟩ hK hZ hA (c_X8_skips l E o qa qb q3.2 (59) q4 h_q4) (cwV 1 hts gX8_carryOutSector_X8_skips rfl rfl rfl (by decide +kernel) ⟨Nat.le_of_ble_eq_true rfl, Nat.le_of_ble_eq_true rfl⟩) hP hD hS [0] [1, 2, 3, 4, 5, 6] rfl rfl rfl rfl rfl rfl hl.1 rfl (Nat.le_of_ble_eq_true rfl) dX8_carryOutSector_54 ⟨Nat.le_of_ble_eq_true rfl, Nat.le_of_ble_eq_true rfl⟩ (fun H locs hP hD hS => ?_)
            have hP : va_P E.1 vwCl (bl [Tx_c E o qa qb q4.2, [((fa2 0), .inr (5, [.ref (fa2 2), .ref (fa2 4), .ref (fa2 7), .ref (fa2 11), .ref (fa2 1), .int (So_tick (St_So v2)), .int (So_clear (St_So v2)), .int (So_changesBegun (St_So v2))]))], [((fa2 1), .inl (E.2.1, 4, .inl (So_spent (St_So v2))))], Ci_c E (fa2 2) (fa2 3) (St_Ci v2), Fl_c E (fa2 4) (fa2 5) (fa2 6) (St_Fl v2), Ch_c E (fa2 7) (fa2 8) (fa2 9) (fa2 10) (St_Ch v2), Lo_c E (fa2 11) (fa2 12) (fa2 13) (fa2 14) (fa2 15) (fa2 16) (St_Lo v2)]) H := hP
            have hD : va_D A (bl [Tx_c E o qa qb q4.2, [((fa2 0), .inr (5, [.ref (fa2 2), .ref (fa2 4), .ref (fa2 7), .ref (fa2 11), .ref (fa2 1), .int (So_tick (St_So v2)), .int (So_clear (St_So v2)), .int (So_changesBegun (St_So v2))]))], [((fa2 1), .inl (E.2.1, 4, .inl (So_spent (St_So v2))))], Ci_c E (fa2 2) (fa2 3) (St_Ci v2), Fl_c E (fa2 4) (fa2 5) (fa2 6) (St_Fl v2), Ch_c E (fa2 7) (fa2 8) (fa2 9) (fa2 10) (St_Ch v2), Lo_c E (fa2 11) (fa2 12) (fa2 13) (fa2 14) (fa2 15) (fa2 16) (St_Lo v2)]) := hD
            refine W.eq (g2 := F0 m 57 ls [.int q4.1]) rfl ?_
            refine f_if_ne (tgt := 63) hx hb dX8_carryOutSector_57 (by decide) hF (fun hF => ?_) (fun hF => ?_)
            · refine lv_aload_n hx hb dX8_carryOutSector_63 rfl (lv_at hl 4 rfl) ?_
              refine g_getN (T := TX7) (N := 8) hx hb hts in_X7 hown hK hP 1 rfl rfl 0 (by decide) w0 rfl rfl dX8_carryOutSector_64 ?_
              refine lv_iload_n hx hb dX8_carryOutSector_67 rfl (lv_at hl 2 rfl) ?_
              refine lv_iload_n hx hb dX8_carryOutSector_68 rfl (lv_at hl 1 rfl) ?_
              refine lv_iload hx hb dX8_carryOutSector_69 (lv_at hl 0 rfl) ?_
              obtain ⟨q5, h_q5, hF⟩ := bnd_s hF
              refine g_callV (As := [.int q1.1, .int q2.1, .int q3.1]) (rest := []) ⟨hx, hb, hml, hown, hts⟩ hK hZ hA (c_X2_give l E (fa2 2) (fa2 3) n (St_Ci v2) q1.1 q2.1 q3.1 q5 h_q5) (cwV 3 hts gX8_carryOutSector_X2_give rfl rfl rfl (by decide +kernel) ⟨Nat.le_of_ble_eq_true rfl, Nat.le_of_ble_eq_true rfl⟩) hP hD hS [3] [0, 1, 2, 4, 5, 6] rfl rfl rfl rfl rfl rfl hl.1 rfl (Nat.le_of_ble_eq_true rfl) dX8_carryOutSector_71 ⟨Nat.le_of_ble_eq_true rfl, Nat.le_of_ble_eq_true rfl⟩ (fun H locs hP hD hS => ?_)
              have hP : va_P E.1 vwCl (bl [Ci_c E (fa2 2) (fa2 3) q5.2, Tx_c E o qa qb q4.2, [((fa2 0), .inr (5, [.ref (fa2 2), .ref (fa2 4), .ref (fa2 7), .ref (fa2 11), .ref (fa2 1), .int (So_tick (St_So v2)), .int (So_clear (St_So v2)), .int (So_changesBegun (St_So v2))]))], [((fa2 1), .inl (E.2.1, 4, .inl (So_spent (St_So v2))))], Fl_c E (fa2 4) (fa2 5) (fa2 6) (St_Fl v2), Ch_c E (fa2 7) (fa2 8) (fa2 9) (fa2 10) (St_Ch v2), Lo_c E (fa2 11) (fa2 12) (fa2 13) (fa2 14) (fa2 15) (fa2 16) (St_Lo v2)]) H := hP
              have hD : va_D A (bl [Ci_c E (fa2 2) (fa2 3) q5.2, Tx_c E o qa qb q4.2, [((fa2 0), .inr (5, [.ref (fa2 2), .ref (fa2 4), .ref (fa2 7), .ref (fa2 11), .ref (fa2 1), .int (So_tick (St_So v2)), .int (So_clear (St_So v2)), .int (So_changesBegun (St_So v2))]))], [((fa2 1), .inl (E.2.1, 4, .inl (So_spent (St_So v2))))], Fl_c E (fa2 4) (fa2 5) (fa2 6) (St_Fl v2), Ch_c E (fa2 7) (fa2 8) (fa2 9) (fa2 10) (St_Ch v2), Lo_c E (fa2 11) (fa2 12) (fa2 13) (fa2 14) (fa2 15) (fa2 16) (St_Lo v2)]) := hD
              refine W.eq (g2 := F0 m 74 ls [.int q5.1]) rfl ?_
              refine lv_pop hx hb dX8_carryOutSector_74 rfl ?_
              refine lv_iconst (v := 0) hx hb dX8_carryOutSector_75 (by decide) ?_
              exact g_iret (rvf := fun z => some (.int z.1)) (W1f := fun z => bl [Tx_c E o qa qb z.2.1, St_c E fa2 z.2.2]) hx hb hr hlocks hQ hF rfl hP hD hS [1, 2, 3, 0, 4, 5, 6] rfl rfl dX8_carryOutSector_76
            · refine lv_bipush (v := 6) hx hb dX8_carryOutSector_60 (by decide) ?_
              exact g_iret (rvf := fun z => some (.int z.1)) (W1f := fun z => bl [Tx_c E o qa qb z.2.1, St_c E fa2 z.2.2]) hx hb hr hlocks hQ hF rfl hP hD hS [0, 1, 2, 3, 4, 5, 6] rfl rfl dX8_carryOutSector_62
          · refine lv_iconst (v := 3) hx hb dX8_carryOutSector_49 (by decide) ?_
            exact g_iret (rvf := fun z => some (.int z.1)) (W1f := fun z => bl [Tx_c E o qa qb z.2.1, St_c E fa2 z.2.2]) hx hb hr hlocks hQ hF rfl hP hD hS [0, 1, 2, 3, 4, 5, 6] rfl rfl dX8_carryOutSector_50
      · refine lv_iconst (v := 2) hx hb dX8_carryOutSector_34 (by decide) ?_
        exact g_iret (rvf := fun z => some (.int z.1)) (W1f := fun z => bl [Tx_c E o qa qb z.2.1, St_c E fa2 z.2.2]) hx hb hr hlocks hQ hF rfl hP hD hS [0, 1, 2, 3, 4, 5, 6] rfl rfl dX8_carryOutSector_35
  · refine lv_iconst (v := 1) hx hb dX8_carryOutSector_10 (by decide) ?_
    exact g_iret (rvf := fun z => some (.int z.1)) (W1f := fun z => bl [Tx_c E o qa qb z.2.1, St_c E fa2 z.2.2]) hx hb hr hlocks hQ hF rfl hP hD hS [0, 1, 2, 3, 4, 5, 6] rfl rfl dX8_carryOutSector_11
def F_X8_carryOutCode_L145 (n : Nat) : Nat → TxV → StV → Int32 → Int32 → Option (Int32 × TxV × StV)
  | 0, _, _, _, _ => none
  | k + 1, u, u2, x2, x4 => if x2 ≤ (x4 + 1) then some (0, u, u2) else if 16 ≤ (x4 + 1) then some (0, u, u2) else chk x4 16 (chk (x4 + 1) 16 ((F_X4_append (St_Fl u2) ((Tx_numbers u) x4.toNatClampNeg) ((Tx_numbers u) (x4 + 1).toNatClampNeg)).bind fun q3 => F_X8_carryOutCode_L145 n k u (St_mk (St_So u2) (St_Ci u2) q3 (St_Ch u2) (St_Lo u2)) x2 (x4 + 2)))
def F_X8_carryOutCode_J96 (n : Nat) (u : TxV) (u2 : StV) (x2 : Int32) (x3 : Int32) : Option (Int32 × TxV × StV) := if x2 = 0 then some (2, u, u2) else if (x2 - x2 / 2 * 2) = 1 then some (2, u, u2) else if x3 = 0 then some (3, u, u2) else if x2 ≤ 16 then (F_X8_skips u 59).bind fun q1 => if q1.1 = 0 then some (6, q1.2, u2) else (F_X4_drop (St_Fl u2)).bind fun q2 => F_X8_carryOutCode_L145 n n q1.2 (St_mk (St_So u2) (St_Ci u2) q2 (St_Ch u2) (St_Lo u2)) x2 0 else some (5, u, u2)
def F_X8_carryOutCode_L7 (n : Nat) : Nat → TxV → StV → Int32 → Int32 → Int32 → Option (Int32 × TxV × StV)
  | 0, _, _, _, _, _ => none
  | k + 1, u, u2, x2, x3, x4 => if 120 ≤ x4 then F_X8_carryOutCode_J96 n u u2 x2 x3 else (F_X8_signAt u (Tx_at u)).bind fun q4 => if q4 = 32 then (F_X8_readNumber n u).bind fun q5 => if q5.1 = (-1) then some (2, q5.2, u2) else if (x2 - x2 / 2 * 2) = 0 then if q5.1 < 1 then if 16 ≤ x2 then F_X8_carryOutCode_L7 n k q5.2 u2 (x2 + 1) 0 (x4 + 1) else chk x2 16 (F_X8_carryOutCode_L7 n k (Tx_mk (Tx_signs q5.2) (upd (Tx_numbers q5.2) x2.toNatClampNeg q5.1) (Tx_length q5.2) (Tx_at q5.2) (Tx_items q5.2) (Tx_faultIndex q5.2) (Tx_faultReason q5.2)) u2 (x2 + 1) 0 (x4 + 1)) else if q5.1 ≤ 60 then if 16 ≤ x2 then F_X8_carryOutCode_L7 n k q5.2 u2 (x2 + 1) x3 (x4 + 1) else chk x2 16 (F_X8_carryOutCode_L7 n k (Tx_mk (Tx_signs q5.2) (upd (Tx_numbers q5.2) x2.toNatClampNeg q5.1) (Tx_length q5.2) (Tx_at q5.2) (Tx_items q5.2) (Tx_faultIndex q5.2) (Tx_faultReason q5.2)) u2 (x2 + 1) x3 (x4 + 1)) else if 16 ≤ x2 then F_X8_carryOutCode_L7 n k q5.2 u2 (x2 + 1) 0 (x4 + 1) else chk x2 16 (F_X8_carryOutCode_L7 n k (Tx_mk (Tx_signs q5.2) (upd (Tx_numbers q5.2) x2.toNatClampNeg q5.1) (Tx_length q5.2) (Tx_at q5.2) (Tx_items q5.2) (Tx_faultIndex q5.2) (Tx_faultReason q5.2)) u2 (x2 + 1) 0 (x4 + 1)) else if q5.1 < 0 then if 16 ≤ x2 then F_X8_carryOutCode_L7 n k q5.2 u2 (x2 + 1) 0 (x4 + 1) else chk x2 16 (F_X8_carryOutCode_L7 n k (Tx_mk (Tx_signs q5.2) (upd (Tx_numbers q5.2) x2.toNatClampNeg q5.1) (Tx_length q5.2) (Tx_at q5.2) (Tx_items q5.2) (Tx_faultIndex q5.2) (Tx_faultReason q5.2)) u2 (x2 + 1) 0 (x4 + 1)) else if q5.1 ≤ 60 then if 16 ≤ x2 then F_X8_carryOutCode_L7 n k q5.2 u2 (x2 + 1) x3 (x4 + 1) else chk x2 16 (F_X8_carryOutCode_L7 n k (Tx_mk (Tx_signs q5.2) (upd (Tx_numbers q5.2) x2.toNatClampNeg q5.1) (Tx_length q5.2) (Tx_at q5.2) (Tx_items q5.2) (Tx_faultIndex q5.2) (Tx_faultReason q5.2)) u2 (x2 + 1) x3 (x4 + 1)) else if 16 ≤ x2 then F_X8_carryOutCode_L7 n k q5.2 u2 (x2 + 1) 0 (x4 + 1) else chk x2 16 (F_X8_carryOutCode_L7 n k (Tx_mk (Tx_signs q5.2) (upd (Tx_numbers q5.2) x2.toNatClampNeg q5.1) (Tx_length q5.2) (Tx_at q5.2) (Tx_items q5.2) (Tx_faultIndex q5.2) (Tx_faultReason q5.2)) u2 (x2 + 1) 0 (x4 + 1)) else F_X8_carryOutCode_J96 n u u2 x2 x3
def F_X8_carryOutCode (n : Nat) (v : TxV) (v2 : StV) : Option (Int32 × TxV × StV) := F_X8_carryOutCode_L7 n n v v2 0 1 0
set_option maxHeartbeats 4000000 in
set_option maxRecDepth 100000 in
theorem c_X8_carryOutCode (l : Launch) (E : GE) (o : Nat) (qa : Nat) (qb : Nat) (fa2 : Nat → Nat) (n : Nat) (v : TxV) (v2 : StV) (r : Int32 × TxV × StV) (hF : F_X8_carryOutCode n v v2 = some r) : CT l E yX8_carryOutCode wsX8_carryOutCode ({ frames := 3, cells := 0, slots := 0, locals := 64 } : Room) [.ref o, .ref (fa2 0)] (bl [Tx_c E o qa qb v, St_c E fa2 v2]) (some (.int r.1)) (bl [Tx_c E o qa qb r.2.1, St_c E fa2 r.2.2]) 0 0 := by
  refine CT.of (cc := cX8_carryOutCode) (maxL := 7) (ret := (some .int)) (by decide) rfl (Nat.le_of_ble_eq_true rfl) ?_
  intro p e s m args below meth cd A Q ls B hQ hP hD hS hl
  obtain ⟨hx, hb, hml, hown, hts, hr, hlocks, hK, hZ, hA, hnm⟩ := B
  have hown : s.vm.findClass RX8 = some m.cls := hown
  have hl : lv_has ls 7 [(0, .ref o), (1, .ref (fa2 0))] := hl
  have w0 := va_Nw.use (A := args) rfl (hZ.2.2.2.2.2.2.1 20 _ rfl)
  have w1 := hts (.fieldLink RX8 17 "HarborLight$Text" "numbers" "[I") (by decide +kernel)
  have w2 := hts (.fieldLink RX8 25 "HarborLight$Text" "at" "I") (by decide +kernel)
  have in_X7 : ∀ w ∈ wsX70, w ∈ wsX8_carryOutCode := by decide +kernel
  have in_X8 : ∀ w ∈ wsX80, w ∈ wsX8_carryOutCode := by decide +kernel
  have hP : va_P E.1 vwCl (bl [[(o, .inr (6, [.ref qa, .ref qb, .int (Tx_length v), .int (Tx_at v), .int (Tx_items v), .int (Tx_faultIndex v), .int (Tx_faultReason v)]))], [(qa, .inl (E.2.2.1, 120, .inl (Tx_signs v)))], [(qb, .inl (E.2.1, 16, .inl (Tx_numbers v)))], [((fa2 0), .inr (5, [.ref (fa2 2), .ref (fa2 4), .ref (fa2 7), .ref (fa2 11), .ref (fa2 1), .int (So_tick (St_So v2)), .int (So_clear (St_So v2)), .int (So_changesBegun (St_So v2))]))], [((fa2 1), .inl (E.2.1, 4, .inl (So_spent (St_So v2))))], Ci_c E (fa2 2) (fa2 3) (St_Ci v2), Fl_c E (fa2 4) (fa2 5) (fa2 6) (St_Fl v2), Ch_c E (fa2 7) (fa2 8) (fa2 9) (fa2 10) (St_Ch v2), Lo_c E (fa2 11) (fa2 12) (fa2 13) (fa2 14) (fa2 15) (fa2 16) (St_Lo v2)]) s.heap := hP
  have hD : va_D A (bl [[(o, .inr (6, [.ref qa, .ref qb, .int (Tx_length v), .int (Tx_at v), .int (Tx_items v), .int (Tx_faultIndex v), .int (Tx_faultReason v)]))], [(qa, .inl (E.2.2.1, 120, .inl (Tx_signs v)))], [(qb, .inl (E.2.1, 16, .inl (Tx_numbers v)))], [((fa2 0), .inr (5, [.ref (fa2 2), .ref (fa2 4), .ref (fa2 7), .ref (fa2 11), .ref (fa2 1), .int (So_tick (St_So v2)), .int (So_clear (St_So v2)), .int (So_changesBegun (St_So v2))]))], [((fa2 1), .inl (E.2.1, 4, .inl (So_spent (St_So v2))))], Ci_c E (fa2 2) (fa2 3) (St_Ci v2), Fl_c E (fa2 4) (fa2 5) (fa2 6) (St_Fl v2), Ch_c E (fa2 7) (fa2 8) (fa2 9) (fa2 10) (St_Ch v2), Lo_c E (fa2 11) (fa2 12) (fa2 13) (fa2 14) (fa2 15) (fa2 16) (St_Lo v2)]) := hD
  have hL145 : ∀ (k : Nat) (u : TxV) (u2 : StV) (x2 : Int32) (x4 : Int32) (H : Heap) (locs : List Loc), va_P E.1 vwCl (bl [Fl_c E (fa2 4) (fa2 5) (fa2 6) (St_Fl u2), [(o, .inr (6, [.ref qa, .ref qb, .int (Tx_length u), .int (Tx_at u), .int (Tx_items u), .int (Tx_faultIndex u), .int (Tx_faultReason u)]))], [(qa, .inl (E.2.2.1, 120, .inl (Tx_signs u)))], [(qb, .inl (E.2.1, 16, .inl (Tx_numbers u)))], [((fa2 0), .inr (5, [.ref (fa2 2), .ref (fa2 4), .ref (fa2 7), .ref (fa2 11), .ref (fa2 1), .int (So_tick (St_So u2)), .int (So_clear (St_So u2)), .int (So_changesBegun (St_So u2))]))], [((fa2 1), .inl (E.2.1, 4, .inl (So_spent (St_So u2))))], Ci_c E (fa2 2) (fa2 3) (St_Ci u2), Ch_c E (fa2 7) (fa2 8) (fa2 9) (fa2 10) (St_Ch u2), Lo_c E (fa2 11) (fa2 12) (fa2 13) (fa2 14) (fa2 15) (fa2 16) (St_Lo u2)]) H → va_D A (bl [Fl_c E (fa2 4) (fa2 5) (fa2 6) (St_Fl u2), [(o, .inr (6, [.ref qa, .ref qb, .int (Tx_length u), .int (Tx_at u), .int (Tx_items u), .int (Tx_faultIndex u), .int (Tx_faultReason u)]))], [(qa, .inl (E.2.2.1, 120, .inl (Tx_signs u)))], [(qb, .inl (E.2.1, 16, .inl (Tx_numbers u)))], [((fa2 0), .inr (5, [.ref (fa2 2), .ref (fa2 4), .ref (fa2 7), .ref (fa2 11), .ref (fa2 1), .int (So_tick (St_So u2)), .int (So_clear (St_So u2)), .int (So_changesBegun (St_So u2))]))], [((fa2 1), .inl (E.2.1, 4, .inl (So_spent (St_So u2))))], Ci_c E (fa2 2) (fa2 3) (St_Ci u2), Ch_c E (fa2 7) (fa2 8) (fa2 9) (fa2 10) (St_Ch u2), Lo_c E (fa2 11) (fa2 12) (fa2 13) (fa2 14) (fa2 15) (fa2 16) (St_Lo u2)]) → va_S A s.heap H locs → ∀ ls : Array Slot, lv_has ls 7 [(0, .ref o), (1, .ref (fa2 0)), (2, .int x2), (4, .int x4)] → F_X8_carryOutCode_L145 n k u u2 x2 x4 = some r → W p l e ({ frames := 3, cells := 0, slots := 0, locals := 64 } : Room) s m args below meth cd H locs 0 0 Q (F0 m 145 ls []) := by
    intro k
    induction k with
    | zero => intro u u2 x2 x4 H locs hP hD hS ls hl hF; cases hF
    | succ k ih =>
      intro u u2 x2 x4 H locs hP hD hS ls hl hF
      rw [F_X8_carryOutCode_L145] at hF
      refine lv_iload hx hb dX8_carryOutCode_145 (lv_at hl 3 rfl) ?_
      refine lv_iconst (v := 1) hx hb dX8_carryOutCode_147 (by decide) ?_
      refine lv_iadd hx hb dX8_carryOutCode_148 ?_
      refine lv_iload_n hx hb dX8_carryOutCode_149 rfl (lv_at hl 2 rfl) ?_
      refine f_icmp_ge (tgt := 194) hx hb dX8_carryOutCode_150 (by decide) hF (fun hF => ?_) (fun hF => ?_)
      · refine lv_iconst (v := 0) hx hb dX8_carryOutCode_194 (by decide) ?_
        exact g_iret (rvf := fun z => some (.int z.1)) (W1f := fun z => bl [Tx_c E o qa qb z.2.1, St_c E fa2 z.2.2]) hx hb hr hlocks hQ hF rfl hP hD hS [1, 2, 3, 4, 5, 6, 0, 7, 8] rfl rfl dX8_carryOutCode_195
      · refine lv_iload hx hb dX8_carryOutCode_153 (lv_at hl 3 rfl) ?_
        refine lv_iconst (v := 1) hx hb dX8_carryOutCode_155 (by decide) ?_
        refine lv_iadd hx hb dX8_carryOutCode_156 ?_
        refine lv_aload_n hx hb dX8_carryOutCode_157 rfl (lv_at hl 0 rfl) ?_
        refine g_get (T := TX8) (N := 7) hx hb hts in_X8 hown hK hP 1 rfl rfl 1 (by decide) w1 rfl rfl dX8_carryOutCode_158 ?_
        refine g_alen (v := 16) hx hb hK hP 3 0 rfl rfl rfl dX8_carryOutCode_161 ?_
        refine f_icmp_ge (tgt := 194) hx hb dX8_carryOutCode_162 (by decide) hF (fun hF => ?_) (fun hF => ?_)
        · refine lv_iconst (v := 0) hx hb dX8_carryOutCode_194 (by decide) ?_
          exact g_iret (rvf := fun z => some (.int z.1)) (W1f := fun z => bl [Tx_c E o qa qb z.2.1, St_c E fa2 z.2.2]) hx hb hr hlocks hQ hF rfl hP hD hS [1, 2, 3, 4, 5, 6, 0, 7, 8] rfl rfl dX8_carryOutCode_195
        · refine lv_aload_n hx hb dX8_carryOutCode_165 rfl (lv_at hl 1 rfl) ?_
          refine g_getN (T := TX7) (N := 8) hx hb hts in_X7 hown hK hP 4 rfl rfl 1 (by decide) w0 rfl rfl dX8_carryOutCode_166 ?_
          refine lv_aload_n hx hb dX8_carryOutCode_169 rfl (lv_at hl 0 rfl) ?_
          refine g_get (T := TX8) (N := 7) hx hb hts in_X8 hown hK hP 1 rfl rfl 1 (by decide) w1 rfl rfl dX8_carryOutCode_170 ?_
          refine lv_iload hx hb dX8_carryOutCode_173 (lv_at hl 3 rfl) ?_
          refine f_iald hx hb hK hP 3 rfl hF dX8_carryOutCode_175 (fun hF => ?_)
          refine lv_aload_n hx hb dX8_carryOutCode_176 rfl (lv_at hl 0 rfl) ?_
          refine g_get (T := TX8) (N := 7) hx hb hts in_X8 hown hK hP 1 rfl rfl 1 (by decide) w1 rfl rfl dX8_carryOutCode_177 ?_
          refine lv_iload hx hb dX8_carryOutCode_180 (lv_at hl 3 rfl) ?_
          refine lv_iconst (v := 1) hx hb dX8_carryOutCode_182 (by decide) ?_
          refine lv_iadd hx hb dX8_carryOutCode_183 ?_
          refine f_iald hx hb hK hP 3 rfl hF dX8_carryOutCode_184 (fun hF => ?_)
          obtain ⟨q3, h_q3, hF⟩ := bnd_s hF
          refine g_callV (As := [.int ((Tx_numbers u) x4.toNatClampNeg), .int ((Tx_numbers u) (x4 + 1).toNatClampNeg)]) (rest := []) ⟨hx, hb, hml, hown, hts⟩ hK hZ hA (c_X4_append l E (fa2 4) (fa2 5) (fa2 6) (St_Fl u2) ((Tx_numbers u) x4.toNatClampNeg) ((Tx_numbers u) (x4 + 1).toNatClampNeg) q3 h_q3) (cwV 2 hts gX8_carryOutCode_X4_append rfl rfl rfl (by decide +kernel) ⟨Nat.le_of_ble_eq_true rfl, Nat.le_of_ble_eq_true rfl⟩) hP hD hS [0] [1, 2, 3, 4, 5, 6, 7, 8] rfl rfl rfl rfl rfl rfl hl.1 rfl (Nat.le_of_ble_eq_true rfl) dX8_carryOutCode_185 ⟨Nat.le_of_ble_eq_true rfl, Nat.le_of_ble_eq_true rfl⟩ (fun H locs hP hD hS => ?_)
          have hP : va_P E.1 vwCl (bl [Fl_c E (fa2 4) (fa2 5) (fa2 6) q3, [(o, .inr (6, [.ref qa, .ref qb, .int (Tx_length u), .int (Tx_at u), .int (Tx_items u), .int (Tx_faultIndex u), .int (Tx_faultReason u)]))], [(qa, .inl (E.2.2.1, 120, .inl (Tx_signs u)))], [(qb, .inl (E.2.1, 16, .inl (Tx_numbers u)))], [((fa2 0), .inr (5, [.ref (fa2 2), .ref (fa2 4), .ref (fa2 7), .ref (fa2 11), .ref (fa2 1), .int (So_tick (St_So u2)), .int (So_clear (St_So u2)), .int (So_changesBegun (St_So u2))]))], [((fa2 1), .inl (E.2.1, 4, .inl (So_spent (St_So u2))))], Ci_c E (fa2 2) (fa2 3) (St_Ci u2), Ch_c E (fa2 7) (fa2 8) (fa2 9) (fa2 10) (St_Ch u2), Lo_c E (fa2 11) (fa2 12) (fa2 13) (fa2 14) (fa2 15) (fa2 16) (St_Lo u2)]) H := hP
          have hD : va_D A (bl [Fl_c E (fa2 4) (fa2 5) (fa2 6) q3, [(o, .inr (6, [.ref qa, .ref qb, .int (Tx_length u), .int (Tx_at u), .int (Tx_items u), .int (Tx_faultIndex u), .int (Tx_faultReason u)]))], [(qa, .inl (E.2.2.1, 120, .inl (Tx_signs u)))], [(qb, .inl (E.2.1, 16, .inl (Tx_numbers u)))], [((fa2 0), .inr (5, [.ref (fa2 2), .ref (fa2 4), .ref (fa2 7), .ref (fa2 11), .ref (fa2 1), .int (So_tick (St_So u2)), .int (So_clear (St_So u2)), .int (So_changesBegun (St_So u2))]))], [((fa2 1), .inl (E.2.1, 4, .inl (So_spent (St_So u2))))], Ci_c E (fa2 2) (fa2 3) (St_Ci u2), Ch_c E (fa2 7) (fa2 8) (fa2 9) (fa2 10) (St_Ch u2), Lo_c E (fa2 11) (fa2 12) (fa2 13) (fa2 14) (fa2 15) (fa2 16) (St_Lo u2)]) := hD
          refine W.eq (g2 := F0 m 188 ls []) rfl ?_
          refine lv_iinc (v := (x4 + 2)) (lv' := [(4, .int (x4 + 2)), (0, .ref o), (1, .ref (fa2 0)), (2, .int x2)]) hx hb dX8_carryOutCode_188 hl (k := 3) rfl rfl (by decide) rfl (fun ls hl => ?_)
          refine lv_goto (tgt := 145) hx hb dX8_carryOutCode_191 (by decide) ?_
          exact ih u (St_mk (St_So u2) (St_Ci u2) q3 (St_Ch u2) (St_Lo u2)) x2 (x4 + 2) _ _ hP hD hS _ (lv_sub hl [1, 2, 3, 0] rfl) hF
  have hJ96 : ∀ (u : TxV) (u2 : StV) (x2 : Int32) (x3 : Int32) (H : Heap) (locs : List Loc), va_P E.1 vwCl (bl [[(o, .inr (6, [.ref qa, .ref qb, .int (Tx_length u), .int (Tx_at u), .int (Tx_items u), .int (Tx_faultIndex u), .int (Tx_faultReason u)]))], [(qa, .inl (E.2.2.1, 120, .inl (Tx_signs u)))], [(qb, .inl (E.2.1, 16, .inl (Tx_numbers u)))], [((fa2 0), .inr (5, [.ref (fa2 2), .ref (fa2 4), .ref (fa2 7), .ref (fa2 11), .ref (fa2 1), .int (So_tick (St_So u2)), .int (So_clear (St_So u2)), .int (So_changesBegun (St_So u2))]))], [((fa2 1), .inl (E.2.1, 4, .inl (So_spent (St_So u2))))], Ci_c E (fa2 2) (fa2 3) (St_Ci u2), Fl_c E (fa2 4) (fa2 5) (fa2 6) (St_Fl u2), Ch_c E (fa2 7) (fa2 8) (fa2 9) (fa2 10) (St_Ch u2), Lo_c E (fa2 11) (fa2 12) (fa2 13) (fa2 14) (fa2 15) (fa2 16) (St_Lo u2)]) H → va_D A (bl [[(o, .inr (6, [.ref qa, .ref qb, .int (Tx_length u), .int (Tx_at u), .int (Tx_items u), .int (Tx_faultIndex u), .int (Tx_faultReason u)]))], [(qa, .inl (E.2.2.1, 120, .inl (Tx_signs u)))], [(qb, .inl (E.2.1, 16, .inl (Tx_numbers u)))], [((fa2 0), .inr (5, [.ref (fa2 2), .ref (fa2 4), .ref (fa2 7), .ref (fa2 11), .ref (fa2 1), .int (So_tick (St_So u2)), .int (So_clear (St_So u2)), .int (So_changesBegun (St_So u2))]))], [((fa2 1), .inl (E.2.1, 4, .inl (So_spent (St_So u2))))], Ci_c E (fa2 2) (fa2 3) (St_Ci u2), Fl_c E (fa2 4) (fa2 5) (fa2 6) (St_Fl u2), Ch_c E (fa2 7) (fa2 8) (fa2 9) (fa2 10) (St_Ch u2), Lo_c E (fa2 11) (fa2 12) (fa2 13) (fa2 14) (fa2 15) (fa2 16) (St_Lo u2)]) → va_S A s.heap H locs → ∀ ls : Array Slot, lv_has ls 7 [(0, .ref o), (1, .ref (fa2 0)), (2, .int x2), (3, .int x3)] → F_X8_carryOutCode_J96 n u u2 x2 x3 = some r → W p l e ({ frames := 3, cells := 0, slots := 0, locals := 64 } : Room) s m args below meth cd H locs 0 0 Q (F0 m 96 ls []) := by
    intro u u2 x2 x3 H locs hP hD hS ls hl hF
    unfold F_X8_carryOutCode_J96 at hF
    refine lv_iload_n hx hb dX8_carryOutCode_96 rfl (lv_at hl 2 rfl) ?_
    refine f_if_eq (tgt := 107) hx hb dX8_carryOutCode_97 (by decide) hF (fun hF => ?_) (fun hF => ?_)
    · refine lv_iconst (v := 2) hx hb dX8_carryOutCode_107 (by decide) ?_
      exact g_iret (rvf := fun z => some (.int z.1)) (W1f := fun z => bl [Tx_c E o qa qb z.2.1, St_c E fa2 z.2.2]) hx hb hr hlocks hQ hF rfl hP hD hS [0, 1, 2, 3, 4, 5, 6, 7, 8] rfl rfl dX8_carryOutCode_108
    · refine lv_iload_n hx hb dX8_carryOutCode_100 rfl (lv_at hl 2 rfl) ?_
      refine lv_iconst (v := 2) hx hb dX8_carryOutCode_101 (by decide) ?_
      refine lv_irem hx hb dX8_carryOutCode_102 (by decide) ?_
      refine lv_iconst (v := 1) hx hb dX8_carryOutCode_103 (by decide) ?_
      refine f_icmp_ne (tgt := 109) hx hb dX8_carryOutCode_104 (by decide) hF (fun hF => ?_) (fun hF => ?_)
      · refine lv_iload_n hx hb dX8_carryOutCode_109 rfl (lv_at hl 3 rfl) ?_
        refine f_if_ne (tgt := 115) hx hb dX8_carryOutCode_110 (by decide) hF (fun hF => ?_) (fun hF => ?_)
        · refine lv_iload_n hx hb dX8_carryOutCode_115 rfl (lv_at hl 2 rfl) ?_
          refine lv_bipush (v := 16) hx hb dX8_carryOutCode_116 (by decide) ?_
          refine f_icmp_le (tgt := 123) hx hb dX8_carryOutCode_118 (by decide) hF (fun hF => ?_) (fun hF => ?_)
          · refine lv_aload_n hx hb dX8_carryOutCode_123 rfl (lv_at hl 0 rfl) ?_
            refine lv_bipush (v := 59) hx hb dX8_carryOutCode_124 (by decide) ?_
            obtain ⟨q1, h_q1, hF⟩ := bnd_s hF
            refine g_callV (As := [.int 59]) (rest := []) ⟨hx, hb, hml, hown, hts⟩ hK hZ hA (c_X8_skips l E o qa qb u (59) q1 h_q1) (cwV 1 hts gX8_carryOutCode_X8_skips rfl rfl rfl (by decide +kernel) ⟨Nat.le_of_ble_eq_true rfl, Nat.le_of_ble_eq_true rfl⟩) hP hD hS [0, 1, 2] [3, 4, 5, 6, 7, 8] rfl rfl rfl rfl rfl rfl hl.1 rfl (Nat.le_of_ble_eq_true rfl) dX8_carryOutCode_126 ⟨Nat.le_of_ble_eq_true rfl, Nat.le_of_ble_eq_true rfl⟩ (fun H locs hP hD hS => ?_)
            have hP : va_P E.1 vwCl (bl [[(o, .inr (6, [.ref qa, .ref qb, .int (Tx_length q1.2), .int (Tx_at q1.2), .int (Tx_items q1.2), .int (Tx_faultIndex q1.2), .int (Tx_faultReason q1.2)]))], [(qa, .inl (E.2.2.1, 120, .inl (Tx_signs q1.2)))], [(qb, .inl (E.2.1, 16, .inl (Tx_numbers q1.2)))], [((fa2 0), .inr (5, [.ref (fa2 2), .ref (fa2 4), .ref (fa2 7), .ref (fa2 11), .ref (fa2 1), .int (So_tick (St_So u2)), .int (So_clear (St_So u2)), .int (So_changesBegun (St_So u2))]))], [((fa2 1), .inl (E.2.1, 4, .inl (So_spent (St_So u2))))], Ci_c E (fa2 2) (fa2 3) (St_Ci u2), Fl_c E (fa2 4) (fa2 5) (fa2 6) (St_Fl u2), Ch_c E (fa2 7) (fa2 8) (fa2 9) (fa2 10) (St_Ch u2), Lo_c E (fa2 11) (fa2 12) (fa2 13) (fa2 14) (fa2 15) (fa2 16) (St_Lo u2)]) H := hP
            have hD : va_D A (bl [[(o, .inr (6, [.ref qa, .ref qb, .int (Tx_length q1.2), .int (Tx_at q1.2), .int (Tx_items q1.2), .int (Tx_faultIndex q1.2), .int (Tx_faultReason q1.2)]))], [(qa, .inl (E.2.2.1, 120, .inl (Tx_signs q1.2)))], [(qb, .inl (E.2.1, 16, .inl (Tx_numbers q1.2)))], [((fa2 0), .inr (5, [.ref (fa2 2), .ref (fa2 4), .ref (fa2 7), .ref (fa2 11), .ref (fa2 1), .int (So_tick (St_So u2)), .int (So_clear (St_So u2)), .int (So_changesBegun (St_So u2))]))], [((fa2 1), .inl (E.2.1, 4, .inl (So_spent (St_So u2))))], Ci_c E (fa2 2) (fa2 3) (St_Ci u2), Fl_c E (fa2 4) (fa2 5) (fa2 6) (St_Fl u2), Ch_c E (fa2 7) (fa2 8) (fa2 9) (fa2 10) (St_Ch u2), Lo_c E (fa2 11) (fa2 12) (fa2 13) (fa2 14) (fa2 15) (fa2 16) (St_Lo u2)]) := hD
            refine W.eq (g2 := F0 m 129 ls [.int q1.1]) rfl ?_
            refine f_if_ne (tgt := 135) hx hb dX8_carryOutCode_129 (by decide) hF (fun hF => ?_) (fun hF => ?_)
            · refine lv_aload_n hx hb dX8_carryOutCode_135 rfl (lv_at hl 1 rfl) ?_
              refine g_getN (T := TX7) (N := 8) hx hb hts in_X7 hown hK hP 3 rfl rfl 1 (by decide) w0 rfl rfl dX8_carryOutCode_136 ?_
              obtain ⟨q2, h_q2, hF⟩ := bnd_s hF
              refine g_callV (As := []) (rest := []) ⟨hx, hb, hml, hown, hts⟩ hK hZ hA (c_X4_drop l E (fa2 4) (fa2 5) (fa2 6) (St_Fl u2) q2 h_q2) (cwV 0 hts gX8_carryOutCode_X4_drop rfl rfl rfl (by decide +kernel) ⟨Nat.le_of_ble_eq_true rfl, Nat.le_of_ble_eq_true rfl⟩) hP hD hS [6] [0, 1, 2, 3, 4, 5, 7, 8] rfl rfl rfl rfl rfl rfl hl.1 rfl (Nat.le_of_ble_eq_true rfl) dX8_carryOutCode_139 ⟨Nat.le_of_ble_eq_true rfl, Nat.le_of_ble_eq_true rfl⟩ (fun H locs hP hD hS => ?_)
              have hP : va_P E.1 vwCl (bl [Fl_c E (fa2 4) (fa2 5) (fa2 6) q2, [(o, .inr (6, [.ref qa, .ref qb, .int (Tx_length q1.2), .int (Tx_at q1.2), .int (Tx_items q1.2), .int (Tx_faultIndex q1.2), .int (Tx_faultReason q1.2)]))], [(qa, .inl (E.2.2.1, 120, .inl (Tx_signs q1.2)))], [(qb, .inl (E.2.1, 16, .inl (Tx_numbers q1.2)))], [((fa2 0), .inr (5, [.ref (fa2 2), .ref (fa2 4), .ref (fa2 7), .ref (fa2 11), .ref (fa2 1), .int (So_tick (St_So u2)), .int (So_clear (St_So u2)), .int (So_changesBegun (St_So u2))]))], [((fa2 1), .inl (E.2.1, 4, .inl (So_spent (St_So u2))))], Ci_c E (fa2 2) (fa2 3) (St_Ci u2), Ch_c E (fa2 7) (fa2 8) (fa2 9) (fa2 10) (St_Ch u2), Lo_c E (fa2 11) (fa2 12) (fa2 13) (fa2 14) (fa2 15) (fa2 16) (St_Lo u2)]) H := hP
              have hD : va_D A (bl [Fl_c E (fa2 4) (fa2 5) (fa2 6) q2, [(o, .inr (6, [.ref qa, .ref qb, .int (Tx_length q1.2), .int (Tx_at q1.2), .int (Tx_items q1.2), .int (Tx_faultIndex q1.2), .int (Tx_faultReason q1.2)]))], [(qa, .inl (E.2.2.1, 120, .inl (Tx_signs q1.2)))], [(qb, .inl (E.2.1, 16, .inl (Tx_numbers q1.2)))], [((fa2 0), .inr (5, [.ref (fa2 2), .ref (fa2 4), .ref (fa2 7), .ref (fa2 11), .ref (fa2 1), .int (So_tick (St_So u2)), .int (So_clear (St_So u2)), .int (So_changesBegun (St_So u2))]))], [((fa2 1), .inl (E.2.1, 4, .inl (So_spent (St_So u2))))], Ci_c E (fa2 2) (fa2 3) (St_Ci u2), Ch_c E (fa2 7) (fa2 8) (fa2 9) (fa2 10) (St_Ch u2), Lo_c E (fa2 11) (fa2 12) (fa2 13) (fa2 14) (fa2 15) (fa2 16) (St_Lo u2)]) := hD
              refine W.eq (g2 := F0 m 142 ls []) rfl ?_
              refine lv_iconst (v := 0) hx hb dX8_carryOutCode_142 (by decide) ?_
              refine lv_istore (lv' := [(4, .int 0), (0, .ref o), (1, .ref (fa2 0)), (2, .int x2), (3, .int x3)]) hx hb dX8_carryOutCode_143 hl (by decide) rfl (fun ls hl => ?_)
              exact hL145 n q1.2 (St_mk (St_So u2) (St_Ci u2) q2 (St_Ch u2) (St_Lo u2)) x2 0 _ _ hP hD hS _ (lv_sub hl [1, 2, 3, 0] rfl) hF
            · refine lv_bipush (v := 6) hx hb dX8_carryOutCode_132 (by decide) ?_
              exact g_iret (rvf := fun z => some (.int z.1)) (W1f := fun z => bl [Tx_c E o qa qb z.2.1, St_c E fa2 z.2.2]) hx hb hr hlocks hQ hF rfl hP hD hS [0, 1, 2, 3, 4, 5, 6, 7, 8] rfl rfl dX8_carryOutCode_134
          · refine lv_iconst (v := 5) hx hb dX8_carryOutCode_121 (by decide) ?_
            exact g_iret (rvf := fun z => some (.int z.1)) (W1f := fun z => bl [Tx_c E o qa qb z.2.1, St_c E fa2 z.2.2]) hx hb hr hlocks hQ hF rfl hP hD hS [0, 1, 2, 3, 4, 5, 6, 7, 8] rfl rfl dX8_carryOutCode_122
        · refine lv_iconst (v := 3) hx hb dX8_carryOutCode_113 (by decide) ?_
          exact g_iret (rvf := fun z => some (.int z.1)) (W1f := fun z => bl [Tx_c E o qa qb z.2.1, St_c E fa2 z.2.2]) hx hb hr hlocks hQ hF rfl hP hD hS [0, 1, 2, 3, 4, 5, 6, 7, 8] rfl rfl dX8_carryOutCode_114
      · refine lv_iconst (v := 2) hx hb dX8_carryOutCode_107 (by decide) ?_
        exact g_iret (rvf := fun z => some (.int z.1)) (W1f := fun z => bl [Tx_c E o qa qb z.2.1, St_c E fa2 z.2.2]) hx hb hr hlocks hQ hF rfl hP hD hS [0, 1, 2, 3, 4, 5, 6, 7, 8] rfl rfl dX8_carryOutCode_108
  have hL7 : ∀ (k : Nat) (u : TxV) (u2 : StV) (x2 : Int32) (x3 : Int32) (x4 : Int32) (H : Heap) (locs : List Loc), va_P E.1 vwCl (bl [[(o, .inr (6, [.ref qa, .ref qb, .int (Tx_length u), .int (Tx_at u), .int (Tx_items u), .int (Tx_faultIndex u), .int (Tx_faultReason u)]))], [(qa, .inl (E.2.2.1, 120, .inl (Tx_signs u)))], [(qb, .inl (E.2.1, 16, .inl (Tx_numbers u)))], [((fa2 0), .inr (5, [.ref (fa2 2), .ref (fa2 4), .ref (fa2 7), .ref (fa2 11), .ref (fa2 1), .int (So_tick (St_So u2)), .int (So_clear (St_So u2)), .int (So_changesBegun (St_So u2))]))], [((fa2 1), .inl (E.2.1, 4, .inl (So_spent (St_So u2))))], Ci_c E (fa2 2) (fa2 3) (St_Ci u2), Fl_c E (fa2 4) (fa2 5) (fa2 6) (St_Fl u2), Ch_c E (fa2 7) (fa2 8) (fa2 9) (fa2 10) (St_Ch u2), Lo_c E (fa2 11) (fa2 12) (fa2 13) (fa2 14) (fa2 15) (fa2 16) (St_Lo u2)]) H → va_D A (bl [[(o, .inr (6, [.ref qa, .ref qb, .int (Tx_length u), .int (Tx_at u), .int (Tx_items u), .int (Tx_faultIndex u), .int (Tx_faultReason u)]))], [(qa, .inl (E.2.2.1, 120, .inl (Tx_signs u)))], [(qb, .inl (E.2.1, 16, .inl (Tx_numbers u)))], [((fa2 0), .inr (5, [.ref (fa2 2), .ref (fa2 4), .ref (fa2 7), .ref (fa2 11), .ref (fa2 1), .int (So_tick (St_So u2)), .int (So_clear (St_So u2)), .int (So_changesBegun (St_So u2))]))], [((fa2 1), .inl (E.2.1, 4, .inl (So_spent (St_So u2))))], Ci_c E (fa2 2) (fa2 3) (St_Ci u2), Fl_c E (fa2 4) (fa2 5) (fa2 6) (St_Fl u2), Ch_c E (fa2 7) (fa2 8) (fa2 9) (fa2 10) (St_Ch u2), Lo_c E (fa2 11) (fa2 12) (fa2 13) (fa2 14) (fa2 15) (fa2 16) (St_Lo u2)]) → va_S A s.heap H locs → ∀ ls : Array Slot, lv_has ls 7 [(0, .ref o), (1, .ref (fa2 0)), (2, .int x2), (3, .int x3), (4, .int x4)] → F_X8_carryOutCode_L7 n k u u2 x2 x3 x4 = some r → W p l e ({ frames := 3, cells := 0, slots := 0, locals := 64 } : Room) s m args below meth cd H locs 0 0 Q (F0 m 7 ls []) := by
    intro k
    induction k with
    | zero => intro u u2 x2 x3 x4 H locs hP hD hS ls hl hF; cases hF
    | succ k ih =>
      intro u u2 x2 x3 x4 H locs hP hD hS ls hl hF
      rw [F_X8_carryOutCode_L7] at hF
      refine lv_iload hx hb dX8_carryOutCode_7 (lv_at hl 4 rfl) ?_
      refine lv_bipush (v := 120) hx hb dX8_carryOutCode_9 (by decide) ?_
      refine f_icmp_ge (tgt := 96) hx hb dX8_carryOutCode_11 (by decide) hF (fun hF => ?_) (fun hF => ?_)
      · exact hJ96 u u2 x2 x3 _ _ hP hD hS _ (lv_sub hl [0, 1, 2, 3] rfl) hF
      · refine lv_aload_n hx hb dX8_carryOutCode_14 rfl (lv_at hl 0 rfl) ?_
        refine lv_aload_n hx hb dX8_carryOutCode_15 rfl (lv_at hl 0 rfl) ?_
        refine g_get (T := TX8) (N := 7) hx hb hts in_X8 hown hK hP 0 rfl rfl 3 (by decide) w2 rfl rfl dX8_carryOutCode_16 ?_
        obtain ⟨q4, h_q4, hF⟩ := bnd_s hF
        refine g_callV (As := [.int (Tx_at u)]) (rest := []) ⟨hx, hb, hml, hown, hts⟩ hK hZ hA (c_X8_signAt l E o qa qb u (Tx_at u) q4 h_q4) (cwV 1 hts gX8_carryOutCode_X8_signAt rfl rfl rfl (by decide +kernel) ⟨Nat.le_of_ble_eq_true rfl, Nat.le_of_ble_eq_true rfl⟩) hP hD hS [0, 1, 2] [3, 4, 5, 6, 7, 8] rfl rfl rfl rfl rfl rfl hl.1 rfl (Nat.le_of_ble_eq_true rfl) dX8_carryOutCode_19 ⟨Nat.le_of_ble_eq_true rfl, Nat.le_of_ble_eq_true rfl⟩ (fun H locs hP hD hS => ?_)
        have hP : va_P E.1 vwCl (bl [[(o, .inr (6, [.ref qa, .ref qb, .int (Tx_length u), .int (Tx_at u), .int (Tx_items u), .int (Tx_faultIndex u), .int (Tx_faultReason u)]))], [(qa, .inl (E.2.2.1, 120, .inl (Tx_signs u)))], [(qb, .inl (E.2.1, 16, .inl (Tx_numbers u)))], [((fa2 0), .inr (5, [.ref (fa2 2), .ref (fa2 4), .ref (fa2 7), .ref (fa2 11), .ref (fa2 1), .int (So_tick (St_So u2)), .int (So_clear (St_So u2)), .int (So_changesBegun (St_So u2))]))], [((fa2 1), .inl (E.2.1, 4, .inl (So_spent (St_So u2))))], Ci_c E (fa2 2) (fa2 3) (St_Ci u2), Fl_c E (fa2 4) (fa2 5) (fa2 6) (St_Fl u2), Ch_c E (fa2 7) (fa2 8) (fa2 9) (fa2 10) (St_Ch u2), Lo_c E (fa2 11) (fa2 12) (fa2 13) (fa2 14) (fa2 15) (fa2 16) (St_Lo u2)]) H := hP
        have hD : va_D A (bl [[(o, .inr (6, [.ref qa, .ref qb, .int (Tx_length u), .int (Tx_at u), .int (Tx_items u), .int (Tx_faultIndex u), .int (Tx_faultReason u)]))], [(qa, .inl (E.2.2.1, 120, .inl (Tx_signs u)))], [(qb, .inl (E.2.1, 16, .inl (Tx_numbers u)))], [((fa2 0), .inr (5, [.ref (fa2 2), .ref (fa2 4), .ref (fa2 7), .ref (fa2 11), .ref (fa2 1), .int (So_tick (St_So u2)), .int (So_clear (St_So u2)), .int (So_changesBegun (St_So u2))]))], [((fa2 1), .inl (E.2.1, 4, .inl (So_spent (St_So u2))))], Ci_c E (fa2 2) (fa2 3) (St_Ci u2), Fl_c E (fa2 4) (fa2 5) (fa2 6) (St_Fl u2), Ch_c E (fa2 7) (fa2 8) (fa2 9) (fa2 10) (St_Ch u2), Lo_c E (fa2 11) (fa2 12) (fa2 13) (fa2 14) (fa2 15) (fa2 16) (St_Lo u2)]) := hD
        refine W.eq (g2 := F0 m 22 ls [.int q4]) rfl ?_
        refine lv_bipush (v := 32) hx hb dX8_carryOutCode_22 (by decide) ?_
        refine f_icmp_ne (tgt := 96) hx hb dX8_carryOutCode_24 (by decide) hF (fun hF => ?_) (fun hF => ?_)
        · exact hJ96 u u2 x2 x3 _ _ hP hD hS _ (lv_sub hl [0, 1, 2, 3] rfl) hF
        · refine lv_aload_n hx hb dX8_carryOutCode_27 rfl (lv_at hl 0 rfl) ?_
          obtain ⟨q5, h_q5, hF⟩ := bnd_s hF
          refine g_callV (As := []) (rest := []) ⟨hx, hb, hml, hown, hts⟩ hK hZ hA (c_X8_readNumber l E o qa qb n u q5 h_q5) (cwV 0 hts gX8_carryOutCode_X8_readNumber rfl rfl rfl (by decide +kernel) ⟨Nat.le_of_ble_eq_true rfl, Nat.le_of_ble_eq_true rfl⟩) hP hD hS [0, 1, 2] [3, 4, 5, 6, 7, 8] rfl rfl rfl rfl rfl rfl hl.1 rfl (Nat.le_of_ble_eq_true rfl) dX8_carryOutCode_28 ⟨Nat.le_of_ble_eq_true rfl, Nat.le_of_ble_eq_true rfl⟩ (fun H locs hP hD hS => ?_)
          have hP : va_P E.1 vwCl (bl [[(o, .inr (6, [.ref qa, .ref qb, .int (Tx_length q5.2), .int (Tx_at q5.2), .int (Tx_items q5.2), .int (Tx_faultIndex q5.2), .int (Tx_faultReason q5.2)]))], [(qa, .inl (E.2.2.1, 120, .inl (Tx_signs q5.2)))], [(qb, .inl (E.2.1, 16, .inl (Tx_numbers q5.2)))], [((fa2 0), .inr (5, [.ref (fa2 2), .ref (fa2 4), .ref (fa2 7), .ref (fa2 11), .ref (fa2 1), .int (So_tick (St_So u2)), .int (So_clear (St_So u2)), .int (So_changesBegun (St_So u2))]))], [((fa2 1), .inl (E.2.1, 4, .inl (So_spent (St_So u2))))], Ci_c E (fa2 2) (fa2 3) (St_Ci u2), Fl_c E (fa2 4) (fa2 5) (fa2 6) (St_Fl u2), Ch_c E (fa2 7) (fa2 8) (fa2 9) (fa2 10) (St_Ch u2), Lo_c E (fa2 11) (fa2 12) (fa2 13) (fa2 14) (fa2 15) (fa2 16) (St_Lo u2)]) H := hP
          have hD : va_D A (bl [[(o, .inr (6, [.ref qa, .ref qb, .int (Tx_length q5.2), .int (Tx_at q5.2), .int (Tx_items q5.2), .int (Tx_faultIndex q5.2), .int (Tx_faultReason q5.2)]))], [(qa, .inl (E.2.2.1, 120, .inl (Tx_signs q5.2)))], [(qb, .inl (E.2.1, 16, .inl (Tx_numbers q5.2)))], [((fa2 0), .inr (5, [.ref (fa2 2), .ref (fa2 4), .ref (fa2 7), .ref (fa2 11), .ref (fa2 1), .int (So_tick (St_So u2)), .int (So_clear (St_So u2)), .int (So_changesBegun (St_So u2))]))], [((fa2 1), .inl (E.2.1, 4, .inl (So_spent (St_So u2))))], Ci_c E (fa2 2) (fa2 3) (St_Ci u2), Fl_c E (fa2 4) (fa2 5) (fa2 6) (St_Fl u2), Ch_c E (fa2 7) (fa2 8) (fa2 9) (fa2 10) (St_Ch u2), Lo_c E (fa2 11) (fa2 12) (fa2 13) (fa2 14) (fa2 15) (fa2 16) (St_Lo u2)]) := hD
          refine W.eq (g2 := F0 m 31 ls [.int q5.1]) rfl ?_
          refine lv_istore (lv' := [(5, .int q5.1), (0, .ref o), (1, .ref (fa2 0)), (2, .int x2), (3, .int x3), (4, .int x4)]) hx hb dX8_carryOutCode_31 hl (by decide) rfl (fun ls hl => ?_)
          refine lv_iload hx hb dX8_carryOutCode_33 (lv_at hl 0 rfl) ?_
          refine lv_iconst (v := (-1)) hx hb dX8_carryOutCode_35 (by decide) ?_
          refine f_icmp_ne (tgt := 41) hx hb dX8_carryOutCode_36 (by decide) hF (fun hF => ?_) (fun hF => ?_)
          · refine lv_iload_n hx hb dX8_carryOutCode_41 rfl (lv_at hl 3 rfl) ?_
            refine lv_iconst (v := 2) hx hb dX8_carryOutCode_42 (by decide) ?_
            refine lv_irem hx hb dX8_carryOutCode_43 (by decide) ?_
            refine f_if_ne (tgt := 51) hx hb dX8_carryOutCode_44 (by decide) hF (fun hF => ?_) (fun hF => ?_)
            · refine lv_iconst (v := 0) hx hb dX8_carryOutCode_51 (by decide) ?_
              refine lv_istore (lv' := [(6, .int 0), (5, .int q5.1), (0, .ref o), (1, .ref (fa2 0)), (2, .int x2), (3, .int x3), (4, .int x4)]) hx hb dX8_carryOutCode_52 hl (by decide) rfl (fun ls hl => ?_)
              refine lv_iload hx hb dX8_carryOutCode_54 (lv_at hl 1 rfl) ?_
              refine lv_iload hx hb dX8_carryOutCode_56 (lv_at hl 0 rfl) ?_
              refine f_icmp_lt (tgt := 68) hx hb dX8_carryOutCode_58 (by decide) hF (fun hF => ?_) (fun hF => ?_)
              · refine lv_iconst (v := 0) hx hb dX8_carryOutCode_68 (by decide) ?_
                refine lv_istore_n (lv' := [(3, .int 0), (6, .int 0), (5, .int q5.1), (0, .ref o), (1, .ref (fa2 0)), (2, .int x2), (4, .int x4)]) hx hb dX8_carryOutCode_69 rfl hl (by decide) rfl (fun ls hl => ?_)
                refine lv_iload_n hx hb dX8_carryOutCode_70 rfl (lv_at hl 5 rfl) ?_
                refine lv_aload_n hx hb dX8_carryOutCode_71 rfl (lv_at hl 3 rfl) ?_
                refine g_get (T := TX8) (N := 7) hx hb hts in_X8 hown hK hP 0 rfl rfl 1 (by decide) w1 rfl rfl dX8_carryOutCode_72 ?_
                refine g_alen (v := 16) hx hb hK hP 2 0 rfl rfl rfl dX8_carryOutCode_75 ?_
                refine f_icmp_ge (tgt := 87) hx hb dX8_carryOutCode_76 (by decide) hF (fun hF => ?_) (fun hF => ?_)
                · refine lv_iinc (v := (x2 + 1)) (lv' := [(2, .int (x2 + 1)), (3, .int 0), (6, .int 0), (5, .int q5.1), (0, .ref o), (1, .ref (fa2 0)), (4, .int x4)]) hx hb dX8_carryOutCode_87 hl (k := 5) rfl rfl (by decide) rfl (fun ls hl => ?_)
                  refine lv_iinc (v := (x4 + 1)) (lv' := [(4, .int (x4 + 1)), (2, .int (x2 + 1)), (3, .int 0), (6, .int 0), (5, .int q5.1), (0, .ref o), (1, .ref (fa2 0))]) hx hb dX8_carryOutCode_90 hl (k := 6) rfl rfl (by decide) rfl (fun ls hl => ?_)
                  refine lv_goto (tgt := 7) hx hb dX8_carryOutCode_93 (by decide) ?_
                  exact ih q5.2 u2 (x2 + 1) 0 (x4 + 1) _ _ hP hD hS _ (lv_sub hl [5, 6, 1, 2, 0] rfl) hF
                · refine lv_aload_n hx hb dX8_carryOutCode_79 rfl (lv_at hl 3 rfl) ?_
                  refine g_get (T := TX8) (N := 7) hx hb hts in_X8 hown hK hP 0 rfl rfl 1 (by decide) w1 rfl rfl dX8_carryOutCode_80 ?_
                  refine lv_iload_n hx hb dX8_carryOutCode_83 rfl (lv_at hl 5 rfl) ?_
                  refine lv_iload hx hb dX8_carryOutCode_84 (lv_at hl 2 rfl) ?_
                  refine f_iast hx hb hK hP hD hS 2 rfl hF dX8_carryOutCode_86 (fun hF H locs hP hD hS => ?_)
                  have hP : va_P E.1 vwCl (bl [[(o, .inr (6, [.ref qa, .ref qb, .int (Tx_length q5.2), .int (Tx_at q5.2), .int (Tx_items q5.2), .int (Tx_faultIndex q5.2), .int (Tx_faultReason q5.2)]))], [(qa, .inl (E.2.2.1, 120, .inl (Tx_signs q5.2)))], [(qb, .inl (E.2.1, 16, .inl (upd (Tx_numbers q5.2) x2.toNatClampNeg q5.1)))], [((fa2 0), .inr (5, [.ref (fa2 2), .ref (fa2 4), .ref (fa2 7), .ref (fa2 11), .ref (fa2 1), .int (So_tick (St_So u2)), .int (So_clear (St_So u2)), .int (So_changesBegun (St_So u2))]))], [((fa2 1), .inl (E.2.1, 4, .inl (So_spent (St_So u2))))], Ci_c E (fa2 2) (fa2 3) (St_Ci u2), Fl_c E (fa2 4) (fa2 5) (fa2 6) (St_Fl u2), Ch_c E (fa2 7) (fa2 8) (fa2 9) (fa2 10) (St_Ch u2), Lo_c E (fa2 11) (fa2 12) (fa2 13) (fa2 14) (fa2 15) (fa2 16) (St_Lo u2)]) H := hP
                  have hD : va_D A (bl [[(o, .inr (6, [.ref qa, .ref qb, .int (Tx_length q5.2), .int (Tx_at q5.2), .int (Tx_items q5.2), .int (Tx_faultIndex q5.2), .int (Tx_faultReason q5.2)]))], [(qa, .inl (E.2.2.1, 120, .inl (Tx_signs q5.2)))], [(qb, .inl (E.2.1, 16, .inl (upd (Tx_numbers q5.2) x2.toNatClampNeg q5.1)))], [((fa2 0), .inr (5, [.ref (fa2 2), .ref (fa2 4), .ref (fa2 7), .ref (fa2 11), .ref (fa2 1), .int (So_tick (St_So u2)), .int (So_clear (St_So u2)), .int (So_changesBegun (St_So u2))]))], [((fa2 1), .inl (E.2.1, 4, .inl (So_spent (St_So u2))))], Ci_c E (fa2 2) (fa2 3) (St_Ci u2), Fl_c E (fa2 4) (fa2 5) (fa2 6) (St_Fl u2), Ch_c E (fa2 7) (fa2 8) (fa2 9) (fa2 10) (St_Ch u2), Lo_c E (fa2 11) (fa2 12) (fa2 13) (fa2 14) (fa2 15) (fa2 16) (St_Lo u2)]) := hD
                  refine lv_iinc (v := (x2 + 1)) (lv' := [(2, .int (x2 + 1)), (3, .int 0), (6, .int 0), (5, .int q5.1), (0, .ref o), (1, .ref (fa2 0)), (4, .int x4)]) hx hb dX8_carryOutCode_87 hl (k := 5) rfl rfl (by decide) rfl (fun ls hl => ?_)
                  refine lv_iinc (v := (x4 + 1)) (lv' := [(4, .int (x4 + 1)), (2, .int (x2 + 1)), (3, .int 0), (6, .int 0), (5, .int q5.1), (0, .ref o), (1, .ref (fa2 0))]) hx hb dX8_carryOutCode_90 hl (k := 6) rfl rfl (by decide) rfl (fun ls hl => ?_)
                  refine lv_goto (tgt := 7) hx hb dX8_carryOutCode_93 (by decide) ?_
                  exact ih (Tx_mk (Tx_signs q5.2) (upd (Tx_numbers q5.2) x2.toNatClampNeg q5.1) (Tx_length q5.2) (Tx_at q5.2) (Tx_items q5.2) (Tx_faultIndex q5.2) (Tx_faultReason q5.2)) u2 (x2 + 1) 0 (x4 + 1) _ _ hP hD hS _ (lv_sub hl [5, 6, 1, 2, 0] rfl) hF
              · refine lv_iload hx hb dX8_carryOutCode_61 (lv_at hl 1 rfl) ?_
                refine lv_bipush (v := 60) hx hb dX8_carryOutCode_63 (by decide) ?_
                refine f_icmp_le (tgt := 70) hx hb dX8_carryOutCode_65 (by decide) hF (fun hF => ?_) (fun hF => ?_)
                · refine lv_iload_n hx hb dX8_carryOutCode_70 rfl (lv_at hl 4 rfl) ?_
                  refine lv_aload_n hx hb dX8_carryOutCode_71 rfl (lv_at hl 2 rfl) ?_
                  refine g_get (T := TX8) (N := 7) hx hb hts in_X8 hown hK hP 0 rfl rfl 1 (by decide) w1 rfl rfl dX8_carryOutCode_72 ?_
                  refine g_alen (v := 16) hx hb hK hP 2 0 rfl rfl rfl dX8_carryOutCode_75 ?_
                  refine f_icmp_ge (tgt := 87) hx hb dX8_carryOutCode_76 (by decide) hF (fun hF => ?_) (fun hF => ?_)
                  · refine lv_iinc (v := (x2 + 1)) (lv' := [(2, .int (x2 + 1)), (6, .int 0), (5, .int q5.1), (0, .ref o), (1, .ref (fa2 0)), (3, .int x3), (4, .int x4)]) hx hb dX8_carryOutCode_87 hl (k := 4) rfl rfl (by decide) rfl (fun ls hl => ?_)
                    refine lv_iinc (v := (x4 + 1)) (lv' := [(4, .int (x4 + 1)), (2, .int (x2 + 1)), (6, .int 0), (5, .int q5.1), (0, .ref o), (1, .ref (fa2 0)), (3, .int x3)]) hx hb dX8_carryOutCode_90 hl (k := 6) rfl rfl (by decide) rfl (fun ls hl => ?_)
                    refine lv_goto (tgt := 7) hx hb dX8_carryOutCode_93 (by decide) ?_
                    exact ih q5.2 u2 (x2 + 1) x3 (x4 + 1) _ _ hP hD hS _ (lv_sub hl [4, 5, 1, 6, 0] rfl) hF
                  · refine lv_aload_n hx hb dX8_carryOutCode_79 rfl (lv_at hl 2 rfl) ?_
                    refine g_get (T := TX8) (N := 7) hx hb hts in_X8 hown hK hP 0 rfl rfl 1 (by decide) w1 rfl rfl dX8_carryOutCode_80 ?_
                    refine lv_iload_n hx hb dX8_carryOutCode_83 rfl (lv_at hl 4 rfl) ?_
                    refine lv_iload hx hb dX8_carryOutCode_84 (lv_at hl 1 rfl) ?_
                    refine f_iast hx hb hK hP hD hS 2 rfl hF dX8_carryOutCode_86 (fun hF H locs hP hD hS => ?_)
                    have hP : va_P E.1 vwCl (bl [[(o, .inr (6, [.ref qa, .ref qb, .int (Tx_length q5.2), .int (Tx_at q5.2), .int (Tx_items q5.2), .int (Tx_faultIndex q5.2), .int (Tx_faultReason q5.2)]))], [(qa, .inl (E.2.2.1, 120, .inl (Tx_signs q5.2)))], [(qb, .inl (E.2.1, 16, .inl (upd (Tx_numbers q5.2) x2.toNatClampNeg q5.1)))], [((fa2 0), .inr (5, [.ref (fa2 2), .ref (fa2 4), .ref (fa2 7), .ref (fa2 11), .ref (fa2 1), .int (So_tick (St_So u2)), .int (So_clear (St_So u2)), .int (So_changesBegun (St_So u2))]))], [((fa2 1), .inl (E.2.1, 4, .inl (So_spent (St_So u2))))], Ci_c E (fa2 2) (fa2 3) (St_Ci u2), Fl_c E (fa2 4) (fa2 5) (fa2 6) (St_Fl u2), Ch_c E (fa2 7) (fa2 8) (fa2 9) (fa2 10) (St_Ch u2), Lo_c E (fa2 11) (fa2 12) (fa2 13) (fa2 14) (fa2 15) (fa2 16) (St_Lo u2)]) H := hP
                    have hD : va_D A (bl [[(o, .inr (6, [.ref qa, .ref qb, .int (Tx_length q5.2), .int (Tx_at q5.2), .int (Tx_items q5.2), .int (Tx_faultIndex q5.2), .int (Tx_faultReason q5.2)]))], [(qa, .inl (E.2.2.1, 120, .inl (Tx_signs q5.2)))], [(qb, .inl (E.2.1, 16, .inl (upd (Tx_numbers q5.2) x2.toNatClampNeg q5.1)))], [((fa2 0), .inr (5, [.ref (fa2 2), .ref (fa2 4), .ref (fa2 7), .ref (fa2 11), .ref (fa2 1), .int (So_tick (St_So u2)), .int (So_clear (St_So u2)), .int (So_changesBegun (St_So u2))]))], [((fa2 1), .inl (E.2.1, 4, .inl (So_spent (St_So u2))))], Ci_c E (fa2 2) (fa2 3) (St_Ci u2), Fl_c E (fa2 4) (fa2 5) (fa2 6) (St_Fl u2), Ch_c E (fa2 7) (fa2 8) (fa2 9) (fa2 10) (St_Ch u2), Lo_c E (fa2 11) (fa2 12) (fa2 13) (fa2 14) (fa2 15) (fa2 16) (St_Lo u2)]) := hD
                    refine lv_iinc (v := (x2 + 1)) (lv' := [(2, .int (x2 + 1)), (6, .int 0), (5, .int q5.1), (0, .ref o), (1, .ref (fa2 0)), (3, .int x3), (4, .int x4)]) hx hb dX8_carryOutCode_87 hl (k := 4) rfl rfl (by decide) rfl (fun ls hl => ?_)
                    refine lv_iinc (v := (x4 + 1)) (lv' := [(4, .int (x4 + 1)), (2, .int (x2 + 1)), (6, .int 0), (5, .int q5.1), (0, .ref o), (1, .ref (fa2 0)), (3, .int x3)]) hx hb dX8_carryOutCode_90 hl (k := 6) rfl rfl (by decide) rfl (fun ls hl => ?_)
                    refine lv_goto (tgt := 7) hx hb dX8_carryOutCode_93 (by decide) ?_
                    exact ih (Tx_mk (Tx_signs q5.2) (upd (Tx_numbers q5.2) x2.toNatClampNeg q5.1) (Tx_length q5.2) (Tx_at q5.2) (Tx_items q5.2) (Tx_faultIndex q5.2) (Tx_faultReason q5.2)) u2 (x2 + 1) x3 (x4 + 1) _ _ hP hD hS _ (lv_sub hl [4, 5, 1, 6, 0] rfl) hF
                · refine lv_iconst (v := 0) hx hb dX8_carryOutCode_68 (by decide) ?_
                  refine lv_istore_n (lv' := [(3, .int 0), (6, .int 0), (5, .int q5.1), (0, .ref o), (1, .ref (fa2 0)), (2, .int x2), (4, .int x4)]) hx hb dX8_carryOutCode_69 rfl hl (by decide) rfl (fun ls hl => ?_)
                  refine lv_iload_n hx hb dX8_carryOutCode_70 rfl (lv_at hl 5 rfl) ?_
                  refine lv_aload_n hx hb dX8_carryOutCode_71 rfl (lv_at hl 3 rfl) ?_
                  refine g_get (T := TX8) (N := 7) hx hb hts in_X8 hown hK hP 0 rfl rfl 1 (by decide) w1 rfl rfl dX8_carryOutCode_72 ?_
                  refine g_alen (v := 16) hx hb hK hP 2 0 rfl rfl rfl dX8_carryOutCode_75 ?_
                  refine f_icmp_ge (tgt := 87) hx hb dX8_carryOutCode_76 (by decide) hF (fun hF => ?_) (fun hF => ?_)
                  · refine lv_iinc (v := (x2 + 1)) (lv' := [(2, .int (x2 + 1)), (3, .int 0), (6, .int 0), (5, .int q5.1), (0, .ref o), (1, .ref (fa2 0)), (4, .int x4)]) hx hb dX8_carryOutCode_87 hl (k := 5) rfl rfl (by decide) rfl (fun ls hl => ?_)
                    refine lv_iinc (v := (x4 + 1)) (lv' := [(4, .int (x4 + 1)), (2, .int (x2 + 1)), (3, .int 0), (6, .int 0), (5, .int q5.1), (0, .ref o), (1, .ref (fa2 0))]) hx hb dX8_carryOutCode_90 hl (k := 6) rfl rfl (by decide) rfl (fun ls hl => ?_)
                    refine lv_goto (tgt := 7) hx hb dX8_carryOutCode_93 (by decide) ?_
                    exact ih q5.2 u2 (x2 + 1) 0 (x4 + 1) _ _ hP hD hS _ (lv_sub hl [5, 6, 1, 2, 0] rfl) hF
                  · refine lv_aload_n hx hb dX8_carryOutCode_79 rfl (lv_at hl 3 rfl) ?_
                    refine g_get (T := TX8) (N := 7) hx hb hts in_X8 hown hK hP 0 rfl rfl 1 (by decide) w1 rfl rfl dX8_carryOutCode_80 ?_
                    refine lv_iload_n hx hb dX8_carryOutCode_83 rfl (lv_at hl 5 rfl) ?_
                    refine lv_iload hx hb dX8_carryOutCode_84 (lv_at hl 2 rfl) ?_
                    refine f_iast hx hb hK hP hD hS 2 rfl hF dX8_carryOutCode_86 (fun hF H locs hP hD hS => ?_)
                    have hP : va_P E.1 vwCl (bl [[(o, .inr (6, [.ref qa, .ref qb, .int (Tx_length q5.2), .int (Tx_at q5.2), .int (Tx_items q5.2), .int (Tx_faultIndex q5.2), .int (Tx_faultReason q5.2)]))], [(qa, .inl (E.2.2.1, 120, .inl (Tx_signs q5.2)))], [(qb, .inl (E.2.1, 16, .inl (upd (Tx_numbers q5.2) x2.toNatClampNeg q5.1)))], [((fa2 0), .inr (5, [.ref (fa2 2), .ref (fa2 4), .ref (fa2 7), .ref (fa2 11), .ref (fa2 1), .int (So_tick (St_So u2)), .int (So_clear (St_So u2)), .int (So_changesBegun (St_So u2))]))], [((fa2 1), .inl (E.2.1, 4, .inl (So_spent (St_So u2))))], Ci_c E (fa2 2) (fa2 3) (St_Ci u2), Fl_c E (fa2 4) (fa2 5) (fa2 6) (St_Fl u2), Ch_c E (fa2 7) (fa2 8) (fa2 9) (fa2 10) (St_Ch u2), Lo_c E (fa2 11) (fa2 12) (fa2 13) (fa2 14) (fa2 15) (fa2 16) (St_Lo u2)]) H := hP
                    have hD : va_D A (bl [[(o, .inr (6, [.ref qa, .ref qb, .int (Tx_length q5.2), .int (Tx_at q5.2), .int (Tx_items q5.2), .int (Tx_faultIndex q5.2), .int (Tx_faultReason q5.2)]))], [(qa, .inl (E.2.2.1, 120, .inl (Tx_signs q5.2)))], [(qb, .inl (E.2.1, 16, .inl (upd (Tx_numbers q5.2) x2.toNatClampNeg q5.1)))], [((fa2 0), .inr (5, [.ref (fa2 2), .ref (fa2 4), .ref (fa2 7), .ref (fa2 11), .ref (fa2 1), .int (So_tick (St_So u2)), .int (So_clear (St_So u2)), .int (So_changesBegun (St_So u2))]))], [((fa2 1), .inl (E.2.1, 4, .inl (So_spent (St_So u2))))], Ci_c E (fa2 2) (fa2 3) (St_Ci u2), Fl_c E (fa2 4) (fa2 5) (fa2 6) (St_Fl u2), Ch_c E (fa2 7) (fa2 8) (fa2 9) (fa2 10) (St_Ch u2), Lo_c E (fa2 11) (fa2 12) (fa2 13) (fa2 14) (fa2 15) (fa2 16) (St_Lo u2)]) := hD
                    refine lv_iinc (v := (x2 + 1)) (lv' := [(2, .int (x2 + 1)), (3, .int 0), (6, .int 0), (5, .int q5.1), (0, .ref o), (1, .ref (fa2 0)), (4, .int x4)]) hx hb dX8_carryOutCode_87 hl (k := 5) rfl rfl (by decide) rfl (fun ls hl => ?_)
                    refine lv_iinc (v := (x4 + 1)) (lv' := [(4, .int (x4 + 1)), (2, .int (x2 + 1)), (3, .int 0), (6, .int 0), (5, .int q5.1), (0, .ref o), (1, .ref (fa2 0))]) hx hb dX8_carryOutCode_90 hl (k := 6) rfl rfl (by decide) rfl (fun ls hl => ?_)
                    refine lv_goto (tgt := 7) hx hb dX8_carryOutCode_93 (by decide) ?_
                    exact ih (Tx_mk (Tx_signs q5.2) (upd (Tx_numbers q5.2) x2.toNatClampNeg q5.1) (Tx_length q5.2) (Tx_at q5.2) (Tx_items q5.2) (Tx_faultIndex q5.2) (Tx_faultReason q5.2)) u2 (x2 + 1) 0 (x4 + 1) _ _ hP hD hS _ (lv_sub hl [5, 6, 1, 2, 0] rfl) hF
            · refine lv_iconst (v := 1) hx hb dX8_carryOutCode_47 (by decide) ?_
              refine lv_goto (tgt := 52) hx hb dX8_carryOutCode_48 (by decide) ?_
              refine lv_istore (lv' := [(6, .int 1), (5, .int q5.1), (0, .ref o), (1, .ref (fa2 0)), (2, .int x2), (3, .int x3), (4, .int x4)]) hx hb dX8_carryOutCode_52 hl (by decide) rfl (fun ls hl => ?_)
              refine lv_iload hx hb dX8_carryOutCode_54 (lv_at hl 1 rfl) ?_
              refine lv_iload hx hb dX8_carryOutCode_56 (lv_at hl 0 rfl) ?_
              refine f_icmp_lt (tgt := 68) hx hb dX8_carryOutCode_58 (by decide) hF (fun hF => ?_) (fun hF => ?_)
              · refine lv_iconst (v := 0) hx hb dX8_carryOutCode_68 (by decide) ?_
                refine lv_istore_n (lv' := [(3, .int 0), (6, .int 1), (5, .int q5.1), (0, .ref o), (1, .ref (fa2 0)), (2, .int x2), (4, .int x4)]) hx hb dX8_carryOutCode_69 rfl hl (by decide) rfl (fun ls hl => ?_)
                refine lv_iload_n hx hb dX8_carryOutCode_70 rfl (lv_at hl 5 rfl) ?_
                refine lv_aload_n hx hb dX8_carryOutCode_71 rfl (lv_at hl 3 rfl) ?_
                refine g_get (T := TX8) (N := 7) hx hb hts in_X8 hown hK hP 0 rfl rfl 1 (by decide) w1 rfl rfl dX8_carryOutCode_72 ?_
                refine g_alen (v := 16) hx hb hK hP 2 0 rfl rfl rfl dX8_carryOutCode_75 ?_
                refine f_icmp_ge (tgt := 87) hx hb dX8_carryOutCode_76 (by decide) hF (fun hF => ?_) (fun hF => ?_)
                · refine lv_iinc (v := (x2 + 1)) (lv' := [(2, .int (x2 + 1)), (3, .int 0), (6, .int 1), (5, .int q5.1), (0, .ref o), (1, .ref (fa2 0)), (4, .int x4)]) hx hb dX8_carryOutCode_87 hl (k := 5) rfl rfl (by decide) rfl (fun ls hl => ?_)
                  refine lv_iinc (v := (x4 + 1)) (lv' := [(4, .int (x4 + 1)), (2, .int (x2 + 1)), (3, .int 0), (6, .int 1), (5, .int q5.1), (0, .ref o), (1, .ref (fa2 0))]) hx hb dX8_carryOutCode_90 hl (k := 6) rfl rfl (by decide) rfl (fun ls hl => ?_)
                  refine lv_goto (tgt := 7) hx hb dX8_carryOutCode_93 (by decide) ?_
                  exact ih q5.2 u2 (x2 + 1) 0 (x4 + 1) _ _ hP hD hS _ (lv_sub hl [5, 6, 1, 2, 0] rfl) hF
                · refine lv_aload_n hx hb dX8_carryOutCode_79 rfl (lv_at hl 3 rfl) ?_
                  refine g_get (T := TX8) (N := 7) hx hb hts in_X8 hown hK hP 0 rfl rfl 1 (by decide) w1 rfl rfl dX8_carryOutCode_80 ?_
                  refine lv_iload_n hx hb dX8_carryOutCode_83 rfl (lv_at hl 5 rfl) ?_
                  refine lv_iload hx hb dX8_carryOutCode_84 (lv_at hl 2 rfl) ?_
                  refine f_iast hx hb hK hP hD hS 2 rfl hF dX8_carryOutCode_86 (fun hF H locs hP hD hS => ?_)
                  have hP : va_P E.1 vwCl (bl [[(o, .inr (6, [.ref qa, .ref qb, .int (Tx_length q5.2), .int (Tx_at q5.2), .int (Tx_items q5.2), .int (Tx_faultIndex q5.2), .int (Tx_faultReason q5.2)]))], [(qa, .inl (E.2.2.1, 120, .inl (Tx_signs q5.2)))], [(qb, .inl (E.2.1, 16, .inl (upd (Tx_numbers q5.2) x2.toNatClampNeg q5.1)))], [((fa2 0), .inr (5, [.ref (fa2 2), .ref (fa2 4), .ref (fa2 7), .ref (fa2 11), .ref (fa2 1), .int (So_tick (St_So u2)), .int (So_clear (St_So u2)), .int (So_changesBegun (St_So u2))]))], [((fa2 1), .inl (E.2.1, 4, .inl (So_spent (St_So u2))))], Ci_c E (fa2 2) (fa2 3) (St_Ci u2), Fl_c E (fa2 4) (fa2 5) (fa2 6) (St_Fl u2), Ch_c E (fa2 7) (fa2 8) (fa2 9) (fa2 10) (St_Ch u2), Lo_c E (fa2 11) (fa2 12) (fa2 13) (fa2 14) (fa2 15) (fa2 16) (St_Lo u2)]) H := hP
                  have hD : va_D A (bl [[(o, .inr (6, [.ref qa, .ref qb, .int (Tx_length q5.2), .int (Tx_at q5.2), .int (Tx_items q5.2), .int (Tx_faultIndex q5.2), .int (Tx_faultReason q5.2)]))], [(qa, .inl (E.2.2.1, 120, .inl (Tx_signs q5.2)))], [(qb, .inl (E.2.1, 16, .inl (upd (Tx_numbers q5.2) x2.toNatClampNeg q5.1)))], [((fa2 0), .inr (5, [.ref (fa2 2), .ref (fa2 4), .ref (fa2 7), .ref (fa2 11), .ref (fa2 1), .int (So_tick (St_So u2)), .int (So_clear (St_So u2)), .int (So_changesBegun (St_So u2))]))], [((fa2 1), .inl (E.2.1, 4, .inl (So_spent (St_So u2))))], Ci_c E (fa2 2) (fa2 3) (St_Ci u2), Fl_c E (fa2 4) (fa2 5) (fa2 6) (St_Fl u2), Ch_c E (fa2 7) (fa2 8) (fa2 9) (fa2 10) (St_Ch u2), Lo_c E (fa2 11) (fa2 12) (fa2 13) (fa2 14) (fa2 15) (fa2 16) (St_Lo u2)]) := hD
                  refine lv_iinc (v := (x2 + 1)) (lv' := [(2, .int (x2 + 1)), (3, .int 0), (6, .int 1), (5, .int q5.1), (0, .ref o), (1, .ref (fa2 0)), (4, .int x4)]) hx hb dX8_carryOutCode_87 hl (k := 5) rfl rfl (by decide) rfl (fun ls hl => ?_)
                  refine lv_iinc (v := (x4 + 1)) (lv' := [(4, .int (x4 + 1)), (2, .int (x2 + 1)), (3, .int 0), (6, .int 1), (5, .int q5.1), (0, .ref o), (1, .ref (fa2 0))]) hx hb dX8_carryOutCode_90 hl (k := 6) rfl rfl (by decide) rfl (fun ls hl => ?_)
                  refine lv_goto (tgt := 7) hx hb dX8_carryOutCode_93 (by decide) ?_
                  exact ih (Tx_mk (Tx_signs q5.2) (upd (Tx_numbers q5.2) x2.toNatClampNeg q5.1) (Tx_length q5.2) (Tx_at q5.2) (Tx_items q5.2) (Tx_faultIndex q5.2) (Tx_faultReason q5.2)) u2 (x2 + 1) 0 (x4 + 1) _ _ hP hD hS _ (lv_sub hl [5, 6, 1, 2, 0] rfl) hF
              · refine lv_iload hx hb dX8_carryOutCode_61 (lv_at hl 1 rfl) ?_
                refine lv_bipush (v := 60) hx hb dX8_carryOutCode_63 (by decide) ?_
                refine f_icmp_le (tgt := 70) hx hb dX8_carryOutCode_65 (by decide) hF (fun hF => ?_) (fun hF => ?_)
                · refine lv_iload_n hx hb dX8_carryOutCode_70 rfl (lv_at hl 4 rfl) ?_
                  refine lv_aload_n hx hb dX8_carryOutCode_71 rfl (lv_at hl 2 rfl) ?_
                  refine g_get (T := TX8) (N := 7) hx hb hts in_X8 hown hK hP 0 rfl rfl 1 (by decide) w1 rfl rfl dX8_carryOutCode_72 ?_
                  refine g_alen (v := 16) hx hb hK hP 2 0 rfl rfl rfl dX8_carryOutCode_75 ?_
                  refine f_icmp_ge (tgt := 87) hx hb dX8_carryOutCode_76 (by decide) hF (fun hF => ?_) (fun hF => ?_)
                  · refine lv_iinc (v := (x2 + 1)) (lv' := [(2, .int (x2 + 1)), (6, .int 1), (5, .int q5.1), (0, .ref o), (1, .ref (fa2 0)), (3, .int x3), (4, .int x4)]) hx hb dX8_carryOutCode_87 hl (k := 4) rfl rfl (by decide) rfl (fun ls hl => ?_)
                    refine lv_iinc (v := (x4 + 1)) (lv' := [(4, .int (x4 + 1)), (2, .int (x2 + 1)), (6, .int 1), (5, .int q5.1), (0, .ref o), (1, .ref (fa2 0)), (3, .int x3)]) hx hb dX8_carryOutCode_90 hl (k := 6) rfl rfl (by decide) rfl (fun ls hl => ?_)
                    refine lv_goto (tgt := 7) hx hb dX8_carryOutCode_93 (by decide) ?_
                    exact ih q5.2 u2 (x2 + 1) x3 (x4 + 1) _ _ hP hD hS _ (lv_sub hl [4, 5, 1, 6, 0] rfl) hF
                  · refine lv_aload_n hx hb dX8_carryOutCode_79 rfl (lv_at hl 2 rfl) ?_
                    refine g_get (T := TX8) (N := 7) hx hb hts in_X8 hown hK hP 0 rfl rfl 1 (by decide) w1 rfl rfl dX8_carryOutCode_80 ?_
                    refine lv_iload_n hx hb dX8_carryOutCode_83 rfl (lv_at hl 4 rfl) ?_
                    refine lv_iload hx hb dX8_carryOutCode_84 (lv_at hl 1 rfl) ?_
                    refine f_iast hx hb hK hP hD hS 2 rfl hF dX8_carryOutCode_86 (fun hF H locs hP hD hS => ?_)
                    have hP : va_P E.1 vwCl (bl [[(o, .inr (6, [.ref qa, .ref qb, .int (Tx_length q5.2), .int (Tx_at q5.2), .int (Tx_items q5.2), .int (Tx_faultIndex q5.2), .int (Tx_faultReason q5.2)]))], [(qa, .inl (E.2.2.1, 120, .inl (Tx_signs q5.2)))], [(qb, .inl (E.2.1, 16, .inl (upd (Tx_numbers q5.2) x2.toNatClampNeg q5.1)))], [((fa2 0), .inr (5, [.ref (fa2 2), .ref (fa2 4), .ref (fa2 7), .ref (fa2 11), .ref (fa2 1), .int (So_tick (St_So u2)), .int (So_clear (St_So u2)), .int (So_changesBegun (St_So u2))]))], [((fa2 1), .inl (E.2.1, 4, .inl (So_spent (St_So u2))))], Ci_c E (fa2 2) (fa2 3) (St_Ci u2), Fl_c E (fa2 4) (fa2 5) (fa2 6) (St_Fl u2), Ch_c E (fa2 7) (fa2 8) (fa2 9) (fa2 10) (St_Ch u2), Lo_c E (fa2 11) (fa2 12) (fa2 13) (fa2 14) (fa2 15) (fa2 16) (St_Lo u2)]) H := hP
                    have hD : va_D A (bl [[(o, .inr (6, [.ref qa, .ref qb, .int (Tx_length q5.2), .int (Tx_at q5.2), .int (Tx_items q5.2), .int (Tx_faultIndex q5.2), .int (Tx_faultReason q5.2)]))], [(qa, .inl (E.2.2.1, 120, .inl (Tx_signs q5.2)))], [(qb, .inl (E.2.1, 16, .inl (upd (Tx_numbers q5.2) x2.toNatClampNeg q5.1)))], [((fa2 0), .inr (5, [.ref (fa2 2), .ref (fa2 4), .ref (fa2 7), .ref (fa2 11), .ref (fa2 1), .int (So_tick (St_So u2)), .int (So_clear (St_So u2)), .int (So_changesBegun (St_So u2))]))], [((fa2 1), .inl (E.2.1, 4, .inl (So_spent (St_So u2))))], Ci_c E (fa2 2) (fa2 3) (St_Ci u2), Fl_c E (fa2 4) (fa2 5) (fa2 6) (St_Fl u2), Ch_c E (fa2 7) (fa2 8) (fa2 9) (fa2 10) (St_Ch u2), Lo_c E (fa2 11) (fa2 12) (fa2 13) (fa2 14) (fa2 15) (fa2 16) (St_Lo u2)]) := hD
                    refine lv_iinc (v := (x2 + 1)) (lv' := [(2, .int (x2 + 1)), (6, .int 1), (5, .int q5.1), (0, .ref o), (1, .ref (fa2 0)), (3, .int x3), (4, .int x4)]) hx hb dX8_carryOutCode_87 hl (k := 4) rfl rfl (by decide) rfl (fun ls hl => ?_)
                    refine lv_iinc (v := (x4 + 1)) (lv' := [(4, .int (x4 + 1)), (2, .int (x2 + 1)), (6, .int 1), (5, .int q5.1), (0, .ref o), (1, .ref (fa2 0)), (3, .int x3)]) hx hb dX8_carryOutCode_90 hl (k := 6) rfl rfl (by decide) rfl (fun ls hl => ?_)
                    refine lv_goto (tgt := 7) hx hb dX8_carryOutCode_93 (by decide) ?_
                    exact ih (Tx_mk (Tx_signs q5.2) (upd (Tx_numbers q5.2) x2.toNatClampNeg q5.1) (Tx_length q5.2) (Tx_at q5.2) (Tx_items q5.2) (Tx_faultIndex q5.2) (Tx_faultReason q5.2)) u2 (x2 + 1) x3 (x4 + 1) _ _ hP hD hS _ (lv_sub hl [4, 5, 1, 6, 0] rfl) hF
                · refine lv_iconst (v := 0) hx hb dX8_carryOutCode_68 (by decide) ?_
                  refine lv_istore_n (lv' := [(3, .int 0), (6, .int 1), (5, .int q5.1), (0, .ref o), (1, .ref (fa2 0)), (2, .int x2), (4, .int x4)]) hx hb dX8_carryOutCode_69 rfl hl (by decide) rfl (fun ls hl => ?_)
                  refine lv_iload_n hx hb dX8_carryOutCode_70 rfl (lv_at hl 5 rfl) ?_
                  refine lv_aload_n hx hb dX8_carryOutCode_71 rfl (lv_at hl 3 rfl) ?_
                  refine g_get (T := TX8) (N := 7) hx hb hts in_X8 hown hK hP 0 rfl rfl 1 (by decide) w1 rfl rfl dX8_carryOutCode_72 ?_
                  refine g_alen (v := 16) hx hb hK hP 2 0 rfl rfl rfl dX8_carryOutCode_75 ?_
                  refine f_icmp_ge (tgt := 87) hx hb dX8_carryOutCode_76 (by decide) hF (fun hF => ?_) (fun hF => ?_)
                  · refine lv_iinc (v := (x2 + 1)) (lv' := [(2, .int (x2 + 1)), (3, .int 0), (6, .int 1), (5, .int q5.1), (0, .ref o), (1, .ref (fa2 0)), (4, .int x4)]) hx hb dX8_carryOutCode_87 hl (k := 5) rfl rfl (by decide) rfl (fun ls hl => ?_)
                    refine lv_iinc (v := (x4 + 1)) (lv' := [(4, .int (x4 + 1)), (2, .int (x2 + 1)), (3, .int 0), (6, .int 1), (5, .int q5.1), (0, .ref o), (1, .ref (fa2 0))]) hx hb dX8_carryOutCode_90 hl (k := 6) rfl rfl (by decide) rfl (fun ls hl => ?_)
                    refine lv_goto (tgt := 7) hx hb dX8_carryOutCode_93 (by decide) ?_
                    exact ih q5.2 u2 (x2 + 1) 0 (x4 + 1) _ _ hP hD hS _ (lv_sub hl [5, 6, 1, 2, 0] rfl) hF
                  · refine lv_aload_n hx hb dX8_carryOutCode_79 rfl (lv_at hl 3 rfl) ?_
                    refine g_get (T := TX8) (N := 7) hx hb hts in_X8 hown hK hP 0 rfl rfl 1 (by decide) w1 rfl rfl dX8_carryOutCode_80 ?_
                    refine lv_iload_n hx hb dX8_carryOutCode_83 rfl (lv_at hl 5 rfl) ?_
                    refine lv_iload hx hb dX8_carryOutCode_84 (lv_at hl 2 rfl) ?_
                    refine f_iast hx hb hK hP hD hS 2 rfl hF dX8_carryOutCode_86 (fun hF H locs hP hD hS => ?_)
                    have hP : va_P E.1 vwCl (bl [[(o, .inr (6, [.ref qa, .ref qb, .int (Tx_length q5.2), .int (Tx_at q5.2), .int (Tx_items q5.2), .int (Tx_faultIndex q5.2), .int (Tx_faultReason q5.2)]))], [(qa, .inl (E.2.2.1, 120, .inl (Tx_signs q5.2)))], [(qb, .inl (E.2.1, 16, .inl (upd (Tx_numbers q5.2) x2.toNatClampNeg q5.1)))], [((fa2 0), .inr (5, [.ref (fa2 2), .ref (fa2 4), .ref (fa2 7), .ref (fa2 11), .ref (fa2 1), .int (So_tick (St_So u2)), .int (So_clear (St_So u2)), .int (So_changesBegun (St_So u2))]))], [((fa2 1), .inl (E.2.1, 4, .inl (So_spent (St_So u2))))], Ci_c E (fa2 2) (fa2 3) (St_Ci u2), Fl_c E (fa2 4) (fa2 5) (fa2 6) (St_Fl u2), Ch_c E (fa2 7) (fa2 8) (fa2 9) (fa2 10) (St_Ch u2), Lo_c E (fa2 11) (fa2 12) (fa2 13) (fa2 14) (fa2 15) (fa2 16) (St_Lo u2)]) H := hP
                    have hD : va_D A (bl [[(o, .inr (6, [.ref qa, .ref qb, .int (Tx_length q5.2), .int (Tx_at q5.2), .int (Tx_items q5.2), .int (Tx_faultIndex q5.2), .int (Tx_faultReason q5.2)]))], [(qa, .inl (E.2.2.1, 120, .inl (Tx_signs q5.2)))], [(qb, .inl (E.2.1, 16, .inl (upd (Tx_numbers q5.2) x2.toNatClampNeg q5.1)))], [((fa2 0), .inr (5, [.ref (fa2 2), .ref (fa2 4), .ref (fa2 7), .ref (fa2 11), .ref (fa2 1), .int (So_tick (St_So u2)), .int (So_clear (St_So u2)), .int (So_changesBegun (St_So u2))]))], [((fa2 1), .inl (E.2.1, 4, .inl (So_spent (St_So u2))))], Ci_c E (fa2 2) (fa2 3) (St_Ci u2), Fl_c E (fa2 4) (fa2 5) (fa2 6) (St_Fl u2), Ch_c E (fa2 7) (fa2 8) (fa2 9) (fa2 10) (St_Ch u2), Lo_c E (fa2 11) (fa2 12) (fa2 13) (fa2 14) (fa2 15) (fa2 16) (St_Lo u2)]) := hD
                    refine lv_iinc (v := (x2 + 1)) (lv' := [(2, .int (x2 + 1)), (3, .int 0), (6, .int 1), (5, .int q5.1), (0, .ref o), (1, .ref (fa2 0)), (4, .int x4)]) hx hb dX8_carryOutCode_87 hl (k := 5) rfl rfl (by decide) rfl (fun ls hl => ?_)
                    refine lv_iinc (v := (x4 + 1)) (lv' := [(4, .int (x4 + 1)), (2, .int (x2 + 1)), (3, .int 0), (6, .int 1), (5, .int q5.1), (0, .ref o), (1, .ref (fa2 0))]) hx hb dX8_carryOutCode_90 hl (k := 6) rfl rfl (by decide) rfl (fun ls hl => ?_)
                    refine lv_goto (tgt := 7) hx hb dX8_carryOutCode_93 (by decide) ?_
                    exact ih (Tx_mk (Tx_signs q5.2) (upd (Tx_numbers q5.2) x2.toNatClampNeg q5.1) (Tx_length q5.2) (Tx_at q5.2) (Tx_items q5.2) (Tx_faultIndex q5.2) (Tx_faultReason q5.2)) u2 (x2 + 1) 0 (x4 + 1) _ _ hP hD hS _ (lv_sub hl [5, 6, 1, 2, 0] rfl) hF
          · refine lv_iconst (v := 2) hx hb dX8_carryOutCode_39 (by decide) ?_
            exact g_iret (rvf := fun z => some (.int z.1)) (W1f := fun z => bl [Tx_c E o qa qb z.2.1, St_c E fa2 z.2.2]) hx hb hr hlocks hQ hF rfl hP hD hS [0, 1, 2, 3, 4, 5, 6, 7, 8] rfl rfl dX8_carryOutCode_40
  unfold F_X8_carryOutCode at hF
  refine lv_iconst (v := 0) hx hb dX8_carryOutCode_0 (by decide) ?_
  refine lv_istore_n (lv' := [(2, .int 0), (0, .ref o), (1, .ref (fa2 0))]) hx hb dX8_carryOutCode_1 rfl hl (by decide) rfl (fun ls hl => ?_)
  refine lv_iconst (v := 1) hx hb dX8_carryOutCode_2 (by decide) ?_
  refine lv_istore_n (lv' := [(3, .int 1), (2, .int 0), (0, .ref o), (1, .ref (fa2 0))]) hx hb dX8_carryOutCode_3 rfl hl (by decide) rfl (fun ls hl => ?_)
  refine lv_iconst (v := 0) hx hb dX8_carryOutCode_4 (by decide) ?_
  refine lv_istore (lv' := [(4, .int 0), (3, .int 1), (2, .int 0), (0, .ref o), (1, .ref (fa2 0))]) hx hb dX8_carryOutCode_5 hl (by decide) rfl (fun ls hl => ?_)
  exact hL7 n v v2 0 1 0 _ _ hP hD hS _ (lv_sub hl [3, 4, 2, 1, 0] rfl) hF
def F_X8_readEither (n : Nat) (v : TxV) (p0 : Nat) (p1 : Nat) : Option (Int32 × TxV) := (F_X8_skips v 32).bind fun q1 => if q1.1 = 0 then some ((-1), q1.2) else (F_X8_skipLetters n q1.2).bind fun q2 => (F_X8_isWord n q2 (Tx_at q1.2) p0).bind fun q3 => if q3 = 0 then (F_X8_isWord n q2 (Tx_at q1.2) p1).bind fun q4 => if q4 = 0 then some ((-1), q2) else some (1, q2) else some (0, q2)
set_option maxHeartbeats 4000000 in
set_option maxRecDepth 100000 in
theorem c_X8_readEither (l : Launch) (E : GE) (o : Nat) (qa : Nat) (qb : Nat) (n : Nat) (v : TxV) (p0 : Nat) (p1 : Nat) (r : Int32 × TxV) (hF : F_X8_readEither n v p0 p1 = some r) : CT l E yX8_readEither wsX8_readEither ({ frames := 7, cells := 0, slots := 0, locals := 174 } : Room) [.ref o, .ref (E.2.2.2.2.2.1 p0), .ref (E.2.2.2.2.2.1 p1)] (bl [Tx_c E o qa qb v]) (some (.int r.1)) (bl [Tx_c E o qa qb r.2]) 0 0 := by
  refine CT.of (cc := cX8_readEither) (maxL := 4) (ret := (some .int)) (by decide) rfl (Nat.le_of_ble_eq_true rfl) ?_
  intro p e s m args below meth cd A Q ls B hQ hP hD hS hl
  obtain ⟨hx, hb, hml, hown, hts, hr, hlocks, hK, hZ, hA, hnm⟩ := B
  have hown : s.vm.findClass RX8 = some m.cls := hown
  have hl : lv_has ls 4 [(0, .ref o), (1, .ref (E.2.2.2.2.2.1 p0)), (2, .ref (E.2.2.2.2.2.1 p1))] := hl
  have w0 := hts (.fieldLink RX8 25 "HarborLight$Text" "at" "I") (by decide +kernel)
  have in_X8 : ∀ w ∈ wsX80, w ∈ wsX8_readEither := by decide +kernel
  have hP : va_P E.1 vwCl (bl [[(o, .inr (6, [.ref qa, .ref qb, .int (Tx_length v), .int (Tx_at v), .int (Tx_items v), .int (Tx_faultIndex v), .int (Tx_faultReason v)]))], [(qa, .inl (E.2.2.1, 120, .inl (Tx_signs v)))], [(qb, .inl (E.2.1, 16, .inl (Tx_numbers v)))]]) s.heap := hP
  have hD : va_D A (bl [[(o, .inr (6, [.ref qa, .ref qb, .int (Tx_length v), .int (Tx_at v), .int (Tx_items v), .int (Tx_faultIndex v), .int (Tx_faultReason v)]))], [(qa, .inl (E.2.2.1, 120, .inl (Tx_signs v)))], [(qb, .inl (E.2.1, 16, .inl (Tx_numbers v)))]]) := hD
  unfold F_X8_readEither at hF
  refine lv_aload_n hx hb dX8_readEither_0 rfl (lv_at hl 0 rfl) ?_
  refine lv_bipush (v := 32) hx hb dX8_readEither_1 (by decide) ?_
  obtain ⟨q1, h_q1, hF⟩ := bnd_s hF
  refine g_callV (As := [.int 32]) (rest := []) ⟨hx, hb, hml, hown, hts⟩ hK hZ hA (c_X8_skips l E o qa qb v (32) q1 h_q1) (cwV 1 hts gX8_readEither_X8_skips rfl rfl rfl (by decide +kernel) ⟨Nat.le_of_ble_eq_true rfl, Nat.le_of_ble_eq_true rfl⟩) hP hD hS [0, 1, 2] [] rfl rfl rfl rfl rfl rfl hl.1 rfl (Nat.le_of_ble_eq_true rfl) dX8_readEither_3 ⟨Nat.le_of_ble_eq_true rfl, Nat.le_of_ble_eq_true rfl⟩ (fun H locs hP hD hS => ?_)
  have hP : va_P E.1 vwCl (bl [[(o, .inr (6, [.ref qa, .ref qb, .int (Tx_length q1.2), .int (Tx_at q1.2), .int (Tx_items q1.2), .int (Tx_faultIndex q1.2), .int (Tx_faultReason q1.2)]))], [(qa, .inl (E.2.2.1, 120, .inl (Tx_signs q1.2)))], [(qb, .inl (E.2.1, 16, .inl (Tx_numbers q1.2)))]]) H := hP
  have hD : va_D A (bl [[(o, .inr (6, [.ref qa, .ref qb, .int (Tx_length q1.2), .int (Tx_at q1.2), .int (Tx_items q1.2), .int (Tx_faultIndex q1.2), .int (Tx_faultReason q1.2)]))], [(qa, .inl (E.2.2.1, 120, .inl (Tx_signs q1.2)))], [(qb, .inl (E.2.1, 16, .inl (Tx_numbers q1.2)))]]) := hD
  refine W.eq (g2 := F0 m 6 ls [.int q1.1]) rfl ?_
  refine f_if_ne (tgt := 11) hx hb dX8_readEither_6 (by decide) hF (fun hF => ?_) (fun hF => ?_)
  · refine lv_aload_n hx hb dX8_readEither_11 rfl (lv_at hl 0 rfl) ?_
    refine g_get (T := TX8) (N := 7) hx hb hts in_X8 hown hK hP 0 rfl rfl 3 (by decide) w0 rfl rfl dX8_readEither_12 ?_
    refine lv_istore_n (lv' := [(3, .int (Tx_at q1.2)), (0, .ref o), (1, .ref (E.2.2.2.2.2.1 p0)), (2, .ref (E.2.2.2.2.2.1 p1))]) hx hb dX8_readEither_15 rfl hl (by decide) rfl (fun ls hl => ?_)
    refine lv_aload_n hx hb dX8_readEither_16 rfl (lv_at hl 1 rfl) ?_
    obtain ⟨q2, h_q2, hF⟩ := bnd_s hF
    refine g_callV (As := []) (rest := []) ⟨hx, hb, hml, hown, hts⟩ hK hZ hA (c_X8_skipLetters l E o qa qb n q1.2 q2 h_q2) (cwV 0 hts gX8_readEither_X8_skipLetters rfl rfl rfl (by decide +kernel) ⟨Nat.le_of_ble_eq_true rfl, Nat.le_of_ble_eq_true rfl⟩) hP hD hS [0, 1, 2] [] rfl rfl rfl rfl rfl rfl hl.1 rfl (Nat.le_of_ble_eq_true rfl) dX8_readEither_17 ⟨Nat.le_of_ble_eq_true rfl, Nat.le_of_ble_eq_true rfl⟩ (fun H locs hP hD hS => ?_)
    have hP : va_P E.1 vwCl (bl [[(o, .inr (6, [.ref qa, .ref qb, .int (Tx_length q2), .int (Tx_at q2), .int (Tx_items q2), .int (Tx_faultIndex q2), .int (Tx_faultReason q2)]))], [(qa, .inl (E.2.2.1, 120, .inl (Tx_signs q2)))], [(qb, .inl (E.2.1, 16, .inl (Tx_numbers q2)))]]) H := hP
    have hD : va_D A (bl [[(o, .inr (6, [.ref qa, .ref qb, .int (Tx_length q2), .int (Tx_at q2), .int (Tx_items q2), .int (Tx_faultIndex q2), .int (Tx_faultReason q2)]))], [(qa, .inl (E.2.2.1, 120, .inl (Tx_signs q2)))], [(qb, .inl (E.2.1, 16, .inl (Tx_numbers q2)))]]) := hD
    refine W.eq (g2 := F0 m 20 ls []) rfl ?_
    refine lv_aload_n hx hb dX8_readEither_20 rfl (lv_at hl 1 rfl) ?_
    refine lv_iload_n hx hb dX8_readEither_21 rfl (lv_at hl 0 rfl) ?_
    refine lv_aload_n hx hb dX8_readEither_22 rfl (lv_at hl 2 rfl) ?_
    obtain ⟨q3, h_q3, hF⟩ := bnd_s hF
    refine g_callV (As := [.int (Tx_at q1.2), .ref (E.2.2.2.2.2.1 p0)]) (rest := []) ⟨hx, hb, hml, hown, hts⟩ hK hZ hA (c_X8_isWord l E o qa qb n q2 (Tx_at q1.2) p0 q3 h_q3) (cwV 2 hts gX8_readEither_X8_isWord rfl rfl rfl (by decide +kernel) ⟨Nat.le_of_ble_eq_true rfl, Nat.le_of_ble_eq_true rfl⟩) hP hD hS [0, 1, 2] [] rfl rfl rfl rfl rfl rfl hl.1 rfl (Nat.le_of_ble_eq_true rfl) dX8_readEither_23 ⟨Nat.le_of_ble_eq_true rfl, Nat.le_of_ble_eq_true rfl⟩ (fun H locs hP hD hS => ?_)
    have hP : va_P E.1 vwCl (bl [[(o, .inr (6, [.ref qa, .ref qb, .int (Tx_length q2), .int (Tx_at q2), .int (Tx_items q2), .int (Tx_faultIndex q2), .int (Tx_faultReason q2)]))], [(qa, .inl (E.2.2.1, 120, .inl (Tx_signs q2)))], [(qb, .inl (E.2.1, 16, .inl (Tx_numbers q2)))]]) H := hP
    have hD : va_D A (bl [[(o, .inr (6, [.ref qa, .ref qb, .int (Tx_length q2), .int (Tx_at q2), .int (Tx_items q2), .int (Tx_faultIndex q2), .int (Tx_faultReason q2)]))], [(qa, .inl (E.2.2.1, 120, .inl (Tx_signs q2)))], [(qb, .inl (E.2.1, 16, .inl (Tx_numbers q2)))]]) := hD
    refine W.eq (g2 := F0 m 26 ls [.int q3]) rfl ?_
    refine f_if_eq (tgt := 31) hx hb dX8_readEither_26 (by decide) hF (fun hF => ?_) (fun hF => ?_)
    · refine lv_aload_n hx hb dX8_readEither_31 rfl (lv_at hl 1 rfl) ?_
      refine lv_iload_n hx hb dX8_readEither_32 rfl (lv_at hl 0 rfl) ?_
      refine lv_aload_n hx hb dX8_readEither_33 rfl (lv_at hl 3 rfl) ?_
      obtain ⟨q4, h_q4, hF⟩ := bnd_s hF
      refine g_callV (As := [.int (Tx_at q1.2), .ref (E.2.2.2.2.2.1 p1)]) (rest := []) ⟨hx, hb, hml, hown, hts⟩ hK hZ hA (c_X8_isWord l E o qa qb n q2 (Tx_at q1.2) p1 q4 h_q4) (cwV 2 hts gX8_readEither_X8_isWord rfl rfl rfl (by decide +kernel) ⟨Nat.le_of_ble_eq_true rfl, Nat.le_of_ble_eq_true rfl⟩) hP hD hS [0, 1, 2] [] rfl rfl rfl rfl rfl rfl hl.1 rfl (Nat.le_of_ble_eq_true rfl) dX8_readEither_34 ⟨Nat.le_of_ble_eq_true rfl, Nat.le_of_ble_eq_true rfl⟩ (fun H locs hP hD hS => ?_)
      have hP : va_P E.1 vwCl (bl [[(o, .inr (6, [.ref qa, .ref qb, .int (Tx_length q2), .int (Tx_at q2), .int (Tx_items q2), .int (Tx_faultIndex q2), .int (Tx_faultReason q2)]))], [(qa, .inl (E.2.2.1, 120, .inl (Tx_signs q2)))], [(qb, .inl (E.2.1, 16, .inl (Tx_numbers q2)))]]) H := hP
      have hD : va_D A (bl [[(o, .inr (6, [.ref qa, .ref qb, .int (Tx_length q2), .int (Tx_at q2), .int (Tx_items q2), .int (Tx_faultIndex q2), .int (Tx_faultReason q2)]))], [(qa, .inl (E.2.2.1, 120, .inl (Tx_signs q2)))], [(qb, .inl (E.2.1, 16, .inl (Tx_numbers q2)))]]) := hD
      refine W.eq (g2 := F0 m 37 ls [.int q4]) rfl ?_
      refine f_if_eq (tgt := 44) hx hb dX8_readEither_37 (by decide) hF (fun hF => ?_) (fun hF => ?_)
      · refine lv_iconst (v := (-1)) hx hb dX8_readEither_44 (by decide) ?_
        exact g_iret (rvf := fun z => some (.int z.1)) (W1f := fun z => bl [Tx_c E o qa qb z.2]) hx hb hr hlocks hQ hF rfl hP hD hS [0, 1, 2] rfl rfl dX8_readEither_45
      · refine lv_iconst (v := 1) hx hb dX8_readEither_40 (by decide) ?_
        refine lv_goto (tgt := 45) hx hb dX8_readEither_41 (by decide) ?_
        exact g_iret (rvf := fun z => some (.int z.1)) (W1f := fun z => bl [Tx_c E o qa qb z.2]) hx hb hr hlocks hQ hF rfl hP hD hS [0, 1, 2] rfl rfl dX8_readEither_45
    · refine lv_iconst (v := 0) hx hb dX8_readEither_29 (by decide) ?_
      exact g_iret (rvf := fun z => some (.int z.1)) (W1f := fun z => bl [Tx_c E o qa qb z.2]) hx hb hr hlocks hQ hF rfl hP hD hS [0, 1, 2] rfl rfl dX8_readEither_30
  · refine lv_iconst (v := (-1)) hx hb dX8_readEither_9 (by decide) ?_
    exact g_iret (rvf := fun z => some (.int z.1)) (W1f := fun z => bl [Tx_c E o qa qb z.2]) hx hb hr hlocks hQ hF rfl hP hD hS [0, 1, 2] rfl rfl dX8_readEither_10
def F_X8_carryOutChanger (n : Nat) (v : TxV) (v2 : StV) : Option (Int32 × TxV × StV) := (F_X8_readEither n v 6 7).bind fun q1 => if q1.1 = (-1) then some (1, q1.2, v2) else (F_X8_skips q1.2 59).bind fun q2 => if q2.1 = 0 then some (6, q2.2, v2) else (F_X1_renew n (St_Ch v2) q1.1).bind fun q3 => some (0, q2.2, (St_mk (St_So v2) (St_Ci v2) (St_Fl v2) q3 (St_Lo v2)))
set_option maxHeartbeats 4000000 in
set_option maxRecDepth 100000 in
theorem c_X8_carryOutChanger (l : Launch) (E : GE) (o : Nat) (qa : Nat) (qb : Nat) (fa2 : Nat → Nat) (n : Nat) (v : TxV) (v2 : StV) (r : Int32 × TxV × StV) (hF : F_X8_carryOutChanger n v v2 = some r) : CT l E yX8_carryOutChanger wsX8_carryOutChanger ({ frames := 8, cells := 0, slots := 0, locals := 197 } : Room) [.ref o, .ref (fa2 0)] (bl [Tx_c E o qa qb v, St_c E fa2 v2]) (some (.int r.1)) (bl [Tx_c E o qa qb r.2.1, St_c E fa2 r.2.2]) 0 0 := by
  refine CT.of (cc := cX8_carryOutChanger) (maxL := 3) (ret := (some .int)) (by decide) rfl (Nat.le_of_ble_eq_true rfl) ?_
  intro p e s m args below meth cd A Q ls B hQ hP hD hS hl
  obtain ⟨hx, hb, hml, hown, hts, hr, hlocks, hK, hZ, hA, hnm⟩ := B
  have hown : s.vm.findClass RX8 = some m.cls := hown
  have hl : lv_has ls 3 [(0, .ref o), (1, .ref (fa2 0))] := hl
  have w0 := va_Nw.use (A := args) rfl (hZ.2.2.2.2.2.2.1 21 _ rfl)
  have in_X7 : ∀ w ∈ wsX70, w ∈ wsX8_carryOutChanger := by decide +kernel
  have hP : va_P E.1 vwCl (bl [Tx_c E o qa qb v, [((fa2 0), .inr (5, [.ref (fa2 2), .ref (fa2 4), .ref (fa2 7), .ref (fa2 11), .ref (fa2 1), .int (So_tick (St_So v2)), .int (So_clear (St_So v2)), .int (So_changesBegun (St_So v2))]))], [((fa2 1), .inl (E.2.1, 4, .inl (So_spent (St_So v2))))], Ci_c E (fa2 2) (fa2 3) (St_Ci v2), Fl_c E (fa2 4) (fa2 5) (fa2 6) (St_Fl v2), Ch_c E (fa2 7) (fa2 8) (fa2 9) (fa2 10) (St_Ch v2), Lo_c E (fa2 11) (fa2 12) (fa2 13) (fa2 14) (fa2 15) (fa2 16) (St_Lo v2)]) s.heap := hP
  have hD : va_D A (bl [Tx_c E o qa qb v, [((fa2 0), .inr (5, [.ref (fa2 2), .ref (fa2 4), .ref (fa2 7), .ref (fa2 11), .ref (fa2 1), .int (So_tick (St_So v2)), .int (So_clear (St_So v2)), .int (So_changesBegun (St_So v2))]))], [((fa2 1), .inl (E.2.1, 4, .inl (So_spent (St_So v2))))], Ci_c E (fa2 2) (fa2 3) (St_Ci v2), Fl_c E (fa2 4) (fa2 5) (fa2 6) (St_Fl v2), Ch_c E (fa2 7) (fa2 8) (fa2 9) (fa2 10) (St_Ch v2), Lo_c E (fa2 11) (fa2 12) (fa2 13) (fa2 14) (fa2 15) (fa2 16) (St_Lo v2)]) := hD
  unfold F_X8_carryOutChanger at hF
  refine lv_aload_n hx hb dX8_carryOutChanger_0 rfl (lv_at hl 0 rfl) ?_
  refine va_ldcS hx hb hown (hZ.2.2.2.2.2.1 6 (118, "bulbs") rfl) dX8_carryOutChanger_1 ?_
  refine va_ldcS hx hb hown (hZ.2.2.2.2.2.1 7 (120, "burners") rfl) dX8_carryOutChanger_3 ?_
  obtain ⟨q1, h_q1, hF⟩ := bnd_s hF
  refine g_callV (As := [.ref (E.2.2.2.2.2.1 6), .ref (E.2.2.2.2.2.1 7)]) (rest := []) ⟨hx, hb, hml, hown, hts⟩ hK hZ hA (c_X8_readEither l E o qa qb n v (6) (7) q1 h_q1) (cwV 2 hts gX8_carryOutChanger_X8_readEither rfl rfl rfl (by decide +kernel) ⟨Nat.le_of_ble_eq_true rfl, Nat.le_of_ble_eq_true rfl⟩) hP hD hS [0] [1, 2, 3, 4, 5, 6] rfl rfl rfl rfl rfl rfl hl.1 rfl (Nat.le_of_ble_eq_true rfl) dX8_carryOutChanger_5 ⟨Nat.le_of_ble_eq_true rfl, Nat.le_of_ble_eq_true rfl⟩ (fun H locs hP hD hS => ?_)
  have hP : va_P E.1 vwCl (bl [Tx_c E o qa qb q1.2, [((fa2 0), .inr (5, [.ref (fa2 2), .ref (fa2 4), .ref (fa2 7), .ref (fa2 11), .ref (fa2 1), .int (So_tick (St_So v2)), .int (So_clear (St_So v2)), .int (So_changesBegun (St_So v2))]))], [((fa2 1), .inl (E.2.1, 4, .inl (So_spent (St_So v2))))], Ci_c E (fa2 2) (fa2 3) (St_Ci v2), Fl_c E (fa2 4) (fa2 5) (fa2 6) (St_Fl v2), Ch_c E (fa2 7) (fa2 8) (fa2 9) (fa2 10) (St_Ch v2), Lo_c E (fa2 11) (fa2 12) (fa2 13) (fa2 14) (fa2 15) (fa2 16) (St_Lo v2)]) H := hP
  have hD : va_D A (bl [Tx_c E o qa qb q1.2, [((fa2 0), .inr (5, [.ref (fa2 2), .ref (fa2 4), .ref (fa2 7), .ref (fa2 11), .ref (fa2 1), .int (So_tick (St_So v2)), .int (So_clear (St_So v2)), .int (So_changesBegun (St_So v2))]))], [((fa2 1), .inl (E.2.1, 4, .inl (So_spent (St_So v2))))], Ci_c E (fa2 2) (fa2 3) (St_Ci v2), Fl_c E (fa2 4) (fa2 5) (fa2 6) (St_Fl v2), Ch_c E (fa2 7) (fa2 8) (fa2 9) (fa2 10) (St_Ch v2), Lo_c E (fa2 11) (fa2 12) (fa2 13) (fa2 14) (fa2 15) (fa2 16) (St_Lo v2)]) := hD
  refine W.eq (g2 := F0 m 8 ls [.int q1.1]) rfl ?_
  refine lv_istore_n (lv' := [(2, .int q1.1), (0, .ref o), (1, .ref (fa2 0))]) hx hb dX8_carryOutChanger_8 rfl hl (by decide) rfl (fun ls hl => ?_)
  refine lv_iload_n hx hb dX8_carryOutChanger_9 rfl (lv_at hl 0 rfl) ?_
  refine lv_iconst (v := (-1)) hx hb dX8_carryOutChanger_10 (by decide) ?_
  refine f_icmp_ne (tgt := 16) hx hb dX8_carryOutChanger_11 (by decide) hF (fun hF => ?_) (fun hF => ?_)
  · refine lv_aload_n hx hb dX8_carryOutChanger_16 rfl (lv_at hl 1 rfl) ?_
    refine lv_bipush (v := 59) hx hb dX8_carryOutChanger_17 (by decide) ?_
    obtain ⟨q2, h_q2, hF⟩ := bnd_s hF
    refine g_callV (As := [.int 59]) (rest := []) ⟨hx, hb, hml, hown, hts⟩ hK hZ hA (c_X8_skips l E o qa qb q1.2 (59) q2 h_q2) (cwV 1 hts gX8_carryOutChanger_X8_skips rfl rfl rfl (by decide +kernel) ⟨Nat.le_of_ble_eq_true rfl, Nat.le_of_ble_eq_true rfl⟩) hP hD hS [0] [1, 2, 3, 4, 5, 6] rfl rfl rfl rfl rfl rfl hl.1 rfl (Nat.le_of_ble_eq_true rfl) dX8_carryOutChanger_19 ⟨Nat.le_of_ble_eq_true rfl, Nat.le_of_ble_eq_true rfl⟩ (fun H locs hP hD hS => ?_)
    have hP : va_P E.1 vwCl (bl [Tx_c E o qa qb q2.2, [((fa2 0), .inr (5, [.ref (fa2 2), .ref (fa2 4), .ref (fa2 7), .ref (fa2 11), .ref (fa2 1), .int (So_tick (St_So v2)), .int (So_clear (St_So v2)), .int (So_changesBegun (St_So v2))]))], [((fa2 1), .inl (E.2.1, 4, .inl (So_spent (St_So v2))))], Ci_c E (fa2 2) (fa2 3) (St_Ci v2), Fl_c E (fa2 4) (fa2 5) (fa2 6) (St_Fl v2), Ch_c E (fa2 7) (fa2 8) (fa2 9) (fa2 10) (St_Ch v2), Lo_c E (fa2 11) (fa2 12) (fa2 13) (fa2 14) (fa2 15) (fa2 16) (St_Lo v2)]) H := hP
    have hD : va_D A (bl [Tx_c E o qa qb q2.2, [((fa2 0), .inr (5, [.ref (fa2 2), .ref (fa2 4), .ref (fa2 7), .ref (fa2 11), .ref (fa2 1), .int (So_tick (St_So v2)), .int (So_clear (St_So v2)), .int (So_changesBegun (St_So v2))]))], [((fa2 1), .inl (E.2.1, 4, .inl (So_spent (St_So v2))))], Ci_c E (fa2 2) (fa2 3) (St_Ci v2), Fl_c E (fa2 4) (fa2 5) (fa2 6) (St_Fl v2), Ch_c E (fa2 7) (fa2 8) (fa2 9) (fa2 10) (St_Ch v2), Lo_c E (fa2 11) (fa2 12) (fa2 13) (fa2 14) (fa2 15) (fa2 16) (St_Lo v2)]) := hD
    refine W.eq (g2 := F0 m 22 ls [.int q2.1]) rfl ?_
    refine f_if_ne (tgt := 28) hx hb dX8_carryOutChanger_22 (by decide) hF (fun hF => ?_) (fun hF => ?_)
    · refine lv_aload_n hx hb dX8_carryOutChanger_28 rfl (lv_at hl 2 rfl) ?_
      refine g_getN (T := TX7) (N := 8) hx hb hts in_X7 hown hK hP 1 rfl rfl 2 (by decide) w0 rfl rfl dX8_carryOutChanger_29 ?_
      refine lv_iload_n hx hb dX8_carryOutChanger_32 rfl (lv_at hl 0 rfl) ?_
      obtain ⟨q3, h_q3, hF⟩ := bnd_s hF
      refine g_callV (As := [.int q1.1]) (rest := []) ⟨hx, hb, hml, hown, hts⟩ hK hZ hA (c_X1_renew l E (fa2 7) (fa2 8) (fa2 9) (fa2 10) n (St_Ch v2) q1.1 q3 h_q3) (cwV 1 hts gX8_carryOutChanger_X1_renew rfl rfl rfl (by decide +kernel) ⟨Nat.le_of_ble_eq_true rfl, Nat.le_of_ble_eq_true rfl⟩) hP hD hS [5] [0, 1, 2, 3, 4, 6] rfl rfl rfl rfl rfl rfl hl.1 rfl (Nat.le_of_ble_eq_true rfl) dX8_carryOutChanger_33 ⟨Nat.le_of_ble_eq_true rfl, Nat.le_of_ble_eq_true rfl⟩ (fun H locs hP hD hS => ?_)
      have hP : va_P E.1 vwCl (bl [Ch_c E (fa2 7) (fa2 8) (fa2 9) (fa2 10) q3, Tx_c E o qa qb q2.2, [((fa2 0), .inr (5, [.ref (fa2 2), .ref (fa2 4), .ref (fa2 7), .ref (fa2 11), .ref (fa2 1), .int (So_tick (St_So v2)), .int (So_clear (St_So v2)), .int (So_changesBegun (St_So v2))]))], [((fa2 1), .inl (E.2.1, 4, .inl (So_spent (St_So v2))))], Ci_c E (fa2 2) (fa2 3) (St_Ci v2), Fl_c E (fa2 4) (fa2 5) (fa2 6) (St_Fl v2), Lo_c E (fa2 11) (fa2 12) (fa2 13) (fa2 14) (fa2 15) (fa2 16) (St_Lo v2)]) H := hP
      have hD : va_D A (bl [Ch_c E (fa2 7) (fa2 8) (fa2 9) (fa2 10) q3, Tx_c E o qa qb q2.2, [((fa2 0), .inr (5, [.ref (fa2 2), .ref (fa2 4), .ref (fa2 7), .ref (fa2 11), .ref (fa2 1), .int (So_tick (St_So v2)), .int (So_clear (St_So v2)), .int (So_changesBegun (St_So v2))]))], [((fa2 1), .inl (E.2.1, 4, .inl (So_spent (St_So v2))))], Ci_c E (fa2 2) (fa2 3) (St_Ci v2), Fl_c E (fa2 4) (fa2 5) (fa2 6) (St_Fl v2), Lo_c E (fa2 11) (fa2 12) (fa2 13) (fa2 14) (fa2 15) (fa2 16) (St_Lo v2)]) := hD
      refine W.eq (g2 := F0 m 36 ls []) rfl ?_
      refine lv_iconst (v := 0) hx hb dX8_carryOutChanger_36 (by decide) ?_
      exact g_iret (rvf := fun z => some (.int z.1)) (W1f := fun z => bl [Tx_c E o qa qb z.2.1, St_c E fa2 z.2.2]) hx hb hr hlocks hQ hF rfl hP hD hS [1, 2, 3, 4, 5, 0, 6] rfl rfl dX8_carryOutChanger_37
    · refine lv_bipush (v := 6) hx hb dX8_carryOutChanger_25 (by decide) ?_
      exact g_iret (rvf := fun z => some (.int z.1)) (W1f := fun z => bl [Tx_c E o qa qb z.2.1, St_c E fa2 z.2.2]) hx hb hr hlocks hQ hF rfl hP hD hS [0, 1, 2, 3, 4, 5, 6] rfl rfl dX8_carryOutChanger_27
  · refine lv_iconst (v := 1) hx hb dX8_carryOutChanger_14 (by decide) ?_
    exact g_iret (rvf := fun z => some (.int z.1)) (W1f := fun z => bl [Tx_c E o qa qb z.2.1, St_c E fa2 z.2.2]) hx hb hr hlocks hQ hF rfl hP hD hS [0, 1, 2, 3, 4, 5, 6] rfl rfl dX8_carryOutChanger_15
def F_X8_carryOutLamp (n : Nat) (v : TxV) (v2 : StV) : Option (Int32 × TxV × StV) := (F_X8_readEither n v 8 9).bind fun q1 => if q1.1 = (-1) then some (1, q1.2, v2) else (F_X8_readNumber n q1.2).bind fun q2 => (F_X8_readNumber n q2.2).bind fun q3 => if q2.1 = (-1) then some (2, q3.2, v2) else if q3.1 = (-1) then some (2, q3.2, v2) else if q2.1 < 1 then some (3, q3.2, v2) else if 2000 < q2.1 then some (3, q3.2, v2) else if q3.1 < 1 then some (3, q3.2, v2) else if q3.1 ≤ 5000 then if q1.1 = (Ch_kind (St_Ch v2)) then (F_X1_lowestEmpty n (St_Ch v2)).bind fun q4 => if q4 = (-1) then some (5, q3.2, v2) else (F_X8_skips q3.2 59).bind fun q5 => if q5.1 = 0 then some (6, q5.2, v2) else (F_X1_insert (St_Ch v2) q4 q2.1 q3.1).bind fun q6 => some (0, q5.2, (St_mk (St_So v2) (St_Ci v2) (St_Fl v2) q6 (St_Lo v2))) else some (4, q3.2, v2) else some (3, q3.2, v2)
set_option maxHeartbeats 4000000 in
set_option maxRecDepth 100000 in
theorem c_X8_carryOutLamp (l : Launch) (E : GE) (o : Nat) (qa : Nat) (qb : Nat) (fa2 : Nat → Nat) (n : Nat) (v : TxV) (v2 : StV) (r : Int32 × TxV × StV) (hF : F_X8_carryOutLamp n v v2 = some r) : CT l E yX8_carryOutLamp wsX8_carryOutLamp ({ frames := 8, cells := 0, slots := 0, locals := 197 } : Room) [.ref o, .ref (fa2 0)] (bl [Tx_c E o qa qb v, St_c E fa2 v2]) (some (.int r.1)) (bl [Tx_c E o qa qb r.2.1, St_c E fa2 r.2.2]) 0 0 := by
  refine CT.of (cc := cX8_carryOutLamp) (maxL := 6) (ret := (some .int)) (by decide) rfl (Nat.le_of_ble_eq_true rfl) ?_
  intro p e s m args below meth cd A Q ls B hQ hP hD hS hl
  obtain ⟨hx, hb, hml, hown, hts, hr, hlocks, hK, hZ, hA, hnm⟩ := B
  have hown : s.vm.findClass RX8 = some m.cls := hown
  have hl : lv_has ls 6 [(0, .ref o), (1, .ref (fa2 0))] := hl
  have w0 := va_Nw.use (A := args) rfl (hZ.2.2.2.2.2.2.1 21 _ rfl)
  have w1 := va_Nw.use (A := args) rfl (hZ.2.2.2.2.2.2.1 22 _ rfl)
  have in_X1 : ∀ w ∈ wsX10, w ∈ wsX8_carryOutLamp := by decide +kernel
  have in_X7 : ∀ w ∈ wsX70, w ∈ wsX8_carryOutLamp := by decide +kernel
  have hP : va_P E.1 vwCl (bl [Tx_c E o qa qb v, [((fa2 0), .inr (5, [.ref (fa2 2), .ref (fa2 4), .ref (fa2 7), .ref (fa2 11), .ref (fa2 1), .int (So_tick (St_So v2)), .int (So_clear (St_So v2)), .int (So_changesBegun (St_So v2))]))], [((fa2 1), .inl (E.2.1, 4, .inl (So_spent (St_So v2))))], Ci_c E (fa2 2) (fa2 3) (St_Ci v2), Fl_c E (fa2 4) (fa2 5) (fa2 6) (St_Fl v2), [((fa2 7), .inr (0, [.ref (fa2 8), .ref (fa2 9), .ref (fa2 10), .int (Ch_kind (St_Ch v2)), .int (Ch_present (St_Ch v2)), .int (Ch_change (St_Ch v2)), .int (Ch_changeLeft (St_Ch v2))]))], [((fa2 8), .inl (E.2.1, 6, .inl (Ch_intensities (St_Ch v2))))], [((fa2 9), .inl (E.2.1, 6, .inl (Ch_lives (St_Ch v2))))], [((fa2 10), .inl (E.2.1, 6, .inl (Ch_uses (St_Ch v2))))], Lo_c E (fa2 11) (fa2 12) (fa2 13) (fa2 14) (fa2 15) (fa2 16) (St_Lo v2)]) s.heap := hP
  have hD : va_D A (bl [Tx_c E o qa qb v, [((fa2 0), .inr (5, [.ref (fa2 2), .ref (fa2 4), .ref (fa2 7), .ref (fa2 11), .ref (fa2 1), .int (So_tick (St_So v2)), .int (So_clear (St_So v2)), .int (So_changesBegun (St_So v2))]))], [((fa2 1), .inl (E.2.1, 4, .inl (So_spent (St_So v2))))], Ci_c E (fa2 2) (fa2 3) (St_Ci v2), Fl_c E (fa2 4) (fa2 5) (fa2 6) (St_Fl v2), [((fa2 7), .inr (0, [.ref (fa2 8), .ref (fa2 9), .ref (fa2 10), .int (Ch_kind (St_Ch v2)), .int (Ch_present (St_Ch v2)), .int (Ch_change (St_Ch v2)), .int (Ch_changeLeft (St_Ch v2))]))], [((fa2 8), .inl (E.2.1, 6, .inl (Ch_intensities (St_Ch v2))))], [((fa2 9), .inl (E.2.1, 6, .inl (Ch_lives (St_Ch v2))))], [((fa2 10), .inl (E.2.1, 6, .inl (Ch_uses (St_Ch v2))))], Lo_c E (fa2 11) (fa2 12) (fa2 13) (fa2 14) (fa2 15) (fa2 16) (St_Lo v2)]) := hD
  unfold F_X8_carryOutLamp at hF
  refine lv_aload_n hx hb dX8_carryOutLamp_0 rfl (lv_at hl 0 rfl) ?_
  refine va_ldcS hx hb hown (hZ.2.2.2.2.2.1 8 (135, "bulb") rfl) dX8_carryOutLamp_1 ?_
  refine va_ldcS hx hb hown (hZ.2.2.2.2.2.1 9 (137, "burner") rfl) dX8_carryOutLamp_3 ?_
  obtain ⟨q1, h_q1, hF⟩ := bnd_s hF
  refine g_callV (As := [.ref (E.2.2.2.2.2.1 8), .ref (E.2.2.2.2.2.1 9)]) (rest := []) ⟨hx, hb, hml, hown, hts⟩ hK hZ hA (c_X8_readEither l E o qa qb n v (8) (9) q1 h_q1) (cwV 2 hts gX8_carryOutLamp_X8_readEither rfl rfl rfl (by decide +kernel) ⟨Nat.le_of_ble_eq_true rfl, Nat.le_of_ble_eq_true rfl⟩) hP hD hS [0] [1, 2, 3, 4, 5, 6, 7, 8, 9] rfl rfl rfl rfl rfl rfl hl.1 rfl (Nat.le_of_ble_eq_true rfl) dX8_carryOutLamp_5 ⟨Nat.le_of_ble_eq_true rfl, Nat.le_of_ble_eq_true rfl⟩ (fun H locs hP hD hS => ?_)
  have hP : va_P E.1 vwCl (bl [Tx_c E o qa qb q1.2, [((fa2 0), .inr (5, [.ref (fa2 2), .ref (fa2 4), .ref (fa2 7), .ref (fa2 11), .ref (fa2 1), .int (So_tick (St_So v2)), .int (So_clear (St_So v2)), .int (So_changesBegun (St_So v2))]))], [((fa2 1), .inl (E.2.1, 4, .inl (So_spent (St_So v2))))], Ci_c E (fa2 2) (fa2 3) (St_Ci v2), Fl_c E (fa2 4) (fa2 5) (fa2 6) (St_Fl v2), [((fa2 7), .inr (0, [.ref (fa2 8), .ref (fa2 9), .ref (fa2 10), .int (Ch_kind (St_Ch v2)), .int (Ch_present (St_Ch v2)), .int (Ch_change (St_Ch v2)), .int (Ch_changeLeft (St_Ch v2))]))], [((fa2 8), .inl (E.2.1, 6, .inl (Ch_intensities (St_Ch v2))))], [((fa2 9), .inl (E.2.1, 6, .inl (Ch_lives (St_Ch v2))))], [((fa2 10), .inl (E.2.1, 6, .inl (Ch_uses (St_Ch v2))))], Lo_c E (fa2 11) (fa2 12) (fa2 13) (fa2 14) (fa2 15) (fa2 16) (St_Lo v2)]) H := hP
  have hD : va_D A (bl [Tx_c E o qa qb q1.2, [((fa2 0), .inr (5, [.ref (fa2 2), .ref (fa2 4), .ref (fa2 7), .ref (fa2 11), .ref (fa2 1), .int (So_tick (St_So v2)), .int (So_clear (St_So v2)), .int (So_changesBegun (St_So v2))]))], [((fa2 1), .inl (E.2.1, 4, .inl (So_spent (St_So v2))))], Ci_c E (fa2 2) (fa2 3) (St_Ci v2), Fl_c E (fa2 4) (fa2 5) (fa2 6) (St_Fl v2), [((fa2 7), .inr (0, [.ref (fa2 8), .ref (fa2 9), .ref (fa2 10), .int (Ch_kind (St_Ch v2)), .int (Ch_present (St_Ch v2)), .int (Ch_change (St_Ch v2)), .int (Ch_changeLeft (St_Ch v2))]))], [((fa2 8), .inl (E.2.1, 6, .inl (Ch_intensities (St_Ch v2))))], [((fa2 9), .inl (E.2.1, 6, .inl (Ch_lives (St_Ch v2))))], [((fa2 10), .inl (E.2.1, 6, .inl (Ch_uses (St_Ch v2))))], Lo_c E (fa2 11) (fa2 12) (fa2 13) (fa2 14) (fa2 15) (fa2 16) (St_Lo v2)]) := hD
  refine W.eq (g2 := F0 m 8 ls [.int q1.1]) rfl ?_
  refine lv_istore_n (lv' := [(2, .int q1.1), (0, .ref o), (1, .ref (fa2 0))]) hx hb dX8_carryOutLamp_8 rfl hl (by decide) rfl (fun ls hl => ?_)
  refine lv_iload_n hx hb dX8_carryOutLamp_9 rfl (lv_at hl 0 rfl) ?_
  refine lv_iconst (v := (-1)) hx hb dX8_carryOutLamp_10 (by decide) ?_
  refine f_icmp_ne (tgt := 16) hx hb dX8_carryOutLamp_11 (by decide) hF (fun hF => ?_) (fun hF => ?_)
  · refine lv_aload_n hx hb dX8_carryOutLamp_16 rfl (lv_at hl 1 rfl) ?_
    obtain ⟨q2, h_q2, hF⟩ := bnd_s hF
    refine g_callV (As := []) (rest := []) ⟨hx, hb, hml, hown, hts⟩ hK hZ hA (c_X8_readNumber l E o qa qb n q1.2 q2 h_q2) (cwV 0 hts gX8_carryOutLamp_X8_readNumber rfl rfl rfl (by decide +kernel) ⟨Nat.le_of_ble_eq_true rfl, Nat.le_of_ble_eq_true rfl⟩) hP hD hS [0] [1, 2, 3, 4, 5, 6, 7, 8, 9] rfl rfl rfl rfl rfl rfl hl.1 rfl (Nat.le_of_ble_eq_true rfl) dX8_carryOutLamp_17 ⟨Nat.le_of_ble_eq_true rfl, Nat.le_of_ble_eq_true rfl⟩ (fun H locs hP hD hS => ?_)
    have hP : va_P E.1 vwCl (bl [Tx_c E o qa qb q2.2, [((fa2 0), .inr (5, [.ref (fa2 2), .ref (fa2 4), .ref (fa2 7), .ref (fa2 11), .ref (fa2 1), .int (So_tick (St_So v2)), .int (So_clear (St_So v2)), .int (So_changesBegun (St_So v2))]))], [((fa2 1), .inl (E.2.1, 4, .inl (So_spent (St_So v2))))], Ci_c E (fa2 2) (fa2 3) (St_Ci v2), Fl_c E (fa2 4) (fa2 5) (fa2 6) (St_Fl v2), [((fa2 7), .inr (0, [.ref (fa2 8), .ref (fa2 9), .ref (fa2 10), .int (Ch_kind (St_Ch v2)), .int (Ch_present (St_Ch v2)), .int (Ch_change (St_Ch v2)), .int (Ch_changeLeft (St_Ch v2))]))], [((fa2 8), .inl (E.2.1, 6, .inl (Ch_intensities (St_Ch v2))))], [((fa2 9), .inl (E.2.1, 6, .inl (Ch_lives (St_Ch v2))))], [((fa2 10), .inl (E.2.1, 6, .inl (Ch_uses (St_Ch v2))))], Lo_c E (fa2 11) (fa2 12) (fa2 13) (fa2 14) (fa2 15) (fa2 16) (St_Lo v2)]) H := hP
    have hD : va_D A (bl [Tx_c E o qa qb q2.2, [((fa2 0), .inr (5, [.ref (fa2 2), .ref (fa2 4), .ref (fa2 7), .ref (fa2 11), .ref (fa2 1), .int (So_tick (St_So v2)), .int (So_clear (St_So v2)), .int (So_changesBegun (St_So v2))]))], [((fa2 1), .inl (E.2.1, 4, .inl (So_spent (St_So v2))))], Ci_c E (fa2 2) (fa2 3) (St_Ci v2), Fl_c E (fa2 4) (fa2 5) (fa2 6) (St_Fl v2), [((fa2 7), .inr (0, [.ref (fa2 8), .ref (fa2 9), .ref (fa2 10), .int (Ch_kind (St_Ch v2)), .int (Ch_present (St_Ch v2)), .int (Ch_change (St_Ch v2)), .int (Ch_changeLeft (St_Ch v2))]))], [((fa2 8), .inl (E.2.1, 6, .inl (Ch_intensities (St_Ch v2))))], [((fa2 9), .inl (E.2.1, 6, .inl (Ch_lives (St_Ch v2))))], [((fa2 10), .inl (E.2.1, 6, .inl (Ch_uses (St_Ch v2))))], Lo_c E (fa2 11) (fa2 12) (fa2 13) (fa2 14) (fa2 15) (fa2 16) (St_Lo v2)]) := hD
    refine W.eq (g2 := F0 m 20 ls [.int q2.1]) rfl ?_
    refine lv_istore_n (lv' := [(3, .int q2.1), (2, .int q1.1), (0, .ref o), (1, .ref (fa2 0))]) hx hb dX8_carryOutLamp_20 rfl hl (by decide) rfl (fun ls hl => ?_)
    refine lv_aload_n hx hb dX8_carryOutLamp_21 rfl (lv_at hl 2 rfl) ?_
    obtain ⟨q3, h_q3, hF⟩ := bnd_s hF
    refine g_callV (As := []) (rest := []) ⟨hx, hb, hml, hown, hts⟩ hK hZ hA (c_X8_readNumber l E o qa qb n q2.2 q3 h_q3) (cwV 0 hts gX8_carryOutLamp_X8_readNumber rfl rfl rfl (by decide +kernel) ⟨Nat.le_of_ble_eq_true rfl, Nat.le_of_ble_eq_true rfl⟩) hP hD hS [0] [1, 2, 3, 4, 5, 6, 7, 8, 9] rfl rfl rfl rfl rfl rfl hl.1 rfl (Nat.le_of_ble_eq_true rfl) dX8_carryOutLamp_22 ⟨Nat.le_of_ble_eq_true rfl, Nat.le_of_ble_eq_true rfl⟩ (fun H locs hP hD hS => ?_)
    have hP : va_P E.1 vwCl (bl [Tx_c E o qa qb q3.2, [((fa2 0), .inr (5, [.ref (fa2 2), .ref (fa2 4), .ref (fa2 7), .ref (fa2 11), .ref (fa2 1), .int (So_tick (St_So v2)), .int (So_clear (St_So v2)), .int (So_changesBegun (St_So v2))]))], [((fa2 1), .inl (E.2.1, 4, .inl (So_spent (St_So v2))))], Ci_c E (fa2 2) (fa2 3) (St_Ci v2), Fl_c E (fa2 4) (fa2 5) (fa2 6) (St_Fl v2), [((fa2 7), .inr (0, [.ref (fa2 8), .ref (fa2 9), .ref (fa2 10), .int (Ch_kind (St_Ch v2)), .int (Ch_present (St_Ch v2)), .int (Ch_change (St_Ch v2)), .int (Ch_changeLeft (St_Ch v2))]))], [((fa2 8), .inl (E.2.1, 6, .inl (Ch_intensities (St_Ch v2))))], [((fa2 9), .inl (E.2.1, 6, .inl (Ch_lives (St_Ch v2))))], [((fa2 10), .inl (E.2.1, 6, .inl (Ch_uses (St_Ch v2))))], Lo_c E (fa2 11) (fa2 12) (fa2 13) (fa2 14) (fa2 15) (fa2 16) (St_Lo v2)]) H := hP
    have hD : va_D A (bl [Tx_c E o qa qb q3.2, [((fa2 0), .inr (5, [.ref (fa2 2), .ref (fa2 4), .ref (fa2 7), .ref (fa2 11), .ref (fa2 1), .int (So_tick (St_So v2)), .int (So_clear (St_So v2)), .int (So_changesBegun (St_So v2))]))], [((fa2 1), .inl (E.2.1, 4, .inl (So_spent (St_So v2))))], Ci_c E (fa2 2) (fa2 3) (St_Ci v2), Fl_c E (fa2 4) (fa2 5) (fa2 6) (St_Fl v2), [((fa2 7), .inr (0, [.ref (fa2 8), .ref (fa2 9), .ref (fa2 10), .int (Ch_kind (St_Ch v2)), .int (Ch_present (St_Ch v2)), .int (Ch_change (St_Ch v2)), .int (Ch_changeLeft (St_Ch v2))]))], [((fa2 8), .inl (E.2.1, 6, .inl (Ch_intensities (St_Ch v2))))], [((fa2 9), .inl (E.2.1, 6, .inl (Ch_lives (St_Ch v2))))], [((fa2 10), .inl (E.2.1, 6, .inl (Ch_uses (St_Ch v2))))], Lo_c E (fa2 11) (fa2 12) (fa2 13) (fa2 14) (fa2 15) (fa2 16) (St_Lo v2)]) := hD
    refine W.eq (g2 := F0 m 25 ls [.int q3.1]) rfl ?_
    refine lv_istore (lv' := [(4, .int q3.1), (3, .int q2.1), (2, .int q1.1), (0, .ref o), (1, .ref (fa2 0))]) hx hb dX8_carryOutLamp_25 hl (by decide) rfl (fun ls hl => ?_)
    refine lv_iload_n hx hb dX8_carryOutLamp_27 rfl (lv_at hl 1 rfl) ?_
    refine lv_iconst (v := (-1)) hx hb dX8_carryOutLamp_28 (by decide) ?_
    refine f_icmp_eq (tgt := 38) hx hb dX8_carryOutLamp_29 (by decide) hF (fun hF => ?_) (fun hF => ?_)
    · refine lv_iconst (v := 2) hx hb dX8_carryOutLamp_38 (by decide) ?_
      exact g_iret (rvf := fun z => some (.int z.1)) (W1f := fun z => bl [Tx_c E o qa qb z.2.1, St_c E fa2 z.2.2]) hx hb hr hlocks hQ hF rfl hP hD hS [0, 1, 2, 3, 4, 5, 6, 7, 8, 9] rfl rfl dX8_carryOutLamp_39
    · refine lv_iload hx hb dX8_carryOutLamp_32 (lv_at hl 0 rfl) ?_
      refine lv_iconst (v := (-1)) hx hb dX8_carryOutLamp_34 (by decide) ?_
      refine f_icmp_ne (tgt := 40) hx hb dX8_carryOutLamp_35 (by decide) hF (fun hF => ?_) (fun hF => ?_)
      · refine lv_iload_n hx hb dX8_carryOutLamp_40 rfl (lv_at hl 1 rfl) ?_
        refine lv_iconst (v := 1) hx hb dX8_carryOutLamp_41 (by decide) ?_
        refine f_icmp_lt (tgt := 66) hx hb dX8_carryOutLamp_42 (by decide) hF (fun hF => ?_) (fun hF => ?_)
        · refine lv_iconst (v := 3) hx hb dX8_carryOutLamp_66 (by decide) ?_
          exact g_iret (rvf := fun z => some (.int z.1)) (W1f := fun z => bl [Tx_c E o qa qb z.2.1, St_c E fa2 z.2.2]) hx hb hr hlocks hQ hF rfl hP hD hS [0, 1, 2, 3, 4, 5, 6, 7, 8, 9] rfl rfl dX8_carryOutLamp_67
        · refine lv_iload_n hx hb dX8_carryOutLamp_45 rfl (lv_at hl 1 rfl) ?_
          refine lv_sipush (v := 2000) hx hb dX8_carryOutLamp_46 (by decide) ?_
          refine f_icmp_gt (tgt := 66) hx hb dX8_carryOutLamp_49 (by decide) hF (fun hF => ?_) (fun hF => ?_)
          · refine lv_iconst (v := 3) hx hb dX8_carryOutLamp_66 (by decide) ?_
            exact g_iret (rvf := fun z => some (.int z.1)) (W1f := fun z => bl [Tx_c E o qa qb z.2.1, St_c E fa2 z.2.2]) hx hb hr hlocks hQ hF rfl hP hD hS [0, 1, 2, 3, 4, 5, 6, 7, 8, 9] rfl rfl dX8_carryOutLamp_67
          · refine lv_iload hx hb dX8_carryOutLamp_52 (lv_at hl 0 rfl) ?_
            refine lv_iconst (v := 1) hx hb dX8_carryOutLamp_54 (by decide) ?_
            refine f_icmp_lt (tgt := 66) hx hb dX8_carryOutLamp_55 (by decide) hF (fun hF => ?_) (fun hF => ?_)
            · refine lv_iconst (v := 3) hx hb dX8_carryOutLamp_66 (by decide) ?_
              exact g_iret (rvf := fun z => some (.int z.1)) (W1f := fun z => bl [Tx_c E o qa qb z.2.1, St_c E fa2 z.2.2]) hx hb hr hlocks hQ hF rfl hP hD hS [0, 1, 2, 3, 4, 5, 6, 7, 8, 9] rfl rfl dX8_carryOutLamp_67
            · refine lv_iload hx hb dX8_carryOutLamp_58 (lv_at hl 0 rfl) ?_
              refine lv_sipush (v := 5000) hx hb dX8_carryOutLamp_60 (by decide) ?_
              refine f_icmp_le (tgt := 68) hx hb dX8_carryOutLamp_63 (by decide) hF (fun hF => ?_) (fun hF => ?_)
              · refine lv_iload_n hx hb dX8_carryOutLamp_68 rfl (lv_at hl 2 rfl) ?_
                refine lv_aload_n hx hb dX8_carryOutLamp_69 rfl (lv_at hl 4 rfl) ?_
                refine g_getN (T := TX7) (N := 8) hx hb hts in_X7 hown hK hP 1 rfl rfl 2 (by decide) w0 rfl rfl dX8_carryOutLamp_70 ?_
                refine g_getN (T := TX1) (N := 7) hx hb hts in_X1 hown hK hP 5 rfl rfl 3 (by decide) w1 rfl rfl dX8_carryOutLamp_73 ?_
                refine f_icmp_eq (tgt := 81) hx hb dX8_carryOutLamp_76 (by decide) hF (fun hF => ?_) (fun hF => ?_)
                · refine lv_aload_n hx hb dX8_carryOutLamp_81 rfl (lv_at hl 4 rfl) ?_
                  refine g_getN (T := TX7) (N := 8) hx hb hts in_X7 hown hK hP 1 rfl rfl 2 (by decide) w0 rfl rfl dX8_carryOutLamp_82 ?_
                  obtain ⟨q4, h_q4, hF⟩ := bnd_s hF
                  refine g_callV (As := []) (rest := []) ⟨hx, hb, hml, hown, hts⟩ hK hZ hA (c_X1_lowestEmpty l E (fa2 7) (fa2 8) (fa2 9) (fa2 10) n (St_Ch v2) q4 h_q4) (cwV 0 hts gX8_carryOutLamp_X1_lowestEmpty rfl rfl rfl (by decide +kernel) ⟨Nat.le_of_ble_eq_true rfl, Nat.le_of_ble_eq_true rfl⟩) hP hD hS [5, 6, 7, 8] [0, 1, 2, 3, 4, 9] rfl rfl rfl rfl rfl rfl hl.1 rfl (Nat.le_of_ble_eq_true rfl) dX8_carryOutLamp_85 ⟨Nat.le_of_ble_eq_true rfl, Nat.le_of_ble_eq_true rfl⟩ (fun H locs hP hD hS => ?_)
                  have hP : va_P E.1 vwCl (bl [[((fa2 7), .inr (0, [.ref (fa2 8), .ref (fa2 9), .ref (fa2 10), .int (Ch_kind (St_Ch v2)), .int (Ch_present (St_Ch v2)), .int (Ch_change (St_Ch v2)), .int (Ch_changeLeft (St_Ch v2))]))], [((fa2 8), .inl (E.2.1, 6, .inl (Ch_intensities (St_Ch v2))))], [((fa2 9), .inl (E.2.1, 6, .inl (Ch_lives (St_Ch v2))))], [((fa2 10), .inl (E.2.1, 6, .inl (Ch_uses (St_Ch v2))))], Tx_c E o qa qb q3.2, [((fa2 0), .inr (5, [.ref (fa2 2), .ref (fa2 4), .ref (fa2 7), .ref (fa2 11), .ref (fa2 1), .int (So_tick (St_So v2)), .int (So_clear (St_So v2)), .int (So_changesBegun (St_So v2))]))], [((fa2 1), .inl (E.2.1, 4, .inl (So_spent (St_So v2))))], Ci_c E (fa2 2) (fa2 3) (St_Ci v2), Fl_c E (fa2 4) (fa2 5) (fa2 6) (St_Fl v2), Lo_c E (fa2 11) (fa2 12) (fa2 13) (fa2 14) (fa2 15) (fa2 16) (St_Lo v2)]) H := hP
                  have hD : va_D A (bl [[((fa2 7), .inr (0, [.ref (fa2 8), .ref (fa2 9), .ref (fa2 10), .int (Ch_kind (St_Ch v2)), .int (Ch_present (St_Ch v2)), .int (Ch_change (St_Ch v2)), .int (Ch_changeLeft (St_Ch v2))]))], [((fa2 8), .inl (E.2.1, 6, .inl (Ch_intensities (St_Ch v2))))], [((fa2 9), .inl (E.2.1, 6, .inl (Ch_lives (St_Ch v2))))], [((fa2 10), .inl (E.2.1, 6, .inl (Ch_uses (St_Ch v2))))], Tx_c E o qa qb q3.2, [((fa2 0), .inr (5, [.ref (fa2 2), .ref (fa2 4), .ref (fa2 7), .ref (fa2 11), .ref (fa2 1), .int (So_tick (St_So v2)), .int (So_clear (St_So v2)), .int (So_changesBegun (St_So v2))]))], [((fa2 1), .inl (E.2.1, 4, .inl (So_spent (St_So v2))))], Ci_c E (fa2 2) (fa2 3) (St_Ci v2), Fl_c E (fa2 4) (fa2 5) (fa2 6) (St_Fl v2), Lo_c E (fa2 11) (fa2 12) (fa2 13) (fa2 14) (fa2 15) (fa2 16) (St_Lo v2)]) := hD
                  refine W.eq (g2 := F0 m 88 ls [.int q4]) rfl ?_
                  refine lv_istore (lv' := [(5, .int q4), (4, .int q3.1), (3, .int q2.1), (2, .int q1.1), (0, .ref o), (1, .ref (fa2 0))]) hx hb dX8_carryOutLamp_88 hl (by decide) rfl (fun ls hl => ?_)
                  refine lv_iload hx hb dX8_carryOutLamp_90 (lv_at hl 0 rfl) ?_
                  refine lv_iconst (v := (-1)) hx hb dX8_carryOutLamp_92 (by decide) ?_
                  refine f_icmp_ne (tgt := 98) hx hb dX8_carryOutLamp_93 (by decide) hF (fun hF => ?_) (fun hF => ?_)
                  · refine lv_aload_n hx hb dX8_carryOutLamp_98 rfl (lv_at hl 4 rfl) ?_
                    refine lv_bipush (v := 59) hx hb dX8_carryOutLamp_99 (by decide) ?_
                    obtain ⟨q5, h_q5, hF⟩ := bnd_s hF
                    refine g_callV (As := [.int 59]) (rest := []) ⟨hx, hb, hml, hown, hts⟩ hK hZ hA (c_X8_skips l E o qa qb q3.2 (59) q5 h_q5) (cwV 1 hts gX8_carryOutLamp_X8_skips rfl rfl rfl (by decide +kernel) ⟨Nat.le_of_ble_eq_true rfl, Nat.le_of_ble_eq_true rfl⟩) hP hD hS [4] [0, 1, 2, 3, 5, 6, 7, 8, 9] rfl rfl rfl rfl rfl rfl hl.1 rfl (Nat.le_of_ble_eq_true rfl) dX8_carryOutLamp_101 ⟨Nat.le_of_ble_eq_true rfl, Nat.le_of_ble_eq_true rfl⟩ (fun H locs hP hD hS => ?_)
                    have hP : va_P E.1 vwCl (bl [Tx_c E o qa qb q5.2, [((fa2 7), .inr (0, [.ref (fa2 8), .ref (fa2 9), .ref (fa2 10), .int (Ch_kind (St_Ch v2)), .int (Ch_present (St_Ch v2)), .int (Ch_change (St_Ch v2)), .int (Ch_changeLeft (St_Ch v2))]))], [((fa2 8), .inl (E.2.1, 6, .inl (Ch_intensities (St_Ch v2))))], [((fa2 9), .inl (E.2.1, 6, .inl (Ch_lives (St_Ch v2))))], [((fa2 10), .inl (E.2.1, 6, .inl (Ch_uses (St_Ch v2))))], [((fa2 0), .inr (5, [.ref (fa2 2), .ref (fa2 4), .ref (fa2 7), .ref (fa2 11), .ref (fa2 1), .int (So_tick (St_So v2)), .int (So_clear (St_So v2)), .int (So_changesBegun (St_So v2))]))], [((fa2 1), .inl (E.2.1, 4, .inl (So_spent (St_So v2))))], Ci_c E (fa2 2) (fa2 3) (St_Ci v2), Fl_c E (fa2 4) (fa2 5) (fa2 6) (St_Fl v2), Lo_c E (fa2 11) (fa2 12) (fa2 13) (fa2 14) (fa2 15) (fa2 16) (St_Lo v2)]) H := hP
                    have hD : va_D A (bl [Tx_c E o qa qb q5.2, [((fa2 7), .inr (0, [.ref (fa2 8), .ref (fa2 9), .ref (fa2 10), .int (Ch_kind (St_Ch v2)), .int (Ch_present (St_Ch v2)), .int (Ch_change (St_Ch v2)), .int (Ch_changeLeft (St_Ch v2))]))], [((fa2 8), .inl (E.2.1, 6, .inl (Ch_intensities (St_Ch v2))))], [((fa2 9), .inl (E.2.1, 6, .inl (Ch_lives (St_Ch v2))))], [((fa2 10), .inl (E.2.1, 6, .inl (Ch_uses (St_Ch v2))))], [((fa2 0), .inr (5, [.ref (fa2 2), .ref (fa2 4), .ref (fa2 7), .ref (fa2 11), .ref (fa2 1), .int (So_tick (St_So v2)), .int (So_clear (St_So v2)), .int (So_changesBegun (St_So v2))]))], [((fa2 1), .inl (E.2.1, 4, .inl (So_spent (St_So v2))))], Ci_c E (fa2 2) (fa2 3) (St_Ci v2), Fl_c E (fa2 4) (fa2 5) (fa2 6) (St_Fl v2), Lo_c E (fa2 11) (fa2 12) (fa2 13) (fa2 14) (fa2 15) (fa2 16) (St_Lo v2)]) := hD
                    refine W.eq (g2 := F0 m 104 ls [.int q5.1]) rfl ?_
                    refine f_if_ne (tgt := 110) hx hb dX8_carryOutLamp_104 (by decide) hF (fun hF => ?_) (fun hF => ?_)
                    · refine lv_aload_n hx hb dX8_carryOutLamp_110 rfl (lv_at hl 5 rfl) ?_
                      refine g_getN (T := TX7) (N := 8) hx hb hts in_X7 hown hK hP 5 rfl rfl 2 (by decide) w0 rfl rfl dX8_carryOutLamp_111 ?_
                      refine lv_iload hx hb dX8_carryOutLamp_114 (lv_at hl 0 rfl) ?_
                      refine lv_iload_n hx hb dX8_carryOutLamp_116 rfl (lv_at hl 2 rfl) ?_
                      refine lv_iload hx hb dX8_carryOutLamp_117 (lv_at hl 1 rfl) ?_
                      obtain ⟨q6, h_q6, hF⟩ := bnd_s hF
                      refine g_callV (As := [.int q4, .int q2.1, .int q3.1]) (rest := []) ⟨hx, hb, hml, hown, hts⟩ hK hZ hA (c_X1_insert l E (fa2 7) (fa2 8) (fa2 9) (fa2 10) (St_Ch v2) q4 q2.1 q3.1 q6 h_q6) (cwV 3 hts gX8_carryOutLamp_X1_insert rfl rfl rfl (by decide +kernel) ⟨Nat.le_of_ble_eq_true rfl, Nat.le_of_ble_eq_true rfl⟩) hP hD hS [1, 2, 3, 4] [0, 5, 6, 7, 8, 9] rfl rfl rfl rfl rfl rfl hl.1 rfl (Nat.le_of_ble_eq_true rfl) dX8_carryOutLamp_119 ⟨Nat.le_of_ble_eq_true rfl, Nat.le_of_ble_eq_true rfl⟩ (fun H locs hP hD hS => ?_)
                      have hP : va_P E.1 vwCl (bl [[((fa2 7), .inr (0, [.ref (fa2 8), .ref (fa2 9), .ref (fa2 10), .int (Ch_kind q6), .int (Ch_present q6), .int (Ch_change q6), .int (Ch_changeLeft q6)]))], [((fa2 8), .inl (E.2.1, 6, .inl (Ch_intensities q6)))], [((fa2 9), .inl (E.2.1, 6, .inl (Ch_lives q6)))], [((fa2 10), .inl (E.2.1, 6, .inl (Ch_uses q6)))], Tx_c E o qa qb q5.2, [((fa2 0), .inr (5, [.ref (fa2 2), .ref (fa2 4), .ref (fa2 7), .ref (fa2 11), .ref (fa2 1), .int (So_tick (St_So v2)), .int (So_clear (St_So v2)), .int (So_changesBegun (St_So v2))]))], [((fa2 1), .inl (E.2.1, 4, .inl (So_spent (St_So v2))))], Ci_c E (fa2 2) (fa2 3) (St_Ci v2), Fl_c E (fa2 4) (fa2 5) (fa2 6) (St_Fl v2), Lo_c E (fa2 11) (fa2 12) (fa2 13) (fa2 14) (fa2 15) (fa2 16) (St_Lo v2)]) H := hP
                      have hD : va_D A (bl [[((fa2 7), .inr (0, [.ref (fa2 8), .ref (fa2 9), .ref (fa2 10), .int (Ch_kind q6), .int (Ch_present q6), .int (Ch_change q6), .int (Ch_changeLeft q6)]))], [((fa2 8), .inl (E.2.1, 6, .inl (Ch_intensities q6)))], [((fa2 9), .inl (E.2.1, 6, .inl (Ch_lives q6)))], [((fa2 10), .inl (E.2.1, 6, .inl (Ch_uses q6)))], Tx_c E o qa qb q5.2, [((fa2 0), .inr (5, [.ref (fa2 2), .ref (fa2 4), .ref (fa2 7), .ref (fa2 11), .ref (fa2 1), .int (So_tick (St_So v2)), .int (So_clear (St_So v2)), .int (So_changesBegun (St_So v2))]))], [((fa2 1), .inl (E.2.1, 4, .inl (So_spent (St_So v2))))], Ci_c E (fa2 2) (fa2 3) (St_Ci v2), Fl_c E (fa2 4) (fa2 5) (fa2 6) (St_Fl v2), Lo_c E (fa2 11) (fa2 12) (fa2 13) (fa2 14) (fa2 15) (fa2 16) (St_Lo v2)]) := hD
                      refine W.eq (g2 := F0 m 122 ls []) rfl ?_
                      refine lv_iconst (v := 0) hx hb dX8_carryOutLamp_122 (by decide) ?_
                      exact g_iret (rvf := fun z => some (.int z.1)) (W1f := fun z => bl [Tx_c E o qa qb z.2.1, St_c E fa2 z.2.2]) hx hb hr hlocks hQ hF rfl hP hD hS [4, 5, 6, 7, 8, 0, 1, 2, 3, 9] rfl rfl dX8_carryOutLamp_123
                    · refine lv_bipush (v := 6) hx hb dX8_carryOutLamp_107 (by decide) ?_
                      exact g_iret (rvf := fun z => some (.int z.1)) (W1f := fun z => bl [Tx_c E o qa qb z.2.1, St_c E fa2 z.2.2]) hx hb hr hlocks hQ hF rfl hP hD hS [0, 5, 6, 7, 8, 1, 2, 3, 4, 9] rfl rfl dX8_carryOutLamp_109
                  · refine lv_iconst (v := 5) hx hb dX8_carryOutLamp_96 (by decide) ?_
                    exact g_iret (rvf := fun z => some (.int z.1)) (W1f := fun z => bl [Tx_c E o qa qb z.2.1, St_c E fa2 z.2.2]) hx hb hr hlocks hQ hF rfl hP hD hS [4, 5, 6, 7, 8, 0, 1, 2, 3, 9] rfl rfl dX8_carryOutLamp_97
                · refine lv_iconst (v := 4) hx hb dX8_carryOutLamp_79 (by decide) ?_
                  exact g_iret (rvf := fun z => some (.int z.1)) (W1f := fun z => bl [Tx_c E o qa qb z.2.1, St_c E fa2 z.2.2]) hx hb hr hlocks hQ hF rfl hP hD hS [0, 1, 2, 3, 4, 5, 6, 7, 8, 9] rfl rfl dX8_carryOutLamp_80
              · refine lv_iconst (v := 3) hx hb dX8_carryOutLamp_66 (by decide) ?_
                exact g_iret (rvf := fun z => some (.int z.1)) (W1f := fun z => bl [Tx_c E o qa qb z.2.1, St_c E fa2 z.2.2]) hx hb hr hlocks hQ hF rfl hP hD hS [0, 1, 2, 3, 4, 5, 6, 7, 8, 9] rfl rfl dX8_carryOutLamp_67
      · refine lv_iconst (v := 2) hx hb dX8_carryOutLamp_38 (by decide) ?_
        exact g_iret (rvf := fun z => some (.int z.1)) (W1f := fun z => bl [Tx_c E o qa qb z.2.1, St_c E fa2 z.2.2]) hx hb hr hlocks hQ hF rfl hP hD hS [0, 1, 2, 3, 4, 5, 6, 7, 8, 9] rfl rfl dX8_carryOutLamp_39
  · refine lv_iconst (v := 1) hx hb dX8_carryOutLamp_14 (by decide) ?_
    exact g_iret (rvf := fun z => some (.int z.1)) (W1f := fun z => bl [Tx_c E o qa qb z.2.1, St_c E fa2 z.2.2]) hx hb hr hlocks hQ hF rfl hP hD hS [0, 1, 2, 3, 4, 5, 6, 7, 8, 9] rfl rfl dX8_carryOutLamp_15
def F_X8_reasonOf (v : TxV) (p0 : Int32) (p1 : Int32) (p2 : Int32) : Option (Int32 × TxV) := if p0 = (-1) then some (2, v) else if p0 < p1 then some (3, v) else if p0 ≤ p2 then (F_X8_skips v 59).bind fun q1 => if q1.1 = 0 then some (6, q1.2) else some (0, q1.2) else some (3, v)
set_option maxHeartbeats 4000000 in
set_option maxRecDepth 100000 in
theorem c_X8_reasonOf (l : Launch) (E : GE) (o : Nat) (qa : Nat) (qb : Nat) (v : TxV) (p0 : Int32) (p1 : Int32) (p2 : Int32) (r : Int32 × TxV) (hF : F_X8_reasonOf v p0 p1 p2 = some r) : CT l E yX8_reasonOf wsX8_reasonOf ({ frames := 2, cells := 0, slots := 0, locals := 42 } : Room) [.ref o, .int p0, .int p1, .int p2] (bl [Tx_c E o qa qb v]) (some (.int r.1)) (bl [Tx_c E o qa qb r.2]) 0 0 := by
  refine CT.of (cc := cX8_reasonOf) (maxL := 4) (ret := (some .int)) (by decide) rfl (Nat.le_of_ble_eq_true rfl) ?_
  intro p e s m args below meth cd A Q ls B hQ hP hD hS hl
  obtain ⟨hx, hb, hml, hown, hts, hr, hlocks, hK, hZ, hA, hnm⟩ := B
  have hown : s.vm.findClass RX8 = some m.cls := hown
  have hl : lv_has ls 4 [(0, .ref o), (1, .int p0), (2, .int p1), (3, .int p2)] := hl
  unfold F_X8_reasonOf at hF
  refine lv_iload_n hx hb dX8_reasonOf_0 rfl (lv_at hl 1 rfl) ?_
  refine lv_iconst (v := (-1)) hx hb dX8_reasonOf_1 (by decide) ?_
  refine f_icmp_ne (tgt := 7) hx hb dX8_reasonOf_2 (by decide) hF (fun hF => ?_) (fun hF => ?_)
  · refine lv_iload_n hx hb dX8_reasonOf_7 rfl (lv_at hl 1 rfl) ?_
    refine lv_iload_n hx hb dX8_reasonOf_8 rfl (lv_at hl 2 rfl) ?_
    refine f_icmp_lt (tgt := 17) hx hb dX8_reasonOf_9 (by decide) hF (fun hF => ?_) (fun hF => ?_)
    · refine lv_iconst (v := 3) hx hb dX8_reasonOf_17 (by decide) ?_
      exact g_iret (rvf := fun z => some (.int z.1)) (W1f := fun z => bl [Tx_c E o qa qb z.2]) hx hb hr hlocks hQ hF rfl hP hD hS [0] rfl rfl dX8_reasonOf_18
    · refine lv_iload_n hx hb dX8_reasonOf_12 rfl (lv_at hl 1 rfl) ?_
      refine lv_iload_n hx hb dX8_reasonOf_13 rfl (lv_at hl 3 rfl) ?_
      refine f_icmp_le (tgt := 19) hx hb dX8_reasonOf_14 (by decide) hF (fun hF => ?_) (fun hF => ?_)
      · refine lv_aload_n hx hb dX8_reasonOf_19 rfl (lv_at hl 0 rfl) ?_
        refine lv_bipush (v := 59) hx hb dX8_reasonOf_20 (by decide) ?_
        obtain ⟨q1, h_q1, hF⟩ := bnd_s hF
        refine g_callV (As := [.int 59]) (rest := []) ⟨hx, hb, hml, hown, hts⟩ hK hZ hA (c_X8_skips l E o qa qb v (59) q1 h_q1) (cwV 1 hts gX8_reasonOf_X8_skips rfl rfl rfl (by decide +kernel) ⟨Nat.le_of_ble_eq_true rfl, Nat.le_of_ble_eq_true rfl⟩) hP hD hS [0] [] rfl rfl rfl rfl rfl rfl hl.1 rfl (Nat.le_of_ble_eq_true rfl) dX8_reasonOf_22 ⟨Nat.le_of_ble_eq_true rfl, Nat.le_of_ble_eq_true rfl⟩ (fun H locs hP hD hS => ?_)
        have hP : va_P E.1 vwCl (bl [Tx_c E o qa qb q1.2]) H := hP
        have hD : va_D A (bl [Tx_c E o qa qb q1.2]) := hD
        refine W.eq (g2 := F0 m 25 ls [.int q1.1]) rfl ?_
        refine f_if_eq (tgt := 32) hx hb dX8_reasonOf_25 (by decide) hF (fun hF => ?_) (fun hF => ?_)
        · refine lv_bipush (v := 6) hx hb dX8_reasonOf_32 (by decide) ?_
          exact g_iret (rvf := fun z => some (.int z.1)) (W1f := fun z => bl [Tx_c E o qa qb z.2]) hx hb hr hlocks hQ hF rfl hP hD hS [0] rfl rfl dX8_reasonOf_34
        · refine lv_iconst (v := 0) hx hb dX8_reasonOf_28 (by decide) ?_
          refine lv_goto (tgt := 34) hx hb dX8_reasonOf_29 (by decide) ?_
          exact g_iret (rvf := fun z => some (.int z.1)) (W1f := fun z => bl [Tx_c E o qa qb z.2]) hx hb hr hlocks hQ hF rfl hP hD hS [0] rfl rfl dX8_reasonOf_34
      · refine lv_iconst (v := 3) hx hb dX8_reasonOf_17 (by decide) ?_
        exact g_iret (rvf := fun z => some (.int z.1)) (W1f := fun z => bl [Tx_c E o qa qb z.2]) hx hb hr hlocks hQ hF rfl hP hD hS [0] rfl rfl dX8_reasonOf_18
  · refine lv_iconst (v := 2) hx hb dX8_reasonOf_5 (by decide) ?_
    exact g_iret (rvf := fun z => some (.int z.1)) (W1f := fun z => bl [Tx_c E o qa qb z.2]) hx hb hr hlocks hQ hF rfl hP hD hS [0] rfl rfl dX8_reasonOf_6
def F_X8_carryOutClear (n : Nat) (v : TxV) (v2 : StV) : Option (Int32 × TxV × StV) := (F_X8_readNumber n v).bind fun q1 => (F_X8_reasonOf q1.2 q1.1 1 100).bind fun q2 => if q2.1 = 0 then some (q2.1, q2.2, (St_mk (So_mk (So_spent (St_So v2)) (So_tick (St_So v2)) q1.1 (So_changesBegun (St_So v2))) (St_Ci v2) (St_Fl v2) (St_Ch v2) (St_Lo v2))) else some (q2.1, q2.2, v2)
set_option maxHeartbeats 4000000 in
set_option maxRecDepth 100000 in
theorem c_X8_carryOutClear (l : Launch) (E : GE) (o : Nat) (qa : Nat) (qb : Nat) (fa2 : Nat → Nat) (n : Nat) (v : TxV) (v2 : StV) (r : Int32 × TxV × StV) (hF : F_X8_carryOutClear n v v2 = some r) : CT l E yX8_carryOutClear wsX8_carryOutClear ({ frames := 3, cells := 0, slots := 0, locals := 65 } : Room) [.ref o, .ref (fa2 0)] (bl [Tx_c E o qa qb v, St_c E fa2 v2]) (some (.int r.1)) (bl [Tx_c E o qa qb r.2.1, St_c E fa2 r.2.2]) 0 0 := by
  refine CT.of (cc := cX8_carryOutClear) (maxL := 4) (ret := (some .int)) (by decide) rfl (Nat.le_of_ble_eq_true rfl) ?_
  intro p e s m args below meth cd A Q ls B hQ hP hD hS hl
  obtain ⟨hx, hb, hml, hown, hts, hr, hlocks, hK, hZ, hA, hnm⟩ := B
  have hown : s.vm.findClass RX8 = some m.cls := hown
  have hl : lv_has ls 4 [(0, .ref o), (1, .ref (fa2 0))] := hl
  have w0 := va_Nw.use (A := args) rfl (hZ.2.2.2.2.2.2.1 23 _ rfl)
  have in_X7 : ∀ w ∈ wsX70, w ∈ wsX8_carryOutClear := by decide +kernel
  have hP : va_P E.1 vwCl (bl [Tx_c E o qa qb v, [((fa2 0), .inr (5, [.ref (fa2 2), .ref (fa2 4), .ref (fa2 7), .ref (fa2 11), .ref (fa2 1), .int (So_tick (St_So v2)), .int (So_clear (St_So v2)), .int (So_changesBegun (St_So v2))]))], [((fa2 1), .inl (E.2.1, 4, .inl (So_spent (St_So v2))))], Ci_c E (fa2 2) (fa2 3) (St_Ci v2), Fl_c E (fa2 4) (fa2 5) (fa2 6) (St_Fl v2), Ch_c E (fa2 7) (fa2 8) (fa2 9) (fa2 10) (St_Ch v2), Lo_c E (fa2 11) (fa2 12) (fa2 13) (fa2 14) (fa2 15) (fa2 16) (St_Lo v2)]) s.heap := hP
  have hD : va_D A (bl [Tx_c E o qa qb v, [((fa2 0), .inr (5, [.ref (fa2 2), .ref (fa2 4), .ref (fa2 7), .ref (fa2 11), .ref (fa2 1), .int (So_tick (St_So v2)), .int (So_clear (St_So v2)), .int (So_changesBegun (St_So v2))]))], [((fa2 1), .inl (E.2.1, 4, .inl (So_spent (St_So v2))))], Ci_c E (fa2 2) (fa2 3) (St_Ci v2), Fl_c E (fa2 4) (fa2 5) (fa2 6) (St_Fl v2), Ch_c E (fa2 7) (fa2 8) (fa2 9) (fa2 10) (St_Ch v2), Lo_c E (fa2 11) (fa2 12) (fa2 13) (fa2 14) (fa2 15) (fa2 16) (St_Lo v2)]) := hD
  unfold F_X8_carryOutClear at hF
  refine lv_aload_n hx hb dX8_carryOutClear_0 rfl (lv_at hl 0 rfl) ?_
  obtain ⟨q1, h_q1, hF⟩ := bnd_s hF
  refine g_callV (As := []) (rest := []) ⟨hx, hb, hml, hown, hts⟩ hK hZ hA (c_X8_readNumber l E o qa qb n v q1 h_q1) (cwV 0 hts gX8_carryOutClear_X8_readNumber rfl rfl rfl (by decide +kernel) ⟨Nat.le_of_ble_eq_true rfl, Nat.le_of_ble_eq_true rfl⟩) hP hD hS [0] [1, 2, 3, 4, 5, 6] rfl rfl rfl rfl rfl rfl hl.1 rfl (Nat.le_of_ble_eq_true rfl) dX8_carryOutClear_1 ⟨Nat.le_of_ble_eq_true rfl, Nat.le_of_ble_eq_true rfl⟩ (fun H locs hP hD hS => ?_)
  have hP : va_P E.1 vwCl (bl [Tx_c E o qa qb q1.2, [((fa2 0), .inr (5, [.ref (fa2 2), .ref (fa2 4), .ref (fa2 7), .ref (fa2 11), .ref (fa2 1), .int (So_tick (St_So v2)), .int (So_clear (St_So v2)), .int (So_changesBegun (St_So v2))]))], [((fa2 1), .inl (E.2.1, 4, .inl (So_spent (St_So v2))))], Ci_c E (fa2 2) (fa2 3) (St_Ci v2), Fl_c E (fa2 4) (fa2 5) (fa2 6) (St_Fl v2), Ch_c E (fa2 7) (fa2 8) (fa2 9) (fa2 10) (St_Ch v2), Lo_c E (fa2 11) (fa2 12) (fa2 13) (fa2 14) (fa2 15) (fa2 16) (St_Lo v2)]) H := hP
  have hD : va_D A (bl [Tx_c E o qa qb q1.2, [((fa2 0), .inr (5, [.ref (fa2 2), .ref (fa2 4), .ref (fa2 7), .ref (fa2 11), .ref (fa2 1), .int (So_tick (St_So v2)), .int (So_clear (St_So v2)), .int (So_changesBegun (St_So v2))]))], [((fa2 1), .inl (E.2.1, 4, .inl (So_spent (St_So v2))))], Ci_c E (fa2 2) (fa2 3) (St_Ci v2), Fl_c E (fa2 4) (fa2 5) (fa2 6) (St_Fl v2), Ch_c E (fa2 7) (fa2 8) (fa2 9) (fa2 10) (St_Ch v2), Lo_c E (fa2 11) (fa2 12) (fa2 13) (fa2 14) (fa2 15) (fa2 16) (St_Lo v2)]) := hD
  refine W.eq (g2 := F0 m 4 ls [.int q1.1]) rfl ?_
  refine lv_istore_n (lv' := [(2, .int q1.1), (0, .ref o), (1, .ref (fa2 0))]) hx hb dX8_carryOutClear_4 rfl hl (by decide) rfl (fun ls hl => ?_)
  refine lv_aload_n hx hb dX8_carryOutClear_5 rfl (lv_at hl 1 rfl) ?_
  refine lv_iload_n hx hb dX8_carryOutClear_6 rfl (lv_at hl 0 rfl) ?_
  refine lv_iconst (v := 1) hx hb dX8_carryOutClear_7 (by decide) ?_
  refine lv_bipush (v := 100) hx hb dX8_carryOutClear_8 (by decide) ?_
  obtain ⟨q2, h_q2, hF⟩ := bnd_s hF
  refine g_callV (As := [.int q1.1, .int 1, .int 100]) (rest := []) ⟨hx, hb, hml, hown, hts⟩ hK hZ hA (c_X8_reasonOf l E o qa qb q1.2 q1.1 (1) (100) q2 h_q2) (cwV 3 hts gX8_carryOutClear_X8_reasonOf rfl rfl rfl (by decide +kernel) ⟨Nat.le_of_ble_eq_true rfl, Nat.le_of_ble_eq_true rfl⟩) hP hD hS [0] [1, 2, 3, 4, 5, 6] rfl rfl rfl rfl rfl rfl hl.1 rfl (Nat.le_of_ble_eq_true rfl) dX8_carryOutClear_10 ⟨Nat.le_of_ble_eq_true rfl, Nat.le_of_ble_eq_true rfl⟩ (fun H locs hP hD hS => ?_)
  have hP : va_P E.1 vwCl (bl [Tx_c E o qa qb q2.2, [((fa2 0), .inr (5, [.ref (fa2 2), .ref (fa2 4), .ref (fa2 7), .ref (fa2 11), .ref (fa2 1), .int (So_tick (St_So v2)), .int (So_clear (St_So v2)), .int (So_changesBegun (St_So v2))]))], [((fa2 1), .inl (E.2.1, 4, .inl (So_spent (St_So v2))))], Ci_c E (fa2 2) (fa2 3) (St_Ci v2), Fl_c E (fa2 4) (fa2 5) (fa2 6) (St_Fl v2), Ch_c E (fa2 7) (fa2 8) (fa2 9) (fa2 10) (St_Ch v2), Lo_c E (fa2 11) (fa2 12) (fa2 13) (fa2 14) (fa2 15) (fa2 16) (St_Lo v2)]) H := hP
  have hD : va_D A (bl [Tx_c E o qa qb q2.2, [((fa2 0), .inr (5, [.ref (fa2 2), .ref (fa2 4), .ref (fa2 7), .ref (fa2 11), .ref (fa2 1), .int (So_tick (St_So v2)), .int (So_clear (St_So v2)), .int (So_changesBegun (St_So v2))]))], [((fa2 1), .inl (E.2.1, 4, .inl (So_spent (St_So v2))))], Ci_c E (fa2 2) (fa2 3) (St_Ci v2), Fl_c E (fa2 4) (fa2 5) (fa2 6) (St_Fl v2), Ch_c E (fa2 7) (fa2 8) (fa2 9) (fa2 10) (St_Ch v2), Lo_c E (fa2 11) (fa2 12) (fa2 13) (fa2 14) (fa2 15) (fa2 16) (St_Lo v2)]) := hD
  refine W.eq (g2 := F0 m 13 ls [.int q2.1]) rfl ?_
  refine lv_istore_n (lv' := [(3, .int q2.1), (2, .int q1.1), (0, .ref o), (1, .ref (fa2 0))]) hx hb dX8_carryOutClear_13 rfl hl (by decide) rfl (fun ls hl => ?_)
  refine lv_iload_n hx hb dX8_carryOutClear_14 rfl (lv_at hl 0 rfl) ?_
  refine f_if_ne (tgt := 23) hx hb dX8_carryOutClear_15 (by decide) hF (fun hF => ?_) (fun hF => ?_)
  · refine lv_iload_n hx hb dX8_carryOutClear_23 rfl (lv_at hl 0 rfl) ?_
    exact g_iret (rvf := fun z => some (.int z.1)) (W1f := fun z => bl [Tx_c E o qa qb z.2.1, St_c E fa2 z.2.2]) hx hb hr hlocks hQ hF rfl hP hD hS [0, 1, 2, 3, 4, 5, 6] rfl rfl dX8_carryOutClear_24
  · refine lv_aload_n hx hb dX8_carryOutClear_18 rfl (lv_at hl 3 rfl) ?_
    refine lv_iload_n hx hb dX8_carryOutClear_19 rfl (lv_at hl 1 rfl) ?_
    refine g_putN (T := TX7) (N := 8) hx hb hts in_X7 tyX7 tyX7_ok nmX7 hown hK hP hD hS 1 rfl rfl 6 (by decide) w0 rfl rfl rfl rfl (Nat.le_of_ble_eq_true rfl) dX8_carryOutClear_20 (fun H locs hP hD hS => ?_)
    have hP : va_P E.1 vwCl (bl [Tx_c E o qa qb q2.2, [((fa2 0), .inr (5, [.ref (fa2 2), .ref (fa2 4), .ref (fa2 7), .ref (fa2 11), .ref (fa2 1), .int (So_tick (St_So v2)), .int q1.1, .int (So_changesBegun (St_So v2))]))], [((fa2 1), .inl (E.2.1, 4, .inl (So_spent (St_So v2))))], Ci_c E (fa2 2) (fa2 3) (St_Ci v2), Fl_c E (fa2 4) (fa2 5) (fa2 6) (St_Fl v2), Ch_c E (fa2 7) (fa2 8) (fa2 9) (fa2 10) (St_Ch v2), Lo_c E (fa2 11) (fa2 12) (fa2 13) (fa2 14) (fa2 15) (fa2 16) (St_Lo v2)]) H := hP
    have hD : va_D A (bl [Tx_c E o qa qb q2.2, [((fa2 0), .inr (5, [.ref (fa2 2), .ref (fa2 4), .ref (fa2 7), .ref (fa2 11), .ref (fa2 1), .int (So_tick (St_So v2)), .int q1.1, .int (So_changesBegun (St_So v2))]))], [((fa2 1), .inl (E.2.1, 4, .inl (So_spent (St_So v2))))], Ci_c E (fa2 2) (fa2 3) (St_Ci v2), Fl_c E (fa2 4) (fa2 5) (fa2 6) (St_Fl v2), Ch_c E (fa2 7) (fa2 8) (fa2 9) (fa2 10) (St_Ch v2), Lo_c E (fa2 11) (fa2 12) (fa2 13) (fa2 14) (fa2 15) (fa2 16) (St_Lo v2)]) := hD
    refine lv_iload_n hx hb dX8_carryOutClear_23 rfl (lv_at hl 0 rfl) ?_
    exact g_iret (rvf := fun z => some (.int z.1)) (W1f := fun z => bl [Tx_c E o qa qb z.2.1, St_c E fa2 z.2.2]) hx hb hr hlocks hQ hF rfl hP hD hS [0, 1, 2, 3, 4, 5, 6] rfl rfl dX8_carryOutClear_24
def F_X8_carryOutChange (n : Nat) (v : TxV) (v2 : StV) : Option (Int32 × TxV × StV) := (F_X8_readNumber n v).bind fun q1 => (F_X8_reasonOf q1.2 q1.1 0 50).bind fun q2 => if q2.1 = 0 then some (q2.1, q2.2, (St_mk (St_So v2) (St_Ci v2) (St_Fl v2) (Ch_mk (Ch_intensities (St_Ch v2)) (Ch_lives (St_Ch v2)) (Ch_uses (St_Ch v2)) (Ch_kind (St_Ch v2)) (Ch_present (St_Ch v2)) q1.1 (Ch_changeLeft (St_Ch v2))) (St_Lo v2))) else some (q2.1, q2.2, v2)
set_option maxHeartbeats 4000000 in
set_option maxRecDepth 100000 in
theorem c_X8_carryOutChange (l : Launch) (E : GE) (o : Nat) (qa : Nat) (qb : Nat) (fa2 : Nat → Nat) (n : Nat) (v : TxV) (v2 : StV) (r : Int32 × TxV × StV) (hF : F_X8_carryOutChange n v v2 = some r) : CT l E yX8_carryOutChange wsX8_carryOutChange ({ frames := 3, cells := 0, slots := 0, locals := 65 } : Room) [.ref o, .ref (fa2 0)] (bl [Tx_c E o qa qb v, St_c E fa2 v2]) (some (.int r.1)) (bl [Tx_c E o qa qb r.2.1, St_c E fa2 r.2.2]) 0 0 := by
  refine CT.of (cc := cX8_carryOutChange) (maxL := 4) (ret := (some .int)) (by decide) rfl (Nat.le_of_ble_eq_true rfl) ?_
  intro p e s m args below meth cd A Q ls B hQ hP hD hS hl
  obtain ⟨hx, hb, hml, hown, hts, hr, hlocks, hK, hZ, hA, hnm⟩ := B
  have hown : s.vm.findClass RX8 = some m.cls := hown
  have hl : lv_has ls 4 [(0, .ref o), (1, .ref (fa2 0))] := hl
  have w0 := va_Nw.use (A := args) rfl (hZ.2.2.2.2.2.2.1 21 _ rfl)
  have w1 := va_Nw.use (A := args) rfl (hZ.2.2.2.2.2.2.1 24 _ rfl)
  have in_X1 : ∀ w ∈ wsX10, w ∈ wsX8_carryOutChange := by decide +kernel
  have in_X7 : ∀ w ∈ wsX70, w ∈ wsX8_carryOutChange := by decide +kernel
  have hP : va_P E.1 vwCl (bl [Tx_c E o qa qb v, [((fa2 0), .inr (5, [.ref (fa2 2), .ref (fa2 4), .ref (fa2 7), .ref (fa2 11), .ref (fa2 1), .int (So_tick (St_So v2)), .int (So_clear (St_So v2)), .int (So_changesBegun (St_So v2))]))], [((fa2 1), .inl (E.2.1, 4, .inl (So_spent (St_So v2))))], Ci_c E (fa2 2) (fa2 3) (St_Ci v2), Fl_c E (fa2 4) (fa2 5) (fa2 6) (St_Fl v2), [((fa2 7), .inr (0, [.ref (fa2 8), .ref (fa2 9), .ref (fa2 10), .int (Ch_kind (St_Ch v2)), .int (Ch_present (St_Ch v2)), .int (Ch_change (St_Ch v2)), .int (Ch_changeLeft (St_Ch v2))]))], [((fa2 8), .inl (E.2.1, 6, .inl (Ch_intensities (St_Ch v2))))], [((fa2 9), .inl (E.2.1, 6, .inl (Ch_lives (St_Ch v2))))], [((fa2 10), .inl (E.2.1, 6, .inl (Ch_uses (St_Ch v2))))], Lo_c E (fa2 11) (fa2 12) (fa2 13) (fa2 14) (fa2 15) (fa2 16) (St_Lo v2)]) s.heap := hP
  have hD : va_D A (bl [Tx_c E o qa qb v, [((fa2 0), .inr (5, [.ref (fa2 2), .ref (fa2 4), .ref (fa2 7), .ref (fa2 11), .ref (fa2 1), .int (So_tick (St_So v2)), .int (So_clear (St_So v2)), .int (So_changesBegun (St_So v2))]))], [((fa2 1), .inl (E.2.1, 4, .inl (So_spent (St_So v2))))], Ci_c E (fa2 2) (fa2 3) (St_Ci v2), Fl_c E (fa2 4) (fa2 5) (fa2 6) (St_Fl v2), [((fa2 7), .inr (0, [.ref (fa2 8), .ref (fa2 9), .ref (fa2 10), .int (Ch_kind (St_Ch v2)), .int (Ch_present (St_Ch v2)), .int (Ch_change (St_Ch v2)), .int (Ch_changeLeft (St_Ch v2))]))], [((fa2 8), .inl (E.2.1, 6, .inl (Ch_intensities (St_Ch v2))))], [((fa2 9), .inl (E.2.1, 6, .inl (Ch_lives (St_Ch v2))))], [((fa2 10), .inl (E.2.1, 6, .inl (Ch_uses (St_Ch v2))))], Lo_c E (fa2 11) (fa2 12) (fa2 13) (fa2 14) (fa2 15) (fa2 16) (St_Lo v2)]) := hD
  unfold F_X8_carryOutChange at hF
  refine lv_aload_n hx hb dX8_carryOutChange_0 rfl (lv_at hl 0 rfl) ?_
  obtain ⟨q1, h_q1, hF⟩ := bnd_s hF
  refine g_callV (As := []) (rest := []) ⟨hx, hb, hml, hown, hts⟩ hK hZ hA (c_X8_readNumber l E o qa qb n v q1 h_q1) (cwV 0 hts gX8_carryOutChange_X8_readNumber rfl rfl rfl (by decide +kernel) ⟨Nat.le_of_ble_eq_true rfl, Nat.le_of_ble_eq_true rfl⟩) hP hD hS [0] [1, 2, 3, 4, 5, 6, 7, 8, 9] rfl rfl rfl rfl rfl rfl hl.1 rfl (Nat.le_of_ble_eq_true rfl) dX8_carryOutChange_1 ⟨Nat.le_of_ble_eq_true rfl, Nat.le_of_ble_eq_true rfl⟩ (fun H locs hP hD hS => ?_)
  have hP : va_P E.1 vwCl (bl [Tx_c E o qa qb q1.2, [((fa2 0), .inr (5, [.ref (fa2 2), .ref (fa2 4), .ref (fa2 7), .ref (fa2 11), .ref (fa2 1), .int (So_tick (St_So v2)), .int (So_clear (St_So v2)), .int (So_changesBegun (St_So v2))]))], [((fa2 1), .inl (E.2.1, 4, .inl (So_spent (St_So v2))))], Ci_c E (fa2 2) (fa2 3) (St_Ci v2), Fl_c E (fa2 4) (fa2 5) (fa2 6) (St_Fl v2), [((fa2 7), .inr (0, [.ref (fa2 8), .ref (fa2 9), .ref (fa2 10), .int (Ch_kind (St_Ch v2)), .int (Ch_present (St_Ch v2)), .int (Ch_change (St_Ch v2)), .int (Ch_changeLeft (St_Ch v2))]))], [((fa2 8), .inl (E.2.1, 6, .inl (Ch_intensities (St_Ch v2))))], [((fa2 9), .inl (E.2.1, 6, .inl (Ch_lives (St_Ch v2))))], [((fa2 10), .inl (E.2.1, 6, .inl (Ch_uses (St_Ch v2))))], Lo_c E (fa2 11) (fa2 12) (fa2 13) (fa2 14) (fa2 15) (fa2 16) (St_Lo v2)]) H := hP
  have hD : va_D A (bl [Tx_c E o qa qb q1.2, [((fa2 0), .inr (5, [.ref (fa2 2), .ref (fa2 4), .ref (fa2 7), .ref (fa2 11), .ref (fa2 1), .int (So_tick (St_So v2)), .int (So_clear (St_So v2)), .int (So_changesBegun (St_So v2))]))], [((fa2 1), .inl (E.2.1, 4, .inl (So_spent (St_So v2))))], Ci_c E (fa2 2) (fa2 3) (St_Ci v2), Fl_c E (fa2 4) (fa2 5) (fa2 6) (St_Fl v2), [((fa2 7), .inr (0, [.ref (fa2 8), .ref (fa2 9), .ref (fa2 10), .int (Ch_kind (St_Ch v2)), .int (Ch_present (St_Ch v2)), .int (Ch_change (St_Ch v2)), .int (Ch_changeLeft (St_Ch v2))]))], [((fa2 8), .inl (E.2.1, 6, .inl (Ch_intensities (St_Ch v2))))], [((fa2 9), .inl (E.2.1, 6, .inl (Ch_lives (St_Ch v2))))], [((fa2 10), .inl (E.2.1, 6, .inl (Ch_uses (St_Ch v2))))], Lo_c E (fa2 11) (fa2 12) (fa2 13) (fa2 14) (fa2 15) (fa2 16) (St_Lo v2)]) := hD
  refine W.eq (g2 := F0 m 4 ls [.int q1.1]) rfl ?_
  refine lv_istore_n (lv' := [(2, .int q1.1), (0, .ref o), (1, .ref (fa2 0))]) hx hb dX8_carryOutChange_4 rfl hl (by decide) rfl (fun ls hl => ?_)
  refine lv_aload_n hx hb dX8_carryOutChange_5 rfl (lv_at hl 1 rfl) ?_
  refine lv_iload_n hx hb dX8_carryOutChange_6 rfl (lv_at hl 0 rfl) ?_
  refine lv_iconst (v := 0) hx hb dX8_carryOutChange_7 (by decide) ?_
  refine lv_bipush (v := 50) hx hb dX8_carryOutChange_8 (by decide) ?_
  obtain ⟨q2, h_q2, hF⟩ := bnd_s hF
  refine g_callV (As := [.int q1.1, .int 0, .int 50]) (rest := []) ⟨hx, hb, hml, hown, hts⟩ hK hZ hA (c_X8_reasonOf l E o qa qb q1.2 q1.1 (0) (50) q2 h_q2) (cwV 3 hts gX8_carryOutChange_X8_reasonOf rfl rfl rfl (by decide +kernel) ⟨Nat.le_of_ble_eq_true rfl, Nat.le_of_ble_eq_true rfl⟩) hP hD hS [0] [1, 2, 3, 4, 5, 6, 7, 8, 9] rfl rfl rfl rfl rfl rfl hl.1 rfl (Nat.le_of_ble_eq_true rfl) dX8_carryOutChange_10 ⟨Nat.le_of_ble_eq_true rfl, Nat.le_of_ble_eq_true rfl⟩ (fun H locs hP hD hS => ?_)
  have hP : va_P E.1 vwCl (bl [Tx_c E o qa qb q2.2, [((fa2 0), .inr (5, [.ref (fa2 2), .ref (fa2 4), .ref (fa2 7), .ref (fa2 11), .ref (fa2 1), .int (So_tick (St_So v2)), .int (So_clear (St_So v2)), .int (So_changesBegun (St_So v2))]))], [((fa2 1), .inl (E.2.1, 4, .inl (So_spent (St_So v2))))], Ci_c E (fa2 2) (fa2 3) (St_Ci v2), Fl_c E (fa2 4) (fa2 5) (fa2 6) (St_Fl v2), [((fa2 7), .inr (0, [.ref (fa2 8), .ref (fa2 9), .ref (fa2 10), .int (Ch_kind (St_Ch v2)), .int (Ch_present (St_Ch v2)), .int (Ch_change (St_Ch v2)), .int (Ch_changeLeft (St_Ch v2))]))], [((fa2 8), .inl (E.2.1, 6, .inl (Ch_intensities (St_Ch v2))))], [((fa2 9), .inl (E.2.1, 6, .inl (Ch_lives (St_Ch v2))))], [((fa2 10), .inl (E.2.1, 6, .inl (Ch_uses (St_Ch v2))))], Lo_c E (fa2 11) (fa2 12) (fa2 13) (fa2 14) (fa2 15) (fa2 16) (St_Lo v2)]) H := hP
  have hD : va_D A (bl [Tx_c E o qa qb q2.2, [((fa2 0), .inr (5, [.ref (fa2 2), .ref (fa2 4), .ref (fa2 7), .ref (fa2 11), .ref (fa2 1), .int (So_tick (St_So v2)), .int (So_clear (St_So v2)), .int (So_changesBegun (St_So v2))]))], [((fa2 1), .inl (E.2.1, 4, .inl (So_spent (St_So v2))))], Ci_c E (fa2 2) (fa2 3) (St_Ci v2), Fl_c E (fa2 4) (fa2 5) (fa2 6) (St_Fl v2), [((fa2 7), .inr (0, [.ref (fa2 8), .ref (fa2 9), .ref (fa2 10), .int (Ch_kind (St_Ch v2)), .int (Ch_present (St_Ch v2)), .int (Ch_change (St_Ch v2)), .int (Ch_changeLeft (St_Ch v2))]))], [((fa2 8), .inl (E.2.1, 6, .inl (Ch_intensities (St_Ch v2))))], [((fa2 9), .inl (E.2.1, 6, .inl (Ch_lives (St_Ch v2))))], [((fa2 10), .inl (E.2.1, 6, .inl (Ch_uses (St_Ch v2))))], Lo_c E (fa2 11) (fa2 12) (fa2 13) (fa2 14) (fa2 15) (fa2 16) (St_Lo v2)]) := hD
  refine W.eq (g2 := F0 m 13 ls [.int q2.1]) rfl ?_
  refine lv_istore_n (lv' := [(3, .int q2.1), (2, .int q1.1), (0, .ref o), (1, .ref (fa2 0))]) hx hb dX8_carryOutChange_13 rfl hl (by decide) rfl (fun ls hl => ?_)
  refine lv_iload_n hx hb dX8_carryOutChange_14 rfl (lv_at hl 0 rfl) ?_
  refine f_if_ne (tgt := 26) hx hb dX8_carryOutChange_15 (by decide) hF (fun hF => ?_) (fun hF => ?_)
  · refine lv_iload_n hx hb dX8_carryOutChange_26 rfl (lv_at hl 0 rfl) ?_
    exact g_iret (rvf := fun z => some (.int z.1)) (W1f := fun z => bl [Tx_c E o qa qb z.2.1, St_c E fa2 z.2.2]) hx hb hr hlocks hQ hF rfl hP hD hS [0, 1, 2, 3, 4, 5, 6, 7, 8, 9] rfl rfl dX8_carryOutChange_27
  · refine lv_aload_n hx hb dX8_carryOutChange_18 rfl (lv_at hl 3 rfl) ?_
    refine g_getN (T := TX7) (N := 8) hx hb hts in_X7 hown hK hP 1 rfl rfl 2 (by decide) w0 rfl rfl dX8_carryOutChange_19 ?_
    refine lv_iload_n hx hb dX8_carryOutChange_22 rfl (lv_at hl 1 rfl) ?_
    refine g_putN (T := TX1) (N := 7) hx hb hts in_X1 tyX1 tyX1_ok nmX1 hown hK hP hD hS 5 rfl rfl 5 (by decide) w1 rfl rfl rfl rfl (Nat.le_of_ble_eq_true rfl) dX8_carryOutChange_23 (fun H locs hP hD hS => ?_)
    have hP : va_P E.1 vwCl (bl [Tx_c E o qa qb q2.2, [((fa2 0), .inr (5, [.ref (fa2 2), .ref (fa2 4), .ref (fa2 7), .ref (fa2 11), .ref (fa2 1), .int (So_tick (St_So v2)), .int (So_clear (St_So v2)), .int (So_changesBegun (St_So v2))]))], [((fa2 1), .inl (E.2.1, 4, .inl (So_spent (St_So v2))))], Ci_c E (fa2 2) (fa2 3) (St_Ci v2), Fl_c E (fa2 4) (fa2 5) (fa2 6) (St_Fl v2), [((fa2 7), .inr (0, [.ref (fa2 8), .ref (fa2 9), .ref (fa2 10), .int (Ch_kind (St_Ch v2)), .int (Ch_present (St_Ch v2)), .int q1.1, .int (Ch_changeLeft (St_Ch v2))]))], [((fa2 8), .inl (E.2.1, 6, .inl (Ch_intensities (St_Ch v2))))], [((fa2 9), .inl (E.2.1, 6, .inl (Ch_lives (St_Ch v2))))], [((fa2 10), .inl (E.2.1, 6, .inl (Ch_uses (St_Ch v2))))], Lo_c E (fa2 11) (fa2 12) (fa2 13) (fa2 14) (fa2 15) (fa2 16) (St_Lo v2)]) H := hP
    have hD : va_D A (bl [Tx_c E o qa qb q2.2, [((fa2 0), .inr (5, [.ref (fa2 2), .ref (fa2 4), .ref (fa2 7), .ref (fa2 11), .ref (fa2 1), .int (So_tick (St_So v2)), .int (So_clear (St_So v2)), .int (So_changesBegun (St_So v2))]))], [((fa2 1), .inl (E.2.1, 4, .inl (So_spent (St_So v2))))], Ci_c E (fa2 2) (fa2 3) (St_Ci v2), Fl_c E (fa2 4) (fa2 5) (fa2 6) (St_Fl v2), [((fa2 7), .inr (0, [.ref (fa2 8), .ref (fa2 9), .ref (fa2 10), .int (Ch_kind (St_Ch v2)), .int (Ch_present (St_Ch v2)), .int q1.1, .int (Ch_changeLeft (St_Ch v2))]))], [((fa2 8), .inl (E.2.1, 6, .inl (Ch_intensities (St_Ch v2))))], [((fa2 9), .inl (E.2.1, 6, .inl (Ch_lives (St_Ch v2))))], [((fa2 10), .inl (E.2.1, 6, .inl (Ch_uses (St_Ch v2))))], Lo_c E (fa2 11) (fa2 12) (fa2 13) (fa2 14) (fa2 15) (fa2 16) (St_Lo v2)]) := hD
    refine lv_iload_n hx hb dX8_carryOutChange_26 rfl (lv_at hl 0 rfl) ?_
    exact g_iret (rvf := fun z => some (.int z.1)) (W1f := fun z => bl [Tx_c E o qa qb z.2.1, St_c E fa2 z.2.2]) hx hb hr hlocks hQ hF rfl hP hD hS [0, 1, 2, 3, 4, 5, 6, 7, 8, 9] rfl rfl dX8_carryOutChange_27
def F_X8_carryOutItem (n : Nat) (v : TxV) (v2 : StV) : Option (Int32 × TxV × StV) := (F_X8_skipLetters n v).bind fun q1 => (F_X8_isWord n q1 (Tx_at v) 0).bind fun q2 => if q2 = 0 then (F_X8_isWord n q1 (Tx_at v) 1).bind fun q3 => if q3 = 0 then (F_X8_isWord n q1 (Tx_at v) 2).bind fun q4 => if q4 = 0 then (F_X8_isWord n q1 (Tx_at v) 3).bind fun q5 => if q5 = 0 then (F_X8_isWord n q1 (Tx_at v) 4).bind fun q6 => if q6 = 0 then (F_X8_isWord n q1 (Tx_at v) 5).bind fun q7 => if q7 = 0 then some (1, q1, v2) else (F_X8_carryOutChange n q1 v2).bind fun q8 => some (q8.1, q8.2.1, q8.2.2) else (F_X8_carryOutClear n q1 v2).bind fun q9 => some (q9.1, q9.2.1, q9.2.2) else (F_X8_carryOutLamp n q1 v2).bind fun q10 => some (q10.1, q10.2.1, q10.2.2) else (F_X8_carryOutChanger n q1 v2).bind fun q11 => some (q11.1, q11.2.1, q11.2.2) else (F_X8_carryOutCode n q1 v2).bind fun q12 => some (q12.1, q12.2.1, q12.2.2) else (F_X8_carryOutSector n q1 v2).bind fun q13 => some (q13.1, q13.2.1, q13.2.2)
set_option maxHeartbeats 4000000 in
set_option maxRecDepth 100000 in
theorem c_X8_carryOutItem (l : Launch) (E : GE) (o : Nat) (qa : Nat) (qb : Nat) (fa2 : Nat → Nat) (n : Nat) (v : TxV) (v2 : StV) (r : Int32 × TxV × StV) (hF : F_X8_carryOutItem n v v2 = some r) : CT l E yX8_carryOutItem wsX8_carryOutItem ({ frames := 9, cells := 0, slots := 0, locals := 222 } : Room) [.ref o, .ref (fa2 0)] (bl [Tx_c E o qa qb v, St_c E fa2 v2]) (some (.int r.1)) (bl [Tx_c E o qa qb r.2.1, St_c E fa2 r.2.2]) 0 0 := by
  refine CT.of (cc := cX8_carryOutItem) (maxL := 3) (ret := (some .int)) (by decide) rfl (Nat.le_of_ble_eq_true rfl) ?_
  intro p e s m args below meth cd A Q ls B hQ hP hD hS hl
  obtain ⟨hx, hb, hml, hown, hts, hr, hlocks, hK, hZ, hA, hnm⟩ := B
  have hown : s.vm.findClass RX8 = some m.cls := hown
  have hl : lv_has ls 3 [(0, .ref o), (1, .ref (fa2 0))] := hl
  have w0 := hts (.fieldLink RX8 25 "HarborLight$Text" "at" "I") (by decide +kernel)
  have in_X8 : ∀ w ∈ wsX80, w ∈ wsX8_carryOutItem := by decide +kernel
  have hP : va_P E.1 vwCl (bl [[(o, .inr (6, [.ref qa, .ref qb, .int (Tx_length v), .int (Tx_at v), .int (Tx_items v), .int (Tx_faultIndex v), .int (Tx_faultReason v)]))], [(qa, .inl (E.2.2.1, 120, .inl (Tx_signs v)))], [(qb, .inl (E.2.1, 16, .inl (Tx_numbers v)))], St_c E fa2 v2]) s.heap := hP
  have hD : va_D A (bl [[(o, .inr (6, [.ref qa, .ref qb, .int (Tx_length v), .int (Tx_at v), .int (Tx_items v), .int (Tx_faultIndex v), .int (Tx_faultReason v)]))], [(qa, .inl (E.2.2.1, 120, .inl (Tx_signs v)))], [(qb, .inl (E.2.1, 16, .inl (Tx_numbers v)))], St_c E fa2 v2]) := hD
  unfold F_X8_carryOutItem at hF
  refine lv_aload_n hx hb dX8_carryOutItem_0 rfl (lv_at hl 0 rfl) ?_
  refine g_get (T := TX8) (N := 7) hx hb hts in_X8 hown hK hP 0 rfl rfl 3 (by decide) w0 rfl rfl dX8_carryOutItem_1 ?_
  refine lv_istore_n (lv' := [(2, .int (Tx_at v)), (0, .ref o), (1, .ref (fa2 0))]) hx hb dX8_carryOutItem_4 rfl hl (by decide) rfl (fun ls hl => ?_)
  refine lv_aload_n hx hb dX8_carryOutItem_5 rfl (lv_at hl 1 rfl) ?_
  obtain ⟨q1, h_q1, hF⟩ := bnd_s hF
  refine g_callV (As := []) (rest := []) ⟨hx, hb, hml, hown, hts⟩ hK hZ hA (c_X8_skipLetters l E o qa qb n v q1 h_q1) (cwV 0 hts gX8_carryOutItem_X8_skipLetters rfl rfl rfl (by decide +kernel) ⟨Nat.le_of_ble_eq_true rfl, Nat.le_of_ble_eq_true rfl⟩) hP hD hS [0, 1, 2] [3] rfl rfl rfl rfl rfl rfl hl.1 rfl (Nat.le_of_ble_eq_true rfl) dX8_carryOutItem_6 ⟨Nat.le_of_ble_eq_true rfl, Nat.le_of_ble_eq_true rfl⟩ (fun H locs hP hD hS => ?_)
  have hP : va_P E.1 vwCl (bl [[(o, .inr (6, [.ref qa, .ref qb, .int (Tx_length q1), .int (Tx_at q1), .int (Tx_items q1), .int (Tx_faultIndex q1), .int (Tx_faultReason q1)]))], [(qa, .inl (E.2.2.1, 120, .inl (Tx_signs q1)))], [(qb, .inl (E.2.1, 16, .inl (Tx_numbers q1)))], St_c E fa2 v2]) H := hP
  have hD : va_D A (bl [[(o, .inr (6, [.ref qa, .ref qb, .int (Tx_length q1), .int (Tx_at q1), .int (Tx_items q1), .int (Tx_faultIndex q1), .int (Tx_faultReason q1)]))], [(qa, .inl (E.2.2.1, 120, .inl (Tx_signs q1)))], [(qb, .inl (E.2.1, 16, .inl (Tx_numbers q1)))], St_c E fa2 v2]) := hD
  refine W.eq (g2 := F0 m 9 ls []) rfl ?_
  refine lv_aload_n hx hb dX8_carryOutItem_9 rfl (lv_at hl 1 rfl) ?_
  refine lv_iload_n hx hb dX8_carryOutItem_10 rfl (lv_at hl 0 rfl) ?_
  refine va_ldcS hx hb hown (hZ.2.2.2.2.2.1 0 (44, "sector") rfl) dX8_carryOutItem_11 ?_
  obtain ⟨q2, h_q2, hF⟩ := bnd_s hF
  refine g_callV (As := [.int (Tx_at v), .ref (E.2.2.2.2.2.1 0)]) (rest := []) ⟨hx, hb, hml, hown, hts⟩ hK hZ hA (c_X8_isWord l E o qa qb n q1 (Tx_at v) (0) q2 h_q2) (cwV 2 hts gX8_carryOutItem_X8_isWord rfl rfl rfl (by decide +kernel) ⟨Nat.le_of_ble_eq_true rfl, Nat.le_of_ble_eq_true rfl⟩) hP hD hS [0, 1, 2] [3] rfl rfl rfl rfl rfl rfl hl.1 rfl (Nat.le_of_ble_eq_true rfl) dX8_carryOutItem_13 ⟨Nat.le_of_ble_eq_true rfl, Nat.le_of_ble_eq_true rfl⟩ (fun H locs hP hD hS => ?_)
  have hP : va_P E.1 vwCl (bl [[(o, .inr (6, [.ref qa, .ref qb, .int (Tx_length q1), .int (Tx_at q1), .int (Tx_items q1), .int (Tx_faultIndex q1), .int (Tx_faultReason q1)]))], [(qa, .inl (E.2.2.1, 120, .inl (Tx_signs q1)))], [(qb, .inl (E.2.1, 16, .inl (Tx_numbers q1)))], St_c E fa2 v2]) H := hP
  have hD : va_D A (bl [[(o, .inr (6, [.ref qa, .ref qb, .int (Tx_length q1), .int (Tx_at q1), .int (Tx_items q1), .int (Tx_faultIndex q1), .int (Tx_faultReason q1)]))], [(qa, .inl (E.2.2.1, 120, .inl (Tx_signs q1)))], [(qb, .inl (E.2.1, 16, .inl (Tx_numbers q1)))], St_c E fa2 v2]) := hD
  refine W.eq (g2 := F0 m 16 ls [.int q2]) rfl ?_
  refine f_if_eq (tgt := 25) hx hb dX8_carryOutItem_16 (by decide) hF (fun hF => ?_) (fun hF => ?_)
  · refine lv_aload_n hx hb dX8_carryOutItem_25 rfl (lv_at hl 1 rfl) ?_
    refine lv_iload_n hx hb dX8_carryOutItem_26 rfl (lv_at hl 0 rfl) ?_
    refine va_ldcS hx hb hown (hZ.2.2.2.2.2.1 1 (53, "code") rfl) dX8_carryOutItem_27 ?_
    obtain ⟨q3, h_q3, hF⟩ := bnd_s hF
    refine g_callV (As := [.int (Tx_at v), .ref (E.2.2.2.2.2.1 1)]) (rest := []) ⟨hx, hb, hml, hown, hts⟩ hK hZ hA (c_X8_isWord l E o qa qb n q1 (Tx_at v) (1) q3 h_q3) (cwV 2 hts gX8_carryOutItem_X8_isWord rfl rfl rfl (by decide +kernel) ⟨Nat.le_of_ble_eq_true rfl, Nat.le_of_ble_eq_true rfl⟩) hP hD hS [0, 1, 2] [3] rfl rfl rfl rfl rfl rfl hl.1 rfl (Nat.le_of_ble_eq_true rfl) dX8_carryOutItem_29 ⟨Nat.le_of_ble_eq_true rfl, Nat.le_of_ble_eq_true rfl⟩ (fun H locs hP hD hS => ?_)
    have hP : va_P E.1 vwCl (bl [[(o, .inr (6, [.ref qa, .ref qb, .int (Tx_length q1), .int (Tx_at q1), .int (Tx_items q1), .int (Tx_faultIndex q1), .int (Tx_faultReason q1)]))], [(qa, .inl (E.2.2.1, 120, .inl (Tx_signs q1)))], [(qb, .inl (E.2.1, 16, .inl (Tx_numbers q1)))], St_c E fa2 v2]) H := hP
    have hD : va_D A (bl [[(o, .inr (6, [.ref qa, .ref qb, .int (Tx_length q1), .int (Tx_at q1), .int (Tx_items q1), .int (Tx_faultIndex q1), .int (Tx_faultReason q1)]))], [(qa, .inl (E.2.2.1, 120, .inl (Tx_signs q1)))], [(qb, .inl (E.2.1, 16, .inl (Tx_numbers q1)))], St_c E fa2 v2]) := hD
    refine W.eq (g2 := F0 m 32 ls [.int q3]) rfl ?_
    refine f_if_eq (tgt := 41) hx hb dX8_carryOutItem_32 (by decide) hF (fun hF => ?_) (fun hF => ?_)
    · refine lv_aload_n hx hb dX8_carryOutItem_41 rfl (lv_at hl 1 rfl) ?_
      refine lv_iload_n hx hb dX8_carryOutItem_42 rfl (lv_at hl 0 rfl) ?_
      refine va_ldcS hx hb hown (hZ.2.2.2.2.2.1 2 (58, "changer") rfl) dX8_carryOutItem_43 ?_
      obtain ⟨q4, h_q4, hF⟩ := bnd_s hF
      refine g_callV (As := [.int (Tx_at v), .ref (E.2.2.2.2.2.1 2)]) (rest := []) ⟨hx, hb, hml, hown, hts⟩ hK hZ hA (c_X8_isWord l E o qa qb n q1 (Tx_at v) (2) q4 h_q4) (cwV 2 hts gX8_carryOutItem_X8_isWord rfl rfl rfl (by decide +kernel) ⟨Nat.le_of_ble_eq_true rfl, Nat.le_of_ble_eq_true rfl⟩) hP hD hS [0, 1, 2] [3] rfl rfl rfl rfl rfl rfl hl.1 rfl (Nat.le_of_ble_eq_true rfl) dX8_carryOutItem_45 ⟨Nat.le_of_ble_eq_true rfl, Nat.le_of_ble_eq_true rfl⟩ (fun H locs hP hD hS => ?_)
      have hP : va_P E.1 vwCl (bl [[(o, .inr (6, [.ref qa, .ref qb, .int (Tx_length q1), .int (Tx_at q1), .int (Tx_items q1), .int (Tx_faultIndex q1), .int (Tx_faultReason q1)]))], [(qa, .inl (E.2.2.1, 120, .inl (Tx_signs q1)))], [(qb, .inl (E.2.1, 16, .inl (Tx_numbers q1)))], St_c E fa2 v2]) H := hP
      have hD : va_D A (bl [[(o, .inr (6, [.ref qa, .ref qb, .int (Tx_length q1), .int (Tx_at q1), .int (Tx_items q1), .int (Tx_faultIndex q1), .int (Tx_faultReason q1)]))], [(qa, .inl (E.2.2.1, 120, .inl (Tx_signs q1)))], [(qb, .inl (E.2.1, 16, .inl (Tx_numbers q1)))], St_c E fa2 v2]) := hD
      refine W.eq (g2 := F0 m 48 ls [.int q4]) rfl ?_
      refine f_if_eq (tgt := 57) hx hb dX8_carryOutItem_48 (by decide) hF (fun hF => ?_) (fun hF => ?_)
      · refine lv_aload_n hx hb dX8_carryOutItem_57 rfl (lv_at hl 1 rfl) ?_
        refine lv_iload_n hx hb dX8_carryOutItem_58 rfl (lv_at hl 0 rfl) ?_
        refine va_ldcS hx hb hown (hZ.2.2.2.2.2.1 3 (63, "lamp") rfl) dX8_carryOutItem_59 ?_
        obtain ⟨q5, h_q5, hF⟩ := bnd_s hF
        refine g_callV (As := [.int (Tx_at v), .ref (E.2.2.2.2.2.1 3)]) (rest := []) ⟨hx, hb, hml, hown, hts⟩ hK hZ hA (c_X8_isWord l E o qa qb n q1 (Tx_at v) (3) q5 h_q5) (cwV 2 hts gX8_carryOutItem_X8_isWord rfl rfl rfl (by decide +kernel) ⟨Nat.le_of_ble_eq_true rfl, Nat.le_of_ble_eq_true rfl⟩) hP hD hS [0, 1, 2] [3] rfl rfl rfl rfl rfl rfl hl.1 rfl (Nat.le_of_ble_eq_true rfl) dX8_carryOutItem_61 ⟨Nat.le_of_ble_eq_true rfl, Nat.le_of_ble_eq_true rfl⟩ (fun H locs hP hD hS => ?_)
        have hP : va_P E.1 vwCl (bl [[(o, .inr (6, [.ref qa, .ref qb, .int (Tx_length q1), .int (Tx_at q1), .int (Tx_items q1), .int (Tx_faultIndex q1), .int (Tx_faultReason q1)]))], [(qa, .inl (E.2.2.1, 120, .inl (Tx_signs q1)))], [(qb, .inl (E.2.1, 16, .inl (Tx_numbers q1)))], St_c E fa2 v2]) H := hP
        have hD : va_D A (bl [[(o, .inr (6, [.ref qa, .ref qb, .int (Tx_length q1), .int (Tx_at q1), .int (Tx_items q1), .int (Tx_faultIndex q1), .int (Tx_faultReason q1)]))], [(qa, .inl (E.2.2.1, 120, .inl (Tx_signs q1)))], [(qb, .inl (E.2.1, 16, .inl (Tx_numbers q1)))], St_c E fa2 v2]) := hD
        refine W.eq (g2 := F0 m 64 ls [.int q5]) rfl ?_
        refine f_if_eq (tgt := 73) hx hb dX8_carryOutItem_64 (by decide) hF (fun hF => ?_) (fun hF => ?_)
        · refine lv_aload_n hx hb dX8_carryOutItem_73 rfl (lv_at hl 1 rfl) ?_
          refine lv_iload_n hx hb dX8_carryOutItem_74 rfl (lv_at hl 0 rfl) ?_
          refine va_ldcS hx hb hown (hZ.2.2.2.2.2.1 4 (68, "clear") rfl) dX8_carryOutItem_75 ?_
          obtain ⟨q6, h_q6, hF⟩ := bnd_s hF
          refine g_callV (As := [.int (Tx_at v), .ref (E.2.2.2.2.2.1 4)]) (rest := []) ⟨hx, hb, hml, hown, hts⟩ hK hZ hA (c_X8_isWord l E o qa qb n q1 (Tx_at v) (4) q6 h_q6) (cwV 2 hts gX8_carryOutItem_X8_isWord rfl rfl rfl (by decide +kernel) ⟨Nat.le_of_ble_eq_true rfl, Nat.le_of_ble_eq_true rfl⟩) hP hD hS [0, 1, 2] [3] rfl rfl rfl rfl rfl rfl hl.1 rfl (Nat.le_of_ble_eq_true rfl) dX8_carryOutItem_77 ⟨Nat.le_of_ble_eq_true rfl, Nat.le_of_ble_eq_true rfl⟩ (fun H locs hP hD hS => ?_)
          have hP : va_P E.1 vwCl (bl [[(o, .inr (6, [.ref qa, .ref qb, .int (Tx_length q1), .int (Tx_at q1), .int (Tx_items q1), .int (Tx_faultIndex q1), .int (Tx_faultReason q1)]))], [(qa, .inl (E.2.2.1, 120, .inl (Tx_signs q1)))], [(qb, .inl (E.2.1, 16, .inl (Tx_numbers q1)))], St_c E fa2 v2]) H := hP
          have hD : va_D A (bl [[(o, .inr (6, [.ref qa, .ref qb, .int (Tx_length q1), .int (Tx_at q1), .int (Tx_items q1), .int (Tx_faultIndex q1), .int (Tx_faultReason q1)]))], [(qa, .inl (E.2.2.1, 120, .inl (Tx_signs q1)))], [(qb, .inl (E.2.1, 16, .inl (Tx_numbers q1)))], St_c E fa2 v2]) := hD
          refine W.eq (g2 := F0 m 80 ls [.int q6]) rfl ?_
          refine f_if_eq (tgt := 89) hx hb dX8_carryOutItem_80 (by decide) hF (fun hF => ?_) (fun hF => ?_)
          · refine lv_aload_n hx hb dX8_carryOutItem_89 rfl (lv_at hl 1 rfl) ?_
            refine lv_iload_n hx hb dX8_carryOutItem_90 rfl (lv_at hl 0 rfl) ?_
            refine va_ldcS hx hb hown (hZ.2.2.2.2.2.1 5 (73, "change") rfl) dX8_carryOutItem_91 ?_
            obtain ⟨q7, h_q7, hF⟩ := bnd_s hF
            refine g_callV (As := [.int (Tx_at v), .ref (E.2.2.2.2.2.1 5)]) (rest := []) ⟨hx, hb, hml, hown, hts⟩ hK hZ hA (c_X8_isWord l E o qa qb n q1 (Tx_at v) (5) q7 h_q7) (cwV 2 hts gX8_carryOutItem_X8_isWord rfl rfl rfl (by decide +kernel) ⟨Nat.le_of_ble_eq_true rfl, Nat.le_of_ble_eq_true rfl⟩) hP hD hS [0, 1, 2] [3] rfl rfl rfl rfl rfl rfl hl.1 rfl (Nat.le_of_ble_eq_true rfl) dX8_carryOutItem_93 ⟨Nat.le_of_ble_eq_true rfl, Nat.le_of_ble_eq_true rfl⟩ (fun H locs hP hD hS => ?_)
            have hP : va_P E.1 vwCl (bl [[(o, .inr (6, [.ref qa, .ref qb, .int (Tx_length q1), .int (Tx_at q1), .int (Tx_items q1), .int (Tx_faultIndex q1), .int (Tx_faultReason q1)]))], [(qa, .inl (E.2.2.1, 120, .inl (Tx_signs q1)))], [(qb, .inl (E.2.1, 16, .inl (Tx_numbers q1)))], St_c E fa2 v2]) H := hP
            have hD : va_D A (bl [[(o, .inr (6, [.ref qa, .ref qb, .int (Tx_length q1), .int (Tx_at q1), .int (Tx_items q1), .int (Tx_faultIndex q1), .int (Tx_faultReason q1)]))], [(qa, .inl (E.2.2.1, 120, .inl (Tx_signs q1)))], [(qb, .inl (E.2.1, 16, .inl (Tx_numbers q1)))], St_c E fa2 v2]) := hD
            refine W.eq (g2 := F0 m 96 ls [.int q7]) rfl ?_
            refine f_if_eq (tgt := 107) hx hb dX8_carryOutItem_96 (by decide) hF (fun hF => ?_) (fun hF => ?_)
            · refine lv_iconst (v := 1) hx hb dX8_carryOutItem_107 (by decide) ?_
              exact g_iret (rvf := fun z => some (.int z.1)) (W1f := fun z => bl [Tx_c E o qa qb z.2.1, St_c E fa2 z.2.2]) hx hb hr hlocks hQ hF rfl hP hD hS [0, 1, 2, 3] rfl rfl dX8_carryOutItem_108
            · refine lv_aload_n hx hb dX8_carryOutItem_99 rfl (lv_at hl 1 rfl) ?_
              refine lv_aload_n hx hb dX8_carryOutItem_100 rfl (lv_at hl 2 rfl) ?_
              obtain ⟨q8, h_q8, hF⟩ := bnd_s hF
              refine g_callV (As := [.ref (fa2 0)]) (rest := []) ⟨hx, hb, hml, hown, hts⟩ hK hZ hA (c_X8_carryOutChange l E o qa qb fa2 n q1 v2 q8 h_q8) (cwV 1 hts gX8_carryOutItem_X8_carryOutChange rfl rfl rfl (by decide +kernel) ⟨Nat.le_of_ble_eq_true rfl, Nat.le_of_ble_eq_true rfl⟩) hP hD hS [0, 1, 2, 3] [] rfl rfl rfl rfl rfl rfl hl.1 rfl (Nat.le_of_ble_eq_true rfl) dX8_carryOutItem_101 ⟨Nat.le_of_ble_eq_true rfl, Nat.le_of_ble_eq_true rfl⟩ (fun H locs hP hD hS => ?_)
              have hP : va_P E.1 vwCl (bl [[(o, .inr (6, [.ref qa, .ref qb, .int (Tx_length q8.2.1), .int (Tx_at q8.2.1), .int (Tx_items q8.2.1), .int (Tx_faultIndex q8.2.1), .int (Tx_faultReason q8.2.1)]))], [(qa, .inl (E.2.2.1, 120, .inl (Tx_signs q8.2.1)))], [(qb, .inl (E.2.1, 16, .inl (Tx_numbers q8.2.1)))], St_c E fa2 q8.2.2]) H := hP
              have hD : va_D A (bl [[(o, .inr (6, [.ref qa, .ref qb, .int (Tx_length q8.2.1), .int (Tx_at q8.2.1), .int (Tx_items q8.2.1), .int (Tx_faultIndex q8.2.1), .int (Tx_faultReason q8.2.1)]))], [(qa, .inl (E.2.2.1, 120, .inl (Tx_signs q8.2.1)))], [(qb, .inl (E.2.1, 16, .inl (Tx_numbers q8.2.1)))], St_c E fa2 q8.2.2]) := hD
              refine W.eq (g2 := F0 m 104 ls [.int q8.1]) rfl ?_
              refine lv_goto (tgt := 108) hx hb dX8_carryOutItem_104 (by decide) ?_
              exact g_iret (rvf := fun z => some (.int z.1)) (W1f := fun z => bl [Tx_c E o qa qb z.2.1, St_c E fa2 z.2.2]) hx hb hr hlocks hQ hF rfl hP hD hS [0, 1, 2, 3] rfl rfl dX8_carryOutItem_108
          · refine lv_aload_n hx hb dX8_carryOutItem_83 rfl (lv_at hl 1 rfl) ?_
            refine lv_aload_n hx hb dX8_carryOutItem_84 rfl (lv_at hl 2 rfl) ?_
            obtain ⟨q9, h_q9, hF⟩ := bnd_s hF
            refine g_callV (As := [.ref (fa2 0)]) (rest := []) ⟨hx, hb, hml, hown, hts⟩ hK hZ hA (c_X8_carryOutClear l E o qa qb fa2 n q1 v2 q9 h_q9) (cwV 1 hts gX8_carryOutItem_X8_carryOutClear rfl rfl rfl (by decide +kernel) ⟨Nat.le_of_ble_eq_true rfl, Nat.le_of_ble_eq_true rfl⟩) hP hD hS [0, 1, 2, 3] [] rfl rfl rfl rfl rfl rfl hl.1 rfl (Nat.le_of_ble_eq_true rfl) dX8_carryOutItem_85 ⟨Nat.le_of_ble_eq_true rfl, Nat.le_of_ble_eq_true rfl⟩ (fun H locs hP hD hS => ?_)
            have hP : va_P E.1 vwCl (bl [[(o, .inr (6, [.ref qa, .ref qb, .int (Tx_length q9.2.1), .int (Tx_at q9.2.1), .int (Tx_items q9.2.1), .int (Tx_faultIndex q9.2.1), .int (Tx_faultReason q9.2.1)]))], [(qa, .inl (E.2.2.1, 120, .inl (Tx_signs q9.2.1)))], [(qb, .inl (E.2.1, 16, .inl (Tx_numbers q9.2.1)))], St_c E fa2 q9.2.2]) H := hP
            have hD : va_D A (bl [[(o, .inr (6, [.ref qa, .ref qb, .int (Tx_length q9.2.1), .int (Tx_at q9.2.1), .int (Tx_items q9.2.1), .int (Tx_faultIndex q9.2.1), .int (Tx_faultReason q9.2.1)]))], [(qa, .inl (E.2.2.1, 120, .inl (Tx_signs q9.2.1)))], [(qb, .inl (E.2.1, 16, .inl (Tx_numbers q9.2.1)))], St_c E fa2 q9.2.2]) := hD
            refine W.eq (g2 := F0 m 88 ls [.int q9.1]) rfl ?_
            exact g_iret (rvf := fun z => some (.int z.1)) (W1f := fun z => bl [Tx_c E o qa qb z.2.1, St_c E fa2 z.2.2]) hx hb hr hlocks hQ hF rfl hP hD hS [0, 1, 2, 3] rfl rfl dX8_carryOutItem_88
        · refine lv_aload_n hx hb dX8_carryOutItem_67 rfl (lv_at hl 1 rfl) ?_
          refine lv_aload_n hx hb dX8_carryOutItem_68 rfl (lv_at hl 2 rfl) ?_
          obtain ⟨q10, h_q10, hF⟩ := bnd_s hF
          refine g_callV (As := [.ref (fa2 0)]) (rest := []) ⟨hx, hb, hml, hown, hts⟩ hK hZ hA (c_X8_carryOutLamp l E o qa qb fa2 n q1 v2 q10 h_q10) (cwV 1 hts gX8_carryOutItem_X8_carryOutLamp rfl rfl rfl (by decide +kernel) ⟨Nat.le_of_ble_eq_true rfl, Nat.le_of_ble_eq_true rfl⟩) hP hD hS [0, 1, 2, 3] [] rfl rfl rfl rfl rfl rfl hl.1 rfl (Nat.le_of_ble_eq_true rfl) dX8_carryOutItem_69 ⟨Nat.le_of_ble_eq_true rfl, Nat.le_of_ble_eq_true rfl⟩ (fun H locs hP hD hS => ?_)
          have hP : va_P E.1 vwCl (bl [[(o, .inr (6, [.ref qa, .ref qb, .int (Tx_length q10.2.1), .int (Tx_at q10.2.1), .int (Tx_items q10.2.1), .int (Tx_faultIndex q10.2.1), .int (Tx_faultReason q10.2.1)]))], [(qa, .inl (E.2.2.1, 120, .inl (Tx_signs q10.2.1)))], [(qb, .inl (E.2.1, 16, .inl (Tx_numbers q10.2.1)))], St_c E fa2 q10.2.2]) H := hP
          have hD : va_D A (bl [[(o, .inr (6, [.ref qa, .ref qb, .int (Tx_length q10.2.1), .int (Tx_at q10.2.1), .int (Tx_items q10.2.1), .int (Tx_faultIndex q10.2.1), .int (Tx_faultReason q10.2.1)]))], [(qa, .inl (E.2.2.1, 120, .inl (Tx_signs q10.2.1)))], [(qb, .inl (E.2.1, 16, .inl (Tx_numbers q10.2.1)))], St_c E fa2 q10.2.2]) := hD
          refine W.eq (g2 := F0 m 72 ls [.int q10.1]) rfl ?_
          exact g_iret (rvf := fun z => some (.int z.1)) (W1f := fun z => bl [Tx_c E o qa qb z.2.1, St_c E fa2 z.2.2]) hx hb hr hlocks hQ hF rfl hP hD hS [0, 1, 2, 3] rfl rfl dX8_carryOutItem_72
      · refine lv_aload_n hx hb dX8_carryOutItem_51 rfl (lv_at hl 1 rfl) ?_
        refine lv_aload_n hx hb dX8_carryOutItem_52 rfl (lv_at hl 2 rfl) ?_
        obtain ⟨q11, h_q11, hF⟩ := bnd_s hF
        refine g_callV (As := [.ref (fa2 0)]) (rest := []) ⟨hx, hb, hml, hown, hts⟩ hK hZ hA (c_X8_carryOutChanger l E o qa qb fa2 n q1 v2 q11 h_q11) (cwV 1 hts gX8_carryOutItem_X8_carryOutChanger rfl rfl rfl (by decide +kernel) ⟨Nat.le_of_ble_eq_true rfl, Nat.le_of_ble_eq_true rfl⟩) hP hD hS [0, 1, 2, 3] [] rfl rfl rfl rfl rfl rfl hl.1 rfl (Nat.le_of_ble_eq_true rfl) dX8_carryOutItem_53 ⟨Nat.le_of_ble_eq_true rfl, Nat.le_of_ble_eq_true rfl⟩ (fun H locs hP hD hS => ?_)
        have hP : va_P E.1 vwCl (bl [[(o, .inr (6, [.ref qa, .ref qb, .int (Tx_length q11.2.1), .int (Tx_at q11.2.1), .int (Tx_items q11.2.1), .int (Tx_faultIndex q11.2.1), .int (Tx_faultReason q11.2.1)]))], [(qa, .inl (E.2.2.1, 120, .inl (Tx_signs q11.2.1)))], [(qb, .inl (E.2.1, 16, .inl (Tx_numbers q11.2.1)))], St_c E fa2 q11.2.2]) H := hP
        have hD : va_D A (bl [[(o, .inr (6, [.ref qa, .ref qb, .int (Tx_length q11.2.1), .int (Tx_at q11.2.1), .int (Tx_items q11.2.1), .int (Tx_faultIndex q11.2.1), .int (Tx_faultReason q11.2.1)]))], [(qa, .inl (E.2.2.1, 120, .inl (Tx_signs q11.2.1)))], [(qb, .inl (E.2.1, 16, .inl (Tx_numbers q11.2.1)))], St_c E fa2 q11.2.2]) := hD
        refine W.eq (g2 := F0 m 56 ls [.int q11.1]) rfl ?_
        exact g_iret (rvf := fun z => some (.int z.1)) (W1f := fun z => bl [Tx_c E o qa qb z.2.1, St_c E fa2 z.2.2]) hx hb hr hlocks hQ hF rfl hP hD hS [0, 1, 2, 3] rfl rfl dX8_carryOutItem_56
    · refine lv_aload_n hx hb dX8_carryOutItem_35 rfl (lv_at hl 1 rfl) ?_
      refine lv_aload_n hx hb dX8_carryOutItem_36 rfl (lv_at hl 2 rfl) ?_
      obtain ⟨q12, h_q12, hF⟩ := bnd_s hF
      refine g_callV (As := [.ref (fa2 0)]) (rest := []) ⟨hx, hb, hml, hown, hts⟩ hK hZ hA (c_X8_carryOutCode l E o qa qb fa2 n q1 v2 q12 h_q12) (cwV 1 hts gX8_carryOutItem_X8_carryOutCode rfl rfl rfl (by decide +kernel) ⟨Nat.le_of_ble_eq_true rfl, Nat.le_of_ble_eq_true rfl⟩) hP hD hS [0, 1, 2, 3] [] rfl rfl rfl rfl rfl rfl hl.1 rfl (Nat.le_of_ble_eq_true rfl) dX8_carryOutItem_37 ⟨Nat.le_of_ble_eq_true rfl, Nat.le_of_ble_eq_true rfl⟩ (fun H locs hP hD hS => ?_)
      have hP : va_P E.1 vwCl (bl [[(o, .inr (6, [.ref qa, .ref qb, .int (Tx_length q12.2.1), .int (Tx_at q12.2.1), .int (Tx_items q12.2.1), .int (Tx_faultIndex q12.2.1), .int (Tx_faultReason q12.2.1)]))], [(qa, .inl (E.2.2.1, 120, .inl (Tx_signs q12.2.1)))], [(qb, .inl (E.2.1, 16, .inl (Tx_numbers q12.2.1)))], St_c E fa2 q12.2.2]) H := hP
      have hD : va_D A (bl [[(o, .inr (6, [.ref qa, .ref qb, .int (Tx_length q12.2.1), .int (Tx_at q12.2.1), .int (Tx_items q12.2.1), .int (Tx_faultIndex q12.2.1), .int (Tx_faultReason q12.2.1)]))], [(qa, .inl (E.2.2.1, 120, .inl (Tx_signs q12.2.1)))], [(qb, .inl (E.2.1, 16, .inl (Tx_numbers q12.2.1)))], St_c E fa2 q12.2.2]) := hD
      refine W.eq (g2 := F0 m 40 ls [.int q12.1]) rfl ?_
      exact g_iret (rvf := fun z => some (.int z.1)) (W1f := fun z => bl [Tx_c E o qa qb z.2.1, St_c E fa2 z.2.2]) hx hb hr hlocks hQ hF rfl hP hD hS [0, 1, 2, 3] rfl rfl dX8_carryOutItem_40
  · refine lv_aload_n hx hb dX8_carryOutItem_19 rfl (lv_at hl 1 rfl) ?_
    refine lv_aload_n hx hb dX8_carryOutItem_20 rfl (lv_at hl 2 rfl) ?_
    obtain ⟨q13, h_q13, hF⟩ := bnd_s hF
    refine g_callV (As := [.ref (fa2 0)]) (rest := []) ⟨hx, hb, hml, hown, hts⟩ hK hZ hA (c_X8_carryOutSector l E o qa qb fa2 n q1 v2 q13 h_q13) (cwV 1 hts gX8_carryOutItem_X8_carryOutSector rfl rfl rfl (by decide +kernel) ⟨Nat.le_of_ble_eq_true rfl, Nat.le_of_ble_eq_true rfl⟩) hP hD hS [0, 1, 2, 3] [] rfl rfl rfl rfl rfl rfl hl.1 rfl (Nat.le_of_ble_eq_true rfl) dX8_carryOutItem_21 ⟨Nat.le_of_ble_eq_true rfl, Nat.le_of_ble_eq_true rfl⟩ (fun H locs hP hD hS => ?_)
    have hP : va_P E.1 vwCl (bl [[(o, .inr (6, [.ref qa, .ref qb, .int (Tx_length q13.2.1), .int (Tx_at q13.2.1), .int (Tx_items q13.2.1), .int (Tx_faultIndex q13.2.1), .int (Tx_faultReason q13.2.1)]))], [(qa, .inl (E.2.2.1, 120, .inl (Tx_signs q13.2.1)))], [(qb, .inl (E.2.1, 16, .inl (Tx_numbers q13.2.1)))], St_c E fa2 q13.2.2]) H := hP
    have hD : va_D A (bl [[(o, .inr (6, [.ref qa, .ref qb, .int (Tx_length q13.2.1), .int (Tx_at q13.2.1), .int (Tx_items q13.2.1), .int (Tx_faultIndex q13.2.1), .int (Tx_faultReason q13.2.1)]))], [(qa, .inl (E.2.2.1, 120, .inl (Tx_signs q13.2.1)))], [(qb, .inl (E.2.1, 16, .inl (Tx_numbers q13.2.1)))], St_c E fa2 q13.2.2]) := hD
    refine W.eq (g2 := F0 m 24 ls [.int q13.1]) rfl ?_
    exact g_iret (rvf := fun z => some (.int z.1)) (W1f := fun z => bl [Tx_c E o qa qb z.2.1, St_c E fa2 z.2.2]) hx hb hr hlocks hQ hF rfl hP hD hS [0, 1, 2, 3] rfl rfl dX8_carryOutItem_24
def F_X8_carryOut_L12 (n : Nat) : Nat → TxV → StV → Int32 → Option (Int32 × TxV × StV)
  | 0, _, _, _ => none
  | k + 1, u, u2, x2 => if 120 ≤ x2 then some (1, u, u2) else if (Tx_length u) ≤ (Tx_at u) then some (1, u, u2) else (F_X8_carryOutItem n (Tx_mk (Tx_signs u) (Tx_numbers u) (Tx_length u) (Tx_at u) (Tx_items u) (Tx_at u) (Tx_faultReason u)) u2).bind fun q1 => if q1.1 = 0 then F_X8_carryOut_L12 n k (Tx_mk (Tx_signs q1.2.1) (Tx_numbers q1.2.1) (Tx_length q1.2.1) (Tx_at q1.2.1) ((Tx_items q1.2.1) + 1) (Tx_faultIndex q1.2.1) q1.1) q1.2.2 (x2 + 1) else some (0, (Tx_mk (Tx_signs q1.2.1) (Tx_numbers q1.2.1) (Tx_length q1.2.1) (Tx_at q1.2.1) (Tx_items q1.2.1) (Tx_faultIndex q1.2.1) q1.1), q1.2.2)
def F_X8_carryOut (n : Nat) (v : TxV) (v2 : StV) : Option (Int32 × TxV × StV) := F_X8_carryOut_L12 n n (Tx_mk (Tx_signs v) (Tx_numbers v) (Tx_length v) 0 0 (Tx_faultIndex v) (Tx_faultReason v)) v2 0
set_option maxHeartbeats 4000000 in
set_option maxRecDepth 100000 in
theorem c_X8_carryOut (l : Launch) (E : GE) (o : Nat) (qa : Nat) (qb : Nat) (fa2 : Nat → Nat) (n : Nat) (v : TxV) (v2 : StV) (r : Int32 × TxV × StV) (hF : F_X8_carryOut n v v2 = some r) : CT l E yX8_carryOut wsX8_carryOut ({ frames := 10, cells := 0, slots := 0, locals := 244 } : Room) [.ref o, .ref (fa2 0)] (bl [Tx_c E o qa qb v, St_c E fa2 v2]) (some (.int r.1)) (bl [Tx_c E o qa qb r.2.1, St_c E fa2 r.2.2]) 0 0 := by
  refine CT.of (cc := cX8_carryOut) (maxL := 3) (ret := (some .boolean)) (by decide) rfl (Nat.le_of_ble_eq_true rfl) ?_
  intro p e s m args below meth cd A Q ls B hQ hP hD hS hl
  obtain ⟨hx, hb, hml, hown, hts, hr, hlocks, hK, hZ, hA, hnm⟩ := B
  have hown : s.vm.findClass RX8 = some m.cls := hown
  have hl : lv_has ls 3 [(0, .ref o), (1, .ref (fa2 0))] := hl
  have w0 := hts (.fieldLink RX8 25 "HarborLight$Text" "at" "I") (by decide +kernel)
  have w1 := hts (.fieldLink RX8 28 "HarborLight$Text" "items" "I") (by decide +kernel)
  have w2 := hts (.fieldLink RX8 21 "HarborLight$Text" "length" "I") (by decide +kernel)
  have w3 := hts (.fieldLink RX8 31 "HarborLight$Text" "faultIndex" "I") (by decide +kernel)
  have w4 := hts (.fieldLink RX8 38 "HarborLight$Text" "faultReason" "I") (by decide +kernel)
  have in_X8 : ∀ w ∈ wsX80, w ∈ wsX8_carryOut := by decide +kernel
  have hP : va_P E.1 vwCl (bl [[(o, .inr (6, [.ref qa, .ref qb, .int (Tx_length v), .int (Tx_at v), .int (Tx_items v), .int (Tx_faultIndex v), .int (Tx_faultReason v)]))], [(qa, .inl (E.2.2.1, 120, .inl (Tx_signs v)))], [(qb, .inl (E.2.1, 16, .inl (Tx_numbers v)))], St_c E fa2 v2]) s.heap := hP
  have hD : va_D A (bl [[(o, .inr (6, [.ref qa, .ref qb, .int (Tx_length v), .int (Tx_at v), .int (Tx_items v), .int (Tx_faultIndex v), .int (Tx_faultReason v)]))], [(qa, .inl (E.2.2.1, 120, .inl (Tx_signs v)))], [(qb, .inl (E.2.1, 16, .inl (Tx_numbers v)))], St_c E fa2 v2]) := hD
  have hL12 : ∀ (k : Nat) (u : TxV) (u2 : StV) (x2 : Int32) (H : Heap) (locs : List Loc), va_P E.1 vwCl (bl [[(o, .inr (6, [.ref qa, .ref qb, .int (Tx_length u), .int (Tx_at u), .int (Tx_items u), .int (Tx_faultIndex u), .int (Tx_faultReason u)]))], [(qa, .inl (E.2.2.1, 120, .inl (Tx_signs u)))], [(qb, .inl (E.2.1, 16, .inl (Tx_numbers u)))], St_c E fa2 u2]) H → va_D A (bl [[(o, .inr (6, [.ref qa, .ref qb, .int (Tx_length u), .int (Tx_at u), .int (Tx_items u), .int (Tx_faultIndex u), .int (Tx_faultReason u)]))], [(qa, .inl (E.2.2.1, 120, .inl (Tx_signs u)))], [(qb, .inl (E.2.1, 16, .inl (Tx_numbers u)))], St_c E fa2 u2]) → va_S A s.heap H locs → ∀ ls : Array Slot, lv_has ls 3 [(0, .ref o), (1, .ref (fa2 0)), (2, .int x2)] → F_X8_carryOut_L12 n k u u2 x2 = some r → W p l e ({ frames := 10, cells := 0, slots := 0, locals := 244 } : Room) s m args below meth cd H locs 0 0 Q (F0 m 12 ls []) := by
    intro k
    induction k with
    | zero => intro u u2 x2 H locs hP hD hS ls hl hF; cases hF
    | succ k ih =>
      intro u u2 x2 H locs hP hD hS ls hl hF
      rw [F_X8_carryOut_L12] at hF
      refine lv_iload_n hx hb dX8_carryOut_12 rfl (lv_at hl 2 rfl) ?_
      refine lv_bipush (v := 120) hx hb dX8_carryOut_13 (by decide) ?_
      refine f_icmp_ge (tgt := 71) hx hb dX8_carryOut_15 (by decide) hF (fun hF => ?_) (fun hF => ?_)
      · refine lv_iconst (v := 1) hx hb dX8_carryOut_71 (by decide) ?_
        exact g_zret (rvf := fun z => some (.int z.1)) (W1f := fun z => bl [Tx_c E o qa qb z.2.1, St_c E fa2 z.2.2]) hx hb hr hlocks rfl hQ hF rfl hP hD hS [0, 1, 2, 3] rfl rfl dX8_carryOut_72
      · refine lv_aload_n hx hb dX8_carryOut_18 rfl (lv_at hl 0 rfl) ?_
        refine g_get (T := TX8) (N := 7) hx hb hts in_X8 hown hK hP 0 rfl rfl 3 (by decide) w0 rfl rfl dX8_carryOut_19 ?_
        refine lv_aload_n hx hb dX8_carryOut_22 rfl (lv_at hl 0 rfl) ?_
        refine g_get (T := TX8) (N := 7) hx hb hts in_X8 hown hK hP 0 rfl rfl 2 (by decide) w2 rfl rfl dX8_carryOut_23 ?_
        refine f_icmp_ge (tgt := 71) hx hb dX8_carryOut_26 (by decide) hF (fun hF => ?_) (fun hF => ?_)
        · refine lv_iconst (v := 1) hx hb dX8_carryOut_71 (by decide) ?_
          exact g_zret (rvf := fun z => some (.int z.1)) (W1f := fun z => bl [Tx_c E o qa qb z.2.1, St_c E fa2 z.2.2]) hx hb hr hlocks rfl hQ hF rfl hP hD hS [0, 1, 2, 3] rfl rfl dX8_carryOut_72
        · refine lv_aload_n hx hb dX8_carryOut_29 rfl (lv_at hl 0 rfl) ?_
          refine lv_aload_n hx hb dX8_carryOut_30 rfl (lv_at hl 0 rfl) ?_
          refine g_get (T := TX8) (N := 7) hx hb hts in_X8 hown hK hP 0 rfl rfl 3 (by decide) w0 rfl rfl dX8_carryOut_31 ?_
          refine g_put (T := TX8) (N := 7) hx hb hts in_X8 tyX8 tyX8_ok nmX8 hown hK hP hD hS 0 rfl rfl 5 (by decide) w3 rfl rfl rfl rfl (Nat.le_of_ble_eq_true rfl) dX8_carryOut_34 (fun H locs hP hD hS => ?_)
          have hP : va_P E.1 vwCl (bl [[(o, .inr (6, [.ref qa, .ref qb, .int (Tx_length u), .int (Tx_at u), .int (Tx_items u), .int (Tx_at u), .int (Tx_faultReason u)]))], [(qa, .inl (E.2.2.1, 120, .inl (Tx_signs u)))], [(qb, .inl (E.2.1, 16, .inl (Tx_numbers u)))], St_c E fa2 u2]) H := hP
          have hD : va_D A (bl [[(o, .inr (6, [.ref qa, .ref qb, .int (Tx_length u), .int (Tx_at u), .int (Tx_items u), .int (Tx_at u), .int (Tx_faultReason u)]))], [(qa, .inl (E.2.2.1, 120, .inl (Tx_signs u)))], [(qb, .inl (E.2.1, 16, .inl (Tx_numbers u)))], St_c E fa2 u2]) := hD
          refine lv_aload_n hx hb dX8_carryOut_37 rfl (lv_at hl 0 rfl) ?_
          refine lv_aload_n hx hb dX8_carryOut_38 rfl (lv_at hl 0 rfl) ?_
          refine lv_aload_n hx hb dX8_carryOut_39 rfl (lv_at hl 1 rfl) ?_
          obtain ⟨q1, h_q1, hF⟩ := bnd_s hF
          refine g_callV (As := [.ref (fa2 0)]) (rest := [.ref o]) ⟨hx, hb, hml, hown, hts⟩ hK hZ hA (c_X8_carryOutItem l E o qa qb fa2 n (Tx_mk (Tx_signs u) (Tx_numbers u) (Tx_length u) (Tx_at u) (Tx_items u) (Tx_at u) (Tx_faultReason u)) u2 q1 h_q1) (cwV 1 hts gX8_carryOut_X8_carryOutItem rfl rfl rfl (by decide +kernel) ⟨Nat.le_of_ble_eq_true rfl, Nat.le_of_ble_eq_true rfl⟩) hP hD hS [0, 1, 2, 3] [] rfl rfl rfl rfl rfl rfl hl.1 rfl (Nat.le_of_ble_eq_true rfl) dX8_carryOut_40 ⟨Nat.le_of_ble_eq_true rfl, Nat.le_of_ble_eq_true rfl⟩ (fun H locs hP hD hS => ?_)
          have hP : va_P E.1 vwCl (bl [[(o, .inr (6, [.ref qa, .ref qb, .int (Tx_length q1.2.1), .int (Tx_at q1.2.1), .int (Tx_items q1.2.1), .int (Tx_faultIndex q1.2.1), .int (Tx_faultReason q1.2.1)]))], [(qa, .inl (E.2.2.1, 120, .inl (Tx_signs q1.2.1)))], [(qb, .inl (E.2.1, 16, .inl (Tx_numbers q1.2.1)))], St_c E fa2 q1.2.2]) H := hP
          have hD : va_D A (bl [[(o, .inr (6, [.ref qa, .ref qb, .int (Tx_length q1.2.1), .int (Tx_at q1.2.1), .int (Tx_items q1.2.1), .int (Tx_faultIndex q1.2.1), .int (Tx_faultReason q1.2.1)]))], [(qa, .inl (E.2.2.1, 120, .inl (Tx_signs q1.2.1)))], [(qb, .inl (E.2.1, 16, .inl (Tx_numbers q1.2.1)))], St_c E fa2 q1.2.2]) := hD
          refine W.eq (g2 := F0 m 43 ls [.int q1.1, .ref o]) rfl ?_
          refine g_put (T := TX8) (N := 7) hx hb hts in_X8 tyX8 tyX8_ok nmX8 hown hK hP hD hS 0 rfl rfl 6 (by decide) w4 rfl rfl rfl rfl (Nat.le_of_ble_eq_true rfl) dX8_carryOut_43 (fun H locs hP hD hS => ?_)
          have hP : va_P E.1 vwCl (bl [[(o, .inr (6, [.ref qa, .ref qb, .int (Tx_length q1.2.1), .int (Tx_at q1.2.1), .int (Tx_items q1.2.1), .int (Tx_faultIndex q1.2.1), .int q1.1]))], [(qa, .inl (E.2.2.1, 120, .inl (Tx_signs q1.2.1)))], [(qb, .inl (E.2.1, 16, .inl (Tx_numbers q1.2.1)))], St_c E fa2 q1.2.2]) H := hP
          have hD : va_D A (bl [[(o, .inr (6, [.ref qa, .ref qb, .int (Tx_length q1.2.1), .int (Tx_at q1.2.1), .int (Tx_items q1.2.1), .int (Tx_faultIndex q1.2.1), .int q1.1]))], [(qa, .inl (E.2.2.1, 120, .inl (Tx_signs q1.2.1)))], [(qb, .inl (E.2.1, 16, .inl (Tx_numbers q1.2.1)))], St_c E fa2 q1.2.2]) := hD
          refine lv_aload_n hx hb dX8_carryOut_46 rfl (lv_at hl 0 rfl) ?_
          refine g_get (T := TX8) (N := 7) hx hb hts in_X8 hown hK hP 0 rfl rfl 6 (by decide) w4 rfl rfl dX8_carryOut_47 ?_
          refine f_if_eq (tgt := 55) hx hb dX8_carryOut_50 (by decide) hF (fun hF => ?_) (fun hF => ?_)
          · refine lv_aload_n hx hb dX8_carryOut_55 rfl (lv_at hl 0 rfl) ?_
            refine lv_dup hx hb dX8_carryOut_56 rfl ?_
            refine g_get (T := TX8) (N := 7) hx hb hts in_X8 hown hK hP 0 rfl rfl 4 (by decide) w1 rfl rfl dX8_carryOut_57 ?_
            refine lv_iconst (v := 1) hx hb dX8_carryOut_60 (by decide) ?_
            refine lv_iadd hx hb dX8_carryOut_61 ?_
            refine g_put (T := TX8) (N := 7) hx hb hts in_X8 tyX8 tyX8_ok nmX8 hown hK hP hD hS 0 rfl rfl 4 (by decide) w1 rfl rfl rfl rfl (Nat.le_of_ble_eq_true rfl) dX8_carryOut_62 (fun H locs hP hD hS => ?_)
            have hP : va_P E.1 vwCl (bl [[(o, .inr (6, [.ref qa, .ref qb, .int (Tx_length q1.2.1), .int (Tx_at q1.2.1), .int ((Tx_items q1.2.1) + 1), .int (Tx_faultIndex q1.2.1), .int q1.1]))], [(qa, .inl (E.2.2.1, 120, .inl (Tx_signs q1.2.1)))], [(qb, .inl (E.2.1, 16, .inl (Tx_numbers q1.2.1)))], St_c E fa2 q1.2.2]) H := hP
            have hD : va_D A (bl [[(o, .inr (6, [.ref qa, .ref qb, .int (Tx_length q1.2.1), .int (Tx_at q1.2.1), .int ((Tx_items q1.2.1) + 1), .int (Tx_faultIndex q1.2.1), .int q1.1]))], [(qa, .inl (E.2.2.1, 120, .inl (Tx_signs q1.2.1)))], [(qb, .inl (E.2.1, 16, .inl (Tx_numbers q1.2.1)))], St_c E fa2 q1.2.2]) := hD
            refine lv_iinc (v := (x2 + 1)) (lv' := [(2, .int (x2 + 1)), (0, .ref o), (1, .ref (fa2 0))]) hx hb dX8_carryOut_65 hl (k := 2) rfl rfl (by decide) rfl (fun ls hl => ?_)
            refine lv_goto (tgt := 12) hx hb dX8_carryOut_68 (by decide) ?_
            exact ih (Tx_mk (Tx_signs q1.2.1) (Tx_numbers q1.2.1) (Tx_length q1.2.1) (Tx_at q1.2.1) ((Tx_items q1.2.1) + 1) (Tx_faultIndex q1.2.1) q1.1) q1.2.2 (x2 + 1) _ _ hP hD hS _ (lv_sub hl [1, 2, 0] rfl) hF
          · refine lv_iconst (v := 0) hx hb dX8_carryOut_53 (by decide) ?_
            exact g_zret (rvf := fun z => some (.int z.1)) (W1f := fun z => bl [Tx_c E o qa qb z.2.1, St_c E fa2 z.2.2]) hx hb hr hlocks rfl hQ hF rfl hP hD hS [0, 1, 2, 3] rfl rfl dX8_carryOut_54
  unfold F_X8_carryOut at hF
  refine lv_aload_n hx hb dX8_carryOut_0 rfl (lv_at hl 0 rfl) ?_
  refine lv_iconst (v := 0) hx hb dX8_carryOut_1 (by decide) ?_
  refine g_put (T := TX8) (N := 7) hx hb hts in_X8 tyX8 tyX8_ok nmX8 hown hK hP hD hS 0 rfl rfl 3 (by decide) w0 rfl rfl rfl rfl (Nat.le_of_ble_eq_true rfl) dX8_carryOut_2 (fun H locs hP hD hS => ?_)
  have hP : va_P E.1 vwCl (bl [[(o, .inr (6, [.ref qa, .ref qb, .int (Tx_length v), .int 0, .int (Tx_items v), .int (Tx_faultIndex v), .int (Tx_faultReason v)]))], [(qa, .inl (E.2.2.1, 120, .inl (Tx_signs v)))], [(qb, .inl (E.2.1, 16, .inl (Tx_numbers v)))], St_c E fa2 v2]) H := hP
  have hD : va_D A (bl [[(o, .inr (6, [.ref qa, .ref qb, .int (Tx_length v), .int 0, .int (Tx_items v), .int (Tx_faultIndex v), .int (Tx_faultReason v)]))], [(qa, .inl (E.2.2.1, 120, .inl (Tx_signs v)))], [(qb, .inl (E.2.1, 16, .inl (Tx_numbers v)))], St_c E fa2 v2]) := hD
  refine lv_aload_n hx hb dX8_carryOut_5 rfl (lv_at hl 0 rfl) ?_
  refine lv_iconst (v := 0) hx hb dX8_carryOut_6 (by decide) ?_
  refine g_put (T := TX8) (N := 7) hx hb hts in_X8 tyX8 tyX8_ok nmX8 hown hK hP hD hS 0 rfl rfl 4 (by decide) w1 rfl rfl rfl rfl (Nat.le_of_ble_eq_true rfl) dX8_carryOut_7 (fun H locs hP hD hS => ?_)
  have hP : va_P E.1 vwCl (bl [[(o, .inr (6, [.ref qa, .ref qb, .int (Tx_length v), .int 0, .int 0, .int (Tx_faultIndex v), .int (Tx_faultReason v)]))], [(qa, .inl (E.2.2.1, 120, .inl (Tx_signs v)))], [(qb, .inl (E.2.1, 16, .inl (Tx_numbers v)))], St_c E fa2 v2]) H := hP
  have hD : va_D A (bl [[(o, .inr (6, [.ref qa, .ref qb, .int (Tx_length v), .int 0, .int 0, .int (Tx_faultIndex v), .int (Tx_faultReason v)]))], [(qa, .inl (E.2.2.1, 120, .inl (Tx_signs v)))], [(qb, .inl (E.2.1, 16, .inl (Tx_numbers v)))], St_c E fa2 v2]) := hD
  refine lv_iconst (v := 0) hx hb dX8_carryOut_10 (by decide) ?_
  refine lv_istore_n (lv' := [(2, .int 0), (0, .ref o), (1, .ref (fa2 0))]) hx hb dX8_carryOut_11 rfl hl (by decide) rfl (fun ls hl => ?_)
  exact hL12 n (Tx_mk (Tx_signs v) (Tx_numbers v) (Tx_length v) 0 0 (Tx_faultIndex v) (Tx_faultReason v)) v2 0 _ _ hP hD hS _ (lv_sub hl [1, 2, 0] rfl) hF
