/-! the JDK's own methods that are reached: length and charAt of a string constant, floorDiv stands among the printed ones -/
def F_J0_length_8abf5 (i : Nat) : Option Int32 := if i < 14 then some (nI (gLen.getD i 0)) else none
def F_J0_charAt_5068e (i : Nat) (k : Int32) : Option Int32 := if i < 14 then chk k (gLen.getD i 0) (some (((gByt.getD i []).getD k.toNatClampNeg 0 &&& 255).toUInt32 % 65536).toInt32) else none
theorem F_J0_length_8abf5_i {i : Nat} {r : Int32} (h : F_J0_length_8abf5 i = some r) : i < 14 := by
  unfold F_J0_length_8abf5 at h
  split at h
  · assumption
  · cases h
theorem F_J0_charAt_5068e_i {i : Nat} {k r : Int32} (h : F_J0_charAt_5068e i k = some r) : i < 14 := by
  unfold F_J0_charAt_5068e at h
  split at h
  · assumption
  · cases h
set_option maxHeartbeats 4000000 in
set_option maxRecDepth 100000 in
theorem c_J0_coder (l : Launch) (E : GE) (i : Nat) (hi : i < 14) : CT l E yJ0_coder_7d493 wsJ0_coder_7d493 ({ frames := 0, cells := 0, slots := 0, locals := 0 } : Room) [.ref (E.2.2.2.2.2.1 i)] (bl []) (some (.int 0)) (bl []) 0 0 := by
  refine CT.of (cc := cJ0_coder_7d493) (maxL := 1) (ret := (some .byte)) (by decide) rfl (Nat.le_of_ble_eq_true rfl) ?_
  intro p e s m args below meth cd A Q ls B hQ hP hD hS hl
  obtain ⟨hx, hb, hml, hown, hts, hr, hlocks, hK, hZ, hA, hnm⟩ := B
  have hown : s.vm.findClass RJ0 = some m.cls := hown
  have hl : lv_has ls 1 [(0, .ref (E.2.2.2.2.2.1 i))] := hl
  have w0 := hts (.fieldLink RJ0 38 "java/lang/String" "COMPACT_STRINGS" "Z") (by decide +kernel)
  have w1 := hts (.fieldLink RJ0 15 "java/lang/String" "coder" "B") (by decide +kernel)
  obtain ⟨hO, hC, hV, hT⟩ := hZ.2.2.2.2.1.1 i hi
  refine va_gets hx hb hZ.2.2.1 hS hown w0 (fun _ h => h) dJ0_coder_7d493_0 ?_
  refine lv_if_eq (tgt := 13) hx hb dJ0_coder_7d493_3 (by decide) (fun z => absurd z (by decide)) (fun _ => ?_)
  refine lv_aload_n hx hb dJ0_coder_7d493_6 rfl (lv_at hl 0 rfl) ?_
  refine vk_getf hx hb hC hS hown w1 (fun _ h => h) dJ0_coder_7d493_7 ?_
  refine lv_goto (tgt := 14) hx hb dJ0_coder_7d493_10 (by decide) ?_
  exact g_zret (r := ()) (r0 := ()) (rvf := fun _ => some (.int 0)) (W1f := fun _ => bl []) hx hb hr hlocks rfl hQ rfl rfl hP hD hS [] rfl rfl dJ0_coder_7d493_14
set_option maxHeartbeats 4000000 in
set_option maxRecDepth 100000 in
theorem c_J0_isLatin1 (l : Launch) (E : GE) (i : Nat) (hi : i < 14) : CT l E yJ0_isLatin1_aae02 wsJ0_isLatin1_aae02 ({ frames := 0, cells := 0, slots := 0, locals := 0 } : Room) [.ref (E.2.2.2.2.2.1 i)] (bl []) (some (.int 1)) (bl []) 0 0 := by
  refine CT.of (cc := cJ0_isLatin1_aae02) (maxL := 1) (ret := (some .boolean)) (by decide) rfl (Nat.le_of_ble_eq_true rfl) ?_
  intro p e s m args below meth cd A Q ls B hQ hP hD hS hl
  obtain ⟨hx, hb, hml, hown, hts, hr, hlocks, hK, hZ, hA, hnm⟩ := B
  have hown : s.vm.findClass RJ0 = some m.cls := hown
  have hl : lv_has ls 1 [(0, .ref (E.2.2.2.2.2.1 i))] := hl
  have w0 := hts (.fieldLink RJ0 38 "java/lang/String" "COMPACT_STRINGS" "Z") (by decide +kernel)
  have w1 := hts (.fieldLink RJ0 15 "java/lang/String" "coder" "B") (by decide +kernel)
  obtain ⟨hO, hC, hV, hT⟩ := hZ.2.2.2.2.1.1 i hi
  refine va_gets hx hb hZ.2.2.1 hS hown w0 (fun _ h => h) dJ0_isLatin1_aae02_0 ?_
  refine lv_if_eq (tgt := 17) hx hb dJ0_isLatin1_aae02_3 (by decide) (fun z => absurd z (by decide)) (fun _ => ?_)
  refine lv_aload_n hx hb dJ0_isLatin1_aae02_6 rfl (lv_at hl 0 rfl) ?_
  refine vk_getf hx hb hC hS hown w1 (fun _ h => h) dJ0_isLatin1_aae02_7 ?_
  refine lv_if_ne (tgt := 17) hx hb dJ0_isLatin1_aae02_10 (by decide) (fun z => absurd rfl z) (fun _ => ?_)
  refine lv_iconst (v := 1) hx hb dJ0_isLatin1_aae02_13 (by decide) ?_
  refine lv_goto (tgt := 18) hx hb dJ0_isLatin1_aae02_14 (by decide) ?_
  exact g_zret (r := ()) (r0 := ()) (rvf := fun _ => some (.int 1)) (W1f := fun _ => bl []) hx hb hr hlocks rfl hQ rfl rfl hP hD hS [] rfl rfl dJ0_isLatin1_aae02_18
set_option maxHeartbeats 4000000 in
set_option maxRecDepth 100000 in
theorem c_J3_checkIndex (l : Launch) (E : GE) (k z : Int32) (f : Value) (hf : f = .null ∨ ∃ t : Nat, f = .ref t) (h0 : ¬ k < 0) (h1 : k < z) : CT l E yJ3_checkIndex_8e157 wsJ3_checkIndex_8e157 ({ frames := 0, cells := 0, slots := 0, locals := 0 } : Room) [.int k, .int z, f] (bl []) (some (.int k)) (bl []) 0 0 := by
  have hn : (lg_sl [.int k, .int z, f]).length ≤ 3 := by rcases hf with rfl | ⟨t, rfl⟩ <;> exact Nat.le_of_ble_eq_true rfl
  refine CT.of (cc := cJ3_checkIndex_8e157) (maxL := 3) (ret := (some .int)) (by decide) rfl hn ?_
  intro p e s m args below meth cd A Q ls B hQ hP hD hS hl
  obtain ⟨hx, hb, hml, hown, hts, hr, hlocks, hK, hZ, hA, hnm⟩ := B
  have hl : lv_has ls 3 [(0, .int k), (1, .int z), (2, f)] := by rcases hf with rfl | ⟨t, rfl⟩ <;> exact hl
  refine lv_iload_n hx hb dJ3_checkIndex_8e157_0 rfl (lv_at hl 0 rfl) ?_
  refine lv_if_lt (tgt := 9) hx hb dJ3_checkIndex_8e157_1 (by decide) (fun q => absurd q h0) (fun _ => ?_)
  refine lv_iload_n hx hb dJ3_checkIndex_8e157_4 rfl (lv_at hl 0 rfl) ?_
  refine lv_iload_n hx hb dJ3_checkIndex_8e157_5 rfl (lv_at hl 1 rfl) ?_
  refine lv_icmp_lt (tgt := 16) hx hb dJ3_checkIndex_8e157_6 (by decide) (fun _ => ?_) (fun q => absurd h1 q)
  refine lv_iload_n hx hb dJ3_checkIndex_8e157_16 rfl (lv_at hl 0 rfl) ?_
  exact g_iret (r := ()) (r0 := ()) (rvf := fun _ => some (.int k)) (W1f := fun _ => bl []) hx hb hr hlocks hQ rfl rfl hP hD hS [] rfl rfl dJ3_checkIndex_8e157_17
set_option maxHeartbeats 4000000 in
set_option maxRecDepth 100000 in
theorem c_J0_checkIndex (l : Launch) (E : GE) (k z : Int32) (h0 : ¬ k < 0) (h1 : k < z) : CT l E yJ0_checkIndex_df160 wsJ0_checkIndex_df160 ({ frames := 1, cells := 0, slots := 0, locals := 22 } : Room) [.int k, .int z] (bl []) none (bl []) 0 0 := by
  refine CT.of (cc := cJ0_checkIndex_df160) (maxL := 2) (ret := none) (by decide) rfl (Nat.le_of_ble_eq_true rfl) ?_
  intro p e s m args below meth cd A Q ls B hQ hP hD hS hl
  obtain ⟨hx, hb, hml, hown, hts, hr, hlocks, hK, hZ, hA, hnm⟩ := B
  have hown : s.vm.findClass RJ0 = some m.cls := hown
  have hl : lv_has ls 2 [(0, .int k), (1, .int z)] := hl
  have w0 := hts (.fieldLink RJ0 1053 "jdk/internal/util/Preconditions" "SIOOBE_FORMATTER" "Ljava/util/function/BiFunction;") (by decide +kernel)
  have key : ∀ f : Value, (f = .null ∨ ∃ t : Nat, f = .ref t) → va_Z "jdk/internal/util/Preconditions" "SIOOBE_FORMATTER" "Ljava/util/function/BiFunction;" f A s s.heap → W p l e ({ frames := 1, cells := 0, slots := 0, locals := 22 } : Room) s m args below meth cd s.heap [] 0 0 Q (F0 m 0 ls []) := by
    intro f hf hz
    refine lv_iload_n hx hb dJ0_checkIndex_df160_0 rfl (lv_at hl 0 rfl) ?_
    refine lv_iload_n hx hb dJ0_checkIndex_df160_1 rfl (lv_at hl 1 rfl) ?_
    refine va_gets hx hb hz hS hown w0 (fun _ h => h) dJ0_checkIndex_df160_2 ?_
    refine g_callS (As := [.int k, .int z, f]) (rest := []) ⟨hx, hb, hml, hown, hts⟩ hK hZ hA (c_J3_checkIndex l E k z f hf h0 h1) (va_cwS 3 hts gJ0_checkIndex_df160_J3_checkIndex_8e157 rfl rfl rfl (by decide +kernel) ⟨Nat.le_of_ble_eq_true rfl, Nat.le_of_ble_eq_true rfl⟩) hP hD hS [] [] rfl rfl rfl hl.1 rfl (Nat.le_of_ble_eq_true rfl) dJ0_checkIndex_df160_5 ⟨Nat.le_of_ble_eq_true rfl, Nat.le_of_ble_eq_true rfl⟩ (fun H locs hP hD hS => ?_)
    have hP : va_P E.1 vwCl (bl []) H := hP
    have hD : va_D A (bl []) := hD
    refine W.eq (g2 := F0 m 8 ls [.int k]) rfl ?_
    refine lv_pop hx hb dJ0_checkIndex_df160_8 rfl ?_
    exact g_vret (r := ()) (r0 := ()) (rvf := fun _ => none) (W1f := fun _ => bl []) hx hb hr hlocks hQ rfl rfl hP hD hS [] rfl rfl dJ0_checkIndex_df160_9
  rcases hZ.2.2.2.1 with h | ⟨t, h⟩
  · exact key _ (Or.inl rfl) h
  · exact key _ (Or.inr ⟨t, rfl⟩) h
set_option maxHeartbeats 4000000 in
set_option maxRecDepth 100000 in
theorem c_J1_charAt (l : Launch) (E : GE) (i : Nat) (hi : i < 14) (k : Int32) (hk : vp_in k (gLen.getD i 0)) : CT l E yJ1_charAt_3b067 wsJ1_charAt_3b067 ({ frames := 2, cells := 0, slots := 0, locals := 43 } : Room) [.ref (E.2.2.2.2.2.2 i), .int k] (bl []) (some (.int (((gByt.getD i []).getD k.toNatClampNeg 0 &&& 255).toUInt32 % 65536).toInt32)) (bl []) 0 0 := by
  have h31 : gLen.getD i 0 < 2 ^ 31 := by
    have : ∀ j, j < 14 → gLen.getD j 0 < 2 ^ 31 := by decide
    exact this i hi
  obtain ⟨j, hj, ej⟩ := vp_in_of hk h31
  refine CT.of (cc := cJ1_charAt_3b067) (maxL := 2) (ret := (some .char)) (by decide) rfl (Nat.le_of_ble_eq_true rfl) ?_
  intro p e s m args below meth cd A Q ls B hQ hP hD hS hl
  obtain ⟨hx, hb, hml, hown, hts, hr, hlocks, hK, hZ, hA, hnm⟩ := B
  have hown : s.vm.findClass RJ1 = some m.cls := hown
  have hl : lv_has ls 2 [(0, .ref (E.2.2.2.2.2.2 i)), (1, .int k)] := hl
  obtain ⟨hO, hC, hV, hT⟩ := hZ.2.2.2.2.1.1 i hi
  refine lv_iload_n hx hb dJ1_charAt_3b067_0 rfl (lv_at hl 1 rfl) ?_
  refine lv_aload_n hx hb dJ1_charAt_3b067_1 rfl (lv_at hl 0 rfl) ?_
  refine va_tlen (v := nI (gLen.getD i 0)) hx hb hT hS rfl dJ1_charAt_3b067_2 ?_
  refine g_callS (As := [.int k, .int (nI (gLen.getD i 0))]) (rest := []) ⟨hx, hb, hml, hown, hts⟩ hK hZ hA (c_J0_checkIndex l E k (nI (gLen.getD i 0)) (fun q => hk (Or.inl q)) (by rw [ej]; exact nI_lt hj h31)) (va_cwS 2 hts gJ1_charAt_3b067_J0_checkIndex_df160 rfl rfl rfl (by decide +kernel) ⟨Nat.le_of_ble_eq_true rfl, Nat.le_of_ble_eq_true rfl⟩) hP hD hS [] [] rfl rfl rfl hl.1 rfl (Nat.le_of_ble_eq_true rfl) dJ1_charAt_3b067_3 ⟨Nat.le_of_ble_eq_true rfl, Nat.le_of_ble_eq_true rfl⟩ (fun H locs hP hD hS => ?_)
  have hP : va_P E.1 vwCl (bl []) H := hP
  have hD : va_D A (bl []) := hD
  refine W.eq (g2 := F0 m 6 ls []) rfl ?_
  refine lv_aload_n hx hb dJ1_charAt_3b067_6 rfl (lv_at hl 0 rfl) ?_
  refine lv_iload_n hx hb dJ1_charAt_3b067_7 rfl (lv_at hl 1 rfl) ?_
  refine va_tb (v := .int ((gByt.getD i []).getD k.toNatClampNeg 0)) hx hb hT hS hk rfl dJ1_charAt_3b067_8 ?_
  refine lv_sipush (v := 255) hx hb dJ1_charAt_3b067_9 (by decide) ?_
  refine lv_iand hx hb dJ1_charAt_3b067_12 ?_
  refine lv_i2c (v := (((gByt.getD i []).getD k.toNatClampNeg 0 &&& 255).toUInt32 % 65536).toInt32) hx hb dJ1_charAt_3b067_13 rfl ?_
  have hnr : narrow .char (.int (((gByt.getD i []).getD k.toNatClampNeg 0 &&& 255).toUInt32 % 65536).toInt32) = .int (((gByt.getD i []).getD k.toNatClampNeg 0 &&& 255).toUInt32 % 65536).toInt32 := pk_nc _
  exact g_zret (r := ()) (r0 := ()) (rvf := fun _ => some (.int (((gByt.getD i []).getD k.toNatClampNeg 0 &&& 255).toUInt32 % 65536).toInt32)) (W1f := fun _ => bl []) hx hb hr hlocks hnr hQ rfl rfl hP hD hS [] rfl rfl dJ1_charAt_3b067_14
set_option maxHeartbeats 4000000 in
set_option maxRecDepth 100000 in
theorem c_J0_length_8abf5 (l : Launch) (E : GE) (i : Nat) (r : Int32) (hF : F_J0_length_8abf5 i = some r) : CT l E yJ0_length_8abf5 wsJ0_length_8abf5 ({ frames := 1, cells := 0, slots := 0, locals := 20 } : Room) [.ref (E.2.2.2.2.2.1 i)] (bl []) (some (.int r)) (bl []) 0 0 := by
  have hi := F_J0_length_8abf5_i hF
  refine CT.of (cc := cJ0_length_8abf5) (maxL := 1) (ret := (some .int)) (by decide) rfl (Nat.le_of_ble_eq_true rfl) ?_
  intro p e s m args below meth cd A Q ls B hQ hP hD hS hl
  obtain ⟨hx, hb, hml, hown, hts, hr, hlocks, hK, hZ, hA, hnm⟩ := B
  have hown : s.vm.findClass RJ0 = some m.cls := hown
  have hl : lv_has ls 1 [(0, .ref (E.2.2.2.2.2.1 i))] := hl
  have w1 := hts (.fieldLink RJ0 9 "java/lang/String" "value" "[B") (by decide +kernel)
  obtain ⟨hO, hC, hV, hT⟩ := hZ.2.2.2.2.1.1 i hi
  refine lv_aload_n hx hb dJ0_length_8abf5_0 rfl (lv_at hl 0 rfl) ?_
  refine vk_getf hx hb hV hS hown w1 (fun _ h => h) dJ0_length_8abf5_1 ?_
  refine va_tlen (v := nI (gLen.getD i 0)) hx hb hT hS rfl dJ0_length_8abf5_4 ?_
  refine lv_aload_n hx hb dJ0_length_8abf5_5 rfl (lv_at hl 0 rfl) ?_
  refine g_callVs hi (As := []) (rest := [.int (nI (gLen.getD i 0))]) ⟨hx, hb, hml, hown, hts⟩ hK hZ hA (c_J0_coder l E i hi) (cwV 0 hts gJ0_length_8abf5_J0_coder_7d493 rfl rfl rfl (by decide +kernel) ⟨Nat.le_of_ble_eq_true rfl, Nat.le_of_ble_eq_true rfl⟩) hP hD hS [] [] rfl rfl rfl hl.1 rfl (Nat.le_of_ble_eq_true rfl) dJ0_length_8abf5_6 ⟨Nat.le_of_ble_eq_true rfl, Nat.le_of_ble_eq_true rfl⟩ (fun H locs hP hD hS => ?_)
  have hP : va_P E.1 vwCl (bl []) H := hP
  have hD : va_D A (bl []) := hD
  refine W.eq (g2 := F0 m 9 ls [.int 0, .int (nI (gLen.getD i 0))]) rfl ?_
  refine lv_ishr hx hb dJ0_length_8abf5_9 ?_
  rw [sb_shr0]
  refine g_iret (rvf := fun z => some (.int z)) (W1f := fun z => bl []) hx hb hr hlocks hQ (hF.symm.trans (if_pos hi)).symm rfl hP hD hS [] rfl rfl dJ0_length_8abf5_10
set_option maxHeartbeats 4000000 in
set_option maxRecDepth 100000 in
theorem c_J0_charAt_5068e (l : Launch) (E : GE) (i : Nat) (k : Int32) (r : Int32) (hF : F_J0_charAt_5068e i k = some r) : CT l E yJ0_charAt_5068e wsJ0_charAt_5068e ({ frames := 5, cells := 0, slots := 0, locals := 130 } : Room) [.ref (E.2.2.2.2.2.1 i), .int k] (bl []) (some (.int r)) (bl []) 0 0 := by
  have hi := F_J0_charAt_5068e_i hF
  obtain ⟨hk, hF⟩ := chk_s (hF.symm.trans (if_pos hi)).symm
  refine CT.of (cc := cJ0_charAt_5068e) (maxL := 2) (ret := (some .char)) (by decide) rfl (Nat.le_of_ble_eq_true rfl) ?_
  intro p e s m args below meth cd A Q ls B hQ hP hD hS hl
  obtain ⟨hx, hb, hml, hown, hts, hr, hlocks, hK, hZ, hA, hnm⟩ := B
  have hown : s.vm.findClass RJ0 = some m.cls := hown
  have hl : lv_has ls 2 [(0, .ref (E.2.2.2.2.2.1 i)), (1, .int k)] := hl
  have w1 := hts (.fieldLink RJ0 9 "java/lang/String" "value" "[B") (by decide +kernel)
  obtain ⟨hO, hC, hV, hT⟩ := hZ.2.2.2.2.1.1 i hi
  refine lv_aload_n hx hb dJ0_charAt_5068e_0 rfl (lv_at hl 0 rfl) ?_
  refine g_callVs hi (As := []) (rest := []) ⟨hx, hb, hml, hown, hts⟩ hK hZ hA (c_J0_isLatin1 l E i hi) (cwV 0 hts gJ0_charAt_5068e_J0_isLatin1_aae02 rfl rfl rfl (by decide +kernel) ⟨Nat.le_of_ble_eq_true rfl, Nat.le_of_ble_eq_true rfl⟩) hP hD hS [] [] rfl rfl rfl hl.1 rfl (Nat.le_of_ble_eq_true rfl) dJ0_charAt_5068e_1 ⟨Nat.le_of_ble_eq_true rfl, Nat.le_of_ble_eq_true rfl⟩ (fun H locs hP hD hS => ?_)
  have hP : va_P E.1 vwCl (bl []) H := hP
  have hD : va_D A (bl []) := hD
  refine W.eq (g2 := F0 m 4 ls [.int 1]) rfl ?_
  refine lv_if_eq (tgt := 16) hx hb dJ0_charAt_5068e_4 (by decide) (fun z => absurd z (by decide)) (fun _ => ?_)
  refine lv_aload_n hx hb dJ0_charAt_5068e_7 rfl (lv_at hl 0 rfl) ?_
  refine vk_getf hx hb hV hS hown w1 (fun _ h => h) dJ0_charAt_5068e_8 ?_
  refine lv_iload_n hx hb dJ0_charAt_5068e_11 rfl (lv_at hl 1 rfl) ?_
  refine g_callS (As := [.ref (E.2.2.2.2.2.2 i), .int k]) (rest := []) ⟨hx, hb, hml, hown, hts⟩ hK hZ hA (c_J1_charAt l E i hi k hk) (va_cwS 2 hts gJ0_charAt_5068e_J1_charAt_3b067 rfl rfl rfl (by decide +kernel) ⟨Nat.le_of_ble_eq_true rfl, Nat.le_of_ble_eq_true rfl⟩) hP hD hS [] [] rfl rfl rfl hl.1 rfl (Nat.le_of_ble_eq_true rfl) dJ0_charAt_5068e_12 ⟨Nat.le_of_ble_eq_true rfl, Nat.le_of_ble_eq_true rfl⟩ (fun H locs hP hD hS => ?_)
  have hP : va_P E.1 vwCl (bl []) H := hP
  have hD : va_D A (bl []) := hD
  refine W.eq (g2 := F0 m 15 ls [.int (((gByt.getD i []).getD k.toNatClampNeg 0 &&& 255).toUInt32 % 65536).toInt32]) rfl ?_
  have hnr : narrow .char (.int (((gByt.getD i []).getD k.toNatClampNeg 0 &&& 255).toUInt32 % 65536).toInt32) = .int (((gByt.getD i []).getD k.toNatClampNeg 0 &&& 255).toUInt32 % 65536).toInt32 := pk_nc _
  exact g_zret (rvf := fun z => some (.int z)) (W1f := fun z => bl []) hx hb hr hlocks hnr hQ hF rfl hP hD hS [] rfl rfl dJ0_charAt_5068e_15
