-- the constructors: printed by wip/whole/inits.py
def pick5 {α : Type} (a b c d e : α) (i : Nat) : α := match i with
  | 0 => a
  | 1 => b
  | 2 => c
  | 3 => d
  | _ => e
def F_X1_init  : Option ChV := some (Ch_mk (fun _ => 0) (fun _ => 0) (fun _ => 0) 0 0 3 0)
set_option maxHeartbeats 8000000 in
set_option maxRecDepth 100000 in
theorem c_X1_init (l : Launch) (E : GE) (o : Nat)  (r : ChV) (hF : F_X1_init = some r) : CN l E yX1_init wsX1_init ({ frames := 1, cells := 3, slots := 18, locals := 12 } : Room) o (bl [[(o, .inr (0, [.null, .null, .null, .int 0, .int 0, .int 0, .int 0]))]]) (fun z : Nat × Nat × Nat => True) (fun z : Nat × Nat × Nat => bl [Ch_c E o z.1 z.2.1 z.2.2 r]) 3 18 := by
  refine CN.of (cc := cX1_init) (maxL := 1) (ret := none) (by decide) rfl (Nat.le_of_ble_eq_true rfl) ?_
  intro p e s m args below meth cd A Q ls B hQ hP hD hS hl
  obtain ⟨hx, hb, hml, hown, hts, hr, hlocks, hK, hZ, hA, hnm⟩ := B
  have hown : s.vm.findClass RX1 = some m.cls := hown
  have hl : lv_has ls 1 [(0, .ref o)] := hl
  have w0 := hts (.methodLink RX1 3 objectInit) (by decide +kernel)
  have w1 := hts (.instanceMethod objectInit) (by decide +kernel)
  have w2 := hts (.code objectInit ⟨#[0xb1]⟩ 1 none) (by decide +kernel)
  have w3 := hts (.arrayClass .int) (by decide +kernel)
  have w4 := hts (.fieldLink RX1 11 "HarborLight$Changer" "intensities" "[I") (by decide +kernel)
  have w5 := hts (.fieldLink RX1 15 "HarborLight$Changer" "lives" "[I") (by decide +kernel)
  have w6 := hts (.fieldLink RX1 18 "HarborLight$Changer" "uses" "[I") (by decide +kernel)
  have w7 := hts (.fieldLink RX1 21 "HarborLight$Changer" "change" "I") (by decide +kernel)
  have in_X1 : ∀ w ∈ wsX10, w ∈ wsX1_init := by decide +kernel
  unfold F_X1_init at hF
  refine lv_aload_n hx hb dX1_init_0 rfl (lv_at hl 0 rfl) ?_
  refine W.objInit hx hb hown w0 w1 w2 rfl (by rw [hml]; exact hl.1) rfl dX1_init_1 (Nat.le_of_ble_eq_true rfl) (Nat.le_of_ble_eq_true rfl) ?_
  refine W.eq (g2 := F0 m 4 ls []) rfl ?_
  refine lv_aload_n hx hb dX1_init_4 rfl (lv_at hl 0 rfl) ?_
  refine lv_bipush (v := 6) hx hb dX1_init_5 (by decide) ?_
  refine g_newi (N' := 6) hx hb w3 hK hP hD hS hA (by decide) (by decide) (Nat.le_of_ble_eq_true rfl) (Nat.le_of_ble_eq_true rfl) (Nat.le_of_ble_eq_true rfl) dX1_init_7 (fun a1 H hP hD hS => ?_)
  have hP : va_P E.1 vwCl (bl [[(o, .inr (0, [.null, .null, .null, .int 0, .int 0, .int 0, .int 0]))], [(a1, .inl (E.2.1, 6, .inl (fun _ => 0)))]]) H := hP
  have hD : va_D A (bl [[(o, .inr (0, [.null, .null, .null, .int 0, .int 0, .int 0, .int 0]))], [(a1, .inl (E.2.1, 6, .inl (fun _ => 0)))]]) := hD
  refine g_putF (T := TX1) (N := 7) hx hb hts in_X1 tyX1 tyX1_ok nmX1 hown hK hP hD hS 0 rfl rfl 0 (by decide) w4 rfl rfl hnm rfl rfl (Nat.le_of_ble_eq_true rfl) dX1_init_9 (fun H locs hP hD hS => ?_)
  have hP : va_P E.1 vwCl (bl [[(o, .inr (0, [.ref a1, .null, .null, .int 0, .int 0, .int 0, .int 0]))], [(a1, .inl (E.2.1, 6, .inl (fun _ => 0)))]]) H := hP
  have hD : va_D A (bl [[(o, .inr (0, [.ref a1, .null, .null, .int 0, .int 0, .int 0, .int 0]))], [(a1, .inl (E.2.1, 6, .inl (fun _ => 0)))]]) := hD
  refine lv_aload_n hx hb dX1_init_12 rfl (lv_at hl 0 rfl) ?_
  refine lv_bipush (v := 6) hx hb dX1_init_13 (by decide) ?_
  refine g_newi (N' := 6) hx hb w3 hK hP hD hS hA (by decide) (by decide) (Nat.le_of_ble_eq_true rfl) (Nat.le_of_ble_eq_true rfl) (Nat.le_of_ble_eq_true rfl) dX1_init_15 (fun a2 H hP hD hS => ?_)
  have hP : va_P E.1 vwCl (bl [[(o, .inr (0, [.ref a1, .null, .null, .int 0, .int 0, .int 0, .int 0]))], [(a1, .inl (E.2.1, 6, .inl (fun _ => 0)))], [(a2, .inl (E.2.1, 6, .inl (fun _ => 0)))]]) H := hP
  have hD : va_D A (bl [[(o, .inr (0, [.ref a1, .null, .null, .int 0, .int 0, .int 0, .int 0]))], [(a1, .inl (E.2.1, 6, .inl (fun _ => 0)))], [(a2, .inl (E.2.1, 6, .inl (fun _ => 0)))]]) := hD
  refine g_putF (T := TX1) (N := 7) hx hb hts in_X1 tyX1 tyX1_ok nmX1 hown hK hP hD hS 0 rfl rfl 1 (by decide) w5 rfl rfl hnm rfl rfl (Nat.le_of_ble_eq_true rfl) dX1_init_17 (fun H locs hP hD hS => ?_)
  have hP : va_P E.1 vwCl (bl [[(o, .inr (0, [.ref a1, .ref a2, .null, .int 0, .int 0, .int 0, .int 0]))], [(a1, .inl (E.2.1, 6, .inl (fun _ => 0)))], [(a2, .inl (E.2.1, 6, .inl (fun _ => 0)))]]) H := hP
  have hD : va_D A (bl [[(o, .inr (0, [.ref a1, .ref a2, .null, .int 0, .int 0, .int 0, .int 0]))], [(a1, .inl (E.2.1, 6, .inl (fun _ => 0)))], [(a2, .inl (E.2.1, 6, .inl (fun _ => 0)))]]) := hD
  refine lv_aload_n hx hb dX1_init_20 rfl (lv_at hl 0 rfl) ?_
  refine lv_bipush (v := 6) hx hb dX1_init_21 (by decide) ?_
  refine g_newi (N' := 6) hx hb w3 hK hP hD hS hA (by decide) (by decide) (Nat.le_of_ble_eq_true rfl) (Nat.le_of_ble_eq_true rfl) (Nat.le_of_ble_eq_true rfl) dX1_init_23 (fun a3 H hP hD hS => ?_)
  have hP : va_P E.1 vwCl (bl [[(o, .inr (0, [.ref a1, .ref a2, .null, .int 0, .int 0, .int 0, .int 0]))], [(a1, .inl (E.2.1, 6, .inl (fun _ => 0)))], [(a2, .inl (E.2.1, 6, .inl (fun _ => 0)))], [(a3, .inl (E.2.1, 6, .inl (fun _ => 0)))]]) H := hP
  have hD : va_D A (bl [[(o, .inr (0, [.ref a1, .ref a2, .null, .int 0, .int 0, .int 0, .int 0]))], [(a1, .inl (E.2.1, 6, .inl (fun _ => 0)))], [(a2, .inl (E.2.1, 6, .inl (fun _ => 0)))], [(a3, .inl (E.2.1, 6, .inl (fun _ => 0)))]]) := hD
  refine g_putF (T := TX1) (N := 7) hx hb hts in_X1 tyX1 tyX1_ok nmX1 hown hK hP hD hS 0 rfl rfl 2 (by decide) w6 rfl rfl hnm rfl rfl (Nat.le_of_ble_eq_true rfl) dX1_init_25 (fun H locs hP hD hS => ?_)
  have hP : va_P E.1 vwCl (bl [[(o, .inr (0, [.ref a1, .ref a2, .ref a3, .int 0, .int 0, .int 0, .int 0]))], [(a1, .inl (E.2.1, 6, .inl (fun _ => 0)))], [(a2, .inl (E.2.1, 6, .inl (fun _ => 0)))], [(a3, .inl (E.2.1, 6, .inl (fun _ => 0)))]]) H := hP
  have hD : va_D A (bl [[(o, .inr (0, [.ref a1, .ref a2, .ref a3, .int 0, .int 0, .int 0, .int 0]))], [(a1, .inl (E.2.1, 6, .inl (fun _ => 0)))], [(a2, .inl (E.2.1, 6, .inl (fun _ => 0)))], [(a3, .inl (E.2.1, 6, .inl (fun _ => 0)))]]) := hD
  refine lv_aload_n hx hb dX1_init_28 rfl (lv_at hl 0 rfl) ?_
  refine lv_iconst (v := 3) hx hb dX1_init_29 (by decide) ?_
  refine g_put (T := TX1) (N := 7) hx hb hts in_X1 tyX1 tyX1_ok nmX1 hown hK hP hD hS 0 rfl rfl 5 (by decide) w7 rfl rfl rfl rfl (Nat.le_of_ble_eq_true rfl) dX1_init_30 (fun H locs hP hD hS => ?_)
  have hP : va_P E.1 vwCl (bl [[(o, .inr (0, [.ref a1, .ref a2, .ref a3, .int 0, .int 0, .int 3, .int 0]))], [(a1, .inl (E.2.1, 6, .inl (fun _ => 0)))], [(a2, .inl (E.2.1, 6, .inl (fun _ => 0)))], [(a3, .inl (E.2.1, 6, .inl (fun _ => 0)))]]) H := hP
  have hD : va_D A (bl [[(o, .inr (0, [.ref a1, .ref a2, .ref a3, .int 0, .int 0, .int 3, .int 0]))], [(a1, .inl (E.2.1, 6, .inl (fun _ => 0)))], [(a2, .inl (E.2.1, 6, .inl (fun _ => 0)))], [(a3, .inl (E.2.1, 6, .inl (fun _ => 0)))]]) := hD
  cases hF
  exact g_nret (z := (a1, a2, a3)) hx hb hr hlocks hQ trivial (Nat.le_of_ble_eq_true rfl) (Nat.le_of_ble_eq_true rfl) hP hD hS [0, 1, 2, 3] rfl rfl dX1_init_33
def F_X2_init_L14 (n : Nat) : Nat → CiV → Int32 → Option CiV
  | 0, _, _ => none
  | k + 1, u, x1 => if 64 ≤ x1 then some u else chk x1 64 (F_X2_init_L14 n k (Ci_mk (upd (Ci_colors u) x1.toNatClampNeg 1)) (x1 + 1))
def F_X2_init (n : Nat) : Option CiV := F_X2_init_L14 n n (Ci_mk (fun _ => 0)) 0
set_option maxHeartbeats 8000000 in
set_option maxRecDepth 100000 in
theorem c_X2_init (l : Launch) (E : GE) (o : Nat) (n : Nat) (r : CiV) (hF : F_X2_init n = some r) : CN l E yX2_init wsX2_init ({ frames := 1, cells := 1, slots := 64, locals := 12 } : Room) o (bl [[(o, .inr (1, [.null]))]]) (fun z : Nat => True) (fun z : Nat => bl [Ci_c E o z r]) 1 64 := by
  refine CN.of (cc := cX2_init) (maxL := 2) (ret := none) (by decide) rfl (Nat.le_of_ble_eq_true rfl) ?_
  intro p e s m args below meth cd A Q ls B hQ hP hD hS hl
  obtain ⟨hx, hb, hml, hown, hts, hr, hlocks, hK, hZ, hA, hnm⟩ := B
  have hown : s.vm.findClass RX2 = some m.cls := hown
  have hl : lv_has ls 2 [(0, .ref o)] := hl
  have w0 := hts (.methodLink RX2 3 objectInit) (by decide +kernel)
  have w1 := hts (.instanceMethod objectInit) (by decide +kernel)
  have w2 := hts (.code objectInit ⟨#[0xb1]⟩ 1 none) (by decide +kernel)
  have w3 := hts (.arrayClass .int) (by decide +kernel)
  have w4 := hts (.fieldLink RX2 11 "HarborLight$Circle" "colors" "[I") (by decide +kernel)
  have in_X2 : ∀ w ∈ wsX20, w ∈ wsX2_init := by decide +kernel
  have hL14 : ∀ (k : Nat) (a1 : Nat) (u : CiV) (x1 : Int32) (H : Heap) (locs : List Loc), va_P E.1 vwCl (bl [[(o, .inr (1, [.ref a1]))], [(a1, .inl (E.2.1, 64, .inl (Ci_colors u)))]]) H → va_D A (bl [[(o, .inr (1, [.ref a1]))], [(a1, .inl (E.2.1, 64, .inl (Ci_colors u)))]]) → va_S A s.heap H locs → ∀ ls : Array Slot, lv_has ls 2 [(0, .ref o), (1, .int x1)] → F_X2_init_L14 n k u x1 = some r → W p l e ({ frames := 1, cells := 1, slots := 64, locals := 12 } : Room) s m args below meth cd H locs 1 64 Q (F0 m 14 ls []) := by
    intro k
    induction k with
    | zero => intro a1 u x1 H locs hP hD hS ls hl hF; cases hF
    | succ k ih =>
      intro a1 u x1 H locs hP hD hS ls hl hF
      rw [F_X2_init_L14] at hF
      refine lv_iload_n hx hb dX2_init_14 rfl (lv_at hl 1 rfl) ?_
      refine lv_aload_n hx hb dX2_init_15 rfl (lv_at hl 0 rfl) ?_
      refine g_get (T := TX2) (N := 1) hx hb hts in_X2 hown hK hP 0 rfl rfl 0 (by decide) w4 rfl rfl dX2_init_16 ?_
      refine g_alen (v := 64) hx hb hK hP 1 0 rfl rfl rfl dX2_init_19 ?_
      refine f_icmp_ge (tgt := 36) hx hb dX2_init_20 (by decide) hF (fun hF => ?_) (fun hF => ?_)
      · cases hF
        exact g_nret (z := a1) hx hb hr hlocks hQ trivial (Nat.le_of_ble_eq_true rfl) (Nat.le_of_ble_eq_true rfl) hP hD hS [0, 1] rfl rfl dX2_init_36
      · refine lv_aload_n hx hb dX2_init_23 rfl (lv_at hl 0 rfl) ?_
        refine g_get (T := TX2) (N := 1) hx hb hts in_X2 hown hK hP 0 rfl rfl 0 (by decide) w4 rfl rfl dX2_init_24 ?_
        refine lv_iload_n hx hb dX2_init_27 rfl (lv_at hl 1 rfl) ?_
        refine lv_iconst (v := 1) hx hb dX2_init_28 (by decide) ?_
        refine f_iast hx hb hK hP hD hS 1 rfl hF dX2_init_29 (fun hF H locs hP hD hS => ?_)
        have hP : va_P E.1 vwCl (bl [[(o, .inr (1, [.ref a1]))], [(a1, .inl (E.2.1, 64, .inl (upd (Ci_colors u) x1.toNatClampNeg 1)))]]) H := hP
        have hD : va_D A (bl [[(o, .inr (1, [.ref a1]))], [(a1, .inl (E.2.1, 64, .inl (upd (Ci_colors u) x1.toNatClampNeg 1)))]]) := hD
        refine lv_iinc (v := (x1 + 1)) (lv' := [(1, .int (x1 + 1)), (0, .ref o)]) hx hb dX2_init_30 hl (k := 1) rfl rfl (by decide) rfl (fun ls hl => ?_)
        refine lv_goto (tgt := 14) hx hb dX2_init_33 (by decide) ?_
        exact ih a1 (Ci_mk (upd (Ci_colors u) x1.toNatClampNeg 1)) (x1 + 1) _ _ hP hD hS _ (lv_sub hl [1, 0] rfl) hF
  unfold F_X2_init at hF
  refine lv_aload_n hx hb dX2_init_0 rfl (lv_at hl 0 rfl) ?_
  refine W.objInit hx hb hown w0 w1 w2 rfl (by rw [hml]; exact hl.1) rfl dX2_init_1 (Nat.le_of_ble_eq_true rfl) (Nat.le_of_ble_eq_true rfl) ?_
  refine W.eq (g2 := F0 m 4 ls []) rfl ?_
  refine lv_aload_n hx hb dX2_init_4 rfl (lv_at hl 0 rfl) ?_
  refine lv_bipush (v := 64) hx hb dX2_init_5 (by decide) ?_
  refine g_newi (N' := 64) hx hb w3 hK hP hD hS hA (by decide) (by decide) (Nat.le_of_ble_eq_true rfl) (Nat.le_of_ble_eq_true rfl) (Nat.le_of_ble_eq_true rfl) dX2_init_7 (fun a1 H hP hD hS => ?_)
  have hP : va_P E.1 vwCl (bl [[(o, .inr (1, [.null]))], [(a1, .inl (E.2.1, 64, .inl (fun _ => 0)))]]) H := hP
  have hD : va_D A (bl [[(o, .inr (1, [.null]))], [(a1, .inl (E.2.1, 64, .inl (fun _ => 0)))]]) := hD
  refine g_putF (T := TX2) (N := 1) hx hb hts in_X2 tyX2 tyX2_ok nmX2 hown hK hP hD hS 0 rfl rfl 0 (by decide) w4 rfl rfl hnm rfl rfl (Nat.le_of_ble_eq_true rfl) dX2_init_9 (fun H locs hP hD hS => ?_)
  have hP : va_P E.1 vwCl (bl [[(o, .inr (1, [.ref a1]))], [(a1, .inl (E.2.1, 64, .inl (fun _ => 0)))]]) H := hP
  have hD : va_D A (bl [[(o, .inr (1, [.ref a1]))], [(a1, .inl (E.2.1, 64, .inl (fun _ => 0)))]]) := hD
  refine lv_iconst (v := 0) hx hb dX2_init_12 (by decide) ?_
  refine lv_istore_n (lv' := [(1, .int 0), (0, .ref o)]) hx hb dX2_init_13 rfl hl (by decide) rfl (fun ls hl => ?_)
  exact hL14 n a1 (Ci_mk (fun _ => 0)) 0 _ _ hP hD hS _ (lv_sub hl [1, 0] rfl) hF
def F_X4_init  : Option FlV := chk 0 8 (chk 0 8 (some (Fl_mk (upd (fun _ => 0) (0 : Int32).toNatClampNeg 2) (upd (fun _ => 0) (0 : Int32).toNatClampNeg 2) 1 2 2)))
set_option maxHeartbeats 8000000 in
set_option maxRecDepth 100000 in
theorem c_X4_init (l : Launch) (E : GE) (o : Nat)  (r : FlV) (hF : F_X4_init = some r) : CN l E yX4_init wsX4_init ({ frames := 1, cells := 2, slots := 16, locals := 12 } : Room) o (bl [[(o, .inr (2, [.null, .null, .int 0, .int 0, .int 0]))]]) (fun z : Nat × Nat => True) (fun z : Nat × Nat => bl [Fl_c E o z.1 z.2 r]) 2 16 := by
  refine CN.of (cc := cX4_init) (maxL := 1) (ret := none) (by decide) rfl (Nat.le_of_ble_eq_true rfl) ?_
  intro p e s m args below meth cd A Q ls B hQ hP hD hS hl
  obtain ⟨hx, hb, hml, hown, hts, hr, hlocks, hK, hZ, hA, hnm⟩ := B
  have hown : s.vm.findClass RX4 = some m.cls := hown
  have hl : lv_has ls 1 [(0, .ref o)] := hl
  have w0 := hts (.methodLink RX4 1 objectInit) (by decide +kernel)
  have w1 := hts (.instanceMethod objectInit) (by decide +kernel)
  have w2 := hts (.code objectInit ⟨#[0xb1]⟩ 1 none) (by decide +kernel)
  have w3 := hts (.arrayClass .int) (by decide +kernel)
  have w4 := hts (.fieldLink RX4 9 "HarborLight$FlashCode" "lights" "[I") (by decide +kernel)
  have w5 := hts (.fieldLink RX4 13 "HarborLight$FlashCode" "darks" "[I") (by decide +kernel)
  have w6 := hts (.fieldLink RX4 16 "HarborLight$FlashCode" "parts" "I") (by decide +kernel)
  have w7 := hts (.fieldLink RX4 20 "HarborLight$FlashCode" "allLight" "I") (by decide +kernel)
  have w8 := hts (.fieldLink RX4 23 "HarborLight$FlashCode" "allDark" "I") (by decide +kernel)
  have in_X4 : ∀ w ∈ wsX40, w ∈ wsX4_init := by decide +kernel
  unfold F_X4_init at hF
  refine lv_aload_n hx hb dX4_init_0 rfl (lv_at hl 0 rfl) ?_
  refine W.objInit hx hb hown w0 w1 w2 rfl (by rw [hml]; exact hl.1) rfl dX4_init_1 (Nat.le_of_ble_eq_true rfl) (Nat.le_of_ble_eq_true rfl) ?_
  refine W.eq (g2 := F0 m 4 ls []) rfl ?_
  refine lv_aload_n hx hb dX4_init_4 rfl (lv_at hl 0 rfl) ?_
  refine lv_bipush (v := 8) hx hb dX4_init_5 (by decide) ?_
  refine g_newi (N' := 8) hx hb w3 hK hP hD hS hA (by decide) (by decide) (Nat.le_of_ble_eq_true rfl) (Nat.le_of_ble_eq_true rfl) (Nat.le_of_ble_eq_true rfl) dX4_init_7 (fun a1 H hP hD hS => ?_)
  have hP : va_P E.1 vwCl (bl [[(o, .inr (2, [.null, .null, .int 0, .int 0, .int 0]))], [(a1, .inl (E.2.1, 8, .inl (fun _ => 0)))]]) H := hP
  have hD : va_D A (bl [[(o, .inr (2, [.null, .null, .int 0, .int 0, .int 0]))], [(a1, .inl (E.2.1, 8, .inl (fun _ => 0)))]]) := hD
  refine g_putF (T := TX4) (N := 5) hx hb hts in_X4 tyX4 tyX4_ok nmX4 hown hK hP hD hS 0 rfl rfl 0 (by decide) w4 rfl rfl hnm rfl rfl (Nat.le_of_ble_eq_true rfl) dX4_init_9 (fun H locs hP hD hS => ?_)
  have hP : va_P E.1 vwCl (bl [[(o, .inr (2, [.ref a1, .null, .int 0, .int 0, .int 0]))], [(a1, .inl (E.2.1, 8, .inl (fun _ => 0)))]]) H := hP
  have hD : va_D A (bl [[(o, .inr (2, [.ref a1, .null, .int 0, .int 0, .int 0]))], [(a1, .inl (E.2.1, 8, .inl (fun _ => 0)))]]) := hD
  refine lv_aload_n hx hb dX4_init_12 rfl (lv_at hl 0 rfl) ?_
  refine lv_bipush (v := 8) hx hb dX4_init_13 (by decide) ?_
  refine g_newi (N' := 8) hx hb w3 hK hP hD hS hA (by decide) (by decide) (Nat.le_of_ble_eq_true rfl) (Nat.le_of_ble_eq_true rfl) (Nat.le_of_ble_eq_true rfl) dX4_init_15 (fun a2 H hP hD hS => ?_)
  have hP : va_P E.1 vwCl (bl [[(o, .inr (2, [.ref a1, .null, .int 0, .int 0, .int 0]))], [(a1, .inl (E.2.1, 8, .inl (fun _ => 0)))], [(a2, .inl (E.2.1, 8, .inl (fun _ => 0)))]]) H := hP
  have hD : va_D A (bl [[(o, .inr (2, [.ref a1, .null, .int 0, .int 0, .int 0]))], [(a1, .inl (E.2.1, 8, .inl (fun _ => 0)))], [(a2, .inl (E.2.1, 8, .inl (fun _ => 0)))]]) := hD
  refine g_putF (T := TX4) (N := 5) hx hb hts in_X4 tyX4 tyX4_ok nmX4 hown hK hP hD hS 0 rfl rfl 1 (by decide) w5 rfl rfl hnm rfl rfl (Nat.le_of_ble_eq_true rfl) dX4_init_17 (fun H locs hP hD hS => ?_)
  have hP : va_P E.1 vwCl (bl [[(o, .inr (2, [.ref a1, .ref a2, .int 0, .int 0, .int 0]))], [(a1, .inl (E.2.1, 8, .inl (fun _ => 0)))], [(a2, .inl (E.2.1, 8, .inl (fun _ => 0)))]]) H := hP
  have hD : va_D A (bl [[(o, .inr (2, [.ref a1, .ref a2, .int 0, .int 0, .int 0]))], [(a1, .inl (E.2.1, 8, .inl (fun _ => 0)))], [(a2, .inl (E.2.1, 8, .inl (fun _ => 0)))]]) := hD
  refine lv_aload_n hx hb dX4_init_20 rfl (lv_at hl 0 rfl) ?_
  refine g_get (T := TX4) (N := 5) hx hb hts in_X4 hown hK hP 0 rfl rfl 0 (by decide) w4 rfl rfl dX4_init_21 ?_
  refine lv_iconst (v := 0) hx hb dX4_init_24 (by decide) ?_
  refine lv_iconst (v := 2) hx hb dX4_init_25 (by decide) ?_
  refine f_iast hx hb hK hP hD hS 1 rfl hF dX4_init_26 (fun hF H locs hP hD hS => ?_)
  have hP : va_P E.1 vwCl (bl [[(o, .inr (2, [.ref a1, .ref a2, .int 0, .int 0, .int 0]))], [(a1, .inl (E.2.1, 8, .inl (upd (fun _ => 0) (0 : Int32).toNatClampNeg 2)))], [(a2, .inl (E.2.1, 8, .inl (fun _ => 0)))]]) H := hP
  have hD : va_D A (bl [[(o, .inr (2, [.ref a1, .ref a2, .int 0, .int 0, .int 0]))], [(a1, .inl (E.2.1, 8, .inl (upd (fun _ => 0) (0 : Int32).toNatClampNeg 2)))], [(a2, .inl (E.2.1, 8, .inl (fun _ => 0)))]]) := hD
  refine lv_aload_n hx hb dX4_init_27 rfl (lv_at hl 0 rfl) ?_
  refine g_get (T := TX4) (N := 5) hx hb hts in_X4 hown hK hP 0 rfl rfl 1 (by decide) w5 rfl rfl dX4_init_28 ?_
  refine lv_iconst (v := 0) hx hb dX4_init_31 (by decide) ?_
  refine lv_iconst (v := 2) hx hb dX4_init_32 (by decide) ?_
  refine f_iast hx hb hK hP hD hS 2 rfl hF dX4_init_33 (fun hF H locs hP hD hS => ?_)
  have hP : va_P E.1 vwCl (bl [[(o, .inr (2, [.ref a1, .ref a2, .int 0, .int 0, .int 0]))], [(a1, .inl (E.2.1, 8, .inl (upd (fun _ => 0) (0 : Int32).toNatClampNeg 2)))], [(a2, .inl (E.2.1, 8, .inl (upd (fun _ => 0) (0 : Int32).toNatClampNeg 2)))]]) H := hP
  have hD : va_D A (bl [[(o, .inr (2, [.ref a1, .ref a2, .int 0, .int 0, .int 0]))], [(a1, .inl (E.2.1, 8, .inl (upd (fun _ => 0) (0 : Int32).toNatClampNeg 2)))], [(a2, .inl (E.2.1, 8, .inl (upd (fun _ => 0) (0 : Int32).toNatClampNeg 2)))]]) := hD
  refine lv_aload_n hx hb dX4_init_34 rfl (lv_at hl 0 rfl) ?_
  refine lv_iconst (v := 1) hx hb dX4_init_35 (by decide) ?_
  refine g_put (T := TX4) (N := 5) hx hb hts in_X4 tyX4 tyX4_ok nmX4 hown hK hP hD hS 0 rfl rfl 2 (by decide) w6 rfl rfl rfl rfl (Nat.le_of_ble_eq_true rfl) dX4_init_36 (fun H locs hP hD hS => ?_)
  have hP : va_P E.1 vwCl (bl [[(o, .inr (2, [.ref a1, .ref a2, .int 1, .int 0, .int 0]))], [(a1, .inl (E.2.1, 8, .inl (upd (fun _ => 0) (0 : Int32).toNatClampNeg 2)))], [(a2, .inl (E.2.1, 8, .inl (upd (fun _ => 0) (0 : Int32).toNatClampNeg 2)))]]) H := hP
  have hD : va_D A (bl [[(o, .inr (2, [.ref a1, .ref a2, .int 1, .int 0, .int 0]))], [(a1, .inl (E.2.1, 8, .inl (upd (fun _ => 0) (0 : Int32).toNatClampNeg 2)))], [(a2, .inl (E.2.1, 8, .inl (upd (fun _ => 0) (0 : Int32).toNatClampNeg 2)))]]) := hD
  refine lv_aload_n hx hb dX4_init_39 rfl (lv_at hl 0 rfl) ?_
  refine lv_iconst (v := 2) hx hb dX4_init_40 (by decide) ?_
  refine g_put (T := TX4) (N := 5) hx hb hts in_X4 tyX4 tyX4_ok nmX4 hown hK hP hD hS 0 rfl rfl 3 (by decide) w7 rfl rfl rfl rfl (Nat.le_of_ble_eq_true rfl) dX4_init_41 (fun H locs hP hD hS => ?_)
  have hP : va_P E.1 vwCl (bl [[(o, .inr (2, [.ref a1, .ref a2, .int 1, .int 2, .int 0]))], [(a1, .inl (E.2.1, 8, .inl (upd (fun _ => 0) (0 : Int32).toNatClampNeg 2)))], [(a2, .inl (E.2.1, 8, .inl (upd (fun _ => 0) (0 : Int32).toNatClampNeg 2)))]]) H := hP
  have hD : va_D A (bl [[(o, .inr (2, [.ref a1, .ref a2, .int 1, .int 2, .int 0]))], [(a1, .inl (E.2.1, 8, .inl (upd (fun _ => 0) (0 : Int32).toNatClampNeg 2)))], [(a2, .inl (E.2.1, 8, .inl (upd (fun _ => 0) (0 : Int32).toNatClampNeg 2)))]]) := hD
  refine lv_aload_n hx hb dX4_init_44 rfl (lv_at hl 0 rfl) ?_
  refine lv_iconst (v := 2) hx hb dX4_init_45 (by decide) ?_
  refine g_put (T := TX4) (N := 5) hx hb hts in_X4 tyX4 tyX4_ok nmX4 hown hK hP hD hS 0 rfl rfl 4 (by decide) w8 rfl rfl rfl rfl (Nat.le_of_ble_eq_true rfl) dX4_init_46 (fun H locs hP hD hS => ?_)
  have hP : va_P E.1 vwCl (bl [[(o, .inr (2, [.ref a1, .ref a2, .int 1, .int 2, .int 2]))], [(a1, .inl (E.2.1, 8, .inl (upd (fun _ => 0) (0 : Int32).toNatClampNeg 2)))], [(a2, .inl (E.2.1, 8, .inl (upd (fun _ => 0) (0 : Int32).toNatClampNeg 2)))]]) H := hP
  have hD : va_D A (bl [[(o, .inr (2, [.ref a1, .ref a2, .int 1, .int 2, .int 2]))], [(a1, .inl (E.2.1, 8, .inl (upd (fun _ => 0) (0 : Int32).toNatClampNeg 2)))], [(a2, .inl (E.2.1, 8, .inl (upd (fun _ => 0) (0 : Int32).toNatClampNeg 2)))]]) := hD
  cases hF
  exact g_nret (z := (a1, a2)) hx hb hr hlocks hQ trivial (Nat.le_of_ble_eq_true rfl) (Nat.le_of_ble_eq_true rfl) hP hD hS [0, 1, 2] rfl rfl dX4_init_49
def F_X6_init  : Option LoV := some (Lo_mk (fun _ => 0) (fun _ => 0) (fun _ => 0) (fun _ => 0) (fun _ => 0) 0 0)
set_option maxHeartbeats 8000000 in
set_option maxRecDepth 100000 in
theorem c_X6_init (l : Launch) (E : GE) (o : Nat)  (r : LoV) (hF : F_X6_init = some r) : CN l E yX6_init wsX6_init ({ frames := 1, cells := 5, slots := 164, locals := 12 } : Room) o (bl [[(o, .inr (4, [.null, .null, .null, .null, .null, .int 0, .int 0]))]]) (fun z : Nat × Nat × Nat × Nat × Nat => True) (fun z : Nat × Nat × Nat × Nat × Nat => bl [Lo_c E o z.1 z.2.1 z.2.2.1 z.2.2.2.1 z.2.2.2.2 r]) 5 164 := by
  refine CN.of (cc := cX6_init) (maxL := 1) (ret := none) (by decide) rfl (Nat.le_of_ble_eq_true rfl) ?_
  intro p e s m args below meth cd A Q ls B hQ hP hD hS hl
  obtain ⟨hx, hb, hml, hown, hts, hr, hlocks, hK, hZ, hA, hnm⟩ := B
  have hown : s.vm.findClass RX6 = some m.cls := hown
  have hl : lv_has ls 1 [(0, .ref o)] := hl
  have w0 := hts (.methodLink RX6 3 objectInit) (by decide +kernel)
  have w1 := hts (.instanceMethod objectInit) (by decide +kernel)
  have w2 := hts (.code objectInit ⟨#[0xb1]⟩ 1 none) (by decide +kernel)
  have w3 := hts (.arrayClass .int) (by decide +kernel)
  have w4 := hts (.fieldLink RX6 11 "HarborLight$Log" "ticks" "[I") (by decide +kernel)
  have w5 := hts (.fieldLink RX6 15 "HarborLight$Log" "colors" "[I") (by decide +kernel)
  have w6 := hts (.fieldLink RX6 18 "HarborLight$Log" "directions" "[I") (by decide +kernel)
  have w7 := hts (.fieldLink RX6 21 "HarborLight$Log" "numbers" "[I") (by decide +kernel)
  have w8 := hts (.fieldLink RX6 24 "HarborLight$Log" "shown" "[I") (by decide +kernel)
  have in_X6 : ∀ w ∈ wsX60, w ∈ wsX6_init := by decide +kernel
  unfold F_X6_init at hF
  refine lv_aload_n hx hb dX6_init_0 rfl (lv_at hl 0 rfl) ?_
  refine W.objInit hx hb hown w0 w1 w2 rfl (by rw [hml]; exact hl.1) rfl dX6_init_1 (Nat.le_of_ble_eq_true rfl) (Nat.le_of_ble_eq_true rfl) ?_
  refine W.eq (g2 := F0 m 4 ls []) rfl ?_
  refine lv_aload_n hx hb dX6_init_4 rfl (lv_at hl 0 rfl) ?_
  refine lv_bipush (v := 40) hx hb dX6_init_5 (by decide) ?_
  refine g_newi (N' := 40) hx hb w3 hK hP hD hS hA (by decide) (by decide) (Nat.le_of_ble_eq_true rfl) (Nat.le_of_ble_eq_true rfl) (Nat.le_of_ble_eq_true rfl) dX6_init_7 (fun a1 H hP hD hS => ?_)
  have hP : va_P E.1 vwCl (bl [[(o, .inr (4, [.null, .null, .null, .null, .null, .int 0, .int 0]))], [(a1, .inl (E.2.1, 40, .inl (fun _ => 0)))]]) H := hP
  have hD : va_D A (bl [[(o, .inr (4, [.null, .null, .null, .null, .null, .int 0, .int 0]))], [(a1, .inl (E.2.1, 40, .inl (fun _ => 0)))]]) := hD
  refine g_putF (T := TX6) (N := 7) hx hb hts in_X6 tyX6 tyX6_ok nmX6 hown hK hP hD hS 0 rfl rfl 0 (by decide) w4 rfl rfl hnm rfl rfl (Nat.le_of_ble_eq_true rfl) dX6_init_9 (fun H locs hP hD hS => ?_)
  have hP : va_P E.1 vwCl (bl [[(o, .inr (4, [.ref a1, .null, .null, .null, .null, .int 0, .int 0]))], [(a1, .inl (E.2.1, 40, .inl (fun _ => 0)))]]) H := hP
  have hD : va_D A (bl [[(o, .inr (4, [.ref a1, .null, .null, .null, .null, .int 0, .int 0]))], [(a1, .inl (E.2.1, 40, .inl (fun _ => 0)))]]) := hD
  refine lv_aload_n hx hb dX6_init_12 rfl (lv_at hl 0 rfl) ?_
  refine lv_bipush (v := 40) hx hb dX6_init_13 (by decide) ?_
  refine g_newi (N' := 40) hx hb w3 hK hP hD hS hA (by decide) (by decide) (Nat.le_of_ble_eq_true rfl) (Nat.le_of_ble_eq_true rfl) (Nat.le_of_ble_eq_true rfl) dX6_init_15 (fun a2 H hP hD hS => ?_)
  have hP : va_P E.1 vwCl (bl [[(o, .inr (4, [.ref a1, .null, .null, .null, .null, .int 0, .int 0]))], [(a1, .inl (E.2.1, 40, .inl (fun _ => 0)))], [(a2, .inl (E.2.1, 40, .inl (fun _ => 0)))]]) H := hP
  have hD : va_D A (bl [[(o, .inr (4, [.ref a1, .null, .null, .null, .null, .int 0, .int 0]))], [(a1, .inl (E.2.1, 40, .inl (fun _ => 0)))], [(a2, .inl (E.2.1, 40, .inl (fun _ => 0)))]]) := hD
  refine g_putF (T := TX6) (N := 7) hx hb hts in_X6 tyX6 tyX6_ok nmX6 hown hK hP hD hS 0 rfl rfl 1 (by decide) w5 rfl rfl hnm rfl rfl (Nat.le_of_ble_eq_true rfl) dX6_init_17 (fun H locs hP hD hS => ?_)
  have hP : va_P E.1 vwCl (bl [[(o, .inr (4, [.ref a1, .ref a2, .null, .null, .null, .int 0, .int 0]))], [(a1, .inl (E.2.1, 40, .inl (fun _ => 0)))], [(a2, .inl (E.2.1, 40, .inl (fun _ => 0)))]]) H := hP
  have hD : va_D A (bl [[(o, .inr (4, [.ref a1, .ref a2, .null, .null, .null, .int 0, .int 0]))], [(a1, .inl (E.2.1, 40, .inl (fun _ => 0)))], [(a2, .inl (E.2.1, 40, .inl (fun _ => 0)))]]) := hD
  refine lv_aload_n hx hb dX6_init_20 rfl (lv_at hl 0 rfl) ?_
  refine lv_bipush (v := 40) hx hb dX6_init_21 (by decide) ?_
  refine g_newi (N' := 40) hx hb w3 hK hP hD hS hA (by decide) (by decide) (Nat.le_of_ble_eq_true rfl) (Nat.le_of_ble_eq_true rfl) (Nat.le_of_ble_eq_true rfl) dX6_init_23 (fun a3 H hP hD hS => ?_)
  have hP : va_P E.1 vwCl (bl [[(o, .inr (4, [.ref a1, .ref a2, .null, .null, .null, .int 0, .int 0]))], [(a1, .inl (E.2.1, 40, .inl (fun _ => 0)))], [(a2, .inl (E.2.1, 40, .inl (fun _ => 0)))], [(a3, .inl (E.2.1, 40, .inl (fun _ => 0)))]]) H := hP
  have hD : va_D A (bl [[(o, .inr (4, [.ref a1, .ref a2, .null, .null, .null, .int 0, .int 0]))], [(a1, .inl (E.2.1, 40, .inl (fun _ => 0)))], [(a2, .inl (E.2.1, 40, .inl (fun _ => 0)))], [(a3, .inl (E.2.1, 40, .inl (fun _ => 0)))]]) := hD
  refine g_putF (T := TX6) (N := 7) hx hb hts in_X6 tyX6 tyX6_ok nmX6 hown hK hP hD hS 0 rfl rfl 2 (by decide) w6 rfl rfl hnm rfl rfl (Nat.le_of_ble_eq_true rfl) dX6_init_25 (fun H locs hP hD hS => ?_)
  have hP : va_P E.1 vwCl (bl [[(o, .inr (4, [.ref a1, .ref a2, .ref a3, .null, .null, .int 0, .int 0]))], [(a1, .inl (E.2.1, 40, .inl (fun _ => 0)))], [(a2, .inl (E.2.1, 40, .inl (fun _ => 0)))], [(a3, .inl (E.2.1, 40, .inl (fun _ => 0)))]]) H := hP
  have hD : va_D A (bl [[(o, .inr (4, [.ref a1, .ref a2, .ref a3, .null, .null, .int 0, .int 0]))], [(a1, .inl (E.2.1, 40, .inl (fun _ => 0)))], [(a2, .inl (E.2.1, 40, .inl (fun _ => 0)))], [(a3, .inl (E.2.1, 40, .inl (fun _ => 0)))]]) := hD
  refine lv_aload_n hx hb dX6_init_28 rfl (lv_at hl 0 rfl) ?_
  refine lv_bipush (v := 40) hx hb dX6_init_29 (by decide) ?_
  refine g_newi (N' := 40) hx hb w3 hK hP hD hS hA (by decide) (by decide) (Nat.le_of_ble_eq_true rfl) (Nat.le_of_ble_eq_true rfl) (Nat.le_of_ble_eq_true rfl) dX6_init_31 (fun a4 H hP hD hS => ?_)
  have hP : va_P E.1 vwCl (bl [[(o, .inr (4, [.ref a1, .ref a2, .ref a3, .null, .null, .int 0, .int 0]))], [(a1, .inl (E.2.1, 40, .inl (fun _ => 0)))], [(a2, .inl (E.2.1, 40, .inl (fun _ => 0)))], [(a3, .inl (E.2.1, 40, .inl (fun _ => 0)))], [(a4, .inl (E.2.1, 40, .inl (fun _ => 0)))]]) H := hP
  have hD : va_D A (bl [[(o, .inr (4, [.ref a1, .ref a2, .ref a3, .null, .null, .int 0, .int 0]))], [(a1, .inl (E.2.1, 40, .inl (fun _ => 0)))], [(a2, .inl (E.2.1, 40, .inl (fun _ => 0)))], [(a3, .inl (E.2.1, 40, .inl (fun _ => 0)))], [(a4, .inl (E.2.1, 40, .inl (fun _ => 0)))]]) := hD
  refine g_putF (T := TX6) (N := 7) hx hb hts in_X6 tyX6 tyX6_ok nmX6 hown hK hP hD hS 0 rfl rfl 3 (by decide) w7 rfl rfl hnm rfl rfl (Nat.le_of_ble_eq_true rfl) dX6_init_33 (fun H locs hP hD hS => ?_)
  have hP : va_P E.1 vwCl (bl [[(o, .inr (4, [.ref a1, .ref a2, .ref a3, .ref a4, .null, .int 0, .int 0]))], [(a1, .inl (E.2.1, 40, .inl (fun _ => 0)))], [(a2, .inl (E.2.1, 40, .inl (fun _ => 0)))], [(a3, .inl (E.2.1, 40, .inl (fun _ => 0)))], [(a4, .inl (E.2.1, 40, .inl (fun _ => 0)))]]) H := hP
  have hD : va_D A (bl [[(o, .inr (4, [.ref a1, .ref a2, .ref a3, .ref a4, .null, .int 0, .int 0]))], [(a1, .inl (E.2.1, 40, .inl (fun _ => 0)))], [(a2, .inl (E.2.1, 40, .inl (fun _ => 0)))], [(a3, .inl (E.2.1, 40, .inl (fun _ => 0)))], [(a4, .inl (E.2.1, 40, .inl (fun _ => 0)))]]) := hD
  refine lv_aload_n hx hb dX6_init_36 rfl (lv_at hl 0 rfl) ?_
  refine lv_iconst (v := 4) hx hb dX6_init_37 (by decide) ?_
  refine g_newi (N' := 4) hx hb w3 hK hP hD hS hA (by decide) (by decide) (Nat.le_of_ble_eq_true rfl) (Nat.le_of_ble_eq_true rfl) (Nat.le_of_ble_eq_true rfl) dX6_init_38 (fun a5 H hP hD hS => ?_)
  have hP : va_P E.1 vwCl (bl [[(o, .inr (4, [.ref a1, .ref a2, .ref a3, .ref a4, .null, .int 0, .int 0]))], [(a1, .inl (E.2.1, 40, .inl (fun _ => 0)))], [(a2, .inl (E.2.1, 40, .inl (fun _ => 0)))], [(a3, .inl (E.2.1, 40, .inl (fun _ => 0)))], [(a4, .inl (E.2.1, 40, .inl (fun _ => 0)))], [(a5, .inl (E.2.1, 4, .inl (fun _ => 0)))]]) H := hP
  have hD : va_D A (bl [[(o, .inr (4, [.ref a1, .ref a2, .ref a3, .ref a4, .null, .int 0, .int 0]))], [(a1, .inl (E.2.1, 40, .inl (fun _ => 0)))], [(a2, .inl (E.2.1, 40, .inl (fun _ => 0)))], [(a3, .inl (E.2.1, 40, .inl (fun _ => 0)))], [(a4, .inl (E.2.1, 40, .inl (fun _ => 0)))], [(a5, .inl (E.2.1, 4, .inl (fun _ => 0)))]]) := hD
  refine g_putF (T := TX6) (N := 7) hx hb hts in_X6 tyX6 tyX6_ok nmX6 hown hK hP hD hS 0 rfl rfl 4 (by decide) w8 rfl rfl hnm rfl rfl (Nat.le_of_ble_eq_true rfl) dX6_init_40 (fun H locs hP hD hS => ?_)
  have hP : va_P E.1 vwCl (bl [[(o, .inr (4, [.ref a1, .ref a2, .ref a3, .ref a4, .ref a5, .int 0, .int 0]))], [(a1, .inl (E.2.1, 40, .inl (fun _ => 0)))], [(a2, .inl (E.2.1, 40, .inl (fun _ => 0)))], [(a3, .inl (E.2.1, 40, .inl (fun _ => 0)))], [(a4, .inl (E.2.1, 40, .inl (fun _ => 0)))], [(a5, .inl (E.2.1, 4, .inl (fun _ => 0)))]]) H := hP
  have hD : va_D A (bl [[(o, .inr (4, [.ref a1, .ref a2, .ref a3, .ref a4, .ref a5, .int 0, .int 0]))], [(a1, .inl (E.2.1, 40, .inl (fun _ => 0)))], [(a2, .inl (E.2.1, 40, .inl (fun _ => 0)))], [(a3, .inl (E.2.1, 40, .inl (fun _ => 0)))], [(a4, .inl (E.2.1, 40, .inl (fun _ => 0)))], [(a5, .inl (E.2.1, 4, .inl (fun _ => 0)))]]) := hD
  cases hF
  exact g_nret (z := (a1, a2, a3, a4, a5)) hx hb hr hlocks hQ trivial (Nat.le_of_ble_eq_true rfl) (Nat.le_of_ble_eq_true rfl) hP hD hS [0, 1, 2, 3, 4, 5] rfl rfl dX6_init_43
def F_X8_init  : Option TxV := some (Tx_mk (fun _ => 0) (fun _ => 0) 0 0 0 0 0)
set_option maxHeartbeats 8000000 in
set_option maxRecDepth 100000 in
theorem c_X8_init (l : Launch) (E : GE) (o : Nat)  (r : TxV) (hF : F_X8_init = some r) : CN l E yX8_init wsX8_init ({ frames := 1, cells := 2, slots := 136, locals := 12 } : Room) o (bl [[(o, .inr (6, [.null, .null, .int 0, .int 0, .int 0, .int 0, .int 0]))]]) (fun z : Nat × Nat => True) (fun z : Nat × Nat => bl [Tx_c E o z.1 z.2 r]) 2 136 := by
  refine CN.of (cc := cX8_init) (maxL := 1) (ret := none) (by decide) rfl (Nat.le_of_ble_eq_true rfl) ?_
  intro p e s m args below meth cd A Q ls B hQ hP hD hS hl
  obtain ⟨hx, hb, hml, hown, hts, hr, hlocks, hK, hZ, hA, hnm⟩ := B
  have hown : s.vm.findClass RX8 = some m.cls := hown
  have hl : lv_has ls 1 [(0, .ref o)] := hl
  have w0 := hts (.methodLink RX8 5 objectInit) (by decide +kernel)
  have w1 := hts (.instanceMethod objectInit) (by decide +kernel)
  have w2 := hts (.code objectInit ⟨#[0xb1]⟩ 1 none) (by decide +kernel)
  have w3 := hts (.arrayClass .char) (by decide +kernel)
  have w4 := hts (.fieldLink RX8 13 "HarborLight$Text" "signs" "[C") (by decide +kernel)
  have w5 := hts (.arrayClass .int) (by decide +kernel)
  have w6 := hts (.fieldLink RX8 17 "HarborLight$Text" "numbers" "[I") (by decide +kernel)
  have in_X8 : ∀ w ∈ wsX80, w ∈ wsX8_init := by decide +kernel
  unfold F_X8_init at hF
  refine lv_aload_n hx hb dX8_init_0 rfl (lv_at hl 0 rfl) ?_
  refine W.objInit hx hb hown w0 w1 w2 rfl (by rw [hml]; exact hl.1) rfl dX8_init_1 (Nat.le_of_ble_eq_true rfl) (Nat.le_of_ble_eq_true rfl) ?_
  refine W.eq (g2 := F0 m 4 ls []) rfl ?_
  refine lv_aload_n hx hb dX8_init_4 rfl (lv_at hl 0 rfl) ?_
  refine lv_bipush (v := 120) hx hb dX8_init_5 (by decide) ?_
  refine g_newc (N' := 120) hx hb w3 hK hP hD hS hA (by decide) (by decide) (Nat.le_of_ble_eq_true rfl) (Nat.le_of_ble_eq_true rfl) (Nat.le_of_ble_eq_true rfl) dX8_init_7 (fun a1 H hP hD hS => ?_)
  have hP : va_P E.1 vwCl (bl [[(o, .inr (6, [.null, .null, .int 0, .int 0, .int 0, .int 0, .int 0]))], [(a1, .inl (E.2.2.1, 120, .inl (fun _ => 0)))]]) H := hP
  have hD : va_D A (bl [[(o, .inr (6, [.null, .null, .int 0, .int 0, .int 0, .int 0, .int 0]))], [(a1, .inl (E.2.2.1, 120, .inl (fun _ => 0)))]]) := hD
  refine g_putF (T := TX8) (N := 7) hx hb hts in_X8 tyX8 tyX8_ok nmX8 hown hK hP hD hS 0 rfl rfl 0 (by decide) w4 rfl rfl hnm rfl rfl (Nat.le_of_ble_eq_true rfl) dX8_init_9 (fun H locs hP hD hS => ?_)
  have hP : va_P E.1 vwCl (bl [[(o, .inr (6, [.ref a1, .null, .int 0, .int 0, .int 0, .int 0, .int 0]))], [(a1, .inl (E.2.2.1, 120, .inl (fun _ => 0)))]]) H := hP
  have hD : va_D A (bl [[(o, .inr (6, [.ref a1, .null, .int 0, .int 0, .int 0, .int 0, .int 0]))], [(a1, .inl (E.2.2.1, 120, .inl (fun _ => 0)))]]) := hD
  refine lv_aload_n hx hb dX8_init_12 rfl (lv_at hl 0 rfl) ?_
  refine lv_bipush (v := 16) hx hb dX8_init_13 (by decide) ?_
  refine g_newi (N' := 16) hx hb w5 hK hP hD hS hA (by decide) (by decide) (Nat.le_of_ble_eq_true rfl) (Nat.le_of_ble_eq_true rfl) (Nat.le_of_ble_eq_true rfl) dX8_init_15 (fun a2 H hP hD hS => ?_)
  have hP : va_P E.1 vwCl (bl [[(o, .inr (6, [.ref a1, .null, .int 0, .int 0, .int 0, .int 0, .int 0]))], [(a1, .inl (E.2.2.1, 120, .inl (fun _ => 0)))], [(a2, .inl (E.2.1, 16, .inl (fun _ => 0)))]]) H := hP
  have hD : va_D A (bl [[(o, .inr (6, [.ref a1, .null, .int 0, .int 0, .int 0, .int 0, .int 0]))], [(a1, .inl (E.2.2.1, 120, .inl (fun _ => 0)))], [(a2, .inl (E.2.1, 16, .inl (fun _ => 0)))]]) := hD
  refine g_putF (T := TX8) (N := 7) hx hb hts in_X8 tyX8 tyX8_ok nmX8 hown hK hP hD hS 0 rfl rfl 1 (by decide) w6 rfl rfl hnm rfl rfl (Nat.le_of_ble_eq_true rfl) dX8_init_17 (fun H locs hP hD hS => ?_)
  have hP : va_P E.1 vwCl (bl [[(o, .inr (6, [.ref a1, .ref a2, .int 0, .int 0, .int 0, .int 0, .int 0]))], [(a1, .inl (E.2.2.1, 120, .inl (fun _ => 0)))], [(a2, .inl (E.2.1, 16, .inl (fun _ => 0)))]]) H := hP
  have hD : va_D A (bl [[(o, .inr (6, [.ref a1, .ref a2, .int 0, .int 0, .int 0, .int 0, .int 0]))], [(a1, .inl (E.2.2.1, 120, .inl (fun _ => 0)))], [(a2, .inl (E.2.1, 16, .inl (fun _ => 0)))]]) := hD
  cases hF
  exact g_nret (z := (a1, a2)) hx hb hr hlocks hQ trivial (Nat.le_of_ble_eq_true rfl) (Nat.le_of_ble_eq_true rfl) hP hD hS [0, 1, 2] rfl rfl dX8_init_20
def F_X7_init (n : Nat) : Option StV := (F_X2_init n).bind fun q2 => (F_X4_init).bind fun q5 => (F_X1_init).bind fun q8 => (F_X6_init).bind fun q11 => some (St_mk (So_mk (fun _ => 0) 0 50 0) q2 q5 q8 q11)
set_option maxHeartbeats 8000000 in
set_option maxRecDepth 100000 in
theorem c_X7_init (l : Launch) (E : GE) (o : Nat) (n : Nat) (r : StV) (hF : F_X7_init n = some r) : CN l E yX7_init wsX7_init ({ frames := 2, cells := 16, slots := 286, locals := 33 } : Room) o (bl [[(o, .inr (5, [.null, .null, .null, .null, .null, .int 0, .int 0, .int 0]))]]) (fun z : (Nat → Nat) => z 0 = o) (fun z : (Nat → Nat) => bl [St_c E z r]) 16 286 := by
  refine CN.of (cc := cX7_init) (maxL := 1) (ret := none) (by decide) rfl (Nat.le_of_ble_eq_true rfl) ?_
  intro p e s m args below meth cd A Q ls B hQ hP hD hS hl
  obtain ⟨hx, hb, hml, hown, hts, hr, hlocks, hK, hZ, hA, hnm⟩ := B
  have hown : s.vm.findClass RX7 = some m.cls := hown
  have hl : lv_has ls 1 [(0, .ref o)] := hl
  have w0 := hts (.methodLink RX7 1 objectInit) (by decide +kernel)
  have w1 := hts (.instanceMethod objectInit) (by decide +kernel)
  have w2 := hts (.code objectInit ⟨#[0xb1]⟩ 1 none) (by decide +kernel)
  have w3 := hts (.classLink RX7 7 RX2) (by decide +kernel)
  have w4 := hts (.instantiable RX2 1) (by decide +kernel)
  have w5 := hts (.initialized RX2) (by decide +kernel)
  have w6 := hts (.instanceMethod yX2_init) (by decide +kernel)
  have w7 := hts (.methodLink RX7 9 yX2_init) (by decide +kernel)
  have w8 := hts (.fieldLink RX7 10 "HarborLight$State" "circle" "LHarborLight$Circle;") (by decide +kernel)
  have w9 := hts (.classLink RX7 16 RX4) (by decide +kernel)
  have w10 := hts (.instantiable RX4 5) (by decide +kernel)
  have w11 := hts (.initialized RX4) (by decide +kernel)
  have w12 := hts (.instanceMethod yX4_init) (by decide +kernel)
  have w13 := hts (.methodLink RX7 18 yX4_init) (by decide +kernel)
  have w14 := hts (.fieldLink RX7 19 "HarborLight$State" "flash" "LHarborLight$FlashCode;") (by decide +kernel)
  have w15 := hts (.classLink RX7 23 RX1) (by decide +kernel)
  have w16 := hts (.instantiable RX1 7) (by decide +kernel)
  have w17 := hts (.initialized RX1) (by decide +kernel)
  have w18 := hts (.instanceMethod yX1_init) (by decide +kernel)
  have w19 := hZ.2.2.2.2.2.2.2.1 3 _ rfl
  have w20 := hts (.fieldLink RX7 26 "HarborLight$State" "changer" "LHarborLight$Changer;") (by decide +kernel)
  have w21 := hts (.classLink RX7 30 RX6) (by decide +kernel)
  have w22 := hts (.instantiable RX6 7) (by decide +kernel)
  have w23 := hts (.initialized RX6) (by decide +kernel)
  have w24 := hts (.instanceMethod yX6_init) (by decide +kernel)
  have w25 := hZ.2.2.2.2.2.2.2.1 4 _ rfl
  have w26 := hts (.fieldLink RX7 33 "HarborLight$State" "log" "LHarborLight$Log;") (by decide +kernel)
  have w27 := hts (.arrayClass .int) (by decide +kernel)
  have w28 := hts (.fieldLink RX7 37 "HarborLight$State" "spent" "[I") (by decide +kernel)
  have w29 := hts (.fieldLink RX7 41 "HarborLight$State" "clear" "I") (by decide +kernel)
  have in_X1 : ∀ w ∈ wsX10, w ∈ wsX7_init := by decide +kernel
  have in_X2 : ∀ w ∈ wsX20, w ∈ wsX7_init := by decide +kernel
  have in_X4 : ∀ w ∈ wsX40, w ∈ wsX7_init := by decide +kernel
  have in_X6 : ∀ w ∈ wsX60, w ∈ wsX7_init := by decide +kernel
  have in_X7 : ∀ w ∈ wsX70, w ∈ wsX7_init := by decide +kernel
  unfold F_X7_init at hF
  refine lv_aload_n hx hb dX7_init_0 rfl (lv_at hl 0 rfl) ?_
  refine W.objInit hx hb hown w0 w1 w2 rfl (by rw [hml]; exact hl.1) rfl dX7_init_1 (Nat.le_of_ble_eq_true rfl) (Nat.le_of_ble_eq_true rfl) ?_
  refine W.eq (g2 := F0 m 4 ls []) rfl ?_
  refine lv_aload_n hx hb dX7_init_4 rfl (lv_at hl 0 rfl) ?_
  refine g_new (T := TX2) (N := 1) (ci := 1) (fs := [.null]) hx hb hts in_X2 tyX2 tyX2_ok hown w3 w4 w5 hK hP hD hS hA rfl (fun j hj => by rcases (show j = 0 by omega) with rfl <;> rfl) (Nat.le_of_ble_eq_true rfl) (Nat.le_of_ble_eq_true rfl) dX7_init_5 (fun b1 H hP hD hS => ?_)
  have hP : va_P E.1 vwCl (bl [[(o, .inr (5, [.null, .null, .null, .null, .null, .int 0, .int 0, .int 0]))], [(b1, .inr (1, [.null]))]]) H := hP
  have hD : va_D A (bl [[(o, .inr (5, [.null, .null, .null, .null, .null, .int 0, .int 0, .int 0]))], [(b1, .inr (1, [.null]))]]) := hD
  refine lv_dup hx hb dX7_init_8 rfl ?_
  obtain ⟨q2, h_q2, hF⟩ := bnd_s hF
  refine g_callN (rest := [.ref b1, .ref o]) ⟨hx, hb, hml, hown, hts⟩ hK hZ hA (c_X2_init l E b1 n q2 h_q2) (cwI 0 hts gX7_init_X2_init rfl rfl rfl w5 w7 w6 rfl (by decide +kernel) ⟨Nat.le_of_ble_eq_true rfl, Nat.le_of_ble_eq_true rfl⟩) hP hD hS [1] [0] rfl rfl rfl hl.1 (Nat.le_of_ble_eq_true rfl) dX7_init_9 ⟨Nat.le_of_ble_eq_true rfl, Nat.le_of_ble_eq_true rfl⟩ (fun t3 ok_t3 H locs hP hD hS => ?_)
  have hP : va_P E.1 vwCl (bl [Ci_c E b1 t3 q2, [(o, .inr (5, [.null, .null, .null, .null, .null, .int 0, .int 0, .int 0]))]]) H := hP
  have hD : va_D A (bl [Ci_c E b1 t3 q2, [(o, .inr (5, [.null, .null, .null, .null, .null, .int 0, .int 0, .int 0]))]]) := hD
  refine W.eq (g2 := F0 m 12 ls [.ref b1, .ref o]) rfl ?_
  refine g_putF (T := TX7) (N := 8) hx hb hts in_X7 tyX7 tyX7_ok nmX7 hown hK hP hD hS 1 rfl rfl 0 (by decide) w8 rfl rfl hnm rfl rfl (Nat.le_of_ble_eq_true rfl) dX7_init_12 (fun H locs hP hD hS => ?_)
  have hP : va_P E.1 vwCl (bl [Ci_c E b1 t3 q2, [(o, .inr (5, [.ref b1, .null, .null, .null, .null, .int 0, .int 0, .int 0]))]]) H := hP
  have hD : va_D A (bl [Ci_c E b1 t3 q2, [(o, .inr (5, [.ref b1, .null, .null, .null, .null, .int 0, .int 0, .int 0]))]]) := hD
  refine lv_aload_n hx hb dX7_init_15 rfl (lv_at hl 0 rfl) ?_
  refine g_new (T := TX4) (N := 5) (ci := 2) (fs := [.null, .null, .int 0, .int 0, .int 0]) hx hb hts in_X4 tyX4 tyX4_ok hown w9 w10 w11 hK hP hD hS hA rfl (fun j hj => by rcases (show j = 0 ∨ j = 1 ∨ j = 2 ∨ j = 3 ∨ j = 4 by omega) with rfl | rfl | rfl | rfl | rfl <;> rfl) (Nat.le_of_ble_eq_true rfl) (Nat.le_of_ble_eq_true rfl) dX7_init_16 (fun b4 H hP hD hS => ?_)
  have hP : va_P E.1 vwCl (bl [Ci_c E b1 t3 q2, [(o, .inr (5, [.ref b1, .null, .null, .null, .null, .int 0, .int 0, .int 0]))], [(b4, .inr (2, [.null, .null, .int 0, .int 0, .int 0]))]]) H := hP
  have hD : va_D A (bl [Ci_c E b1 t3 q2, [(o, .inr (5, [.ref b1, .null, .null, .null, .null, .int 0, .int 0, .int 0]))], [(b4, .inr (2, [.null, .null, .int 0, .int 0, .int 0]))]]) := hD
  refine lv_dup hx hb dX7_init_19 rfl ?_
  obtain ⟨q5, h_q5, hF⟩ := bnd_s hF
  refine g_callN (rest := [.ref b4, .ref o]) ⟨hx, hb, hml, hown, hts⟩ hK hZ hA (c_X4_init l E b4 q5 h_q5) (cwI 0 hts gX7_init_X4_init rfl rfl rfl w11 w13 w12 rfl (by decide +kernel) ⟨Nat.le_of_ble_eq_true rfl, Nat.le_of_ble_eq_true rfl⟩) hP hD hS [2] [0, 1] rfl rfl rfl hl.1 (Nat.le_of_ble_eq_true rfl) dX7_init_20 ⟨Nat.le_of_ble_eq_true rfl, Nat.le_of_ble_eq_true rfl⟩ (fun t6 ok_t6 H locs hP hD hS => ?_)
  have hP : va_P E.1 vwCl (bl [Fl_c E b4 t6.1 t6.2 q5, Ci_c E b1 t3 q2, [(o, .inr (5, [.ref b1, .null, .null, .null, .null, .int 0, .int 0, .int 0]))]]) H := hP
  have hD : va_D A (bl [Fl_c E b4 t6.1 t6.2 q5, Ci_c E b1 t3 q2, [(o, .inr (5, [.ref b1, .null, .null, .null, .null, .int 0, .int 0, .int 0]))]]) := hD
  refine W.eq (g2 := F0 m 23 ls [.ref b4, .ref o]) rfl ?_
  refine g_putF (T := TX7) (N := 8) hx hb hts in_X7 tyX7 tyX7_ok nmX7 hown hK hP hD hS 2 rfl rfl 1 (by decide) w14 rfl rfl hnm rfl rfl (Nat.le_of_ble_eq_true rfl) dX7_init_23 (fun H locs hP hD hS => ?_)
  have hP : va_P E.1 vwCl (bl [Fl_c E b4 t6.1 t6.2 q5, Ci_c E b1 t3 q2, [(o, .inr (5, [.ref b1, .ref b4, .null, .null, .null, .int 0, .int 0, .int 0]))]]) H := hP
  have hD : va_D A (bl [Fl_c E b4 t6.1 t6.2 q5, Ci_c E b1 t3 q2, [(o, .inr (5, [.ref b1, .ref b4, .null, .null, .null, .int 0, .int 0, .int 0]))]]) := hD
  refine lv_aload_n hx hb dX7_init_26 rfl (lv_at hl 0 rfl) ?_
  refine g_new (T := TX1) (N := 7) (ci := 0) (fs := [.null, .null, .null, .int 0, .int 0, .int 0, .int 0]) hx hb hts in_X1 tyX1 tyX1_ok hown w15 w16 w17 hK hP hD hS hA rfl (fun j hj => by rcases (show j = 0 ∨ j = 1 ∨ j = 2 ∨ j = 3 ∨ j = 4 ∨ j = 5 ∨ j = 6 by omega) with rfl | rfl | rfl | rfl | rfl | rfl | rfl <;> rfl) (Nat.le_of_ble_eq_true rfl) (Nat.le_of_ble_eq_true rfl) dX7_init_27 (fun b7 H hP hD hS => ?_)
  have hP : va_P E.1 vwCl (bl [Fl_c E b4 t6.1 t6.2 q5, Ci_c E b1 t3 q2, [(o, .inr (5, [.ref b1, .ref b4, .null, .null, .null, .int 0, .int 0, .int 0]))], [(b7, .inr (0, [.null, .null, .null, .int 0, .int 0, .int 0, .int 0]))]]) H := hP
  have hD : va_D A (bl [Fl_c E b4 t6.1 t6.2 q5, Ci_c E b1 t3 q2, [(o, .inr (5, [.ref b1, .ref b4, .null, .null, .null, .int 0, .int 0, .int 0]))], [(b7, .inr (0, [.null, .null, .null, .int 0, .int 0, .int 0, .int 0]))]]) := hD
  refine lv_dup hx hb dX7_init_30 rfl ?_
  obtain ⟨q8, h_q8, hF⟩ := bnd_s hF
  refine g_callNN (rest := [.ref b7, .ref o]) ⟨hx, hb, hml, hown, hts⟩ hK hZ hA (c_X1_init l E b7 q8 h_q8) ⟨va_cnB 0 hts gX7_init_X1_init_n25 rfl rfl rfl w19 w17 (by decide +kernel) ⟨Nat.le_of_ble_eq_true rfl, Nat.le_of_ble_eq_true rfl⟩, rfl, w18⟩ hP hD hS [3] [0, 1, 2] rfl rfl rfl hl.1 (Nat.le_of_ble_eq_true rfl) dX7_init_31 ⟨Nat.le_of_ble_eq_true rfl, Nat.le_of_ble_eq_true rfl⟩ (fun t9 ok_t9 H locs hP hD hS => ?_)
  have hP : va_P E.1 vwCl (bl [Ch_c E b7 t9.1 t9.2.1 t9.2.2 q8, Fl_c E b4 t6.1 t6.2 q5, Ci_c E b1 t3 q2, [(o, .inr (5, [.ref b1, .ref b4, .null, .null, .null, .int 0, .int 0, .int 0]))]]) H := hP
  have hD : va_D A (bl [Ch_c E b7 t9.1 t9.2.1 t9.2.2 q8, Fl_c E b4 t6.1 t6.2 q5, Ci_c E b1 t3 q2, [(o, .inr (5, [.ref b1, .ref b4, .null, .null, .null, .int 0, .int 0, .int 0]))]]) := hD
  refine W.eq (g2 := F0 m 34 ls [.ref b7, .ref o]) rfl ?_
  refine g_putF (T := TX7) (N := 8) hx hb hts in_X7 tyX7 tyX7_ok nmX7 hown hK hP hD hS 3 rfl rfl 2 (by decide) w20 rfl rfl hnm rfl rfl (Nat.le_of_ble_eq_true rfl) dX7_init_34 (fun H locs hP hD hS => ?_)
  have hP : va_P E.1 vwCl (bl [Ch_c E b7 t9.1 t9.2.1 t9.2.2 q8, Fl_c E b4 t6.1 t6.2 q5, Ci_c E b1 t3 q2, [(o, .inr (5, [.ref b1, .ref b4, .ref b7, .null, .null, .int 0, .int 0, .int 0]))]]) H := hP
  have hD : va_D A (bl [Ch_c E b7 t9.1 t9.2.1 t9.2.2 q8, Fl_c E b4 t6.1 t6.2 q5, Ci_c E b1 t3 q2, [(o, .inr (5, [.ref b1, .ref b4, .ref b7, .null, .null, .int 0, .int 0, .int 0]))]]) := hD
  refine lv_aload_n hx hb dX7_init_37 rfl (lv_at hl 0 rfl) ?_
  refine g_new (T := TX6) (N := 7) (ci := 4) (fs := [.null, .null, .null, .null, .null, .int 0, .int 0]) hx hb hts in_X6 tyX6 tyX6_ok hown w21 w22 w23 hK hP hD hS hA rfl (fun j hj => by rcases (show j = 0 ∨ j = 1 ∨ j = 2 ∨ j = 3 ∨ j = 4 ∨ j = 5 ∨ j = 6 by omega) with rfl | rfl | rfl | rfl | rfl | rfl | rfl <;> rfl) (Nat.le_of_ble_eq_true rfl) (Nat.le_of_ble_eq_true rfl) dX7_init_38 (fun b10 H hP hD hS => ?_)
  have hP : va_P E.1 vwCl (bl [Ch_c E b7 t9.1 t9.2.1 t9.2.2 q8, Fl_c E b4 t6.1 t6.2 q5, Ci_c E b1 t3 q2, [(o, .inr (5, [.ref b1, .ref b4, .ref b7, .null, .null, .int 0, .int 0, .int 0]))], [(b10, .inr (4, [.null, .null, .null, .null, .null, .int 0, .int 0]))]]) H := hP
  have hD : va_D A (bl [Ch_c E b7 t9.1 t9.2.1 t9.2.2 q8, Fl_c E b4 t6.1 t6.2 q5, Ci_c E b1 t3 q2, [(o, .inr (5, [.ref b1, .ref b4, .ref b7, .null, .null, .int 0, .int 0, .int 0]))], [(b10, .inr (4, [.null, .null, .null, .null, .null, .int 0, .int 0]))]]) := hD
  refine lv_dup hx hb dX7_init_41 rfl ?_
  obtain ⟨q11, h_q11, hF⟩ := bnd_s hF
  refine g_callNN (rest := [.ref b10, .ref o]) ⟨hx, hb, hml, hown, hts⟩ hK hZ hA (c_X6_init l E b10 q11 h_q11) ⟨va_cnB 0 hts gX7_init_X6_init_n32 rfl rfl rfl w25 w23 (by decide +kernel) ⟨Nat.le_of_ble_eq_true rfl, Nat.le_of_ble_eq_true rfl⟩, rfl, w24⟩ hP hD hS [4] [0, 1, 2, 3] rfl rfl rfl hl.1 (Nat.le_of_ble_eq_true rfl) dX7_init_42 ⟨Nat.le_of_ble_eq_true rfl, Nat.le_of_ble_eq_true rfl⟩ (fun t12 ok_t12 H locs hP hD hS => ?_)
  have hP : va_P E.1 vwCl (bl [Lo_c E b10 t12.1 t12.2.1 t12.2.2.1 t12.2.2.2.1 t12.2.2.2.2 q11, Ch_c E b7 t9.1 t9.2.1 t9.2.2 q8, Fl_c E b4 t6.1 t6.2 q5, Ci_c E b1 t3 q2, [(o, .inr (5, [.ref b1, .ref b4, .ref b7, .null, .null, .int 0, .int 0, .int 0]))]]) H := hP
  have hD : va_D A (bl [Lo_c E b10 t12.1 t12.2.1 t12.2.2.1 t12.2.2.2.1 t12.2.2.2.2 q11, Ch_c E b7 t9.1 t9.2.1 t9.2.2 q8, Fl_c E b4 t6.1 t6.2 q5, Ci_c E b1 t3 q2, [(o, .inr (5, [.ref b1, .ref b4, .ref b7, .null, .null, .int 0, .int 0, .int 0]))]]) := hD
  refine W.eq (g2 := F0 m 45 ls [.ref b10, .ref o]) rfl ?_
  refine g_putF (T := TX7) (N := 8) hx hb hts in_X7 tyX7 tyX7_ok nmX7 hown hK hP hD hS 4 rfl rfl 3 (by decide) w26 rfl rfl hnm rfl rfl (Nat.le_of_ble_eq_true rfl) dX7_init_45 (fun H locs hP hD hS => ?_)
  have hP : va_P E.1 vwCl (bl [Lo_c E b10 t12.1 t12.2.1 t12.2.2.1 t12.2.2.2.1 t12.2.2.2.2 q11, Ch_c E b7 t9.1 t9.2.1 t9.2.2 q8, Fl_c E b4 t6.1 t6.2 q5, Ci_c E b1 t3 q2, [(o, .inr (5, [.ref b1, .ref b4, .ref b7, .ref b10, .null, .int 0, .int 0, .int 0]))]]) H := hP
  have hD : va_D A (bl [Lo_c E b10 t12.1 t12.2.1 t12.2.2.1 t12.2.2.2.1 t12.2.2.2.2 q11, Ch_c E b7 t9.1 t9.2.1 t9.2.2 q8, Fl_c E b4 t6.1 t6.2 q5, Ci_c E b1 t3 q2, [(o, .inr (5, [.ref b1, .ref b4, .ref b7, .ref b10, .null, .int 0, .int 0, .int 0]))]]) := hD
  refine lv_aload_n hx hb dX7_init_48 rfl (lv_at hl 0 rfl) ?_
  refine lv_iconst (v := 4) hx hb dX7_init_49 (by decide) ?_
  refine g_newi (N' := 4) hx hb w27 hK hP hD hS hA (by decide) (by decide) (Nat.le_of_ble_eq_true rfl) (Nat.le_of_ble_eq_true rfl) (Nat.le_of_ble_eq_true rfl) dX7_init_50 (fun a13 H hP hD hS => ?_)
  have hP : va_P E.1 vwCl (bl [Lo_c E b10 t12.1 t12.2.1 t12.2.2.1 t12.2.2.2.1 t12.2.2.2.2 q11, Ch_c E b7 t9.1 t9.2.1 t9.2.2 q8, Fl_c E b4 t6.1 t6.2 q5, Ci_c E b1 t3 q2, [(o, .inr (5, [.ref b1, .ref b4, .ref b7, .ref b10, .null, .int 0, .int 0, .int 0]))], [(a13, .inl (E.2.1, 4, .inl (fun _ => 0)))]]) H := hP
  have hD : va_D A (bl [Lo_c E b10 t12.1 t12.2.1 t12.2.2.1 t12.2.2.2.1 t12.2.2.2.2 q11, Ch_c E b7 t9.1 t9.2.1 t9.2.2 q8, Fl_c E b4 t6.1 t6.2 q5, Ci_c E b1 t3 q2, [(o, .inr (5, [.ref b1, .ref b4, .ref b7, .ref b10, .null, .int 0, .int 0, .int 0]))], [(a13, .inl (E.2.1, 4, .inl (fun _ => 0)))]]) := hD
  refine g_putF (T := TX7) (N := 8) hx hb hts in_X7 tyX7 tyX7_ok nmX7 hown hK hP hD hS 4 rfl rfl 4 (by decide) w28 rfl rfl hnm rfl rfl (Nat.le_of_ble_eq_true rfl) dX7_init_52 (fun H locs hP hD hS => ?_)
  have hP : va_P E.1 vwCl (bl [Lo_c E b10 t12.1 t12.2.1 t12.2.2.1 t12.2.2.2.1 t12.2.2.2.2 q11, Ch_c E b7 t9.1 t9.2.1 t9.2.2 q8, Fl_c E b4 t6.1 t6.2 q5, Ci_c E b1 t3 q2, [(o, .inr (5, [.ref b1, .ref b4, .ref b7, .ref b10, .ref a13, .int 0, .int 0, .int 0]))], [(a13, .inl (E.2.1, 4, .inl (fun _ => 0)))]]) H := hP
  have hD : va_D A (bl [Lo_c E b10 t12.1 t12.2.1 t12.2.2.1 t12.2.2.2.1 t12.2.2.2.2 q11, Ch_c E b7 t9.1 t9.2.1 t9.2.2 q8, Fl_c E b4 t6.1 t6.2 q5, Ci_c E b1 t3 q2, [(o, .inr (5, [.ref b1, .ref b4, .ref b7, .ref b10, .ref a13, .int 0, .int 0, .int 0]))], [(a13, .inl (E.2.1, 4, .inl (fun _ => 0)))]]) := hD
  refine lv_aload_n hx hb dX7_init_55 rfl (lv_at hl 0 rfl) ?_
  refine lv_bipush (v := 50) hx hb dX7_init_56 (by decide) ?_
  refine g_put (T := TX7) (N := 8) hx hb hts in_X7 tyX7 tyX7_ok nmX7 hown hK hP hD hS 4 rfl rfl 6 (by decide) w29 rfl rfl rfl rfl (Nat.le_of_ble_eq_true rfl) dX7_init_58 (fun H locs hP hD hS => ?_)
  have hP : va_P E.1 vwCl (bl [Lo_c E b10 t12.1 t12.2.1 t12.2.2.1 t12.2.2.2.1 t12.2.2.2.2 q11, Ch_c E b7 t9.1 t9.2.1 t9.2.2 q8, Fl_c E b4 t6.1 t6.2 q5, Ci_c E b1 t3 q2, [(o, .inr (5, [.ref b1, .ref b4, .ref b7, .ref b10, .ref a13, .int 0, .int 50, .int 0]))], [(a13, .inl (E.2.1, 4, .inl (fun _ => 0)))]]) H := hP
  have hD : va_D A (bl [Lo_c E b10 t12.1 t12.2.1 t12.2.2.1 t12.2.2.2.1 t12.2.2.2.2 q11, Ch_c E b7 t9.1 t9.2.1 t9.2.2 q8, Fl_c E b4 t6.1 t6.2 q5, Ci_c E b1 t3 q2, [(o, .inr (5, [.ref b1, .ref b4, .ref b7, .ref b10, .ref a13, .int 0, .int 50, .int 0]))], [(a13, .inl (E.2.1, 4, .inl (fun _ => 0)))]]) := hD
  cases hF
  exact g_nret (z := (fun i => [o, a13, b1, t3, b4, t6.1, t6.2, b7, t9.1, t9.2.1, t9.2.2, b10, t12.1, t12.2.1, t12.2.2.1, t12.2.2.2.1, t12.2.2.2.2].getD i 0)) hx hb hr hlocks hQ rfl (Nat.le_of_ble_eq_true rfl) (Nat.le_of_ble_eq_true rfl) hP hD hS [4, 5, 3, 2, 1, 0] rfl rfl dX7_init_61
def F_X5_init (n : Nat) : Option HiV := (F_X7_init n).bind fun q3 => (F_X7_init n).bind fun q6 => (F_X7_init n).bind fun q9 => (F_X7_init n).bind fun q12 => (F_X7_init n).bind fun q15 => some (Hi_mk (Ho_mk 0 0) (pick5 q3 q6 q9 q12 q15))
set_option maxHeartbeats 8000000 in
set_option maxRecDepth 100000 in
theorem c_X5_init (l : Launch) (E : GE) (o : Nat) (n : Nat) (r : HiV) (hF : F_X5_init n = some r) : CN l E yX5_init wsX5_init ({ frames := 3, cells := 86, slots := 1475, locals := 53 } : Room) o (bl [[(o, .inr (3, [.null, .int 0, .int 0]))]]) (fun z : Nat × (Nat → Nat → Nat) => True) (fun z : Nat × (Nat → Nat → Nat) => bl [Hi_c E o z.1 z.2 r]) 86 1475 := by
  refine CN.of (cc := cX5_init) (maxL := 2) (ret := none) (by decide) rfl (Nat.le_of_ble_eq_true rfl) ?_
  intro p e s m args below meth cd A Q ls B hQ hP hD hS hl
  obtain ⟨hx, hb, hml, hown, hts, hr, hlocks, hK, hZ, hA, hnm⟩ := B
  have hown : s.vm.findClass RX5 = some m.cls := hown
  have hl : lv_has ls 2 [(0, .ref o)] := hl
  have w0 := hts (.methodLink RX5 1 objectInit) (by decide +kernel)
  have w1 := hts (.instanceMethod objectInit) (by decide +kernel)
  have w2 := hts (.code objectInit ⟨#[0xb1]⟩ 1 none) (by decide +kernel)
  have w3 := hts (.classLink RX5 9 RX7) (by decide +kernel)
  have w4 := hts (.fieldLink RX5 11 "HarborLight$History" "rows" "[LHarborLight$State;") (by decide +kernel)
  have w5 := hts (.instantiable RX7 8) (by decide +kernel)
  have w6 := hts (.initialized RX7) (by decide +kernel)
  have w7 := hts (.instanceMethod yX7_init) (by decide +kernel)
  have w8 := hZ.2.2.2.2.2.2.2.1 2 _ rfl
  have in_X5 : ∀ w ∈ wsX50, w ∈ wsX5_init := by decide +kernel
  have in_X7 : ∀ w ∈ wsX70, w ∈ wsX5_init := by decide +kernel
  unfold F_X5_init at hF
  refine lv_aload_n hx hb dX5_init_0 rfl (lv_at hl 0 rfl) ?_
  refine W.objInit hx hb hown w0 w1 w2 rfl (by rw [hml]; exact hl.1) rfl dX5_init_1 (Nat.le_of_ble_eq_true rfl) (Nat.le_of_ble_eq_true rfl) ?_
  refine W.eq (g2 := F0 m 4 ls []) rfl ?_
  refine lv_aload_n hx hb dX5_init_4 rfl (lv_at hl 0 rfl) ?_
  refine lv_iconst (v := 5) hx hb dX5_init_5 (by decide) ?_
  refine g_newq (N' := 5) hx hb hown w3 hZ.2.2.2.2.2.2.2.2 hK hP hD hS hA (by decide) (by decide) (Nat.le_of_ble_eq_true rfl) (Nat.le_of_ble_eq_true rfl) (Nat.le_of_ble_eq_true rfl) dX5_init_6 (fun a1 H hP hD hS => ?_)
  have hP : va_P E.1 vwCl (bl [[(o, .inr (3, [.null, .int 0, .int 0]))], [(a1, .inl (E.2.2.2.1, 5, .inr (.inr (.inr (.inr (fun _ => none))))))]]) H := hP
  have hD : va_D A (bl [[(o, .inr (3, [.null, .int 0, .int 0]))], [(a1, .inl (E.2.2.2.1, 5, .inr (.inr (.inr (.inr (fun _ => none))))))]]) := hD
  refine g_putF (T := TX5) (N := 3) hx hb hts in_X5 tyX5 tyX5_ok nmX5 hown hK hP hD hS 0 rfl rfl 0 (by decide) w4 rfl rfl hnm rfl rfl (Nat.le_of_ble_eq_true rfl) dX5_init_9 (fun H locs hP hD hS => ?_)
  have hP : va_P E.1 vwCl (bl [[(o, .inr (3, [.ref a1, .int 0, .int 0]))], [(a1, .inl (E.2.2.2.1, 5, .inr (.inr (.inr (.inr (fun _ => none))))))]]) H := hP
  have hD : va_D A (bl [[(o, .inr (3, [.ref a1, .int 0, .int 0]))], [(a1, .inl (E.2.2.2.1, 5, .inr (.inr (.inr (.inr (fun _ => none))))))]]) := hD
  refine lv_iconst (v := 0) hx hb dX5_init_12 (by decide) ?_
  refine lv_istore_n (lv' := [(1, .int 0), (0, .ref o)]) hx hb dX5_init_13 rfl hl (by decide) rfl (fun ls hl => ?_)
  refine lv_iload_n hx hb dX5_init_14 rfl (lv_at hl 0 rfl) ?_
  refine lv_aload_n hx hb dX5_init_15 rfl (lv_at hl 1 rfl) ?_
  refine g_get (T := TX5) (N := 3) hx hb hts in_X5 hown hK hP 0 rfl rfl 0 (by decide) w4 rfl rfl dX5_init_16 ?_
  refine g_alen (v := 5) hx hb hK hP 1 2 rfl rfl rfl dX5_init_19 ?_
  refine lv_icmp_ge (tgt := 42) hx hb dX5_init_20 (by decide) (fun z => absurd z (by decide)) (fun _ => ?_)
  refine lv_aload_n hx hb dX5_init_23 rfl (lv_at hl 1 rfl) ?_
  refine g_get (T := TX5) (N := 3) hx hb hts in_X5 hown hK hP 0 rfl rfl 0 (by decide) w4 rfl rfl dX5_init_24 ?_
  refine lv_iload_n hx hb dX5_init_27 rfl (lv_at hl 0 rfl) ?_
  refine g_new (T := TX7) (N := 8) (ci := 5) (fs := [.null, .null, .null, .null, .null, .int 0, .int 0, .int 0]) hx hb hts in_X7 tyX7 tyX7_ok hown w3 w5 w6 hK hP hD hS hA rfl (fun j hj => by rcases (show j = 0 ∨ j = 1 ∨ j = 2 ∨ j = 3 ∨ j = 4 ∨ j = 5 ∨ j = 6 ∨ j = 7 by omega) with rfl | rfl | rfl | rfl | rfl | rfl | rfl | rfl <;> rfl) (Nat.le_of_ble_eq_true rfl) (Nat.le_of_ble_eq_true rfl) dX5_init_28 (fun b2 H hP hD hS => ?_)
  have hP : va_P E.1 vwCl (bl [[(o, .inr (3, [.ref a1, .int 0, .int 0]))], [(a1, .inl (E.2.2.2.1, 5, .inr (.inr (.inr (.inr (fun _ => none))))))], [(b2, .inr (5, [.null, .null, .null, .null, .null, .int 0, .int 0, .int 0]))]]) H := hP
  have hD : va_D A (bl [[(o, .inr (3, [.ref a1, .int 0, .int 0]))], [(a1, .inl (E.2.2.2.1, 5, .inr (.inr (.inr (.inr (fun _ => none))))))], [(b2, .inr (5, [.null, .null, .null, .null, .null, .int 0, .int 0, .int 0]))]]) := hD
  refine lv_dup hx hb dX5_init_31 rfl ?_
  obtain ⟨q3, h_q3, hF⟩ := bnd_s hF
  refine g_callNN (rest := [.ref b2, .int 0, .ref a1]) ⟨hx, hb, hml, hown, hts⟩ hK hZ hA (c_X7_init l E b2 n q3 h_q3) ⟨va_cnB 0 hts gX5_init_X7_init_n15 rfl rfl rfl w8 w6 (by decide +kernel) ⟨Nat.le_of_ble_eq_true rfl, Nat.le_of_ble_eq_true rfl⟩, rfl, w7⟩ hP hD hS [2] [0, 1] rfl rfl rfl hl.1 (Nat.le_of_ble_eq_true rfl) dX5_init_32 ⟨Nat.le_of_ble_eq_true rfl, Nat.le_of_ble_eq_true rfl⟩ (fun t4 ok_t4 H locs hP hD hS => ?_)
  have hP : va_P E.1 vwCl (bl [St_c E t4 q3, [(o, .inr (3, [.ref a1, .int 0, .int 0]))], [(a1, .inl (E.2.2.2.1, 5, .inr (.inr (.inr (.inr (fun _ => none))))))]]) H := hP
  have hD : va_D A (bl [St_c E t4 q3, [(o, .inr (3, [.ref a1, .int 0, .int 0]))], [(a1, .inl (E.2.2.2.1, 5, .inr (.inr (.inr (.inr (fun _ => none))))))]]) := hD
  refine W.eq (g2 := F0 m 35 ls [.ref b2, .int 0, .ref a1]) rfl ?_
  refine g_aast (v := b2) (vs := [.ref (t4 2), .ref (t4 4), .ref (t4 7), .ref (t4 11), .ref (t4 1), .int (So_tick (St_So q3)), .int (So_clear (St_So q3)), .int (So_changesBegun (St_So q3))]) hx hb hK hP hD hS 2 0 rfl (by rw [← ok_t4]; rfl) (nI_in (c := 0) (by decide) (by decide)) dX5_init_35 (fun H locs hP hD hS => ?_)
  have hP : va_P E.1 vwCl (bl [St_c E t4 q3, [(o, .inr (3, [.ref a1, .int 0, .int 0]))], [(a1, .inl (E.2.2.2.1, 5, .inr (.inr (.inr (.inr (va_up (fun _ => none) (0 : Int32).toNatClampNeg (some b2)))))))]]) H := hP
  have hD : va_D A (bl [St_c E t4 q3, [(o, .inr (3, [.ref a1, .int 0, .int 0]))], [(a1, .inl (E.2.2.2.1, 5, .inr (.inr (.inr (.inr (va_up (fun _ => none) (0 : Int32).toNatClampNeg (some b2)))))))]]) := hD
  refine lv_iinc (v := 1) (lv' := [(1, .int 1), (0, .ref o)]) hx hb dX5_init_36 hl (k := 0) rfl rfl (by decide) rfl (fun ls hl => ?_)
  refine lv_goto (tgt := 14) hx hb dX5_init_39 (by decide) ?_
  refine lv_iload_n hx hb dX5_init_14 rfl (lv_at hl 0 rfl) ?_
  refine lv_aload_n hx hb dX5_init_15 rfl (lv_at hl 1 rfl) ?_
  refine g_get (T := TX5) (N := 3) hx hb hts in_X5 hown hK hP 1 rfl rfl 0 (by decide) w4 rfl rfl dX5_init_16 ?_
  refine g_alen (v := 5) hx hb hK hP 2 2 rfl rfl rfl dX5_init_19 ?_
  refine lv_icmp_ge (tgt := 42) hx hb dX5_init_20 (by decide) (fun z => absurd z (by decide)) (fun _ => ?_)
  refine lv_aload_n hx hb dX5_init_23 rfl (lv_at hl 1 rfl) ?_
  refine g_get (T := TX5) (N := 3) hx hb hts in_X5 hown hK hP 1 rfl rfl 0 (by decide) w4 rfl rfl dX5_init_24 ?_
  refine lv_iload_n hx hb dX5_init_27 rfl (lv_at hl 0 rfl) ?_
  refine g_new (T := TX7) (N := 8) (ci := 5) (fs := [.null, .null, .null, .null, .null, .int 0, .int 0, .int 0]) hx hb hts in_X7 tyX7 tyX7_ok hown w3 w5 w6 hK hP hD hS hA rfl (fun j hj => by rcases (show j = 0 ∨ j = 1 ∨ j = 2 ∨ j = 3 ∨ j = 4 ∨ j = 5 ∨ j = 6 ∨ j = 7 by omega) with rfl | rfl | rfl | rfl | rfl | rfl | rfl | rfl <;> rfl) (Nat.le_of_ble_eq_true rfl) (Nat.le_of_ble_eq_true rfl) dX5_init_28 (fun b5 H hP hD hS => ?_)
  have hP : va_P E.1 vwCl (bl [St_c E t4 q3, [(o, .inr (3, [.ref a1, .int 0, .int 0]))], [(a1, .inl (E.2.2.2.1, 5, .inr (.inr (.inr (.inr (va_up (fun _ => none) (0 : Int32).toNatClampNeg (some b2)))))))], [(b5, .inr (5, [.null, .null, .null, .null, .null, .int 0, .int 0, .int 0]))]]) H := hP
  have hD : va_D A (bl [St_c E t4 q3, [(o, .inr (3, [.ref a1, .int 0, .int 0]))], [(a1, .inl (E.2.2.2.1, 5, .inr (.inr (.inr (.inr (va_up (fun _ => none) (0 : Int32).toNatClampNeg (some b2)))))))], [(b5, .inr (5, [.null, .null, .null, .null, .null, .int 0, .int 0, .int 0]))]]) := hD
  refine lv_dup hx hb dX5_init_31 rfl ?_
  obtain ⟨q6, h_q6, hF⟩ := bnd_s hF
  refine g_callNN (rest := [.ref b5, .int 1, .ref a1]) ⟨hx, hb, hml, hown, hts⟩ hK hZ hA (c_X7_init l E b5 n q6 h_q6) ⟨va_cnB 0 hts gX5_init_X7_init_n15 rfl rfl rfl w8 w6 (by decide +kernel) ⟨Nat.le_of_ble_eq_true rfl, Nat.le_of_ble_eq_true rfl⟩, rfl, w7⟩ hP hD hS [3] [0, 1, 2] rfl rfl rfl hl.1 (Nat.le_of_ble_eq_true rfl) dX5_init_32 ⟨Nat.le_of_ble_eq_true rfl, Nat.le_of_ble_eq_true rfl⟩ (fun t7 ok_t7 H locs hP hD hS => ?_)
  have hP : va_P E.1 vwCl (bl [St_c E t7 q6, St_c E t4 q3, [(o, .inr (3, [.ref a1, .int 0, .int 0]))], [(a1, .inl (E.2.2.2.1, 5, .inr (.inr (.inr (.inr (va_up (fun _ => none) (0 : Int32).toNatClampNeg (some b2)))))))]]) H := hP
  have hD : va_D A (bl [St_c E t7 q6, St_c E t4 q3, [(o, .inr (3, [.ref a1, .int 0, .int 0]))], [(a1, .inl (E.2.2.2.1, 5, .inr (.inr (.inr (.inr (va_up (fun _ => none) (0 : Int32).toNatClampNeg (some b2)))))))]]) := hD
  refine W.eq (g2 := F0 m 35 ls [.ref b5, .int 1, .ref a1]) rfl ?_
  refine g_aast (v := b5) (vs := [.ref (t7 2), .ref (t7 4), .ref (t7 7), .ref (t7 11), .ref (t7 1), .int (So_tick (St_So q6)), .int (So_clear (St_So q6)), .int (So_changesBegun (St_So q6))]) hx hb hK hP hD hS 3 0 rfl (by rw [← ok_t7]; rfl) (nI_in (c := 1) (by decide) (by decide)) dX5_init_35 (fun H locs hP hD hS => ?_)
  have hP : va_P E.1 vwCl (bl [St_c E t7 q6, St_c E t4 q3, [(o, .inr (3, [.ref a1, .int 0, .int 0]))], [(a1, .inl (E.2.2.2.1, 5, .inr (.inr (.inr (.inr (va_up (va_up (fun _ => none) (0 : Int32).toNatClampNeg (some b2)) (1 : Int32).toNatClampNeg (some b5)))))))]]) H := hP
  have hD : va_D A (bl [St_c E t7 q6, St_c E t4 q3, [(o, .inr (3, [.ref a1, .int 0, .int 0]))], [(a1, .inl (E.2.2.2.1, 5, .inr (.inr (.inr (.inr (va_up (va_up (fun _ => none) (0 : Int32).toNatClampNeg (some b2)) (1 : Int32).toNatClampNeg (some b5)))))))]]) := hD
  refine lv_iinc (v := 2) (lv' := [(1, .int 2), (0, .ref o)]) hx hb dX5_init_36 hl (k := 0) rfl rfl (by decide) rfl (fun ls hl => ?_)
  refine lv_goto (tgt := 14) hx hb dX5_init_39 (by decide) ?_
  refine lv_iload_n hx hb dX5_init_14 rfl (lv_at hl 0 rfl) ?_
  refine lv_aload_n hx hb dX5_init_15 rfl (lv_at hl 1 rfl) ?_
  refine g_get (T := TX5) (N := 3) hx hb hts in_X5 hown hK hP 2 rfl rfl 0 (by decide) w4 rfl rfl dX5_init_16 ?_
  refine g_alen (v := 5) hx hb hK hP 3 2 rfl rfl rfl dX5_init_19 ?_
  refine lv_icmp_ge (tgt := 42) hx hb dX5_init_20 (by decide) (fun z => absurd z (by decide)) (fun _ => ?_)
  refine lv_aload_n hx hb dX5_init_23 rfl (lv_at hl 1 rfl) ?_
  refine g_get (T := TX5) (N := 3) hx hb hts in_X5 hown hK hP 2 rfl rfl 0 (by decide) w4 rfl rfl dX5_init_24 ?_
  refine lv_iload_n hx hb dX5_init_27 rfl (lv_at hl 0 rfl) ?_
  refine g_new (T := TX7) (N := 8) (ci := 5) (fs := [.null, .null, .null, .null, .null, .int 0, .int 0, .int 0]) hx hb hts in_X7 tyX7 tyX7_ok hown w3 w5 w6 hK hP hD hS hA rfl (fun j hj => by rcases (show j = 0 ∨ j = 1 ∨ j = 2 ∨ j = 3 ∨ j = 4 ∨ j = 5 ∨ j = 6 ∨ j = 7 by omega) with rfl | rfl | rfl | rfl | rfl | rfl | rfl | rfl <;> rfl) (Nat.le_of_ble_eq_true rfl) (Nat.le_of_ble_eq_true rfl) dX5_init_28 (fun b8 H hP hD hS => ?_)
  have hP : va_P E.1 vwCl (bl [St_c E t7 q6, St_c E t4 q3, [(o, .inr (3, [.ref a1, .int 0, .int 0]))], [(a1, .inl (E.2.2.2.1, 5, .inr (.inr (.inr (.inr (va_up (va_up (fun _ => none) (0 : Int32).toNatClampNeg (some b2)) (1 : Int32).toNatClampNeg (some b5)))))))], [(b8, .inr (5, [.null, .null, .null, .null, .null, .int 0, .int 0, .int 0]))]]) H := hP
  have hD : va_D A (bl [St_c E t7 q6, St_c E t4 q3, [(o, .inr (3, [.ref a1, .int 0, .int 0]))], [(a1, .inl (E.2.2.2.1, 5, .inr (.inr (.inr (.inr (va_up (va_up (fun _ => none) (0 : Int32).toNatClampNeg (some b2)) (1 : Int32).toNatClampNeg (some b5)))))))], [(b8, .inr (5, [.null, .null, .null, .null, .null, .int 0, .int 0, .int 0]))]]) := hD
  refine lv_dup hx hb dX5_init_31 rfl ?_
  obtain ⟨q9, h_q9, hF⟩ := bnd_s hF
  refine g_callNN (rest := [.ref b8, .int 2, .ref a1]) ⟨hx, hb, hml, hown, hts⟩ hK hZ hA (c_X7_init l E b8 n q9 h_q9) ⟨va_cnB 0 hts gX5_init_X7_init_n15 rfl rfl rfl w8 w6 (by decide +kernel) ⟨Nat.le_of_ble_eq_true rfl, Nat.le_of_ble_eq_true rfl⟩, rfl, w7⟩ hP hD hS [4] [0, 1, 2, 3] rfl rfl rfl hl.1 (Nat.le_of_ble_eq_true rfl) dX5_init_32 ⟨Nat.le_of_ble_eq_true rfl, Nat.le_of_ble_eq_true rfl⟩ (fun t10 ok_t10 H locs hP hD hS => ?_)
  have hP : va_P E.1 vwCl (bl [St_c E t10 q9, St_c E t7 q6, St_c E t4 q3, [(o, .inr (3, [.ref a1, .int 0, .int 0]))], [(a1, .inl (E.2.2.2.1, 5, .inr (.inr (.inr (.inr (va_up (va_up (fun _ => none) (0 : Int32).toNatClampNeg (some b2)) (1 : Int32).toNatClampNeg (some b5)))))))]]) H := hP
  have hD : va_D A (bl [St_c E t10 q9, St_c E t7 q6, St_c E t4 q3, [(o, .inr (3, [.ref a1, .int 0, .int 0]))], [(a1, .inl (E.2.2.2.1, 5, .inr (.inr (.inr (.inr (va_up (va_up (fun _ => none) (0 : Int32).toNatClampNeg (some b2)) (1 : Int32).toNatClampNeg (some b5)))))))]]) := hD
  refine W.eq (g2 := F0 m 35 ls [.ref b8, .int 2, .ref a1]) rfl ?_
  refine g_aast (v := b8) (vs := [.ref (t10 2), .ref (t10 4), .ref (t10 7), .ref (t10 11), .ref (t10 1), .int (So_tick (St_So q9)), .int (So_clear (St_So q9)), .int (So_changesBegun (St_So q9))]) hx hb hK hP hD hS 4 0 rfl (by rw [← ok_t10]; rfl) (nI_in (c := 2) (by decide) (by decide)) dX5_init_35 (fun H locs hP hD hS => ?_)
  have hP : va_P E.1 vwCl (bl [St_c E t10 q9, St_c E t7 q6, St_c E t4 q3, [(o, .inr (3, [.ref a1, .int 0, .int 0]))], [(a1, .inl (E.2.2.2.1, 5, .inr (.inr (.inr (.inr (va_up (va_up (va_up (fun _ => none) (0 : Int32).toNatClampNeg (some b2)) (1 : Int32).toNatClampNeg (some b5)) (2 : Int32).toNatClampNeg (some b8)))))))]]) H := hP
  have hD : va_D A (bl [St_c E t10 q9, St_c E t7 q6, St_c E t4 q3, [(o, .inr (3, [.ref a1, .int 0, .int 0]))], [(a1, .inl (E.2.2.2.1, 5, .inr (.inr (.inr (.inr (va_up (va_up (va_up (fun _ => none) (0 : Int32).toNatClampNeg (some b2)) (1 : Int32).toNatClampNeg (some b5)) (2 : Int32).toNatClampNeg (some b8)))))))]]) := hD
  refine lv_iinc (v := 3) (lv' := [(1, .int 3), (0, .ref o)]) hx hb dX5_init_36 hl (k := 0) rfl rfl (by decide) rfl (fun ls hl => ?_)
  refine lv_goto (tgt := 14) hx hb dX5_init_39 (by decide) ?_
  refine lv_iload_n hx hb dX5_init_14 rfl (lv_at hl 0 rfl) ?_
  refine lv_aload_n hx hb dX5_init_15 rfl (lv_at hl 1 rfl) ?_
  refine g_get (T := TX5) (N := 3) hx hb hts in_X5 hown hK hP 3 rfl rfl 0 (by decide) w4 rfl rfl dX5_init_16 ?_
  refine g_alen (v := 5) hx hb hK hP 4 2 rfl rfl rfl dX5_init_19 ?_
  refine lv_icmp_ge (tgt := 42) hx hb dX5_init_20 (by decide) (fun z => absurd z (by decide)) (fun _ => ?_)
  refine lv_aload_n hx hb dX5_init_23 rfl (lv_at hl 1 rfl) ?_
  refine g_get (T := TX5) (N := 3) hx hb hts in_X5 hown hK hP 3 rfl rfl 0 (by decide) w4 rfl rfl dX5_init_24 ?_
  refine lv_iload_n hx hb dX5_init_27 rfl (lv_at hl 0 rfl) ?_
  refine g_new (T := TX7) (N := 8) (ci := 5) (fs := [.null, .null, .null, .null, .null, .int 0, .int 0, .int 0]) hx hb hts in_X7 tyX7 tyX7_ok hown w3 w5 w6 hK hP hD hS hA rfl (fun j hj => by rcases (show j = 0 ∨ j = 1 ∨ j = 2 ∨ j = 3 ∨ j = 4 ∨ j = 5 ∨ j = 6 ∨ j = 7 by omega) with rfl | rfl | rfl | rfl | rfl | rfl | rfl | rfl <;> rfl) (Nat.le_of_ble_eq_true rfl) (Nat.le_of_ble_eq_true rfl) dX5_init_28 (fun b11 H hP hD hS => ?_)
  have hP : va_P E.1 vwCl (bl [St_c E t10 q9, St_c E t7 q6, St_c E t4 q3, [(o, .inr (3, [.ref a1, .int 0, .int 0]))], [(a1, .inl (E.2.2.2.1, 5, .inr (.inr (.inr (.inr (va_up (va_up (va_up (fun _ => none) (0 : Int32).toNatClampNeg (some b2)) (1 : Int32).toNatClampNeg (some b5)) (2 : Int32).toNatClampNeg (some b8)))))))], [(b11, .inr (5, [.null, .null, .null, .null, .null, .int 0, .int 0, .int 0]))]]) H := hP
  have hD : va_D A (bl [St_c E t10 q9, St_c E t7 q6, St_c E t4 q3, [(o, .inr (3, [.ref a1, .int 0, .int 0]))], [(a1, .inl (E.2.2.2.1, 5, .inr (.inr (.inr (.inr (va_up (va_up (va_up (fun _ => none) (0 : Int32).toNatClampNeg (some b2)) (1 : Int32).toNatClampNeg (some b5)) (2 : Int32).toNatClampNeg (some b8)))))))], [(b11, .inr (5, [.null, .null, .null, .null, .null, .int 0, .int 0, .int 0]))]]) := hD
  refine lv_dup hx hb dX5_init_31 rfl ?_
  obtain ⟨q12, h_q12, hF⟩ := bnd_s hF
  refine g_callNN (rest := [.ref b11, .int 3, .ref a1]) ⟨hx, hb, hml, hown, hts⟩ hK hZ hA (c_X7_init l E b11 n q12 h_q12) ⟨va_cnB 0 hts gX5_init_X7_init_n15 rfl rfl rfl w8 w6 (by decide +kernel) ⟨Nat.le_of_ble_eq_true rfl, Nat.le_of_ble_eq_true rfl⟩, rfl, w7⟩ hP hD hS [5] [0, 1, 2, 3, 4] rfl rfl rfl hl.1 (Nat.le_of_ble_eq_true rfl) dX5_init_32 ⟨Nat.le_of_ble_eq_true rfl, Nat.le_of_ble_eq_true rfl⟩ (fun t13 ok_t13 H locs hP hD hS => ?_)
  have hP : va_P E.1 vwCl (bl [St_c E t13 q12, St_c E t10 q9, St_c E t7 q6, St_c E t4 q3, [(o, .inr (3, [.ref a1, .int 0, .int 0]))], [(a1, .inl (E.2.2.2.1, 5, .inr (.inr (.inr (.inr (va_up (va_up (va_up (fun _ => none) (0 : Int32).toNatClampNeg (some b2)) (1 : Int32).toNatClampNeg (some b5)) (2 : Int32).toNatClampNeg (some b8)))))))]]) H := hP
  have hD : va_D A (bl [St_c E t13 q12, St_c E t10 q9, St_c E t7 q6, St_c E t4 q3, [(o, .inr (3, [.ref a1, .int 0, .int 0]))], [(a1, .inl (E.2.2.2.1, 5, .inr (.inr (.inr (.inr (va_up (va_up (va_up (fun _ => none) (0 : Int32).toNatClampNeg (some b2)) (1 : Int32).toNatClampNeg (some b5)) (2 : Int32).toNatClampNeg (some b8)))))))]]) := hD
  refine W.eq (g2 := F0 m 35 ls [.ref b11, .int 3, .ref a1]) rfl ?_
  refine g_aast (v := b11) (vs := [.ref (t13 2), .ref (t13 4), .ref (t13 7), .ref (t13 11), .ref (t13 1), .int (So_tick (St_So q12)), .int (So_clear (St_So q12)), .int (So_changesBegun (St_So q12))]) hx hb hK hP hD hS 5 0 rfl (by rw [← ok_t13]; rfl) (nI_in (c := 3) (by decide) (by decide)) dX5_init_35 (fun H locs hP hD hS => ?_)
  have hP : va_P E.1 vwCl (bl [St_c E t13 q12, St_c E t10 q9, St_c E t7 q6, St_c E t4 q3, [(o, .inr (3, [.ref a1, .int 0, .int 0]))], [(a1, .inl (E.2.2.2.1, 5, .inr (.inr (.inr (.inr (va_up (va_up (va_up (va_up (fun _ => none) (0 : Int32).toNatClampNeg (some b2)) (1 : Int32).toNatClampNeg (some b5)) (2 : Int32).toNatClampNeg (some b8)) (3 : Int32).toNatClampNeg (some b11)))))))]]) H := hP
  have hD : va_D A (bl [St_c E t13 q12, St_c E t10 q9, St_c E t7 q6, St_c E t4 q3, [(o, .inr (3, [.ref a1, .int 0, .int 0]))], [(a1, .inl (E.2.2.2.1, 5, .inr (.inr (.inr (.inr (va_up (va_up (va_up (va_up (fun _ => none) (0 : Int32).toNatClampNeg (some b2)) (1 : Int32).toNatClampNeg (some b5)) (2 : Int32).toNatClampNeg (some b8)) (3 : Int32).toNatClampNeg (some b11)))))))]]) := hD
  refine lv_iinc (v := 4) (lv' := [(1, .int 4), (0, .ref o)]) hx hb dX5_init_36 hl (k := 0) rfl rfl (by decide) rfl (fun ls hl => ?_)
  refine lv_goto (tgt := 14) hx hb dX5_init_39 (by decide) ?_
  refine lv_iload_n hx hb dX5_init_14 rfl (lv_at hl 0 rfl) ?_
  refine lv_aload_n hx hb dX5_init_15 rfl (lv_at hl 1 rfl) ?_
  refine g_get (T := TX5) (N := 3) hx hb hts in_X5 hown hK hP 4 rfl rfl 0 (by decide) w4 rfl rfl dX5_init_16 ?_
  refine g_alen (v := 5) hx hb hK hP 5 2 rfl rfl rfl dX5_init_19 ?_
  refine lv_icmp_ge (tgt := 42) hx hb dX5_init_20 (by decide) (fun z => absurd z (by decide)) (fun _ => ?_)
  refine lv_aload_n hx hb dX5_init_23 rfl (lv_at hl 1 rfl) ?_
  refine g_get (T := TX5) (N := 3) hx hb hts in_X5 hown hK hP 4 rfl rfl 0 (by decide) w4 rfl rfl dX5_init_24 ?_
  refine lv_iload_n hx hb dX5_init_27 rfl (lv_at hl 0 rfl) ?_
  refine g_new (T := TX7) (N := 8) (ci := 5) (fs := [.null, .null, .null, .null, .null, .int 0, .int 0, .int 0]) hx hb hts in_X7 tyX7 tyX7_ok hown w3 w5 w6 hK hP hD hS hA rfl (fun j hj => by rcases (show j = 0 ∨ j = 1 ∨ j = 2 ∨ j = 3 ∨ j = 4 ∨ j = 5 ∨ j = 6 ∨ j = 7 by omega) with rfl | rfl | rfl | rfl | rfl | rfl | rfl | rfl <;> rfl) (Nat.le_of_ble_eq_true rfl) (Nat.le_of_ble_eq_true rfl) dX5_init_28 (fun b14 H hP hD hS => ?_)
  have hP : va_P E.1 vwCl (bl [St_c E t13 q12, St_c E t10 q9, St_c E t7 q6, St_c E t4 q3, [(o, .inr (3, [.ref a1, .int 0, .int 0]))], [(a1, .inl (E.2.2.2.1, 5, .inr (.inr (.inr (.inr (va_up (va_up (va_up (va_up (fun _ => none) (0 : Int32).toNatClampNeg (some b2)) (1 : Int32).toNatClampNeg (some b5)) (2 : Int32).toNatClampNeg (some b8)) (3 : Int32).toNatClampNeg (some b11)))))))], [(b14, .inr (5, [.null, .null, .null, .null, .null, .int 0, .int 0, .int 0]))]]) H := hP
  have hD : va_D A (bl [St_c E t13 q12, St_c E t10 q9, St_c E t7 q6, St_c E t4 q3, [(o, .inr (3, [.ref a1, .int 0, .int 0]))], [(a1, .inl (E.2.2.2.1, 5, .inr (.inr (.inr (.inr (va_up (va_up (va_up (va_up (fun _ => none) (0 : Int32).toNatClampNeg (some b2)) (1 : Int32).toNatClampNeg (some b5)) (2 : Int32).toNatClampNeg (some b8)) (3 : Int32).toNatClampNeg (some b11)))))))], [(b14, .inr (5, [.null, .null, .null, .null, .null, .int 0, .int 0, .int 0]))]]) := hD
  refine lv_dup hx hb dX5_init_31 rfl ?_
  obtain ⟨q15, h_q15, hF⟩ := bnd_s hF
  refine g_callNN (rest := [.ref b14, .int 4, .ref a1]) ⟨hx, hb, hml, hown, hts⟩ hK hZ hA (c_X7_init l E b14 n q15 h_q15) ⟨va_cnB 0 hts gX5_init_X7_init_n15 rfl rfl rfl w8 w6 (by decide +kernel) ⟨Nat.le_of_ble_eq_true rfl, Nat.le_of_ble_eq_true rfl⟩, rfl, w7⟩ hP hD hS [6] [0, 1, 2, 3, 4, 5] rfl rfl rfl hl.1 (Nat.le_of_ble_eq_true rfl) dX5_init_32 ⟨Nat.le_of_ble_eq_true rfl, Nat.le_of_ble_eq_true rfl⟩ (fun t16 ok_t16 H locs hP hD hS => ?_)
  have hP : va_P E.1 vwCl (bl [St_c E t16 q15, St_c E t13 q12, St_c E t10 q9, St_c E t7 q6, St_c E t4 q3, [(o, .inr (3, [.ref a1, .int 0, .int 0]))], [(a1, .inl (E.2.2.2.1, 5, .inr (.inr (.inr (.inr (va_up (va_up (va_up (va_up (fun _ => none) (0 : Int32).toNatClampNeg (some b2)) (1 : Int32).toNatClampNeg (some b5)) (2 : Int32).toNatClampNeg (some b8)) (3 : Int32).toNatClampNeg (some b11)))))))]]) H := hP
  have hD : va_D A (bl [St_c E t16 q15, St_c E t13 q12, St_c E t10 q9, St_c E t7 q6, St_c E t4 q3, [(o, .inr (3, [.ref a1, .int 0, .int 0]))], [(a1, .inl (E.2.2.2.1, 5, .inr (.inr (.inr (.inr (va_up (va_up (va_up (va_up (fun _ => none) (0 : Int32).toNatClampNeg (some b2)) (1 : Int32).toNatClampNeg (some b5)) (2 : Int32).toNatClampNeg (some b8)) (3 : Int32).toNatClampNeg (some b11)))))))]]) := hD
  refine W.eq (g2 := F0 m 35 ls [.ref b14, .int 4, .ref a1]) rfl ?_
  refine g_aast (v := b14) (vs := [.ref (t16 2), .ref (t16 4), .ref (t16 7), .ref (t16 11), .ref (t16 1), .int (So_tick (St_So q15)), .int (So_clear (St_So q15)), .int (So_changesBegun (St_So q15))]) hx hb hK hP hD hS 6 0 rfl (by rw [← ok_t16]; rfl) (nI_in (c := 4) (by decide) (by decide)) dX5_init_35 (fun H locs hP hD hS => ?_)
  have hP : va_P E.1 vwCl (bl [St_c E t16 q15, St_c E t13 q12, St_c E t10 q9, St_c E t7 q6, St_c E t4 q3, [(o, .inr (3, [.ref a1, .int 0, .int 0]))], [(a1, .inl (E.2.2.2.1, 5, .inr (.inr (.inr (.inr (va_up (va_up (va_up (va_up (va_up (fun _ => none) (0 : Int32).toNatClampNeg (some b2)) (1 : Int32).toNatClampNeg (some b5)) (2 : Int32).toNatClampNeg (some b8)) (3 : Int32).toNatClampNeg (some b11)) (4 : Int32).toNatClampNeg (some b14)))))))]]) H := hP
  have hD : va_D A (bl [St_c E t16 q15, St_c E t13 q12, St_c E t10 q9, St_c E t7 q6, St_c E t4 q3, [(o, .inr (3, [.ref a1, .int 0, .int 0]))], [(a1, .inl (E.2.2.2.1, 5, .inr (.inr (.inr (.inr (va_up (va_up (va_up (va_up (va_up (fun _ => none) (0 : Int32).toNatClampNeg (some b2)) (1 : Int32).toNatClampNeg (some b5)) (2 : Int32).toNatClampNeg (some b8)) (3 : Int32).toNatClampNeg (some b11)) (4 : Int32).toNatClampNeg (some b14)))))))]]) := hD
  refine lv_iinc (v := 5) (lv' := [(1, .int 5), (0, .ref o)]) hx hb dX5_init_36 hl (k := 0) rfl rfl (by decide) rfl (fun ls hl => ?_)
  refine lv_goto (tgt := 14) hx hb dX5_init_39 (by decide) ?_
  refine lv_iload_n hx hb dX5_init_14 rfl (lv_at hl 0 rfl) ?_
  refine lv_aload_n hx hb dX5_init_15 rfl (lv_at hl 1 rfl) ?_
  refine g_get (T := TX5) (N := 3) hx hb hts in_X5 hown hK hP 5 rfl rfl 0 (by decide) w4 rfl rfl dX5_init_16 ?_
  refine g_alen (v := 5) hx hb hK hP 6 2 rfl rfl rfl dX5_init_19 ?_
  refine lv_icmp_ge (tgt := 42) hx hb dX5_init_20 (by decide) (fun _ => ?_) (fun z => absurd (by decide) z)
  have hP := bl_P hP [6, 0, 1, 2, 3, 4, 5] (bk_ok rfl)
  have hD := bl_D hD [6, 0, 1, 2, 3, 4, 5] rfl (bk_ok rfl)
  have hP : va_P E.1 vwCl (bl ([(a1, .inl (E.2.2.2.1, 5, .inr (.inr (.inr (.inr (va_up (va_up (va_up (va_up (va_up (fun _ => none) (0 : Int32).toNatClampNeg (some b2)) (1 : Int32).toNatClampNeg (some b5)) (2 : Int32).toNatClampNeg (some b8)) (3 : Int32).toNatClampNeg (some b11)) (4 : Int32).toNatClampNeg (some b14)))))))] :: [St_c E t16 q15, St_c E t13 q12, St_c E t10 q9, St_c E t7 q6, St_c E t4 q3, [(o, .inr (3, [.ref a1, .int 0, .int 0]))]])) H := hP
  have hD : va_D A (bl ([(a1, .inl (E.2.2.2.1, 5, .inr (.inr (.inr (.inr (va_up (va_up (va_up (va_up (va_up (fun _ => none) (0 : Int32).toNatClampNeg (some b2)) (1 : Int32).toNatClampNeg (some b5)) (2 : Int32).toNatClampNeg (some b8)) (3 : Int32).toNatClampNeg (some b11)) (4 : Int32).toNatClampNeg (some b14)))))))] :: [St_c E t16 q15, St_c E t13 q12, St_c E t10 q9, St_c E t7 q6, St_c E t4 q3, [(o, .inr (3, [.ref a1, .int 0, .int 0]))]])) := hD
  obtain ⟨hP, hD⟩ := g_arrq (g := fun i => some ((pick5 t4 t7 t10 t13 t16) i 0)) (fun j hj => by rcases (show j = 0 ∨ j = 1 ∨ j = 2 ∨ j = 3 ∨ j = 4 by omega) with rfl | rfl | rfl | rfl | rfl <;> simp [va_up, pick5, ok_t4, ok_t7, ok_t10, ok_t13, ok_t16]) hP hD
  cases hF
  exact g_nret (z := (a1, (pick5 t4 t7 t10 t13 t16))) hx hb hr hlocks hQ trivial (Nat.le_of_ble_eq_true rfl) (Nat.le_of_ble_eq_true rfl) hP hD hS [6, 0, 5, 4, 3, 2, 1] rfl rfl dX5_init_42
def F_X9_init (n : Nat) : Option HLV := (F_X7_init n).bind fun q2 => (F_X7_init n).bind fun q5 => (F_X7_init n).bind fun q8 => (F_X5_init n).bind fun q11 => (F_X8_init).bind fun q14 => some (HL_mk (Hx_mk 0) q2 q5 q8 q11 q14)
set_option maxHeartbeats 8000000 in
set_option maxRecDepth 100000 in
theorem c_X9_init (l : Launch) (E : GE) (o : Nat) (n : Nat) (r : HLV) (hF : F_X9_init n = some r) : CN l E yX9_init wsX9_init ({ frames := 4, cells := 141, slots := 2503, locals := 74 } : Room) o (bl [[(o, .inr (7, [.null, .null, .null, .null, .null, .int 0]))]]) (fun z : Nat × Nat × Nat × Nat × Nat × (Nat → Nat) × (Nat → Nat) × (Nat → Nat) × (Nat → Nat → Nat) => True) (fun z : Nat × Nat × Nat × Nat × Nat × (Nat → Nat) × (Nat → Nat) × (Nat → Nat) × (Nat → Nat → Nat) => bl [HL_c E o z.1 z.2.1 z.2.2.1 z.2.2.2.1 z.2.2.2.2.1 z.2.2.2.2.2.1 z.2.2.2.2.2.2.1 z.2.2.2.2.2.2.2.1 z.2.2.2.2.2.2.2.2 r]) 141 2503 := by
  refine CN.of (cc := cX9_init) (maxL := 1) (ret := none) (by decide) rfl (Nat.le_of_ble_eq_true rfl) ?_
  intro p e s m args below meth cd A Q ls B hQ hP hD hS hl
  obtain ⟨hx, hb, hml, hown, hts, hr, hlocks, hK, hZ, hA, hnm⟩ := B
  have hown : s.vm.findClass RX9 = some m.cls := hown
  have hl : lv_has ls 1 [(0, .ref o)] := hl
  have w0 := hts (.methodLink RX9 1 objectInit) (by decide +kernel)
  have w1 := hts (.instanceMethod objectInit) (by decide +kernel)
  have w2 := hts (.code objectInit ⟨#[0xb1]⟩ 1 none) (by decide +kernel)
  have w3 := hts (.classLink RX9 7 RX7) (by decide +kernel)
  have w4 := hts (.instantiable RX7 8) (by decide +kernel)
  have w5 := hts (.initialized RX7) (by decide +kernel)
  have w6 := hts (.instanceMethod yX7_init) (by decide +kernel)
  have w7 := hZ.2.2.2.2.2.2.2.1 0 _ rfl
  have w8 := hts (.fieldLink RX9 10 "HarborLight" "now" "LHarborLight$State;") (by decide +kernel)
  have w9 := hts (.fieldLink RX9 16 "HarborLight" "stored" "LHarborLight$State;") (by decide +kernel)
  have w10 := hts (.fieldLink RX9 19 "HarborLight" "trial" "LHarborLight$State;") (by decide +kernel)
  have w11 := hts (.classLink RX9 22 RX5) (by decide +kernel)
  have w12 := hts (.instantiable RX5 3) (by decide +kernel)
  have w13 := hts (.initialized RX5) (by decide +kernel)
  have w14 := hts (.instanceMethod yX5_init) (by decide +kernel)
  have w15 := hts (.methodLink RX9 24 yX5_init) (by decide +kernel)
  have w16 := hts (.fieldLink RX9 25 "HarborLight" "history" "LHarborLight$History;") (by decide +kernel)
  have w17 := hts (.classLink RX9 29 RX8) (by decide +kernel)
  have w18 := hts (.instantiable RX8 7) (by decide +kernel)
  have w19 := hts (.initialized RX8) (by decide +kernel)
  have w20 := hts (.instanceMethod yX8_init) (by decide +kernel)
  have w21 := hZ.2.2.2.2.2.2.2.1 1 _ rfl
  have w22 := hts (.fieldLink RX9 32 "HarborLight" "text" "LHarborLight$Text;") (by decide +kernel)
  have in_X5 : ∀ w ∈ wsX50, w ∈ wsX9_init := by decide +kernel
  have in_X7 : ∀ w ∈ wsX70, w ∈ wsX9_init := by decide +kernel
  have in_X8 : ∀ w ∈ wsX80, w ∈ wsX9_init := by decide +kernel
  have in_X9 : ∀ w ∈ wsX90, w ∈ wsX9_init := by decide +kernel
  unfold F_X9_init at hF
  refine lv_aload_n hx hb dX9_init_0 rfl (lv_at hl 0 rfl) ?_
  refine W.objInit hx hb hown w0 w1 w2 rfl (by rw [hml]; exact hl.1) rfl dX9_init_1 (Nat.le_of_ble_eq_true rfl) (Nat.le_of_ble_eq_true rfl) ?_
  refine W.eq (g2 := F0 m 4 ls []) rfl ?_
  refine lv_aload_n hx hb dX9_init_4 rfl (lv_at hl 0 rfl) ?_
  refine g_new (T := TX7) (N := 8) (ci := 5) (fs := [.null, .null, .null, .null, .null, .int 0, .int 0, .int 0]) hx hb hts in_X7 tyX7 tyX7_ok hown w3 w4 w5 hK hP hD hS hA rfl (fun j hj => by rcases (show j = 0 ∨ j = 1 ∨ j = 2 ∨ j = 3 ∨ j = 4 ∨ j = 5 ∨ j = 6 ∨ j = 7 by omega) with rfl | rfl | rfl | rfl | rfl | rfl | rfl | rfl <;> rfl) (Nat.le_of_ble_eq_true rfl) (Nat.le_of_ble_eq_true rfl) dX9_init_5 (fun b1 H hP hD hS => ?_)
  have hP : va_P E.1 vwCl (bl [[(o, .inr (7, [.null, .null, .null, .null, .null, .int 0]))], [(b1, .inr (5, [.null, .null, .null, .null, .null, .int 0, .int 0, .int 0]))]]) H := hP
  have hD : va_D A (bl [[(o, .inr (7, [.null, .null, .null, .null, .null, .int 0]))], [(b1, .inr (5, [.null, .null, .null, .null, .null, .int 0, .int 0, .int 0]))]]) := hD
  refine lv_dup hx hb dX9_init_8 rfl ?_
  obtain ⟨q2, h_q2, hF⟩ := bnd_s hF
  refine g_callNN (rest := [.ref b1, .ref o]) ⟨hx, hb, hml, hown, hts⟩ hK hZ hA (c_X7_init l E b1 n q2 h_q2) ⟨va_cnB 0 hts gX9_init_X7_init_n9 rfl rfl rfl w7 w5 (by decide +kernel) ⟨Nat.le_of_ble_eq_true rfl, Nat.le_of_ble_eq_true rfl⟩, rfl, w6⟩ hP hD hS [1] [0] rfl rfl rfl hl.1 (Nat.le_of_ble_eq_true rfl) dX9_init_9 ⟨Nat.le_of_ble_eq_true rfl, Nat.le_of_ble_eq_true rfl⟩ (fun t3 ok_t3 H locs hP hD hS => ?_)
  have hP : va_P E.1 vwCl (bl [St_c E t3 q2, [(o, .inr (7, [.null, .null, .null, .null, .null, .int 0]))]]) H := hP
  have hD : va_D A (bl [St_c E t3 q2, [(o, .inr (7, [.null, .null, .null, .null, .null, .int 0]))]]) := hD
  refine W.eq (g2 := F0 m 12 ls [.ref b1, .ref o]) rfl ?_
  refine g_putF (T := TX9) (N := 6) hx hb hts in_X9 tyX9 tyX9_ok nmX9 hown hK hP hD hS 1 rfl rfl 0 (by decide) w8 rfl rfl hnm rfl rfl (Nat.le_of_ble_eq_true rfl) dX9_init_12 (fun H locs hP hD hS => ?_)
  have hP : va_P E.1 vwCl (bl [St_c E t3 q2, [(o, .inr (7, [.ref b1, .null, .null, .null, .null, .int 0]))]]) H := hP
  have hD : va_D A (bl [St_c E t3 q2, [(o, .inr (7, [.ref b1, .null, .null, .null, .null, .int 0]))]]) := hD
  refine lv_aload_n hx hb dX9_init_15 rfl (lv_at hl 0 rfl) ?_
  refine g_new (T := TX7) (N := 8) (ci := 5) (fs := [.null, .null, .null, .null, .null, .int 0, .int 0, .int 0]) hx hb hts in_X7 tyX7 tyX7_ok hown w3 w4 w5 hK hP hD hS hA rfl (fun j hj => by rcases (show j = 0 ∨ j = 1 ∨ j = 2 ∨ j = 3 ∨ j = 4 ∨ j = 5 ∨ j = 6 ∨ j = 7 by omega) with rfl | rfl | rfl | rfl | rfl | rfl | rfl | rfl <;> rfl) (Nat.le_of_ble_eq_true rfl) (Nat.le_of_ble_eq_true rfl) dX9_init_16 (fun b4 H hP hD hS => ?_)
  have hP : va_P E.1 vwCl (bl [St_c E t3 q2, [(o, .inr (7, [.ref b1, .null, .null, .null, .null, .int 0]))], [(b4, .inr (5, [.null, .null, .null, .null, .null, .int 0, .int 0, .int 0]))]]) H := hP
  have hD : va_D A (bl [St_c E t3 q2, [(o, .inr (7, [.ref b1, .null, .null, .null, .null, .int 0]))], [(b4, .inr (5, [.null, .null, .null, .null, .null, .int 0, .int 0, .int 0]))]]) := hD
  refine lv_dup hx hb dX9_init_19 rfl ?_
  obtain ⟨q5, h_q5, hF⟩ := bnd_s hF
  refine g_callNN (rest := [.ref b4, .ref o]) ⟨hx, hb, hml, hown, hts⟩ hK hZ hA (c_X7_init l E b4 n q5 h_q5) ⟨va_cnB 0 hts gX9_init_X7_init_n9 rfl rfl rfl w7 w5 (by decide +kernel) ⟨Nat.le_of_ble_eq_true rfl, Nat.le_of_ble_eq_true rfl⟩, rfl, w6⟩ hP hD hS [2] [0, 1] rfl rfl rfl hl.1 (Nat.le_of_ble_eq_true rfl) dX9_init_20 ⟨Nat.le_of_ble_eq_true rfl, Nat.le_of_ble_eq_true rfl⟩ (fun t6 ok_t6 H locs hP hD hS => ?_)
  have hP : va_P E.1 vwCl (bl [St_c E t6 q5, St_c E t3 q2, [(o, .inr (7, [.ref b1, .null, .null, .null, .null, .int 0]))]]) H := hP
  have hD : va_D A (bl [St_c E t6 q5, St_c E t3 q2, [(o, .inr (7, [.ref b1, .null, .null, .null, .null, .int 0]))]]) := hD
  refine W.eq (g2 := F0 m 23 ls [.ref b4, .ref o]) rfl ?_
  refine g_putF (T := TX9) (N := 6) hx hb hts in_X9 tyX9 tyX9_ok nmX9 hown hK hP hD hS 2 rfl rfl 1 (by decide) w9 rfl rfl hnm rfl rfl (Nat.le_of_ble_eq_true rfl) dX9_init_23 (fun H locs hP hD hS => ?_)
  have hP : va_P E.1 vwCl (bl [St_c E t6 q5, St_c E t3 q2, [(o, .inr (7, [.ref b1, .ref b4, .null, .null, .null, .int 0]))]]) H := hP
  have hD : va_D A (bl [St_c E t6 q5, St_c E t3 q2, [(o, .inr (7, [.ref b1, .ref b4, .null, .null, .null, .int 0]))]]) := hD
  refine lv_aload_n hx hb dX9_init_26 rfl (lv_at hl 0 rfl) ?_
  refine g_new (T := TX7) (N := 8) (ci := 5) (fs := [.null, .null, .null, .null, .null, .int 0, .int 0, .int 0]) hx hb hts in_X7 tyX7 tyX7_ok hown w3 w4 w5 hK hP hD hS hA rfl (fun j hj => by rcases (show j = 0 ∨ j = 1 ∨ j = 2 ∨ j = 3 ∨ j = 4 ∨ j = 5 ∨ j = 6 ∨ j = 7 by omega) with rfl | rfl | rfl | rfl | rfl | rfl | rfl | rfl <;> rfl) (Nat.le_of_ble_eq_true rfl) (Nat.le_of_ble_eq_true rfl) dX9_init_27 (fun b7 H hP hD hS => ?_)
  have hP : va_P E.1 vwCl (bl [St_c E t6 q5, St_c E t3 q2, [(o, .inr (7, [.ref b1, .ref b4, .null, .null, .null, .int 0]))], [(b7, .inr (5, [.null, .null, .null, .null, .null, .int 0, .int 0, .int 0]))]]) H := hP
  have hD : va_D A (bl [St_c E t6 q5, St_c E t3 q2, [(o, .inr (7, [.ref b1, .ref b4, .null, .null, .null, .int 0]))], [(b7, .inr (5, [.null, .null, .null, .null, .null, .int 0, .int 0, .int 0]))]]) := hD
  refine lv_dup hx hb dX9_init_30 rfl ?_
  obtain ⟨q8, h_q8, hF⟩ := bnd_s hF
  refine g_callNN (rest := [.ref b7, .ref o]) ⟨hx, hb, hml, hown, hts⟩ hK hZ hA (c_X7_init l E b7 n q8 h_q8) ⟨va_cnB 0 hts gX9_init_X7_init_n9 rfl rfl rfl w7 w5 (by decide +kernel) ⟨Nat.le_of_ble_eq_true rfl, Nat.le_of_ble_eq_true rfl⟩, rfl, w6⟩ hP hD hS [3] [0, 1, 2] rfl rfl rfl hl.1 (Nat.le_of_ble_eq_true rfl) dX9_init_31 ⟨Nat.le_of_ble_eq_true rfl, Nat.le_of_ble_eq_true rfl⟩ (fun t9 ok_t9 H locs hP hD hS => ?_)
  have hP : va_P E.1 vwCl (bl [St_c E t9 q8, St_c E t6 q5, St_c E t3 q2, [(o, .inr (7, [.ref b1, .ref b4, .null, .null, .null, .int 0]))]]) H := hP
  have hD : va_D A (bl [St_c E t9 q8, St_c E t6 q5, St_c E t3 q2, [(o, .inr (7, [.ref b1, .ref b4, .null, .null, .null, .int 0]))]]) := hD
  refine W.eq (g2 := F0 m 34 ls [.ref b7, .ref o]) rfl ?_
  refine g_putF (T := TX9) (N := 6) hx hb hts in_X9 tyX9 tyX9_ok nmX9 hown hK hP hD hS 3 rfl rfl 2 (by decide) w10 rfl rfl hnm rfl rfl (Nat.le_of_ble_eq_true rfl) dX9_init_34 (fun H locs hP hD hS => ?_)
  have hP : va_P E.1 vwCl (bl [St_c E t9 q8, St_c E t6 q5, St_c E t3 q2, [(o, .inr (7, [.ref b1, .ref b4, .ref b7, .null, .null, .int 0]))]]) H := hP
  have hD : va_D A (bl [St_c E t9 q8, St_c E t6 q5, St_c E t3 q2, [(o, .inr (7, [.ref b1, .ref b4, .ref b7, .null, .null, .int 0]))]]) := hD
  refine lv_aload_n hx hb dX9_init_37 rfl (lv_at hl 0 rfl) ?_
  refine g_new (T := TX5) (N := 3) (ci := 3) (fs := [.null, .int 0, .int 0]) hx hb hts in_X5 tyX5 tyX5_ok hown w11 w12 w13 hK hP hD hS hA rfl (fun j hj => by rcases (show j = 0 ∨ j = 1 ∨ j = 2 by omega) with rfl | rfl | rfl <;> rfl) (Nat.le_of_ble_eq_true rfl) (Nat.le_of_ble_eq_true rfl) dX9_init_38 (fun b10 H hP hD hS => ?_)
  have hP : va_P E.1 vwCl (bl [St_c E t9 q8, St_c E t6 q5, St_c E t3 q2, [(o, .inr (7, [.ref b1, .ref b4, .ref b7, .null, .null, .int 0]))], [(b10, .inr (3, [.null, .int 0, .int 0]))]]) H := hP
  have hD : va_D A (bl [St_c E t9 q8, St_c E t6 q5, St_c E t3 q2, [(o, .inr (7, [.ref b1, .ref b4, .ref b7, .null, .null, .int 0]))], [(b10, .inr (3, [.null, .int 0, .int 0]))]]) := hD
  refine lv_dup hx hb dX9_init_41 rfl ?_
  obtain ⟨q11, h_q11, hF⟩ := bnd_s hF
  refine g_callN (rest := [.ref b10, .ref o]) ⟨hx, hb, hml, hown, hts⟩ hK hZ hA (c_X5_init l E b10 n q11 h_q11) (cwI 0 hts gX9_init_X5_init rfl rfl rfl w13 w15 w14 rfl (by decide +kernel) ⟨Nat.le_of_ble_eq_true rfl, Nat.le_of_ble_eq_true rfl⟩) hP hD hS [4] [0, 1, 2, 3] rfl rfl rfl hl.1 (Nat.le_of_ble_eq_true rfl) dX9_init_42 ⟨Nat.le_of_ble_eq_true rfl, Nat.le_of_ble_eq_true rfl⟩ (fun t12 ok_t12 H locs hP hD hS => ?_)
  have hP : va_P E.1 vwCl (bl [Hi_c E b10 t12.1 t12.2 q11, St_c E t9 q8, St_c E t6 q5, St_c E t3 q2, [(o, .inr (7, [.ref b1, .ref b4, .ref b7, .null, .null, .int 0]))]]) H := hP
  have hD : va_D A (bl [Hi_c E b10 t12.1 t12.2 q11, St_c E t9 q8, St_c E t6 q5, St_c E t3 q2, [(o, .inr (7, [.ref b1, .ref b4, .ref b7, .null, .null, .int 0]))]]) := hD
  refine W.eq (g2 := F0 m 45 ls [.ref b10, .ref o]) rfl ?_
  refine g_putF (T := TX9) (N := 6) hx hb hts in_X9 tyX9 tyX9_ok nmX9 hown hK hP hD hS 4 rfl rfl 3 (by decide) w16 rfl rfl hnm rfl rfl (Nat.le_of_ble_eq_true rfl) dX9_init_45 (fun H locs hP hD hS => ?_)
  have hP : va_P E.1 vwCl (bl [Hi_c E b10 t12.1 t12.2 q11, St_c E t9 q8, St_c E t6 q5, St_c E t3 q2, [(o, .inr (7, [.ref b1, .ref b4, .ref b7, .ref b10, .null, .int 0]))]]) H := hP
  have hD : va_D A (bl [Hi_c E b10 t12.1 t12.2 q11, St_c E t9 q8, St_c E t6 q5, St_c E t3 q2, [(o, .inr (7, [.ref b1, .ref b4, .ref b7, .ref b10, .null, .int 0]))]]) := hD
  refine lv_aload_n hx hb dX9_init_48 rfl (lv_at hl 0 rfl) ?_
  refine g_new (T := TX8) (N := 7) (ci := 6) (fs := [.null, .null, .int 0, .int 0, .int 0, .int 0, .int 0]) hx hb hts in_X8 tyX8 tyX8_ok hown w17 w18 w19 hK hP hD hS hA rfl (fun j hj => by rcases (show j = 0 ∨ j = 1 ∨ j = 2 ∨ j = 3 ∨ j = 4 ∨ j = 5 ∨ j = 6 by omega) with rfl | rfl | rfl | rfl | rfl | rfl | rfl <;> rfl) (Nat.le_of_ble_eq_true rfl) (Nat.le_of_ble_eq_true rfl) dX9_init_49 (fun b13 H hP hD hS => ?_)
  have hP : va_P E.1 vwCl (bl [Hi_c E b10 t12.1 t12.2 q11, St_c E t9 q8, St_c E t6 q5, St_c E t3 q2, [(o, .inr (7, [.ref b1, .ref b4, .ref b7, .ref b10, .null, .int 0]))], [(b13, .inr (6, [.null, .null, .int 0, .int 0, .int 0, .int 0, .int 0]))]]) H := hP
  have hD : va_D A (bl [Hi_c E b10 t12.1 t12.2 q11, St_c E t9 q8, St_c E t6 q5, St_c E t3 q2, [(o, .inr (7, [.ref b1, .ref b4, .ref b7, .ref b10, .null, .int 0]))], [(b13, .inr (6, [.null, .null, .int 0, .int 0, .int 0, .int 0, .int 0]))]]) := hD
  refine lv_dup hx hb dX9_init_52 rfl ?_
  obtain ⟨q14, h_q14, hF⟩ := bnd_s hF
  refine g_callNN (rest := [.ref b13, .ref o]) ⟨hx, hb, hml, hown, hts⟩ hK hZ hA (c_X8_init l E b13 q14 h_q14) ⟨va_cnB 0 hts gX9_init_X8_init_n31 rfl rfl rfl w21 w19 (by decide +kernel) ⟨Nat.le_of_ble_eq_true rfl, Nat.le_of_ble_eq_true rfl⟩, rfl, w20⟩ hP hD hS [5] [0, 1, 2, 3, 4] rfl rfl rfl hl.1 (Nat.le_of_ble_eq_true rfl) dX9_init_53 ⟨Nat.le_of_ble_eq_true rfl, Nat.le_of_ble_eq_true rfl⟩ (fun t15 ok_t15 H locs hP hD hS => ?_)
  have hP : va_P E.1 vwCl (bl [Tx_c E b13 t15.1 t15.2 q14, Hi_c E b10 t12.1 t12.2 q11, St_c E t9 q8, St_c E t6 q5, St_c E t3 q2, [(o, .inr (7, [.ref b1, .ref b4, .ref b7, .ref b10, .null, .int 0]))]]) H := hP
  have hD : va_D A (bl [Tx_c E b13 t15.1 t15.2 q14, Hi_c E b10 t12.1 t12.2 q11, St_c E t9 q8, St_c E t6 q5, St_c E t3 q2, [(o, .inr (7, [.ref b1, .ref b4, .ref b7, .ref b10, .null, .int 0]))]]) := hD
  refine W.eq (g2 := F0 m 56 ls [.ref b13, .ref o]) rfl ?_
  refine g_putF (T := TX9) (N := 6) hx hb hts in_X9 tyX9 tyX9_ok nmX9 hown hK hP hD hS 5 rfl rfl 4 (by decide) w22 rfl rfl hnm rfl rfl (Nat.le_of_ble_eq_true rfl) dX9_init_56 (fun H locs hP hD hS => ?_)
  have hP : va_P E.1 vwCl (bl [Tx_c E b13 t15.1 t15.2 q14, Hi_c E b10 t12.1 t12.2 q11, St_c E t9 q8, St_c E t6 q5, St_c E t3 q2, [(o, .inr (7, [.ref b1, .ref b4, .ref b7, .ref b10, .ref b13, .int 0]))]]) H := hP
  have hD : va_D A (bl [Tx_c E b13 t15.1 t15.2 q14, Hi_c E b10 t12.1 t12.2 q11, St_c E t9 q8, St_c E t6 q5, St_c E t3 q2, [(o, .inr (7, [.ref b1, .ref b4, .ref b7, .ref b10, .ref b13, .int 0]))]]) := hD
  have hP : va_P E.1 vwCl (bl [Tx_c E b13 t15.1 t15.2 q14, Hi_c E b10 t12.1 t12.2 q11, St_c E t9 q8, St_c E t6 q5, St_c E t3 q2, [(o, .inr (7, [.ref b1, .ref b4, .ref b7, .ref b10, .ref b13, .int 0]))]]) H := hP
  have e_b1 := ok_t3
  have e_b4 := ok_t6
  have e_b7 := ok_t9
  subst e_b1 e_b4 e_b7
  cases hF
  exact g_nret (z := (b10, t12.1, b13, t15.1, t15.2, t3, t6, t9, t12.2)) hx hb hr hlocks hQ trivial (Nat.le_of_ble_eq_true rfl) (Nat.le_of_ble_eq_true rfl) hP hD hS [5, 4, 3, 2, 1, 0] rfl rfl dX9_init_59
