/-! the history: five rows of states, one of them opened by its index -/
def hset (v : HrV) (j : Nat) (x : StV) : HrV := fun i => if i = j then x else v i
def Hrest (E : GE) (gh : Nat → Nat → Nat) (v : HrV) (j : Nat) : va_W := match j with
  | 0 => bl [St_c E (gh 1) (v 1), St_c E (gh 2) (v 2), St_c E (gh 3) (v 3), St_c E (gh 4) (v 4)]
  | 1 => bl [St_c E (gh 0) (v 0), St_c E (gh 2) (v 2), St_c E (gh 3) (v 3), St_c E (gh 4) (v 4)]
  | 2 => bl [St_c E (gh 0) (v 0), St_c E (gh 1) (v 1), St_c E (gh 3) (v 3), St_c E (gh 4) (v 4)]
  | 3 => bl [St_c E (gh 0) (v 0), St_c E (gh 1) (v 1), St_c E (gh 2) (v 2), St_c E (gh 4) (v 4)]
  | _ => bl [St_c E (gh 0) (v 0), St_c E (gh 1) (v 1), St_c E (gh 2) (v 2), St_c E (gh 3) (v 3)]
theorem Hrest0 (E : GE) (gh : Nat → Nat → Nat) (v : HrV) : Hrest E gh v 0 = bl [St_c E (gh 1) (v 1), St_c E (gh 2) (v 2), St_c E (gh 3) (v 3), St_c E (gh 4) (v 4)] := rfl
theorem Hrest1 (E : GE) (gh : Nat → Nat → Nat) (v : HrV) : Hrest E gh v 1 = bl [St_c E (gh 0) (v 0), St_c E (gh 2) (v 2), St_c E (gh 3) (v 3), St_c E (gh 4) (v 4)] := rfl
theorem Hrest2 (E : GE) (gh : Nat → Nat → Nat) (v : HrV) : Hrest E gh v 2 = bl [St_c E (gh 0) (v 0), St_c E (gh 1) (v 1), St_c E (gh 3) (v 3), St_c E (gh 4) (v 4)] := rfl
theorem Hrest3 (E : GE) (gh : Nat → Nat → Nat) (v : HrV) : Hrest E gh v 3 = bl [St_c E (gh 0) (v 0), St_c E (gh 1) (v 1), St_c E (gh 2) (v 2), St_c E (gh 4) (v 4)] := rfl
theorem Hrest4 (E : GE) (gh : Nat → Nat → Nat) (v : HrV) : Hrest E gh v 4 = bl [St_c E (gh 0) (v 0), St_c E (gh 1) (v 1), St_c E (gh 2) (v 2), St_c E (gh 3) (v 3)] := rfl
def Hrow (E : GE) (r : Nat) (gh : Nat → Nat → Nat) : va_W := [(r, .inl (E.2.2.2.1, 5, .inr (.inr (.inr (.inr (fun i => some (gh i 0)))))))]
theorem hr_eq (E : GE) (r : Nat) (gh : Nat → Nat → Nat) (v : HrV) (X : List va_W) : bl (Hr_c E r gh v :: X) = bl [Hrow E r gh, St_c E (gh 0) (v 0), St_c E (gh 1) (v 1), St_c E (gh 2) (v 2), St_c E (gh 3) (v 3), St_c E (gh 4) (v 4), bl X] := by
  simp only [bl, Hr_c, Hrow, List.flatten_cons, List.flatten_nil, List.append_nil, List.append_assoc]
theorem hr_flat (a b c d e f : va_W) (X : List va_W) : bl (a :: b :: bl [c, d, e, f] :: X) = bl [a, b, c, d, e, f, bl X] := by
  simp only [bl, List.flatten_cons, List.flatten_nil, List.append_nil, List.append_assoc]
theorem hr_open {E : GE} {r : Nat} {gh : Nat → Nat → Nat} {v : HrV} {X : List va_W} {H : Heap} {A : Nat → Prop} {j : Nat} (hj : j < 5) (hP : va_P E.1 vwCl (bl (Hr_c E r gh v :: X)) H) (hD : va_D A (bl (Hr_c E r gh v :: X))) :
    va_P E.1 vwCl (bl (Hrow E r gh :: St_c E (gh j) (v j) :: Hrest E gh v j :: X)) H ∧ va_D A (bl (Hrow E r gh :: St_c E (gh j) (v j) :: Hrest E gh v j :: X)) := by
  rw [hr_eq] at hP hD
  have hc : j = 0 ∨ j = 1 ∨ j = 2 ∨ j = 3 ∨ j = 4 := by omega
  rcases hc with rfl | rfl | rfl | rfl | rfl
  · rw [Hrest0, hr_flat]; exact ⟨bl_P hP [0, 1, 2, 3, 4, 5, 6] rfl, bl_D hD [0, 1, 2, 3, 4, 5, 6] rfl rfl⟩
  · rw [Hrest1, hr_flat]; exact ⟨bl_P hP [0, 2, 1, 3, 4, 5, 6] rfl, bl_D hD [0, 2, 1, 3, 4, 5, 6] rfl rfl⟩
  · rw [Hrest2, hr_flat]; exact ⟨bl_P hP [0, 3, 1, 2, 4, 5, 6] rfl, bl_D hD [0, 3, 1, 2, 4, 5, 6] rfl rfl⟩
  · rw [Hrest3, hr_flat]; exact ⟨bl_P hP [0, 4, 1, 2, 3, 5, 6] rfl, bl_D hD [0, 4, 1, 2, 3, 5, 6] rfl rfl⟩
  · rw [Hrest4, hr_flat]; exact ⟨bl_P hP [0, 5, 1, 2, 3, 4, 6] rfl, bl_D hD [0, 5, 1, 2, 3, 4, 6] rfl rfl⟩
theorem hr_close {E : GE} {r : Nat} {gh : Nat → Nat → Nat} {v : HrV} {x : StV} {X : List va_W} {H : Heap} {A : Nat → Prop} {j : Nat} (hj : j < 5) (hP : va_P E.1 vwCl (bl (Hrow E r gh :: St_c E (gh j) x :: Hrest E gh v j :: X)) H) (hD : va_D A (bl (Hrow E r gh :: St_c E (gh j) x :: Hrest E gh v j :: X))) :
    va_P E.1 vwCl (bl (Hr_c E r gh (hset v j x) :: X)) H ∧ va_D A (bl (Hr_c E r gh (hset v j x) :: X)) := by
  rw [hr_eq]
  have hc : j = 0 ∨ j = 1 ∨ j = 2 ∨ j = 3 ∨ j = 4 := by omega
  rcases hc with rfl | rfl | rfl | rfl | rfl
  · rw [Hrest0, hr_flat] at hP hD; exact ⟨bl_P hP [0, 1, 2, 3, 4, 5, 6] rfl, bl_D hD [0, 1, 2, 3, 4, 5, 6] rfl rfl⟩
  · rw [Hrest1, hr_flat] at hP hD; exact ⟨bl_P hP [0, 2, 1, 3, 4, 5, 6] rfl, bl_D hD [0, 2, 1, 3, 4, 5, 6] rfl rfl⟩
  · rw [Hrest2, hr_flat] at hP hD; exact ⟨bl_P hP [0, 2, 3, 1, 4, 5, 6] rfl, bl_D hD [0, 2, 3, 1, 4, 5, 6] rfl rfl⟩
  · rw [Hrest3, hr_flat] at hP hD; exact ⟨bl_P hP [0, 2, 3, 4, 1, 5, 6] rfl, bl_D hD [0, 2, 3, 4, 1, 5, 6] rfl rfl⟩
  · rw [Hrest4, hr_flat] at hP hD; exact ⟨bl_P hP [0, 2, 3, 4, 5, 1, 6] rfl, bl_D hD [0, 2, 3, 4, 5, 1, 6] rfl rfl⟩
def F_X5_keep_t (v : HiV) (q : StV) (e : Int32) : Option HiV := if 5 ≤ Ho_states (Hi_Ho v) then some (Hi_mk (Ho_mk (Ho_states (Hi_Ho v)) e) (hset (Hi_Hr v) (Ho_end (Hi_Ho v)).toNatClampNeg q)) else some (Hi_mk (Ho_mk (Ho_states (Hi_Ho v) + 1) e) (hset (Hi_Hr v) (Ho_end (Hi_Ho v)).toNatClampNeg q))
def F_X5_keep (v : HiV) (v2 : StV) : Option HiV := if Ho_end (Hi_Ho v) < 0 then some v else if 5 ≤ Ho_end (Hi_Ho v) then some v else chk (Ho_end (Hi_Ho v)) 5 ((F_X7_become ((Hi_Hr v) (Ho_end (Hi_Ho v)).toNatClampNeg) v2).bind fun q => if 5 ≤ (Ho_end (Hi_Ho v) + 1) then F_X5_keep_t v q 0 else F_X5_keep_t v q (Ho_end (Hi_Ho v) + 1))
def F_X5_giveBack_t (v : HiV) (v2 : StV) (x2 : Int32) : Option (HiV × StV) := if Ho_states (Hi_Ho v) < 1 then some (v, v2) else if x2 < 0 then some (v, v2) else if 5 ≤ x2 then some (v, v2) else chk x2 5 ((F_X7_become v2 ((Hi_Hr v) x2.toNatClampNeg)).bind fun q => some (Hi_mk (Ho_mk (Ho_states (Hi_Ho v) - 1) x2) (Hi_Hr v), q))
def F_X5_giveBack (v : HiV) (v2 : StV) : Option (HiV × StV) := if Ho_end (Hi_Ho v) ≤ 0 then F_X5_giveBack_t v v2 (5 - 1) else F_X5_giveBack_t v v2 (Ho_end (Hi_Ho v) - 1)
theorem g_aald {p : Program} {l : Launch} {e : Env} {R : Room} {s : State} {m : MethodId} {args : Array Value} {below : List Frame} {meth : Method} {c : Code} {H : Heap} {locs : List Loc} {cells slots : Nat} {Q : State → Prop} {E : GE} {pc : Nat} {ls : Array Slot} {rest : List Value} {bs : List va_W} {cc : ByteArray}
    (hx : p.tables.exec = Jvm.exec) (hb : c.code = cc) (hK : gK E s) (hP : va_P E.1 vwCl (bl bs) H) (q0 : Nat) {r : Nat} {gh : Nat → Nat → Nat} (ha : bs[q0]? = some (Hrow E r gh)) {i : Int32} (hin : vp_in i 5) (hdg : decode cc pc = .ok (.aaload, 1)) (kk : W p l e R s m args below meth c H locs cells slots Q (F0 m (pc + 1) ls (.ref (gh i.toNatClampNeg 0) :: rest))) : W p l e R s m args below meth c H locs cells slots Q (F0 m pc ls (.int i :: .ref r :: rest)) := by
  obtain ⟨k0, h1, -⟩ := bl_get (x := (r, .inl (E.2.2.2.1, 5, .inr (.inr (.inr (.inr (fun i => some (gh i 0)))))))) ha
  exact va_aldq hx hb hK hP k0 2 h1 rfl hin hdg kk
theorem g_hlen {p : Program} {l : Launch} {e : Env} {R : Room} {s : State} {m : MethodId} {args : Array Value} {below : List Frame} {meth : Method} {c : Code} {H : Heap} {locs : List Loc} {cells slots : Nat} {Q : State → Prop} {E : GE} {pc : Nat} {ls : Array Slot} {rest : List Value} {bs : List va_W} {cc : ByteArray}
    (hx : p.tables.exec = Jvm.exec) (hb : c.code = cc) (hK : gK E s) (hP : va_P E.1 vwCl (bl bs) H) (q0 : Nat) {r : Nat} {gh : Nat → Nat → Nat} (ha : bs[q0]? = some (Hrow E r gh)) (hdg : decode cc pc = .ok (.arraylength, 1)) (kk : W p l e R s m args below meth c H locs cells slots Q (F0 m (pc + 1) ls (.int 5 :: rest))) : W p l e R s m args below meth c H locs cells slots Q (F0 m pc ls (.ref r :: rest)) :=
  g_alen hx hb hK hP q0 2 (x := (5, .inr (.inr (.inr (.inr (fun i => some (gh i 0))))))) ha rfl rfl hdg kk
set_option maxHeartbeats 4000000 in
set_option maxRecDepth 100000 in
theorem c_X5_keep (l : Launch) (E : GE) (o qr : Nat) (gh : Nat → Nat → Nat) (fa2 : Nat → Nat) (v : HiV) (v2 : StV) (r : HiV) (hF : F_X5_keep v v2 = some r) : CT l E yX5_keep wsX5_keep ({ frames := 3, cells := 0, slots := 0, locals := 100 } : Room) [.ref o, .ref (fa2 0)] (bl [Hi_c E o qr gh v, St_c E fa2 v2]) none (bl [Hi_c E o qr gh r, St_c E fa2 v2]) 0 0 := by
  refine CT.of (cc := cX5_keep) (maxL := 2) (ret := none) (by decide) rfl (Nat.le_of_ble_eq_true rfl) ?_
  intro p e s m args below meth cd A Q ls B hQ hP hD hS hl
  obtain ⟨hx, hb, hml, hown, hts, hr, hlocks, hK, hZ, hA, hnm⟩ := B
  have hown : s.vm.findClass RX5 = some m.cls := hown
  have hl : lv_has ls 2 [(0, .ref o), (1, .ref (fa2 0))] := hl
  have wE := hts (.fieldLink RX5 16 "HarborLight$History" "end" "I") (by decide +kernel)
  have wR := hts (.fieldLink RX5 11 "HarborLight$History" "rows" "[LHarborLight$State;") (by decide +kernel)
  have wS := hts (.fieldLink RX5 24 "HarborLight$History" "states" "I") (by decide +kernel)
  have in_X5 : ∀ w ∈ wsX50, w ∈ wsX5_keep := by decide +kernel
  have hP : va_P E.1 vwCl (bl [[(o, .inr (3, [.ref qr, .int (Ho_states (Hi_Ho v)), .int (Ho_end (Hi_Ho v))]))], Hr_c E qr gh (Hi_Hr v), St_c E fa2 v2]) s.heap := hP
  have hD : va_D A (bl [[(o, .inr (3, [.ref qr, .int (Ho_states (Hi_Ho v)), .int (Ho_end (Hi_Ho v))]))], Hr_c E qr gh (Hi_Hr v), St_c E fa2 v2]) := hD
  unfold F_X5_keep at hF
  refine lv_aload_n hx hb dX5_keep_0 rfl (lv_at hl 0 rfl) ?_
  refine g_get (T := TX5) (N := 3) hx hb hts in_X5 hown hK hP 0 rfl rfl 2 (by decide) wE rfl rfl dX5_keep_1 ?_
  refine f_if_lt (tgt := 31) hx hb dX5_keep_4 (by decide) hF (fun hF => ?_) (fun hF => ?_)
  · exact g_vret (rvf := fun _ => none) (W1f := fun z => bl [Hi_c E o qr gh z, St_c E fa2 v2]) hx hb hr hlocks hQ hF rfl hP hD hS [0, 1, 2] rfl rfl dX5_keep_31
  · refine lv_aload_n hx hb dX5_keep_7 rfl (lv_at hl 0 rfl) ?_
    refine g_get (T := TX5) (N := 3) hx hb hts in_X5 hown hK hP 0 rfl rfl 2 (by decide) wE rfl rfl dX5_keep_8 ?_
    refine lv_aload_n hx hb dX5_keep_11 rfl (lv_at hl 0 rfl) ?_
    refine g_get (T := TX5) (N := 3) hx hb hts in_X5 hown hK hP 0 rfl rfl 0 (by decide) wR rfl rfl dX5_keep_12 ?_
    have hPr := bl_P hP [1, 0, 2] (bk_ok rfl)
    have hDr := bl_D hD [1, 0, 2] rfl (bk_ok rfl)
    have hPr : va_P E.1 vwCl (bl (Hr_c E qr gh (Hi_Hr v) :: [[(o, .inr (3, [.ref qr, .int (Ho_states (Hi_Ho v)), .int (Ho_end (Hi_Ho v))]))], St_c E fa2 v2])) s.heap := hPr
    have hDr : va_D A (bl (Hr_c E qr gh (Hi_Hr v) :: [[(o, .inr (3, [.ref qr, .int (Ho_states (Hi_Ho v)), .int (Ho_end (Hi_Ho v))]))], St_c E fa2 v2])) := hDr
    obtain ⟨hP0, hD0⟩ := hr_open (j := 0) (by decide) hPr hDr
    refine g_hlen hx hb hK hP0 0 rfl dX5_keep_15 ?_
    refine f_icmp_ge (tgt := 31) hx hb dX5_keep_16 (by decide) hF (fun hF => ?_) (fun hF => ?_)
    · exact g_vret (rvf := fun _ => none) (W1f := fun z => bl [Hi_c E o qr gh z, St_c E fa2 v2]) hx hb hr hlocks hQ hF rfl hP hD hS [0, 1, 2] rfl rfl dX5_keep_31
    · obtain ⟨hin, hF⟩ := chk_s hF
      have hj : (Ho_end (Hi_Ho v)).toNatClampNeg < 5 := Nat.not_le.mp fun q => hin (Or.inr q)
      obtain ⟨hP, hD⟩ := hr_open hj hPr hDr
      have hP : va_P E.1 vwCl (bl [Hrow E qr gh, St_c E (gh (Ho_end (Hi_Ho v)).toNatClampNeg) (Hi_Hr v (Ho_end (Hi_Ho v)).toNatClampNeg), Hrest E gh (Hi_Hr v) (Ho_end (Hi_Ho v)).toNatClampNeg, [(o, .inr (3, [.ref qr, .int (Ho_states (Hi_Ho v)), .int (Ho_end (Hi_Ho v))]))], St_c E fa2 v2]) s.heap := hP
      have hD : va_D A (bl [Hrow E qr gh, St_c E (gh (Ho_end (Hi_Ho v)).toNatClampNeg) (Hi_Hr v (Ho_end (Hi_Ho v)).toNatClampNeg), Hrest E gh (Hi_Hr v) (Ho_end (Hi_Ho v)).toNatClampNeg, [(o, .inr (3, [.ref qr, .int (Ho_states (Hi_Ho v)), .int (Ho_end (Hi_Ho v))]))], St_c E fa2 v2]) := hD
      refine lv_aload_n hx hb dX5_keep_19 rfl (lv_at hl 0 rfl) ?_
      refine g_get (T := TX5) (N := 3) hx hb hts in_X5 hown hK hP 3 rfl rfl 0 (by decide) wR rfl rfl dX5_keep_20 ?_
      refine lv_aload_n hx hb dX5_keep_23 rfl (lv_at hl 0 rfl) ?_
      refine g_get (T := TX5) (N := 3) hx hb hts in_X5 hown hK hP 3 rfl rfl 2 (by decide) wE rfl rfl dX5_keep_24 ?_
      refine g_aald hx hb hK hP 0 rfl hin dX5_keep_27 ?_
      refine lv_ifnonnull (tgt := 32) hx hb dX5_keep_28 (by decide) ?_
      refine lv_aload_n hx hb dX5_keep_32 rfl (lv_at hl 0 rfl) ?_
      refine g_get (T := TX5) (N := 3) hx hb hts in_X5 hown hK hP 3 rfl rfl 0 (by decide) wR rfl rfl dX5_keep_33 ?_
      refine lv_aload_n hx hb dX5_keep_36 rfl (lv_at hl 0 rfl) ?_
      refine g_get (T := TX5) (N := 3) hx hb hts in_X5 hown hK hP 3 rfl rfl 2 (by decide) wE rfl rfl dX5_keep_37 ?_
      refine g_aald hx hb hK hP 0 rfl hin dX5_keep_40 ?_
      refine lv_aload_n hx hb dX5_keep_41 rfl (lv_at hl 1 rfl) ?_
      obtain ⟨q, h_q, hF⟩ := bnd_s hF
      refine g_callV (As := [.ref (fa2 0)]) (rest := []) ⟨hx, hb, hml, hown, hts⟩ hK hZ hA (c_X7_become l E (gh (Ho_end (Hi_Ho v)).toNatClampNeg) fa2 (Hi_Hr v (Ho_end (Hi_Ho v)).toNatClampNeg) v2 q h_q) (cwV 1 hts gX5_keep_X7_become rfl rfl rfl (by decide +kernel) ⟨Nat.le_of_ble_eq_true rfl, Nat.le_of_ble_eq_true rfl⟩) hP hD hS [1, 4] [0, 2, 3] rfl rfl rfl rfl rfl rfl hl.1 rfl (Nat.le_of_ble_eq_true rfl) dX5_keep_42 ⟨Nat.le_of_ble_eq_true rfl, Nat.le_of_ble_eq_true rfl⟩ (fun H locs hP hD hS => ?_)
      have hP : va_P E.1 vwCl (bl [St_c E (gh (Ho_end (Hi_Ho v)).toNatClampNeg) q, St_c E fa2 v2, Hrow E qr gh, Hrest E gh (Hi_Hr v) (Ho_end (Hi_Ho v)).toNatClampNeg, [(o, .inr (3, [.ref qr, .int (Ho_states (Hi_Ho v)), .int (Ho_end (Hi_Ho v))]))]]) H := hP
      have hD : va_D A (bl [St_c E (gh (Ho_end (Hi_Ho v)).toNatClampNeg) q, St_c E fa2 v2, Hrow E qr gh, Hrest E gh (Hi_Hr v) (Ho_end (Hi_Ho v)).toNatClampNeg, [(o, .inr (3, [.ref qr, .int (Ho_states (Hi_Ho v)), .int (Ho_end (Hi_Ho v))]))]]) := hD
      refine W.eq (g2 := F0 m 45 ls []) rfl ?_
      refine lv_aload_n hx hb dX5_keep_45 rfl (lv_at hl 0 rfl) ?_
      refine lv_aload_n hx hb dX5_keep_46 rfl (lv_at hl 0 rfl) ?_
      refine g_get (T := TX5) (N := 3) hx hb hts in_X5 hown hK hP 4 rfl rfl 2 (by decide) wE rfl rfl dX5_keep_47 ?_
      refine lv_iconst (v := 1) hx hb dX5_keep_50 (by decide) ?_
      refine lv_iadd hx hb dX5_keep_51 ?_
      refine lv_aload_n hx hb dX5_keep_52 rfl (lv_at hl 0 rfl) ?_
      refine g_get (T := TX5) (N := 3) hx hb hts in_X5 hown hK hP 4 rfl rfl 0 (by decide) wR rfl rfl dX5_keep_53 ?_
      refine g_hlen hx hb hK hP 2 rfl dX5_keep_56 ?_
      have tail : ∀ x : Int32, F_X5_keep_t v q x = some r → W p l e ({ frames := 3, cells := 0, slots := 0, locals := 100 } : Room) s m args below meth cd H locs 0 0 Q (F0 m 70 ls [.int x, .ref o]) := by
        intro x hF
        unfold F_X5_keep_t at hF
        refine g_put (T := TX5) (N := 3) hx hb hts in_X5 tyX5 tyX5_ok nmX5 hown hK hP hD hS 4 rfl rfl 2 (by decide) wE rfl rfl rfl rfl (Nat.le_of_ble_eq_true rfl) dX5_keep_70 (fun H locs hP hD hS => ?_)
        have hP : va_P E.1 vwCl (bl [St_c E (gh (Ho_end (Hi_Ho v)).toNatClampNeg) q, St_c E fa2 v2, Hrow E qr gh, Hrest E gh (Hi_Hr v) (Ho_end (Hi_Ho v)).toNatClampNeg, [(o, .inr (3, [.ref qr, .int (Ho_states (Hi_Ho v)), .int x]))]]) H := hP
        have hD : va_D A (bl [St_c E (gh (Ho_end (Hi_Ho v)).toNatClampNeg) q, St_c E fa2 v2, Hrow E qr gh, Hrest E gh (Hi_Hr v) (Ho_end (Hi_Ho v)).toNatClampNeg, [(o, .inr (3, [.ref qr, .int (Ho_states (Hi_Ho v)), .int x]))]]) := hD
        refine lv_aload_n hx hb dX5_keep_73 rfl (lv_at hl 0 rfl) ?_
        refine g_get (T := TX5) (N := 3) hx hb hts in_X5 hown hK hP 4 rfl rfl 1 (by decide) wS rfl rfl dX5_keep_74 ?_
        refine lv_iconst (v := 5) hx hb dX5_keep_77 (by decide) ?_
        refine f_icmp_ge (tgt := 91) hx hb dX5_keep_78 (by decide) hF (fun hF => ?_) (fun hF => ?_)
        · have hP := bl_P hP [2, 0, 3, 4, 1] (bk_ok rfl)
          have hD := bl_D hD [2, 0, 3, 4, 1] rfl (bk_ok rfl)
          have hP : va_P E.1 vwCl (bl (Hrow E qr gh :: St_c E (gh (Ho_end (Hi_Ho v)).toNatClampNeg) q :: Hrest E gh (Hi_Hr v) (Ho_end (Hi_Ho v)).toNatClampNeg :: [[(o, .inr (3, [.ref qr, .int (Ho_states (Hi_Ho v)), .int x]))], St_c E fa2 v2])) H := hP
          have hD : va_D A (bl (Hrow E qr gh :: St_c E (gh (Ho_end (Hi_Ho v)).toNatClampNeg) q :: Hrest E gh (Hi_Hr v) (Ho_end (Hi_Ho v)).toNatClampNeg :: [[(o, .inr (3, [.ref qr, .int (Ho_states (Hi_Ho v)), .int x]))], St_c E fa2 v2])) := hD
          obtain ⟨hP, hD⟩ := hr_close hj hP hD
          have hP : va_P E.1 vwCl (bl [Hr_c E qr gh (hset (Hi_Hr v) (Ho_end (Hi_Ho v)).toNatClampNeg q), [(o, .inr (3, [.ref qr, .int (Ho_states (Hi_Ho v)), .int x]))], St_c E fa2 v2]) H := hP
          have hD : va_D A (bl [Hr_c E qr gh (hset (Hi_Hr v) (Ho_end (Hi_Ho v)).toNatClampNeg q), [(o, .inr (3, [.ref qr, .int (Ho_states (Hi_Ho v)), .int x]))], St_c E fa2 v2]) := hD
          exact g_vret (rvf := fun _ => none) (W1f := fun z => bl [Hi_c E o qr gh z, St_c E fa2 v2]) hx hb hr hlocks hQ hF rfl hP hD hS [1, 0, 2] rfl rfl dX5_keep_91
        · refine lv_aload_n hx hb dX5_keep_81 rfl (lv_at hl 0 rfl) ?_
          refine lv_dup hx hb dX5_keep_82 rfl ?_
          refine g_get (T := TX5) (N := 3) hx hb hts in_X5 hown hK hP 4 rfl rfl 1 (by decide) wS rfl rfl dX5_keep_83 ?_
          refine lv_iconst (v := 1) hx hb dX5_keep_86 (by decide) ?_
          refine lv_iadd hx hb dX5_keep_87 ?_
          refine g_put (T := TX5) (N := 3) hx hb hts in_X5 tyX5 tyX5_ok nmX5 hown hK hP hD hS 4 rfl rfl 1 (by decide) wS rfl rfl rfl rfl (Nat.le_of_ble_eq_true rfl) dX5_keep_88 (fun H locs hP hD hS => ?_)
          have hP : va_P E.1 vwCl (bl [St_c E (gh (Ho_end (Hi_Ho v)).toNatClampNeg) q, St_c E fa2 v2, Hrow E qr gh, Hrest E gh (Hi_Hr v) (Ho_end (Hi_Ho v)).toNatClampNeg, [(o, .inr (3, [.ref qr, .int ((Ho_states (Hi_Ho v)) + 1), .int x]))]]) H := hP
          have hD : va_D A (bl [St_c E (gh (Ho_end (Hi_Ho v)).toNatClampNeg) q, St_c E fa2 v2, Hrow E qr gh, Hrest E gh (Hi_Hr v) (Ho_end (Hi_Ho v)).toNatClampNeg, [(o, .inr (3, [.ref qr, .int ((Ho_states (Hi_Ho v)) + 1), .int x]))]]) := hD
          have hP := bl_P hP [2, 0, 3, 4, 1] (bk_ok rfl)
          have hD := bl_D hD [2, 0, 3, 4, 1] rfl (bk_ok rfl)
          have hP : va_P E.1 vwCl (bl (Hrow E qr gh :: St_c E (gh (Ho_end (Hi_Ho v)).toNatClampNeg) q :: Hrest E gh (Hi_Hr v) (Ho_end (Hi_Ho v)).toNatClampNeg :: [[(o, .inr (3, [.ref qr, .int ((Ho_states (Hi_Ho v)) + 1), .int x]))], St_c E fa2 v2])) H := hP
          have hD : va_D A (bl (Hrow E qr gh :: St_c E (gh (Ho_end (Hi_Ho v)).toNatClampNeg) q :: Hrest E gh (Hi_Hr v) (Ho_end (Hi_Ho v)).toNatClampNeg :: [[(o, .inr (3, [.ref qr, .int ((Ho_states (Hi_Ho v)) + 1), .int x]))], St_c E fa2 v2])) := hD
          obtain ⟨hP, hD⟩ := hr_close hj hP hD
          have hP : va_P E.1 vwCl (bl [Hr_c E qr gh (hset (Hi_Hr v) (Ho_end (Hi_Ho v)).toNatClampNeg q), [(o, .inr (3, [.ref qr, .int ((Ho_states (Hi_Ho v)) + 1), .int x]))], St_c E fa2 v2]) H := hP
          have hD : va_D A (bl [Hr_c E qr gh (hset (Hi_Hr v) (Ho_end (Hi_Ho v)).toNatClampNeg q), [(o, .inr (3, [.ref qr, .int ((Ho_states (Hi_Ho v)) + 1), .int x]))], St_c E fa2 v2]) := hD
          exact g_vret (rvf := fun _ => none) (W1f := fun z => bl [Hi_c E o qr gh z, St_c E fa2 v2]) hx hb hr hlocks hQ hF rfl hP hD hS [1, 0, 2] rfl rfl dX5_keep_91
      refine f_icmp_ge (tgt := 69) hx hb dX5_keep_57 (by decide) hF (fun hF => ?_) (fun hF => ?_)
      · refine lv_iconst (v := 0) hx hb dX5_keep_69 (by decide) ?_
        exact tail 0 hF
      · refine lv_aload_n hx hb dX5_keep_60 rfl (lv_at hl 0 rfl) ?_
        refine g_get (T := TX5) (N := 3) hx hb hts in_X5 hown hK hP 4 rfl rfl 2 (by decide) wE rfl rfl dX5_keep_61 ?_
        refine lv_iconst (v := 1) hx hb dX5_keep_64 (by decide) ?_
        refine lv_iadd hx hb dX5_keep_65 ?_
        refine lv_goto (tgt := 70) hx hb dX5_keep_66 (by decide) ?_
        exact tail ((Ho_end (Hi_Ho v)) + 1) hF
theorem hset_self (v : HrV) (j : Nat) : hset v j (v j) = v := funext fun i => by
  unfold hset
  split
  · next h => rw [h]
  · rfl
set_option maxHeartbeats 4000000 in
set_option maxRecDepth 100000 in
theorem c_X5_giveBack (l : Launch) (E : GE) (o qr : Nat) (gh : Nat → Nat → Nat) (fa2 : Nat → Nat) (v : HiV) (v2 : StV) (r : HiV × StV) (hF : F_X5_giveBack v v2 = some r) : CT l E yX5_giveBack wsX5_giveBack ({ frames := 3, cells := 0, slots := 0, locals := 100 } : Room) [.ref o, .ref (fa2 0)] (bl [Hi_c E o qr gh v, St_c E fa2 v2]) none (bl [Hi_c E o qr gh r.1, St_c E fa2 r.2]) 0 0 := by
  refine CT.of (cc := cX5_giveBack) (maxL := 3) (ret := none) (by decide) rfl (Nat.le_of_ble_eq_true rfl) ?_
  intro p e s m args below meth cd A Q ls B hQ hP hD hS hl
  obtain ⟨hx, hb, hml, hown, hts, hr, hlocks, hK, hZ, hA, hnm⟩ := B
  have hown : s.vm.findClass RX5 = some m.cls := hown
  have hl : lv_has ls 3 [(0, .ref o), (1, .ref (fa2 0))] := hl
  have wE := hts (.fieldLink RX5 16 "HarborLight$History" "end" "I") (by decide +kernel)
  have wR := hts (.fieldLink RX5 11 "HarborLight$History" "rows" "[LHarborLight$State;") (by decide +kernel)
  have wS := hts (.fieldLink RX5 24 "HarborLight$History" "states" "I") (by decide +kernel)
  have in_X5 : ∀ w ∈ wsX50, w ∈ wsX5_giveBack := by decide +kernel
  have hP : va_P E.1 vwCl (bl [[(o, .inr (3, [.ref qr, .int (Ho_states (Hi_Ho v)), .int (Ho_end (Hi_Ho v))]))], Hr_c E qr gh (Hi_Hr v), St_c E fa2 v2]) s.heap := hP
  have hD : va_D A (bl [[(o, .inr (3, [.ref qr, .int (Ho_states (Hi_Ho v)), .int (Ho_end (Hi_Ho v))]))], Hr_c E qr gh (Hi_Hr v), St_c E fa2 v2]) := hD
  have hPr := bl_P hP [1, 0, 2] (bk_ok rfl)
  have hDr := bl_D hD [1, 0, 2] rfl (bk_ok rfl)
  have hPr : va_P E.1 vwCl (bl (Hr_c E qr gh (Hi_Hr v) :: [[(o, .inr (3, [.ref qr, .int (Ho_states (Hi_Ho v)), .int (Ho_end (Hi_Ho v))]))], St_c E fa2 v2])) s.heap := hPr
  have hDr : va_D A (bl (Hr_c E qr gh (Hi_Hr v) :: [[(o, .inr (3, [.ref qr, .int (Ho_states (Hi_Ho v)), .int (Ho_end (Hi_Ho v))]))], St_c E fa2 v2])) := hDr
  obtain ⟨hP0, hD0⟩ := hr_open (j := 0) (by decide) hPr hDr
  have tail : ∀ x : Int32, F_X5_giveBack_t v v2 x = some r → W p l e ({ frames := 3, cells := 0, slots := 0, locals := 100 } : Room) s m args below meth cd s.heap [] 0 0 Q (F0 m 23 ls [.int x]) := by
    intro x hF
    unfold F_X5_giveBack_t at hF
    refine lv_istore_n (lv' := [(2, .int x), (0, .ref o), (1, .ref (fa2 0))]) hx hb dX5_giveBack_23 rfl hl (by decide) rfl (fun ls hl => ?_)
    refine lv_aload_n hx hb dX5_giveBack_24 rfl (lv_at hl 1 rfl) ?_
    refine g_get (T := TX5) (N := 3) hx hb hts in_X5 hown hK hP 0 rfl rfl 1 (by decide) wS rfl rfl dX5_giveBack_25 ?_
    refine lv_iconst (v := 1) hx hb dX5_giveBack_28 (by decide) ?_
    refine f_icmp_lt (tgt := 54) hx hb dX5_giveBack_29 (by decide) hF (fun hF => ?_) (fun hF => ?_)
    · exact g_vret (rvf := fun _ => none) (W1f := fun z => bl [Hi_c E o qr gh z.1, St_c E fa2 z.2]) hx hb hr hlocks hQ hF rfl hP hD hS [0, 1, 2] rfl rfl dX5_giveBack_54
    · refine lv_iload_n hx hb dX5_giveBack_32 rfl (lv_at hl 0 rfl) ?_
      refine f_if_lt (tgt := 54) hx hb dX5_giveBack_33 (by decide) hF (fun hF => ?_) (fun hF => ?_)
      · exact g_vret (rvf := fun _ => none) (W1f := fun z => bl [Hi_c E o qr gh z.1, St_c E fa2 z.2]) hx hb hr hlocks hQ hF rfl hP hD hS [0, 1, 2] rfl rfl dX5_giveBack_54
      · refine lv_iload_n hx hb dX5_giveBack_36 rfl (lv_at hl 0 rfl) ?_
        refine lv_aload_n hx hb dX5_giveBack_37 rfl (lv_at hl 1 rfl) ?_
        refine g_get (T := TX5) (N := 3) hx hb hts in_X5 hown hK hP 0 rfl rfl 0 (by decide) wR rfl rfl dX5_giveBack_38 ?_
        refine g_hlen hx hb hK hP0 0 rfl dX5_giveBack_41 ?_
        refine f_icmp_ge (tgt := 54) hx hb dX5_giveBack_42 (by decide) hF (fun hF => ?_) (fun hF => ?_)
        · exact g_vret (rvf := fun _ => none) (W1f := fun z => bl [Hi_c E o qr gh z.1, St_c E fa2 z.2]) hx hb hr hlocks hQ hF rfl hP hD hS [0, 1, 2] rfl rfl dX5_giveBack_54
        · obtain ⟨hin, hF⟩ := chk_s hF
          have hj : x.toNatClampNeg < 5 := Nat.not_le.mp fun q => hin (Or.inr q)
          obtain ⟨hP, hD⟩ := hr_open hj hPr hDr
          have hP : va_P E.1 vwCl (bl [Hrow E qr gh, St_c E (gh x.toNatClampNeg) (Hi_Hr v x.toNatClampNeg), Hrest E gh (Hi_Hr v) x.toNatClampNeg, [(o, .inr (3, [.ref qr, .int (Ho_states (Hi_Ho v)), .int (Ho_end (Hi_Ho v))]))], St_c E fa2 v2]) s.heap := hP
          have hD : va_D A (bl [Hrow E qr gh, St_c E (gh x.toNatClampNeg) (Hi_Hr v x.toNatClampNeg), Hrest E gh (Hi_Hr v) x.toNatClampNeg, [(o, .inr (3, [.ref qr, .int (Ho_states (Hi_Ho v)), .int (Ho_end (Hi_Ho v))]))], St_c E fa2 v2]) := hD
          refine lv_aload_n hx hb dX5_giveBack_45 rfl (lv_at hl 1 rfl) ?_
          refine g_get (T := TX5) (N := 3) hx hb hts in_X5 hown hK hP 3 rfl rfl 0 (by decide) wR rfl rfl dX5_giveBack_46 ?_
          refine lv_iload_n hx hb dX5_giveBack_49 rfl (lv_at hl 0 rfl) ?_
          refine g_aald hx hb hK hP 0 rfl hin dX5_giveBack_50 ?_
          refine lv_ifnonnull (tgt := 55) hx hb dX5_giveBack_51 (by decide) ?_
          refine lv_aload_n hx hb dX5_giveBack_55 rfl (lv_at hl 2 rfl) ?_
          refine lv_aload_n hx hb dX5_giveBack_56 rfl (lv_at hl 1 rfl) ?_
          refine g_get (T := TX5) (N := 3) hx hb hts in_X5 hown hK hP 3 rfl rfl 0 (by decide) wR rfl rfl dX5_giveBack_57 ?_
          refine lv_iload_n hx hb dX5_giveBack_60 rfl (lv_at hl 0 rfl) ?_
          refine g_aald hx hb hK hP 0 rfl hin dX5_giveBack_61 ?_
          obtain ⟨q, h_q, hF⟩ := bnd_s hF
          refine g_callV (As := [.ref (gh x.toNatClampNeg 0)]) (rest := []) ⟨hx, hb, hml, hown, hts⟩ hK hZ hA (c_X7_become l E fa2 (gh x.toNatClampNeg) v2 (Hi_Hr v x.toNatClampNeg) q h_q) (cwV 1 hts gX5_giveBack_X7_become rfl rfl rfl (by decide +kernel) ⟨Nat.le_of_ble_eq_true rfl, Nat.le_of_ble_eq_true rfl⟩) hP hD hS [4, 1] [0, 2, 3] rfl rfl rfl rfl rfl rfl hl.1 rfl (Nat.le_of_ble_eq_true rfl) dX5_giveBack_62 ⟨Nat.le_of_ble_eq_true rfl, Nat.le_of_ble_eq_true rfl⟩ (fun H locs hP hD hS => ?_)
          have hP : va_P E.1 vwCl (bl [St_c E fa2 q, St_c E (gh x.toNatClampNeg) (Hi_Hr v x.toNatClampNeg), Hrow E qr gh, Hrest E gh (Hi_Hr v) x.toNatClampNeg, [(o, .inr (3, [.ref qr, .int (Ho_states (Hi_Ho v)), .int (Ho_end (Hi_Ho v))]))]]) H := hP
          have hD : va_D A (bl [St_c E fa2 q, St_c E (gh x.toNatClampNeg) (Hi_Hr v x.toNatClampNeg), Hrow E qr gh, Hrest E gh (Hi_Hr v) x.toNatClampNeg, [(o, .inr (3, [.ref qr, .int (Ho_states (Hi_Ho v)), .int (Ho_end (Hi_Ho v))]))]]) := hD
          refine W.eq (g2 := F0 m 65 ls []) rfl ?_
          refine lv_aload_n hx hb dX5_giveBack_65 rfl (lv_at hl 1 rfl) ?_
          refine lv_iload_n hx hb dX5_giveBack_66 rfl (lv_at hl 0 rfl) ?_
          refine g_put (T := TX5) (N := 3) hx hb hts in_X5 tyX5 tyX5_ok nmX5 hown hK hP hD hS 4 rfl rfl 2 (by decide) wE rfl rfl rfl rfl (Nat.le_of_ble_eq_true rfl) dX5_giveBack_67 (fun H locs hP hD hS => ?_)
          have hP : va_P E.1 vwCl (bl [St_c E fa2 q, St_c E (gh x.toNatClampNeg) (Hi_Hr v x.toNatClampNeg), Hrow E qr gh, Hrest E gh (Hi_Hr v) x.toNatClampNeg, [(o, .inr (3, [.ref qr, .int (Ho_states (Hi_Ho v)), .int x]))]]) H := hP
          have hD : va_D A (bl [St_c E fa2 q, St_c E (gh x.toNatClampNeg) (Hi_Hr v x.toNatClampNeg), Hrow E qr gh, Hrest E gh (Hi_Hr v) x.toNatClampNeg, [(o, .inr (3, [.ref qr, .int (Ho_states (Hi_Ho v)), .int x]))]]) := hD
          refine lv_aload_n hx hb dX5_giveBack_70 rfl (lv_at hl 1 rfl) ?_
          refine lv_dup hx hb dX5_giveBack_71 rfl ?_
          refine g_get (T := TX5) (N := 3) hx hb hts in_X5 hown hK hP 4 rfl rfl 1 (by decide) wS rfl rfl dX5_giveBack_72 ?_
          refine lv_iconst (v := 1) hx hb dX5_giveBack_75 (by decide) ?_
          refine lv_isub hx hb dX5_giveBack_76 ?_
          refine g_put (T := TX5) (N := 3) hx hb hts in_X5 tyX5 tyX5_ok nmX5 hown hK hP hD hS 4 rfl rfl 1 (by decide) wS rfl rfl rfl rfl (Nat.le_of_ble_eq_true rfl) dX5_giveBack_77 (fun H locs hP hD hS => ?_)
          have hP : va_P E.1 vwCl (bl [St_c E fa2 q, St_c E (gh x.toNatClampNeg) (Hi_Hr v x.toNatClampNeg), Hrow E qr gh, Hrest E gh (Hi_Hr v) x.toNatClampNeg, [(o, .inr (3, [.ref qr, .int ((Ho_states (Hi_Ho v)) - 1), .int x]))]]) H := hP
          have hD : va_D A (bl [St_c E fa2 q, St_c E (gh x.toNatClampNeg) (Hi_Hr v x.toNatClampNeg), Hrow E qr gh, Hrest E gh (Hi_Hr v) x.toNatClampNeg, [(o, .inr (3, [.ref qr, .int ((Ho_states (Hi_Ho v)) - 1), .int x]))]]) := hD
          have hP := bl_P hP [2, 1, 3, 4, 0] (bk_ok rfl)
          have hD := bl_D hD [2, 1, 3, 4, 0] rfl (bk_ok rfl)
          have hP : va_P E.1 vwCl (bl (Hrow E qr gh :: St_c E (gh x.toNatClampNeg) (Hi_Hr v x.toNatClampNeg) :: Hrest E gh (Hi_Hr v) x.toNatClampNeg :: [[(o, .inr (3, [.ref qr, .int ((Ho_states (Hi_Ho v)) - 1), .int x]))], St_c E fa2 q])) H := hP
          have hD : va_D A (bl (Hrow E qr gh :: St_c E (gh x.toNatClampNeg) (Hi_Hr v x.toNatClampNeg) :: Hrest E gh (Hi_Hr v) x.toNatClampNeg :: [[(o, .inr (3, [.ref qr, .int ((Ho_states (Hi_Ho v)) - 1), .int x]))], St_c E fa2 q])) := hD
          obtain ⟨hP, hD⟩ := hr_close hj hP hD
          rw [hset_self] at hP hD
          have hP : va_P E.1 vwCl (bl [Hr_c E qr gh (Hi_Hr v), [(o, .inr (3, [.ref qr, .int ((Ho_states (Hi_Ho v)) - 1), .int x]))], St_c E fa2 q]) H := hP
          have hD : va_D A (bl [Hr_c E qr gh (Hi_Hr v), [(o, .inr (3, [.ref qr, .int ((Ho_states (Hi_Ho v)) - 1), .int x]))], St_c E fa2 q]) := hD
          exact g_vret (rvf := fun _ => none) (W1f := fun z => bl [Hi_c E o qr gh z.1, St_c E fa2 z.2]) hx hb hr hlocks hQ hF rfl hP hD hS [1, 0, 2] rfl rfl dX5_giveBack_80
  unfold F_X5_giveBack at hF
  refine lv_aload_n hx hb dX5_giveBack_0 rfl (lv_at hl 0 rfl) ?_
  refine g_get (T := TX5) (N := 3) hx hb hts in_X5 hown hK hP 0 rfl rfl 2 (by decide) wE rfl rfl dX5_giveBack_1 ?_
  refine f_if_le (tgt := 16) hx hb dX5_giveBack_4 (by decide) hF (fun hF => ?_) (fun hF => ?_)
  · refine lv_aload_n hx hb dX5_giveBack_16 rfl (lv_at hl 0 rfl) ?_
    refine g_get (T := TX5) (N := 3) hx hb hts in_X5 hown hK hP 0 rfl rfl 0 (by decide) wR rfl rfl dX5_giveBack_17 ?_
    refine g_hlen hx hb hK hP0 0 rfl dX5_giveBack_20 ?_
    refine lv_iconst (v := 1) hx hb dX5_giveBack_21 (by decide) ?_
    refine lv_isub hx hb dX5_giveBack_22 ?_
    exact tail (5 - 1) hF
  · refine lv_aload_n hx hb dX5_giveBack_7 rfl (lv_at hl 0 rfl) ?_
    refine g_get (T := TX5) (N := 3) hx hb hts in_X5 hown hK hP 0 rfl rfl 2 (by decide) wE rfl rfl dX5_giveBack_8 ?_
    refine lv_iconst (v := 1) hx hb dX5_giveBack_11 (by decide) ?_
    refine lv_isub hx hb dX5_giveBack_12 ?_
    refine lv_goto (tgt := 23) hx hb dX5_giveBack_13 (by decide) ?_
    exact tail ((Ho_end (Hi_Ho v)) - 1) hF
