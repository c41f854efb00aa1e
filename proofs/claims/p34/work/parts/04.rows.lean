/-! ROWS: calls, ends, branches that read the pure picture -/
def bk (bs : List va_W) (is : List Nat) : List va_W := is.map (fun i => bs.getD i [])
def bk_in (bs : List va_W) (is : List Nat) : Bool := va_nd is && is.all (fun i => decide (i < bs.length))
theorem bk_ok {bs : List va_W} {is : List Nat} (h : bk_in bs is = true) : is.map (fun i => bs[i]?) = (bk bs is).map some := by
  have h2 := List.all_eq_true.mp (Bool.and_eq_true_iff.mp h).2
  unfold bk
  rw [List.map_map]
  refine List.map_congr_left fun i hi => ?_
  have hl : i < bs.length := of_decide_eq_true (h2 i hi)
  show bs[i]? = some (bs.getD i [])
  rw [List.getD_eq_getElem?_getD, List.getElem?_eq_getElem hl]
  rfl
theorem bk_l {bs : List va_W} {i j : List Nat} (h : bk_in bs (i ++ j) = true) : bk_in bs i = true := by
  obtain ⟨h1, h2⟩ := Bool.and_eq_true_iff.mp h
  rw [List.all_append] at h2
  refine Bool.and_eq_true_iff.mpr ⟨?_, (Bool.and_eq_true_iff.mp h2).1⟩
  induction i with
  | nil => rfl
  | cons a i ih =>
    simp only [List.cons_append, va_nd, Bool.and_eq_true, decide_eq_true_eq] at h1 ⊢
    refine ⟨fun z => h1.1 (List.mem_append.mpr (Or.inl z)), ih ?_ h1.2 ?_⟩
    · simp only [List.cons_append, bk_in, va_nd, Bool.and_eq_true, List.all_cons] at h ⊢
      exact ⟨h1.2, h.2.2⟩
    · rw [List.all_cons] at h2
      obtain ⟨a1, a2⟩ := Bool.and_eq_true_iff.mp h2
      exact Bool.and_eq_true_iff.mpr ⟨(Bool.and_eq_true_iff.mp a1).2, a2⟩
theorem bk_r {bs : List va_W} {i j : List Nat} (h : bk_in bs (i ++ j) = true) : bk_in bs j = true := by
  obtain ⟨h1, h2⟩ := Bool.and_eq_true_iff.mp h
  rw [List.all_append] at h2
  refine Bool.and_eq_true_iff.mpr ⟨?_, (Bool.and_eq_true_iff.mp h2).2⟩
  clear h h2
  induction i with
  | nil => exact h1
  | cons a i ih =>
    simp only [List.cons_append, va_nd, Bool.and_eq_true] at h1
    exact ih h1.2
/-! the guards of the pure picture -/
section GUARDS
variable {α : Type}
def chk (i : Int32) (n : Nat) (a : Option α) : Option α := if i < 0 ∨ n ≤ i.toNatClampNeg then none else a
def nzd (y : Int32) (a : Option α) : Option α := if y = 0 then none else a
def nn32 (x : UInt32) (a : Option α) : Option α := if x &&& 0x7fffffff ≤ 0x7f800000 then a else none
def nn64 (x : UInt64) (a : Option α) : Option α := if x &&& 0x7fffffffffffffff ≤ 0x7ff0000000000000 then a else none
def zck (v : Int32) (a : Option α) : Option α := if v = 0 ∨ v = 1 then a else none
def cck (v : Int32) (a : Option α) : Option α := if (v.toUInt32 % 65536).toInt32 = v then a else none
def cpk (sp dp n : Int32) (n0 n1 : Nat) (a : Option α) : Option α := if sp < 0 ∨ dp < 0 ∨ n < 0 ∨ n0 < sp.toNatClampNeg + n.toNatClampNeg ∨ n1 < dp.toNatClampNeg + n.toNatClampNeg then none else a
theorem chk_s {i : Int32} {n : Nat} {a : Option α} {r : α} (h : chk i n a = some r) : vp_in i n ∧ a = some r := by
  unfold chk at h
  split at h
  · cases h
  · next q => exact ⟨q, h⟩
theorem nzd_s {y : Int32} {a : Option α} {r : α} (h : nzd y a = some r) : ¬ y = 0 ∧ a = some r := by
  unfold nzd at h
  split at h
  · cases h
  · next q => exact ⟨q, h⟩
theorem nn32_s {x : UInt32} {a : Option α} {r : α} (h : nn32 x a = some r) : vf_n32 x ∧ a = some r := by
  unfold nn32 at h
  split at h
  · next q => exact ⟨q, h⟩
  · cases h
theorem nn64_s {x : UInt64} {a : Option α} {r : α} (h : nn64 x a = some r) : vf_n64 x ∧ a = some r := by
  unfold nn64 at h
  split at h
  · next q => exact ⟨q, h⟩
  · cases h
theorem zck_s {v : Int32} {a : Option α} {r : α} (h : zck v a = some r) : narrow .boolean (.int v) = .int v ∧ a = some r := by
  unfold zck at h
  split at h
  · next q =>
    refine ⟨?_, h⟩
    rcases q with q | q <;> subst q <;> rfl
  · cases h
theorem cck_s {v : Int32} {a : Option α} {r : α} (h : cck v a = some r) : (v.toUInt32 % 65536).toInt32 = v ∧ a = some r := by
  unfold cck at h
  split at h
  · next q => exact ⟨q, h⟩
  · cases h
theorem cpk_s {sp dp n : Int32} {n0 n1 : Nat} {a : Option α} {r : α} (h : cpk sp dp n n0 n1 a = some r) : (¬ sp < 0 ∧ ¬ dp < 0 ∧ ¬ n < 0 ∧ sp.toNatClampNeg + n.toNatClampNeg ≤ n0 ∧ dp.toNatClampNeg + n.toNatClampNeg ≤ n1) ∧ a = some r := by
  unfold cpk at h
  split at h
  · cases h
  · next q =>
    refine ⟨⟨fun z => q (Or.inl z), fun z => q (Or.inr (Or.inl z)), fun z => q (Or.inr (Or.inr (Or.inl z))), ?_, ?_⟩, h⟩
    · exact Nat.not_lt.mp fun z => q (Or.inr (Or.inr (Or.inr (Or.inl z))))
    · exact Nat.not_lt.mp fun z => q (Or.inr (Or.inr (Or.inr (Or.inr z))))
theorem if_t {c : Prop} [Decidable c] {a b : α} {r : α} (h : (if c then a else b) = r) (hc : c) : a = r := by rw [if_pos hc] at h; exact h
theorem if_f {c : Prop} [Decidable c] {a b : α} {r : α} (h : (if c then a else b) = r) (hc : ¬ c) : b = r := by rw [if_neg hc] at h; exact h
theorem bnd_s {β : Type} {x : Option β} {f : β → Option α} {r : α} (h : x.bind f = some r) : ∃ q, x = some q ∧ f q = some r := by
  cases x with
  | none => cases h
  | some q => exact ⟨q, rfl, h⟩
theorem f_ite {c : Prop} [Decidable c] {a b : Option α} {r : α} {G : Prop} (h : (if c then a else b) = some r) (kt : c → a = some r → G) (kf : ¬ c → b = some r → G) : G := if hc : c then kt hc (if_t h hc) else kf hc (if_f h hc)
theorem ne_toInt {x k : Int32} {z : Int} (h : ¬ x = k) (hz : k.toInt = z) : x.toInt ≠ z := fun e => h (Int32.toInt_inj.mp (e.trans hz.symm))
theorem cck_n {v : Int32} (h : (v.toUInt32 % 65536).toInt32 = v) : narrow .char (.int v) = .int v := by
  have e : vp_nar .char v = (v.toUInt32 % 65536).toInt32 := vp_nar_char v
  have e2 : narrow .char (.int v) = .int (v.toUInt32 % 65536).toInt32 := by first | rfl | simp [narrow]
  rw [e2, h]
end GUARDS
section GC
variable {p : Program} {l : Launch} {e : Env} {R : Room} {s : State} {m : MethodId} {args : Array Value} {below : List Frame} {meth : Method} {c : Code} {H : Heap} {locs : List Loc} {cells slots : Nat} {Q : State → Prop}
variable {E : GE} {A : Nat → Prop} {pc : Nat} {ls : Array Slot} {rest st0 : List Value} {bs bc br b1 : List va_W} {rv : Option Value} {mc ms : Nat} {cc : ByteArray}
theorem g_after {a : Array Value} (hr : va_Run p l e R s m args below meth c H locs cells slots mc ms (F0 m pc ls st0) rest (gQ E rv (bl b1) (va_A (bl bc) H.size) a) (va_A (bl bc) H.size)) (hP : va_P E.1 vwCl (bl bs) H) (hD : va_D A (bl bs)) (hS : va_S A s.heap H locs) (hA : ∀ q : Nat, s.heap.size ≤ q → A q) (isC isR : List Nat)
    (hC : isC.map (fun i => bs[i]?) = bc.map some) (hR : isR.map (fun i => bs[i]?) = br.map some) (hn : va_nd (isC ++ isR) = true)
    (kk : ∀ (H1 : Heap) (locs1 : List Loc), va_P E.1 vwCl (bl (b1 ++ br)) H1 → va_D A (bl (b1 ++ br)) → va_S A s.heap H1 locs1 → W p l e R s m args below meth c H1 locs1 (cells + mc) (slots + ms) Q (F0 m (pc + 3) ls (rv.toList ++ rest))) : W p l e R s m args below meth c H locs cells slots Q (F0 m pc ls st0) := by
  intro T hT X
  obtain ⟨v, st₀, t, T', L, h0, X', hL, e1, e2, ⟨⟨hv, hP1, hD1⟩, hz, hk⟩, st⟩ := hr T hT X
  cases hv
  rw [h0] at hz hk
  have hF := bl_free hD hS hA isC hC
  obtain ⟨g1, g2⟩ := bl_join hP hD isC isR hC hR hn hk hF hP1 hD1
  obtain ⟨t2, a1, b2⟩ := kk T'.heap (locs ++ L) (by rw [e1]; exact g1) g2 ⟨Nat.le_trans hS.1 (by rw [e1]; exact hz), fun q h1 h2 => by rw [e1, hk q (Nat.lt_of_lt_of_le h1 hS.1) (fun z => h2 (hF q z))]; exact hS.2.1 q h1 h2, fun q hq => by
      rcases List.mem_append.mp hq with h | h
      · exact hS.2.2 q h
      · exact hF _ (hL q h)⟩ T' rfl X'
  exact ⟨t2, st t2 a1, b2⟩
variable {y : MethodName} {bytes : ByteArray} {maxL nL n index : Nat} {ret : Option FieldType} {ws : List Cond} {rm : Room} {Ts : List Cond} {own C : String} {b : Nat} {As : List Value} {bc' : List va_W}
theorem g_pre (hK : gK E s) (hZ : gZ E A s s.heap) (hA : ∀ q : Nat, s.heap.size ≤ q → A q) (hP : va_P E.1 vwCl (bl bs) H) (hD : va_D A (bl bs)) (hS : va_S A s.heap H locs) (isC : List Nat) (hC : isC.map (fun i => bs[i]?) = bc.map some) (hn : va_nd isC = true) (av : List Value) : ∀ U : State, U.heap = H → s.WarmedH U.vm → gPc E av H.size (bl bc) av.toArray U := fun U hU hW =>
  ⟨rfl, by rw [hU], by rw [hU]; exact bl_P hP isC hC, va_K.moved hW.alike hK, (bl_D hD isC hn hC).weaken (fun _ _ _ _ => trivial), hZ.pass hS (bl_free hD hS hA isC hC) hU hW⟩
theorem g_callV (S : CallFix p m c cc nL s args Ts own) (hK : gK E s) (hZ : gZ E A s s.heap) (hA : ∀ q : Nat, s.heap.size ≤ q → A q) (hM : CT l E y ws rm (.ref b :: As) (bl bc') rv (bl b1) mc ms) (cw : CallW R s args own C index y bytes maxL ret ws rm mc ms n) (hP : va_P E.1 vwCl (bl bs) H) (hD : va_D A (bl bs)) (hS : va_S A s.heap H locs) (isC isR : List Nat) (hn : bk_in bs (isC ++ isR) = true) (hW' : bl (bk bs isC) = bl bc')
    {ci : Nat} {fs : List Value} {r : vw_C} (he : (bl bc')[0]? = some (b, .inr (ci, fs))) (hc : vwCl[ci]? = some r) (hrc : r.1 = C) (hn2 : As.length = n) (hsize : ls.size = nL) (hst : st0 = As.reverse ++ .ref b :: rest) (hwd : (rest.map fun v => v.category).sum ≤ 8) (hdg : decode cc pc = .ok (.invokevirtual index, 3)) (hf : cells + mc ≤ R.cells ∧ slots + ms ≤ R.slots)
    (kk : ∀ (H1 : Heap) (locs1 : List Loc), va_P E.1 vwCl (bl (b1 ++ bk bs isR)) H1 → va_D A (bl (b1 ++ bk bs isR)) → va_S A s.heap H1 locs1 → W p l e R s m args below meth c H1 locs1 (cells + mc) (slots + ms) Q (F0 m (pc + 3) ls (rv.toList ++ rest))) : W p l e R s m args below meth c H locs cells slots Q (F0 m pc ls st0) := by
  subst hrc
  have hM' := hM H.size
  rw [← hW'] at hM' he
  have hC := bk_ok (bk_l hn)
  have hnd := (Bool.and_eq_true_iff.mp hn).1
  exact g_after (va_runV S hM' cw ⟨gPc_blind _ _ _ _, va_recv hK (bl_P hP isC hC) hc he, g_pre hK hZ hA hP hD hS isC hC (Bool.and_eq_true_iff.mp (bk_l hn)).1 _⟩ rfl hn2 hsize hst (lv_room hwd) hdg hf) hP hD hS hA isC isR hC (bk_ok (bk_r hn)) hnd kk
theorem g_callVs {i : Nat} (hi : i < 14) (S : CallFix p m c cc nL s args Ts own) (hK : gK E s) (hZ : gZ E A s s.heap) (hA : ∀ q : Nat, s.heap.size ≤ q → A q) (hM : CT l E y ws rm (.ref (E.2.2.2.2.2.1 i) :: As) (bl bc') rv (bl b1) mc ms) (cw : CallW R s args own "java/lang/String" index y bytes maxL ret ws rm mc ms n) (hP : va_P E.1 vwCl (bl bs) H) (hD : va_D A (bl bs)) (hS : va_S A s.heap H locs) (isC isR : List Nat) (hn : bk_in bs (isC ++ isR) = true) (hW' : bl (bk bs isC) = bl bc')
    (hn2 : As.length = n) (hsize : ls.size = nL) (hst : st0 = As.reverse ++ .ref (E.2.2.2.2.2.1 i) :: rest) (hwd : (rest.map fun v => v.category).sum ≤ 8) (hdg : decode cc pc = .ok (.invokevirtual index, 3)) (hf : cells + mc ≤ R.cells ∧ slots + ms ≤ R.slots)
    (kk : ∀ (H1 : Heap) (locs1 : List Loc), va_P E.1 vwCl (bl (b1 ++ bk bs isR)) H1 → va_D A (bl (b1 ++ bk bs isR)) → va_S A s.heap H1 locs1 → W p l e R s m args below meth c H1 locs1 (cells + mc) (slots + ms) Q (F0 m (pc + 3) ls (rv.toList ++ rest))) : W p l e R s m args below meth c H locs cells slots Q (F0 m pc ls st0) := by
  have hM' := hM H.size
  rw [← hW'] at hM'
  have hC := bk_ok (bk_l hn)
  have hnd := (Bool.and_eq_true_iff.mp hn).1
  exact g_after (va_runV S hM' cw ⟨gPc_blind _ _ _ _, vk_recv hZ.2.2.2.2.1 hi hS, g_pre hK hZ hA hP hD hS isC hC (Bool.and_eq_true_iff.mp (bk_l hn)).1 _⟩ rfl hn2 hsize hst (lv_room hwd) hdg hf) hP hD hS hA isC isR hC (bk_ok (bk_r hn)) hnd kk
theorem g_callS (S : CallFix p m c cc nL s args Ts own) (hK : gK E s) (hZ : gZ E A s s.heap) (hA : ∀ q : Nat, s.heap.size ≤ q → A q) (hM : CT l E y ws rm As (bl bc') rv (bl b1) mc ms) (cw : CallB R s args own index y bytes maxL ret ws rm mc ms n ∧ (Cond.static y).before args s = true) (hP : va_P E.1 vwCl (bl bs) H) (hD : va_D A (bl bs)) (hS : va_S A s.heap H locs) (isC isR : List Nat) (hn : bk_in bs (isC ++ isR) = true) (hW' : bl (bk bs isC) = bl bc')
    (hn2 : As.length = n) (hsize : ls.size = nL) (hst : st0 = As.reverse ++ rest) (hwd : (rest.map fun v => v.category).sum ≤ 8) (hdg : decode cc pc = .ok (.invokestatic index, 3)) (hf : cells + mc ≤ R.cells ∧ slots + ms ≤ R.slots)
    (kk : ∀ (H1 : Heap) (locs1 : List Loc), va_P E.1 vwCl (bl (b1 ++ bk bs isR)) H1 → va_D A (bl (b1 ++ bk bs isR)) → va_S A s.heap H1 locs1 → W p l e R s m args below meth c H1 locs1 (cells + mc) (slots + ms) Q (F0 m (pc + 3) ls (rv.toList ++ rest))) : W p l e R s m args below meth c H locs cells slots Q (F0 m pc ls st0) := by
  have hM' := hM H.size
  rw [← hW'] at hM'
  have hC := bk_ok (bk_l hn)
  have hnd := (Bool.and_eq_true_iff.mp hn).1
  exact g_after (va_runS S hM' cw ⟨gPc_blind _ _ _ _, g_pre hK hZ hA hP hD hS isC hC (Bool.and_eq_true_iff.mp (bk_l hn)).1 _⟩ rfl hn2 hsize hst (lv_room hwd) hdg hf) hP hD hS hA isC isR hC (bk_ok (bk_r hn)) hnd kk
theorem g_callI (S : CallFix p m c cc nL s args Ts own) (hK : gK E s) (hZ : gZ E A s s.heap) (hA : ∀ q : Nat, s.heap.size ≤ q → A q) (hM : CT l E y ws rm (.ref b :: As) (bl bc') rv (bl b1) mc ms) (cw : CallB R s args own index y bytes maxL none ws rm mc ms n ∧ y.name = "<init>" ∧ (Cond.instanceMethod y).before args s = true) (hP : va_P E.1 vwCl (bl bs) H) (hD : va_D A (bl bs)) (hS : va_S A s.heap H locs) (isC isR : List Nat) (hn : bk_in bs (isC ++ isR) = true) (hW' : bl (bk bs isC) = bl bc')
    (hn2 : As.length = n) (hsize : ls.size = nL) (hst : st0 = As.reverse ++ .ref b :: rest) (hwd : (rest.map fun v => v.category).sum ≤ 8) (hdg : decode cc pc = .ok (.invokespecial index, 3)) (hf : cells + mc ≤ R.cells ∧ slots + ms ≤ R.slots)
    (kk : ∀ (H1 : Heap) (locs1 : List Loc), va_P E.1 vwCl (bl (b1 ++ bk bs isR)) H1 → va_D A (bl (b1 ++ bk bs isR)) → va_S A s.heap H1 locs1 → W p l e R s m args below meth c H1 locs1 (cells + mc) (slots + ms) Q (F0 m (pc + 3) ls (rv.toList ++ rest))) : W p l e R s m args below meth c H locs cells slots Q (F0 m pc ls st0) := by
  have hM' := hM H.size
  rw [← hW'] at hM'
  have hC := bk_ok (bk_l hn)
  have hnd := (Bool.and_eq_true_iff.mp hn).1
  exact g_after (va_runI S hM' cw ⟨gPc_blind _ _ _ _, g_pre hK hZ hA hP hD hS isC hC (Bool.and_eq_true_iff.mp (bk_l hn)).1 _⟩ rfl hn2 hsize hst (lv_room hwd) hdg hf) hP hD hS hA isC isR hC (bk_ok (bk_r hn)) hnd kk
/-! ends -/
variable {α : Type} {r r0 : α} {rvf : α → Option Value} {W1f : α → va_W}
theorem g_iret {v : Int32} (hx : p.tables.exec = Jvm.exec) (hb : c.code = cc) (hr : meth.sig.returnType = some .int) (hlocks : meth.locks = false) (hQ : gE below args s E (rvf r) (W1f r) A cells slots = Q) (hF : some r0 = some r) (hv : rvf r0 = some (.int v)) (hP : va_P E.1 vwCl (bl bs) H) (hD : va_D A (bl bs)) (hS : va_S A s.heap H locs) (is : List Nat) (hn : bk_in bs is = true) (hW' : bl (bk bs is) = W1f r0)
    (hdg : decode cc pc = .ok (.ireturn, 1)) : W p l e R s m args below meth c H locs cells slots Q (F0 m pc ls [.int v]) := by
  cases hF
  subst hQ
  have hC := bk_ok hn
  have hP1 := bl_P hP is hC
  have hD1 := bl_D hD is (Bool.and_eq_true_iff.mp hn).1 hC
  rw [hW'] at hP1 hD1
  refine W.iret hx hb hr (fun t ht hW => ⟨⟨?_, by rw [ht]; exact hP1, hD1⟩, hS.F ht⟩) hS.2.2 hdg
  rw [hv]
theorem g_zret {v : Int32} {ty : FieldType} (hx : p.tables.exec = Jvm.exec) (hb : c.code = cc) (hr : meth.sig.returnType = some ty) (hlocks : meth.locks = false) (hty : narrow ty (.int v) = .int v) (hQ : gE below args s E (rvf r) (W1f r) A cells slots = Q) (hF : some r0 = some r) (hv : rvf r0 = some (.int v)) (hP : va_P E.1 vwCl (bl bs) H) (hD : va_D A (bl bs)) (hS : va_S A s.heap H locs) (is : List Nat) (hn : bk_in bs is = true) (hW' : bl (bk bs is) = W1f r0)
    (hdg : decode cc pc = .ok (.ireturn, 1)) : W p l e R s m args below meth c H locs cells slots Q (F0 m pc ls [.int v]) := by
  cases hF
  subst hQ
  have hC := bk_ok hn
  have hP1 := bl_P hP is hC
  have hD1 := bl_D hD is (Bool.and_eq_true_iff.mp hn).1 hC
  rw [hW'] at hP1 hD1
  refine W.zret hx hb hr hty (fun t ht hW => ⟨⟨?_, by rw [ht]; exact hP1, hD1⟩, hS.F ht⟩) hS.2.2 hdg
  rw [hv]
theorem g_lret {v : Int64} (hx : p.tables.exec = Jvm.exec) (hb : c.code = cc) (hr : meth.sig.returnType = some .long) (hlocks : meth.locks = false) (hQ : gE below args s E (rvf r) (W1f r) A cells slots = Q) (hF : some r0 = some r) (hv : rvf r0 = some (.long v)) (hP : va_P E.1 vwCl (bl bs) H) (hD : va_D A (bl bs)) (hS : va_S A s.heap H locs) (is : List Nat) (hn : bk_in bs is = true) (hW' : bl (bk bs is) = W1f r0)
    (hdg : decode cc pc = .ok (.lreturn, 1)) : W p l e R s m args below meth c H locs cells slots Q (F0 m pc ls [.long v]) := by
  cases hF
  subst hQ
  have hC := bk_ok hn
  have hP1 := bl_P hP is hC
  have hD1 := bl_D hD is (Bool.and_eq_true_iff.mp hn).1 hC
  rw [hW'] at hP1 hD1
  refine W.lret hx hb hr (fun t ht hW => ⟨⟨?_, by rw [ht]; exact hP1, hD1⟩, hS.F ht⟩) hS.2.2 hdg
  rw [hv]
theorem g_fret {v : UInt32} (hx : p.tables.exec = Jvm.exec) (hb : c.code = cc) (hr : meth.sig.returnType = some .float) (hlocks : meth.locks = false) (hQ : gE below args s E (rvf r) (W1f r) A cells slots = Q) (hF : some r0 = some r) (hv : rvf r0 = some (.float v)) (hP : va_P E.1 vwCl (bl bs) H) (hD : va_D A (bl bs)) (hS : va_S A s.heap H locs) (is : List Nat) (hn : bk_in bs is = true) (hW' : bl (bk bs is) = W1f r0)
    (hdg : decode cc pc = .ok (.freturn, 1)) : W p l e R s m args below meth c H locs cells slots Q (F0 m pc ls [.float v]) := by
  cases hF
  subst hQ
  have hC := bk_ok hn
  have hP1 := bl_P hP is hC
  have hD1 := bl_D hD is (Bool.and_eq_true_iff.mp hn).1 hC
  rw [hW'] at hP1 hD1
  refine W.fret hx hb hr (fun t ht hW => ⟨⟨?_, by rw [ht]; exact hP1, hD1⟩, hS.F ht⟩) hS.2.2 hdg
  rw [hv]
theorem g_dret {v : UInt64} (hx : p.tables.exec = Jvm.exec) (hb : c.code = cc) (hr : meth.sig.returnType = some .double) (hlocks : meth.locks = false) (hQ : gE below args s E (rvf r) (W1f r) A cells slots = Q) (hF : some r0 = some r) (hv : rvf r0 = some (.double v)) (hP : va_P E.1 vwCl (bl bs) H) (hD : va_D A (bl bs)) (hS : va_S A s.heap H locs) (is : List Nat) (hn : bk_in bs is = true) (hW' : bl (bk bs is) = W1f r0)
    (hdg : decode cc pc = .ok (.dreturn, 1)) : W p l e R s m args below meth c H locs cells slots Q (F0 m pc ls [.double v]) := by
  cases hF
  subst hQ
  have hC := bk_ok hn
  have hP1 := bl_P hP is hC
  have hD1 := bl_D hD is (Bool.and_eq_true_iff.mp hn).1 hC
  rw [hW'] at hP1 hD1
  refine W.dret hx hb hr (fun t ht hW => ⟨⟨?_, by rw [ht]; exact hP1, hD1⟩, hS.F ht⟩) hS.2.2 hdg
  rw [hv]
theorem g_vret (hx : p.tables.exec = Jvm.exec) (hb : c.code = cc) (hr : meth.sig.returnType = none) (hlocks : meth.locks = false) (hQ : gE below args s E (rvf r) (W1f r) A cells slots = Q) (hF : some r0 = some r) (hv : rvf r0 = none) (hP : va_P E.1 vwCl (bl bs) H) (hD : va_D A (bl bs)) (hS : va_S A s.heap H locs) (is : List Nat) (hn : bk_in bs is = true) (hW' : bl (bk bs is) = W1f r0)
    (hdg : decode cc pc = .ok (.return_, 1)) : W p l e R s m args below meth c H locs cells slots Q (F0 m pc ls []) := by
  cases hF
  subst hQ
  have hC := bk_ok hn
  have hP1 := bl_P hP is hC
  have hD1 := bl_D hD is (Bool.and_eq_true_iff.mp hn).1 hC
  rw [hW'] at hP1 hD1
  refine W.vret hx hb hr (fun t ht hW => ⟨⟨?_, by rw [ht]; exact hP1, hD1⟩, hS.F ht⟩) hS.2.2 hdg
  rw [hv]
end GC
section GR
variable {p : Program} {l : Launch} {e : Env} {R : Room} {s : State} {m : MethodId} {args : Array Value} {below : List Frame} {meth : Method} {c : Code} {H : Heap} {locs : List Loc} {cells slots : Nat} {Q : State → Prop}
variable {E : GE} {A : Nat → Prop} {pc : Nat} {ls : Array Slot} {rest : List Value} {bs : List va_W} {cc : ByteArray} {α : Type} {B B1 B2 : Option α} {r : α}
/-! branches -/
theorem f_if_eq (hx : p.tables.exec = Jvm.exec) (hb : c.code = cc) {x : Int32} {off : Int} {tgt : Nat} (hdg : decode cc pc = .ok (.ifCond .eq off, 3)) (ht : (pc : Int) + off = (tgt : Int)) (hF : (if x = 0 then B1 else B2) = some r) (kt : B1 = some r → W p l e R s m args below meth c H locs cells slots Q (F0 m tgt ls rest)) (kf : B2 = some r → W p l e R s m args below meth c H locs cells slots Q (F0 m (pc + 3) ls rest)) : W p l e R s m args below meth c H locs cells slots Q (F0 m pc ls (.int x :: rest)) := lv_if_eq hx hb hdg ht (fun q => kt (if_t hF q)) (fun q => kf (if_f hF q))
theorem f_if_ne (hx : p.tables.exec = Jvm.exec) (hb : c.code = cc) {x : Int32} {off : Int} {tgt : Nat} (hdg : decode cc pc = .ok (.ifCond .ne off, 3)) (ht : (pc : Int) + off = (tgt : Int)) (hF : (if x = 0 then B2 else B1) = some r) (kt : B1 = some r → W p l e R s m args below meth c H locs cells slots Q (F0 m tgt ls rest)) (kf : B2 = some r → W p l e R s m args below meth c H locs cells slots Q (F0 m (pc + 3) ls rest)) : W p l e R s m args below meth c H locs cells slots Q (F0 m pc ls (.int x :: rest)) := lv_if_ne hx hb hdg ht (fun q => kt (if_f hF q)) (fun q => kf (if_t hF q))
theorem f_if_lt (hx : p.tables.exec = Jvm.exec) (hb : c.code = cc) {x : Int32} {off : Int} {tgt : Nat} (hdg : decode cc pc = .ok (.ifCond .lt off, 3)) (ht : (pc : Int) + off = (tgt : Int)) (hF : (if x < 0 then B1 else B2) = some r) (kt : B1 = some r → W p l e R s m args below meth c H locs cells slots Q (F0 m tgt ls rest)) (kf : B2 = some r → W p l e R s m args below meth c H locs cells slots Q (F0 m (pc + 3) ls rest)) : W p l e R s m args below meth c H locs cells slots Q (F0 m pc ls (.int x :: rest)) := lv_if_lt hx hb hdg ht (fun q => kt (if_t hF q)) (fun q => kf (if_f hF q))
theorem f_if_ge (hx : p.tables.exec = Jvm.exec) (hb : c.code = cc) {x : Int32} {off : Int} {tgt : Nat} (hdg : decode cc pc = .ok (.ifCond .ge off, 3)) (ht : (pc : Int) + off = (tgt : Int)) (hF : (if 0 ≤ x then B1 else B2) = some r) (kt : B1 = some r → W p l e R s m args below meth c H locs cells slots Q (F0 m tgt ls rest)) (kf : B2 = some r → W p l e R s m args below meth c H locs cells slots Q (F0 m (pc + 3) ls rest)) : W p l e R s m args below meth c H locs cells slots Q (F0 m pc ls (.int x :: rest)) := lv_if_ge hx hb hdg ht (fun q => kt (if_t hF q)) (fun q => kf (if_f hF q))
theorem f_if_gt (hx : p.tables.exec = Jvm.exec) (hb : c.code = cc) {x : Int32} {off : Int} {tgt : Nat} (hdg : decode cc pc = .ok (.ifCond .gt off, 3)) (ht : (pc : Int) + off = (tgt : Int)) (hF : (if 0 < x then B1 else B2) = some r) (kt : B1 = some r → W p l e R s m args below meth c H locs cells slots Q (F0 m tgt ls rest)) (kf : B2 = some r → W p l e R s m args below meth c H locs cells slots Q (F0 m (pc + 3) ls rest)) : W p l e R s m args below meth c H locs cells slots Q (F0 m pc ls (.int x :: rest)) := lv_if_gt hx hb hdg ht (fun q => kt (if_t hF q)) (fun q => kf (if_f hF q))
theorem f_if_le (hx : p.tables.exec = Jvm.exec) (hb : c.code = cc) {x : Int32} {off : Int} {tgt : Nat} (hdg : decode cc pc = .ok (.ifCond .le off, 3)) (ht : (pc : Int) + off = (tgt : Int)) (hF : (if x ≤ 0 then B1 else B2) = some r) (kt : B1 = some r → W p l e R s m args below meth c H locs cells slots Q (F0 m tgt ls rest)) (kf : B2 = some r → W p l e R s m args below meth c H locs cells slots Q (F0 m (pc + 3) ls rest)) : W p l e R s m args below meth c H locs cells slots Q (F0 m pc ls (.int x :: rest)) := lv_if_le hx hb hdg ht (fun q => kt (if_t hF q)) (fun q => kf (if_f hF q))
theorem f_icmp_eq (hx : p.tables.exec = Jvm.exec) (hb : c.code = cc) {x y : Int32} {off : Int} {tgt : Nat} (hdg : decode cc pc = .ok (.if_icmp .eq off, 3)) (ht : (pc : Int) + off = (tgt : Int)) (hF : (if x = y then B1 else B2) = some r) (kt : B1 = some r → W p l e R s m args below meth c H locs cells slots Q (F0 m tgt ls rest)) (kf : B2 = some r → W p l e R s m args below meth c H locs cells slots Q (F0 m (pc + 3) ls rest)) : W p l e R s m args below meth c H locs cells slots Q (F0 m pc ls (.int y :: .int x :: rest)) := lv_icmp_eq hx hb hdg ht (fun q => kt (if_t hF q)) (fun q => kf (if_f hF q))
theorem f_icmp_ne (hx : p.tables.exec = Jvm.exec) (hb : c.code = cc) {x y : Int32} {off : Int} {tgt : Nat} (hdg : decode cc pc = .ok (.if_icmp .ne off, 3)) (ht : (pc : Int) + off = (tgt : Int)) (hF : (if x = y then B2 else B1) = some r) (kt : B1 = some r → W p l e R s m args below meth c H locs cells slots Q (F0 m tgt ls rest)) (kf : B2 = some r → W p l e R s m args below meth c H locs cells slots Q (F0 m (pc + 3) ls rest)) : W p l e R s m args below meth c H locs cells slots Q (F0 m pc ls (.int y :: .int x :: rest)) := lv_icmp_ne hx hb hdg ht (fun q => kt (if_f hF q)) (fun q => kf (if_t hF q))
theorem f_icmp_lt (hx : p.tables.exec = Jvm.exec) (hb : c.code = cc) {x y : Int32} {off : Int} {tgt : Nat} (hdg : decode cc pc = .ok (.if_icmp .lt off, 3)) (ht : (pc : Int) + off = (tgt : Int)) (hF : (if x < y then B1 else B2) = some r) (kt : B1 = some r → W p l e R s m args below meth c H locs cells slots Q (F0 m tgt ls rest)) (kf : B2 = some r → W p l e R s m args below meth c H locs cells slots Q (F0 m (pc + 3) ls rest)) : W p l e R s m args below meth c H locs cells slots Q (F0 m pc ls (.int y :: .int x :: rest)) := lv_icmp_lt hx hb hdg ht (fun q => kt (if_t hF q)) (fun q => kf (if_f hF q))
theorem f_icmp_ge (hx : p.tables.exec = Jvm.exec) (hb : c.code = cc) {x y : Int32} {off : Int} {tgt : Nat} (hdg : decode cc pc = .ok (.if_icmp .ge off, 3)) (ht : (pc : Int) + off = (tgt : Int)) (hF : (if y ≤ x then B1 else B2) = some r) (kt : B1 = some r → W p l e R s m args below meth c H locs cells slots Q (F0 m tgt ls rest)) (kf : B2 = some r → W p l e R s m args below meth c H locs cells slots Q (F0 m (pc + 3) ls rest)) : W p l e R s m args below meth c H locs cells slots Q (F0 m pc ls (.int y :: .int x :: rest)) := lv_icmp_ge hx hb hdg ht (fun q => kt (if_t hF q)) (fun q => kf (if_f hF q))
theorem f_icmp_gt (hx : p.tables.exec = Jvm.exec) (hb : c.code = cc) {x y : Int32} {off : Int} {tgt : Nat} (hdg : decode cc pc = .ok (.if_icmp .gt off, 3)) (ht : (pc : Int) + off = (tgt : Int)) (hF : (if y < x then B1 else B2) = some r) (kt : B1 = some r → W p l e R s m args below meth c H locs cells slots Q (F0 m tgt ls rest)) (kf : B2 = some r → W p l e R s m args below meth c H locs cells slots Q (F0 m (pc + 3) ls rest)) : W p l e R s m args below meth c H locs cells slots Q (F0 m pc ls (.int y :: .int x :: rest)) := lv_icmp_gt hx hb hdg ht (fun q => kt (if_t hF q)) (fun q => kf (if_f hF q))
theorem f_icmp_le (hx : p.tables.exec = Jvm.exec) (hb : c.code = cc) {x y : Int32} {off : Int} {tgt : Nat} (hdg : decode cc pc = .ok (.if_icmp .le off, 3)) (ht : (pc : Int) + off = (tgt : Int)) (hF : (if x ≤ y then B1 else B2) = some r) (kt : B1 = some r → W p l e R s m args below meth c H locs cells slots Q (F0 m tgt ls rest)) (kf : B2 = some r → W p l e R s m args below meth c H locs cells slots Q (F0 m (pc + 3) ls rest)) : W p l e R s m args below meth c H locs cells slots Q (F0 m pc ls (.int y :: .int x :: rest)) := lv_icmp_le hx hb hdg ht (fun q => kt (if_t hF q)) (fun q => kf (if_f hF q))
/-! fields and arrays -/
theorem g_get (hx : p.tables.exec = Jvm.exec) (hb : c.code = cc) {own ref C : String} {T : u_T} {N ci index : Nat} {Ts : List Cond} (hts : ∀ w ∈ Ts, w.before args s = true) (hin : ∀ w ∈ u_ws C T N, w ∈ Ts) (hown : s.vm.findClass own = some m.cls) (hK : gK E s) (hP : va_P E.1 vwCl (bl bs) H) (q0 : Nat) {a : Nat} {fs : List Value} (he : bs[q0]? = some [(a, .inr (ci, fs))]) (hc : vwCl[ci]? = some (C, T, N)) (k : Nat) (hk : k < N) (hlink : (Cond.fieldLink own index ref (T k).2.1 (T k).2.2.1).before args s = true)
    (hsame : (T k).1 = ref) {v : Value} (hv : fs[k]? = some v) (hdg : decode cc pc = .ok (.getfield index, 3)) (kk : W p l e R s m args below meth c H locs cells slots Q (F0 m (pc + 3) ls (v :: rest))) : W p l e R s m args below meth c H locs cells slots Q (F0 m pc ls (.ref a :: rest)) := by
  obtain ⟨k0, h1, -⟩ := bl_get he
  exact va_get hx hb hts hin hown hK hP k0 h1 hc k hk hlink (fun x h => by rw [← hsame]; exact h) hv hdg kk
theorem g_put (hx : p.tables.exec = Jvm.exec) (hb : c.code = cc) {own ref C : String} {T : u_T} {N ci index : Nat} {Ts : List Cond} (hts : ∀ w ∈ Ts, w.before args s = true) (hin : ∀ w ∈ u_ws C T N, w ∈ Ts) (ty0 : Nat → FieldType) (hty : ∀ k, k < N → parseFieldDescriptor (T k).2.2.1 = some (ty0 k)) (hnm : ∀ a, a < N → ∀ b, b < N → a ≠ b → (T a).2.1 ≠ (T b).2.1) (hown : s.vm.findClass own = some m.cls) (hK : gK E s) (hP : va_P E.1 vwCl (bl bs) H) (hD : va_D A (bl bs)) (hS : va_S A s.heap H locs) (q0 : Nat) {a : Nat} {fs : List Value} (he : bs[q0]? = some [(a, .inr (ci, fs))]) (hc : vwCl[ci]? = some (C, T, N)) (k : Nat) (hk : k < N) (hlink : (Cond.fieldLink own index ref (T k).2.1 (T k).2.2.1).before args s = true)
    (hsame : (T k).1 = ref) (hfin : (T k).2.2.2 = false) {v : Value} (hn : narrow (ty0 k) v = v) (hfit : fits (ty0 k) v = true) (hl : k < fs.length) (hdg : decode cc pc = .ok (.putfield index, 3)) (kk : ∀ (H1 : Heap) (locs1 : List Loc), va_P E.1 vwCl (bl (bs.set q0 [(a, .inr (ci, fs.set k v))])) H1 → va_D A (bl (bs.set q0 [(a, .inr (ci, fs.set k v))])) → va_S A s.heap H1 locs1 → W p l e R s m args below meth c H1 locs1 cells slots Q (F0 m (pc + 3) ls rest)) : W p l e R s m args below meth c H locs cells slots Q (F0 m pc ls (v :: .ref a :: rest)) := by
  obtain ⟨k0, h1, h2⟩ := bl_get he
  exact va_put hx hb hts hin ty0 hty hnm hown hK hP hD hS k0 h1 hc k hk hlink (fun x h => by rw [← hsame]; exact h) hfin (hty k hk) hn hfit hl hdg (fun H1 locs1 a1 a2 a3 => kk H1 locs1 (by rw [← h2]; exact a1) (by rw [← h2]; exact a2) a3)
theorem g_putF (hx : p.tables.exec = Jvm.exec) (hb : c.code = cc) {own C : String} {T : u_T} {N ci index : Nat} {Ts : List Cond} (hts : ∀ w ∈ Ts, w.before args s = true) (hin : ∀ w ∈ u_ws C T N, w ∈ Ts) (ty0 : Nat → FieldType) (hty : ∀ k, k < N → parseFieldDescriptor (T k).2.2.1 = some (ty0 k)) (hnm : ∀ a, a < N → ∀ b, b < N → a ≠ b → (T a).2.1 ≠ (T b).2.1) (hown : s.vm.findClass own = some m.cls) (hK : gK E s) (hP : va_P E.1 vwCl (bl bs) H) (hD : va_D A (bl bs)) (hS : va_S A s.heap H locs) (q0 : Nat) {a : Nat} {fs : List Value} (he : bs[q0]? = some [(a, .inr (ci, fs))]) (hc : vwCl[ci]? = some (C, T, N)) (k : Nat) (hk : k < N) (hlink : (Cond.fieldLink own index own (T k).2.1 (T k).2.2.1).before args s = true)
    (hsame : (T k).1 = own) (hfin : (T k).2.2.2 = true) (hin2 : meth.name = "<init>") {v : Value} (hn : narrow (ty0 k) v = v) (hfit : fits (ty0 k) v = true) (hl : k < fs.length) (hdg : decode cc pc = .ok (.putfield index, 3)) (kk : ∀ (H1 : Heap) (locs1 : List Loc), va_P E.1 vwCl (bl (bs.set q0 [(a, .inr (ci, fs.set k v))])) H1 → va_D A (bl (bs.set q0 [(a, .inr (ci, fs.set k v))])) → va_S A s.heap H1 locs1 → W p l e R s m args below meth c H1 locs1 cells slots Q (F0 m (pc + 3) ls rest)) : W p l e R s m args below meth c H locs cells slots Q (F0 m pc ls (v :: .ref a :: rest)) := by
  obtain ⟨k0, h1, h2⟩ := bl_get he
  exact va_putF hx hb hts hin ty0 hty hnm hown hK hP hD hS k0 h1 hc k hk hlink (fun x h => by rw [← hsame]; exact h) hfin hin2 hsame (hty k hk) hn hfit hl hdg (fun H1 locs1 a1 a2 a3 => kk H1 locs1 (by rw [← h2]; exact a1) (by rw [← h2]; exact a2) a3)
theorem f_iald (hx : p.tables.exec = Jvm.exec) (hb : c.code = cc) (hK : gK E s) (hP : va_P E.1 vwCl (bl bs) H) (q0 : Nat) {a n : Nat} {f : Nat → Int32} (ha : bs[q0]? = some [(a, .inl (E.2.1, n, .inl f))]) {i : Int32} (hF : chk i n B = some r) (hdg : decode cc pc = .ok (.iaload, 1)) (kk : B = some r → W p l e R s m args below meth c H locs cells slots Q (F0 m (pc + 1) ls (.int (f i.toNatClampNeg) :: rest))) : W p l e R s m args below meth c H locs cells slots Q (F0 m pc ls (.int i :: .ref a :: rest)) := by
  obtain ⟨k0, h1, -⟩ := bl_get ha
  obtain ⟨h3, h4⟩ := chk_s hF
  exact va_iald hx hb hK hP k0 0 h1 rfl h3 hdg (kk h4)
theorem f_cald (hx : p.tables.exec = Jvm.exec) (hb : c.code = cc) (hK : gK E s) (hP : va_P E.1 vwCl (bl bs) H) (q0 : Nat) {a n : Nat} {f : Nat → Int32} (ha : bs[q0]? = some [(a, .inl (E.2.2.1, n, .inl f))]) {i : Int32} (hF : chk i n B = some r) (hdg : decode cc pc = .ok (.caload, 1)) (kk : B = some r → W p l e R s m args below meth c H locs cells slots Q (F0 m (pc + 1) ls (.int (f i.toNatClampNeg) :: rest))) : W p l e R s m args below meth c H locs cells slots Q (F0 m pc ls (.int i :: .ref a :: rest)) := by
  obtain ⟨k0, h1, -⟩ := bl_get ha
  obtain ⟨h3, h4⟩ := chk_s hF
  exact va_cald hx hb hK hP k0 1 h1 rfl h3 hdg (kk h4)
theorem f_aald (hx : p.tables.exec = Jvm.exec) (hb : c.code = cc) (hK : gK E s) (hP : va_P E.1 vwCl (bl bs) H) (q0 : Nat) {a n : Nat} {f : Nat → Option Nat} (ha : bs[q0]? = some [(a, .inl (E.2.2.2.1, n, .inr (.inr (.inr (.inr f)))))]) {i : Int32} (hF : chk i n B = some r) (hdg : decode cc pc = .ok (.aaload, 1)) (kk : B = some r → W p l e R s m args below meth c H locs cells slots Q (F0 m (pc + 1) ls (va_rf (f i.toNatClampNeg) :: rest))) : W p l e R s m args below meth c H locs cells slots Q (F0 m pc ls (.int i :: .ref a :: rest)) := by
  obtain ⟨k0, h1, -⟩ := bl_get ha
  obtain ⟨h3, h4⟩ := chk_s hF
  exact va_aldq hx hb hK hP k0 2 h1 rfl h3 hdg (kk h4)
theorem f_iast (hx : p.tables.exec = Jvm.exec) (hb : c.code = cc) (hK : gK E s) (hP : va_P E.1 vwCl (bl bs) H) (hD : va_D A (bl bs)) (hS : va_S A s.heap H locs) (q0 : Nat) {a n : Nat} {f : Nat → Int32} (ha : bs[q0]? = some [(a, .inl (E.2.1, n, .inl f))]) {i x : Int32} (hF : chk i n B = some r) (hdg : decode cc pc = .ok (.iastore, 1)) (kk : B = some r → ∀ (H1 : Heap) (locs1 : List Loc), va_P E.1 vwCl (bl (bs.set q0 [(a, .inl (E.2.1, n, .inl (upd f i.toNatClampNeg x)))])) H1 → va_D A (bl (bs.set q0 [(a, .inl (E.2.1, n, .inl (upd f i.toNatClampNeg x)))])) → va_S A s.heap H1 locs1 → W p l e R s m args below meth c H1 locs1 cells slots Q (F0 m (pc + 1) ls rest)) : W p l e R s m args below meth c H locs cells slots Q (F0 m pc ls (.int x :: .int i :: .ref a :: rest)) := by
  obtain ⟨k0, h1, h2⟩ := bl_get ha
  obtain ⟨h3, h4⟩ := chk_s hF
  exact va_iast hx hb hK hP hD hS k0 0 h1 rfl h3 hdg (fun H1 locs1 a1 a2 a3 => kk h4 H1 locs1 (by rw [← h2]; exact a1) (by rw [← h2]; exact a2) a3)
theorem f_cast (hx : p.tables.exec = Jvm.exec) (hb : c.code = cc) (hK : gK E s) (hP : va_P E.1 vwCl (bl bs) H) (hD : va_D A (bl bs)) (hS : va_S A s.heap H locs) (q0 : Nat) {a n : Nat} {f : Nat → Int32} (ha : bs[q0]? = some [(a, .inl (E.2.2.1, n, .inl f))]) {i x : Int32} (hF : chk i n B = some r) (hdg : decode cc pc = .ok (.castore, 1)) (kk : B = some r → ∀ (H1 : Heap) (locs1 : List Loc), va_P E.1 vwCl (bl (bs.set q0 [(a, .inl (E.2.2.1, n, .inl (upd f i.toNatClampNeg (x.toUInt32 % 65536).toInt32)))])) H1 → va_D A (bl (bs.set q0 [(a, .inl (E.2.2.1, n, .inl (upd f i.toNatClampNeg (x.toUInt32 % 65536).toInt32)))])) → va_S A s.heap H1 locs1 → W p l e R s m args below meth c H1 locs1 cells slots Q (F0 m (pc + 1) ls rest)) : W p l e R s m args below meth c H locs cells slots Q (F0 m pc ls (.int x :: .int i :: .ref a :: rest)) := by
  obtain ⟨k0, h1, h2⟩ := bl_get ha
  obtain ⟨h3, h4⟩ := chk_s hF
  have e : vp_nar .char x = (x.toUInt32 % 65536).toInt32 := vp_nar_char x
  exact va_cast hx hb hK hP hD hS k0 1 h1 rfl h3 hdg (fun H1 locs1 a1 a2 a3 => kk h4 H1 locs1 (by rw [← h2, ← e]; exact a1) (by rw [← h2, ← e]; exact a2) a3)
theorem g_alen (hx : p.tables.exec = Jvm.exec) (hb : c.code = cc) (hK : gK E s) (hP : va_P E.1 vwCl (bl bs) H) (q0 t0 : Nat) {a : Nat} {cA : ClassId} {x : vp_A} (ha : bs[q0]? = some [(a, .inl (cA, x))]) {ty : FieldType} (ht : (gT E)[t0]? = some (cA, ty)) {v : Int32} (hv : Int32.ofNat x.1 = v) (hdg : decode cc pc = .ok (.arraylength, 1)) (kk : W p l e R s m args below meth c H locs cells slots Q (F0 m (pc + 1) ls (.int v :: rest))) : W p l e R s m args below meth c H locs cells slots Q (F0 m pc ls (.ref a :: rest)) := by
  obtain ⟨k0, h1, -⟩ := bl_get ha
  exact va_alen hx hb hK hP k0 t0 h1 ht hv hdg kk
theorem g_getN (hx : p.tables.exec = Jvm.exec) (hb : c.code = cc) {own ref C host : String} {T : u_T} {N ci index : Nat} {Ts : List Cond} (hts : ∀ w ∈ Ts, w.before args s = true) (hin : ∀ w ∈ u_ws C T N, w ∈ Ts) (hown : s.vm.findClass own = some m.cls) (hK : gK E s) (hP : va_P E.1 vwCl (bl bs) H) (q0 : Nat) {a : Nat} {fs : List Value} (he : bs[q0]? = some [(a, .inr (ci, fs))]) (hc : vwCl[ci]? = some (C, T, N)) (k : Nat) (hk : k < N) (hlink : (Cond.fieldLinkNest own index ref (T k).2.1 (T k).2.2.1 host).before args s = true)
    (hsame : (T k).1 = ref) {v : Value} (hv : fs[k]? = some v) (hdg : decode cc pc = .ok (.getfield index, 3)) (kk : W p l e R s m args below meth c H locs cells slots Q (F0 m (pc + 3) ls (v :: rest))) : W p l e R s m args below meth c H locs cells slots Q (F0 m pc ls (.ref a :: rest)) := by
  obtain ⟨k0, h1, -⟩ := bl_get he
  exact va_getN hx hb hts hin hown hK hP k0 h1 hc k hk hlink (fun x h => by rw [← hsame]; exact h) hv hdg kk
theorem g_putN (hx : p.tables.exec = Jvm.exec) (hb : c.code = cc) {own ref C host : String} {T : u_T} {N ci index : Nat} {Ts : List Cond} (hts : ∀ w ∈ Ts, w.before args s = true) (hin : ∀ w ∈ u_ws C T N, w ∈ Ts) (ty0 : Nat → FieldType) (hty : ∀ k, k < N → parseFieldDescriptor (T k).2.2.1 = some (ty0 k)) (hnm : ∀ a, a < N → ∀ b, b < N → a ≠ b → (T a).2.1 ≠ (T b).2.1) (hown : s.vm.findClass own = some m.cls) (hK : gK E s) (hP : va_P E.1 vwCl (bl bs) H) (hD : va_D A (bl bs)) (hS : va_S A s.heap H locs) (q0 : Nat) {a : Nat} {fs : List Value} (he : bs[q0]? = some [(a, .inr (ci, fs))]) (hc : vwCl[ci]? = some (C, T, N)) (k : Nat) (hk : k < N) (hlink : (Cond.fieldLinkNest own index ref (T k).2.1 (T k).2.2.1 host).before args s = true)
    (hsame : (T k).1 = ref) (hfin : (T k).2.2.2 = false) {v : Value} (hn : narrow (ty0 k) v = v) (hfit : fits (ty0 k) v = true) (hl : k < fs.length) (hdg : decode cc pc = .ok (.putfield index, 3)) (kk : ∀ (H1 : Heap) (locs1 : List Loc), va_P E.1 vwCl (bl (bs.set q0 [(a, .inr (ci, fs.set k v))])) H1 → va_D A (bl (bs.set q0 [(a, .inr (ci, fs.set k v))])) → va_S A s.heap H1 locs1 → W p l e R s m args below meth c H1 locs1 cells slots Q (F0 m (pc + 3) ls rest)) : W p l e R s m args below meth c H locs cells slots Q (F0 m pc ls (v :: .ref a :: rest)) := by
  obtain ⟨k0, h1, h2⟩ := bl_get he
  exact va_putN hx hb hts hin ty0 hty hnm hown hK hP hD hS k0 h1 hc k hk hlink (fun x h => by rw [← hsame]; exact h) hfin (hty k hk) hn hfit hl hdg (fun H1 locs1 a1 a2 a3 => kk H1 locs1 (by rw [← h2]; exact a1) (by rw [← h2]; exact a2) a3)
theorem f_tald (hx : p.tables.exec = Jvm.exec) (hb : c.code = cc) (hZ : gZ E A s s.heap) (hS : va_S A s.heap H locs) {i : Int32} (hF : chk i 17 B = some r) (hdg : decode cc pc = .ok (.iaload, 1)) (kk : B = some r → W p l e R s m args below meth c H locs cells slots Q (F0 m (pc + 1) ls (.int (gSin i.toNatClampNeg) :: rest))) : W p l e R s m args below meth c H locs cells slots Q (F0 m pc ls (.int i :: .ref E.2.2.2.2.1 :: rest)) :=
  va_ti hx hb hZ.2.1 hS (chk_s hF).1 rfl hdg (kk (chk_s hF).2)
theorem f_copy (hx : p.tables.exec = Jvm.exec) (hb : c.code = cc) (hml : c.maxLocals = ls.size) {own : String} {index : Nat} (hown : s.vm.findClass own = some m.cls) (hlink : (Cond.methodLink own index arraycopyName).before args s = true) (hnat : (Cond.native arraycopyName).before args s = true) (hstat : (Cond.static arraycopyName).before args s = true) (hini : (Cond.initialized "java/lang/System").before args s = true)
    (hK : gK E s) (hP : va_P E.1 vwCl (bl bs) H) (hD : va_D A (bl bs)) (hS : va_S A s.heap H locs) (q0 q1 : Nat) {a0 a n0 n1 : Nat} {f g : Nat → Int32} (ha0 : bs[q0]? = some [(a0, .inl (E.2.1, n0, .inl f))]) (ha1 : bs[q1]? = some [(a, .inl (E.2.1, n1, .inl g))]) {sp dp n : Int32} (hF : cpk sp dp n n0 n1 B = some r)
    (hframes : 1 ≤ R.frames) (hlocals : (rest.map fun v => v.category).sum + (nativeFrameWords "java/lang/System" "arraycopy" 5 + 11) ≤ R.locals) (hdg : decode cc pc = .ok (.invokestatic index, 3))
    (kk : B = some r → ∀ (H1 : Heap) (locs1 : List Loc), va_P E.1 vwCl (bl (bs.set q1 [(a, .inl (E.2.1, n1, .inl (va_cpy f g sp.toNatClampNeg dp.toNatClampNeg n.toNatClampNeg)))])) H1 → va_D A (bl (bs.set q1 [(a, .inl (E.2.1, n1, .inl (va_cpy f g sp.toNatClampNeg dp.toNatClampNeg n.toNatClampNeg)))])) → va_S A s.heap H1 locs1 → W p l e R s m args below meth c H1 locs1 cells slots Q (F0 m (pc + 3) ls rest)) : W p l e R s m args below meth c H locs cells slots Q (F0 m pc ls (.int n :: .int dp :: .ref a :: .int sp :: .ref a0 :: rest)) := by
  obtain ⟨k0, h0, -⟩ := bl_get ha0
  obtain ⟨k1, h1, h2⟩ := bl_get ha1
  obtain ⟨⟨z1, z2, z3, z4, z5⟩, hF⟩ := cpk_s hF
  exact va_copyi hx hb hml hown hlink hnat hstat hini hK hP hD hS k0 k1 0 0 h0 h1 rfl rfl rfl z1 z2 z3 z4 z5 (fun _ _ => rfl) hframes hlocals hdg (fun H1 locs1 a1 a2 a3 => kk hF H1 locs1 (by rw [← h2]; exact a1) (by rw [← h2]; exact a2) a3)
/-! numbers -/
theorem f_idiv (hx : p.tables.exec = Jvm.exec) (hb : c.code = cc) {x y : Int32} (hF : nzd y B = some r) (hdg : decode cc pc = .ok (.idiv, 1)) (kk : B = some r → W p l e R s m args below meth c H locs cells slots Q (F0 m (pc + 1) ls (.int (x / y) :: rest))) : W p l e R s m args below meth c H locs cells slots Q (F0 m pc ls (.int y :: .int x :: rest)) := lv_idiv hx hb hdg (nzd_s hF).1 (kk (nzd_s hF).2)
theorem f_irem (hx : p.tables.exec = Jvm.exec) (hb : c.code = cc) {x y : Int32} (hF : nzd y B = some r) (hdg : decode cc pc = .ok (.irem, 1)) (kk : B = some r → W p l e R s m args below meth c H locs cells slots Q (F0 m (pc + 1) ls (.int (x - x / y * y) :: rest))) : W p l e R s m args below meth c H locs cells slots Q (F0 m pc ls (.int y :: .int x :: rest)) := lv_irem hx hb hdg (nzd_s hF).1 (kk (nzd_s hF).2)
theorem f_fmul (hx : p.tables.exec = Jvm.exec) (hb : c.code = cc) {x y : UInt32} (hF : nn32 (FP.fmul x y) B = some r) (hdg : decode cc pc = .ok (.fmul, 1)) (kk : B = some r → W p l e R s m args below meth c H locs cells slots Q (F0 m (pc + 1) ls (.float (FP.fmul x y) :: rest))) : W p l e R s m args below meth c H locs cells slots Q (F0 m pc ls (.float y :: .float x :: rest)) := lv_fmul hx hb hdg (nn32_s hF).1 (kk (nn32_s hF).2)
theorem f_fdiv (hx : p.tables.exec = Jvm.exec) (hb : c.code = cc) {x y : UInt32} (hF : nn32 (FP.fdiv x y) B = some r) (hdg : decode cc pc = .ok (.fdiv, 1)) (kk : B = some r → W p l e R s m args below meth c H locs cells slots Q (F0 m (pc + 1) ls (.float (FP.fdiv x y) :: rest))) : W p l e R s m args below meth c H locs cells slots Q (F0 m pc ls (.float y :: .float x :: rest)) := lv_fdiv hx hb hdg (nn32_s hF).1 (kk (nn32_s hF).2)
theorem f_dmul (hx : p.tables.exec = Jvm.exec) (hb : c.code = cc) {x y : UInt64} (hF : nn64 (FP.dmul x y) B = some r) (hdg : decode cc pc = .ok (.dmul, 1)) (kk : B = some r → W p l e R s m args below meth c H locs cells slots Q (F0 m (pc + 1) ls (.double (FP.dmul x y) :: rest))) : W p l e R s m args below meth c H locs cells slots Q (F0 m pc ls (.double y :: .double x :: rest)) := lv_dmul hx hb hdg (nn64_s hF).1 (kk (nn64_s hF).2)
theorem f_ddiv (hx : p.tables.exec = Jvm.exec) (hb : c.code = cc) {x y : UInt64} (hF : nn64 (FP.ddiv x y) B = some r) (hdg : decode cc pc = .ok (.ddiv, 1)) (kk : B = some r → W p l e R s m args below meth c H locs cells slots Q (F0 m (pc + 1) ls (.double (FP.ddiv x y) :: rest))) : W p l e R s m args below meth c H locs cells slots Q (F0 m pc ls (.double y :: .double x :: rest)) := lv_ddiv hx hb hdg (nn64_s hF).1 (kk (nn64_s hF).2)
theorem f_dsub (hx : p.tables.exec = Jvm.exec) (hb : c.code = cc) {x y : UInt64} (hF : nn64 (FP.dsub x y) B = some r) (hdg : decode cc pc = .ok (.dsub, 1)) (kk : B = some r → W p l e R s m args below meth c H locs cells slots Q (F0 m (pc + 1) ls (.double (FP.dsub x y) :: rest))) : W p l e R s m args below meth c H locs cells slots Q (F0 m pc ls (.double y :: .double x :: rest)) := lv_dsub hx hb hdg (nn64_s hF).1 (kk (nn64_s hF).2)
theorem f_f2d (hx : p.tables.exec = Jvm.exec) (hb : c.code = cc) {x : UInt32} (hF : nn64 (FP.f2d x) B = some r) (hdg : decode cc pc = .ok (.f2d, 1)) (kk : B = some r → W p l e R s m args below meth c H locs cells slots Q (F0 m (pc + 1) ls (.double (FP.f2d x) :: rest))) : W p l e R s m args below meth c H locs cells slots Q (F0 m pc ls (.float x :: rest)) := lv_f2d hx hb hdg (nn64_s hF).1 (kk (nn64_s hF).2)
end GR
