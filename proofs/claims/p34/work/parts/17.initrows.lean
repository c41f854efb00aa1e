/-! CONSTRUCTORS: rows that make cells, contracts whose end names new addresses -/
def gQn {T : Type} (E : GE) (ok : T → Prop) (W1 : T → va_W) (A : Nat → Prop) : Array Value → State → Outcome → State → Prop := fun _ st oc t => (oc = .returned none ∧ ∃ z : T, ok z ∧ va_P E.1 vwCl (W1 z) t.heap ∧ va_D A (W1 z)) ∧ va_F A st t
def CN {T : Type} (l : Launch) (E : GE) (y : MethodName) (ws : List Cond) (rm : Room) (o : Nat) (W : va_W) (ok : T → Prop) (W1 : T → va_W) (mc ms : Nat) : Prop :=
  ∀ sz : Nat, Met l y ws rm (gPc E [.ref o] sz W) (gQn E ok W1 (va_A W sz)) mc ms (va_A W sz)
def gEn {T : Type} (below : List Frame) (args : Array Value) (s : State) (E : GE) (ok : T → Prop) (W1 : T → va_W) (A : Nat → Prop) (mc ms : Nat) : State → Prop := MQ below (gQn E ok W1 A) args s mc ms A
theorem CN.of {T : Type} {l : Launch} {E : GE} {y : MethodName} {ws ws' : List Cond} {rm : Room} {o : Nat} {W0 : va_W} {ok : T → Prop} {W1 : T → va_W} {mc ms : Nat} {cc : ByteArray} {maxL : Nat} {ret : Option FieldType}
    (hy : plainName y.cls = true) (hw : ws = Cond.code y cc maxL ret :: ws') (hn : (lg_sl [.ref o]).length ≤ maxL)
    (body : ∀ (p : Program) (e : Env) (s : State) (m : MethodId) (args : Array Value) (below : List Frame) (meth : Method) (c : Code) (A : Nat → Prop) (Q : State → Prop) (ls : Array Slot), gB p s m args meth c E A ws cc maxL ret y.cls y.name → gEn below args s E ok W1 A mc ms = Q → va_P E.1 vwCl W0 s.heap → va_D A W0 → va_S A s.heap s.heap [] → lv_has ls maxL (lv_args 0 [.ref o]) →
      W p l e rm s m args below meth c s.heap [] 0 0 Q (F0 m 0 ls [])) : CN l E y ws rm o W0 ok W1 mc ms := by
  intro sz
  refine Met.ofW (cc := cc) (maxL := maxL) (ret := ret) hy hw ?_
  intro p e s m args below meth c s₁ B hml hv
  obtain ⟨rfl, hsz, hP, hK, hD0, hZ⟩ := hv
  subst hsz
  have hD := hD0.self (sz := s.heap.size)
  have hl := lv_entry [.ref o] (n := maxL) hn
  rw [lg_entry_eq]
  exact body p e s m _ below meth c (va_A W0 s.heap.size) _ _ ⟨B.exec, B.bytes, hml, findClass_of_methodNamed B.named, atoms_spec (ws := ws) B.pre, B.returns, B.notSynchronized, hK, hZ, fun q h => Or.inr h, (name_of_methodNamed B.named B.method).1⟩ rfl hP hD va_S.rf hl
section GN
variable {p : Program} {l : Launch} {e : Env} {R : Room} {s : State} {m : MethodId} {args : Array Value} {below : List Frame} {meth : Method} {c : Code} {H : Heap} {locs : List Loc} {cells slots : Nat} {Q : State → Prop}
variable {E : GE} {A : Nat → Prop} {pc : Nat} {ls : Array Slot} {rest st0 : List Value} {bs bc br : List va_W} {mc ms : Nat} {cc : ByteArray} {T : Type} {ok : T → Prop} {b1 : T → List va_W}
theorem g_afterN {a : Array Value} (hr : va_Run p l e R s m args below meth c H locs cells slots mc ms (F0 m pc ls st0) rest (gQn E ok (fun z => bl (b1 z)) (va_A (bl bc) H.size) a) (va_A (bl bc) H.size)) (hP : va_P E.1 vwCl (bl bs) H) (hD : va_D A (bl bs)) (hS : va_S A s.heap H locs) (hA : ∀ q : Nat, s.heap.size ≤ q → A q) (isC isR : List Nat)
    (hC : isC.map (fun i => bs[i]?) = bc.map some) (hR : isR.map (fun i => bs[i]?) = br.map some) (hn : va_nd (isC ++ isR) = true)
    (kk : ∀ (z : T), ok z → ∀ (H1 : Heap) (locs1 : List Loc), va_P E.1 vwCl (bl (b1 z ++ br)) H1 → va_D A (bl (b1 z ++ br)) → va_S A s.heap H1 locs1 → W p l e R s m args below meth c H1 locs1 (cells + mc) (slots + ms) Q (F0 m (pc + 3) ls rest)) : W p l e R s m args below meth c H locs cells slots Q (F0 m pc ls st0) := by
  intro T' hT X
  obtain ⟨v, st₀, t, T', L, h0, X', hL, e1, e2, ⟨⟨hv, z, hz1, hP1, hD1⟩, hz, hk⟩, st⟩ := hr T' hT X
  cases hv
  rw [h0] at hz hk
  have hF := bl_free hD hS hA isC hC
  obtain ⟨g1, g2⟩ := bl_join hP hD isC isR hC hR hn hk hF hP1 hD1
  obtain ⟨t2, a1, b2⟩ := kk z hz1 T'.heap (locs ++ L) (by rw [e1]; exact g1) g2 ⟨Nat.le_trans hS.1 (by rw [e1]; exact hz), fun q h1 h2 => by rw [e1, hk q (Nat.lt_of_lt_of_le h1 hS.1) (fun z => h2 (hF q z))]; exact hS.2.1 q h1 h2, fun q hq => by
      rcases List.mem_append.mp hq with h | h
      · exact hS.2.2 q h
      · exact hF _ (hL q h)⟩ T' rfl X'
  exact ⟨t2, st t2 a1, b2⟩
variable {y : MethodName} {bytes : ByteArray} {maxL nL n index : Nat} {ws : List Cond} {rm : Room} {Ts : List Cond} {own host : String} {b : Nat} {bc' : List va_W}
theorem g_callN (S : CallFix p m c cc nL s args Ts own) (hK : gK E s) (hZ : gZ E A s s.heap) (hA : ∀ q : Nat, s.heap.size ≤ q → A q) (hM : CN l E y ws rm b (bl bc') ok (fun z => bl (b1 z)) mc ms) (cw : CallB R s args own index y bytes maxL none ws rm mc ms n ∧ y.name = "<init>" ∧ (Cond.instanceMethod y).before args s = true) (hP : va_P E.1 vwCl (bl bs) H) (hD : va_D A (bl bs)) (hS : va_S A s.heap H locs) (isC isR : List Nat) (hn : bk_in bs (isC ++ isR) = true) (hW' : bl (bk bs isC) = bl bc')
    (hn2 : ([] : List Value).length = n) (hsize : ls.size = nL) (hwd : (rest.map fun v => v.category).sum ≤ 8) (hdg : decode cc pc = .ok (.invokespecial index, 3)) (hf : cells + mc ≤ R.cells ∧ slots + ms ≤ R.slots)
    (kk : ∀ (z : T), ok z → ∀ (H1 : Heap) (locs1 : List Loc), va_P E.1 vwCl (bl (b1 z ++ bk bs isR)) H1 → va_D A (bl (b1 z ++ bk bs isR)) → va_S A s.heap H1 locs1 → W p l e R s m args below meth c H1 locs1 (cells + mc) (slots + ms) Q (F0 m (pc + 3) ls rest)) : W p l e R s m args below meth c H locs cells slots Q (F0 m pc ls (.ref b :: rest)) := by
  have hM' := hM H.size
  rw [← hW'] at hM'
  have hC := bk_ok (bk_l hn)
  have hnd := (Bool.and_eq_true_iff.mp hn).1
  exact g_afterN (va_runI (As := []) S hM' cw ⟨gPc_blind _ _ _ _, g_pre hK hZ hA hP hD hS isC hC (Bool.and_eq_true_iff.mp (bk_l hn)).1 _⟩ rfl hn2 hsize rfl (lv_room hwd) hdg hf) hP hD hS hA isC isR hC (bk_ok (bk_r hn)) hnd kk
theorem g_callNN (S : CallFix p m c cc nL s args Ts own) (hK : gK E s) (hZ : gZ E A s s.heap) (hA : ∀ q : Nat, s.heap.size ≤ q → A q) (hM : CN l E y ws rm b (bl bc') ok (fun z => bl (b1 z)) mc ms) (cw : va_CN R s args own index y host bytes maxL none ws rm mc ms n ∧ y.name = "<init>" ∧ (Cond.instanceMethod y).before args s = true) (hP : va_P E.1 vwCl (bl bs) H) (hD : va_D A (bl bs)) (hS : va_S A s.heap H locs) (isC isR : List Nat) (hn : bk_in bs (isC ++ isR) = true) (hW' : bl (bk bs isC) = bl bc')
    (hn2 : ([] : List Value).length = n) (hsize : ls.size = nL) (hwd : (rest.map fun v => v.category).sum ≤ 8) (hdg : decode cc pc = .ok (.invokespecial index, 3)) (hf : cells + mc ≤ R.cells ∧ slots + ms ≤ R.slots)
    (kk : ∀ (z : T), ok z → ∀ (H1 : Heap) (locs1 : List Loc), va_P E.1 vwCl (bl (b1 z ++ bk bs isR)) H1 → va_D A (bl (b1 z ++ bk bs isR)) → va_S A s.heap H1 locs1 → W p l e R s m args below meth c H1 locs1 (cells + mc) (slots + ms) Q (F0 m (pc + 3) ls rest)) : W p l e R s m args below meth c H locs cells slots Q (F0 m pc ls (.ref b :: rest)) := by
  have hM' := hM H.size
  rw [← hW'] at hM'
  have hC := bk_ok (bk_l hn)
  have hnd := (Bool.and_eq_true_iff.mp hn).1
  exact g_afterN (va_runIN (As := []) S hM' cw ⟨gPc_blind _ _ _ _, g_pre hK hZ hA hP hD hS isC hC (Bool.and_eq_true_iff.mp (bk_l hn)).1 _⟩ rfl hn2 hsize rfl (lv_room hwd) hdg hf) hP hD hS hA isC isR hC (bk_ok (bk_r hn)) hnd kk
theorem bl_push {x : Nat × va_E} : bl bs ++ [x] = bl (bs ++ [[x]]) := by rw [bl_app]; rfl
theorem g_newi (hx : p.tables.exec = Jvm.exec) (hb : c.code = cc) (harr : (Cond.arrayClass .int).before args s = true) (hK : gK E s) (hP : va_P E.1 vwCl (bl bs) H) (hD : va_D A (bl bs)) (hS : va_S A s.heap H locs) (hA : ∀ q : Nat, s.heap.size ≤ q → A q) {n : Int32} {N' : Nat} (hn : ¬ n < 0) (hN : n.toNatClampNeg = N') (hbytes : N' * componentBytes .int ≤ 536870912) (hcells : cells + 1 ≤ R.cells) (hslots : slots + N' ≤ R.slots) (hdg : decode cc pc = .ok (.newarray .int, 2))
    (kk : ∀ (q : Nat) (H1 : Heap), va_P E.1 vwCl (bl (bs ++ [[(q, .inl (E.2.1, N', .inl (fun _ => 0)))]])) H1 → va_D A (bl (bs ++ [[(q, .inl (E.2.1, N', .inl (fun _ => 0)))]])) → va_S A s.heap H1 locs → W p l e R s m args below meth c H1 locs (cells + 1) (slots + N') Q (F0 m (pc + 2) ls (.ref q :: rest))) : W p l e R s m args below meth c H locs cells slots Q (F0 m pc ls (.int n :: rest)) := by
  refine va_newa (atype := .int) (ty := .int) (a0 := (N', .inl (fun _ => 0))) hx hb harr rfl hK hP hD hS hA (fun _ => rfl) hn hN hbytes hcells hslots hdg (fun q cA H1 hK2 hP hD hS => ?_)
  have h1 := (hK.2 0 _ rfl).2
  have h2 := (hK2.2 3 _ rfl).2
  have he : cA = E.2.1 := Option.some.inj (h2.symm.trans h1)
  subst he
  rw [bl_push] at hP hD
  exact kk q H1 hP hD hS
theorem g_newc (hx : p.tables.exec = Jvm.exec) (hb : c.code = cc) (harr : (Cond.arrayClass .char).before args s = true) (hK : gK E s) (hP : va_P E.1 vwCl (bl bs) H) (hD : va_D A (bl bs)) (hS : va_S A s.heap H locs) (hA : ∀ q : Nat, s.heap.size ≤ q → A q) {n : Int32} {N' : Nat} (hn : ¬ n < 0) (hN : n.toNatClampNeg = N') (hbytes : N' * componentBytes .char ≤ 536870912) (hcells : cells + 1 ≤ R.cells) (hslots : slots + N' ≤ R.slots) (hdg : decode cc pc = .ok (.newarray .char, 2))
    (kk : ∀ (q : Nat) (H1 : Heap), va_P E.1 vwCl (bl (bs ++ [[(q, .inl (E.2.2.1, N', .inl (fun _ => 0)))]])) H1 → va_D A (bl (bs ++ [[(q, .inl (E.2.2.1, N', .inl (fun _ => 0)))]])) → va_S A s.heap H1 locs → W p l e R s m args below meth c H1 locs (cells + 1) (slots + N') Q (F0 m (pc + 2) ls (.ref q :: rest))) : W p l e R s m args below meth c H locs cells slots Q (F0 m pc ls (.int n :: rest)) := by
  refine va_newa (atype := .char) (ty := .char) (a0 := (N', .inl (fun _ => 0))) hx hb harr rfl hK hP hD hS hA (fun _ => rfl) hn hN hbytes hcells hslots hdg (fun q cA H1 hK2 hP hD hS => ?_)
  have h1 := (hK.2 1 _ rfl).2
  have h2 := (hK2.2 3 _ rfl).2
  have he : cA = E.2.2.1 := Option.some.inj (h2.symm.trans h1)
  subst he
  rw [bl_push] at hP hD
  exact kk q H1 hP hD hS
theorem g_newq (hx : p.tables.exec = Jvm.exec) (hb : c.code = cc) {own : String} {index : Nat} (hown : s.vm.findClass own = some m.cls) (hcl : (Cond.classLink own index "HarborLight$State").before args s = true) (hover : va_AO "HarborLight$State" s) (hK : gK E s) (hP : va_P E.1 vwCl (bl bs) H) (hD : va_D A (bl bs)) (hS : va_S A s.heap H locs) (hA : ∀ q : Nat, s.heap.size ≤ q → A q) {n : Int32} {N' : Nat} (hn : ¬ n < 0) (hN : n.toNatClampNeg = N') (hbytes : N' * 4 ≤ 536870912) (hcells : cells + 1 ≤ R.cells) (hslots : slots + N' ≤ R.slots) (hdg : decode cc pc = .ok (.anewarray index, 3))
    (kk : ∀ (q : Nat) (H1 : Heap), va_P E.1 vwCl (bl (bs ++ [[(q, .inl (E.2.2.2.1, N', .inr (.inr (.inr (.inr (fun _ => none))))))]])) H1 → va_D A (bl (bs ++ [[(q, .inl (E.2.2.2.1, N', .inr (.inr (.inr (.inr (fun _ => none))))))]])) → va_S A s.heap H1 locs → W p l e R s m args below meth c H1 locs (cells + 1) (slots + N') Q (F0 m (pc + 3) ls (.ref q :: rest))) : W p l e R s m args below meth c H locs cells slots Q (F0 m pc ls (.int n :: rest)) := by
  refine va_newq hx hb hown hcl hover hK hP hD hS hA hn hN hbytes hcells hslots hdg (fun q cA H1 hK2 hP hD hS => ?_)
  obtain ⟨k1, c1, f1, f2, f3, f4⟩ := (hK.2 2 _ rfl).2
  obtain ⟨k2, c2, g1, g2, g3, g4⟩ := (hK2.2 3 _ rfl).2
  have he : cA = E.2.2.2.1 := Option.some.inj (g4.symm.trans f4)
  subst he
  rw [bl_push] at hP hD
  exact kk q H1 hP hD hS
theorem g_new (hx : p.tables.exec = Jvm.exec) (hb : c.code = cc) {own C : String} {T : u_T} {N ci index : Nat} {Ts : List Cond} (hts : ∀ w ∈ Ts, w.before args s = true) (hin : ∀ w ∈ u_ws C T N, w ∈ Ts) (ty : Nat → FieldType) (hty : ∀ k, k < N → parseFieldDescriptor (T k).2.2.1 = some (ty k)) (hown : s.vm.findClass own = some m.cls) (hcl : (Cond.classLink own index C).before args s = true) (hinst : (Cond.instantiable C N).before args s = true) (hini : (Cond.initialized C).before args s = true)
    (hK : gK E s) (hP : va_P E.1 vwCl (bl bs) H) (hD : va_D A (bl bs)) (hS : va_S A s.heap H locs) (hA : ∀ q : Nat, s.heap.size ≤ q → A q) (hc : vwCl[ci]? = some (C, T, N)) {fs : List Value} (hfs : ∀ j, j < N → defaultValue (ty j) = vp_V fs j) (hcells : cells + 1 ≤ R.cells) (hslots : slots + N ≤ R.slots) (hdg : decode cc pc = .ok (.new index, 3))
    (kk : ∀ (q : Nat) (H1 : Heap), va_P E.1 vwCl (bl (bs ++ [[(q, .inr (ci, fs))]])) H1 → va_D A (bl (bs ++ [[(q, .inr (ci, fs))]])) → va_S A s.heap H1 locs → W p l e R s m args below meth c H1 locs (cells + 1) (slots + N) Q (F0 m (pc + 3) ls (.ref q :: rest))) : W p l e R s m args below meth c H locs cells slots Q (F0 m pc ls rest) :=
  va_new hx hb hts hin ty hty hown hcl hinst hini hK hP hD hS hA hc hfs hcells hslots hdg (fun q H1 hP hD hS => kk q H1 (by rw [← bl_push]; exact hP) (by rw [← bl_push]; exact hD) hS)
theorem g_aast (hx : p.tables.exec = Jvm.exec) (hb : c.code = cc) (hK : gK E s) (hP : va_P E.1 vwCl (bl bs) H) (hD : va_D A (bl bs)) (hS : va_S A s.heap H locs) (q0 qk : Nat) {a n v : Nat} {vs : List Value} {f : Nat → Option Nat} (ha : bs[q0]? = some [(a, .inl (E.2.2.2.1, n, .inr (.inr (.inr (.inr f)))))]) (hv : (bl bs)[qk]? = some (v, .inr (5, vs))) {i : Int32} (hin : vp_in i n) (hdg : decode cc pc = .ok (.aastore, 1))
    (kk : ∀ (H1 : Heap) (locs1 : List Loc), va_P E.1 vwCl (bl (bs.set q0 [(a, .inl (E.2.2.2.1, n, .inr (.inr (.inr (.inr (va_up f i.toNatClampNeg (some v)))))))])) H1 → va_D A (bl (bs.set q0 [(a, .inl (E.2.2.2.1, n, .inr (.inr (.inr (.inr (va_up f i.toNatClampNeg (some v)))))))])) → va_S A s.heap H1 locs1 → W p l e R s m args below meth c H1 locs1 cells slots Q (F0 m (pc + 1) ls rest)) : W p l e R s m args below meth c H locs cells slots Q (F0 m pc ls (.ref v :: .int i :: .ref a :: rest)) := by
  obtain ⟨k0, h1, h2⟩ := bl_get ha
  exact va_astq (r := (RX7, TX7, 8)) hx hb hK hP hD hS k0 2 qk 5 h1 rfl hv rfl hin hdg (fun H1 locs1 a1 a2 a3 => kk H1 locs1 (by rw [← h2]; exact a1) (by rw [← h2]; exact a2) a3)
theorem g_nret {z : T} {W1 : T → va_W} (hx : p.tables.exec = Jvm.exec) (hb : c.code = cc) (hr : meth.sig.returnType = none) (hlocks : meth.locks = false) (hQ : gEn below args s E ok W1 A mc ms = Q) (hz : ok z) (h1 : cells ≤ mc) (h2 : slots ≤ ms) (hP : va_P E.1 vwCl (bl bs) H) (hD : va_D A (bl bs)) (hS : va_S A s.heap H locs) (is : List Nat) (hn : bk_in bs is = true) (hW' : bl (bk bs is) = W1 z)
    (hdg : decode cc pc = .ok (.return_, 1)) : W p l e R s m args below meth c H locs cells slots Q (F0 m pc ls []) := by
  subst hQ
  have hC := bk_ok hn
  have hP1 := bl_P hP is hC
  have hD1 := bl_D hD is (Bool.and_eq_true_iff.mp hn).1 hC
  rw [hW'] at hP1 hD1
  refine W.widen (k := mc) (n := ms) h1 h2 ?_
  exact W.vret hx hb hr (fun t ht hW => ⟨⟨rfl, z, hz, by rw [ht]; exact hP1, hD1⟩, hS.F ht⟩) hS.2.2 hdg
/-- an array of references is what its places hold -/
theorem g_arrq {a n : Nat} {f g : Nat → Option Nat} {cA : ClassId} (h : ∀ j, j < n → f j = g j) (hP : va_P E.1 vwCl (bl ([(a, .inl (cA, n, .inr (.inr (.inr (.inr f)))))] :: bs)) H) (hD : va_D A (bl ([(a, .inl (cA, n, .inr (.inr (.inr (.inr f)))))] :: bs))) : va_P E.1 vwCl (bl ([(a, .inl (cA, n, .inr (.inr (.inr (.inr g)))))] :: bs)) H ∧ va_D A (bl ([(a, .inl (cA, n, .inr (.inr (.inr (.inr g)))))] :: bs)) := by
  have e : vp_cell cA (n, .inr (.inr (.inr (.inr f)))) = vp_cell cA (n, .inr (.inr (.inr (.inr g)))) := by
    show arrV cA n (fun j => va_rf (f j)) = arrV cA n (fun j => va_rf (g j))
    unfold arrV
    congr 2
    funext j
    exact congrArg va_rf (h j.val j.isLt)
  refine ⟨fun k q hk => ?_, hD.set (p := 0) (e := .inl (cA, n, .inr (.inr (.inr (.inr g))))) rfl⟩
  cases k with
  | zero =>
    cases hk
    have h1 := hP 0 _ rfl
    show H[a]? = some (vp_cell cA (n, .inr (.inr (.inr (.inr g)))))
    rw [← e]
    exact h1
  | succ k => exact hP (k + 1) q hk
end GN
