/-! the script's cells: a method over the script, which is no cell of the world: by hand -/
def F_L_cell (L : Nat) (xs : Nat → Int32) (k : Int32) : Option Int32 := if (Int32.ofNat L) ≤ k then some (1779033703 * (k + 1)) else chk k L (some (xs k.toNatClampNeg))
def gX (E : GE) (av : List Value) (sz b L : Nat) (xs : Nat → Int32) : Array Value → State → Prop := fun v U => gPc E av sz (bl []) v U ∧ b < sz ∧ va_X b L xs U U.heap
theorem gX_blind (E : GE) (av : List Value) (sz b L : Nat) (xs : Nat → Int32) : FrameBlind (gX E av sz b L xs) := by
  intro a U g mk h
  obtain ⟨h1, h2, h3⟩ := h
  exact ⟨gPc_blind E av sz (bl []) a U g mk h1, h2, va_X.moved (u := U) (U := U.calling g mk a) (Vm.Alike.refl U.vm) h3⟩
theorem CTX.of {l : Launch} {E : GE} {y : MethodName} {ws ws' : List Cond} {rm : Room} {av : List Value} {rv : Option Value} {mc ms : Nat} {cc : ByteArray} {maxL : Nat} {ret : Option FieldType} {b L : Nat} {xs : Nat → Int32}
    (hy : plainName y.cls = true) (hw : ws = Cond.code y cc maxL ret :: ws') (hn : (lg_sl av).length ≤ maxL)
    (body : ∀ (p : Program) (e : Env) (s : State) (m : MethodId) (args : Array Value) (below : List Frame) (meth : Method) (c : Code) (A : Nat → Prop) (Q : State → Prop) (ls : Array Slot), gB p s m args meth c E A ws cc maxL ret y.cls y.name → gE below args s E rv (bl []) A mc ms = Q → va_P E.1 vwCl (bl []) s.heap → va_D A (bl []) → va_S A s.heap s.heap [] → lv_has ls maxL (lv_args 0 av) → va_X b L xs s s.heap → b < s.heap.size → ¬ A b →
      W p l e rm s m args below meth c s.heap [] 0 0 Q (F0 m 0 ls [])) : ∀ sz : Nat, Met l y ws rm (gX E av sz b L xs) (gQ E rv (bl []) (va_A (bl []) sz)) mc ms (va_A (bl []) sz) := by
  intro sz
  refine Met.ofW (cc := cc) (maxL := maxL) (ret := ret) hy hw ?_
  intro p e s m args below meth c s₁ B hml hv
  obtain ⟨⟨rfl, hsz, hP, hK, hD0, hZ⟩, hbl, hX⟩ := hv
  subst hsz
  have hD := hD0.self (sz := s.heap.size)
  have hl := lv_entry av (n := maxL) hn
  have hbA : ¬ va_A (bl []) s.heap.size b := by
    intro z
    rcases z with ⟨k, e, h⟩ | h
    · exact absurd h (by simp [bl])
    · exact absurd hbl (Nat.not_lt.mpr h)
  rw [lg_entry_eq]
  exact body p e s m _ below meth c (va_A (bl []) s.heap.size) _ _ ⟨B.exec, B.bytes, hml, findClass_of_methodNamed B.named, atoms_spec (ws := ws) B.pre, B.returns, B.notSynchronized, hK, hZ, fun q h => Or.inr h, (name_of_methodNamed B.named B.method).1⟩ rfl hP hD va_S.rf hl hX hbl hbA
set_option maxRecDepth 100000 in
theorem c_L_cell (l : Launch) (E : GE) (b L : Nat) (xs : Nat → Int32) (k r : Int32) (hF : F_L_cell L xs k = some r) : ∀ sz : Nat, Met l yL_cell wsL_cell ({ frames := 0, cells := 0, slots := 0, locals := 0 } : Room) (gX E [.ref b, .int k] sz b L xs) (gQ E (some (.int r)) (bl []) (va_A (bl []) sz)) 0 0 (va_A (bl []) sz) := by
  refine CTX.of (cc := cL_cell) (maxL := 2) (ret := (some .int)) (by decide) rfl (Nat.le_of_ble_eq_true rfl) ?_
  intro p e s m args below meth cd A Q ls B hQ hP hD hS hl hX hbl hbA
  obtain ⟨hx, hb, hml, hown, hts, hr, hlocks, hK, hZ, hA, hnm⟩ := B
  have hown : s.vm.findClass RL = some m.cls := hown
  have hl : lv_has ls 2 [(0, .ref b), (1, .int k)] := hl
  have w0 := hts (.constant RL 7 (1779033703)) (by decide +kernel)
  unfold F_L_cell at hF
  refine lv_iload_n hx hb dL_cell_0 rfl (lv_at hl 1 rfl) ?_
  refine lv_aload_n hx hb dL_cell_1 rfl (lv_at hl 0 rfl) ?_
  refine va_slen hx hb hX hbl hbA hS dL_cell_2 ?_
  refine f_icmp_ge (tgt := 12) hx hb dL_cell_3 (by decide) hF (fun hF => ?_) (fun hF => ?_)
  · refine lv_ldc (v := 1779033703) hx hb hown w0 dL_cell_12 ?_
    refine lv_iload_n hx hb dL_cell_14 rfl (lv_at hl 1 rfl) ?_
    refine lv_iconst (v := 1) hx hb dL_cell_15 (by decide) ?_
    refine lv_iadd hx hb dL_cell_16 ?_
    refine lv_imul hx hb dL_cell_17 ?_
    exact g_iret (rvf := fun z => some (.int z)) (W1f := fun z => bl []) hx hb hr hlocks hQ hF rfl hP hD hS [] rfl rfl dL_cell_18
  · refine lv_aload_n hx hb dL_cell_6 rfl (lv_at hl 0 rfl) ?_
    refine lv_iload_n hx hb dL_cell_7 rfl (lv_at hl 1 rfl) ?_
    obtain ⟨hin, hF⟩ := chk_s hF
    refine va_sld hx hb hX hbl hbA hS hin dL_cell_8 ?_
    refine lv_goto (tgt := 18) hx hb dL_cell_9 (by decide) ?_
    exact g_iret (rvf := fun z => some (.int z)) (W1f := fun z => bl []) hx hb hr hlocks hQ hF rfl hP hD hS [] rfl rfl dL_cell_18
theorem g_cell {p : Program} {l : Launch} {e : Env} {R : Room} {s : State} {m : MethodId} {args : Array Value} {below : List Frame} {meth : Method} {c : Code} {H : Heap} {locs : List Loc} {cells slots : Nat} {Q : State → Prop} {E : GE} {A : Nat → Prop} {pc : Nat} {ls : Array Slot} {rest st0 : List Value} {bs : List va_W} {cc bytes : ByteArray} {maxL nL index mc ms : Nat} {ret : Option FieldType} {ws Ts : List Cond} {rm : Room} {own : String} {y : MethodName} {b L : Nat} {xs : Nat → Int32} {k r : Int32}
    (S : CallFix p m c cc nL s args Ts own) (hK : gK E s) (hZ : gZ E A s s.heap) (hA : ∀ q : Nat, s.heap.size ≤ q → A q) (hX : va_X b L xs s s.heap) (hbl : b < s.heap.size) (hbA : ¬ A b) (hM : ∀ sz : Nat, Met l y ws rm (gX E [.ref b, .int k] sz b L xs) (gQ E (some (.int r)) (bl []) (va_A (bl []) sz)) mc ms (va_A (bl []) sz)) (cw : CallB R s args own index y bytes maxL ret ws rm mc ms 2 ∧ (Cond.static y).before args s = true) (hP : va_P E.1 vwCl (bl bs) H) (hD : va_D A (bl bs)) (hS : va_S A s.heap H locs) (isR : List Nat) (hn : bk_in bs isR = true)
    (hsize : ls.size = nL) (hst : st0 = [.int k, .ref b] ++ rest) (hwd : (rest.map fun v => v.category).sum ≤ 8) (hdg : decode cc pc = .ok (.invokestatic index, 3)) (hf : cells + mc ≤ R.cells ∧ slots + ms ≤ R.slots)
    (kk : ∀ (H1 : Heap) (locs1 : List Loc), va_P E.1 vwCl (bl (bk bs isR)) H1 → va_D A (bl (bk bs isR)) → va_S A s.heap H1 locs1 → W p l e R s m args below meth c H1 locs1 (cells + mc) (slots + ms) Q (F0 m (pc + 3) ls (.int r :: rest))) : W p l e R s m args below meth c H locs cells slots Q (F0 m pc ls st0) := by
  have hM' := hM H.size
  have hpre : ∀ U : State, U.heap = H → s.WarmedH U.vm → gX E [.ref b, .int k] H.size b L xs ([.ref b, .int k] : List Value).toArray U := fun U hU hW =>
    ⟨g_pre (bc := []) hK hZ hA hP hD hS [] rfl rfl _ U hU hW, Nat.lt_of_lt_of_le hbl hS.1, by rw [hU]; exact va_X.moved hW.alike (hX.kept (hS.2.1 b hbl hbA))⟩
  exact g_after (bc := []) (b1 := []) (va_runS S hM' cw ⟨gX_blind _ _ _ _ _ _, hpre⟩ rfl rfl hsize hst (lv_room hwd) hdg hf) hP hD hS hA [] isR rfl (bk_ok hn) (Bool.and_eq_true_iff.mp hn).1 kk
