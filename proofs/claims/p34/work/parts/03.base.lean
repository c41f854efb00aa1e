/-! BASE: worlds as lists of blocks; one form of contract; rows that read a pure picture of the code -/
/-- the constants of a launch: classes and slots, the array classes (int, char, State), the table SINES, the strings and their bytes -/
abbrev GE : Type := va_G × ClassId × ClassId × ClassId × Nat × (Nat → Nat) × (Nat → Nat)
abbrev gT (E : GE) : List (ClassId × FieldType) := [(E.2.1, .int), (E.2.2.1, .char), (E.2.2.2.1, .object "HarborLight$State")]
def gK (E : GE) (U : State) : Prop := va_K E.1 vwCl (gT E) U
def bl (bs : List va_W) : va_W := bs.flatten
theorem bl_app (a b : List va_W) : bl (a ++ b) = bl a ++ bl b := List.flatten_append
theorem bl_get {bs : List va_W} {q0 : Nat} {x : Nat × va_E} (h : bs[q0]? = some [x]) : ∃ k : Nat, (bl bs)[k]? = some x ∧ ∀ y, (bl bs).set k y = bl (bs.set q0 [y]) := by
  induction bs generalizing q0 with
  | nil => simp at h
  | cons b bs ih =>
    cases q0 with
    | zero =>
      have e : b = [x] := by simpa using h
      subst e
      exact ⟨0, rfl, fun y => rfl⟩
    | succ q0 =>
      obtain ⟨k, h1, h2⟩ := ih (q0 := q0) (by simpa using h)
      refine ⟨b.length + k, ?_, fun y => ?_⟩
      · show (b ++ bl bs)[b.length + k]? = some x
        rw [List.getElem?_append_right (by omega), Nat.add_sub_cancel_left]
        exact h1
      · show (b ++ bl bs).set (b.length + k) y = b ++ bl (bs.set q0 [y])
        rw [List.set_append_right _ _ (by omega), Nat.add_sub_cancel_left, h2]
theorem bl_in {bs bs' : List va_W} {is : List Nat} (hs : is.map (fun i => bs[i]?) = bs'.map some) {b : va_W} (hb : b ∈ bs') : ∃ i, i ∈ is ∧ bs[i]? = some b := by
  have h1 : some b ∈ bs'.map some := List.mem_map.mpr ⟨b, hb, rfl⟩
  rw [← hs] at h1
  obtain ⟨i, h2, hi⟩ := List.mem_map.mp h1
  exact ⟨i, h2, hi⟩
theorem bl_P {D : va_G} {cl : List vw_C} {bs bs' : List va_W} {H : Heap} (h : va_P D cl (bl bs) H) (is : List Nat) (hs : is.map (fun i => bs[i]?) = bs'.map some) : va_P D cl (bl bs') H := by
  intro k q hk
  obtain ⟨b, hb, hq⟩ := List.mem_flatten.mp (List.mem_of_getElem? hk)
  obtain ⟨i, -, hi⟩ := bl_in hs hb
  obtain ⟨j, hj⟩ := List.getElem?_of_mem (List.mem_flatten.mpr ⟨b, List.mem_of_getElem? hi, hq⟩)
  exact h j q hj
theorem va_D_iff {A : Nat → Prop} {ws : va_W} : va_D A ws ↔ ws.Pairwise (fun p q => p.1 ≠ q.1) ∧ ∀ q ∈ ws, A q.1 := by
  constructor
  · intro h
    refine ⟨List.pairwise_iff_getElem.mpr fun i j hi hj hij e => ?_, fun q hq => ?_⟩
    · have := h.1 i j _ _ (List.getElem?_eq_getElem hi) (List.getElem?_eq_getElem hj) e
      omega
    · obtain ⟨k, hk⟩ := List.getElem?_of_mem hq
      exact h.2 k q hk
  · intro h
    refine ⟨fun i j p q hp hq e => ?_, fun k q hk => h.2 q (List.mem_of_getElem? hk)⟩
    obtain ⟨hi, rfl⟩ := List.getElem?_eq_some_iff.mp hp
    obtain ⟨hj, rfl⟩ := List.getElem?_eq_some_iff.mp hq
    have hp := List.pairwise_iff_getElem.mp h.1
    rcases Nat.lt_trichotomy i j with z | z | z
    · exact absurd e (hp i j hi hj z)
    · exact z
    · exact absurd e.symm (hp j i hj hi z)
theorem bl_D {A : Nat → Prop} {bs bs' : List va_W} (h : va_D A (bl bs)) (is : List Nat) (hn : va_nd is = true) (hs : is.map (fun i => bs[i]?) = bs'.map some) : va_D A (bl bs') := by
  obtain ⟨hp, ha⟩ := va_D_iff.mp h
  obtain ⟨p1, p2⟩ := List.pairwise_flatten.mp hp
  refine va_D_iff.mpr ⟨List.pairwise_flatten.mpr ⟨fun b hb => ?_, List.pairwise_iff_getElem.mpr fun i j hi hj hij => ?_⟩, fun q hq => ?_⟩
  · obtain ⟨i, -, hi⟩ := bl_in hs hb
    exact p1 b (List.mem_of_getElem? hi)
  · have key : ∀ k (hk : k < bs'.length), ∃ x, is[k]? = some x ∧ bs[x]? = some bs'[k] := by
      intro k hk
      have h1 : (is.map (fun i => bs[i]?))[k]? = some (some bs'[k]) := by rw [hs, List.getElem?_map, List.getElem?_eq_getElem hk]; rfl
      rw [List.getElem?_map] at h1
      cases hx : is[k]? with
      | none => rw [hx] at h1; cases h1
      | some x => rw [hx] at h1; exact ⟨x, rfl, Option.some.inj h1⟩
    obtain ⟨x, x1, x2⟩ := key i hi
    obtain ⟨y, y1, y2⟩ := key j hj
    obtain ⟨lx, ex⟩ := List.getElem?_eq_some_iff.mp x2
    obtain ⟨ly, ey⟩ := List.getElem?_eq_some_iff.mp y2
    have hxy : x ≠ y := fun z => by
      subst z
      have := va_nd_inj is hn i j x x1 y1
      omega
    have pw := List.pairwise_iff_getElem.mp p2
    rw [← ex, ← ey]
    rcases Nat.lt_or_gt_of_ne hxy with z | z
    · exact pw x y lx ly z
    · exact fun a ha b hb e => pw y x ly lx z b hb a ha e.symm
  · obtain ⟨b, hb, hq⟩ := List.mem_flatten.mp hq
    obtain ⟨i, -, hi⟩ := bl_in hs hb
    exact ha q (List.mem_flatten.mpr ⟨b, List.mem_of_getElem? hi, hq⟩)
/-- which cells a callee may write are the caller's, or new -/
theorem bl_free {A : Nat → Prop} {bs bc : List va_W} {H0 H : Heap} {locs : List Loc} (hD : va_D A (bl bs)) (hS : va_S A H0 H locs) (hA : ∀ q, H0.size ≤ q → A q) (isC : List Nat) (hC : isC.map (fun i => bs[i]?) = bc.map some) : ∀ q, va_A (bl bc) H.size q → A q := by
  intro q h
  rcases h with ⟨k, e, h⟩ | h
  · obtain ⟨b, hb, hq⟩ := List.mem_flatten.mp (List.mem_of_getElem? h)
    obtain ⟨i, -, hi⟩ := bl_in hC hb
    exact (va_D_iff.mp hD).2 (q, e) (List.mem_flatten.mpr ⟨b, List.mem_of_getElem? hi, hq⟩)
  · exact hA q (Nat.le_trans hS.1 h)
/-- behind a call: what came back, and the rest as it was -/
theorem bl_join {A : Nat → Prop} {D : va_G} {cl : List vw_C} {bs bc br b1 : List va_W} {H H1 : Heap} (hP : va_P D cl (bl bs) H) (hD : va_D A (bl bs)) (isC isR : List Nat) (hC : isC.map (fun i => bs[i]?) = bc.map some) (hR : isR.map (fun i => bs[i]?) = br.map some) (hn : va_nd (isC ++ isR) = true)
    (hk : ∀ q : Nat, q < H.size → ¬ va_A (bl bc) H.size q → H1[q]? = H[q]?) (hF : ∀ q, va_A (bl bc) H.size q → A q) (hP1 : va_P D cl (bl b1) H1) (hD1 : va_D (va_A (bl bc) H.size) (bl b1)) : va_P D cl (bl (b1 ++ br)) H1 ∧ va_D A (bl (b1 ++ br)) := by
  have hall : va_D A (bl (bc ++ br)) := bl_D hD (isC ++ isR) hn (by rw [List.map_append, List.map_append, hC, hR])
  rw [bl_app] at hall ⊢
  obtain ⟨pw, pa⟩ := va_D_iff.mp hall
  obtain ⟨pc, pr, px⟩ := List.pairwise_append.mp pw
  have hPr : va_P D cl (bl br) H := bl_P hP isR hR
  have apart : ∀ q ∈ bl br, q.1 < H.size ∧ ¬ va_A (bl bc) H.size q.1 := by
    intro q hq
    obtain ⟨j, hj⟩ := List.getElem?_of_mem hq
    have hl := (hPr j q hj).lt
    refine ⟨hl, fun z => ?_⟩
    rcases z with ⟨k, e, h⟩ | h
    · exact px (q.1, e) (List.mem_of_getElem? h) q hq rfl
    · omega
  refine ⟨va_P.app hP1 (hPr.kept fun k q hq => ?_), va_D_iff.mpr ⟨List.pairwise_append.mpr ⟨(va_D_iff.mp hD1).1, pr, fun a ha b hb e => ?_⟩, fun q hq => ?_⟩⟩
  · obtain ⟨g1, g2⟩ := apart q (List.mem_of_getElem? hq)
    exact hk q.1 g1 g2
  · exact (apart b hb).2 (e ▸ (va_D_iff.mp hD1).2 a ha)
  · rcases List.mem_append.mp hq with h | h
    · exact hF _ ((va_D_iff.mp hD1).2 q h)
    · exact pa q (List.mem_append.mpr (Or.inr h))
/-! the statics: the table of sines, the string constants -/
def gSin (k : Nat) : Int32 := ([0, 98, 195, 290, 383, 471, 556, 634, 707, 773, 831, 882, 924, 957, 981, 995, 1000] : List Int32).getD k 0
def gStr : List (Nat × String) := [(44, "sector"), (53, "code"), (58, "changer"), (63, "lamp"), (68, "clear"), (73, "change"), (118, "bulbs"), (120, "burners"), (135, "bulb"), (137, "burner"), (156, "dark"), (158, "white"), (160, "red"), (162, "green")]
def gByt : List (List Int32) := [[115, 101, 99, 116, 111, 114], [99, 111, 100, 101], [99, 104, 97, 110, 103, 101, 114], [108, 97, 109, 112], [99, 108, 101, 97, 114], [99, 104, 97, 110, 103, 101], [98, 117, 108, 98, 115], [98, 117, 114, 110, 101, 114, 115], [98, 117, 108, 98], [98, 117, 114, 110, 101, 114], [100, 97, 114, 107], [119, 104, 105, 116, 101], [114, 101, 100], [103, 114, 101, 101, 110]]
def gLen : List Nat := [6, 4, 7, 4, 5, 6, 5, 7, 4, 6, 4, 5, 3, 5]
/-- the links to a nest mate's private fields and constructors -/
def gNF : List (String × Nat × String × String × String) := [("HarborLight", 44, "HarborLight$State", "circle", "LHarborLight$Circle;"), ("HarborLight", 77, "HarborLight$State", "flash", "LHarborLight$FlashCode;"), ("HarborLight", 107, "HarborLight$State", "tick", "I"), ("HarborLight", 124, "HarborLight$State", "changer", "LHarborLight$Changer;"), ("HarborLight", 137, "HarborLight$Changer", "kind", "I"), ("HarborLight", 164, "HarborLight$Changer", "change", "I"), ("HarborLight", 167, "HarborLight$State", "clear", "I"), ("HarborLight", 185, "HarborLight$State", "changesBegun", "I"), ("HarborLight", 188, "HarborLight$State", "log", "LHarborLight$Log;"), ("HarborLight", 192, "HarborLight$Log", "passages", "I"), ("HarborLight", 197, "HarborLight$Log", "entries", "I"), ("HarborLight", 206, "HarborLight$Changer", "present", "I"), ("HarborLight", 209, "HarborLight$Changer", "changeLeft", "I"), ("HarborLight", 215, "HarborLight$History", "states", "I"), ("HarborLight", 218, "HarborLight$Text", "length", "I"), ("HarborLight", 270, "HarborLight$Text", "faultIndex", "I"), ("HarborLight", 273, "HarborLight$Text", "faultReason", "I"), ("HarborLight", 276, "HarborLight$Text", "items", "I"), ("HarborLight$State", 112, "HarborLight$Changer", "present", "I"), ("HarborLight$Text", 91, "HarborLight$State", "circle", "LHarborLight$Circle;"), ("HarborLight$Text", 107, "HarborLight$State", "flash", "LHarborLight$FlashCode;"), ("HarborLight$Text", 126, "HarborLight$State", "changer", "LHarborLight$Changer;"), ("HarborLight$Text", 139, "HarborLight$Changer", "kind", "I"), ("HarborLight$Text", 152, "HarborLight$State", "clear", "I"), ("HarborLight$Text", 154, "HarborLight$Changer", "change", "I")]
def gNM : List (String × Nat × MethodName) := [("HarborLight", 9, ⟨"HarborLight$State", "<init>", "()V"⟩), ("HarborLight", 31, ⟨"HarborLight$Text", "<init>", "()V"⟩), ("HarborLight$History", 15, ⟨"HarborLight$State", "<init>", "()V"⟩), ("HarborLight$State", 25, ⟨"HarborLight$Changer", "<init>", "()V"⟩), ("HarborLight$State", 32, ⟨"HarborLight$Log", "<init>", "()V"⟩)]
def gZ (E : GE) (A : Nat → Prop) (U : State) (H : Heap) : Prop :=
  va_Z "HarborLight$Compass" "SINES" "[I" (.ref E.2.2.2.2.1) A U H ∧ va_T .int E.2.2.2.2.1 17 (fun j => .int (gSin j)) A U H ∧ va_Z "java/lang/String" "COMPACT_STRINGS" "Z" (.int 1) A U H ∧ va_Zq "jdk/internal/util/Preconditions" "SIOOBE_FORMATTER" "Ljava/util/function/BiFunction;" A U H ∧
    vk_S 14 gLen gByt E.2.2.2.2.2.1 E.2.2.2.2.2.2 A U H ∧ (∀ (i : Nat) (q : Nat × String), gStr[i]? = some q → vk_R "HarborLight$Text" q.1 q.2 (E.2.2.2.2.2.1 i) U) ∧ (∀ (i : Nat) (q : String × Nat × String × String × String), gNF[i]? = some q → va_Nw (.fieldLinkNest q.1 q.2.1 q.2.2.1 q.2.2.2.1 q.2.2.2.2 "HarborLight") U) ∧ (∀ (i : Nat) (q : String × Nat × MethodName), gNM[i]? = some q → va_Nw (.methodLinkNest q.1 q.2.1 q.2.2 "HarborLight") U) ∧ va_AO "HarborLight$State" U
theorem gZ.pass {E : GE} {A B : Nat → Prop} {s U : State} {H : Heap} {locs : List Loc} (h : gZ E A s s.heap) (hS : va_S A s.heap H locs) (hAB : ∀ q, B q → A q) (hU : U.heap = H) (hW : s.WarmedH U.vm) : gZ E B U U.heap := by
  obtain ⟨h1, h2, h3, h4, h5, h6, h7, h8, h9⟩ := h
  rw [hU]
  exact ⟨((h1.kept hS.2.1).narrow hAB).moved hW.alike, ((h2.kept hS.2.1).narrow hAB).moved hW.alike, ((h3.kept hS.2.1).narrow hAB).moved hW.alike, ((h4.kept hS.2.1).narrow hAB).moved hW.alike, ((h5.kept hS.2.1).narrow hAB).moved hW.alike, fun i q hq => (h6 i q hq).warm hW, fun i q hq => (h7 i q hq).warmF hW, fun i q hq => (h8 i q hq).warmM hW, h9.moved hW.alike⟩
theorem gZ.calling {E : GE} {A : Nat → Prop} {U : State} {g : JFrame} {mk : MethodId} {a : Array Value} (h : gZ E A U U.heap) : gZ E A (U.calling g mk a) (U.calling g mk a).heap := by
  obtain ⟨h1, h2, h3, h4, h5, h6, h7, h8, h9⟩ := h
  exact ⟨h1.moved (u := U) (U := U.calling g mk a) (Vm.Alike.refl U.vm), h2.moved (u := U) (U := U.calling g mk a) (Vm.Alike.refl U.vm), h3.moved (u := U) (U := U.calling g mk a) (Vm.Alike.refl U.vm), h4.moved (u := U) (U := U.calling g mk a) (Vm.Alike.refl U.vm), h5.moved (u := U) (U := U.calling g mk a) (Vm.Alike.refl U.vm), fun i q hq => (h6 i q hq).same (u := U) (U := U.calling g mk a) rfl, fun i q hq => (h7 i q hq).same rfl (U := U.calling g mk a) rfl, fun i q hq => (h8 i q hq).same rfl (U := U.calling g mk a) rfl, h9.moved (u := U) (U := U.calling g mk a) (Vm.Alike.refl U.vm)⟩
/-! contracts -/
def gPc (E : GE) (av : List Value) (sz : Nat) (W : va_W) : Array Value → State → Prop := va_Pc av (fun U => U.heap.size = sz ∧ va_P E.1 vwCl W U.heap ∧ gK E U ∧ va_D (fun _ => True) W ∧ gZ E (va_A W sz) U U.heap)
def gQ (E : GE) (rv : Option Value) (W1 : va_W) (A : Nat → Prop) : Array Value → State → Outcome → State → Prop := fun _ st oc t => (oc = .returned rv ∧ va_P E.1 vwCl W1 t.heap ∧ va_D A W1) ∧ va_F A st t
/-- the contract: on the cells W, at these arguments, it answers rv and leaves the cells W1 -/
def CT (l : Launch) (E : GE) (y : MethodName) (ws : List Cond) (rm : Room) (av : List Value) (W : va_W) (rv : Option Value) (W1 : va_W) (mc ms : Nat) : Prop :=
  ∀ sz : Nat, Met l y ws rm (gPc E av sz W) (gQ E rv W1 (va_A W sz)) mc ms (va_A W sz)
theorem gPc_blind (E : GE) (av : List Value) (sz : Nat) (W : va_W) : FrameBlind (gPc E av sz W) := by
  intro a U g mk h
  obtain ⟨q0, q1, qP, qK, qD, qZ⟩ := h
  exact ⟨q0, q1, qP, va_K.moved (u := U) (U := U.calling g mk a) (Vm.Alike.refl U.vm) qK, qD, qZ.calling⟩
def gE (below : List Frame) (args : Array Value) (s : State) (E : GE) (rv : Option Value) (W1 : va_W) (A : Nat → Prop) (mc ms : Nat) : State → Prop := MQ below (gQ E rv W1 A) args s mc ms A
/-- what a method's body may rest on -/
def gB (p : Program) (s : State) (m : MethodId) (args : Array Value) (meth : Method) (c : Code) (E : GE) (A : Nat → Prop) (ws : List Cond) (cc : ByteArray) (maxL : Nat) (ret : Option FieldType) (own : String) (nm : String) : Prop :=
  p.tables.exec = Jvm.exec ∧ c.code = cc ∧ c.maxLocals = maxL ∧ s.vm.findClass own = some m.cls ∧ (∀ w ∈ ws, w.before args s = true) ∧ meth.sig.returnType = ret ∧ meth.locks = false ∧ gK E s ∧ gZ E A s s.heap ∧ (∀ q : Nat, s.heap.size ≤ q → A q) ∧ meth.name = nm
theorem CT.of {l : Launch} {E : GE} {y : MethodName} {ws ws' : List Cond} {rm : Room} {av : List Value} {W0 : va_W} {rv : Option Value} {W1 : va_W} {mc ms : Nat} {cc : ByteArray} {maxL : Nat} {ret : Option FieldType}
    (hy : plainName y.cls = true) (hw : ws = Cond.code y cc maxL ret :: ws') (hn : (lg_sl av).length ≤ maxL)
    (body : ∀ (p : Program) (e : Env) (s : State) (m : MethodId) (args : Array Value) (below : List Frame) (meth : Method) (c : Code) (A : Nat → Prop) (Q : State → Prop) (ls : Array Slot), gB p s m args meth c E A ws cc maxL ret y.cls y.name → gE below args s E rv W1 A mc ms = Q → va_P E.1 vwCl W0 s.heap → va_D A W0 → va_S A s.heap s.heap [] → lv_has ls maxL (lv_args 0 av) →
      W p l e rm s m args below meth c s.heap [] 0 0 Q (F0 m 0 ls [])) : CT l E y ws rm av W0 rv W1 mc ms := by
  intro sz
  refine Met.ofW (cc := cc) (maxL := maxL) (ret := ret) hy hw ?_
  intro p e s m args below meth c s₁ B hml hv
  obtain ⟨rfl, hsz, hP, hK, hD0, hZ⟩ := hv
  subst hsz
  have hD := hD0.self (sz := s.heap.size)
  have hl := lv_entry av (n := maxL) hn
  rw [lg_entry_eq]
  exact body p e s m _ below meth c (va_A W0 s.heap.size) _ _ ⟨B.exec, B.bytes, hml, findClass_of_methodNamed B.named, atoms_spec (ws := ws) B.pre, B.returns, B.notSynchronized, hK, hZ, fun q h => Or.inr h, (name_of_methodNamed B.named B.method).1⟩ rfl hP hD va_S.rf hl
