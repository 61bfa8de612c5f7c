/-! THE JUDGEMENT G: the machine's W over a heap that holds the memory; the fixed facts of a method's run (Fx); contracts (CT); one row an instruction -/
def nestL : List (String × Nat × MethodName × String) := [(RX10, 21, yX6_init, RX10), (RX10, 32, yX7_init, RX10), (RX10, 35, yX5_init, RX10), (RX1, 11, yX3_init, RX10), (RX4, 145, yX10_isName, RX10), (RX5, 11, yX8_init, RX10), (RX5, 129, yX10_isName, RX10), (RX5, 20, yX7_init, RX10), (RX9, 45, yX3_init, RX10)]
def skT0 : String := "runs takes person ring bed up due day walk run weather who road heard fast jam of rings if then else end or xor and not"
def skT1 : String := "+-*/();<>=#"
def skL : List Nat := [skT0.toList.length, skT1.toList.length]
def skB : List (List Int32) := [skT0.toList.map (fun ch => nI ch.toNat), skT1.toList.map (fun ch => nI ch.toNat)]
def ZK (B : Nat) (H0 : Heap) (sk : (Nat → Nat) × (Nat → Nat)) (U : State) : Prop := vk_S 2 skL skB sk.1 sk.2 (fun q => B ≤ q) U H0 ∧ vk_R RX8 69 skT0 (sk.1 0) U ∧ vk_R RX8 61 skT1 (sk.1 1) U ∧ va_Z "java/lang/String" "COMPACT_STRINGS" "Z" (.int 1) (fun q => B ≤ q) U H0 ∧ va_Zq "jdk/internal/util/Preconditions" "SIOOBE_FORMATTER" "Ljava/util/function/BiFunction;" (fun q => B ≤ q) U H0
/-- what is the same in the whole run: launch, class numbers, array classes, the base, the heap below it, the String constants -/
abbrev OM : Type := Launch × va_G × (Nat → ClassId) × Nat × Heap × ((Nat → Nat) × (Nat → Nat))
def oB (Ω : OM) : Nat := Ω.2.2.2.1
def KK (Ω : OM) (U : State) : Prop := va_K Ω.2.1 vwCl (mtys Ω.2.2.1) U ∧ va_AO RX3 U ∧ va_AO RX7 U ∧ (∀ q ∈ nestL, va_Nw (.methodLinkNest q.1 q.2.1 q.2.2.1 q.2.2.2) U) ∧ ZK Ω.2.2.2.1 Ω.2.2.2.2.1 Ω.2.2.2.2.2 U ∧ Ω.2.2.2.2.1.size = Ω.2.2.2.1
theorem KK_warm {Ω : OM} {s U : State} (hW : s.WarmedH U.vm) (h : KK Ω s) : KK Ω U := by
  obtain ⟨h1, h2, h3, h4, ⟨z1, z2, z3, z4, z5⟩, h6⟩ := h
  exact ⟨h1.moved hW.alike, h2.moved hW.alike, h3.moved hW.alike, fun q hq => va_Nw.warmM hW (h4 q hq), ⟨z1.moved hW.alike, z2.warm hW, z3.warm hW, z4.moved hW.alike, z5.moved hW.alike⟩, h6⟩
theorem KK_same {Ω : OM} {s U : State} (hv : s.vm = U.vm) (h : KK Ω s) : KK Ω U := by
  obtain ⟨h1, h2, h3, h4, ⟨z1, z2, z3, z4, z5⟩, h6⟩ := h
  have hA : s.vm.Alike U.vm := by rw [hv]; exact Vm.Alike.refl _
  exact ⟨h1.moved hA, h2.moved hA, h3.moved hA, fun q hq => va_Nw.same rfl hv (h4 q hq), ⟨z1.moved hA, z2.same hv.symm, z3.same hv.symm, z4.moved hA, z5.moved hA⟩, h6⟩
def HdO (Ω : OM) (μ : Me) (H : Heap) : Prop := Hd Ω.2.1 Ω.2.2.1 Ω.2.2.2.1 Ω.2.2.2.2.1 μ H
/-- a contract: called with these values in this memory, the method returns, and Qv holds of what it returns and of the memory behind it -/
def CT (Ω : OM) (y : MethodName) (cc : ByteArray) (mL : Nat) (ret : Option FieldType) (rm : Room) (av : List Value) (μ : Me) (Qv : Option Value → Me → Prop) : Prop :=
  Met Ω.1 y (.code y cc mL ret :: TB) rm (fun v U => v = av.toArray ∧ HdO Ω μ U.heap ∧ KK Ω U) (fun _ _ o t => ∃ (v : Option Value) (ν : Me), o = .returned v ∧ mex μ ν ∧ Qv v ν ∧ HdO Ω ν t.heap) rm.cells rm.slots (fun q => oB Ω ≤ q)
abbrev GX : Type := (Program × Env × Room × State × MethodId × Array Value × List Frame × Method × Code) × OM × (State → Prop) × Me
def gO (x : GX) : OM := x.2.1
def gB (x : GX) : Nat := oB x.2.1
def gR (x : GX) : Room := x.1.2.2.1
def G (x : GX) (nL pc : Nat) (ls : List (Nat × Value)) (st : List Value) (μ : Me) (k j : Nat) : Prop := ∀ (H : Heap) (locs : List Loc) (la : Array Slot), HdO x.2.1 μ H → mex x.2.2.2 μ → (∀ q ∈ locs, oB x.2.1 ≤ q.base) → lv_has la nL ls →
  W x.1.1 x.2.1.1 x.1.2.1 x.1.2.2.1 x.1.2.2.2.1 x.1.2.2.2.2.1 x.1.2.2.2.2.2.1 x.1.2.2.2.2.2.2.1 x.1.2.2.2.2.2.2.2.1 x.1.2.2.2.2.2.2.2.2 H locs k j x.2.2.1 (F0 x.1.2.2.2.2.1 pc la st)
/-- the fixed facts: the machine, the code, the class, the tables' words -/
def Fx (x : GX) (cc : ByteArray) (own : String) (nL : Nat) (rm : Room) : Prop := x.1.1.tables.exec = Jvm.exec ∧ x.1.2.2.2.2.2.2.2.2.code = cc ∧ x.1.2.2.2.2.2.2.2.2.maxLocals = nL ∧ x.1.2.2.2.1.vm.findClass own = some x.1.2.2.2.2.1.cls ∧ (∀ w ∈ TB, w.before x.1.2.2.2.2.2.1 x.1.2.2.2.1 = true) ∧ KK x.2.1 x.1.2.2.2.1 ∧ x.1.2.2.1 = rm
/-- how it ends -/
def Rt (x : GX) (ret : Option FieldType) (Qv : Option Value → Me → Prop) : Prop := x.1.2.2.2.2.2.2.2.1.sig.returnType = ret ∧ x.1.2.2.2.2.2.2.2.1.locks = false ∧ x.2.2.1 = MQ x.1.2.2.2.2.2.2.1 (fun _ _ o t => ∃ (v : Option Value) (ν : Me), o = .returned v ∧ mex x.2.2.2 ν ∧ Qv v ν ∧ HdO x.2.1 ν t.heap) x.1.2.2.2.2.2.1 x.1.2.2.2.1 x.1.2.2.1.cells x.1.2.2.1.slots (fun q => oB x.2.1 ≤ q)
def qI (Q : Int32 → Me → Prop) : Option Value → Me → Prop := fun v ν => ∃ r, v = some (.int r) ∧ Q r ν
def qL (Q : Int64 → Me → Prop) : Option Value → Me → Prop := fun v ν => ∃ r, v = some (.long r) ∧ Q r ν
def qV (Q : Me → Prop) : Option Value → Me → Prop := fun v ν => v = none ∧ Q ν
def qR (B : Nat) (Q : Option Nat → Me → Prop) : Option Value → Me → Prop := fun v ν => ∃ r, v = some (vr B r) ∧ Q r ν
theorem CT_of {Ω : OM} {y : MethodName} {cc : ByteArray} {mL : Nat} {ret : Option FieldType} {rm : Room} {av : List Value} {μ : Me} {Qv : Option Value → Me → Prop} {own : String} (hy : plainName y.cls = true) (hown : y.cls = own) (hav : (lg_sl av).length ≤ mL)
    (h : ∀ x : GX, gO x = Ω → Fx x cc own mL rm → Rt x ret Qv → (y.name = "<init>" → x.1.2.2.2.2.2.2.2.1.name = "<init>") → G x mL 0 (lv_args 0 av) [] μ 0 0) : CT Ω y cc mL ret rm av μ Qv := by
  obtain ⟨l, D, cy, B, H0, sk⟩ := Ω
  refine Met.ofW (cc := cc) (maxL := mL) (ret := ret) hy rfl ?_
  intro p e s m args below meth c s₁ Bd hml hv
  obtain ⟨rfl, hH, hK⟩ := hv
  have hts := atoms_spec (ws := .code y cc mL ret :: TB) Bd.pre
  have hfc : s.vm.findClass own = some m.cls := by rw [← hown]; exact findClass_of_methodNamed Bd.named
  have hnm : y.name = "<init>" → meth.name = "<init>" := fun e => ((name_of_methodNamed Bd.named Bd.method).1).trans e
  have hl := lv_entry av (n := mL) hav
  rw [lg_entry_eq]
  exact h ((p, e, rm, s, m, av.toArray, below, meth, c), (l, D, cy, B, H0, sk), _, μ) rfl ⟨Bd.exec, Bd.bytes, hml, hfc, fun w hw => hts w (List.mem_cons_of_mem _ hw), hK, rfl⟩ ⟨Bd.returns, Bd.notSynchronized, rfl⟩ hnm s.heap [] _ hH (mex_rf μ) (fun q hq => by cases hq) hl
section R1
variable {x : GX} {cc : ByteArray} {own : String} {nL : Nat} {rm : Room} {pc : Nat} {ls : List (Nat × Value)} {st : List Value} {μ : Me} {k j : Nat}
theorem g_iconst (f : Fx x cc own nL rm) {n : Int} (v : Int32) (d : decode cc pc = .ok (.iconst n, 1)) (hv : Int32.ofInt n = v) (h : G x nL (pc + 1) ls (.int v :: st) μ k j) : G x nL pc ls st μ k j := fun H locs la a b c e => lv_iconst f.1 f.2.1 d hv (h H locs la a b c e)
theorem g_bipush (f : Fx x cc own nL rm) {n : Int} (v : Int32) (d : decode cc pc = .ok (.bipush n, 2)) (hv : (Int8.ofInt n).toInt32 = v) (h : G x nL (pc + 2) ls (.int v :: st) μ k j) : G x nL pc ls st μ k j := fun H locs la a b c e => lv_bipush f.1 f.2.1 d hv (h H locs la a b c e)
theorem g_sipush (f : Fx x cc own nL rm) {n : Int} (v : Int32) (d : decode cc pc = .ok (.sipush n, 3)) (hv : (Int16.ofInt n).toInt32 = v) (h : G x nL (pc + 3) ls (.int v :: st) μ k j) : G x nL pc ls st μ k j := fun H locs la a b c e => lv_sipush f.1 f.2.1 d hv (h H locs la a b c e)
theorem g_lconst (f : Fx x cc own nL rm) {n : Fin 2} (v : Int64) (d : decode cc pc = .ok (.lconst n, 1)) (hv : Int64.ofNat (n : Nat) = v) (h : G x nL (pc + 1) ls (.long v :: st) μ k j) : G x nL pc ls st μ k j := fun H locs la a b c e => lv_lconst f.1 f.2.1 d hv (h H locs la a b c e)
theorem g_ldc (f : Fx x cc own nL rm) {i : Nat} {v : Int32} (hw : Cond.constant own i v ∈ TB) (d : decode cc pc = .ok (.ldc i, 2)) (h : G x nL (pc + 2) ls (.int v :: st) μ k j) : G x nL pc ls st μ k j := fun H locs la a b c e => lv_ldc f.1 f.2.1 f.2.2.2.1 (f.2.2.2.2.1 _ hw) d (h H locs la a b c e)
theorem g_ldcw (f : Fx x cc own nL rm) {i : Nat} {v : Int32} (hw : Cond.constant own i v ∈ TB) (d : decode cc pc = .ok (.ldc_w i, 3)) (h : G x nL (pc + 3) ls (.int v :: st) μ k j) : G x nL pc ls st μ k j := fun H locs la a b c e => lv_ldcw f.1 f.2.1 f.2.2.2.1 (f.2.2.2.2.1 _ hw) d (h H locs la a b c e)
theorem g_ldc2 (f : Fx x cc own nL rm) {i : Nat} {v : Int64} (hw : Cond.constantLong own i v ∈ TB) (d : decode cc pc = .ok (.ldc2_w i, 3)) (h : G x nL (pc + 3) ls (.long v :: st) μ k j) : G x nL pc ls st μ k j := fun H locs la a b c e => lv_ldc2 f.1 f.2.1 f.2.2.2.1 (f.2.2.2.2.1 _ hw) d (h H locs la a b c e)
theorem g_iload_n (f : Fx x cc own nL rm) {q : Fin 4} {i : Nat} {v : Int32} (p : Nat) (d : decode cc pc = .ok (.iload_n q, 1)) (hi : (q : Nat) = i) (hp : ls[p]? = some (i, .int v)) (h : G x nL (pc + 1) ls (.int v :: st) μ k j) : G x nL pc ls st μ k j := fun H locs la a b c e => lv_iload_n f.1 f.2.1 d hi (lv_at e p hp) (h H locs la a b c e)
theorem g_iload (f : Fx x cc own nL rm) {i : Nat} {v : Int32} (p : Nat) (d : decode cc pc = .ok (.iload i, 2)) (hp : ls[p]? = some (i, .int v)) (h : G x nL (pc + 2) ls (.int v :: st) μ k j) : G x nL pc ls st μ k j := fun H locs la a b c e => lv_iload f.1 f.2.1 d (lv_at e p hp) (h H locs la a b c e)
theorem g_lload_n (f : Fx x cc own nL rm) {q : Fin 4} {i : Nat} {v : Int64} (p : Nat) (d : decode cc pc = .ok (.lload_n q, 1)) (hi : (q : Nat) = i) (hp : ls[p]? = some (i, .long v)) (h : G x nL (pc + 1) ls (.long v :: st) μ k j) : G x nL pc ls st μ k j := fun H locs la a b c e => lv_lload_n f.1 f.2.1 d hi (lv_at e p hp) (h H locs la a b c e)
theorem g_lload (f : Fx x cc own nL rm) {i : Nat} {v : Int64} (p : Nat) (d : decode cc pc = .ok (.lload i, 2)) (hp : ls[p]? = some (i, .long v)) (h : G x nL (pc + 2) ls (.long v :: st) μ k j) : G x nL pc ls st μ k j := fun H locs la a b c e => lv_lload f.1 f.2.1 d (lv_at e p hp) (h H locs la a b c e)
theorem g_aload_n (f : Fx x cc own nL rm) {q : Fin 4} {i : Nat} {v : Nat} (p : Nat) (d : decode cc pc = .ok (.aload_n q, 1)) (hi : (q : Nat) = i) (hp : ls[p]? = some (i, .ref v)) (h : G x nL (pc + 1) ls (.ref v :: st) μ k j) : G x nL pc ls st μ k j := fun H locs la a b c e => lv_aload_n f.1 f.2.1 d hi (lv_at e p hp) (h H locs la a b c e)
theorem g_aload (f : Fx x cc own nL rm) {i : Nat} {v : Nat} (p : Nat) (d : decode cc pc = .ok (.aload i, 2)) (hp : ls[p]? = some (i, .ref v)) (h : G x nL (pc + 2) ls (.ref v :: st) μ k j) : G x nL pc ls st μ k j := fun H locs la a b c e => lv_aload f.1 f.2.1 d (lv_at e p hp) (h H locs la a b c e)
theorem g_aload_nQ (f : Fx x cc own nL rm) {q : Fin 4} {i B : Nat} {r : Option Nat} (p : Nat) (d : decode cc pc = .ok (.aload_n q, 1)) (hi : (q : Nat) = i) (hp : ls[p]? = some (i, vr B r)) (h : G x nL (pc + 1) ls (vr B r :: st) μ k j) : G x nL pc ls st μ k j := by
  cases r with
  | none => exact fun H locs la a b c e => lv_aload_nN f.1 f.2.1 d hi (lv_at e p hp) (h H locs la a b c e)
  | some v => exact fun H locs la a b c e => lv_aload_n f.1 f.2.1 d hi (lv_at e p hp) (h H locs la a b c e)
theorem g_aloadQ (f : Fx x cc own nL rm) {i B : Nat} {r : Option Nat} (p : Nat) (d : decode cc pc = .ok (.aload i, 2)) (hp : ls[p]? = some (i, vr B r)) (h : G x nL (pc + 2) ls (vr B r :: st) μ k j) : G x nL pc ls st μ k j := by
  cases r with
  | none => exact fun H locs la a b c e => lv_aloadN f.1 f.2.1 d (lv_at e p hp) (h H locs la a b c e)
  | some v => exact fun H locs la a b c e => lv_aload f.1 f.2.1 d (lv_at e p hp) (h H locs la a b c e)
def lst (i : Nat) (v : Value) (ls : List (Nat × Value)) : List (Nat × Value) := (i, v) :: ls.filter (fun q => !(q.1 == i) && !(q.1 + 1 == i && q.2.category == 2))
def lst2 (i : Nat) (v : Value) (ls : List (Nat × Value)) : List (Nat × Value) := (i, v) :: ls.filter (fun q => !(q.1 == i) && (!(q.1 == i + 1) && !(q.1 + 1 == i && q.2.category == 2)))
theorem g_sub (l' : List (Nat × Value)) (ks : List Nat) (hl : lv_pick ls ks = l') (h : G x nL pc l' st μ k j) : G x nL pc ls st μ k j := fun H locs la a b c e => h H locs la a b c (lv_sub e ks hl)
theorem g_istore_n (f : Fx x cc own nL rm) {q : Fin 4} {i : Nat} {v : Int32} (l' : List (Nat × Value)) (d : decode cc pc = .ok (.istore_n q, 1)) (hi : (q : Nat) = i) (hn : i < nL) (hl : lst i (.int v) ls = l') (h : G x nL (pc + 1) l' st μ k j) : G x nL pc ls (.int v :: st) μ k j := fun H locs la a b c e => lv_istore_n f.1 f.2.1 d hi e hn hl (fun la' e' => h H locs la' a b c e')
theorem g_istore (f : Fx x cc own nL rm) {i : Nat} {v : Int32} (l' : List (Nat × Value)) (d : decode cc pc = .ok (.istore i, 2)) (hn : i < nL) (hl : lst i (.int v) ls = l') (h : G x nL (pc + 2) l' st μ k j) : G x nL pc ls (.int v :: st) μ k j := fun H locs la a b c e => lv_istore f.1 f.2.1 d e hn hl (fun la' e' => h H locs la' a b c e')
theorem g_lstore_n (f : Fx x cc own nL rm) {q : Fin 4} {i : Nat} {v : Int64} (l' : List (Nat × Value)) (d : decode cc pc = .ok (.lstore_n q, 1)) (hi : (q : Nat) = i) (hn : i + 1 < nL) (hl : lst2 i (.long v) ls = l') (h : G x nL (pc + 1) l' st μ k j) : G x nL pc ls (.long v :: st) μ k j := fun H locs la a b c e => lv_lstore_n f.1 f.2.1 d hi e hn hl (fun la' e' => h H locs la' a b c e')
theorem g_astore_n (f : Fx x cc own nL rm) {q : Fin 4} {i v : Nat} (l' : List (Nat × Value)) (d : decode cc pc = .ok (.astore_n q, 1)) (hi : (q : Nat) = i) (hn : i < nL) (hl : lst i (.ref v) ls = l') (h : G x nL (pc + 1) l' st μ k j) : G x nL pc ls (.ref v :: st) μ k j := fun H locs la a b c e => lv_astore_n f.1 f.2.1 d hi e hn hl (fun la' e' => h H locs la' a b c e')
theorem g_astore_nQ (f : Fx x cc own nL rm) {q : Fin 4} {i B : Nat} {r : Option Nat} (l' : List (Nat × Value)) (d : decode cc pc = .ok (.astore_n q, 1)) (hi : (q : Nat) = i) (hn : i < nL) (hl : lst i (vr B r) ls = l') (h : G x nL (pc + 1) l' st μ k j) : G x nL pc ls (vr B r :: st) μ k j := by
  cases r with
  | none => exact fun H locs la a b c e => lv_astore_nN f.1 f.2.1 d hi e hn hl (fun la' e' => h H locs la' a b c e')
  | some v => exact fun H locs la a b c e => lv_astore_n f.1 f.2.1 d hi e hn hl (fun la' e' => h H locs la' a b c e')
theorem g_astoreQ (f : Fx x cc own nL rm) {i B : Nat} {r : Option Nat} (l' : List (Nat × Value)) (d : decode cc pc = .ok (.astore i, 2)) (hn : i < nL) (hl : lst i (vr B r) ls = l') (h : G x nL (pc + 2) l' st μ k j) : G x nL pc ls (vr B r :: st) μ k j := by
  cases r with
  | none => exact fun H locs la a b c e => lv_astoreN f.1 f.2.1 d e hn hl (fun la' e' => h H locs la' a b c e')
  | some v => exact fun H locs la a b c e => lv_astore f.1 f.2.1 d e hn hl (fun la' e' => h H locs la' a b c e')
theorem g_iinc (f : Fx x cc own nL rm) {i : Nat} {n : Int} {v : Int32} (p : Nat) (w : Int32) (l' : List (Nat × Value)) (d : decode cc pc = .ok (.iinc i n, 3)) (hp : ls[p]? = some (i, .int v)) (hv : v + Int32.ofInt n = w) (hn : i < nL) (hl : lst i (.int w) ls = l') (h : G x nL (pc + 3) l' st μ k j) : G x nL pc ls st μ k j := fun H locs la a b c e => lv_iinc f.1 f.2.1 d e hp hv hn hl (fun la' e' => h H locs la' a b c e')
end R1
