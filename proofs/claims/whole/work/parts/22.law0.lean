/-! THE CLAIM OUT OF ONE WALK OF THE LAW'S BODY. Your part is whole_start (and what it stands on); all else here is the same for every law, but numbers. -/
def R_law : String := "TollsForLateLaw"
def lw_P (b : Addr) (xs : List Int32) (args : Array Value) (s : State) : Prop := args = #[.ref b] ∧ s.IntsAt b xs ∧ xs.length ≤ 3072 ∧ (Jvm.Cond.and given_1 narrow_1).before args s = true
def lw_Q (_ : Array Value) (s : State) (o : Outcome) (t : State) : Prop := o = .returned (some (.int 1)) ∧ Framed s o t [] 600000 7302250
def lw_Z (below : List Frame) (a : Array Value) (s : State) : State → Prop := fun t => ∃ o, t.status = .running ∧ Ended t below o ∧ lw_Q a s o t
/-- the law's own end, with 1 on the stack, nothing written that was there before, its room as the claim has it -/
theorem lw_ret {p : Program} {l : Launch} {e : Env} {s : State} {m : MethodId} {below : List Frame} {meth : Method} {c : Code} {b : Nat} (hx : p.tables.exec = Jvm.exec) (hb : c.code = code) (hr : meth.sig.returnType = ret) (hlocks : meth.locks = false) {pc : Nat} {H : Heap} {ls : Array Slot} (hdg : decode code pc = .ok (.ireturn, 1)) : W p l e room_1 s m #[Value.ref b] below meth c H [] 600000 7302250 (lw_Z below #[Value.ref b] s) (F0 m pc ls [.int 1]) := by
  intro T hT X
  obtain ⟨fs, hret, hrun, hended, hW, hframe⟩ := X.leave (v := some (.int 1)) (hlocks := hlocks) (fun h => by rw [hr] at h; cases h)
  have hmeth' : T.vm.method? m = some meth := X.method'
  refine ⟨T.setFrames fs, ?_, .returned (some (.int 1)), hrun, hended, rfl, ⟨_, rfl⟩, hW, hframe⟩
  jvm_step X.here [X.here.top, hx, hb, hdg, hmeth', hr, ret, narrow_b1]
  (try refine ⟨rfl, ?_⟩); (try refine ⟨rfl, ?_⟩)
  first | (intro acts; rw [hret _ acts rfl rfl rfl]) | rw [hret _ _ rfl rfl rfl]
  exact Steps.refl _
/-- what holds at the law's entry: the machine, the code, the tables' words (any of lw_tbl by 'hts w (by decide +kernel)'), the script of L ints xs at the cell b, what the Statement gives of the start (any of its parts by flat_of_before) -/
def lw_At (p : Program) (s : State) (m : MethodId) (meth : Method) (c : Code) (b L : Nat) (xs : Nat → Int32) : Prop :=
  p.tables.exec = Jvm.exec ∧ c.code = code ∧ meth.sig.returnType = ret ∧ c.maxLocals = 4 ∧ s.vm.findClass R_law = some m.cls ∧ (∀ w ∈ lw_tbl, w.before #[Value.ref b] s = true) ∧ va_X b L xs s s.heap ∧ b < s.heap.size ∧ meth.locks = false ∧ (Jvm.Cond.and given_1 narrow_1).before #[Value.ref b] s = true
/-- the law's script, below the base -/
def Lx (x : GX) (b L : Nat) (xs : Nat → Int32) : Prop := va_X b L xs x.1.2.2.2.1 x.1.2.2.2.1.heap ∧ b < x.1.2.2.2.1.heap.size ∧ x.2.1.2.2.2.2.1 = x.1.2.2.2.1.heap ∧ x.2.1.2.2.2.1 = x.1.2.2.2.1.heap.size ∧ x.1.2.2.2.2.2.1 = #[Value.ref b] ∧ x.2.2.1 = lw_Z x.1.2.2.2.2.2.2.1 #[Value.ref b] x.1.2.2.2.1 ∧ x.1.2.2.2.2.2.2.2.1.sig.returnType = ret ∧ x.1.2.2.2.2.2.2.2.1.locks = false
theorem rm_okL {e c s mL : Nat} (h : e ≤ 400) (hm : mL ≤ 45) : (rmc e c s).frames + 1 ≤ room_1.frames ∧ 8 + (mL + 11) + (rmc e c s).locals ≤ room_1.locals := by
  show e + 2 + 1 ≤ 2048 ∧ 8 + (mL + 11) + 64 * (e + 2) ≤ 84000
  omega
section R10a
variable {x : GX} {cc : ByteArray} {own : String} {nL : Nat} {rm : Room} {pc : Nat} {ls : List (Nat × Value)} {st : List Value} {μ : Me} {k j : Nat}
theorem q_iinc (f : Fx x cc own nL rm) (hc : ∀ q ∈ ls, q.2.category = 1) {i : Nat} {n : Int} {v : Int32} (p : Nat) (c : Int32) (d : decode cc pc = .ok (.iinc i n, 3)) (hp : ls[p]? = some (i, .int v)) (hc2 : Int32.ofInt n = c) (hn : i < nL) (h : G x nL (pc + 3) (lsq i (.int (v + c)) ls) st μ k j) : G x nL pc ls st μ k j := g_iinc f p (v + c) _ d hp (by rw [hc2]) hn (lst_q hc) h
end R10a
section R10
variable {x : GX} {nL : Nat} {pc : Nat} {ls : List (Nat × Value)} {st : List Value} {μ : Me} {k j b L : Nat} {xs : Nat → Int32}
theorem lx_S (hl : Lx x b L xs) {H : Heap} {locs : List Loc} (a1 : HdO x.2.1 μ H) (a3 : ∀ q ∈ locs, oB x.2.1 ≤ q.base) : va_S (fun q => oB x.2.1 ≤ q) x.1.2.2.2.1.heap H locs := by
  obtain ⟨h1, h2, h3, h4, h5, h6, h7, h8⟩ := hl
  refine ⟨?_, fun q hq _ => ?_, a3⟩
  · rw [← h4]
    have := a1.1
    omega
  · rw [← h3]
    exact a1.2.1 q (by rw [h4]; exact hq)
theorem g_sld {cc : ByteArray} {own : String} {rm : Room} (f : Fx x cc own nL rm) (hl : Lx x b L xs) {i : Int32} {P : Prop} (d : decode cc pc = .ok (.iaload, 1)) (h : vp_in i L ∧ P) (kk : P → G x nL (pc + 1) ls (.int (xs i.toNatClampNeg) :: st) μ k j) : G x nL pc ls (.int i :: .ref b :: st) μ k j := fun H locs la a1 a2 a3 a4 =>
  va_sld f.1 f.2.1 hl.1 hl.2.1 (show ¬ oB x.2.1 ≤ b by have := hl.2.1; have h4 := hl.2.2.2.1; unfold oB; omega) (lx_S hl a1 a3) h.1 d (kk h.2 H locs la a1 a2 a3 a4)
theorem g_sln {cc : ByteArray} {own : String} {rm : Room} (f : Fx x cc own nL rm) (hl : Lx x b L xs) (d : decode cc pc = .ok (.arraylength, 1)) (h : G x nL (pc + 1) ls (.int (nI L) :: st) μ k j) : G x nL pc ls (.ref b :: st) μ k j := fun H locs la a1 a2 a3 a4 =>
  va_slen f.1 f.2.1 hl.1 hl.2.1 (show ¬ oB x.2.1 ≤ b by have := hl.2.1; have h4 := hl.2.2.2.1; unfold oB; omega) (lx_S hl a1 a3) d (h H locs la a1 a2 a3 a4)
theorem g_lawret {own : String} {rm : Room} (f : Fx x code own nL rm) (hl : Lx x b L xs) {a : Int32} (hk : k ≤ 600000) (hj : j ≤ 7302250) (hR : rm = room_1) (d : decode code pc = .ok (.ireturn, 1)) (h : a = 1) : G x nL pc ls [.int a] μ k j := by
  obtain ⟨⟨p, e, R, s, m, args, below, meth, cd⟩, ⟨l, D, cy, B, H0, sk⟩, Qf, μ0⟩ := x
  obtain ⟨hx, hb, hml, hown, hts, hK, hRm⟩ := f
  obtain ⟨h1, h2, h3, h4, h5, h6, h7, h8⟩ := hl
  dsimp only at *
  subst hRm hR h
  intro H locs la a1 a2 a3 a4
  dsimp only at a1 a2 a3 ⊢
  subst h5 h6
  refine va_forget (fun q hq => by rw [← h4]; exact a3 q hq) ?_
  exact W.widen hk hj (lw_ret hx hb h7 h8 d)
end R10
