/-! rows of new objects and arrays, copies, calls -/
theorem hd_lt {Ω : OM} {H : Heap} {ν : Me} (h : HdO Ω ν H) : H.size = oB Ω + mnn ν := h.1
section R4
variable {x : GX} {cc : ByteArray} {own : String} {nL : Nat} {rm : Room} {pc : Nat} {ls : List (Nat × Value)} {st : List Value} {μ : Me} {k j : Nat}
theorem g_aast (f : Fx x cc own nL rm) {o c v cv : Nat} {i : Int32} {P : Me → Prop} (ho : mok μ o c) (hv : mok μ v cv) (hc : (c = 15 ∧ cv = 3) ∨ (c = 16 ∧ cv = 7)) (d : decode cc pc = .ok (.aastore, 1)) (h : vp_in i (mln μ o) ∧ ∀ ν, ν = msr μ o i.toNatClampNeg (some v) → P ν) (kk : P (msr μ o i.toNatClampNeg (some v)) → G x nL (pc + 1) ls st (msr μ o i.toNatClampNeg (some v)) k j) : G x nL pc ls (.ref (gB x + v) :: .int i :: .ref (gB x + o) :: st) μ k j := by
  obtain ⟨⟨p, e, R, s, m, args, below, meth, cd⟩, ⟨l, D, cy, B, H0, sk⟩, Qf, μ0⟩ := x
  obtain ⟨hx, hb, hml, hown, hts, hK, -⟩ := f
  obtain ⟨hin, h⟩ := h
  intro H locs la a1 a2 a3 a4
  have hlt : i.toNatClampNeg < mln μ o := Nat.not_le.mp fun q => hin (Or.inr q)
  have h0 : ¬ i < 0 := fun q => hin (Or.inl q)
  have key : ∀ (t0 : Nat) (C : String) (q : vw_C), 12 ≤ c → mty c i.toNatClampNeg = 2 → cv < 12 → vwCl[cv]? = some q → q.1 = C → (mtys cy)[t0]? = some (cy c, .object C) → W p l e R s m args below meth cd H locs k j Qf (F0 m pc la (.ref (B + v) :: .int i :: .ref (B + o) :: st)) := by
    intro t0 C q hc12 hmt hcv hq hqC ht
    have hvc := (a1.2.2 v hv.1).1 (by rw [hv.2]; exact hcv)
    rw [hv.2] at hvc
    obtain ⟨cellV, g1, g2, g3, -⟩ := hvc
    have hcls := (hK.1.1 cv q hq).2
    obtain ⟨kA, comp, k1, k2, k3, -⟩ := (hK.1.2 t0 _ ht).2
    rw [hqC] at hcls
    have hcomp : comp = D.1 cv := Option.some.inj (k3.symm.trans hcls.1)
    subst hcomp
    obtain ⟨kC, hkC, -⟩ := hcls.2
    refine W.aast hx hb (mat_arr (a1.2.2 o ho.1) ho hc12) (fun q h => by cases h) (fun h => by cases h) k1 k2 rfl hkC ⟨h0, by rw [arrV_size]; exact hlt⟩ g1 (fun q h => by rw [g3] at h; cases h) (by rw [g2]; exact hkC) (by rw [g2]; exact va_assign hcls) rfl rfl d fun H1 e z oq => ?_
    exact kk (h _ rfl) H1 _ la (Hd_set a1 (mof_sr μ o _ _) z oq (mat_st (mof_sr μ o _ _) ho hc12 (mva_sr hmt) e)) (mex_of a2 (mof_sr μ o _ _)) (loc_app a3) a4
  rcases hc with ⟨rfl, rfl⟩ | ⟨rfl, rfl⟩
  · exact key 3 RX3 (RX3, TX3, 9) (by decide) rfl (by decide) rfl rfl rfl
  · exact key 4 RX7 (RX7, TX7, 9) (by decide) rfl (by decide) rfl rfl rfl
/-- a class's entry for 'new' -/
def LN (own : String) (i c n : Nat) : Prop := ∃ (C : String) (T : u_T) (tf : Nat → FieldType), KC c C T n tf ∧ Cond.classLink own i C ∈ TB ∧ Cond.instantiable C n ∈ TB ∧ Cond.initialized C ∈ TB
theorem mva_nw (B : Nat) (μ : Me) (c n q : Nat) : mva B (mnw μ c n) (mnn μ) c q = mdf c q := by
  unfold mva mdf
  generalize mty c q = t
  match t with
  | 0 => simp [mgi, mnw, mro]
  | 1 => simp [mgl, mnw, mro]
  | t + 2 => simp [mgr, mnw, mro, vr]
theorem g_new (f : Fx x cc own nL rm) {i c n : Nat} {P : Me → Prop} (lk : LN own i c n) (d : decode cc pc = .ok (.new i, 3)) (hk : k + 1 ≤ rm.cells) (hj : j + n ≤ rm.slots) (h : ∀ ν, ν = mnw μ c 0 → P ν) (kk : P (mnw μ c 0) → mok (mnw μ c 0) (mnn μ) c → mex μ (mnw μ c 0) → G x nL (pc + 3) ls (.ref (gB x + mnn μ) :: st) (mnw μ c 0) (k + 1) (j + n)) : G x nL pc ls st μ k j := by
  obtain ⟨⟨p, e, R, s, m, args, below, meth, cd⟩, ⟨l, D, cy, B, H0, sk⟩, Qf, μ0⟩ := x
  obtain ⟨hx, hb, hml, hown, hts, hK, hR⟩ := f
  dsimp only at hR
  subst hR
  obtain ⟨C, T, tf, ⟨hc12, hcl, hin, hty, hnm, hdc, hdf⟩, hlink, hins, hini⟩ := lk
  intro H locs la a1 a2 a3 a4
  have hKn := hK.1.1 c _ hcl
  refine W.newcK hx hb hown (hts _ hlink) (hts _ hins) (hts _ hini) rfl d hk hj hKn.2.1 (h := B + mnn μ) a1.1 fun H1 kC hkC e1 z1 o1 => ?_
  refine kk (h _ rfl) (mok_nw μ c 0) (mex_nw μ c 0) H1 locs la (Hd_new a1 (by rw [z1, a1.1]) (fun q hq => o1 q (by rw [← a1.1]; exact hq)) ⟨fun h1 => ?_, fun h1 => ?_⟩) (mex_tr a2 (mex_nw μ c 0)) a3 a4
  · rw [(mok_nw μ c 0).2, mcN_eq hcl]
    exact (u_born tf hts hin hKn hkC e1 hty).to (fun q hq => by rw [hdf q hq, mva_nw])
  · rw [(mok_nw μ c 0).2] at h1
    omega
theorem g_newa (f : Fx x cc own nL rm) {c N cap : Nat} {n : Int32} {P : Me → Prop} (at0 : ArrayType) (hc : (c = 12 ∧ at0 = .int) ∨ (c = 13 ∧ at0 = .long) ∨ (c = 14 ∧ at0 = .boolean)) (d : decode cc pc = .ok (.newarray at0, 2)) (hw : Cond.arrayClass (newarray.typeOf at0) ∈ TB) (hn : ¬ n < 0) (hN : n.toNatClampNeg = N) (hcap : N ≤ cap) (hc2 : cap ≤ 8192) (hk : k + 1 ≤ rm.cells) (hj : j + cap ≤ rm.slots) (h : ∀ ν, ν = mnw μ c N → P ν) (kk : P (mnw μ c N) → mok (mnw μ c N) (mnn μ) c → mex μ (mnw μ c N) → G x nL (pc + 2) ls (.ref (gB x + mnn μ) :: st) (mnw μ c N) (k + 1) (j + cap)) : G x nL pc ls (.int n :: st) μ k j := by
  obtain ⟨⟨p, e, R, s, m, args, below, meth, cd⟩, ⟨l, D, cy, B, H0, sk⟩, Qf, μ0⟩ := x
  obtain ⟨hx, hb, hml, hown, hts, hK, hR⟩ := f
  dsimp only at hR
  subst hR
  intro H locs la a1 a2 a3 a4
  have hby : N * componentBytes (newarray.typeOf at0) ≤ 536870912 := by
    rcases hc with ⟨-, rfl⟩ | ⟨-, rfl⟩ | ⟨-, rfl⟩ <;> simp only [newarray.typeOf, componentBytes] <;> omega
  refine va_newaK hx hb (hts _ hw) rfl d rfl hn hN hby hk (Nat.le_trans (Nat.add_le_add_left hcap j) hj) (h := B + mnn μ) a1.1 fun H1 cA e1 z1 o1 hAr hNm => ?_
  refine W.widen (Nat.le_refl _) (Nat.add_le_add_left hcap j) ?_
  refine kk (h _ rfl) (mok_nw μ c N) (mex_nw μ c N) H1 locs la (Hd_new a1 (by rw [z1, a1.1]) (fun q hq => o1 q (by rw [← a1.1]; exact hq)) ⟨fun h1 => ?_, fun h1 => ?_⟩) (mex_tr a2 (mex_nw μ c N)) a3 a4
  · rw [(mok_nw μ c N).2] at h1
    rcases hc with ⟨rfl, -⟩ | ⟨rfl, -⟩ | ⟨rfl, -⟩ <;> omega
  · rw [(mok_nw μ c N).2, show mln (mnw μ c N) (mnn μ) = N from if_pos rfl, e1]
    have hv : mva B (mnw μ c N) (mnn μ) c = fun _ => defaultValue (newarray.typeOf at0) := by
      funext q
      rw [mva_nw]
      rcases hc with ⟨rfl, rfl⟩ | ⟨rfl, rfl⟩ | ⟨rfl, rfl⟩ <;> rfl
    have hcA : cA = cy c := by
      rcases hc with ⟨rfl, rfl⟩ | ⟨rfl, rfl⟩ | ⟨rfl, rfl⟩
      · exact Option.some.inj (hNm.symm.trans (hK.1.2 0 _ rfl).2)
      · exact Option.some.inj (hNm.symm.trans (hK.1.2 1 _ rfl).2)
      · exact Option.some.inj (hNm.symm.trans (hK.1.2 2 _ rfl).2)
    rw [hv, hcA]
theorem g_anew (f : Fx x cc own nL rm) {i c N : Nat} {n : Int32} {C : String} {P : Me → Prop} (hc : (c = 15 ∧ C = RX3) ∨ (c = 16 ∧ C = RX7)) (d : decode cc pc = .ok (.anewarray i, 3)) (hw : Cond.classLink own i C ∈ TB) (hn : ¬ n < 0) (hN : n.toNatClampNeg = N) (hcap : N ≤ 8192) (hk : k + 1 ≤ rm.cells) (hj : j + N ≤ rm.slots) (h : ∀ ν, ν = mnw μ c N → P ν) (kk : P (mnw μ c N) → mok (mnw μ c N) (mnn μ) c → mex μ (mnw μ c N) → G x nL (pc + 3) ls (.ref (gB x + mnn μ) :: st) (mnw μ c N) (k + 1) (j + N)) : G x nL pc ls (.int n :: st) μ k j := by
  obtain ⟨⟨p, e, R, s, m, args, below, meth, cd⟩, ⟨l, D, cy, B, H0, sk⟩, Qf, μ0⟩ := x
  obtain ⟨hx, hb, hml, hown, hts, hK, hR⟩ := f
  dsimp only at hR
  subst hR
  subst hN
  have hao : va_AO C s := by
    rcases hc with ⟨-, rfl⟩ | ⟨-, rfl⟩
    · exact hK.2.1
    · exact hK.2.2.1
  intro H locs la a1 a2 a3 a4
  refine W.anew hx hb hown (hts _ hw) (va_AO.use hao) rfl d rfl hn (by omega) hk hj fun cA kA comp f1 f2 f3 f4 => ?_
  generalize hH1 : H.push ({ cls := cA, slots := Array.replicate n.toNatClampNeg .null, vm := .none } : Cell) = H1
  have z1 : H1.size = H.size + 1 := by rw [← hH1, Array.size_push]
  have e1 : H1[H.size]? = some (arrV cA n.toNatClampNeg (fun _ => .null)) := by rw [← hH1, Array.getElem?_push_size, ← arrV_new]
  have o1 : ∀ q : Nat, q < H.size → H1[q]? = H[q]? := fun q hq => by rw [← hH1, Array.getElem?_push, if_neg (Nat.ne_of_lt hq)]
  have hz : H.size = B + mnn μ := a1.1
  rw [hz] at e1
  show W p l e R s m args below meth cd H1 locs (k + 1) (j + n.toNatClampNeg) Qf (F0 m (pc + 3) la (.ref H.size :: st))
  rw [hz]
  refine kk (h _ rfl) (mok_nw μ c _) (mex_nw μ c _) H1 locs la (Hd_new a1 z1 o1 ⟨fun h1 => ?_, fun h1 => ?_⟩) (mex_tr a2 (mex_nw μ c _)) a3 a4
  · rw [(mok_nw μ c _).2] at h1
    rcases hc with ⟨rfl, -⟩ | ⟨rfl, -⟩ <;> omega
  · rw [(mok_nw μ c _).2, show mln (mnw μ c n.toNatClampNeg) (mnn μ) = n.toNatClampNeg from if_pos rfl, e1]
    have hv : mva B (mnw μ c n.toNatClampNeg) (mnn μ) c = fun _ => .null := by
      funext q
      rw [mva_nw]
      rcases hc with ⟨rfl, -⟩ | ⟨rfl, -⟩ <;> rfl
    have hcA : cA = cy c := by
      rcases hc with ⟨rfl, rfl⟩ | ⟨rfl, rfl⟩
      · obtain ⟨_, _, -, -, -, k4⟩ := (hK.1.2 3 _ rfl).2
        exact Option.some.inj (f1.symm.trans k4)
      · obtain ⟨_, _, -, -, -, k4⟩ := (hK.1.2 4 _ rfl).2
        exact Option.some.inj (f1.symm.trans k4)
    rw [hv, hcA]
theorem g_objInit (f : Fx x cc own nL rm) {i a : Nat} (hw : Cond.methodLink own i objectInit ∈ TB) (hw2 : Cond.instanceMethod objectInit ∈ TB) (hw3 : Cond.code objectInit ⟨#[0xb1]⟩ 1 none ∈ TB) (d : decode cc pc = .ok (.invokespecial i, 3)) (hfr : 1 ≤ rm.frames) (hlo : (st.map fun v => v.category).sum + 12 ≤ rm.locals) (h : G x nL (pc + 3) ls st μ k j) : G x nL pc ls (.ref a :: st) μ k j := by
  obtain ⟨⟨p, e, R, s, m, args, below, meth, cd⟩, ⟨l, D, cy, B, H0, sk⟩, Qf, μ0⟩ := x
  obtain ⟨hx, hb, hml, hown, hts, hK, hR⟩ := f
  dsimp only at hR
  subst hR
  intro H locs la a1 a2 a3 a4
  exact W.objInit hx hb hown (hts _ hw) (hts _ hw2) (hts _ hw3) rfl (by show la.size = _; rw [a4.1]; exact hml.symm) rfl d hfr (by show 2 * 0 + _ + 12 ≤ R.locals; omega) (h H locs la a1 a2 a3 a4)
end R4
/-- a method as an entry of a class's pool names it -/
def LM (own : String) (i : Nat) (y : MethodName) (cc : ByteArray) (mL : Nat) (ret : Option FieldType) (n : Nat) : Prop := Cond.methodLink own i y ∈ TB ∧ Cond.code y cc mL ret ∈ TB ∧ Cond.initialized y.cls ∈ TB ∧ (y.cls ≠ "java/lang/invoke/MethodHandle" ∧ y.cls ≠ "java/lang/invoke/VarHandle" ∧ (parseMethodDescriptor y.desc).map (fun d => d.parameters.length) = some n)
def LVm (own : String) (i c : Nat) (y : MethodName) (cc : ByteArray) (mL : Nat) (ret : Option FieldType) (n : Nat) : Prop := LM own i y cc mL ret n ∧ Cond.instanceMethod y ∈ TB ∧ Cond.selects y.cls y y ∈ TB ∧ c < 12 ∧ vwCl[c]?.map (fun z => z.1) = some y.cls
def LSm (own : String) (i : Nat) (y : MethodName) (cc : ByteArray) (mL : Nat) (ret : Option FieldType) (n : Nat) : Prop := LM own i y cc mL ret n ∧ Cond.static y ∈ TB
def LIm (own : String) (i : Nat) (y : MethodName) (cc : ByteArray) (mL n : Nat) : Prop := LM own i y cc mL none n ∧ Cond.instanceMethod y ∈ TB ∧ y.name = "<init>"
/-- the same of a nest mate's private one -/
def LN0 (own : String) (i : Nat) (y : MethodName) (cc : ByteArray) (mL : Nat) (ret : Option FieldType) (n : Nat) : Prop := (own, i, y, RX10) ∈ nestL ∧ Cond.code y cc mL ret ∈ TB ∧ Cond.initialized y.cls ∈ TB ∧ (y.cls ≠ "java/lang/invoke/MethodHandle" ∧ y.cls ≠ "java/lang/invoke/VarHandle" ∧ (parseMethodDescriptor y.desc).map (fun d => d.parameters.length) = some n)
def LSn (own : String) (i : Nat) (y : MethodName) (cc : ByteArray) (mL : Nat) (ret : Option FieldType) (n : Nat) : Prop := LN0 own i y cc mL ret n ∧ Cond.static y ∈ TB
def LIn (own : String) (i : Nat) (y : MethodName) (cc : ByteArray) (mL n : Nat) : Prop := LN0 own i y cc mL none n ∧ Cond.instanceMethod y ∈ TB ∧ y.name = "<init>"
theorem tb_good2 {y : MethodName} {cc : ByteArray} {mL : Nat} {ret : Option FieldType} (h : Cond.code y cc mL ret ∈ TB) : GoodIn TB (.code y cc mL ret :: TB) := by
  intro w hw
  have hw' : w ∈ TB := by
    rcases List.mem_cons.mp hw with rfl | h2
    · exact h
    · exact h2
  exact ⟨hw', good_of_word (tb_good w hw')⟩
section R5
variable {x : GX} {cc : ByteArray} {own : String} {nL : Nat} {rm : Room} {pc : Nat} {ls : List (Nat × Value)} {st : List Value} {μ : Me} {k j : Nat}
/-- behind a call -/
theorem g_back {p : Program} {l : Launch} {e : Env} {R : Room} {s : State} {m : MethodId} {args : Array Value} {below : List Frame} {meth : Method} {c : Code} {D : va_G} {cy : Nat → ClassId} {B : Nat} {H0 H : Heap} {sk : (Nat → Nat) × (Nat → Nat)} {Qf : State → Prop} {μ0 : Me} {locs : List Loc} {la : Array Slot} {mc ms : Nat} {Qv : Option Value → Me → Prop} {rest : List Value}
    (hr : va_Run p l e R s m args below meth c H locs k j mc ms (F0 m pc la st) rest (fun (_ : State) (o : Outcome) (t : State) => ∃ (v : Option Value) (ν : Me), o = .returned v ∧ mex μ ν ∧ Qv v ν ∧ HdO (l, D, cy, B, H0, sk) ν t.heap) (fun q => B ≤ q))
    (a2 : mex μ0 μ) (a3 : ∀ q ∈ locs, B ≤ q.base) (a4 : lv_has la nL ls)
    (kk : ∀ (v : Option Value) (ν : Me), mex μ ν → Qv v ν → G ((p, e, R, s, m, args, below, meth, c), (l, D, cy, B, H0, sk), Qf, μ0) nL (pc + 3) ls (v.toList ++ rest) ν (k + mc) (j + ms)) :
    W p l e R s m args below meth c H locs k j Qf (F0 m pc la st) := by
  intro T hT X
  obtain ⟨v, st₀, t, T', L, h0, X', hL, e1, e2, ⟨v', ν, hv, hx, hq, hH⟩, stp⟩ := hr T hT X
  cases hv
  obtain ⟨t2, b1, b2⟩ := kk v ν hx hq T'.heap (locs ++ L) la (by rw [e1]; exact hH) (mex_tr a2 hx) (fun q hq => by
    rcases List.mem_append.mp hq with h | h
    · exact a3 q h
    · exact hL q h) a4 T' rfl X'
  exact ⟨t2, stp t2 b1, b2⟩
theorem ct_pre {Ω : OM} {s : State} {H : Heap} {av : List Value} (hH : HdO Ω μ H) (hK : KK Ω s) : FrameBlind (fun v U => v = av.toArray ∧ HdO Ω μ U.heap ∧ KK Ω U) ∧ ∀ U : State, U.heap = H → s.WarmedH U.vm → (av.toArray = av.toArray ∧ HdO Ω μ U.heap ∧ KK Ω U) :=
  ⟨fun a U g mk q => ⟨q.1, q.2.1, KK_same rfl q.2.2⟩, fun U hU hW => ⟨rfl, by rw [hU]; exact hH, KK_warm hW hK⟩⟩
theorem g_callV (f : Fx x cc own nL rm) {i c n o mL : Nat} {y : MethodName} {cb : ByteArray} {ret : Option FieldType} {rc : Room} {As rest : List Value} {Qv : Option Value → Me → Prop} (lk : LVm own i c y cb mL ret n) (ho : mok μ o c) (hM : CT (gO x) y cb mL ret rc (.ref (gB x + o) :: As) μ Qv) (d : decode cc pc = .ok (.invokevirtual i, 3)) (hst : st = As.reverse ++ .ref (gB x + o) :: rest) (hn : As.length = n) (hw : (rest.map fun v => v.category).sum ≤ 8) (hR : rc.frames + 1 ≤ rm.frames ∧ 8 + (mL + 11) + rc.locals ≤ rm.locals) (hc : k + rc.cells ≤ rm.cells ∧ j + rc.slots ≤ rm.slots)
    (kk : ∀ (v : Option Value) (ν : Me), mex μ ν → Qv v ν → G x nL (pc + 3) ls (v.toList ++ rest) ν (k + rc.cells) (j + rc.slots)) : G x nL pc ls st μ k j := by
  obtain ⟨⟨p, e, R, s, m, args, below, meth, cd⟩, ⟨l, D, cy, B, H0, sk⟩, Qf, μ0⟩ := x
  obtain ⟨hx, hb, hml, hown, hts, hK, hRm⟩ := f
  dsimp only at hRm
  subst hRm
  obtain ⟨⟨l1, l2, l3, l4⟩, l5, l6, l7, l8⟩ := lk
  intro H locs la a1 a2 a3 a4
  have hcb := callB_of (R := R) (mc := rc.cells) (ms := rc.slots) n hts (tb_good2 l2) rfl rfl rfl (hts _ l3) (hts _ l1) l4 hR
  obtain ⟨q, hq, hq1⟩ := Option.map_eq_some_iff.mp l8
  have hrv : ∃ cellB : Cell, H[B + o]? = some cellB ∧ cellB.vm.isStatics = false ∧ s.vm.findClass y.cls = some cellB.cls := by
    have hvc := (a1.2.2 o ho.1).1 (by rw [ho.2]; exact l7)
    rw [ho.2] at hvc
    obtain ⟨cell, g1, g2, g3, -⟩ := hvc
    refine ⟨cell, g1, by rw [g3]; rfl, ?_⟩
    rw [g2, ← hq1]
    exact (hK.1.1 c q hq).2.1
  have hp := ct_pre (av := .ref (B + o) :: As) a1 hK
  exact g_back (va_runV (As := As) (rest := rest) ⟨hx, hb, hml, hown, hts⟩ hM ⟨hcb, hts _ l5, hts _ l6⟩ ⟨hp.1, hrv, hp.2⟩ rfl hn a4.1 hst (lv_room hw) d hc) a2 a3 a4 kk
theorem g_callS (f : Fx x cc own nL rm) {i n mL : Nat} {y : MethodName} {cb : ByteArray} {ret : Option FieldType} {rc : Room} {As rest : List Value} {Qv : Option Value → Me → Prop} (lk : LSm own i y cb mL ret n) (hM : CT (gO x) y cb mL ret rc As μ Qv) (d : decode cc pc = .ok (.invokestatic i, 3)) (hst : st = As.reverse ++ rest) (hn : As.length = n) (hw : (rest.map fun v => v.category).sum ≤ 8) (hR : rc.frames + 1 ≤ rm.frames ∧ 8 + (mL + 11) + rc.locals ≤ rm.locals) (hc : k + rc.cells ≤ rm.cells ∧ j + rc.slots ≤ rm.slots)
    (kk : ∀ (v : Option Value) (ν : Me), mex μ ν → Qv v ν → G x nL (pc + 3) ls (v.toList ++ rest) ν (k + rc.cells) (j + rc.slots)) : G x nL pc ls st μ k j := by
  obtain ⟨⟨p, e, R, s, m, args, below, meth, cd⟩, ⟨l, D, cy, B, H0, sk⟩, Qf, μ0⟩ := x
  obtain ⟨hx, hb, hml, hown, hts, hK, hRm⟩ := f
  dsimp only at hRm
  subst hRm
  obtain ⟨⟨l1, l2, l3, l4⟩, l5⟩ := lk
  intro H locs la a1 a2 a3 a4
  have hcb := callB_of (R := R) (mc := rc.cells) (ms := rc.slots) n hts (tb_good2 l2) rfl rfl rfl (hts _ l3) (hts _ l1) l4 hR
  exact g_back (va_runS (As := As) (rest := rest) ⟨hx, hb, hml, hown, hts⟩ hM ⟨hcb, hts _ l5⟩ (ct_pre a1 hK) rfl hn a4.1 hst (lv_room hw) d hc) a2 a3 a4 kk
theorem g_callI (f : Fx x cc own nL rm) {i n o mL : Nat} {y : MethodName} {cb : ByteArray} {rc : Room} {As rest : List Value} {Qv : Option Value → Me → Prop} (lk : LIm own i y cb mL n) (hM : CT (gO x) y cb mL none rc (.ref (gB x + o) :: As) μ Qv) (d : decode cc pc = .ok (.invokespecial i, 3)) (hst : st = As.reverse ++ .ref (gB x + o) :: rest) (hn : As.length = n) (hw : (rest.map fun v => v.category).sum ≤ 8) (hR : rc.frames + 1 ≤ rm.frames ∧ 8 + (mL + 11) + rc.locals ≤ rm.locals) (hc : k + rc.cells ≤ rm.cells ∧ j + rc.slots ≤ rm.slots)
    (kk : ∀ (v : Option Value) (ν : Me), mex μ ν → Qv v ν → G x nL (pc + 3) ls (v.toList ++ rest) ν (k + rc.cells) (j + rc.slots)) : G x nL pc ls st μ k j := by
  obtain ⟨⟨p, e, R, s, m, args, below, meth, cd⟩, ⟨l, D, cy, B, H0, sk⟩, Qf, μ0⟩ := x
  obtain ⟨hx, hb, hml, hown, hts, hK, hRm⟩ := f
  dsimp only at hRm
  subst hRm
  obtain ⟨⟨l1, l2, l3, l4⟩, l5, l6⟩ := lk
  intro H locs la a1 a2 a3 a4
  have hcb := callB_of (R := R) (mc := rc.cells) (ms := rc.slots) n hts (tb_good2 l2) rfl rfl rfl (hts _ l3) (hts _ l1) l4 hR
  exact g_back (va_runI (As := As) (rest := rest) ⟨hx, hb, hml, hown, hts⟩ hM ⟨hcb, l6, hts _ l5⟩ (ct_pre a1 hK) rfl hn a4.1 hst (lv_room hw) d hc) a2 a3 a4 kk
theorem g_callSn (f : Fx x cc own nL rm) {i n mL : Nat} {y : MethodName} {cb : ByteArray} {ret : Option FieldType} {rc : Room} {As rest : List Value} {Qv : Option Value → Me → Prop} (lk : LSn own i y cb mL ret n) (hM : CT (gO x) y cb mL ret rc As μ Qv) (d : decode cc pc = .ok (.invokestatic i, 3)) (hst : st = As.reverse ++ rest) (hn : As.length = n) (hw : (rest.map fun v => v.category).sum ≤ 8) (hR : rc.frames + 1 ≤ rm.frames ∧ 8 + (mL + 11) + rc.locals ≤ rm.locals) (hc : k + rc.cells ≤ rm.cells ∧ j + rc.slots ≤ rm.slots)
    (kk : ∀ (v : Option Value) (ν : Me), mex μ ν → Qv v ν → G x nL (pc + 3) ls (v.toList ++ rest) ν (k + rc.cells) (j + rc.slots)) : G x nL pc ls st μ k j := by
  obtain ⟨⟨p, e, R, s, m, args, below, meth, cd⟩, ⟨l, D, cy, B, H0, sk⟩, Qf, μ0⟩ := x
  obtain ⟨hx, hb, hml, hown, hts, hK, hRm⟩ := f
  dsimp only at hRm
  subst hRm
  obtain ⟨⟨l1, l2, l3, l4⟩, l5⟩ := lk
  intro H locs la a1 a2 a3 a4
  have hcb := va_cnB (R := R) (mc := rc.cells) (ms := rc.slots) n hts (tb_good2 l2) rfl rfl rfl (hK.2.2.2.1 _ l1) (hts _ l3) l4 hR
  exact g_back (va_runSN (As := As) (rest := rest) ⟨hx, hb, hml, hown, hts⟩ hM ⟨hcb, hts _ l5, trivial⟩ (ct_pre a1 hK) rfl hn a4.1 hst (lv_room hw) d hc) a2 a3 a4 kk
theorem g_callIn (f : Fx x cc own nL rm) {i n o mL : Nat} {y : MethodName} {cb : ByteArray} {rc : Room} {As rest : List Value} {Qv : Option Value → Me → Prop} (lk : LIn own i y cb mL n) (hM : CT (gO x) y cb mL none rc (.ref (gB x + o) :: As) μ Qv) (d : decode cc pc = .ok (.invokespecial i, 3)) (hst : st = As.reverse ++ .ref (gB x + o) :: rest) (hn : As.length = n) (hw : (rest.map fun v => v.category).sum ≤ 8) (hR : rc.frames + 1 ≤ rm.frames ∧ 8 + (mL + 11) + rc.locals ≤ rm.locals) (hc : k + rc.cells ≤ rm.cells ∧ j + rc.slots ≤ rm.slots)
    (kk : ∀ (v : Option Value) (ν : Me), mex μ ν → Qv v ν → G x nL (pc + 3) ls (v.toList ++ rest) ν (k + rc.cells) (j + rc.slots)) : G x nL pc ls st μ k j := by
  obtain ⟨⟨p, e, R, s, m, args, below, meth, cd⟩, ⟨l, D, cy, B, H0, sk⟩, Qf, μ0⟩ := x
  obtain ⟨hx, hb, hml, hown, hts, hK, hRm⟩ := f
  dsimp only at hRm
  subst hRm
  obtain ⟨⟨l1, l2, l3, l4⟩, l5, l6⟩ := lk
  intro H locs la a1 a2 a3 a4
  have hcb := va_cnB (R := R) (mc := rc.cells) (ms := rc.slots) n hts (tb_good2 l2) rfl rfl rfl (hK.2.2.2.1 _ l1) (hts _ l3) l4 hR
  exact g_back (va_runIN (As := As) (rest := rest) ⟨hx, hb, hml, hown, hts⟩ hM ⟨hcb, l6, hts _ l5⟩ (ct_pre a1 hK) rfl hn a4.1 hst (lv_room hw) d hc) a2 a3 a4 kk
end R5
