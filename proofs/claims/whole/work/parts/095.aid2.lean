/-! a store beside a reference that may be null -/
def lsq (i : Nat) (v : Value) (ls : List (Nat × Value)) : List (Nat × Value) := (i, v) :: ls.filter (fun q => !(q.1 == i))
theorem lst_q {i : Nat} {v : Value} {ls : List (Nat × Value)} (h : ∀ q ∈ ls, q.2.category = 1) : lst i v ls = lsq i v ls := by
  unfold lst lsq
  congr 1
  refine List.filter_congr (fun q hq => ?_)
  simp [h q hq]
section R8
variable {x : GX} {cc : ByteArray} {own : String} {nL : Nat} {rm : Room} {pc : Nat} {ls : List (Nat × Value)} {st : List Value} {μ : Me} {k j : Nat}
theorem q_istore_n (f : Fx x cc own nL rm) {q : Fin 4} {i : Nat} {v : Int32} (hc : ∀ q ∈ ls, q.2.category = 1) (d : decode cc pc = .ok (.istore_n q, 1)) (hi : (q : Nat) = i) (hn : i < nL) (h : G x nL (pc + 1) (lsq i (.int v) ls) st μ k j) : G x nL pc ls (.int v :: st) μ k j := g_istore_n f _ d hi hn (lst_q hc) h
theorem q_istore (f : Fx x cc own nL rm) {i : Nat} {v : Int32} (hc : ∀ q ∈ ls, q.2.category = 1) (d : decode cc pc = .ok (.istore i, 2)) (hn : i < nL) (h : G x nL (pc + 2) (lsq i (.int v) ls) st μ k j) : G x nL pc ls (.int v :: st) μ k j := g_istore f _ d hn (lst_q hc) h
end R8
theorem c_int (a : Int32) : (Value.int a).category = 1 := rfl
theorem c_ref (a : Nat) : (Value.ref a).category = 1 := rfl
theorem c_long (a : Int64) : (Value.long a).category = 2 := rfl
