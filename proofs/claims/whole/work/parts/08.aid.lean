/-! rooms, continuations, small aids of the printed walks -/
def rmc (n c s : Nat) : Room := { frames := n + 2, cells := c, slots := s, locals := 64 * (n + 2) }
theorem rm_ok {e n c s c2 s2 mL : Nat} (h : e + 1 ≤ n) (hm : mL ≤ 45) : (rmc e c s).frames + 1 ≤ (rmc n c2 s2).frames ∧ 8 + (mL + 11) + (rmc e c s).locals ≤ (rmc n c2 s2).locals := by
  show e + 2 + 1 ≤ n + 2 ∧ 8 + (mL + 11) + 64 * (e + 2) ≤ 64 * (n + 2)
  omega
theorem rm_na {n c s w : Nat} (h : w ≤ 30) : w + (nativeFrameWords "java/lang/System" "arraycopy" 5 + 11) ≤ (rmc n c s).locals := by
  have e : nativeFrameWords "java/lang/System" "arraycopy" 5 ≤ 40 := by decide
  show w + (nativeFrameWords "java/lang/System" "arraycopy" 5 + 11) ≤ 64 * (n + 2)
  omega
theorem rm_fr {n c s : Nat} : 1 ≤ (rmc n c s).frames := by
  show 1 ≤ n + 2
  omega
theorem rm_mx {n c s w : Nat} (h : w ≤ 30) : w + 13 ≤ (rmc n c s).locals := by
  show w + 13 ≤ 64 * (n + 2)
  omega
theorem vr_cat (B : Nat) (r : Option Nat) : (vr B r).category = 1 := by cases r <;> rfl
/-- an int that is a boolean -/
def zb (a : Int32) : Prop := narrow .boolean (.int a) = .int a ∧ fits .boolean (.int a) = true
theorem zb_0 : zb 0 := ⟨by decide, by decide⟩
theorem zb_1 : zb 1 := ⟨by decide, by decide⟩
theorem zb_if {c : Prop} [Decidable c] : zb (if c then 1 else 0) := by split; exact zb_1; exact zb_0
section R7
variable {x : GX} {cc : ByteArray} {own : String} {nL : Nat} {rm : Room} {pc : Nat} {ls : List (Nat × Value)} {st : List Value} {μ : Me} {k j : Nat}
theorem kI {Q : Int32 → Me → Prop} (kk : ∀ (r : Int32) (ν : Me), mex μ ν → Q r ν → G x nL pc ls (.int r :: st) ν k j) : ∀ (v : Option Value) (ν : Me), mex μ ν → qI Q v ν → G x nL pc ls (v.toList ++ st) ν k j := fun v ν hx hv => by
  obtain ⟨r, rfl, h⟩ := hv
  exact kk r ν hx h
theorem kL {Q : Int64 → Me → Prop} (kk : ∀ (r : Int64) (ν : Me), mex μ ν → Q r ν → G x nL pc ls (.long r :: st) ν k j) : ∀ (v : Option Value) (ν : Me), mex μ ν → qL Q v ν → G x nL pc ls (v.toList ++ st) ν k j := fun v ν hx hv => by
  obtain ⟨r, rfl, h⟩ := hv
  exact kk r ν hx h
theorem kV {Q : Me → Prop} (kk : ∀ (ν : Me), mex μ ν → Q ν → G x nL pc ls st ν k j) : ∀ (v : Option Value) (ν : Me), mex μ ν → qV Q v ν → G x nL pc ls (v.toList ++ st) ν k j := fun v ν hx hv => by
  obtain ⟨rfl, h⟩ := hv
  exact kk ν hx h
theorem kR {B : Nat} {Q : Option Nat → Me → Prop} (kk : ∀ (r : Option Nat) (ν : Me), mex μ ν → Q r ν → G x nL pc ls (vr B r :: st) ν k j) : ∀ (v : Option Value) (ν : Me), mex μ ν → qR B Q v ν → G x nL pc ls (v.toList ++ st) ν k j := fun v ν hx hv => by
  obtain ⟨r, rfl, h⟩ := hv
  exact kk r ν hx h
theorem h_istore_n (f : Fx x cc own nL rm) {q : Fin 4} {i : Nat} {v : Int32} (d : decode cc pc = .ok (.istore_n q, 1)) (hi : (q : Nat) = i) (hn : i < nL) (h : G x nL (pc + 1) (lst i (.int v) ls) st μ k j) : G x nL pc ls (.int v :: st) μ k j := g_istore_n f _ d hi hn rfl h
theorem h_istore (f : Fx x cc own nL rm) {i : Nat} {v : Int32} (d : decode cc pc = .ok (.istore i, 2)) (hn : i < nL) (h : G x nL (pc + 2) (lst i (.int v) ls) st μ k j) : G x nL pc ls (.int v :: st) μ k j := g_istore f _ d hn rfl h
theorem h_lstore_n (f : Fx x cc own nL rm) {q : Fin 4} {i : Nat} {v : Int64} (d : decode cc pc = .ok (.lstore_n q, 1)) (hi : (q : Nat) = i) (hn : i + 1 < nL) (h : G x nL (pc + 1) (lst2 i (.long v) ls) st μ k j) : G x nL pc ls (.long v :: st) μ k j := g_lstore_n f _ d hi hn rfl h
theorem h_astore_n (f : Fx x cc own nL rm) {q : Fin 4} {i B : Nat} {r : Option Nat} (d : decode cc pc = .ok (.astore_n q, 1)) (hi : (q : Nat) = i) (hn : i < nL) (h : G x nL (pc + 1) (lst i (vr B r) ls) st μ k j) : G x nL pc ls (vr B r :: st) μ k j := g_astore_nQ f _ d hi hn rfl h
theorem h_astore (f : Fx x cc own nL rm) {i B : Nat} {r : Option Nat} (d : decode cc pc = .ok (.astore i, 2)) (hn : i < nL) (h : G x nL (pc + 2) (lst i (vr B r) ls) st μ k j) : G x nL pc ls (vr B r :: st) μ k j := g_astoreQ f _ d hn rfl h
theorem h_iinc (f : Fx x cc own nL rm) {i : Nat} {n : Int} {v : Int32} (p : Nat) (c : Int32) (d : decode cc pc = .ok (.iinc i n, 3)) (hp : ls[p]? = some (i, .int v)) (hc : Int32.ofInt n = c) (hn : i < nL) (h : G x nL (pc + 3) (lst i (.int (v + c)) ls) st μ k j) : G x nL pc ls st μ k j := g_iinc f p (v + c) _ d hp (by rw [hc]) hn rfl h
/-- only the locals that are named from here on -/
theorem h_sub {l' : List (Nat × Value)} (ks : List Nat) (hl : lv_pick ls ks = l') (h : G x nL pc l' st μ k j) : G x nL pc ls st μ k j := g_sub l' ks hl h
end R7
