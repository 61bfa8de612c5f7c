/-! rows of System.arraycopy, Math.max, Math.min -/
def LCp (own : String) (i : Nat) : Prop := Cond.methodLink own i arraycopyName ∈ TB ∧ Cond.native arraycopyName ∈ TB ∧ Cond.static arraycopyName ∈ TB ∧ Cond.initialized "java/lang/System" ∈ TB
def LMx (own : String) (i : Nat) : Prop := Cond.methodLink own i Lib.Math.max.name ∈ TB ∧ Cond.static Lib.Math.max.name ∈ TB ∧ Cond.initialized "java/lang/Math" ∈ TB ∧ Cond.code Lib.Math.max.name Lib.Math.max.code 2 (some .int) ∈ TB
def LMn (own : String) (i : Nat) : Prop := Cond.methodLink own i Lib.Math.min.name ∈ TB ∧ Cond.static Lib.Math.min.name ∈ TB ∧ Cond.initialized "java/lang/Math" ∈ TB ∧ Cond.code Lib.Math.min.name Lib.Math.min.code 2 (some .int) ∈ TB
/-- a stretch that can be copied -/
def cpok (a b : Nat) (sp dp n : Int32) : Prop := ¬ sp < 0 ∧ ¬ dp < 0 ∧ ¬ n < 0 ∧ sp.toNatClampNeg + n.toNatClampNeg ≤ a ∧ dp.toNatClampNeg + n.toNatClampNeg ≤ b
theorem nn_cl (z : Int32) (hz : ¬ z < 0) : z.toInt = (z.toNatClampNeg : Int) := by
  have hz0 : (0 : Int) ≤ z.toInt := by
    have := Int32.not_lt.mp hz
    simpa using Int32.le_iff_toInt_le.mp this
  show z.toInt = ((z.toInt.toNat : Nat) : Int)
  omega
theorem mva_ci (B : Nat) (μ : Me) (o : Nat) (g : Nat → Int32) : mva B (mci μ o g) o 12 = fun q => .int (g q) := by
  funext q
  rw [mva_i rfl]
  simp [mgi, mci, mro]
theorem mva_cl (B : Nat) (μ : Me) (o : Nat) (g : Nat → Int64) : mva B (mcl μ o g) o 13 = fun q => .long (g q) := by
  funext q
  rw [mva_l rfl]
  simp [mgl, mcl, mro]
section R6
variable {x : GX} {cc : ByteArray} {own : String} {nL : Nat} {rm : Room} {pc : Nat} {ls : List (Nat × Value)} {st : List Value} {μ : Me} {k j : Nat}
theorem g_copyi (f : Fx x cc own nL rm) {i o0 o1 : Nat} {sp dp n : Int32} {P : Me → Prop} (lk : LCp own i) (h0 : mok μ o0 12) (h1 : mok μ o1 12) (d : decode cc pc = .ok (.invokestatic i, 3)) (hfr : 1 ≤ rm.frames) (hlo : (st.map fun v => v.category).sum + (nativeFrameWords "java/lang/System" "arraycopy" 5 + 11) ≤ rm.locals)
    (h : cpok (mln μ o0) (mln μ o1) sp dp n ∧ ∀ ν, ν = mci μ o1 (va_cpy (mgi μ o0) (mgi μ o1) sp.toNatClampNeg dp.toNatClampNeg n.toNatClampNeg) → P ν) (kk : P (mci μ o1 (va_cpy (mgi μ o0) (mgi μ o1) sp.toNatClampNeg dp.toNatClampNeg n.toNatClampNeg)) → G x nL (pc + 3) ls st (mci μ o1 (va_cpy (mgi μ o0) (mgi μ o1) sp.toNatClampNeg dp.toNatClampNeg n.toNatClampNeg)) k j) : G x nL pc ls (.int n :: .int dp :: .ref (gB x + o1) :: .int sp :: .ref (gB x + o0) :: st) μ k j := by
  obtain ⟨⟨p, e, R, s, m, args, below, meth, cd⟩, ⟨l, D, cy, B, H0, sk⟩, Qf, μ0⟩ := x
  obtain ⟨hx, hb, hml, hown, hts, hK, hR⟩ := f
  dsimp only at hR
  subst hR
  obtain ⟨w1, w2, w3, w4⟩ := lk
  obtain ⟨⟨c1, c2, c3, c4, c5⟩, h⟩ := h
  have h := kk (h _ rfl)
  intro H locs la a1 a2 a3 a4 T hT X
  have e0 : mva B μ o0 12 = fun q => .int (mgi μ o0 q) := funext fun _ => mva_i rfl B μ o0
  have e1 : mva B μ o1 12 = fun q => .int (mgi μ o1 q) := funext fun _ => mva_i rfl B μ o1
  have hc0 := mat_arr (a1.2.2 o0 h0.1) h0 (by decide)
  have hc1 := mat_arr (a1.2.2 o1 h1.1) h1 (by decide)
  rw [e0] at hc0
  rw [e1] at hc1
  obtain ⟨-, k0, hk0, cm0, hkk0⟩ := (hK.1.2 0 _ rfl).1 (mln μ o0) (fun q => .int (mgi μ o0 q))
  obtain ⟨-, k1, hk1, cm1, hkk1⟩ := (hK.1.2 0 _ rfl).1 (mln μ o1) (fun q => .int (mgi μ o1 q))
  obtain ⟨vm', X', step⟩ := X.arraycopy hx hown (hts _ w1) (hts _ w2) (hts _ w3) (hts _ w4) (src := B + o0) (dst := B + o1) (srcPos := sp) (destPos := dp) (n := n) (by rw [hT]; exact hc0) (by rw [hT]; exact hc1)
    (fun _ h => by cases h) (fun _ h => by cases h) (fun h => by cases h) (fun h => by cases h) hk0 hk1 hkk0 hkk1 (by simp [refKind]) c1 c2 c3
    (by rw [nn_cl sp c1, nn_cl n c3, arrV_size]; omega)
    (by rw [nn_cl dp c2, nn_cl n c3, arrV_size]; omega)
    (fun vm₁ _ q hq => by
      have e : (arrV (cy 12) (mln μ o0) (fun q => .int (mgi μ o0 q))).slots.getD (sp.toNatClampNeg + q) .null = .int (mgi μ o0 (sp.toNatClampNeg + q)) := by
        rw [Array.getD_eq_getD_getElem?, arrV_read _ _ (by omega)]
        rfl
      refine ⟨?_, ?_⟩
      · rw [e]
        rfl
      · rw [e]
        exact trivial)
    (g := F0 m pc la (.int n :: .int dp :: .ref (B + o1) :: .int sp :: .ref (B + o0) :: st)) rfl (by show la.size = _; rw [a4.1]; exact hml.symm) (rest := st) rfl (by rw [hb]; exact d) hfr (by show 2 * 0 + _ + _ ≤ R.locals; omega)
  have e2 : copied (arrV (cy 12) (mln μ o0) (fun q => .int (mgi μ o0 q))) (arrV (cy 12) (mln μ o1) (fun q => .int (mgi μ o1 q))) sp dp n = arrV (cy 12) (mln μ o1) (fun q => .int (va_cpy (mgi μ o0) (mgi μ o1) sp.toNatClampNeg dp.toNatClampNeg n.toNatClampNeg q)) := va_copied (fun z => .int z) _ _ _ _ c4
  rw [e2] at X' step
  have hl : B + o1 < H.size := (Array.getElem?_eq_some_iff.mp hc1).1
  have hheap : ((T.setVm vm').setCell (B + o1) (arrV (cy 12) (mln μ o1) (fun q => .int (va_cpy (mgi μ o0) (mgi μ o1) sp.toNatClampNeg dp.toNatClampNeg n.toNatClampNeg q)))).heap = H.setIfInBounds (B + o1) (arrV (cy 12) (mln μ o1) (fun q => .int (va_cpy (mgi μ o0) (mgi μ o1) sp.toNatClampNeg dp.toNatClampNeg n.toNatClampNeg q))) := by rw [← hT]; rfl
  have hmo := mof_ci μ o1 (va_cpy (mgi μ o0) (mgi μ o1) sp.toNatClampNeg dp.toNatClampNeg n.toNatClampNeg)
  obtain ⟨t, b1, b2⟩ := h _ _ la (Hd_set a1 hmo (H1 := H.setIfInBounds (B + o1) (arrV (cy 12) (mln μ o1) (fun q => .int (va_cpy (mgi μ o0) (mgi μ o1) sp.toNatClampNeg dp.toNatClampNeg n.toNatClampNeg q)))) (by simp) (fun q hq => by simp [Array.getElem?_setIfInBounds, Ne.symm hq]) ⟨fun hh => by rw [hmo.2.1 o1, h1.2] at hh; omega, fun _ => by
      rw [hmo.2.1 o1, h1.2, hmo.2.2.1 o1, mva_ci]
      simp [Array.getElem?_setIfInBounds, hl]⟩) (mex_of a2 hmo) (fun q hq => by
      rcases List.mem_append.mp hq with h | h
      · exact a3 q h
      · obtain ⟨z, -, hz⟩ := List.mem_map.mp h
        rw [← hz]
        exact Nat.le_add_right B o1) a4 _ hheap X'
  exact ⟨t, step t b1, b2⟩
theorem g_copyl (f : Fx x cc own nL rm) {i o0 o1 : Nat} {sp dp n : Int32} {P : Me → Prop} (lk : LCp own i) (h0 : mok μ o0 13) (h1 : mok μ o1 13) (d : decode cc pc = .ok (.invokestatic i, 3)) (hfr : 1 ≤ rm.frames) (hlo : (st.map fun v => v.category).sum + (nativeFrameWords "java/lang/System" "arraycopy" 5 + 11) ≤ rm.locals)
    (h : cpok (mln μ o0) (mln μ o1) sp dp n ∧ ∀ ν, ν = mcl μ o1 (va_cpy (mgl μ o0) (mgl μ o1) sp.toNatClampNeg dp.toNatClampNeg n.toNatClampNeg) → P ν) (kk : P (mcl μ o1 (va_cpy (mgl μ o0) (mgl μ o1) sp.toNatClampNeg dp.toNatClampNeg n.toNatClampNeg)) → G x nL (pc + 3) ls st (mcl μ o1 (va_cpy (mgl μ o0) (mgl μ o1) sp.toNatClampNeg dp.toNatClampNeg n.toNatClampNeg)) k j) : G x nL pc ls (.int n :: .int dp :: .ref (gB x + o1) :: .int sp :: .ref (gB x + o0) :: st) μ k j := by
  obtain ⟨⟨p, e, R, s, m, args, below, meth, cd⟩, ⟨l, D, cy, B, H0, sk⟩, Qf, μ0⟩ := x
  obtain ⟨hx, hb, hml, hown, hts, hK, hR⟩ := f
  dsimp only at hR
  subst hR
  obtain ⟨w1, w2, w3, w4⟩ := lk
  obtain ⟨⟨c1, c2, c3, c4, c5⟩, h⟩ := h
  have h := kk (h _ rfl)
  intro H locs la a1 a2 a3 a4 T hT X
  have e0 : mva B μ o0 13 = fun q => .long (mgl μ o0 q) := funext fun _ => mva_l rfl B μ o0
  have e1 : mva B μ o1 13 = fun q => .long (mgl μ o1 q) := funext fun _ => mva_l rfl B μ o1
  have hc0 := mat_arr (a1.2.2 o0 h0.1) h0 (by decide)
  have hc1 := mat_arr (a1.2.2 o1 h1.1) h1 (by decide)
  rw [e0] at hc0
  rw [e1] at hc1
  obtain ⟨-, k0, hk0, cm0, hkk0⟩ := (hK.1.2 1 _ rfl).1 (mln μ o0) (fun q => .long (mgl μ o0 q))
  obtain ⟨-, k1, hk1, cm1, hkk1⟩ := (hK.1.2 1 _ rfl).1 (mln μ o1) (fun q => .long (mgl μ o1 q))
  obtain ⟨vm', X', step⟩ := X.arraycopy hx hown (hts _ w1) (hts _ w2) (hts _ w3) (hts _ w4) (src := B + o0) (dst := B + o1) (srcPos := sp) (destPos := dp) (n := n) (by rw [hT]; exact hc0) (by rw [hT]; exact hc1)
    (fun _ h => by cases h) (fun _ h => by cases h) (fun h => by cases h) (fun h => by cases h) hk0 hk1 hkk0 hkk1 (by simp [refKind]) c1 c2 c3
    (by rw [nn_cl sp c1, nn_cl n c3, arrV_size]; omega)
    (by rw [nn_cl dp c2, nn_cl n c3, arrV_size]; omega)
    (fun vm₁ _ q hq => by
      have e : (arrV (cy 13) (mln μ o0) (fun q => .long (mgl μ o0 q))).slots.getD (sp.toNatClampNeg + q) .null = .long (mgl μ o0 (sp.toNatClampNeg + q)) := by
        rw [Array.getD_eq_getD_getElem?, arrV_read _ _ (by omega)]
        rfl
      refine ⟨?_, ?_⟩
      · rw [e]
        rfl
      · rw [e]
        exact trivial)
    (g := F0 m pc la (.int n :: .int dp :: .ref (B + o1) :: .int sp :: .ref (B + o0) :: st)) rfl (by show la.size = _; rw [a4.1]; exact hml.symm) (rest := st) rfl (by rw [hb]; exact d) hfr (by show 2 * 0 + _ + _ ≤ R.locals; omega)
  have e2 : copied (arrV (cy 13) (mln μ o0) (fun q => .long (mgl μ o0 q))) (arrV (cy 13) (mln μ o1) (fun q => .long (mgl μ o1 q))) sp dp n = arrV (cy 13) (mln μ o1) (fun q => .long (va_cpy (mgl μ o0) (mgl μ o1) sp.toNatClampNeg dp.toNatClampNeg n.toNatClampNeg q)) := va_copied (fun z => .long z) _ _ _ _ c4
  rw [e2] at X' step
  have hl : B + o1 < H.size := (Array.getElem?_eq_some_iff.mp hc1).1
  have hheap : ((T.setVm vm').setCell (B + o1) (arrV (cy 13) (mln μ o1) (fun q => .long (va_cpy (mgl μ o0) (mgl μ o1) sp.toNatClampNeg dp.toNatClampNeg n.toNatClampNeg q)))).heap = H.setIfInBounds (B + o1) (arrV (cy 13) (mln μ o1) (fun q => .long (va_cpy (mgl μ o0) (mgl μ o1) sp.toNatClampNeg dp.toNatClampNeg n.toNatClampNeg q))) := by rw [← hT]; rfl
  have hmo := mof_cl μ o1 (va_cpy (mgl μ o0) (mgl μ o1) sp.toNatClampNeg dp.toNatClampNeg n.toNatClampNeg)
  obtain ⟨t, b1, b2⟩ := h _ _ la (Hd_set a1 hmo (H1 := H.setIfInBounds (B + o1) (arrV (cy 13) (mln μ o1) (fun q => .long (va_cpy (mgl μ o0) (mgl μ o1) sp.toNatClampNeg dp.toNatClampNeg n.toNatClampNeg q)))) (by simp) (fun q hq => by simp [Array.getElem?_setIfInBounds, Ne.symm hq]) ⟨fun hh => by rw [hmo.2.1 o1, h1.2] at hh; omega, fun _ => by
      rw [hmo.2.1 o1, h1.2, hmo.2.2.1 o1, mva_cl]
      simp [Array.getElem?_setIfInBounds, hl]⟩) (mex_of a2 hmo) (fun q hq => by
      rcases List.mem_append.mp hq with h | h
      · exact a3 q h
      · obtain ⟨z, -, hz⟩ := List.mem_map.mp h
        rw [← hz]
        exact Nat.le_add_right B o1) a4 _ hheap X'
  exact ⟨t, step t b1, b2⟩
theorem g_max (f : Fx x cc own nL rm) {i : Nat} {a b : Int32} (lk : LMx own i) (d : decode cc pc = .ok (.invokestatic i, 3)) (hfr : 1 ≤ rm.frames) (hlo : (st.map fun v => v.category).sum + 13 ≤ rm.locals) (hk : k ≤ rm.cells) (hj : j ≤ rm.slots) (h : G x nL (pc + 3) ls (.int (if a < b then b else a) :: st) μ k j) : G x nL pc ls (.int b :: .int a :: st) μ k j := by
  obtain ⟨⟨p, e, R, s, m, args, below, meth, cd⟩, ⟨l, D, cy, B, H0, sk⟩, Qf, μ0⟩ := x
  obtain ⟨hx, hb, hml, hown, hts, hK, hR⟩ := f
  dsimp only at hR
  subst hR
  obtain ⟨w1, w2, w3, w4⟩ := lk
  intro H locs la a1 a2 a3 a4
  exact va_mmax hx hb (hml.trans a4.1.symm) hown (hts _ w1) (hts _ w2) (hts _ w3) (hts _ w4) hfr hlo hk hj d (h H locs la a1 a2 a3 a4)
theorem g_min (f : Fx x cc own nL rm) {i : Nat} {a b : Int32} (lk : LMn own i) (d : decode cc pc = .ok (.invokestatic i, 3)) (hfr : 1 ≤ rm.frames) (hlo : (st.map fun v => v.category).sum + 13 ≤ rm.locals) (hk : k ≤ rm.cells) (hj : j ≤ rm.slots) (h : G x nL (pc + 3) ls (.int (if b < a then b else a) :: st) μ k j) : G x nL pc ls (.int b :: .int a :: st) μ k j := by
  obtain ⟨⟨p, e, R, s, m, args, below, meth, cd⟩, ⟨l, D, cy, B, H0, sk⟩, Qf, μ0⟩ := x
  obtain ⟨hx, hb, hml, hown, hts, hK, hR⟩ := f
  dsimp only at hR
  subst hR
  obtain ⟨w1, w2, w3, w4⟩ := lk
  intro H locs la a1 a2 a3 a4
  exact va_mmin hx hb (hml.trans a4.1.symm) hown (hts _ w1) (hts _ w2) (hts _ w3) (hts _ w4) hfr hlo hk hj d (h H locs la a1 a2 a3 a4)
end R6
