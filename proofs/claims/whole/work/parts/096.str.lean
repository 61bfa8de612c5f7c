/-! rows of String constants: they lie below the base, and nobody writes them -/
def gK (x : GX) (n : Nat) : Nat := x.2.1.2.2.2.2.2.1 n
def gA (x : GX) (n : Nat) : Nat := x.2.1.2.2.2.2.2.2 n
def oK (Ω : OM) (n : Nat) : Nat := Ω.2.2.2.2.2.1 n
def oA (Ω : OM) (n : Nat) : Nat := Ω.2.2.2.2.2.2 n
/-- a text's length, its bytes -/
def skN (n : Nat) : Nat := skL.getD n 0
def skC (n q : Nat) : Int32 := (skB.getD n []).getD q 0
section R9
variable {x : GX} {cc : ByteArray} {own : String} {nL : Nat} {rm : Room} {pc : Nat} {ls : List (Nat × Value)} {st : List Value} {μ : Me} {k j : Nat}
theorem hd_low {D : va_G} {cy : Nat → ClassId} {B : Nat} {H0 H : Heap} (h : Hd D cy B H0 μ H) (hz : H0.size = B) : ∀ a : Nat, a < H0.size → ¬ (fun q => B ≤ q) a → H[a]? = H0[a]? := fun a ha _ => h.2.1 a (by rw [← hz]; exact ha)
theorem g_ldcS0 {cc : ByteArray} (f : Fx x cc RX8 nL rm) (d : decode cc pc = .ok (.ldc 69, 2)) (h : G x nL (pc + 2) ls (.ref (gK x 0) :: st) μ k j) : G x nL pc ls st μ k j := fun H locs la a1 a2 a3 a4 => va_ldcS f.1 f.2.1 f.2.2.2.1 f.2.2.2.2.2.1.2.2.2.2.1.2.1 d (h H locs la a1 a2 a3 a4)
theorem g_ldcS1 {cc : ByteArray} (f : Fx x cc RX8 nL rm) (d : decode cc pc = .ok (.ldc 61, 2)) (h : G x nL (pc + 2) ls (.ref (gK x 1) :: st) μ k j) : G x nL pc ls st μ k j := fun H locs la a1 a2 a3 a4 => va_ldcS f.1 f.2.1 f.2.2.2.1 f.2.2.2.2.2.1.2.2.2.2.1.2.2.1 d (h H locs la a1 a2 a3 a4)
theorem g_sget (f : Fx x cc own nL rm) {i n : Nat} {nm ds : String} {v : Value} (hn : n < 2) (hv : (nm = "coder" ∧ ds = "B" ∧ v = .int 0) ∨ (nm = "value" ∧ ds = "[B" ∧ v = .ref (gA x n))) (hw : Cond.fieldLink own i "java/lang/String" nm ds ∈ TB) (d : decode cc pc = .ok (.getfield i, 3)) (h : G x nL (pc + 3) ls (v :: st) μ k j) : G x nL pc ls (.ref (gK x n) :: st) μ k j := by
  obtain ⟨⟨p, e, R, s, m, args, below, meth, cd⟩, ⟨l, D, cy, B, H0, sk⟩, Qf, μ0⟩ := x
  obtain ⟨hx, hb, hml, hown, hts, hK, -⟩ := f
  intro H locs la a1 a2 a3 a4
  obtain ⟨-, s2, s3, -⟩ := hK.2.2.2.2.1.1.1 n hn
  have low := hd_low a1 hK.2.2.2.2.2
  rcases hv with ⟨rfl, rfl, rfl⟩ | ⟨rfl, rfl, rfl⟩
  · obtain ⟨cf, kf, fi, fd, cell, h1, h2, h3, h4, h5, h6⟩ := s2.kept low
    exact W.getf hx hb hown (hts _ hw) h1 h2 h3 h4 (v := .int 0) h5 rfl rfl d (h H locs la a1 a2 a3 a4)
  · obtain ⟨cf, kf, fi, fd, cell, h1, h2, h3, h4, h5, h6⟩ := s3.kept low
    exact W.getf hx hb hown (hts _ hw) h1 h2 h3 h4 (v := .ref (sk.2 n)) h5 rfl rfl d (h H locs la a1 a2 a3 a4)
theorem g_slen (f : Fx x cc own nL rm) {n : Nat} (hn : n < 2) (d : decode cc pc = .ok (.arraylength, 1)) (h : G x nL (pc + 1) ls (.int (nI (skN n)) :: st) μ k j) : G x nL pc ls (.ref (gA x n) :: st) μ k j := by
  obtain ⟨⟨p, e, R, s, m, args, below, meth, cd⟩, ⟨l, D, cy, B, H0, sk⟩, Qf, μ0⟩ := x
  obtain ⟨hx, hb, hml, hown, hts, hK, -⟩ := f
  intro H locs la a1 a2 a3 a4
  obtain ⟨cell, h1, h2, h3, h4, h5, h6, h7⟩ := (hK.2.2.2.2.1.1.1 n hn).2.2.2.kept (hd_low a1 hK.2.2.2.2.2)
  exact W.alen (n := nI (skN n)) hx hb h1 h2 h5 rfl rfl d (h H locs la a1 a2 a3 a4)
theorem g_sbald (f : Fx x cc own nL rm) {n : Nat} {i : Int32} {P : Prop} (hn : n < 2) (d : decode cc pc = .ok (.baload, 1)) (h : vp_in i (skN n) ∧ P) (kk : P → G x nL (pc + 1) ls (.int (skC n i.toNatClampNeg) :: st) μ k j) : G x nL pc ls (.int i :: .ref (gA x n) :: st) μ k j := by
  obtain ⟨⟨p, e, R, s, m, args, below, meth, cd⟩, ⟨l, D, cy, B, H0, sk⟩, Qf, μ0⟩ := x
  obtain ⟨hx, hb, hml, hown, hts, hK, -⟩ := f
  obtain ⟨hin, h⟩ := h
  intro H locs la a1 a2 a3 a4
  obtain ⟨cell, h1, h2, h3, h4, h5, h6, h7⟩ := (hK.2.2.2.2.1.1.1 n hn).2.2.2.kept (hd_low a1 hK.2.2.2.2.2)
  have hlt : i.toNatClampNeg < skN n := Nat.not_le.mp fun q => hin (Or.inr q)
  have hin' : ¬ (i < 0 ∨ cell.slots.size ≤ i.toNatClampNeg) := by
    intro q
    rcases q with q | q
    · exact hin (Or.inl q)
    · have h4' : skN n ≤ cell.slots.size := h4
      omega
  exact W.bald (v := .int (skC n i.toNatClampNeg)) hx hb h1 h2 h3 hin' (h6 _ hlt) rfl rfl d (kk h H locs la a1 a2 a3 a4)
theorem g_gstC (f : Fx x cc own nL rm) {i : Nat} (hw : Cond.fieldLink own i "java/lang/String" "COMPACT_STRINGS" "Z" ∈ TB) (d : decode cc pc = .ok (.getstatic i, 3)) (h : G x nL (pc + 3) ls (.int 1 :: st) μ k j) : G x nL pc ls st μ k j := by
  obtain ⟨⟨p, e, R, s, m, args, below, meth, cd⟩, ⟨l, D, cy, B, H0, sk⟩, Qf, μ0⟩ := x
  obtain ⟨hx, hb, hml, hown, hts, hK, -⟩ := f
  intro H locs la a1 a2 a3 a4
  obtain ⟨cf, kf, fi, fd, a, cell, h1, h2, h3, h4, h5, h6, h7, h8⟩ := hK.2.2.2.2.1.2.2.2.1.kept (hd_low a1 hK.2.2.2.2.2)
  exact W.gets hx hb hown (hts _ hw) h1 h2 h3 h4 h5 (fun e => by rw [e] at h6; cases h6) h7 rfl d (h H locs la a1 a2 a3 a4)
theorem g_gstU (f : Fx x cc own nL rm) {i : Nat} (hw : Cond.fieldLink own i "jdk/internal/util/Preconditions" "SIOOBE_FORMATTER" "Ljava/util/function/BiFunction;" ∈ TB) (d : decode cc pc = .ok (.getstatic i, 3)) (h : ∀ u : Option Nat, G x nL (pc + 3) ls (va_rf u :: st) μ k j) : G x nL pc ls st μ k j := by
  obtain ⟨⟨p, e, R, s, m, args, below, meth, cd⟩, ⟨l, D, cy, B, H0, sk⟩, Qf, μ0⟩ := x
  obtain ⟨hx, hb, hml, hown, hts, hK, -⟩ := f
  intro H locs la a1 a2 a3 a4
  rcases hK.2.2.2.2.1.2.2.2.2.kept (hd_low a1 hK.2.2.2.2.2) with hz | ⟨t, hz⟩
  · obtain ⟨cf, kf, fi, fd, a, cell, h1, h2, h3, h4, h5, h6, h7, h8⟩ := hz
    exact W.gets hx hb hown (hts _ hw) h1 h2 h3 h4 h5 (fun e => by rw [e] at h6; cases h6) h7 rfl d (h none H locs la a1 a2 a3 a4)
  · obtain ⟨cf, kf, fi, fd, a, cell, h1, h2, h3, h4, h5, h6, h7, h8⟩ := hz
    exact W.gets hx hb hown (hts _ hw) h1 h2 h3 h4 h5 (fun e => by rw [e] at h6; cases h6) h7 rfl d (h (some t) H locs la a1 a2 a3 a4)
/-- a call of String's own method on a constant -/
theorem g_callK (f : Fx x cc own nL rm) {i n np mL : Nat} {y : MethodName} {cb : ByteArray} {ret : Option FieldType} {rc : Room} {As rest : List Value} {Qv : Option Value → Me → Prop} (lk : LM own i y cb mL ret np ∧ Cond.instanceMethod y ∈ TB ∧ Cond.selects y.cls y y ∈ TB ∧ y.cls = "java/lang/String") (hn2 : n < 2) (hM : CT (gO x) y cb mL ret rc (.ref (gK x n) :: As) μ Qv) (d : decode cc pc = .ok (.invokevirtual i, 3)) (hst : st = As.reverse ++ .ref (gK x n) :: rest) (hn : As.length = np) (hw : (rest.map fun v => v.category).sum ≤ 8) (hR : rc.frames + 1 ≤ rm.frames ∧ 8 + (mL + 11) + rc.locals ≤ rm.locals) (hc : k + rc.cells ≤ rm.cells ∧ j + rc.slots ≤ rm.slots)
    (kk : ∀ (v : Option Value) (ν : Me), mex μ ν → Qv v ν → G x nL (pc + 3) ls (v.toList ++ rest) ν (k + rc.cells) (j + rc.slots)) : G x nL pc ls st μ k j := by
  obtain ⟨⟨p, e, R, s, m, args, below, meth, cd⟩, ⟨l, D, cy, B, H0, sk⟩, Qf, μ0⟩ := x
  obtain ⟨hx, hb, hml, hown, hts, hK, hRm⟩ := f
  dsimp only at hRm
  subst hRm
  obtain ⟨⟨l1, l2, l3, l4⟩, l5, l6, l7⟩ := lk
  intro H locs la a1 a2 a3 a4
  have hcb := callB_of (R := R) (mc := rc.cells) (ms := rc.slots) np hts (tb_good2 l2) rfl rfl rfl (hts _ l3) (hts _ l1) l4 hR
  have hrv : ∃ cellB : Cell, H[sk.1 n]? = some cellB ∧ cellB.vm.isStatics = false ∧ s.vm.findClass y.cls = some cellB.cls := by
    obtain ⟨cell, h1, h2, h3, -⟩ := (hK.2.2.2.2.1.1.1 n hn2).1.kept (hd_low a1 hK.2.2.2.2.2)
    exact ⟨cell, h1, h2, by rw [l7]; exact h3⟩
  have hp := ct_pre (av := .ref (sk.1 n) :: As) a1 hK
  exact g_back (va_runV (As := As) (rest := rest) ⟨hx, hb, hml, hown, hts⟩ hM ⟨hcb, hts _ l5, hts _ l6⟩ ⟨hp.1, hrv, hp.2⟩ rfl hn a4.1 hst (lv_room hw) d hc) a2 a3 a4 kk
theorem g_nret (f : Fx x cc own nL rm) {Q : Int32 → Me → Prop} {a : Int32} {ty : FieldType} (hr : Rt x (some ty) (qI Q)) (hk : k ≤ rm.cells) (hj : j ≤ rm.slots) (d : decode cc pc = .ok (.ireturn, 1)) (hn : narrow ty (.int a) = .int a) (h : Q a μ) : G x nL pc ls [.int a] μ k j := by
  obtain ⟨⟨p, e, R, s, m, args, below, meth, c⟩, Ω, Qf, μ0⟩ := x
  obtain ⟨h1, h2, h3⟩ := hr
  intro H locs la a1 a2 a3 a4
  have hR : R = rm := f.2.2.2.2.2.2
  subst hR
  dsimp only at h1 h2 h3 a1 a2 a3 ⊢
  rw [h3]
  refine W.widen hk hj ?_
  exact W.zret f.1 f.2.1 h1 hn (fun t ht _ => ⟨_, μ, rfl, a2, ⟨a, rfl, h⟩, by rw [ht]; exact a1⟩) a3 d (hlocks := h2)
end R9
