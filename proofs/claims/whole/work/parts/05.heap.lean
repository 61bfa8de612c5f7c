/-! rows of fields, arrays, new objects -/
theorem tb_sub {ws : List Cond} (ps : List Nat) (h : ws = ps.filterMap (fun i => lw_tbl[i]?)) (hg : ws.all goodWord = true) : ∀ w ∈ ws, w ∈ TB := by
  intro w hw
  have h1 := List.all_eq_true.mp hg w hw
  rw [h] at hw
  obtain ⟨i, -, hi⟩ := List.mem_filterMap.mp hw
  exact tb_in i hi h1
theorem tb_good (w : Cond) (h : w ∈ TB) : goodWord w = true := (List.mem_filter.mp h).2
def mdf (c k : Nat) : Value := match mty c k with
  | 0 => .int 0
  | 1 => .long 0
  | _ => .null
/-- a class of the tables, by its number -/
def KC (c : Nat) (C : String) (T : u_T) (N : Nat) (ty : Nat → FieldType) : Prop := c < 12 ∧ vwCl[c]? = some (C, T, N) ∧ (∀ w ∈ u_ws C T N, w ∈ TB) ∧ (∀ k, k < N → parseFieldDescriptor (T k).2.2.1 = some (ty k)) ∧ (∀ a, a < N → ∀ b, b < N → a ≠ b → (T a).2.1 ≠ (T b).2.1) ∧ (∀ k, k < N → (T k).1 = C) ∧ (∀ k, k < N → defaultValue (ty k) = mdf c k)
/-- a field as an entry of a class's pool names it -/
def LF (own : String) (i c q : Nat) (ty : FieldType) (fin : Bool) : Prop := ∃ (C : String) (T : u_T) (N : Nat) (tf : Nat → FieldType), KC c C T N tf ∧ q < N ∧ Cond.fieldLink own i C (T q).2.1 (T q).2.2.1 ∈ TB ∧ (T q).2.2.2 = fin ∧ tf q = ty
theorem mcN_eq {c : Nat} {C : String} {T : u_T} {N : Nat} (h : vwCl[c]? = some (C, T, N)) : mcN c = N := by unfold mcN; rw [h]
theorem mex_of {a μ ν : Me} {o : Nat} (h : mex a μ) (hm : mof μ ν o) : mex a ν := ⟨by rw [hm.1]; exact h.1, fun q hq => ⟨(hm.2.1 q).trans (h.2 q hq).1, (hm.2.2.1 q).trans (h.2 q hq).2⟩⟩
section R3
variable {x : GX} {cc : ByteArray} {own : String} {nL : Nat} {rm : Room} {pc : Nat} {ls : List (Nat × Value)} {st : List Value} {μ : Me} {k j : Nat}
theorem g_get (f : Fx x cc own nL rm) {i c q o : Nat} {ty : FieldType} {fin : Bool} (lk : LF own i c q ty fin) (ho : mok μ o c) (d : decode cc pc = .ok (.getfield i, 3)) (h : G x nL (pc + 3) ls (mva (gB x) μ o c q :: st) μ k j) : G x nL pc ls (.ref (gB x + o) :: st) μ k j := by
  obtain ⟨⟨p, e, R, s, m, args, below, meth, cd⟩, ⟨l, D, cy, B, H0, sk⟩, Qf, μ0⟩ := x
  obtain ⟨hx, hb, hml, hown, hts, hK, -⟩ := f
  obtain ⟨C, T, N, tf, ⟨hc12, hcl, hin, hty, hnm, hdc, -⟩, hq, hlink, -, -⟩ := lk
  intro H locs la a1 a2 a3 a4
  have ha := (a1.2.2 o ho.1).1 (by rw [ho.2]; exact hc12)
  rw [ho.2, mcN_eq hcl] at ha
  obtain ⟨cell, q1, q2, q3, q4⟩ := ha
  obtain ⟨hS, hfc, kC, hkC, hkind⟩ := hK.1.1 c _ hcl
  obtain ⟨cf, kf, fi, fd, hi, hsl⟩ := hS q hq
  have hi' : s.fieldFound? C (T q).2.1 (T q).2.2.1 = some (cf, kf, fi, fd) := by rw [← hdc q hq]; exact hi
  refine W.getf hx hb hown (hts _ hlink) hi' (u_facts hfc hkC (u_lays hts hin hq) hi).1 q1 (by rw [q3]; exact fun h => by cases h) (v := mva B μ o c q) ?_ rfl rfl d (h H locs la a1 a2 a3 a4)
  rw [hsl, q4 q hq]
theorem g_getI (f : Fx x cc own nL rm) {i c q o : Nat} {ty : FieldType} {fin : Bool} (lk : LF own i c q ty fin) (ho : mok μ o c) (d : decode cc pc = .ok (.getfield i, 3)) (ht : mty c q = 0) (h : G x nL (pc + 3) ls (.int (mgi μ o q) :: st) μ k j) : G x nL pc ls (.ref (gB x + o) :: st) μ k j := g_get f lk ho d (by rw [mva_i ht]; exact h)
theorem g_getL (f : Fx x cc own nL rm) {i c q o : Nat} {ty : FieldType} {fin : Bool} (lk : LF own i c q ty fin) (ho : mok μ o c) (d : decode cc pc = .ok (.getfield i, 3)) (ht : mty c q = 1) (h : G x nL (pc + 3) ls (.long (mgl μ o q) :: st) μ k j) : G x nL pc ls (.ref (gB x + o) :: st) μ k j := g_get f lk ho d (by rw [mva_l ht]; exact h)
theorem g_getR (f : Fx x cc own nL rm) {i c q o : Nat} {ty : FieldType} {fin : Bool} {P : Nat → Prop} (lk : LF own i c q ty fin) (ho : mok μ o c) (d : decode cc pc = .ok (.getfield i, 3)) (ht : mty c q = 2) (h : ∃ t, mgr μ o q = some t ∧ P t) (kk : ∀ t, P t → G x nL (pc + 3) ls (.ref (gB x + t) :: st) μ k j) : G x nL pc ls (.ref (gB x + o) :: st) μ k j := by
  obtain ⟨t, e, h⟩ := h
  exact g_get f lk ho d (by rw [mva_r ht, e]; exact kk t h)
theorem g_getQ (f : Fx x cc own nL rm) {i c q o : Nat} {ty : FieldType} {fin : Bool} {P : Option Nat → Prop} (lk : LF own i c q ty fin) (ho : mok μ o c) (d : decode cc pc = .ok (.getfield i, 3)) (ht : mty c q = 2) (h : ∀ r, r = mgr μ o q → P r) (kk : ∀ r, P r → G x nL (pc + 3) ls (vr (gB x) r :: st) μ k j) : G x nL pc ls (.ref (gB x + o) :: st) μ k j := g_get f lk ho d (by rw [mva_r ht]; exact kk _ (h _ rfl))
theorem g_put (f : Fx x cc own nL rm) {i c q o : Nat} {ty : FieldType} {v : Value} {ν : Me} (lk : LF own i c q ty false) (ho : mok μ o c) (d : decode cc pc = .ok (.putfield i, 3)) (hn : narrow ty v = v) (hf : fits ty v = true) (hm : mof μ ν o) (hv : mva (gB x) ν o c = updV (mva (gB x) μ o c) q v) (h : G x nL (pc + 3) ls st ν k j) : G x nL pc ls (v :: .ref (gB x + o) :: st) μ k j := by
  obtain ⟨⟨p, e, R, s, m, args, below, meth, cd⟩, ⟨l, D, cy, B, H0, sk⟩, Qf, μ0⟩ := x
  obtain ⟨hx, hb, hml, hown, hts, hK, -⟩ := f
  obtain ⟨C, T, N, tf, ⟨hc12, hcl, hin, hty, hnm, hdc, -⟩, hq, hlink, hfin, htq⟩ := lk
  intro H locs la a1 a2 a3 a4
  have ha := (a1.2.2 o ho.1).1 (by rw [ho.2]; exact hc12)
  rw [ho.2, mcN_eq hcl] at ha
  have hap := va_apart (own := own) hts hin tf hty hnm hK.1 hcl
  obtain ⟨cell, q1, q2, q3, q4⟩ := ha
  obtain ⟨hS, hfc, kC, hkC, hkind⟩ := hK.1.1 c _ hcl
  obtain ⟨cf, kf, fi, fd, hi, hsl⟩ := hS q hq
  have hi' : s.fieldFound? C (T q).2.1 (T q).2.2.1 = some (cf, kf, fi, fd) := by rw [← hdc q hq]; exact hi
  have hlay := hts _ (hin _ (u_in_lay hq))
  unfold u_lay at hlay
  rw [if_neg (by rw [hfin]; decide)] at hlay
  have hst := (u_facts hfc hkC (u_lays hts hin hq) hi).1
  have h6 := u_store hfc hkC hkind hlay hi ((hty q hq).trans (by rw [htq])) hn hf
  refine W.putK hx hb (f := fd) ⟨hown, hts _ hlink, ⟨_, _, _, hi'⟩, hst⟩ (by rw [q2]; exact h6) q1 q3 (by rw [hsl]; exact k2_hasslot (q4 q hq)) rfl rfl d fun H' e1 e2 e3 => ?_
  rw [hsl] at e1 ⊢
  refine h H' _ la (Hd_set a1 hm e2 e3 ⟨fun h1 => ?_, fun h1 => ?_⟩) (mex_of a2 hm) (fun z hz => ?_) a4
  · rw [hm.2.1 o, ho.2, mcN_eq hcl]
    have hv' : mva B ν o c = updV (mva B μ o c) q v := hv
    rw [hv']
    exact ⟨_, e1, q2, q3, t_set q4 hap hq v⟩
  · rw [hm.2.1 o, ho.2] at h1
    omega
  · rcases List.mem_append.mp hz with h | h
    · exact a3 z h
    · rw [List.mem_singleton.mp h]
      exact Nat.le_add_right B o
theorem g_putI (f : Fx x cc own nL rm) {i c q o : Nat} {v : Int32} {P : Me → Prop} (lk : LF own i c q .int false) (ho : mok μ o c) (d : decode cc pc = .ok (.putfield i, 3)) (ht : mty c q = 0) (h : ∀ ν, ν = msi μ o q v → P ν) (kk : P (msi μ o q v) → G x nL (pc + 3) ls st (msi μ o q v) k j) : G x nL pc ls (.int v :: .ref (gB x + o) :: st) μ k j := g_put f lk ho d rfl rfl (mof_si μ o q v) (mva_si ht) (kk (h _ rfl))
theorem g_putZ (f : Fx x cc own nL rm) {i c q o : Nat} {v : Int32} {P : Me → Prop} (lk : LF own i c q .boolean false) (ho : mok μ o c) (d : decode cc pc = .ok (.putfield i, 3)) (ht : mty c q = 0) (hn : narrow .boolean (.int v) = .int v) (hf : fits .boolean (.int v) = true) (h : ∀ ν, ν = msi μ o q v → P ν) (kk : P (msi μ o q v) → G x nL (pc + 3) ls st (msi μ o q v) k j) : G x nL pc ls (.int v :: .ref (gB x + o) :: st) μ k j := g_put f lk ho d hn hf (mof_si μ o q v) (mva_si ht) (kk (h _ rfl))
theorem g_putL (f : Fx x cc own nL rm) {i c q o : Nat} {v : Int64} {P : Me → Prop} (lk : LF own i c q .long false) (ho : mok μ o c) (d : decode cc pc = .ok (.putfield i, 3)) (ht : mty c q = 1) (h : ∀ ν, ν = msl μ o q v → P ν) (kk : P (msl μ o q v) → G x nL (pc + 3) ls st (msl μ o q v) k j) : G x nL pc ls (.long v :: .ref (gB x + o) :: st) μ k j := g_put f lk ho d rfl rfl (mof_sl μ o q v) (mva_sl ht) (kk (h _ rfl))
theorem g_putQ (f : Fx x cc own nL rm) {i c q o : Nat} {ty : FieldType} {r : Option Nat} {P : Me → Prop} (lk : LF own i c q ty false) (ho : mok μ o c) (d : decode cc pc = .ok (.putfield i, 3)) (ht : mty c q = 2) (hty : (∃ n, ty = .object n) ∨ ∃ t, ty = .array t) (h : ∀ ν, ν = msr μ o q r → P ν) (kk : P (msr μ o q r) → G x nL (pc + 3) ls st (msr μ o q r) k j) : G x nL pc ls (vr (gB x) r :: .ref (gB x + o) :: st) μ k j := by
  refine g_put f lk ho d ?_ ?_ (mof_sr μ o q r) (mva_sr ht) (kk (h _ rfl))
  · rcases hty with ⟨n, rfl⟩ | ⟨t, rfl⟩ <;> cases r <;> rfl
  · rcases hty with ⟨n, rfl⟩ | ⟨t, rfl⟩ <;> cases r <;> rfl
theorem g_putF (f : Fx x cc own nL rm) {i c q o : Nat} {ty : FieldType} {v : Value} {ν : Me} (lk : LF own i c q ty true) (hC : vwCl[c]?.map (fun z => z.1) = some own) (hinit : x.1.2.2.2.2.2.2.2.1.name = "<init>") (ho : mok μ o c) (d : decode cc pc = .ok (.putfield i, 3)) (hn : narrow ty v = v) (hf : fits ty v = true) (hm : mof μ ν o) (hv : mva (gB x) ν o c = updV (mva (gB x) μ o c) q v) (h : G x nL (pc + 3) ls st ν k j) : G x nL pc ls (v :: .ref (gB x + o) :: st) μ k j := by
  obtain ⟨⟨p, e, R, s, m, args, below, meth, cd⟩, ⟨l, D, cy, B, H0, sk⟩, Qf, μ0⟩ := x
  obtain ⟨hx, hb, hml, hown, hts, hK, -⟩ := f
  obtain ⟨C, T, N, tf, ⟨hc12, hcl, hin, hty, hnm, hdc, -⟩, hq, hlink, hfin, htq⟩ := lk
  rw [hcl] at hC
  have hCo : C = own := Option.some.inj hC
  intro H locs la a1 a2 a3 a4
  have ha := (a1.2.2 o ho.1).1 (by rw [ho.2]; exact hc12)
  rw [ho.2, mcN_eq hcl] at ha
  have hap := va_apart (own := own) hts hin tf hty hnm hK.1 hcl
  obtain ⟨cell, q1, q2, q3, q4⟩ := ha
  obtain ⟨hS, hfc, kC, hkC, hkind⟩ := hK.1.1 c _ hcl
  obtain ⟨cf, kf, fi, fd, hi, hsl⟩ := hS q hq
  have hi' : s.fieldFound? C (T q).2.1 (T q).2.2.1 = some (cf, kf, fi, fd) := by rw [← hdc q hq]; exact hi
  have hlay := hts _ (hin _ (u_in_lay hq))
  unfold u_lay at hlay
  rw [if_pos hfin] at hlay
  have hst := (u_facts hfc hkC (u_lays hts hin hq) hi).1
  have hcf : m.cls = cf := by
    obtain ⟨_, _, c', _, _, _, -, -, hf', -, -, -, hown2, -⟩ := Cond.laysFinal_spec hlay
    have e1 : c' = cf := by have := hi.symm.trans hf'; simp at this; exact this.1.symm
    rw [hdc q hq, hCo] at hown2
    rw [← e1]; exact Option.some.inj (hown.symm.trans hown2)
  have h6 := u_fits hfc hkC hkind (Or.inr hlay) hi ((hty q hq).trans (by rw [htq])) hn hf
  refine W.putFinK hx hb hown (hts _ hlink) hi' hst hcf hinit (by rw [q2]; exact h6) q1 q3 (by rw [hsl]; exact k2_hasslot (q4 q hq)) rfl rfl d fun H' e1 e2 e3 => ?_
  rw [hsl] at e1 ⊢
  refine h H' _ la (Hd_set a1 hm e2 e3 ⟨fun h1 => ?_, fun h1 => ?_⟩) (mex_of a2 hm) (fun z hz => ?_) a4
  · rw [hm.2.1 o, ho.2, mcN_eq hcl]
    have hv' : mva B ν o c = updV (mva B μ o c) q v := hv
    rw [hv']
    exact ⟨_, e1, q2, q3, t_set q4 hap hq v⟩
  · rw [hm.2.1 o, ho.2] at h1
    omega
  · rcases List.mem_append.mp hz with h | h
    · exact a3 z h
    · rw [List.mem_singleton.mp h]
      exact Nat.le_add_right B o
theorem g_putFQ (f : Fx x cc own nL rm) {i c q o : Nat} {ty : FieldType} {r : Option Nat} {P : Me → Prop} (lk : LF own i c q ty true) (hC : vwCl[c]?.map (fun z => z.1) = some own) (hinit : x.1.2.2.2.2.2.2.2.1.name = "<init>") (ho : mok μ o c) (d : decode cc pc = .ok (.putfield i, 3)) (ht : mty c q = 2) (hty : (∃ n, ty = .object n) ∨ ∃ t, ty = .array t) (h : ∀ ν, ν = msr μ o q r → P ν) (kk : P (msr μ o q r) → G x nL (pc + 3) ls st (msr μ o q r) k j) : G x nL pc ls (vr (gB x) r :: .ref (gB x + o) :: st) μ k j := by
  refine g_putF f lk hC hinit ho d ?_ ?_ (mof_sr μ o q r) (mva_sr ht) (kk (h _ rfl))
  · rcases hty with ⟨n, rfl⟩ | ⟨t, rfl⟩ <;> cases r <;> rfl
  · rcases hty with ⟨n, rfl⟩ | ⟨t, rfl⟩ <;> cases r <;> rfl
/-- an array's cell -/
theorem mat_arr {D : va_G} {cy : Nat → ClassId} {B : Nat} {o c : Nat} {H : Heap} (h : mat D cy B μ o H) (ho : mok μ o c) (hc : 12 ≤ c) : H[B + o]? = some (arrV (cy c) (mln μ o) (mva B μ o c)) := by
  have h2 := h.2 (by rw [ho.2]; exact hc)
  rw [ho.2] at h2
  exact h2
theorem g_iald (f : Fx x cc own nL rm) {o : Nat} {i : Int32} {P : Prop} (ho : mok μ o 12) (d : decode cc pc = .ok (.iaload, 1)) (h : vp_in i (mln μ o) ∧ P) (kk : P → G x nL (pc + 1) ls (.int (mgi μ o i.toNatClampNeg) :: st) μ k j) : G x nL pc ls (.int i :: .ref (gB x + o) :: st) μ k j := by
  obtain ⟨⟨p, e, R, s, m, args, below, meth, cd⟩, ⟨l, D, cy, B, H0, sk⟩, Qf, μ0⟩ := x
  obtain ⟨hx, hb, hml, hown, hts, hK, -⟩ := f
  obtain ⟨hin, h⟩ := h
  intro H locs la a1 a2 a3 a4
  have hlt : i.toNatClampNeg < mln μ o := Nat.not_le.mp fun q => hin (Or.inr q)
  exact W.iald (v := .int (mgi μ o i.toNatClampNeg)) hx hb (mat_arr (a1.2.2 o ho.1) ho (by decide)) ((hK.1.2 0 _ rfl).1 _ _) (fun q => by cases q) (by rw [arrV_size]; exact hin) (by rw [arrV_read _ _ hlt, mva_i rfl]) rfl rfl d (kk h H locs la a1 a2 a3 a4)
theorem g_zald (f : Fx x cc own nL rm) {o : Nat} {i : Int32} {P : Prop} (ho : mok μ o 14) (d : decode cc pc = .ok (.baload, 1)) (h : vp_in i (mln μ o) ∧ P) (kk : P → G x nL (pc + 1) ls (.int (mgi μ o i.toNatClampNeg) :: st) μ k j) : G x nL pc ls (.int i :: .ref (gB x + o) :: st) μ k j := by
  obtain ⟨⟨p, e, R, s, m, args, below, meth, cd⟩, ⟨l, D, cy, B, H0, sk⟩, Qf, μ0⟩ := x
  obtain ⟨hx, hb, hml, hown, hts, hK, -⟩ := f
  obtain ⟨hin, h⟩ := h
  intro H locs la a1 a2 a3 a4
  have hlt : i.toNatClampNeg < mln μ o := Nat.not_le.mp fun q => hin (Or.inr q)
  exact W.zald (v := .int (mgi μ o i.toNatClampNeg)) hx hb (mat_arr (a1.2.2 o ho.1) ho (by decide)) ((hK.1.2 2 _ rfl).1 _ _) (fun q => by cases q) (by rw [arrV_size]; exact hin) (by rw [arrV_read _ _ hlt, mva_i rfl]) rfl rfl d (kk h H locs la a1 a2 a3 a4)
theorem g_lald (f : Fx x cc own nL rm) {o : Nat} {i : Int32} {P : Prop} (ho : mok μ o 13) (d : decode cc pc = .ok (.laload, 1)) (h : vp_in i (mln μ o) ∧ P) (kk : P → G x nL (pc + 1) ls (.long (mgl μ o i.toNatClampNeg) :: st) μ k j) : G x nL pc ls (.int i :: .ref (gB x + o) :: st) μ k j := by
  obtain ⟨⟨p, e, R, s, m, args, below, meth, cd⟩, ⟨l, D, cy, B, H0, sk⟩, Qf, μ0⟩ := x
  obtain ⟨hx, hb, hml, hown, hts, hK, -⟩ := f
  obtain ⟨hin, h⟩ := h
  intro H locs la a1 a2 a3 a4
  have hlt : i.toNatClampNeg < mln μ o := Nat.not_le.mp fun q => hin (Or.inr q)
  exact W.lald (v := .long (mgl μ o i.toNatClampNeg)) hx hb (mat_arr (a1.2.2 o ho.1) ho (by decide)) ((hK.1.2 1 _ rfl).1 _ _) (fun q => by cases q) (by rw [arrV_size]; exact hin) (by rw [arrV_read _ _ hlt, mva_l rfl]) rfl rfl d (kk h H locs la a1 a2 a3 a4)
theorem g_aald (f : Fx x cc own nL rm) {o c : Nat} {i : Int32} {P : Option Nat → Prop} (ho : mok μ o c) (hc : c = 15 ∨ c = 16) (d : decode cc pc = .ok (.aaload, 1)) (h : vp_in i (mln μ o) ∧ ∀ r, r = mgr μ o i.toNatClampNeg → P r) (kk : ∀ r, P r → G x nL (pc + 1) ls (vr (gB x) r :: st) μ k j) : G x nL pc ls (.int i :: .ref (gB x + o) :: st) μ k j := by
  obtain ⟨⟨p, e, R, s, m, args, below, meth, cd⟩, ⟨l, D, cy, B, H0, sk⟩, Qf, μ0⟩ := x
  obtain ⟨hx, hb, hml, hown, hts, hK, -⟩ := f
  obtain ⟨hin, h⟩ := h
  intro H locs la a1 a2 a3 a4
  have hlt : i.toNatClampNeg < mln μ o := Nat.not_le.mp fun q => hin (Or.inr q)
  rcases hc with rfl | rfl
  · exact W.aald (v := vr B (mgr μ o i.toNatClampNeg)) (ty := .object RX3) hx hb (mat_arr (a1.2.2 o ho.1) ho (by decide)) ((hK.1.2 3 _ rfl).1 _ _) rfl (fun q => by cases q) (by rw [arrV_size]; exact hin) (by rw [arrV_read _ _ hlt, mva_r rfl]) rfl rfl d (kk _ (h _ rfl) H locs la a1 a2 a3 a4)
  · exact W.aald (v := vr B (mgr μ o i.toNatClampNeg)) (ty := .object RX7) hx hb (mat_arr (a1.2.2 o ho.1) ho (by decide)) ((hK.1.2 4 _ rfl).1 _ _) rfl (fun q => by cases q) (by rw [arrV_size]; exact hin) (by rw [arrV_read _ _ hlt, mva_r rfl]) rfl rfl d (kk _ (h _ rfl) H locs la a1 a2 a3 a4)
theorem mat_st {D : va_G} {cy : Nat → ClassId} {B : Nat} {ν : Me} {o c q : Nat} {v : Value} {H1 : Heap} (hm : mof μ ν o) (ho : mok μ o c) (hc : 12 ≤ c) (hv : mva B ν o c = updV (mva B μ o c) q v) (e : H1[B + o]? = some ((arrV (cy c) (mln μ o) (mva B μ o c)).setSlot q v)) : mat D cy B ν o H1 := by
  refine ⟨fun h1 => ?_, fun h1 => ?_⟩
  · rw [hm.2.1 o, ho.2] at h1
    omega
  · rw [hm.2.1 o, ho.2, hm.2.2.1 o, hv, e, arrV_store]
theorem loc_app {B : Nat} {locs : List Loc} {o i : Nat} (h : ∀ q ∈ locs, B ≤ q.base) : ∀ q ∈ locs ++ [⟨B + o, i⟩], B ≤ q.base := fun z hz => by
  rcases List.mem_append.mp hz with h2 | h2
  · exact h z h2
  · rw [List.mem_singleton.mp h2]
    exact Nat.le_add_right B o
theorem g_iast (f : Fx x cc own nL rm) {o : Nat} {i v : Int32} {P : Me → Prop} (ho : mok μ o 12) (d : decode cc pc = .ok (.iastore, 1)) (h : vp_in i (mln μ o) ∧ ∀ ν, ν = msi μ o i.toNatClampNeg v → P ν) (kk : P (msi μ o i.toNatClampNeg v) → G x nL (pc + 1) ls st (msi μ o i.toNatClampNeg v) k j) : G x nL pc ls (.int v :: .int i :: .ref (gB x + o) :: st) μ k j := by
  obtain ⟨⟨p, e, R, s, m, args, below, meth, cd⟩, ⟨l, D, cy, B, H0, sk⟩, Qf, μ0⟩ := x
  obtain ⟨hx, hb, hml, hown, hts, hK, -⟩ := f
  obtain ⟨hin, h⟩ := h
  intro H locs la a1 a2 a3 a4
  refine W.iast hx hb (mat_arr (a1.2.2 o ho.1) ho (by decide)) ((hK.1.2 0 _ rfl).1 _ _) (fun q => by cases q) (by rw [arrV_size]; exact hin) rfl rfl d fun H1 e z oq => ?_
  exact kk (h _ rfl) H1 _ la (Hd_set a1 (mof_si μ o _ v) z oq (mat_st (mof_si μ o _ v) ho (by decide) (mva_si rfl) e)) (mex_of a2 (mof_si μ o _ v)) (loc_app a3) a4
theorem g_zast (f : Fx x cc own nL rm) {o : Nat} {i v : Int32} {P : Me → Prop} (ho : mok μ o 14) (d : decode cc pc = .ok (.bastore, 1)) (h : vp_in i (mln μ o) ∧ ∀ ν, ν = msi μ o i.toNatClampNeg (vp_nar .boolean v) → P ν) (kk : P (msi μ o i.toNatClampNeg (vp_nar .boolean v)) → G x nL (pc + 1) ls st (msi μ o i.toNatClampNeg (vp_nar .boolean v)) k j) : G x nL pc ls (.int v :: .int i :: .ref (gB x + o) :: st) μ k j := by
  obtain ⟨⟨p, e, R, s, m, args, below, meth, cd⟩, ⟨l, D, cy, B, H0, sk⟩, Qf, μ0⟩ := x
  obtain ⟨hx, hb, hml, hown, hts, hK, -⟩ := f
  obtain ⟨hin, h⟩ := h
  intro H locs la a1 a2 a3 a4
  refine W.zast hx hb (mat_arr (a1.2.2 o ho.1) ho (by decide)) ((hK.1.2 2 _ rfl).1 _ _) (fun q => by cases q) (by rw [arrV_size]; exact hin) rfl rfl d fun H1 e z oq => ?_
  exact kk (h _ rfl) H1 _ la (Hd_set a1 (mof_si μ o _ _) z oq (mat_st (mof_si μ o _ _) ho (by decide) (mva_si rfl) e)) (mex_of a2 (mof_si μ o _ _)) (loc_app a3) a4
theorem g_last (f : Fx x cc own nL rm) {o : Nat} {i : Int32} {v : Int64} {P : Me → Prop} (ho : mok μ o 13) (d : decode cc pc = .ok (.lastore, 1)) (h : vp_in i (mln μ o) ∧ ∀ ν, ν = msl μ o i.toNatClampNeg v → P ν) (kk : P (msl μ o i.toNatClampNeg v) → G x nL (pc + 1) ls st (msl μ o i.toNatClampNeg v) k j) : G x nL pc ls (.long v :: .int i :: .ref (gB x + o) :: st) μ k j := by
  obtain ⟨⟨p, e, R, s, m, args, below, meth, cd⟩, ⟨l, D, cy, B, H0, sk⟩, Qf, μ0⟩ := x
  obtain ⟨hx, hb, hml, hown, hts, hK, -⟩ := f
  obtain ⟨hin, h⟩ := h
  intro H locs la a1 a2 a3 a4
  refine W.last hx hb (mat_arr (a1.2.2 o ho.1) ho (by decide)) ((hK.1.2 1 _ rfl).1 _ _) (fun q => by cases q) (by rw [arrV_size]; exact hin) rfl rfl d fun H1 e z oq => ?_
  exact kk (h _ rfl) H1 _ la (Hd_set a1 (mof_sl μ o _ v) z oq (mat_st (mof_sl μ o _ v) ho (by decide) (mva_sl rfl) e)) (mex_of a2 (mof_sl μ o _ v)) (loc_app a3) a4
theorem g_alen (f : Fx x cc own nL rm) {o c : Nat} (ho : mok μ o c) (hc : c = 12 ∨ c = 16) (d : decode cc pc = .ok (.arraylength, 1)) (h : G x nL (pc + 1) ls (.int (nI (mln μ o)) :: st) μ k j) : G x nL pc ls (.ref (gB x + o) :: st) μ k j := by
  obtain ⟨⟨p, e, R, s, m, args, below, meth, cd⟩, ⟨l, D, cy, B, H0, sk⟩, Qf, μ0⟩ := x
  obtain ⟨hx, hb, hml, hown, hts, hK, -⟩ := f
  intro H locs la a1 a2 a3 a4
  rcases hc with rfl | rfl
  · exact W.alen (n := nI (mln μ o)) hx hb (mat_arr (a1.2.2 o ho.1) ho (by decide)) ((hK.1.2 0 _ rfl).1 _ _) (by rw [arrV_size] <;> rfl) rfl rfl d (h H locs la a1 a2 a3 a4)
  · exact W.alen (n := nI (mln μ o)) hx hb (mat_arr (a1.2.2 o ho.1) ho (by decide)) ((hK.1.2 4 _ rfl).1 _ _) (by rw [arrV_size] <;> rfl) rfl rfl d (h H locs la a1 a2 a3 a4)
end R3
