/-! THE MEMORY: every object that the run makes has a number o (the order of making); its address is B + o. Ints, longs, references by (object, slot); kind and length by object; how many there are. -/
abbrev Me : Type := (Nat → Nat → Int32) × (Nat → Nat → Int64) × (Nat → Nat → Option Nat) × (Nat → Nat) × (Nat → Nat) × Nat
def mgi (μ : Me) (o k : Nat) : Int32 := μ.1 o k
def mgl (μ : Me) (o k : Nat) : Int64 := μ.2.1 o k
def mgr (μ : Me) (o k : Nat) : Option Nat := μ.2.2.1 o k
def mkd (μ : Me) (o : Nat) : Nat := μ.2.2.2.1 o
def mln (μ : Me) (o : Nat) : Nat := μ.2.2.2.2.1 o
def mnn (μ : Me) : Nat := μ.2.2.2.2.2
def mu2 {α : Type} (f : Nat → Nat → α) (o k : Nat) (v : α) : Nat → Nat → α := fun a j => if a = o ∧ j = k then v else f a j
def mro {α : Type} (f : Nat → Nat → α) (o : Nat) (g : Nat → α) : Nat → Nat → α := fun a j => if a = o then g j else f a j
def msi (μ : Me) (o k : Nat) (v : Int32) : Me := (mu2 μ.1 o k v, μ.2)
def msl (μ : Me) (o k : Nat) (v : Int64) : Me := (μ.1, mu2 μ.2.1 o k v, μ.2.2)
def msr (μ : Me) (o k : Nat) (v : Option Nat) : Me := (μ.1, μ.2.1, mu2 μ.2.2.1 o k v, μ.2.2.2)
def mci (μ : Me) (o : Nat) (g : Nat → Int32) : Me := (mro μ.1 o g, μ.2)
def mcl (μ : Me) (o : Nat) (g : Nat → Int64) : Me := (μ.1, mro μ.2.1 o g, μ.2.2)
def mnw (μ : Me) (c n : Nat) : Me := (mro μ.1 (mnn μ) (fun _ => 0), mro μ.2.1 (mnn μ) (fun _ => 0), mro μ.2.2.1 (mnn μ) (fun _ => none), (fun a => if a = mnn μ then c else mkd μ a), (fun a => if a = mnn μ then n else mln μ a), mnn μ + 1)
/-- an object of a kind -/
def mok (μ : Me) (o c : Nat) : Prop := o < mnn μ ∧ mkd μ o = c
/-- what was there is there -/
def mex (μ ν : Me) : Prop := mnn μ ≤ mnn ν ∧ ∀ o, o < mnn μ → mkd ν o = mkd μ o ∧ mln ν o = mln μ o
theorem mex_rf (μ : Me) : mex μ μ := ⟨Nat.le_refl _, fun _ _ => ⟨rfl, rfl⟩⟩
theorem mex_tr {a b c : Me} (h : mex a b) (k : mex b c) : mex a c := ⟨Nat.le_trans h.1 k.1, fun o ho => ⟨(k.2 o (Nat.lt_of_lt_of_le ho h.1)).1.trans (h.2 o ho).1, (k.2 o (Nat.lt_of_lt_of_le ho h.1)).2.trans (h.2 o ho).2⟩⟩
theorem mex_ok {μ ν : Me} (h : mex μ ν) {o c : Nat} (k : mok μ o c) : mok ν o c := ⟨Nat.lt_of_lt_of_le k.1 h.1, (h.2 o k.1).1.trans k.2⟩
theorem mex_nw (μ : Me) (c n : Nat) : mex μ (mnw μ c n) := ⟨Nat.le_succ _, fun o ho => ⟨if_neg (Nat.ne_of_lt ho), if_neg (Nat.ne_of_lt ho)⟩⟩
theorem mok_nw (μ : Me) (c n : Nat) : mok (mnw μ c n) (mnn μ) c := ⟨Nat.lt_succ_self _, if_pos rfl⟩
/-- a slot's type by the kind: 0 an int, 1 a long, 2 a reference -/
def mty (c k : Nat) : Nat := match c with
  | 0 => if k < 5 then 2 else 0
  | 1 => 2
  | 2 => if k < 5 then 2 else 0
  | 3 => if k < 5 then 0 else if k < 8 then 2 else 0
  | 4 => if k < 3 then 2 else if k = 6 then 2 else 0
  | 5 => if k < 2 then 2 else 0
  | 6 => if k = 0 then 2 else 0
  | 7 => if k < 2 then 2 else if k = 7 then 2 else 0
  | 8 => if k < 3 then 2 else 0
  | 9 => if k = 0 then 0 else if k < 6 then 2 else if k < 9 then 0 else if k < 11 then 2 else if k = 11 then 0 else if k < 16 then 2 else 0
  | 10 => if k < 9 then 2 else 0
  | 11 => if k < 4 then 2 else if k = 11 then 1 else if k = 15 then 2 else if k = 20 then 2 else if k = 22 then 2 else if k = 23 then 2 else if k < 26 then 0 else 2
  | 13 => 1
  | 15 => 2
  | 16 => 2
  | _ => 0
def vr (B : Nat) (r : Option Nat) : Value := match r with
  | none => .null
  | some o => .ref (B + o)
def mva (B : Nat) (μ : Me) (o c k : Nat) : Value := match mty c k with
  | 0 => .int (mgi μ o k)
  | 1 => .long (mgl μ o k)
  | _ => vr B (mgr μ o k)
def mcN (c : Nat) : Nat := match vwCl[c]? with
  | some q => q.2.2
  | none => 0
/-- the cell of an object -/
def mat (D : va_G) (cy : Nat → ClassId) (B : Nat) (μ : Me) (o : Nat) (H : Heap) : Prop :=
  (mkd μ o < 12 → t_OB (B + o) (D.1 (mkd μ o)) (mcN (mkd μ o)) (D.2 (mkd μ o)) H (mva B μ o (mkd μ o))) ∧
  (12 ≤ mkd μ o → H[B + o]? = some (arrV (cy (mkd μ o)) (mln μ o) (mva B μ o (mkd μ o))))
/-- the heap holds the memory; what lay below B is as it was -/
def Hd (D : va_G) (cy : Nat → ClassId) (B : Nat) (H0 : Heap) (μ : Me) (H : Heap) : Prop := H.size = B + mnn μ ∧ (∀ q, q < B → H[q]? = H0[q]?) ∧ ∀ o, o < mnn μ → mat D cy B μ o H
def mtys (cy : Nat → ClassId) : List (ClassId × FieldType) := [(cy 12, .int), (cy 13, .long), (cy 14, .boolean), (cy 15, .object RX3), (cy 16, .object RX7)]
theorem mva_i {c k : Nat} (h : mty c k = 0) (B : Nat) (μ : Me) (o : Nat) : mva B μ o c k = .int (mgi μ o k) := by unfold mva; rw [h]; rfl
theorem mva_l {c k : Nat} (h : mty c k = 1) (B : Nat) (μ : Me) (o : Nat) : mva B μ o c k = .long (mgl μ o k) := by unfold mva; rw [h]; rfl
theorem mva_r {c k : Nat} (h : mty c k = 2) (B : Nat) (μ : Me) (o : Nat) : mva B μ o c k = vr B (mgr μ o k) := by unfold mva; rw [h]; rfl
theorem mva_si {B : Nat} {μ : Me} {o k : Nat} {v : Int32} {c : Nat} (h : mty c k = 0) : mva B (msi μ o k v) o c = updV (mva B μ o c) k (.int v) := by
  funext j
  unfold updV
  by_cases hj : j = k
  · subst hj
    rw [if_pos rfl, mva_i h]
    simp [mgi, msi, mu2]
  · rw [if_neg hj]
    unfold mva
    simp [mgi, mgl, mgr, msi, mu2, hj]
theorem mva_sl {B : Nat} {μ : Me} {o k : Nat} {v : Int64} {c : Nat} (h : mty c k = 1) : mva B (msl μ o k v) o c = updV (mva B μ o c) k (.long v) := by
  funext j
  unfold updV
  by_cases hj : j = k
  · subst hj
    rw [if_pos rfl, mva_l h]
    simp [mgl, msl, mu2]
  · rw [if_neg hj]
    unfold mva
    simp [mgi, mgl, mgr, msl, mu2, hj]
theorem mva_sr {B : Nat} {μ : Me} {o k : Nat} {v : Option Nat} {c : Nat} (h : mty c k = 2) : mva B (msr μ o k v) o c = updV (mva B μ o c) k (vr B v) := by
  funext j
  unfold updV
  by_cases hj : j = k
  · subst hj
    rw [if_pos rfl, mva_r h]
    simp [mgr, msr, mu2]
  · rw [if_neg hj]
    unfold mva
    simp [mgi, mgl, mgr, msr, mu2, hj]
/-- alike but for one object -/
def mof (μ ν : Me) (o : Nat) : Prop := mnn ν = mnn μ ∧ (∀ a, mkd ν a = mkd μ a) ∧ (∀ a, mln ν a = mln μ a) ∧ ∀ a, a ≠ o → ∀ k, mgi ν a k = mgi μ a k ∧ mgl ν a k = mgl μ a k ∧ mgr ν a k = mgr μ a k
theorem mof_si (μ : Me) (o k : Nat) (v : Int32) : mof μ (msi μ o k v) o := ⟨rfl, fun _ => rfl, fun _ => rfl, fun a ha j => ⟨by simp [mgi, msi, mu2, ha], rfl, rfl⟩⟩
theorem mof_sl (μ : Me) (o k : Nat) (v : Int64) : mof μ (msl μ o k v) o := ⟨rfl, fun _ => rfl, fun _ => rfl, fun a ha j => ⟨rfl, by simp [mgl, msl, mu2, ha], rfl⟩⟩
theorem mof_sr (μ : Me) (o k : Nat) (v : Option Nat) : mof μ (msr μ o k v) o := ⟨rfl, fun _ => rfl, fun _ => rfl, fun a ha j => ⟨rfl, rfl, by simp [mgr, msr, mu2, ha]⟩⟩
theorem mof_ci (μ : Me) (o : Nat) (g : Nat → Int32) : mof μ (mci μ o g) o := ⟨rfl, fun _ => rfl, fun _ => rfl, fun a ha j => ⟨by simp [mgi, mci, mro, ha], rfl, rfl⟩⟩
theorem mof_cl (μ : Me) (o : Nat) (g : Nat → Int64) : mof μ (mcl μ o g) o := ⟨rfl, fun _ => rfl, fun _ => rfl, fun a ha j => ⟨rfl, by simp [mgl, mcl, mro, ha], rfl⟩⟩
theorem mat_off {D : va_G} {cy : Nat → ClassId} {B : Nat} {μ ν : Me} {o a : Nat} {H H1 : Heap} (hm : mof μ ν o) (ha : a ≠ o) (hq : H1[B + a]? = H[B + a]?) (h : mat D cy B μ a H) : mat D cy B ν a H1 := by
  have e : mva B ν a (mkd ν a) = mva B μ a (mkd μ a) := by
    funext k
    obtain ⟨e1, e2, e3⟩ := hm.2.2.2 a ha k
    unfold mva
    rw [hm.2.1 a, e1, e2, e3]
  unfold mat
  rw [e, hm.2.1 a, hm.2.2.1 a]
  exact ⟨fun h1 => (h.1 h1).kept hq, fun h1 => hq.trans (h.2 h1)⟩
theorem Hd_set {D : va_G} {cy : Nat → ClassId} {B : Nat} {H0 H H1 : Heap} {μ ν : Me} {o : Nat} (h : Hd D cy B H0 μ H) (hm : mof μ ν o) (hz : H1.size = H.size) (hq : ∀ q : Nat, q ≠ B + o → H1[q]? = H[q]?) (ho : mat D cy B ν o H1) : Hd D cy B H0 ν H1 := by
  refine ⟨by rw [hz, h.1, hm.1], fun q hqB => (hq q (by omega)).trans (h.2.1 q hqB), fun a ha => ?_⟩
  by_cases e : a = o
  · subst e; exact ho
  · exact mat_off hm e (hq (B + a) (by omega)) (h.2.2 a (by rw [← hm.1]; exact ha))
theorem Hd_new {D : va_G} {cy : Nat → ClassId} {B : Nat} {H0 H H1 : Heap} {μ : Me} {c n : Nat} (h : Hd D cy B H0 μ H) (hz : H1.size = H.size + 1) (hq : ∀ q : Nat, q < H.size → H1[q]? = H[q]?) (ho : mat D cy B (mnw μ c n) (mnn μ) H1) : Hd D cy B H0 (mnw μ c n) H1 := by
  refine ⟨by rw [hz, h.1]; rfl, fun q hqB => (hq q (by rw [h.1]; omega)).trans (h.2.1 q hqB), fun a ha => ?_⟩
  by_cases e : a = mnn μ
  · subst e; exact ho
  · have ha' : a < mnn μ := by have : a < mnn μ + 1 := ha; omega
    have h1 := h.2.2 a ha'
    have ek : mkd (mnw μ c n) a = mkd μ a := if_neg e
    have el : mln (mnw μ c n) a = mln μ a := if_neg e
    have ev : mva B (mnw μ c n) a (mkd μ a) = mva B μ a (mkd μ a) := by
      funext k
      unfold mva
      simp [mgi, mgl, mgr, mnw, mro, e]
    unfold mat
    rw [ek, el, ev]
    have hq' := hq (B + a) (by rw [h.1]; omega)
    exact ⟨fun h2 => (h1.1 h2).kept hq', fun h2 => hq'.trans (h1.2 h2)⟩
/-- a class of the tables, by its number -/
def Kc (c : Nat) (C : String) (T : u_T) (N : Nat) (ty : Nat → FieldType) : Prop := c < 12 ∧ vwCl[c]? = some (C, T, N) ∧ (∀ w ∈ u_ws C T N, w ∈ lw_tbl) ∧ (∀ k, k < N → parseFieldDescriptor (T k).2.2.1 = some (ty k)) ∧ (∀ a, a < N → ∀ b, b < N → a ≠ b → (T a).2.1 ≠ (T b).2.1) ∧ (∀ k, k < N → (T k).1 = C)
def TB : List Cond := lw_tbl.filter goodWord
theorem tb_in {w : Cond} (i : Nat) (h : lw_tbl[i]? = some w) (hg : goodWord w = true) : w ∈ TB := List.mem_filter.mpr ⟨List.mem_of_getElem? h, hg⟩
