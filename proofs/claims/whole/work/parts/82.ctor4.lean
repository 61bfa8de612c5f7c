/-! the class and the reference, made; the relation holds then -/
/-- object t of kind c with its first j arrays made, of kinds kk -/
def Sh (ν : Me) (t c : Nat) (kk ln sl : Nat → Nat) (j : Nat) (g : Nat → Int32) : Prop := mnn ν = t + 1 + j ∧ (mkd ν t = c ∧ mln ν t = 0) ∧ (∀ q, mgi ν t q = g q) ∧ (∀ i, i < j → Fo ν (t + 1 + i) (kk i) (ln i) ∧ mgr ν t (sl i) = some (t + 1 + i))
theorem Sh_0 (μ : Me) (c : Nat) (kk ln sl : Nat → Nat) : Sh (mnw μ c 0) (mnn μ) c kk ln sl 0 (fun _ => 0) := ⟨rfl, ⟨by rw [kd_nw, if_pos rfl], by rw [ln_nw, if_pos rfl]⟩, fun q => by rw [gi_nw, if_pos rfl], fun i hi => absurd hi (by omega)⟩
theorem Sh_s {μ ν : Me} {t c j n q d : Nat} {kk ln sl : Nat → Nat} {g : Nat → Int32} (h : Sh μ t c kk ln sl j g) (e : ν = msr (mnw μ d n) t q (some (mnn μ))) (hk : kk j = d) (hn : ln j = n) (hq : sl j = q) (hd : ∀ i, i < j → sl i ≠ sl j) : Sh ν t c kk ln sl (j + 1) g ∧ ∀ a, a < t → Rw μ ν a := by
  subst e
  obtain ⟨h1, h2, h3, h4⟩ := h
  refine ⟨⟨by show mnn μ + 1 = _; omega, ?_, fun p => ?_, fun i hi => ?_⟩, fun a ha => ?_⟩
  · rw [kd_sr, kd_nw, if_neg (by omega), ln_sr, ln_nw, if_neg (by omega)]
    exact h2
  · rw [gi_sr, gi_nw, if_neg (by omega)]
    exact h3 p
  · by_cases c : i = j
    · subst c
      rw [hn, hq, hk, show t + 1 + i = mnn μ by omega]
      exact ⟨Fo_nw μ d n, by rw [gr_sr, if_pos ⟨rfl, rfl⟩]⟩
    · obtain ⟨f1, f2⟩ := h4 i (by omega)
      refine ⟨Fo_rw (μ := μ) f1 (Nat.le_succ _) (Rw_tr (Rw_nw f1.1) (Rw_sr (by omega))), ?_⟩
      rw [gr_sr, if_neg (by rintro ⟨-, x⟩; exact hd i (by omega) (x.trans hq.symm)), gr_nw, if_neg (by omega)]
      exact f2
  · exact Rw_tr (Rw_nw (by omega)) (Rw_sr (by omega))
theorem Sh_i {μ ν : Me} {t c j k : Nat} {kk ln sl : Nat → Nat} {g : Nat → Int32} {v : Int32} (h : Sh μ t c kk ln sl j g) (e : ν = msi μ t k v) : Sh ν t c kk ln sl j (fun q => if q = k then v else g q) ∧ ∀ a, a < t → Rw μ ν a := by
  subst e
  obtain ⟨h1, h2, h3, h4⟩ := h
  refine ⟨⟨h1, h2, fun p => ?_, fun i hi => ⟨Fo_rw (μ := μ) (h4 i hi).1 (Nat.le_refl _) (Rw_si (by omega)), (h4 i hi).2⟩⟩, fun a ha => Rw_si (by omega)⟩
  show mgi _ t p = if p = k then v else g p
  rw [gi_si]
  by_cases c : p = k
  · rw [if_pos ⟨rfl, c⟩, if_pos c]
  · rw [if_neg (fun x => c x.2), if_neg c]
    exact h3 p
theorem Sh_r {μ ν : Me} {t c j k : Nat} {kk ln sl : Nat → Nat} {g : Nat → Int32} {v : Option Nat} (h : Sh μ t c kk ln sl j g) (e : ν = msr μ t k v) (hd : ∀ i, i < j → sl i ≠ k) : Sh ν t c kk ln sl j g ∧ (∀ a, a < t → Rw μ ν a) ∧ mgr ν t k = v ∧ ∀ q, q ≠ k → mgr ν t q = mgr μ t q := by
  subst e
  obtain ⟨h1, h2, h3, h4⟩ := h
  refine ⟨⟨h1, h2, h3, fun i hi => ⟨(h4 i hi).1, ?_⟩⟩, fun a ha => Rw_sr (by omega), by rw [gr_sr, if_pos ⟨rfl, rfl⟩], fun q hq => by rw [gr_sr, if_neg (fun x => hq x.2)]⟩
  rw [gr_sr, if_neg (fun x => hd i hi x.2)]
  exact (h4 i hi).2
theorem Sh_ok {μ : Me} {t c j n d : Nat} {kk ln sl : Nat → Nat} {g : Nat → Int32} (h : Sh μ t c kk ln sl j g) : mok (mnw μ d n) t c := by
  refine ⟨?_, ?_⟩
  · show t < mnn μ + 1
    have := h.1
    omega
  · rw [kd_nw, if_neg (by have := h.1; omega)]
    exact h.2.1.1
def k12 (_ : Nat) : Nat := 12
def xlL (i : Nat) : Nat := if i < 2 then 300 else 120
def xsL (i : Nat) : Nat := if i < 2 then i else 7
def l301 (_ : Nat) : Nat := 301
def l300 (_ : Nat) : Nat := 300
def l256 (_ : Nat) : Nat := 256
def sId (i : Nat) : Nat := i
def s2 (i : Nat) : Nat := i + 2
def blL (i : Nat) : Nat := if i = 0 then 256 else if i = 1 then 8 else 1
theorem xsL_d : ∀ j, j < 3 → ∀ i, i < j → xsL i ≠ xsL j := by decide
/-- arrays of an object by the table -/
theorem all_sh {ν : Me} {t c j : Nat} {ln sl : Nat → Nat} {g : Nat → Int32} (h : Sh ν t c k12 ln sl j g) (h0 : Pk ν t (kdF t) (lnF t) (rsF t) (giF t)) (hk : ∀ i, i < j → kdF (t + 1 + i) = 12 ∧ lnF (t + 1 + i) = ln i ∧ (rsF (t + 1 + i)).isEmpty = true) (ht : 141 < t ∧ t + j < 306 ∨ 305 < t) : All ν t (t + 1 + j) := by
  intro o h1 h2
  by_cases c : o = t
  · rw [c]; exact h0
  · obtain ⟨i, hi, rfl⟩ : ∃ i, i < j ∧ o = t + 1 + i := ⟨o - t - 1, by omega, by omega⟩
    obtain ⟨k1, k2, k3⟩ := hk i hi
    have f := (h.2.2.2 i hi).1
    exact all_1 ⟨f.1, f.2.1⟩ f.2.2.1 (f := fun _ => 0) (fun q => (f.2.2.2 q).1) k1 k2 (emp k3) (gi_0 (by rw [k1]; decide) (by omega) (by omega) (by omega))
section C4
variable {μ : Me} {Q : Me → Prop}
theorem p_newText (h : ∀ ν, (∀ a, a < mnn μ → Rw μ ν a) → Sh ν (mnn μ) 7 k12 xlL xsL 3 (fun _ => 0) → Q ν) : S_X7_init (mnn μ) (mnw μ 7 0) Q := by
  have s0 := Sh_0 μ 7 k12 xlL xsL
  have r0 : ∀ a, a < mnn μ → Rw μ (mnw μ 7 0) a := fun a ha => Rw_nw ha
  unfold S_X7_init
  rintro _ rfl
  refine ⟨Sh_ok s0, ?_⟩
  intro μ5 e5
  obtain ⟨s1, r1⟩ := Sh_s s0 e5 rfl rfl rfl (xsL_d 0 (by omega))
  intro μ6 e6 μ9 e9
  subst e6
  obtain ⟨s2, r2⟩ := Sh_s s1 e9 rfl rfl rfl (xsL_d 1 (by omega))
  intro μ10 e10 μ13 e13
  subst e10
  obtain ⟨s3, r3⟩ := Sh_s s2 e13 rfl rfl rfl (xsL_d 2 (by omega))
  exact h μ13 (fun a ha => Rw_tr (r0 a ha) (Rw_tr (r1 a ha) (Rw_tr (r2 a ha) (r3 a ha)))) s3
theorem p_newTokens (h : ∀ ν, (∀ a, a < mnn μ → Rw μ ν a) → Sh ν (mnn μ) 8 k12 l301 sId 3 (fun _ => 0) → Q ν) : S_X8_init (mnn μ) (mnw μ 8 0) Q := by
  have s0 := Sh_0 μ 8 k12 l301 sId
  have r0 : ∀ a, a < mnn μ → Rw μ (mnw μ 8 0) a := fun a ha => Rw_nw ha
  unfold S_X8_init
  rintro _ rfl
  refine ⟨Sh_ok s0, ?_⟩
  intro μ5 e5
  obtain ⟨s1, r1⟩ := Sh_s s0 e5 rfl rfl rfl (fun i hi => absurd hi (by omega))
  intro μ6 e6 μ9 e9
  subst e6
  obtain ⟨s2, r2⟩ := Sh_s s1 e9 rfl rfl rfl (fun i hi => by unfold sId; omega)
  intro μ10 e10 μ13 e13
  subst e10
  obtain ⟨s3, r3⟩ := Sh_s s2 e13 rfl rfl rfl (fun i hi => by unfold sId; omega)
  exact h μ13 (fun a ha => Rw_tr (r0 a ha) (Rw_tr (r1 a ha) (Rw_tr (r2 a ha) (r3 a ha)))) s3
theorem p_newTape (h : ∀ ν, (∀ a, a < mnn μ → Rw μ ν a) → Sh ν (mnn μ) 6 k12 l300 sId 1 (fun _ => 0) → Q ν) : S_X6_init (mnn μ) (mnw μ 6 0) Q := by
  have s0 := Sh_0 μ 6 k12 l300 sId
  have r0 : ∀ a, a < mnn μ → Rw μ (mnw μ 6 0) a := fun a ha => Rw_nw ha
  unfold S_X6_init
  rintro _ rfl
  refine ⟨Sh_ok s0, ?_⟩
  intro μ5 e5
  obtain ⟨s1, r1⟩ := Sh_s s0 e5 rfl rfl rfl (fun i hi => absurd hi (by omega))
  exact h μ5 (fun a ha => Rw_tr (r0 a ha) (r1 a ha)) s1
theorem p_newMorning {o1 o2 : Nat} (h : ∀ ν, (∀ a, a < mnn μ → Rw μ ν a) → Sh ν (mnn μ) 4 k12 l300 s2 1 (fun _ => 0) → mgr ν (mnn μ) 0 = some o1 → mgr ν (mnn μ) 1 = some o2 → Q ν) : S_X4_init (mnn μ) o1 o2 (mnw μ 4 0) Q := by
  have z0 := Sh_0 μ 4 k12 l300 s2
  have r0 : ∀ a, a < mnn μ → Rw μ (mnw μ 4 0) a := fun a ha => Rw_nw ha
  unfold S_X4_init
  rintro _ rfl
  refine ⟨Sh_ok z0, ?_⟩
  intro μ5 e5
  obtain ⟨z1, r1⟩ := Sh_s z0 e5 rfl rfl rfl (fun i hi => absurd hi (by omega))
  intro μ6 e6 μ7 e7
  obtain ⟨z2, r2, g2, w2⟩ := Sh_r z1 e6 (fun i hi => by unfold s2; omega)
  obtain ⟨z3, r3, g3, w3⟩ := Sh_r z2 e7 (fun i hi => by unfold s2; omega)
  exact h μ7 (fun a ha => Rw_tr (r0 a ha) (Rw_tr (r1 a ha) (Rw_tr (r2 a ha) (r3 a ha)))) z3 ((w3 0 (by omega)).trans g2) g3
theorem p_newLeads {o1 o2 : Nat} (h : ∀ ν, (∀ a, a < mnn μ → Rw μ ν a) → Sh ν (mnn μ) 2 k12 l256 s2 3 (fun q => if q = 5 then 1 else 0) → mgr ν (mnn μ) 0 = some o1 → mgr ν (mnn μ) 1 = some o2 → Q ν) : S_X2_init (mnn μ) o1 o2 (mnw μ 2 0) Q := by
  have z0 := Sh_0 μ 2 k12 l256 s2
  have r0 : ∀ a, a < mnn μ → Rw μ (mnw μ 2 0) a := fun a ha => Rw_nw ha
  unfold S_X2_init
  rintro _ rfl
  refine ⟨Sh_ok z0, ?_⟩
  intro μ5 e5
  obtain ⟨z1, r1⟩ := Sh_s z0 e5 rfl rfl rfl (fun i hi => absurd hi (by omega))
  intro μ6 e6 μ9 e9
  subst e6
  obtain ⟨z2, r2⟩ := Sh_s z1 e9 rfl rfl rfl (fun i hi => by unfold s2; omega)
  intro μ10 e10 μ13 e13
  subst e10
  obtain ⟨z3, r3⟩ := Sh_s z2 e13 rfl rfl rfl (fun i hi => by unfold s2; omega)
  intro μ14 e14
  obtain ⟨z4, r4⟩ := Sh_i z3 e14
  intro μ15 e15 μ16 e16
  obtain ⟨z5, r5, g5, w5⟩ := Sh_r z4 e15 (fun i hi => by unfold s2; omega)
  obtain ⟨z6, r6, g6, w6⟩ := Sh_r z5 e16 (fun i hi => by unfold s2; omega)
  exact h μ16 (fun a ha => Rw_tr (r0 a ha) (Rw_tr (r1 a ha) (Rw_tr (r2 a ha) (Rw_tr (r3 a ha) (Rw_tr (r4 a ha) (Rw_tr (r5 a ha) (r6 a ha))))))) z6 ((w6 0 (by omega)).trans g5) g6
theorem p_newBeliefs {o1 o2 : Nat} (h : ∀ ν, (∀ a, a < mnn μ → Rw μ ν a) → Sh ν (mnn μ) 0 k12 blL s2 3 (fun _ => 0) → mgr ν (mnn μ) 0 = some o1 → mgr ν (mnn μ) 1 = some o2 → Q ν) : S_X0_init (mnn μ) o1 o2 (mnw μ 0 0) Q := by
  have z0 := Sh_0 μ 0 k12 blL s2
  have r0 : ∀ a, a < mnn μ → Rw μ (mnw μ 0 0) a := fun a ha => Rw_nw ha
  unfold S_X0_init
  rintro _ rfl
  refine ⟨Sh_ok z0, ?_⟩
  intro μ5 e5
  obtain ⟨z1, r1⟩ := Sh_s z0 e5 rfl rfl rfl (fun i hi => absurd hi (by omega))
  intro μ6 e6 μ9 e9
  subst e6
  obtain ⟨z2, r2⟩ := Sh_s z1 e9 rfl rfl rfl (fun i hi => by unfold s2; omega)
  intro μ10 e10 μ13 e13
  subst e10
  obtain ⟨z3, r3⟩ := Sh_s z2 e13 rfl rfl rfl (fun i hi => by unfold s2; omega)
  intro μ15 e15 μ16 e16
  obtain ⟨z5, r5, g5, w5⟩ := Sh_r z3 e15 (fun i hi => by unfold s2; omega)
  obtain ⟨z6, r6, g6, w6⟩ := Sh_r z5 e16 (fun i hi => by unfold s2; omega)
  exact h μ16 (fun a ha => Rw_tr (r0 a ha) (Rw_tr (r1 a ha) (Rw_tr (r2 a ha) (Rw_tr (r3 a ha) (Rw_tr (r5 a ha) (r6 a ha)))))) z6 ((w6 0 (by omega)).trans g5) g6
/-- the reader with its tokens and its first text -/
theorem p_newReader (hm : mnn μ = 290) (h : ∀ ν, mnn ν = 299 → (∀ a, a < 290 → Rw μ ν a) → All ν 290 299 → Q ν) : S_X5_init 290 (mnw μ 5 0) Q := by
  unfold S_X5_init
  rintro _ rfl
  have n1 : mnn (mnw μ 5 0) = 291 := by show mnn μ + 1 = 291; omega
  rw [n1]
  have tk := @p_newTokens (mnw μ 5 0)
  rw [n1] at tk
  refine tk (fun ν rN zN => ?_)
  have n2 : mnn ν = 295 := zN.1
  have r290 : Rw (mnw μ 5 0) ν 290 := rN 290 (by omega)
  have k290 : mkd (mnw μ 5 0) 290 = 5 ∧ mln (mnw μ 5 0) 290 = 0 ∧ ∀ q, mgi (mnw μ 5 0) 290 q = 0 := by
    refine ⟨by rw [kd_nw, if_pos hm.symm], by rw [ln_nw, if_pos hm.symm], fun q => by rw [gi_nw, if_pos hm.symm]⟩
  refine ⟨⟨by omega, r290.1.trans k290.1⟩, ?_⟩
  rintro _ rfl _ rfl
  have n3 : mnn (msr ν 290 0 (some 291)) = 295 := n2
  rw [n3]
  have tx := @p_newText (msr ν 290 0 (some 291))
  rw [n3] at tx
  refine tx (fun ρ rR zR => ?_)
  rintro _ rfl
  have n4 : mnn ρ = 299 := zR.1
  have ra : ∀ a, a < 290 → Rw μ ρ a := fun a ha => Rw_tr (Rw_nw (by omega)) (Rw_tr (rN a (by omega)) (Rw_tr (Rw_sr (by omega)) (rR a (by omega))))
  refine h _ n4 (fun a ha => Rw_tr (ra a ha) (Rw_sr (by omega))) (fun o h1 h2 => ?_)
  by_cases c0 : o = 290
  · subst c0
    have rr := rR 290 (by omega)
    refine ⟨by show 290 < mnn ρ; omega, ?_, ?_, fun _ _ q => ?_, fun e he => ?_⟩
    · exact rr.1.trans (r290.1.trans k290.1)
    · exact rr.2.1.trans (r290.2.1.trans k290.2.1)
    · exact ((rr.2.2 q).1.trans ((r290.2.2 q).1.trans (k290.2.2 q))).trans (gi_0 (by decide) (by decide) (by decide) (by decide) q)
    · have : e = (0, 291) := by
        have e1 : rsF 290 = [(0, 291)] := by decide
        rw [e1] at he
        exact List.mem_singleton.1 he
      subst this
      show mgr (msr ρ 290 1 _) 290 0 = _
      rw [gr_sr, if_neg (by omega), (rr.2.2 0).2.2, gr_sr, if_pos ⟨rfl, rfl⟩]
  · by_cases c1 : o < 295
    · have h8 : All ν 291 (291 + 1 + 3) := all_sh zN ⟨by omega, zN.2.1.1.trans (by decide), zN.2.1.2.trans (by decide), fun _ _ q => (zN.2.2.1 q).trans (gi_0 (by decide) (by decide) (by decide) (by decide) q), fun e he => by
        have e1 : rsF 291 = [(0, 292), (1, 293), (2, 294)] := by decide
        rw [e1] at he
        simp only [List.mem_cons, List.not_mem_nil, or_false] at he
        rcases he with x | x | x <;> subst x
        · exact (zN.2.2.2 0 (by omega)).2
        · exact (zN.2.2.2 1 (by omega)).2
        · exact (zN.2.2.2 2 (by omega)).2⟩ (by decide) (by omega)
      exact Pk_rw (h8 o (by omega) (by omega)) (by show mnn ν ≤ mnn ρ; omega) (Rw_tr (Rw_sr (by omega)) (Rw_tr (rR o (by omega)) (Rw_sr (by omega))))
    · have h7 : All ρ 295 (295 + 1 + 3) := all_sh zR ⟨by omega, zR.2.1.1.trans (by decide), zR.2.1.2.trans (by decide), fun _ _ q => (zR.2.2.1 q).trans (gi_0 (by decide) (by decide) (by decide) (by decide) q), fun e he => by
        have e1 : rsF 295 = [(0, 296), (1, 297), (7, 298)] := by decide
        rw [e1] at he
        simp only [List.mem_cons, List.not_mem_nil, or_false] at he
        rcases he with x | x | x <;> subst x
        · exact (zR.2.2.2 0 (by omega)).2
        · exact (zR.2.2.2 1 (by omega)).2
        · exact (zR.2.2.2 2 (by omega)).2⟩ (by decide) (by omega)
      exact Pk_rw (h7 o (by omega) (by omega)) (Nat.le_refl _) (Rw_sr (by omega))
end C4
