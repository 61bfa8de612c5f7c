/-! what the constructors make -/
theorem nn_si (μ : Me) (o q : Nat) (v : Int32) : mnn (msi μ o q v) = mnn μ := rfl
theorem nn_sl (μ : Me) (o q : Nat) (v : Int64) : mnn (msl μ o q v) = mnn μ := rfl
theorem nn_sr (μ : Me) (o q : Nat) (v : Option Nat) : mnn (msr μ o q v) = mnn μ := rfl
theorem nn_nw (μ : Me) (c n : Nat) : mnn (mnw μ c n) = mnn μ + 1 := rfl
theorem kd_si (μ : Me) (o q : Nat) (v : Int32) (a : Nat) : mkd (msi μ o q v) a = mkd μ a := rfl
theorem kd_sr (μ : Me) (o q : Nat) (v : Option Nat) (a : Nat) : mkd (msr μ o q v) a = mkd μ a := rfl
theorem kd_nw (μ : Me) (c n a : Nat) : mkd (mnw μ c n) a = if a = mnn μ then c else mkd μ a := rfl
theorem ln_nw (μ : Me) (c n a : Nat) : mln (mnw μ c n) a = if a = mnn μ then n else mln μ a := rfl
theorem gi_nw (μ : Me) (c n a q : Nat) : mgi (mnw μ c n) a q = if a = mnn μ then 0 else mgi μ a q := rfl
theorem gl_nw (μ : Me) (c n a q : Nat) : mgl (mnw μ c n) a q = if a = mnn μ then 0 else mgl μ a q := rfl
theorem gr_nw (μ : Me) (c n a q : Nat) : mgr (mnw μ c n) a q = if a = mnn μ then none else mgr μ a q := rfl
theorem ne_2 (N : Nat) : (N = N + 1 + 1) = False := by simp; omega
theorem ne_3 (N : Nat) : (N = N + 1 + 1 + 1) = False := by simp; omega
theorem ne_4 (N : Nat) : (N = N + 1 + 1 + 1 + 1) = False := by simp; omega
theorem lt_4 (N : Nat) : (N < N + 1 + 1 + 1 + 1) = True := by simp; omega
theorem lt_3 (N : Nat) : (N < N + 1 + 1 + 1) = True := by simp; omega
theorem lt_2 (N : Nat) : (N < N + 1 + 1) = True := by simp; omega
/-- the first N objects but o are as they were -/
def Sm (μ ν : Me) (N o : Nat) : Prop := ∀ a, a < N → a ≠ o → mkd ν a = mkd μ a ∧ mln ν a = mln μ a ∧ ∀ q, mgi ν a q = mgi μ a q ∧ mgl ν a q = mgl μ a q ∧ mgr ν a q = mgr μ a q
def MomI (ν : Me) (m : Nat) : Prop := mok ν m 3 ∧ (mok ν (m + 1) 12 ∧ mln ν (m + 1) = 8) ∧ (mok ν (m + 2) 12 ∧ mln ν (m + 2) = 8) ∧ (mok ν (m + 3) 13 ∧ mln ν (m + 3) = 30) ∧ (mgr ν m 5 = some (m + 1) ∧ mgr ν m 6 = some (m + 2) ∧ mgr ν m 7 = some (m + 3)) ∧ (∀ q, mgi ν m q = if q = 4 then 229 else 0) ∧ (∀ q, mgi ν (m + 1) q = 0 ∧ mgi ν (m + 2) q = 0 ∧ mgl ν (m + 3) q = 0)
theorem p_newMoment {μ : Me} {Q : Me → Prop} (h : ∀ ν, mnn ν = mnn μ + 4 → Sm μ ν (mnn μ) (mnn μ) → MomI ν (mnn μ) → Q ν) : S_X3_init (mnn μ) (mnw μ 3 0) Q := by
  unfold S_X3_init
  refine ⟨mok_nw μ 3 0, ?_⟩
  rintro _ rfl _ rfl _ rfl _ rfl _ rfl _ rfl _ rfl
  refine h _ rfl (fun a ha _ => ?_) ?_
  · have h1 : a ≠ mnn μ := by omega
    have h2 : a ≠ mnn μ + 1 := by omega
    have h3 : a ≠ mnn μ + 2 := by omega
    have h4 : a ≠ mnn μ + 3 := by omega
    simp [kd_sr, kd_si, kd_nw, ln_sr, ln_si, ln_nw, gi_sr, gi_si, gi_nw, gl_sr, gl_si, gl_nw, gr_sr, gr_si, gr_nw, nn_sr, nn_si, nn_nw, h1, h2, h3, h4]
  · unfold MomI mok
    simp [kd_sr, kd_si, kd_nw, ln_sr, ln_si, ln_nw, gi_sr, gi_si, gi_nw, gl_sr, gl_si, gl_nw, gr_sr, gr_si, gr_nw, nn_sr, nn_si, nn_nw, ne_2, ne_3, ne_4, lt_2, lt_3, lt_4]
