/-! the reference's small methods -/
theorem e_isIn {v lo hi : Int32} {μ : Me} {Q : Int32 → Me → Prop} : S_X11_isIn v lo hi μ Q ↔ Q (if lo ≤ v ∧ v ≤ hi then 1 else 0) μ := by
  unfold S_X11_isIn
  by_cases h1 : v < lo
  · have h2 : ¬ lo ≤ v := Int32.not_le.mpr h1
    simp [h1, h2]
  · have h2 : lo ≤ v := Int32.not_lt.mp h1
    by_cases h3 : hi < v
    · have h4 : ¬ v ≤ hi := Int32.not_le.mpr h3
      simp [h1, h3, h4]
    · have h4 : v ≤ hi := Int32.not_lt.mp h3
      simp [h1, h2, h3, h4]
theorem e_has {n p : Nat} (hn : n < 2 ^ 31) (hp : p < 32) {μ : Me} {Q : Int32 → Me → Prop} : S_X11_has (nI n) (nI p) μ Q ↔ Q (if n.testBit p then 1 else 0) μ := by
  unfold S_X11_has
  rw [bit_is hn hp]
  by_cases h : n.testBit p = true
  · simp [h]
  · simp [h]
theorem p_bits {k : Nat} (hk : k < 4096) {μ : Me} {Q : Int32 → Me → Prop} (h : Q (nI (pcn k)) μ) : S_X11_bits (nI k) μ Q := by
  refine ⟨fun a b ν n => ν = μ ∧ ∃ c m, m < 4096 ∧ a = nI c ∧ b = nI m ∧ c + pcn m = pcn k ∧ n = m, ⟨k, rfl, 0, k, hk, rfl, rfl, Nat.zero_add _, rfl⟩, ?_⟩
  rintro a b ν n ⟨rfl, c, m, hm, rfl, rfl, hs, rfl⟩
  refine ⟨fun e => ?_, fun e => ?_⟩
  · have e0 : n = 0 := by
      rcases Nat.eq_zero_or_pos n with q | q
      · exact q
      · exact absurd e (nI_ne0 q (by omega))
    subst e0
    rw [show c = pcn k by rw [← hs]; rfl]
    exact h
  · have m0 : n ≠ 0 := fun q => e (by rw [q]; rfl)
    obtain ⟨g1, g2⟩ := pcn_low hm m0
    obtain ⟨z, rfl⟩ : ∃ z, n = z + 1 := ⟨n - 1, by omega⟩
    refine ⟨_, g2, rfl, c + 1, _, by omega, (nI_1 c), ?_, by omega, rfl⟩
    rw [nI_pred, fa_and]
    rfl
theorem ix7 (p w : Nat) : (11 + (7 * nI p)) + nI w = nI (11 + 7 * p + w) := by
  show nI 11 + nI 7 * nI p + nI w = _
  rw [pk_mul, nI_add, nI_add]
theorem in_nI {k n : Nat} (h : k < n) (hn : n < 2 ^ 31) : vp_in (nI k) n := vp_in_nI h hn
theorem cl_nI {k : Nat} (h : k < 2 ^ 31) : (nI k).toNatClampNeg = k := nI_clamp h
theorem cl_0 : (0 : Int32).toNatClampNeg = 0 := rfl
section M1
variable {μ : Me} {s : Nat → Nat} {Q : Int32 → Me → Prop}
theorem e_get (hG : Gp μ) {p w : Nat} (hp : p < 8) (hw : w < 7) : S_X11_get 314 (nI p) (nI w) μ Q ↔ Q (mgi μ 315 (11 + 7 * p + w)) μ := by
  have k : mok μ 314 11 := gp_ok hG (by decide) (by decide)
  have k2 : mok μ 315 12 := gp_ok hG (by decide) (by decide)
  have l : mln μ 315 = 2867 := gp_ln hG (by decide) (by decide)
  have r : mgr μ 314 0 = some 315 := by simp only [gp_r hG]
  have i : vp_in (nI (11 + 7 * p + w)) 2867 := in_nI (by omega) (by decide)
  unfold S_X11_get
  rw [ix7, r, cl_nI (by omega)]
  constructor
  · rintro ⟨-, t, e, -, -, h⟩
    cases e
    exact h
  · intro h
    exact ⟨k, 315, rfl, k2, by rw [l]; exact i, h⟩
theorem e_put (hG : Gp μ) {p w : Nat} {v : Int32} (hp : p < 8) (hw : w < 7) {Q : Me → Prop} : S_X11_put 314 (nI p) (nI w) v μ Q ↔ Q (msi μ 315 (11 + 7 * p + w) v) := by
  have k : mok μ 314 11 := gp_ok hG (by decide) (by decide)
  have k2 : mok μ 315 12 := gp_ok hG (by decide) (by decide)
  have l : mln μ 315 = 2867 := gp_ln hG (by decide) (by decide)
  have r : mgr μ 314 0 = some 315 := by simp only [gp_r hG]
  have i : vp_in (nI (11 + 7 * p + w)) 2867 := in_nI (by omega) (by decide)
  unfold S_X11_put
  rw [ix7, r, cl_nI (by omega)]
  constructor
  · rintro ⟨-, t, e, -, -, h⟩
    cases e
    exact h _ rfl
  · intro h
    exact ⟨k, 315, rfl, k2, by rw [l]; exact i, fun _ e => by rw [e]; exact h⟩
end M1
