/-! a text read: both sides (wanting) -/
theorem z_text {μ : Me} {c : Nat} {P : Int32 → Me → Prop} (h : Top μ c) (hc : c ≤ 600) (k : ∀ r ν, Gp ν → (∀ {Q : Int32 → Me → Prop}, (∀ ρ, Top ρ (c + 1) → Q r ρ) → S_X11_text 314 ν Q) → P r ν) : S_X10_text 0 μ P := by
  sorry
