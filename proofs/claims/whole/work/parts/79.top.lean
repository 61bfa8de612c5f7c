/-! class and reference side by side: the relation, and each call over it -/
/-- what stands beside the town and the row -/
def Rst (μ : Me) (s si : Nat → Nat) (T : Nat → Tx) (L : Nat) (b : Nat → Nat) : Prop := (∀ i, i < s 1 → TaM μ i (T i)) ∧ TownR μ 136 si ∧ RowA μ 316 si ∧ WF si ∧ si 1 ≤ s 1 ∧ Tp μ L b ∧ Ft9 μ ∧ mgi μ 314 24 = nI 1 ∧ ∃ a len, Ak μ a len
def Top (μ : Me) (c : Nat) : Prop := ∃ s si T tn L b, Cl μ s T tn ∧ Mo μ s T ∧ Rst μ s si T L b ∧ tn ≤ 1 + c
section TO
variable {μ ν ρ : Me} {s si s' : Nat → Nat} {T : Nat → Tx} {tn tn' L c : Nat} {b : Nat → Nat} {v u w x y : Int32} {P Q : Int32 → Me → Prop}
theorem rst_x (h : Rst μ s si T L b) (hr : mgr ν 310 4 = mgr μ 310 4) (hn : mnn μ ≤ mnn ν) (hk : ∀ a, a < mnn μ → mkd ν a = mkd μ a ∧ mln ν a = mln μ a) (e : ∀ a q, (a = 0 ∨ (136 ≤ a ∧ a ≤ 272) ∨ (316 ≤ a ∧ a ≤ 318) ∨ (a = 314 ∧ q ≠ 21 ∧ q ≠ 25)) → mgi ν a q = mgi μ a q) (el : ∀ a q, 136 ≤ a → a ≤ 270 → mgl ν a q = mgl μ a q) (e1 : s' 1 = s 1) : Rst ν s' si T L b := by
  obtain ⟨h1, h2, h3, h4, h5, ⟨t1, t2, t3, t4⟩, h7, h8, a, len, k1, k2, k3, k4⟩ := h
  refine ⟨fun i hi => ?_, TownR_x h2 (fun a q _ _ => e a q (by omega)) (fun a q _ _ => el a q (by omega) (by omega)), RowA_x h3 (fun q => e _ q (by omega)), h4, by omega, ⟨t1, (e _ _ (by omega)).trans t2, (e _ _ (by omega)).trans t3, fun k hk => ⟨(t4 k hk).1, (e _ _ (by omega)).trans (t4 k hk).2.1, (e _ _ (by omega)).trans (t4 k hk).2.2⟩⟩, ?_, (e _ _ (by omega)).trans h8, a, len, hr.trans k1, ⟨Nat.lt_of_lt_of_le k2.1 hn, (hk a k2.1).1.trans k2.2⟩, (hk a k2.1).2.trans k3, k4⟩
  · rw [e1] at hi
    exact TaM_x (h1 i hi) (fun q => e _ q (by omega))
  · unfold Ft9
    rw [e 0 9 (by omega), e 0 10 (by omega), e 0 11 (by omega), e 314 5 (by omega), e 314 6 (by omega)]
    exact h7
theorem rst_fr (h : Rst μ s si T L b) (k : Fr xA μ ν) (e1 : s' 1 = s 1) : Rst ν s' si T L b := rst_x h (k.2.2.2.1 310 4 (by decide)) (Nat.le_of_eq k.1.symm) (fun a _ => ⟨k.2.1 a, k.2.2.1 a⟩) (fun a q h1 => k.2.2.2.2.1 a q (xA_o (by omega))) (fun a q h1 h2 => k.2.2.2.2.2 a q (xA_o (by omega))) e1
theorem rst_fq (h : Rst μ s si T L b) (k : Fq μ ν) : Rst ν s si T L b := rst_x h (k.2.2.2.1 310 4 (by decide)) (Nat.le_of_eq k.1.symm) (fun a _ => ⟨k.2.1 a, k.2.2.1 a⟩) (fun a q h1 => k.2.2.2.2.1 a q (by omega)) (fun a q h1 h2 => k.2.2.2.2.2 a q (by omega) (by omega)) rfl
theorem mo_fr (h : Mo μ s T) (k : Fr xA μ ν) : Mo ν s T := ⟨fr_gp h.1 k, RowA_x h.2.1 (fun q => k.2.2.2.2.1 315 q (by decide)), h.2.2.1, fun i hi => TxM_x (h.2.2.2 i hi) (fun q => k.2.2.2.2.1 317 q (by decide))⟩
theorem cl_fq (h : Cl μ s T tn) (k : Fq μ ν) : Cl ν s T tn := Cl_x h (fq_gp h.1 k) (fun a q h1 => k.2.2.2.2.1 a q (by omega)) (fun a q h1 => k.2.2.2.2.2 a q (by omega) (by omega))
theorem top_mk (hR : Rst μ s si T L b) (hF : Fr xA μ ν) (hC : Cl ν s' T tn') (hQ : Fq ν ρ) (hM : Mo ρ s' T) (e1 : s' 1 = s 1) (ht : tn' ≤ 1 + c) : Top ρ c := ⟨s', si, T, tn', L, b, cl_fq hC hQ, hM, rst_fq (rst_fr hR hF e1) hQ, ht⟩
theorem fr_Ma (h : Fr xM μ ν) : Fr xA μ ν := fr_ba (fr_mo h xM_B)
theorem z_late (h : Top μ c) (k : ∀ r ν, Gp ν → (∀ {Q : Int32 → Me → Prop}, (∀ ρ, Top ρ (c + 1) → Q r ρ) → S_X11_late 314 v ν Q) → P r ν) : S_X10_late 0 v μ P := by
  obtain ⟨s, si, T, tn, L, b, hC, hM, hR, ht⟩ := h
  exact C_late hC (fun ν hF hC2 => k _ ν hC2.1 (fun hQ => M_late (mo_fr hM (fr_Ma hF)) (fun ρ hF2 hR2 => hQ ρ (top_mk hR (fr_Ma hF) hC2 hF2 (mo_fq (mo_fr hM (fr_Ma hF)) hF2 hR2) rfl (by omega)))))
theorem z_runners (h : Top μ c) (k : ∀ r ν, Gp ν → (∀ {Q : Int32 → Me → Prop}, (∀ ρ, Top ρ (c + 1) → Q r ρ) → S_X11_runners 314 v ν Q) → P r ν) : S_X10_runners 0 v μ P := by
  obtain ⟨s, si, T, tn, L, b, hC, hM, hR, ht⟩ := h
  exact C_runners hC (fun ν hF hC2 => k _ ν hC2.1 (fun hQ => M_runners (mo_fr hM (fr_Ma hF)) (fun ρ hF2 hR2 => hQ ρ (top_mk hR (fr_Ma hF) hC2 hF2 (mo_fq (mo_fr hM (fr_Ma hF)) hF2 hR2) rfl (by omega)))))
theorem z_tail (h : Top μ c) (k : ∀ r ν, Gp ν → (∀ {Q : Int32 → Me → Prop}, (∀ ρ, Top ρ (c + 1) → Q r ρ) → S_X11_tail 314 v ν Q) → P r ν) : S_X10_tail 0 v μ P := by
  obtain ⟨s, si, T, tn, L, b, hC, hM, hR, ht⟩ := h
  exact C_tail hC (fun ν hF hC2 => k _ ν hC2.1 (fun hQ => M_tail (mo_fr hM (fr_Ma hF)) (fun ρ hF2 hR2 => hQ ρ (top_mk hR (fr_Ma hF) hC2 hF2 (mo_fq (mo_fr hM (fr_Ma hF)) hF2 hR2) rfl (by omega)))))
theorem z_round (h : Top μ c) (k : ∀ r ν, Gp ν → (∀ {Q : Int32 → Me → Prop}, (∀ ρ, Top ρ (c + 1) → Q r ρ) → S_X11_round 314 v ν Q) → P r ν) : S_X10_round 0 v μ P := by
  obtain ⟨s, si, T, tn, L, b, hC, hM, hR, ht⟩ := h
  exact C_round hC (fun ν hF hC2 => k _ ν hC2.1 (fun hQ => M_round (mo_fr hM (fr_Ma hF)) (fun ρ hF2 hR2 => hQ ρ (top_mk hR (fr_Ma hF) hC2 hF2 (mo_fq (mo_fr hM (fr_Ma hF)) hF2 hR2) rfl (by omega)))))
theorem z_basin (h : Top μ c) (k : ∀ r ν, Gp ν → (∀ {Q : Int32 → Me → Prop}, (∀ ρ, Top ρ (c + 1) → Q r ρ) → S_X11_basin 314 v ν Q) → P r ν) : S_X10_basin 0 v μ P := by
  obtain ⟨s, si, T, tn, L, b, hC, hM, hR, ht⟩ := h
  exact C_basin hC (fun ν hF hC2 => k _ ν hC2.1 (fun hQ => M_basin (mo_fr hM (fr_Ma hF)) (fun ρ hF2 hR2 => hQ ρ (top_mk hR (fr_Ma hF) hC2 hF2 (mo_fq (mo_fr hM (fr_Ma hF)) hF2 hR2) rfl (by omega)))))
theorem z_rounds (h : Top μ c) (k : ∀ r ν, Gp ν → (∀ {Q : Int32 → Me → Prop}, (∀ ρ, Top ρ (c + 1) → Q r ρ) → S_X11_rounds 314 ν Q) → P r ν) : S_X10_rounds 0 μ P := by
  obtain ⟨s, si, T, tn, L, b, hC, hM, hR, ht⟩ := h
  exact C_rounds hC (fun ν hF hC2 => k _ ν hC2.1 (fun hQ => M_rounds (mo_fr hM (fr_Ma hF)) (fun ρ hF2 hR2 => hQ ρ (top_mk hR (fr_Ma hF) hC2 hF2 (mo_fq (mo_fr hM (fr_Ma hF)) hF2 hR2) rfl (by omega)))))
theorem z_never (h : Top μ c) (k : ∀ r ν, Gp ν → (∀ {Q : Int32 → Me → Prop}, (∀ ρ, Top ρ (c + 1) → Q r ρ) → S_X11_never 314 ν Q) → P r ν) : S_X10_never 0 μ P := by
  obtain ⟨s, si, T, tn, L, b, hC, hM, hR, ht⟩ := h
  exact C_never hC (fun ν hF hC2 => k _ ν hC2.1 (fun hQ => M_never (mo_fr hM (fr_Ma hF)) (fun ρ hF2 hR2 => hQ ρ (top_mk hR (fr_Ma hF) hC2 hF2 (mo_fq (mo_fr hM (fr_Ma hF)) hF2 hR2) rfl (by omega)))))
theorem z_settled (h : Top μ c) (k : ∀ r ν, Gp ν → (∀ {Q : Int32 → Me → Prop}, (∀ ρ, Top ρ (c + 1) → Q r ρ) → S_X11_settled 314 v ν Q) → P r ν) : S_X10_settled 0 v μ P := by
  obtain ⟨s, si, T, tn, L, b, hC, hM, hR, ht⟩ := h
  exact C_settled hC (fun ν hF hC2 => k _ ν hC2.1 (fun hQ => M_settled (mo_fr hM (fr_Ma hF)) (fun ρ hF2 hR2 => hQ ρ (top_mk hR (fr_Ma hF) hC2 hF2 (mo_fq (mo_fr hM (fr_Ma hF)) hF2 hR2) rfl (by omega)))))
theorem z_fewest (h : Top μ c) (k : ∀ r ν, Gp ν → (∀ {Q : Int32 → Me → Prop}, (∀ ρ, Top ρ (c + 1) → Q r ρ) → S_X11_fewest 314 v ν Q) → P r ν) : S_X10_fewest 0 v μ P := by
  obtain ⟨s, si, T, tn, L, b, hC, hM, hR, ht⟩ := h
  exact C_fewest hC (fun ν hF hC2 => k _ ν hC2.1 (fun hQ => M_fewest (mo_fr hM (fr_Ma hF)) (fun ρ hF2 hR2 => hQ ρ (top_mk hR (fr_Ma hF) hC2 hF2 (mo_fq (mo_fr hM (fr_Ma hF)) hF2 hR2) rfl (by omega)))))
theorem z_calm (h : Top μ c) (k : ∀ r ν, Gp ν → (∀ {Q : Int32 → Me → Prop}, (∀ ρ, Top ρ (c + 1) → Q r ρ) → S_X11_calm 314 v ν Q) → P r ν) : S_X10_calm 0 v μ P := by
  obtain ⟨s, si, T, tn, L, b, hC, hM, hR, ht⟩ := h
  exact C_calm hC (fun ν hF hC2 => k _ ν hC2.1 (fun hQ => M_calm (mo_fr hM (fr_Ma hF)) (fun ρ hF2 hR2 => hQ ρ (top_mk hR (fr_Ma hF) hC2 hF2 (mo_fq (mo_fr hM (fr_Ma hF)) hF2 hR2) rfl (by omega)))))
theorem z_times (h : Top μ c) (k : ∀ r ν, Gp ν → (∀ {Q : Int32 → Me → Prop}, (∀ ρ, Top ρ (c + 1) → Q r ρ) → S_X11_times 314 v u ν Q) → P r ν) : S_X10_times 0 v u μ P := by
  obtain ⟨s, si, T, tn, L, b, hC, hM, hR, ht⟩ := h
  exact C_times hC (fun ν hF hC2 => k _ ν hC2.1 (fun hQ => M_times (mo_fr hM (fr_Ma hF)) (fun ρ hF2 hR2 => hQ ρ (top_mk hR (fr_Ma hF) hC2 hF2 (mo_fq (mo_fr hM (fr_Ma hF)) hF2 hR2) rfl (by omega)))))
theorem z_apart (h : Top μ c) (k : ∀ r ν, Gp ν → (∀ {Q : Int32 → Me → Prop}, (∀ ρ, Top ρ (c + 1) → Q r ρ) → S_X11_apart 314 v u ν Q) → P r ν) : S_X10_apart 0 v u μ P := by
  obtain ⟨s, si, T, tn, L, b, hC, hM, hR, ht⟩ := h
  exact C_apart hC (fun ν hF hC2 => k _ ν hC2.1 (fun hQ => M_apart (mo_fr hM (fr_Ma hF)) (fun ρ hF2 hR2 => hQ ρ (top_mk hR (fr_Ma hF) hC2 hF2 (mo_fq (mo_fr hM (fr_Ma hF)) hF2 hR2) rfl (by omega)))))
theorem z_after (h : Top μ c) (k : ∀ r ν, Gp ν → (∀ {Q : Int32 → Me → Prop}, (∀ ρ, Top ρ (c + 1) → Q r ρ) → S_X11_after 314 v u ν Q) → P r ν) : S_X10_after 0 v u μ P := by
  obtain ⟨s, si, T, tn, L, b, hC, hM, hR, ht⟩ := h
  exact C_after hC (fun ν hF hC2 => k _ ν hC2.1 (fun hQ => M_after (mo_fr hM (fr_Ma hF)) (fun ρ hF2 hR2 => hQ ρ (top_mk hR (fr_Ma hF) hC2 hF2 (mo_fq (mo_fr hM (fr_Ma hF)) hF2 hR2) rfl (by omega)))))
theorem z_helped (h : Top μ c) (k : ∀ r ν, Gp ν → (∀ {Q : Int32 → Me → Prop}, (∀ ρ, Top ρ (c + 1) → Q r ρ) → S_X11_helped 314 v u ν Q) → P r ν) : S_X10_helped 0 v u μ P := by
  obtain ⟨s, si, T, tn, L, b, hC, hM, hR, ht⟩ := h
  exact C_helped hC (fun ν hF hC2 => k _ ν hC2.1 (fun hQ => M_helped (mo_fr hM (fr_Ma hF)) (fun ρ hF2 hR2 => hQ ρ (top_mk hR (fr_Ma hF) hC2 hF2 (mo_fq (mo_fr hM (fr_Ma hF)) hF2 hR2) rfl (by omega)))))
theorem z_slack (h : Top μ c) (k : ∀ r ν, Gp ν → (∀ {Q : Int32 → Me → Prop}, (∀ ρ, Top ρ (c + 1) → Q r ρ) → S_X11_slack 314 v ν Q) → P r ν) : S_X10_slack 0 v μ P := by
  obtain ⟨s, si, T, tn, L, b, hC, hM, hR, ht⟩ := h
  exact C_slack hC (fun ν hF hC2 => k _ ν hC2.1 (fun hQ => M_slack (mo_fr hM (fr_Ma hF)) (fun ρ hF2 hR2 => hQ ρ (top_mk hR (fr_Ma hF) hC2 hF2 (mo_fq (mo_fr hM (fr_Ma hF)) hF2 hR2) rfl (by omega)))))
theorem z_least (h : Top μ c) (k : ∀ r ν, Gp ν → (∀ {Q : Int32 → Me → Prop}, (∀ ρ, Top ρ (c + 1) → Q r ρ) → S_X11_least 314 v ν Q) → P r ν) : S_X10_least 0 v μ P := by
  obtain ⟨s, si, T, tn, L, b, hC, hM, hR, ht⟩ := h
  exact C_least hC (fun ν hF hC2 => k _ ν hC2.1 (fun hQ => M_least (mo_fr hM (fr_Ma hF)) (fun ρ hF2 hR2 => hQ ρ (top_mk hR (fr_Ma hF) hC2 hF2 (mo_fq (mo_fr hM (fr_Ma hF)) hF2 hR2) rfl (by omega)))))
theorem z_moves (h : Top μ c) (k : ∀ r ν, Gp ν → (∀ {Q : Int32 → Me → Prop}, (∀ ρ, Top ρ (c + 1) → Q r ρ) → S_X11_moves 314 v u ν Q) → P r ν) : S_X10_moves 0 v u μ P := by
  obtain ⟨s, si, T, tn, L, b, hC, hM, hR, ht⟩ := h
  exact C_moves hC (fun ν hF hC2 => k _ ν hC2.1 (fun hQ => M_moves (mo_fr hM (fr_Ma hF)) (fun ρ hF2 hR2 => hQ ρ (top_mk hR (fr_Ma hF) hC2 hF2 (mo_fq (mo_fr hM (fr_Ma hF)) hF2 hR2) rfl (by omega)))))
theorem z_needless (h : Top μ c) (k : ∀ r ν, Gp ν → (∀ {Q : Int32 → Me → Prop}, (∀ ρ, Top ρ (c + 1) → Q r ρ) → S_X11_needless 314 ν Q) → P r ν) : S_X10_needless 0 μ P := by
  obtain ⟨s, si, T, tn, L, b, hC, hM, hR, ht⟩ := h
  exact C_needless hC (fun ν hF hC2 => k _ ν hC2.1 (fun hQ => M_needless (mo_fr hM (fr_Ma hF)) (fun ρ hF2 hR2 => hQ ρ (top_mk hR (fr_Ma hF) hC2 hF2 (mo_fq (mo_fr hM (fr_Ma hF)) hF2 hR2) rfl (by omega)))))
theorem z_of (h : Top μ c) (k : ∀ r ν, Gp ν → (∀ {Q : Int32 → Me → Prop}, (∀ ρ, Top ρ (c + 1) → Q r ρ) → S_X11_of 314 v u ν Q) → P r ν) : S_X10_of 0 v u μ P := by
  obtain ⟨s, si, T, tn, L, b, hC, hM, hR, ht⟩ := h
  exact C_of hC (fun ν hF hC2 => k _ ν hC2.1 (fun hQ => M_of (mo_fr hM (fr_Ma hF)) (fun ρ hF2 hR2 => hQ ρ (top_mk hR (fr_Ma hF) hC2 hF2 (mo_fq (mo_fr hM (fr_Ma hF)) hF2 hR2) rfl (by omega)))))
theorem z_lateness (h : Top μ c) (k : ∀ r ν, Gp ν → (∀ {Q : Int32 → Me → Prop}, (∀ ρ, Top ρ (c + 1) → Q r ρ) → S_X11_lateness 314 v ν Q) → P r ν) : S_X10_lateness 0 v μ P := by
  obtain ⟨s, si, T, tn, L, b, hC, hM, hR, ht⟩ := h
  exact C_lateness hC (fun ν hF hC2 => k _ ν hC2.1 (fun hQ => M_lateness (mo_fr hM (fr_Ma hF)) (fun ρ hF2 hR2 => hQ ρ (top_mk hR (fr_Ma hF) hC2 hF2 (mo_fq (mo_fr hM (fr_Ma hF)) hF2 hR2) rfl (by omega)))))
theorem z_early (h : Top μ c) (k : ∀ r ν, Gp ν → (∀ {Q : Int32 → Me → Prop}, (∀ ρ, Top ρ (c + 1) → Q r ρ) → S_X11_early 314 v ν Q) → P r ν) : S_X10_early 0 v μ P := by
  obtain ⟨s, si, T, tn, L, b, hC, hM, hR, ht⟩ := h
  exact C_early hC (fun ν hF hC2 => k _ ν hC2.1 (fun hQ => M_early (mo_fr hM (fr_Ma hF)) (fun ρ hF2 hR2 => hQ ρ (top_mk hR (fr_Ma hF) hC2 hF2 (mo_fq (mo_fr hM (fr_Ma hF)) hF2 hR2) rfl (by omega)))))
theorem z_weathers (h : Top μ c) (k : ∀ r ν, Gp ν → (∀ {Q : Int32 → Me → Prop}, (∀ ρ, Top ρ (c + 1) → Q r ρ) → S_X11_weathers 314 v ν Q) → P r ν) : S_X10_weathers 0 v μ P := by
  obtain ⟨s, si, T, tn, L, b, hC, hM, hR, ht⟩ := h
  exact C_weathers hC (fun ν hF hC2 => k _ ν hC2.1 (fun hQ => M_weathers (mo_fr hM (fr_Ma hF)) (fun ρ hF2 hR2 => hQ ρ (top_mk hR (fr_Ma hF) hC2 hF2 (mo_fq (mo_fr hM (fr_Ma hF)) hF2 hR2) rfl (by omega)))))
theorem z_always (h : Top μ c) (k : ∀ r ν, Gp ν → (∀ {Q : Int32 → Me → Prop}, (∀ ρ, Top ρ (c + 1) → Q r ρ) → S_X11_always 314 ν Q) → P r ν) : S_X10_always 0 μ P := by
  obtain ⟨s, si, T, tn, L, b, hC, hM, hR, ht⟩ := h
  exact C_always hC (fun ν hF hC2 => k _ ν hC2.1 (fun hQ => M_always (mo_fr hM (fr_Ma hF)) (fun ρ hF2 hR2 => hQ ρ (top_mk hR (fr_Ma hF) hC2 hF2 (mo_fq (mo_fr hM (fr_Ma hF)) hF2 hR2) rfl (by omega)))))
theorem z_crowded (h : Top μ c) (k : ∀ r ν, Gp ν → (∀ {Q : Int32 → Me → Prop}, (∀ ρ, Top ρ (c + 1) → Q r ρ) → S_X11_crowded 314 ν Q) → P r ν) : S_X10_crowded 0 μ P := by
  obtain ⟨s, si, T, tn, L, b, hC, hM, hR, ht⟩ := h
  exact C_crowded hC (fun ν hF hC2 => k _ ν hC2.1 (fun hQ => M_crowded (mo_fr hM (fr_Ma hF)) (fun ρ hF2 hR2 => hQ ρ (top_mk hR (fr_Ma hF) hC2 hF2 (mo_fq (mo_fr hM (fr_Ma hF)) hF2 hR2) rfl (by omega)))))
theorem z_whose (h : Top μ c) (k : ∀ r ν, Gp ν → (∀ {Q : Int32 → Me → Prop}, (∀ ρ, Top ρ (c + 1) → Q r ρ) → S_X11_whose 314 ν Q) → P r ν) : S_X10_whose 0 μ P := by
  obtain ⟨s, si, T, tn, L, b, hC, hM, hR, ht⟩ := h
  exact C_whose hC (fun ν hF hC2 => k _ ν hC2.1 (fun hQ => M_whose (mo_fr hM (fr_Ma hF)) (fun ρ hF2 hR2 => hQ ρ (top_mk hR (fr_Ma hF) hC2 hF2 (mo_fq (mo_fr hM (fr_Ma hF)) hF2 hR2) rfl (by omega)))))
theorem z_believes (h : Top μ c) (k : ∀ r ν, Gp ν → (∀ {Q : Int32 → Me → Prop}, (∀ ρ, Top ρ (c + 1) → Q r ρ) → S_X11_believes 314 v u ν Q) → P r ν) : S_X10_believes 0 v u μ P := by
  obtain ⟨s, si, T, tn, L, b, hC, hM, hR, ht⟩ := h
  exact C_believes hC (fun ν hF hC2 => k _ ν hC2.1 (fun hQ => M_believes (mo_fr hM (fr_ba hF)) (fun ρ hF2 hR2 => hQ ρ (top_mk hR (fr_ba hF) hC2 hF2 (mo_fq (mo_fr hM (fr_ba hF)) hF2 hR2) rfl (by omega)))))
theorem z_sure (h : Top μ c) (k : ∀ r ν, Gp ν → (∀ {Q : Int32 → Me → Prop}, (∀ ρ, Top ρ (c + 1) → Q r ρ) → S_X11_sure 314 v ν Q) → P r ν) : S_X10_sure 0 v μ P := by
  obtain ⟨s, si, T, tn, L, b, hC, hM, hR, ht⟩ := h
  exact C_sure hC (fun ν hF hC2 => k _ ν hC2.1 (fun hQ => M_sure (mo_fr hM (fr_ba hF)) (fun ρ hF2 hR2 => hQ ρ (top_mk hR (fr_ba hF) hC2 hF2 (mo_fq (mo_fr hM (fr_ba hF)) hF2 hR2) rfl (by omega)))))
theorem z_race (h : Top μ c) (k : ∀ r ν, Gp ν → (∀ {Q : Int32 → Me → Prop}, (∀ ρ, Top ρ (c + 1) → Q r ρ) → S_X11_race 314 v u ν Q) → P r ν) : S_X10_race 0 v u μ P := by
  obtain ⟨s, si, T, tn, L, b, hC, hM, hR, ht⟩ := h
  exact C_race hC (fun ν hF hC2 => k _ ν hC2.1 (fun hQ => M_race (mo_fr hM (fr_Ma hF)) (fun ρ hF2 hR2 => hQ ρ (top_mk hR (fr_Ma hF) hC2 hF2 (mo_fq (mo_fr hM (fr_Ma hF)) hF2 hR2) rfl (by omega)))))
theorem z_is (h : Top μ c) (k : ∀ r ν, Gp ν → (∀ {Q : Int32 → Me → Prop}, (∀ ρ, Top ρ (c + 1) → Q r ρ) → S_X11_is 314 v ν Q) → P r ν) : S_X10_is 0 v μ P := by
  obtain ⟨s, si, T, tn, L, b, hC, hM, hR, ht⟩ := h
  exact C_is hC (k _ μ hC.1 (fun hQ => M_is hM (hQ μ ⟨s, si, T, tn, L, b, hC, hM, hR, by omega⟩)))
theorem z_book (h : Top μ c) (k : ∀ r ν, Gp ν → (∀ {Q : Int32 → Me → Prop}, (∀ ρ, Top ρ (c + 1) → Q r ρ) → S_X11_book 314 v u ν Q) → P r ν) : S_X10_book 0 v u μ P := by
  obtain ⟨s, si, T, tn, L, b, hC, hM, hR, ht⟩ := h
  exact C_book hC (k _ μ hC.1 (fun hQ => M_book hM (hQ μ ⟨s, si, T, tn, L, b, hC, hM, hR, by omega⟩)))
theorem z_deaf (h : Top μ c) (k : ∀ r ν, Gp ν → (∀ {Q : Int32 → Me → Prop}, (∀ ρ, Top ρ (c + 1) → Q r ρ) → S_X11_deaf 314 ν Q) → P r ν) : S_X10_deaf 0 μ P := by
  obtain ⟨s, si, T, tn, L, b, hC, hM, hR, ht⟩ := h
  exact C_deaf hC (k _ μ hC.1 (fun hQ => M_deaf hM (hQ μ ⟨s, si, T, tn, L, b, hC, hM, hR, by omega⟩)))
theorem z_latest (h : Top μ c) (k : ∀ r ν, Gp ν → (∀ {Q : Int32 → Me → Prop}, (∀ ρ, Top ρ (c + 1) → Q r ρ) → S_X11_latest 314 ν Q) → P r ν) : S_X10_latest 0 μ P := by
  obtain ⟨s, si, T, tn, L, b, hC, hM, hR, ht⟩ := h
  exact C_latest hC (k _ μ hC.1 (fun hQ => M_latest hM (hQ μ ⟨s, si, T, tn, L, b, hC, hM, hR, by omega⟩)))
theorem z_ledger (h : Top μ c) (k : ∀ r ν, Gp ν → (∀ {Q : Int32 → Me → Prop}, (∀ ρ, Top ρ (c + 1) → Q r ρ) → S_X11_ledger 314 v ν Q) → P r ν) : S_X10_ledger 0 v μ P := by
  obtain ⟨s, si, T, tn, L, b, hC, hM, hR, ht⟩ := h
  exact C_ledger hC (k _ μ hC.1 (fun hQ => M_ledger hM (hQ μ ⟨s, si, T, tn, L, b, hC, hM, hR, by omega⟩)))
theorem z_about (h : Top μ c) (k : ∀ r ν, Gp ν → (∀ {Q : Int32 → Me → Prop}, (∀ ρ, Top ρ (c + 1) → Q r ρ) → S_X11_about 314 v ν Q) → P r ν) : S_X10_about 0 v μ P := by
  obtain ⟨s, si, T, tn, L, b, hC, hM, hR, ht⟩ := h
  exact C_about hC hR.2.2.2.2.2.1.2.1 (k _ μ hC.1 (fun hQ => M_about hM hR.2.2.2.2.2.1.2.2.1 (hQ μ ⟨s, si, T, tn, L, b, hC, hM, hR, by omega⟩)))
theorem z_asleep (h : Top μ c) (k : ∀ r ν, Gp ν → (∀ {Q : Int32 → Me → Prop}, (∀ ρ, Top ρ (c + 1) → Q r ρ) → S_X11_asleep 314 v ν Q) → P r ν) : S_X10_asleep 0 v μ P := by
  obtain ⟨s, si, T, tn, L, b, hC, hM, hR, ht⟩ := h
  refine C_asleep hC (fun m hm ν hF hC2 => k _ ν hC2.1 (fun hQ => M_asleep (mo_fr hM (fr_Ma hF)) (fun m' hm' ρ hF2 hR2 => ?_)))
  rw [slp_u hm' hm]
  exact hQ ρ (top_mk hR (fr_Ma hF) hC2 hF2 (mo_fq (mo_fr hM (fr_Ma hF)) hF2 hR2) rfl (by omega))
theorem z_tells (h : Top μ c) (k : ∀ r ν, Gp ν → (∀ {Q : Int32 → Me → Prop}, (∀ ρ, Top ρ (c + 1) → Q r ρ) → S_X11_tells 314 v ν Q) → P r ν) : S_X10_tells 0 v μ P := by
  obtain ⟨s, si, T, tn, L, b, hC, hM, hR, ht⟩ := h
  refine C_tells hC hR.2.2.2.2.2.2.2.2 (fun ν hF hC2 hA => k _ ν hC2.1 (fun hQ => ?_))
  have g := hC.1.1
  have em : ∀ a q, a < 328 → a ≠ 313 → (a < 299 ∨ (300 < a ∧ a < 307) ∨ 312 < a) → mgi ν a q = mgi μ a q := fun a q h1 h2 h3 => hF.2.2.2.1 a q h1 h2 (xB_x h3)
  have hM2 : Mo ν s T := ⟨hC2.1, RowA_x hM.2.1 (fun q => em 315 q (by omega) (by omega) (by omega)), hM.2.2.1, fun i hi => TxM_x (hM.2.2.2 i hi) (fun q => em 317 q (by omega) (by omega) (by omega))⟩
  have hR2 : Rst ν s si T L b := by
    obtain ⟨h1, h2, h3, h4, h5, ⟨t1, t2, t3, t4⟩, h7, h8, -⟩ := hR
    refine ⟨fun i hi => TaM_x (h1 i hi) (fun q => em 317 q (by omega) (by omega) (by omega)), TownR_x h2 (fun a q _ _ => em a q (by omega) (by omega) (by omega)) (fun a q _ _ => hF.2.2.2.2 a q (by omega) (xB_x (by omega))), RowA_x h3 (fun q => em _ q (by omega) (by omega) (by omega)), h4, h5, ⟨t1, (em _ _ (by omega) (by omega) (by omega)).trans t2, (em _ _ (by omega) (by omega) (by omega)).trans t3, fun k hk => ⟨(t4 k hk).1, (em _ _ (by omega) (by omega) (by omega)).trans (t4 k hk).2.1, (em _ _ (by omega) (by omega) (by omega)).trans (t4 k hk).2.2⟩⟩, ?_, (em _ _ (by omega) (by omega) (by omega)).trans h8, hA⟩
    unfold Ft9
    rw [em 0 9 (by omega) (by omega) (by omega), em 0 10 (by omega) (by omega) (by omega), em 0 11 (by omega) (by omega) (by omega), em 314 5 (by omega) (by omega) (by omega), em 314 6 (by omega) (by omega) (by omega)]
    exact h7
  exact M_tells hM2 (fun ρ hF2 hRw => hQ ρ ⟨s, si, T, tn, L, b, cl_fq hC2 hF2, mo_fq hM2 hF2 hRw, rst_fq hR2 hF2, by omega⟩)
/-- the second number of a row stays -/
theorem ring_1 (hW : WF s) : ringT s v 1 = s 1 := by
  have w := wf_n hW
  unfold ringT
  split
  · rw [ups_n (by omega)]; exact keep_o (by omega) (by omega)
  · rfl
theorem due_1 (hW : WF s) : dueT s v u 1 = s 1 := by
  have w := wf_n hW
  unfold dueT
  split
  · rw [ups_n (by omega)]; exact keep_o (by omega) (by omega)
  · rfl
theorem lain_1 (hW : WF s) {j : Nat} : lainT s v j 1 = s 1 := by
  have w := wf_n hW
  unfold lainT
  split
  · rw [ups_n (by omega)]; exact keep_o (by omega) (by omega)
  · rfl
theorem tell_1 : tellT s v u w x 1 = s 1 := by
  unfold tellT
  split
  · exact per_o (by omega) (by omega)
  · rfl
theorem hear_1 : hearT s v u w 1 = s 1 := by
  unfold hearT hearS
  split
  · exact ups_n (by omega)
  · rfl
theorem by_1 : byT s v 1 = s 1 := by
  unfold byT
  split
  · exact ups_n (by omega)
  · rfl
theorem hrd_1 : hrdT s v u 1 = s 1 := by
  unfold hrdT hrdS
  split
  · exact ups_n (by omega)
  · split
    · rw [ups_n (by omega), ups_n (by omega), ups_n (by omega)]
    · rfl
theorem sd_1 : sdT s v u 1 = s 1 := by
  unfold sdT sdS
  split
  · exact ups_n (by omega)
  · split
    · rw [ups_n (by omega), ups_n (by omega), ups_n (by omega)]
    · rfl
theorem dr_1 {z : Nat} : drS T z s 1 = s 1 := by
  unfold drS
  split
  · split
    · exact pas_o (by omega)
    · rfl
  · split
    · rfl
    · split
      · exact ups_n (by omega)
      · split
        · exact ups_n (by omega)
        · split
          · exact ups_n (by omega)
          · exact ups_n (by omega)
theorem yr_1 : ∀ n, yrS T n s 1 = s 1
  | 0 => rfl
  | n + 1 => by
    show drS T _ _ 1 = s 1
    rw [dr_1, ups_n (by omega)]
    exact yr_1 n
theorem z_person (h : Top μ c) (hc : c ≤ 600) (k : ∀ r ν, Gp ν → (∀ {Q : Int32 → Me → Prop}, (∀ ρ, Top ρ (c + 1) → Q r ρ) → S_X11_person 314 v u w x ν Q) → P r ν) : S_X10_person 0 v u w x μ P := by
  obtain ⟨s, si, T, tn, L, b, hC, hM, hR, ht⟩ := h
  have hG := hC.1
  have hW := hC.2.1
  have wn := wf_n hW
  unfold S_X10_person
  simp (disch := first | omega | (simp only [Gp_si, Gp_sl, Gp_ci, Gp_cl]; assumption)) only [li_0, li_1, li_2, li_3, li_4, li_5, li_6, li_7, li_8, li_9, li_10, li_11, li_12, li_13, li_14, li_15, li_16, li_17, li_18, li_19, li_20, li_21, li_22, li_23, li_24, li_25, li_26, li_27, li_28, li_29, li_30, li_32, li_33, li_34, li_35, li_36, li_37, li_38, li_39, li_40, li_41, li_42, li_43, li_44, li_45, li_46, li_47, li_48, li_49, li_50, li_51, li_52, li_53, li_54, li_55, li_56, li_57, li_58, li_59, li_60, li_61, li_62, li_63, li_64, li_65, li_66, li_67, li_68, li_69, li_70, li_71, li_72, li_73, li_74, li_75, li_76, li_77, li_78, li_79, li_80, li_81, li_82, li_83, li_84, li_85, li_86, li_87, li_88, li_89, li_90, li_91, li_92, li_93, li_94, li_95, li_96, li_97, li_98, li_99, li_100, li_101, li_102, li_103, li_104, li_105, li_106, li_107, li_108, li_109, li_110, li_111, li_112, li_113, li_114, li_115, li_116, li_117, li_118, li_119, li_120, li_121, li_122, li_123, li_124, li_125, li_126, li_127, li_128, li_129, li_130, li_134, li_160, li_197, li_229, li_255, li_256, li_265, li_300, li_301, li_330, li_353, li_463, li_720, li_729, li_768, li_999, li_2610, li_2807, li_2867, li_2916, li_4096, li_9999, li_10000, li_30643, li_65535, li_99999, li_1000000, gi_si, gi_sl, gi_sr, gi_ci, gi_cl, gl_si, gl_sl, gl_sr, gl_ci, gl_cl, gr_si, gr_sl, gr_sr, gr_ci, gr_cl, ln_si, ln_sl, ln_sr, ln_ci, ln_cl, ok_si, ok_sl, ok_sr, ok_ci, ok_cl, gp_k hG, gp_l hG, gp_r hG, gp_m hG, Option.some.injEq, exists_eq_left', exists_eq_left, forall_eq, forall_eq', true_and, and_true, if_true, if_false, true_imp_iff, false_imp_iff, not_true_eq_false, not_false_eq_true, false_and, and_false, reduceIte, reduceCtorEq, forall_const, Nat.reduceEqDiff, Nat.reduceAdd, Nat.reduceMul, Nat.reduceSub, Nat.reduceLT, Nat.reduceLeDiff, Nat.reduceMod, Nat.reduceDiv, and_self, ne_eq, exists_const, Nat.add_sub_cancel, nI_add, pk_mul, pk_sub, q_rem, q_div, q_eq, q_le, q_lt, q_cl, q_in, q_m1, q_1m, q_neg, sh1n, bitn, q_mod2, q_neq0, bq_t, bq_f, bq_t2, bq_f2, i01, i10, q_tt, q_ff, ups_e, ups_n, fil_i, fil_o, zq_if, zq_0, zq_1, if_pos, if_neg]
  refine p_forget hC (by omega) (fun ν hF hT hN => ?_)
  have hH := hT.1
  simp (disch := first | omega | (simp only [Gp_si, Gp_sl, Gp_ci, Gp_cl]; assumption)) only [li_0, li_1, li_2, li_3, li_4, li_5, li_6, li_7, li_8, li_9, li_10, li_11, li_12, li_13, li_14, li_15, li_16, li_17, li_18, li_19, li_20, li_21, li_22, li_23, li_24, li_25, li_26, li_27, li_28, li_29, li_30, li_32, li_33, li_34, li_35, li_36, li_37, li_38, li_39, li_40, li_41, li_42, li_43, li_44, li_45, li_46, li_47, li_48, li_49, li_50, li_51, li_52, li_53, li_54, li_55, li_56, li_57, li_58, li_59, li_60, li_61, li_62, li_63, li_64, li_65, li_66, li_67, li_68, li_69, li_70, li_71, li_72, li_73, li_74, li_75, li_76, li_77, li_78, li_79, li_80, li_81, li_82, li_83, li_84, li_85, li_86, li_87, li_88, li_89, li_90, li_91, li_92, li_93, li_94, li_95, li_96, li_97, li_98, li_99, li_100, li_101, li_102, li_103, li_104, li_105, li_106, li_107, li_108, li_109, li_110, li_111, li_112, li_113, li_114, li_115, li_116, li_117, li_118, li_119, li_120, li_121, li_122, li_123, li_124, li_125, li_126, li_127, li_128, li_129, li_130, li_134, li_160, li_197, li_229, li_255, li_256, li_265, li_300, li_301, li_330, li_353, li_463, li_720, li_729, li_768, li_999, li_2610, li_2807, li_2867, li_2916, li_4096, li_9999, li_10000, li_30643, li_65535, li_99999, li_1000000, gi_si, gi_sl, gi_sr, gi_ci, gi_cl, gl_si, gl_sl, gl_sr, gl_ci, gl_cl, gr_si, gr_sl, gr_sr, gr_ci, gr_cl, ln_si, ln_sl, ln_sr, ln_ci, ln_cl, ok_si, ok_sl, ok_sr, ok_ci, ok_cl, gp_k hH, gp_l hH, gp_r hH, gp_m hH, Option.some.injEq, exists_eq_left', exists_eq_left, forall_eq, forall_eq', true_and, and_true, if_true, if_false, true_imp_iff, false_imp_iff, not_true_eq_false, not_false_eq_true, false_and, and_false, reduceIte, reduceCtorEq, forall_const, Nat.reduceEqDiff, Nat.reduceAdd, Nat.reduceMul, Nat.reduceSub, Nat.reduceLT, Nat.reduceLeDiff, Nat.reduceMod, Nat.reduceDiv, and_self, ne_eq, exists_const, Nat.add_sub_cancel, nI_add, pk_mul, pk_sub, q_rem, q_div, q_eq, q_le, q_lt, q_cl, q_in, q_m1, q_1m, q_neg, sh1n, bitn, q_mod2, q_neq0, bq_t, bq_f, bq_t2, bq_f2, i01, i10, q_tt, q_ff, ups_e, ups_n, fil_i, fil_o, zq_if, zq_0, zq_1, if_pos, if_neg]
  refine p_tell hT (fun ρ hF2 hT2 => ?_)
  have hFa := fr_tr hF (fr_ta hF2)
  exact k _ ρ hT2.1 (fun hQ => m_person (mo_fr hM hFa) (fun σ hF3 hM3 => hQ σ (top_mk hR hFa (cl_tw hT2 (cn_fr hN hF2)) hF3 hM3 tell_1 (by omega))))
theorem z_hears (h : Top μ c) (hc : c ≤ 600) (k : ∀ r ν, Gp ν → (∀ {Q : Int32 → Me → Prop}, (∀ ρ, Top ρ (c + 1) → Q r ρ) → S_X11_hears 314 v u w ν Q) → P r ν) : S_X10_hears 0 v u w μ P := by
  obtain ⟨s, si, T, tn, L, b, hC, hM, hR, ht⟩ := h
  have hG := hC.1
  have hW := hC.2.1
  have wn := wf_n hW
  exact C_hears hC (by omega) (fun ν tn' htn hF hC2 => k _ ν hC2.1 (fun hQ => M_hears (mo_fr hM hF) (fun ρ hF2 hM2 => hQ ρ (top_mk hR hF hC2 hF2 hM2 hear_1 (by omega)))))
theorem z_by (h : Top μ c) (hc : c ≤ 600) (k : ∀ r ν, Gp ν → (∀ {Q : Int32 → Me → Prop}, (∀ ρ, Top ρ (c + 1) → Q r ρ) → S_X11_by 314 v ν Q) → P r ν) : S_X10_by 0 v μ P := by
  obtain ⟨s, si, T, tn, L, b, hC, hM, hR, ht⟩ := h
  have hG := hC.1
  have hW := hC.2.1
  have wn := wf_n hW
  exact C_by hC (by omega) (fun ν tn' htn hF hC2 => k _ ν hC2.1 (fun hQ => M_by (mo_fr hM hF) (fun ρ hF2 hM2 => hQ ρ (top_mk hR hF hC2 hF2 hM2 by_1 (by omega)))))
theorem z_heard (h : Top μ c) (hc : c ≤ 600) (k : ∀ r ν, Gp ν → (∀ {Q : Int32 → Me → Prop}, (∀ ρ, Top ρ (c + 1) → Q r ρ) → S_X11_heard 314 v u ν Q) → P r ν) : S_X10_heard 0 v u μ P := by
  obtain ⟨s, si, T, tn, L, b, hC, hM, hR, ht⟩ := h
  have hG := hC.1
  have hW := hC.2.1
  have wn := wf_n hW
  exact C_heard hC (fun ν hF hC2 => k _ ν hC2.1 (fun hQ => M_heard (mo_fr hM hF) (fun ρ hF2 hM2 => hQ ρ (top_mk hR hF hC2 hF2 hM2 hrd_1 (by omega)))))
theorem z_said (h : Top μ c) (hc : c ≤ 600) (k : ∀ r ν, Gp ν → (∀ {Q : Int32 → Me → Prop}, (∀ ρ, Top ρ (c + 1) → Q r ρ) → S_X11_said 314 v u ν Q) → P r ν) : S_X10_said 0 v u μ P := by
  obtain ⟨s, si, T, tn, L, b, hC, hM, hR, ht⟩ := h
  have hG := hC.1
  have hW := hC.2.1
  have wn := wf_n hW
  exact C_said hC (fun ν hF hC2 => k _ ν hC2.1 (fun hQ => M_said (mo_fr hM hF) (fun ρ hF2 hM2 => hQ ρ (top_mk hR hF hC2 hF2 hM2 sd_1 (by omega)))))
theorem z_ring (h : Top μ c) (hc : c ≤ 600) (k : ∀ r ν, Gp ν → (∀ {Q : Int32 → Me → Prop}, (∀ ρ, Top ρ (c + 1) → Q r ρ) → S_X11_ring 314 v ν Q) → P r ν) : S_X10_ring 0 v μ P := by
  obtain ⟨s, si, T, tn, L, b, hC, hM, hR, ht⟩ := h
  have hG := hC.1
  have hW := hC.2.1
  have wn := wf_n hW
  unfold S_X10_ring
  simp (disch := first | omega | (simp only [Gp_si, Gp_sl, Gp_ci, Gp_cl]; assumption)) only [li_0, li_1, li_2, li_3, li_4, li_5, li_6, li_7, li_8, li_9, li_10, li_11, li_12, li_13, li_14, li_15, li_16, li_17, li_18, li_19, li_20, li_21, li_22, li_23, li_24, li_25, li_26, li_27, li_28, li_29, li_30, li_32, li_33, li_34, li_35, li_36, li_37, li_38, li_39, li_40, li_41, li_42, li_43, li_44, li_45, li_46, li_47, li_48, li_49, li_50, li_51, li_52, li_53, li_54, li_55, li_56, li_57, li_58, li_59, li_60, li_61, li_62, li_63, li_64, li_65, li_66, li_67, li_68, li_69, li_70, li_71, li_72, li_73, li_74, li_75, li_76, li_77, li_78, li_79, li_80, li_81, li_82, li_83, li_84, li_85, li_86, li_87, li_88, li_89, li_90, li_91, li_92, li_93, li_94, li_95, li_96, li_97, li_98, li_99, li_100, li_101, li_102, li_103, li_104, li_105, li_106, li_107, li_108, li_109, li_110, li_111, li_112, li_113, li_114, li_115, li_116, li_117, li_118, li_119, li_120, li_121, li_122, li_123, li_124, li_125, li_126, li_127, li_128, li_129, li_130, li_134, li_160, li_197, li_229, li_255, li_256, li_265, li_300, li_301, li_330, li_353, li_463, li_720, li_729, li_768, li_999, li_2610, li_2807, li_2867, li_2916, li_4096, li_9999, li_10000, li_30643, li_65535, li_99999, li_1000000, gi_si, gi_sl, gi_sr, gi_ci, gi_cl, gl_si, gl_sl, gl_sr, gl_ci, gl_cl, gr_si, gr_sl, gr_sr, gr_ci, gr_cl, ln_si, ln_sl, ln_sr, ln_ci, ln_cl, ok_si, ok_sl, ok_sr, ok_ci, ok_cl, gp_k hG, gp_l hG, gp_r hG, gp_m hG, Option.some.injEq, exists_eq_left', exists_eq_left, forall_eq, forall_eq', true_and, and_true, if_true, if_false, true_imp_iff, false_imp_iff, not_true_eq_false, not_false_eq_true, false_and, and_false, reduceIte, reduceCtorEq, forall_const, Nat.reduceEqDiff, Nat.reduceAdd, Nat.reduceMul, Nat.reduceSub, Nat.reduceLT, Nat.reduceLeDiff, Nat.reduceMod, Nat.reduceDiv, and_self, ne_eq, exists_const, Nat.add_sub_cancel, nI_add, pk_mul, pk_sub, q_rem, q_div, q_eq, q_le, q_lt, q_cl, q_in, q_m1, q_1m, q_neg, sh1n, bitn, q_mod2, q_neq0, bq_t, bq_f, bq_t2, bq_f2, i01, i10, q_tt, q_ff, ups_e, ups_n, fil_i, fil_o, zq_if, zq_0, zq_1, if_pos, if_neg]
  refine p_ringFor (tw_cl hC) (fun ν hF hT => ?_)
  have hC2 : Cl ν (ringT s v) T tn := cl_late hC hT hF (fun j hj => by
    unfold ringT
    split
    · rw [ups_n (by omega)]; exact keep_o (by omega) (by omega)
    · rfl)
  refine ⟨by rw [ring_v]; exact bV_zb _, k _ ν hT.1 (fun hQ => m_ring (mo_fr hM (fr_ta hF)) (fun σ hF3 hM3 => hQ σ (top_mk hR (fr_ta hF) hC2 hF3 hM3 (ring_1 hW) (by omega))))⟩
theorem z_due (h : Top μ c) (hc : c ≤ 600) (k : ∀ r ν, Gp ν → (∀ {Q : Int32 → Me → Prop}, (∀ ρ, Top ρ (c + 1) → Q r ρ) → S_X11_due 314 v u ν Q) → P r ν) : S_X10_due 0 v u μ P := by
  obtain ⟨s, si, T, tn, L, b, hC, hM, hR, ht⟩ := h
  have hG := hC.1
  have hW := hC.2.1
  have wn := wf_n hW
  unfold S_X10_due
  simp (disch := first | omega | (simp only [Gp_si, Gp_sl, Gp_ci, Gp_cl]; assumption)) only [li_0, li_1, li_2, li_3, li_4, li_5, li_6, li_7, li_8, li_9, li_10, li_11, li_12, li_13, li_14, li_15, li_16, li_17, li_18, li_19, li_20, li_21, li_22, li_23, li_24, li_25, li_26, li_27, li_28, li_29, li_30, li_32, li_33, li_34, li_35, li_36, li_37, li_38, li_39, li_40, li_41, li_42, li_43, li_44, li_45, li_46, li_47, li_48, li_49, li_50, li_51, li_52, li_53, li_54, li_55, li_56, li_57, li_58, li_59, li_60, li_61, li_62, li_63, li_64, li_65, li_66, li_67, li_68, li_69, li_70, li_71, li_72, li_73, li_74, li_75, li_76, li_77, li_78, li_79, li_80, li_81, li_82, li_83, li_84, li_85, li_86, li_87, li_88, li_89, li_90, li_91, li_92, li_93, li_94, li_95, li_96, li_97, li_98, li_99, li_100, li_101, li_102, li_103, li_104, li_105, li_106, li_107, li_108, li_109, li_110, li_111, li_112, li_113, li_114, li_115, li_116, li_117, li_118, li_119, li_120, li_121, li_122, li_123, li_124, li_125, li_126, li_127, li_128, li_129, li_130, li_134, li_160, li_197, li_229, li_255, li_256, li_265, li_300, li_301, li_330, li_353, li_463, li_720, li_729, li_768, li_999, li_2610, li_2807, li_2867, li_2916, li_4096, li_9999, li_10000, li_30643, li_65535, li_99999, li_1000000, gi_si, gi_sl, gi_sr, gi_ci, gi_cl, gl_si, gl_sl, gl_sr, gl_ci, gl_cl, gr_si, gr_sl, gr_sr, gr_ci, gr_cl, ln_si, ln_sl, ln_sr, ln_ci, ln_cl, ok_si, ok_sl, ok_sr, ok_ci, ok_cl, gp_k hG, gp_l hG, gp_r hG, gp_m hG, Option.some.injEq, exists_eq_left', exists_eq_left, forall_eq, forall_eq', true_and, and_true, if_true, if_false, true_imp_iff, false_imp_iff, not_true_eq_false, not_false_eq_true, false_and, and_false, reduceIte, reduceCtorEq, forall_const, Nat.reduceEqDiff, Nat.reduceAdd, Nat.reduceMul, Nat.reduceSub, Nat.reduceLT, Nat.reduceLeDiff, Nat.reduceMod, Nat.reduceDiv, and_self, ne_eq, exists_const, Nat.add_sub_cancel, nI_add, pk_mul, pk_sub, q_rem, q_div, q_eq, q_le, q_lt, q_cl, q_in, q_m1, q_1m, q_neg, sh1n, bitn, q_mod2, q_neq0, bq_t, bq_f, bq_t2, bq_f2, i01, i10, q_tt, q_ff, ups_e, ups_n, fil_i, fil_o, zq_if, zq_0, zq_1, if_pos, if_neg]
  refine p_forget hC (by omega) (fun ν hF hT hN => ?_)
  have hH := hT.1
  simp (disch := first | omega | (simp only [Gp_si, Gp_sl, Gp_ci, Gp_cl]; assumption)) only [li_0, li_1, li_2, li_3, li_4, li_5, li_6, li_7, li_8, li_9, li_10, li_11, li_12, li_13, li_14, li_15, li_16, li_17, li_18, li_19, li_20, li_21, li_22, li_23, li_24, li_25, li_26, li_27, li_28, li_29, li_30, li_32, li_33, li_34, li_35, li_36, li_37, li_38, li_39, li_40, li_41, li_42, li_43, li_44, li_45, li_46, li_47, li_48, li_49, li_50, li_51, li_52, li_53, li_54, li_55, li_56, li_57, li_58, li_59, li_60, li_61, li_62, li_63, li_64, li_65, li_66, li_67, li_68, li_69, li_70, li_71, li_72, li_73, li_74, li_75, li_76, li_77, li_78, li_79, li_80, li_81, li_82, li_83, li_84, li_85, li_86, li_87, li_88, li_89, li_90, li_91, li_92, li_93, li_94, li_95, li_96, li_97, li_98, li_99, li_100, li_101, li_102, li_103, li_104, li_105, li_106, li_107, li_108, li_109, li_110, li_111, li_112, li_113, li_114, li_115, li_116, li_117, li_118, li_119, li_120, li_121, li_122, li_123, li_124, li_125, li_126, li_127, li_128, li_129, li_130, li_134, li_160, li_197, li_229, li_255, li_256, li_265, li_300, li_301, li_330, li_353, li_463, li_720, li_729, li_768, li_999, li_2610, li_2807, li_2867, li_2916, li_4096, li_9999, li_10000, li_30643, li_65535, li_99999, li_1000000, gi_si, gi_sl, gi_sr, gi_ci, gi_cl, gl_si, gl_sl, gl_sr, gl_ci, gl_cl, gr_si, gr_sl, gr_sr, gr_ci, gr_cl, ln_si, ln_sl, ln_sr, ln_ci, ln_cl, ok_si, ok_sl, ok_sr, ok_ci, ok_cl, gp_k hH, gp_l hH, gp_r hH, gp_m hH, Option.some.injEq, exists_eq_left', exists_eq_left, forall_eq, forall_eq', true_and, and_true, if_true, if_false, true_imp_iff, false_imp_iff, not_true_eq_false, not_false_eq_true, false_and, and_false, reduceIte, reduceCtorEq, forall_const, Nat.reduceEqDiff, Nat.reduceAdd, Nat.reduceMul, Nat.reduceSub, Nat.reduceLT, Nat.reduceLeDiff, Nat.reduceMod, Nat.reduceDiv, and_self, ne_eq, exists_const, Nat.add_sub_cancel, nI_add, pk_mul, pk_sub, q_rem, q_div, q_eq, q_le, q_lt, q_cl, q_in, q_m1, q_1m, q_neg, sh1n, bitn, q_mod2, q_neq0, bq_t, bq_f, bq_t2, bq_f2, i01, i10, q_tt, q_ff, ups_e, ups_n, fil_i, fil_o, zq_if, zq_0, zq_1, if_pos, if_neg]
  refine p_putOff hT (fun ρ hF2 hT2 => ?_)
  have hFa := fr_tr hF (fr_ta hF2)
  exact ⟨bV_zb _, k _ ρ hT2.1 (fun hQ => m_due (mo_fr hM hFa) (fun σ hF3 hM3 => hQ σ (top_mk hR hFa (cl_tw hT2 (cn_fr hN hF2)) hF3 hM3 (due_1 hW) (by omega))))⟩
theorem z_bed (h : Top μ c) (hc : c ≤ 600) (k : ∀ r ν, Gp ν → (∀ {Q : Int32 → Me → Prop}, (∀ ρ, Top ρ (c + 1) → Q r ρ) → S_X11_bed 314 v ν Q) → P r ν) : S_X10_bed 0 v μ P := by
  obtain ⟨s, si, T, tn, L, b, hC, hM, hR, ht⟩ := h
  have hG := hC.1
  have hW := hC.2.1
  have wn := wf_n hW
  unfold S_X10_bed
  simp (disch := first | omega | (simp only [Gp_si, Gp_sl, Gp_ci, Gp_cl]; assumption)) only [li_0, li_1, li_2, li_3, li_4, li_5, li_6, li_7, li_8, li_9, li_10, li_11, li_12, li_13, li_14, li_15, li_16, li_17, li_18, li_19, li_20, li_21, li_22, li_23, li_24, li_25, li_26, li_27, li_28, li_29, li_30, li_32, li_33, li_34, li_35, li_36, li_37, li_38, li_39, li_40, li_41, li_42, li_43, li_44, li_45, li_46, li_47, li_48, li_49, li_50, li_51, li_52, li_53, li_54, li_55, li_56, li_57, li_58, li_59, li_60, li_61, li_62, li_63, li_64, li_65, li_66, li_67, li_68, li_69, li_70, li_71, li_72, li_73, li_74, li_75, li_76, li_77, li_78, li_79, li_80, li_81, li_82, li_83, li_84, li_85, li_86, li_87, li_88, li_89, li_90, li_91, li_92, li_93, li_94, li_95, li_96, li_97, li_98, li_99, li_100, li_101, li_102, li_103, li_104, li_105, li_106, li_107, li_108, li_109, li_110, li_111, li_112, li_113, li_114, li_115, li_116, li_117, li_118, li_119, li_120, li_121, li_122, li_123, li_124, li_125, li_126, li_127, li_128, li_129, li_130, li_134, li_160, li_197, li_229, li_255, li_256, li_265, li_300, li_301, li_330, li_353, li_463, li_720, li_729, li_768, li_999, li_2610, li_2807, li_2867, li_2916, li_4096, li_9999, li_10000, li_30643, li_65535, li_99999, li_1000000, gi_si, gi_sl, gi_sr, gi_ci, gi_cl, gl_si, gl_sl, gl_sr, gl_ci, gl_cl, gr_si, gr_sl, gr_sr, gr_ci, gr_cl, ln_si, ln_sl, ln_sr, ln_ci, ln_cl, ok_si, ok_sl, ok_sr, ok_ci, ok_cl, gp_k hG, gp_l hG, gp_r hG, gp_m hG, Option.some.injEq, exists_eq_left', exists_eq_left, forall_eq, forall_eq', true_and, and_true, if_true, if_false, true_imp_iff, false_imp_iff, not_true_eq_false, not_false_eq_true, false_and, and_false, reduceIte, reduceCtorEq, forall_const, Nat.reduceEqDiff, Nat.reduceAdd, Nat.reduceMul, Nat.reduceSub, Nat.reduceLT, Nat.reduceLeDiff, Nat.reduceMod, Nat.reduceDiv, and_self, ne_eq, exists_const, Nat.add_sub_cancel, nI_add, pk_mul, pk_sub, q_rem, q_div, q_eq, q_le, q_lt, q_cl, q_in, q_m1, q_1m, q_neg, sh1n, bitn, q_mod2, q_neq0, bq_t, bq_f, bq_t2, bq_f2, i01, i10, q_tt, q_ff, ups_e, ups_n, fil_i, fil_o, zq_if, zq_0, zq_1, if_pos, if_neg]
  refine p_forget hC (by omega) (fun ν hF hT hN => ?_)
  have hH := hT.1
  simp (disch := first | omega | (simp only [Gp_si, Gp_sl, Gp_ci, Gp_cl]; assumption)) only [li_0, li_1, li_2, li_3, li_4, li_5, li_6, li_7, li_8, li_9, li_10, li_11, li_12, li_13, li_14, li_15, li_16, li_17, li_18, li_19, li_20, li_21, li_22, li_23, li_24, li_25, li_26, li_27, li_28, li_29, li_30, li_32, li_33, li_34, li_35, li_36, li_37, li_38, li_39, li_40, li_41, li_42, li_43, li_44, li_45, li_46, li_47, li_48, li_49, li_50, li_51, li_52, li_53, li_54, li_55, li_56, li_57, li_58, li_59, li_60, li_61, li_62, li_63, li_64, li_65, li_66, li_67, li_68, li_69, li_70, li_71, li_72, li_73, li_74, li_75, li_76, li_77, li_78, li_79, li_80, li_81, li_82, li_83, li_84, li_85, li_86, li_87, li_88, li_89, li_90, li_91, li_92, li_93, li_94, li_95, li_96, li_97, li_98, li_99, li_100, li_101, li_102, li_103, li_104, li_105, li_106, li_107, li_108, li_109, li_110, li_111, li_112, li_113, li_114, li_115, li_116, li_117, li_118, li_119, li_120, li_121, li_122, li_123, li_124, li_125, li_126, li_127, li_128, li_129, li_130, li_134, li_160, li_197, li_229, li_255, li_256, li_265, li_300, li_301, li_330, li_353, li_463, li_720, li_729, li_768, li_999, li_2610, li_2807, li_2867, li_2916, li_4096, li_9999, li_10000, li_30643, li_65535, li_99999, li_1000000, gi_si, gi_sl, gi_sr, gi_ci, gi_cl, gl_si, gl_sl, gl_sr, gl_ci, gl_cl, gr_si, gr_sl, gr_sr, gr_ci, gr_cl, ln_si, ln_sl, ln_sr, ln_ci, ln_cl, ok_si, ok_sl, ok_sr, ok_ci, ok_cl, gp_k hH, gp_l hH, gp_r hH, gp_m hH, Option.some.injEq, exists_eq_left', exists_eq_left, forall_eq, forall_eq', true_and, and_true, if_true, if_false, true_imp_iff, false_imp_iff, not_true_eq_false, not_false_eq_true, false_and, and_false, reduceIte, reduceCtorEq, forall_const, Nat.reduceEqDiff, Nat.reduceAdd, Nat.reduceMul, Nat.reduceSub, Nat.reduceLT, Nat.reduceLeDiff, Nat.reduceMod, Nat.reduceDiv, and_self, ne_eq, exists_const, Nat.add_sub_cancel, nI_add, pk_mul, pk_sub, q_rem, q_div, q_eq, q_le, q_lt, q_cl, q_in, q_m1, q_1m, q_neg, sh1n, bitn, q_mod2, q_neq0, bq_t, bq_f, bq_t2, bq_f2, i01, i10, q_tt, q_ff, ups_e, ups_n, fil_i, fil_o, zq_if, zq_0, zq_1, if_pos, if_neg]
  refine p_bedT hT (fun ρ hF2 hT2 => ?_)
  have hFa := fr_tr hF (fr_ta hF2)
  exact ⟨bV_zb _, k _ ρ hT2.1 (fun hQ => m_bed (mo_fr hM hFa) (fun σ hF3 hM3 => hQ σ (top_mk hR hFa (cl_tw hT2 (cn_fr hN hF2)) hF3 hM3 (lain_1 hW) (by omega))))⟩
theorem z_up (h : Top μ c) (hc : c ≤ 600) (k : ∀ r ν, Gp ν → (∀ {Q : Int32 → Me → Prop}, (∀ ρ, Top ρ (c + 1) → Q r ρ) → S_X11_up 314 v ν Q) → P r ν) : S_X10_up 0 v μ P := by
  obtain ⟨s, si, T, tn, L, b, hC, hM, hR, ht⟩ := h
  have hG := hC.1
  have hW := hC.2.1
  have wn := wf_n hW
  unfold S_X10_up
  simp (disch := first | omega | (simp only [Gp_si, Gp_sl, Gp_ci, Gp_cl]; assumption)) only [li_0, li_1, li_2, li_3, li_4, li_5, li_6, li_7, li_8, li_9, li_10, li_11, li_12, li_13, li_14, li_15, li_16, li_17, li_18, li_19, li_20, li_21, li_22, li_23, li_24, li_25, li_26, li_27, li_28, li_29, li_30, li_32, li_33, li_34, li_35, li_36, li_37, li_38, li_39, li_40, li_41, li_42, li_43, li_44, li_45, li_46, li_47, li_48, li_49, li_50, li_51, li_52, li_53, li_54, li_55, li_56, li_57, li_58, li_59, li_60, li_61, li_62, li_63, li_64, li_65, li_66, li_67, li_68, li_69, li_70, li_71, li_72, li_73, li_74, li_75, li_76, li_77, li_78, li_79, li_80, li_81, li_82, li_83, li_84, li_85, li_86, li_87, li_88, li_89, li_90, li_91, li_92, li_93, li_94, li_95, li_96, li_97, li_98, li_99, li_100, li_101, li_102, li_103, li_104, li_105, li_106, li_107, li_108, li_109, li_110, li_111, li_112, li_113, li_114, li_115, li_116, li_117, li_118, li_119, li_120, li_121, li_122, li_123, li_124, li_125, li_126, li_127, li_128, li_129, li_130, li_134, li_160, li_197, li_229, li_255, li_256, li_265, li_300, li_301, li_330, li_353, li_463, li_720, li_729, li_768, li_999, li_2610, li_2807, li_2867, li_2916, li_4096, li_9999, li_10000, li_30643, li_65535, li_99999, li_1000000, gi_si, gi_sl, gi_sr, gi_ci, gi_cl, gl_si, gl_sl, gl_sr, gl_ci, gl_cl, gr_si, gr_sl, gr_sr, gr_ci, gr_cl, ln_si, ln_sl, ln_sr, ln_ci, ln_cl, ok_si, ok_sl, ok_sr, ok_ci, ok_cl, gp_k hG, gp_l hG, gp_r hG, gp_m hG, Option.some.injEq, exists_eq_left', exists_eq_left, forall_eq, forall_eq', true_and, and_true, if_true, if_false, true_imp_iff, false_imp_iff, not_true_eq_false, not_false_eq_true, false_and, and_false, reduceIte, reduceCtorEq, forall_const, Nat.reduceEqDiff, Nat.reduceAdd, Nat.reduceMul, Nat.reduceSub, Nat.reduceLT, Nat.reduceLeDiff, Nat.reduceMod, Nat.reduceDiv, and_self, ne_eq, exists_const, Nat.add_sub_cancel, nI_add, pk_mul, pk_sub, q_rem, q_div, q_eq, q_le, q_lt, q_cl, q_in, q_m1, q_1m, q_neg, sh1n, bitn, q_mod2, q_neq0, bq_t, bq_f, bq_t2, bq_f2, i01, i10, q_tt, q_ff, ups_e, ups_n, fil_i, fil_o, zq_if, zq_0, zq_1, if_pos, if_neg]
  refine p_forget hC (by omega) (fun ν hF hT hN => ?_)
  have hH := hT.1
  simp (disch := first | omega | (simp only [Gp_si, Gp_sl, Gp_ci, Gp_cl]; assumption)) only [li_0, li_1, li_2, li_3, li_4, li_5, li_6, li_7, li_8, li_9, li_10, li_11, li_12, li_13, li_14, li_15, li_16, li_17, li_18, li_19, li_20, li_21, li_22, li_23, li_24, li_25, li_26, li_27, li_28, li_29, li_30, li_32, li_33, li_34, li_35, li_36, li_37, li_38, li_39, li_40, li_41, li_42, li_43, li_44, li_45, li_46, li_47, li_48, li_49, li_50, li_51, li_52, li_53, li_54, li_55, li_56, li_57, li_58, li_59, li_60, li_61, li_62, li_63, li_64, li_65, li_66, li_67, li_68, li_69, li_70, li_71, li_72, li_73, li_74, li_75, li_76, li_77, li_78, li_79, li_80, li_81, li_82, li_83, li_84, li_85, li_86, li_87, li_88, li_89, li_90, li_91, li_92, li_93, li_94, li_95, li_96, li_97, li_98, li_99, li_100, li_101, li_102, li_103, li_104, li_105, li_106, li_107, li_108, li_109, li_110, li_111, li_112, li_113, li_114, li_115, li_116, li_117, li_118, li_119, li_120, li_121, li_122, li_123, li_124, li_125, li_126, li_127, li_128, li_129, li_130, li_134, li_160, li_197, li_229, li_255, li_256, li_265, li_300, li_301, li_330, li_353, li_463, li_720, li_729, li_768, li_999, li_2610, li_2807, li_2867, li_2916, li_4096, li_9999, li_10000, li_30643, li_65535, li_99999, li_1000000, gi_si, gi_sl, gi_sr, gi_ci, gi_cl, gl_si, gl_sl, gl_sr, gl_ci, gl_cl, gr_si, gr_sl, gr_sr, gr_ci, gr_cl, ln_si, ln_sl, ln_sr, ln_ci, ln_cl, ok_si, ok_sl, ok_sr, ok_ci, ok_cl, gp_k hH, gp_l hH, gp_r hH, gp_m hH, Option.some.injEq, exists_eq_left', exists_eq_left, forall_eq, forall_eq', true_and, and_true, if_true, if_false, true_imp_iff, false_imp_iff, not_true_eq_false, not_false_eq_true, false_and, and_false, reduceIte, reduceCtorEq, forall_const, Nat.reduceEqDiff, Nat.reduceAdd, Nat.reduceMul, Nat.reduceSub, Nat.reduceLT, Nat.reduceLeDiff, Nat.reduceMod, Nat.reduceDiv, and_self, ne_eq, exists_const, Nat.add_sub_cancel, nI_add, pk_mul, pk_sub, q_rem, q_div, q_eq, q_le, q_lt, q_cl, q_in, q_m1, q_1m, q_neg, sh1n, bitn, q_mod2, q_neq0, bq_t, bq_f, bq_t2, bq_f2, i01, i10, q_tt, q_ff, ups_e, ups_n, fil_i, fil_o, zq_if, zq_0, zq_1, if_pos, if_neg]
  refine p_upT hT (fun ρ hF2 hT2 => ?_)
  have hFa := fr_tr hF (fr_ta hF2)
  exact ⟨bV_zb _, k _ ρ hT2.1 (fun hQ => m_up (mo_fr hM hFa) (fun σ hF3 hM3 => hQ σ (top_mk hR hFa (cl_tw hT2 (cn_fr hN hF2)) hF3 hM3 (lain_1 hW) (by omega))))⟩
theorem z_day (h : Top μ c) (hc : c ≤ 600) (k : ∀ r ν, Gp ν → (∀ {Q : Int32 → Me → Prop}, (∀ ρ, Top ρ (c + 1) → Q r ρ) → S_X11_day 314 v ν Q) → P r ν) : S_X10_day 0 v μ P := by
  obtain ⟨s, si, T, tn, L, b, hC, hM, hR, ht⟩ := h
  have hG := hC.1
  have hW := hC.2.1
  have wn := wf_n hW
  have h3 : mgi μ 11 3 = nI (s 6) := hC.2.2.1.2.1.2.2.2.1
  have h6 := hM.2.1.1 6 (by decide) (by decide)
  unfold S_X10_day S_X1_daysThatCanPass
  have no : (¬ ∃ n, 1 ≤ n ∧ n ≤ 60 ∧ v = nI n ∧ s 6 + n ≤ 9999) → P (-nI 1) μ := by
    intro hno
    refine k _ μ hG (fun {Q} hQ => ?_)
    have q0 := hQ μ ⟨s, si, T, tn, L, b, hC, hM, hR, by omega⟩
    unfold S_X11_day
    by_cases d : nI 1 ≤ v ∧ v ≤ nI 60
    · obtain ⟨n, n1, n2, rfl⟩ := m1_lt (by omega) d
      have n3 : ¬ s 6 + n ≤ 9999 := fun x => hno ⟨n, n1, n2, rfl, x⟩
      simp (disch := first | omega | (simp only [Gp_si, Gp_sl, Gp_ci, Gp_cl]; assumption)) only [li_0, li_1, li_2, li_3, li_4, li_5, li_6, li_7, li_8, li_9, li_10, li_11, li_12, li_13, li_14, li_15, li_16, li_17, li_18, li_19, li_20, li_21, li_22, li_23, li_24, li_25, li_26, li_27, li_28, li_29, li_30, li_32, li_33, li_34, li_35, li_36, li_37, li_38, li_39, li_40, li_41, li_42, li_43, li_44, li_45, li_46, li_47, li_48, li_49, li_50, li_51, li_52, li_53, li_54, li_55, li_56, li_57, li_58, li_59, li_60, li_61, li_62, li_63, li_64, li_65, li_66, li_67, li_68, li_69, li_70, li_71, li_72, li_73, li_74, li_75, li_76, li_77, li_78, li_79, li_80, li_81, li_82, li_83, li_84, li_85, li_86, li_87, li_88, li_89, li_90, li_91, li_92, li_93, li_94, li_95, li_96, li_97, li_98, li_99, li_100, li_101, li_102, li_103, li_104, li_105, li_106, li_107, li_108, li_109, li_110, li_111, li_112, li_113, li_114, li_115, li_116, li_117, li_118, li_119, li_120, li_121, li_122, li_123, li_124, li_125, li_126, li_127, li_128, li_129, li_130, li_134, li_160, li_197, li_229, li_255, li_256, li_265, li_300, li_301, li_330, li_353, li_463, li_720, li_729, li_768, li_999, li_2610, li_2807, li_2867, li_2916, li_4096, li_9999, li_10000, li_30643, li_65535, li_99999, li_1000000, gi_si, gi_sl, gi_sr, gi_ci, gi_cl, gl_si, gl_sl, gl_sr, gl_ci, gl_cl, gr_si, gr_sl, gr_sr, gr_ci, gr_cl, ln_si, ln_sl, ln_sr, ln_ci, ln_cl, ok_si, ok_sl, ok_sr, ok_ci, ok_cl, gp_k hG, gp_l hG, gp_r hG, gp_m hG, Option.some.injEq, exists_eq_left', exists_eq_left, forall_eq, forall_eq', true_and, and_true, if_true, if_false, true_imp_iff, false_imp_iff, not_true_eq_false, not_false_eq_true, false_and, and_false, reduceIte, reduceCtorEq, forall_const, Nat.reduceEqDiff, Nat.reduceAdd, Nat.reduceMul, Nat.reduceSub, Nat.reduceLT, Nat.reduceLeDiff, Nat.reduceMod, Nat.reduceDiv, and_self, ne_eq, exists_const, Nat.add_sub_cancel, nI_add, pk_mul, pk_sub, q_rem, q_div, q_eq, q_le, q_lt, q_cl, q_in, q_m1, q_1m, q_neg, sh1n, bitn, q_mod2, q_neq0, bq_t, bq_f, bq_t2, bq_f2, i01, i10, q_tt, q_ff, ups_e, ups_n, fil_i, fil_o, zq_if, zq_0, zq_1, if_pos, if_neg, e_isIn, h6]
      exact q0
    · simp (disch := first | omega | (simp only [Gp_si, Gp_sl, Gp_ci, Gp_cl]; assumption)) only [li_0, li_1, li_2, li_3, li_4, li_5, li_6, li_7, li_8, li_9, li_10, li_11, li_12, li_13, li_14, li_15, li_16, li_17, li_18, li_19, li_20, li_21, li_22, li_23, li_24, li_25, li_26, li_27, li_28, li_29, li_30, li_32, li_33, li_34, li_35, li_36, li_37, li_38, li_39, li_40, li_41, li_42, li_43, li_44, li_45, li_46, li_47, li_48, li_49, li_50, li_51, li_52, li_53, li_54, li_55, li_56, li_57, li_58, li_59, li_60, li_61, li_62, li_63, li_64, li_65, li_66, li_67, li_68, li_69, li_70, li_71, li_72, li_73, li_74, li_75, li_76, li_77, li_78, li_79, li_80, li_81, li_82, li_83, li_84, li_85, li_86, li_87, li_88, li_89, li_90, li_91, li_92, li_93, li_94, li_95, li_96, li_97, li_98, li_99, li_100, li_101, li_102, li_103, li_104, li_105, li_106, li_107, li_108, li_109, li_110, li_111, li_112, li_113, li_114, li_115, li_116, li_117, li_118, li_119, li_120, li_121, li_122, li_123, li_124, li_125, li_126, li_127, li_128, li_129, li_130, li_134, li_160, li_197, li_229, li_255, li_256, li_265, li_300, li_301, li_330, li_353, li_463, li_720, li_729, li_768, li_999, li_2610, li_2807, li_2867, li_2916, li_4096, li_9999, li_10000, li_30643, li_65535, li_99999, li_1000000, gi_si, gi_sl, gi_sr, gi_ci, gi_cl, gl_si, gl_sl, gl_sr, gl_ci, gl_cl, gr_si, gr_sl, gr_sr, gr_ci, gr_cl, ln_si, ln_sl, ln_sr, ln_ci, ln_cl, ok_si, ok_sl, ok_sr, ok_ci, ok_cl, gp_k hG, gp_l hG, gp_r hG, gp_m hG, Option.some.injEq, exists_eq_left', exists_eq_left, forall_eq, forall_eq', true_and, and_true, if_true, if_false, true_imp_iff, false_imp_iff, not_true_eq_false, not_false_eq_true, false_and, and_false, reduceIte, reduceCtorEq, forall_const, Nat.reduceEqDiff, Nat.reduceAdd, Nat.reduceMul, Nat.reduceSub, Nat.reduceLT, Nat.reduceLeDiff, Nat.reduceMod, Nat.reduceDiv, and_self, ne_eq, exists_const, Nat.add_sub_cancel, nI_add, pk_mul, pk_sub, q_rem, q_div, q_eq, q_le, q_lt, q_cl, q_in, q_m1, q_1m, q_neg, sh1n, bitn, q_mod2, q_neq0, bq_t, bq_f, bq_t2, bq_f2, i01, i10, q_tt, q_ff, ups_e, ups_n, fil_i, fil_o, zq_if, zq_0, zq_1, if_pos, if_neg, e_isIn, d]
      exact q0
  by_cases d : nI 1 ≤ v ∧ v ≤ nI 60
  · obtain ⟨n, n1, n2, rfl⟩ := m1_lt (by omega) d
    by_cases n3 : s 6 + n ≤ 9999
    · simp (disch := first | omega | (simp only [Gp_si, Gp_sl, Gp_ci, Gp_cl]; assumption)) only [li_0, li_1, li_2, li_3, li_4, li_5, li_6, li_7, li_8, li_9, li_10, li_11, li_12, li_13, li_14, li_15, li_16, li_17, li_18, li_19, li_20, li_21, li_22, li_23, li_24, li_25, li_26, li_27, li_28, li_29, li_30, li_32, li_33, li_34, li_35, li_36, li_37, li_38, li_39, li_40, li_41, li_42, li_43, li_44, li_45, li_46, li_47, li_48, li_49, li_50, li_51, li_52, li_53, li_54, li_55, li_56, li_57, li_58, li_59, li_60, li_61, li_62, li_63, li_64, li_65, li_66, li_67, li_68, li_69, li_70, li_71, li_72, li_73, li_74, li_75, li_76, li_77, li_78, li_79, li_80, li_81, li_82, li_83, li_84, li_85, li_86, li_87, li_88, li_89, li_90, li_91, li_92, li_93, li_94, li_95, li_96, li_97, li_98, li_99, li_100, li_101, li_102, li_103, li_104, li_105, li_106, li_107, li_108, li_109, li_110, li_111, li_112, li_113, li_114, li_115, li_116, li_117, li_118, li_119, li_120, li_121, li_122, li_123, li_124, li_125, li_126, li_127, li_128, li_129, li_130, li_134, li_160, li_197, li_229, li_255, li_256, li_265, li_300, li_301, li_330, li_353, li_463, li_720, li_729, li_768, li_999, li_2610, li_2807, li_2867, li_2916, li_4096, li_9999, li_10000, li_30643, li_65535, li_99999, li_1000000, gi_si, gi_sl, gi_sr, gi_ci, gi_cl, gl_si, gl_sl, gl_sr, gl_ci, gl_cl, gr_si, gr_sl, gr_sr, gr_ci, gr_cl, ln_si, ln_sl, ln_sr, ln_ci, ln_cl, ok_si, ok_sl, ok_sr, ok_ci, ok_cl, gp_k hG, gp_l hG, gp_r hG, gp_m hG, Option.some.injEq, exists_eq_left', exists_eq_left, forall_eq, forall_eq', true_and, and_true, if_true, if_false, true_imp_iff, false_imp_iff, not_true_eq_false, not_false_eq_true, false_and, and_false, reduceIte, reduceCtorEq, forall_const, Nat.reduceEqDiff, Nat.reduceAdd, Nat.reduceMul, Nat.reduceSub, Nat.reduceLT, Nat.reduceLeDiff, Nat.reduceMod, Nat.reduceDiv, and_self, ne_eq, exists_const, Nat.add_sub_cancel, nI_add, pk_mul, pk_sub, q_rem, q_div, q_eq, q_le, q_lt, q_cl, q_in, q_m1, q_1m, q_neg, sh1n, bitn, q_mod2, q_neq0, bq_t, bq_f, bq_t2, bq_f2, i01, i10, q_tt, q_ff, ups_e, ups_n, fil_i, fil_o, zq_if, zq_0, zq_1, if_pos, if_neg, h3]
      refine p_forget hC (by omega) (fun ν hF hT hN => ?_)
      have hH := hT.1
      simp (disch := first | omega | (simp only [Gp_si, Gp_sl, Gp_ci, Gp_cl]; assumption)) only [li_0, li_1, li_2, li_3, li_4, li_5, li_6, li_7, li_8, li_9, li_10, li_11, li_12, li_13, li_14, li_15, li_16, li_17, li_18, li_19, li_20, li_21, li_22, li_23, li_24, li_25, li_26, li_27, li_28, li_29, li_30, li_32, li_33, li_34, li_35, li_36, li_37, li_38, li_39, li_40, li_41, li_42, li_43, li_44, li_45, li_46, li_47, li_48, li_49, li_50, li_51, li_52, li_53, li_54, li_55, li_56, li_57, li_58, li_59, li_60, li_61, li_62, li_63, li_64, li_65, li_66, li_67, li_68, li_69, li_70, li_71, li_72, li_73, li_74, li_75, li_76, li_77, li_78, li_79, li_80, li_81, li_82, li_83, li_84, li_85, li_86, li_87, li_88, li_89, li_90, li_91, li_92, li_93, li_94, li_95, li_96, li_97, li_98, li_99, li_100, li_101, li_102, li_103, li_104, li_105, li_106, li_107, li_108, li_109, li_110, li_111, li_112, li_113, li_114, li_115, li_116, li_117, li_118, li_119, li_120, li_121, li_122, li_123, li_124, li_125, li_126, li_127, li_128, li_129, li_130, li_134, li_160, li_197, li_229, li_255, li_256, li_265, li_300, li_301, li_330, li_353, li_463, li_720, li_729, li_768, li_999, li_2610, li_2807, li_2867, li_2916, li_4096, li_9999, li_10000, li_30643, li_65535, li_99999, li_1000000, gi_si, gi_sl, gi_sr, gi_ci, gi_cl, gl_si, gl_sl, gl_sr, gl_ci, gl_cl, gr_si, gr_sl, gr_sr, gr_ci, gr_cl, ln_si, ln_sl, ln_sr, ln_ci, ln_cl, ok_si, ok_sl, ok_sr, ok_ci, ok_cl, gp_k hH, gp_l hH, gp_r hH, gp_m hH, Option.some.injEq, exists_eq_left', exists_eq_left, forall_eq, forall_eq', true_and, and_true, if_true, if_false, true_imp_iff, false_imp_iff, not_true_eq_false, not_false_eq_true, false_and, and_false, reduceIte, reduceCtorEq, forall_const, Nat.reduceEqDiff, Nat.reduceAdd, Nat.reduceMul, Nat.reduceSub, Nat.reduceLT, Nat.reduceLeDiff, Nat.reduceMod, Nat.reduceDiv, and_self, ne_eq, exists_const, Nat.add_sub_cancel, nI_add, pk_mul, pk_sub, q_rem, q_div, q_eq, q_le, q_lt, q_cl, q_in, q_m1, q_1m, q_neg, sh1n, bitn, q_mod2, q_neq0, bq_t, bq_f, bq_t2, bq_f2, i01, i10, q_tt, q_ff, ups_e, ups_n, fil_i, fil_o, zq_if, zq_0, zq_1, if_pos, if_neg]
      refine p_passDays hT n3 (fun ρ hF2 hT2 => ?_)
      have hFa := fr_tr hF (fr_ta hF2)
      refine k _ ρ hT2.1 (fun {Q} hQ => ?_)
      have hM2 := mo_fr hM hFa
      have hI := hM2.1
      have i6 := hM2.2.1.1 6 (by decide) (by decide)
      unfold S_X11_day
      simp (disch := first | omega | (simp only [Gp_si, Gp_sl, Gp_ci, Gp_cl]; assumption)) only [li_0, li_1, li_2, li_3, li_4, li_5, li_6, li_7, li_8, li_9, li_10, li_11, li_12, li_13, li_14, li_15, li_16, li_17, li_18, li_19, li_20, li_21, li_22, li_23, li_24, li_25, li_26, li_27, li_28, li_29, li_30, li_32, li_33, li_34, li_35, li_36, li_37, li_38, li_39, li_40, li_41, li_42, li_43, li_44, li_45, li_46, li_47, li_48, li_49, li_50, li_51, li_52, li_53, li_54, li_55, li_56, li_57, li_58, li_59, li_60, li_61, li_62, li_63, li_64, li_65, li_66, li_67, li_68, li_69, li_70, li_71, li_72, li_73, li_74, li_75, li_76, li_77, li_78, li_79, li_80, li_81, li_82, li_83, li_84, li_85, li_86, li_87, li_88, li_89, li_90, li_91, li_92, li_93, li_94, li_95, li_96, li_97, li_98, li_99, li_100, li_101, li_102, li_103, li_104, li_105, li_106, li_107, li_108, li_109, li_110, li_111, li_112, li_113, li_114, li_115, li_116, li_117, li_118, li_119, li_120, li_121, li_122, li_123, li_124, li_125, li_126, li_127, li_128, li_129, li_130, li_134, li_160, li_197, li_229, li_255, li_256, li_265, li_300, li_301, li_330, li_353, li_463, li_720, li_729, li_768, li_999, li_2610, li_2807, li_2867, li_2916, li_4096, li_9999, li_10000, li_30643, li_65535, li_99999, li_1000000, gi_si, gi_sl, gi_sr, gi_ci, gi_cl, gl_si, gl_sl, gl_sr, gl_ci, gl_cl, gr_si, gr_sl, gr_sr, gr_ci, gr_cl, ln_si, ln_sl, ln_sr, ln_ci, ln_cl, ok_si, ok_sl, ok_sr, ok_ci, ok_cl, gp_k hI, gp_l hI, gp_r hI, gp_m hI, Option.some.injEq, exists_eq_left', exists_eq_left, forall_eq, forall_eq', true_and, and_true, if_true, if_false, true_imp_iff, false_imp_iff, not_true_eq_false, not_false_eq_true, false_and, and_false, reduceIte, reduceCtorEq, forall_const, Nat.reduceEqDiff, Nat.reduceAdd, Nat.reduceMul, Nat.reduceSub, Nat.reduceLT, Nat.reduceLeDiff, Nat.reduceMod, Nat.reduceDiv, and_self, ne_eq, exists_const, Nat.add_sub_cancel, nI_add, pk_mul, pk_sub, q_rem, q_div, q_eq, q_le, q_lt, q_cl, q_in, q_m1, q_1m, q_neg, sh1n, bitn, q_mod2, q_neq0, bq_t, bq_f, bq_t2, bq_f2, i01, i10, q_tt, q_ff, ups_e, ups_n, fil_i, fil_o, zq_if, zq_0, zq_1, if_pos, if_neg, e_isIn, i6]
      refine m_arePassed hM2 (n := n) (N := n) (by omega) (by omega) n3 (Or.inl rfl) ((hFa.2.2.2.2.1 314 24 (by decide)).trans hR.2.2.2.2.2.2.2.1) (fun σ hF3 hM3 h25 => ?_)
      have q0 := hQ σ (top_mk hR hFa (cl_tw hT2 (cn_fr hN hF2)) hF3 hM3 (dyG_1 hW n n3) (by omega))
      rw [if_pos rfl, h25]
      exact ⟨fun e => absurd e (by decide), fun _ => q0⟩
    · have q0 := no (by
        rintro ⟨m, m1, m2, m3, m4⟩
        rw [q_eq (by omega) (by omega)] at m3
        omega)
      simp (disch := first | omega | (simp only [Gp_si, Gp_sl, Gp_ci, Gp_cl]; assumption)) only [li_0, li_1, li_2, li_3, li_4, li_5, li_6, li_7, li_8, li_9, li_10, li_11, li_12, li_13, li_14, li_15, li_16, li_17, li_18, li_19, li_20, li_21, li_22, li_23, li_24, li_25, li_26, li_27, li_28, li_29, li_30, li_32, li_33, li_34, li_35, li_36, li_37, li_38, li_39, li_40, li_41, li_42, li_43, li_44, li_45, li_46, li_47, li_48, li_49, li_50, li_51, li_52, li_53, li_54, li_55, li_56, li_57, li_58, li_59, li_60, li_61, li_62, li_63, li_64, li_65, li_66, li_67, li_68, li_69, li_70, li_71, li_72, li_73, li_74, li_75, li_76, li_77, li_78, li_79, li_80, li_81, li_82, li_83, li_84, li_85, li_86, li_87, li_88, li_89, li_90, li_91, li_92, li_93, li_94, li_95, li_96, li_97, li_98, li_99, li_100, li_101, li_102, li_103, li_104, li_105, li_106, li_107, li_108, li_109, li_110, li_111, li_112, li_113, li_114, li_115, li_116, li_117, li_118, li_119, li_120, li_121, li_122, li_123, li_124, li_125, li_126, li_127, li_128, li_129, li_130, li_134, li_160, li_197, li_229, li_255, li_256, li_265, li_300, li_301, li_330, li_353, li_463, li_720, li_729, li_768, li_999, li_2610, li_2807, li_2867, li_2916, li_4096, li_9999, li_10000, li_30643, li_65535, li_99999, li_1000000, gi_si, gi_sl, gi_sr, gi_ci, gi_cl, gl_si, gl_sl, gl_sr, gl_ci, gl_cl, gr_si, gr_sl, gr_sr, gr_ci, gr_cl, ln_si, ln_sl, ln_sr, ln_ci, ln_cl, ok_si, ok_sl, ok_sr, ok_ci, ok_cl, gp_k hG, gp_l hG, gp_r hG, gp_m hG, Option.some.injEq, exists_eq_left', exists_eq_left, forall_eq, forall_eq', true_and, and_true, if_true, if_false, true_imp_iff, false_imp_iff, not_true_eq_false, not_false_eq_true, false_and, and_false, reduceIte, reduceCtorEq, forall_const, Nat.reduceEqDiff, Nat.reduceAdd, Nat.reduceMul, Nat.reduceSub, Nat.reduceLT, Nat.reduceLeDiff, Nat.reduceMod, Nat.reduceDiv, and_self, ne_eq, exists_const, Nat.add_sub_cancel, nI_add, pk_mul, pk_sub, q_rem, q_div, q_eq, q_le, q_lt, q_cl, q_in, q_m1, q_1m, q_neg, sh1n, bitn, q_mod2, q_neq0, bq_t, bq_f, bq_t2, bq_f2, i01, i10, q_tt, q_ff, ups_e, ups_n, fil_i, fil_o, zq_if, zq_0, zq_1, if_pos, if_neg, h3]
      exact q0
  · have q0 := no (by
      rintro ⟨m, m1, m2, rfl, m4⟩
      exact d ⟨by rw [q_le (by omega) (by omega)]; exact m1, by rw [q_le (by omega) (by omega)]; exact m2⟩)
    by_cases d1 : v < nI 1
    · simp (disch := first | omega | (simp only [Gp_si, Gp_sl, Gp_ci, Gp_cl]; assumption)) only [li_0, li_1, li_2, li_3, li_4, li_5, li_6, li_7, li_8, li_9, li_10, li_11, li_12, li_13, li_14, li_15, li_16, li_17, li_18, li_19, li_20, li_21, li_22, li_23, li_24, li_25, li_26, li_27, li_28, li_29, li_30, li_32, li_33, li_34, li_35, li_36, li_37, li_38, li_39, li_40, li_41, li_42, li_43, li_44, li_45, li_46, li_47, li_48, li_49, li_50, li_51, li_52, li_53, li_54, li_55, li_56, li_57, li_58, li_59, li_60, li_61, li_62, li_63, li_64, li_65, li_66, li_67, li_68, li_69, li_70, li_71, li_72, li_73, li_74, li_75, li_76, li_77, li_78, li_79, li_80, li_81, li_82, li_83, li_84, li_85, li_86, li_87, li_88, li_89, li_90, li_91, li_92, li_93, li_94, li_95, li_96, li_97, li_98, li_99, li_100, li_101, li_102, li_103, li_104, li_105, li_106, li_107, li_108, li_109, li_110, li_111, li_112, li_113, li_114, li_115, li_116, li_117, li_118, li_119, li_120, li_121, li_122, li_123, li_124, li_125, li_126, li_127, li_128, li_129, li_130, li_134, li_160, li_197, li_229, li_255, li_256, li_265, li_300, li_301, li_330, li_353, li_463, li_720, li_729, li_768, li_999, li_2610, li_2807, li_2867, li_2916, li_4096, li_9999, li_10000, li_30643, li_65535, li_99999, li_1000000, gi_si, gi_sl, gi_sr, gi_ci, gi_cl, gl_si, gl_sl, gl_sr, gl_ci, gl_cl, gr_si, gr_sl, gr_sr, gr_ci, gr_cl, ln_si, ln_sl, ln_sr, ln_ci, ln_cl, ok_si, ok_sl, ok_sr, ok_ci, ok_cl, gp_k hG, gp_l hG, gp_r hG, gp_m hG, Option.some.injEq, exists_eq_left', exists_eq_left, forall_eq, forall_eq', true_and, and_true, if_true, if_false, true_imp_iff, false_imp_iff, not_true_eq_false, not_false_eq_true, false_and, and_false, reduceIte, reduceCtorEq, forall_const, Nat.reduceEqDiff, Nat.reduceAdd, Nat.reduceMul, Nat.reduceSub, Nat.reduceLT, Nat.reduceLeDiff, Nat.reduceMod, Nat.reduceDiv, and_self, ne_eq, exists_const, Nat.add_sub_cancel, nI_add, pk_mul, pk_sub, q_rem, q_div, q_eq, q_le, q_lt, q_cl, q_in, q_m1, q_1m, q_neg, sh1n, bitn, q_mod2, q_neq0, bq_t, bq_f, bq_t2, bq_f2, i01, i10, q_tt, q_ff, ups_e, ups_n, fil_i, fil_o, zq_if, zq_0, zq_1, if_pos, if_neg, h3, d1]
      exact q0
    · have d2 : nI 60 < v := Int32.not_le.1 (fun x => d ⟨Int32.not_lt.1 d1, x⟩)
      simp (disch := first | omega | (simp only [Gp_si, Gp_sl, Gp_ci, Gp_cl]; assumption)) only [li_0, li_1, li_2, li_3, li_4, li_5, li_6, li_7, li_8, li_9, li_10, li_11, li_12, li_13, li_14, li_15, li_16, li_17, li_18, li_19, li_20, li_21, li_22, li_23, li_24, li_25, li_26, li_27, li_28, li_29, li_30, li_32, li_33, li_34, li_35, li_36, li_37, li_38, li_39, li_40, li_41, li_42, li_43, li_44, li_45, li_46, li_47, li_48, li_49, li_50, li_51, li_52, li_53, li_54, li_55, li_56, li_57, li_58, li_59, li_60, li_61, li_62, li_63, li_64, li_65, li_66, li_67, li_68, li_69, li_70, li_71, li_72, li_73, li_74, li_75, li_76, li_77, li_78, li_79, li_80, li_81, li_82, li_83, li_84, li_85, li_86, li_87, li_88, li_89, li_90, li_91, li_92, li_93, li_94, li_95, li_96, li_97, li_98, li_99, li_100, li_101, li_102, li_103, li_104, li_105, li_106, li_107, li_108, li_109, li_110, li_111, li_112, li_113, li_114, li_115, li_116, li_117, li_118, li_119, li_120, li_121, li_122, li_123, li_124, li_125, li_126, li_127, li_128, li_129, li_130, li_134, li_160, li_197, li_229, li_255, li_256, li_265, li_300, li_301, li_330, li_353, li_463, li_720, li_729, li_768, li_999, li_2610, li_2807, li_2867, li_2916, li_4096, li_9999, li_10000, li_30643, li_65535, li_99999, li_1000000, gi_si, gi_sl, gi_sr, gi_ci, gi_cl, gl_si, gl_sl, gl_sr, gl_ci, gl_cl, gr_si, gr_sl, gr_sr, gr_ci, gr_cl, ln_si, ln_sl, ln_sr, ln_ci, ln_cl, ok_si, ok_sl, ok_sr, ok_ci, ok_cl, gp_k hG, gp_l hG, gp_r hG, gp_m hG, Option.some.injEq, exists_eq_left', exists_eq_left, forall_eq, forall_eq', true_and, and_true, if_true, if_false, true_imp_iff, false_imp_iff, not_true_eq_false, not_false_eq_true, false_and, and_false, reduceIte, reduceCtorEq, forall_const, Nat.reduceEqDiff, Nat.reduceAdd, Nat.reduceMul, Nat.reduceSub, Nat.reduceLT, Nat.reduceLeDiff, Nat.reduceMod, Nat.reduceDiv, and_self, ne_eq, exists_const, Nat.add_sub_cancel, nI_add, pk_mul, pk_sub, q_rem, q_div, q_eq, q_le, q_lt, q_cl, q_in, q_m1, q_1m, q_neg, sh1n, bitn, q_mod2, q_neq0, bq_t, bq_f, bq_t2, bq_f2, i01, i10, q_tt, q_ff, ups_e, ups_n, fil_i, fil_o, zq_if, zq_0, zq_1, if_pos, if_neg, h3, d1, d2]
      exact q0
theorem z_played (h : Top μ c) (hc : c ≤ 600) (k : ∀ r ν, Gp ν → (∀ {Q : Int32 → Me → Prop}, (∀ ρ, Top ρ (c + 1) → Q r ρ) → S_X11_played 314 v ν Q) → P r ν) : S_X10_played 0 v μ P := by
  obtain ⟨s, si, T, tn, L, b, hC, hM, hR, ht⟩ := h
  have hG := hC.1
  have hW := hC.2.1
  have wn := wf_n hW
  refine C_played hC (by omega) (fun ν tn' htn hF hC2 e1 => k _ ν hC2.1 (fun hQ => ?_))
  have hR2 := rst_fr (s' := s) hR hF rfl
  refine M_played (mo_fr hM hF) hR2.2.2.2.2.2.2.2.1 hR2.1 (fun i hi kk hk j h1 h2 => ?_) (fun ρ hF2 hM2 => hQ ρ (top_mk hR hF hC2 hF2 hM2 e1 (by omega)))
  exact (((hC.2.2.2.1 i hi).2.2.2 kk hk).2.2 j h1 h2).2
theorem z_years (h : Top μ c) (hc : c ≤ 600) (k : ∀ r ν, Gp ν → (∀ {Q : Int32 → Me → Prop}, (∀ ρ, Top ρ (c + 1) → Q r ρ) → S_X11_years 314 v u ν Q) → P r ν) : S_X10_years 0 v u μ P := by
  obtain ⟨s, si, T, tn, L, b, hC, hM, hR, ht⟩ := h
  have hG := hC.1
  have hW := hC.2.1
  have wn := wf_n hW
  have no : (¬ ∃ sd n, sd ≤ 9999 ∧ 1 ≤ n ∧ n ≤ 40 ∧ v = nI sd ∧ u = nI n) → P (-nI 1) μ := by
    intro hno
    refine k _ μ hG (fun {Q} hQ => ?_)
    have q0 := hQ μ ⟨s, si, T, tn, L, b, hC, hM, hR, by omega⟩
    refine e_isIn.2 ?_
    by_cases d : 0 ≤ v ∧ v ≤ 9999
    · rw [if_pos d]
      refine ⟨fun e => absurd e (by decide), fun _ => e_isIn.2 ?_⟩
      by_cases d2 : 1 ≤ u ∧ u ≤ 40
      · obtain ⟨sd, s1, e1⟩ := q_rg2 (n := 9999) (by omega) d
        obtain ⟨n, n1, n2, e2⟩ := m1_lt (n := 40) (by omega) d2
        exact absurd ⟨sd, n, s1, n1, n2, e1, e2⟩ hno
      · rw [if_neg d2]
        exact ⟨fun e => absurd rfl e, fun _ => q0⟩
    · rw [if_neg d]
      exact ⟨fun _ => q0, fun e => absurd rfl e⟩
  unfold S_X10_years
  by_cases d : 0 ≤ v ∧ v ≤ nI 9999
  · obtain ⟨sd, s1, rfl⟩ := q_rg2 (by omega) d
    by_cases d2 : nI 1 ≤ u ∧ u ≤ nI 40
    · obtain ⟨n, n1, n2, rfl⟩ := m1_lt (by omega) d2
      simp (disch := first | omega | (simp only [Gp_si, Gp_sl, Gp_ci, Gp_cl]; assumption)) only [li_0, li_1, li_2, li_3, li_4, li_5, li_6, li_7, li_8, li_9, li_10, li_11, li_12, li_13, li_14, li_15, li_16, li_17, li_18, li_19, li_20, li_21, li_22, li_23, li_24, li_25, li_26, li_27, li_28, li_29, li_30, li_32, li_33, li_34, li_35, li_36, li_37, li_38, li_39, li_40, li_41, li_42, li_43, li_44, li_45, li_46, li_47, li_48, li_49, li_50, li_51, li_52, li_53, li_54, li_55, li_56, li_57, li_58, li_59, li_60, li_61, li_62, li_63, li_64, li_65, li_66, li_67, li_68, li_69, li_70, li_71, li_72, li_73, li_74, li_75, li_76, li_77, li_78, li_79, li_80, li_81, li_82, li_83, li_84, li_85, li_86, li_87, li_88, li_89, li_90, li_91, li_92, li_93, li_94, li_95, li_96, li_97, li_98, li_99, li_100, li_101, li_102, li_103, li_104, li_105, li_106, li_107, li_108, li_109, li_110, li_111, li_112, li_113, li_114, li_115, li_116, li_117, li_118, li_119, li_120, li_121, li_122, li_123, li_124, li_125, li_126, li_127, li_128, li_129, li_130, li_134, li_160, li_197, li_229, li_255, li_256, li_265, li_300, li_301, li_330, li_353, li_463, li_720, li_729, li_768, li_999, li_2610, li_2807, li_2867, li_2916, li_4096, li_9999, li_10000, li_30643, li_65535, li_99999, li_1000000, gi_si, gi_sl, gi_sr, gi_ci, gi_cl, gl_si, gl_sl, gl_sr, gl_ci, gl_cl, gr_si, gr_sl, gr_sr, gr_ci, gr_cl, ln_si, ln_sl, ln_sr, ln_ci, ln_cl, ok_si, ok_sl, ok_sr, ok_ci, ok_cl, gp_k hG, gp_l hG, gp_r hG, gp_m hG, Option.some.injEq, exists_eq_left', exists_eq_left, forall_eq, forall_eq', true_and, and_true, if_true, if_false, true_imp_iff, false_imp_iff, not_true_eq_false, not_false_eq_true, false_and, and_false, reduceIte, reduceCtorEq, forall_const, Nat.reduceEqDiff, Nat.reduceAdd, Nat.reduceMul, Nat.reduceSub, Nat.reduceLT, Nat.reduceLeDiff, Nat.reduceMod, Nat.reduceDiv, and_self, ne_eq, exists_const, Nat.add_sub_cancel, nI_add, pk_mul, pk_sub, q_rem, q_div, q_eq, q_le, q_lt, q_cl, q_in, q_m1, q_1m, q_neg, sh1n, bitn, q_mod2, q_neq0, bq_t, bq_f, bq_t2, bq_f2, i01, i10, q_tt, q_ff, ups_e, ups_n, fil_i, fil_o, zq_if, zq_0, zq_1, if_pos, if_neg]
      refine p_forget hC (by omega) (fun ν hF hT hN => ?_)
      have hH := hT.1
      simp (disch := first | omega | (simp only [Gp_si, Gp_sl, Gp_ci, Gp_cl]; assumption)) only [li_0, li_1, li_2, li_3, li_4, li_5, li_6, li_7, li_8, li_9, li_10, li_11, li_12, li_13, li_14, li_15, li_16, li_17, li_18, li_19, li_20, li_21, li_22, li_23, li_24, li_25, li_26, li_27, li_28, li_29, li_30, li_32, li_33, li_34, li_35, li_36, li_37, li_38, li_39, li_40, li_41, li_42, li_43, li_44, li_45, li_46, li_47, li_48, li_49, li_50, li_51, li_52, li_53, li_54, li_55, li_56, li_57, li_58, li_59, li_60, li_61, li_62, li_63, li_64, li_65, li_66, li_67, li_68, li_69, li_70, li_71, li_72, li_73, li_74, li_75, li_76, li_77, li_78, li_79, li_80, li_81, li_82, li_83, li_84, li_85, li_86, li_87, li_88, li_89, li_90, li_91, li_92, li_93, li_94, li_95, li_96, li_97, li_98, li_99, li_100, li_101, li_102, li_103, li_104, li_105, li_106, li_107, li_108, li_109, li_110, li_111, li_112, li_113, li_114, li_115, li_116, li_117, li_118, li_119, li_120, li_121, li_122, li_123, li_124, li_125, li_126, li_127, li_128, li_129, li_130, li_134, li_160, li_197, li_229, li_255, li_256, li_265, li_300, li_301, li_330, li_353, li_463, li_720, li_729, li_768, li_999, li_2610, li_2807, li_2867, li_2916, li_4096, li_9999, li_10000, li_30643, li_65535, li_99999, li_1000000, gi_si, gi_sl, gi_sr, gi_ci, gi_cl, gl_si, gl_sl, gl_sr, gl_ci, gl_cl, gr_si, gr_sl, gr_sr, gr_ci, gr_cl, ln_si, ln_sl, ln_sr, ln_ci, ln_cl, ok_si, ok_sl, ok_sr, ok_ci, ok_cl, gp_k hH, gp_l hH, gp_r hH, gp_m hH, Option.some.injEq, exists_eq_left', exists_eq_left, forall_eq, forall_eq', true_and, and_true, if_true, if_false, true_imp_iff, false_imp_iff, not_true_eq_false, not_false_eq_true, false_and, and_false, reduceIte, reduceCtorEq, forall_const, Nat.reduceEqDiff, Nat.reduceAdd, Nat.reduceMul, Nat.reduceSub, Nat.reduceLT, Nat.reduceLeDiff, Nat.reduceMod, Nat.reduceDiv, and_self, ne_eq, exists_const, Nat.add_sub_cancel, nI_add, pk_mul, pk_sub, q_rem, q_div, q_eq, q_le, q_lt, q_cl, q_in, q_m1, q_1m, q_neg, sh1n, bitn, q_mod2, q_neq0, bq_t, bq_f, bq_t2, bq_f2, i01, i10, q_tt, q_ff, ups_e, ups_n, fil_i, fil_o, zq_if, zq_0, zq_1, if_pos, if_neg]
      refine p_draw hT s1 n2 (fun ρ hF2 hT2 => ?_)
      have hI := hT2.1
      have h3 : mgi ρ 11 3 = nI (yrS T n (ups (keepS s) 9 (sd * 2 + 229)) 6) := hT2.2.2.1.2.1.2.2.2.1
      simp (disch := first | omega | (simp only [Gp_si, Gp_sl, Gp_ci, Gp_cl]; assumption)) only [li_0, li_1, li_2, li_3, li_4, li_5, li_6, li_7, li_8, li_9, li_10, li_11, li_12, li_13, li_14, li_15, li_16, li_17, li_18, li_19, li_20, li_21, li_22, li_23, li_24, li_25, li_26, li_27, li_28, li_29, li_30, li_32, li_33, li_34, li_35, li_36, li_37, li_38, li_39, li_40, li_41, li_42, li_43, li_44, li_45, li_46, li_47, li_48, li_49, li_50, li_51, li_52, li_53, li_54, li_55, li_56, li_57, li_58, li_59, li_60, li_61, li_62, li_63, li_64, li_65, li_66, li_67, li_68, li_69, li_70, li_71, li_72, li_73, li_74, li_75, li_76, li_77, li_78, li_79, li_80, li_81, li_82, li_83, li_84, li_85, li_86, li_87, li_88, li_89, li_90, li_91, li_92, li_93, li_94, li_95, li_96, li_97, li_98, li_99, li_100, li_101, li_102, li_103, li_104, li_105, li_106, li_107, li_108, li_109, li_110, li_111, li_112, li_113, li_114, li_115, li_116, li_117, li_118, li_119, li_120, li_121, li_122, li_123, li_124, li_125, li_126, li_127, li_128, li_129, li_130, li_134, li_160, li_197, li_229, li_255, li_256, li_265, li_300, li_301, li_330, li_353, li_463, li_720, li_729, li_768, li_999, li_2610, li_2807, li_2867, li_2916, li_4096, li_9999, li_10000, li_30643, li_65535, li_99999, li_1000000, gi_si, gi_sl, gi_sr, gi_ci, gi_cl, gl_si, gl_sl, gl_sr, gl_ci, gl_cl, gr_si, gr_sl, gr_sr, gr_ci, gr_cl, ln_si, ln_sl, ln_sr, ln_ci, ln_cl, ok_si, ok_sl, ok_sr, ok_ci, ok_cl, gp_k hI, gp_l hI, gp_r hI, gp_m hI, Option.some.injEq, exists_eq_left', exists_eq_left, forall_eq, forall_eq', true_and, and_true, if_true, if_false, true_imp_iff, false_imp_iff, not_true_eq_false, not_false_eq_true, false_and, and_false, reduceIte, reduceCtorEq, forall_const, Nat.reduceEqDiff, Nat.reduceAdd, Nat.reduceMul, Nat.reduceSub, Nat.reduceLT, Nat.reduceLeDiff, Nat.reduceMod, Nat.reduceDiv, and_self, ne_eq, exists_const, Nat.add_sub_cancel, nI_add, pk_mul, pk_sub, q_rem, q_div, q_eq, q_le, q_lt, q_cl, q_in, q_m1, q_1m, q_neg, sh1n, bitn, q_mod2, q_neq0, bq_t, bq_f, bq_t2, bq_f2, i01, i10, q_tt, q_ff, ups_e, ups_n, fil_i, fil_o, zq_if, zq_0, zq_1, if_pos, if_neg, h3]
      have hFa := fr_tr hF (fr_ta hF2)
      exact k _ ρ hI (fun {Q} hQ => m_years (mo_fr hM hFa) s1 ⟨n1, n2⟩ ((hFa.2.2.2.2.1 314 24 (by decide)).trans hR.2.2.2.2.2.2.2.1) (fun σ hF3 hM3 => hQ σ (top_mk hR hFa (cl_tw hT2 (cn_fr hN hF2)) hF3 hM3 (by rw [yr_1, ups_n (by omega)]; exact keep_o (by omega) (by omega)) (by omega))))
    · have q0 := no (by
        rintro ⟨sd', n, a1, a2, a3, a4, rfl⟩
        exact d2 ⟨by rw [q_le (by omega) (by omega)]; exact a2, by rw [q_le (by omega) (by omega)]; exact a3⟩)
      refine ⟨fun _ => q0, fun _ => ⟨fun _ => q0, fun _ => ⟨fun _ => q0, fun x => ⟨fun y => absurd ⟨Int32.not_lt.1 x, y⟩ d2, fun _ => q0⟩⟩⟩⟩
  · have q0 := no (by
      rintro ⟨sd, n, a1, a2, a3, rfl, a5⟩
      exact d (nat_in2 (by omega) a1))
    refine ⟨fun _ => q0, fun x => ⟨fun _ => q0, fun y => absurd ⟨Int32.not_lt.1 x, Int32.not_lt.1 y⟩ d⟩⟩
theorem z_undo (h : Top μ c) (hc : c ≤ 600) (k : ∀ r ν, Gp ν → (∀ {Q : Int32 → Me → Prop}, (∀ ρ, Top ρ (c + 1) → Q r ρ) → S_X11_undo 314 ν Q) → P r ν) : S_X10_undo 0 μ P := by
  obtain ⟨s, si, T, tn, L, b, hC, hM, hR, ht⟩ := h
  have hG := hC.1
  have hW := hC.2.1
  have wn := wf_n hW
  unfold S_X10_undo
  simp (disch := first | omega | (simp only [Gp_si, Gp_sl, Gp_ci, Gp_cl]; assumption)) only [li_0, li_1, li_2, li_3, li_4, li_5, li_6, li_7, li_8, li_9, li_10, li_11, li_12, li_13, li_14, li_15, li_16, li_17, li_18, li_19, li_20, li_21, li_22, li_23, li_24, li_25, li_26, li_27, li_28, li_29, li_30, li_32, li_33, li_34, li_35, li_36, li_37, li_38, li_39, li_40, li_41, li_42, li_43, li_44, li_45, li_46, li_47, li_48, li_49, li_50, li_51, li_52, li_53, li_54, li_55, li_56, li_57, li_58, li_59, li_60, li_61, li_62, li_63, li_64, li_65, li_66, li_67, li_68, li_69, li_70, li_71, li_72, li_73, li_74, li_75, li_76, li_77, li_78, li_79, li_80, li_81, li_82, li_83, li_84, li_85, li_86, li_87, li_88, li_89, li_90, li_91, li_92, li_93, li_94, li_95, li_96, li_97, li_98, li_99, li_100, li_101, li_102, li_103, li_104, li_105, li_106, li_107, li_108, li_109, li_110, li_111, li_112, li_113, li_114, li_115, li_116, li_117, li_118, li_119, li_120, li_121, li_122, li_123, li_124, li_125, li_126, li_127, li_128, li_129, li_130, li_134, li_160, li_197, li_229, li_255, li_256, li_265, li_300, li_301, li_330, li_353, li_463, li_720, li_729, li_768, li_999, li_2610, li_2807, li_2867, li_2916, li_4096, li_9999, li_10000, li_30643, li_65535, li_99999, li_1000000, gi_si, gi_sl, gi_sr, gi_ci, gi_cl, gl_si, gl_sl, gl_sr, gl_ci, gl_cl, gr_si, gr_sl, gr_sr, gr_ci, gr_cl, ln_si, ln_sl, ln_sr, ln_ci, ln_cl, ok_si, ok_sl, ok_sr, ok_ci, ok_cl, gp_k hG, gp_l hG, gp_r hG, gp_m hG, Option.some.injEq, exists_eq_left', exists_eq_left, forall_eq, forall_eq', true_and, and_true, if_true, if_false, true_imp_iff, false_imp_iff, not_true_eq_false, not_false_eq_true, false_and, and_false, reduceIte, reduceCtorEq, forall_const, Nat.reduceEqDiff, Nat.reduceAdd, Nat.reduceMul, Nat.reduceSub, Nat.reduceLT, Nat.reduceLeDiff, Nat.reduceMod, Nat.reduceDiv, and_self, ne_eq, exists_const, Nat.add_sub_cancel, nI_add, pk_mul, pk_sub, q_rem, q_div, q_eq, q_le, q_lt, q_cl, q_in, q_m1, q_1m, q_neg, sh1n, bitn, q_mod2, q_neq0, bq_t, bq_f, bq_t2, bq_f2, i01, i10, q_tt, q_ff, ups_e, ups_n, fil_i, fil_o, zq_if, zq_0, zq_1, if_pos, if_neg]
  refine p_forget hC (by omega) (fun ν hF hT hN => ?_)
  have hH := hT.1
  simp (disch := first | omega | (simp only [Gp_si, Gp_sl, Gp_ci, Gp_cl]; assumption)) only [li_0, li_1, li_2, li_3, li_4, li_5, li_6, li_7, li_8, li_9, li_10, li_11, li_12, li_13, li_14, li_15, li_16, li_17, li_18, li_19, li_20, li_21, li_22, li_23, li_24, li_25, li_26, li_27, li_28, li_29, li_30, li_32, li_33, li_34, li_35, li_36, li_37, li_38, li_39, li_40, li_41, li_42, li_43, li_44, li_45, li_46, li_47, li_48, li_49, li_50, li_51, li_52, li_53, li_54, li_55, li_56, li_57, li_58, li_59, li_60, li_61, li_62, li_63, li_64, li_65, li_66, li_67, li_68, li_69, li_70, li_71, li_72, li_73, li_74, li_75, li_76, li_77, li_78, li_79, li_80, li_81, li_82, li_83, li_84, li_85, li_86, li_87, li_88, li_89, li_90, li_91, li_92, li_93, li_94, li_95, li_96, li_97, li_98, li_99, li_100, li_101, li_102, li_103, li_104, li_105, li_106, li_107, li_108, li_109, li_110, li_111, li_112, li_113, li_114, li_115, li_116, li_117, li_118, li_119, li_120, li_121, li_122, li_123, li_124, li_125, li_126, li_127, li_128, li_129, li_130, li_134, li_160, li_197, li_229, li_255, li_256, li_265, li_300, li_301, li_330, li_353, li_463, li_720, li_729, li_768, li_999, li_2610, li_2807, li_2867, li_2916, li_4096, li_9999, li_10000, li_30643, li_65535, li_99999, li_1000000, gi_si, gi_sl, gi_sr, gi_ci, gi_cl, gl_si, gl_sl, gl_sr, gl_ci, gl_cl, gr_si, gr_sl, gr_sr, gr_ci, gr_cl, ln_si, ln_sl, ln_sr, ln_ci, ln_cl, ok_si, ok_sl, ok_sr, ok_ci, ok_cl, gp_k hH, gp_l hH, gp_r hH, gp_m hH, Option.some.injEq, exists_eq_left', exists_eq_left, forall_eq, forall_eq', true_and, and_true, if_true, if_false, true_imp_iff, false_imp_iff, not_true_eq_false, not_false_eq_true, false_and, and_false, reduceIte, reduceCtorEq, forall_const, Nat.reduceEqDiff, Nat.reduceAdd, Nat.reduceMul, Nat.reduceSub, Nat.reduceLT, Nat.reduceLeDiff, Nat.reduceMod, Nat.reduceDiv, and_self, ne_eq, exists_const, Nat.add_sub_cancel, nI_add, pk_mul, pk_sub, q_rem, q_div, q_eq, q_le, q_lt, q_cl, q_in, q_m1, q_1m, q_neg, sh1n, bitn, q_mod2, q_neq0, bq_t, bq_f, bq_t2, bq_f2, i01, i10, q_tt, q_ff, ups_e, ups_n, fil_i, fil_o, zq_if, zq_0, zq_1, if_pos, if_neg]
  by_cases h3 : s 3 = 0
  · have h17 : mgi ν 1 17 = nI (s 3) := hT.2.2.1.1.2.2.2.1
    unfold S_X9_takeBack
    simp (disch := first | omega | (simp only [Gp_si, Gp_sl, Gp_ci, Gp_cl]; assumption)) only [li_0, li_1, li_2, li_3, li_4, li_5, li_6, li_7, li_8, li_9, li_10, li_11, li_12, li_13, li_14, li_15, li_16, li_17, li_18, li_19, li_20, li_21, li_22, li_23, li_24, li_25, li_26, li_27, li_28, li_29, li_30, li_32, li_33, li_34, li_35, li_36, li_37, li_38, li_39, li_40, li_41, li_42, li_43, li_44, li_45, li_46, li_47, li_48, li_49, li_50, li_51, li_52, li_53, li_54, li_55, li_56, li_57, li_58, li_59, li_60, li_61, li_62, li_63, li_64, li_65, li_66, li_67, li_68, li_69, li_70, li_71, li_72, li_73, li_74, li_75, li_76, li_77, li_78, li_79, li_80, li_81, li_82, li_83, li_84, li_85, li_86, li_87, li_88, li_89, li_90, li_91, li_92, li_93, li_94, li_95, li_96, li_97, li_98, li_99, li_100, li_101, li_102, li_103, li_104, li_105, li_106, li_107, li_108, li_109, li_110, li_111, li_112, li_113, li_114, li_115, li_116, li_117, li_118, li_119, li_120, li_121, li_122, li_123, li_124, li_125, li_126, li_127, li_128, li_129, li_130, li_134, li_160, li_197, li_229, li_255, li_256, li_265, li_300, li_301, li_330, li_353, li_463, li_720, li_729, li_768, li_999, li_2610, li_2807, li_2867, li_2916, li_4096, li_9999, li_10000, li_30643, li_65535, li_99999, li_1000000, gi_si, gi_sl, gi_sr, gi_ci, gi_cl, gl_si, gl_sl, gl_sr, gl_ci, gl_cl, gr_si, gr_sl, gr_sr, gr_ci, gr_cl, ln_si, ln_sl, ln_sr, ln_ci, ln_cl, ok_si, ok_sl, ok_sr, ok_ci, ok_cl, gp_k hH, gp_l hH, gp_r hH, gp_m hH, Option.some.injEq, exists_eq_left', exists_eq_left, forall_eq, forall_eq', true_and, and_true, if_true, if_false, true_imp_iff, false_imp_iff, not_true_eq_false, not_false_eq_true, false_and, and_false, reduceIte, reduceCtorEq, forall_const, Nat.reduceEqDiff, Nat.reduceAdd, Nat.reduceMul, Nat.reduceSub, Nat.reduceLT, Nat.reduceLeDiff, Nat.reduceMod, Nat.reduceDiv, and_self, ne_eq, exists_const, Nat.add_sub_cancel, nI_add, pk_mul, pk_sub, q_rem, q_div, q_eq, q_le, q_lt, q_cl, q_in, q_m1, q_1m, q_neg, sh1n, bitn, q_mod2, q_neq0, bq_t, bq_f, bq_t2, bq_f2, i01, i10, q_tt, q_ff, ups_e, ups_n, fil_i, fil_o, zq_if, zq_0, zq_1, if_pos, if_neg, h17, h3]
    have hM2 := mo_fr hM hF
    exact k _ ν hH (fun {Q} hQ => p_Mundo0 hM2.1 hM2.2.1 h3 (hQ ν (top_mk hR hF (cl_tw hT hN) (fq_rf ν) hM2 rfl (by omega))))
  · refine p_takeBack hT (by omega) (fun ρ hF2 hT2 => ?_)
    have hI := hT2.1
    have h17 : mgi ρ 1 17 = nI (undoS s 3) := hT2.2.2.1.1.2.2.2.1
    rw [un_3] at h17
    simp (disch := first | omega | (simp only [Gp_si, Gp_sl, Gp_ci, Gp_cl]; assumption)) only [li_0, li_1, li_2, li_3, li_4, li_5, li_6, li_7, li_8, li_9, li_10, li_11, li_12, li_13, li_14, li_15, li_16, li_17, li_18, li_19, li_20, li_21, li_22, li_23, li_24, li_25, li_26, li_27, li_28, li_29, li_30, li_32, li_33, li_34, li_35, li_36, li_37, li_38, li_39, li_40, li_41, li_42, li_43, li_44, li_45, li_46, li_47, li_48, li_49, li_50, li_51, li_52, li_53, li_54, li_55, li_56, li_57, li_58, li_59, li_60, li_61, li_62, li_63, li_64, li_65, li_66, li_67, li_68, li_69, li_70, li_71, li_72, li_73, li_74, li_75, li_76, li_77, li_78, li_79, li_80, li_81, li_82, li_83, li_84, li_85, li_86, li_87, li_88, li_89, li_90, li_91, li_92, li_93, li_94, li_95, li_96, li_97, li_98, li_99, li_100, li_101, li_102, li_103, li_104, li_105, li_106, li_107, li_108, li_109, li_110, li_111, li_112, li_113, li_114, li_115, li_116, li_117, li_118, li_119, li_120, li_121, li_122, li_123, li_124, li_125, li_126, li_127, li_128, li_129, li_130, li_134, li_160, li_197, li_229, li_255, li_256, li_265, li_300, li_301, li_330, li_353, li_463, li_720, li_729, li_768, li_999, li_2610, li_2807, li_2867, li_2916, li_4096, li_9999, li_10000, li_30643, li_65535, li_99999, li_1000000, gi_si, gi_sl, gi_sr, gi_ci, gi_cl, gl_si, gl_sl, gl_sr, gl_ci, gl_cl, gr_si, gr_sl, gr_sr, gr_ci, gr_cl, ln_si, ln_sl, ln_sr, ln_ci, ln_cl, ok_si, ok_sl, ok_sr, ok_ci, ok_cl, gp_k hI, gp_l hI, gp_r hI, gp_m hI, Option.some.injEq, exists_eq_left', exists_eq_left, forall_eq, forall_eq', true_and, and_true, if_true, if_false, true_imp_iff, false_imp_iff, not_true_eq_false, not_false_eq_true, false_and, and_false, reduceIte, reduceCtorEq, forall_const, Nat.reduceEqDiff, Nat.reduceAdd, Nat.reduceMul, Nat.reduceSub, Nat.reduceLT, Nat.reduceLeDiff, Nat.reduceMod, Nat.reduceDiv, and_self, ne_eq, exists_const, Nat.add_sub_cancel, nI_add, pk_mul, pk_sub, q_rem, q_div, q_eq, q_le, q_lt, q_cl, q_in, q_m1, q_1m, q_neg, sh1n, bitn, q_mod2, q_neq0, bq_t, bq_f, bq_t2, bq_f2, i01, i10, q_tt, q_ff, ups_e, ups_n, fil_i, fil_o, zq_if, zq_0, zq_1, if_pos, if_neg, h17]
    have hFa := fr_tr hF (fr_ta hF2)
    have hM2 := mo_fr hM hFa
    refine k _ ρ hI (fun {Q} hQ => p_Mundo hM2.1 hM2.2.1 (by omega) (by omega) (by omega) (wf_b hW) (fun σ hm hN3 => ?_))
    have hF3 := fq_mof hm
    have e1 : undoS s 1 = s 1 := un_o (by omega)
    exact hQ σ (top_mk hR hFa (cl_tw hT2 (cn_fr hN hF2)) hF3 (mo_row hM2 hF3 hN3 (wf_undo hW (by omega)) e1) e1 (by omega))
theorem z_foretold (h : Top μ c) (hc : c ≤ 600) (k : ∀ r ν, Gp ν → (∀ {Q : Int32 → Me → Prop}, (∀ ρ, Top ρ (c + 1) → Q r ρ) → S_X11_foretold 314 v u ν Q) → P r ν) : S_X10_foretold 0 v u μ P := by
  obtain ⟨s, si, T, tn, L, b, hC, hM, hR, ht⟩ := h
  have hG := hC.1
  have hW := hC.2.1
  have wn := wf_n hW
  have no : (¬ ∃ n w, 1 ≤ n ∧ n ≤ 60 ∧ w ≤ 2 ∧ v = nI n ∧ u = nI w) → P (-nI 1) μ := by
    intro hno
    refine k _ μ hG (fun {Q} hQ => ?_)
    have q0 := hQ μ ⟨s, si, T, tn, L, b, hC, hM, hR, by omega⟩
    refine e_isIn.2 ?_
    by_cases d : 1 ≤ v ∧ v ≤ 60
    · rw [if_pos d]
      refine ⟨fun e => absurd e (by decide), fun _ => e_isIn.2 ?_⟩
      by_cases d2 : 0 ≤ u ∧ u ≤ 2
      · obtain ⟨n, n1, n2, e1⟩ := m1_lt (n := 60) (by omega) d
        obtain ⟨w, w1, e2⟩ := q_rg2 (n := 2) (by omega) d2
        exact absurd ⟨n, w, n1, n2, w1, e1, e2⟩ hno
      · rw [if_neg d2]
        exact ⟨fun e => absurd rfl e, fun _ => q0⟩
    · rw [if_neg d]
      exact ⟨fun _ => q0, fun e => absurd rfl e⟩
  unfold S_X10_foretold
  by_cases d : nI 1 ≤ v ∧ v ≤ nI 60
  · obtain ⟨n, n1, n2, rfl⟩ := m1_lt (by omega) d
    by_cases d2 : 0 ≤ u ∧ u ≤ nI 2
    · obtain ⟨w, w1, rfl⟩ := q_rg2 (by omega) d2
      simp (disch := first | omega | (simp only [Gp_si, Gp_sl, Gp_ci, Gp_cl]; assumption)) only [li_0, li_1, li_2, li_3, li_4, li_5, li_6, li_7, li_8, li_9, li_10, li_11, li_12, li_13, li_14, li_15, li_16, li_17, li_18, li_19, li_20, li_21, li_22, li_23, li_24, li_25, li_26, li_27, li_28, li_29, li_30, li_32, li_33, li_34, li_35, li_36, li_37, li_38, li_39, li_40, li_41, li_42, li_43, li_44, li_45, li_46, li_47, li_48, li_49, li_50, li_51, li_52, li_53, li_54, li_55, li_56, li_57, li_58, li_59, li_60, li_61, li_62, li_63, li_64, li_65, li_66, li_67, li_68, li_69, li_70, li_71, li_72, li_73, li_74, li_75, li_76, li_77, li_78, li_79, li_80, li_81, li_82, li_83, li_84, li_85, li_86, li_87, li_88, li_89, li_90, li_91, li_92, li_93, li_94, li_95, li_96, li_97, li_98, li_99, li_100, li_101, li_102, li_103, li_104, li_105, li_106, li_107, li_108, li_109, li_110, li_111, li_112, li_113, li_114, li_115, li_116, li_117, li_118, li_119, li_120, li_121, li_122, li_123, li_124, li_125, li_126, li_127, li_128, li_129, li_130, li_134, li_160, li_197, li_229, li_255, li_256, li_265, li_300, li_301, li_330, li_353, li_463, li_720, li_729, li_768, li_999, li_2610, li_2807, li_2867, li_2916, li_4096, li_9999, li_10000, li_30643, li_65535, li_99999, li_1000000, gi_si, gi_sl, gi_sr, gi_ci, gi_cl, gl_si, gl_sl, gl_sr, gl_ci, gl_cl, gr_si, gr_sl, gr_sr, gr_ci, gr_cl, ln_si, ln_sl, ln_sr, ln_ci, ln_cl, ok_si, ok_sl, ok_sr, ok_ci, ok_cl, gp_k hG, gp_l hG, gp_r hG, gp_m hG, Option.some.injEq, exists_eq_left', exists_eq_left, forall_eq, forall_eq', true_and, and_true, if_true, if_false, true_imp_iff, false_imp_iff, not_true_eq_false, not_false_eq_true, false_and, and_false, reduceIte, reduceCtorEq, forall_const, Nat.reduceEqDiff, Nat.reduceAdd, Nat.reduceMul, Nat.reduceSub, Nat.reduceLT, Nat.reduceLeDiff, Nat.reduceMod, Nat.reduceDiv, and_self, ne_eq, exists_const, Nat.add_sub_cancel, nI_add, pk_mul, pk_sub, q_rem, q_div, q_eq, q_le, q_lt, q_cl, q_in, q_m1, q_1m, q_neg, sh1n, bitn, q_mod2, q_neq0, bq_t, bq_f, bq_t2, bq_f2, i01, i10, q_tt, q_ff, ups_e, ups_n, fil_i, fil_o, zq_if, zq_0, zq_1, if_pos, if_neg]
      refine p_foretell (tw_cl hC) n2 w1 (fun ν hF => ?_)
      have hFa := fr_pa hF
      have hC2 : Cl ν s T tn := Cl_x hC (fr_gp hG hF) (fun a q ha => hF.2.2.2.2.1 a q (xP_o (by omega) (by omega) (by omega))) (fun a q ha => hF.2.2.2.2.2 a q (xP_o (by omega) (by omega) (by omega)))
      have hM2 := mo_fr hM hFa
      exact k _ ν hC2.1 (fun {Q} hQ => m_foretold1 hM2 ⟨n1, n2⟩ w1 ((hFa.2.2.2.2.1 314 24 (by decide)).trans hR.2.2.2.2.2.2.2.1) (fun ρ hF2 hRw => hQ ρ (top_mk hR hFa hC2 hF2 (mo_fq hM2 hF2 hRw) rfl (by omega))))
    · have q0 := no (by
        rintro ⟨n', w, a1, a2, a3, a4, rfl⟩
        exact d2 (nat_in2 (by omega) a3))
      refine ⟨fun _ => q0, fun _ => ⟨fun _ => q0, fun _ => ⟨fun _ => q0, fun x => ⟨fun y => absurd ⟨Int32.not_lt.1 x, y⟩ d2, fun _ => q0⟩⟩⟩⟩
  · have q0 := no (by
      rintro ⟨n, w, a1, a2, a3, rfl, a5⟩
      exact d ⟨by rw [q_le (by omega) (by omega)]; exact a1, by rw [q_le (by omega) (by omega)]; exact a2⟩)
    refine ⟨fun _ => q0, fun x => ⟨fun _ => q0, fun y => absurd ⟨Int32.not_lt.1 x, Int32.not_lt.1 y⟩ d⟩⟩
theorem z_image (h : Top μ c) (hc : c ≤ 600) (k : ∀ r ν, Gp ν → (∀ {Q : Int32 → Me → Prop}, (∀ ρ, Top ρ (c + 1) → Q r ρ) → S_X11_image 314 ν Q) → P r ν) : S_X10_image 0 μ P := by
  obtain ⟨s, si, T, tn, L, b, hC, hM, hR, ht⟩ := h
  have hG := hC.1
  have hW := hC.2.1
  have wn := wf_n hW
  refine C_image hC (fun ν hF hC2 hT2 => k _ ν hC2.1 (fun {Q} hQ => ?_))
  have em : ∀ a q, a < 136 ∨ 270 < a → mgi ν a q = mgi μ a q := fun a q h1 => hF.2.2.2.2.1 a q (xI_o h1)
  have hM2 : Mo ν s T := ⟨hC2.1, RowA_x hM.2.1 (fun q => em _ q (by omega)), hM.2.2.1, fun i hi => TxM_x (hM.2.2.2 i hi) (fun q => em _ q (by omega))⟩
  refine M_image hM2 (fun ρ hm hR2 hM3 => hQ ρ ⟨s, s, T, tn, L, b, ?_, hM3, ?_, by omega⟩)
  · exact Cl_x hC2 hM3.1 (fun a q ha => (hm.2.2.2 a (by omega) q).1) (fun a q ha => (hm.2.2.2 a (by omega) q).2.1)
  · obtain ⟨h1, h2, h3, h4, h5, ⟨t1, t2, t3, t4⟩, h7, h8, a, len, k1, k2, k3, k4⟩ := hR
    have e2 : ∀ a q, (a < 136 ∨ 270 < a) → a ≠ 316 → mgi ρ a q = mgi μ a q := fun a q x y => ((hm.2.2.2 a y q).1).trans (em a q x)
    refine ⟨fun i hi => TaM_x (h1 i hi) (fun q => e2 _ q (by omega) (by omega)), TownR_x hT2 (fun a q _ _ => (hm.2.2.2 a (by omega) q).1) (fun a q _ _ => (hm.2.2.2 a (by omega) q).2.1), hR2, hW, Nat.le_refl _, ⟨t1, (e2 _ _ (by omega) (by omega)).trans t2, (e2 _ _ (by omega) (by omega)).trans t3, fun kk hk => ⟨(t4 kk hk).1, (e2 _ _ (by omega) (by omega)).trans (t4 kk hk).2.1, (e2 _ _ (by omega) (by omega)).trans (t4 kk hk).2.2⟩⟩, ?_, (e2 _ _ (by omega) (by omega)).trans h8, a, len, ?_, ?_, ?_, k4⟩
    · unfold Ft9
      rw [e2 0 9 (by omega) (by omega), e2 0 10 (by omega) (by omega), e2 0 11 (by omega) (by omega), e2 314 5 (by omega) (by omega), e2 314 6 (by omega) (by omega)]
      exact h7
    · rw [(hm.2.2.2 310 (by omega) 4).2.2, hF.2.2.2.1 310 4 (by omega)]
      exact k1
    · refine ⟨?_, ?_⟩
      · rw [hm.1, hF.1]
        exact k2.1
      · rw [hm.2.1, hF.2.1]
        exact k2.2
    · rw [hm.2.2.1, hF.2.2.1]
      exact k3
theorem z_back (h : Top μ c) (hc : c ≤ 600) (k : ∀ r ν, Gp ν → (∀ {Q : Int32 → Me → Prop}, (∀ ρ, Top ρ (c + 1) → Q r ρ) → S_X11_back 314 ν Q) → P r ν) : S_X10_back 0 μ P := by
  obtain ⟨s, si, T, tn, L, b, hC, hM, hR, ht⟩ := h
  have hG := hC.1
  have hW := hC.2.1
  have wn := wf_n hW
  obtain ⟨h1, h2, h3, h4, h5, h6⟩ := id hR
  refine C_back hC (by omega) h2 h4 h5 (fun ν hF hC2 => k _ ν hC2.1 (fun {Q} hQ => ?_))
  have hM2 := mo_fr hM hF
  have hR2 := rst_fr (s' := s) hR hF rfl
  refine M_back hM2 hR2.2.2.1 h4 h5 (fun ρ hF2 hM3 => hQ ρ ?_)
  obtain ⟨g1, g2, g3, g4, g5, g6⟩ := rst_fq hR2 hF2
  exact ⟨si, si, T, tn + 1, L, b, cl_fq hC2 hF2, hM3, ⟨fun i hi => g1 i (by omega), g2, g3, g4, Nat.le_refl _, g6⟩, by omega⟩
theorem z_fault (h : Top μ c) (hc : c ≤ 600) (k : ∀ r ν, Gp ν → (∀ {Q : Int32 → Me → Prop}, (∀ ρ, Top ρ (c + 1) → Q r ρ) → S_X11_fault 314 v ν Q) → P r ν) : S_X10_fault 0 v μ P := by
  obtain ⟨s, si, T, tn, L, b, hC, hM, hR, ht⟩ := h
  have hG := hC.1
  have hW := hC.2.1
  have wn := wf_n hW
  refine cm_fault hG hR.2.2.2.2.2.2.1 (fun x hx => k _ μ hG (fun {Q} hQ => ?_))
  have q0 := hQ μ ⟨s, si, T, tn, L, b, hC, hM, hR, by omega⟩
  unfold S_X11_fault at hx ⊢
  refine ⟨fun c1 => ⟨fun c2 => ?_, fun c2 => ?_⟩, fun c1 => ?_⟩
  · obtain ⟨e, -⟩ := (hx.1 c1).1 c2
    rw [e]; exact q0
  · obtain ⟨o, e, -⟩ := (hx.1 c1).2 c2
    refine ⟨o, ?_⟩
    rw [e]; exact q0
  · obtain ⟨o, e, -⟩ := hx.2 c1
    refine ⟨o, ?_⟩
    rw [e]; exact q0
/-- the tape changes -/
theorem top_tp {L2 : Nat} {b2 : Nat → Nat} (hC : Cl μ s T tn) (hM : Mo μ s T) (hR : Rst μ s si T L b) (ht : tn ≤ 1 + c) (hk : mnn ρ = mnn μ ∧ (∀ a, mkd ρ a = mkd μ a) ∧ (∀ a, mln ρ a = mln μ a)) (hr : ∀ a q, (a = 299 → q ≠ 6) → mgr ρ a q = mgr μ a q) (e : ∀ a q, a ≠ 271 → a ≠ 272 → a ≠ 318 → (a = 314 → q ≠ 4) → mgi ρ a q = mgi μ a q) (el : ∀ a q, a < 271 → mgl ρ a q = mgl μ a q) (hT : Tp ρ L2 b2) : Top ρ c := by
  have hG : Gp ρ := Gp_x hC.1 (Nat.le_of_eq hk.1.symm) (fun a _ => ⟨hk.2.1 a, hk.2.2 a⟩) (fun a q _ _ _ _ _ h6 _ => hr a q h6)
  obtain ⟨h1, h2, h3, h4, h5, -, h7, h8, a, len, k1, k2, k3, k4⟩ := hR
  have wn := wf_n hC.2.1
  refine ⟨s, si, T, tn, L2, b2, ⟨hG, hC.2.1, TownR_x hC.2.2.1 (fun a q _ _ => e a q (by omega) (by omega) (by omega) (by omega)) (fun a q _ _ => el a q (by omega)), fun i hi => TxC_x (by omega) (hC.2.2.2.1 i hi) (fun a q _ _ => e a q (by omega) (by omega) (by omega) (by omega)), Ca_x hC.2.2.2.2 (fun a q _ _ => e a q (by omega) (by omega) (by omega) (by omega))⟩, ⟨hG, RowA_x hM.2.1 (fun q => e _ q (by omega) (by omega) (by omega) (by omega)), hM.2.2.1, fun i hi => TxM_x (hM.2.2.2 i hi) (fun q => e _ q (by omega) (by omega) (by omega) (by omega))⟩, ⟨fun i hi => TaM_x (h1 i hi) (fun q => e _ q (by omega) (by omega) (by omega) (by omega)), TownR_x h2 (fun a q _ _ => e a q (by omega) (by omega) (by omega) (by omega)) (fun a q _ _ => el a q (by omega)), RowA_x h3 (fun q => e _ q (by omega) (by omega) (by omega) (by omega)), h4, h5, hT, ?_, (e _ _ (by omega) (by omega) (by omega) (by omega)).trans h8, a, len, (hr 310 4 (by decide)).trans k1, ⟨by rw [hk.1]; exact k2.1, (hk.2.1 a).trans k2.2⟩, (hk.2.2 a).trans k3, k4⟩, ht⟩
  unfold Ft9
  rw [e 0 9 (by omega) (by omega) (by omega) (by omega), e 0 10 (by omega) (by omega) (by omega) (by omega), e 0 11 (by omega) (by omega) (by omega) (by omega), e 314 5 (by omega) (by omega) (by omega) (by omega), e 314 6 (by omega) (by omega) (by omega) (by omega)]
  exact h7
theorem z_feed (h : Top μ c) (hc : c ≤ 600) (k : ∀ r ν, Gp ν → (∀ {Q : Int32 → Me → Prop}, (∀ ρ, Top ρ (c + 1) → Q r ρ) → S_X11_feed 314 v u w x y ν Q) → P r ν) : S_X10_feed 0 v u w x y μ P := by
  obtain ⟨s, si, T, tn, L, b, hC, hM, hR, ht⟩ := h
  have hG := hC.1
  have hW := hC.2.1
  have wn := wf_n hW
  obtain ⟨t1, t2, t3, t4⟩ := hR.2.2.2.2.2.1
  by_cases hL : L + 20 ≤ 300
  · refine p_feed1 hG hL t2 (fun k hk => (t4 k hk).2.1) (fun ν hF hq hl hb => ?_)
    have hH := fr_gp hG hF
    have em : ∀ a q, a ≠ 271 → a ≠ 272 → mgi ν a q = mgi μ a q := fun a q h1 h2 => hF.2.2.2.2.1 a q (xW_o ⟨h1, h2⟩)
    refine k _ ν hH (fun {Q} hQ => m_feed1 hH hL ((em _ _ (by omega) (by omega)).trans t3) (fun k hk => (em _ _ (by omega) (by omega)).trans (t4 k hk).2.2) (fun ρ hF2 hq2 hl2 hb2 => hQ ρ ?_))
    have em2 : ∀ a q, a ≠ 314 → a ≠ 318 → mgi ρ a q = mgi ν a q := fun a q h1 h2 => hF2.2.2.2.2.1 a q (xW_o ⟨h1, h2⟩)
    refine top_tp hC hM hR (by omega) ⟨hF2.1.trans hF.1, fun a => (hF2.2.1 a).trans (hF.2.1 a), fun a => (hF2.2.2.1 a).trans (hF.2.2.1 a)⟩ (fun a q h6 => (hF2.2.2.2.1 a q h6).trans (hF.2.2.2.1 a q h6)) (fun a q h1 h2 h3 h4 => ?_) (fun a q ha => ?_) (L2 := L + 20) (b2 := app5 b L v u w x y) ⟨hL, ?_, hl2, fun k hk => ⟨?_, ?_, hb2 k hk⟩⟩
    · by_cases c4 : a = 314
      · subst c4
        exact (hq2 q (h4 rfl)).trans (em 314 q (by omega) (by omega))
      · exact (em2 a q c4 h3).trans (em a q h1 h2)
    · rw [hF2.2.2.2.2.2 a q (xW_o (by omega)), hF.2.2.2.2.2 a q (xW_o (by omega))]
    · exact (em2 _ _ (by omega) (by omega)).trans hl
    · have h0 := fun k hk => (t4 k hk).1
      exact app_lt (app_lt (app_lt (app_lt (app_lt h0)))) k hk
    · exact (em2 _ _ (by omega) (by omega)).trans (hb k hk)
  · refine p_feed0 hG t1 hL t2 (k _ μ hG (fun {Q} hQ => m_feed0 hG t1 hL t3 (hQ μ ⟨s, si, T, tn, L, b, hC, hM, hR, by omega⟩)))
theorem z_end (h : Top μ c) (hc : c ≤ 600) (k : ∀ r ν, Gp ν → (∀ {Q : Int32 → Me → Prop}, (∀ ρ, Top ρ (c + 1) → Q r ρ) → S_X11_end 314 v ν Q) → P r ν) : S_X10_end 0 v μ P := by
  obtain ⟨s, si, T, tn, L, b, hC, hM, hR, ht⟩ := h
  have hG := hC.1
  have hW := hC.2.1
  have wn := wf_n hW
  obtain ⟨t1, t2, t3, t4⟩ := hR.2.2.2.2.2.1
  refine p_end hG t2 (fun c0 => ?_) (fun c1 => ?_)
  · exact k _ μ hG (fun {Q} hQ => m_end hG t3 (fun _ => hQ μ ⟨s, si, T, tn, L, b, hC, hM, hR, by omega⟩) (fun x => by rw [c0] at x; cases x))
  · obtain ⟨n, hn, rfl⟩ := q_rg2 (by omega) (of_decide_eq_true c1)
    refine k _ (msi μ 271 1 (nI n)) hG (fun {Q} hQ => m_end (μ := msi μ 271 1 (nI n)) hG ((by rw [gi_si, if_neg (by omega)] : mgi (msi μ 271 1 (nI n)) 314 4 = mgi μ 314 4).trans t3) (fun x => by rw [c1] at x; cases x) (fun _ => hQ _ ?_))
    refine top_tp hC hM hR (by omega) ⟨rfl, fun _ => rfl, fun _ => rfl⟩ (fun _ _ _ => rfl) (fun a q h1 h2 h3 h4 => by rw [gi_si, if_neg (by omega), gi_si, if_neg (by omega)]) (fun _ _ _ => rfl) (L2 := n) (b2 := b) ⟨by omega, by rw [gi_si, if_neg (by omega), gi_si, if_pos ⟨rfl, rfl⟩], by rw [gi_si, if_pos ⟨rfl, rfl⟩], fun k hk => ⟨(t4 k (by omega)).1, ?_, ?_⟩⟩
    · rw [gi_si, if_neg (by omega), gi_si, if_neg (by omega)]
      exact (t4 k (by omega)).2.1
    · rw [gi_si, if_neg (by omega), gi_si, if_neg (by omega)]
      exact (t4 k (by omega)).2.2
end TO
