/-! what the class holds, and its ways to ask of it -/
/-- how many numbers a clause of a sort has -/
def arS (k : Nat) : Nat := if k = 2 then 4 else if k = 4 then 2 else if k < 2 then 0 else 1
/-- a sort, as the class writes it -/
def kmC (k : Nat) : Nat := if k = 4 then 6 else if k = 5 then 4 else if k = 6 then 5 else k
def TxC (μ : Me) (i : Nat) (T : Tx) : Prop := TlC μ i T ∧ mgi μ (274 + 4 * i) 8 = nI T.1 ∧ T.1 ≤ 24 ∧ ∀ k, k < T.1 → T.2.1 k 0 ≤ 7 ∧ mgi μ (277 + 4 * i) (5 * k) = nI (kmC (T.2.1 k 0)) ∧ ∀ j, 1 ≤ j → j ≤ arS (T.2.1 k 0) → mgi μ (277 + 4 * i) (5 * k + j) = nI (T.2.1 k j) ∧ T.2.1 k j ≤ 9999
/-- the numbers of a text's clauses, in the reference -/
def TaM (μ : Me) (i : Nat) (T : Tx) : Prop := ∀ k, k < T.1 → ∀ j, 1 ≤ j → j ≤ arS (T.2.1 k 0) → mgi μ 317 (729 * i + 1 + 5 * k + j) = nI (T.2.1 k j)
theorem TxC_x {μ ν : Me} {i : Nat} {T : Tx} (hi : i < 4) (h : TxC μ i T) (e : ∀ a q, 273 < a → a < 290 → mgi ν a q = mgi μ a q) : TxC ν i T := by
  obtain ⟨h1, h2, h3, h4⟩ := h
  refine ⟨TlC_x hi h1 e, (e _ _ (by omega) (by omega)).trans h2, h3, fun k hk => ?_⟩
  obtain ⟨a1, a2, a3⟩ := h4 k hk
  exact ⟨a1, (e _ _ (by omega) (by omega)).trans a2, fun j x y => ⟨(e _ _ (by omega) (by omega)).trans (a3 j x y).1, (a3 j x y).2⟩⟩
theorem TaM_x {μ ν : Me} {i : Nat} {T : Tx} (h : TaM μ i T) (e : ∀ q, mgi ν 317 q = mgi μ 317 q) : TaM ν i T := fun k hk j x y => (e _).trans (h k hk j x y)
/-- what stays but for the objects b -/
def Fr (b : Nat → Bool) (μ ν : Me) : Prop := mnn ν = mnn μ ∧ (∀ a, mkd ν a = mkd μ a) ∧ (∀ a, mln ν a = mln μ a) ∧ (∀ a q, (a = 299 → q ≠ 6) → mgr ν a q = mgr μ a q) ∧ (∀ a q, b a = false → mgi ν a q = mgi μ a q) ∧ (∀ a q, b a = false → mgl ν a q = mgl μ a q)
def xE (a : Nat) : Bool := a == 299 || a == 300
def xN (a : Nat) : Bool := a == 299 || a == 300 || a == 307 || a == 308
def xM (a : Nat) : Bool := a == 299 || a == 300 || a == 307 || a == 308 || a == 309
def xB (a : Nat) : Bool := a == 299 || a == 300 || a == 307 || a == 308 || a == 309 || a == 310 || a == 311 || a == 312
theorem fr_rf (b : Nat → Bool) (μ : Me) : Fr b μ μ := ⟨rfl, fun _ => rfl, fun _ => rfl, fun _ _ _ => rfl, fun _ _ _ => rfl, fun _ _ _ => rfl⟩
theorem fr_tr {b : Nat → Bool} {μ ν ρ : Me} (h : Fr b μ ν) (k : Fr b ν ρ) : Fr b μ ρ := ⟨k.1.trans h.1, fun a => (k.2.1 a).trans (h.2.1 a), fun a => (k.2.2.1 a).trans (h.2.2.1 a), fun a q h1 => (k.2.2.2.1 a q h1).trans (h.2.2.2.1 a q h1), fun a q h1 => (k.2.2.2.2.1 a q h1).trans (h.2.2.2.2.1 a q h1), fun a q h1 => (k.2.2.2.2.2 a q h1).trans (h.2.2.2.2.2 a q h1)⟩
theorem fr_mo {b c : Nat → Bool} {μ ν : Me} (h : Fr b μ ν) (k : ∀ a, c a = false → b a = false) : Fr c μ ν := ⟨h.1, h.2.1, h.2.2.1, h.2.2.2.1, fun a q h1 => h.2.2.2.2.1 a q (k a h1), fun a q h1 => h.2.2.2.2.2 a q (k a h1)⟩
theorem xE_N (a : Nat) (h : xN a = false) : xE a = false := by
  simp [xN, xE] at h ⊢
  omega
theorem xN_M (a : Nat) (h : xM a = false) : xN a = false := by
  simp [xN, xM] at h ⊢
  omega
theorem xM_B (a : Nat) (h : xB a = false) : xM a = false := by
  simp [xB, xM] at h ⊢
  omega
theorem xE_x {a : Nat} (h1 : a ≠ 299) (h2 : a ≠ 300) : xE a = false := by
  simp [xE]
  omega
theorem xN_x {a : Nat} (h1 : a < 299 ∨ (300 < a ∧ a ≠ 307 ∧ a ≠ 308)) : xN a = false := by
  simp [xN]
  omega
theorem xM_x {a : Nat} (h1 : a < 299 ∨ (300 < a ∧ a < 307) ∨ 309 < a) : xM a = false := by
  simp [xM]
  omega
theorem xB_x {a : Nat} (h1 : a < 299 ∨ (300 < a ∧ a < 307) ∨ 312 < a) : xB a = false := by
  simp [xB]
  omega
theorem fr_gp {b : Nat → Bool} {μ ν : Me} (hG : Gp μ) (h : Fr b μ ν) : Gp ν := Gp_x hG (Nat.le_of_eq h.1.symm) (fun a _ => ⟨h.2.1 a, h.2.2.1 a⟩) (fun a q _ _ _ _ _ h6 _ => h.2.2.2.1 a q h6)
theorem fr_si {b : Nat → Bool} {μ ν : Me} (h : Fr b μ ν) (o k : Nat) (v : Int32) (ho : b o = true) : Fr b μ (msi ν o k v) := fr_tr h ⟨rfl, fun _ => rfl, fun _ => rfl, fun _ _ _ => rfl, fun a q h2 => by rw [gi_si, if_neg (by rintro ⟨rfl, -⟩; rw [ho] at h2; cases h2)], fun _ _ _ => rfl⟩
theorem fw_fr {μ ν : Me} (h : Fw μ ν) : Fr xE μ ν := ⟨h.1, h.2.1, h.2.2.1, fun a q _ => h.2.2.2.1 a q, fun a q h1 => by
  simp [xE] at h1
  exact h.2.2.2.2.1 a q (by omega) (Or.inl (by omega)), fun a q _ => h.2.2.2.2.2 a q⟩
/-- a moment, read elsewhere -/
theorem MomR_x {μ ν : Me} {m n dy rg we xx pg : Nat} {due bed late b1 b2 : Nat → Nat} (h : MomR μ m n dy rg we xx pg due bed late b1 b2) (e0 : ∀ q, mgi ν m q = mgi μ m q) (e1 : ∀ q, mgi ν (m + 1) q = mgi μ (m + 1) q) (e2 : ∀ q, mgi ν (m + 2) q = mgi μ (m + 2) q) (e3 : ∀ q, mgl ν (m + 3) q = mgl μ (m + 3) q) : MomR ν m n dy rg we xx pg due bed late b1 b2 := by
  obtain ⟨h1, h2, h3, h4, h5, h6, h7, h8, h9⟩ := h
  exact ⟨(e0 _).trans h1, (e0 _).trans h2, (e0 _).trans h3, (e0 _).trans h4, (e0 _).trans h5, (e0 _).trans h6, fun p hp => (e1 _).trans (h7 p hp), fun p hp => (e2 _).trans (h8 p hp), fun i hi => (e3 _).trans (h9 i hi)⟩
theorem TownR_x {μ ν : Me} {t : Nat} {s : Nat → Nat} (h : TownR μ t s) (e : ∀ a q, t ≤ a → a < t + 135 → mgi ν a q = mgi μ a q) (el : ∀ a q, t ≤ a → a < t + 135 → mgl ν a q = mgl μ a q) : TownR ν t s := by
  obtain ⟨⟨h1, h2, h3, h4, h5, h6, h7, h8, h9, h10, h11⟩, hN, el0, hel, hl1, hl2⟩ := h
  refine ⟨⟨(e _ _ (by omega) (by omega)).trans h1, (e _ _ (by omega) (by omega)).trans h2, (e _ _ (by omega) (by omega)).trans h3, (e _ _ (by omega) (by omega)).trans h4, (e _ _ (by omega) (by omega)).trans h5, (e _ _ (by omega) (by omega)).trans h6, fun p hp => ?_, fun r hr => (e _ _ (by omega) (by omega)).trans (h8 r hr), fun p hp => (e _ _ (by omega) (by omega)).trans (h9 p hp), fun i hi => ?_, fun i hi => ?_⟩, ?_, el0, hel, (e _ _ (by omega) (by omega)).trans hl1, fun i hi => ?_⟩
  · rw [e _ _ (by omega) (by omega), e _ _ (by omega) (by omega), e _ _ (by omega) (by omega)]
    exact h7 p hp
  · rw [e _ _ (by omega) (by omega), e _ _ (by omega) (by omega)]
    exact h10 i hi
  · rw [e _ _ (by omega) (by omega), e _ _ (by omega) (by omega)]
    exact h11 i hi
  · exact MomR_x hN (fun q => e _ _ (by omega) (by omega)) (fun q => e _ _ (by omega) (by omega)) (fun q => e _ _ (by omega) (by omega)) (fun q => el _ _ (by omega) (by omega))
  · have := Nat.mod_lt (el0 + i) (show 0 < 30 by decide)
    exact MomR_x (hl2 i hi) (fun q => e _ _ (by omega) (by omega)) (fun q => e _ _ (by omega) (by omega)) (fun q => e _ _ (by omega) (by omega)) (fun q => el _ _ (by omega) (by omega))
/-- what was worked out and holds -/
def Ca (μ : Me) (tn n : Nat) (F : Nat → Nat) : Prop := tn < 1000000 ∧ mgi μ 306 5 = nI tn ∧ ∀ r, r < 256 → ∃ kn, kn ≤ tn ∧ mgi μ 308 r = nI kn ∧ (kn = tn → r < 2 ^ n → mgi μ 307 r = nI (F r))
/-- the class, as asked -/
def Cl (μ : Me) (s : Nat → Nat) (T : Nat → Tx) (tn : Nat) : Prop := Gp μ ∧ WF s ∧ TownR μ 1 s ∧ (∀ i, i < s 1 → TxC μ i (T i)) ∧ Ca μ tn (s 0) (lateS s (Dx T (s 2)))
theorem Ca_x {μ ν : Me} {tn n : Nat} {F : Nat → Nat} (h : Ca μ tn n F) (e : ∀ a q, 306 ≤ a → a < 309 → mgi ν a q = mgi μ a q) : Ca ν tn n F := by
  obtain ⟨h1, h2, h3⟩ := h
  refine ⟨h1, (e _ _ (by decide) (by decide)).trans h2, fun r hr => ?_⟩
  obtain ⟨kn, a1, a2, a3⟩ := h3 r hr
  exact ⟨kn, a1, (e _ _ (by decide) (by decide)).trans a2, fun x y => (e _ _ (by decide) (by decide)).trans (a3 x y)⟩
theorem Cl_x {μ ν : Me} {s : Nat → Nat} {T : Nat → Tx} {tn : Nat} (h : Cl μ s T tn) (hG : Gp ν) (e : ∀ a q, a < 290 ∨ (306 ≤ a ∧ a < 309) → mgi ν a q = mgi μ a q) (el : ∀ a q, a < 290 → mgl ν a q = mgl μ a q) : Cl ν s T tn := by
  obtain ⟨-, h2, h3, h4, h5⟩ := h
  have w := wf_n h2
  exact ⟨hG, h2, TownR_x h3 (fun a q _ _ => e a q (by omega)) (fun a q _ _ => el a q (by omega)), fun i hi => TxC_x (by omega) (h4 i hi) (fun a q _ _ => e a q (by omega)), Ca_x h5 (fun a q _ _ => e a q (by omega))⟩
theorem cl_fe {μ ν : Me} {s : Nat → Nat} {T : Nat → Tx} {tn : Nat} (h : Cl μ s T tn) (k : Fr xE μ ν) : Cl ν s T tn := Cl_x h (fr_gp h.1 k) (fun a q _ => k.2.2.2.2.1 a q (xE_x (by omega) (by omega))) (fun a q _ => k.2.2.2.2.2 a q (xE_x (by omega) (by omega)))
/-- marks, days and the like written -/
theorem cl_si {μ : Me} {s : Nat → Nat} {T : Nat → Tx} {tn : Nat} (h : Cl μ s T tn) (o k : Nat) (v : Int32) (ho : (290 ≤ o ∧ o < 306) ∨ 309 ≤ o) : Cl (msi μ o k v) s T tn := Cl_x h (by exact h.1) (fun a q _ => by rw [gi_si, if_neg (by omega)]) (fun a q _ => rfl)
section CL
variable {μ : Me} {s : Nat → Nat} {T : Nat → Tx} {tn : Nat} {Q : Int32 → Me → Prop}
theorem cl_n (h : Cl μ s T tn) : mgi μ 1 0 = nI (s 0) := h.2.2.1.1.1
theorem e_allR (h : Cl μ s T tn) : S_X9_allRings 1 μ Q = Q (nI (2 ^ s 0)) μ := by
  have hG := h.1
  have w := wf_n h.2.1
  have hn := cl_n h
  unfold S_X9_allRings
  simp (disch := first | omega | (simp only [Gp_si, Gp_sl, Gp_ci, Gp_cl]; assumption)) only [li_0, li_1, li_2, li_3, li_4, li_5, li_6, li_7, li_8, li_9, li_10, li_11, li_12, li_13, li_14, li_15, li_16, li_17, li_18, li_19, li_20, li_21, li_22, li_23, li_24, li_25, li_26, li_27, li_28, li_29, li_30, li_32, li_33, li_34, li_35, li_36, li_37, li_38, li_39, li_40, li_41, li_42, li_43, li_44, li_45, li_46, li_47, li_48, li_49, li_50, li_51, li_52, li_53, li_54, li_55, li_56, li_57, li_58, li_59, li_60, li_61, li_62, li_63, li_64, li_65, li_66, li_67, li_68, li_69, li_70, li_71, li_72, li_73, li_74, li_75, li_76, li_77, li_78, li_79, li_80, li_81, li_82, li_83, li_84, li_85, li_86, li_87, li_88, li_89, li_90, li_91, li_92, li_93, li_94, li_95, li_96, li_97, li_98, li_99, li_100, li_101, li_102, li_103, li_104, li_105, li_106, li_107, li_108, li_109, li_110, li_111, li_112, li_113, li_114, li_115, li_116, li_117, li_118, li_119, li_120, li_121, li_122, li_123, li_124, li_125, li_126, li_127, li_128, li_129, li_130, li_134, li_160, li_197, li_229, li_255, li_256, li_265, li_300, li_301, li_330, li_353, li_463, li_720, li_729, li_768, li_999, li_2610, li_2807, li_2867, li_2916, li_4096, li_9999, li_10000, li_30643, li_65535, li_99999, li_1000000, gi_si, gi_sl, gi_sr, gi_ci, gi_cl, gl_si, gl_sl, gl_sr, gl_ci, gl_cl, gr_si, gr_sl, gr_sr, gr_ci, gr_cl, ln_si, ln_sl, ln_sr, ln_ci, ln_cl, ok_si, ok_sl, ok_sr, ok_ci, ok_cl, gp_k hG, gp_l hG, gp_r hG, gp_m hG, Option.some.injEq, exists_eq_left', exists_eq_left, forall_eq, forall_eq', true_and, and_true, if_true, if_false, true_imp_iff, false_imp_iff, not_true_eq_false, not_false_eq_true, false_and, and_false, reduceIte, reduceCtorEq, forall_const, Nat.reduceEqDiff, Nat.reduceAdd, Nat.reduceMul, Nat.reduceSub, Nat.reduceLT, Nat.reduceLeDiff, Nat.reduceMod, Nat.reduceDiv, and_self, ne_eq, exists_const, Nat.add_sub_cancel, nI_add, pk_mul, pk_sub, q_rem, q_div, q_eq, q_le, q_lt, q_cl, q_in, q_m1, q_1m, q_neg, sh1n, bitn, q_mod2, q_neq0, bq_t, bq_f, bq_t2, bq_f2, i01, i10, q_tt, q_ff, ups_e, ups_n, fil_i, fil_o, zq_if, zq_0, zq_1, if_pos, if_neg, hn]
theorem e_areR (h : Cl μ s T tn) {v : Int32} : S_X9_areRings 1 v μ Q = Q (if 0 ≤ v ∧ v < nI (2 ^ s 0) then 1 else 0) μ := by
  have hG := h.1
  have w := wf_n h.2.1
  have hn := cl_n h
  unfold S_X9_areRings
  rw [e_allR h]
  by_cases h1 : v < 0
  · have h2 : ¬ (0 ≤ v ∧ v < nI (2 ^ s 0)) := fun x => absurd x.1 (Int32.not_le.2 h1)
    rw [if_neg h2]
    simp only [h1, true_imp_iff, not_true_eq_false, false_imp_iff, and_true]
  · have h3 : 0 ≤ v := Int32.not_lt.1 h1
    by_cases h2 : nI (2 ^ s 0) ≤ v
    · rw [if_neg (fun x => absurd x.2 (Int32.not_lt.2 h2))]
      simp only [h1, h2, true_imp_iff, not_true_eq_false, false_imp_iff, and_true, true_and, not_false_eq_true, gp_k hG]
    · rw [if_pos ⟨h3, Int32.not_le.1 h2⟩]
      simp only [h1, h2, true_imp_iff, not_true_eq_false, false_imp_iff, and_true, true_and, not_false_eq_true, gp_k hG]
theorem e_isP (h : Cl μ s T tn) {v : Int32} : S_X9_isPerson 1 v μ Q = Q (if 0 ≤ v ∧ v < nI (s 0) then 1 else 0) μ := by
  have hG := h.1
  have w := wf_n h.2.1
  have hn := cl_n h
  unfold S_X9_isPerson
  rw [hn]
  by_cases h1 : v < 0
  · have h2 : ¬ (0 ≤ v ∧ v < nI (s 0)) := fun x => absurd x.1 (Int32.not_le.2 h1)
    rw [if_neg h2]
    simp only [h1, true_imp_iff, not_true_eq_false, false_imp_iff, and_true]
  · have h3 : 0 ≤ v := Int32.not_lt.1 h1
    by_cases h2 : nI (s 0) ≤ v
    · rw [if_neg (fun x => absurd x.2 (Int32.not_lt.2 h2))]
      simp only [h1, h2, true_imp_iff, not_true_eq_false, false_imp_iff, and_true, true_and, not_false_eq_true, gp_k hG]
    · rw [if_pos ⟨h3, Int32.not_le.1 h2⟩]
      simp only [h1, h2, true_imp_iff, not_true_eq_false, false_imp_iff, and_true, true_and, not_false_eq_true, gp_k hG]
theorem q_rg {v : Int32} {n : Nat} (hn : n < 2147483648) (h : 0 ≤ v ∧ v < nI n) : ∃ k, k < n ∧ v = nI k := by
  refine ⟨v.toInt.toNat, ?_, ?_⟩
  · have h1 := Int32.le_iff_toInt_le.1 h.1
    have h2 := Int32.lt_iff_toInt_lt.1 h.2
    rw [q_ti hn] at h2
    have : (0 : Int32).toInt = 0 := by decide
    omega
  · have h1 := Int32.le_iff_toInt_le.1 h.1
    have h2 := Int32.lt_iff_toInt_lt.1 h.2
    rw [q_ti hn] at h2
    have : (0 : Int32).toInt = 0 := by decide
    apply Int32.toInt_inj.1
    rw [q_ti (by omega)]
    omega
/-- as the town is now, but for the weather, the beds, the ruling text -/
theorem ev_of (h : Cl μ s T tn) {t1 : Nat} (ht : t1 ≤ s 1) {ν : Me} (k : Fr xE μ ν) (h3 : mgi ν 299 3 = nI (s 6)) (h4 : mgi ν 299 4 = nI (s 8)) (h5 : mgi ν 299 5 = nI (setS (fun p => s (12 + 7 * p) == 1) (s 0))) (h6 : mgr ν 299 6 = (if t1 = 0 then none else some (270 + 4 * t1))) : Ev ν s T t1 := by
  have w := wf_n h.2.1
  obtain ⟨hG, hW, ⟨⟨b1, b2, b3, b4, b5, b6, b7, b8, b9, b10, b11⟩, ⟨c1, c2, c3, c4, c5, c6, c7, c8, c9⟩, -⟩, hT, -⟩ := cl_fe h k
  refine ⟨hG, hW, by omega, b1, fun p hp => ?_, b8, h3, h4, h5, h6, fun hz => ?_⟩
  · obtain ⟨d1, d2, d3⟩ := b7 p hp
    exact ⟨d1, d2, d3, c7 p hp, b9 p (by omega)⟩
  · exact (hT (t1 - 1) (by omega)).1
theorem Gp_sr6 (μ : Me) (v : Option Nat) (h : Gp μ) : Gp (msr μ 299 6 v) := Gp_x h (Nat.le_refl _) (fun a _ => ⟨rfl, rfl⟩) (fun a q _ _ _ _ _ h6 _ => by rw [gr_sr, if_neg (by rintro ⟨rfl, rfl⟩; exact h6 rfl rfl)])
/-- the shelf's text -/
theorem e_textOf (hG : Gp μ) {t1 : Nat} (ht : t1 ≤ 4) {Q : Option Nat → Me → Prop} : S_X4_textOf 299 (nI t1 - nI 1) μ Q = Q (if t1 = 0 then none else some (270 + 4 * t1)) μ := by
  unfold S_X4_textOf
  by_cases hz : t1 = 0
  · subst hz
    have : nI 0 - nI 1 < 0 := by decide
    simp only [this, true_imp_iff, not_true_eq_false, false_imp_iff, and_true, if_true]
  · obtain ⟨t, rfl⟩ : ∃ t, t1 = t + 1 := ⟨t1 - 1, by omega⟩
    have h6 := hG.2.2.2.2.2.1 t (by omega)
    rw [if_neg hz, show 270 + 4 * (t + 1) = 274 + 4 * t by omega]
    simp (disch := first | omega | (simp only [Gp_si, Gp_sl, Gp_ci, Gp_cl]; assumption)) only [li_0, li_1, li_2, li_3, li_4, li_5, li_6, li_7, li_8, li_9, li_10, li_11, li_12, li_13, li_14, li_15, li_16, li_17, li_18, li_19, li_20, li_21, li_22, li_23, li_24, li_25, li_26, li_27, li_28, li_29, li_30, li_32, li_33, li_34, li_35, li_36, li_37, li_38, li_39, li_40, li_41, li_42, li_43, li_44, li_45, li_46, li_47, li_48, li_49, li_50, li_51, li_52, li_53, li_54, li_55, li_56, li_57, li_58, li_59, li_60, li_61, li_62, li_63, li_64, li_65, li_66, li_67, li_68, li_69, li_70, li_71, li_72, li_73, li_74, li_75, li_76, li_77, li_78, li_79, li_80, li_81, li_82, li_83, li_84, li_85, li_86, li_87, li_88, li_89, li_90, li_91, li_92, li_93, li_94, li_95, li_96, li_97, li_98, li_99, li_100, li_101, li_102, li_103, li_104, li_105, li_106, li_107, li_108, li_109, li_110, li_111, li_112, li_113, li_114, li_115, li_116, li_117, li_118, li_119, li_120, li_121, li_122, li_123, li_124, li_125, li_126, li_127, li_128, li_129, li_130, li_134, li_160, li_197, li_229, li_255, li_256, li_265, li_300, li_301, li_330, li_353, li_463, li_720, li_729, li_768, li_999, li_2610, li_2807, li_2867, li_2916, li_4096, li_9999, li_10000, li_30643, li_65535, li_99999, li_1000000, gi_si, gi_sl, gi_sr, gi_ci, gi_cl, gl_si, gl_sl, gl_sr, gl_ci, gl_cl, gr_si, gr_sl, gr_sr, gr_ci, gr_cl, ln_si, ln_sl, ln_sr, ln_ci, ln_cl, ok_si, ok_sl, ok_sr, ok_ci, ok_cl, gp_k hG, gp_l hG, gp_r hG, gp_m hG, Option.some.injEq, exists_eq_left', exists_eq_left, forall_eq, forall_eq', true_and, and_true, if_true, if_false, true_imp_iff, false_imp_iff, not_true_eq_false, not_false_eq_true, false_and, and_false, reduceIte, reduceCtorEq, forall_const, Nat.reduceEqDiff, Nat.reduceAdd, Nat.reduceMul, Nat.reduceSub, Nat.reduceLT, Nat.reduceLeDiff, Nat.reduceMod, Nat.reduceDiv, and_self, ne_eq, exists_const, Nat.add_sub_cancel, nI_add, pk_mul, pk_sub, q_rem, q_div, q_eq, q_le, q_lt, q_cl, q_in, q_m1, q_1m, q_neg, sh1n, bitn, q_mod2, q_neq0, bq_t, bq_f, bq_t2, bq_f2, i01, i10, q_tt, q_ff, ups_e, ups_n, fil_i, fil_o, zq_if, zq_0, zq_1, if_pos, if_neg, h6]
theorem p_asNow (h : Cl μ s T tn) {Q : Me → Prop} (k : ∀ ν, Fr xE μ ν → Ev ν s T (s 2) → Q ν) : S_X4_asNow 299 μ Q := by
  obtain ⟨hG, hW, ⟨⟨b1, b2, b3, b4, b5, b6, b7, b8, b9, b10, b11⟩, ⟨c1, c2, c3, c4, c5, c6, c7, c8, c9⟩, -⟩, hT, -⟩ := id h
  have w := wf_n hW
  unfold S_X4_asNow S_X4_asIn
  rw [li_1] at b3
  simp (disch := first | omega | (simp only [Gp_si, Gp_sl, Gp_ci, Gp_cl]; assumption)) only [li_0, li_1, li_2, li_3, li_4, li_5, li_6, li_7, li_8, li_9, li_10, li_11, li_12, li_13, li_14, li_15, li_16, li_17, li_18, li_19, li_20, li_21, li_22, li_23, li_24, li_25, li_26, li_27, li_28, li_29, li_30, li_32, li_33, li_34, li_35, li_36, li_37, li_38, li_39, li_40, li_41, li_42, li_43, li_44, li_45, li_46, li_47, li_48, li_49, li_50, li_51, li_52, li_53, li_54, li_55, li_56, li_57, li_58, li_59, li_60, li_61, li_62, li_63, li_64, li_65, li_66, li_67, li_68, li_69, li_70, li_71, li_72, li_73, li_74, li_75, li_76, li_77, li_78, li_79, li_80, li_81, li_82, li_83, li_84, li_85, li_86, li_87, li_88, li_89, li_90, li_91, li_92, li_93, li_94, li_95, li_96, li_97, li_98, li_99, li_100, li_101, li_102, li_103, li_104, li_105, li_106, li_107, li_108, li_109, li_110, li_111, li_112, li_113, li_114, li_115, li_116, li_117, li_118, li_119, li_120, li_121, li_122, li_123, li_124, li_125, li_126, li_127, li_128, li_129, li_130, li_134, li_160, li_197, li_229, li_255, li_256, li_265, li_300, li_301, li_330, li_353, li_463, li_720, li_729, li_768, li_999, li_2610, li_2807, li_2867, li_2916, li_4096, li_9999, li_10000, li_30643, li_65535, li_99999, li_1000000, gi_si, gi_sl, gi_sr, gi_ci, gi_cl, gl_si, gl_sl, gl_sr, gl_ci, gl_cl, gr_si, gr_sl, gr_sr, gr_ci, gr_cl, ln_si, ln_sl, ln_sr, ln_ci, ln_cl, ok_si, ok_sl, ok_sr, ok_ci, ok_cl, gp_k hG, gp_l hG, gp_r hG, gp_m hG, Option.some.injEq, exists_eq_left', exists_eq_left, forall_eq, forall_eq', true_and, and_true, if_true, if_false, true_imp_iff, false_imp_iff, not_true_eq_false, not_false_eq_true, false_and, and_false, reduceIte, reduceCtorEq, forall_const, Nat.reduceEqDiff, Nat.reduceAdd, Nat.reduceMul, Nat.reduceSub, Nat.reduceLT, Nat.reduceLeDiff, Nat.reduceMod, Nat.reduceDiv, and_self, ne_eq, exists_const, Nat.add_sub_cancel, nI_add, pk_mul, pk_sub, q_rem, q_div, q_eq, q_le, q_lt, q_cl, q_in, q_m1, q_1m, q_neg, sh1n, bitn, q_mod2, q_neq0, bq_t, bq_f, bq_t2, bq_f2, i01, i10, q_tt, q_ff, ups_e, ups_n, fil_i, fil_o, zq_if, zq_0, zq_1, if_pos, if_neg, b3, c2, c3, c4]
  rw [e_textOf (by exact hG) (by omega)]
  have hF : Fr xE μ (msr (msi (msi (msi μ 299 3 (nI (s 6))) 299 4 (nI (s 8))) 299 5 (nI (setS (fun p => s (12 + 7 * p) == 1) (s 0)))) 299 6 (if s 2 = 0 then none else some (270 + 4 * s 2))) := by
    refine fr_tr (fr_si (fr_si (fr_si (fr_rf xE μ) 299 3 _ rfl) 299 4 _ rfl) 299 5 _ rfl) ⟨rfl, fun _ => rfl, fun _ => rfl, fun a q h1 => ?_, fun _ _ _ => rfl, fun _ _ _ => rfl⟩
    rw [gr_sr, if_neg (by rintro ⟨rfl, rfl⟩; exact h1 rfl rfl)]
  exact k _ hF (ev_of h (by omega) hF rfl rfl rfl rfl)
theorem p_next (h : Cl μ s T tn) {r : Nat} (hr : r < 2 ^ s 0) (k : ∀ ν, Fr xN μ ν → Cl ν s T tn → Q (nI (lateS s (Dx T (s 2)) r)) ν) : S_X2_next 306 (nI r) μ Q := by
  obtain ⟨hG, hW, -, -, t1, t2, t3⟩ := id h
  have w := wf_n hW
  have hq := p2_le w.1
  obtain ⟨kn, k1, k2, k3⟩ := t3 r (by omega)
  unfold S_X2_next
  by_cases hc : kn = tn
  · have k4 := k3 hc hr
    unfold B_X2_next_44
    simp (disch := first | omega | (simp only [Gp_si, Gp_sl, Gp_ci, Gp_cl]; assumption)) only [li_0, li_1, li_2, li_3, li_4, li_5, li_6, li_7, li_8, li_9, li_10, li_11, li_12, li_13, li_14, li_15, li_16, li_17, li_18, li_19, li_20, li_21, li_22, li_23, li_24, li_25, li_26, li_27, li_28, li_29, li_30, li_32, li_33, li_34, li_35, li_36, li_37, li_38, li_39, li_40, li_41, li_42, li_43, li_44, li_45, li_46, li_47, li_48, li_49, li_50, li_51, li_52, li_53, li_54, li_55, li_56, li_57, li_58, li_59, li_60, li_61, li_62, li_63, li_64, li_65, li_66, li_67, li_68, li_69, li_70, li_71, li_72, li_73, li_74, li_75, li_76, li_77, li_78, li_79, li_80, li_81, li_82, li_83, li_84, li_85, li_86, li_87, li_88, li_89, li_90, li_91, li_92, li_93, li_94, li_95, li_96, li_97, li_98, li_99, li_100, li_101, li_102, li_103, li_104, li_105, li_106, li_107, li_108, li_109, li_110, li_111, li_112, li_113, li_114, li_115, li_116, li_117, li_118, li_119, li_120, li_121, li_122, li_123, li_124, li_125, li_126, li_127, li_128, li_129, li_130, li_134, li_160, li_197, li_229, li_255, li_256, li_265, li_300, li_301, li_330, li_353, li_463, li_720, li_729, li_768, li_999, li_2610, li_2807, li_2867, li_2916, li_4096, li_9999, li_10000, li_30643, li_65535, li_99999, li_1000000, gi_si, gi_sl, gi_sr, gi_ci, gi_cl, gl_si, gl_sl, gl_sr, gl_ci, gl_cl, gr_si, gr_sl, gr_sr, gr_ci, gr_cl, ln_si, ln_sl, ln_sr, ln_ci, ln_cl, ok_si, ok_sl, ok_sr, ok_ci, ok_cl, gp_k hG, gp_l hG, gp_r hG, gp_m hG, Option.some.injEq, exists_eq_left', exists_eq_left, forall_eq, forall_eq', true_and, and_true, if_true, if_false, true_imp_iff, false_imp_iff, not_true_eq_false, not_false_eq_true, false_and, and_false, reduceIte, reduceCtorEq, forall_const, Nat.reduceEqDiff, Nat.reduceAdd, Nat.reduceMul, Nat.reduceSub, Nat.reduceLT, Nat.reduceLeDiff, Nat.reduceMod, Nat.reduceDiv, and_self, ne_eq, exists_const, Nat.add_sub_cancel, nI_add, pk_mul, pk_sub, q_rem, q_div, q_eq, q_le, q_lt, q_cl, q_in, q_m1, q_1m, q_neg, sh1n, bitn, q_mod2, q_neq0, bq_t, bq_f, bq_t2, bq_f2, i01, i10, q_tt, q_ff, ups_e, ups_n, fil_i, fil_o, zq_if, zq_0, zq_1, if_pos, if_neg, t2, k2, k4]
    exact k μ (fr_rf _ _) h
  · simp (disch := first | omega | (simp only [Gp_si, Gp_sl, Gp_ci, Gp_cl]; assumption)) only [li_0, li_1, li_2, li_3, li_4, li_5, li_6, li_7, li_8, li_9, li_10, li_11, li_12, li_13, li_14, li_15, li_16, li_17, li_18, li_19, li_20, li_21, li_22, li_23, li_24, li_25, li_26, li_27, li_28, li_29, li_30, li_32, li_33, li_34, li_35, li_36, li_37, li_38, li_39, li_40, li_41, li_42, li_43, li_44, li_45, li_46, li_47, li_48, li_49, li_50, li_51, li_52, li_53, li_54, li_55, li_56, li_57, li_58, li_59, li_60, li_61, li_62, li_63, li_64, li_65, li_66, li_67, li_68, li_69, li_70, li_71, li_72, li_73, li_74, li_75, li_76, li_77, li_78, li_79, li_80, li_81, li_82, li_83, li_84, li_85, li_86, li_87, li_88, li_89, li_90, li_91, li_92, li_93, li_94, li_95, li_96, li_97, li_98, li_99, li_100, li_101, li_102, li_103, li_104, li_105, li_106, li_107, li_108, li_109, li_110, li_111, li_112, li_113, li_114, li_115, li_116, li_117, li_118, li_119, li_120, li_121, li_122, li_123, li_124, li_125, li_126, li_127, li_128, li_129, li_130, li_134, li_160, li_197, li_229, li_255, li_256, li_265, li_300, li_301, li_330, li_353, li_463, li_720, li_729, li_768, li_999, li_2610, li_2807, li_2867, li_2916, li_4096, li_9999, li_10000, li_30643, li_65535, li_99999, li_1000000, gi_si, gi_sl, gi_sr, gi_ci, gi_cl, gl_si, gl_sl, gl_sr, gl_ci, gl_cl, gr_si, gr_sl, gr_sr, gr_ci, gr_cl, ln_si, ln_sl, ln_sr, ln_ci, ln_cl, ok_si, ok_sl, ok_sr, ok_ci, ok_cl, gp_k hG, gp_l hG, gp_r hG, gp_m hG, Option.some.injEq, exists_eq_left', exists_eq_left, forall_eq, forall_eq', true_and, and_true, if_true, if_false, true_imp_iff, false_imp_iff, not_true_eq_false, not_false_eq_true, false_and, and_false, reduceIte, reduceCtorEq, forall_const, Nat.reduceEqDiff, Nat.reduceAdd, Nat.reduceMul, Nat.reduceSub, Nat.reduceLT, Nat.reduceLeDiff, Nat.reduceMod, Nat.reduceDiv, and_self, ne_eq, exists_const, Nat.add_sub_cancel, nI_add, pk_mul, pk_sub, q_rem, q_div, q_eq, q_le, q_lt, q_cl, q_in, q_m1, q_1m, q_neg, sh1n, bitn, q_mod2, q_neq0, bq_t, bq_f, bq_t2, bq_f2, i01, i10, q_tt, q_ff, ups_e, ups_n, fil_i, fil_o, zq_if, zq_0, zq_1, if_pos, if_neg, t2, k2]
    refine p_asNow h (fun ν hF hE => ?_)
    have hH := hE.1
    have u2 := (hF.2.2.2.2.1 306 5 rfl).trans t2
    simp (disch := first | omega | (simp only [Gp_si, Gp_sl, Gp_ci, Gp_cl]; assumption)) only [li_0, li_1, li_2, li_3, li_4, li_5, li_6, li_7, li_8, li_9, li_10, li_11, li_12, li_13, li_14, li_15, li_16, li_17, li_18, li_19, li_20, li_21, li_22, li_23, li_24, li_25, li_26, li_27, li_28, li_29, li_30, li_32, li_33, li_34, li_35, li_36, li_37, li_38, li_39, li_40, li_41, li_42, li_43, li_44, li_45, li_46, li_47, li_48, li_49, li_50, li_51, li_52, li_53, li_54, li_55, li_56, li_57, li_58, li_59, li_60, li_61, li_62, li_63, li_64, li_65, li_66, li_67, li_68, li_69, li_70, li_71, li_72, li_73, li_74, li_75, li_76, li_77, li_78, li_79, li_80, li_81, li_82, li_83, li_84, li_85, li_86, li_87, li_88, li_89, li_90, li_91, li_92, li_93, li_94, li_95, li_96, li_97, li_98, li_99, li_100, li_101, li_102, li_103, li_104, li_105, li_106, li_107, li_108, li_109, li_110, li_111, li_112, li_113, li_114, li_115, li_116, li_117, li_118, li_119, li_120, li_121, li_122, li_123, li_124, li_125, li_126, li_127, li_128, li_129, li_130, li_134, li_160, li_197, li_229, li_255, li_256, li_265, li_300, li_301, li_330, li_353, li_463, li_720, li_729, li_768, li_999, li_2610, li_2807, li_2867, li_2916, li_4096, li_9999, li_10000, li_30643, li_65535, li_99999, li_1000000, gi_si, gi_sl, gi_sr, gi_ci, gi_cl, gl_si, gl_sl, gl_sr, gl_ci, gl_cl, gr_si, gr_sl, gr_sr, gr_ci, gr_cl, ln_si, ln_sl, ln_sr, ln_ci, ln_cl, ok_si, ok_sl, ok_sr, ok_ci, ok_cl, gp_k hH, gp_l hH, gp_r hH, gp_m hH, Option.some.injEq, exists_eq_left', exists_eq_left, forall_eq, forall_eq', true_and, and_true, if_true, if_false, true_imp_iff, false_imp_iff, not_true_eq_false, not_false_eq_true, false_and, and_false, reduceIte, reduceCtorEq, forall_const, Nat.reduceEqDiff, Nat.reduceAdd, Nat.reduceMul, Nat.reduceSub, Nat.reduceLT, Nat.reduceLeDiff, Nat.reduceMod, Nat.reduceDiv, and_self, ne_eq, exists_const, Nat.add_sub_cancel, nI_add, pk_mul, pk_sub, q_rem, q_div, q_eq, q_le, q_lt, q_cl, q_in, q_m1, q_1m, q_neg, sh1n, bitn, q_mod2, q_neq0, bq_t, bq_f, bq_t2, bq_f2, i01, i10, q_tt, q_ff, ups_e, ups_n, fil_i, fil_o, zq_if, zq_0, zq_1, if_pos, if_neg, u2]
    refine p_lateByC hE hr (fun ρ hF2 => ?_)
    have hF3 := fr_tr hF (fw_fr hF2)
    have hI := fr_gp hG hF3
    have v2 := (hF3.2.2.2.2.1 306 5 rfl).trans t2
    unfold B_X2_next_44
    simp (disch := first | omega | (simp only [Gp_si, Gp_sl, Gp_ci, Gp_cl]; assumption)) only [li_0, li_1, li_2, li_3, li_4, li_5, li_6, li_7, li_8, li_9, li_10, li_11, li_12, li_13, li_14, li_15, li_16, li_17, li_18, li_19, li_20, li_21, li_22, li_23, li_24, li_25, li_26, li_27, li_28, li_29, li_30, li_32, li_33, li_34, li_35, li_36, li_37, li_38, li_39, li_40, li_41, li_42, li_43, li_44, li_45, li_46, li_47, li_48, li_49, li_50, li_51, li_52, li_53, li_54, li_55, li_56, li_57, li_58, li_59, li_60, li_61, li_62, li_63, li_64, li_65, li_66, li_67, li_68, li_69, li_70, li_71, li_72, li_73, li_74, li_75, li_76, li_77, li_78, li_79, li_80, li_81, li_82, li_83, li_84, li_85, li_86, li_87, li_88, li_89, li_90, li_91, li_92, li_93, li_94, li_95, li_96, li_97, li_98, li_99, li_100, li_101, li_102, li_103, li_104, li_105, li_106, li_107, li_108, li_109, li_110, li_111, li_112, li_113, li_114, li_115, li_116, li_117, li_118, li_119, li_120, li_121, li_122, li_123, li_124, li_125, li_126, li_127, li_128, li_129, li_130, li_134, li_160, li_197, li_229, li_255, li_256, li_265, li_300, li_301, li_330, li_353, li_463, li_720, li_729, li_768, li_999, li_2610, li_2807, li_2867, li_2916, li_4096, li_9999, li_10000, li_30643, li_65535, li_99999, li_1000000, gi_si, gi_sl, gi_sr, gi_ci, gi_cl, gl_si, gl_sl, gl_sr, gl_ci, gl_cl, gr_si, gr_sl, gr_sr, gr_ci, gr_cl, ln_si, ln_sl, ln_sr, ln_ci, ln_cl, ok_si, ok_sl, ok_sr, ok_ci, ok_cl, gp_k hI, gp_l hI, gp_r hI, gp_m hI, Option.some.injEq, exists_eq_left', exists_eq_left, forall_eq, forall_eq', true_and, and_true, if_true, if_false, true_imp_iff, false_imp_iff, not_true_eq_false, not_false_eq_true, false_and, and_false, reduceIte, reduceCtorEq, forall_const, Nat.reduceEqDiff, Nat.reduceAdd, Nat.reduceMul, Nat.reduceSub, Nat.reduceLT, Nat.reduceLeDiff, Nat.reduceMod, Nat.reduceDiv, and_self, ne_eq, exists_const, Nat.add_sub_cancel, nI_add, pk_mul, pk_sub, q_rem, q_div, q_eq, q_le, q_lt, q_cl, q_in, q_m1, q_1m, q_neg, sh1n, bitn, q_mod2, q_neq0, bq_t, bq_f, bq_t2, bq_f2, i01, i10, q_tt, q_ff, ups_e, ups_n, fil_i, fil_o, zq_if, zq_0, zq_1, if_pos, if_neg, v2]
    have hFN : Fr xN μ (msi (msi ρ 307 r (nI (lateS s (Dx T (s 2)) r))) 308 r (nI tn)) := fr_si (fr_si (fr_mo hF3 xE_N) 307 _ _ rfl) 308 _ _ rfl
    refine k _ hFN ?_
    have hC := cl_fe h hF3
    refine ⟨by exact hI, hW, TownR_x hC.2.2.1 (fun a q _ _ => by rw [gi_si, if_neg (by omega), gi_si, if_neg (by omega)]) (fun a q _ _ => rfl), fun i hi => TxC_x (by omega) (hC.2.2.2.1 i hi) (fun a q _ _ => by rw [gi_si, if_neg (by omega), gi_si, if_neg (by omega)]), t1, ?_, fun j hj => ?_⟩
    · rw [gi_si, if_neg (by omega), gi_si, if_neg (by omega)]
      exact v2
    · by_cases hjr : j = r
      · subst hjr
        refine ⟨tn, Nat.le_refl _, by rw [gi_si, if_pos ⟨rfl, rfl⟩], fun _ _ => ?_⟩
        rw [gi_si, if_neg (by omega), gi_si, if_pos ⟨rfl, rfl⟩]
      · obtain ⟨kj, a1, a2, a3⟩ := t3 j hj
        refine ⟨kj, a1, ?_, fun x y => ?_⟩
        · rw [gi_si, if_neg (by omega), gi_si, if_neg (by omega), hF3.2.2.2.2.1 308 j rfl]
          exact a2
        · rw [gi_si, if_neg (by omega), gi_si, if_neg (by omega), hF3.2.2.2.2.1 307 j rfl]
          exact a3 x y
/-- all is forgotten: the cache speaks for any town -/
def Cn (μ : Me) (tn : Nat) : Prop := tn < 1000000 ∧ mgi μ 306 5 = nI tn ∧ ∀ r, r < 256 → ∃ kn, kn < tn ∧ mgi μ 308 r = nI kn
theorem cn_ca (h : Cn μ tn) (n : Nat) (F : Nat → Nat) : Ca μ tn n F := by
  obtain ⟨h1, h2, h3⟩ := h
  refine ⟨h1, h2, fun r hr => ?_⟩
  obtain ⟨kn, a1, a2⟩ := h3 r hr
  exact ⟨kn, by omega, a2, fun x => absurd x (by omega)⟩
end CL
