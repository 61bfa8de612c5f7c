/-! the class: a day passes at a moment -/
/-- the class without what was worked out -/
def Tw (μ : Me) (s : Nat → Nat) (T : Nat → Tx) : Prop := Gp μ ∧ WF s ∧ TownR μ 1 s ∧ ∀ i, i < s 1 → TxC μ i (T i)
theorem tw_cl {μ : Me} {s : Nat → Nat} {T : Nat → Tx} {tn : Nat} (h : Cl μ s T tn) : Tw μ s T := ⟨h.1, h.2.1, h.2.2.1, h.2.2.2.1⟩
theorem Tw_x {μ ν : Me} {s : Nat → Nat} {T : Nat → Tx} (h : Tw μ s T) (hG : Gp ν) (e : ∀ a q, a < 290 → mgi ν a q = mgi μ a q) (el : ∀ a q, a < 290 → mgl ν a q = mgl μ a q) : Tw ν s T := by
  obtain ⟨-, h2, h3, h4⟩ := h
  have w := wf_n h2
  exact ⟨hG, h2, TownR_x h3 (fun a q _ _ => e a q (by omega)) (fun a q _ _ => el a q (by omega)), fun i hi => TxC_x (by omega) (h4 i hi) (fun a q _ _ => e a q (by omega))⟩
theorem tw_fe {μ ν : Me} {s : Nat → Nat} {T : Nat → Tx} (h : Tw μ s T) (k : Fr xE μ ν) : Tw ν s T := Tw_x h (fr_gp h.1 k) (fun a q _ => k.2.2.2.2.1 a q (xE_x (by omega) (by omega))) (fun a q _ => k.2.2.2.2.2 a q (xE_x (by omega) (by omega)))
def xP (m a : Nat) : Bool := decide (m ≤ a ∧ a < m + 4) || a == 299 || a == 300
theorem xP_m {m a : Nat} (h : m ≤ a ∧ a < m + 4) : xP m a = true := by
  unfold xP
  rw [decide_eq_true h]
  rfl
theorem xP_o {m a : Nat} (h1 : a < m ∨ m + 4 ≤ a) (h2 : a ≠ 299) (h3 : a ≠ 300) : xP m a = false := by
  unfold xP
  rw [decide_eq_false (by omega), beq_false_of_ne h2, beq_false_of_ne h3]
  rfl
theorem xP_x {m a : Nat} (h : xP m a = false) : (a < m ∨ m + 4 ≤ a) ∧ a ≠ 299 ∧ a ≠ 300 := by
  unfold xP at h
  simp at h
  omega
theorem fr_ep {μ ν : Me} (m : Nat) (h : Fr xE μ ν) : Fr (xP m) μ ν := fr_mo h (fun a x => xE_x (xP_x x).2.1 (xP_x x).2.2)
theorem fr_mp {μ ν : Me} {m : Nat} (h : Fmo μ ν m) : Fr (xP m) μ ν := ⟨h.1, h.2.1, h.2.2.1, fun a q _ => h.2.2.2.1 a q, fun a q x => h.2.2.2.2.1 a q (by have := (xP_x x).1; omega), fun a q x => h.2.2.2.2.2 a q (by have := (xP_x x).1; omega)⟩
section CP
variable {μ : Me} {s s1 : Nat → Nat} {T : Nat → Tx} {tn : Nat} {Q : Int32 → Me → Prop}
theorem p_asIn (h : Tw μ s T) {m : Nat} (hm : m < 328) (hm2 : m ≠ 299) (hk : kdF m = 3) (hW1 : WF s1) (e0 : s1 0 = s 0) (ep : ∀ p, p < s 0 → s1 (14 + 7 * p) = s (14 + 7 * p) ∧ s1 (15 + 7 * p) = s (15 + 7 * p) ∧ s1 (16 + 7 * p) = s (16 + 7 * p) ∧ s1 (11 + 7 * p) = s (11 + 7 * p)) (eh : ∀ p, p < 8 → s1 (67 + p) = s (67 + p)) (f3 : mgi μ m 3 = nI (s1 6)) (f2 : mgi μ m 2 = nI (s1 8)) (f1 : mgi μ m 1 = nI (setS (fun p => s1 (12 + 7 * p) == 1) (s1 0))) {Q : Me → Prop} (k : ∀ ν, Fr xE μ ν → Ev ν s1 T (s 2) → Q ν) : S_X4_asIn 299 m μ Q := by
  have hG := h.1
  have hok := gp_ok hG hm hk
  have w := wf_n h.2.1
  have b3 : mgi μ 1 7 = nI (s 2) - nI 1 := h.2.2.1.1.2.2.1
  unfold S_X4_asIn
  simp (disch := first | omega | (simp only [Gp_si, Gp_sl, Gp_ci, Gp_cl]; assumption)) only [li_0, li_1, li_2, li_3, li_4, li_5, li_6, li_7, li_8, li_9, li_10, li_11, li_12, li_13, li_14, li_15, li_16, li_17, li_18, li_19, li_20, li_21, li_22, li_23, li_24, li_25, li_26, li_27, li_28, li_29, li_30, li_32, li_33, li_34, li_35, li_36, li_37, li_38, li_39, li_40, li_41, li_42, li_43, li_44, li_45, li_46, li_47, li_48, li_49, li_50, li_51, li_52, li_53, li_54, li_55, li_56, li_57, li_58, li_59, li_60, li_61, li_62, li_63, li_64, li_65, li_66, li_67, li_68, li_69, li_70, li_71, li_72, li_73, li_74, li_75, li_76, li_77, li_78, li_79, li_80, li_81, li_82, li_83, li_84, li_85, li_86, li_87, li_88, li_89, li_90, li_91, li_92, li_93, li_94, li_95, li_96, li_97, li_98, li_99, li_100, li_101, li_102, li_103, li_104, li_105, li_106, li_107, li_108, li_109, li_110, li_111, li_112, li_113, li_114, li_115, li_116, li_117, li_118, li_119, li_120, li_121, li_122, li_123, li_124, li_125, li_126, li_127, li_128, li_129, li_130, li_134, li_160, li_197, li_229, li_255, li_256, li_265, li_300, li_301, li_330, li_353, li_463, li_720, li_729, li_768, li_999, li_2610, li_2807, li_2867, li_2916, li_4096, li_9999, li_10000, li_30643, li_65535, li_99999, li_1000000, gi_si, gi_sl, gi_sr, gi_ci, gi_cl, gl_si, gl_sl, gl_sr, gl_ci, gl_cl, gr_si, gr_sl, gr_sr, gr_ci, gr_cl, ln_si, ln_sl, ln_sr, ln_ci, ln_cl, ok_si, ok_sl, ok_sr, ok_ci, ok_cl, gp_k hG, gp_l hG, gp_r hG, gp_m hG, Option.some.injEq, exists_eq_left', exists_eq_left, forall_eq, forall_eq', true_and, and_true, if_true, if_false, true_imp_iff, false_imp_iff, not_true_eq_false, not_false_eq_true, false_and, and_false, reduceIte, reduceCtorEq, forall_const, Nat.reduceEqDiff, Nat.reduceAdd, Nat.reduceMul, Nat.reduceSub, Nat.reduceLT, Nat.reduceLeDiff, Nat.reduceMod, Nat.reduceDiv, and_self, ne_eq, exists_const, Nat.add_sub_cancel, nI_add, pk_mul, pk_sub, q_rem, q_div, q_eq, q_le, q_lt, q_cl, q_in, q_m1, q_1m, q_neg, sh1n, bitn, q_mod2, q_neq0, bq_t, bq_f, bq_t2, bq_f2, i01, i10, q_tt, q_ff, ups_e, ups_n, fil_i, fil_o, zq_if, zq_0, zq_1, if_pos, if_neg, hok, b3, f1, f2, f3]
  rw [e_textOf (by exact hG) (by omega)]
  have hF : Fr xE μ (msr (msi (msi (msi μ 299 3 (nI (s1 6))) 299 4 (nI (s1 8))) 299 5 (nI (setS (fun p => s1 (12 + 7 * p) == 1) (s1 0)))) 299 6 (if s 2 = 0 then none else some (270 + 4 * s 2))) := by
    refine fr_tr (fr_si (fr_si (fr_si (fr_rf xE μ) 299 3 _ rfl) 299 4 _ rfl) 299 5 _ rfl) ⟨rfl, fun _ => rfl, fun _ => rfl, fun a q h1 => ?_, fun _ _ _ => rfl, fun _ _ _ => rfl⟩
    rw [gr_sr, if_neg (by rintro ⟨rfl, rfl⟩; exact h1 rfl rfl)]
  obtain ⟨hH, -, ⟨⟨d1, d2, d3, d4, d5, d6, d7, d8, d9, d10, d11⟩, ⟨c1, c2, c3, c4, c5, c6, c7, c8, c9⟩, -⟩, hT⟩ := tw_fe h hF
  refine k _ hF ⟨hH, hW1, by omega, d1.trans (by rw [e0]), fun p hp => ?_, fun r hr => ?_, rfl, rfl, rfl, rfl, fun hz => (hT (s 2 - 1) (by omega)).1⟩
  · rw [e0] at hp
    obtain ⟨x1, x2, x3, x4⟩ := ep p hp
    obtain ⟨y1, y2, y3⟩ := d7 p hp
    rw [x1, x2, x3, x4, eh p (by omega)]
    exact ⟨y1, y2, y3, c7 p hp, d9 p (by omega)⟩
  · rw [d8 r hr, e0]
    congr 1
    exact setS_cong (fun p hp => by rw [(ep p hp).1])
/-- one day passes at moment m -/
theorem p_passOne {m : Nat} (hG : Gp μ) (hm : m < 328) (hk : kdF m = 3) (hm2 : m + 4 ≤ 299 ∨ 301 ≤ m) (hW1 : WF s1) (hd : s1 6 < 9999) (h : Tw (msi (msi μ m 2 (nI (s1 9 % 10))) m 4 (nI ((s1 9 * 463 + 353) % 30643))) s T) (e0 : s1 0 = s 0) (e2 : s1 2 = s 2) (ep : ∀ p, p < s 0 → s1 (14 + 7 * p) = s (14 + 7 * p) ∧ s1 (15 + 7 * p) = s (15 + 7 * p) ∧ s1 (16 + 7 * p) = s (16 + 7 * p) ∧ s1 (11 + 7 * p) = s (11 + 7 * p)) (eh : ∀ p, p < 8 → s1 (67 + p) = s (67 + p)) (f0 : mgi μ m 0 = nI (s1 7)) (f1 : mgi μ m 1 = nI (setS (fun p => s1 (12 + 7 * p) == 1) (s1 0))) (f3 : mgi μ m 3 = nI (s1 6)) (f4 : mgi μ m 4 = nI (s1 9)) {pg : Nat} (f8 : mgi μ m 8 = nI pg) (hpg : pg ≤ 30) {lt : Nat → Nat} (hl : ∀ p, p < 8 → mgi μ (m + 2) p = nI (lt p) ∧ lt p < 1000000) (k : ∀ ν, Fr (xP m) μ ν → mgi ν m 0 = nI (laS s1 T) → mgi ν m 1 = nI (setS (fun p => s1 (12 + 7 * p) == 1) (s1 0)) → mgi ν m 2 = nI (s1 9 % 10) → mgi ν m 3 = nI (s1 6 + 1) → mgi ν m 4 = nI ((s1 9 * 463 + 353) % 30643) → mgi ν m 8 = nI (if pg < 30 then pg + 1 else 30) → (∀ q, mgi ν (m + 1) q = mgi μ (m + 1) q) → (∀ p, p < 8 → mgi ν (m + 2) p = nI (lt p + bitS (laS s1 T) p)) → (∀ i, i < 30 → mgl ν (m + 3) i = if pg < 30 then (if i = pg then pageL (s1 6 * 16 + s1 9 % 10) (s1 7 * 256 + laS s1 T) else mgl μ (m + 3) i) else (if i = 29 then pageL (s1 6 * 16 + s1 9 % 10) (s1 7 * 256 + laS s1 T) else mgl μ (m + 3) (i + 1))) → Q (nI (pcn (laS s1 T))) ν) : S_X1_passOne 301 m μ Q := by
  obtain ⟨a1, a2, a3, a4, a5, a6, a7, a8, a9, a10⟩ := mom_g hG hm hk
  obtain ⟨-, -, -, -, -, -, hm3⟩ := mom_kd m hm hk
  have w := wf_n hW1
  have hq := p2_8 w.1
  have la := la_lt s1 T
  unfold S_X1_passOne S_X3_stir
  simp (disch := first | omega | (simp only [Gp_si, Gp_sl, Gp_ci, Gp_cl]; assumption)) only [li_0, li_1, li_2, li_3, li_4, li_5, li_6, li_7, li_8, li_9, li_10, li_11, li_12, li_13, li_14, li_15, li_16, li_17, li_18, li_19, li_20, li_21, li_22, li_23, li_24, li_25, li_26, li_27, li_28, li_29, li_30, li_32, li_33, li_34, li_35, li_36, li_37, li_38, li_39, li_40, li_41, li_42, li_43, li_44, li_45, li_46, li_47, li_48, li_49, li_50, li_51, li_52, li_53, li_54, li_55, li_56, li_57, li_58, li_59, li_60, li_61, li_62, li_63, li_64, li_65, li_66, li_67, li_68, li_69, li_70, li_71, li_72, li_73, li_74, li_75, li_76, li_77, li_78, li_79, li_80, li_81, li_82, li_83, li_84, li_85, li_86, li_87, li_88, li_89, li_90, li_91, li_92, li_93, li_94, li_95, li_96, li_97, li_98, li_99, li_100, li_101, li_102, li_103, li_104, li_105, li_106, li_107, li_108, li_109, li_110, li_111, li_112, li_113, li_114, li_115, li_116, li_117, li_118, li_119, li_120, li_121, li_122, li_123, li_124, li_125, li_126, li_127, li_128, li_129, li_130, li_134, li_160, li_197, li_229, li_255, li_256, li_265, li_300, li_301, li_330, li_353, li_463, li_720, li_729, li_768, li_999, li_2610, li_2807, li_2867, li_2916, li_4096, li_9999, li_10000, li_30643, li_65535, li_99999, li_1000000, gi_si, gi_sl, gi_sr, gi_ci, gi_cl, gl_si, gl_sl, gl_sr, gl_ci, gl_cl, gr_si, gr_sl, gr_sr, gr_ci, gr_cl, ln_si, ln_sl, ln_sr, ln_ci, ln_cl, ok_si, ok_sl, ok_sr, ok_ci, ok_cl, gp_k hG, gp_l hG, gp_r hG, gp_m hG, Option.some.injEq, exists_eq_left', exists_eq_left, forall_eq, forall_eq', true_and, and_true, if_true, if_false, true_imp_iff, false_imp_iff, not_true_eq_false, not_false_eq_true, false_and, and_false, reduceIte, reduceCtorEq, forall_const, Nat.reduceEqDiff, Nat.reduceAdd, Nat.reduceMul, Nat.reduceSub, Nat.reduceLT, Nat.reduceLeDiff, Nat.reduceMod, Nat.reduceDiv, and_self, ne_eq, exists_const, Nat.add_sub_cancel, nI_add, pk_mul, pk_sub, q_rem, q_div, q_eq, q_le, q_lt, q_cl, q_in, q_m1, q_1m, q_neg, sh1n, bitn, q_mod2, q_neq0, bq_t, bq_f, bq_t2, bq_f2, i01, i10, q_tt, q_ff, ups_e, ups_n, fil_i, fil_o, zq_if, zq_0, zq_1, if_pos, if_neg, a1, f4, md]
  have g0 : ∀ q, q ≠ 2 → q ≠ 4 → mgi (msi (msi μ m 2 (nI (s1 9 % 10))) m 4 (nI ((s1 9 * 463 + 353) % 30643))) m q = mgi μ m q := fun q h1 h2 => by
    rw [gi_si, if_neg (by omega), gi_si, if_neg (by omega)]
  refine p_asIn (s1 := stS s1) h hm (by omega) hk (wf_st hW1) e0 (fun p hp => ?_) (fun p hp => ?_) ?_ ?_ ?_ (fun ν hF hE => ?_)
  · have e : ∀ j, 10 ≤ j → stS s1 j = s1 j := fun j hj => by
      unfold stS
      rw [ups_n (by omega), ups_n (by omega)]
    rw [e _ (by omega), e _ (by omega), e _ (by omega), e _ (by omega)]
    exact ep p hp
  · unfold stS
    rw [ups_n (by omega), ups_n (by omega)]
    exact eh p hp
  · rw [g0 3 (by decide) (by decide), f3]
    rfl
  · rw [gi_si, if_neg (by omega), gi_si, if_pos ⟨rfl, rfl⟩]
    rfl
  · rw [g0 1 (by decide) (by decide), f1]
    congr 1
    show _ = setS _ (s1 0)
    exact setS_cong (fun p _ => by
      unfold stS
      rw [ups_n (by omega), ups_n (by omega)])
  have hH := hE.1
  have xe : ∀ a q, a ≠ 299 → a ≠ 300 → mgi ν a q = mgi (msi (msi μ m 2 (nI (s1 9 % 10))) m 4 (nI ((s1 9 * 463 + 353) % 30643))) a q := fun a q h1 h2 => hF.2.2.2.2.1 a q (xE_x h1 h2)
  have v0 : mgi ν m 0 = nI (s1 7) := (xe m 0 (by omega) (by omega)).trans ((g0 0 (by decide) (by decide)).trans f0)
  simp (disch := first | omega | (simp only [Gp_si, Gp_sl, Gp_ci, Gp_cl]; assumption)) only [li_0, li_1, li_2, li_3, li_4, li_5, li_6, li_7, li_8, li_9, li_10, li_11, li_12, li_13, li_14, li_15, li_16, li_17, li_18, li_19, li_20, li_21, li_22, li_23, li_24, li_25, li_26, li_27, li_28, li_29, li_30, li_32, li_33, li_34, li_35, li_36, li_37, li_38, li_39, li_40, li_41, li_42, li_43, li_44, li_45, li_46, li_47, li_48, li_49, li_50, li_51, li_52, li_53, li_54, li_55, li_56, li_57, li_58, li_59, li_60, li_61, li_62, li_63, li_64, li_65, li_66, li_67, li_68, li_69, li_70, li_71, li_72, li_73, li_74, li_75, li_76, li_77, li_78, li_79, li_80, li_81, li_82, li_83, li_84, li_85, li_86, li_87, li_88, li_89, li_90, li_91, li_92, li_93, li_94, li_95, li_96, li_97, li_98, li_99, li_100, li_101, li_102, li_103, li_104, li_105, li_106, li_107, li_108, li_109, li_110, li_111, li_112, li_113, li_114, li_115, li_116, li_117, li_118, li_119, li_120, li_121, li_122, li_123, li_124, li_125, li_126, li_127, li_128, li_129, li_130, li_134, li_160, li_197, li_229, li_255, li_256, li_265, li_300, li_301, li_330, li_353, li_463, li_720, li_729, li_768, li_999, li_2610, li_2807, li_2867, li_2916, li_4096, li_9999, li_10000, li_30643, li_65535, li_99999, li_1000000, gi_si, gi_sl, gi_sr, gi_ci, gi_cl, gl_si, gl_sl, gl_sr, gl_ci, gl_cl, gr_si, gr_sl, gr_sr, gr_ci, gr_cl, ln_si, ln_sl, ln_sr, ln_ci, ln_cl, ok_si, ok_sl, ok_sr, ok_ci, ok_cl, gp_k hH, gp_l hH, gp_r hH, gp_m hH, Option.some.injEq, exists_eq_left', exists_eq_left, forall_eq, forall_eq', true_and, and_true, if_true, if_false, true_imp_iff, false_imp_iff, not_true_eq_false, not_false_eq_true, false_and, and_false, reduceIte, reduceCtorEq, forall_const, Nat.reduceEqDiff, Nat.reduceAdd, Nat.reduceMul, Nat.reduceSub, Nat.reduceLT, Nat.reduceLeDiff, Nat.reduceMod, Nat.reduceDiv, and_self, ne_eq, exists_const, Nat.add_sub_cancel, nI_add, pk_mul, pk_sub, q_rem, q_div, q_eq, q_le, q_lt, q_cl, q_in, q_m1, q_1m, q_neg, sh1n, bitn, q_mod2, q_neq0, bq_t, bq_f, bq_t2, bq_f2, i01, i10, q_tt, q_ff, ups_e, ups_n, fil_i, fil_o, zq_if, zq_0, zq_1, if_pos, if_neg, v0]
  refine p_lateByC hE (show s1 7 < 2 ^ s1 0 from w.2.2.2.2.2.2.2.1) (fun ρ hF2 => ?_)
  have ela : lateS (stS s1) (Dx T (s 2)) (s1 7) = laS s1 T := by
    unfold laS
    rw [e2]
  rw [ela]
  have hF3 := fr_tr hF (fw_fr hF2)
  have ye : ∀ a q, a ≠ 299 → a ≠ 300 → mgi ρ a q = mgi (msi (msi μ m 2 (nI (s1 9 % 10))) m 4 (nI ((s1 9 * 463 + 353) % 30643))) a q := fun a q h1 h2 => hF3.2.2.2.2.1 a q (xE_x h1 h2)
  have yl : ∀ q, mgl ρ (m + 3) q = mgl μ (m + 3) q := fun q => hF3.2.2.2.2.2 (m + 3) q (xE_x (by omega) (by omega))
  have hI := fr_gp (show Gp (msi (msi μ m 2 (nI (s1 9 % 10))) m 4 (nI ((s1 9 * 463 + 353) % 30643))) from hG) hF3
  refine p_endDay hI hm hk (dy := s1 6) (rg := s1 7) (we := s1 9 % 10) (pg := pg) (lt := lt) ?_ ?_ ?_ ?_ (fun p hp => ⟨?_, (hl p hp).2⟩) (by omega) (by omega) (by omega) (by omega) hpg (fun ν2 hFm k0 k1 k2 k3 k4 k8 kd kl kb => ?_)
  · exact (ye m 0 (by omega) (by omega)).trans ((g0 0 (by decide) (by decide)).trans f0)
  · rw [ye m 2 (by omega) (by omega), gi_si, if_neg (by omega), gi_si, if_pos ⟨rfl, rfl⟩]
  · exact (ye m 3 (by omega) (by omega)).trans ((g0 3 (by decide) (by decide)).trans f3)
  · exact (ye m 8 (by omega) (by omega)).trans ((g0 8 (by decide) (by decide)).trans f8)
  · rw [ye (m + 2) p (by omega) (by omega), gi_si, if_neg (by omega), gi_si, if_neg (by omega)]
    exact (hl p hp).1
  simp (disch := first | omega | (simp only [Gp_si, Gp_sl, Gp_ci, Gp_cl]; assumption)) only [li_0, li_1, li_2, li_3, li_4, li_5, li_6, li_7, li_8, li_9, li_10, li_11, li_12, li_13, li_14, li_15, li_16, li_17, li_18, li_19, li_20, li_21, li_22, li_23, li_24, li_25, li_26, li_27, li_28, li_29, li_30, li_32, li_33, li_34, li_35, li_36, li_37, li_38, li_39, li_40, li_41, li_42, li_43, li_44, li_45, li_46, li_47, li_48, li_49, li_50, li_51, li_52, li_53, li_54, li_55, li_56, li_57, li_58, li_59, li_60, li_61, li_62, li_63, li_64, li_65, li_66, li_67, li_68, li_69, li_70, li_71, li_72, li_73, li_74, li_75, li_76, li_77, li_78, li_79, li_80, li_81, li_82, li_83, li_84, li_85, li_86, li_87, li_88, li_89, li_90, li_91, li_92, li_93, li_94, li_95, li_96, li_97, li_98, li_99, li_100, li_101, li_102, li_103, li_104, li_105, li_106, li_107, li_108, li_109, li_110, li_111, li_112, li_113, li_114, li_115, li_116, li_117, li_118, li_119, li_120, li_121, li_122, li_123, li_124, li_125, li_126, li_127, li_128, li_129, li_130, li_134, li_160, li_197, li_229, li_255, li_256, li_265, li_300, li_301, li_330, li_353, li_463, li_720, li_729, li_768, li_999, li_2610, li_2807, li_2867, li_2916, li_4096, li_9999, li_10000, li_30643, li_65535, li_99999, li_1000000, gi_si, gi_sl, gi_sr, gi_ci, gi_cl, gl_si, gl_sl, gl_sr, gl_ci, gl_cl, gr_si, gr_sl, gr_sr, gr_ci, gr_cl, ln_si, ln_sl, ln_sr, ln_ci, ln_cl, ok_si, ok_sl, ok_sr, ok_ci, ok_cl, Option.some.injEq, exists_eq_left', exists_eq_left, forall_eq, forall_eq', true_and, and_true, if_true, if_false, true_imp_iff, false_imp_iff, not_true_eq_false, not_false_eq_true, false_and, and_false, reduceIte, reduceCtorEq, forall_const, Nat.reduceEqDiff, Nat.reduceAdd, Nat.reduceMul, Nat.reduceSub, Nat.reduceLT, Nat.reduceLeDiff, Nat.reduceMod, Nat.reduceDiv, and_self, ne_eq, exists_const, Nat.add_sub_cancel, nI_add, pk_mul, pk_sub, q_rem, q_div, q_eq, q_le, q_lt, q_cl, q_in, q_m1, q_1m, q_neg, sh1n, bitn, q_mod2, q_neq0, bq_t, bq_f, bq_t2, bq_f2, i01, i10, q_tt, q_ff, ups_e, ups_n, fil_i, fil_o, zq_if, zq_0, zq_1, if_pos, if_neg, e_bitCount]
  have hF4 : Fr (xP m) μ (msi (msi μ m 2 (nI (s1 9 % 10))) m 4 (nI ((s1 9 * 463 + 353) % 30643))) := fr_si (fr_si (fr_rf _ μ) m 2 _ (xP_m (by omega))) m 4 _ (xP_m (by omega))
  refine k ν2 (fr_tr hF4 (fr_tr (fr_ep m hF3) (fr_mp hFm))) k0 ?_ k2 k3 ?_ k8 (fun q => ?_) kl (fun i hi => ?_)
  · rw [k1]
    exact (ye m 1 (by omega) (by omega)).trans ((g0 1 (by decide) (by decide)).trans f1)
  · rw [k4, ye m 4 (by omega) (by omega), gi_si, if_pos ⟨rfl, rfl⟩]
  · rw [kd q, ye (m + 1) q (by omega) (by omega), gi_si, if_neg (by omega), gi_si, if_neg (by omega)]
  · rw [kb i hi, yl, yl]
end CP
