/-! a text read: both sides -/
theorem tx_p {μ : Me} {b : Nat → Nat} {L : Nat} (h : Tp μ L b) : TpM μ b L := ⟨h.1, h.2.2.1, fun k hk => ⟨(h.2.2.2 k hk).1, (h.2.2.2 k hk).2.2⟩⟩
theorem z_text {μ : Me} {c : Nat} {P : Int32 → Me → Prop} (h : Top μ c) (hc : c ≤ 600) (k : ∀ r ν, Gp ν → (∀ {Q : Int32 → Me → Prop}, (∀ ρ, Top ρ (c + 1) → Q r ρ) → S_X11_text 314 ν Q) → P r ν) : S_X10_text 0 μ P := by
  obtain ⟨s, si, T, tn, L, b, hC, hM, hR, ht⟩ := id h
  have hG := hC.1
  have wn := wf_n hC.2.1
  have h6 : mgi μ 1 6 = nI (s 1) := hC.2.2.1.1.2.1
  have h1 : mgi μ 315 1 = nI (s 1) := hM.2.1.1 1 (by omega) (by omega)
  have rr : ∀ ν : Me, Gp ν → mgr ν 0 0 = some 1 ∧ mgr ν 0 2 = some 271 ∧ mgr ν 0 3 = some 273 ∧ mgr ν 0 4 = some 290 ∧ mok ν 0 10 ∧ mok ν 1 9 ∧ mok ν 290 5 ∧ mok ν 271 6 := fun ν hH => by
    refine ⟨?_, ?_, ?_, ?_, gp_ok hH (by decide) (by decide), gp_ok hH (by decide) (by decide), gp_ok hH (by decide) (by decide), gp_ok hH (by decide) (by decide)⟩
    · simp (disch := first | omega | (simp only [Gp_si, Gp_sl, Gp_ci, Gp_cl]; assumption)) only [li_0, li_1, li_2, li_3, li_4, li_5, li_6, li_7, li_8, li_9, li_10, li_11, li_12, li_13, li_14, li_15, li_16, li_17, li_18, li_19, li_20, li_21, li_22, li_23, li_24, li_25, li_26, li_27, li_28, li_29, li_30, li_32, li_33, li_34, li_35, li_36, li_37, li_38, li_39, li_40, li_41, li_42, li_43, li_44, li_45, li_46, li_47, li_48, li_49, li_50, li_51, li_52, li_53, li_54, li_55, li_56, li_57, li_58, li_59, li_60, li_61, li_62, li_63, li_64, li_65, li_66, li_67, li_68, li_69, li_70, li_71, li_72, li_73, li_74, li_75, li_76, li_77, li_78, li_79, li_80, li_81, li_82, li_83, li_84, li_85, li_86, li_87, li_88, li_89, li_90, li_91, li_92, li_93, li_94, li_95, li_96, li_97, li_98, li_99, li_100, li_101, li_102, li_103, li_104, li_105, li_106, li_107, li_108, li_109, li_110, li_111, li_112, li_113, li_114, li_115, li_116, li_117, li_118, li_119, li_120, li_121, li_122, li_123, li_124, li_125, li_126, li_127, li_128, li_129, li_130, li_134, li_160, li_197, li_229, li_255, li_256, li_265, li_300, li_301, li_330, li_353, li_463, li_720, li_729, li_768, li_999, li_2610, li_2807, li_2867, li_2916, li_4096, li_9999, li_10000, li_30643, li_65535, li_99999, li_1000000, gi_si, gi_sl, gi_sr, gi_ci, gi_cl, gl_si, gl_sl, gl_sr, gl_ci, gl_cl, gr_si, gr_sl, gr_sr, gr_ci, gr_cl, ln_si, ln_sl, ln_sr, ln_ci, ln_cl, ok_si, ok_sl, ok_sr, ok_ci, ok_cl, gp_k hH, gp_l hH, gp_r hH, gp_m hH, Option.some.injEq, exists_eq_left', exists_eq_left, forall_eq, forall_eq', true_and, and_true, if_true, if_false, true_imp_iff, false_imp_iff, not_true_eq_false, not_false_eq_true, false_and, and_false, reduceIte, reduceCtorEq, forall_const, Nat.reduceEqDiff, Nat.reduceAdd, Nat.reduceMul, Nat.reduceSub, Nat.reduceLT, Nat.reduceLeDiff, Nat.reduceMod, Nat.reduceDiv, and_self, ne_eq, exists_const, Nat.add_sub_cancel, nI_add, pk_mul, pk_sub, q_rem, q_div, q_eq, q_le, q_lt, q_cl, q_in, q_m1, q_1m, q_neg, sh1n, bitn, q_mod2, q_neq0, bq_t, bq_f, bq_t2, bq_f2, i01, i10, q_tt, q_ff, ups_e, ups_n, fil_i, fil_o, zq_if, zq_0, zq_1, if_pos, if_neg]
    · simp (disch := first | omega | (simp only [Gp_si, Gp_sl, Gp_ci, Gp_cl]; assumption)) only [li_0, li_1, li_2, li_3, li_4, li_5, li_6, li_7, li_8, li_9, li_10, li_11, li_12, li_13, li_14, li_15, li_16, li_17, li_18, li_19, li_20, li_21, li_22, li_23, li_24, li_25, li_26, li_27, li_28, li_29, li_30, li_32, li_33, li_34, li_35, li_36, li_37, li_38, li_39, li_40, li_41, li_42, li_43, li_44, li_45, li_46, li_47, li_48, li_49, li_50, li_51, li_52, li_53, li_54, li_55, li_56, li_57, li_58, li_59, li_60, li_61, li_62, li_63, li_64, li_65, li_66, li_67, li_68, li_69, li_70, li_71, li_72, li_73, li_74, li_75, li_76, li_77, li_78, li_79, li_80, li_81, li_82, li_83, li_84, li_85, li_86, li_87, li_88, li_89, li_90, li_91, li_92, li_93, li_94, li_95, li_96, li_97, li_98, li_99, li_100, li_101, li_102, li_103, li_104, li_105, li_106, li_107, li_108, li_109, li_110, li_111, li_112, li_113, li_114, li_115, li_116, li_117, li_118, li_119, li_120, li_121, li_122, li_123, li_124, li_125, li_126, li_127, li_128, li_129, li_130, li_134, li_160, li_197, li_229, li_255, li_256, li_265, li_300, li_301, li_330, li_353, li_463, li_720, li_729, li_768, li_999, li_2610, li_2807, li_2867, li_2916, li_4096, li_9999, li_10000, li_30643, li_65535, li_99999, li_1000000, gi_si, gi_sl, gi_sr, gi_ci, gi_cl, gl_si, gl_sl, gl_sr, gl_ci, gl_cl, gr_si, gr_sl, gr_sr, gr_ci, gr_cl, ln_si, ln_sl, ln_sr, ln_ci, ln_cl, ok_si, ok_sl, ok_sr, ok_ci, ok_cl, gp_k hH, gp_l hH, gp_r hH, gp_m hH, Option.some.injEq, exists_eq_left', exists_eq_left, forall_eq, forall_eq', true_and, and_true, if_true, if_false, true_imp_iff, false_imp_iff, not_true_eq_false, not_false_eq_true, false_and, and_false, reduceIte, reduceCtorEq, forall_const, Nat.reduceEqDiff, Nat.reduceAdd, Nat.reduceMul, Nat.reduceSub, Nat.reduceLT, Nat.reduceLeDiff, Nat.reduceMod, Nat.reduceDiv, and_self, ne_eq, exists_const, Nat.add_sub_cancel, nI_add, pk_mul, pk_sub, q_rem, q_div, q_eq, q_le, q_lt, q_cl, q_in, q_m1, q_1m, q_neg, sh1n, bitn, q_mod2, q_neq0, bq_t, bq_f, bq_t2, bq_f2, i01, i10, q_tt, q_ff, ups_e, ups_n, fil_i, fil_o, zq_if, zq_0, zq_1, if_pos, if_neg]
    · simp (disch := first | omega | (simp only [Gp_si, Gp_sl, Gp_ci, Gp_cl]; assumption)) only [li_0, li_1, li_2, li_3, li_4, li_5, li_6, li_7, li_8, li_9, li_10, li_11, li_12, li_13, li_14, li_15, li_16, li_17, li_18, li_19, li_20, li_21, li_22, li_23, li_24, li_25, li_26, li_27, li_28, li_29, li_30, li_32, li_33, li_34, li_35, li_36, li_37, li_38, li_39, li_40, li_41, li_42, li_43, li_44, li_45, li_46, li_47, li_48, li_49, li_50, li_51, li_52, li_53, li_54, li_55, li_56, li_57, li_58, li_59, li_60, li_61, li_62, li_63, li_64, li_65, li_66, li_67, li_68, li_69, li_70, li_71, li_72, li_73, li_74, li_75, li_76, li_77, li_78, li_79, li_80, li_81, li_82, li_83, li_84, li_85, li_86, li_87, li_88, li_89, li_90, li_91, li_92, li_93, li_94, li_95, li_96, li_97, li_98, li_99, li_100, li_101, li_102, li_103, li_104, li_105, li_106, li_107, li_108, li_109, li_110, li_111, li_112, li_113, li_114, li_115, li_116, li_117, li_118, li_119, li_120, li_121, li_122, li_123, li_124, li_125, li_126, li_127, li_128, li_129, li_130, li_134, li_160, li_197, li_229, li_255, li_256, li_265, li_300, li_301, li_330, li_353, li_463, li_720, li_729, li_768, li_999, li_2610, li_2807, li_2867, li_2916, li_4096, li_9999, li_10000, li_30643, li_65535, li_99999, li_1000000, gi_si, gi_sl, gi_sr, gi_ci, gi_cl, gl_si, gl_sl, gl_sr, gl_ci, gl_cl, gr_si, gr_sl, gr_sr, gr_ci, gr_cl, ln_si, ln_sl, ln_sr, ln_ci, ln_cl, ok_si, ok_sl, ok_sr, ok_ci, ok_cl, gp_k hH, gp_l hH, gp_r hH, gp_m hH, Option.some.injEq, exists_eq_left', exists_eq_left, forall_eq, forall_eq', true_and, and_true, if_true, if_false, true_imp_iff, false_imp_iff, not_true_eq_false, not_false_eq_true, false_and, and_false, reduceIte, reduceCtorEq, forall_const, Nat.reduceEqDiff, Nat.reduceAdd, Nat.reduceMul, Nat.reduceSub, Nat.reduceLT, Nat.reduceLeDiff, Nat.reduceMod, Nat.reduceDiv, and_self, ne_eq, exists_const, Nat.add_sub_cancel, nI_add, pk_mul, pk_sub, q_rem, q_div, q_eq, q_le, q_lt, q_cl, q_in, q_m1, q_1m, q_neg, sh1n, bitn, q_mod2, q_neq0, bq_t, bq_f, bq_t2, bq_f2, i01, i10, q_tt, q_ff, ups_e, ups_n, fil_i, fil_o, zq_if, zq_0, zq_1, if_pos, if_neg]
    · simp (disch := first | omega | (simp only [Gp_si, Gp_sl, Gp_ci, Gp_cl]; assumption)) only [li_0, li_1, li_2, li_3, li_4, li_5, li_6, li_7, li_8, li_9, li_10, li_11, li_12, li_13, li_14, li_15, li_16, li_17, li_18, li_19, li_20, li_21, li_22, li_23, li_24, li_25, li_26, li_27, li_28, li_29, li_30, li_32, li_33, li_34, li_35, li_36, li_37, li_38, li_39, li_40, li_41, li_42, li_43, li_44, li_45, li_46, li_47, li_48, li_49, li_50, li_51, li_52, li_53, li_54, li_55, li_56, li_57, li_58, li_59, li_60, li_61, li_62, li_63, li_64, li_65, li_66, li_67, li_68, li_69, li_70, li_71, li_72, li_73, li_74, li_75, li_76, li_77, li_78, li_79, li_80, li_81, li_82, li_83, li_84, li_85, li_86, li_87, li_88, li_89, li_90, li_91, li_92, li_93, li_94, li_95, li_96, li_97, li_98, li_99, li_100, li_101, li_102, li_103, li_104, li_105, li_106, li_107, li_108, li_109, li_110, li_111, li_112, li_113, li_114, li_115, li_116, li_117, li_118, li_119, li_120, li_121, li_122, li_123, li_124, li_125, li_126, li_127, li_128, li_129, li_130, li_134, li_160, li_197, li_229, li_255, li_256, li_265, li_300, li_301, li_330, li_353, li_463, li_720, li_729, li_768, li_999, li_2610, li_2807, li_2867, li_2916, li_4096, li_9999, li_10000, li_30643, li_65535, li_99999, li_1000000, gi_si, gi_sl, gi_sr, gi_ci, gi_cl, gl_si, gl_sl, gl_sr, gl_ci, gl_cl, gr_si, gr_sl, gr_sr, gr_ci, gr_cl, ln_si, ln_sl, ln_sr, ln_ci, ln_cl, ok_si, ok_sl, ok_sr, ok_ci, ok_cl, gp_k hH, gp_l hH, gp_r hH, gp_m hH, Option.some.injEq, exists_eq_left', exists_eq_left, forall_eq, forall_eq', true_and, and_true, if_true, if_false, true_imp_iff, false_imp_iff, not_true_eq_false, not_false_eq_true, false_and, and_false, reduceIte, reduceCtorEq, forall_const, Nat.reduceEqDiff, Nat.reduceAdd, Nat.reduceMul, Nat.reduceSub, Nat.reduceLT, Nat.reduceLeDiff, Nat.reduceMod, Nat.reduceDiv, and_self, ne_eq, exists_const, Nat.add_sub_cancel, nI_add, pk_mul, pk_sub, q_rem, q_div, q_eq, q_le, q_lt, q_cl, q_in, q_m1, q_1m, q_neg, sh1n, bitn, q_mod2, q_neq0, bq_t, bq_f, bq_t2, bq_f2, i01, i10, q_tt, q_ff, ups_e, ups_n, fil_i, fil_o, zq_if, zq_0, zq_1, if_pos, if_neg]
  obtain ⟨a1, a2, a3, a4, a5, a6, a7, a8⟩ := rr μ hG
  have e4 : (4 ≤ nI (s 1)) = (4 ≤ s 1) := q_le (a := 4) (by omega) (by omega)
  refine ⟨a5, 1, a1, a6, ?_⟩
  rw [h6, e4]
  refine ⟨fun y => absurd y (nI_n0 (by omega)), fun _ => ⟨fun c4 => ⟨fun _ => ?_, fun t y => by cases y⟩, fun c4 => ?_⟩⟩
  · -- all texts are there
    refine k (-1) μ hG (fun {Q} hQ => ?_)
    have o1 : mok μ 314 11 := gp_ok hG (by decide) (by decide)
    have o2 : mgr μ 314 0 = some 315 := by simp (disch := first | omega | (simp only [Gp_si, Gp_sl, Gp_ci, Gp_cl]; assumption)) only [li_0, li_1, li_2, li_3, li_4, li_5, li_6, li_7, li_8, li_9, li_10, li_11, li_12, li_13, li_14, li_15, li_16, li_17, li_18, li_19, li_20, li_21, li_22, li_23, li_24, li_25, li_26, li_27, li_28, li_29, li_30, li_32, li_33, li_34, li_35, li_36, li_37, li_38, li_39, li_40, li_41, li_42, li_43, li_44, li_45, li_46, li_47, li_48, li_49, li_50, li_51, li_52, li_53, li_54, li_55, li_56, li_57, li_58, li_59, li_60, li_61, li_62, li_63, li_64, li_65, li_66, li_67, li_68, li_69, li_70, li_71, li_72, li_73, li_74, li_75, li_76, li_77, li_78, li_79, li_80, li_81, li_82, li_83, li_84, li_85, li_86, li_87, li_88, li_89, li_90, li_91, li_92, li_93, li_94, li_95, li_96, li_97, li_98, li_99, li_100, li_101, li_102, li_103, li_104, li_105, li_106, li_107, li_108, li_109, li_110, li_111, li_112, li_113, li_114, li_115, li_116, li_117, li_118, li_119, li_120, li_121, li_122, li_123, li_124, li_125, li_126, li_127, li_128, li_129, li_130, li_134, li_160, li_197, li_229, li_255, li_256, li_265, li_300, li_301, li_330, li_353, li_463, li_720, li_729, li_768, li_999, li_2610, li_2807, li_2867, li_2916, li_4096, li_9999, li_10000, li_30643, li_65535, li_99999, li_1000000, gi_si, gi_sl, gi_sr, gi_ci, gi_cl, gl_si, gl_sl, gl_sr, gl_ci, gl_cl, gr_si, gr_sl, gr_sr, gr_ci, gr_cl, ln_si, ln_sl, ln_sr, ln_ci, ln_cl, ok_si, ok_sl, ok_sr, ok_ci, ok_cl, gp_k hG, gp_l hG, gp_r hG, gp_m hG, Option.some.injEq, exists_eq_left', exists_eq_left, forall_eq, forall_eq', true_and, and_true, if_true, if_false, true_imp_iff, false_imp_iff, not_true_eq_false, not_false_eq_true, false_and, and_false, reduceIte, reduceCtorEq, forall_const, Nat.reduceEqDiff, Nat.reduceAdd, Nat.reduceMul, Nat.reduceSub, Nat.reduceLT, Nat.reduceLeDiff, Nat.reduceMod, Nat.reduceDiv, and_self, ne_eq, exists_const, Nat.add_sub_cancel, nI_add, pk_mul, pk_sub, q_rem, q_div, q_eq, q_le, q_lt, q_cl, q_in, q_m1, q_1m, q_neg, sh1n, bitn, q_mod2, q_neq0, bq_t, bq_f, bq_t2, bq_f2, i01, i10, q_tt, q_ff, ups_e, ups_n, fil_i, fil_o, zq_if, zq_0, zq_1, if_pos, if_neg]
    have o3 : vp_in (nI 1) (mln μ 315) := by
      rw [gp_ln hG (o := 315) (by decide) rfl, q_in (by omega) (by decide)]
      decide
    have c1 : (1 : Int32).toNatClampNeg = 1 := by decide
    have q4 : mgi μ 315 (1 : Int32).toNatClampNeg = 4 := by
      rw [c1, h1, show s 1 = 4 by omega]
      rfl
    exact ⟨o1, 315, o2, gp_ok hG (by decide) (by decide), o3, fun y => absurd q4 y, fun _ => hQ μ ⟨s, si, T, tn, L, b, hC, hM, hR, by omega⟩⟩
  have hi : s 1 < 4 := by omega
  have hHt : Ht (274 + 4 * s 1) := by
    unfold Ht
    omega
  have v3 : vp_in (nI (s 1)) (mln μ 273) := by
    rw [gp_ln hG (o := 273) (by decide) (show lnF 273 = 4 from rfl), q_in (by omega) (by omega)]
    exact hi
  refine ⟨273, a3, gp_ok hG (by decide) (by decide), v3, fun r27 e27 => ?_⟩
  rw [q_cl (by omega), hG.2.2.2.2.2.1 (s 1) hi] at e27
  subst e27
  refine ⟨fun y => (by cases y), fun t y => ?_⟩
  have y : 274 + 4 * s 1 = t := Option.some.inj y
  subst y
  obtain ⟨t1, t2, t3, t4⟩ := id hR.2.2.2.2.2.1
  refine ⟨a5, 290, a4, 271, a2, a7, p_into hHt hG t1 t2 (fun k hk => ⟨(t4 k hk).1, (t4 k hk).2.1⟩) (fun ν n f1 n3 hn zr => ?_)⟩
  have fb := pTx_b (nm := nmT b L) hn n3 25 ZtO 0 (zg_0 n)
  have hH := fzt_gp hG f1
  have gpm : ∀ (ν : Me) (o q : Nat) (v : Int32), Gp ν → Gp (msi ν o q v) := fun ν o q v hX => Gp_x hX (Nat.le_refl _) (fun _ _ => ⟨rfl, rfl⟩) (fun _ _ _ _ _ _ _ _ _ => rfl)
  intro μ1 e1
  have H1 : Gp μ1 := by rw [e1]; exact gpm _ _ _ _ hH
  refine ⟨290, (rr μ1 H1).2.2.2.1, (rr μ1 H1).2.2.2.2.2.2.1, fun μ2 e2 => ?_⟩
  have x6 : mgi μ1 290 6 = mgi ν 290 6 := by rw [e1, gi_si, if_neg (by omega)]
  rw [x6] at e2
  have H2 : Gp μ2 := by rw [e2]; exact gpm _ _ _ _ H1
  refine ⟨290, (rr μ2 H2).2.2.2.1, (rr μ2 H2).2.2.2.2.2.2.1, fun μ3 e3 => ?_⟩
  have x7 : mgi μ2 290 7 = mgi ν 290 7 := by rw [e2, gi_si, if_neg (by omega), e1, gi_si, if_neg (by omega)]
  rw [x7] at e3
  have H3 : Gp μ3 := by rw [e3]; exact gpm _ _ _ _ H2
  refine ⟨271, (rr μ3 H3).2.1, (rr μ3 H3).2.2.2.2.2.2.2, fun μ4 e4' => ?_⟩
  have H4 : Gp μ4 := by rw [e4']; exact gpm _ _ _ _ H3
  have g4 : ∀ a q, a ≠ 0 → (a = 271 → q ≠ 1) → mgi μ4 a q = mgi ν a q := fun a q y1 y2 => by rw [e4', gi_si, if_neg (by omega), e3, gi_si, if_neg (by omega), e2, gi_si, if_neg (by omega), e1, gi_si, if_neg (by omega)]
  have l4 : ∀ a q, mgl μ4 a q = mgl ν a q := fun a q => by rw [e4', e3, e2, e1]; rfl
  have k4 : mnn μ4 = mnn ν ∧ (∀ a, mkd μ4 a = mkd ν a) ∧ (∀ a, mln μ4 a = mln ν a) ∧ (∀ a q, mgr μ4 a q = mgr ν a q) := by
    rw [e4', e3, e2, e1]
    exact ⟨rfl, fun _ => rfl, fun _ => rfl, fun _ _ => rfl⟩
  have u9 : mgi μ4 0 9 = nI 1 := by rw [e4', gi_si, if_neg (by omega), e3, gi_si, if_neg (by omega), e2, gi_si, if_neg (by omega), e1, gi_si, if_pos ⟨rfl, rfl⟩]; rfl
  have u10 : mgi μ4 0 10 = mgi ν 290 6 := by rw [e4', gi_si, if_neg (by omega), e3, gi_si, if_neg (by omega), e2, gi_si, if_pos ⟨rfl, rfl⟩]
  have u11 : mgi μ4 0 11 = mgi ν 290 7 := by rw [e4', gi_si, if_neg (by omega), e3, gi_si, if_pos ⟨rfl, rfl⟩]
  have u271 : mgi μ4 271 1 = 0 := by rw [e4', gi_si, if_pos ⟨rfl, rfl⟩]
  clear e1 e2 e3 e4'
  -- all that the class has not touched
  have eq : ∀ a q, a ≠ 0 → (a = 271 → q ≠ 1) → (a < 290 ∨ 294 < a) → (a < 274 + 4 * s 1 ∨ 277 + 4 * s 1 < a) → mgi μ4 a q = mgi μ a q := fun a q y1 y2 y3 y4 => (g4 a q y1 y2).trans (f1.2.2.2.2.1 a q y3 (by omega))
  have eql : ∀ a q, (a < 290 ∨ 294 < a) → mgl μ4 a q = mgl μ a q := fun a q y => (l4 a q).trans (f1.2.2.2.2.2 a q y)
  have eqk : mnn μ4 = mnn μ ∧ (∀ a, mkd μ4 a = mkd μ a) ∧ (∀ a, mln μ4 a = mln μ a) := ⟨k4.1.trans f1.1, fun a => (k4.2.1 a).trans (f1.2.1 a), fun a => (k4.2.2.1 a).trans (f1.2.2.1 a)⟩
  have eqr : ∀ a q, (a = 290 → q ≠ 1) → (a = 299 → q ≠ 6) → mgr μ4 a q = mgr μ a q := fun a q y1 y2 => (k4.2.2.2 a q).trans (f1.2.2.2.1 a q y1 y2)
  have tp4 : TpM μ4 b L := by
    obtain ⟨p1, p2, p3⟩ := tx_p hR.2.2.2.2.2.1
    exact ⟨p1, (eq 314 4 (by omega) (by omega) (by omega) (by omega)).trans p2, fun q hq => ⟨(p3 q hq).1, (eq 318 q (by omega) (by omega) (by omega) (by omega)).trans (p3 q hq).2⟩⟩
  have s4 : mgi μ4 315 1 = nI (s 1) := (eq 315 1 (by omega) (by omega) (by omega) (by omega)).trans h1
  have o6 : mgi μ4 1 6 = nI (s 1) := (eq 1 6 (by omega) (by omega) (by omega) (by omega)).trans h6
  obtain ⟨zr1, zr0⟩ := zr
  by_cases y : (pTx (kdT b L) (nmT b L) 25 ZtO 0).1 = 0
  · -- the text stands
    obtain ⟨y1, y2, y3, y4⟩ := zr1 y
    have u10' : mgi μ4 0 10 = 0 := u10.trans y3
    refine ⟨fun _ => ⟨1, (rr μ4 H4).1, (rr μ4 H4).2.2.2.2.2.1, fun μ5 e5 => ?_⟩, fun w => absurd u10' w⟩
    rw [nI_s1] at e5
    have H5 : Gp μ5 := by rw [e5]; exact gpm _ _ _ _ H4
    have g5 : ∀ a q, (a = 1 → q ≠ 6) → mgi μ5 a q = mgi μ4 a q := fun a q hq => by rw [e5, gi_si, if_neg (by omega)]
    have v5 : mgi μ5 1 6 = nI (s 1 + 1) := by rw [e5, gi_si, if_pos ⟨rfl, rfl⟩]
    have k5 : mnn μ5 = mnn μ4 ∧ (∀ a, mkd μ5 a = mkd μ4 a) ∧ (∀ a, mln μ5 a = mln μ4 a) ∧ (∀ a q, mgr μ5 a q = mgr μ4 a q) ∧ (∀ a q, mgl μ5 a q = mgl μ4 a q) := by
      rw [e5]
      exact ⟨rfl, fun _ => rfl, fun _ => rfl, fun _ _ => rfl, fun _ _ => rfl⟩
    clear e5
    refine k (nI (s 1)) μ5 H5 (fun {Q} hQ => m_text (n := n) H5 hi ((g5 315 1 (by omega)).trans s4) ⟨tp4.1, (g5 314 4 (by omega)).trans tp4.2.1, fun q hq => ⟨(tp4.2.2 q hq).1, (g5 318 q (by omega)).trans (tp4.2.2 q hq).2⟩⟩ n3 hn (fun _ ν2 F2 Z2 => hQ _ ?_) (fun w => absurd y w))
    have gr : ∀ a q, (a = 314 → q < 4 ∨ 19 < q) → (a = 317 → q < 729 * s 1 ∨ 729 * s 1 + 729 ≤ q) → a ≠ 319 → (a = 315 → q ≠ 1) → mgi (msi (msi (msi (msi ν2 314 5 0) 314 6 (-1)) 314 4 0) 315 1 (nI (s 1 + 1))) a q = mgi μ5 a q := fun a q w1 w2 w3 w4 => by
      rw [gi_si, if_neg (by omega), gi_si, if_neg (by omega), gi_si, if_neg (by omega), gi_si, if_neg (by omega)]
      exact F2.2.2.2.2.1 a q (by omega) w2 w3
    have cl5 : TxC (msi (msi (msi (msi ν2 314 5 0) 314 6 (-1)) 314 4 0) 315 1 (nI (s 1 + 1))) (s 1) (zT (pTx (kdT b L) (nmT b L) 25 ZtO 0).2.2) := TxC_y (zc_tx y1 y2) (fun a q w1 w2 => (gr a q (by omega) (by omega) (by omega) (by omega)).trans ((g5 a q (by omega)).trans (g4 a q (by omega) (by omega))))
    obtain ⟨m1, m2⟩ := zm_tx Z2 y2 n3
    have g317 : ∀ q, mgi (msi (msi (msi (msi ν2 314 5 0) 314 6 (-1)) 314 4 0) 315 1 (nI (s 1 + 1))) 317 q = mgi ν2 317 q := fun q => by rw [gi_si, if_neg (by omega), gi_si, if_neg (by omega), gi_si, if_neg (by omega), gi_si, if_neg (by omega)]
    refine top_txt hC hM hR (by omega) hi ⟨F2.1.trans (k5.1.trans eqk.1), fun a => (F2.2.1 a).trans ((k5.2.1 a).trans (eqk.2.1 a)), fun a => (F2.2.2.1 a).trans ((k5.2.2.1 a).trans (eqk.2.2 a))⟩ (fun a q w1 w2 => (F2.2.2.2.1 a q).trans ((k5.2.2.2.1 a q).trans (eqr a q w1 w2))) (fun a q w1 w2 w3 w4 w5 w6 w7 w8 w9 => (gr a q w5 w6 w7 w9).trans ((g5 a q w8).trans (eq a q w1 w2 w3 w4))) (fun a q w => (F2.2.2.2.2.2 a q (by omega)).trans ((k5.2.2.2.2 a q).trans (eql a q (by omega)))) ((gr 271 1 (by omega) (by omega) (by omega) (by omega)).trans ((g5 271 1 (by omega)).trans u271)) ?_ (Or.inr ⟨?_, ?_, ?_⟩) (Or.inr ⟨(gr 1 6 (by omega) (by omega) (by omega) (by omega)).trans v5, ?_, _, cl5, TxM_x m1 g317, TaM_x m2 g317⟩)
    · rw [gi_si, if_neg (by omega), gi_si, if_pos ⟨rfl, rfl⟩]
    · exact (gr 0 9 (by omega) (by omega) (by omega) (by omega)).trans ((g5 0 9 (by omega)).trans u9)
    · rw [gr 0 10 (by omega) (by omega) (by omega) (by omega), g5 0 10 (by omega), u10', gi_si, if_neg (by omega), gi_si, if_neg (by omega), gi_si, if_neg (by omega), gi_si, if_pos ⟨rfl, rfl⟩]
    · rw [gr 0 11 (by omega) (by omega) (by omega) (by omega), g5 0 11 (by omega), u11, y4, gi_si, if_neg (by omega), gi_si, if_neg (by omega), gi_si, if_pos ⟨rfl, rfl⟩]
    · rw [gi_si, if_pos ⟨rfl, rfl⟩]
  · -- a fault
    obtain ⟨y3, y4⟩ := zr0 y
    have n10 : ¬ mgi μ4 0 10 = 0 := fun w => by
      rw [u10, y3] at w
      exact y ((q_eq (b := 0) (by omega) (by omega)).mp w)
    refine ⟨fun w => absurd w n10, fun _ => ?_⟩
    refine k (-1) μ4 H4 (fun {Q} hQ => m_text (n := n) H4 hi s4 tp4 n3 hn (fun w => absurd w y) (fun _ ν2 F2 => hQ _ ?_))
    have gr : ∀ a q, (a = 314 → q < 4 ∨ 19 < q) → (a = 317 → q < 729 * s 1 ∨ 729 * s 1 + 729 ≤ q) → a ≠ 319 → mgi (msi (msi (msi ν2 314 5 (nI (pTx (kdT b L) (nmT b L) 25 ZtO 0).1)) 314 6 (nI (tps b L (pTx (kdT b L) (nmT b L) 25 ZtO 0).2.1))) 314 4 0) a q = mgi μ4 a q := fun a q w1 w2 w3 => by
      rw [gi_si, if_neg (by omega), gi_si, if_neg (by omega), gi_si, if_neg (by omega)]
      exact F2.2.2.2.2.1 a q (by omega) w2 w3
    refine top_txt hC hM hR (by omega) hi ⟨F2.1.trans eqk.1, fun a => (F2.2.1 a).trans (eqk.2.1 a), fun a => (F2.2.2.1 a).trans (eqk.2.2 a)⟩ (fun a q w1 w2 => (F2.2.2.2.1 a q).trans (eqr a q w1 w2)) (fun a q w1 w2 w3 w4 w5 w6 w7 w8 w9 => (gr a q w5 w6 w7).trans (eq a q w1 w2 w3 w4)) (fun a q w => (F2.2.2.2.2.2 a q (by omega)).trans (eql a q (by omega))) ((gr 271 1 (by omega) (by omega) (by omega)).trans u271) ?_ (Or.inr ⟨?_, ?_, ?_⟩) (Or.inl ⟨(gr 1 6 (by omega) (by omega) (by omega)).trans o6, (gr 315 1 (by omega) (by omega) (by omega)).trans s4⟩)
    · rw [gi_si, if_pos ⟨rfl, rfl⟩]
    · exact (gr 0 9 (by omega) (by omega) (by omega)).trans u9
    · rw [gr 0 10 (by omega) (by omega) (by omega), u10, y3, gi_si, if_neg (by omega), gi_si, if_neg (by omega), gi_si, if_pos ⟨rfl, rfl⟩]
    · rw [gr 0 11 (by omega) (by omega) (by omega), u11, y4, gi_si, if_neg (by omega), gi_si, if_pos ⟨rfl, rfl⟩]
