/-! the reference behind a part of a sum: what each sign does -/
section MP
variable {μ : Me} {b : Nat → Nat} {L n i law j fl : Nat} {S : List Nat} {C : Cd}
theorem mq_sl {ν : Me} {S' : List Nat} {C' : Cd} (h : Mq μ b L n i law j fl S C) (f : Fg i μ ν) (l : Sl μ ν) (s : Sy ν i S' C') (hl : C'.length + S'.length ≤ j) : Mq ν b L n i law j fl S' C' := by
  obtain ⟨hG, hT, hM, hr, h14, h18, hS, hc⟩ := h
  refine ⟨fg_gp hG f, ?_, ?_, hr, (l.1 14 (by omega) (by omega) (by omega)).trans h14, (l.1 18 (by omega) (by omega) (by omega)).trans h18, s, hl⟩
  · exact ⟨hT.1, (l.1 4 (by omega) (by omega) (by omega)).trans hT.2.1, fun q hq => ⟨(hT.2.2 q hq).1, (f.2.2.2.2.1 318 q (by omega) (by omega) (by omega)).trans (hT.2.2 q hq).2⟩⟩
  · obtain ⟨m1, m2, m3, m4, m5, m6⟩ := hM
    have s : ∀ q, q ≤ 10 → mgi ν 314 q = mgi μ 314 q := fun q hq => l.1 q (by omega) (by omega) (by omega)
    exact ⟨m1, (s 8 (by omega)).trans m2, (s 7 (by omega)).trans m3, (s 9 (by omega)).trans m4, fun a c => by rw [s 10 (by omega)]; exact m5 a c, fun a c e => by rw [l.2]; exact m6 a c e⟩
theorem m_setq {Q : Me → Prop} {r : Nat} (hr1 : 1 ≤ r) (hr7 : r ≤ 7) (h : Mq μ b L n i law j fl S C) (k : ∀ ν, Fg i μ ν → Mq ν b L n i law j fl (stl r S C).1 (stl r S C).2 → Q ν) : S_X11_settle 314 (nI r) μ Q := by
  have sl := stl_len r S C
  have hc := h.2.2.2.2.2.2.2
  exact m_settle hr1 hr7 h.1 h.2.2.2.1.2.1 h.2.2.2.2.2.2.1 (fun ν f l s => k ν f (mq_sl h f l s (by omega)))
theorem m_op {Q : Int32 → Me → Prop} {r x : Nat} (hr1 : 1 ≤ r) (hr7 : r ≤ 7) (h : Mq μ b L n i law j 1 S C) (hk : kdT b L j ≠ 51) (hx : x < 50) (ho : isO x = 0) (hl : (stl r S C).1.length < 100) (k : ∀ ν, Fg i μ ν → Mq ν b L n i law (j + 1) 0 (x :: (stl r S C).1) (stl r S C).2 → Q 1 ν) : B_X11_behindOne_26 314 (nI x) (nI r) (some 314) μ Q := by
  have hj := mq_lt h hk
  have sl := stl_len r S C
  refine ⟨314, rfl, gp_ok h.1 (by decide) (by decide), m_setq hr1 hr7 h (fun ν f1 f2 => ?_)⟩
  generalize (stl r S C).1 = X at f2 hl k sl
  generalize (stl r S C).2 = D at f2 k sl
  obtain ⟨hG, hT, hM, hr, h14, h18, hS, hc⟩ := f2
  obtain ⟨o1, o2, o3, o4⟩ := md_ok hG
  have h16 := hS.1.1
  have hF : Fg i ν (msi (msi (msi ν 319 X.length (nI x)) 314 16 (nI (X.length + 1))) 314 18 (nI 0)) := fg_si (fg_si (fg_si (fg_rf i ν) _ _ _ (by omega)) _ _ _ (by omega)) _ _ _ (by omega)
  simp (disch := first | omega | (simp only [Gp_si, Gp_sl, Gp_ci, Gp_cl]; assumption)) only [li_0, li_1, li_2, li_3, li_4, li_5, li_6, li_7, li_8, li_9, li_10, li_11, li_12, li_13, li_14, li_15, li_16, li_17, li_18, li_19, li_20, li_21, li_22, li_23, li_24, li_25, li_26, li_27, li_28, li_29, li_30, li_32, li_33, li_34, li_35, li_36, li_37, li_38, li_39, li_40, li_41, li_42, li_43, li_44, li_45, li_46, li_47, li_48, li_49, li_50, li_51, li_52, li_53, li_54, li_55, li_56, li_57, li_58, li_59, li_60, li_61, li_62, li_63, li_64, li_65, li_66, li_67, li_68, li_69, li_70, li_71, li_72, li_73, li_74, li_75, li_76, li_77, li_78, li_79, li_80, li_81, li_82, li_83, li_84, li_85, li_86, li_87, li_88, li_89, li_90, li_91, li_92, li_93, li_94, li_95, li_96, li_97, li_98, li_99, li_100, li_101, li_102, li_103, li_104, li_105, li_106, li_107, li_108, li_109, li_110, li_111, li_112, li_113, li_114, li_115, li_116, li_117, li_118, li_119, li_120, li_121, li_122, li_123, li_124, li_125, li_126, li_127, li_128, li_129, li_130, li_134, li_160, li_197, li_229, li_255, li_256, li_265, li_300, li_301, li_330, li_353, li_463, li_720, li_729, li_768, li_999, li_2610, li_2807, li_2867, li_2916, li_4096, li_9999, li_10000, li_30643, li_65535, li_99999, li_1000000, gi_si, gi_sl, gi_sr, gi_ci, gi_cl, gl_si, gl_sl, gl_sr, gl_ci, gl_cl, gr_si, gr_sl, gr_sr, gr_ci, gr_cl, ln_si, ln_sl, ln_sr, ln_ci, ln_cl, ok_si, ok_sl, ok_sr, ok_ci, ok_cl, gp_k hG, gp_l hG, gp_r hG, gp_m hG, Option.some.injEq, exists_eq_left', exists_eq_left, forall_eq, forall_eq', true_and, and_true, if_true, if_false, true_imp_iff, false_imp_iff, not_true_eq_false, not_false_eq_true, false_and, and_false, reduceIte, reduceCtorEq, forall_const, Nat.reduceEqDiff, Nat.reduceAdd, Nat.reduceMul, Nat.reduceSub, Nat.reduceLT, Nat.reduceLeDiff, Nat.reduceMod, Nat.reduceDiv, and_self, ne_eq, exists_const, Nat.add_sub_cancel, nI_add, pk_mul, pk_sub, q_rem, q_div, q_eq, q_le, q_lt, q_cl, q_in, q_m1, q_1m, q_neg, sh1n, bitn, q_mod2, q_neq0, bq_t, bq_f, bq_t2, bq_f2, i01, i10, q_tt, q_ff, ups_e, ups_n, fil_i, fil_o, zq_if, zq_0, zq_1, if_pos, if_neg, h16]
  refine m_nq (S := x :: X) (C := D) (fl := 0) (law := law) ⟨fg_gp hG hF, tp_si (tp_si (tp_si hT (by omega)) (by omega)) (by omega), mt_si (mt_si (mt_si hM (by omega)) (by omega)) (by omega)⟩ ?_ ?_ ⟨hj, hr.2⟩ ?_ ?_ (fun ν2 g1 g2 => k ν2 (fg_tr f1 (fg_tr hF g1)) g2)
  · simp (disch := first | omega | (simp only [Gp_si, Gp_sl, Gp_ci, Gp_cl]; assumption)) only [li_0, li_1, li_2, li_3, li_4, li_5, li_6, li_7, li_8, li_9, li_10, li_11, li_12, li_13, li_14, li_15, li_16, li_17, li_18, li_19, li_20, li_21, li_22, li_23, li_24, li_25, li_26, li_27, li_28, li_29, li_30, li_32, li_33, li_34, li_35, li_36, li_37, li_38, li_39, li_40, li_41, li_42, li_43, li_44, li_45, li_46, li_47, li_48, li_49, li_50, li_51, li_52, li_53, li_54, li_55, li_56, li_57, li_58, li_59, li_60, li_61, li_62, li_63, li_64, li_65, li_66, li_67, li_68, li_69, li_70, li_71, li_72, li_73, li_74, li_75, li_76, li_77, li_78, li_79, li_80, li_81, li_82, li_83, li_84, li_85, li_86, li_87, li_88, li_89, li_90, li_91, li_92, li_93, li_94, li_95, li_96, li_97, li_98, li_99, li_100, li_101, li_102, li_103, li_104, li_105, li_106, li_107, li_108, li_109, li_110, li_111, li_112, li_113, li_114, li_115, li_116, li_117, li_118, li_119, li_120, li_121, li_122, li_123, li_124, li_125, li_126, li_127, li_128, li_129, li_130, li_134, li_160, li_197, li_229, li_255, li_256, li_265, li_300, li_301, li_330, li_353, li_463, li_720, li_729, li_768, li_999, li_2610, li_2807, li_2867, li_2916, li_4096, li_9999, li_10000, li_30643, li_65535, li_99999, li_1000000, gi_si, gi_sl, gi_sr, gi_ci, gi_cl, gl_si, gl_sl, gl_sr, gl_ci, gl_cl, gr_si, gr_sl, gr_sr, gr_ci, gr_cl, ln_si, ln_sl, ln_sr, ln_ci, ln_cl, ok_si, ok_sl, ok_sr, ok_ci, ok_cl, Option.some.injEq, exists_eq_left', exists_eq_left, forall_eq, forall_eq', true_and, and_true, if_true, if_false, true_imp_iff, false_imp_iff, not_true_eq_false, not_false_eq_true, false_and, and_false, reduceIte, reduceCtorEq, forall_const, Nat.reduceEqDiff, Nat.reduceAdd, Nat.reduceMul, Nat.reduceSub, Nat.reduceLT, Nat.reduceLeDiff, Nat.reduceMod, Nat.reduceDiv, and_self, ne_eq, exists_const, Nat.add_sub_cancel, nI_add, pk_mul, pk_sub, q_rem, q_div, q_eq, q_le, q_lt, q_cl, q_in, q_m1, q_1m, q_neg, sh1n, bitn, q_mod2, q_neq0, bq_t, bq_f, bq_t2, bq_f2, i01, i10, q_tt, q_ff, ups_e, ups_n, fil_i, fil_o, zq_if, zq_0, zq_1, if_pos, if_neg, h14]
  · simp (disch := first | omega | (simp only [Gp_si, Gp_sl, Gp_ci, Gp_cl]; assumption)) only [li_0, li_1, li_2, li_3, li_4, li_5, li_6, li_7, li_8, li_9, li_10, li_11, li_12, li_13, li_14, li_15, li_16, li_17, li_18, li_19, li_20, li_21, li_22, li_23, li_24, li_25, li_26, li_27, li_28, li_29, li_30, li_32, li_33, li_34, li_35, li_36, li_37, li_38, li_39, li_40, li_41, li_42, li_43, li_44, li_45, li_46, li_47, li_48, li_49, li_50, li_51, li_52, li_53, li_54, li_55, li_56, li_57, li_58, li_59, li_60, li_61, li_62, li_63, li_64, li_65, li_66, li_67, li_68, li_69, li_70, li_71, li_72, li_73, li_74, li_75, li_76, li_77, li_78, li_79, li_80, li_81, li_82, li_83, li_84, li_85, li_86, li_87, li_88, li_89, li_90, li_91, li_92, li_93, li_94, li_95, li_96, li_97, li_98, li_99, li_100, li_101, li_102, li_103, li_104, li_105, li_106, li_107, li_108, li_109, li_110, li_111, li_112, li_113, li_114, li_115, li_116, li_117, li_118, li_119, li_120, li_121, li_122, li_123, li_124, li_125, li_126, li_127, li_128, li_129, li_130, li_134, li_160, li_197, li_229, li_255, li_256, li_265, li_300, li_301, li_330, li_353, li_463, li_720, li_729, li_768, li_999, li_2610, li_2807, li_2867, li_2916, li_4096, li_9999, li_10000, li_30643, li_65535, li_99999, li_1000000, gi_si, gi_sl, gi_sr, gi_ci, gi_cl, gl_si, gl_sl, gl_sr, gl_ci, gl_cl, gr_si, gr_sl, gr_sr, gr_ci, gr_cl, ln_si, ln_sl, ln_sr, ln_ci, ln_cl, ok_si, ok_sl, ok_sr, ok_ci, ok_cl, Option.some.injEq, exists_eq_left', exists_eq_left, forall_eq, forall_eq', true_and, and_true, if_true, if_false, true_imp_iff, false_imp_iff, not_true_eq_false, not_false_eq_true, false_and, and_false, reduceIte, reduceCtorEq, forall_const, Nat.reduceEqDiff, Nat.reduceAdd, Nat.reduceMul, Nat.reduceSub, Nat.reduceLT, Nat.reduceLeDiff, Nat.reduceMod, Nat.reduceDiv, and_self, ne_eq, exists_const, Nat.add_sub_cancel, nI_add, pk_mul, pk_sub, q_rem, q_div, q_eq, q_le, q_lt, q_cl, q_in, q_m1, q_1m, q_neg, sh1n, bitn, q_mod2, q_neq0, bq_t, bq_f, bq_t2, bq_f2, i01, i10, q_tt, q_ff, ups_e, ups_n, fil_i, fil_o, zq_if, zq_0, zq_1, if_pos, if_neg]
  · obtain ⟨⟨a1, a2, a3⟩, a4, a5, a6, a7⟩ := hS
    refine ⟨⟨?_, fun y hy => ?_, ?_, StP_m X a3 (fun z hz => ?_)⟩, wm_m a4 ?_ ?_ (fun z => ?_), ?_, ?_, ?_⟩
    · rw [gi_si, if_neg (by omega), gi_si, if_pos ⟨rfl, rfl⟩]
      rfl
    · rcases List.mem_cons.1 hy with y1 | y1
      · omega
      · exact a2 y y1
    · rw [gi_si, if_neg (by omega), gi_si, if_neg (by omega), gi_si, if_pos ⟨rfl, rfl⟩]
    · rw [gi_si, if_neg (by omega), gi_si, if_neg (by omega), gi_si, if_neg (by omega)]
    · rw [gi_si, if_neg (by omega), gi_si, if_neg (by omega), gi_si, if_neg (by omega)]
    · rw [gi_si, if_neg (by omega), gi_si, if_neg (by omega), gi_si, if_neg (by omega)]
    · rw [gi_si, if_neg (by omega), gi_si, if_neg (by omega), gi_si, if_neg (by omega)]
    · rw [gi_si, if_neg (by omega), gi_si, if_neg (by omega), gi_si, if_neg (by omega), a5]
      show nI (opc X) = nI (isO x + opc X)
      rw [ho, Nat.zero_add]
    · show D.length + (X.length + 1) ≤ 300
      have := hr.2.2.1
      omega
    · show X.length + 1 ≤ 100
      omega
  · show D.length + (X.length + 1) ≤ j + 1
    omega
/-- what lies on top once all but openings is settled -/
theorem stl_top : ∀ (S : List Nat) (C : Cd), opn S ≠ 0 → ∃ Y, (stl 1 S C).1 = opn S :: Y
  | [], _, h => absurd rfl h
  | x :: S, C, h => by
    by_cases c : 40 ≤ x
    · have e1 : stl 1 (x :: S) C = (x :: S, C) := if_neg (by rw [rkM_0 c]; omega)
      have e2 : opn (x :: S) = x := if_pos c
      rw [e1, e2]
      exact ⟨S, rfl⟩
    · have e1 : stl 1 (x :: S) C = stl 1 S (C ++ [(x, 0)]) := if_pos (rkM_1 c)
      have e2 : opn (x :: S) = opn S := if_neg c
      rw [e2] at h
      rw [e1, e2]
      exact stl_top S _ h
end MP
