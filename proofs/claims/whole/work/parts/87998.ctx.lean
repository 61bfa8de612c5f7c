/-! the class reads a text -/
def ZtO : Zt := (0, fun _ _ => 0, [], [], fun _ => none)
theorem zg_0 (n : Nat) : Zg n 0 ZtO := ⟨by decide, Nat.zero_le _, by decide, by decide, fun k hk => absurd hk (Nat.not_lt_zero k), fun law hl => ⟨fun _ k hk => absurd hk (Nat.not_lt_zero k), fun z hz => by cases hz⟩⟩
/-- what reading a text may change in the class -/
def Fzt (t : Nat) (μ ν : Me) : Prop := mnn ν = mnn μ ∧ (∀ a, mkd ν a = mkd μ a) ∧ (∀ a, mln ν a = mln μ a) ∧ (∀ a q, (a = 290 → q ≠ 1) → (a = 299 → q ≠ 6) → mgr ν a q = mgr μ a q) ∧ (∀ a q, (a < 290 ∨ 294 < a) → (a < t ∨ t + 3 < a) → mgi ν a q = mgi μ a q) ∧ (∀ a q, (a < 290 ∨ 294 < a) → mgl ν a q = mgl μ a q)
theorem fzt_rf (t : Nat) (μ : Me) : Fzt t μ μ := ⟨rfl, fun _ => rfl, fun _ => rfl, fun _ _ _ _ => rfl, fun _ _ _ _ => rfl, fun _ _ _ => rfl⟩
theorem fzt_tr {t : Nat} {μ ν ρ : Me} (h : Fzt t μ ν) (k : Fzt t ν ρ) : Fzt t μ ρ := ⟨k.1.trans h.1, fun a => (k.2.1 a).trans (h.2.1 a), fun a => (k.2.2.1 a).trans (h.2.2.1 a), fun a q x y => (k.2.2.2.1 a q x y).trans (h.2.2.2.1 a q x y), fun a q x y => (k.2.2.2.2.1 a q x y).trans (h.2.2.2.2.1 a q x y), fun a q x => (k.2.2.2.2.2 a q x).trans (h.2.2.2.2.2 a q x)⟩
theorem fzt_gp {t : Nat} {μ ν : Me} (hG : Gp μ) (h : Fzt t μ ν) : Gp ν := Gp_x hG (Nat.le_of_eq h.1.symm) (fun a _ => ⟨h.2.1 a, h.2.2.1 a⟩) (fun a q _ _ _ _ h5 h6 _ => h.2.2.2.1 a q h5 h6)
theorem fzt_c {t : Nat} {μ ν : Me} (h : Fzc t μ ν) : Fzt t μ ν := ⟨h.1, h.2.1, h.2.2.1, fun a q _ _ => h.2.2.2.1 a q, fun a q x y => h.2.2.2.2.1 a q (by omega) y, fun a q _ => h.2.2.2.2.2 a q⟩
theorem tk_ok {μ : Me} (hG : Gp μ) : mgr μ 290 0 = some 291 ∧ mgr μ 291 0 = some 292 ∧ mgr μ 291 2 = some 294 ∧ mok μ 290 5 ∧ mok μ 291 8 ∧ mok μ 292 12 ∧ mok μ 294 12 ∧ vp_in (nI 0) (mln μ 292) ∧ vp_in (nI 0) (mln μ 294) := by
  refine ⟨?_, ?_, ?_, gp_ok hG (by decide) (by decide), gp_ok hG (by decide) (by decide), gp_ok hG (by decide) (by decide), gp_ok hG (by decide) (by decide), ?_, ?_⟩
  · simp (disch := first | omega | (simp only [Gp_si, Gp_sl, Gp_ci, Gp_cl]; assumption)) only [li_0, li_1, li_2, li_3, li_4, li_5, li_6, li_7, li_8, li_9, li_10, li_11, li_12, li_13, li_14, li_15, li_16, li_17, li_18, li_19, li_20, li_21, li_22, li_23, li_24, li_25, li_26, li_27, li_28, li_29, li_30, li_32, li_33, li_34, li_35, li_36, li_37, li_38, li_39, li_40, li_41, li_42, li_43, li_44, li_45, li_46, li_47, li_48, li_49, li_50, li_51, li_52, li_53, li_54, li_55, li_56, li_57, li_58, li_59, li_60, li_61, li_62, li_63, li_64, li_65, li_66, li_67, li_68, li_69, li_70, li_71, li_72, li_73, li_74, li_75, li_76, li_77, li_78, li_79, li_80, li_81, li_82, li_83, li_84, li_85, li_86, li_87, li_88, li_89, li_90, li_91, li_92, li_93, li_94, li_95, li_96, li_97, li_98, li_99, li_100, li_101, li_102, li_103, li_104, li_105, li_106, li_107, li_108, li_109, li_110, li_111, li_112, li_113, li_114, li_115, li_116, li_117, li_118, li_119, li_120, li_121, li_122, li_123, li_124, li_125, li_126, li_127, li_128, li_129, li_130, li_134, li_160, li_197, li_229, li_255, li_256, li_265, li_300, li_301, li_330, li_353, li_463, li_720, li_729, li_768, li_999, li_2610, li_2807, li_2867, li_2916, li_4096, li_9999, li_10000, li_30643, li_65535, li_99999, li_1000000, gi_si, gi_sl, gi_sr, gi_ci, gi_cl, gl_si, gl_sl, gl_sr, gl_ci, gl_cl, gr_si, gr_sl, gr_sr, gr_ci, gr_cl, ln_si, ln_sl, ln_sr, ln_ci, ln_cl, ok_si, ok_sl, ok_sr, ok_ci, ok_cl, gp_k hG, gp_l hG, gp_r hG, gp_m hG, Option.some.injEq, exists_eq_left', exists_eq_left, forall_eq, forall_eq', true_and, and_true, if_true, if_false, true_imp_iff, false_imp_iff, not_true_eq_false, not_false_eq_true, false_and, and_false, reduceIte, reduceCtorEq, forall_const, Nat.reduceEqDiff, Nat.reduceAdd, Nat.reduceMul, Nat.reduceSub, Nat.reduceLT, Nat.reduceLeDiff, Nat.reduceMod, Nat.reduceDiv, and_self, ne_eq, exists_const, Nat.add_sub_cancel, nI_add, pk_mul, pk_sub, q_rem, q_div, q_eq, q_le, q_lt, q_cl, q_in, q_m1, q_1m, q_neg, sh1n, bitn, q_mod2, q_neq0, bq_t, bq_f, bq_t2, bq_f2, i01, i10, q_tt, q_ff, ups_e, ups_n, fil_i, fil_o, zq_if, zq_0, zq_1, if_pos, if_neg]
  · simp (disch := first | omega | (simp only [Gp_si, Gp_sl, Gp_ci, Gp_cl]; assumption)) only [li_0, li_1, li_2, li_3, li_4, li_5, li_6, li_7, li_8, li_9, li_10, li_11, li_12, li_13, li_14, li_15, li_16, li_17, li_18, li_19, li_20, li_21, li_22, li_23, li_24, li_25, li_26, li_27, li_28, li_29, li_30, li_32, li_33, li_34, li_35, li_36, li_37, li_38, li_39, li_40, li_41, li_42, li_43, li_44, li_45, li_46, li_47, li_48, li_49, li_50, li_51, li_52, li_53, li_54, li_55, li_56, li_57, li_58, li_59, li_60, li_61, li_62, li_63, li_64, li_65, li_66, li_67, li_68, li_69, li_70, li_71, li_72, li_73, li_74, li_75, li_76, li_77, li_78, li_79, li_80, li_81, li_82, li_83, li_84, li_85, li_86, li_87, li_88, li_89, li_90, li_91, li_92, li_93, li_94, li_95, li_96, li_97, li_98, li_99, li_100, li_101, li_102, li_103, li_104, li_105, li_106, li_107, li_108, li_109, li_110, li_111, li_112, li_113, li_114, li_115, li_116, li_117, li_118, li_119, li_120, li_121, li_122, li_123, li_124, li_125, li_126, li_127, li_128, li_129, li_130, li_134, li_160, li_197, li_229, li_255, li_256, li_265, li_300, li_301, li_330, li_353, li_463, li_720, li_729, li_768, li_999, li_2610, li_2807, li_2867, li_2916, li_4096, li_9999, li_10000, li_30643, li_65535, li_99999, li_1000000, gi_si, gi_sl, gi_sr, gi_ci, gi_cl, gl_si, gl_sl, gl_sr, gl_ci, gl_cl, gr_si, gr_sl, gr_sr, gr_ci, gr_cl, ln_si, ln_sl, ln_sr, ln_ci, ln_cl, ok_si, ok_sl, ok_sr, ok_ci, ok_cl, gp_k hG, gp_l hG, gp_r hG, gp_m hG, Option.some.injEq, exists_eq_left', exists_eq_left, forall_eq, forall_eq', true_and, and_true, if_true, if_false, true_imp_iff, false_imp_iff, not_true_eq_false, not_false_eq_true, false_and, and_false, reduceIte, reduceCtorEq, forall_const, Nat.reduceEqDiff, Nat.reduceAdd, Nat.reduceMul, Nat.reduceSub, Nat.reduceLT, Nat.reduceLeDiff, Nat.reduceMod, Nat.reduceDiv, and_self, ne_eq, exists_const, Nat.add_sub_cancel, nI_add, pk_mul, pk_sub, q_rem, q_div, q_eq, q_le, q_lt, q_cl, q_in, q_m1, q_1m, q_neg, sh1n, bitn, q_mod2, q_neq0, bq_t, bq_f, bq_t2, bq_f2, i01, i10, q_tt, q_ff, ups_e, ups_n, fil_i, fil_o, zq_if, zq_0, zq_1, if_pos, if_neg]
  · simp (disch := first | omega | (simp only [Gp_si, Gp_sl, Gp_ci, Gp_cl]; assumption)) only [li_0, li_1, li_2, li_3, li_4, li_5, li_6, li_7, li_8, li_9, li_10, li_11, li_12, li_13, li_14, li_15, li_16, li_17, li_18, li_19, li_20, li_21, li_22, li_23, li_24, li_25, li_26, li_27, li_28, li_29, li_30, li_32, li_33, li_34, li_35, li_36, li_37, li_38, li_39, li_40, li_41, li_42, li_43, li_44, li_45, li_46, li_47, li_48, li_49, li_50, li_51, li_52, li_53, li_54, li_55, li_56, li_57, li_58, li_59, li_60, li_61, li_62, li_63, li_64, li_65, li_66, li_67, li_68, li_69, li_70, li_71, li_72, li_73, li_74, li_75, li_76, li_77, li_78, li_79, li_80, li_81, li_82, li_83, li_84, li_85, li_86, li_87, li_88, li_89, li_90, li_91, li_92, li_93, li_94, li_95, li_96, li_97, li_98, li_99, li_100, li_101, li_102, li_103, li_104, li_105, li_106, li_107, li_108, li_109, li_110, li_111, li_112, li_113, li_114, li_115, li_116, li_117, li_118, li_119, li_120, li_121, li_122, li_123, li_124, li_125, li_126, li_127, li_128, li_129, li_130, li_134, li_160, li_197, li_229, li_255, li_256, li_265, li_300, li_301, li_330, li_353, li_463, li_720, li_729, li_768, li_999, li_2610, li_2807, li_2867, li_2916, li_4096, li_9999, li_10000, li_30643, li_65535, li_99999, li_1000000, gi_si, gi_sl, gi_sr, gi_ci, gi_cl, gl_si, gl_sl, gl_sr, gl_ci, gl_cl, gr_si, gr_sl, gr_sr, gr_ci, gr_cl, ln_si, ln_sl, ln_sr, ln_ci, ln_cl, ok_si, ok_sl, ok_sr, ok_ci, ok_cl, gp_k hG, gp_l hG, gp_r hG, gp_m hG, Option.some.injEq, exists_eq_left', exists_eq_left, forall_eq, forall_eq', true_and, and_true, if_true, if_false, true_imp_iff, false_imp_iff, not_true_eq_false, not_false_eq_true, false_and, and_false, reduceIte, reduceCtorEq, forall_const, Nat.reduceEqDiff, Nat.reduceAdd, Nat.reduceMul, Nat.reduceSub, Nat.reduceLT, Nat.reduceLeDiff, Nat.reduceMod, Nat.reduceDiv, and_self, ne_eq, exists_const, Nat.add_sub_cancel, nI_add, pk_mul, pk_sub, q_rem, q_div, q_eq, q_le, q_lt, q_cl, q_in, q_m1, q_1m, q_neg, sh1n, bitn, q_mod2, q_neq0, bq_t, bq_f, bq_t2, bq_f2, i01, i10, q_tt, q_ff, ups_e, ups_n, fil_i, fil_o, zq_if, zq_0, zq_1, if_pos, if_neg]
  · rw [gp_ln hG (o := 292) (by decide) rfl, q_in (by omega) (by decide)]
    decide
  · rw [gp_ln hG (o := 294) (by decide) rfl, q_in (by omega) (by decide)]
    decide
section CX
variable {μ ν : Me} {b : Nat → Nat} {L n t : Nat}
/-- what stands when a text has been read: r is what is to be read -/
def Zr (ν : Me) (b : Nat → Nat) (L n t : Nat) (r : Nat × Nat × Zt) : Prop := (r.1 = 0 → Zc ν t r.2.2 ∧ Zg n r.2.1 r.2.2 ∧ mgi ν 290 6 = 0 ∧ mgi ν 290 7 = -1) ∧ (r.1 ≠ 0 → mgi ν 290 6 = nI r.1 ∧ mgi ν 290 7 = nI (tps b L r.2.1))
theorem p_clauses {Q : Me → Prop} {law : Nat} (ht : Ht t) (hR : Rd μ b L n t law 0) (hZ : Zc μ t ZtO) (h6 : mgi μ 290 6 = 0) (h7 : mgi μ 290 7 = -1) (k : ∀ ν, Fzc t μ ν → Zr ν b L n t (pTx (kdT b L) (nmT b L) 25 ZtO 0) → Q ν) : L_X5_readInto_41 290 t 1 0 μ Q := by
  have h3 := hR.2.1.1
  have hn := kd_fin hR.2.1
  refine ⟨fun i3 i4 ν m => (i3 = 1 ∧ ∃ j Z law, i4 = nI Z.1 ∧ m = 26 - Z.1 ∧ Zg n j Z ∧ Rd ν b L n t law j ∧ Zc ν t Z ∧ Fzc t μ ν ∧ (∀ q, q = 6 ∨ q = 7 → mgi ν 290 q = mgi μ 290 q) ∧ pTx (kdT b L) (nmT b L) (25 - Z.1) Z j = pTx (kdT b L) (nmT b L) 25 ZtO 0) ∨ (i3 = 0 ∧ m = 0 ∧ ∃ c, c ≤ 25 ∧ i4 = nI c ∧ Fzc t μ ν ∧ (pTx (kdT b L) (nmT b L) 25 ZtO 0).1 ≠ 0 ∧ Fl ν b L t (pTx (kdT b L) (nmT b L) 25 ZtO 0).1 (pTx (kdT b L) (nmT b L) 25 ZtO 0).2.1), ⟨26, Or.inl ⟨rfl, 0, ZtO, law, rfl, rfl, zg_0 n, hR, hZ, fzc_rf t μ, fun _ _ => rfl, rfl⟩⟩, ?_⟩
  rintro i3 i4 ν m (⟨rfl, j, Z, law2, rfl, rfl, z1, z2, z3, z4, z5, z6⟩ | ⟨rfl, rfl, c, hc, rfl, f1, f2, f3⟩)
  · have c24 := z1.1
    have e24 : (24 < nI Z.1) = (24 < Z.1) := q_lt (a := 24) (by omega) (by omega)
    have e51 : (mgi ν 290 3 = 51) = (kdT b L j = 51) := rd_q z2 (x := 51) (by omega)
    obtain ⟨m2, hm2⟩ : ∃ m2, 25 - Z.1 = m2 + 1 := ⟨24 - Z.1, by omega⟩
    rw [hm2] at z6
    unfold B_X5_readInto_41
    rw [e24, e51]
    refine ⟨fun y => by omega, fun _ => ⟨fun y => absurd y (by decide), fun _ => ⟨rd_ok z2, fun y => ?_, fun y => ?_⟩⟩⟩
    · have e : pTx (kdT b L) (nmT b L) (m2 + 1) Z j = (0, j, Z) := if_pos y
      rw [e] at z6
      refine k ν z4 ?_
      rw [← z6]
      exact ⟨fun _ => ⟨z3, z1, (z5 6 (by omega)).trans h6, (z5 7 (by omega)).trans h7⟩, fun w => absurd rfl w⟩
    · have hjn : j < n := Nat.lt_of_not_le (fun q => y (hn j q))
      refine p_clause ht z2 z3 z1 (fun w ν2 law3 f1 f2 f3 f4 => ?_) (fun w ν2 f1 f2 => ?_)
      · obtain ⟨g1, g2, g3⟩ := zg_cl (nm := nmT b L) hn h3 z1 w
        have e : pTx (kdT b L) (nmT b L) (m2 + 1) Z j = pTx (kdT b L) (nmT b L) m2 (pCl (kdT b L) (nmT b L) Z j).2.2 (pCl (kdT b L) (nmT b L) Z j).2.1 := by
          show (if kdT b L j = 51 then _ else _) = _
          rw [if_neg y, if_pos w]
        rw [e] at z6
        refine ⟨26 - (pCl (kdT b L) (nmT b L) Z j).2.2.1, by rw [g2]; omega, Or.inl ⟨rfl, (pCl (kdT b L) (nmT b L) Z j).2.1, (pCl (kdT b L) (nmT b L) Z j).2.2, law3, ?_, rfl, g1, f2, f3, fzc_tr z4 f1, fun q hq => (f4 q hq).trans (z5 q hq), ?_⟩⟩
        · rw [g2, nI_s1]
        · rw [← z6, g2, show 25 - (Z.1 + 1) = m2 by omega]
      · have e : pTx (kdT b L) (nmT b L) (m2 + 1) Z j = pCl (kdT b L) (nmT b L) Z j := by
          show (if kdT b L j = 51 then _ else _) = _
          rw [if_neg y, if_neg w]
        rw [e] at z6
        refine ⟨0, by omega, Or.inr ⟨rfl, rfl, Z.1 + 1, by omega, ?_, fzc_tr z4 f1, ?_, ?_⟩⟩
        · rw [nI_s1]
        · rw [← z6]
          exact w
        · rw [← z6]
          exact f2
  · have fin : Q ν := k ν f1 ⟨fun w => absurd w f2, fun _ => ⟨f3.2.2.1, f3.2.2.2.1⟩⟩
    exact ⟨fun _ => fin, fun _ => ⟨fun _ => fin, fun w => absurd rfl w⟩⟩
theorem p_into {Q : Me → Prop} (ht : Ht t) (hG : Gp μ) (hL : L ≤ 300) (h1 : mgi μ 271 1 = nI L) (hb : ∀ k, k < L → b k < 256 ∧ mgi μ 272 k = nI (b k)) (k : ∀ ν n, Fzt t μ ν → n ≤ 300 → (∀ i, n ≤ i → kdT b L i = 51) → Zr ν b L n t (pTx (kdT b L) (nmT b L) 25 ZtO 0) → Q ν) : S_X5_readInto 290 t 271 μ Q := by
  have htb := ht_b ht
  have o1 : mok μ 290 5 := gp_ok hG (by decide) (by decide)
  refine ⟨o1, fun μ2 e2 => ?_⟩
  have G2 : Fzt t μ μ2 := by
    subst e2
    exact ⟨rfl, fun _ => rfl, fun _ => rfl, fun a q x y => by rw [gr_sr, if_neg (by omega)], fun _ _ _ _ => rfl, fun _ _ _ => rfl⟩
  have r2 : mgr μ2 290 1 = some t := by
    subst e2
    rw [gr_sr, if_pos ⟨rfl, rfl⟩]
  clear e2
  have hG2 := fzt_gp hG G2
  refine ⟨(tx_ok hG2 ht).1, (tx_ok hG2 ht).1, fun μ3 e3 μ4 e4 μ5 e5 μ6 e6 μ7 e7 μ8 e8 => ?_⟩
  have F8 : Fzc t μ2 μ8 := by
    subst e3 e4 e5 e6 e7 e8
    exact fzc_si (fzc_si (fzc_si (fzc_si (fzc_si (fzc_si (fzc_rf t μ2) _ _ _ (by omega)) _ _ _ (by omega)) _ _ _ (by omega)) _ _ _ (by omega)) _ _ _ (by omega)) _ _ _ (by omega)
  have v8 : mgi μ8 t 2 = 0 ∧ mgi μ8 t 8 = 0 ∧ mgi μ8 t 3 = -1 ∧ mgi μ8 t 5 = -1 ∧ mgi μ8 290 6 = 0 ∧ mgi μ8 290 7 = -1 := by
    have e : ∀ q, mgi μ8 t q = mgi μ6 t q := fun q => by rw [e8, gi_si, if_neg (by omega), e7, gi_si, if_neg (by omega)]
    refine ⟨?_, ?_, ?_, ?_, ?_, ?_⟩
    · rw [e, e6, gi_si, if_neg (by omega), e5, gi_si, if_neg (by omega), e4, gi_si, if_neg (by omega), e3, gi_si, if_pos ⟨rfl, rfl⟩]
    · rw [e, e6, gi_si, if_neg (by omega), e5, gi_si, if_neg (by omega), e4, gi_si, if_pos ⟨rfl, rfl⟩]
    · rw [e, e6, gi_si, if_neg (by omega), e5, gi_si, if_pos ⟨rfl, rfl⟩]
    · rw [e, e6, gi_si, if_pos ⟨rfl, rfl⟩]
    · rw [e8, gi_si, if_neg (by omega), e7, gi_si, if_pos ⟨rfl, rfl⟩]
    · rw [e8, gi_si, if_pos ⟨rfl, rfl⟩]
  clear e3 e4 e5 e6 e7 e8
  have G8 := fzt_tr G2 (fzt_c F8)
  have hG8 := fzt_gp hG G8
  have r8 : mgr μ8 290 1 = some t := (F8.2.2.2.1 290 1).trans r2
  refine ⟨291, (tk_ok hG8).1, gp_ok hG8 (by decide) (by decide), p_cut (b := b) hG8 hL ((G8.2.2.2.2.1 271 1 (by omega) (by omega)).trans h1) (fun q hq => ⟨(hb q hq).1, (G8.2.2.2.2.1 272 q (by omega) (by omega)).trans (hb q hq).2⟩) (fun μ9 n F9 T9 => ?_)⟩
  have x9 : ∀ a, (a < 291 ∨ 294 < a) → xQ a = false := fun a ha => decide_eq_false (by omega)
  have G9 : Fzt t μ8 μ9 := ⟨F9.1, F9.2.1, F9.2.2.1, fun a q _ y => F9.2.2.2.1 a q y, fun a q x _ => F9.2.2.2.2.1 a q (x9 a (by omega)), fun a q x => F9.2.2.2.2.2 a q (x9 a (by omega))⟩
  intro μ10 e10
  have hG9 := fzt_gp hG8 G9
  have r9 : mgr μ9 290 1 = some t := (F9.2.2.2.1 290 1 (by omega)).trans r8
  have g9 : ∀ a q, (a < 291 ∨ 294 < a) → mgi μ9 a q = mgi μ8 a q := fun a q ha => F9.2.2.2.2.1 a q (x9 a ha)
  obtain ⟨t1, t2, t3, t4⟩ := id T9
  obtain ⟨u1, u2, u3⟩ := t4 0 (Nat.zero_le _)
  have h10 : mgi μ10 290 2 = -1 := by
    rw [e10, gi_si, if_pos ⟨rfl, rfl⟩]
  have F10 : Fzc t μ9 μ10 := by
    rw [e10]
    exact fzc_si (fzc_rf t μ9) _ _ _ (Or.inl rfl)
  have g10 : ∀ a q, (a = 290 → q ≠ 2) → mgi μ10 a q = mgi μ9 a q := fun a q hq => by rw [e10, gi_si, if_neg (by omega)]
  clear e10
  have hG10 := fzc_gp hG9 F10
  have e0 : (if (300 : Int32) < -1 + 1 then (300 : Int32) else -1 + 1) = nI 0 := by decide
  refine ⟨(tk_ok hG10).2.2.2.1, fun μ11 e11 => ?_⟩
  rw [h10, e0] at e11
  have F11 : Fzc t μ10 μ11 := by
    rw [e11]
    exact fzc_si (fzc_rf t μ10) _ _ _ (Or.inl rfl)
  have h11 : mgi μ11 290 2 = nI 0 := by
    rw [e11, gi_si, if_pos ⟨rfl, rfl⟩]
  have g11 : ∀ a q, (a = 290 → q ≠ 2) → mgi μ11 a q = mgi μ10 a q := fun a q hq => by rw [e11, gi_si, if_neg (by omega)]
  clear e11
  obtain ⟨k1, k2, k3, k4, k5, k6, k7, k8, k9⟩ := tk_ok (fzc_gp hG10 F11)
  refine ⟨291, k1, k5, 292, k2, k6, by rw [h11]; exact k8, fun μ12 e12 => ?_⟩
  rw [h11, q_cl (by omega), g11 292 0 (by omega), g10 292 0 (by omega), u1] at e12
  have F12 : Fzc t μ11 μ12 := by
    rw [e12]
    exact fzc_si (fzc_rf t μ11) _ _ _ (Or.inl rfl)
  have h12 : mgi μ12 290 3 = nI (kdT b L 0) := by
    rw [e12, gi_si, if_pos ⟨rfl, rfl⟩]
    rfl
  have g12 : ∀ a q, (a = 290 → q ≠ 3) → mgi μ12 a q = mgi μ11 a q := fun a q hq => by rw [e12, gi_si, if_neg (by omega)]
  clear e12
  have hG11 := fzc_gp hG10 F11
  obtain ⟨l1, l2, l3, l4, l5, l6, l7, l8, l9⟩ := tk_ok (fzc_gp hG11 F12)
  have h122 : mgi μ12 290 2 = nI 0 := (g12 290 2 (by omega)).trans h11
  refine ⟨291, l1, l5, 294, l3, l7, by rw [h122]; exact l9, fun μ13 e13 => ?_⟩
  rw [h122, q_cl (by omega), g12 294 0 (by omega), g11 294 0 (by omega), g10 294 0 (by omega), u3] at e13
  have F13 : Fzc t μ12 μ13 := by
    rw [e13]
    exact fzc_si (fzc_rf t μ12) _ _ _ (Or.inl rfl)
  have h13 : mgi μ13 290 4 = nI (nmT b L 0) := by
    rw [e13, gi_si, if_pos ⟨rfl, rfl⟩]
    rfl
  have g13 : ∀ a q, (a = 290 → q ≠ 4) → mgi μ13 a q = mgi μ12 a q := fun a q hq => by rw [e13, gi_si, if_neg (by omega)]
  clear e13
  have FF : Fzc t μ9 μ13 := fzc_tr F10 (fzc_tr F11 (fzc_tr F12 F13))
  have gg : ∀ a q, (a = 290 → q < 2 ∨ 4 < q) → mgi μ13 a q = mgi μ9 a q := fun a q hq => (g13 a q (by omega)).trans ((g12 a q (by omega)).trans ((g11 a q (by omega)).trans (g10 a q (by omega))))
  obtain ⟨lw, hlw⟩ := nI_all (mgi μ13 290 5)
  have hR : Rd μ13 b L n t lw 0 := ⟨fzc_gp hG9 FF, ⟨t1, t2, t3, fun q hq => ⟨(gg 292 q (by omega)).trans (t4 q hq).1, (gg 293 q (by omega)).trans (t4 q hq).2.1, (gg 294 q (by omega)).trans (t4 q hq).2.2⟩⟩, (FF.2.2.2.1 290 1).trans r9, ⟨(g13 290 2 (by omega)).trans h122, Nat.zero_le _⟩, (g13 290 3 (by omega)).trans h12, h13, hlw⟩
  have w : ∀ q, mgi μ13 t q = mgi μ8 t q := fun q => (gg t q (by omega)).trans (g9 t q (by omega))
  have hZ : Zc μ13 t ZtO := by
    refine ⟨(w 8).trans v8.2.1, ⟨(w 2).trans v8.1, by decide, trivial⟩, fun q hq => absurd hq (Nat.not_lt_zero q), fun l hl => ⟨fun _ => ?_, fun z hz => by cases hz⟩⟩
    have : l = 0 ∨ l = 1 := by omega
    rcases this with rfl | rfl
    · exact (w 3).trans v8.2.2.1
    · exact (w 5).trans v8.2.2.2.1
  refine p_clauses ht hR hZ ((gg 290 6 (by omega)).trans ((g9 290 6 (by omega)).trans v8.2.2.2.2.1)) ((gg 290 7 (by omega)).trans ((g9 290 7 (by omega)).trans v8.2.2.2.2.2)) (fun ν f1 f2 => k ν n (fzt_tr G8 (fzt_tr G9 (fzt_c (fzc_tr FF f1)))) t1 (kd_fin T9) f2)
end CX
