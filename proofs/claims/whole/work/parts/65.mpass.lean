/-! the reference: a day passes -/
def latP (s : Nat → Nat) (la P : Nat) : Nat → Nat := fun j => if 11 ≤ j ∧ j < 11 + 7 * P ∧ (j - 11) % 7 = 2 then s j + bitS la ((j - 11) / 7) else s j
theorem lat_o {s : Nat → Nat} {la P j : Nat} (h : j < 11 ∨ 11 + 7 * P ≤ j ∨ (j - 11) % 7 ≠ 2) : latP s la P j = s j := if_neg (by omega)
theorem lat_i {s : Nat → Nat} {la P p : Nat} (hp : p < P) : latP s la P (13 + 7 * p) = s (13 + 7 * p) + bitS la p := by
  unfold latP
  rw [if_pos (by omega), show (13 + 7 * p - 11) / 7 = p by omega]
theorem latP_s {s : Nat → Nat} {la P j : Nat} (h : j ≠ 13 + 7 * P) : latP s la (P + 1) j = latP s la P j := by
  unfold latP
  by_cases c : 11 ≤ j ∧ j < 11 + 7 * P ∧ (j - 11) % 7 = 2
  · rw [if_pos c, if_pos (by omega)]
  · rw [if_neg c, if_neg (by omega)]
/-- a page written at n -/
def wrtN (s : Nat → Nat) (n a b : Nat) : Nat → Nat := ups (ups (ups s (2807 + 2 * n) a) (2808 + 2 * n) b) 10 (n + 1)
theorem wf_pasF {s : Nat → Nat} (hW : WF s) {la : Nat} (hl : la < 2 ^ s 0) (hd : s 6 < 9999) : WF (pasS false s la) := by
  have wn := wf_n hW
  have e : ∀ j, j < 6 → pasS false s la j = s j := fun j hj => pas_o (by omega)
  have e10 : pasS false s la 10 = s 10 := rfl
  have far : ∀ j, 67 ≤ j → pasS false s la j = s j := fun j hj => by
    unfold pasS
    rw [if_neg (by omega), if_neg (by omega), if_neg (by omega), if_neg (by omega), if_neg (by omega), if_neg (by omega), if_neg (by rintro ⟨x, -⟩; cases x)]
  refine wf_x hW (pas_lt hW hl hd false) ?_ (fun p hp => ?_) (fun p hp => ?_) (Nat.le_of_eq (e 0 (by omega)).symm) (e 3 (by omega)) (e 4 (by omega)) (e 5 (by omega)) e10 (fun j hj => far j (by omega))
  · rw [e 0 (by omega), e 1 (by omega), e 2 (by omega), e 3 (by omega), e 4 (by omega), e 5 (by omega), pas_6, pas_7, pas_8, pas_9, e10]
    exact ⟨wn.1, wn.2.1, wn.2.2.1, wn.2.2.2.1, wn.2.2.2.2.1, wn.2.2.2.2.2.1, by omega, hl, by omega, by omega, wn.2.2.2.2.2.2.2.2.2.2⟩
  · rw [e 0 (by omega)] at hp
    have w2 := wf_p hW hp
    have bl := bitS_le la p
    rw [pas_l hp, pas_6, pas_o (j := 11 + 7 * p) (by omega), pas_o (j := 12 + 7 * p) (by omega), pas_o (j := 14 + 7 * p) (by omega), pas_o (j := 15 + 7 * p) (by omega), pas_o (j := 16 + 7 * p) (by omega), pas_o (j := 17 + 7 * p) (by omega)]
    omega
  · rw [far _ (by omega)]
    exact wf_h hW hp
theorem wf_pasW {s : Nat → Nat} (hW : WF s) {la : Nat} (hl : la < 2 ^ s 0) (hd : s 6 < 9999) (w : Bool) : WF (pasS w s la) := by
  cases w
  · exact wf_pasF hW hl hd
  · exact wf_pas hW hl hd
section MP
variable {μ : Me} {s : Nat → Nat} {T : Nat → Tx} {Q : Me → Prop}
theorem e_anew (hG : Gp μ) {x : Nat} (h9 : mgi μ 315 9 = nI x) (hx : x < 100000) : S_X11_anew 314 μ Q = Q (msi μ 315 9 (nI ((x * 463 + 353) % 30643))) := by
  have e : (((nI x).toInt64 * 463 + 353) - ((nI x).toInt64 * 463 + 353) / 30643 * 30643).toInt32 = nI ((x * 463 + 353) % 30643) := by
    rw [nI_l (by omega), show (463 : Int64) = lN 463 from rfl, show (353 : Int64) = lN 353 from rfl, show (30643 : Int64) = lN 30643 from rfl, lN_mul, lN_add, pk_lRem (by omega) (by omega) (by omega), lN_i]
  unfold S_X11_anew
  simp (disch := first | omega | (simp only [Gp_si, Gp_sl, Gp_ci, Gp_cl]; assumption)) only [li_0, li_1, li_2, li_3, li_4, li_5, li_6, li_7, li_8, li_9, li_10, li_11, li_12, li_13, li_14, li_15, li_16, li_17, li_18, li_19, li_20, li_21, li_22, li_23, li_24, li_25, li_26, li_27, li_28, li_29, li_30, li_32, li_33, li_34, li_35, li_36, li_37, li_38, li_39, li_40, li_41, li_42, li_43, li_44, li_45, li_46, li_47, li_48, li_49, li_50, li_51, li_52, li_53, li_54, li_55, li_56, li_57, li_58, li_59, li_60, li_61, li_62, li_63, li_64, li_65, li_66, li_67, li_68, li_69, li_70, li_71, li_72, li_73, li_74, li_75, li_76, li_77, li_78, li_79, li_80, li_81, li_82, li_83, li_84, li_85, li_86, li_87, li_88, li_89, li_90, li_91, li_92, li_93, li_94, li_95, li_96, li_97, li_98, li_99, li_100, li_101, li_102, li_103, li_104, li_105, li_106, li_107, li_108, li_109, li_110, li_111, li_112, li_113, li_114, li_115, li_116, li_117, li_118, li_119, li_120, li_121, li_122, li_123, li_124, li_125, li_126, li_127, li_128, li_129, li_130, li_134, li_160, li_197, li_229, li_255, li_256, li_265, li_300, li_301, li_330, li_353, li_463, li_720, li_729, li_768, li_999, li_2610, li_2807, li_2867, li_2916, li_4096, li_9999, li_10000, li_30643, li_65535, li_99999, li_1000000, gi_si, gi_sl, gi_sr, gi_ci, gi_cl, gl_si, gl_sl, gl_sr, gl_ci, gl_cl, gr_si, gr_sl, gr_sr, gr_ci, gr_cl, ln_si, ln_sl, ln_sr, ln_ci, ln_cl, ok_si, ok_sl, ok_sr, ok_ci, ok_cl, gp_k hG, gp_l hG, gp_r hG, gp_m hG, Option.some.injEq, exists_eq_left', exists_eq_left, forall_eq, forall_eq', true_and, and_true, if_true, if_false, true_imp_iff, false_imp_iff, not_true_eq_false, not_false_eq_true, false_and, and_false, reduceIte, reduceCtorEq, forall_const, Nat.reduceEqDiff, Nat.reduceAdd, Nat.reduceMul, Nat.reduceSub, Nat.reduceLT, Nat.reduceLeDiff, Nat.reduceMod, Nat.reduceDiv, and_self, ne_eq, exists_const, Nat.add_sub_cancel, nI_add, pk_mul, pk_sub, q_rem, q_div, q_eq, q_le, q_lt, q_cl, q_in, q_m1, q_1m, q_neg, sh1n, bitn, q_mod2, q_neq0, bq_t, bq_f, bq_t2, bq_f2, i01, i10, q_tt, q_ff, ups_e, ups_n, fil_i, fil_o, zq_if, zq_0, zq_1, if_pos, if_neg, h9, e]
/-- a day passed changes nothing that is laid aside -/
def Fvq (μ ν : Me) : Prop := Fq μ ν ∧ ∀ q, mgi ν 323 q = mgi μ 323 q
theorem fvq_rf (μ : Me) : Fvq μ μ := ⟨fq_rf μ, fun _ => rfl⟩
theorem fvq_tr {μ ν ρ : Me} (h : Fvq μ ν) (k : Fvq ν ρ) : Fvq μ ρ := ⟨fq_tr h.1 k.1, fun q => (k.2 q).trans (h.2 q)⟩
theorem fvq_si {μ ν : Me} (h : Fvq μ ν) (o k : Nat) (v : Int32) (ho : o = 315) : Fvq μ (msi ν o k v) := ⟨fq_si h.1 o k v (Or.inl ho), fun q => by rw [gi_si, if_neg (by omega)]; exact h.2 q⟩
theorem fvq_fe {μ ν : Me} (h : Fe μ ν) : Fvq μ ν := ⟨fe_fq h, fun q => h.2.2.2.2.1 323 q (by decide) (by decide) (Or.inl (by decide))⟩
theorem m_wrt67 (hG : Gp μ) (hA : RowA μ 315 s) {n la : Nat} (hn : s 10 = n) (hn2 : n < 30) (b1 : s 6 ≤ 9999) (b2 : s 8 ≤ 9) (b3 : s 7 < 256) (b4 : la < 256) (k : ∀ ν, Fvq μ ν → RowA ν 315 (wrtN s n (s 6 * 16 + s 8) (s 7 * 256 + la)) → mgi ν 314 25 = mgi μ 314 25 → Q ν) : B_X11_write_67 314 (nI la) μ Q := by
  have hA1 := hA.1
  have e9 : 2807 + 2 * n + 1 = 2808 + 2 * n := by omega
  unfold B_X11_write_67
  simp (disch := first | omega | (simp only [Gp_si, Gp_sl, Gp_ci, Gp_cl]; assumption)) only [li_0, li_1, li_2, li_3, li_4, li_5, li_6, li_7, li_8, li_9, li_10, li_11, li_12, li_13, li_14, li_15, li_16, li_17, li_18, li_19, li_20, li_21, li_22, li_23, li_24, li_25, li_26, li_27, li_28, li_29, li_30, li_32, li_33, li_34, li_35, li_36, li_37, li_38, li_39, li_40, li_41, li_42, li_43, li_44, li_45, li_46, li_47, li_48, li_49, li_50, li_51, li_52, li_53, li_54, li_55, li_56, li_57, li_58, li_59, li_60, li_61, li_62, li_63, li_64, li_65, li_66, li_67, li_68, li_69, li_70, li_71, li_72, li_73, li_74, li_75, li_76, li_77, li_78, li_79, li_80, li_81, li_82, li_83, li_84, li_85, li_86, li_87, li_88, li_89, li_90, li_91, li_92, li_93, li_94, li_95, li_96, li_97, li_98, li_99, li_100, li_101, li_102, li_103, li_104, li_105, li_106, li_107, li_108, li_109, li_110, li_111, li_112, li_113, li_114, li_115, li_116, li_117, li_118, li_119, li_120, li_121, li_122, li_123, li_124, li_125, li_126, li_127, li_128, li_129, li_130, li_134, li_160, li_197, li_229, li_255, li_256, li_265, li_300, li_301, li_330, li_353, li_463, li_720, li_729, li_768, li_999, li_2610, li_2807, li_2867, li_2916, li_4096, li_9999, li_10000, li_30643, li_65535, li_99999, li_1000000, gi_si, gi_sl, gi_sr, gi_ci, gi_cl, gl_si, gl_sl, gl_sr, gl_ci, gl_cl, gr_si, gr_sl, gr_sr, gr_ci, gr_cl, ln_si, ln_sl, ln_sr, ln_ci, ln_cl, ok_si, ok_sl, ok_sr, ok_ci, ok_cl, gp_k hG, gp_l hG, gp_r hG, gp_m hG, Option.some.injEq, exists_eq_left', exists_eq_left, forall_eq, forall_eq', true_and, and_true, if_true, if_false, true_imp_iff, false_imp_iff, not_true_eq_false, not_false_eq_true, false_and, and_false, reduceIte, reduceCtorEq, forall_const, Nat.reduceEqDiff, Nat.reduceAdd, Nat.reduceMul, Nat.reduceSub, Nat.reduceLT, Nat.reduceLeDiff, Nat.reduceMod, Nat.reduceDiv, and_self, ne_eq, exists_const, Nat.add_sub_cancel, nI_add, pk_mul, pk_sub, q_rem, q_div, q_eq, q_le, q_lt, q_cl, q_in, q_m1, q_1m, q_neg, sh1n, bitn, q_mod2, q_neq0, bq_t, bq_f, bq_t2, bq_f2, i01, i10, q_tt, q_ff, ups_e, ups_n, fil_i, fil_o, zq_if, zq_0, zq_1, if_pos, if_neg, hA1, hn, e9]
  refine k _ (fvq_si (fvq_si (fvq_si (fvq_rf μ) 315 _ _ (by omega)) 315 _ _ (by omega)) 315 _ _ (by omega)) ?_ ?_
  · exact RowA_si (RowA_si (RowA_si hA (by omega)) (by omega)) (by omega)
  · rw [gi_si, if_neg (by omega), gi_si, if_neg (by omega), gi_si, if_neg (by omega)]
/-- the reference writes -/
def wrtS (s : Nat → Nat) (a b : Nat) : Nat → Nat := if s 10 = 30 then wrtN (ups (fil s 2807 58 (fun d => s (2809 + d))) 10 29) 29 a b else wrtN s (s 10) a b
theorem m_write (hG : Gp μ) (hA : RowA μ 315 s) {la : Nat} (hw : mgi μ 314 24 = nI 1) (b0 : s 10 ≤ 30) (b1 : s 6 ≤ 9999) (b2 : s 8 ≤ 9) (b3 : s 7 < 256) (b4 : la < 256) (k : ∀ ν, Fvq μ ν → RowA ν 315 (wrtS s (s 6 * 16 + s 8) (s 7 * 256 + la)) → mgi ν 314 25 = mgi μ 314 25 → Q ν) : S_X11_write 314 (nI la) μ Q := by
  have hA1 := hA.1
  unfold S_X11_write
  unfold wrtS at k
  by_cases c : s 10 = 30
  · rw [if_pos c] at k
    simp (disch := first | omega | (simp only [Gp_si, Gp_sl, Gp_ci, Gp_cl]; assumption)) only [li_0, li_1, li_2, li_3, li_4, li_5, li_6, li_7, li_8, li_9, li_10, li_11, li_12, li_13, li_14, li_15, li_16, li_17, li_18, li_19, li_20, li_21, li_22, li_23, li_24, li_25, li_26, li_27, li_28, li_29, li_30, li_32, li_33, li_34, li_35, li_36, li_37, li_38, li_39, li_40, li_41, li_42, li_43, li_44, li_45, li_46, li_47, li_48, li_49, li_50, li_51, li_52, li_53, li_54, li_55, li_56, li_57, li_58, li_59, li_60, li_61, li_62, li_63, li_64, li_65, li_66, li_67, li_68, li_69, li_70, li_71, li_72, li_73, li_74, li_75, li_76, li_77, li_78, li_79, li_80, li_81, li_82, li_83, li_84, li_85, li_86, li_87, li_88, li_89, li_90, li_91, li_92, li_93, li_94, li_95, li_96, li_97, li_98, li_99, li_100, li_101, li_102, li_103, li_104, li_105, li_106, li_107, li_108, li_109, li_110, li_111, li_112, li_113, li_114, li_115, li_116, li_117, li_118, li_119, li_120, li_121, li_122, li_123, li_124, li_125, li_126, li_127, li_128, li_129, li_130, li_134, li_160, li_197, li_229, li_255, li_256, li_265, li_300, li_301, li_330, li_353, li_463, li_720, li_729, li_768, li_999, li_2610, li_2807, li_2867, li_2916, li_4096, li_9999, li_10000, li_30643, li_65535, li_99999, li_1000000, gi_si, gi_sl, gi_sr, gi_ci, gi_cl, gl_si, gl_sl, gl_sr, gl_ci, gl_cl, gr_si, gr_sl, gr_sr, gr_ci, gr_cl, ln_si, ln_sl, ln_sr, ln_ci, ln_cl, ok_si, ok_sl, ok_sr, ok_ci, ok_cl, gp_k hG, gp_l hG, gp_r hG, gp_m hG, Option.some.injEq, exists_eq_left', exists_eq_left, forall_eq, forall_eq', true_and, and_true, if_true, if_false, true_imp_iff, false_imp_iff, not_true_eq_false, not_false_eq_true, false_and, and_false, reduceIte, reduceCtorEq, forall_const, Nat.reduceEqDiff, Nat.reduceAdd, Nat.reduceMul, Nat.reduceSub, Nat.reduceLT, Nat.reduceLeDiff, Nat.reduceMod, Nat.reduceDiv, and_self, ne_eq, exists_const, Nat.add_sub_cancel, nI_add, pk_mul, pk_sub, q_rem, q_div, q_eq, q_le, q_lt, q_cl, q_in, q_m1, q_1m, q_neg, sh1n, bitn, q_mod2, q_neq0, bq_t, bq_f, bq_t2, bq_f2, i01, i10, q_tt, q_ff, ups_e, ups_n, fil_i, fil_o, zq_if, zq_0, zq_1, if_pos, if_neg, hA1, hw, c]
    refine loop1 (Bd := fun i ν K => B_X11_write_22 314 (nI la) i ν K Q) (fun i ν => Fvq μ ν ∧ mgi ν 314 25 = mgi μ 314 25 ∧ ∃ j, i = j + 2 ∧ RowA ν 315 (fil s 2807 j (fun d => s (2809 + d)))) 60 2 (by omega) ⟨fvq_rf μ, rfl, 0, rfl, RowA_f0 hA _ _⟩ ?_
    rintro i ν hi ⟨hF, h25, j, rfl, hN⟩ K hK
    have hH := fq_gp hG hF.1
    have hN1 := hN.1
    unfold B_X11_write_22
    by_cases hj : j = 58
    · subst hj
      simp (disch := first | omega | (simp only [Gp_si, Gp_sl, Gp_ci, Gp_cl]; assumption)) only [li_0, li_1, li_2, li_3, li_4, li_5, li_6, li_7, li_8, li_9, li_10, li_11, li_12, li_13, li_14, li_15, li_16, li_17, li_18, li_19, li_20, li_21, li_22, li_23, li_24, li_25, li_26, li_27, li_28, li_29, li_30, li_32, li_33, li_34, li_35, li_36, li_37, li_38, li_39, li_40, li_41, li_42, li_43, li_44, li_45, li_46, li_47, li_48, li_49, li_50, li_51, li_52, li_53, li_54, li_55, li_56, li_57, li_58, li_59, li_60, li_61, li_62, li_63, li_64, li_65, li_66, li_67, li_68, li_69, li_70, li_71, li_72, li_73, li_74, li_75, li_76, li_77, li_78, li_79, li_80, li_81, li_82, li_83, li_84, li_85, li_86, li_87, li_88, li_89, li_90, li_91, li_92, li_93, li_94, li_95, li_96, li_97, li_98, li_99, li_100, li_101, li_102, li_103, li_104, li_105, li_106, li_107, li_108, li_109, li_110, li_111, li_112, li_113, li_114, li_115, li_116, li_117, li_118, li_119, li_120, li_121, li_122, li_123, li_124, li_125, li_126, li_127, li_128, li_129, li_130, li_134, li_160, li_197, li_229, li_255, li_256, li_265, li_300, li_301, li_330, li_353, li_463, li_720, li_729, li_768, li_999, li_2610, li_2807, li_2867, li_2916, li_4096, li_9999, li_10000, li_30643, li_65535, li_99999, li_1000000, gi_si, gi_sl, gi_sr, gi_ci, gi_cl, gl_si, gl_sl, gl_sr, gl_ci, gl_cl, gr_si, gr_sl, gr_sr, gr_ci, gr_cl, ln_si, ln_sl, ln_sr, ln_ci, ln_cl, ok_si, ok_sl, ok_sr, ok_ci, ok_cl, gp_k hH, gp_l hH, gp_r hH, gp_m hH, Option.some.injEq, exists_eq_left', exists_eq_left, forall_eq, forall_eq', true_and, and_true, if_true, if_false, true_imp_iff, false_imp_iff, not_true_eq_false, not_false_eq_true, false_and, and_false, reduceIte, reduceCtorEq, forall_const, Nat.reduceEqDiff, Nat.reduceAdd, Nat.reduceMul, Nat.reduceSub, Nat.reduceLT, Nat.reduceLeDiff, Nat.reduceMod, Nat.reduceDiv, and_self, ne_eq, exists_const, Nat.add_sub_cancel, nI_add, pk_mul, pk_sub, q_rem, q_div, q_eq, q_le, q_lt, q_cl, q_in, q_m1, q_1m, q_neg, sh1n, bitn, q_mod2, q_neq0, bq_t, bq_f, bq_t2, bq_f2, i01, i10, q_tt, q_ff, ups_e, ups_n, fil_i, fil_o, zq_if, zq_0, zq_1, if_pos, if_neg, hN1, c]
      refine m_wrt67 (n := 29) (s := ups (fil s 2807 58 (fun d => s (2809 + d))) 10 29) (by exact hH) (RowA_si hN (by omega)) rfl (by omega) (by simp (disch := omega) only [ups_n, fil_o]; exact b1) (by simp (disch := omega) only [ups_n, fil_o]; exact b2) (by simp (disch := omega) only [ups_n, fil_o]; exact b3) b4 (fun ρ hF2 hR h252 => ?_)
      refine k ρ (fvq_tr (fvq_si hF 315 10 _ (by omega)) hF2) ?_ ?_
      · have e6 : ups (fil s 2807 58 (fun d => s (2809 + d))) 10 29 6 = s 6 := by simp (disch := omega) only [ups_n, fil_o]
        have e8 : ups (fil s 2807 58 (fun d => s (2809 + d))) 10 29 8 = s 8 := by simp (disch := omega) only [ups_n, fil_o]
        have e7 : ups (fil s 2807 58 (fun d => s (2809 + d))) 10 29 7 = s 7 := by simp (disch := omega) only [ups_n, fil_o]
        rw [e6, e7, e8] at hR
        exact hR
      · rw [h252, gi_si, if_neg (by omega), h25]
    · have e1 : 2807 + (j + 2) - 2 = 2807 + j := by omega
      simp (disch := first | omega | (simp only [Gp_si, Gp_sl, Gp_ci, Gp_cl]; assumption)) only [li_0, li_1, li_2, li_3, li_4, li_5, li_6, li_7, li_8, li_9, li_10, li_11, li_12, li_13, li_14, li_15, li_16, li_17, li_18, li_19, li_20, li_21, li_22, li_23, li_24, li_25, li_26, li_27, li_28, li_29, li_30, li_32, li_33, li_34, li_35, li_36, li_37, li_38, li_39, li_40, li_41, li_42, li_43, li_44, li_45, li_46, li_47, li_48, li_49, li_50, li_51, li_52, li_53, li_54, li_55, li_56, li_57, li_58, li_59, li_60, li_61, li_62, li_63, li_64, li_65, li_66, li_67, li_68, li_69, li_70, li_71, li_72, li_73, li_74, li_75, li_76, li_77, li_78, li_79, li_80, li_81, li_82, li_83, li_84, li_85, li_86, li_87, li_88, li_89, li_90, li_91, li_92, li_93, li_94, li_95, li_96, li_97, li_98, li_99, li_100, li_101, li_102, li_103, li_104, li_105, li_106, li_107, li_108, li_109, li_110, li_111, li_112, li_113, li_114, li_115, li_116, li_117, li_118, li_119, li_120, li_121, li_122, li_123, li_124, li_125, li_126, li_127, li_128, li_129, li_130, li_134, li_160, li_197, li_229, li_255, li_256, li_265, li_300, li_301, li_330, li_353, li_463, li_720, li_729, li_768, li_999, li_2610, li_2807, li_2867, li_2916, li_4096, li_9999, li_10000, li_30643, li_65535, li_99999, li_1000000, gi_si, gi_sl, gi_sr, gi_ci, gi_cl, gl_si, gl_sl, gl_sr, gl_ci, gl_cl, gr_si, gr_sl, gr_sr, gr_ci, gr_cl, ln_si, ln_sl, ln_sr, ln_ci, ln_cl, ok_si, ok_sl, ok_sr, ok_ci, ok_cl, gp_k hH, gp_l hH, gp_r hH, gp_m hH, Option.some.injEq, exists_eq_left', exists_eq_left, forall_eq, forall_eq', true_and, and_true, if_true, if_false, true_imp_iff, false_imp_iff, not_true_eq_false, not_false_eq_true, false_and, and_false, reduceIte, reduceCtorEq, forall_const, Nat.reduceEqDiff, Nat.reduceAdd, Nat.reduceMul, Nat.reduceSub, Nat.reduceLT, Nat.reduceLeDiff, Nat.reduceMod, Nat.reduceDiv, and_self, ne_eq, exists_const, Nat.add_sub_cancel, nI_add, pk_mul, pk_sub, q_rem, q_div, q_eq, q_le, q_lt, q_cl, q_in, q_m1, q_1m, q_neg, sh1n, bitn, q_mod2, q_neq0, bq_t, bq_f, bq_t2, bq_f2, i01, i10, q_tt, q_ff, ups_e, ups_n, fil_i, fil_o, zq_if, zq_0, zq_1, if_pos, if_neg, hN1, e1]
      refine hK _ (by omega) ⟨fvq_si hF 315 _ _ (by omega), by rw [gi_si, if_neg (by omega)]; exact h25, j + 1, by omega, RowA_f hN (by omega) rfl ?_⟩
      show s _ = s (2809 + j)
      congr 1
      omega
  · rw [if_neg c] at k
    simp (disch := first | omega | (simp only [Gp_si, Gp_sl, Gp_ci, Gp_cl]; assumption)) only [li_0, li_1, li_2, li_3, li_4, li_5, li_6, li_7, li_8, li_9, li_10, li_11, li_12, li_13, li_14, li_15, li_16, li_17, li_18, li_19, li_20, li_21, li_22, li_23, li_24, li_25, li_26, li_27, li_28, li_29, li_30, li_32, li_33, li_34, li_35, li_36, li_37, li_38, li_39, li_40, li_41, li_42, li_43, li_44, li_45, li_46, li_47, li_48, li_49, li_50, li_51, li_52, li_53, li_54, li_55, li_56, li_57, li_58, li_59, li_60, li_61, li_62, li_63, li_64, li_65, li_66, li_67, li_68, li_69, li_70, li_71, li_72, li_73, li_74, li_75, li_76, li_77, li_78, li_79, li_80, li_81, li_82, li_83, li_84, li_85, li_86, li_87, li_88, li_89, li_90, li_91, li_92, li_93, li_94, li_95, li_96, li_97, li_98, li_99, li_100, li_101, li_102, li_103, li_104, li_105, li_106, li_107, li_108, li_109, li_110, li_111, li_112, li_113, li_114, li_115, li_116, li_117, li_118, li_119, li_120, li_121, li_122, li_123, li_124, li_125, li_126, li_127, li_128, li_129, li_130, li_134, li_160, li_197, li_229, li_255, li_256, li_265, li_300, li_301, li_330, li_353, li_463, li_720, li_729, li_768, li_999, li_2610, li_2807, li_2867, li_2916, li_4096, li_9999, li_10000, li_30643, li_65535, li_99999, li_1000000, gi_si, gi_sl, gi_sr, gi_ci, gi_cl, gl_si, gl_sl, gl_sr, gl_ci, gl_cl, gr_si, gr_sl, gr_sr, gr_ci, gr_cl, ln_si, ln_sl, ln_sr, ln_ci, ln_cl, ok_si, ok_sl, ok_sr, ok_ci, ok_cl, gp_k hG, gp_l hG, gp_r hG, gp_m hG, Option.some.injEq, exists_eq_left', exists_eq_left, forall_eq, forall_eq', true_and, and_true, if_true, if_false, true_imp_iff, false_imp_iff, not_true_eq_false, not_false_eq_true, false_and, and_false, reduceIte, reduceCtorEq, forall_const, Nat.reduceEqDiff, Nat.reduceAdd, Nat.reduceMul, Nat.reduceSub, Nat.reduceLT, Nat.reduceLeDiff, Nat.reduceMod, Nat.reduceDiv, and_self, ne_eq, exists_const, Nat.add_sub_cancel, nI_add, pk_mul, pk_sub, q_rem, q_div, q_eq, q_le, q_lt, q_cl, q_in, q_m1, q_1m, q_neg, sh1n, bitn, q_mod2, q_neq0, bq_t, bq_f, bq_t2, bq_f2, i01, i10, q_tt, q_ff, ups_e, ups_n, fil_i, fil_o, zq_if, zq_0, zq_1, if_pos, if_neg, hA1, hw, c]
    exact m_wrt67 hG hA rfl (by omega) b1 b2 b3 b4 k
theorem m_pass (h : Mo μ s T) (hd : s 6 < 9999) {wr : Bool} (hw : mgi μ 314 24 = if wr = true then nI 1 else nI 0) {lo : Nat} (h25 : mgi μ 314 25 = nI lo) (k : ∀ ν, Fvq μ ν → RowA ν 315 (pasS wr s (laS s T)) → mgi ν 314 25 = nI (lo + pcn (laS s T)) → Q ν) : S_X11_pass 314 μ Q := by
  obtain ⟨hG, hA, hW, hT⟩ := id h
  have w := wf_n hW
  have hq := p2_8 w.1
  have hA1 := hA.1
  have la := la_lt s T
  have hst := wf_st hW
  have hA2 : RowA (msi (msi μ 315 8 (nI (s 9 % 10))) 315 9 (nI ((s 9 * 463 + 353) % 30643))) 315 (stS s) := RowA_si (RowA_si hA (by decide)) (by decide)
  have hM2 : Mo (msi (msi μ 315 8 (nI (s 9 % 10))) 315 9 (nI ((s 9 * 463 + 353) % 30643))) (stS s) T := ⟨by exact hG, hA2, hst, fun i hi => TxM_x (hT i hi) (fun q => by rw [gi_si, if_neg (by omega), gi_si, if_neg (by omega)])⟩
  have hF2 : Fvq μ (msi (msi μ 315 8 (nI (s 9 % 10))) 315 9 (nI ((s 9 * 463 + 353) % 30643))) := fvq_si (fvq_si (fvq_rf μ) 315 8 _ (by omega)) 315 9 _ (by omega)
  have h9 : mgi (msi μ 315 8 (nI (s 9 % 10))) 315 9 = nI (s 9) := by
    rw [gi_si, if_neg (by omega)]
    exact hA1 9 (by decide) (by decide)
  unfold S_X11_pass
  simp (disch := first | omega | (simp only [Gp_si, Gp_sl, Gp_ci, Gp_cl]; assumption)) only [li_0, li_1, li_2, li_3, li_4, li_5, li_6, li_7, li_8, li_9, li_10, li_11, li_12, li_13, li_14, li_15, li_16, li_17, li_18, li_19, li_20, li_21, li_22, li_23, li_24, li_25, li_26, li_27, li_28, li_29, li_30, li_32, li_33, li_34, li_35, li_36, li_37, li_38, li_39, li_40, li_41, li_42, li_43, li_44, li_45, li_46, li_47, li_48, li_49, li_50, li_51, li_52, li_53, li_54, li_55, li_56, li_57, li_58, li_59, li_60, li_61, li_62, li_63, li_64, li_65, li_66, li_67, li_68, li_69, li_70, li_71, li_72, li_73, li_74, li_75, li_76, li_77, li_78, li_79, li_80, li_81, li_82, li_83, li_84, li_85, li_86, li_87, li_88, li_89, li_90, li_91, li_92, li_93, li_94, li_95, li_96, li_97, li_98, li_99, li_100, li_101, li_102, li_103, li_104, li_105, li_106, li_107, li_108, li_109, li_110, li_111, li_112, li_113, li_114, li_115, li_116, li_117, li_118, li_119, li_120, li_121, li_122, li_123, li_124, li_125, li_126, li_127, li_128, li_129, li_130, li_134, li_160, li_197, li_229, li_255, li_256, li_265, li_300, li_301, li_330, li_353, li_463, li_720, li_729, li_768, li_999, li_2610, li_2807, li_2867, li_2916, li_4096, li_9999, li_10000, li_30643, li_65535, li_99999, li_1000000, gi_si, gi_sl, gi_sr, gi_ci, gi_cl, gl_si, gl_sl, gl_sr, gl_ci, gl_cl, gr_si, gr_sl, gr_sr, gr_ci, gr_cl, ln_si, ln_sl, ln_sr, ln_ci, ln_cl, ok_si, ok_sl, ok_sr, ok_ci, ok_cl, gp_k hG, gp_l hG, gp_r hG, gp_m hG, Option.some.injEq, exists_eq_left', exists_eq_left, forall_eq, forall_eq', true_and, and_true, if_true, if_false, true_imp_iff, false_imp_iff, not_true_eq_false, not_false_eq_true, false_and, and_false, reduceIte, reduceCtorEq, forall_const, Nat.reduceEqDiff, Nat.reduceAdd, Nat.reduceMul, Nat.reduceSub, Nat.reduceLT, Nat.reduceLeDiff, Nat.reduceMod, Nat.reduceDiv, and_self, ne_eq, exists_const, Nat.add_sub_cancel, nI_add, pk_mul, pk_sub, q_rem, q_div, q_eq, q_le, q_lt, q_cl, q_in, q_m1, q_1m, q_neg, sh1n, bitn, q_mod2, q_neq0, bq_t, bq_f, bq_t2, bq_f2, i01, i10, q_tt, q_ff, ups_e, ups_n, fil_i, fil_o, zq_if, zq_0, zq_1, if_pos, if_neg, hA1, md]
  rw [e_anew (by exact hG) h9 (by omega)]
  have h7 : mgi (msi (msi μ 315 8 (nI (s 9 % 10))) 315 9 (nI ((s 9 * 463 + 353) % 30643))) 315 7 = nI (s 7) := hA2.1 7 (by decide) (by decide)
  simp (disch := first | omega | (simp only [Gp_si, Gp_sl, Gp_ci, Gp_cl]; assumption)) only [li_0, li_1, li_2, li_3, li_4, li_5, li_6, li_7, li_8, li_9, li_10, li_11, li_12, li_13, li_14, li_15, li_16, li_17, li_18, li_19, li_20, li_21, li_22, li_23, li_24, li_25, li_26, li_27, li_28, li_29, li_30, li_32, li_33, li_34, li_35, li_36, li_37, li_38, li_39, li_40, li_41, li_42, li_43, li_44, li_45, li_46, li_47, li_48, li_49, li_50, li_51, li_52, li_53, li_54, li_55, li_56, li_57, li_58, li_59, li_60, li_61, li_62, li_63, li_64, li_65, li_66, li_67, li_68, li_69, li_70, li_71, li_72, li_73, li_74, li_75, li_76, li_77, li_78, li_79, li_80, li_81, li_82, li_83, li_84, li_85, li_86, li_87, li_88, li_89, li_90, li_91, li_92, li_93, li_94, li_95, li_96, li_97, li_98, li_99, li_100, li_101, li_102, li_103, li_104, li_105, li_106, li_107, li_108, li_109, li_110, li_111, li_112, li_113, li_114, li_115, li_116, li_117, li_118, li_119, li_120, li_121, li_122, li_123, li_124, li_125, li_126, li_127, li_128, li_129, li_130, li_134, li_160, li_197, li_229, li_255, li_256, li_265, li_300, li_301, li_330, li_353, li_463, li_720, li_729, li_768, li_999, li_2610, li_2807, li_2867, li_2916, li_4096, li_9999, li_10000, li_30643, li_65535, li_99999, li_1000000, gi_si, gi_sl, gi_sr, gi_ci, gi_cl, gl_si, gl_sl, gl_sr, gl_ci, gl_cl, gr_si, gr_sl, gr_sr, gr_ci, gr_cl, ln_si, ln_sl, ln_sr, ln_ci, ln_cl, ok_si, ok_sl, ok_sr, ok_ci, ok_cl, gp_k hG, gp_l hG, gp_r hG, gp_m hG, Option.some.injEq, exists_eq_left', exists_eq_left, forall_eq, forall_eq', true_and, and_true, if_true, if_false, true_imp_iff, false_imp_iff, not_true_eq_false, not_false_eq_true, false_and, and_false, reduceIte, reduceCtorEq, forall_const, Nat.reduceEqDiff, Nat.reduceAdd, Nat.reduceMul, Nat.reduceSub, Nat.reduceLT, Nat.reduceLeDiff, Nat.reduceMod, Nat.reduceDiv, and_self, ne_eq, exists_const, Nat.add_sub_cancel, nI_add, pk_mul, pk_sub, q_rem, q_div, q_eq, q_le, q_lt, q_cl, q_in, q_m1, q_1m, q_neg, sh1n, bitn, q_mod2, q_neq0, bq_t, bq_f, bq_t2, bq_f2, i01, i10, q_tt, q_ff, ups_e, ups_n, fil_i, fil_o, zq_if, zq_0, zq_1, if_pos, if_neg, hA1]
  refine p_MlateBy hM2 (show s 7 < 2 ^ s 0 from w.2.2.2.2.2.2.2.1) (fun ν0 hF0 => ?_)
  have ela : lateS (stS s) (Dx T (stS s 2)) (s 7) = laS s T := rfl
  rw [ela]
  have hM3 := mo_fe hM2 hF0
  have hF3 := fvq_tr hF2 (fvq_fe hF0)
  have h250 : mgi ν0 314 25 = nI lo := by
    rw [hF0.2.2.2.2.1 314 25 (by decide) (by decide) (Or.inr (by decide)), gi_si, if_neg (by omega), gi_si, if_neg (by omega)]
    exact h25
  have h240 : mgi ν0 314 24 = if wr = true then nI 1 else nI 0 := by
    rw [hF0.2.2.2.2.1 314 24 (by decide) (by decide) (Or.inr (by decide)), gi_si, if_neg (by omega), gi_si, if_neg (by omega)]
    exact hw
  refine loop1 (Bd := fun i ν K => B_X11_pass_35 314 (nI (laS s T)) i ν K Q) (fun i ν => Fvq μ ν ∧ RowA ν 315 (latP (stS s) (laS s T) i) ∧ mgi ν 314 25 = nI lo ∧ mgi ν 314 24 = if wr = true then nI 1 else nI 0) (s 0) 0 (by omega) ⟨hF3, RowA_s hM3.2.1 (fun j _ => (lat_o (by omega)).symm), h250, h240⟩ ?_
  rintro i ν hi ⟨hF, hN, h25n, h24n⟩ K hK
  have hH := fq_gp hG hF.1
  have hN1 := hN.1
  have hN0 : mgi ν 315 0 = nI (s 0) := (hN1 0 (by decide) (by decide)).trans (by rw [lat_o (by omega)]; rfl)
  unfold B_X11_pass_35 B_X11_pass_75
  by_cases hin : i = s 0
  · subst hin
    have pl := pcn_le (laS s T)
    simp (disch := first | omega | (simp only [Gp_si, Gp_sl, Gp_ci, Gp_cl]; assumption)) only [li_0, li_1, li_2, li_3, li_4, li_5, li_6, li_7, li_8, li_9, li_10, li_11, li_12, li_13, li_14, li_15, li_16, li_17, li_18, li_19, li_20, li_21, li_22, li_23, li_24, li_25, li_26, li_27, li_28, li_29, li_30, li_32, li_33, li_34, li_35, li_36, li_37, li_38, li_39, li_40, li_41, li_42, li_43, li_44, li_45, li_46, li_47, li_48, li_49, li_50, li_51, li_52, li_53, li_54, li_55, li_56, li_57, li_58, li_59, li_60, li_61, li_62, li_63, li_64, li_65, li_66, li_67, li_68, li_69, li_70, li_71, li_72, li_73, li_74, li_75, li_76, li_77, li_78, li_79, li_80, li_81, li_82, li_83, li_84, li_85, li_86, li_87, li_88, li_89, li_90, li_91, li_92, li_93, li_94, li_95, li_96, li_97, li_98, li_99, li_100, li_101, li_102, li_103, li_104, li_105, li_106, li_107, li_108, li_109, li_110, li_111, li_112, li_113, li_114, li_115, li_116, li_117, li_118, li_119, li_120, li_121, li_122, li_123, li_124, li_125, li_126, li_127, li_128, li_129, li_130, li_134, li_160, li_197, li_229, li_255, li_256, li_265, li_300, li_301, li_330, li_353, li_463, li_720, li_729, li_768, li_999, li_2610, li_2807, li_2867, li_2916, li_4096, li_9999, li_10000, li_30643, li_65535, li_99999, li_1000000, gi_si, gi_sl, gi_sr, gi_ci, gi_cl, gl_si, gl_sl, gl_sr, gl_ci, gl_cl, gr_si, gr_sl, gr_sr, gr_ci, gr_cl, ln_si, ln_sl, ln_sr, ln_ci, ln_cl, ok_si, ok_sl, ok_sr, ok_ci, ok_cl, gp_k hH, gp_l hH, gp_r hH, gp_m hH, Option.some.injEq, exists_eq_left', exists_eq_left, forall_eq, forall_eq', true_and, and_true, if_true, if_false, true_imp_iff, false_imp_iff, not_true_eq_false, not_false_eq_true, false_and, and_false, reduceIte, reduceCtorEq, forall_const, Nat.reduceEqDiff, Nat.reduceAdd, Nat.reduceMul, Nat.reduceSub, Nat.reduceLT, Nat.reduceLeDiff, Nat.reduceMod, Nat.reduceDiv, and_self, ne_eq, exists_const, Nat.add_sub_cancel, nI_add, pk_mul, pk_sub, q_rem, q_div, q_eq, q_le, q_lt, q_cl, q_in, q_m1, q_1m, q_neg, sh1n, bitn, q_mod2, q_neq0, bq_t, bq_f, bq_t2, bq_f2, i01, i10, q_tt, q_ff, ups_e, ups_n, fil_i, fil_o, zq_if, zq_0, zq_1, if_pos, if_neg, hN0]
    refine p_bits (by omega) ?_
    simp (disch := first | omega | (simp only [Gp_si, Gp_sl, Gp_ci, Gp_cl]; assumption)) only [li_0, li_1, li_2, li_3, li_4, li_5, li_6, li_7, li_8, li_9, li_10, li_11, li_12, li_13, li_14, li_15, li_16, li_17, li_18, li_19, li_20, li_21, li_22, li_23, li_24, li_25, li_26, li_27, li_28, li_29, li_30, li_32, li_33, li_34, li_35, li_36, li_37, li_38, li_39, li_40, li_41, li_42, li_43, li_44, li_45, li_46, li_47, li_48, li_49, li_50, li_51, li_52, li_53, li_54, li_55, li_56, li_57, li_58, li_59, li_60, li_61, li_62, li_63, li_64, li_65, li_66, li_67, li_68, li_69, li_70, li_71, li_72, li_73, li_74, li_75, li_76, li_77, li_78, li_79, li_80, li_81, li_82, li_83, li_84, li_85, li_86, li_87, li_88, li_89, li_90, li_91, li_92, li_93, li_94, li_95, li_96, li_97, li_98, li_99, li_100, li_101, li_102, li_103, li_104, li_105, li_106, li_107, li_108, li_109, li_110, li_111, li_112, li_113, li_114, li_115, li_116, li_117, li_118, li_119, li_120, li_121, li_122, li_123, li_124, li_125, li_126, li_127, li_128, li_129, li_130, li_134, li_160, li_197, li_229, li_255, li_256, li_265, li_300, li_301, li_330, li_353, li_463, li_720, li_729, li_768, li_999, li_2610, li_2807, li_2867, li_2916, li_4096, li_9999, li_10000, li_30643, li_65535, li_99999, li_1000000, gi_si, gi_sl, gi_sr, gi_ci, gi_cl, gl_si, gl_sl, gl_sr, gl_ci, gl_cl, gr_si, gr_sl, gr_sr, gr_ci, gr_cl, ln_si, ln_sl, ln_sr, ln_ci, ln_cl, ok_si, ok_sl, ok_sr, ok_ci, ok_cl, gp_k hH, gp_l hH, gp_r hH, gp_m hH, Option.some.injEq, exists_eq_left', exists_eq_left, forall_eq, forall_eq', true_and, and_true, if_true, if_false, true_imp_iff, false_imp_iff, not_true_eq_false, not_false_eq_true, false_and, and_false, reduceIte, reduceCtorEq, forall_const, Nat.reduceEqDiff, Nat.reduceAdd, Nat.reduceMul, Nat.reduceSub, Nat.reduceLT, Nat.reduceLeDiff, Nat.reduceMod, Nat.reduceDiv, and_self, ne_eq, exists_const, Nat.add_sub_cancel, nI_add, pk_mul, pk_sub, q_rem, q_div, q_eq, q_le, q_lt, q_cl, q_in, q_m1, q_1m, q_neg, sh1n, bitn, q_mod2, q_neq0, bq_t, bq_f, bq_t2, bq_f2, i01, i10, q_tt, q_ff, ups_e, ups_n, fil_i, fil_o, zq_if, zq_0, zq_1, if_pos, if_neg, h25n]
    -- the row ahead of the writing
    have e6 : latP (stS s) (laS s T) (s 0) 6 = s 6 := by rw [lat_o (by omega)]; rfl
    have e7 : latP (stS s) (laS s T) (s 0) 7 = s 7 := by rw [lat_o (by omega)]; rfl
    have e8 : latP (stS s) (laS s T) (s 0) 8 = s 9 % 10 := by rw [lat_o (by omega)]; rfl
    have e10 : latP (stS s) (laS s T) (s 0) 10 = s 10 := by rw [lat_o (by omega)]; rfl
    have eo : ∀ j, 10 ≤ j → (j < 11 + 7 * s 0 → j = 10 ∨ (j - 11) % 7 ≠ 2) → latP (stS s) (laS s T) (s 0) j = s j := fun j h1 h2 => by
      rw [lat_o (by omega)]
      unfold stS
      rw [ups_n (by omega), ups_n (by omega)]
    have hR : RowA (msi ν 314 25 (nI (lo + pcn (laS s T)))) 315 (latP (stS s) (laS s T) (s 0)) := RowA_x hN (fun q => by rw [gi_si, if_neg (by omega)])
    have hF25 : Fvq μ (msi ν 314 25 (nI (lo + pcn (laS s T)))) := fvq_tr hF ⟨⟨rfl, fun _ => rfl, fun _ => rfl, fun _ _ _ => rfl, fun a q h1 => by rw [gi_si, if_neg (by omega)], fun _ _ _ _ => rfl⟩, fun q => by rw [gi_si, if_neg (by omega)]⟩
    have low : ∀ j, j < 11 → latP (stS s) (laS s T) (s 0) j = stS s j := fun j hj => lat_o (by omega)
    have fin : ∀ ρ s2, Fvq μ ρ → RowA ρ 315 s2 → mgi ρ 314 25 = nI (lo + pcn (laS s T)) → s2 6 = s 6 → (∀ j, j < 2867 → j ≠ 6 → j ≠ 7 → s2 j = pasS wr s (laS s T) j) → Q (msi (msi ρ 315 7 (nI (laS s T))) 315 6 (nI (s 6 + 1))) := by
      intro ρ s2 hFr hRr h25r h6 hj
      refine k _ (fvq_si (fvq_si hFr 315 7 _ (by omega)) 315 6 _ (by omega)) ?_ ?_
      · refine RowA_s (RowA_si (RowA_si hRr (by omega)) (by omega)) (fun j hj2 => ?_)
        by_cases c6 : j = 6
        · subst c6
          rw [ups_e rfl]
          rfl
        · rw [ups_n c6]
          by_cases c7 : j = 7
          · subst c7
            rw [ups_e rfl]
            rfl
          · rw [ups_n c7]
            exact hj j hj2 c6 c7
      · rw [gi_si, if_neg (by omega), gi_si, if_neg (by omega)]
        exact h25r
    cases wr with
    | false =>
      have h24n' : mgi ν 314 24 = nI 0 := h24n
      have hfin := fin _ _ hF25 hR (by rw [gi_si, if_pos ⟨rfl, rfl⟩]) e6 (fun j hj c6 c7 => by
        by_cases c : j < 11
        · rw [low j c]
          have : j = 0 ∨ j = 1 ∨ j = 2 ∨ j = 3 ∨ j = 4 ∨ j = 5 ∨ j = 8 ∨ j = 9 ∨ j = 10 := by omega
          rcases this with e | e | e | e | e | e | e | e | e <;> subst e <;> rfl
        · unfold latP pasS
          rw [if_neg c6, if_neg c7, if_neg (show j ≠ 8 by omega), if_neg (show j ≠ 9 by omega), if_neg (show j ≠ 10 by omega)]
          have es : stS s j = s j := by
            unfold stS
            rw [ups_n (by omega), ups_n (by omega)]
          by_cases d : 11 ≤ j ∧ j < 11 + 7 * s 0 ∧ (j - 11) % 7 = 2
          · rw [if_pos d, if_pos d, es]
          · rw [if_neg d, if_neg d, if_neg (by rintro ⟨x, -⟩; cases x), es])
      have hr6 : mgi ν 315 6 = nI (s 6) := (hN1 6 (by decide) (by decide)).trans (by rw [e6])
      unfold S_X11_write
      simp (disch := first | omega | (simp only [Gp_si, Gp_sl, Gp_ci, Gp_cl]; assumption)) only [li_0, li_1, li_2, li_3, li_4, li_5, li_6, li_7, li_8, li_9, li_10, li_11, li_12, li_13, li_14, li_15, li_16, li_17, li_18, li_19, li_20, li_21, li_22, li_23, li_24, li_25, li_26, li_27, li_28, li_29, li_30, li_32, li_33, li_34, li_35, li_36, li_37, li_38, li_39, li_40, li_41, li_42, li_43, li_44, li_45, li_46, li_47, li_48, li_49, li_50, li_51, li_52, li_53, li_54, li_55, li_56, li_57, li_58, li_59, li_60, li_61, li_62, li_63, li_64, li_65, li_66, li_67, li_68, li_69, li_70, li_71, li_72, li_73, li_74, li_75, li_76, li_77, li_78, li_79, li_80, li_81, li_82, li_83, li_84, li_85, li_86, li_87, li_88, li_89, li_90, li_91, li_92, li_93, li_94, li_95, li_96, li_97, li_98, li_99, li_100, li_101, li_102, li_103, li_104, li_105, li_106, li_107, li_108, li_109, li_110, li_111, li_112, li_113, li_114, li_115, li_116, li_117, li_118, li_119, li_120, li_121, li_122, li_123, li_124, li_125, li_126, li_127, li_128, li_129, li_130, li_134, li_160, li_197, li_229, li_255, li_256, li_265, li_300, li_301, li_330, li_353, li_463, li_720, li_729, li_768, li_999, li_2610, li_2807, li_2867, li_2916, li_4096, li_9999, li_10000, li_30643, li_65535, li_99999, li_1000000, gi_si, gi_sl, gi_sr, gi_ci, gi_cl, gl_si, gl_sl, gl_sr, gl_ci, gl_cl, gr_si, gr_sl, gr_sr, gr_ci, gr_cl, ln_si, ln_sl, ln_sr, ln_ci, ln_cl, ok_si, ok_sl, ok_sr, ok_ci, ok_cl, gp_k hH, gp_l hH, gp_r hH, gp_m hH, Option.some.injEq, exists_eq_left', exists_eq_left, forall_eq, forall_eq', true_and, and_true, if_true, if_false, true_imp_iff, false_imp_iff, not_true_eq_false, not_false_eq_true, false_and, and_false, reduceIte, reduceCtorEq, forall_const, Nat.reduceEqDiff, Nat.reduceAdd, Nat.reduceMul, Nat.reduceSub, Nat.reduceLT, Nat.reduceLeDiff, Nat.reduceMod, Nat.reduceDiv, and_self, ne_eq, exists_const, Nat.add_sub_cancel, nI_add, pk_mul, pk_sub, q_rem, q_div, q_eq, q_le, q_lt, q_cl, q_in, q_m1, q_1m, q_neg, sh1n, bitn, q_mod2, q_neq0, bq_t, bq_f, bq_t2, bq_f2, i01, i10, q_tt, q_ff, ups_e, ups_n, fil_i, fil_o, zq_if, zq_0, zq_1, if_pos, if_neg, h24n', hr6]
      exact hfin
    | true =>
      have h24n' : mgi ν 314 24 = nI 1 := h24n
      refine m_write (s := latP (stS s) (laS s T) (s 0)) (la := laS s T) (by exact hH) hR (by rw [gi_si, if_neg (by omega)]; exact h24n') (by rw [e10]; omega) (by rw [e6]; omega) (by rw [e8]; omega) (by rw [e7]; omega) (by omega) (fun ρ hFw hRw h25w => ?_)
      have hI := fq_gp (show Gp (msi ν 314 25 (nI (lo + pcn (laS s T)))) from hH) hFw.1
      rw [e6, e7, e8] at hRw
      have hfin := fin ρ _ (fvq_tr hF25 hFw) hRw (by rw [h25w, gi_si, if_pos ⟨rfl, rfl⟩]) (by
        unfold wrtS wrtN
        split <;> simp (disch := omega) only [ups_n, fil_o, e6]) (fun j hj c6 c7 => by
        unfold wrtS
        rw [e10]
        by_cases c30 : s 10 = 30
        · rw [if_pos c30]
          unfold wrtN
          by_cases c10 : j = 10
          · subst c10
            rw [ups_e rfl, pas_10, if_pos c30]
          · rw [ups_n c10]
            by_cases cb : 2807 ≤ j ∧ j < 2867
            · obtain ⟨i, b, hi, hb, rfl⟩ : ∃ i b, i < 30 ∧ b < 2 ∧ j = 2807 + 2 * i + b := ⟨(j - 2807) / 2, (j - 2807) % 2, by omega, by omega, by omega⟩
              rw [pas_b w.1 hi hb, if_pos c30]
              by_cases ci : i = 29
              · subst ci
                have : b = 0 ∨ b = 1 := by omega
                rcases this with e | e
                · subst e
                  rw [ups_n (by omega), ups_e (by omega), if_pos rfl]
                  rfl
                · subst e
                  rw [ups_e (by omega), if_pos rfl]
                  rfl
              · rw [if_neg ci, ups_n (by omega), ups_n (by omega), ups_n (by omega), fil_i (by omega) (by omega), eo _ (by omega) (by omega), show 2809 + (2807 + 2 * i + b - 2807) = 2809 + 2 * i + b by omega]
            · rw [ups_n (by omega), ups_n (by omega), ups_n (by omega), fil_o (by omega)]
              by_cases c : j < 11
              · rw [low j c]
                have : j = 0 ∨ j = 1 ∨ j = 2 ∨ j = 3 ∨ j = 4 ∨ j = 5 ∨ j = 8 ∨ j = 9 := by omega
                rcases this with e | e | e | e | e | e | e | e <;> subst e <;> rfl
              · unfold latP pasS
                rw [if_neg c6, if_neg c7, if_neg (show j ≠ 8 by omega), if_neg (show j ≠ 9 by omega), if_neg c10]
                have es : stS s j = s j := by
                  unfold stS
                  rw [ups_n (by omega), ups_n (by omega)]
                by_cases d : 11 ≤ j ∧ j < 11 + 7 * s 0 ∧ (j - 11) % 7 = 2
                · rw [if_pos d, if_pos d, es]
                · rw [if_neg d, if_neg d, if_neg (fun x => cb x.2), es]
        · rw [if_neg c30]
          unfold wrtN
          by_cases c10 : j = 10
          · subst c10
            rw [ups_e rfl, pas_10, if_neg c30]
          · rw [ups_n c10]
            by_cases cb : 2807 ≤ j ∧ j < 2867
            · obtain ⟨i, b, hi, hb, rfl⟩ : ∃ i b, i < 30 ∧ b < 2 ∧ j = 2807 + 2 * i + b := ⟨(j - 2807) / 2, (j - 2807) % 2, by omega, by omega, by omega⟩
              rw [pas_b w.1 hi hb, if_neg c30]
              by_cases ci : i = s 10
              · subst ci
                have : b = 0 ∨ b = 1 := by omega
                rcases this with e | e
                · subst e
                  rw [ups_n (by omega), ups_e (by omega), if_pos rfl]
                  rfl
                · subst e
                  rw [ups_e (by omega), if_pos rfl]
                  rfl
              · rw [if_neg ci, ups_n (by omega), ups_n (by omega), eo _ (by omega) (by omega)]
            · rw [ups_n (by omega), ups_n (by omega)]
              by_cases c : j < 11
              · rw [low j c]
                have : j = 0 ∨ j = 1 ∨ j = 2 ∨ j = 3 ∨ j = 4 ∨ j = 5 ∨ j = 8 ∨ j = 9 := by omega
                rcases this with e | e | e | e | e | e | e | e <;> subst e <;> rfl
              · unfold latP pasS
                rw [if_neg c6, if_neg c7, if_neg (show j ≠ 8 by omega), if_neg (show j ≠ 9 by omega), if_neg c10]
                have es : stS s j = s j := by
                  unfold stS
                  rw [ups_n (by omega), ups_n (by omega)]
                by_cases d : 11 ≤ j ∧ j < 11 + 7 * s 0 ∧ (j - 11) % 7 = 2
                · rw [if_pos d, if_pos d, es]
                · rw [if_neg d, if_neg d, if_neg (fun x => cb x.2), es])
      have hr6 : mgi ρ 315 6 = nI (s 6) := (hRw.1 6 (by decide) (by decide)).trans (by
        unfold wrtS wrtN
        split <;> simp (disch := omega) only [ups_n, fil_o, e6])
      simp (disch := first | omega | (simp only [Gp_si, Gp_sl, Gp_ci, Gp_cl]; assumption)) only [li_0, li_1, li_2, li_3, li_4, li_5, li_6, li_7, li_8, li_9, li_10, li_11, li_12, li_13, li_14, li_15, li_16, li_17, li_18, li_19, li_20, li_21, li_22, li_23, li_24, li_25, li_26, li_27, li_28, li_29, li_30, li_32, li_33, li_34, li_35, li_36, li_37, li_38, li_39, li_40, li_41, li_42, li_43, li_44, li_45, li_46, li_47, li_48, li_49, li_50, li_51, li_52, li_53, li_54, li_55, li_56, li_57, li_58, li_59, li_60, li_61, li_62, li_63, li_64, li_65, li_66, li_67, li_68, li_69, li_70, li_71, li_72, li_73, li_74, li_75, li_76, li_77, li_78, li_79, li_80, li_81, li_82, li_83, li_84, li_85, li_86, li_87, li_88, li_89, li_90, li_91, li_92, li_93, li_94, li_95, li_96, li_97, li_98, li_99, li_100, li_101, li_102, li_103, li_104, li_105, li_106, li_107, li_108, li_109, li_110, li_111, li_112, li_113, li_114, li_115, li_116, li_117, li_118, li_119, li_120, li_121, li_122, li_123, li_124, li_125, li_126, li_127, li_128, li_129, li_130, li_134, li_160, li_197, li_229, li_255, li_256, li_265, li_300, li_301, li_330, li_353, li_463, li_720, li_729, li_768, li_999, li_2610, li_2807, li_2867, li_2916, li_4096, li_9999, li_10000, li_30643, li_65535, li_99999, li_1000000, gi_si, gi_sl, gi_sr, gi_ci, gi_cl, gl_si, gl_sl, gl_sr, gl_ci, gl_cl, gr_si, gr_sl, gr_sr, gr_ci, gr_cl, ln_si, ln_sl, ln_sr, ln_ci, ln_cl, ok_si, ok_sl, ok_sr, ok_ci, ok_cl, gp_k hI, gp_l hI, gp_r hI, gp_m hI, Option.some.injEq, exists_eq_left', exists_eq_left, forall_eq, forall_eq', true_and, and_true, if_true, if_false, true_imp_iff, false_imp_iff, not_true_eq_false, not_false_eq_true, false_and, and_false, reduceIte, reduceCtorEq, forall_const, Nat.reduceEqDiff, Nat.reduceAdd, Nat.reduceMul, Nat.reduceSub, Nat.reduceLT, Nat.reduceLeDiff, Nat.reduceMod, Nat.reduceDiv, and_self, ne_eq, exists_const, Nat.add_sub_cancel, nI_add, pk_mul, pk_sub, q_rem, q_div, q_eq, q_le, q_lt, q_cl, q_in, q_m1, q_1m, q_neg, sh1n, bitn, q_mod2, q_neq0, bq_t, bq_f, bq_t2, bq_f2, i01, i10, q_tt, q_ff, ups_e, ups_n, fil_i, fil_o, zq_if, zq_0, zq_1, if_pos, if_neg, hr6]
      exact hfin
  · have w2 := wf_p hW (show i < s 0 by omega)
    have hNl : mgi ν 315 (13 + 7 * i) = nI (s (13 + 7 * i)) := (hN1 _ (by omega) (by omega)).trans (by
      rw [lat_o (by omega)]
      unfold stS
      rw [ups_n (by omega), ups_n (by omega)])
    have e13 : 11 + 2 + 7 * i = 13 + 7 * i := by omega
    by_cases c : (laS s T).testBit i = true
    · simp (disch := first | omega | (simp only [Gp_si, Gp_sl, Gp_ci, Gp_cl]; assumption)) only [li_0, li_1, li_2, li_3, li_4, li_5, li_6, li_7, li_8, li_9, li_10, li_11, li_12, li_13, li_14, li_15, li_16, li_17, li_18, li_19, li_20, li_21, li_22, li_23, li_24, li_25, li_26, li_27, li_28, li_29, li_30, li_32, li_33, li_34, li_35, li_36, li_37, li_38, li_39, li_40, li_41, li_42, li_43, li_44, li_45, li_46, li_47, li_48, li_49, li_50, li_51, li_52, li_53, li_54, li_55, li_56, li_57, li_58, li_59, li_60, li_61, li_62, li_63, li_64, li_65, li_66, li_67, li_68, li_69, li_70, li_71, li_72, li_73, li_74, li_75, li_76, li_77, li_78, li_79, li_80, li_81, li_82, li_83, li_84, li_85, li_86, li_87, li_88, li_89, li_90, li_91, li_92, li_93, li_94, li_95, li_96, li_97, li_98, li_99, li_100, li_101, li_102, li_103, li_104, li_105, li_106, li_107, li_108, li_109, li_110, li_111, li_112, li_113, li_114, li_115, li_116, li_117, li_118, li_119, li_120, li_121, li_122, li_123, li_124, li_125, li_126, li_127, li_128, li_129, li_130, li_134, li_160, li_197, li_229, li_255, li_256, li_265, li_300, li_301, li_330, li_353, li_463, li_720, li_729, li_768, li_999, li_2610, li_2807, li_2867, li_2916, li_4096, li_9999, li_10000, li_30643, li_65535, li_99999, li_1000000, gi_si, gi_sl, gi_sr, gi_ci, gi_cl, gl_si, gl_sl, gl_sr, gl_ci, gl_cl, gr_si, gr_sl, gr_sr, gr_ci, gr_cl, ln_si, ln_sl, ln_sr, ln_ci, ln_cl, ok_si, ok_sl, ok_sr, ok_ci, ok_cl, gp_k hH, gp_l hH, gp_r hH, gp_m hH, Option.some.injEq, exists_eq_left', exists_eq_left, forall_eq, forall_eq', true_and, and_true, if_true, if_false, true_imp_iff, false_imp_iff, not_true_eq_false, not_false_eq_true, false_and, and_false, reduceIte, reduceCtorEq, forall_const, Nat.reduceEqDiff, Nat.reduceAdd, Nat.reduceMul, Nat.reduceSub, Nat.reduceLT, Nat.reduceLeDiff, Nat.reduceMod, Nat.reduceDiv, and_self, ne_eq, exists_const, Nat.add_sub_cancel, nI_add, pk_mul, pk_sub, q_rem, q_div, q_eq, q_le, q_lt, q_cl, q_in, q_m1, q_1m, q_neg, sh1n, bitn, q_mod2, q_neq0, bq_t, bq_f, bq_t2, bq_f2, i01, i10, q_tt, q_ff, ups_e, ups_n, fil_i, fil_o, zq_if, zq_0, zq_1, if_pos, if_neg, hN0, e_has (show laS s T < 2 ^ 31 by omega) (show i < 32 by omega), c, f_get, e13, hNl, nI_lI, e_cut, f_put]
      refine hK _ (by omega) ⟨fvq_si hF 315 _ _ (by omega), RowA_s (RowA_si hN (by omega)) (fun j _ => ?_), by rw [gi_si, if_neg (by omega)]; exact h25n, by rw [gi_si, if_neg (by omega)]; exact h24n⟩
      by_cases e : j = 13 + 7 * i
      · subst e
        rw [ups_e rfl, lat_i (by omega)]
        unfold cutS bitS
        rw [if_pos c, if_neg (by omega), if_neg (by omega)]
        unfold stS
        rw [ups_n (by omega), ups_n (by omega)]
        omega
      · rw [ups_n e, latP_s e]
    · simp (disch := first | omega | (simp only [Gp_si, Gp_sl, Gp_ci, Gp_cl]; assumption)) only [li_0, li_1, li_2, li_3, li_4, li_5, li_6, li_7, li_8, li_9, li_10, li_11, li_12, li_13, li_14, li_15, li_16, li_17, li_18, li_19, li_20, li_21, li_22, li_23, li_24, li_25, li_26, li_27, li_28, li_29, li_30, li_32, li_33, li_34, li_35, li_36, li_37, li_38, li_39, li_40, li_41, li_42, li_43, li_44, li_45, li_46, li_47, li_48, li_49, li_50, li_51, li_52, li_53, li_54, li_55, li_56, li_57, li_58, li_59, li_60, li_61, li_62, li_63, li_64, li_65, li_66, li_67, li_68, li_69, li_70, li_71, li_72, li_73, li_74, li_75, li_76, li_77, li_78, li_79, li_80, li_81, li_82, li_83, li_84, li_85, li_86, li_87, li_88, li_89, li_90, li_91, li_92, li_93, li_94, li_95, li_96, li_97, li_98, li_99, li_100, li_101, li_102, li_103, li_104, li_105, li_106, li_107, li_108, li_109, li_110, li_111, li_112, li_113, li_114, li_115, li_116, li_117, li_118, li_119, li_120, li_121, li_122, li_123, li_124, li_125, li_126, li_127, li_128, li_129, li_130, li_134, li_160, li_197, li_229, li_255, li_256, li_265, li_300, li_301, li_330, li_353, li_463, li_720, li_729, li_768, li_999, li_2610, li_2807, li_2867, li_2916, li_4096, li_9999, li_10000, li_30643, li_65535, li_99999, li_1000000, gi_si, gi_sl, gi_sr, gi_ci, gi_cl, gl_si, gl_sl, gl_sr, gl_ci, gl_cl, gr_si, gr_sl, gr_sr, gr_ci, gr_cl, ln_si, ln_sl, ln_sr, ln_ci, ln_cl, ok_si, ok_sl, ok_sr, ok_ci, ok_cl, gp_k hH, gp_l hH, gp_r hH, gp_m hH, Option.some.injEq, exists_eq_left', exists_eq_left, forall_eq, forall_eq', true_and, and_true, if_true, if_false, true_imp_iff, false_imp_iff, not_true_eq_false, not_false_eq_true, false_and, and_false, reduceIte, reduceCtorEq, forall_const, Nat.reduceEqDiff, Nat.reduceAdd, Nat.reduceMul, Nat.reduceSub, Nat.reduceLT, Nat.reduceLeDiff, Nat.reduceMod, Nat.reduceDiv, and_self, ne_eq, exists_const, Nat.add_sub_cancel, nI_add, pk_mul, pk_sub, q_rem, q_div, q_eq, q_le, q_lt, q_cl, q_in, q_m1, q_1m, q_neg, sh1n, bitn, q_mod2, q_neq0, bq_t, bq_f, bq_t2, bq_f2, i01, i10, q_tt, q_ff, ups_e, ups_n, fil_i, fil_o, zq_if, zq_0, zq_1, if_pos, if_neg, hN0, e_has (show laS s T < 2 ^ 31 by omega) (show i < 32 by omega), c]
      refine hK _ (by omega) ⟨hF, RowA_s hN (fun j _ => ?_), h25n, h24n⟩
      by_cases e : j = 13 + 7 * i
      · subst e
        rw [lat_o (P := i) (by omega), lat_i (P := i + 1) (by omega)]
        unfold bitS
        rw [if_neg c]
        rfl
      · rw [latP_s e]
end MP
