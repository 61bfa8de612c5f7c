/-! the image and back: both sides -/
def xI (a : Nat) : Bool := decide (136 ≤ a ∧ a ≤ 270)
def xJ (a : Nat) : Bool := decide (1 ≤ a ∧ a ≤ 135)
theorem xI_x {a : Nat} (h : xI a = false) : a < 136 ∨ 270 < a := by
  have := of_decide_eq_false h
  omega
theorem xJ_x {a : Nat} (h : xJ a = false) : a < 1 ∨ 135 < a := by
  have := of_decide_eq_false h
  omega
theorem xI_o {a : Nat} (h : a < 136 ∨ 270 < a) : xI a = false := decide_eq_false (by omega)
theorem xJ_o {a : Nat} (h : a < 1 ∨ 135 < a) : xJ a = false := decide_eq_false (by omega)
theorem fr_ja {μ ν : Me} (h : Fr xJ μ ν) : Fr xA μ ν := fr_mo h (fun a x => xJ_o (by have := xA_x x; omega))
section IM
variable {μ : Me} {s si : Nat → Nat} {T : Nat → Tx} {tn : Nat} {Q : Me → Prop}
theorem e_ahead1 (hG : Gp μ) {el i : Nat} (hel : mgi μ 1 16 = nI el) (h1 : el < 30) (h2 : i < 30) {Q : Option Nat → Me → Prop} : S_X9_aheadOf 1 (nI i) μ Q = Q (some (16 + 4 * ((el + i) % 30))) μ := e_ahead hG hel h1 h2
theorem e_ahead136 (hG : Gp μ) {el i : Nat} (hel : mgi μ 136 16 = nI el) (h1 : el < 30) (h2 : i < 30) {Q : Option Nat → Me → Prop} : S_X9_aheadOf 136 (nI i) μ Q = Q (some (151 + 4 * ((el + i) % 30))) μ := by
  have hm := Nat.mod_lt (el + i) (show 0 < 30 by decide)
  have hr := (hG.2.2.2.1 ((el + i) % 30) hm).2
  unfold S_X9_aheadOf
  simp (disch := first | omega | (simp only [Gp_si, Gp_sl, Gp_ci, Gp_cl]; assumption)) only [li_0, li_1, li_2, li_3, li_4, li_5, li_6, li_7, li_8, li_9, li_10, li_11, li_12, li_13, li_14, li_15, li_16, li_17, li_18, li_19, li_20, li_21, li_22, li_23, li_24, li_25, li_26, li_27, li_28, li_29, li_30, li_32, li_33, li_34, li_35, li_36, li_37, li_38, li_39, li_40, li_41, li_42, li_43, li_44, li_45, li_46, li_47, li_48, li_49, li_50, li_51, li_52, li_53, li_54, li_55, li_56, li_57, li_58, li_59, li_60, li_61, li_62, li_63, li_64, li_65, li_66, li_67, li_68, li_69, li_70, li_71, li_72, li_73, li_74, li_75, li_76, li_77, li_78, li_79, li_80, li_81, li_82, li_83, li_84, li_85, li_86, li_87, li_88, li_89, li_90, li_91, li_92, li_93, li_94, li_95, li_96, li_97, li_98, li_99, li_100, li_101, li_102, li_103, li_104, li_105, li_106, li_107, li_108, li_109, li_110, li_111, li_112, li_113, li_114, li_115, li_116, li_117, li_118, li_119, li_120, li_121, li_122, li_123, li_124, li_125, li_126, li_127, li_128, li_129, li_130, li_134, li_160, li_197, li_229, li_255, li_256, li_265, li_300, li_301, li_330, li_353, li_463, li_720, li_729, li_768, li_999, li_2610, li_2807, li_2867, li_2916, li_4096, li_9999, li_10000, li_30643, li_65535, li_99999, li_1000000, gi_si, gi_sl, gi_sr, gi_ci, gi_cl, gl_si, gl_sl, gl_sr, gl_ci, gl_cl, gr_si, gr_sl, gr_sr, gr_ci, gr_cl, ln_si, ln_sl, ln_sr, ln_ci, ln_cl, ok_si, ok_sl, ok_sr, ok_ci, ok_cl, gp_k hG, gp_l hG, gp_r hG, gp_m hG, Option.some.injEq, exists_eq_left', exists_eq_left, forall_eq, forall_eq', true_and, and_true, if_true, if_false, true_imp_iff, false_imp_iff, not_true_eq_false, not_false_eq_true, false_and, and_false, reduceIte, reduceCtorEq, forall_const, Nat.reduceEqDiff, Nat.reduceAdd, Nat.reduceMul, Nat.reduceSub, Nat.reduceLT, Nat.reduceLeDiff, Nat.reduceMod, Nat.reduceDiv, and_self, ne_eq, exists_const, Nat.add_sub_cancel, nI_add, pk_mul, pk_sub, q_rem, q_div, q_eq, q_le, q_lt, q_cl, q_in, q_m1, q_1m, q_neg, sh1n, bitn, q_mod2, q_neq0, bq_t, bq_f, bq_t2, bq_f2, i01, i10, q_tt, q_ff, ups_e, ups_n, fil_i, fil_o, zq_if, zq_0, zq_1, if_pos, if_neg, hel, md, hr]
/-- a town's own rows are written, the first j of them -/
def Cm (μ ν : Me) (t j : Nat) : Prop := mnn ν = mnn μ ∧ (∀ a, mkd ν a = mkd μ a) ∧ (∀ a, mln ν a = mln μ a) ∧ (∀ a q, mgr ν a q = mgr μ a q) ∧ (∀ a q, (a < t ∨ t + j < a) → mgi ν a q = mgi μ a q) ∧ (∀ a q, mgl ν a q = mgl μ a q)
theorem cm_rf (t j : Nat) : Cm μ μ t j := ⟨rfl, fun _ => rfl, fun _ => rfl, fun _ _ => rfl, fun _ _ _ => rfl, fun _ _ => rfl⟩
theorem cm_gp {ν : Me} {t j : Nat} (hG : Gp μ) (h : Cm μ ν t j) : Gp ν := Gp_x hG (Nat.le_of_eq h.1.symm) (fun a _ => ⟨h.2.1 a, h.2.2.1 a⟩) (fun a q _ _ _ _ _ _ _ => h.2.2.2.1 a q)
theorem cm_i {ν ν' : Me} {t j q : Nat} {v : Int32} (h : Cm μ ν t j) (e : ν' = msi ν t q v) : Cm μ ν' t j ∧ mgi ν' t q = v ∧ ∀ q', q' ≠ q → mgi ν' t q' = mgi ν t q' := by
  subst e
  refine ⟨⟨h.1, h.2.1, h.2.2.1, h.2.2.2.1, fun a q h1 => ?_, h.2.2.2.2.2⟩, by rw [gi_si, if_pos ⟨rfl, rfl⟩], fun q' hq => by rw [gi_si, if_neg (fun x => hq x.2)]⟩
  rw [gi_si, if_neg (by omega)]
  exact h.2.2.2.2.1 a q h1
theorem cm_c {ν ν' : Me} {t j o o' n : Nat} {m : Int32} (h : Cm μ ν t j) (e : ν' = mci ν o' (va_cpy (mgi ν o) (mgi ν o') (0 : Int32).toNatClampNeg (0 : Int32).toNatClampNeg m.toNatClampNeg)) (ho : o' = t + j + 1) (ho2 : o < t ∨ t + j < o) (hm : m.toNatClampNeg = n) : Cm μ ν' t (j + 1) ∧ (∀ a q, a ≠ o' → mgi ν' a q = mgi ν a q) ∧ ∀ p, p < n → mgi ν' o' p = mgi μ o p := by
  subst e
  have z : (0 : Int32).toNatClampNeg = 0 := by decide
  rw [hm, z]
  refine ⟨⟨h.1, h.2.1, h.2.2.1, h.2.2.2.1, fun a q h1 => ?_, h.2.2.2.2.2⟩, fun a q ha => by rw [gi_ci, if_neg ha], fun p hp => ?_⟩
  · rw [gi_ci, if_neg (by omega)]
    exact h.2.2.2.2.1 a q (by omega)
  · rw [gi_ci, if_pos rfl, pk_cpy_in (by omega) (by omega), Nat.zero_add, Nat.sub_zero]
    exact h.2.2.2.2.1 o p ho2
theorem cm_fr {ν : Me} {b : Nat → Bool} {t j : Nat} (h : Cm μ ν t j) (hb : ∀ a, b a = false → a < t ∨ t + j < a) : Fr b μ ν := ⟨h.1, h.2.1, h.2.2.1, fun a q _ => h.2.2.2.1 a q, fun a q x => h.2.2.2.2.1 a q (hb a x), fun a q _ => h.2.2.2.2.2 a q⟩
theorem fr_fm {b : Nat → Bool} {ν : Me} {m : Nat} (h : Fmo μ ν m) (hb : ∀ a, b a = false → a < m ∨ m + 4 ≤ a) : Fr b μ ν := ⟨h.1, h.2.1, h.2.2.1, fun a q _ => h.2.2.2.1 a q, fun a q x => h.2.2.2.2.1 a q (by have := hb a x; omega), fun a q x => h.2.2.2.2.2 a q (by have := hb a x; omega)⟩
theorem p_img_tail {β : Me} (hG : Gp β) (hW : WF s) (h : TownR β 1 s) (hc1 : mgi β 136 0 = nI (s 0)) (hc2 : mgi β 136 6 = nI (s 1)) (hc3 : mgi β 136 7 = nI (s 2) - 1) (hc5 : mgi β 136 8 = nI (s 4)) (hc6 : mgi β 136 11 = nI (s 5)) (hc7 : ∀ p, p < 8 → mgi β 137 p = mgi β 2 p) (hc8 : ∀ p, p < 4 → mgi β 138 p = mgi β 3 p) (hc9 : ∀ p, p < 8 → mgi β 139 p = mgi β 4 p) (hc10 : ∀ p, p < 8 → mgi β 140 p = mgi β 5 p) (hc11 : ∀ p, p < 8 → mgi β 141 p = mgi β 6 p) (hc12 : ∀ p, p < 8 → mgi β 142 p = mgi β 7 p) (hc13 : ∀ p, p < 8 → mgi β 143 p = mgi β 8 p) (hc14 : ∀ p, p < 8 → mgi β 144 p = mgi β 9 p) (hc15 : ∀ p, p < 8 → mgi β 145 p = mgi β 10 p) (k : ∀ ν, Fr xI β ν → TownR ν 136 s → Q ν) : S_X3_become 146 11 β (fun μ56 => L_X9_become_200 136 1 (nI 0) (msi (msi μ56 136 16 (nI 0)) 136 17 (mgi μ56 1 17)) Q) := by
  have wn := wf_n hW
  obtain ⟨⟨d1, d2, d3, d4, d5, d6, d7, d8, d9, d10, d11⟩, hNo, el, hel, h16, hSt⟩ := h
  refine p_mbecome (m := 146) (m' := 11) hG (by decide) (by decide) (by decide) (by decide) (by decide) (fun ν hF g0 g1 g2 g3 => ?_)
  have hFt : Fr xI β ν := fr_fm hF (fun a x => by have := xI_x x; omega)
  have hF2 : Fr xI β (msi (msi ν 136 16 (nI 0)) 136 17 (mgi ν 1 17)) := fr_si (fr_si hFt 136 16 _ rfl) 136 17 _ rfl
  have ne : ∀ a q, (a < 146 ∨ 150 ≤ a) → (a = 136 → q ≠ 16 ∧ q ≠ 17) → mgi (msi (msi ν 136 16 (nI 0)) 136 17 (mgi ν 1 17)) a q = mgi β a q := fun a q h1 h2 => by
    rw [gi_si, if_neg (by omega), gi_si, if_neg (by omega)]
    exact hF.2.2.2.2.1 a q (by omega)
  have nl : ∀ a q, a ≠ 149 → mgl (msi (msi ν 136 16 (nI 0)) 136 17 (mgi ν 1 17)) a q = mgl β a q := fun a q h1 => hF.2.2.2.2.2 a q h1
  have v17 : mgi ν 1 17 = nI (s 3) := (hF.2.2.2.2.1 1 17 (by omega)).trans d4
  rw [v17] at hF2 ne nl ⊢
  have hTo : ToldR (msi (msi ν 136 16 (nI 0)) 136 17 (nI (s 3))) 136 s := by
    refine ⟨(ne _ _ (by omega) (by omega)).trans hc1, (ne _ _ (by omega) (by omega)).trans hc2, (ne _ _ (by omega) (by omega)).trans hc3, by rw [gi_si, if_pos ⟨rfl, rfl⟩], (ne _ _ (by omega) (by omega)).trans hc5, (ne _ _ (by omega) (by omega)).trans hc6, fun p hp => ⟨?_, ?_, ?_⟩, fun r hr => ?_, fun p hp => ?_, fun i hi => ⟨?_, ?_⟩, fun i hi => ⟨?_, ?_⟩⟩
    · exact (ne _ _ (by omega) (by omega)).trans ((hc7 p (by omega)).trans (d7 p hp).1)
    · exact (ne _ _ (by omega) (by omega)).trans ((hc9 p (by omega)).trans (d7 p hp).2.1)
    · exact (ne _ _ (by omega) (by omega)).trans ((hc10 p (by omega)).trans (d7 p hp).2.2)
    · exact (ne _ _ (by omega) (by omega)).trans ((hc8 r (by omega)).trans (d8 r hr))
    · exact (ne _ _ (by omega) (by omega)).trans ((hc11 p (by omega)).trans (d9 p hp))
    · exact (ne _ _ (by omega) (by omega)).trans ((hc12 i (by omega)).trans (d10 i hi).1)
    · exact (ne _ _ (by omega) (by omega)).trans ((hc13 i (by omega)).trans (d10 i hi).2)
    · exact (ne _ _ (by omega) (by omega)).trans ((hc14 i (by omega)).trans (d11 i hi).1)
    · exact (ne _ _ (by omega) (by omega)).trans ((hc15 i (by omega)).trans (d11 i hi).2)
  have hNn : NowR (msi (msi ν 136 16 (nI 0)) 136 17 (nI (s 3))) 146 s := by
    have hN2 : NowR ν 146 s := mom_cp hNo wn.1 (by omega) g0 g1 g2 g3
    exact MomR_x hN2 (fun q => by rw [gi_si, if_neg (by omega), gi_si, if_neg (by omega)]) (fun q => by rw [gi_si, if_neg (by omega), gi_si, if_neg (by omega)]) (fun q => by rw [gi_si, if_neg (by omega), gi_si, if_neg (by omega)]) (fun q => rfl)
  have e16 : mgi (msi (msi ν 136 16 (nI 0)) 136 17 (nI (s 3))) 136 16 = nI 0 := by rw [gi_si, if_neg (by omega), gi_si, if_pos ⟨rfl, rfl⟩]
  have e17 : mgi (msi (msi ν 136 16 (nI 0)) 136 17 (nI (s 3))) 136 17 = nI (s 3) := by rw [gi_si, if_pos ⟨rfl, rfl⟩]
  have hG2 : Gp (msi (msi ν 136 16 (nI 0)) 136 17 (nI (s 3))) := fr_gp hG hF2
  generalize msi (msi ν 136 16 (nI 0)) 136 17 (nI (s 3)) = γ at hF2 ne nl hTo hNn e16 e17 hG2 ⊢
  refine loop1 (Bd := fun i ν K => B_X9_become_200 136 1 i ν K Q) (fun i ρ => Fr xI β ρ ∧ (∀ a q, (a < 151 ∨ 270 < a) → mgi ρ a q = mgi γ a q) ∧ (∀ a q, (a < 151 ∨ 270 < a) → mgl ρ a q = mgl γ a q) ∧ ∀ j, j < i → StepR ρ (151 + 4 * j) s j) (s 3) 0 (by omega) ⟨hF2, fun _ _ _ => rfl, fun _ _ _ => rfl, fun j hj => absurd hj (by omega)⟩ ?_
  rintro i ρ hi ⟨hFr, he, hl, hs⟩ K hK
  have hH := fr_gp hG hFr
  have w17 : mgi ρ 136 17 = nI (s 3) := (he 136 17 (by omega)).trans e17
  have w16 : mgi ρ 136 16 = nI 0 := (he 136 16 (by omega)).trans e16
  have u16 : mgi ρ 1 16 = nI el := (hFr.2.2.2.2.1 1 16 (by decide)).trans h16
  unfold B_X9_become_200
  by_cases hin : i = s 3
  · subst hin
    simp (disch := first | omega | (simp only [Gp_si, Gp_sl, Gp_ci, Gp_cl]; assumption)) only [li_0, li_1, li_2, li_3, li_4, li_5, li_6, li_7, li_8, li_9, li_10, li_11, li_12, li_13, li_14, li_15, li_16, li_17, li_18, li_19, li_20, li_21, li_22, li_23, li_24, li_25, li_26, li_27, li_28, li_29, li_30, li_32, li_33, li_34, li_35, li_36, li_37, li_38, li_39, li_40, li_41, li_42, li_43, li_44, li_45, li_46, li_47, li_48, li_49, li_50, li_51, li_52, li_53, li_54, li_55, li_56, li_57, li_58, li_59, li_60, li_61, li_62, li_63, li_64, li_65, li_66, li_67, li_68, li_69, li_70, li_71, li_72, li_73, li_74, li_75, li_76, li_77, li_78, li_79, li_80, li_81, li_82, li_83, li_84, li_85, li_86, li_87, li_88, li_89, li_90, li_91, li_92, li_93, li_94, li_95, li_96, li_97, li_98, li_99, li_100, li_101, li_102, li_103, li_104, li_105, li_106, li_107, li_108, li_109, li_110, li_111, li_112, li_113, li_114, li_115, li_116, li_117, li_118, li_119, li_120, li_121, li_122, li_123, li_124, li_125, li_126, li_127, li_128, li_129, li_130, li_134, li_160, li_197, li_229, li_255, li_256, li_265, li_300, li_301, li_330, li_353, li_463, li_720, li_729, li_768, li_999, li_2610, li_2807, li_2867, li_2916, li_4096, li_9999, li_10000, li_30643, li_65535, li_99999, li_1000000, gi_si, gi_sl, gi_sr, gi_ci, gi_cl, gl_si, gl_sl, gl_sr, gl_ci, gl_cl, gr_si, gr_sl, gr_sr, gr_ci, gr_cl, ln_si, ln_sl, ln_sr, ln_ci, ln_cl, ok_si, ok_sl, ok_sr, ok_ci, ok_cl, gp_k hH, gp_l hH, gp_r hH, gp_m hH, Option.some.injEq, exists_eq_left', exists_eq_left, forall_eq, forall_eq', true_and, and_true, if_true, if_false, true_imp_iff, false_imp_iff, not_true_eq_false, not_false_eq_true, false_and, and_false, reduceIte, reduceCtorEq, forall_const, Nat.reduceEqDiff, Nat.reduceAdd, Nat.reduceMul, Nat.reduceSub, Nat.reduceLT, Nat.reduceLeDiff, Nat.reduceMod, Nat.reduceDiv, and_self, ne_eq, exists_const, Nat.add_sub_cancel, nI_add, pk_mul, pk_sub, q_rem, q_div, q_eq, q_le, q_lt, q_cl, q_in, q_m1, q_1m, q_neg, sh1n, bitn, q_mod2, q_neq0, bq_t, bq_f, bq_t2, bq_f2, i01, i10, q_tt, q_ff, ups_e, ups_n, fil_i, fil_o, zq_if, zq_0, zq_1, if_pos, if_neg, w17]
    refine k ρ hFr ⟨?_, ?_, 0, by omega, w16, fun j hj => ?_⟩
    · exact ToldR_x hTo (fun a q _ _ => he a q (by omega))
    · exact MomR_x hNn (fun q => he _ q (by omega)) (fun q => he _ q (by omega)) (fun q => he _ q (by omega)) (fun q => hl _ q (by omega))
    · rw [show 136 + 15 + 4 * ((0 + j) % 30) = 151 + 4 * j by omega]
      exact hs j hj
  · have hm := Nat.mod_lt (el + i) (show 0 < 30 by decide)
    simp (disch := first | omega | (simp only [Gp_si, Gp_sl, Gp_ci, Gp_cl]; assumption)) only [li_0, li_1, li_2, li_3, li_4, li_5, li_6, li_7, li_8, li_9, li_10, li_11, li_12, li_13, li_14, li_15, li_16, li_17, li_18, li_19, li_20, li_21, li_22, li_23, li_24, li_25, li_26, li_27, li_28, li_29, li_30, li_32, li_33, li_34, li_35, li_36, li_37, li_38, li_39, li_40, li_41, li_42, li_43, li_44, li_45, li_46, li_47, li_48, li_49, li_50, li_51, li_52, li_53, li_54, li_55, li_56, li_57, li_58, li_59, li_60, li_61, li_62, li_63, li_64, li_65, li_66, li_67, li_68, li_69, li_70, li_71, li_72, li_73, li_74, li_75, li_76, li_77, li_78, li_79, li_80, li_81, li_82, li_83, li_84, li_85, li_86, li_87, li_88, li_89, li_90, li_91, li_92, li_93, li_94, li_95, li_96, li_97, li_98, li_99, li_100, li_101, li_102, li_103, li_104, li_105, li_106, li_107, li_108, li_109, li_110, li_111, li_112, li_113, li_114, li_115, li_116, li_117, li_118, li_119, li_120, li_121, li_122, li_123, li_124, li_125, li_126, li_127, li_128, li_129, li_130, li_134, li_160, li_197, li_229, li_255, li_256, li_265, li_300, li_301, li_330, li_353, li_463, li_720, li_729, li_768, li_999, li_2610, li_2807, li_2867, li_2916, li_4096, li_9999, li_10000, li_30643, li_65535, li_99999, li_1000000, gi_si, gi_sl, gi_sr, gi_ci, gi_cl, gl_si, gl_sl, gl_sr, gl_ci, gl_cl, gr_si, gr_sl, gr_sr, gr_ci, gr_cl, ln_si, ln_sl, ln_sr, ln_ci, ln_cl, ok_si, ok_sl, ok_sr, ok_ci, ok_cl, gp_k hH, gp_l hH, gp_r hH, gp_m hH, Option.some.injEq, exists_eq_left', exists_eq_left, forall_eq, forall_eq', true_and, and_true, if_true, if_false, true_imp_iff, false_imp_iff, not_true_eq_false, not_false_eq_true, false_and, and_false, reduceIte, reduceCtorEq, forall_const, Nat.reduceEqDiff, Nat.reduceAdd, Nat.reduceMul, Nat.reduceSub, Nat.reduceLT, Nat.reduceLeDiff, Nat.reduceMod, Nat.reduceDiv, and_self, ne_eq, exists_const, Nat.add_sub_cancel, nI_add, pk_mul, pk_sub, q_rem, q_div, q_eq, q_le, q_lt, q_cl, q_in, q_m1, q_1m, q_neg, sh1n, bitn, q_mod2, q_neq0, bq_t, bq_f, bq_t2, bq_f2, i01, i10, q_tt, q_ff, ups_e, ups_n, fil_i, fil_o, zq_if, zq_0, zq_1, if_pos, if_neg, w17]
    rw [e_ahead136 hH w16 (by omega) (by omega), e_ahead1 hH u16 hel (by omega), show (0 + i) % 30 = i by omega]
    obtain ⟨-, ak⟩ := ah_kd i (by omega)
    obtain ⟨bk, -⟩ := ah_kd ((el + i) % 30) hm
    have hok : mok ρ (151 + 4 * i) 3 := gp_ok hH (by omega) ak
    simp (disch := first | omega | (simp only [Gp_si, Gp_sl, Gp_ci, Gp_cl]; assumption)) only [li_0, li_1, li_2, li_3, li_4, li_5, li_6, li_7, li_8, li_9, li_10, li_11, li_12, li_13, li_14, li_15, li_16, li_17, li_18, li_19, li_20, li_21, li_22, li_23, li_24, li_25, li_26, li_27, li_28, li_29, li_30, li_32, li_33, li_34, li_35, li_36, li_37, li_38, li_39, li_40, li_41, li_42, li_43, li_44, li_45, li_46, li_47, li_48, li_49, li_50, li_51, li_52, li_53, li_54, li_55, li_56, li_57, li_58, li_59, li_60, li_61, li_62, li_63, li_64, li_65, li_66, li_67, li_68, li_69, li_70, li_71, li_72, li_73, li_74, li_75, li_76, li_77, li_78, li_79, li_80, li_81, li_82, li_83, li_84, li_85, li_86, li_87, li_88, li_89, li_90, li_91, li_92, li_93, li_94, li_95, li_96, li_97, li_98, li_99, li_100, li_101, li_102, li_103, li_104, li_105, li_106, li_107, li_108, li_109, li_110, li_111, li_112, li_113, li_114, li_115, li_116, li_117, li_118, li_119, li_120, li_121, li_122, li_123, li_124, li_125, li_126, li_127, li_128, li_129, li_130, li_134, li_160, li_197, li_229, li_255, li_256, li_265, li_300, li_301, li_330, li_353, li_463, li_720, li_729, li_768, li_999, li_2610, li_2807, li_2867, li_2916, li_4096, li_9999, li_10000, li_30643, li_65535, li_99999, li_1000000, gi_si, gi_sl, gi_sr, gi_ci, gi_cl, gl_si, gl_sl, gl_sr, gl_ci, gl_cl, gr_si, gr_sl, gr_sr, gr_ci, gr_cl, ln_si, ln_sl, ln_sr, ln_ci, ln_cl, ok_si, ok_sl, ok_sr, ok_ci, ok_cl, gp_k hH, gp_l hH, gp_r hH, gp_m hH, Option.some.injEq, exists_eq_left', exists_eq_left, forall_eq, forall_eq', true_and, and_true, if_true, if_false, true_imp_iff, false_imp_iff, not_true_eq_false, not_false_eq_true, false_and, and_false, reduceIte, reduceCtorEq, forall_const, Nat.reduceEqDiff, Nat.reduceAdd, Nat.reduceMul, Nat.reduceSub, Nat.reduceLT, Nat.reduceLeDiff, Nat.reduceMod, Nat.reduceDiv, and_self, ne_eq, exists_const, Nat.add_sub_cancel, nI_add, pk_mul, pk_sub, q_rem, q_div, q_eq, q_le, q_lt, q_cl, q_in, q_m1, q_1m, q_neg, sh1n, bitn, q_mod2, q_neq0, bq_t, bq_f, bq_t2, bq_f2, i01, i10, q_tt, q_ff, ups_e, ups_n, fil_i, fil_o, zq_if, zq_0, zq_1, if_pos, if_neg, hok]
    refine p_mbecome (m := 151 + 4 * i) (m' := 16 + 4 * ((el + i) % 30)) hH (by omega) ak (by omega) bk (by omega) (fun σ hFm x0 x1 x2 x3 => ?_)
    refine hK _ (by omega) ⟨fr_tr hFr (fr_fm hFm (fun a x => by have := xI_x x; omega)), fun a q h1 => (hFm.2.2.2.2.1 a q (by omega)).trans (he a q h1), fun a q h1 => (hFm.2.2.2.2.2 a q (by omega)).trans (hl a q h1), fun j hj => ?_⟩
    by_cases c : j = i
    · subst c
      have hb : StepR ρ (16 + 4 * ((el + j) % 30)) s j := StepR_x (hSt j (by omega)) (fun a q h1 h2 => hFr.2.2.2.2.1 a q (xI_o (by omega))) (fun q => hFr.2.2.2.2.2 _ q (xI_o (by omega)))
      exact mom_cp hb wn.1 (wf_sp hW (by omega)) x0 x1 x2 x3
    · exact StepR_x (hs j (by omega)) (fun a q h1 h2 => hFm.2.2.2.2.1 a q (by omega)) (fun q => hFm.2.2.2.2.2 _ q (by omega))
theorem p_img (hG : Gp μ) (hW : WF s) (h : TownR μ 1 s) (k : ∀ ν, Fr xI μ ν → TownR ν 136 s → Q ν) : S_X9_become 136 1 μ Q := by
  obtain ⟨⟨d1, d2, d3, d4, d5, d6, d7, d8, d9, d10, d11⟩, hNo, el, hel, h16, hSt⟩ := id h
  unfold S_X9_become
  refine ⟨gp_ok hG (by decide) (by decide), gp_ok hG (by decide) (by decide), ?_⟩
  intro μ3 e3 μ4 e4 μ5 e5 μ6 e6 μ7 e7
  obtain ⟨m3, v3, w3⟩ := cm_i (cm_rf 136 0) e3
  obtain ⟨m4, v4, w4⟩ := cm_i m3 e4
  obtain ⟨m5, v5, w5⟩ := cm_i m4 e5
  obtain ⟨m6, v6, w6⟩ := cm_i m5 e6
  obtain ⟨m7, v7, w7⟩ := cm_i m6 e7
  clear e3 e4 e5 e6 e7
  have f0 : mgi μ7 136 0 = nI (s 0) := by
    rw [w7 0 (by decide), w6 0 (by decide), w5 0 (by decide), w4 0 (by decide), v3]
    exact d1
  have f6 : mgi μ7 136 6 = nI (s 1) := by
    rw [w7 6 (by decide), w6 6 (by decide), w5 6 (by decide), v4, m3.2.2.2.2.1 1 6 (by omega)]
    exact d2
  have f7 : mgi μ7 136 7 = nI (s 2) - 1 := by
    rw [w7 7 (by decide), w6 7 (by decide), v5, m4.2.2.2.2.1 1 7 (by omega)]
    exact d3
  have f8 : mgi μ7 136 8 = nI (s 4) := by
    rw [w7 8 (by decide), v6, m5.2.2.2.2.1 1 8 (by omega)]
    exact d5
  have f11 : mgi μ7 136 11 = nI (s 5) := by
    rw [v7, m6.2.2.2.2.1 1 11 (by omega)]
    exact d6
  clear v3 v4 v5 v6 v7 w3 w4 w5 w6 w7 m3 m4 m5 m6
  have n0 := m7

  have g0 := cm_gp hG n0
  refine ⟨2, by simp only [gp_r g0], 137, by simp only [gp_r g0], gp_ok g0 (by decide) (by decide), gp_ok g0 (by decide) (by decide), by rw [gp_ln g0 (n := 8) (by decide) (by decide), gp_ln g0 (n := 8) (by decide) (by decide)]; exact cpok_8, ?_⟩
  intro α1 e0
  obtain ⟨n1, b1, a1⟩ := cm_c (n := 8) n0 e0 rfl (by omega) (by decide)
  clear e0
  have g1 := cm_gp hG n1
  refine ⟨3, by simp only [gp_r g1], 138, by simp only [gp_r g1], gp_ok g1 (by decide) (by decide), gp_ok g1 (by decide) (by decide), by rw [gp_ln g1 (n := 4) (by decide) (by decide), gp_ln g1 (n := 4) (by decide) (by decide)]; exact cpok_4, ?_⟩
  intro α2 e1
  obtain ⟨n2, b2, a2⟩ := cm_c (n := 4) n1 e1 rfl (by omega) (by decide)
  clear e1
  have g2 := cm_gp hG n2
  refine ⟨4, by simp only [gp_r g2], 139, by simp only [gp_r g2], gp_ok g2 (by decide) (by decide), gp_ok g2 (by decide) (by decide), by rw [gp_ln g2 (n := 8) (by decide) (by decide), gp_ln g2 (n := 8) (by decide) (by decide)]; exact cpok_8, ?_⟩
  intro α3 e2
  obtain ⟨n3, b3, a3⟩ := cm_c (n := 8) n2 e2 rfl (by omega) (by decide)
  clear e2
  have g3 := cm_gp hG n3
  refine ⟨5, by simp only [gp_r g3], 140, by simp only [gp_r g3], gp_ok g3 (by decide) (by decide), gp_ok g3 (by decide) (by decide), by rw [gp_ln g3 (n := 8) (by decide) (by decide), gp_ln g3 (n := 8) (by decide) (by decide)]; exact cpok_8, ?_⟩
  intro α4 e3
  obtain ⟨n4, b4, a4⟩ := cm_c (n := 8) n3 e3 rfl (by omega) (by decide)
  clear e3
  have g4 := cm_gp hG n4
  refine ⟨6, by simp only [gp_r g4], 141, by simp only [gp_r g4], gp_ok g4 (by decide) (by decide), gp_ok g4 (by decide) (by decide), by rw [gp_ln g4 (n := 8) (by decide) (by decide), gp_ln g4 (n := 8) (by decide) (by decide)]; exact cpok_8, ?_⟩
  intro α5 e4
  obtain ⟨n5, b5, a5⟩ := cm_c (n := 8) n4 e4 rfl (by omega) (by decide)
  clear e4
  have g5 := cm_gp hG n5
  refine ⟨7, by simp only [gp_r g5], 142, by simp only [gp_r g5], gp_ok g5 (by decide) (by decide), gp_ok g5 (by decide) (by decide), by rw [gp_ln g5 (n := 8) (by decide) (by decide), gp_ln g5 (n := 8) (by decide) (by decide)]; exact cpok_8, ?_⟩
  intro α6 e5
  obtain ⟨n6, b6, a6⟩ := cm_c (n := 8) n5 e5 rfl (by omega) (by decide)
  clear e5
  have g6 := cm_gp hG n6
  refine ⟨8, by simp only [gp_r g6], 143, by simp only [gp_r g6], gp_ok g6 (by decide) (by decide), gp_ok g6 (by decide) (by decide), by rw [gp_ln g6 (n := 8) (by decide) (by decide), gp_ln g6 (n := 8) (by decide) (by decide)]; exact cpok_8, ?_⟩
  intro α7 e6
  obtain ⟨n7, b7, a7⟩ := cm_c (n := 8) n6 e6 rfl (by omega) (by decide)
  clear e6
  have g7 := cm_gp hG n7
  refine ⟨9, by simp only [gp_r g7], 144, by simp only [gp_r g7], gp_ok g7 (by decide) (by decide), gp_ok g7 (by decide) (by decide), by rw [gp_ln g7 (n := 8) (by decide) (by decide), gp_ln g7 (n := 8) (by decide) (by decide)]; exact cpok_8, ?_⟩
  intro α8 e7
  obtain ⟨n8, b8, a8⟩ := cm_c (n := 8) n7 e7 rfl (by omega) (by decide)
  clear e7
  have g8 := cm_gp hG n8
  refine ⟨10, by simp only [gp_r g8], 145, by simp only [gp_r g8], gp_ok g8 (by decide) (by decide), gp_ok g8 (by decide) (by decide), by rw [gp_ln g8 (n := 8) (by decide) (by decide), gp_ln g8 (n := 8) (by decide) (by decide)]; exact cpok_8, ?_⟩
  intro α9 e8
  obtain ⟨n9, b9, a9⟩ := cm_c (n := 8) n8 e8 rfl (by omega) (by decide)
  clear e8
  have g9 := cm_gp hG n9
  refine ⟨146, by simp only [gp_r g9], 11, by simp only [gp_r g9], gp_ok g9 (by decide) (by decide), ?_⟩
  have ue : ∀ a q, 1 ≤ a → a < 136 → mgi α9 a q = mgi μ a q := fun a q h1 h2 => n9.2.2.2.2.1 a q (by omega)
  have hFx : Fr xI μ α9 := cm_fr n9 (fun a x => by have := xI_x x; omega)
  simp only [forall_eq, gi_si, Nat.reduceEqDiff, false_and, and_false, if_false]
  refine p_img_tail (s := s) g9 hW (TownR_x h ue (fun a q _ _ => n9.2.2.2.2.2 a q)) ?_ ?_ ?_ ?_ ?_ (fun p hp => ?_) (fun p hp => ?_) (fun p hp => ?_) (fun p hp => ?_) (fun p hp => ?_) (fun p hp => ?_) (fun p hp => ?_) (fun p hp => ?_) (fun p hp => ?_) (fun ν hF hT => k ν (fr_tr hFx hF) hT)
  · rw [b9 _ _ (by decide), b8 _ _ (by decide), b7 _ _ (by decide), b6 _ _ (by decide), b5 _ _ (by decide), b4 _ _ (by decide), b3 _ _ (by decide), b2 _ _ (by decide), b1 _ _ (by decide)]; exact f0
  · rw [b9 _ _ (by decide), b8 _ _ (by decide), b7 _ _ (by decide), b6 _ _ (by decide), b5 _ _ (by decide), b4 _ _ (by decide), b3 _ _ (by decide), b2 _ _ (by decide), b1 _ _ (by decide)]; exact f6
  · rw [b9 _ _ (by decide), b8 _ _ (by decide), b7 _ _ (by decide), b6 _ _ (by decide), b5 _ _ (by decide), b4 _ _ (by decide), b3 _ _ (by decide), b2 _ _ (by decide), b1 _ _ (by decide)]; exact f7
  · rw [b9 _ _ (by decide), b8 _ _ (by decide), b7 _ _ (by decide), b6 _ _ (by decide), b5 _ _ (by decide), b4 _ _ (by decide), b3 _ _ (by decide), b2 _ _ (by decide), b1 _ _ (by decide)]; exact f8
  · rw [b9 _ _ (by decide), b8 _ _ (by decide), b7 _ _ (by decide), b6 _ _ (by decide), b5 _ _ (by decide), b4 _ _ (by decide), b3 _ _ (by decide), b2 _ _ (by decide), b1 _ _ (by decide)]; exact f11
  · rw [b9 _ _ (by decide), b8 _ _ (by decide), b7 _ _ (by decide), b6 _ _ (by decide), b5 _ _ (by decide), b4 _ _ (by decide), b3 _ _ (by decide), b2 _ _ (by decide), a1 p hp, ue _ _ (by omega) (by omega)]
  · rw [b9 _ _ (by decide), b8 _ _ (by decide), b7 _ _ (by decide), b6 _ _ (by decide), b5 _ _ (by decide), b4 _ _ (by decide), b3 _ _ (by decide), a2 p hp, ue _ _ (by omega) (by omega)]
  · rw [b9 _ _ (by decide), b8 _ _ (by decide), b7 _ _ (by decide), b6 _ _ (by decide), b5 _ _ (by decide), b4 _ _ (by decide), a3 p hp, ue _ _ (by omega) (by omega)]
  · rw [b9 _ _ (by decide), b8 _ _ (by decide), b7 _ _ (by decide), b6 _ _ (by decide), b5 _ _ (by decide), a4 p hp, ue _ _ (by omega) (by omega)]
  · rw [b9 _ _ (by decide), b8 _ _ (by decide), b7 _ _ (by decide), b6 _ _ (by decide), a5 p hp, ue _ _ (by omega) (by omega)]
  · rw [b9 _ _ (by decide), b8 _ _ (by decide), b7 _ _ (by decide), a6 p hp, ue _ _ (by omega) (by omega)]
  · rw [b9 _ _ (by decide), b8 _ _ (by decide), a7 p hp, ue _ _ (by omega) (by omega)]
  · rw [b9 _ _ (by decide), a8 p hp, ue _ _ (by omega) (by omega)]
  · rw [a9 p hp, ue _ _ (by omega) (by omega)]
theorem p_bck_tail {β : Me} (hG : Gp β) (hW : WF s) (h : TownR β 136 s) (hc1 : mgi β 1 0 = nI (s 0)) (hc2 : mgi β 1 6 = nI (s 1)) (hc3 : mgi β 1 7 = nI (s 2) - 1) (hc5 : mgi β 1 8 = nI (s 4)) (hc6 : mgi β 1 11 = nI (s 5)) (hc7 : ∀ p, p < 8 → mgi β 2 p = mgi β 137 p) (hc8 : ∀ p, p < 4 → mgi β 3 p = mgi β 138 p) (hc9 : ∀ p, p < 8 → mgi β 4 p = mgi β 139 p) (hc10 : ∀ p, p < 8 → mgi β 5 p = mgi β 140 p) (hc11 : ∀ p, p < 8 → mgi β 6 p = mgi β 141 p) (hc12 : ∀ p, p < 8 → mgi β 7 p = mgi β 142 p) (hc13 : ∀ p, p < 8 → mgi β 8 p = mgi β 143 p) (hc14 : ∀ p, p < 8 → mgi β 9 p = mgi β 144 p) (hc15 : ∀ p, p < 8 → mgi β 10 p = mgi β 145 p) (k : ∀ ν, Fr xJ β ν → TownR ν 1 s → Q ν) : S_X3_become 11 146 β (fun μ56 => L_X9_become_200 1 136 (nI 0) (msi (msi μ56 1 16 (nI 0)) 1 17 (mgi μ56 136 17)) Q) := by
  have wn := wf_n hW
  obtain ⟨⟨d1, d2, d3, d4, d5, d6, d7, d8, d9, d10, d11⟩, hNo, el, hel, h16, hSt⟩ := h
  refine p_mbecome (m := 11) (m' := 146) hG (by decide) (by decide) (by decide) (by decide) (by decide) (fun ν hF g0 g1 g2 g3 => ?_)
  have hFt : Fr xJ β ν := fr_fm hF (fun a x => by have := xJ_x x; omega)
  have hF2 : Fr xJ β (msi (msi ν 1 16 (nI 0)) 1 17 (mgi ν 136 17)) := fr_si (fr_si hFt 1 16 _ rfl) 1 17 _ rfl
  have ne : ∀ a q, (a < 11 ∨ 15 ≤ a) → (a = 1 → q ≠ 16 ∧ q ≠ 17) → mgi (msi (msi ν 1 16 (nI 0)) 1 17 (mgi ν 136 17)) a q = mgi β a q := fun a q h1 h2 => by
    rw [gi_si, if_neg (by omega), gi_si, if_neg (by omega)]
    exact hF.2.2.2.2.1 a q (by omega)
  have nl : ∀ a q, a ≠ 14 → mgl (msi (msi ν 1 16 (nI 0)) 1 17 (mgi ν 136 17)) a q = mgl β a q := fun a q h1 => hF.2.2.2.2.2 a q h1
  have v17 : mgi ν 136 17 = nI (s 3) := (hF.2.2.2.2.1 136 17 (by omega)).trans d4
  rw [v17] at hF2 ne nl ⊢
  have hTo : ToldR (msi (msi ν 1 16 (nI 0)) 1 17 (nI (s 3))) 1 s := by
    refine ⟨(ne _ _ (by omega) (by omega)).trans hc1, (ne _ _ (by omega) (by omega)).trans hc2, (ne _ _ (by omega) (by omega)).trans hc3, by rw [gi_si, if_pos ⟨rfl, rfl⟩], (ne _ _ (by omega) (by omega)).trans hc5, (ne _ _ (by omega) (by omega)).trans hc6, fun p hp => ⟨?_, ?_, ?_⟩, fun r hr => ?_, fun p hp => ?_, fun i hi => ⟨?_, ?_⟩, fun i hi => ⟨?_, ?_⟩⟩
    · exact (ne _ _ (by omega) (by omega)).trans ((hc7 p (by omega)).trans (d7 p hp).1)
    · exact (ne _ _ (by omega) (by omega)).trans ((hc9 p (by omega)).trans (d7 p hp).2.1)
    · exact (ne _ _ (by omega) (by omega)).trans ((hc10 p (by omega)).trans (d7 p hp).2.2)
    · exact (ne _ _ (by omega) (by omega)).trans ((hc8 r (by omega)).trans (d8 r hr))
    · exact (ne _ _ (by omega) (by omega)).trans ((hc11 p (by omega)).trans (d9 p hp))
    · exact (ne _ _ (by omega) (by omega)).trans ((hc12 i (by omega)).trans (d10 i hi).1)
    · exact (ne _ _ (by omega) (by omega)).trans ((hc13 i (by omega)).trans (d10 i hi).2)
    · exact (ne _ _ (by omega) (by omega)).trans ((hc14 i (by omega)).trans (d11 i hi).1)
    · exact (ne _ _ (by omega) (by omega)).trans ((hc15 i (by omega)).trans (d11 i hi).2)
  have hNn : NowR (msi (msi ν 1 16 (nI 0)) 1 17 (nI (s 3))) 11 s := by
    have hN2 : NowR ν 11 s := mom_cp hNo wn.1 (by omega) g0 g1 g2 g3
    exact MomR_x hN2 (fun q => by rw [gi_si, if_neg (by omega), gi_si, if_neg (by omega)]) (fun q => by rw [gi_si, if_neg (by omega), gi_si, if_neg (by omega)]) (fun q => by rw [gi_si, if_neg (by omega), gi_si, if_neg (by omega)]) (fun q => rfl)
  have e16 : mgi (msi (msi ν 1 16 (nI 0)) 1 17 (nI (s 3))) 1 16 = nI 0 := by rw [gi_si, if_neg (by omega), gi_si, if_pos ⟨rfl, rfl⟩]
  have e17 : mgi (msi (msi ν 1 16 (nI 0)) 1 17 (nI (s 3))) 1 17 = nI (s 3) := by rw [gi_si, if_pos ⟨rfl, rfl⟩]
  have hG2 : Gp (msi (msi ν 1 16 (nI 0)) 1 17 (nI (s 3))) := fr_gp hG hF2
  generalize msi (msi ν 1 16 (nI 0)) 1 17 (nI (s 3)) = γ at hF2 ne nl hTo hNn e16 e17 hG2 ⊢
  refine loop1 (Bd := fun i ν K => B_X9_become_200 1 136 i ν K Q) (fun i ρ => Fr xJ β ρ ∧ (∀ a q, (a < 16 ∨ 135 < a) → mgi ρ a q = mgi γ a q) ∧ (∀ a q, (a < 16 ∨ 135 < a) → mgl ρ a q = mgl γ a q) ∧ ∀ j, j < i → StepR ρ (16 + 4 * j) s j) (s 3) 0 (by omega) ⟨hF2, fun _ _ _ => rfl, fun _ _ _ => rfl, fun j hj => absurd hj (by omega)⟩ ?_
  rintro i ρ hi ⟨hFr, he, hl, hs⟩ K hK
  have hH := fr_gp hG hFr
  have w17 : mgi ρ 1 17 = nI (s 3) := (he 1 17 (by omega)).trans e17
  have w16 : mgi ρ 1 16 = nI 0 := (he 1 16 (by omega)).trans e16
  have u16 : mgi ρ 136 16 = nI el := (hFr.2.2.2.2.1 136 16 (by decide)).trans h16
  unfold B_X9_become_200
  by_cases hin : i = s 3
  · subst hin
    simp (disch := first | omega | (simp only [Gp_si, Gp_sl, Gp_ci, Gp_cl]; assumption)) only [li_0, li_1, li_2, li_3, li_4, li_5, li_6, li_7, li_8, li_9, li_10, li_11, li_12, li_13, li_14, li_15, li_16, li_17, li_18, li_19, li_20, li_21, li_22, li_23, li_24, li_25, li_26, li_27, li_28, li_29, li_30, li_32, li_33, li_34, li_35, li_36, li_37, li_38, li_39, li_40, li_41, li_42, li_43, li_44, li_45, li_46, li_47, li_48, li_49, li_50, li_51, li_52, li_53, li_54, li_55, li_56, li_57, li_58, li_59, li_60, li_61, li_62, li_63, li_64, li_65, li_66, li_67, li_68, li_69, li_70, li_71, li_72, li_73, li_74, li_75, li_76, li_77, li_78, li_79, li_80, li_81, li_82, li_83, li_84, li_85, li_86, li_87, li_88, li_89, li_90, li_91, li_92, li_93, li_94, li_95, li_96, li_97, li_98, li_99, li_100, li_101, li_102, li_103, li_104, li_105, li_106, li_107, li_108, li_109, li_110, li_111, li_112, li_113, li_114, li_115, li_116, li_117, li_118, li_119, li_120, li_121, li_122, li_123, li_124, li_125, li_126, li_127, li_128, li_129, li_130, li_134, li_160, li_197, li_229, li_255, li_256, li_265, li_300, li_301, li_330, li_353, li_463, li_720, li_729, li_768, li_999, li_2610, li_2807, li_2867, li_2916, li_4096, li_9999, li_10000, li_30643, li_65535, li_99999, li_1000000, gi_si, gi_sl, gi_sr, gi_ci, gi_cl, gl_si, gl_sl, gl_sr, gl_ci, gl_cl, gr_si, gr_sl, gr_sr, gr_ci, gr_cl, ln_si, ln_sl, ln_sr, ln_ci, ln_cl, ok_si, ok_sl, ok_sr, ok_ci, ok_cl, gp_k hH, gp_l hH, gp_r hH, gp_m hH, Option.some.injEq, exists_eq_left', exists_eq_left, forall_eq, forall_eq', true_and, and_true, if_true, if_false, true_imp_iff, false_imp_iff, not_true_eq_false, not_false_eq_true, false_and, and_false, reduceIte, reduceCtorEq, forall_const, Nat.reduceEqDiff, Nat.reduceAdd, Nat.reduceMul, Nat.reduceSub, Nat.reduceLT, Nat.reduceLeDiff, Nat.reduceMod, Nat.reduceDiv, and_self, ne_eq, exists_const, Nat.add_sub_cancel, nI_add, pk_mul, pk_sub, q_rem, q_div, q_eq, q_le, q_lt, q_cl, q_in, q_m1, q_1m, q_neg, sh1n, bitn, q_mod2, q_neq0, bq_t, bq_f, bq_t2, bq_f2, i01, i10, q_tt, q_ff, ups_e, ups_n, fil_i, fil_o, zq_if, zq_0, zq_1, if_pos, if_neg, w17]
    refine k ρ hFr ⟨?_, ?_, 0, by omega, w16, fun j hj => ?_⟩
    · exact ToldR_x hTo (fun a q _ _ => he a q (by omega))
    · exact MomR_x hNn (fun q => he _ q (by omega)) (fun q => he _ q (by omega)) (fun q => he _ q (by omega)) (fun q => hl _ q (by omega))
    · rw [show 1 + 15 + 4 * ((0 + j) % 30) = 16 + 4 * j by omega]
      exact hs j hj
  · have hm := Nat.mod_lt (el + i) (show 0 < 30 by decide)
    simp (disch := first | omega | (simp only [Gp_si, Gp_sl, Gp_ci, Gp_cl]; assumption)) only [li_0, li_1, li_2, li_3, li_4, li_5, li_6, li_7, li_8, li_9, li_10, li_11, li_12, li_13, li_14, li_15, li_16, li_17, li_18, li_19, li_20, li_21, li_22, li_23, li_24, li_25, li_26, li_27, li_28, li_29, li_30, li_32, li_33, li_34, li_35, li_36, li_37, li_38, li_39, li_40, li_41, li_42, li_43, li_44, li_45, li_46, li_47, li_48, li_49, li_50, li_51, li_52, li_53, li_54, li_55, li_56, li_57, li_58, li_59, li_60, li_61, li_62, li_63, li_64, li_65, li_66, li_67, li_68, li_69, li_70, li_71, li_72, li_73, li_74, li_75, li_76, li_77, li_78, li_79, li_80, li_81, li_82, li_83, li_84, li_85, li_86, li_87, li_88, li_89, li_90, li_91, li_92, li_93, li_94, li_95, li_96, li_97, li_98, li_99, li_100, li_101, li_102, li_103, li_104, li_105, li_106, li_107, li_108, li_109, li_110, li_111, li_112, li_113, li_114, li_115, li_116, li_117, li_118, li_119, li_120, li_121, li_122, li_123, li_124, li_125, li_126, li_127, li_128, li_129, li_130, li_134, li_160, li_197, li_229, li_255, li_256, li_265, li_300, li_301, li_330, li_353, li_463, li_720, li_729, li_768, li_999, li_2610, li_2807, li_2867, li_2916, li_4096, li_9999, li_10000, li_30643, li_65535, li_99999, li_1000000, gi_si, gi_sl, gi_sr, gi_ci, gi_cl, gl_si, gl_sl, gl_sr, gl_ci, gl_cl, gr_si, gr_sl, gr_sr, gr_ci, gr_cl, ln_si, ln_sl, ln_sr, ln_ci, ln_cl, ok_si, ok_sl, ok_sr, ok_ci, ok_cl, gp_k hH, gp_l hH, gp_r hH, gp_m hH, Option.some.injEq, exists_eq_left', exists_eq_left, forall_eq, forall_eq', true_and, and_true, if_true, if_false, true_imp_iff, false_imp_iff, not_true_eq_false, not_false_eq_true, false_and, and_false, reduceIte, reduceCtorEq, forall_const, Nat.reduceEqDiff, Nat.reduceAdd, Nat.reduceMul, Nat.reduceSub, Nat.reduceLT, Nat.reduceLeDiff, Nat.reduceMod, Nat.reduceDiv, and_self, ne_eq, exists_const, Nat.add_sub_cancel, nI_add, pk_mul, pk_sub, q_rem, q_div, q_eq, q_le, q_lt, q_cl, q_in, q_m1, q_1m, q_neg, sh1n, bitn, q_mod2, q_neq0, bq_t, bq_f, bq_t2, bq_f2, i01, i10, q_tt, q_ff, ups_e, ups_n, fil_i, fil_o, zq_if, zq_0, zq_1, if_pos, if_neg, w17]
    rw [e_ahead1 hH w16 (by omega) (by omega), e_ahead136 hH u16 hel (by omega), show (0 + i) % 30 = i by omega]
    obtain ⟨ak, -⟩ := ah_kd i (by omega)
    obtain ⟨-, bk⟩ := ah_kd ((el + i) % 30) hm
    have hok : mok ρ (16 + 4 * i) 3 := gp_ok hH (by omega) ak
    simp (disch := first | omega | (simp only [Gp_si, Gp_sl, Gp_ci, Gp_cl]; assumption)) only [li_0, li_1, li_2, li_3, li_4, li_5, li_6, li_7, li_8, li_9, li_10, li_11, li_12, li_13, li_14, li_15, li_16, li_17, li_18, li_19, li_20, li_21, li_22, li_23, li_24, li_25, li_26, li_27, li_28, li_29, li_30, li_32, li_33, li_34, li_35, li_36, li_37, li_38, li_39, li_40, li_41, li_42, li_43, li_44, li_45, li_46, li_47, li_48, li_49, li_50, li_51, li_52, li_53, li_54, li_55, li_56, li_57, li_58, li_59, li_60, li_61, li_62, li_63, li_64, li_65, li_66, li_67, li_68, li_69, li_70, li_71, li_72, li_73, li_74, li_75, li_76, li_77, li_78, li_79, li_80, li_81, li_82, li_83, li_84, li_85, li_86, li_87, li_88, li_89, li_90, li_91, li_92, li_93, li_94, li_95, li_96, li_97, li_98, li_99, li_100, li_101, li_102, li_103, li_104, li_105, li_106, li_107, li_108, li_109, li_110, li_111, li_112, li_113, li_114, li_115, li_116, li_117, li_118, li_119, li_120, li_121, li_122, li_123, li_124, li_125, li_126, li_127, li_128, li_129, li_130, li_134, li_160, li_197, li_229, li_255, li_256, li_265, li_300, li_301, li_330, li_353, li_463, li_720, li_729, li_768, li_999, li_2610, li_2807, li_2867, li_2916, li_4096, li_9999, li_10000, li_30643, li_65535, li_99999, li_1000000, gi_si, gi_sl, gi_sr, gi_ci, gi_cl, gl_si, gl_sl, gl_sr, gl_ci, gl_cl, gr_si, gr_sl, gr_sr, gr_ci, gr_cl, ln_si, ln_sl, ln_sr, ln_ci, ln_cl, ok_si, ok_sl, ok_sr, ok_ci, ok_cl, gp_k hH, gp_l hH, gp_r hH, gp_m hH, Option.some.injEq, exists_eq_left', exists_eq_left, forall_eq, forall_eq', true_and, and_true, if_true, if_false, true_imp_iff, false_imp_iff, not_true_eq_false, not_false_eq_true, false_and, and_false, reduceIte, reduceCtorEq, forall_const, Nat.reduceEqDiff, Nat.reduceAdd, Nat.reduceMul, Nat.reduceSub, Nat.reduceLT, Nat.reduceLeDiff, Nat.reduceMod, Nat.reduceDiv, and_self, ne_eq, exists_const, Nat.add_sub_cancel, nI_add, pk_mul, pk_sub, q_rem, q_div, q_eq, q_le, q_lt, q_cl, q_in, q_m1, q_1m, q_neg, sh1n, bitn, q_mod2, q_neq0, bq_t, bq_f, bq_t2, bq_f2, i01, i10, q_tt, q_ff, ups_e, ups_n, fil_i, fil_o, zq_if, zq_0, zq_1, if_pos, if_neg, hok]
    refine p_mbecome (m := 16 + 4 * i) (m' := 151 + 4 * ((el + i) % 30)) hH (by omega) ak (by omega) bk (by omega) (fun σ hFm x0 x1 x2 x3 => ?_)
    refine hK _ (by omega) ⟨fr_tr hFr (fr_fm hFm (fun a x => by have := xJ_x x; omega)), fun a q h1 => (hFm.2.2.2.2.1 a q (by omega)).trans (he a q h1), fun a q h1 => (hFm.2.2.2.2.2 a q (by omega)).trans (hl a q h1), fun j hj => ?_⟩
    by_cases c : j = i
    · subst c
      have hb : StepR ρ (151 + 4 * ((el + j) % 30)) s j := StepR_x (hSt j (by omega)) (fun a q h1 h2 => hFr.2.2.2.2.1 a q (xJ_o (by omega))) (fun q => hFr.2.2.2.2.2 _ q (xJ_o (by omega)))
      exact mom_cp hb wn.1 (wf_sp hW (by omega)) x0 x1 x2 x3
    · exact StepR_x (hs j (by omega)) (fun a q h1 h2 => hFm.2.2.2.2.1 a q (by omega)) (fun q => hFm.2.2.2.2.2 _ q (by omega))
theorem p_bck (hG : Gp μ) (hW : WF s) (h : TownR μ 136 s) (k : ∀ ν, Fr xJ μ ν → TownR ν 1 s → Q ν) : S_X9_become 1 136 μ Q := by
  obtain ⟨⟨d1, d2, d3, d4, d5, d6, d7, d8, d9, d10, d11⟩, hNo, el, hel, h16, hSt⟩ := id h
  unfold S_X9_become
  refine ⟨gp_ok hG (by decide) (by decide), gp_ok hG (by decide) (by decide), ?_⟩
  intro μ3 e3 μ4 e4 μ5 e5 μ6 e6 μ7 e7
  obtain ⟨m3, v3, w3⟩ := cm_i (cm_rf 1 0) e3
  obtain ⟨m4, v4, w4⟩ := cm_i m3 e4
  obtain ⟨m5, v5, w5⟩ := cm_i m4 e5
  obtain ⟨m6, v6, w6⟩ := cm_i m5 e6
  obtain ⟨m7, v7, w7⟩ := cm_i m6 e7
  clear e3 e4 e5 e6 e7
  have f0 : mgi μ7 1 0 = nI (s 0) := by
    rw [w7 0 (by decide), w6 0 (by decide), w5 0 (by decide), w4 0 (by decide), v3]
    exact d1
  have f6 : mgi μ7 1 6 = nI (s 1) := by
    rw [w7 6 (by decide), w6 6 (by decide), w5 6 (by decide), v4, m3.2.2.2.2.1 136 6 (by omega)]
    exact d2
  have f7 : mgi μ7 1 7 = nI (s 2) - 1 := by
    rw [w7 7 (by decide), w6 7 (by decide), v5, m4.2.2.2.2.1 136 7 (by omega)]
    exact d3
  have f8 : mgi μ7 1 8 = nI (s 4) := by
    rw [w7 8 (by decide), v6, m5.2.2.2.2.1 136 8 (by omega)]
    exact d5
  have f11 : mgi μ7 1 11 = nI (s 5) := by
    rw [v7, m6.2.2.2.2.1 136 11 (by omega)]
    exact d6
  clear v3 v4 v5 v6 v7 w3 w4 w5 w6 w7 m3 m4 m5 m6
  have n0 := m7

  have g0 := cm_gp hG n0
  refine ⟨137, by simp only [gp_r g0], 2, by simp only [gp_r g0], gp_ok g0 (by decide) (by decide), gp_ok g0 (by decide) (by decide), by rw [gp_ln g0 (n := 8) (by decide) (by decide), gp_ln g0 (n := 8) (by decide) (by decide)]; exact cpok_8, ?_⟩
  intro α1 e0
  obtain ⟨n1, b1, a1⟩ := cm_c (n := 8) n0 e0 rfl (by omega) (by decide)
  clear e0
  have g1 := cm_gp hG n1
  refine ⟨138, by simp only [gp_r g1], 3, by simp only [gp_r g1], gp_ok g1 (by decide) (by decide), gp_ok g1 (by decide) (by decide), by rw [gp_ln g1 (n := 4) (by decide) (by decide), gp_ln g1 (n := 4) (by decide) (by decide)]; exact cpok_4, ?_⟩
  intro α2 e1
  obtain ⟨n2, b2, a2⟩ := cm_c (n := 4) n1 e1 rfl (by omega) (by decide)
  clear e1
  have g2 := cm_gp hG n2
  refine ⟨139, by simp only [gp_r g2], 4, by simp only [gp_r g2], gp_ok g2 (by decide) (by decide), gp_ok g2 (by decide) (by decide), by rw [gp_ln g2 (n := 8) (by decide) (by decide), gp_ln g2 (n := 8) (by decide) (by decide)]; exact cpok_8, ?_⟩
  intro α3 e2
  obtain ⟨n3, b3, a3⟩ := cm_c (n := 8) n2 e2 rfl (by omega) (by decide)
  clear e2
  have g3 := cm_gp hG n3
  refine ⟨140, by simp only [gp_r g3], 5, by simp only [gp_r g3], gp_ok g3 (by decide) (by decide), gp_ok g3 (by decide) (by decide), by rw [gp_ln g3 (n := 8) (by decide) (by decide), gp_ln g3 (n := 8) (by decide) (by decide)]; exact cpok_8, ?_⟩
  intro α4 e3
  obtain ⟨n4, b4, a4⟩ := cm_c (n := 8) n3 e3 rfl (by omega) (by decide)
  clear e3
  have g4 := cm_gp hG n4
  refine ⟨141, by simp only [gp_r g4], 6, by simp only [gp_r g4], gp_ok g4 (by decide) (by decide), gp_ok g4 (by decide) (by decide), by rw [gp_ln g4 (n := 8) (by decide) (by decide), gp_ln g4 (n := 8) (by decide) (by decide)]; exact cpok_8, ?_⟩
  intro α5 e4
  obtain ⟨n5, b5, a5⟩ := cm_c (n := 8) n4 e4 rfl (by omega) (by decide)
  clear e4
  have g5 := cm_gp hG n5
  refine ⟨142, by simp only [gp_r g5], 7, by simp only [gp_r g5], gp_ok g5 (by decide) (by decide), gp_ok g5 (by decide) (by decide), by rw [gp_ln g5 (n := 8) (by decide) (by decide), gp_ln g5 (n := 8) (by decide) (by decide)]; exact cpok_8, ?_⟩
  intro α6 e5
  obtain ⟨n6, b6, a6⟩ := cm_c (n := 8) n5 e5 rfl (by omega) (by decide)
  clear e5
  have g6 := cm_gp hG n6
  refine ⟨143, by simp only [gp_r g6], 8, by simp only [gp_r g6], gp_ok g6 (by decide) (by decide), gp_ok g6 (by decide) (by decide), by rw [gp_ln g6 (n := 8) (by decide) (by decide), gp_ln g6 (n := 8) (by decide) (by decide)]; exact cpok_8, ?_⟩
  intro α7 e6
  obtain ⟨n7, b7, a7⟩ := cm_c (n := 8) n6 e6 rfl (by omega) (by decide)
  clear e6
  have g7 := cm_gp hG n7
  refine ⟨144, by simp only [gp_r g7], 9, by simp only [gp_r g7], gp_ok g7 (by decide) (by decide), gp_ok g7 (by decide) (by decide), by rw [gp_ln g7 (n := 8) (by decide) (by decide), gp_ln g7 (n := 8) (by decide) (by decide)]; exact cpok_8, ?_⟩
  intro α8 e7
  obtain ⟨n8, b8, a8⟩ := cm_c (n := 8) n7 e7 rfl (by omega) (by decide)
  clear e7
  have g8 := cm_gp hG n8
  refine ⟨145, by simp only [gp_r g8], 10, by simp only [gp_r g8], gp_ok g8 (by decide) (by decide), gp_ok g8 (by decide) (by decide), by rw [gp_ln g8 (n := 8) (by decide) (by decide), gp_ln g8 (n := 8) (by decide) (by decide)]; exact cpok_8, ?_⟩
  intro α9 e8
  obtain ⟨n9, b9, a9⟩ := cm_c (n := 8) n8 e8 rfl (by omega) (by decide)
  clear e8
  have g9 := cm_gp hG n9
  refine ⟨11, by simp only [gp_r g9], 146, by simp only [gp_r g9], gp_ok g9 (by decide) (by decide), ?_⟩
  have ue : ∀ a q, 136 ≤ a → a < 271 → mgi α9 a q = mgi μ a q := fun a q h1 h2 => n9.2.2.2.2.1 a q (by omega)
  have hFx : Fr xJ μ α9 := cm_fr n9 (fun a x => by have := xJ_x x; omega)
  simp only [forall_eq, gi_si, Nat.reduceEqDiff, false_and, and_false, if_false]
  refine p_bck_tail (s := s) g9 hW (TownR_x h ue (fun a q _ _ => n9.2.2.2.2.2 a q)) ?_ ?_ ?_ ?_ ?_ (fun p hp => ?_) (fun p hp => ?_) (fun p hp => ?_) (fun p hp => ?_) (fun p hp => ?_) (fun p hp => ?_) (fun p hp => ?_) (fun p hp => ?_) (fun p hp => ?_) (fun ν hF hT => k ν (fr_tr hFx hF) hT)
  · rw [b9 _ _ (by decide), b8 _ _ (by decide), b7 _ _ (by decide), b6 _ _ (by decide), b5 _ _ (by decide), b4 _ _ (by decide), b3 _ _ (by decide), b2 _ _ (by decide), b1 _ _ (by decide)]; exact f0
  · rw [b9 _ _ (by decide), b8 _ _ (by decide), b7 _ _ (by decide), b6 _ _ (by decide), b5 _ _ (by decide), b4 _ _ (by decide), b3 _ _ (by decide), b2 _ _ (by decide), b1 _ _ (by decide)]; exact f6
  · rw [b9 _ _ (by decide), b8 _ _ (by decide), b7 _ _ (by decide), b6 _ _ (by decide), b5 _ _ (by decide), b4 _ _ (by decide), b3 _ _ (by decide), b2 _ _ (by decide), b1 _ _ (by decide)]; exact f7
  · rw [b9 _ _ (by decide), b8 _ _ (by decide), b7 _ _ (by decide), b6 _ _ (by decide), b5 _ _ (by decide), b4 _ _ (by decide), b3 _ _ (by decide), b2 _ _ (by decide), b1 _ _ (by decide)]; exact f8
  · rw [b9 _ _ (by decide), b8 _ _ (by decide), b7 _ _ (by decide), b6 _ _ (by decide), b5 _ _ (by decide), b4 _ _ (by decide), b3 _ _ (by decide), b2 _ _ (by decide), b1 _ _ (by decide)]; exact f11
  · rw [b9 _ _ (by decide), b8 _ _ (by decide), b7 _ _ (by decide), b6 _ _ (by decide), b5 _ _ (by decide), b4 _ _ (by decide), b3 _ _ (by decide), b2 _ _ (by decide), a1 p hp, ue _ _ (by omega) (by omega)]
  · rw [b9 _ _ (by decide), b8 _ _ (by decide), b7 _ _ (by decide), b6 _ _ (by decide), b5 _ _ (by decide), b4 _ _ (by decide), b3 _ _ (by decide), a2 p hp, ue _ _ (by omega) (by omega)]
  · rw [b9 _ _ (by decide), b8 _ _ (by decide), b7 _ _ (by decide), b6 _ _ (by decide), b5 _ _ (by decide), b4 _ _ (by decide), a3 p hp, ue _ _ (by omega) (by omega)]
  · rw [b9 _ _ (by decide), b8 _ _ (by decide), b7 _ _ (by decide), b6 _ _ (by decide), b5 _ _ (by decide), a4 p hp, ue _ _ (by omega) (by omega)]
  · rw [b9 _ _ (by decide), b8 _ _ (by decide), b7 _ _ (by decide), b6 _ _ (by decide), a5 p hp, ue _ _ (by omega) (by omega)]
  · rw [b9 _ _ (by decide), b8 _ _ (by decide), b7 _ _ (by decide), a6 p hp, ue _ _ (by omega) (by omega)]
  · rw [b9 _ _ (by decide), b8 _ _ (by decide), a7 p hp, ue _ _ (by omega) (by omega)]
  · rw [b9 _ _ (by decide), a8 p hp, ue _ _ (by omega) (by omega)]
  · rw [a9 p hp, ue _ _ (by omega) (by omega)]
end IM
section IN
variable {μ : Me} {s si : Nat → Nat} {T : Nat → Tx} {tn : Nat} {Q : Int32 → Me → Prop}
theorem C_image (h : Cl μ s T tn) (k : ∀ ν, Fr xI μ ν → Cl ν s T tn → TownR ν 136 s → Q (nI (s 6)) ν) : S_X10_image 0 μ Q := by
  have hG := h.1
  unfold S_X10_image
  simp (disch := first | omega | (simp only [Gp_si, Gp_sl, Gp_ci, Gp_cl]; assumption)) only [li_0, li_1, li_2, li_3, li_4, li_5, li_6, li_7, li_8, li_9, li_10, li_11, li_12, li_13, li_14, li_15, li_16, li_17, li_18, li_19, li_20, li_21, li_22, li_23, li_24, li_25, li_26, li_27, li_28, li_29, li_30, li_32, li_33, li_34, li_35, li_36, li_37, li_38, li_39, li_40, li_41, li_42, li_43, li_44, li_45, li_46, li_47, li_48, li_49, li_50, li_51, li_52, li_53, li_54, li_55, li_56, li_57, li_58, li_59, li_60, li_61, li_62, li_63, li_64, li_65, li_66, li_67, li_68, li_69, li_70, li_71, li_72, li_73, li_74, li_75, li_76, li_77, li_78, li_79, li_80, li_81, li_82, li_83, li_84, li_85, li_86, li_87, li_88, li_89, li_90, li_91, li_92, li_93, li_94, li_95, li_96, li_97, li_98, li_99, li_100, li_101, li_102, li_103, li_104, li_105, li_106, li_107, li_108, li_109, li_110, li_111, li_112, li_113, li_114, li_115, li_116, li_117, li_118, li_119, li_120, li_121, li_122, li_123, li_124, li_125, li_126, li_127, li_128, li_129, li_130, li_134, li_160, li_197, li_229, li_255, li_256, li_265, li_300, li_301, li_330, li_353, li_463, li_720, li_729, li_768, li_999, li_2610, li_2807, li_2867, li_2916, li_4096, li_9999, li_10000, li_30643, li_65535, li_99999, li_1000000, gi_si, gi_sl, gi_sr, gi_ci, gi_cl, gl_si, gl_sl, gl_sr, gl_ci, gl_cl, gr_si, gr_sl, gr_sr, gr_ci, gr_cl, ln_si, ln_sl, ln_sr, ln_ci, ln_cl, ok_si, ok_sl, ok_sr, ok_ci, ok_cl, gp_k hG, gp_l hG, gp_r hG, gp_m hG, Option.some.injEq, exists_eq_left', exists_eq_left, forall_eq, forall_eq', true_and, and_true, if_true, if_false, true_imp_iff, false_imp_iff, not_true_eq_false, not_false_eq_true, false_and, and_false, reduceIte, reduceCtorEq, forall_const, Nat.reduceEqDiff, Nat.reduceAdd, Nat.reduceMul, Nat.reduceSub, Nat.reduceLT, Nat.reduceLeDiff, Nat.reduceMod, Nat.reduceDiv, and_self, ne_eq, exists_const, Nat.add_sub_cancel, nI_add, pk_mul, pk_sub, q_rem, q_div, q_eq, q_le, q_lt, q_cl, q_in, q_m1, q_1m, q_neg, sh1n, bitn, q_mod2, q_neq0, bq_t, bq_f, bq_t2, bq_f2, i01, i10, q_tt, q_ff, ups_e, ups_n, fil_i, fil_o, zq_if, zq_0, zq_1, if_pos, if_neg]
  refine p_img hG h.2.1 h.2.2.1 (fun ν hF hT => ?_)
  have hH := fr_gp hG hF
  have h3 : mgi ν 11 3 = nI (s 6) := (hF.2.2.2.2.1 11 3 (by decide)).trans h.2.2.1.2.1.2.2.2.1
  simp (disch := first | omega | (simp only [Gp_si, Gp_sl, Gp_ci, Gp_cl]; assumption)) only [li_0, li_1, li_2, li_3, li_4, li_5, li_6, li_7, li_8, li_9, li_10, li_11, li_12, li_13, li_14, li_15, li_16, li_17, li_18, li_19, li_20, li_21, li_22, li_23, li_24, li_25, li_26, li_27, li_28, li_29, li_30, li_32, li_33, li_34, li_35, li_36, li_37, li_38, li_39, li_40, li_41, li_42, li_43, li_44, li_45, li_46, li_47, li_48, li_49, li_50, li_51, li_52, li_53, li_54, li_55, li_56, li_57, li_58, li_59, li_60, li_61, li_62, li_63, li_64, li_65, li_66, li_67, li_68, li_69, li_70, li_71, li_72, li_73, li_74, li_75, li_76, li_77, li_78, li_79, li_80, li_81, li_82, li_83, li_84, li_85, li_86, li_87, li_88, li_89, li_90, li_91, li_92, li_93, li_94, li_95, li_96, li_97, li_98, li_99, li_100, li_101, li_102, li_103, li_104, li_105, li_106, li_107, li_108, li_109, li_110, li_111, li_112, li_113, li_114, li_115, li_116, li_117, li_118, li_119, li_120, li_121, li_122, li_123, li_124, li_125, li_126, li_127, li_128, li_129, li_130, li_134, li_160, li_197, li_229, li_255, li_256, li_265, li_300, li_301, li_330, li_353, li_463, li_720, li_729, li_768, li_999, li_2610, li_2807, li_2867, li_2916, li_4096, li_9999, li_10000, li_30643, li_65535, li_99999, li_1000000, gi_si, gi_sl, gi_sr, gi_ci, gi_cl, gl_si, gl_sl, gl_sr, gl_ci, gl_cl, gr_si, gr_sl, gr_sr, gr_ci, gr_cl, ln_si, ln_sl, ln_sr, ln_ci, ln_cl, ok_si, ok_sl, ok_sr, ok_ci, ok_cl, gp_k hH, gp_l hH, gp_r hH, gp_m hH, Option.some.injEq, exists_eq_left', exists_eq_left, forall_eq, forall_eq', true_and, and_true, if_true, if_false, true_imp_iff, false_imp_iff, not_true_eq_false, not_false_eq_true, false_and, and_false, reduceIte, reduceCtorEq, forall_const, Nat.reduceEqDiff, Nat.reduceAdd, Nat.reduceMul, Nat.reduceSub, Nat.reduceLT, Nat.reduceLeDiff, Nat.reduceMod, Nat.reduceDiv, and_self, ne_eq, exists_const, Nat.add_sub_cancel, nI_add, pk_mul, pk_sub, q_rem, q_div, q_eq, q_le, q_lt, q_cl, q_in, q_m1, q_1m, q_neg, sh1n, bitn, q_mod2, q_neq0, bq_t, bq_f, bq_t2, bq_f2, i01, i10, q_tt, q_ff, ups_e, ups_n, fil_i, fil_o, zq_if, zq_0, zq_1, if_pos, if_neg, h3]
  have w := wf_n h.2.1
  refine k ν hF ⟨hH, h.2.1, TownR_x h.2.2.1 (fun a q _ _ => hF.2.2.2.2.1 a q (xI_o (by omega))) (fun a q _ _ => hF.2.2.2.2.2 a q (xI_o (by omega))), fun i hi => TxC_x (by omega) (h.2.2.2.1 i hi) (fun a q _ _ => hF.2.2.2.2.1 a q (xI_o (by omega))), Ca_x h.2.2.2.2 (fun a q _ _ => hF.2.2.2.2.1 a q (xI_o (by omega)))⟩ hT
theorem C_back (h : Cl μ s T tn) (ht : tn < 999999) (hi : TownR μ 136 si) (hWi : WF si) (h1 : si 1 ≤ s 1) (k : ∀ ν, Fr xA μ ν → Cl ν si T (tn + 1) → Q (nI (si 6)) ν) : S_X10_back 0 μ Q := by
  have hG := h.1
  have w := wf_n h.2.1
  unfold S_X10_back
  simp (disch := first | omega | (simp only [Gp_si, Gp_sl, Gp_ci, Gp_cl]; assumption)) only [li_0, li_1, li_2, li_3, li_4, li_5, li_6, li_7, li_8, li_9, li_10, li_11, li_12, li_13, li_14, li_15, li_16, li_17, li_18, li_19, li_20, li_21, li_22, li_23, li_24, li_25, li_26, li_27, li_28, li_29, li_30, li_32, li_33, li_34, li_35, li_36, li_37, li_38, li_39, li_40, li_41, li_42, li_43, li_44, li_45, li_46, li_47, li_48, li_49, li_50, li_51, li_52, li_53, li_54, li_55, li_56, li_57, li_58, li_59, li_60, li_61, li_62, li_63, li_64, li_65, li_66, li_67, li_68, li_69, li_70, li_71, li_72, li_73, li_74, li_75, li_76, li_77, li_78, li_79, li_80, li_81, li_82, li_83, li_84, li_85, li_86, li_87, li_88, li_89, li_90, li_91, li_92, li_93, li_94, li_95, li_96, li_97, li_98, li_99, li_100, li_101, li_102, li_103, li_104, li_105, li_106, li_107, li_108, li_109, li_110, li_111, li_112, li_113, li_114, li_115, li_116, li_117, li_118, li_119, li_120, li_121, li_122, li_123, li_124, li_125, li_126, li_127, li_128, li_129, li_130, li_134, li_160, li_197, li_229, li_255, li_256, li_265, li_300, li_301, li_330, li_353, li_463, li_720, li_729, li_768, li_999, li_2610, li_2807, li_2867, li_2916, li_4096, li_9999, li_10000, li_30643, li_65535, li_99999, li_1000000, gi_si, gi_sl, gi_sr, gi_ci, gi_cl, gl_si, gl_sl, gl_sr, gl_ci, gl_cl, gr_si, gr_sl, gr_sr, gr_ci, gr_cl, ln_si, ln_sl, ln_sr, ln_ci, ln_cl, ok_si, ok_sl, ok_sr, ok_ci, ok_cl, gp_k hG, gp_l hG, gp_r hG, gp_m hG, Option.some.injEq, exists_eq_left', exists_eq_left, forall_eq, forall_eq', true_and, and_true, if_true, if_false, true_imp_iff, false_imp_iff, not_true_eq_false, not_false_eq_true, false_and, and_false, reduceIte, reduceCtorEq, forall_const, Nat.reduceEqDiff, Nat.reduceAdd, Nat.reduceMul, Nat.reduceSub, Nat.reduceLT, Nat.reduceLeDiff, Nat.reduceMod, Nat.reduceDiv, and_self, ne_eq, exists_const, Nat.add_sub_cancel, nI_add, pk_mul, pk_sub, q_rem, q_div, q_eq, q_le, q_lt, q_cl, q_in, q_m1, q_1m, q_neg, sh1n, bitn, q_mod2, q_neq0, bq_t, bq_f, bq_t2, bq_f2, i01, i10, q_tt, q_ff, ups_e, ups_n, fil_i, fil_o, zq_if, zq_0, zq_1, if_pos, if_neg]
  refine p_forget h ht (fun ν hF hT hC => ?_)
  have hH := hT.1
  have hi2 : TownR ν 136 si := TownR_x hi (fun a q _ _ => hF.2.2.2.2.1 a q (xA_o (by omega))) (fun a q _ _ => hF.2.2.2.2.2 a q (xA_o (by omega)))
  simp (disch := first | omega | (simp only [Gp_si, Gp_sl, Gp_ci, Gp_cl]; assumption)) only [li_0, li_1, li_2, li_3, li_4, li_5, li_6, li_7, li_8, li_9, li_10, li_11, li_12, li_13, li_14, li_15, li_16, li_17, li_18, li_19, li_20, li_21, li_22, li_23, li_24, li_25, li_26, li_27, li_28, li_29, li_30, li_32, li_33, li_34, li_35, li_36, li_37, li_38, li_39, li_40, li_41, li_42, li_43, li_44, li_45, li_46, li_47, li_48, li_49, li_50, li_51, li_52, li_53, li_54, li_55, li_56, li_57, li_58, li_59, li_60, li_61, li_62, li_63, li_64, li_65, li_66, li_67, li_68, li_69, li_70, li_71, li_72, li_73, li_74, li_75, li_76, li_77, li_78, li_79, li_80, li_81, li_82, li_83, li_84, li_85, li_86, li_87, li_88, li_89, li_90, li_91, li_92, li_93, li_94, li_95, li_96, li_97, li_98, li_99, li_100, li_101, li_102, li_103, li_104, li_105, li_106, li_107, li_108, li_109, li_110, li_111, li_112, li_113, li_114, li_115, li_116, li_117, li_118, li_119, li_120, li_121, li_122, li_123, li_124, li_125, li_126, li_127, li_128, li_129, li_130, li_134, li_160, li_197, li_229, li_255, li_256, li_265, li_300, li_301, li_330, li_353, li_463, li_720, li_729, li_768, li_999, li_2610, li_2807, li_2867, li_2916, li_4096, li_9999, li_10000, li_30643, li_65535, li_99999, li_1000000, gi_si, gi_sl, gi_sr, gi_ci, gi_cl, gl_si, gl_sl, gl_sr, gl_ci, gl_cl, gr_si, gr_sl, gr_sr, gr_ci, gr_cl, ln_si, ln_sl, ln_sr, ln_ci, ln_cl, ok_si, ok_sl, ok_sr, ok_ci, ok_cl, gp_k hH, gp_l hH, gp_r hH, gp_m hH, Option.some.injEq, exists_eq_left', exists_eq_left, forall_eq, forall_eq', true_and, and_true, if_true, if_false, true_imp_iff, false_imp_iff, not_true_eq_false, not_false_eq_true, false_and, and_false, reduceIte, reduceCtorEq, forall_const, Nat.reduceEqDiff, Nat.reduceAdd, Nat.reduceMul, Nat.reduceSub, Nat.reduceLT, Nat.reduceLeDiff, Nat.reduceMod, Nat.reduceDiv, and_self, ne_eq, exists_const, Nat.add_sub_cancel, nI_add, pk_mul, pk_sub, q_rem, q_div, q_eq, q_le, q_lt, q_cl, q_in, q_m1, q_1m, q_neg, sh1n, bitn, q_mod2, q_neq0, bq_t, bq_f, bq_t2, bq_f2, i01, i10, q_tt, q_ff, ups_e, ups_n, fil_i, fil_o, zq_if, zq_0, zq_1, if_pos, if_neg]
  refine p_bck hH hWi hi2 (fun ρ hF2 hT2 => ?_)
  have hI := fr_gp hH hF2
  have h3 : mgi ρ 11 3 = nI (si 6) := hT2.2.1.2.2.2.1
  simp (disch := first | omega | (simp only [Gp_si, Gp_sl, Gp_ci, Gp_cl]; assumption)) only [li_0, li_1, li_2, li_3, li_4, li_5, li_6, li_7, li_8, li_9, li_10, li_11, li_12, li_13, li_14, li_15, li_16, li_17, li_18, li_19, li_20, li_21, li_22, li_23, li_24, li_25, li_26, li_27, li_28, li_29, li_30, li_32, li_33, li_34, li_35, li_36, li_37, li_38, li_39, li_40, li_41, li_42, li_43, li_44, li_45, li_46, li_47, li_48, li_49, li_50, li_51, li_52, li_53, li_54, li_55, li_56, li_57, li_58, li_59, li_60, li_61, li_62, li_63, li_64, li_65, li_66, li_67, li_68, li_69, li_70, li_71, li_72, li_73, li_74, li_75, li_76, li_77, li_78, li_79, li_80, li_81, li_82, li_83, li_84, li_85, li_86, li_87, li_88, li_89, li_90, li_91, li_92, li_93, li_94, li_95, li_96, li_97, li_98, li_99, li_100, li_101, li_102, li_103, li_104, li_105, li_106, li_107, li_108, li_109, li_110, li_111, li_112, li_113, li_114, li_115, li_116, li_117, li_118, li_119, li_120, li_121, li_122, li_123, li_124, li_125, li_126, li_127, li_128, li_129, li_130, li_134, li_160, li_197, li_229, li_255, li_256, li_265, li_300, li_301, li_330, li_353, li_463, li_720, li_729, li_768, li_999, li_2610, li_2807, li_2867, li_2916, li_4096, li_9999, li_10000, li_30643, li_65535, li_99999, li_1000000, gi_si, gi_sl, gi_sr, gi_ci, gi_cl, gl_si, gl_sl, gl_sr, gl_ci, gl_cl, gr_si, gr_sl, gr_sr, gr_ci, gr_cl, ln_si, ln_sl, ln_sr, ln_ci, ln_cl, ok_si, ok_sl, ok_sr, ok_ci, ok_cl, gp_k hI, gp_l hI, gp_r hI, gp_m hI, Option.some.injEq, exists_eq_left', exists_eq_left, forall_eq, forall_eq', true_and, and_true, if_true, if_false, true_imp_iff, false_imp_iff, not_true_eq_false, not_false_eq_true, false_and, and_false, reduceIte, reduceCtorEq, forall_const, Nat.reduceEqDiff, Nat.reduceAdd, Nat.reduceMul, Nat.reduceSub, Nat.reduceLT, Nat.reduceLeDiff, Nat.reduceMod, Nat.reduceDiv, and_self, ne_eq, exists_const, Nat.add_sub_cancel, nI_add, pk_mul, pk_sub, q_rem, q_div, q_eq, q_le, q_lt, q_cl, q_in, q_m1, q_1m, q_neg, sh1n, bitn, q_mod2, q_neq0, bq_t, bq_f, bq_t2, bq_f2, i01, i10, q_tt, q_ff, ups_e, ups_n, fil_i, fil_o, zq_if, zq_0, zq_1, if_pos, if_neg, h3]
  have hFt : Fr xT ν ρ := fr_mo hF2 (fun a x => xJ_o (by have := xT_x x; omega))
  exact k ρ (fr_tr hF (fr_ja hF2)) (cl_tw ⟨hI, hWi, hT2, fun i hi => TxC_x (by omega) (hT.2.2.2 i (by omega)) (fun a q _ _ => hF2.2.2.2.2.1 a q (xJ_o (by omega)))⟩ (cn_fr hC hFt))
theorem p_copy (hG : Gp μ) {o o' : Nat} (ho : (o = 315 ∧ o' = 316) ∨ (o = 316 ∧ o' = 315)) {Q : Me → Prop} (k : ∀ ν, mof μ ν o' → (∀ j, j < 2867 → mgi ν o' j = mgi μ o j) → Q ν) : S_X11_copy o o' μ Q := by
  have hd : o < 328 ∧ o' < 328 ∧ kdF o = 12 ∧ kdF o' = 12 ∧ lnF o = 2867 ∧ lnF o' = 2867 ∧ o ≠ o' := by
    rcases ho with ⟨e1, e2⟩ | ⟨e1, e2⟩ <;> subst e1 e2 <;> decide
  refine loop1 (Bd := fun i ν K => B_X11_copy_2 o o' i ν K Q) (fun i ν => mof μ ν o' ∧ ∀ j, j < i → mgi ν o' j = mgi μ o j) 2867 0 (by omega) ⟨mof_rf _ _, fun j hj => absurd hj (by omega)⟩ ?_
  rintro i ν hi ⟨hm, he⟩ K hK
  have hH := Gp_of hG hm (Or.inl hd.2.2.2.1)
  have a1 := gp_ok hH hd.1 hd.2.2.1
  have a2 := gp_ok hH hd.2.1 hd.2.2.2.1
  have a3 := gp_ln hH hd.1 hd.2.2.2.2.1
  have a4 := gp_ln hH hd.2.1 hd.2.2.2.2.2.1
  unfold B_X11_copy_2
  by_cases hin : i = 2867
  · subst hin
    simp (disch := first | omega | (simp only [Gp_si, Gp_sl, Gp_ci, Gp_cl]; assumption)) only [li_0, li_1, li_2, li_3, li_4, li_5, li_6, li_7, li_8, li_9, li_10, li_11, li_12, li_13, li_14, li_15, li_16, li_17, li_18, li_19, li_20, li_21, li_22, li_23, li_24, li_25, li_26, li_27, li_28, li_29, li_30, li_32, li_33, li_34, li_35, li_36, li_37, li_38, li_39, li_40, li_41, li_42, li_43, li_44, li_45, li_46, li_47, li_48, li_49, li_50, li_51, li_52, li_53, li_54, li_55, li_56, li_57, li_58, li_59, li_60, li_61, li_62, li_63, li_64, li_65, li_66, li_67, li_68, li_69, li_70, li_71, li_72, li_73, li_74, li_75, li_76, li_77, li_78, li_79, li_80, li_81, li_82, li_83, li_84, li_85, li_86, li_87, li_88, li_89, li_90, li_91, li_92, li_93, li_94, li_95, li_96, li_97, li_98, li_99, li_100, li_101, li_102, li_103, li_104, li_105, li_106, li_107, li_108, li_109, li_110, li_111, li_112, li_113, li_114, li_115, li_116, li_117, li_118, li_119, li_120, li_121, li_122, li_123, li_124, li_125, li_126, li_127, li_128, li_129, li_130, li_134, li_160, li_197, li_229, li_255, li_256, li_265, li_300, li_301, li_330, li_353, li_463, li_720, li_729, li_768, li_999, li_2610, li_2807, li_2867, li_2916, li_4096, li_9999, li_10000, li_30643, li_65535, li_99999, li_1000000, gi_si, gi_sl, gi_sr, gi_ci, gi_cl, gl_si, gl_sl, gl_sr, gl_ci, gl_cl, gr_si, gr_sl, gr_sr, gr_ci, gr_cl, ln_si, ln_sl, ln_sr, ln_ci, ln_cl, ok_si, ok_sl, ok_sr, ok_ci, ok_cl, Option.some.injEq, exists_eq_left', exists_eq_left, forall_eq, forall_eq', true_and, and_true, if_true, if_false, true_imp_iff, false_imp_iff, not_true_eq_false, not_false_eq_true, false_and, and_false, reduceIte, reduceCtorEq, forall_const, Nat.reduceEqDiff, Nat.reduceAdd, Nat.reduceMul, Nat.reduceSub, Nat.reduceLT, Nat.reduceLeDiff, Nat.reduceMod, Nat.reduceDiv, and_self, ne_eq, exists_const, Nat.add_sub_cancel, nI_add, pk_mul, pk_sub, q_rem, q_div, q_eq, q_le, q_lt, q_cl, q_in, q_m1, q_1m, q_neg, sh1n, bitn, q_mod2, q_neq0, bq_t, bq_f, bq_t2, bq_f2, i01, i10, q_tt, q_ff, ups_e, ups_n, fil_i, fil_o, zq_if, zq_0, zq_1, if_pos, if_neg]
    exact k ν hm he
  · simp (disch := first | omega | (simp only [Gp_si, Gp_sl, Gp_ci, Gp_cl]; assumption)) only [li_0, li_1, li_2, li_3, li_4, li_5, li_6, li_7, li_8, li_9, li_10, li_11, li_12, li_13, li_14, li_15, li_16, li_17, li_18, li_19, li_20, li_21, li_22, li_23, li_24, li_25, li_26, li_27, li_28, li_29, li_30, li_32, li_33, li_34, li_35, li_36, li_37, li_38, li_39, li_40, li_41, li_42, li_43, li_44, li_45, li_46, li_47, li_48, li_49, li_50, li_51, li_52, li_53, li_54, li_55, li_56, li_57, li_58, li_59, li_60, li_61, li_62, li_63, li_64, li_65, li_66, li_67, li_68, li_69, li_70, li_71, li_72, li_73, li_74, li_75, li_76, li_77, li_78, li_79, li_80, li_81, li_82, li_83, li_84, li_85, li_86, li_87, li_88, li_89, li_90, li_91, li_92, li_93, li_94, li_95, li_96, li_97, li_98, li_99, li_100, li_101, li_102, li_103, li_104, li_105, li_106, li_107, li_108, li_109, li_110, li_111, li_112, li_113, li_114, li_115, li_116, li_117, li_118, li_119, li_120, li_121, li_122, li_123, li_124, li_125, li_126, li_127, li_128, li_129, li_130, li_134, li_160, li_197, li_229, li_255, li_256, li_265, li_300, li_301, li_330, li_353, li_463, li_720, li_729, li_768, li_999, li_2610, li_2807, li_2867, li_2916, li_4096, li_9999, li_10000, li_30643, li_65535, li_99999, li_1000000, gi_si, gi_sl, gi_sr, gi_ci, gi_cl, gl_si, gl_sl, gl_sr, gl_ci, gl_cl, gr_si, gr_sl, gr_sr, gr_ci, gr_cl, ln_si, ln_sl, ln_sr, ln_ci, ln_cl, ok_si, ok_sl, ok_sr, ok_ci, ok_cl, Option.some.injEq, exists_eq_left', exists_eq_left, forall_eq, forall_eq', true_and, and_true, if_true, if_false, true_imp_iff, false_imp_iff, not_true_eq_false, not_false_eq_true, false_and, and_false, reduceIte, reduceCtorEq, forall_const, Nat.reduceEqDiff, Nat.reduceAdd, Nat.reduceMul, Nat.reduceSub, Nat.reduceLT, Nat.reduceLeDiff, Nat.reduceMod, Nat.reduceDiv, and_self, ne_eq, exists_const, Nat.add_sub_cancel, nI_add, pk_mul, pk_sub, q_rem, q_div, q_eq, q_le, q_lt, q_cl, q_in, q_m1, q_1m, q_neg, sh1n, bitn, q_mod2, q_neq0, bq_t, bq_f, bq_t2, bq_f2, i01, i10, q_tt, q_ff, ups_e, ups_n, fil_i, fil_o, zq_if, zq_0, zq_1, if_pos, if_neg, a1, a2, a3, a4]
    refine hK _ (by omega) ⟨mof_ts hm _ _, fun j hj => ?_⟩
    by_cases c : j = i
    · subst c
      rw [gi_si, if_pos ⟨rfl, rfl⟩]
      exact (hm.2.2.2 o hd.2.2.2.2.2.2 j).1
    · rw [gi_si, if_neg (by omega)]
      exact he j (by omega)
theorem row_cp {ν : Me} {o o' : Nat} (h : RowA μ o s) (e : ∀ j, j < 2867 → mgi ν o' j = mgi μ o j) : RowA ν o' s := ⟨fun j hj h2 => (e j hj).trans (h.1 j hj h2), (e 2 (by decide)).trans h.2⟩
theorem M_image (h : Mo μ s T) (k : ∀ ν, mof μ ν 316 → RowA ν 316 s → Mo ν s T → Q (nI (s 6)) ν) : S_X11_image 314 μ Q := by
  obtain ⟨hG, hA, hW, hTx⟩ := id h
  unfold S_X11_image
  simp (disch := first | omega | (simp only [Gp_si, Gp_sl, Gp_ci, Gp_cl]; assumption)) only [li_0, li_1, li_2, li_3, li_4, li_5, li_6, li_7, li_8, li_9, li_10, li_11, li_12, li_13, li_14, li_15, li_16, li_17, li_18, li_19, li_20, li_21, li_22, li_23, li_24, li_25, li_26, li_27, li_28, li_29, li_30, li_32, li_33, li_34, li_35, li_36, li_37, li_38, li_39, li_40, li_41, li_42, li_43, li_44, li_45, li_46, li_47, li_48, li_49, li_50, li_51, li_52, li_53, li_54, li_55, li_56, li_57, li_58, li_59, li_60, li_61, li_62, li_63, li_64, li_65, li_66, li_67, li_68, li_69, li_70, li_71, li_72, li_73, li_74, li_75, li_76, li_77, li_78, li_79, li_80, li_81, li_82, li_83, li_84, li_85, li_86, li_87, li_88, li_89, li_90, li_91, li_92, li_93, li_94, li_95, li_96, li_97, li_98, li_99, li_100, li_101, li_102, li_103, li_104, li_105, li_106, li_107, li_108, li_109, li_110, li_111, li_112, li_113, li_114, li_115, li_116, li_117, li_118, li_119, li_120, li_121, li_122, li_123, li_124, li_125, li_126, li_127, li_128, li_129, li_130, li_134, li_160, li_197, li_229, li_255, li_256, li_265, li_300, li_301, li_330, li_353, li_463, li_720, li_729, li_768, li_999, li_2610, li_2807, li_2867, li_2916, li_4096, li_9999, li_10000, li_30643, li_65535, li_99999, li_1000000, gi_si, gi_sl, gi_sr, gi_ci, gi_cl, gl_si, gl_sl, gl_sr, gl_ci, gl_cl, gr_si, gr_sl, gr_sr, gr_ci, gr_cl, ln_si, ln_sl, ln_sr, ln_ci, ln_cl, ok_si, ok_sl, ok_sr, ok_ci, ok_cl, gp_k hG, gp_l hG, gp_r hG, gp_m hG, Option.some.injEq, exists_eq_left', exists_eq_left, forall_eq, forall_eq', true_and, and_true, if_true, if_false, true_imp_iff, false_imp_iff, not_true_eq_false, not_false_eq_true, false_and, and_false, reduceIte, reduceCtorEq, forall_const, Nat.reduceEqDiff, Nat.reduceAdd, Nat.reduceMul, Nat.reduceSub, Nat.reduceLT, Nat.reduceLeDiff, Nat.reduceMod, Nat.reduceDiv, and_self, ne_eq, exists_const, Nat.add_sub_cancel, nI_add, pk_mul, pk_sub, q_rem, q_div, q_eq, q_le, q_lt, q_cl, q_in, q_m1, q_1m, q_neg, sh1n, bitn, q_mod2, q_neq0, bq_t, bq_f, bq_t2, bq_f2, i01, i10, q_tt, q_ff, ups_e, ups_n, fil_i, fil_o, zq_if, zq_0, zq_1, if_pos, if_neg]
  refine p_copy hG (Or.inl ⟨rfl, rfl⟩) (fun ν hm he => ?_)
  have hH := Gp_of (o := 316) hG hm (by decide)
  have h6 : mgi ν 315 6 = nI (s 6) := ((hm.2.2.2 315 (by decide) 6).1).trans (hA.1 6 (by decide) (by decide))
  simp (disch := first | omega | (simp only [Gp_si, Gp_sl, Gp_ci, Gp_cl]; assumption)) only [li_0, li_1, li_2, li_3, li_4, li_5, li_6, li_7, li_8, li_9, li_10, li_11, li_12, li_13, li_14, li_15, li_16, li_17, li_18, li_19, li_20, li_21, li_22, li_23, li_24, li_25, li_26, li_27, li_28, li_29, li_30, li_32, li_33, li_34, li_35, li_36, li_37, li_38, li_39, li_40, li_41, li_42, li_43, li_44, li_45, li_46, li_47, li_48, li_49, li_50, li_51, li_52, li_53, li_54, li_55, li_56, li_57, li_58, li_59, li_60, li_61, li_62, li_63, li_64, li_65, li_66, li_67, li_68, li_69, li_70, li_71, li_72, li_73, li_74, li_75, li_76, li_77, li_78, li_79, li_80, li_81, li_82, li_83, li_84, li_85, li_86, li_87, li_88, li_89, li_90, li_91, li_92, li_93, li_94, li_95, li_96, li_97, li_98, li_99, li_100, li_101, li_102, li_103, li_104, li_105, li_106, li_107, li_108, li_109, li_110, li_111, li_112, li_113, li_114, li_115, li_116, li_117, li_118, li_119, li_120, li_121, li_122, li_123, li_124, li_125, li_126, li_127, li_128, li_129, li_130, li_134, li_160, li_197, li_229, li_255, li_256, li_265, li_300, li_301, li_330, li_353, li_463, li_720, li_729, li_768, li_999, li_2610, li_2807, li_2867, li_2916, li_4096, li_9999, li_10000, li_30643, li_65535, li_99999, li_1000000, gi_si, gi_sl, gi_sr, gi_ci, gi_cl, gl_si, gl_sl, gl_sr, gl_ci, gl_cl, gr_si, gr_sl, gr_sr, gr_ci, gr_cl, ln_si, ln_sl, ln_sr, ln_ci, ln_cl, ok_si, ok_sl, ok_sr, ok_ci, ok_cl, gp_k hH, gp_l hH, gp_r hH, gp_m hH, Option.some.injEq, exists_eq_left', exists_eq_left, forall_eq, forall_eq', true_and, and_true, if_true, if_false, true_imp_iff, false_imp_iff, not_true_eq_false, not_false_eq_true, false_and, and_false, reduceIte, reduceCtorEq, forall_const, Nat.reduceEqDiff, Nat.reduceAdd, Nat.reduceMul, Nat.reduceSub, Nat.reduceLT, Nat.reduceLeDiff, Nat.reduceMod, Nat.reduceDiv, and_self, ne_eq, exists_const, Nat.add_sub_cancel, nI_add, pk_mul, pk_sub, q_rem, q_div, q_eq, q_le, q_lt, q_cl, q_in, q_m1, q_1m, q_neg, sh1n, bitn, q_mod2, q_neq0, bq_t, bq_f, bq_t2, bq_f2, i01, i10, q_tt, q_ff, ups_e, ups_n, fil_i, fil_o, zq_if, zq_0, zq_1, if_pos, if_neg, h6]
  exact k ν hm (row_cp hA he) ⟨hH, RowA_x hA (fun q => (hm.2.2.2 315 (by decide) q).1), hW, fun i hi => TxM_x (hTx i hi) (fun q => (hm.2.2.2 317 (by decide) q).1)⟩
theorem M_back (h : Mo μ s T) (hi : RowA μ 316 si) (hWi : WF si) (h1 : si 1 ≤ s 1) (k : ∀ ν, Fq μ ν → Mo ν si T → Q (nI (si 6)) ν) : S_X11_back 314 μ Q := by
  obtain ⟨hG, hA, hW, hTx⟩ := id h
  unfold S_X11_back
  simp (disch := first | omega | (simp only [Gp_si, Gp_sl, Gp_ci, Gp_cl]; assumption)) only [li_0, li_1, li_2, li_3, li_4, li_5, li_6, li_7, li_8, li_9, li_10, li_11, li_12, li_13, li_14, li_15, li_16, li_17, li_18, li_19, li_20, li_21, li_22, li_23, li_24, li_25, li_26, li_27, li_28, li_29, li_30, li_32, li_33, li_34, li_35, li_36, li_37, li_38, li_39, li_40, li_41, li_42, li_43, li_44, li_45, li_46, li_47, li_48, li_49, li_50, li_51, li_52, li_53, li_54, li_55, li_56, li_57, li_58, li_59, li_60, li_61, li_62, li_63, li_64, li_65, li_66, li_67, li_68, li_69, li_70, li_71, li_72, li_73, li_74, li_75, li_76, li_77, li_78, li_79, li_80, li_81, li_82, li_83, li_84, li_85, li_86, li_87, li_88, li_89, li_90, li_91, li_92, li_93, li_94, li_95, li_96, li_97, li_98, li_99, li_100, li_101, li_102, li_103, li_104, li_105, li_106, li_107, li_108, li_109, li_110, li_111, li_112, li_113, li_114, li_115, li_116, li_117, li_118, li_119, li_120, li_121, li_122, li_123, li_124, li_125, li_126, li_127, li_128, li_129, li_130, li_134, li_160, li_197, li_229, li_255, li_256, li_265, li_300, li_301, li_330, li_353, li_463, li_720, li_729, li_768, li_999, li_2610, li_2807, li_2867, li_2916, li_4096, li_9999, li_10000, li_30643, li_65535, li_99999, li_1000000, gi_si, gi_sl, gi_sr, gi_ci, gi_cl, gl_si, gl_sl, gl_sr, gl_ci, gl_cl, gr_si, gr_sl, gr_sr, gr_ci, gr_cl, ln_si, ln_sl, ln_sr, ln_ci, ln_cl, ok_si, ok_sl, ok_sr, ok_ci, ok_cl, gp_k hG, gp_l hG, gp_r hG, gp_m hG, Option.some.injEq, exists_eq_left', exists_eq_left, forall_eq, forall_eq', true_and, and_true, if_true, if_false, true_imp_iff, false_imp_iff, not_true_eq_false, not_false_eq_true, false_and, and_false, reduceIte, reduceCtorEq, forall_const, Nat.reduceEqDiff, Nat.reduceAdd, Nat.reduceMul, Nat.reduceSub, Nat.reduceLT, Nat.reduceLeDiff, Nat.reduceMod, Nat.reduceDiv, and_self, ne_eq, exists_const, Nat.add_sub_cancel, nI_add, pk_mul, pk_sub, q_rem, q_div, q_eq, q_le, q_lt, q_cl, q_in, q_m1, q_1m, q_neg, sh1n, bitn, q_mod2, q_neq0, bq_t, bq_f, bq_t2, bq_f2, i01, i10, q_tt, q_ff, ups_e, ups_n, fil_i, fil_o, zq_if, zq_0, zq_1, if_pos, if_neg]
  refine p_copy hG (Or.inr ⟨rfl, rfl⟩) (fun ν hm he => ?_)
  have hF := fq_mof hm
  have hH := fq_gp hG hF
  have hR := row_cp hi he
  have h6 := hR.1 6 (by decide) (by decide)
  simp (disch := first | omega | (simp only [Gp_si, Gp_sl, Gp_ci, Gp_cl]; assumption)) only [li_0, li_1, li_2, li_3, li_4, li_5, li_6, li_7, li_8, li_9, li_10, li_11, li_12, li_13, li_14, li_15, li_16, li_17, li_18, li_19, li_20, li_21, li_22, li_23, li_24, li_25, li_26, li_27, li_28, li_29, li_30, li_32, li_33, li_34, li_35, li_36, li_37, li_38, li_39, li_40, li_41, li_42, li_43, li_44, li_45, li_46, li_47, li_48, li_49, li_50, li_51, li_52, li_53, li_54, li_55, li_56, li_57, li_58, li_59, li_60, li_61, li_62, li_63, li_64, li_65, li_66, li_67, li_68, li_69, li_70, li_71, li_72, li_73, li_74, li_75, li_76, li_77, li_78, li_79, li_80, li_81, li_82, li_83, li_84, li_85, li_86, li_87, li_88, li_89, li_90, li_91, li_92, li_93, li_94, li_95, li_96, li_97, li_98, li_99, li_100, li_101, li_102, li_103, li_104, li_105, li_106, li_107, li_108, li_109, li_110, li_111, li_112, li_113, li_114, li_115, li_116, li_117, li_118, li_119, li_120, li_121, li_122, li_123, li_124, li_125, li_126, li_127, li_128, li_129, li_130, li_134, li_160, li_197, li_229, li_255, li_256, li_265, li_300, li_301, li_330, li_353, li_463, li_720, li_729, li_768, li_999, li_2610, li_2807, li_2867, li_2916, li_4096, li_9999, li_10000, li_30643, li_65535, li_99999, li_1000000, gi_si, gi_sl, gi_sr, gi_ci, gi_cl, gl_si, gl_sl, gl_sr, gl_ci, gl_cl, gr_si, gr_sl, gr_sr, gr_ci, gr_cl, ln_si, ln_sl, ln_sr, ln_ci, ln_cl, ok_si, ok_sl, ok_sr, ok_ci, ok_cl, gp_k hH, gp_l hH, gp_r hH, gp_m hH, Option.some.injEq, exists_eq_left', exists_eq_left, forall_eq, forall_eq', true_and, and_true, if_true, if_false, true_imp_iff, false_imp_iff, not_true_eq_false, not_false_eq_true, false_and, and_false, reduceIte, reduceCtorEq, forall_const, Nat.reduceEqDiff, Nat.reduceAdd, Nat.reduceMul, Nat.reduceSub, Nat.reduceLT, Nat.reduceLeDiff, Nat.reduceMod, Nat.reduceDiv, and_self, ne_eq, exists_const, Nat.add_sub_cancel, nI_add, pk_mul, pk_sub, q_rem, q_div, q_eq, q_le, q_lt, q_cl, q_in, q_m1, q_1m, q_neg, sh1n, bitn, q_mod2, q_neq0, bq_t, bq_f, bq_t2, bq_f2, i01, i10, q_tt, q_ff, ups_e, ups_n, fil_i, fil_o, zq_if, zq_0, zq_1, if_pos, if_neg, h6]
  exact k ν hF ⟨hH, hR, hWi, fun i hi => TxM_x (hTx i (by omega)) (fun q => hF.2.2.2.2.1 317 q (by omega))⟩
end IN
