/-! the reference's next token; its words -/
section MN
variable {μ : Me} {b : Nat → Nat} {L : Nat} {Q : Int32 → Me → Prop}
theorem tkK_sg {p : Nat} (hp : p < L) (hd : isD (b p) = false) (hl : isLt (b p) = false) : tkK b L p = sgK (b p) (if p + 1 < L then b (p + 1) else 0) := by
  unfold tkK
  rw [if_neg (by omega), if_neg (by rw [hd]; decide), if_neg (by rw [hl]; decide)]
theorem m_sign (hG : Gp μ) (hT : TpM μ b L) {p : Nat} (hp : p < L) (hd : isD (b p) = false) (hl : isLt (b p) = false) {t : Nat} (ht : t = if b p = 58 ∨ sgN (b p) ≠ 52 then b p else 3) (h7 : mgi μ 314 7 = nI p) (h8 : mgi μ 314 8 = nI p) {Q : Me → Prop} (k : ∀ ν, Fn μ ν → MT ν b L p → Q ν) : B_X11_nextToken_247 314 (nI (b p)) (nI t) (some 314) μ Q := by
  obtain ⟨g1, g2, g3⟩ := sgK_41 (x := b p) (y := if p + 1 < L then b (p + 1) else 0)
  rw [← tkK_sg hp hd hl] at g1 g2 g3
  have hb := (hT.2.2 p hp).1
  have hl3 := hT.1
  have eE : tkE b L p = if (b p = 60 ∨ b p = 62) ∧ p + 1 < L ∧ b (p + 1) = 61 then p + 2 else p + 1 := by
    unfold tkE
    rw [if_neg (by omega), if_neg (by rw [hd]; decide), if_neg (by rw [hl]; decide)]
  have eV : tvM b L p = if tkK b L p = 41 then 4 else if tkK b L p = 42 then 5 else t := by
    unfold tvM
    rw [if_neg (by omega), if_neg (by rw [hd]; decide), if_neg (by rw [hl]; decide), ht]
  have mt : ∀ ν, mgi ν 314 8 = nI p → mgi ν 314 7 = nI (tkE b L p) → mgi ν 314 9 = nI (tvM b L p) → MT ν b L p := fun ν x8 x7 x9 => ⟨by omega, x8, x7, x9, fun _ x => absurd x (by rw [hd]; decide), fun _ _ x => absurd x (by rw [hl]; decide)⟩
  have hT2 : TpM (msi (msi μ 314 9 (nI t)) 314 7 (nI (p + 1))) b L := TpM_fn hT (fn_si (fn_si (fn_rf μ) 9 _ (by omega)) 7 _ (by omega))
  have one : ¬ ((b p = 60 ∨ b p = 62) ∧ p + 1 < L ∧ b (p + 1) = 61) → Q (msi (msi μ 314 9 (nI t)) 314 7 (nI (p + 1))) := by
    intro hn
    have n1 : ¬ tkK b L p = 41 := by
      rw [g1]
      rintro ⟨x1, x2⟩
      by_cases q : p + 1 < L
      · rw [if_pos q] at x2
        exact hn ⟨Or.inl x1, q, x2⟩
      · rw [if_neg q] at x2
        omega
    have n2 : ¬ tkK b L p = 42 := by
      rw [g2]
      rintro ⟨x1, x2⟩
      by_cases q : p + 1 < L
      · rw [if_pos q] at x2
        exact hn ⟨Or.inr x1, q, x2⟩
      · rw [if_neg q] at x2
        omega
    rw [if_neg n1, if_neg n2] at eV
    rw [if_neg hn] at eE
    refine k _ (fn_si (fn_si (fn_rf μ) 9 _ (by omega)) 7 _ (by omega)) (mt _ ?_ ?_ ?_)
    · rw [gi_si, if_neg (by omega), gi_si, if_neg (by omega)]; exact h8
    · rw [gi_si, if_pos ⟨rfl, rfl⟩, eE]
    · rw [gi_si, if_neg (by omega), gi_si, if_pos ⟨rfl, rfl⟩, eV]
  have two : ∀ s : Nat, p + 1 < L → b (p + 1) = 61 → ((b p = 60 ∧ s = 4) ∨ (b p = 62 ∧ s = 5)) → B_X11_nextToken_297 314 (nI s) (some 314) (msi (msi μ 314 9 (nI t)) 314 7 (nI (p + 1))) Q := by
    intro s hl1 h61 hs
    have ee : tkE b L p = p + 2 := by
      rw [eE, if_pos ⟨by omega, hl1, h61⟩]
    have ev : tvM b L p = s := by
      rw [eV]
      rw [if_pos hl1] at g1 g2
      rcases hs with ⟨s1, s2⟩ | ⟨s1, s2⟩
      · rw [if_pos (by rw [g1]; exact ⟨s1, h61⟩), s2]
      · rw [if_neg (by rw [g1]; omega), if_pos (by rw [g2]; exact ⟨s1, h61⟩), s2]
    unfold B_X11_nextToken_297
    simp (disch := first | omega | (simp only [Gp_si, Gp_sl, Gp_ci, Gp_cl]; assumption)) only [li_0, li_1, li_2, li_3, li_4, li_5, li_6, li_7, li_8, li_9, li_10, li_11, li_12, li_13, li_14, li_15, li_16, li_17, li_18, li_19, li_20, li_21, li_22, li_23, li_24, li_25, li_26, li_27, li_28, li_29, li_30, li_32, li_33, li_34, li_35, li_36, li_37, li_38, li_39, li_40, li_41, li_42, li_43, li_44, li_45, li_46, li_47, li_48, li_49, li_50, li_51, li_52, li_53, li_54, li_55, li_56, li_57, li_58, li_59, li_60, li_61, li_62, li_63, li_64, li_65, li_66, li_67, li_68, li_69, li_70, li_71, li_72, li_73, li_74, li_75, li_76, li_77, li_78, li_79, li_80, li_81, li_82, li_83, li_84, li_85, li_86, li_87, li_88, li_89, li_90, li_91, li_92, li_93, li_94, li_95, li_96, li_97, li_98, li_99, li_100, li_101, li_102, li_103, li_104, li_105, li_106, li_107, li_108, li_109, li_110, li_111, li_112, li_113, li_114, li_115, li_116, li_117, li_118, li_119, li_120, li_121, li_122, li_123, li_124, li_125, li_126, li_127, li_128, li_129, li_130, li_134, li_160, li_197, li_229, li_255, li_256, li_265, li_300, li_301, li_330, li_353, li_463, li_720, li_729, li_768, li_999, li_2610, li_2807, li_2867, li_2916, li_4096, li_9999, li_10000, li_30643, li_65535, li_99999, li_1000000, gi_si, gi_sl, gi_sr, gi_ci, gi_cl, gl_si, gl_sl, gl_sr, gl_ci, gl_cl, gr_si, gr_sl, gr_sr, gr_ci, gr_cl, ln_si, ln_sl, ln_sr, ln_ci, ln_cl, ok_si, ok_sl, ok_sr, ok_ci, ok_cl, gp_k hG, gp_l hG, gp_r hG, gp_m hG, Option.some.injEq, exists_eq_left', exists_eq_left, forall_eq, forall_eq', true_and, and_true, if_true, if_false, true_imp_iff, false_imp_iff, not_true_eq_false, not_false_eq_true, false_and, and_false, reduceIte, reduceCtorEq, forall_const, Nat.reduceEqDiff, Nat.reduceAdd, Nat.reduceMul, Nat.reduceSub, Nat.reduceLT, Nat.reduceLeDiff, Nat.reduceMod, Nat.reduceDiv, and_self, ne_eq, exists_const, Nat.add_sub_cancel, nI_add, pk_mul, pk_sub, q_rem, q_div, q_eq, q_le, q_lt, q_cl, q_in, q_m1, q_1m, q_neg, sh1n, bitn, q_mod2, q_neq0, bq_t, bq_f, bq_t2, bq_f2, i01, i10, q_tt, q_ff, ups_e, ups_n, fil_i, fil_o, zq_if, zq_0, zq_1, if_pos, if_neg]
    refine k _ (fn_si (fn_si (fn_si (fn_si (fn_rf μ) 9 _ (by omega)) 7 _ (by omega)) 9 _ (by omega)) 7 _ (by omega)) (mt _ ?_ ?_ ?_)
    · rw [gi_si, if_neg (by omega), gi_si, if_neg (by omega), gi_si, if_neg (by omega), gi_si, if_neg (by omega)]; exact h8
    · rw [gi_si, if_pos ⟨rfl, rfl⟩, ee]
    · rw [gi_si, if_neg (by omega), gi_si, if_pos ⟨rfl, rfl⟩, ev]
  have mid : (b p = 60 ∨ b p = 62) → B_X11_nextToken_272 314 (nI (b p)) (msi (msi μ 314 9 (nI t)) 314 7 (nI (p + 1))) Q := by
    intro hc
    unfold B_X11_nextToken_272
    refine ⟨gp_ok (show Gp (msi (msi μ 314 9 (nI t)) 314 7 (nI (p + 1))) from hG) (by decide) (by decide), ?_⟩
    rw [show mgi (msi (msi μ 314 9 (nI t)) 314 7 (nI (p + 1))) 314 7 = nI (p + 1) by rw [gi_si, if_pos ⟨rfl, rfl⟩], e_byteAt (by exact hG) hT2 (by omega)]
    by_cases q : p + 1 < L
    · have hb2 := (hT.2.2 (p + 1) q).1
      rw [if_pos q]
      by_cases c61 : b (p + 1) = 61
      · refine ⟨fun x => absurd (by rw [c61]; rfl) x, fun _ => ⟨fun x => two 5 q c61 (Or.inr ⟨?_, rfl⟩), fun x => two 4 q c61 (Or.inl ⟨?_, rfl⟩)⟩⟩
        · rcases hc with e | e
          · exact absurd (by rw [e]; rfl) x
          · exact e
        · rw [li_60, q_eq (by omega) (by omega)] at x
          exact x
      · refine ⟨fun _ => one (by omega), fun x => ?_⟩
        rw [li_61, q_eq (by omega) (by omega)] at x
        exact absurd x c61
    · rw [if_neg q]
      refine ⟨fun _ => one (by omega), fun x => absurd x (by decide)⟩
  unfold B_X11_nextToken_247
  simp (disch := first | omega | (simp only [Gp_si, Gp_sl, Gp_ci, Gp_cl]; assumption)) only [li_0, li_1, li_2, li_3, li_4, li_5, li_6, li_7, li_8, li_9, li_10, li_11, li_12, li_13, li_14, li_15, li_16, li_17, li_18, li_19, li_20, li_21, li_22, li_23, li_24, li_25, li_26, li_27, li_28, li_29, li_30, li_32, li_33, li_34, li_35, li_36, li_37, li_38, li_39, li_40, li_41, li_42, li_43, li_44, li_45, li_46, li_47, li_48, li_49, li_50, li_51, li_52, li_53, li_54, li_55, li_56, li_57, li_58, li_59, li_60, li_61, li_62, li_63, li_64, li_65, li_66, li_67, li_68, li_69, li_70, li_71, li_72, li_73, li_74, li_75, li_76, li_77, li_78, li_79, li_80, li_81, li_82, li_83, li_84, li_85, li_86, li_87, li_88, li_89, li_90, li_91, li_92, li_93, li_94, li_95, li_96, li_97, li_98, li_99, li_100, li_101, li_102, li_103, li_104, li_105, li_106, li_107, li_108, li_109, li_110, li_111, li_112, li_113, li_114, li_115, li_116, li_117, li_118, li_119, li_120, li_121, li_122, li_123, li_124, li_125, li_126, li_127, li_128, li_129, li_130, li_134, li_160, li_197, li_229, li_255, li_256, li_265, li_300, li_301, li_330, li_353, li_463, li_720, li_729, li_768, li_999, li_2610, li_2807, li_2867, li_2916, li_4096, li_9999, li_10000, li_30643, li_65535, li_99999, li_1000000, gi_si, gi_sl, gi_sr, gi_ci, gi_cl, gl_si, gl_sl, gl_sr, gl_ci, gl_cl, gr_si, gr_sl, gr_sr, gr_ci, gr_cl, ln_si, ln_sl, ln_sr, ln_ci, ln_cl, ok_si, ok_sl, ok_sr, ok_ci, ok_cl, gp_k hG, gp_l hG, gp_r hG, gp_m hG, Option.some.injEq, exists_eq_left', exists_eq_left, forall_eq, forall_eq', true_and, and_true, if_true, if_false, true_imp_iff, false_imp_iff, not_true_eq_false, not_false_eq_true, false_and, and_false, reduceIte, reduceCtorEq, forall_const, Nat.reduceEqDiff, Nat.reduceAdd, Nat.reduceMul, Nat.reduceSub, Nat.reduceLT, Nat.reduceLeDiff, Nat.reduceMod, Nat.reduceDiv, and_self, ne_eq, exists_const, Nat.add_sub_cancel, nI_add, pk_mul, pk_sub, q_rem, q_div, q_eq, q_le, q_lt, q_cl, q_in, q_m1, q_1m, q_neg, sh1n, bitn, q_mod2, q_neq0, bq_t, bq_f, bq_t2, bq_f2, i01, i10, q_tt, q_ff, ups_e, ups_n, fil_i, fil_o, zq_if, zq_0, zq_1, if_pos, if_neg, h7]
  by_cases c60 : b p = 60
  · exact ⟨fun _ => mid (Or.inl c60), fun x => absurd c60 x⟩
  · refine ⟨fun x => absurd x c60, fun _ => ⟨fun x => one (by omega), fun x => mid (Or.inr x)⟩⟩
theorem m_next (hG : Gp μ) (hT : TpM μ b L) {q0 : Nat} (h7 : mgi μ 314 7 = nI q0) (hq : q0 ≤ L) {Q : Me → Prop} (k : ∀ ν, Fn μ ν → MT ν b L (pnx b L q0) → Q ν) : S_X11_nextToken 314 μ Q := by
  have hl3 := hT.1
  refine loopZ (Bd := fun ν K => B_X11_nextToken_0 314 ν K Q) (fun ν n => ∃ q, q ≤ L ∧ n = L - q ∧ Fn μ ν ∧ mgi ν 314 7 = nI q ∧ pnx b L q = pnx b L q0) ⟨_, q0, hq, rfl, fn_rf μ, h7, rfl⟩ ?_
  rintro ν n ⟨q, hqL, rfl, hF, g7, hp⟩ K hK
  have hH := fn_gp hG hF
  have hTn := TpM_fn hT hF
  rw [← hp] at k
  unfold B_X11_nextToken_0 B_X11_nextToken_26
  refine ⟨gp_ok hH (by decide) (by decide), ?_⟩
  rw [g7, e_byteAt hH hTn (by omega)]
  by_cases cL : q < L
  · have hb := (hT.2.2 q cL).1
    rw [if_pos cL]
    have skp : isB (b q) = true → K (msi ν 314 7 (nI (q + 1))) := by
      intro hB
      refine hK _ (L - (q + 1)) (by omega) ⟨q + 1, by omega, rfl, fn_si hF 7 _ (by omega), by rw [gi_si, if_pos ⟨rfl, rfl⟩], ?_⟩
      rw [← hp]
      exact (endR_t cL hB).symm
    refine ⟨fun e => ?_, fun e => ?_⟩
    · rw [li_32, q_eq (by omega) (by omega)] at e
      have s := skp (decide_eq_true (Or.inl e))
      simp (disch := first | omega | (simp only [Gp_si, Gp_sl, Gp_ci, Gp_cl]; assumption)) only [li_0, li_1, li_2, li_3, li_4, li_5, li_6, li_7, li_8, li_9, li_10, li_11, li_12, li_13, li_14, li_15, li_16, li_17, li_18, li_19, li_20, li_21, li_22, li_23, li_24, li_25, li_26, li_27, li_28, li_29, li_30, li_32, li_33, li_34, li_35, li_36, li_37, li_38, li_39, li_40, li_41, li_42, li_43, li_44, li_45, li_46, li_47, li_48, li_49, li_50, li_51, li_52, li_53, li_54, li_55, li_56, li_57, li_58, li_59, li_60, li_61, li_62, li_63, li_64, li_65, li_66, li_67, li_68, li_69, li_70, li_71, li_72, li_73, li_74, li_75, li_76, li_77, li_78, li_79, li_80, li_81, li_82, li_83, li_84, li_85, li_86, li_87, li_88, li_89, li_90, li_91, li_92, li_93, li_94, li_95, li_96, li_97, li_98, li_99, li_100, li_101, li_102, li_103, li_104, li_105, li_106, li_107, li_108, li_109, li_110, li_111, li_112, li_113, li_114, li_115, li_116, li_117, li_118, li_119, li_120, li_121, li_122, li_123, li_124, li_125, li_126, li_127, li_128, li_129, li_130, li_134, li_160, li_197, li_229, li_255, li_256, li_265, li_300, li_301, li_330, li_353, li_463, li_720, li_729, li_768, li_999, li_2610, li_2807, li_2867, li_2916, li_4096, li_9999, li_10000, li_30643, li_65535, li_99999, li_1000000, gi_si, gi_sl, gi_sr, gi_ci, gi_cl, gl_si, gl_sl, gl_sr, gl_ci, gl_cl, gr_si, gr_sl, gr_sr, gr_ci, gr_cl, ln_si, ln_sl, ln_sr, ln_ci, ln_cl, ok_si, ok_sl, ok_sr, ok_ci, ok_cl, gp_k hH, gp_l hH, gp_r hH, gp_m hH, Option.some.injEq, exists_eq_left', exists_eq_left, forall_eq, forall_eq', true_and, and_true, if_true, if_false, true_imp_iff, false_imp_iff, not_true_eq_false, not_false_eq_true, false_and, and_false, reduceIte, reduceCtorEq, forall_const, Nat.reduceEqDiff, Nat.reduceAdd, Nat.reduceMul, Nat.reduceSub, Nat.reduceLT, Nat.reduceLeDiff, Nat.reduceMod, Nat.reduceDiv, and_self, ne_eq, exists_const, Nat.add_sub_cancel, nI_add, pk_mul, pk_sub, q_rem, q_div, q_eq, q_le, q_lt, q_cl, q_in, q_m1, q_1m, q_neg, sh1n, bitn, q_mod2, q_neq0, bq_t, bq_f, bq_t2, bq_f2, i01, i10, q_tt, q_ff, ups_e, ups_n, fil_i, fil_o, zq_if, zq_0, zq_1, if_pos, if_neg, g7]
      exact s
    · rw [li_32, q_eq (by omega) (by omega)] at e
      rw [g7, e_byteAt hH hTn (by omega), if_pos cL]
      refine ⟨fun e2 => ?_, fun e2 => ?_⟩
      · rw [li_10, q_eq (by omega) (by omega)] at e2
        have nB : isB (b q) = false := decide_eq_false (by omega)
        have pq : pnx b L q = q := endR_f cL nB
        rw [pq] at k
        rw [forall_eq, g7]
        have hH2 : Gp (msi ν 314 8 (nI q)) := hH
        have hT2 : TpM (msi ν 314 8 (nI q)) b L := TpM_fn hTn (fn_si (fn_rf ν) 8 _ (by omega))
        have f2 : Fn μ (msi ν 314 8 (nI q)) := fn_si hF 8 _ (by omega)
        have x7 : mgi (msi ν 314 8 (nI q)) 314 7 = nI q := by rw [gi_si, if_neg (by omega)]; exact g7
        have x8 : mgi (msi ν 314 8 (nI q)) 314 8 = nI q := by rw [gi_si, if_pos ⟨rfl, rfl⟩]
        rw [x7, e_byteAt hH2 hT2 (by omega), if_pos cL]
        generalize msi ν 314 8 (nI q) = ν2 at hH2 hT2 f2 x7 x8 ⊢
        refine ⟨fun _ => ?_, fun x => absurd (by rw [li_0, q_le (by omega) (by omega)]; omega) x⟩
        rw [e_isF hb]
        by_cases cd : isD (b q) = true
        · rw [if_pos cd]
          refine ⟨fun x => absurd x (by decide), fun _ => ?_⟩
          rw [forall_eq, forall_eq]
          refine m_num (by exact hH2) (TpM_fn hT2 (fn_si (fn_si (fn_rf ν2) 9 _ (by omega)) 10 _ (by omega))) cL cd ?_ ?_ ?_ ?_ (fun ρ h1 h2 => k ρ (fn_tr f2 (fn_tr (fn_si (fn_si (fn_rf ν2) 9 _ (by omega)) 10 _ (by omega)) h1)) h2)
          · rw [gi_si, if_neg (by omega), gi_si, if_neg (by omega)]; exact x7
          · rw [gi_si, if_neg (by omega), gi_si, if_neg (by omega)]; exact x8
          · rw [gi_si, if_neg (by omega), gi_si, if_pos ⟨rfl, rfl⟩]; rfl
          · rw [gi_si, if_pos ⟨rfl, rfl⟩]; rfl
        · rw [if_neg cd]
          have hd := Bool.eq_false_iff.2 cd
          refine ⟨fun _ => ?_, fun x => absurd rfl x⟩
          rw [e_isLB hb]
          by_cases cl : isLt (b q) = true
          · rw [if_pos cl]
            refine ⟨fun x => absurd x (by decide), fun _ => ?_⟩
            rw [forall_eq, forall_eq]
            refine m_word (by exact hH2) (TpM_fn hT2 (fn_sl (fn_si (fn_rf ν2) 9 _ (by omega)) 11 _)) cL hd cl ?_ ?_ ?_ ?_ (fun ρ h1 h2 => k ρ (fn_tr f2 (fn_tr (fn_sl (fn_si (fn_rf ν2) 9 _ (by omega)) 11 _) h1)) h2)
            · rw [gi_sl, gi_si, if_neg (by omega)]; exact x7
            · rw [gi_sl, gi_si, if_neg (by omega)]; exact x8
            · rw [gi_sl, gi_si, if_pos ⟨rfl, rfl⟩]; rfl
            · rw [gl_sl, if_pos ⟨rfl, rfl⟩]; rfl
          · rw [if_neg cl]
            have hl := Bool.eq_false_iff.2 cl
            refine ⟨fun _ => ?_, fun x => absurd rfl x⟩
            refine p_isSign hb (fun c => ⟨fun _ => ?_, fun x => absurd rfl x⟩) (fun c => ⟨fun x => absurd x (by decide), fun _ => ?_⟩)
            · exact m_sign hH2 hT2 cL hd hl (t := 3) (by rw [if_neg c]) x7 x8 (fun ρ h1 h2 => k ρ (fn_tr f2 h1) h2)
            · exact m_sign hH2 hT2 cL hd hl (t := b q) (by rw [if_pos c]) x7 x8 (fun ρ h1 h2 => k ρ (fn_tr f2 h1) h2)
      · rw [li_10, q_eq (by omega) (by omega)] at e2
        have s := skp (decide_eq_true (Or.inr e2))
        simp (disch := first | omega | (simp only [Gp_si, Gp_sl, Gp_ci, Gp_cl]; assumption)) only [li_0, li_1, li_2, li_3, li_4, li_5, li_6, li_7, li_8, li_9, li_10, li_11, li_12, li_13, li_14, li_15, li_16, li_17, li_18, li_19, li_20, li_21, li_22, li_23, li_24, li_25, li_26, li_27, li_28, li_29, li_30, li_32, li_33, li_34, li_35, li_36, li_37, li_38, li_39, li_40, li_41, li_42, li_43, li_44, li_45, li_46, li_47, li_48, li_49, li_50, li_51, li_52, li_53, li_54, li_55, li_56, li_57, li_58, li_59, li_60, li_61, li_62, li_63, li_64, li_65, li_66, li_67, li_68, li_69, li_70, li_71, li_72, li_73, li_74, li_75, li_76, li_77, li_78, li_79, li_80, li_81, li_82, li_83, li_84, li_85, li_86, li_87, li_88, li_89, li_90, li_91, li_92, li_93, li_94, li_95, li_96, li_97, li_98, li_99, li_100, li_101, li_102, li_103, li_104, li_105, li_106, li_107, li_108, li_109, li_110, li_111, li_112, li_113, li_114, li_115, li_116, li_117, li_118, li_119, li_120, li_121, li_122, li_123, li_124, li_125, li_126, li_127, li_128, li_129, li_130, li_134, li_160, li_197, li_229, li_255, li_256, li_265, li_300, li_301, li_330, li_353, li_463, li_720, li_729, li_768, li_999, li_2610, li_2807, li_2867, li_2916, li_4096, li_9999, li_10000, li_30643, li_65535, li_99999, li_1000000, gi_si, gi_sl, gi_sr, gi_ci, gi_cl, gl_si, gl_sl, gl_sr, gl_ci, gl_cl, gr_si, gr_sl, gr_sr, gr_ci, gr_cl, ln_si, ln_sl, ln_sr, ln_ci, ln_cl, ok_si, ok_sl, ok_sr, ok_ci, ok_cl, gp_k hH, gp_l hH, gp_r hH, gp_m hH, Option.some.injEq, exists_eq_left', exists_eq_left, forall_eq, forall_eq', true_and, and_true, if_true, if_false, true_imp_iff, false_imp_iff, not_true_eq_false, not_false_eq_true, false_and, and_false, reduceIte, reduceCtorEq, forall_const, Nat.reduceEqDiff, Nat.reduceAdd, Nat.reduceMul, Nat.reduceSub, Nat.reduceLT, Nat.reduceLeDiff, Nat.reduceMod, Nat.reduceDiv, and_self, ne_eq, exists_const, Nat.add_sub_cancel, nI_add, pk_mul, pk_sub, q_rem, q_div, q_eq, q_le, q_lt, q_cl, q_in, q_m1, q_1m, q_neg, sh1n, bitn, q_mod2, q_neq0, bq_t, bq_f, bq_t2, bq_f2, i01, i10, q_tt, q_ff, ups_e, ups_n, fil_i, fil_o, zq_if, zq_0, zq_1, if_pos, if_neg, g7]
        exact s
  · have eq : q = L := by omega
    subst eq
    rw [if_neg cL]
    refine ⟨fun x => absurd x (by decide), fun _ => ?_⟩
    rw [g7, e_byteAt hH hTn (by omega), if_neg cL]
    refine ⟨fun _ => ?_, fun x => absurd x (by decide)⟩
    rw [forall_eq, g7]
    have hT2 : TpM (msi ν 314 8 (nI q)) b q := TpM_fn hTn (fn_si (fn_rf ν) 8 _ (by omega))
    rw [show mgi (msi ν 314 8 (nI q)) 314 7 = nI q by rw [gi_si, if_neg (by omega)]; exact g7, e_byteAt (by exact hH) hT2 (by omega), if_neg cL]
    refine ⟨fun x => absurd x (by decide), fun _ => ?_⟩
    rw [forall_eq]
    have pq : pnx b q q = q := endR_e (Nat.le_refl _)
    rw [pq] at k
    refine k _ (fn_si (fn_si hF 8 _ (by omega)) 9 _ (by omega)) ⟨Nat.le_refl _, ?_, ?_, ?_, fun x => absurd x (by omega), fun x => absurd x (by omega)⟩
    · rw [gi_si, if_neg (by omega), gi_si, if_pos ⟨rfl, rfl⟩]
    · rw [gi_si, if_neg (by omega), gi_si, if_neg (by omega), g7]
      unfold tkE
      rw [if_pos (Nat.le_refl _)]
    · rw [gi_si, if_pos ⟨rfl, rfl⟩]
      unfold tvM
      rw [if_pos (Nat.le_refl _)]
      rfl
/-- words -/
theorem kw_ne : ∀ i, i < 26 → ∀ j, j < 26 → i ≠ j → kwd i ≠ kwd j := by decide +kernel
theorem kw_b : ∀ k, k < 26 → 1 ≤ kln k ∧ kln k ≤ 7 ∧ ∀ j, j < kln k → 65 ≤ kch k j ∧ kch k j < 256 := by decide +kernel
theorem lst_eq {l m : List Nat} (h : l.length = m.length) (e : ∀ j, j < l.length → l.getD j 0 = m.getD j 0) : l = m := by
  apply List.ext_getElem h
  intro j h1 h2
  have := e j h1
  rw [List.getD_eq_getElem?_getD, List.getD_eq_getElem?_getD, List.getElem?_eq_getElem h1, List.getElem?_eq_getElem h2] at this
  exact this
theorem wkd_iff {p n k : Nat} (hk : k < 26) : (wkd b p n = k) = (eqW b p n (kwd k) = true) := by
  apply propext
  have dis : ∀ i j, i < 26 → j < 26 → eqW b p n (kwd i) = true → eqW b p n (kwd j) = true → i = j := by
    intro i j hi hj h1 h2
    obtain ⟨a1, a2⟩ := eqW_t.1 h1
    obtain ⟨b1, b2⟩ := eqW_t.1 h2
    by_cases c : i = j
    · exact c
    · exact absurd (lst_eq (a1.symm.trans b1) (fun q hq => (a2 q hq).symm.trans (b2 q (by omega)))) (kw_ne i hi j hj c)
  constructor
  · intro h
    by_cases ex : ∃ i, i < 26 ∧ eqW b p n (kwd i) = true
    · obtain ⟨i, hi, ei⟩ := ex
      have : wkd b p n = i := wkd_some hi ei (fun k' hk' => Bool.eq_false_iff.2 (fun x => by
        have := dis k' i (by omega) hi x ei
        omega))
      rw [← h, this]
      exact ei
    · have : wkd b p n = 52 := wkd_none (fun k' hk' => Bool.eq_false_iff.2 (fun x => ex ⟨k', hk', x⟩))
      omega
  · intro h
    exact wkd_some hk h (fun k' hk' => Bool.eq_false_iff.2 (fun x => by
      have := dis k' k (by omega) hk x h
      omega))
theorem sgK_ge (x y : Nat) : 30 ≤ sgK x y := by
  have hs : 30 ≤ sgN x := by
    unfold sgN
    cases hf : sgL.findIdx? (fun y => y == x) with
    | none => exact (show 30 ≤ 52 by omega)
    | some j => exact (show 30 ≤ 30 + j by omega)
  unfold sgK
  by_cases c1 : x = 60 ∧ y = 61
  · rw [if_pos c1]; omega
  · rw [if_neg c1]
    by_cases c2 : x = 62 ∧ y = 61
    · rw [if_pos c2]; omega
    · rw [if_neg c2]; exact hs
theorem tkK_w {p : Nat} (h : tkK b L p < 26) : p < L ∧ isD (b p) = false ∧ isLt (b p) = true := by
  unfold tkK at h
  by_cases c1 : L ≤ p
  · rw [if_pos c1] at h
    omega
  · rw [if_neg c1] at h
    by_cases c2 : isD (b p) = true
    · rw [if_pos c2] at h
      omega
    · rw [if_neg c2] at h
      by_cases c3 : isLt (b p) = true
      · exact ⟨by omega, Bool.eq_false_iff.2 c2, c3⟩
      · rw [if_neg c3] at h
        exfalso
        have hs := sgK_ge (b p) (if p + 1 < L then b (p + 1) else 0)
        omega
theorem m_isWord (hG : Gp μ) (hT : TpM μ b L) {p : Nat} (h : MT μ b L p) {k : Nat} (hk : k < 26) (hk6 : kln k ≤ 6) : S_X11_isWord 314 (lN (pkN (kch k) (kln k))) μ Q = Q (nI (if tkK b L p = k then 1 else 0)) μ := by
  obtain ⟨h1, h2, h3, h4, h5, h6⟩ := h
  obtain ⟨b1, b2, b3⟩ := kw_b k hk
  unfold S_X11_isWord
  by_cases cw : p < L ∧ isD (b p) = false ∧ isLt (b p) = true
  · obtain ⟨c1, c2, c3⟩ := cw
    have eV : tvM b L p = 2 := by
      unfold tvM
      rw [if_neg (by omega), if_neg (by rw [c2]; decide), if_pos c3]
    have eE : tkE b L p = endR isLt b L (p + 1) := by
      unfold tkE
      rw [if_neg (by omega), if_neg (by rw [c2]; decide), if_pos c3]
    have eK : tkK b L p = wkd b p (tkE b L p - p) := by
      rw [eE]
      unfold tkK
      rw [if_neg (by omega), if_neg (by rw [c2]; decide), if_pos c3]
    have hw := h6 c1 c2 c3
    obtain ⟨r1, r2, r3, r4⟩ := endR_b (c := isLt) (b := b) (L := L) (p := p + 1) (by omega)
    have wb : ∀ q, q < tkE b L p - p → 65 ≤ b (p + q) ∧ b (p + q) < 256 := fun q hq => by
      have : isLt (b (p + q)) = true := by
        by_cases c : q = 0
        · rw [c]; exact c3
        · exact r3 (p + q) (by omega) (by omega)
      have := of_decide_eq_true this
      omega
    have key : (wdV b p (tkE b L p - p) = pkN (kch k) (kln k)) = (tkK b L p = k) := by
      rw [eK, wkd_iff hk]
      apply propext
      rw [eqW_t]
      have wl := wdV_b (b := b) (p := p) (j := tkE b L p - p) (by omega) wb
      have kl := pkN_lt (f := kch k) (n := kln k) (fun j hj => (b3 j hj).2)
      have kg := pkN_ge (f := kch k) (by have := (b3 0 (by omega)).1; omega) (kln k - 1)
      rw [show kln k - 1 + 1 = kln k by omega] at kg
      generalize hn : tkE b L p - p = n at *
      constructor
      · intro e
        have hk48 : 256 ^ kln k ≤ 256 ^ 6 := Nat.pow_le_pow_right (by decide) hk6
        have n6 : n ≤ 6 := wl.2.1 (by rw [e]; omega)
        have hn1 : 1 ≤ n := by omega
        have ev : wdV b p n = pkN (fun q => b (p + q)) n := by
          unfold wdV
          rw [if_pos (by omega)]
        rw [ev] at e
        have nl := pkN_lt (f := fun q => b (p + q)) (n := n) (fun q hq => (wb q hq).2)
        have ng := pkN_ge (f := fun q => b (p + q)) (by have := (wb 0 (by omega)).1; show 1 ≤ b (p + 0); omega) (n - 1)
        rw [show n - 1 + 1 = n by omega] at ng
        have hnk : n = kln k := by
          by_cases c4 : n < kln k
          · have : 256 ^ n ≤ 256 ^ (kln k - 1) := Nat.pow_le_pow_right (by decide) (by omega)
            omega
          · by_cases c5 : kln k < n
            · have : 256 ^ kln k ≤ 256 ^ (n - 1) := Nat.pow_le_pow_right (by decide) (by omega)
              omega
            · omega
        rw [hnk] at e
        refine ⟨hnk, fun j hj => ?_⟩
        exact pkN_e (fun q hq => (wb q (by omega)).2) (fun q hq => (b3 q hq).2) e j hj
      · rintro ⟨e1, e2⟩
        have e1' : n = kln k := e1
        unfold wdV
        rw [if_pos (by omega), e1']
        exact pkN_c (fun j hj => e2 j hj)
    rw [h4, eV, hw]
    have kl64 : pkN (kch k) (kln k) < 9223372036854775808 := by
      have kl := pkN_lt (f := kch k) (n := kln k) (fun j hj => (b3 j hj).2)
      have hk48 : 256 ^ kln k ≤ 256 ^ 6 := Nat.pow_le_pow_right (by decide) hk6
      have : (256 : Nat) ^ 6 = 281474976710656 := by decide
      omega
    have wl := (wdV_b (b := b) (p := p) (j := tkE b L p - p) (by omega) wb).1
    have lc : (lg_cmp (lN (wdV b p (tkE b L p - p))) (lN (pkN (kch k) (kln k))) = 0) = (tkK b L p = k) := by
      refine Eq.trans (lc_eq _ _) ?_
      rw [← key]
      exact propext (pk_lEQ (by omega) (by omega))
    simp only [lc]
    by_cases c : tkK b L p = k
    · rw [if_pos c]
      simp (disch := first | omega | (simp only [Gp_si, Gp_sl, Gp_ci, Gp_cl]; assumption)) only [li_0, li_1, li_2, li_3, li_4, li_5, li_6, li_7, li_8, li_9, li_10, li_11, li_12, li_13, li_14, li_15, li_16, li_17, li_18, li_19, li_20, li_21, li_22, li_23, li_24, li_25, li_26, li_27, li_28, li_29, li_30, li_32, li_33, li_34, li_35, li_36, li_37, li_38, li_39, li_40, li_41, li_42, li_43, li_44, li_45, li_46, li_47, li_48, li_49, li_50, li_51, li_52, li_53, li_54, li_55, li_56, li_57, li_58, li_59, li_60, li_61, li_62, li_63, li_64, li_65, li_66, li_67, li_68, li_69, li_70, li_71, li_72, li_73, li_74, li_75, li_76, li_77, li_78, li_79, li_80, li_81, li_82, li_83, li_84, li_85, li_86, li_87, li_88, li_89, li_90, li_91, li_92, li_93, li_94, li_95, li_96, li_97, li_98, li_99, li_100, li_101, li_102, li_103, li_104, li_105, li_106, li_107, li_108, li_109, li_110, li_111, li_112, li_113, li_114, li_115, li_116, li_117, li_118, li_119, li_120, li_121, li_122, li_123, li_124, li_125, li_126, li_127, li_128, li_129, li_130, li_134, li_160, li_197, li_229, li_255, li_256, li_265, li_300, li_301, li_330, li_353, li_463, li_720, li_729, li_768, li_999, li_2610, li_2807, li_2867, li_2916, li_4096, li_9999, li_10000, li_30643, li_65535, li_99999, li_1000000, gi_si, gi_sl, gi_sr, gi_ci, gi_cl, gl_si, gl_sl, gl_sr, gl_ci, gl_cl, gr_si, gr_sl, gr_sr, gr_ci, gr_cl, ln_si, ln_sl, ln_sr, ln_ci, ln_cl, ok_si, ok_sl, ok_sr, ok_ci, ok_cl, gp_k hG, gp_l hG, gp_r hG, gp_m hG, Option.some.injEq, exists_eq_left', exists_eq_left, forall_eq, forall_eq', true_and, and_true, if_true, if_false, true_imp_iff, false_imp_iff, not_true_eq_false, not_false_eq_true, false_and, and_false, reduceIte, reduceCtorEq, forall_const, Nat.reduceEqDiff, Nat.reduceAdd, Nat.reduceMul, Nat.reduceSub, Nat.reduceLT, Nat.reduceLeDiff, Nat.reduceMod, Nat.reduceDiv, and_self, ne_eq, exists_const, Nat.add_sub_cancel, nI_add, pk_mul, pk_sub, q_rem, q_div, q_eq, q_le, q_lt, q_cl, q_in, q_m1, q_1m, q_neg, sh1n, bitn, q_mod2, q_neq0, bq_t, bq_f, bq_t2, bq_f2, i01, i10, q_tt, q_ff, ups_e, ups_n, fil_i, fil_o, zq_if, zq_0, zq_1, if_pos, if_neg, c]
    · rw [if_neg c]
      simp (disch := first | omega | (simp only [Gp_si, Gp_sl, Gp_ci, Gp_cl]; assumption)) only [li_0, li_1, li_2, li_3, li_4, li_5, li_6, li_7, li_8, li_9, li_10, li_11, li_12, li_13, li_14, li_15, li_16, li_17, li_18, li_19, li_20, li_21, li_22, li_23, li_24, li_25, li_26, li_27, li_28, li_29, li_30, li_32, li_33, li_34, li_35, li_36, li_37, li_38, li_39, li_40, li_41, li_42, li_43, li_44, li_45, li_46, li_47, li_48, li_49, li_50, li_51, li_52, li_53, li_54, li_55, li_56, li_57, li_58, li_59, li_60, li_61, li_62, li_63, li_64, li_65, li_66, li_67, li_68, li_69, li_70, li_71, li_72, li_73, li_74, li_75, li_76, li_77, li_78, li_79, li_80, li_81, li_82, li_83, li_84, li_85, li_86, li_87, li_88, li_89, li_90, li_91, li_92, li_93, li_94, li_95, li_96, li_97, li_98, li_99, li_100, li_101, li_102, li_103, li_104, li_105, li_106, li_107, li_108, li_109, li_110, li_111, li_112, li_113, li_114, li_115, li_116, li_117, li_118, li_119, li_120, li_121, li_122, li_123, li_124, li_125, li_126, li_127, li_128, li_129, li_130, li_134, li_160, li_197, li_229, li_255, li_256, li_265, li_300, li_301, li_330, li_353, li_463, li_720, li_729, li_768, li_999, li_2610, li_2807, li_2867, li_2916, li_4096, li_9999, li_10000, li_30643, li_65535, li_99999, li_1000000, gi_si, gi_sl, gi_sr, gi_ci, gi_cl, gl_si, gl_sl, gl_sr, gl_ci, gl_cl, gr_si, gr_sl, gr_sr, gr_ci, gr_cl, ln_si, ln_sl, ln_sr, ln_ci, ln_cl, ok_si, ok_sl, ok_sr, ok_ci, ok_cl, gp_k hG, gp_l hG, gp_r hG, gp_m hG, Option.some.injEq, exists_eq_left', exists_eq_left, forall_eq, forall_eq', true_and, and_true, if_true, if_false, true_imp_iff, false_imp_iff, not_true_eq_false, not_false_eq_true, false_and, and_false, reduceIte, reduceCtorEq, forall_const, Nat.reduceEqDiff, Nat.reduceAdd, Nat.reduceMul, Nat.reduceSub, Nat.reduceLT, Nat.reduceLeDiff, Nat.reduceMod, Nat.reduceDiv, and_self, ne_eq, exists_const, Nat.add_sub_cancel, nI_add, pk_mul, pk_sub, q_rem, q_div, q_eq, q_le, q_lt, q_cl, q_in, q_m1, q_1m, q_neg, sh1n, bitn, q_mod2, q_neq0, bq_t, bq_f, bq_t2, bq_f2, i01, i10, q_tt, q_ff, ups_e, ups_n, fil_i, fil_o, zq_if, zq_0, zq_1, if_pos, if_neg, c]
  · have hne : ¬ tkK b L p = k := fun e => cw (tkK_w (by omega))
    have eV : tvM b L p ≠ 2 ∧ tvM b L p < 256 := by
      unfold tvM
      by_cases c1 : L ≤ p
      · rw [if_pos c1]; omega
      · rw [if_neg c1]
        have hb := (hT.2.2 p (by omega)).1
        by_cases c2 : isD (b p) = true
        · rw [if_pos c2]; omega
        · rw [if_neg c2, if_neg (fun c3 => cw ⟨by omega, Bool.eq_false_iff.2 c2, c3⟩)]
          split
          · omega
          · split
            · omega
            · split
              · rename_i c
                rw [← sg_tab (b p) hb] at c
                omega
              · omega
    rw [h4, if_neg hne]
    simp (disch := first | omega | (simp only [Gp_si, Gp_sl, Gp_ci, Gp_cl]; assumption)) only [li_0, li_1, li_2, li_3, li_4, li_5, li_6, li_7, li_8, li_9, li_10, li_11, li_12, li_13, li_14, li_15, li_16, li_17, li_18, li_19, li_20, li_21, li_22, li_23, li_24, li_25, li_26, li_27, li_28, li_29, li_30, li_32, li_33, li_34, li_35, li_36, li_37, li_38, li_39, li_40, li_41, li_42, li_43, li_44, li_45, li_46, li_47, li_48, li_49, li_50, li_51, li_52, li_53, li_54, li_55, li_56, li_57, li_58, li_59, li_60, li_61, li_62, li_63, li_64, li_65, li_66, li_67, li_68, li_69, li_70, li_71, li_72, li_73, li_74, li_75, li_76, li_77, li_78, li_79, li_80, li_81, li_82, li_83, li_84, li_85, li_86, li_87, li_88, li_89, li_90, li_91, li_92, li_93, li_94, li_95, li_96, li_97, li_98, li_99, li_100, li_101, li_102, li_103, li_104, li_105, li_106, li_107, li_108, li_109, li_110, li_111, li_112, li_113, li_114, li_115, li_116, li_117, li_118, li_119, li_120, li_121, li_122, li_123, li_124, li_125, li_126, li_127, li_128, li_129, li_130, li_134, li_160, li_197, li_229, li_255, li_256, li_265, li_300, li_301, li_330, li_353, li_463, li_720, li_729, li_768, li_999, li_2610, li_2807, li_2867, li_2916, li_4096, li_9999, li_10000, li_30643, li_65535, li_99999, li_1000000, gi_si, gi_sl, gi_sr, gi_ci, gi_cl, gl_si, gl_sl, gl_sr, gl_ci, gl_cl, gr_si, gr_sl, gr_sr, gr_ci, gr_cl, ln_si, ln_sl, ln_sr, ln_ci, ln_cl, ok_si, ok_sl, ok_sr, ok_ci, ok_cl, gp_k hG, gp_l hG, gp_r hG, gp_m hG, Option.some.injEq, exists_eq_left', exists_eq_left, forall_eq, forall_eq', true_and, and_true, if_true, if_false, true_imp_iff, false_imp_iff, not_true_eq_false, not_false_eq_true, false_and, and_false, reduceIte, reduceCtorEq, forall_const, Nat.reduceEqDiff, Nat.reduceAdd, Nat.reduceMul, Nat.reduceSub, Nat.reduceLT, Nat.reduceLeDiff, Nat.reduceMod, Nat.reduceDiv, and_self, ne_eq, exists_const, Nat.add_sub_cancel, nI_add, pk_mul, pk_sub, q_rem, q_div, q_eq, q_le, q_lt, q_cl, q_in, q_m1, q_1m, q_neg, sh1n, bitn, q_mod2, q_neq0, bq_t, bq_f, bq_t2, bq_f2, i01, i10, q_tt, q_ff, ups_e, ups_n, fil_i, fil_o, zq_if, zq_0, zq_1, if_pos, if_neg]
end MN
