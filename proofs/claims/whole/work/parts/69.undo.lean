/-! a step taken back: the class -/
theorem un_5 {s : Nat → Nat} {d : Nat} (hd : d < 5) : undoS s (6 + d) = s (108 + 90 * (s 3 - 1) + d) := by
  unfold undoS
  rw [fil_o (by omega), perS_o (by omega), fil_i (by omega) (by omega)]
  show s (108 + 90 * (s 3 - 1) + (6 + d - 6)) = _
  rw [show 6 + d - 6 = d by omega]
theorem un_b {s : Nat → Nat} {d : Nat} (hd : d < 60) : undoS s (2807 + d) = s (137 + 90 * (s 3 - 1) + d) := by
  unfold undoS
  rw [fil_i (by omega) (by omega)]
  show s (137 + 90 * (s 3 - 1) + (2807 + d - 2807)) = _
  rw [show 2807 + d - 2807 = d by omega]
theorem un_p {s : Nat → Nat} {p w : Nat} (h0 : s 0 ≤ 8) (h3 : s 3 ≤ 30) (hp : p < s 0) (hw : w < 3) : undoS s (11 + 7 * p + w) = if p < s (107 + 90 * (s 3 - 1)) then s (113 + 90 * (s 3 - 1) + 3 * p + w) else if w = 0 then s (17 + 7 * p) else 0 := by
  have f : ∀ j, j ≠ 3 → (j < 6 ∨ 11 ≤ j) → fil (ups s 3 (s 3 - 1)) 6 5 (fun d => s (108 + 90 * (s 3 - 1) + d)) j = s j := fun j h1 h2 => by rw [fil_o (by omega), ups_n h1]
  unfold undoS
  rw [fil_o (by omega), perS_i hp hw, f _ (by omega) (by omega), f _ (by omega) (by omega), f _ (by omega) (by omega), show 107 + 90 * (s 3 - 1) + 6 + 3 * p + w = 113 + 90 * (s 3 - 1) + 3 * p + w by omega]
theorem un_3 {s : Nat → Nat} : undoS s 3 = s 3 - 1 := by
  unfold undoS
  rw [fil_o (by omega), perS_o (by omega), fil_o (by omega), ups_e rfl]
theorem un_o {s : Nat → Nat} {j : Nat} (h : j ≠ 3 ∧ (j < 6 ∨ (11 ≤ j ∧ (11 + 7 * s 0 ≤ j ∨ 3 ≤ (j - 11) % 7))) ∧ (j < 2807 ∨ 2867 ≤ j)) : undoS s j = s j := by
  unfold undoS
  rw [fil_o (by omega), perS_o (by omega), fil_o (by omega), ups_n (by omega)]
theorem wf_undo {s : Nat → Nat} (hW : WF s) (h3 : 0 < s 3) : WF (undoS s) := by
  have wn := wf_n hW
  obtain ⟨h1, -, -, h4, h5, h6, h7, h8⟩ := id hW
  obtain ⟨a1, a2, a3, a4, a5, a6, a7, a8⟩ := h8 (s 3 - 1) (by omega)
  have e : ∀ j, j ≠ 3 → j < 6 ∨ (67 ≤ j ∧ j < 2807) → undoS s j = s j := fun j x y => un_o (by omega)
  have e0 := e 0 (by omega) (by omega)
  have u6 : undoS s 6 = s (108 + 90 * (s 3 - 1)) := un_5 (d := 0) (by omega)
  have u7 : undoS s 7 = s (109 + 90 * (s 3 - 1)) := by have := un_5 (s := s) (d := 1) (by omega); rw [show 108 + 90 * (s 3 - 1) + 1 = 109 + 90 * (s 3 - 1) by omega] at this; exact this
  have u8 : undoS s 8 = s (110 + 90 * (s 3 - 1)) := by have := un_5 (s := s) (d := 2) (by omega); rw [show 108 + 90 * (s 3 - 1) + 2 = 110 + 90 * (s 3 - 1) by omega] at this; exact this
  have u9 : undoS s 9 = s (111 + 90 * (s 3 - 1)) := by have := un_5 (s := s) (d := 3) (by omega); rw [show 108 + 90 * (s 3 - 1) + 3 = 111 + 90 * (s 3 - 1) by omega] at this; exact this
  have u10 : undoS s 10 = s (112 + 90 * (s 3 - 1)) := by have := un_5 (s := s) (d := 4) (by omega); rw [show 108 + 90 * (s 3 - 1) + 4 = 112 + 90 * (s 3 - 1) by omega] at this; exact this
  refine ⟨fun k => ?_, ?_, fun p hp => ?_, fun p hp => ?_, fun i hi => ?_, fun i hi => ?_, fun i hi => ?_, fun i hi => ?_⟩
  · by_cases c3 : k = 3
    · subst c3
      rw [un_3]
      omega
    · by_cases c5 : 6 ≤ k ∧ k < 11
      · obtain ⟨d, hd, rfl⟩ : ∃ d, d < 5 ∧ k = 6 + d := ⟨k - 6, by omega, by omega⟩
        rw [un_5 hd]
        exact h1 _
      · by_cases cb : 2807 ≤ k ∧ k < 2867
        · obtain ⟨d, hd, rfl⟩ : ∃ d, d < 60 ∧ k = 2807 + d := ⟨k - 2807, by omega, by omega⟩
          rw [un_b hd]
          exact h1 _
        · by_cases cp : 11 ≤ k ∧ k < 11 + 7 * s 0 ∧ (k - 11) % 7 < 3
          · obtain ⟨p, w, hp, hw, rfl⟩ : ∃ p w, p < s 0 ∧ w < 3 ∧ k = 11 + 7 * p + w := ⟨(k - 11) / 7, (k - 11) % 7, by omega, by omega, by omega⟩
            rw [un_p wn.1 (by omega) hp hw]
            split
            · exact h1 _
            · split
              · exact h1 _
              · omega
          · rw [un_o (by omega)]
            exact h1 _
  · rw [e0, e 1 (by omega) (by omega), e 2 (by omega) (by omega), un_3, e 4 (by omega) (by omega), e 5 (by omega) (by omega), u6, u7, u8, u9, u10]
    have := Nat.pow_le_pow_right (show 0 < 2 by decide) a1
    omega
  · rw [e0] at hp
    have w2 := wf_p hW hp
    have p0 : undoS s (11 + 7 * p) = _ := un_p (w := 0) wn.1 (by omega) hp (by omega)
    have p1 := un_p (w := 1) wn.1 (show s 3 ≤ 30 by omega) hp (by omega)
    have p2 := un_p (w := 2) wn.1 (show s 3 ≤ 30 by omega) hp (by omega)
    rw [show 11 + 7 * p + 1 = 12 + 7 * p by omega, show 113 + 90 * (s 3 - 1) + 3 * p + 1 = 114 + 90 * (s 3 - 1) + 3 * p by omega] at p1
    rw [show 11 + 7 * p + 2 = 13 + 7 * p by omega, show 113 + 90 * (s 3 - 1) + 3 * p + 2 = 115 + 90 * (s 3 - 1) + 3 * p by omega] at p2
    rw [p0, p1, p2, u6, un_o (j := 14 + 7 * p) (by omega), un_o (j := 15 + 7 * p) (by omega), un_o (j := 16 + 7 * p) (by omega), un_o (j := 17 + 7 * p) (by omega)]
    by_cases c : p < s (107 + 90 * (s 3 - 1))
    · have := a7 p c
      rw [if_pos c, if_pos c, if_pos c, Nat.add_zero]
      omega
    · rw [if_neg c, if_neg c, if_neg c, if_pos rfl, if_neg (by omega), if_neg (by omega)]
      omega
  · rw [e (67 + p) (by omega) (by omega)]
    exact h4 p hp
  · rw [e 4 (by omega) (by omega)] at hi
    rw [e (75 + 2 * i) (by omega) (by omega), e (76 + 2 * i) (by omega) (by omega), e0]
    exact h5 i hi
  · rw [e 5 (by omega) (by omega)] at hi
    rw [e (91 + 2 * i) (by omega) (by omega), e (92 + 2 * i) (by omega) (by omega), e0]
    exact h6 i hi
  · rw [u10] at hi
    have q0 : undoS s (2807 + 2 * i) = s (137 + 90 * (s 3 - 1) + 2 * i) := un_b (by omega)
    have q1 : undoS s (2808 + 2 * i) = s (138 + 90 * (s 3 - 1) + 2 * i) := by have := un_b (s := s) (d := 2 * i + 1) (by omega); rw [show 2807 + (2 * i + 1) = 2808 + 2 * i by omega, show 137 + 90 * (s 3 - 1) + (2 * i + 1) = 138 + 90 * (s 3 - 1) + 2 * i by omega] at this; exact this
    rw [q0, q1]
    exact a8 i hi
  · rw [un_3] at hi
    obtain ⟨b1, b2, b3, b4, b5, b6, b7, b8⟩ := h8 i (by omega)
    rw [e (107 + 90 * i) (by omega) (by omega), e (108 + 90 * i) (by omega) (by omega), e (109 + 90 * i) (by omega) (by omega), e (110 + 90 * i) (by omega) (by omega), e (111 + 90 * i) (by omega) (by omega), e (112 + 90 * i) (by omega) (by omega), e0]
    refine ⟨b1, b2, b3, b4, b5, b6, fun p hp => ?_, fun q hq => ?_⟩
    · rw [e (113 + 90 * i + 3 * p) (by omega) (by omega), e (114 + 90 * i + 3 * p) (by omega) (by omega), e (115 + 90 * i + 3 * p) (by omega) (by omega)]
      exact b7 p hp
    · rw [e (137 + 90 * i + 2 * q) (by omega) (by omega), e (138 + 90 * i + 2 * q) (by omega) (by omega)]
      exact b8 q hq
section UN
variable {μ : Me} {s : Nat → Nat} {T : Nat → Tx} {tn : Nat} {Q : Int32 → Me → Prop}
theorem p_takeBack (h : Tw μ s T) (h3 : 0 < s 3) (k : ∀ ν, Fr xT μ ν → Tw ν (undoS s) T → Q (nI 1) ν) : S_X9_takeBack 1 μ Q := by
  obtain ⟨hG, hW, ⟨hTo, hNo, el, hel, h16, hSt⟩, hTx⟩ := id h
  have w := wf_n hW
  have h17 : mgi μ 1 17 = nI (s 3) := hTo.2.2.2.1
  have hm := Nat.mod_lt (el + (s 3 - 1)) (show 0 < 30 by decide)
  have h16' : mgi (msi μ 1 17 (nI (s 3 - 1))) 1 16 = nI el := by
    rw [gi_si, if_neg (by omega)]
    exact h16
  obtain ⟨ak, -⟩ := ah_kd ((el + (s 3 - 1)) % 30) hm
  unfold S_X9_takeBack
  simp (disch := first | omega | (simp only [Gp_si, Gp_sl, Gp_ci, Gp_cl]; assumption)) only [li_0, li_1, li_2, li_3, li_4, li_5, li_6, li_7, li_8, li_9, li_10, li_11, li_12, li_13, li_14, li_15, li_16, li_17, li_18, li_19, li_20, li_21, li_22, li_23, li_24, li_25, li_26, li_27, li_28, li_29, li_30, li_32, li_33, li_34, li_35, li_36, li_37, li_38, li_39, li_40, li_41, li_42, li_43, li_44, li_45, li_46, li_47, li_48, li_49, li_50, li_51, li_52, li_53, li_54, li_55, li_56, li_57, li_58, li_59, li_60, li_61, li_62, li_63, li_64, li_65, li_66, li_67, li_68, li_69, li_70, li_71, li_72, li_73, li_74, li_75, li_76, li_77, li_78, li_79, li_80, li_81, li_82, li_83, li_84, li_85, li_86, li_87, li_88, li_89, li_90, li_91, li_92, li_93, li_94, li_95, li_96, li_97, li_98, li_99, li_100, li_101, li_102, li_103, li_104, li_105, li_106, li_107, li_108, li_109, li_110, li_111, li_112, li_113, li_114, li_115, li_116, li_117, li_118, li_119, li_120, li_121, li_122, li_123, li_124, li_125, li_126, li_127, li_128, li_129, li_130, li_134, li_160, li_197, li_229, li_255, li_256, li_265, li_300, li_301, li_330, li_353, li_463, li_720, li_729, li_768, li_999, li_2610, li_2807, li_2867, li_2916, li_4096, li_9999, li_10000, li_30643, li_65535, li_99999, li_1000000, gi_si, gi_sl, gi_sr, gi_ci, gi_cl, gl_si, gl_sl, gl_sr, gl_ci, gl_cl, gr_si, gr_sl, gr_sr, gr_ci, gr_cl, ln_si, ln_sl, ln_sr, ln_ci, ln_cl, ok_si, ok_sl, ok_sr, ok_ci, ok_cl, gp_k hG, gp_l hG, gp_r hG, gp_m hG, Option.some.injEq, exists_eq_left', exists_eq_left, forall_eq, forall_eq', true_and, and_true, if_true, if_false, true_imp_iff, false_imp_iff, not_true_eq_false, not_false_eq_true, false_and, and_false, reduceIte, reduceCtorEq, forall_const, Nat.reduceEqDiff, Nat.reduceAdd, Nat.reduceMul, Nat.reduceSub, Nat.reduceLT, Nat.reduceLeDiff, Nat.reduceMod, Nat.reduceDiv, and_self, ne_eq, exists_const, Nat.add_sub_cancel, nI_add, pk_mul, pk_sub, q_rem, q_div, q_eq, q_le, q_lt, q_cl, q_in, q_m1, q_1m, q_neg, sh1n, bitn, q_mod2, q_neq0, bq_t, bq_f, bq_t2, bq_f2, i01, i10, q_tt, q_ff, ups_e, ups_n, fil_i, fil_o, zq_if, zq_0, zq_1, if_pos, if_neg, h17]
  rw [e_ahead (by exact hG) h16' hel (by omega)]
  simp (disch := first | omega | (simp only [Gp_si, Gp_sl, Gp_ci, Gp_cl]; assumption)) only [li_0, li_1, li_2, li_3, li_4, li_5, li_6, li_7, li_8, li_9, li_10, li_11, li_12, li_13, li_14, li_15, li_16, li_17, li_18, li_19, li_20, li_21, li_22, li_23, li_24, li_25, li_26, li_27, li_28, li_29, li_30, li_32, li_33, li_34, li_35, li_36, li_37, li_38, li_39, li_40, li_41, li_42, li_43, li_44, li_45, li_46, li_47, li_48, li_49, li_50, li_51, li_52, li_53, li_54, li_55, li_56, li_57, li_58, li_59, li_60, li_61, li_62, li_63, li_64, li_65, li_66, li_67, li_68, li_69, li_70, li_71, li_72, li_73, li_74, li_75, li_76, li_77, li_78, li_79, li_80, li_81, li_82, li_83, li_84, li_85, li_86, li_87, li_88, li_89, li_90, li_91, li_92, li_93, li_94, li_95, li_96, li_97, li_98, li_99, li_100, li_101, li_102, li_103, li_104, li_105, li_106, li_107, li_108, li_109, li_110, li_111, li_112, li_113, li_114, li_115, li_116, li_117, li_118, li_119, li_120, li_121, li_122, li_123, li_124, li_125, li_126, li_127, li_128, li_129, li_130, li_134, li_160, li_197, li_229, li_255, li_256, li_265, li_300, li_301, li_330, li_353, li_463, li_720, li_729, li_768, li_999, li_2610, li_2807, li_2867, li_2916, li_4096, li_9999, li_10000, li_30643, li_65535, li_99999, li_1000000, gi_si, gi_sl, gi_sr, gi_ci, gi_cl, gl_si, gl_sl, gl_sr, gl_ci, gl_cl, gr_si, gr_sl, gr_sr, gr_ci, gr_cl, ln_si, ln_sl, ln_sr, ln_ci, ln_cl, ok_si, ok_sl, ok_sr, ok_ci, ok_cl, gp_k hG, gp_l hG, gp_r hG, gp_m hG, Option.some.injEq, exists_eq_left', exists_eq_left, forall_eq, forall_eq', true_and, and_true, if_true, if_false, true_imp_iff, false_imp_iff, not_true_eq_false, not_false_eq_true, false_and, and_false, reduceIte, reduceCtorEq, forall_const, Nat.reduceEqDiff, Nat.reduceAdd, Nat.reduceMul, Nat.reduceSub, Nat.reduceLT, Nat.reduceLeDiff, Nat.reduceMod, Nat.reduceDiv, and_self, ne_eq, exists_const, Nat.add_sub_cancel, nI_add, pk_mul, pk_sub, q_rem, q_div, q_eq, q_le, q_lt, q_cl, q_in, q_m1, q_1m, q_neg, sh1n, bitn, q_mod2, q_neq0, bq_t, bq_f, bq_t2, bq_f2, i01, i10, q_tt, q_ff, ups_e, ups_n, fil_i, fil_o, zq_if, zq_0, zq_1, if_pos, if_neg]
  refine p_mbecome (μ := msi μ 1 17 (nI (s 3 - 1))) (m := 11) (m' := 16 + 4 * ((el + (s 3 - 1)) % 30)) (by exact hG) (by decide) (by decide) (by omega) ak (by omega) (fun ν hF g0 g1 g2 g3 => ?_)
  have xe : ∀ a q, (a < 11 ∨ 14 ≤ a) → (a = 1 → q ≠ 17) → mgi ν a q = mgi μ a q := fun a q h1 h2 => by
    rw [hF.2.2.2.2.1 a q (by omega), gi_si, if_neg (by rintro ⟨rfl, rfl⟩; exact h2 rfl rfl)]
  have xl : ∀ a q, a ≠ 14 → mgl ν a q = mgl μ a q := fun a q h1 => by rw [hF.2.2.2.2.2 a q (by omega), gl_si]
  have hFt : Fr xT μ ν := fr_tr (fr_si (fr_rf xT μ) 1 17 _ rfl) (fr_pt (m := 11) (by omega) (fr_mp hF))
  have hS := hSt (s 3 - 1) (by omega)
  have u0 : undoS s 0 = s 0 := un_o (by omega)
  refine k ν hFt (tw_tx h hFt (wf_undo hW h3) (un_o (by omega)) ⟨?_, ?_, el, hel, ?_, fun i hi => ?_⟩)
  · obtain ⟨c1, c2, c3, c4, c5, c6, c7, c8, c9, c10, c11⟩ := hTo
    refine ⟨?_, ?_, ?_, ?_, ?_, ?_, fun p hp => ?_, fun r hr => ?_, fun p hp => ?_, fun i hi => ?_, fun i hi => ?_⟩
    · rw [xe _ _ (by omega) (by omega), u0]; exact c1
    · rw [xe _ _ (by omega) (by omega), un_o (by omega)]; exact c2
    · rw [xe _ _ (by omega) (by omega), un_o (by omega)]; exact c3
    · rw [hF.2.2.2.2.1 1 17 (by omega), gi_si, if_pos ⟨rfl, rfl⟩, un_3]
    · rw [xe _ _ (by omega) (by omega), un_o (by omega)]; exact c5
    · rw [xe _ _ (by omega) (by omega), un_o (by omega)]; exact c6
    · rw [u0] at hp
      rw [xe _ _ (by omega) (by omega), xe _ _ (by omega) (by omega), xe _ _ (by omega) (by omega), un_o (j := 14 + 7 * p) (by omega), un_o (j := 15 + 7 * p) (by omega), un_o (j := 16 + 7 * p) (by omega)]
      exact c7 p hp
    · rw [xe _ _ (by omega) (by omega), c8 r hr, u0]
      congr 1
      exact setS_cong (fun p hp => by rw [un_o (j := 14 + 7 * p) (by omega)])
    · rw [xe _ _ (by omega) (by omega), un_o (j := 67 + p) (by omega)]
      exact c9 p hp
    · rw [un_o (j := 4) (by omega)] at hi
      rw [xe _ _ (by omega) (by omega), xe _ _ (by omega) (by omega), un_o (j := 75 + 2 * i) (by omega), un_o (j := 76 + 2 * i) (by omega)]
      exact c10 i hi
    · rw [un_o (j := 5) (by omega)] at hi
      rw [xe _ _ (by omega) (by omega), xe _ _ (by omega) (by omega), un_o (j := 91 + 2 * i) (by omega), un_o (j := 92 + 2 * i) (by omega)]
      exact c11 i hi
  · have hpg := wf_sp hW (show s 3 - 1 < s 3 by omega)
    have hM0 : StepR (msi μ 1 17 (nI (s 3 - 1))) (16 + 4 * ((el + (s 3 - 1)) % 30)) s (s 3 - 1) := StepR_x hS (fun a q _ _ => by rw [gi_si, if_neg (by omega)]) (fun q => rfl)
    have hM := mom_cp (ν := ν) (m := 11) hM0 w.1 hpg g0 g1 g2 g3
    show MomR ν 11 (undoS s 0) _ _ _ _ _ _ _ _ _ _
    rw [u0]
    have u7 : undoS s 7 = s (109 + 90 * (s 3 - 1)) := by have := un_5 (s := s) (d := 1) (by omega); rw [show 108 + 90 * (s 3 - 1) + 1 = 109 + 90 * (s 3 - 1) by omega] at this; exact this
    have u8 : undoS s 8 = s (110 + 90 * (s 3 - 1)) := by have := un_5 (s := s) (d := 2) (by omega); rw [show 108 + 90 * (s 3 - 1) + 2 = 110 + 90 * (s 3 - 1) by omega] at this; exact this
    have u9 : undoS s 9 = s (111 + 90 * (s 3 - 1)) := by have := un_5 (s := s) (d := 3) (by omega); rw [show 108 + 90 * (s 3 - 1) + 3 = 111 + 90 * (s 3 - 1) by omega] at this; exact this
    have u10 : undoS s 10 = s (112 + 90 * (s 3 - 1)) := by have := un_5 (s := s) (d := 4) (by omega); rw [show 108 + 90 * (s 3 - 1) + 4 = 112 + 90 * (s 3 - 1) by omega] at this; exact this
    refine MomR_s hM (un_5 (d := 0) (by omega)).symm u7.symm u8.symm u9.symm u10.symm (fun p hp => ?_) (fun p hp => ?_) (fun p hp => ?_) (fun q hq => ?_)
    · have := un_p (w := 0) w.1 (show s 3 ≤ 30 by omega) hp (by omega)
      rw [if_pos rfl] at this
      exact this.symm
    · have := un_p (w := 1) w.1 (show s 3 ≤ 30 by omega) hp (by omega)
      rw [show 11 + 7 * p + 1 = 12 + 7 * p by omega, show 113 + 90 * (s 3 - 1) + 3 * p + 1 = 114 + 90 * (s 3 - 1) + 3 * p by omega, if_neg (show ¬ 1 = 0 by omega)] at this
      exact this.symm
    · have := un_p (w := 2) w.1 (show s 3 ≤ 30 by omega) hp (by omega)
      rw [show 11 + 7 * p + 2 = 13 + 7 * p by omega, show 113 + 90 * (s 3 - 1) + 3 * p + 2 = 115 + 90 * (s 3 - 1) + 3 * p by omega, if_neg (show ¬ 2 = 0 by omega)] at this
      exact this.symm
    · refine ⟨(un_b (by omega)).symm, ?_⟩
      have := un_b (s := s) (d := 2 * q + 1) (by omega)
      rw [show 2807 + (2 * q + 1) = 2808 + 2 * q by omega, show 137 + 90 * (s 3 - 1) + (2 * q + 1) = 138 + 90 * (s 3 - 1) + 2 * q by omega] at this
      exact this.symm
  · exact (xe 1 16 (by omega) (by omega)).trans h16
  · rw [un_3] at hi
    have hmi := Nat.mod_lt (el + i) (show 0 < 30 by decide)
    exact step_g (i' := i) (StepR_x (hSt i (by omega)) (fun a q _ _ => xe a q (by omega) (by omega)) (fun q => xl _ q (by omega))) w.1 (wf_sp hW (by omega)) u0 (fun c h1 h2 => un_o (by omega)) (fun p hp => un_o (by omega))
end UN
