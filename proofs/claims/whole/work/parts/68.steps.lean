/-! the class: steps kept and taken back -/
theorem kep_o {s : Nat → Nat} {n j : Nat} (h : (j < 107 + 90 * n ∨ 197 + 90 * n ≤ j) ∧ j ≠ 3) : kepS s n j = s j := by
  unfold kepS
  rw [ups_n h.2, fil_o (by omega), fil_o (by omega), fil_o (by omega), ups_n (by omega)]
theorem kep_0 {s : Nat → Nat} {n : Nat} : kepS s n (107 + 90 * n) = s 0 := by
  unfold kepS
  rw [ups_n (by omega), fil_o (by omega), fil_o (by omega), fil_o (by omega), ups_e rfl]
theorem kep_5 {s : Nat → Nat} {n d : Nat} (hd : d < 5) : kepS s n (108 + 90 * n + d) = s (6 + d) := by
  unfold kepS
  rw [ups_n (by omega), fil_o (by omega), fil_o (by omega), fil_i (by omega) (by omega), show 108 + 90 * n + d - (108 + 90 * n) = d by omega]
theorem kep_p {s : Nat → Nat} {n p w : Nat} (hp : p < 8) (hw : w < 3) : kepS s n (113 + 90 * n + 3 * p + w) = s (11 + 7 * p + w) := by
  unfold kepS
  rw [ups_n (by omega), fil_o (by omega), fil_i (by omega) (by omega)]
  show s (11 + 7 * ((113 + 90 * n + 3 * p + w - (113 + 90 * n)) / 3) + (113 + 90 * n + 3 * p + w - (113 + 90 * n)) % 3) = _
  rw [show (113 + 90 * n + 3 * p + w - (113 + 90 * n)) / 3 = p by omega, show (113 + 90 * n + 3 * p + w - (113 + 90 * n)) % 3 = w by omega]
theorem kep_b {s : Nat → Nat} {n d : Nat} (hd : d < 60) : kepS s n (137 + 90 * n + d) = s (2807 + d) := by
  unfold kepS
  rw [ups_n (by omega), fil_i (by omega) (by omega)]
  show s (2807 + (137 + 90 * n + d - (137 + 90 * n))) = _
  rw [show 2807 + (137 + 90 * n + d - (137 + 90 * n)) = 2807 + d by omega]
theorem kep_3 {s : Nat → Nat} {n : Nat} : kepS s n 3 = n + 1 := by
  unfold kepS
  rw [ups_e rfl]
/-- the row ahead of a step kept at 30 -/
def shS (s : Nat → Nat) : Nat → Nat := ups (fil s 107 2610 (fun d => s (197 + d))) 3 29
theorem sh_i {s : Nat → Nat} {j : Nat} (h : 107 ≤ j ∧ j < 2717) : shS s j = s (j + 90) := by
  unfold shS
  rw [ups_n (by omega), fil_i (by omega) (by omega)]
  show s (197 + (j - 107)) = _
  rw [show 197 + (j - 107) = j + 90 by omega]
theorem sh_o {s : Nat → Nat} {j : Nat} (h : (j < 107 ∨ 2717 ≤ j) ∧ j ≠ 3) : shS s j = s j := by
  unfold shS
  rw [ups_n h.2, fil_o (by omega)]
theorem keep_30 {s : Nat → Nat} (h : s 3 = 30) : keepS s = kepS (shS s) 29 := by
  unfold keepS
  rw [if_pos h]
  rfl
theorem keep_lo {s : Nat → Nat} (h : s 3 < 30) : keepS s = kepS s (s 3) := by
  unfold keepS
  rw [if_neg (by omega)]
/-- out of the steps nothing changes -/
theorem keep_o {s : Nat → Nat} {j : Nat} (h3 : s 3 ≤ 30) (h : (j < 107 ∨ 2807 ≤ j) ∧ j ≠ 3) : keepS s j = s j := by
  by_cases c : s 3 = 30
  · rw [keep_30 c, kep_o (by omega), sh_o (by omega)]
  · rw [keep_lo (by omega), kep_o (by omega)]
theorem wf_kep {s : Nat → Nat} {n : Nat} (hW : WF s) (hn : n < 30) (h3 : s 3 = n) : WF (kepS s n) := by
  have wn := wf_n hW
  obtain ⟨h1, -, -, h4, h5, h6, h7, h8⟩ := id hW
  have e : ∀ j, (j < 107 + 90 * n ∨ 197 + 90 * n ≤ j) → j ≠ 3 → kepS s n j = s j := fun j a b => kep_o ⟨a, b⟩
  have e0 := e 0 (by omega) (by omega)
  refine ⟨fun k => ?_, ?_, fun p hp => ?_, fun p hp => ?_, fun i hi => ?_, fun i hi => ?_, fun i hi => ?_, fun i hi => ?_⟩
  · by_cases c3 : k = 3
    · subst c3
      rw [kep_3]
      omega
    · by_cases c : k < 107 + 90 * n ∨ 197 + 90 * n ≤ k
      · rw [e k c c3]
        exact h1 k
      · by_cases c0 : k = 107 + 90 * n
        · subst c0
          rw [kep_0]
          exact h1 0
        · by_cases c5 : k < 113 + 90 * n
          · obtain ⟨d, hd, rfl⟩ : ∃ d, d < 5 ∧ k = 108 + 90 * n + d := ⟨k - (108 + 90 * n), by omega, by omega⟩
            rw [kep_5 hd]
            exact h1 _
          · by_cases cp : k < 137 + 90 * n
            · obtain ⟨p, w, hp, hw, rfl⟩ : ∃ p w, p < 8 ∧ w < 3 ∧ k = 113 + 90 * n + 3 * p + w := ⟨(k - (113 + 90 * n)) / 3, (k - (113 + 90 * n)) % 3, by omega, by omega, by omega⟩
              rw [kep_p hp hw]
              exact h1 _
            · obtain ⟨d, hd, rfl⟩ : ∃ d, d < 60 ∧ k = 137 + 90 * n + d := ⟨k - (137 + 90 * n), by omega, by omega⟩
              rw [kep_b hd]
              exact h1 _
  · rw [e0, e 1 (by omega) (by omega), e 2 (by omega) (by omega), kep_3, e 4 (by omega) (by omega), e 5 (by omega) (by omega), e 6 (by omega) (by omega), e 7 (by omega) (by omega), e 8 (by omega) (by omega), e 9 (by omega) (by omega), e 10 (by omega) (by omega)]
    omega
  · rw [e0] at hp
    rw [e (11 + 7 * p) (by omega) (by omega), e (12 + 7 * p) (by omega) (by omega), e (13 + 7 * p) (by omega) (by omega), e (14 + 7 * p) (by omega) (by omega), e (15 + 7 * p) (by omega) (by omega), e (16 + 7 * p) (by omega) (by omega), e (17 + 7 * p) (by omega) (by omega), e 6 (by omega) (by omega)]
    exact wf_p hW hp
  · rw [e (67 + p) (by omega) (by omega)]
    exact h4 p hp
  · rw [e 4 (by omega) (by omega)] at hi
    rw [e (75 + 2 * i) (by omega) (by omega), e (76 + 2 * i) (by omega) (by omega), e0]
    exact h5 i hi
  · rw [e 5 (by omega) (by omega)] at hi
    rw [e (91 + 2 * i) (by omega) (by omega), e (92 + 2 * i) (by omega) (by omega), e0]
    exact h6 i hi
  · rw [e 10 (by omega) (by omega)] at hi
    rw [e (2807 + 2 * i) (by omega) (by omega), e (2808 + 2 * i) (by omega) (by omega)]
    exact h7 i hi
  · rw [kep_3] at hi
    rw [e0]
    by_cases ci : i = n
    · subst ci
      have k0 : kepS s i (108 + 90 * i) = s 6 := kep_5 (d := 0) (by omega)
      have k1 : kepS s i (109 + 90 * i) = s 7 := by have := kep_5 (s := s) (n := i) (d := 1) (by omega); rw [show 108 + 90 * i + 1 = 109 + 90 * i by omega] at this; exact this
      have k2 : kepS s i (110 + 90 * i) = s 8 := by have := kep_5 (s := s) (n := i) (d := 2) (by omega); rw [show 108 + 90 * i + 2 = 110 + 90 * i by omega] at this; exact this
      have k3 : kepS s i (111 + 90 * i) = s 9 := by have := kep_5 (s := s) (n := i) (d := 3) (by omega); rw [show 108 + 90 * i + 3 = 111 + 90 * i by omega] at this; exact this
      have k4 : kepS s i (112 + 90 * i) = s 10 := by have := kep_5 (s := s) (n := i) (d := 4) (by omega); rw [show 108 + 90 * i + 4 = 112 + 90 * i by omega] at this; exact this
      rw [kep_0, k0, k1, k2, k3, k4]
      refine ⟨Nat.le_refl _, by omega, by omega, by omega, by omega, by omega, fun p hp => ?_, fun q hq => ?_⟩
      · have w2 := wf_p hW hp
        have q0 : kepS s i (113 + 90 * i + 3 * p) = s (11 + 7 * p) := kep_p (w := 0) (by omega) (by omega)
        have q1 : kepS s i (114 + 90 * i + 3 * p) = s (12 + 7 * p) := by have := kep_p (s := s) (n := i) (p := p) (w := 1) (by omega) (by omega); rw [show 113 + 90 * i + 3 * p + 1 = 114 + 90 * i + 3 * p by omega, show 11 + 7 * p + 1 = 12 + 7 * p by omega] at this; exact this
        have q2 : kepS s i (115 + 90 * i + 3 * p) = s (13 + 7 * p) := by have := kep_p (s := s) (n := i) (p := p) (w := 2) (by omega) (by omega); rw [show 113 + 90 * i + 3 * p + 2 = 115 + 90 * i + 3 * p by omega, show 11 + 7 * p + 2 = 13 + 7 * p by omega] at this; exact this
        rw [q0, q1, q2]
        omega
      · have q0 : kepS s i (137 + 90 * i + 2 * q) = s (2807 + 2 * q) := kep_b (by omega)
        have q1 : kepS s i (138 + 90 * i + 2 * q) = s (2808 + 2 * q) := by have := kep_b (s := s) (n := i) (d := 2 * q + 1) (by omega); rw [show 137 + 90 * i + (2 * q + 1) = 138 + 90 * i + 2 * q by omega, show 2807 + (2 * q + 1) = 2808 + 2 * q by omega] at this; exact this
        rw [q0, q1]
        exact h7 q hq
    · obtain ⟨a1, a2, a3, a4, a5, a6, a7, a8⟩ := h8 i (by omega)
      have ha := a1
      rw [e (107 + 90 * i) (by omega) (by omega), e (108 + 90 * i) (by omega) (by omega), e (109 + 90 * i) (by omega) (by omega), e (110 + 90 * i) (by omega) (by omega), e (111 + 90 * i) (by omega) (by omega), e (112 + 90 * i) (by omega) (by omega)]
      refine ⟨a1, a2, a3, a4, a5, a6, fun p hp => ?_, fun q hq => ?_⟩
      · rw [e (113 + 90 * i + 3 * p) (by omega) (by omega), e (114 + 90 * i + 3 * p) (by omega) (by omega), e (115 + 90 * i + 3 * p) (by omega) (by omega)]
        exact a7 p hp
      · rw [e (137 + 90 * i + 2 * q) (by omega) (by omega), e (138 + 90 * i + 2 * q) (by omega) (by omega)]
        exact a8 q hq
theorem wf_sh {s : Nat → Nat} (hW : WF s) (h3 : s 3 = 30) : WF (shS s) := by
  have wn := wf_n hW
  obtain ⟨h1, -, -, h4, h5, h6, h7, h8⟩ := id hW
  have e : ∀ j, (j < 107 ∨ 2717 ≤ j) → j ≠ 3 → shS s j = s j := fun j a b => sh_o ⟨a, b⟩
  have e0 := e 0 (by omega) (by omega)
  have e3 : shS s 3 = 29 := by unfold shS; rw [ups_e rfl]
  refine ⟨fun k => ?_, ?_, fun p hp => ?_, fun p hp => ?_, fun i hi => ?_, fun i hi => ?_, fun i hi => ?_, fun i hi => ?_⟩
  · by_cases c3 : k = 3
    · subst c3
      rw [e3]
      omega
    · by_cases c : 107 ≤ k ∧ k < 2717
      · rw [sh_i c]
        exact h1 _
      · rw [e k (by omega) c3]
        exact h1 _
  · rw [e0, e 1 (by omega) (by omega), e 2 (by omega) (by omega), e3, e 4 (by omega) (by omega), e 5 (by omega) (by omega), e 6 (by omega) (by omega), e 7 (by omega) (by omega), e 8 (by omega) (by omega), e 9 (by omega) (by omega), e 10 (by omega) (by omega)]
    omega
  · rw [e0] at hp
    rw [e (11 + 7 * p) (by omega) (by omega), e (12 + 7 * p) (by omega) (by omega), e (13 + 7 * p) (by omega) (by omega), e (14 + 7 * p) (by omega) (by omega), e (15 + 7 * p) (by omega) (by omega), e (16 + 7 * p) (by omega) (by omega), e (17 + 7 * p) (by omega) (by omega), e 6 (by omega) (by omega)]
    exact wf_p hW hp
  · rw [e (67 + p) (by omega) (by omega)]
    exact h4 p hp
  · rw [e 4 (by omega) (by omega)] at hi
    rw [e (75 + 2 * i) (by omega) (by omega), e (76 + 2 * i) (by omega) (by omega), e0]
    exact h5 i hi
  · rw [e 5 (by omega) (by omega)] at hi
    rw [e (91 + 2 * i) (by omega) (by omega), e (92 + 2 * i) (by omega) (by omega), e0]
    exact h6 i hi
  · rw [e 10 (by omega) (by omega)] at hi
    rw [e (2807 + 2 * i) (by omega) (by omega), e (2808 + 2 * i) (by omega) (by omega)]
    exact h7 i hi
  · rw [e3] at hi
    obtain ⟨a1, a2, a3, a4, a5, a6, a7, a8⟩ := h8 (i + 1) (by omega)
    have f : ∀ c, 107 ≤ c → c < 197 → shS s (c + 90 * i) = s (c + 90 * (i + 1)) := fun c h1 h2 => by
      rw [sh_i (by omega), show c + 90 * i + 90 = c + 90 * (i + 1) by omega]
    rw [f 107 (by omega) (by omega), f 108 (by omega) (by omega), f 109 (by omega) (by omega), f 110 (by omega) (by omega), f 111 (by omega) (by omega), f 112 (by omega) (by omega), e0]
    refine ⟨a1, a2, a3, a4, a5, a6, fun p hp => ?_, fun q hq => ?_⟩
    · have f0 := f (113 + 3 * p) (by omega) (by omega)
      have f1 := f (114 + 3 * p) (by omega) (by omega)
      have f2 := f (115 + 3 * p) (by omega) (by omega)
      rw [show 113 + 90 * i + 3 * p = 113 + 3 * p + 90 * i by omega, show 114 + 90 * i + 3 * p = 114 + 3 * p + 90 * i by omega, show 115 + 90 * i + 3 * p = 115 + 3 * p + 90 * i by omega, f0, f1, f2]
      have := a7 p hp
      rw [show 113 + 90 * (i + 1) + 3 * p = 113 + 3 * p + 90 * (i + 1) by omega, show 114 + 90 * (i + 1) + 3 * p = 114 + 3 * p + 90 * (i + 1) by omega, show 115 + 90 * (i + 1) + 3 * p = 115 + 3 * p + 90 * (i + 1) by omega] at this
      exact this
    · have f0 := f (137 + 2 * q) (by omega) (by omega)
      have f1 := f (138 + 2 * q) (by omega) (by omega)
      rw [show 137 + 90 * i + 2 * q = 137 + 2 * q + 90 * i by omega, show 138 + 90 * i + 2 * q = 138 + 2 * q + 90 * i by omega, f0, f1]
      have := a8 q hq
      rw [show 137 + 90 * (i + 1) + 2 * q = 137 + 2 * q + 90 * (i + 1) by omega, show 138 + 90 * (i + 1) + 2 * q = 138 + 2 * q + 90 * (i + 1) by omega] at this
      exact this
theorem wf_keep {s : Nat → Nat} (hW : WF s) : WF (keepS s) := by
  have wn := wf_n hW
  by_cases c : s 3 = 30
  · rw [keep_30 c]
    exact wf_kep (wf_sh hW c) (by omega) (by unfold shS; rw [ups_e rfl])
  · rw [keep_lo (by omega)]
    exact wf_kep hW (by omega) rfl
section SP
variable {μ : Me} {s : Nat → Nat} {T : Nat → Tx} {tn : Nat}
theorem ah_kd : ∀ i, i < 30 → kdF (16 + 4 * i) = 3 ∧ kdF (151 + 4 * i) = 3 := by decide +kernel
theorem e_ahead (hG : Gp μ) {el i : Nat} (hel : mgi μ 1 16 = nI el) (h1 : el < 30) (h2 : i < 30) {Q : Option Nat → Me → Prop} : S_X9_aheadOf 1 (nI i) μ Q = Q (some (16 + 4 * ((el + i) % 30))) μ := by
  have hm := Nat.mod_lt (el + i) (show 0 < 30 by decide)
  have hr := (hG.2.2.2.1 ((el + i) % 30) hm).1
  unfold S_X9_aheadOf
  simp (disch := first | omega | (simp only [Gp_si, Gp_sl, Gp_ci, Gp_cl]; assumption)) only [li_0, li_1, li_2, li_3, li_4, li_5, li_6, li_7, li_8, li_9, li_10, li_11, li_12, li_13, li_14, li_15, li_16, li_17, li_18, li_19, li_20, li_21, li_22, li_23, li_24, li_25, li_26, li_27, li_28, li_29, li_30, li_32, li_33, li_34, li_35, li_36, li_37, li_38, li_39, li_40, li_41, li_42, li_43, li_44, li_45, li_46, li_47, li_48, li_49, li_50, li_51, li_52, li_53, li_54, li_55, li_56, li_57, li_58, li_59, li_60, li_61, li_62, li_63, li_64, li_65, li_66, li_67, li_68, li_69, li_70, li_71, li_72, li_73, li_74, li_75, li_76, li_77, li_78, li_79, li_80, li_81, li_82, li_83, li_84, li_85, li_86, li_87, li_88, li_89, li_90, li_91, li_92, li_93, li_94, li_95, li_96, li_97, li_98, li_99, li_100, li_101, li_102, li_103, li_104, li_105, li_106, li_107, li_108, li_109, li_110, li_111, li_112, li_113, li_114, li_115, li_116, li_117, li_118, li_119, li_120, li_121, li_122, li_123, li_124, li_125, li_126, li_127, li_128, li_129, li_130, li_134, li_160, li_197, li_229, li_255, li_256, li_265, li_300, li_301, li_330, li_353, li_463, li_720, li_729, li_768, li_999, li_2610, li_2807, li_2867, li_2916, li_4096, li_9999, li_10000, li_30643, li_65535, li_99999, li_1000000, gi_si, gi_sl, gi_sr, gi_ci, gi_cl, gl_si, gl_sl, gl_sr, gl_ci, gl_cl, gr_si, gr_sl, gr_sr, gr_ci, gr_cl, ln_si, ln_sl, ln_sr, ln_ci, ln_cl, ok_si, ok_sl, ok_sr, ok_ci, ok_cl, gp_k hG, gp_l hG, gp_r hG, gp_m hG, Option.some.injEq, exists_eq_left', exists_eq_left, forall_eq, forall_eq', true_and, and_true, if_true, if_false, true_imp_iff, false_imp_iff, not_true_eq_false, not_false_eq_true, false_and, and_false, reduceIte, reduceCtorEq, forall_const, Nat.reduceEqDiff, Nat.reduceAdd, Nat.reduceMul, Nat.reduceSub, Nat.reduceLT, Nat.reduceLeDiff, Nat.reduceMod, Nat.reduceDiv, and_self, ne_eq, exists_const, Nat.add_sub_cancel, nI_add, pk_mul, pk_sub, q_rem, q_div, q_eq, q_le, q_lt, q_cl, q_in, q_m1, q_1m, q_neg, sh1n, bitn, q_mod2, q_neq0, bq_t, bq_f, bq_t2, bq_f2, i01, i10, q_tt, q_ff, ups_e, ups_n, fil_i, fil_o, zq_if, zq_0, zq_1, if_pos, if_neg, hel, md, hr]
/-- the last step is the moment now -/
theorem step_now {ν : Me} {m n : Nat} (hW : WF s) (hn : n < 30) (hN : NowR μ 11 s) (hc : ∀ {n' dy rg we xx pg : Nat} {due bed late b1 b2 : Nat → Nat}, MomR μ 11 n' dy rg we xx pg due bed late b1 b2 → n' ≤ 8 → pg ≤ 30 → MomR ν m n' dy rg we xx pg due bed late b1 b2) : StepR ν m (kepS s n) n := by
  have wn := wf_n hW
  have h0 : kepS s n 0 = s 0 := kep_o (by omega)
  have hM := hc hN wn.1 (by omega)
  unfold StepR
  rw [h0, kep_0]
  have k1 : kepS s n (109 + 90 * n) = s 7 := by have := kep_5 (s := s) (n := n) (d := 1) (by omega); rw [show 108 + 90 * n + 1 = 109 + 90 * n by omega] at this; exact this
  have k2 : kepS s n (110 + 90 * n) = s 8 := by have := kep_5 (s := s) (n := n) (d := 2) (by omega); rw [show 108 + 90 * n + 2 = 110 + 90 * n by omega] at this; exact this
  have k3 : kepS s n (111 + 90 * n) = s 9 := by have := kep_5 (s := s) (n := n) (d := 3) (by omega); rw [show 108 + 90 * n + 3 = 111 + 90 * n by omega] at this; exact this
  have k4 : kepS s n (112 + 90 * n) = s 10 := by have := kep_5 (s := s) (n := n) (d := 4) (by omega); rw [show 108 + 90 * n + 4 = 112 + 90 * n by omega] at this; exact this
  refine MomR_s hM (kep_5 (d := 0) (by omega)).symm k1.symm k2.symm k3.symm k4.symm (fun p hp => ?_) (fun p hp => ?_) (fun p hp => ?_) (fun q hq => ?_)
  · rw [if_pos hp]
    exact (kep_p (w := 0) (by omega) (by omega)).symm
  · rw [if_pos hp]
    have := kep_p (s := s) (n := n) (p := p) (w := 1) (by omega) (by omega)
    rw [show 113 + 90 * n + 3 * p + 1 = 114 + 90 * n + 3 * p by omega, show 11 + 7 * p + 1 = 12 + 7 * p by omega] at this
    exact this.symm
  · rw [if_pos hp]
    have := kep_p (s := s) (n := n) (p := p) (w := 2) (by omega) (by omega)
    rw [show 113 + 90 * n + 3 * p + 2 = 115 + 90 * n + 3 * p by omega, show 11 + 7 * p + 2 = 13 + 7 * p by omega] at this
    exact this.symm
  · refine ⟨(kep_b (by omega)).symm, ?_⟩
    have := kep_b (s := s) (n := n) (d := 2 * q + 1) (by omega)
    rw [show 137 + 90 * n + (2 * q + 1) = 138 + 90 * n + 2 * q by omega, show 2807 + (2 * q + 1) = 2808 + 2 * q by omega] at this
    exact this.symm
theorem step_g {ν : Me} {m : Nat} {s' : Nat → Nat} {i i' : Nat} (h : StepR ν m s i') (h0 : s 0 ≤ 8) (hpg : s (112 + 90 * i') ≤ 30) (e0 : s' 0 = s 0) (e : ∀ c, 107 ≤ c → c < 197 → s' (c + 90 * i) = s (c + 90 * i')) (e17 : ∀ p, p < s 0 → s' (17 + 7 * p) = s (17 + 7 * p)) : StepR ν m s' i := by
  unfold StepR at h ⊢
  rw [e0]
  have f : ∀ c x, 107 ≤ c + x → c + x < 197 → s' (c + 90 * i + x) = s (c + 90 * i' + x) := fun c x h1 h2 => by
    rw [show c + 90 * i + x = c + x + 90 * i by omega, show c + 90 * i' + x = c + x + 90 * i' by omega]
    exact e _ h1 h2
  refine MomR_s h (e 108 (by omega) (by omega)).symm (e 109 (by omega) (by omega)).symm (e 110 (by omega) (by omega)).symm (e 111 (by omega) (by omega)).symm (e 112 (by omega) (by omega)).symm (fun p hp => ?_) (fun p hp => ?_) (fun p hp => ?_) (fun q hq => ?_)
  · rw [e 107 (by omega) (by omega), f 113 (3 * p) (by omega) (by omega), e17 p hp]
  · rw [e 107 (by omega) (by omega), f 114 (3 * p) (by omega) (by omega)]
  · rw [e 107 (by omega) (by omega), f 115 (3 * p) (by omega) (by omega)]
  · rw [f 137 (2 * q) (by omega) (by omega), f 138 (2 * q) (by omega) (by omega)]
    exact ⟨rfl, rfl⟩
/-- the told part, but for the number of steps and the eldest -/
theorem told_17 {ν : Me} {s' : Nat → Nat} (h : ToldR μ 1 s) (hW : WF s) (e : ∀ a q, 1 ≤ a → a < 11 → (a = 1 → q ≠ 16 ∧ q ≠ 17) → mgi ν a q = mgi μ a q) (e17 : mgi ν 1 17 = nI (s' 3)) (es : ∀ j, j < 107 → j ≠ 3 → s' j = s j) : ToldR ν 1 s' := by
  have w := wf_n hW
  obtain ⟨c1, c2, c3, c4, c5, c6, c7, c8, c9, c10, c11⟩ := h
  refine ⟨?_, ?_, ?_, e17, ?_, ?_, fun p hp => ?_, fun r hr => ?_, fun p hp => ?_, fun i hi => ?_, fun i hi => ?_⟩
  · rw [e _ _ (by omega) (by omega) (by omega), es 0 (by omega) (by omega)]; exact c1
  · rw [e _ _ (by omega) (by omega) (by omega), es 1 (by omega) (by omega)]; exact c2
  · rw [e _ _ (by omega) (by omega) (by omega), es 2 (by omega) (by omega)]; exact c3
  · rw [e _ _ (by omega) (by omega) (by omega), es 4 (by omega) (by omega)]; exact c5
  · rw [e _ _ (by omega) (by omega) (by omega), es 5 (by omega) (by omega)]; exact c6
  · rw [es 0 (by omega) (by omega)] at hp
    rw [e _ _ (by omega) (by omega) (by omega), e _ _ (by omega) (by omega) (by omega), e _ _ (by omega) (by omega) (by omega), es (14 + 7 * p) (by omega) (by omega), es (15 + 7 * p) (by omega) (by omega), es (16 + 7 * p) (by omega) (by omega)]
    exact c7 p hp
  · rw [e _ _ (by omega) (by omega) (by omega), c8 r hr, es 0 (by omega) (by omega)]
    congr 1
    exact setS_cong (fun p hp => by rw [es (14 + 7 * p) (by omega) (by omega)])
  · rw [e _ _ (by omega) (by omega) (by omega), es (67 + p) (by omega) (by omega)]
    exact c9 p hp
  · rw [es 4 (by omega) (by omega)] at hi
    rw [e _ _ (by omega) (by omega) (by omega), e _ _ (by omega) (by omega) (by omega), es (75 + 2 * i) (by omega) (by omega), es (76 + 2 * i) (by omega) (by omega)]
    exact c10 i hi
  · rw [es 5 (by omega) (by omega)] at hi
    rw [e _ _ (by omega) (by omega) (by omega), e _ _ (by omega) (by omega) (by omega), es (91 + 2 * i) (by omega) (by omega), es (92 + 2 * i) (by omega) (by omega)]
    exact c11 i hi
theorem now_s {ν : Me} {m : Nat} {s' : Nat → Nat} (h : NowR ν m s) (hW : WF s) (e : ∀ j, (j = 0 ∨ (6 ≤ j ∧ j < 67) ∨ (2807 ≤ j ∧ j < 2867)) → s' j = s j) : NowR ν m s' := by
  have w := wf_n hW
  unfold NowR at h ⊢
  rw [e 0 (by omega)]
  exact MomR_s h (e 6 (by omega)).symm (e 7 (by omega)).symm (e 8 (by omega)).symm (e 9 (by omega)).symm (e 10 (by omega)).symm (fun p hp => (e _ (by omega)).symm) (fun p hp => (e _ (by omega)).symm) (fun p hp => (e _ (by omega)).symm) (fun i hi => ⟨(e _ (by omega)).symm, (e _ (by omega)).symm⟩)
theorem p_markStep (h : Tw μ s T) {Q : Me → Prop} (k : ∀ ν, Fr xT μ ν → Tw ν (keepS s) T → Q ν) : S_X9_markStep 1 μ Q := by
  obtain ⟨hG, hW, ⟨hTo, hNo, el, hel, h16, hSt⟩, hTx⟩ := id h
  have w := wf_n hW
  have h17 : mgi μ 1 17 = nI (s 3) := hTo.2.2.2.1
  unfold S_X9_markStep B_X9_markStep_35
  by_cases c : s 3 = 30
  · have hm := Nat.mod_lt (el + 1) (show 0 < 30 by decide)
    have h16' : mgi (msi μ 1 16 (nI ((el + 1) % 30))) 1 16 = nI ((el + 1) % 30) := by rw [gi_si, if_pos ⟨rfl, rfl⟩]
    have hslot : ((el + 1) % 30 + (s 3 - 1)) % 30 = el := by omega
    simp (disch := first | omega | (simp only [Gp_si, Gp_sl, Gp_ci, Gp_cl]; assumption)) only [li_0, li_1, li_2, li_3, li_4, li_5, li_6, li_7, li_8, li_9, li_10, li_11, li_12, li_13, li_14, li_15, li_16, li_17, li_18, li_19, li_20, li_21, li_22, li_23, li_24, li_25, li_26, li_27, li_28, li_29, li_30, li_32, li_33, li_34, li_35, li_36, li_37, li_38, li_39, li_40, li_41, li_42, li_43, li_44, li_45, li_46, li_47, li_48, li_49, li_50, li_51, li_52, li_53, li_54, li_55, li_56, li_57, li_58, li_59, li_60, li_61, li_62, li_63, li_64, li_65, li_66, li_67, li_68, li_69, li_70, li_71, li_72, li_73, li_74, li_75, li_76, li_77, li_78, li_79, li_80, li_81, li_82, li_83, li_84, li_85, li_86, li_87, li_88, li_89, li_90, li_91, li_92, li_93, li_94, li_95, li_96, li_97, li_98, li_99, li_100, li_101, li_102, li_103, li_104, li_105, li_106, li_107, li_108, li_109, li_110, li_111, li_112, li_113, li_114, li_115, li_116, li_117, li_118, li_119, li_120, li_121, li_122, li_123, li_124, li_125, li_126, li_127, li_128, li_129, li_130, li_134, li_160, li_197, li_229, li_255, li_256, li_265, li_300, li_301, li_330, li_353, li_463, li_720, li_729, li_768, li_999, li_2610, li_2807, li_2867, li_2916, li_4096, li_9999, li_10000, li_30643, li_65535, li_99999, li_1000000, gi_si, gi_sl, gi_sr, gi_ci, gi_cl, gl_si, gl_sl, gl_sr, gl_ci, gl_cl, gr_si, gr_sl, gr_sr, gr_ci, gr_cl, ln_si, ln_sl, ln_sr, ln_ci, ln_cl, ok_si, ok_sl, ok_sr, ok_ci, ok_cl, gp_k hG, gp_l hG, gp_r hG, gp_m hG, Option.some.injEq, exists_eq_left', exists_eq_left, forall_eq, forall_eq', true_and, and_true, if_true, if_false, true_imp_iff, false_imp_iff, not_true_eq_false, not_false_eq_true, false_and, and_false, reduceIte, reduceCtorEq, forall_const, Nat.reduceEqDiff, Nat.reduceAdd, Nat.reduceMul, Nat.reduceSub, Nat.reduceLT, Nat.reduceLeDiff, Nat.reduceMod, Nat.reduceDiv, and_self, ne_eq, exists_const, Nat.add_sub_cancel, nI_add, pk_mul, pk_sub, q_rem, q_div, q_eq, q_le, q_lt, q_cl, q_in, q_m1, q_1m, q_neg, sh1n, bitn, q_mod2, q_neq0, bq_t, bq_f, bq_t2, bq_f2, i01, i10, q_tt, q_ff, ups_e, ups_n, fil_i, fil_o, zq_if, zq_0, zq_1, if_pos, if_neg, h17, h16, md]
    rw [e_ahead (by exact hG) h16' hm (by omega), hslot]
    obtain ⟨ak, -⟩ := ah_kd el hel
    have hok : mok (msi μ 1 16 (nI ((el + 1) % 30))) (16 + 4 * el) 3 := gp_ok (show Gp (msi μ 1 16 (nI ((el + 1) % 30))) from hG) (by omega) ak
    simp (disch := first | omega | (simp only [Gp_si, Gp_sl, Gp_ci, Gp_cl]; assumption)) only [li_0, li_1, li_2, li_3, li_4, li_5, li_6, li_7, li_8, li_9, li_10, li_11, li_12, li_13, li_14, li_15, li_16, li_17, li_18, li_19, li_20, li_21, li_22, li_23, li_24, li_25, li_26, li_27, li_28, li_29, li_30, li_32, li_33, li_34, li_35, li_36, li_37, li_38, li_39, li_40, li_41, li_42, li_43, li_44, li_45, li_46, li_47, li_48, li_49, li_50, li_51, li_52, li_53, li_54, li_55, li_56, li_57, li_58, li_59, li_60, li_61, li_62, li_63, li_64, li_65, li_66, li_67, li_68, li_69, li_70, li_71, li_72, li_73, li_74, li_75, li_76, li_77, li_78, li_79, li_80, li_81, li_82, li_83, li_84, li_85, li_86, li_87, li_88, li_89, li_90, li_91, li_92, li_93, li_94, li_95, li_96, li_97, li_98, li_99, li_100, li_101, li_102, li_103, li_104, li_105, li_106, li_107, li_108, li_109, li_110, li_111, li_112, li_113, li_114, li_115, li_116, li_117, li_118, li_119, li_120, li_121, li_122, li_123, li_124, li_125, li_126, li_127, li_128, li_129, li_130, li_134, li_160, li_197, li_229, li_255, li_256, li_265, li_300, li_301, li_330, li_353, li_463, li_720, li_729, li_768, li_999, li_2610, li_2807, li_2867, li_2916, li_4096, li_9999, li_10000, li_30643, li_65535, li_99999, li_1000000, gi_si, gi_sl, gi_sr, gi_ci, gi_cl, gl_si, gl_sl, gl_sr, gl_ci, gl_cl, gr_si, gr_sl, gr_sr, gr_ci, gr_cl, ln_si, ln_sl, ln_sr, ln_ci, ln_cl, ok_si, ok_sl, ok_sr, ok_ci, ok_cl, gp_k hG, gp_l hG, gp_r hG, gp_m hG, Option.some.injEq, exists_eq_left', exists_eq_left, forall_eq, forall_eq', true_and, and_true, if_true, if_false, true_imp_iff, false_imp_iff, not_true_eq_false, not_false_eq_true, false_and, and_false, reduceIte, reduceCtorEq, forall_const, Nat.reduceEqDiff, Nat.reduceAdd, Nat.reduceMul, Nat.reduceSub, Nat.reduceLT, Nat.reduceLeDiff, Nat.reduceMod, Nat.reduceDiv, and_self, ne_eq, exists_const, Nat.add_sub_cancel, nI_add, pk_mul, pk_sub, q_rem, q_div, q_eq, q_le, q_lt, q_cl, q_in, q_m1, q_1m, q_neg, sh1n, bitn, q_mod2, q_neq0, bq_t, bq_f, bq_t2, bq_f2, i01, i10, q_tt, q_ff, ups_e, ups_n, fil_i, fil_o, zq_if, zq_0, zq_1, if_pos, if_neg]
    refine ⟨hok, ?_⟩
    refine p_mbecome (μ := msi μ 1 16 (nI ((el + 1) % 30))) (m := 16 + 4 * el) (m' := 11) (by exact hG) (by omega) ak (by decide) (by decide) (by omega) (fun ν hF g0 g1 g2 g3 => ?_)
    have xe : ∀ a q, (a < 16 + 4 * el ∨ 19 + 4 * el ≤ a) → (a = 1 → q ≠ 16) → mgi ν a q = mgi μ a q := fun a q h1 h2 => by
      rw [hF.2.2.2.2.1 a q (by omega), gi_si, if_neg (by rintro ⟨rfl, rfl⟩; exact h2 rfl rfl)]
    have xl : ∀ a q, a ≠ 19 + 4 * el → mgl ν a q = mgl μ a q := fun a q h1 => by rw [hF.2.2.2.2.2 a q (by omega), gl_si]
    have hFt : Fr xT μ ν := fr_tr (fr_si (fr_rf xT μ) 1 16 _ rfl) (fr_pt (m := 16 + 4 * el) (by omega) (fr_mp hF))
    have hsh := wf_sh hW c
    have k3 : keepS s 3 = 30 := by rw [keep_30 c, kep_3]
    have k0 : keepS s 0 = s 0 := keep_o (by omega) (by omega)
    refine k ν hFt (tw_tx h hFt (wf_keep hW) (keep_o (by omega) (by omega)) ⟨?_, ?_, (el + 1) % 30, hm, ?_, fun i hi => ?_⟩)
    · refine told_17 hTo hW (fun a q h1 h2 h3 => xe a q (by omega) (fun e => (h3 e).1)) ?_ (fun j h1 h2 => keep_o (by omega) (by omega))
      rw [xe 1 17 (by omega) (by decide), h17, k3, c]
    · exact now_s (MomR_x hNo (fun q => xe _ q (by omega) (by omega)) (fun q => xe _ q (by omega) (by omega)) (fun q => xe _ q (by omega) (by omega)) (fun q => xl _ q (by omega))) hW (fun j hj => keep_o (by omega) (by omega))
    · rw [hF.2.2.2.2.1 1 16 (by omega)]
      exact h16'
    · rw [k3] at hi
      rw [keep_30 c]
      by_cases ci : i = 29
      · subst ci
        rw [show 1 + 15 + 4 * (((el + 1) % 30 + 29) % 30) = 16 + 4 * el by omega]
        refine step_now (μ := msi μ 1 16 (nI ((el + 1) % 30))) (s := shS s) hsh (by omega) (now_s (MomR_x hNo (fun q => by rw [gi_si, if_neg (by omega)]) (fun q => by rw [gi_si, if_neg (by omega)]) (fun q => by rw [gi_si, if_neg (by omega)]) (fun q => rfl)) hW (fun j hj => sh_o (by omega))) (fun hM hn hpg => mom_cp hM hn hpg g0 g1 g2 g3)
      · have hmi := Nat.mod_lt (el + (i + 1)) (show 0 < 30 by decide)
        rw [show 1 + 15 + 4 * (((el + 1) % 30 + i) % 30) = 1 + 15 + 4 * ((el + (i + 1)) % 30) by omega]
        have hne : (el + (i + 1)) % 30 ≠ el := by omega
        refine step_g (i' := i + 1) (StepR_x (hSt (i + 1) (by omega)) (fun a q _ _ => xe a q (by omega) (by omega)) (fun q => xl _ q (by omega))) w.1 (wf_sp hW (by omega)) (by rw [kep_o (by omega), sh_o (by omega)]) (fun c h1 h2 => ?_) (fun p hp => by rw [kep_o (by omega), sh_o (by omega)])
        rw [kep_o (by omega), sh_i (by omega), show c + 90 * i + 90 = c + 90 * (i + 1) by omega]
  · have hm := Nat.mod_lt (el + s 3) (show 0 < 30 by decide)
    have h16' : mgi (msi μ 1 17 (nI (s 3 + 1))) 1 16 = nI el := by
      rw [gi_si, if_neg (by omega)]
      exact h16
    simp (disch := first | omega | (simp only [Gp_si, Gp_sl, Gp_ci, Gp_cl]; assumption)) only [li_0, li_1, li_2, li_3, li_4, li_5, li_6, li_7, li_8, li_9, li_10, li_11, li_12, li_13, li_14, li_15, li_16, li_17, li_18, li_19, li_20, li_21, li_22, li_23, li_24, li_25, li_26, li_27, li_28, li_29, li_30, li_32, li_33, li_34, li_35, li_36, li_37, li_38, li_39, li_40, li_41, li_42, li_43, li_44, li_45, li_46, li_47, li_48, li_49, li_50, li_51, li_52, li_53, li_54, li_55, li_56, li_57, li_58, li_59, li_60, li_61, li_62, li_63, li_64, li_65, li_66, li_67, li_68, li_69, li_70, li_71, li_72, li_73, li_74, li_75, li_76, li_77, li_78, li_79, li_80, li_81, li_82, li_83, li_84, li_85, li_86, li_87, li_88, li_89, li_90, li_91, li_92, li_93, li_94, li_95, li_96, li_97, li_98, li_99, li_100, li_101, li_102, li_103, li_104, li_105, li_106, li_107, li_108, li_109, li_110, li_111, li_112, li_113, li_114, li_115, li_116, li_117, li_118, li_119, li_120, li_121, li_122, li_123, li_124, li_125, li_126, li_127, li_128, li_129, li_130, li_134, li_160, li_197, li_229, li_255, li_256, li_265, li_300, li_301, li_330, li_353, li_463, li_720, li_729, li_768, li_999, li_2610, li_2807, li_2867, li_2916, li_4096, li_9999, li_10000, li_30643, li_65535, li_99999, li_1000000, gi_si, gi_sl, gi_sr, gi_ci, gi_cl, gl_si, gl_sl, gl_sr, gl_ci, gl_cl, gr_si, gr_sl, gr_sr, gr_ci, gr_cl, ln_si, ln_sl, ln_sr, ln_ci, ln_cl, ok_si, ok_sl, ok_sr, ok_ci, ok_cl, gp_k hG, gp_l hG, gp_r hG, gp_m hG, Option.some.injEq, exists_eq_left', exists_eq_left, forall_eq, forall_eq', true_and, and_true, if_true, if_false, true_imp_iff, false_imp_iff, not_true_eq_false, not_false_eq_true, false_and, and_false, reduceIte, reduceCtorEq, forall_const, Nat.reduceEqDiff, Nat.reduceAdd, Nat.reduceMul, Nat.reduceSub, Nat.reduceLT, Nat.reduceLeDiff, Nat.reduceMod, Nat.reduceDiv, and_self, ne_eq, exists_const, Nat.add_sub_cancel, nI_add, pk_mul, pk_sub, q_rem, q_div, q_eq, q_le, q_lt, q_cl, q_in, q_m1, q_1m, q_neg, sh1n, bitn, q_mod2, q_neq0, bq_t, bq_f, bq_t2, bq_f2, i01, i10, q_tt, q_ff, ups_e, ups_n, fil_i, fil_o, zq_if, zq_0, zq_1, if_pos, if_neg, h17, h16]
    rw [e_ahead (by exact hG) h16' hel (by omega)]
    obtain ⟨ak, -⟩ := ah_kd ((el + s 3) % 30) hm
    have hok : mok (msi μ 1 17 (nI (s 3 + 1))) (16 + 4 * ((el + s 3) % 30)) 3 := gp_ok (show Gp (msi μ 1 17 (nI (s 3 + 1))) from hG) (by omega) ak
    simp (disch := first | omega | (simp only [Gp_si, Gp_sl, Gp_ci, Gp_cl]; assumption)) only [li_0, li_1, li_2, li_3, li_4, li_5, li_6, li_7, li_8, li_9, li_10, li_11, li_12, li_13, li_14, li_15, li_16, li_17, li_18, li_19, li_20, li_21, li_22, li_23, li_24, li_25, li_26, li_27, li_28, li_29, li_30, li_32, li_33, li_34, li_35, li_36, li_37, li_38, li_39, li_40, li_41, li_42, li_43, li_44, li_45, li_46, li_47, li_48, li_49, li_50, li_51, li_52, li_53, li_54, li_55, li_56, li_57, li_58, li_59, li_60, li_61, li_62, li_63, li_64, li_65, li_66, li_67, li_68, li_69, li_70, li_71, li_72, li_73, li_74, li_75, li_76, li_77, li_78, li_79, li_80, li_81, li_82, li_83, li_84, li_85, li_86, li_87, li_88, li_89, li_90, li_91, li_92, li_93, li_94, li_95, li_96, li_97, li_98, li_99, li_100, li_101, li_102, li_103, li_104, li_105, li_106, li_107, li_108, li_109, li_110, li_111, li_112, li_113, li_114, li_115, li_116, li_117, li_118, li_119, li_120, li_121, li_122, li_123, li_124, li_125, li_126, li_127, li_128, li_129, li_130, li_134, li_160, li_197, li_229, li_255, li_256, li_265, li_300, li_301, li_330, li_353, li_463, li_720, li_729, li_768, li_999, li_2610, li_2807, li_2867, li_2916, li_4096, li_9999, li_10000, li_30643, li_65535, li_99999, li_1000000, gi_si, gi_sl, gi_sr, gi_ci, gi_cl, gl_si, gl_sl, gl_sr, gl_ci, gl_cl, gr_si, gr_sl, gr_sr, gr_ci, gr_cl, ln_si, ln_sl, ln_sr, ln_ci, ln_cl, ok_si, ok_sl, ok_sr, ok_ci, ok_cl, gp_k hG, gp_l hG, gp_r hG, gp_m hG, Option.some.injEq, exists_eq_left', exists_eq_left, forall_eq, forall_eq', true_and, and_true, if_true, if_false, true_imp_iff, false_imp_iff, not_true_eq_false, not_false_eq_true, false_and, and_false, reduceIte, reduceCtorEq, forall_const, Nat.reduceEqDiff, Nat.reduceAdd, Nat.reduceMul, Nat.reduceSub, Nat.reduceLT, Nat.reduceLeDiff, Nat.reduceMod, Nat.reduceDiv, and_self, ne_eq, exists_const, Nat.add_sub_cancel, nI_add, pk_mul, pk_sub, q_rem, q_div, q_eq, q_le, q_lt, q_cl, q_in, q_m1, q_1m, q_neg, sh1n, bitn, q_mod2, q_neq0, bq_t, bq_f, bq_t2, bq_f2, i01, i10, q_tt, q_ff, ups_e, ups_n, fil_i, fil_o, zq_if, zq_0, zq_1, if_pos, if_neg]
    refine ⟨hok, ?_⟩
    refine p_mbecome (μ := msi μ 1 17 (nI (s 3 + 1))) (m := 16 + 4 * ((el + s 3) % 30)) (m' := 11) (by exact hG) (by omega) ak (by decide) (by decide) (by omega) (fun ν hF g0 g1 g2 g3 => ?_)
    have xe : ∀ a q, (a < 16 + 4 * ((el + s 3) % 30) ∨ 19 + 4 * ((el + s 3) % 30) ≤ a) → (a = 1 → q ≠ 17) → mgi ν a q = mgi μ a q := fun a q h1 h2 => by
      rw [hF.2.2.2.2.1 a q (by omega), gi_si, if_neg (by rintro ⟨rfl, rfl⟩; exact h2 rfl rfl)]
    have xl : ∀ a q, a ≠ 19 + 4 * ((el + s 3) % 30) → mgl ν a q = mgl μ a q := fun a q h1 => by rw [hF.2.2.2.2.2 a q (by omega), gl_si]
    have hFt : Fr xT μ ν := fr_tr (fr_si (fr_rf xT μ) 1 17 _ rfl) (fr_pt (m := 16 + 4 * ((el + s 3) % 30)) (by omega) (fr_mp hF))
    have k3 : keepS s 3 = s 3 + 1 := by rw [keep_lo (by omega), kep_3]
    refine k ν hFt (tw_tx h hFt (wf_keep hW) (keep_o (by omega) (by omega)) ⟨?_, ?_, el, hel, ?_, fun i hi => ?_⟩)
    · refine told_17 hTo hW (fun a q h1 h2 h3 => xe a q (by omega) (fun e => (h3 e).2)) ?_ (fun j h1 h2 => keep_o (by omega) (by omega))
      rw [hF.2.2.2.2.1 1 17 (by omega), gi_si, if_pos ⟨rfl, rfl⟩, k3]
    · exact now_s (MomR_x hNo (fun q => xe _ q (by omega) (by omega)) (fun q => xe _ q (by omega) (by omega)) (fun q => xe _ q (by omega) (by omega)) (fun q => xl _ q (by omega))) hW (fun j hj => keep_o (by omega) (by omega))
    · exact (xe 1 16 (by omega) (by decide)).trans h16
    · rw [k3] at hi
      rw [keep_lo (by omega)]
      by_cases ci : i = s 3
      · subst ci
        exact step_now (μ := msi μ 1 17 (nI (s 3 + 1))) (s := s) hW (by omega) (MomR_x hNo (fun q => by rw [gi_si, if_neg (by omega)]) (fun q => by rw [gi_si, if_neg (by omega)]) (fun q => by rw [gi_si, if_neg (by omega)]) (fun q => rfl)) (fun hM hn hpg => mom_cp hM hn hpg g0 g1 g2 g3)
      · have hmi := Nat.mod_lt (el + i) (show 0 < 30 by decide)
        have hne : (el + i) % 30 ≠ (el + s 3) % 30 := by omega
        exact step_g (i' := i) (StepR_x (hSt i (by omega)) (fun a q _ _ => xe a q (by omega) (by omega)) (fun q => xl _ q (by omega))) w.1 (wf_sp hW (by omega)) (kep_o (by omega)) (fun c h1 h2 => kep_o (by omega)) (fun p hp => kep_o (by omega))
end SP
