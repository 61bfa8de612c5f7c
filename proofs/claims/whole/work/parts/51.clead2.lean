/-! rounds counted, basins, races: the class's ways -/
section RP
variable {F : Nat → Nat} {N : Nat}
/-- one that comes to a round's member comes to it from all that it meets -/
theorem reach_on {q x v : Nat} {i j : Nat} (h1 : itF F i q = x) (h2 : itF F j q = v) (hv : onC F v) : ∃ n, itF F n x = v := by
  obtain ⟨p, p1, p2⟩ := hv
  have h3 := it_mul p2 i
  have hk : i ≤ p * i := Nat.le_mul_of_pos_left i p1
  refine ⟨p * i + j - i, ?_⟩
  rw [← h1, ← it_add, show p * i + j - i + i = p * i + j by omega, it_add, h2, h3]
/-- the least member of the round that one comes to -/
def repS (F : Nat → Nat) (N x : Nat) : Nat := firstN (fun v => isR F N v && exB (fun n => itF F n x == v) N) 300 0
theorem rep_f (hF : ∀ r, r < N → F r < N) (hN : N ≤ 256) {x : Nat} (hx : x < N) : repS F N x < N ∧ onC F (repS F N x) ∧ (∃ n, itF F n x = repS F N x) ∧ ∀ v, onC F v → (∃ n, itF F n x = v) → repS F N x ≤ v := by
  obtain ⟨i, j, h1, h2, h3⟩ := it_rep hF hx
  have hv := it_lt hF hx i
  have yes : ∀ v, onC F v → (∃ n, itF F n x = v) → (isR F N v && exB (fun n => itF F n x == v) N) = true := by
    rintro v a ⟨n, rfl⟩
    obtain ⟨m, m1, m2⟩ := come_lt hF hx (rfl : itF F n x = itF F n x)
    rw [(isR_iff hF (it_lt hF hx n)).2 a, exB_yes (k := m) m1 (by rw [m2]; exact beq_self_eq_true _)]
    rfl
  obtain ⟨r, a1, a2, a3, a4⟩ := firstN_ex (c := fun v => isR F N v && exB (fun n => itF F n x == v) N) (m := itF F i x) (yes _ (it_onC h1 h3) ⟨i, rfl⟩) 0 (Nat.zero_le _)
  have e : repS F N x = r := firstN_eq 300 0 (Nat.zero_le _) (by omega) a4 a3
  rw [e]
  have a5 : (isR F N r && exB (fun n => itF F n x == r) N) = true := a3
  rw [Bool.and_eq_true] at a5
  obtain ⟨n, -, hn⟩ := (exB_iff _ _).1 a5.2
  refine ⟨by omega, (isR_iff hF (by omega)).1 a5.1, ⟨n, eq_of_beq hn⟩, fun v b1 b2 => ?_⟩
  by_cases c : r ≤ v
  · exact c
  · have := a4 v (Nat.zero_le _) (by omega)
    rw [yes v b1 b2] at this
    cases this
theorem rep_eq (hF : ∀ r, r < N → F r < N) (hN : N ≤ 256) {q x : Nat} (hq : q < N) (hx : x < N) (h : ∃ n, itF F n q = x) : repS F N q = repS F N x := by
  obtain ⟨n, hn⟩ := h
  obtain ⟨-, a2, ⟨i, a3⟩, a4⟩ := rep_f hF hN hq
  obtain ⟨-, b2, ⟨j, b3⟩, b4⟩ := rep_f hF hN hx
  have c1 := b4 _ a2 (reach_on hn a3 a2)
  have c2 := a4 _ b2 ⟨j + n, by rw [it_add, hn, b3]⟩
  omega
theorem min_rep (hF : ∀ r, r < N → F r < N) (hN : N ≤ 256) {v : Nat} (hv : v < N) : minC F N v = exB (fun r => repS F N r == v) N := by
  cases hm : minC F N v with
  | true =>
    unfold minC at hm
    rw [Bool.and_eq_true, Bool.not_eq_true'] at hm
    have hon := (isR_iff hF hv).1 hm.1
    obtain ⟨-, a2, ⟨i, a3⟩, a4⟩ := rep_f hF hN hv
    have h1 := a4 v hon ⟨0, rfl⟩
    obtain ⟨m, m1, m2⟩ := come_lt hF hv a3
    have h2 : itF F m v < v → False := fun x => by
      have := exB_no hm.2 (k := m) (by omega)
      rw [decide_eq_true x] at this
      cases this
    have : repS F N v = v := by
      by_cases c : repS F N v < v
      · exact (h2 (by rw [m2]; exact c)).elim
      · omega
    exact (exB_yes (k := v) hv (by rw [this]; exact beq_self_eq_true v)).symm
  | false =>
    refine (exB_neg (fun r hr => beq_false_of_ne (fun e => ?_))).symm
    obtain ⟨a1, a2, ⟨i, a3⟩, a4⟩ := rep_f hF hN hr
    rw [e] at a2 a3 a4
    have : minC F N v = true := by
      unfold minC
      rw [(isR_iff hF hv).2 a2, exB_neg (fun n hn => decide_eq_false ?_)]
      · rfl
      · have := a4 (itF F n v) (onC_it a2 n) ⟨n + i, by rw [it_add, a3]⟩
        omega
    rw [this] at hm
    cases hm
theorem rounds_first (hF : ∀ r, r < N → F r < N) (hN : N ≤ 256) : cntS (fun r => !exB (fun q => repS F N q == repS F N r) r) N = roundsS F N := by
  rw [cnt_first N (fun r hr => (rep_f hF hN hr).1)]
  exact cntS_cong (fun v hv => (min_rep hF hN hv).symm)
end RP
/-- what the marks say ahead of the way from f -/
def Mks (F : Nat → Nat) (N f x : Nat) (v : Int32) : Prop := (∃ m, m < f ∧ v = nI (m + 1) ∧ (∃ n, itF F n m = x) ∧ ∀ q, q < m → ¬ ∃ n, itF F n q = x) ∨ (v = nI 0 ∧ ∀ q, q < f → ¬ ∃ n, itF F n q = x)
/-- along the way from f, t steps behind -/
def Mkt (F : Nat → Nat) (N f t x : Nat) (v : Int32) : Prop := (∃ m, m < f ∧ v = nI (m + 1) ∧ (∃ n, itF F n m = x) ∧ ∀ q, q < m → ¬ ∃ n, itF F n q = x) ∨ (v = nI (f + 1) ∧ (∀ q, q < f → ¬ ∃ n, itF F n q = x) ∧ ∃ i, i < t ∧ itF F i f = x) ∨ (v = nI 0 ∧ (∀ q, q < f → ¬ ∃ n, itF F n q = x) ∧ ∀ i, i < t → itF F i f ≠ x)
section CD2
variable {μ : Me} {s : Nat → Nat} {T : Nat → Tx} {tn : Nat} {Q : Int32 → Me → Prop}
theorem p_roundCount (h : Cl μ s T tn) (k : ∀ ν, Fr xM μ ν → Cl ν s T tn → Q (nI (roundsS (lateS s (Dx T (s 2))) (2 ^ s 0))) ν) : S_X2_roundCount 306 μ Q := by
  have w := wf_n h.2.1
  have hq := p2_8 w.1
  have hG := h.1
  have hFl := late_f s (Dx T (s 2))
  generalize hFd : lateS s (Dx T (s 2)) = F at k hFl
  rw [← rounds_first hFl hq] at k
  unfold S_X2_roundCount
  simp (disch := first | omega | (simp only [Gp_si, Gp_sl, Gp_ci, Gp_cl]; assumption)) only [li_0, li_1, li_2, li_3, li_4, li_5, li_6, li_7, li_8, li_9, li_10, li_11, li_12, li_13, li_14, li_15, li_16, li_17, li_18, li_19, li_20, li_21, li_22, li_23, li_24, li_25, li_26, li_27, li_28, li_29, li_30, li_32, li_33, li_34, li_35, li_36, li_37, li_38, li_39, li_40, li_41, li_42, li_43, li_44, li_45, li_46, li_47, li_48, li_49, li_50, li_51, li_52, li_53, li_54, li_55, li_56, li_57, li_58, li_59, li_60, li_61, li_62, li_63, li_64, li_65, li_66, li_67, li_68, li_69, li_70, li_71, li_72, li_73, li_74, li_75, li_76, li_77, li_78, li_79, li_80, li_81, li_82, li_83, li_84, li_85, li_86, li_87, li_88, li_89, li_90, li_91, li_92, li_93, li_94, li_95, li_96, li_97, li_98, li_99, li_100, li_101, li_102, li_103, li_104, li_105, li_106, li_107, li_108, li_109, li_110, li_111, li_112, li_113, li_114, li_115, li_116, li_117, li_118, li_119, li_120, li_121, li_122, li_123, li_124, li_125, li_126, li_127, li_128, li_129, li_130, li_134, li_160, li_197, li_229, li_255, li_256, li_265, li_300, li_301, li_330, li_353, li_463, li_720, li_729, li_768, li_999, li_2610, li_2807, li_2867, li_2916, li_4096, li_9999, li_10000, li_30643, li_65535, li_99999, li_1000000, gi_si, gi_sl, gi_sr, gi_ci, gi_cl, gl_si, gl_sl, gl_sr, gl_ci, gl_cl, gr_si, gr_sl, gr_sr, gr_ci, gr_cl, ln_si, ln_sl, ln_sr, ln_ci, ln_cl, ok_si, ok_sl, ok_sr, ok_ci, ok_cl, gp_k hG, gp_l hG, gp_r hG, gp_m hG, Option.some.injEq, exists_eq_left', exists_eq_left, forall_eq, forall_eq', true_and, and_true, if_true, if_false, true_imp_iff, false_imp_iff, not_true_eq_false, not_false_eq_true, false_and, and_false, reduceIte, reduceCtorEq, forall_const, Nat.reduceEqDiff, Nat.reduceAdd, Nat.reduceMul, Nat.reduceSub, Nat.reduceLT, Nat.reduceLeDiff, Nat.reduceMod, Nat.reduceDiv, and_self, ne_eq, exists_const, Nat.add_sub_cancel, nI_add, pk_mul, pk_sub, q_rem, q_div, q_eq, q_le, q_lt, q_cl, q_in, q_m1, q_1m, q_neg, sh1n, bitn, q_mod2, q_neq0, bq_t, bq_f, bq_t2, bq_f2, i01, i10, q_tt, q_ff, ups_e, ups_n, fil_i, fil_o, zq_if, zq_0, zq_1, if_pos, if_neg]
  refine p_clearMarks h (fun ν0 hF0 hC0 hm0 => ?_)
  refine loopA (Bd := fun a i ν K => B_X2_roundCount_8 306 a i ν K Q) (fun f a ν => Fr xM μ ν ∧ Cl ν s T tn ∧ a = nI (cntS (fun r => !exB (fun q => repS F (2 ^ s 0) q == repS F (2 ^ s 0) r) r) f) ∧ ∀ x, x < 2 ^ s 0 → Mks F (2 ^ s 0) f x (mgi ν 309 x)) (2 ^ s 0) 0 (by omega) ⟨hF0, hC0, rfl, fun x hx => Or.inr ⟨hm0 x hx, fun q hq0 => by omega⟩⟩ ?_
  rintro f a ν hf ⟨hF, hC, rfl, hm⟩ K hK
  have hH := hC.1
  have hcl := cntS_le (fun r => !exB (fun q => repS F (2 ^ s 0) q == repS F (2 ^ s 0) r) r) f
  unfold B_X2_roundCount_8
  by_cases hin : f = 2 ^ s 0
  · subst hin
    simp (disch := first | omega | (simp only [Gp_si, Gp_sl, Gp_ci, Gp_cl]; assumption)) only [li_0, li_1, li_2, li_3, li_4, li_5, li_6, li_7, li_8, li_9, li_10, li_11, li_12, li_13, li_14, li_15, li_16, li_17, li_18, li_19, li_20, li_21, li_22, li_23, li_24, li_25, li_26, li_27, li_28, li_29, li_30, li_32, li_33, li_34, li_35, li_36, li_37, li_38, li_39, li_40, li_41, li_42, li_43, li_44, li_45, li_46, li_47, li_48, li_49, li_50, li_51, li_52, li_53, li_54, li_55, li_56, li_57, li_58, li_59, li_60, li_61, li_62, li_63, li_64, li_65, li_66, li_67, li_68, li_69, li_70, li_71, li_72, li_73, li_74, li_75, li_76, li_77, li_78, li_79, li_80, li_81, li_82, li_83, li_84, li_85, li_86, li_87, li_88, li_89, li_90, li_91, li_92, li_93, li_94, li_95, li_96, li_97, li_98, li_99, li_100, li_101, li_102, li_103, li_104, li_105, li_106, li_107, li_108, li_109, li_110, li_111, li_112, li_113, li_114, li_115, li_116, li_117, li_118, li_119, li_120, li_121, li_122, li_123, li_124, li_125, li_126, li_127, li_128, li_129, li_130, li_134, li_160, li_197, li_229, li_255, li_256, li_265, li_300, li_301, li_330, li_353, li_463, li_720, li_729, li_768, li_999, li_2610, li_2807, li_2867, li_2916, li_4096, li_9999, li_10000, li_30643, li_65535, li_99999, li_1000000, gi_si, gi_sl, gi_sr, gi_ci, gi_cl, gl_si, gl_sl, gl_sr, gl_ci, gl_cl, gr_si, gr_sl, gr_sr, gr_ci, gr_cl, ln_si, ln_sl, ln_sr, ln_ci, ln_cl, ok_si, ok_sl, ok_sr, ok_ci, ok_cl, gp_k hH, gp_l hH, gp_r hH, gp_m hH, Option.some.injEq, exists_eq_left', exists_eq_left, forall_eq, forall_eq', true_and, and_true, if_true, if_false, true_imp_iff, false_imp_iff, not_true_eq_false, not_false_eq_true, false_and, and_false, reduceIte, reduceCtorEq, forall_const, Nat.reduceEqDiff, Nat.reduceAdd, Nat.reduceMul, Nat.reduceSub, Nat.reduceLT, Nat.reduceLeDiff, Nat.reduceMod, Nat.reduceDiv, and_self, ne_eq, exists_const, Nat.add_sub_cancel, nI_add, pk_mul, pk_sub, q_rem, q_div, q_eq, q_le, q_lt, q_cl, q_in, q_m1, q_1m, q_neg, sh1n, bitn, q_mod2, q_neq0, bq_t, bq_f, bq_t2, bq_f2, i01, i10, q_tt, q_ff, ups_e, ups_n, fil_i, fil_o, zq_if, zq_0, zq_1, if_pos, if_neg, e_allR hC]
    exact k ν hF hC
  · have hfN : f < 2 ^ s 0 := by omega
    simp (disch := first | omega | (simp only [Gp_si, Gp_sl, Gp_ci, Gp_cl]; assumption)) only [li_0, li_1, li_2, li_3, li_4, li_5, li_6, li_7, li_8, li_9, li_10, li_11, li_12, li_13, li_14, li_15, li_16, li_17, li_18, li_19, li_20, li_21, li_22, li_23, li_24, li_25, li_26, li_27, li_28, li_29, li_30, li_32, li_33, li_34, li_35, li_36, li_37, li_38, li_39, li_40, li_41, li_42, li_43, li_44, li_45, li_46, li_47, li_48, li_49, li_50, li_51, li_52, li_53, li_54, li_55, li_56, li_57, li_58, li_59, li_60, li_61, li_62, li_63, li_64, li_65, li_66, li_67, li_68, li_69, li_70, li_71, li_72, li_73, li_74, li_75, li_76, li_77, li_78, li_79, li_80, li_81, li_82, li_83, li_84, li_85, li_86, li_87, li_88, li_89, li_90, li_91, li_92, li_93, li_94, li_95, li_96, li_97, li_98, li_99, li_100, li_101, li_102, li_103, li_104, li_105, li_106, li_107, li_108, li_109, li_110, li_111, li_112, li_113, li_114, li_115, li_116, li_117, li_118, li_119, li_120, li_121, li_122, li_123, li_124, li_125, li_126, li_127, li_128, li_129, li_130, li_134, li_160, li_197, li_229, li_255, li_256, li_265, li_300, li_301, li_330, li_353, li_463, li_720, li_729, li_768, li_999, li_2610, li_2807, li_2867, li_2916, li_4096, li_9999, li_10000, li_30643, li_65535, li_99999, li_1000000, gi_si, gi_sl, gi_sr, gi_ci, gi_cl, gl_si, gl_sl, gl_sr, gl_ci, gl_cl, gr_si, gr_sl, gr_sr, gr_ci, gr_cl, ln_si, ln_sl, ln_sr, ln_ci, ln_cl, ok_si, ok_sl, ok_sr, ok_ci, ok_cl, gp_k hH, gp_l hH, gp_r hH, gp_m hH, Option.some.injEq, exists_eq_left', exists_eq_left, forall_eq, forall_eq', true_and, and_true, if_true, if_false, true_imp_iff, false_imp_iff, not_true_eq_false, not_false_eq_true, false_and, and_false, reduceIte, reduceCtorEq, forall_const, Nat.reduceEqDiff, Nat.reduceAdd, Nat.reduceMul, Nat.reduceSub, Nat.reduceLT, Nat.reduceLeDiff, Nat.reduceMod, Nat.reduceDiv, and_self, ne_eq, exists_const, Nat.add_sub_cancel, nI_add, pk_mul, pk_sub, q_rem, q_div, q_eq, q_le, q_lt, q_cl, q_in, q_m1, q_1m, q_neg, sh1n, bitn, q_mod2, q_neq0, bq_t, bq_f, bq_t2, bq_f2, i01, i10, q_tt, q_ff, ups_e, ups_n, fil_i, fil_o, zq_if, zq_0, zq_1, if_pos, if_neg, e_allR hC]
    refine loopA (Bd := fun a i ν L => B_X2_roundCount_24 306 _ (nI f) a i ν K L Q) (fun t a ν => Fr xM μ ν ∧ Cl ν s T tn ∧ a = nI (itF F t f) ∧ (∀ x, x < 2 ^ s 0 → Mkt F (2 ^ s 0) f t x (mgi ν 309 x)) ∧ (∀ i j, i < j → j < t → itF F i f ≠ itF F j f) ∧ (0 < t → ∀ q, q < f → ¬ ∃ n, itF F n q = f)) (2 ^ s 0) 0 (by omega) ⟨hF, hC, rfl, fun x hx => ?_, fun i j _ hj => by omega, fun x => by omega⟩ ?_
    · rcases hm x hx with c | c
      · exact Or.inl c
      · exact Or.inr (Or.inr ⟨c.1, c.2, fun i hi => by omega⟩)
    rintro t a ρ ht ⟨hF2, hC2, rfl, hmt, hd, hft⟩ L hL
    have hH2 := hC2.1
    have hb := it_lt hFl hfN t
    -- behind the way: the marks speak for f, too
    have after : (¬ (mgi ρ 309 (itF F t f) = nI 0 ∧ ∀ i, i < t → itF F i f ≠ itF F t f)) → B_X2_roundCount_66 306 (nI (cntS (fun r => !exB (fun q => repS F (2 ^ s 0) q == repS F (2 ^ s 0) r) r) f)) (nI f) (nI (itF F t f)) ρ K Q := by
      intro hstop
      -- all that f comes to is marked
      have hall : ∀ x, x < 2 ^ s 0 → Mks F (2 ^ s 0) (f + 1) x (mgi ρ 309 x) := by
        intro x hx
        rcases hmt x hx with ⟨m, c1, c2⟩ | ⟨c1, c2, i, c3, c4⟩ | ⟨c1, c2, c3⟩
        · exact Or.inl ⟨m, by omega, c2⟩
        · exact Or.inl ⟨f, by omega, c1, ⟨i, c4⟩, c2⟩
        · refine Or.inr ⟨c1, fun q hq0 => ?_⟩
          by_cases e : q = f
          · subst e
            rintro ⟨n, hn⟩
            by_cases hnt : n < t
            · exact c3 n hnt hn
            · have hback : itF F (n - t) (itF F t q) = x := by rw [← it_add, show n - t + t = n by omega, hn]
              rcases hmt _ hb with ⟨m, d1, d2, ⟨d, d3⟩, d4⟩ | ⟨d1, d2, i, d3, d4⟩ | ⟨d1, d2, d3⟩
              · exact c2 m d1 ⟨n - t + d, by rw [it_add, d3, hback]⟩
              · -- on the round, so that x was met under t
                have hper : itF F (t - i) (itF F i q) = itF F i q := by
                  rw [← it_add, show t - i + i = t by omega]
                  exact d4.symm
                have hx2 : itF F (n - i) (itF F i q) = x := by rw [← it_add, show n - i + i = n by omega, hn]
                rw [it_mod (by omega) hper] at hx2
                have := Nat.mod_lt (n - i) (show 0 < t - i by omega)
                rw [← it_add] at hx2
                exact c3 _ (by omega) hx2
              · exact hstop ⟨d1, d3⟩
          · exact c2 q (by omega)
      have go : ∀ c, (c = if exB (fun q => repS F (2 ^ s 0) q == repS F (2 ^ s 0) f) f = true then 0 else 1) → B_X2_roundCount_93 306 (nI (cntS (fun r => !exB (fun q => repS F (2 ^ s 0) q == repS F (2 ^ s 0) r) r) f + c)) (nI f) ρ K Q := by
        intro c hc
        unfold B_X2_roundCount_93
        simp (disch := first | omega | (simp only [Gp_si, Gp_sl, Gp_ci, Gp_cl]; assumption)) only [li_0, li_1, li_2, li_3, li_4, li_5, li_6, li_7, li_8, li_9, li_10, li_11, li_12, li_13, li_14, li_15, li_16, li_17, li_18, li_19, li_20, li_21, li_22, li_23, li_24, li_25, li_26, li_27, li_28, li_29, li_30, li_32, li_33, li_34, li_35, li_36, li_37, li_38, li_39, li_40, li_41, li_42, li_43, li_44, li_45, li_46, li_47, li_48, li_49, li_50, li_51, li_52, li_53, li_54, li_55, li_56, li_57, li_58, li_59, li_60, li_61, li_62, li_63, li_64, li_65, li_66, li_67, li_68, li_69, li_70, li_71, li_72, li_73, li_74, li_75, li_76, li_77, li_78, li_79, li_80, li_81, li_82, li_83, li_84, li_85, li_86, li_87, li_88, li_89, li_90, li_91, li_92, li_93, li_94, li_95, li_96, li_97, li_98, li_99, li_100, li_101, li_102, li_103, li_104, li_105, li_106, li_107, li_108, li_109, li_110, li_111, li_112, li_113, li_114, li_115, li_116, li_117, li_118, li_119, li_120, li_121, li_122, li_123, li_124, li_125, li_126, li_127, li_128, li_129, li_130, li_134, li_160, li_197, li_229, li_255, li_256, li_265, li_300, li_301, li_330, li_353, li_463, li_720, li_729, li_768, li_999, li_2610, li_2807, li_2867, li_2916, li_4096, li_9999, li_10000, li_30643, li_65535, li_99999, li_1000000, gi_si, gi_sl, gi_sr, gi_ci, gi_cl, gl_si, gl_sl, gl_sr, gl_ci, gl_cl, gr_si, gr_sl, gr_sr, gr_ci, gr_cl, ln_si, ln_sl, ln_sr, ln_ci, ln_cl, ok_si, ok_sl, ok_sr, ok_ci, ok_cl, Option.some.injEq, exists_eq_left', exists_eq_left, forall_eq, forall_eq', true_and, and_true, if_true, if_false, true_imp_iff, false_imp_iff, not_true_eq_false, not_false_eq_true, false_and, and_false, reduceIte, reduceCtorEq, forall_const, Nat.reduceEqDiff, Nat.reduceAdd, Nat.reduceMul, Nat.reduceSub, Nat.reduceLT, Nat.reduceLeDiff, Nat.reduceMod, Nat.reduceDiv, and_self, ne_eq, exists_const, Nat.add_sub_cancel, nI_add, pk_mul, pk_sub, q_rem, q_div, q_eq, q_le, q_lt, q_cl, q_in, q_m1, q_1m, q_neg, sh1n, bitn, q_mod2, q_neq0, bq_t, bq_f, bq_t2, bq_f2, i01, i10, q_tt, q_ff, ups_e, ups_n, fil_i, fil_o, zq_if, zq_0, zq_1, if_pos, if_neg]
        refine hK _ _ (by omega) ⟨hF2, hC2, ?_, hall⟩
        rw [cntS_s, hc]
        cases exB (fun q => repS F (2 ^ s 0) q == repS F (2 ^ s 0) f) f <;> rfl
      have old : ∀ m, m < f → (∃ n, itF F n m = itF F t f) → exB (fun q => repS F (2 ^ s 0) q == repS F (2 ^ s 0) f) f = true := by
        intro m hmf hr
        refine exB_yes (k := m) hmf ?_
        rw [rep_eq hFl hq (by omega) hb hr, ← rep_eq hFl hq hfN hb ⟨t, rfl⟩]
        exact beq_self_eq_true _
      have hgo0 := go 0
      have hgo1 := go 1
      rw [Nat.add_zero] at hgo0
      unfold B_X2_roundCount_66
      rcases hmt _ hb with ⟨m, d1, d2, d3, d4⟩ | ⟨d1, d2, i, d3, d4⟩ | ⟨d1, d2, d3⟩
      · have hg := hgo0 (by rw [old m d1 d3]; rfl)
        -- the mark of f itself
        rcases hmt f hfN with ⟨m2, e1, e2, e3, e4⟩ | ⟨e1, e2, i2, e3, e4⟩ | ⟨e1, e2, e3⟩
        · simp (disch := first | omega | (simp only [Gp_si, Gp_sl, Gp_ci, Gp_cl]; assumption)) only [li_0, li_1, li_2, li_3, li_4, li_5, li_6, li_7, li_8, li_9, li_10, li_11, li_12, li_13, li_14, li_15, li_16, li_17, li_18, li_19, li_20, li_21, li_22, li_23, li_24, li_25, li_26, li_27, li_28, li_29, li_30, li_32, li_33, li_34, li_35, li_36, li_37, li_38, li_39, li_40, li_41, li_42, li_43, li_44, li_45, li_46, li_47, li_48, li_49, li_50, li_51, li_52, li_53, li_54, li_55, li_56, li_57, li_58, li_59, li_60, li_61, li_62, li_63, li_64, li_65, li_66, li_67, li_68, li_69, li_70, li_71, li_72, li_73, li_74, li_75, li_76, li_77, li_78, li_79, li_80, li_81, li_82, li_83, li_84, li_85, li_86, li_87, li_88, li_89, li_90, li_91, li_92, li_93, li_94, li_95, li_96, li_97, li_98, li_99, li_100, li_101, li_102, li_103, li_104, li_105, li_106, li_107, li_108, li_109, li_110, li_111, li_112, li_113, li_114, li_115, li_116, li_117, li_118, li_119, li_120, li_121, li_122, li_123, li_124, li_125, li_126, li_127, li_128, li_129, li_130, li_134, li_160, li_197, li_229, li_255, li_256, li_265, li_300, li_301, li_330, li_353, li_463, li_720, li_729, li_768, li_999, li_2610, li_2807, li_2867, li_2916, li_4096, li_9999, li_10000, li_30643, li_65535, li_99999, li_1000000, gi_si, gi_sl, gi_sr, gi_ci, gi_cl, gl_si, gl_sl, gl_sr, gl_ci, gl_cl, gr_si, gr_sl, gr_sr, gr_ci, gr_cl, ln_si, ln_sl, ln_sr, ln_ci, ln_cl, ok_si, ok_sl, ok_sr, ok_ci, ok_cl, gp_k hH2, gp_l hH2, gp_r hH2, gp_m hH2, Option.some.injEq, exists_eq_left', exists_eq_left, forall_eq, forall_eq', true_and, and_true, if_true, if_false, true_imp_iff, false_imp_iff, not_true_eq_false, not_false_eq_true, false_and, and_false, reduceIte, reduceCtorEq, forall_const, Nat.reduceEqDiff, Nat.reduceAdd, Nat.reduceMul, Nat.reduceSub, Nat.reduceLT, Nat.reduceLeDiff, Nat.reduceMod, Nat.reduceDiv, and_self, ne_eq, exists_const, Nat.add_sub_cancel, nI_add, pk_mul, pk_sub, q_rem, q_div, q_eq, q_le, q_lt, q_cl, q_in, q_m1, q_1m, q_neg, sh1n, bitn, q_mod2, q_neq0, bq_t, bq_f, bq_t2, bq_f2, i01, i10, q_tt, q_ff, ups_e, ups_n, fil_i, fil_o, zq_if, zq_0, zq_1, if_pos, if_neg, e2]
          exact hg
        · simp (disch := first | omega | (simp only [Gp_si, Gp_sl, Gp_ci, Gp_cl]; assumption)) only [li_0, li_1, li_2, li_3, li_4, li_5, li_6, li_7, li_8, li_9, li_10, li_11, li_12, li_13, li_14, li_15, li_16, li_17, li_18, li_19, li_20, li_21, li_22, li_23, li_24, li_25, li_26, li_27, li_28, li_29, li_30, li_32, li_33, li_34, li_35, li_36, li_37, li_38, li_39, li_40, li_41, li_42, li_43, li_44, li_45, li_46, li_47, li_48, li_49, li_50, li_51, li_52, li_53, li_54, li_55, li_56, li_57, li_58, li_59, li_60, li_61, li_62, li_63, li_64, li_65, li_66, li_67, li_68, li_69, li_70, li_71, li_72, li_73, li_74, li_75, li_76, li_77, li_78, li_79, li_80, li_81, li_82, li_83, li_84, li_85, li_86, li_87, li_88, li_89, li_90, li_91, li_92, li_93, li_94, li_95, li_96, li_97, li_98, li_99, li_100, li_101, li_102, li_103, li_104, li_105, li_106, li_107, li_108, li_109, li_110, li_111, li_112, li_113, li_114, li_115, li_116, li_117, li_118, li_119, li_120, li_121, li_122, li_123, li_124, li_125, li_126, li_127, li_128, li_129, li_130, li_134, li_160, li_197, li_229, li_255, li_256, li_265, li_300, li_301, li_330, li_353, li_463, li_720, li_729, li_768, li_999, li_2610, li_2807, li_2867, li_2916, li_4096, li_9999, li_10000, li_30643, li_65535, li_99999, li_1000000, gi_si, gi_sl, gi_sr, gi_ci, gi_cl, gl_si, gl_sl, gl_sr, gl_ci, gl_cl, gr_si, gr_sl, gr_sr, gr_ci, gr_cl, ln_si, ln_sl, ln_sr, ln_ci, ln_cl, ok_si, ok_sl, ok_sr, ok_ci, ok_cl, gp_k hH2, gp_l hH2, gp_r hH2, gp_m hH2, Option.some.injEq, exists_eq_left', exists_eq_left, forall_eq, forall_eq', true_and, and_true, if_true, if_false, true_imp_iff, false_imp_iff, not_true_eq_false, not_false_eq_true, false_and, and_false, reduceIte, reduceCtorEq, forall_const, Nat.reduceEqDiff, Nat.reduceAdd, Nat.reduceMul, Nat.reduceSub, Nat.reduceLT, Nat.reduceLeDiff, Nat.reduceMod, Nat.reduceDiv, and_self, ne_eq, exists_const, Nat.add_sub_cancel, nI_add, pk_mul, pk_sub, q_rem, q_div, q_eq, q_le, q_lt, q_cl, q_in, q_m1, q_1m, q_neg, sh1n, bitn, q_mod2, q_neq0, bq_t, bq_f, bq_t2, bq_f2, i01, i10, q_tt, q_ff, ups_e, ups_n, fil_i, fil_o, zq_if, zq_0, zq_1, if_pos, if_neg, e1, d2]
          exact hg
        · simp (disch := first | omega | (simp only [Gp_si, Gp_sl, Gp_ci, Gp_cl]; assumption)) only [li_0, li_1, li_2, li_3, li_4, li_5, li_6, li_7, li_8, li_9, li_10, li_11, li_12, li_13, li_14, li_15, li_16, li_17, li_18, li_19, li_20, li_21, li_22, li_23, li_24, li_25, li_26, li_27, li_28, li_29, li_30, li_32, li_33, li_34, li_35, li_36, li_37, li_38, li_39, li_40, li_41, li_42, li_43, li_44, li_45, li_46, li_47, li_48, li_49, li_50, li_51, li_52, li_53, li_54, li_55, li_56, li_57, li_58, li_59, li_60, li_61, li_62, li_63, li_64, li_65, li_66, li_67, li_68, li_69, li_70, li_71, li_72, li_73, li_74, li_75, li_76, li_77, li_78, li_79, li_80, li_81, li_82, li_83, li_84, li_85, li_86, li_87, li_88, li_89, li_90, li_91, li_92, li_93, li_94, li_95, li_96, li_97, li_98, li_99, li_100, li_101, li_102, li_103, li_104, li_105, li_106, li_107, li_108, li_109, li_110, li_111, li_112, li_113, li_114, li_115, li_116, li_117, li_118, li_119, li_120, li_121, li_122, li_123, li_124, li_125, li_126, li_127, li_128, li_129, li_130, li_134, li_160, li_197, li_229, li_255, li_256, li_265, li_300, li_301, li_330, li_353, li_463, li_720, li_729, li_768, li_999, li_2610, li_2807, li_2867, li_2916, li_4096, li_9999, li_10000, li_30643, li_65535, li_99999, li_1000000, gi_si, gi_sl, gi_sr, gi_ci, gi_cl, gl_si, gl_sl, gl_sr, gl_ci, gl_cl, gr_si, gr_sl, gr_sr, gr_ci, gr_cl, ln_si, ln_sl, ln_sr, ln_ci, ln_cl, ok_si, ok_sl, ok_sr, ok_ci, ok_cl, gp_k hH2, gp_l hH2, gp_r hH2, gp_m hH2, Option.some.injEq, exists_eq_left', exists_eq_left, forall_eq, forall_eq', true_and, and_true, if_true, if_false, true_imp_iff, false_imp_iff, not_true_eq_false, not_false_eq_true, false_and, and_false, reduceIte, reduceCtorEq, forall_const, Nat.reduceEqDiff, Nat.reduceAdd, Nat.reduceMul, Nat.reduceSub, Nat.reduceLT, Nat.reduceLeDiff, Nat.reduceMod, Nat.reduceDiv, and_self, ne_eq, exists_const, Nat.add_sub_cancel, nI_add, pk_mul, pk_sub, q_rem, q_div, q_eq, q_le, q_lt, q_cl, q_in, q_m1, q_1m, q_neg, sh1n, bitn, q_mod2, q_neq0, bq_t, bq_f, bq_t2, bq_f2, i01, i10, q_tt, q_ff, ups_e, ups_n, fil_i, fil_o, zq_if, zq_0, zq_1, if_pos, if_neg, e1]
          exact hg
      · have hmf : mgi ρ 309 f = nI (f + 1) := by
          rcases hmt f hfN with ⟨m2, e1, e2, e3, e4⟩ | ⟨e1, e2, i2, e3, e4⟩ | ⟨e1, e2, e3⟩
          · exact absurd e3 (hft (by omega) m2 e1)
          · exact e1
          · exact absurd rfl (e3 0 (by omega))
        have hno : ¬ exB (fun q => repS F (2 ^ s 0) q == repS F (2 ^ s 0) f) f = true := by
          intro c
          obtain ⟨q, q1, q2⟩ := (exB_iff _ _).1 c
          have q3 : repS F (2 ^ s 0) q = repS F (2 ^ s 0) f := eq_of_beq q2
          obtain ⟨-, a2, ⟨a, a3⟩, -⟩ := rep_f hFl hq (show q < 2 ^ s 0 by omega)
          obtain ⟨-, b2, ⟨b, b3⟩, -⟩ := rep_f hFl hq hfN
          have hon : onC F (itF F t f) := by
            rw [← d4]
            exact it_onC d3 d4
          obtain ⟨c1, c2⟩ := reach_on b3 (rfl : itF F t f = itF F t f) hon
          exact d2 q q1 ⟨c1 + a, by rw [it_add, a3, q3, c2]⟩
        have hg := hgo1 (by rw [if_neg hno])
        simp (disch := first | omega | (simp only [Gp_si, Gp_sl, Gp_ci, Gp_cl]; assumption)) only [li_0, li_1, li_2, li_3, li_4, li_5, li_6, li_7, li_8, li_9, li_10, li_11, li_12, li_13, li_14, li_15, li_16, li_17, li_18, li_19, li_20, li_21, li_22, li_23, li_24, li_25, li_26, li_27, li_28, li_29, li_30, li_32, li_33, li_34, li_35, li_36, li_37, li_38, li_39, li_40, li_41, li_42, li_43, li_44, li_45, li_46, li_47, li_48, li_49, li_50, li_51, li_52, li_53, li_54, li_55, li_56, li_57, li_58, li_59, li_60, li_61, li_62, li_63, li_64, li_65, li_66, li_67, li_68, li_69, li_70, li_71, li_72, li_73, li_74, li_75, li_76, li_77, li_78, li_79, li_80, li_81, li_82, li_83, li_84, li_85, li_86, li_87, li_88, li_89, li_90, li_91, li_92, li_93, li_94, li_95, li_96, li_97, li_98, li_99, li_100, li_101, li_102, li_103, li_104, li_105, li_106, li_107, li_108, li_109, li_110, li_111, li_112, li_113, li_114, li_115, li_116, li_117, li_118, li_119, li_120, li_121, li_122, li_123, li_124, li_125, li_126, li_127, li_128, li_129, li_130, li_134, li_160, li_197, li_229, li_255, li_256, li_265, li_300, li_301, li_330, li_353, li_463, li_720, li_729, li_768, li_999, li_2610, li_2807, li_2867, li_2916, li_4096, li_9999, li_10000, li_30643, li_65535, li_99999, li_1000000, gi_si, gi_sl, gi_sr, gi_ci, gi_cl, gl_si, gl_sl, gl_sr, gl_ci, gl_cl, gr_si, gr_sl, gr_sr, gr_ci, gr_cl, ln_si, ln_sl, ln_sr, ln_ci, ln_cl, ok_si, ok_sl, ok_sr, ok_ci, ok_cl, gp_k hH2, gp_l hH2, gp_r hH2, gp_m hH2, Option.some.injEq, exists_eq_left', exists_eq_left, forall_eq, forall_eq', true_and, and_true, if_true, if_false, true_imp_iff, false_imp_iff, not_true_eq_false, not_false_eq_true, false_and, and_false, reduceIte, reduceCtorEq, forall_const, Nat.reduceEqDiff, Nat.reduceAdd, Nat.reduceMul, Nat.reduceSub, Nat.reduceLT, Nat.reduceLeDiff, Nat.reduceMod, Nat.reduceDiv, and_self, ne_eq, exists_const, Nat.add_sub_cancel, nI_add, pk_mul, pk_sub, q_rem, q_div, q_eq, q_le, q_lt, q_cl, q_in, q_m1, q_1m, q_neg, sh1n, bitn, q_mod2, q_neq0, bq_t, bq_f, bq_t2, bq_f2, i01, i10, q_tt, q_ff, ups_e, ups_n, fil_i, fil_o, zq_if, zq_0, zq_1, if_pos, if_neg, hmf, d1]
        exact hg
      · exact absurd ⟨d1, d3⟩ hstop
    unfold B_X2_roundCount_24
    by_cases htn : t = 2 ^ s 0
    · simp (disch := first | omega | (simp only [Gp_si, Gp_sl, Gp_ci, Gp_cl]; assumption)) only [li_0, li_1, li_2, li_3, li_4, li_5, li_6, li_7, li_8, li_9, li_10, li_11, li_12, li_13, li_14, li_15, li_16, li_17, li_18, li_19, li_20, li_21, li_22, li_23, li_24, li_25, li_26, li_27, li_28, li_29, li_30, li_32, li_33, li_34, li_35, li_36, li_37, li_38, li_39, li_40, li_41, li_42, li_43, li_44, li_45, li_46, li_47, li_48, li_49, li_50, li_51, li_52, li_53, li_54, li_55, li_56, li_57, li_58, li_59, li_60, li_61, li_62, li_63, li_64, li_65, li_66, li_67, li_68, li_69, li_70, li_71, li_72, li_73, li_74, li_75, li_76, li_77, li_78, li_79, li_80, li_81, li_82, li_83, li_84, li_85, li_86, li_87, li_88, li_89, li_90, li_91, li_92, li_93, li_94, li_95, li_96, li_97, li_98, li_99, li_100, li_101, li_102, li_103, li_104, li_105, li_106, li_107, li_108, li_109, li_110, li_111, li_112, li_113, li_114, li_115, li_116, li_117, li_118, li_119, li_120, li_121, li_122, li_123, li_124, li_125, li_126, li_127, li_128, li_129, li_130, li_134, li_160, li_197, li_229, li_255, li_256, li_265, li_300, li_301, li_330, li_353, li_463, li_720, li_729, li_768, li_999, li_2610, li_2807, li_2867, li_2916, li_4096, li_9999, li_10000, li_30643, li_65535, li_99999, li_1000000, gi_si, gi_sl, gi_sr, gi_ci, gi_cl, gl_si, gl_sl, gl_sr, gl_ci, gl_cl, gr_si, gr_sl, gr_sr, gr_ci, gr_cl, ln_si, ln_sl, ln_sr, ln_ci, ln_cl, ok_si, ok_sl, ok_sr, ok_ci, ok_cl, gp_k hH2, gp_l hH2, gp_r hH2, gp_m hH2, Option.some.injEq, exists_eq_left', exists_eq_left, forall_eq, forall_eq', true_and, and_true, if_true, if_false, true_imp_iff, false_imp_iff, not_true_eq_false, not_false_eq_true, false_and, and_false, reduceIte, reduceCtorEq, forall_const, Nat.reduceEqDiff, Nat.reduceAdd, Nat.reduceMul, Nat.reduceSub, Nat.reduceLT, Nat.reduceLeDiff, Nat.reduceMod, Nat.reduceDiv, and_self, ne_eq, exists_const, Nat.add_sub_cancel, nI_add, pk_mul, pk_sub, q_rem, q_div, q_eq, q_le, q_lt, q_cl, q_in, q_m1, q_1m, q_neg, sh1n, bitn, q_mod2, q_neq0, bq_t, bq_f, bq_t2, bq_f2, i01, i10, q_tt, q_ff, ups_e, ups_n, fil_i, fil_o, zq_if, zq_0, zq_1, if_pos, if_neg, e_allR hC2]
      refine after (fun x => ?_)
      have := pig (2 ^ s 0) (t + 1) (fun i => itF F i f) (fun i _ => it_lt hFl hfN i) (fun a b hab hb2 e => by
        by_cases e2 : b = t
        · subst e2
          exact x.2 a hab e
        · exact hd a b hab (by omega) e)
      omega
    · rcases hmt _ hb with ⟨m, d1, d2, d3, d4⟩ | ⟨d1, d2, i, d3, d4⟩ | ⟨d1, d2, d3⟩
      · simp (disch := first | omega | (simp only [Gp_si, Gp_sl, Gp_ci, Gp_cl]; assumption)) only [li_0, li_1, li_2, li_3, li_4, li_5, li_6, li_7, li_8, li_9, li_10, li_11, li_12, li_13, li_14, li_15, li_16, li_17, li_18, li_19, li_20, li_21, li_22, li_23, li_24, li_25, li_26, li_27, li_28, li_29, li_30, li_32, li_33, li_34, li_35, li_36, li_37, li_38, li_39, li_40, li_41, li_42, li_43, li_44, li_45, li_46, li_47, li_48, li_49, li_50, li_51, li_52, li_53, li_54, li_55, li_56, li_57, li_58, li_59, li_60, li_61, li_62, li_63, li_64, li_65, li_66, li_67, li_68, li_69, li_70, li_71, li_72, li_73, li_74, li_75, li_76, li_77, li_78, li_79, li_80, li_81, li_82, li_83, li_84, li_85, li_86, li_87, li_88, li_89, li_90, li_91, li_92, li_93, li_94, li_95, li_96, li_97, li_98, li_99, li_100, li_101, li_102, li_103, li_104, li_105, li_106, li_107, li_108, li_109, li_110, li_111, li_112, li_113, li_114, li_115, li_116, li_117, li_118, li_119, li_120, li_121, li_122, li_123, li_124, li_125, li_126, li_127, li_128, li_129, li_130, li_134, li_160, li_197, li_229, li_255, li_256, li_265, li_300, li_301, li_330, li_353, li_463, li_720, li_729, li_768, li_999, li_2610, li_2807, li_2867, li_2916, li_4096, li_9999, li_10000, li_30643, li_65535, li_99999, li_1000000, gi_si, gi_sl, gi_sr, gi_ci, gi_cl, gl_si, gl_sl, gl_sr, gl_ci, gl_cl, gr_si, gr_sl, gr_sr, gr_ci, gr_cl, ln_si, ln_sl, ln_sr, ln_ci, ln_cl, ok_si, ok_sl, ok_sr, ok_ci, ok_cl, gp_k hH2, gp_l hH2, gp_r hH2, gp_m hH2, Option.some.injEq, exists_eq_left', exists_eq_left, forall_eq, forall_eq', true_and, and_true, if_true, if_false, true_imp_iff, false_imp_iff, not_true_eq_false, not_false_eq_true, false_and, and_false, reduceIte, reduceCtorEq, forall_const, Nat.reduceEqDiff, Nat.reduceAdd, Nat.reduceMul, Nat.reduceSub, Nat.reduceLT, Nat.reduceLeDiff, Nat.reduceMod, Nat.reduceDiv, and_self, ne_eq, exists_const, Nat.add_sub_cancel, nI_add, pk_mul, pk_sub, q_rem, q_div, q_eq, q_le, q_lt, q_cl, q_in, q_m1, q_1m, q_neg, sh1n, bitn, q_mod2, q_neq0, bq_t, bq_f, bq_t2, bq_f2, i01, i10, q_tt, q_ff, ups_e, ups_n, fil_i, fil_o, zq_if, zq_0, zq_1, if_pos, if_neg, e_allR hC2, d2]
        refine after (fun x => ?_)
        rw [d2] at x
        exact absurd x.1 (by rw [q_eq (by omega) (by omega)]; omega)
      · simp (disch := first | omega | (simp only [Gp_si, Gp_sl, Gp_ci, Gp_cl]; assumption)) only [li_0, li_1, li_2, li_3, li_4, li_5, li_6, li_7, li_8, li_9, li_10, li_11, li_12, li_13, li_14, li_15, li_16, li_17, li_18, li_19, li_20, li_21, li_22, li_23, li_24, li_25, li_26, li_27, li_28, li_29, li_30, li_32, li_33, li_34, li_35, li_36, li_37, li_38, li_39, li_40, li_41, li_42, li_43, li_44, li_45, li_46, li_47, li_48, li_49, li_50, li_51, li_52, li_53, li_54, li_55, li_56, li_57, li_58, li_59, li_60, li_61, li_62, li_63, li_64, li_65, li_66, li_67, li_68, li_69, li_70, li_71, li_72, li_73, li_74, li_75, li_76, li_77, li_78, li_79, li_80, li_81, li_82, li_83, li_84, li_85, li_86, li_87, li_88, li_89, li_90, li_91, li_92, li_93, li_94, li_95, li_96, li_97, li_98, li_99, li_100, li_101, li_102, li_103, li_104, li_105, li_106, li_107, li_108, li_109, li_110, li_111, li_112, li_113, li_114, li_115, li_116, li_117, li_118, li_119, li_120, li_121, li_122, li_123, li_124, li_125, li_126, li_127, li_128, li_129, li_130, li_134, li_160, li_197, li_229, li_255, li_256, li_265, li_300, li_301, li_330, li_353, li_463, li_720, li_729, li_768, li_999, li_2610, li_2807, li_2867, li_2916, li_4096, li_9999, li_10000, li_30643, li_65535, li_99999, li_1000000, gi_si, gi_sl, gi_sr, gi_ci, gi_cl, gl_si, gl_sl, gl_sr, gl_ci, gl_cl, gr_si, gr_sl, gr_sr, gr_ci, gr_cl, ln_si, ln_sl, ln_sr, ln_ci, ln_cl, ok_si, ok_sl, ok_sr, ok_ci, ok_cl, gp_k hH2, gp_l hH2, gp_r hH2, gp_m hH2, Option.some.injEq, exists_eq_left', exists_eq_left, forall_eq, forall_eq', true_and, and_true, if_true, if_false, true_imp_iff, false_imp_iff, not_true_eq_false, not_false_eq_true, false_and, and_false, reduceIte, reduceCtorEq, forall_const, Nat.reduceEqDiff, Nat.reduceAdd, Nat.reduceMul, Nat.reduceSub, Nat.reduceLT, Nat.reduceLeDiff, Nat.reduceMod, Nat.reduceDiv, and_self, ne_eq, exists_const, Nat.add_sub_cancel, nI_add, pk_mul, pk_sub, q_rem, q_div, q_eq, q_le, q_lt, q_cl, q_in, q_m1, q_1m, q_neg, sh1n, bitn, q_mod2, q_neq0, bq_t, bq_f, bq_t2, bq_f2, i01, i10, q_tt, q_ff, ups_e, ups_n, fil_i, fil_o, zq_if, zq_0, zq_1, if_pos, if_neg, e_allR hC2, d1]
        refine after (fun x => ?_)
        exact x.2 i d3 d4
      · simp (disch := first | omega | (simp only [Gp_si, Gp_sl, Gp_ci, Gp_cl]; assumption)) only [li_0, li_1, li_2, li_3, li_4, li_5, li_6, li_7, li_8, li_9, li_10, li_11, li_12, li_13, li_14, li_15, li_16, li_17, li_18, li_19, li_20, li_21, li_22, li_23, li_24, li_25, li_26, li_27, li_28, li_29, li_30, li_32, li_33, li_34, li_35, li_36, li_37, li_38, li_39, li_40, li_41, li_42, li_43, li_44, li_45, li_46, li_47, li_48, li_49, li_50, li_51, li_52, li_53, li_54, li_55, li_56, li_57, li_58, li_59, li_60, li_61, li_62, li_63, li_64, li_65, li_66, li_67, li_68, li_69, li_70, li_71, li_72, li_73, li_74, li_75, li_76, li_77, li_78, li_79, li_80, li_81, li_82, li_83, li_84, li_85, li_86, li_87, li_88, li_89, li_90, li_91, li_92, li_93, li_94, li_95, li_96, li_97, li_98, li_99, li_100, li_101, li_102, li_103, li_104, li_105, li_106, li_107, li_108, li_109, li_110, li_111, li_112, li_113, li_114, li_115, li_116, li_117, li_118, li_119, li_120, li_121, li_122, li_123, li_124, li_125, li_126, li_127, li_128, li_129, li_130, li_134, li_160, li_197, li_229, li_255, li_256, li_265, li_300, li_301, li_330, li_353, li_463, li_720, li_729, li_768, li_999, li_2610, li_2807, li_2867, li_2916, li_4096, li_9999, li_10000, li_30643, li_65535, li_99999, li_1000000, gi_si, gi_sl, gi_sr, gi_ci, gi_cl, gl_si, gl_sl, gl_sr, gl_ci, gl_cl, gr_si, gr_sl, gr_sr, gr_ci, gr_cl, ln_si, ln_sl, ln_sr, ln_ci, ln_cl, ok_si, ok_sl, ok_sr, ok_ci, ok_cl, gp_k hH2, gp_l hH2, gp_r hH2, gp_m hH2, Option.some.injEq, exists_eq_left', exists_eq_left, forall_eq, forall_eq', true_and, and_true, if_true, if_false, true_imp_iff, false_imp_iff, not_true_eq_false, not_false_eq_true, false_and, and_false, reduceIte, reduceCtorEq, forall_const, Nat.reduceEqDiff, Nat.reduceAdd, Nat.reduceMul, Nat.reduceSub, Nat.reduceLT, Nat.reduceLeDiff, Nat.reduceMod, Nat.reduceDiv, and_self, ne_eq, exists_const, Nat.add_sub_cancel, nI_add, pk_mul, pk_sub, q_rem, q_div, q_eq, q_le, q_lt, q_cl, q_in, q_m1, q_1m, q_neg, sh1n, bitn, q_mod2, q_neq0, bq_t, bq_f, bq_t2, bq_f2, i01, i10, q_tt, q_ff, ups_e, ups_n, fil_i, fil_o, zq_if, zq_0, zq_1, if_pos, if_neg, e_allR hC2, d1]
        refine p_next (cl_si hC2 309 _ _ (by omega)) hb (fun ρ3 hF3 hC3 => ?_)
        rw [hFd]
        refine hL _ _ (by omega) ⟨fr_tr (fr_si hF2 309 _ _ rfl) (fr_nm hF3), hC3, rfl, fun x hx => ?_, fun i j hij hj => ?_, fun _ => ?_⟩
        · rw [hF3.2.2.2.2.1 309 _ rfl]
          by_cases e : x = itF F t f
          · subst e
            rw [gi_si, if_pos ⟨rfl, rfl⟩]
            exact Or.inr (Or.inl ⟨rfl, d2, t, by omega, rfl⟩)
          · rw [gi_si, if_neg (by omega)]
            rcases hmt x hx with c | ⟨c1, c2, i, c3, c4⟩ | ⟨c1, c2, c3⟩
            · exact Or.inl c
            · exact Or.inr (Or.inl ⟨c1, c2, i, by omega, c4⟩)
            · refine Or.inr (Or.inr ⟨c1, c2, fun i hi => ?_⟩)
              by_cases e2 : i = t
              · subst e2
                exact Ne.symm e
              · exact c3 i (by omega)
        · by_cases e2 : j = t
          · subst e2
            exact d3 i hij
          · exact hd i j hij (by omega)
        · by_cases e2 : t = 0
          · subst e2
            exact d2
          · exact hft (by omega)
theorem cnt_up {c d : Nat → Bool} {x : Nat} (h1 : c x = false) (h2 : ∀ y, d y = (c y || (y == x))) : ∀ {n : Nat}, x < n → cntS d n = cntS c n + 1
  | 0, h => by omega
  | n + 1, h => by
    rw [cntS_s, cntS_s, h2 n]
    by_cases e : x = n
    · subst e
      rw [h1, beq_self_eq_true]
      have : cntS d x = cntS c x := cntS_cong (fun y hy => by rw [h2 y, beq_false_of_ne (by omega), Bool.or_false])
      rw [this]
      rfl
    · rw [cnt_up h1 h2 (show x < n by omega), beq_false_of_ne (Ne.symm e), Bool.or_false]
      omega
/-- marks as a set -/
def mkI (M : Nat → Bool) (x : Nat) : Int32 := if M x = true then nI 1 else nI 0
theorem p_basinOf (h : Cl μ s T tn) {r0 : Nat} (hr : r0 < 2 ^ s 0) (k : ∀ ν, Fr xM μ ν → Cl ν s T tn → Q (nI (basinS (lateS s (Dx T (s 2))) (2 ^ s 0) r0)) ν) : S_X2_basinOf 306 (nI r0) μ Q := by
  have w := wf_n h.2.1
  have hq := p2_8 w.1
  have hG := h.1
  have hFl := late_f s (Dx T (s 2))
  generalize hFd : lateS s (Dx T (s 2)) = F at k hFl
  unfold S_X2_basinOf
  simp (disch := first | omega | (simp only [Gp_si, Gp_sl, Gp_ci, Gp_cl]; assumption)) only [li_0, li_1, li_2, li_3, li_4, li_5, li_6, li_7, li_8, li_9, li_10, li_11, li_12, li_13, li_14, li_15, li_16, li_17, li_18, li_19, li_20, li_21, li_22, li_23, li_24, li_25, li_26, li_27, li_28, li_29, li_30, li_32, li_33, li_34, li_35, li_36, li_37, li_38, li_39, li_40, li_41, li_42, li_43, li_44, li_45, li_46, li_47, li_48, li_49, li_50, li_51, li_52, li_53, li_54, li_55, li_56, li_57, li_58, li_59, li_60, li_61, li_62, li_63, li_64, li_65, li_66, li_67, li_68, li_69, li_70, li_71, li_72, li_73, li_74, li_75, li_76, li_77, li_78, li_79, li_80, li_81, li_82, li_83, li_84, li_85, li_86, li_87, li_88, li_89, li_90, li_91, li_92, li_93, li_94, li_95, li_96, li_97, li_98, li_99, li_100, li_101, li_102, li_103, li_104, li_105, li_106, li_107, li_108, li_109, li_110, li_111, li_112, li_113, li_114, li_115, li_116, li_117, li_118, li_119, li_120, li_121, li_122, li_123, li_124, li_125, li_126, li_127, li_128, li_129, li_130, li_134, li_160, li_197, li_229, li_255, li_256, li_265, li_300, li_301, li_330, li_353, li_463, li_720, li_729, li_768, li_999, li_2610, li_2807, li_2867, li_2916, li_4096, li_9999, li_10000, li_30643, li_65535, li_99999, li_1000000, gi_si, gi_sl, gi_sr, gi_ci, gi_cl, gl_si, gl_sl, gl_sr, gl_ci, gl_cl, gr_si, gr_sl, gr_sr, gr_ci, gr_cl, ln_si, ln_sl, ln_sr, ln_ci, ln_cl, ok_si, ok_sl, ok_sr, ok_ci, ok_cl, gp_k hG, gp_l hG, gp_r hG, gp_m hG, Option.some.injEq, exists_eq_left', exists_eq_left, forall_eq, forall_eq', true_and, and_true, if_true, if_false, true_imp_iff, false_imp_iff, not_true_eq_false, not_false_eq_true, false_and, and_false, reduceIte, reduceCtorEq, forall_const, Nat.reduceEqDiff, Nat.reduceAdd, Nat.reduceMul, Nat.reduceSub, Nat.reduceLT, Nat.reduceLeDiff, Nat.reduceMod, Nat.reduceDiv, and_self, ne_eq, exists_const, Nat.add_sub_cancel, nI_add, pk_mul, pk_sub, q_rem, q_div, q_eq, q_le, q_lt, q_cl, q_in, q_m1, q_1m, q_neg, sh1n, bitn, q_mod2, q_neq0, bq_t, bq_f, bq_t2, bq_f2, i01, i10, q_tt, q_ff, ups_e, ups_n, fil_i, fil_o, zq_if, zq_0, zq_1, if_pos, if_neg]
  refine p_clearMarks h (fun ν0 hF0 hC0 hm0 => ?_)
  have hH0 := hC0.1
  simp (disch := first | omega | (simp only [Gp_si, Gp_sl, Gp_ci, Gp_cl]; assumption)) only [li_0, li_1, li_2, li_3, li_4, li_5, li_6, li_7, li_8, li_9, li_10, li_11, li_12, li_13, li_14, li_15, li_16, li_17, li_18, li_19, li_20, li_21, li_22, li_23, li_24, li_25, li_26, li_27, li_28, li_29, li_30, li_32, li_33, li_34, li_35, li_36, li_37, li_38, li_39, li_40, li_41, li_42, li_43, li_44, li_45, li_46, li_47, li_48, li_49, li_50, li_51, li_52, li_53, li_54, li_55, li_56, li_57, li_58, li_59, li_60, li_61, li_62, li_63, li_64, li_65, li_66, li_67, li_68, li_69, li_70, li_71, li_72, li_73, li_74, li_75, li_76, li_77, li_78, li_79, li_80, li_81, li_82, li_83, li_84, li_85, li_86, li_87, li_88, li_89, li_90, li_91, li_92, li_93, li_94, li_95, li_96, li_97, li_98, li_99, li_100, li_101, li_102, li_103, li_104, li_105, li_106, li_107, li_108, li_109, li_110, li_111, li_112, li_113, li_114, li_115, li_116, li_117, li_118, li_119, li_120, li_121, li_122, li_123, li_124, li_125, li_126, li_127, li_128, li_129, li_130, li_134, li_160, li_197, li_229, li_255, li_256, li_265, li_300, li_301, li_330, li_353, li_463, li_720, li_729, li_768, li_999, li_2610, li_2807, li_2867, li_2916, li_4096, li_9999, li_10000, li_30643, li_65535, li_99999, li_1000000, gi_si, gi_sl, gi_sr, gi_ci, gi_cl, gl_si, gl_sl, gl_sr, gl_ci, gl_cl, gr_si, gr_sl, gr_sr, gr_ci, gr_cl, ln_si, ln_sl, ln_sr, ln_ci, ln_cl, ok_si, ok_sl, ok_sr, ok_ci, ok_cl, gp_k hH0, gp_l hH0, gp_r hH0, gp_m hH0, Option.some.injEq, exists_eq_left', exists_eq_left, forall_eq, forall_eq', true_and, and_true, if_true, if_false, true_imp_iff, false_imp_iff, not_true_eq_false, not_false_eq_true, false_and, and_false, reduceIte, reduceCtorEq, forall_const, Nat.reduceEqDiff, Nat.reduceAdd, Nat.reduceMul, Nat.reduceSub, Nat.reduceLT, Nat.reduceLeDiff, Nat.reduceMod, Nat.reduceDiv, and_self, ne_eq, exists_const, Nat.add_sub_cancel, nI_add, pk_mul, pk_sub, q_rem, q_div, q_eq, q_le, q_lt, q_cl, q_in, q_m1, q_1m, q_neg, sh1n, bitn, q_mod2, q_neq0, bq_t, bq_f, bq_t2, bq_f2, i01, i10, q_tt, q_ff, ups_e, ups_n, fil_i, fil_o, zq_if, zq_0, zq_1, if_pos, if_neg]
  -- what is marked comes to r0
  let J : (Nat → Bool) → Me → Prop := fun M ν => Fr xM μ ν ∧ Cl ν s T tn ∧ (∀ x, x < 2 ^ s 0 → mgi ν 309 x = mkI M x) ∧ M r0 = true ∧ ∀ x, M x = true → x < 2 ^ s 0 ∧ ∃ n, itF F n x = r0
  have done1 : ∀ M ν, J M ν → (∀ x, x < 2 ^ s 0 → M (F x) = true → M x = true) → cntS M (2 ^ s 0) = basinS F (2 ^ s 0) r0 := by
    rintro M ν ⟨-, -, -, j4, j5⟩ hcl
    refine cntS_cong (fun x hx => ?_)
    cases hM : M x with
    | true =>
      obtain ⟨-, n, hn⟩ := j5 x hM
      obtain ⟨m, m1, m2⟩ := come_lt hFl hx hn
      exact (exB_yes (k := m) m1 (by rw [m2]; exact beq_self_eq_true _)).symm
    | false =>
      refine (exB_neg (fun n hn => beq_false_of_ne (fun e => ?_))).symm
      have : ∀ n x, x < 2 ^ s 0 → itF F n x = r0 → M x = true := by
        intro n
        induction n with
        | zero =>
          intro x _ e
          have e2 : x = r0 := e
          rw [e2]
          exact j4
        | succ n ih =>
          intro x hx e
          rw [it_s] at e
          exact hcl x hx (ih (F x) (hFl x hx) e)
      rw [this n x hx e] at hM
      cases hM
  refine loop3 (Bd := fun a b c ν K => B_X2_basinOf_18 306 a b c ν K Q) (fun c g t ν n => ∃ M tt, J M ν ∧ c = nI (cntS M (2 ^ s 0)) ∧ t = nI tt ∧ tt ≤ 2 ^ s 0 ∧ n = 2 ^ s 0 - tt ∧ ((g = nI 1 ∧ tt + 1 ≤ cntS M (2 ^ s 0)) ∨ (g = nI 0 ∧ ∀ x, x < 2 ^ s 0 → M (F x) = true → M x = true))) (2 ^ s 0) ⟨fun x => x == r0, 0, ⟨fr_si hF0 309 r0 _ rfl, cl_si hC0 309 r0 _ (by omega), fun x hx => ?_, beq_self_eq_true _, fun x hx => ?_⟩, ?_, rfl, Nat.zero_le _, rfl, Or.inl ⟨rfl, ?_⟩⟩ ?_
  · show _ = (if (x == r0) = true then nI 1 else nI 0)
    by_cases e : x = r0
    · subst e
      rw [gi_si, if_pos ⟨rfl, rfl⟩, beq_self_eq_true, if_pos rfl]
    · rw [gi_si, if_neg (by omega), beq_false_of_ne e, if_neg (by decide)]
      exact hm0 x hx
  · have e : x = r0 := eq_of_beq hx
    exact ⟨by omega, 0, e⟩
  · have : cntS (fun x => x == r0) (2 ^ s 0) = 1 := by
      rw [cnt_up (c := fun _ => false) (x := r0) rfl (fun y => by simp) hr]
      have : ∀ n, cntS (fun _ => false) n = 0 := by
        intro n
        induction n with
        | zero => rfl
        | succ n ih => rw [cntS_s, ih]; rfl
      rw [this]
    rw [this]
  · have : cntS (fun x => x == r0) (2 ^ s 0) = 1 := by
      rw [cnt_up (c := fun _ => false) (x := r0) rfl (fun y => by simp) hr]
      have : ∀ n, cntS (fun _ => false) n = 0 := by
        intro n
        induction n with
        | zero => rfl
        | succ n ih => rw [cntS_s, ih]; rfl
      rw [this]
    rw [this]
    exact Nat.le_refl _
  rintro _ g _ ν n ⟨M, tt, hJ, rfl, rfl, htt, rfl, hg⟩ K hK
  obtain ⟨hF, hC, hm, j4, j5⟩ := id hJ
  have hH := hC.1
  have hcm := cntS_le M (2 ^ s 0)
  unfold B_X2_basinOf_18
  rcases hg with ⟨rfl, hg⟩ | ⟨rfl, hg⟩
  · by_cases htn : tt = 2 ^ s 0
    · omega
    · simp (disch := first | omega | (simp only [Gp_si, Gp_sl, Gp_ci, Gp_cl]; assumption)) only [li_0, li_1, li_2, li_3, li_4, li_5, li_6, li_7, li_8, li_9, li_10, li_11, li_12, li_13, li_14, li_15, li_16, li_17, li_18, li_19, li_20, li_21, li_22, li_23, li_24, li_25, li_26, li_27, li_28, li_29, li_30, li_32, li_33, li_34, li_35, li_36, li_37, li_38, li_39, li_40, li_41, li_42, li_43, li_44, li_45, li_46, li_47, li_48, li_49, li_50, li_51, li_52, li_53, li_54, li_55, li_56, li_57, li_58, li_59, li_60, li_61, li_62, li_63, li_64, li_65, li_66, li_67, li_68, li_69, li_70, li_71, li_72, li_73, li_74, li_75, li_76, li_77, li_78, li_79, li_80, li_81, li_82, li_83, li_84, li_85, li_86, li_87, li_88, li_89, li_90, li_91, li_92, li_93, li_94, li_95, li_96, li_97, li_98, li_99, li_100, li_101, li_102, li_103, li_104, li_105, li_106, li_107, li_108, li_109, li_110, li_111, li_112, li_113, li_114, li_115, li_116, li_117, li_118, li_119, li_120, li_121, li_122, li_123, li_124, li_125, li_126, li_127, li_128, li_129, li_130, li_134, li_160, li_197, li_229, li_255, li_256, li_265, li_300, li_301, li_330, li_353, li_463, li_720, li_729, li_768, li_999, li_2610, li_2807, li_2867, li_2916, li_4096, li_9999, li_10000, li_30643, li_65535, li_99999, li_1000000, gi_si, gi_sl, gi_sr, gi_ci, gi_cl, gl_si, gl_sl, gl_sr, gl_ci, gl_cl, gr_si, gr_sl, gr_sr, gr_ci, gr_cl, ln_si, ln_sl, ln_sr, ln_ci, ln_cl, ok_si, ok_sl, ok_sr, ok_ci, ok_cl, gp_k hH, gp_l hH, gp_r hH, gp_m hH, Option.some.injEq, exists_eq_left', exists_eq_left, forall_eq, forall_eq', true_and, and_true, if_true, if_false, true_imp_iff, false_imp_iff, not_true_eq_false, not_false_eq_true, false_and, and_false, reduceIte, reduceCtorEq, forall_const, Nat.reduceEqDiff, Nat.reduceAdd, Nat.reduceMul, Nat.reduceSub, Nat.reduceLT, Nat.reduceLeDiff, Nat.reduceMod, Nat.reduceDiv, and_self, ne_eq, exists_const, Nat.add_sub_cancel, nI_add, pk_mul, pk_sub, q_rem, q_div, q_eq, q_le, q_lt, q_cl, q_in, q_m1, q_1m, q_neg, sh1n, bitn, q_mod2, q_neq0, bq_t, bq_f, bq_t2, bq_f2, i01, i10, q_tt, q_ff, ups_e, ups_n, fil_i, fil_o, zq_if, zq_0, zq_1, if_pos, if_neg, e_allR hC]
      refine loop3 (Bd := fun a b c ν L => B_X2_basinOf_39 306 a b (nI tt) c ν K L Q) (fun c g r ν n => ∃ M' rr, J M' ν ∧ c = nI (cntS M' (2 ^ s 0)) ∧ r = nI rr ∧ rr ≤ 2 ^ s 0 ∧ n = 2 ^ s 0 - rr ∧ ((g = nI 1 ∧ cntS M (2 ^ s 0) < cntS M' (2 ^ s 0)) ∨ (g = nI 0 ∧ cntS M (2 ^ s 0) = cntS M' (2 ^ s 0) ∧ ∀ x, x < rr → M' (F x) = true → M' x = true))) (2 ^ s 0) ⟨M, 0, hJ, rfl, rfl, Nat.zero_le _, rfl, Or.inr ⟨rfl, rfl, fun x hx => by omega⟩⟩ ?_
      clear hJ hF hC hm j4 j5 hH
      rintro _ g _ ν n ⟨M', rr, hJ, rfl, rfl, hrr, rfl, hg2⟩ L hL
      obtain ⟨hF, hC, hm, j4, j5⟩ := id hJ
      have hH := hC.1
      have hcm2 := cntS_le M' (2 ^ s 0)
      unfold B_X2_basinOf_39 B_X2_basinOf_89
      by_cases hrn : rr = 2 ^ s 0
      · simp (disch := first | omega | (simp only [Gp_si, Gp_sl, Gp_ci, Gp_cl]; assumption)) only [li_0, li_1, li_2, li_3, li_4, li_5, li_6, li_7, li_8, li_9, li_10, li_11, li_12, li_13, li_14, li_15, li_16, li_17, li_18, li_19, li_20, li_21, li_22, li_23, li_24, li_25, li_26, li_27, li_28, li_29, li_30, li_32, li_33, li_34, li_35, li_36, li_37, li_38, li_39, li_40, li_41, li_42, li_43, li_44, li_45, li_46, li_47, li_48, li_49, li_50, li_51, li_52, li_53, li_54, li_55, li_56, li_57, li_58, li_59, li_60, li_61, li_62, li_63, li_64, li_65, li_66, li_67, li_68, li_69, li_70, li_71, li_72, li_73, li_74, li_75, li_76, li_77, li_78, li_79, li_80, li_81, li_82, li_83, li_84, li_85, li_86, li_87, li_88, li_89, li_90, li_91, li_92, li_93, li_94, li_95, li_96, li_97, li_98, li_99, li_100, li_101, li_102, li_103, li_104, li_105, li_106, li_107, li_108, li_109, li_110, li_111, li_112, li_113, li_114, li_115, li_116, li_117, li_118, li_119, li_120, li_121, li_122, li_123, li_124, li_125, li_126, li_127, li_128, li_129, li_130, li_134, li_160, li_197, li_229, li_255, li_256, li_265, li_300, li_301, li_330, li_353, li_463, li_720, li_729, li_768, li_999, li_2610, li_2807, li_2867, li_2916, li_4096, li_9999, li_10000, li_30643, li_65535, li_99999, li_1000000, gi_si, gi_sl, gi_sr, gi_ci, gi_cl, gl_si, gl_sl, gl_sr, gl_ci, gl_cl, gr_si, gr_sl, gr_sr, gr_ci, gr_cl, ln_si, ln_sl, ln_sr, ln_ci, ln_cl, ok_si, ok_sl, ok_sr, ok_ci, ok_cl, gp_k hH, gp_l hH, gp_r hH, gp_m hH, Option.some.injEq, exists_eq_left', exists_eq_left, forall_eq, forall_eq', true_and, and_true, if_true, if_false, true_imp_iff, false_imp_iff, not_true_eq_false, not_false_eq_true, false_and, and_false, reduceIte, reduceCtorEq, forall_const, Nat.reduceEqDiff, Nat.reduceAdd, Nat.reduceMul, Nat.reduceSub, Nat.reduceLT, Nat.reduceLeDiff, Nat.reduceMod, Nat.reduceDiv, and_self, ne_eq, exists_const, Nat.add_sub_cancel, nI_add, pk_mul, pk_sub, q_rem, q_div, q_eq, q_le, q_lt, q_cl, q_in, q_m1, q_1m, q_neg, sh1n, bitn, q_mod2, q_neq0, bq_t, bq_f, bq_t2, bq_f2, i01, i10, q_tt, q_ff, ups_e, ups_n, fil_i, fil_o, zq_if, zq_0, zq_1, if_pos, if_neg, e_allR hC]
        refine hK _ _ _ _ (2 ^ s 0 - (tt + 1)) (by omega) ⟨M', tt + 1, hJ, rfl, rfl, by omega, rfl, ?_⟩
        rcases hg2 with ⟨rfl, x⟩ | ⟨rfl, x, y⟩
        · exact Or.inl ⟨rfl, by omega⟩
        · exact Or.inr ⟨rfl, fun z hz => y z (by omega)⟩
      · have hrr2 : rr < 2 ^ s 0 := by omega
        have hmr := hm rr hrr2
        unfold mkI at hmr
        by_cases c : M' rr = true
        · rw [if_pos c] at hmr
          simp (disch := first | omega | (simp only [Gp_si, Gp_sl, Gp_ci, Gp_cl]; assumption)) only [li_0, li_1, li_2, li_3, li_4, li_5, li_6, li_7, li_8, li_9, li_10, li_11, li_12, li_13, li_14, li_15, li_16, li_17, li_18, li_19, li_20, li_21, li_22, li_23, li_24, li_25, li_26, li_27, li_28, li_29, li_30, li_32, li_33, li_34, li_35, li_36, li_37, li_38, li_39, li_40, li_41, li_42, li_43, li_44, li_45, li_46, li_47, li_48, li_49, li_50, li_51, li_52, li_53, li_54, li_55, li_56, li_57, li_58, li_59, li_60, li_61, li_62, li_63, li_64, li_65, li_66, li_67, li_68, li_69, li_70, li_71, li_72, li_73, li_74, li_75, li_76, li_77, li_78, li_79, li_80, li_81, li_82, li_83, li_84, li_85, li_86, li_87, li_88, li_89, li_90, li_91, li_92, li_93, li_94, li_95, li_96, li_97, li_98, li_99, li_100, li_101, li_102, li_103, li_104, li_105, li_106, li_107, li_108, li_109, li_110, li_111, li_112, li_113, li_114, li_115, li_116, li_117, li_118, li_119, li_120, li_121, li_122, li_123, li_124, li_125, li_126, li_127, li_128, li_129, li_130, li_134, li_160, li_197, li_229, li_255, li_256, li_265, li_300, li_301, li_330, li_353, li_463, li_720, li_729, li_768, li_999, li_2610, li_2807, li_2867, li_2916, li_4096, li_9999, li_10000, li_30643, li_65535, li_99999, li_1000000, gi_si, gi_sl, gi_sr, gi_ci, gi_cl, gl_si, gl_sl, gl_sr, gl_ci, gl_cl, gr_si, gr_sl, gr_sr, gr_ci, gr_cl, ln_si, ln_sl, ln_sr, ln_ci, ln_cl, ok_si, ok_sl, ok_sr, ok_ci, ok_cl, gp_k hH, gp_l hH, gp_r hH, gp_m hH, Option.some.injEq, exists_eq_left', exists_eq_left, forall_eq, forall_eq', true_and, and_true, if_true, if_false, true_imp_iff, false_imp_iff, not_true_eq_false, not_false_eq_true, false_and, and_false, reduceIte, reduceCtorEq, forall_const, Nat.reduceEqDiff, Nat.reduceAdd, Nat.reduceMul, Nat.reduceSub, Nat.reduceLT, Nat.reduceLeDiff, Nat.reduceMod, Nat.reduceDiv, and_self, ne_eq, exists_const, Nat.add_sub_cancel, nI_add, pk_mul, pk_sub, q_rem, q_div, q_eq, q_le, q_lt, q_cl, q_in, q_m1, q_1m, q_neg, sh1n, bitn, q_mod2, q_neq0, bq_t, bq_f, bq_t2, bq_f2, i01, i10, q_tt, q_ff, ups_e, ups_n, fil_i, fil_o, zq_if, zq_0, zq_1, if_pos, if_neg, e_allR hC, hmr]
          refine hL _ _ _ _ (2 ^ s 0 - (rr + 1)) (by omega) ⟨M', rr + 1, hJ, rfl, rfl, by omega, rfl, ?_⟩
          rcases hg2 with ⟨rfl, x⟩ | ⟨rfl, x, y⟩
          · exact Or.inl ⟨rfl, x⟩
          · refine Or.inr ⟨rfl, x, fun z hz hz2 => ?_⟩
            by_cases e : z = rr
            · subst e
              exact c
            · exact y z (by omega) hz2
        · rw [if_neg c] at hmr
          simp (disch := first | omega | (simp only [Gp_si, Gp_sl, Gp_ci, Gp_cl]; assumption)) only [li_0, li_1, li_2, li_3, li_4, li_5, li_6, li_7, li_8, li_9, li_10, li_11, li_12, li_13, li_14, li_15, li_16, li_17, li_18, li_19, li_20, li_21, li_22, li_23, li_24, li_25, li_26, li_27, li_28, li_29, li_30, li_32, li_33, li_34, li_35, li_36, li_37, li_38, li_39, li_40, li_41, li_42, li_43, li_44, li_45, li_46, li_47, li_48, li_49, li_50, li_51, li_52, li_53, li_54, li_55, li_56, li_57, li_58, li_59, li_60, li_61, li_62, li_63, li_64, li_65, li_66, li_67, li_68, li_69, li_70, li_71, li_72, li_73, li_74, li_75, li_76, li_77, li_78, li_79, li_80, li_81, li_82, li_83, li_84, li_85, li_86, li_87, li_88, li_89, li_90, li_91, li_92, li_93, li_94, li_95, li_96, li_97, li_98, li_99, li_100, li_101, li_102, li_103, li_104, li_105, li_106, li_107, li_108, li_109, li_110, li_111, li_112, li_113, li_114, li_115, li_116, li_117, li_118, li_119, li_120, li_121, li_122, li_123, li_124, li_125, li_126, li_127, li_128, li_129, li_130, li_134, li_160, li_197, li_229, li_255, li_256, li_265, li_300, li_301, li_330, li_353, li_463, li_720, li_729, li_768, li_999, li_2610, li_2807, li_2867, li_2916, li_4096, li_9999, li_10000, li_30643, li_65535, li_99999, li_1000000, gi_si, gi_sl, gi_sr, gi_ci, gi_cl, gl_si, gl_sl, gl_sr, gl_ci, gl_cl, gr_si, gr_sl, gr_sr, gr_ci, gr_cl, ln_si, ln_sl, ln_sr, ln_ci, ln_cl, ok_si, ok_sl, ok_sr, ok_ci, ok_cl, gp_k hH, gp_l hH, gp_r hH, gp_m hH, Option.some.injEq, exists_eq_left', exists_eq_left, forall_eq, forall_eq', true_and, and_true, if_true, if_false, true_imp_iff, false_imp_iff, not_true_eq_false, not_false_eq_true, false_and, and_false, reduceIte, reduceCtorEq, forall_const, Nat.reduceEqDiff, Nat.reduceAdd, Nat.reduceMul, Nat.reduceSub, Nat.reduceLT, Nat.reduceLeDiff, Nat.reduceMod, Nat.reduceDiv, and_self, ne_eq, exists_const, Nat.add_sub_cancel, nI_add, pk_mul, pk_sub, q_rem, q_div, q_eq, q_le, q_lt, q_cl, q_in, q_m1, q_1m, q_neg, sh1n, bitn, q_mod2, q_neq0, bq_t, bq_f, bq_t2, bq_f2, i01, i10, q_tt, q_ff, ups_e, ups_n, fil_i, fil_o, zq_if, zq_0, zq_1, if_pos, if_neg, e_allR hC, hmr]
          refine p_next hC hrr2 (fun ρ hF2 hC2 => ?_)
          rw [hFd]
          have hH2 := hC2.1
          have hbF := hFl rr hrr2
          have hm2 : ∀ x, x < 2 ^ s 0 → mgi ρ 309 x = mkI M' x := fun x hx => (hF2.2.2.2.2.1 309 x rfl).trans (hm x hx)
          have hmf := hm2 _ hbF
          have hF3 := fr_tr hF (fr_nm hF2)
          unfold mkI at hmf
          by_cases d : M' (F rr) = true
          · rw [if_pos d] at hmf
            simp (disch := first | omega | (simp only [Gp_si, Gp_sl, Gp_ci, Gp_cl]; assumption)) only [li_0, li_1, li_2, li_3, li_4, li_5, li_6, li_7, li_8, li_9, li_10, li_11, li_12, li_13, li_14, li_15, li_16, li_17, li_18, li_19, li_20, li_21, li_22, li_23, li_24, li_25, li_26, li_27, li_28, li_29, li_30, li_32, li_33, li_34, li_35, li_36, li_37, li_38, li_39, li_40, li_41, li_42, li_43, li_44, li_45, li_46, li_47, li_48, li_49, li_50, li_51, li_52, li_53, li_54, li_55, li_56, li_57, li_58, li_59, li_60, li_61, li_62, li_63, li_64, li_65, li_66, li_67, li_68, li_69, li_70, li_71, li_72, li_73, li_74, li_75, li_76, li_77, li_78, li_79, li_80, li_81, li_82, li_83, li_84, li_85, li_86, li_87, li_88, li_89, li_90, li_91, li_92, li_93, li_94, li_95, li_96, li_97, li_98, li_99, li_100, li_101, li_102, li_103, li_104, li_105, li_106, li_107, li_108, li_109, li_110, li_111, li_112, li_113, li_114, li_115, li_116, li_117, li_118, li_119, li_120, li_121, li_122, li_123, li_124, li_125, li_126, li_127, li_128, li_129, li_130, li_134, li_160, li_197, li_229, li_255, li_256, li_265, li_300, li_301, li_330, li_353, li_463, li_720, li_729, li_768, li_999, li_2610, li_2807, li_2867, li_2916, li_4096, li_9999, li_10000, li_30643, li_65535, li_99999, li_1000000, gi_si, gi_sl, gi_sr, gi_ci, gi_cl, gl_si, gl_sl, gl_sr, gl_ci, gl_cl, gr_si, gr_sl, gr_sr, gr_ci, gr_cl, ln_si, ln_sl, ln_sr, ln_ci, ln_cl, ok_si, ok_sl, ok_sr, ok_ci, ok_cl, gp_k hH2, gp_l hH2, gp_r hH2, gp_m hH2, Option.some.injEq, exists_eq_left', exists_eq_left, forall_eq, forall_eq', true_and, and_true, if_true, if_false, true_imp_iff, false_imp_iff, not_true_eq_false, not_false_eq_true, false_and, and_false, reduceIte, reduceCtorEq, forall_const, Nat.reduceEqDiff, Nat.reduceAdd, Nat.reduceMul, Nat.reduceSub, Nat.reduceLT, Nat.reduceLeDiff, Nat.reduceMod, Nat.reduceDiv, and_self, ne_eq, exists_const, Nat.add_sub_cancel, nI_add, pk_mul, pk_sub, q_rem, q_div, q_eq, q_le, q_lt, q_cl, q_in, q_m1, q_1m, q_neg, sh1n, bitn, q_mod2, q_neq0, bq_t, bq_f, bq_t2, bq_f2, i01, i10, q_tt, q_ff, ups_e, ups_n, fil_i, fil_o, zq_if, zq_0, zq_1, if_pos, if_neg, hmf]
            have hcu : cntS (fun y => M' y || (y == rr)) (2 ^ s 0) = cntS M' (2 ^ s 0) + 1 := cnt_up (by simpa using c) (fun y => rfl) hrr2
            refine hL _ _ _ _ (2 ^ s 0 - (rr + 1)) (by omega) ⟨fun y => M' y || (y == rr), rr + 1, ⟨fr_si hF3 309 _ _ rfl, cl_si hC2 309 _ _ (by omega), fun x hx => ?_, ?_, fun x hx => ?_⟩, by rw [hcu], rfl, by omega, rfl, Or.inl ⟨rfl, ?_⟩⟩
            · show _ = (if (M' x || (x == rr)) = true then nI 1 else nI 0)
              by_cases e : x = rr
              · subst e
                rw [gi_si, if_pos ⟨rfl, rfl⟩, beq_self_eq_true, Bool.or_true, if_pos rfl]
              · rw [gi_si, if_neg (by omega), beq_false_of_ne e, Bool.or_false]
                exact hm2 x hx
            · show (M' r0 || (r0 == rr)) = true
              rw [j4]
              rfl
            · by_cases e : x = rr
              · subst e
                obtain ⟨-, n, hn⟩ := j5 _ d
                exact ⟨hrr2, n + 1, by rw [it_s]; exact hn⟩
              · have hx2 : (M' x || (x == rr)) = true := hx
                rw [beq_false_of_ne e, Bool.or_false] at hx2
                exact j5 x hx2
            · rcases hg2 with ⟨-, x⟩ | ⟨-, x, y⟩ <;> omega
          · rw [if_neg d] at hmf
            simp (disch := first | omega | (simp only [Gp_si, Gp_sl, Gp_ci, Gp_cl]; assumption)) only [li_0, li_1, li_2, li_3, li_4, li_5, li_6, li_7, li_8, li_9, li_10, li_11, li_12, li_13, li_14, li_15, li_16, li_17, li_18, li_19, li_20, li_21, li_22, li_23, li_24, li_25, li_26, li_27, li_28, li_29, li_30, li_32, li_33, li_34, li_35, li_36, li_37, li_38, li_39, li_40, li_41, li_42, li_43, li_44, li_45, li_46, li_47, li_48, li_49, li_50, li_51, li_52, li_53, li_54, li_55, li_56, li_57, li_58, li_59, li_60, li_61, li_62, li_63, li_64, li_65, li_66, li_67, li_68, li_69, li_70, li_71, li_72, li_73, li_74, li_75, li_76, li_77, li_78, li_79, li_80, li_81, li_82, li_83, li_84, li_85, li_86, li_87, li_88, li_89, li_90, li_91, li_92, li_93, li_94, li_95, li_96, li_97, li_98, li_99, li_100, li_101, li_102, li_103, li_104, li_105, li_106, li_107, li_108, li_109, li_110, li_111, li_112, li_113, li_114, li_115, li_116, li_117, li_118, li_119, li_120, li_121, li_122, li_123, li_124, li_125, li_126, li_127, li_128, li_129, li_130, li_134, li_160, li_197, li_229, li_255, li_256, li_265, li_300, li_301, li_330, li_353, li_463, li_720, li_729, li_768, li_999, li_2610, li_2807, li_2867, li_2916, li_4096, li_9999, li_10000, li_30643, li_65535, li_99999, li_1000000, gi_si, gi_sl, gi_sr, gi_ci, gi_cl, gl_si, gl_sl, gl_sr, gl_ci, gl_cl, gr_si, gr_sl, gr_sr, gr_ci, gr_cl, ln_si, ln_sl, ln_sr, ln_ci, ln_cl, ok_si, ok_sl, ok_sr, ok_ci, ok_cl, gp_k hH2, gp_l hH2, gp_r hH2, gp_m hH2, Option.some.injEq, exists_eq_left', exists_eq_left, forall_eq, forall_eq', true_and, and_true, if_true, if_false, true_imp_iff, false_imp_iff, not_true_eq_false, not_false_eq_true, false_and, and_false, reduceIte, reduceCtorEq, forall_const, Nat.reduceEqDiff, Nat.reduceAdd, Nat.reduceMul, Nat.reduceSub, Nat.reduceLT, Nat.reduceLeDiff, Nat.reduceMod, Nat.reduceDiv, and_self, ne_eq, exists_const, Nat.add_sub_cancel, nI_add, pk_mul, pk_sub, q_rem, q_div, q_eq, q_le, q_lt, q_cl, q_in, q_m1, q_1m, q_neg, sh1n, bitn, q_mod2, q_neq0, bq_t, bq_f, bq_t2, bq_f2, i01, i10, q_tt, q_ff, ups_e, ups_n, fil_i, fil_o, zq_if, zq_0, zq_1, if_pos, if_neg, hmf]
            refine hL _ _ _ _ (2 ^ s 0 - (rr + 1)) (by omega) ⟨M', rr + 1, ⟨hF3, hC2, hm2, j4, j5⟩, rfl, rfl, by omega, rfl, ?_⟩
            rcases hg2 with ⟨rfl, x⟩ | ⟨rfl, x, y⟩
            · exact Or.inl ⟨rfl, x⟩
            · refine Or.inr ⟨rfl, x, fun z hz hz2 => ?_⟩
              by_cases e : z = rr
              · subst e
                exact absurd hz2 d
              · exact y z (by omega) hz2
  · have hk := k ν hF hC
    rw [← done1 M ν hJ hg] at hk
    by_cases htn : tt = 2 ^ s 0
    · simp (disch := first | omega | (simp only [Gp_si, Gp_sl, Gp_ci, Gp_cl]; assumption)) only [li_0, li_1, li_2, li_3, li_4, li_5, li_6, li_7, li_8, li_9, li_10, li_11, li_12, li_13, li_14, li_15, li_16, li_17, li_18, li_19, li_20, li_21, li_22, li_23, li_24, li_25, li_26, li_27, li_28, li_29, li_30, li_32, li_33, li_34, li_35, li_36, li_37, li_38, li_39, li_40, li_41, li_42, li_43, li_44, li_45, li_46, li_47, li_48, li_49, li_50, li_51, li_52, li_53, li_54, li_55, li_56, li_57, li_58, li_59, li_60, li_61, li_62, li_63, li_64, li_65, li_66, li_67, li_68, li_69, li_70, li_71, li_72, li_73, li_74, li_75, li_76, li_77, li_78, li_79, li_80, li_81, li_82, li_83, li_84, li_85, li_86, li_87, li_88, li_89, li_90, li_91, li_92, li_93, li_94, li_95, li_96, li_97, li_98, li_99, li_100, li_101, li_102, li_103, li_104, li_105, li_106, li_107, li_108, li_109, li_110, li_111, li_112, li_113, li_114, li_115, li_116, li_117, li_118, li_119, li_120, li_121, li_122, li_123, li_124, li_125, li_126, li_127, li_128, li_129, li_130, li_134, li_160, li_197, li_229, li_255, li_256, li_265, li_300, li_301, li_330, li_353, li_463, li_720, li_729, li_768, li_999, li_2610, li_2807, li_2867, li_2916, li_4096, li_9999, li_10000, li_30643, li_65535, li_99999, li_1000000, gi_si, gi_sl, gi_sr, gi_ci, gi_cl, gl_si, gl_sl, gl_sr, gl_ci, gl_cl, gr_si, gr_sl, gr_sr, gr_ci, gr_cl, ln_si, ln_sl, ln_sr, ln_ci, ln_cl, ok_si, ok_sl, ok_sr, ok_ci, ok_cl, gp_k hH, gp_l hH, gp_r hH, gp_m hH, Option.some.injEq, exists_eq_left', exists_eq_left, forall_eq, forall_eq', true_and, and_true, if_true, if_false, true_imp_iff, false_imp_iff, not_true_eq_false, not_false_eq_true, false_and, and_false, reduceIte, reduceCtorEq, forall_const, Nat.reduceEqDiff, Nat.reduceAdd, Nat.reduceMul, Nat.reduceSub, Nat.reduceLT, Nat.reduceLeDiff, Nat.reduceMod, Nat.reduceDiv, and_self, ne_eq, exists_const, Nat.add_sub_cancel, nI_add, pk_mul, pk_sub, q_rem, q_div, q_eq, q_le, q_lt, q_cl, q_in, q_m1, q_1m, q_neg, sh1n, bitn, q_mod2, q_neq0, bq_t, bq_f, bq_t2, bq_f2, i01, i10, q_tt, q_ff, ups_e, ups_n, fil_i, fil_o, zq_if, zq_0, zq_1, if_pos, if_neg, e_allR hC]
      exact hk
    · simp (disch := first | omega | (simp only [Gp_si, Gp_sl, Gp_ci, Gp_cl]; assumption)) only [li_0, li_1, li_2, li_3, li_4, li_5, li_6, li_7, li_8, li_9, li_10, li_11, li_12, li_13, li_14, li_15, li_16, li_17, li_18, li_19, li_20, li_21, li_22, li_23, li_24, li_25, li_26, li_27, li_28, li_29, li_30, li_32, li_33, li_34, li_35, li_36, li_37, li_38, li_39, li_40, li_41, li_42, li_43, li_44, li_45, li_46, li_47, li_48, li_49, li_50, li_51, li_52, li_53, li_54, li_55, li_56, li_57, li_58, li_59, li_60, li_61, li_62, li_63, li_64, li_65, li_66, li_67, li_68, li_69, li_70, li_71, li_72, li_73, li_74, li_75, li_76, li_77, li_78, li_79, li_80, li_81, li_82, li_83, li_84, li_85, li_86, li_87, li_88, li_89, li_90, li_91, li_92, li_93, li_94, li_95, li_96, li_97, li_98, li_99, li_100, li_101, li_102, li_103, li_104, li_105, li_106, li_107, li_108, li_109, li_110, li_111, li_112, li_113, li_114, li_115, li_116, li_117, li_118, li_119, li_120, li_121, li_122, li_123, li_124, li_125, li_126, li_127, li_128, li_129, li_130, li_134, li_160, li_197, li_229, li_255, li_256, li_265, li_300, li_301, li_330, li_353, li_463, li_720, li_729, li_768, li_999, li_2610, li_2807, li_2867, li_2916, li_4096, li_9999, li_10000, li_30643, li_65535, li_99999, li_1000000, gi_si, gi_sl, gi_sr, gi_ci, gi_cl, gl_si, gl_sl, gl_sr, gl_ci, gl_cl, gr_si, gr_sl, gr_sr, gr_ci, gr_cl, ln_si, ln_sl, ln_sr, ln_ci, ln_cl, ok_si, ok_sl, ok_sr, ok_ci, ok_cl, gp_k hH, gp_l hH, gp_r hH, gp_m hH, Option.some.injEq, exists_eq_left', exists_eq_left, forall_eq, forall_eq', true_and, and_true, if_true, if_false, true_imp_iff, false_imp_iff, not_true_eq_false, not_false_eq_true, false_and, and_false, reduceIte, reduceCtorEq, forall_const, Nat.reduceEqDiff, Nat.reduceAdd, Nat.reduceMul, Nat.reduceSub, Nat.reduceLT, Nat.reduceLeDiff, Nat.reduceMod, Nat.reduceDiv, and_self, ne_eq, exists_const, Nat.add_sub_cancel, nI_add, pk_mul, pk_sub, q_rem, q_div, q_eq, q_le, q_lt, q_cl, q_in, q_m1, q_1m, q_neg, sh1n, bitn, q_mod2, q_neq0, bq_t, bq_f, bq_t2, bq_f2, i01, i10, q_tt, q_ff, ups_e, ups_n, fil_i, fil_o, zq_if, zq_0, zq_1, if_pos, if_neg, e_allR hC]
      exact hk
end CD2
