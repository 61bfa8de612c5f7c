/-! the reference's tokens -/
def pkN (f : Nat → Nat) : Nat → Nat
  | 0 => 0
  | n + 1 => pkN f n * 256 + f n
theorem pkN_s (f : Nat → Nat) (n : Nat) : pkN f (n + 1) = pkN f n * 256 + f n := rfl
theorem pkN_lt {f : Nat → Nat} : ∀ {n : Nat}, (∀ j, j < n → f j < 256) → pkN f n < 256 ^ n
  | 0, _ => by show 0 < 1; omega
  | n + 1, h => by
    have ih := pkN_lt (f := f) (n := n) (fun j hj => h j (by omega))
    have := h n (by omega)
    rw [pkN_s, Nat.pow_succ]
    omega
theorem pkN_ge {f : Nat → Nat} (h0 : 1 ≤ f 0) : ∀ n, 256 ^ n ≤ pkN f (n + 1)
  | 0 => by show 1 ≤ 0 * 256 + f 0; omega
  | n + 1 => by
    have ih := pkN_ge h0 n
    rw [pkN_s, Nat.pow_succ]
    omega
theorem pkN_e {f g : Nat → Nat} : ∀ {n : Nat}, (∀ j, j < n → f j < 256) → (∀ j, j < n → g j < 256) → pkN f n = pkN g n → ∀ j, j < n → f j = g j
  | 0, _, _, _ => fun j hj => absurd hj (by omega)
  | n + 1, h1, h2, h => by
    rw [pkN_s, pkN_s] at h
    have a := h1 n (by omega)
    have b := h2 n (by omega)
    have e : pkN f n = pkN g n ∧ f n = g n := by omega
    intro j hj
    by_cases c : j = n
    · rw [c]; exact e.2
    · exact pkN_e (fun j hj => h1 j (by omega)) (fun j hj => h2 j (by omega)) e.1 j (by omega)
theorem pkN_c {f g : Nat → Nat} : ∀ {n : Nat}, (∀ j, j < n → f j = g j) → pkN f n = pkN g n
  | 0, _ => rfl
  | n + 1, h => by rw [pkN_s, pkN_s, pkN_c (fun j hj => h j (by omega)), h n (by omega)]
/-- the long that j letters make -/
def wdV (b : Nat → Nat) (p j : Nat) : Nat := if j ≤ 7 then pkN (fun q => b (p + q)) j else 1152921504606846976
def tvM (b : Nat → Nat) (L p : Nat) : Nat := if L ≤ p then 0 else if isD (b p) = true then 1 else if isLt (b p) = true then 2 else if tkK b L p = 41 then 4 else if tkK b L p = 42 then 5 else if b p = 58 ∨ sgN (b p) ≠ 52 then b p else 3
/-- the reference stands at the token at p -/
def MT (μ : Me) (b : Nat → Nat) (L p : Nat) : Prop := p ≤ L ∧ mgi μ 314 8 = nI p ∧ mgi μ 314 7 = nI (tkE b L p) ∧ mgi μ 314 9 = nI (tvM b L p) ∧ (p < L → isD (b p) = true → ∃ m, mgi μ 314 10 = nI m ∧ m ≤ 1000000 ∧ (if m < 10000 then m else 10000) = tkN b L p) ∧ (p < L → isD (b p) = false → isLt (b p) = true → mgl μ 314 11 = lN (wdV b p (tkE b L p - p)))
def Fn (μ ν : Me) : Prop := mnn ν = mnn μ ∧ (∀ a, mkd ν a = mkd μ a) ∧ (∀ a, mln ν a = mln μ a) ∧ (∀ a q, mgr ν a q = mgr μ a q) ∧ (∀ a q, (a = 314 → q < 7 ∨ 10 < q) → mgi ν a q = mgi μ a q) ∧ (∀ a q, a ≠ 314 → mgl ν a q = mgl μ a q)
theorem fn_rf (μ : Me) : Fn μ μ := ⟨rfl, fun _ => rfl, fun _ => rfl, fun _ _ => rfl, fun _ _ _ => rfl, fun _ _ _ => rfl⟩
theorem fn_tr {μ ν ρ : Me} (h : Fn μ ν) (k : Fn ν ρ) : Fn μ ρ := ⟨k.1.trans h.1, fun a => (k.2.1 a).trans (h.2.1 a), fun a => (k.2.2.1 a).trans (h.2.2.1 a), fun a q => (k.2.2.2.1 a q).trans (h.2.2.2.1 a q), fun a q x => (k.2.2.2.2.1 a q x).trans (h.2.2.2.2.1 a q x), fun a q x => (k.2.2.2.2.2 a q x).trans (h.2.2.2.2.2 a q x)⟩
theorem fn_gp {μ ν : Me} (hG : Gp μ) (h : Fn μ ν) : Gp ν := Gp_x hG (Nat.le_of_eq h.1.symm) (fun a _ => ⟨h.2.1 a, h.2.2.1 a⟩) (fun a q _ _ _ _ _ _ _ => h.2.2.2.1 a q)
theorem fn_si {μ ν : Me} (h : Fn μ ν) (k : Nat) (v : Int32) (hk : 7 ≤ k ∧ k ≤ 10) : Fn μ (msi ν 314 k v) := fn_tr h ⟨rfl, fun _ => rfl, fun _ => rfl, fun _ _ => rfl, fun a q x => by rw [gi_si, if_neg (by omega)], fun _ _ _ => rfl⟩
theorem fn_sl {μ ν : Me} (h : Fn μ ν) (k : Nat) (v : Int64) : Fn μ (msl ν 314 k v) := fn_tr h ⟨rfl, fun _ => rfl, fun _ => rfl, fun _ _ => rfl, fun _ _ _ => rfl, fun a q x => by rw [gl_sl, if_neg (fun y => x y.1)]⟩
theorem loopZ {μ : Me} {Bd : Me → (Me → Prop) → Prop} (I : Me → Nat → Prop) (h0 : ∃ n, I μ n) (hb : ∀ ν n, I ν n → ∀ K : Me → Prop, (∀ ρ n', n' < n → I ρ n' → K ρ) → Bd ν K) : ∃ I : Me → Nat → Prop, (∃ n, I μ n) ∧ ∀ (μ : Me) (n : Nat), I μ n → Bd μ (fun ν => ∃ n', n' < n ∧ I ν n') := ⟨I, h0, fun ν n h => hb ν n h _ (fun ρ n' h1 h2 => ⟨n', h1, h2⟩)⟩
section MK
variable {μ : Me} {b : Nat → Nat} {L : Nat} {Q : Int32 → Me → Prop}
/-- the tape as the reference holds it -/
def TpM (μ : Me) (b : Nat → Nat) (L : Nat) : Prop := L ≤ 300 ∧ mgi μ 314 4 = nI L ∧ ∀ k, k < L → b k < 256 ∧ mgi μ 318 k = nI (b k)
theorem TpM_fn {ν : Me} (h : TpM μ b L) (k : Fn μ ν) : TpM ν b L := ⟨h.1, (k.2.2.2.2.1 314 4 (by omega)).trans h.2.1, fun q hq => ⟨(h.2.2 q hq).1, (k.2.2.2.2.1 318 q (by omega)).trans (h.2.2 q hq).2⟩⟩
theorem e_byteAt (hG : Gp μ) (hT : TpM μ b L) {q : Nat} (hq : q ≤ 1000) : S_X11_byteAt 314 (nI q) μ Q = Q (if q < L then nI (b q) else -nI 1) μ := by
  obtain ⟨t1, t2, t3⟩ := hT
  unfold S_X11_byteAt
  by_cases c : q < L
  · obtain ⟨b1, b2⟩ := t3 q c
    rw [if_pos c]
    simp (disch := first | omega | (simp only [Gp_si, Gp_sl, Gp_ci, Gp_cl]; assumption)) only [li_0, li_1, li_2, li_3, li_4, li_5, li_6, li_7, li_8, li_9, li_10, li_11, li_12, li_13, li_14, li_15, li_16, li_17, li_18, li_19, li_20, li_21, li_22, li_23, li_24, li_25, li_26, li_27, li_28, li_29, li_30, li_32, li_33, li_34, li_35, li_36, li_37, li_38, li_39, li_40, li_41, li_42, li_43, li_44, li_45, li_46, li_47, li_48, li_49, li_50, li_51, li_52, li_53, li_54, li_55, li_56, li_57, li_58, li_59, li_60, li_61, li_62, li_63, li_64, li_65, li_66, li_67, li_68, li_69, li_70, li_71, li_72, li_73, li_74, li_75, li_76, li_77, li_78, li_79, li_80, li_81, li_82, li_83, li_84, li_85, li_86, li_87, li_88, li_89, li_90, li_91, li_92, li_93, li_94, li_95, li_96, li_97, li_98, li_99, li_100, li_101, li_102, li_103, li_104, li_105, li_106, li_107, li_108, li_109, li_110, li_111, li_112, li_113, li_114, li_115, li_116, li_117, li_118, li_119, li_120, li_121, li_122, li_123, li_124, li_125, li_126, li_127, li_128, li_129, li_130, li_134, li_160, li_197, li_229, li_255, li_256, li_265, li_300, li_301, li_330, li_353, li_463, li_720, li_729, li_768, li_999, li_2610, li_2807, li_2867, li_2916, li_4096, li_9999, li_10000, li_30643, li_65535, li_99999, li_1000000, gi_si, gi_sl, gi_sr, gi_ci, gi_cl, gl_si, gl_sl, gl_sr, gl_ci, gl_cl, gr_si, gr_sl, gr_sr, gr_ci, gr_cl, ln_si, ln_sl, ln_sr, ln_ci, ln_cl, ok_si, ok_sl, ok_sr, ok_ci, ok_cl, gp_k hG, gp_l hG, gp_r hG, gp_m hG, Option.some.injEq, exists_eq_left', exists_eq_left, forall_eq, forall_eq', true_and, and_true, if_true, if_false, true_imp_iff, false_imp_iff, not_true_eq_false, not_false_eq_true, false_and, and_false, reduceIte, reduceCtorEq, forall_const, Nat.reduceEqDiff, Nat.reduceAdd, Nat.reduceMul, Nat.reduceSub, Nat.reduceLT, Nat.reduceLeDiff, Nat.reduceMod, Nat.reduceDiv, and_self, ne_eq, exists_const, Nat.add_sub_cancel, nI_add, pk_mul, pk_sub, q_rem, q_div, q_eq, q_le, q_lt, q_cl, q_in, q_m1, q_1m, q_neg, sh1n, bitn, q_mod2, q_neq0, bq_t, bq_f, bq_t2, bq_f2, i01, i10, q_tt, q_ff, ups_e, ups_n, fil_i, fil_o, zq_if, zq_0, zq_1, if_pos, if_neg, t2, b2]
  · rw [if_neg c]
    simp (disch := first | omega | (simp only [Gp_si, Gp_sl, Gp_ci, Gp_cl]; assumption)) only [li_0, li_1, li_2, li_3, li_4, li_5, li_6, li_7, li_8, li_9, li_10, li_11, li_12, li_13, li_14, li_15, li_16, li_17, li_18, li_19, li_20, li_21, li_22, li_23, li_24, li_25, li_26, li_27, li_28, li_29, li_30, li_32, li_33, li_34, li_35, li_36, li_37, li_38, li_39, li_40, li_41, li_42, li_43, li_44, li_45, li_46, li_47, li_48, li_49, li_50, li_51, li_52, li_53, li_54, li_55, li_56, li_57, li_58, li_59, li_60, li_61, li_62, li_63, li_64, li_65, li_66, li_67, li_68, li_69, li_70, li_71, li_72, li_73, li_74, li_75, li_76, li_77, li_78, li_79, li_80, li_81, li_82, li_83, li_84, li_85, li_86, li_87, li_88, li_89, li_90, li_91, li_92, li_93, li_94, li_95, li_96, li_97, li_98, li_99, li_100, li_101, li_102, li_103, li_104, li_105, li_106, li_107, li_108, li_109, li_110, li_111, li_112, li_113, li_114, li_115, li_116, li_117, li_118, li_119, li_120, li_121, li_122, li_123, li_124, li_125, li_126, li_127, li_128, li_129, li_130, li_134, li_160, li_197, li_229, li_255, li_256, li_265, li_300, li_301, li_330, li_353, li_463, li_720, li_729, li_768, li_999, li_2610, li_2807, li_2867, li_2916, li_4096, li_9999, li_10000, li_30643, li_65535, li_99999, li_1000000, gi_si, gi_sl, gi_sr, gi_ci, gi_cl, gl_si, gl_sl, gl_sr, gl_ci, gl_cl, gr_si, gr_sl, gr_sr, gr_ci, gr_cl, ln_si, ln_sl, ln_sr, ln_ci, ln_cl, ok_si, ok_sl, ok_sr, ok_ci, ok_cl, gp_k hG, gp_l hG, gp_r hG, gp_m hG, Option.some.injEq, exists_eq_left', exists_eq_left, forall_eq, forall_eq', true_and, and_true, if_true, if_false, true_imp_iff, false_imp_iff, not_true_eq_false, not_false_eq_true, false_and, and_false, reduceIte, reduceCtorEq, forall_const, Nat.reduceEqDiff, Nat.reduceAdd, Nat.reduceMul, Nat.reduceSub, Nat.reduceLT, Nat.reduceLeDiff, Nat.reduceMod, Nat.reduceDiv, and_self, ne_eq, exists_const, Nat.add_sub_cancel, nI_add, pk_mul, pk_sub, q_rem, q_div, q_eq, q_le, q_lt, q_cl, q_in, q_m1, q_1m, q_neg, sh1n, bitn, q_mod2, q_neq0, bq_t, bq_f, bq_t2, bq_f2, i01, i10, q_tt, q_ff, ups_e, ups_n, fil_i, fil_o, zq_if, zq_0, zq_1, if_pos, if_neg, t2]
theorem e_isF {x : Nat} (hx : x < 256) : S_X11_isFigure (nI x) μ Q = Q (nI (if isD x = true then 1 else 0)) μ := by
  unfold S_X11_isFigure
  by_cases h : isD x = true
  · have h2 := of_decide_eq_true h
    rw [if_pos h]
    simp (disch := first | omega | (simp only [Gp_si, Gp_sl, Gp_ci, Gp_cl]; assumption)) only [li_0, li_1, li_2, li_3, li_4, li_5, li_6, li_7, li_8, li_9, li_10, li_11, li_12, li_13, li_14, li_15, li_16, li_17, li_18, li_19, li_20, li_21, li_22, li_23, li_24, li_25, li_26, li_27, li_28, li_29, li_30, li_32, li_33, li_34, li_35, li_36, li_37, li_38, li_39, li_40, li_41, li_42, li_43, li_44, li_45, li_46, li_47, li_48, li_49, li_50, li_51, li_52, li_53, li_54, li_55, li_56, li_57, li_58, li_59, li_60, li_61, li_62, li_63, li_64, li_65, li_66, li_67, li_68, li_69, li_70, li_71, li_72, li_73, li_74, li_75, li_76, li_77, li_78, li_79, li_80, li_81, li_82, li_83, li_84, li_85, li_86, li_87, li_88, li_89, li_90, li_91, li_92, li_93, li_94, li_95, li_96, li_97, li_98, li_99, li_100, li_101, li_102, li_103, li_104, li_105, li_106, li_107, li_108, li_109, li_110, li_111, li_112, li_113, li_114, li_115, li_116, li_117, li_118, li_119, li_120, li_121, li_122, li_123, li_124, li_125, li_126, li_127, li_128, li_129, li_130, li_134, li_160, li_197, li_229, li_255, li_256, li_265, li_300, li_301, li_330, li_353, li_463, li_720, li_729, li_768, li_999, li_2610, li_2807, li_2867, li_2916, li_4096, li_9999, li_10000, li_30643, li_65535, li_99999, li_1000000, gi_si, gi_sl, gi_sr, gi_ci, gi_cl, gl_si, gl_sl, gl_sr, gl_ci, gl_cl, gr_si, gr_sl, gr_sr, gr_ci, gr_cl, ln_si, ln_sl, ln_sr, ln_ci, ln_cl, ok_si, ok_sl, ok_sr, ok_ci, ok_cl, Option.some.injEq, exists_eq_left', exists_eq_left, forall_eq, forall_eq', true_and, and_true, if_true, if_false, true_imp_iff, false_imp_iff, not_true_eq_false, not_false_eq_true, false_and, and_false, reduceIte, reduceCtorEq, forall_const, Nat.reduceEqDiff, Nat.reduceAdd, Nat.reduceMul, Nat.reduceSub, Nat.reduceLT, Nat.reduceLeDiff, Nat.reduceMod, Nat.reduceDiv, and_self, ne_eq, exists_const, Nat.add_sub_cancel, nI_add, pk_mul, pk_sub, q_rem, q_div, q_eq, q_le, q_lt, q_cl, q_in, q_m1, q_1m, q_neg, sh1n, bitn, q_mod2, q_neq0, bq_t, bq_f, bq_t2, bq_f2, i01, i10, q_tt, q_ff, ups_e, ups_n, fil_i, fil_o, zq_if, zq_0, zq_1, if_pos, if_neg]
  · have h2 := of_decide_eq_false (Bool.eq_false_iff.2 h)
    rw [if_neg h]
    by_cases c : x < 48
    · simp (disch := first | omega | (simp only [Gp_si, Gp_sl, Gp_ci, Gp_cl]; assumption)) only [li_0, li_1, li_2, li_3, li_4, li_5, li_6, li_7, li_8, li_9, li_10, li_11, li_12, li_13, li_14, li_15, li_16, li_17, li_18, li_19, li_20, li_21, li_22, li_23, li_24, li_25, li_26, li_27, li_28, li_29, li_30, li_32, li_33, li_34, li_35, li_36, li_37, li_38, li_39, li_40, li_41, li_42, li_43, li_44, li_45, li_46, li_47, li_48, li_49, li_50, li_51, li_52, li_53, li_54, li_55, li_56, li_57, li_58, li_59, li_60, li_61, li_62, li_63, li_64, li_65, li_66, li_67, li_68, li_69, li_70, li_71, li_72, li_73, li_74, li_75, li_76, li_77, li_78, li_79, li_80, li_81, li_82, li_83, li_84, li_85, li_86, li_87, li_88, li_89, li_90, li_91, li_92, li_93, li_94, li_95, li_96, li_97, li_98, li_99, li_100, li_101, li_102, li_103, li_104, li_105, li_106, li_107, li_108, li_109, li_110, li_111, li_112, li_113, li_114, li_115, li_116, li_117, li_118, li_119, li_120, li_121, li_122, li_123, li_124, li_125, li_126, li_127, li_128, li_129, li_130, li_134, li_160, li_197, li_229, li_255, li_256, li_265, li_300, li_301, li_330, li_353, li_463, li_720, li_729, li_768, li_999, li_2610, li_2807, li_2867, li_2916, li_4096, li_9999, li_10000, li_30643, li_65535, li_99999, li_1000000, gi_si, gi_sl, gi_sr, gi_ci, gi_cl, gl_si, gl_sl, gl_sr, gl_ci, gl_cl, gr_si, gr_sl, gr_sr, gr_ci, gr_cl, ln_si, ln_sl, ln_sr, ln_ci, ln_cl, ok_si, ok_sl, ok_sr, ok_ci, ok_cl, Option.some.injEq, exists_eq_left', exists_eq_left, forall_eq, forall_eq', true_and, and_true, if_true, if_false, true_imp_iff, false_imp_iff, not_true_eq_false, not_false_eq_true, false_and, and_false, reduceIte, reduceCtorEq, forall_const, Nat.reduceEqDiff, Nat.reduceAdd, Nat.reduceMul, Nat.reduceSub, Nat.reduceLT, Nat.reduceLeDiff, Nat.reduceMod, Nat.reduceDiv, and_self, ne_eq, exists_const, Nat.add_sub_cancel, nI_add, pk_mul, pk_sub, q_rem, q_div, q_eq, q_le, q_lt, q_cl, q_in, q_m1, q_1m, q_neg, sh1n, bitn, q_mod2, q_neq0, bq_t, bq_f, bq_t2, bq_f2, i01, i10, q_tt, q_ff, ups_e, ups_n, fil_i, fil_o, zq_if, zq_0, zq_1, if_pos, if_neg]
    · simp (disch := first | omega | (simp only [Gp_si, Gp_sl, Gp_ci, Gp_cl]; assumption)) only [li_0, li_1, li_2, li_3, li_4, li_5, li_6, li_7, li_8, li_9, li_10, li_11, li_12, li_13, li_14, li_15, li_16, li_17, li_18, li_19, li_20, li_21, li_22, li_23, li_24, li_25, li_26, li_27, li_28, li_29, li_30, li_32, li_33, li_34, li_35, li_36, li_37, li_38, li_39, li_40, li_41, li_42, li_43, li_44, li_45, li_46, li_47, li_48, li_49, li_50, li_51, li_52, li_53, li_54, li_55, li_56, li_57, li_58, li_59, li_60, li_61, li_62, li_63, li_64, li_65, li_66, li_67, li_68, li_69, li_70, li_71, li_72, li_73, li_74, li_75, li_76, li_77, li_78, li_79, li_80, li_81, li_82, li_83, li_84, li_85, li_86, li_87, li_88, li_89, li_90, li_91, li_92, li_93, li_94, li_95, li_96, li_97, li_98, li_99, li_100, li_101, li_102, li_103, li_104, li_105, li_106, li_107, li_108, li_109, li_110, li_111, li_112, li_113, li_114, li_115, li_116, li_117, li_118, li_119, li_120, li_121, li_122, li_123, li_124, li_125, li_126, li_127, li_128, li_129, li_130, li_134, li_160, li_197, li_229, li_255, li_256, li_265, li_300, li_301, li_330, li_353, li_463, li_720, li_729, li_768, li_999, li_2610, li_2807, li_2867, li_2916, li_4096, li_9999, li_10000, li_30643, li_65535, li_99999, li_1000000, gi_si, gi_sl, gi_sr, gi_ci, gi_cl, gl_si, gl_sl, gl_sr, gl_ci, gl_cl, gr_si, gr_sl, gr_sr, gr_ci, gr_cl, ln_si, ln_sl, ln_sr, ln_ci, ln_cl, ok_si, ok_sl, ok_sr, ok_ci, ok_cl, Option.some.injEq, exists_eq_left', exists_eq_left, forall_eq, forall_eq', true_and, and_true, if_true, if_false, true_imp_iff, false_imp_iff, not_true_eq_false, not_false_eq_true, false_and, and_false, reduceIte, reduceCtorEq, forall_const, Nat.reduceEqDiff, Nat.reduceAdd, Nat.reduceMul, Nat.reduceSub, Nat.reduceLT, Nat.reduceLeDiff, Nat.reduceMod, Nat.reduceDiv, and_self, ne_eq, exists_const, Nat.add_sub_cancel, nI_add, pk_mul, pk_sub, q_rem, q_div, q_eq, q_le, q_lt, q_cl, q_in, q_m1, q_1m, q_neg, sh1n, bitn, q_mod2, q_neq0, bq_t, bq_f, bq_t2, bq_f2, i01, i10, q_tt, q_ff, ups_e, ups_n, fil_i, fil_o, zq_if, zq_0, zq_1, if_pos, if_neg]
theorem e_isFm : S_X11_isFigure (-nI 1) μ Q = Q (nI 0) μ := by
  have h : -nI 1 < 48 := by decide
  unfold S_X11_isFigure
  simp only [h, true_imp_iff, not_true_eq_false, false_imp_iff, and_true]
  rfl
theorem e_isLB {x : Nat} (hx : x < 256) : S_X11_isLetterByte (nI x) μ Q = Q (nI (if isLt x = true then 1 else 0)) μ := by
  unfold S_X11_isLetterByte B_X11_isLetterByte_12
  by_cases h : isLt x = true
  · have h2 := of_decide_eq_true h
    rw [if_pos h]
    by_cases c : x < 97
    · simp (disch := first | omega | (simp only [Gp_si, Gp_sl, Gp_ci, Gp_cl]; assumption)) only [li_0, li_1, li_2, li_3, li_4, li_5, li_6, li_7, li_8, li_9, li_10, li_11, li_12, li_13, li_14, li_15, li_16, li_17, li_18, li_19, li_20, li_21, li_22, li_23, li_24, li_25, li_26, li_27, li_28, li_29, li_30, li_32, li_33, li_34, li_35, li_36, li_37, li_38, li_39, li_40, li_41, li_42, li_43, li_44, li_45, li_46, li_47, li_48, li_49, li_50, li_51, li_52, li_53, li_54, li_55, li_56, li_57, li_58, li_59, li_60, li_61, li_62, li_63, li_64, li_65, li_66, li_67, li_68, li_69, li_70, li_71, li_72, li_73, li_74, li_75, li_76, li_77, li_78, li_79, li_80, li_81, li_82, li_83, li_84, li_85, li_86, li_87, li_88, li_89, li_90, li_91, li_92, li_93, li_94, li_95, li_96, li_97, li_98, li_99, li_100, li_101, li_102, li_103, li_104, li_105, li_106, li_107, li_108, li_109, li_110, li_111, li_112, li_113, li_114, li_115, li_116, li_117, li_118, li_119, li_120, li_121, li_122, li_123, li_124, li_125, li_126, li_127, li_128, li_129, li_130, li_134, li_160, li_197, li_229, li_255, li_256, li_265, li_300, li_301, li_330, li_353, li_463, li_720, li_729, li_768, li_999, li_2610, li_2807, li_2867, li_2916, li_4096, li_9999, li_10000, li_30643, li_65535, li_99999, li_1000000, gi_si, gi_sl, gi_sr, gi_ci, gi_cl, gl_si, gl_sl, gl_sr, gl_ci, gl_cl, gr_si, gr_sl, gr_sr, gr_ci, gr_cl, ln_si, ln_sl, ln_sr, ln_ci, ln_cl, ok_si, ok_sl, ok_sr, ok_ci, ok_cl, Option.some.injEq, exists_eq_left', exists_eq_left, forall_eq, forall_eq', true_and, and_true, if_true, if_false, true_imp_iff, false_imp_iff, not_true_eq_false, not_false_eq_true, false_and, and_false, reduceIte, reduceCtorEq, forall_const, Nat.reduceEqDiff, Nat.reduceAdd, Nat.reduceMul, Nat.reduceSub, Nat.reduceLT, Nat.reduceLeDiff, Nat.reduceMod, Nat.reduceDiv, and_self, ne_eq, exists_const, Nat.add_sub_cancel, nI_add, pk_mul, pk_sub, q_rem, q_div, q_eq, q_le, q_lt, q_cl, q_in, q_m1, q_1m, q_neg, sh1n, bitn, q_mod2, q_neq0, bq_t, bq_f, bq_t2, bq_f2, i01, i10, q_tt, q_ff, ups_e, ups_n, fil_i, fil_o, zq_if, zq_0, zq_1, if_pos, if_neg]
    · simp (disch := first | omega | (simp only [Gp_si, Gp_sl, Gp_ci, Gp_cl]; assumption)) only [li_0, li_1, li_2, li_3, li_4, li_5, li_6, li_7, li_8, li_9, li_10, li_11, li_12, li_13, li_14, li_15, li_16, li_17, li_18, li_19, li_20, li_21, li_22, li_23, li_24, li_25, li_26, li_27, li_28, li_29, li_30, li_32, li_33, li_34, li_35, li_36, li_37, li_38, li_39, li_40, li_41, li_42, li_43, li_44, li_45, li_46, li_47, li_48, li_49, li_50, li_51, li_52, li_53, li_54, li_55, li_56, li_57, li_58, li_59, li_60, li_61, li_62, li_63, li_64, li_65, li_66, li_67, li_68, li_69, li_70, li_71, li_72, li_73, li_74, li_75, li_76, li_77, li_78, li_79, li_80, li_81, li_82, li_83, li_84, li_85, li_86, li_87, li_88, li_89, li_90, li_91, li_92, li_93, li_94, li_95, li_96, li_97, li_98, li_99, li_100, li_101, li_102, li_103, li_104, li_105, li_106, li_107, li_108, li_109, li_110, li_111, li_112, li_113, li_114, li_115, li_116, li_117, li_118, li_119, li_120, li_121, li_122, li_123, li_124, li_125, li_126, li_127, li_128, li_129, li_130, li_134, li_160, li_197, li_229, li_255, li_256, li_265, li_300, li_301, li_330, li_353, li_463, li_720, li_729, li_768, li_999, li_2610, li_2807, li_2867, li_2916, li_4096, li_9999, li_10000, li_30643, li_65535, li_99999, li_1000000, gi_si, gi_sl, gi_sr, gi_ci, gi_cl, gl_si, gl_sl, gl_sr, gl_ci, gl_cl, gr_si, gr_sl, gr_sr, gr_ci, gr_cl, ln_si, ln_sl, ln_sr, ln_ci, ln_cl, ok_si, ok_sl, ok_sr, ok_ci, ok_cl, Option.some.injEq, exists_eq_left', exists_eq_left, forall_eq, forall_eq', true_and, and_true, if_true, if_false, true_imp_iff, false_imp_iff, not_true_eq_false, not_false_eq_true, false_and, and_false, reduceIte, reduceCtorEq, forall_const, Nat.reduceEqDiff, Nat.reduceAdd, Nat.reduceMul, Nat.reduceSub, Nat.reduceLT, Nat.reduceLeDiff, Nat.reduceMod, Nat.reduceDiv, and_self, ne_eq, exists_const, Nat.add_sub_cancel, nI_add, pk_mul, pk_sub, q_rem, q_div, q_eq, q_le, q_lt, q_cl, q_in, q_m1, q_1m, q_neg, sh1n, bitn, q_mod2, q_neq0, bq_t, bq_f, bq_t2, bq_f2, i01, i10, q_tt, q_ff, ups_e, ups_n, fil_i, fil_o, zq_if, zq_0, zq_1, if_pos, if_neg]
  · have h2 := of_decide_eq_false (Bool.eq_false_iff.2 h)
    rw [if_neg h]
    by_cases c : x < 97
    · by_cases c2 : x < 65
      · simp (disch := first | omega | (simp only [Gp_si, Gp_sl, Gp_ci, Gp_cl]; assumption)) only [li_0, li_1, li_2, li_3, li_4, li_5, li_6, li_7, li_8, li_9, li_10, li_11, li_12, li_13, li_14, li_15, li_16, li_17, li_18, li_19, li_20, li_21, li_22, li_23, li_24, li_25, li_26, li_27, li_28, li_29, li_30, li_32, li_33, li_34, li_35, li_36, li_37, li_38, li_39, li_40, li_41, li_42, li_43, li_44, li_45, li_46, li_47, li_48, li_49, li_50, li_51, li_52, li_53, li_54, li_55, li_56, li_57, li_58, li_59, li_60, li_61, li_62, li_63, li_64, li_65, li_66, li_67, li_68, li_69, li_70, li_71, li_72, li_73, li_74, li_75, li_76, li_77, li_78, li_79, li_80, li_81, li_82, li_83, li_84, li_85, li_86, li_87, li_88, li_89, li_90, li_91, li_92, li_93, li_94, li_95, li_96, li_97, li_98, li_99, li_100, li_101, li_102, li_103, li_104, li_105, li_106, li_107, li_108, li_109, li_110, li_111, li_112, li_113, li_114, li_115, li_116, li_117, li_118, li_119, li_120, li_121, li_122, li_123, li_124, li_125, li_126, li_127, li_128, li_129, li_130, li_134, li_160, li_197, li_229, li_255, li_256, li_265, li_300, li_301, li_330, li_353, li_463, li_720, li_729, li_768, li_999, li_2610, li_2807, li_2867, li_2916, li_4096, li_9999, li_10000, li_30643, li_65535, li_99999, li_1000000, gi_si, gi_sl, gi_sr, gi_ci, gi_cl, gl_si, gl_sl, gl_sr, gl_ci, gl_cl, gr_si, gr_sl, gr_sr, gr_ci, gr_cl, ln_si, ln_sl, ln_sr, ln_ci, ln_cl, ok_si, ok_sl, ok_sr, ok_ci, ok_cl, Option.some.injEq, exists_eq_left', exists_eq_left, forall_eq, forall_eq', true_and, and_true, if_true, if_false, true_imp_iff, false_imp_iff, not_true_eq_false, not_false_eq_true, false_and, and_false, reduceIte, reduceCtorEq, forall_const, Nat.reduceEqDiff, Nat.reduceAdd, Nat.reduceMul, Nat.reduceSub, Nat.reduceLT, Nat.reduceLeDiff, Nat.reduceMod, Nat.reduceDiv, and_self, ne_eq, exists_const, Nat.add_sub_cancel, nI_add, pk_mul, pk_sub, q_rem, q_div, q_eq, q_le, q_lt, q_cl, q_in, q_m1, q_1m, q_neg, sh1n, bitn, q_mod2, q_neq0, bq_t, bq_f, bq_t2, bq_f2, i01, i10, q_tt, q_ff, ups_e, ups_n, fil_i, fil_o, zq_if, zq_0, zq_1, if_pos, if_neg]
      · simp (disch := first | omega | (simp only [Gp_si, Gp_sl, Gp_ci, Gp_cl]; assumption)) only [li_0, li_1, li_2, li_3, li_4, li_5, li_6, li_7, li_8, li_9, li_10, li_11, li_12, li_13, li_14, li_15, li_16, li_17, li_18, li_19, li_20, li_21, li_22, li_23, li_24, li_25, li_26, li_27, li_28, li_29, li_30, li_32, li_33, li_34, li_35, li_36, li_37, li_38, li_39, li_40, li_41, li_42, li_43, li_44, li_45, li_46, li_47, li_48, li_49, li_50, li_51, li_52, li_53, li_54, li_55, li_56, li_57, li_58, li_59, li_60, li_61, li_62, li_63, li_64, li_65, li_66, li_67, li_68, li_69, li_70, li_71, li_72, li_73, li_74, li_75, li_76, li_77, li_78, li_79, li_80, li_81, li_82, li_83, li_84, li_85, li_86, li_87, li_88, li_89, li_90, li_91, li_92, li_93, li_94, li_95, li_96, li_97, li_98, li_99, li_100, li_101, li_102, li_103, li_104, li_105, li_106, li_107, li_108, li_109, li_110, li_111, li_112, li_113, li_114, li_115, li_116, li_117, li_118, li_119, li_120, li_121, li_122, li_123, li_124, li_125, li_126, li_127, li_128, li_129, li_130, li_134, li_160, li_197, li_229, li_255, li_256, li_265, li_300, li_301, li_330, li_353, li_463, li_720, li_729, li_768, li_999, li_2610, li_2807, li_2867, li_2916, li_4096, li_9999, li_10000, li_30643, li_65535, li_99999, li_1000000, gi_si, gi_sl, gi_sr, gi_ci, gi_cl, gl_si, gl_sl, gl_sr, gl_ci, gl_cl, gr_si, gr_sl, gr_sr, gr_ci, gr_cl, ln_si, ln_sl, ln_sr, ln_ci, ln_cl, ok_si, ok_sl, ok_sr, ok_ci, ok_cl, Option.some.injEq, exists_eq_left', exists_eq_left, forall_eq, forall_eq', true_and, and_true, if_true, if_false, true_imp_iff, false_imp_iff, not_true_eq_false, not_false_eq_true, false_and, and_false, reduceIte, reduceCtorEq, forall_const, Nat.reduceEqDiff, Nat.reduceAdd, Nat.reduceMul, Nat.reduceSub, Nat.reduceLT, Nat.reduceLeDiff, Nat.reduceMod, Nat.reduceDiv, and_self, ne_eq, exists_const, Nat.add_sub_cancel, nI_add, pk_mul, pk_sub, q_rem, q_div, q_eq, q_le, q_lt, q_cl, q_in, q_m1, q_1m, q_neg, sh1n, bitn, q_mod2, q_neq0, bq_t, bq_f, bq_t2, bq_f2, i01, i10, q_tt, q_ff, ups_e, ups_n, fil_i, fil_o, zq_if, zq_0, zq_1, if_pos, if_neg]
    · by_cases c2 : x < 65
      · omega
      · simp (disch := first | omega | (simp only [Gp_si, Gp_sl, Gp_ci, Gp_cl]; assumption)) only [li_0, li_1, li_2, li_3, li_4, li_5, li_6, li_7, li_8, li_9, li_10, li_11, li_12, li_13, li_14, li_15, li_16, li_17, li_18, li_19, li_20, li_21, li_22, li_23, li_24, li_25, li_26, li_27, li_28, li_29, li_30, li_32, li_33, li_34, li_35, li_36, li_37, li_38, li_39, li_40, li_41, li_42, li_43, li_44, li_45, li_46, li_47, li_48, li_49, li_50, li_51, li_52, li_53, li_54, li_55, li_56, li_57, li_58, li_59, li_60, li_61, li_62, li_63, li_64, li_65, li_66, li_67, li_68, li_69, li_70, li_71, li_72, li_73, li_74, li_75, li_76, li_77, li_78, li_79, li_80, li_81, li_82, li_83, li_84, li_85, li_86, li_87, li_88, li_89, li_90, li_91, li_92, li_93, li_94, li_95, li_96, li_97, li_98, li_99, li_100, li_101, li_102, li_103, li_104, li_105, li_106, li_107, li_108, li_109, li_110, li_111, li_112, li_113, li_114, li_115, li_116, li_117, li_118, li_119, li_120, li_121, li_122, li_123, li_124, li_125, li_126, li_127, li_128, li_129, li_130, li_134, li_160, li_197, li_229, li_255, li_256, li_265, li_300, li_301, li_330, li_353, li_463, li_720, li_729, li_768, li_999, li_2610, li_2807, li_2867, li_2916, li_4096, li_9999, li_10000, li_30643, li_65535, li_99999, li_1000000, gi_si, gi_sl, gi_sr, gi_ci, gi_cl, gl_si, gl_sl, gl_sr, gl_ci, gl_cl, gr_si, gr_sl, gr_sr, gr_ci, gr_cl, ln_si, ln_sl, ln_sr, ln_ci, ln_cl, ok_si, ok_sl, ok_sr, ok_ci, ok_cl, Option.some.injEq, exists_eq_left', exists_eq_left, forall_eq, forall_eq', true_and, and_true, if_true, if_false, true_imp_iff, false_imp_iff, not_true_eq_false, not_false_eq_true, false_and, and_false, reduceIte, reduceCtorEq, forall_const, Nat.reduceEqDiff, Nat.reduceAdd, Nat.reduceMul, Nat.reduceSub, Nat.reduceLT, Nat.reduceLeDiff, Nat.reduceMod, Nat.reduceDiv, and_self, ne_eq, exists_const, Nat.add_sub_cancel, nI_add, pk_mul, pk_sub, q_rem, q_div, q_eq, q_le, q_lt, q_cl, q_in, q_m1, q_1m, q_neg, sh1n, bitn, q_mod2, q_neq0, bq_t, bq_f, bq_t2, bq_f2, i01, i10, q_tt, q_ff, ups_e, ups_n, fil_i, fil_o, zq_if, zq_0, zq_1, if_pos, if_neg]
theorem e_isLBm : S_X11_isLetterByte (-nI 1) μ Q = Q (nI 0) μ := by
  have h : -nI 1 < 97 := by decide
  have h2 : -nI 1 < 65 := by decide
  unfold S_X11_isLetterByte B_X11_isLetterByte_12
  simp only [h, h2, true_imp_iff, not_true_eq_false, false_imp_iff, and_true]
  rfl
/-- the sign's word -/
theorem sg_tab : ∀ x, x < 256 → (x = 35 ∨ x = 40 ∨ x = 41 ∨ x = 42 ∨ x = 43 ∨ x = 45 ∨ x = 47 ∨ x = 58 ∨ x = 59 ∨ x = 60 ∨ x = 61 ∨ x = 62) = (x = 58 ∨ sgN x ≠ 52) := by
  have h : ∀ x, x < 256 → (decide (x = 35 ∨ x = 40 ∨ x = 41 ∨ x = 42 ∨ x = 43 ∨ x = 45 ∨ x = 47 ∨ x = 58 ∨ x = 59 ∨ x = 60 ∨ x = 61 ∨ x = 62) = decide (x = 58 ∨ sgN x ≠ 52)) := by decide +kernel
  intro x hx
  exact propext (decide_eq_decide.1 (h x hx))
theorem p_isSign {x : Nat} (hx : x < 256) (k0 : ¬ (x = 58 ∨ sgN x ≠ 52) → Q (nI 0) μ) (k1 : (x = 58 ∨ sgN x ≠ 52) → Q (nI 1) μ) : S_X11_isSign (nI x) μ Q := by
  rw [← sg_tab x hx] at k0 k1
  unfold S_X11_isSign
  simp (disch := first | omega | (simp only [Gp_si, Gp_sl, Gp_ci, Gp_cl]; assumption)) only [li_0, li_1, li_2, li_3, li_4, li_5, li_6, li_7, li_8, li_9, li_10, li_11, li_12, li_13, li_14, li_15, li_16, li_17, li_18, li_19, li_20, li_21, li_22, li_23, li_24, li_25, li_26, li_27, li_28, li_29, li_30, li_32, li_33, li_34, li_35, li_36, li_37, li_38, li_39, li_40, li_41, li_42, li_43, li_44, li_45, li_46, li_47, li_48, li_49, li_50, li_51, li_52, li_53, li_54, li_55, li_56, li_57, li_58, li_59, li_60, li_61, li_62, li_63, li_64, li_65, li_66, li_67, li_68, li_69, li_70, li_71, li_72, li_73, li_74, li_75, li_76, li_77, li_78, li_79, li_80, li_81, li_82, li_83, li_84, li_85, li_86, li_87, li_88, li_89, li_90, li_91, li_92, li_93, li_94, li_95, li_96, li_97, li_98, li_99, li_100, li_101, li_102, li_103, li_104, li_105, li_106, li_107, li_108, li_109, li_110, li_111, li_112, li_113, li_114, li_115, li_116, li_117, li_118, li_119, li_120, li_121, li_122, li_123, li_124, li_125, li_126, li_127, li_128, li_129, li_130, li_134, li_160, li_197, li_229, li_255, li_256, li_265, li_300, li_301, li_330, li_353, li_463, li_720, li_729, li_768, li_999, li_2610, li_2807, li_2867, li_2916, li_4096, li_9999, li_10000, li_30643, li_65535, li_99999, li_1000000, gi_si, gi_sl, gi_sr, gi_ci, gi_cl, gl_si, gl_sl, gl_sr, gl_ci, gl_cl, gr_si, gr_sl, gr_sr, gr_ci, gr_cl, ln_si, ln_sl, ln_sr, ln_ci, ln_cl, ok_si, ok_sl, ok_sr, ok_ci, ok_cl, Option.some.injEq, exists_eq_left', exists_eq_left, forall_eq, forall_eq', true_and, and_true, if_true, if_false, true_imp_iff, false_imp_iff, not_true_eq_false, not_false_eq_true, false_and, and_false, reduceIte, reduceCtorEq, forall_const, Nat.reduceEqDiff, Nat.reduceAdd, Nat.reduceMul, Nat.reduceSub, Nat.reduceLT, Nat.reduceLeDiff, Nat.reduceMod, Nat.reduceDiv, and_self, ne_eq, exists_const, Nat.add_sub_cancel, nI_add, pk_mul, pk_sub, q_rem, q_div, q_eq, q_le, q_lt, q_cl, q_in, q_m1, q_1m, q_neg, sh1n, bitn, q_mod2, q_neq0, bq_t, bq_f, bq_t2, bq_f2, i01, i10, q_tt, q_ff, ups_e, ups_n, fil_i, fil_o, zq_if, zq_0, zq_1, if_pos, if_neg]
  repeat' (first | apply And.intro | intro)
  all_goals first | exact k1 (by omega) | exact k0 (by omega)
theorem m_num (hG : Gp μ) (hT : TpM μ b L) {p : Nat} (hp : p < L) (hd : isD (b p) = true) (h7 : mgi μ 314 7 = nI p) (h8 : mgi μ 314 8 = nI p) (h9 : mgi μ 314 9 = nI 1) (h10 : mgi μ 314 10 = nI 0) {Q : Me → Prop} (k : ∀ ν, Fn μ ν → MT ν b L p → Q ν) : L_X11_nextToken_85 314 μ Q := by
  obtain ⟨r1, r2, r3, r4⟩ := endR_b (c := isD) (b := b) (L := L) (p := p + 1) (by omega)
  have eE : tkE b L p = endR isD b L (p + 1) := by
    unfold tkE
    rw [if_neg (by omega), if_pos hd]
  have eN : tkN b L p = nmC b (endR isD b L (p + 1) - (p + 1)) (p + 1) (b p - 48) := by
    unfold tkN
    rw [if_pos ⟨hp, hd⟩]
  have eV : tvM b L p = 1 := by
    unfold tvM
    rw [if_neg (by omega), if_pos hd]
  generalize endR isD b L (p + 1) = e at *
  have hT0 := hT
  have hl3 := hT.1
  refine loopZ (Bd := fun ν K => B_X11_nextToken_85 314 ν K Q) (fun ν n => ∃ q m, p ≤ q ∧ q ≤ e ∧ n = e - q ∧ Fn μ ν ∧ mgi ν 314 7 = nI q ∧ mgi ν 314 8 = nI p ∧ mgi ν 314 9 = nI 1 ∧ mgi ν 314 10 = nI m ∧ m ≤ 1000000 ∧ ((q = p ∧ m = 0) ∨ (p < q ∧ nmC b (e - q) q (if m < 10000 then m else 10000) = tkN b L p))) ⟨_, p, 0, Nat.le_refl _, by omega, rfl, fn_rf μ, h7, h8, h9, h10, by omega, Or.inl ⟨rfl, rfl⟩⟩ ?_
  rintro ν n ⟨q, m, q1, q2, rfl, hF, g7, g8, g9, g10, hm, hc⟩ K hK
  have hH := fn_gp hG hF
  have hTn := TpM_fn hT hF
  unfold B_X11_nextToken_85
  by_cases cq : q = e
  · have fin : Q ν := by
      rcases hc with ⟨e1, e2⟩ | ⟨e1, e2⟩
      · omega
      · refine k ν hF ⟨by omega, g8, by rw [g7, eE, cq], by rw [g9, eV], fun _ _ => ⟨m, g10, hm, ?_⟩, fun _ x => absurd hd (by rw [x]; decide)⟩
        rw [cq, Nat.sub_self] at e2
        exact e2
    refine ⟨gp_ok hH (by decide) (by decide), ?_⟩
    rw [g7, e_byteAt hH hTn (by omega)]
    by_cases cL : q < L
    · have hb := (hT.2.2 q cL).1
      have hn : isD (b q) = false := by rw [cq]; exact r4 (by omega)
      rw [if_pos cL, e_isF hb, if_neg (by rw [hn]; decide)]
      exact ⟨fun _ => fin, fun x => absurd rfl x⟩
    · rw [if_neg cL, e_isFm]
      exact ⟨fun _ => fin, fun x => absurd rfl x⟩
  · have hlt : q < L := by omega
    have hb := (hT.2.2 q hlt).1
    have hn : isD (b q) = true := by
      by_cases c : q = p
      · rw [c]; exact hd
      · exact r3 q (by omega) (by omega)
    have hx := isD_x hn
    unfold B_X11_nextToken_135
    refine ⟨gp_ok hH (by decide) (by decide), ?_⟩
    rw [g7, e_byteAt hH hTn (by omega), if_pos hlt, e_isF hb, if_pos hn]
    refine ⟨fun x => absurd x (by decide), fun _ => ?_⟩
    rw [g10, g7, e_byteAt hH hTn (by omega), if_pos hlt]
    have nxt : ∀ m', m' ≤ 1000000 → (nmC b (e - (q + 1)) (q + 1) (if m' < 10000 then m' else 10000) = tkN b L p) → K (msi (msi ν 314 10 (nI m')) 314 7 (nI (q + 1))) := by
      intro m' h1 h2
      refine hK _ (e - (q + 1)) (by omega) ⟨q + 1, m', by omega, by omega, rfl, fn_si (fn_si hF 10 _ (by omega)) 7 _ (by omega), by rw [gi_si, if_pos ⟨rfl, rfl⟩], by rw [gi_si, if_neg (by omega), gi_si, if_neg (by omega)]; exact g8, by rw [gi_si, if_neg (by omega), gi_si, if_neg (by omega)]; exact g9, by rw [gi_si, if_neg (by omega), gi_si, if_pos ⟨rfl, rfl⟩], h1, Or.inr ⟨by omega, h2⟩⟩
    have stp : ∀ a, nmC b (e - q) q a = nmC b (e - (q + 1)) (q + 1) (if a * 10 + b q - 48 < 10000 then a * 10 + b q - 48 else 10000) := by
      intro a
      rw [show e - q = (e - (q + 1)) + 1 by omega]
      rfl
    by_cases cm : m ≤ 99999
    · have nx := nxt (10 * m + b q - 48) (by omega) (by
        rcases hc with ⟨e1, e2⟩ | ⟨e1, e2⟩
        · subst e1 e2
          rw [eN]
          congr 1
          have : 10 * 0 + b q - 48 < 10000 := by omega
          rw [if_pos this]
          omega
        · rw [← e2, stp]
          congr 1
          by_cases c1 : m < 10000
          · rw [if_pos c1, show m * 10 + b q - 48 = 10 * m + b q - 48 by omega]
          · rw [if_neg c1, if_neg (by omega), if_neg (by omega)])
      simp (disch := first | omega | (simp only [Gp_si, Gp_sl, Gp_ci, Gp_cl]; assumption)) only [li_0, li_1, li_2, li_3, li_4, li_5, li_6, li_7, li_8, li_9, li_10, li_11, li_12, li_13, li_14, li_15, li_16, li_17, li_18, li_19, li_20, li_21, li_22, li_23, li_24, li_25, li_26, li_27, li_28, li_29, li_30, li_32, li_33, li_34, li_35, li_36, li_37, li_38, li_39, li_40, li_41, li_42, li_43, li_44, li_45, li_46, li_47, li_48, li_49, li_50, li_51, li_52, li_53, li_54, li_55, li_56, li_57, li_58, li_59, li_60, li_61, li_62, li_63, li_64, li_65, li_66, li_67, li_68, li_69, li_70, li_71, li_72, li_73, li_74, li_75, li_76, li_77, li_78, li_79, li_80, li_81, li_82, li_83, li_84, li_85, li_86, li_87, li_88, li_89, li_90, li_91, li_92, li_93, li_94, li_95, li_96, li_97, li_98, li_99, li_100, li_101, li_102, li_103, li_104, li_105, li_106, li_107, li_108, li_109, li_110, li_111, li_112, li_113, li_114, li_115, li_116, li_117, li_118, li_119, li_120, li_121, li_122, li_123, li_124, li_125, li_126, li_127, li_128, li_129, li_130, li_134, li_160, li_197, li_229, li_255, li_256, li_265, li_300, li_301, li_330, li_353, li_463, li_720, li_729, li_768, li_999, li_2610, li_2807, li_2867, li_2916, li_4096, li_9999, li_10000, li_30643, li_65535, li_99999, li_1000000, gi_si, gi_sl, gi_sr, gi_ci, gi_cl, gl_si, gl_sl, gl_sr, gl_ci, gl_cl, gr_si, gr_sl, gr_sr, gr_ci, gr_cl, ln_si, ln_sl, ln_sr, ln_ci, ln_cl, ok_si, ok_sl, ok_sr, ok_ci, ok_cl, gp_k hH, gp_l hH, gp_r hH, gp_m hH, Option.some.injEq, exists_eq_left', exists_eq_left, forall_eq, forall_eq', true_and, and_true, if_true, if_false, true_imp_iff, false_imp_iff, not_true_eq_false, not_false_eq_true, false_and, and_false, reduceIte, reduceCtorEq, forall_const, Nat.reduceEqDiff, Nat.reduceAdd, Nat.reduceMul, Nat.reduceSub, Nat.reduceLT, Nat.reduceLeDiff, Nat.reduceMod, Nat.reduceDiv, and_self, ne_eq, exists_const, Nat.add_sub_cancel, nI_add, pk_mul, pk_sub, q_rem, q_div, q_eq, q_le, q_lt, q_cl, q_in, q_m1, q_1m, q_neg, sh1n, bitn, q_mod2, q_neq0, bq_t, bq_f, bq_t2, bq_f2, i01, i10, q_tt, q_ff, ups_e, ups_n, fil_i, fil_o, zq_if, zq_0, zq_1, if_pos, if_neg, g7]
      exact nx
    · have nx := nxt m hm (by
        rcases hc with ⟨e1, e2⟩ | ⟨e1, e2⟩
        · omega
        · rw [← e2, stp, if_neg (show ¬ m < 10000 by omega), if_neg (by omega)])
      simp (disch := first | omega | (simp only [Gp_si, Gp_sl, Gp_ci, Gp_cl]; assumption)) only [li_0, li_1, li_2, li_3, li_4, li_5, li_6, li_7, li_8, li_9, li_10, li_11, li_12, li_13, li_14, li_15, li_16, li_17, li_18, li_19, li_20, li_21, li_22, li_23, li_24, li_25, li_26, li_27, li_28, li_29, li_30, li_32, li_33, li_34, li_35, li_36, li_37, li_38, li_39, li_40, li_41, li_42, li_43, li_44, li_45, li_46, li_47, li_48, li_49, li_50, li_51, li_52, li_53, li_54, li_55, li_56, li_57, li_58, li_59, li_60, li_61, li_62, li_63, li_64, li_65, li_66, li_67, li_68, li_69, li_70, li_71, li_72, li_73, li_74, li_75, li_76, li_77, li_78, li_79, li_80, li_81, li_82, li_83, li_84, li_85, li_86, li_87, li_88, li_89, li_90, li_91, li_92, li_93, li_94, li_95, li_96, li_97, li_98, li_99, li_100, li_101, li_102, li_103, li_104, li_105, li_106, li_107, li_108, li_109, li_110, li_111, li_112, li_113, li_114, li_115, li_116, li_117, li_118, li_119, li_120, li_121, li_122, li_123, li_124, li_125, li_126, li_127, li_128, li_129, li_130, li_134, li_160, li_197, li_229, li_255, li_256, li_265, li_300, li_301, li_330, li_353, li_463, li_720, li_729, li_768, li_999, li_2610, li_2807, li_2867, li_2916, li_4096, li_9999, li_10000, li_30643, li_65535, li_99999, li_1000000, gi_si, gi_sl, gi_sr, gi_ci, gi_cl, gl_si, gl_sl, gl_sr, gl_ci, gl_cl, gr_si, gr_sl, gr_sr, gr_ci, gr_cl, ln_si, ln_sl, ln_sr, ln_ci, ln_cl, ok_si, ok_sl, ok_sr, ok_ci, ok_cl, gp_k hH, gp_l hH, gp_r hH, gp_m hH, Option.some.injEq, exists_eq_left', exists_eq_left, forall_eq, forall_eq', true_and, and_true, if_true, if_false, true_imp_iff, false_imp_iff, not_true_eq_false, not_false_eq_true, false_and, and_false, reduceIte, reduceCtorEq, forall_const, Nat.reduceEqDiff, Nat.reduceAdd, Nat.reduceMul, Nat.reduceSub, Nat.reduceLT, Nat.reduceLeDiff, Nat.reduceMod, Nat.reduceDiv, and_self, ne_eq, exists_const, Nat.add_sub_cancel, nI_add, pk_mul, pk_sub, q_rem, q_div, q_eq, q_le, q_lt, q_cl, q_in, q_m1, q_1m, q_neg, sh1n, bitn, q_mod2, q_neq0, bq_t, bq_f, bq_t2, bq_f2, i01, i10, q_tt, q_ff, ups_e, ups_n, fil_i, fil_o, zq_if, zq_0, zq_1, if_pos, if_neg, g7]
      exact nx
theorem wd_step {a x : Nat} (ha : a < 281474976710656) (hx : x < 256) : (lN a <<< ((8 : Int32).toInt64 &&& 63)) ||| (nI x).toInt64 = lN (a * 256 + x) := by
  rw [nI_l (by omega), l_shl _ _ 8 (by decide), l_or]
  congr 1
  rw [Nat.or_comm, or_sh x a (k := 8) (by omega)]
  omega
theorem wdV_b {p j : Nat} (hj : 1 ≤ j) (h : ∀ q, q < j → 65 ≤ b (p + q) ∧ b (p + q) < 256) : wdV b p j < 1152921504606846977 ∧ (wdV b p j < 281474976710656 ↔ j ≤ 6) := by
  unfold wdV
  have h0 : 1 ≤ (fun q => b (p + q)) 0 := by
    have := h 0 (by omega)
    show 1 ≤ b (p + 0)
    omega
  by_cases c : j ≤ 7
  · rw [if_pos c]
    have lt := pkN_lt (f := fun q => b (p + q)) (n := j) (fun q hq => (h q hq).2)
    have ge := pkN_ge (f := fun q => b (p + q)) h0 (j - 1)
    rw [show j - 1 + 1 = j by omega] at ge
    have hc : j = 1 ∨ j = 2 ∨ j = 3 ∨ j = 4 ∨ j = 5 ∨ j = 6 ∨ j = 7 := by omega
    rcases hc with e | e | e | e | e | e | e <;> subst e <;> simp only [Nat.reducePow, Nat.reduceSub] at lt ge <;> omega
  · rw [if_neg c]
    omega
theorem m_word (hG : Gp μ) (hT : TpM μ b L) {p : Nat} (hp : p < L) (hnd : isD (b p) = false) (hl : isLt (b p) = true) (h7 : mgi μ 314 7 = nI p) (h8 : mgi μ 314 8 = nI p) (h9 : mgi μ 314 9 = nI 2) (h11 : mgl μ 314 11 = lN 0) {Q : Me → Prop} (k : ∀ ν, Fn μ ν → MT ν b L p → Q ν) : L_X11_nextToken_168 314 μ Q := by
  obtain ⟨r1, r2, r3, r4⟩ := endR_b (c := isLt) (b := b) (L := L) (p := p + 1) (by omega)
  have eE : tkE b L p = endR isLt b L (p + 1) := by
    unfold tkE
    rw [if_neg (by omega), if_neg (by rw [hnd]; decide), if_pos hl]
  have eV : tvM b L p = 2 := by
    unfold tvM
    rw [if_neg (by omega), if_neg (by rw [hnd]; decide), if_pos hl]
  generalize endR isLt b L (p + 1) = e at *
  have hl3 := hT.1
  have lets : ∀ q, p ≤ q → q < e → isLt (b q) = true := fun q h1 h2 => by
    by_cases c : q = p
    · rw [c]; exact hl
    · exact r3 q (by omega) h2
  have wb : ∀ q, p ≤ q → q < e → 65 ≤ b q ∧ b q < 256 := fun q h1 h2 => by
    have := of_decide_eq_true (lets q h1 h2)
    omega
  refine loopZ (Bd := fun ν K => B_X11_nextToken_168 314 ν K Q) (fun ν n => ∃ q, p ≤ q ∧ q ≤ e ∧ n = e - q ∧ Fn μ ν ∧ mgi ν 314 7 = nI q ∧ mgi ν 314 8 = nI p ∧ mgi ν 314 9 = nI 2 ∧ mgl ν 314 11 = lN (wdV b p (q - p))) ⟨_, p, Nat.le_refl _, by omega, rfl, fn_rf μ, h7, h8, h9, by rw [Nat.sub_self]; exact h11⟩ ?_
  rintro ν n ⟨q, q1, q2, rfl, hF, g7, g8, g9, g11⟩ K hK
  have hH := fn_gp hG hF
  have hTn := TpM_fn hT hF
  unfold B_X11_nextToken_168
  refine ⟨gp_ok hH (by decide) (by decide), ?_⟩
  rw [g7, e_byteAt hH hTn (by omega)]
  by_cases cq : q = e
  · have fin : Q ν := k ν hF ⟨by omega, g8, by rw [g7, eE, cq], by rw [g9, eV], fun _ x => absurd x (by rw [hnd]; decide), fun _ _ _ => by rw [g11, eE, cq]⟩
    by_cases cL : q < L
    · have hb := (hT.2.2 q cL).1
      have hn : isLt (b q) = false := by rw [cq]; exact r4 (by omega)
      rw [if_pos cL, e_isLB hb, if_neg (by rw [hn]; decide)]
      exact ⟨fun _ => fin, fun x => absurd rfl x⟩
    · rw [if_neg cL, e_isLBm]
      exact ⟨fun _ => fin, fun x => absurd rfl x⟩
  · have hlt : q < L := by omega
    have hb := (hT.2.2 q hlt).1
    rw [if_pos hlt, e_isLB hb, if_pos (lets q q1 (by omega))]
    refine ⟨fun x => absurd x (by decide), fun _ => ?_⟩
    have nxt : K (msi (msl ν 314 11 (lN (wdV b p (q + 1 - p)))) 314 7 (nI (q + 1))) := by
      refine hK _ (e - (q + 1)) (by omega) ⟨q + 1, by omega, by omega, rfl, fn_si (fn_sl hF 11 _) 7 _ (by omega), by rw [gi_si, if_pos ⟨rfl, rfl⟩], by rw [gi_si, if_neg (by omega), gi_sl]; exact g8, by rw [gi_si, if_neg (by omega), gi_sl]; exact g9, by rw [gl_si, gl_sl, if_pos ⟨rfl, rfl⟩]⟩
    have big : wdV b p (q - p) < 9223372036854775808 := by
      by_cases c : q = p
      · rw [c, Nat.sub_self]
        show 0 < _
        omega
      · have := (wdV_b (b := b) (p := p) (j := q - p) (by omega) (fun r hr => wb _ (by omega) (by omega))).1
        omega
    have shr : lN (wdV b p (q - p)) >>> ((48 : Int32).toInt64 &&& 63) = lN (wdV b p (q - p) / 281474976710656) := by
      rw [l_shr (by omega) _ 48 (by decide)]
    have le6 : wdV b p (q - p) / 281474976710656 = 0 ↔ q - p ≤ 6 := by
      by_cases c : q = p
      · rw [c, Nat.sub_self]
        have w0 : wdV b p 0 = 0 := by
          unfold wdV
          rw [if_pos (by omega)]
          rfl
        rw [w0]
        omega
      · have := (wdV_b (b := b) (p := p) (j := q - p) (by omega) (fun r hr => wb _ (by omega) (by omega))).2
        rw [← this]
        omega
    have lc : (lg_cmp (lN (wdV b p (q - p)) >>> ((48 : Int32).toInt64 &&& 63)) (0 : Int64) = 0) = (q - p ≤ 6) := by
      rw [shr, show (0 : Int64) = lN 0 from rfl]
      refine Eq.trans (lc_eq _ _) ?_
      rw [← le6]
      exact propext (pk_lEQ (by omega) (by omega))
    unfold B_X11_nextToken_218
    rw [g11, lc]
    refine ⟨fun c6 => ?_, fun c6 => ?_⟩
    · rw [g7, e_byteAt hH hTn (by omega), if_pos hlt]
      have w6 : wdV b p (q - p) < 281474976710656 := by
        by_cases c : q = p
        · rw [c, Nat.sub_self]
          show 0 < _
          omega
        · exact (wdV_b (b := b) (p := p) (j := q - p) (by omega) (fun r hr => wb _ (by omega) (by omega))).2.2 c6
      rw [wd_step w6 hb]
      have e1 : wdV b p (q - p) * 256 + b q = wdV b p (q + 1 - p) := by
        unfold wdV
        rw [if_pos (by omega), if_pos (by omega), show q + 1 - p = (q - p) + 1 by omega, pkN_s, show p + (q - p) = q by omega]
      rw [e1]
      simp (disch := first | omega | (simp only [Gp_si, Gp_sl, Gp_ci, Gp_cl]; assumption)) only [li_0, li_1, li_2, li_3, li_4, li_5, li_6, li_7, li_8, li_9, li_10, li_11, li_12, li_13, li_14, li_15, li_16, li_17, li_18, li_19, li_20, li_21, li_22, li_23, li_24, li_25, li_26, li_27, li_28, li_29, li_30, li_32, li_33, li_34, li_35, li_36, li_37, li_38, li_39, li_40, li_41, li_42, li_43, li_44, li_45, li_46, li_47, li_48, li_49, li_50, li_51, li_52, li_53, li_54, li_55, li_56, li_57, li_58, li_59, li_60, li_61, li_62, li_63, li_64, li_65, li_66, li_67, li_68, li_69, li_70, li_71, li_72, li_73, li_74, li_75, li_76, li_77, li_78, li_79, li_80, li_81, li_82, li_83, li_84, li_85, li_86, li_87, li_88, li_89, li_90, li_91, li_92, li_93, li_94, li_95, li_96, li_97, li_98, li_99, li_100, li_101, li_102, li_103, li_104, li_105, li_106, li_107, li_108, li_109, li_110, li_111, li_112, li_113, li_114, li_115, li_116, li_117, li_118, li_119, li_120, li_121, li_122, li_123, li_124, li_125, li_126, li_127, li_128, li_129, li_130, li_134, li_160, li_197, li_229, li_255, li_256, li_265, li_300, li_301, li_330, li_353, li_463, li_720, li_729, li_768, li_999, li_2610, li_2807, li_2867, li_2916, li_4096, li_9999, li_10000, li_30643, li_65535, li_99999, li_1000000, gi_si, gi_sl, gi_sr, gi_ci, gi_cl, gl_si, gl_sl, gl_sr, gl_ci, gl_cl, gr_si, gr_sl, gr_sr, gr_ci, gr_cl, ln_si, ln_sl, ln_sr, ln_ci, ln_cl, ok_si, ok_sl, ok_sr, ok_ci, ok_cl, gp_k hH, gp_l hH, gp_r hH, gp_m hH, Option.some.injEq, exists_eq_left', exists_eq_left, forall_eq, forall_eq', true_and, and_true, if_true, if_false, true_imp_iff, false_imp_iff, not_true_eq_false, not_false_eq_true, false_and, and_false, reduceIte, reduceCtorEq, forall_const, Nat.reduceEqDiff, Nat.reduceAdd, Nat.reduceMul, Nat.reduceSub, Nat.reduceLT, Nat.reduceLeDiff, Nat.reduceMod, Nat.reduceDiv, and_self, ne_eq, exists_const, Nat.add_sub_cancel, nI_add, pk_mul, pk_sub, q_rem, q_div, q_eq, q_le, q_lt, q_cl, q_in, q_m1, q_1m, q_neg, sh1n, bitn, q_mod2, q_neq0, bq_t, bq_f, bq_t2, bq_f2, i01, i10, q_tt, q_ff, ups_e, ups_n, fil_i, fil_o, zq_if, zq_0, zq_1, if_pos, if_neg, g7]
      exact nxt
    · have e1 : (1152921504606846976 : Int64) = lN (wdV b p (q + 1 - p)) := by
        unfold wdV
        rw [if_neg (by omega)]
        rfl
      rw [e1]
      simp (disch := first | omega | (simp only [Gp_si, Gp_sl, Gp_ci, Gp_cl]; assumption)) only [li_0, li_1, li_2, li_3, li_4, li_5, li_6, li_7, li_8, li_9, li_10, li_11, li_12, li_13, li_14, li_15, li_16, li_17, li_18, li_19, li_20, li_21, li_22, li_23, li_24, li_25, li_26, li_27, li_28, li_29, li_30, li_32, li_33, li_34, li_35, li_36, li_37, li_38, li_39, li_40, li_41, li_42, li_43, li_44, li_45, li_46, li_47, li_48, li_49, li_50, li_51, li_52, li_53, li_54, li_55, li_56, li_57, li_58, li_59, li_60, li_61, li_62, li_63, li_64, li_65, li_66, li_67, li_68, li_69, li_70, li_71, li_72, li_73, li_74, li_75, li_76, li_77, li_78, li_79, li_80, li_81, li_82, li_83, li_84, li_85, li_86, li_87, li_88, li_89, li_90, li_91, li_92, li_93, li_94, li_95, li_96, li_97, li_98, li_99, li_100, li_101, li_102, li_103, li_104, li_105, li_106, li_107, li_108, li_109, li_110, li_111, li_112, li_113, li_114, li_115, li_116, li_117, li_118, li_119, li_120, li_121, li_122, li_123, li_124, li_125, li_126, li_127, li_128, li_129, li_130, li_134, li_160, li_197, li_229, li_255, li_256, li_265, li_300, li_301, li_330, li_353, li_463, li_720, li_729, li_768, li_999, li_2610, li_2807, li_2867, li_2916, li_4096, li_9999, li_10000, li_30643, li_65535, li_99999, li_1000000, gi_si, gi_sl, gi_sr, gi_ci, gi_cl, gl_si, gl_sl, gl_sr, gl_ci, gl_cl, gr_si, gr_sl, gr_sr, gr_ci, gr_cl, ln_si, ln_sl, ln_sr, ln_ci, ln_cl, ok_si, ok_sl, ok_sr, ok_ci, ok_cl, gp_k hH, gp_l hH, gp_r hH, gp_m hH, Option.some.injEq, exists_eq_left', exists_eq_left, forall_eq, forall_eq', true_and, and_true, if_true, if_false, true_imp_iff, false_imp_iff, not_true_eq_false, not_false_eq_true, false_and, and_false, reduceIte, reduceCtorEq, forall_const, Nat.reduceEqDiff, Nat.reduceAdd, Nat.reduceMul, Nat.reduceSub, Nat.reduceLT, Nat.reduceLeDiff, Nat.reduceMod, Nat.reduceDiv, and_self, ne_eq, exists_const, Nat.add_sub_cancel, nI_add, pk_mul, pk_sub, q_rem, q_div, q_eq, q_le, q_lt, q_cl, q_in, q_m1, q_1m, q_neg, sh1n, bitn, q_mod2, q_neq0, bq_t, bq_f, bq_t2, bq_f2, i01, i10, q_tt, q_ff, ups_e, ups_n, fil_i, fil_o, zq_if, zq_0, zq_1, if_pos, if_neg, g7]
      exact nxt
end MK
