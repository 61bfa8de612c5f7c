/-! the reference begins a part of a sum -/
def tpR : List Nat → Nat
  | [] => 0
  | x :: _ => rkM x
theorem opc_le : ∀ S : List Nat, opc S ≤ S.length
  | [] => Nat.le_refl _
  | x :: S => by
    have := opc_le S
    have h1 : opc (x :: S) = isO x + opc S := rfl
    have h2 : (x :: S).length = S.length + 1 := rfl
    have h3 : isO x ≤ 1 := by
      unfold isO
      split <;> omega
    omega
/-- the reference stands at token j; fl: whether it has read a part of a sum -/
def Mq (μ : Me) (b : Nat → Nat) (L n i law j fl : Nat) (S : List Nat) (C : Cd) : Prop := Gp μ ∧ TpM μ b L ∧ MT μ b L (tps b L j) ∧ (j ≤ n ∧ i < 4 ∧ n ≤ 300 ∧ (∀ q, n ≤ q → kdT b L q = 51)) ∧ mgi μ 314 14 = nI law ∧ mgi μ 314 18 = nI fl ∧ Sy μ i S C ∧ C.length + S.length ≤ j
/-- it stands at the token of a fault -/
def Mf (μ : Me) (b : Nat → Nat) (L j : Nat) : Prop := Gp μ ∧ mgi μ 314 8 = nI (tps b L j)
theorem sy_fn {μ ν : Me} {i : Nat} {S : List Nat} {C : Cd} (h : Sy μ i S C) (k : Fn μ ν) : Sy ν i S C := by
  obtain ⟨⟨a1, a2, a3⟩, a4, a5, a6⟩ := h
  have g := k.2.2.2.2.1
  exact ⟨⟨(g 314 16 (by omega)).trans a1, a2, StP_m S a3 (fun q _ => g 319 q (by omega))⟩, wm_m a4 (g 314 12 (by omega)) (g 314 13 (by omega)) (fun q => g 317 q (by omega)), (g 314 17 (by omega)).trans a5, a6⟩
section MB
variable {μ : Me} {b : Nat → Nat} {L n i law j : Nat} {S : List Nat} {C : Cd}
theorem m_nx {Q : Me → Prop} (hG : Gp μ) (hT : TpM μ b L) (hM : MT μ b L (tps b L j)) (k : ∀ ν, Fn μ ν → MT ν b L (tps b L (j + 1)) → Q ν) : S_X11_nextToken 314 μ Q := by
  refine m_next hG hT hM.2.2.1 ?_ k
  by_cases c : tps b L j < L
  · exact (tkE_b c).2
  · have := tps_le (b := b) (L := L) j
    unfold tkE
    rw [if_pos (by omega)]
    exact this
/-- the next token, all else as it was -/
theorem m_nq {Q : Me → Prop} {fl : Nat} (h : Gp μ ∧ TpM μ b L ∧ MT μ b L (tps b L j)) (h14 : mgi μ 314 14 = nI law) (h18 : mgi μ 314 18 = nI fl) (hr : j < n ∧ i < 4 ∧ n ≤ 300 ∧ (∀ q, n ≤ q → kdT b L q = 51)) (hS : Sy μ i S C) (hl : C.length + S.length ≤ j + 1) (k : ∀ ν, Fg i μ ν → Mq ν b L n i law (j + 1) fl S C → Q ν) : S_X11_nextToken 314 μ Q := by
  refine m_nx h.1 h.2.1 h.2.2 (fun ν f1 f2 => k ν (fg_fn f1) ⟨fn_gp h.1 f1, TpM_fn h.2.1 f1, f2, ⟨hr.1, hr.2⟩, (f1.2.2.2.2.1 314 14 (by omega)).trans h14, (f1.2.2.2.2.1 314 18 (by omega)).trans h18, sy_fn hS f1, hl⟩)
theorem mq_lt {fl : Nat} (h : Mq μ b L n i law j fl S C) (hk : kdT b L j ≠ 51) : j < n := Nat.lt_of_not_le (fun q => hk (h.2.2.2.1.2.2.2 j q))
theorem mt_si {q : Nat} {v : Int32} {o : Nat} {p : Nat} (h : MT μ b L p) (ho : o = 314 → 10 < q) : MT (msi μ o q v) b L p := by
  obtain ⟨h1, h2, h3, h4, h5, h6⟩ := h
  have g : ∀ x, x ≤ 10 → mgi (msi μ o q v) 314 x = mgi μ 314 x := fun x hx => by rw [gi_si, if_neg (by omega)]
  exact ⟨h1, (g 8 (by omega)).trans h2, (g 7 (by omega)).trans h3, (g 9 (by omega)).trans h4, fun a c => by rw [g 10 (by omega)]; exact h5 a c, h6⟩
theorem tp_si {q : Nat} {v : Int32} {o : Nat} (h : TpM μ b L) (ho : (o = 314 → 4 < q) ∧ o ≠ 318) : TpM (msi μ o q v) b L := ⟨h.1, by rw [gi_si, if_neg (by omega)]; exact h.2.1, fun k hk => ⟨(h.2.2 k hk).1, by rw [gi_si, if_neg (by omega)]; exact (h.2.2 k hk).2⟩⟩
/-- the pile grows -/
theorem sy_push {x q : Nat} (h : Sy μ i S C) (hx : x < 50) (hl : S.length < 100) (hc : C.length + S.length < 300) (hq : q = isO x + opc S) : Sy (msi (msi (msi μ 314 17 (nI q)) 319 S.length (nI x)) 314 16 (nI (S.length + 1))) i (x :: S) C := by
  obtain ⟨⟨a1, a2, a3⟩, a4, a5, a6, a7⟩ := h
  refine ⟨⟨?_, fun y hy => ?_, ?_, StP_m S a3 (fun z hz => ?_)⟩, wm_m a4 ?_ ?_ (fun z => ?_), ?_, ?_, ?_⟩
  · rw [gi_si, if_pos ⟨rfl, rfl⟩]
    rfl
  · rcases List.mem_cons.1 hy with y1 | y1
    · omega
    · exact a2 y y1
  · rw [gi_si, if_neg (by omega), gi_si, if_pos ⟨rfl, rfl⟩]
  · rw [gi_si, if_neg (by omega), gi_si, if_neg (by omega), gi_si, if_neg (by omega)]
  · rw [gi_si, if_neg (by omega), gi_si, if_neg (by omega), gi_si, if_neg (by omega)]
  · rw [gi_si, if_neg (by omega), gi_si, if_neg (by omega), gi_si, if_neg (by omega)]
  · rw [gi_si, if_neg (by omega), gi_si, if_neg (by omega), gi_si, if_neg (by omega)]
  · rw [gi_si, if_neg (by omega), gi_si, if_neg (by omega), gi_si, if_pos ⟨rfl, rfl⟩, hq]
    rfl
  · show C.length + (S.length + 1) ≤ 300
    omega
  · show S.length + 1 ≤ 100
    omega
theorem m_opened {Q : Int32 → Me → Prop} {x : Nat} (h : Mq μ b L n i law j 0 S C) (hk : kdT b L j ≠ 51) (hl : S.length < 100) (hx : x < 50) (ho : isO x = 1) (k0 : opc S = 8 → Q 3 μ) (k1 : opc S ≠ 8 → ∀ ν, Fg i μ ν → Mq ν b L n i law (j + 1) 0 (x :: S) C → Q 0 ν) : S_X11_opened 314 (nI x) μ Q := by
  have hj := mq_lt h hk
  obtain ⟨hG, hT, hM, hr, h14, h18, hS, hc⟩ := h
  obtain ⟨o1, o2, o3, o4⟩ := md_ok hG
  have h17 := hS.2.2.1
  have h16 := hS.1.1
  have hop := opc_le S
  have e8 : (mgi μ 314 17 = 8) = (opc S = 8) := by
    rw [h17]
    exact q_eq (b := 8) (by omega) (by omega)
  refine ⟨o1, fun c => ?_, fun c => k0 (e8.mp c)⟩
  have hF : Fg i μ (msi (msi (msi μ 314 17 (nI (opc S + 1))) 319 S.length (nI x)) 314 16 (nI (S.length + 1))) := fg_si (fg_si (fg_si (fg_rf i μ) _ _ _ (by omega)) _ _ _ (by omega)) _ _ _ (by omega)
  simp (disch := first | omega | (simp only [Gp_si, Gp_sl, Gp_ci, Gp_cl]; assumption)) only [li_0, li_1, li_2, li_3, li_4, li_5, li_6, li_7, li_8, li_9, li_10, li_11, li_12, li_13, li_14, li_15, li_16, li_17, li_18, li_19, li_20, li_21, li_22, li_23, li_24, li_25, li_26, li_27, li_28, li_29, li_30, li_32, li_33, li_34, li_35, li_36, li_37, li_38, li_39, li_40, li_41, li_42, li_43, li_44, li_45, li_46, li_47, li_48, li_49, li_50, li_51, li_52, li_53, li_54, li_55, li_56, li_57, li_58, li_59, li_60, li_61, li_62, li_63, li_64, li_65, li_66, li_67, li_68, li_69, li_70, li_71, li_72, li_73, li_74, li_75, li_76, li_77, li_78, li_79, li_80, li_81, li_82, li_83, li_84, li_85, li_86, li_87, li_88, li_89, li_90, li_91, li_92, li_93, li_94, li_95, li_96, li_97, li_98, li_99, li_100, li_101, li_102, li_103, li_104, li_105, li_106, li_107, li_108, li_109, li_110, li_111, li_112, li_113, li_114, li_115, li_116, li_117, li_118, li_119, li_120, li_121, li_122, li_123, li_124, li_125, li_126, li_127, li_128, li_129, li_130, li_134, li_160, li_197, li_229, li_255, li_256, li_265, li_300, li_301, li_330, li_353, li_463, li_720, li_729, li_768, li_999, li_2610, li_2807, li_2867, li_2916, li_4096, li_9999, li_10000, li_30643, li_65535, li_99999, li_1000000, gi_si, gi_sl, gi_sr, gi_ci, gi_cl, gl_si, gl_sl, gl_sr, gl_ci, gl_cl, gr_si, gr_sl, gr_sr, gr_ci, gr_cl, ln_si, ln_sl, ln_sr, ln_ci, ln_cl, ok_si, ok_sl, ok_sr, ok_ci, ok_cl, gp_k hG, gp_l hG, gp_r hG, gp_m hG, Option.some.injEq, exists_eq_left', exists_eq_left, forall_eq, forall_eq', true_and, and_true, if_true, if_false, true_imp_iff, false_imp_iff, not_true_eq_false, not_false_eq_true, false_and, and_false, reduceIte, reduceCtorEq, forall_const, Nat.reduceEqDiff, Nat.reduceAdd, Nat.reduceMul, Nat.reduceSub, Nat.reduceLT, Nat.reduceLeDiff, Nat.reduceMod, Nat.reduceDiv, and_self, ne_eq, exists_const, Nat.add_sub_cancel, nI_add, pk_mul, pk_sub, q_rem, q_div, q_eq, q_le, q_lt, q_cl, q_in, q_m1, q_1m, q_neg, sh1n, bitn, q_mod2, q_neq0, bq_t, bq_f, bq_t2, bq_f2, i01, i10, q_tt, q_ff, ups_e, ups_n, fil_i, fil_o, zq_if, zq_0, zq_1, if_pos, if_neg, h17, h16]
  refine m_nq (S := x :: S) (C := C) (fl := 0) (law := law) ⟨fg_gp hG hF, tp_si (tp_si (tp_si hT (by omega)) (by omega)) (by omega), mt_si (mt_si (mt_si hM (by omega)) (by omega)) (by omega)⟩ ?_ ?_ ⟨hj, hr.2⟩ (sy_push hS hx hl (by omega) (by omega)) ?_ (fun ν f1 f2 => k1 (fun q => c (e8.mpr q)) ν (fg_tr hF f1) f2)
  · simp (disch := first | omega | (simp only [Gp_si, Gp_sl, Gp_ci, Gp_cl]; assumption)) only [li_0, li_1, li_2, li_3, li_4, li_5, li_6, li_7, li_8, li_9, li_10, li_11, li_12, li_13, li_14, li_15, li_16, li_17, li_18, li_19, li_20, li_21, li_22, li_23, li_24, li_25, li_26, li_27, li_28, li_29, li_30, li_32, li_33, li_34, li_35, li_36, li_37, li_38, li_39, li_40, li_41, li_42, li_43, li_44, li_45, li_46, li_47, li_48, li_49, li_50, li_51, li_52, li_53, li_54, li_55, li_56, li_57, li_58, li_59, li_60, li_61, li_62, li_63, li_64, li_65, li_66, li_67, li_68, li_69, li_70, li_71, li_72, li_73, li_74, li_75, li_76, li_77, li_78, li_79, li_80, li_81, li_82, li_83, li_84, li_85, li_86, li_87, li_88, li_89, li_90, li_91, li_92, li_93, li_94, li_95, li_96, li_97, li_98, li_99, li_100, li_101, li_102, li_103, li_104, li_105, li_106, li_107, li_108, li_109, li_110, li_111, li_112, li_113, li_114, li_115, li_116, li_117, li_118, li_119, li_120, li_121, li_122, li_123, li_124, li_125, li_126, li_127, li_128, li_129, li_130, li_134, li_160, li_197, li_229, li_255, li_256, li_265, li_300, li_301, li_330, li_353, li_463, li_720, li_729, li_768, li_999, li_2610, li_2807, li_2867, li_2916, li_4096, li_9999, li_10000, li_30643, li_65535, li_99999, li_1000000, gi_si, gi_sl, gi_sr, gi_ci, gi_cl, gl_si, gl_sl, gl_sr, gl_ci, gl_cl, gr_si, gr_sl, gr_sr, gr_ci, gr_cl, ln_si, ln_sl, ln_sr, ln_ci, ln_cl, ok_si, ok_sl, ok_sr, ok_ci, ok_cl, Option.some.injEq, exists_eq_left', exists_eq_left, forall_eq, forall_eq', true_and, and_true, if_true, if_false, true_imp_iff, false_imp_iff, not_true_eq_false, not_false_eq_true, false_and, and_false, reduceIte, reduceCtorEq, forall_const, Nat.reduceEqDiff, Nat.reduceAdd, Nat.reduceMul, Nat.reduceSub, Nat.reduceLT, Nat.reduceLeDiff, Nat.reduceMod, Nat.reduceDiv, and_self, ne_eq, exists_const, Nat.add_sub_cancel, nI_add, pk_mul, pk_sub, q_rem, q_div, q_eq, q_le, q_lt, q_cl, q_in, q_m1, q_1m, q_neg, sh1n, bitn, q_mod2, q_neq0, bq_t, bq_f, bq_t2, bq_f2, i01, i10, q_tt, q_ff, ups_e, ups_n, fil_i, fil_o, zq_if, zq_0, zq_1, if_pos, if_neg, h14]
  · simp (disch := first | omega | (simp only [Gp_si, Gp_sl, Gp_ci, Gp_cl]; assumption)) only [li_0, li_1, li_2, li_3, li_4, li_5, li_6, li_7, li_8, li_9, li_10, li_11, li_12, li_13, li_14, li_15, li_16, li_17, li_18, li_19, li_20, li_21, li_22, li_23, li_24, li_25, li_26, li_27, li_28, li_29, li_30, li_32, li_33, li_34, li_35, li_36, li_37, li_38, li_39, li_40, li_41, li_42, li_43, li_44, li_45, li_46, li_47, li_48, li_49, li_50, li_51, li_52, li_53, li_54, li_55, li_56, li_57, li_58, li_59, li_60, li_61, li_62, li_63, li_64, li_65, li_66, li_67, li_68, li_69, li_70, li_71, li_72, li_73, li_74, li_75, li_76, li_77, li_78, li_79, li_80, li_81, li_82, li_83, li_84, li_85, li_86, li_87, li_88, li_89, li_90, li_91, li_92, li_93, li_94, li_95, li_96, li_97, li_98, li_99, li_100, li_101, li_102, li_103, li_104, li_105, li_106, li_107, li_108, li_109, li_110, li_111, li_112, li_113, li_114, li_115, li_116, li_117, li_118, li_119, li_120, li_121, li_122, li_123, li_124, li_125, li_126, li_127, li_128, li_129, li_130, li_134, li_160, li_197, li_229, li_255, li_256, li_265, li_300, li_301, li_330, li_353, li_463, li_720, li_729, li_768, li_999, li_2610, li_2807, li_2867, li_2916, li_4096, li_9999, li_10000, li_30643, li_65535, li_99999, li_1000000, gi_si, gi_sl, gi_sr, gi_ci, gi_cl, gl_si, gl_sl, gl_sr, gl_ci, gl_cl, gr_si, gr_sl, gr_sr, gr_ci, gr_cl, ln_si, ln_sl, ln_sr, ln_ci, ln_cl, ok_si, ok_sl, ok_sr, ok_ci, ok_cl, Option.some.injEq, exists_eq_left', exists_eq_left, forall_eq, forall_eq', true_and, and_true, if_true, if_false, true_imp_iff, false_imp_iff, not_true_eq_false, not_false_eq_true, false_and, and_false, reduceIte, reduceCtorEq, forall_const, Nat.reduceEqDiff, Nat.reduceAdd, Nat.reduceMul, Nat.reduceSub, Nat.reduceLT, Nat.reduceLeDiff, Nat.reduceMod, Nat.reduceDiv, and_self, ne_eq, exists_const, Nat.add_sub_cancel, nI_add, pk_mul, pk_sub, q_rem, q_div, q_eq, q_le, q_lt, q_cl, q_in, q_m1, q_1m, q_neg, sh1n, bitn, q_mod2, q_neq0, bq_t, bq_f, bq_t2, bq_f2, i01, i10, q_tt, q_ff, ups_e, ups_n, fil_i, fil_o, zq_if, zq_0, zq_1, if_pos, if_neg, h18]
  · show C.length + (S.length + 1) ≤ j + 1
    omega
/-- a number or a name is read -/
theorem m_put {Q : Int32 → Me → Prop} {o v : Nat} (h : Mq μ b L n i law j 0 S C) (hk : kdT b L j ≠ 51) (k : ∀ ν, Fg i μ ν → Mq ν b L n i law (j + 1) 1 (stl 7 S (C ++ [(o, v)])).1 (stl 7 S (C ++ [(o, v)])).2 → Q 0 ν) : B_X11_beginOne_81 314 (nI v) (nI o) (some 314) μ Q := by
  have hj := mq_lt h hk
  obtain ⟨hG, hT, hM, hr, h14, h18, hS, hc⟩ := h
  have hln : (C ++ [(o, v)]).length = C.length + 1 := by rw [List.length_append]; rfl
  have o1 : mok μ 314 11 := gp_ok hG (by decide) (by decide)
  refine ⟨314, rfl, o1, m_emit hG hr.2.1 hS.2.1 (by omega) (fun ν f1 f2 f3 f4 f5 => ?_)⟩
  have hH := fg_gp hG f1
  have hS2 : Sy ν i S (C ++ [(o, v)]) := ⟨⟨(f2 16 (by omega)).trans hS.1.1, hS.1.2.1, StP_m S hS.1.2.2 (fun q _ => f3 q)⟩, f5, (f2 17 (by omega)).trans hS.2.2.1, by omega, hS.2.2.2.2⟩
  have hT2 : TpM ν b L := ⟨hT.1, (f2 4 (by omega)).trans hT.2.1, fun q hq => ⟨(hT.2.2 q hq).1, (f1.2.2.2.2.1 318 q (by omega) (by omega) (by omega)).trans (hT.2.2 q hq).2⟩⟩
  have hM2 : MT ν b L (tps b L j) := by
    obtain ⟨m1, m2, m3, m4, m5, m6⟩ := hM
    exact ⟨m1, (f2 8 (by omega)).trans m2, (f2 7 (by omega)).trans m3, (f2 9 (by omega)).trans m4, fun a c => by rw [f2 10 (by omega)]; exact m5 a c, fun a c e => by rw [f4]; exact m6 a c e⟩
  refine ⟨gp_ok hH (by decide) (by decide), m_nq (S := S) (C := C ++ [(o, v)]) (fl := 0) (law := law) ⟨hH, hT2, hM2⟩ ((f2 14 (by omega)).trans h14) ((f2 18 (by omega)).trans h18) ⟨hj, hr.2⟩ hS2 (by omega) (fun ν2 g1 g2 => ?_)⟩
  obtain ⟨hG3, hT3, hM3, hr3, h143, -, hS3, hc3⟩ := g2
  intro ρ hρ
  subst hρ
  have hF3 : Fg i ν2 (msi ν2 314 18 1) := fg_si (fg_rf i ν2) _ _ _ (by omega)
  have g : ∀ a q, (a = 314 → q ≠ 18) → mgi (msi ν2 314 18 1) a q = mgi ν2 a q := fun a q hq => by rw [gi_si, if_neg (by omega)]
  have hS4 : Sy (msi ν2 314 18 1) i S (C ++ [(o, v)]) := ⟨⟨(g 314 16 (by omega)).trans hS3.1.1, hS3.1.2.1, StP_m S hS3.1.2.2 (fun q _ => g 319 q (by omega))⟩, wm_m hS3.2.1 (g 314 12 (by omega)) (g 314 13 (by omega)) (fun q => g 317 q (by omega)), (g 314 17 (by omega)).trans hS3.2.2.1, hS3.2.2.2⟩
  refine m_settle (r := 7) (by omega) (by omega) (fg_gp hG3 hF3) hr.2.1 hS4 (fun ν4 e1 e2 e3 => k ν4 (fg_tr f1 (fg_tr g1 (fg_tr hF3 e1))) ?_)
  have sl := stl_len 7 S (C ++ [(o, v)])
  refine ⟨fg_gp (fg_gp hG3 hF3) e1, ?_, ?_, hr3, ?_, ?_, e3, by omega⟩
  · exact ⟨hT3.1, (e2.1 4 (by omega) (by omega) (by omega)).trans ((g 314 4 (by omega)).trans hT3.2.1), fun q hq => ⟨(hT3.2.2 q hq).1, (e1.2.2.2.2.1 318 q (by omega) (by omega) (by omega)).trans ((g 318 q (by omega)).trans (hT3.2.2 q hq).2)⟩⟩
  · obtain ⟨m1, m2, m3, m4, m5, m6⟩ := hM3
    have s : ∀ q, q ≤ 10 → mgi ν4 314 q = mgi ν2 314 q := fun q hq => (e2.1 q (by omega) (by omega) (by omega)).trans (g 314 q (by omega))
    exact ⟨m1, (s 8 (by omega)).trans m2, (s 7 (by omega)).trans m3, (s 9 (by omega)).trans m4, fun a c => by rw [s 10 (by omega)]; exact m5 a c, fun a c e => by rw [e2.2]; exact m6 a c e⟩
  · exact (e2.1 14 (by omega) (by omega) (by omega)).trans ((g 314 14 (by omega)).trans h143)
  · rw [e2.1 18 (by omega) (by omega) (by omega), gi_si, if_pos ⟨rfl, rfl⟩]
    rfl
end MB
