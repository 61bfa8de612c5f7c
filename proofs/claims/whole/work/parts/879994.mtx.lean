/-! a text read, both sides -/
section TT
variable {μ : Me} {b : Nat → Nat} {L n i : Nat} {Q : Int32 → Me → Prop}
theorem pTx_b {kd nm : Nat → Nat} (hn : ∀ i, n ≤ i → kd i = 51) (h3 : n ≤ 300) : ∀ (m : Nat) (Z : Zt) (j : Nat), Zg n j Z → (pTx kd nm m Z j).1 ≤ 9
  | 0, _, _, _ => Nat.le_refl 9
  | m + 1, Z, j, hg => by
    show (if kd j = 51 then _ else _ : Nat × Nat × Zt).1 ≤ 9
    by_cases y : kd j = 51
    · rw [if_pos y]
      exact Nat.zero_le _
    · rw [if_neg y]
      by_cases w : (pCl kd nm Z j).1 = 0
      · rw [if_pos w]
        exact pTx_b hn h3 m _ _ (zg_cl hn h3 hg w).1
      · rw [if_neg w]
        have := (pCl_b (nm := nm) hn h3 (Z := Z) (Nat.lt_of_not_le (fun q => y (hn j q)))).2.1
        omega
theorem m_text (hG : Gp μ) (hi : i < 4) (h1 : mgi μ 315 1 = nI i) (hT : TpM μ b L) (h3 : n ≤ 300) (hn : ∀ i, n ≤ i → kdT b L i = 51)
    (k1 : (pTx (kdT b L) (nmT b L) 25 ZtO 0).1 = 0 → ∀ ν, Fzm i μ ν → Zm ν i (pTx (kdT b L) (nmT b L) 25 ZtO 0).2.2 → Q (nI i) (msi (msi (msi (msi ν 314 5 0) 314 6 (-1)) 314 4 0) 315 1 (nI (i + 1))))
    (k0 : (pTx (kdT b L) (nmT b L) 25 ZtO 0).1 ≠ 0 → ∀ ν, Fzm i μ ν → Q (-1) (msi (msi (msi ν 314 5 (nI (pTx (kdT b L) (nmT b L) 25 ZtO 0).1)) 314 6 (nI (tps b L (pTx (kdT b L) (nmT b L) 25 ZtO 0).2.1))) 314 4 0)) : S_X11_text 314 μ Q := by
  have rw5 : ∀ ν : Me, Gp ν → mgr ν 314 0 = some 315 ∧ mok ν 315 12 ∧ vp_in (nI 1) (mln ν 315) := fun ν hH => by
    refine ⟨?_, gp_ok hH (by decide) (by decide), ?_⟩
    · simp (disch := first | omega | (simp only [Gp_si, Gp_sl, Gp_ci, Gp_cl]; assumption)) only [li_0, li_1, li_2, li_3, li_4, li_5, li_6, li_7, li_8, li_9, li_10, li_11, li_12, li_13, li_14, li_15, li_16, li_17, li_18, li_19, li_20, li_21, li_22, li_23, li_24, li_25, li_26, li_27, li_28, li_29, li_30, li_32, li_33, li_34, li_35, li_36, li_37, li_38, li_39, li_40, li_41, li_42, li_43, li_44, li_45, li_46, li_47, li_48, li_49, li_50, li_51, li_52, li_53, li_54, li_55, li_56, li_57, li_58, li_59, li_60, li_61, li_62, li_63, li_64, li_65, li_66, li_67, li_68, li_69, li_70, li_71, li_72, li_73, li_74, li_75, li_76, li_77, li_78, li_79, li_80, li_81, li_82, li_83, li_84, li_85, li_86, li_87, li_88, li_89, li_90, li_91, li_92, li_93, li_94, li_95, li_96, li_97, li_98, li_99, li_100, li_101, li_102, li_103, li_104, li_105, li_106, li_107, li_108, li_109, li_110, li_111, li_112, li_113, li_114, li_115, li_116, li_117, li_118, li_119, li_120, li_121, li_122, li_123, li_124, li_125, li_126, li_127, li_128, li_129, li_130, li_134, li_160, li_197, li_229, li_255, li_256, li_265, li_300, li_301, li_330, li_353, li_463, li_720, li_729, li_768, li_999, li_2610, li_2807, li_2867, li_2916, li_4096, li_9999, li_10000, li_30643, li_65535, li_99999, li_1000000, gi_si, gi_sl, gi_sr, gi_ci, gi_cl, gl_si, gl_sl, gl_sr, gl_ci, gl_cl, gr_si, gr_sl, gr_sr, gr_ci, gr_cl, ln_si, ln_sl, ln_sr, ln_ci, ln_cl, ok_si, ok_sl, ok_sr, ok_ci, ok_cl, gp_k hH, gp_l hH, gp_r hH, gp_m hH, Option.some.injEq, exists_eq_left', exists_eq_left, forall_eq, forall_eq', true_and, and_true, if_true, if_false, true_imp_iff, false_imp_iff, not_true_eq_false, not_false_eq_true, false_and, and_false, reduceIte, reduceCtorEq, forall_const, Nat.reduceEqDiff, Nat.reduceAdd, Nat.reduceMul, Nat.reduceSub, Nat.reduceLT, Nat.reduceLeDiff, Nat.reduceMod, Nat.reduceDiv, and_self, ne_eq, exists_const, Nat.add_sub_cancel, nI_add, pk_mul, pk_sub, q_rem, q_div, q_eq, q_le, q_lt, q_cl, q_in, q_m1, q_1m, q_neg, sh1n, bitn, q_mod2, q_neq0, bq_t, bq_f, bq_t2, bq_f2, i01, i10, q_tt, q_ff, ups_e, ups_n, fil_i, fil_o, zq_if, zq_0, zq_1, if_pos, if_neg]
    · rw [gp_ln hH (o := 315) (by decide) rfl, q_in (by omega) (by decide)]
      decide
  obtain ⟨o1, o2, o3, o4⟩ := tx_m hG
  obtain ⟨p1, p2, p3⟩ := rw5 μ hG
  have c1 : (1 : Int32).toNatClampNeg = 1 := by decide
  have e4 : (nI i = 4) = (i = 4) := q_eq (b := 4) (by omega) (by omega)
  have fb := pTx_b (nm := nmT b L) hn h3 25 ZtO 0 (zg_0 n)
  refine ⟨o1, 315, p1, p2, p3, fun _ => ?_, fun y => ?_⟩
  rotate_left
  · rw [c1, h1, e4] at y
    omega
  refine ⟨o1, 315, p1, p2, p3, fun μ2 e2 => ?_⟩
  have em : (729 : Int32) * nI i = nI (729 * i) := by
    rw [show (729 : Int32) = nI 729 from rfl, pk_mul]
  rw [c1, h1, em] at e2
  have F2 : Fzm i μ μ2 := by
    rw [e2]
    exact fzm_si (fzm_rf i μ) _ _ _ (by omega)
  have v2 : mgi μ2 314 12 = nI (729 * i) := by rw [e2, gi_si, if_pos ⟨rfl, rfl⟩]
  clear e2
  have G2 := fzm_gp hG F2
  obtain ⟨q1, q2, q3, q4⟩ := tx_m G2
  rw [v2]
  refine ⟨317, q2, q3, by rw [q_in (by omega) (by omega), q4]; omega, fun μ3 e3 μ4 e5 μ5 e6 μ6 e7 => ?_⟩
  rw [q_cl (by omega)] at e3
  have F6 : Fzm i μ2 μ6 := by
    rw [e7, e6, e5, e3]
    exact fzm_si (fzm_si (fzm_si (fzm_si (fzm_rf i μ2) _ _ _ (by omega)) _ _ _ (by omega)) _ _ _ (by omega)) _ _ _ (by omega)
  have w6 : mgi μ6 314 7 = nI 0 ∧ mgi μ6 314 19 = nI 0 ∧ mgi μ6 314 13 = nI 0 ∧ mgi μ6 317 (729 * i) = nI 0 ∧ mgi μ6 314 12 = nI (729 * i) := by
    refine ⟨?_, ?_, ?_, ?_, ?_⟩
    · rw [e7, gi_si, if_pos ⟨rfl, rfl⟩]; rfl
    · rw [e7, gi_si, if_neg (by omega), e6, gi_si, if_pos ⟨rfl, rfl⟩]; rfl
    · rw [e7, gi_si, if_neg (by omega), e6, gi_si, if_neg (by omega), e5, gi_si, if_pos ⟨rfl, rfl⟩]; rfl
    · rw [e7, gi_si, if_neg (by omega), e6, gi_si, if_neg (by omega), e5, gi_si, if_neg (by omega), e3, gi_si, if_pos ⟨rfl, rfl⟩]; rfl
    · rw [e7, gi_si, if_neg (by omega), e6, gi_si, if_neg (by omega), e5, gi_si, if_neg (by omega), e3, gi_si, if_neg (by omega)]; exact v2
  clear e3 e5 e6 e7
  obtain ⟨w7, w19, w13, w0, w12⟩ := w6
  have F26 := fzm_tr F2 F6
  have G6 := fzm_gp hG F26
  have T6 : TpM μ6 b L := ⟨hT.1, (F26.2.2.2.2.1 314 4 (by omega) (by omega) (by omega)).trans hT.2.1, fun q hq => ⟨(hT.2.2 q hq).1, (F26.2.2.2.2.1 318 q (by omega) (by omega) (by omega)).trans (hT.2.2 q hq).2⟩⟩
  refine m_next G6 T6 w7 (Nat.zero_le _) (fun μ7 F7 M7 => ?_)
  have G7 := fn_gp G6 F7
  have g7 := F7.2.2.2.2.1
  have hp : Mp μ7 b L n i 0 := ⟨G7, TpM_fn T6 F7, M7, Nat.zero_le _, hi, h3, hn⟩
  have hZ : Zm μ7 i ZtO := ⟨(g7 317 _ (by omega)).trans w0, ⟨(g7 314 12 (by omega)).trans w12, (g7 314 13 (by omega)).trans w13, trivial⟩, fun k hk => absurd hk (Nat.not_lt_zero k), fun l hl z hz => (by cases hz), (g7 314 19 (by omega)).trans w19⟩
  have F27 := fzm_tr F26 (fzm_n (i := i) F7)
  refine m_read hp hZ (fun y ν f1 f2 ρ1 e1 => ?_) (fun y ν f1 f2 ρ1 e1 => ?_)
  · have FF := fzm_tr F27 f1
    have hH := fzm_gp hG FF
    have x1 : mgi ν 315 1 = nI i := (FF.2.2.2.2.1 315 1 (by omega) (by omega) (by omega)).trans h1
    have v5 : mgi ρ1 314 5 = 0 := by rw [e1, gi_si, if_pos ⟨rfl, rfl⟩]
    have k1 := k1 y ν FF f2
    refine ⟨fun w => absurd v5 w, fun _ => ⟨314, rfl, ?_⟩⟩
    have H1 : Gp ρ1 := by
      rw [e1]
      exact Gp_x hH (Nat.le_refl _) (fun _ _ => ⟨rfl, rfl⟩) (fun _ _ _ _ _ _ _ _ _ => rfl)
    refine ⟨(tx_m H1).1, fun ρ2 e2 => ?_⟩
    have H2 : Gp ρ2 := by
      rw [e2]
      exact Gp_x H1 (Nat.le_refl _) (fun _ _ => ⟨rfl, rfl⟩) (fun _ _ _ _ _ _ _ _ _ => rfl)
    refine ⟨(tx_m H2).1, fun ρ3 e3 => ?_⟩
    have H3 : Gp ρ3 := by
      rw [e3]
      exact Gp_x H2 (Nat.le_refl _) (fun _ _ => ⟨rfl, rfl⟩) (fun _ _ _ _ _ _ _ _ _ => rfl)
    have v53 : mgi ρ3 314 5 = 0 := by rw [e3, gi_si, if_neg (by omega), e2, gi_si, if_neg (by omega)]; exact v5
    have x3 : mgi ρ3 315 1 = nI i := by rw [e3, gi_si, if_neg (by omega), e2, gi_si, if_neg (by omega), e1, gi_si, if_neg (by omega)]; exact x1
    obtain ⟨r1, r2, r3⟩ := rw5 ρ3 H3
    refine ⟨fun _ => ⟨315, r1, r2, r3, r3, fun ρ4 e4 => ?_⟩, fun w => absurd v53 w⟩
    rw [c1, x3, nI_s1] at e4
    have H4 : Gp ρ4 := by
      rw [e4]
      exact Gp_x H3 (Nat.le_refl _) (fun _ _ => ⟨rfl, rfl⟩) (fun _ _ _ _ _ _ _ _ _ => rfl)
    have x4 : mgi ρ4 315 1 = nI (i + 1) := by rw [e4, gi_si, if_pos ⟨rfl, rfl⟩]
    obtain ⟨s1, s2, s3⟩ := rw5 ρ4 H4
    refine ⟨315, s1, s2, s3, ?_⟩
    rw [c1, x4, nI_dec, e4, e3, e2, e1]
    exact k1
  · have FF := fzm_tr F27 f1
    have hH := fzm_gp hG FF
    have v5 : mgi ρ1 314 5 = nI (pTx (kdT b L) (nmT b L) 25 ZtO 0).1 := by rw [e1, gi_si, if_pos ⟨rfl, rfl⟩]
    have v8 : mgi ρ1 314 8 = nI (tps b L (pTx (kdT b L) (nmT b L) 25 ZtO 0).2.1) := by rw [e1, gi_si, if_neg (by omega)]; exact f2.2
    have n5 : ¬ nI (pTx (kdT b L) (nmT b L) 25 ZtO 0).1 = 0 := fun w => y ((q_eq (b := 0) (by omega) (by omega)).mp w)
    have k0 := k0 y ν FF
    refine ⟨fun _ => ⟨314, rfl, ?_⟩, fun w => absurd (v5.symm.trans w) n5⟩
    have H1 : Gp ρ1 := by
      rw [e1]
      exact Gp_x hH (Nat.le_refl _) (fun _ _ => ⟨rfl, rfl⟩) (fun _ _ _ _ _ _ _ _ _ => rfl)
    refine ⟨(tx_m H1).1, fun ρ2 e2 => ?_⟩
    rw [v8] at e2
    have H2 : Gp ρ2 := by
      rw [e2]
      exact Gp_x H1 (Nat.le_refl _) (fun _ _ => ⟨rfl, rfl⟩) (fun _ _ _ _ _ _ _ _ _ => rfl)
    refine ⟨(tx_m H2).1, fun ρ3 e3 => ?_⟩
    have v53 : mgi ρ3 314 5 = nI (pTx (kdT b L) (nmT b L) 25 ZtO 0).1 := by rw [e3, gi_si, if_neg (by omega), e2, gi_si, if_neg (by omega)]; exact v5
    refine ⟨fun w => absurd (v53.symm.trans w) n5, fun _ => ?_⟩
    rw [e3, e2, e1]
    exact k0
end TT
section TU
variable {μ ρ : Me} {s si : Nat → Nat} {T : Nat → Tx} {tn L c : Nat} {b : Nat → Nat}
theorem top_txt (hC : Cl μ s T tn) (hM : Mo μ s T) (hR : Rst μ s si T L b) (ht : tn ≤ 1 + c) (hi : s 1 < 4) (hk : mnn ρ = mnn μ ∧ (∀ a, mkd ρ a = mkd μ a) ∧ (∀ a, mln ρ a = mln μ a)) (hr : ∀ a q, (a = 290 → q ≠ 1) → (a = 299 → q ≠ 6) → mgr ρ a q = mgr μ a q)
    (e : ∀ a q, a ≠ 0 → (a = 271 → q ≠ 1) → (a < 290 ∨ 294 < a) → (a < 274 + 4 * s 1 ∨ 277 + 4 * s 1 < a) → (a = 314 → q < 4 ∨ 19 < q) → (a = 317 → q < 729 * s 1 ∨ 729 * s 1 + 729 ≤ q) → a ≠ 319 → (a = 1 → q ≠ 6) → (a = 315 → q ≠ 1) → mgi ρ a q = mgi μ a q)
    (el : ∀ a q, a < 290 → mgl ρ a q = mgl μ a q) (h271 : mgi ρ 271 1 = 0) (h4 : mgi ρ 314 4 = 0) (h9 : Ft9 ρ)
    (hs : (mgi ρ 1 6 = nI (s 1) ∧ mgi ρ 315 1 = nI (s 1)) ∨ (mgi ρ 1 6 = nI (s 1 + 1) ∧ mgi ρ 315 1 = nI (s 1 + 1) ∧ ∃ x, TxC ρ (s 1) x ∧ TxM ρ (s 1) x ∧ TaM ρ (s 1) x)) : Top ρ c := by
  have hG : Gp ρ := Gp_x hC.1 (Nat.le_of_eq hk.1.symm) (fun a _ => ⟨hk.2.1 a, hk.2.2 a⟩) (fun a q _ _ _ _ h5 h6 _ => hr a q h5 h6)
  obtain ⟨h1, h2, h3, hw, h5, -, h7, h8, a, len, k1, k2, k3, k4⟩ := hR
  obtain ⟨-, cW, cT, cX, cC⟩ := hC
  obtain ⟨-, mA, mW, mX⟩ := hM
  have wn := wf_n cW
  have eo : ∀ a q, (a < 290 ∨ 294 < a) → (a < 274 ∨ 289 < a) → a ≠ 0 → a ≠ 1 → a ≠ 271 → a ≠ 314 → a ≠ 315 → a ≠ 317 → a ≠ 319 → mgi ρ a q = mgi μ a q := fun a q x1 x2 x3 x4 x5 x6 x7 x8 x9 => e a q x3 (by omega) x1 (by omega) (by omega) (by omega) x9 (by omega) (by omega)
  have tC : ∀ i, i < s 1 → TxC ρ i (T i) := fun i hi2 => TxC_y (cX i hi2) (fun a q x y => e a q (by omega) (by omega) (by omega) (by omega) (by omega) (by omega) (by omega) (by omega) (by omega))
  have tM : ∀ i, i < s 1 → TxM ρ i (T i) := fun i hi2 => TxM_y (mX i hi2) (fun q x y => e 317 q (by omega) (by omega) (by omega) (by omega) (by omega) (by omega) (by omega) (by omega) (by omega))
  have tA : ∀ i, i < s 1 → TaM ρ i (T i) := fun i hi2 => TaM_y (h1 i hi2) (mX i hi2).1 (fun q x y => e 317 q (by omega) (by omega) (by omega) (by omega) (by omega) (by omega) (by omega) (by omega) (by omega))
  have t136 : TownR ρ 136 si := TownR_x h2 (fun a q _ _ => eo a q (by omega) (by omega) (by omega) (by omega) (by omega) (by omega) (by omega) (by omega) (by omega)) (fun a q _ _ => el a q (by omega))
  have r316 : RowA ρ 316 si := RowA_x h3 (fun q => eo _ q (by omega) (by omega) (by omega) (by omega) (by omega) (by omega) (by omega) (by omega) (by omega))
  have e1o : ∀ a q, 1 ≤ a → a < 136 → (a = 1 → q ≠ 6) → mgi ρ a q = mgi μ a q := fun a q x y z => e a q (by omega) (by omega) (by omega) (by omega) (by omega) (by omega) (by omega) z (by omega)
  have e315 : ∀ q, q ≠ 1 → mgi ρ 315 q = mgi μ 315 q := fun q hq => e 315 q (by omega) (by omega) (by omega) (by omega) (by omega) (by omega) (by omega) (by omega) (fun _ => hq)
  have tp : Tp ρ 0 b := ⟨by omega, h271, h4, fun k hk => absurd hk (Nat.not_lt_zero k)⟩
  have h24 : mgi ρ 314 24 = nI 1 := (e 314 24 (by omega) (by omega) (by omega) (by omega) (by omega) (by omega) (by omega) (by omega) (by omega)).trans h8
  have ak : ∃ a len, Ak ρ a len := ⟨a, len, (hr 310 4 (by omega) (by omega)).trans k1, ⟨by rw [hk.1]; exact k2.1, (hk.2.1 a).trans k2.2⟩, (hk.2.2 a).trans k3, k4⟩
  have ec : ∀ a q, 306 ≤ a → a < 309 → mgi ρ a q = mgi μ a q := fun a q x y => eo a q (by omega) (by omega) (by omega) (by omega) (by omega) (by omega) (by omega) (by omega) (by omega)
  rcases hs with ⟨s6, s1⟩ | ⟨s6, s1, x, x1, x2, x3⟩
  · have o6 : mgi μ 1 6 = nI (s 1) := cT.1.2.1
    have o1 : mgi μ 315 1 = nI (s 1) := mA.1 1 (by omega) (by omega)
    refine ⟨s, si, T, tn, 0, b, ⟨hG, cW, TownR_x cT (fun a q x y => ?_) (fun a q _ _ => el a q (by omega)), tC, Ca_x cC ec⟩, ⟨hG, RowA_x mA (fun q => ?_), mW, tM⟩, ⟨tA, t136, r316, hw, h5, tp, h9, h24, ak⟩, ht⟩
    · by_cases w : a = 1 ∧ q = 6
      · rw [w.1, w.2, s6, o6]
      · exact e1o a q (by omega) (by omega) (fun w1 w2 => w ⟨w1, w2⟩)
    · by_cases w : q = 1
      · rw [w, s1, o1]
      · exact e315 q w
  · have us : ups s 1 (s 1 + 1) 1 = s 1 + 1 := ups_e rfl
    have ut : ∀ i, i < s 1 → upTx T (s 1) x i = T i := fun i hi2 => if_neg (by omega)
    have un : upTx T (s 1) x (s 1) = x := if_pos rfl
    refine ⟨ups s 1 (s 1 + 1), si, upTx T (s 1) x, tn, 0, b, ⟨hG, wf_1 cW hi, town_1 cT cW s6 e1o (fun a q _ _ => el a q (by omega)), fun i hi2 => ?_, ca_1 cW cC ec⟩, ⟨hG, row_1 mA s1 e315, wf_1 cW hi, fun i hi2 => ?_⟩, ⟨fun i hi2 => ?_, t136, r316, hw, by omega, tp, h9, h24, ak⟩, ht⟩
    · by_cases w : i = s 1
      · rw [w, un]
        exact x1
      · rw [ut i (by omega)]
        exact tC i (by omega)
    · by_cases w : i = s 1
      · rw [w, un]
        exact x2
      · rw [ut i (by omega)]
        exact tM i (by omega)
    · by_cases w : i = s 1
      · rw [w, un]
        exact x3
      · rw [ut i (by omega)]
        exact tA i (by omega)
end TU
