/-! the reference reads a clause: its small pieces -/
/-- what reading a text may change in the reference -/
def Fzm (i : Nat) (μ ν : Me) : Prop := mnn ν = mnn μ ∧ (∀ a, mkd ν a = mkd μ a) ∧ (∀ a, mln ν a = mln μ a) ∧ (∀ a q, mgr ν a q = mgr μ a q) ∧ (∀ a q, (a = 314 → q < 7 ∨ 19 < q) → (a = 317 → q < 729 * i ∨ 729 * i + 729 ≤ q) → a ≠ 319 → mgi ν a q = mgi μ a q) ∧ (∀ a q, a ≠ 314 → mgl ν a q = mgl μ a q)
theorem fzm_rf (i : Nat) (μ : Me) : Fzm i μ μ := ⟨rfl, fun _ => rfl, fun _ => rfl, fun _ _ => rfl, fun _ _ _ _ _ => rfl, fun _ _ _ => rfl⟩
theorem fzm_tr {i : Nat} {μ ν ρ : Me} (h : Fzm i μ ν) (k : Fzm i ν ρ) : Fzm i μ ρ := ⟨k.1.trans h.1, fun a => (k.2.1 a).trans (h.2.1 a), fun a => (k.2.2.1 a).trans (h.2.2.1 a), fun a q => (k.2.2.2.1 a q).trans (h.2.2.2.1 a q), fun a q x y z => (k.2.2.2.2.1 a q x y z).trans (h.2.2.2.2.1 a q x y z), fun a q x => (k.2.2.2.2.2 a q x).trans (h.2.2.2.2.2 a q x)⟩
theorem fzm_gp {i : Nat} {μ ν : Me} (hG : Gp μ) (h : Fzm i μ ν) : Gp ν := Gp_x hG (Nat.le_of_eq h.1.symm) (fun a _ => ⟨h.2.1 a, h.2.2.1 a⟩) (fun a q _ _ _ _ _ _ _ => h.2.2.2.1 a q)
theorem fzm_si {i : Nat} {μ ν : Me} (h : Fzm i μ ν) (o k : Nat) (v : Int32) (ho : (o = 314 ∧ 7 ≤ k ∧ k ≤ 19) ∨ (o = 317 ∧ 729 * i ≤ k ∧ k < 729 * i + 729) ∨ o = 319) : Fzm i μ (msi ν o k v) := fzm_tr h ⟨rfl, fun _ => rfl, fun _ => rfl, fun _ _ => rfl, fun a q x y z => by rw [gi_si, if_neg (by rintro ⟨rfl, rfl⟩; omega)], fun _ _ _ => rfl⟩
theorem fzm_n {i : Nat} {μ ν : Me} (h : Fn μ ν) : Fzm i μ ν := ⟨h.1, h.2.1, h.2.2.1, h.2.2.2.1, fun a q x y z => h.2.2.2.2.1 a q (fun e => by have := x e; omega), h.2.2.2.2.2⟩
theorem fzm_g {i : Nat} {μ ν : Me} (h : Fg i μ ν) : Fzm i μ ν := ⟨h.1, h.2.1, h.2.2.1, h.2.2.2.1, fun a q x y z => h.2.2.2.2.1 a q (fun e => by have := x e; omega) (fun e => by have := y e; omega) z, h.2.2.2.2.2⟩
/-- the reference stands at token j -/
def Mp (μ : Me) (b : Nat → Nat) (L n i j : Nat) : Prop := Gp μ ∧ TpM μ b L ∧ MT μ b L (tps b L j) ∧ (j ≤ n ∧ i < 4 ∧ n ≤ 300 ∧ (∀ q, n ≤ q → kdT b L q = 51))
/-- what reading numbers changes in the reference: slots x to y of the texts -/
def Fxm (x y : Nat) (μ ν : Me) : Prop := mnn ν = mnn μ ∧ (∀ a, mkd ν a = mkd μ a) ∧ (∀ a, mln ν a = mln μ a) ∧ (∀ a q, mgr ν a q = mgr μ a q) ∧ (∀ a q, (a = 314 → q < 7 ∨ 10 < q) → (a = 317 → q < x ∨ y ≤ q) → mgi ν a q = mgi μ a q) ∧ (∀ a q, a ≠ 314 → mgl ν a q = mgl μ a q)
theorem fxm_rf (x y : Nat) (μ : Me) : Fxm x y μ μ := ⟨rfl, fun _ => rfl, fun _ => rfl, fun _ _ => rfl, fun _ _ _ _ => rfl, fun _ _ _ => rfl⟩
theorem fxm_tr {x y : Nat} {μ ν ρ : Me} (h : Fxm x y μ ν) (k : Fxm x y ν ρ) : Fxm x y μ ρ := ⟨k.1.trans h.1, fun a => (k.2.1 a).trans (h.2.1 a), fun a => (k.2.2.1 a).trans (h.2.2.1 a), fun a q => (k.2.2.2.1 a q).trans (h.2.2.2.1 a q), fun a q u v => (k.2.2.2.2.1 a q u v).trans (h.2.2.2.2.1 a q u v), fun a q u => (k.2.2.2.2.2 a q u).trans (h.2.2.2.2.2 a q u)⟩
theorem fxm_mo {x y x' y' : Nat} {μ ν : Me} (h : Fxm x y μ ν) (hx : x' ≤ x) (hy : y ≤ y') : Fxm x' y' μ ν := ⟨h.1, h.2.1, h.2.2.1, h.2.2.2.1, fun a q u v => h.2.2.2.2.1 a q u (fun e => by have := v e; omega), h.2.2.2.2.2⟩
theorem fxm_n {x y : Nat} {μ ν : Me} (h : Fn μ ν) : Fxm x y μ ν := ⟨h.1, h.2.1, h.2.2.1, h.2.2.2.1, fun a q u _ => h.2.2.2.2.1 a q u, h.2.2.2.2.2⟩
theorem fxm_m {x y i : Nat} {μ ν : Me} (h : Fxm x y μ ν) (hx : 729 * i ≤ x) (hy : y ≤ 729 * i + 729) : Fzm i μ ν := ⟨h.1, h.2.1, h.2.2.1, h.2.2.2.1, fun a q u v _ => h.2.2.2.2.1 a q (fun e => by have := u e; omega) (fun e => by have := v e; omega), h.2.2.2.2.2⟩
section MCL
variable {μ ν : Me} {b : Nat → Nat} {L n i j : Nat} {Q : Int32 → Me → Prop}
theorem mp_lt (h : Mp μ b L n i j) (hk : kdT b L j ≠ 51) : j < n := Nat.lt_of_not_le (fun q => hk (h.2.2.2.2.2.2 j q))
theorem mp_f (h : Mp μ b L n i j) : Mf μ b L j := ⟨h.1, h.2.2.1.2.1⟩
theorem mp_9 (h : Mp μ b L n i j) : (mgi μ 314 9 = 1) = (kdT b L j = 50) ∧ (mgi μ 314 9 = 0) = (kdT b L j = 51) ∧ (mgi μ 314 9 = 59) = (kdT b L j = 36) := by
  have hv := tv_all (b := b) (L := L) (fun k hk => (h.2.1.2.2 k hk).1) (tps b L j)
  have q : ∀ x, x < 1000 → (mgi μ 314 9 = nI x) = (tvM b L (tps b L j) = x) := fun x hx => by rw [h.2.2.1.2.2.2.1, q_eq (by omega) (by omega)]
  exact ⟨(q 1 (by omega)).trans (propext hv.2.1), (q 0 (by omega)).trans (propext hv.1), (q 59 (by omega)).trans (propext (hv.2.2.2.2.2.2.1 6 (by omega)))⟩
theorem mp_nx {Q : Me → Prop} (h : Mp μ b L n i j) (hk : kdT b L j ≠ 51) (k : ∀ ν, Fn μ ν → Mp ν b L n i (j + 1) → Q ν) : S_X11_nextToken 314 μ Q := m_nx h.1 h.2.1 h.2.2.1 (fun ν f1 f2 => k ν f1 ⟨fn_gp h.1 f1, TpM_fn h.2.1 f1, f2, mp_lt h hk, h.2.2.2.2⟩)
/-- a slot of the texts is written -/
theorem mp_si {x : Nat} {v : Int32} (h : Mp μ b L n i j) : Mp (msi μ 317 x v) b L n i j := ⟨Gp_x h.1 (Nat.le_refl _) (fun _ _ => ⟨rfl, rfl⟩) (fun _ _ _ _ _ _ _ _ _ => rfl), tp_si h.2.1 (by omega), mt_si h.2.2.1 (by omega), h.2.2.2⟩
theorem mp_s1 {q : Nat} {v : Int32} (h : Mp μ b L n i j) (hq : 10 < q) : Mp (msi μ 314 q v) b L n i j := ⟨Gp_x h.1 (Nat.le_refl _) (fun _ _ => ⟨rfl, rfl⟩) (fun _ _ _ _ _ _ _ _ _ => rfl), tp_si h.2.1 (by omega), mt_si h.2.2.1 (by omega), h.2.2.2⟩
theorem tx_m (hG : Gp μ) : mok μ 314 11 ∧ mgr μ 314 2 = some 317 ∧ mok μ 317 12 ∧ mln μ 317 = 2916 := by
  refine ⟨gp_ok hG (by decide) (by decide), ?_, gp_ok hG (by decide) (by decide), gp_ln hG (by decide) (by decide)⟩
  simp (disch := first | omega | (simp only [Gp_si, Gp_sl, Gp_ci, Gp_cl]; assumption)) only [li_0, li_1, li_2, li_3, li_4, li_5, li_6, li_7, li_8, li_9, li_10, li_11, li_12, li_13, li_14, li_15, li_16, li_17, li_18, li_19, li_20, li_21, li_22, li_23, li_24, li_25, li_26, li_27, li_28, li_29, li_30, li_32, li_33, li_34, li_35, li_36, li_37, li_38, li_39, li_40, li_41, li_42, li_43, li_44, li_45, li_46, li_47, li_48, li_49, li_50, li_51, li_52, li_53, li_54, li_55, li_56, li_57, li_58, li_59, li_60, li_61, li_62, li_63, li_64, li_65, li_66, li_67, li_68, li_69, li_70, li_71, li_72, li_73, li_74, li_75, li_76, li_77, li_78, li_79, li_80, li_81, li_82, li_83, li_84, li_85, li_86, li_87, li_88, li_89, li_90, li_91, li_92, li_93, li_94, li_95, li_96, li_97, li_98, li_99, li_100, li_101, li_102, li_103, li_104, li_105, li_106, li_107, li_108, li_109, li_110, li_111, li_112, li_113, li_114, li_115, li_116, li_117, li_118, li_119, li_120, li_121, li_122, li_123, li_124, li_125, li_126, li_127, li_128, li_129, li_130, li_134, li_160, li_197, li_229, li_255, li_256, li_265, li_300, li_301, li_330, li_353, li_463, li_720, li_729, li_768, li_999, li_2610, li_2807, li_2867, li_2916, li_4096, li_9999, li_10000, li_30643, li_65535, li_99999, li_1000000, gi_si, gi_sl, gi_sr, gi_ci, gi_cl, gl_si, gl_sl, gl_sr, gl_ci, gl_cl, gr_si, gr_sl, gr_sr, gr_ci, gr_cl, ln_si, ln_sl, ln_sr, ln_ci, ln_cl, ok_si, ok_sl, ok_sr, ok_ci, ok_cl, gp_k hG, gp_l hG, gp_r hG, gp_m hG, Option.some.injEq, exists_eq_left', exists_eq_left, forall_eq, forall_eq', true_and, and_true, if_true, if_false, true_imp_iff, false_imp_iff, not_true_eq_false, not_false_eq_true, false_and, and_false, reduceIte, reduceCtorEq, forall_const, Nat.reduceEqDiff, Nat.reduceAdd, Nat.reduceMul, Nat.reduceSub, Nat.reduceLT, Nat.reduceLeDiff, Nat.reduceMod, Nat.reduceDiv, and_self, ne_eq, exists_const, Nat.add_sub_cancel, nI_add, pk_mul, pk_sub, q_rem, q_div, q_eq, q_le, q_lt, q_cl, q_in, q_m1, q_1m, q_neg, sh1n, bitn, q_mod2, q_neq0, bq_t, bq_f, bq_t2, bq_f2, i01, i10, q_tt, q_ff, ups_e, ups_n, fil_i, fil_o, zq_if, zq_0, zq_1, if_pos, if_neg]
theorem m_fig {x lo hi : Nat} (h : Mp μ b L n i j) (hx : x < 2916) (hlo : lo ≤ 1) (hhi : hi ≤ 255)
    (k1 : (stp (kdT b L) (nmT b L) 0 lo hi j).1 = 0 → ∀ ν, Fxm x (x + 1) μ ν → Mp ν b L n i (stp (kdT b L) (nmT b L) 0 lo hi j).2 → mgi ν 317 x = nI (nmT b L (j + sgW 0)) → Q 0 ν)
    (k0 : (stp (kdT b L) (nmT b L) 0 lo hi j).1 ≠ 0 → Mf μ b L (stp (kdT b L) (nmT b L) 0 lo hi j).2 → Q (nI (stp (kdT b L) (nmT b L) 0 lo hi j).1) μ) : S_X11_figure 314 (nI x) (nI lo) (nI hi) μ Q := by
  obtain ⟨o1, o2, o3, o4⟩ := tx_m h.1
  have es : stp (kdT b L) (nmT b L) 0 lo hi j = if kdT b L j = 50 then (if nmT b L j < lo ∨ hi < nmT b L j then (2, j) else (0, j + 1)) else (1, j) := if_neg (fun z => z.1 rfl)
  rw [es] at k1 k0
  unfold S_X11_figure
  rw [(mp_9 h).1]
  refine ⟨o1, fun c => ?_, fun c => ?_⟩
  · rw [if_pos c] at k1 k0
    have d : tps b L j < L ∧ isD (b (tps b L j)) = true := by
      have c' : tkK b L (tps b L j) = 50 := c
      have hv := tv_all (b := b) (L := L) (fun k hk => (h.2.1.2.2 k hk).1) (tps b L j)
      have hv1 := hv.2.1.2 c'
      by_cases c1 : L ≤ tps b L j
      · unfold tkK at c'
        rw [if_pos c1] at c'
        omega
      · refine ⟨by omega, ?_⟩
        unfold tvM at hv1
        rw [if_neg c1] at hv1
        by_cases c2 : isD (b (tps b L j)) = true
        · exact c2
        · exfalso
          rw [if_neg c2] at hv1
          have hb := (h.2.1.2.2 (tps b L j) (by omega)).1
          split at hv1
          · omega
          · split at hv1
            · omega
            · split at hv1
              · omega
              · split at hv1
                · rename_i c
                  rw [← sg_tab (b (tps b L j)) hb] at c
                  omega
                · omega
    obtain ⟨m, m1, m2, m3⟩ := h.2.2.1.2.2.2.2.1 d.1 d.2
    have hN : nmT b L j = if m < 10000 then m else 10000 := m3.symm
    have el : (nI m < nI lo) = (m < lo) := q_lt (by omega) (by omega)
    have eh : (nI hi < nI m) = (hi < m) := q_lt (by omega) (by omega)
    have eq2 : (m < lo ∨ hi < m) = (nmT b L j < lo ∨ hi < nmT b L j) := by
      rw [hN]
      apply propext
      split
      · exact Iff.rfl
      · omega
    rw [m1]
    by_cases c3 : m < lo ∨ hi < m
    · rw [if_pos (eq2.mp c3)] at k0
      have := k0 (by show 2 ≠ 0; omega) (mp_f h)
      unfold S_X11_isIn
      rw [el, eh]
      exact ⟨fun _ => bn0 this, fun _ => ⟨fun _ => bn0 this, fun w => by omega⟩⟩
    · rw [if_neg (fun w => c3 (eq2.mpr w))] at k1
      have hm : nmT b L j = m := by
        rw [hN, if_pos (by omega)]
      unfold S_X11_isIn
      rw [el, eh]
      refine ⟨fun w => by omega, fun _ => ⟨fun w => by omega, fun _ => bn1 ⟨317, o2, o3, by rw [q_in (by omega) (by omega), o4]; exact hx, fun ρ e => ?_⟩⟩⟩
      rw [q_cl (by omega), m1] at e
      subst e
      refine mp_nx (mp_si h) (by omega) (fun ν f1 f2 => k1 rfl ν (fxm_tr (ν := msi μ 317 x (nI m)) ⟨rfl, fun _ => rfl, fun _ => rfl, fun _ _ => rfl, fun a q _ v => by rw [gi_si, if_neg (by omega)], fun _ _ _ => rfl⟩ (fxm_n f1)) f2 ?_)
      rw [f1.2.2.2.2.1 317 x (by omega), gi_si, if_pos ⟨rfl, rfl⟩]
      show nI m = nI (nmT b L j)
      rw [hm]
  · rw [if_neg c] at k0
    exact k0 (by show 1 ≠ 0; omega) (mp_f h)
theorem m_wfig {x w lo hi : Nat} (hw : w ≠ 0) (hw2 : w < 26) (hw6 : kln w ≤ 6) (h : Mp μ b L n i j) (hi4 : i < 4) (hx : x < 2916) (hlo : lo ≤ 1) (hhi : hi ≤ 255) (hxi : 729 * i ≤ x ∧ x + 1 ≤ 729 * i + 729)
    (k1 : (stp (kdT b L) (nmT b L) w lo hi j).1 = 0 → ∀ ν, Fxm x (x + 1) μ ν → Mp ν b L n i (stp (kdT b L) (nmT b L) w lo hi j).2 → mgi ν 317 x = nI (nmT b L (j + sgW w)) → Q 0 ν)
    (k0 : (stp (kdT b L) (nmT b L) w lo hi j).1 ≠ 0 → ∀ ν, Fxm x (x + 1) μ ν → Mf ν b L (stp (kdT b L) (nmT b L) w lo hi j).2 → Q (nI (stp (kdT b L) (nmT b L) w lo hi j).1) ν) : S_X11_worded 314 (lN (pkN (kch w) (kln w))) (nI x) (nI lo) (nI hi) μ Q := by
  have s1 : sgW w = 1 := if_neg hw
  refine ⟨(tx_m h.1).1, ?_⟩
  rw [m_isWord h.1 h.2.1 h.2.2.1 hw2 hw6]
  by_cases c : tkK b L (tps b L j) = w
  · rw [if_pos c]
    have c' : kdT b L j = w := c
    have es : stp (kdT b L) (nmT b L) w lo hi j = stp (kdT b L) (nmT b L) 0 lo hi (j + 1) := stp_w hw c'
    rw [es] at k1 k0
    refine bn1 (mp_nx h (by omega) (fun ν f1 f2 => m_fig f2 hx hlo hhi (fun y ν2 g1 g2 g3 => k1 y ν2 (fxm_tr (fxm_n f1) g1) g2 ?_) (fun y g1 => k0 y ν (fxm_n f1) g1)))
    rw [s1]
    exact g3
  · rw [if_neg c]
    have es : stp (kdT b L) (nmT b L) w lo hi j = (1, j) := if_pos ⟨hw, c⟩
    rw [es] at k0
    exact bn0 (k0 (by show 1 ≠ 0; omega) μ (fxm_rf _ _ _) (mp_f h))
/-- sorts -/
theorem m_sort (h : Mp μ b L n i j) (k0 : 7 < kdT b L j → Q (-1) μ) (k1 : kdT b L j ≤ 7 → Q (nI (kmS (kdT b L j))) μ) : S_X11_sortOf 314 μ Q := by
  obtain ⟨hG, hT, hM, -⟩ := h
  have o1 := (tx_m hG).1
  have hkd : tkK b L (tps b L j) = kdT b L j := rfl
  have yes : ∀ x, x ≤ 7 → kdT b L j = x → Q (nI (kmS x)) μ := fun x hx e => by
    rw [e] at k1
    exact k1 hx
  unfold S_X11_sortOf
  rw [ew_0]
  refine ⟨o1, ?_⟩
  rw [m_isWord hG hT hM (by decide) (by decide), hkd]
  by_cases c : kdT b L j = 0
  · rw [if_pos c]
    exact bb1 (yes 0 (by omega) c)
  rw [if_neg c]
  refine bb0 ?_
  rw [ew_1, m_isWord hG hT hM (by decide) (by decide), hkd]
  by_cases c1 : kdT b L j = 1
  · rw [if_pos c1]
    exact bb1 (yes 1 (by omega) c1)
  rw [if_neg c1]
  refine bb0 ?_
  rw [ew_2, m_isWord hG hT hM (by decide) (by decide), hkd]
  by_cases c2 : kdT b L j = 2
  · rw [if_pos c2]
    exact bb1 (yes 2 (by omega) c2)
  rw [if_neg c2]
  refine bb0 ?_
  rw [ew_3, m_isWord hG hT hM (by decide) (by decide), hkd]
  by_cases c3 : kdT b L j = 3
  · rw [if_pos c3]
    exact bb1 (yes 3 (by omega) c3)
  rw [if_neg c3]
  refine bb0 ?_
  rw [ew_6, m_isWord hG hT hM (by decide) (by decide), hkd]
  by_cases c6 : kdT b L j = 6
  · rw [if_pos c6]
    exact bb1 (yes 6 (by omega) c6)
  rw [if_neg c6]
  refine bb0 ?_
  rw [ew_4, m_isWord hG hT hM (by decide) (by decide), hkd]
  by_cases c4 : kdT b L j = 4
  · rw [if_pos c4]
    exact bb1 (yes 4 (by omega) c4)
  rw [if_neg c4]
  refine bb0 ?_
  rw [ew_5, m_isWord hG hT hM (by decide) (by decide), hkd]
  by_cases c5 : kdT b L j = 5
  · rw [if_pos c5]
    exact bb1 (yes 5 (by omega) c5)
  rw [if_neg c5]
  refine bb0 ?_
  rw [ew_7, m_isWord hG hT hM (by decide) (by decide), hkd]
  by_cases c7 : kdT b L j = 7
  · rw [if_pos c7]
    exact bb1 (yes 7 (by omega) c7)
  rw [if_neg c7]
  exact bb0 (k0 (by omega))
/-- the body of a clause that isn't a law -/
theorem m_plain {k x : Nat} (hk : 2 ≤ k ∧ k ≤ 7) (h : Mp μ b L n i j) (hx : 729 * i ≤ x ∧ x + 5 ≤ 729 * i + 729)
    (k1 : (pPl (kdT b L) (nmT b L) (shC (kmS k)) j).1 = 0 → ∀ ν, Fxm (x + 1) (x + 5) μ ν → Mp ν b L n i (pPl (kdT b L) (nmT b L) (shC (kmS k)) j).2.1 → (∀ q, q < (shC (kmS k)).length → mgi ν 317 (x + 1 + q) = nI ((pPl (kdT b L) (nmT b L) (shC (kmS k)) j).2.2.getD q 0)) → Q 0 ν)
    (k0 : (pPl (kdT b L) (nmT b L) (shC (kmS k)) j).1 ≠ 0 → ∀ ν, Fxm (x + 1) (x + 5) μ ν → Mf ν b L (pPl (kdT b L) (nmT b L) (shC (kmS k)) j).2.1 → Q (nI (pPl (kdT b L) (nmT b L) (shC (kmS k)) j).1) ν) : S_X11_body 314 (nI (kmS k)) (nI x) μ Q := by
  have o1 := (tx_m h.1).1
  have hi4 := h.2.2.2.2.1
  have a1 : nI x + 1 = nI (x + 1) := nI_s1 x
  have a2 : nI x + 2 = nI (x + 2) := by simp only [li_2, nI_add]
  have a3 : nI x + 3 = nI (x + 3) := by simp only [li_3, nI_add]
  have a4 : nI x + 4 = nI (x + 4) := by simp only [li_4, nI_add]
  have f2b : ∀ w lo hi q, w ≠ 51 → q ≤ n → (stp (kdT b L) (nmT b L) w lo hi q).1 ≤ 2 := fun w lo hi q hw hq => (stp_g (nm := nmT b L) h.2.2.2.2.2.2 hw hq).2.2.1
  have n0 : ∀ f, f ≠ 0 → f ≤ 2 → ¬ nI f = 0 := fun f h1 h2 y => h1 ((q_eq (b := 0) (by omega) (by omega)).mp y)
  have single : ∀ lo hi, shC (kmS k) = [(0, lo, hi)] → lo ≤ 1 → hi ≤ 255 → S_X11_figure 314 (nI x + 1) (nI lo) (nI hi) μ Q := by
    intro lo hi e h1 h2
    rw [e] at k1 k0
    have es : pPl (kdT b L) (nmT b L) [(0, lo, hi)] j = if (stp (kdT b L) (nmT b L) 0 lo hi j).1 = 0 then (0, (stp (kdT b L) (nmT b L) 0 lo hi j).2, [nmT b L (j + sgW 0)]) else ((stp (kdT b L) (nmT b L) 0 lo hi j).1, (stp (kdT b L) (nmT b L) 0 lo hi j).2, []) := rfl
    rw [es] at k1 k0
    rw [a1]
    refine m_fig h (by omega) h1 h2 (fun y ν f1 f2 f3 => ?_) (fun y f1 => ?_)
    · rw [if_pos y] at k1
      refine k1 rfl ν (fxm_mo f1 (Nat.le_refl _) (by omega)) f2 (fun q hq => ?_)
      have hq : q < 1 := hq
      have q0 : q = 0 := by omega
      subst q0
      exact f3
    · rw [if_neg y] at k0
      exact k0 y μ (fxm_rf _ _ _) f1
  have hk2 : k = 2 ∨ k = 3 ∨ k = 4 ∨ k = 5 ∨ k = 6 ∨ k = 7 := by omega
  unfold S_X11_body
  rcases hk2 with c | c | c | c | c | c
  · have ek : kmS k = 2 := by rw [c]; rfl
    have esh : shC (kmS k) = [(0, 0, 3), (8, 1, 99), (9, 1, 99), (6, 0, 99)] := by rw [c]; rfl
    rw [esh] at k1 k0
    rw [ek]
    refine ⟨fun _ => ⟨o1, o1, ?_⟩, fun y => absurd rfl y⟩
    unfold B_X11_personClause_36 B_X11_personClause_60
    rw [a1, a2, a3, a4]
    refine m_fig (lo := 0) (hi := 3) h (by omega) (by omega) (by omega) (fun y1 ν1 f1 f2 f3 => bn0 ?_) (fun y1 f1 => ?_)
    rotate_left
    · have e : pPl (kdT b L) (nmT b L) [(0, 0, 3), (8, 1, 99), (9, 1, 99), (6, 0, 99)] j = ((stp (kdT b L) (nmT b L) 0 0 3 j).1, (stp (kdT b L) (nmT b L) 0 0 3 j).2, []) := if_neg y1
      rw [e] at k0
      have b1 := n0 _ y1 (f2b 0 0 3 j (by omega) h.2.2.2.1)
      have q := k0 y1 μ (fxm_rf _ _ _) f1
      exact ⟨fun _ => ⟨fun _ => ⟨fun w => absurd w b1, fun _ => q⟩, fun w => absurd w b1⟩, fun w => absurd w b1⟩
    have e : pPl (kdT b L) (nmT b L) [(0, 0, 3), (8, 1, 99), (9, 1, 99), (6, 0, 99)] j = ((pPl (kdT b L) (nmT b L) [(8, 1, 99), (9, 1, 99), (6, 0, 99)] (stp (kdT b L) (nmT b L) 0 0 3 j).2).1, (pPl (kdT b L) (nmT b L) [(8, 1, 99), (9, 1, 99), (6, 0, 99)] (stp (kdT b L) (nmT b L) 0 0 3 j).2).2.1, nmT b L (j + sgW 0) :: (pPl (kdT b L) (nmT b L) [(8, 1, 99), (9, 1, 99), (6, 0, 99)] (stp (kdT b L) (nmT b L) 0 0 3 j).2).2.2) := if_pos y1
    rw [e] at k1 k0
    generalize (stp (kdT b L) (nmT b L) 0 0 3 j).2 = j1 at k1 k0 f2
    rw [ew_8]
    refine m_wfig (w := 8) (lo := 1) (hi := 99) (by omega) (by omega) (by decide) f2 hi4 (by omega) (by omega) (by omega) (by omega) (fun y2 ν2 g1 g2 g3 => ?_) (fun y2 ν2 g1 g2 => ?_)
    rotate_left
    · have e : pPl (kdT b L) (nmT b L) [(8, 1, 99), (9, 1, 99), (6, 0, 99)] j1 = ((stp (kdT b L) (nmT b L) 8 1 99 j1).1, (stp (kdT b L) (nmT b L) 8 1 99 j1).2, []) := if_neg y2
      rw [e] at k0
      have b1 := n0 _ y2 (f2b 8 1 99 j1 (by omega) f2.2.2.2.1)
      have q := k0 y2 ν2 (fxm_tr (fxm_mo f1 (by omega) (by omega)) (fxm_mo g1 (by omega) (by omega))) g2
      exact ⟨fun _ => ⟨fun w => absurd w b1, fun _ => q⟩, fun w => absurd w b1⟩
    have e : pPl (kdT b L) (nmT b L) [(8, 1, 99), (9, 1, 99), (6, 0, 99)] j1 = ((pPl (kdT b L) (nmT b L) [(9, 1, 99), (6, 0, 99)] (stp (kdT b L) (nmT b L) 8 1 99 j1).2).1, (pPl (kdT b L) (nmT b L) [(9, 1, 99), (6, 0, 99)] (stp (kdT b L) (nmT b L) 8 1 99 j1).2).2.1, nmT b L (j1 + sgW 8) :: (pPl (kdT b L) (nmT b L) [(9, 1, 99), (6, 0, 99)] (stp (kdT b L) (nmT b L) 8 1 99 j1).2).2.2) := if_pos y2
    rw [e] at k1 k0
    generalize (stp (kdT b L) (nmT b L) 8 1 99 j1).2 = j2 at k1 k0 g2
    refine bn0 ?_
    rw [ew_9]
    refine ⟨(tx_m g2.1).1, m_wfig (w := 9) (lo := 1) (hi := 99) (by omega) (by omega) (by decide) g2 hi4 (by omega) (by omega) (by omega) (by omega) (fun y3 ν3 p1 p2 p3 => ?_) (fun y3 ν3 p1 p2 => ?_)⟩
    rotate_left
    · have e : pPl (kdT b L) (nmT b L) [(9, 1, 99), (6, 0, 99)] j2 = ((stp (kdT b L) (nmT b L) 9 1 99 j2).1, (stp (kdT b L) (nmT b L) 9 1 99 j2).2, []) := if_neg y3
      rw [e] at k0
      have b1 := n0 _ y3 (f2b 9 1 99 j2 (by omega) g2.2.2.2.1)
      have q := k0 y3 ν3 (fxm_tr (fxm_mo f1 (by omega) (by omega)) (fxm_tr (fxm_mo g1 (by omega) (by omega)) (fxm_mo p1 (by omega) (by omega)))) p2
      exact ⟨fun w => absurd w b1, fun _ => q⟩
    have e : pPl (kdT b L) (nmT b L) [(9, 1, 99), (6, 0, 99)] j2 = ((pPl (kdT b L) (nmT b L) [(6, 0, 99)] (stp (kdT b L) (nmT b L) 9 1 99 j2).2).1, (pPl (kdT b L) (nmT b L) [(6, 0, 99)] (stp (kdT b L) (nmT b L) 9 1 99 j2).2).2.1, nmT b L (j2 + sgW 9) :: (pPl (kdT b L) (nmT b L) [(6, 0, 99)] (stp (kdT b L) (nmT b L) 9 1 99 j2).2).2.2) := if_pos y3
    rw [e] at k1 k0
    generalize (stp (kdT b L) (nmT b L) 9 1 99 j2).2 = j3 at k1 k0 p2
    refine bb0 ?_
    rw [ew_6]
    refine ⟨(tx_m p2.1).1, m_wfig (w := 6) (lo := 0) (hi := 99) (by omega) (by omega) (by decide) p2 hi4 (by omega) (by omega) (by omega) (by omega) (fun y4 ν4 r1 r2 r3 => ?_) (fun y4 ν4 r1 r2 => ?_)⟩
    rotate_left
    · have e : pPl (kdT b L) (nmT b L) [(6, 0, 99)] j3 = ((stp (kdT b L) (nmT b L) 6 0 99 j3).1, (stp (kdT b L) (nmT b L) 6 0 99 j3).2, []) := if_neg y4
      rw [e] at k0
      exact k0 y4 ν4 (fxm_tr (fxm_mo f1 (by omega) (by omega)) (fxm_tr (fxm_mo g1 (by omega) (by omega)) (fxm_tr (fxm_mo p1 (by omega) (by omega)) (fxm_mo r1 (by omega) (by omega))))) r2
    have e : pPl (kdT b L) (nmT b L) [(6, 0, 99)] j3 = (0, (stp (kdT b L) (nmT b L) 6 0 99 j3).2, [nmT b L (j3 + sgW 6)]) := if_pos y4
    rw [e] at k1
    refine k1 rfl ν4 (fxm_tr (fxm_mo f1 (by omega) (by omega)) (fxm_tr (fxm_mo g1 (by omega) (by omega)) (fxm_tr (fxm_mo p1 (by omega) (by omega)) (fxm_mo r1 (by omega) (by omega))))) r2 (fun q hq => ?_)
    have hq : q < 4 := hq
    have : q = 0 ∨ q = 1 ∨ q = 2 ∨ q = 3 := by omega
    rcases this with rfl | rfl | rfl | rfl
    · exact (r1.2.2.2.2.1 317 (x + 1) (by omega) (by omega)).trans ((p1.2.2.2.2.1 317 (x + 1) (by omega) (by omega)).trans ((g1.2.2.2.2.1 317 (x + 1) (by omega) (by omega)).trans f3))
    · exact (r1.2.2.2.2.1 317 (x + 2) (by omega) (by omega)).trans ((p1.2.2.2.2.1 317 (x + 2) (by omega) (by omega)).trans g3)
    · exact (r1.2.2.2.2.1 317 (x + 3) (by omega) (by omega)).trans p3
    · exact r3
  · have ek : kmS k = 3 := by rw [c]; rfl
    rw [ek]
    exact ⟨fun y => absurd y (by decide), fun _ => ⟨fun _ => ⟨o1, single 0 255 (by rw [c]; rfl) (by omega) (by omega)⟩, fun y => absurd rfl y⟩⟩
  · have ek : kmS k = 5 := by rw [c]; rfl
    rw [ek]
    exact ⟨fun y => absurd y (by decide), fun _ => ⟨fun y => absurd y (by decide), fun _ => ⟨fun y => absurd y (by decide), fun _ => ⟨fun _ => ⟨o1, single 0 7 (by rw [c]; rfl) (by omega) (by omega)⟩, fun y => absurd rfl y⟩⟩⟩⟩
  · have ek : kmS k = 6 := by rw [c]; rfl
    rw [ek]
    exact ⟨fun y => absurd y (by decide), fun _ => ⟨fun y => absurd y (by decide), fun _ => ⟨fun y => absurd y (by decide), fun _ => ⟨fun y => absurd y (by decide), fun _ => ⟨fun _ => ⟨o1, single 0 7 (by rw [c]; rfl) (by omega) (by omega)⟩, fun y => absurd rfl y⟩⟩⟩⟩⟩
  · have ek : kmS k = 4 := by rw [c]; rfl
    have esh : shC (kmS k) = [(0, 0, 99), (16, 0, 7)] := by rw [c]; rfl
    rw [esh] at k1 k0
    rw [ek]
    refine ⟨fun y => absurd y (by decide), fun _ => ⟨fun y => absurd y (by decide), fun _ => ⟨fun _ => ⟨o1, o1, ?_⟩, fun y => absurd rfl y⟩⟩⟩
    rw [a1, a2]
    refine m_fig (lo := 0) (hi := 99) h (by omega) (by omega) (by omega) (fun y1 ν1 f1 f2 f3 => bb0 ?_) (fun y1 f1 => ?_)
    rotate_left
    · have e : pPl (kdT b L) (nmT b L) [(0, 0, 99), (16, 0, 7)] j = ((stp (kdT b L) (nmT b L) 0 0 99 j).1, (stp (kdT b L) (nmT b L) 0 0 99 j).2, []) := if_neg y1
      rw [e] at k0
      have b1 := n0 _ y1 (f2b 0 0 99 j (by omega) h.2.2.2.1)
      exact ⟨fun w => absurd w b1, fun _ => k0 y1 μ (fxm_rf _ _ _) f1⟩
    have e : pPl (kdT b L) (nmT b L) [(0, 0, 99), (16, 0, 7)] j = ((pPl (kdT b L) (nmT b L) [(16, 0, 7)] (stp (kdT b L) (nmT b L) 0 0 99 j).2).1, (pPl (kdT b L) (nmT b L) [(16, 0, 7)] (stp (kdT b L) (nmT b L) 0 0 99 j).2).2.1, nmT b L (j + sgW 0) :: (pPl (kdT b L) (nmT b L) [(16, 0, 7)] (stp (kdT b L) (nmT b L) 0 0 99 j).2).2.2) := if_pos y1
    rw [e] at k1 k0
    generalize (stp (kdT b L) (nmT b L) 0 0 99 j).2 = j1 at k1 k0 f2
    rw [ew_16]
    refine m_wfig (w := 16) (lo := 0) (hi := 7) (by omega) (by omega) (by decide) f2 hi4 (by omega) (by omega) (by omega) (by omega) (fun y2 ν2 g1 g2 g3 => ?_) (fun y2 ν2 g1 g2 => ?_)
    rotate_left
    · have e : pPl (kdT b L) (nmT b L) [(16, 0, 7)] j1 = ((stp (kdT b L) (nmT b L) 16 0 7 j1).1, (stp (kdT b L) (nmT b L) 16 0 7 j1).2, []) := if_neg y2
      rw [e] at k0
      exact k0 y2 ν2 (fxm_tr (fxm_mo f1 (by omega) (by omega)) (fxm_mo g1 (by omega) (by omega))) g2
    have e : pPl (kdT b L) (nmT b L) [(16, 0, 7)] j1 = (0, (stp (kdT b L) (nmT b L) 16 0 7 j1).2, [nmT b L (j1 + sgW 16)]) := if_pos y2
    rw [e] at k1
    refine k1 rfl ν2 (fxm_tr (fxm_mo f1 (by omega) (by omega)) (fxm_mo g1 (by omega) (by omega))) g2 (fun q hq => ?_)
    have hq : q < 2 := hq
    have : q = 0 ∨ q = 1 := by omega
    rcases this with rfl | rfl
    · exact (g1.2.2.2.2.1 317 (x + 1) (by omega) (by omega)).trans f3
    · exact g3
  · have ek : kmS k = 7 := by rw [c]; rfl
    rw [ek]
    exact ⟨fun y => absurd y (by decide), fun _ => ⟨fun y => absurd y (by decide), fun _ => ⟨fun y => absurd y (by decide), fun _ => ⟨fun y => absurd y (by decide), fun _ => ⟨fun y => absurd y (by decide), fun _ => ⟨fun _ => ⟨o1, single 1 60 (by rw [c]; rfl) (by omega) (by omega)⟩, fun y => absurd rfl y⟩⟩⟩⟩⟩⟩
end MCL
