/-! forgetting; whom one hears, the ruling text, what was heard and said: both sides -/
def xA (a : Nat) : Bool := decide (1 ≤ a ∧ a ≤ 135) || decide (299 ≤ a ∧ a ≤ 312)
theorem xA_x {a : Nat} (h : xA a = false) : (a = 0 ∨ 135 < a) ∧ (a < 299 ∨ 312 < a) := by
  unfold xA at h
  simp at h
  omega
theorem xA_o {a : Nat} (h : (a = 0 ∨ 135 < a) ∧ (a < 299 ∨ 312 < a)) : xA a = false := by
  unfold xA
  rw [decide_eq_false (by omega), decide_eq_false (by omega)]
  rfl
theorem fr_ta {μ ν : Me} (h : Fr xT μ ν) : Fr xA μ ν := fr_mo h (fun a x => xT_o (by have := xA_x x; omega))
theorem fr_ba {μ ν : Me} (h : Fr xB μ ν) : Fr xA μ ν := fr_mo h (fun a x => xB_x (by have := xA_x x; omega))
theorem fr_pa {μ ν : Me} (h : Fr (xP 302) μ ν) : Fr xA μ ν := fr_mo h (fun a x => xP_o (by have := xA_x x; omega) (by have := xA_x x; omega) (by have := xA_x x; omega))
def hearB (v u : Int32) : Bool := decide ((0 ≤ v ∧ v ≤ nI 7) ∧ 0 ≤ u ∧ u ≤ nI 7)
def hearS (s : Nat → Nat) (p q : Nat) (b : Int32) : Nat → Nat := ups s (67 + p) (if b = 0 then s (67 + p) &&& (2 ^ q ^^^ 4294967295) else s (67 + p) ||| 2 ^ q)
def hearT (s : Nat → Nat) (v u b : Int32) : Nat → Nat := if hearB v u = true then hearS s v.toInt.toNat u.toInt.toNat b else s
def byB (s : Nat → Nat) (v : Int32) : Bool := decide (-nI 1 ≤ v ∧ v < nI (s 1))
def byT (s : Nat → Nat) (v : Int32) : Nat → Nat := if byB s v = true then ups s 2 (v.toInt + 1).toNat else s
def hrdB (s : Nat → Nat) (v : Int32) : Bool := decide ((0 ≤ v ∧ v < nI (s 0)) ∧ s 4 < 8)
def hrdS (s : Nat → Nat) (p b : Nat) : Nat → Nat := ups (ups (ups s (75 + 2 * s 4) p) (76 + 2 * s 4) b) 4 (s 4 + 1)
def hrdT (s : Nat → Nat) (v b : Int32) : Nat → Nat := if v = -nI 1 then ups s 4 0 else if hrdB s v = true then hrdS s v.toInt.toNat (if b = 0 then 0 else 1) else s
def hrdV (s : Nat → Nat) (v : Int32) : Int32 := if v = -nI 1 then nI 0 else if hrdB s v = true then nI (s 4 + 1) else -nI 2
def sdB (s : Nat → Nat) (v u : Int32) : Bool := decide ((0 ≤ v ∧ v < nI (s 0)) ∧ (0 ≤ u ∧ u ≤ nI 999) ∧ s 5 < 8)
def sdS (s : Nat → Nat) (p b : Nat) : Nat → Nat := ups (ups (ups s (91 + 2 * s 5) p) (92 + 2 * s 5) b) 5 (s 5 + 1)
def sdT (s : Nat → Nat) (v u : Int32) : Nat → Nat := if v = -nI 1 then ups s 5 0 else if sdB s v u = true then sdS s v.toInt.toNat u.toInt.toNat else s
def sdV (s : Nat → Nat) (v u : Int32) : Int32 := if v = -nI 1 then nI 0 else if sdB s v u = true then nI (s 5 + 1) else -nI 2
theorem i_le {v : Int32} {n : Nat} (hn : n < 2147483647) (h0 : 0 ≤ v) (h : v < nI (n + 1)) : v ≤ nI n := by
  obtain ⟨k, hk, rfl⟩ := q_rg (by omega) ⟨h0, h⟩
  rw [q_le (by omega) (by omega)]
  omega
theorem lt_pred2 {n : Nat} {v : Int32} (hn : n < 1073741824) : (v ≤ nI n - nI 1) = (v < nI n) := by
  apply propext
  have e : (nI n - nI 1).toInt = (n : Int) - 1 := pk_sub_toInt hn (by decide)
  rw [Int32.le_iff_toInt_le, e, Int32.lt_iff_toInt_lt, q_ti (by omega)]
  omega
theorem by_ex {n : Nat} {v : Int32} (hn : n < 1073741824) (h : -nI 1 ≤ v ∧ v < nI n) : ∃ t, t ≤ n ∧ v = nI t - nI 1 ∧ (v.toInt + 1).toNat = t := by
  have h1 := Int32.le_iff_toInt_le.1 h.1
  have h2 := Int32.lt_iff_toInt_lt.1 h.2
  rw [q_ti (by omega)] at h2
  have h3 : (-nI 1 : Int32).toInt = -1 := by decide
  rw [h3] at h1
  refine ⟨(v.toInt + 1).toNat, by omega, ?_, rfl⟩
  apply Int32.toInt_inj.1
  rw [pk_sub_toInt (by omega) (by decide)]
  omega
section T4
variable {μ : Me} {s : Nat → Nat} {T : Nat → Tx} {tn : Nat} {v u b : Int32} {Q : Int32 → Me → Prop}
theorem past_y {ν : Me} {s' : Nat → Nat} (h : PastR μ 1 s) (hW : WF s) (e16 : mgi ν 1 16 = mgi μ 1 16) (e : ∀ a q, 16 ≤ a → a ≤ 135 → mgi ν a q = mgi μ a q) (el : ∀ a q, 16 ≤ a → a ≤ 135 → mgl ν a q = mgl μ a q) (e0 : s' 0 = s 0) (e3 : s' 3 = s 3) (ef : ∀ j, 107 ≤ j → j < 2807 → s' j = s j) (e17 : ∀ p, p < s 0 → s' (17 + 7 * p) = s (17 + 7 * p)) : PastR ν 1 s' := by
  have w := wf_n hW
  obtain ⟨el0, h1, h2, h3⟩ := h
  refine ⟨el0, h1, e16.trans h2, fun i hi => ?_⟩
  rw [e3] at hi
  have := Nat.mod_lt (el0 + i) (show 0 < 30 by decide)
  exact step_s (StepR_x (h3 i hi) (fun a q _ _ => e a q (by omega) (by omega)) (fun q => el _ q (by omega) (by omega))) (by omega) w.1 (wf_sp hW hi) e0 ef e17
/-- the town, where what is told alone changes -/
theorem tw_told {ν : Me} {s' : Nat → Nat} (h : Tw μ s T) (k : Fr xT μ ν) (hW : WF s') (hTo : ToldR ν 1 s') (e16 : mgi ν 1 16 = mgi μ 1 16) (e : ∀ a q, 11 ≤ a → a ≤ 135 → mgi ν a q = mgi μ a q) (el : ∀ a q, mgl ν a q = mgl μ a q) (es : ∀ j, (j = 0 ∨ j = 1 ∨ j = 3 ∨ (6 ≤ j ∧ j < 67) ∨ 107 ≤ j) → s' j = s j) : Tw ν s' T := by
  refine tw_tx h k hW (es 1 (by omega)) ⟨hTo, ?_, ?_⟩
  · exact now_s (MomR_x h.2.2.1.2.1 (fun q => e _ q (by omega) (by omega)) (fun q => e _ q (by omega) (by omega)) (fun q => e _ q (by omega) (by omega)) (fun q => el _ q)) h.2.1 (fun j hj => es j (by omega))
  · have w := wf_n h.2.1
    exact past_y h.2.2.1.2.2 h.2.1 e16 (fun a q h1 h2 => e a q (by omega) h2) (fun a q _ _ => el a q) (es 0 (by omega)) (es 3 (by omega)) (fun j h1 h2 => es j (by omega)) (fun p hp => es _ (by omega))
theorem p_forget (h : Cl μ s T tn) (ht : tn < 999999) {Q : Me → Prop} (k : ∀ ν, Fr xA μ ν → Tw ν s T → Cn ν (tn + 1) → Q ν) : S_X2_forget 306 μ Q := by
  have hG := h.1
  obtain ⟨c1, c2, c3⟩ := h.2.2.2.2
  unfold S_X2_forget
  simp (disch := first | omega | (simp only [Gp_si, Gp_sl, Gp_ci, Gp_cl]; assumption)) only [li_0, li_1, li_2, li_3, li_4, li_5, li_6, li_7, li_8, li_9, li_10, li_11, li_12, li_13, li_14, li_15, li_16, li_17, li_18, li_19, li_20, li_21, li_22, li_23, li_24, li_25, li_26, li_27, li_28, li_29, li_30, li_32, li_33, li_34, li_35, li_36, li_37, li_38, li_39, li_40, li_41, li_42, li_43, li_44, li_45, li_46, li_47, li_48, li_49, li_50, li_51, li_52, li_53, li_54, li_55, li_56, li_57, li_58, li_59, li_60, li_61, li_62, li_63, li_64, li_65, li_66, li_67, li_68, li_69, li_70, li_71, li_72, li_73, li_74, li_75, li_76, li_77, li_78, li_79, li_80, li_81, li_82, li_83, li_84, li_85, li_86, li_87, li_88, li_89, li_90, li_91, li_92, li_93, li_94, li_95, li_96, li_97, li_98, li_99, li_100, li_101, li_102, li_103, li_104, li_105, li_106, li_107, li_108, li_109, li_110, li_111, li_112, li_113, li_114, li_115, li_116, li_117, li_118, li_119, li_120, li_121, li_122, li_123, li_124, li_125, li_126, li_127, li_128, li_129, li_130, li_134, li_160, li_197, li_229, li_255, li_256, li_265, li_300, li_301, li_330, li_353, li_463, li_720, li_729, li_768, li_999, li_2610, li_2807, li_2867, li_2916, li_4096, li_9999, li_10000, li_30643, li_65535, li_99999, li_1000000, gi_si, gi_sl, gi_sr, gi_ci, gi_cl, gl_si, gl_sl, gl_sr, gl_ci, gl_cl, gr_si, gr_sl, gr_sr, gr_ci, gr_cl, ln_si, ln_sl, ln_sr, ln_ci, ln_cl, ok_si, ok_sl, ok_sr, ok_ci, ok_cl, gp_k hG, gp_l hG, gp_r hG, gp_m hG, Option.some.injEq, exists_eq_left', exists_eq_left, forall_eq, forall_eq', true_and, and_true, if_true, if_false, true_imp_iff, false_imp_iff, not_true_eq_false, not_false_eq_true, false_and, and_false, reduceIte, reduceCtorEq, forall_const, Nat.reduceEqDiff, Nat.reduceAdd, Nat.reduceMul, Nat.reduceSub, Nat.reduceLT, Nat.reduceLeDiff, Nat.reduceMod, Nat.reduceDiv, and_self, ne_eq, exists_const, Nat.add_sub_cancel, nI_add, pk_mul, pk_sub, q_rem, q_div, q_eq, q_le, q_lt, q_cl, q_in, q_m1, q_1m, q_neg, sh1n, bitn, q_mod2, q_neq0, bq_t, bq_f, bq_t2, bq_f2, i01, i10, q_tt, q_ff, ups_e, ups_n, fil_i, fil_o, zq_if, zq_0, zq_1, if_pos, if_neg, c2]
  refine k _ (fr_si (fr_rf _ _) 306 5 _ rfl) (Tw_x (tw_cl h) (by exact hG) (fun a q ha => by rw [gi_si, if_neg (by omega)]) (fun a q _ => rfl)) ⟨by omega, by rw [gi_si, if_pos ⟨rfl, rfl⟩], fun r hr => ?_⟩
  obtain ⟨kn, a1, a2, a3⟩ := c3 r hr
  exact ⟨kn, by omega, by rw [gi_si, if_neg (by omega)]; exact a2⟩
theorem cn_fr {ν : Me} (c : Cn μ tn) (k : Fr xT μ ν) : Cn ν tn := by
  obtain ⟨c1, c2, c3⟩ := c
  refine ⟨c1, (k.2.2.2.2.1 306 5 rfl).trans c2, fun r hr => ?_⟩
  obtain ⟨kn, a1, a2⟩ := c3 r hr
  exact ⟨kn, a1, (k.2.2.2.2.1 308 r rfl).trans a2⟩
theorem cl_tw (h : Tw μ s T) (c : Cn μ tn) : Cl μ s T tn := ⟨h.1, h.2.1, h.2.2.1, h.2.2.2, cn_ca c _ _⟩
theorem cl_late {ν : Me} {s' : Nat → Nat} (h : Cl μ s T tn) (hT : Tw ν s' T) (k : Fr xT μ ν) (e : ∀ j, (j = 0 ∨ j = 2 ∨ j = 6 ∨ j = 8 ∨ (11 ≤ j ∧ j < 75)) → s' j = s j) : Cl ν s' T tn := by
  refine ⟨hT.1, hT.2.1, hT.2.2.1, hT.2.2.2, ?_⟩
  obtain ⟨c1, c2, c3⟩ := h.2.2.2.2
  refine ⟨c1, (k.2.2.2.2.1 306 5 rfl).trans c2, fun r hr => ?_⟩
  obtain ⟨kn, a1, a2, a3⟩ := c3 r hr
  refine ⟨kn, a1, (k.2.2.2.2.1 308 r rfl).trans a2, fun x y => ?_⟩
  rw [e 0 (by omega)] at y
  rw [k.2.2.2.2.1 307 r rfl, e 2 (by omega), late_cong (wf_n h.2.1).1 (fun j hj => e j (by omega))]
  exact a3 x y
/-- whom one hears -/
theorem wf_67 (hW : WF s) {p x : Nat} (hp : p < 8) (hx : x < 256) : WF (ups s (67 + p) x) := by
  have wn := wf_n hW
  have e : ∀ j, j ≠ 67 + p → ups s (67 + p) x j = s j := fun j hj => ups_n hj
  refine wf_x hW (fun k => ?_) ?_ (fun q hq => ?_) (fun q hq => ?_) (Nat.le_of_eq (e 0 (by omega)).symm) (e 3 (by omega)) (e 4 (by omega)) (e 5 (by omega)) (e 10 (by omega)) (fun j hj => e j (by omega))
  · unfold ups
    split
    · omega
    · exact wf_b hW k
  · rw [e 0 (by omega), e 1 (by omega), e 2 (by omega), e 3 (by omega), e 4 (by omega), e 5 (by omega), e 6 (by omega), e 7 (by omega), e 8 (by omega), e 9 (by omega), e 10 (by omega)]
    exact wn
  · rw [e 0 (by omega)] at hq
    rw [e (11 + 7 * q) (by omega), e (12 + 7 * q) (by omega), e (13 + 7 * q) (by omega), e (14 + 7 * q) (by omega), e (15 + 7 * q) (by omega), e (16 + 7 * q) (by omega), e (17 + 7 * q) (by omega), e 6 (by omega)]
    exact wf_p hW hq
  · by_cases c : q = p
    · rw [c, ups_e rfl]
      exact hx
    · rw [e _ (by omega)]
      exact wf_h hW hq
theorem tw_67 (h : Tw μ s T) {p x : Nat} (hp : p < 8) (hx : x < 256) : Tw (msi μ 6 p (nI x)) (ups s (67 + p) x) T := by
  have wn := wf_n h.2.1
  have e : ∀ j, j ≠ 67 + p → ups s (67 + p) x j = s j := fun j hj => ups_n hj
  refine tw_told h (fr_si (fr_rf _ _) 6 p _ rfl) (wf_67 h.2.1 hp hx) ?_ (by rw [gi_si, if_neg (by omega)]) (fun a q _ _ => by rw [gi_si, if_neg (by omega)]) (fun _ _ => rfl) (fun j hj => e j (by omega))
  obtain ⟨c1, c2, c3, c4, c5, c6, c7, c8, c9, c10, c11⟩ := h.2.2.1.1
  refine ⟨?_, ?_, ?_, ?_, ?_, ?_, fun q hq => ?_, fun r hr => ?_, fun q hq => ?_, fun i hi => ?_, fun i hi => ?_⟩
  · rw [gi_si, if_neg (by omega), e 0 (by omega)]; exact c1
  · rw [gi_si, if_neg (by omega), e 1 (by omega)]; exact c2
  · rw [gi_si, if_neg (by omega), e 2 (by omega)]; exact c3
  · rw [gi_si, if_neg (by omega), e 3 (by omega)]; exact c4
  · rw [gi_si, if_neg (by omega), e 4 (by omega)]; exact c5
  · rw [gi_si, if_neg (by omega), e 5 (by omega)]; exact c6
  · rw [e 0 (by omega)] at hq
    rw [gi_si, if_neg (by omega), gi_si, if_neg (by omega), gi_si, if_neg (by omega), e (14 + 7 * q) (by omega), e (15 + 7 * q) (by omega), e (16 + 7 * q) (by omega)]
    exact c7 q hq
  · rw [gi_si, if_neg (by omega), e 0 (by omega), c8 r hr]
    congr 1
    exact setS_cong (fun q hq => by rw [e (14 + 7 * q) (by omega)])
  · show mgi _ 6 q = _
    rw [gi_si]
    by_cases c : q = p
    · rw [if_pos ⟨rfl, c⟩, c, ups_e rfl]
    · rw [if_neg (fun z => c z.2), e _ (by omega)]
      exact c9 q hq
  · rw [e 4 (by omega)] at hi
    rw [gi_si, if_neg (by omega), gi_si, if_neg (by omega), e (75 + 2 * i) (by omega), e (76 + 2 * i) (by omega)]
    exact c10 i hi
  · rw [e 5 (by omega)] at hi
    rw [gi_si, if_neg (by omega), gi_si, if_neg (by omega), e (91 + 2 * i) (by omega), e (92 + 2 * i) (by omega)]
    exact c11 i hi
theorem hear_b (hW : WF s) {p q : Nat} (hp : p < 8) (hq : q < 8) : s (67 + p) &&& (2 ^ q ^^^ 4294967295) < 256 ∧ s (67 + p) ||| 2 ^ q < 256 := by
  have h := wf_h hW hp
  refine ⟨Nat.lt_of_le_of_lt Nat.and_le_left h, Nat.or_lt_two_pow (n := 8) h ?_⟩
  exact Nat.pow_lt_pow_right (by decide) hq
theorem C_hears (h : Cl μ s T tn) (ht : tn < 999999) (k : ∀ ν tn', tn' ≤ tn + 1 → Fr xA μ ν → Cl ν (hearT s v u b) T tn' → Q (bV (hearB v u)) ν) : S_X10_hears 0 v u b μ Q := by
  have hG := h.1
  have hm1 : -nI 1 = nI 4294967295 := by decide
  unfold hearT at k
  unfold S_X10_hears B_X10_hears_72
  by_cases c : hearB v u = true
  · rw [if_pos c, c] at k
    obtain ⟨c1, c2⟩ := of_decide_eq_true c
    obtain ⟨p, hp, rfl⟩ := q_rg2 (by omega) c1
    obtain ⟨q, hq, rfl⟩ := q_rg2 (by omega) c2
    rw [vt (by omega), vt (by omega)] at k
    simp (disch := first | omega | (simp only [Gp_si, Gp_sl, Gp_ci, Gp_cl]; assumption)) only [li_0, li_1, li_2, li_3, li_4, li_5, li_6, li_7, li_8, li_9, li_10, li_11, li_12, li_13, li_14, li_15, li_16, li_17, li_18, li_19, li_20, li_21, li_22, li_23, li_24, li_25, li_26, li_27, li_28, li_29, li_30, li_32, li_33, li_34, li_35, li_36, li_37, li_38, li_39, li_40, li_41, li_42, li_43, li_44, li_45, li_46, li_47, li_48, li_49, li_50, li_51, li_52, li_53, li_54, li_55, li_56, li_57, li_58, li_59, li_60, li_61, li_62, li_63, li_64, li_65, li_66, li_67, li_68, li_69, li_70, li_71, li_72, li_73, li_74, li_75, li_76, li_77, li_78, li_79, li_80, li_81, li_82, li_83, li_84, li_85, li_86, li_87, li_88, li_89, li_90, li_91, li_92, li_93, li_94, li_95, li_96, li_97, li_98, li_99, li_100, li_101, li_102, li_103, li_104, li_105, li_106, li_107, li_108, li_109, li_110, li_111, li_112, li_113, li_114, li_115, li_116, li_117, li_118, li_119, li_120, li_121, li_122, li_123, li_124, li_125, li_126, li_127, li_128, li_129, li_130, li_134, li_160, li_197, li_229, li_255, li_256, li_265, li_300, li_301, li_330, li_353, li_463, li_720, li_729, li_768, li_999, li_2610, li_2807, li_2867, li_2916, li_4096, li_9999, li_10000, li_30643, li_65535, li_99999, li_1000000, gi_si, gi_sl, gi_sr, gi_ci, gi_cl, gl_si, gl_sl, gl_sr, gl_ci, gl_cl, gr_si, gr_sl, gr_sr, gr_ci, gr_cl, ln_si, ln_sl, ln_sr, ln_ci, ln_cl, ok_si, ok_sl, ok_sr, ok_ci, ok_cl, gp_k hG, gp_l hG, gp_r hG, gp_m hG, Option.some.injEq, exists_eq_left', exists_eq_left, forall_eq, forall_eq', true_and, and_true, if_true, if_false, true_imp_iff, false_imp_iff, not_true_eq_false, not_false_eq_true, false_and, and_false, reduceIte, reduceCtorEq, forall_const, Nat.reduceEqDiff, Nat.reduceAdd, Nat.reduceMul, Nat.reduceSub, Nat.reduceLT, Nat.reduceLeDiff, Nat.reduceMod, Nat.reduceDiv, and_self, ne_eq, exists_const, Nat.add_sub_cancel, nI_add, pk_mul, pk_sub, q_rem, q_div, q_eq, q_le, q_lt, q_cl, q_in, q_m1, q_1m, q_neg, sh1n, bitn, q_mod2, q_neq0, bq_t, bq_f, bq_t2, bq_f2, i01, i10, q_tt, q_ff, ups_e, ups_n, fil_i, fil_o, zq_if, zq_0, zq_1, if_pos, if_neg]
    refine p_forget h ht (fun ν hF hT hC => ?_)
    have hH := hT.1
    have v6 : mgi ν 6 p = nI (s (67 + p)) := hT.2.2.1.1.2.2.2.2.2.2.2.2.1 p (by omega)
    obtain ⟨b1, b2⟩ := hear_b hT.2.1 (p := p) (q := q) (by omega) (by omega)
    have fin : ∀ x, x < 256 → (if b = 0 then s (67 + p) &&& (2 ^ q ^^^ 4294967295) else s (67 + p) ||| 2 ^ q) = x → Q (nI 1) (msi ν 6 p (nI x)) := by
      intro x hx e
      have hT2 := tw_67 hT (p := p) (x := x) (by omega) hx
      have hF2 : Fr xT ν (msi ν 6 p (nI x)) := fr_si (fr_rf _ _) 6 p _ rfl
      unfold hearS at k
      rw [e] at k
      exact k _ (tn + 1) (Nat.le_refl _) (fr_tr hF (fr_ta hF2)) (cl_tw hT2 (cn_fr hC hF2))
    by_cases hb : b = 0
    · subst hb
      have f := fin _ b1 (if_pos rfl)
      simp (disch := first | omega | (simp only [Gp_si, Gp_sl, Gp_ci, Gp_cl]; assumption)) only [li_0, li_1, li_2, li_3, li_4, li_5, li_6, li_7, li_8, li_9, li_10, li_11, li_12, li_13, li_14, li_15, li_16, li_17, li_18, li_19, li_20, li_21, li_22, li_23, li_24, li_25, li_26, li_27, li_28, li_29, li_30, li_32, li_33, li_34, li_35, li_36, li_37, li_38, li_39, li_40, li_41, li_42, li_43, li_44, li_45, li_46, li_47, li_48, li_49, li_50, li_51, li_52, li_53, li_54, li_55, li_56, li_57, li_58, li_59, li_60, li_61, li_62, li_63, li_64, li_65, li_66, li_67, li_68, li_69, li_70, li_71, li_72, li_73, li_74, li_75, li_76, li_77, li_78, li_79, li_80, li_81, li_82, li_83, li_84, li_85, li_86, li_87, li_88, li_89, li_90, li_91, li_92, li_93, li_94, li_95, li_96, li_97, li_98, li_99, li_100, li_101, li_102, li_103, li_104, li_105, li_106, li_107, li_108, li_109, li_110, li_111, li_112, li_113, li_114, li_115, li_116, li_117, li_118, li_119, li_120, li_121, li_122, li_123, li_124, li_125, li_126, li_127, li_128, li_129, li_130, li_134, li_160, li_197, li_229, li_255, li_256, li_265, li_300, li_301, li_330, li_353, li_463, li_720, li_729, li_768, li_999, li_2610, li_2807, li_2867, li_2916, li_4096, li_9999, li_10000, li_30643, li_65535, li_99999, li_1000000, gi_si, gi_sl, gi_sr, gi_ci, gi_cl, gl_si, gl_sl, gl_sr, gl_ci, gl_cl, gr_si, gr_sl, gr_sr, gr_ci, gr_cl, ln_si, ln_sl, ln_sr, ln_ci, ln_cl, ok_si, ok_sl, ok_sr, ok_ci, ok_cl, gp_k hH, gp_l hH, gp_r hH, gp_m hH, Option.some.injEq, exists_eq_left', exists_eq_left, forall_eq, forall_eq', true_and, and_true, if_true, if_false, true_imp_iff, false_imp_iff, not_true_eq_false, not_false_eq_true, false_and, and_false, reduceIte, reduceCtorEq, forall_const, Nat.reduceEqDiff, Nat.reduceAdd, Nat.reduceMul, Nat.reduceSub, Nat.reduceLT, Nat.reduceLeDiff, Nat.reduceMod, Nat.reduceDiv, and_self, ne_eq, exists_const, Nat.add_sub_cancel, nI_add, pk_mul, pk_sub, q_rem, q_div, q_eq, q_le, q_lt, q_cl, q_in, q_m1, q_1m, q_neg, sh1n, bitn, q_mod2, q_neq0, bq_t, bq_f, bq_t2, bq_f2, i01, i10, q_tt, q_ff, ups_e, ups_n, fil_i, fil_o, zq_if, zq_0, zq_1, if_pos, if_neg, v6, fa_and, fa_xor, hm1]
      exact f
    · have f := fin _ b2 (if_neg hb)
      have hb' : ¬ b = nI 0 := hb
      simp (disch := first | omega | (simp only [Gp_si, Gp_sl, Gp_ci, Gp_cl]; assumption)) only [li_0, li_1, li_2, li_3, li_4, li_5, li_6, li_7, li_8, li_9, li_10, li_11, li_12, li_13, li_14, li_15, li_16, li_17, li_18, li_19, li_20, li_21, li_22, li_23, li_24, li_25, li_26, li_27, li_28, li_29, li_30, li_32, li_33, li_34, li_35, li_36, li_37, li_38, li_39, li_40, li_41, li_42, li_43, li_44, li_45, li_46, li_47, li_48, li_49, li_50, li_51, li_52, li_53, li_54, li_55, li_56, li_57, li_58, li_59, li_60, li_61, li_62, li_63, li_64, li_65, li_66, li_67, li_68, li_69, li_70, li_71, li_72, li_73, li_74, li_75, li_76, li_77, li_78, li_79, li_80, li_81, li_82, li_83, li_84, li_85, li_86, li_87, li_88, li_89, li_90, li_91, li_92, li_93, li_94, li_95, li_96, li_97, li_98, li_99, li_100, li_101, li_102, li_103, li_104, li_105, li_106, li_107, li_108, li_109, li_110, li_111, li_112, li_113, li_114, li_115, li_116, li_117, li_118, li_119, li_120, li_121, li_122, li_123, li_124, li_125, li_126, li_127, li_128, li_129, li_130, li_134, li_160, li_197, li_229, li_255, li_256, li_265, li_300, li_301, li_330, li_353, li_463, li_720, li_729, li_768, li_999, li_2610, li_2807, li_2867, li_2916, li_4096, li_9999, li_10000, li_30643, li_65535, li_99999, li_1000000, gi_si, gi_sl, gi_sr, gi_ci, gi_cl, gl_si, gl_sl, gl_sr, gl_ci, gl_cl, gr_si, gr_sl, gr_sr, gr_ci, gr_cl, ln_si, ln_sl, ln_sr, ln_ci, ln_cl, ok_si, ok_sl, ok_sr, ok_ci, ok_cl, gp_k hH, gp_l hH, gp_r hH, gp_m hH, Option.some.injEq, exists_eq_left', exists_eq_left, forall_eq, forall_eq', true_and, and_true, if_true, if_false, true_imp_iff, false_imp_iff, not_true_eq_false, not_false_eq_true, false_and, and_false, reduceIte, reduceCtorEq, forall_const, Nat.reduceEqDiff, Nat.reduceAdd, Nat.reduceMul, Nat.reduceSub, Nat.reduceLT, Nat.reduceLeDiff, Nat.reduceMod, Nat.reduceDiv, and_self, ne_eq, exists_const, Nat.add_sub_cancel, nI_add, pk_mul, pk_sub, q_rem, q_div, q_eq, q_le, q_lt, q_cl, q_in, q_m1, q_1m, q_neg, sh1n, bitn, q_mod2, q_neq0, bq_t, bq_f, bq_t2, bq_f2, i01, i10, q_tt, q_ff, ups_e, ups_n, fil_i, fil_o, zq_if, zq_0, zq_1, if_pos, if_neg, v6, fa_or, hb']
      exact f
  · rw [if_neg c, Bool.eq_false_iff.2 c] at k
    have k0 := k μ tn (by omega) (fr_rf _ _) h
    rw [bV_f] at k0
    simp (disch := first | omega | (simp only [Gp_si, Gp_sl, Gp_ci, Gp_cl]; assumption)) only [li_0, li_1, li_2, li_3, li_4, li_5, li_6, li_7, li_8, li_9, li_10, li_11, li_12, li_13, li_14, li_15, li_16, li_17, li_18, li_19, li_20, li_21, li_22, li_23, li_24, li_25, li_26, li_27, li_28, li_29, li_30, li_32, li_33, li_34, li_35, li_36, li_37, li_38, li_39, li_40, li_41, li_42, li_43, li_44, li_45, li_46, li_47, li_48, li_49, li_50, li_51, li_52, li_53, li_54, li_55, li_56, li_57, li_58, li_59, li_60, li_61, li_62, li_63, li_64, li_65, li_66, li_67, li_68, li_69, li_70, li_71, li_72, li_73, li_74, li_75, li_76, li_77, li_78, li_79, li_80, li_81, li_82, li_83, li_84, li_85, li_86, li_87, li_88, li_89, li_90, li_91, li_92, li_93, li_94, li_95, li_96, li_97, li_98, li_99, li_100, li_101, li_102, li_103, li_104, li_105, li_106, li_107, li_108, li_109, li_110, li_111, li_112, li_113, li_114, li_115, li_116, li_117, li_118, li_119, li_120, li_121, li_122, li_123, li_124, li_125, li_126, li_127, li_128, li_129, li_130, li_134, li_160, li_197, li_229, li_255, li_256, li_265, li_300, li_301, li_330, li_353, li_463, li_720, li_729, li_768, li_999, li_2610, li_2807, li_2867, li_2916, li_4096, li_9999, li_10000, li_30643, li_65535, li_99999, li_1000000, gi_si, gi_sl, gi_sr, gi_ci, gi_cl, gl_si, gl_sl, gl_sr, gl_ci, gl_cl, gr_si, gr_sl, gr_sr, gr_ci, gr_cl, ln_si, ln_sl, ln_sr, ln_ci, ln_cl, ok_si, ok_sl, ok_sr, ok_ci, ok_cl, gp_k hG, gp_l hG, gp_r hG, gp_m hG, Option.some.injEq, exists_eq_left', exists_eq_left, forall_eq, forall_eq', true_and, and_true, if_true, if_false, true_imp_iff, false_imp_iff, not_true_eq_false, not_false_eq_true, false_and, and_false, reduceIte, reduceCtorEq, forall_const, Nat.reduceEqDiff, Nat.reduceAdd, Nat.reduceMul, Nat.reduceSub, Nat.reduceLT, Nat.reduceLeDiff, Nat.reduceMod, Nat.reduceDiv, and_self, ne_eq, exists_const, Nat.add_sub_cancel, nI_add, pk_mul, pk_sub, q_rem, q_div, q_eq, q_le, q_lt, q_cl, q_in, q_m1, q_1m, q_neg, sh1n, bitn, q_mod2, q_neq0, bq_t, bq_f, bq_t2, bq_f2, i01, i10, q_tt, q_ff, ups_e, ups_n, fil_i, fil_o, zq_if, zq_0, zq_1, if_pos, if_neg]
    refine ⟨fun _ => k0, fun c1 => ⟨fun _ => k0, fun c2 => ⟨fun _ => k0, fun c3 => ⟨fun c4 => ?_, fun _ => k0⟩⟩⟩⟩
    have d1 := Int32.not_lt.1 c1
    have d3 := Int32.not_lt.1 c3
    exact absurd (decide_eq_true ⟨⟨d1, i_le (by omega) d1 (Int32.not_le.1 c2)⟩, d3, i_le (by omega) d3 c4⟩) c
theorem M_hears (h : Mo μ s T) (k : ∀ ν, Fq μ ν → Mo ν (hearT s v u b) T → Q (bV (hearB v u)) ν) : S_X11_hears 314 v u b μ Q := by
  obtain ⟨hG, hA, hW, hTx⟩ := id h
  unfold hearT at k
  by_cases c : hearB v u = true
  · rw [if_pos c, c] at k
    obtain ⟨c1, c2⟩ := of_decide_eq_true c
    obtain ⟨p, hp, rfl⟩ := q_rg2 (by omega) c1
    obtain ⟨q, hq, rfl⟩ := q_rg2 (by omega) c2
    rw [vt (by omega), vt (by omega)] at k
    refine p_Mhears hG hA (by omega) (by omega) (fun ν hm hN => ?_)
    have hF := fq_mof hm
    obtain ⟨b1, b2⟩ := hear_b hW (p := p) (q := q) (by omega) (by omega)
    refine k ν hF ⟨fq_gp hG hF, hN, ?_, fun i hi => ?_⟩
    · unfold hearS
      refine wf_67 hW (by omega) ?_
      split
      · exact b1
      · exact b2
    · unfold hearS at hi
      rw [ups_n (by omega)] at hi
      exact TxM_x (hTx i hi) (fun q => hF.2.2.2.2.1 317 q (by omega))
  · rw [if_neg c, Bool.eq_false_iff.2 c] at k
    exact p_Mhears0 (fun x => c (decide_eq_true x)) (k μ (fq_rf μ) h)
/-- the ruling text -/
theorem wf_2 (hW : WF s) {t : Nat} (ht : t ≤ s 1) : WF (ups s 2 t) := by
  have wn := wf_n hW
  have e : ∀ j, j ≠ 2 → ups s 2 t j = s j := fun j hj => ups_n hj
  refine wf_x hW (fun k => ?_) ?_ (fun q hq => ?_) (fun q hq => by rw [e _ (by omega)]; exact wf_h hW hq) (Nat.le_of_eq (e 0 (by omega)).symm) (e 3 (by omega)) (e 4 (by omega)) (e 5 (by omega)) (e 10 (by omega)) (fun j hj => e j (by omega))
  · unfold ups
    split
    · omega
    · exact wf_b hW k
  · rw [e 0 (by omega), e 1 (by omega), ups_e rfl, e 3 (by omega), e 4 (by omega), e 5 (by omega), e 6 (by omega), e 7 (by omega), e 8 (by omega), e 9 (by omega), e 10 (by omega)]
    exact ⟨wn.1, wn.2.1, ht, wn.2.2.2⟩
  · rw [e 0 (by omega)] at hq
    rw [e (11 + 7 * q) (by omega), e (12 + 7 * q) (by omega), e (13 + 7 * q) (by omega), e (14 + 7 * q) (by omega), e (15 + 7 * q) (by omega), e (16 + 7 * q) (by omega), e (17 + 7 * q) (by omega), e 6 (by omega)]
    exact wf_p hW hq
theorem tw_2 (h : Tw μ s T) {t : Nat} (ht : t ≤ s 1) : Tw (msi μ 1 7 (nI t - nI 1)) (ups s 2 t) T := by
  have wn := wf_n h.2.1
  have e : ∀ j, j ≠ 2 → ups s 2 t j = s j := fun j hj => ups_n hj
  refine tw_told h (fr_si (fr_rf _ _) 1 7 _ rfl) (wf_2 h.2.1 ht) ?_ (by rw [gi_si, if_neg (by omega)]) (fun a q _ _ => by rw [gi_si, if_neg (by omega)]) (fun _ _ => rfl) (fun j hj => e j (by omega))
  obtain ⟨c1, c2, c3, c4, c5, c6, c7, c8, c9, c10, c11⟩ := h.2.2.1.1
  refine ⟨?_, ?_, ?_, ?_, ?_, ?_, fun q hq => ?_, fun r hr => ?_, fun q hq => ?_, fun i hi => ?_, fun i hi => ?_⟩
  · rw [gi_si, if_neg (by omega), e 0 (by omega)]; exact c1
  · rw [gi_si, if_neg (by omega), e 1 (by omega)]; exact c2
  · rw [gi_si, if_pos ⟨rfl, rfl⟩, ups_e rfl]; rfl
  · rw [gi_si, if_neg (by omega), e 3 (by omega)]; exact c4
  · rw [gi_si, if_neg (by omega), e 4 (by omega)]; exact c5
  · rw [gi_si, if_neg (by omega), e 5 (by omega)]; exact c6
  · rw [e 0 (by omega)] at hq
    rw [gi_si, if_neg (by omega), gi_si, if_neg (by omega), gi_si, if_neg (by omega), e (14 + 7 * q) (by omega), e (15 + 7 * q) (by omega), e (16 + 7 * q) (by omega)]
    exact c7 q hq
  · rw [gi_si, if_neg (by omega), e 0 (by omega), c8 r hr]
    congr 1
    exact setS_cong (fun q hq => by rw [e (14 + 7 * q) (by omega)])
  · rw [gi_si, if_neg (by omega), e _ (by omega)]
    exact c9 q hq
  · rw [e 4 (by omega)] at hi
    rw [gi_si, if_neg (by omega), gi_si, if_neg (by omega), e (75 + 2 * i) (by omega), e (76 + 2 * i) (by omega)]
    exact c10 i hi
  · rw [e 5 (by omega)] at hi
    rw [gi_si, if_neg (by omega), gi_si, if_neg (by omega), e (91 + 2 * i) (by omega), e (92 + 2 * i) (by omega)]
    exact c11 i hi
theorem C_by (h : Cl μ s T tn) (ht : tn < 999999) (k : ∀ ν tn', tn' ≤ tn + 1 → Fr xA μ ν → Cl ν (byT s v) T tn' → Q (bV (byB s v)) ν) : S_X10_by 0 v μ Q := by
  have hG := h.1
  have wn := wf_n h.2.1
  have h6 : mgi μ 1 6 = nI (s 1) := h.2.2.1.1.2.1
  unfold byT at k
  unfold S_X10_by
  by_cases c : byB s v = true
  · rw [if_pos c, c] at k
    have c1 := of_decide_eq_true c
    have n1 : ¬ v < -nI 1 := Int32.not_lt.2 c1.1
    have n2 := c1.2
    obtain ⟨t, ht2, e1, e2⟩ := by_ex (by omega) c1
    rw [e2] at k
    simp (disch := first | omega | (simp only [Gp_si, Gp_sl, Gp_ci, Gp_cl]; assumption)) only [li_0, li_1, li_2, li_3, li_4, li_5, li_6, li_7, li_8, li_9, li_10, li_11, li_12, li_13, li_14, li_15, li_16, li_17, li_18, li_19, li_20, li_21, li_22, li_23, li_24, li_25, li_26, li_27, li_28, li_29, li_30, li_32, li_33, li_34, li_35, li_36, li_37, li_38, li_39, li_40, li_41, li_42, li_43, li_44, li_45, li_46, li_47, li_48, li_49, li_50, li_51, li_52, li_53, li_54, li_55, li_56, li_57, li_58, li_59, li_60, li_61, li_62, li_63, li_64, li_65, li_66, li_67, li_68, li_69, li_70, li_71, li_72, li_73, li_74, li_75, li_76, li_77, li_78, li_79, li_80, li_81, li_82, li_83, li_84, li_85, li_86, li_87, li_88, li_89, li_90, li_91, li_92, li_93, li_94, li_95, li_96, li_97, li_98, li_99, li_100, li_101, li_102, li_103, li_104, li_105, li_106, li_107, li_108, li_109, li_110, li_111, li_112, li_113, li_114, li_115, li_116, li_117, li_118, li_119, li_120, li_121, li_122, li_123, li_124, li_125, li_126, li_127, li_128, li_129, li_130, li_134, li_160, li_197, li_229, li_255, li_256, li_265, li_300, li_301, li_330, li_353, li_463, li_720, li_729, li_768, li_999, li_2610, li_2807, li_2867, li_2916, li_4096, li_9999, li_10000, li_30643, li_65535, li_99999, li_1000000, gi_si, gi_sl, gi_sr, gi_ci, gi_cl, gl_si, gl_sl, gl_sr, gl_ci, gl_cl, gr_si, gr_sl, gr_sr, gr_ci, gr_cl, ln_si, ln_sl, ln_sr, ln_ci, ln_cl, ok_si, ok_sl, ok_sr, ok_ci, ok_cl, gp_k hG, gp_l hG, gp_r hG, gp_m hG, Option.some.injEq, exists_eq_left', exists_eq_left, forall_eq, forall_eq', true_and, and_true, if_true, if_false, true_imp_iff, false_imp_iff, not_true_eq_false, not_false_eq_true, false_and, and_false, reduceIte, reduceCtorEq, forall_const, Nat.reduceEqDiff, Nat.reduceAdd, Nat.reduceMul, Nat.reduceSub, Nat.reduceLT, Nat.reduceLeDiff, Nat.reduceMod, Nat.reduceDiv, and_self, ne_eq, exists_const, Nat.add_sub_cancel, nI_add, pk_mul, pk_sub, q_rem, q_div, q_eq, q_le, q_lt, q_cl, q_in, q_m1, q_1m, q_neg, sh1n, bitn, q_mod2, q_neq0, bq_t, bq_f, bq_t2, bq_f2, i01, i10, q_tt, q_ff, ups_e, ups_n, fil_i, fil_o, zq_if, zq_0, zq_1, if_pos, if_neg, h6, n1, n2]
    refine p_forget h ht (fun ν hF hT hC => ?_)
    have hH := hT.1
    simp (disch := first | omega | (simp only [Gp_si, Gp_sl, Gp_ci, Gp_cl]; assumption)) only [li_0, li_1, li_2, li_3, li_4, li_5, li_6, li_7, li_8, li_9, li_10, li_11, li_12, li_13, li_14, li_15, li_16, li_17, li_18, li_19, li_20, li_21, li_22, li_23, li_24, li_25, li_26, li_27, li_28, li_29, li_30, li_32, li_33, li_34, li_35, li_36, li_37, li_38, li_39, li_40, li_41, li_42, li_43, li_44, li_45, li_46, li_47, li_48, li_49, li_50, li_51, li_52, li_53, li_54, li_55, li_56, li_57, li_58, li_59, li_60, li_61, li_62, li_63, li_64, li_65, li_66, li_67, li_68, li_69, li_70, li_71, li_72, li_73, li_74, li_75, li_76, li_77, li_78, li_79, li_80, li_81, li_82, li_83, li_84, li_85, li_86, li_87, li_88, li_89, li_90, li_91, li_92, li_93, li_94, li_95, li_96, li_97, li_98, li_99, li_100, li_101, li_102, li_103, li_104, li_105, li_106, li_107, li_108, li_109, li_110, li_111, li_112, li_113, li_114, li_115, li_116, li_117, li_118, li_119, li_120, li_121, li_122, li_123, li_124, li_125, li_126, li_127, li_128, li_129, li_130, li_134, li_160, li_197, li_229, li_255, li_256, li_265, li_300, li_301, li_330, li_353, li_463, li_720, li_729, li_768, li_999, li_2610, li_2807, li_2867, li_2916, li_4096, li_9999, li_10000, li_30643, li_65535, li_99999, li_1000000, gi_si, gi_sl, gi_sr, gi_ci, gi_cl, gl_si, gl_sl, gl_sr, gl_ci, gl_cl, gr_si, gr_sl, gr_sr, gr_ci, gr_cl, ln_si, ln_sl, ln_sr, ln_ci, ln_cl, ok_si, ok_sl, ok_sr, ok_ci, ok_cl, gp_k hH, gp_l hH, gp_r hH, gp_m hH, Option.some.injEq, exists_eq_left', exists_eq_left, forall_eq, forall_eq', true_and, and_true, if_true, if_false, true_imp_iff, false_imp_iff, not_true_eq_false, not_false_eq_true, false_and, and_false, reduceIte, reduceCtorEq, forall_const, Nat.reduceEqDiff, Nat.reduceAdd, Nat.reduceMul, Nat.reduceSub, Nat.reduceLT, Nat.reduceLeDiff, Nat.reduceMod, Nat.reduceDiv, and_self, ne_eq, exists_const, Nat.add_sub_cancel, nI_add, pk_mul, pk_sub, q_rem, q_div, q_eq, q_le, q_lt, q_cl, q_in, q_m1, q_1m, q_neg, sh1n, bitn, q_mod2, q_neq0, bq_t, bq_f, bq_t2, bq_f2, i01, i10, q_tt, q_ff, ups_e, ups_n, fil_i, fil_o, zq_if, zq_0, zq_1, if_pos, if_neg]
    rw [e1]
    have hF2 : Fr xT ν (msi ν 1 7 (nI t - nI 1)) := fr_si (fr_rf _ _) 1 7 _ rfl
    exact k _ (tn + 1) (Nat.le_refl _) (fr_tr hF (fr_ta hF2)) (cl_tw (tw_2 hT ht2) (cn_fr hC hF2))
  · rw [if_neg c, Bool.eq_false_iff.2 c] at k
    have k0 := k μ tn (by omega) (fr_rf _ _) h
    rw [bV_f] at k0
    simp (disch := first | omega | (simp only [Gp_si, Gp_sl, Gp_ci, Gp_cl]; assumption)) only [li_0, li_1, li_2, li_3, li_4, li_5, li_6, li_7, li_8, li_9, li_10, li_11, li_12, li_13, li_14, li_15, li_16, li_17, li_18, li_19, li_20, li_21, li_22, li_23, li_24, li_25, li_26, li_27, li_28, li_29, li_30, li_32, li_33, li_34, li_35, li_36, li_37, li_38, li_39, li_40, li_41, li_42, li_43, li_44, li_45, li_46, li_47, li_48, li_49, li_50, li_51, li_52, li_53, li_54, li_55, li_56, li_57, li_58, li_59, li_60, li_61, li_62, li_63, li_64, li_65, li_66, li_67, li_68, li_69, li_70, li_71, li_72, li_73, li_74, li_75, li_76, li_77, li_78, li_79, li_80, li_81, li_82, li_83, li_84, li_85, li_86, li_87, li_88, li_89, li_90, li_91, li_92, li_93, li_94, li_95, li_96, li_97, li_98, li_99, li_100, li_101, li_102, li_103, li_104, li_105, li_106, li_107, li_108, li_109, li_110, li_111, li_112, li_113, li_114, li_115, li_116, li_117, li_118, li_119, li_120, li_121, li_122, li_123, li_124, li_125, li_126, li_127, li_128, li_129, li_130, li_134, li_160, li_197, li_229, li_255, li_256, li_265, li_300, li_301, li_330, li_353, li_463, li_720, li_729, li_768, li_999, li_2610, li_2807, li_2867, li_2916, li_4096, li_9999, li_10000, li_30643, li_65535, li_99999, li_1000000, gi_si, gi_sl, gi_sr, gi_ci, gi_cl, gl_si, gl_sl, gl_sr, gl_ci, gl_cl, gr_si, gr_sl, gr_sr, gr_ci, gr_cl, ln_si, ln_sl, ln_sr, ln_ci, ln_cl, ok_si, ok_sl, ok_sr, ok_ci, ok_cl, gp_k hG, gp_l hG, gp_r hG, gp_m hG, Option.some.injEq, exists_eq_left', exists_eq_left, forall_eq, forall_eq', true_and, and_true, if_true, if_false, true_imp_iff, false_imp_iff, not_true_eq_false, not_false_eq_true, false_and, and_false, reduceIte, reduceCtorEq, forall_const, Nat.reduceEqDiff, Nat.reduceAdd, Nat.reduceMul, Nat.reduceSub, Nat.reduceLT, Nat.reduceLeDiff, Nat.reduceMod, Nat.reduceDiv, and_self, ne_eq, exists_const, Nat.add_sub_cancel, nI_add, pk_mul, pk_sub, q_rem, q_div, q_eq, q_le, q_lt, q_cl, q_in, q_m1, q_1m, q_neg, sh1n, bitn, q_mod2, q_neq0, bq_t, bq_f, bq_t2, bq_f2, i01, i10, q_tt, q_ff, ups_e, ups_n, fil_i, fil_o, zq_if, zq_0, zq_1, if_pos, if_neg, h6]
    exact ⟨fun _ => k0, fun c1 => ⟨fun c2 => absurd (decide_eq_true ⟨Int32.not_lt.1 c1, c2⟩) c, fun _ => k0⟩⟩
theorem M_by (h : Mo μ s T) (k : ∀ ν, Fq μ ν → Mo ν (byT s v) T → Q (bV (byB s v)) ν) : S_X11_by 314 v μ Q := by
  obtain ⟨hG, hA, hW, hTx⟩ := id h
  have wn := wf_n hW
  have hA1 := hA.1
  unfold byT at k
  unfold S_X11_by
  by_cases c : byB s v = true
  · rw [if_pos c, c] at k
    have c1 := of_decide_eq_true c
    obtain ⟨t, ht2, e1, e2⟩ := by_ex (by omega) c1
    rw [e2] at k
    simp (disch := first | omega | (simp only [Gp_si, Gp_sl, Gp_ci, Gp_cl]; assumption)) only [li_0, li_1, li_2, li_3, li_4, li_5, li_6, li_7, li_8, li_9, li_10, li_11, li_12, li_13, li_14, li_15, li_16, li_17, li_18, li_19, li_20, li_21, li_22, li_23, li_24, li_25, li_26, li_27, li_28, li_29, li_30, li_32, li_33, li_34, li_35, li_36, li_37, li_38, li_39, li_40, li_41, li_42, li_43, li_44, li_45, li_46, li_47, li_48, li_49, li_50, li_51, li_52, li_53, li_54, li_55, li_56, li_57, li_58, li_59, li_60, li_61, li_62, li_63, li_64, li_65, li_66, li_67, li_68, li_69, li_70, li_71, li_72, li_73, li_74, li_75, li_76, li_77, li_78, li_79, li_80, li_81, li_82, li_83, li_84, li_85, li_86, li_87, li_88, li_89, li_90, li_91, li_92, li_93, li_94, li_95, li_96, li_97, li_98, li_99, li_100, li_101, li_102, li_103, li_104, li_105, li_106, li_107, li_108, li_109, li_110, li_111, li_112, li_113, li_114, li_115, li_116, li_117, li_118, li_119, li_120, li_121, li_122, li_123, li_124, li_125, li_126, li_127, li_128, li_129, li_130, li_134, li_160, li_197, li_229, li_255, li_256, li_265, li_300, li_301, li_330, li_353, li_463, li_720, li_729, li_768, li_999, li_2610, li_2807, li_2867, li_2916, li_4096, li_9999, li_10000, li_30643, li_65535, li_99999, li_1000000, gi_si, gi_sl, gi_sr, gi_ci, gi_cl, gl_si, gl_sl, gl_sr, gl_ci, gl_cl, gr_si, gr_sl, gr_sr, gr_ci, gr_cl, ln_si, ln_sl, ln_sr, ln_ci, ln_cl, ok_si, ok_sl, ok_sr, ok_ci, ok_cl, gp_k hG, gp_l hG, gp_r hG, gp_m hG, Option.some.injEq, exists_eq_left', exists_eq_left, forall_eq, forall_eq', true_and, and_true, if_true, if_false, true_imp_iff, false_imp_iff, not_true_eq_false, not_false_eq_true, false_and, and_false, reduceIte, reduceCtorEq, forall_const, Nat.reduceEqDiff, Nat.reduceAdd, Nat.reduceMul, Nat.reduceSub, Nat.reduceLT, Nat.reduceLeDiff, Nat.reduceMod, Nat.reduceDiv, and_self, ne_eq, exists_const, Nat.add_sub_cancel, nI_add, pk_mul, pk_sub, q_rem, q_div, q_eq, q_le, q_lt, q_cl, q_in, q_m1, q_1m, q_neg, sh1n, bitn, q_mod2, q_neq0, bq_t, bq_f, bq_t2, bq_f2, i01, i10, q_tt, q_ff, ups_e, ups_n, fil_i, fil_o, zq_if, zq_0, zq_1, if_pos, if_neg, hA1, e_isIn, lt_pred2, c1]
    rw [e1]
    refine k _ (fq_si (fq_rf μ) 315 2 _ (by omega)) ⟨by exact hG, RowA_s2 hA, wf_2 hW ht2, fun i hi => ?_⟩
    rw [ups_n (by omega)] at hi
    exact TxM_x (hTx i hi) (fun q => by rw [gi_si, if_neg (by omega)])
  · rw [if_neg c, Bool.eq_false_iff.2 c] at k
    have k0 := k μ (fq_rf μ) h
    rw [bV_f] at k0
    have c1 := of_decide_eq_false (Bool.eq_false_iff.2 c)
    simp (disch := first | omega | (simp only [Gp_si, Gp_sl, Gp_ci, Gp_cl]; assumption)) only [li_0, li_1, li_2, li_3, li_4, li_5, li_6, li_7, li_8, li_9, li_10, li_11, li_12, li_13, li_14, li_15, li_16, li_17, li_18, li_19, li_20, li_21, li_22, li_23, li_24, li_25, li_26, li_27, li_28, li_29, li_30, li_32, li_33, li_34, li_35, li_36, li_37, li_38, li_39, li_40, li_41, li_42, li_43, li_44, li_45, li_46, li_47, li_48, li_49, li_50, li_51, li_52, li_53, li_54, li_55, li_56, li_57, li_58, li_59, li_60, li_61, li_62, li_63, li_64, li_65, li_66, li_67, li_68, li_69, li_70, li_71, li_72, li_73, li_74, li_75, li_76, li_77, li_78, li_79, li_80, li_81, li_82, li_83, li_84, li_85, li_86, li_87, li_88, li_89, li_90, li_91, li_92, li_93, li_94, li_95, li_96, li_97, li_98, li_99, li_100, li_101, li_102, li_103, li_104, li_105, li_106, li_107, li_108, li_109, li_110, li_111, li_112, li_113, li_114, li_115, li_116, li_117, li_118, li_119, li_120, li_121, li_122, li_123, li_124, li_125, li_126, li_127, li_128, li_129, li_130, li_134, li_160, li_197, li_229, li_255, li_256, li_265, li_300, li_301, li_330, li_353, li_463, li_720, li_729, li_768, li_999, li_2610, li_2807, li_2867, li_2916, li_4096, li_9999, li_10000, li_30643, li_65535, li_99999, li_1000000, gi_si, gi_sl, gi_sr, gi_ci, gi_cl, gl_si, gl_sl, gl_sr, gl_ci, gl_cl, gr_si, gr_sl, gr_sr, gr_ci, gr_cl, ln_si, ln_sl, ln_sr, ln_ci, ln_cl, ok_si, ok_sl, ok_sr, ok_ci, ok_cl, gp_k hG, gp_l hG, gp_r hG, gp_m hG, Option.some.injEq, exists_eq_left', exists_eq_left, forall_eq, forall_eq', true_and, and_true, if_true, if_false, true_imp_iff, false_imp_iff, not_true_eq_false, not_false_eq_true, false_and, and_false, reduceIte, reduceCtorEq, forall_const, Nat.reduceEqDiff, Nat.reduceAdd, Nat.reduceMul, Nat.reduceSub, Nat.reduceLT, Nat.reduceLeDiff, Nat.reduceMod, Nat.reduceDiv, and_self, ne_eq, exists_const, Nat.add_sub_cancel, nI_add, pk_mul, pk_sub, q_rem, q_div, q_eq, q_le, q_lt, q_cl, q_in, q_m1, q_1m, q_neg, sh1n, bitn, q_mod2, q_neq0, bq_t, bq_f, bq_t2, bq_f2, i01, i10, q_tt, q_ff, ups_e, ups_n, fil_i, fil_o, zq_if, zq_0, zq_1, if_pos, if_neg, hA1, e_isIn, lt_pred2, c1]
    exact k0
end T4
