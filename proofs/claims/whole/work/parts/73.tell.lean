/-! persons told, whom they hear, the ruling text, what was heard and said -/
def tellB (s : Nat → Nat) (r w u d : Int32) : Bool := decide ((0 ≤ r ∧ r ≤ nI 3) ∧ (nI 1 ≤ w ∧ w ≤ nI 99) ∧ (nI 1 ≤ u ∧ u ≤ nI 99) ∧ (0 ≤ d ∧ d ≤ nI 99) ∧ s 0 < 8)
def tellT (s : Nat → Nat) (r w u d : Int32) : Nat → Nat := if tellB s r w u d = true then personS s r.toInt.toNat w.toInt.toNat u.toInt.toNat d.toInt.toNat else s
def tellV (s : Nat → Nat) (r w u d : Int32) : Int32 := if tellB s r w u d = true then nI (s 0) else -nI 1
section TL
variable {s : Nat → Nat} {r w u d : Nat}
theorem per_0 : personS s r w u d 0 = s 0 + 1 := by
  unfold personS
  rw [ups_s]
theorem per_o {j : Nat} (h0 : j ≠ 0) (h : j < 11 + 7 * s 0 ∨ 18 + 7 * s 0 ≤ j) : personS s r w u d j = s j := by
  unfold personS beginS
  simp (disch := omega) only [ups_n]
theorem per_d : personS s r w u d (11 + 7 * s 0) = d := by
  unfold personS beginS
  simp (disch := omega) only [ups_n, ups_s]
theorem per_b : personS s r w u d (12 + 7 * s 0) = 0 := by
  unfold personS beginS
  simp (disch := omega) only [ups_n, ups_s]
theorem per_l : personS s r w u d (13 + 7 * s 0) = 0 := by
  unfold personS beginS
  simp (disch := omega) only [ups_n, ups_s]
theorem per_r : personS s r w u d (14 + 7 * s 0) = r := by
  unfold personS beginS
  simp (disch := omega) only [ups_n, ups_s]
theorem per_w : personS s r w u d (15 + 7 * s 0) = w := by
  unfold personS beginS
  simp (disch := omega) only [ups_n, ups_s]
theorem per_u : personS s r w u d (16 + 7 * s 0) = u := by
  unfold personS beginS
  simp (disch := omega) only [ups_n, ups_s]
theorem per_t : personS s r w u d (17 + 7 * s 0) = d := by
  unfold personS beginS
  simp (disch := omega) only [ups_n, ups_s]
theorem wf_per (hW : WF s) (h0 : s 0 < 8) (hr : r ≤ 3) (hw : 1 ≤ w ∧ w ≤ 99) (hu : 1 ≤ u ∧ u ≤ 99) (hd : d ≤ 99) : WF (personS s r w u d) := by
  have wn := wf_n hW
  have e : ∀ j, j ≠ 0 → (j < 11 + 7 * s 0 ∨ 18 + 7 * s 0 ≤ j) → personS s r w u d j = s j := fun j h1 h2 => per_o h1 h2
  have hp2 : 2 ^ s 0 < 2 ^ (s 0 + 1) := p2_lt (by omega)
  refine wf_x hW (fun k => ?_) ?_ (fun p hp => ?_) (fun p hp => by rw [e _ (by omega) (by omega)]; exact wf_h hW hp) (by rw [per_0]; omega) (e 3 (by omega) (by omega)) (e 4 (by omega) (by omega)) (e 5 (by omega) (by omega)) (e 10 (by omega) (by omega)) (fun j hj => e j (by omega) (by omega))
  · by_cases c0 : k = 0
    · rw [c0, per_0]
      omega
    · by_cases c : k < 11 + 7 * s 0 ∨ 18 + 7 * s 0 ≤ k
      · rw [e k c0 c]
        exact wf_b hW k
      · have hk : k = 11 + 7 * s 0 ∨ k = 12 + 7 * s 0 ∨ k = 13 + 7 * s 0 ∨ k = 14 + 7 * s 0 ∨ k = 15 + 7 * s 0 ∨ k = 16 + 7 * s 0 ∨ k = 17 + 7 * s 0 := by omega
        rcases hk with q | q | q | q | q | q | q
        · rw [q, per_d]; omega
        · rw [q, per_b]; omega
        · rw [q, per_l]; omega
        · rw [q, per_r]; omega
        · rw [q, per_w]; omega
        · rw [q, per_u]; omega
        · rw [q, per_t]; omega
  · rw [per_0, e 1 (by omega) (by omega), e 2 (by omega) (by omega), e 3 (by omega) (by omega), e 4 (by omega) (by omega), e 5 (by omega) (by omega), e 6 (by omega) (by omega), e 7 (by omega) (by omega), e 8 (by omega) (by omega), e 9 (by omega) (by omega), e 10 (by omega) (by omega)]
    refine ⟨by omega, wn.2.1, wn.2.2.1, wn.2.2.2.1, wn.2.2.2.2.1, wn.2.2.2.2.2.1, wn.2.2.2.2.2.2.1, ?_, wn.2.2.2.2.2.2.2.2⟩
    exact Nat.lt_trans wn.2.2.2.2.2.2.2.1 hp2
  · rw [per_0] at hp
    by_cases c : p = s 0
    · rw [c, per_d, per_b, per_l, per_r, per_w, per_u, per_t]
      omega
    · rw [e (11 + 7 * p) (by omega) (by omega), e (12 + 7 * p) (by omega) (by omega), e (13 + 7 * p) (by omega) (by omega), e (14 + 7 * p) (by omega) (by omega), e (15 + 7 * p) (by omega) (by omega), e (16 + 7 * p) (by omega) (by omega), e (17 + 7 * p) (by omega) (by omega), e 6 (by omega) (by omega)]
      exact wf_p hW (by omega)
end TL
section TM
variable {μ : Me} {s : Nat → Nat} {T : Nat → Tx} {tn : Nat} {Q : Int32 → Me → Prop}
theorem m1_lt {v : Int32} {n : Nat} (hn : n < 2147483647) (h : nI 1 ≤ v ∧ v ≤ nI n) : ∃ k, 1 ≤ k ∧ k ≤ n ∧ v = nI k := by
  obtain ⟨k, h1, h2⟩ := q_rg2 hn ⟨Int32.le_trans (by decide) h.1, h.2⟩
  refine ⟨k, ?_, h1, h2⟩
  have h3 := h.1
  rw [h2, q_le (by omega) (by omega)] at h3
  exact h3
/-- the town with one told more -/
theorem tw_per {ν : Me} (h : Tw μ s T) {r w u d : Nat} (h0 : s 0 < 8) (hr : r ≤ 3) (hw : 1 ≤ w ∧ w ≤ 99) (hu : 1 ≤ u ∧ u ≤ 99) (hd : d ≤ 99) (hF : Fr xT μ ν) {el : Nat} (hel : el < 30) (g16 : mgi ν 1 16 = nI el) (h16 : mgi μ 1 16 = nI el) (hst : ∀ i, i < s 3 → StepR μ (16 + 4 * ((el + i) % 30)) s i)
    (g0 : mgi ν 1 0 = nI (s 0 + 1)) (g1 : ∀ q, q ≠ 0 → q ≠ 16 → mgi ν 1 q = mgi μ 1 q) (g2 : ∀ q, mgi ν 2 q = if q = s 0 then nI r else mgi μ 2 q) (g3 : ∀ q, mgi ν 3 q = if q = r then nI (setS (fun p => s (14 + 7 * p) == r) (s 0) ||| 2 ^ s 0) else mgi μ 3 q) (g4 : ∀ q, mgi ν 4 q = if q = s 0 then nI w else mgi μ 4 q) (g5 : ∀ q, mgi ν 5 q = if q = s 0 then nI u else mgi μ 5 q)
    (g6 : ∀ a q, 6 ≤ a → a < 16 → a ≠ 12 → mgi ν a q = mgi μ a q) (g12 : ∀ q, mgi ν 12 q = if q = s 0 then nI d else mgi μ 12 q) (gp : ∀ a q, 16 ≤ a → a ≤ 135 → (q ≠ s 0 ∨ a % 4 ≠ 1) → mgi ν a q = mgi μ a q) (gs : ∀ i, i < s 3 → mgi ν (17 + 4 * ((el + i) % 30)) (s 0) = nI d) (gl : ∀ a q, mgl ν a q = mgl μ a q) : Tw ν (personS s r w u d) T := by
  obtain ⟨hG, hW, ⟨hTo, hNo, hPa⟩, hTx⟩ := id h
  have wn := wf_n hW
  have e : ∀ j, j ≠ 0 → (j < 11 + 7 * s 0 ∨ 18 + 7 * s 0 ≤ j) → personS s r w u d j = s j := fun j h1 h2 => per_o h1 h2
  refine tw_tx h hF (wf_per hW h0 hr hw hu hd) (e 1 (by omega) (by omega)) ⟨?_, ?_, el, hel, g16, fun i hi => ?_⟩
  · obtain ⟨c1, c2, c3, c4, c5, c6, c7, c8, c9, c10, c11⟩ := hTo
    refine ⟨?_, ?_, ?_, ?_, ?_, ?_, fun p hp => ?_, fun r' hr' => ?_, fun p hp => ?_, fun i hi => ?_, fun i hi => ?_⟩
    · rw [g0, per_0]
    · rw [g1 6 (by omega) (by omega), c2, e 1 (by omega) (by omega)]
    · rw [g1 7 (by omega) (by omega), c3, e 2 (by omega) (by omega)]
    · rw [g1 17 (by omega) (by omega), c4, e 3 (by omega) (by omega)]
    · rw [g1 8 (by omega) (by omega), c5, e 4 (by omega) (by omega)]
    · rw [g1 11 (by omega) (by omega), c6, e 5 (by omega) (by omega)]
    · rw [per_0] at hp
      show mgi ν 2 p = _ ∧ mgi ν 4 p = _ ∧ mgi ν 5 p = _
      rw [g2, g4, g5]
      by_cases c : p = s 0
      · rw [if_pos c, if_pos c, if_pos c, c, per_r, per_w, per_u]
        exact ⟨rfl, rfl, rfl⟩
      · rw [if_neg c, if_neg c, if_neg c, e (14 + 7 * p) (by omega) (by omega), e (15 + 7 * p) (by omega) (by omega), e (16 + 7 * p) (by omega) (by omega)]
        exact c7 p (by omega)
    · show mgi ν 3 r' = _
      rw [g3, per_0, setS_s, per_r]
      have ec : setS (fun p => personS s r w u d (14 + 7 * p) == r') (s 0) = setS (fun p => s (14 + 7 * p) == r') (s 0) := setS_cong (fun p hp => by rw [e (14 + 7 * p) (by omega) (by omega)])
      rw [ec]
      by_cases c : r' = r
      · rw [if_pos c, c, if_pos (by simp)]
      · rw [if_neg c, if_neg (by simp; omega), Nat.or_zero]
        exact c8 r' hr'
    · rw [g6 _ _ (by omega) (by omega) (by omega), e (67 + p) (by omega) (by omega)]
      exact c9 p hp
    · rw [e 4 (by omega) (by omega)] at hi
      rw [g6 _ _ (by omega) (by omega) (by omega), g6 _ _ (by omega) (by omega) (by omega), e (75 + 2 * i) (by omega) (by omega), e (76 + 2 * i) (by omega) (by omega)]
      exact c10 i hi
    · rw [e 5 (by omega) (by omega)] at hi
      rw [g6 _ _ (by omega) (by omega) (by omega), g6 _ _ (by omega) (by omega) (by omega), e (91 + 2 * i) (by omega) (by omega), e (92 + 2 * i) (by omega) (by omega)]
      exact c11 i hi
  · obtain ⟨c1, c2, c3, c4, c5, c6, c7, c8, c9⟩ := hNo
    unfold NowR
    rw [per_0, e 6 (by omega) (by omega), e 7 (by omega) (by omega), e 8 (by omega) (by omega), e 9 (by omega) (by omega), e 10 (by omega) (by omega)]
    refine ⟨(g6 11 _ (by omega) (by omega) (by omega)).trans c1, ?_, (g6 11 _ (by omega) (by omega) (by omega)).trans c3, (g6 11 _ (by omega) (by omega) (by omega)).trans c4, (g6 11 _ (by omega) (by omega) (by omega)).trans c5, (g6 11 _ (by omega) (by omega) (by omega)).trans c6, fun p hp => ?_, fun p hp => ?_, fun i hi => ?_⟩
    · rw [g6 (1 + 10) _ (by omega) (by omega) (by omega), c2, setS_s]
      dsimp only
      rw [if_neg (show ¬ (personS s r w u d (12 + 7 * s 0) == 1) = true by rw [per_b]; decide), Nat.or_zero]
      congr 1
      exact setS_cong (fun p hp => by rw [e (12 + 7 * p) (by omega) (by omega)])
    · show mgi ν 12 p = nI (personS s r w u d (11 + 7 * p))
      rw [g12]
      by_cases c : p = s 0
      · rw [if_pos c, c, per_d]
      · rw [if_neg c, e (11 + 7 * p) (by omega) (by omega)]
        exact c7 p (by omega)
    · show mgi ν 13 p = nI (if p < s 0 + 1 then personS s r w u d (13 + 7 * p) else 0)
      rw [g6 _ _ (by omega) (by omega) (by omega)]
      refine (c8 p hp).trans ?_
      congr 1
      by_cases c : p = s 0
      · rw [if_neg (by omega), if_pos (by omega), c, per_l]
      · by_cases c2 : p < s 0
        · rw [if_pos c2, if_pos (by omega), e (13 + 7 * p) (by omega) (by omega)]
        · rw [if_neg c2, if_neg (by omega)]
    · show mgl ν 14 i = pageL (personS s r w u d (2807 + 2 * i)) (personS s r w u d (2808 + 2 * i))
      rw [gl, e (2807 + 2 * i) (by omega) (by omega), e (2808 + 2 * i) (by omega) (by omega)]
      exact c9 i hi
  · rw [e 3 (by omega) (by omega)] at hi
    have hm := Nat.mod_lt (el + i) (show 0 < 30 by decide)
    obtain ⟨a1, a2, a3, a4, a5, a6, a7, a8⟩ := hW.2.2.2.2.2.2.2 i hi
    obtain ⟨c1, c2, c3, c4, c5, c6, c7, c8, c9⟩ := hst i hi
    have ef : ∀ j, 107 ≤ j → personS s r w u d j = s j := fun j hj => e j (by omega) (by omega)
    show StepR ν (16 + 4 * ((el + i) % 30)) _ i
    unfold StepR
    rw [per_0, ef (107 + 90 * i) (by omega), ef (108 + 90 * i) (by omega), ef (109 + 90 * i) (by omega), ef (110 + 90 * i) (by omega), ef (111 + 90 * i) (by omega), ef (112 + 90 * i) (by omega)]
    refine ⟨(gp _ _ (by omega) (by omega) (by omega)).trans c1, ?_, (gp _ _ (by omega) (by omega) (by omega)).trans c3, (gp _ _ (by omega) (by omega) (by omega)).trans c4, (gp _ _ (by omega) (by omega) (by omega)).trans c5, (gp _ _ (by omega) (by omega) (by omega)).trans c6, fun p hp => ?_, fun p hp => ?_, fun q hq => ?_⟩
    · rw [gp _ _ (by omega) (by omega) (by omega), c2, setS_s]
      dsimp only
      rw [if_neg (show ¬ ((if s 0 < s (107 + 90 * i) then personS s r w u d (114 + 90 * i + 3 * s 0) else 0) == 1) = true by rw [if_neg (by omega)]; decide), Nat.or_zero]
      congr 1
      exact setS_cong (fun p hp => by rw [ef (114 + 90 * i + 3 * p) (by omega)])
    · show mgi ν (16 + 4 * ((el + i) % 30) + 1) p = nI (if p < s (107 + 90 * i) then personS s r w u d (113 + 90 * i + 3 * p) else personS s r w u d (17 + 7 * p))
      by_cases c : p = s 0
      · rw [c, show 16 + 4 * ((el + i) % 30) + 1 = 17 + 4 * ((el + i) % 30) by omega, gs i hi, if_neg (by omega), per_t]
      · rw [gp _ _ (by omega) (by omega) (Or.inl c), ef (113 + 90 * i + 3 * p) (by omega), e (17 + 7 * p) (by omega) (by omega)]
        exact c7 p (by omega)
    · show mgi ν (16 + 4 * ((el + i) % 30) + 2) p = nI (if p < s 0 + 1 then (if p < s (107 + 90 * i) then personS s r w u d (115 + 90 * i + 3 * p) else 0) else 0)
      rw [gp _ _ (by omega) (by omega) (by omega)]
      refine (c8 p hp).trans ?_
      congr 1
      by_cases c : p < s 0
      · rw [if_pos c, if_pos (by omega), ef (115 + 90 * i + 3 * p) (by omega)]
      · rw [if_neg c]
        by_cases c2 : p < s 0 + 1
        · rw [if_pos c2, if_neg (by omega)]
        · rw [if_neg c2]
    · show mgl ν (16 + 4 * ((el + i) % 30) + 3) q = pageL (personS s r w u d (137 + 90 * i + 2 * q)) (personS s r w u d (138 + 90 * i + 2 * q))
      rw [gl, ef (137 + 90 * i + 2 * q) (by omega), ef (138 + 90 * i + 2 * q) (by omega)]
      exact c9 q hq
theorem p_tell1 (h : Tw μ s T) {r w u d : Nat} (h0 : s 0 < 8) (hr : r ≤ 3) (hw : 1 ≤ w ∧ w ≤ 99) (hu : 1 ≤ u ∧ u ≤ 99) (hd : d ≤ 99) (k : ∀ ν, Fr xT μ ν → Tw ν (personS s r w u d) T → Q (nI (s 0)) ν) : S_X9_tell 1 (nI r) (nI w) (nI u) (nI d) μ Q := by
  obtain ⟨hG, hW, ⟨hTo, hNo, el, hel, h16, hSt⟩, hTx⟩ := id h
  have wn := wf_n hW
  have hn := hTo.1
  have h17 := hTo.2.2.2.1
  have h3 : mgi μ 3 r = nI (setS (fun p => s (14 + 7 * p) == r) (s 0)) := hTo.2.2.2.2.2.2.2.1 r (by omega)
  unfold S_X9_tell B_X9_tell_48
  simp (disch := first | omega | (simp only [Gp_si, Gp_sl, Gp_ci, Gp_cl]; assumption)) only [li_0, li_1, li_2, li_3, li_4, li_5, li_6, li_7, li_8, li_9, li_10, li_11, li_12, li_13, li_14, li_15, li_16, li_17, li_18, li_19, li_20, li_21, li_22, li_23, li_24, li_25, li_26, li_27, li_28, li_29, li_30, li_32, li_33, li_34, li_35, li_36, li_37, li_38, li_39, li_40, li_41, li_42, li_43, li_44, li_45, li_46, li_47, li_48, li_49, li_50, li_51, li_52, li_53, li_54, li_55, li_56, li_57, li_58, li_59, li_60, li_61, li_62, li_63, li_64, li_65, li_66, li_67, li_68, li_69, li_70, li_71, li_72, li_73, li_74, li_75, li_76, li_77, li_78, li_79, li_80, li_81, li_82, li_83, li_84, li_85, li_86, li_87, li_88, li_89, li_90, li_91, li_92, li_93, li_94, li_95, li_96, li_97, li_98, li_99, li_100, li_101, li_102, li_103, li_104, li_105, li_106, li_107, li_108, li_109, li_110, li_111, li_112, li_113, li_114, li_115, li_116, li_117, li_118, li_119, li_120, li_121, li_122, li_123, li_124, li_125, li_126, li_127, li_128, li_129, li_130, li_134, li_160, li_197, li_229, li_255, li_256, li_265, li_300, li_301, li_330, li_353, li_463, li_720, li_729, li_768, li_999, li_2610, li_2807, li_2867, li_2916, li_4096, li_9999, li_10000, li_30643, li_65535, li_99999, li_1000000, gi_si, gi_sl, gi_sr, gi_ci, gi_cl, gl_si, gl_sl, gl_sr, gl_ci, gl_cl, gr_si, gr_sl, gr_sr, gr_ci, gr_cl, ln_si, ln_sl, ln_sr, ln_ci, ln_cl, ok_si, ok_sl, ok_sr, ok_ci, ok_cl, gp_k hG, gp_l hG, gp_r hG, gp_m hG, Option.some.injEq, exists_eq_left', exists_eq_left, forall_eq, forall_eq', true_and, and_true, if_true, if_false, true_imp_iff, false_imp_iff, not_true_eq_false, not_false_eq_true, false_and, and_false, reduceIte, reduceCtorEq, forall_const, Nat.reduceEqDiff, Nat.reduceAdd, Nat.reduceMul, Nat.reduceSub, Nat.reduceLT, Nat.reduceLeDiff, Nat.reduceMod, Nat.reduceDiv, and_self, ne_eq, exists_const, Nat.add_sub_cancel, nI_add, pk_mul, pk_sub, q_rem, q_div, q_eq, q_le, q_lt, q_cl, q_in, q_m1, q_1m, q_neg, sh1n, bitn, q_mod2, q_neq0, bq_t, bq_f, bq_t2, bq_f2, i01, i10, q_tt, q_ff, ups_e, ups_n, fil_i, fil_o, zq_if, zq_0, zq_1, if_pos, if_neg, hn, h3, fa_or]
  have hF1 : Fr xT μ (msi (msi (msi (msi (msi μ 2 (s 0) (nI r)) 3 r (nI (setS (fun p => s (14 + 7 * p) == r) (s 0) ||| 2 ^ s 0))) 4 (s 0) (nI w)) 5 (s 0) (nI u)) 12 (s 0) (nI d)) := fr_si (fr_si (fr_si (fr_si (fr_si (fr_rf _ _) 2 _ _ rfl) 3 _ _ rfl) 4 _ _ rfl) 5 _ _ rfl) 12 _ _ rfl
  refine loop1 (Bd := fun i ν K => B_X9_tell_128 1 (nI d) i ν K Q) (fun i ν => Fr xT μ ν ∧ (∀ a q, a < 16 → mgi ν a q = mgi (msi (msi (msi (msi (msi μ 2 (s 0) (nI r)) 3 r (nI (setS (fun p => s (14 + 7 * p) == r) (s 0) ||| 2 ^ s 0))) 4 (s 0) (nI w)) 5 (s 0) (nI u)) 12 (s 0) (nI d)) a q) ∧ (∀ a q, 16 ≤ a → a ≤ 135 → (q ≠ s 0 ∨ a % 4 ≠ 1) → mgi ν a q = mgi μ a q) ∧ (∀ j, j < i → mgi ν (17 + 4 * ((el + j) % 30)) (s 0) = nI d) ∧ ∀ a q, mgl ν a q = mgl μ a q) (s 3) 0 (by omega) ⟨hF1, fun _ _ _ => rfl, fun a q h1 h2 h3 => by rw [gi_si, if_neg (by omega), gi_si, if_neg (by omega), gi_si, if_neg (by omega), gi_si, if_neg (by omega), gi_si, if_neg (by omega)], fun j hj => absurd hj (by omega), fun _ _ => rfl⟩ ?_
  rintro i ν hi ⟨hF, ha, hp, hs, hl⟩ K hK
  have hH := fr_gp hG hF
  have v0 : mgi ν 1 0 = nI (s 0) := by
    rw [ha 1 0 (by omega), gi_si, if_neg (by omega), gi_si, if_neg (by omega), gi_si, if_neg (by omega), gi_si, if_neg (by omega), gi_si, if_neg (by omega)]
    exact hn
  have v1 : ∀ q, mgi ν 1 q = mgi μ 1 q := fun q => by
    rw [ha 1 q (by omega), gi_si, if_neg (by omega), gi_si, if_neg (by omega), gi_si, if_neg (by omega), gi_si, if_neg (by omega), gi_si, if_neg (by omega)]
  have v17 : mgi ν 1 17 = nI (s 3) := (v1 17).trans h17
  have v16 : mgi ν 1 16 = nI el := (v1 16).trans h16
  unfold B_X9_tell_128
  by_cases hin : i = s 3
  · subst hin
    simp (disch := first | omega | (simp only [Gp_si, Gp_sl, Gp_ci, Gp_cl]; assumption)) only [li_0, li_1, li_2, li_3, li_4, li_5, li_6, li_7, li_8, li_9, li_10, li_11, li_12, li_13, li_14, li_15, li_16, li_17, li_18, li_19, li_20, li_21, li_22, li_23, li_24, li_25, li_26, li_27, li_28, li_29, li_30, li_32, li_33, li_34, li_35, li_36, li_37, li_38, li_39, li_40, li_41, li_42, li_43, li_44, li_45, li_46, li_47, li_48, li_49, li_50, li_51, li_52, li_53, li_54, li_55, li_56, li_57, li_58, li_59, li_60, li_61, li_62, li_63, li_64, li_65, li_66, li_67, li_68, li_69, li_70, li_71, li_72, li_73, li_74, li_75, li_76, li_77, li_78, li_79, li_80, li_81, li_82, li_83, li_84, li_85, li_86, li_87, li_88, li_89, li_90, li_91, li_92, li_93, li_94, li_95, li_96, li_97, li_98, li_99, li_100, li_101, li_102, li_103, li_104, li_105, li_106, li_107, li_108, li_109, li_110, li_111, li_112, li_113, li_114, li_115, li_116, li_117, li_118, li_119, li_120, li_121, li_122, li_123, li_124, li_125, li_126, li_127, li_128, li_129, li_130, li_134, li_160, li_197, li_229, li_255, li_256, li_265, li_300, li_301, li_330, li_353, li_463, li_720, li_729, li_768, li_999, li_2610, li_2807, li_2867, li_2916, li_4096, li_9999, li_10000, li_30643, li_65535, li_99999, li_1000000, gi_si, gi_sl, gi_sr, gi_ci, gi_cl, gl_si, gl_sl, gl_sr, gl_ci, gl_cl, gr_si, gr_sl, gr_sr, gr_ci, gr_cl, ln_si, ln_sl, ln_sr, ln_ci, ln_cl, ok_si, ok_sl, ok_sr, ok_ci, ok_cl, gp_k hH, gp_l hH, gp_r hH, gp_m hH, Option.some.injEq, exists_eq_left', exists_eq_left, forall_eq, forall_eq', true_and, and_true, if_true, if_false, true_imp_iff, false_imp_iff, not_true_eq_false, not_false_eq_true, false_and, and_false, reduceIte, reduceCtorEq, forall_const, Nat.reduceEqDiff, Nat.reduceAdd, Nat.reduceMul, Nat.reduceSub, Nat.reduceLT, Nat.reduceLeDiff, Nat.reduceMod, Nat.reduceDiv, and_self, ne_eq, exists_const, Nat.add_sub_cancel, nI_add, pk_mul, pk_sub, q_rem, q_div, q_eq, q_le, q_lt, q_cl, q_in, q_m1, q_1m, q_neg, sh1n, bitn, q_mod2, q_neq0, bq_t, bq_f, bq_t2, bq_f2, i01, i10, q_tt, q_ff, ups_e, ups_n, fil_i, fil_o, zq_if, zq_0, zq_1, if_pos, if_neg, v0, v17]
    refine k _ (fr_si hF 1 0 _ rfl) (tw_per h h0 hr hw hu hd (fr_si hF 1 0 _ rfl) hel ?_ h16 hSt ?_ (fun q h1 h2 => ?_) (fun q => ?_) (fun q => ?_) (fun q => ?_) (fun q => ?_) (fun a q h1 h2 h3 => ?_) (fun q => ?_) (fun a q h1 h2 h3 => ?_) (fun j hj => ?_) (fun a q => ?_))
    · rw [gi_si, if_neg (by omega)]
      exact v16
    · rw [gi_si, if_pos ⟨rfl, rfl⟩]
    · rw [gi_si, if_neg (by omega)]
      exact v1 q
    · rw [gi_si, if_neg (by omega), ha 2 q (by omega), gi_si, if_neg (by omega), gi_si, if_neg (by omega), gi_si, if_neg (by omega), gi_si, if_neg (by omega), gi_si]
      by_cases c : q = s 0
      · rw [if_pos ⟨rfl, c⟩, if_pos c]
      · rw [if_neg (fun x => c x.2), if_neg c]
    · rw [gi_si, if_neg (by omega), ha 3 q (by omega), gi_si, if_neg (by omega), gi_si, if_neg (by omega), gi_si, if_neg (by omega), gi_si]
      by_cases c : q = r
      · rw [if_pos ⟨rfl, c⟩, if_pos c]
      · rw [if_neg (fun x => c x.2), if_neg c, gi_si, if_neg (by omega)]
    · rw [gi_si, if_neg (by omega), ha 4 q (by omega), gi_si, if_neg (by omega), gi_si, if_neg (by omega), gi_si]
      by_cases c : q = s 0
      · rw [if_pos ⟨rfl, c⟩, if_pos c]
      · rw [if_neg (fun x => c x.2), if_neg c, gi_si, if_neg (by omega), gi_si, if_neg (by omega)]
    · rw [gi_si, if_neg (by omega), ha 5 q (by omega), gi_si, if_neg (by omega), gi_si]
      by_cases c : q = s 0
      · rw [if_pos ⟨rfl, c⟩, if_pos c]
      · rw [if_neg (fun x => c x.2), if_neg c, gi_si, if_neg (by omega), gi_si, if_neg (by omega), gi_si, if_neg (by omega)]
    · rw [gi_si, if_neg (by omega), ha a q (by omega), gi_si, if_neg (by omega), gi_si, if_neg (by omega), gi_si, if_neg (by omega), gi_si, if_neg (by omega), gi_si, if_neg (by omega)]
    · rw [gi_si, if_neg (by omega), ha 12 q (by omega), gi_si]
      by_cases c : q = s 0
      · rw [if_pos ⟨rfl, c⟩, if_pos c]
      · rw [if_neg (fun x => c x.2), if_neg c, gi_si, if_neg (by omega), gi_si, if_neg (by omega), gi_si, if_neg (by omega), gi_si, if_neg (by omega)]
    · rw [gi_si, if_neg (by omega)]
      exact hp a q h1 h2 h3
    · rw [gi_si, if_neg (by omega)]
      exact hs j hj
    · exact hl a q
  · have hm := Nat.mod_lt (el + i) (show 0 < 30 by decide)
    simp (disch := first | omega | (simp only [Gp_si, Gp_sl, Gp_ci, Gp_cl]; assumption)) only [li_0, li_1, li_2, li_3, li_4, li_5, li_6, li_7, li_8, li_9, li_10, li_11, li_12, li_13, li_14, li_15, li_16, li_17, li_18, li_19, li_20, li_21, li_22, li_23, li_24, li_25, li_26, li_27, li_28, li_29, li_30, li_32, li_33, li_34, li_35, li_36, li_37, li_38, li_39, li_40, li_41, li_42, li_43, li_44, li_45, li_46, li_47, li_48, li_49, li_50, li_51, li_52, li_53, li_54, li_55, li_56, li_57, li_58, li_59, li_60, li_61, li_62, li_63, li_64, li_65, li_66, li_67, li_68, li_69, li_70, li_71, li_72, li_73, li_74, li_75, li_76, li_77, li_78, li_79, li_80, li_81, li_82, li_83, li_84, li_85, li_86, li_87, li_88, li_89, li_90, li_91, li_92, li_93, li_94, li_95, li_96, li_97, li_98, li_99, li_100, li_101, li_102, li_103, li_104, li_105, li_106, li_107, li_108, li_109, li_110, li_111, li_112, li_113, li_114, li_115, li_116, li_117, li_118, li_119, li_120, li_121, li_122, li_123, li_124, li_125, li_126, li_127, li_128, li_129, li_130, li_134, li_160, li_197, li_229, li_255, li_256, li_265, li_300, li_301, li_330, li_353, li_463, li_720, li_729, li_768, li_999, li_2610, li_2807, li_2867, li_2916, li_4096, li_9999, li_10000, li_30643, li_65535, li_99999, li_1000000, gi_si, gi_sl, gi_sr, gi_ci, gi_cl, gl_si, gl_sl, gl_sr, gl_ci, gl_cl, gr_si, gr_sl, gr_sr, gr_ci, gr_cl, ln_si, ln_sl, ln_sr, ln_ci, ln_cl, ok_si, ok_sl, ok_sr, ok_ci, ok_cl, gp_k hH, gp_l hH, gp_r hH, gp_m hH, Option.some.injEq, exists_eq_left', exists_eq_left, forall_eq, forall_eq', true_and, and_true, if_true, if_false, true_imp_iff, false_imp_iff, not_true_eq_false, not_false_eq_true, false_and, and_false, reduceIte, reduceCtorEq, forall_const, Nat.reduceEqDiff, Nat.reduceAdd, Nat.reduceMul, Nat.reduceSub, Nat.reduceLT, Nat.reduceLeDiff, Nat.reduceMod, Nat.reduceDiv, and_self, ne_eq, exists_const, Nat.add_sub_cancel, nI_add, pk_mul, pk_sub, q_rem, q_div, q_eq, q_le, q_lt, q_cl, q_in, q_m1, q_1m, q_neg, sh1n, bitn, q_mod2, q_neq0, bq_t, bq_f, bq_t2, bq_f2, i01, i10, q_tt, q_ff, ups_e, ups_n, fil_i, fil_o, zq_if, zq_0, zq_1, if_pos, if_neg, v17]
    rw [e_ahead hH v16 hel (by omega)]
    obtain ⟨ak, -⟩ := ah_kd ((el + i) % 30) hm
    obtain ⟨a1, a2, a3, a4, a5, a6, a7, a8, a9, a10⟩ := mom_g hH (m := 16 + 4 * ((el + i) % 30)) (by omega) ak
    simp (disch := first | omega | (simp only [Gp_si, Gp_sl, Gp_ci, Gp_cl]; assumption)) only [li_0, li_1, li_2, li_3, li_4, li_5, li_6, li_7, li_8, li_9, li_10, li_11, li_12, li_13, li_14, li_15, li_16, li_17, li_18, li_19, li_20, li_21, li_22, li_23, li_24, li_25, li_26, li_27, li_28, li_29, li_30, li_32, li_33, li_34, li_35, li_36, li_37, li_38, li_39, li_40, li_41, li_42, li_43, li_44, li_45, li_46, li_47, li_48, li_49, li_50, li_51, li_52, li_53, li_54, li_55, li_56, li_57, li_58, li_59, li_60, li_61, li_62, li_63, li_64, li_65, li_66, li_67, li_68, li_69, li_70, li_71, li_72, li_73, li_74, li_75, li_76, li_77, li_78, li_79, li_80, li_81, li_82, li_83, li_84, li_85, li_86, li_87, li_88, li_89, li_90, li_91, li_92, li_93, li_94, li_95, li_96, li_97, li_98, li_99, li_100, li_101, li_102, li_103, li_104, li_105, li_106, li_107, li_108, li_109, li_110, li_111, li_112, li_113, li_114, li_115, li_116, li_117, li_118, li_119, li_120, li_121, li_122, li_123, li_124, li_125, li_126, li_127, li_128, li_129, li_130, li_134, li_160, li_197, li_229, li_255, li_256, li_265, li_300, li_301, li_330, li_353, li_463, li_720, li_729, li_768, li_999, li_2610, li_2807, li_2867, li_2916, li_4096, li_9999, li_10000, li_30643, li_65535, li_99999, li_1000000, gi_si, gi_sl, gi_sr, gi_ci, gi_cl, gl_si, gl_sl, gl_sr, gl_ci, gl_cl, gr_si, gr_sl, gr_sr, gr_ci, gr_cl, ln_si, ln_sl, ln_sr, ln_ci, ln_cl, ok_si, ok_sl, ok_sr, ok_ci, ok_cl, gp_k hH, gp_l hH, gp_r hH, gp_m hH, Option.some.injEq, exists_eq_left', exists_eq_left, forall_eq, forall_eq', true_and, and_true, if_true, if_false, true_imp_iff, false_imp_iff, not_true_eq_false, not_false_eq_true, false_and, and_false, reduceIte, reduceCtorEq, forall_const, Nat.reduceEqDiff, Nat.reduceAdd, Nat.reduceMul, Nat.reduceSub, Nat.reduceLT, Nat.reduceLeDiff, Nat.reduceMod, Nat.reduceDiv, and_self, ne_eq, exists_const, Nat.add_sub_cancel, nI_add, pk_mul, pk_sub, q_rem, q_div, q_eq, q_le, q_lt, q_cl, q_in, q_m1, q_1m, q_neg, sh1n, bitn, q_mod2, q_neq0, bq_t, bq_f, bq_t2, bq_f2, i01, i10, q_tt, q_ff, ups_e, ups_n, fil_i, fil_o, zq_if, zq_0, zq_1, if_pos, if_neg, v0, a1, a2, a5, a8]
    refine hK _ (by omega) ⟨fr_si hF _ _ _ (xT_i (by omega)), fun a q h1 => by rw [gi_si, if_neg (by omega)]; exact ha a q h1, fun a q h1 h2 h3 => by rw [gi_si, if_neg (by omega)]; exact hp a q h1 h2 h3, fun j hj => ?_, fun a q => hl a q⟩
    by_cases c : (el + j) % 30 = (el + i) % 30
    · rw [gi_si, if_pos (by omega)]
    · rw [gi_si, if_neg (by omega)]
      have : j ≠ i := fun e => c (by rw [e])
      exact hs j (by omega)
theorem p_tell0 (h : Tw μ s T) {r w u d : Int32} (hn : tellB s r w u d = false) (k : Q (-nI 1) μ) : S_X9_tell 1 r w u d μ Q := by
  have hG := h.1
  have hn0 : mgi μ 1 0 = nI (s 0) := h.2.2.1.1.1
  have wn := wf_n h.2.1
  have hn' := of_decide_eq_false hn
  unfold S_X9_tell B_X9_tell_48
  simp (disch := first | omega | (simp only [Gp_si, Gp_sl, Gp_ci, Gp_cl]; assumption)) only [li_0, li_1, li_2, li_3, li_4, li_5, li_6, li_7, li_8, li_9, li_10, li_11, li_12, li_13, li_14, li_15, li_16, li_17, li_18, li_19, li_20, li_21, li_22, li_23, li_24, li_25, li_26, li_27, li_28, li_29, li_30, li_32, li_33, li_34, li_35, li_36, li_37, li_38, li_39, li_40, li_41, li_42, li_43, li_44, li_45, li_46, li_47, li_48, li_49, li_50, li_51, li_52, li_53, li_54, li_55, li_56, li_57, li_58, li_59, li_60, li_61, li_62, li_63, li_64, li_65, li_66, li_67, li_68, li_69, li_70, li_71, li_72, li_73, li_74, li_75, li_76, li_77, li_78, li_79, li_80, li_81, li_82, li_83, li_84, li_85, li_86, li_87, li_88, li_89, li_90, li_91, li_92, li_93, li_94, li_95, li_96, li_97, li_98, li_99, li_100, li_101, li_102, li_103, li_104, li_105, li_106, li_107, li_108, li_109, li_110, li_111, li_112, li_113, li_114, li_115, li_116, li_117, li_118, li_119, li_120, li_121, li_122, li_123, li_124, li_125, li_126, li_127, li_128, li_129, li_130, li_134, li_160, li_197, li_229, li_255, li_256, li_265, li_300, li_301, li_330, li_353, li_463, li_720, li_729, li_768, li_999, li_2610, li_2807, li_2867, li_2916, li_4096, li_9999, li_10000, li_30643, li_65535, li_99999, li_1000000, gi_si, gi_sl, gi_sr, gi_ci, gi_cl, gl_si, gl_sl, gl_sr, gl_ci, gl_cl, gr_si, gr_sl, gr_sr, gr_ci, gr_cl, ln_si, ln_sl, ln_sr, ln_ci, ln_cl, ok_si, ok_sl, ok_sr, ok_ci, ok_cl, gp_k hG, gp_l hG, gp_r hG, gp_m hG, Option.some.injEq, exists_eq_left', exists_eq_left, forall_eq, forall_eq', true_and, and_true, if_true, if_false, true_imp_iff, false_imp_iff, not_true_eq_false, not_false_eq_true, false_and, and_false, reduceIte, reduceCtorEq, forall_const, Nat.reduceEqDiff, Nat.reduceAdd, Nat.reduceMul, Nat.reduceSub, Nat.reduceLT, Nat.reduceLeDiff, Nat.reduceMod, Nat.reduceDiv, and_self, ne_eq, exists_const, Nat.add_sub_cancel, nI_add, pk_mul, pk_sub, q_rem, q_div, q_eq, q_le, q_lt, q_cl, q_in, q_m1, q_1m, q_neg, sh1n, bitn, q_mod2, q_neq0, bq_t, bq_f, bq_t2, bq_f2, i01, i10, q_tt, q_ff, ups_e, ups_n, fil_i, fil_o, zq_if, zq_0, zq_1, if_pos, if_neg, hn0]
  refine ⟨fun _ => k, fun c1 => ⟨fun _ => k, fun c2 => ⟨fun _ => k, fun c3 => ⟨fun _ => k, fun c4 => ⟨fun _ => k, fun c5 => ⟨fun _ => k, fun c6 => ⟨fun _ => k, fun c7 => ⟨fun _ => k, fun c8 => ⟨fun c9 => ?_, fun _ => k⟩⟩⟩⟩⟩⟩⟩⟩⟩
  refine absurd ⟨⟨Int32.not_lt.1 c1, ?_⟩, ⟨Int32.not_lt.1 c3, Int32.not_lt.1 c4⟩, ⟨Int32.not_lt.1 c5, Int32.not_lt.1 c6⟩, ⟨Int32.not_lt.1 c7, Int32.not_lt.1 c8⟩, c9⟩ hn'
  have h4 := Int32.not_le.1 c2
  obtain ⟨k, hk, e⟩ := q_rg (by omega) ⟨Int32.not_lt.1 c1, h4⟩
  rw [e, q_le (by omega) (by omega)]
  omega
theorem p_tell (h : Tw μ s T) {r w u d : Int32} (k : ∀ ν, Fr xT μ ν → Tw ν (tellT s r w u d) T → Q (tellV s r w u d) ν) : S_X9_tell 1 r w u d μ Q := by
  unfold tellT tellV at k
  by_cases c : tellB s r w u d = true
  · simp only [if_pos c] at k
    obtain ⟨c1, c2, c3, c4, c5⟩ := of_decide_eq_true c
    obtain ⟨r, h1, rfl⟩ := q_rg2 (by omega) c1
    obtain ⟨w, h2, h2b, rfl⟩ := m1_lt (by omega) c2
    obtain ⟨u, h3, h3b, rfl⟩ := m1_lt (by omega) c3
    obtain ⟨d, h4, rfl⟩ := q_rg2 (by omega) c4
    rw [vt (by omega), vt (by omega), vt (by omega), vt (by omega)] at k
    exact p_tell1 h c5 h1 ⟨h2, h2b⟩ ⟨h3, h3b⟩ h4 k
  · simp only [if_neg c] at k
    exact p_tell0 h (Bool.eq_false_iff.2 c) (k μ (fr_rf _ _) h)
theorem m_person (h : Mo μ s T) {r w u d : Int32} (k : ∀ ν, Fq μ ν → Mo ν (tellT s r w u d) T → Q (tellV s r w u d) ν) : S_X11_person 314 r w u d μ Q := by
  obtain ⟨hG, hA, hW, hTx⟩ := id h
  have wn := wf_n hW
  unfold tellT tellV at k
  by_cases c : tellB s r w u d = true
  · simp only [if_pos c] at k
    obtain ⟨c1, c2, c3, c4, c5⟩ := of_decide_eq_true c
    obtain ⟨r, h1, rfl⟩ := q_rg2 (by omega) c1
    obtain ⟨w, h2, h2b, rfl⟩ := m1_lt (by omega) c2
    obtain ⟨u, h3, h3b, rfl⟩ := m1_lt (by omega) c3
    obtain ⟨d, h4, rfl⟩ := q_rg2 (by omega) c4
    rw [vt (by omega), vt (by omega), vt (by omega), vt (by omega)] at k
    refine p_Mperson1 hG hA c5 h1 ⟨h2, h2b⟩ ⟨h3, h3b⟩ h4 (fun ν hm hN => ?_)
    have hF := fq_mof hm
    refine k ν hF ⟨fq_gp hG hF, hN, wf_per hW c5 h1 ⟨h2, h2b⟩ ⟨h3, h3b⟩ h4, fun i hi => ?_⟩
    rw [per_o (by omega) (by omega)] at hi
    exact TxM_x (hTx i hi) (fun q => hF.2.2.2.2.1 317 q (by omega))
  · simp only [if_neg c] at k
    exact p_Mperson0 hG hA wn.1 (fun x => c (decide_eq_true x)) (k μ (fq_rf μ) h)
end TM
