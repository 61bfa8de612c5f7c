/-! the reference: what is open, what is compared, names -/
def oix : List Nat → Nat
  | [] => 0
  | x :: S => if 40 ≤ x then S.length + 1 else oix S
theorem nI_dec (m : Nat) : nI (m + 1) - 1 = nI m := nI_pred m
theorem nI_dm (m : Nat) : nI m + -1 = nI m - 1 := (Int32.sub_eq_add_neg _ _).symm
theorem nI_n0 {m : Nat} (h : m < 2147483648) : ¬ nI m < 0 := by
  have e : (nI m < 0) = (m < 0) := q_lt (b := 0) h (by omega)
  rw [e]
  omega
theorem nI_p0 {m : Nat} (h : m < 2147483648) : 0 ≤ nI m := by
  have e : (0 ≤ nI m) = (0 ≤ m) := q_le (a := 0) (by omega) h
  rw [e]
  omega
section MO
variable {μ : Me}
theorem md_ok (hG : Gp μ) : mok μ 314 11 ∧ mgr μ 314 15 = some 319 ∧ mok μ 319 12 ∧ mln μ 319 = 160 := by
  refine ⟨gp_ok hG (by decide) (by decide), ?_, gp_ok hG (by decide) (by decide), gp_ln hG (by decide) (by decide)⟩
  simp (disch := first | omega | (simp only [Gp_si, Gp_sl, Gp_ci, Gp_cl]; assumption)) only [li_0, li_1, li_2, li_3, li_4, li_5, li_6, li_7, li_8, li_9, li_10, li_11, li_12, li_13, li_14, li_15, li_16, li_17, li_18, li_19, li_20, li_21, li_22, li_23, li_24, li_25, li_26, li_27, li_28, li_29, li_30, li_32, li_33, li_34, li_35, li_36, li_37, li_38, li_39, li_40, li_41, li_42, li_43, li_44, li_45, li_46, li_47, li_48, li_49, li_50, li_51, li_52, li_53, li_54, li_55, li_56, li_57, li_58, li_59, li_60, li_61, li_62, li_63, li_64, li_65, li_66, li_67, li_68, li_69, li_70, li_71, li_72, li_73, li_74, li_75, li_76, li_77, li_78, li_79, li_80, li_81, li_82, li_83, li_84, li_85, li_86, li_87, li_88, li_89, li_90, li_91, li_92, li_93, li_94, li_95, li_96, li_97, li_98, li_99, li_100, li_101, li_102, li_103, li_104, li_105, li_106, li_107, li_108, li_109, li_110, li_111, li_112, li_113, li_114, li_115, li_116, li_117, li_118, li_119, li_120, li_121, li_122, li_123, li_124, li_125, li_126, li_127, li_128, li_129, li_130, li_134, li_160, li_197, li_229, li_255, li_256, li_265, li_300, li_301, li_330, li_353, li_463, li_720, li_729, li_768, li_999, li_2610, li_2807, li_2867, li_2916, li_4096, li_9999, li_10000, li_30643, li_65535, li_99999, li_1000000, gi_si, gi_sl, gi_sr, gi_ci, gi_cl, gl_si, gl_sl, gl_sr, gl_ci, gl_cl, gr_si, gr_sl, gr_sr, gr_ci, gr_cl, ln_si, ln_sl, ln_sr, ln_ci, ln_cl, ok_si, ok_sl, ok_sr, ok_ci, ok_cl, gp_k hG, gp_l hG, gp_r hG, gp_m hG, Option.some.injEq, exists_eq_left', exists_eq_left, forall_eq, forall_eq', true_and, and_true, if_true, if_false, true_imp_iff, false_imp_iff, not_true_eq_false, not_false_eq_true, false_and, and_false, reduceIte, reduceCtorEq, forall_const, Nat.reduceEqDiff, Nat.reduceAdd, Nat.reduceMul, Nat.reduceSub, Nat.reduceLT, Nat.reduceLeDiff, Nat.reduceMod, Nat.reduceDiv, and_self, ne_eq, exists_const, Nat.add_sub_cancel, nI_add, pk_mul, pk_sub, q_rem, q_div, q_eq, q_le, q_lt, q_cl, q_in, q_m1, q_1m, q_neg, sh1n, bitn, q_mod2, q_neq0, bq_t, bq_f, bq_t2, bq_f2, i01, i10, q_tt, q_ff, ups_e, ups_n, fil_i, fil_o, zq_if, zq_0, zq_1, if_pos, if_neg]
theorem m_openAt {Q : Int32 → Me → Prop} {S : List Nat} (hG : Gp μ) (hP : Pl μ S) (hl : S.length ≤ 100) (k0 : oix S = 0 → Q (-1) μ) (k1 : ∀ m, oix S = m + 1 → Q (nI m) μ) : S_X11_openAt 314 μ Q := by
  obtain ⟨o1, o2, o3, o4⟩ := md_ok hG
  obtain ⟨p1, p2, p3⟩ := hP
  refine ⟨o1, ?_⟩
  rw [p1]
  refine loopG (Bd := fun a ν K => B_X11_openAt_7 314 a ν K Q) (fun a ν m => ν = μ ∧ ∃ S', StP μ S' ∧ S'.length ≤ 100 ∧ (∀ x, x ∈ S' → x < 50) ∧ oix S' = oix S ∧ m = S'.length ∧ a = nI S'.length - 1) ⟨_, rfl, S, p3, hl, p2, rfl, rfl, rfl⟩ ?_
  rintro a ν m ⟨rfl, S', s1, s2, s3, s4, rfl, rfl⟩ K hK
  cases S' with
  | nil => exact ⟨fun _ => k0 s4.symm, fun h => absurd (by decide) h⟩
  | cons x S1 =>
    have s2 : S1.length + 1 ≤ 100 := s2
    have hx := s3 x (List.mem_cons_self ..)
    show B_X11_openAt_7 314 (nI (S1.length + 1) - 1) ν K Q
    rw [nI_dec]
    refine ⟨fun h => absurd h (nI_n0 (by omega)), fun _ => ⟨o1, 319, o2, o3, ?_, ?_⟩⟩
    · rw [q_in (by omega) (by omega), o4]
      omega
    · rw [q_cl (by omega), s1.1]
      have e : (40 ≤ nI x) = (40 ≤ x) := q_le (a := 40) (by omega) (by omega)
      rw [e]
      refine ⟨fun h => k1 S1.length ?_, fun h => ?_⟩
      · rw [← s4]
        exact if_pos h
      · rw [nI_dm]
        refine hK _ _ S1.length (by simp) ⟨rfl, S1, s1.2, by omega, fun y hy => s3 y (List.mem_cons_of_mem _ hy), ?_, rfl, rfl⟩
        rw [← s4]
        exact (if_neg h).symm
theorem oix_n : ∀ (S : List Nat), StP μ S → (oix S = 0 → opn S = 0) ∧ (∀ m, oix S = m + 1 → m < S.length ∧ mgi μ 319 m = nI (opn S) ∧ 40 ≤ opn S)
  | [], _ => ⟨fun _ => rfl, fun m h => by cases h⟩
  | x :: S, h => by
    have ih := oix_n S h.2
    by_cases c : 40 ≤ x
    · have e1 : oix (x :: S) = S.length + 1 := if_pos c
      have e2 : opn (x :: S) = x := if_pos c
      rw [e1, e2]
      refine ⟨fun h => by omega, fun m hm => ?_⟩
      have : m = S.length := by omega
      rw [this]
      exact ⟨by simp, h.1, c⟩
    · have e1 : oix (x :: S) = oix S := if_neg c
      have e2 : opn (x :: S) = opn S := if_neg c
      rw [e1, e2]
      refine ⟨ih.1, fun m hm => ?_⟩
      have := ih.2 m hm
      exact ⟨by simp; omega, this.2⟩
theorem m_openNow {Q : Int32 → Me → Prop} {S : List Nat} (hG : Gp μ) (hP : Pl μ S) (hl : S.length ≤ 100) (k0 : opn S = 0 → Q (-1) μ) (k1 : opn S ≠ 0 → Q (nI (opn S)) μ) : S_X11_openNow 314 μ Q := by
  obtain ⟨o1, o2, o3, o4⟩ := md_ok hG
  have hx := oix_n S hP.2.2
  refine ⟨o1, m_openAt hG hP hl (fun h => ⟨fun q => absurd q (by decide), fun _ => k0 (hx.1 h)⟩) (fun m h => ⟨fun _ => ⟨319, o2, m_openAt hG hP hl (fun h2 => by omega) (fun m2 h2 => ?_)⟩, fun q => absurd (nI_p0 ?_) q⟩)⟩
  · have e : m2 = m := by omega
    subst e
    have q := hx.2 m2 h
    refine ⟨o3, ?_, ?_⟩
    · rw [q_in (by omega) (by omega), o4]
      omega
    · rw [q_cl (by omega), q.2.1]
      exact k1 (by omega)
  · have q := hx.2 m h
    omega
theorem m_isCompared {Q : Int32 → Me → Prop} {S : List Nat} (hG : Gp μ) (hP : Pl μ S) (hl : S.length ≤ 100) (k0 : cmpd S = false → Q 0 μ) (k1 : cmpd S = true → Q 1 μ) : S_X11_isCompared 314 μ Q := by
  obtain ⟨o1, o2, o3, o4⟩ := md_ok hG
  obtain ⟨p1, p2, p3⟩ := hP
  refine ⟨o1, ?_⟩
  rw [p1]
  refine loopG (Bd := fun a ν K => B_X11_isCompared_7 314 a ν K Q) (fun a ν m => ν = μ ∧ ∃ S', StP μ S' ∧ S'.length ≤ 100 ∧ (∀ x, x ∈ S' → x < 50) ∧ cmpd S' = cmpd S ∧ m = S'.length ∧ a = nI S'.length - 1) ⟨_, rfl, S, p3, hl, p2, rfl, rfl, rfl⟩ ?_
  rintro a ν m ⟨rfl, S', s1, s2, s3, s4, rfl, rfl⟩ K hK
  cases S' with
  | nil => exact ⟨fun _ => ⟨fun _ => k0 s4.symm, fun h => absurd (by decide) h⟩, fun h => absurd (by decide) h⟩
  | cons x S1 =>
    have s2 : S1.length + 1 ≤ 100 := s2
    have hx := s3 x (List.mem_cons_self ..)
    have rk := rkM_7 x
    show B_X11_isCompared_7 314 (nI (S1.length + 1) - 1) ν K Q
    rw [nI_dec]
    have v1 : vp_in (nI S1.length) (mln ν 319) := by
      rw [q_in (by omega) (by omega), o4]
      omega
    have e4 : (nI (rkM x) ≤ 4) = (rkM x ≤ 4) := q_le (b := 4) (by omega) (by omega)
    have e5 : (nI (rkM x) = 4) = (rkM x = 4) := q_eq (b := 4) (by omega) (by omega)
    refine ⟨fun h => absurd h (nI_n0 (by omega)), fun _ => ⟨o1, 319, o2, o3, v1, ?_⟩⟩
    rw [q_cl (by omega), s1.1, e_rank (by omega)]
    refine ⟨fun h => ?_, fun h => ?_⟩
    · rw [e4] at h
      have ec : cmpd (x :: S1) = decide (rkM x = 4) := if_pos h
      rw [ec] at s4
      refine ⟨fun q => absurd q (nI_n0 (by omega)), fun _ => ⟨o1, 319, o2, o3, v1, ?_⟩⟩
      rw [q_cl (by omega), s1.1, e_rank (by omega)]
      refine ⟨fun q => k0 ?_, fun q => k1 ?_⟩
      · rw [e5] at q
        rw [← s4]
        exact decide_eq_false q
      · rw [e5] at q
        rw [← s4]
        exact decide_eq_true q
    · rw [e4] at h
      rw [nI_dm]
      refine hK _ _ S1.length (by simp) ⟨rfl, S1, s1.2, by omega, fun y hy => s3 y (List.mem_cons_of_mem _ hy), ?_, rfl, rfl⟩
      rw [← s4]
      exact (if_neg h).symm
end MO
theorem cmpd_s {r : Nat} (hr : 5 ≤ r) : ∀ (S : List Nat) (C : Cd), cmpd (stl r S C).1 = cmpd S
  | [], _ => rfl
  | x :: S, C => by
    by_cases c : r ≤ rkM x
    · have e1 : stl r (x :: S) C = stl r S (C ++ [(x, 0)]) := if_pos c
      have e2 : cmpd (x :: S) = cmpd S := if_neg (by omega)
      rw [e1, e2]
      exact cmpd_s hr S _
    · have e1 : stl r (x :: S) C = (x :: S, C) := if_neg c
      rw [e1]
theorem opn_s {r : Nat} (hr : 1 ≤ r) : ∀ (S : List Nat) (C : Cd), opn (stl r S C).1 = opn S
  | [], _ => rfl
  | x :: S, C => by
    by_cases c : r ≤ rkM x
    · have e1 : stl r (x :: S) C = stl r S (C ++ [(x, 0)]) := if_pos c
      have h40 : ¬ 40 ≤ x := by
        intro q
        unfold rkM at c
        rw [if_pos q] at c
        omega
      have e2 : opn (x :: S) = opn S := if_neg h40
      rw [e1, e2]
      exact opn_s hr S _
    · have e1 : stl r (x :: S) C = (x :: S, C) := if_neg c
      rw [e1]
theorem stl_stl {r r' : Nat} (h : r ≤ r') : ∀ (S : List Nat) (C : Cd), stl r (stl r' S C).1 (stl r' S C).2 = stl r S C
  | [], _ => rfl
  | x :: S, C => by
    by_cases c : r' ≤ rkM x
    · have e1 : stl r' (x :: S) C = stl r' S (C ++ [(x, 0)]) := if_pos c
      have e2 : stl r (x :: S) C = stl r S (C ++ [(x, 0)]) := if_pos (by omega)
      rw [e1, e2]
      exact stl_stl h S _
    · have e1 : stl r' (x :: S) C = (x :: S, C) := if_neg c
      rw [e1]
theorem stl_len (r : Nat) : ∀ (S : List Nat) (C : Cd), (stl r S C).1.length ≤ S.length ∧ (stl r S C).2.length + (stl r S C).1.length = C.length + S.length
  | [], _ => ⟨Nat.le_refl _, rfl⟩
  | x :: S, C => by
    by_cases c : r ≤ rkM x
    · have e1 : stl r (x :: S) C = stl r S (C ++ [(x, 0)]) := if_pos c
      rw [e1]
      have ih := stl_len r S (C ++ [(x, 0)])
      have hl : (C ++ [(x, 0)]).length = C.length + 1 := by rw [List.length_append]; rfl
      have hs : (x :: S).length = S.length + 1 := rfl
      omega
    · have e1 : stl r (x :: S) C = (x :: S, C) := if_neg c
      rw [e1]
      exact ⟨Nat.le_refl _, rfl⟩
