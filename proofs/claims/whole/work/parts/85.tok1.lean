/-! tokens: pure functions of the bytes; the class finds words and signs -/
def kwL : List (List Nat) := [[114, 117, 110, 115], [116, 97, 107, 101, 115], [112, 101, 114, 115, 111, 110], [114, 105, 110, 103], [98, 101, 100], [117, 112], [100, 117, 101], [100, 97, 121], [119, 97, 108, 107], [114, 117, 110], [119, 101, 97, 116, 104, 101, 114], [119, 104, 111], [114, 111, 97, 100], [104, 101, 97, 114, 100], [102, 97, 115, 116], [106, 97, 109], [111, 102], [114, 105, 110, 103, 115], [105, 102], [116, 104, 101, 110], [101, 108, 115, 101], [101, 110, 100], [111, 114], [120, 111, 114], [97, 110, 100], [110, 111, 116]]
def kst (k : Nat) : Nat := [0, 5, 11, 18, 23, 27, 30, 34, 38, 43, 47, 55, 59, 64, 70, 75, 79, 82, 88, 91, 96, 101, 105, 108, 112, 116].getD k 120
def sgL : List Nat := [43, 45, 42, 47, 40, 41, 59, 60, 62, 61, 35]
def kwd (k : Nat) : List Nat := kwL.getD k []
def kln (k : Nat) : Nat := (kwd k).length
def kch (k j : Nat) : Nat := (kwd k).getD j 0
def isD (c : Nat) : Bool := decide (48 ≤ c ∧ c ≤ 57)
def isLt (c : Nat) : Bool := decide ((97 ≤ c ∧ c ≤ 122) ∨ (65 ≤ c ∧ c ≤ 90))
def isB (c : Nat) : Bool := decide (c = 32 ∨ c = 10)
/-- where a run of bytes of a sort ends -/
def rnE (c : Nat → Bool) (b : Nat → Nat) : Nat → Nat → Nat
  | 0, p => p
  | n + 1, p => if c (b p) = true then rnE c b n (p + 1) else p
def endR (c : Nat → Bool) (b : Nat → Nat) (L p : Nat) : Nat := rnE c b (L - p) p
section TK
variable {c : Nat → Bool} {b : Nat → Nat} {L p : Nat}
theorem endR_e (h : L ≤ p) : endR c b L p = p := by
  unfold endR
  rw [show L - p = 0 by omega]
  rfl
theorem endR_t (h : p < L) (hc : c (b p) = true) : endR c b L p = endR c b L (p + 1) := by
  unfold endR
  rw [show L - p = (L - (p + 1)) + 1 by omega]
  show (if c (b p) = true then rnE c b (L - (p + 1)) (p + 1) else p) = _
  rw [if_pos hc]
theorem endR_f (h : p < L) (hc : c (b p) = false) : endR c b L p = p := by
  unfold endR
  rw [show L - p = (L - (p + 1)) + 1 by omega]
  show (if c (b p) = true then rnE c b (L - (p + 1)) (p + 1) else p) = _
  rw [if_neg (by rw [hc]; decide)]
theorem rnE_b (c : Nat → Bool) (b : Nat → Nat) : ∀ n p, p ≤ rnE c b n p ∧ rnE c b n p ≤ p + n ∧ (∀ q, p ≤ q → q < rnE c b n p → c (b q) = true) ∧ (rnE c b n p < p + n → c (b (rnE c b n p)) = false)
  | 0, p => ⟨Nat.le_refl _, Nat.le_refl _, fun q h1 h2 => absurd h2 (by show ¬ q < p; omega), fun h => absurd h (by show ¬ p < p + 0; omega)⟩
  | n + 1, p => by
    obtain ⟨i1, i2, i3, i4⟩ := rnE_b c b n (p + 1)
    have e : rnE c b (n + 1) p = if c (b p) = true then rnE c b n (p + 1) else p := rfl
    rw [e]
    by_cases h : c (b p) = true
    · rw [if_pos h]
      refine ⟨by omega, by omega, fun q h1 h2 => ?_, fun h1 => i4 (by omega)⟩
      by_cases hq : q = p
      · rw [hq]; exact h
      · exact i3 q (by omega) h2
    · rw [if_neg h]
      exact ⟨Nat.le_refl _, by omega, fun q h1 h2 => absurd h2 (by omega), fun _ => Bool.eq_false_iff.2 h⟩
theorem endR_b (h : p ≤ L) : p ≤ endR c b L p ∧ endR c b L p ≤ L ∧ (∀ q, p ≤ q → q < endR c b L p → c (b q) = true) ∧ (endR c b L p < L → c (b (endR c b L p)) = false) := by
  obtain ⟨i1, i2, i3, i4⟩ := rnE_b c b (L - p) p
  unfold endR
  exact ⟨i1, by omega, i3, fun h1 => i4 (by omega)⟩
end TK
/-- a word spelled from p on, n bytes long -/
def eqW (b : Nat → Nat) (p n : Nat) (w : List Nat) : Bool := decide (n = w.length) && (List.range w.length).all (fun j => b (p + j) == w.getD j 0)
def wkd (b : Nat → Nat) (p n : Nat) : Nat := match kwL.findIdx? (eqW b p n) with
  | none => 52
  | some k => k
theorem eqW_t {b : Nat → Nat} {p n : Nat} {w : List Nat} : eqW b p n w = true ↔ n = w.length ∧ ∀ j, j < w.length → b (p + j) = w.getD j 0 := by
  unfold eqW
  rw [Bool.and_eq_true, List.all_eq_true]
  constructor
  · rintro ⟨h1, h2⟩
    refine ⟨of_decide_eq_true h1, fun j hj => ?_⟩
    have := h2 j (List.mem_range.2 hj)
    exact eq_of_beq this
  · rintro ⟨h1, h2⟩
    refine ⟨decide_eq_true h1, fun j hj => ?_⟩
    rw [h2 j (List.mem_range.1 hj)]
    exact beq_self_eq_true _
theorem kw_len : kwL.length = 26 := rfl
theorem kw_get {k : Nat} (hk : k < 26) : kwL[k]? = some (kwd k) := by
  unfold kwd
  rw [List.getD_eq_getElem?_getD, List.getElem?_eq_getElem (show k < kwL.length by rw [kw_len]; exact hk)]
  rfl
theorem wkd_some {b : Nat → Nat} {p n k : Nat} (hk : k < 26) (h : eqW b p n (kwd k) = true) (hn : ∀ k', k' < k → eqW b p n (kwd k') = false) : wkd b p n = k := by
  have e : kwL.findIdx? (eqW b p n) = some k := by
    rw [List.findIdx?_eq_some_iff_getElem]
    have hl : k < kwL.length := by rw [kw_len]; exact hk
    have g : ∀ j (hj : j < kwL.length), kwL[j] = kwd j := fun j hj => by
      have := kw_get (k := j) (by rw [kw_len] at hj; exact hj)
      rw [List.getElem?_eq_getElem hj] at this
      exact Option.some.inj this
    refine ⟨hl, by rw [g k hl]; exact h, fun j hj => ?_⟩
    rw [g j (by omega), hn j hj]
    decide
  unfold wkd
  rw [e]
theorem wkd_none {b : Nat → Nat} {p n : Nat} (hn : ∀ k', k' < 26 → eqW b p n (kwd k') = false) : wkd b p n = 52 := by
  have e : kwL.findIdx? (eqW b p n) = none := by
    rw [List.findIdx?_eq_none_iff]
    intro w hw
    obtain ⟨j, hj, rfl⟩ := List.getElem_of_mem hw
    have := kw_get (k := j) (by rw [kw_len] at hj; exact hj)
    rw [List.getElem?_eq_getElem hj] at this
    rw [Option.some.inj this]
    exact hn j (by rw [kw_len] at hj; exact hj)
  unfold wkd
  rw [e]
def sgN (x : Nat) : Nat := match sgL.findIdx? (fun y => y == x) with
  | none => 52
  | some k => 30 + k
/-- a sign, of itself and what stands behind it -/
def sgK (x y : Nat) : Nat := if x = 60 ∧ y = 61 then 41 else if x = 62 ∧ y = 61 then 42 else sgN x
/-- a token's kind, its end, its number -/
def tkE (b : Nat → Nat) (L p : Nat) : Nat := if L ≤ p then p else if isD (b p) = true then endR isD b L (p + 1) else if isLt (b p) = true then endR isLt b L (p + 1) else if (b p = 60 ∨ b p = 62) ∧ p + 1 < L ∧ b (p + 1) = 61 then p + 2 else p + 1
def tkK (b : Nat → Nat) (L p : Nat) : Nat := if L ≤ p then 51 else if isD (b p) = true then 50 else if isLt (b p) = true then wkd b p (endR isLt b L (p + 1) - p) else sgK (b p) (if p + 1 < L then b (p + 1) else 0)
def nmC (b : Nat → Nat) : Nat → Nat → Nat → Nat
  | 0, _, a => a
  | n + 1, p, a => nmC b n (p + 1) (if a * 10 + b p - 48 < 10000 then a * 10 + b p - 48 else 10000)
def tkN (b : Nat → Nat) (L p : Nat) : Nat := if p < L ∧ isD (b p) = true then nmC b (endR isD b L (p + 1) - (p + 1)) (p + 1) (b p - 48) else 0
/-- facts of the words' row -/
theorem kst_c : ∀ k, k < 26 → ∀ j, j < kln k → skC 0 (kst k + j) = nI (kch k j) ∧ kch k j ≠ 32 ∧ kch k j < 256 ∧ kst k + j < 119 := by decide +kernel
theorem kst_s : ∀ k, k < 26 → kst (k + 1) = kst k + kln k + 1 ∧ kst k + kln k ≤ 119 ∧ (k < 25 → skC 0 (kst k + kln k) = nI 32 ∧ kst k + kln k < 119) ∧ (k = 25 → kst k + kln k = 119) := by decide +kernel
theorem skN_0 : skN 0 = 119 := by decide +kernel
theorem skN_1 : skN 1 = 11 := by decide +kernel
section SG
variable {μ : Me} {Q : Int32 → Me → Prop} {b : Nat → Nat} {L : Nat}
theorem e_sLen {n : Nat} (hn : n < 2) : S_J0_length_8abf5 n μ Q = Q (nI (skN n)) μ := by
  have nb : narrow .byte (.int 0) = .int 0 := by decide
  have z : nI (skN n) >>> ((0 : Int32) &&& 31) = nI (skN n) := by
    have hc : n = 0 ∨ n = 1 := by omega
    rcases hc with e | e <;> subst e
    · rw [skN_0]; decide
    · rw [skN_1]; decide
  have e1 : ¬ (1 : Int32) = 0 := by decide
  unfold S_J0_length_8abf5 S_J0_coder_7d493
  simp only [hn, e1, nb, true_and, false_imp_iff, not_false_eq_true, true_imp_iff, z]
theorem e_chAt {i : Nat} (hi : i < 119) {x : Nat} (hx : skC 0 i = nI x) (hx2 : x < 256) : S_J0_charAt_5068e 0 (nI i) μ Q = Q (nI x) μ := by
  have e1 : ¬ (1 : Int32) = 0 := by decide
  have l0 : ¬ nI i < 0 := by rw [li_0, q_lt (by omega) (by omega)]; omega
  have l1 : nI i < nI 119 := by rw [q_lt (by omega) (by omega)]; exact hi
  have cv : ((nI x &&& 255).toUInt32 % 65536).toInt32 = nI x := (show ∀ x, x < 256 → ((nI x &&& 255).toUInt32 % 65536).toInt32 = nI x by decide +kernel) x hx2
  have nr : narrow .char (.int (nI x)) = .int (nI x) := (show ∀ x, x < 256 → narrow .char (.int (nI x)) = .int (nI x) by decide +kernel) x hx2
  have vi : vp_in (nI i) 119 := in_nI hi (by decide)
  unfold S_J0_charAt_5068e S_J0_isLatin1_aae02 S_J1_charAt_3b067 S_J0_checkIndex_df160 S_J3_checkIndex_8e157
  simp only [e1, skN_0, l0, l1, q_cl (show i < 2147483648 by omega), hx, cv, nr, vi, true_and, false_imp_iff, true_imp_iff, not_false_eq_true, not_true_eq_false, and_true, show (0 < 2) = True from eq_true (by decide)]
theorem sg_eq : ∀ x, x < 256 → ∀ j, j < 11 → (skC 1 j = (nI x).toInt8.toInt32) = (sgL.getD j 0 = x) := by
  have h : ∀ x, x < 256 → ∀ j, j < 11 → (decide (skC 1 j = (nI x).toInt8.toInt32) = decide (sgL.getD j 0 = x)) := by decide +kernel
  intro x hx j hj
  exact propext (decide_eq_decide.1 (h x hx j hj))
theorem p_sgIx {x : Nat} (hx : x < 256) (k : Q (match sgL.findIdx? (fun y => y == x) with | none => -1 | some j => nI j) μ) : S_J0_indexOf_0f7a4 1 (((nI x).toUInt32 % 65536).toInt32) μ Q := by
  have cv : ((nI x).toUInt32 % 65536).toInt32 = nI x := (show ∀ x, x < 256 → ((nI x).toUInt32 % 65536).toInt32 = nI x by decide +kernel) x hx
  have e1 : ¬ (1 : Int32) = 0 := by decide
  have l0 : ¬ nI x < 0 := by rw [li_0, q_lt (by omega) (by omega)]; omega
  have l1 : ¬ 255 < nI x := by rw [li_255, q_lt (by omega) (by omega)]; omega
  have c0 : (if (0 : Int32) < 0 then (0 : Int32) else 0) = 0 := by decide
  have c1 : (if nI 11 < nI 11 then nI 11 else nI 11) = nI 11 := by decide
  have c2 : (0 : Int32) < nI 11 := by decide
  rw [cv]
  unfold S_J0_indexOf_0f7a4 S_J0_indexOf_7cf53 S_J0_isLatin1_aae02
  simp only [e_sLen (n := 1) (by omega), e1, true_and, false_imp_iff, true_imp_iff, not_false_eq_true, not_true_eq_false, and_true, show (1 < 2) = True from eq_true (by decide)]
  unfold S_J1_indexOf_4cfef S_J1_canEncode_9a6ad S_J1_indexOfChar_4cfef
  simp only [l0, l1, e1, skN_1, c0, c1, c2, true_and, false_imp_iff, true_imp_iff, not_false_eq_true, not_true_eq_false, and_true, show (1 < 2) = True from eq_true (by decide)]
  refine loop1 (Bd := fun i ν K => B_J1_indexOfChar_4cfef_7 1 (nI 11) (nI x).toInt8.toInt32 i ν K Q) (fun i ν => ν = μ ∧ ∀ j, j < i → sgL.getD j 0 ≠ x) 11 0 (by omega) ⟨rfl, fun j hj => absurd hj (by omega)⟩ ?_
  rintro i ν hi ⟨rfl, hne⟩ K hK
  have sl : sgL.length = 11 := rfl
  have gd : ∀ j (hj : j < sgL.length), sgL[j] = sgL.getD j 0 := fun j hj => by rw [List.getD_eq_getElem?_getD, List.getElem?_eq_getElem hj]; rfl
  unfold B_J1_indexOfChar_4cfef_7
  by_cases hin : i = 11
  · subst hin
    have e : sgL.findIdx? (fun y => y == x) = none := by
      rw [List.findIdx?_eq_none_iff]
      intro w hw
      obtain ⟨j, hj, rfl⟩ := List.getElem_of_mem hw
      rw [gd j hj]
      exact beq_false_of_ne (hne j (by rw [sl] at hj; exact hj))
    rw [e] at k
    simp (disch := first | omega | (simp only [Gp_si, Gp_sl, Gp_ci, Gp_cl]; assumption)) only [li_0, li_1, li_2, li_3, li_4, li_5, li_6, li_7, li_8, li_9, li_10, li_11, li_12, li_13, li_14, li_15, li_16, li_17, li_18, li_19, li_20, li_21, li_22, li_23, li_24, li_25, li_26, li_27, li_28, li_29, li_30, li_32, li_33, li_34, li_35, li_36, li_37, li_38, li_39, li_40, li_41, li_42, li_43, li_44, li_45, li_46, li_47, li_48, li_49, li_50, li_51, li_52, li_53, li_54, li_55, li_56, li_57, li_58, li_59, li_60, li_61, li_62, li_63, li_64, li_65, li_66, li_67, li_68, li_69, li_70, li_71, li_72, li_73, li_74, li_75, li_76, li_77, li_78, li_79, li_80, li_81, li_82, li_83, li_84, li_85, li_86, li_87, li_88, li_89, li_90, li_91, li_92, li_93, li_94, li_95, li_96, li_97, li_98, li_99, li_100, li_101, li_102, li_103, li_104, li_105, li_106, li_107, li_108, li_109, li_110, li_111, li_112, li_113, li_114, li_115, li_116, li_117, li_118, li_119, li_120, li_121, li_122, li_123, li_124, li_125, li_126, li_127, li_128, li_129, li_130, li_134, li_160, li_197, li_229, li_255, li_256, li_265, li_300, li_301, li_330, li_353, li_463, li_720, li_729, li_768, li_999, li_2610, li_2807, li_2867, li_2916, li_4096, li_9999, li_10000, li_30643, li_65535, li_99999, li_1000000, gi_si, gi_sl, gi_sr, gi_ci, gi_cl, gl_si, gl_sl, gl_sr, gl_ci, gl_cl, gr_si, gr_sl, gr_sr, gr_ci, gr_cl, ln_si, ln_sl, ln_sr, ln_ci, ln_cl, ok_si, ok_sl, ok_sr, ok_ci, ok_cl, Option.some.injEq, exists_eq_left', exists_eq_left, forall_eq, forall_eq', true_and, and_true, if_true, if_false, true_imp_iff, false_imp_iff, not_true_eq_false, not_false_eq_true, false_and, and_false, reduceIte, reduceCtorEq, forall_const, Nat.reduceEqDiff, Nat.reduceAdd, Nat.reduceMul, Nat.reduceSub, Nat.reduceLT, Nat.reduceLeDiff, Nat.reduceMod, Nat.reduceDiv, and_self, ne_eq, exists_const, Nat.add_sub_cancel, nI_add, pk_mul, pk_sub, q_rem, q_div, q_eq, q_le, q_lt, q_cl, q_in, q_m1, q_1m, q_neg, sh1n, bitn, q_mod2, q_neq0, bq_t, bq_f, bq_t2, bq_f2, i01, i10, q_tt, q_ff, ups_e, ups_n, fil_i, fil_o, zq_if, zq_0, zq_1, if_pos, if_neg]
    exact k
  · have es := sg_eq x hx i (by omega)
    by_cases hm : sgL.getD i 0 = x
    · have e : sgL.findIdx? (fun y => y == x) = some i := by
        rw [List.findIdx?_eq_some_iff_getElem]
        refine ⟨by rw [sl]; omega, by rw [gd i (by rw [sl]; omega), hm]; exact beq_self_eq_true _, fun j hj => ?_⟩
        rw [gd j (by rw [sl]; omega), beq_false_of_ne (hne j hj)]
        decide
      rw [e] at k
      simp (disch := first | omega | (simp only [Gp_si, Gp_sl, Gp_ci, Gp_cl]; assumption)) only [li_0, li_1, li_2, li_3, li_4, li_5, li_6, li_7, li_8, li_9, li_10, li_11, li_12, li_13, li_14, li_15, li_16, li_17, li_18, li_19, li_20, li_21, li_22, li_23, li_24, li_25, li_26, li_27, li_28, li_29, li_30, li_32, li_33, li_34, li_35, li_36, li_37, li_38, li_39, li_40, li_41, li_42, li_43, li_44, li_45, li_46, li_47, li_48, li_49, li_50, li_51, li_52, li_53, li_54, li_55, li_56, li_57, li_58, li_59, li_60, li_61, li_62, li_63, li_64, li_65, li_66, li_67, li_68, li_69, li_70, li_71, li_72, li_73, li_74, li_75, li_76, li_77, li_78, li_79, li_80, li_81, li_82, li_83, li_84, li_85, li_86, li_87, li_88, li_89, li_90, li_91, li_92, li_93, li_94, li_95, li_96, li_97, li_98, li_99, li_100, li_101, li_102, li_103, li_104, li_105, li_106, li_107, li_108, li_109, li_110, li_111, li_112, li_113, li_114, li_115, li_116, li_117, li_118, li_119, li_120, li_121, li_122, li_123, li_124, li_125, li_126, li_127, li_128, li_129, li_130, li_134, li_160, li_197, li_229, li_255, li_256, li_265, li_300, li_301, li_330, li_353, li_463, li_720, li_729, li_768, li_999, li_2610, li_2807, li_2867, li_2916, li_4096, li_9999, li_10000, li_30643, li_65535, li_99999, li_1000000, gi_si, gi_sl, gi_sr, gi_ci, gi_cl, gl_si, gl_sl, gl_sr, gl_ci, gl_cl, gr_si, gr_sl, gr_sr, gr_ci, gr_cl, ln_si, ln_sl, ln_sr, ln_ci, ln_cl, ok_si, ok_sl, ok_sr, ok_ci, ok_cl, Option.some.injEq, exists_eq_left', exists_eq_left, forall_eq, forall_eq', true_and, and_true, if_true, if_false, true_imp_iff, false_imp_iff, not_true_eq_false, not_false_eq_true, false_and, and_false, reduceIte, reduceCtorEq, forall_const, Nat.reduceEqDiff, Nat.reduceAdd, Nat.reduceMul, Nat.reduceSub, Nat.reduceLT, Nat.reduceLeDiff, Nat.reduceMod, Nat.reduceDiv, and_self, ne_eq, exists_const, Nat.add_sub_cancel, nI_add, pk_mul, pk_sub, q_rem, q_div, q_eq, q_le, q_lt, q_cl, q_in, q_m1, q_1m, q_neg, sh1n, bitn, q_mod2, q_neq0, bq_t, bq_f, bq_t2, bq_f2, i01, i10, q_tt, q_ff, ups_e, ups_n, fil_i, fil_o, zq_if, zq_0, zq_1, if_pos, if_neg, skN_1, es, hm]
      exact k
    · simp (disch := first | omega | (simp only [Gp_si, Gp_sl, Gp_ci, Gp_cl]; assumption)) only [li_0, li_1, li_2, li_3, li_4, li_5, li_6, li_7, li_8, li_9, li_10, li_11, li_12, li_13, li_14, li_15, li_16, li_17, li_18, li_19, li_20, li_21, li_22, li_23, li_24, li_25, li_26, li_27, li_28, li_29, li_30, li_32, li_33, li_34, li_35, li_36, li_37, li_38, li_39, li_40, li_41, li_42, li_43, li_44, li_45, li_46, li_47, li_48, li_49, li_50, li_51, li_52, li_53, li_54, li_55, li_56, li_57, li_58, li_59, li_60, li_61, li_62, li_63, li_64, li_65, li_66, li_67, li_68, li_69, li_70, li_71, li_72, li_73, li_74, li_75, li_76, li_77, li_78, li_79, li_80, li_81, li_82, li_83, li_84, li_85, li_86, li_87, li_88, li_89, li_90, li_91, li_92, li_93, li_94, li_95, li_96, li_97, li_98, li_99, li_100, li_101, li_102, li_103, li_104, li_105, li_106, li_107, li_108, li_109, li_110, li_111, li_112, li_113, li_114, li_115, li_116, li_117, li_118, li_119, li_120, li_121, li_122, li_123, li_124, li_125, li_126, li_127, li_128, li_129, li_130, li_134, li_160, li_197, li_229, li_255, li_256, li_265, li_300, li_301, li_330, li_353, li_463, li_720, li_729, li_768, li_999, li_2610, li_2807, li_2867, li_2916, li_4096, li_9999, li_10000, li_30643, li_65535, li_99999, li_1000000, gi_si, gi_sl, gi_sr, gi_ci, gi_cl, gl_si, gl_sl, gl_sr, gl_ci, gl_cl, gr_si, gr_sl, gr_sr, gr_ci, gr_cl, ln_si, ln_sl, ln_sr, ln_ci, ln_cl, ok_si, ok_sl, ok_sr, ok_ci, ok_cl, Option.some.injEq, exists_eq_left', exists_eq_left, forall_eq, forall_eq', true_and, and_true, if_true, if_false, true_imp_iff, false_imp_iff, not_true_eq_false, not_false_eq_true, false_and, and_false, reduceIte, reduceCtorEq, forall_const, Nat.reduceEqDiff, Nat.reduceAdd, Nat.reduceMul, Nat.reduceSub, Nat.reduceLT, Nat.reduceLeDiff, Nat.reduceMod, Nat.reduceDiv, and_self, ne_eq, exists_const, Nat.add_sub_cancel, nI_add, pk_mul, pk_sub, q_rem, q_div, q_eq, q_le, q_lt, q_cl, q_in, q_m1, q_1m, q_neg, sh1n, bitn, q_mod2, q_neq0, bq_t, bq_f, bq_t2, bq_f2, i01, i10, q_tt, q_ff, ups_e, ups_n, fil_i, fil_o, zq_if, zq_0, zq_1, if_pos, if_neg, skN_1, es, hm]
      refine hK _ (by omega) ⟨rfl, fun j hj => ?_⟩
      by_cases c : j = i
      · rw [c]; exact hm
      · exact hne j (by omega)
theorem p_signOf {x y : Nat} (hx : x < 256) (hy : y < 256) (k : Q (nI (sgK x y)) μ) : S_X8_signOf (nI x) (nI y) μ Q := by
  have fin : ¬ (x = 60 ∧ y = 61) → ¬ (x = 62 ∧ y = 61) → B_X8_signOf_30 (nI x) μ Q := by
    intro n1 n2
    unfold sgK at k
    rw [if_neg n1, if_neg n2] at k
    unfold B_X8_signOf_30
    refine p_sgIx hx ?_
    unfold sgN at k
    cases hf : sgL.findIdx? (fun y => y == x) with
    | none =>
      rw [hf] at k
      exact ⟨fun e => absurd e (by decide), fun _ => k⟩
    | some j =>
      rw [hf] at k
      have hj : j < 11 := by
        have := (List.findIdx?_eq_some_iff_getElem.1 hf).1
        exact this
      refine ⟨fun _ => ?_, fun e => absurd (by rw [li_0, q_le (by omega) (by omega)]; omega) e⟩
      show Q (nI 30 + nI j) μ
      rw [nI_add]
      exact k
  unfold S_X8_signOf B_X8_signOf_15
  by_cases c1 : x = 60
  · by_cases c2 : y = 61
    · have e : sgK x y = 41 := by unfold sgK; rw [if_pos ⟨c1, c2⟩]
      rw [e] at k
      subst c1 c2
      simp (disch := first | omega | (simp only [Gp_si, Gp_sl, Gp_ci, Gp_cl]; assumption)) only [li_0, li_1, li_2, li_3, li_4, li_5, li_6, li_7, li_8, li_9, li_10, li_11, li_12, li_13, li_14, li_15, li_16, li_17, li_18, li_19, li_20, li_21, li_22, li_23, li_24, li_25, li_26, li_27, li_28, li_29, li_30, li_32, li_33, li_34, li_35, li_36, li_37, li_38, li_39, li_40, li_41, li_42, li_43, li_44, li_45, li_46, li_47, li_48, li_49, li_50, li_51, li_52, li_53, li_54, li_55, li_56, li_57, li_58, li_59, li_60, li_61, li_62, li_63, li_64, li_65, li_66, li_67, li_68, li_69, li_70, li_71, li_72, li_73, li_74, li_75, li_76, li_77, li_78, li_79, li_80, li_81, li_82, li_83, li_84, li_85, li_86, li_87, li_88, li_89, li_90, li_91, li_92, li_93, li_94, li_95, li_96, li_97, li_98, li_99, li_100, li_101, li_102, li_103, li_104, li_105, li_106, li_107, li_108, li_109, li_110, li_111, li_112, li_113, li_114, li_115, li_116, li_117, li_118, li_119, li_120, li_121, li_122, li_123, li_124, li_125, li_126, li_127, li_128, li_129, li_130, li_134, li_160, li_197, li_229, li_255, li_256, li_265, li_300, li_301, li_330, li_353, li_463, li_720, li_729, li_768, li_999, li_2610, li_2807, li_2867, li_2916, li_4096, li_9999, li_10000, li_30643, li_65535, li_99999, li_1000000, gi_si, gi_sl, gi_sr, gi_ci, gi_cl, gl_si, gl_sl, gl_sr, gl_ci, gl_cl, gr_si, gr_sl, gr_sr, gr_ci, gr_cl, ln_si, ln_sl, ln_sr, ln_ci, ln_cl, ok_si, ok_sl, ok_sr, ok_ci, ok_cl, Option.some.injEq, exists_eq_left', exists_eq_left, forall_eq, forall_eq', true_and, and_true, if_true, if_false, true_imp_iff, false_imp_iff, not_true_eq_false, not_false_eq_true, false_and, and_false, reduceIte, reduceCtorEq, forall_const, Nat.reduceEqDiff, Nat.reduceAdd, Nat.reduceMul, Nat.reduceSub, Nat.reduceLT, Nat.reduceLeDiff, Nat.reduceMod, Nat.reduceDiv, and_self, ne_eq, exists_const, Nat.add_sub_cancel, nI_add, pk_mul, pk_sub, q_rem, q_div, q_eq, q_le, q_lt, q_cl, q_in, q_m1, q_1m, q_neg, sh1n, bitn, q_mod2, q_neq0, bq_t, bq_f, bq_t2, bq_f2, i01, i10, q_tt, q_ff, ups_e, ups_n, fil_i, fil_o, zq_if, zq_0, zq_1, if_pos, if_neg]
      exact k
    · have f := fin (by omega) (by omega)
      subst c1
      simp (disch := first | omega | (simp only [Gp_si, Gp_sl, Gp_ci, Gp_cl]; assumption)) only [li_0, li_1, li_2, li_3, li_4, li_5, li_6, li_7, li_8, li_9, li_10, li_11, li_12, li_13, li_14, li_15, li_16, li_17, li_18, li_19, li_20, li_21, li_22, li_23, li_24, li_25, li_26, li_27, li_28, li_29, li_30, li_32, li_33, li_34, li_35, li_36, li_37, li_38, li_39, li_40, li_41, li_42, li_43, li_44, li_45, li_46, li_47, li_48, li_49, li_50, li_51, li_52, li_53, li_54, li_55, li_56, li_57, li_58, li_59, li_60, li_61, li_62, li_63, li_64, li_65, li_66, li_67, li_68, li_69, li_70, li_71, li_72, li_73, li_74, li_75, li_76, li_77, li_78, li_79, li_80, li_81, li_82, li_83, li_84, li_85, li_86, li_87, li_88, li_89, li_90, li_91, li_92, li_93, li_94, li_95, li_96, li_97, li_98, li_99, li_100, li_101, li_102, li_103, li_104, li_105, li_106, li_107, li_108, li_109, li_110, li_111, li_112, li_113, li_114, li_115, li_116, li_117, li_118, li_119, li_120, li_121, li_122, li_123, li_124, li_125, li_126, li_127, li_128, li_129, li_130, li_134, li_160, li_197, li_229, li_255, li_256, li_265, li_300, li_301, li_330, li_353, li_463, li_720, li_729, li_768, li_999, li_2610, li_2807, li_2867, li_2916, li_4096, li_9999, li_10000, li_30643, li_65535, li_99999, li_1000000, gi_si, gi_sl, gi_sr, gi_ci, gi_cl, gl_si, gl_sl, gl_sr, gl_ci, gl_cl, gr_si, gr_sl, gr_sr, gr_ci, gr_cl, ln_si, ln_sl, ln_sr, ln_ci, ln_cl, ok_si, ok_sl, ok_sr, ok_ci, ok_cl, Option.some.injEq, exists_eq_left', exists_eq_left, forall_eq, forall_eq', true_and, and_true, if_true, if_false, true_imp_iff, false_imp_iff, not_true_eq_false, not_false_eq_true, false_and, and_false, reduceIte, reduceCtorEq, forall_const, Nat.reduceEqDiff, Nat.reduceAdd, Nat.reduceMul, Nat.reduceSub, Nat.reduceLT, Nat.reduceLeDiff, Nat.reduceMod, Nat.reduceDiv, and_self, ne_eq, exists_const, Nat.add_sub_cancel, nI_add, pk_mul, pk_sub, q_rem, q_div, q_eq, q_le, q_lt, q_cl, q_in, q_m1, q_1m, q_neg, sh1n, bitn, q_mod2, q_neq0, bq_t, bq_f, bq_t2, bq_f2, i01, i10, q_tt, q_ff, ups_e, ups_n, fil_i, fil_o, zq_if, zq_0, zq_1, if_pos, if_neg, c2]
      exact f
  · by_cases c3 : x = 62
    · by_cases c2 : y = 61
      · have e : sgK x y = 42 := by unfold sgK; rw [if_neg (by omega), if_pos ⟨c3, c2⟩]
        rw [e] at k
        subst c3 c2
        simp (disch := first | omega | (simp only [Gp_si, Gp_sl, Gp_ci, Gp_cl]; assumption)) only [li_0, li_1, li_2, li_3, li_4, li_5, li_6, li_7, li_8, li_9, li_10, li_11, li_12, li_13, li_14, li_15, li_16, li_17, li_18, li_19, li_20, li_21, li_22, li_23, li_24, li_25, li_26, li_27, li_28, li_29, li_30, li_32, li_33, li_34, li_35, li_36, li_37, li_38, li_39, li_40, li_41, li_42, li_43, li_44, li_45, li_46, li_47, li_48, li_49, li_50, li_51, li_52, li_53, li_54, li_55, li_56, li_57, li_58, li_59, li_60, li_61, li_62, li_63, li_64, li_65, li_66, li_67, li_68, li_69, li_70, li_71, li_72, li_73, li_74, li_75, li_76, li_77, li_78, li_79, li_80, li_81, li_82, li_83, li_84, li_85, li_86, li_87, li_88, li_89, li_90, li_91, li_92, li_93, li_94, li_95, li_96, li_97, li_98, li_99, li_100, li_101, li_102, li_103, li_104, li_105, li_106, li_107, li_108, li_109, li_110, li_111, li_112, li_113, li_114, li_115, li_116, li_117, li_118, li_119, li_120, li_121, li_122, li_123, li_124, li_125, li_126, li_127, li_128, li_129, li_130, li_134, li_160, li_197, li_229, li_255, li_256, li_265, li_300, li_301, li_330, li_353, li_463, li_720, li_729, li_768, li_999, li_2610, li_2807, li_2867, li_2916, li_4096, li_9999, li_10000, li_30643, li_65535, li_99999, li_1000000, gi_si, gi_sl, gi_sr, gi_ci, gi_cl, gl_si, gl_sl, gl_sr, gl_ci, gl_cl, gr_si, gr_sl, gr_sr, gr_ci, gr_cl, ln_si, ln_sl, ln_sr, ln_ci, ln_cl, ok_si, ok_sl, ok_sr, ok_ci, ok_cl, Option.some.injEq, exists_eq_left', exists_eq_left, forall_eq, forall_eq', true_and, and_true, if_true, if_false, true_imp_iff, false_imp_iff, not_true_eq_false, not_false_eq_true, false_and, and_false, reduceIte, reduceCtorEq, forall_const, Nat.reduceEqDiff, Nat.reduceAdd, Nat.reduceMul, Nat.reduceSub, Nat.reduceLT, Nat.reduceLeDiff, Nat.reduceMod, Nat.reduceDiv, and_self, ne_eq, exists_const, Nat.add_sub_cancel, nI_add, pk_mul, pk_sub, q_rem, q_div, q_eq, q_le, q_lt, q_cl, q_in, q_m1, q_1m, q_neg, sh1n, bitn, q_mod2, q_neq0, bq_t, bq_f, bq_t2, bq_f2, i01, i10, q_tt, q_ff, ups_e, ups_n, fil_i, fil_o, zq_if, zq_0, zq_1, if_pos, if_neg]
        exact k
      · have f := fin (by omega) (by omega)
        subst c3
        simp (disch := first | omega | (simp only [Gp_si, Gp_sl, Gp_ci, Gp_cl]; assumption)) only [li_0, li_1, li_2, li_3, li_4, li_5, li_6, li_7, li_8, li_9, li_10, li_11, li_12, li_13, li_14, li_15, li_16, li_17, li_18, li_19, li_20, li_21, li_22, li_23, li_24, li_25, li_26, li_27, li_28, li_29, li_30, li_32, li_33, li_34, li_35, li_36, li_37, li_38, li_39, li_40, li_41, li_42, li_43, li_44, li_45, li_46, li_47, li_48, li_49, li_50, li_51, li_52, li_53, li_54, li_55, li_56, li_57, li_58, li_59, li_60, li_61, li_62, li_63, li_64, li_65, li_66, li_67, li_68, li_69, li_70, li_71, li_72, li_73, li_74, li_75, li_76, li_77, li_78, li_79, li_80, li_81, li_82, li_83, li_84, li_85, li_86, li_87, li_88, li_89, li_90, li_91, li_92, li_93, li_94, li_95, li_96, li_97, li_98, li_99, li_100, li_101, li_102, li_103, li_104, li_105, li_106, li_107, li_108, li_109, li_110, li_111, li_112, li_113, li_114, li_115, li_116, li_117, li_118, li_119, li_120, li_121, li_122, li_123, li_124, li_125, li_126, li_127, li_128, li_129, li_130, li_134, li_160, li_197, li_229, li_255, li_256, li_265, li_300, li_301, li_330, li_353, li_463, li_720, li_729, li_768, li_999, li_2610, li_2807, li_2867, li_2916, li_4096, li_9999, li_10000, li_30643, li_65535, li_99999, li_1000000, gi_si, gi_sl, gi_sr, gi_ci, gi_cl, gl_si, gl_sl, gl_sr, gl_ci, gl_cl, gr_si, gr_sl, gr_sr, gr_ci, gr_cl, ln_si, ln_sl, ln_sr, ln_ci, ln_cl, ok_si, ok_sl, ok_sr, ok_ci, ok_cl, Option.some.injEq, exists_eq_left', exists_eq_left, forall_eq, forall_eq', true_and, and_true, if_true, if_false, true_imp_iff, false_imp_iff, not_true_eq_false, not_false_eq_true, false_and, and_false, reduceIte, reduceCtorEq, forall_const, Nat.reduceEqDiff, Nat.reduceAdd, Nat.reduceMul, Nat.reduceSub, Nat.reduceLT, Nat.reduceLeDiff, Nat.reduceMod, Nat.reduceDiv, and_self, ne_eq, exists_const, Nat.add_sub_cancel, nI_add, pk_mul, pk_sub, q_rem, q_div, q_eq, q_le, q_lt, q_cl, q_in, q_m1, q_1m, q_neg, sh1n, bitn, q_mod2, q_neq0, bq_t, bq_f, bq_t2, bq_f2, i01, i10, q_tt, q_ff, ups_e, ups_n, fil_i, fil_o, zq_if, zq_0, zq_1, if_pos, if_neg, c2]
        exact f
    · have f := fin (by omega) (by omega)
      simp (disch := first | omega | (simp only [Gp_si, Gp_sl, Gp_ci, Gp_cl]; assumption)) only [li_0, li_1, li_2, li_3, li_4, li_5, li_6, li_7, li_8, li_9, li_10, li_11, li_12, li_13, li_14, li_15, li_16, li_17, li_18, li_19, li_20, li_21, li_22, li_23, li_24, li_25, li_26, li_27, li_28, li_29, li_30, li_32, li_33, li_34, li_35, li_36, li_37, li_38, li_39, li_40, li_41, li_42, li_43, li_44, li_45, li_46, li_47, li_48, li_49, li_50, li_51, li_52, li_53, li_54, li_55, li_56, li_57, li_58, li_59, li_60, li_61, li_62, li_63, li_64, li_65, li_66, li_67, li_68, li_69, li_70, li_71, li_72, li_73, li_74, li_75, li_76, li_77, li_78, li_79, li_80, li_81, li_82, li_83, li_84, li_85, li_86, li_87, li_88, li_89, li_90, li_91, li_92, li_93, li_94, li_95, li_96, li_97, li_98, li_99, li_100, li_101, li_102, li_103, li_104, li_105, li_106, li_107, li_108, li_109, li_110, li_111, li_112, li_113, li_114, li_115, li_116, li_117, li_118, li_119, li_120, li_121, li_122, li_123, li_124, li_125, li_126, li_127, li_128, li_129, li_130, li_134, li_160, li_197, li_229, li_255, li_256, li_265, li_300, li_301, li_330, li_353, li_463, li_720, li_729, li_768, li_999, li_2610, li_2807, li_2867, li_2916, li_4096, li_9999, li_10000, li_30643, li_65535, li_99999, li_1000000, gi_si, gi_sl, gi_sr, gi_ci, gi_cl, gl_si, gl_sl, gl_sr, gl_ci, gl_cl, gr_si, gr_sl, gr_sr, gr_ci, gr_cl, ln_si, ln_sl, ln_sr, ln_ci, ln_cl, ok_si, ok_sl, ok_sr, ok_ci, ok_cl, Option.some.injEq, exists_eq_left', exists_eq_left, forall_eq, forall_eq', true_and, and_true, if_true, if_false, true_imp_iff, false_imp_iff, not_true_eq_false, not_false_eq_true, false_and, and_false, reduceIte, reduceCtorEq, forall_const, Nat.reduceEqDiff, Nat.reduceAdd, Nat.reduceMul, Nat.reduceSub, Nat.reduceLT, Nat.reduceLeDiff, Nat.reduceMod, Nat.reduceDiv, and_self, ne_eq, exists_const, Nat.add_sub_cancel, nI_add, pk_mul, pk_sub, q_rem, q_div, q_eq, q_le, q_lt, q_cl, q_in, q_m1, q_1m, q_neg, sh1n, bitn, q_mod2, q_neq0, bq_t, bq_f, bq_t2, bq_f2, i01, i10, q_tt, q_ff, ups_e, ups_n, fil_i, fil_o, zq_if, zq_0, zq_1, if_pos, if_neg, c1, c3]
      exact f
theorem e_isLt {x : Nat} (hx : x < 256) : S_X8_isLetter (nI x) μ Q = Q (nI (if isLt x = true then 1 else 0)) μ := by
  unfold S_X8_isLetter B_X8_isLetter_12
  by_cases h : isLt x = true
  · have h2 := of_decide_eq_true h
    rw [if_pos h]
    by_cases c : x < 97
    · simp (disch := first | omega | (simp only [Gp_si, Gp_sl, Gp_ci, Gp_cl]; assumption)) only [li_0, li_1, li_2, li_3, li_4, li_5, li_6, li_7, li_8, li_9, li_10, li_11, li_12, li_13, li_14, li_15, li_16, li_17, li_18, li_19, li_20, li_21, li_22, li_23, li_24, li_25, li_26, li_27, li_28, li_29, li_30, li_32, li_33, li_34, li_35, li_36, li_37, li_38, li_39, li_40, li_41, li_42, li_43, li_44, li_45, li_46, li_47, li_48, li_49, li_50, li_51, li_52, li_53, li_54, li_55, li_56, li_57, li_58, li_59, li_60, li_61, li_62, li_63, li_64, li_65, li_66, li_67, li_68, li_69, li_70, li_71, li_72, li_73, li_74, li_75, li_76, li_77, li_78, li_79, li_80, li_81, li_82, li_83, li_84, li_85, li_86, li_87, li_88, li_89, li_90, li_91, li_92, li_93, li_94, li_95, li_96, li_97, li_98, li_99, li_100, li_101, li_102, li_103, li_104, li_105, li_106, li_107, li_108, li_109, li_110, li_111, li_112, li_113, li_114, li_115, li_116, li_117, li_118, li_119, li_120, li_121, li_122, li_123, li_124, li_125, li_126, li_127, li_128, li_129, li_130, li_134, li_160, li_197, li_229, li_255, li_256, li_265, li_300, li_301, li_330, li_353, li_463, li_720, li_729, li_768, li_999, li_2610, li_2807, li_2867, li_2916, li_4096, li_9999, li_10000, li_30643, li_65535, li_99999, li_1000000, gi_si, gi_sl, gi_sr, gi_ci, gi_cl, gl_si, gl_sl, gl_sr, gl_ci, gl_cl, gr_si, gr_sl, gr_sr, gr_ci, gr_cl, ln_si, ln_sl, ln_sr, ln_ci, ln_cl, ok_si, ok_sl, ok_sr, ok_ci, ok_cl, Option.some.injEq, exists_eq_left', exists_eq_left, forall_eq, forall_eq', true_and, and_true, if_true, if_false, true_imp_iff, false_imp_iff, not_true_eq_false, not_false_eq_true, false_and, and_false, reduceIte, reduceCtorEq, forall_const, Nat.reduceEqDiff, Nat.reduceAdd, Nat.reduceMul, Nat.reduceSub, Nat.reduceLT, Nat.reduceLeDiff, Nat.reduceMod, Nat.reduceDiv, and_self, ne_eq, exists_const, Nat.add_sub_cancel, nI_add, pk_mul, pk_sub, q_rem, q_div, q_eq, q_le, q_lt, q_cl, q_in, q_m1, q_1m, q_neg, sh1n, bitn, q_mod2, q_neq0, bq_t, bq_f, bq_t2, bq_f2, i01, i10, q_tt, q_ff, ups_e, ups_n, fil_i, fil_o, zq_if, zq_0, zq_1, if_pos, if_neg]
    · simp (disch := first | omega | (simp only [Gp_si, Gp_sl, Gp_ci, Gp_cl]; assumption)) only [li_0, li_1, li_2, li_3, li_4, li_5, li_6, li_7, li_8, li_9, li_10, li_11, li_12, li_13, li_14, li_15, li_16, li_17, li_18, li_19, li_20, li_21, li_22, li_23, li_24, li_25, li_26, li_27, li_28, li_29, li_30, li_32, li_33, li_34, li_35, li_36, li_37, li_38, li_39, li_40, li_41, li_42, li_43, li_44, li_45, li_46, li_47, li_48, li_49, li_50, li_51, li_52, li_53, li_54, li_55, li_56, li_57, li_58, li_59, li_60, li_61, li_62, li_63, li_64, li_65, li_66, li_67, li_68, li_69, li_70, li_71, li_72, li_73, li_74, li_75, li_76, li_77, li_78, li_79, li_80, li_81, li_82, li_83, li_84, li_85, li_86, li_87, li_88, li_89, li_90, li_91, li_92, li_93, li_94, li_95, li_96, li_97, li_98, li_99, li_100, li_101, li_102, li_103, li_104, li_105, li_106, li_107, li_108, li_109, li_110, li_111, li_112, li_113, li_114, li_115, li_116, li_117, li_118, li_119, li_120, li_121, li_122, li_123, li_124, li_125, li_126, li_127, li_128, li_129, li_130, li_134, li_160, li_197, li_229, li_255, li_256, li_265, li_300, li_301, li_330, li_353, li_463, li_720, li_729, li_768, li_999, li_2610, li_2807, li_2867, li_2916, li_4096, li_9999, li_10000, li_30643, li_65535, li_99999, li_1000000, gi_si, gi_sl, gi_sr, gi_ci, gi_cl, gl_si, gl_sl, gl_sr, gl_ci, gl_cl, gr_si, gr_sl, gr_sr, gr_ci, gr_cl, ln_si, ln_sl, ln_sr, ln_ci, ln_cl, ok_si, ok_sl, ok_sr, ok_ci, ok_cl, Option.some.injEq, exists_eq_left', exists_eq_left, forall_eq, forall_eq', true_and, and_true, if_true, if_false, true_imp_iff, false_imp_iff, not_true_eq_false, not_false_eq_true, false_and, and_false, reduceIte, reduceCtorEq, forall_const, Nat.reduceEqDiff, Nat.reduceAdd, Nat.reduceMul, Nat.reduceSub, Nat.reduceLT, Nat.reduceLeDiff, Nat.reduceMod, Nat.reduceDiv, and_self, ne_eq, exists_const, Nat.add_sub_cancel, nI_add, pk_mul, pk_sub, q_rem, q_div, q_eq, q_le, q_lt, q_cl, q_in, q_m1, q_1m, q_neg, sh1n, bitn, q_mod2, q_neq0, bq_t, bq_f, bq_t2, bq_f2, i01, i10, q_tt, q_ff, ups_e, ups_n, fil_i, fil_o, zq_if, zq_0, zq_1, if_pos, if_neg]
  · have h2 := of_decide_eq_false (Bool.eq_false_iff.2 h)
    rw [if_neg h]
    by_cases c : x < 97
    · by_cases c2 : x < 65
      · simp (disch := first | omega | (simp only [Gp_si, Gp_sl, Gp_ci, Gp_cl]; assumption)) only [li_0, li_1, li_2, li_3, li_4, li_5, li_6, li_7, li_8, li_9, li_10, li_11, li_12, li_13, li_14, li_15, li_16, li_17, li_18, li_19, li_20, li_21, li_22, li_23, li_24, li_25, li_26, li_27, li_28, li_29, li_30, li_32, li_33, li_34, li_35, li_36, li_37, li_38, li_39, li_40, li_41, li_42, li_43, li_44, li_45, li_46, li_47, li_48, li_49, li_50, li_51, li_52, li_53, li_54, li_55, li_56, li_57, li_58, li_59, li_60, li_61, li_62, li_63, li_64, li_65, li_66, li_67, li_68, li_69, li_70, li_71, li_72, li_73, li_74, li_75, li_76, li_77, li_78, li_79, li_80, li_81, li_82, li_83, li_84, li_85, li_86, li_87, li_88, li_89, li_90, li_91, li_92, li_93, li_94, li_95, li_96, li_97, li_98, li_99, li_100, li_101, li_102, li_103, li_104, li_105, li_106, li_107, li_108, li_109, li_110, li_111, li_112, li_113, li_114, li_115, li_116, li_117, li_118, li_119, li_120, li_121, li_122, li_123, li_124, li_125, li_126, li_127, li_128, li_129, li_130, li_134, li_160, li_197, li_229, li_255, li_256, li_265, li_300, li_301, li_330, li_353, li_463, li_720, li_729, li_768, li_999, li_2610, li_2807, li_2867, li_2916, li_4096, li_9999, li_10000, li_30643, li_65535, li_99999, li_1000000, gi_si, gi_sl, gi_sr, gi_ci, gi_cl, gl_si, gl_sl, gl_sr, gl_ci, gl_cl, gr_si, gr_sl, gr_sr, gr_ci, gr_cl, ln_si, ln_sl, ln_sr, ln_ci, ln_cl, ok_si, ok_sl, ok_sr, ok_ci, ok_cl, Option.some.injEq, exists_eq_left', exists_eq_left, forall_eq, forall_eq', true_and, and_true, if_true, if_false, true_imp_iff, false_imp_iff, not_true_eq_false, not_false_eq_true, false_and, and_false, reduceIte, reduceCtorEq, forall_const, Nat.reduceEqDiff, Nat.reduceAdd, Nat.reduceMul, Nat.reduceSub, Nat.reduceLT, Nat.reduceLeDiff, Nat.reduceMod, Nat.reduceDiv, and_self, ne_eq, exists_const, Nat.add_sub_cancel, nI_add, pk_mul, pk_sub, q_rem, q_div, q_eq, q_le, q_lt, q_cl, q_in, q_m1, q_1m, q_neg, sh1n, bitn, q_mod2, q_neq0, bq_t, bq_f, bq_t2, bq_f2, i01, i10, q_tt, q_ff, ups_e, ups_n, fil_i, fil_o, zq_if, zq_0, zq_1, if_pos, if_neg]
      · simp (disch := first | omega | (simp only [Gp_si, Gp_sl, Gp_ci, Gp_cl]; assumption)) only [li_0, li_1, li_2, li_3, li_4, li_5, li_6, li_7, li_8, li_9, li_10, li_11, li_12, li_13, li_14, li_15, li_16, li_17, li_18, li_19, li_20, li_21, li_22, li_23, li_24, li_25, li_26, li_27, li_28, li_29, li_30, li_32, li_33, li_34, li_35, li_36, li_37, li_38, li_39, li_40, li_41, li_42, li_43, li_44, li_45, li_46, li_47, li_48, li_49, li_50, li_51, li_52, li_53, li_54, li_55, li_56, li_57, li_58, li_59, li_60, li_61, li_62, li_63, li_64, li_65, li_66, li_67, li_68, li_69, li_70, li_71, li_72, li_73, li_74, li_75, li_76, li_77, li_78, li_79, li_80, li_81, li_82, li_83, li_84, li_85, li_86, li_87, li_88, li_89, li_90, li_91, li_92, li_93, li_94, li_95, li_96, li_97, li_98, li_99, li_100, li_101, li_102, li_103, li_104, li_105, li_106, li_107, li_108, li_109, li_110, li_111, li_112, li_113, li_114, li_115, li_116, li_117, li_118, li_119, li_120, li_121, li_122, li_123, li_124, li_125, li_126, li_127, li_128, li_129, li_130, li_134, li_160, li_197, li_229, li_255, li_256, li_265, li_300, li_301, li_330, li_353, li_463, li_720, li_729, li_768, li_999, li_2610, li_2807, li_2867, li_2916, li_4096, li_9999, li_10000, li_30643, li_65535, li_99999, li_1000000, gi_si, gi_sl, gi_sr, gi_ci, gi_cl, gl_si, gl_sl, gl_sr, gl_ci, gl_cl, gr_si, gr_sl, gr_sr, gr_ci, gr_cl, ln_si, ln_sl, ln_sr, ln_ci, ln_cl, ok_si, ok_sl, ok_sr, ok_ci, ok_cl, Option.some.injEq, exists_eq_left', exists_eq_left, forall_eq, forall_eq', true_and, and_true, if_true, if_false, true_imp_iff, false_imp_iff, not_true_eq_false, not_false_eq_true, false_and, and_false, reduceIte, reduceCtorEq, forall_const, Nat.reduceEqDiff, Nat.reduceAdd, Nat.reduceMul, Nat.reduceSub, Nat.reduceLT, Nat.reduceLeDiff, Nat.reduceMod, Nat.reduceDiv, and_self, ne_eq, exists_const, Nat.add_sub_cancel, nI_add, pk_mul, pk_sub, q_rem, q_div, q_eq, q_le, q_lt, q_cl, q_in, q_m1, q_1m, q_neg, sh1n, bitn, q_mod2, q_neq0, bq_t, bq_f, bq_t2, bq_f2, i01, i10, q_tt, q_ff, ups_e, ups_n, fil_i, fil_o, zq_if, zq_0, zq_1, if_pos, if_neg]
    · by_cases c2 : x < 65
      · omega
      · simp (disch := first | omega | (simp only [Gp_si, Gp_sl, Gp_ci, Gp_cl]; assumption)) only [li_0, li_1, li_2, li_3, li_4, li_5, li_6, li_7, li_8, li_9, li_10, li_11, li_12, li_13, li_14, li_15, li_16, li_17, li_18, li_19, li_20, li_21, li_22, li_23, li_24, li_25, li_26, li_27, li_28, li_29, li_30, li_32, li_33, li_34, li_35, li_36, li_37, li_38, li_39, li_40, li_41, li_42, li_43, li_44, li_45, li_46, li_47, li_48, li_49, li_50, li_51, li_52, li_53, li_54, li_55, li_56, li_57, li_58, li_59, li_60, li_61, li_62, li_63, li_64, li_65, li_66, li_67, li_68, li_69, li_70, li_71, li_72, li_73, li_74, li_75, li_76, li_77, li_78, li_79, li_80, li_81, li_82, li_83, li_84, li_85, li_86, li_87, li_88, li_89, li_90, li_91, li_92, li_93, li_94, li_95, li_96, li_97, li_98, li_99, li_100, li_101, li_102, li_103, li_104, li_105, li_106, li_107, li_108, li_109, li_110, li_111, li_112, li_113, li_114, li_115, li_116, li_117, li_118, li_119, li_120, li_121, li_122, li_123, li_124, li_125, li_126, li_127, li_128, li_129, li_130, li_134, li_160, li_197, li_229, li_255, li_256, li_265, li_300, li_301, li_330, li_353, li_463, li_720, li_729, li_768, li_999, li_2610, li_2807, li_2867, li_2916, li_4096, li_9999, li_10000, li_30643, li_65535, li_99999, li_1000000, gi_si, gi_sl, gi_sr, gi_ci, gi_cl, gl_si, gl_sl, gl_sr, gl_ci, gl_cl, gr_si, gr_sl, gr_sr, gr_ci, gr_cl, ln_si, ln_sl, ln_sr, ln_ci, ln_cl, ok_si, ok_sl, ok_sr, ok_ci, ok_cl, Option.some.injEq, exists_eq_left', exists_eq_left, forall_eq, forall_eq', true_and, and_true, if_true, if_false, true_imp_iff, false_imp_iff, not_true_eq_false, not_false_eq_true, false_and, and_false, reduceIte, reduceCtorEq, forall_const, Nat.reduceEqDiff, Nat.reduceAdd, Nat.reduceMul, Nat.reduceSub, Nat.reduceLT, Nat.reduceLeDiff, Nat.reduceMod, Nat.reduceDiv, and_self, ne_eq, exists_const, Nat.add_sub_cancel, nI_add, pk_mul, pk_sub, q_rem, q_div, q_eq, q_le, q_lt, q_cl, q_in, q_m1, q_1m, q_neg, sh1n, bitn, q_mod2, q_neq0, bq_t, bq_f, bq_t2, bq_f2, i01, i10, q_tt, q_ff, ups_e, ups_n, fil_i, fil_o, zq_if, zq_0, zq_1, if_pos, if_neg]
theorem e_isD {x : Nat} (hx : x < 256) : S_X8_isDigit (nI x) μ Q = Q (nI (if isD x = true then 1 else 0)) μ := by
  unfold S_X8_isDigit
  by_cases h : isD x = true
  · have h2 := of_decide_eq_true h
    rw [if_pos h]
    simp (disch := first | omega | (simp only [Gp_si, Gp_sl, Gp_ci, Gp_cl]; assumption)) only [li_0, li_1, li_2, li_3, li_4, li_5, li_6, li_7, li_8, li_9, li_10, li_11, li_12, li_13, li_14, li_15, li_16, li_17, li_18, li_19, li_20, li_21, li_22, li_23, li_24, li_25, li_26, li_27, li_28, li_29, li_30, li_32, li_33, li_34, li_35, li_36, li_37, li_38, li_39, li_40, li_41, li_42, li_43, li_44, li_45, li_46, li_47, li_48, li_49, li_50, li_51, li_52, li_53, li_54, li_55, li_56, li_57, li_58, li_59, li_60, li_61, li_62, li_63, li_64, li_65, li_66, li_67, li_68, li_69, li_70, li_71, li_72, li_73, li_74, li_75, li_76, li_77, li_78, li_79, li_80, li_81, li_82, li_83, li_84, li_85, li_86, li_87, li_88, li_89, li_90, li_91, li_92, li_93, li_94, li_95, li_96, li_97, li_98, li_99, li_100, li_101, li_102, li_103, li_104, li_105, li_106, li_107, li_108, li_109, li_110, li_111, li_112, li_113, li_114, li_115, li_116, li_117, li_118, li_119, li_120, li_121, li_122, li_123, li_124, li_125, li_126, li_127, li_128, li_129, li_130, li_134, li_160, li_197, li_229, li_255, li_256, li_265, li_300, li_301, li_330, li_353, li_463, li_720, li_729, li_768, li_999, li_2610, li_2807, li_2867, li_2916, li_4096, li_9999, li_10000, li_30643, li_65535, li_99999, li_1000000, gi_si, gi_sl, gi_sr, gi_ci, gi_cl, gl_si, gl_sl, gl_sr, gl_ci, gl_cl, gr_si, gr_sl, gr_sr, gr_ci, gr_cl, ln_si, ln_sl, ln_sr, ln_ci, ln_cl, ok_si, ok_sl, ok_sr, ok_ci, ok_cl, Option.some.injEq, exists_eq_left', exists_eq_left, forall_eq, forall_eq', true_and, and_true, if_true, if_false, true_imp_iff, false_imp_iff, not_true_eq_false, not_false_eq_true, false_and, and_false, reduceIte, reduceCtorEq, forall_const, Nat.reduceEqDiff, Nat.reduceAdd, Nat.reduceMul, Nat.reduceSub, Nat.reduceLT, Nat.reduceLeDiff, Nat.reduceMod, Nat.reduceDiv, and_self, ne_eq, exists_const, Nat.add_sub_cancel, nI_add, pk_mul, pk_sub, q_rem, q_div, q_eq, q_le, q_lt, q_cl, q_in, q_m1, q_1m, q_neg, sh1n, bitn, q_mod2, q_neq0, bq_t, bq_f, bq_t2, bq_f2, i01, i10, q_tt, q_ff, ups_e, ups_n, fil_i, fil_o, zq_if, zq_0, zq_1, if_pos, if_neg]
  · have h2 := of_decide_eq_false (Bool.eq_false_iff.2 h)
    rw [if_neg h]
    by_cases c : x < 48
    · simp (disch := first | omega | (simp only [Gp_si, Gp_sl, Gp_ci, Gp_cl]; assumption)) only [li_0, li_1, li_2, li_3, li_4, li_5, li_6, li_7, li_8, li_9, li_10, li_11, li_12, li_13, li_14, li_15, li_16, li_17, li_18, li_19, li_20, li_21, li_22, li_23, li_24, li_25, li_26, li_27, li_28, li_29, li_30, li_32, li_33, li_34, li_35, li_36, li_37, li_38, li_39, li_40, li_41, li_42, li_43, li_44, li_45, li_46, li_47, li_48, li_49, li_50, li_51, li_52, li_53, li_54, li_55, li_56, li_57, li_58, li_59, li_60, li_61, li_62, li_63, li_64, li_65, li_66, li_67, li_68, li_69, li_70, li_71, li_72, li_73, li_74, li_75, li_76, li_77, li_78, li_79, li_80, li_81, li_82, li_83, li_84, li_85, li_86, li_87, li_88, li_89, li_90, li_91, li_92, li_93, li_94, li_95, li_96, li_97, li_98, li_99, li_100, li_101, li_102, li_103, li_104, li_105, li_106, li_107, li_108, li_109, li_110, li_111, li_112, li_113, li_114, li_115, li_116, li_117, li_118, li_119, li_120, li_121, li_122, li_123, li_124, li_125, li_126, li_127, li_128, li_129, li_130, li_134, li_160, li_197, li_229, li_255, li_256, li_265, li_300, li_301, li_330, li_353, li_463, li_720, li_729, li_768, li_999, li_2610, li_2807, li_2867, li_2916, li_4096, li_9999, li_10000, li_30643, li_65535, li_99999, li_1000000, gi_si, gi_sl, gi_sr, gi_ci, gi_cl, gl_si, gl_sl, gl_sr, gl_ci, gl_cl, gr_si, gr_sl, gr_sr, gr_ci, gr_cl, ln_si, ln_sl, ln_sr, ln_ci, ln_cl, ok_si, ok_sl, ok_sr, ok_ci, ok_cl, Option.some.injEq, exists_eq_left', exists_eq_left, forall_eq, forall_eq', true_and, and_true, if_true, if_false, true_imp_iff, false_imp_iff, not_true_eq_false, not_false_eq_true, false_and, and_false, reduceIte, reduceCtorEq, forall_const, Nat.reduceEqDiff, Nat.reduceAdd, Nat.reduceMul, Nat.reduceSub, Nat.reduceLT, Nat.reduceLeDiff, Nat.reduceMod, Nat.reduceDiv, and_self, ne_eq, exists_const, Nat.add_sub_cancel, nI_add, pk_mul, pk_sub, q_rem, q_div, q_eq, q_le, q_lt, q_cl, q_in, q_m1, q_1m, q_neg, sh1n, bitn, q_mod2, q_neq0, bq_t, bq_f, bq_t2, bq_f2, i01, i10, q_tt, q_ff, ups_e, ups_n, fil_i, fil_o, zq_if, zq_0, zq_1, if_pos, if_neg]
    · simp (disch := first | omega | (simp only [Gp_si, Gp_sl, Gp_ci, Gp_cl]; assumption)) only [li_0, li_1, li_2, li_3, li_4, li_5, li_6, li_7, li_8, li_9, li_10, li_11, li_12, li_13, li_14, li_15, li_16, li_17, li_18, li_19, li_20, li_21, li_22, li_23, li_24, li_25, li_26, li_27, li_28, li_29, li_30, li_32, li_33, li_34, li_35, li_36, li_37, li_38, li_39, li_40, li_41, li_42, li_43, li_44, li_45, li_46, li_47, li_48, li_49, li_50, li_51, li_52, li_53, li_54, li_55, li_56, li_57, li_58, li_59, li_60, li_61, li_62, li_63, li_64, li_65, li_66, li_67, li_68, li_69, li_70, li_71, li_72, li_73, li_74, li_75, li_76, li_77, li_78, li_79, li_80, li_81, li_82, li_83, li_84, li_85, li_86, li_87, li_88, li_89, li_90, li_91, li_92, li_93, li_94, li_95, li_96, li_97, li_98, li_99, li_100, li_101, li_102, li_103, li_104, li_105, li_106, li_107, li_108, li_109, li_110, li_111, li_112, li_113, li_114, li_115, li_116, li_117, li_118, li_119, li_120, li_121, li_122, li_123, li_124, li_125, li_126, li_127, li_128, li_129, li_130, li_134, li_160, li_197, li_229, li_255, li_256, li_265, li_300, li_301, li_330, li_353, li_463, li_720, li_729, li_768, li_999, li_2610, li_2807, li_2867, li_2916, li_4096, li_9999, li_10000, li_30643, li_65535, li_99999, li_1000000, gi_si, gi_sl, gi_sr, gi_ci, gi_cl, gl_si, gl_sl, gl_sr, gl_ci, gl_cl, gr_si, gr_sl, gr_sr, gr_ci, gr_cl, ln_si, ln_sl, ln_sr, ln_ci, ln_cl, ok_si, ok_sl, ok_sr, ok_ci, ok_cl, Option.some.injEq, exists_eq_left', exists_eq_left, forall_eq, forall_eq', true_and, and_true, if_true, if_false, true_imp_iff, false_imp_iff, not_true_eq_false, not_false_eq_true, false_and, and_false, reduceIte, reduceCtorEq, forall_const, Nat.reduceEqDiff, Nat.reduceAdd, Nat.reduceMul, Nat.reduceSub, Nat.reduceLT, Nat.reduceLeDiff, Nat.reduceMod, Nat.reduceDiv, and_self, ne_eq, exists_const, Nat.add_sub_cancel, nI_add, pk_mul, pk_sub, q_rem, q_div, q_eq, q_le, q_lt, q_cl, q_in, q_m1, q_1m, q_neg, sh1n, bitn, q_mod2, q_neq0, bq_t, bq_f, bq_t2, bq_f2, i01, i10, q_tt, q_ff, ups_e, ups_n, fil_i, fil_o, zq_if, zq_0, zq_1, if_pos, if_neg]
/-- the word that lies from p to e -/
theorem p_wordOf (hG : Gp μ) {p e : Nat} (hp : p < e) (he : e ≤ L) (hL : L ≤ 300) (hb : ∀ k, k < L → b k < 256 ∧ mgi μ 272 k = nI (b k)) (k : Q (nI (wkd b p (e - p))) μ) : S_X8_wordOf 271 (nI p) (nI e) μ Q := by
  refine loop3 (Bd := fun i3 i4 i5 ν K => B_X8_wordOf_8 271 (nI p) (nI e) i3 i4 i5 ν K Q) (fun i3 i4 i5 ν n => ν = μ ∧ ∃ w j, w ≤ 26 ∧ n = 200 - (kst w + j) ∧ i3 = nI w ∧ i5 = nI (kst w + j) ∧ (∀ w', w' < w → eqW b p (e - p) (kwd w') = false) ∧ ((w = 26 ∧ j = 0) ∨ (w < 26 ∧ j ≤ kln w ∧ ((i4 = nI (p + j) ∧ j ≤ e - p ∧ ∀ q, q < j → b (p + q) = kch w q) ∨ (i4 = -nI 1 ∧ ¬ (j ≤ e - p ∧ ∀ q, q < j → b (p + q) = kch w q)))))) 200 ⟨rfl, 0, 0, by omega, rfl, rfl, rfl, fun w' h => absurd h (by omega), Or.inr ⟨by omega, by omega, Or.inl ⟨rfl, by omega, fun q hq => absurd hq (by omega)⟩⟩⟩ ?_
  rintro i3 i4 i5 ν n ⟨rfl, w, j, hw, rfl, rfl, rfl, hno, hst⟩ K hK
  unfold B_X8_wordOf_8
  rw [e_sLen (by omega), skN_0]
  rcases hst with ⟨rfl, rfl⟩ | ⟨hw26, hj, hal⟩
  · have e26 : kst 26 + 0 = 120 := by decide
    rw [wkd_none (fun k' hk' => hno k' hk')] at k
    rw [e26]
    simp (disch := first | omega | (simp only [Gp_si, Gp_sl, Gp_ci, Gp_cl]; assumption)) only [li_0, li_1, li_2, li_3, li_4, li_5, li_6, li_7, li_8, li_9, li_10, li_11, li_12, li_13, li_14, li_15, li_16, li_17, li_18, li_19, li_20, li_21, li_22, li_23, li_24, li_25, li_26, li_27, li_28, li_29, li_30, li_32, li_33, li_34, li_35, li_36, li_37, li_38, li_39, li_40, li_41, li_42, li_43, li_44, li_45, li_46, li_47, li_48, li_49, li_50, li_51, li_52, li_53, li_54, li_55, li_56, li_57, li_58, li_59, li_60, li_61, li_62, li_63, li_64, li_65, li_66, li_67, li_68, li_69, li_70, li_71, li_72, li_73, li_74, li_75, li_76, li_77, li_78, li_79, li_80, li_81, li_82, li_83, li_84, li_85, li_86, li_87, li_88, li_89, li_90, li_91, li_92, li_93, li_94, li_95, li_96, li_97, li_98, li_99, li_100, li_101, li_102, li_103, li_104, li_105, li_106, li_107, li_108, li_109, li_110, li_111, li_112, li_113, li_114, li_115, li_116, li_117, li_118, li_119, li_120, li_121, li_122, li_123, li_124, li_125, li_126, li_127, li_128, li_129, li_130, li_134, li_160, li_197, li_229, li_255, li_256, li_265, li_300, li_301, li_330, li_353, li_463, li_720, li_729, li_768, li_999, li_2610, li_2807, li_2867, li_2916, li_4096, li_9999, li_10000, li_30643, li_65535, li_99999, li_1000000, gi_si, gi_sl, gi_sr, gi_ci, gi_cl, gl_si, gl_sl, gl_sr, gl_ci, gl_cl, gr_si, gr_sl, gr_sr, gr_ci, gr_cl, ln_si, ln_sl, ln_sr, ln_ci, ln_cl, ok_si, ok_sl, ok_sr, ok_ci, ok_cl, Option.some.injEq, exists_eq_left', exists_eq_left, forall_eq, forall_eq', true_and, and_true, if_true, if_false, true_imp_iff, false_imp_iff, not_true_eq_false, not_false_eq_true, false_and, and_false, reduceIte, reduceCtorEq, forall_const, Nat.reduceEqDiff, Nat.reduceAdd, Nat.reduceMul, Nat.reduceSub, Nat.reduceLT, Nat.reduceLeDiff, Nat.reduceMod, Nat.reduceDiv, and_self, ne_eq, exists_const, Nat.add_sub_cancel, nI_add, pk_mul, pk_sub, q_rem, q_div, q_eq, q_le, q_lt, q_cl, q_in, q_m1, q_1m, q_neg, sh1n, bitn, q_mod2, q_neq0, bq_t, bq_f, bq_t2, bq_f2, i01, i10, q_tt, q_ff, ups_e, ups_n, fil_i, fil_o, zq_if, zq_0, zq_1, if_pos, if_neg]
    exact k
  · obtain ⟨s1, s2, s3, s4⟩ := kst_s w hw26
    refine ⟨fun x => absurd x (by rw [q_lt (by omega) (by omega)]; omega), fun _ => ?_⟩
    rw [e_sLen (by omega), skN_0]
    by_cases cj : j = kln w
    · -- a space, or the end
      have sp : B_X8_wordOf_40 271 (nI p) (nI e) (nI w) i4 (nI (kst w + j)) (nI 32) ν K Q := by
        unfold B_X8_wordOf_40 B_X8_wordOf_111
        refine ⟨fun _ => ⟨fun hne => ?_, fun heq => ?_⟩, fun x => absurd rfl x⟩
        · have hf : eqW b p (e - p) (kwd w) = false := by
            refine Bool.eq_false_iff.2 (fun ht => ?_)
            obtain ⟨t1, t2⟩ := eqW_t.1 ht
            rcases hal with ⟨a1, a2, a3⟩ | ⟨a1, a2⟩
            · refine hne ?_
              rw [a1, cj]
              congr 1
              show p + (kwd w).length = e
              omega
            · refine a2 ⟨by show j ≤ e - p; rw [t1, cj]; exact Nat.le_refl _, fun q hq => t2 q (by rw [cj] at hq; exact hq)⟩
          refine hK (nI w + 1) (nI p) (nI (kst w + j) + 1) ν (200 - kst (w + 1)) (by rw [s1]; omega) ⟨rfl, w + 1, 0, by omega, rfl, nI_add w 1, ?_, fun w' hw' => ?_, ?_⟩
          · show nI (kst w + j) + nI 1 = _
            rw [nI_add, s1, cj]
          · by_cases c : w' = w
            · rw [c]; exact hf
            · exact hno w' (by omega)
          · by_cases c : w + 1 = 26
            · exact Or.inl ⟨c, rfl⟩
            · exact Or.inr ⟨by omega, by omega, Or.inl ⟨rfl, by omega, fun q hq => absurd hq (by omega)⟩⟩
        · rcases hal with ⟨a1, a2, a3⟩ | ⟨a1, a2⟩
          · rw [a1, q_eq (by omega) (by omega)] at heq
            have ht : eqW b p (e - p) (kwd w) = true := eqW_t.2 ⟨by show e - p = kln w; omega, fun q hq => a3 q (by rw [cj]; exact hq)⟩
            rw [wkd_some hw26 ht hno] at k
            exact k
          · rw [a1, q_1m (by omega)] at heq
            exact absurd heq (fun x => x)
      by_cases c25 : w < 25
      · obtain ⟨s5, s6⟩ := s3 c25
        rw [cj] at sp ⊢
        refine ⟨fun x => absurd x (by rw [q_le (by omega) (by omega)]; omega), fun _ => ?_⟩
        rw [e_chAt s6 s5 (by omega)]
        exact sp
      · have s5 := s4 (by omega)
        refine ⟨fun _ => sp, fun x => absurd (by rw [q_le (by omega) (by omega)]; omega) x⟩
    · obtain ⟨t1, t2, t3, t4⟩ := kst_c w hw26 j (by omega)
      refine ⟨fun x => absurd x (by rw [q_le (by omega) (by omega)]; omega), fun _ => ?_⟩
      rw [e_chAt t4 t1 t3]
      have go : ∀ a : Int32, ((a = nI (p + (j + 1)) ∧ j + 1 ≤ e - p ∧ ∀ q, q < j + 1 → b (p + q) = kch w q) ∨ (a = -nI 1 ∧ ¬ (j + 1 ≤ e - p ∧ ∀ q, q < j + 1 → b (p + q) = kch w q))) → K (nI w) a (nI (kst w + j) + 1) ν := by
        intro a ha
        refine hK _ _ _ _ (200 - (kst w + (j + 1))) (by omega) ⟨rfl, w, j + 1, hw, rfl, rfl, ?_, hno, Or.inr ⟨hw26, by omega, ha⟩⟩
        show nI (kst w + j) + nI 1 = _
        rw [nI_add]
        rfl
      have bad : (¬ (j + 1 ≤ e - p ∧ ∀ q, q < j + 1 → b (p + q) = kch w q)) → K (nI w) (-1) (nI (kst w + j) + 1) ν := fun h => go _ (Or.inr ⟨rfl, h⟩)
      unfold B_X8_wordOf_40 B_X8_wordOf_77 B_X8_wordOf_92 B_X8_wordOf_111
      refine ⟨fun x => absurd x (by rw [li_32, q_eq (by omega) (by omega)]; exact t2), fun _ => ?_⟩
      rcases hal with ⟨rfl, a2, a3⟩ | ⟨rfl, a2⟩
      · refine ⟨fun x => absurd x (by rw [li_0, q_lt (by omega) (by omega)]; omega), fun _ => ⟨fun x => ?_, fun x => ?_⟩⟩
        · rw [q_le (by omega) (by omega)] at x
          exact ⟨fun _ => bad (by omega), fun y => absurd rfl y⟩
        · rw [q_le (by omega) (by omega)] at x
          obtain ⟨b1, b2⟩ := hb (p + j) (by omega)
          refine ⟨gp_ok hG (by decide) (by decide), 272, by simp only [gp_r hG], gp_ok hG (by decide) (by decide), by rw [gp_ln hG (n := 300) (by decide) (by decide)]; exact in_nI (by omega) (by decide), ?_⟩
          rw [q_cl (by omega), b2]
          refine ⟨fun y => ?_, fun y => ?_⟩
          · rw [q_eq (by omega) (by omega)] at y
            exact ⟨fun _ => bad (fun z => y (z.2 j (by omega))), fun y => absurd rfl y⟩
          · rw [q_eq (by omega) (by omega)] at y
            refine ⟨fun z => absurd z (by decide), fun _ => go _ (Or.inl ⟨?_, by omega, fun q hq => ?_⟩)⟩
            · show nI (p + j) + nI 1 = _
              rw [nI_add]
              rfl
            · by_cases c : q = j
              · rw [c]; exact y
              · exact a3 q (by omega)
      · refine ⟨fun _ => ⟨fun _ => bad (fun z => a2 ⟨by omega, fun q hq => z.2 q (by omega)⟩), fun y => absurd rfl y⟩, fun x => absurd (by decide) x⟩
end SG
