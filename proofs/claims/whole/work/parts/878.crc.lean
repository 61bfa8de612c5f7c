/-! the class reads a sum -/
theorem pAcc_y {kd : Nat → Nat} {k : Nat} {a : Rs} {f : Rs → Rs} (h : a.1 = 0) (h2 : kd a.2.1 = k) : pAcc kd k a f = f a := by
  unfold pAcc
  rw [if_pos h, if_pos h2]
theorem pAcc_n {kd : Nat → Nat} {k : Nat} {a : Rs} {f : Rs → Rs} (h : a.1 = 0) (h2 : kd a.2.1 ≠ k) : pAcc kd k a f = pF 1 a.2.1 := by
  unfold pAcc
  rw [if_pos h, if_neg h2]
theorem pAcc_f {kd : Nat → Nat} {k : Nat} {a : Rs} {f : Rs → Rs} (h : a.1 ≠ 0) : pAcc kd k a f = a := by
  unfold pAcc
  rw [if_neg h]
theorem nmC_b (b : Nat → Nat) : ∀ k p v, v ≤ 10000 → nmC b k p v ≤ 10000 := by
  intro k
  induction k with
  | zero => exact fun p v h => h
  | succ k ih =>
    intro p v h
    show nmC b k (p + 1) (if v * 10 + b p - 48 < 10000 then v * 10 + b p - 48 else 10000) ≤ 10000
    apply ih
    split <;> omega
theorem nmT_b (b : Nat → Nat) (L j : Nat) : nmT b L j < 100000 := by
  unfold nmT tkN
  by_cases c : tps b L j < L ∧ isD (b (tps b L j)) = true
  · rw [if_pos c]
    have h1 := isD_x c.2
    have := nmC_b b (endR isD b L (tps b L j + 1) - (tps b L j + 1)) (tps b L j + 1) (b (tps b L j) - 48) (by omega)
    omega
  · rw [if_neg c]
    omega
section CX
variable {μ : Me} {b : Nat → Nat} {L n t law : Nat}
theorem p_nam7 {Q : Int32 → Me → Prop} {j : Nat} {C : Cd} (ht : Ht t) (hlaw : law < 2) (h : Rd μ b L n t law j) (hC : Tc μ t C) (hl : C.length ≤ j) (hk : kdT b L j ≠ 50) (k1 : (pNm (kdT b L) (nmT b L) law j).1 = 0 → ∀ ν, Fzd t 5 μ ν → Rd ν b L n t law (pNm (kdT b L) (nmT b L) law j).2.1 → Tc ν t (C ++ (pNm (kdT b L) (nmT b L) law j).2.2.2.1 C.length) → Q 1 ν) (k0 : (pNm (kdT b L) (nmT b L) law j).1 ≠ 0 → ∀ ν, Fzd t 8 μ ν → Fl ν b L t (pNm (kdT b L) (nmT b L) law j).1 (pNm (kdT b L) (nmT b L) law j).2.1 → Q 0 ν) : S_X5_name 290 μ Q := by
  unfold pNm at k1 k0
  rw [if_neg hk] at k1 k0
  have hb := kd_le b L j
  have hG := h.1
  have h3 := h.2.2.2.2.1
  have h5 := h.2.2.2.2.2.2
  have hle := h.2.1.1
  have hfin := kd_fin h.2.1
  unfold S_X5_name
  refine ⟨rd_ok h, ?_⟩
  rw [h3, e_isName (by omega)]
  by_cases c2 : 6 ≤ kdT b L j ∧ kdT b L j < 16
  · have hjn : j < n := Nat.lt_of_not_le (fun q => by have := hfin j q; omega)
    rw [if_pos c2]
    rw [if_pos c2] at k1 k0
    have bad : ((kdT b L j = 13 ∧ law ≠ 0) ∨ ((kdT b L j = 14 ∨ kdT b L j = 15) ∧ law ≠ 1)) → B_X5_name_78 290 μ Q := by
      intro c3
      rw [if_pos c3] at k0
      exact ⟨rd_ok h, p_ref (f := 5) ht h hC (fun ν f1 f2 => ⟨zb_n0, k0 (by show 5 ≠ 0; omega) ν f1 f2⟩)⟩
    have good : ¬ ((kdT b L j = 13 ∧ law ≠ 0) ∨ ((kdT b L j = 14 ∨ kdT b L j = 15) ∧ law ≠ 1)) → B_X5_name_84 290 μ Q := by
      intro c3
      rw [if_neg c3] at k1
      refine ⟨rd_ok h, t, h.2.2.1, (tx_ok hG ht).1, ?_⟩
      rw [h3]
      refine p_ad (v := 0) hG ht hC (by omega) (fun ν f1 f2 f3 => ?_)
      exact p_nxt ht (rd_t ht h f1 (f2 2) (f2 3) (f2 4)) (by omega) (fun ν2 g1 g2 g3 => k1 rfl ν2 (fzd_tr f1 g1) g2 (g3 _ f3))
    have q5 : ∀ x, x < 10 → (mgi μ 290 5 = nI x) = (law = x) := fun x hx => by rw [h5, q_eq (by omega) (by omega)]
    have q3 : ∀ x, x < 100 → (mgi μ 290 3 = nI x) = (kdT b L j = x) := fun x hx => rd_q h hx
    have b66a : (kdT b L j = 13 → law = 0) → ¬ (kdT b L j = 14 ∨ kdT b L j = 15) → B_X5_name_66 290 0 μ Q := fun c d => ⟨fun _ => good (by omega), fun y => absurd rfl y⟩
    have b66b : (kdT b L j = 14 ∨ kdT b L j = 15) → B_X5_name_66 290 1 μ Q := fun c => ⟨fun y => absurd y (by decide), fun _ => ⟨rd_ok h, fun y => good (by have := (q5 1 (by omega)).mp y; omega), fun y => bad (Or.inr ⟨c, fun z => y ((q5 1 (by omega)).mpr z)⟩)⟩⟩
    have b30 : ∀ x : Int32, (x = 0 ∧ kdT b L j ≠ 13) ∨ (x = 1 ∧ kdT b L j = 13) → B_X5_name_30 290 x μ Q := by
      rintro x (⟨rfl, hx⟩ | ⟨rfl, hx⟩)
      · have b54a : ¬ (kdT b L j = 14 ∨ kdT b L j = 15) → B_X5_name_54 290 0 0 μ Q := fun c => ⟨fun _ => b66a (fun y => absurd y hx) c, fun y => absurd rfl y⟩
        have b54b : (kdT b L j = 14 ∨ kdT b L j = 15) → B_X5_name_54 290 0 1 μ Q := fun c => ⟨fun _ => b66b c, fun y => absurd rfl y⟩
        refine ⟨rd_ok h, fun y => b54b (Or.inl ((q3 14 (by omega)).mp y)), fun y => ⟨fun z => b54a ?_, fun z => b54b (Or.inr ((q3 15 (by omega)).mp z))⟩⟩
        rintro (w | w)
        · exact y ((q3 14 (by omega)).mpr w)
        · exact z ((q3 15 (by omega)).mpr w)
      · have b54a : B_X5_name_54 290 1 0 μ Q := by
          refine ⟨fun y => absurd y (by decide), fun _ => ⟨rd_ok h, fun y => bad (Or.inl ⟨hx, fun z => y ((q5 0 (by omega)).mpr z)⟩), fun y => b66a (fun _ => (q5 0 (by omega)).mp y) (by omega)⟩⟩
        refine ⟨rd_ok h, fun y => ?_, fun y => ⟨fun z => b54a, fun z => ?_⟩⟩
        · have := (q3 14 (by omega)).mp y
          omega
        · have := (q3 15 (by omega)).mp z
          omega
    refine ⟨fun _ => ⟨fun y => b30 0 (Or.inl ⟨rfl, fun z => y ((q3 13 (by omega)).mpr z)⟩), fun y => b30 1 (Or.inr ⟨rfl, (q3 13 (by omega)).mp y⟩)⟩, fun y => absurd y (by decide)⟩
  · rw [if_neg c2]
    rw [if_neg c2] at k1 k0
    exact ⟨fun y => absurd rfl y, fun _ => p_ref (f := 1) ht h hC (fun ν f1 f2 => ⟨zb_n0, k0 (by show 1 ≠ 0; omega) ν f1 f2⟩)⟩
theorem p_pre {Q : Int32 → Me → Prop} {d md x o j : Nat} {C : Cd} (ih : Cg b L n t law d) (hm : md ≤ 6) (ho : o ≤ 8) (hd : o < 8 → ndF md + 7 * (8 - (o + 1)) ≤ d) (ht : Ht t) (h : Rd μ b L n t law j) (hC : Tc μ t C) (hl : C.length ≤ j) (hk : kdT b L j ≠ 51)
    (k1 : (if o < 8 then pU x (pR (kdT b L) (nmT b L) law d md (o + 1) (j + 1)) else pF 3 j).1 = 0 → ∀ ν, Fzd t 5 μ ν → Rd ν b L n t law (if o < 8 then pU x (pR (kdT b L) (nmT b L) law d md (o + 1) (j + 1)) else pF 3 j).2.1 → Tc ν t (C ++ (if o < 8 then pU x (pR (kdT b L) (nmT b L) law d md (o + 1) (j + 1)) else pF 3 j).2.2.2.1 C.length) → Q 1 ν)
    (k0 : (if o < 8 then pU x (pR (kdT b L) (nmT b L) law d md (o + 1) (j + 1)) else pF 3 j).1 ≠ 0 → ∀ ν, Fzd t 8 μ ν → Fl ν b L t (if o < 8 then pU x (pR (kdT b L) (nmT b L) law d md (o + 1) (j + 1)) else pF 3 j).1 (if o < 8 then pU x (pR (kdT b L) (nmT b L) law d md (o + 1) (j + 1)) else pF 3 j).2.1 → Q 0 ν) :
    S_X5_opens 290 (nI o) μ (fun r5 μ3 => ((r5 = 0 → Q 0 μ3) ∧ (¬ r5 = 0 → RC d md 290 (nI o + 1) μ3 (fun r8 μ6 => ((r8 = 0 → Q 0 μ6) ∧ (¬ r8 = 0 → S_X5_put 290 (nI (uoC x)) μ6 (fun r11 μ9 => ((r11 = 0 → Q 0 μ9) ∧ (¬ r11 = 0 → Q 1 μ9))))))))) := by
  have h3 := h.2.1.1
  have hn := kd_fin h.2.1
  have hjn : j < n := Nat.lt_of_not_le (fun q => hk (hn j q))
  refine p_opn ht ho h hC hk (fun c ν f1 f2 f3 => bb1 ?_) (fun c ν f1 f2 => bb0 ?_)
  · rw [if_pos c] at k1 k0
    rw [nI_s1]
    have hp := pk_R (nm := nmT b L) (law := law) hn h3 d md (o + 1) (j + 1) hm c hjn (hd c)
    refine ih md (o + 1) (j + 1) C ν _ hm c (hd c) f2 f3 (by omega) (fun z ν2 g1 g2 g3 => bb1 ?_) (fun z ν2 g1 g2 => bb0 (k0 z ν2 (fzd_tr (fzd_mo f1 (by omega)) g1) g2))
    obtain ⟨p1, p2, p3, -⟩ := hp.1.2 z
    have p4 := p3 C.length
    have p5 := hp.1.1.2
    refine p_pt ht g2 g3 (by rw [List.length_append]; omega) (fun ν3 e1 e2 e3 => bb1 (k1 z ν3 (fzd_tr f1 (fzd_tr g1 e1)) e2 ?_))
    show Tc ν3 t (C ++ ((pR (kdT b L) (nmT b L) law d md (o + 1) (j + 1)).2.2.2.1 C.length ++ [(uoC x, 0)]))
    rw [← List.append_assoc]
    exact e3
  · rw [if_neg c] at k0
    exact k0 (by show 3 ≠ 0; omega) ν f1 f2
theorem p_one {Q : Int32 → Me → Prop} {d o j : Nat} {C : Cd} (hlaw : law < 2) (ih : Cg b L n t law d) (ho : o ≤ 8) (hd : 1 + 7 * (8 - o) ≤ d + 1) (ht : Ht t) (h : Rd μ b L n t law j) (hC : Tc μ t C) (hl : C.length ≤ j)
    (k1 : (pOne (kdT b L) (nmT b L) law (pR (kdT b L) (nmT b L) law d) o j).1 = 0 → ∀ ν, Fzd t 5 μ ν → Rd ν b L n t law (pOne (kdT b L) (nmT b L) law (pR (kdT b L) (nmT b L) law d) o j).2.1 → Tc ν t (C ++ (pOne (kdT b L) (nmT b L) law (pR (kdT b L) (nmT b L) law d) o j).2.2.2.1 C.length) → Q 1 ν)
    (k0 : (pOne (kdT b L) (nmT b L) law (pR (kdT b L) (nmT b L) law d) o j).1 ≠ 0 → ∀ ν, Fzd t 8 μ ν → Fl ν b L t (pOne (kdT b L) (nmT b L) law (pR (kdT b L) (nmT b L) law d) o j).1 (pOne (kdT b L) (nmT b L) law (pR (kdT b L) (nmT b L) law d) o j).2.1 → Q 0 ν) : S_X5_one (RC d) 290 (nI o) μ Q := by
  have h3 := h.2.1.1
  have hn := kd_fin h.2.1
  have q3 : ∀ x, x < 100 → (mgi μ 290 3 = nI x) = (kdT b L j = x) := fun x hx => rd_q h hx
  have lt : ∀ x, kdT b L j = x → x ≠ 51 → j < n := fun x h1 h2 => Nat.lt_of_not_le (fun q => h2 (by rw [← h1]; exact hn j q))
  unfold pOne at k1 k0
  unfold S_X5_one
  refine ⟨rd_ok h, fun e => ?_, fun e1 => ⟨fun e => ?_, fun e2 => ⟨fun e => ?_, fun e4 => ⟨fun e => ?_, fun e5 => ⟨fun e => ?_, fun e6 => ?_⟩⟩⟩⟩⟩
  · have c : kdT b L j = 17 := (q3 17 (by omega)).mp e
    rw [if_pos (Or.inl c), c] at k1 k0
    exact p_pre (md := 2) (x := 17) ih (by omega) ho (fun _ => by show 1 + 7 * (8 - (o + 1)) ≤ d; omega) ht h hC hl (by omega) k1 k0
  · have c : kdT b L j = 18 := (q3 18 (by omega)).mp e
    rw [if_neg (by omega), if_pos c] at k1 k0
    refine p_opn ht ho h hC (by omega) (fun y ν f1 f2 f3 => bb1 ?_) (fun y ν f1 f2 => bb0 ?_)
    · rw [if_pos y] at k1 k0
      rw [nI_s1]
      exact ih 3 (o + 1) (j + 1) C ν _ (by omega) y (by show 7 + 7 * (8 - (o + 1)) ≤ d; omega) f2 f3 (by omega) (fun z ν2 g1 g2 g3 => bb1 (k1 z ν2 (fzd_tr f1 g1) g2 g3)) (fun z ν2 g1 g2 => bb0 (k0 z ν2 (fzd_tr (fzd_mo f1 (by omega)) g1) g2))
    · rw [if_neg y] at k0
      exact k0 (by show 3 ≠ 0; omega) ν f1 f2
  · have c : kdT b L j = 31 := (q3 31 (by omega)).mp e
    rw [if_pos (Or.inr c), c] at k1 k0
    exact p_pre (md := 2) (x := 31) ih (by omega) ho (fun _ => by show 1 + 7 * (8 - (o + 1)) ≤ d; omega) ht h hC hl (by omega) k1 k0
  · have c : kdT b L j = 34 := (q3 34 (by omega)).mp e
    rw [if_neg (by omega), if_neg (by omega), if_pos c] at k1 k0
    refine p_opn ht ho h hC (by omega) (fun y ν f1 f2 f3 => bb1 ?_) (fun y ν f1 f2 => bb0 ?_)
    · rw [if_pos y] at k1 k0
      rw [nI_s1]
      refine ih 0 (o + 1) (j + 1) C ν _ (by omega) y (by show 3 + 7 * (8 - (o + 1)) ≤ d; omega) f2 f3 (by omega) (fun z ν2 g1 g2 g3 => bb1 ?_) (fun z ν2 g1 g2 => bb0 ?_)
      · rw [if_pos z] at k1 k0
        refine p_acc (x := 35) ht g2 g3 (by omega) (fun w ν3 e1 e2 e3 => bb1 ?_) (fun w ν3 e1 e2 => bb0 ?_)
        · rw [if_pos w] at k1
          exact k1 rfl ν3 (fzd_tr f1 (fzd_tr g1 e1)) e2 e3
        · rw [if_neg w] at k0
          exact k0 (by show 1 ≠ 0; omega) ν3 (fzd_tr (fzd_mo (fzd_tr f1 g1) (by omega)) e1) e2
      · rw [if_neg z] at k0
        exact k0 z ν2 (fzd_tr (fzd_mo f1 (by omega)) g1) g2
    · rw [if_neg y] at k0
      exact k0 (by show 3 ≠ 0; omega) ν f1 f2
  · have c : kdT b L j = 50 := (q3 50 (by omega)).mp e
    have hj := lt 50 c (by omega)
    rw [if_neg (by omega), if_neg (by omega), if_neg (by omega)] at k1 k0
    unfold pNm at k1 k0
    rw [if_pos c] at k1 k0
    have h4 := h.2.2.2.2.2.1
    have hnm : nmT b L j < 100000 := nmT_b b L j
    have q4 : (mgi μ 290 4 ≤ 9999) = (nmT b L j ≤ 9999) := by
      rw [h4]
      exact q_le (b := 9999) (by omega) (by omega)
    refine ⟨fun y => ?_, fun y => ?_⟩
    · rw [if_pos (q4.mp y)] at k1
      refine ⟨t, h.2.2.1, (tx_ok h.1 ht).1, ?_⟩
      rw [h4]
      exact p_ad (kk := 50) h.1 ht hC (by omega) (fun ν f1 f2 f3 => p_nxt ht (rd_t ht h f1 (f2 2) (f2 3) (f2 4)) (by omega) (fun ν2 g1 g2 g3 => k1 rfl ν2 (fzd_tr f1 g1) g2 (g3 _ f3)))
    · rw [if_neg (fun z => y (q4.mpr z))] at k0
      exact p_ref (f := 2) ht h hC (fun ν f1 f2 => ⟨zb_n0, k0 (by show 2 ≠ 0; omega) ν f1 f2⟩)
  · have c1 : kdT b L j ≠ 17 := fun y => e1 ((q3 17 (by omega)).mpr y)
    have c2 : kdT b L j ≠ 18 := fun y => e2 ((q3 18 (by omega)).mpr y)
    have c4 : kdT b L j ≠ 31 := fun y => e4 ((q3 31 (by omega)).mpr y)
    have c5 : kdT b L j ≠ 34 := fun y => e5 ((q3 34 (by omega)).mpr y)
    have c6 : kdT b L j ≠ 50 := fun y => e6 ((q3 50 (by omega)).mpr y)
    rw [if_neg (by omega), if_neg c2, if_neg c5] at k1 k0
    exact p_nam7 ht hlaw h hC hl c6 (fun z ν g1 g2 g3 => ⟨zb_n1, k1 z ν g1 g2 g3⟩) (fun z ν g1 g2 => ⟨zb_n0, k0 z ν g1 g2⟩)
end CX
