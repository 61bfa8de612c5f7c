/-! the class reads a sum: the loops' four, choice, ask, all -/
section CY
variable {μ : Me} {b : Nat → Nat} {L n t law : Nat}
theorem q300 {i : Nat} (hi : i ≤ 300) : (300 ≤ nI i) = (300 ≤ i) := q_le (a := 300) (by omega) (by omega)
theorem p_sum7 {Q : Int32 → Me → Prop} {d o j : Nat} {C : Cd} (ih : Cg b L n t law d) (ho : o ≤ 8) (hd : 3 + 7 * (8 - o) ≤ d + 1) (ht : Ht t) (h : Rd μ b L n t law j) (hC : Tc μ t C) (hl : C.length ≤ j)
    (k1 : (pL (kdT b L) (pR (kdT b L) (nmT b L) law d 1 o) g0 300 (pR (kdT b L) (nmT b L) law d 1 o j)).1 = 0 → ∀ ν, Fzd t 5 μ ν → Rd ν b L n t law (pL (kdT b L) (pR (kdT b L) (nmT b L) law d 1 o) g0 300 (pR (kdT b L) (nmT b L) law d 1 o j)).2.1 → Tc ν t (C ++ (pL (kdT b L) (pR (kdT b L) (nmT b L) law d 1 o) g0 300 (pR (kdT b L) (nmT b L) law d 1 o j)).2.2.2.1 C.length) → Q 1 ν)
    (k0 : (pL (kdT b L) (pR (kdT b L) (nmT b L) law d 1 o) g0 300 (pR (kdT b L) (nmT b L) law d 1 o j)).1 ≠ 0 → ∀ ν, Fzd t 8 μ ν → Fl ν b L t (pL (kdT b L) (pR (kdT b L) (nmT b L) law d 1 o) g0 300 (pR (kdT b L) (nmT b L) law d 1 o j)).1 (pL (kdT b L) (pR (kdT b L) (nmT b L) law d 1 o) g0 300 (pR (kdT b L) (nmT b L) law d 1 o j)).2.1 → Q 0 ν) : S_X5_sum (RC d) 290 (nI o) μ Q := by
  refine ⟨rd_ok h, ?_⟩
  refine p_lp (md := 1) (g := g0) (Bd := fun i2 i3 ν K => B_X5_sum_8 (RC d) 290 (nI o) i2 i3 ν K Q) ih (by omega) ho (by show 2 + 7 * (8 - o) ≤ d; omega) ht h hC hl (fun k hk => ?_) (fun i ν K hi q => ?_) (fun i ν K j' hi hR hg q => ?_) (fun i ν K j' hi hR hg X => ?_) k1 k0
  · have := of_decide_eq_true hk
    exact ⟨by omega, Or.inl ⟨rfl, rfl, by omega, by omega⟩⟩
  · exact ⟨fun _ => ⟨zb_n0, q⟩, fun _ => ⟨fun _ => ⟨zb_n0, q⟩, fun y => absurd rfl y⟩⟩
  · refine ⟨fun _ => ⟨zb_n1, q⟩, fun c => ⟨fun y => absurd y (by decide), fun _ => ⟨rd_ok hR, fun y => ?_, fun y => ⟨fun _ => ⟨zb_n1, q⟩, fun z => ?_⟩⟩⟩⟩
    · have e := (rd_q hR (x := 30) (by omega)).mp y
      have g2 := hg (by rw [q300 hi] at c; omega)
      rw [e] at g2
      cases g2
    · have e := (rd_q hR (x := 31) (by omega)).mp z
      have g2 := hg (by rw [q300 hi] at c; omega)
      rw [e] at g2
      cases g2
  · rw [← hR.2.2.2.2.1] at X
    have B : B_X5_sum_37 (RC d) 290 (nI o) (nI i) ν K Q := ⟨rd_ok hR, X⟩
    refine ⟨fun c => ?_, fun _ => ⟨fun y => absurd y (by decide), fun _ => ⟨rd_ok hR, fun _ => B, fun y => ⟨fun z => ?_, fun _ => B⟩⟩⟩⟩
    · rw [q300 (by omega)] at c
      omega
    · exfalso
      have := of_decide_eq_true hg
      rcases this with w | w
      · exact y ((rd_q hR (x := 30) (by omega)).mpr w)
      · exact z ((rd_q hR (x := 31) (by omega)).mpr w)
theorem p_product7 {Q : Int32 → Me → Prop} {d o j : Nat} {C : Cd} (ih : Cg b L n t law d) (ho : o ≤ 8) (hd : 2 + 7 * (8 - o) ≤ d + 1) (ht : Ht t) (h : Rd μ b L n t law j) (hC : Tc μ t C) (hl : C.length ≤ j)
    (k1 : (pL (kdT b L) (pR (kdT b L) (nmT b L) law d 2 o) g1 300 (pR (kdT b L) (nmT b L) law d 2 o j)).1 = 0 → ∀ ν, Fzd t 5 μ ν → Rd ν b L n t law (pL (kdT b L) (pR (kdT b L) (nmT b L) law d 2 o) g1 300 (pR (kdT b L) (nmT b L) law d 2 o j)).2.1 → Tc ν t (C ++ (pL (kdT b L) (pR (kdT b L) (nmT b L) law d 2 o) g1 300 (pR (kdT b L) (nmT b L) law d 2 o j)).2.2.2.1 C.length) → Q 1 ν)
    (k0 : (pL (kdT b L) (pR (kdT b L) (nmT b L) law d 2 o) g1 300 (pR (kdT b L) (nmT b L) law d 2 o j)).1 ≠ 0 → ∀ ν, Fzd t 8 μ ν → Fl ν b L t (pL (kdT b L) (pR (kdT b L) (nmT b L) law d 2 o) g1 300 (pR (kdT b L) (nmT b L) law d 2 o j)).1 (pL (kdT b L) (pR (kdT b L) (nmT b L) law d 2 o) g1 300 (pR (kdT b L) (nmT b L) law d 2 o j)).2.1 → Q 0 ν) : S_X5_product (RC d) 290 (nI o) μ Q := by
  refine ⟨rd_ok h, ?_⟩
  refine p_lp (md := 2) (g := g1) (Bd := fun i2 i3 ν K => B_X5_product_8 (RC d) 290 (nI o) i2 i3 ν K Q) ih (by omega) ho (by show 1 + 7 * (8 - o) ≤ d; omega) ht h hC hl (fun k hk => ?_) (fun i ν K hi q => ?_) (fun i ν K j' hi hR hg q => ?_) (fun i ν K j' hi hR hg X => ?_) k1 k0
  · have := of_decide_eq_true hk
    exact ⟨by omega, Or.inl ⟨rfl, rfl, by omega, by omega⟩⟩
  · exact ⟨fun _ => ⟨zb_n0, q⟩, fun _ => ⟨fun _ => ⟨zb_n0, q⟩, fun y => absurd rfl y⟩⟩
  · refine ⟨fun _ => ⟨zb_n1, q⟩, fun c => ⟨fun y => absurd y (by decide), fun _ => ⟨rd_ok hR, fun y => ?_, fun y => ⟨fun _ => ⟨zb_n1, q⟩, fun z => ?_⟩⟩⟩⟩
    · have e := (rd_q hR (x := 32) (by omega)).mp y
      have g2 := hg (by rw [q300 hi] at c; omega)
      rw [e] at g2
      cases g2
    · have e := (rd_q hR (x := 33) (by omega)).mp z
      have g2 := hg (by rw [q300 hi] at c; omega)
      rw [e] at g2
      cases g2
  · rw [← hR.2.2.2.2.1] at X
    have B : B_X5_product_37 (RC d) 290 (nI o) (nI i) ν K Q := ⟨rd_ok hR, X⟩
    refine ⟨fun c => ?_, fun _ => ⟨fun y => absurd y (by decide), fun _ => ⟨rd_ok hR, fun _ => B, fun y => ⟨fun z => ?_, fun _ => B⟩⟩⟩⟩
    · rw [q300 (by omega)] at c
      omega
    · exfalso
      have := of_decide_eq_true hg
      rcases this with w | w
      · exact y ((rd_q hR (x := 32) (by omega)).mpr w)
      · exact z ((rd_q hR (x := 33) (by omega)).mpr w)
theorem p_either7 {Q : Int32 → Me → Prop} {d o j : Nat} {C : Cd} (ih : Cg b L n t law d) (ho : o ≤ 8) (hd : 6 + 7 * (8 - o) ≤ d + 1) (ht : Ht t) (h : Rd μ b L n t law j) (hC : Tc μ t C) (hl : C.length ≤ j)
    (k1 : (pL (kdT b L) (pR (kdT b L) (nmT b L) law d 5 o) g4 300 (pR (kdT b L) (nmT b L) law d 5 o j)).1 = 0 → ∀ ν, Fzd t 5 μ ν → Rd ν b L n t law (pL (kdT b L) (pR (kdT b L) (nmT b L) law d 5 o) g4 300 (pR (kdT b L) (nmT b L) law d 5 o j)).2.1 → Tc ν t (C ++ (pL (kdT b L) (pR (kdT b L) (nmT b L) law d 5 o) g4 300 (pR (kdT b L) (nmT b L) law d 5 o j)).2.2.2.1 C.length) → Q 1 ν)
    (k0 : (pL (kdT b L) (pR (kdT b L) (nmT b L) law d 5 o) g4 300 (pR (kdT b L) (nmT b L) law d 5 o j)).1 ≠ 0 → ∀ ν, Fzd t 8 μ ν → Fl ν b L t (pL (kdT b L) (pR (kdT b L) (nmT b L) law d 5 o) g4 300 (pR (kdT b L) (nmT b L) law d 5 o j)).1 (pL (kdT b L) (pR (kdT b L) (nmT b L) law d 5 o) g4 300 (pR (kdT b L) (nmT b L) law d 5 o j)).2.1 → Q 0 ν) : S_X5_either (RC d) 290 (nI o) μ Q := by
  refine ⟨rd_ok h, ?_⟩
  refine p_lp (md := 5) (g := g4) (Bd := fun i2 i3 ν K => B_X5_either_8 (RC d) 290 (nI o) i2 i3 ν K Q) ih (by omega) ho (by show 5 + 7 * (8 - o) ≤ d; omega) ht h hC hl (fun k hk => ?_) (fun i ν K hi q => ?_) (fun i ν K j' hi hR hg q => ?_) (fun i ν K j' hi hR hg X => ?_) k1 k0
  · have := of_decide_eq_true hk
    exact ⟨by omega, Or.inr (Or.inr ⟨rfl, rfl, by omega, by omega⟩)⟩
  · exact ⟨fun _ => ⟨zb_n0, q⟩, fun _ => ⟨fun _ => ⟨zb_n0, q⟩, fun y => absurd rfl y⟩⟩
  · refine ⟨fun _ => ⟨zb_n1, q⟩, fun c => ⟨fun y => absurd y (by decide), fun _ => ⟨rd_ok hR, fun y => ?_, fun y => ⟨fun _ => ⟨zb_n1, q⟩, fun z => ?_⟩⟩⟩⟩
    · have e := (rd_q hR (x := 22) (by omega)).mp y
      have g2 := hg (by rw [q300 hi] at c; omega)
      rw [e] at g2
      cases g2
    · have e := (rd_q hR (x := 23) (by omega)).mp z
      have g2 := hg (by rw [q300 hi] at c; omega)
      rw [e] at g2
      cases g2
  · rw [← hR.2.2.2.2.1] at X
    have B : B_X5_either_37 (RC d) 290 (nI o) (nI i) ν K Q := ⟨rd_ok hR, X⟩
    refine ⟨fun c => ?_, fun _ => ⟨fun y => absurd y (by decide), fun _ => ⟨rd_ok hR, fun _ => B, fun y => ⟨fun z => ?_, fun _ => B⟩⟩⟩⟩
    · rw [q300 (by omega)] at c
      omega
    · exfalso
      have := of_decide_eq_true hg
      rcases this with w | w
      · exact y ((rd_q hR (x := 22) (by omega)).mpr w)
      · exact z ((rd_q hR (x := 23) (by omega)).mpr w)
theorem p_both7 {Q : Int32 → Me → Prop} {d o j : Nat} {C : Cd} (ih : Cg b L n t law d) (ho : o ≤ 8) (hd : 5 + 7 * (8 - o) ≤ d + 1) (ht : Ht t) (h : Rd μ b L n t law j) (hC : Tc μ t C) (hl : C.length ≤ j)
    (k1 : (pL (kdT b L) (pR (kdT b L) (nmT b L) law d 6 o) g5 300 (pR (kdT b L) (nmT b L) law d 6 o j)).1 = 0 → ∀ ν, Fzd t 5 μ ν → Rd ν b L n t law (pL (kdT b L) (pR (kdT b L) (nmT b L) law d 6 o) g5 300 (pR (kdT b L) (nmT b L) law d 6 o j)).2.1 → Tc ν t (C ++ (pL (kdT b L) (pR (kdT b L) (nmT b L) law d 6 o) g5 300 (pR (kdT b L) (nmT b L) law d 6 o j)).2.2.2.1 C.length) → Q 1 ν)
    (k0 : (pL (kdT b L) (pR (kdT b L) (nmT b L) law d 6 o) g5 300 (pR (kdT b L) (nmT b L) law d 6 o j)).1 ≠ 0 → ∀ ν, Fzd t 8 μ ν → Fl ν b L t (pL (kdT b L) (pR (kdT b L) (nmT b L) law d 6 o) g5 300 (pR (kdT b L) (nmT b L) law d 6 o j)).1 (pL (kdT b L) (pR (kdT b L) (nmT b L) law d 6 o) g5 300 (pR (kdT b L) (nmT b L) law d 6 o j)).2.1 → Q 0 ν) : S_X5_both (RC d) 290 (nI o) μ Q := by
  refine ⟨rd_ok h, ?_⟩
  refine p_lp (md := 6) (g := g5) (Bd := fun i2 i3 ν K => B_X5_both_8 (RC d) 290 (nI o) i2 i3 ν K Q) ih (by omega) ho (by show 4 + 7 * (8 - o) ≤ d; omega) ht h hC hl (fun k hk => ?_) (fun i ν K hi q => ?_) (fun i ν K j' hi hR hg q => ?_) (fun i ν K j' hi hR hg X => ?_) k1 k0
  · have := of_decide_eq_true hk
    exact ⟨by omega, Or.inr (Or.inr ⟨rfl, rfl, by omega, by omega⟩)⟩
  · exact ⟨fun _ => ⟨zb_n0, q⟩, fun _ => ⟨fun _ => ⟨zb_n0, q⟩, fun y => absurd rfl y⟩⟩
  · refine ⟨fun _ => ⟨zb_n1, q⟩, fun c => ⟨fun y => absurd y (by decide), fun _ => ⟨rd_ok hR, fun _ => ⟨zb_n1, q⟩, fun z => ?_⟩⟩⟩
    have e := (rd_q hR (x := 24) (by omega)).mp z
    have g2 := hg (by rw [q300 hi] at c; omega)
    rw [e] at g2
    cases g2
  · have w : kdT b L j' = 24 := of_decide_eq_true hg
    rw [w] at X
    refine ⟨fun c => ?_, fun _ => ⟨fun y => absurd y (by decide), fun _ => ⟨rd_ok hR, fun y => ?_, fun _ => X⟩⟩⟩
    · rw [q300 (by omega)] at c
      omega
    · exact absurd ((rd_q hR (x := 24) (by omega)).mpr w) y
theorem p_ask7 {Q : Int32 → Me → Prop} {d o j : Nat} {C : Cd} (ih : Cg b L n t law d) (ho : o ≤ 8) (hd : 4 + 7 * (8 - o) ≤ d + 1) (ht : Ht t) (h : Rd μ b L n t law j) (hC : Tc μ t C) (hl : C.length ≤ j)
    (k1 : (pAsk (kdT b L) (pR (kdT b L) (nmT b L) law d) o j).1 = 0 → ∀ ν, Fzd t 5 μ ν → Rd ν b L n t law (pAsk (kdT b L) (pR (kdT b L) (nmT b L) law d) o j).2.1 → Tc ν t (C ++ (pAsk (kdT b L) (pR (kdT b L) (nmT b L) law d) o j).2.2.2.1 C.length) → Q 1 ν)
    (k0 : (pAsk (kdT b L) (pR (kdT b L) (nmT b L) law d) o j).1 ≠ 0 → ∀ ν, Fzd t 8 μ ν → Fl ν b L t (pAsk (kdT b L) (pR (kdT b L) (nmT b L) law d) o j).1 (pAsk (kdT b L) (pR (kdT b L) (nmT b L) law d) o j).2.1 → Q 0 ν) : S_X5_ask (RC d) 290 (nI o) μ Q := by
  have h3 := h.2.1.1
  have hn := kd_fin h.2.1
  have hjn := h.2.2.2.1.2
  unfold pAsk at k1 k0
  refine ⟨rd_ok h, fun e => ?_, fun e => ?_⟩
  · have c : kdT b L j ≠ 25 := fun y => e ((rd_q h (x := 25) (by omega)).mpr y)
    rw [if_neg c] at k1 k0
    have pa := pk_R (nm := nmT b L) (law := law) hn h3 d 0 o j (by omega) ho hjn (by show 3 + 7 * (8 - o) ≤ d; omega)
    refine ih 0 o j C μ _ (by omega) ho (by show 3 + 7 * (8 - o) ≤ d; omega) h hC hl (fun z ν f1 f2 f3 => bn1 ?_) (fun z ν f1 f2 => bn0 ?_)
    · rw [if_pos z] at k1 k0
      generalize hA : pR (kdT b L) (nmT b L) law d 0 o j = a at z f2 f3 k1 k0 pa
      have kl := kd_le b L a.2.1
      have e1 : (mgi ν 290 3 < 37) = (kdT b L a.2.1 < 37) := by
        rw [f2.2.2.2.2.1]
        exact q_lt (b := 37) (by omega) (by omega)
      have e2 : (mgi ν 290 3 ≤ 42) = (kdT b L a.2.1 ≤ 42) := by
        rw [f2.2.2.2.2.1]
        exact q_le (b := 42) (by omega) (by omega)
      have bad : ¬ (37 ≤ kdT b L a.2.1 ∧ kdT b L a.2.1 ≤ 42) → B_X5_ask_69 (RC d) 290 ν Q := by
        intro w
        rw [if_neg w] at k0
        exact ⟨rd_ok f2, p_ref (f := 1) ht f2 f3 (fun ν2 g1 g2 => ⟨zb_n0, k0 (by show 1 ≠ 0; omega) ν2 (fzd_tr (fzd_mo f1 (by omega)) g1) g2⟩)⟩
      refine ⟨fun y => bad (by rw [e1] at y; omega), fun y => ⟨fun y2 => ?_, fun y2 => bad (by rw [e2] at y2; omega)⟩⟩
      rw [e1] at y
      rw [e2] at y2
      have w : 37 ≤ kdT b L a.2.1 ∧ kdT b L a.2.1 ≤ 42 := by omega
      rw [if_pos w] at k1 k0
      obtain ⟨p1, p2, p3, -⟩ := pa.1.2 z
      have p4 := p3 C.length
      have al : a.2.1 < n := Nat.lt_of_not_le (fun q => by have := hn _ q; omega)
      have pb := pk_R (nm := nmT b L) (law := law) hn h3 d 0 o (a.2.1 + 1) (by omega) ho al (by show 3 + 7 * (8 - o) ≤ d; omega)
      refine p_nxt ht f2 (by omega) (fun ν2 g1 g2 g3 => ?_)
      refine ih 0 o (a.2.1 + 1) (C ++ a.2.2.2.1 C.length) ν2 _ (by omega) ho (by show 3 + 7 * (8 - o) ≤ d; omega) g2 (g3 _ f3) (by rw [List.length_append]; omega) (fun z2 ν3 r1 r2 r3 => bb1 ?_) (fun z2 ν3 r1 r2 => bb0 (k0 z2 ν3 (fzd_tr (fzd_mo (fzd_tr f1 g1) (by omega)) r1) r2))
      rw [f2.2.2.2.2.1]
      obtain ⟨b1, b2, b3, -⟩ := pb.1.2 z2
      have b4 := b3 (C ++ a.2.2.2.1 C.length).length
      have b5 := pb.1.1.2
      have hln : (C ++ a.2.2.2.1 C.length).length = C.length + (a.2.2.2.1 C.length).length := List.length_append
      refine p_pt ht r2 r3 (by rw [List.length_append]; omega) (fun ν4 s1 s2 s3 => bb1 (k1 z2 ν4 (fzd_tr f1 (fzd_tr g1 (fzd_tr r1 s1))) s2 ?_))
      rw [hln] at s3
      show Tc ν4 t (C ++ (a.2.2.2.1 C.length ++ (pR (kdT b L) (nmT b L) law d 0 o (a.2.1 + 1)).2.2.2.1 (C.length + (a.2.2.2.1 C.length).length) ++ [(kdT b L a.2.1, 0)]))
      rw [← List.append_assoc, ← List.append_assoc]
      exact s3
    · rw [if_neg z] at k0
      exact k0 z ν f1 f2
  · have c : kdT b L j = 25 := (rd_q h (x := 25) (by omega)).mp e
    rw [if_pos c] at k1 k0
    exact p_pre (md := 6) (x := 25) ih (by omega) ho (fun _ => by show 4 + 7 * (8 - (o + 1)) ≤ d; omega) ht h hC hl (by omega) k1 k0
theorem p_choice7 {Q : Int32 → Me → Prop} {d o j : Nat} {C : Cd} (ih : Cg b L n t law d) (ho : o ≤ 8) (hd : 7 + 7 * (8 - o) ≤ d + 1) (ht : Ht t) (h : Rd μ b L n t law j) (hC : Tc μ t C) (hl : C.length ≤ j)
    (k1 : (pCh (kdT b L) (pR (kdT b L) (nmT b L) law d) o j).1 = 0 → ∀ ν, Fzd t 5 μ ν → Rd ν b L n t law (pCh (kdT b L) (pR (kdT b L) (nmT b L) law d) o j).2.1 → Tc ν t (C ++ (pCh (kdT b L) (pR (kdT b L) (nmT b L) law d) o j).2.2.2.1 C.length) → Q 1 ν)
    (k0 : (pCh (kdT b L) (pR (kdT b L) (nmT b L) law d) o j).1 ≠ 0 → ∀ ν, Fzd t 8 μ ν → Fl ν b L t (pCh (kdT b L) (pR (kdT b L) (nmT b L) law d) o j).1 (pCh (kdT b L) (pR (kdT b L) (nmT b L) law d) o j).2.1 → Q 0 ν) : S_X5_choice (RC d) 290 (nI o) μ Q := by
  have h3 := h.2.1.1
  have hn := kd_fin h.2.1
  have hjn := h.2.2.2.1.2
  unfold pCh at k1 k0
  have pa := pk_R (nm := nmT b L) (law := law) hn h3 d 4 o j (by omega) ho hjn (by show 6 + 7 * (8 - o) ≤ d; omega)
  refine ⟨rd_ok h, ih 4 o j C μ _ (by omega) ho (by show 6 + 7 * (8 - o) ≤ d; omega) h hC hl (fun z ν f1 f2 f3 => bb1 ?_) (fun z ν f1 f2 => bb0 ?_)⟩
  rotate_left
  · rw [pAcc_f z] at k0
    exact k0 z ν f1 f2
  generalize pR (kdT b L) (nmT b L) law d 4 o j = a at z f2 f3 k1 k0 pa
  obtain ⟨a1, a2, a3, -⟩ := pa.1.2 z
  have a4 := a3 C.length
  have la : (C ++ a.2.2.2.1 C.length).length = C.length + (a.2.2.2.1 C.length).length := List.length_append
  refine p_acc (x := 19) ht f2 f3 (by omega) (fun w ν2 g1 g2 g3 => bn1 ?_) (fun w ν2 g1 g2 => bn0 ?_)
  rotate_left
  · rw [pAcc_n z w] at k0
    exact k0 (by show 1 ≠ 0; omega) ν2 (fzd_tr (fzd_mo f1 (by omega)) g1) g2
  rw [pAcc_y z w] at k1 k0
  have al : a.2.1 < n := Nat.lt_of_not_le (fun q => by have := hn _ q; omega)
  refine ⟨t, g2.2.2.1, (tx_ok g2.1 ht).1, p_ad (kk := 19) (v := 0) g2.1 ht g3 (by omega) (fun ν3 r1 r2 r3 => ?_)⟩
  have q3 := rd_t ht g2 r1 (r2 2) (r2 3) (r2 4)
  have l1 : (C ++ a.2.2.2.1 C.length ++ [(19, 0)]).length = C.length + (a.2.2.2.1 C.length).length + 1 := by
    rw [List.length_append, la]
    rfl
  have pb := pk_R (nm := nmT b L) (law := law) hn h3 d 0 o (a.2.1 + 1) (by omega) ho al (by show 3 + 7 * (8 - o) ≤ d; omega)
  have Fa := fzd_tr f1 (fzd_tr g1 r1)
  refine ih 0 o (a.2.1 + 1) (C ++ a.2.2.2.1 C.length ++ [(19, 0)]) ν3 _ (by omega) ho (by show 3 + 7 * (8 - o) ≤ d; omega) q3 r3 (by omega) (fun zb ν4 s1 s2 s3 => bb1 ?_) (fun zb ν4 s1 s2 => bb0 ?_)
  rotate_left
  · rw [pAcc_f zb] at k0
    exact k0 zb ν4 (fzd_tr (fzd_mo Fa (by omega)) s1) s2
  generalize pR (kdT b L) (nmT b L) law d 0 o (a.2.1 + 1) = B at zb s2 s3 k1 k0 pb
  obtain ⟨b1, b2, b3, -⟩ := pb.1.2 zb
  rw [l1] at s3
  generalize hcb : B.2.2.2.1 (C.length + (a.2.2.2.1 C.length).length + 1) = cb at s3
  have b4 := b3 (C.length + (a.2.2.2.1 C.length).length + 1)
  rw [hcb] at b4
  have b5 := pb.1.1.2
  have l2 : (C ++ a.2.2.2.1 C.length ++ [(19, 0)] ++ cb).length = C.length + (a.2.2.2.1 C.length).length + 1 + cb.length := by
    rw [List.length_append, l1]
  refine p_acc (x := 20) ht s2 s3 (by omega) (fun wb ν5 u1 u2 u3 => bn1 ?_) (fun wb ν5 u1 u2 => bn0 ?_)
  rotate_left
  · rw [pAcc_n zb wb] at k0
    exact k0 (by show 1 ≠ 0; omega) ν5 (fzd_tr (fzd_mo (fzd_tr Fa s1) (by omega)) u1) u2
  rw [pAcc_y zb wb] at k1 k0
  have bl : B.2.1 < n := Nat.lt_of_not_le (fun q => by have := hn _ q; omega)
  refine ⟨t, u2.2.2.1, (tx_ok u2.1 ht).1, p_ad (kk := 20) (v := 0) u2.1 ht u3 (by omega) (fun ν6 v1 v2 v3 => ?_)⟩
  have q6 := rd_t ht u2 v1 (v2 2) (v2 3) (v2 4)
  have l3 : (C ++ a.2.2.2.1 C.length ++ [(19, 0)] ++ (cb ++ [(20, 0)])).length = C.length + (a.2.2.2.1 C.length).length + 1 + cb.length + 1 := by
    rw [← List.append_assoc, List.length_append, l2]
    rfl
  rw [List.append_assoc _ cb] at v3
  refine ⟨t, q6.2.2.1, (tx_ok q6.1 ht).1, p_skp q6.1 ht v3 (fun ν7 x1 x2 x3 => ?_)⟩
  rw [l3] at x3
  have q7 := rd_t ht q6 x1 (x2 2) (x2 3) (x2 4)
  have hT : iT C.length a B = C.length + (a.2.2.2.1 C.length).length + 1 + cb.length + 1 := by
    unfold iT
    rw [hcb]
  rw [← hT] at x3
  have l4 : (C ++ a.2.2.2.1 C.length ++ [(19, iT C.length a B)] ++ (cb ++ [(20, 0)])).length = iT C.length a B := by
    rw [hT, ← l3]
    simp only [List.length_append, List.length_singleton]
  have Fb := fzd_tr Fa (fzd_tr s1 (fzd_tr u1 (fzd_tr v1 x1)))
  have pc := pk_R (nm := nmT b L) (law := law) hn h3 d 0 o (B.2.1 + 1) (by omega) ho bl (by show 3 + 7 * (8 - o) ≤ d; omega)
  refine ih 0 o (B.2.1 + 1) _ ν7 _ (by omega) ho (by show 3 + 7 * (8 - o) ≤ d; omega) q7 x3 (by rw [l4, hT]; omega) (fun zc ν8 y1 y2 y3 => bb1 ?_) (fun zc ν8 y1 y2 => bb0 ?_)
  rotate_left
  · rw [pAcc_f zc] at k0
    exact k0 zc ν8 (fzd_tr (fzd_mo Fb (by omega)) y1) y2
  generalize pR (kdT b L) (nmT b L) law d 0 o (B.2.1 + 1) = c at zc y2 y3 k1 k0 pc
  rw [l4] at y3
  refine p_acc (x := 21) ht y2 y3 (by omega) (fun wc ν9 m1 m2 m3 => bn1 ?_) (fun wc ν9 m1 m2 => bn0 ?_)
  rotate_left
  · rw [pAcc_n zc wc] at k0
    exact k0 (by show 1 ≠ 0; omega) ν9 (fzd_tr (fzd_mo (fzd_tr Fb y1) (by omega)) m1) m2
  rw [pAcc_y zc wc] at k1 k0
  rw [← List.append_assoc _ cb] at m3
  have l5 : (C ++ a.2.2.2.1 C.length ++ [(19, 0)] ++ cb).length = (C ++ a.2.2.2.1 C.length ++ [(19, iT C.length a B)] ++ cb).length := by
    simp only [List.length_append, List.length_singleton]
  rw [l5]
  refine ⟨t, m2.2.2.1, (tx_ok m2.1 ht).1, p_skp m2.1 ht m3 (fun ν10 n1 n2 n3 => ?_)⟩
  refine k1 rfl ν10 (fzd_tr Fb (fzd_tr y1 (fzd_tr m1 n1))) (rd_t ht m2 n1 (n2 2) (n2 3) (n2 4)) ?_
  have l6 : (C ++ a.2.2.2.1 C.length ++ [(19, iT C.length a B)] ++ cb ++ [(20, 0)] ++ c.2.2.2.1 (iT C.length a B)).length = iE C.length a B c := by
    unfold iE
    rw [List.length_append, List.append_assoc _ cb, l4]
  rw [l6] at n3
  show Tc ν10 t (C ++ iC C.length a B c)
  unfold iC
  rw [hcb]
  simp only [List.append_assoc] at n3 ⊢
  exact n3
theorem p_RC (hlaw : law < 2) (ht : Ht t) : ∀ d, Cg b L n t law d
  | 0 => by
    intro md o j C μ Q hm ho hd
    exfalso
    unfold ndF at hd
    repeat' split at hd
    all_goals omega
  | d + 1 => by
    have ih := p_RC hlaw ht d
    intro md o j C μ Q hm ho hd hR hC hl k1 k0
    have hmd : md = 0 ∨ md = 1 ∨ md = 2 ∨ md = 3 ∨ md = 4 ∨ md = 5 ∨ md = 6 := by omega
    rcases hmd with rfl | rfl | rfl | rfl | rfl | rfl | rfl
    · exact p_sum7 ih ho hd ht hR hC hl k1 k0
    · exact p_product7 ih ho hd ht hR hC hl k1 k0
    · exact p_one hlaw ih ho hd ht hR hC hl k1 k0
    · exact p_choice7 ih ho hd ht hR hC hl k1 k0
    · exact p_either7 ih ho hd ht hR hC hl k1 k0
    · exact p_both7 ih ho hd ht hR hC hl k1 k0
    · exact p_ask7 ih ho hd ht hR hC hl k1 k0
end CY
