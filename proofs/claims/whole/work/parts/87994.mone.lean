/-! the reference reads a sum: comparisons, parts, all -/
theorem rkM_c {x : Nat} (h1 : 10 ≤ x) (h2 : x < 16) : rkM x = 4 := by
  unfold rkM
  rw [if_neg (by omega), if_neg (by omega), if_neg (by omega), if_neg (by omega), if_pos h1]
theorem cmpd_3 {S : List Nat} (h : tpR S ≤ 3) : cmpd S = false := by
  cases S with
  | nil => rfl
  | cons x S =>
    have h : rkM x ≤ 3 := h
    have e : cmpd (x :: S) = decide (rkM x = 4) := if_pos (by omega)
    rw [e]
    exact decide_eq_false (by omega)
section MA
variable {μ : Me} {b : Nat → Nat} {L n i law : Nat} {Q : Int32 → Me → Prop}
theorem mf_q {j fl : Nat} {S : List Nat} {C : Cd} (h : Mq μ b L n i law j fl S C) : Mf μ b L j := ⟨h.1, h.2.2.1.2.1⟩
theorem m_ask {d o j : Nat} {S : List Nat} {C : Cd} {r : Rs} (hr : r = pAsk (kdT b L) (pR (kdT b L) (nmT b L) law d) o j) (hlaw : law < 2) (ih : Mg b L n i law Q d) (ho : o ≤ 8) (hd : 3 + 7 * (8 - o) ≤ d) (hP : PrM (kdT b L) 6 o j S) (h : Mq μ b L n i law j 0 S C)
    (k1 : r.1 = 0 → ∀ ν X D, Fg i μ ν → Mq ν b L n i law r.2.1 1 X D → stl 3 X D = stl 3 S (C ++ r.2.2.1) → cmpd X = true → X.length ≤ 53 → WS Q (n + 1 - r.2.1) ν)
    (k0 : r.1 ≠ 0 → ∀ ν, Fg i μ ν → Mf ν b L r.2.1 → Q (nI r.1) ν) : WS Q (n + 1 - j) μ := by
  obtain ⟨p1, p2, p3, p4, p5, p6, p7, p8, p9⟩ := hP
  have p5 := p5 (by omega)
  have p6 := p6 rfl
  have p2 : S.length ≤ 6 * o + 2 := p2
  have hn := h.2.2.2.1.2.2.2
  have h3 := h.2.2.2.1.2.2.1
  have hjn := h.2.2.2.1.1
  unfold pAsk at hr
  by_cases c1 : kdT b L j = 25
  · rw [if_pos c1] at hr
    have hx : opX (kdT b L j) S = 20 := by
      unfold opX
      rw [if_neg (by omega), if_neg (by omega), if_neg (by omega), if_neg (by omega), if_pos ⟨c1, p5, p6⟩]
    have hx0 : opX (kdT b L j) S ≠ 0 := by omega
    refine ws_beg hlaw h (by omega) (fun z => absurd z hx0) (fun z => absurd z hx0) (fun _ z => ?_) (fun _ z ν f1 f2 => ?_)
    · rw [if_neg (by omega)] at hr
      subst hr
      exact k0 (by show 3 ≠ 0; omega) μ (fg_rf i μ) (mf_q h)
    · have hjl : j < n := mq_lt h (by omega)
      rw [if_pos (by omega)] at hr
      rw [hx] at f2
      rw [show n - j = n + 1 - (j + 1) by omega]
      subst hr
      refine ih 6 (o + 1) (j + 1) (20 :: S) C ν (by omega) (by omega) (by omega) (by show 4 + 7 * (8 - (o + 1)) ≤ d; omega) ?_ f2 (fun y ν2 X D g1 g2 g3 g4 g5 _ => ?_) (fun y ν2 g1 g2 => k0 y ν2 (fg_tr f1 g1) g2)
      · exact ⟨by show 1 + opc S = o + 1; omega, by show S.length + 1 ≤ 6 * (o + 1) + 2; omega, fun h => by omega, fun h => by omega, fun _ => p5, fun _ => by show rkM 20 ≤ 3; decide, fun h => by omega, fun h => by omega, fun h => by omega⟩
      · refine k1 y ν2 X D (fg_tr f1 g1) g2 ?_ (g4 (by omega)) g5
        have g3 : stl 3 X D = stl 3 (20 :: S) (C ++ (pR (kdT b L) (nmT b L) law d 6 (o + 1) (j + 1)).2.2.1) := g3
        rw [g3, stl_c (by decide), List.append_assoc]
        rfl
  · rw [if_neg c1] at hr
    have hpk := pk_R (nm := nmT b L) (law := law) hn h3 d 0 o j (by omega) ho hjn hd
    refine ih 0 o j S C μ (by omega) (by omega) ho hd ⟨p1, by show S.length ≤ 6 * o + 3; omega, fun h => by omega, fun _ => by omega, fun h => by omega, fun h => by omega, fun h => by omega, fun h => by omega, fun _ _ _ => c1⟩ h (fun y ν X D f1 f2 f3 _ f5 _ => ?_) (fun y ν f1 f2 => ?_)
    · generalize pR (kdT b L) (nmT b L) law d 0 o j = a at hr hpk y f2 f3
      rw [if_pos y] at hr
      have nx := (hpk.2.1 y).1 rfl
      have f3 : stl 5 X D = stl 5 S (C ++ a.2.2.1) := f3
      rw [stl_0 (S := S) (show tpR S < 5 by omega)] at f3
      have oX : opn X = 41 := by
        have := opn_s (r := 5) (by omega) X D
        rw [f3] at this
        rw [← this]
        exact p5
      have cX : cmpd X = false := by
        have := cmpd_s (r := 5) (by omega) X D
        rw [f3] at this
        rw [← this]
        exact cmpd_3 p6
      have cX' : ¬ cmpd X = true := by rw [cX]; decide
      by_cases c6 : 37 ≤ kdT b L a.2.1 ∧ kdT b L a.2.1 ≤ 42
      · rw [if_pos c6] at hr
        obtain ⟨q1, q2, q3, -⟩ := opM_c c6.1 (show kdT b L a.2.1 < 43 by omega)
        have hw : bwM (kdT b L a.2.1) X = cmI (kdT b L a.2.1) := by
          unfold bwM
          rw [if_neg nx, if_pos oX, if_neg cX', if_pos c6]
        have r4 := rkM_c q2 q3
        have hl : a.2.1 < n := mq_lt f2 (by omega)
        refine ws_beh f2 (by omega) (fun z ν2 g1 g2 => ?_) (fun z => by omega) (fun z => by omega) (fun z => by omega) (fun z => by omega)
        have r5 : rqM (cmI (kdT b L a.2.1)) = 5 := if_pos r4
        rw [hw, r5, f3] at g2
        rw [show n - a.2.1 = n + 1 - (a.2.1 + 1) by omega]
        refine ih 0 o (a.2.1 + 1) (cmI (kdT b L a.2.1) :: S) (C ++ a.2.2.1) ν2 (by omega) (by omega) ho hd ?_ g2 (fun y2 ν3 X2 D2 e1 e2 e3 _ e5 _ => ?_) (fun y2 ν3 e1 e2 => ?_)
        · have o1 : isO (cmI (kdT b L a.2.1)) = 0 := if_neg (by omega)
          exact ⟨by show isO (cmI (kdT b L a.2.1)) + opc S = o; omega, by show S.length + 1 ≤ 6 * o + 3; omega, fun h => by omega, fun _ => by show rkM _ < 5; omega, fun h => by omega, fun h => by omega, fun h => by omega, fun h => by omega, fun _ _ h => by have h : rkM (cmI (kdT b L a.2.1)) ≤ 3 := h; omega⟩
        · subst hr
          have e3 : stl 5 X2 D2 = stl 5 (cmI (kdT b L a.2.1) :: S) (C ++ a.2.2.1 ++ (pR (kdT b L) (nmT b L) law d 0 o (a.2.1 + 1)).2.2.1) := e3
          rw [stl_0 (S := cmI (kdT b L a.2.1) :: S) (show rkM (cmI (kdT b L a.2.1)) < 5 by omega)] at e3
          refine k1 y2 ν3 X2 D2 (fg_tr f1 (fg_tr g1 e1)) e2 ?_ ?_ e5
          · have e6 := stl_stl (show 3 ≤ 5 by omega) X2 D2
            rw [e3, stl_c (by omega)] at e6
            rw [← e6]
            show stl 3 S _ = stl 3 S (C ++ (a.2.2.1 ++ (pR (kdT b L) (nmT b L) law d 0 o (a.2.1 + 1)).2.2.1 ++ [(opM (kdT b L a.2.1), 0)]))
            rw [q1]
            simp only [List.append_assoc]
          · have e6 := cmpd_s (r := 5) (by omega) X2 D2
            rw [e3] at e6
            rw [← e6]
            have e7 : cmpd (cmI (kdT b L a.2.1) :: S) = decide (rkM (cmI (kdT b L a.2.1)) = 4) := if_pos (by omega)
            exact e7.trans (decide_eq_true r4)
        · subst hr
          exact k0 y2 ν3 (fg_tr f1 (fg_tr g1 e1)) e2
      · rw [if_neg c6] at hr
        have hw : bwM (kdT b L a.2.1) X = 0 := by
          unfold bwM
          rw [if_neg nx, if_pos oX, if_neg cX', if_neg c6]
        have hp : paM (kdT b L a.2.1) X = 0 := by
          unfold paM
          rw [if_neg (by omega), if_pos oX, if_neg (fun z => cX' z.2)]
        subst hr
        exact ws_beh f2 (by omega) (fun z => absurd hw z) (fun _ _ _ => k0 (by show 1 ≠ 0; omega) ν f1 (mf_q f2)) (fun _ z => by omega) (fun _ z => by omega) (fun _ z => by omega)
    · rw [if_neg y] at hr
      subst hr
      exact k0 y ν f1 f2
/-- a sum within what is open -/
theorem m_in {d o j x : Nat} {S : List Nat} {C : Cd} {r : Rs} (hr : r = pR (kdT b L) (nmT b L) law d 0 o j) (ih : Mg b L n i law Q d) (ho : o ≤ 8) (hd : 3 + 7 * (8 - o) ≤ d) (hx : 40 ≤ x ∧ x ≠ 41) (hS : opc S + 1 = o) (hl : S.length ≤ 6 * o) (h : Mq μ b L n i law j 0 (x :: S) C)
    (k1 : r.1 = 0 → ∀ ν X D, Fg i μ ν → Mq ν b L n i law r.2.1 1 X D → stl 1 X D = (x :: S, C ++ r.2.2.1) → opn X = x → bwM (kdT b L r.2.1) X = 0 → X.length ≤ 53 → WS Q (n + 1 - r.2.1) ν)
    (k0 : r.1 ≠ 0 → ∀ ν, Fg i μ ν → Mf ν b L r.2.1 → Q (nI r.1) ν) : WS Q (n + 1 - j) μ := by
  subst hr
  have hn := h.2.2.2.1.2.2.2
  have h3 := h.2.2.2.1.2.2.1
  have hjn := h.2.2.2.1.1
  have ix : isO x = 1 := if_pos (Or.inl hx.1)
  have rx := rkM_0 hx.1
  have ox : opn (x :: S) = x := if_pos hx.1
  have hpk := pk_R (nm := nmT b L) (law := law) hn h3 d 0 o j (by omega) ho hjn hd
  refine ih 0 o j (x :: S) C μ (by omega) (by omega) ho hd ⟨by show isO x + opc S = o; omega, by show S.length + 1 ≤ 6 * o + 3; omega, fun h => by omega, fun _ => by show rkM x < 5; omega, fun h => by omega, fun h => by omega, fun h => by omega, fun h => by omega, fun _ z => by omega⟩ h (fun y ν X D f1 f2 f3 _ f5 _ => ?_) k0
  have f3 : stl 5 X D = stl 5 (x :: S) (C ++ (pR (kdT b L) (nmT b L) law d 0 o j).2.2.1) := f3
  rw [stl_0 (S := x :: S) (show rkM x < 5 by omega)] at f3
  have e1 := stl_stl (show 1 ≤ 5 by omega) X D
  rw [f3, stl_0 (S := x :: S) (show rkM x < 1 by omega)] at e1
  have oX : opn X = x := by
    have := opn_s (r := 5) (by omega) X D
    rw [f3] at this
    rw [← this]
    exact ox
  refine k1 y ν X D f1 f2 e1.symm oX ?_ f5
  unfold bwM
  rw [if_neg ((hpk.2.1 y).1 rfl), if_neg (by omega)]
theorem m_one {d o j : Nat} {S : List Nat} {C : Cd} {r : Rs} (hr : r = pOne (kdT b L) (nmT b L) law (pR (kdT b L) (nmT b L) law d) o j) (hlaw : law < 2) (ih : Mg b L n i law Q d) (ih2 : ∀ e, d = e + 1 → Mg b L n i law Q e) (ho : o ≤ 8) (hd : 7 * (8 - o) ≤ d) (hP : PrM (kdT b L) 2 o j S) (h : Mq μ b L n i law j 0 S C)
    (k1 : r.1 = 0 → ∀ ν X D, Fg i μ ν → Mq ν b L n i law r.2.1 1 X D → (X, D) = stl 7 S (C ++ r.2.2.1) → WS Q (n + 1 - r.2.1) ν)
    (k0 : r.1 ≠ 0 → ∀ ν, Fg i μ ν → Mf ν b L r.2.1 → Q (nI r.1) ν) : WS Q (n + 1 - j) μ := by
  obtain ⟨p1, p2, -, -, -, -, -, -, p9⟩ := hP
  have p9 := p9 (by omega)
  have p2 : S.length ≤ 6 * o + 5 := p2
  have hn := h.2.2.2.1.2.2.2
  have h3 := h.2.2.2.1.2.2.1
  have hjn := h.2.2.2.1.1
  unfold pOne at hr
  by_cases c1 : kdT b L j = 17 ∨ kdT b L j = 31
  · rw [if_pos c1] at hr
    have hx : opX (kdT b L j) S = uoM (kdT b L j) ∧ (uoM (kdT b L j) = 2 ∨ uoM (kdT b L j) = 5) := by
      rcases c1 with c1 | c1 <;> rw [c1]
      · exact ⟨rfl, Or.inl rfl⟩
      · exact ⟨rfl, Or.inr rfl⟩
    obtain ⟨hx, hu⟩ := hx
    have hx0 : opX (kdT b L j) S ≠ 0 := by omega
    refine ws_beg hlaw h (by omega) (fun z => absurd z hx0) (fun z => absurd z hx0) (fun _ z => ?_) (fun _ z ν f1 f2 => ?_)
    · rw [if_neg (by omega)] at hr
      subst hr
      exact k0 (by show 3 ≠ 0; omega) μ (fg_rf i μ) (mf_q h)
    · have hjl : j < n := mq_lt h (by omega)
      rw [if_pos (by omega)] at hr
      rw [hx] at f2
      rw [show n - j = n + 1 - (j + 1) by omega]
      subst hr
      have q : isO (uoM (kdT b L j)) = 1 ∧ rkM (uoM (kdT b L j)) = 7 := by
        rcases hu with hu | hu <;> rw [hu] <;> decide
      refine ih 2 (o + 1) (j + 1) (uoM (kdT b L j) :: S) C ν (by omega) (by omega) (by omega) (by show 1 + 7 * (8 - (o + 1)) ≤ d; omega) ?_ f2 (fun y ν2 X D g1 g2 _ _ _ g6 => ?_) (fun y ν2 g1 g2 => k0 y ν2 (fg_tr f1 g1) g2)
      · exact ⟨by show isO (uoM (kdT b L j)) + opc S = o + 1; omega, by show S.length + 1 ≤ 6 * (o + 1) + 5; omega, fun h => by omega, fun h => by omega, fun h => by omega, fun h => by omega, fun h => by omega, fun h => by omega, fun _ _ h => by have h : rkM (uoM (kdT b L j)) ≤ 3 := h; omega⟩
      · refine k1 y ν2 X D (fg_tr f1 g1) g2 ?_
        rw [g6 rfl, stl_c (by omega), List.append_assoc]
        rfl
  · rw [if_neg c1] at hr
    by_cases c2 : kdT b L j = 18
    · rw [if_pos c2] at hr
      have hx : opX (kdT b L j) S = 41 := by rw [c2]; rfl
      have hx0 : opX (kdT b L j) S ≠ 0 := by omega
      refine ws_beg hlaw h (by omega) (fun z => absurd z hx0) (fun z => absurd z hx0) (fun _ z => ?_) (fun _ z ν f1 f2 => ?_)
      · rw [if_neg (by omega)] at hr
        subst hr
        exact k0 (by show 3 ≠ 0; omega) μ (fg_rf i μ) (mf_q h)
      · have hjl : j < n := mq_lt h (by omega)
        rw [if_pos (by omega)] at hr
        rw [hx] at f2
        rw [show n - j = n + 1 - (j + 1) by omega]
        obtain ⟨e, rfl⟩ : ∃ e, d = e + 1 := ⟨d - 1, by omega⟩
        have hr : r = pCh (kdT b L) (pR (kdT b L) (nmT b L) law e) (o + 1) (j + 1) := hr
        unfold pCh at hr
        have hd2 : 6 + 7 * (8 - (o + 1)) ≤ e := by omega
        have hd3 : 3 + 7 * (8 - (o + 1)) ≤ e := by omega
        have hpa := pk_R (nm := nmT b L) (law := law) hn h3 e 4 (o + 1) (j + 1) (by omega) (by omega) hjl hd2
        refine (ih2 e rfl) 4 (o + 1) (j + 1) (41 :: S) C ν (by omega) (by omega) (by omega) hd2 ⟨by show 1 + opc S = o + 1; omega, by show S.length + 1 ≤ 6 * (o + 1) + 0; omega, fun h => by omega, fun h => by omega, fun _ => rfl, fun h => by omega, fun h => by omega, fun _ => by show rkM 41 < 1; decide, fun h => by omega⟩ f2 (fun y ν2 X D g1 g2 g3 g4 g5 _ => ?_) (fun y ν2 g1 g2 => ?_)
        rotate_left
        · rw [pAcc_f y] at hr
          subst hr
          exact k0 y ν2 (fg_tr f1 g1) g2
        generalize pR (kdT b L) (nmT b L) law e 4 (o + 1) (j + 1) = a at hr hpa y g2 g3
        have g3 : stl 1 X D = (41 :: S, C ++ a.2.2.1) := g3.trans (stl_0 (show rkM 41 < 1 by decide))
        have g4 := g4 (by omega)
        have oX : opn X = 41 := by
          have := opn_s (r := 1) (by omega) X D
          rw [g3] at this
          exact this.symm
        have nx := hpa.2.1 y
        have hw : bwM (kdT b L a.2.1) X = 0 := by
          have n1 := nx.2.2.1 (by omega)
          have n2 := nx.2.2.2.1 (by omega) (by omega)
          have n3 := nx.2.2.2.2 rfl
          unfold bwM
          rw [if_neg n1, if_pos oX, if_pos g4, if_neg (by omega)]
        by_cases c19 : kdT b L a.2.1 = 19
        rotate_left
        · rw [pAcc_n y c19] at hr
          have hp : paM (kdT b L a.2.1) X = 0 := by
            unfold paM
            rw [if_neg (by omega), if_pos oX, if_neg (fun z => c19 z.1)]
          subst hr
          exact ws_beh g2 (by omega) (fun z => absurd hw z) (fun _ _ _ => k0 (by show 1 ≠ 0; omega) ν2 (fg_tr f1 g1) (mf_q g2)) (fun _ z => by omega) (fun _ z => by omega) (fun _ z => by omega)
        rw [pAcc_y y c19] at hr
        have hp : paM (kdT b L a.2.1) X = 42 := by
          unfold paM
          rw [if_neg (by omega), if_pos oX, if_pos ⟨c19, g4⟩]
        have hal : a.2.1 < n := mq_lt g2 (by omega)
        refine ws_beh g2 (by omega) (fun z => absurd hw z) (fun _ z => by omega) (fun _ z => by omega) (fun _ _ Y hY ν3 e1 e2 => ?_) (fun _ z => by omega)
        rw [hp, g3] at e2
        rw [g3] at hY
        have hY : S = Y := (List.cons.inj hY).2
        subst hY
        rw [show n - a.2.1 = n + 1 - (a.2.1 + 1) by omega]
        refine m_in (x := 42) (S := S) rfl (ih2 e rfl) (by omega) hd3 (by omega) (by omega) (by omega) e2 (fun y3 ν4 X2 D2 i1 i2 i3 i4 i5 i6 => ?_) (fun y3 ν4 i1 i2 => ?_)
        rotate_left
        · rw [pAcc_f y3] at hr
          subst hr
          exact k0 y3 ν4 (fg_tr f1 (fg_tr g1 (fg_tr e1 i1))) i2
        generalize pR (kdT b L) (nmT b L) law e 0 (o + 1) (a.2.1 + 1) = a2 at hr y3 i2 i3 i5
        have fr4 := fg_tr f1 (fg_tr g1 (fg_tr e1 i1))
        by_cases c20 : kdT b L a2.2.1 = 20
        rotate_left
        · rw [pAcc_n y3 c20] at hr
          have hp : paM (kdT b L a2.2.1) X2 = 0 := by
            unfold paM
            rw [if_neg (by omega), if_neg (by omega), if_pos i4, if_neg c20]
          subst hr
          exact ws_beh i2 (by omega) (fun z => absurd i5 z) (fun _ _ _ => k0 (by show 1 ≠ 0; omega) ν4 fr4 (mf_q i2)) (fun _ z => by omega) (fun _ z => by omega) (fun _ z => by omega)
        rw [pAcc_y y3 c20] at hr
        have hp2 : paM (kdT b L a2.2.1) X2 = 43 := by
          unfold paM
          rw [if_neg (by omega), if_neg (by omega), if_pos i4, if_pos c20]
        have hbl : a2.2.1 < n := mq_lt i2 (by omega)
        refine ws_beh i2 (by omega) (fun z => absurd i5 z) (fun _ z => by omega) (fun _ z => by omega) (fun _ _ Y hY ν5 e3 e4 => ?_) (fun _ z => by omega)
        rw [hp2, i3] at e4
        rw [i3] at hY
        have hY : S = Y := (List.cons.inj hY).2
        subst hY
        rw [show n - a2.2.1 = n + 1 - (a2.2.1 + 1) by omega]
        refine m_in (x := 43) (S := S) rfl (ih2 e rfl) (by omega) hd3 (by omega) (by omega) (by omega) e4 (fun y5 ν6 X3 D3 t1 t2 t3 t4 t5 t6 => ?_) (fun y5 ν6 t1 t2 => ?_)
        rotate_left
        · rw [pAcc_f y5] at hr
          subst hr
          exact k0 y5 ν6 (fg_tr fr4 (fg_tr e3 t1)) t2
        generalize pR (kdT b L) (nmT b L) law e 0 (o + 1) (a2.2.1 + 1) = a3 at hr y5 t2 t3 t5
        have fr6 := fg_tr fr4 (fg_tr e3 t1)
        by_cases c21 : kdT b L a3.2.1 = 21
        rotate_left
        · rw [pAcc_n y5 c21] at hr
          have hp : paM (kdT b L a3.2.1) X3 = 0 := by
            unfold paM
            rw [if_neg (by omega), if_neg (by omega), if_neg (by omega), if_pos t4, if_neg c21]
          subst hr
          exact ws_beh t2 (by omega) (fun z => absurd t5 z) (fun _ _ _ => k0 (by show 1 ≠ 0; omega) ν6 fr6 (mf_q t2)) (fun _ z => by omega) (fun _ z => by omega) (fun _ z => by omega)
        rw [pAcc_y y5 c21] at hr
        have hp3 : paM (kdT b L a3.2.1) X3 = 1 := by
          unfold paM
          rw [if_neg (by omega), if_neg (by omega), if_neg (by omega), if_pos t4, if_pos c21]
        have hcl : a3.2.1 < n := mq_lt t2 (by omega)
        refine ws_beh t2 (by omega) (fun z => absurd t5 z) (fun _ z => by omega) (fun _ z => by omega) (fun _ z => by omega) (fun _ _ Y hY ν7 e5 e6 => ?_)
        rw [t4, t3] at e6
        rw [t3] at hY
        have hY : S = Y := (List.cons.inj hY).2
        subst hY
        subst hr
        rw [show n - a3.2.1 = n + 1 - (a3.2.1 + 1) by omega]
        refine k1 rfl ν7 _ _ (fg_tr fr6 e5) e6 ?_
        show _ = stl 7 S (C ++ (a.2.2.1 ++ a2.2.2.1 ++ a3.2.2.1 ++ [(3, 0)]))
        show stl 7 S (C ++ a.2.2.1 ++ a2.2.2.1 ++ a3.2.2.1 ++ [(3, 0)]) = _
        simp only [List.append_assoc]
    · rw [if_neg c2] at hr
      by_cases c3 : kdT b L j = 34
      · rw [if_pos c3] at hr
        have hx : opX (kdT b L j) S = 40 := by rw [c3]; rfl
        have hx0 : opX (kdT b L j) S ≠ 0 := by omega
        refine ws_beg hlaw h (by omega) (fun z => absurd z hx0) (fun z => absurd z hx0) (fun _ z => ?_) (fun _ z ν f1 f2 => ?_)
        · rw [if_neg (by omega)] at hr
          subst hr
          exact k0 (by show 3 ≠ 0; omega) μ (fg_rf i μ) (mf_q h)
        · have hjl : j < n := mq_lt h (by omega)
          rw [if_pos (by omega)] at hr
          rw [hx] at f2
          rw [show n - j = n + 1 - (j + 1) by omega]
          refine m_in (o := o + 1) (j := j + 1) (x := 40) (S := S) rfl ih (by omega) (by omega) (by omega) (by omega) (by omega) f2 (fun y ν2 X D g1 g2 g3 g4 g5 g6 => ?_) (fun y ν2 g1 g2 => ?_)
          rotate_left
          · rw [if_neg y] at hr
            subst hr
            exact k0 y ν2 (fg_tr f1 g1) g2
          generalize pR (kdT b L) (nmT b L) law d 0 (o + 1) (j + 1) = a at hr y g2 g3 g5
          rw [if_pos y] at hr
          by_cases c35 : kdT b L a.2.1 = 35
          rotate_left
          · rw [if_neg c35] at hr
            have hp : paM (kdT b L a.2.1) X = 0 := by
              unfold paM
              rw [if_pos g4, if_neg c35]
            subst hr
            exact ws_beh g2 (by omega) (fun z => absurd g5 z) (fun _ _ _ => k0 (by show 1 ≠ 0; omega) ν2 (fg_tr f1 g1) (mf_q g2)) (fun _ z => by omega) (fun _ z => by omega) (fun _ z => by omega)
          rw [if_pos c35] at hr
          have hp : paM (kdT b L a.2.1) X = 1 := by
            unfold paM
            rw [if_pos g4, if_pos c35]
          have hcl : a.2.1 < n := mq_lt g2 (by omega)
          refine ws_beh g2 (by omega) (fun z => absurd g5 z) (fun _ z => by omega) (fun _ z => by omega) (fun _ z => by omega) (fun _ _ Y hY ν3 e5 e6 => ?_)
          rw [g4, g3] at e6
          rw [g3] at hY
          have hY : S = Y := (List.cons.inj hY).2
          subst hY
          subst hr
          rw [show n - a.2.1 = n + 1 - (a.2.1 + 1) by omega]
          refine k1 rfl ν3 _ _ (fg_tr f1 (fg_tr g1 e5)) e6 ?_
          show stl 7 S (C ++ a.2.2.1 ++ []) = stl 7 S (C ++ a.2.2.1)
          rw [List.append_nil]
      · rw [if_neg c3] at hr
        have hx : opX (kdT b L j) S = 0 := by
          unfold opX
          rw [if_neg c3, if_neg (by omega), if_neg (by omega), if_neg c2, if_neg (fun z => p9 z.2.1 z.2.2 z.1)]
        subst hr
        refine ws_beg hlaw h (by omega) (fun _ z ν f1 f2 => ?_) (fun _ z => ?_) (fun z => absurd hx z) (fun z => absurd hx z)
        · have e : (pNm (kdT b L) (nmT b L) law j).2.1 = j + 1 := by
            revert z
            unfold pNm pF
            repeat' split
            all_goals (intro z; first | rfl | cases z)
          rw [e] at k1
          rw [show n - j = n + 1 - (j + 1) by have := f2.2.2.2.1.1; omega]
          exact k1 z ν _ _ f1 f2 rfl
        · have e : (pNm (kdT b L) (nmT b L) law j).2.1 = j := by
            revert z
            unfold pNm pF
            repeat' split
            all_goals (intro z; first | rfl | exact absurd rfl z)
          rw [e] at k0
          exact k0 z μ (fg_rf i μ) (mf_q h)
theorem m_all (hlaw : law < 2) : ∀ d, Mg b L n i law Q d ∧ Mg b L n i law Q (d + 1) := by
  have step : ∀ d, Mg b L n i law Q d → (∀ e, d = e + 1 → Mg b L n i law Q e) → Mg b L n i law Q (d + 1) := by
    intro d ih ih2 md o j S C μ hm h3 ho hd hP h k1 k0
    have hmd : md = 0 ∨ md = 1 ∨ md = 2 ∨ md = 4 ∨ md = 5 ∨ md = 6 := by omega
    rcases hmd with rfl | rfl | rfl | rfl | rfl | rfl
    · have hd : 3 + 7 * (8 - o) ≤ d + 1 := hd
      exact m_loop (Or.inl ⟨rfl, rfl, rfl⟩) ih ho (by show 2 + 7 * (8 - o) ≤ d; omega) hP h (fun y ν X D f1 f2 f3 f4 f5 => k1 y ν X D f1 f2 f3 f4 f5 (fun z => by omega)) k0
    · have hd : 2 + 7 * (8 - o) ≤ d + 1 := hd
      exact m_loop (Or.inr (Or.inl ⟨rfl, rfl, rfl⟩)) ih ho (by show 1 + 7 * (8 - o) ≤ d; omega) hP h (fun y ν X D f1 f2 f3 f4 f5 => k1 y ν X D f1 f2 f3 f4 f5 (fun z => by omega)) k0
    · have hd : 1 + 7 * (8 - o) ≤ d + 1 := hd
      have hl := hP.2.1
      have hl : S.length ≤ 6 * o + 5 := hl
      have fin : ∀ ν X D, Fg i μ ν → Mq ν b L n i law (pR (kdT b L) (nmT b L) law (d + 1) 2 o j).2.1 1 X D → (X, D) = stl 7 S (C ++ (pR (kdT b L) (nmT b L) law (d + 1) 2 o j).2.2.1) → (pR (kdT b L) (nmT b L) law (d + 1) 2 o j).1 = 0 → WS Q (n + 1 - (pR (kdT b L) (nmT b L) law (d + 1) 2 o j).2.1) ν := by
        intro ν X D f1 f2 f3 y
        refine k1 y ν X D f1 f2 ?_ (fun z => by omega) ?_ (fun _ => f3)
        · show stl 7 X D = stl 7 S _
          have := stl_stl (Nat.le_refl 7) S (C ++ (pR (kdT b L) (nmT b L) law (d + 1) 2 o j).2.2.1)
          rw [← f3] at this
          exact this.trans f3
        · have := (stl_len 7 S (C ++ (pR (kdT b L) (nmT b L) law (d + 1) 2 o j).2.2.1)).1
          rw [← f3] at this
          have this : X.length ≤ S.length := this
          omega
      exact m_one rfl hlaw ih ih2 ho (by omega) hP h (fun y ν X D f1 f2 f3 => fin ν X D f1 f2 f3 y) k0
    · have hd : 6 + 7 * (8 - o) ≤ d + 1 := hd
      exact m_loop (Or.inr (Or.inr (Or.inl ⟨rfl, rfl, rfl⟩))) ih ho (by show 5 + 7 * (8 - o) ≤ d; omega) hP h (fun y ν X D f1 f2 f3 f4 f5 => k1 y ν X D f1 f2 f3 f4 f5 (fun z => by omega)) k0
    · have hd : 5 + 7 * (8 - o) ≤ d + 1 := hd
      exact m_loop (Or.inr (Or.inr (Or.inr ⟨rfl, rfl, rfl⟩))) ih ho (by show 4 + 7 * (8 - o) ≤ d; omega) hP h (fun y ν X D f1 f2 f3 f4 f5 => k1 y ν X D f1 f2 f3 f4 f5 (fun z => by omega)) k0
    · have hd : 4 + 7 * (8 - o) ≤ d + 1 := hd
      exact m_ask rfl hlaw ih ho (by omega) hP h (fun y ν X D f1 f2 f3 f4 f5 => k1 y ν X D f1 f2 f3 (fun _ => f4) f5 (fun z => by omega)) k0
  have zero : Mg b L n i law Q 0 := by
    intro md o j S C μ hm h3 ho hd
    exfalso
    unfold ndF at hd
    repeat' split at hd
    all_goals omega
  intro d
  induction d with
  | zero => exact ⟨zero, step 0 zero (fun e h => by omega)⟩
  | succ d ihd => exact ⟨ihd.2, step (d + 1) ihd.2 (fun e h => Nat.succ.inj h ▸ ihd.1)⟩
end MA
