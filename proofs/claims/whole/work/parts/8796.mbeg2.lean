/-! the reference begins a part of a sum: all ways -/
theorem rkM_1 {x : Nat} (h : ¬ 40 ≤ x) : 1 ≤ rkM x := by
  unfold rkM
  rw [if_neg h]
  repeat' split
  all_goals omega
theorem rkM_0 {x : Nat} (h : 40 ≤ x) : rkM x = 0 := by
  unfold rkM
  rw [if_pos h]
section MB2
variable {μ : Me} {b : Nat → Nat} {L n i law j : Nat} {S : List Nat} {C : Cd}
theorem opn_b : ∀ (S : List Nat), (∀ x, x ∈ S → x < 50) → opn S < 50
  | [], _ => by show 0 < 50; omega
  | x :: S, h => by
    by_cases c : 40 ≤ x
    · have e : opn (x :: S) = x := if_pos c
      rw [e]
      exact h x (List.mem_cons_self ..)
    · have e : opn (x :: S) = opn S := if_neg c
      rw [e]
      exact opn_b S (fun y hy => h y (List.mem_cons_of_mem _ hy))
theorem m_askAhead {Q : Int32 → Me → Prop} (hG : Gp μ) (hP : Pl μ S) (hl : S.length ≤ 100) (k0 : ¬ (opn S = 41 ∧ tpR S ≤ 3) → Q 0 μ) (k1 : (opn S = 41 ∧ tpR S ≤ 3) → Q 1 μ) : S_X11_isAskAhead 314 μ Q := by
  obtain ⟨o1, o2, o3, o4⟩ := md_ok hG
  have hb := opn_b S hP.2.1
  refine ⟨o1, m_openNow hG hP hl (fun h => ⟨fun _ => k0 (by omega), fun q => absurd q (by decide)⟩) (fun h => ?_)⟩
  have e41 : (nI (opn S) = 41) = (opn S = 41) := q_eq (b := 41) (by omega) (by omega)
  rw [e41]
  refine ⟨fun q => k0 (fun y => q y.1), fun q => ?_⟩
  cases S with
  | nil => exact absurd q (by decide)
  | cons x S1 =>
    have hx := hP.2.1 x (List.mem_cons_self ..)
    have hl : S1.length + 1 ≤ 100 := hl
    have h16 : mgi μ 314 16 = nI (S1.length + 1) := hP.1
    have htp : tpR (x :: S1) = rkM x := rfl
    have rk := rkM_7 x
    have v1 : vp_in (nI S1.length) (mln μ 319) := by
      rw [q_in (by omega) (by omega), o4]
      omega
    have e40 : (40 ≤ nI x) = (40 ≤ x) := q_le (a := 40) (by omega) (by omega)
    rw [h16, nI_dec, q_cl (by omega)]
    refine ⟨319, o2, o3, v1, ?_⟩
    rw [hP.2.2.1, e40]
    refine ⟨fun c => k1 ⟨q, by rw [htp, rkM_0 c]; omega⟩, fun c => ⟨319, o2, o3, v1, ?_⟩⟩
    rw [hP.2.2.1, e_rank (by omega)]
    have e1 : (nI (rkM x) < 1) = (rkM x < 1) := q_lt (b := 1) (by omega) (by omega)
    have e3 : (3 < nI (rkM x)) = (3 < rkM x) := q_lt (a := 3) (by omega) (by omega)
    have r1 := rkM_1 c
    unfold S_X11_isIn
    rw [e1, e3]
    exact ⟨fun z => by omega, fun _ => ⟨fun z => bb0 (k0 (by omega)), fun z => bb1 (k1 ⟨q, by omega⟩)⟩⟩
/-- which sign opens what -/
def opX (k : Nat) (S : List Nat) : Nat := if k = 34 then 40 else if k = 31 then 5 else if k = 17 then 2 else if k = 18 then 41 else if k = 25 ∧ opn S = 41 ∧ tpR S ≤ 3 then 20 else 0
theorem m_begin {Q : Int32 → Me → Prop} (hlaw : law < 2) (h : Mq μ b L n i law j 0 S C) (hl : S.length < 100)
    (kN : opX (kdT b L j) S = 0 → (pNm (kdT b L) (nmT b L) law j).1 = 0 → ∀ ν, Fg i μ ν → Mq ν b L n i law (j + 1) 1 (stl 7 S (C ++ (pNm (kdT b L) (nmT b L) law j).2.2.1)).1 (stl 7 S (C ++ (pNm (kdT b L) (nmT b L) law j).2.2.1)).2 → Q 0 ν)
    (kE : opX (kdT b L j) S = 0 → (pNm (kdT b L) (nmT b L) law j).1 ≠ 0 → Q (nI (pNm (kdT b L) (nmT b L) law j).1) μ)
    (k3 : opX (kdT b L j) S ≠ 0 → opc S = 8 → Q 3 μ)
    (kO : opX (kdT b L j) S ≠ 0 → opc S ≠ 8 → ∀ ν, Fg i μ ν → Mq ν b L n i law (j + 1) 0 (opX (kdT b L j) S :: S) C → Q 0 ν) : S_X11_beginOne 314 μ Q := by
  obtain ⟨hG, hT, hM, hr, h14, h18, hS, hc⟩ := id h
  have o1 : mok μ 314 11 := gp_ok hG (by decide) (by decide)
  have hv := tv_all (b := b) (L := L) (fun k hk => (hT.2.2 k hk).1) (tps b L j)
  have q : ∀ x, x < 1000 → (mgi μ 314 9 = nI x) = (tvM b L (tps b L j) = x) := fun x hx => by rw [hM.2.2.2.1, q_eq (by omega) (by omega)]
  have q1 : (mgi μ 314 9 = 1) = (kdT b L j = 50) := (q 1 (by omega)).trans (propext hv.2.1)
  have q40 : (mgi μ 314 9 = 40) = (kdT b L j = 34) := (q 40 (by omega)).trans (propext (hv.2.2.2.2.2.2.1 4 (by omega)))
  have q45 : (mgi μ 314 9 = 45) = (kdT b L j = 31) := (q 45 (by omega)).trans (propext (hv.2.2.2.2.2.2.1 1 (by omega)))
  have hkd : tkK b L (tps b L j) = kdT b L j := rfl
  -- number
  have num : kdT b L j = 50 → opX (kdT b L j) S = 0 ∧ (tps b L j < L ∧ isD (b (tps b L j)) = true) := by
    intro c
    refine ⟨by rw [c]; rfl, ?_⟩
    have c' : tkK b L (tps b L j) = 50 := c
    by_cases c1 : L ≤ tps b L j
    · unfold tkK at c'
      rw [if_pos c1] at c'
      omega
    · refine ⟨by omega, ?_⟩
      have hv1 := hv.2.1.2 c'
      unfold tvM at hv1
      rw [if_neg c1] at hv1
      by_cases c2 : isD (b (tps b L j)) = true
      · exact c2
      · exfalso
        rw [if_neg c2] at hv1
        have hb := (hT.2.2 (tps b L j) (by omega)).1
        split at hv1
        · omega
        · split at hv1
          · omega
          · split at hv1
            · omega
            · split at hv1
              · rename_i c
                rw [← sg_tab (b (tps b L j)) hb] at c
                omega
              · omega
  have q1f : kdT b L j ≠ 50 → ¬ mgi μ 314 9 = 1 := fun c y => c (q1.mp y)
  refine ⟨o1, fun c => ?_, fun c => ?_⟩
  · have ck : kdT b L j ≠ 50 := fun y => c (q1.mpr y)
    refine ⟨o1, m_nameOf hG hT hM (fun nn => ⟨fun _ => ?_, fun y => absurd (by decide) y⟩) (fun nn => ⟨fun y => absurd y (nI_n0 ?_), fun _ => ?_⟩)⟩
    · rw [hkd] at nn
      have eN : pNm (kdT b L) (nmT b L) law j = pF 1 j := by
        unfold pNm
        rw [if_neg ck, if_neg nn]
      rw [eN] at kE
      have bad : opX (kdT b L j) S = 0 → Q 1 μ := fun z => kE z (by show 1 ≠ 0; omega)
      have opens : ∀ x, x < 50 → isO x = 1 → x ≠ 0 → opX (kdT b L j) S = x → kdT b L j ≠ 51 → S_X11_opened 314 (nI x) μ (fun r ν => Q r ν) := by
        intro x hx ho hx0 he hk
        rw [he] at k3 kO
        exact m_opened h hk hl hx ho (k3 hx0) (kO hx0)
      refine ⟨o1, fun y => absurd y c, fun _ => ⟨fun _ => ?_, fun y => absurd (by decide) y⟩⟩
      rw [q40, q45]
      refine ⟨fun n40 => ⟨fun n45 => ?_, fun y => ?_⟩, fun y => ?_⟩
      · rw [ew_17, m_isWord hG hT hM (by decide) (by decide), hkd]
        by_cases c17 : kdT b L j = 17
        · rw [if_pos c17]
          exact bb1 (opens 2 (by omega) (by decide) (by omega) (by rw [c17]; rfl) (by omega))
        · rw [if_neg c17]
          refine bb0 ?_
          rw [ew_18, m_isWord hG hT hM (by decide) (by decide), hkd]
          by_cases c18 : kdT b L j = 18
          · rw [if_pos c18]
            exact bb1 (opens 41 (by omega) (by decide) (by omega) (by rw [c18]; rfl) (by omega))
          · rw [if_neg c18]
            refine bb0 ?_
            rw [ew_25, m_isWord hG hT hM (by decide) (by decide), hkd]
            by_cases c25 : kdT b L j = 25
            · rw [if_pos c25]
              refine bb1 (m_askAhead hG hS.1 (by omega) (fun z => bb0 (bad ?_)) (fun z => bb1 (opens 20 (by omega) (by decide) (by omega) ?_ (by omega))))
              · unfold opX
                rw [if_neg n40, if_neg n45, if_neg c17, if_neg c18, if_neg (fun w => z w.2)]
              · unfold opX
                rw [if_neg n40, if_neg n45, if_neg c17, if_neg c18, if_pos ⟨c25, z⟩]
            · rw [if_neg c25]
              refine bb0 (bad ?_)
              unfold opX
              rw [if_neg n40, if_neg n45, if_neg c17, if_neg c18, if_neg (fun w => c25 w.1)]
      · exact opens 5 (by omega) (by decide) (by omega) (by rw [y]; rfl) (by omega)
      · exact opens 40 (by omega) (by decide) (by omega) (by rw [y]; rfl) (by omega)
    · have := nmI_b (tkK b L (tps b L j))
      omega
    · rw [hkd] at nn ⊢
      have z : opX (kdT b L j) S = 0 := by
        unfold opX
        rw [if_neg (by omega), if_neg (by omega), if_neg (by omega), if_neg (by omega), if_neg (by omega)]
      have hnb := nmI_b (kdT b L j)
      have lo := nmI_l (kdT b L j) nn.2
      by_cases c3 : (kdT b L j = 13 ∧ law ≠ 0) ∨ ((kdT b L j = 14 ∨ kdT b L j = 15) ∧ law ≠ 1)
      · have eN : pNm (kdT b L) (nmT b L) law j = pF 5 j := by
          unfold pNm
          rw [if_neg ck, if_pos nn, if_pos c3]
        rw [eN] at kE
        refine m_isOf hG hlaw h14 hnb (fun _ => bn0 (kE z (by show 5 ≠ 0; omega))) (fun w => ?_)
        exfalso
        rcases c3 with ⟨d1, d2⟩ | ⟨d1, d2⟩
        · rw [d1] at w
          exact w.2 (by omega) rfl
        · rcases d1 with d1 | d1
          · rw [d1] at w
            exact (w.1 (by omega)).1 rfl
          · rw [d1] at w
            exact (w.1 (by omega)).2 rfl
      · have eN : pNm (kdT b L) (nmT b L) law j = (0, j + 1, [(1, nmI (kdT b L j))], fun _ => [(kdT b L j, 0)], fun e _ => (e (nmI (kdT b L j)) : Int)) := by
          unfold pNm
          rw [if_neg ck, if_pos nn, if_neg c3]
        rw [eN] at kN
        refine m_isOf hG hlaw h14 hnb (fun w => ?_) (fun w => bn1 ?_)
        · exfalso
          exact w ⟨fun y => by omega, fun y => by omega⟩
        · refine ⟨o1, fun y => absurd y c, fun _ => ⟨fun y => absurd y (nI_n0 (by omega)), fun _ => ⟨o1, fun _ => ⟨o1, fun _ => ?_, fun y => absurd y c⟩, fun y => absurd y c⟩⟩⟩
          exact m_put (o := 1) h (by omega) (kN z rfl)
  · have ck := q1.mp c
    obtain ⟨z, d1, d2⟩ := num ck
    obtain ⟨m, m1, m2, m3⟩ := hM.2.2.2.2.1 d1 d2
    have hN : nmT b L j = if m < 10000 then m else 10000 := m3.symm
    have e10 : (mgi μ 314 10 ≤ 9999) = (m ≤ 9999) := by
      rw [m1]
      exact q_le (b := 9999) (by omega) (by omega)
    rw [e10]
    refine ⟨fun y => ?_, fun y => ?_⟩
    · have hm : nmT b L j = m := by
        rw [hN, if_pos (by omega)]
      have eN : pNm (kdT b L) (nmT b L) law j = (0, j + 1, [(0, nmT b L j)], fun _ => [(50, nmT b L j)], fun _ _ => (nmT b L j : Int)) := by
        unfold pNm
        rw [if_pos ck, if_pos (by omega)]
      rw [eN, hm] at kN
      refine ⟨o1, m_nameOf hG hT hM (fun nn => ⟨fun _ => ?_, fun y => absurd (by decide) y⟩) (fun nn => by rw [hkd] at nn; omega)⟩
      refine ⟨o1, fun _ => ⟨o1, fun y => absurd c y, fun _ => ⟨o1, fun y => absurd c y, fun _ => ?_⟩⟩, fun y => absurd c y⟩
      rw [m1]
      exact m_put (o := 0) h (by omega) (kN z rfl)
    · have eN : pNm (kdT b L) (nmT b L) law j = pF 2 j := by
        unfold pNm
        rw [if_pos ck, if_neg]
        rw [hN]
        split <;> omega
      rw [eN] at kE
      exact kE z (by show 2 ≠ 0; omega)
end MB2
