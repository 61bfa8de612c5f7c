/-! the reference behind a part of a sum: signs between, parts of what is open -/
def bwM (k : Nat) (S : List Nat) : Nat := if 30 ≤ k ∧ k < 34 then k - 24 else if opn S = 41 then (if cmpd S = true then (if 22 ≤ k ∧ k < 25 then opM k else 0) else if 37 ≤ k ∧ k ≤ 42 then cmI k else 0) else 0
/-- 0 no part, 1 the end, else what is open then -/
def paM (k : Nat) (S : List Nat) : Nat := if opn S = 40 then (if k = 35 then 1 else 0) else if opn S = 41 then (if k = 19 ∧ cmpd S = true then 42 else 0) else if opn S = 42 then (if k = 20 then 43 else 0) else if opn S = 43 then (if k = 21 then 1 else 0) else 0
section MH
variable {μ : Me} {b : Nat → Nat} {L n i law j : Nat} {S : List Nat} {C : Cd}
theorem m_between {Q : Int32 → Me → Prop} {fl : Nat} (h : Mq μ b L n i law j fl S C) (k0 : bwM (kdT b L j) S = 0 → Q (-1) μ) (k1 : bwM (kdT b L j) S ≠ 0 → Q (nI (bwM (kdT b L j) S)) μ) : S_X11_betweenOf 314 μ Q := by
  obtain ⟨hG, hT, hM, hr, h14, h18, hS, hc⟩ := id h
  have o1 : mok μ 314 11 := gp_ok hG (by decide) (by decide)
  have hv := tv_all (b := b) (L := L) (fun k hk => (hT.2.2 k hk).1) (tps b L j)
  have q : ∀ x, x < 1000 → (mgi μ 314 9 = nI x) = (tvM b L (tps b L j) = x) := fun x hx => by rw [hM.2.2.2.1, q_eq (by omega) (by omega)]
  have q43 : (mgi μ 314 9 = 43) = (kdT b L j = 30) := (q 43 (by omega)).trans (propext (hv.2.2.2.2.2.2.1 0 (by omega)))
  have q45 : (mgi μ 314 9 = 45) = (kdT b L j = 31) := (q 45 (by omega)).trans (propext (hv.2.2.2.2.2.2.1 1 (by omega)))
  have q42 : (mgi μ 314 9 = 42) = (kdT b L j = 32) := (q 42 (by omega)).trans (propext (hv.2.2.2.2.2.2.1 2 (by omega)))
  have q47 : (mgi μ 314 9 = 47) = (kdT b L j = 33) := (q 47 (by omega)).trans (propext (hv.2.2.2.2.2.2.1 3 (by omega)))
  have hkd : tkK b L (tps b L j) = kdT b L j := rfl
  have yes : ∀ x, x ≠ 0 → bwM (kdT b L j) S = x → Q (nI x) μ := fun x hx e => by
    rw [e] at k1
    exact k1 hx
  have ar : ∀ x, 30 ≤ x → x < 34 → kdT b L j = x → Q (nI (x - 24)) μ := fun x h1 h2 e => yes (x - 24) (by omega) (by
    unfold bwM
    rw [e, if_pos ⟨h1, h2⟩])
  have hb := opn_b S hS.1.2.1
  unfold S_X11_betweenOf
  rw [q43, q45, q42, q47]
  refine ⟨o1, fun n1 => ⟨fun n2 => ⟨fun n3 => ⟨fun n4 => ?_, fun y => ar 33 (by omega) (by omega) y⟩, fun y => ar 32 (by omega) (by omega) y⟩, fun y => ar 31 (by omega) (by omega) y⟩, fun y => ar 30 (by omega) (by omega) y⟩
  have nar : ¬ (30 ≤ kdT b L j ∧ kdT b L j < 34) := by omega
  refine m_openNow hG hS.1 hS.2.2.2.2 (fun z => ⟨fun y => absurd y (by decide), fun _ => k0 ?_⟩) (fun z => ?_)
  · unfold bwM
    rw [if_neg nar, if_neg (by omega)]
  · have e41 : (nI (opn S) = 41) = (opn S = 41) := q_eq (b := 41) (by omega) (by omega)
    rw [e41]
    refine ⟨fun c => ?_, fun c => k0 ?_⟩
    · refine m_isCompared hG hS.1 hS.2.2.2.2 (fun w => bn0 ?_) (fun w => bn1 ?_)
      · refine m_compareOf hG hT hM (fun y => k0 ?_) (fun y => yes _ ?_ ?_)
        · unfold bwM
          rw [if_neg nar, if_pos c, if_neg (by rw [w]; decide), if_neg (show ¬ (37 ≤ kdT b L j ∧ kdT b L j ≤ 42) from y)]
        · have := (opM_c y.1 (by have := y.2; omega)).2.1
          omega
        · unfold bwM
          rw [if_neg nar, if_pos c, if_neg (by rw [w]; decide), if_pos (show 37 ≤ kdT b L j ∧ kdT b L j ≤ 42 from y)]
          rfl
      · have jn : ∀ x, 22 ≤ x → x < 25 → kdT b L j = x → Q (nI (opM x)) μ := fun x h1 h2 e => yes (opM x) (by have := (opM_j h1 h2).1; omega) (by
          unfold bwM
          rw [if_neg nar, if_pos c, if_pos w, e, if_pos ⟨h1, h2⟩])
        rw [ew_24, m_isWord hG hT hM (by decide) (by decide), hkd]
        by_cases c24 : kdT b L j = 24
        · rw [if_pos c24]
          exact bb1 (jn 24 (by omega) (by omega) c24)
        · rw [if_neg c24]
          refine bb0 ?_
          rw [ew_22, m_isWord hG hT hM (by decide) (by decide), hkd]
          by_cases c22 : kdT b L j = 22
          · rw [if_pos c22]
            exact bb1 (jn 22 (by omega) (by omega) c22)
          · rw [if_neg c22]
            refine bb0 ?_
            rw [ew_23, m_isWord hG hT hM (by decide) (by decide), hkd]
            by_cases c23 : kdT b L j = 23
            · rw [if_pos c23]
              exact bb1 (jn 23 (by omega) (by omega) c23)
            · rw [if_neg c23]
              refine bb0 (k0 ?_)
              unfold bwM
              rw [if_neg nar, if_pos c, if_pos w, if_neg (by omega)]
    · unfold bwM
      rw [if_neg nar, if_neg c]
theorem m_part {Q : Int32 → Me → Prop} {fl : Nat} (h : Mq μ b L n i law j fl S C) (k0 : paM (kdT b L j) S = 0 → Q (-1) μ) (k1 : paM (kdT b L j) S = 1 → Q 0 μ) (k2 : 2 ≤ paM (kdT b L j) S → Q (nI (paM (kdT b L j) S)) μ) (hz : opn S ≠ 0) : S_X11_partOf 314 (nI (opn S)) μ Q := by
  obtain ⟨hG, hT, hM, hr, h14, h18, hS, hc⟩ := id h
  have o1 : mok μ 314 11 := gp_ok hG (by decide) (by decide)
  have hv := tv_all (b := b) (L := L) (fun k hk => (hT.2.2 k hk).1) (tps b L j)
  have q41 : (mgi μ 314 9 = 41) = (kdT b L j = 35) := by
    rw [hM.2.2.2.1]
    exact (q_eq (b := 41) (by omega) (by omega)).trans (propext (hv.2.2.2.2.2.2.1 5 (by omega)))
  have hkd : tkK b L (tps b L j) = kdT b L j := rfl
  have hb := opn_b S hS.1.2.1
  have e : ∀ x, x < 100 → (nI (opn S) = nI x) = (opn S = x) := fun x hx => q_eq (by omega) (by omega)
  unfold paM at k0 k1 k2
  refine ⟨fun c => ?_, fun c => ⟨fun c2 => ?_, fun c2 => ⟨fun c3 => ?_, fun c3 => ⟨fun c4 => ?_, fun c4 => ?_⟩⟩⟩⟩
  · have d : opn S = 40 := (e 40 (by omega)).mp c
    rw [if_pos d] at k0 k1 k2
    rw [q41]
    exact ⟨o1, fun y => k0 (if_neg y), fun y => k1 (if_pos y)⟩
  · have d1 : ¬ opn S = 40 := fun y => c ((e 40 (by omega)).mpr y)
    have d : opn S = 41 := (e 41 (by omega)).mp c2
    rw [if_neg d1, if_pos d] at k0 k1 k2
    rw [ew_19]
    refine ⟨o1, ?_⟩
    rw [m_isWord hG hT hM (by decide) (by decide), hkd]
    by_cases c19 : kdT b L j = 19
    · rw [if_pos c19]
      refine bb1 (m_isCompared hG hS.1 hS.2.2.2.2 (fun w => bb0 (k0 (if_neg (by rw [w]; exact fun y => absurd y.2 (by decide))))) (fun w => bb1 ?_))
      have := k2 (by rw [if_pos ⟨c19, w⟩]; omega)
      rw [if_pos ⟨c19, w⟩] at this
      exact this
    · rw [if_neg c19]
      exact bb0 (k0 (if_neg (fun y => c19 y.1)))
  · have d1 : ¬ opn S = 40 := fun y => c ((e 40 (by omega)).mpr y)
    have d2 : ¬ opn S = 41 := fun y => c2 ((e 41 (by omega)).mpr y)
    have d : opn S = 42 := (e 42 (by omega)).mp c3
    rw [if_neg d1, if_neg d2, if_pos d] at k0 k1 k2
    rw [ew_20]
    refine ⟨o1, ?_⟩
    rw [m_isWord hG hT hM (by decide) (by decide), hkd]
    by_cases c20 : kdT b L j = 20
    · rw [if_pos c20] at k2 ⊢
      exact bb1 (k2 (by omega))
    · rw [if_neg c20]
      exact bb0 (k0 (if_neg c20))
  · have d1 : ¬ opn S = 40 := fun y => c ((e 40 (by omega)).mpr y)
    have d2 : ¬ opn S = 41 := fun y => c2 ((e 41 (by omega)).mpr y)
    have d3 : ¬ opn S = 42 := fun y => c3 ((e 42 (by omega)).mpr y)
    have d : opn S = 43 := (e 43 (by omega)).mp c4
    rw [if_neg d1, if_neg d2, if_neg d3, if_pos d] at k0 k1 k2
    rw [ew_21]
    refine ⟨o1, ?_⟩
    rw [m_isWord hG hT hM (by decide) (by decide), hkd]
    by_cases c21 : kdT b L j = 21
    · rw [if_pos c21]
      exact bb1 (k1 (if_pos c21))
    · rw [if_neg c21]
      exact bb0 (k0 (if_neg c21))
  · have d1 : ¬ opn S = 40 := fun y => c ((e 40 (by omega)).mpr y)
    have d2 : ¬ opn S = 41 := fun y => c2 ((e 41 (by omega)).mpr y)
    have d3 : ¬ opn S = 42 := fun y => c3 ((e 42 (by omega)).mpr y)
    have d4 : ¬ opn S = 43 := fun y => c4 ((e 43 (by omega)).mpr y)
    rw [if_neg d1, if_neg d2, if_neg d3, if_neg d4] at k0
    exact k0 rfl
end MH
