/-! what was heard and what was said: both sides -/
section T5
variable {μ : Me} {s : Nat → Nat} {T : Nat → Tx} {tn : Nat} {v u b : Int32} {Q : Int32 → Me → Prop}
/-- bounds, where the lists of what was heard and said alone change -/
theorem wf_ls {s' : Nat → Nat} (hW : WF s) (hb : ∀ k, s' k < 2147483648) (h4 : s' 4 ≤ 8) (h5 : s' 5 ≤ 8) (e : ∀ j, j ≠ 4 → j ≠ 5 → (j < 75 ∨ 107 ≤ j) → s' j = s j) (g4 : ∀ i, i < s' 4 → s' (75 + 2 * i) < s 0 ∧ s' (76 + 2 * i) ≤ 1) (g5 : ∀ i, i < s' 5 → s' (91 + 2 * i) < s 0 ∧ s' (92 + 2 * i) ≤ 999) : WF s' := by
  have wn := wf_n hW
  obtain ⟨-, -, h3, h6, -, -, h7, h8⟩ := hW
  refine ⟨hb, ?_, fun p hp => ?_, fun p hp => ?_, fun i hi => ?_, fun i hi => ?_, fun i hi => ?_, fun i hi => ?_⟩
  · rw [e 0 (by omega) (by omega) (by omega), e 1 (by omega) (by omega) (by omega), e 2 (by omega) (by omega) (by omega), e 3 (by omega) (by omega) (by omega), e 6 (by omega) (by omega) (by omega), e 7 (by omega) (by omega) (by omega), e 8 (by omega) (by omega) (by omega), e 9 (by omega) (by omega) (by omega), e 10 (by omega) (by omega) (by omega)]
    exact ⟨wn.1, wn.2.1, wn.2.2.1, wn.2.2.2.1, h4, h5, wn.2.2.2.2.2.2⟩
  · rw [e 0 (by omega) (by omega) (by omega)] at hp
    rw [e (11 + 7 * p) (by omega) (by omega) (by omega), e (12 + 7 * p) (by omega) (by omega) (by omega), e (13 + 7 * p) (by omega) (by omega) (by omega), e (14 + 7 * p) (by omega) (by omega) (by omega), e (15 + 7 * p) (by omega) (by omega) (by omega), e (16 + 7 * p) (by omega) (by omega) (by omega), e (17 + 7 * p) (by omega) (by omega) (by omega), e 6 (by omega) (by omega) (by omega)]
    exact h3 p hp
  · rw [e (67 + p) (by omega) (by omega) (by omega)]
    exact h6 p hp
  · rw [e 0 (by omega) (by omega) (by omega)]
    exact g4 i hi
  · rw [e 0 (by omega) (by omega) (by omega)]
    exact g5 i hi
  · rw [e 10 (by omega) (by omega) (by omega)] at hi
    rw [e (2807 + 2 * i) (by omega) (by omega) (by omega), e (2808 + 2 * i) (by omega) (by omega) (by omega)]
    exact h7 i hi
  · rw [e 3 (by omega) (by omega) (by omega)] at hi
    have ef : ∀ j, 107 ≤ j → s' j = s j := fun j hj => e j (by omega) (by omega) (by omega)
    obtain ⟨a1, a2, a3, a4, a5, a6, a7, a8⟩ := h8 i hi
    rw [ef (107 + 90 * i) (by omega), ef (108 + 90 * i) (by omega), ef (109 + 90 * i) (by omega), ef (110 + 90 * i) (by omega), ef (111 + 90 * i) (by omega), ef (112 + 90 * i) (by omega), e 0 (by omega) (by omega) (by omega)]
    refine ⟨a1, a2, a3, a4, a5, a6, fun p hp => ?_, fun q hq => ?_⟩
    · rw [ef _ (by omega), ef _ (by omega), ef _ (by omega)]
      exact a7 p hp
    · rw [ef _ (by omega), ef _ (by omega)]
      exact a8 q hq
theorem wf_4 (hW : WF s) : WF (ups s 4 0) := by
  have e : ∀ j, j ≠ 4 → ups s 4 0 j = s j := fun j hj => ups_n hj
  refine wf_ls hW (fun k => ?_) (by rw [ups_e rfl]; omega) (by rw [e 5 (by omega)]; exact (wf_n hW).2.2.2.2.2.1) (fun j h1 _ _ => e j h1) (fun i hi => ?_) (fun i hi => ?_)
  · unfold ups
    split
    · omega
    · exact wf_b hW k
  · rw [ups_e rfl] at hi
    omega
  · rw [e 5 (by omega)] at hi
    rw [e (91 + 2 * i) (by omega), e (92 + 2 * i) (by omega)]
    exact hW.2.2.2.2.2.1 i hi
theorem wf_5 (hW : WF s) : WF (ups s 5 0) := by
  have e : ∀ j, j ≠ 5 → ups s 5 0 j = s j := fun j hj => ups_n hj
  refine wf_ls hW (fun k => ?_) (by rw [e 4 (by omega)]; exact (wf_n hW).2.2.2.2.1) (by rw [ups_e rfl]; omega) (fun j _ h1 _ => e j h1) (fun i hi => ?_) (fun i hi => ?_)
  · unfold ups
    split
    · omega
    · exact wf_b hW k
  · rw [e 4 (by omega)] at hi
    rw [e (75 + 2 * i) (by omega), e (76 + 2 * i) (by omega)]
    exact hW.2.2.2.2.1 i hi
  · rw [ups_e rfl] at hi
    omega
theorem wf_hrd (hW : WF s) {p b : Nat} (hp : p < s 0) (hb : b ≤ 1) (hc : s 4 < 8) : WF (hrdS s p b) := by
  have wn := wf_n hW
  have e : ∀ j, j ≠ 4 → j ≠ 75 + 2 * s 4 → j ≠ 76 + 2 * s 4 → hrdS s p b j = s j := fun j h1 h2 h3 => by
    unfold hrdS
    rw [ups_n h1, ups_n h3, ups_n h2]
  have ec : hrdS s p b 4 = s 4 + 1 := by
    unfold hrdS
    rw [ups_e rfl]
  have e1 : hrdS s p b (75 + 2 * s 4) = p := by
    unfold hrdS
    rw [ups_n (by omega), ups_n (by omega), ups_e rfl]
  have e2 : hrdS s p b (76 + 2 * s 4) = b := by
    unfold hrdS
    rw [ups_n (by omega), ups_e rfl]
  refine wf_ls hW (fun k => ?_) (by rw [ec]; omega) (by rw [e 5 (by omega) (by omega) (by omega)]; omega) (fun j h1 h2 h3 => e j (by omega) (by omega) (by omega)) (fun i hi => ?_) (fun i hi => ?_)
  · by_cases q1 : k = 4
    · rw [q1, ec]; omega
    · by_cases q2 : k = 75 + 2 * s 4
      · rw [q2, e1]; omega
      · by_cases q3 : k = 76 + 2 * s 4
        · rw [q3, e2]; omega
        · rw [e k q1 q2 q3]
          exact wf_b hW k
  · rw [ec] at hi
    by_cases q : i = s 4
    · rw [q, e1, e2]
      exact ⟨hp, hb⟩
    · rw [e (75 + 2 * i) (by omega) (by omega) (by omega), e (76 + 2 * i) (by omega) (by omega) (by omega)]
      exact hW.2.2.2.2.1 i (by omega)
  · rw [e 5 (by omega) (by omega) (by omega)] at hi
    rw [e (91 + 2 * i) (by omega) (by omega) (by omega), e (92 + 2 * i) (by omega) (by omega) (by omega)]
    exact hW.2.2.2.2.2.1 i hi
theorem wf_sad (hW : WF s) {p b : Nat} (hp : p < s 0) (hb : b ≤ 999) (hc : s 5 < 8) : WF (sdS s p b) := by
  have wn := wf_n hW
  have e : ∀ j, j ≠ 5 → j ≠ 91 + 2 * s 5 → j ≠ 92 + 2 * s 5 → sdS s p b j = s j := fun j h1 h2 h3 => by
    unfold sdS
    rw [ups_n h1, ups_n h3, ups_n h2]
  have ec : sdS s p b 5 = s 5 + 1 := by
    unfold sdS
    rw [ups_e rfl]
  have e1 : sdS s p b (91 + 2 * s 5) = p := by
    unfold sdS
    rw [ups_n (by omega), ups_n (by omega), ups_e rfl]
  have e2 : sdS s p b (92 + 2 * s 5) = b := by
    unfold sdS
    rw [ups_n (by omega), ups_e rfl]
  refine wf_ls hW (fun k => ?_) (by rw [e 4 (by omega) (by omega) (by omega)]; omega) (by rw [ec]; omega) (fun j h1 h2 h3 => e j (by omega) (by omega) (by omega)) (fun i hi => ?_) (fun i hi => ?_)
  · by_cases q1 : k = 5
    · rw [q1, ec]; omega
    · by_cases q2 : k = 91 + 2 * s 5
      · rw [q2, e1]; omega
      · by_cases q3 : k = 92 + 2 * s 5
        · rw [q3, e2]; omega
        · rw [e k q1 q2 q3]
          exact wf_b hW k
  · rw [e 4 (by omega) (by omega) (by omega)] at hi
    rw [e (75 + 2 * i) (by omega) (by omega) (by omega), e (76 + 2 * i) (by omega) (by omega) (by omega)]
    exact hW.2.2.2.2.1 i hi
  · rw [ec] at hi
    by_cases q : i = s 5
    · rw [q, e1, e2]
      exact ⟨hp, hb⟩
    · rw [e (91 + 2 * i) (by omega) (by omega) (by omega), e (92 + 2 * i) (by omega) (by omega) (by omega)]
      exact hW.2.2.2.2.2.1 i (by omega)
theorem tw_c4 (h : Tw μ s T) : Tw (msi μ 1 8 (nI 0)) (ups s 4 0) T := by
  have wn := wf_n h.2.1
  have e : ∀ j, j ≠ 4 → ups s 4 0 j = s j := fun j hj => ups_n hj
  refine tw_told h (fr_si (fr_rf _ _) 1 8 _ rfl) (wf_4 h.2.1) ?_ (by rw [gi_si, if_neg (by omega)]) (fun a q _ _ => by rw [gi_si, if_neg (by omega)]) (fun _ _ => rfl) (fun j hj => e j (by omega))
  obtain ⟨c1, c2, c3, c4, c5, c6, c7, c8, c9, c10, c11⟩ := h.2.2.1.1
  refine ⟨?_, ?_, ?_, ?_, ?_, ?_, fun q hq => ?_, fun r hr => ?_, fun q hq => ?_, fun i hi => ?_, fun i hi => ?_⟩
  · rw [gi_si, if_neg (by omega), e 0 (by omega)]; exact c1
  · rw [gi_si, if_neg (by omega), e 1 (by omega)]; exact c2
  · rw [gi_si, if_neg (by omega), e 2 (by omega)]; exact c3
  · rw [gi_si, if_neg (by omega), e 3 (by omega)]; exact c4
  · rw [gi_si, if_pos ⟨rfl, rfl⟩, ups_e rfl]
  · rw [gi_si, if_neg (by omega), e 5 (by omega)]; exact c6
  · rw [e 0 (by omega)] at hq
    rw [gi_si, if_neg (by omega), gi_si, if_neg (by omega), gi_si, if_neg (by omega), e (14 + 7 * q) (by omega), e (15 + 7 * q) (by omega), e (16 + 7 * q) (by omega)]
    exact c7 q hq
  · rw [gi_si, if_neg (by omega), e 0 (by omega), c8 r hr]
    congr 1
    exact setS_cong (fun q hq => by rw [e (14 + 7 * q) (by omega)])
  · rw [gi_si, if_neg (by omega), e _ (by omega)]
    exact c9 q hq
  · rw [ups_e rfl] at hi
    omega
  · rw [e 5 (by omega)] at hi
    rw [gi_si, if_neg (by omega), gi_si, if_neg (by omega), e (91 + 2 * i) (by omega), e (92 + 2 * i) (by omega)]
    exact c11 i hi
theorem tw_c5 (h : Tw μ s T) : Tw (msi μ 1 11 (nI 0)) (ups s 5 0) T := by
  have wn := wf_n h.2.1
  have e : ∀ j, j ≠ 5 → ups s 5 0 j = s j := fun j hj => ups_n hj
  refine tw_told h (fr_si (fr_rf _ _) 1 11 _ rfl) (wf_5 h.2.1) ?_ (by rw [gi_si, if_neg (by omega)]) (fun a q _ _ => by rw [gi_si, if_neg (by omega)]) (fun _ _ => rfl) (fun j hj => e j (by omega))
  obtain ⟨c1, c2, c3, c4, c5, c6, c7, c8, c9, c10, c11⟩ := h.2.2.1.1
  refine ⟨?_, ?_, ?_, ?_, ?_, ?_, fun q hq => ?_, fun r hr => ?_, fun q hq => ?_, fun i hi => ?_, fun i hi => ?_⟩
  · rw [gi_si, if_neg (by omega), e 0 (by omega)]; exact c1
  · rw [gi_si, if_neg (by omega), e 1 (by omega)]; exact c2
  · rw [gi_si, if_neg (by omega), e 2 (by omega)]; exact c3
  · rw [gi_si, if_neg (by omega), e 3 (by omega)]; exact c4
  · rw [gi_si, if_neg (by omega), e 4 (by omega)]; exact c5
  · rw [gi_si, if_pos ⟨rfl, rfl⟩, ups_e rfl]
  · rw [e 0 (by omega)] at hq
    rw [gi_si, if_neg (by omega), gi_si, if_neg (by omega), gi_si, if_neg (by omega), e (14 + 7 * q) (by omega), e (15 + 7 * q) (by omega), e (16 + 7 * q) (by omega)]
    exact c7 q hq
  · rw [gi_si, if_neg (by omega), e 0 (by omega), c8 r hr]
    congr 1
    exact setS_cong (fun q hq => by rw [e (14 + 7 * q) (by omega)])
  · rw [gi_si, if_neg (by omega), e _ (by omega)]
    exact c9 q hq
  · rw [e 4 (by omega)] at hi
    rw [gi_si, if_neg (by omega), gi_si, if_neg (by omega), e (75 + 2 * i) (by omega), e (76 + 2 * i) (by omega)]
    exact c10 i hi
  · rw [ups_e rfl] at hi
    omega
theorem tw_hrd (h : Tw μ s T) {p b : Nat} (hp : p < s 0) (hb : b ≤ 1) (hc : s 4 < 8) : Tw (msi (msi (msi μ 7 (s 4) (nI p)) 8 (s 4) (nI b)) 1 8 (nI (s 4 + 1))) (hrdS s p b) T := by
  have wn := wf_n h.2.1
  have e : ∀ j, j ≠ 4 → j ≠ 75 + 2 * s 4 → j ≠ 76 + 2 * s 4 → hrdS s p b j = s j := fun j h1 h2 h3 => by
    unfold hrdS
    rw [ups_n h1, ups_n h3, ups_n h2]
  have ec : hrdS s p b 4 = s 4 + 1 := by
    unfold hrdS
    rw [ups_e rfl]
  have e1 : hrdS s p b (75 + 2 * s 4) = p := by
    unfold hrdS
    rw [ups_n (by omega), ups_n (by omega), ups_e rfl]
  have e2 : hrdS s p b (76 + 2 * s 4) = b := by
    unfold hrdS
    rw [ups_n (by omega), ups_e rfl]
  have em : ∀ a q, a ≠ 7 → a ≠ 8 → (a = 1 → q ≠ 8) → mgi (msi (msi (msi μ 7 (s 4) (nI p)) 8 (s 4) (nI b)) 1 8 (nI (s 4 + 1))) a q = mgi μ a q := fun a q h1 h2 h3 => by
    rw [gi_si, if_neg (by omega), gi_si, if_neg (by omega), gi_si, if_neg (by omega)]
  refine tw_told h (fr_si (fr_si (fr_si (fr_rf _ _) 7 _ _ rfl) 8 _ _ rfl) 1 8 _ rfl) (wf_hrd h.2.1 hp hb hc) ?_ (em 1 16 (by omega) (by omega) (by omega)) (fun a q _ _ => em a q (by omega) (by omega) (by omega)) (fun _ _ => rfl) (fun j hj => e j (by omega) (by omega) (by omega))
  obtain ⟨c1, c2, c3, c4, c5, c6, c7, c8, c9, c10, c11⟩ := h.2.2.1.1
  refine ⟨?_, ?_, ?_, ?_, ?_, ?_, fun q hq => ?_, fun r hr => ?_, fun q hq => ?_, fun i hi => ?_, fun i hi => ?_⟩
  · rw [em _ _ (by omega) (by omega) (by omega), e 0 (by omega) (by omega) (by omega)]; exact c1
  · rw [em _ _ (by omega) (by omega) (by omega), e 1 (by omega) (by omega) (by omega)]; exact c2
  · rw [em _ _ (by omega) (by omega) (by omega), e 2 (by omega) (by omega) (by omega)]; exact c3
  · rw [em _ _ (by omega) (by omega) (by omega), e 3 (by omega) (by omega) (by omega)]; exact c4
  · rw [gi_si, if_pos ⟨rfl, rfl⟩, ec]
  · rw [em _ _ (by omega) (by omega) (by omega), e 5 (by omega) (by omega) (by omega)]; exact c6
  · rw [e 0 (by omega) (by omega) (by omega)] at hq
    rw [em _ _ (by omega) (by omega) (by omega), em _ _ (by omega) (by omega) (by omega), em _ _ (by omega) (by omega) (by omega), e (14 + 7 * q) (by omega) (by omega) (by omega), e (15 + 7 * q) (by omega) (by omega) (by omega), e (16 + 7 * q) (by omega) (by omega) (by omega)]
    exact c7 q hq
  · rw [em _ _ (by omega) (by omega) (by omega), e 0 (by omega) (by omega) (by omega), c8 r hr]
    congr 1
    exact setS_cong (fun q hq => by rw [e (14 + 7 * q) (by omega) (by omega) (by omega)])
  · rw [em _ _ (by omega) (by omega) (by omega), e _ (by omega) (by omega) (by omega)]
    exact c9 q hq
  · rw [ec] at hi
    show mgi _ 7 i = _ ∧ mgi _ 8 i = _
    by_cases q : i = s 4
    · rw [q, e1, e2, gi_si, if_neg (by omega), gi_si, if_neg (by omega), gi_si, if_pos ⟨rfl, rfl⟩, gi_si, if_neg (by omega), gi_si, if_pos ⟨rfl, rfl⟩]
      exact ⟨rfl, rfl⟩
    · rw [e (75 + 2 * i) (by omega) (by omega) (by omega), e (76 + 2 * i) (by omega) (by omega) (by omega), gi_si, if_neg (by omega), gi_si, if_neg (by omega), gi_si, if_neg (by omega), gi_si, if_neg (by omega), gi_si, if_neg (by omega), gi_si, if_neg (by omega)]
      exact c10 i (by omega)
  · rw [e 5 (by omega) (by omega) (by omega)] at hi
    rw [em _ _ (by omega) (by omega) (by omega), em _ _ (by omega) (by omega) (by omega), e (91 + 2 * i) (by omega) (by omega) (by omega), e (92 + 2 * i) (by omega) (by omega) (by omega)]
    exact c11 i hi
theorem tw_sd (h : Tw μ s T) {p b : Nat} (hp : p < s 0) (hb : b ≤ 999) (hc : s 5 < 8) : Tw (msi (msi (msi μ 9 (s 5) (nI p)) 10 (s 5) (nI b)) 1 11 (nI (s 5 + 1))) (sdS s p b) T := by
  have wn := wf_n h.2.1
  have e : ∀ j, j ≠ 5 → j ≠ 91 + 2 * s 5 → j ≠ 92 + 2 * s 5 → sdS s p b j = s j := fun j h1 h2 h3 => by
    unfold sdS
    rw [ups_n h1, ups_n h3, ups_n h2]
  have ec : sdS s p b 5 = s 5 + 1 := by
    unfold sdS
    rw [ups_e rfl]
  have e1 : sdS s p b (91 + 2 * s 5) = p := by
    unfold sdS
    rw [ups_n (by omega), ups_n (by omega), ups_e rfl]
  have e2 : sdS s p b (92 + 2 * s 5) = b := by
    unfold sdS
    rw [ups_n (by omega), ups_e rfl]
  have em : ∀ a q, a ≠ 9 → a ≠ 10 → (a = 1 → q ≠ 11) → mgi (msi (msi (msi μ 9 (s 5) (nI p)) 10 (s 5) (nI b)) 1 11 (nI (s 5 + 1))) a q = mgi μ a q := fun a q h1 h2 h3 => by
    rw [gi_si, if_neg (by omega), gi_si, if_neg (by omega), gi_si, if_neg (by omega)]
  refine tw_told h (fr_si (fr_si (fr_si (fr_rf _ _) 9 _ _ rfl) 10 _ _ rfl) 1 11 _ rfl) (wf_sad h.2.1 hp hb hc) ?_ (em 1 16 (by omega) (by omega) (by omega)) (fun a q _ _ => em a q (by omega) (by omega) (by omega)) (fun _ _ => rfl) (fun j hj => e j (by omega) (by omega) (by omega))
  obtain ⟨c1, c2, c3, c4, c5, c6, c7, c8, c9, c10, c11⟩ := h.2.2.1.1
  refine ⟨?_, ?_, ?_, ?_, ?_, ?_, fun q hq => ?_, fun r hr => ?_, fun q hq => ?_, fun i hi => ?_, fun i hi => ?_⟩
  · rw [em _ _ (by omega) (by omega) (by omega), e 0 (by omega) (by omega) (by omega)]; exact c1
  · rw [em _ _ (by omega) (by omega) (by omega), e 1 (by omega) (by omega) (by omega)]; exact c2
  · rw [em _ _ (by omega) (by omega) (by omega), e 2 (by omega) (by omega) (by omega)]; exact c3
  · rw [em _ _ (by omega) (by omega) (by omega), e 3 (by omega) (by omega) (by omega)]; exact c4
  · rw [em _ _ (by omega) (by omega) (by omega), e 4 (by omega) (by omega) (by omega)]; exact c5
  · rw [gi_si, if_pos ⟨rfl, rfl⟩, ec]
  · rw [e 0 (by omega) (by omega) (by omega)] at hq
    rw [em _ _ (by omega) (by omega) (by omega), em _ _ (by omega) (by omega) (by omega), em _ _ (by omega) (by omega) (by omega), e (14 + 7 * q) (by omega) (by omega) (by omega), e (15 + 7 * q) (by omega) (by omega) (by omega), e (16 + 7 * q) (by omega) (by omega) (by omega)]
    exact c7 q hq
  · rw [em _ _ (by omega) (by omega) (by omega), e 0 (by omega) (by omega) (by omega), c8 r hr]
    congr 1
    exact setS_cong (fun q hq => by rw [e (14 + 7 * q) (by omega) (by omega) (by omega)])
  · rw [em _ _ (by omega) (by omega) (by omega), e _ (by omega) (by omega) (by omega)]
    exact c9 q hq
  · rw [e 4 (by omega) (by omega) (by omega)] at hi
    rw [em _ _ (by omega) (by omega) (by omega), em _ _ (by omega) (by omega) (by omega), e (75 + 2 * i) (by omega) (by omega) (by omega), e (76 + 2 * i) (by omega) (by omega) (by omega)]
    exact c10 i hi
  · rw [ec] at hi
    show mgi _ 9 i = _ ∧ mgi _ 10 i = _
    by_cases q : i = s 5
    · rw [q, e1, e2, gi_si, if_neg (by omega), gi_si, if_neg (by omega), gi_si, if_pos ⟨rfl, rfl⟩, gi_si, if_neg (by omega), gi_si, if_pos ⟨rfl, rfl⟩]
      exact ⟨rfl, rfl⟩
    · rw [e (91 + 2 * i) (by omega) (by omega) (by omega), e (92 + 2 * i) (by omega) (by omega) (by omega), gi_si, if_neg (by omega), gi_si, if_neg (by omega), gi_si, if_neg (by omega), gi_si, if_neg (by omega), gi_si, if_neg (by omega), gi_si, if_neg (by omega)]
      exact c11 i (by omega)
theorem mo_row {s' : Nat → Nat} {ν : Me} (h : Mo μ s T) (hF : Fq μ ν) (hR : RowA ν 315 s') (hW : WF s') (e1 : s' 1 = s 1) : Mo ν s' T := by
  refine ⟨fq_gp h.1 hF, hR, hW, fun i hi => ?_⟩
  rw [e1] at hi
  exact TxM_x (h.2.2.2 i hi) (fun q => hF.2.2.2.2.1 317 q (by omega))
theorem m1_np {p : Nat} (hp : p < 2147483648) : ¬ nI p = -nI 1 := by
  rw [q_m1 hp]
  exact fun x => x
theorem C_heard (h : Cl μ s T tn) (k : ∀ ν, Fr xA μ ν → Cl ν (hrdT s v b) T tn → Q (hrdV s v) ν) : S_X10_heard 0 v b μ Q := by
  have hG := h.1
  have hT := tw_cl h
  have wn := wf_n h.2.1
  have h8 : mgi μ 1 8 = nI (s 4) := h.2.2.1.1.2.2.2.2.1
  unfold hrdT hrdV at k
  unfold S_X10_heard B_X10_heard_80
  by_cases c : v = -nI 1
  · simp only [if_pos c] at k
    simp (disch := first | omega | (simp only [Gp_si, Gp_sl, Gp_ci, Gp_cl]; assumption)) only [li_0, li_1, li_2, li_3, li_4, li_5, li_6, li_7, li_8, li_9, li_10, li_11, li_12, li_13, li_14, li_15, li_16, li_17, li_18, li_19, li_20, li_21, li_22, li_23, li_24, li_25, li_26, li_27, li_28, li_29, li_30, li_32, li_33, li_34, li_35, li_36, li_37, li_38, li_39, li_40, li_41, li_42, li_43, li_44, li_45, li_46, li_47, li_48, li_49, li_50, li_51, li_52, li_53, li_54, li_55, li_56, li_57, li_58, li_59, li_60, li_61, li_62, li_63, li_64, li_65, li_66, li_67, li_68, li_69, li_70, li_71, li_72, li_73, li_74, li_75, li_76, li_77, li_78, li_79, li_80, li_81, li_82, li_83, li_84, li_85, li_86, li_87, li_88, li_89, li_90, li_91, li_92, li_93, li_94, li_95, li_96, li_97, li_98, li_99, li_100, li_101, li_102, li_103, li_104, li_105, li_106, li_107, li_108, li_109, li_110, li_111, li_112, li_113, li_114, li_115, li_116, li_117, li_118, li_119, li_120, li_121, li_122, li_123, li_124, li_125, li_126, li_127, li_128, li_129, li_130, li_134, li_160, li_197, li_229, li_255, li_256, li_265, li_300, li_301, li_330, li_353, li_463, li_720, li_729, li_768, li_999, li_2610, li_2807, li_2867, li_2916, li_4096, li_9999, li_10000, li_30643, li_65535, li_99999, li_1000000, gi_si, gi_sl, gi_sr, gi_ci, gi_cl, gl_si, gl_sl, gl_sr, gl_ci, gl_cl, gr_si, gr_sl, gr_sr, gr_ci, gr_cl, ln_si, ln_sl, ln_sr, ln_ci, ln_cl, ok_si, ok_sl, ok_sr, ok_ci, ok_cl, gp_k hG, gp_l hG, gp_r hG, gp_m hG, Option.some.injEq, exists_eq_left', exists_eq_left, forall_eq, forall_eq', true_and, and_true, if_true, if_false, true_imp_iff, false_imp_iff, not_true_eq_false, not_false_eq_true, false_and, and_false, reduceIte, reduceCtorEq, forall_const, Nat.reduceEqDiff, Nat.reduceAdd, Nat.reduceMul, Nat.reduceSub, Nat.reduceLT, Nat.reduceLeDiff, Nat.reduceMod, Nat.reduceDiv, and_self, ne_eq, exists_const, Nat.add_sub_cancel, nI_add, pk_mul, pk_sub, q_rem, q_div, q_eq, q_le, q_lt, q_cl, q_in, q_m1, q_1m, q_neg, sh1n, bitn, q_mod2, q_neq0, bq_t, bq_f, bq_t2, bq_f2, i01, i10, q_tt, q_ff, ups_e, ups_n, fil_i, fil_o, zq_if, zq_0, zq_1, if_pos, if_neg, c]
    have hF : Fr xT μ (msi μ 1 8 (nI 0)) := fr_si (fr_rf _ _) 1 8 _ rfl
    exact k _ (fr_ta hF) (cl_late h (tw_c4 hT) hF (fun j hj => ups_n (by omega)))
  · simp only [if_neg c] at k
    by_cases d : hrdB s v = true
    · simp only [if_pos d] at k
      obtain ⟨d1, d2⟩ := of_decide_eq_true d
      obtain ⟨p, hp, rfl⟩ := q_rg (by omega) d1
      rw [vt (by omega)] at k
      by_cases hb : b = 0
      · subst hb
        rw [if_pos rfl] at k
        simp (disch := first | omega | (simp only [Gp_si, Gp_sl, Gp_ci, Gp_cl]; assumption)) only [li_0, li_1, li_2, li_3, li_4, li_5, li_6, li_7, li_8, li_9, li_10, li_11, li_12, li_13, li_14, li_15, li_16, li_17, li_18, li_19, li_20, li_21, li_22, li_23, li_24, li_25, li_26, li_27, li_28, li_29, li_30, li_32, li_33, li_34, li_35, li_36, li_37, li_38, li_39, li_40, li_41, li_42, li_43, li_44, li_45, li_46, li_47, li_48, li_49, li_50, li_51, li_52, li_53, li_54, li_55, li_56, li_57, li_58, li_59, li_60, li_61, li_62, li_63, li_64, li_65, li_66, li_67, li_68, li_69, li_70, li_71, li_72, li_73, li_74, li_75, li_76, li_77, li_78, li_79, li_80, li_81, li_82, li_83, li_84, li_85, li_86, li_87, li_88, li_89, li_90, li_91, li_92, li_93, li_94, li_95, li_96, li_97, li_98, li_99, li_100, li_101, li_102, li_103, li_104, li_105, li_106, li_107, li_108, li_109, li_110, li_111, li_112, li_113, li_114, li_115, li_116, li_117, li_118, li_119, li_120, li_121, li_122, li_123, li_124, li_125, li_126, li_127, li_128, li_129, li_130, li_134, li_160, li_197, li_229, li_255, li_256, li_265, li_300, li_301, li_330, li_353, li_463, li_720, li_729, li_768, li_999, li_2610, li_2807, li_2867, li_2916, li_4096, li_9999, li_10000, li_30643, li_65535, li_99999, li_1000000, gi_si, gi_sl, gi_sr, gi_ci, gi_cl, gl_si, gl_sl, gl_sr, gl_ci, gl_cl, gr_si, gr_sl, gr_sr, gr_ci, gr_cl, ln_si, ln_sl, ln_sr, ln_ci, ln_cl, ok_si, ok_sl, ok_sr, ok_ci, ok_cl, gp_k hG, gp_l hG, gp_r hG, gp_m hG, Option.some.injEq, exists_eq_left', exists_eq_left, forall_eq, forall_eq', true_and, and_true, if_true, if_false, true_imp_iff, false_imp_iff, not_true_eq_false, not_false_eq_true, false_and, and_false, reduceIte, reduceCtorEq, forall_const, Nat.reduceEqDiff, Nat.reduceAdd, Nat.reduceMul, Nat.reduceSub, Nat.reduceLT, Nat.reduceLeDiff, Nat.reduceMod, Nat.reduceDiv, and_self, ne_eq, exists_const, Nat.add_sub_cancel, nI_add, pk_mul, pk_sub, q_rem, q_div, q_eq, q_le, q_lt, q_cl, q_in, q_m1, q_1m, q_neg, sh1n, bitn, q_mod2, q_neq0, bq_t, bq_f, bq_t2, bq_f2, i01, i10, q_tt, q_ff, ups_e, ups_n, fil_i, fil_o, zq_if, zq_0, zq_1, if_pos, if_neg, e_isPT hT, h8]
        have hF : Fr xT μ (msi (msi (msi μ 7 (s 4) (nI p)) 8 (s 4) (nI 0)) 1 8 (nI (s 4 + 1))) := fr_si (fr_si (fr_si (fr_rf _ _) 7 _ _ rfl) 8 _ _ rfl) 1 8 _ rfl
        exact k _ (fr_ta hF) (cl_late h (tw_hrd hT hp (by omega) d2) hF (fun j hj => by unfold hrdS; rw [ups_n (by omega), ups_n (by omega), ups_n (by omega)]))
      · rw [if_neg hb] at k
        have hb' : ¬ b = nI 0 := hb
        simp (disch := first | omega | (simp only [Gp_si, Gp_sl, Gp_ci, Gp_cl]; assumption)) only [li_0, li_1, li_2, li_3, li_4, li_5, li_6, li_7, li_8, li_9, li_10, li_11, li_12, li_13, li_14, li_15, li_16, li_17, li_18, li_19, li_20, li_21, li_22, li_23, li_24, li_25, li_26, li_27, li_28, li_29, li_30, li_32, li_33, li_34, li_35, li_36, li_37, li_38, li_39, li_40, li_41, li_42, li_43, li_44, li_45, li_46, li_47, li_48, li_49, li_50, li_51, li_52, li_53, li_54, li_55, li_56, li_57, li_58, li_59, li_60, li_61, li_62, li_63, li_64, li_65, li_66, li_67, li_68, li_69, li_70, li_71, li_72, li_73, li_74, li_75, li_76, li_77, li_78, li_79, li_80, li_81, li_82, li_83, li_84, li_85, li_86, li_87, li_88, li_89, li_90, li_91, li_92, li_93, li_94, li_95, li_96, li_97, li_98, li_99, li_100, li_101, li_102, li_103, li_104, li_105, li_106, li_107, li_108, li_109, li_110, li_111, li_112, li_113, li_114, li_115, li_116, li_117, li_118, li_119, li_120, li_121, li_122, li_123, li_124, li_125, li_126, li_127, li_128, li_129, li_130, li_134, li_160, li_197, li_229, li_255, li_256, li_265, li_300, li_301, li_330, li_353, li_463, li_720, li_729, li_768, li_999, li_2610, li_2807, li_2867, li_2916, li_4096, li_9999, li_10000, li_30643, li_65535, li_99999, li_1000000, gi_si, gi_sl, gi_sr, gi_ci, gi_cl, gl_si, gl_sl, gl_sr, gl_ci, gl_cl, gr_si, gr_sl, gr_sr, gr_ci, gr_cl, ln_si, ln_sl, ln_sr, ln_ci, ln_cl, ok_si, ok_sl, ok_sr, ok_ci, ok_cl, gp_k hG, gp_l hG, gp_r hG, gp_m hG, Option.some.injEq, exists_eq_left', exists_eq_left, forall_eq, forall_eq', true_and, and_true, if_true, if_false, true_imp_iff, false_imp_iff, not_true_eq_false, not_false_eq_true, false_and, and_false, reduceIte, reduceCtorEq, forall_const, Nat.reduceEqDiff, Nat.reduceAdd, Nat.reduceMul, Nat.reduceSub, Nat.reduceLT, Nat.reduceLeDiff, Nat.reduceMod, Nat.reduceDiv, and_self, ne_eq, exists_const, Nat.add_sub_cancel, nI_add, pk_mul, pk_sub, q_rem, q_div, q_eq, q_le, q_lt, q_cl, q_in, q_m1, q_1m, q_neg, sh1n, bitn, q_mod2, q_neq0, bq_t, bq_f, bq_t2, bq_f2, i01, i10, q_tt, q_ff, ups_e, ups_n, fil_i, fil_o, zq_if, zq_0, zq_1, if_pos, if_neg, e_isPT hT, h8, hb']
        have hF : Fr xT μ (msi (msi (msi μ 7 (s 4) (nI p)) 8 (s 4) (nI 1)) 1 8 (nI (s 4 + 1))) := fr_si (fr_si (fr_si (fr_rf _ _) 7 _ _ rfl) 8 _ _ rfl) 1 8 _ rfl
        exact k _ (fr_ta hF) (cl_late h (tw_hrd hT hp (by omega) d2) hF (fun j hj => by unfold hrdS; rw [ups_n (by omega), ups_n (by omega), ups_n (by omega)]))
    · simp only [if_neg d] at k
      have k0 := k μ (fr_rf _ _) h
      have d' := of_decide_eq_false (Bool.eq_false_iff.2 d)
      by_cases d1 : 0 ≤ v ∧ v < nI (s 0)
      · have d2 : ¬ s 4 < 8 := fun x => d' ⟨d1, x⟩
        have d1' : nI 0 ≤ v ∧ v < nI (s 0) := d1
        simp (disch := first | omega | (simp only [Gp_si, Gp_sl, Gp_ci, Gp_cl]; assumption)) only [li_0, li_1, li_2, li_3, li_4, li_5, li_6, li_7, li_8, li_9, li_10, li_11, li_12, li_13, li_14, li_15, li_16, li_17, li_18, li_19, li_20, li_21, li_22, li_23, li_24, li_25, li_26, li_27, li_28, li_29, li_30, li_32, li_33, li_34, li_35, li_36, li_37, li_38, li_39, li_40, li_41, li_42, li_43, li_44, li_45, li_46, li_47, li_48, li_49, li_50, li_51, li_52, li_53, li_54, li_55, li_56, li_57, li_58, li_59, li_60, li_61, li_62, li_63, li_64, li_65, li_66, li_67, li_68, li_69, li_70, li_71, li_72, li_73, li_74, li_75, li_76, li_77, li_78, li_79, li_80, li_81, li_82, li_83, li_84, li_85, li_86, li_87, li_88, li_89, li_90, li_91, li_92, li_93, li_94, li_95, li_96, li_97, li_98, li_99, li_100, li_101, li_102, li_103, li_104, li_105, li_106, li_107, li_108, li_109, li_110, li_111, li_112, li_113, li_114, li_115, li_116, li_117, li_118, li_119, li_120, li_121, li_122, li_123, li_124, li_125, li_126, li_127, li_128, li_129, li_130, li_134, li_160, li_197, li_229, li_255, li_256, li_265, li_300, li_301, li_330, li_353, li_463, li_720, li_729, li_768, li_999, li_2610, li_2807, li_2867, li_2916, li_4096, li_9999, li_10000, li_30643, li_65535, li_99999, li_1000000, gi_si, gi_sl, gi_sr, gi_ci, gi_cl, gl_si, gl_sl, gl_sr, gl_ci, gl_cl, gr_si, gr_sl, gr_sr, gr_ci, gr_cl, ln_si, ln_sl, ln_sr, ln_ci, ln_cl, ok_si, ok_sl, ok_sr, ok_ci, ok_cl, gp_k hG, gp_l hG, gp_r hG, gp_m hG, Option.some.injEq, exists_eq_left', exists_eq_left, forall_eq, forall_eq', true_and, and_true, if_true, if_false, true_imp_iff, false_imp_iff, not_true_eq_false, not_false_eq_true, false_and, and_false, reduceIte, reduceCtorEq, forall_const, Nat.reduceEqDiff, Nat.reduceAdd, Nat.reduceMul, Nat.reduceSub, Nat.reduceLT, Nat.reduceLeDiff, Nat.reduceMod, Nat.reduceDiv, and_self, ne_eq, exists_const, Nat.add_sub_cancel, nI_add, pk_mul, pk_sub, q_rem, q_div, q_eq, q_le, q_lt, q_cl, q_in, q_m1, q_1m, q_neg, sh1n, bitn, q_mod2, q_neq0, bq_t, bq_f, bq_t2, bq_f2, i01, i10, q_tt, q_ff, ups_e, ups_n, fil_i, fil_o, zq_if, zq_0, zq_1, if_pos, if_neg, e_isPT hT, h8, c, d1']
        exact k0
      · have d1' : ¬ (nI 0 ≤ v ∧ v < nI (s 0)) := d1
        simp (disch := first | omega | (simp only [Gp_si, Gp_sl, Gp_ci, Gp_cl]; assumption)) only [li_0, li_1, li_2, li_3, li_4, li_5, li_6, li_7, li_8, li_9, li_10, li_11, li_12, li_13, li_14, li_15, li_16, li_17, li_18, li_19, li_20, li_21, li_22, li_23, li_24, li_25, li_26, li_27, li_28, li_29, li_30, li_32, li_33, li_34, li_35, li_36, li_37, li_38, li_39, li_40, li_41, li_42, li_43, li_44, li_45, li_46, li_47, li_48, li_49, li_50, li_51, li_52, li_53, li_54, li_55, li_56, li_57, li_58, li_59, li_60, li_61, li_62, li_63, li_64, li_65, li_66, li_67, li_68, li_69, li_70, li_71, li_72, li_73, li_74, li_75, li_76, li_77, li_78, li_79, li_80, li_81, li_82, li_83, li_84, li_85, li_86, li_87, li_88, li_89, li_90, li_91, li_92, li_93, li_94, li_95, li_96, li_97, li_98, li_99, li_100, li_101, li_102, li_103, li_104, li_105, li_106, li_107, li_108, li_109, li_110, li_111, li_112, li_113, li_114, li_115, li_116, li_117, li_118, li_119, li_120, li_121, li_122, li_123, li_124, li_125, li_126, li_127, li_128, li_129, li_130, li_134, li_160, li_197, li_229, li_255, li_256, li_265, li_300, li_301, li_330, li_353, li_463, li_720, li_729, li_768, li_999, li_2610, li_2807, li_2867, li_2916, li_4096, li_9999, li_10000, li_30643, li_65535, li_99999, li_1000000, gi_si, gi_sl, gi_sr, gi_ci, gi_cl, gl_si, gl_sl, gl_sr, gl_ci, gl_cl, gr_si, gr_sl, gr_sr, gr_ci, gr_cl, ln_si, ln_sl, ln_sr, ln_ci, ln_cl, ok_si, ok_sl, ok_sr, ok_ci, ok_cl, gp_k hG, gp_l hG, gp_r hG, gp_m hG, Option.some.injEq, exists_eq_left', exists_eq_left, forall_eq, forall_eq', true_and, and_true, if_true, if_false, true_imp_iff, false_imp_iff, not_true_eq_false, not_false_eq_true, false_and, and_false, reduceIte, reduceCtorEq, forall_const, Nat.reduceEqDiff, Nat.reduceAdd, Nat.reduceMul, Nat.reduceSub, Nat.reduceLT, Nat.reduceLeDiff, Nat.reduceMod, Nat.reduceDiv, and_self, ne_eq, exists_const, Nat.add_sub_cancel, nI_add, pk_mul, pk_sub, q_rem, q_div, q_eq, q_le, q_lt, q_cl, q_in, q_m1, q_1m, q_neg, sh1n, bitn, q_mod2, q_neq0, bq_t, bq_f, bq_t2, bq_f2, i01, i10, q_tt, q_ff, ups_e, ups_n, fil_i, fil_o, zq_if, zq_0, zq_1, if_pos, if_neg, e_isPT hT, h8, c, d1']
        exact k0
theorem M_heard (h : Mo μ s T) (k : ∀ ν, Fq μ ν → Mo ν (hrdT s v b) T → Q (hrdV s v) ν) : S_X11_heard 314 v b μ Q := by
  obtain ⟨hG, hA, hW, hTx⟩ := id h
  have wn := wf_n hW
  have hA1 := hA.1
  unfold hrdT hrdV at k
  unfold S_X11_heard B_X11_heard_79
  by_cases c : v = -nI 1
  · simp only [if_pos c] at k
    simp (disch := first | omega | (simp only [Gp_si, Gp_sl, Gp_ci, Gp_cl]; assumption)) only [li_0, li_1, li_2, li_3, li_4, li_5, li_6, li_7, li_8, li_9, li_10, li_11, li_12, li_13, li_14, li_15, li_16, li_17, li_18, li_19, li_20, li_21, li_22, li_23, li_24, li_25, li_26, li_27, li_28, li_29, li_30, li_32, li_33, li_34, li_35, li_36, li_37, li_38, li_39, li_40, li_41, li_42, li_43, li_44, li_45, li_46, li_47, li_48, li_49, li_50, li_51, li_52, li_53, li_54, li_55, li_56, li_57, li_58, li_59, li_60, li_61, li_62, li_63, li_64, li_65, li_66, li_67, li_68, li_69, li_70, li_71, li_72, li_73, li_74, li_75, li_76, li_77, li_78, li_79, li_80, li_81, li_82, li_83, li_84, li_85, li_86, li_87, li_88, li_89, li_90, li_91, li_92, li_93, li_94, li_95, li_96, li_97, li_98, li_99, li_100, li_101, li_102, li_103, li_104, li_105, li_106, li_107, li_108, li_109, li_110, li_111, li_112, li_113, li_114, li_115, li_116, li_117, li_118, li_119, li_120, li_121, li_122, li_123, li_124, li_125, li_126, li_127, li_128, li_129, li_130, li_134, li_160, li_197, li_229, li_255, li_256, li_265, li_300, li_301, li_330, li_353, li_463, li_720, li_729, li_768, li_999, li_2610, li_2807, li_2867, li_2916, li_4096, li_9999, li_10000, li_30643, li_65535, li_99999, li_1000000, gi_si, gi_sl, gi_sr, gi_ci, gi_cl, gl_si, gl_sl, gl_sr, gl_ci, gl_cl, gr_si, gr_sl, gr_sr, gr_ci, gr_cl, ln_si, ln_sl, ln_sr, ln_ci, ln_cl, ok_si, ok_sl, ok_sr, ok_ci, ok_cl, gp_k hG, gp_l hG, gp_r hG, gp_m hG, Option.some.injEq, exists_eq_left', exists_eq_left, forall_eq, forall_eq', true_and, and_true, if_true, if_false, true_imp_iff, false_imp_iff, not_true_eq_false, not_false_eq_true, false_and, and_false, reduceIte, reduceCtorEq, forall_const, Nat.reduceEqDiff, Nat.reduceAdd, Nat.reduceMul, Nat.reduceSub, Nat.reduceLT, Nat.reduceLeDiff, Nat.reduceMod, Nat.reduceDiv, and_self, ne_eq, exists_const, Nat.add_sub_cancel, nI_add, pk_mul, pk_sub, q_rem, q_div, q_eq, q_le, q_lt, q_cl, q_in, q_m1, q_1m, q_neg, sh1n, bitn, q_mod2, q_neq0, bq_t, bq_f, bq_t2, bq_f2, i01, i10, q_tt, q_ff, ups_e, ups_n, fil_i, fil_o, zq_if, zq_0, zq_1, if_pos, if_neg, c]
    have hF : Fq μ (msi μ 315 4 (nI 0)) := fq_si (fq_rf μ) 315 4 _ (by omega)
    exact k _ hF (mo_row h hF (RowA_si hA (by omega)) (wf_4 hW) (ups_n (by omega)))
  · simp only [if_neg c] at k
    by_cases d : hrdB s v = true
    · simp only [if_pos d] at k
      obtain ⟨d1, d2⟩ := of_decide_eq_true d
      obtain ⟨p, hp, rfl⟩ := q_rg (by omega) d1
      rw [vt (by omega)] at k
      have e9 : 75 + 2 * s 4 + 1 = 76 + 2 * s 4 := by omega
      by_cases hb : b = 0
      · subst hb
        rw [if_pos rfl] at k
        simp (disch := first | omega | (simp only [Gp_si, Gp_sl, Gp_ci, Gp_cl]; assumption)) only [li_0, li_1, li_2, li_3, li_4, li_5, li_6, li_7, li_8, li_9, li_10, li_11, li_12, li_13, li_14, li_15, li_16, li_17, li_18, li_19, li_20, li_21, li_22, li_23, li_24, li_25, li_26, li_27, li_28, li_29, li_30, li_32, li_33, li_34, li_35, li_36, li_37, li_38, li_39, li_40, li_41, li_42, li_43, li_44, li_45, li_46, li_47, li_48, li_49, li_50, li_51, li_52, li_53, li_54, li_55, li_56, li_57, li_58, li_59, li_60, li_61, li_62, li_63, li_64, li_65, li_66, li_67, li_68, li_69, li_70, li_71, li_72, li_73, li_74, li_75, li_76, li_77, li_78, li_79, li_80, li_81, li_82, li_83, li_84, li_85, li_86, li_87, li_88, li_89, li_90, li_91, li_92, li_93, li_94, li_95, li_96, li_97, li_98, li_99, li_100, li_101, li_102, li_103, li_104, li_105, li_106, li_107, li_108, li_109, li_110, li_111, li_112, li_113, li_114, li_115, li_116, li_117, li_118, li_119, li_120, li_121, li_122, li_123, li_124, li_125, li_126, li_127, li_128, li_129, li_130, li_134, li_160, li_197, li_229, li_255, li_256, li_265, li_300, li_301, li_330, li_353, li_463, li_720, li_729, li_768, li_999, li_2610, li_2807, li_2867, li_2916, li_4096, li_9999, li_10000, li_30643, li_65535, li_99999, li_1000000, gi_si, gi_sl, gi_sr, gi_ci, gi_cl, gl_si, gl_sl, gl_sr, gl_ci, gl_cl, gr_si, gr_sl, gr_sr, gr_ci, gr_cl, ln_si, ln_sl, ln_sr, ln_ci, ln_cl, ok_si, ok_sl, ok_sr, ok_ci, ok_cl, gp_k hG, gp_l hG, gp_r hG, gp_m hG, Option.some.injEq, exists_eq_left', exists_eq_left, forall_eq, forall_eq', true_and, and_true, if_true, if_false, true_imp_iff, false_imp_iff, not_true_eq_false, not_false_eq_true, false_and, and_false, reduceIte, reduceCtorEq, forall_const, Nat.reduceEqDiff, Nat.reduceAdd, Nat.reduceMul, Nat.reduceSub, Nat.reduceLT, Nat.reduceLeDiff, Nat.reduceMod, Nat.reduceDiv, and_self, ne_eq, exists_const, Nat.add_sub_cancel, nI_add, pk_mul, pk_sub, q_rem, q_div, q_eq, q_le, q_lt, q_cl, q_in, q_m1, q_1m, q_neg, sh1n, bitn, q_mod2, q_neq0, bq_t, bq_f, bq_t2, bq_f2, i01, i10, q_tt, q_ff, ups_e, ups_n, fil_i, fil_o, zq_if, zq_0, zq_1, if_pos, if_neg, hA1, e_isPerson hG hA wn.1, e9]
        have hF : Fq μ (msi (msi (msi μ 315 (75 + 2 * s 4) (nI p)) 315 (76 + 2 * s 4) (nI 0)) 315 4 (nI (s 4 + 1))) := fq_si (fq_si (fq_si (fq_rf μ) 315 _ _ (by omega)) 315 _ _ (by omega)) 315 4 _ (by omega)
        exact k _ hF (mo_row h hF (RowA_si (RowA_si (RowA_si hA (by omega)) (by omega)) (by omega)) (wf_hrd hW hp (by omega) d2) (by unfold hrdS; rw [ups_n (by omega), ups_n (by omega), ups_n (by omega)]))
      · rw [if_neg hb] at k
        have hb' : ¬ b = nI 0 := hb
        simp (disch := first | omega | (simp only [Gp_si, Gp_sl, Gp_ci, Gp_cl]; assumption)) only [li_0, li_1, li_2, li_3, li_4, li_5, li_6, li_7, li_8, li_9, li_10, li_11, li_12, li_13, li_14, li_15, li_16, li_17, li_18, li_19, li_20, li_21, li_22, li_23, li_24, li_25, li_26, li_27, li_28, li_29, li_30, li_32, li_33, li_34, li_35, li_36, li_37, li_38, li_39, li_40, li_41, li_42, li_43, li_44, li_45, li_46, li_47, li_48, li_49, li_50, li_51, li_52, li_53, li_54, li_55, li_56, li_57, li_58, li_59, li_60, li_61, li_62, li_63, li_64, li_65, li_66, li_67, li_68, li_69, li_70, li_71, li_72, li_73, li_74, li_75, li_76, li_77, li_78, li_79, li_80, li_81, li_82, li_83, li_84, li_85, li_86, li_87, li_88, li_89, li_90, li_91, li_92, li_93, li_94, li_95, li_96, li_97, li_98, li_99, li_100, li_101, li_102, li_103, li_104, li_105, li_106, li_107, li_108, li_109, li_110, li_111, li_112, li_113, li_114, li_115, li_116, li_117, li_118, li_119, li_120, li_121, li_122, li_123, li_124, li_125, li_126, li_127, li_128, li_129, li_130, li_134, li_160, li_197, li_229, li_255, li_256, li_265, li_300, li_301, li_330, li_353, li_463, li_720, li_729, li_768, li_999, li_2610, li_2807, li_2867, li_2916, li_4096, li_9999, li_10000, li_30643, li_65535, li_99999, li_1000000, gi_si, gi_sl, gi_sr, gi_ci, gi_cl, gl_si, gl_sl, gl_sr, gl_ci, gl_cl, gr_si, gr_sl, gr_sr, gr_ci, gr_cl, ln_si, ln_sl, ln_sr, ln_ci, ln_cl, ok_si, ok_sl, ok_sr, ok_ci, ok_cl, gp_k hG, gp_l hG, gp_r hG, gp_m hG, Option.some.injEq, exists_eq_left', exists_eq_left, forall_eq, forall_eq', true_and, and_true, if_true, if_false, true_imp_iff, false_imp_iff, not_true_eq_false, not_false_eq_true, false_and, and_false, reduceIte, reduceCtorEq, forall_const, Nat.reduceEqDiff, Nat.reduceAdd, Nat.reduceMul, Nat.reduceSub, Nat.reduceLT, Nat.reduceLeDiff, Nat.reduceMod, Nat.reduceDiv, and_self, ne_eq, exists_const, Nat.add_sub_cancel, nI_add, pk_mul, pk_sub, q_rem, q_div, q_eq, q_le, q_lt, q_cl, q_in, q_m1, q_1m, q_neg, sh1n, bitn, q_mod2, q_neq0, bq_t, bq_f, bq_t2, bq_f2, i01, i10, q_tt, q_ff, ups_e, ups_n, fil_i, fil_o, zq_if, zq_0, zq_1, if_pos, if_neg, hA1, e_isPerson hG hA wn.1, e9, hb']
        have hF : Fq μ (msi (msi (msi μ 315 (75 + 2 * s 4) (nI p)) 315 (76 + 2 * s 4) (nI 1)) 315 4 (nI (s 4 + 1))) := fq_si (fq_si (fq_si (fq_rf μ) 315 _ _ (by omega)) 315 _ _ (by omega)) 315 4 _ (by omega)
        exact k _ hF (mo_row h hF (RowA_si (RowA_si (RowA_si hA (by omega)) (by omega)) (by omega)) (wf_hrd hW hp (by omega) d2) (by unfold hrdS; rw [ups_n (by omega), ups_n (by omega), ups_n (by omega)]))
    · simp only [if_neg d] at k
      have k0 := k μ (fq_rf μ) h
      have d' := of_decide_eq_false (Bool.eq_false_iff.2 d)
      by_cases d1 : 0 ≤ v ∧ v < nI (s 0)
      · have d3 : ¬ s 4 < 8 := fun x => d' ⟨d1, x⟩
        have h4 : mgi μ 315 4 = nI 8 := by rw [hA1 4 (by decide) (by decide), show s 4 = 8 by omega]
        have e4 : (4 : Int32).toNatClampNeg = 4 := by decide
        refine ⟨fun _ => ⟨gp_ok hG (by decide) (by decide), ?_⟩, fun e => absurd e c⟩
        rw [e_isPerson hG hA wn.1, if_pos d1]
        refine ⟨fun e => absurd e (by decide), fun _ => ⟨315, by simp only [gp_r hG], gp_ok hG (by decide) (by decide), by rw [gp_ln hG (n := 2867) (by decide) (by decide)]; exact in_nI (k := 4) (by omega) (by decide), ?_⟩⟩
        rw [e4, h4]
        exact ⟨fun e => absurd rfl e, fun _ => k0⟩
      · refine ⟨fun _ => ⟨gp_ok hG (by decide) (by decide), ?_⟩, fun e => absurd e c⟩
        rw [e_isPerson hG hA wn.1, if_neg d1]
        exact ⟨fun _ => k0, fun e => absurd rfl e⟩
theorem C_said (h : Cl μ s T tn) (k : ∀ ν, Fr xA μ ν → Cl ν (sdT s v u) T tn → Q (sdV s v u) ν) : S_X10_said 0 v u μ Q := by
  have hG := h.1
  have hT := tw_cl h
  have wn := wf_n h.2.1
  have h11 : mgi μ 1 11 = nI (s 5) := h.2.2.1.1.2.2.2.2.2.1
  unfold sdT sdV at k
  unfold S_X10_said B_X10_said_42
  by_cases c : v = -nI 1
  · simp only [if_pos c] at k
    simp (disch := first | omega | (simp only [Gp_si, Gp_sl, Gp_ci, Gp_cl]; assumption)) only [li_0, li_1, li_2, li_3, li_4, li_5, li_6, li_7, li_8, li_9, li_10, li_11, li_12, li_13, li_14, li_15, li_16, li_17, li_18, li_19, li_20, li_21, li_22, li_23, li_24, li_25, li_26, li_27, li_28, li_29, li_30, li_32, li_33, li_34, li_35, li_36, li_37, li_38, li_39, li_40, li_41, li_42, li_43, li_44, li_45, li_46, li_47, li_48, li_49, li_50, li_51, li_52, li_53, li_54, li_55, li_56, li_57, li_58, li_59, li_60, li_61, li_62, li_63, li_64, li_65, li_66, li_67, li_68, li_69, li_70, li_71, li_72, li_73, li_74, li_75, li_76, li_77, li_78, li_79, li_80, li_81, li_82, li_83, li_84, li_85, li_86, li_87, li_88, li_89, li_90, li_91, li_92, li_93, li_94, li_95, li_96, li_97, li_98, li_99, li_100, li_101, li_102, li_103, li_104, li_105, li_106, li_107, li_108, li_109, li_110, li_111, li_112, li_113, li_114, li_115, li_116, li_117, li_118, li_119, li_120, li_121, li_122, li_123, li_124, li_125, li_126, li_127, li_128, li_129, li_130, li_134, li_160, li_197, li_229, li_255, li_256, li_265, li_300, li_301, li_330, li_353, li_463, li_720, li_729, li_768, li_999, li_2610, li_2807, li_2867, li_2916, li_4096, li_9999, li_10000, li_30643, li_65535, li_99999, li_1000000, gi_si, gi_sl, gi_sr, gi_ci, gi_cl, gl_si, gl_sl, gl_sr, gl_ci, gl_cl, gr_si, gr_sl, gr_sr, gr_ci, gr_cl, ln_si, ln_sl, ln_sr, ln_ci, ln_cl, ok_si, ok_sl, ok_sr, ok_ci, ok_cl, gp_k hG, gp_l hG, gp_r hG, gp_m hG, Option.some.injEq, exists_eq_left', exists_eq_left, forall_eq, forall_eq', true_and, and_true, if_true, if_false, true_imp_iff, false_imp_iff, not_true_eq_false, not_false_eq_true, false_and, and_false, reduceIte, reduceCtorEq, forall_const, Nat.reduceEqDiff, Nat.reduceAdd, Nat.reduceMul, Nat.reduceSub, Nat.reduceLT, Nat.reduceLeDiff, Nat.reduceMod, Nat.reduceDiv, and_self, ne_eq, exists_const, Nat.add_sub_cancel, nI_add, pk_mul, pk_sub, q_rem, q_div, q_eq, q_le, q_lt, q_cl, q_in, q_m1, q_1m, q_neg, sh1n, bitn, q_mod2, q_neq0, bq_t, bq_f, bq_t2, bq_f2, i01, i10, q_tt, q_ff, ups_e, ups_n, fil_i, fil_o, zq_if, zq_0, zq_1, if_pos, if_neg, c]
    have hF : Fr xT μ (msi μ 1 11 (nI 0)) := fr_si (fr_rf _ _) 1 11 _ rfl
    exact k _ (fr_ta hF) (cl_late h (tw_c5 hT) hF (fun j hj => ups_n (by omega)))
  · simp only [if_neg c] at k
    by_cases d : sdB s v u = true
    · simp only [if_pos d] at k
      obtain ⟨d1, d3, d2⟩ := of_decide_eq_true d
      obtain ⟨p, hp, rfl⟩ := q_rg (by omega) d1
      obtain ⟨m, hm, rfl⟩ := q_rg2 (by omega) d3
      rw [vt (by omega), vt (by omega)] at k
      simp (disch := first | omega | (simp only [Gp_si, Gp_sl, Gp_ci, Gp_cl]; assumption)) only [li_0, li_1, li_2, li_3, li_4, li_5, li_6, li_7, li_8, li_9, li_10, li_11, li_12, li_13, li_14, li_15, li_16, li_17, li_18, li_19, li_20, li_21, li_22, li_23, li_24, li_25, li_26, li_27, li_28, li_29, li_30, li_32, li_33, li_34, li_35, li_36, li_37, li_38, li_39, li_40, li_41, li_42, li_43, li_44, li_45, li_46, li_47, li_48, li_49, li_50, li_51, li_52, li_53, li_54, li_55, li_56, li_57, li_58, li_59, li_60, li_61, li_62, li_63, li_64, li_65, li_66, li_67, li_68, li_69, li_70, li_71, li_72, li_73, li_74, li_75, li_76, li_77, li_78, li_79, li_80, li_81, li_82, li_83, li_84, li_85, li_86, li_87, li_88, li_89, li_90, li_91, li_92, li_93, li_94, li_95, li_96, li_97, li_98, li_99, li_100, li_101, li_102, li_103, li_104, li_105, li_106, li_107, li_108, li_109, li_110, li_111, li_112, li_113, li_114, li_115, li_116, li_117, li_118, li_119, li_120, li_121, li_122, li_123, li_124, li_125, li_126, li_127, li_128, li_129, li_130, li_134, li_160, li_197, li_229, li_255, li_256, li_265, li_300, li_301, li_330, li_353, li_463, li_720, li_729, li_768, li_999, li_2610, li_2807, li_2867, li_2916, li_4096, li_9999, li_10000, li_30643, li_65535, li_99999, li_1000000, gi_si, gi_sl, gi_sr, gi_ci, gi_cl, gl_si, gl_sl, gl_sr, gl_ci, gl_cl, gr_si, gr_sl, gr_sr, gr_ci, gr_cl, ln_si, ln_sl, ln_sr, ln_ci, ln_cl, ok_si, ok_sl, ok_sr, ok_ci, ok_cl, gp_k hG, gp_l hG, gp_r hG, gp_m hG, Option.some.injEq, exists_eq_left', exists_eq_left, forall_eq, forall_eq', true_and, and_true, if_true, if_false, true_imp_iff, false_imp_iff, not_true_eq_false, not_false_eq_true, false_and, and_false, reduceIte, reduceCtorEq, forall_const, Nat.reduceEqDiff, Nat.reduceAdd, Nat.reduceMul, Nat.reduceSub, Nat.reduceLT, Nat.reduceLeDiff, Nat.reduceMod, Nat.reduceDiv, and_self, ne_eq, exists_const, Nat.add_sub_cancel, nI_add, pk_mul, pk_sub, q_rem, q_div, q_eq, q_le, q_lt, q_cl, q_in, q_m1, q_1m, q_neg, sh1n, bitn, q_mod2, q_neq0, bq_t, bq_f, bq_t2, bq_f2, i01, i10, q_tt, q_ff, ups_e, ups_n, fil_i, fil_o, zq_if, zq_0, zq_1, if_pos, if_neg, e_isPT hT, h11]
      have hF : Fr xT μ (msi (msi (msi μ 9 (s 5) (nI p)) 10 (s 5) (nI m)) 1 11 (nI (s 5 + 1))) := fr_si (fr_si (fr_si (fr_rf _ _) 9 _ _ rfl) 10 _ _ rfl) 1 11 _ rfl
      exact k _ (fr_ta hF) (cl_late h (tw_sd hT hp hm d2) hF (fun j hj => by unfold sdS; rw [ups_n (by omega), ups_n (by omega), ups_n (by omega)]))
    · simp only [if_neg d] at k
      have k0 := k μ (fr_rf _ _) h
      have d' := of_decide_eq_false (Bool.eq_false_iff.2 d)
      by_cases d1 : 0 ≤ v ∧ v < nI (s 0)
      · have d1' : nI 0 ≤ v ∧ v < nI (s 0) := d1
        by_cases d3 : 0 ≤ u ∧ u ≤ nI 999
        · obtain ⟨m, hm, rfl⟩ := q_rg2 (by omega) d3
          have d2 : ¬ s 5 < 8 := fun x => d' ⟨d1, d3, x⟩
          simp (disch := first | omega | (simp only [Gp_si, Gp_sl, Gp_ci, Gp_cl]; assumption)) only [li_0, li_1, li_2, li_3, li_4, li_5, li_6, li_7, li_8, li_9, li_10, li_11, li_12, li_13, li_14, li_15, li_16, li_17, li_18, li_19, li_20, li_21, li_22, li_23, li_24, li_25, li_26, li_27, li_28, li_29, li_30, li_32, li_33, li_34, li_35, li_36, li_37, li_38, li_39, li_40, li_41, li_42, li_43, li_44, li_45, li_46, li_47, li_48, li_49, li_50, li_51, li_52, li_53, li_54, li_55, li_56, li_57, li_58, li_59, li_60, li_61, li_62, li_63, li_64, li_65, li_66, li_67, li_68, li_69, li_70, li_71, li_72, li_73, li_74, li_75, li_76, li_77, li_78, li_79, li_80, li_81, li_82, li_83, li_84, li_85, li_86, li_87, li_88, li_89, li_90, li_91, li_92, li_93, li_94, li_95, li_96, li_97, li_98, li_99, li_100, li_101, li_102, li_103, li_104, li_105, li_106, li_107, li_108, li_109, li_110, li_111, li_112, li_113, li_114, li_115, li_116, li_117, li_118, li_119, li_120, li_121, li_122, li_123, li_124, li_125, li_126, li_127, li_128, li_129, li_130, li_134, li_160, li_197, li_229, li_255, li_256, li_265, li_300, li_301, li_330, li_353, li_463, li_720, li_729, li_768, li_999, li_2610, li_2807, li_2867, li_2916, li_4096, li_9999, li_10000, li_30643, li_65535, li_99999, li_1000000, gi_si, gi_sl, gi_sr, gi_ci, gi_cl, gl_si, gl_sl, gl_sr, gl_ci, gl_cl, gr_si, gr_sl, gr_sr, gr_ci, gr_cl, ln_si, ln_sl, ln_sr, ln_ci, ln_cl, ok_si, ok_sl, ok_sr, ok_ci, ok_cl, gp_k hG, gp_l hG, gp_r hG, gp_m hG, Option.some.injEq, exists_eq_left', exists_eq_left, forall_eq, forall_eq', true_and, and_true, if_true, if_false, true_imp_iff, false_imp_iff, not_true_eq_false, not_false_eq_true, false_and, and_false, reduceIte, reduceCtorEq, forall_const, Nat.reduceEqDiff, Nat.reduceAdd, Nat.reduceMul, Nat.reduceSub, Nat.reduceLT, Nat.reduceLeDiff, Nat.reduceMod, Nat.reduceDiv, and_self, ne_eq, exists_const, Nat.add_sub_cancel, nI_add, pk_mul, pk_sub, q_rem, q_div, q_eq, q_le, q_lt, q_cl, q_in, q_m1, q_1m, q_neg, sh1n, bitn, q_mod2, q_neq0, bq_t, bq_f, bq_t2, bq_f2, i01, i10, q_tt, q_ff, ups_e, ups_n, fil_i, fil_o, zq_if, zq_0, zq_1, if_pos, if_neg, e_isPT hT, h11, c, d1']
          exact k0
        · simp (disch := first | omega | (simp only [Gp_si, Gp_sl, Gp_ci, Gp_cl]; assumption)) only [li_0, li_1, li_2, li_3, li_4, li_5, li_6, li_7, li_8, li_9, li_10, li_11, li_12, li_13, li_14, li_15, li_16, li_17, li_18, li_19, li_20, li_21, li_22, li_23, li_24, li_25, li_26, li_27, li_28, li_29, li_30, li_32, li_33, li_34, li_35, li_36, li_37, li_38, li_39, li_40, li_41, li_42, li_43, li_44, li_45, li_46, li_47, li_48, li_49, li_50, li_51, li_52, li_53, li_54, li_55, li_56, li_57, li_58, li_59, li_60, li_61, li_62, li_63, li_64, li_65, li_66, li_67, li_68, li_69, li_70, li_71, li_72, li_73, li_74, li_75, li_76, li_77, li_78, li_79, li_80, li_81, li_82, li_83, li_84, li_85, li_86, li_87, li_88, li_89, li_90, li_91, li_92, li_93, li_94, li_95, li_96, li_97, li_98, li_99, li_100, li_101, li_102, li_103, li_104, li_105, li_106, li_107, li_108, li_109, li_110, li_111, li_112, li_113, li_114, li_115, li_116, li_117, li_118, li_119, li_120, li_121, li_122, li_123, li_124, li_125, li_126, li_127, li_128, li_129, li_130, li_134, li_160, li_197, li_229, li_255, li_256, li_265, li_300, li_301, li_330, li_353, li_463, li_720, li_729, li_768, li_999, li_2610, li_2807, li_2867, li_2916, li_4096, li_9999, li_10000, li_30643, li_65535, li_99999, li_1000000, gi_si, gi_sl, gi_sr, gi_ci, gi_cl, gl_si, gl_sl, gl_sr, gl_ci, gl_cl, gr_si, gr_sl, gr_sr, gr_ci, gr_cl, ln_si, ln_sl, ln_sr, ln_ci, ln_cl, ok_si, ok_sl, ok_sr, ok_ci, ok_cl, gp_k hG, gp_l hG, gp_r hG, gp_m hG, Option.some.injEq, exists_eq_left', exists_eq_left, forall_eq, forall_eq', true_and, and_true, if_true, if_false, true_imp_iff, false_imp_iff, not_true_eq_false, not_false_eq_true, false_and, and_false, reduceIte, reduceCtorEq, forall_const, Nat.reduceEqDiff, Nat.reduceAdd, Nat.reduceMul, Nat.reduceSub, Nat.reduceLT, Nat.reduceLeDiff, Nat.reduceMod, Nat.reduceDiv, and_self, ne_eq, exists_const, Nat.add_sub_cancel, nI_add, pk_mul, pk_sub, q_rem, q_div, q_eq, q_le, q_lt, q_cl, q_in, q_m1, q_1m, q_neg, sh1n, bitn, q_mod2, q_neq0, bq_t, bq_f, bq_t2, bq_f2, i01, i10, q_tt, q_ff, ups_e, ups_n, fil_i, fil_o, zq_if, zq_0, zq_1, if_pos, if_neg, e_isPT hT, h11, c, d1']
          refine ⟨fun _ => k0, fun x => ⟨fun _ => k0, fun y => absurd ⟨Int32.not_lt.1 x, Int32.not_lt.1 y⟩ d3⟩⟩
      · have d1' : ¬ (nI 0 ≤ v ∧ v < nI (s 0)) := d1
        simp (disch := first | omega | (simp only [Gp_si, Gp_sl, Gp_ci, Gp_cl]; assumption)) only [li_0, li_1, li_2, li_3, li_4, li_5, li_6, li_7, li_8, li_9, li_10, li_11, li_12, li_13, li_14, li_15, li_16, li_17, li_18, li_19, li_20, li_21, li_22, li_23, li_24, li_25, li_26, li_27, li_28, li_29, li_30, li_32, li_33, li_34, li_35, li_36, li_37, li_38, li_39, li_40, li_41, li_42, li_43, li_44, li_45, li_46, li_47, li_48, li_49, li_50, li_51, li_52, li_53, li_54, li_55, li_56, li_57, li_58, li_59, li_60, li_61, li_62, li_63, li_64, li_65, li_66, li_67, li_68, li_69, li_70, li_71, li_72, li_73, li_74, li_75, li_76, li_77, li_78, li_79, li_80, li_81, li_82, li_83, li_84, li_85, li_86, li_87, li_88, li_89, li_90, li_91, li_92, li_93, li_94, li_95, li_96, li_97, li_98, li_99, li_100, li_101, li_102, li_103, li_104, li_105, li_106, li_107, li_108, li_109, li_110, li_111, li_112, li_113, li_114, li_115, li_116, li_117, li_118, li_119, li_120, li_121, li_122, li_123, li_124, li_125, li_126, li_127, li_128, li_129, li_130, li_134, li_160, li_197, li_229, li_255, li_256, li_265, li_300, li_301, li_330, li_353, li_463, li_720, li_729, li_768, li_999, li_2610, li_2807, li_2867, li_2916, li_4096, li_9999, li_10000, li_30643, li_65535, li_99999, li_1000000, gi_si, gi_sl, gi_sr, gi_ci, gi_cl, gl_si, gl_sl, gl_sr, gl_ci, gl_cl, gr_si, gr_sl, gr_sr, gr_ci, gr_cl, ln_si, ln_sl, ln_sr, ln_ci, ln_cl, ok_si, ok_sl, ok_sr, ok_ci, ok_cl, gp_k hG, gp_l hG, gp_r hG, gp_m hG, Option.some.injEq, exists_eq_left', exists_eq_left, forall_eq, forall_eq', true_and, and_true, if_true, if_false, true_imp_iff, false_imp_iff, not_true_eq_false, not_false_eq_true, false_and, and_false, reduceIte, reduceCtorEq, forall_const, Nat.reduceEqDiff, Nat.reduceAdd, Nat.reduceMul, Nat.reduceSub, Nat.reduceLT, Nat.reduceLeDiff, Nat.reduceMod, Nat.reduceDiv, and_self, ne_eq, exists_const, Nat.add_sub_cancel, nI_add, pk_mul, pk_sub, q_rem, q_div, q_eq, q_le, q_lt, q_cl, q_in, q_m1, q_1m, q_neg, sh1n, bitn, q_mod2, q_neq0, bq_t, bq_f, bq_t2, bq_f2, i01, i10, q_tt, q_ff, ups_e, ups_n, fil_i, fil_o, zq_if, zq_0, zq_1, if_pos, if_neg, e_isPT hT, h11, c, d1']
        exact k0
theorem M_said (h : Mo μ s T) (k : ∀ ν, Fq μ ν → Mo ν (sdT s v u) T → Q (sdV s v u) ν) : S_X11_said 314 v u μ Q := by
  obtain ⟨hG, hA, hW, hTx⟩ := id h
  have wn := wf_n hW
  have hA1 := hA.1
  unfold sdT sdV at k
  unfold S_X11_said
  by_cases c : v = -nI 1
  · simp only [if_pos c] at k
    simp (disch := first | omega | (simp only [Gp_si, Gp_sl, Gp_ci, Gp_cl]; assumption)) only [li_0, li_1, li_2, li_3, li_4, li_5, li_6, li_7, li_8, li_9, li_10, li_11, li_12, li_13, li_14, li_15, li_16, li_17, li_18, li_19, li_20, li_21, li_22, li_23, li_24, li_25, li_26, li_27, li_28, li_29, li_30, li_32, li_33, li_34, li_35, li_36, li_37, li_38, li_39, li_40, li_41, li_42, li_43, li_44, li_45, li_46, li_47, li_48, li_49, li_50, li_51, li_52, li_53, li_54, li_55, li_56, li_57, li_58, li_59, li_60, li_61, li_62, li_63, li_64, li_65, li_66, li_67, li_68, li_69, li_70, li_71, li_72, li_73, li_74, li_75, li_76, li_77, li_78, li_79, li_80, li_81, li_82, li_83, li_84, li_85, li_86, li_87, li_88, li_89, li_90, li_91, li_92, li_93, li_94, li_95, li_96, li_97, li_98, li_99, li_100, li_101, li_102, li_103, li_104, li_105, li_106, li_107, li_108, li_109, li_110, li_111, li_112, li_113, li_114, li_115, li_116, li_117, li_118, li_119, li_120, li_121, li_122, li_123, li_124, li_125, li_126, li_127, li_128, li_129, li_130, li_134, li_160, li_197, li_229, li_255, li_256, li_265, li_300, li_301, li_330, li_353, li_463, li_720, li_729, li_768, li_999, li_2610, li_2807, li_2867, li_2916, li_4096, li_9999, li_10000, li_30643, li_65535, li_99999, li_1000000, gi_si, gi_sl, gi_sr, gi_ci, gi_cl, gl_si, gl_sl, gl_sr, gl_ci, gl_cl, gr_si, gr_sl, gr_sr, gr_ci, gr_cl, ln_si, ln_sl, ln_sr, ln_ci, ln_cl, ok_si, ok_sl, ok_sr, ok_ci, ok_cl, gp_k hG, gp_l hG, gp_r hG, gp_m hG, Option.some.injEq, exists_eq_left', exists_eq_left, forall_eq, forall_eq', true_and, and_true, if_true, if_false, true_imp_iff, false_imp_iff, not_true_eq_false, not_false_eq_true, false_and, and_false, reduceIte, reduceCtorEq, forall_const, Nat.reduceEqDiff, Nat.reduceAdd, Nat.reduceMul, Nat.reduceSub, Nat.reduceLT, Nat.reduceLeDiff, Nat.reduceMod, Nat.reduceDiv, and_self, ne_eq, exists_const, Nat.add_sub_cancel, nI_add, pk_mul, pk_sub, q_rem, q_div, q_eq, q_le, q_lt, q_cl, q_in, q_m1, q_1m, q_neg, sh1n, bitn, q_mod2, q_neq0, bq_t, bq_f, bq_t2, bq_f2, i01, i10, q_tt, q_ff, ups_e, ups_n, fil_i, fil_o, zq_if, zq_0, zq_1, if_pos, if_neg, c]
    have hF : Fq μ (msi μ 315 5 (nI 0)) := fq_si (fq_rf μ) 315 5 _ (by omega)
    exact k _ hF (mo_row h hF (RowA_si hA (by omega)) (wf_5 hW) (ups_n (by omega)))
  · simp only [if_neg c] at k
    by_cases d : sdB s v u = true
    · simp only [if_pos d] at k
      obtain ⟨d1, d3, d2⟩ := of_decide_eq_true d
      obtain ⟨p, hp, rfl⟩ := q_rg (by omega) d1
      obtain ⟨m, hm, rfl⟩ := q_rg2 (by omega) d3
      rw [vt (by omega), vt (by omega)] at k
      have e9 : 91 + 2 * s 5 + 1 = 92 + 2 * s 5 := by omega
      simp (disch := first | omega | (simp only [Gp_si, Gp_sl, Gp_ci, Gp_cl]; assumption)) only [li_0, li_1, li_2, li_3, li_4, li_5, li_6, li_7, li_8, li_9, li_10, li_11, li_12, li_13, li_14, li_15, li_16, li_17, li_18, li_19, li_20, li_21, li_22, li_23, li_24, li_25, li_26, li_27, li_28, li_29, li_30, li_32, li_33, li_34, li_35, li_36, li_37, li_38, li_39, li_40, li_41, li_42, li_43, li_44, li_45, li_46, li_47, li_48, li_49, li_50, li_51, li_52, li_53, li_54, li_55, li_56, li_57, li_58, li_59, li_60, li_61, li_62, li_63, li_64, li_65, li_66, li_67, li_68, li_69, li_70, li_71, li_72, li_73, li_74, li_75, li_76, li_77, li_78, li_79, li_80, li_81, li_82, li_83, li_84, li_85, li_86, li_87, li_88, li_89, li_90, li_91, li_92, li_93, li_94, li_95, li_96, li_97, li_98, li_99, li_100, li_101, li_102, li_103, li_104, li_105, li_106, li_107, li_108, li_109, li_110, li_111, li_112, li_113, li_114, li_115, li_116, li_117, li_118, li_119, li_120, li_121, li_122, li_123, li_124, li_125, li_126, li_127, li_128, li_129, li_130, li_134, li_160, li_197, li_229, li_255, li_256, li_265, li_300, li_301, li_330, li_353, li_463, li_720, li_729, li_768, li_999, li_2610, li_2807, li_2867, li_2916, li_4096, li_9999, li_10000, li_30643, li_65535, li_99999, li_1000000, gi_si, gi_sl, gi_sr, gi_ci, gi_cl, gl_si, gl_sl, gl_sr, gl_ci, gl_cl, gr_si, gr_sl, gr_sr, gr_ci, gr_cl, ln_si, ln_sl, ln_sr, ln_ci, ln_cl, ok_si, ok_sl, ok_sr, ok_ci, ok_cl, gp_k hG, gp_l hG, gp_r hG, gp_m hG, Option.some.injEq, exists_eq_left', exists_eq_left, forall_eq, forall_eq', true_and, and_true, if_true, if_false, true_imp_iff, false_imp_iff, not_true_eq_false, not_false_eq_true, false_and, and_false, reduceIte, reduceCtorEq, forall_const, Nat.reduceEqDiff, Nat.reduceAdd, Nat.reduceMul, Nat.reduceSub, Nat.reduceLT, Nat.reduceLeDiff, Nat.reduceMod, Nat.reduceDiv, and_self, ne_eq, exists_const, Nat.add_sub_cancel, nI_add, pk_mul, pk_sub, q_rem, q_div, q_eq, q_le, q_lt, q_cl, q_in, q_m1, q_1m, q_neg, sh1n, bitn, q_mod2, q_neq0, bq_t, bq_f, bq_t2, bq_f2, i01, i10, q_tt, q_ff, ups_e, ups_n, fil_i, fil_o, zq_if, zq_0, zq_1, if_pos, if_neg, hA1, e_isPerson hG hA wn.1, e_isIn, e9]
      have hF : Fq μ (msi (msi (msi μ 315 (91 + 2 * s 5) (nI p)) 315 (92 + 2 * s 5) (nI m)) 315 5 (nI (s 5 + 1))) := fq_si (fq_si (fq_si (fq_rf μ) 315 _ _ (by omega)) 315 _ _ (by omega)) 315 5 _ (by omega)
      exact k _ hF (mo_row h hF (RowA_si (RowA_si (RowA_si hA (by omega)) (by omega)) (by omega)) (wf_sad hW hp hm d2) (by unfold sdS; rw [ups_n (by omega), ups_n (by omega), ups_n (by omega)]))
    · simp only [if_neg d] at k
      have k0 := k μ (fq_rf μ) h
      have d' := of_decide_eq_false (Bool.eq_false_iff.2 d)
      by_cases d1 : 0 ≤ v ∧ v < nI (s 0)
      · have d1' : nI 0 ≤ v ∧ v < nI (s 0) := d1
        by_cases d3 : 0 ≤ u ∧ u ≤ nI 999
        · have d3' : nI 0 ≤ u ∧ u ≤ nI 999 := d3
          have d4 : ¬ s 5 < 8 := fun x => d' ⟨d1, d3, x⟩
          have h4 : mgi μ 315 5 = nI 8 := by rw [hA1 5 (by decide) (by decide), show s 5 = 8 by omega]
          have e4 : (5 : Int32).toNatClampNeg = 5 := by decide
          refine ⟨fun _ => ⟨gp_ok hG (by decide) (by decide), ?_⟩, fun e => absurd e c⟩
          rw [e_isPerson hG hA wn.1, if_pos d1]
          refine ⟨fun e => absurd e (by decide), fun _ => e_isIn.2 ?_⟩
          rw [if_pos (show 0 ≤ u ∧ u ≤ 999 from d3)]
          refine ⟨fun e => absurd e (by decide), fun _ => ⟨315, by simp only [gp_r hG], gp_ok hG (by decide) (by decide), by rw [gp_ln hG (n := 2867) (by decide) (by decide)]; exact in_nI (k := 5) (by omega) (by decide), ?_⟩⟩
          rw [e4, h4]
          exact ⟨fun e => absurd rfl e, fun _ => k0⟩
        · refine ⟨fun _ => ⟨gp_ok hG (by decide) (by decide), ?_⟩, fun e => absurd e c⟩
          rw [e_isPerson hG hA wn.1, if_pos d1]
          refine ⟨fun e => absurd e (by decide), fun _ => e_isIn.2 ?_⟩
          rw [if_neg (show ¬ (0 ≤ u ∧ u ≤ 999) from d3)]
          exact ⟨fun _ => k0, fun e => absurd rfl e⟩
      · refine ⟨fun _ => ⟨gp_ok hG (by decide) (by decide), ?_⟩, fun e => absurd e c⟩
        rw [e_isPerson hG hA wn.1, if_neg d1]
        exact ⟨fun _ => k0, fun e => absurd rfl e⟩
end T5
