/-! the class's town: a day passes now, steps kept and taken back -/
def xT (a : Nat) : Bool := decide (1 ≤ a ∧ a ≤ 135) || decide (299 ≤ a ∧ a ≤ 305)
theorem xT_x {a : Nat} (h : xT a = false) : (a = 0 ∨ 135 < a) ∧ (a < 299 ∨ 305 < a) := by
  unfold xT at h
  simp at h
  omega
theorem xT_o {a : Nat} (h : (a = 0 ∨ 135 < a) ∧ (a < 299 ∨ 305 < a)) : xT a = false := by
  unfold xT
  rw [decide_eq_false (by omega), decide_eq_false (by omega)]
  rfl
theorem xT_i {a : Nat} (h : (1 ≤ a ∧ a ≤ 135) ∨ (299 ≤ a ∧ a ≤ 305)) : xT a = true := by
  cases hx : xT a with
  | true => rfl
  | false =>
    have := xT_x hx
    omega
theorem fr_pt {μ ν : Me} {m : Nat} (hm : (1 ≤ m ∧ m + 3 ≤ 135) ∨ m = 302) (h : Fr (xP m) μ ν) : Fr xT μ ν := fr_mo h (fun a x => by
  have := xT_x x
  exact xP_o (by omega) (by omega) (by omega))
theorem fr_et {μ ν : Me} (h : Fr xE μ ν) : Fr xT μ ν := fr_mo h (fun a x => by
  have := xT_x x
  exact xE_x (by omega) (by omega))
/-- parts of the town, read elsewhere -/
theorem ToldR_x {μ ν : Me} {t : Nat} {s : Nat → Nat} (h : ToldR μ t s) (e : ∀ a q, t ≤ a → a < t + 10 → mgi ν a q = mgi μ a q) : ToldR ν t s := by
  obtain ⟨h1, h2, h3, h4, h5, h6, h7, h8, h9, h10, h11⟩ := h
  refine ⟨(e _ _ (by omega) (by omega)).trans h1, (e _ _ (by omega) (by omega)).trans h2, (e _ _ (by omega) (by omega)).trans h3, (e _ _ (by omega) (by omega)).trans h4, (e _ _ (by omega) (by omega)).trans h5, (e _ _ (by omega) (by omega)).trans h6, fun p hp => ?_, fun r hr => (e _ _ (by omega) (by omega)).trans (h8 r hr), fun p hp => (e _ _ (by omega) (by omega)).trans (h9 p hp), fun i hi => ?_, fun i hi => ?_⟩
  · rw [e _ _ (by omega) (by omega), e _ _ (by omega) (by omega), e _ _ (by omega) (by omega)]
    exact h7 p hp
  · rw [e _ _ (by omega) (by omega), e _ _ (by omega) (by omega)]
    exact h10 i hi
  · rw [e _ _ (by omega) (by omega), e _ _ (by omega) (by omega)]
    exact h11 i hi
theorem StepR_x {μ ν : Me} {m : Nat} {s : Nat → Nat} {i : Nat} (h : StepR μ m s i) (e : ∀ a q, m ≤ a → a < m + 3 → mgi ν a q = mgi μ a q) (el : ∀ q, mgl ν (m + 3) q = mgl μ (m + 3) q) : StepR ν m s i := MomR_x h (fun q => e _ _ (by omega) (by omega)) (fun q => e _ _ (by omega) (by omega)) (fun q => e _ _ (by omega) (by omega)) el
/-- a moment, said otherwise -/
theorem MomR_s {μ : Me} {m n dy rg we xx pg dy' rg' we' xx' pg' : Nat} {due bed late b1 b2 due' bed' late' b1' b2' : Nat → Nat} (h : MomR μ m n dy rg we xx pg due bed late b1 b2) (e1 : dy = dy') (e2 : rg = rg') (e3 : we = we') (e4 : xx = xx') (e5 : pg = pg') (e6 : ∀ p, p < n → due p = due' p) (e7 : ∀ p, p < n → bed p = bed' p) (e8 : ∀ p, p < n → late p = late' p) (e9 : ∀ i, i < pg → b1 i = b1' i ∧ b2 i = b2' i) : MomR μ m n dy' rg' we' xx' pg' due' bed' late' b1' b2' := by
  subst e1 e2 e3 e4 e5
  obtain ⟨c1, c2, c3, c4, c5, c6, c7, c8, c9⟩ := h
  refine ⟨c1, ?_, c3, c4, c5, c6, fun p hp => by rw [← e6 p hp]; exact c7 p hp, fun p hp => ?_, fun i hi => by rw [← (e9 i hi).1, ← (e9 i hi).2]; exact c9 i hi⟩
  · rw [c2]
    congr 1
    exact setS_cong (fun p hp => by rw [e7 p hp])
  · rw [c8 p hp]
    by_cases c : p < n
    · rw [if_pos c, if_pos c, e8 p c]
    · rw [if_neg c, if_neg c]
theorem told_s {μ : Me} {t : Nat} {s s' : Nat → Nat} (h : ToldR μ t s) (h0 : s 0 ≤ 8) (h4 : s 4 ≤ 8) (h5 : s 5 ≤ 8) (e : ∀ j, (j < 6 ∨ (14 ≤ j ∧ j < 67 ∧ 3 ≤ (j - 11) % 7) ∨ (67 ≤ j ∧ j < 107)) → s' j = s j) : ToldR μ t s' := by
  obtain ⟨c1, c2, c3, c4, c5, c6, c7, c8, c9, c10, c11⟩ := h
  refine ⟨by rw [e 0 (by omega)]; exact c1, by rw [e 1 (by omega)]; exact c2, by rw [e 2 (by omega)]; exact c3, by rw [e 3 (by omega)]; exact c4, by rw [e 4 (by omega)]; exact c5, by rw [e 5 (by omega)]; exact c6, fun p hp => ?_, fun r hr => ?_, fun p hp => by rw [e (67 + p) (by omega)]; exact c9 p hp, fun i hi => ?_, fun i hi => ?_⟩
  · rw [e 0 (by omega)] at hp
    rw [e (14 + 7 * p) (by omega), e (15 + 7 * p) (by omega), e (16 + 7 * p) (by omega)]
    exact c7 p hp
  · rw [c8 r hr, e 0 (by omega)]
    congr 1
    exact setS_cong (fun p hp => by rw [e (14 + 7 * p) (by omega)])
  · rw [e 4 (by omega)] at hi
    rw [e (75 + 2 * i) (by omega), e (76 + 2 * i) (by omega)]
    exact c10 i hi
  · rw [e 5 (by omega)] at hi
    rw [e (91 + 2 * i) (by omega), e (92 + 2 * i) (by omega)]
    exact c11 i hi
theorem step_s {μ : Me} {m : Nat} {s s' : Nat → Nat} {i : Nat} (h : StepR μ m s i) (hi : i < 30) (h0 : s 0 ≤ 8) (hpg : s (112 + 90 * i) ≤ 30) (e0 : s' 0 = s 0) (e : ∀ j, 107 ≤ j → j < 2807 → s' j = s j) (e17 : ∀ p, p < s 0 → s' (17 + 7 * p) = s (17 + 7 * p)) : StepR μ m s' i := by
  unfold StepR at h ⊢
  rw [e0]
  refine MomR_s h (e _ (by omega) (by omega)).symm (e _ (by omega) (by omega)).symm (e _ (by omega) (by omega)).symm (e _ (by omega) (by omega)).symm (e _ (by omega) (by omega)).symm (fun p hp => ?_) (fun p hp => ?_) (fun p hp => ?_) (fun q hq => ?_)
  · rw [e (107 + 90 * i) (by omega) (by omega), e (113 + 90 * i + 3 * p) (by omega) (by omega), e17 p hp]
  · rw [e (107 + 90 * i) (by omega) (by omega), e (114 + 90 * i + 3 * p) (by omega) (by omega)]
  · rw [e (107 + 90 * i) (by omega) (by omega), e (115 + 90 * i + 3 * p) (by omega) (by omega)]
  · rw [e (137 + 90 * i + 2 * q) (by omega) (by omega), e (138 + 90 * i + 2 * q) (by omega) (by omega)]
    exact ⟨rfl, rfl⟩
theorem wf_sp {s : Nat → Nat} (hW : WF s) {i : Nat} (hi : i < s 3) : s (112 + 90 * i) ≤ 30 := (hW.2.2.2.2.2.2.2 i hi).2.2.2.2.2.1
section TN
variable {μ : Me} {s : Nat → Nat} {T : Nat → Tx} {tn : Nat} {Q : Int32 → Me → Prop}
/-- the past, where neither its moments nor its row change -/
theorem past_x {ν : Me} {s' : Nat → Nat} (h : PastR μ 1 s) (hW : WF s) (e : ∀ a q, a = 1 ∨ (16 ≤ a ∧ a ≤ 135) → mgi ν a q = mgi μ a q) (el : ∀ a q, 16 ≤ a → a ≤ 135 → mgl ν a q = mgl μ a q) (e0 : s' 0 = s 0) (e3 : s' 3 = s 3) (ef : ∀ j, 107 ≤ j → j < 2807 → s' j = s j) (e17 : ∀ p, p < s 0 → s' (17 + 7 * p) = s (17 + 7 * p)) : PastR ν 1 s' := by
  have w := wf_n hW
  obtain ⟨el0, h1, h2, h3⟩ := h
  refine ⟨el0, h1, (e 1 16 (by omega)).trans h2, fun i hi => ?_⟩
  rw [e3] at hi
  have := Nat.mod_lt (el0 + i) (show 0 < 30 by decide)
  exact step_s (StepR_x (h3 i hi) (fun a q _ _ => e a q (by omega)) (fun q => el _ q (by omega) (by omega))) (by omega) w.1 (wf_sp hW hi) e0 ef e17
theorem tw_tx {ν : Me} {s' : Nat → Nat} (h : Tw μ s T) (k : Fr xT μ ν) (hW : WF s') (e1 : s' 1 = s 1) (hT : TownR ν 1 s') : Tw ν s' T := by
  have w := wf_n h.2.1
  refine ⟨fr_gp h.1 k, hW, hT, fun i hi => ?_⟩
  rw [e1] at hi
  exact TxC_x (by omega) (h.2.2.2 i hi) (fun a q _ _ => k.2.2.2.2.1 a q (xT_o (by omega)))
theorem bit_hi {la n p : Nat} (h : la < 2 ^ n) (hp : n ≤ p) : bitS la p = 0 := by
  rw [bitS_0]
  exact Nat.testBit_lt_two_pow (Nat.lt_of_lt_of_le h (Nat.pow_le_pow_right (by decide) hp))
theorem p_passNow (h : Tw μ s T) (hd : s 6 < 9999) (k : ∀ ν, Fr xT μ ν → Tw ν (passS s T) T → Q (nI (pcn (laS s T))) ν) : S_X1_passOne 301 11 μ Q := by
  obtain ⟨hG, hW, ⟨hTo, hNo, hPa⟩, hTx⟩ := id h
  have w := wf_n hW
  have hq := p2_8 w.1
  have la := la_lt s T
  obtain ⟨c1, c2, c3, c4, c5, c6, c7, c8, c9⟩ := id hNo
  have es : ∀ j, j ≠ 8 → j ≠ 9 → stS s j = s j := fun j h1 h2 => by
    unfold stS
    rw [ups_n h2, ups_n h1]
  have hF1 : Fr xT μ (msi (msi μ 11 2 (nI (s 9 % 10))) 11 4 (nI ((s 9 * 463 + 353) % 30643))) := fr_si (fr_si (fr_rf _ μ) 11 2 _ rfl) 11 4 _ rfl
  have hTw1 : Tw (msi (msi μ 11 2 (nI (s 9 % 10))) 11 4 (nI ((s 9 * 463 + 353) % 30643))) (stS s) T := by
    refine tw_tx h hF1 (wf_st hW) (es 1 (by omega) (by omega)) ⟨?_, ?_, ?_⟩
    · exact told_s (ToldR_x hTo (fun a q _ _ => by rw [gi_si, if_neg (by omega), gi_si, if_neg (by omega)])) w.1 (by omega) (by omega) (fun j hj => es j (by omega) (by omega))
    · show MomR _ 11 (s 0) (s 6) (s 7) (s 9 % 10) ((s 9 * 463 + 353) % 30643) (s 10) _ _ _ _ _
      refine ⟨?_, ?_, ?_, ?_, ?_, ?_, fun p hp => ?_, fun p hp => ?_, fun i hi => ?_⟩
      · rw [gi_si, if_neg (by omega), gi_si, if_neg (by omega)]; exact c1
      · rw [gi_si, if_neg (by omega), gi_si, if_neg (by omega), c2]
        congr 1
        exact setS_cong (fun p hp => by
          show (s (12 + 7 * p) == 1) = (stS s (12 + 7 * p) == 1)
          rw [es _ (by omega) (by omega)])
      · rw [gi_si, if_neg (by omega), gi_si, if_pos ⟨rfl, rfl⟩]
      · rw [gi_si, if_neg (by omega), gi_si, if_neg (by omega)]; exact c4
      · rw [gi_si, if_pos ⟨rfl, rfl⟩]
      · rw [gi_si, if_neg (by omega), gi_si, if_neg (by omega)]; exact c6
      · rw [gi_si, if_neg (by omega), gi_si, if_neg (by omega)]
        show _ = nI (stS s (11 + 7 * p))
        rw [es _ (by omega) (by omega)]
        exact c7 p hp
      · rw [gi_si, if_neg (by omega), gi_si, if_neg (by omega)]
        show _ = nI (if p < s 0 then stS s (13 + 7 * p) else 0)
        rw [es _ (by omega) (by omega)]
        exact c8 p hp
      · rw [gl_si, gl_si]
        show _ = pageL (stS s (2807 + 2 * i)) (stS s (2808 + 2 * i))
        rw [es _ (by omega) (by omega), es _ (by omega) (by omega)]
        exact c9 i hi
    · exact past_x hPa hW (fun a q _ => by rw [gi_si, if_neg (by omega), gi_si, if_neg (by omega)]) (fun a q _ _ => rfl) (es 0 (by omega) (by omega)) (es 3 (by omega) (by omega)) (fun j _ _ => es j (by omega) (by omega)) (fun p _ => es _ (by omega) (by omega))
  have hl : ∀ p, p < 8 → mgi μ (11 + 2) p = nI (if p < s 0 then s (13 + 7 * p) else 0) ∧ (if p < s 0 then s (13 + 7 * p) else 0) < 1000000 := by
    intro p hp
    refine ⟨c8 p hp, ?_⟩
    by_cases c : p < s 0
    · have w2 := wf_p hW c
      rw [if_pos c]
      omega
    · rw [if_neg c]
      omega
  refine p_passOne (s := stS s) (s1 := s) (m := 11) hG (by decide) (by decide) (by omega) hW hd hTw1 (es 0 (by omega) (by omega)).symm (es 2 (by omega) (by omega)).symm (fun p hp => ⟨(es _ (by omega) (by omega)).symm, (es _ (by omega) (by omega)).symm, (es _ (by omega) (by omega)).symm, (es _ (by omega) (by omega)).symm⟩) (fun p hp => (es _ (by omega) (by omega)).symm) c1 c2 c4 c5 c6 (by omega) hl (fun ν hF k0 k1 k2 k3 k4 k8 kd kl kb => ?_)
  have hFt := fr_pt (m := 11) (by omega) hF
  have xe : ∀ a q, a < 299 → (a < 11 ∨ 15 ≤ a) → mgi ν a q = mgi μ a q := fun a q h1 h2 => hF.2.2.2.2.1 a q (xP_o (by omega) (by omega) (by omega))
  have xl : ∀ a q, a < 299 → (a < 11 ∨ 15 ≤ a) → mgl ν a q = mgl μ a q := fun a q h1 h2 => hF.2.2.2.2.2 a q (xP_o (by omega) (by omega) (by omega))
  have p0 : passS s T 0 = s 0 := pas_o (by omega)
  refine k ν hFt (tw_tx h hFt (wf_pas hW la hd) (pas_o (by omega)) ⟨?_, ?_, ?_⟩)
  · exact told_s (ToldR_x hTo (fun a q _ _ => xe a q (by omega) (by omega))) w.1 (by omega) (by omega) (fun j hj => pas_o (by omega))
  · unfold NowR
    rw [p0]
    refine ⟨k0, ?_, k2, k3, k4, ?_, fun p hp => ?_, fun p hp => ?_, fun i hi => ?_⟩
    · rw [k1]
      congr 1
      exact setS_cong (fun p hp => by
        show (s (12 + 7 * p) == 1) = (pasS true s (laS s T) (12 + 7 * p) == 1)
        rw [pas_o (by omega)])
    · rw [k8]
      show _ = nI (pasS true s (laS s T) 10)
      rw [pas_10]
      congr 1
      by_cases c : s 10 = 30
      · rw [if_neg (by omega), if_pos c]
      · rw [if_pos (by omega), if_neg c]
    · rw [kd p]
      show _ = nI (pasS true s (laS s T) (11 + 7 * p))
      rw [pas_o (by omega)]
      exact c7 p hp
    · rw [kl p hp]
      show _ = nI (if p < s 0 then pasS true s (laS s T) (13 + 7 * p) else 0)
      congr 1
      by_cases c : p < s 0
      · rw [if_pos c, if_pos c, pas_l c]
      · rw [if_neg c, if_neg c, bit_hi la (by omega)]
    · have hi2 : i < pasS true s (laS s T) 10 := hi
      rw [pas_10] at hi2
      have hi30 : i < 30 := by
        split at hi2 <;> omega
      have q0 : passS s T (2807 + 2 * i) = if s 10 = 30 then (if i = 29 then pgN s (laS s T) 0 else s (2809 + 2 * i)) else (if i = s 10 then pgN s (laS s T) 0 else s (2807 + 2 * i)) := pas_b (b := 0) w.1 hi30 (by omega)
      have q1 : passS s T (2808 + 2 * i) = if s 10 = 30 then (if i = 29 then pgN s (laS s T) 1 else s (2810 + 2 * i)) else (if i = s 10 then pgN s (laS s T) 1 else s (2808 + 2 * i)) := by
        have := pas_b (s := s) (la := laS s T) (i := i) (b := 1) w.1 hi30 (by omega)
        rw [show 2807 + 2 * i + 1 = 2808 + 2 * i by omega, show 2809 + 2 * i + 1 = 2810 + 2 * i by omega] at this
        exact this
      show mgl ν (11 + 3) i = pageL (passS s T (2807 + 2 * i)) (passS s T (2808 + 2 * i))
      rw [kb i hi30, q0, q1]
      by_cases c : s 10 = 30
      · rw [if_neg (by omega), if_pos c, if_pos c]
        by_cases c29 : i = 29
        · rw [if_pos c29, if_pos c29, if_pos c29]
          rfl
        · rw [if_neg c29, if_neg c29, if_neg c29]
          have : mgl μ 14 (i + 1) = pageL (s (2807 + 2 * (i + 1))) (s (2808 + 2 * (i + 1))) := c9 (i + 1) (by omega)
          rw [show 2807 + 2 * (i + 1) = 2809 + 2 * i by omega, show 2808 + 2 * (i + 1) = 2810 + 2 * i by omega] at this
          exact this
      · rw [if_pos (by omega), if_neg c, if_neg c]
        rw [if_neg c] at hi2
        by_cases c29 : i = s 10
        · rw [if_pos c29, if_pos c29, if_pos c29]
          rfl
        · rw [if_neg c29, if_neg c29, if_neg c29]
          exact c9 i (by omega)
  · exact past_x hPa hW (fun a q _ => xe a q (by omega) (by omega)) (fun a q _ _ => xl a q (by omega) (by omega)) p0 (pas_o (by omega)) (fun j _ _ => pas_o (by omega)) (fun p hp => pas_o (by omega))
end TN
