/-! a day passes: the row, the reference -/
theorem late_cong {s s' : Nat → Nat} (h0 : s 0 ≤ 8) (h : ∀ j, (j = 0 ∨ j = 6 ∨ j = 8 ∨ (11 ≤ j ∧ j < 75)) → s' j = s j) (D : Nat → Option Den) (r : Nat) : lateS s' D r = lateS s D r := by
  have env : ∀ p, p < 8 → ∀ hd fa jm, envS s' p hd fa jm = envS s p hd fa jm := by
    intro p hp hd fa jm
    funext k
    unfold envS
    split <;> first | rfl | exact h _ (by omega)
  have hrd : ∀ p, p < 8 → heardS s' r p = heardS s r p := by
    intro p hp
    unfold heardS
    rw [h (67 + p) (by omega)]
  have jam : ∀ run p, p < 8 → ∀ n, n ≤ 8 → jamS s' run p n = jamS s run p n := by
    intro run p hp n
    induction n with
    | zero => intro _; rfl
    | succ n ih =>
      intro hn
      show jamS s' run p n + (if n ≠ p ∧ run.testBit n = true ∧ s' (14 + 7 * n) = s' (14 + 7 * p) then 1 else 0) = jamS s run p n + (if n ≠ p ∧ run.testBit n = true ∧ s (14 + 7 * n) = s (14 + 7 * p) then 1 else 0)
      rw [ih (by omega), h (14 + 7 * n) (by omega), h (14 + 7 * p) (by omega)]
  have run : runnersS s' D r = runnersS s D r := by
    unfold runnersS
    rw [h 0 (by omega)]
    refine setS_cong (fun p hp => ?_)
    unfold runS
    rw [h (12 + 7 * p) (by omega), hrd p (by omega)]
    cases D 0 with
    | none => rfl
    | some f =>
      show (_ && decide (0 < f (envS s' p (heardS s r p) 0 0) r.testBit)) = (_ && decide (0 < f (envS s p (heardS s r p) 0 0) r.testBit))
      rw [env p (by omega)]
  unfold lateS
  rw [h 0 (by omega), run]
  refine setS_cong (fun p hp => ?_)
  rw [h (12 + 7 * p) (by omega), h (11 + 7 * p) (by omega)]
  have : takesR s' D r (runnersS s D r) p = takesR s D r (runnersS s D r) p := by
    unfold takesR takesS
    rw [h 0 (by omega), jam _ p (by omega) (s 0) h0, h (16 + 7 * p) (by omega), h (15 + 7 * p) (by omega)]
    cases D 1 with
    | none => rfl
    | some f =>
      show cutS (f (envS s' p 0 _ _) r.testBit) 999 = cutS (f (envS s p 0 _ _) r.testBit) 999
      rw [env p (by omega)]
  rw [this]
/-- who is late this day -/
def stS (s : Nat → Nat) : Nat → Nat := ups (ups s 8 (s 9 % 10)) 9 ((s 9 * 463 + 353) % 30643)
def laS (s : Nat → Nat) (T : Nat → Tx) : Nat := lateS (stS s) (Dx T (s 2)) (s 7)
theorem la_lt (s : Nat → Nat) (T : Nat → Tx) : laS s T < 2 ^ s 0 := late_lt (stS s) _ _
/-- a page's two numbers -/
def pgN (s : Nat → Nat) (la b : Nat) : Nat := if b = 0 then s 6 * 16 + s 9 % 10 else s 7 * 256 + la
/-- a day passed; w: written down -/
def pasS (w : Bool) (s : Nat → Nat) (la : Nat) : Nat → Nat := fun j => if j = 6 then s 6 + 1 else if j = 7 then la else if j = 8 then s 9 % 10 else if j = 9 then (s 9 * 463 + 353) % 30643 else if j = 10 then (if w = true then (if s 10 = 30 then 30 else s 10 + 1) else s 10) else if 11 ≤ j ∧ j < 11 + 7 * s 0 ∧ (j - 11) % 7 = 2 then s j + bitS la ((j - 11) / 7) else if w = true ∧ 2807 ≤ j ∧ j < 2867 then (if s 10 = 30 then (if (j - 2807) / 2 = 29 then pgN s la ((j - 2807) % 2) else s (j + 2)) else (if (j - 2807) / 2 = s 10 then pgN s la ((j - 2807) % 2) else s j)) else s j
abbrev passS (s : Nat → Nat) (T : Nat → Tx) : Nat → Nat := pasS true s (laS s T)
section PS
variable {s : Nat → Nat} {la : Nat} {w : Bool}
theorem pas_6 : pasS w s la 6 = s 6 + 1 := rfl
theorem pas_7 : pasS w s la 7 = la := rfl
theorem pas_8 : pasS w s la 8 = s 9 % 10 := rfl
theorem pas_9 : pasS w s la 9 = (s 9 * 463 + 353) % 30643 := rfl
theorem pas_10 : pasS true s la 10 = if s 10 = 30 then 30 else s 10 + 1 := rfl
theorem pas_l {p : Nat} (hp : p < s 0) : pasS w s la (13 + 7 * p) = s (13 + 7 * p) + bitS la p := by
  unfold pasS
  rw [if_neg (by omega), if_neg (by omega), if_neg (by omega), if_neg (by omega), if_neg (by omega), if_pos (by omega), show (13 + 7 * p - 11) / 7 = p by omega]
theorem pas_o {j : Nat} (h : j < 6 ∨ (10 < j ∧ (j < 11 + 7 * s 0 → (j - 11) % 7 ≠ 2) ∧ (j < 2807 ∨ 2867 ≤ j))) : pasS w s la j = s j := by
  unfold pasS
  rw [if_neg (by omega), if_neg (by omega), if_neg (by omega), if_neg (by omega), if_neg (by omega), if_neg (by omega), if_neg (by omega)]
theorem pas_b {i b : Nat} (h0 : s 0 ≤ 8) (hi : i < 30) (hb : b < 2) : pasS true s la (2807 + 2 * i + b) = if s 10 = 30 then (if i = 29 then pgN s la b else s (2809 + 2 * i + b)) else (if i = s 10 then pgN s la b else s (2807 + 2 * i + b)) := by
  unfold pasS
  rw [if_neg (by omega), if_neg (by omega), if_neg (by omega), if_neg (by omega), if_neg (by omega), if_neg (by omega), if_pos ⟨rfl, by omega, by omega⟩, show (2807 + 2 * i + b - 2807) / 2 = i by omega, show (2807 + 2 * i + b - 2807) % 2 = b by omega, show 2807 + 2 * i + b + 2 = 2809 + 2 * i + b by omega]
end PS
/-- bounds, where the far part stays -/
theorem wf_x {s s' : Nat → Nat} (h : WF s) (hb : ∀ k, s' k < 2147483648) (hn : s' 0 ≤ 8 ∧ s' 1 ≤ 4 ∧ s' 2 ≤ s' 1 ∧ s' 3 ≤ 30 ∧ s' 4 ≤ 8 ∧ s' 5 ≤ 8 ∧ s' 6 ≤ 9999 ∧ s' 7 < 2 ^ s' 0 ∧ s' 8 ≤ 9 ∧ s' 9 < 30643 ∧ s' 10 ≤ 30) (hp : ∀ p, p < s' 0 → s' (11 + 7 * p) ≤ 99 ∧ s' (12 + 7 * p) ≤ 1 ∧ s' (13 + 7 * p) ≤ s' 6 ∧ s' (14 + 7 * p) ≤ 3 ∧ (1 ≤ s' (15 + 7 * p) ∧ s' (15 + 7 * p) ≤ 99) ∧ (1 ≤ s' (16 + 7 * p) ∧ s' (16 + 7 * p) ≤ 99) ∧ s' (17 + 7 * p) ≤ 99) (hh : ∀ p, p < 8 → s' (67 + p) < 256) (e0 : s 0 ≤ s' 0) (e3 : s' 3 = s 3) (e4 : s' 4 = s 4) (e5 : s' 5 = s 5) (e10 : s' 10 = s 10) (he : ∀ j, 75 ≤ j → s' j = s j) : WF s' := by
  obtain ⟨-, -, -, -, h5, h6, h7, h8⟩ := h
  refine ⟨hb, hn, hp, hh, fun i hi => ?_, fun i hi => ?_, fun i hi => ?_, fun i hi => ?_⟩
  · rw [e4] at hi
    rw [he (75 + 2 * i) (by omega), he (76 + 2 * i) (by omega)]
    have := h5 i hi
    omega
  · rw [e5] at hi
    rw [he (91 + 2 * i) (by omega), he (92 + 2 * i) (by omega)]
    have := h6 i hi
    omega
  · rw [e10] at hi
    rw [he (2807 + 2 * i) (by omega), he (2808 + 2 * i) (by omega)]
    exact h7 i hi
  · rw [e3] at hi
    obtain ⟨a1, a2, a3, a4, a5, a6, a7, a8⟩ := h8 i hi
    rw [he (107 + 90 * i) (by omega), he (108 + 90 * i) (by omega), he (109 + 90 * i) (by omega), he (110 + 90 * i) (by omega), he (111 + 90 * i) (by omega), he (112 + 90 * i) (by omega)]
    refine ⟨by omega, a2, a3, a4, a5, a6, fun p hp => ?_, fun q hq => ?_⟩
    · rw [he _ (by omega), he _ (by omega), he _ (by omega)]
      exact a7 p hp
    · rw [he _ (by omega), he _ (by omega)]
      exact a8 q hq
theorem pas_lt {s : Nat → Nat} (hW : WF s) {la : Nat} (hl : la < 2 ^ s 0) (hd : s 6 < 9999) (w : Bool) (k : Nat) : pasS w s la k < 2147483648 := by
  have wn := wf_n hW
  have hq := p2_8 wn.1
  have hb := wf_b hW
  unfold pasS
  have pb : ∀ b, pgN s la b < 2147483648 := by
    intro b
    unfold pgN
    split <;> omega
  split
  · omega
  · split
    · omega
    · split
      · omega
      · split
        · omega
        · split
          · split
            · split <;> omega
            · omega
          · split
            · rename_i c
              have w2 := wf_p hW (p := (k - 11) / 7) (by omega)
              have e : 13 + 7 * ((k - 11) / 7) = k := by omega
              rw [e] at w2
              have := bitS_le la ((k - 11) / 7)
              omega
            · split
              · split
                · split
                  · exact pb _
                  · exact hb _
                · split
                  · exact pb _
                  · exact hb _
              · exact hb _
theorem wf_pas {s : Nat → Nat} (hW : WF s) {la : Nat} (hl : la < 2 ^ s 0) (hd : s 6 < 9999) : WF (pasS true s la) := by
  have wn := wf_n hW
  have hq := p2_8 wn.1
  obtain ⟨-, -, h3, h4, h5, h6, h7, h8⟩ := id hW
  have e : ∀ j, j < 6 → pasS true s la j = s j := fun j hj => pas_o (by omega)
  have ef : ∀ j, 67 ≤ j → j < 2807 → pasS true s la j = s j := fun j h1 h2 => pas_o (by omega)
  refine ⟨pas_lt hW hl hd true, ?_, fun p hp => ?_, fun p hp => ?_, fun i hi => ?_, fun i hi => ?_, fun i hi => ?_, fun i hi => ?_⟩
  · rw [e 0 (by omega), e 1 (by omega), e 2 (by omega), e 3 (by omega), e 4 (by omega), e 5 (by omega), pas_6, pas_7, pas_8, pas_9, pas_10]
    refine ⟨wn.1, wn.2.1, wn.2.2.1, wn.2.2.2.1, wn.2.2.2.2.1, wn.2.2.2.2.2.1, by omega, hl, by omega, by omega, ?_⟩
    split <;> omega
  · rw [e 0 (by omega)] at hp
    have w2 := wf_p hW hp
    have bl := bitS_le la p
    rw [pas_l hp, pas_6, pas_o (j := 11 + 7 * p) (by omega), pas_o (j := 12 + 7 * p) (by omega), pas_o (j := 14 + 7 * p) (by omega), pas_o (j := 15 + 7 * p) (by omega), pas_o (j := 16 + 7 * p) (by omega), pas_o (j := 17 + 7 * p) (by omega)]
    omega
  · rw [ef _ (by omega) (by omega)]
    exact h4 p hp
  · rw [e 4 (by omega)] at hi
    rw [ef (75 + 2 * i) (by omega) (by omega), ef (76 + 2 * i) (by omega) (by omega), e 0 (by omega)]
    exact h5 i hi
  · rw [e 5 (by omega)] at hi
    rw [ef (91 + 2 * i) (by omega) (by omega), ef (92 + 2 * i) (by omega) (by omega), e 0 (by omega)]
    exact h6 i hi
  · have hi30 : i < 30 := by
      rw [pas_10] at hi
      split at hi <;> omega
    have p0 : pasS true s la (2807 + 2 * i) = if s 10 = 30 then (if i = 29 then pgN s la 0 else s (2809 + 2 * i)) else (if i = s 10 then pgN s la 0 else s (2807 + 2 * i)) := pas_b (b := 0) wn.1 hi30 (by omega)
    have p1 : pasS true s la (2808 + 2 * i) = if s 10 = 30 then (if i = 29 then pgN s la 1 else s (2810 + 2 * i)) else (if i = s 10 then pgN s la 1 else s (2808 + 2 * i)) := by
      have := pas_b (s := s) (la := la) (i := i) (b := 1) wn.1 hi30 (by omega)
      rw [show 2807 + 2 * i + 1 = 2808 + 2 * i by omega, show 2809 + 2 * i + 1 = 2810 + 2 * i by omega] at this
      exact this
    have g0 : pgN s la 0 = s 6 * 16 + s 9 % 10 := rfl
    have g1 : pgN s la 1 = s 7 * 256 + la := rfl
    rw [p0, p1, g0, g1]
    by_cases c : s 10 = 30
    · rw [if_pos c, if_pos c]
      by_cases c2 : i = 29
      · rw [if_pos c2, if_pos c2]
        omega
      · rw [if_neg c2, if_neg c2]
        have := h7 (i + 1) (by omega)
        rw [show 2807 + 2 * (i + 1) = 2809 + 2 * i by omega, show 2808 + 2 * (i + 1) = 2810 + 2 * i by omega] at this
        exact this
    · rw [if_neg c, if_neg c]
      by_cases c2 : i = s 10
      · rw [if_pos c2, if_pos c2]
        omega
      · rw [if_neg c2, if_neg c2]
        rw [pas_10, if_neg c] at hi
        exact h7 i (by omega)
  · rw [e 3 (by omega)] at hi
    obtain ⟨a1, a2, a3, a4, a5, a6, a7, a8⟩ := h8 i hi
    rw [ef (107 + 90 * i) (by omega) (by omega), ef (108 + 90 * i) (by omega) (by omega), ef (109 + 90 * i) (by omega) (by omega), ef (110 + 90 * i) (by omega) (by omega), ef (111 + 90 * i) (by omega) (by omega), ef (112 + 90 * i) (by omega) (by omega), e 0 (by omega)]
    refine ⟨a1, a2, a3, a4, a5, a6, fun p hp => ?_, fun q hq0 => ?_⟩
    · rw [ef _ (by omega) (by omega), ef _ (by omega) (by omega), ef _ (by omega) (by omega)]
      exact a7 p hp
    · rw [ef _ (by omega) (by omega), ef _ (by omega) (by omega)]
      exact a8 q hq0
theorem wf_st {s : Nat → Nat} (hW : WF s) : WF (stS s) := by
  have wn := wf_n hW
  have e : ∀ j, j ≠ 8 → j ≠ 9 → stS s j = s j := fun j h1 h2 => by
    unfold stS
    rw [ups_n h2, ups_n h1]
  have e8 : stS s 8 = s 9 % 10 := rfl
  have e9 : stS s 9 = (s 9 * 463 + 353) % 30643 := rfl
  refine wf_x hW (fun k => ?_) ?_ (fun p hp => ?_) (fun p hp => ?_) (Nat.le_of_eq (e 0 (by omega) (by omega)).symm) (e 3 (by omega) (by omega)) (e 4 (by omega) (by omega)) (e 5 (by omega) (by omega)) (e 10 (by omega) (by omega)) (fun j hj => e j (by omega) (by omega))
  · by_cases c8 : k = 8
    · subst c8
      rw [e8]
      omega
    · by_cases c9 : k = 9
      · subst c9
        rw [e9]
        omega
      · rw [e k c8 c9]
        exact wf_b hW k
  · rw [e 0 (by omega) (by omega), e 1 (by omega) (by omega), e 2 (by omega) (by omega), e 3 (by omega) (by omega), e 4 (by omega) (by omega), e 5 (by omega) (by omega), e 6 (by omega) (by omega), e 7 (by omega) (by omega), e 10 (by omega) (by omega), e8, e9]
    omega
  · rw [e 0 (by omega) (by omega)] at hp
    rw [e (11 + 7 * p) (by omega) (by omega), e (12 + 7 * p) (by omega) (by omega), e (13 + 7 * p) (by omega) (by omega), e (14 + 7 * p) (by omega) (by omega), e (15 + 7 * p) (by omega) (by omega), e (16 + 7 * p) (by omega) (by omega), e (17 + 7 * p) (by omega) (by omega), e 6 (by omega) (by omega)]
    exact wf_p hW hp
  · rw [e (67 + p) (by omega) (by omega)]
    exact wf_h hW hp
