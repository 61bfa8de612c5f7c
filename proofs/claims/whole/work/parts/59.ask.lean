/-! whom to ask: plain facts -/
def wiS (d : Nat → Nat) (n st p : Nat) : Nat := setS (fun i => st.testBit i && (d i).testBit p) n
def woS (d : Nat → Nat) (n st p : Nat) : Nat := setS (fun i => st.testBit i && !(d i).testBit p) n
def minP (g : Nat → Nat) : Nat → Nat
  | 0 => 9
  | p + 1 => if g p < minP g p then g p else minP g p
theorem minP_s (g : Nat → Nat) (p : Nat) : minP g (p + 1) = if g p < minP g p then g p else minP g p := rfl
def cdF (d : Nat → Nat) (n : Nat) (A : Nat → Nat) (st p : Nat) : Nat := if wiS d n st p = 0 ∨ woS d n st p = 0 then 9 else 1 + (if A (wiS d n st p) < A (woS d n st p) then A (woS d n st p) else A (wiS d n st p))
def askF (d : Nat → Nat) (n P : Nat) : Nat → Nat → Nat
  | 0, _ => 0
  | f + 1, st => if pcn st ≤ 1 then 0 else minP (cdF d n (askF d n P f) st) P
def askS (d : Nat → Nat) (n P st : Nat) : Nat := askF d n P (st + 1) st
theorem minP_le9 (g : Nat → Nat) : ∀ p, minP g p ≤ 9
  | 0 => Nat.le_refl _
  | p + 1 => by
    have := minP_le9 g p
    rw [minP_s]
    split <;> omega
theorem minP_le {g : Nat → Nat} : ∀ {P p : Nat}, p < P → minP g P ≤ g p
  | 0, _, h => by omega
  | P + 1, p, h => by
    rw [minP_s]
    by_cases e : p = P
    · subst e
      split <;> omega
    · have := minP_le (g := g) (show p < P by omega)
      split <;> omega
theorem minP_cong {g k : Nat → Nat} : ∀ {P : Nat}, (∀ p, p < P → g p = k p) → minP g P = minP k P
  | 0, _ => rfl
  | P + 1, h => by rw [minP_s, minP_s, h P (by omega), minP_cong (fun p hp => h p (by omega))]
theorem wi_tb (d : Nat → Nat) (n st p i : Nat) : (wiS d n st p).testBit i = (decide (i < n) && (st.testBit i && (d i).testBit p)) := setS_tb _ _ _
theorem wo_tb (d : Nat → Nat) (n st p i : Nat) : (woS d n st p).testBit i = (decide (i < n) && (st.testBit i && !(d i).testBit p)) := setS_tb _ _ _
theorem nz_bit {x : Nat} (h : x ≠ 0) : ∃ i, x.testBit i = true := by
  by_cases c : ∃ i, x.testBit i = true
  · exact c
  · refine absurd (Nat.eq_of_testBit_eq (fun i => ?_)) h
    rw [Nat.zero_testBit]
    cases hb : x.testBit i with
    | false => rfl
    | true => exact absurd ⟨i, hb⟩ c
theorem bit_nz {x i : Nat} (h : x.testBit i = true) : x ≠ 0 := by
  rintro rfl
  rw [Nat.zero_testBit] at h
  cases h
theorem wi_le (d : Nat → Nat) (n st p : Nat) : wiS d n st p ≤ st := by
  have : wiS d n st p = st &&& setS (fun i => (d i).testBit p) n := (and_set _ _ _).symm
  rw [this]
  exact Nat.and_le_left
theorem wo_le (d : Nat → Nat) (n st p : Nat) : woS d n st p ≤ st := by
  have : woS d n st p = st &&& setS (fun i => !(d i).testBit p) n := (and_set _ _ _).symm
  rw [this]
  exact Nat.and_le_left
theorem wi_lt {d : Nat → Nat} {n st p : Nat} (h : woS d n st p ≠ 0) : wiS d n st p < st := by
  refine Nat.lt_of_le_of_ne (wi_le d n st p) (fun e => ?_)
  obtain ⟨i, hi⟩ := nz_bit h
  rw [wo_tb, Bool.and_eq_true, Bool.and_eq_true] at hi
  have h2 := wi_tb d n st p i
  rw [e, hi.2.1] at h2
  have h3 := hi.2.2
  cases hb : (d i).testBit p with
  | false =>
    rw [hb] at h2
    simp at h2
  | true =>
    rw [hb] at h3
    cases h3
theorem wo_lt {d : Nat → Nat} {n st p : Nat} (h : wiS d n st p ≠ 0) : woS d n st p < st := by
  refine Nat.lt_of_le_of_ne (wo_le d n st p) (fun e => ?_)
  obtain ⟨i, hi⟩ := nz_bit h
  rw [wi_tb, Bool.and_eq_true, Bool.and_eq_true] at hi
  have h2 := wo_tb d n st p i
  rw [e, hi.2.1, hi.2.2] at h2
  simp at h2
theorem ask_st (d : Nat → Nat) (n P : Nat) : ∀ m st, st ≤ m → ∀ f g, st < f → st < g → askF d n P f st = askF d n P g st
  | m, st, hm, 0, g, hf, hg => by omega
  | m, st, hm, f + 1, 0, hf, hg => by omega
  | 0, st, hm, f + 1, g + 1, hf, hg => by
    have : st = 0 := by omega
    subst this
    rfl
  | m + 1, st, hm, f + 1, g + 1, hf, hg => by
    show (if pcn st ≤ 1 then 0 else minP (cdF d n (askF d n P f) st) P) = (if pcn st ≤ 1 then 0 else minP (cdF d n (askF d n P g) st) P)
    by_cases c : pcn st ≤ 1
    · rw [if_pos c, if_pos c]
    · rw [if_neg c, if_neg c]
      refine minP_cong (fun p hp => ?_)
      unfold cdF
      by_cases e : wiS d n st p = 0 ∨ woS d n st p = 0
      · rw [if_pos e, if_pos e]
      · have h1 := wi_lt (d := d) (n := n) (st := st) (p := p) (fun x => e (Or.inr x))
        have h2 := wo_lt (d := d) (n := n) (st := st) (p := p) (fun x => e (Or.inl x))
        rw [if_neg e, if_neg e, ask_st d n P m (wiS d n st p) (by omega) f g (by omega) (by omega), ask_st d n P m (woS d n st p) (by omega) f g (by omega) (by omega)]
theorem ask_eq (d : Nat → Nat) (n P st : Nat) : askS d n P st = if pcn st ≤ 1 then 0 else minP (cdF d n (askS d n P) st) P := by
  show (if pcn st ≤ 1 then 0 else minP (cdF d n (askF d n P st) st) P) = _
  by_cases c : pcn st ≤ 1
  · rw [if_pos c, if_pos c]
  · rw [if_neg c, if_neg c]
    refine minP_cong (fun p hp => ?_)
    unfold cdF askS
    by_cases e : wiS d n st p = 0 ∨ woS d n st p = 0
    · rw [if_pos e, if_pos e]
    · have h1 := wi_lt (d := d) (n := n) (st := st) (p := p) (fun x => e (Or.inr x))
      have h2 := wo_lt (d := d) (n := n) (st := st) (p := p) (fun x => e (Or.inl x))
      rw [if_neg e, if_neg e, ask_st d n P st (wiS d n st p) (by omega) st (wiS d n st p + 1) (by omega) (by omega), ask_st d n P st (woS d n st p) (by omega) st (woS d n st p + 1) (by omega) (by omega)]
theorem ask_9 (d : Nat → Nat) (n P st : Nat) : askS d n P st ≤ 9 := by
  rw [ask_eq]
  split
  · omega
  · exact minP_le9 _ _
theorem cnt_1 {c : Nat → Bool} : ∀ {n : Nat}, 1 ≤ cntS c n → ∃ i, i < n ∧ c i = true
  | 0, h => absurd h (by show ¬ 1 ≤ 0; omega)
  | n + 1, h => by
    rw [cntS_s] at h
    by_cases e : c n = true
    · exact ⟨n, by omega, e⟩
    · rw [if_neg e] at h
      obtain ⟨i, h1, h2⟩ := cnt_1 (c := c) (n := n) (by omega)
      exact ⟨i, by omega, h2⟩
theorem cnt_2 {c : Nat → Bool} : ∀ {n : Nat}, 2 ≤ cntS c n → ∃ i j, i < j ∧ j < n ∧ c i = true ∧ c j = true
  | 0, h => absurd h (by show ¬ 2 ≤ 0; omega)
  | n + 1, h => by
    rw [cntS_s] at h
    by_cases e : c n = true
    · rw [if_pos e] at h
      obtain ⟨i, h1, h2⟩ := cnt_1 (c := c) (n := n) (by omega)
      exact ⟨i, n, h1, by omega, h2, e⟩
    · rw [if_neg e] at h
      obtain ⟨i, j, h1, h2, h3, h4⟩ := cnt_2 (c := c) (n := n) (by omega)
      exact ⟨i, j, h1, by omega, h3, h4⟩
theorem cnt_mono {c d : Nat → Bool} : ∀ {n : Nat}, (∀ q, q < n → c q = true → d q = true) → cntS c n ≤ cntS d n
  | 0, _ => Nat.le_refl _
  | n + 1, h => by
    have := cnt_mono (c := c) (d := d) (n := n) (fun q hq => h q (by omega))
    rw [cntS_s, cntS_s]
    by_cases e : c n = true
    · rw [if_pos e, if_pos (h n (by omega) e)]
      omega
    · rw [if_neg e]
      omega
theorem cnt_lt {c d : Nat → Bool} {p : Nat} (hc : c p = false) (hd : d p = true) : ∀ {n : Nat}, p < n → (∀ q, q < n → c q = true → d q = true) → cntS c n + 1 ≤ cntS d n
  | 0, hp, _ => by omega
  | n + 1, hp, h => by
    rw [cntS_s, cntS_s]
    by_cases e : p = n
    · subst e
      rw [hc, hd]
      have := cnt_mono (c := c) (d := d) (n := p) (fun q hq => h q (by omega))
      simp
      omega
    · have := cnt_lt hc hd (n := n) (by omega) (fun q hq => h q (by omega))
      by_cases e : c n = true
      · rw [if_pos e, if_pos (h n (by omega) e)]
        omega
      · rw [if_neg e]
        omega
section AK
variable {d : Nat → Nat} {n P : Nat}
def vrS (d : Nat → Nat) (n P st : Nat) : Nat := cntS (fun p => decide (wiS d n st p ≠ 0 ∧ woS d n st p ≠ 0)) P
/-- some person tells two days apart -/
theorem split_ex (hn : n ≤ 12) (hd : ∀ i, i < n → d i < 2 ^ P) (hi : ∀ i j, i < j → j < n → d i ≠ d j) {st : Nat} (hs : st < 2 ^ n) (h2 : 2 ≤ pcn st) : ∃ p, p < P ∧ wiS d n st p ≠ 0 ∧ woS d n st p ≠ 0 := by
  rw [pcn_of hs hn] at h2
  obtain ⟨i, j, h3, h4, h5, h6⟩ := cnt_2 h2
  have hne := hi i j h3 h4
  have hex : ∃ p, p < P ∧ (d i).testBit p ≠ (d j).testBit p := by
    by_cases c : ∃ p, p < P ∧ (d i).testBit p ≠ (d j).testBit p
    · exact c
    · refine absurd (Nat.eq_of_testBit_eq (fun p => ?_)) hne
      by_cases hp : p < P
      · by_cases e : (d i).testBit p = (d j).testBit p
        · exact e
        · exact absurd ⟨p, hp, e⟩ c
      · rw [Nat.testBit_lt_two_pow (Nat.lt_of_lt_of_le (hd i (by omega)) (Nat.pow_le_pow_right (by decide) (by omega))), Nat.testBit_lt_two_pow (Nat.lt_of_lt_of_le (hd j h4) (Nat.pow_le_pow_right (by decide) (by omega)))]
  obtain ⟨p, hp, hb⟩ := hex
  refine ⟨p, hp, ?_⟩
  have hi2 : decide (i < n) = true := decide_eq_true (by omega)
  have hj2 : decide (j < n) = true := decide_eq_true h4
  cases hbi : (d i).testBit p with
  | true =>
    have hbj : (d j).testBit p = false := by
      cases x : (d j).testBit p with
      | false => rfl
      | true => rw [hbi, x] at hb; exact absurd rfl hb
    exact ⟨bit_nz (i := i) (by rw [wi_tb, hi2, h5, hbi]; rfl), bit_nz (i := j) (by rw [wo_tb, hj2, h6, hbj]; rfl)⟩
  | false =>
    have hbj : (d j).testBit p = true := by
      cases x : (d j).testBit p with
      | true => rfl
      | false => rw [hbi, x] at hb; exact absurd rfl hb
    exact ⟨bit_nz (i := j) (by rw [wi_tb, hj2, h6, hbj]; rfl), bit_nz (i := i) (by rw [wo_tb, hi2, h5, hbi]; rfl)⟩
theorem sub_nz {st su q : Nat} (h : ∀ i, su.testBit i = true → st.testBit i = true) : (wiS d n su q ≠ 0 → wiS d n st q ≠ 0) ∧ (woS d n su q ≠ 0 → woS d n st q ≠ 0) := by
  constructor
  · intro x
    obtain ⟨i, hi⟩ := nz_bit x
    rw [wi_tb, Bool.and_eq_true, Bool.and_eq_true] at hi
    exact bit_nz (i := i) (by rw [wi_tb, hi.1, h i hi.2.1, hi.2.2]; rfl)
  · intro x
    obtain ⟨i, hi⟩ := nz_bit x
    rw [wo_tb, Bool.and_eq_true, Bool.and_eq_true] at hi
    exact bit_nz (i := i) (by rw [wo_tb, hi.1, h i hi.2.1, hi.2.2]; rfl)
theorem ask_vr (hn : n ≤ 12) (hd : ∀ i, i < n → d i < 2 ^ P) (hi : ∀ i j, i < j → j < n → d i ≠ d j) : ∀ m st, st ≤ m → st < 2 ^ n → askS d n P st ≤ vrS d n P st
  | m, st, hm, hs => by
    rw [ask_eq]
    by_cases c : pcn st ≤ 1
    · rw [if_pos c]
      exact Nat.zero_le _
    · rw [if_neg c]
      obtain ⟨p, hp, h1, h2⟩ := split_ex hn hd hi hs (by omega)
      have l1 := wi_lt h2
      have l2 := wo_lt h1
      have hmin := minP_le (g := cdF d n (askS d n P) st) hp
      have hcd : cdF d n (askS d n P) st p = 1 + (if askS d n P (wiS d n st p) < askS d n P (woS d n st p) then askS d n P (woS d n st p) else askS d n P (wiS d n st p)) := by
        unfold cdF
        rw [if_neg (fun x => x.elim h1 h2)]
      have sb1 : ∀ i, (wiS d n st p).testBit i = true → st.testBit i = true := fun i hx => by
        rw [wi_tb, Bool.and_eq_true, Bool.and_eq_true] at hx
        exact hx.2.1
      have sb2 : ∀ i, (woS d n st p).testBit i = true → st.testBit i = true := fun i hx => by
        rw [wo_tb, Bool.and_eq_true, Bool.and_eq_true] at hx
        exact hx.2.1
      have z1 : woS d n (wiS d n st p) p = 0 := by
        by_cases e : woS d n (wiS d n st p) p = 0
        · exact e
        · obtain ⟨i, hx⟩ := nz_bit e
          rw [wo_tb, wi_tb] at hx
          cases hb : (d i).testBit p <;> rw [hb] at hx <;> simp at hx
      have z2 : wiS d n (woS d n st p) p = 0 := by
        by_cases e : wiS d n (woS d n st p) p = 0
        · exact e
        · obtain ⟨i, hx⟩ := nz_bit e
          rw [wi_tb, wo_tb] at hx
          cases hb : (d i).testBit p <;> rw [hb] at hx <;> simp at hx
      have v1 : vrS d n P (wiS d n st p) + 1 ≤ vrS d n P st := cnt_lt (p := p) (decide_eq_false (fun x => x.2 z1)) (decide_eq_true ⟨h1, h2⟩) hp (fun q _ hx => by
        have hx2 := of_decide_eq_true hx
        exact decide_eq_true ⟨(sub_nz sb1).1 hx2.1, (sub_nz sb1).2 hx2.2⟩)
      have v2 : vrS d n P (woS d n st p) + 1 ≤ vrS d n P st := cnt_lt (p := p) (decide_eq_false (fun x => x.1 z2)) (decide_eq_true ⟨h1, h2⟩) hp (fun q _ hx => by
        have hx2 := of_decide_eq_true hx
        exact decide_eq_true ⟨(sub_nz sb2).1 hx2.1, (sub_nz sb2).2 hx2.2⟩)
      cases m with
      | zero => omega
      | succ m =>
        have i1 := ask_vr hn hd hi m (wiS d n st p) (by omega) (by omega)
        have i2 := ask_vr hn hd hi m (woS d n st p) (by omega) (by omega)
        rw [hcd] at hmin
        split at hmin <;> omega
theorem ask_8 (hn : n ≤ 12) (hP : P ≤ 8) (hd : ∀ i, i < n → d i < 2 ^ P) (hi : ∀ i j, i < j → j < n → d i ≠ d j) {st : Nat} (hs : st < 2 ^ n) : askS d n P st ≤ 8 := by
  have h1 := ask_vr hn hd hi st st (Nat.le_refl _) hs
  have h2 : vrS d n P st ≤ P := cntS_le _ _
  omega
/-- the reference's way: from afar -/
def cmF (d : Nat → Nat) (n : Nat) (A : Nat → Nat) (st p : Nat) : Nat := if wiS d n st p = 0 ∨ woS d n st p = 0 then 1000000 else 1 + (if A (wiS d n st p) < A (woS d n st p) then A (woS d n st p) else A (wiS d n st p))
def minM (g : Nat → Nat) : Nat → Nat
  | 0 => 1000000
  | p + 1 => if g p < minM g p then g p else minM g p
theorem minM_s (g : Nat → Nat) (p : Nat) : minM g (p + 1) = if g p < minM g p then g p else minM g p := rfl
theorem minM_le9 (g : Nat → Nat) : ∀ p, minM g p ≤ 1000000
  | 0 => Nat.le_refl _
  | p + 1 => by
    have := minM_le9 g p
    rw [minM_s]
    split <;> omega
theorem cm_cd (hn : n ≤ 12) (hP : P ≤ 8) (hd : ∀ i, i < n → d i < 2 ^ P) (hi : ∀ i j, i < j → j < n → d i ≠ d j) {st : Nat} (hs : st < 2 ^ n) (p : Nat) : (cdF d n (askS d n P) st p = 9 ∧ cmF d n (askS d n P) st p = 1000000) ∨ (cdF d n (askS d n P) st p = cmF d n (askS d n P) st p ∧ cmF d n (askS d n P) st p ≤ 9) := by
  unfold cdF cmF
  by_cases e : wiS d n st p = 0 ∨ woS d n st p = 0
  · rw [if_pos e, if_pos e]
    exact Or.inl ⟨rfl, rfl⟩
  · rw [if_neg e, if_neg e]
    have h1 := ask_8 hn hP hd hi (st := wiS d n st p) (Nat.lt_of_le_of_lt (wi_le d n st p) hs)
    have h2 := ask_8 hn hP hd hi (st := woS d n st p) (Nat.lt_of_le_of_lt (wo_le d n st p) hs)
    refine Or.inr ⟨rfl, ?_⟩
    split <;> omega
theorem min_rel (hn : n ≤ 12) (hP : P ≤ 8) (hd : ∀ i, i < n → d i < 2 ^ P) (hi : ∀ i j, i < j → j < n → d i ≠ d j) {st : Nat} (hs : st < 2 ^ n) : ∀ p, minP (cdF d n (askS d n P) st) p = (if minM (cmF d n (askS d n P) st) p < 9 then minM (cmF d n (askS d n P) st) p else 9)
  | 0 => rfl
  | p + 1 => by
    have ih := min_rel hn hP hd hi hs p
    have hc := cm_cd hn hP hd hi hs p
    rw [minP_s, minM_s, ih]
    rcases hc with ⟨h1, h2⟩ | ⟨h1, h2⟩
    · rw [h1, h2]
      have := minM_le9 (cmF d n (askS d n P) st) p
      generalize minM (cmF d n (askS d n P) st) p = y at *
      by_cases a : y < 9
      · simp only [if_pos a, if_neg (show ¬ 9 < y by omega), if_neg (show ¬ 1000000 < y by omega)]
      · simp only [if_neg a, if_neg (show ¬ 9 < 9 by omega), if_neg (show ¬ 1000000 < y by omega)]
    · rw [h1]
      generalize cmF d n (askS d n P) st p = x at *
      generalize minM (cmF d n (askS d n P) st) p = y at *
      by_cases a : y < 9
      · rw [if_pos a]
        by_cases b : x < y
        · simp only [if_pos b, if_pos (show x < 9 by omega)]
        · rw [if_neg b, if_pos a]
      · by_cases b : x < y
        · by_cases c : x < 9
          · simp only [if_neg a, if_pos b, if_pos c]
          · simp only [if_neg a, if_pos b, if_neg c]
        · simp only [if_neg a, if_neg b, if_neg (show ¬ x < 9 by omega)]
/-- asked enough, both ways agree -/
theorem min_eq (hn : n ≤ 12) (hP : P ≤ 8) (hd : ∀ i, i < n → d i < 2 ^ P) (hi : ∀ i j, i < j → j < n → d i ≠ d j) {st : Nat} (hs : st < 2 ^ n) (h2 : ¬ pcn st ≤ 1) : minM (cmF d n (askS d n P) st) P = askS d n P st := by
  have h8 := ask_8 hn hP hd hi hs
  have he := ask_eq d n P st
  rw [if_neg h2, min_rel hn hP hd hi hs P] at he
  by_cases a : minM (cmF d n (askS d n P) st) P < 9
  · rw [if_pos a] at he
    exact he.symm
  · rw [if_neg a] at he
    omega
/-- the first who is asked best -/
def ffS (d : Nat → Nat) (n P st : Nat) : Nat := firstN (fun p => decide (cdF d n (askS d n P) st p = askS d n P st)) 300 0
end AK
