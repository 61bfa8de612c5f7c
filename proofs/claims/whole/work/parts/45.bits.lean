/-! bits counted and picked -/
def cntS (c : Nat → Bool) : Nat → Nat
  | 0 => 0
  | n + 1 => cntS c n + (if c n = true then 1 else 0)
theorem cntS_s (c : Nat → Bool) (n : Nat) : cntS c (n + 1) = cntS c n + (if c n = true then 1 else 0) := rfl
theorem cntS_le (c : Nat → Bool) : ∀ n, cntS c n ≤ n
  | 0 => Nat.le_refl 0
  | n + 1 => by
    have := cntS_le c n
    rw [cntS_s]
    split <;> omega
theorem cntS_cong {c d : Nat → Bool} : ∀ {n : Nat}, (∀ p, p < n → c p = d p) → cntS c n = cntS d n
  | 0, _ => rfl
  | n + 1, h => by rw [cntS_s, cntS_s, cntS_cong (fun p hp => h p (by omega)), h n (by omega)]
theorem cntS_ext {c : Nat → Bool} {n : Nat} (h : ∀ q, n ≤ q → c q = false) : ∀ k, cntS c (n + k) = cntS c n
  | 0 => rfl
  | k + 1 => by
    rw [← Nat.add_assoc, cntS_s, cntS_ext h k, h (n + k) (by omega)]
    rfl
theorem pcn_cnt (n : Nat) : pcn n = cntS n.testBit 12 := by
  have e : ∀ k, (if n.testBit k = true then 1 else 0) = n / 2 ^ k % 2 := fun k => (tb_nat n k).symm
  unfold pcn
  simp only [cntS_s, e, show cntS n.testBit 0 = 0 from rfl, Nat.reducePow, Nat.div_one, Nat.zero_add]
theorem pcn_set (c : Nat → Bool) {n : Nat} (hn : n ≤ 12) : pcn (setS c n) = cntS c n := by
  rw [pcn_cnt, show 12 = n + (12 - n) by omega, cntS_ext (fun q hq => by rw [setS_tb, decide_eq_false (by omega)]; rfl)]
  exact cntS_cong (fun p hp => by rw [setS_tb, decide_eq_true hp]; rfl)
theorem and_set (x : Nat) (c : Nat → Bool) (n : Nat) : x &&& setS c n = setS (fun q => x.testBit q && c q) n := by
  apply Nat.eq_of_testBit_eq
  intro i
  rw [Nat.testBit_and, setS_tb, setS_tb]
  cases x.testBit i <;> cases decide (i < n) <;> simp
theorem set_and (x : Nat) (c : Nat → Bool) (n : Nat) : setS c n &&& x = setS (fun q => c q && x.testBit q) n := by
  apply Nat.eq_of_testBit_eq
  intro i
  rw [Nat.testBit_and, setS_tb, setS_tb]
  cases x.testBit i <;> cases decide (i < n) <;> simp
theorem tb_mask (p i : Nat) : (2 ^ p ^^^ 4294967295).testBit i = (decide (i = p) != decide (i < 32)) := by
  rw [Nat.testBit_xor, show 4294967295 = 2 ^ 32 - 1 by decide, Nat.testBit_two_pow_sub_one, Nat.testBit_two_pow]
  simp only [eq_comm]
/-- a set of eight without one -/
theorem tb_wo {x p : Nat} (hx : x < 2 ^ 32) (hp : p < 32) (i : Nat) : (x &&& (2 ^ p ^^^ 4294967295)).testBit i = (x.testBit i && !decide (i = p)) := by
  rw [Nat.testBit_and, tb_mask]
  by_cases hi : i < 32
  · by_cases e : i = p
    · simp [e, hp]
    · simp [e, hi]
  · rw [Nat.testBit_lt_two_pow (Nat.lt_of_lt_of_le hx (Nat.pow_le_pow_right (by decide) (by omega)))]
    simp
theorem set_wo (c : Nat → Bool) {n p : Nat} (hn : n ≤ 32) (hp : p < 32) : setS c n &&& (2 ^ p ^^^ 4294967295) = setS (fun q => c q && !decide (q = p)) n := by
  apply Nat.eq_of_testBit_eq
  intro i
  rw [tb_wo (Nat.lt_of_lt_of_le (setS_lt c n) (Nat.pow_le_pow_right (by decide) hn)) hp, setS_tb, setS_tb]
  cases decide (i < n) <;> simp
/-- a number is the set of its bits -/
theorem set_of {x n : Nat} (h : x < 2 ^ n) : setS x.testBit n = x := by
  apply Nat.eq_of_testBit_eq
  intro i
  rw [setS_tb]
  by_cases hi : i < n
  · simp [hi]
  · rw [Nat.testBit_lt_two_pow (Nat.lt_of_lt_of_le h (Nat.pow_le_pow_right (by decide) (by omega)))]
    simp
theorem pcn_of {x n : Nat} (h : x < 2 ^ n) (hn : n ≤ 12) : pcn x = cntS x.testBit n := by
  rw [← set_of h, pcn_set _ hn]
  exact cntS_cong (fun p hp => by rw [setS_tb]; simp [hp])
theorem bitS_set (c : Nat → Bool) {n p : Nat} (hp : p < n) : bitS (setS c n) p = if c p = true then 1 else 0 := by
  unfold bitS
  rw [setS_tb, decide_eq_true hp]
  rfl
theorem jam_cnt (s : Nat → Nat) (run p : Nat) : ∀ n, jamS s run p n = cntS (fun q => decide (q ≠ p ∧ run.testBit q = true ∧ s (14 + 7 * q) = s (14 + 7 * p))) n
  | 0 => rfl
  | n + 1 => by
    rw [cntS_s, ← jam_cnt s run p n]
    show jamS s run p n + (if n ≠ p ∧ run.testBit n = true ∧ s (14 + 7 * n) = s (14 + 7 * p) then 1 else 0) = jamS s run p n + (if decide (n ≠ p ∧ run.testBit n = true ∧ s (14 + 7 * n) = s (14 + 7 * p)) = true then 1 else 0)
    simp only [decide_eq_true_eq]
/-- the class's count of the others on a road -/
theorem jam_pcn {s : Nat → Nat} {run p n : Nat} (hp : p < n) (hn : n ≤ 8) : pcn (run &&& setS (fun q => s (14 + 7 * q) == s (14 + 7 * p)) n &&& (2 ^ p ^^^ 4294967295)) = jamS s run p n := by
  rw [and_set, set_wo _ (by omega) (by omega), pcn_set _ (by omega), jam_cnt]
  refine cntS_cong (fun q hq => ?_)
  by_cases h1 : q = p
  · simp [h1]
  · by_cases h2 : run.testBit q = true
    · simp [h1, h2]
      by_cases h3 : s (14 + 7 * q) = s (14 + 7 * p) <;> simp [h3]
    · simp [h2]
