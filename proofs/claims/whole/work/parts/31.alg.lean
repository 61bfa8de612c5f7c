/-! plain facts: memory read behind a write; numbers and bits -/
theorem gi_si (μ : Me) (o q : Nat) (v : Int32) (a j : Nat) : mgi (msi μ o q v) a j = if a = o ∧ j = q then v else mgi μ a j := rfl
theorem gi_sl (μ : Me) (o q : Nat) (v : Int64) (a j : Nat) : mgi (msl μ o q v) a j = mgi μ a j := rfl
theorem gi_sr (μ : Me) (o q : Nat) (v : Option Nat) (a j : Nat) : mgi (msr μ o q v) a j = mgi μ a j := rfl
theorem gi_ci (μ : Me) (o : Nat) (g : Nat → Int32) (a j : Nat) : mgi (mci μ o g) a j = if a = o then g j else mgi μ a j := rfl
theorem gi_cl (μ : Me) (o : Nat) (g : Nat → Int64) (a j : Nat) : mgi (mcl μ o g) a j = mgi μ a j := rfl
theorem gl_si (μ : Me) (o q : Nat) (v : Int32) (a j : Nat) : mgl (msi μ o q v) a j = mgl μ a j := rfl
theorem gl_sl (μ : Me) (o q : Nat) (v : Int64) (a j : Nat) : mgl (msl μ o q v) a j = if a = o ∧ j = q then v else mgl μ a j := rfl
theorem gl_sr (μ : Me) (o q : Nat) (v : Option Nat) (a j : Nat) : mgl (msr μ o q v) a j = mgl μ a j := rfl
theorem gl_ci (μ : Me) (o : Nat) (g : Nat → Int32) (a j : Nat) : mgl (mci μ o g) a j = mgl μ a j := rfl
theorem gl_cl (μ : Me) (o : Nat) (g : Nat → Int64) (a j : Nat) : mgl (mcl μ o g) a j = if a = o then g j else mgl μ a j := rfl
theorem gr_si (μ : Me) (o q : Nat) (v : Int32) (a j : Nat) : mgr (msi μ o q v) a j = mgr μ a j := rfl
theorem gr_sl (μ : Me) (o q : Nat) (v : Int64) (a j : Nat) : mgr (msl μ o q v) a j = mgr μ a j := rfl
theorem gr_sr (μ : Me) (o q : Nat) (v : Option Nat) (a j : Nat) : mgr (msr μ o q v) a j = if a = o ∧ j = q then v else mgr μ a j := rfl
theorem gr_ci (μ : Me) (o : Nat) (g : Nat → Int32) (a j : Nat) : mgr (mci μ o g) a j = mgr μ a j := rfl
theorem gr_cl (μ : Me) (o : Nat) (g : Nat → Int64) (a j : Nat) : mgr (mcl μ o g) a j = mgr μ a j := rfl
theorem ln_si (μ : Me) (o q : Nat) (v : Int32) (a : Nat) : mln (msi μ o q v) a = mln μ a := rfl
theorem ln_sl (μ : Me) (o q : Nat) (v : Int64) (a : Nat) : mln (msl μ o q v) a = mln μ a := rfl
theorem ln_sr (μ : Me) (o q : Nat) (v : Option Nat) (a : Nat) : mln (msr μ o q v) a = mln μ a := rfl
theorem ln_ci (μ : Me) (o : Nat) (g : Nat → Int32) (a : Nat) : mln (mci μ o g) a = mln μ a := rfl
theorem ln_cl (μ : Me) (o : Nat) (g : Nat → Int64) (a : Nat) : mln (mcl μ o g) a = mln μ a := rfl
theorem ok_si (μ : Me) (o q : Nat) (v : Int32) (a c : Nat) : mok (msi μ o q v) a c = mok μ a c := rfl
theorem ok_sl (μ : Me) (o q : Nat) (v : Int64) (a c : Nat) : mok (msl μ o q v) a c = mok μ a c := rfl
theorem ok_sr (μ : Me) (o q : Nat) (v : Option Nat) (a c : Nat) : mok (msr μ o q v) a c = mok μ a c := rfl
theorem ok_ci (μ : Me) (o : Nat) (g : Nat → Int32) (a c : Nat) : mok (mci μ o g) a c = mok μ a c := rfl
theorem ok_cl (μ : Me) (o : Nat) (g : Nat → Int64) (a c : Nat) : mok (mcl μ o g) a c = mok μ a c := rfl
theorem Gp_si (μ : Me) (o q : Nat) (v : Int32) : Gp (msi μ o q v) = Gp μ := rfl
theorem Gp_sl (μ : Me) (o q : Nat) (v : Int64) : Gp (msl μ o q v) = Gp μ := rfl
theorem Gp_ci (μ : Me) (o : Nat) (g : Nat → Int32) : Gp (mci μ o g) = Gp μ := rfl
theorem Gp_cl (μ : Me) (o : Nat) (g : Nat → Int64) : Gp (mcl μ o g) = Gp μ := rfl
-- numbers
theorem s_l : ∀ n, n < 32 → ((nI n &&& 31).toBitVec.smod 32).toNat = n := by decide +kernel
theorem fa_and (a b : Nat) : nI a &&& nI b = nI (a &&& b) := by
  apply Int32.toBitVec_inj.1
  show BitVec.ofNat 32 a &&& BitVec.ofNat 32 b = BitVec.ofNat 32 (a &&& b)
  apply BitVec.eq_of_getLsbD_eq
  intro i hi
  simp [hi]
theorem fa_or (a b : Nat) : nI a ||| nI b = nI (a ||| b) := by
  apply Int32.toBitVec_inj.1
  show BitVec.ofNat 32 a ||| BitVec.ofNat 32 b = BitVec.ofNat 32 (a ||| b)
  apply BitVec.eq_of_getLsbD_eq
  intro i hi
  simp [hi]
theorem fa_xor (a b : Nat) : nI a ^^^ nI b = nI (a ^^^ b) := by
  apply Int32.toBitVec_inj.1
  show BitVec.ofNat 32 a ^^^ BitVec.ofNat 32 b = BitVec.ofNat 32 (a ^^^ b)
  apply BitVec.eq_of_getLsbD_eq
  intro i hi
  simp [hi]
theorem fa_lit (n : Nat) : (OfNat.ofNat n : Int32) = nI n := rfl
theorem fa_m1 : (-1 : Int32) = nI 4294967295 := by decide
theorem fa_mask (n k : Nat) : nI n &&& nI (2 ^ k - 1) = nI (n % 2 ^ k) := by rw [fa_and, Nat.and_two_pow_sub_one_eq_mod]
theorem an_1 (n : Nat) : nI n &&& 1 = nI (n % 2) := fa_mask n 1
theorem an_255 (n : Nat) : nI n &&& 255 = nI (n % 256) := fa_mask n 8
/-- a set without another -/
theorem an_not (a b : Nat) : nI a &&& (nI b ^^^ (-1)) = nI (a &&& (b ^^^ 4294967295)) := by rw [fa_m1, fa_xor, fa_and]
theorem sh_l {n p : Nat} (hp : p < 32) (h : n * 2 ^ p < 2 ^ 32) : nI n <<< (nI p &&& 31) = nI (n * 2 ^ p) := pk_shlN _ p (s_l p hp) h
theorem sh_1 {p : Nat} (hp : p < 31) : (1 : Int32) <<< (nI p &&& 31) = nI (2 ^ p) := by
  have h2 : (2 : Nat) ^ p < 2 ^ 32 := Nat.pow_lt_pow_right (by decide) (by omega)
  have h := sh_l (n := 1) (p := p) (by omega) (by omega)
  rw [Nat.one_mul] at h
  exact h
theorem sh_r {n p : Nat} (hn : n < 2 ^ 31) (hp : p < 32) : nI n >>> (nI p &&& 31) = nI (n / 2 ^ p) := pk_shrN hn _ p (s_l p hp)
theorem bit_at {n p : Nat} (hn : n < 2 ^ 31) (hp : p < 32) : (nI n >>> (nI p &&& 31)) &&& 1 = nI (n / 2 ^ p % 2) := by rw [sh_r hn hp, an_1]
theorem tb_nat (n p : Nat) : n / 2 ^ p % 2 = if n.testBit p then 1 else 0 := by
  rw [Nat.testBit_eq_decide_div_mod_eq]
  have : n / 2 ^ p % 2 < 2 := Nat.mod_lt _ (by decide)
  by_cases h : n / 2 ^ p % 2 = 1
  · simp [h]
  · simp [h]; omega
theorem bit_is {n p : Nat} (hn : n < 2 ^ 31) (hp : p < 32) : (nI n >>> (nI p &&& 31)) &&& 1 = if n.testBit p then 1 else 0 := by
  rw [bit_at hn hp, tb_nat]
  split <;> rfl
/-- how many bits, of the lowest twelve -/
def pcn (n : Nat) : Nat := n % 2 + n / 2 % 2 + n / 4 % 2 + n / 8 % 2 + n / 16 % 2 + n / 32 % 2 + n / 64 % 2 + n / 128 % 2 + n / 256 % 2 + n / 512 % 2 + n / 1024 % 2 + n / 2048 % 2
theorem pcn_le (n : Nat) : pcn n ≤ 12 := by
  unfold pcn
  omega
theorem pcn_low2 : ∀ a, a < 64 → ∀ b, b < 64 → 64 * a + b ≠ 0 → pcn (64 * a + b) = pcn ((64 * a + b) &&& (64 * a + b - 1)) + 1 ∧ ((64 * a + b) &&& (64 * a + b - 1)) < 64 * a + b := by decide +kernel
theorem pcn_low {k : Nat} (hk : k < 4096) (h0 : k ≠ 0) : pcn k = pcn (k &&& (k - 1)) + 1 ∧ (k &&& (k - 1)) < k := by
  have h := pcn_low2 (k / 64) (by omega) (k % 64) (by omega)
  rw [Nat.div_add_mod] at h
  exact h h0
set_option maxRecDepth 20000 in
theorem bc_2 : ∀ a, a < 64 → ∀ b, b < 64 → S_J6_bitCount_0f7a4 (nI (64 * a + b)) ((fun _ _ => 0), (fun _ _ => 0), (fun _ _ => none), (fun _ => 0), (fun _ => 0), 0) (fun r _ => r = nI (pcn (64 * a + b))) := by
  unfold S_J6_bitCount_0f7a4
  decide +kernel
theorem e_bitCount {k : Nat} (hk : k < 4096) {μ : Me} {Q : Int32 → Me → Prop} : S_J6_bitCount_0f7a4 (nI k) μ Q ↔ Q (nI (pcn k)) μ := by
  have h := bc_2 (k / 64) (by omega) (k % 64) (by omega)
  rw [Nat.div_add_mod] at h
  unfold S_J6_bitCount_0f7a4 at h ⊢
  rw [h]
/-- those of a test, as bits -/
def setS (c : Nat → Bool) : Nat → Nat
  | 0 => 0
  | n + 1 => setS c n ||| (if c n then 2 ^ n else 0)
theorem setS_lt (c : Nat → Bool) : ∀ n, setS c n < 2 ^ n
  | 0 => by show 0 < 2 ^ 0; decide
  | n + 1 => by
    have h := setS_lt c n
    have h2 : (2 : Nat) ^ n < 2 ^ (n + 1) := Nat.pow_lt_pow_right (by decide) (by omega)
    unfold setS
    refine Nat.or_lt_two_pow (by omega) ?_
    split
    · exact h2
    · exact Nat.two_pow_pos _
theorem setS_tb (c : Nat → Bool) : ∀ n p, (setS c n).testBit p = (decide (p < n) && c p)
  | 0, p => by simp [setS]
  | n + 1, p => by
    unfold setS
    rw [Nat.testBit_or, setS_tb c n p]
    by_cases hp : p = n
    · subst hp
      cases hc : c p <;> simp
    · have : (if c n = true then 2 ^ n else 0).testBit p = false := by
        split
        · rw [Nat.testBit_two_pow]; simp [Ne.symm hp]
        · simp
      rw [this]
      have e : (p < n + 1) = (p < n) := by
        apply propext; omega
      simp [e]
theorem setS_cong {c d : Nat → Bool} : ∀ {n : Nat}, (∀ p, p < n → c p = d p) → setS c n = setS d n
  | 0, _ => rfl
  | n + 1, h => by
    unfold setS
    rw [setS_cong (fun p hp => h p (by omega)), h n (by omega)]
