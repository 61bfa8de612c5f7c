/-! where one comes to by F again and again: pigeons, rounds, tails -/
def itF (F : Nat → Nat) : Nat → Nat → Nat
  | 0, r => r
  | n + 1, r => F (itF F n r)
/-- the first from k on, with so much patience -/
def firstN (c : Nat → Bool) : Nat → Nat → Nat
  | 0, k => k
  | f + 1, k => if c k = true then k else firstN c f (k + 1)
def exB (c : Nat → Bool) : Nat → Bool
  | 0 => false
  | n + 1 => exB c n || c n
theorem exB_iff (c : Nat → Bool) : ∀ n, exB c n = true ↔ ∃ k, k < n ∧ c k = true
  | 0 => by simp [exB]
  | n + 1 => by
    unfold exB
    rw [Bool.or_eq_true, exB_iff c n]
    constructor
    · rintro (⟨k, h1, h2⟩ | h)
      · exact ⟨k, by omega, h2⟩
      · exact ⟨n, by omega, h⟩
    · rintro ⟨k, h1, h2⟩
      by_cases e : k = n
      · subst e
        exact Or.inr h2
      · exact Or.inl ⟨k, by omega, h2⟩
theorem exB_no {c : Nat → Bool} {n : Nat} (h : exB c n = false) {k : Nat} (hk : k < n) : c k = false := by
  cases hc : c k with
  | false => rfl
  | true => rw [(exB_iff c n).2 ⟨k, hk, hc⟩] at h; cases h
theorem exB_yes {c : Nat → Bool} {n k : Nat} (hk : k < n) (hc : c k = true) : exB c n = true := (exB_iff c n).2 ⟨k, hk, hc⟩
theorem exB_neg {c : Nat → Bool} {n : Nat} (h : ∀ k, k < n → c k = false) : exB c n = false := by
  cases hc : exB c n with
  | false => rfl
  | true =>
    obtain ⟨k, h1, h2⟩ := (exB_iff c n).1 hc
    rw [h k h1] at h2
    cases h2
theorem exB_cong {c d : Nat → Bool} : ∀ {n : Nat}, (∀ p, p < n → c p = d p) → exB c n = exB d n
  | 0, _ => rfl
  | n + 1, h => by
    unfold exB
    rw [exB_cong (fun p hp => h p (by omega)), h n (by omega)]
theorem firstN_eq {c : Nat → Bool} {i : Nat} : ∀ (f k : Nat), k ≤ i → i < k + f → (∀ n, k ≤ n → n < i → c n = false) → c i = true → firstN c f k = i
  | 0, k, h1, h2, _, _ => by omega
  | f + 1, k, h1, h2, h3, h4 => by
    unfold firstN
    by_cases e : k = i
    · subst e
      rw [if_pos h4]
    · rw [h3 k (Nat.le_refl _) (by omega), if_neg (by decide)]
      exact firstN_eq f (k + 1) (by omega) (by omega) (fun n a b => h3 n (by omega) b) h4
/-- there is a first one -/
theorem firstN_ex {c : Nat → Bool} {m : Nat} (h : c m = true) (k : Nat) (hk : k ≤ m) : ∃ i, k ≤ i ∧ i ≤ m ∧ c i = true ∧ ∀ n, k ≤ n → n < i → c n = false := by
  have key : ∀ f, ∀ k, k ≤ m → m - k ≤ f → ∃ i, k ≤ i ∧ i ≤ m ∧ c i = true ∧ ∀ n, k ≤ n → n < i → c n = false := by
    intro f
    induction f with
    | zero =>
      intro k h1 h2
      have : k = m := by omega
      subst this
      exact ⟨k, Nat.le_refl _, Nat.le_refl _, h, fun n a b => by omega⟩
    | succ f ih =>
      intro k h1 h2
      cases hc : c k with
      | true => exact ⟨k, Nat.le_refl _, h1, hc, fun n a b => by omega⟩
      | false =>
        have : k ≠ m := by
          rintro rfl
          rw [h] at hc
          cases hc
        obtain ⟨i, a1, a2, a3, a4⟩ := ih (k + 1) (by omega) (by omega)
        refine ⟨i, by omega, a2, a3, fun n x y => ?_⟩
        by_cases e : n = k
        · subst e
          exact hc
        · exact a4 n (by omega) y
  exact key (m - k) k hk (Nat.le_refl _)
theorem pig : ∀ (N n : Nat) (g : Nat → Nat), (∀ i, i < n → g i < N) → (∀ i j, i < j → j < n → g i ≠ g j) → n ≤ N
  | 0, n, g, h1, _ => by
    cases n with
    | zero => exact Nat.le_refl _
    | succ n => exact absurd (h1 0 (by omega)) (by omega)
  | N + 1, n, g, h1, h2 => by
    by_cases h : ∃ i, i < n ∧ g i = N
    · obtain ⟨i0, hi, hg⟩ := h
      have := pig N (n - 1) (fun i => if i < i0 then g i else g (i + 1)) (fun i hi2 => by
        show (if i < i0 then g i else g (i + 1)) < N
        by_cases c : i < i0
        · rw [if_pos c]
          have a := h1 i (by omega)
          have b := h2 i i0 c hi
          omega
        · rw [if_neg c]
          have a := h1 (i + 1) (by omega)
          have b := h2 i0 (i + 1) (by omega) (by omega)
          omega) (fun i j hij hj => by
        show (if i < i0 then g i else g (i + 1)) ≠ (if j < i0 then g j else g (j + 1))
        by_cases c : i < i0
        · rw [if_pos c]
          by_cases d : j < i0
          · rw [if_pos d]
            exact h2 i j hij (by omega)
          · rw [if_neg d]
            exact h2 i (j + 1) (by omega) (by omega)
        · rw [if_neg c, if_neg (by omega)]
          exact h2 (i + 1) (j + 1) (by omega) (by omega))
      omega
    · have := pig N n g (fun i hi => by
        have a := h1 i hi
        have b : g i ≠ N := fun e => h ⟨i, hi, e⟩
        omega) h2
      omega
section OR
variable {F : Nat → Nat} {N : Nat}
theorem it_add (F : Nat → Nat) (a : Nat) : ∀ b r, itF F (b + a) r = itF F b (itF F a r)
  | 0, r => by rw [Nat.zero_add]; rfl
  | b + 1, r => by
    rw [show b + 1 + a = (b + a) + 1 by omega]
    show F (itF F (b + a) r) = F (itF F b (itF F a r))
    rw [it_add F a b r]
theorem it_s (F : Nat → Nat) (n r : Nat) : itF F (n + 1) r = itF F n (F r) := it_add F 1 n r
theorem it_lt (hF : ∀ r, r < N → F r < N) {r : Nat} (hr : r < N) : ∀ n, itF F n r < N
  | 0 => hr
  | n + 1 => hF _ (it_lt hF hr n)
theorem it_mul {a x : Nat} (h : itF F a x = x) : ∀ k, itF F (a * k) x = x
  | 0 => by rw [Nat.mul_zero]; rfl
  | k + 1 => by rw [Nat.mul_succ, Nat.add_comm, it_add, it_mul h k, h]
/-- on a round -/
def onC (F : Nat → Nat) (x : Nat) : Prop := ∃ n, 1 ≤ n ∧ itF F n x = x
theorem onC_it {x : Nat} (h : onC F x) (k : Nat) : onC F (itF F k x) := by
  obtain ⟨n, h1, h2⟩ := h
  exact ⟨n, h1, by rw [← it_add, Nat.add_comm, it_add, h2]⟩
theorem onC_inj {x y : Nat} (hx : onC F x) (hy : onC F y) (e : F x = F y) : x = y := by
  obtain ⟨a, a1, a2⟩ := hx
  obtain ⟨b, b1, b2⟩ := hy
  have h1 := it_mul a2 b
  have h2 := it_mul b2 a
  rw [Nat.mul_comm] at h2
  obtain ⟨m, hm⟩ : ∃ m, a * b = m + 1 := ⟨a * b - 1, by have := Nat.mul_pos a1 b1; omega⟩
  rw [hm, it_s] at h1 h2
  rw [← h1, ← h2, e]
/-- it comes again within N -/
theorem it_rep (hF : ∀ r, r < N → F r < N) {r : Nat} (hr : r < N) : ∃ i j, i < j ∧ j ≤ N ∧ itF F i r = itF F j r := by
  by_cases h : ∃ i j, i < j ∧ j ≤ N ∧ itF F i r = itF F j r
  · exact h
  · have := pig N (N + 1) (fun i => itF F i r) (fun i _ => it_lt hF hr i) (fun i j a b e => h ⟨i, j, a, by omega, e⟩)
    omega
theorem it_onC {i j r : Nat} (hij : i < j) (e : itF F i r = itF F j r) : onC F (itF F i r) := ⟨j - i, by omega, by rw [← it_add, show j - i + i = j by omega, ← e]⟩
/-- a way that is not on a round is short -/
theorem off_lt (hF : ∀ r, r < N → F r < N) {r : Nat} (hr : r < N) {n : Nat} (h : ¬ onC F (itF F n r)) : n + 1 < N := by
  obtain ⟨i, j, h1, h2, h3⟩ := it_rep hF hr
  have hc := it_onC h1 h3
  have hoff : ∀ k, k ≤ n → ¬ onC F (itF F k r) := fun k hk hx => h (by
    have := onC_it hx (n - k)
    rw [← it_add, show n - k + k = n by omega] at this
    exact this)
  have := pig N (n + 2) (fun k => if k = n + 1 then itF F i r else itF F k r) (fun k _ => by
    show (if k = n + 1 then itF F i r else itF F k r) < N
    split
    · exact it_lt hF hr _
    · exact it_lt hF hr _) (fun a b hab hb e => by
    have e2 : (if a = n + 1 then itF F i r else itF F a r) = (if b = n + 1 then itF F i r else itF F b r) := e
    rw [if_neg (by omega)] at e2
    by_cases c : b = n + 1
    · rw [if_pos c] at e2
      exact hoff a (by omega) (by rw [e2]; exact hc)
    · rw [if_neg c] at e2
      exact hoff a (by omega) (it_onC hab e2))
  omega
/-- periods are within N -/
theorem per_le (hF : ∀ r, r < N → F r < N) {x : Nat} (hx : x < N) (h : onC F x) : ∃ p, 1 ≤ p ∧ p ≤ N ∧ itF F p x = x ∧ ∀ q, 1 ≤ q → q < p → itF F q x ≠ x := by
  obtain ⟨n, h1, h2⟩ := h
  obtain ⟨p, a1, a2, a3, a4⟩ := firstN_ex (c := fun n => decide (itF F n x = x)) (m := n) (decide_eq_true h2) 1 h1
  have a3' : itF F p x = x := of_decide_eq_true a3
  have a4' : ∀ q, 1 ≤ q → q < p → itF F q x ≠ x := fun q b1 b2 => of_decide_eq_false (a4 q b1 b2)
  refine ⟨p, a1, ?_, a3', a4'⟩
  refine pig N p (fun i => itF F i x) (fun i _ => it_lt hF hx i) (fun i j hij hj e => ?_)
  have e2 : itF F i x = itF F j x := e
  -- then j - i would be a period
  have : itF F (p - i) (itF F i x) = itF F (p - i) (itF F j x) := by rw [e2]
  rw [← it_add, ← it_add, show p - i + i = p by omega, a3', show p - i + j = (j - i) + p by omega, it_add, a3'] at this
  exact a4' (j - i) (by omega) (by omega) this.symm
/-- the period of what comes later on a round -/
theorem per_it {x k p : Nat} (hx : onC F x) (h : itF F p (itF F k x) = itF F k x) : itF F p x = x := by
  obtain ⟨n, h1, h2⟩ := hx
  have h3 := it_mul h2 k
  have hk : k ≤ n * k := Nat.le_mul_of_pos_left k h1
  have : itF F (n * k - k) (itF F p (itF F k x)) = itF F (n * k - k) (itF F k x) := by rw [h]
  rw [← it_add, ← it_add, ← it_add, show n * k - k + k = n * k by omega, h3, show n * k - k + p + k = p + n * k by omega, it_add, h3] at this
  exact this
/-- the reference's test for a round -/
def isR (F : Nat → Nat) (N x : Nat) : Bool := exB (fun n => itF F (n + 1) x == x) (N + 1)
theorem isR_iff (hF : ∀ r, r < N → F r < N) {x : Nat} (hx : x < N) : isR F N x = true ↔ onC F x := by
  unfold isR
  rw [exB_iff]
  constructor
  · rintro ⟨k, -, h⟩
    exact ⟨k + 1, by omega, eq_of_beq h⟩
  · intro h
    obtain ⟨p, h1, h2, h3, -⟩ := per_le hF hx h
    refine ⟨p - 1, by omega, ?_⟩
    rw [show p - 1 + 1 = p by omega, h3]
    exact beq_self_eq_true x
def tailS (F : Nat → Nat) (N r : Nat) : Nat := firstN (fun n => isR F N (itF F n r)) 300 0
def rndS (F : Nat → Nat) (r : Nat) : Nat := firstN (fun n => itF F n (itF F 256 r) == itF F 256 r) 300 1
/-- what the class's way finds: the first that comes again, at j, was there at i -/
def way (F : Nat → Nat) (r i j : Nat) : Prop := i < j ∧ itF F i r = itF F j r ∧ ∀ a b, a < b → b < j → itF F a r ≠ itF F b r
theorem way_le (hF : ∀ r, r < N → F r < N) {r i j : Nat} (hr : r < N) (h : way F r i j) : j ≤ N := pig N j (fun k => itF F k r) (fun k _ => it_lt hF hr k) h.2.2
theorem way_tail (hF : ∀ r, r < N → F r < N) (hN : N ≤ 256) {r i j : Nat} (hr : r < N) (h : way F r i j) : tailS F N r = i := by
  have hj := way_le hF hr h
  obtain ⟨h1, h2, h3⟩ := h
  unfold tailS
  refine firstN_eq 300 0 (Nat.zero_le _) (by omega) (fun n _ hn => ?_) ((isR_iff hF (it_lt hF hr _)).2 (it_onC h1 h2))
  cases hc : isR F N (itF F n r) with
  | false => rfl
  | true =>
    have hc2 := (isR_iff hF (it_lt hF hr _)).1 hc
    -- all from n on is on the round, so that i - 1 and j - 1 agree
    obtain ⟨i', rfl⟩ : ∃ i', i = i' + 1 := ⟨i - 1, by omega⟩
    obtain ⟨j', rfl⟩ : ∃ j', j = j' + 1 := ⟨j - 1, by omega⟩
    have x1 : onC F (itF F i' r) := by
      have := onC_it hc2 (i' - n)
      rw [← it_add, show i' - n + n = i' by omega] at this
      exact this
    have x2 : onC F (itF F j' r) := by
      have := onC_it hc2 (j' - n)
      rw [← it_add, show j' - n + n = j' by omega] at this
      exact this
    exact absurd (onC_inj x1 x2 h2) (h3 i' j' (by omega) (by omega))
theorem way_rnd (hF : ∀ r, r < N → F r < N) (hN : N ≤ 256) {r i j p : Nat} (hr : r < N) (h : way F r i j) (h1 : 1 ≤ p) (h2 : p ≤ N) (h3 : itF F p (itF F j r) = itF F j r) (h4 : ∀ q, 1 ≤ q → q < p → itF F q (itF F j r) ≠ itF F j r) : rndS F r = p := by
  have hj := way_le hF hr h
  have hon : onC F (itF F j r) := ⟨p, h1, h3⟩
  have e : itF F 256 r = itF F (256 - j) (itF F j r) := by rw [← it_add, show 256 - j + j = 256 by omega]
  unfold rndS
  rw [e]
  refine firstN_eq 300 1 h1 (by omega) (fun n a b => ?_) ?_
  · refine beq_false_of_ne (fun x => h4 n a b (per_it hon x))
  · rw [← it_add, Nat.add_comm, it_add, h3]
    exact beq_self_eq_true _
/-- two ways meet soon or never -/
theorem meet_lt (hF : ∀ r, r < N → F r < N) {a b n : Nat} (ha : a < N) (hb : b < N) (h : itF F n a = itF F n b) : ∃ m, m < N ∧ itF F m a = itF F m b := by
  obtain ⟨m, -, m2, m3, m4⟩ := firstN_ex (c := fun n => decide (itF F n a = itF F n b)) (m := n) (decide_eq_true h) 0 (Nat.zero_le _)
  have m3' : itF F m a = itF F m b := of_decide_eq_true m3
  refine ⟨m, ?_, m3'⟩
  cases m with
  | zero => omega
  | succ m =>
    have m5 : itF F m a ≠ itF F m b := of_decide_eq_false (m4 m (by omega) (by omega))
    by_cases ca : onC F (itF F m a)
    · by_cases cb : onC F (itF F m b)
      · exact absurd (onC_inj ca cb m3') m5
      · exact off_lt hF hb cb
    · exact off_lt hF ha ca
/-- one comes to another soon or never -/
theorem come_lt (hF : ∀ r, r < N → F r < N) {a b n : Nat} (ha : a < N) (h : itF F n a = b) : ∃ m, m < N ∧ itF F m a = b := by
  obtain ⟨m, -, m2, m3, m4⟩ := firstN_ex (c := fun n => decide (itF F n a = b)) (m := n) (decide_eq_true h) 0 (Nat.zero_le _)
  have m3' : itF F m a = b := of_decide_eq_true m3
  have m4' : ∀ k, k < m → itF F k a ≠ b := fun k hk => of_decide_eq_false (m4 k (Nat.zero_le _) hk)
  refine ⟨m, ?_, m3'⟩
  have := pig N (m + 1) (fun k => itF F k a) (fun k _ => it_lt hF ha k) (fun i j hij hj e => by
    have e2 : itF F i a = itF F j a := e
    have : itF F (m - j) (itF F i a) = itF F (m - j) (itF F j a) := by rw [e2]
    rw [← it_add, ← it_add, show m - j + j = m by omega, m3'] at this
    exact m4' (m - j + i) (by omega) this)
  omega
/-- the least of a round -/
def minC (F : Nat → Nat) (N r : Nat) : Bool := isR F N r && !exB (fun n => decide (itF F n r < r)) (N + 1)
def roundsS (F : Nat → Nat) (N : Nat) : Nat := cntS (minC F N) N
def basinS (F : Nat → Nat) (N r : Nat) : Nat := cntS (fun a => exB (fun n => itF F n a == r) N) N
def neverS (F : Nat → Nat) (N : Nat) : Nat := cntS (fun v => !exB (fun r => F r == v) N) N
/-- how many first ones of g under n; how many values -/
theorem cnt_first {g : Nat → Nat} {N : Nat} : ∀ n, (∀ r, r < n → g r < N) → cntS (fun r => !exB (fun q => g q == g r) r) n = cntS (fun v => exB (fun r => g r == v) n) N
  | 0, _ => by
    show 0 = _
    have : ∀ N, cntS (fun v => exB (fun r => g r == v) 0) N = 0 := by
      intro N
      induction N with
      | zero => rfl
      | succ N ih => rw [cntS_s, ih]; rfl
    rw [this]
  | n + 1, h => by
    have ih := cnt_first n (fun r hr => h r (by omega))
    have hgn := h n (by omega)
    rw [cntS_s, ih]
    have add : ∀ M, cntS (fun v => exB (fun r => g r == v) (n + 1)) M = cntS (fun v => exB (fun r => g r == v) n) M + (if g n < M ∧ exB (fun q => g q == g n) n = false then 1 else 0) := by
      intro M
      induction M with
      | zero => simp [cntS]
      | succ M ihM =>
        rw [cntS_s, cntS_s, ihM]
        have hx : exB (fun r => g r == M) (n + 1) = (exB (fun r => g r == M) n || (g n == M)) := rfl
        rw [hx]
        by_cases e : g n = M
        · subst e
          cases hb : exB (fun q => g q == g n) n with
          | true => simp [hb]
          | false => simp [hb]
        · have hbeq : (g n == M) = false := beq_false_of_ne e
          rw [hbeq, Bool.or_false]
          have hiff : (g n < M + 1 ∧ exB (fun q => g q == g n) n = false) ↔ (g n < M ∧ exB (fun q => g q == g n) n = false) := ⟨fun x => ⟨by omega, x.2⟩, fun x => ⟨by omega, x.2⟩⟩
          simp only [hiff]
          omega
    rw [add N]
    cases hb : exB (fun q => g q == g n) n with
    | true => simp [hb]
    | false => simp [hb, hgn]
theorem cnt_not (c : Nat → Bool) : ∀ n, cntS c n + cntS (fun v => !c v) n = n
  | 0 => rfl
  | n + 1 => by
    rw [cntS_s, cntS_s]
    have := cnt_not c n
    cases c n <;> simp <;> omega
end OR
