/-! every sum read is good: how far it goes, what it writes, what may come next -/
theorem opM_a {k : Nat} (h1 : 30 ≤ k) (h2 : k < 34) : opM k = k - 24 ∧ (∀ x y, bdI k x y = twoI (k - 24) x y) := by
  constructor
  · unfold opM
    rw [if_neg (by omega), if_neg (by omega), if_neg (by omega), if_pos h2]
  · intro x y
    unfold bdI
    rw [if_neg (by omega), if_pos h2]
theorem opM_c {k : Nat} (h1 : 37 ≤ k) (h2 : k < 43) : opM k = cmI k ∧ 10 ≤ cmI k ∧ cmI k < 16 ∧ (∀ x y, bdI k x y = ((bN (askI (cmI k) x y) : Nat) : Int)) := by
  refine ⟨?_, ?_, ?_, ?_⟩
  · unfold opM
    rw [if_neg (by omega), if_neg (by omega), if_neg (by omega), if_neg (by omega)]
  · have : k = 37 ∨ k = 38 ∨ k = 39 ∨ k = 40 ∨ k = 41 ∨ k = 42 := by omega
    rcases this with h | h | h | h | h | h <;> rw [h] <;> decide
  · have : k = 37 ∨ k = 38 ∨ k = 39 ∨ k = 40 ∨ k = 41 ∨ k = 42 := by omega
    rcases this with h | h | h | h | h | h <;> rw [h] <;> decide
  · intro x y
    unfold bdI
    rw [if_neg (by omega), if_neg (by omega)]
theorem opM_j {k : Nat} (h1 : 22 ≤ k) (h2 : k < 25) : 21 ≤ opM k ∧ opM k < 24 ∧ (∀ x y, joinI (opM k) x y = jnI k x y) ∧ (∀ x y, bdI k x y = ((bN (jnI k (decide (x = 1)) (decide (y = 1))) : Nat) : Int)) := by
  have h3 : k = 22 ∨ k = 23 ∨ k = 24 := by omega
  refine ⟨?_, ?_, ?_, ?_⟩
  · rcases h3 with h | h | h <;> rw [h] <;> decide
  · rcases h3 with h | h | h <;> rw [h] <;> decide
  · rcases h3 with h | h | h <;> rw [h] <;> decide
  · intro x y
    unfold bdI
    rw [if_pos h2]
section PG
variable {e : Nat → Nat} {R : Nat → Bool} {i h : Nat} {w : Nat → Int} {k : Nat}
theorem stC_a (h1 : 30 ≤ k) (h2 : k < 34) : stC e R k 0 (i, h + 2, w) = some (i + 1, h + 1, upI w h (twoI (k - 24) (w h) (w (h + 1)))) := by
  unfold stC
  dsimp only
  rw [if_neg (by omega), if_neg (by omega), if_neg (by omega), if_neg (by omega), if_neg (by omega), if_neg (by omega), if_neg (by omega), if_neg (by omega), if_pos ⟨h1, h2⟩, if_pos (by omega)]
  rfl
theorem stC_c (h1 : 37 ≤ k) (h2 : k < 43) : stC e R k 0 (i, h + 2, w) = some (i + 1, h + 1, upI w h ((bN (askI (cmI k) (w h) (w (h + 1))) : Nat) : Int)) := by
  unfold stC
  dsimp only
  rw [if_neg (by omega), if_neg (by omega), if_neg (by omega), if_neg (by omega), if_neg (by omega), if_neg (by omega), if_neg (by omega), if_pos ⟨h1, h2⟩, if_pos (by omega)]
  rfl
theorem stC_j (h1 : 22 ≤ k) (h2 : k < 25) (t1 : tr (w h)) (t2 : tr (w (h + 1))) : stC e R k 0 (i, h + 2, w) = some (i + 1, h + 1, upI w h ((bN (jnI k (decide (w h = 1)) (decide (w (h + 1) = 1))) : Nat) : Int)) := by
  unfold stC
  dsimp only
  rw [if_neg (by omega), if_neg (by omega), if_neg (by omega), if_neg (by omega), if_neg (by omega), if_neg (by omega), if_neg (by omega), if_neg (by omega), if_neg (by omega), if_pos ⟨h1, h2⟩, if_pos ⟨by omega, t1, t2⟩]
  rfl
theorem stC_60 : stC e R 60 0 (i, h + 1, w) = some (i + 1, h + 1, upI w h (-(w h))) := by
  unfold stC
  dsimp only
  rw [if_neg (by omega), if_neg (by omega), if_neg (by omega), if_neg (by omega), if_pos rfl, if_pos (by omega)]
  rfl
theorem stC_17 : stC e R 17 0 (i, h + 1, w) = some (i + 1, h + 1, upI w h (ringI R (w h))) := by
  unfold stC
  dsimp only
  rw [if_neg (by omega), if_neg (by omega), if_neg (by omega), if_neg (by omega), if_neg (by omega), if_pos rfl, if_pos (by omega)]
  rfl
theorem stC_25 : stC e R 25 0 (i, h + 1, w) = some (i + 1, h + 1, upI w h (if w h = 0 then 1 else 0)) := by
  unfold stC
  dsimp only
  rw [if_neg (by omega), if_neg (by omega), if_neg (by omega), if_neg (by omega), if_neg (by omega), if_neg (by omega), if_pos rfl, if_pos (by omega)]
  rfl
end PG
def okM (law : Nat) (x : Nat × Nat) : Prop := x.1 < 100 ∧ x.2 < 10000 ∧ (x.1 = 1 → lawOk law x.2)
def okC (law : Nat) (x : Nat × Nat) : Prop := x.1 < 100 ∧ x.2 < 10000 ∧ (6 ≤ x.1 → x.1 < 16 → lawOk law (nmI x.1))
def Gd (n law t : Nat) (r : Rs) (j : Nat) : Prop := (j ≤ r.2.1 ∧ r.2.1 ≤ n) ∧ (r.1 = 0 → j < r.2.1 ∧ r.2.2.1.length + j ≤ r.2.1 ∧ (∀ p, (r.2.2.2.1 p).length + j ≤ r.2.1) ∧ SgX t r.2.2.1 r.2.2.2.2 ∧ (∀ p, SgC p (r.2.2.2.1 p) r.2.2.2.2) ∧ (t = 1 → ∀ e R, tr (r.2.2.2.2 e R)) ∧ (∀ x, x ∈ r.2.2.1 → okM law x) ∧ (∀ p, p + r.2.1 ≤ 1000 + j → ∀ x, x ∈ r.2.2.2.1 p → okC law x))
theorem gd_F {n law t f j : Nat} (hj : j ≤ n) (hf : f ≠ 0) : Gd n law t (pF f j) j := ⟨⟨Nat.le_refl _, hj⟩, fun h => absurd h hf⟩
theorem mem_sn {x y : Nat × Nat} {a b : Cd} (h : x ∈ a ++ b ++ [y]) : x ∈ a ∨ x ∈ b ∨ x = y := by
  simp only [List.mem_append, List.mem_singleton] at h
  rcases h with (h | h) | h
  · exact Or.inl h
  · exact Or.inr (Or.inl h)
  · exact Or.inr (Or.inr h)
theorem gd_B {n law ta t k j : Nat} {a b : Rs} (hk : (ta = 0 ∧ t = 0 ∧ 30 ≤ k ∧ k < 34) ∨ (ta = 0 ∧ t = 1 ∧ 37 ≤ k ∧ k < 43) ∨ (ta = 1 ∧ t = 1 ∧ 22 ≤ k ∧ k < 25)) (ha : Gd n law ta a j) (h0 : a.1 = 0) (hb : Gd n law ta b (a.2.1 + 1)) : Gd n law t (pB k a b) j := by
  obtain ⟨⟨a1, a2⟩, a3⟩ := ha
  obtain ⟨a3, a4, a5, a6, a7, a8, a9, a10⟩ := a3 h0
  obtain ⟨⟨b1, b2⟩, b3⟩ := hb
  refine ⟨⟨show j ≤ b.2.1 by omega, b2⟩, fun hb0 => ?_⟩
  obtain ⟨b3, b4, b5, b6, b7, b8, b9, b10⟩ := b3 hb0
  have hX : SgX t (a.2.2.1 ++ b.2.2.1 ++ [(opM k, 0)]) (fun e R => bdI k (a.2.2.2.2 e R) (b.2.2.2.2 e R)) := by
    rcases hk with ⟨rfl, rfl, h1, h2⟩ | ⟨rfl, rfl, h1, h2⟩ | ⟨rfl, rfl, h1, h2⟩
    · simp only [(opM_a h1 h2).2, (opM_a h1 h2).1]
      exact sx_two (by omega) (by omega) a6 b6
    · simp only [(opM_c h1 h2).2.2.2, (opM_c h1 h2).1]
      exact sx_ask (opM_c h1 h2).2.1 (opM_c h1 h2).2.2.1 a6 b6
    · simp only [(opM_j h1 h2).2.2.2]
      exact sx_join (opM_j h1 h2).1 (opM_j h1 h2).2.1 (opM_j h1 h2).2.2.1 a6 b6
  have hC : ∀ p, SgC p (a.2.2.2.1 p ++ b.2.2.2.1 (p + (a.2.2.2.1 p).length) ++ [(k, 0)]) (fun e R => bdI k (a.2.2.2.2 e R) (b.2.2.2.2 e R)) := by
    intro p
    refine sc_bin ?_ (a7 p) (b7 _)
    intro e R i h w g1 g2
    rcases hk with ⟨rfl, rfl, h1, h2⟩ | ⟨rfl, rfl, h1, h2⟩ | ⟨rfl, rfl, h1, h2⟩
    · rw [stC_a h1 h2, (opM_a h1 h2).2, g1, g2]
    · rw [stC_c h1 h2, (opM_c h1 h2).2.2.2, g1, g2]
    · rw [stC_j h1 h2 (by rw [g1]; exact a8 rfl e R) (by rw [g2]; exact b8 rfl e R), (opM_j h1 h2).2.2.2, g1, g2]
  refine ⟨show j < b.2.1 by omega, ?_, fun p => ?_, hX, hC, fun ht e R => ?_, fun x hx => ?_, fun p hp x hx => ?_⟩
  · show (a.2.2.1 ++ b.2.2.1 ++ [(opM k, 0)]).length + j ≤ b.2.1
    simp only [List.length_append, List.length_singleton]
    omega
  · show (a.2.2.2.1 p ++ b.2.2.2.1 (p + (a.2.2.2.1 p).length) ++ [(k, 0)]).length + j ≤ b.2.1
    have h1 := a5 p
    have h2 := b5 (p + (a.2.2.2.1 p).length)
    simp only [List.length_append, List.length_singleton]
    omega
  · show tr (bdI k (a.2.2.2.2 e R) (b.2.2.2.2 e R))
    rcases hk with ⟨-, h3, h1, h2⟩ | ⟨-, -, h1, h2⟩ | ⟨-, -, h1, h2⟩
    · omega
    · rw [(opM_c h1 h2).2.2.2]
      exact bN_tr _
    · rw [(opM_j h1 h2).2.2.2]
      exact bN_tr _
  · rcases mem_sn hx with h | h | h
    · exact a9 x h
    · exact b9 x h
    · rw [h]
      refine ⟨?_, by show 0 < 10000; omega, fun h1 => ?_⟩
      · show opM k < 100
        rcases hk with ⟨-, -, h1, h2⟩ | ⟨-, -, h1, h2⟩ | ⟨-, -, h1, h2⟩
        · rw [(opM_a h1 h2).1]
          omega
        · rw [(opM_c h1 h2).1]
          have := (opM_c h1 h2).2.2.1
          omega
        · have := (opM_j h1 h2).2.1
          omega
      · exfalso
        have h1 : opM k = 1 := h1
        rcases hk with ⟨-, -, h3, h2⟩ | ⟨-, -, h3, h2⟩ | ⟨-, -, h3, h2⟩
        · rw [(opM_a h3 h2).1] at h1
          omega
        · rw [(opM_c h3 h2).1] at h1
          have := (opM_c h3 h2).2.1
          omega
        · have := (opM_j h3 h2).1
          omega
  · have hp : p + b.2.1 ≤ 1000 + j := hp
    have h1 := a5 p
    rcases mem_sn hx with h | h | h
    · exact a10 p (by omega) x h
    · exact b10 _ (by omega) x h
    · rw [h]
      refine ⟨show k < 100 by omega, show 0 < 10000 by omega, fun h3 h4 => ?_⟩
      have h3 : 6 ≤ k := h3
      have h4 : k < 16 := h4
      omega
theorem gd_U {n law t k j : Nat} {a : Rs} (hk : (t = 0 ∧ k = 17) ∨ (t = 0 ∧ k = 31) ∨ (t = 1 ∧ k = 25)) (ha : Gd n law t a (j + 1)) : Gd n law t (pU k a) j := by
  obtain ⟨⟨a1, a2⟩, a3⟩ := ha
  refine ⟨⟨show j ≤ a.2.1 by omega, a2⟩, fun h0 => ?_⟩
  obtain ⟨a3, a4, a5, a6, a7, a8, a9, a10⟩ := a3 h0
  have hX : SgX t (a.2.2.1 ++ [(uoM k, 0)]) (fun e R => udI k R (a.2.2.2.2 e R)) := by
    rcases hk with ⟨rfl, rfl⟩ | ⟨rfl, rfl⟩ | ⟨rfl, rfl⟩
    · exact sx_2 a6
    · exact sx_5 a6
    · exact sx_20 (a8 rfl) a6
  have hC : ∀ p, SgC p (a.2.2.2.1 p ++ [(uoC k, 0)]) (fun e R => udI k R (a.2.2.2.2 e R)) := by
    intro p
    refine sc_un ?_ (a7 p)
    intro e R i h w g1
    rcases hk with ⟨rfl, rfl⟩ | ⟨rfl, rfl⟩ | ⟨rfl, rfl⟩
    · rw [← g1]
      exact stC_17
    · rw [← g1]
      exact stC_60
    · rw [← g1]
      exact stC_25
  refine ⟨show j < a.2.1 by omega, ?_, fun p => ?_, hX, hC, fun ht e R => ?_, fun x hx => ?_, fun p hp x hx => ?_⟩
  · show (a.2.2.1 ++ [(uoM k, 0)]).length + j ≤ a.2.1
    simp only [List.length_append, List.length_singleton]
    omega
  · show (a.2.2.2.1 p ++ [(uoC k, 0)]).length + j ≤ a.2.1
    have h1 := a5 p
    simp only [List.length_append, List.length_singleton]
    omega
  · rcases hk with ⟨h1, h2⟩ | ⟨h1, h2⟩ | ⟨h1, h2⟩
    · omega
    · omega
    · show tr (udI k R (a.2.2.2.2 e R))
      rw [h2]
      show tr (if a.2.2.2.2 e R = 0 then 1 else 0)
      by_cases q : a.2.2.2.2 e R = 0
      · rw [if_pos q]
        exact Or.inr rfl
      · rw [if_neg q]
        exact Or.inl rfl
  · have hx : x ∈ a.2.2.1 ++ [(uoM k, 0)] := hx
    rcases List.mem_append.1 hx with h | h
    · exact a9 x h
    · rw [List.mem_singleton.1 h]
      rcases hk with ⟨-, rfl⟩ | ⟨-, rfl⟩ | ⟨-, rfl⟩
      · exact ⟨by decide, by decide, fun h => by cases h⟩
      · exact ⟨by decide, by decide, fun h => by cases h⟩
      · exact ⟨by decide, by decide, fun h => by cases h⟩
  · have hp : p + a.2.1 ≤ 1000 + j := hp
    have hx : x ∈ a.2.2.2.1 p ++ [(uoC k, 0)] := hx
    rcases List.mem_append.1 hx with h | h
    · exact a10 p (by omega) x h
    · rw [List.mem_singleton.1 h]
      rcases hk with ⟨-, rfl⟩ | ⟨-, rfl⟩ | ⟨-, rfl⟩
      · exact ⟨by decide, by decide, fun _ h => absurd h (by decide)⟩
      · exact ⟨by decide, by decide, fun _ h => absurd h (by decide)⟩
      · exact ⟨by decide, by decide, fun _ h => absurd h (by decide)⟩
