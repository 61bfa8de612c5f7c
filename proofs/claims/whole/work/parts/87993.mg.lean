/-! the reference reads a sum: its loops -/
def rM (md : Nat) : Nat := if md = 2 then 7 else if md = 1 then 6 else if md = 0 then 5 else if md = 6 then 3 else if md = 5 then 2 else 1
def bM (md : Nat) : Nat := if md = 2 then 5 else if md = 1 then 4 else if md = 0 then 3 else if md = 6 then 2 else if md = 5 then 1 else 0
/-- how the pile must lie to read in mode md -/
def PrM (kd : Nat → Nat) (md o j : Nat) (S : List Nat) : Prop := opc S = o ∧ S.length ≤ 6 * o + bM md ∧ (md = 1 → tpR S < 6) ∧ (md = 0 → tpR S < 5) ∧ (4 ≤ md → opn S = 41) ∧ (md = 6 → tpR S ≤ 3) ∧ (md = 5 → tpR S < 2) ∧ (md = 4 → tpR S < 1) ∧ (md ≤ 2 → opn S = 41 → tpR S ≤ 3 → kd j ≠ 25)
theorem stl_0 {r : Nat} {S : List Nat} {C : Cd} (h : tpR S < r) : stl r S C = (S, C) := by
  cases S with
  | nil => rfl
  | cons x S => exact if_neg (by show ¬ r ≤ rkM x; have : rkM x < r := h; omega)
theorem stl_c {r x : Nat} {S : List Nat} {C : Cd} (h : r ≤ rkM x) : stl r (x :: S) C = stl r S (C ++ [(x, 0)]) := if_pos h
/-- the reference reads what is to be read, with fuel d -/
def Mg (b : Nat → Nat) (L n i law : Nat) (Q : Int32 → Me → Prop) (d : Nat) : Prop := ∀ (md o j : Nat) (S : List Nat) (C : Cd) (μ : Me), md ≤ 6 → md ≠ 3 → o ≤ 8 → ndF md + 7 * (8 - o) ≤ d → PrM (kdT b L) md o j S → Mq μ b L n i law j 0 S C → ((pR (kdT b L) (nmT b L) law d md o j).1 = 0 → ∀ ν X D, Fg i μ ν → Mq ν b L n i law (pR (kdT b L) (nmT b L) law d md o j).2.1 1 X D → stl (rM md) X D = stl (rM md) S (C ++ (pR (kdT b L) (nmT b L) law d md o j).2.2.1) → (4 ≤ md → cmpd X = true) → X.length ≤ 53 → (md = 2 → (X, D) = stl 7 S (C ++ (pR (kdT b L) (nmT b L) law d md o j).2.2.1)) → WS Q (n + 1 - (pR (kdT b L) (nmT b L) law d md o j).2.1) ν) → ((pR (kdT b L) (nmT b L) law d md o j).1 ≠ 0 → ∀ ν, Fg i μ ν → Mf ν b L (pR (kdT b L) (nmT b L) law d md o j).2.1 → Q (nI (pR (kdT b L) (nmT b L) law d md o j).1) ν) → WS Q (n + 1 - j) μ
section MG
variable {μ : Me} {b : Nat → Nat} {L n i law : Nat} {Q : Int32 → Me → Prop}
/-- the pairs of a loop: md with its sub-mode md', and its signs -/
def prP (md md' : Nat) (g : Nat → Bool) : Prop := (md = 0 ∧ md' = 1 ∧ g = g0) ∨ (md = 1 ∧ md' = 2 ∧ g = g1) ∨ (md = 4 ∧ md' = 5 ∧ g = g4) ∨ (md = 5 ∧ md' = 6 ∧ g = g5)
/-- the sign of a loop, on the pile -/
theorem lp_sign {md md' k : Nat} {g : Nat → Bool} {X : List Nat} (hp : prP md md' g) (hg : g k = true) (hX : 4 ≤ md → opn X = 41 ∧ cmpd X = true) : bwM k X = opM k ∧ opM k ≠ 0 ∧ rqM (opM k) = rM md ∧ rkM (opM k) = rM md ∧ opM k < 40 ∧ isO (opM k) = 0 := by
  rcases hp with ⟨rfl, rfl, rfl⟩ | ⟨rfl, rfl, rfl⟩ | ⟨rfl, rfl, rfl⟩ | ⟨rfl, rfl, rfl⟩
  · have hk := of_decide_eq_true hg
    rcases hk with rfl | rfl <;> exact ⟨rfl, by decide, by decide, by decide, by decide, by decide⟩
  · have hk := of_decide_eq_true hg
    rcases hk with rfl | rfl <;> exact ⟨rfl, by decide, by decide, by decide, by decide, by decide⟩
  · have hk := of_decide_eq_true hg
    obtain ⟨x1, x2⟩ := hX (by omega)
    rcases hk with rfl | rfl <;> exact ⟨by unfold bwM; rw [if_neg (by omega), if_pos x1, if_pos x2]; rfl, by decide, by decide, by decide, by decide, by decide⟩
  · have hk : k = 24 := of_decide_eq_true hg
    obtain ⟨x1, x2⟩ := hX (by omega)
    subst hk
    exact ⟨by unfold bwM; rw [if_neg (by omega), if_pos x1, if_pos x2]; rfl, by decide, by decide, by decide, by decide, by decide⟩
/-- a loop goes on: r is read, the pile settled to md's rank is S -/
theorem m_lp_go {d md md' o j : Nat} {g : Nat → Bool} {S : List Nat} {C : Cd} (hp : prP md md' g) (hn : ∀ q, n ≤ q → kdT b L q = 51) (h3 : n ≤ 300) (ih : Mg b L n i law Q d) (ho : o ≤ 8) (hd : ndF md' + 7 * (8 - o) ≤ d) (hP : PrM (kdT b L) md o j S) (hS : S.length < 100) : ∀ (m : Nat) (r : Rs) (ν : Me) (X : List Nat) (D : Cd), n < m + r.2.1 → r.1 = 0 → Gd n law (if 4 ≤ md then 1 else 0) r j → Fg i μ ν → Mq ν b L n i law r.2.1 1 X D → stl (rM md) X D = (S, C ++ r.2.2.1) → (4 ≤ md → cmpd X = true) → X.length ≤ 53 →
    ((pL (kdT b L) (pR (kdT b L) (nmT b L) law d md' o) g m r).1 = 0 → ∀ ν X D, Fg i μ ν → Mq ν b L n i law (pL (kdT b L) (pR (kdT b L) (nmT b L) law d md' o) g m r).2.1 1 X D → stl (rM md) X D = (S, C ++ (pL (kdT b L) (pR (kdT b L) (nmT b L) law d md' o) g m r).2.2.1) → (4 ≤ md → cmpd X = true) → X.length ≤ 53 → WS Q (n + 1 - (pL (kdT b L) (pR (kdT b L) (nmT b L) law d md' o) g m r).2.1) ν) →
    ((pL (kdT b L) (pR (kdT b L) (nmT b L) law d md' o) g m r).1 ≠ 0 → ∀ ν, Fg i μ ν → Mf ν b L (pL (kdT b L) (pR (kdT b L) (nmT b L) law d md' o) g m r).2.1 → Q (nI (pL (kdT b L) (pR (kdT b L) (nmT b L) law d md' o) g m r).1) ν) → WS Q (n + 1 - r.2.1) ν := by
  have hr : 1 ≤ rM md ∧ rM md ≤ rM md' ∧ bM md' = bM md + 1 ∧ (4 ≤ md ↔ 4 ≤ md') ∧ md' ≤ 6 ∧ md' ≠ 3 := by
    rcases hp with ⟨rfl, rfl, -⟩ | ⟨rfl, rfl, -⟩ | ⟨rfl, rfl, -⟩ | ⟨rfl, rfl, -⟩ <;> decide
  have hgk : gOk (if 4 ≤ md then 1 else 0) g := by
    rcases hp with ⟨rfl, rfl, rfl⟩ | ⟨rfl, rfl, rfl⟩ | ⟨rfl, rfl, rfl⟩ | ⟨rfl, rfl, rfl⟩ <;> intro k hk
    · have := of_decide_eq_true hk
      exact ⟨by omega, Or.inl ⟨rfl, rfl, by omega, by omega⟩⟩
    · have := of_decide_eq_true hk
      exact ⟨by omega, Or.inl ⟨rfl, rfl, by omega, by omega⟩⟩
    · have := of_decide_eq_true hk
      exact ⟨by omega, Or.inr (Or.inr ⟨rfl, rfl, by omega, by omega⟩)⟩
    · have : k = 24 := of_decide_eq_true hk
      exact ⟨by omega, Or.inr (Or.inr ⟨rfl, rfl, by omega, by omega⟩)⟩
  intro m
  induction m with
  | zero =>
    intro r ν X D hm h0 hG
    have := hG.1.2
    omega
  | succ m ihm =>
    intro r ν X D hm h0 hG hF hM hE hc hX kOK kF
    by_cases hg : g (kdT b L r.2.1) = true
    · have hopn : 4 ≤ md → opn X = 41 ∧ cmpd X = true := fun h4 => by
        have e := opn_s hr.1 X D
        rw [hE] at e
        exact ⟨e.symm.trans (hP.2.2.2.2.1 h4), hc h4⟩
      obtain ⟨s1, s2, s3, s4, s5, s6⟩ := lp_sign hp hg hopn
      obtain ⟨g1, g2⟩ := hgk _ hg
      have hl : r.2.1 < n := Nat.lt_of_not_le (fun q => g1 (hn _ q))
      rw [pL_s h0 hg] at kOK kF
      have hb := (pk_R (nm := nmT b L) (law := law) hn h3 d md' o (r.2.1 + 1) hr.2.2.2.2.1 ho hl hd).1
      rw [show (if 4 ≤ md' then 1 else 0) = (if 4 ≤ md then 1 else 0) by simp only [hr.2.2.2.1]] at hb
      refine ws_beh hM (by omega) (fun z ν2 f1 f2 => ?_) (fun z => absurd (s1.symm.trans z) s2) (fun z => absurd (s1.symm.trans z) s2) (fun z => absurd (s1.symm.trans z) s2) (fun z => absurd (s1.symm.trans z) s2)
      rw [s1, s3, hE] at f2
      rw [show n - r.2.1 = n + 1 - (r.2.1 + 1) by omega]
      refine ih md' o (r.2.1 + 1) (opM (kdT b L r.2.1) :: S) (C ++ r.2.2.1) ν2 hr.2.2.2.2.1 hr.2.2.2.2.2 ho hd ?_ f2 (fun z2 ν3 X2 D2 q1 q2 q3 q4 q5 _ => ?_) (fun z2 ν3 q1 q2 => ?_)
      · obtain ⟨p1, p2, p3, p4, p5, p6, p7, p8, p9⟩ := hP
        have t1 : tpR (opM (kdT b L r.2.1) :: S) = rM md := s4
        have t2 : opn (opM (kdT b L r.2.1) :: S) = opn S := if_neg (by omega)
        have t3 : opc (opM (kdT b L r.2.1) :: S) = opc S := by
          show isO (opM (kdT b L r.2.1)) + opc S = opc S
          omega
        refine ⟨t3.trans p1, by show S.length + 1 ≤ _; omega, ?_⟩
        rw [t1, t2]
        rcases hp with ⟨rfl, rfl, -⟩ | ⟨rfl, rfl, -⟩ | ⟨rfl, rfl, -⟩ | ⟨rfl, rfl, -⟩
        · exact ⟨fun _ => by decide, fun h => by omega, fun h => by omega, fun h => by omega, fun h => by omega, fun h => by omega, fun _ _ h => absurd h (by decide)⟩
        · exact ⟨fun h => by omega, fun h => by omega, fun h => by omega, fun h => by omega, fun h => by omega, fun h => by omega, fun _ _ h => absurd h (by decide)⟩
        · exact ⟨fun h => by omega, fun h => by omega, fun _ => p5 (by omega), fun h => by omega, fun _ => by decide, fun h => by omega, fun h => by omega⟩
        · exact ⟨fun h => by omega, fun h => by omega, fun _ => p5 (by omega), fun _ => by decide, fun h => by omega, fun h => by omega, fun h => by omega⟩
      · have hb1 := hb.1.1
        refine ihm (pB (kdT b L r.2.1) r (pR (kdT b L) (nmT b L) law d md' o (r.2.1 + 1))) ν3 X2 D2 ?_ z2 (gd_B g2 hG h0 hb) (fg_tr hF (fg_tr f1 q1)) q2 ?_ (fun h4 => q4 (hr.2.2.2.1.1 h4)) q5 kOK kF
        · show n < m + (pR (kdT b L) (nmT b L) law d md' o (r.2.1 + 1)).2.1
          omega
        · have e1 := stl_stl hr.2.1 X2 D2
          rw [q3, stl_stl hr.2.1, stl_c (by omega)] at e1
          rw [← e1, stl_0 ?_]
          · show (S, _) = (S, C ++ (r.2.2.1 ++ (pR (kdT b L) (nmT b L) law d md' o (r.2.1 + 1)).2.2.1 ++ [(opM (kdT b L r.2.1), 0)]))
            simp only [List.append_assoc]
          · obtain ⟨p1, p2, p3, p4, p5, p6, p7, p8, p9⟩ := hP
            rcases hp with ⟨rfl, rfl, -⟩ | ⟨rfl, rfl, -⟩ | ⟨rfl, rfl, -⟩ | ⟨rfl, rfl, -⟩
            · exact p4 rfl
            · exact p3 rfl
            · exact p8 rfl
            · exact p7 rfl
      · have e : pL (kdT b L) (pR (kdT b L) (nmT b L) law d md' o) g m (pB (kdT b L r.2.1) r (pR (kdT b L) (nmT b L) law d md' o (r.2.1 + 1))) = pB (kdT b L r.2.1) r (pR (kdT b L) (nmT b L) law d md' o (r.2.1 + 1)) := pL_z (r := pB (kdT b L r.2.1) r (pR (kdT b L) (nmT b L) law d md' o (r.2.1 + 1))) (fun y => z2 y.1) _
        rw [e] at kF
        exact kF z2 ν3 (fg_tr hF (fg_tr f1 q1)) q2
    · have e : pL (kdT b L) (pR (kdT b L) (nmT b L) law d md' o) g (m + 1) r = r := pL_z (fun y => hg y.2) _
      rw [e] at kOK
      exact kOK h0 ν X D hF hM hE hc hX
/-- a loop from its start -/
theorem m_loop {d md md' o j : Nat} {g : Nat → Bool} {S : List Nat} {C : Cd} (hp : prP md md' g) (ih : Mg b L n i law Q d) (ho : o ≤ 8) (hd : ndF md' + 7 * (8 - o) ≤ d) (hP : PrM (kdT b L) md o j S) (h : Mq μ b L n i law j 0 S C)
    (k1 : (pL (kdT b L) (pR (kdT b L) (nmT b L) law d md' o) g 300 (pR (kdT b L) (nmT b L) law d md' o j)).1 = 0 → ∀ ν X D, Fg i μ ν → Mq ν b L n i law (pL (kdT b L) (pR (kdT b L) (nmT b L) law d md' o) g 300 (pR (kdT b L) (nmT b L) law d md' o j)).2.1 1 X D → stl (rM md) X D = stl (rM md) S (C ++ (pL (kdT b L) (pR (kdT b L) (nmT b L) law d md' o) g 300 (pR (kdT b L) (nmT b L) law d md' o j)).2.2.1) → (4 ≤ md → cmpd X = true) → X.length ≤ 53 → WS Q (n + 1 - (pL (kdT b L) (pR (kdT b L) (nmT b L) law d md' o) g 300 (pR (kdT b L) (nmT b L) law d md' o j)).2.1) ν)
    (k0 : (pL (kdT b L) (pR (kdT b L) (nmT b L) law d md' o) g 300 (pR (kdT b L) (nmT b L) law d md' o j)).1 ≠ 0 → ∀ ν, Fg i μ ν → Mf ν b L (pL (kdT b L) (pR (kdT b L) (nmT b L) law d md' o) g 300 (pR (kdT b L) (nmT b L) law d md' o j)).2.1 → Q (nI (pL (kdT b L) (pR (kdT b L) (nmT b L) law d md' o) g 300 (pR (kdT b L) (nmT b L) law d md' o j)).1) ν) : WS Q (n + 1 - j) μ := by
  have hn := h.2.2.2.1.2.2.2
  have h3 := h.2.2.2.1.2.2.1
  have hjn := h.2.2.2.1.1
  have hr : rM md ≤ rM md' ∧ bM md ≤ bM md' ∧ bM md ≤ 5 ∧ (4 ≤ md ↔ 4 ≤ md') ∧ md' ≤ 6 ∧ md' ≠ 3 := by
    rcases hp with ⟨rfl, rfl, -⟩ | ⟨rfl, rfl, -⟩ | ⟨rfl, rfl, -⟩ | ⟨rfl, rfl, -⟩ <;> decide
  have ht : tpR S < rM md := by
    obtain ⟨p1, p2, p3, p4, p5, p6, p7, p8, p9⟩ := hP
    rcases hp with ⟨rfl, rfl, -⟩ | ⟨rfl, rfl, -⟩ | ⟨rfl, rfl, -⟩ | ⟨rfl, rfl, -⟩
    · exact p4 rfl
    · exact p3 rfl
    · exact p8 rfl
    · exact p7 rfl
  have hpk := (pk_R (nm := nmT b L) (law := law) hn h3 d md' o j hr.2.2.2.2.1 ho hjn hd).1
  rw [show (if 4 ≤ md' then 1 else 0) = (if 4 ≤ md then 1 else 0) by simp only [hr.2.2.2.1]] at hpk
  have hSl : S.length < 100 := by
    have := hP.2.1
    omega
  refine ih md' o j S C μ hr.2.2.2.2.1 hr.2.2.2.2.2 ho hd ?_ h (fun z ν X D f1 f2 f3 f4 f5 _ => ?_) (fun z ν f1 f2 => ?_)
  · obtain ⟨p1, p2, p3, p4, p5, p6, p7, p8, p9⟩ := hP
    refine ⟨p1, by omega, ?_⟩
    rcases hp with ⟨rfl, rfl, -⟩ | ⟨rfl, rfl, -⟩ | ⟨rfl, rfl, -⟩ | ⟨rfl, rfl, -⟩
    · exact ⟨fun _ => by have := p4 rfl; omega, fun h => by omega, fun h => by omega, fun h => by omega, fun h => by omega, fun h => by omega, fun _ => p9 (by omega)⟩
    · exact ⟨fun h => by omega, fun h => by omega, fun h => by omega, fun h => by omega, fun h => by omega, fun h => by omega, fun _ => p9 (by omega)⟩
    · exact ⟨fun h => by omega, fun h => by omega, fun _ => p5 (by omega), fun h => by omega, fun _ => by have := p8 rfl; omega, fun h => by omega, fun h => by omega⟩
    · exact ⟨fun h => by omega, fun h => by omega, fun _ => p5 (by omega), fun _ => by have := p7 rfl; omega, fun h => by omega, fun h => by omega, fun h => by omega⟩
  · have e1 := stl_stl hr.1 X D
    rw [f3, stl_stl hr.1, stl_0 ht] at e1
    have hz := (hpk.2 z).1
    refine m_lp_go hp hn h3 ih ho hd hP hSl 300 _ ν X D (by omega) z hpk f1 f2 e1.symm (fun h4 => f4 (hr.2.2.2.1.1 h4)) f5 (fun y ν2 X2 D2 g1 g2 g3 => k1 y ν2 X2 D2 g1 g2 (by rw [g3, stl_0 ht])) k0
  · have e : pL (kdT b L) (pR (kdT b L) (nmT b L) law d md' o) g 300 (pR (kdT b L) (nmT b L) law d md' o j) = pR (kdT b L) (nmT b L) law d md' o j := pL_z (fun y => z y.1) _
    rw [e] at k0
    exact k0 z ν f1 f2
end MG
