/-! the reference behind a part of a sum: all ways -/
def rqM (x : Nat) : Nat := if rkM x = 4 then 5 else rkM x
theorem bwM_b {k : Nat} {S : List Nat} (h : bwM k S ≠ 0) : bwM k S < 50 ∧ isO (bwM k S) = 0 ∧ k ≠ 51 ∧ 1 ≤ rqM (bwM k S) ∧ rqM (bwM k S) ≤ 7 := by
  have key : ∀ x, (6 ≤ x ∧ x < 16) ∨ (21 ≤ x ∧ x < 24) → x < 50 ∧ isO x = 0 ∧ 1 ≤ rqM x ∧ rqM x ≤ 7 := by
    intro x hx
    refine ⟨by omega, ?_, ?_, ?_⟩
    · unfold isO
      rw [if_neg (by omega)]
    · unfold rqM
      have := rkM_1 (x := x) (by omega)
      split <;> omega
    · unfold rqM
      have := rkM_7 x
      split <;> omega
  have fin : k ≠ 51 ∧ ((6 ≤ bwM k S ∧ bwM k S < 16) ∨ (21 ≤ bwM k S ∧ bwM k S < 24)) := by
    unfold bwM at h ⊢
    by_cases c1 : 30 ≤ k ∧ k < 34
    · rw [if_pos c1]
      omega
    · rw [if_neg c1] at h ⊢
      by_cases c2 : opn S = 41
      · rw [if_pos c2] at h ⊢
        by_cases c3 : cmpd S = true
        · rw [if_pos c3] at h ⊢
          by_cases c4 : 22 ≤ k ∧ k < 25
          · rw [if_pos c4]
            have := opM_j c4.1 c4.2
            omega
          · rw [if_neg c4] at h
            exact absurd rfl h
        · rw [if_neg c3] at h ⊢
          by_cases c4 : 37 ≤ k ∧ k ≤ 42
          · rw [if_pos c4]
            have := opM_c c4.1 (by omega)
            omega
          · rw [if_neg c4] at h
            exact absurd rfl h
      · rw [if_neg c2] at h
        exact absurd rfl h
  obtain ⟨f1, f2⟩ := fin
  obtain ⟨g1, g2, g3, g4⟩ := key _ f2
  exact ⟨g1, g2, f1, g3, g4⟩
theorem paM_b {k : Nat} {S : List Nat} (h : paM k S ≠ 0) : k ≠ 51 ∧ (paM k S = 1 ∨ paM k S = 42 ∨ paM k S = 43) ∧ 40 ≤ opn S := by
  unfold paM at h ⊢
  by_cases c1 : opn S = 40
  · rw [if_pos c1] at h ⊢
    by_cases d : k = 35
    · rw [if_pos d]
      omega
    · rw [if_neg d] at h
      exact absurd rfl h
  · rw [if_neg c1] at h ⊢
    by_cases c2 : opn S = 41
    · rw [if_pos c2] at h ⊢
      by_cases d : k = 19 ∧ cmpd S = true
      · rw [if_pos d]
        omega
      · rw [if_neg d] at h
        exact absurd rfl h
    · rw [if_neg c2] at h ⊢
      by_cases c3 : opn S = 42
      · rw [if_pos c3] at h ⊢
        by_cases d : k = 20
        · rw [if_pos d]
          omega
        · rw [if_neg d] at h
          exact absurd rfl h
      · rw [if_neg c3] at h ⊢
        by_cases c4 : opn S = 43
        · rw [if_pos c4] at h ⊢
          by_cases d : k = 21
          · rw [if_pos d]
            omega
          · rw [if_neg d] at h
            exact absurd rfl h
        · rw [if_neg c4] at h
          exact absurd rfl h
section MZ
variable {μ : Me} {b : Nat → Nat} {L n i law j : Nat} {S : List Nat} {C : Cd}
/-- the next token: all that Mq says, one further -/
theorem m_nqq {Q : Me → Prop} {fl : Nat} (h : Mq μ b L n i law j fl S C) (hk : kdT b L j ≠ 51) (k : ∀ ν, Fg i μ ν → Mq ν b L n i law (j + 1) fl S C → Q ν) : S_X11_nextToken 314 μ Q := by
  have hj := mq_lt h hk
  obtain ⟨hG, hT, hM, hr, h14, h18, hS, hc⟩ := h
  exact m_nq ⟨hG, hT, hM⟩ h14 h18 ⟨hj, hr.2⟩ hS (by omega) k
theorem m_swap {Q : Int32 → Me → Prop} {x y : Nat} {Y : List Nat} (h : Mq μ b L n i law j 1 (x :: Y) C) (hx : 40 ≤ x) (hy : 40 ≤ y ∧ y < 50) (k : ∀ ν, Fg i μ ν → Mq ν b L n i law j 0 (y :: Y) C → Q 1 ν) : ∃ t26, mgr μ 314 15 = some t26 ∧ S_X11_openAt 314 μ (fun r29 μ27 => mok μ27 t26 12 ∧ vp_in r29 (mln μ27 t26) ∧ ∀ μ31, μ31 = msi μ27 t26 r29.toNatClampNeg (nI y) → ∀ μ32, μ32 = msi μ31 314 18 0 → Q 1 μ32) := by
  obtain ⟨hG, hT, hM, hr, h14, h18, hS, hc⟩ := h
  obtain ⟨o1, o2, o3, o4⟩ := md_ok hG
  obtain ⟨⟨a1, a2, a3⟩, a4, a5, a6, a7⟩ := hS
  have hl : Y.length + 1 ≤ 100 := a7
  have ox : oix (x :: Y) = Y.length + 1 := if_pos hx
  refine ⟨319, o2, m_openAt hG ⟨a1, a2, a3⟩ a7 (fun z => by omega) (fun m hm => ?_)⟩
  have em : m = Y.length := by omega
  subst em
  refine ⟨o3, ?_, fun ρ1 e1 ρ2 e2 => ?_⟩
  · rw [q_in (by omega) (by omega), o4]
    omega
  · subst e1
    subst e2
    rw [q_cl (by omega)]
    have hF : Fg i μ (msi (msi μ 319 Y.length (nI y)) 314 18 0) := fg_si (fg_si (fg_rf i μ) _ _ _ (by omega)) _ _ _ (by omega)
    have ix : isO x = 1 := if_pos (Or.inl hx)
    have iy : isO y = 1 := if_pos (Or.inl hy.1)
    refine k _ hF ⟨fg_gp hG hF, tp_si (tp_si hT (by omega)) (by omega), mt_si (mt_si hM (by omega)) (by omega), hr, ?_, ?_, ⟨⟨?_, fun z hz => ?_, ?_, StP_m Y a3.2 (fun z hz => ?_)⟩, wm_m a4 ?_ ?_ (fun z => ?_), ?_, a6, a7⟩, hc⟩
    · rw [gi_si, if_neg (by omega), gi_si, if_neg (by omega)]
      exact h14
    · rw [gi_si, if_pos ⟨rfl, rfl⟩]
      rfl
    · rw [gi_si, if_neg (by omega), gi_si, if_neg (by omega)]
      exact a1
    · rcases List.mem_cons.1 hz with y1 | y1
      · omega
      · exact a2 z (List.mem_cons_of_mem _ y1)
    · rw [gi_si, if_neg (by omega), gi_si, if_pos ⟨rfl, rfl⟩]
    · rw [gi_si, if_neg (by omega), gi_si, if_neg (by omega)]
    · rw [gi_si, if_neg (by omega), gi_si, if_neg (by omega)]
    · rw [gi_si, if_neg (by omega), gi_si, if_neg (by omega)]
    · rw [gi_si, if_neg (by omega), gi_si, if_neg (by omega)]
    · rw [gi_si, if_neg (by omega), gi_si, if_neg (by omega), a5]
      show nI (isO x + opc Y) = nI (isO y + opc Y)
      rw [ix, iy]
/-- what is open is closed: the pile one less -/
theorem mq_pop {x : Nat} {Y : List Nat} (h : Mq μ b L n i law j 1 (x :: Y) C) (hx : 40 ≤ x) : Fg i μ (msi (msi μ 314 17 (nI (opc Y))) 314 16 (nI Y.length)) ∧ Mq (msi (msi μ 314 17 (nI (opc Y))) 314 16 (nI Y.length)) b L n i law j 1 Y C := by
  obtain ⟨hG, hT, hM, hr, h14, h18, hS, hc⟩ := h
  obtain ⟨⟨a1, a2, a3⟩, a4, a5, a6, a7⟩ := hS
  have a6 : C.length + (Y.length + 1) ≤ 300 := a6
  have a7 : Y.length + 1 ≤ 100 := a7
  have hc : C.length + (Y.length + 1) ≤ j := hc
  have hF : Fg i μ (msi (msi μ 314 17 (nI (opc Y))) 314 16 (nI Y.length)) := fg_si (fg_si (fg_rf i μ) _ _ _ (by omega)) _ _ _ (by omega)
  refine ⟨hF, fg_gp hG hF, tp_si (tp_si hT (by omega)) (by omega), mt_si (mt_si hM (by omega)) (by omega), hr, ?_, ?_, ⟨⟨?_, fun z hz => a2 z (List.mem_cons_of_mem _ hz), StP_m Y a3.2 (fun z hz => ?_)⟩, wm_m a4 ?_ ?_ (fun z => ?_), ?_, by omega, by omega⟩, by omega⟩
  · rw [gi_si, if_neg (by omega), gi_si, if_neg (by omega)]
    exact h14
  · rw [gi_si, if_neg (by omega), gi_si, if_neg (by omega)]
    exact h18
  · rw [gi_si, if_pos ⟨rfl, rfl⟩]
  · rw [gi_si, if_neg (by omega), gi_si, if_neg (by omega)]
  · rw [gi_si, if_neg (by omega), gi_si, if_neg (by omega)]
  · rw [gi_si, if_neg (by omega), gi_si, if_neg (by omega)]
  · rw [gi_si, if_neg (by omega), gi_si, if_neg (by omega)]
  · rw [gi_si, if_neg (by omega), gi_si, if_pos ⟨rfl, rfl⟩]
end MZ
