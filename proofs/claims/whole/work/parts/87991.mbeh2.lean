/-! the reference behind a part of a sum -/
section MZ2
variable {μ : Me} {b : Nat → Nat} {L n i law j : Nat} {S : List Nat} {C : Cd}
/-- what the end of what is open writes down -/
def clC (x : Nat) : Cd := if x = 43 then [(3, 0)] else []
theorem m_emq {Q : Me → Prop} {o v : Nat} {fl : Nat} (h : Mq μ b L n i law j fl S C) (hl : C.length + S.length + 1 ≤ j) (k : ∀ ν, Fg i μ ν → Mq ν b L n i law j fl S (C ++ [(o, v)]) → Q ν) : S_X11_emit 314 (nI o) (nI v) μ Q := by
  obtain ⟨hG, hT, hM, hr, h14, h18, hS, hc⟩ := h
  have hln : (C ++ [(o, v)]).length = C.length + 1 := by rw [List.length_append]; rfl
  refine m_emit hG hr.2.1 hS.2.1 (by omega) (fun ν f1 f2 f3 f4 f5 => k ν f1 ⟨fg_gp hG f1, ?_, ?_, hr, (f2 14 (by omega)).trans h14, (f2 18 (by omega)).trans h18, ?_, by omega⟩)
  · exact ⟨hT.1, (f2 4 (by omega)).trans hT.2.1, fun q hq => ⟨(hT.2.2 q hq).1, (f1.2.2.2.2.1 318 q (by omega) (by omega) (by omega)).trans (hT.2.2 q hq).2⟩⟩
  · obtain ⟨m1, m2, m3, m4, m5, m6⟩ := hM
    exact ⟨m1, (f2 8 (by omega)).trans m2, (f2 7 (by omega)).trans m3, (f2 9 (by omega)).trans m4, fun a c => by rw [f2 10 (by omega)]; exact m5 a c, fun a c e => by rw [f4]; exact m6 a c e⟩
  · have := hr.2.2.1
    exact ⟨⟨(f2 16 (by omega)).trans hS.1.1, hS.1.2.1, StP_m S hS.1.2.2 (fun q _ => f3 q)⟩, f5, (f2 17 (by omega)).trans hS.2.2.1, by omega, hS.2.2.2.2⟩
theorem m_behind {Q : Int32 → Me → Prop} (h : Mq μ b L n i law j 1 S C) (hl : S.length < 100)
    (kA : bwM (kdT b L j) S ≠ 0 → ∀ ν, Fg i μ ν → Mq ν b L n i law (j + 1) 0 (bwM (kdT b L j) S :: (stl (rqM (bwM (kdT b L j) S)) S C).1) (stl (rqM (bwM (kdT b L j) S)) S C).2 → Q 1 ν)
    (kB : bwM (kdT b L j) S = 0 → (opn S = 0 ∨ paM (kdT b L j) S = 0) → Q 0 μ)
    (kC : bwM (kdT b L j) S = 0 → 2 ≤ paM (kdT b L j) S → ∀ Y, (stl 1 S C).1 = opn S :: Y → ∀ ν, Fg i μ ν → Mq ν b L n i law (j + 1) 0 (paM (kdT b L j) S :: Y) (stl 1 S C).2 → Q 1 ν)
    (kD : bwM (kdT b L j) S = 0 → paM (kdT b L j) S = 1 → ∀ Y, (stl 1 S C).1 = opn S :: Y → ∀ ν, Fg i μ ν → Mq ν b L n i law (j + 1) 1 (stl 7 Y ((stl 1 S C).2 ++ clC (opn S))).1 (stl 7 Y ((stl 1 S C).2 ++ clC (opn S))).2 → Q 1 ν) : S_X11_behindOne 314 μ Q := by
  have hG := h.1
  have hS := h.2.2.2.2.2.2.1
  have o1 : mok μ 314 11 := gp_ok hG (by decide) (by decide)
  have hob := opn_b S hS.1.2.1
  refine ⟨o1, m_between h (fun z => ⟨fun _ => ?_, fun y => absurd (by decide) y⟩) (fun z => ?_)⟩
  · refine m_openNow hG hS.1 hS.2.2.2.2 (fun w => ?_) (fun w => ?_)
    · refine ⟨fun y => absurd y (by decide), fun _ => ⟨fun y => absurd y (by decide), fun _ => ⟨fun y => absurd y (by decide), fun _ => ⟨fun y => absurd y (by decide), fun _ => ⟨fun y => absurd y (by decide), fun _ => kB z (Or.inl w)⟩⟩⟩⟩⟩
    · refine m_part h (fun p => ⟨fun y => absurd y (by decide), fun _ => kB z (Or.inr p)⟩) (fun p => ⟨fun _ => ?_, fun y => absurd (by decide) y⟩) (fun p => ?_) w
      · obtain ⟨p1, p2, p3⟩ := paM_b (k := kdT b L j) (S := S) (by omega)
        obtain ⟨Y, hY⟩ := stl_top S C w
        refine m_setq (r := 1) (by omega) (by omega) h (fun ν f1 f2 => ?_)
        rw [hY] at f2
        generalize hD : (stl 1 S C).2 = D at f2 kD
        refine m_nqq f2 p1 (fun ν2 g1 g2 => ⟨fun _ => ?_, fun y => absurd (by decide) y⟩)
        obtain ⟨r1, r2⟩ := mq_pop g2 p3
        have h17 : mgi ν2 314 17 = nI (opc Y + 1) := by
          rw [g2.2.2.2.2.2.2.1.2.2.1]
          show nI (isO (opn S) + opc Y) = _
          rw [show isO (opn S) = 1 from if_pos (Or.inl p3), Nat.add_comm]
        have h16 : mgi ν2 314 16 = nI (Y.length + 1) := g2.2.2.2.2.2.2.1.1.1
        intro ρ1 e1 ρ2 e2
        have eρ : ρ2 = msi (msi ν2 314 17 (nI (opc Y))) 314 16 (nI Y.length) := by
          rw [e2, e1, h17, nI_dec, gi_si, if_neg (by omega), h16, nI_dec]
        rw [eρ]
        have Fa := fg_tr f1 (fg_tr g1 r1)
        have hcY : D.length + (Y.length + 1) ≤ j := f2.2.2.2.2.2.2.2
        have e43 : (nI (opn S) = 43) = (opn S = 43) := q_eq (b := 43) (by omega) (by omega)
        rw [e43]
        refine ⟨fun c => ?_, fun c => ?_⟩
        · have ec : D ++ clC (opn S) = D := by
            unfold clC
            rw [if_neg c, List.append_nil]
          rw [ec] at kD
          exact ⟨gp_ok r2.1 (by decide) (by decide), m_setq (r := 7) (by omega) (by omega) r2 (fun ν4 s1 s2 => kD z p Y hY ν4 (fg_tr Fa s1) s2)⟩
        · have ec : D ++ clC (opn S) = D ++ [(3, 0)] := by
            unfold clC
            rw [if_pos c]
          rw [ec] at kD
          exact m_emq (o := 3) (v := 0) r2 (by omega) (fun ν4 s1 s2 => ⟨gp_ok s2.1 (by decide) (by decide), m_setq (r := 7) (by omega) (by omega) s2 (fun ν5 t1 t2 => kD z p Y hY ν5 (fg_tr Fa (fg_tr s1 t1)) t2)⟩)
      · obtain ⟨p1, p2, p3⟩ := paM_b (k := kdT b L j) (S := S) (by omega)
        refine ⟨fun _ => ?_, fun y => absurd (nI_p0 (by omega)) y⟩
        obtain ⟨Y, hY⟩ := stl_top S C w
        refine m_setq (r := 1) (by omega) (by omega) h (fun ν f1 f2 => ?_)
        rw [hY] at f2
        refine m_nqq f2 p1 (fun ν2 g1 g2 => ⟨fun y => ?_, fun _ => ?_⟩)
        · exfalso
          have e : (nI (paM (kdT b L j) S) ≤ 0) = (paM (kdT b L j) S ≤ 0) := q_le (b := 0) (by omega) (by omega)
          rw [e] at y
          omega
        · exact m_swap g2 p3 (by omega) (fun ν4 s1 s2 => kC z p Y hY ν4 (fg_tr f1 (fg_tr g1 s1)) s2)
  · obtain ⟨b1, b2, b3, b4, b5⟩ := bwM_b z
    have sl := stl_len (rqM (bwM (kdT b L j) S)) S C
    refine ⟨fun y => absurd y (nI_n0 (by omega)), fun _ => ?_⟩
    have rk := rkM_7 (bwM (kdT b L j) S)
    rw [e_rank (by omega)]
    have e4 : (nI (rkM (bwM (kdT b L j) S)) = 4) = (rkM (bwM (kdT b L j) S) = 4) := q_eq (b := 4) (by omega) (by omega)
    rw [e4]
    refine ⟨fun c => ?_, fun c => ?_⟩
    · have er : rqM (bwM (kdT b L j) S) = rkM (bwM (kdT b L j) S) := if_neg c
      rw [e_rank (by omega), ← er]
      exact m_op b4 b5 h b3 b1 b2 (by omega) (kA z)
    · have er : rqM (bwM (kdT b L j) S) = 5 := if_pos c
      rw [er] at kA b4 b5 sl
      exact m_op (r := 5) b4 b5 h b3 b1 b2 (by omega) (kA z)
end MZ2
