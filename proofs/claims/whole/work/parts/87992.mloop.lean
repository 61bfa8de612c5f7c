/-! the reference's loop over a sum: one token a turn -/
def WS (Q : Int32 → Me → Prop) : Nat → Me → Prop
  | 0, _ => False
  | m + 1, μ => ∀ K : Me → Prop, (∀ ρ, WS Q m ρ → K ρ) → B_X11_summed_15 314 μ K Q
theorem ws_L {Q : Int32 → Me → Prop} {m : Nat} {μ : Me} (h : WS Q m μ) : L_X11_summed_15 314 μ Q := ⟨fun ν k => WS Q k ν, ⟨m, h⟩, fun ν k hk => by
  cases k with
  | zero => exact hk.elim
  | succ k => exact hk _ (fun ρ hρ => ⟨k, Nat.lt_succ_self k, hρ⟩)⟩
section MWS
variable {μ : Me} {b : Nat → Nat} {L n i law j : Nat} {S : List Nat} {C : Cd} {Q : Int32 → Me → Prop}
theorem ws_beg (hlaw : law < 2) (h : Mq μ b L n i law j 0 S C) (hl : S.length < 100)
    (kN : opX (kdT b L j) S = 0 → (pNm (kdT b L) (nmT b L) law j).1 = 0 → ∀ ν, Fg i μ ν → Mq ν b L n i law (j + 1) 1 (stl 7 S (C ++ (pNm (kdT b L) (nmT b L) law j).2.2.1)).1 (stl 7 S (C ++ (pNm (kdT b L) (nmT b L) law j).2.2.1)).2 → WS Q (n - j) ν)
    (kE : opX (kdT b L j) S = 0 → (pNm (kdT b L) (nmT b L) law j).1 ≠ 0 → Q (nI (pNm (kdT b L) (nmT b L) law j).1) μ)
    (k3 : opX (kdT b L j) S ≠ 0 → opc S = 8 → Q 3 μ)
    (kO : opX (kdT b L j) S ≠ 0 → opc S ≠ 8 → ∀ ν, Fg i μ ν → Mq ν b L n i law (j + 1) 0 (opX (kdT b L j) S :: S) C → WS Q (n - j) ν) : WS Q (n + 1 - j) μ := by
  have hjn := h.2.2.2.1.1
  have h18 := h.2.2.2.2.2.1
  rw [show n + 1 - j = (n - j) + 1 by omega]
  intro K hK
  refine ⟨gp_ok h.1 (by decide) (by decide), fun _ => ?_, fun y => absurd h18 y⟩
  refine m_begin hlaw h hl (fun z w ν f1 f2 => bb0 (hK ν (kN z w ν f1 f2))) (fun z w => ?_) (fun z w => ⟨fun y => absurd y (by decide), fun _ => k3 z w⟩) (fun z w ν f1 f2 => bb0 (hK ν (kO z w ν f1 f2)))
  have f5 : (pNm (kdT b L) (nmT b L) law j).1 ≤ 5 := by
    unfold pNm pF
    repeat' split
    all_goals (show _ ≤ 5; omega)
  have e : (nI (pNm (kdT b L) (nmT b L) law j).1 = 0) = ((pNm (kdT b L) (nmT b L) law j).1 = 0) := q_eq (b := 0) (by omega) (by omega)
  exact ⟨fun y => absurd (e.mp y) w, fun _ => kE z w⟩
theorem ws_beh (h : Mq μ b L n i law j 1 S C) (hl : S.length < 100)
    (kA : bwM (kdT b L j) S ≠ 0 → ∀ ν, Fg i μ ν → Mq ν b L n i law (j + 1) 0 (bwM (kdT b L j) S :: (stl (rqM (bwM (kdT b L j) S)) S C).1) (stl (rqM (bwM (kdT b L j) S)) S C).2 → WS Q (n - j) ν)
    (kB : bwM (kdT b L j) S = 0 → paM (kdT b L j) S = 0 → opn S ≠ 0 → Q 1 μ)
    (kZ : bwM (kdT b L j) S = 0 → opn S = 0 → ∀ ν, Fg i μ ν → Mq ν b L n i law j 1 (stl 1 S C).1 (stl 1 S C).2 → Q 0 ν)
    (kC : bwM (kdT b L j) S = 0 → 2 ≤ paM (kdT b L j) S → ∀ Y, (stl 1 S C).1 = opn S :: Y → ∀ ν, Fg i μ ν → Mq ν b L n i law (j + 1) 0 (paM (kdT b L j) S :: Y) (stl 1 S C).2 → WS Q (n - j) ν)
    (kD : bwM (kdT b L j) S = 0 → paM (kdT b L j) S = 1 → ∀ Y, (stl 1 S C).1 = opn S :: Y → ∀ ν, Fg i μ ν → Mq ν b L n i law (j + 1) 1 (stl 7 Y ((stl 1 S C).2 ++ clC (opn S))).1 (stl 7 Y ((stl 1 S C).2 ++ clC (opn S))).2 → WS Q (n - j) ν) : WS Q (n + 1 - j) μ := by
  have hjn := h.2.2.2.1.1
  have h18 := h.2.2.2.2.2.1
  have hS := h.2.2.2.2.2.2.1
  have hob := opn_b S hS.1.2.1
  rw [show n + 1 - j = (n - j) + 1 by omega]
  intro K hK
  refine ⟨gp_ok h.1 (by decide) (by decide), fun y => ?_, fun _ => ?_⟩
  · rw [h18] at y
    exact absurd y (by decide)
  · refine m_behind h hl (fun z ν f1 f2 => bb1 (hK ν (kA z ν f1 f2))) (fun z w => bb0 ?_) (fun z p Y hY ν f1 f2 => bb1 (hK ν (kC z p Y hY ν f1 f2))) (fun z p Y hY ν f1 f2 => bb1 (hK ν (kD z p Y hY ν f1 f2)))
    refine m_openNow h.1 hS.1 hS.2.2.2.2 (fun o0 => ⟨fun _ => ?_, fun y => absurd (by decide) y⟩) (fun o0 => ⟨fun y => absurd y (nI_n0 (by omega)), fun _ => ?_⟩)
    · exact m_setq (r := 1) (by omega) (by omega) h (fun ν f1 f2 => kZ z o0 ν f1 f2)
    · exact kB z (w.resolve_left o0) o0
end MWS
