/-! the reference reads a clause: all of it -/
section MCN
variable {μ ν : Me} {b : Nat → Nat} {L n i j : Nat} {Q : Int32 → Me → Prop}
/-- behind the body of a clause -/
theorem m_tail {s : Nat} {Z : Zt} (h : Mp μ b L n i j) (hZ : Zm μ i Z) (hg : Zg n j Z) (kj : kdT b L j ≠ 51) (e1 : pCl (kdT b L) (nmT b L) Z j = if (pBd (kdT b L) (nmT b L) Z j).1 = 0 then (if kdT b L (pBd (kdT b L) (nmT b L) Z j).2.1 = 36 then (0, (pBd (kdT b L) (nmT b L) Z j).2.1 + 1, (pBd (kdT b L) (nmT b L) Z j).2.2) else (1, (pBd (kdT b L) (nmT b L) Z j).2.1, Z)) else ((pBd (kdT b L) (nmT b L) Z j).1, (pBd (kdT b L) (nmT b L) Z j).2.1, Z))
    (k1 : (pCl (kdT b L) (nmT b L) Z j).1 = 0 → ∀ ν, Fzm i μ ν → Mp ν b L n i (pCl (kdT b L) (nmT b L) Z j).2.1 → Zm ν i (pCl (kdT b L) (nmT b L) Z j).2.2 → Q 0 ν)
    (k0 : (pCl (kdT b L) (nmT b L) Z j).1 ≠ 0 → ∀ ν, Fzm i μ ν → Mf ν b L (pCl (kdT b L) (nmT b L) Z j).2.1 → Q (nI (pCl (kdT b L) (nmT b L) Z j).1) ν)
    (cc : Z.1 < 24) (bz : (pBd (kdT b L) (nmT b L) Z j).1 = 0) (f1 : Fzm i μ ν) (f2 : Mp ν b L n i (pBd (kdT b L) (nmT b L) Z j).2.1) (f3 : Wm ν i (pBd (kdT b L) (nmT b L) Z j).2.2.2.2.1) (f4 : ∀ q, 729 * i ≤ q → q < 729 * i + 1 + 5 * Z.1 → mgi ν 317 q = mgi μ 317 q) (f5 : mgi ν 317 (729 * i + 1 + 5 * Z.1) = nI ((pBd (kdT b L) (nmT b L) Z j).2.2.2.1 Z.1 0)) (f6 : ∀ q, 1 ≤ q → q ≤ arS ((pBd (kdT b L) (nmT b L) Z j).2.2.2.1 Z.1 0) → mgi ν 317 (729 * i + 1 + 5 * Z.1 + q) = nI ((pBd (kdT b L) (nmT b L) Z j).2.2.2.1 Z.1 q)) (f7 : kdT b L j < 2 → mgi ν 317 (729 * i + 1 + 5 * Z.1 + 1) = nI Z.2.2.1.length ∧ mgi ν 317 (729 * i + 1 + 5 * Z.1 + 2) = nI (Z.2.2.1.length + (pR (kdT b L) (nmT b L) (kdT b L j) 100 0 0 (j + 1)).2.2.1.length)) (f8 : mgi ν 314 19 = nI (ltB (pBd (kdT b L) (nmT b L) Z j).2.2)) :
    ∃ t19, mgr ν 314 2 = some t19 ∧ mok ν t19 12 ∧ vp_in (mgi ν 314 12) (mln ν t19) ∧ vp_in (mgi ν 314 12) (mln ν t19) ∧ ∀ μ21, μ21 = msi ν t19 (mgi ν 314 12).toNatClampNeg ((mgi ν t19 (mgi ν 314 12).toNatClampNeg) + 1) → (((mgi μ21 314 9) = 59 → S_X11_nextToken 314 μ21 (fun μ22 => Q 0 μ22)) ∧ (¬ (mgi μ21 314 9) = 59 → Q 1 μ21)) := by
  have hi4 := h.2.2.2.2.1
  obtain ⟨o1, o2, o3, o4⟩ := tx_m f2.1
  obtain ⟨z1, z2, z3, z4, z5⟩ := hZ
  have v : vp_in (nI (729 * i)) (mln ν 317) := by
    rw [q_in (by omega) (by omega), o4]
    omega
  have h12 : mgi ν 314 12 = nI (729 * i) := f3.1
  refine ⟨317, o2, o3, by rw [h12]; exact v, by rw [h12]; exact v, fun ρ er => ?_⟩
  rw [h12, q_cl (by omega), f4 (729 * i) (by omega) (by omega), z1, nI_s1] at er
  have g : ∀ a q, (a = 317 → q ≠ 729 * i) → mgi ρ a q = mgi ν a q := fun a q hq => by rw [er, gi_si, if_neg (by omega)]
  have vc : mgi ρ 317 (729 * i) = nI (Z.1 + 1) := by rw [er, gi_si, if_pos ⟨rfl, rfl⟩]
  have hFr : Fzm i ν ρ := by
    rw [er]
    exact fzm_si (fzm_rf i ν) _ _ _ (by omega)
  have hp : Mp ρ b L n i (pBd (kdT b L) (nmT b L) Z j).2.1 := by
    rw [er]
    exact mp_si f2
  clear er
  rw [(mp_9 hp).2.2]
  rw [e1, if_pos bz] at k1 k0
  refine ⟨fun c36 => ?_, fun c36 => ?_⟩
  rotate_left
  · rw [if_neg c36] at k0
    exact k0 (by show 1 ≠ 0; omega) ρ (fzm_tr f1 hFr) (mp_f hp)
  rw [if_pos c36] at k1
  refine mp_nx hp (by omega) (fun ν2 n1 n2 => k1 rfl ν2 (fzm_tr f1 (fzm_tr hFr (fzm_n n1))) n2 ?_)
  have gn : ∀ a q, (a = 314 → q < 7 ∨ 10 < q) → (a = 317 → q ≠ 729 * i) → mgi ν2 a q = mgi ν a q := fun a q u1 u2 => (n1.2.2.2.2.1 a q u1).trans (g a q u2)
  have vc2 : mgi ν2 317 (729 * i) = nI (Z.1 + 1) := (n1.2.2.2.2.1 317 _ (by omega)).trans vc
  have W2 : Wm ν2 i (pBd (kdT b L) (nmT b L) Z j).2.2.2.2.1 := ⟨(gn 314 12 (by omega) (by omega)).trans f3.1, (gn 314 13 (by omega) (by omega)).trans f3.2.1, LiP_m _ 0 f3.2.2 (fun q z _ _ hz => ⟨(gn 317 _ (by omega) (by omega)).trans hz.1, (gn 317 _ (by omega) (by omega)).trans hz.2⟩)⟩
  have old : ∀ q, 729 * i < q → q < 729 * i + 1 + 5 * Z.1 → mgi ν2 317 q = mgi μ 317 q := fun q u1 u2 => (gn 317 q (by omega) (by omega)).trans (f4 q (by omega) u2)
  have f82 := (gn 314 19 (by omega) (by omega)).trans f8
  have f52 := (gn 317 _ (by omega) (by omega)).trans f5
  have f62 : ∀ q, 1 ≤ q → q ≤ arS ((pBd (kdT b L) (nmT b L) Z j).2.2.2.1 Z.1 0) → mgi ν2 317 (729 * i + 1 + 5 * Z.1 + q) = nI ((pBd (kdT b L) (nmT b L) Z j).2.2.2.1 Z.1 q) := fun q u1 u2 => (gn 317 _ (by omega) (by omega)).trans (f6 q u1 u2)
  have lg : ∀ l, l < 2 → ∀ z, Z.2.2.2.2 l = some z → z.1 < Z.1 := fun l hl z hz => ((hg.2.2.2.2.2 l hl).2 z hz).1
  have ar4 : ∀ k, arS k ≤ 4 := by
    intro k
    unfold arS
    repeat' split
    all_goals omega
  clear k1 k0 e1
  refine ⟨?_, W2, fun k hk => ?_, fun l hl z hz => ?_, f82⟩
  · rw [vc2]
    unfold pBd
    split <;> rfl
  · have e : (pBd (kdT b L) (nmT b L) Z j).2.2.1 = Z.1 + 1 := by
      unfold pBd
      split <;> rfl
    rw [e] at hk
    by_cases w : k = Z.1
    · subst w
      exact ⟨f52, f62⟩
    · have hk2 : k < Z.1 := by omega
      have en : ∀ q, (pBd (kdT b L) (nmT b L) Z j).2.2.2.1 k q = Z.2.1 k q := by
        intro q
        unfold pBd
        split
        · exact zn_o hk2
        · exact zn_o hk2
      obtain ⟨u1, u2⟩ := z3 k hk2
      rw [en]
      refine ⟨(old _ (by omega) (by omega)).trans u1, fun q v1 v2 => ?_⟩
      have := ar4 (Z.2.1 k 0)
      rw [en, old _ (by omega) (by omega)]
      exact u2 q v1 v2
  · revert hz
    unfold pBd
    by_cases c2 : kdT b L j < 2
    · rw [if_pos c2]
      obtain ⟨f71, f72⟩ := f7 c2
      generalize pR (kdT b L) (nmT b L) (kdT b L j) 100 0 0 (j + 1) = a at f72 ⊢
      intro hz
      have hz : (if l = kdT b L j then some (Z.1, Z.2.2.1.length, Z.2.2.2.1.length, a) else Z.2.2.2.2 l) = some z := hz
      by_cases w1 : l = kdT b L j
      · rw [if_pos w1] at hz
        cases hz
        refine ⟨?_, ?_⟩
        · show mgi ν2 317 (729 * i + 2 + 5 * Z.1) = nI Z.2.2.1.length
          rw [← f71, show 729 * i + 1 + 5 * Z.1 + 1 = 729 * i + 2 + 5 * Z.1 by omega]
          exact gn 317 _ (by omega) (by omega)
        · show mgi ν2 317 (729 * i + 3 + 5 * Z.1) = nI (Z.2.2.1.length + a.2.2.1.length)
          rw [← f72, show 729 * i + 1 + 5 * Z.1 + 2 = 729 * i + 3 + 5 * Z.1 by omega]
          exact gn 317 _ (by omega) (by omega)
      · rw [if_neg w1] at hz
        have := lg l hl z hz
        rw [old _ (by omega) (by omega), old _ (by omega) (by omega)]
        exact z4 l hl z hz
    · rw [if_neg c2]
      intro hz
      have hz : Z.2.2.2.2 l = some z := hz
      have := lg l hl z hz
      rw [old _ (by omega) (by omega), old _ (by omega) (by omega)]
      exact z4 l hl z hz
theorem m_clause {Z : Zt} (h : Mp μ b L n i j) (hZ : Zm μ i Z) (hg : Zg n j Z)
    (k1 : (pCl (kdT b L) (nmT b L) Z j).1 = 0 → ∀ ν, Fzm i μ ν → Mp ν b L n i (pCl (kdT b L) (nmT b L) Z j).2.1 → Zm ν i (pCl (kdT b L) (nmT b L) Z j).2.2 → Q 0 ν)
    (k0 : (pCl (kdT b L) (nmT b L) Z j).1 ≠ 0 → ∀ ν, Fzm i μ ν → Mf ν b L (pCl (kdT b L) (nmT b L) Z j).2.1 → Q (nI (pCl (kdT b L) (nmT b L) Z j).1) ν) : S_X11_clause 314 μ Q := by
  obtain ⟨o1, o2, o3, o4⟩ := tx_m h.1
  have hi4 := h.2.2.2.2.1
  obtain ⟨z1, z2, z3, z4, z5⟩ := id hZ
  obtain ⟨y1, y2, y3, y4, y5, y6⟩ := id hg
  refine ⟨o1, m_sort h (fun c7 => ?_) (fun c7 => ?_)⟩
  · have e1 : pCl (kdT b L) (nmT b L) Z j = (1, j, Z) := if_pos c7
    rw [e1] at k0
    exact ⟨fun y => absurd y (by decide), fun _ => k0 (by show 1 ≠ 0; omega) μ (fzm_rf i μ) (mp_f h)⟩
  have kj : kdT b L j ≠ 51 := by omega
  obtain ⟨m1, m2, m3⟩ := kmS_b c7
  have km2 : kdT b L j < 2 → kmS (kdT b L j) = kdT b L j := by
    intro c
    have : kdT b L j = 0 ∨ kdT b L j = 1 := by omega
    rcases this with w | w <;> rw [w] <;> rfl
  have e1s : (1 < nI (kmS (kdT b L j))) = (1 < kmS (kdT b L j)) := q_lt (a := 1) (by omega) (by omega)
  -- behind the test of the law that is there
  have b29 : ¬ (kdT b L j < 2 ∧ (Z.2.2.2.2 (kdT b L j)).isSome = true) → B_X11_clause_29 314 (nI (kmS (kdT b L j))) μ Q := by
    intro nh
    have v : vp_in (nI (729 * i)) (mln μ 317) := by
      rw [q_in (by omega) (by omega), o4]
      omega
    have e24 : (nI Z.1 = 24) = (Z.1 = 24) := q_eq (b := 24) (by omega) (by omega)
    refine ⟨o1, 317, o2, o3, by rw [z2.1]; exact v, ?_⟩
    rw [z2.1, q_cl (by omega), z1, e24, e1s]
    refine ⟨fun cn => ?_, fun cn => ?_⟩
    rotate_left
    · have e1 : pCl (kdT b L) (nmT b L) Z j = (6, j, Z) := by
        unfold pCl
        rw [if_neg (by omega), if_neg nh, if_pos (by omega)]
      rw [e1] at k0
      exact k0 (by show 6 ≠ 0; omega) μ (fzm_rf i μ) (mp_f h)
    have cc : Z.1 < 24 := by omega
    have e1 : pCl (kdT b L) (nmT b L) Z j = if (pBd (kdT b L) (nmT b L) Z j).1 = 0 then (if kdT b L (pBd (kdT b L) (nmT b L) Z j).2.1 = 36 then (0, (pBd (kdT b L) (nmT b L) Z j).2.1 + 1, (pBd (kdT b L) (nmT b L) Z j).2.2) else (1, (pBd (kdT b L) (nmT b L) Z j).2.1, Z)) else ((pBd (kdT b L) (nmT b L) Z j).1, (pBd (kdT b L) (nmT b L) Z j).2.1, Z) := by
      unfold pCl
      rw [if_neg (by omega), if_neg nh, if_neg (by omega)]
    have b65 : ∀ μ1, Fzm i μ μ1 → (∀ a q, (a = 314 → q ≠ 19) → mgi μ1 a q = mgi μ a q) → Mp μ1 b L n i j → mgi μ1 314 19 = nI (ltB (pBd (kdT b L) (nmT b L) Z j).2.2) → B_X11_clause_65 314 (nI (kmS (kdT b L j))) (nI Z.1) μ1 Q := by
      intro μ1 F1 G1 P1 B1
      refine ⟨(tx_m P1.1).1, fun μ2 e2 => ?_⟩
      have P2 : Mp μ2 b L n i j := by
        rw [e2]
        exact mp_s1 P1 (by omega)
      have G2 : ∀ a q, (a = 314 → q ≠ 14) → mgi μ2 a q = mgi μ1 a q := fun a q hq => by rw [e2, gi_si, if_neg (by omega)]
      have V2 : mgi μ2 314 14 = nI (kmS (kdT b L j)) := by rw [e2, gi_si, if_pos ⟨rfl, rfl⟩]
      have F2 : Fzm i μ1 μ2 := by
        rw [e2]
        exact fzm_si (fzm_rf i μ1) _ _ _ (by omega)
      clear e2
      refine mp_nx P2 kj (fun μ3 F3 P3 => ?_)
      have G3 := F3.2.2.2.2.1
      have ex : (nI (729 * i) + 1) + (5 * nI Z.1) = nI (729 * i + 1 + 5 * Z.1) := by
        rw [nI_s1, show (5 : Int32) = nI 5 from rfl, pk_mul, nI_add]
      have h12 : mgi μ3 314 12 = nI (729 * i) := (G3 314 12 (by omega)).trans ((G2 314 12 (by omega)).trans ((G1 314 12 (by omega)).trans z2.1))
      obtain ⟨p1, p2, p3, p4⟩ := tx_m P3.1
      rw [h12, ex]
      refine ⟨317, p2, p3, by rw [q_in (by omega) (by omega), p4]; omega, fun μ4 e4 => ?_⟩
      rw [q_cl (by omega)] at e4
      have P4 : Mp μ4 b L n i (j + 1) := by
        rw [e4]
        exact mp_si P3
      have G4 : ∀ a q, (a = 317 → q ≠ 729 * i + 1 + 5 * Z.1) → mgi μ4 a q = mgi μ3 a q := fun a q hq => by rw [e4, gi_si, if_neg (by omega)]
      have V4 : mgi μ4 317 (729 * i + 1 + 5 * Z.1) = nI (kmS (kdT b L j)) := by rw [e4, gi_si, if_pos ⟨rfl, rfl⟩]
      have F4 : Fzm i μ3 μ4 := by
        rw [e4]
        exact fzm_si (fzm_rf i μ3) _ _ _ (by omega)
      clear e4
      have FF : Fzm i μ μ4 := fzm_tr F1 (fzm_tr F2 (fzm_tr (fzm_n F3) F4))
      have GG : ∀ a q, (a = 314 → q < 7 ∨ (10 < q ∧ q ≠ 14 ∧ q ≠ 19)) → (a = 317 → q ≠ 729 * i + 1 + 5 * Z.1) → mgi μ4 a q = mgi μ a q := fun a q u1 u2 => (G4 a q u2).trans ((G3 a q (by omega)).trans ((G2 a q (by omega)).trans (G1 a q (by omega))))
      have V14 : mgi μ4 314 14 = nI (kmS (kdT b L j)) := (G4 314 14 (by omega)).trans ((G3 314 14 (by omega)).trans V2)
      have V19 : mgi μ4 314 19 = nI (ltB (pBd (kdT b L) (nmT b L) Z j).2.2) := (G4 314 19 (by omega)).trans ((G3 314 19 (by omega)).trans ((G2 314 19 (by omega)).trans B1))
      have W4 : Wm μ4 i Z.2.2.1 := ⟨(GG 314 12 (by omega) (by omega)).trans z2.1, (GG 314 13 (by omega) (by omega)).trans z2.2.1, LiP_m _ 0 z2.2.2 (fun q z _ _ hz => ⟨(GG 317 _ (by omega) (by omega)).trans hz.1, (GG 317 _ (by omega) (by omega)).trans hz.2⟩)⟩
      have n0 : ∀ f, f ≠ 0 → f ≤ 6 → ¬ nI f = 0 := fun f h1 h2 y => h1 ((q_eq (b := 0) (by omega) (by omega)).mp y)
      have fb := (pBd_g (nm := nmT b L) h.2.2.2.2.2.2 h.2.2.2.2.2.1 (Z := Z) (mp_lt h kj)).2.2
      by_cases c2 : kdT b L j < 2
      · have eb : pBd (kdT b L) (nmT b L) Z j = ((pR (kdT b L) (nmT b L) (kdT b L j) 100 0 0 (j + 1)).1, (pR (kdT b L) (nmT b L) (kdT b L j) 100 0 0 (j + 1)).2.1, zLw Z (kdT b L j) (pR (kdT b L) (nmT b L) (kdT b L j) 100 0 0 (j + 1))) := if_pos c2
        rw [km2 c2] at V4 V14 ⊢
        refine m_law c2 P4 (by omega) W4 (by omega) V14 (fun bz ν f1 f2 f3 f4 f5 f6 => bb0 ?_) (fun bz ν f1 f2 => ⟨fun w => absurd w (n0 _ bz ?_), fun _ => ?_⟩)
        · refine m_tail (s := 0) h hZ hg kj e1 k1 k0 cc ?_ (fzm_tr FF f1) ?_ ?_ (fun q u1 u2 => ?_) ?_ (fun q u1 u2 => ?_) (fun _ => ⟨f5, f6⟩) ?_
          · rw [eb]; exact bz
          · rw [eb]; exact f3
          · rw [eb]; exact f4
          · exact (f2 317 q (by omega) (by omega) (by omega)).trans (GG 317 q (by omega) (by omega))
          · rw [eb, f2 317 _ (by omega) (by omega) (by omega), V4]
            show _ = nI (zNum Z (kdT b L j) [] Z.1 0)
            rw [zn_0]
          · rw [eb] at u2
            have u2 : q ≤ arS (zNum Z (kdT b L j) [] Z.1 0) := u2
            rw [zn_0] at u2
            have : arS (kdT b L j) = 0 := by
              unfold arS
              rw [if_neg (by omega), if_neg (by omega), if_pos c2]
            omega
          · exact (f2 314 19 (by omega) (by omega) (by omega)).trans V19
        · rw [eb] at fb
          have fb : (pR (kdT b L) (nmT b L) (kdT b L j) 100 0 0 (j + 1)).1 ≤ 5 := fb
          omega
        · rw [e1, eb, if_neg bz] at k0
          exact k0 bz ν (fzm_tr FF f1) f2
      · have eb : pBd (kdT b L) (nmT b L) Z j = ((pPl (kdT b L) (nmT b L) (shC (kmS (kdT b L j))) (j + 1)).1, (pPl (kdT b L) (nmT b L) (shC (kmS (kdT b L j))) (j + 1)).2.1, zPl Z (kmS (kdT b L j)) (pPl (kdT b L) (nmT b L) (shC (kmS (kdT b L j))) (j + 1)).2.2) := if_neg c2
        refine m_plain (k := kdT b L j) ⟨by omega, c7⟩ P4 (by omega) (fun bz ν f1 f2 f3 => bb0 ?_) (fun bz ν f1 f2 => ⟨fun w => absurd w (n0 _ bz ?_), fun _ => ?_⟩)
        · have g1 := f1.2.2.2.2.1
          refine m_tail (s := 0) h hZ hg kj e1 k1 k0 cc ?_ (fzm_tr FF (fxm_m f1 (by omega) (by omega))) ?_ ?_ (fun q u1 u2 => ?_) ?_ (fun q u1 u2 => ?_) (fun w => absurd w c2) ?_
          · rw [eb]; exact bz
          · rw [eb]; exact f2
          · rw [eb]
            show Wm ν i Z.2.2.1
            exact ⟨(g1 314 12 (by omega) (by omega)).trans W4.1, (g1 314 13 (by omega) (by omega)).trans W4.2.1, LiP_m _ 0 W4.2.2 (fun q z _ _ hz => ⟨(g1 317 _ (by omega) (by omega)).trans hz.1, (g1 317 _ (by omega) (by omega)).trans hz.2⟩)⟩
          · exact (g1 317 q (by omega) (by omega)).trans (GG 317 q (by omega) (by omega))
          · rw [eb, g1 317 _ (by omega) (by omega), V4]
            show _ = nI (zNum Z (kmS (kdT b L j)) (pPl (kdT b L) (nmT b L) (shC (kmS (kdT b L j))) (j + 1)).2.2 Z.1 0)
            rw [zn_0]
          · rw [eb] at u2 ⊢
            have u2 : q ≤ arS (zNum Z (kmS (kdT b L j)) (pPl (kdT b L) (nmT b L) (shC (kmS (kdT b L j))) (j + 1)).2.2 Z.1 0) := u2
            rw [zn_0] at u2
            have hlen : arS (kmS (kdT b L j)) ≤ (shC (kmS (kdT b L j))).length := shC_l m1
            obtain ⟨q', rfl⟩ : ∃ q', q = q' + 1 := ⟨q - 1, by omega⟩
            have := f3 q' (by omega)
            rw [show 729 * i + 1 + 5 * Z.1 + 1 + q' = 729 * i + 1 + 5 * Z.1 + (q' + 1) by omega] at this
            rw [this]
            show _ = nI (zNum Z (kmS (kdT b L j)) (pPl (kdT b L) (nmT b L) (shC (kmS (kdT b L j))) (j + 1)).2.2 Z.1 (q' + 1))
            rw [zn_s]
          · exact (g1 314 19 (by omega) (by omega)).trans V19
        · rw [eb] at fb
          have fb : (pPl (kdT b L) (nmT b L) (shC (kmS (kdT b L j))) (j + 1)).1 ≤ 5 := fb
          omega
        · rw [e1, eb, if_neg bz] at k0
          exact k0 bz ν (fzm_tr FF (fxm_m f1 (by omega) (by omega))) f2
    refine ⟨fun c1 => ?_, fun c1 μ1 e => ?_⟩
    · have c2 : ¬ kdT b L j < 2 := fun w => by rw [km2 w] at c1; omega
      refine b65 μ (fzm_rf i μ) (fun _ _ _ => rfl) h ?_
      rw [z5]
      unfold pBd
      rw [if_neg c2]
      rfl
    · have c2 : kdT b L j < 2 := by
        by_cases w : kdT b L j < 2
        · exact w
        · have := m3 (by omega)
          omega
      have hn : Z.2.2.2.2 (kdT b L j) = none := by
        cases hz : Z.2.2.2.2 (kdT b L j) with
        | none => rfl
        | some z => exact absurd ⟨c2, by rw [hz]; rfl⟩ nh
      rw [z5, km2 c2, (bt_all (ltB Z) (ltB_b Z).1 (kdT b L j) c2).2] at e
      refine b65 μ1 ?_ (fun a q hq => by rw [e, gi_si, if_neg (by omega)]) ?_ ?_
      · rw [e]
        exact fzm_si (fzm_rf i μ) _ _ _ (by omega)
      · rw [e]
        exact mp_s1 h (by omega)
      · rw [e, gi_si, if_pos ⟨rfl, rfl⟩]
        unfold pBd
        rw [if_pos c2]
        show nI _ = nI (ltB (zLw Z (kdT b L j) (pR (kdT b L) (nmT b L) (kdT b L j) 100 0 0 (j + 1))))
        rw [ltB_s c2 hn]
  refine ⟨fun _ => ?_, fun y => absurd (nI_p0 (by omega)) y⟩
  rw [e1s]
  refine ⟨fun c1 => b29 (fun w => ?_), fun c1 => ?_⟩
  · have := km2 w.1
    omega
  · have c2 : kdT b L j < 2 := by
      by_cases w : kdT b L j < 2
      · exact w
      · have := m3 (by omega)
        omega
    have hb := (bt_all (ltB Z) (ltB_b Z).1 (kdT b L j) c2).1
    have hl := (ltB_b Z).2 (kdT b L j) c2
    rw [z5, km2 c2]
    rw [km2 c2] at b29
    refine ⟨fun y => bb0 (b29 (fun w => y (hb.mpr (hl.mpr w.2)))), fun y => bb1 ?_⟩
    have ih : kdT b L j < 2 ∧ (Z.2.2.2.2 (kdT b L j)).isSome = true := ⟨c2, hl.mp (hb.mp y)⟩
    have e1 : pCl (kdT b L) (nmT b L) Z j = (4, j, Z) := by
      unfold pCl
      rw [if_neg (by omega), if_pos ih]
    rw [e1] at k0
    exact k0 (by show 4 ≠ 0; omega) μ (fzm_rf i μ) (mp_f h)
/-- all clauses -/
theorem m_read (h : Mp μ b L n i 0) (hZ : Zm μ i ZtO)
    (k1 : (pTx (kdT b L) (nmT b L) 25 ZtO 0).1 = 0 → ∀ ν, Fzm i μ ν → Zm ν i (pTx (kdT b L) (nmT b L) 25 ZtO 0).2.2 → Q 0 ν)
    (k0 : (pTx (kdT b L) (nmT b L) 25 ZtO 0).1 ≠ 0 → ∀ ν, Fzm i μ ν → Mf ν b L (pTx (kdT b L) (nmT b L) 25 ZtO 0).2.1 → Q (nI (pTx (kdT b L) (nmT b L) 25 ZtO 0).1) ν) : L_X11_readText_43 314 μ Q := by
  have h3 := h.2.2.2.2.2.1
  have hn := h.2.2.2.2.2.2
  refine loopZ (Bd := fun ν K => B_X11_readText_43 314 ν K Q) (fun ν m => ∃ j Z, m = 25 - Z.1 ∧ Zg n j Z ∧ Mp ν b L n i j ∧ Zm ν i Z ∧ Fzm i μ ν ∧ pTx (kdT b L) (nmT b L) (25 - Z.1) Z j = pTx (kdT b L) (nmT b L) 25 ZtO 0) ⟨25, 0, ZtO, rfl, zg_0 n, h, hZ, fzm_rf i μ, rfl⟩ ?_
  rintro ν m ⟨j, Z, rfl, z1, z2, z3, z4, z6⟩ K hK
  have c24 := z1.1
  obtain ⟨m2, hm2⟩ : ∃ m2, 25 - Z.1 = m2 + 1 := ⟨24 - Z.1, by omega⟩
  rw [hm2] at z6
  unfold B_X11_readText_43
  rw [(mp_9 z2).2.1]
  refine ⟨(tx_m z2.1).1, fun y => ?_, fun y => ?_⟩
  · have e : pTx (kdT b L) (nmT b L) (m2 + 1) Z j = (0, j, Z) := if_pos y
    rw [e] at z6
    rw [← z6] at k1
    exact k1 rfl ν z4 z3
  · have hjn : j < n := mp_lt z2 y
    have b6 := (pCl_b (nm := nmT b L) hn h3 (Z := Z) hjn).2.1
    refine m_clause z2 z3 z1 (fun w ν2 f1 f2 f3 => bb0 ?_) (fun w ν2 f1 f2 => ⟨fun q => absurd ((q_eq (b := 0) (by omega) (by omega)).mp q) w, fun _ => ?_⟩)
    · obtain ⟨g1, g2, g3⟩ := zg_cl (nm := nmT b L) hn h3 z1 w
      have e : pTx (kdT b L) (nmT b L) (m2 + 1) Z j = pTx (kdT b L) (nmT b L) m2 (pCl (kdT b L) (nmT b L) Z j).2.2 (pCl (kdT b L) (nmT b L) Z j).2.1 := by
        show (if kdT b L j = 51 then _ else _) = _
        rw [if_neg y, if_pos w]
      rw [e] at z6
      refine hK ν2 _ ?_ ⟨(pCl (kdT b L) (nmT b L) Z j).2.1, (pCl (kdT b L) (nmT b L) Z j).2.2, rfl, g1, f2, f3, fzm_tr z4 f1, ?_⟩
      · rw [g2]
        omega
      · rw [← z6, g2, show 25 - (Z.1 + 1) = m2 by omega]
    · have e : pTx (kdT b L) (nmT b L) (m2 + 1) Z j = pCl (kdT b L) (nmT b L) Z j := by
        show (if kdT b L j = 51 then _ else _) = _
        rw [if_neg y, if_neg w]
      rw [e] at z6
      rw [← z6] at k0
      exact k0 w ν2 (fzm_tr z4 f1) f2
end MCN
