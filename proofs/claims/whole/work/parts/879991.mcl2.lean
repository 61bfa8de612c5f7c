/-! the reference reads a clause, and a text -/
def ltB (Z : Zt) : Nat := (if (Z.2.2.2.2 0).isSome = true then 1 else 0) + (if (Z.2.2.2.2 1).isSome = true then 2 else 0)
/-- the text in the reference -/
def Zm (μ : Me) (i : Nat) (Z : Zt) : Prop := mgi μ 317 (729 * i) = nI Z.1 ∧ Wm μ i Z.2.2.1 ∧ (∀ k, k < Z.1 → mgi μ 317 (729 * i + 1 + 5 * k) = nI (Z.2.1 k 0) ∧ ∀ q, 1 ≤ q → q ≤ arS (Z.2.1 k 0) → mgi μ 317 (729 * i + 1 + 5 * k + q) = nI (Z.2.1 k q)) ∧ (∀ law, law < 2 → ∀ z, Z.2.2.2.2 law = some z → mgi μ 317 (729 * i + 2 + 5 * z.1) = nI z.2.1 ∧ mgi μ 317 (729 * i + 3 + 5 * z.1) = nI (z.2.1 + z.2.2.2.2.2.1.length)) ∧ mgi μ 314 19 = nI (ltB Z)
theorem bt_all : ∀ B, B < 4 → ∀ l, l < 2 → ((((nI B >>> (nI l &&& 31)) &&& 1) = 1) ↔ (B / 2 ^ l) % 2 = 1) ∧ nI B ||| ((1 : Int32) <<< (nI l &&& 31)) = nI (B ||| 2 ^ l) := by decide
theorem ltB_b (Z : Zt) : ltB Z < 4 ∧ ∀ l, l < 2 → ((ltB Z / 2 ^ l) % 2 = 1 ↔ (Z.2.2.2.2 l).isSome = true) := by
  unfold ltB
  refine ⟨?_, fun l hl => ?_⟩
  · split <;> split <;> omega
  · have : l = 0 ∨ l = 1 := by omega
    rcases this with rfl | rfl
    · by_cases c : (Z.2.2.2.2 0).isSome = true
      · rw [if_pos c]
        by_cases c1 : (Z.2.2.2.2 1).isSome = true
        · rw [if_pos c1]
          exact ⟨fun _ => c, fun _ => by decide⟩
        · rw [if_neg c1]
          exact ⟨fun _ => c, fun _ => by decide⟩
      · rw [if_neg c]
        by_cases c1 : (Z.2.2.2.2 1).isSome = true
        · rw [if_pos c1]
          exact ⟨fun h => absurd h (by decide), fun h => absurd h c⟩
        · rw [if_neg c1]
          exact ⟨fun h => absurd h (by decide), fun h => absurd h c⟩
    · by_cases c : (Z.2.2.2.2 1).isSome = true
      · rw [if_pos c]
        by_cases c1 : (Z.2.2.2.2 0).isSome = true
        · rw [if_pos c1]
          exact ⟨fun _ => c, fun _ => by decide⟩
        · rw [if_neg c1]
          exact ⟨fun _ => c, fun _ => by decide⟩
      · rw [if_neg c]
        by_cases c1 : (Z.2.2.2.2 0).isSome = true
        · rw [if_pos c1]
          exact ⟨fun h => absurd h (by decide), fun h => absurd h c⟩
        · rw [if_neg c1]
          exact ⟨fun h => absurd h (by decide), fun h => absurd h c⟩
theorem ltB_s {Z : Zt} {l : Nat} {a : Rs} (hl : l < 2) (h : Z.2.2.2.2 l = none) : ltB Z ||| 2 ^ l = ltB (zLw Z l a) := by
  have : l = 0 ∨ l = 1 := by omega
  rcases this with rfl | rfl
  · have e0 : (zLw Z 0 a).2.2.2.2 0 = some (Z.1, Z.2.2.1.length, Z.2.2.2.1.length, a) := rfl
    have e1 : (zLw Z 0 a).2.2.2.2 1 = Z.2.2.2.2 1 := rfl
    unfold ltB
    rw [e0, e1, h]
    by_cases c : (Z.2.2.2.2 1).isSome = true
    · rw [if_pos c]; show (0 + 2 ||| 2 ^ 0 : Nat) = 1 + 2; decide
    · rw [if_neg c]; show (0 + 0 ||| 2 ^ 0 : Nat) = 1 + 0; decide
  · have e0 : (zLw Z 1 a).2.2.2.2 1 = some (Z.1, Z.2.2.1.length, Z.2.2.2.1.length, a) := rfl
    have e1 : (zLw Z 1 a).2.2.2.2 0 = Z.2.2.2.2 0 := rfl
    unfold ltB
    rw [e0, e1, h]
    by_cases c : (Z.2.2.2.2 0).isSome = true
    · rw [if_pos c]; show (1 + 0 ||| 2 ^ 1 : Nat) = 1 + 2; decide
    · rw [if_neg c]; show (0 + 0 ||| 2 ^ 1 : Nat) = 0 + 2; decide
section MCM
variable {μ ν : Me} {b : Nat → Nat} {L n i j : Nat} {Q : Int32 → Me → Prop}
theorem m_sum {law : Nat} {C : Cd} (hlaw : law < 2) (h : Mp μ b L n i j) (hW : Wm μ i C) (hC : C.length ≤ j) (h14 : mgi μ 314 14 = nI law)
    (k1 : (pR (kdT b L) (nmT b L) law 100 0 0 j).1 = 0 → ∀ ν, Fg i μ ν → Mp ν b L n i (pR (kdT b L) (nmT b L) law 100 0 0 j).2.1 → Wm ν i (C ++ (pR (kdT b L) (nmT b L) law 100 0 0 j).2.2.1) → Q 0 ν)
    (k0 : (pR (kdT b L) (nmT b L) law 100 0 0 j).1 ≠ 0 → ∀ ν, Fg i μ ν → Mf ν b L (pR (kdT b L) (nmT b L) law 100 0 0 j).2.1 → Q (nI (pR (kdT b L) (nmT b L) law 100 0 0 j).1) ν) : S_X11_summed 314 μ Q := by
  obtain ⟨hG, hT, hM, hr⟩ := h
  refine ⟨(tx_m hG).1, fun ρ1 e1 ρ2 e2 ρ3 e3 => ?_⟩
  have hF : Fg i μ ρ3 := by
    rw [e3, e2, e1]
    exact fg_si (fg_si (fg_si (fg_rf i μ) _ _ _ (by omega)) _ _ _ (by omega)) _ _ _ (by omega)
  have g : ∀ a q, (a = 314 → q < 16 ∨ 18 < q) → mgi ρ3 a q = mgi μ a q := fun a q hq => by rw [e3, gi_si, if_neg (by omega), e2, gi_si, if_neg (by omega), e1, gi_si, if_neg (by omega)]
  have v16 : mgi ρ3 314 16 = nI 0 := by rw [e3, gi_si, if_neg (by omega), e2, gi_si, if_neg (by omega), e1, gi_si, if_pos ⟨rfl, rfl⟩]; rfl
  have v17 : mgi ρ3 314 17 = nI 0 := by rw [e3, gi_si, if_neg (by omega), e2, gi_si, if_pos ⟨rfl, rfl⟩]; rfl
  have v18 : mgi ρ3 314 18 = nI 0 := by rw [e3, gi_si, if_pos ⟨rfl, rfl⟩]; rfl
  have hT3 : TpM ρ3 b L := by
    rw [e3, e2, e1]
    exact tp_si (tp_si (tp_si hT (by omega)) (by omega)) (by omega)
  have hM3 : MT ρ3 b L (tps b L j) := by
    rw [e3, e2, e1]
    exact mt_si (mt_si (mt_si hM (by omega)) (by omega)) (by omega)
  clear e1 e2 e3
  have hQ : Mq ρ3 b L n i law j 0 [] C := ⟨fg_gp hG hF, hT3, hM3, hr, (g 314 14 (by omega)).trans h14, v18, ⟨⟨v16, fun x hx => absurd hx (List.not_mem_nil), trivial⟩, wm_m hW (g 314 12 (by omega)) (g 314 13 (by omega)) (fun q => g 317 q (by omega)), v17, by show C.length + 0 ≤ 300; have := hr.1; have := hr.2.2.1; omega, by show 0 ≤ 100; omega⟩, by show C.length + 0 ≤ j; omega⟩
  refine ws_L (m := n + 1 - j) ?_
  have hpk := pR_g (nm := nmT b L) hr.2.2.2 hr.2.2.1 (law := law) hr.1
  refine (m_all (Q := Q) hlaw 100).1 0 0 j [] C ρ3 (by omega) (by omega) (by omega) (by decide) ⟨rfl, by decide, fun h => by omega, fun _ => by decide, fun h => by omega, fun h => by omega, fun h => by omega, fun h => by omega, fun _ h => absurd h (by decide)⟩ hQ (fun y ν X D f1 f2 f3 _ f5 _ => ?_) (fun y ν f1 f2 => k0 y ν (fg_tr hF f1) f2)
  have f3 : stl 5 X D = ([], C ++ (pR (kdT b L) (nmT b L) law 100 0 0 j).2.2.1) := f3
  have oX : opn X = 0 := by
    have := opn_s (r := 5) (by omega) X D
    rw [f3] at this
    exact this.symm
  have e1 := stl_stl (show 1 ≤ 5 by omega) X D
  rw [f3] at e1
  have e1 : stl 1 X D = ([], C ++ (pR (kdT b L) (nmT b L) law 100 0 0 j).2.2.1) := e1.symm
  have bw : bwM (kdT b L (pR (kdT b L) (nmT b L) law 100 0 0 j).2.1) X = 0 := by
    unfold bwM
    rw [if_neg ((hpk.2.1 y).1 rfl), if_neg (by omega)]
  have pa : paM (kdT b L (pR (kdT b L) (nmT b L) law 100 0 0 j).2.1) X = 0 := by
    unfold paM
    rw [if_neg (by omega), if_neg (by omega), if_neg (by omega), if_neg (by omega)]
  refine ws_beh f2 (by omega) (fun z => absurd bw z) (fun _ _ z => absurd oX z) (fun _ _ ν2 g1 g2 => ?_) (fun _ z => by omega) (fun _ z => by omega)
  rw [e1] at g2
  exact k1 y ν2 (fg_tr hF (fg_tr f1 g1)) ⟨g2.1, g2.2.1, g2.2.2.1, g2.2.2.2.1⟩ g2.2.2.2.2.2.2.1.2.1
/-- the body of a law -/
theorem m_law {law x : Nat} {C : Cd} (hlaw : law < 2) (h : Mp μ b L n i j) (hx : 729 * i ≤ x ∧ x + 5 ≤ 729 * i + 121) (hW : Wm μ i C) (hC : C.length ≤ j) (h14 : mgi μ 314 14 = nI law)
    (k1 : (pR (kdT b L) (nmT b L) law 100 0 0 j).1 = 0 → ∀ ν, Fzm i μ ν → (∀ a q, (a = 314 → q < 7 ∨ 18 < q ∨ q = 12 ∨ q = 14) → (a = 317 → (q < x + 1 ∨ x + 3 ≤ q) ∧ q < 729 * i + 121) → a ≠ 319 → mgi ν a q = mgi μ a q) → Mp ν b L n i (pR (kdT b L) (nmT b L) law 100 0 0 j).2.1 → Wm ν i (C ++ (pR (kdT b L) (nmT b L) law 100 0 0 j).2.2.1) → mgi ν 317 (x + 1) = nI C.length → mgi ν 317 (x + 2) = nI (C.length + (pR (kdT b L) (nmT b L) law 100 0 0 j).2.2.1.length) → Q 0 ν)
    (k0 : (pR (kdT b L) (nmT b L) law 100 0 0 j).1 ≠ 0 → ∀ ν, Fzm i μ ν → Mf ν b L (pR (kdT b L) (nmT b L) law 100 0 0 j).2.1 → Q (nI (pR (kdT b L) (nmT b L) law 100 0 0 j).1) ν) : S_X11_body 314 (nI law) (nI x) μ Q := by
  obtain ⟨o1, o2, o3, o4⟩ := tx_m h.1
  have hi4 := h.2.2.2.2.1
  have a1 : nI x + 1 = nI (x + 1) := nI_s1 x
  have a2 : nI x + 2 = nI (x + 2) := by simp only [li_2, nI_add]
  have e : ∀ y, y < 100 → law ≠ y → ¬ nI law = nI y := fun y hy hn hz => hn ((q_eq (by omega) (by omega)).mp hz)
  have v : ∀ (ν : Me) (q : Nat), Gp ν → q < 2916 → vp_in (nI q) (mln ν 317) := fun ν q hG hq => by
    rw [(tx_m hG).2.2.2, q_in (by omega) (by omega)]
    exact hq
  refine ⟨fun y => absurd y (e 2 (by omega) (by omega)), fun _ => ⟨fun y => absurd y (e 3 (by omega) (by omega)), fun _ => ⟨fun y => absurd y (e 4 (by omega) (by omega)), fun _ => ⟨fun y => absurd y (e 5 (by omega) (by omega)), fun _ => ⟨fun y => absurd y (e 6 (by omega) (by omega)), fun _ => ⟨fun y => absurd y (e 7 (by omega) (by omega)), fun _ => ⟨o1, o1, 317, o2, o3, ?_⟩⟩⟩⟩⟩⟩⟩
  rw [a1, a2]
  refine ⟨v μ _ h.1 (by omega), fun ρ er => ?_⟩
  rw [q_cl (by omega), hW.2.1] at er
  have hFr : Fzm i μ ρ := by
    rw [er]
    exact fzm_si (fzm_rf i μ) _ _ _ (by omega)
  have gr : ∀ a q, (a = 317 → q ≠ x + 1) → mgi ρ a q = mgi μ a q := fun a q hq => by rw [er, gi_si, if_neg (by omega)]
  have vr : mgi ρ 317 (x + 1) = nI C.length := by rw [er, gi_si, if_pos ⟨rfl, rfl⟩]
  have hpr : Mp ρ b L n i j := by
    rw [er]
    exact mp_si h
  clear er
  have hWr : Wm ρ i C := ⟨(gr 314 12 (by omega)).trans hW.1, (gr 314 13 (by omega)).trans hW.2.1, LiP_m C 0 hW.2.2 (fun q z _ _ hz => ⟨(gr 317 _ (by omega)).trans hz.1, (gr 317 _ (by omega)).trans hz.2⟩)⟩
  refine m_sum hlaw hpr hWr hC ((gr 314 14 (by omega)).trans h14) (fun y ν f1 f2 f3 => ?_) (fun y ν f1 f2 => ?_)
  · refine ⟨317, (tx_m f2.1).2.1, (tx_m f2.1).2.2.1, v ν _ f2.1 (by omega), fun ρ2 er => ?_⟩
    rw [q_cl (by omega), f3.2.1] at er
    have g2 : ∀ a q, (a = 317 → q ≠ x + 2) → mgi ρ2 a q = mgi ν a q := fun a q hq => by rw [er, gi_si, if_neg (by omega)]
    have v2 : mgi ρ2 317 (x + 2) = nI (C ++ (pR (kdT b L) (nmT b L) law 100 0 0 j).2.2.1).length := by rw [er, gi_si, if_pos ⟨rfl, rfl⟩]
    have hF2 : Fzm i ν ρ2 := by
      rw [er]
      exact fzm_si (fzm_rf i ν) _ _ _ (by omega)
    have hp2 : Mp ρ2 b L n i (pR (kdT b L) (nmT b L) law 100 0 0 j).2.1 := by
      rw [er]
      exact mp_si f2
    clear er
    have fg : ∀ a q, (a = 314 → q < 7 ∨ 18 < q ∨ q = 12 ∨ q = 14 ∨ q = 15) → (a = 317 → q < 729 * i + 121 ∨ 729 * i + 729 ≤ q) → a ≠ 319 → mgi ν a q = mgi ρ a q := f1.2.2.2.2.1
    refine k1 y ρ2 (fzm_tr hFr (fzm_tr (fzm_g f1) hF2)) (fun a q u1 u2 u3 => (g2 a q (by omega)).trans ((fg a q (by omega) (by omega) u3).trans (gr a q (by omega)))) hp2 ⟨(g2 314 12 (by omega)).trans f3.1, (g2 314 13 (by omega)).trans f3.2.1, LiP_m _ 0 f3.2.2 (fun q z _ _ hz => ⟨(g2 317 _ (by omega)).trans hz.1, (g2 317 _ (by omega)).trans hz.2⟩)⟩ ((g2 317 (x + 1) (by omega)).trans ((fg 317 (x + 1) (by omega) (by omega) (by omega)).trans vr)) ?_
    rw [v2, List.length_append]
  · obtain ⟨t1, t2⟩ := f2
    refine ⟨317, (tx_m t1).2.1, (tx_m t1).2.2.1, v ν _ t1 (by omega), fun ρ2 er => ?_⟩
    have hF2 : Fzm i ν ρ2 := by
      rw [er, q_cl (by omega)]
      exact fzm_si (fzm_rf i ν) _ _ _ (by omega)
    refine k0 y ρ2 (fzm_tr hFr (fzm_tr (fzm_g f1) hF2)) ⟨fzm_gp t1 hF2, ?_⟩
    rw [er, gi_si, if_neg (by omega)]
    exact t2
end MCM
