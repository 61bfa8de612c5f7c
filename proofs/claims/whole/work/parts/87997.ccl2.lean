/-! the class reads a clause, and a text -/
section CD
variable {μ ν ρ : Me} {b : Nat → Nat} {L n t law : Nat}
theorem p_has {Q : Int32 → Me → Prop} {k : Nat} {Z : Zt} (hG : Gp μ) (ht : Ht t) (hk : k ≤ 7) (hZ : Zc μ t Z) (hl : ∀ z l, l < 2 → Z.2.2.2.2 l = some z → z.2.2.1 < 1000) (k0 : ¬ (k < 2 ∧ (Z.2.2.2.2 k).isSome = true) → Q 0 μ) (k1 : (k < 2 ∧ (Z.2.2.2.2 k).isSome = true) → Q 1 μ) : S_X7_has t (nI k) μ Q := by
  have o1 := (tx_ok hG ht).1
  have z4 := hZ.2.2.2
  have e : ∀ x, x < 100 → (nI k = nI x) = (k = x) := fun x hx => q_eq (by omega) (by omega)
  have key : ∀ l, l < 2 → k = l → (mgi μ t (3 + 2 * l) = -1 → Q 0 μ) ∧ (¬ mgi μ t (3 + 2 * l) = -1 → Q 1 μ) := by
    intro l h2 hkl
    obtain ⟨q1, q2⟩ := z4 l h2
    cases hz : Z.2.2.2.2 l with
    | none =>
      refine ⟨fun _ => k0 (fun y => ?_), fun y => absurd (q1 hz) y⟩
      rw [hkl, hz] at y
      exact absurd y.2 (by decide)
    | some z =>
      refine ⟨fun y => ?_, fun _ => k1 ⟨by omega, by rw [hkl, hz]; rfl⟩⟩
      rw [(q2 z hz).1] at y
      exact absurd y (nI_nm (hl z l h2 hz))
  have b12 : k ≠ 0 → B_X7_has_12 t (nI k) μ Q := by
    intro c
    refine ⟨fun y => k0 (fun w => y ((e 1 (by omega)).mpr (by omega))), fun y => ⟨o1, key 1 (by omega) ((e 1 (by omega)).mp y)⟩⟩
  refine ⟨fun y => b12 (fun c => y ((e 0 (by omega)).mpr c)), fun y => ?_⟩
  have c := (e 0 (by omega)).mp y
  refine ⟨o1, (key 0 (by omega) c).2, fun w => ⟨fun _ => (key 0 (by omega) c).1 w, fun y1 => ?_⟩⟩
  have := (e 1 (by omega)).mp y1
  omega
theorem p_start {Q : Me → Prop} {k cnt F : Nat} (hG : Gp μ) (ht : Ht t) (hk : k ≤ 7) (hc : mgi μ t 8 = nI cnt) (hl : cnt < 24) (hF : mgi μ t 2 = nI F) (kk : ∀ ν, Ic t cnt k F μ ν → (∀ q, mgi ν 290 q = mgi μ 290 q) → mgi ν t 2 = mgi μ t 2 → (∀ q, mgi ν (t + 1) q = mgi μ (t + 1) q) → (∀ q, mgi ν (t + 2) q = mgi μ (t + 2) q) → Q ν) : S_X7_startClause t (nI k) μ Q := by
  have hb := ht_b ht
  have o1 := (tx_ok hG ht).1
  have e : ∀ x, x < 100 → (nI k = nI x) = (k = x) := fun x hx => q_eq (by omega) (by omega)
  have fin : ∀ ρ, Fzc t μ ρ → (∀ a q, (a = t → k < 2 ∧ q = 3 + 2 * k → False) → mgi ρ a q = mgi μ a q) → (k < 2 → mgi ρ t (3 + 2 * k) = nI F) → B_X7_startClause_25 t (nI k) ρ Q := by
    intro ρ f1 f2 f3
    have hH := fzc_gp hG f1
    refine ⟨(tx_ok hH ht).1, p_put (s := 0) hH ht ((f2 t 8 (fun _ w => by omega)).trans hc) hl (by omega) ?_⟩
    have g : ∀ a q, (a = t + 3 → q ≠ 5 * cnt) → mgi (msi ρ (t + 3) (5 * cnt + 0) (nI k)) a q = mgi ρ a q := fun a q hq => by rw [gi_si, if_neg (by omega)]
    refine kk _ ⟨fzc_si f1 _ _ _ (by omega), fun q q1 q2 => (g t q (by omega)).trans (f2 t q (fun _ w => q2 w.1 w.2)), fun q hq => (g _ q (by omega)).trans (f2 _ q (fun w => by omega)), by rw [gi_si, if_pos ⟨rfl, rfl⟩], fun w => (g t _ (by omega)).trans (f3 w), fun q hq => (g 290 q (by omega)).trans (f2 290 q (fun w => by omega))⟩ (fun q => (g 290 q (by omega)).trans (f2 290 q (fun w => by omega))) ((g t 2 (by omega)).trans (f2 t 2 (fun _ w => by omega))) (fun q => (g _ q (by omega)).trans (f2 _ q (fun w => by omega))) (fun q => (g _ q (by omega)).trans (f2 _ q (fun w => by omega)))
  by_cases c0 : k = 0
  · refine ⟨fun y => absurd ((e 0 (by omega)).mpr c0) y, fun _ => ⟨o1, fun ρ hρ => ⟨fun _ => ?_, fun y => ?_⟩⟩⟩
    · subst hρ
      refine fin _ (fzc_si (fzc_rf t μ) _ _ _ (by omega)) (fun a q w => ?_) (fun _ => ?_)
      · rw [gi_si, if_neg (fun y => w y.1 ⟨by omega, by omega⟩)]
      · rw [gi_si, if_pos ⟨rfl, by omega⟩]
        exact hF
    · have := (e 1 (by omega)).mp y
      omega
  · refine ⟨fun _ => ⟨fun y => ?_, fun y => ⟨o1, fun ρ hρ => ?_⟩⟩, fun y => absurd ((e 0 (by omega)).mp y) c0⟩
    · have c1 : k ≠ 1 := fun w => y ((e 1 (by omega)).mpr w)
      exact fin μ (fzc_rf t μ) (fun a q _ => rfl) (fun w => by omega)
    · have c1 := (e 1 (by omega)).mp y
      subst hρ
      refine fin _ (fzc_si (fzc_rf t μ) _ _ _ (by omega)) (fun a q w => ?_) (fun _ => ?_)
      · rw [gi_si, if_neg (fun y => w y.1 ⟨by omega, by omega⟩)]
      · rw [gi_si, if_pos ⟨rfl, by omega⟩]
        exact hF
theorem p_endC {Q : Me → Prop} {k cnt : Nat} (hG : Gp μ) (ht : Ht t) (hk : k ≤ 7) (hc : mgi μ t 8 = nI cnt) (kk : ∀ ν, Fzc t μ ν → (∀ a q, a ≠ t → mgi ν a q = mgi μ a q) → (∀ q, q ≠ 8 → (k < 2 → q ≠ 4 + 2 * k) → mgi ν t q = mgi μ t q) → mgi ν t 8 = nI (cnt + 1) → (k < 2 → mgi ν t (4 + 2 * k) = mgi μ t 2) → Q ν) : S_X7_endClause t (nI k) μ Q := by
  have hb := ht_b ht
  have o1 := (tx_ok hG ht).1
  have e : ∀ x, x < 100 → (nI k = nI x) = (k = x) := fun x hx => q_eq (by omega) (by omega)
  have fin : ∀ ρ, Fzc t μ ρ → (∀ a q, (a = t → k < 2 ∧ q = 4 + 2 * k → False) → mgi ρ a q = mgi μ a q) → (k < 2 → mgi ρ t (4 + 2 * k) = mgi μ t 2) → B_X7_endClause_25 t ρ Q := by
    intro ρ f1 f2 f3
    have hH := fzc_gp hG f1
    have h8 : mgi ρ t 8 = nI cnt := (f2 t 8 (fun _ w => by omega)).trans hc
    refine ⟨(tx_ok hH ht).1, fun ρ2 hρ => ?_⟩
    rw [h8, nI_s1] at hρ
    subst hρ
    have g : ∀ a q, (a = t → q ≠ 8) → mgi (msi ρ t 8 (nI (cnt + 1))) a q = mgi ρ a q := fun a q hq => by rw [gi_si, if_neg (fun y => hq y.1 y.2)]
    exact kk _ (fzc_si f1 _ _ _ (by omega)) (fun a q w => (g a q (fun y => absurd y w)).trans (f2 a q (fun y => absurd y w))) (fun q q1 q2 => (g t q (fun _ => q1)).trans (f2 t q (fun _ w => q2 w.1 w.2))) (by rw [gi_si, if_pos ⟨rfl, rfl⟩]) (fun w => (g t _ (by omega)).trans (f3 w))
  by_cases c0 : k = 0
  · refine ⟨fun y => absurd ((e 0 (by omega)).mpr c0) y, fun _ => ⟨o1, fun ρ hρ => ⟨fun _ => ?_, fun y => ?_⟩⟩⟩
    · subst hρ
      refine fin _ (fzc_si (fzc_rf t μ) _ _ _ (by omega)) (fun a q w => ?_) (fun _ => ?_)
      · rw [gi_si, if_neg (fun y => w y.1 ⟨by omega, by omega⟩)]
      · rw [gi_si, if_pos ⟨rfl, by omega⟩]
    · have := (e 1 (by omega)).mp y
      omega
  · refine ⟨fun _ => ⟨fun y => ?_, fun y => ⟨o1, fun ρ hρ => ?_⟩⟩, fun y => absurd ((e 0 (by omega)).mp y) c0⟩
    · have c1 : k ≠ 1 := fun w => y ((e 1 (by omega)).mpr w)
      exact fin μ (fzc_rf t μ) (fun a q _ => rfl) (fun w => by omega)
    · have c1 := (e 1 (by omega)).mp y
      subst hρ
      refine fin _ (fzc_si (fzc_rf t μ) _ _ _ (by omega)) (fun a q w => ?_) (fun _ => ?_)
      · rw [gi_si, if_neg (fun y => w y.1 ⟨by omega, by omega⟩)]
      · rw [gi_si, if_pos ⟨rfl, by omega⟩]
/-- behind the body of a clause: the semicolon -/
theorem p_tail {Q : Int32 → Me → Prop} {k cnt F jb : Nat} {C : Cd} (ht : Ht t) (hk : k ≤ 7) (hc : mgi μ t 8 = nI cnt) (hI : Ic t cnt k F μ ν) (hR : Rd ν b L n t law jb) (hC : Tc ν t C)
    (k1 : kdT b L jb = 36 → ∀ ρ ν2, Fzd t 5 ν ν2 → Ic t cnt k F μ ν2 → Rd ρ b L n t law (jb + 1) → Tc ρ t C → Fzc t μ ρ → (∀ a q, a ≠ t → mgi ρ a q = mgi ν2 a q) → (∀ q, q ≠ 8 → (k < 2 → q ≠ 4 + 2 * k) → mgi ρ t q = mgi ν2 t q) → mgi ρ t 8 = nI (cnt + 1) → (k < 2 → mgi ρ t (4 + 2 * k) = nI C.length) → Q 1 ρ)
    (k0 : kdT b L jb ≠ 36 → ∀ ρ, Fzc t μ ρ → Fl ρ b L t 1 jb → Q 0 ρ) : B_X5_clause_87 290 t (nI k) 1 ν Q := by
  have hb := ht_b ht
  refine ⟨fun y => absurd y (by decide), fun _ => ⟨rd_ok hR, p_acc (x := 36) ht hR hC (by omega) (fun c ν2 f1 f2 f3 => bn1 ⟨(tx_ok f2.1 ht).1, ?_⟩) (fun c ν2 f1 f2 => bn0 (k0 c ν2 (fzc_tr hI.1 (fzc_d f1)) f2))⟩⟩
  have hI2 : Ic t cnt k F μ ν2 := ic_p (y := 5 * cnt + 5) ht hI (fzp_d f1)
  have h8 : mgi ν2 t 8 = nI cnt := (hI2.2.1 8 (by omega) (by omega)).trans hc
  refine p_endC (cnt := cnt) f2.1 ht hk h8 (fun ρ g1 g2 g3 g4 g5 => k1 c ρ ν2 f1 hI2 (rd_g ht f2 g1 (fun q => g2 290 q (by omega))) (tc_g f3 (g3 2 (by omega) (by omega)) (fun q => g2 _ q (by omega)) (fun q => g2 _ q (by omega))) (fzc_tr hI2.1 g1) g2 g3 g4 (fun w => (g5 w).trans f3.1))
theorem p_clause {Q : Int32 → Me → Prop} {j : Nat} {Z : Zt} (ht : Ht t) (hR : Rd μ b L n t law j) (hZ : Zc μ t Z) (hg : Zg n j Z)
    (k1 : (pCl (kdT b L) (nmT b L) Z j).1 = 0 → ∀ ν law', Fzc t μ ν → Rd ν b L n t law' (pCl (kdT b L) (nmT b L) Z j).2.1 → Zc ν t (pCl (kdT b L) (nmT b L) Z j).2.2 → (∀ q, q = 6 ∨ q = 7 → mgi ν 290 q = mgi μ 290 q) → Q 1 ν)
    (k0 : (pCl (kdT b L) (nmT b L) Z j).1 ≠ 0 → ∀ ν, Fzc t μ ν → Fl ν b L t (pCl (kdT b L) (nmT b L) Z j).1 (pCl (kdT b L) (nmT b L) Z j).2.1 → Q 0 ν) : S_X5_clause 290 t μ Q := by
  have hb := ht_b ht
  have o1 := rd_ok hR
  obtain ⟨z1, z2, z3, z4⟩ := id hZ
  obtain ⟨y1, y2, y3, y4, y5, y6⟩ := id hg
  have hkl := kd_le b L j
  have h3 := hR.2.1.1
  have e7 : (nI (kdT b L j) ≤ 7) = (kdT b L j ≤ 7) := q_le (b := 7) (by omega) (by omega)
  have e : ∀ x, x < 100 → (nI (kdT b L j) = nI x) = (kdT b L j = x) := fun x hx => q_eq (by omega) (by omega)
  have ec : (nI Z.1 < 24) = (Z.1 < 24) := q_lt (b := 24) (by omega) (by omega)
  unfold S_X5_clause
  rw [hR.2.2.2.2.1, e7]
  refine ⟨o1, fun y => absurd y (nI_n0 (by omega)), fun _ => ⟨fun c7 => ⟨(tx_ok hR.1 ht).1, ?_⟩, fun c7 => ?_⟩⟩
  rotate_left
  · have e1 : pCl (kdT b L) (nmT b L) Z j = (1, j, Z) := if_pos (by omega)
    rw [e1] at k0
    exact ⟨o1, p_ref (f := 1) ht hR z2 (fun ν f1 f2 => ⟨zb_n0, k0 (by show 1 ≠ 0; omega) ν (fzc_d f1) f2⟩)⟩
  have kj : kdT b L j ≠ 51 := by omega
  refine p_has hR.1 ht c7 hZ (fun z l hl hz => ?_) (fun nh => bb0 ?_) (fun ih => bb1 ?_)
  · obtain ⟨-, -, -, -, ⟨A, B, q1, q2⟩, -⟩ := (y6 l hl).2 z hz
    have := z2.2.1
    rw [q1] at this
    simp only [List.length_append] at this
    omega
  rotate_left
  · have e1 : pCl (kdT b L) (nmT b L) Z j = (4, j, Z) := by
      unfold pCl
      rw [if_neg (by omega), if_pos ih]
    rw [e1] at k0
    exact p_ref (f := 4) ht hR z2 (fun ν f1 f2 => ⟨zb_n0, k0 (by show 4 ≠ 0; omega) ν (fzc_d f1) f2⟩)
  rw [z1, ec]
  refine ⟨fun cc => ?_, fun cc => ?_⟩
  rotate_left
  · have e1 : pCl (kdT b L) (nmT b L) Z j = (6, j, Z) := by
      unfold pCl
      rw [if_neg (by omega), if_neg nh, if_pos (by omega)]
    rw [e1] at k0
    exact p_ref (f := 6) ht hR z2 (fun ν f1 f2 => ⟨zb_n0, k0 (by show 6 ≠ 0; omega) ν (fzc_d f1) f2⟩)
  have e1 : pCl (kdT b L) (nmT b L) Z j = if (pBd (kdT b L) (nmT b L) Z j).1 = 0 then (if kdT b L (pBd (kdT b L) (nmT b L) Z j).2.1 = 36 then (0, (pBd (kdT b L) (nmT b L) Z j).2.1 + 1, (pBd (kdT b L) (nmT b L) Z j).2.2) else (1, (pBd (kdT b L) (nmT b L) Z j).2.1, Z)) else ((pBd (kdT b L) (nmT b L) Z j).1, (pBd (kdT b L) (nmT b L) Z j).2.1, Z) := by
    unfold pCl
    rw [if_neg (by omega), if_neg nh, if_neg (by omega)]
  rw [e1] at k1 k0
  refine p_start (F := Z.2.2.2.1.length) hR.1 ht c7 z1 cc z2.1 (fun ν a1 a2 a3 a4 a5 => ?_)
  have hR2 := rd_g ht hR a1.1 a2
  refine p_nxt ht hR2 kj (fun ν2 b1 b2 b3 => ?_)
  have hC2 := b3 _ (tc_g z2 a3 a4 a5)
  have hI2 : Ic t Z.1 (kdT b L j) Z.2.2.2.1.length μ ν2 := ic_p (y := 5 * Z.1 + 5) ht a1 (fzp_d b1)
  intro ν3 e3
  subst e3
  have hI3 : Ic t Z.1 (kdT b L j) Z.2.2.2.1.length μ (msi ν2 290 5 (nI (kdT b L j))) := ic_5 ht hI2
  have hR3 : Rd (msi ν2 290 5 (nI (kdT b L j))) b L n t (kdT b L j) (j + 1) := rd_5 ht b2
  have hC3 : Tc (msi ν2 290 5 (nI (kdT b L j))) t Z.2.2.2.1 := tc_g hC2 (by rw [gi_si, if_neg (by omega)]) (fun q => by rw [gi_si, if_neg (by omega)]) (fun q => by rw [gi_si, if_neg (by omega)])
  generalize msi ν2 290 5 (nI (kdT b L j)) = ν3 at hI3 hR3 hC3
  have h83 : mgi ν3 t 8 = nI Z.1 := (hI3.2.1 8 (by omega) (by omega)).trans z1
  -- the body has been read to jb, with code C'
  have rest : ∀ ν4, (pBd (kdT b L) (nmT b L) Z j).1 = 0 → Ic t Z.1 (kdT b L j) Z.2.2.2.1.length μ ν4 → Rd ν4 b L n t (kdT b L j) (pBd (kdT b L) (nmT b L) Z j).2.1 → Tc ν4 t (pBd (kdT b L) (nmT b L) Z j).2.2.2.2.2.1 → (∀ q, 1 ≤ q → q ≤ arS ((pBd (kdT b L) (nmT b L) Z j).2.2.2.1 Z.1 0) → mgi ν4 (t + 3) (5 * Z.1 + q) = nI ((pBd (kdT b L) (nmT b L) Z j).2.2.2.1 Z.1 q)) → B_X5_clause_87 290 t (nI (kdT b L j)) 1 ν4 Q := by
    intro ν4 bz i4 r4 t4 q4
    rw [if_pos bz] at k1 k0
    refine p_tail ht c7 z1 i4 r4 t4 (fun c36 ρ ν5 m1 m2 m3 m4 m5 m6 m7 m8 m9 => ?_) (fun c36 ρ m1 m2 => ?_)
    · rw [if_pos c36] at k1
      refine k1 rfl ρ _ m5 m3 ?_ (fun q hq => (m6 290 q (by omega)).trans (m2.2.2.2.2.2 q hq))
      have num3 : ∀ q, mgi ρ (t + 3) q = mgi ν4 (t + 3) q := fun q => (m6 _ q (by omega)).trans (m1.2.2.2.2.1 _ q (by omega) (by omega) (by omega) (by omega))
      have old3 : ∀ q, q < 5 * Z.1 → mgi ρ (t + 3) q = mgi μ (t + 3) q := fun q hq => (num3 q).trans (i4.2.2.1 q hq)
      have tt : ∀ q, q ≠ 2 → q ≠ 8 → (kdT b L j < 2 → q ≠ 3 + 2 * kdT b L j ∧ q ≠ 4 + 2 * kdT b L j) → mgi ρ t q = mgi μ t q := fun q w1 w2 w3 => (m7 q w2 (fun w => (w3 w).2)).trans (m2.2.1 q w1 (fun w => (w3 w).1))
      clear k1 k0
      revert bz t4 q4 m4 m9
      unfold pBd
      by_cases c2 : kdT b L j < 2
      · rw [if_pos c2]
        generalize pR (kdT b L) (nmT b L) (kdT b L j) 100 0 0 (j + 1) = a
        intro bz t4 q4 m4 m9
        refine ⟨m8, m4, fun k hk => ?_, fun l hl => ⟨fun w => ?_, fun z w => ?_⟩⟩
        · have hk : k < Z.1 + 1 := hk
          show mgi ρ (t + 3) (5 * k) = nI (kmC (zNum Z (kdT b L j) [] k 0)) ∧ ∀ q, 1 ≤ q → q ≤ arS (zNum Z (kdT b L j) [] k 0) → mgi ρ (t + 3) (5 * k + q) = nI (zNum Z (kdT b L j) [] k q)
          by_cases w : k = Z.1
          · subst w
            rw [zn_0]
            refine ⟨(num3 _).trans ?_, fun q u1 u2 => ?_⟩
            · rw [i4.2.2.2.1]
              have : kmC (kdT b L j) = kdT b L j := by
                unfold kmC
                rw [if_neg (by omega), if_neg (by omega), if_neg (by omega)]
              rw [this]
            · have : arS (kdT b L j) = 0 := by
                unfold arS
                rw [if_neg (by omega), if_neg (by omega), if_pos c2]
              omega
          · have hk2 : k < Z.1 := by omega
            rw [zn_o hk2]
            obtain ⟨u1, u2⟩ := z3 k hk2
            refine ⟨(old3 _ (by omega)).trans u1, fun q v1 v2 => ?_⟩
            rw [zn_o hk2, old3 _ (by have : arS (Z.2.1 k 0) ≤ 4 := by (unfold arS; repeat' split) <;> omega
                                     omega)]
            exact u2 q v1 v2
        · have w : (if l = kdT b L j then some (Z.1, Z.2.2.1.length, Z.2.2.2.1.length, a) else Z.2.2.2.2 l) = none := w
          by_cases w1 : l = kdT b L j
          · rw [if_pos w1] at w
            cases w
          · rw [if_neg w1] at w
            rw [tt _ (by omega) (by omega) (fun _ => by omega)]
            exact (z4 l hl).1 w
        · have w : (if l = kdT b L j then some (Z.1, Z.2.2.1.length, Z.2.2.2.1.length, a) else Z.2.2.2.2 l) = some z := w
          by_cases w1 : l = kdT b L j
          · rw [if_pos w1] at w
            cases w
            refine ⟨?_, ?_⟩
            · rw [w1, m7 _ (by omega) (fun _ => by omega)]
              exact m2.2.2.2.2.1 c2
            · rw [w1, m9 c2]
              show nI (Z.2.2.2.1 ++ a.2.2.2.1 Z.2.2.2.1.length).length = _
              rw [List.length_append]
          · rw [if_neg w1] at w
            rw [tt _ (by omega) (by omega) (fun _ => by omega), tt _ (by omega) (by omega) (fun _ => by omega)]
            exact (z4 l hl).2 z w
      · rw [if_neg c2]
        generalize pPl (kdT b L) (nmT b L) (shC (kmS (kdT b L j))) (j + 1) = p
        intro bz t4 q4 m4 m9
        refine ⟨m8, m4, fun k hk => ?_, fun l hl => ⟨fun w => ?_, fun z w => ?_⟩⟩
        · have hk : k < Z.1 + 1 := hk
          show mgi ρ (t + 3) (5 * k) = nI (kmC (zNum Z (kmS (kdT b L j)) p.2.2 k 0)) ∧ ∀ q, 1 ≤ q → q ≤ arS (zNum Z (kmS (kdT b L j)) p.2.2 k 0) → mgi ρ (t + 3) (5 * k + q) = nI (zNum Z (kmS (kdT b L j)) p.2.2 k q)
          by_cases w : k = Z.1
          · subst w
            refine ⟨?_, fun q u1 u2 => (num3 _).trans (q4 q u1 u2)⟩
            rw [zn_0, (kmS_b c7).2.1]
            exact (num3 _).trans i4.2.2.2.1
          · have hk2 : k < Z.1 := by omega
            rw [zn_o hk2]
            obtain ⟨u1, u2⟩ := z3 k hk2
            refine ⟨(old3 _ (by omega)).trans u1, fun q v1 v2 => ?_⟩
            rw [zn_o hk2, old3 _ (by have : arS (Z.2.1 k 0) ≤ 4 := by (unfold arS; repeat' split) <;> omega
                                     omega)]
            exact u2 q v1 v2
        · rw [tt _ (by omega) (by omega) (fun _ => by omega)]
          exact (z4 l hl).1 w
        · rw [tt _ (by omega) (by omega) (fun _ => by omega), tt _ (by omega) (by omega) (fun _ => by omega)]
          exact (z4 l hl).2 z w
    · rw [if_neg c36] at k0
      exact k0 (by show 1 ≠ 0; omega) ρ m1 m2
  have fail : ∀ ν4, (pBd (kdT b L) (nmT b L) Z j).1 ≠ 0 → Fzc t μ ν4 → Fl ν4 b L t (pBd (kdT b L) (nmT b L) Z j).1 (pBd (kdT b L) (nmT b L) Z j).2.1 → B_X5_clause_87 290 t (nI (kdT b L j)) 0 ν4 Q := by
    intro ν4 bz f1 f2
    rw [if_neg bz] at k0
    exact ⟨fun _ => k0 bz ν4 f1 f2, fun y => absurd rfl y⟩
  have lawc : kdT b L j < 2 → B_X5_clause_74 290 t (nI (kdT b L j)) ν3 Q := by
    intro c2
    have eb : pBd (kdT b L) (nmT b L) Z j = ((pR (kdT b L) (nmT b L) (kdT b L j) 100 0 0 (j + 1)).1, (pR (kdT b L) (nmT b L) (kdT b L j) 100 0 0 (j + 1)).2.1, zLw Z (kdT b L j) (pR (kdT b L) (nmT b L) (kdT b L j) 100 0 0 (j + 1))) := if_pos c2
    rw [eb] at rest fail
    refine ⟨rd_ok hR3, p_RC c2 ht 100 0 0 (j + 1) Z.2.2.2.1 ν3 _ (by omega) (by omega) (by decide) hR3 hC3 (by omega) (fun bz ν4 f1 f2 f3 => ?_) (fun bz ν4 f1 f2 => ?_)⟩
    · refine rest ν4 bz (ic_p (y := 5 * Z.1 + 5) ht hI3 (fzp_d f1)) f2 f3 (fun q u1 u2 => ?_)
      have u2 : q ≤ arS (zNum Z (kdT b L j) [] Z.1 0) := u2
      rw [zn_0] at u2
      have : arS (kdT b L j) = 0 := by
        unfold arS
        rw [if_neg (by omega), if_neg (by omega), if_pos c2]
      omega
    · exact fail ν4 bz (fzc_tr hI3.1 (fzc_d f1)) f2
  refine ⟨fun y => lawc (by have := (e 0 (by omega)).mp y; omega), fun y => ⟨fun y1 => ?_, fun y1 => lawc (by have := (e 1 (by omega)).mp y1; omega)⟩⟩
  have c0 : kdT b L j ≠ 0 := fun w => y ((e 0 (by omega)).mpr w)
  have c1 : kdT b L j ≠ 1 := fun w => y1 ((e 1 (by omega)).mpr w)
  have eb : pBd (kdT b L) (nmT b L) Z j = ((pPl (kdT b L) (nmT b L) (shC (kmS (kdT b L j))) (j + 1)).1, (pPl (kdT b L) (nmT b L) (shC (kmS (kdT b L j))) (j + 1)).2.1, zPl Z (kmS (kdT b L j)) (pPl (kdT b L) (nmT b L) (shC (kmS (kdT b L j))) (j + 1)).2.2) := if_neg (by omega)
  rw [eb] at rest fail
  refine p_plain (cnt := Z.1) ⟨by omega, c7⟩ ht cc hR3 hC3 h83 (fun bz ν4 f1 f2 f3 f4 => ?_) (fun bz ν4 f1 f2 => fail ν4 bz (fzc_tr hI3.1 f1) f2)
  refine rest ν4 bz (ic_p ht hI3 f1) f2 f3 (fun q u1 u2 => ?_)
  have u2 : q ≤ arS (zNum Z (kmS (kdT b L j)) (pPl (kdT b L) (nmT b L) (shC (kmS (kdT b L j))) (j + 1)).2.2 Z.1 0) := u2
  rw [zn_0] at u2
  have hlen : arS (kmS (kdT b L j)) ≤ (shC (kmS (kdT b L j))).length := shC_l (kmS_b c7).1
  obtain ⟨q', rfl⟩ : ∃ q', q = q' + 1 := ⟨q - 1, by omega⟩
  have := f4 q' (by omega)
  rw [show 5 * Z.1 + 1 + q' = 5 * Z.1 + (q' + 1) by omega] at this
  rw [this]
  show _ = nI (zNum Z (kmS (kdT b L j)) (pPl (kdT b L) (nmT b L) (shC (kmS (kdT b L j))) (j + 1)).2.2 Z.1 (q' + 1))
  rw [zn_s]
end CD
