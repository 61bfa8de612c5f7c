/-! the class reads a sum: openings, signs, loops -/
theorem bb1 {P X : Prop} (x : X) : ((1 : Int32) = 0 → P) ∧ (¬ (1 : Int32) = 0 → X) := ⟨fun h => absurd h (by decide), fun _ => x⟩
theorem bb0 {P X : Prop} (p : P) : ((0 : Int32) = 0 → P) ∧ (¬ (0 : Int32) = 0 → X) := ⟨fun _ => p, fun h => absurd rfl h⟩
theorem bn1 {P X : Prop} (x : X) : (¬ (1 : Int32) = 0 → X) ∧ ((1 : Int32) = 0 → P) := ⟨fun _ => x, fun h => absurd h (by decide)⟩
theorem bn0 {P X : Prop} (p : P) : (¬ (0 : Int32) = 0 → X) ∧ ((0 : Int32) = 0 → P) := ⟨fun h => absurd rfl h, fun _ => p⟩
theorem nI_s1 (o : Nat) : nI o + 1 = nI (o + 1) := by simp only [li_1, nI_add]
section CL
variable {μ : Me} {b : Nat → Nat} {L n t law : Nat}
theorem rd_q {j : Nat} (h : Rd μ b L n t law j) {x : Nat} (hx : x < 100) : (mgi μ 290 3 = nI x) = (kdT b L j = x) := by
  have := kd_le b L j
  rw [h.2.2.2.2.1, q_eq (by omega) (by omega)]
theorem rd_ok {j : Nat} (h : Rd μ b L n t law j) : mok μ 290 5 := gp_ok h.1 (by decide) (by decide)
theorem p_opn {Q : Int32 → Me → Prop} {j o : Nat} {C : Cd} (ht : Ht t) (ho : o ≤ 8) (h : Rd μ b L n t law j) (hC : Tc μ t C) (hk : kdT b L j ≠ 51) (k1 : o < 8 → ∀ ν, Fzd t 5 μ ν → Rd ν b L n t law (j + 1) → Tc ν t C → Q 1 ν) (k0 : ¬ o < 8 → ∀ ν, Fzd t 8 μ ν → Fl ν b L t 3 j → Q 0 ν) : S_X5_opens 290 (nI o) μ Q := by
  have e : (nI o < 8) = (o < 8) := q_lt (b := 8) (by omega) (by omega)
  unfold S_X5_opens
  refine ⟨fun c => ⟨rd_ok h, p_nxt ht h hk (fun ν h1 h2 h3 => k1 (e.mp c) ν h1 h2 (h3 C hC))⟩, fun c => ⟨rd_ok h, p_ref (f := 3) ht h hC (fun ν h1 h2 => ⟨zb_n0, k0 (fun q => c (e.mpr q)) ν h1 h2⟩)⟩⟩
theorem p_acc {Q : Int32 → Me → Prop} {j x : Nat} {C : Cd} (ht : Ht t) (h : Rd μ b L n t law j) (hC : Tc μ t C) (hx : x < 51) (k1 : kdT b L j = x → ∀ ν, Fzd t 5 μ ν → Rd ν b L n t law (j + 1) → Tc ν t C → Q 1 ν) (k0 : kdT b L j ≠ x → ∀ ν, Fzd t 8 μ ν → Fl ν b L t 1 j → Q 0 ν) : S_X5_accept 290 (nI x) μ Q := by
  have e := rd_q h (x := x) (by omega)
  unfold S_X5_accept
  refine ⟨rd_ok h, fun c => p_nxt ht h (by rw [e.mp c]; omega) (fun ν h1 h2 h3 => k1 (e.mp c) ν h1 h2 (h3 C hC)), fun c => p_ref (f := 1) ht h hC (fun ν h1 h2 => ⟨zb_n0, k0 (fun q => c (e.mpr q)) ν h1 h2⟩)⟩
theorem p_pt {Q : Int32 → Me → Prop} {j x : Nat} {C : Cd} (ht : Ht t) (h : Rd μ b L n t law j) (hC : Tc μ t C) (hl : C.length < 300) (k : ∀ ν, Fzd t 5 μ ν → Rd ν b L n t law j → Tc ν t (C ++ [(x, 0)]) → Q 1 ν) : S_X5_put 290 (nI x) μ Q := by
  unfold S_X5_put
  exact ⟨rd_ok h, t, h.2.2.1, (tx_ok h.1 ht).1, p_ad (v := 0) h.1 ht hC hl (fun ν h1 h2 h3 => k ν h1 (rd_t ht h h1 (h2 2) (h2 3) (h2 4)) h3)⟩
/-- the class reads what is to be read, with fuel d -/
def Cg (b : Nat → Nat) (L n t law d : Nat) : Prop := ∀ (md o j : Nat) (C : Cd) (μ : Me) (Q : Int32 → Me → Prop), md ≤ 6 → o ≤ 8 → ndF md + 7 * (8 - o) ≤ d → Rd μ b L n t law j → Tc μ t C → C.length ≤ j → ((pR (kdT b L) (nmT b L) law d md o j).1 = 0 → ∀ ν, Fzd t 5 μ ν → Rd ν b L n t law (pR (kdT b L) (nmT b L) law d md o j).2.1 → Tc ν t (C ++ (pR (kdT b L) (nmT b L) law d md o j).2.2.2.1 C.length) → Q 1 ν) → ((pR (kdT b L) (nmT b L) law d md o j).1 ≠ 0 → ∀ ν, Fzd t 8 μ ν → Fl ν b L t (pR (kdT b L) (nmT b L) law d md o j).1 (pR (kdT b L) (nmT b L) law d md o j).2.1 → Q 0 ν) → RC d md 290 (nI o) μ Q
theorem p_lp {d md o j : Nat} {C : Cd} {Q : Int32 → Me → Prop} {g : Nat → Bool} {Bd : Int32 → Int32 → Me → (Int32 → Int32 → Me → Prop) → Prop} (ih : Cg b L n t law d) (hm : md ≤ 6) (ho : o ≤ 8) (hd : ndF md + 7 * (8 - o) ≤ d) (ht : Ht t) (hR : Rd μ b L n t law j) (hC : Tc μ t C) (hl : C.length ≤ j) (hg : gOk (if 4 ≤ md then 1 else 0) g)
    (b0 : ∀ i ν K, i ≤ 300 → Q 0 ν → Bd 0 (nI i) ν K)
    (b1 : ∀ i ν K j', i ≤ 300 → Rd ν b L n t law j' → (i < 300 → g (kdT b L j') = false) → Q 1 ν → Bd 1 (nI i) ν K)
    (b2 : ∀ i ν K j', i < 300 → Rd ν b L n t law j' → g (kdT b L j') = true → S_X5_next 290 ν (fun μ7 => RC d md 290 (nI o) μ7 (fun r μ10 => ∃ t13, mgr μ10 290 1 = some t13 ∧ mok μ10 t13 7 ∧ S_X7_add t13 (nI (kdT b L j')) 0 μ10 (fun _ ρ => K r (nI i + 1) ρ))) → Bd 1 (nI i) ν K)
    (k1 : (pL (kdT b L) (pR (kdT b L) (nmT b L) law d md o) g 300 (pR (kdT b L) (nmT b L) law d md o j)).1 = 0 → ∀ ν, Fzd t 5 μ ν → Rd ν b L n t law (pL (kdT b L) (pR (kdT b L) (nmT b L) law d md o) g 300 (pR (kdT b L) (nmT b L) law d md o j)).2.1 → Tc ν t (C ++ (pL (kdT b L) (pR (kdT b L) (nmT b L) law d md o) g 300 (pR (kdT b L) (nmT b L) law d md o j)).2.2.2.1 C.length) → Q 1 ν)
    (k0 : (pL (kdT b L) (pR (kdT b L) (nmT b L) law d md o) g 300 (pR (kdT b L) (nmT b L) law d md o j)).1 ≠ 0 → ∀ ν, Fzd t 8 μ ν → Fl ν b L t (pL (kdT b L) (pR (kdT b L) (nmT b L) law d md o) g 300 (pR (kdT b L) (nmT b L) law d md o j)).1 (pL (kdT b L) (pR (kdT b L) (nmT b L) law d md o) g 300 (pR (kdT b L) (nmT b L) law d md o j)).2.1 → Q 0 ν) :
    RC d md 290 (nI o) μ (fun r4 μ2 => ∃ I : Int32 → Int32 → Me → Nat → Prop, (∃ n, I r4 0 μ2 n) ∧ ∀ (i2 : Int32) (i3 : Int32) (μ : Me) (n : Nat), I i2 i3 μ n → Bd i2 i3 μ (fun a2 a3 ν => ∃ n', n' < n ∧ I a2 a3 ν n')) := by
  have hn := kd_fin hR.2.1
  have h3 : n ≤ 300 := hR.2.1.1
  have hf : ∀ i, i ≤ n → Gd n law (if 4 ≤ md then 1 else 0) (pR (kdT b L) (nmT b L) law d md o i) i := fun i hi => (pk_R hn h3 d md o i hm ho hi hd).1
  generalize hF : pR (kdT b L) (nmT b L) law d md o = f at k1 k0 hf
  have ihf : ∀ (j : Nat) (C : Cd) (μ : Me) (Q : Int32 → Me → Prop), Rd μ b L n t law j → Tc μ t C → C.length ≤ j → ((f j).1 = 0 → ∀ ν, Fzd t 5 μ ν → Rd ν b L n t law (f j).2.1 → Tc ν t (C ++ (f j).2.2.2.1 C.length) → Q 1 ν) → ((f j).1 ≠ 0 → ∀ ν, Fzd t 8 μ ν → Fl ν b L t (f j).1 (f j).2.1 → Q 0 ν) → RC d md 290 (nI o) μ Q := by
    intro j C μ Q a1 a2 a3 a4 a5
    rw [← hF] at a4 a5
    exact ih md o j C μ Q hm ho hd a1 a2 a3 a4 a5
  have body : ∀ (i2 i3 : Int32) (ρ : Me) (m : Nat), (∃ k, ∃ r : Rs, i3 = nI k ∧ k ≤ 300 ∧ m = 300 - k ∧ pL (kdT b L) f g (300 - k) r = pL (kdT b L) f g 300 (f j) ∧ ((r.1 = 0 ∧ i2 = 1 ∧ Fzd t 5 μ ρ ∧ Rd ρ b L n t law r.2.1 ∧ Tc ρ t (C ++ r.2.2.2.1 C.length) ∧ Gd n law (if 4 ≤ md then 1 else 0) r j) ∨ (r.1 ≠ 0 ∧ i2 = 0 ∧ Fzd t 8 μ ρ ∧ Fl ρ b L t r.1 r.2.1))) → Bd i2 i3 ρ (fun a2 a3 σ => ∃ n', n' < m ∧ (∃ k, ∃ r : Rs, a3 = nI k ∧ k ≤ 300 ∧ n' = 300 - k ∧ pL (kdT b L) f g (300 - k) r = pL (kdT b L) f g 300 (f j) ∧ ((r.1 = 0 ∧ a2 = 1 ∧ Fzd t 5 μ σ ∧ Rd σ b L n t law r.2.1 ∧ Tc σ t (C ++ r.2.2.2.1 C.length) ∧ Gd n law (if 4 ≤ md then 1 else 0) r j) ∨ (r.1 ≠ 0 ∧ a2 = 0 ∧ Fzd t 8 μ σ ∧ Fl σ b L t r.1 r.2.1)))) := by
    rintro i2 i3 ρ m ⟨k, r, rfl, hk, rfl, hp, ⟨h0, rfl, hFz, hRd, hTc, hGd⟩ | ⟨h0, rfl, hFz, hFl⟩⟩
    · by_cases hgk : k < 300 ∧ g (kdT b L r.2.1) = true
      · obtain ⟨hk3, hgt⟩ := hgk
        obtain ⟨g1, g2⟩ := hg _ hgt
        obtain ⟨r1, r2, r3, r4⟩ := hGd.2 h0
        have r3c := r3 C.length
        have hln : (C ++ r.2.2.2.1 C.length).length = C.length + (r.2.2.2.1 C.length).length := List.length_append
        have hrl : r.2.1 < n := Nat.lt_of_not_le (fun q => g1 (hn _ q))
        have hp2 : pL (kdT b L) f g (300 - (k + 1)) (pB (kdT b L r.2.1) r (f (r.2.1 + 1))) = pL (kdT b L) f g 300 (f j) := by
          rw [← hp, show 300 - k = (300 - (k + 1)) + 1 by omega, pL_s h0 hgt]
        have hG2 : Gd n law (if 4 ≤ md then 1 else 0) (pB (kdT b L r.2.1) r (f (r.2.1 + 1))) j := gd_B g2 hGd h0 (hf (r.2.1 + 1) hrl)
        refine b2 k ρ _ r.2.1 hk3 hRd hgt (p_nxt ht hRd g1 (fun ν1 F1 R1 T1 => ?_))
        refine ihf (r.2.1 + 1) (C ++ r.2.2.2.1 C.length) ν1 _ R1 (T1 _ hTc) (by omega) (fun z ν2 F2 R2 T2 => ?_) (fun z ν2 F2 Fl2 => ?_)
        · have hq := hf (r.2.1 + 1) hrl
          obtain ⟨q1, q2, q3, -⟩ := hq.2 z
          have q3c := q3 (C ++ r.2.2.2.1 C.length).length
          have q4 := hq.1.2
          refine ⟨t, R2.2.2.1, (tx_ok R2.1 ht).1, p_ad (v := 0) R2.1 ht T2 ?_ (fun ν3 F3 h290 T3 => ?_)⟩
          · rw [List.length_append]
            omega
          · refine ⟨300 - (k + 1), by omega, k + 1, pB (kdT b L r.2.1) r (f (r.2.1 + 1)), nI_s1 k, by omega, rfl, hp2, Or.inl ⟨z, rfl, fzd_tr hFz (fzd_tr F1 (fzd_tr F2 F3)), rd_t ht R2 F3 (h290 2) (h290 3) (h290 4), ?_, hG2⟩⟩
            rw [hln] at T3
            show Tc ν3 t (C ++ (r.2.2.2.1 C.length ++ (f (r.2.1 + 1)).2.2.2.1 (C.length + (r.2.2.2.1 C.length).length) ++ [(kdT b L r.2.1, 0)]))
            rw [← List.append_assoc, ← List.append_assoc]
            exact T3
        · refine ⟨t, Fl2.2.1, (tx_ok Fl2.1 ht).1, p_ad0 ht Fl2 (fun rr ν3 F3 Fl3 => ?_)⟩
          exact ⟨300 - (k + 1), by omega, k + 1, pB (kdT b L r.2.1) r (f (r.2.1 + 1)), nI_s1 k, by omega, rfl, hp2, Or.inr ⟨z, rfl, fzd_tr (fzd_mo hFz (by omega)) (fzd_tr (fzd_mo F1 (by omega)) (fzd_tr F2 F3)), Fl3⟩⟩
      · have e : pL (kdT b L) f g 300 (f j) = r := by
          rw [← hp]
          by_cases q : k < 300
          · exact pL_z (fun y => hgk ⟨q, y.2⟩) _
          · rw [show 300 - k = 0 by omega]
            rfl
        rw [e] at k1
        refine b1 k ρ _ r.2.1 hk hRd (fun q => ?_) (k1 h0 ρ hFz hRd hTc)
        by_cases y : g (kdT b L r.2.1) = true
        · exact absurd ⟨q, y⟩ hgk
        · simpa using y
    · have e : pL (kdT b L) f g 300 (f j) = r := by
        rw [← hp]
        exact pL_z (fun y => h0 y.1) _
      rw [e] at k0
      exact b0 k ρ _ hk (k0 h0 ρ hFz hFl)
  refine ihf j C μ _ hR hC hl (fun z ν F1 R1 T1 => ⟨_, ⟨300, 0, f j, rfl, by omega, rfl, rfl, Or.inl ⟨z, rfl, F1, R1, T1, hf j hR.2.2.2.1.2⟩⟩, body⟩) (fun z ν F1 Fl1 => ⟨_, ⟨300, 0, f j, rfl, by omega, rfl, rfl, Or.inr ⟨z, rfl, F1, Fl1⟩⟩, body⟩)
end CL
