/-! the whole class made -/
def zr (i : Nat) : Nat := [1, 136, 271, 273, 290, 299, 301, 306, 310].getD i 0
def Z0 (ν : Me) (n : Nat) : Prop := (0 < mnn ν ∧ mkd ν 0 = 10 ∧ mln ν 0 = 0) ∧ (∀ q, mgi ν 0 q = 0) ∧ ∀ i, i < n → mgr ν 0 i = some (zr i)
theorem Z0_rw {μ ν : Me} {n : Nat} (h : Z0 μ n) (hn : mnn μ ≤ mnn ν) (r : Rw μ ν 0) : Z0 ν n := ⟨⟨Nat.lt_of_lt_of_le h.1.1 hn, r.1.trans h.1.2.1, r.2.1.trans h.1.2.2⟩, fun q => (r.2.2 q).1.trans (h.2.1 q), fun i hi => (r.2.2 i).2.2.trans (h.2.2 i hi)⟩
theorem Z0_s {μ : Me} {n v : Nat} (h : Z0 μ n) (hv : v = zr n) : Z0 (msr μ 0 n (some v)) (n + 1) := by
  refine ⟨h.1, h.2.1, fun i hi => ?_⟩
  by_cases c : i = n
  · rw [gr_sr, if_pos ⟨rfl, c⟩, c, hv]
  · rw [gr_sr, if_neg (fun x => c x.2)]
    exact h.2.2 i (by omega)
theorem All_sr {μ : Me} {lo hi n : Nat} {v : Option Nat} (h : All μ lo hi) (h0 : 1 ≤ lo) : All (msr μ 0 n v) lo hi := All_rw h (Nat.le_refl _) (fun a h1 _ => Rw_sr (by omega))
theorem All_nw {μ : Me} {lo hi c n : Nat} (h : All μ lo hi) (hi2 : hi ≤ mnn μ) : All (mnw μ c n) lo hi := All_rw h (Nat.le_succ _) (fun a _ h2 => Rw_nw (by omega))
theorem Z0_nw {μ : Me} {c n m : Nat} (h : Z0 μ m) : Z0 (mnw μ c n) m := Z0_rw h (Nat.le_succ _) (Rw_nw h.1.1)
theorem Z0_ok {μ : Me} {m : Nat} (h : Z0 μ m) : mok μ 0 10 := ⟨h.1.1, h.1.2.1⟩
section C5
variable {μ : Me} {Q : Me → Prop}
/-- behind the shelf's texts -/
theorem p_cls2 (hm : mnn μ = 290) (hz : Z0 μ 4) (hA : All μ 1 290) (h : ∀ ν, mnn ν = 314 → Z0 ν 9 → All ν 1 314 → Q ν) {K47 : Int32 → Nat → Nat → Me → Prop} : B_X10_init_47 0 (nI 4) 289 6864 μ K47 Q := by
  unfold B_X10_init_47
  refine ⟨fun _ => ?_, fun e => absurd (by decide) e⟩
  refine ⟨⟨by omega, by omega⟩, ?_⟩
  rintro _ rfl
  refine ⟨⟨by omega, by omega⟩, ?_⟩
  rw [hm]
  refine p_newReader hm (fun ν nN rN aN => ?_)
  have z1 : Z0 ν 4 := Z0_rw hz (by omega) (rN 0 (by omega))
  have a1 : All ν 1 299 := All_j (All_rw hA (by omega) (fun a _ h2 => rN a h2)) aN
  refine ⟨Z0_ok z1, ?_⟩
  rintro _ rfl
  refine ⟨⟨by omega, by omega⟩, ?_⟩
  rintro _ rfl
  have z2 : Z0 (msr ν 0 4 (some 290)) 5 := Z0_s z1 rfl
  have a2 : All (msr ν 0 4 (some 290)) 1 299 := All_sr a1 (by omega)
  have n2 : mnn (msr ν 0 4 (some 290)) = 299 := nN
  generalize msr ν 0 4 (some 290) = ν2 at z2 a2 n2 ⊢
  clear z1 a1 rN aN nN hA hz hm
  refine ⟨1, (Z0_nw z2).2.2 0 (by omega), 273, (Z0_nw z2).2.2 3 (by omega), ⟨by omega, by omega⟩, ?_⟩
  refine p_newMorning (fun ν rN sN g0 g1 => ?_)
  rintro _ rfl
  rw [n2] at rN sN g0 g1 ⊢
  have z3 : Z0 (msr ν 0 5 (some 299)) 6 := Z0_s (Z0_rw z2 (by have := sN.1; omega) (rN 0 (by omega))) rfl
  have b3 : All ν 299 (299 + 1 + 1) := all_sh sN ⟨by have := sN.1; omega, sN.2.1.1.trans (by decide), sN.2.1.2.trans (by decide), fun _ _ q => (sN.2.2.1 q).trans (gi_0 (by decide) (by decide) (by decide) (by decide) q), fun e he => by
    have e1 : rsF 299 = [(0, 1), (1, 273), (2, 300)] := by decide
    rw [e1] at he
    simp only [List.mem_cons, List.not_mem_nil, or_false] at he
    rcases he with x | x | x <;> subst x
    · exact g0
    · exact g1
    · exact (sN.2.2.2 0 (by omega)).2⟩ (by decide) (by omega)
  have a3 : All (msr ν 0 5 (some 299)) 1 301 := All_sr (All_j (All_rw a2 (by have := sN.1; omega) (fun a _ h2 => rN a h2)) b3) (by omega)
  have n3 : mnn (msr ν 0 5 (some 299)) = 301 := sN.1
  generalize msr ν 0 5 (some 299) = ν3 at z3 a3 n3 ⊢
  clear rN sN g0 g1 b3 z2 a2 n2
  refine ⟨⟨by omega, by omega⟩, ?_⟩
  rintro _ rfl
  refine ⟨1, (Z0_nw z3).2.2 0 (by omega), 299, (Z0_nw z3).2.2 5 (by omega), ⟨by omega, by omega⟩, ?_⟩
  rw [n3]
  unfold S_X1_init
  rintro _ rfl
  have n31 : mnn (mnw ν3 1 0) = 302 := by show mnn ν3 + 1 = 302; omega
  rw [n31]
  have nm := @p_newMoment2 (mnw ν3 1 0)
  rw [n31] at nm
  refine nm (fun ν nN sN mN => ?_)
  have rN : ∀ a, a < 302 → Rw (mnw ν3 1 0) ν a := fun a ha => sN a (by omega) (by omega)
  have r1 := rN 301 (by omega)
  have k1 : mkd (mnw ν3 1 0) 301 = 1 ∧ mln (mnw ν3 1 0) 301 = 0 ∧ ∀ q, mgi (mnw ν3 1 0) 301 q = 0 := ⟨by rw [kd_nw, if_pos n3.symm], by rw [ln_nw, if_pos n3.symm], fun q => by rw [gi_nw, if_pos n3.symm]⟩
  refine ⟨⟨by omega, r1.1.trans k1.1⟩, ?_⟩
  rintro _ rfl _ rfl _ rfl _ rfl
  have rD : ∀ a, a ≠ 301 → Rw ν (msr (msr (msr ν 301 2 (some 302)) 301 0 (some 1)) 301 1 (some 299)) a := fun a ha => Rw_tr (Rw_sr ha) (Rw_tr (Rw_sr ha) (Rw_sr ha))
  have b4 : All (msr (msr (msr ν 301 2 (some 302)) 301 0 (some 1)) 301 1 (some 299)) 301 306 := by
    intro o h1 h2
    by_cases c : o = 301
    · subst c
      refine ⟨by show 301 < mnn ν; omega, r1.1.trans k1.1, r1.2.1.trans k1.2.1, fun _ _ q => ((r1.2.2 q).1.trans (k1.2.2 q)).trans (gi_0 (by decide) (by decide) (by decide) (by decide) q), fun e he => ?_⟩
      have e1 : rsF 301 = [(0, 1), (1, 299), (2, 302)] := by decide
      rw [e1] at he
      simp only [List.mem_cons, List.not_mem_nil, or_false] at he
      rcases he with x | x | x <;> subst x
      · rw [gr_sr, if_neg (by omega), gr_sr, if_pos ⟨rfl, rfl⟩]
      · rw [gr_sr, if_pos ⟨rfl, rfl⟩]
      · rw [gr_sr, if_neg (by omega), gr_sr, if_neg (by omega), gr_sr, if_pos ⟨rfl, rfl⟩]
    · exact Pk_rw (all_mom (by omega) (by decide) mN o (by omega) (by omega)) (Nat.le_refl _) (rD o c)
  have z4 : Z0 (msr (msr (msr (msr ν 301 2 (some 302)) 301 0 (some 1)) 301 1 (some 299)) 0 6 (some 301)) 7 := Z0_s (Z0_rw (Z0_rw (Z0_nw z3) (by omega) (rN 0 (by omega))) (Nat.le_refl _) (rD 0 (by omega))) rfl
  have a4 : All (msr (msr (msr (msr ν 301 2 (some 302)) 301 0 (some 1)) 301 1 (some 299)) 0 6 (some 301)) 1 306 := All_sr (All_j (All_rw (All_rw (All_nw a3 (by omega)) (by omega) (fun a _ h2 => rN a (by omega))) (Nat.le_refl _) (fun a _ h2 => rD a (by omega))) b4) (by omega)
  have n4 : mnn (msr (msr (msr (msr ν 301 2 (some 302)) 301 0 (some 1)) 301 1 (some 299)) 0 6 (some 301)) = 306 := by
    show mnn ν = 306
    omega
  generalize msr (msr (msr (msr ν 301 2 (some 302)) 301 0 (some 1)) 301 1 (some 299)) 0 6 (some 301) = ν4 at z4 a4 n4 ⊢
  clear rN rD r1 k1 b4 nm mN sN nN n31 z3 a3 n3
  refine ⟨⟨by omega, by omega⟩, ?_⟩
  rintro _ rfl
  refine ⟨1, (Z0_nw z4).2.2 0 (by omega), 299, (Z0_nw z4).2.2 5 (by omega), ⟨by omega, by omega⟩, ?_⟩
  refine p_newLeads (fun ν rN sN g0 g1 => ?_)
  rintro _ rfl
  rw [n4] at rN sN g0 g1 ⊢
  have z5 : Z0 (msr ν 0 7 (some 306)) 8 := Z0_s (Z0_rw z4 (by have := sN.1; omega) (rN 0 (by omega))) rfl
  have b5 : All ν 306 (306 + 1 + 3) := all_sh sN ⟨by have := sN.1; omega, sN.2.1.1.trans (by decide), sN.2.1.2.trans (by decide), fun _ _ q => (sN.2.2.1 q).trans (by
    unfold giF
    rw [if_neg (show ¬ kdF 306 = 3 by decide), if_neg (show ¬ (306 = 1 ∨ 306 = 136) by decide), if_neg (show ¬ (306 = 6 ∨ 306 = 141) by decide), if_pos rfl]), fun e he => by
    have e1 : rsF 306 = [(0, 1), (1, 299), (2, 307), (3, 308), (4, 309)] := by decide
    rw [e1] at he
    simp only [List.mem_cons, List.not_mem_nil, or_false] at he
    rcases he with x | x | x | x | x <;> subst x
    · exact g0
    · exact g1
    · exact (sN.2.2.2 0 (by omega)).2
    · exact (sN.2.2.2 1 (by omega)).2
    · exact (sN.2.2.2 2 (by omega)).2⟩ (by decide) (by omega)
  have a5 : All (msr ν 0 7 (some 306)) 1 310 := All_sr (All_j (All_rw a4 (by have := sN.1; omega) (fun a _ h2 => rN a h2)) b5) (by omega)
  have n5 : mnn (msr ν 0 7 (some 306)) = 310 := sN.1
  generalize msr ν 0 7 (some 306) = ν5 at z5 a5 n5 ⊢
  clear rN sN g0 g1 b5 z4 a4 n4
  refine ⟨⟨by omega, by omega⟩, ?_⟩
  rintro _ rfl
  refine ⟨1, (Z0_nw z5).2.2 0 (by omega), 306, (Z0_nw z5).2.2 7 (by omega), ⟨by omega, by omega⟩, ?_⟩
  refine p_newBeliefs (fun ν rN sN g0 g1 => ?_)
  rintro _ rfl
  rw [n5] at rN sN g0 g1 ⊢
  have z6 : Z0 (msr ν 0 8 (some 310)) 9 := Z0_s (Z0_rw z5 (by have := sN.1; omega) (rN 0 (by omega))) rfl
  have b6 : All ν 310 (310 + 1 + 3) := all_sh sN ⟨by have := sN.1; omega, sN.2.1.1.trans (by decide), sN.2.1.2.trans (by decide), fun _ _ q => (sN.2.2.1 q).trans (gi_0 (by decide) (by decide) (by decide) (by decide) q), fun e he => by
    have e1 : rsF 310 = [(0, 1), (1, 306), (2, 311), (3, 312), (4, 313)] := by decide
    rw [e1] at he
    simp only [List.mem_cons, List.not_mem_nil, or_false] at he
    rcases he with x | x | x | x | x <;> subst x
    · exact g0
    · exact g1
    · exact (sN.2.2.2 0 (by omega)).2
    · exact (sN.2.2.2 1 (by omega)).2
    · exact (sN.2.2.2 2 (by omega)).2⟩ (by decide) (by omega)
  have a6 : All (msr ν 0 8 (some 310)) 1 314 := All_sr (All_j (All_rw a5 (by have := sN.1; omega) (fun a _ h2 => rN a h2)) b6) (by omega)
  exact ⟨⟨by omega, by omega⟩, h _ sN.1 z6 a6⟩
theorem p_class (hm : mnn μ = 0) (h : ∀ ν, mnn ν = 314 → Z0 ν 9 → All ν 1 314 → Q ν) : S_X10_init 0 (mnw μ 10 0) Q := by
  have n0 : mnn (mnw μ 10 0) = 1 := by show mnn μ + 1 = 1; omega
  have z0 : Z0 (mnw μ 10 0) 0 := ⟨⟨by omega, by rw [kd_nw, if_pos hm.symm], by rw [ln_nw, if_pos hm.symm]⟩, fun q => by rw [gi_nw, if_pos hm.symm], fun i hi => absurd hi (by omega)⟩
  generalize mnw μ 10 0 = μ0 at n0 z0 ⊢
  unfold S_X10_init
  rintro _ rfl
  refine p_newTown2 (fun ν nN rN tN => ?_)
  rw [n0] at nN rN tN ⊢
  have z1 := Z0_rw z0 (by omega) (rN 0 (by omega))
  refine ⟨Z0_ok z1, ?_⟩
  rintro _ rfl _ rfl
  have z2 : Z0 (msr ν 0 0 (some 1)) 1 := Z0_s z1 rfl
  have a2 : All (msr ν 0 0 (some 1)) 1 136 := All_sr (all_town (Or.inl rfl) tN) (by omega)
  have n2 : mnn (msr ν 0 0 (some 1)) = 136 := nN
  generalize msr ν 0 0 (some 1) = ν2 at z2 a2 n2 ⊢
  clear nN rN tN z1 z0 n0
  refine p_newTown2 (fun ν nN rN tN => ?_)
  rw [n2] at nN rN tN ⊢
  rintro _ rfl _ rfl
  have z3 : Z0 (msr ν 0 1 (some 136)) 2 := Z0_s (Z0_rw z2 (by omega) (rN 0 (by omega))) rfl
  have a3 : All (msr ν 0 1 (some 136)) 1 271 := All_sr (All_j (All_rw a2 (by omega) (fun a _ h2 => rN a h2)) (all_town (Or.inr rfl) tN)) (by omega)
  have n3 : mnn (msr ν 0 1 (some 136)) = 271 := nN
  generalize msr ν 0 1 (some 136) = ν3 at z3 a3 n3 ⊢
  clear nN rN tN z2 a2 n2
  refine p_newTape (fun ν rN sN => ?_)
  rw [n3] at rN sN ⊢
  rintro _ rfl _ rfl _ rfl
  have b4 : All ν 271 (271 + 1 + 1) := all_sh sN ⟨by have := sN.1; omega, sN.2.1.1.trans (by decide), sN.2.1.2.trans (by decide), fun _ _ q => (sN.2.2.1 q).trans (gi_0 (by decide) (by decide) (by decide) (by decide) q), fun e he => by
    have e1 : rsF 271 = [(0, 272)] := by decide
    rw [e1] at he
    have : e = (0, 272) := List.mem_singleton.1 he
    subst this
    exact (sN.2.2.2 0 (by omega)).2⟩ (by decide) (by omega)
  have z4 : Z0 (msr ν 0 2 (some 271)) 3 := Z0_s (Z0_rw z3 (by have := sN.1; omega) (rN 0 (by omega))) rfl
  have a4 : All (msr ν 0 2 (some 271)) 1 273 := All_sr (All_j (All_rw a3 (by have := sN.1; omega) (fun a _ h2 => rN a h2)) b4) (by omega)
  have n4 : mnn (msr ν 0 2 (some 271)) = 273 := sN.1
  generalize msr ν 0 2 (some 271) = ν4 at z4 a4 n4 ⊢
  clear rN sN b4 z3 a3 n3
  rw [n4]
  have z5 : Z0 (msr (mnw ν4 16 4) 0 3 (some 273)) 4 := Z0_s (Z0_nw z4) rfl
  have a5 : All (msr (mnw ν4 16 4) 0 3 (some 273)) 1 273 := All_sr (All_nw a4 (by omega)) (by omega)
  have f5 : Fo (msr (mnw ν4 16 4) 0 3 (some 273)) 273 16 4 := by
    have := Fo_nw ν4 16 4
    rw [n4] at this
    exact this
  have n5 : mnn (msr (mnw ν4 16 4) 0 3 (some 273)) = 274 := by show mnn ν4 + 1 = 274; omega
  generalize msr (mnw ν4 16 4) 0 3 (some 273) = ν5 at z5 a5 f5 n5 ⊢
  clear z4 a4 n4
  refine loopKK (Bd := fun i k j ν K => B_X10_init_47 0 i k j ν K Q) (fun i k j ρ => k = 273 + 4 * i ∧ j = 3948 + 729 * i ∧ mnn ρ = 274 + 4 * i ∧ Z0 ρ 4 ∧ All ρ 1 273 ∧ Fo ρ 273 16 4 ∧ (∀ p, p < i → mgr ρ 273 p = some (274 + 4 * p)) ∧ All ρ 274 (274 + 4 * i)) 4 ⟨rfl, rfl, n5, z5, a5, f5, fun p hp => absurd hp (by omega), fun o h1 h2 => absurd h2 (by omega)⟩ ?_
  rintro i k j ρ hi ⟨rfl, rfl, nR, zR, aR, fR, gR, tR⟩ K hK
  by_cases hin : i = 4
  · subst hin
    refine p_cls2 nR zR (All_j aR (All_j (mi := 274) (fun o h1 h2 => ?_) tR)) h
    have e : o = 273 := by omega
    subst e
    refine ⟨fR.1, fR.2.1, fR.2.2.1, fun _ _ q => ((fR.2.2.2 q).1).trans (gi_0 (by decide) (by decide) (by decide) (by decide) q), fun e he => ?_⟩
    have e1 : rsF 273 = [(0, 274), (1, 278), (2, 282), (3, 286)] := by decide
    rw [e1] at he
    simp only [List.mem_cons, List.not_mem_nil, or_false] at he
    rcases he with x | x | x | x <;> subst x
    · exact gR 0 (by omega)
    · exact gR 1 (by omega)
    · exact gR 2 (by omega)
    · exact gR 3 (by omega)
  · unfold B_X10_init_47
    refine ⟨fun e => absurd e (by rw [li_4, q_le (by omega) (by omega)]; omega), fun _ => ⟨Z0_ok zR, 273, zR.2.2 3 (by omega), ⟨by omega, by omega⟩, ?_⟩⟩
    rintro _ rfl
    refine ⟨⟨by omega, by omega⟩, ?_⟩
    refine p_newText (fun ν rN sN => ?_)
    rw [nR] at rN sN
    have r273 := rN 273 (by omega)
    have f2 : Fo ν 273 16 4 := Fo_rw fR (by have := sN.1; omega) r273
    refine ⟨⟨f2.1, f2.2.1⟩, by rw [f2.2.2.1]; exact in_nI (by omega) (by omega), ?_⟩
    rintro _ rfl
    rw [q_cl (by omega), nR]
    have hk7 : kdF (274 + 4 * i) = 7 := (tx_kd i (by omega)).1
    have tb : ∀ i, i < 4 → lnF (274 + 4 * i) = 0 ∧ ∀ p, p < 3 → kdF (274 + 4 * i + 1 + p) = 12 ∧ lnF (274 + 4 * i + 1 + p) = xlL p ∧ (rsF (274 + 4 * i + 1 + p)).isEmpty = true := by decide +kernel
    have b1 : All ν (274 + 4 * i) (274 + 4 * i + 1 + 3) := all_sh sN ⟨by have := sN.1; omega, sN.2.1.1.trans hk7.symm, sN.2.1.2.trans (tb i (by omega)).1.symm, fun _ _ q => (sN.2.2.1 q).trans (gi_0 (by rw [hk7]; decide) (by omega) (by omega) (by omega) q), fun e he => by
      unfold rsF at he
      rw [if_neg (by rw [hk7]; decide), if_pos hk7] at he
      simp only [List.mem_cons, List.not_mem_nil, or_false] at he
      rcases he with x | x | x <;> subst x
      · exact (sN.2.2.2 0 (by omega)).2
      · exact (sN.2.2.2 1 (by omega)).2
      · exact (sN.2.2.2 2 (by omega)).2⟩ (tb i (by omega)).2 (by omega)
    rw [show nI i + 1 = nI (i + 1) from nI_add i 1]
    refine hK (273 + 4 * i + 1 + 3) (3948 + 729 * i + 9 + 720) (msr ν 273 i (some (274 + 4 * i))) (by omega) ⟨by omega, by omega, by show mnn ν = _; have := sN.1; omega, Z0_rw (Z0_rw zR (by have := sN.1; omega) (rN 0 (by omega))) (Nat.le_refl _) (Rw_sr (by omega)), All_rw (All_rw aR (by have := sN.1; omega) (fun a _ h2 => rN a (by omega))) (Nat.le_refl _) (fun a _ h2 => Rw_sr (by omega)), f2, fun p hp => ?_, All_j (All_rw (All_rw tR (by have := sN.1; omega) (fun a _ h2 => rN a (by omega))) (Nat.le_refl _) (fun a h1 h2 => Rw_sr (by omega))) (All_rw b1 (Nat.le_refl _) (fun a h1 h2 => Rw_sr (by omega)))⟩
    by_cases c : p = i
    · rw [gr_sr, if_pos ⟨rfl, c⟩, c]
    · rw [gr_sr, if_neg (fun x => c x.2)]
      exact (r273.2.2 p).2.2.trans (gR p (by omega))
end C5
