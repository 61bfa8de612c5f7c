/-! what the constructors make: towns, texts, the class -/
theorem loopKK {μ : Me} {k0 j0 : Nat} {Bd : Int32 → Nat → Nat → Me → (Int32 → Nat → Nat → Me → Prop) → Prop} (P : Nat → Nat → Nat → Me → Prop) (N : Nat) (hP : P 0 k0 j0 μ) (hb : ∀ i k j ν, i ≤ N → P i k j ν → ∀ K : Int32 → Nat → Nat → Me → Prop, (∀ k' j' ρ, i < N → P (i + 1) k' j' ρ → K (nI (i + 1)) k' j' ρ) → Bd (nI i) k j ν K) : ∃ I : Int32 → Nat → Nat → Me → Nat → Prop, (∃ n, I (nI 0) k0 j0 μ n) ∧ ∀ (a : Int32) (k j : Nat) (μ : Me) (n : Nat), I a k j μ n → Bd a k j μ (fun b k j ν => ∃ n', n' < n ∧ I b k j ν n') := by
  refine ⟨fun a k j ν n => ∃ i, a = nI i ∧ i ≤ N ∧ n = N - i ∧ P i k j ν, ⟨N, 0, rfl, by omega, rfl, hP⟩, ?_⟩
  rintro _ k j ν _ ⟨i, rfl, hi, rfl, hQ⟩
  exact hb i k j ν hi hQ _ (fun k' j' ρ hl hR => ⟨N - (i + 1), by omega, i + 1, rfl, by omega, rfl, hR⟩)
theorem Rw_rf (μ : Me) (a : Nat) : Rw μ μ a := ⟨rfl, rfl, fun _ => ⟨rfl, rfl, rfl⟩⟩
theorem Rw_tr {μ ν ρ : Me} {a : Nat} (h : Rw μ ν a) (k : Rw ν ρ a) : Rw μ ρ a := ⟨k.1.trans h.1, k.2.1.trans h.2.1, fun q => ⟨(k.2.2 q).1.trans (h.2.2 q).1, (k.2.2 q).2.1.trans (h.2.2 q).2.1, (k.2.2 q).2.2.trans (h.2.2 q).2.2⟩⟩
theorem Rw_nw {μ : Me} {c n a : Nat} (h : a < mnn μ) : Rw μ (mnw μ c n) a := by
  have e : a ≠ mnn μ := by omega
  refine ⟨?_, ?_, fun q => ⟨?_, ?_, ?_⟩⟩
  · rw [kd_nw, if_neg e]
  · rw [ln_nw, if_neg e]
  · rw [gi_nw, if_neg e]
  · rw [gl_nw, if_neg e]
  · rw [gr_nw, if_neg e]
theorem Rw_sr {μ : Me} {o k a : Nat} {v : Option Nat} (h : a ≠ o) : Rw μ (msr μ o k v) a := ⟨rfl, rfl, fun q => ⟨rfl, rfl, by rw [gr_sr, if_neg (fun x => h x.1)]⟩⟩
theorem Rw_si {μ : Me} {o k a : Nat} {v : Int32} (h : a ≠ o) : Rw μ (msi μ o k v) a := ⟨rfl, rfl, fun q => ⟨by rw [gi_si, if_neg (fun x => h x.1)], rfl, rfl⟩⟩
/-- a fresh object -/
def Fo (ν : Me) (o c n : Nat) : Prop := o < mnn ν ∧ mkd ν o = c ∧ mln ν o = n ∧ ∀ q, mgi ν o q = 0 ∧ mgl ν o q = 0
theorem Fo_nw (μ : Me) (c n : Nat) : Fo (mnw μ c n) (mnn μ) c n := ⟨Nat.lt_succ_self _, by rw [kd_nw, if_pos rfl], by rw [ln_nw, if_pos rfl], fun q => ⟨by rw [gi_nw, if_pos rfl], by rw [gl_nw, if_pos rfl]⟩⟩
theorem Fo_rw {μ ν : Me} {o c n : Nat} (h : Fo μ o c n) (hn : mnn μ ≤ mnn ν) (r : Rw μ ν o) : Fo ν o c n := ⟨Nat.lt_of_lt_of_le h.1 hn, r.1.trans h.2.1, r.2.1.trans h.2.2.1, fun q => ⟨(r.2.2 q).1.trans (h.2.2.2 q).1, (r.2.2 q).2.1.trans (h.2.2.2 q).2⟩⟩
theorem Fo_sr {μ : Me} {o c n a k : Nat} {v : Option Nat} (h : Fo μ o c n) : Fo (msr μ a k v) o c n := h
def MomJ (ν : Me) (m : Nat) : Prop := MomI ν m ∧ mln ν m = 0
theorem MomJ_rw {μ ν : Me} {m : Nat} (h : MomJ μ m) (hn : mnn μ ≤ mnn ν) (hr : ∀ a, m ≤ a → a < m + 4 → Rw μ ν a) : MomJ ν m := ⟨MomI_rw h.1 hn hr, (hr m (by omega) (by omega)).2.1.trans h.2⟩
theorem p_newMoment2 {μ : Me} {Q : Me → Prop} (h : ∀ ν, mnn ν = mnn μ + 4 → Sm μ ν (mnn μ) (mnn μ) → MomJ ν (mnn μ) → Q ν) : S_X3_init (mnn μ) (mnw μ 3 0) Q := by
  unfold S_X3_init
  refine ⟨mok_nw μ 3 0, ?_⟩
  rintro _ rfl _ rfl _ rfl _ rfl _ rfl _ rfl _ rfl
  refine h _ rfl (fun a ha _ => ?_) ⟨?_, ?_⟩
  · have h1 : a ≠ mnn μ := by omega
    have h2 : a ≠ mnn μ + 1 := by omega
    have h3 : a ≠ mnn μ + 2 := by omega
    have h4 : a ≠ mnn μ + 3 := by omega
    simp [kd_sr, kd_si, kd_nw, ln_sr, ln_si, ln_nw, gi_sr, gi_si, gi_nw, gl_sr, gl_si, gl_nw, gr_sr, gr_si, gr_nw, nn_sr, nn_si, nn_nw, h1, h2, h3, h4]
  · unfold MomI mok
    simp [kd_sr, kd_si, kd_nw, ln_sr, ln_si, ln_nw, gi_sr, gi_si, gi_nw, gl_sr, gl_si, gl_nw, gr_sr, gr_si, gr_nw, nn_sr, nn_si, nn_nw, ne_2, ne_3, ne_4, lt_2, lt_3, lt_4]
  · simp [ln_sr, ln_si, ln_nw, nn_sr, nn_si, nn_nw, ne_2, ne_3, ne_4]
/-- object t of kind c with its first j arrays made: their lengths, the slots that hold them -/
def Sg (ν : Me) (t c : Nat) (ln sl : Nat → Nat) (j : Nat) (g : Nat → Int32) : Prop := mnn ν = t + 1 + j ∧ (mkd ν t = c ∧ mln ν t = 0) ∧ (∀ q, mgi ν t q = g q ∧ mgl ν t q = 0) ∧ (∀ i, i < j → Fo ν (t + 1 + i) 12 (ln i) ∧ mgr ν t (sl i) = some (t + 1 + i))
theorem Sg_0 (μ : Me) (c : Nat) (ln sl : Nat → Nat) : Sg (mnw μ c 0) (mnn μ) c ln sl 0 (fun _ => 0) := ⟨rfl, ⟨by rw [kd_nw, if_pos rfl], by rw [ln_nw, if_pos rfl]⟩, fun q => ⟨by rw [gi_nw, if_pos rfl], by rw [gl_nw, if_pos rfl]⟩, fun i hi => absurd hi (by omega)⟩
theorem Sg_s {μ ν : Me} {t c j n q : Nat} {ln sl : Nat → Nat} {g : Nat → Int32} (h : Sg μ t c ln sl j g) (e : ν = msr (mnw μ 12 n) t q (some (mnn μ))) (hn : ln j = n) (hq : sl j = q) (hd : ∀ i, i < j → sl i ≠ sl j) : Sg ν t c ln sl (j + 1) g ∧ ∀ a, a < t → Rw μ ν a := by
  subst e
  obtain ⟨h1, h2, h3, h4⟩ := h
  refine ⟨⟨by show mnn μ + 1 = _; omega, ?_, fun p => ?_, fun i hi => ?_⟩, fun a ha => ?_⟩
  · rw [kd_sr, kd_nw, if_neg (by omega), ln_sr, ln_nw, if_neg (by omega)]
    exact h2
  · rw [gi_sr, gl_sr, gi_nw, gl_nw, if_neg (by omega), if_neg (by omega)]
    exact h3 p
  · by_cases c : i = j
    · subst c
      rw [hn, hq, show t + 1 + i = mnn μ by omega]
      exact ⟨Fo_nw μ 12 n, by rw [gr_sr, if_pos ⟨rfl, rfl⟩]⟩
    · obtain ⟨f1, f2⟩ := h4 i (by omega)
      refine ⟨Fo_rw (μ := μ) f1 (Nat.le_succ _) (Rw_tr (Rw_nw f1.1) (Rw_sr (by omega))), ?_⟩
      rw [gr_sr, if_neg (by rintro ⟨-, x⟩; exact hd i (by omega) (x.trans hq.symm)), gr_nw, if_neg (by omega)]
      exact f2
  · exact Rw_tr (Rw_nw (by omega)) (Rw_sr (by omega))
theorem Sg_i {μ ν : Me} {t c j k : Nat} {ln sl : Nat → Nat} {g : Nat → Int32} {v : Int32} (h : Sg μ t c ln sl j g) (e : ν = msi μ t k v) : Sg ν t c ln sl j (fun q => if q = k then v else g q) ∧ ∀ a, a < t → Rw μ ν a := by
  subst e
  obtain ⟨h1, h2, h3, h4⟩ := h
  refine ⟨⟨h1, h2, fun p => ⟨?_, (h3 p).2⟩, fun i hi => ⟨Fo_rw (μ := μ) (h4 i hi).1 (Nat.le_refl _) (Rw_si (by omega)), (h4 i hi).2⟩⟩, fun a ha => Rw_si (by omega)⟩
  show mgi _ t p = if p = k then v else g p
  rw [gi_si]
  by_cases c : p = k
  · rw [if_pos ⟨rfl, c⟩, if_pos c]
  · rw [if_neg (fun x => c x.2), if_neg c]
    exact (h3 p).1
theorem Sg_ok {μ : Me} {t c j n : Nat} {ln sl : Nat → Nat} {g : Nat → Int32} (h : Sg μ t c ln sl j g) : mok (mnw μ 12 n) t c := by
  refine ⟨?_, ?_⟩
  · show t < mnn μ + 1
    have := h.1
    omega
  · rw [kd_nw, if_neg (by have := h.1; omega)]
    exact h.2.1.1
/-- a town made -/
def tlL (i : Nat) : Nat := if i = 1 then 4 else 8
def tsL (i : Nat) : Nat := if i < 5 then i + 1 else if i < 7 then i + 4 else i + 5
theorem tsL_d : ∀ j, j < 9 → ∀ i, i < j → tsL i ≠ tsL j := by decide
def TwQ (ν : Me) (t hn pn : Nat) : Prop := mkd ν t = 9 ∧ (t < mnn ν ∧ mln ν t = 0) ∧ (∀ q, mgi ν t q = (if q = 7 then -1 else 0) ∧ mgl ν t q = 0) ∧ (∀ i, i < 9 → t + 1 + i < mnn ν ∧ mkd ν (t + 1 + i) = 12 ∧ mln ν (t + 1 + i) = tlL i ∧ (∀ q, mgi ν (t + 1 + i) q = (if i = 4 ∧ q < hn then 255 else 0) ∧ mgl ν (t + 1 + i) q = 0) ∧ mgr ν t (tsL i) = some (t + 1 + i)) ∧ mgr ν t 14 = some (t + 10) ∧ mgr ν t 15 = some (t + 14) ∧ MomJ ν (t + 10) ∧ (mok ν (t + 14) 15 ∧ mln ν (t + 14) = 30) ∧ ∀ i, i < pn → mgr ν (t + 14) i = some (t + 15 + 4 * i) ∧ MomJ ν (t + 15 + 4 * i)
theorem TwQ_rw {μ ν : Me} {t hn pn : Nat} (h : TwQ μ t hn pn) (hm : mnn μ ≤ mnn ν) (hr : ∀ a, t ≤ a → a < t + 15 + 4 * pn → Rw μ ν a) : TwQ ν t hn pn := by
  have r0 := hr t (by omega) (by omega)
  have r14 := hr (t + 14) (by omega) (by omega)
  obtain ⟨h1, h2, h3, h4, h5, h6, h7, ⟨h8, h8b⟩, h9⟩ := h
  refine ⟨r0.1.trans h1, ⟨by omega, r0.2.1.trans h2.2⟩, fun q => ⟨(r0.2.2 q).1.trans (h3 q).1, (r0.2.2 q).2.1.trans (h3 q).2⟩, fun i hi => ?_, (r0.2.2 14).2.2.trans h5, (r0.2.2 15).2.2.trans h6, MomJ_rw h7 hm (fun a ha hb => hr a (by omega) (by omega)), ⟨rw_ok r14 hm h8, r14.2.1.trans h8b⟩, fun i hi => ⟨(r14.2.2 i).2.2.trans (h9 i hi).1, MomJ_rw (h9 i hi).2 hm (fun a ha hb => hr a (by omega) (by omega))⟩⟩
  have ri := hr (t + 1 + i) (by omega) (by omega)
  obtain ⟨f1, f2, f3, f4, f5⟩ := h4 i hi
  exact ⟨by omega, ri.1.trans f2, ri.2.1.trans f3, fun q => ⟨(ri.2.2 q).1.trans (f4 q).1, (ri.2.2 q).2.1.trans (f4 q).2⟩, (r0.2.2 _).2.2.trans f5⟩
section NT
variable {μ : Me} {Q : Me → Prop}
theorem p_newTown2 (h : ∀ ν, mnn ν = mnn μ + 135 → (∀ a, a < mnn μ → Rw μ ν a) → TwQ ν (mnn μ) 8 30 → Q ν) : S_X9_init (mnn μ) (mnw μ 9 0) Q := by
  generalize hT : mnn μ = t at h ⊢
  have s0 := Sg_0 μ 9 tlL tsL
  rw [hT] at s0
  have rr0 : ∀ a, a < t → Rw μ (mnw μ 9 0) a := fun a ha => Rw_nw (by omega)
  unfold S_X9_init
  rintro _ rfl
  refine ⟨Sg_ok s0, ?_⟩
  intro μ5 e5
  obtain ⟨s1, r1⟩ := Sg_s s0 e5 rfl rfl (tsL_d 0 (by omega))
  intro μ6 e6 μ9 e9
  subst e6
  obtain ⟨s2, r2⟩ := Sg_s s1 e9 rfl rfl (tsL_d 1 (by omega))
  intro μ10 e10 μ13 e13
  subst e10
  obtain ⟨s3, r3⟩ := Sg_s s2 e13 rfl rfl (tsL_d 2 (by omega))
  intro μ14 e14 μ17 e17
  subst e14
  obtain ⟨s4, r4⟩ := Sg_s s3 e17 rfl rfl (tsL_d 3 (by omega))
  intro μ18 e18 μ21 e21
  subst e18
  obtain ⟨s5, r5⟩ := Sg_s s4 e21 rfl rfl (tsL_d 4 (by omega))
  intro μ22 e22
  obtain ⟨s6, r6⟩ := Sg_i s5 e22
  intro μ23 e23 μ26 e26
  subst e23
  obtain ⟨s7, r7⟩ := Sg_s s6 e26 rfl rfl (tsL_d 5 (by omega))
  intro μ27 e27 μ30 e30
  subst e27
  obtain ⟨s8, r8⟩ := Sg_s s7 e30 rfl rfl (tsL_d 6 (by omega))
  intro μ31 e31 μ34 e34
  subst e31
  obtain ⟨s9, r9⟩ := Sg_s s8 e34 rfl rfl (tsL_d 7 (by omega))
  intro μ35 e35 μ38 e38
  subst e35
  obtain ⟨sA, rA⟩ := Sg_s s9 e38 rfl rfl (tsL_d 8 (by omega))
  have rr : ∀ a, a < t → Rw μ μ38 a := fun a ha => Rw_tr (rr0 a ha) (Rw_tr (r1 a ha) (Rw_tr (r2 a ha) (Rw_tr (r3 a ha) (Rw_tr (r4 a ha) (Rw_tr (r5 a ha) (Rw_tr (r6 a ha) (Rw_tr (r7 a ha) (Rw_tr (r8 a ha) (Rw_tr (r9 a ha) (rA a ha))))))))))
  clear e5 e9 e13 e17 e21 e22 e26 e30 e34 e38 s0 s1 s2 s3 s4 s5 s6 s7 s8 s9 r1 r2 r3 r4 r5 r6 r7 r8 r9 rA rr0
  obtain ⟨n10, ⟨k9, l9⟩, g9, hA⟩ := sA
  rintro _ rfl
  refine p_newMoment2 (fun ν nN sm hMo => ?_)
  rintro _ rfl _ rfl _ rfl
  have nN2 : mnn ν = t + 14 := by omega
  have smr : ∀ a, a < t + 10 → Rw μ38 ν a := fun a ha => sm a (by omega) (by omega)
  rw [show mnn μ38 = t + 10 by omega] at hMo
  have hTw : TwQ (msr (mnw (msr ν t 14 (some (mnn μ38))) 15 30) t 15 (some (mnn (msr ν t 14 (some (mnn μ38)))))) t 0 0 := by
    have kk : ∀ a, a < t + 14 → a ≠ t → Rw ν (msr (mnw (msr ν t 14 (some (mnn μ38))) 15 30) t 15 (some (mnn (msr ν t 14 (some (mnn μ38)))))) a := fun a ha hne => Rw_tr (Rw_sr hne) (Rw_tr (Rw_nw (by show a < mnn ν; omega)) (Rw_sr hne))
    have r0 := smr t (by omega)
    refine ⟨?_, ⟨?_, ?_⟩, fun q => ⟨?_, ?_⟩, fun i hi => ?_, ?_, ?_, ?_, ⟨⟨?_, ?_⟩, ?_⟩, fun i hi => absurd hi (by omega)⟩
    · rw [kd_sr, kd_nw, if_neg (by show t ≠ mnn ν; omega), kd_sr]
      exact r0.1.trans k9
    · show t < mnn ν + 1
      omega
    · rw [ln_sr, ln_nw, if_neg (by show t ≠ mnn ν; omega), ln_sr]
      exact r0.2.1.trans l9
    · rw [gi_sr, gi_nw, if_neg (by show t ≠ mnn ν; omega), gi_sr]
      exact (r0.2.2 q).1.trans (g9 q).1
    · rw [gl_sr, gl_nw, if_neg (by show t ≠ mnn ν; omega), gl_sr]
      exact (r0.2.2 q).2.1.trans (g9 q).2
    · obtain ⟨f1, f2⟩ := hA i hi
      have ri := Rw_tr (smr (t + 1 + i) (by omega)) (kk (t + 1 + i) (by omega) (by omega))
      refine ⟨?_, ri.1.trans f1.2.1, ri.2.1.trans f1.2.2.1, fun q => ⟨?_, (ri.2.2 q).2.1.trans (f1.2.2.2 q).2⟩, ?_⟩
      · show t + 1 + i < mnn ν + 1
        omega
      · rw [if_neg (by omega)]
        exact (ri.2.2 q).1.trans (f1.2.2.2 q).1
      · have hs : tsL i ≠ 15 ∧ tsL i ≠ 14 := by
          unfold tsL
          split
          · omega
          · split <;> omega
        rw [gr_sr, if_neg (fun x => hs.1 x.2), gr_nw, if_neg (by show t ≠ mnn ν; omega), gr_sr, if_neg (fun x => hs.2 x.2)]
        exact (r0.2.2 _).2.2.trans f2
    · rw [gr_sr, if_neg (by omega), gr_nw, if_neg (by show t ≠ mnn ν; omega), gr_sr, if_pos ⟨rfl, rfl⟩]
      rw [show mnn μ38 = t + 10 by omega]
    · rw [gr_sr, if_pos ⟨rfl, rfl⟩]
      show some (mnn ν) = _
      rw [nN2]
    · exact MomJ_rw hMo (by show mnn ν ≤ mnn ν + 1; omega) (fun a ha hb => kk a (by omega) (by omega))
    · show t + 14 < mnn ν + 1
      omega
    · rw [kd_sr, kd_nw, if_pos (by show t + 14 = mnn ν; omega)]
    · rw [ln_sr, ln_nw, if_pos (by show t + 14 = mnn ν; omega)]
  have hRr : ∀ a, a < t → Rw μ (msr (mnw (msr ν t 14 (some (mnn μ38))) 15 30) t 15 (some (mnn (msr ν t 14 (some (mnn μ38)))))) a := fun a ha => Rw_tr (rr a ha) (Rw_tr (smr a (by omega)) (Rw_tr (Rw_sr (by omega)) (Rw_tr (Rw_nw (by show a < mnn ν; omega)) (Rw_sr (by omega)))))
  have hNn : mnn (msr (mnw (msr ν t 14 (some (mnn μ38))) 15 30) t 15 (some (mnn (msr ν t 14 (some (mnn μ38)))))) = t + 15 := by
    show mnn ν + 1 = _
    omega
  generalize msr (mnw (msr ν t 14 (some (mnn μ38))) 15 30) t 15 (some (mnn (msr ν t 14 (some (mnn μ38))))) = γ at hTw hRr hNn ⊢
  refine loopKK (Bd := fun i k j ν K => B_X9_init_102 t i k j ν K Q) (fun i k j ρ => k = 14 ∧ j = 153 ∧ mnn ρ = t + 15 ∧ (∀ a, a < t → Rw μ ρ a) ∧ TwQ ρ t i 0) 8 ⟨rfl, rfl, hNn, hRr, hTw⟩ ?_
  rintro i k j ρ hi ⟨rfl, rfl, nR, hRr, hTw⟩ K hK
  unfold B_X9_init_102
  obtain ⟨q1, q2, q3, q4, q5, q6, q7, q8, q9⟩ := id hTw
  by_cases hin : i = 8
  · subst hin
    simp (disch := first | omega | (simp only [Gp_si, Gp_sl, Gp_ci, Gp_cl]; assumption)) only [li_0, li_1, li_2, li_3, li_4, li_5, li_6, li_7, li_8, li_9, li_10, li_11, li_12, li_13, li_14, li_15, li_16, li_17, li_18, li_19, li_20, li_21, li_22, li_23, li_24, li_25, li_26, li_27, li_28, li_29, li_30, li_32, li_33, li_34, li_35, li_36, li_37, li_38, li_39, li_40, li_41, li_42, li_43, li_44, li_45, li_46, li_47, li_48, li_49, li_50, li_51, li_52, li_53, li_54, li_55, li_56, li_57, li_58, li_59, li_60, li_61, li_62, li_63, li_64, li_65, li_66, li_67, li_68, li_69, li_70, li_71, li_72, li_73, li_74, li_75, li_76, li_77, li_78, li_79, li_80, li_81, li_82, li_83, li_84, li_85, li_86, li_87, li_88, li_89, li_90, li_91, li_92, li_93, li_94, li_95, li_96, li_97, li_98, li_99, li_100, li_101, li_102, li_103, li_104, li_105, li_106, li_107, li_108, li_109, li_110, li_111, li_112, li_113, li_114, li_115, li_116, li_117, li_118, li_119, li_120, li_121, li_122, li_123, li_124, li_125, li_126, li_127, li_128, li_129, li_130, li_134, li_160, li_197, li_229, li_255, li_256, li_265, li_300, li_301, li_330, li_353, li_463, li_720, li_729, li_768, li_999, li_2610, li_2807, li_2867, li_2916, li_4096, li_9999, li_10000, li_30643, li_65535, li_99999, li_1000000, gi_si, gi_sl, gi_sr, gi_ci, gi_cl, gl_si, gl_sl, gl_sr, gl_ci, gl_cl, gr_si, gr_sl, gr_sr, gr_ci, gr_cl, ln_si, ln_sl, ln_sr, ln_ci, ln_cl, ok_si, ok_sl, ok_sr, ok_ci, ok_cl, Option.some.injEq, exists_eq_left', exists_eq_left, forall_eq, forall_eq', true_and, and_true, if_true, if_false, true_imp_iff, false_imp_iff, not_true_eq_false, not_false_eq_true, false_and, and_false, reduceIte, reduceCtorEq, forall_const, Nat.reduceEqDiff, Nat.reduceAdd, Nat.reduceMul, Nat.reduceSub, Nat.reduceLT, Nat.reduceLeDiff, Nat.reduceMod, Nat.reduceDiv, and_self, ne_eq, exists_const, Nat.add_sub_cancel, nI_add, pk_mul, pk_sub, q_rem, q_div, q_eq, q_le, q_lt, q_cl, q_in, q_m1, q_1m, q_neg, sh1n, bitn, q_mod2, q_neq0, bq_t, bq_f, bq_t2, bq_f2, i01, i10, q_tt, q_ff, ups_e, ups_n, fil_i, fil_o, zq_if, zq_0, zq_1, if_pos, if_neg]
    clear hK K
    refine loopKK (Bd := fun i k j ν K => B_X9_init_125 t i k j ν K Q) (fun i k j σ => k = 14 + 4 * i ∧ j = 153 + 55 * i ∧ mnn σ = t + 15 + 4 * i ∧ (∀ a, a < t → Rw μ σ a) ∧ TwQ σ t 8 i) 30 ⟨rfl, rfl, nR, hRr, hTw⟩ ?_
    clear hRr hTw q1 q2 q3 q4 q5 q6 q7 q8 q9
    rintro i k j σ hi2 ⟨rfl, rfl, nS, hRs, hTw⟩ K hK
    obtain ⟨q1, q2, q3, q4, q5, q6, q7, ⟨q8, q8b⟩, q9⟩ := id hTw
    unfold B_X9_init_125
    by_cases hin : i = 30
    · subst hin
      simp (disch := first | omega | (simp only [Gp_si, Gp_sl, Gp_ci, Gp_cl]; assumption)) only [li_0, li_1, li_2, li_3, li_4, li_5, li_6, li_7, li_8, li_9, li_10, li_11, li_12, li_13, li_14, li_15, li_16, li_17, li_18, li_19, li_20, li_21, li_22, li_23, li_24, li_25, li_26, li_27, li_28, li_29, li_30, li_32, li_33, li_34, li_35, li_36, li_37, li_38, li_39, li_40, li_41, li_42, li_43, li_44, li_45, li_46, li_47, li_48, li_49, li_50, li_51, li_52, li_53, li_54, li_55, li_56, li_57, li_58, li_59, li_60, li_61, li_62, li_63, li_64, li_65, li_66, li_67, li_68, li_69, li_70, li_71, li_72, li_73, li_74, li_75, li_76, li_77, li_78, li_79, li_80, li_81, li_82, li_83, li_84, li_85, li_86, li_87, li_88, li_89, li_90, li_91, li_92, li_93, li_94, li_95, li_96, li_97, li_98, li_99, li_100, li_101, li_102, li_103, li_104, li_105, li_106, li_107, li_108, li_109, li_110, li_111, li_112, li_113, li_114, li_115, li_116, li_117, li_118, li_119, li_120, li_121, li_122, li_123, li_124, li_125, li_126, li_127, li_128, li_129, li_130, li_134, li_160, li_197, li_229, li_255, li_256, li_265, li_300, li_301, li_330, li_353, li_463, li_720, li_729, li_768, li_999, li_2610, li_2807, li_2867, li_2916, li_4096, li_9999, li_10000, li_30643, li_65535, li_99999, li_1000000, gi_si, gi_sl, gi_sr, gi_ci, gi_cl, gl_si, gl_sl, gl_sr, gl_ci, gl_cl, gr_si, gr_sl, gr_sr, gr_ci, gr_cl, ln_si, ln_sl, ln_sr, ln_ci, ln_cl, ok_si, ok_sl, ok_sr, ok_ci, ok_cl, Option.some.injEq, exists_eq_left', exists_eq_left, forall_eq, forall_eq', true_and, and_true, if_true, if_false, true_imp_iff, false_imp_iff, not_true_eq_false, not_false_eq_true, false_and, and_false, reduceIte, reduceCtorEq, forall_const, Nat.reduceEqDiff, Nat.reduceAdd, Nat.reduceMul, Nat.reduceSub, Nat.reduceLT, Nat.reduceLeDiff, Nat.reduceMod, Nat.reduceDiv, and_self, ne_eq, exists_const, Nat.add_sub_cancel, nI_add, pk_mul, pk_sub, q_rem, q_div, q_eq, q_le, q_lt, q_cl, q_in, q_m1, q_1m, q_neg, sh1n, bitn, q_mod2, q_neq0, bq_t, bq_f, bq_t2, bq_f2, i01, i10, q_tt, q_ff, ups_e, ups_n, fil_i, fil_o, zq_if, zq_0, zq_1, if_pos, if_neg]
      exact h σ nS hRs hTw
    · have ok9 : mok σ t 9 := ⟨q2.1, q1⟩
      simp (disch := first | omega | (simp only [Gp_si, Gp_sl, Gp_ci, Gp_cl]; assumption)) only [li_0, li_1, li_2, li_3, li_4, li_5, li_6, li_7, li_8, li_9, li_10, li_11, li_12, li_13, li_14, li_15, li_16, li_17, li_18, li_19, li_20, li_21, li_22, li_23, li_24, li_25, li_26, li_27, li_28, li_29, li_30, li_32, li_33, li_34, li_35, li_36, li_37, li_38, li_39, li_40, li_41, li_42, li_43, li_44, li_45, li_46, li_47, li_48, li_49, li_50, li_51, li_52, li_53, li_54, li_55, li_56, li_57, li_58, li_59, li_60, li_61, li_62, li_63, li_64, li_65, li_66, li_67, li_68, li_69, li_70, li_71, li_72, li_73, li_74, li_75, li_76, li_77, li_78, li_79, li_80, li_81, li_82, li_83, li_84, li_85, li_86, li_87, li_88, li_89, li_90, li_91, li_92, li_93, li_94, li_95, li_96, li_97, li_98, li_99, li_100, li_101, li_102, li_103, li_104, li_105, li_106, li_107, li_108, li_109, li_110, li_111, li_112, li_113, li_114, li_115, li_116, li_117, li_118, li_119, li_120, li_121, li_122, li_123, li_124, li_125, li_126, li_127, li_128, li_129, li_130, li_134, li_160, li_197, li_229, li_255, li_256, li_265, li_300, li_301, li_330, li_353, li_463, li_720, li_729, li_768, li_999, li_2610, li_2807, li_2867, li_2916, li_4096, li_9999, li_10000, li_30643, li_65535, li_99999, li_1000000, gi_si, gi_sl, gi_sr, gi_ci, gi_cl, gl_si, gl_sl, gl_sr, gl_ci, gl_cl, gr_si, gr_sl, gr_sr, gr_ci, gr_cl, ln_si, ln_sl, ln_sr, ln_ci, ln_cl, ok_si, ok_sl, ok_sr, ok_ci, ok_cl, Option.some.injEq, exists_eq_left', exists_eq_left, forall_eq, forall_eq', true_and, and_true, if_true, if_false, true_imp_iff, false_imp_iff, not_true_eq_false, not_false_eq_true, false_and, and_false, reduceIte, reduceCtorEq, forall_const, Nat.reduceEqDiff, Nat.reduceAdd, Nat.reduceMul, Nat.reduceSub, Nat.reduceLT, Nat.reduceLeDiff, Nat.reduceMod, Nat.reduceDiv, and_self, ne_eq, exists_const, Nat.add_sub_cancel, nI_add, pk_mul, pk_sub, q_rem, q_div, q_eq, q_le, q_lt, q_cl, q_in, q_m1, q_1m, q_neg, sh1n, bitn, q_mod2, q_neq0, bq_t, bq_f, bq_t2, bq_f2, i01, i10, q_tt, q_ff, ups_e, ups_n, fil_i, fil_o, zq_if, zq_0, zq_1, if_pos, if_neg, ok9, q6]
      refine ⟨by omega, by omega, ?_⟩
      refine p_newMoment2 (fun τ nT smT hMT => ?_)
      have smr2 : ∀ a, a < t + 15 + 4 * i → Rw σ τ a := fun a ha => smT a (by omega) (by omega)
      have r14 := smr2 (t + 14) (by omega)
      have ok15 : mok τ (t + 14) 15 := rw_ok r14 (by omega) q8
      have ln15 : mln τ (t + 14) = 30 := r14.2.1.trans q8b
      simp (disch := first | omega | (simp only [Gp_si, Gp_sl, Gp_ci, Gp_cl]; assumption)) only [li_0, li_1, li_2, li_3, li_4, li_5, li_6, li_7, li_8, li_9, li_10, li_11, li_12, li_13, li_14, li_15, li_16, li_17, li_18, li_19, li_20, li_21, li_22, li_23, li_24, li_25, li_26, li_27, li_28, li_29, li_30, li_32, li_33, li_34, li_35, li_36, li_37, li_38, li_39, li_40, li_41, li_42, li_43, li_44, li_45, li_46, li_47, li_48, li_49, li_50, li_51, li_52, li_53, li_54, li_55, li_56, li_57, li_58, li_59, li_60, li_61, li_62, li_63, li_64, li_65, li_66, li_67, li_68, li_69, li_70, li_71, li_72, li_73, li_74, li_75, li_76, li_77, li_78, li_79, li_80, li_81, li_82, li_83, li_84, li_85, li_86, li_87, li_88, li_89, li_90, li_91, li_92, li_93, li_94, li_95, li_96, li_97, li_98, li_99, li_100, li_101, li_102, li_103, li_104, li_105, li_106, li_107, li_108, li_109, li_110, li_111, li_112, li_113, li_114, li_115, li_116, li_117, li_118, li_119, li_120, li_121, li_122, li_123, li_124, li_125, li_126, li_127, li_128, li_129, li_130, li_134, li_160, li_197, li_229, li_255, li_256, li_265, li_300, li_301, li_330, li_353, li_463, li_720, li_729, li_768, li_999, li_2610, li_2807, li_2867, li_2916, li_4096, li_9999, li_10000, li_30643, li_65535, li_99999, li_1000000, gi_si, gi_sl, gi_sr, gi_ci, gi_cl, gl_si, gl_sl, gl_sr, gl_ci, gl_cl, gr_si, gr_sl, gr_sr, gr_ci, gr_cl, ln_si, ln_sl, ln_sr, ln_ci, ln_cl, ok_si, ok_sl, ok_sr, ok_ci, ok_cl, Option.some.injEq, exists_eq_left', exists_eq_left, forall_eq, forall_eq', true_and, and_true, if_true, if_false, true_imp_iff, false_imp_iff, not_true_eq_false, not_false_eq_true, false_and, and_false, reduceIte, reduceCtorEq, forall_const, Nat.reduceEqDiff, Nat.reduceAdd, Nat.reduceMul, Nat.reduceSub, Nat.reduceLT, Nat.reduceLeDiff, Nat.reduceMod, Nat.reduceDiv, and_self, ne_eq, exists_const, Nat.add_sub_cancel, nI_add, pk_mul, pk_sub, q_rem, q_div, q_eq, q_le, q_lt, q_cl, q_in, q_m1, q_1m, q_neg, sh1n, bitn, q_mod2, q_neq0, bq_t, bq_f, bq_t2, bq_f2, i01, i10, q_tt, q_ff, ups_e, ups_n, fil_i, fil_o, zq_if, zq_0, zq_1, if_pos, if_neg, ok15, ln15]
      refine hK _ _ _ (by omega) ⟨by omega, by omega, by show mnn τ = _; omega, fun a ha => Rw_tr (hRs a ha) (Rw_tr (smr2 a (by omega)) (Rw_sr (by omega))), ?_⟩
      have kk : ∀ a, a < t + 15 + 4 * i → a ≠ t + 14 → Rw σ (msr τ (t + 14) i (some (mnn σ))) a := fun a ha hne => Rw_tr (smr2 a ha) (Rw_sr hne)
      have r0 := kk t (by omega) (by omega)
      have hle : mnn σ ≤ mnn (msr τ (t + 14) i (some (mnn σ))) := by
        show mnn σ ≤ mnn τ
        omega
      rw [nS] at hMT
      refine ⟨r0.1.trans q1, ⟨by show t < mnn τ; omega, r0.2.1.trans q2.2⟩, fun q => ⟨(r0.2.2 q).1.trans (q3 q).1, (r0.2.2 q).2.1.trans (q3 q).2⟩, fun p hp => ?_, (r0.2.2 14).2.2.trans q5, (r0.2.2 15).2.2.trans q6, MomJ_rw q7 hle (fun a ha hb => kk a (by omega) (by omega)), ⟨ok15, ln15⟩, fun p hp => ?_⟩
      · obtain ⟨f1, f2, f3, f4, f5⟩ := q4 p hp
        have ri := kk (t + 1 + p) (by omega) (by omega)
        exact ⟨by show _ < mnn τ; omega, ri.1.trans f2, ri.2.1.trans f3, fun q => ⟨(ri.2.2 q).1.trans (f4 q).1, (ri.2.2 q).2.1.trans (f4 q).2⟩, (r0.2.2 _).2.2.trans f5⟩
      · by_cases cp : p = i
        · subst cp
          refine ⟨by rw [gr_sr, if_pos ⟨rfl, rfl⟩, nS], ?_⟩
          exact MomJ_rw hMT (Nat.le_refl _) (fun a ha hb => Rw_sr (by omega))
        · obtain ⟨f1, f2⟩ := q9 p (by omega)
          refine ⟨?_, MomJ_rw f2 hle (fun a ha hb => kk a (by omega) (by omega))⟩
          rw [gr_sr, if_neg (fun x => cp x.2)]
          exact (r14.2.2 p).2.2.trans f1
  · obtain ⟨f1, f2, f3, f4, f5⟩ := q4 4 (by omega)
    have ok9 : mok ρ t 9 := ⟨q2.1, q1⟩
    have g5 : mgr ρ t 5 = some (t + 5) := f5
    have ok5 : mok ρ (t + 5) 12 := ⟨f1, f2⟩
    have ln5 : mln ρ (t + 5) = 8 := f3
    simp (disch := first | omega | (simp only [Gp_si, Gp_sl, Gp_ci, Gp_cl]; assumption)) only [li_0, li_1, li_2, li_3, li_4, li_5, li_6, li_7, li_8, li_9, li_10, li_11, li_12, li_13, li_14, li_15, li_16, li_17, li_18, li_19, li_20, li_21, li_22, li_23, li_24, li_25, li_26, li_27, li_28, li_29, li_30, li_32, li_33, li_34, li_35, li_36, li_37, li_38, li_39, li_40, li_41, li_42, li_43, li_44, li_45, li_46, li_47, li_48, li_49, li_50, li_51, li_52, li_53, li_54, li_55, li_56, li_57, li_58, li_59, li_60, li_61, li_62, li_63, li_64, li_65, li_66, li_67, li_68, li_69, li_70, li_71, li_72, li_73, li_74, li_75, li_76, li_77, li_78, li_79, li_80, li_81, li_82, li_83, li_84, li_85, li_86, li_87, li_88, li_89, li_90, li_91, li_92, li_93, li_94, li_95, li_96, li_97, li_98, li_99, li_100, li_101, li_102, li_103, li_104, li_105, li_106, li_107, li_108, li_109, li_110, li_111, li_112, li_113, li_114, li_115, li_116, li_117, li_118, li_119, li_120, li_121, li_122, li_123, li_124, li_125, li_126, li_127, li_128, li_129, li_130, li_134, li_160, li_197, li_229, li_255, li_256, li_265, li_300, li_301, li_330, li_353, li_463, li_720, li_729, li_768, li_999, li_2610, li_2807, li_2867, li_2916, li_4096, li_9999, li_10000, li_30643, li_65535, li_99999, li_1000000, gi_si, gi_sl, gi_sr, gi_ci, gi_cl, gl_si, gl_sl, gl_sr, gl_ci, gl_cl, gr_si, gr_sl, gr_sr, gr_ci, gr_cl, ln_si, ln_sl, ln_sr, ln_ci, ln_cl, ok_si, ok_sl, ok_sr, ok_ci, ok_cl, Option.some.injEq, exists_eq_left', exists_eq_left, forall_eq, forall_eq', true_and, and_true, if_true, if_false, true_imp_iff, false_imp_iff, not_true_eq_false, not_false_eq_true, false_and, and_false, reduceIte, reduceCtorEq, forall_const, Nat.reduceEqDiff, Nat.reduceAdd, Nat.reduceMul, Nat.reduceSub, Nat.reduceLT, Nat.reduceLeDiff, Nat.reduceMod, Nat.reduceDiv, and_self, ne_eq, exists_const, Nat.add_sub_cancel, nI_add, pk_mul, pk_sub, q_rem, q_div, q_eq, q_le, q_lt, q_cl, q_in, q_m1, q_1m, q_neg, sh1n, bitn, q_mod2, q_neq0, bq_t, bq_f, bq_t2, bq_f2, i01, i10, q_tt, q_ff, ups_e, ups_n, fil_i, fil_o, zq_if, zq_0, zq_1, if_pos, if_neg, ok9, g5, ok5, ln5]
    refine hK _ _ _ (by omega) ⟨rfl, rfl, nR, fun a ha => Rw_tr (hRr a ha) (Rw_si (by omega)), ?_⟩
    have kk : ∀ a, a ≠ t + 5 → Rw ρ (msi ρ (t + 5) i (nI 255)) a := fun a ha => Rw_si ha
    refine ⟨q1, q2, fun q => ⟨((kk t (by omega)).2.2 q).1.trans (q3 q).1, (q3 q).2⟩, fun p hp => ?_, q5, q6, MomJ_rw q7 (Nat.le_refl _) (fun a ha hb => kk a (by omega)), q8, fun p hp => absurd hp (by omega)⟩
    obtain ⟨e1, e2, e3, e4, e5⟩ := q4 p hp
    refine ⟨e1, e2, e3, fun q => ⟨?_, (e4 q).2⟩, e5⟩
    by_cases cp : p = 4
    · subst cp
      show mgi _ (t + 5) q = _
      rw [gi_si]
      by_cases cq : q = i
      · rw [if_pos ⟨rfl, cq⟩, if_pos (by omega)]
        rfl
      · rw [if_neg (fun x => cq x.2)]
        refine (e4 q).1.trans ?_
        by_cases cq2 : q < i
        · rw [if_pos (by omega), if_pos (by omega)]
        · rw [if_neg (by omega), if_neg (by omega)]
    · rw [if_neg (by omega)]
      refine ((kk (t + 1 + p) (by omega)).2.2 q).1.trans ((e4 q).1.trans ?_)
      rw [if_neg (by omega)]
end NT
