/-! the reference made; the relation at the start -/
def mkk (i : Nat) : Nat := if i = 6 then 13 else if i = 7 then 14 else 12
def mll (i : Nat) : Nat := [2867, 2867, 2916, 300, 160, 10, 330, 330, 67, 256, 256, 256, 4096].getD i 0
def mss (i : Nat) : Nat := [0, 1, 2, 3, 15, 20, 22, 23, 26, 27, 28, 29, 30].getD i 0
theorem mss_d : ∀ j, j < 13 → ∀ i, i < j → mss i ≠ mss j := by decide
theorem mdl_t : ∀ i, i < 13 → kdF (315 + i) = mkk i ∧ lnF (315 + i) = mll i := by decide +kernel
theorem rf {ν : Me} (h : All ν 1 314) {o q v : Nat} (h1 : 1 ≤ o) (h2 : o < 314) (hm : (q, v) ∈ rsF o) : mgr ν o q = some v := (h o h1 h2).2.2.2.2 (q, v) hm
theorem igi {ν : Me} (h : All ν 1 314) {o : Nat} (q : Nat) (h1 : 1 ≤ o) (h2 : o < 314) (k1 : kdF o ≠ 13) (k2 : kdF o ≠ 15) : mgi ν o q = giF o q := (h o h1 h2).2.2.2.1 k1 k2 q
theorem gp_start {ν : Me} {g : Nat → Int32} (hz : Z0 ν 9) (hA : All ν 1 314) (hs : Sh ν 314 11 mkk mll mss 13 g) : Gp ν := by
  refine ⟨by have := hs.1; omega, fun o ho => ?_, ⟨hz.2.2 0 (by omega), hz.2.2 1 (by omega), hz.2.2 2 (by omega), hz.2.2 3 (by omega), hz.2.2 4 (by omega), hz.2.2 5 (by omega), hz.2.2 6 (by omega), hz.2.2 7 (by omega), hz.2.2 8 (by omega), rf hA (by omega) (by omega) (q := 1) (v := 2) (by decide), rf hA (by omega) (by omega) (q := 2) (v := 3) (by decide), rf hA (by omega) (by omega) (q := 3) (v := 4) (by decide), rf hA (by omega) (by omega) (q := 4) (v := 5) (by decide), rf hA (by omega) (by omega) (q := 5) (v := 6) (by decide), rf hA (by omega) (by omega) (q := 9) (v := 7) (by decide), rf hA (by omega) (by omega) (q := 10) (v := 8) (by decide), rf hA (by omega) (by omega) (q := 12) (v := 9) (by decide), rf hA (by omega) (by omega) (q := 13) (v := 10) (by decide), rf hA (by omega) (by omega) (q := 14) (v := 11) (by decide), rf hA (by omega) (by omega) (q := 15) (v := 15) (by decide), rf hA (by omega) (by omega) (q := 1) (v := 137) (by decide), rf hA (by omega) (by omega) (q := 2) (v := 138) (by decide), rf hA (by omega) (by omega) (q := 3) (v := 139) (by decide), rf hA (by omega) (by omega) (q := 4) (v := 140) (by decide), rf hA (by omega) (by omega) (q := 5) (v := 141) (by decide), rf hA (by omega) (by omega) (q := 9) (v := 142) (by decide), rf hA (by omega) (by omega) (q := 10) (v := 143) (by decide), rf hA (by omega) (by omega) (q := 12) (v := 144) (by decide), rf hA (by omega) (by omega) (q := 13) (v := 145) (by decide), rf hA (by omega) (by omega) (q := 14) (v := 146) (by decide), rf hA (by omega) (by omega) (q := 15) (v := 150) (by decide), rf hA (by omega) (by omega) (q := 0) (v := 272) (by decide), rf hA (by omega) (by omega) (q := 0) (v := 291) (by decide), rf hA (by omega) (by omega) (q := 0) (v := 292) (by decide), rf hA (by omega) (by omega) (q := 1) (v := 293) (by decide), rf hA (by omega) (by omega) (q := 2) (v := 294) (by decide), rf hA (by omega) (by omega) (q := 0) (v := 1) (by decide), rf hA (by omega) (by omega) (q := 1) (v := 273) (by decide), rf hA (by omega) (by omega) (q := 2) (v := 300) (by decide), rf hA (by omega) (by omega) (q := 0) (v := 1) (by decide), rf hA (by omega) (by omega) (q := 1) (v := 299) (by decide), rf hA (by omega) (by omega) (q := 2) (v := 302) (by decide), rf hA (by omega) (by omega) (q := 0) (v := 1) (by decide), rf hA (by omega) (by omega) (q := 1) (v := 299) (by decide), rf hA (by omega) (by omega) (q := 2) (v := 307) (by decide), rf hA (by omega) (by omega) (q := 3) (v := 308) (by decide), rf hA (by omega) (by omega) (q := 4) (v := 309) (by decide), rf hA (by omega) (by omega) (q := 0) (v := 1) (by decide), rf hA (by omega) (by omega) (q := 1) (v := 306) (by decide), rf hA (by omega) (by omega) (q := 2) (v := 311) (by decide), rf hA (by omega) (by omega) (q := 3) (v := 312) (by decide), (hs.2.2.2 0 (by omega)).2, (hs.2.2.2 1 (by omega)).2, (hs.2.2.2 2 (by omega)).2, (hs.2.2.2 3 (by omega)).2, (hs.2.2.2 4 (by omega)).2, (hs.2.2.2 5 (by omega)).2, (hs.2.2.2 6 (by omega)).2, (hs.2.2.2 7 (by omega)).2, (hs.2.2.2 8 (by omega)).2, (hs.2.2.2 9 (by omega)).2, (hs.2.2.2 10 (by omega)).2, (hs.2.2.2 11 (by omega)).2, (hs.2.2.2 12 (by omega)).2⟩, fun i hi => ⟨?_, ?_⟩, fun m hm hk => ?_, fun i hi => ?_, fun m hm hk => ?_⟩
  · by_cases c0 : o = 0
    · subst c0
      exact ⟨hz.1.2.1.trans (by decide), hz.1.2.2.trans (by decide)⟩
    · by_cases c1 : o < 314
      · exact ⟨(hA o (by omega) c1).2.1, (hA o (by omega) c1).2.2.1⟩
      · by_cases c2 : o = 314
        · subst c2
          exact ⟨hs.2.1.1.trans (by decide), hs.2.1.2.trans (by decide)⟩
        · obtain ⟨i, hi, rfl⟩ : ∃ i, i < 13 ∧ o = 315 + i := ⟨o - 315, by omega, by omega⟩
          have f := (hs.2.2.2 i hi).1
          rw [show 314 + 1 + i = 315 + i by omega] at f
          exact ⟨f.2.1.trans (mdl_t i hi).1.symm, f.2.2.1.trans (mdl_t i hi).2.symm⟩
  · refine rf hA (by omega) (by omega) ?_
    rw [rs_15]
    exact List.mem_map.2 ⟨i, List.mem_range.2 hi, by rw [show 15 + 1 + 4 * i = 16 + 4 * i by omega]⟩
  · refine rf hA (by omega) (by omega) ?_
    rw [rs_150]
    exact List.mem_map.2 ⟨i, List.mem_range.2 hi, by rw [show 150 + 1 + 4 * i = 151 + 4 * i by omega]⟩
  · have hm2 : 1 ≤ m ∧ m < 314 := (show ∀ m, m < 328 → kdF m = 3 → 1 ≤ m ∧ m < 314 by decide +kernel) m hm hk
    have e : rsF m = [(5, m + 1), (6, m + 2), (7, m + 3)] := by
      unfold rsF
      rw [if_pos hk]
    refine ⟨rf hA hm2.1 hm2.2 (by rw [e]; simp), rf hA hm2.1 hm2.2 (by rw [e]; simp), rf hA hm2.1 hm2.2 (by rw [e]; simp)⟩
  · exact rf hA (by omega) (by omega) ((show ∀ i, i < 4 → (i, 274 + 4 * i) ∈ rsF 273 by decide +kernel) i hi)
  · have hm2 : 1 ≤ m ∧ m < 314 := (show ∀ m, m < 328 → kdF m = 7 → 1 ≤ m ∧ m < 314 by decide +kernel) m hm hk
    have e : rsF m = [(0, m + 1), (1, m + 2), (7, m + 3)] := by
      unfold rsF
      rw [if_neg (show ¬ kdF m = 3 by rw [hk]; decide), if_pos hk]
    refine ⟨rf hA hm2.1 hm2.2 (by rw [e]; simp), rf hA hm2.1 hm2.2 (by rw [e]; simp), rf hA hm2.1 hm2.2 (by rw [e]; simp)⟩
/-- the row at the start -/
def s00 (k : Nat) : Nat := if k = 9 then 229 else if 67 ≤ k ∧ k < 75 then 255 else 0
theorem s00_0 {k : Nat} (h1 : k ≠ 9) (h2 : k < 67 ∨ 75 ≤ k) : s00 k = 0 := by
  unfold s00
  rw [if_neg h1, if_neg (by omega)]
theorem s00_h {p : Nat} (h : p < 8) : s00 (67 + p) = 255 := by
  unfold s00
  rw [if_neg (by omega), if_pos (by omega)]
theorem wf_00 : WF s00 := by
  have z : ∀ k, k ≠ 9 → (k < 67 ∨ 75 ≤ k) → s00 k = 0 := fun k h1 h2 => s00_0 h1 h2
  refine ⟨fun k => ?_, ?_, fun p hp => ?_, fun p hp => by rw [s00_h hp]; omega, fun i hi => ?_, fun i hi => ?_, fun i hi => ?_, fun i hi => ?_⟩
  · unfold s00
    split
    · omega
    · split <;> omega
  · rw [z 0 (by omega) (by omega), z 1 (by omega) (by omega), z 2 (by omega) (by omega), z 3 (by omega) (by omega), z 4 (by omega) (by omega), z 5 (by omega) (by omega), z 6 (by omega) (by omega), z 7 (by omega) (by omega), z 8 (by omega) (by omega), z 10 (by omega) (by omega), show s00 9 = 229 from rfl]
    omega
  · rw [z 0 (by omega) (by omega)] at hp
    omega
  · rw [z 4 (by omega) (by omega)] at hi
    omega
  · rw [z 5 (by omega) (by omega)] at hi
    omega
  · rw [z 10 (by omega) (by omega)] at hi
    omega
  · rw [z 3 (by omega) (by omega)] at hi
    omega
theorem town_00 {ν : Me} (hA : All ν 1 314) {t : Nat} (ht : t = 1 ∨ t = 136) : TownR ν t s00 := by
  have z : ∀ k, k ≠ 9 → (k < 67 ∨ 75 ≤ k) → s00 k = 0 := fun k h1 h2 => s00_0 h1 h2
  have kd : kdF t = 9 ∧ kdF (t + 2) = 12 ∧ kdF (t + 5) = 12 ∧ kdF (t + 10) = 3 ∧ kdF (t + 12) = 12 := by
    rcases ht with e | e <;> subst e <;> decide
  have gt : ∀ q, mgi ν t q = if q = 7 then -1 else 0 := fun q => (igi hA q (by omega) (by omega) (by rw [kd.1]; decide) (by rw [kd.1]; decide)).trans (gi_t kd.1 ht q)
  have gm : ∀ q, mgi ν (t + 10) q = if q = 4 then 229 else 0 := fun q => (igi hA q (by omega) (by omega) (by rw [kd.2.2.2.1]; decide) (by rw [kd.2.2.2.1]; decide)).trans (gi_m kd.2.2.2.1 q)
  have gh : ∀ q, mgi ν (t + 5) q = if q < 8 then 255 else 0 := fun q => (igi hA q (by omega) (by omega) (by rw [kd.2.2.1]; decide) (by rw [kd.2.2.1]; decide)).trans (gi_h kd.2.2.1 (by omega) q)
  have g2 : ∀ q, mgi ν (t + 2) q = 0 := fun q => (igi hA q (by omega) (by omega) (by rw [kd.2.1]; decide) (by rw [kd.2.1]; decide)).trans (gi_0 (by rw [kd.2.1]; decide) (by omega) (by omega) (by omega) q).symm
  have gl : ∀ q, mgi ν (t + 12) q = 0 := fun q => (igi hA q (by omega) (by omega) (by rw [kd.2.2.2.2]; decide) (by rw [kd.2.2.2.2]; decide)).trans (gi_0 (by rw [kd.2.2.2.2]; decide) (by omega) (by omega) (by omega) q).symm
  refine ⟨⟨?_, ?_, ?_, ?_, ?_, ?_, fun p hp => ?_, fun r hr => ?_, fun p hp => ?_, fun i hi => ?_, fun i hi => ?_⟩, ⟨?_, ?_, ?_, ?_, ?_, ?_, fun p hp => ?_, fun p hp => ?_, fun i hi => ?_⟩, 0, by omega, ?_, fun i hi => ?_⟩
  · rw [gt, if_neg (by omega), z 0 (by omega) (by omega)]; rfl
  · rw [gt, if_neg (by omega), z 1 (by omega) (by omega)]; rfl
  · rw [gt, if_pos rfl, z 2 (by omega) (by omega)]; decide
  · rw [gt, if_neg (by omega), z 3 (by omega) (by omega)]; rfl
  · rw [gt, if_neg (by omega), z 4 (by omega) (by omega)]; rfl
  · rw [gt, if_neg (by omega), z 5 (by omega) (by omega)]; rfl
  · rw [z 0 (by omega) (by omega)] at hp
    omega
  · rw [g2, z 0 (by omega) (by omega)]; rfl
  · rw [gh, if_pos hp, s00_h hp]; rfl
  · rw [z 4 (by omega) (by omega)] at hi
    omega
  · rw [z 5 (by omega) (by omega)] at hi
    omega
  · rw [gm, if_neg (by omega), z 7 (by omega) (by omega)]; rfl
  · rw [gm, if_neg (by omega), z 0 (by omega) (by omega)]; rfl
  · rw [gm, if_neg (by omega), z 8 (by omega) (by omega)]; rfl
  · rw [gm, if_neg (by omega), z 6 (by omega) (by omega)]; rfl
  · rw [gm, if_pos rfl]; rfl
  · rw [gm, if_neg (by omega), z 10 (by omega) (by omega)]; rfl
  · rw [z 0 (by omega) (by omega)] at hp
    omega
  · show mgi ν (t + 12) p = _
    rw [gl, z 0 (by omega) (by omega), if_neg (by omega)]; rfl
  · rw [z 10 (by omega) (by omega)] at hi
    omega
  · rw [gt, if_neg (by omega)]; rfl
  · rw [z 3 (by omega) (by omega)] at hi
    omega
theorem row_00 {ν : Me} {o : Nat} (h : ∀ q, mgi ν o q = if q = 9 then 229 else if q = 2 then -1 else if 67 ≤ q ∧ q < 75 then 255 else 0) : RowA ν o s00 := by
  refine ⟨fun k _ h2 => ?_, ?_⟩
  · rw [h k]
    unfold s00
    by_cases c9 : k = 9
    · rw [if_pos c9, if_pos c9]; rfl
    · rw [if_neg c9, if_neg c9, if_neg h2]
      by_cases c : 67 ≤ k ∧ k < 75
      · rw [if_pos c, if_pos c]; rfl
      · rw [if_neg c, if_neg c]; rfl
  · rw [h 2, if_neg (by omega), if_pos rfl, s00_0 (by omega) (by omega)]
    decide
section C6
variable {μ : Me} {Q : Me → Prop}
theorem p_model (hm : mnn μ = 314) (hz : Z0 μ 9) (hA : All μ 1 314) (h : ∀ ν, Top ν 0 → Q ν) : S_X11_init 314 (mnw μ 11 0) Q := by
  have z0 := Sh_0 μ 11 mkk mll mss
  rw [hm] at z0
  have r0 : ∀ a, a < 314 → Rw μ (mnw μ 11 0) a := fun a ha => Rw_nw (by omega)
  unfold S_X11_init
  rintro _ rfl
  refine ⟨Sh_ok z0, ?_⟩
  intro μ5 e5
  obtain ⟨z1, r1⟩ := Sh_s z0 e5 rfl rfl rfl (mss_d 0 (by omega))
  intro μ6 e6 μ9 e9
  subst e6
  obtain ⟨z2, r2⟩ := Sh_s z1 e9 rfl rfl rfl (mss_d 1 (by omega))
  intro μ10 e10 μ13 e13
  subst e10
  obtain ⟨z3, r3⟩ := Sh_s z2 e13 rfl rfl rfl (mss_d 2 (by omega))
  intro μ14 e14 μ17 e17
  subst e14
  obtain ⟨z4, r4⟩ := Sh_s z3 e17 rfl rfl rfl (mss_d 3 (by omega))
  intro μ18 e18 μ19 e19
  obtain ⟨y1, q1⟩ := Sh_i z4 e18
  obtain ⟨y2, q2⟩ := Sh_i y1 e19
  intro μ20 e20 μ23 e23
  subst e20
  obtain ⟨z5, r5⟩ := Sh_s y2 e23 rfl rfl rfl (mss_d 4 (by omega))
  intro μ24 e24 μ27 e27
  subst e24
  obtain ⟨z6, r6⟩ := Sh_s z5 e27 rfl rfl rfl (mss_d 5 (by omega))
  intro μ28 e28 μ31 e31
  subst e28
  obtain ⟨z7, r7⟩ := Sh_s z6 e31 rfl rfl rfl (mss_d 6 (by omega))
  intro μ32 e32 μ35 e35
  subst e32
  obtain ⟨z8, r8⟩ := Sh_s z7 e35 rfl rfl rfl (mss_d 7 (by omega))
  intro μ36 e36
  obtain ⟨y3, q3⟩ := Sh_i z8 e36
  intro μ37 e37 μ40 e40
  subst e37
  obtain ⟨z9, r9⟩ := Sh_s y3 e40 rfl rfl rfl (mss_d 8 (by omega))
  intro μ41 e41 μ44 e44
  subst e41
  obtain ⟨z10, r10⟩ := Sh_s z9 e44 rfl rfl rfl (mss_d 9 (by omega))
  intro μ45 e45 μ48 e48
  subst e45
  obtain ⟨z11, r11⟩ := Sh_s z10 e48 rfl rfl rfl (mss_d 10 (by omega))
  intro μ49 e49 μ52 e52
  subst e49
  obtain ⟨z12, r12⟩ := Sh_s z11 e52 rfl rfl rfl (mss_d 11 (by omega))
  intro μ53 e53 μ56 e56
  subst e53
  obtain ⟨z13, r13⟩ := Sh_s z12 e56 rfl rfl rfl (mss_d 12 (by omega))
  have rr : ∀ a, a < 314 → Rw μ μ56 a := fun a ha => Rw_tr (r0 a ha) (Rw_tr (r1 a ha) (Rw_tr (r2 a ha) (Rw_tr (r3 a ha) (Rw_tr (r4 a ha) (Rw_tr (q1 a ha) (Rw_tr (q2 a ha) (Rw_tr (r5 a ha) (Rw_tr (r6 a ha) (Rw_tr (r7 a ha) (Rw_tr (r8 a ha) (Rw_tr (q3 a ha) (Rw_tr (r9 a ha) (Rw_tr (r10 a ha) (Rw_tr (r11 a ha) (Rw_tr (r12 a ha) (r13 a ha))))))))))))))))
  have hz2 : Z0 μ56 9 := Z0_rw hz (by have := z13.1; omega) (rr 0 (by omega))
  have hA2 : All μ56 1 314 := All_rw hA (by have := z13.1; omega) (fun a _ h2 => rr a h2)
  have hG := gp_start hz2 hA2 z13
  have hi := z13.2.2.1
  have f0 := (z13.2.2.2 0 (by omega)).1.2.2.2
  clear e5 e9 e13 e17 e18 e19 e23 e27 e31 e35 e36 e40 e44 e48 e52 e56 z0 z1 z2 z3 z4 z5 z6 z7 z8 z9 z10 z11 z12 y1 y2 y3 r0 r1 r2 r3 r4 r5 r6 r7 r8 r9 r10 r11 r12 r13 q1 q2 q3 rr hz hA hm
  refine ⟨315, by simp only [gp_r hG], gp_ok hG (by decide) (by decide), by rw [gp_ln hG (n := 2867) (by decide) (by decide)]; exact in_nI (k := 9) (by omega) (by decide), ?_⟩
  rintro _ rfl
  refine ⟨315, by simp only [gr_si, gp_r hG], gp_ok (show Gp (msi μ56 315 (9 : Int32).toNatClampNeg 229) from hG) (by decide) (by decide), by rw [ln_si, gp_ln hG (n := 2867) (by decide) (by decide)]; exact in_nI (k := 2) (by omega) (by decide), ?_⟩
  rintro _ rfl
  rw [show (9 : Int32).toNatClampNeg = 9 by decide, show (2 : Int32).toNatClampNeg = 2 by decide]
  refine loopKK (Bd := fun i k j ν K => B_X11_init_153 314 i k j ν K Q) (fun i k j ν => k = 13 ∧ j = 14711 ∧ mof μ56 ν 315 ∧ ∀ q, mgi ν 315 q = if q = 9 then 229 else if q = 2 then -1 else if 67 ≤ q ∧ q < 67 + i then 255 else 0) 8 ⟨rfl, rfl, mof_ts (mof_ts (mof_rf _ _) _ _) _ _, fun q => ?_⟩ ?_
  · rw [gi_si]
    by_cases c2 : q = 2
    · rw [if_pos ⟨rfl, c2⟩, if_neg (by omega), if_pos c2]
    · rw [if_neg (fun x => c2 x.2), gi_si]
      by_cases c9 : q = 9
      · rw [if_pos ⟨rfl, c9⟩, if_pos c9]
      · rw [if_neg (fun x => c9 x.2), if_neg c9, if_neg c2, if_neg (by omega)]
        exact (f0 q).1
  rintro i k j ν hi8 ⟨rfl, rfl, hm, hq⟩ K hK
  have hH := Gp_of (o := 315) hG hm (by decide)
  unfold B_X11_init_153
  by_cases hin : i = 8
  · subst hin
    simp (disch := first | omega | (simp only [Gp_si, Gp_sl, Gp_ci, Gp_cl]; assumption)) only [li_0, li_1, li_2, li_3, li_4, li_5, li_6, li_7, li_8, li_9, li_10, li_11, li_12, li_13, li_14, li_15, li_16, li_17, li_18, li_19, li_20, li_21, li_22, li_23, li_24, li_25, li_26, li_27, li_28, li_29, li_30, li_32, li_33, li_34, li_35, li_36, li_37, li_38, li_39, li_40, li_41, li_42, li_43, li_44, li_45, li_46, li_47, li_48, li_49, li_50, li_51, li_52, li_53, li_54, li_55, li_56, li_57, li_58, li_59, li_60, li_61, li_62, li_63, li_64, li_65, li_66, li_67, li_68, li_69, li_70, li_71, li_72, li_73, li_74, li_75, li_76, li_77, li_78, li_79, li_80, li_81, li_82, li_83, li_84, li_85, li_86, li_87, li_88, li_89, li_90, li_91, li_92, li_93, li_94, li_95, li_96, li_97, li_98, li_99, li_100, li_101, li_102, li_103, li_104, li_105, li_106, li_107, li_108, li_109, li_110, li_111, li_112, li_113, li_114, li_115, li_116, li_117, li_118, li_119, li_120, li_121, li_122, li_123, li_124, li_125, li_126, li_127, li_128, li_129, li_130, li_134, li_160, li_197, li_229, li_255, li_256, li_265, li_300, li_301, li_330, li_353, li_463, li_720, li_729, li_768, li_999, li_2610, li_2807, li_2867, li_2916, li_4096, li_9999, li_10000, li_30643, li_65535, li_99999, li_1000000, gi_si, gi_sl, gi_sr, gi_ci, gi_cl, gl_si, gl_sl, gl_sr, gl_ci, gl_cl, gr_si, gr_sl, gr_sr, gr_ci, gr_cl, ln_si, ln_sl, ln_sr, ln_ci, ln_cl, ok_si, ok_sl, ok_sr, ok_ci, ok_cl, gp_k hH, gp_l hH, gp_r hH, gp_m hH, Option.some.injEq, exists_eq_left', exists_eq_left, forall_eq, forall_eq', true_and, and_true, if_true, if_false, true_imp_iff, false_imp_iff, not_true_eq_false, not_false_eq_true, false_and, and_false, reduceIte, reduceCtorEq, forall_const, Nat.reduceEqDiff, Nat.reduceAdd, Nat.reduceMul, Nat.reduceSub, Nat.reduceLT, Nat.reduceLeDiff, Nat.reduceMod, Nat.reduceDiv, and_self, ne_eq, exists_const, Nat.add_sub_cancel, nI_add, pk_mul, pk_sub, q_rem, q_div, q_eq, q_le, q_lt, q_cl, q_in, q_m1, q_1m, q_neg, sh1n, bitn, q_mod2, q_neq0, bq_t, bq_f, bq_t2, bq_f2, i01, i10, q_tt, q_ff, ups_e, ups_n, fil_i, fil_o, zq_if, zq_0, zq_1, if_pos, if_neg]
    refine p_copy hH (Or.inl ⟨rfl, rfl⟩) (fun ρ hm2 hc => ?_)
    have hI := Gp_of (o := 316) hH hm2 (by decide)
    have eg : ∀ a q, a ≠ 315 → a ≠ 316 → mgi ρ a q = mgi μ56 a q := fun a q h1 h2 => ((hm2.2.2.2 a h2 q).1).trans (hm.2.2.2 a h1 q).1
    have er : ∀ a q, a ≠ 315 → a ≠ 316 → mgr ρ a q = mgr μ56 a q := fun a q h1 h2 => ((hm2.2.2.2 a h2 q).2.2).trans (hm.2.2.2 a h1 q).2.2
    have hA3 : All ρ 1 314 := All_rw hA2 (by rw [hm2.1, hm.1]; omega) (fun a h1 h2 => ⟨(hm2.2.1 a).trans (hm.2.1 a), (hm2.2.2.1 a).trans (hm.2.2.1 a), fun q => ⟨eg a q (by omega) (by omega), ((hm2.2.2.2 a (by omega) q).2.1).trans (hm.2.2.2 a (by omega) q).2.1, er a q (by omega) (by omega)⟩⟩)
    have w15 : RowA ν 315 s00 := row_00 hq
    have x15 : RowA ρ 315 s00 := RowA_x w15 (fun q => (hm2.2.2.2 315 (by decide) q).1)
    have x16 : RowA ρ 316 s00 := row_cp w15 hc
    have z : ∀ k, k ≠ 9 → (k < 67 ∨ 75 ≤ k) → s00 k = 0 := fun k h1 h2 => s00_0 h1 h2
    have e1 : s00 1 = 0 := rfl
    refine h ρ ⟨s00, s00, fun _ => (0, fun _ _ => 0, fun _ => none), 1, 0, fun _ => 0, ⟨hI, wf_00, town_00 hA3 (Or.inl rfl), fun i hi => absurd hi (by rw [e1]; omega), by omega, ?_, fun r hr => ⟨0, by omega, ?_, fun x => absurd x (by omega)⟩⟩, ⟨hI, x15, wf_00, fun i hi => absurd hi (by rw [e1]; omega)⟩, ⟨fun i hi => absurd hi (by rw [e1]; omega), town_00 hA3 (Or.inr rfl), x16, wf_00, Nat.le_refl _, ⟨by omega, ?_, ?_, fun k hk => absurd hk (by omega)⟩, Or.inl ⟨?_, ?_, ?_⟩, ?_, 313, 1, rf hA3 (by omega) (by omega) (by decide), gp_ok hI (by decide) (by decide), gp_ln hI (by decide) (by decide), by omega, by omega, Or.inl rfl⟩, by omega⟩
    · exact (igi hA3 5 (by omega) (by omega) (by decide) (by decide)).trans (by decide)
    · exact (igi hA3 r (by omega) (by omega) (by decide) (by decide)).trans (gi_0 (by decide) (by decide) (by decide) (by decide) r).symm
    · exact (igi hA3 1 (by omega) (by omega) (by decide) (by decide)).trans (by decide)
    · rw [eg 314 4 (by omega) (by omega), hi 4]; decide
    · rw [eg 0 9 (by omega) (by omega), hz2.2.1 9]; rfl
    · rw [eg 314 5 (by omega) (by omega), hi 5]; decide
    · rw [eg 314 6 (by omega) (by omega), hi 6]; decide
    · rw [eg 314 24 (by omega) (by omega), hi 24]; decide
  · simp (disch := first | omega | (simp only [Gp_si, Gp_sl, Gp_ci, Gp_cl]; assumption)) only [li_0, li_1, li_2, li_3, li_4, li_5, li_6, li_7, li_8, li_9, li_10, li_11, li_12, li_13, li_14, li_15, li_16, li_17, li_18, li_19, li_20, li_21, li_22, li_23, li_24, li_25, li_26, li_27, li_28, li_29, li_30, li_32, li_33, li_34, li_35, li_36, li_37, li_38, li_39, li_40, li_41, li_42, li_43, li_44, li_45, li_46, li_47, li_48, li_49, li_50, li_51, li_52, li_53, li_54, li_55, li_56, li_57, li_58, li_59, li_60, li_61, li_62, li_63, li_64, li_65, li_66, li_67, li_68, li_69, li_70, li_71, li_72, li_73, li_74, li_75, li_76, li_77, li_78, li_79, li_80, li_81, li_82, li_83, li_84, li_85, li_86, li_87, li_88, li_89, li_90, li_91, li_92, li_93, li_94, li_95, li_96, li_97, li_98, li_99, li_100, li_101, li_102, li_103, li_104, li_105, li_106, li_107, li_108, li_109, li_110, li_111, li_112, li_113, li_114, li_115, li_116, li_117, li_118, li_119, li_120, li_121, li_122, li_123, li_124, li_125, li_126, li_127, li_128, li_129, li_130, li_134, li_160, li_197, li_229, li_255, li_256, li_265, li_300, li_301, li_330, li_353, li_463, li_720, li_729, li_768, li_999, li_2610, li_2807, li_2867, li_2916, li_4096, li_9999, li_10000, li_30643, li_65535, li_99999, li_1000000, gi_si, gi_sl, gi_sr, gi_ci, gi_cl, gl_si, gl_sl, gl_sr, gl_ci, gl_cl, gr_si, gr_sl, gr_sr, gr_ci, gr_cl, ln_si, ln_sl, ln_sr, ln_ci, ln_cl, ok_si, ok_sl, ok_sr, ok_ci, ok_cl, gp_k hH, gp_l hH, gp_r hH, gp_m hH, Option.some.injEq, exists_eq_left', exists_eq_left, forall_eq, forall_eq', true_and, and_true, if_true, if_false, true_imp_iff, false_imp_iff, not_true_eq_false, not_false_eq_true, false_and, and_false, reduceIte, reduceCtorEq, forall_const, Nat.reduceEqDiff, Nat.reduceAdd, Nat.reduceMul, Nat.reduceSub, Nat.reduceLT, Nat.reduceLeDiff, Nat.reduceMod, Nat.reduceDiv, and_self, ne_eq, exists_const, Nat.add_sub_cancel, nI_add, pk_mul, pk_sub, q_rem, q_div, q_eq, q_le, q_lt, q_cl, q_in, q_m1, q_1m, q_neg, sh1n, bitn, q_mod2, q_neq0, bq_t, bq_f, bq_t2, bq_f2, i01, i10, q_tt, q_ff, ups_e, ups_n, fil_i, fil_o, zq_if, zq_0, zq_1, if_pos, if_neg]
    refine hK _ _ _ (by omega) ⟨rfl, rfl, mof_ts hm _ _, fun q => ?_⟩
    rw [gi_si]
    by_cases c : q = 67 + i
    · rw [if_pos ⟨rfl, c⟩, if_neg (by omega), if_neg (by omega), if_pos (by omega)]; rfl
    · rw [if_neg (fun x => c x.2), hq q]
      by_cases c9 : q = 9
      · rw [if_pos c9, if_pos c9]
      · rw [if_neg c9, if_neg c9]
        by_cases c2 : q = 2
        · rw [if_pos c2, if_pos c2]
        · rw [if_neg c2, if_neg c2]
          by_cases c3 : 67 ≤ q ∧ q < 67 + i
          · rw [if_pos c3, if_pos (by omega)]
          · rw [if_neg c3, if_neg (by omega)]
end C6
