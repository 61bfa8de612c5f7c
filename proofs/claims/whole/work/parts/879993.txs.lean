/-! texts as both sides hold them when they are read -/
section TY
variable {μ ν : Me}
theorem LwC_y {tx law : Nat} {d : Den} (h : LwC μ tx law d) (e : ∀ a q, tx ≤ a → a < tx + 4 → mgi ν a q = mgi μ a q) : LwC ν tx law d := by
  obtain ⟨f, t, O, A, h1, h2, h3, h4, h5, h6⟩ := h
  exact ⟨f, t, O, A, h1, h2, (e _ _ (by omega) (by omega)).trans h3, (e _ _ (by omega) (by omega)).trans h4, fun k a b => ⟨(e _ _ (by omega) (by omega)).trans (h5 k a b).1, (e _ _ (by omega) (by omega)).trans (h5 k a b).2.1, (h5 k a b).2.2⟩, h6⟩
theorem TxC_y {i : Nat} {T : Tx} (h : TxC μ i T) (e : ∀ a q, 274 + 4 * i ≤ a → a < 278 + 4 * i → mgi ν a q = mgi μ a q) : TxC ν i T := by
  obtain ⟨h1, h2, h3, h4⟩ := h
  refine ⟨fun law hl => ?_, (e _ _ (by omega) (by omega)).trans h2, h3, fun k hk => ?_⟩
  · have h5 := h1 law hl
    cases hd : T.2.2 law with
    | none =>
      rw [hd] at h5
      exact (e _ _ (by omega) (by omega)).trans h5
    | some d =>
      rw [hd] at h5
      exact LwC_y h5 (fun a q x y => e a q (by omega) (by omega))
  · obtain ⟨a1, a2, a3⟩ := h4 k hk
    exact ⟨a1, (e _ _ (by omega) (by omega)).trans a2, fun j x y => ⟨(e _ _ (by omega) (by omega)).trans (a3 j x y).1, (a3 j x y).2⟩⟩
theorem TxM_y {i : Nat} {T : Tx} (h : TxM μ i T) (e : ∀ k, 729 * i ≤ k → k < 729 * i + 729 → mgi ν 317 k = mgi μ 317 k) : TxM ν i T := by
  obtain ⟨h1, h2, h3, h4⟩ := h
  refine ⟨h1, (e _ (by omega) (by omega)).trans h2, fun k hk => ⟨(h3 k hk).1, (e _ (by omega) (by omega)).trans (h3 k hk).2⟩, fun law hl => ?_⟩
  have h5 := h4 law hl
  cases hd : T.2.2 law with
  | none =>
    rw [hd] at h5
    exact h5
  | some d =>
    rw [hd] at h5
    obtain ⟨c, c1, c2, c3, f, t, O, A, g1, g2, g3, g4, g5, g6⟩ := h5
    exact ⟨c, c1, c2, c3, f, t, O, A, g1, g2, (e _ (by omega) (by omega)).trans g3, (e _ (by omega) (by omega)).trans g4, fun k a b => ⟨(e _ (by omega) (by omega)).trans (g5 k a b).1, (e _ (by omega) (by omega)).trans (g5 k a b).2.1, (g5 k a b).2.2⟩, g6⟩
theorem arS_4 (k : Nat) : arS k ≤ 4 := by
  unfold arS
  repeat' split
  all_goals omega
theorem TaM_y {i : Nat} {T : Tx} (h : TaM μ i T) (h1 : T.1 ≤ 24) (e : ∀ k, 729 * i ≤ k → k < 729 * i + 729 → mgi ν 317 k = mgi μ 317 k) : TaM ν i T := fun k hk j x y => by
  have := arS_4 (T.2.1 k 0)
  exact (e _ (by omega) (by omega)).trans (h k hk j x y)
theorem li_get {P : Nat → Nat × Nat → Prop} : ∀ (c : Cd) (p : Nat), LiP P p c → ∀ k, k < c.length → P (p + k) (c.getD k (0, 0))
  | [], _, _, k, hk => absurd hk (Nat.not_lt_zero k)
  | x :: c, p, h, 0, _ => h.1
  | x :: c, p, h, k + 1, hk => by
    have := li_get c (p + 1) h.2 k (Nat.lt_of_succ_lt_succ hk)
    rw [show p + 1 + k = p + (k + 1) by omega] at this
    exact this
theorem li_oa {O A : Nat → Nat} : ∀ (c : Cd) (p : Nat), (∀ k, k < c.length → O (p + k) = (c.getD k (0, 0)).1 ∧ A (p + k) = (c.getD k (0, 0)).2) → LiP (OA O A) p c
  | [], _, _ => trivial
  | x :: c, p, h => ⟨h 0 (Nat.zero_lt_succ _), li_oa c (p + 1) (fun k hk => by
    have := h (k + 1) (Nat.succ_lt_succ hk)
    rw [show p + (k + 1) = p + 1 + k by omega] at this
    exact this)⟩
theorem getD_m : ∀ (c : Cd) (k : Nat), k < c.length → c.getD k (0, 0) ∈ c
  | [], k, hk => absurd hk (Nat.not_lt_zero k)
  | x :: c, 0, _ => List.mem_cons_self ..
  | x :: c, k + 1, hk => List.mem_cons_of_mem _ (getD_m c k (Nat.lt_of_succ_lt_succ hk))
def goC (c : Cd) (f k : Nat) : Nat := (c.getD (k - f) (0, 0)).1
def gaC (c : Cd) (f k : Nat) : Nat := (c.getD (k - f) (0, 0)).2
theorem g_oa (c : Cd) (f : Nat) : LiP (OA (goC c f) (gaC c f)) f c := li_oa c f (fun k _ => by
  unfold goC gaC
  rw [Nat.add_sub_cancel_left]
  exact ⟨rfl, rfl⟩)
theorem g_seg {P : Nat → Nat × Nat → Prop} {C c : Cd} {f : Nat} (h : LiP P 0 C) (hs : Sb C f c) : f + c.length ≤ C.length ∧ ∀ k, f ≤ k → k < f + c.length → P k (goC c f k, gaC c f k) ∧ (goC c f k, gaC c f k) ∈ c := by
  obtain ⟨A, B, e1, e2⟩ := hs
  subst e1
  rw [LiP_app, LiP_app, Nat.zero_add, e2] at h
  refine ⟨by simp only [List.length_append]; omega, fun k k1 k2 => ?_⟩
  have h1 := li_get c f h.1.2 (k - f) (by omega)
  rw [show f + (k - f) = k by omega] at h1
  exact ⟨h1, getD_m c (k - f) (by omega)⟩
/-- the text that is read -/
def zT (Z : Zt) : Tx := (Z.1, Z.2.1, fun l => (Z.2.2.2.2 l).map (fun z => z.2.2.2.2.2.2.2))
theorem zT_n {Z : Zt} {l : Nat} (h : Z.2.2.2.2 l = none) : (zT Z).2.2 l = none := by
  show (Z.2.2.2.2 l).map _ = none
  rw [h]
  rfl
theorem zT_s {Z : Zt} {l : Nat} {z : Lz} (h : Z.2.2.2.2 l = some z) : (zT Z).2.2 l = some z.2.2.2.2.2.2.2 := by
  show (Z.2.2.2.2 l).map _ = _
  rw [h]
  rfl
theorem zc_tx {n j i : Nat} {Z : Zt} (hZ : Zc μ (274 + 4 * i) Z) (hg : Zg n j Z) : TxC μ i (zT Z) := by
  obtain ⟨z1, z2, z3, z4⟩ := hZ
  obtain ⟨g1, g2, g3, g4, g5, g6⟩ := hg
  refine ⟨fun law hl => ?_, z1, g1, fun k hk => ⟨(g5 k hk).1, ?_, fun q x y => ⟨?_, (g5 k hk).2 q⟩⟩⟩
  · cases hz : Z.2.2.2.2 law with
    | none =>
      rw [zT_n hz]
      exact (z4 law hl).1 hz
    | some z =>
      rw [zT_s hz]
      obtain ⟨w1, w2⟩ := (z4 law hl).2 z hz
      obtain ⟨l1, l2, l3, l4, l5, l6, l7, l8, l9⟩ := (g6 law hl).2 z hz
      obtain ⟨s1, s2⟩ := g_seg z2.2.2 l5
      have hc := z2.2.1
      refine ⟨z.2.2.1, z.2.2.1 + (z.2.2.2.2.2.2.1 z.2.2.1).length, goC (z.2.2.2.2.2.2.1 z.2.2.1) z.2.2.1, gaC (z.2.2.2.2.2.2.1 z.2.2.1) z.2.2.1, by omega, by omega, w1, w2, fun k k1 k2 => ?_, fun k k1 k2 => ?_, fun e R w0 => ?_⟩
      · obtain ⟨p1, p2⟩ := s2 k k1 k2
        exact ⟨p1.1, p1.2, (l9 _ p2).1, (l9 _ p2).2.1⟩
      · exact (l9 _ (s2 k k1 k2).2).2.2
      · obtain ⟨k0, w', r1, r2, r3⟩ := l7 _ _ (g_oa (z.2.2.2.2.2.2.1 z.2.2.1) z.2.2.1) e R 0 w0 (by omega) (by omega)
        exact ⟨k0, 1, w', r1, Nat.le_refl _, r3⟩
  · have := (z3 k hk).1
    rw [show 274 + 4 * i + 3 = 277 + 4 * i by omega] at this
    exact this
  · have := (z3 k hk).2 q x y
    rw [show 274 + 4 * i + 3 = 277 + 4 * i by omega] at this
    exact this
theorem zm_tx {n j i : Nat} {Z : Zt} (hZ : Zm μ i Z) (hg : Zg n j Z) (hn : n ≤ 300) : TxM μ i (zT Z) ∧ TaM μ i (zT Z) := by
  obtain ⟨z1, z2, z3, z4, z5⟩ := hZ
  obtain ⟨g1, g2, g3, g4, g5, g6⟩ := hg
  refine ⟨⟨g1, z1, fun k hk => ⟨(g5 k hk).1, (z3 k hk).1⟩, fun law hl => ?_⟩, fun k hk q x y => (z3 k hk).2 q x y⟩
  cases hz : Z.2.2.2.2 law with
  | none =>
    rw [zT_n hz]
    exact (g6 law hl).1 hz
  | some z =>
    rw [zT_s hz]
    obtain ⟨w1, w2⟩ := z4 law hl z hz
    obtain ⟨l1, l2, l3, l4, l5, l6, l7, l8, l9⟩ := (g6 law hl).2 z hz
    obtain ⟨s1, s2⟩ := g_seg z2.2.2 l4
    refine ⟨z.1, l1, l2, l3, z.2.1, z.2.1 + z.2.2.2.2.2.1.length, goC z.2.2.2.2.2.1 z.2.1, gaC z.2.2.2.2.2.1 z.2.1, by omega, by omega, w1, w2, fun k k1 k2 => ?_, fun k k1 k2 => ?_, fun e R V0 W0 => ?_⟩
    · obtain ⟨p1, p2⟩ := s2 k k1 k2
      refine ⟨p1.1, ?_, (l8 _ p2).1, (l8 _ p2).2.1⟩
      have := p1.2
      rw [show 729 * i + 121 + 2 * k + 1 = 729 * i + 122 + 2 * k by omega] at this
      exact this
    · exact (l8 _ (s2 k k1 k2).2).2.2
    · obtain ⟨V', W', r1, r2, r3, r4, r5⟩ := l6 e R 0 0 V0 W0 (by omega) (by omega)
      refine ⟨1, 0, V', W', ?_, Nat.le_refl _, r4 rfl⟩
      rw [Nat.add_sub_cancel_left, rnM_li _ _ _ (g_oa z.2.2.2.2.2.1 z.2.1)]
      exact r1
end TY
section TZ
variable {μ ν : Me} {s : Nat → Nat} {T : Nat → Tx} {tn : Nat}
theorem wf_1 (hW : WF s) (ht : s 1 < 4) : WF (ups s 1 (s 1 + 1)) := by
  have wn := wf_n hW
  have e : ∀ j, j ≠ 1 → ups s 1 (s 1 + 1) j = s j := fun j hj => ups_n hj
  refine wf_x hW (fun k => ?_) ?_ (fun q hq => ?_) (fun q hq => by rw [e _ (by omega)]; exact wf_h hW hq) (Nat.le_of_eq (e 0 (by omega)).symm) (e 3 (by omega)) (e 4 (by omega)) (e 5 (by omega)) (e 10 (by omega)) (fun j hj => e j (by omega))
  · unfold ups
    split
    · omega
    · exact wf_b hW k
  · rw [e 0 (by omega), ups_e rfl, e 2 (by omega), e 3 (by omega), e 4 (by omega), e 5 (by omega), e 6 (by omega), e 7 (by omega), e 8 (by omega), e 9 (by omega), e 10 (by omega)]
    exact ⟨wn.1, by omega, by omega, wn.2.2.2⟩
  · rw [e 0 (by omega)] at hq
    rw [e (11 + 7 * q) (by omega), e (12 + 7 * q) (by omega), e (13 + 7 * q) (by omega), e (14 + 7 * q) (by omega), e (15 + 7 * q) (by omega), e (16 + 7 * q) (by omega), e (17 + 7 * q) (by omega), e 6 (by omega)]
    exact wf_p hW hq
theorem town_1 (h : TownR μ 1 s) (hW : WF s) (h6 : mgi ν 1 6 = nI (s 1 + 1)) (e : ∀ a q, 1 ≤ a → a < 136 → (a = 1 → q ≠ 6) → mgi ν a q = mgi μ a q) (el : ∀ a q, 1 ≤ a → a < 136 → mgl ν a q = mgl μ a q) : TownR ν 1 (ups s 1 (s 1 + 1)) := by
  have wn := wf_n hW
  have f : ∀ j, j ≠ 1 → ups s 1 (s 1 + 1) j = s j := fun j hj => ups_n hj
  obtain ⟨⟨c1, c2, c3, c4, c5, c6, c7, c8, c9, c10, c11⟩, hN, hP⟩ := h
  refine ⟨⟨?_, ?_, ?_, ?_, ?_, ?_, fun q hq => ?_, fun r hr => ?_, fun q hq => ?_, fun i hi => ?_, fun i hi => ?_⟩, ?_, ?_⟩
  · rw [f 0 (by omega), e _ _ (by omega) (by omega) (by omega)]; exact c1
  · rw [ups_e rfl]; exact h6
  · rw [f 2 (by omega), e _ _ (by omega) (by omega) (by omega)]; exact c3
  · rw [f 3 (by omega), e _ _ (by omega) (by omega) (by omega)]; exact c4
  · rw [f 4 (by omega), e _ _ (by omega) (by omega) (by omega)]; exact c5
  · rw [f 5 (by omega), e _ _ (by omega) (by omega) (by omega)]; exact c6
  · rw [f 0 (by omega)] at hq
    rw [f (14 + 7 * q) (by omega), f (15 + 7 * q) (by omega), f (16 + 7 * q) (by omega), e _ _ (by omega) (by omega) (by omega), e _ _ (by omega) (by omega) (by omega), e _ _ (by omega) (by omega) (by omega)]
    exact c7 q hq
  · have ee : (fun p => ups s 1 (s 1 + 1) (14 + 7 * p) == r) = (fun p => s (14 + 7 * p) == r) := by
      funext p
      rw [f (14 + 7 * p) (by omega)]
    rw [ee, f 0 (by omega), e _ _ (by omega) (by omega) (by omega)]
    exact c8 r hr
  · rw [f (67 + q) (by omega), e _ _ (by omega) (by omega) (by omega)]
    exact c9 q hq
  · rw [f 4 (by omega)] at hi
    rw [f (75 + 2 * i) (by omega), f (76 + 2 * i) (by omega), e _ _ (by omega) (by omega) (by omega), e _ _ (by omega) (by omega) (by omega)]
    exact c10 i hi
  · rw [f 5 (by omega)] at hi
    rw [f (91 + 2 * i) (by omega), f (92 + 2 * i) (by omega), e _ _ (by omega) (by omega) (by omega), e _ _ (by omega) (by omega) (by omega)]
    exact c11 i hi
  · exact now_s (MomR_x hN (fun q => e _ q (by omega) (by omega) (by omega)) (fun q => e _ q (by omega) (by omega) (by omega)) (fun q => e _ q (by omega) (by omega) (by omega)) (fun q => el _ q (by omega) (by omega))) hW (fun j hj => f j (by omega))
  · exact past_y hP hW (e 1 16 (by omega) (by omega) (by omega)) (fun a q h1 h2 => e a q (by omega) (by omega) (by omega)) (fun a q h1 h2 => el a q (by omega) (by omega)) (f 0 (by omega)) (f 3 (by omega)) (fun j h1 h2 => f j (by omega)) (fun p hp => f _ (by omega))
/-- the texts with one more -/
def upTx (T : Nat → Tx) (i : Nat) (x : Tx) : Nat → Tx := fun k => if k = i then x else T k
theorem row_1 (h : RowA μ 315 s) (h1 : mgi ν 315 1 = nI (s 1 + 1)) (e : ∀ q, q ≠ 1 → mgi ν 315 q = mgi μ 315 q) : RowA ν 315 (ups s 1 (s 1 + 1)) := by
  refine ⟨fun k hk h2 => ?_, ?_⟩
  · by_cases c : k = 1
    · subst c
      rw [ups_e rfl]
      exact h1
    · rw [ups_n c, e k c]
      exact h.1 k hk h2
  · rw [ups_n (by omega), e 2 (by omega)]
    exact h.2
theorem ca_1 {x : Tx} (hW : WF s) (h : Ca μ tn (s 0) (lateS s (Dx T (s 2)))) (e : ∀ a q, 306 ≤ a → a < 309 → mgi ν a q = mgi μ a q) : Ca ν tn (ups s 1 (s 1 + 1) 0) (lateS (ups s 1 (s 1 + 1)) (Dx (upTx T (s 1) x) (ups s 1 (s 1 + 1) 2))) := by
  have wn := wf_n hW
  have f : ∀ j, j ≠ 1 → ups s 1 (s 1 + 1) j = s j := fun j hj => ups_n hj
  have ed : Dx (upTx T (s 1) x) (s 2) = Dx T (s 2) := by
    unfold Dx
    by_cases c : s 2 = 0
    · rw [if_pos c, if_pos c]
    · rw [if_neg c, if_neg c]
      have : upTx T (s 1) x (s 2 - 1) = T (s 2 - 1) := if_neg (by omega)
      rw [this]
  have ef : lateS (ups s 1 (s 1 + 1)) (Dx (upTx T (s 1) x) (ups s 1 (s 1 + 1) 2)) = lateS s (Dx T (s 2)) := by
    funext r
    rw [f 2 (by omega), ed]
    exact late_cong wn.1 (fun j hj => f j (by omega)) _ _
  rw [ef, f 0 (by omega)]
  exact Ca_x h e
end TZ
