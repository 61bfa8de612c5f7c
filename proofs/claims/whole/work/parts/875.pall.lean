/-! every sum read is good: the parser itself -/
theorem sx_num {v : Nat} (hv : v ≤ 9999) : SgX 0 [(0, v)] (fun _ _ => (v : Int)) := by
  intro e R n u V W k1 k2
  simp only [List.length_singleton] at k1 k2
  refine ⟨upI V n v, W, ?_, fun i hi => upI_o (by omega), fun _ _ => rfl, fun _ => upI_s, fun h => by omega⟩
  have st : stM e R 0 v (n, u, V, W) = some (n + 1, u, upI V n v, W) := by
    unfold stM
    dsimp only
    rw [if_pos rfl, if_pos ⟨by omega, hv⟩]
  rw [rlM_1 st]
  rfl
theorem sx_nam {v : Nat} (hv : v < 10) : SgX 0 [(1, v)] (fun e _ => (e v : Int)) := by
  intro e R n u V W k1 k2
  simp only [List.length_singleton] at k1 k2
  refine ⟨upI V n (e v), W, ?_, fun i hi => upI_o (by omega), fun _ _ => rfl, fun _ => upI_s, fun h => by omega⟩
  have st : stM e R 1 v (n, u, V, W) = some (n + 1, u, upI V n (e v), W) := by
    unfold stM
    dsimp only
    rw [if_neg (by omega), if_pos rfl, if_pos ⟨by omega, hv⟩]
  rw [rlM_1 st]
  rfl
theorem sc_num {p v : Nat} (hv : v ≤ 9999) : SgC p [(50, v)] (fun _ _ => (v : Int)) := by
  intro O A hl e R h w k1 k2
  obtain ⟨l1, l2⟩ := LiP_1.1 hl
  simp only [List.length_singleton] at k1 k2 ⊢
  have st : stC e R (O p) (A p) (p, h, w) = some (p + 1, h + 1, upI w h v) := by
    rw [l1, l2]
    unfold stC
    dsimp only
    rw [if_pos rfl, if_pos ⟨by omega, hv⟩]
  exact ⟨1, upI w h v, by rw [rnC_1 (by dsimp only; omega) st]; rfl, fun i hi => upI_o (by omega), upI_s⟩
theorem sc_nam {p k : Nat} (h1 : 6 ≤ k) (h2 : k < 16) : SgC p [(k, 0)] (fun e _ => (e (nmI k) : Int)) := by
  intro O A hl e R h w k1 k2
  obtain ⟨l1, l2⟩ := LiP_1.1 hl
  simp only [List.length_singleton] at k1 k2 ⊢
  have st : stC e R (O p) (A p) (p, h, w) = some (p + 1, h + 1, upI w h (e (nmI k))) := by
    rw [l1, l2]
    unfold stC
    dsimp only
    rw [if_neg (by omega), if_pos ⟨h1, h2⟩, if_pos (by omega)]
  exact ⟨1, upI w h (e (nmI k)), by rw [rnC_1 (by dsimp only; omega) st]; rfl, fun i hi => upI_o (by omega), upI_s⟩
theorem nmI_b : ∀ k, nmI k < 10 := by
  intro k
  unfold nmI
  repeat' split
  all_goals omega
theorem nmI_l : ∀ k, k < 16 → (k < 6 ∨ ((k = 13 ∨ nmI k ≠ 7) ∧ (k = 14 ∨ k = 15 ∨ (nmI k ≠ 8 ∧ nmI k ≠ 9)))) := by decide
section PA
variable {kd nm : Nat → Nat} {n law : Nat}
theorem gd_Nm (hn : ∀ i, n ≤ i → kd i = 51) {j : Nat} (hj : j ≤ n) : Gd n law 0 (pNm kd nm law j) j := by
  unfold pNm
  by_cases c1 : kd j = 50
  · rw [if_pos c1]
    by_cases c2 : nm j ≤ 9999
    · rw [if_pos c2]
      have hl : j < n := Nat.lt_of_not_le (fun h => by rw [hn j h] at c1; omega)
      refine ⟨⟨Nat.le_succ j, hl⟩, fun _ => ⟨Nat.lt_succ_self j, ?_, fun p => ?_, sx_num c2, fun p => sc_num c2, fun h => by omega, fun x hx => ?_, fun p hp x hx => ?_⟩⟩
      · show 1 + j ≤ j + 1
        omega
      · show 1 + j ≤ j + 1
        omega
      · rw [List.mem_singleton.1 hx]
        exact ⟨by show 0 < 100; omega, by show nm j < 10000; omega, fun h => by cases h⟩
      · rw [List.mem_singleton.1 hx]
        exact ⟨by show 50 < 100; omega, by show nm j < 10000; omega, fun _ h => absurd h (by show ¬ 50 < 16; omega)⟩
    · rw [if_neg c2]
      exact gd_F hj (by omega)
  · rw [if_neg c1]
    by_cases c2 : 6 ≤ kd j ∧ kd j < 16
    · rw [if_pos c2]
      by_cases c3 : (kd j = 13 ∧ law ≠ 0) ∨ ((kd j = 14 ∨ kd j = 15) ∧ law ≠ 1)
      · rw [if_pos c3]
        exact gd_F hj (by omega)
      · rw [if_neg c3]
        have hl : j < n := Nat.lt_of_not_le (fun h => by rw [hn j h] at c2; omega)
        have lo : lawOk law (nmI (kd j)) := by
          have := nmI_l (kd j) c2.2
          exact ⟨fun h => by omega, fun h => by omega⟩
        refine ⟨⟨Nat.le_succ j, hl⟩, fun _ => ⟨Nat.lt_succ_self j, ?_, fun p => ?_, sx_nam (nmI_b _), fun p => sc_nam c2.1 c2.2, fun h => by omega, fun x hx => ?_, fun p hp x hx => ?_⟩⟩
        · show 1 + j ≤ j + 1
          omega
        · show 1 + j ≤ j + 1
          omega
        · rw [List.mem_singleton.1 hx]
          exact ⟨by show 1 < 100; omega, Nat.lt_trans (nmI_b _) (by omega), fun _ => lo⟩
        · rw [List.mem_singleton.1 hx]
          exact ⟨by show kd j < 100; omega, by show 0 < 10000; omega, fun _ _ => lo⟩
    · rw [if_neg c2]
      exact gd_F hj (by omega)
theorem gd_I {a b c : Rs} {j : Nat} (ha : Gd n law 1 a j) (a0 : a.1 = 0) (hb : Gd n law 0 b (a.2.1 + 1)) (b0 : b.1 = 0) (hc : Gd n law 0 c (b.2.1 + 1)) (c0 : c.1 = 0) (hl : c.2.1 < n) : Gd n law 0 (pI a b c) j := by
  obtain ⟨⟨a1, a2⟩, a3⟩ := ha
  obtain ⟨a3, a4, a5, a6, a7, a8, a9, a10⟩ := a3 a0
  obtain ⟨⟨b1, b2⟩, b3⟩ := hb
  obtain ⟨b3, b4, b5, b6, b7, b8, b9, b10⟩ := b3 b0
  obtain ⟨⟨c1, c2⟩, c3⟩ := hc
  obtain ⟨c3, c4, c5, c6, c7, c8, c9, c10⟩ := c3 c0
  refine ⟨⟨show j ≤ c.2.1 + 1 by omega, hl⟩, fun _ => ⟨show j < c.2.1 + 1 by omega, ?_, fun p => ?_, sx_if (a8 rfl) a6 b6 c6, fun p => sc_if (a8 rfl) rfl rfl (a7 p) (b7 _) (c7 _), fun h => by omega, fun x hx => ?_, fun p hp x hx => ?_⟩⟩
  · show (a.2.2.1 ++ b.2.2.1 ++ c.2.2.1 ++ [(3, 0)]).length + j ≤ c.2.1 + 1
    simp only [List.length_append, List.length_singleton]
    omega
  · show (iC p a b c).length + j ≤ c.2.1 + 1
    unfold iC
    have h1 := a5 p
    have h2 := b5 (p + (a.2.2.2.1 p).length + 1)
    have h3 := c5 (iT p a b)
    simp only [List.length_append, List.length_singleton]
    omega
  · have hx : x ∈ a.2.2.1 ++ b.2.2.1 ++ c.2.2.1 ++ [(3, 0)] := hx
    rcases List.mem_append.1 hx with h | h
    · rcases List.mem_append.1 h with h | h
      · rcases List.mem_append.1 h with h | h
        · exact a9 x h
        · exact b9 x h
      · exact c9 x h
    · rw [List.mem_singleton.1 h]
      exact ⟨by show 3 < 100; omega, by show 0 < 10000; omega, fun h => by cases h⟩
  · have hp : p + (c.2.1 + 1) ≤ 1000 + j := hp
    have hx : x ∈ iC p a b c := hx
    unfold iC at hx
    have h1 := a5 p
    have h2 := b5 (p + (a.2.2.2.1 p).length + 1)
    have h3 := c5 (iT p a b)
    have h4 : iT p a b = p + (a.2.2.2.1 p).length + 1 + (b.2.2.2.1 (p + (a.2.2.2.1 p).length + 1)).length + 1 := rfl
    have h5 : iE p a b c = iT p a b + (c.2.2.2.1 (iT p a b)).length := rfl
    rcases List.mem_append.1 hx with h | h
    · rcases List.mem_append.1 h with h | h
      · rcases List.mem_append.1 h with h | h
        · rcases List.mem_append.1 h with h | h
          · exact a10 p (by omega) x h
          · rw [List.mem_singleton.1 h]
            exact ⟨by show 19 < 100; omega, by show iT p a b < 10000; omega, fun _ h => absurd h (by show ¬ 19 < 16; omega)⟩
        · exact b10 _ (by omega) x h
      · rw [List.mem_singleton.1 h]
        exact ⟨by show 20 < 100; omega, by show iE p a b c < 10000; omega, fun _ h => absurd h (by show ¬ 20 < 16; omega)⟩
    · exact c10 _ (by omega) x h
theorem pL_s {f : Nat → Rs} {g : Nat → Bool} {m : Nat} {r : Rs} (h0 : r.1 = 0) (hg : g (kd r.2.1) = true) : pL kd f g (m + 1) r = pL kd f g m (pB (kd r.2.1) r (f (r.2.1 + 1))) := if_pos ⟨h0, hg⟩
theorem pL_z {f : Nat → Rs} {g : Nat → Bool} {r : Rs} (h : ¬ (r.1 = 0 ∧ g (kd r.2.1) = true)) : ∀ m, pL kd f g m r = r
  | 0 => rfl
  | _ + 1 => if_neg h
/-- what a loop's sign may be -/
def gOk (t : Nat) (g : Nat → Bool) : Prop := ∀ k, g k = true → k ≠ 51 ∧ ((t = 0 ∧ t = 0 ∧ 30 ≤ k ∧ k < 34) ∨ (t = 0 ∧ t = 1 ∧ 37 ≤ k ∧ k < 43) ∨ (t = 1 ∧ t = 1 ∧ 22 ≤ k ∧ k < 25))
theorem pL_all (hn : ∀ i, n ≤ i → kd i = 51) {f : Nat → Rs} {g : Nat → Bool} {t j : Nat} {P : Nat → Nat → Prop} (hf : ∀ i, i ≤ n → Gd n law t (f i) i ∧ P (f i).1 (f i).2.1) (hg : gOk t g) : ∀ (m : Nat) (r : Rs), Gd n law t r j → P r.1 r.2.1 → Gd n law t (pL kd f g m r) j ∧ P (pL kd f g m r).1 (pL kd f g m r).2.1 ∧ (n < m + r.2.1 → (pL kd f g m r).1 = 0 → g (kd (pL kd f g m r).2.1) = false)
  | 0, r, hr, hp => ⟨hr, hp, fun h _ => by
    have := hr.1.2
    omega⟩
  | m + 1, r, hr, hp => by
    by_cases h : r.1 = 0 ∧ g (kd r.2.1) = true
    · rw [pL_s h.1 h.2]
      obtain ⟨k1, k2⟩ := hg _ h.2
      have hl : r.2.1 < n := Nat.lt_of_not_le (fun q => k1 (hn _ q))
      obtain ⟨f1, f2⟩ := hf (r.2.1 + 1) hl
      have hi := pL_all hn hf hg m (pB (kd r.2.1) r (f (r.2.1 + 1))) (gd_B k2 hr h.1 f1) f2
      refine ⟨hi.1, hi.2.1, fun q => hi.2.2 ?_⟩
      have := f1.1.1
      show n < m + (f (r.2.1 + 1)).2.1
      omega
    · rw [pL_z h]
      refine ⟨hr, hp, fun _ h0 => ?_⟩
      by_cases q : g (kd r.2.1) = true
      · exact absurd ⟨h0, q⟩ h
      · simpa using q
theorem gd_x {t t' j j' : Nat} {r : Rs} (h : Gd n law t r j) (hr : r.1 ≠ 0) (hj : j' ≤ j) : Gd n law t' r j' := ⟨⟨Nat.le_trans hj h.1.1, h.1.2⟩, fun q => absurd q hr⟩
/-- what may not stand behind -/
def nxE (md k : Nat) : Prop := (md = 0 → ¬ (30 ≤ k ∧ k < 34)) ∧ (md = 1 → ¬ (32 ≤ k ∧ k < 34)) ∧ (4 ≤ md → ¬ (30 ≤ k ∧ k < 34)) ∧ (4 ≤ md → md ≤ 5 → k ≠ 24) ∧ (md = 4 → k ≠ 22 ∧ k ≠ 23)
def ndF (md : Nat) : Nat := if md = 0 then 3 else if md = 1 then 2 else if md = 2 then 1 else if md = 3 then 7 else if md = 4 then 6 else if md = 5 then 5 else 4
/-- all that is known of what is read at j, in mode md, o of them open -/
def pOk (kd : Nat → Nat) (n law md : Nat) (r : Rs) (j : Nat) : Prop := Gd n law (if 4 ≤ md then 1 else 0) r j ∧ (r.1 = 0 → nxE md (kd r.2.1)) ∧ r.1 ≤ 5
theorem pk_F {md f j : Nat} (hj : j ≤ n) (hf : f ≠ 0) (h5 : f ≤ 5) : pOk kd n law md (pF f j) j := ⟨gd_F hj hf, fun h => absurd h hf, h5⟩
theorem pk_x {md md' j j' : Nat} {r : Rs} (h : pOk kd n law md r j) (hr : r.1 ≠ 0) (hj : j' ≤ j) : pOk kd n law md' r j' := ⟨gd_x h.1 hr hj, fun q => absurd q hr, h.2.2⟩
theorem pk_L (hn : ∀ i, n ≤ i → kd i = 51) (h3 : n ≤ 300) {f : Nat → Rs} {g : Nat → Bool} {md md' j : Nat} (hj : j ≤ n) (hm : (if 4 ≤ md then 1 else 0) = (if 4 ≤ md' then 1 else 0)) (hf : ∀ i, i ≤ n → pOk kd n law md (f i) i) (hg : gOk (if 4 ≤ md then 1 else 0) g) (hE : ∀ k, nxE md k → g k = false → nxE md' k) : pOk kd n law md' (pL kd f g 300 (f j)) j := by
  have h0 := hf j hj
  obtain ⟨h1, h2, h4⟩ := pL_all (j := j) (P := fun x y => (x = 0 → nxE md (kd y)) ∧ x ≤ 5) hn (fun i hi => ⟨(hf i hi).1, (hf i hi).2⟩) hg 300 (f j) h0.1 h0.2
  refine ⟨by rw [← hm]; exact h1, fun q => hE _ (h2.1 q) (h4 ?_ q), h2.2⟩
  by_cases z : (f j).1 = 0
  · have := (h0.1.2 z).1
    omega
  · exfalso
    rw [pL_z (fun y => z y.1)] at q
    exact z q
theorem pk_A (hn : ∀ i, n ≤ i → kd i = 51) {md md' k j0 j : Nat} {a : Rs} {f : Rs → Rs} (hk : k ≠ 51) (hj : j ≤ j0) (ha : pOk kd n law md a j0) (hf : a.1 = 0 → a.2.1 < n → pOk kd n law md' (f a) j) : pOk kd n law md' (pAcc kd k a f) j := by
  unfold pAcc
  by_cases h : a.1 = 0
  · rw [if_pos h]
    by_cases h2 : kd a.2.1 = k
    · rw [if_pos h2]
      exact hf h (Nat.lt_of_not_le (fun q => hk (by rw [← h2]; exact hn _ q)))
    · rw [if_neg h2]
      have q : pOk kd n law md' (pF 1 a.2.1) a.2.1 := pk_F ha.1.1.2 (by omega) (by omega)
      exact pk_x q (by show 1 ≠ 0; omega) (Nat.le_trans hj ha.1.1.1)
  · rw [if_neg h]
    exact pk_x ha h hj
theorem nx_t (k : Nat) : nxE 2 k ∧ nxE 3 k := ⟨⟨fun h => by omega, fun h => by omega, fun h => by omega, fun h => by omega, fun h => by omega⟩, ⟨fun h => by omega, fun h => by omega, fun h => by omega, fun h => by omega, fun h => by omega⟩⟩
theorem pk_R (hn : ∀ i, n ≤ i → kd i = 51) (h3 : n ≤ 300) : ∀ (d md o j : Nat), md ≤ 6 → o ≤ 8 → j ≤ n → ndF md + 7 * (8 - o) ≤ d → pOk kd n law md (pR kd nm law d md o j) j
  | 0, md, o, j, hm, _, _, hd => by
    exfalso
    unfold ndF at hd
    repeat' split at hd
    all_goals omega
  | d + 1, md, o, j, hm, ho, hj, hd => by
    have ih := pk_R hn h3 d
    have lt : ∀ i x, kd i = x → x ≠ 51 → i < n := fun i x h1 h2 => Nat.lt_of_not_le (fun q => h2 (by rw [← h1]; exact hn i q))
    have hmd : md = 0 ∨ md = 1 ∨ md = 2 ∨ md = 3 ∨ md = 4 ∨ md = 5 ∨ md = 6 := by omega
    rcases hmd with rfl | rfl | rfl | rfl | rfl | rfl | rfl
    · have hd : 3 + 7 * (8 - o) ≤ d + 1 := hd
      refine pk_L (md := 1) hn h3 hj rfl (fun i hi => ih 1 o i (by omega) ho hi (by show 2 + 7 * (8 - o) ≤ d; omega)) (fun k hk => ?_) (fun k h1 h2 => ?_)
      · have := of_decide_eq_true hk
        exact ⟨by omega, Or.inl ⟨rfl, rfl, by omega, by omega⟩⟩
      · have h4 := of_decide_eq_false h2
        have h5 := h1.2.1 rfl
        exact ⟨fun _ => by omega, fun h => by omega, fun h => by omega, fun h => by omega, fun h => by omega⟩
    · have hd : 2 + 7 * (8 - o) ≤ d + 1 := hd
      refine pk_L (md := 2) hn h3 hj rfl (fun i hi => ih 2 o i (by omega) ho hi (by show 1 + 7 * (8 - o) ≤ d; omega)) (fun k hk => ?_) (fun k h1 h2 => ?_)
      · have := of_decide_eq_true hk
        exact ⟨by omega, Or.inl ⟨rfl, rfl, by omega, by omega⟩⟩
      · have h4 := of_decide_eq_false h2
        exact ⟨fun h => by omega, fun _ => by omega, fun h => by omega, fun h => by omega, fun h => by omega⟩
    · have hd : 1 + 7 * (8 - o) ≤ d + 1 := hd
      show pOk kd n law 2 (pOne kd nm law (pR kd nm law d) o j) j
      unfold pOne
      by_cases c1 : kd j = 17 ∨ kd j = 31
      · rw [if_pos c1]
        by_cases c2 : o < 8
        · rw [if_pos c2]
          have hl : j < n := by
            rcases c1 with c1 | c1
            · exact lt j _ c1 (by omega)
            · exact lt j _ c1 (by omega)
          have q := ih 2 (o + 1) (j + 1) (by omega) c2 hl (by show 1 + 7 * (8 - (o + 1)) ≤ d; omega)
          refine ⟨gd_U (c1.elim (fun c => Or.inl ⟨rfl, c⟩) (fun c => Or.inr (Or.inl ⟨rfl, c⟩))) q.1, fun _ => (nx_t _).1, q.2.2⟩
        · rw [if_neg c2]
          exact pk_F hj (by omega) (by omega)
      · rw [if_neg c1]
        by_cases c2 : kd j = 18
        · rw [if_pos c2]
          by_cases c3 : o < 8
          · rw [if_pos c3]
            have q := ih 3 (o + 1) (j + 1) (by omega) c3 (lt j _ c2 (by omega)) (by show 7 + 7 * (8 - (o + 1)) ≤ d; omega)
            obtain ⟨⟨⟨q1, q2⟩, q3⟩, -, q4⟩ := q
            refine ⟨⟨⟨by omega, q2⟩, fun h => ?_⟩, fun _ => (nx_t _).1, q4⟩
            obtain ⟨k1, k2, k4, k5, k6, k7, k8, k9⟩ := q3 h
            exact ⟨by omega, by omega, fun p => by have := k4 p; omega, k5, k6, k7, k8, fun p hp => k9 p (by omega)⟩
          · rw [if_neg c3]
            exact pk_F hj (by omega) (by omega)
        · rw [if_neg c2]
          by_cases c3 : kd j = 34
          · rw [if_pos c3]
            by_cases c4 : o < 8
            · rw [if_pos c4]
              have q := ih 0 (o + 1) (j + 1) (by omega) c4 (lt j _ c3 (by omega)) (by show 3 + 7 * (8 - (o + 1)) ≤ d; omega)
              generalize pR kd nm law d 0 (o + 1) (j + 1) = a at q ⊢
              by_cases c5 : a.1 = 0
              · rw [if_pos c5]
                by_cases c6 : kd a.2.1 = 35
                · rw [if_pos c6]
                  have hl := lt _ _ c6 (by omega)
                  obtain ⟨⟨⟨q1, q2⟩, q3⟩, -, q4⟩ := q
                  obtain ⟨k1, k2, k4, k5, k6, k7, k8, k9⟩ := q3 c5
                  refine ⟨⟨⟨show j ≤ a.2.1 + 1 by omega, hl⟩, fun _ => ⟨show j < a.2.1 + 1 by omega, show a.2.2.1.length + j ≤ a.2.1 + 1 by omega, fun p => ?_, k5, k6, k7, k8, fun p hp => k9 p ?_⟩⟩, fun _ => (nx_t _).1, by show 0 ≤ 5; omega⟩
                  · have := k4 p
                    show (a.2.2.2.1 p).length + j ≤ a.2.1 + 1
                    omega
                  · have hp : p + (a.2.1 + 1) ≤ 1000 + j := hp
                    omega
                · rw [if_neg c6]
                  have z : pOk kd n law 2 (pF 1 a.2.1) a.2.1 := pk_F q.1.1.2 (by omega) (by omega)
                  have := q.1.1.1
                  exact pk_x z (by show 1 ≠ 0; omega) (by omega)
              · rw [if_neg c5]
                exact pk_x q c5 (by omega)
            · rw [if_neg c4]
              exact pk_F hj (by omega) (by omega)
          · rw [if_neg c3]
            refine ⟨gd_Nm hn hj, fun _ => (nx_t _).1, ?_⟩
            unfold pNm pF
            repeat' split
            all_goals (show _ ≤ 5; omega)
    · have hd : 7 + 7 * (8 - o) ≤ d + 1 := hd
      show pOk kd n law 3 (pCh kd (pR kd nm law d) o j) j
      unfold pCh
      have qa := ih 4 o j (by omega) ho hj (by show 6 + 7 * (8 - o) ≤ d; omega)
      refine pk_A hn (by omega) (Nat.le_refl _) qa (fun a0 al => ?_)
      have qb := ih 0 o ((pR kd nm law d 4 o j).2.1 + 1) (by omega) ho al (by show 3 + 7 * (8 - o) ≤ d; omega)
      have a1 := qa.1.1.1
      refine pk_A hn (by omega) (by omega) qb (fun b0 bl => ?_)
      have qc := ih 0 o ((pR kd nm law d 0 o ((pR kd nm law d 4 o j).2.1 + 1)).2.1 + 1) (by omega) ho bl (by show 3 + 7 * (8 - o) ≤ d; omega)
      have b1 := qb.1.1.1
      refine pk_A hn (by omega) (by omega) qc (fun c0 cl => ?_)
      exact ⟨gd_I qa.1 a0 qb.1 b0 qc.1 c0 cl, fun _ => (nx_t _).2, by show 0 ≤ 5; omega⟩
    · have hd : 6 + 7 * (8 - o) ≤ d + 1 := hd
      refine pk_L (md := 5) hn h3 hj rfl (fun i hi => ih 5 o i (by omega) ho hi (by show 5 + 7 * (8 - o) ≤ d; omega)) (fun k hk => ?_) (fun k h1 h2 => ?_)
      · have := of_decide_eq_true hk
        exact ⟨by omega, Or.inr (Or.inr ⟨rfl, rfl, by omega, by omega⟩)⟩
      · have h4 := of_decide_eq_false h2
        have h5 := h1.2.2.1 (by omega)
        have h6 := h1.2.2.2.1 (by omega) (by omega)
        exact ⟨fun h => by omega, fun h => by omega, fun _ => h5, fun _ _ => h6, fun _ => by omega⟩
    · have hd : 5 + 7 * (8 - o) ≤ d + 1 := hd
      refine pk_L (md := 6) hn h3 hj rfl (fun i hi => ih 6 o i (by omega) ho hi (by show 4 + 7 * (8 - o) ≤ d; omega)) (fun k hk => ?_) (fun k h1 h2 => ?_)
      · have := of_decide_eq_true hk
        exact ⟨by omega, Or.inr (Or.inr ⟨rfl, rfl, by omega, by omega⟩)⟩
      · have h4 := of_decide_eq_false h2
        have h5 := h1.2.2.1 (by omega)
        exact ⟨fun h => by omega, fun h => by omega, fun _ => h5, fun _ _ => h4, fun h => by omega⟩
    · have hd : 4 + 7 * (8 - o) ≤ d + 1 := hd
      show pOk kd n law 6 (pAsk kd (pR kd nm law d) o j) j
      unfold pAsk
      by_cases c1 : kd j = 25
      · rw [if_pos c1]
        by_cases c2 : o < 8
        · rw [if_pos c2]
          have q := ih 6 (o + 1) (j + 1) (by omega) c2 (lt j _ c1 (by omega)) (by show 4 + 7 * (8 - (o + 1)) ≤ d; omega)
          exact ⟨gd_U (Or.inr (Or.inr ⟨rfl, rfl⟩)) q.1, q.2.1, q.2.2⟩
        · rw [if_neg c2]
          exact pk_F hj (by omega) (by omega)
      · rw [if_neg c1]
        have q := ih 0 o j (by omega) ho hj (by show 3 + 7 * (8 - o) ≤ d; omega)
        generalize pR kd nm law d 0 o j = a at q ⊢
        by_cases c5 : a.1 = 0
        · rw [if_pos c5]
          by_cases c6 : 37 ≤ kd a.2.1 ∧ kd a.2.1 ≤ 42
          · rw [if_pos c6]
            have hl := lt _ _ rfl (show kd a.2.1 ≠ 51 by omega)
            have q2 := ih 0 o (a.2.1 + 1) (by omega) ho hl (by show 3 + 7 * (8 - o) ≤ d; omega)
            refine ⟨gd_B (Or.inr (Or.inl ⟨rfl, rfl, c6.1, by omega⟩)) q.1 c5 q2.1, fun h => ?_, q2.2.2⟩
            have := (q2.2.1 h).1 rfl
            exact ⟨fun h => by omega, fun h => by omega, fun _ => this, fun _ h => by omega, fun h => by omega⟩
          · rw [if_neg c6]
            have z : pOk kd n law 6 (pF 1 a.2.1) a.2.1 := pk_F q.1.1.2 (by omega) (by omega)
            exact pk_x z (by show 1 ≠ 0; omega) q.1.1.1
        · rw [if_neg c5]
          exact pk_x q c5 (Nat.le_refl _)
end PA
