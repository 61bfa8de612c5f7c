/-! what is written down says what was read -/
theorem bN_d (b : Bool) : decide (((bN b : Nat) : Int) = 1) = b := by cases b <;> rfl
theorem bN_tr (b : Bool) : tr ((bN b : Nat) : Int) := by
  cases b
  · exact Or.inl rfl
  · exact Or.inr rfl
section PS
variable {e : Nat → Nat} {R : Nat → Bool} {n u : Nat} {V : Nat → Int} {W : Nat → Bool} {o : Nat}
theorem stM_two (h1 : 6 ≤ o) (h2 : o < 10) : stM e R o 0 (n + 2, u, V, W) = some (n + 1, u, upI V n (twoI o (V n) (V (n + 1))), W) := by
  unfold stM
  dsimp only
  rw [if_neg (by omega), if_neg (by omega), if_neg (by omega), if_neg (by omega), if_neg (by omega), if_pos ⟨h1, h2⟩, if_pos (by omega)]
  rfl
theorem stM_ask (h1 : 10 ≤ o) (h2 : o < 16) (hu : u < 330) : stM e R o 0 (n + 2, u, V, W) = some (n, u + 1, V, upB W u (askI o (V n) (V (n + 1)))) := by
  unfold stM
  dsimp only
  rw [if_neg (by omega), if_neg (by omega), if_neg (by omega), if_neg (by omega), if_neg (by omega), if_neg (by omega), if_pos ⟨h1, h2⟩, if_pos ⟨by omega, hu⟩]
  rfl
theorem stM_join (h1 : 21 ≤ o) (h2 : o < 24) : stM e R o 0 (n, u + 2, V, W) = some (n, u + 1, V, upB W u (joinI o (W u) (W (u + 1)))) := by
  unfold stM
  dsimp only
  rw [if_neg (by omega), if_neg (by omega), if_neg (by omega), if_neg (by omega), if_neg (by omega), if_neg (by omega), if_neg (by omega), if_neg (by omega), if_pos ⟨h1, h2⟩, if_pos (by omega)]
  rfl
theorem stM_2 : stM e R 2 0 (n + 1, u, V, W) = some (n + 1, u, upI V n (ringI R (V n)), W) := by
  unfold stM
  dsimp only
  rw [if_neg (by omega), if_neg (by omega), if_pos rfl, if_pos (by omega)]
  rfl
theorem stM_5 : stM e R 5 0 (n + 1, u, V, W) = some (n + 1, u, upI V n (-(V n)), W) := by
  unfold stM
  dsimp only
  rw [if_neg (by omega), if_neg (by omega), if_neg (by omega), if_neg (by omega), if_pos rfl, if_pos (by omega)]
  rfl
theorem stM_20 : stM e R 20 0 (n, u + 1, V, W) = some (n, u + 1, V, upB W u (!(W u))) := by
  unfold stM
  dsimp only
  rw [if_neg (by omega), if_neg (by omega), if_neg (by omega), if_neg (by omega), if_neg (by omega), if_neg (by omega), if_neg (by omega), if_pos rfl, if_pos (by omega)]
  rfl
theorem stM_3 : stM e R 3 0 (n + 2, u + 1, V, W) = some (n + 1, u, (if W u = true then V else upI V n (V (n + 1))), W) := by
  unfold stM
  dsimp only
  rw [if_neg (by omega), if_neg (by omega), if_neg (by omega), if_pos rfl, if_pos (by omega)]
  rfl
end PS
theorem upI_s {V : Nat → Int} {n : Nat} {x : Int} : upI V n x n = x := if_pos rfl
theorem upI_o {V : Nat → Int} {n i : Nat} {x : Int} (h : i ≠ n) : upI V n x i = V i := if_neg h
theorem upB_s {V : Nat → Bool} {n : Nat} {x : Bool} : upB V n x n = x := if_pos rfl
theorem upB_o {V : Nat → Bool} {n i : Nat} {x : Bool} (h : i ≠ n) : upB V n x i = V i := if_neg h
section PX
variable {ca cb cc : Cd} {da db dc : (Nat → Nat) → (Nat → Bool) → Int}
theorem sx_two {o : Nat} (h1 : 6 ≤ o) (h2 : o < 10) (ha : SgX 0 ca da) (hb : SgX 0 cb db) : SgX 0 (ca ++ cb ++ [(o, 0)]) (fun e R => twoI o (da e R) (db e R)) := by
  intro e R n u V W k1 k2
  simp only [List.length_append, List.length_singleton] at k1 k2
  obtain ⟨V1, W1, r1, a1, b1, c1, -⟩ := ha e R n u V W (by omega) (by omega)
  replace r1 : rlM e R ca (n, u, V, W) = some (n + 1, u, V1, W1) := r1
  obtain ⟨V2, W2, r2, a2, b2, c2, -⟩ := hb e R (n + 1) u V1 W1 (by omega) (by omega)
  replace r2 : rlM e R cb (n + 1, u, V1, W1) = some (n + 2, u, V2, W2) := r2
  refine ⟨upI V2 n (twoI o (V2 n) (V2 (n + 1))), W2, ?_, fun i hi => ?_, fun i hi => ?_, fun _ => ?_, fun h => by omega⟩
  · rw [List.append_assoc, rlM_app ca _ _ _ r1, rlM_app cb _ _ _ r2, rlM_1 (stM_two h1 h2)]
    rfl
  · rw [upI_o (by omega), a2 i (by omega), a1 i hi]
  · rw [b2 i hi, b1 i hi]
  · rw [upI_s, c2 rfl, a2 n (by omega), c1 rfl]
theorem sx_ask {o : Nat} (h1 : 10 ≤ o) (h2 : o < 16) (ha : SgX 0 ca da) (hb : SgX 0 cb db) : SgX 1 (ca ++ cb ++ [(o, 0)]) (fun e R => ((bN (askI o (da e R) (db e R)) : Nat) : Int)) := by
  intro e R n u V W k1 k2
  simp only [List.length_append, List.length_singleton] at k1 k2
  obtain ⟨V1, W1, r1, a1, b1, c1, -⟩ := ha e R n u V W (by omega) (by omega)
  replace r1 : rlM e R ca (n, u, V, W) = some (n + 1, u, V1, W1) := r1
  obtain ⟨V2, W2, r2, a2, b2, c2, -⟩ := hb e R (n + 1) u V1 W1 (by omega) (by omega)
  replace r2 : rlM e R cb (n + 1, u, V1, W1) = some (n + 2, u, V2, W2) := r2
  refine ⟨V2, upB W2 u (askI o (V2 n) (V2 (n + 1))), ?_, fun i hi => ?_, fun i hi => ?_, fun h => by omega, fun _ => ?_⟩
  · rw [List.append_assoc, rlM_app ca _ _ _ r1, rlM_app cb _ _ _ r2, rlM_1 (stM_ask h1 h2 (by omega))]
    rfl
  · rw [a2 i (by omega), a1 i hi]
  · rw [upB_o (by omega), b2 i hi, b1 i hi]
  · rw [upB_s, c2 rfl, a2 n (by omega), c1 rfl, bN_d]
theorem sx_join {k o : Nat} (h1 : 21 ≤ o) (h2 : o < 24) (hj : ∀ x y, joinI o x y = jnI k x y) (ha : SgX 1 ca da) (hb : SgX 1 cb db) : SgX 1 (ca ++ cb ++ [(o, 0)]) (fun e R => ((bN (jnI k (decide (da e R = 1)) (decide (db e R = 1))) : Nat) : Int)) := by
  intro e R n u V W k1 k2
  simp only [List.length_append, List.length_singleton] at k1 k2
  obtain ⟨V1, W1, r1, a1, b1, -, c1⟩ := ha e R n u V W (by omega) (by omega)
  replace r1 : rlM e R ca (n, u, V, W) = some (n, u + 1, V1, W1) := r1
  obtain ⟨V2, W2, r2, a2, b2, -, c2⟩ := hb e R n (u + 1) V1 W1 (by omega) (by omega)
  replace r2 : rlM e R cb (n, u + 1, V1, W1) = some (n, u + 2, V2, W2) := r2
  refine ⟨V2, upB W2 u (joinI o (W2 u) (W2 (u + 1))), ?_, fun i hi => ?_, fun i hi => ?_, fun h => by omega, fun _ => ?_⟩
  · rw [List.append_assoc, rlM_app ca _ _ _ r1, rlM_app cb _ _ _ r2, rlM_1 (stM_join h1 h2)]
    rfl
  · rw [a2 i hi, a1 i hi]
  · rw [upB_o (by omega), b2 i (by omega), b1 i hi]
  · rw [upB_s, c2 rfl, b2 u (by omega), c1 rfl, bN_d, hj]
theorem sx_2 (ha : SgX 0 ca da) : SgX 0 (ca ++ [(2, 0)]) (fun e R => ringI R (da e R)) := by
  intro e R n u V W k1 k2
  simp only [List.length_append, List.length_singleton] at k1 k2
  obtain ⟨V1, W1, r1, a1, b1, c1, -⟩ := ha e R n u V W (by omega) (by omega)
  replace r1 : rlM e R ca (n, u, V, W) = some (n + 1, u, V1, W1) := r1
  refine ⟨upI V1 n (ringI R (V1 n)), W1, ?_, fun i hi => ?_, fun i hi => ?_, fun _ => ?_, fun h => by omega⟩
  · rw [rlM_app ca _ _ _ r1, rlM_1 stM_2]
    rfl
  · rw [upI_o (by omega), a1 i hi]
  · rw [b1 i hi]
  · rw [upI_s, c1 rfl]
theorem sx_5 (ha : SgX 0 ca da) : SgX 0 (ca ++ [(5, 0)]) (fun e R => -(da e R)) := by
  intro e R n u V W k1 k2
  simp only [List.length_append, List.length_singleton] at k1 k2
  obtain ⟨V1, W1, r1, a1, b1, c1, -⟩ := ha e R n u V W (by omega) (by omega)
  replace r1 : rlM e R ca (n, u, V, W) = some (n + 1, u, V1, W1) := r1
  refine ⟨upI V1 n (-(V1 n)), W1, ?_, fun i hi => ?_, fun i hi => ?_, fun _ => ?_, fun h => by omega⟩
  · rw [rlM_app ca _ _ _ r1, rlM_1 stM_5]
    rfl
  · rw [upI_o (by omega), a1 i hi]
  · rw [b1 i hi]
  · rw [upI_s, c1 rfl]
theorem sx_20 (ht : ∀ e R, tr (da e R)) (ha : SgX 1 ca da) : SgX 1 (ca ++ [(20, 0)]) (fun e R => if da e R = 0 then 1 else 0) := by
  intro e R n u V W k1 k2
  simp only [List.length_append, List.length_singleton] at k1 k2
  obtain ⟨V1, W1, r1, a1, b1, -, c1⟩ := ha e R n u V W (by omega) (by omega)
  replace r1 : rlM e R ca (n, u, V, W) = some (n, u + 1, V1, W1) := r1
  refine ⟨V1, upB W1 u (!(W1 u)), ?_, fun i hi => ?_, fun i hi => ?_, fun h => by omega, fun _ => ?_⟩
  · rw [rlM_app ca _ _ _ r1, rlM_1 stM_20]
    rfl
  · rw [a1 i hi]
  · rw [upB_o (by omega), b1 i hi]
  · rw [upB_s, c1 rfl]
    dsimp only
    rcases ht e R with h | h
    · simp [h]
    · simp [h]
theorem sx_if (ht : ∀ e R, tr (da e R)) (ha : SgX 1 ca da) (hb : SgX 0 cb db) (hc : SgX 0 cc dc) : SgX 0 (ca ++ cb ++ cc ++ [(3, 0)]) (fun e R => if da e R = 0 then dc e R else db e R) := by
  intro e R n u V W k1 k2
  simp only [List.length_append, List.length_singleton] at k1 k2
  obtain ⟨V1, W1, r1, a1, b1, -, c1⟩ := ha e R n u V W (by omega) (by omega)
  replace r1 : rlM e R ca (n, u, V, W) = some (n, u + 1, V1, W1) := r1
  obtain ⟨V2, W2, r2, a2, b2, c2, -⟩ := hb e R n (u + 1) V1 W1 (by omega) (by omega)
  replace r2 : rlM e R cb (n, u + 1, V1, W1) = some (n + 1, u + 1, V2, W2) := r2
  obtain ⟨V3, W3, r3, a3, b3, c3, -⟩ := hc e R (n + 1) (u + 1) V2 W2 (by omega) (by omega)
  replace r3 : rlM e R cc (n + 1, u + 1, V2, W2) = some (n + 2, u + 1, V3, W3) := r3
  refine ⟨if W3 u = true then V3 else upI V3 n (V3 (n + 1)), W3, ?_, fun i hi => ?_, fun i hi => ?_, fun _ => ?_, fun h => by omega⟩
  · rw [List.append_assoc, List.append_assoc, rlM_app ca _ _ _ r1, rlM_app cb _ _ _ r2, rlM_app cc _ _ _ r3, rlM_1 stM_3]
    rfl
  · have h3 : V3 i = V i := by rw [a3 i (by omega), a2 i hi, a1 i hi]
    by_cases q : W3 u = true
    · rw [if_pos q, h3]
    · rw [if_neg q, upI_o (by omega), h3]
  · rw [b3 i (by omega), b2 i (by omega), b1 i hi]
  · have hw : W3 u = decide (da e R = 1) := by rw [b3 u (by omega), b2 u (by omega), c1 rfl]
    have hv : V3 n = db e R := by rw [a3 n (by omega), c2 rfl]
    rw [hw]
    dsimp only
    rcases ht e R with h | h
    · rw [h]
      show upI V3 n (V3 (n + 1)) n = _
      rw [upI_s, c3 rfl]
      rfl
    · rw [h]
      show V3 n = _
      rw [hv]
      rfl
theorem sc_bin {p k : Nat} {dd : (Nat → Nat) → (Nat → Bool) → Int} (hs : ∀ e R i h w, w h = da e R → w (h + 1) = db e R → stC e R k 0 (i, h + 2, w) = some (i + 1, h + 1, upI w h (dd e R))) (ha : SgC p ca da) (hb : SgC (p + ca.length) cb db) : SgC p (ca ++ cb ++ [(k, 0)]) dd := by
  intro O A hl e R h w k1 k2
  rw [LiP_app, LiP_app, LiP_1, List.length_append] at hl
  obtain ⟨⟨l1, l2⟩, l3, l4⟩ := hl
  simp only [List.length_append, List.length_singleton] at k1 k2 ⊢
  obtain ⟨m1, w1, r1, a1, c1⟩ := ha O A l1 e R h w (by omega) (by omega)
  obtain ⟨m2, w2, r2, a2, c2⟩ := hb O A l2 e R (h + 1) w1 (by omega) (by omega)
  have st : stC e R (O (p + ca.length + cb.length)) (A (p + ca.length + cb.length)) (p + ca.length + cb.length, h + 2, w2) = some (p + (ca.length + cb.length + 1), h + 1, upI w2 h (dd e R)) := by
    rw [show p + ca.length + cb.length = p + (ca.length + cb.length) by omega, l3, l4, hs e R _ h w2 (by rw [a2 h (by omega), c1]) c2]
    rfl
  refine ⟨m1 + (m2 + 1), upI w2 h (dd e R), ?_, fun i hi => ?_, upI_s⟩
  · rw [rnC_add O A e R _ m1 (m2 + 1) _ _ (rnC_mono O A e R (by omega) _ _ _ r1), rnC_add O A e R _ m2 1 _ _ (rnC_mono O A e R (by omega) _ _ _ r2), rnC_1 (by dsimp only; omega) st]
    rfl
  · rw [upI_o (by omega), a2 i (by omega), a1 i hi]
theorem sc_un {p k : Nat} {dd : (Nat → Nat) → (Nat → Bool) → Int} (hs : ∀ e R i h w, w h = da e R → stC e R k 0 (i, h + 1, w) = some (i + 1, h + 1, upI w h (dd e R))) (ha : SgC p ca da) : SgC p (ca ++ [(k, 0)]) dd := by
  intro O A hl e R h w k1 k2
  rw [LiP_app, LiP_1] at hl
  obtain ⟨l1, l3, l4⟩ := hl
  simp only [List.length_append, List.length_singleton] at k1 k2 ⊢
  obtain ⟨m1, w1, r1, a1, c1⟩ := ha O A l1 e R h w (by omega) (by omega)
  have st : stC e R (O (p + ca.length)) (A (p + ca.length)) (p + ca.length, h + 1, w1) = some (p + (ca.length + 1), h + 1, upI w1 h (dd e R)) := by
    rw [l3, l4, hs e R _ h w1 c1]
    rfl
  refine ⟨m1 + 1, upI w1 h (dd e R), ?_, fun i hi => ?_, upI_s⟩
  · rw [rnC_add O A e R _ m1 1 _ _ (rnC_mono O A e R (by omega) _ _ _ r1), rnC_1 (by dsimp only; omega) st]
    rfl
  · rw [upI_o (by omega), a1 i hi]
theorem sc_if {p t1 t2 : Nat} (ht : ∀ e R, tr (da e R)) (h1 : t1 = p + ca.length + 1 + cb.length + 1) (h2 : t2 = t1 + cc.length) (ha : SgC p ca da) (hb : SgC (p + ca.length + 1) cb db) (hc : SgC t1 cc dc) : SgC p (ca ++ [(19, t1)] ++ cb ++ [(20, t2)] ++ cc) (fun e R => if da e R = 0 then dc e R else db e R) := by
  intro O A hl e R h w k1 k2
  rw [LiP_app, LiP_app, LiP_app, LiP_app, LiP_1, LiP_1] at hl
  simp only [List.length_append, List.length_singleton] at k1 k2 hl ⊢
  obtain ⟨⟨⟨⟨l1, l2, l3⟩, l4⟩, l5, l6⟩, l7⟩ := hl
  rw [show p + (ca.length + 1) = p + ca.length + 1 by omega] at l4
  rw [show p + (ca.length + 1 + cb.length) = p + ca.length + 1 + cb.length by omega] at l5 l6
  rw [show p + (ca.length + 1 + cb.length + 1) = t1 by omega] at l7
  rw [show p + (ca.length + 1 + cb.length + 1 + cc.length) = t2 by omega] at k2 ⊢
  obtain ⟨m1, w1, r1, a1, c1⟩ := ha O A l1 e R h w (by omega) (by omega)
  have s1 := rnC_mono O A e R (t' := t2) (by omega) _ _ _ r1
  have st : stC e R (O (p + ca.length)) (A (p + ca.length)) (p + ca.length, h + 1, w1) = some ((if w1 h = 0 then t1 else p + ca.length + 1), h, w1) := by
    rw [l2, l3]
    unfold stC
    dsimp only
    rw [if_neg (by omega), if_neg (by omega), if_neg (by omega), if_pos rfl, if_pos ⟨by omega, by omega, by omega⟩]
    rfl
  rcases ht e R with z | z
  · rw [c1, z, if_pos rfl] at st
    obtain ⟨m3, w3, r3, a3, c3⟩ := hc O A l7 e R h w1 (by omega) (by omega)
    have s3 := rnC_mono O A e R (t' := t2) (by omega) _ _ _ r3
    refine ⟨m1 + (m3 + 1), w3, ?_, fun i hi => ?_, ?_⟩
    · rw [rnC_add O A e R _ m1 (m3 + 1) _ _ s1, rnC_1 (by dsimp only; omega) st, s3, h2]
    · rw [a3 i hi, a1 i hi]
    · rw [c3, z, if_pos rfl]
  · rw [c1, z, if_neg (by decide)] at st
    obtain ⟨m2, w2, r2, a2, c2⟩ := hb O A l4 e R h w1 (by omega) (by omega)
    have s2 := rnC_mono O A e R (t' := t2) (by omega) _ _ _ r2
    have su : stC e R (O (p + ca.length + 1 + cb.length)) (A (p + ca.length + 1 + cb.length)) (p + ca.length + 1 + cb.length, h + 1, w2) = some (t2, h + 1, w2) := by
      rw [l5, l6]
      unfold stC
      dsimp only
      rw [if_neg (by omega), if_neg (by omega), if_pos rfl, if_pos ⟨by omega, by omega⟩]
    refine ⟨m1 + ((m2 + 1) + 1), w2, ?_, fun i hi => ?_, ?_⟩
    · rw [rnC_add O A e R _ m1 (m2 + 1 + 1) _ _ s1, rnC_1 (by dsimp only; omega) st, rnC_add O A e R _ m2 1 _ _ s2, rnC_1 (by dsimp only; omega) su]
      rfl
    · rw [a2 i hi, a1 i hi]
    · rw [c2, z, if_neg (by decide)]
end PX
