/-! the reference's names -/
section MNA
variable {μ : Me} {b : Nat → Nat} {L : Nat} {Q : Int32 → Me → Prop}
theorem ew4b {P : Int64 → Me → Prop} {x y z w : Nat} (hx : x < 256) (hy : y < 256) (hz : z < 256) (hw : w < 256) : S_X11_w4 (nI x) (nI y) (nI z) (nI w) μ P = P (lN (((x * 256 + y) * 256 + z) * 256 + w)) μ := by
  have e : (nI x).toInt64 = lN x := nI_l (by omega)
  show P ((((((nI x).toInt64 <<< ((8 : Int32).toInt64 &&& 63)) ||| (nI y).toInt64) <<< ((8 : Int32).toInt64 &&& 63)) ||| (nI z).toInt64) <<< ((8 : Int32).toInt64 &&& 63) ||| (nI w).toInt64) μ = _
  rw [e, wd_step (by omega) hy, wd_step (by omega) hz, wd_step (by omega) hw]
theorem ew3b {P : Int64 → Me → Prop} {x y z : Nat} (hx : x < 256) (hy : y < 256) (hz : z < 256) : S_X11_w3 (nI x) (nI y) (nI z) μ P = P (lN ((x * 256 + y) * 256 + z)) μ := by
  have e : (nI x).toInt64 = lN x := nI_l (by omega)
  show P ((((nI x).toInt64 <<< ((8 : Int32).toInt64 &&& 63)) ||| (nI y).toInt64) <<< ((8 : Int32).toInt64 &&& 63) ||| (nI z).toInt64) μ = _
  rw [e, wd_step (by omega) hy, wd_step (by omega) hz]
theorem lc_n {x y : Nat} (hx : x < 9223372036854775808) (hy : y < 9223372036854775808) : (lg_cmp (lN x) (lN y) = 0) = (x = y) := (lc_eq _ _).trans (propext (pk_lEQ hx hy))
theorem dig3 {x y z x' y' z' : Nat} (h1 : x < 256) (h2 : y < 256) (h3 : z < 256) (g1 : x' < 256) (g2 : y' < 256) (g3 : z' < 256) (h : (x * 256 + y) * 256 + z = (x' * 256 + y') * 256 + z') : x = x' ∧ y = y' ∧ z = z' := by omega
theorem dig4 {x y z w x' y' z' w' : Nat} (h1 : x < 256) (h2 : y < 256) (h3 : z < 256) (h4 : w < 256) (g1 : x' < 256) (g2 : y' < 256) (g3 : z' < 256) (g4 : w' < 256) (h : ((x * 256 + y) * 256 + z) * 256 + w = ((x' * 256 + y') * 256 + z') * 256 + w') : x = x' ∧ y = y' ∧ z = z' ∧ w = w' := by omega
theorem tk_word {p : Nat} (hT : TpM μ b L) (h : MT μ b L p) (h9 : mgi μ 314 9 = 2) : p < L ∧ isD (b p) = false ∧ isLt (b p) = true := by
  have hv := tv_all (b := b) (L := L) (fun k hk => (hT.2.2 k hk).1) p
  have e : (nI (tvM b L p) = 2) = (tvM b L p = 2) := q_eq (b := 2) (by omega) (by omega)
  rw [h.2.2.2.1, e] at h9
  unfold tvM at h9
  by_cases c1 : L ≤ p
  · rw [if_pos c1] at h9
    omega
  · rw [if_neg c1] at h9
    by_cases c2 : isD (b p) = true
    · rw [if_pos c2] at h9
      omega
    · rw [if_neg c2] at h9
      by_cases c3 : isLt (b p) = true
      · exact ⟨by omega, Bool.eq_false_iff.2 c2, c3⟩
      · exfalso
        have hb := (hT.2.2 p (by omega)).1
        rw [if_neg c3] at h9
        split at h9
        · omega
        · split at h9
          · omega
          · split at h9
            · rename_i c
              rw [← sg_tab (b p) hb] at c
              omega
            · omega
theorem tk_9 {p : Nat} (hT : TpM μ b L) (h : MT μ b L p) {k : Nat} (hk : tkK b L p = k) (hk2 : k < 26) : mgi μ 314 9 = 2 := by
  have hv := tv_all (b := b) (L := L) (fun k hk => (hT.2.2 k hk).1) p
  rw [h.2.2.2.1, hv.2.2.1 (by omega)]
  rfl
theorem lg_w (hG : Gp μ) (hT : TpM μ b L) {p : Nat} (h : MT μ b L p) {k : Nat} (hk : k < 26) (hk6 : kln k ≤ 6) (h9 : mgi μ 314 9 = 2) : (lg_cmp (mgl μ 314 11) (lN (pkN (kch k) (kln k))) = 0) = (tkK b L p = k) := by
  have e := m_isWord (Q := fun r _ => r = 1) hG hT h hk hk6
  apply propext
  constructor
  · intro c
    have l : S_X11_isWord 314 (lN (pkN (kch k) (kln k))) μ (fun r _ => r = 1) := ⟨gp_ok hG (by decide) (by decide), fun q => absurd h9 q, fun _ => ⟨fun q => absurd c q, fun _ => rfl⟩⟩
    rw [e] at l
    by_cases q : tkK b L p = k
    · exact q
    · rw [if_neg q] at l
      exact absurd l (by decide)
  · intro c
    have l : nI (if tkK b L p = k then 1 else 0) = 1 := by
      rw [if_pos c]
      rfl
    have l2 : S_X11_isWord 314 (lN (pkN (kch k) (kln k))) μ (fun r _ => r = 1) := by
      rw [e]
      exact l
    by_cases q : lg_cmp (mgl μ 314 11) (lN (pkN (kch k) (kln k))) = 0
    · exact q
    · exact absurd (show (0 : Int32) = 1 from (l2.2.2 h9).1 q) (by decide)
theorem m_isWeather (hG : Gp μ) (hT : TpM μ b L) {p : Nat} (h : MT μ b L p) (k0 : tkK b L p ≠ 10 → Q 0 μ) (k1 : tkK b L p = 10 → Q 1 μ) : S_X11_isWeather 314 μ Q := by
  refine ⟨gp_ok hG (by decide) (by decide), fun h9 => k0 (fun q => h9 (tk_9 hT h q (by omega))), fun h9 => ?_⟩
  obtain ⟨c1, c2, c3⟩ := tk_word hT h h9
  obtain ⟨h1, h2, h3, h4, h5, h6⟩ := h
  have hL := hT.1
  have eE : tkE b L p = endR isLt b L (p + 1) := by
    unfold tkE
    rw [if_neg (by omega), if_neg (by rw [c2]; decide), if_pos c3]
  have eK : tkK b L p = wkd b p (tkE b L p - p) := by
    rw [eE]
    unfold tkK
    rw [if_neg (by omega), if_neg (by rw [c2]; decide), if_pos c3]
  have hE := tkE_b (b := b) c1
  have key : (tkK b L p = 10) = (tkE b L p - p = 7 ∧ (b p = 119 ∧ b (p + 1) = 101 ∧ b (p + 2) = 97 ∧ b (p + 3) = 116 ∧ b (p + 4) = 104 ∧ b (p + 5) = 101 ∧ b (p + 6) = 114)) := by
    rw [eK, wkd_iff (by omega)]
    apply propext
    rw [eqW_t]
    constructor
    · rintro ⟨a1, a2⟩
      exact ⟨a1, a2 0 (by decide), a2 1 (by decide), a2 2 (by decide), a2 3 (by decide), a2 4 (by decide), a2 5 (by decide), a2 6 (by decide)⟩
    · rintro ⟨a1, a2, a3, a4, a5, a6, a7, a8⟩
      refine ⟨a1, fun j hj => ?_⟩
      have hj : j < 7 := hj
      have : j = 0 ∨ j = 1 ∨ j = 2 ∨ j = 3 ∨ j = 4 ∨ j = 5 ∨ j = 6 := by omega
      rcases this with rfl | rfl | rfl | rfl | rfl | rfl | rfl
      · exact a2
      · exact a3
      · exact a4
      · exact a5
      · exact a6
      · exact a7
      · exact a8
  rw [Ne, key] at k0
  rw [key] at k1
  have e7 : (mgi μ 314 7 - mgi μ 314 8 = 7) = (tkE b L p - p = 7) := by
    rw [h3, h2, pk_sub (by omega)]
    exact q_eq (b := 7) (by omega) (by omega)
  rw [e7]
  refine ⟨fun q => k0 (fun y => q y.1), fun q => ?_⟩
  have hb : ∀ k, k < 7 → b (p + k) < 256 ∧ p + k < L := fun k hk => ⟨(hT.2.2 (p + k) (by omega)).1, by omega⟩
  have ad : ∀ k, nI p + nI k = nI (p + k) := fun k => by simp only [nI_add]
  rw [h2, e_byteAt hG hT (by omega), if_pos c1]
  rw [h2, show nI p + 1 = nI (p + 1) from ad 1, e_byteAt hG hT (by omega), if_pos (hb 1 (by omega)).2]
  rw [h2, show nI p + 2 = nI (p + 2) from ad 2, e_byteAt hG hT (by omega), if_pos (hb 2 (by omega)).2]
  rw [h2, show nI p + 3 = nI (p + 3) from ad 3, e_byteAt hG hT (by omega), if_pos (hb 3 (by omega)).2]
  have b0 := (hb 0 (by omega)).1
  rw [Nat.add_zero] at b0
  rw [ew4b b0 (hb 1 (by omega)).1 (hb 2 (by omega)).1 (hb 3 (by omega)).1]
  have w1 : ∀ P : Int64 → Me → Prop, S_X11_w4 119 101 97 116 μ P = P (lN (((119 * 256 + 101) * 256 + 97) * 256 + 116)) μ := fun P => ew4b (x := 119) (y := 101) (z := 97) (w := 116) (by omega) (by omega) (by omega) (by omega)
  have w2 : ∀ P : Int64 → Me → Prop, S_X11_w3 104 101 114 μ P = P (lN ((104 * 256 + 101) * 256 + 114)) μ := fun P => ew3b (x := 104) (y := 101) (z := 114) (by omega) (by omega) (by omega)
  have l1 := (hb 1 (by omega)).1
  have l2 := (hb 2 (by omega)).1
  have l3 := (hb 3 (by omega)).1
  have l4 := (hb 4 (by omega)).1
  have l5 := (hb 5 (by omega)).1
  have l6 := (hb 6 (by omega)).1
  rw [w1, lc_n (by omega) (by omega)]
  refine ⟨fun y => k0 (fun z => ?_), fun y => ?_⟩
  · obtain ⟨-, z1, z2, z3, z4, -⟩ := z
    rw [z1, z2, z3, z4] at y
    exact y rfl
  rw [h2, show nI p + 4 = nI (p + 4) from ad 4, e_byteAt hG hT (by omega), if_pos (hb 4 (by omega)).2]
  rw [h2, show nI p + 5 = nI (p + 5) from ad 5, e_byteAt hG hT (by omega), if_pos (hb 5 (by omega)).2]
  rw [h2, show nI p + 6 = nI (p + 6) from ad 6, e_byteAt hG hT (by omega), if_pos (hb 6 (by omega)).2]
  rw [ew3b l4 l5 l6, w2, lc_n (by omega) (by omega)]
  refine ⟨fun z => k0 (fun w => ?_), fun z => k1 ⟨q, ?_⟩⟩
  · obtain ⟨-, -, -, -, -, w5, w6, w7⟩ := w
    rw [w5, w6, w7] at z
    exact z rfl
  · obtain ⟨y1, y2, y3, y4⟩ := dig4 b0 l1 l2 l3 (by omega) (by omega) (by omega) (by omega) y
    obtain ⟨z1, z2, z3⟩ := dig3 l4 l5 l6 (by omega) (by omega) (by omega) z
    exact ⟨y1, y2, y3, y4, z1, z2, z3⟩
theorem m_nameOf (hG : Gp μ) (hT : TpM μ b L) {p : Nat} (h : MT μ b L p) (k0 : ¬ (6 ≤ tkK b L p ∧ tkK b L p < 16) → Q (-1) μ) (k1 : (6 ≤ tkK b L p ∧ tkK b L p < 16) → Q (nI (nmI (tkK b L p))) μ) : S_X11_nameOf 314 μ Q := by
  refine ⟨gp_ok hG (by decide) (by decide), fun h9 => ?_, fun h9 => k0 (fun q => h9 (tk_9 hT h rfl (by omega)))⟩
  have yes : ∀ k, k < 16 → 6 ≤ k → tkK b L p = k → Q (nI (nmI k)) μ := fun k h1 h2 e => by
    have := k1 (by omega)
    rw [e] at this
    exact this
  rw [ew_7, lg_w hG hT h (by decide) (by decide) h9]
  refine ⟨fun n7 => ?_, fun y => yes 7 (by omega) (by omega) y⟩
  refine m_isWeather hG hT h (fun n10 => bb0 ?_) (fun y => bb1 (yes 10 (by omega) (by omega) y))
  rw [ew_11, lg_w hG hT h (by decide) (by decide) h9]
  refine ⟨fun n11 => ?_, fun y => yes 11 (by omega) (by omega) y⟩
  rw [ew_12, lg_w hG hT h (by decide) (by decide) h9]
  refine ⟨fun n12 => ?_, fun y => yes 12 (by omega) (by omega) y⟩
  rw [ew_8, lg_w hG hT h (by decide) (by decide) h9]
  refine ⟨fun n8 => ?_, fun y => yes 8 (by omega) (by omega) y⟩
  rw [ew_9, lg_w hG hT h (by decide) (by decide) h9]
  refine ⟨fun n9 => ?_, fun y => yes 9 (by omega) (by omega) y⟩
  rw [ew_6, lg_w hG hT h (by decide) (by decide) h9]
  refine ⟨fun n6 => ?_, fun y => yes 6 (by omega) (by omega) y⟩
  rw [ew_13, lg_w hG hT h (by decide) (by decide) h9]
  refine ⟨fun n13 => ?_, fun y => yes 13 (by omega) (by omega) y⟩
  rw [ew_14, lg_w hG hT h (by decide) (by decide) h9]
  refine ⟨fun n14 => ?_, fun y => yes 14 (by omega) (by omega) y⟩
  rw [ew_15, lg_w hG hT h (by decide) (by decide) h9]
  refine ⟨fun n15 => ?_, fun y => yes 15 (by omega) (by omega) y⟩
  exact k0 (by omega)
theorem m_isOf {law x : Nat} (hG : Gp μ) (hl : law < 2) (h14 : mgi μ 314 14 = nI law) (hx : x < 10) (k0 : ¬ lawOk law x → Q 0 μ) (k1 : lawOk law x → Q 1 μ) : S_X11_isOf 314 (nI x) μ Q := by
  have e1 : (nI x < 7) = (x < 7) := q_lt (b := 7) (by omega) (by omega)
  have e2 : (nI x = 7) = (x = 7) := q_eq (b := 7) (by omega) (by omega)
  have e3 : (mgi μ 314 14 = 1) = (law = 1) := by
    rw [h14]
    exact q_eq (b := 1) (by omega) (by omega)
  have e4 : (mgi μ 314 14 = 0) = (law = 0) := by
    rw [h14]
    exact q_eq (b := 0) (by omega) (by omega)
  have o1 : mok μ 314 11 := gp_ok hG (by decide) (by decide)
  unfold S_X11_isOf
  rw [e1, e2, e3, e4]
  refine ⟨fun c => k1 ⟨fun _ => by omega, fun _ => by omega⟩, fun c => ⟨fun d => ⟨o1, fun e => k0 (fun q => ?_), fun e => k1 ⟨fun _ => by omega, fun _ => by omega⟩⟩, fun d => ⟨o1, fun e => k0 (fun q => ?_), fun e => k1 ⟨fun _ => by omega, fun _ => by omega⟩⟩⟩⟩
  · have := q.1 (by omega)
    omega
  · have := q.2 (by omega)
    omega
theorem m_compareOf (hG : Gp μ) (hT : TpM μ b L) {p : Nat} (h : MT μ b L p) (k0 : ¬ (37 ≤ tkK b L p ∧ tkK b L p ≤ 42) → Q (-1) μ) (k1 : (37 ≤ tkK b L p ∧ tkK b L p ≤ 42) → Q (nI (cmI (tkK b L p))) μ) : S_X11_compareOf 314 μ Q := by
  have hv := tv_all (b := b) (L := L) (fun k hk => (hT.2.2 k hk).1) p
  have v7 : tvM b L p = 60 ↔ tkK b L p = 37 := hv.2.2.2.2.2.2.1 7 (by omega)
  have v8 : tvM b L p = 62 ↔ tkK b L p = 38 := hv.2.2.2.2.2.2.1 8 (by omega)
  have v9 : tvM b L p = 61 ↔ tkK b L p = 39 := hv.2.2.2.2.2.2.1 9 (by omega)
  have v10 : tvM b L p = 35 ↔ tkK b L p = 40 := hv.2.2.2.2.2.2.1 10 (by omega)
  have v4 := hv.2.2.2.2.1
  have v5 := hv.2.2.2.2.2.1
  have q : ∀ x, x < 1000 → (mgi μ 314 9 = nI x) = (tvM b L p = x) := fun x hx => by rw [h.2.2.2.1, q_eq (by omega) (by omega)]
  have q60 : (mgi μ 314 9 = 60) = (tkK b L p = 37) := (q 60 (by omega)).trans (propext v7)
  have q4 : (mgi μ 314 9 = 4) = (tkK b L p = 41) := (q 4 (by omega)).trans (propext v4)
  have q62 : (mgi μ 314 9 = 62) = (tkK b L p = 38) := (q 62 (by omega)).trans (propext v8)
  have q5 : (mgi μ 314 9 = 5) = (tkK b L p = 42) := (q 5 (by omega)).trans (propext v5)
  have q61 : (mgi μ 314 9 = 61) = (tkK b L p = 39) := (q 61 (by omega)).trans (propext v9)
  have q35 : (mgi μ 314 9 = 35) = (tkK b L p = 40) := (q 35 (by omega)).trans (propext v10)
  have yes : ∀ k, 37 ≤ k → k ≤ 42 → tkK b L p = k → Q (nI (cmI k)) μ := fun k h1 h2 e => by
    have := k1 (by omega)
    rw [e] at this
    exact this
  unfold S_X11_compareOf
  rw [q60, q4, q62, q5, q61, q35]
  refine ⟨gp_ok hG (by decide) (by decide), fun n1 => ⟨fun n2 => ⟨fun n3 => ⟨fun n4 => ⟨fun n5 => ⟨fun n6 => k0 (by omega), fun y => yes 40 (by omega) (by omega) y⟩, fun y => yes 39 (by omega) (by omega) y⟩, fun y => yes 42 (by omega) (by omega) y⟩, fun y => yes 38 (by omega) (by omega) y⟩, fun y => yes 41 (by omega) (by omega) y⟩, fun y => yes 37 (by omega) (by omega) y⟩
end MNA
