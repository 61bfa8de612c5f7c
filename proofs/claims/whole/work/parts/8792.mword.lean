/-! the reference's words and signs, by their kinds -/
section MW
variable {μ : Me} {b : Nat → Nat} {L : Nat}
theorem ew_0 {Q : Int64 → Me → Prop} : S_X11_w4 114 117 110 115 μ Q = Q (lN (pkN (kch 0) (kln 0))) μ := by
  have e : (((((((114 : Int32).toInt64 <<< ((8 : Int32).toInt64 &&& 63)) ||| (117 : Int32).toInt64) <<< ((8 : Int32).toInt64 &&& 63)) ||| (110 : Int32).toInt64) <<< ((8 : Int32).toInt64 &&& 63)) ||| (115 : Int32).toInt64) = lN (pkN (kch 0) (kln 0)) := by decide +kernel
  show Q (((((((114 : Int32).toInt64 <<< ((8 : Int32).toInt64 &&& 63)) ||| (117 : Int32).toInt64) <<< ((8 : Int32).toInt64 &&& 63)) ||| (110 : Int32).toInt64) <<< ((8 : Int32).toInt64 &&& 63)) ||| (115 : Int32).toInt64) μ = _
  rw [e]
theorem ew_1 {Q : Int64 → Me → Prop} : S_X11_w5 116 97 107 101 115 μ Q = Q (lN (pkN (kch 1) (kln 1))) μ := by
  have e : (((((((((116 : Int32).toInt64 <<< ((8 : Int32).toInt64 &&& 63)) ||| (97 : Int32).toInt64) <<< ((8 : Int32).toInt64 &&& 63)) ||| (107 : Int32).toInt64) <<< ((8 : Int32).toInt64 &&& 63)) ||| (101 : Int32).toInt64) <<< ((8 : Int32).toInt64 &&& 63)) ||| (115 : Int32).toInt64) = lN (pkN (kch 1) (kln 1)) := by decide +kernel
  show Q (((((((((116 : Int32).toInt64 <<< ((8 : Int32).toInt64 &&& 63)) ||| (97 : Int32).toInt64) <<< ((8 : Int32).toInt64 &&& 63)) ||| (107 : Int32).toInt64) <<< ((8 : Int32).toInt64 &&& 63)) ||| (101 : Int32).toInt64) <<< ((8 : Int32).toInt64 &&& 63)) ||| (115 : Int32).toInt64) μ = _
  rw [e]
theorem ew_2 {Q : Int64 → Me → Prop} : S_X11_w6 112 101 114 115 111 110 μ Q = Q (lN (pkN (kch 2) (kln 2))) μ := by
  have e : (((((((((((112 : Int32).toInt64 <<< ((8 : Int32).toInt64 &&& 63)) ||| (101 : Int32).toInt64) <<< ((8 : Int32).toInt64 &&& 63)) ||| (114 : Int32).toInt64) <<< ((8 : Int32).toInt64 &&& 63)) ||| (115 : Int32).toInt64) <<< ((8 : Int32).toInt64 &&& 63)) ||| (111 : Int32).toInt64) <<< ((8 : Int32).toInt64 &&& 63)) ||| (110 : Int32).toInt64) = lN (pkN (kch 2) (kln 2)) := by decide +kernel
  show Q (((((((((((112 : Int32).toInt64 <<< ((8 : Int32).toInt64 &&& 63)) ||| (101 : Int32).toInt64) <<< ((8 : Int32).toInt64 &&& 63)) ||| (114 : Int32).toInt64) <<< ((8 : Int32).toInt64 &&& 63)) ||| (115 : Int32).toInt64) <<< ((8 : Int32).toInt64 &&& 63)) ||| (111 : Int32).toInt64) <<< ((8 : Int32).toInt64 &&& 63)) ||| (110 : Int32).toInt64) μ = _
  rw [e]
theorem ew_3 {Q : Int64 → Me → Prop} : S_X11_w4 114 105 110 103 μ Q = Q (lN (pkN (kch 3) (kln 3))) μ := by
  have e : (((((((114 : Int32).toInt64 <<< ((8 : Int32).toInt64 &&& 63)) ||| (105 : Int32).toInt64) <<< ((8 : Int32).toInt64 &&& 63)) ||| (110 : Int32).toInt64) <<< ((8 : Int32).toInt64 &&& 63)) ||| (103 : Int32).toInt64) = lN (pkN (kch 3) (kln 3)) := by decide +kernel
  show Q (((((((114 : Int32).toInt64 <<< ((8 : Int32).toInt64 &&& 63)) ||| (105 : Int32).toInt64) <<< ((8 : Int32).toInt64 &&& 63)) ||| (110 : Int32).toInt64) <<< ((8 : Int32).toInt64 &&& 63)) ||| (103 : Int32).toInt64) μ = _
  rw [e]
theorem ew_4 {Q : Int64 → Me → Prop} : S_X11_w3 98 101 100 μ Q = Q (lN (pkN (kch 4) (kln 4))) μ := by
  have e : (((((98 : Int32).toInt64 <<< ((8 : Int32).toInt64 &&& 63)) ||| (101 : Int32).toInt64) <<< ((8 : Int32).toInt64 &&& 63)) ||| (100 : Int32).toInt64) = lN (pkN (kch 4) (kln 4)) := by decide +kernel
  show Q (((((98 : Int32).toInt64 <<< ((8 : Int32).toInt64 &&& 63)) ||| (101 : Int32).toInt64) <<< ((8 : Int32).toInt64 &&& 63)) ||| (100 : Int32).toInt64) μ = _
  rw [e]
theorem ew_5 {Q : Int64 → Me → Prop} : S_X11_w2 117 112 μ Q = Q (lN (pkN (kch 5) (kln 5))) μ := by
  have e : (((117 : Int32).toInt64 <<< ((8 : Int32).toInt64 &&& 63)) ||| (112 : Int32).toInt64) = lN (pkN (kch 5) (kln 5)) := by decide +kernel
  show Q (((117 : Int32).toInt64 <<< ((8 : Int32).toInt64 &&& 63)) ||| (112 : Int32).toInt64) μ = _
  rw [e]
theorem ew_6 {Q : Int64 → Me → Prop} : S_X11_w3 100 117 101 μ Q = Q (lN (pkN (kch 6) (kln 6))) μ := by
  have e : (((((100 : Int32).toInt64 <<< ((8 : Int32).toInt64 &&& 63)) ||| (117 : Int32).toInt64) <<< ((8 : Int32).toInt64 &&& 63)) ||| (101 : Int32).toInt64) = lN (pkN (kch 6) (kln 6)) := by decide +kernel
  show Q (((((100 : Int32).toInt64 <<< ((8 : Int32).toInt64 &&& 63)) ||| (117 : Int32).toInt64) <<< ((8 : Int32).toInt64 &&& 63)) ||| (101 : Int32).toInt64) μ = _
  rw [e]
theorem ew_7 {Q : Int64 → Me → Prop} : S_X11_w3 100 97 121 μ Q = Q (lN (pkN (kch 7) (kln 7))) μ := by
  have e : (((((100 : Int32).toInt64 <<< ((8 : Int32).toInt64 &&& 63)) ||| (97 : Int32).toInt64) <<< ((8 : Int32).toInt64 &&& 63)) ||| (121 : Int32).toInt64) = lN (pkN (kch 7) (kln 7)) := by decide +kernel
  show Q (((((100 : Int32).toInt64 <<< ((8 : Int32).toInt64 &&& 63)) ||| (97 : Int32).toInt64) <<< ((8 : Int32).toInt64 &&& 63)) ||| (121 : Int32).toInt64) μ = _
  rw [e]
theorem ew_8 {Q : Int64 → Me → Prop} : S_X11_w4 119 97 108 107 μ Q = Q (lN (pkN (kch 8) (kln 8))) μ := by
  have e : (((((((119 : Int32).toInt64 <<< ((8 : Int32).toInt64 &&& 63)) ||| (97 : Int32).toInt64) <<< ((8 : Int32).toInt64 &&& 63)) ||| (108 : Int32).toInt64) <<< ((8 : Int32).toInt64 &&& 63)) ||| (107 : Int32).toInt64) = lN (pkN (kch 8) (kln 8)) := by decide +kernel
  show Q (((((((119 : Int32).toInt64 <<< ((8 : Int32).toInt64 &&& 63)) ||| (97 : Int32).toInt64) <<< ((8 : Int32).toInt64 &&& 63)) ||| (108 : Int32).toInt64) <<< ((8 : Int32).toInt64 &&& 63)) ||| (107 : Int32).toInt64) μ = _
  rw [e]
theorem ew_9 {Q : Int64 → Me → Prop} : S_X11_w3 114 117 110 μ Q = Q (lN (pkN (kch 9) (kln 9))) μ := by
  have e : (((((114 : Int32).toInt64 <<< ((8 : Int32).toInt64 &&& 63)) ||| (117 : Int32).toInt64) <<< ((8 : Int32).toInt64 &&& 63)) ||| (110 : Int32).toInt64) = lN (pkN (kch 9) (kln 9)) := by decide +kernel
  show Q (((((114 : Int32).toInt64 <<< ((8 : Int32).toInt64 &&& 63)) ||| (117 : Int32).toInt64) <<< ((8 : Int32).toInt64 &&& 63)) ||| (110 : Int32).toInt64) μ = _
  rw [e]
theorem ew_11 {Q : Int64 → Me → Prop} : S_X11_w3 119 104 111 μ Q = Q (lN (pkN (kch 11) (kln 11))) μ := by
  have e : (((((119 : Int32).toInt64 <<< ((8 : Int32).toInt64 &&& 63)) ||| (104 : Int32).toInt64) <<< ((8 : Int32).toInt64 &&& 63)) ||| (111 : Int32).toInt64) = lN (pkN (kch 11) (kln 11)) := by decide +kernel
  show Q (((((119 : Int32).toInt64 <<< ((8 : Int32).toInt64 &&& 63)) ||| (104 : Int32).toInt64) <<< ((8 : Int32).toInt64 &&& 63)) ||| (111 : Int32).toInt64) μ = _
  rw [e]
theorem ew_12 {Q : Int64 → Me → Prop} : S_X11_w4 114 111 97 100 μ Q = Q (lN (pkN (kch 12) (kln 12))) μ := by
  have e : (((((((114 : Int32).toInt64 <<< ((8 : Int32).toInt64 &&& 63)) ||| (111 : Int32).toInt64) <<< ((8 : Int32).toInt64 &&& 63)) ||| (97 : Int32).toInt64) <<< ((8 : Int32).toInt64 &&& 63)) ||| (100 : Int32).toInt64) = lN (pkN (kch 12) (kln 12)) := by decide +kernel
  show Q (((((((114 : Int32).toInt64 <<< ((8 : Int32).toInt64 &&& 63)) ||| (111 : Int32).toInt64) <<< ((8 : Int32).toInt64 &&& 63)) ||| (97 : Int32).toInt64) <<< ((8 : Int32).toInt64 &&& 63)) ||| (100 : Int32).toInt64) μ = _
  rw [e]
theorem ew_13 {Q : Int64 → Me → Prop} : S_X11_w5 104 101 97 114 100 μ Q = Q (lN (pkN (kch 13) (kln 13))) μ := by
  have e : (((((((((104 : Int32).toInt64 <<< ((8 : Int32).toInt64 &&& 63)) ||| (101 : Int32).toInt64) <<< ((8 : Int32).toInt64 &&& 63)) ||| (97 : Int32).toInt64) <<< ((8 : Int32).toInt64 &&& 63)) ||| (114 : Int32).toInt64) <<< ((8 : Int32).toInt64 &&& 63)) ||| (100 : Int32).toInt64) = lN (pkN (kch 13) (kln 13)) := by decide +kernel
  show Q (((((((((104 : Int32).toInt64 <<< ((8 : Int32).toInt64 &&& 63)) ||| (101 : Int32).toInt64) <<< ((8 : Int32).toInt64 &&& 63)) ||| (97 : Int32).toInt64) <<< ((8 : Int32).toInt64 &&& 63)) ||| (114 : Int32).toInt64) <<< ((8 : Int32).toInt64 &&& 63)) ||| (100 : Int32).toInt64) μ = _
  rw [e]
theorem ew_14 {Q : Int64 → Me → Prop} : S_X11_w4 102 97 115 116 μ Q = Q (lN (pkN (kch 14) (kln 14))) μ := by
  have e : (((((((102 : Int32).toInt64 <<< ((8 : Int32).toInt64 &&& 63)) ||| (97 : Int32).toInt64) <<< ((8 : Int32).toInt64 &&& 63)) ||| (115 : Int32).toInt64) <<< ((8 : Int32).toInt64 &&& 63)) ||| (116 : Int32).toInt64) = lN (pkN (kch 14) (kln 14)) := by decide +kernel
  show Q (((((((102 : Int32).toInt64 <<< ((8 : Int32).toInt64 &&& 63)) ||| (97 : Int32).toInt64) <<< ((8 : Int32).toInt64 &&& 63)) ||| (115 : Int32).toInt64) <<< ((8 : Int32).toInt64 &&& 63)) ||| (116 : Int32).toInt64) μ = _
  rw [e]
theorem ew_15 {Q : Int64 → Me → Prop} : S_X11_w3 106 97 109 μ Q = Q (lN (pkN (kch 15) (kln 15))) μ := by
  have e : (((((106 : Int32).toInt64 <<< ((8 : Int32).toInt64 &&& 63)) ||| (97 : Int32).toInt64) <<< ((8 : Int32).toInt64 &&& 63)) ||| (109 : Int32).toInt64) = lN (pkN (kch 15) (kln 15)) := by decide +kernel
  show Q (((((106 : Int32).toInt64 <<< ((8 : Int32).toInt64 &&& 63)) ||| (97 : Int32).toInt64) <<< ((8 : Int32).toInt64 &&& 63)) ||| (109 : Int32).toInt64) μ = _
  rw [e]
theorem ew_16 {Q : Int64 → Me → Prop} : S_X11_w2 111 102 μ Q = Q (lN (pkN (kch 16) (kln 16))) μ := by
  have e : (((111 : Int32).toInt64 <<< ((8 : Int32).toInt64 &&& 63)) ||| (102 : Int32).toInt64) = lN (pkN (kch 16) (kln 16)) := by decide +kernel
  show Q (((111 : Int32).toInt64 <<< ((8 : Int32).toInt64 &&& 63)) ||| (102 : Int32).toInt64) μ = _
  rw [e]
theorem ew_17 {Q : Int64 → Me → Prop} : S_X11_w5 114 105 110 103 115 μ Q = Q (lN (pkN (kch 17) (kln 17))) μ := by
  have e : (((((((((114 : Int32).toInt64 <<< ((8 : Int32).toInt64 &&& 63)) ||| (105 : Int32).toInt64) <<< ((8 : Int32).toInt64 &&& 63)) ||| (110 : Int32).toInt64) <<< ((8 : Int32).toInt64 &&& 63)) ||| (103 : Int32).toInt64) <<< ((8 : Int32).toInt64 &&& 63)) ||| (115 : Int32).toInt64) = lN (pkN (kch 17) (kln 17)) := by decide +kernel
  show Q (((((((((114 : Int32).toInt64 <<< ((8 : Int32).toInt64 &&& 63)) ||| (105 : Int32).toInt64) <<< ((8 : Int32).toInt64 &&& 63)) ||| (110 : Int32).toInt64) <<< ((8 : Int32).toInt64 &&& 63)) ||| (103 : Int32).toInt64) <<< ((8 : Int32).toInt64 &&& 63)) ||| (115 : Int32).toInt64) μ = _
  rw [e]
theorem ew_18 {Q : Int64 → Me → Prop} : S_X11_w2 105 102 μ Q = Q (lN (pkN (kch 18) (kln 18))) μ := by
  have e : (((105 : Int32).toInt64 <<< ((8 : Int32).toInt64 &&& 63)) ||| (102 : Int32).toInt64) = lN (pkN (kch 18) (kln 18)) := by decide +kernel
  show Q (((105 : Int32).toInt64 <<< ((8 : Int32).toInt64 &&& 63)) ||| (102 : Int32).toInt64) μ = _
  rw [e]
theorem ew_19 {Q : Int64 → Me → Prop} : S_X11_w4 116 104 101 110 μ Q = Q (lN (pkN (kch 19) (kln 19))) μ := by
  have e : (((((((116 : Int32).toInt64 <<< ((8 : Int32).toInt64 &&& 63)) ||| (104 : Int32).toInt64) <<< ((8 : Int32).toInt64 &&& 63)) ||| (101 : Int32).toInt64) <<< ((8 : Int32).toInt64 &&& 63)) ||| (110 : Int32).toInt64) = lN (pkN (kch 19) (kln 19)) := by decide +kernel
  show Q (((((((116 : Int32).toInt64 <<< ((8 : Int32).toInt64 &&& 63)) ||| (104 : Int32).toInt64) <<< ((8 : Int32).toInt64 &&& 63)) ||| (101 : Int32).toInt64) <<< ((8 : Int32).toInt64 &&& 63)) ||| (110 : Int32).toInt64) μ = _
  rw [e]
theorem ew_20 {Q : Int64 → Me → Prop} : S_X11_w4 101 108 115 101 μ Q = Q (lN (pkN (kch 20) (kln 20))) μ := by
  have e : (((((((101 : Int32).toInt64 <<< ((8 : Int32).toInt64 &&& 63)) ||| (108 : Int32).toInt64) <<< ((8 : Int32).toInt64 &&& 63)) ||| (115 : Int32).toInt64) <<< ((8 : Int32).toInt64 &&& 63)) ||| (101 : Int32).toInt64) = lN (pkN (kch 20) (kln 20)) := by decide +kernel
  show Q (((((((101 : Int32).toInt64 <<< ((8 : Int32).toInt64 &&& 63)) ||| (108 : Int32).toInt64) <<< ((8 : Int32).toInt64 &&& 63)) ||| (115 : Int32).toInt64) <<< ((8 : Int32).toInt64 &&& 63)) ||| (101 : Int32).toInt64) μ = _
  rw [e]
theorem ew_21 {Q : Int64 → Me → Prop} : S_X11_w3 101 110 100 μ Q = Q (lN (pkN (kch 21) (kln 21))) μ := by
  have e : (((((101 : Int32).toInt64 <<< ((8 : Int32).toInt64 &&& 63)) ||| (110 : Int32).toInt64) <<< ((8 : Int32).toInt64 &&& 63)) ||| (100 : Int32).toInt64) = lN (pkN (kch 21) (kln 21)) := by decide +kernel
  show Q (((((101 : Int32).toInt64 <<< ((8 : Int32).toInt64 &&& 63)) ||| (110 : Int32).toInt64) <<< ((8 : Int32).toInt64 &&& 63)) ||| (100 : Int32).toInt64) μ = _
  rw [e]
theorem ew_22 {Q : Int64 → Me → Prop} : S_X11_w2 111 114 μ Q = Q (lN (pkN (kch 22) (kln 22))) μ := by
  have e : (((111 : Int32).toInt64 <<< ((8 : Int32).toInt64 &&& 63)) ||| (114 : Int32).toInt64) = lN (pkN (kch 22) (kln 22)) := by decide +kernel
  show Q (((111 : Int32).toInt64 <<< ((8 : Int32).toInt64 &&& 63)) ||| (114 : Int32).toInt64) μ = _
  rw [e]
theorem ew_23 {Q : Int64 → Me → Prop} : S_X11_w3 120 111 114 μ Q = Q (lN (pkN (kch 23) (kln 23))) μ := by
  have e : (((((120 : Int32).toInt64 <<< ((8 : Int32).toInt64 &&& 63)) ||| (111 : Int32).toInt64) <<< ((8 : Int32).toInt64 &&& 63)) ||| (114 : Int32).toInt64) = lN (pkN (kch 23) (kln 23)) := by decide +kernel
  show Q (((((120 : Int32).toInt64 <<< ((8 : Int32).toInt64 &&& 63)) ||| (111 : Int32).toInt64) <<< ((8 : Int32).toInt64 &&& 63)) ||| (114 : Int32).toInt64) μ = _
  rw [e]
theorem ew_24 {Q : Int64 → Me → Prop} : S_X11_w3 97 110 100 μ Q = Q (lN (pkN (kch 24) (kln 24))) μ := by
  have e : (((((97 : Int32).toInt64 <<< ((8 : Int32).toInt64 &&& 63)) ||| (110 : Int32).toInt64) <<< ((8 : Int32).toInt64 &&& 63)) ||| (100 : Int32).toInt64) = lN (pkN (kch 24) (kln 24)) := by decide +kernel
  show Q (((((97 : Int32).toInt64 <<< ((8 : Int32).toInt64 &&& 63)) ||| (110 : Int32).toInt64) <<< ((8 : Int32).toInt64 &&& 63)) ||| (100 : Int32).toInt64) μ = _
  rw [e]
theorem ew_25 {Q : Int64 → Me → Prop} : S_X11_w3 110 111 116 μ Q = Q (lN (pkN (kch 25) (kln 25))) μ := by
  have e : (((((110 : Int32).toInt64 <<< ((8 : Int32).toInt64 &&& 63)) ||| (111 : Int32).toInt64) <<< ((8 : Int32).toInt64 &&& 63)) ||| (116 : Int32).toInt64) = lN (pkN (kch 25) (kln 25)) := by decide +kernel
  show Q (((((110 : Int32).toInt64 <<< ((8 : Int32).toInt64 &&& 63)) ||| (111 : Int32).toInt64) <<< ((8 : Int32).toInt64 &&& 63)) ||| (116 : Int32).toInt64) μ = _
  rw [e]
theorem sgN_t : ∀ x, x < 256 → ∀ i, i < 11 → (sgN x = 30 + i ↔ x = sgL.getD i 0) := by decide +kernel
theorem sgN_c : ∀ x, x < 256 → sgN x < 41 ∨ sgN x = 52 := by decide +kernel
theorem wkd_le (p m : Nat) : wkd b p m < 26 ∨ wkd b p m = 52 := by
  unfold wkd
  cases hf : kwL.findIdx? (eqW b p m) with
  | none => exact Or.inr rfl
  | some k =>
    have := (List.findIdx?_eq_some_iff_getElem.1 hf).1
    have h2 : kwL.length = 26 := kw_len
    exact Or.inl (by show k < 26; omega)
/-- the reference's code of a token, and the token's kind -/
theorem tv_all (hb : ∀ k, k < L → b k < 256) (p : Nat) : (tvM b L p = 0 ↔ tkK b L p = 51) ∧ (tvM b L p = 1 ↔ tkK b L p = 50) ∧ (tkK b L p < 26 → tvM b L p = 2) ∧ (tvM b L p = 2 → tkK b L p < 26 ∨ tkK b L p = 52) ∧ (tvM b L p = 4 ↔ tkK b L p = 41) ∧ (tvM b L p = 5 ↔ tkK b L p = 42) ∧ (∀ i, i < 11 → (tvM b L p = sgL.getD i 0 ↔ tkK b L p = 30 + i)) ∧ tvM b L p < 256 := by
  have hsl : ∀ i, i < 11 → sgL.getD i 0 = [43, 45, 42, 47, 40, 41, 59, 60, 62, 61, 35].getD i 0 ∧ 35 ≤ sgL.getD i 0 ∧ sgL.getD i 0 < 256 ∧ sgL.getD i 0 ≠ 58 := by decide
  unfold tvM
  by_cases c1 : L ≤ p
  · have e : tkK b L p = 51 := by
      unfold tkK
      rw [if_pos c1]
    rw [if_pos c1, e]
    refine ⟨by omega, by omega, by omega, by omega, by omega, by omega, fun i hi => ?_, by omega⟩
    have := hsl i hi
    omega
  · rw [if_neg c1]
    by_cases c2 : isD (b p) = true
    · have e : tkK b L p = 50 := by
        unfold tkK
        rw [if_neg c1, if_pos c2]
      rw [if_pos c2, e]
      refine ⟨by omega, by omega, by omega, by omega, by omega, by omega, fun i hi => ?_, by omega⟩
      have := hsl i hi
      omega
    · rw [if_neg c2]
      by_cases c3 : isLt (b p) = true
      · have e : tkK b L p = wkd b p (endR isLt b L (p + 1) - p) := by
          unfold tkK
          rw [if_neg c1, if_neg c2, if_pos c3]
        have w := wkd_le (b := b) p (endR isLt b L (p + 1) - p)
        rw [if_pos c3, e]
        refine ⟨by omega, by omega, by omega, by omega, by omega, by omega, fun i hi => ?_, by omega⟩
        have := hsl i hi
        omega
      · rw [if_neg c3]
        have e : tkK b L p = sgK (b p) (if p + 1 < L then b (p + 1) else 0) := by
          unfold tkK
          rw [if_neg c1, if_neg c2, if_neg c3]
        have hx := hb p (by omega)
        generalize (if p + 1 < L then b (p + 1) else 0) = y at e
        generalize b p = x at e hx
        have hc := sgN_c x hx
        unfold sgK at e
        by_cases d1 : x = 60 ∧ y = 61
        · rw [if_pos d1] at e
          rw [if_pos e, e]
          refine ⟨by omega, by omega, by omega, by omega, by omega, by omega, fun i hi => ?_, by omega⟩
          have := hsl i hi
          omega
        · rw [if_neg d1] at e
          by_cases d2 : x = 62 ∧ y = 61
          · rw [if_pos d2] at e
            rw [if_neg (by omega), if_pos e, e]
            refine ⟨by omega, by omega, by omega, by omega, by omega, by omega, fun i hi => ?_, by omega⟩
            have := hsl i hi
            omega
          · rw [if_neg d2] at e
            rw [if_neg (by omega), if_neg (by omega), e]
            have h30 : 30 ≤ sgN x := by
              have := sgK_ge x 0
              unfold sgK at this
              rw [if_neg (by omega), if_neg (by omega)] at this
              exact this
            by_cases d3 : x = 58 ∨ sgN x ≠ 52
            · rw [if_pos d3]
              have h33 : 35 ≤ x := by
                rcases d3 with d3 | d3
                · omega
                · have q := (sgN_t x hx (sgN x - 30) (by omega)).1 (by omega)
                  have := hsl (sgN x - 30) (by omega)
                  omega
              refine ⟨by omega, by omega, by omega, by omega, by omega, by omega, fun i hi => ?_, by omega⟩
              exact (sgN_t x hx i hi).symm
            · rw [if_neg d3]
              refine ⟨by omega, by omega, by omega, by omega, by omega, by omega, fun i hi => ?_, by omega⟩
              have := hsl i hi
              omega
end MW
