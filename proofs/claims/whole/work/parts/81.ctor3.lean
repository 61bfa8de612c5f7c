/-! what the constructors make: the class and the reference, all of it -/
/-- references that are made once, by object -/
def rsF (o : Nat) : List (Nat × Nat) := if kdF o = 3 then [(5, o + 1), (6, o + 2), (7, o + 3)] else if kdF o = 7 then [(0, o + 1), (1, o + 2), (7, o + 3)] else if o = 1 ∨ o = 136 then (List.range 9).map (fun i => (tsL i, o + 1 + i)) ++ [(14, o + 10), (15, o + 14)] else if o = 15 ∨ o = 150 then (List.range 30).map (fun i => (i, o + 1 + 4 * i)) else if o = 271 then [(0, 272)] else if o = 273 then [(0, 274), (1, 278), (2, 282), (3, 286)] else if o = 290 then [(0, 291)] else if o = 291 then [(0, 292), (1, 293), (2, 294)] else if o = 299 then [(0, 1), (1, 273), (2, 300)] else if o = 301 then [(0, 1), (1, 299), (2, 302)] else if o = 306 then [(0, 1), (1, 299), (2, 307), (3, 308), (4, 309)] else if o = 310 then [(0, 1), (1, 306), (2, 311), (3, 312), (4, 313)] else []
/-- ints as they are first -/
def giF (o q : Nat) : Int32 := if kdF o = 3 then (if q = 4 then 229 else 0) else if o = 1 ∨ o = 136 then (if q = 7 then -1 else 0) else if o = 6 ∨ o = 141 then (if q < 8 then 255 else 0) else if o = 306 then (if q = 5 then 1 else 0) else 0
def Pk (ν : Me) (o c n : Nat) (rs : List (Nat × Nat)) (g : Nat → Int32) : Prop := o < mnn ν ∧ mkd ν o = c ∧ mln ν o = n ∧ (c ≠ 13 → c ≠ 15 → ∀ q, mgi ν o q = g q) ∧ ∀ e ∈ rs, mgr ν o e.1 = some e.2
theorem Pk_rw {μ ν : Me} {o c n : Nat} {rs : List (Nat × Nat)} {g : Nat → Int32} (h : Pk μ o c n rs g) (hn : mnn μ ≤ mnn ν) (r : Rw μ ν o) : Pk ν o c n rs g := ⟨Nat.lt_of_lt_of_le h.1 hn, r.1.trans h.2.1, r.2.1.trans h.2.2.1, fun hc hd q => (r.2.2 q).1.trans (h.2.2.2.1 hc hd q), fun e he => (r.2.2 _).2.2.trans (h.2.2.2.2 e he)⟩
theorem Fo_pk {ν : Me} {o c n : Nat} (h : Fo ν o c n) : Pk ν o c n [] (fun _ => 0) := ⟨h.1, h.2.1, h.2.2.1, fun _ _ q => (h.2.2.2 q).1, fun e he => by cases he⟩
def All (ν : Me) (lo hi : Nat) : Prop := ∀ o, lo ≤ o → o < hi → Pk ν o (kdF o) (lnF o) (rsF o) (giF o)
theorem All_rw {μ ν : Me} {lo hi : Nat} (h : All μ lo hi) (hn : mnn μ ≤ mnn ν) (r : ∀ a, lo ≤ a → a < hi → Rw μ ν a) : All ν lo hi := fun o h1 h2 => Pk_rw (h o h1 h2) hn (r o h1 h2)
theorem All_j {ν : Me} {lo mi hi : Nat} (h : All ν lo mi) (k : All ν mi hi) : All ν lo hi := fun o h1 h2 => if c : o < mi then h o h1 c else k o (by omega) h2
theorem pk_e {ν : Me} {o c n c' n' : Nat} {rs rs' : List (Nat × Nat)} {g g' : Nat → Int32} (h : Pk ν o c n rs g) (e1 : c = c') (e2 : n = n') (e3 : rs = rs') (e4 : ∀ q, g q = g' q) : Pk ν o c' n' rs' g' := by
  subst e1 e2 e3
  exact ⟨h.1, h.2.1, h.2.2.1, fun hc hd q => (h.2.2.2.1 hc hd q).trans (e4 q), h.2.2.2.2⟩
theorem gi_0 {o : Nat} (h1 : kdF o ≠ 3) (h2 : ¬ (o = 1 ∨ o = 136)) (h3 : ¬ (o = 6 ∨ o = 141)) (h4 : o ≠ 306) (q : Nat) : (0 : Int32) = giF o q := by
  unfold giF
  rw [if_neg h1, if_neg h2, if_neg h3, if_neg h4]
theorem gi_t {o : Nat} (hk : kdF o = 9) (ht : o = 1 ∨ o = 136) (q : Nat) : giF o q = if q = 7 then -1 else 0 := by
  unfold giF
  rw [if_neg (show ¬ kdF o = 3 by rw [hk]; decide), if_pos ht]
theorem gi_h {o : Nat} (hk : kdF o = 12) (ht : o = 6 ∨ o = 141) (q : Nat) : giF o q = if q < 8 then 255 else 0 := by
  unfold giF
  rw [if_neg (show ¬ kdF o = 3 by rw [hk]; decide), if_neg (show ¬ (o = 1 ∨ o = 136) by omega), if_pos ht]
theorem gi_m {o : Nat} (hk : kdF o = 3) (q : Nat) : giF o q = if q = 4 then 229 else 0 := by
  unfold giF
  rw [if_pos hk]
/-- plain arrays -/
theorem all_1 {ν : Me} {o n : Nat} {f : Nat → Int32} (h0 : mok ν o 12) (hn : mln ν o = n) (hg : ∀ q, mgi ν o q = f q) (hk : kdF o = 12) (hl : lnF o = n) (hr : rsF o = []) (hf : ∀ q, f q = giF o q) : Pk ν o (kdF o) (lnF o) (rsF o) (giF o) := ⟨h0.1, h0.2.trans hk.symm, hn.trans hl.symm, fun _ _ q => (hg q).trans (hf q), fun e he => by rw [hr] at he; cases he⟩
theorem mom_t1 : ∀ m, m < 314 → kdF m = 3 → lnF m = 0 ∧ (m + 3 < 136 ∨ 141 < m) ∧ 6 < m ∧ m ≠ 303 ∧ m ≠ 304 ∧ m ≠ 305 := by decide +kernel
theorem mom_t2 : ∀ m, m < 314 → kdF m = 3 → (rsF (m + 1)).isEmpty = true ∧ (rsF (m + 2)).isEmpty = true ∧ (rsF (m + 3)).isEmpty = true := by decide +kernel
theorem emp {α : Type} {l : List α} (h : l.isEmpty = true) : l = [] := by
  cases l with
  | nil => rfl
  | cons => cases h
theorem all_mom {ν : Me} {m : Nat} (hm : m < 314) (hk : kdF m = 3) (h : MomJ ν m) : All ν m (m + 4) := by
  obtain ⟨⟨a0, ⟨a1, b1⟩, ⟨a2, b2⟩, ⟨a3, b3⟩, ⟨r5, r6, r7⟩, z, y⟩, l0⟩ := h
  obtain ⟨t1, t2, t3, u1, u2, u3, -⟩ := mom_kd m (by omega) hk
  obtain ⟨t0, t4, t5, t6, t7, t8⟩ := mom_t1 m hm hk
  obtain ⟨v1, v2, v3⟩ := mom_t2 m hm hk
  intro o h1 h2
  have hc : o = m ∨ o = m + 1 ∨ o = m + 2 ∨ o = m + 3 := by omega
  rcases hc with e | e | e | e
  · subst e
    refine ⟨a0.1, a0.2.trans hk.symm, l0.trans t0.symm, fun _ _ q => ?_, fun e he => ?_⟩
    · rw [z q, gi_m hk]
    · unfold rsF at he
      rw [if_pos hk] at he
      simp only [List.mem_cons, List.not_mem_nil, or_false] at he
      rcases he with e | e | e <;> subst e
      · exact r5
      · exact r6
      · exact r7
  · subst e
    exact all_1 a1 b1 (f := fun _ => 0) (fun q => (y q).1) t1 u1 (emp v1) (gi_0 (by rw [t1]; decide) (by omega) (by omega) (by omega))
  · subst e
    exact all_1 a2 b2 (f := fun _ => 0) (fun q => (y q).2.1) t2 u2 (emp v2) (gi_0 (by rw [t2]; decide) (by omega) (by omega) (by omega))
  · subst e
    exact ⟨a3.1, a3.2.trans t3.symm, b3.trans u3.symm, fun hc _ => absurd t3 hc, fun e he => by rw [emp v3] at he; cases he⟩
theorem tw_t1 : ∀ i, i < 9 → (kdF (2 + i) = 12 ∧ lnF (2 + i) = tlL i ∧ (rsF (2 + i)).isEmpty = true) ∧ (kdF (137 + i) = 12 ∧ lnF (137 + i) = tlL i ∧ (rsF (137 + i)).isEmpty = true) := by decide +kernel
theorem rs_15 : rsF 15 = (List.range 30).map (fun i => (i, 15 + 1 + 4 * i)) := by decide +kernel
theorem rs_150 : rsF 150 = (List.range 30).map (fun i => (i, 150 + 1 + 4 * i)) := by decide +kernel
theorem rs_1 : rsF 1 = (List.range 9).map (fun i => (tsL i, 1 + 1 + i)) ++ [(14, 1 + 10), (15, 1 + 14)] := by decide +kernel
theorem rs_136 : rsF 136 = (List.range 9).map (fun i => (tsL i, 136 + 1 + i)) ++ [(14, 136 + 10), (15, 136 + 14)] := by decide +kernel
theorem all_town {ν : Me} {t : Nat} (ht : t = 1 ∨ t = 136) (h : TwQ ν t 8 30) : All ν t (t + 135) := by
  obtain ⟨h1, ⟨h2, h2b⟩, h3, h4, h5, h6, h7, ⟨h8, h8b⟩, h9⟩ := h
  have hrs : rsF t = (List.range 9).map (fun i => (tsL i, t + 1 + i)) ++ [(14, t + 10), (15, t + 14)] := by
    rcases ht with e | e <;> subst e
    · exact rs_1
    · exact rs_136
  have hr15 : rsF (t + 14) = (List.range 30).map (fun i => (i, t + 14 + 1 + 4 * i)) := by
    rcases ht with e | e <;> subst e
    · exact rs_15
    · exact rs_150
  have hk : kdF t = 9 ∧ lnF t = 0 ∧ kdF (t + 14) = 15 ∧ lnF (t + 14) = 30 ∧ kdF (t + 10) = 3 := by
    rcases ht with e | e <;> subst e <;> decide
  intro o a1 a2
  by_cases c1 : o = t
  · subst c1
    refine ⟨h2, h1.trans hk.1.symm, h2b.trans hk.2.1.symm, fun _ _ q => ?_, fun e he => ?_⟩
    · rw [(h3 q).1, gi_t hk.1 ht]
    · rw [hrs] at he
      rcases List.mem_append.1 he with x | x
      · obtain ⟨i, hi, rfl⟩ := List.mem_map.1 x
        exact (h4 i (List.mem_range.1 hi)).2.2.2.2
      · simp only [List.mem_cons, List.not_mem_nil, or_false] at x
        rcases x with x | x <;> subst x
        · exact h5
        · exact h6
  · by_cases c2 : o < t + 10
    · obtain ⟨i, hi, rfl⟩ : ∃ i, i < 9 ∧ o = t + 1 + i := ⟨o - t - 1, by omega, by omega⟩
      obtain ⟨f1, f2, f3, f4, f5⟩ := h4 i hi
      have hk2 : kdF (t + 1 + i) = 12 ∧ lnF (t + 1 + i) = tlL i ∧ (rsF (t + 1 + i)).isEmpty = true := by
        rcases ht with e | e <;> subst e
        · exact (tw_t1 i hi).1
        · exact (tw_t1 i hi).2
      refine all_1 ⟨f1, f2⟩ f3 (fun q => (f4 q).1) hk2.1 hk2.2.1 (emp hk2.2.2) (fun q => ?_)
      by_cases c3 : i = 4
      · subst c3
        rw [gi_h hk2.1 (by omega)]
        by_cases cq : q < 8
        · rw [if_pos ⟨rfl, cq⟩, if_pos cq]
        · rw [if_neg (fun x => cq x.2), if_neg cq]
      · rw [if_neg (fun x => c3 x.1)]
        exact gi_0 (by rw [hk2.1]; decide) (by omega) (by omega) (by omega) q
    · by_cases c3 : o < t + 14
      · exact all_mom (by omega) hk.2.2.2.2 h7 o (by omega) (by omega)
      · by_cases c4 : o = t + 14
        · subst c4
          refine ⟨h8.1, h8.2.trans hk.2.2.1.symm, h8b.trans hk.2.2.2.1.symm, fun _ hd => absurd hk.2.2.1 hd, fun e he => ?_⟩
          · rw [hr15] at he
            obtain ⟨i, hi, rfl⟩ := List.mem_map.1 he
            have := (h9 i (List.mem_range.1 hi)).1
            rw [show t + 14 + 1 + 4 * i = t + 15 + 4 * i by omega]
            exact this
        · obtain ⟨i, r, hi, hr, rfl⟩ : ∃ i r, i < 30 ∧ r < 4 ∧ o = t + 15 + 4 * i + r := ⟨(o - t - 15) / 4, (o - t - 15) % 4, by omega, by omega, by omega⟩
          have hk3 : kdF (t + 15 + 4 * i) = 3 := by
            rcases ht with e | e <;> subst e
            · exact (ah_kd i hi).1
            · exact (ah_kd i hi).2
          exact all_mom (by omega) hk3 (h9 i hi).2 _ (by omega) (by omega)
