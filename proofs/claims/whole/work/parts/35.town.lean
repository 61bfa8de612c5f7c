/-! what a town is, made: its arrays, references, moments -/
/-- an object is as it was -/
def Rw (μ ν : Me) (a : Nat) : Prop := mkd ν a = mkd μ a ∧ mln ν a = mln μ a ∧ ∀ q, mgi ν a q = mgi μ a q ∧ mgl ν a q = mgl μ a q ∧ mgr ν a q = mgr μ a q
theorem rw_ok {μ ν : Me} {a c : Nat} (h : Rw μ ν a) (hn : mnn μ ≤ mnn ν) (k : mok μ a c) : mok ν a c := ⟨Nat.lt_of_lt_of_le k.1 hn, h.1.trans k.2⟩
theorem MomI_rw {μ ν : Me} {m : Nat} (h : MomI μ m) (hn : mnn μ ≤ mnn ν) (hr : ∀ a, m ≤ a → a < m + 4 → Rw μ ν a) : MomI ν m := by
  have r0 := hr m (by omega) (by omega)
  have r1 := hr (m + 1) (by omega) (by omega)
  have r2 := hr (m + 2) (by omega) (by omega)
  have r3 := hr (m + 3) (by omega) (by omega)
  obtain ⟨h0, ⟨h1, h1b⟩, ⟨h2, h2b⟩, ⟨h3, h3b⟩, ⟨g5, g6, g7⟩, hz, hy⟩ := h
  refine ⟨rw_ok r0 hn h0, ⟨rw_ok r1 hn h1, r1.2.1.trans h1b⟩, ⟨rw_ok r2 hn h2, r2.2.1.trans h2b⟩, ⟨rw_ok r3 hn h3, r3.2.1.trans h3b⟩, ⟨(r0.2.2 5).2.2.trans g5, (r0.2.2 6).2.2.trans g6, (r0.2.2 7).2.2.trans g7⟩, fun q => (r0.2.2 q).1.trans (hz q), fun q => ⟨(r1.2.2 q).1.trans (hy q).1, (r2.2.2 q).1.trans (hy q).2.1, (r3.2.2 q).2.1.trans (hy q).2.2⟩⟩
/-- the town's own rows, without its moments -/
def TwA (ν : Me) (t hn : Nat) : Prop := mok ν t 9 ∧ ((mok ν (t + 1) 12 ∧ mln ν (t + 1) = 8) ∧ (mok ν (t + 2) 12 ∧ mln ν (t + 2) = 4) ∧ (mok ν (t + 3) 12 ∧ mln ν (t + 3) = 8) ∧ (mok ν (t + 4) 12 ∧ mln ν (t + 4) = 8) ∧ (mok ν (t + 5) 12 ∧ mln ν (t + 5) = 8) ∧ (mok ν (t + 6) 12 ∧ mln ν (t + 6) = 8) ∧ (mok ν (t + 7) 12 ∧ mln ν (t + 7) = 8) ∧ (mok ν (t + 8) 12 ∧ mln ν (t + 8) = 8) ∧ (mok ν (t + 9) 12 ∧ mln ν (t + 9) = 8)) ∧ (mgr ν t 1 = some (t + 1) ∧ mgr ν t 2 = some (t + 2) ∧ mgr ν t 3 = some (t + 3) ∧ mgr ν t 4 = some (t + 4) ∧ mgr ν t 5 = some (t + 5) ∧ mgr ν t 9 = some (t + 6) ∧ mgr ν t 10 = some (t + 7) ∧ mgr ν t 12 = some (t + 8) ∧ mgr ν t 13 = some (t + 9)) ∧ (∀ q, mgi ν t q = if q = 7 then -1 else 0) ∧ (∀ q, mgi ν (t + 1) q = 0 ∧ mgi ν (t + 2) q = 0 ∧ mgi ν (t + 3) q = 0 ∧ mgi ν (t + 4) q = 0 ∧ mgi ν (t + 6) q = 0 ∧ mgi ν (t + 7) q = 0 ∧ mgi ν (t + 8) q = 0 ∧ mgi ν (t + 9) q = 0) ∧ (∀ q, mgi ν (t + 5) q = if q < hn then 255 else 0)
theorem TwA_rw {μ ν : Me} {t hn : Nat} (h : TwA μ t hn) (hm : mnn μ ≤ mnn ν) (h0 : mkd ν t = mkd μ t ∧ (∀ q, mgi ν t q = mgi μ t q) ∧ ∀ q, q < 14 → mgr ν t q = mgr μ t q) (hr : ∀ a, t < a → a < t + 10 → Rw μ ν a) : TwA ν t hn := by
  have r1 := hr (t + 1) (by omega) (by omega)
  have r2 := hr (t + 2) (by omega) (by omega)
  have r3 := hr (t + 3) (by omega) (by omega)
  have r4 := hr (t + 4) (by omega) (by omega)
  have r5 := hr (t + 5) (by omega) (by omega)
  have r6 := hr (t + 6) (by omega) (by omega)
  have r7 := hr (t + 7) (by omega) (by omega)
  have r8 := hr (t + 8) (by omega) (by omega)
  have r9 := hr (t + 9) (by omega) (by omega)
  obtain ⟨k0, ⟨⟨k1, l1⟩, ⟨k2, l2⟩, ⟨k3, l3⟩, ⟨k4, l4⟩, ⟨k5, l5⟩, ⟨k6, l6⟩, ⟨k7, l7⟩, ⟨k8, l8⟩, ⟨k9, l9⟩⟩, ⟨g1, g2, g3, g4, g5, g9, g10, g12, g13⟩, hz, hy, hx⟩ := h
  refine ⟨⟨Nat.lt_of_lt_of_le k0.1 hm, h0.1.trans k0.2⟩, ⟨⟨rw_ok r1 hm k1, r1.2.1.trans l1⟩, ⟨rw_ok r2 hm k2, r2.2.1.trans l2⟩, ⟨rw_ok r3 hm k3, r3.2.1.trans l3⟩, ⟨rw_ok r4 hm k4, r4.2.1.trans l4⟩, ⟨rw_ok r5 hm k5, r5.2.1.trans l5⟩, ⟨rw_ok r6 hm k6, r6.2.1.trans l6⟩, ⟨rw_ok r7 hm k7, r7.2.1.trans l7⟩, ⟨rw_ok r8 hm k8, r8.2.1.trans l8⟩, ⟨rw_ok r9 hm k9, r9.2.1.trans l9⟩⟩, ⟨(h0.2.2 1 (by decide)).trans g1, (h0.2.2 2 (by decide)).trans g2, (h0.2.2 3 (by decide)).trans g3, (h0.2.2 4 (by decide)).trans g4, (h0.2.2 5 (by decide)).trans g5, (h0.2.2 9 (by decide)).trans g9, (h0.2.2 10 (by decide)).trans g10, (h0.2.2 12 (by decide)).trans g12, (h0.2.2 13 (by decide)).trans g13⟩, fun q => (h0.2.1 q).trans (hz q), fun q => ⟨(r1.2.2 q).1.trans (hy q).1, (r2.2.2 q).1.trans (hy q).2.1, (r3.2.2 q).1.trans (hy q).2.2.1, (r4.2.2 q).1.trans (hy q).2.2.2.1, (r6.2.2 q).1.trans (hy q).2.2.2.2.1, (r7.2.2 q).1.trans (hy q).2.2.2.2.2.1, (r8.2.2 q).1.trans (hy q).2.2.2.2.2.2.1, (r9.2.2 q).1.trans (hy q).2.2.2.2.2.2.2⟩, fun q => (r5.2.2 q).1.trans (hx q)⟩
/-- the whole town: hears filled up to hn, pn past moments made -/
def TwP (ν : Me) (t hn pn : Nat) : Prop := TwA ν t hn ∧ mgr ν t 14 = some (t + 10) ∧ mgr ν t 15 = some (t + 14) ∧ MomI ν (t + 10) ∧ (mok ν (t + 14) 15 ∧ mln ν (t + 14) = 30) ∧ ∀ i, i < pn → mgr ν (t + 14) i = some (t + 15 + 4 * i) ∧ MomI ν (t + 15 + 4 * i)
theorem TwP_rw {μ ν : Me} {t hn pn : Nat} (h : TwP μ t hn pn) (hm : mnn μ ≤ mnn ν) (hr : ∀ a, t ≤ a → a < t + 15 + 4 * pn → Rw μ ν a) : TwP ν t hn pn := by
  have r0 := hr t (by omega) (by omega)
  have r4 := hr (t + 14) (by omega) (by omega)
  obtain ⟨h1, g14, g15, h2, ⟨k, l⟩, h3⟩ := h
  refine ⟨TwA_rw h1 hm ⟨r0.1, fun q => (r0.2.2 q).1, fun q _ => (r0.2.2 q).2.2⟩ (fun a ha hb => hr a (by omega) (by omega)), (r0.2.2 14).2.2.trans g14, (r0.2.2 15).2.2.trans g15, MomI_rw h2 hm (fun a ha hb => hr a (by omega) (by omega)), ⟨rw_ok r4 hm k, r4.2.1.trans l⟩, fun i hi => ⟨(r4.2.2 i).2.2.trans (h3 i hi).1, MomI_rw (h3 i hi).2 hm (fun a ha hb => hr a (by omega) (by omega))⟩⟩
