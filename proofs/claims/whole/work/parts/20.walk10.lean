/-! contracts by program (wip/whole/gen.py) -/
theorem dX11_goneFrom_0 : decode cX11_goneFrom 0 = .ok (.iload_n 1, 1) := by decide +kernel
theorem dX11_goneFrom_1 : decode cX11_goneFrom 1 = .ok (.istore_n 3, 1) := by decide +kernel
theorem dX11_goneFrom_2 : decode cX11_goneFrom 2 = .ok (.iconst 0, 1) := by decide +kernel
theorem dX11_goneFrom_3 : decode cX11_goneFrom 3 = .ok (.istore 4, 2) := by decide +kernel
theorem dX11_goneFrom_5 : decode cX11_goneFrom 5 = .ok (.iload 4, 2) := by decide +kernel
theorem dX11_goneFrom_7 : decode cX11_goneFrom 7 = .ok (.iload_n 2, 1) := by decide +kernel
theorem dX11_goneFrom_8 : decode cX11_goneFrom 8 = .ok (.if_icmp .ge 16, 3) := by decide +kernel
theorem dX11_goneFrom_11 : decode cX11_goneFrom 11 = .ok (.aload_n 0, 1) := by decide +kernel
theorem dX11_goneFrom_12 : decode cX11_goneFrom 12 = .ok (.getfield 50, 3) := by decide +kernel
theorem dX11_goneFrom_15 : decode cX11_goneFrom 15 = .ok (.iload_n 3, 1) := by decide +kernel
theorem dX11_goneFrom_16 : decode cX11_goneFrom 16 = .ok (.iaload, 1) := by decide +kernel
theorem dX11_goneFrom_17 : decode cX11_goneFrom 17 = .ok (.istore_n 3, 1) := by decide +kernel
theorem dX11_goneFrom_18 : decode cX11_goneFrom 18 = .ok (.iinc 4 1, 3) := by decide +kernel
theorem dX11_goneFrom_21 : decode cX11_goneFrom 21 = .ok (.goto (-16), 3) := by decide +kernel
theorem dX11_goneFrom_24 : decode cX11_goneFrom 24 = .ok (.iload_n 3, 1) := by decide +kernel
theorem dX11_goneFrom_25 : decode cX11_goneFrom 25 = .ok (.ireturn, 1) := by decide +kernel
def B_X11_goneFrom_5 (o0 : Nat) (i2 : Int32) (i3 : Int32) (i4 : Int32) (μ : Me) (K5 : Int32 → Int32 → Me → Prop) (Q : Int32 → Me → Prop) : Prop := ((i2 ≤ i4 → Q i3 μ) ∧ (¬ i2 ≤ i4 → mok μ o0 11 ∧ ∃ t2, mgr μ o0 27 = some t2 ∧ mok μ t2 12 ∧ vp_in i3 (mln μ t2) ∧ K5 (mgi μ t2 i3.toNatClampNeg) (i4 + 1) μ))
set_option maxHeartbeats 4000000 in
set_option maxRecDepth 100000 in
theorem tB_X11_goneFrom_5 {x : GX} (f : Fx x cX11_goneFrom RX11 5 (rmc 0 0 0)) {o0 : Nat} {i2 : Int32} {i3 : Int32} {i4 : Int32} {μ : Me} {Q : Int32 → Me → Prop} (hq : Rt x (some .int) (qI Q)) {K5 : Int32 → Int32 → Me → Prop} (hK5 : ∀ (a3 : Int32) (a4 : Int32) (ν : Me), K5 a3 a4 ν → G x 5 5 [(0, .ref (gB x + o0)), (2, .int i2), (3, .int a3), (4, .int a4)] [] ν 0 0) (h : B_X11_goneFrom_5 o0 i2 i3 i4 μ K5 Q) : G x 5 5 [(0, .ref (gB x + o0)), (2, .int i2), (3, .int i3), (4, .int i4)] [] μ 0 0 := by
  unfold B_X11_goneFrom_5 at h
  refine g_iload f 3 dX11_goneFrom_5 rfl ?_
  refine g_iload_n f 1 dX11_goneFrom_7 rfl rfl ?_
  refine g_ic_ge f 24 dX11_goneFrom_8 rfl h (fun h => ?_) (fun h => ?_)
  · refine g_iload_n f 2 dX11_goneFrom_24 rfl rfl ?_
    exact g_iret f hq (Nat.le_of_ble_eq_true rfl) (Nat.le_of_ble_eq_true rfl) dX11_goneFrom_25 h
  · refine g_aload_n f 0 dX11_goneFrom_11 rfl rfl ?_
    obtain ⟨v1, h⟩ := h
    refine g_getR f fk_X11_50 v1 dX11_goneFrom_12 rfl h (fun t2 h => ?_)
    refine g_iload_n f 2 dX11_goneFrom_15 rfl rfl ?_
    obtain ⟨v3, h⟩ := h
    refine g_iald f v3 dX11_goneFrom_16 h (fun h => ?_)
    refine h_istore_n f dX11_goneFrom_17 rfl (by decide) ?_
    refine h_iinc f 3 1 dX11_goneFrom_18 rfl kc_1 (by decide) ?_
    refine g_goto f 5 dX11_goneFrom_21 rfl ?_
    exact h_sub [2, 3, 1, 0] rfl (hK5 _ _ _ h)
def L_X11_goneFrom_5 (o0 : Nat) (i2 : Int32) (i3 : Int32) (i4 : Int32) (μ : Me) (Q : Int32 → Me → Prop) : Prop := ∃ I : Int32 → Int32 → Me → Nat → Prop, (∃ n, I i3 i4 μ n) ∧ ∀ (i3 : Int32) (i4 : Int32) (μ : Me) (n : Nat), I i3 i4 μ n → B_X11_goneFrom_5 o0 i2 i3 i4 μ (fun a3 a4 ν => ∃ n', n' < n ∧ I a3 a4 ν n') Q
set_option maxHeartbeats 4000000 in
set_option maxRecDepth 100000 in
theorem tL_X11_goneFrom_5 {x : GX} (f : Fx x cX11_goneFrom RX11 5 (rmc 0 0 0)) {o0 : Nat} {i2 : Int32} {i3 : Int32} {i4 : Int32} {μ : Me} {Q : Int32 → Me → Prop} (hq : Rt x (some .int) (qI Q)) (h : L_X11_goneFrom_5 o0 i2 i3 i4 μ Q) : G x 5 5 [(0, .ref (gB x + o0)), (2, .int i2), (3, .int i3), (4, .int i4)] [] μ 0 0 := by
  obtain ⟨I, ⟨n, hI⟩, hs⟩ := h
  induction n using Nat.strongRecOn generalizing i3 i4 μ with
  | ind n ih => exact tB_X11_goneFrom_5 f hq (fun a3 a4 ν hk => by obtain ⟨n2, hn, hI2⟩ := hk; exact ih n2 hn hI2) (hs _ _ _ _ hI)
def S_X11_goneFrom (o0 : Nat) (i1 : Int32) (i2 : Int32) (μ : Me) (Q : Int32 → Me → Prop) : Prop := L_X11_goneFrom_5 o0 i2 i1 0 μ Q
set_option maxHeartbeats 4000000 in
set_option maxRecDepth 100000 in
theorem t_X11_goneFrom {x : GX} (f : Fx x cX11_goneFrom RX11 5 (rmc 0 0 0)) {o0 : Nat} {i1 : Int32} {i2 : Int32} {μ : Me} {Q : Int32 → Me → Prop} (hq : Rt x (some .int) (qI Q)) (h : S_X11_goneFrom o0 i1 i2 μ Q) : G x 5 0 [(0, .ref (gB x + o0)), (1, .int i1), (2, .int i2)] [] μ 0 0 := by
  unfold S_X11_goneFrom at h
  refine g_iload_n f 1 dX11_goneFrom_0 rfl rfl ?_
  refine h_istore_n f dX11_goneFrom_1 rfl (by decide) ?_
  refine g_iconst f 0 dX11_goneFrom_2 kc_0 ?_
  refine h_istore f dX11_goneFrom_3 (by decide) ?_
  exact h_sub [2, 4, 1, 0] rfl (tL_X11_goneFrom_5 f hq h)
theorem c_X11_goneFrom {Ω : OM} {o0 : Nat} {i1 : Int32} {i2 : Int32} {μ : Me} {Q : Int32 → Me → Prop} (h : S_X11_goneFrom o0 i1 i2 μ Q) : CT Ω yX11_goneFrom cX11_goneFrom 5 (some .int) (rmc 0 0 0) [.ref (oB Ω + o0), .int i1, .int i2] μ (qI Q) := CT_of (by decide) rfl (by simp [lg_sl, Value.category]) (fun x hΩ f hq hi => by subst hΩ; exact t_X11_goneFrom f hq h)
theorem dX11_isRound_0 : decode cX11_isRound 0 = .ok (.aload_n 0, 1) := by decide +kernel
theorem dX11_isRound_1 : decode cX11_isRound 1 = .ok (.getfield 50, 3) := by decide +kernel
theorem dX11_isRound_4 : decode cX11_isRound 4 = .ok (.iload_n 1, 1) := by decide +kernel
theorem dX11_isRound_5 : decode cX11_isRound 5 = .ok (.iaload, 1) := by decide +kernel
theorem dX11_isRound_6 : decode cX11_isRound 6 = .ok (.istore_n 2, 1) := by decide +kernel
theorem dX11_isRound_7 : decode cX11_isRound 7 = .ok (.iconst 0, 1) := by decide +kernel
theorem dX11_isRound_8 : decode cX11_isRound 8 = .ok (.istore_n 3, 1) := by decide +kernel
theorem dX11_isRound_9 : decode cX11_isRound 9 = .ok (.iload_n 3, 1) := by decide +kernel
theorem dX11_isRound_10 : decode cX11_isRound 10 = .ok (.aload_n 0, 1) := by decide +kernel
theorem dX11_isRound_11 : decode cX11_isRound 11 = .ok (.invokevirtual 70, 3) := by decide +kernel
theorem dX11_isRound_14 : decode cX11_isRound 14 = .ok (.if_icmp .gt 21, 3) := by decide +kernel
theorem dX11_isRound_17 : decode cX11_isRound 17 = .ok (.iload_n 2, 1) := by decide +kernel
theorem dX11_isRound_18 : decode cX11_isRound 18 = .ok (.iload_n 1, 1) := by decide +kernel
theorem dX11_isRound_19 : decode cX11_isRound 19 = .ok (.if_icmp .eq 16, 3) := by decide +kernel
theorem dX11_isRound_22 : decode cX11_isRound 22 = .ok (.aload_n 0, 1) := by decide +kernel
theorem dX11_isRound_23 : decode cX11_isRound 23 = .ok (.getfield 50, 3) := by decide +kernel
theorem dX11_isRound_26 : decode cX11_isRound 26 = .ok (.iload_n 2, 1) := by decide +kernel
theorem dX11_isRound_27 : decode cX11_isRound 27 = .ok (.iaload, 1) := by decide +kernel
theorem dX11_isRound_28 : decode cX11_isRound 28 = .ok (.istore_n 2, 1) := by decide +kernel
theorem dX11_isRound_29 : decode cX11_isRound 29 = .ok (.iinc 3 1, 3) := by decide +kernel
theorem dX11_isRound_32 : decode cX11_isRound 32 = .ok (.goto (-23), 3) := by decide +kernel
theorem dX11_isRound_35 : decode cX11_isRound 35 = .ok (.iload_n 2, 1) := by decide +kernel
theorem dX11_isRound_36 : decode cX11_isRound 36 = .ok (.iload_n 1, 1) := by decide +kernel
theorem dX11_isRound_37 : decode cX11_isRound 37 = .ok (.if_icmp .ne 7, 3) := by decide +kernel
theorem dX11_isRound_40 : decode cX11_isRound 40 = .ok (.iconst 1, 1) := by decide +kernel
theorem dX11_isRound_41 : decode cX11_isRound 41 = .ok (.goto 4, 3) := by decide +kernel
theorem dX11_isRound_44 : decode cX11_isRound 44 = .ok (.iconst 0, 1) := by decide +kernel
theorem dX11_isRound_45 : decode cX11_isRound 45 = .ok (.ireturn, 1) := by decide +kernel
def B_X11_isRound_35 (i1 : Int32) (i2 : Int32) (μ : Me) (Q : Int32 → Me → Prop) : Prop := ((¬ i2 = i1 → Q 0 μ) ∧ (i2 = i1 → Q 1 μ))
set_option maxHeartbeats 4000000 in
set_option maxRecDepth 100000 in
theorem tB_X11_isRound_35 {x : GX} (f : Fx x cX11_isRound RX11 4 (rmc 1 0 0)) {i1 : Int32} {i2 : Int32} {μ : Me} {Q : Int32 → Me → Prop} (hq : Rt x (some .boolean) (qI Q)) (h : B_X11_isRound_35 i1 i2 μ Q) : G x 4 35 [(1, .int i1), (2, .int i2)] [] μ 0 0 := by
  unfold B_X11_isRound_35 at h
  refine g_iload_n f 1 dX11_isRound_35 rfl rfl ?_
  refine g_iload_n f 0 dX11_isRound_36 rfl rfl ?_
  refine g_ic_ne f 44 dX11_isRound_37 rfl h (fun h => ?_) (fun h => ?_)
  · refine g_iconst f 0 dX11_isRound_44 kc_0 ?_
    exact g_zret f hq (Nat.le_of_ble_eq_true rfl) (Nat.le_of_ble_eq_true rfl) dX11_isRound_45 zb_0.1 h
  · refine g_iconst f 1 dX11_isRound_40 kc_1 ?_
    refine g_goto f 45 dX11_isRound_41 rfl ?_
    exact g_zret f hq (Nat.le_of_ble_eq_true rfl) (Nat.le_of_ble_eq_true rfl) dX11_isRound_45 zb_1.1 h
def B_X11_isRound_9 (o0 : Nat) (i1 : Int32) (i2 : Int32) (i3 : Int32) (μ : Me) (K9 : Int32 → Int32 → Me → Prop) (Q : Int32 → Me → Prop) : Prop := mok μ o0 11 ∧ S_X11_all o0 μ (fun r7 μ5 => ((r7 < i3 → B_X11_isRound_35 i1 i2 μ5 Q) ∧ (¬ r7 < i3 → ((i2 = i1 → B_X11_isRound_35 i1 i2 μ5 Q) ∧ (¬ i2 = i1 → ∃ t8, mgr μ5 o0 27 = some t8 ∧ mok μ5 t8 12 ∧ vp_in i2 (mln μ5 t8) ∧ K9 (mgi μ5 t8 i2.toNatClampNeg) (i3 + 1) μ5)))))
set_option maxHeartbeats 4000000 in
set_option maxRecDepth 100000 in
theorem tB_X11_isRound_9 {x : GX} (f : Fx x cX11_isRound RX11 4 (rmc 1 0 0)) {o0 : Nat} {i1 : Int32} {i2 : Int32} {i3 : Int32} {μ : Me} {Q : Int32 → Me → Prop} (hq : Rt x (some .boolean) (qI Q)) {K9 : Int32 → Int32 → Me → Prop} (hK9 : ∀ (a2 : Int32) (a3 : Int32) (ν : Me), K9 a2 a3 ν → G x 4 9 [(0, .ref (gB x + o0)), (1, .int i1), (2, .int a2), (3, .int a3)] [] ν 0 0) (h : B_X11_isRound_9 o0 i1 i2 i3 μ K9 Q) : G x 4 9 [(0, .ref (gB x + o0)), (1, .int i1), (2, .int i2), (3, .int i3)] [] μ 0 0 := by
  unfold B_X11_isRound_9 at h
  refine g_iload_n f 3 dX11_isRound_9 rfl rfl ?_
  refine g_aload_n f 0 dX11_isRound_10 rfl rfl ?_
  obtain ⟨v4, h⟩ := h
  refine g_callV f mk_X11_70 v4 (c_X11_all h) dX11_isRound_11 rfl rfl (Nat.le_of_ble_eq_true rfl) (rm_ok (by decide) (by decide)) ⟨Nat.le_of_ble_eq_true rfl, Nat.le_of_ble_eq_true rfl⟩ (kI fun r7 μ5 x6 h => ?_)
  refine g_ic_gt f 35 dX11_isRound_14 rfl h (fun h => ?_) (fun h => ?_)
  · exact h_sub [1, 2] rfl (tB_X11_isRound_35 f hq h)
  · refine g_iload_n f 2 dX11_isRound_17 rfl rfl ?_
    refine g_iload_n f 1 dX11_isRound_18 rfl rfl ?_
    refine g_ic_eq f 35 dX11_isRound_19 rfl h (fun h => ?_) (fun h => ?_)
    · exact h_sub [1, 2] rfl (tB_X11_isRound_35 f hq h)
    · refine g_aload_n f 0 dX11_isRound_22 rfl rfl ?_
      have v4 := mex_ok x6 v4
      refine g_getR f fk_X11_50 v4 dX11_isRound_23 rfl h (fun t8 h => ?_)
      refine g_iload_n f 2 dX11_isRound_26 rfl rfl ?_
      obtain ⟨v9, h⟩ := h
      refine g_iald f v9 dX11_isRound_27 h (fun h => ?_)
      refine h_istore_n f dX11_isRound_28 rfl (by decide) ?_
      refine h_iinc f 3 1 dX11_isRound_29 rfl kc_1 (by decide) ?_
      refine g_goto f 9 dX11_isRound_32 rfl ?_
      exact h_sub [2, 3, 1, 0] rfl (hK9 _ _ _ h)
def L_X11_isRound_9 (o0 : Nat) (i1 : Int32) (i2 : Int32) (i3 : Int32) (μ : Me) (Q : Int32 → Me → Prop) : Prop := ∃ I : Int32 → Int32 → Me → Nat → Prop, (∃ n, I i2 i3 μ n) ∧ ∀ (i2 : Int32) (i3 : Int32) (μ : Me) (n : Nat), I i2 i3 μ n → B_X11_isRound_9 o0 i1 i2 i3 μ (fun a2 a3 ν => ∃ n', n' < n ∧ I a2 a3 ν n') Q
set_option maxHeartbeats 4000000 in
set_option maxRecDepth 100000 in
theorem tL_X11_isRound_9 {x : GX} (f : Fx x cX11_isRound RX11 4 (rmc 1 0 0)) {o0 : Nat} {i1 : Int32} {i2 : Int32} {i3 : Int32} {μ : Me} {Q : Int32 → Me → Prop} (hq : Rt x (some .boolean) (qI Q)) (h : L_X11_isRound_9 o0 i1 i2 i3 μ Q) : G x 4 9 [(0, .ref (gB x + o0)), (1, .int i1), (2, .int i2), (3, .int i3)] [] μ 0 0 := by
  obtain ⟨I, ⟨n, hI⟩, hs⟩ := h
  induction n using Nat.strongRecOn generalizing i2 i3 μ with
  | ind n ih => exact tB_X11_isRound_9 f hq (fun a2 a3 ν hk => by obtain ⟨n2, hn, hI2⟩ := hk; exact ih n2 hn hI2) (hs _ _ _ _ hI)
def S_X11_isRound (o0 : Nat) (i1 : Int32) (μ : Me) (Q : Int32 → Me → Prop) : Prop := mok μ o0 11 ∧ ∃ t2, mgr μ o0 27 = some t2 ∧ mok μ t2 12 ∧ vp_in i1 (mln μ t2) ∧ L_X11_isRound_9 o0 i1 (mgi μ t2 i1.toNatClampNeg) 0 μ Q
set_option maxHeartbeats 4000000 in
set_option maxRecDepth 100000 in
theorem t_X11_isRound {x : GX} (f : Fx x cX11_isRound RX11 4 (rmc 1 0 0)) {o0 : Nat} {i1 : Int32} {μ : Me} {Q : Int32 → Me → Prop} (hq : Rt x (some .boolean) (qI Q)) (h : S_X11_isRound o0 i1 μ Q) : G x 4 0 [(0, .ref (gB x + o0)), (1, .int i1)] [] μ 0 0 := by
  unfold S_X11_isRound at h
  refine g_aload_n f 0 dX11_isRound_0 rfl rfl ?_
  obtain ⟨v1, h⟩ := h
  refine g_getR f fk_X11_50 v1 dX11_isRound_1 rfl h (fun t2 h => ?_)
  refine g_iload_n f 1 dX11_isRound_4 rfl rfl ?_
  obtain ⟨v3, h⟩ := h
  refine g_iald f v3 dX11_isRound_5 h (fun h => ?_)
  refine h_istore_n f dX11_isRound_6 rfl (by decide) ?_
  refine g_iconst f 0 dX11_isRound_7 kc_0 ?_
  refine h_istore_n f dX11_isRound_8 rfl (by decide) ?_
  exact h_sub [2, 3, 1, 0] rfl (tL_X11_isRound_9 f hq h)
theorem c_X11_isRound {Ω : OM} {o0 : Nat} {i1 : Int32} {μ : Me} {Q : Int32 → Me → Prop} (h : S_X11_isRound o0 i1 μ Q) : CT Ω yX11_isRound cX11_isRound 4 (some .boolean) (rmc 1 0 0) [.ref (oB Ω + o0), .int i1] μ (qI Q) := CT_of (by decide) rfl (by simp [lg_sl, Value.category]) (fun x hΩ f hq hi => by subst hΩ; exact t_X11_isRound f hq h)
theorem dX11_tail_0 : decode cX11_tail 0 = .ok (.aload_n 0, 1) := by decide +kernel
theorem dX11_tail_1 : decode cX11_tail 1 = .ok (.iload_n 1, 1) := by decide +kernel
theorem dX11_tail_2 : decode cX11_tail 2 = .ok (.invokevirtual 329, 3) := by decide +kernel
theorem dX11_tail_5 : decode cX11_tail 5 = .ok (.ifCond .ne 5, 3) := by decide +kernel
theorem dX11_tail_8 : decode cX11_tail 8 = .ok (.iconst (-1), 1) := by decide +kernel
theorem dX11_tail_9 : decode cX11_tail 9 = .ok (.ireturn, 1) := by decide +kernel
theorem dX11_tail_10 : decode cX11_tail 10 = .ok (.aload_n 0, 1) := by decide +kernel
theorem dX11_tail_11 : decode cX11_tail 11 = .ok (.invokevirtual 377, 3) := by decide +kernel
theorem dX11_tail_14 : decode cX11_tail 14 = .ok (.iconst 0, 1) := by decide +kernel
theorem dX11_tail_15 : decode cX11_tail 15 = .ok (.istore_n 2, 1) := by decide +kernel
theorem dX11_tail_16 : decode cX11_tail 16 = .ok (.aload_n 0, 1) := by decide +kernel
theorem dX11_tail_17 : decode cX11_tail 17 = .ok (.aload_n 0, 1) := by decide +kernel
theorem dX11_tail_18 : decode cX11_tail 18 = .ok (.iload_n 1, 1) := by decide +kernel
theorem dX11_tail_19 : decode cX11_tail 19 = .ok (.iload_n 2, 1) := by decide +kernel
theorem dX11_tail_20 : decode cX11_tail 20 = .ok (.invokevirtual 380, 3) := by decide +kernel
theorem dX11_tail_23 : decode cX11_tail 23 = .ok (.invokevirtual 383, 3) := by decide +kernel
theorem dX11_tail_26 : decode cX11_tail 26 = .ok (.ifCond .ne 9, 3) := by decide +kernel
theorem dX11_tail_29 : decode cX11_tail 29 = .ok (.iinc 2 1, 3) := by decide +kernel
theorem dX11_tail_32 : decode cX11_tail 32 = .ok (.goto (-16), 3) := by decide +kernel
theorem dX11_tail_35 : decode cX11_tail 35 = .ok (.iload_n 2, 1) := by decide +kernel
theorem dX11_tail_36 : decode cX11_tail 36 = .ok (.ireturn, 1) := by decide +kernel
def B_X11_tail_16 (o0 : Nat) (i1 : Int32) (i2 : Int32) (μ : Me) (K16 : Int32 → Me → Prop) (Q : Int32 → Me → Prop) : Prop := mok μ o0 11 ∧ S_X11_goneFrom o0 i1 i2 μ (fun r11 μ9 => S_X11_isRound o0 r11 μ9 (fun r14 μ12 => ((¬ r14 = 0 → Q i2 μ12) ∧ (r14 = 0 → K16 (i2 + 1) μ12))))
set_option maxHeartbeats 4000000 in
set_option maxRecDepth 100000 in
theorem tB_X11_tail_16 {x : GX} (f : Fx x cX11_tail RX11 3 (rmc 7 0 0)) {o0 : Nat} {i1 : Int32} {i2 : Int32} {μ : Me} {Q : Int32 → Me → Prop} (hq : Rt x (some .int) (qI Q)) {K16 : Int32 → Me → Prop} (hK16 : ∀ (a2 : Int32) (ν : Me), K16 a2 ν → G x 3 16 [(0, .ref (gB x + o0)), (1, .int i1), (2, .int a2)] [] ν 0 0) (h : B_X11_tail_16 o0 i1 i2 μ K16 Q) : G x 3 16 [(0, .ref (gB x + o0)), (1, .int i1), (2, .int i2)] [] μ 0 0 := by
  unfold B_X11_tail_16 at h
  refine g_aload_n f 0 dX11_tail_16 rfl rfl ?_
  refine g_aload_n f 0 dX11_tail_17 rfl rfl ?_
  refine g_iload_n f 1 dX11_tail_18 rfl rfl ?_
  refine g_iload_n f 2 dX11_tail_19 rfl rfl ?_
  obtain ⟨v8, h⟩ := h
  refine g_callV f mk_X11_380 v8 (c_X11_goneFrom h) dX11_tail_20 rfl rfl (Nat.le_of_ble_eq_true rfl) (rm_ok (by decide) (by decide)) ⟨Nat.le_of_ble_eq_true rfl, Nat.le_of_ble_eq_true rfl⟩ (kI fun r11 μ9 x10 h => ?_)
  have v8 := mex_ok x10 v8
  refine g_callV f mk_X11_383 v8 (c_X11_isRound h) dX11_tail_23 rfl rfl (Nat.le_of_ble_eq_true rfl) (rm_ok (by decide) (by decide)) ⟨Nat.le_of_ble_eq_true rfl, Nat.le_of_ble_eq_true rfl⟩ (kI fun r14 μ12 x13 h => ?_)
  refine g_if_ne f 35 dX11_tail_26 rfl h (fun h => ?_) (fun h => ?_)
  · refine g_iload_n f 2 dX11_tail_35 rfl rfl ?_
    exact g_iret f hq (Nat.le_of_ble_eq_true rfl) (Nat.le_of_ble_eq_true rfl) dX11_tail_36 h
  · refine h_iinc f 2 1 dX11_tail_29 rfl kc_1 (by decide) ?_
    refine g_goto f 16 dX11_tail_32 rfl ?_
    exact h_sub [1, 2, 0] rfl (hK16 _ _ h)
def L_X11_tail_16 (o0 : Nat) (i1 : Int32) (i2 : Int32) (μ : Me) (Q : Int32 → Me → Prop) : Prop := ∃ I : Int32 → Me → Nat → Prop, (∃ n, I i2 μ n) ∧ ∀ (i2 : Int32) (μ : Me) (n : Nat), I i2 μ n → B_X11_tail_16 o0 i1 i2 μ (fun a2 ν => ∃ n', n' < n ∧ I a2 ν n') Q
set_option maxHeartbeats 4000000 in
set_option maxRecDepth 100000 in
theorem tL_X11_tail_16 {x : GX} (f : Fx x cX11_tail RX11 3 (rmc 7 0 0)) {o0 : Nat} {i1 : Int32} {i2 : Int32} {μ : Me} {Q : Int32 → Me → Prop} (hq : Rt x (some .int) (qI Q)) (h : L_X11_tail_16 o0 i1 i2 μ Q) : G x 3 16 [(0, .ref (gB x + o0)), (1, .int i1), (2, .int i2)] [] μ 0 0 := by
  obtain ⟨I, ⟨n, hI⟩, hs⟩ := h
  induction n using Nat.strongRecOn generalizing i2 μ with
  | ind n ih => exact tB_X11_tail_16 f hq (fun a2 ν hk => by obtain ⟨n2, hn, hI2⟩ := hk; exact ih n2 hn hI2) (hs _ _ _ hI)
def S_X11_tail (o0 : Nat) (i1 : Int32) (μ : Me) (Q : Int32 → Me → Prop) : Prop := mok μ o0 11 ∧ S_X11_areRings o0 i1 μ (fun r4 μ2 => ((¬ r4 = 0 → S_X11_layLeads o0 μ2 (fun μ5 => L_X11_tail_16 o0 i1 0 μ5 Q)) ∧ (r4 = 0 → Q (-1) μ2)))
set_option maxHeartbeats 4000000 in
set_option maxRecDepth 100000 in
theorem t_X11_tail {x : GX} (f : Fx x cX11_tail RX11 3 (rmc 7 0 0)) {o0 : Nat} {i1 : Int32} {μ : Me} {Q : Int32 → Me → Prop} (hq : Rt x (some .int) (qI Q)) (h : S_X11_tail o0 i1 μ Q) : G x 3 0 [(0, .ref (gB x + o0)), (1, .int i1)] [] μ 0 0 := by
  unfold S_X11_tail at h
  refine g_aload_n f 0 dX11_tail_0 rfl rfl ?_
  refine g_iload_n f 1 dX11_tail_1 rfl rfl ?_
  obtain ⟨v1, h⟩ := h
  refine g_callV f mk_X11_329 v1 (c_X11_areRings h) dX11_tail_2 rfl rfl (Nat.le_of_ble_eq_true rfl) (rm_ok (by decide) (by decide)) ⟨Nat.le_of_ble_eq_true rfl, Nat.le_of_ble_eq_true rfl⟩ (kI fun r4 μ2 x3 h => ?_)
  refine g_if_ne f 10 dX11_tail_5 rfl h (fun h => ?_) (fun h => ?_)
  · refine g_aload_n f 0 dX11_tail_10 rfl rfl ?_
    have v1 := mex_ok x3 v1
    refine g_callV f mk_X11_377 v1 (c_X11_layLeads h) dX11_tail_11 rfl rfl (Nat.le_of_ble_eq_true rfl) (rm_ok (by decide) (by decide)) ⟨Nat.le_of_ble_eq_true rfl, Nat.le_of_ble_eq_true rfl⟩ (kV fun μ5 x6 h => ?_)
    refine g_iconst f 0 dX11_tail_14 kc_0 ?_
    refine h_istore_n f dX11_tail_15 rfl (by decide) ?_
    exact h_sub [1, 2, 0] rfl (tL_X11_tail_16 f hq h)
  · refine g_iconst f (-1) dX11_tail_8 kc_m1 ?_
    exact g_iret f hq (Nat.le_of_ble_eq_true rfl) (Nat.le_of_ble_eq_true rfl) dX11_tail_9 h
theorem c_X11_tail {Ω : OM} {o0 : Nat} {i1 : Int32} {μ : Me} {Q : Int32 → Me → Prop} (h : S_X11_tail o0 i1 μ Q) : CT Ω yX11_tail cX11_tail 3 (some .int) (rmc 7 0 0) [.ref (oB Ω + o0), .int i1] μ (qI Q) := CT_of (by decide) rfl (by simp [lg_sl, Value.category]) (fun x hΩ f hq hi => by subst hΩ; exact t_X11_tail f hq h)
theorem dX11_round_0 : decode cX11_round 0 = .ok (.aload_n 0, 1) := by decide +kernel
theorem dX11_round_1 : decode cX11_round 1 = .ok (.iload_n 1, 1) := by decide +kernel
theorem dX11_round_2 : decode cX11_round 2 = .ok (.invokevirtual 329, 3) := by decide +kernel
theorem dX11_round_5 : decode cX11_round 5 = .ok (.ifCond .ne 5, 3) := by decide +kernel
theorem dX11_round_8 : decode cX11_round 8 = .ok (.iconst (-1), 1) := by decide +kernel
theorem dX11_round_9 : decode cX11_round 9 = .ok (.ireturn, 1) := by decide +kernel
theorem dX11_round_10 : decode cX11_round 10 = .ok (.aload_n 0, 1) := by decide +kernel
theorem dX11_round_11 : decode cX11_round 11 = .ok (.invokevirtual 377, 3) := by decide +kernel
theorem dX11_round_14 : decode cX11_round 14 = .ok (.aload_n 0, 1) := by decide +kernel
theorem dX11_round_15 : decode cX11_round 15 = .ok (.iload_n 1, 1) := by decide +kernel
theorem dX11_round_16 : decode cX11_round 16 = .ok (.sipush 256, 3) := by decide +kernel
theorem dX11_round_19 : decode cX11_round 19 = .ok (.invokevirtual 380, 3) := by decide +kernel
theorem dX11_round_22 : decode cX11_round 22 = .ok (.istore_n 2, 1) := by decide +kernel
theorem dX11_round_23 : decode cX11_round 23 = .ok (.iconst 1, 1) := by decide +kernel
theorem dX11_round_24 : decode cX11_round 24 = .ok (.istore_n 3, 1) := by decide +kernel
theorem dX11_round_25 : decode cX11_round 25 = .ok (.aload_n 0, 1) := by decide +kernel
theorem dX11_round_26 : decode cX11_round 26 = .ok (.iload_n 2, 1) := by decide +kernel
theorem dX11_round_27 : decode cX11_round 27 = .ok (.iload_n 3, 1) := by decide +kernel
theorem dX11_round_28 : decode cX11_round 28 = .ok (.invokevirtual 380, 3) := by decide +kernel
theorem dX11_round_31 : decode cX11_round 31 = .ok (.iload_n 2, 1) := by decide +kernel
theorem dX11_round_32 : decode cX11_round 32 = .ok (.if_icmp .eq 9, 3) := by decide +kernel
theorem dX11_round_35 : decode cX11_round 35 = .ok (.iinc 3 1, 3) := by decide +kernel
theorem dX11_round_38 : decode cX11_round 38 = .ok (.goto (-13), 3) := by decide +kernel
theorem dX11_round_41 : decode cX11_round 41 = .ok (.iload_n 3, 1) := by decide +kernel
theorem dX11_round_42 : decode cX11_round 42 = .ok (.ireturn, 1) := by decide +kernel
def B_X11_round_25 (o0 : Nat) (i2 : Int32) (i3 : Int32) (μ : Me) (K25 : Int32 → Me → Prop) (Q : Int32 → Me → Prop) : Prop := mok μ o0 11 ∧ S_X11_goneFrom o0 i2 i3 μ (fun r14 μ12 => ((r14 = i2 → Q i3 μ12) ∧ (¬ r14 = i2 → K25 (i3 + 1) μ12)))
set_option maxHeartbeats 4000000 in
set_option maxRecDepth 100000 in
theorem tB_X11_round_25 {x : GX} (f : Fx x cX11_round RX11 4 (rmc 7 0 0)) {o0 : Nat} {i2 : Int32} {i3 : Int32} {μ : Me} {Q : Int32 → Me → Prop} (hq : Rt x (some .int) (qI Q)) {K25 : Int32 → Me → Prop} (hK25 : ∀ (a3 : Int32) (ν : Me), K25 a3 ν → G x 4 25 [(0, .ref (gB x + o0)), (2, .int i2), (3, .int a3)] [] ν 0 0) (h : B_X11_round_25 o0 i2 i3 μ K25 Q) : G x 4 25 [(0, .ref (gB x + o0)), (2, .int i2), (3, .int i3)] [] μ 0 0 := by
  unfold B_X11_round_25 at h
  refine g_aload_n f 0 dX11_round_25 rfl rfl ?_
  refine g_iload_n f 1 dX11_round_26 rfl rfl ?_
  refine g_iload_n f 2 dX11_round_27 rfl rfl ?_
  obtain ⟨v11, h⟩ := h
  refine g_callV f mk_X11_380 v11 (c_X11_goneFrom h) dX11_round_28 rfl rfl (Nat.le_of_ble_eq_true rfl) (rm_ok (by decide) (by decide)) ⟨Nat.le_of_ble_eq_true rfl, Nat.le_of_ble_eq_true rfl⟩ (kI fun r14 μ12 x13 h => ?_)
  refine g_iload_n f 1 dX11_round_31 rfl rfl ?_
  refine g_ic_eq f 41 dX11_round_32 rfl h (fun h => ?_) (fun h => ?_)
  · refine g_iload_n f 2 dX11_round_41 rfl rfl ?_
    exact g_iret f hq (Nat.le_of_ble_eq_true rfl) (Nat.le_of_ble_eq_true rfl) dX11_round_42 h
  · refine h_iinc f 2 1 dX11_round_35 rfl kc_1 (by decide) ?_
    refine g_goto f 25 dX11_round_38 rfl ?_
    exact h_sub [1, 2, 0] rfl (hK25 _ _ h)
def L_X11_round_25 (o0 : Nat) (i2 : Int32) (i3 : Int32) (μ : Me) (Q : Int32 → Me → Prop) : Prop := ∃ I : Int32 → Me → Nat → Prop, (∃ n, I i3 μ n) ∧ ∀ (i3 : Int32) (μ : Me) (n : Nat), I i3 μ n → B_X11_round_25 o0 i2 i3 μ (fun a3 ν => ∃ n', n' < n ∧ I a3 ν n') Q
set_option maxHeartbeats 4000000 in
set_option maxRecDepth 100000 in
theorem tL_X11_round_25 {x : GX} (f : Fx x cX11_round RX11 4 (rmc 7 0 0)) {o0 : Nat} {i2 : Int32} {i3 : Int32} {μ : Me} {Q : Int32 → Me → Prop} (hq : Rt x (some .int) (qI Q)) (h : L_X11_round_25 o0 i2 i3 μ Q) : G x 4 25 [(0, .ref (gB x + o0)), (2, .int i2), (3, .int i3)] [] μ 0 0 := by
  obtain ⟨I, ⟨n, hI⟩, hs⟩ := h
  induction n using Nat.strongRecOn generalizing i3 μ with
  | ind n ih => exact tB_X11_round_25 f hq (fun a3 ν hk => by obtain ⟨n2, hn, hI2⟩ := hk; exact ih n2 hn hI2) (hs _ _ _ hI)
def S_X11_round (o0 : Nat) (i1 : Int32) (μ : Me) (Q : Int32 → Me → Prop) : Prop := mok μ o0 11 ∧ S_X11_areRings o0 i1 μ (fun r4 μ2 => ((¬ r4 = 0 → S_X11_layLeads o0 μ2 (fun μ5 => S_X11_goneFrom o0 i1 256 μ5 (fun r10 μ8 => L_X11_round_25 o0 r10 1 μ8 Q))) ∧ (r4 = 0 → Q (-1) μ2)))
set_option maxHeartbeats 4000000 in
set_option maxRecDepth 100000 in
theorem t_X11_round {x : GX} (f : Fx x cX11_round RX11 4 (rmc 7 0 0)) {o0 : Nat} {i1 : Int32} {μ : Me} {Q : Int32 → Me → Prop} (hq : Rt x (some .int) (qI Q)) (h : S_X11_round o0 i1 μ Q) : G x 4 0 [(0, .ref (gB x + o0)), (1, .int i1)] [] μ 0 0 := by
  unfold S_X11_round at h
  refine g_aload_n f 0 dX11_round_0 rfl rfl ?_
  refine g_iload_n f 1 dX11_round_1 rfl rfl ?_
  obtain ⟨v1, h⟩ := h
  refine g_callV f mk_X11_329 v1 (c_X11_areRings h) dX11_round_2 rfl rfl (Nat.le_of_ble_eq_true rfl) (rm_ok (by decide) (by decide)) ⟨Nat.le_of_ble_eq_true rfl, Nat.le_of_ble_eq_true rfl⟩ (kI fun r4 μ2 x3 h => ?_)
  refine g_if_ne f 10 dX11_round_5 rfl h (fun h => ?_) (fun h => ?_)
  · refine g_aload_n f 0 dX11_round_10 rfl rfl ?_
    have v1 := mex_ok x3 v1
    refine g_callV f mk_X11_377 v1 (c_X11_layLeads h) dX11_round_11 rfl rfl (Nat.le_of_ble_eq_true rfl) (rm_ok (by decide) (by decide)) ⟨Nat.le_of_ble_eq_true rfl, Nat.le_of_ble_eq_true rfl⟩ (kV fun μ5 x6 h => ?_)
    refine g_aload_n f 0 dX11_round_14 rfl rfl ?_
    refine g_iload_n f 1 dX11_round_15 rfl rfl ?_
    refine g_sipush f 256 dX11_round_16 ks_256 ?_
    have v1 := mex_ok x6 v1
    refine g_callV f mk_X11_380 v1 (c_X11_goneFrom h) dX11_round_19 rfl rfl (Nat.le_of_ble_eq_true rfl) (rm_ok (by decide) (by decide)) ⟨Nat.le_of_ble_eq_true rfl, Nat.le_of_ble_eq_true rfl⟩ (kI fun r10 μ8 x9 h => ?_)
    refine h_istore_n f dX11_round_22 rfl (by decide) ?_
    refine g_iconst f 1 dX11_round_23 kc_1 ?_
    refine h_istore_n f dX11_round_24 rfl (by decide) ?_
    exact h_sub [2, 1, 0] rfl (tL_X11_round_25 f hq h)
  · refine g_iconst f (-1) dX11_round_8 kc_m1 ?_
    exact g_iret f hq (Nat.le_of_ble_eq_true rfl) (Nat.le_of_ble_eq_true rfl) dX11_round_9 h
theorem c_X11_round {Ω : OM} {o0 : Nat} {i1 : Int32} {μ : Me} {Q : Int32 → Me → Prop} (h : S_X11_round o0 i1 μ Q) : CT Ω yX11_round cX11_round 4 (some .int) (rmc 7 0 0) [.ref (oB Ω + o0), .int i1] μ (qI Q) := CT_of (by decide) rfl (by simp [lg_sl, Value.category]) (fun x hΩ f hq hi => by subst hΩ; exact t_X11_round f hq h)
theorem dX11_rounds_0 : decode cX11_rounds 0 = .ok (.aload_n 0, 1) := by decide +kernel
theorem dX11_rounds_1 : decode cX11_rounds 1 = .ok (.invokevirtual 377, 3) := by decide +kernel
theorem dX11_rounds_4 : decode cX11_rounds 4 = .ok (.iconst 0, 1) := by decide +kernel
theorem dX11_rounds_5 : decode cX11_rounds 5 = .ok (.istore_n 1, 1) := by decide +kernel
theorem dX11_rounds_6 : decode cX11_rounds 6 = .ok (.iconst 0, 1) := by decide +kernel
theorem dX11_rounds_7 : decode cX11_rounds 7 = .ok (.istore_n 2, 1) := by decide +kernel
theorem dX11_rounds_8 : decode cX11_rounds 8 = .ok (.iload_n 2, 1) := by decide +kernel
theorem dX11_rounds_9 : decode cX11_rounds 9 = .ok (.aload_n 0, 1) := by decide +kernel
theorem dX11_rounds_10 : decode cX11_rounds 10 = .ok (.invokevirtual 70, 3) := by decide +kernel
theorem dX11_rounds_13 : decode cX11_rounds 13 = .ok (.if_icmp .gt 69, 3) := by decide +kernel
theorem dX11_rounds_16 : decode cX11_rounds 16 = .ok (.aload_n 0, 1) := by decide +kernel
theorem dX11_rounds_17 : decode cX11_rounds 17 = .ok (.iload_n 2, 1) := by decide +kernel
theorem dX11_rounds_18 : decode cX11_rounds 18 = .ok (.invokevirtual 383, 3) := by decide +kernel
theorem dX11_rounds_21 : decode cX11_rounds 21 = .ok (.istore_n 3, 1) := by decide +kernel
theorem dX11_rounds_22 : decode cX11_rounds 22 = .ok (.aload_n 0, 1) := by decide +kernel
theorem dX11_rounds_23 : decode cX11_rounds 23 = .ok (.getfield 50, 3) := by decide +kernel
theorem dX11_rounds_26 : decode cX11_rounds 26 = .ok (.iload_n 2, 1) := by decide +kernel
theorem dX11_rounds_27 : decode cX11_rounds 27 = .ok (.iaload, 1) := by decide +kernel
theorem dX11_rounds_28 : decode cX11_rounds 28 = .ok (.istore 4, 2) := by decide +kernel
theorem dX11_rounds_30 : decode cX11_rounds 30 = .ok (.iload_n 3, 1) := by decide +kernel
theorem dX11_rounds_31 : decode cX11_rounds 31 = .ok (.ifCond .eq 33, 3) := by decide +kernel
theorem dX11_rounds_34 : decode cX11_rounds 34 = .ok (.iload 4, 2) := by decide +kernel
theorem dX11_rounds_36 : decode cX11_rounds 36 = .ok (.iload_n 2, 1) := by decide +kernel
theorem dX11_rounds_37 : decode cX11_rounds 37 = .ok (.if_icmp .eq 27, 3) := by decide +kernel
theorem dX11_rounds_40 : decode cX11_rounds 40 = .ok (.iload 4, 2) := by decide +kernel
theorem dX11_rounds_42 : decode cX11_rounds 42 = .ok (.iload_n 2, 1) := by decide +kernel
theorem dX11_rounds_43 : decode cX11_rounds 43 = .ok (.if_icmp .le 7, 3) := by decide +kernel
theorem dX11_rounds_46 : decode cX11_rounds 46 = .ok (.iconst 1, 1) := by decide +kernel
theorem dX11_rounds_47 : decode cX11_rounds 47 = .ok (.goto 4, 3) := by decide +kernel
theorem dX11_rounds_50 : decode cX11_rounds 50 = .ok (.iconst 0, 1) := by decide +kernel
theorem dX11_rounds_51 : decode cX11_rounds 51 = .ok (.istore_n 3, 1) := by decide +kernel
theorem dX11_rounds_52 : decode cX11_rounds 52 = .ok (.aload_n 0, 1) := by decide +kernel
theorem dX11_rounds_53 : decode cX11_rounds 53 = .ok (.getfield 50, 3) := by decide +kernel
theorem dX11_rounds_56 : decode cX11_rounds 56 = .ok (.iload 4, 2) := by decide +kernel
theorem dX11_rounds_58 : decode cX11_rounds 58 = .ok (.iaload, 1) := by decide +kernel
theorem dX11_rounds_59 : decode cX11_rounds 59 = .ok (.istore 4, 2) := by decide +kernel
theorem dX11_rounds_61 : decode cX11_rounds 61 = .ok (.goto (-31), 3) := by decide +kernel
theorem dX11_rounds_64 : decode cX11_rounds 64 = .ok (.iload_n 1, 1) := by decide +kernel
theorem dX11_rounds_65 : decode cX11_rounds 65 = .ok (.iload_n 3, 1) := by decide +kernel
theorem dX11_rounds_66 : decode cX11_rounds 66 = .ok (.ifCond .eq 7, 3) := by decide +kernel
theorem dX11_rounds_69 : decode cX11_rounds 69 = .ok (.iconst 1, 1) := by decide +kernel
theorem dX11_rounds_70 : decode cX11_rounds 70 = .ok (.goto 4, 3) := by decide +kernel
theorem dX11_rounds_73 : decode cX11_rounds 73 = .ok (.iconst 0, 1) := by decide +kernel
theorem dX11_rounds_74 : decode cX11_rounds 74 = .ok (.iadd, 1) := by decide +kernel
theorem dX11_rounds_75 : decode cX11_rounds 75 = .ok (.istore_n 1, 1) := by decide +kernel
theorem dX11_rounds_76 : decode cX11_rounds 76 = .ok (.iinc 2 1, 3) := by decide +kernel
theorem dX11_rounds_79 : decode cX11_rounds 79 = .ok (.goto (-71), 3) := by decide +kernel
theorem dX11_rounds_82 : decode cX11_rounds 82 = .ok (.iload_n 1, 1) := by decide +kernel
theorem dX11_rounds_83 : decode cX11_rounds 83 = .ok (.ireturn, 1) := by decide +kernel
def B_X11_rounds_74 (o0 : Nat) (i2 : Int32) (s0 : Int32) (s1 : Int32) (μ : Me) (K8 : Int32 → Int32 → Me → Prop) (Q : Int32 → Me → Prop) : Prop := K8 (s1 + s0) (i2 + 1) μ
set_option maxHeartbeats 4000000 in
set_option maxRecDepth 100000 in
theorem tB_X11_rounds_74 {x : GX} (f : Fx x cX11_rounds RX11 5 (rmc 7 0 0)) {o0 : Nat} {i2 : Int32} {s0 : Int32} {s1 : Int32} {μ : Me} {Q : Int32 → Me → Prop} (hq : Rt x (some .int) (qI Q)) {K8 : Int32 → Int32 → Me → Prop} (hK8 : ∀ (a1 : Int32) (a2 : Int32) (ν : Me), K8 a1 a2 ν → G x 5 8 [(0, .ref (gB x + o0)), (1, .int a1), (2, .int a2)] [] ν 0 0) (h : B_X11_rounds_74 o0 i2 s0 s1 μ K8 Q) : G x 5 74 [(0, .ref (gB x + o0)), (2, .int i2)] [.int s0, .int s1] μ 0 0 := by
  unfold B_X11_rounds_74 at h
  refine g_iadd f dX11_rounds_74 ?_
  refine h_istore_n f dX11_rounds_75 rfl (by decide) ?_
  refine h_iinc f 2 1 dX11_rounds_76 rfl kc_1 (by decide) ?_
  refine g_goto f 8 dX11_rounds_79 rfl ?_
  exact h_sub [2, 1, 0] rfl (hK8 _ _ _ h)
def B_X11_rounds_64 (o0 : Nat) (i1 : Int32) (i2 : Int32) (i3 : Int32) (μ : Me) (K8 : Int32 → Int32 → Me → Prop) (Q : Int32 → Me → Prop) : Prop := ((i3 = 0 → B_X11_rounds_74 o0 i2 0 i1 μ K8 Q) ∧ (¬ i3 = 0 → B_X11_rounds_74 o0 i2 1 i1 μ K8 Q))
set_option maxHeartbeats 4000000 in
set_option maxRecDepth 100000 in
theorem tB_X11_rounds_64 {x : GX} (f : Fx x cX11_rounds RX11 5 (rmc 7 0 0)) {o0 : Nat} {i1 : Int32} {i2 : Int32} {i3 : Int32} {μ : Me} {Q : Int32 → Me → Prop} (hq : Rt x (some .int) (qI Q)) {K8 : Int32 → Int32 → Me → Prop} (hK8 : ∀ (a1 : Int32) (a2 : Int32) (ν : Me), K8 a1 a2 ν → G x 5 8 [(0, .ref (gB x + o0)), (1, .int a1), (2, .int a2)] [] ν 0 0) (h : B_X11_rounds_64 o0 i1 i2 i3 μ K8 Q) : G x 5 64 [(0, .ref (gB x + o0)), (1, .int i1), (2, .int i2), (3, .int i3)] [] μ 0 0 := by
  unfold B_X11_rounds_64 at h
  refine g_iload_n f 1 dX11_rounds_64 rfl rfl ?_
  refine g_iload_n f 3 dX11_rounds_65 rfl rfl ?_
  refine g_if_eq f 73 dX11_rounds_66 rfl h (fun h => ?_) (fun h => ?_)
  · refine g_iconst f 0 dX11_rounds_73 kc_0 ?_
    exact h_sub [0, 2] rfl (tB_X11_rounds_74 f hq hK8 h)
  · refine g_iconst f 1 dX11_rounds_69 kc_1 ?_
    refine g_goto f 74 dX11_rounds_70 rfl ?_
    exact h_sub [0, 2] rfl (tB_X11_rounds_74 f hq hK8 h)
def B_X11_rounds_51 (o0 : Nat) (i1 : Int32) (i2 : Int32) (i4 : Int32) (s0 : Int32) (μ : Me) (K8 : Int32 → Int32 → Me → Prop) (K30 : Int32 → Int32 → Me → Prop) (Q : Int32 → Me → Prop) : Prop := mok μ o0 11 ∧ ∃ t15, mgr μ o0 27 = some t15 ∧ mok μ t15 12 ∧ vp_in i4 (mln μ t15) ∧ K30 s0 (mgi μ t15 i4.toNatClampNeg) μ
set_option maxHeartbeats 4000000 in
set_option maxRecDepth 100000 in
theorem tB_X11_rounds_51 {x : GX} (f : Fx x cX11_rounds RX11 5 (rmc 7 0 0)) {o0 : Nat} {i1 : Int32} {i2 : Int32} {i4 : Int32} {s0 : Int32} {μ : Me} {Q : Int32 → Me → Prop} (hq : Rt x (some .int) (qI Q)) {K8 : Int32 → Int32 → Me → Prop} {K30 : Int32 → Int32 → Me → Prop} (hK8 : ∀ (a1 : Int32) (a2 : Int32) (ν : Me), K8 a1 a2 ν → G x 5 8 [(0, .ref (gB x + o0)), (1, .int a1), (2, .int a2)] [] ν 0 0) (hK30 : ∀ (a3 : Int32) (a4 : Int32) (ν : Me), K30 a3 a4 ν → G x 5 30 [(0, .ref (gB x + o0)), (1, .int i1), (2, .int i2), (3, .int a3), (4, .int a4)] [] ν 0 0) (h : B_X11_rounds_51 o0 i1 i2 i4 s0 μ K8 K30 Q) : G x 5 51 [(0, .ref (gB x + o0)), (1, .int i1), (2, .int i2), (4, .int i4)] [.int s0] μ 0 0 := by
  unfold B_X11_rounds_51 at h
  refine h_istore_n f dX11_rounds_51 rfl (by decide) ?_
  refine g_aload_n f 1 dX11_rounds_52 rfl rfl ?_
  obtain ⟨v14, h⟩ := h
  refine g_getR f fk_X11_50 v14 dX11_rounds_53 rfl h (fun t15 h => ?_)
  refine g_iload f 4 dX11_rounds_56 rfl ?_
  obtain ⟨v16, h⟩ := h
  refine g_iald f v16 dX11_rounds_58 h (fun h => ?_)
  refine h_istore f dX11_rounds_59 (by decide) ?_
  refine g_goto f 30 dX11_rounds_61 rfl ?_
  exact h_sub [2, 3, 4, 1, 0] rfl (hK30 _ _ _ h)
def B_X11_rounds_30 (o0 : Nat) (i1 : Int32) (i2 : Int32) (i3 : Int32) (i4 : Int32) (μ : Me) (K8 : Int32 → Int32 → Me → Prop) (K30 : Int32 → Int32 → Me → Prop) (Q : Int32 → Me → Prop) : Prop := ((i3 = 0 → B_X11_rounds_64 o0 i1 i2 i3 μ K8 Q) ∧ (¬ i3 = 0 → ((i4 = i2 → B_X11_rounds_64 o0 i1 i2 i3 μ K8 Q) ∧ (¬ i4 = i2 → ((i4 ≤ i2 → B_X11_rounds_51 o0 i1 i2 i4 0 μ K8 K30 Q) ∧ (¬ i4 ≤ i2 → B_X11_rounds_51 o0 i1 i2 i4 1 μ K8 K30 Q))))))
set_option maxHeartbeats 4000000 in
set_option maxRecDepth 100000 in
theorem tB_X11_rounds_30 {x : GX} (f : Fx x cX11_rounds RX11 5 (rmc 7 0 0)) {o0 : Nat} {i1 : Int32} {i2 : Int32} {i3 : Int32} {i4 : Int32} {μ : Me} {Q : Int32 → Me → Prop} (hq : Rt x (some .int) (qI Q)) {K8 : Int32 → Int32 → Me → Prop} {K30 : Int32 → Int32 → Me → Prop} (hK8 : ∀ (a1 : Int32) (a2 : Int32) (ν : Me), K8 a1 a2 ν → G x 5 8 [(0, .ref (gB x + o0)), (1, .int a1), (2, .int a2)] [] ν 0 0) (hK30 : ∀ (a3 : Int32) (a4 : Int32) (ν : Me), K30 a3 a4 ν → G x 5 30 [(0, .ref (gB x + o0)), (1, .int i1), (2, .int i2), (3, .int a3), (4, .int a4)] [] ν 0 0) (h : B_X11_rounds_30 o0 i1 i2 i3 i4 μ K8 K30 Q) : G x 5 30 [(0, .ref (gB x + o0)), (1, .int i1), (2, .int i2), (3, .int i3), (4, .int i4)] [] μ 0 0 := by
  unfold B_X11_rounds_30 at h
  refine g_iload_n f 3 dX11_rounds_30 rfl rfl ?_
  refine g_if_eq f 64 dX11_rounds_31 rfl h (fun h => ?_) (fun h => ?_)
  · exact h_sub [0, 1, 2, 3] rfl (tB_X11_rounds_64 f hq hK8 h)
  · refine g_iload f 4 dX11_rounds_34 rfl ?_
    refine g_iload_n f 2 dX11_rounds_36 rfl rfl ?_
    refine g_ic_eq f 64 dX11_rounds_37 rfl h (fun h => ?_) (fun h => ?_)
    · exact h_sub [0, 1, 2, 3] rfl (tB_X11_rounds_64 f hq hK8 h)
    · refine g_iload f 4 dX11_rounds_40 rfl ?_
      refine g_iload_n f 2 dX11_rounds_42 rfl rfl ?_
      refine g_ic_le f 50 dX11_rounds_43 rfl h (fun h => ?_) (fun h => ?_)
      · refine g_iconst f 0 dX11_rounds_50 kc_0 ?_
        exact h_sub [0, 1, 2, 4] rfl (tB_X11_rounds_51 f hq hK8 hK30 h)
      · refine g_iconst f 1 dX11_rounds_46 kc_1 ?_
        refine g_goto f 51 dX11_rounds_47 rfl ?_
        exact h_sub [0, 1, 2, 4] rfl (tB_X11_rounds_51 f hq hK8 hK30 h)
def L_X11_rounds_30 (o0 : Nat) (i1 : Int32) (i2 : Int32) (i3 : Int32) (i4 : Int32) (μ : Me) (K8 : Int32 → Int32 → Me → Prop) (Q : Int32 → Me → Prop) : Prop := ∃ I : Int32 → Int32 → Me → Nat → Prop, (∃ n, I i3 i4 μ n) ∧ ∀ (i3 : Int32) (i4 : Int32) (μ : Me) (n : Nat), I i3 i4 μ n → B_X11_rounds_30 o0 i1 i2 i3 i4 μ K8 (fun a3 a4 ν => ∃ n', n' < n ∧ I a3 a4 ν n') Q
set_option maxHeartbeats 4000000 in
set_option maxRecDepth 100000 in
theorem tL_X11_rounds_30 {x : GX} (f : Fx x cX11_rounds RX11 5 (rmc 7 0 0)) {o0 : Nat} {i1 : Int32} {i2 : Int32} {i3 : Int32} {i4 : Int32} {μ : Me} {Q : Int32 → Me → Prop} (hq : Rt x (some .int) (qI Q)) {K8 : Int32 → Int32 → Me → Prop} (hK8 : ∀ (a1 : Int32) (a2 : Int32) (ν : Me), K8 a1 a2 ν → G x 5 8 [(0, .ref (gB x + o0)), (1, .int a1), (2, .int a2)] [] ν 0 0) (h : L_X11_rounds_30 o0 i1 i2 i3 i4 μ K8 Q) : G x 5 30 [(0, .ref (gB x + o0)), (1, .int i1), (2, .int i2), (3, .int i3), (4, .int i4)] [] μ 0 0 := by
  obtain ⟨I, ⟨n, hI⟩, hs⟩ := h
  induction n using Nat.strongRecOn generalizing i3 i4 μ with
  | ind n ih => exact tB_X11_rounds_30 f hq hK8 (fun a3 a4 ν hk => by obtain ⟨n2, hn, hI2⟩ := hk; exact ih n2 hn hI2) (hs _ _ _ _ hI)
def B_X11_rounds_8 (o0 : Nat) (i1 : Int32) (i2 : Int32) (μ : Me) (K8 : Int32 → Int32 → Me → Prop) (Q : Int32 → Me → Prop) : Prop := mok μ o0 11 ∧ S_X11_all o0 μ (fun r8 μ6 => ((r8 < i2 → Q i1 μ6) ∧ (¬ r8 < i2 → S_X11_isRound o0 i2 μ6 (fun r11 μ9 => ∃ t12, mgr μ9 o0 27 = some t12 ∧ mok μ9 t12 12 ∧ vp_in i2 (mln μ9 t12) ∧ L_X11_rounds_30 o0 i1 i2 r11 (mgi μ9 t12 i2.toNatClampNeg) μ9 K8 Q))))
set_option maxHeartbeats 4000000 in
set_option maxRecDepth 100000 in
theorem tB_X11_rounds_8 {x : GX} (f : Fx x cX11_rounds RX11 5 (rmc 7 0 0)) {o0 : Nat} {i1 : Int32} {i2 : Int32} {μ : Me} {Q : Int32 → Me → Prop} (hq : Rt x (some .int) (qI Q)) {K8 : Int32 → Int32 → Me → Prop} (hK8 : ∀ (a1 : Int32) (a2 : Int32) (ν : Me), K8 a1 a2 ν → G x 5 8 [(0, .ref (gB x + o0)), (1, .int a1), (2, .int a2)] [] ν 0 0) (h : B_X11_rounds_8 o0 i1 i2 μ K8 Q) : G x 5 8 [(0, .ref (gB x + o0)), (1, .int i1), (2, .int i2)] [] μ 0 0 := by
  unfold B_X11_rounds_8 at h
  refine g_iload_n f 2 dX11_rounds_8 rfl rfl ?_
  refine g_aload_n f 0 dX11_rounds_9 rfl rfl ?_
  obtain ⟨v5, h⟩ := h
  refine g_callV f mk_X11_70 v5 (c_X11_all h) dX11_rounds_10 rfl rfl (Nat.le_of_ble_eq_true rfl) (rm_ok (by decide) (by decide)) ⟨Nat.le_of_ble_eq_true rfl, Nat.le_of_ble_eq_true rfl⟩ (kI fun r8 μ6 x7 h => ?_)
  refine g_ic_gt f 82 dX11_rounds_13 rfl h (fun h => ?_) (fun h => ?_)
  · refine g_iload_n f 1 dX11_rounds_82 rfl rfl ?_
    exact g_iret f hq (Nat.le_of_ble_eq_true rfl) (Nat.le_of_ble_eq_true rfl) dX11_rounds_83 h
  · refine g_aload_n f 0 dX11_rounds_16 rfl rfl ?_
    refine g_iload_n f 2 dX11_rounds_17 rfl rfl ?_
    have v5 := mex_ok x7 v5
    refine g_callV f mk_X11_383 v5 (c_X11_isRound h) dX11_rounds_18 rfl rfl (Nat.le_of_ble_eq_true rfl) (rm_ok (by decide) (by decide)) ⟨Nat.le_of_ble_eq_true rfl, Nat.le_of_ble_eq_true rfl⟩ (kI fun r11 μ9 x10 h => ?_)
    refine h_istore_n f dX11_rounds_21 rfl (by decide) ?_
    refine g_aload_n f 1 dX11_rounds_22 rfl rfl ?_
    have v5 := mex_ok x10 v5
    refine g_getR f fk_X11_50 v5 dX11_rounds_23 rfl h (fun t12 h => ?_)
    refine g_iload_n f 3 dX11_rounds_26 rfl rfl ?_
    obtain ⟨v13, h⟩ := h
    refine g_iald f v13 dX11_rounds_27 h (fun h => ?_)
    refine h_istore f dX11_rounds_28 (by decide) ?_
    exact h_sub [2, 3, 4, 1, 0] rfl (tL_X11_rounds_30 f hq hK8 h)
def L_X11_rounds_8 (o0 : Nat) (i1 : Int32) (i2 : Int32) (μ : Me) (Q : Int32 → Me → Prop) : Prop := ∃ I : Int32 → Int32 → Me → Nat → Prop, (∃ n, I i1 i2 μ n) ∧ ∀ (i1 : Int32) (i2 : Int32) (μ : Me) (n : Nat), I i1 i2 μ n → B_X11_rounds_8 o0 i1 i2 μ (fun a1 a2 ν => ∃ n', n' < n ∧ I a1 a2 ν n') Q
set_option maxHeartbeats 4000000 in
set_option maxRecDepth 100000 in
theorem tL_X11_rounds_8 {x : GX} (f : Fx x cX11_rounds RX11 5 (rmc 7 0 0)) {o0 : Nat} {i1 : Int32} {i2 : Int32} {μ : Me} {Q : Int32 → Me → Prop} (hq : Rt x (some .int) (qI Q)) (h : L_X11_rounds_8 o0 i1 i2 μ Q) : G x 5 8 [(0, .ref (gB x + o0)), (1, .int i1), (2, .int i2)] [] μ 0 0 := by
  obtain ⟨I, ⟨n, hI⟩, hs⟩ := h
  induction n using Nat.strongRecOn generalizing i1 i2 μ with
  | ind n ih => exact tB_X11_rounds_8 f hq (fun a1 a2 ν hk => by obtain ⟨n2, hn, hI2⟩ := hk; exact ih n2 hn hI2) (hs _ _ _ _ hI)
def S_X11_rounds (o0 : Nat) (μ : Me) (Q : Int32 → Me → Prop) : Prop := mok μ o0 11 ∧ S_X11_layLeads o0 μ (fun μ2 => L_X11_rounds_8 o0 0 0 μ2 Q)
set_option maxHeartbeats 4000000 in
set_option maxRecDepth 100000 in
theorem t_X11_rounds {x : GX} (f : Fx x cX11_rounds RX11 5 (rmc 7 0 0)) {o0 : Nat} {μ : Me} {Q : Int32 → Me → Prop} (hq : Rt x (some .int) (qI Q)) (h : S_X11_rounds o0 μ Q) : G x 5 0 [(0, .ref (gB x + o0))] [] μ 0 0 := by
  unfold S_X11_rounds at h
  refine g_aload_n f 0 dX11_rounds_0 rfl rfl ?_
  obtain ⟨v1, h⟩ := h
  refine g_callV f mk_X11_377 v1 (c_X11_layLeads h) dX11_rounds_1 rfl rfl (Nat.le_of_ble_eq_true rfl) (rm_ok (by decide) (by decide)) ⟨Nat.le_of_ble_eq_true rfl, Nat.le_of_ble_eq_true rfl⟩ (kV fun μ2 x3 h => ?_)
  refine g_iconst f 0 dX11_rounds_4 kc_0 ?_
  refine h_istore_n f dX11_rounds_5 rfl (by decide) ?_
  refine g_iconst f 0 dX11_rounds_6 kc_0 ?_
  refine h_istore_n f dX11_rounds_7 rfl (by decide) ?_
  exact h_sub [2, 1, 0] rfl (tL_X11_rounds_8 f hq h)
theorem c_X11_rounds {Ω : OM} {o0 : Nat} {μ : Me} {Q : Int32 → Me → Prop} (h : S_X11_rounds o0 μ Q) : CT Ω yX11_rounds cX11_rounds 5 (some .int) (rmc 7 0 0) [.ref (oB Ω + o0)] μ (qI Q) := CT_of (by decide) rfl (by simp [lg_sl, Value.category]) (fun x hΩ f hq hi => by subst hΩ; exact t_X11_rounds f hq h)
theorem dX11_timesTo_0 : decode cX11_timesTo 0 = .ok (.iload_n 1, 1) := by decide +kernel
theorem dX11_timesTo_1 : decode cX11_timesTo 1 = .ok (.istore_n 3, 1) := by decide +kernel
theorem dX11_timesTo_2 : decode cX11_timesTo 2 = .ok (.iconst 0, 1) := by decide +kernel
theorem dX11_timesTo_3 : decode cX11_timesTo 3 = .ok (.istore 4, 2) := by decide +kernel
theorem dX11_timesTo_5 : decode cX11_timesTo 5 = .ok (.iload 4, 2) := by decide +kernel
theorem dX11_timesTo_7 : decode cX11_timesTo 7 = .ok (.aload_n 0, 1) := by decide +kernel
theorem dX11_timesTo_8 : decode cX11_timesTo 8 = .ok (.invokevirtual 70, 3) := by decide +kernel
theorem dX11_timesTo_11 : decode cX11_timesTo 11 = .ok (.if_icmp .gt 24, 3) := by decide +kernel
theorem dX11_timesTo_14 : decode cX11_timesTo 14 = .ok (.iload_n 3, 1) := by decide +kernel
theorem dX11_timesTo_15 : decode cX11_timesTo 15 = .ok (.iload_n 2, 1) := by decide +kernel
theorem dX11_timesTo_16 : decode cX11_timesTo 16 = .ok (.if_icmp .ne 6, 3) := by decide +kernel
theorem dX11_timesTo_19 : decode cX11_timesTo 19 = .ok (.iload 4, 2) := by decide +kernel
theorem dX11_timesTo_21 : decode cX11_timesTo 21 = .ok (.ireturn, 1) := by decide +kernel
theorem dX11_timesTo_22 : decode cX11_timesTo 22 = .ok (.aload_n 0, 1) := by decide +kernel
theorem dX11_timesTo_23 : decode cX11_timesTo 23 = .ok (.getfield 50, 3) := by decide +kernel
theorem dX11_timesTo_26 : decode cX11_timesTo 26 = .ok (.iload_n 3, 1) := by decide +kernel
theorem dX11_timesTo_27 : decode cX11_timesTo 27 = .ok (.iaload, 1) := by decide +kernel
theorem dX11_timesTo_28 : decode cX11_timesTo 28 = .ok (.istore_n 3, 1) := by decide +kernel
theorem dX11_timesTo_29 : decode cX11_timesTo 29 = .ok (.iinc 4 1, 3) := by decide +kernel
theorem dX11_timesTo_32 : decode cX11_timesTo 32 = .ok (.goto (-27), 3) := by decide +kernel
theorem dX11_timesTo_35 : decode cX11_timesTo 35 = .ok (.iconst (-1), 1) := by decide +kernel
theorem dX11_timesTo_36 : decode cX11_timesTo 36 = .ok (.ireturn, 1) := by decide +kernel
def B_X11_timesTo_5 (o0 : Nat) (i2 : Int32) (i3 : Int32) (i4 : Int32) (μ : Me) (K5 : Int32 → Int32 → Me → Prop) (Q : Int32 → Me → Prop) : Prop := mok μ o0 11 ∧ S_X11_all o0 μ (fun r4 μ2 => ((r4 < i4 → Q (-1) μ2) ∧ (¬ r4 < i4 → ((¬ i3 = i2 → ∃ t5, mgr μ2 o0 27 = some t5 ∧ mok μ2 t5 12 ∧ vp_in i3 (mln μ2 t5) ∧ K5 (mgi μ2 t5 i3.toNatClampNeg) (i4 + 1) μ2) ∧ (i3 = i2 → Q i4 μ2)))))
set_option maxHeartbeats 4000000 in
set_option maxRecDepth 100000 in
theorem tB_X11_timesTo_5 {x : GX} (f : Fx x cX11_timesTo RX11 5 (rmc 1 0 0)) {o0 : Nat} {i2 : Int32} {i3 : Int32} {i4 : Int32} {μ : Me} {Q : Int32 → Me → Prop} (hq : Rt x (some .int) (qI Q)) {K5 : Int32 → Int32 → Me → Prop} (hK5 : ∀ (a3 : Int32) (a4 : Int32) (ν : Me), K5 a3 a4 ν → G x 5 5 [(0, .ref (gB x + o0)), (2, .int i2), (3, .int a3), (4, .int a4)] [] ν 0 0) (h : B_X11_timesTo_5 o0 i2 i3 i4 μ K5 Q) : G x 5 5 [(0, .ref (gB x + o0)), (2, .int i2), (3, .int i3), (4, .int i4)] [] μ 0 0 := by
  unfold B_X11_timesTo_5 at h
  refine g_iload f 3 dX11_timesTo_5 rfl ?_
  refine g_aload_n f 0 dX11_timesTo_7 rfl rfl ?_
  obtain ⟨v1, h⟩ := h
  refine g_callV f mk_X11_70 v1 (c_X11_all h) dX11_timesTo_8 rfl rfl (Nat.le_of_ble_eq_true rfl) (rm_ok (by decide) (by decide)) ⟨Nat.le_of_ble_eq_true rfl, Nat.le_of_ble_eq_true rfl⟩ (kI fun r4 μ2 x3 h => ?_)
  refine g_ic_gt f 35 dX11_timesTo_11 rfl h (fun h => ?_) (fun h => ?_)
  · refine g_iconst f (-1) dX11_timesTo_35 kc_m1 ?_
    exact g_iret f hq (Nat.le_of_ble_eq_true rfl) (Nat.le_of_ble_eq_true rfl) dX11_timesTo_36 h
  · refine g_iload_n f 2 dX11_timesTo_14 rfl rfl ?_
    refine g_iload_n f 1 dX11_timesTo_15 rfl rfl ?_
    refine g_ic_ne f 22 dX11_timesTo_16 rfl h (fun h => ?_) (fun h => ?_)
    · refine g_aload_n f 0 dX11_timesTo_22 rfl rfl ?_
      have v1 := mex_ok x3 v1
      refine g_getR f fk_X11_50 v1 dX11_timesTo_23 rfl h (fun t5 h => ?_)
      refine g_iload_n f 2 dX11_timesTo_26 rfl rfl ?_
      obtain ⟨v6, h⟩ := h
      refine g_iald f v6 dX11_timesTo_27 h (fun h => ?_)
      refine h_istore_n f dX11_timesTo_28 rfl (by decide) ?_
      refine h_iinc f 3 1 dX11_timesTo_29 rfl kc_1 (by decide) ?_
      refine g_goto f 5 dX11_timesTo_32 rfl ?_
      exact h_sub [2, 3, 1, 0] rfl (hK5 _ _ _ h)
    · refine g_iload f 3 dX11_timesTo_19 rfl ?_
      exact g_iret f hq (Nat.le_of_ble_eq_true rfl) (Nat.le_of_ble_eq_true rfl) dX11_timesTo_21 h
def L_X11_timesTo_5 (o0 : Nat) (i2 : Int32) (i3 : Int32) (i4 : Int32) (μ : Me) (Q : Int32 → Me → Prop) : Prop := ∃ I : Int32 → Int32 → Me → Nat → Prop, (∃ n, I i3 i4 μ n) ∧ ∀ (i3 : Int32) (i4 : Int32) (μ : Me) (n : Nat), I i3 i4 μ n → B_X11_timesTo_5 o0 i2 i3 i4 μ (fun a3 a4 ν => ∃ n', n' < n ∧ I a3 a4 ν n') Q
set_option maxHeartbeats 4000000 in
set_option maxRecDepth 100000 in
theorem tL_X11_timesTo_5 {x : GX} (f : Fx x cX11_timesTo RX11 5 (rmc 1 0 0)) {o0 : Nat} {i2 : Int32} {i3 : Int32} {i4 : Int32} {μ : Me} {Q : Int32 → Me → Prop} (hq : Rt x (some .int) (qI Q)) (h : L_X11_timesTo_5 o0 i2 i3 i4 μ Q) : G x 5 5 [(0, .ref (gB x + o0)), (2, .int i2), (3, .int i3), (4, .int i4)] [] μ 0 0 := by
  obtain ⟨I, ⟨n, hI⟩, hs⟩ := h
  induction n using Nat.strongRecOn generalizing i3 i4 μ with
  | ind n ih => exact tB_X11_timesTo_5 f hq (fun a3 a4 ν hk => by obtain ⟨n2, hn, hI2⟩ := hk; exact ih n2 hn hI2) (hs _ _ _ _ hI)
def S_X11_timesTo (o0 : Nat) (i1 : Int32) (i2 : Int32) (μ : Me) (Q : Int32 → Me → Prop) : Prop := L_X11_timesTo_5 o0 i2 i1 0 μ Q
set_option maxHeartbeats 4000000 in
set_option maxRecDepth 100000 in
theorem t_X11_timesTo {x : GX} (f : Fx x cX11_timesTo RX11 5 (rmc 1 0 0)) {o0 : Nat} {i1 : Int32} {i2 : Int32} {μ : Me} {Q : Int32 → Me → Prop} (hq : Rt x (some .int) (qI Q)) (h : S_X11_timesTo o0 i1 i2 μ Q) : G x 5 0 [(0, .ref (gB x + o0)), (1, .int i1), (2, .int i2)] [] μ 0 0 := by
  unfold S_X11_timesTo at h
  refine g_iload_n f 1 dX11_timesTo_0 rfl rfl ?_
  refine h_istore_n f dX11_timesTo_1 rfl (by decide) ?_
  refine g_iconst f 0 dX11_timesTo_2 kc_0 ?_
  refine h_istore f dX11_timesTo_3 (by decide) ?_
  exact h_sub [2, 4, 1, 0] rfl (tL_X11_timesTo_5 f hq h)
theorem c_X11_timesTo {Ω : OM} {o0 : Nat} {i1 : Int32} {i2 : Int32} {μ : Me} {Q : Int32 → Me → Prop} (h : S_X11_timesTo o0 i1 i2 μ Q) : CT Ω yX11_timesTo cX11_timesTo 5 (some .int) (rmc 1 0 0) [.ref (oB Ω + o0), .int i1, .int i2] μ (qI Q) := CT_of (by decide) rfl (by simp [lg_sl, Value.category]) (fun x hΩ f hq hi => by subst hΩ; exact t_X11_timesTo f hq h)
theorem dX11_basin_0 : decode cX11_basin 0 = .ok (.aload_n 0, 1) := by decide +kernel
theorem dX11_basin_1 : decode cX11_basin 1 = .ok (.iload_n 1, 1) := by decide +kernel
theorem dX11_basin_2 : decode cX11_basin 2 = .ok (.invokevirtual 329, 3) := by decide +kernel
theorem dX11_basin_5 : decode cX11_basin 5 = .ok (.ifCond .ne 5, 3) := by decide +kernel
theorem dX11_basin_8 : decode cX11_basin 8 = .ok (.iconst (-1), 1) := by decide +kernel
theorem dX11_basin_9 : decode cX11_basin 9 = .ok (.ireturn, 1) := by decide +kernel
theorem dX11_basin_10 : decode cX11_basin 10 = .ok (.aload_n 0, 1) := by decide +kernel
theorem dX11_basin_11 : decode cX11_basin 11 = .ok (.invokevirtual 377, 3) := by decide +kernel
theorem dX11_basin_14 : decode cX11_basin 14 = .ok (.iconst 0, 1) := by decide +kernel
theorem dX11_basin_15 : decode cX11_basin 15 = .ok (.istore_n 2, 1) := by decide +kernel
theorem dX11_basin_16 : decode cX11_basin 16 = .ok (.iconst 0, 1) := by decide +kernel
theorem dX11_basin_17 : decode cX11_basin 17 = .ok (.istore_n 3, 1) := by decide +kernel
theorem dX11_basin_18 : decode cX11_basin 18 = .ok (.iload_n 3, 1) := by decide +kernel
theorem dX11_basin_19 : decode cX11_basin 19 = .ok (.aload_n 0, 1) := by decide +kernel
theorem dX11_basin_20 : decode cX11_basin 20 = .ok (.invokevirtual 70, 3) := by decide +kernel
theorem dX11_basin_23 : decode cX11_basin 23 = .ok (.if_icmp .gt 27, 3) := by decide +kernel
theorem dX11_basin_26 : decode cX11_basin 26 = .ok (.iload_n 2, 1) := by decide +kernel
theorem dX11_basin_27 : decode cX11_basin 27 = .ok (.aload_n 0, 1) := by decide +kernel
theorem dX11_basin_28 : decode cX11_basin 28 = .ok (.iload_n 3, 1) := by decide +kernel
theorem dX11_basin_29 : decode cX11_basin 29 = .ok (.iload_n 1, 1) := by decide +kernel
theorem dX11_basin_30 : decode cX11_basin 30 = .ok (.invokevirtual 386, 3) := by decide +kernel
theorem dX11_basin_33 : decode cX11_basin 33 = .ok (.iconst (-1), 1) := by decide +kernel
theorem dX11_basin_34 : decode cX11_basin 34 = .ok (.if_icmp .eq 7, 3) := by decide +kernel
theorem dX11_basin_37 : decode cX11_basin 37 = .ok (.iconst 1, 1) := by decide +kernel
theorem dX11_basin_38 : decode cX11_basin 38 = .ok (.goto 4, 3) := by decide +kernel
theorem dX11_basin_41 : decode cX11_basin 41 = .ok (.iconst 0, 1) := by decide +kernel
theorem dX11_basin_42 : decode cX11_basin 42 = .ok (.iadd, 1) := by decide +kernel
theorem dX11_basin_43 : decode cX11_basin 43 = .ok (.istore_n 2, 1) := by decide +kernel
theorem dX11_basin_44 : decode cX11_basin 44 = .ok (.iinc 3 1, 3) := by decide +kernel
theorem dX11_basin_47 : decode cX11_basin 47 = .ok (.goto (-29), 3) := by decide +kernel
theorem dX11_basin_50 : decode cX11_basin 50 = .ok (.iload_n 2, 1) := by decide +kernel
theorem dX11_basin_51 : decode cX11_basin 51 = .ok (.ireturn, 1) := by decide +kernel
def B_X11_basin_42 (o0 : Nat) (i1 : Int32) (i3 : Int32) (s0 : Int32) (s1 : Int32) (μ : Me) (K18 : Int32 → Int32 → Me → Prop) (Q : Int32 → Me → Prop) : Prop := K18 (s1 + s0) (i3 + 1) μ
set_option maxHeartbeats 4000000 in
set_option maxRecDepth 100000 in
theorem tB_X11_basin_42 {x : GX} (f : Fx x cX11_basin RX11 4 (rmc 7 0 0)) {o0 : Nat} {i1 : Int32} {i3 : Int32} {s0 : Int32} {s1 : Int32} {μ : Me} {Q : Int32 → Me → Prop} (hq : Rt x (some .int) (qI Q)) {K18 : Int32 → Int32 → Me → Prop} (hK18 : ∀ (a2 : Int32) (a3 : Int32) (ν : Me), K18 a2 a3 ν → G x 4 18 [(0, .ref (gB x + o0)), (1, .int i1), (2, .int a2), (3, .int a3)] [] ν 0 0) (h : B_X11_basin_42 o0 i1 i3 s0 s1 μ K18 Q) : G x 4 42 [(0, .ref (gB x + o0)), (1, .int i1), (3, .int i3)] [.int s0, .int s1] μ 0 0 := by
  unfold B_X11_basin_42 at h
  refine g_iadd f dX11_basin_42 ?_
  refine h_istore_n f dX11_basin_43 rfl (by decide) ?_
  refine h_iinc f 3 1 dX11_basin_44 rfl kc_1 (by decide) ?_
  refine g_goto f 18 dX11_basin_47 rfl ?_
  exact h_sub [2, 3, 1, 0] rfl (hK18 _ _ _ h)
def B_X11_basin_18 (o0 : Nat) (i1 : Int32) (i2 : Int32) (i3 : Int32) (μ : Me) (K18 : Int32 → Int32 → Me → Prop) (Q : Int32 → Me → Prop) : Prop := mok μ o0 11 ∧ S_X11_all o0 μ (fun r11 μ9 => ((r11 < i3 → Q i2 μ9) ∧ (¬ r11 < i3 → S_X11_timesTo o0 i3 i1 μ9 (fun r14 μ12 => ((r14 = (-1) → B_X11_basin_42 o0 i1 i3 0 i2 μ12 K18 Q) ∧ (¬ r14 = (-1) → B_X11_basin_42 o0 i1 i3 1 i2 μ12 K18 Q))))))
set_option maxHeartbeats 4000000 in
set_option maxRecDepth 100000 in
theorem tB_X11_basin_18 {x : GX} (f : Fx x cX11_basin RX11 4 (rmc 7 0 0)) {o0 : Nat} {i1 : Int32} {i2 : Int32} {i3 : Int32} {μ : Me} {Q : Int32 → Me → Prop} (hq : Rt x (some .int) (qI Q)) {K18 : Int32 → Int32 → Me → Prop} (hK18 : ∀ (a2 : Int32) (a3 : Int32) (ν : Me), K18 a2 a3 ν → G x 4 18 [(0, .ref (gB x + o0)), (1, .int i1), (2, .int a2), (3, .int a3)] [] ν 0 0) (h : B_X11_basin_18 o0 i1 i2 i3 μ K18 Q) : G x 4 18 [(0, .ref (gB x + o0)), (1, .int i1), (2, .int i2), (3, .int i3)] [] μ 0 0 := by
  unfold B_X11_basin_18 at h
  refine g_iload_n f 3 dX11_basin_18 rfl rfl ?_
  refine g_aload_n f 0 dX11_basin_19 rfl rfl ?_
  obtain ⟨v8, h⟩ := h
  refine g_callV f mk_X11_70 v8 (c_X11_all h) dX11_basin_20 rfl rfl (Nat.le_of_ble_eq_true rfl) (rm_ok (by decide) (by decide)) ⟨Nat.le_of_ble_eq_true rfl, Nat.le_of_ble_eq_true rfl⟩ (kI fun r11 μ9 x10 h => ?_)
  refine g_ic_gt f 50 dX11_basin_23 rfl h (fun h => ?_) (fun h => ?_)
  · refine g_iload_n f 2 dX11_basin_50 rfl rfl ?_
    exact g_iret f hq (Nat.le_of_ble_eq_true rfl) (Nat.le_of_ble_eq_true rfl) dX11_basin_51 h
  · refine g_iload_n f 2 dX11_basin_26 rfl rfl ?_
    refine g_aload_n f 0 dX11_basin_27 rfl rfl ?_
    refine g_iload_n f 3 dX11_basin_28 rfl rfl ?_
    refine g_iload_n f 1 dX11_basin_29 rfl rfl ?_
    have v8 := mex_ok x10 v8
    refine g_callV f mk_X11_386 v8 (c_X11_timesTo h) dX11_basin_30 rfl rfl (Nat.le_of_ble_eq_true rfl) (rm_ok (by decide) (by decide)) ⟨Nat.le_of_ble_eq_true rfl, Nat.le_of_ble_eq_true rfl⟩ (kI fun r14 μ12 x13 h => ?_)
    refine g_iconst f (-1) dX11_basin_33 kc_m1 ?_
    refine g_ic_eq f 41 dX11_basin_34 rfl h (fun h => ?_) (fun h => ?_)
    · refine g_iconst f 0 dX11_basin_41 kc_0 ?_
      exact h_sub [0, 1, 3] rfl (tB_X11_basin_42 f hq hK18 h)
    · refine g_iconst f 1 dX11_basin_37 kc_1 ?_
      refine g_goto f 42 dX11_basin_38 rfl ?_
      exact h_sub [0, 1, 3] rfl (tB_X11_basin_42 f hq hK18 h)
def L_X11_basin_18 (o0 : Nat) (i1 : Int32) (i2 : Int32) (i3 : Int32) (μ : Me) (Q : Int32 → Me → Prop) : Prop := ∃ I : Int32 → Int32 → Me → Nat → Prop, (∃ n, I i2 i3 μ n) ∧ ∀ (i2 : Int32) (i3 : Int32) (μ : Me) (n : Nat), I i2 i3 μ n → B_X11_basin_18 o0 i1 i2 i3 μ (fun a2 a3 ν => ∃ n', n' < n ∧ I a2 a3 ν n') Q
set_option maxHeartbeats 4000000 in
set_option maxRecDepth 100000 in
theorem tL_X11_basin_18 {x : GX} (f : Fx x cX11_basin RX11 4 (rmc 7 0 0)) {o0 : Nat} {i1 : Int32} {i2 : Int32} {i3 : Int32} {μ : Me} {Q : Int32 → Me → Prop} (hq : Rt x (some .int) (qI Q)) (h : L_X11_basin_18 o0 i1 i2 i3 μ Q) : G x 4 18 [(0, .ref (gB x + o0)), (1, .int i1), (2, .int i2), (3, .int i3)] [] μ 0 0 := by
  obtain ⟨I, ⟨n, hI⟩, hs⟩ := h
  induction n using Nat.strongRecOn generalizing i2 i3 μ with
  | ind n ih => exact tB_X11_basin_18 f hq (fun a2 a3 ν hk => by obtain ⟨n2, hn, hI2⟩ := hk; exact ih n2 hn hI2) (hs _ _ _ _ hI)
def S_X11_basin (o0 : Nat) (i1 : Int32) (μ : Me) (Q : Int32 → Me → Prop) : Prop := mok μ o0 11 ∧ S_X11_areRings o0 i1 μ (fun r4 μ2 => ((¬ r4 = 0 → S_X11_layLeads o0 μ2 (fun μ5 => L_X11_basin_18 o0 i1 0 0 μ5 Q)) ∧ (r4 = 0 → Q (-1) μ2)))
set_option maxHeartbeats 4000000 in
set_option maxRecDepth 100000 in
theorem t_X11_basin {x : GX} (f : Fx x cX11_basin RX11 4 (rmc 7 0 0)) {o0 : Nat} {i1 : Int32} {μ : Me} {Q : Int32 → Me → Prop} (hq : Rt x (some .int) (qI Q)) (h : S_X11_basin o0 i1 μ Q) : G x 4 0 [(0, .ref (gB x + o0)), (1, .int i1)] [] μ 0 0 := by
  unfold S_X11_basin at h
  refine g_aload_n f 0 dX11_basin_0 rfl rfl ?_
  refine g_iload_n f 1 dX11_basin_1 rfl rfl ?_
  obtain ⟨v1, h⟩ := h
  refine g_callV f mk_X11_329 v1 (c_X11_areRings h) dX11_basin_2 rfl rfl (Nat.le_of_ble_eq_true rfl) (rm_ok (by decide) (by decide)) ⟨Nat.le_of_ble_eq_true rfl, Nat.le_of_ble_eq_true rfl⟩ (kI fun r4 μ2 x3 h => ?_)
  refine g_if_ne f 10 dX11_basin_5 rfl h (fun h => ?_) (fun h => ?_)
  · refine g_aload_n f 0 dX11_basin_10 rfl rfl ?_
    have v1 := mex_ok x3 v1
    refine g_callV f mk_X11_377 v1 (c_X11_layLeads h) dX11_basin_11 rfl rfl (Nat.le_of_ble_eq_true rfl) (rm_ok (by decide) (by decide)) ⟨Nat.le_of_ble_eq_true rfl, Nat.le_of_ble_eq_true rfl⟩ (kV fun μ5 x6 h => ?_)
    refine g_iconst f 0 dX11_basin_14 kc_0 ?_
    refine h_istore_n f dX11_basin_15 rfl (by decide) ?_
    refine g_iconst f 0 dX11_basin_16 kc_0 ?_
    refine h_istore_n f dX11_basin_17 rfl (by decide) ?_
    exact h_sub [2, 3, 1, 0] rfl (tL_X11_basin_18 f hq h)
  · refine g_iconst f (-1) dX11_basin_8 kc_m1 ?_
    exact g_iret f hq (Nat.le_of_ble_eq_true rfl) (Nat.le_of_ble_eq_true rfl) dX11_basin_9 h
theorem c_X11_basin {Ω : OM} {o0 : Nat} {i1 : Int32} {μ : Me} {Q : Int32 → Me → Prop} (h : S_X11_basin o0 i1 μ Q) : CT Ω yX11_basin cX11_basin 4 (some .int) (rmc 7 0 0) [.ref (oB Ω + o0), .int i1] μ (qI Q) := CT_of (by decide) rfl (by simp [lg_sl, Value.category]) (fun x hΩ f hq hi => by subst hΩ; exact t_X11_basin f hq h)
theorem dX11_never_0 : decode cX11_never 0 = .ok (.aload_n 0, 1) := by decide +kernel
theorem dX11_never_1 : decode cX11_never 1 = .ok (.invokevirtual 377, 3) := by decide +kernel
theorem dX11_never_4 : decode cX11_never 4 = .ok (.iconst 0, 1) := by decide +kernel
theorem dX11_never_5 : decode cX11_never 5 = .ok (.istore_n 1, 1) := by decide +kernel
theorem dX11_never_6 : decode cX11_never 6 = .ok (.iconst 0, 1) := by decide +kernel
theorem dX11_never_7 : decode cX11_never 7 = .ok (.istore_n 2, 1) := by decide +kernel
theorem dX11_never_8 : decode cX11_never 8 = .ok (.iload_n 2, 1) := by decide +kernel
theorem dX11_never_9 : decode cX11_never 9 = .ok (.aload_n 0, 1) := by decide +kernel
theorem dX11_never_10 : decode cX11_never 10 = .ok (.invokevirtual 70, 3) := by decide +kernel
theorem dX11_never_13 : decode cX11_never 13 = .ok (.if_icmp .gt 60, 3) := by decide +kernel
theorem dX11_never_16 : decode cX11_never 16 = .ok (.iconst 0, 1) := by decide +kernel
theorem dX11_never_17 : decode cX11_never 17 = .ok (.istore_n 3, 1) := by decide +kernel
theorem dX11_never_18 : decode cX11_never 18 = .ok (.iconst 0, 1) := by decide +kernel
theorem dX11_never_19 : decode cX11_never 19 = .ok (.istore 4, 2) := by decide +kernel
theorem dX11_never_21 : decode cX11_never 21 = .ok (.iload 4, 2) := by decide +kernel
theorem dX11_never_23 : decode cX11_never 23 = .ok (.aload_n 0, 1) := by decide +kernel
theorem dX11_never_24 : decode cX11_never 24 = .ok (.invokevirtual 70, 3) := by decide +kernel
theorem dX11_never_27 : decode cX11_never 27 = .ok (.if_icmp .gt 28, 3) := by decide +kernel
theorem dX11_never_30 : decode cX11_never 30 = .ok (.iload_n 3, 1) := by decide +kernel
theorem dX11_never_31 : decode cX11_never 31 = .ok (.aload_n 0, 1) := by decide +kernel
theorem dX11_never_32 : decode cX11_never 32 = .ok (.getfield 50, 3) := by decide +kernel
theorem dX11_never_35 : decode cX11_never 35 = .ok (.iload 4, 2) := by decide +kernel
theorem dX11_never_37 : decode cX11_never 37 = .ok (.iaload, 1) := by decide +kernel
theorem dX11_never_38 : decode cX11_never 38 = .ok (.iload_n 2, 1) := by decide +kernel
theorem dX11_never_39 : decode cX11_never 39 = .ok (.if_icmp .ne 7, 3) := by decide +kernel
theorem dX11_never_42 : decode cX11_never 42 = .ok (.iconst 1, 1) := by decide +kernel
theorem dX11_never_43 : decode cX11_never 43 = .ok (.goto 4, 3) := by decide +kernel
theorem dX11_never_46 : decode cX11_never 46 = .ok (.iconst 0, 1) := by decide +kernel
theorem dX11_never_47 : decode cX11_never 47 = .ok (.ior, 1) := by decide +kernel
theorem dX11_never_48 : decode cX11_never 48 = .ok (.istore_n 3, 1) := by decide +kernel
theorem dX11_never_49 : decode cX11_never 49 = .ok (.iinc 4 1, 3) := by decide +kernel
theorem dX11_never_52 : decode cX11_never 52 = .ok (.goto (-31), 3) := by decide +kernel
theorem dX11_never_55 : decode cX11_never 55 = .ok (.iload_n 1, 1) := by decide +kernel
theorem dX11_never_56 : decode cX11_never 56 = .ok (.iload_n 3, 1) := by decide +kernel
theorem dX11_never_57 : decode cX11_never 57 = .ok (.ifCond .eq 7, 3) := by decide +kernel
theorem dX11_never_60 : decode cX11_never 60 = .ok (.iconst 0, 1) := by decide +kernel
theorem dX11_never_61 : decode cX11_never 61 = .ok (.goto 4, 3) := by decide +kernel
theorem dX11_never_64 : decode cX11_never 64 = .ok (.iconst 1, 1) := by decide +kernel
theorem dX11_never_65 : decode cX11_never 65 = .ok (.iadd, 1) := by decide +kernel
theorem dX11_never_66 : decode cX11_never 66 = .ok (.istore_n 1, 1) := by decide +kernel
theorem dX11_never_67 : decode cX11_never 67 = .ok (.iinc 2 1, 3) := by decide +kernel
theorem dX11_never_70 : decode cX11_never 70 = .ok (.goto (-62), 3) := by decide +kernel
theorem dX11_never_73 : decode cX11_never 73 = .ok (.iload_n 1, 1) := by decide +kernel
theorem dX11_never_74 : decode cX11_never 74 = .ok (.ireturn, 1) := by decide +kernel
def B_X11_never_65 (o0 : Nat) (i2 : Int32) (s0 : Int32) (s1 : Int32) (μ : Me) (K8 : Int32 → Int32 → Me → Prop) (Q : Int32 → Me → Prop) : Prop := K8 (s1 + s0) (i2 + 1) μ
set_option maxHeartbeats 4000000 in
set_option maxRecDepth 100000 in
theorem tB_X11_never_65 {x : GX} (f : Fx x cX11_never RX11 5 (rmc 7 0 0)) {o0 : Nat} {i2 : Int32} {s0 : Int32} {s1 : Int32} {μ : Me} {Q : Int32 → Me → Prop} (hq : Rt x (some .int) (qI Q)) {K8 : Int32 → Int32 → Me → Prop} (hK8 : ∀ (a1 : Int32) (a2 : Int32) (ν : Me), K8 a1 a2 ν → G x 5 8 [(0, .ref (gB x + o0)), (1, .int a1), (2, .int a2)] [] ν 0 0) (h : B_X11_never_65 o0 i2 s0 s1 μ K8 Q) : G x 5 65 [(0, .ref (gB x + o0)), (2, .int i2)] [.int s0, .int s1] μ 0 0 := by
  unfold B_X11_never_65 at h
  refine g_iadd f dX11_never_65 ?_
  refine h_istore_n f dX11_never_66 rfl (by decide) ?_
  refine h_iinc f 2 1 dX11_never_67 rfl kc_1 (by decide) ?_
  refine g_goto f 8 dX11_never_70 rfl ?_
  exact h_sub [2, 1, 0] rfl (hK8 _ _ _ h)
def B_X11_never_47 (o0 : Nat) (i1 : Int32) (i2 : Int32) (i4 : Int32) (s0 : Int32) (s1 : Int32) (μ : Me) (K8 : Int32 → Int32 → Me → Prop) (K21 : Int32 → Int32 → Me → Prop) (Q : Int32 → Me → Prop) : Prop := K21 (s1 ||| s0) (i4 + 1) μ
set_option maxHeartbeats 4000000 in
set_option maxRecDepth 100000 in
theorem tB_X11_never_47 {x : GX} (f : Fx x cX11_never RX11 5 (rmc 7 0 0)) {o0 : Nat} {i1 : Int32} {i2 : Int32} {i4 : Int32} {s0 : Int32} {s1 : Int32} {μ : Me} {Q : Int32 → Me → Prop} (hq : Rt x (some .int) (qI Q)) {K8 : Int32 → Int32 → Me → Prop} {K21 : Int32 → Int32 → Me → Prop} (hK8 : ∀ (a1 : Int32) (a2 : Int32) (ν : Me), K8 a1 a2 ν → G x 5 8 [(0, .ref (gB x + o0)), (1, .int a1), (2, .int a2)] [] ν 0 0) (hK21 : ∀ (a3 : Int32) (a4 : Int32) (ν : Me), K21 a3 a4 ν → G x 5 21 [(0, .ref (gB x + o0)), (1, .int i1), (2, .int i2), (3, .int a3), (4, .int a4)] [] ν 0 0) (h : B_X11_never_47 o0 i1 i2 i4 s0 s1 μ K8 K21 Q) : G x 5 47 [(0, .ref (gB x + o0)), (1, .int i1), (2, .int i2), (4, .int i4)] [.int s0, .int s1] μ 0 0 := by
  unfold B_X11_never_47 at h
  refine g_ior f dX11_never_47 ?_
  refine h_istore_n f dX11_never_48 rfl (by decide) ?_
  refine h_iinc f 4 1 dX11_never_49 rfl kc_1 (by decide) ?_
  refine g_goto f 21 dX11_never_52 rfl ?_
  exact h_sub [2, 3, 4, 1, 0] rfl (hK21 _ _ _ h)
def B_X11_never_21 (o0 : Nat) (i1 : Int32) (i2 : Int32) (i3 : Int32) (i4 : Int32) (μ : Me) (K8 : Int32 → Int32 → Me → Prop) (K21 : Int32 → Int32 → Me → Prop) (Q : Int32 → Me → Prop) : Prop := mok μ o0 11 ∧ S_X11_all o0 μ (fun r12 μ10 => ((r12 < i4 → ((i3 = 0 → B_X11_never_65 o0 i2 1 i1 μ10 K8 Q) ∧ (¬ i3 = 0 → B_X11_never_65 o0 i2 0 i1 μ10 K8 Q))) ∧ (¬ r12 < i4 → ∃ t13, mgr μ10 o0 27 = some t13 ∧ mok μ10 t13 12 ∧ vp_in i4 (mln μ10 t13) ∧ ((¬ (mgi μ10 t13 i4.toNatClampNeg) = i2 → B_X11_never_47 o0 i1 i2 i4 0 i3 μ10 K8 K21 Q) ∧ ((mgi μ10 t13 i4.toNatClampNeg) = i2 → B_X11_never_47 o0 i1 i2 i4 1 i3 μ10 K8 K21 Q)))))
set_option maxHeartbeats 4000000 in
set_option maxRecDepth 100000 in
theorem tB_X11_never_21 {x : GX} (f : Fx x cX11_never RX11 5 (rmc 7 0 0)) {o0 : Nat} {i1 : Int32} {i2 : Int32} {i3 : Int32} {i4 : Int32} {μ : Me} {Q : Int32 → Me → Prop} (hq : Rt x (some .int) (qI Q)) {K8 : Int32 → Int32 → Me → Prop} {K21 : Int32 → Int32 → Me → Prop} (hK8 : ∀ (a1 : Int32) (a2 : Int32) (ν : Me), K8 a1 a2 ν → G x 5 8 [(0, .ref (gB x + o0)), (1, .int a1), (2, .int a2)] [] ν 0 0) (hK21 : ∀ (a3 : Int32) (a4 : Int32) (ν : Me), K21 a3 a4 ν → G x 5 21 [(0, .ref (gB x + o0)), (1, .int i1), (2, .int i2), (3, .int a3), (4, .int a4)] [] ν 0 0) (h : B_X11_never_21 o0 i1 i2 i3 i4 μ K8 K21 Q) : G x 5 21 [(0, .ref (gB x + o0)), (1, .int i1), (2, .int i2), (3, .int i3), (4, .int i4)] [] μ 0 0 := by
  unfold B_X11_never_21 at h
  refine g_iload f 4 dX11_never_21 rfl ?_
  refine g_aload_n f 0 dX11_never_23 rfl rfl ?_
  obtain ⟨v9, h⟩ := h
  refine g_callV f mk_X11_70 v9 (c_X11_all h) dX11_never_24 rfl rfl (Nat.le_of_ble_eq_true rfl) (rm_ok (by decide) (by decide)) ⟨Nat.le_of_ble_eq_true rfl, Nat.le_of_ble_eq_true rfl⟩ (kI fun r12 μ10 x11 h => ?_)
  refine g_ic_gt f 55 dX11_never_27 rfl h (fun h => ?_) (fun h => ?_)
  · refine g_iload_n f 1 dX11_never_55 rfl rfl ?_
    refine g_iload_n f 3 dX11_never_56 rfl rfl ?_
    refine g_if_eq f 64 dX11_never_57 rfl h (fun h => ?_) (fun h => ?_)
    · refine g_iconst f 1 dX11_never_64 kc_1 ?_
      exact h_sub [0, 2] rfl (tB_X11_never_65 f hq hK8 h)
    · refine g_iconst f 0 dX11_never_60 kc_0 ?_
      refine g_goto f 65 dX11_never_61 rfl ?_
      exact h_sub [0, 2] rfl (tB_X11_never_65 f hq hK8 h)
  · refine g_iload_n f 3 dX11_never_30 rfl rfl ?_
    refine g_aload_n f 0 dX11_never_31 rfl rfl ?_
    have v9 := mex_ok x11 v9
    refine g_getR f fk_X11_50 v9 dX11_never_32 rfl h (fun t13 h => ?_)
    refine g_iload f 4 dX11_never_35 rfl ?_
    obtain ⟨v14, h⟩ := h
    refine g_iald f v14 dX11_never_37 h (fun h => ?_)
    refine g_iload_n f 2 dX11_never_38 rfl rfl ?_
    refine g_ic_ne f 46 dX11_never_39 rfl h (fun h => ?_) (fun h => ?_)
    · refine g_iconst f 0 dX11_never_46 kc_0 ?_
      exact h_sub [0, 1, 2, 4] rfl (tB_X11_never_47 f hq hK8 hK21 h)
    · refine g_iconst f 1 dX11_never_42 kc_1 ?_
      refine g_goto f 47 dX11_never_43 rfl ?_
      exact h_sub [0, 1, 2, 4] rfl (tB_X11_never_47 f hq hK8 hK21 h)
def L_X11_never_21 (o0 : Nat) (i1 : Int32) (i2 : Int32) (i3 : Int32) (i4 : Int32) (μ : Me) (K8 : Int32 → Int32 → Me → Prop) (Q : Int32 → Me → Prop) : Prop := ∃ I : Int32 → Int32 → Me → Nat → Prop, (∃ n, I i3 i4 μ n) ∧ ∀ (i3 : Int32) (i4 : Int32) (μ : Me) (n : Nat), I i3 i4 μ n → B_X11_never_21 o0 i1 i2 i3 i4 μ K8 (fun a3 a4 ν => ∃ n', n' < n ∧ I a3 a4 ν n') Q
set_option maxHeartbeats 4000000 in
set_option maxRecDepth 100000 in
theorem tL_X11_never_21 {x : GX} (f : Fx x cX11_never RX11 5 (rmc 7 0 0)) {o0 : Nat} {i1 : Int32} {i2 : Int32} {i3 : Int32} {i4 : Int32} {μ : Me} {Q : Int32 → Me → Prop} (hq : Rt x (some .int) (qI Q)) {K8 : Int32 → Int32 → Me → Prop} (hK8 : ∀ (a1 : Int32) (a2 : Int32) (ν : Me), K8 a1 a2 ν → G x 5 8 [(0, .ref (gB x + o0)), (1, .int a1), (2, .int a2)] [] ν 0 0) (h : L_X11_never_21 o0 i1 i2 i3 i4 μ K8 Q) : G x 5 21 [(0, .ref (gB x + o0)), (1, .int i1), (2, .int i2), (3, .int i3), (4, .int i4)] [] μ 0 0 := by
  obtain ⟨I, ⟨n, hI⟩, hs⟩ := h
  induction n using Nat.strongRecOn generalizing i3 i4 μ with
  | ind n ih => exact tB_X11_never_21 f hq hK8 (fun a3 a4 ν hk => by obtain ⟨n2, hn, hI2⟩ := hk; exact ih n2 hn hI2) (hs _ _ _ _ hI)
def B_X11_never_8 (o0 : Nat) (i1 : Int32) (i2 : Int32) (μ : Me) (K8 : Int32 → Int32 → Me → Prop) (Q : Int32 → Me → Prop) : Prop := mok μ o0 11 ∧ S_X11_all o0 μ (fun r8 μ6 => ((r8 < i2 → Q i1 μ6) ∧ (¬ r8 < i2 → L_X11_never_21 o0 i1 i2 0 0 μ6 K8 Q)))
set_option maxHeartbeats 4000000 in
set_option maxRecDepth 100000 in
theorem tB_X11_never_8 {x : GX} (f : Fx x cX11_never RX11 5 (rmc 7 0 0)) {o0 : Nat} {i1 : Int32} {i2 : Int32} {μ : Me} {Q : Int32 → Me → Prop} (hq : Rt x (some .int) (qI Q)) {K8 : Int32 → Int32 → Me → Prop} (hK8 : ∀ (a1 : Int32) (a2 : Int32) (ν : Me), K8 a1 a2 ν → G x 5 8 [(0, .ref (gB x + o0)), (1, .int a1), (2, .int a2)] [] ν 0 0) (h : B_X11_never_8 o0 i1 i2 μ K8 Q) : G x 5 8 [(0, .ref (gB x + o0)), (1, .int i1), (2, .int i2)] [] μ 0 0 := by
  unfold B_X11_never_8 at h
  refine g_iload_n f 2 dX11_never_8 rfl rfl ?_
  refine g_aload_n f 0 dX11_never_9 rfl rfl ?_
  obtain ⟨v5, h⟩ := h
  refine g_callV f mk_X11_70 v5 (c_X11_all h) dX11_never_10 rfl rfl (Nat.le_of_ble_eq_true rfl) (rm_ok (by decide) (by decide)) ⟨Nat.le_of_ble_eq_true rfl, Nat.le_of_ble_eq_true rfl⟩ (kI fun r8 μ6 x7 h => ?_)
  refine g_ic_gt f 73 dX11_never_13 rfl h (fun h => ?_) (fun h => ?_)
  · refine g_iload_n f 1 dX11_never_73 rfl rfl ?_
    exact g_iret f hq (Nat.le_of_ble_eq_true rfl) (Nat.le_of_ble_eq_true rfl) dX11_never_74 h
  · refine g_iconst f 0 dX11_never_16 kc_0 ?_
    refine h_istore_n f dX11_never_17 rfl (by decide) ?_
    refine g_iconst f 0 dX11_never_18 kc_0 ?_
    refine h_istore f dX11_never_19 (by decide) ?_
    exact h_sub [2, 3, 4, 1, 0] rfl (tL_X11_never_21 f hq hK8 h)
def L_X11_never_8 (o0 : Nat) (i1 : Int32) (i2 : Int32) (μ : Me) (Q : Int32 → Me → Prop) : Prop := ∃ I : Int32 → Int32 → Me → Nat → Prop, (∃ n, I i1 i2 μ n) ∧ ∀ (i1 : Int32) (i2 : Int32) (μ : Me) (n : Nat), I i1 i2 μ n → B_X11_never_8 o0 i1 i2 μ (fun a1 a2 ν => ∃ n', n' < n ∧ I a1 a2 ν n') Q
set_option maxHeartbeats 4000000 in
set_option maxRecDepth 100000 in
theorem tL_X11_never_8 {x : GX} (f : Fx x cX11_never RX11 5 (rmc 7 0 0)) {o0 : Nat} {i1 : Int32} {i2 : Int32} {μ : Me} {Q : Int32 → Me → Prop} (hq : Rt x (some .int) (qI Q)) (h : L_X11_never_8 o0 i1 i2 μ Q) : G x 5 8 [(0, .ref (gB x + o0)), (1, .int i1), (2, .int i2)] [] μ 0 0 := by
  obtain ⟨I, ⟨n, hI⟩, hs⟩ := h
  induction n using Nat.strongRecOn generalizing i1 i2 μ with
  | ind n ih => exact tB_X11_never_8 f hq (fun a1 a2 ν hk => by obtain ⟨n2, hn, hI2⟩ := hk; exact ih n2 hn hI2) (hs _ _ _ _ hI)
def S_X11_never (o0 : Nat) (μ : Me) (Q : Int32 → Me → Prop) : Prop := mok μ o0 11 ∧ S_X11_layLeads o0 μ (fun μ2 => L_X11_never_8 o0 0 0 μ2 Q)
set_option maxHeartbeats 4000000 in
set_option maxRecDepth 100000 in
theorem t_X11_never {x : GX} (f : Fx x cX11_never RX11 5 (rmc 7 0 0)) {o0 : Nat} {μ : Me} {Q : Int32 → Me → Prop} (hq : Rt x (some .int) (qI Q)) (h : S_X11_never o0 μ Q) : G x 5 0 [(0, .ref (gB x + o0))] [] μ 0 0 := by
  unfold S_X11_never at h
  refine g_aload_n f 0 dX11_never_0 rfl rfl ?_
  obtain ⟨v1, h⟩ := h
  refine g_callV f mk_X11_377 v1 (c_X11_layLeads h) dX11_never_1 rfl rfl (Nat.le_of_ble_eq_true rfl) (rm_ok (by decide) (by decide)) ⟨Nat.le_of_ble_eq_true rfl, Nat.le_of_ble_eq_true rfl⟩ (kV fun μ2 x3 h => ?_)
  refine g_iconst f 0 dX11_never_4 kc_0 ?_
  refine h_istore_n f dX11_never_5 rfl (by decide) ?_
  refine g_iconst f 0 dX11_never_6 kc_0 ?_
  refine h_istore_n f dX11_never_7 rfl (by decide) ?_
  exact h_sub [2, 1, 0] rfl (tL_X11_never_8 f hq h)
theorem c_X11_never {Ω : OM} {o0 : Nat} {μ : Me} {Q : Int32 → Me → Prop} (h : S_X11_never o0 μ Q) : CT Ω yX11_never cX11_never 5 (some .int) (rmc 7 0 0) [.ref (oB Ω + o0)] μ (qI Q) := CT_of (by decide) rfl (by simp [lg_sl, Value.category]) (fun x hΩ f hq hi => by subst hΩ; exact t_X11_never f hq h)
theorem dX11_after_0 : decode cX11_after 0 = .ok (.aload_n 0, 1) := by decide +kernel
theorem dX11_after_1 : decode cX11_after 1 = .ok (.iload_n 1, 1) := by decide +kernel
theorem dX11_after_2 : decode cX11_after 2 = .ok (.invokevirtual 329, 3) := by decide +kernel
theorem dX11_after_5 : decode cX11_after 5 = .ok (.ifCond .eq 13, 3) := by decide +kernel
theorem dX11_after_8 : decode cX11_after 8 = .ok (.iload_n 2, 1) := by decide +kernel
theorem dX11_after_9 : decode cX11_after 9 = .ok (.iconst 0, 1) := by decide +kernel
theorem dX11_after_10 : decode cX11_after 10 = .ok (.bipush 60, 2) := by decide +kernel
theorem dX11_after_12 : decode cX11_after 12 = .ok (.invokestatic 66, 3) := by decide +kernel
theorem dX11_after_15 : decode cX11_after 15 = .ok (.ifCond .ne 5, 3) := by decide +kernel
theorem dX11_after_18 : decode cX11_after 18 = .ok (.iconst (-1), 1) := by decide +kernel
theorem dX11_after_19 : decode cX11_after 19 = .ok (.ireturn, 1) := by decide +kernel
theorem dX11_after_20 : decode cX11_after 20 = .ok (.aload_n 0, 1) := by decide +kernel
theorem dX11_after_21 : decode cX11_after 21 = .ok (.invokevirtual 377, 3) := by decide +kernel
theorem dX11_after_24 : decode cX11_after 24 = .ok (.aload_n 0, 1) := by decide +kernel
theorem dX11_after_25 : decode cX11_after 25 = .ok (.iload_n 1, 1) := by decide +kernel
theorem dX11_after_26 : decode cX11_after 26 = .ok (.iload_n 2, 1) := by decide +kernel
theorem dX11_after_27 : decode cX11_after 27 = .ok (.invokevirtual 380, 3) := by decide +kernel
theorem dX11_after_30 : decode cX11_after 30 = .ok (.ireturn, 1) := by decide +kernel
def S_X11_after (o0 : Nat) (i1 : Int32) (i2 : Int32) (μ : Me) (Q : Int32 → Me → Prop) : Prop := mok μ o0 11 ∧ S_X11_areRings o0 i1 μ (fun r4 μ2 => ((r4 = 0 → Q (-1) μ2) ∧ (¬ r4 = 0 → S_X11_isIn i2 0 60 μ2 (fun r7 μ5 => ((¬ r7 = 0 → S_X11_layLeads o0 μ5 (fun μ8 => S_X11_goneFrom o0 i1 i2 μ8 (fun r13 μ11 => Q r13 μ11))) ∧ (r7 = 0 → Q (-1) μ5))))))
set_option maxHeartbeats 4000000 in
set_option maxRecDepth 100000 in
theorem t_X11_after {x : GX} (f : Fx x cX11_after RX11 3 (rmc 7 0 0)) {o0 : Nat} {i1 : Int32} {i2 : Int32} {μ : Me} {Q : Int32 → Me → Prop} (hq : Rt x (some .int) (qI Q)) (h : S_X11_after o0 i1 i2 μ Q) : G x 3 0 [(0, .ref (gB x + o0)), (1, .int i1), (2, .int i2)] [] μ 0 0 := by
  unfold S_X11_after at h
  refine g_aload_n f 0 dX11_after_0 rfl rfl ?_
  refine g_iload_n f 1 dX11_after_1 rfl rfl ?_
  obtain ⟨v1, h⟩ := h
  refine g_callV f mk_X11_329 v1 (c_X11_areRings h) dX11_after_2 rfl rfl (Nat.le_of_ble_eq_true rfl) (rm_ok (by decide) (by decide)) ⟨Nat.le_of_ble_eq_true rfl, Nat.le_of_ble_eq_true rfl⟩ (kI fun r4 μ2 x3 h => ?_)
  refine g_if_eq f 18 dX11_after_5 rfl h (fun h => ?_) (fun h => ?_)
  · refine g_iconst f (-1) dX11_after_18 kc_m1 ?_
    exact g_iret f hq (Nat.le_of_ble_eq_true rfl) (Nat.le_of_ble_eq_true rfl) dX11_after_19 h
  · refine g_iload_n f 2 dX11_after_8 rfl rfl ?_
    refine g_iconst f 0 dX11_after_9 kc_0 ?_
    refine g_bipush f 60 dX11_after_10 kb_60 ?_
    refine g_callS f mk_X11_66 (c_X11_isIn h) dX11_after_12 rfl rfl (Nat.le_of_ble_eq_true rfl) (rm_ok (by decide) (by decide)) ⟨Nat.le_of_ble_eq_true rfl, Nat.le_of_ble_eq_true rfl⟩ (kI fun r7 μ5 x6 h => ?_)
    refine g_if_ne f 20 dX11_after_15 rfl h (fun h => ?_) (fun h => ?_)
    · refine g_aload_n f 0 dX11_after_20 rfl rfl ?_
      have v1 := mex_ok x3 v1
      have v1 := mex_ok x6 v1
      refine g_callV f mk_X11_377 v1 (c_X11_layLeads h) dX11_after_21 rfl rfl (Nat.le_of_ble_eq_true rfl) (rm_ok (by decide) (by decide)) ⟨Nat.le_of_ble_eq_true rfl, Nat.le_of_ble_eq_true rfl⟩ (kV fun μ8 x9 h => ?_)
      refine g_aload_n f 0 dX11_after_24 rfl rfl ?_
      refine g_iload_n f 1 dX11_after_25 rfl rfl ?_
      refine g_iload_n f 2 dX11_after_26 rfl rfl ?_
      have v1 := mex_ok x9 v1
      refine g_callV f mk_X11_380 v1 (c_X11_goneFrom h) dX11_after_27 rfl rfl (Nat.le_of_ble_eq_true rfl) (rm_ok (by decide) (by decide)) ⟨Nat.le_of_ble_eq_true rfl, Nat.le_of_ble_eq_true rfl⟩ (kI fun r13 μ11 x12 h => ?_)
      exact g_iret f hq (Nat.le_of_ble_eq_true rfl) (Nat.le_of_ble_eq_true rfl) dX11_after_30 h
    · refine g_iconst f (-1) dX11_after_18 kc_m1 ?_
      exact g_iret f hq (Nat.le_of_ble_eq_true rfl) (Nat.le_of_ble_eq_true rfl) dX11_after_19 h
theorem c_X11_after {Ω : OM} {o0 : Nat} {i1 : Int32} {i2 : Int32} {μ : Me} {Q : Int32 → Me → Prop} (h : S_X11_after o0 i1 i2 μ Q) : CT Ω yX11_after cX11_after 3 (some .int) (rmc 7 0 0) [.ref (oB Ω + o0), .int i1, .int i2] μ (qI Q) := CT_of (by decide) rfl (by simp [lg_sl, Value.category]) (fun x hΩ f hq hi => by subst hΩ; exact t_X11_after f hq h)
theorem dX11_times_0 : decode cX11_times 0 = .ok (.aload_n 0, 1) := by decide +kernel
theorem dX11_times_1 : decode cX11_times 1 = .ok (.iload_n 1, 1) := by decide +kernel
theorem dX11_times_2 : decode cX11_times 2 = .ok (.invokevirtual 329, 3) := by decide +kernel
theorem dX11_times_5 : decode cX11_times 5 = .ok (.ifCond .eq 11, 3) := by decide +kernel
theorem dX11_times_8 : decode cX11_times 8 = .ok (.aload_n 0, 1) := by decide +kernel
theorem dX11_times_9 : decode cX11_times 9 = .ok (.iload_n 2, 1) := by decide +kernel
theorem dX11_times_10 : decode cX11_times 10 = .ok (.invokevirtual 329, 3) := by decide +kernel
theorem dX11_times_13 : decode cX11_times 13 = .ok (.ifCond .ne 5, 3) := by decide +kernel
theorem dX11_times_16 : decode cX11_times 16 = .ok (.iconst (-1), 1) := by decide +kernel
theorem dX11_times_17 : decode cX11_times 17 = .ok (.ireturn, 1) := by decide +kernel
theorem dX11_times_18 : decode cX11_times 18 = .ok (.aload_n 0, 1) := by decide +kernel
theorem dX11_times_19 : decode cX11_times 19 = .ok (.invokevirtual 377, 3) := by decide +kernel
theorem dX11_times_22 : decode cX11_times 22 = .ok (.aload_n 0, 1) := by decide +kernel
theorem dX11_times_23 : decode cX11_times 23 = .ok (.iload_n 1, 1) := by decide +kernel
theorem dX11_times_24 : decode cX11_times 24 = .ok (.iload_n 2, 1) := by decide +kernel
theorem dX11_times_25 : decode cX11_times 25 = .ok (.invokevirtual 386, 3) := by decide +kernel
theorem dX11_times_28 : decode cX11_times 28 = .ok (.ireturn, 1) := by decide +kernel
def S_X11_times (o0 : Nat) (i1 : Int32) (i2 : Int32) (μ : Me) (Q : Int32 → Me → Prop) : Prop := mok μ o0 11 ∧ S_X11_areRings o0 i1 μ (fun r4 μ2 => ((r4 = 0 → Q (-1) μ2) ∧ (¬ r4 = 0 → S_X11_areRings o0 i2 μ2 (fun r7 μ5 => ((¬ r7 = 0 → S_X11_layLeads o0 μ5 (fun μ8 => S_X11_timesTo o0 i1 i2 μ8 (fun r13 μ11 => Q r13 μ11))) ∧ (r7 = 0 → Q (-1) μ5))))))
set_option maxHeartbeats 4000000 in
set_option maxRecDepth 100000 in
theorem t_X11_times {x : GX} (f : Fx x cX11_times RX11 3 (rmc 7 0 0)) {o0 : Nat} {i1 : Int32} {i2 : Int32} {μ : Me} {Q : Int32 → Me → Prop} (hq : Rt x (some .int) (qI Q)) (h : S_X11_times o0 i1 i2 μ Q) : G x 3 0 [(0, .ref (gB x + o0)), (1, .int i1), (2, .int i2)] [] μ 0 0 := by
  unfold S_X11_times at h
  refine g_aload_n f 0 dX11_times_0 rfl rfl ?_
  refine g_iload_n f 1 dX11_times_1 rfl rfl ?_
  obtain ⟨v1, h⟩ := h
  refine g_callV f mk_X11_329 v1 (c_X11_areRings h) dX11_times_2 rfl rfl (Nat.le_of_ble_eq_true rfl) (rm_ok (by decide) (by decide)) ⟨Nat.le_of_ble_eq_true rfl, Nat.le_of_ble_eq_true rfl⟩ (kI fun r4 μ2 x3 h => ?_)
  refine g_if_eq f 16 dX11_times_5 rfl h (fun h => ?_) (fun h => ?_)
  · refine g_iconst f (-1) dX11_times_16 kc_m1 ?_
    exact g_iret f hq (Nat.le_of_ble_eq_true rfl) (Nat.le_of_ble_eq_true rfl) dX11_times_17 h
  · refine g_aload_n f 0 dX11_times_8 rfl rfl ?_
    refine g_iload_n f 2 dX11_times_9 rfl rfl ?_
    have v1 := mex_ok x3 v1
    refine g_callV f mk_X11_329 v1 (c_X11_areRings h) dX11_times_10 rfl rfl (Nat.le_of_ble_eq_true rfl) (rm_ok (by decide) (by decide)) ⟨Nat.le_of_ble_eq_true rfl, Nat.le_of_ble_eq_true rfl⟩ (kI fun r7 μ5 x6 h => ?_)
    refine g_if_ne f 18 dX11_times_13 rfl h (fun h => ?_) (fun h => ?_)
    · refine g_aload_n f 0 dX11_times_18 rfl rfl ?_
      have v1 := mex_ok x6 v1
      refine g_callV f mk_X11_377 v1 (c_X11_layLeads h) dX11_times_19 rfl rfl (Nat.le_of_ble_eq_true rfl) (rm_ok (by decide) (by decide)) ⟨Nat.le_of_ble_eq_true rfl, Nat.le_of_ble_eq_true rfl⟩ (kV fun μ8 x9 h => ?_)
      refine g_aload_n f 0 dX11_times_22 rfl rfl ?_
      refine g_iload_n f 1 dX11_times_23 rfl rfl ?_
      refine g_iload_n f 2 dX11_times_24 rfl rfl ?_
      have v1 := mex_ok x9 v1
      refine g_callV f mk_X11_386 v1 (c_X11_timesTo h) dX11_times_25 rfl rfl (Nat.le_of_ble_eq_true rfl) (rm_ok (by decide) (by decide)) ⟨Nat.le_of_ble_eq_true rfl, Nat.le_of_ble_eq_true rfl⟩ (kI fun r13 μ11 x12 h => ?_)
      exact g_iret f hq (Nat.le_of_ble_eq_true rfl) (Nat.le_of_ble_eq_true rfl) dX11_times_28 h
    · refine g_iconst f (-1) dX11_times_16 kc_m1 ?_
      exact g_iret f hq (Nat.le_of_ble_eq_true rfl) (Nat.le_of_ble_eq_true rfl) dX11_times_17 h
theorem c_X11_times {Ω : OM} {o0 : Nat} {i1 : Int32} {i2 : Int32} {μ : Me} {Q : Int32 → Me → Prop} (h : S_X11_times o0 i1 i2 μ Q) : CT Ω yX11_times cX11_times 3 (some .int) (rmc 7 0 0) [.ref (oB Ω + o0), .int i1, .int i2] μ (qI Q) := CT_of (by decide) rfl (by simp [lg_sl, Value.category]) (fun x hΩ f hq hi => by subst hΩ; exact t_X11_times f hq h)
theorem dX11_apart_0 : decode cX11_apart 0 = .ok (.aload_n 0, 1) := by decide +kernel
theorem dX11_apart_1 : decode cX11_apart 1 = .ok (.iload_n 1, 1) := by decide +kernel
theorem dX11_apart_2 : decode cX11_apart 2 = .ok (.invokevirtual 329, 3) := by decide +kernel
theorem dX11_apart_5 : decode cX11_apart 5 = .ok (.ifCond .eq 11, 3) := by decide +kernel
theorem dX11_apart_8 : decode cX11_apart 8 = .ok (.aload_n 0, 1) := by decide +kernel
theorem dX11_apart_9 : decode cX11_apart 9 = .ok (.iload_n 2, 1) := by decide +kernel
theorem dX11_apart_10 : decode cX11_apart 10 = .ok (.invokevirtual 329, 3) := by decide +kernel
theorem dX11_apart_13 : decode cX11_apart 13 = .ok (.ifCond .ne 5, 3) := by decide +kernel
theorem dX11_apart_16 : decode cX11_apart 16 = .ok (.iconst (-1), 1) := by decide +kernel
theorem dX11_apart_17 : decode cX11_apart 17 = .ok (.ireturn, 1) := by decide +kernel
theorem dX11_apart_18 : decode cX11_apart 18 = .ok (.aload_n 0, 1) := by decide +kernel
theorem dX11_apart_19 : decode cX11_apart 19 = .ok (.invokevirtual 377, 3) := by decide +kernel
theorem dX11_apart_22 : decode cX11_apart 22 = .ok (.iconst 0, 1) := by decide +kernel
theorem dX11_apart_23 : decode cX11_apart 23 = .ok (.istore_n 3, 1) := by decide +kernel
theorem dX11_apart_24 : decode cX11_apart 24 = .ok (.iload_n 3, 1) := by decide +kernel
theorem dX11_apart_25 : decode cX11_apart 25 = .ok (.sipush 256, 3) := by decide +kernel
theorem dX11_apart_28 : decode cX11_apart 28 = .ok (.if_icmp .gt 26, 3) := by decide +kernel
theorem dX11_apart_31 : decode cX11_apart 31 = .ok (.aload_n 0, 1) := by decide +kernel
theorem dX11_apart_32 : decode cX11_apart 32 = .ok (.iload_n 1, 1) := by decide +kernel
theorem dX11_apart_33 : decode cX11_apart 33 = .ok (.iload_n 3, 1) := by decide +kernel
theorem dX11_apart_34 : decode cX11_apart 34 = .ok (.invokevirtual 380, 3) := by decide +kernel
theorem dX11_apart_37 : decode cX11_apart 37 = .ok (.aload_n 0, 1) := by decide +kernel
theorem dX11_apart_38 : decode cX11_apart 38 = .ok (.iload_n 2, 1) := by decide +kernel
theorem dX11_apart_39 : decode cX11_apart 39 = .ok (.iload_n 3, 1) := by decide +kernel
theorem dX11_apart_40 : decode cX11_apart 40 = .ok (.invokevirtual 380, 3) := by decide +kernel
theorem dX11_apart_43 : decode cX11_apart 43 = .ok (.if_icmp .ne 5, 3) := by decide +kernel
theorem dX11_apart_46 : decode cX11_apart 46 = .ok (.iload_n 3, 1) := by decide +kernel
theorem dX11_apart_47 : decode cX11_apart 47 = .ok (.ireturn, 1) := by decide +kernel
theorem dX11_apart_48 : decode cX11_apart 48 = .ok (.iinc 3 1, 3) := by decide +kernel
theorem dX11_apart_51 : decode cX11_apart 51 = .ok (.goto (-27), 3) := by decide +kernel
theorem dX11_apart_54 : decode cX11_apart 54 = .ok (.iconst (-1), 1) := by decide +kernel
theorem dX11_apart_55 : decode cX11_apart 55 = .ok (.ireturn, 1) := by decide +kernel
def B_X11_apart_24 (o0 : Nat) (i1 : Int32) (i2 : Int32) (i3 : Int32) (μ : Me) (K24 : Int32 → Me → Prop) (Q : Int32 → Me → Prop) : Prop := ((256 < i3 → Q (-1) μ) ∧ (¬ 256 < i3 → mok μ o0 11 ∧ S_X11_goneFrom o0 i1 i3 μ (fun r14 μ12 => S_X11_goneFrom o0 i2 i3 μ12 (fun r17 μ15 => ((¬ r14 = r17 → K24 (i3 + 1) μ15) ∧ (r14 = r17 → Q i3 μ15))))))
set_option maxHeartbeats 4000000 in
set_option maxRecDepth 100000 in
theorem tB_X11_apart_24 {x : GX} (f : Fx x cX11_apart RX11 4 (rmc 7 0 0)) {o0 : Nat} {i1 : Int32} {i2 : Int32} {i3 : Int32} {μ : Me} {Q : Int32 → Me → Prop} (hq : Rt x (some .int) (qI Q)) {K24 : Int32 → Me → Prop} (hK24 : ∀ (a3 : Int32) (ν : Me), K24 a3 ν → G x 4 24 [(0, .ref (gB x + o0)), (1, .int i1), (2, .int i2), (3, .int a3)] [] ν 0 0) (h : B_X11_apart_24 o0 i1 i2 i3 μ K24 Q) : G x 4 24 [(0, .ref (gB x + o0)), (1, .int i1), (2, .int i2), (3, .int i3)] [] μ 0 0 := by
  unfold B_X11_apart_24 at h
  refine g_iload_n f 3 dX11_apart_24 rfl rfl ?_
  refine g_sipush f 256 dX11_apart_25 ks_256 ?_
  refine g_ic_gt f 54 dX11_apart_28 rfl h (fun h => ?_) (fun h => ?_)
  · refine g_iconst f (-1) dX11_apart_54 kc_m1 ?_
    exact g_iret f hq (Nat.le_of_ble_eq_true rfl) (Nat.le_of_ble_eq_true rfl) dX11_apart_55 h
  · refine g_aload_n f 0 dX11_apart_31 rfl rfl ?_
    refine g_iload_n f 1 dX11_apart_32 rfl rfl ?_
    refine g_iload_n f 3 dX11_apart_33 rfl rfl ?_
    obtain ⟨v11, h⟩ := h
    refine g_callV f mk_X11_380 v11 (c_X11_goneFrom h) dX11_apart_34 rfl rfl (Nat.le_of_ble_eq_true rfl) (rm_ok (by decide) (by decide)) ⟨Nat.le_of_ble_eq_true rfl, Nat.le_of_ble_eq_true rfl⟩ (kI fun r14 μ12 x13 h => ?_)
    refine g_aload_n f 0 dX11_apart_37 rfl rfl ?_
    refine g_iload_n f 2 dX11_apart_38 rfl rfl ?_
    refine g_iload_n f 3 dX11_apart_39 rfl rfl ?_
    have v11 := mex_ok x13 v11
    refine g_callV f mk_X11_380 v11 (c_X11_goneFrom h) dX11_apart_40 rfl rfl (Nat.le_of_ble_eq_true rfl) (rm_ok (by decide) (by decide)) ⟨Nat.le_of_ble_eq_true rfl, Nat.le_of_ble_eq_true rfl⟩ (kI fun r17 μ15 x16 h => ?_)
    refine g_ic_ne f 48 dX11_apart_43 rfl h (fun h => ?_) (fun h => ?_)
    · refine h_iinc f 3 1 dX11_apart_48 rfl kc_1 (by decide) ?_
      refine g_goto f 24 dX11_apart_51 rfl ?_
      exact h_sub [1, 2, 3, 0] rfl (hK24 _ _ h)
    · refine g_iload_n f 3 dX11_apart_46 rfl rfl ?_
      exact g_iret f hq (Nat.le_of_ble_eq_true rfl) (Nat.le_of_ble_eq_true rfl) dX11_apart_47 h
def L_X11_apart_24 (o0 : Nat) (i1 : Int32) (i2 : Int32) (i3 : Int32) (μ : Me) (Q : Int32 → Me → Prop) : Prop := ∃ I : Int32 → Me → Nat → Prop, (∃ n, I i3 μ n) ∧ ∀ (i3 : Int32) (μ : Me) (n : Nat), I i3 μ n → B_X11_apart_24 o0 i1 i2 i3 μ (fun a3 ν => ∃ n', n' < n ∧ I a3 ν n') Q
set_option maxHeartbeats 4000000 in
set_option maxRecDepth 100000 in
theorem tL_X11_apart_24 {x : GX} (f : Fx x cX11_apart RX11 4 (rmc 7 0 0)) {o0 : Nat} {i1 : Int32} {i2 : Int32} {i3 : Int32} {μ : Me} {Q : Int32 → Me → Prop} (hq : Rt x (some .int) (qI Q)) (h : L_X11_apart_24 o0 i1 i2 i3 μ Q) : G x 4 24 [(0, .ref (gB x + o0)), (1, .int i1), (2, .int i2), (3, .int i3)] [] μ 0 0 := by
  obtain ⟨I, ⟨n, hI⟩, hs⟩ := h
  induction n using Nat.strongRecOn generalizing i3 μ with
  | ind n ih => exact tB_X11_apart_24 f hq (fun a3 ν hk => by obtain ⟨n2, hn, hI2⟩ := hk; exact ih n2 hn hI2) (hs _ _ _ hI)
def S_X11_apart (o0 : Nat) (i1 : Int32) (i2 : Int32) (μ : Me) (Q : Int32 → Me → Prop) : Prop := mok μ o0 11 ∧ S_X11_areRings o0 i1 μ (fun r4 μ2 => ((r4 = 0 → Q (-1) μ2) ∧ (¬ r4 = 0 → S_X11_areRings o0 i2 μ2 (fun r7 μ5 => ((¬ r7 = 0 → S_X11_layLeads o0 μ5 (fun μ8 => L_X11_apart_24 o0 i1 i2 0 μ8 Q)) ∧ (r7 = 0 → Q (-1) μ5))))))
set_option maxHeartbeats 4000000 in
set_option maxRecDepth 100000 in
theorem t_X11_apart {x : GX} (f : Fx x cX11_apart RX11 4 (rmc 7 0 0)) {o0 : Nat} {i1 : Int32} {i2 : Int32} {μ : Me} {Q : Int32 → Me → Prop} (hq : Rt x (some .int) (qI Q)) (h : S_X11_apart o0 i1 i2 μ Q) : G x 4 0 [(0, .ref (gB x + o0)), (1, .int i1), (2, .int i2)] [] μ 0 0 := by
  unfold S_X11_apart at h
  refine g_aload_n f 0 dX11_apart_0 rfl rfl ?_
  refine g_iload_n f 1 dX11_apart_1 rfl rfl ?_
  obtain ⟨v1, h⟩ := h
  refine g_callV f mk_X11_329 v1 (c_X11_areRings h) dX11_apart_2 rfl rfl (Nat.le_of_ble_eq_true rfl) (rm_ok (by decide) (by decide)) ⟨Nat.le_of_ble_eq_true rfl, Nat.le_of_ble_eq_true rfl⟩ (kI fun r4 μ2 x3 h => ?_)
  refine g_if_eq f 16 dX11_apart_5 rfl h (fun h => ?_) (fun h => ?_)
  · refine g_iconst f (-1) dX11_apart_16 kc_m1 ?_
    exact g_iret f hq (Nat.le_of_ble_eq_true rfl) (Nat.le_of_ble_eq_true rfl) dX11_apart_17 h
  · refine g_aload_n f 0 dX11_apart_8 rfl rfl ?_
    refine g_iload_n f 2 dX11_apart_9 rfl rfl ?_
    have v1 := mex_ok x3 v1
    refine g_callV f mk_X11_329 v1 (c_X11_areRings h) dX11_apart_10 rfl rfl (Nat.le_of_ble_eq_true rfl) (rm_ok (by decide) (by decide)) ⟨Nat.le_of_ble_eq_true rfl, Nat.le_of_ble_eq_true rfl⟩ (kI fun r7 μ5 x6 h => ?_)
    refine g_if_ne f 18 dX11_apart_13 rfl h (fun h => ?_) (fun h => ?_)
    · refine g_aload_n f 0 dX11_apart_18 rfl rfl ?_
      have v1 := mex_ok x6 v1
      refine g_callV f mk_X11_377 v1 (c_X11_layLeads h) dX11_apart_19 rfl rfl (Nat.le_of_ble_eq_true rfl) (rm_ok (by decide) (by decide)) ⟨Nat.le_of_ble_eq_true rfl, Nat.le_of_ble_eq_true rfl⟩ (kV fun μ8 x9 h => ?_)
      refine g_iconst f 0 dX11_apart_22 kc_0 ?_
      refine h_istore_n f dX11_apart_23 rfl (by decide) ?_
      exact h_sub [1, 2, 3, 0] rfl (tL_X11_apart_24 f hq h)
    · refine g_iconst f (-1) dX11_apart_16 kc_m1 ?_
      exact g_iret f hq (Nat.le_of_ble_eq_true rfl) (Nat.le_of_ble_eq_true rfl) dX11_apart_17 h
theorem c_X11_apart {Ω : OM} {o0 : Nat} {i1 : Int32} {i2 : Int32} {μ : Me} {Q : Int32 → Me → Prop} (h : S_X11_apart o0 i1 i2 μ Q) : CT Ω yX11_apart cX11_apart 4 (some .int) (rmc 7 0 0) [.ref (oB Ω + o0), .int i1, .int i2] μ (qI Q) := CT_of (by decide) rfl (by simp [lg_sl, Value.category]) (fun x hΩ f hq hi => by subst hΩ; exact t_X11_apart f hq h)
theorem dX11_always_0 : decode cX11_always 0 = .ok (.aload_n 0, 1) := by decide +kernel
theorem dX11_always_1 : decode cX11_always 1 = .ok (.getfield 7, 3) := by decide +kernel
theorem dX11_always_4 : decode cX11_always 4 = .ok (.bipush 8, 2) := by decide +kernel
theorem dX11_always_6 : decode cX11_always 6 = .ok (.iaload, 1) := by decide +kernel
theorem dX11_always_7 : decode cX11_always 7 = .ok (.istore_n 1, 1) := by decide +kernel
theorem dX11_always_8 : decode cX11_always 8 = .ok (.iconst 0, 1) := by decide +kernel
theorem dX11_always_9 : decode cX11_always 9 = .ok (.istore_n 2, 1) := by decide +kernel
theorem dX11_always_10 : decode cX11_always 10 = .ok (.iconst 0, 1) := by decide +kernel
theorem dX11_always_11 : decode cX11_always 11 = .ok (.istore_n 3, 1) := by decide +kernel
theorem dX11_always_12 : decode cX11_always 12 = .ok (.iload_n 3, 1) := by decide +kernel
theorem dX11_always_13 : decode cX11_always 13 = .ok (.aload_n 0, 1) := by decide +kernel
theorem dX11_always_14 : decode cX11_always 14 = .ok (.invokevirtual 70, 3) := by decide +kernel
theorem dX11_always_17 : decode cX11_always 17 = .ok (.if_icmp .gt 71, 3) := by decide +kernel
theorem dX11_always_20 : decode cX11_always 20 = .ok (.iconst 1, 1) := by decide +kernel
theorem dX11_always_21 : decode cX11_always 21 = .ok (.istore 4, 2) := by decide +kernel
theorem dX11_always_23 : decode cX11_always 23 = .ok (.iconst 0, 1) := by decide +kernel
theorem dX11_always_24 : decode cX11_always 24 = .ok (.istore 5, 2) := by decide +kernel
theorem dX11_always_26 : decode cX11_always 26 = .ok (.iload 5, 2) := by decide +kernel
theorem dX11_always_28 : decode cX11_always 28 = .ok (.bipush 10, 2) := by decide +kernel
theorem dX11_always_30 : decode cX11_always 30 = .ok (.if_icmp .ge 39, 3) := by decide +kernel
theorem dX11_always_33 : decode cX11_always 33 = .ok (.iload 4, 2) := by decide +kernel
theorem dX11_always_35 : decode cX11_always 35 = .ok (.ifCond .eq 34, 3) := by decide +kernel
theorem dX11_always_38 : decode cX11_always 38 = .ok (.aload_n 0, 1) := by decide +kernel
theorem dX11_always_39 : decode cX11_always 39 = .ok (.getfield 7, 3) := by decide +kernel
theorem dX11_always_42 : decode cX11_always 42 = .ok (.bipush 8, 2) := by decide +kernel
theorem dX11_always_44 : decode cX11_always 44 = .ok (.iload 5, 2) := by decide +kernel
theorem dX11_always_46 : decode cX11_always 46 = .ok (.iastore, 1) := by decide +kernel
theorem dX11_always_47 : decode cX11_always 47 = .ok (.aload_n 0, 1) := by decide +kernel
theorem dX11_always_48 : decode cX11_always 48 = .ok (.iload_n 3, 1) := by decide +kernel
theorem dX11_always_49 : decode cX11_always 49 = .ok (.invokevirtual 320, 3) := by decide +kernel
theorem dX11_always_52 : decode cX11_always 52 = .ok (.iload_n 3, 1) := by decide +kernel
theorem dX11_always_53 : decode cX11_always 53 = .ok (.if_icmp .ne 7, 3) := by decide +kernel
theorem dX11_always_56 : decode cX11_always 56 = .ok (.iconst 1, 1) := by decide +kernel
theorem dX11_always_57 : decode cX11_always 57 = .ok (.goto 4, 3) := by decide +kernel
theorem dX11_always_60 : decode cX11_always 60 = .ok (.iconst 0, 1) := by decide +kernel
theorem dX11_always_61 : decode cX11_always 61 = .ok (.istore 4, 2) := by decide +kernel
theorem dX11_always_63 : decode cX11_always 63 = .ok (.iinc 5 1, 3) := by decide +kernel
theorem dX11_always_66 : decode cX11_always 66 = .ok (.goto (-40), 3) := by decide +kernel
theorem dX11_always_69 : decode cX11_always 69 = .ok (.iload_n 2, 1) := by decide +kernel
theorem dX11_always_70 : decode cX11_always 70 = .ok (.iload 4, 2) := by decide +kernel
theorem dX11_always_72 : decode cX11_always 72 = .ok (.ifCond .eq 7, 3) := by decide +kernel
theorem dX11_always_75 : decode cX11_always 75 = .ok (.iconst 1, 1) := by decide +kernel
theorem dX11_always_76 : decode cX11_always 76 = .ok (.goto 4, 3) := by decide +kernel
theorem dX11_always_79 : decode cX11_always 79 = .ok (.iconst 0, 1) := by decide +kernel
theorem dX11_always_80 : decode cX11_always 80 = .ok (.iadd, 1) := by decide +kernel
theorem dX11_always_81 : decode cX11_always 81 = .ok (.istore_n 2, 1) := by decide +kernel
theorem dX11_always_82 : decode cX11_always 82 = .ok (.iinc 3 1, 3) := by decide +kernel
theorem dX11_always_85 : decode cX11_always 85 = .ok (.goto (-73), 3) := by decide +kernel
theorem dX11_always_88 : decode cX11_always 88 = .ok (.aload_n 0, 1) := by decide +kernel
theorem dX11_always_89 : decode cX11_always 89 = .ok (.getfield 7, 3) := by decide +kernel
theorem dX11_always_92 : decode cX11_always 92 = .ok (.bipush 8, 2) := by decide +kernel
theorem dX11_always_94 : decode cX11_always 94 = .ok (.iload_n 1, 1) := by decide +kernel
theorem dX11_always_95 : decode cX11_always 95 = .ok (.iastore, 1) := by decide +kernel
theorem dX11_always_96 : decode cX11_always 96 = .ok (.iload_n 2, 1) := by decide +kernel
theorem dX11_always_97 : decode cX11_always 97 = .ok (.ireturn, 1) := by decide +kernel
def B_X11_always_80 (o0 : Nat) (i1 : Int32) (i3 : Int32) (s0 : Int32) (s1 : Int32) (μ : Me) (K12 : Int32 → Int32 → Me → Prop) (Q : Int32 → Me → Prop) : Prop := K12 (s1 + s0) (i3 + 1) μ
set_option maxHeartbeats 4000000 in
set_option maxRecDepth 100000 in
theorem tB_X11_always_80 {x : GX} (f : Fx x cX11_always RX11 6 (rmc 6 0 0)) {o0 : Nat} {i1 : Int32} {i3 : Int32} {s0 : Int32} {s1 : Int32} {μ : Me} {Q : Int32 → Me → Prop} (hq : Rt x (some .int) (qI Q)) {K12 : Int32 → Int32 → Me → Prop} (hK12 : ∀ (a2 : Int32) (a3 : Int32) (ν : Me), K12 a2 a3 ν → G x 6 12 [(0, .ref (gB x + o0)), (1, .int i1), (2, .int a2), (3, .int a3)] [] ν 0 0) (h : B_X11_always_80 o0 i1 i3 s0 s1 μ K12 Q) : G x 6 80 [(0, .ref (gB x + o0)), (1, .int i1), (3, .int i3)] [.int s0, .int s1] μ 0 0 := by
  unfold B_X11_always_80 at h
  refine g_iadd f dX11_always_80 ?_
  refine h_istore_n f dX11_always_81 rfl (by decide) ?_
  refine h_iinc f 3 1 dX11_always_82 rfl kc_1 (by decide) ?_
  refine g_goto f 12 dX11_always_85 rfl ?_
  exact h_sub [2, 3, 1, 0] rfl (hK12 _ _ _ h)
def B_X11_always_69 (o0 : Nat) (i1 : Int32) (i2 : Int32) (i3 : Int32) (i4 : Int32) (μ : Me) (K12 : Int32 → Int32 → Me → Prop) (Q : Int32 → Me → Prop) : Prop := ((i4 = 0 → B_X11_always_80 o0 i1 i3 0 i2 μ K12 Q) ∧ (¬ i4 = 0 → B_X11_always_80 o0 i1 i3 1 i2 μ K12 Q))
set_option maxHeartbeats 4000000 in
set_option maxRecDepth 100000 in
theorem tB_X11_always_69 {x : GX} (f : Fx x cX11_always RX11 6 (rmc 6 0 0)) {o0 : Nat} {i1 : Int32} {i2 : Int32} {i3 : Int32} {i4 : Int32} {μ : Me} {Q : Int32 → Me → Prop} (hq : Rt x (some .int) (qI Q)) {K12 : Int32 → Int32 → Me → Prop} (hK12 : ∀ (a2 : Int32) (a3 : Int32) (ν : Me), K12 a2 a3 ν → G x 6 12 [(0, .ref (gB x + o0)), (1, .int i1), (2, .int a2), (3, .int a3)] [] ν 0 0) (h : B_X11_always_69 o0 i1 i2 i3 i4 μ K12 Q) : G x 6 69 [(0, .ref (gB x + o0)), (1, .int i1), (2, .int i2), (3, .int i3), (4, .int i4)] [] μ 0 0 := by
  unfold B_X11_always_69 at h
  refine g_iload_n f 2 dX11_always_69 rfl rfl ?_
  refine g_iload f 4 dX11_always_70 rfl ?_
  refine g_if_eq f 79 dX11_always_72 rfl h (fun h => ?_) (fun h => ?_)
  · refine g_iconst f 0 dX11_always_79 kc_0 ?_
    exact h_sub [0, 1, 3] rfl (tB_X11_always_80 f hq hK12 h)
  · refine g_iconst f 1 dX11_always_75 kc_1 ?_
    refine g_goto f 80 dX11_always_76 rfl ?_
    exact h_sub [0, 1, 3] rfl (tB_X11_always_80 f hq hK12 h)
def B_X11_always_61 (o0 : Nat) (i1 : Int32) (i2 : Int32) (i3 : Int32) (i5 : Int32) (s0 : Int32) (μ : Me) (K12 : Int32 → Int32 → Me → Prop) (K26 : Int32 → Int32 → Me → Prop) (Q : Int32 → Me → Prop) : Prop := K26 s0 (i5 + 1) μ
set_option maxHeartbeats 4000000 in
set_option maxRecDepth 100000 in
theorem tB_X11_always_61 {x : GX} (f : Fx x cX11_always RX11 6 (rmc 6 0 0)) {o0 : Nat} {i1 : Int32} {i2 : Int32} {i3 : Int32} {i5 : Int32} {s0 : Int32} {μ : Me} {Q : Int32 → Me → Prop} (hq : Rt x (some .int) (qI Q)) {K12 : Int32 → Int32 → Me → Prop} {K26 : Int32 → Int32 → Me → Prop} (hK12 : ∀ (a2 : Int32) (a3 : Int32) (ν : Me), K12 a2 a3 ν → G x 6 12 [(0, .ref (gB x + o0)), (1, .int i1), (2, .int a2), (3, .int a3)] [] ν 0 0) (hK26 : ∀ (a4 : Int32) (a5 : Int32) (ν : Me), K26 a4 a5 ν → G x 6 26 [(0, .ref (gB x + o0)), (1, .int i1), (2, .int i2), (3, .int i3), (4, .int a4), (5, .int a5)] [] ν 0 0) (h : B_X11_always_61 o0 i1 i2 i3 i5 s0 μ K12 K26 Q) : G x 6 61 [(0, .ref (gB x + o0)), (1, .int i1), (2, .int i2), (3, .int i3), (5, .int i5)] [.int s0] μ 0 0 := by
  unfold B_X11_always_61 at h
  refine h_istore f dX11_always_61 (by decide) ?_
  refine h_iinc f 5 1 dX11_always_63 rfl kc_1 (by decide) ?_
  refine g_goto f 26 dX11_always_66 rfl ?_
  exact h_sub [2, 3, 4, 5, 1, 0] rfl (hK26 _ _ _ h)
def B_X11_always_26 (o0 : Nat) (i1 : Int32) (i2 : Int32) (i3 : Int32) (i4 : Int32) (i5 : Int32) (μ : Me) (K12 : Int32 → Int32 → Me → Prop) (K26 : Int32 → Int32 → Me → Prop) (Q : Int32 → Me → Prop) : Prop := ((10 ≤ i5 → B_X11_always_69 o0 i1 i2 i3 i4 μ K12 Q) ∧ (¬ 10 ≤ i5 → ((i4 = 0 → B_X11_always_69 o0 i1 i2 i3 i4 μ K12 Q) ∧ (¬ i4 = 0 → mok μ o0 11 ∧ ∃ t12, mgr μ o0 0 = some t12 ∧ mok μ t12 12 ∧ vp_in (8 : Int32) (mln μ t12) ∧ ∀ μ14, μ14 = msi μ t12 (8 : Int32).toNatClampNeg i5 → S_X11_lateBy o0 i3 μ14 (fun r17 μ15 => ((¬ r17 = i3 → B_X11_always_61 o0 i1 i2 i3 i5 0 μ15 K12 K26 Q) ∧ (r17 = i3 → B_X11_always_61 o0 i1 i2 i3 i5 1 μ15 K12 K26 Q)))))))
set_option maxHeartbeats 4000000 in
set_option maxRecDepth 100000 in
theorem tB_X11_always_26 {x : GX} (f : Fx x cX11_always RX11 6 (rmc 6 0 0)) {o0 : Nat} {i1 : Int32} {i2 : Int32} {i3 : Int32} {i4 : Int32} {i5 : Int32} {μ : Me} {Q : Int32 → Me → Prop} (hq : Rt x (some .int) (qI Q)) {K12 : Int32 → Int32 → Me → Prop} {K26 : Int32 → Int32 → Me → Prop} (hK12 : ∀ (a2 : Int32) (a3 : Int32) (ν : Me), K12 a2 a3 ν → G x 6 12 [(0, .ref (gB x + o0)), (1, .int i1), (2, .int a2), (3, .int a3)] [] ν 0 0) (hK26 : ∀ (a4 : Int32) (a5 : Int32) (ν : Me), K26 a4 a5 ν → G x 6 26 [(0, .ref (gB x + o0)), (1, .int i1), (2, .int i2), (3, .int i3), (4, .int a4), (5, .int a5)] [] ν 0 0) (h : B_X11_always_26 o0 i1 i2 i3 i4 i5 μ K12 K26 Q) : G x 6 26 [(0, .ref (gB x + o0)), (1, .int i1), (2, .int i2), (3, .int i3), (4, .int i4), (5, .int i5)] [] μ 0 0 := by
  unfold B_X11_always_26 at h
  refine g_iload f 5 dX11_always_26 rfl ?_
  refine g_bipush f 10 dX11_always_28 kb_10 ?_
  refine g_ic_ge f 69 dX11_always_30 rfl h (fun h => ?_) (fun h => ?_)
  · exact h_sub [0, 1, 2, 3, 4] rfl (tB_X11_always_69 f hq hK12 h)
  · refine g_iload f 4 dX11_always_33 rfl ?_
    refine g_if_eq f 69 dX11_always_35 rfl h (fun h => ?_) (fun h => ?_)
    · exact h_sub [0, 1, 2, 3, 4] rfl (tB_X11_always_69 f hq hK12 h)
    · refine g_aload_n f 0 dX11_always_38 rfl rfl ?_
      obtain ⟨v11, h⟩ := h
      refine g_getR f fk_X11_7 v11 dX11_always_39 rfl h (fun t12 h => ?_)
      refine g_bipush f 8 dX11_always_42 kb_8 ?_
      refine g_iload f 5 dX11_always_44 rfl ?_
      obtain ⟨v13, h⟩ := h
      refine g_iast f v13 dX11_always_46 h (fun h => ?_)
      refine g_aload_n f 0 dX11_always_47 rfl rfl ?_
      refine g_iload_n f 3 dX11_always_48 rfl rfl ?_
      refine g_callV f mk_X11_320 v11 (c_X11_lateBy h) dX11_always_49 rfl rfl (Nat.le_of_ble_eq_true rfl) (rm_ok (by decide) (by decide)) ⟨Nat.le_of_ble_eq_true rfl, Nat.le_of_ble_eq_true rfl⟩ (kI fun r17 μ15 x16 h => ?_)
      refine g_iload_n f 3 dX11_always_52 rfl rfl ?_
      refine g_ic_ne f 60 dX11_always_53 rfl h (fun h => ?_) (fun h => ?_)
      · refine g_iconst f 0 dX11_always_60 kc_0 ?_
        exact h_sub [0, 1, 2, 3, 5] rfl (tB_X11_always_61 f hq hK12 hK26 h)
      · refine g_iconst f 1 dX11_always_56 kc_1 ?_
        refine g_goto f 61 dX11_always_57 rfl ?_
        exact h_sub [0, 1, 2, 3, 5] rfl (tB_X11_always_61 f hq hK12 hK26 h)
def L_X11_always_26 (o0 : Nat) (i1 : Int32) (i2 : Int32) (i3 : Int32) (i4 : Int32) (i5 : Int32) (μ : Me) (K12 : Int32 → Int32 → Me → Prop) (Q : Int32 → Me → Prop) : Prop := ∃ I : Int32 → Int32 → Me → Nat → Prop, (∃ n, I i4 i5 μ n) ∧ ∀ (i4 : Int32) (i5 : Int32) (μ : Me) (n : Nat), I i4 i5 μ n → B_X11_always_26 o0 i1 i2 i3 i4 i5 μ K12 (fun a4 a5 ν => ∃ n', n' < n ∧ I a4 a5 ν n') Q
set_option maxHeartbeats 4000000 in
set_option maxRecDepth 100000 in
theorem tL_X11_always_26 {x : GX} (f : Fx x cX11_always RX11 6 (rmc 6 0 0)) {o0 : Nat} {i1 : Int32} {i2 : Int32} {i3 : Int32} {i4 : Int32} {i5 : Int32} {μ : Me} {Q : Int32 → Me → Prop} (hq : Rt x (some .int) (qI Q)) {K12 : Int32 → Int32 → Me → Prop} (hK12 : ∀ (a2 : Int32) (a3 : Int32) (ν : Me), K12 a2 a3 ν → G x 6 12 [(0, .ref (gB x + o0)), (1, .int i1), (2, .int a2), (3, .int a3)] [] ν 0 0) (h : L_X11_always_26 o0 i1 i2 i3 i4 i5 μ K12 Q) : G x 6 26 [(0, .ref (gB x + o0)), (1, .int i1), (2, .int i2), (3, .int i3), (4, .int i4), (5, .int i5)] [] μ 0 0 := by
  obtain ⟨I, ⟨n, hI⟩, hs⟩ := h
  induction n using Nat.strongRecOn generalizing i4 i5 μ with
  | ind n ih => exact tB_X11_always_26 f hq hK12 (fun a4 a5 ν hk => by obtain ⟨n2, hn, hI2⟩ := hk; exact ih n2 hn hI2) (hs _ _ _ _ hI)
def B_X11_always_12 (o0 : Nat) (i1 : Int32) (i2 : Int32) (i3 : Int32) (μ : Me) (K12 : Int32 → Int32 → Me → Prop) (Q : Int32 → Me → Prop) : Prop := mok μ o0 11 ∧ S_X11_all o0 μ (fun r7 μ5 => ((r7 < i3 → ∃ t8, mgr μ5 o0 0 = some t8 ∧ mok μ5 t8 12 ∧ vp_in (8 : Int32) (mln μ5 t8) ∧ ∀ μ10, μ10 = msi μ5 t8 (8 : Int32).toNatClampNeg i1 → Q i2 μ10) ∧ (¬ r7 < i3 → L_X11_always_26 o0 i1 i2 i3 1 0 μ5 K12 Q)))
set_option maxHeartbeats 4000000 in
set_option maxRecDepth 100000 in
theorem tB_X11_always_12 {x : GX} (f : Fx x cX11_always RX11 6 (rmc 6 0 0)) {o0 : Nat} {i1 : Int32} {i2 : Int32} {i3 : Int32} {μ : Me} {Q : Int32 → Me → Prop} (hq : Rt x (some .int) (qI Q)) {K12 : Int32 → Int32 → Me → Prop} (hK12 : ∀ (a2 : Int32) (a3 : Int32) (ν : Me), K12 a2 a3 ν → G x 6 12 [(0, .ref (gB x + o0)), (1, .int i1), (2, .int a2), (3, .int a3)] [] ν 0 0) (h : B_X11_always_12 o0 i1 i2 i3 μ K12 Q) : G x 6 12 [(0, .ref (gB x + o0)), (1, .int i1), (2, .int i2), (3, .int i3)] [] μ 0 0 := by
  unfold B_X11_always_12 at h
  refine g_iload_n f 3 dX11_always_12 rfl rfl ?_
  refine g_aload_n f 0 dX11_always_13 rfl rfl ?_
  obtain ⟨v4, h⟩ := h
  refine g_callV f mk_X11_70 v4 (c_X11_all h) dX11_always_14 rfl rfl (Nat.le_of_ble_eq_true rfl) (rm_ok (by decide) (by decide)) ⟨Nat.le_of_ble_eq_true rfl, Nat.le_of_ble_eq_true rfl⟩ (kI fun r7 μ5 x6 h => ?_)
  refine g_ic_gt f 88 dX11_always_17 rfl h (fun h => ?_) (fun h => ?_)
  · refine g_aload_n f 0 dX11_always_88 rfl rfl ?_
    have v4 := mex_ok x6 v4
    refine g_getR f fk_X11_7 v4 dX11_always_89 rfl h (fun t8 h => ?_)
    refine g_bipush f 8 dX11_always_92 kb_8 ?_
    refine g_iload_n f 1 dX11_always_94 rfl rfl ?_
    obtain ⟨v9, h⟩ := h
    refine g_iast f v9 dX11_always_95 h (fun h => ?_)
    refine g_iload_n f 2 dX11_always_96 rfl rfl ?_
    exact g_iret f hq (Nat.le_of_ble_eq_true rfl) (Nat.le_of_ble_eq_true rfl) dX11_always_97 h
  · refine g_iconst f 1 dX11_always_20 kc_1 ?_
    refine h_istore f dX11_always_21 (by decide) ?_
    refine g_iconst f 0 dX11_always_23 kc_0 ?_
    refine h_istore f dX11_always_24 (by decide) ?_
    exact h_sub [2, 3, 4, 5, 1, 0] rfl (tL_X11_always_26 f hq hK12 h)
def L_X11_always_12 (o0 : Nat) (i1 : Int32) (i2 : Int32) (i3 : Int32) (μ : Me) (Q : Int32 → Me → Prop) : Prop := ∃ I : Int32 → Int32 → Me → Nat → Prop, (∃ n, I i2 i3 μ n) ∧ ∀ (i2 : Int32) (i3 : Int32) (μ : Me) (n : Nat), I i2 i3 μ n → B_X11_always_12 o0 i1 i2 i3 μ (fun a2 a3 ν => ∃ n', n' < n ∧ I a2 a3 ν n') Q
set_option maxHeartbeats 4000000 in
set_option maxRecDepth 100000 in
theorem tL_X11_always_12 {x : GX} (f : Fx x cX11_always RX11 6 (rmc 6 0 0)) {o0 : Nat} {i1 : Int32} {i2 : Int32} {i3 : Int32} {μ : Me} {Q : Int32 → Me → Prop} (hq : Rt x (some .int) (qI Q)) (h : L_X11_always_12 o0 i1 i2 i3 μ Q) : G x 6 12 [(0, .ref (gB x + o0)), (1, .int i1), (2, .int i2), (3, .int i3)] [] μ 0 0 := by
  obtain ⟨I, ⟨n, hI⟩, hs⟩ := h
  induction n using Nat.strongRecOn generalizing i2 i3 μ with
  | ind n ih => exact tB_X11_always_12 f hq (fun a2 a3 ν hk => by obtain ⟨n2, hn, hI2⟩ := hk; exact ih n2 hn hI2) (hs _ _ _ _ hI)
def S_X11_always (o0 : Nat) (μ : Me) (Q : Int32 → Me → Prop) : Prop := mok μ o0 11 ∧ ∃ t2, mgr μ o0 0 = some t2 ∧ mok μ t2 12 ∧ vp_in (8 : Int32) (mln μ t2) ∧ L_X11_always_12 o0 (mgi μ t2 (8 : Int32).toNatClampNeg) 0 0 μ Q
set_option maxHeartbeats 4000000 in
set_option maxRecDepth 100000 in
theorem t_X11_always {x : GX} (f : Fx x cX11_always RX11 6 (rmc 6 0 0)) {o0 : Nat} {μ : Me} {Q : Int32 → Me → Prop} (hq : Rt x (some .int) (qI Q)) (h : S_X11_always o0 μ Q) : G x 6 0 [(0, .ref (gB x + o0))] [] μ 0 0 := by
  unfold S_X11_always at h
  refine g_aload_n f 0 dX11_always_0 rfl rfl ?_
  obtain ⟨v1, h⟩ := h
  refine g_getR f fk_X11_7 v1 dX11_always_1 rfl h (fun t2 h => ?_)
  refine g_bipush f 8 dX11_always_4 kb_8 ?_
  obtain ⟨v3, h⟩ := h
  refine g_iald f v3 dX11_always_6 h (fun h => ?_)
  refine h_istore_n f dX11_always_7 rfl (by decide) ?_
  refine g_iconst f 0 dX11_always_8 kc_0 ?_
  refine h_istore_n f dX11_always_9 rfl (by decide) ?_
  refine g_iconst f 0 dX11_always_10 kc_0 ?_
  refine h_istore_n f dX11_always_11 rfl (by decide) ?_
  exact h_sub [3, 2, 1, 0] rfl (tL_X11_always_12 f hq h)
theorem c_X11_always {Ω : OM} {o0 : Nat} {μ : Me} {Q : Int32 → Me → Prop} (h : S_X11_always o0 μ Q) : CT Ω yX11_always cX11_always 6 (some .int) (rmc 6 0 0) [.ref (oB Ω + o0)] μ (qI Q) := CT_of (by decide) rfl (by simp [lg_sl, Value.category]) (fun x hΩ f hq hi => by subst hΩ; exact t_X11_always f hq h)
theorem dX11_calm_0 : decode cX11_calm 0 = .ok (.aload_n 0, 1) := by decide +kernel
theorem dX11_calm_1 : decode cX11_calm 1 = .ok (.invokevirtual 377, 3) := by decide +kernel
theorem dX11_calm_4 : decode cX11_calm 4 = .ok (.iconst 0, 1) := by decide +kernel
theorem dX11_calm_5 : decode cX11_calm 5 = .ok (.istore_n 2, 1) := by decide +kernel
theorem dX11_calm_6 : decode cX11_calm 6 = .ok (.iconst 1, 1) := by decide +kernel
theorem dX11_calm_7 : decode cX11_calm 7 = .ok (.istore_n 3, 1) := by decide +kernel
theorem dX11_calm_8 : decode cX11_calm 8 = .ok (.iload_n 3, 1) := by decide +kernel
theorem dX11_calm_9 : decode cX11_calm 9 = .ok (.aload_n 0, 1) := by decide +kernel
theorem dX11_calm_10 : decode cX11_calm 10 = .ok (.invokevirtual 70, 3) := by decide +kernel
theorem dX11_calm_13 : decode cX11_calm 13 = .ok (.if_icmp .gt 60, 3) := by decide +kernel
theorem dX11_calm_16 : decode cX11_calm 16 = .ok (.iload_n 1, 1) := by decide +kernel
theorem dX11_calm_17 : decode cX11_calm 17 = .ok (.ifCond .eq 27, 3) := by decide +kernel
theorem dX11_calm_20 : decode cX11_calm 20 = .ok (.aload_n 0, 1) := by decide +kernel
theorem dX11_calm_21 : decode cX11_calm 21 = .ok (.getfield 50, 3) := by decide +kernel
theorem dX11_calm_24 : decode cX11_calm 24 = .ok (.iload_n 3, 1) := by decide +kernel
theorem dX11_calm_25 : decode cX11_calm 25 = .ok (.iaload, 1) := by decide +kernel
theorem dX11_calm_26 : decode cX11_calm 26 = .ok (.invokestatic 298, 3) := by decide +kernel
theorem dX11_calm_29 : decode cX11_calm 29 = .ok (.aload_n 0, 1) := by decide +kernel
theorem dX11_calm_30 : decode cX11_calm 30 = .ok (.getfield 50, 3) := by decide +kernel
theorem dX11_calm_33 : decode cX11_calm 33 = .ok (.iload_n 2, 1) := by decide +kernel
theorem dX11_calm_34 : decode cX11_calm 34 = .ok (.iaload, 1) := by decide +kernel
theorem dX11_calm_35 : decode cX11_calm 35 = .ok (.invokestatic 298, 3) := by decide +kernel
theorem dX11_calm_38 : decode cX11_calm 38 = .ok (.if_icmp .le 29, 3) := by decide +kernel
theorem dX11_calm_41 : decode cX11_calm 41 = .ok (.goto 24, 3) := by decide +kernel
theorem dX11_calm_44 : decode cX11_calm 44 = .ok (.aload_n 0, 1) := by decide +kernel
theorem dX11_calm_45 : decode cX11_calm 45 = .ok (.getfield 50, 3) := by decide +kernel
theorem dX11_calm_48 : decode cX11_calm 48 = .ok (.iload_n 3, 1) := by decide +kernel
theorem dX11_calm_49 : decode cX11_calm 49 = .ok (.iaload, 1) := by decide +kernel
theorem dX11_calm_50 : decode cX11_calm 50 = .ok (.invokestatic 298, 3) := by decide +kernel
theorem dX11_calm_53 : decode cX11_calm 53 = .ok (.aload_n 0, 1) := by decide +kernel
theorem dX11_calm_54 : decode cX11_calm 54 = .ok (.getfield 50, 3) := by decide +kernel
theorem dX11_calm_57 : decode cX11_calm 57 = .ok (.iload_n 2, 1) := by decide +kernel
theorem dX11_calm_58 : decode cX11_calm 58 = .ok (.iaload, 1) := by decide +kernel
theorem dX11_calm_59 : decode cX11_calm 59 = .ok (.invokestatic 298, 3) := by decide +kernel
theorem dX11_calm_62 : decode cX11_calm 62 = .ok (.if_icmp .ge 5, 3) := by decide +kernel
theorem dX11_calm_65 : decode cX11_calm 65 = .ok (.iload_n 3, 1) := by decide +kernel
theorem dX11_calm_66 : decode cX11_calm 66 = .ok (.istore_n 2, 1) := by decide +kernel
theorem dX11_calm_67 : decode cX11_calm 67 = .ok (.iinc 3 1, 3) := by decide +kernel
theorem dX11_calm_70 : decode cX11_calm 70 = .ok (.goto (-62), 3) := by decide +kernel
theorem dX11_calm_73 : decode cX11_calm 73 = .ok (.iload_n 2, 1) := by decide +kernel
theorem dX11_calm_74 : decode cX11_calm 74 = .ok (.ireturn, 1) := by decide +kernel
def B_X11_calm_67 (o0 : Nat) (i1 : Int32) (i2 : Int32) (i3 : Int32) (μ : Me) (K8 : Int32 → Int32 → Me → Prop) (Q : Int32 → Me → Prop) : Prop := K8 i2 (i3 + 1) μ
set_option maxHeartbeats 4000000 in
set_option maxRecDepth 100000 in
theorem tB_X11_calm_67 {x : GX} (f : Fx x cX11_calm RX11 4 (rmc 7 0 0)) {o0 : Nat} {i1 : Int32} {i2 : Int32} {i3 : Int32} {μ : Me} {Q : Int32 → Me → Prop} (hq : Rt x (some .int) (qI Q)) {K8 : Int32 → Int32 → Me → Prop} (hK8 : ∀ (a2 : Int32) (a3 : Int32) (ν : Me), K8 a2 a3 ν → G x 4 8 [(0, .ref (gB x + o0)), (1, .int i1), (2, .int a2), (3, .int a3)] [] ν 0 0) (h : B_X11_calm_67 o0 i1 i2 i3 μ K8 Q) : G x 4 67 [(0, .ref (gB x + o0)), (1, .int i1), (2, .int i2), (3, .int i3)] [] μ 0 0 := by
  unfold B_X11_calm_67 at h
  refine h_iinc f 3 1 dX11_calm_67 rfl kc_1 (by decide) ?_
  refine g_goto f 8 dX11_calm_70 rfl ?_
  exact h_sub [1, 2, 3, 0] rfl (hK8 _ _ _ h)
def B_X11_calm_65 (o0 : Nat) (i1 : Int32) (i3 : Int32) (μ : Me) (K8 : Int32 → Int32 → Me → Prop) (Q : Int32 → Me → Prop) : Prop := B_X11_calm_67 o0 i1 i3 i3 μ K8 Q
set_option maxHeartbeats 4000000 in
set_option maxRecDepth 100000 in
theorem tB_X11_calm_65 {x : GX} (f : Fx x cX11_calm RX11 4 (rmc 7 0 0)) {o0 : Nat} {i1 : Int32} {i3 : Int32} {μ : Me} {Q : Int32 → Me → Prop} (hq : Rt x (some .int) (qI Q)) {K8 : Int32 → Int32 → Me → Prop} (hK8 : ∀ (a2 : Int32) (a3 : Int32) (ν : Me), K8 a2 a3 ν → G x 4 8 [(0, .ref (gB x + o0)), (1, .int i1), (2, .int a2), (3, .int a3)] [] ν 0 0) (h : B_X11_calm_65 o0 i1 i3 μ K8 Q) : G x 4 65 [(0, .ref (gB x + o0)), (1, .int i1), (3, .int i3)] [] μ 0 0 := by
  unfold B_X11_calm_65 at h
  refine g_iload_n f 2 dX11_calm_65 rfl rfl ?_
  refine h_istore_n f dX11_calm_66 rfl (by decide) ?_
  exact h_sub [1, 2, 0, 3] rfl (tB_X11_calm_67 f hq hK8 h)
def B_X11_calm_8 (o0 : Nat) (i1 : Int32) (i2 : Int32) (i3 : Int32) (μ : Me) (K8 : Int32 → Int32 → Me → Prop) (Q : Int32 → Me → Prop) : Prop := mok μ o0 11 ∧ S_X11_all o0 μ (fun r8 μ6 => ((r8 < i3 → Q i2 μ6) ∧ (¬ r8 < i3 → ((i1 = 0 → ∃ t9, mgr μ6 o0 27 = some t9 ∧ mok μ6 t9 12 ∧ vp_in i3 (mln μ6 t9) ∧ S_X11_bits (mgi μ6 t9 i3.toNatClampNeg) μ6 (fun r13 μ11 => ∃ t14, mgr μ11 o0 27 = some t14 ∧ mok μ11 t14 12 ∧ vp_in i2 (mln μ11 t14) ∧ S_X11_bits (mgi μ11 t14 i2.toNatClampNeg) μ11 (fun r18 μ16 => ((r18 ≤ r13 → B_X11_calm_67 o0 i1 i2 i3 μ16 K8 Q) ∧ (¬ r18 ≤ r13 → B_X11_calm_65 o0 i1 i3 μ16 K8 Q))))) ∧ (¬ i1 = 0 → ∃ t19, mgr μ6 o0 27 = some t19 ∧ mok μ6 t19 12 ∧ vp_in i3 (mln μ6 t19) ∧ S_X11_bits (mgi μ6 t19 i3.toNatClampNeg) μ6 (fun r23 μ21 => ∃ t24, mgr μ21 o0 27 = some t24 ∧ mok μ21 t24 12 ∧ vp_in i2 (mln μ21 t24) ∧ S_X11_bits (mgi μ21 t24 i2.toNatClampNeg) μ21 (fun r28 μ26 => ((r23 ≤ r28 → B_X11_calm_67 o0 i1 i2 i3 μ26 K8 Q) ∧ (¬ r23 ≤ r28 → B_X11_calm_65 o0 i1 i3 μ26 K8 Q)))))))))
set_option maxHeartbeats 4000000 in
set_option maxRecDepth 100000 in
theorem tB_X11_calm_8 {x : GX} (f : Fx x cX11_calm RX11 4 (rmc 7 0 0)) {o0 : Nat} {i1 : Int32} {i2 : Int32} {i3 : Int32} {μ : Me} {Q : Int32 → Me → Prop} (hq : Rt x (some .int) (qI Q)) {K8 : Int32 → Int32 → Me → Prop} (hK8 : ∀ (a2 : Int32) (a3 : Int32) (ν : Me), K8 a2 a3 ν → G x 4 8 [(0, .ref (gB x + o0)), (1, .int i1), (2, .int a2), (3, .int a3)] [] ν 0 0) (h : B_X11_calm_8 o0 i1 i2 i3 μ K8 Q) : G x 4 8 [(0, .ref (gB x + o0)), (1, .int i1), (2, .int i2), (3, .int i3)] [] μ 0 0 := by
  unfold B_X11_calm_8 at h
  refine g_iload_n f 3 dX11_calm_8 rfl rfl ?_
  refine g_aload_n f 0 dX11_calm_9 rfl rfl ?_
  obtain ⟨v5, h⟩ := h
  refine g_callV f mk_X11_70 v5 (c_X11_all h) dX11_calm_10 rfl rfl (Nat.le_of_ble_eq_true rfl) (rm_ok (by decide) (by decide)) ⟨Nat.le_of_ble_eq_true rfl, Nat.le_of_ble_eq_true rfl⟩ (kI fun r8 μ6 x7 h => ?_)
  refine g_ic_gt f 73 dX11_calm_13 rfl h (fun h => ?_) (fun h => ?_)
  · refine g_iload_n f 2 dX11_calm_73 rfl rfl ?_
    exact g_iret f hq (Nat.le_of_ble_eq_true rfl) (Nat.le_of_ble_eq_true rfl) dX11_calm_74 h
  · refine g_iload_n f 1 dX11_calm_16 rfl rfl ?_
    refine g_if_eq f 44 dX11_calm_17 rfl h (fun h => ?_) (fun h => ?_)
    · refine g_aload_n f 0 dX11_calm_44 rfl rfl ?_
      have v5 := mex_ok x7 v5
      refine g_getR f fk_X11_50 v5 dX11_calm_45 rfl h (fun t9 h => ?_)
      refine g_iload_n f 3 dX11_calm_48 rfl rfl ?_
      obtain ⟨v10, h⟩ := h
      refine g_iald f v10 dX11_calm_49 h (fun h => ?_)
      refine g_callS f mk_X11_298 (c_X11_bits h) dX11_calm_50 rfl rfl (Nat.le_of_ble_eq_true rfl) (rm_ok (by decide) (by decide)) ⟨Nat.le_of_ble_eq_true rfl, Nat.le_of_ble_eq_true rfl⟩ (kI fun r13 μ11 x12 h => ?_)
      refine g_aload_n f 0 dX11_calm_53 rfl rfl ?_
      have v5 := mex_ok x12 v5
      refine g_getR f fk_X11_50 v5 dX11_calm_54 rfl h (fun t14 h => ?_)
      refine g_iload_n f 2 dX11_calm_57 rfl rfl ?_
      obtain ⟨v15, h⟩ := h
      refine g_iald f v15 dX11_calm_58 h (fun h => ?_)
      refine g_callS f mk_X11_298 (c_X11_bits h) dX11_calm_59 rfl rfl (Nat.le_of_ble_eq_true rfl) (rm_ok (by decide) (by decide)) ⟨Nat.le_of_ble_eq_true rfl, Nat.le_of_ble_eq_true rfl⟩ (kI fun r18 μ16 x17 h => ?_)
      refine g_ic_ge f 67 dX11_calm_62 rfl h (fun h => ?_) (fun h => ?_)
      · exact h_sub [0, 1, 2, 3] rfl (tB_X11_calm_67 f hq hK8 h)
      · exact h_sub [0, 1, 3] rfl (tB_X11_calm_65 f hq hK8 h)
    · refine g_aload_n f 0 dX11_calm_20 rfl rfl ?_
      have v5 := mex_ok x7 v5
      refine g_getR f fk_X11_50 v5 dX11_calm_21 rfl h (fun t19 h => ?_)
      refine g_iload_n f 3 dX11_calm_24 rfl rfl ?_
      obtain ⟨v20, h⟩ := h
      refine g_iald f v20 dX11_calm_25 h (fun h => ?_)
      refine g_callS f mk_X11_298 (c_X11_bits h) dX11_calm_26 rfl rfl (Nat.le_of_ble_eq_true rfl) (rm_ok (by decide) (by decide)) ⟨Nat.le_of_ble_eq_true rfl, Nat.le_of_ble_eq_true rfl⟩ (kI fun r23 μ21 x22 h => ?_)
      refine g_aload_n f 0 dX11_calm_29 rfl rfl ?_
      have v5 := mex_ok x22 v5
      refine g_getR f fk_X11_50 v5 dX11_calm_30 rfl h (fun t24 h => ?_)
      refine g_iload_n f 2 dX11_calm_33 rfl rfl ?_
      obtain ⟨v25, h⟩ := h
      refine g_iald f v25 dX11_calm_34 h (fun h => ?_)
      refine g_callS f mk_X11_298 (c_X11_bits h) dX11_calm_35 rfl rfl (Nat.le_of_ble_eq_true rfl) (rm_ok (by decide) (by decide)) ⟨Nat.le_of_ble_eq_true rfl, Nat.le_of_ble_eq_true rfl⟩ (kI fun r28 μ26 x27 h => ?_)
      refine g_ic_le f 67 dX11_calm_38 rfl h (fun h => ?_) (fun h => ?_)
      · exact h_sub [0, 1, 2, 3] rfl (tB_X11_calm_67 f hq hK8 h)
      · refine g_goto f 65 dX11_calm_41 rfl ?_
        exact h_sub [0, 1, 3] rfl (tB_X11_calm_65 f hq hK8 h)
def L_X11_calm_8 (o0 : Nat) (i1 : Int32) (i2 : Int32) (i3 : Int32) (μ : Me) (Q : Int32 → Me → Prop) : Prop := ∃ I : Int32 → Int32 → Me → Nat → Prop, (∃ n, I i2 i3 μ n) ∧ ∀ (i2 : Int32) (i3 : Int32) (μ : Me) (n : Nat), I i2 i3 μ n → B_X11_calm_8 o0 i1 i2 i3 μ (fun a2 a3 ν => ∃ n', n' < n ∧ I a2 a3 ν n') Q
set_option maxHeartbeats 4000000 in
set_option maxRecDepth 100000 in
theorem tL_X11_calm_8 {x : GX} (f : Fx x cX11_calm RX11 4 (rmc 7 0 0)) {o0 : Nat} {i1 : Int32} {i2 : Int32} {i3 : Int32} {μ : Me} {Q : Int32 → Me → Prop} (hq : Rt x (some .int) (qI Q)) (h : L_X11_calm_8 o0 i1 i2 i3 μ Q) : G x 4 8 [(0, .ref (gB x + o0)), (1, .int i1), (2, .int i2), (3, .int i3)] [] μ 0 0 := by
  obtain ⟨I, ⟨n, hI⟩, hs⟩ := h
  induction n using Nat.strongRecOn generalizing i2 i3 μ with
  | ind n ih => exact tB_X11_calm_8 f hq (fun a2 a3 ν hk => by obtain ⟨n2, hn, hI2⟩ := hk; exact ih n2 hn hI2) (hs _ _ _ _ hI)
def S_X11_calm (o0 : Nat) (i1 : Int32) (μ : Me) (Q : Int32 → Me → Prop) : Prop := mok μ o0 11 ∧ S_X11_layLeads o0 μ (fun μ2 => L_X11_calm_8 o0 i1 0 1 μ2 Q)
set_option maxHeartbeats 4000000 in
set_option maxRecDepth 100000 in
theorem t_X11_calm {x : GX} (f : Fx x cX11_calm RX11 4 (rmc 7 0 0)) {o0 : Nat} {i1 : Int32} {μ : Me} {Q : Int32 → Me → Prop} (hq : Rt x (some .int) (qI Q)) (h : S_X11_calm o0 i1 μ Q) : G x 4 0 [(0, .ref (gB x + o0)), (1, .int i1)] [] μ 0 0 := by
  unfold S_X11_calm at h
  refine g_aload_n f 0 dX11_calm_0 rfl rfl ?_
  obtain ⟨v1, h⟩ := h
  refine g_callV f mk_X11_377 v1 (c_X11_layLeads h) dX11_calm_1 rfl rfl (Nat.le_of_ble_eq_true rfl) (rm_ok (by decide) (by decide)) ⟨Nat.le_of_ble_eq_true rfl, Nat.le_of_ble_eq_true rfl⟩ (kV fun μ2 x3 h => ?_)
  refine g_iconst f 0 dX11_calm_4 kc_0 ?_
  refine h_istore_n f dX11_calm_5 rfl (by decide) ?_
  refine g_iconst f 1 dX11_calm_6 kc_1 ?_
  refine h_istore_n f dX11_calm_7 rfl (by decide) ?_
  exact h_sub [2, 3, 1, 0] rfl (tL_X11_calm_8 f hq h)
theorem c_X11_calm {Ω : OM} {o0 : Nat} {i1 : Int32} {μ : Me} {Q : Int32 → Me → Prop} (h : S_X11_calm o0 i1 μ Q) : CT Ω yX11_calm cX11_calm 4 (some .int) (rmc 7 0 0) [.ref (oB Ω + o0), .int i1] μ (qI Q) := CT_of (by decide) rfl (by simp [lg_sl, Value.category]) (fun x hΩ f hq hi => by subst hΩ; exact t_X11_calm f hq h)
theorem dX11_helped_0 : decode cX11_helped 0 = .ok (.aload_n 0, 1) := by decide +kernel
theorem dX11_helped_1 : decode cX11_helped 1 = .ok (.iload_n 1, 1) := by decide +kernel
theorem dX11_helped_2 : decode cX11_helped 2 = .ok (.invokevirtual 329, 3) := by decide +kernel
theorem dX11_helped_5 : decode cX11_helped 5 = .ok (.ifCond .ne 5, 3) := by decide +kernel
theorem dX11_helped_8 : decode cX11_helped 8 = .ok (.iconst (-1), 1) := by decide +kernel
theorem dX11_helped_9 : decode cX11_helped 9 = .ok (.ireturn, 1) := by decide +kernel
theorem dX11_helped_10 : decode cX11_helped 10 = .ok (.iload_n 2, 1) := by decide +kernel
theorem dX11_helped_11 : decode cX11_helped 11 = .ok (.ifCond .eq 19, 3) := by decide +kernel
theorem dX11_helped_14 : decode cX11_helped 14 = .ok (.aload_n 0, 1) := by decide +kernel
theorem dX11_helped_15 : decode cX11_helped 15 = .ok (.iload_n 1, 1) := by decide +kernel
theorem dX11_helped_16 : decode cX11_helped 16 = .ok (.invokevirtual 320, 3) := by decide +kernel
theorem dX11_helped_19 : decode cX11_helped 19 = .ok (.aload_n 0, 1) := by decide +kernel
theorem dX11_helped_20 : decode cX11_helped 20 = .ok (.iconst 0, 1) := by decide +kernel
theorem dX11_helped_21 : decode cX11_helped 21 = .ok (.invokevirtual 320, 3) := by decide +kernel
theorem dX11_helped_24 : decode cX11_helped 24 = .ok (.iconst (-1), 1) := by decide +kernel
theorem dX11_helped_25 : decode cX11_helped 25 = .ok (.ixor, 1) := by decide +kernel
theorem dX11_helped_26 : decode cX11_helped 26 = .ok (.iand, 1) := by decide +kernel
theorem dX11_helped_27 : decode cX11_helped 27 = .ok (.goto 16, 3) := by decide +kernel
theorem dX11_helped_30 : decode cX11_helped 30 = .ok (.aload_n 0, 1) := by decide +kernel
theorem dX11_helped_31 : decode cX11_helped 31 = .ok (.iconst 0, 1) := by decide +kernel
theorem dX11_helped_32 : decode cX11_helped 32 = .ok (.invokevirtual 320, 3) := by decide +kernel
theorem dX11_helped_35 : decode cX11_helped 35 = .ok (.aload_n 0, 1) := by decide +kernel
theorem dX11_helped_36 : decode cX11_helped 36 = .ok (.iload_n 1, 1) := by decide +kernel
theorem dX11_helped_37 : decode cX11_helped 37 = .ok (.invokevirtual 320, 3) := by decide +kernel
theorem dX11_helped_40 : decode cX11_helped 40 = .ok (.iconst (-1), 1) := by decide +kernel
theorem dX11_helped_41 : decode cX11_helped 41 = .ok (.ixor, 1) := by decide +kernel
theorem dX11_helped_42 : decode cX11_helped 42 = .ok (.iand, 1) := by decide +kernel
theorem dX11_helped_43 : decode cX11_helped 43 = .ok (.ireturn, 1) := by decide +kernel
def S_X11_helped (o0 : Nat) (i1 : Int32) (i2 : Int32) (μ : Me) (Q : Int32 → Me → Prop) : Prop := mok μ o0 11 ∧ S_X11_areRings o0 i1 μ (fun r4 μ2 => ((¬ r4 = 0 → ((i2 = 0 → S_X11_lateBy o0 0 μ2 (fun r7 μ5 => S_X11_lateBy o0 i1 μ5 (fun r10 μ8 => Q (r7 &&& (r10 ^^^ (-1))) μ8))) ∧ (¬ i2 = 0 → S_X11_lateBy o0 i1 μ2 (fun r13 μ11 => S_X11_lateBy o0 0 μ11 (fun r16 μ14 => Q (r13 &&& (r16 ^^^ (-1))) μ14))))) ∧ (r4 = 0 → Q (-1) μ2)))
set_option maxHeartbeats 4000000 in
set_option maxRecDepth 100000 in
theorem t_X11_helped {x : GX} (f : Fx x cX11_helped RX11 3 (rmc 6 0 0)) {o0 : Nat} {i1 : Int32} {i2 : Int32} {μ : Me} {Q : Int32 → Me → Prop} (hq : Rt x (some .int) (qI Q)) (h : S_X11_helped o0 i1 i2 μ Q) : G x 3 0 [(0, .ref (gB x + o0)), (1, .int i1), (2, .int i2)] [] μ 0 0 := by
  unfold S_X11_helped at h
  refine g_aload_n f 0 dX11_helped_0 rfl rfl ?_
  refine g_iload_n f 1 dX11_helped_1 rfl rfl ?_
  obtain ⟨v1, h⟩ := h
  refine g_callV f mk_X11_329 v1 (c_X11_areRings h) dX11_helped_2 rfl rfl (Nat.le_of_ble_eq_true rfl) (rm_ok (by decide) (by decide)) ⟨Nat.le_of_ble_eq_true rfl, Nat.le_of_ble_eq_true rfl⟩ (kI fun r4 μ2 x3 h => ?_)
  refine g_if_ne f 10 dX11_helped_5 rfl h (fun h => ?_) (fun h => ?_)
  · refine g_iload_n f 2 dX11_helped_10 rfl rfl ?_
    refine g_if_eq f 30 dX11_helped_11 rfl h (fun h => ?_) (fun h => ?_)
    · refine g_aload_n f 0 dX11_helped_30 rfl rfl ?_
      refine g_iconst f 0 dX11_helped_31 kc_0 ?_
      have v1 := mex_ok x3 v1
      refine g_callV f mk_X11_320 v1 (c_X11_lateBy h) dX11_helped_32 rfl rfl (Nat.le_of_ble_eq_true rfl) (rm_ok (by decide) (by decide)) ⟨Nat.le_of_ble_eq_true rfl, Nat.le_of_ble_eq_true rfl⟩ (kI fun r7 μ5 x6 h => ?_)
      refine g_aload_n f 0 dX11_helped_35 rfl rfl ?_
      refine g_iload_n f 1 dX11_helped_36 rfl rfl ?_
      have v1 := mex_ok x6 v1
      refine g_callV f mk_X11_320 v1 (c_X11_lateBy h) dX11_helped_37 rfl rfl (Nat.le_of_ble_eq_true rfl) (rm_ok (by decide) (by decide)) ⟨Nat.le_of_ble_eq_true rfl, Nat.le_of_ble_eq_true rfl⟩ (kI fun r10 μ8 x9 h => ?_)
      refine g_iconst f (-1) dX11_helped_40 kc_m1 ?_
      refine g_ixor f dX11_helped_41 ?_
      refine g_iand f dX11_helped_42 ?_
      exact g_iret f hq (Nat.le_of_ble_eq_true rfl) (Nat.le_of_ble_eq_true rfl) dX11_helped_43 h
    · refine g_aload_n f 0 dX11_helped_14 rfl rfl ?_
      refine g_iload_n f 1 dX11_helped_15 rfl rfl ?_
      have v1 := mex_ok x3 v1
      refine g_callV f mk_X11_320 v1 (c_X11_lateBy h) dX11_helped_16 rfl rfl (Nat.le_of_ble_eq_true rfl) (rm_ok (by decide) (by decide)) ⟨Nat.le_of_ble_eq_true rfl, Nat.le_of_ble_eq_true rfl⟩ (kI fun r13 μ11 x12 h => ?_)
      refine g_aload_n f 0 dX11_helped_19 rfl rfl ?_
      refine g_iconst f 0 dX11_helped_20 kc_0 ?_
      have v1 := mex_ok x12 v1
      refine g_callV f mk_X11_320 v1 (c_X11_lateBy h) dX11_helped_21 rfl rfl (Nat.le_of_ble_eq_true rfl) (rm_ok (by decide) (by decide)) ⟨Nat.le_of_ble_eq_true rfl, Nat.le_of_ble_eq_true rfl⟩ (kI fun r16 μ14 x15 h => ?_)
      refine g_iconst f (-1) dX11_helped_24 kc_m1 ?_
      refine g_ixor f dX11_helped_25 ?_
      refine g_iand f dX11_helped_26 ?_
      refine g_goto f 43 dX11_helped_27 rfl ?_
      exact g_iret f hq (Nat.le_of_ble_eq_true rfl) (Nat.le_of_ble_eq_true rfl) dX11_helped_43 h
  · refine g_iconst f (-1) dX11_helped_8 kc_m1 ?_
    exact g_iret f hq (Nat.le_of_ble_eq_true rfl) (Nat.le_of_ble_eq_true rfl) dX11_helped_9 h
theorem c_X11_helped {Ω : OM} {o0 : Nat} {i1 : Int32} {i2 : Int32} {μ : Me} {Q : Int32 → Me → Prop} (h : S_X11_helped o0 i1 i2 μ Q) : CT Ω yX11_helped cX11_helped 3 (some .int) (rmc 6 0 0) [.ref (oB Ω + o0), .int i1, .int i2] μ (qI Q) := CT_of (by decide) rfl (by simp [lg_sl, Value.category]) (fun x hΩ f hq hi => by subst hΩ; exact t_X11_helped f hq h)
theorem dX11_early_0 : decode cX11_early 0 = .ok (.aload_n 0, 1) := by decide +kernel
theorem dX11_early_1 : decode cX11_early 1 = .ok (.iload_n 1, 1) := by decide +kernel
theorem dX11_early_2 : decode cX11_early 2 = .ok (.invokevirtual 329, 3) := by decide +kernel
theorem dX11_early_5 : decode cX11_early 5 = .ok (.ifCond .ne 5, 3) := by decide +kernel
theorem dX11_early_8 : decode cX11_early 8 = .ok (.iconst (-1), 1) := by decide +kernel
theorem dX11_early_9 : decode cX11_early 9 = .ok (.ireturn, 1) := by decide +kernel
theorem dX11_early_10 : decode cX11_early 10 = .ok (.aload_n 0, 1) := by decide +kernel
theorem dX11_early_11 : decode cX11_early 11 = .ok (.aload_n 0, 1) := by decide +kernel
theorem dX11_early_12 : decode cX11_early 12 = .ok (.getfield 7, 3) := by decide +kernel
theorem dX11_early_15 : decode cX11_early 15 = .ok (.iconst 2, 1) := by decide +kernel
theorem dX11_early_16 : decode cX11_early 16 = .ok (.iaload, 1) := by decide +kernel
theorem dX11_early_17 : decode cX11_early 17 = .ok (.iload_n 1, 1) := by decide +kernel
theorem dX11_early_18 : decode cX11_early 18 = .ok (.invokevirtual 305, 3) := by decide +kernel
theorem dX11_early_21 : decode cX11_early 21 = .ok (.istore_n 2, 1) := by decide +kernel
theorem dX11_early_22 : decode cX11_early 22 = .ok (.iconst 0, 1) := by decide +kernel
theorem dX11_early_23 : decode cX11_early 23 = .ok (.istore_n 3, 1) := by decide +kernel
theorem dX11_early_24 : decode cX11_early 24 = .ok (.iconst 0, 1) := by decide +kernel
theorem dX11_early_25 : decode cX11_early 25 = .ok (.istore 4, 2) := by decide +kernel
theorem dX11_early_27 : decode cX11_early 27 = .ok (.iload 4, 2) := by decide +kernel
theorem dX11_early_29 : decode cX11_early 29 = .ok (.aload_n 0, 1) := by decide +kernel
theorem dX11_early_30 : decode cX11_early 30 = .ok (.getfield 7, 3) := by decide +kernel
theorem dX11_early_33 : decode cX11_early 33 = .ok (.iconst 0, 1) := by decide +kernel
theorem dX11_early_34 : decode cX11_early 34 = .ok (.iaload, 1) := by decide +kernel
theorem dX11_early_35 : decode cX11_early 35 = .ok (.if_icmp .ge 56, 3) := by decide +kernel
theorem dX11_early_38 : decode cX11_early 38 = .ok (.aload_n 0, 1) := by decide +kernel
theorem dX11_early_39 : decode cX11_early 39 = .ok (.iload 4, 2) := by decide +kernel
theorem dX11_early_41 : decode cX11_early 41 = .ok (.iconst 0, 1) := by decide +kernel
theorem dX11_early_42 : decode cX11_early 42 = .ok (.invokevirtual 74, 3) := by decide +kernel
theorem dX11_early_45 : decode cX11_early 45 = .ok (.aload_n 0, 1) := by decide +kernel
theorem dX11_early_46 : decode cX11_early 46 = .ok (.aload_n 0, 1) := by decide +kernel
theorem dX11_early_47 : decode cX11_early 47 = .ok (.getfield 7, 3) := by decide +kernel
theorem dX11_early_50 : decode cX11_early 50 = .ok (.iconst 2, 1) := by decide +kernel
theorem dX11_early_51 : decode cX11_early 51 = .ok (.iaload, 1) := by decide +kernel
theorem dX11_early_52 : decode cX11_early 52 = .ok (.iload 4, 2) := by decide +kernel
theorem dX11_early_54 : decode cX11_early 54 = .ok (.iload_n 1, 1) := by decide +kernel
theorem dX11_early_55 : decode cX11_early 55 = .ok (.iload_n 2, 1) := by decide +kernel
theorem dX11_early_56 : decode cX11_early 56 = .ok (.invokevirtual 308, 3) := by decide +kernel
theorem dX11_early_59 : decode cX11_early 59 = .ok (.isub, 1) := by decide +kernel
theorem dX11_early_60 : decode cX11_early 60 = .ok (.istore 5, 2) := by decide +kernel
theorem dX11_early_62 : decode cX11_early 62 = .ok (.iload_n 3, 1) := by decide +kernel
theorem dX11_early_63 : decode cX11_early 63 = .ok (.aload_n 0, 1) := by decide +kernel
theorem dX11_early_64 : decode cX11_early 64 = .ok (.iload 4, 2) := by decide +kernel
theorem dX11_early_66 : decode cX11_early 66 = .ok (.invokevirtual 292, 3) := by decide +kernel
theorem dX11_early_69 : decode cX11_early 69 = .ok (.ifCond .eq 13, 3) := by decide +kernel
theorem dX11_early_72 : decode cX11_early 72 = .ok (.iload 5, 2) := by decide +kernel
theorem dX11_early_74 : decode cX11_early 74 = .ok (.ifCond .le 8, 3) := by decide +kernel
theorem dX11_early_77 : decode cX11_early 77 = .ok (.iload 5, 2) := by decide +kernel
theorem dX11_early_79 : decode cX11_early 79 = .ok (.goto 4, 3) := by decide +kernel
theorem dX11_early_82 : decode cX11_early 82 = .ok (.iconst 0, 1) := by decide +kernel
theorem dX11_early_83 : decode cX11_early 83 = .ok (.iadd, 1) := by decide +kernel
theorem dX11_early_84 : decode cX11_early 84 = .ok (.istore_n 3, 1) := by decide +kernel
theorem dX11_early_85 : decode cX11_early 85 = .ok (.iinc 4 1, 3) := by decide +kernel
theorem dX11_early_88 : decode cX11_early 88 = .ok (.goto (-61), 3) := by decide +kernel
theorem dX11_early_91 : decode cX11_early 91 = .ok (.iload_n 3, 1) := by decide +kernel
theorem dX11_early_92 : decode cX11_early 92 = .ok (.ireturn, 1) := by decide +kernel
def B_X11_early_83 (o0 : Nat) (i1 : Int32) (i2 : Int32) (i4 : Int32) (s0 : Int32) (s1 : Int32) (μ : Me) (K27 : Int32 → Int32 → Me → Prop) (Q : Int32 → Me → Prop) : Prop := K27 (s1 + s0) (i4 + 1) μ
set_option maxHeartbeats 4000000 in
set_option maxRecDepth 100000 in
theorem tB_X11_early_83 {x : GX} (f : Fx x cX11_early RX11 6 (rmc 5 0 0)) {o0 : Nat} {i1 : Int32} {i2 : Int32} {i4 : Int32} {s0 : Int32} {s1 : Int32} {μ : Me} {Q : Int32 → Me → Prop} (hq : Rt x (some .int) (qI Q)) {K27 : Int32 → Int32 → Me → Prop} (hK27 : ∀ (a3 : Int32) (a4 : Int32) (ν : Me), K27 a3 a4 ν → G x 6 27 [(0, .ref (gB x + o0)), (1, .int i1), (2, .int i2), (3, .int a3), (4, .int a4)] [] ν 0 0) (h : B_X11_early_83 o0 i1 i2 i4 s0 s1 μ K27 Q) : G x 6 83 [(0, .ref (gB x + o0)), (1, .int i1), (2, .int i2), (4, .int i4)] [.int s0, .int s1] μ 0 0 := by
  unfold B_X11_early_83 at h
  refine g_iadd f dX11_early_83 ?_
  refine h_istore_n f dX11_early_84 rfl (by decide) ?_
  refine h_iinc f 4 1 dX11_early_85 rfl kc_1 (by decide) ?_
  refine g_goto f 27 dX11_early_88 rfl ?_
  exact h_sub [2, 3, 4, 1, 0] rfl (hK27 _ _ _ h)
def B_X11_early_27 (o0 : Nat) (i1 : Int32) (i2 : Int32) (i3 : Int32) (i4 : Int32) (μ : Me) (K27 : Int32 → Int32 → Me → Prop) (Q : Int32 → Me → Prop) : Prop := mok μ o0 11 ∧ ∃ t11, mgr μ o0 0 = some t11 ∧ mok μ t11 12 ∧ vp_in (0 : Int32) (mln μ t11) ∧ (((mgi μ t11 (0 : Int32).toNatClampNeg) ≤ i4 → Q i3 μ) ∧ (¬ (mgi μ t11 (0 : Int32).toNatClampNeg) ≤ i4 → S_X11_get o0 i4 0 μ (fun r15 μ13 => ∃ t16, mgr μ13 o0 0 = some t16 ∧ mok μ13 t16 12 ∧ vp_in (2 : Int32) (mln μ13 t16) ∧ S_X11_takesOf o0 (mgi μ13 t16 (2 : Int32).toNatClampNeg) i4 i1 i2 μ13 (fun r20 μ18 => S_X11_isUp o0 i4 μ18 (fun r23 μ21 => ((r23 = 0 → B_X11_early_83 o0 i1 i2 i4 0 i3 μ21 K27 Q) ∧ (¬ r23 = 0 → (((r15 - r20) ≤ 0 → B_X11_early_83 o0 i1 i2 i4 0 i3 μ21 K27 Q) ∧ (¬ (r15 - r20) ≤ 0 → B_X11_early_83 o0 i1 i2 i4 (r15 - r20) i3 μ21 K27 Q)))))))))
set_option maxHeartbeats 4000000 in
set_option maxRecDepth 100000 in
theorem tB_X11_early_27 {x : GX} (f : Fx x cX11_early RX11 6 (rmc 5 0 0)) {o0 : Nat} {i1 : Int32} {i2 : Int32} {i3 : Int32} {i4 : Int32} {μ : Me} {Q : Int32 → Me → Prop} (hq : Rt x (some .int) (qI Q)) {K27 : Int32 → Int32 → Me → Prop} (hK27 : ∀ (a3 : Int32) (a4 : Int32) (ν : Me), K27 a3 a4 ν → G x 6 27 [(0, .ref (gB x + o0)), (1, .int i1), (2, .int i2), (3, .int a3), (4, .int a4)] [] ν 0 0) (h : B_X11_early_27 o0 i1 i2 i3 i4 μ K27 Q) : G x 6 27 [(0, .ref (gB x + o0)), (1, .int i1), (2, .int i2), (3, .int i3), (4, .int i4)] [] μ 0 0 := by
  unfold B_X11_early_27 at h
  refine g_iload f 4 dX11_early_27 rfl ?_
  refine g_aload_n f 0 dX11_early_29 rfl rfl ?_
  obtain ⟨v10, h⟩ := h
  refine g_getR f fk_X11_7 v10 dX11_early_30 rfl h (fun t11 h => ?_)
  refine g_iconst f 0 dX11_early_33 kc_0 ?_
  obtain ⟨v12, h⟩ := h
  refine g_iald f v12 dX11_early_34 h (fun h => ?_)
  refine g_ic_ge f 91 dX11_early_35 rfl h (fun h => ?_) (fun h => ?_)
  · refine g_iload_n f 3 dX11_early_91 rfl rfl ?_
    exact g_iret f hq (Nat.le_of_ble_eq_true rfl) (Nat.le_of_ble_eq_true rfl) dX11_early_92 h
  · refine g_aload_n f 0 dX11_early_38 rfl rfl ?_
    refine g_iload f 4 dX11_early_39 rfl ?_
    refine g_iconst f 0 dX11_early_41 kc_0 ?_
    refine g_callV f mk_X11_74 v10 (c_X11_get h) dX11_early_42 rfl rfl (Nat.le_of_ble_eq_true rfl) (rm_ok (by decide) (by decide)) ⟨Nat.le_of_ble_eq_true rfl, Nat.le_of_ble_eq_true rfl⟩ (kI fun r15 μ13 x14 h => ?_)
    refine g_aload_n f 0 dX11_early_45 rfl rfl ?_
    refine g_aload_n f 0 dX11_early_46 rfl rfl ?_
    have v10 := mex_ok x14 v10
    refine g_getR f fk_X11_7 v10 dX11_early_47 rfl h (fun t16 h => ?_)
    refine g_iconst f 2 dX11_early_50 kc_2 ?_
    obtain ⟨v17, h⟩ := h
    refine g_iald f v17 dX11_early_51 h (fun h => ?_)
    refine g_iload f 4 dX11_early_52 rfl ?_
    refine g_iload_n f 1 dX11_early_54 rfl rfl ?_
    refine g_iload_n f 2 dX11_early_55 rfl rfl ?_
    refine g_callV f mk_X11_308 v10 (c_X11_takesOf h) dX11_early_56 rfl rfl (Nat.le_of_ble_eq_true rfl) (rm_ok (by decide) (by decide)) ⟨Nat.le_of_ble_eq_true rfl, Nat.le_of_ble_eq_true rfl⟩ (kI fun r20 μ18 x19 h => ?_)
    refine g_isub f dX11_early_59 ?_
    refine h_istore f dX11_early_60 (by decide) ?_
    refine g_iload_n f 4 dX11_early_62 rfl rfl ?_
    refine g_aload_n f 1 dX11_early_63 rfl rfl ?_
    refine g_iload f 5 dX11_early_64 rfl ?_
    have v10 := mex_ok x19 v10
    refine g_callV f mk_X11_292 v10 (c_X11_isUp h) dX11_early_66 rfl rfl (Nat.le_of_ble_eq_true rfl) (rm_ok (by decide) (by decide)) ⟨Nat.le_of_ble_eq_true rfl, Nat.le_of_ble_eq_true rfl⟩ (kI fun r23 μ21 x22 h => ?_)
    refine g_if_eq f 82 dX11_early_69 rfl h (fun h => ?_) (fun h => ?_)
    · refine g_iconst f 0 dX11_early_82 kc_0 ?_
      exact h_sub [1, 2, 3, 5] rfl (tB_X11_early_83 f hq hK27 h)
    · refine g_iload f 0 dX11_early_72 rfl ?_
      refine g_if_le f 82 dX11_early_74 rfl h (fun h => ?_) (fun h => ?_)
      · refine g_iconst f 0 dX11_early_82 kc_0 ?_
        exact h_sub [1, 2, 3, 5] rfl (tB_X11_early_83 f hq hK27 h)
      · refine g_iload f 0 dX11_early_77 rfl ?_
        refine g_goto f 83 dX11_early_79 rfl ?_
        exact h_sub [1, 2, 3, 5] rfl (tB_X11_early_83 f hq hK27 h)
def L_X11_early_27 (o0 : Nat) (i1 : Int32) (i2 : Int32) (i3 : Int32) (i4 : Int32) (μ : Me) (Q : Int32 → Me → Prop) : Prop := ∃ I : Int32 → Int32 → Me → Nat → Prop, (∃ n, I i3 i4 μ n) ∧ ∀ (i3 : Int32) (i4 : Int32) (μ : Me) (n : Nat), I i3 i4 μ n → B_X11_early_27 o0 i1 i2 i3 i4 μ (fun a3 a4 ν => ∃ n', n' < n ∧ I a3 a4 ν n') Q
set_option maxHeartbeats 4000000 in
set_option maxRecDepth 100000 in
theorem tL_X11_early_27 {x : GX} (f : Fx x cX11_early RX11 6 (rmc 5 0 0)) {o0 : Nat} {i1 : Int32} {i2 : Int32} {i3 : Int32} {i4 : Int32} {μ : Me} {Q : Int32 → Me → Prop} (hq : Rt x (some .int) (qI Q)) (h : L_X11_early_27 o0 i1 i2 i3 i4 μ Q) : G x 6 27 [(0, .ref (gB x + o0)), (1, .int i1), (2, .int i2), (3, .int i3), (4, .int i4)] [] μ 0 0 := by
  obtain ⟨I, ⟨n, hI⟩, hs⟩ := h
  induction n using Nat.strongRecOn generalizing i3 i4 μ with
  | ind n ih => exact tB_X11_early_27 f hq (fun a3 a4 ν hk => by obtain ⟨n2, hn, hI2⟩ := hk; exact ih n2 hn hI2) (hs _ _ _ _ hI)
def S_X11_early (o0 : Nat) (i1 : Int32) (μ : Me) (Q : Int32 → Me → Prop) : Prop := mok μ o0 11 ∧ S_X11_areRings o0 i1 μ (fun r4 μ2 => ((¬ r4 = 0 → ∃ t5, mgr μ2 o0 0 = some t5 ∧ mok μ2 t5 12 ∧ vp_in (2 : Int32) (mln μ2 t5) ∧ S_X11_runnersBy o0 (mgi μ2 t5 (2 : Int32).toNatClampNeg) i1 μ2 (fun r9 μ7 => L_X11_early_27 o0 i1 r9 0 0 μ7 Q)) ∧ (r4 = 0 → Q (-1) μ2)))
set_option maxHeartbeats 4000000 in
set_option maxRecDepth 100000 in
theorem t_X11_early {x : GX} (f : Fx x cX11_early RX11 6 (rmc 5 0 0)) {o0 : Nat} {i1 : Int32} {μ : Me} {Q : Int32 → Me → Prop} (hq : Rt x (some .int) (qI Q)) (h : S_X11_early o0 i1 μ Q) : G x 6 0 [(0, .ref (gB x + o0)), (1, .int i1)] [] μ 0 0 := by
  unfold S_X11_early at h
  refine g_aload_n f 0 dX11_early_0 rfl rfl ?_
  refine g_iload_n f 1 dX11_early_1 rfl rfl ?_
  obtain ⟨v1, h⟩ := h
  refine g_callV f mk_X11_329 v1 (c_X11_areRings h) dX11_early_2 rfl rfl (Nat.le_of_ble_eq_true rfl) (rm_ok (by decide) (by decide)) ⟨Nat.le_of_ble_eq_true rfl, Nat.le_of_ble_eq_true rfl⟩ (kI fun r4 μ2 x3 h => ?_)
  refine g_if_ne f 10 dX11_early_5 rfl h (fun h => ?_) (fun h => ?_)
  · refine g_aload_n f 0 dX11_early_10 rfl rfl ?_
    refine g_aload_n f 0 dX11_early_11 rfl rfl ?_
    have v1 := mex_ok x3 v1
    refine g_getR f fk_X11_7 v1 dX11_early_12 rfl h (fun t5 h => ?_)
    refine g_iconst f 2 dX11_early_15 kc_2 ?_
    obtain ⟨v6, h⟩ := h
    refine g_iald f v6 dX11_early_16 h (fun h => ?_)
    refine g_iload_n f 1 dX11_early_17 rfl rfl ?_
    refine g_callV f mk_X11_305 v1 (c_X11_runnersBy h) dX11_early_18 rfl rfl (Nat.le_of_ble_eq_true rfl) (rm_ok (by decide) (by decide)) ⟨Nat.le_of_ble_eq_true rfl, Nat.le_of_ble_eq_true rfl⟩ (kI fun r9 μ7 x8 h => ?_)
    refine h_istore_n f dX11_early_21 rfl (by decide) ?_
    refine g_iconst f 0 dX11_early_22 kc_0 ?_
    refine h_istore_n f dX11_early_23 rfl (by decide) ?_
    refine g_iconst f 0 dX11_early_24 kc_0 ?_
    refine h_istore f dX11_early_25 (by decide) ?_
    exact h_sub [3, 4, 2, 1, 0] rfl (tL_X11_early_27 f hq h)
  · refine g_iconst f (-1) dX11_early_8 kc_m1 ?_
    exact g_iret f hq (Nat.le_of_ble_eq_true rfl) (Nat.le_of_ble_eq_true rfl) dX11_early_9 h
theorem c_X11_early {Ω : OM} {o0 : Nat} {i1 : Int32} {μ : Me} {Q : Int32 → Me → Prop} (h : S_X11_early o0 i1 μ Q) : CT Ω yX11_early cX11_early 6 (some .int) (rmc 5 0 0) [.ref (oB Ω + o0), .int i1] μ (qI Q) := CT_of (by decide) rfl (by simp [lg_sl, Value.category]) (fun x hΩ f hq hi => by subst hΩ; exact t_X11_early f hq h)
theorem dX11_weathers_0 : decode cX11_weathers 0 = .ok (.aload_n 0, 1) := by decide +kernel
theorem dX11_weathers_1 : decode cX11_weathers 1 = .ok (.iload_n 1, 1) := by decide +kernel
theorem dX11_weathers_2 : decode cX11_weathers 2 = .ok (.invokevirtual 335, 3) := by decide +kernel
theorem dX11_weathers_5 : decode cX11_weathers 5 = .ok (.ifCond .ne 5, 3) := by decide +kernel
theorem dX11_weathers_8 : decode cX11_weathers 8 = .ok (.iconst (-1), 1) := by decide +kernel
theorem dX11_weathers_9 : decode cX11_weathers 9 = .ok (.ireturn, 1) := by decide +kernel
theorem dX11_weathers_10 : decode cX11_weathers 10 = .ok (.aload_n 0, 1) := by decide +kernel
theorem dX11_weathers_11 : decode cX11_weathers 11 = .ok (.getfield 7, 3) := by decide +kernel
theorem dX11_weathers_14 : decode cX11_weathers 14 = .ok (.bipush 8, 2) := by decide +kernel
theorem dX11_weathers_16 : decode cX11_weathers 16 = .ok (.iaload, 1) := by decide +kernel
theorem dX11_weathers_17 : decode cX11_weathers 17 = .ok (.istore_n 2, 1) := by decide +kernel
theorem dX11_weathers_18 : decode cX11_weathers 18 = .ok (.iconst 0, 1) := by decide +kernel
theorem dX11_weathers_19 : decode cX11_weathers 19 = .ok (.istore_n 3, 1) := by decide +kernel
theorem dX11_weathers_20 : decode cX11_weathers 20 = .ok (.iconst 0, 1) := by decide +kernel
theorem dX11_weathers_21 : decode cX11_weathers 21 = .ok (.istore 4, 2) := by decide +kernel
theorem dX11_weathers_23 : decode cX11_weathers 23 = .ok (.iload 4, 2) := by decide +kernel
theorem dX11_weathers_25 : decode cX11_weathers 25 = .ok (.bipush 10, 2) := by decide +kernel
theorem dX11_weathers_27 : decode cX11_weathers 27 = .ok (.if_icmp .ge 36, 3) := by decide +kernel
theorem dX11_weathers_30 : decode cX11_weathers 30 = .ok (.aload_n 0, 1) := by decide +kernel
theorem dX11_weathers_31 : decode cX11_weathers 31 = .ok (.getfield 7, 3) := by decide +kernel
theorem dX11_weathers_34 : decode cX11_weathers 34 = .ok (.bipush 8, 2) := by decide +kernel
theorem dX11_weathers_36 : decode cX11_weathers 36 = .ok (.iload 4, 2) := by decide +kernel
theorem dX11_weathers_38 : decode cX11_weathers 38 = .ok (.iastore, 1) := by decide +kernel
theorem dX11_weathers_39 : decode cX11_weathers 39 = .ok (.iload_n 3, 1) := by decide +kernel
theorem dX11_weathers_40 : decode cX11_weathers 40 = .ok (.aload_n 0, 1) := by decide +kernel
theorem dX11_weathers_41 : decode cX11_weathers 41 = .ok (.aload_n 0, 1) := by decide +kernel
theorem dX11_weathers_42 : decode cX11_weathers 42 = .ok (.getfield 7, 3) := by decide +kernel
theorem dX11_weathers_45 : decode cX11_weathers 45 = .ok (.bipush 7, 2) := by decide +kernel
theorem dX11_weathers_47 : decode cX11_weathers 47 = .ok (.iaload, 1) := by decide +kernel
theorem dX11_weathers_48 : decode cX11_weathers 48 = .ok (.invokevirtual 320, 3) := by decide +kernel
theorem dX11_weathers_51 : decode cX11_weathers 51 = .ok (.iload_n 1, 1) := by decide +kernel
theorem dX11_weathers_52 : decode cX11_weathers 52 = .ok (.ishr, 1) := by decide +kernel
theorem dX11_weathers_53 : decode cX11_weathers 53 = .ok (.iconst 1, 1) := by decide +kernel
theorem dX11_weathers_54 : decode cX11_weathers 54 = .ok (.iand, 1) := by decide +kernel
theorem dX11_weathers_55 : decode cX11_weathers 55 = .ok (.iadd, 1) := by decide +kernel
theorem dX11_weathers_56 : decode cX11_weathers 56 = .ok (.istore_n 3, 1) := by decide +kernel
theorem dX11_weathers_57 : decode cX11_weathers 57 = .ok (.iinc 4 1, 3) := by decide +kernel
theorem dX11_weathers_60 : decode cX11_weathers 60 = .ok (.goto (-37), 3) := by decide +kernel
theorem dX11_weathers_63 : decode cX11_weathers 63 = .ok (.aload_n 0, 1) := by decide +kernel
theorem dX11_weathers_64 : decode cX11_weathers 64 = .ok (.getfield 7, 3) := by decide +kernel
theorem dX11_weathers_67 : decode cX11_weathers 67 = .ok (.bipush 8, 2) := by decide +kernel
theorem dX11_weathers_69 : decode cX11_weathers 69 = .ok (.iload_n 2, 1) := by decide +kernel
theorem dX11_weathers_70 : decode cX11_weathers 70 = .ok (.iastore, 1) := by decide +kernel
theorem dX11_weathers_71 : decode cX11_weathers 71 = .ok (.iload_n 3, 1) := by decide +kernel
theorem dX11_weathers_72 : decode cX11_weathers 72 = .ok (.ireturn, 1) := by decide +kernel
def B_X11_weathers_23 (o0 : Nat) (i1 : Int32) (i2 : Int32) (i3 : Int32) (i4 : Int32) (μ : Me) (K23 : Int32 → Int32 → Me → Prop) (Q : Int32 → Me → Prop) : Prop := ((10 ≤ i4 → mok μ o0 11 ∧ ∃ t8, mgr μ o0 0 = some t8 ∧ mok μ t8 12 ∧ vp_in (8 : Int32) (mln μ t8) ∧ ∀ μ10, μ10 = msi μ t8 (8 : Int32).toNatClampNeg i2 → Q i3 μ10) ∧ (¬ 10 ≤ i4 → mok μ o0 11 ∧ ∃ t12, mgr μ o0 0 = some t12 ∧ mok μ t12 12 ∧ vp_in (8 : Int32) (mln μ t12) ∧ ∀ μ14, μ14 = msi μ t12 (8 : Int32).toNatClampNeg i4 → ∃ t15, mgr μ14 o0 0 = some t15 ∧ mok μ14 t15 12 ∧ vp_in (7 : Int32) (mln μ14 t15) ∧ S_X11_lateBy o0 (mgi μ14 t15 (7 : Int32).toNatClampNeg) μ14 (fun r19 μ17 => K23 (i3 + ((r19 >>> (i1 &&& 31)) &&& 1)) (i4 + 1) μ17)))
set_option maxHeartbeats 4000000 in
set_option maxRecDepth 100000 in
theorem tB_X11_weathers_23 {x : GX} (f : Fx x cX11_weathers RX11 5 (rmc 6 0 0)) {o0 : Nat} {i1 : Int32} {i2 : Int32} {i3 : Int32} {i4 : Int32} {μ : Me} {Q : Int32 → Me → Prop} (hq : Rt x (some .int) (qI Q)) {K23 : Int32 → Int32 → Me → Prop} (hK23 : ∀ (a3 : Int32) (a4 : Int32) (ν : Me), K23 a3 a4 ν → G x 5 23 [(0, .ref (gB x + o0)), (1, .int i1), (2, .int i2), (3, .int a3), (4, .int a4)] [] ν 0 0) (h : B_X11_weathers_23 o0 i1 i2 i3 i4 μ K23 Q) : G x 5 23 [(0, .ref (gB x + o0)), (1, .int i1), (2, .int i2), (3, .int i3), (4, .int i4)] [] μ 0 0 := by
  unfold B_X11_weathers_23 at h
  refine g_iload f 4 dX11_weathers_23 rfl ?_
  refine g_bipush f 10 dX11_weathers_25 kb_10 ?_
  refine g_ic_ge f 63 dX11_weathers_27 rfl h (fun h => ?_) (fun h => ?_)
  · refine g_aload_n f 0 dX11_weathers_63 rfl rfl ?_
    obtain ⟨v7, h⟩ := h
    refine g_getR f fk_X11_7 v7 dX11_weathers_64 rfl h (fun t8 h => ?_)
    refine g_bipush f 8 dX11_weathers_67 kb_8 ?_
    refine g_iload_n f 2 dX11_weathers_69 rfl rfl ?_
    obtain ⟨v9, h⟩ := h
    refine g_iast f v9 dX11_weathers_70 h (fun h => ?_)
    refine g_iload_n f 3 dX11_weathers_71 rfl rfl ?_
    exact g_iret f hq (Nat.le_of_ble_eq_true rfl) (Nat.le_of_ble_eq_true rfl) dX11_weathers_72 h
  · refine g_aload_n f 0 dX11_weathers_30 rfl rfl ?_
    obtain ⟨v11, h⟩ := h
    refine g_getR f fk_X11_7 v11 dX11_weathers_31 rfl h (fun t12 h => ?_)
    refine g_bipush f 8 dX11_weathers_34 kb_8 ?_
    refine g_iload f 4 dX11_weathers_36 rfl ?_
    obtain ⟨v13, h⟩ := h
    refine g_iast f v13 dX11_weathers_38 h (fun h => ?_)
    refine g_iload_n f 3 dX11_weathers_39 rfl rfl ?_
    refine g_aload_n f 0 dX11_weathers_40 rfl rfl ?_
    refine g_aload_n f 0 dX11_weathers_41 rfl rfl ?_
    refine g_getR f fk_X11_7 v11 dX11_weathers_42 rfl h (fun t15 h => ?_)
    refine g_bipush f 7 dX11_weathers_45 kb_7 ?_
    obtain ⟨v16, h⟩ := h
    refine g_iald f v16 dX11_weathers_47 h (fun h => ?_)
    refine g_callV f mk_X11_320 v11 (c_X11_lateBy h) dX11_weathers_48 rfl rfl (Nat.le_of_ble_eq_true rfl) (rm_ok (by decide) (by decide)) ⟨Nat.le_of_ble_eq_true rfl, Nat.le_of_ble_eq_true rfl⟩ (kI fun r19 μ17 x18 h => ?_)
    refine g_iload_n f 1 dX11_weathers_51 rfl rfl ?_
    refine g_ishr f dX11_weathers_52 ?_
    refine g_iconst f 1 dX11_weathers_53 kc_1 ?_
    refine g_iand f dX11_weathers_54 ?_
    refine g_iadd f dX11_weathers_55 ?_
    refine h_istore_n f dX11_weathers_56 rfl (by decide) ?_
    refine h_iinc f 4 1 dX11_weathers_57 rfl kc_1 (by decide) ?_
    refine g_goto f 23 dX11_weathers_60 rfl ?_
    exact h_sub [2, 3, 4, 1, 0] rfl (hK23 _ _ _ h)
def L_X11_weathers_23 (o0 : Nat) (i1 : Int32) (i2 : Int32) (i3 : Int32) (i4 : Int32) (μ : Me) (Q : Int32 → Me → Prop) : Prop := ∃ I : Int32 → Int32 → Me → Nat → Prop, (∃ n, I i3 i4 μ n) ∧ ∀ (i3 : Int32) (i4 : Int32) (μ : Me) (n : Nat), I i3 i4 μ n → B_X11_weathers_23 o0 i1 i2 i3 i4 μ (fun a3 a4 ν => ∃ n', n' < n ∧ I a3 a4 ν n') Q
set_option maxHeartbeats 4000000 in
set_option maxRecDepth 100000 in
theorem tL_X11_weathers_23 {x : GX} (f : Fx x cX11_weathers RX11 5 (rmc 6 0 0)) {o0 : Nat} {i1 : Int32} {i2 : Int32} {i3 : Int32} {i4 : Int32} {μ : Me} {Q : Int32 → Me → Prop} (hq : Rt x (some .int) (qI Q)) (h : L_X11_weathers_23 o0 i1 i2 i3 i4 μ Q) : G x 5 23 [(0, .ref (gB x + o0)), (1, .int i1), (2, .int i2), (3, .int i3), (4, .int i4)] [] μ 0 0 := by
  obtain ⟨I, ⟨n, hI⟩, hs⟩ := h
  induction n using Nat.strongRecOn generalizing i3 i4 μ with
  | ind n ih => exact tB_X11_weathers_23 f hq (fun a3 a4 ν hk => by obtain ⟨n2, hn, hI2⟩ := hk; exact ih n2 hn hI2) (hs _ _ _ _ hI)
def S_X11_weathers (o0 : Nat) (i1 : Int32) (μ : Me) (Q : Int32 → Me → Prop) : Prop := mok μ o0 11 ∧ S_X11_isPerson o0 i1 μ (fun r4 μ2 => ((¬ r4 = 0 → ∃ t5, mgr μ2 o0 0 = some t5 ∧ mok μ2 t5 12 ∧ vp_in (8 : Int32) (mln μ2 t5) ∧ L_X11_weathers_23 o0 i1 (mgi μ2 t5 (8 : Int32).toNatClampNeg) 0 0 μ2 Q) ∧ (r4 = 0 → Q (-1) μ2)))
set_option maxHeartbeats 4000000 in
set_option maxRecDepth 100000 in
theorem t_X11_weathers {x : GX} (f : Fx x cX11_weathers RX11 5 (rmc 6 0 0)) {o0 : Nat} {i1 : Int32} {μ : Me} {Q : Int32 → Me → Prop} (hq : Rt x (some .int) (qI Q)) (h : S_X11_weathers o0 i1 μ Q) : G x 5 0 [(0, .ref (gB x + o0)), (1, .int i1)] [] μ 0 0 := by
  unfold S_X11_weathers at h
  refine g_aload_n f 0 dX11_weathers_0 rfl rfl ?_
  refine g_iload_n f 1 dX11_weathers_1 rfl rfl ?_
  obtain ⟨v1, h⟩ := h
  refine g_callV f mk_X11_335 v1 (c_X11_isPerson h) dX11_weathers_2 rfl rfl (Nat.le_of_ble_eq_true rfl) (rm_ok (by decide) (by decide)) ⟨Nat.le_of_ble_eq_true rfl, Nat.le_of_ble_eq_true rfl⟩ (kI fun r4 μ2 x3 h => ?_)
  refine g_if_ne f 10 dX11_weathers_5 rfl h (fun h => ?_) (fun h => ?_)
  · refine g_aload_n f 0 dX11_weathers_10 rfl rfl ?_
    have v1 := mex_ok x3 v1
    refine g_getR f fk_X11_7 v1 dX11_weathers_11 rfl h (fun t5 h => ?_)
    refine g_bipush f 8 dX11_weathers_14 kb_8 ?_
    obtain ⟨v6, h⟩ := h
    refine g_iald f v6 dX11_weathers_16 h (fun h => ?_)
    refine h_istore_n f dX11_weathers_17 rfl (by decide) ?_
    refine g_iconst f 0 dX11_weathers_18 kc_0 ?_
    refine h_istore_n f dX11_weathers_19 rfl (by decide) ?_
    refine g_iconst f 0 dX11_weathers_20 kc_0 ?_
    refine h_istore f dX11_weathers_21 (by decide) ?_
    exact h_sub [3, 4, 2, 1, 0] rfl (tL_X11_weathers_23 f hq h)
  · refine g_iconst f (-1) dX11_weathers_8 kc_m1 ?_
    exact g_iret f hq (Nat.le_of_ble_eq_true rfl) (Nat.le_of_ble_eq_true rfl) dX11_weathers_9 h
theorem c_X11_weathers {Ω : OM} {o0 : Nat} {i1 : Int32} {μ : Me} {Q : Int32 → Me → Prop} (h : S_X11_weathers o0 i1 μ Q) : CT Ω yX11_weathers cX11_weathers 5 (some .int) (rmc 6 0 0) [.ref (oB Ω + o0), .int i1] μ (qI Q) := CT_of (by decide) rfl (by simp [lg_sl, Value.category]) (fun x hΩ f hq hi => by subst hΩ; exact t_X11_weathers f hq h)
theorem dX11_isNeedless_0 : decode cX11_isNeedless 0 = .ok (.aload_n 0, 1) := by decide +kernel
theorem dX11_isNeedless_1 : decode cX11_isNeedless 1 = .ok (.invokevirtual 368, 3) := by decide +kernel
theorem dX11_isNeedless_4 : decode cX11_isNeedless 4 = .ok (.iload_n 1, 1) := by decide +kernel
theorem dX11_isNeedless_5 : decode cX11_isNeedless 5 = .ok (.invokestatic 246, 3) := by decide +kernel
theorem dX11_isNeedless_8 : decode cX11_isNeedless 8 = .ok (.ifCond .eq 31, 3) := by decide +kernel
theorem dX11_isNeedless_11 : decode cX11_isNeedless 11 = .ok (.aload_n 0, 1) := by decide +kernel
theorem dX11_isNeedless_12 : decode cX11_isNeedless 12 = .ok (.iload_n 1, 1) := by decide +kernel
theorem dX11_isNeedless_13 : decode cX11_isNeedless 13 = .ok (.aload_n 0, 1) := by decide +kernel
theorem dX11_isNeedless_14 : decode cX11_isNeedless 14 = .ok (.invokevirtual 368, 3) := by decide +kernel
theorem dX11_isNeedless_17 : decode cX11_isNeedless 17 = .ok (.iconst 1, 1) := by decide +kernel
theorem dX11_isNeedless_18 : decode cX11_isNeedless 18 = .ok (.iload_n 1, 1) := by decide +kernel
theorem dX11_isNeedless_19 : decode cX11_isNeedless 19 = .ok (.ishl, 1) := by decide +kernel
theorem dX11_isNeedless_20 : decode cX11_isNeedless 20 = .ok (.iconst (-1), 1) := by decide +kernel
theorem dX11_isNeedless_21 : decode cX11_isNeedless 21 = .ok (.ixor, 1) := by decide +kernel
theorem dX11_isNeedless_22 : decode cX11_isNeedless 22 = .ok (.iand, 1) := by decide +kernel
theorem dX11_isNeedless_23 : decode cX11_isNeedless 23 = .ok (.invokevirtual 371, 3) := by decide +kernel
theorem dX11_isNeedless_26 : decode cX11_isNeedless 26 = .ok (.aload_n 0, 1) := by decide +kernel
theorem dX11_isNeedless_27 : decode cX11_isNeedless 27 = .ok (.iload_n 1, 1) := by decide +kernel
theorem dX11_isNeedless_28 : decode cX11_isNeedless 28 = .ok (.iconst 0, 1) := by decide +kernel
theorem dX11_isNeedless_29 : decode cX11_isNeedless 29 = .ok (.invokevirtual 74, 3) := by decide +kernel
theorem dX11_isNeedless_32 : decode cX11_isNeedless 32 = .ok (.if_icmp .gt 7, 3) := by decide +kernel
theorem dX11_isNeedless_35 : decode cX11_isNeedless 35 = .ok (.iconst 1, 1) := by decide +kernel
theorem dX11_isNeedless_36 : decode cX11_isNeedless 36 = .ok (.goto 4, 3) := by decide +kernel
theorem dX11_isNeedless_39 : decode cX11_isNeedless 39 = .ok (.iconst 0, 1) := by decide +kernel
theorem dX11_isNeedless_40 : decode cX11_isNeedless 40 = .ok (.ireturn, 1) := by decide +kernel
def S_X11_isNeedless (o0 : Nat) (i1 : Int32) (μ : Me) (Q : Int32 → Me → Prop) : Prop := mok μ o0 11 ∧ S_X11_runningNow o0 μ (fun r4 μ2 => S_X11_has r4 i1 μ2 (fun r7 μ5 => ((r7 = 0 → Q 0 μ5) ∧ (¬ r7 = 0 → S_X11_runningNow o0 μ5 (fun r10 μ8 => S_X11_takesNow o0 i1 (r10 &&& ((1 <<< (i1 &&& 31)) ^^^ (-1))) μ8 (fun r13 μ11 => S_X11_get o0 i1 0 μ11 (fun r16 μ14 => ((r16 < r13 → Q 0 μ14) ∧ (¬ r16 < r13 → Q 1 μ14)))))))))
set_option maxHeartbeats 4000000 in
set_option maxRecDepth 100000 in
theorem t_X11_isNeedless {x : GX} (f : Fx x cX11_isNeedless RX11 2 (rmc 6 0 0)) {o0 : Nat} {i1 : Int32} {μ : Me} {Q : Int32 → Me → Prop} (hq : Rt x (some .boolean) (qI Q)) (h : S_X11_isNeedless o0 i1 μ Q) : G x 2 0 [(0, .ref (gB x + o0)), (1, .int i1)] [] μ 0 0 := by
  unfold S_X11_isNeedless at h
  refine g_aload_n f 0 dX11_isNeedless_0 rfl rfl ?_
  obtain ⟨v1, h⟩ := h
  refine g_callV f mk_X11_368 v1 (c_X11_runningNow h) dX11_isNeedless_1 rfl rfl (Nat.le_of_ble_eq_true rfl) (rm_ok (by decide) (by decide)) ⟨Nat.le_of_ble_eq_true rfl, Nat.le_of_ble_eq_true rfl⟩ (kI fun r4 μ2 x3 h => ?_)
  refine g_iload_n f 1 dX11_isNeedless_4 rfl rfl ?_
  refine g_callS f mk_X11_246 (c_X11_has h) dX11_isNeedless_5 rfl rfl (Nat.le_of_ble_eq_true rfl) (rm_ok (by decide) (by decide)) ⟨Nat.le_of_ble_eq_true rfl, Nat.le_of_ble_eq_true rfl⟩ (kI fun r7 μ5 x6 h => ?_)
  refine g_if_eq f 39 dX11_isNeedless_8 rfl h (fun h => ?_) (fun h => ?_)
  · refine g_iconst f 0 dX11_isNeedless_39 kc_0 ?_
    exact g_zret f hq (Nat.le_of_ble_eq_true rfl) (Nat.le_of_ble_eq_true rfl) dX11_isNeedless_40 zb_0.1 h
  · refine g_aload_n f 0 dX11_isNeedless_11 rfl rfl ?_
    refine g_iload_n f 1 dX11_isNeedless_12 rfl rfl ?_
    refine g_aload_n f 0 dX11_isNeedless_13 rfl rfl ?_
    have v1 := mex_ok x3 v1
    have v1 := mex_ok x6 v1
    refine g_callV f mk_X11_368 v1 (c_X11_runningNow h) dX11_isNeedless_14 rfl rfl (Nat.le_of_ble_eq_true rfl) (rm_ok (by decide) (by decide)) ⟨Nat.le_of_ble_eq_true rfl, Nat.le_of_ble_eq_true rfl⟩ (kI fun r10 μ8 x9 h => ?_)
    refine g_iconst f 1 dX11_isNeedless_17 kc_1 ?_
    refine g_iload_n f 1 dX11_isNeedless_18 rfl rfl ?_
    refine g_ishl f dX11_isNeedless_19 ?_
    refine g_iconst f (-1) dX11_isNeedless_20 kc_m1 ?_
    refine g_ixor f dX11_isNeedless_21 ?_
    refine g_iand f dX11_isNeedless_22 ?_
    have v1 := mex_ok x9 v1
    refine g_callV f mk_X11_371 v1 (c_X11_takesNow h) dX11_isNeedless_23 rfl rfl (Nat.le_of_ble_eq_true rfl) (rm_ok (by decide) (by decide)) ⟨Nat.le_of_ble_eq_true rfl, Nat.le_of_ble_eq_true rfl⟩ (kI fun r13 μ11 x12 h => ?_)
    refine g_aload_n f 0 dX11_isNeedless_26 rfl rfl ?_
    refine g_iload_n f 1 dX11_isNeedless_27 rfl rfl ?_
    refine g_iconst f 0 dX11_isNeedless_28 kc_0 ?_
    have v1 := mex_ok x12 v1
    refine g_callV f mk_X11_74 v1 (c_X11_get h) dX11_isNeedless_29 rfl rfl (Nat.le_of_ble_eq_true rfl) (rm_ok (by decide) (by decide)) ⟨Nat.le_of_ble_eq_true rfl, Nat.le_of_ble_eq_true rfl⟩ (kI fun r16 μ14 x15 h => ?_)
    refine g_ic_gt f 39 dX11_isNeedless_32 rfl h (fun h => ?_) (fun h => ?_)
    · refine g_iconst f 0 dX11_isNeedless_39 kc_0 ?_
      exact g_zret f hq (Nat.le_of_ble_eq_true rfl) (Nat.le_of_ble_eq_true rfl) dX11_isNeedless_40 zb_0.1 h
    · refine g_iconst f 1 dX11_isNeedless_35 kc_1 ?_
      refine g_goto f 40 dX11_isNeedless_36 rfl ?_
      exact g_zret f hq (Nat.le_of_ble_eq_true rfl) (Nat.le_of_ble_eq_true rfl) dX11_isNeedless_40 zb_1.1 h
theorem c_X11_isNeedless {Ω : OM} {o0 : Nat} {i1 : Int32} {μ : Me} {Q : Int32 → Me → Prop} (h : S_X11_isNeedless o0 i1 μ Q) : CT Ω yX11_isNeedless cX11_isNeedless 2 (some .boolean) (rmc 6 0 0) [.ref (oB Ω + o0), .int i1] μ (qI Q) := CT_of (by decide) rfl (by simp [lg_sl, Value.category]) (fun x hΩ f hq hi => by subst hΩ; exact t_X11_isNeedless f hq h)
theorem dX11_needless_0 : decode cX11_needless 0 = .ok (.iconst 0, 1) := by decide +kernel
theorem dX11_needless_1 : decode cX11_needless 1 = .ok (.istore_n 1, 1) := by decide +kernel
theorem dX11_needless_2 : decode cX11_needless 2 = .ok (.iconst 0, 1) := by decide +kernel
theorem dX11_needless_3 : decode cX11_needless 3 = .ok (.istore_n 2, 1) := by decide +kernel
theorem dX11_needless_4 : decode cX11_needless 4 = .ok (.iload_n 2, 1) := by decide +kernel
theorem dX11_needless_5 : decode cX11_needless 5 = .ok (.aload_n 0, 1) := by decide +kernel
theorem dX11_needless_6 : decode cX11_needless 6 = .ok (.getfield 7, 3) := by decide +kernel
theorem dX11_needless_9 : decode cX11_needless 9 = .ok (.iconst 0, 1) := by decide +kernel
theorem dX11_needless_10 : decode cX11_needless 10 = .ok (.iaload, 1) := by decide +kernel
theorem dX11_needless_11 : decode cX11_needless 11 = .ok (.if_icmp .ge 27, 3) := by decide +kernel
theorem dX11_needless_14 : decode cX11_needless 14 = .ok (.iload_n 1, 1) := by decide +kernel
theorem dX11_needless_15 : decode cX11_needless 15 = .ok (.aload_n 0, 1) := by decide +kernel
theorem dX11_needless_16 : decode cX11_needless 16 = .ok (.iload_n 2, 1) := by decide +kernel
theorem dX11_needless_17 : decode cX11_needless 17 = .ok (.invokevirtual 389, 3) := by decide +kernel
theorem dX11_needless_20 : decode cX11_needless 20 = .ok (.ifCond .eq 9, 3) := by decide +kernel
theorem dX11_needless_23 : decode cX11_needless 23 = .ok (.iconst 1, 1) := by decide +kernel
theorem dX11_needless_24 : decode cX11_needless 24 = .ok (.iload_n 2, 1) := by decide +kernel
theorem dX11_needless_25 : decode cX11_needless 25 = .ok (.ishl, 1) := by decide +kernel
theorem dX11_needless_26 : decode cX11_needless 26 = .ok (.goto 4, 3) := by decide +kernel
theorem dX11_needless_29 : decode cX11_needless 29 = .ok (.iconst 0, 1) := by decide +kernel
theorem dX11_needless_30 : decode cX11_needless 30 = .ok (.ior, 1) := by decide +kernel
theorem dX11_needless_31 : decode cX11_needless 31 = .ok (.istore_n 1, 1) := by decide +kernel
theorem dX11_needless_32 : decode cX11_needless 32 = .ok (.iinc 2 1, 3) := by decide +kernel
theorem dX11_needless_35 : decode cX11_needless 35 = .ok (.goto (-31), 3) := by decide +kernel
theorem dX11_needless_38 : decode cX11_needless 38 = .ok (.iload_n 1, 1) := by decide +kernel
theorem dX11_needless_39 : decode cX11_needless 39 = .ok (.ireturn, 1) := by decide +kernel
def B_X11_needless_30 (o0 : Nat) (i2 : Int32) (s0 : Int32) (s1 : Int32) (μ : Me) (K4 : Int32 → Int32 → Me → Prop) (Q : Int32 → Me → Prop) : Prop := K4 (s1 ||| s0) (i2 + 1) μ
set_option maxHeartbeats 4000000 in
set_option maxRecDepth 100000 in
theorem tB_X11_needless_30 {x : GX} (f : Fx x cX11_needless RX11 3 (rmc 7 0 0)) {o0 : Nat} {i2 : Int32} {s0 : Int32} {s1 : Int32} {μ : Me} {Q : Int32 → Me → Prop} (hq : Rt x (some .int) (qI Q)) {K4 : Int32 → Int32 → Me → Prop} (hK4 : ∀ (a1 : Int32) (a2 : Int32) (ν : Me), K4 a1 a2 ν → G x 3 4 [(0, .ref (gB x + o0)), (1, .int a1), (2, .int a2)] [] ν 0 0) (h : B_X11_needless_30 o0 i2 s0 s1 μ K4 Q) : G x 3 30 [(0, .ref (gB x + o0)), (2, .int i2)] [.int s0, .int s1] μ 0 0 := by
  unfold B_X11_needless_30 at h
  refine g_ior f dX11_needless_30 ?_
  refine h_istore_n f dX11_needless_31 rfl (by decide) ?_
  refine h_iinc f 2 1 dX11_needless_32 rfl kc_1 (by decide) ?_
  refine g_goto f 4 dX11_needless_35 rfl ?_
  exact h_sub [2, 1, 0] rfl (hK4 _ _ _ h)
def B_X11_needless_4 (o0 : Nat) (i1 : Int32) (i2 : Int32) (μ : Me) (K4 : Int32 → Int32 → Me → Prop) (Q : Int32 → Me → Prop) : Prop := mok μ o0 11 ∧ ∃ t2, mgr μ o0 0 = some t2 ∧ mok μ t2 12 ∧ vp_in (0 : Int32) (mln μ t2) ∧ (((mgi μ t2 (0 : Int32).toNatClampNeg) ≤ i2 → Q i1 μ) ∧ (¬ (mgi μ t2 (0 : Int32).toNatClampNeg) ≤ i2 → S_X11_isNeedless o0 i2 μ (fun r6 μ4 => ((r6 = 0 → B_X11_needless_30 o0 i2 0 i1 μ4 K4 Q) ∧ (¬ r6 = 0 → B_X11_needless_30 o0 i2 (1 <<< (i2 &&& 31)) i1 μ4 K4 Q)))))
set_option maxHeartbeats 4000000 in
set_option maxRecDepth 100000 in
theorem tB_X11_needless_4 {x : GX} (f : Fx x cX11_needless RX11 3 (rmc 7 0 0)) {o0 : Nat} {i1 : Int32} {i2 : Int32} {μ : Me} {Q : Int32 → Me → Prop} (hq : Rt x (some .int) (qI Q)) {K4 : Int32 → Int32 → Me → Prop} (hK4 : ∀ (a1 : Int32) (a2 : Int32) (ν : Me), K4 a1 a2 ν → G x 3 4 [(0, .ref (gB x + o0)), (1, .int a1), (2, .int a2)] [] ν 0 0) (h : B_X11_needless_4 o0 i1 i2 μ K4 Q) : G x 3 4 [(0, .ref (gB x + o0)), (1, .int i1), (2, .int i2)] [] μ 0 0 := by
  unfold B_X11_needless_4 at h
  refine g_iload_n f 2 dX11_needless_4 rfl rfl ?_
  refine g_aload_n f 0 dX11_needless_5 rfl rfl ?_
  obtain ⟨v1, h⟩ := h
  refine g_getR f fk_X11_7 v1 dX11_needless_6 rfl h (fun t2 h => ?_)
  refine g_iconst f 0 dX11_needless_9 kc_0 ?_
  obtain ⟨v3, h⟩ := h
  refine g_iald f v3 dX11_needless_10 h (fun h => ?_)
  refine g_ic_ge f 38 dX11_needless_11 rfl h (fun h => ?_) (fun h => ?_)
  · refine g_iload_n f 1 dX11_needless_38 rfl rfl ?_
    exact g_iret f hq (Nat.le_of_ble_eq_true rfl) (Nat.le_of_ble_eq_true rfl) dX11_needless_39 h
  · refine g_iload_n f 1 dX11_needless_14 rfl rfl ?_
    refine g_aload_n f 0 dX11_needless_15 rfl rfl ?_
    refine g_iload_n f 2 dX11_needless_16 rfl rfl ?_
    refine g_callV f mk_X11_389 v1 (c_X11_isNeedless h) dX11_needless_17 rfl rfl (Nat.le_of_ble_eq_true rfl) (rm_ok (by decide) (by decide)) ⟨Nat.le_of_ble_eq_true rfl, Nat.le_of_ble_eq_true rfl⟩ (kI fun r6 μ4 x5 h => ?_)
    refine g_if_eq f 29 dX11_needless_20 rfl h (fun h => ?_) (fun h => ?_)
    · refine g_iconst f 0 dX11_needless_29 kc_0 ?_
      exact h_sub [0, 2] rfl (tB_X11_needless_30 f hq hK4 h)
    · refine g_iconst f 1 dX11_needless_23 kc_1 ?_
      refine g_iload_n f 2 dX11_needless_24 rfl rfl ?_
      refine g_ishl f dX11_needless_25 ?_
      refine g_goto f 30 dX11_needless_26 rfl ?_
      exact h_sub [0, 2] rfl (tB_X11_needless_30 f hq hK4 h)
def L_X11_needless_4 (o0 : Nat) (i1 : Int32) (i2 : Int32) (μ : Me) (Q : Int32 → Me → Prop) : Prop := ∃ I : Int32 → Int32 → Me → Nat → Prop, (∃ n, I i1 i2 μ n) ∧ ∀ (i1 : Int32) (i2 : Int32) (μ : Me) (n : Nat), I i1 i2 μ n → B_X11_needless_4 o0 i1 i2 μ (fun a1 a2 ν => ∃ n', n' < n ∧ I a1 a2 ν n') Q
set_option maxHeartbeats 4000000 in
set_option maxRecDepth 100000 in
theorem tL_X11_needless_4 {x : GX} (f : Fx x cX11_needless RX11 3 (rmc 7 0 0)) {o0 : Nat} {i1 : Int32} {i2 : Int32} {μ : Me} {Q : Int32 → Me → Prop} (hq : Rt x (some .int) (qI Q)) (h : L_X11_needless_4 o0 i1 i2 μ Q) : G x 3 4 [(0, .ref (gB x + o0)), (1, .int i1), (2, .int i2)] [] μ 0 0 := by
  obtain ⟨I, ⟨n, hI⟩, hs⟩ := h
  induction n using Nat.strongRecOn generalizing i1 i2 μ with
  | ind n ih => exact tB_X11_needless_4 f hq (fun a1 a2 ν hk => by obtain ⟨n2, hn, hI2⟩ := hk; exact ih n2 hn hI2) (hs _ _ _ _ hI)
def S_X11_needless (o0 : Nat) (μ : Me) (Q : Int32 → Me → Prop) : Prop := L_X11_needless_4 o0 0 0 μ Q
set_option maxHeartbeats 4000000 in
set_option maxRecDepth 100000 in
theorem t_X11_needless {x : GX} (f : Fx x cX11_needless RX11 3 (rmc 7 0 0)) {o0 : Nat} {μ : Me} {Q : Int32 → Me → Prop} (hq : Rt x (some .int) (qI Q)) (h : S_X11_needless o0 μ Q) : G x 3 0 [(0, .ref (gB x + o0))] [] μ 0 0 := by
  unfold S_X11_needless at h
  refine g_iconst f 0 dX11_needless_0 kc_0 ?_
  refine h_istore_n f dX11_needless_1 rfl (by decide) ?_
  refine g_iconst f 0 dX11_needless_2 kc_0 ?_
  refine h_istore_n f dX11_needless_3 rfl (by decide) ?_
  exact h_sub [2, 1, 0] rfl (tL_X11_needless_4 f hq h)
theorem c_X11_needless {Ω : OM} {o0 : Nat} {μ : Me} {Q : Int32 → Me → Prop} (h : S_X11_needless o0 μ Q) : CT Ω yX11_needless cX11_needless 3 (some .int) (rmc 7 0 0) [.ref (oB Ω + o0)] μ (qI Q) := CT_of (by decide) rfl (by simp [lg_sl, Value.category]) (fun x hΩ f hq hi => by subst hΩ; exact t_X11_needless f hq h)
theorem dX11_lateness_0 : decode cX11_lateness 0 = .ok (.aload_n 0, 1) := by decide +kernel
theorem dX11_lateness_1 : decode cX11_lateness 1 = .ok (.iload_n 1, 1) := by decide +kernel
theorem dX11_lateness_2 : decode cX11_lateness 2 = .ok (.invokevirtual 335, 3) := by decide +kernel
theorem dX11_lateness_5 : decode cX11_lateness 5 = .ok (.ifCond .ne 5, 3) := by decide +kernel
theorem dX11_lateness_8 : decode cX11_lateness 8 = .ok (.iconst (-1), 1) := by decide +kernel
theorem dX11_lateness_9 : decode cX11_lateness 9 = .ok (.ireturn, 1) := by decide +kernel
theorem dX11_lateness_10 : decode cX11_lateness 10 = .ok (.aload_n 0, 1) := by decide +kernel
theorem dX11_lateness_11 : decode cX11_lateness 11 = .ok (.aload_n 0, 1) := by decide +kernel
theorem dX11_lateness_12 : decode cX11_lateness 12 = .ok (.getfield 7, 3) := by decide +kernel
theorem dX11_lateness_15 : decode cX11_lateness 15 = .ok (.bipush 7, 2) := by decide +kernel
theorem dX11_lateness_17 : decode cX11_lateness 17 = .ok (.iaload, 1) := by decide +kernel
theorem dX11_lateness_18 : decode cX11_lateness 18 = .ok (.invokevirtual 320, 3) := by decide +kernel
theorem dX11_lateness_21 : decode cX11_lateness 21 = .ok (.iload_n 1, 1) := by decide +kernel
theorem dX11_lateness_22 : decode cX11_lateness 22 = .ok (.invokestatic 246, 3) := by decide +kernel
theorem dX11_lateness_25 : decode cX11_lateness 25 = .ok (.ifCond .ne 5, 3) := by decide +kernel
theorem dX11_lateness_28 : decode cX11_lateness 28 = .ok (.iconst 0, 1) := by decide +kernel
theorem dX11_lateness_29 : decode cX11_lateness 29 = .ok (.ireturn, 1) := by decide +kernel
theorem dX11_lateness_30 : decode cX11_lateness 30 = .ok (.iconst 1, 1) := by decide +kernel
theorem dX11_lateness_31 : decode cX11_lateness 31 = .ok (.istore_n 2, 1) := by decide +kernel
theorem dX11_lateness_32 : decode cX11_lateness 32 = .ok (.iconst 0, 1) := by decide +kernel
theorem dX11_lateness_33 : decode cX11_lateness 33 = .ok (.istore_n 3, 1) := by decide +kernel
theorem dX11_lateness_34 : decode cX11_lateness 34 = .ok (.iload_n 3, 1) := by decide +kernel
theorem dX11_lateness_35 : decode cX11_lateness 35 = .ok (.aload_n 0, 1) := by decide +kernel
theorem dX11_lateness_36 : decode cX11_lateness 36 = .ok (.invokevirtual 70, 3) := by decide +kernel
theorem dX11_lateness_39 : decode cX11_lateness 39 = .ok (.if_icmp .gt 21, 3) := by decide +kernel
theorem dX11_lateness_42 : decode cX11_lateness 42 = .ok (.iload_n 2, 1) := by decide +kernel
theorem dX11_lateness_43 : decode cX11_lateness 43 = .ok (.aload_n 0, 1) := by decide +kernel
theorem dX11_lateness_44 : decode cX11_lateness 44 = .ok (.iload_n 3, 1) := by decide +kernel
theorem dX11_lateness_45 : decode cX11_lateness 45 = .ok (.invokevirtual 320, 3) := by decide +kernel
theorem dX11_lateness_48 : decode cX11_lateness 48 = .ok (.iload_n 1, 1) := by decide +kernel
theorem dX11_lateness_49 : decode cX11_lateness 49 = .ok (.invokestatic 246, 3) := by decide +kernel
theorem dX11_lateness_52 : decode cX11_lateness 52 = .ok (.iand, 1) := by decide +kernel
theorem dX11_lateness_53 : decode cX11_lateness 53 = .ok (.istore_n 2, 1) := by decide +kernel
theorem dX11_lateness_54 : decode cX11_lateness 54 = .ok (.iinc 3 1, 3) := by decide +kernel
theorem dX11_lateness_57 : decode cX11_lateness 57 = .ok (.goto (-23), 3) := by decide +kernel
theorem dX11_lateness_60 : decode cX11_lateness 60 = .ok (.iload_n 2, 1) := by decide +kernel
theorem dX11_lateness_61 : decode cX11_lateness 61 = .ok (.ifCond .eq 5, 3) := by decide +kernel
theorem dX11_lateness_64 : decode cX11_lateness 64 = .ok (.iconst 1, 1) := by decide +kernel
theorem dX11_lateness_65 : decode cX11_lateness 65 = .ok (.ireturn, 1) := by decide +kernel
theorem dX11_lateness_66 : decode cX11_lateness 66 = .ok (.aload_n 0, 1) := by decide +kernel
theorem dX11_lateness_67 : decode cX11_lateness 67 = .ok (.iload_n 1, 1) := by decide +kernel
theorem dX11_lateness_68 : decode cX11_lateness 68 = .ok (.invokevirtual 389, 3) := by decide +kernel
theorem dX11_lateness_71 : decode cX11_lateness 71 = .ok (.ifCond .eq 5, 3) := by decide +kernel
theorem dX11_lateness_74 : decode cX11_lateness 74 = .ok (.iconst 2, 1) := by decide +kernel
theorem dX11_lateness_75 : decode cX11_lateness 75 = .ok (.ireturn, 1) := by decide +kernel
theorem dX11_lateness_76 : decode cX11_lateness 76 = .ok (.aload_n 0, 1) := by decide +kernel
theorem dX11_lateness_77 : decode cX11_lateness 77 = .ok (.iload_n 1, 1) := by decide +kernel
theorem dX11_lateness_78 : decode cX11_lateness 78 = .ok (.aload_n 0, 1) := by decide +kernel
theorem dX11_lateness_79 : decode cX11_lateness 79 = .ok (.invokevirtual 368, 3) := by decide +kernel
theorem dX11_lateness_82 : decode cX11_lateness 82 = .ok (.iconst 1, 1) := by decide +kernel
theorem dX11_lateness_83 : decode cX11_lateness 83 = .ok (.iload_n 1, 1) := by decide +kernel
theorem dX11_lateness_84 : decode cX11_lateness 84 = .ok (.ishl, 1) := by decide +kernel
theorem dX11_lateness_85 : decode cX11_lateness 85 = .ok (.iand, 1) := by decide +kernel
theorem dX11_lateness_86 : decode cX11_lateness 86 = .ok (.invokevirtual 371, 3) := by decide +kernel
theorem dX11_lateness_89 : decode cX11_lateness 89 = .ok (.aload_n 0, 1) := by decide +kernel
theorem dX11_lateness_90 : decode cX11_lateness 90 = .ok (.iload_n 1, 1) := by decide +kernel
theorem dX11_lateness_91 : decode cX11_lateness 91 = .ok (.iconst 0, 1) := by decide +kernel
theorem dX11_lateness_92 : decode cX11_lateness 92 = .ok (.invokevirtual 74, 3) := by decide +kernel
theorem dX11_lateness_95 : decode cX11_lateness 95 = .ok (.if_icmp .gt 7, 3) := by decide +kernel
theorem dX11_lateness_98 : decode cX11_lateness 98 = .ok (.iconst 3, 1) := by decide +kernel
theorem dX11_lateness_99 : decode cX11_lateness 99 = .ok (.goto 4, 3) := by decide +kernel
theorem dX11_lateness_102 : decode cX11_lateness 102 = .ok (.iconst 4, 1) := by decide +kernel
theorem dX11_lateness_103 : decode cX11_lateness 103 = .ok (.ireturn, 1) := by decide +kernel
def B_X11_lateness_34 (o0 : Nat) (i1 : Int32) (i2 : Int32) (i3 : Int32) (μ : Me) (K34 : Int32 → Int32 → Me → Prop) (Q : Int32 → Me → Prop) : Prop := mok μ o0 11 ∧ S_X11_all o0 μ (fun r16 μ14 => ((r16 < i3 → ((i2 = 0 → S_X11_isNeedless o0 i1 μ14 (fun r19 μ17 => ((r19 = 0 → S_X11_runningNow o0 μ17 (fun r22 μ20 => S_X11_takesNow o0 i1 (r22 &&& (1 <<< (i1 &&& 31))) μ20 (fun r25 μ23 => S_X11_get o0 i1 0 μ23 (fun r28 μ26 => ((r28 < r25 → Q 4 μ26) ∧ (¬ r28 < r25 → Q 3 μ26)))))) ∧ (¬ r19 = 0 → Q 2 μ17)))) ∧ (¬ i2 = 0 → Q 1 μ14))) ∧ (¬ r16 < i3 → S_X11_lateBy o0 i3 μ14 (fun r31 μ29 => S_X11_has r31 i1 μ29 (fun r34 μ32 => K34 (i2 &&& r34) (i3 + 1) μ32)))))
set_option maxHeartbeats 4000000 in
set_option maxRecDepth 100000 in
theorem tB_X11_lateness_34 {x : GX} (f : Fx x cX11_lateness RX11 4 (rmc 7 0 0)) {o0 : Nat} {i1 : Int32} {i2 : Int32} {i3 : Int32} {μ : Me} {Q : Int32 → Me → Prop} (hq : Rt x (some .int) (qI Q)) {K34 : Int32 → Int32 → Me → Prop} (hK34 : ∀ (a2 : Int32) (a3 : Int32) (ν : Me), K34 a2 a3 ν → G x 4 34 [(0, .ref (gB x + o0)), (1, .int i1), (2, .int a2), (3, .int a3)] [] ν 0 0) (h : B_X11_lateness_34 o0 i1 i2 i3 μ K34 Q) : G x 4 34 [(0, .ref (gB x + o0)), (1, .int i1), (2, .int i2), (3, .int i3)] [] μ 0 0 := by
  unfold B_X11_lateness_34 at h
  refine g_iload_n f 3 dX11_lateness_34 rfl rfl ?_
  refine g_aload_n f 0 dX11_lateness_35 rfl rfl ?_
  obtain ⟨v13, h⟩ := h
  refine g_callV f mk_X11_70 v13 (c_X11_all h) dX11_lateness_36 rfl rfl (Nat.le_of_ble_eq_true rfl) (rm_ok (by decide) (by decide)) ⟨Nat.le_of_ble_eq_true rfl, Nat.le_of_ble_eq_true rfl⟩ (kI fun r16 μ14 x15 h => ?_)
  refine g_ic_gt f 60 dX11_lateness_39 rfl h (fun h => ?_) (fun h => ?_)
  · refine g_iload_n f 2 dX11_lateness_60 rfl rfl ?_
    refine g_if_eq f 66 dX11_lateness_61 rfl h (fun h => ?_) (fun h => ?_)
    · refine g_aload_n f 0 dX11_lateness_66 rfl rfl ?_
      refine g_iload_n f 1 dX11_lateness_67 rfl rfl ?_
      have v13 := mex_ok x15 v13
      refine g_callV f mk_X11_389 v13 (c_X11_isNeedless h) dX11_lateness_68 rfl rfl (Nat.le_of_ble_eq_true rfl) (rm_ok (by decide) (by decide)) ⟨Nat.le_of_ble_eq_true rfl, Nat.le_of_ble_eq_true rfl⟩ (kI fun r19 μ17 x18 h => ?_)
      refine g_if_eq f 76 dX11_lateness_71 rfl h (fun h => ?_) (fun h => ?_)
      · refine g_aload_n f 0 dX11_lateness_76 rfl rfl ?_
        refine g_iload_n f 1 dX11_lateness_77 rfl rfl ?_
        refine g_aload_n f 0 dX11_lateness_78 rfl rfl ?_
        have v13 := mex_ok x18 v13
        refine g_callV f mk_X11_368 v13 (c_X11_runningNow h) dX11_lateness_79 rfl rfl (Nat.le_of_ble_eq_true rfl) (rm_ok (by decide) (by decide)) ⟨Nat.le_of_ble_eq_true rfl, Nat.le_of_ble_eq_true rfl⟩ (kI fun r22 μ20 x21 h => ?_)
        refine g_iconst f 1 dX11_lateness_82 kc_1 ?_
        refine g_iload_n f 1 dX11_lateness_83 rfl rfl ?_
        refine g_ishl f dX11_lateness_84 ?_
        refine g_iand f dX11_lateness_85 ?_
        have v13 := mex_ok x21 v13
        refine g_callV f mk_X11_371 v13 (c_X11_takesNow h) dX11_lateness_86 rfl rfl (Nat.le_of_ble_eq_true rfl) (rm_ok (by decide) (by decide)) ⟨Nat.le_of_ble_eq_true rfl, Nat.le_of_ble_eq_true rfl⟩ (kI fun r25 μ23 x24 h => ?_)
        refine g_aload_n f 0 dX11_lateness_89 rfl rfl ?_
        refine g_iload_n f 1 dX11_lateness_90 rfl rfl ?_
        refine g_iconst f 0 dX11_lateness_91 kc_0 ?_
        have v13 := mex_ok x24 v13
        refine g_callV f mk_X11_74 v13 (c_X11_get h) dX11_lateness_92 rfl rfl (Nat.le_of_ble_eq_true rfl) (rm_ok (by decide) (by decide)) ⟨Nat.le_of_ble_eq_true rfl, Nat.le_of_ble_eq_true rfl⟩ (kI fun r28 μ26 x27 h => ?_)
        refine g_ic_gt f 102 dX11_lateness_95 rfl h (fun h => ?_) (fun h => ?_)
        · refine g_iconst f 4 dX11_lateness_102 kc_4 ?_
          exact g_iret f hq (Nat.le_of_ble_eq_true rfl) (Nat.le_of_ble_eq_true rfl) dX11_lateness_103 h
        · refine g_iconst f 3 dX11_lateness_98 kc_3 ?_
          refine g_goto f 103 dX11_lateness_99 rfl ?_
          exact g_iret f hq (Nat.le_of_ble_eq_true rfl) (Nat.le_of_ble_eq_true rfl) dX11_lateness_103 h
      · refine g_iconst f 2 dX11_lateness_74 kc_2 ?_
        exact g_iret f hq (Nat.le_of_ble_eq_true rfl) (Nat.le_of_ble_eq_true rfl) dX11_lateness_75 h
    · refine g_iconst f 1 dX11_lateness_64 kc_1 ?_
      exact g_iret f hq (Nat.le_of_ble_eq_true rfl) (Nat.le_of_ble_eq_true rfl) dX11_lateness_65 h
  · refine g_iload_n f 2 dX11_lateness_42 rfl rfl ?_
    refine g_aload_n f 0 dX11_lateness_43 rfl rfl ?_
    refine g_iload_n f 3 dX11_lateness_44 rfl rfl ?_
    have v13 := mex_ok x15 v13
    refine g_callV f mk_X11_320 v13 (c_X11_lateBy h) dX11_lateness_45 rfl rfl (Nat.le_of_ble_eq_true rfl) (rm_ok (by decide) (by decide)) ⟨Nat.le_of_ble_eq_true rfl, Nat.le_of_ble_eq_true rfl⟩ (kI fun r31 μ29 x30 h => ?_)
    refine g_iload_n f 1 dX11_lateness_48 rfl rfl ?_
    refine g_callS f mk_X11_246 (c_X11_has h) dX11_lateness_49 rfl rfl (Nat.le_of_ble_eq_true rfl) (rm_ok (by decide) (by decide)) ⟨Nat.le_of_ble_eq_true rfl, Nat.le_of_ble_eq_true rfl⟩ (kI fun r34 μ32 x33 h => ?_)
    refine g_iand f dX11_lateness_52 ?_
    refine h_istore_n f dX11_lateness_53 rfl (by decide) ?_
    refine h_iinc f 3 1 dX11_lateness_54 rfl kc_1 (by decide) ?_
    refine g_goto f 34 dX11_lateness_57 rfl ?_
    exact h_sub [2, 3, 1, 0] rfl (hK34 _ _ _ h)
def L_X11_lateness_34 (o0 : Nat) (i1 : Int32) (i2 : Int32) (i3 : Int32) (μ : Me) (Q : Int32 → Me → Prop) : Prop := ∃ I : Int32 → Int32 → Me → Nat → Prop, (∃ n, I i2 i3 μ n) ∧ ∀ (i2 : Int32) (i3 : Int32) (μ : Me) (n : Nat), I i2 i3 μ n → B_X11_lateness_34 o0 i1 i2 i3 μ (fun a2 a3 ν => ∃ n', n' < n ∧ I a2 a3 ν n') Q
set_option maxHeartbeats 4000000 in
set_option maxRecDepth 100000 in
theorem tL_X11_lateness_34 {x : GX} (f : Fx x cX11_lateness RX11 4 (rmc 7 0 0)) {o0 : Nat} {i1 : Int32} {i2 : Int32} {i3 : Int32} {μ : Me} {Q : Int32 → Me → Prop} (hq : Rt x (some .int) (qI Q)) (h : L_X11_lateness_34 o0 i1 i2 i3 μ Q) : G x 4 34 [(0, .ref (gB x + o0)), (1, .int i1), (2, .int i2), (3, .int i3)] [] μ 0 0 := by
  obtain ⟨I, ⟨n, hI⟩, hs⟩ := h
  induction n using Nat.strongRecOn generalizing i2 i3 μ with
  | ind n ih => exact tB_X11_lateness_34 f hq (fun a2 a3 ν hk => by obtain ⟨n2, hn, hI2⟩ := hk; exact ih n2 hn hI2) (hs _ _ _ _ hI)
def S_X11_lateness (o0 : Nat) (i1 : Int32) (μ : Me) (Q : Int32 → Me → Prop) : Prop := mok μ o0 11 ∧ S_X11_isPerson o0 i1 μ (fun r4 μ2 => ((¬ r4 = 0 → ∃ t5, mgr μ2 o0 0 = some t5 ∧ mok μ2 t5 12 ∧ vp_in (7 : Int32) (mln μ2 t5) ∧ S_X11_lateBy o0 (mgi μ2 t5 (7 : Int32).toNatClampNeg) μ2 (fun r9 μ7 => S_X11_has r9 i1 μ7 (fun r12 μ10 => ((¬ r12 = 0 → L_X11_lateness_34 o0 i1 1 0 μ10 Q) ∧ (r12 = 0 → Q 0 μ10))))) ∧ (r4 = 0 → Q (-1) μ2)))
set_option maxHeartbeats 4000000 in
set_option maxRecDepth 100000 in
theorem t_X11_lateness {x : GX} (f : Fx x cX11_lateness RX11 4 (rmc 7 0 0)) {o0 : Nat} {i1 : Int32} {μ : Me} {Q : Int32 → Me → Prop} (hq : Rt x (some .int) (qI Q)) (h : S_X11_lateness o0 i1 μ Q) : G x 4 0 [(0, .ref (gB x + o0)), (1, .int i1)] [] μ 0 0 := by
  unfold S_X11_lateness at h
  refine g_aload_n f 0 dX11_lateness_0 rfl rfl ?_
  refine g_iload_n f 1 dX11_lateness_1 rfl rfl ?_
  obtain ⟨v1, h⟩ := h
  refine g_callV f mk_X11_335 v1 (c_X11_isPerson h) dX11_lateness_2 rfl rfl (Nat.le_of_ble_eq_true rfl) (rm_ok (by decide) (by decide)) ⟨Nat.le_of_ble_eq_true rfl, Nat.le_of_ble_eq_true rfl⟩ (kI fun r4 μ2 x3 h => ?_)
  refine g_if_ne f 10 dX11_lateness_5 rfl h (fun h => ?_) (fun h => ?_)
  · refine g_aload_n f 0 dX11_lateness_10 rfl rfl ?_
    refine g_aload_n f 0 dX11_lateness_11 rfl rfl ?_
    have v1 := mex_ok x3 v1
    refine g_getR f fk_X11_7 v1 dX11_lateness_12 rfl h (fun t5 h => ?_)
    refine g_bipush f 7 dX11_lateness_15 kb_7 ?_
    obtain ⟨v6, h⟩ := h
    refine g_iald f v6 dX11_lateness_17 h (fun h => ?_)
    refine g_callV f mk_X11_320 v1 (c_X11_lateBy h) dX11_lateness_18 rfl rfl (Nat.le_of_ble_eq_true rfl) (rm_ok (by decide) (by decide)) ⟨Nat.le_of_ble_eq_true rfl, Nat.le_of_ble_eq_true rfl⟩ (kI fun r9 μ7 x8 h => ?_)
    refine g_iload_n f 1 dX11_lateness_21 rfl rfl ?_
    refine g_callS f mk_X11_246 (c_X11_has h) dX11_lateness_22 rfl rfl (Nat.le_of_ble_eq_true rfl) (rm_ok (by decide) (by decide)) ⟨Nat.le_of_ble_eq_true rfl, Nat.le_of_ble_eq_true rfl⟩ (kI fun r12 μ10 x11 h => ?_)
    refine g_if_ne f 30 dX11_lateness_25 rfl h (fun h => ?_) (fun h => ?_)
    · refine g_iconst f 1 dX11_lateness_30 kc_1 ?_
      refine h_istore_n f dX11_lateness_31 rfl (by decide) ?_
      refine g_iconst f 0 dX11_lateness_32 kc_0 ?_
      refine h_istore_n f dX11_lateness_33 rfl (by decide) ?_
      exact h_sub [2, 3, 1, 0] rfl (tL_X11_lateness_34 f hq h)
    · refine g_iconst f 0 dX11_lateness_28 kc_0 ?_
      exact g_iret f hq (Nat.le_of_ble_eq_true rfl) (Nat.le_of_ble_eq_true rfl) dX11_lateness_29 h
  · refine g_iconst f (-1) dX11_lateness_8 kc_m1 ?_
    exact g_iret f hq (Nat.le_of_ble_eq_true rfl) (Nat.le_of_ble_eq_true rfl) dX11_lateness_9 h
theorem c_X11_lateness {Ω : OM} {o0 : Nat} {i1 : Int32} {μ : Me} {Q : Int32 → Me → Prop} (h : S_X11_lateness o0 i1 μ Q) : CT Ω yX11_lateness cX11_lateness 4 (some .int) (rmc 7 0 0) [.ref (oB Ω + o0), .int i1] μ (qI Q) := CT_of (by decide) rfl (by simp [lg_sl, Value.category]) (fun x hΩ f hq hi => by subst hΩ; exact t_X11_lateness f hq h)
theorem dX11_chosen_0 : decode cX11_chosen 0 = .ok (.iload_n 0, 1) := by decide +kernel
theorem dX11_chosen_1 : decode cX11_chosen 1 = .ok (.iconst 2, 1) := by decide +kernel
theorem dX11_chosen_2 : decode cX11_chosen 2 = .ok (.irem, 1) := by decide +kernel
theorem dX11_chosen_3 : decode cX11_chosen 3 = .ok (.ifCond .ne 7, 3) := by decide +kernel
theorem dX11_chosen_6 : decode cX11_chosen 6 = .ok (.iconst 1, 1) := by decide +kernel
theorem dX11_chosen_7 : decode cX11_chosen 7 = .ok (.goto 4, 3) := by decide +kernel
theorem dX11_chosen_10 : decode cX11_chosen 10 = .ok (.iconst 0, 1) := by decide +kernel
theorem dX11_chosen_11 : decode cX11_chosen 11 = .ok (.iload_n 2, 1) := by decide +kernel
theorem dX11_chosen_12 : decode cX11_chosen 12 = .ok (.iload_n 1, 1) := by decide +kernel
theorem dX11_chosen_13 : decode cX11_chosen 13 = .ok (.if_icmp .le 7, 3) := by decide +kernel
theorem dX11_chosen_16 : decode cX11_chosen 16 = .ok (.iconst 1, 1) := by decide +kernel
theorem dX11_chosen_17 : decode cX11_chosen 17 = .ok (.goto 4, 3) := by decide +kernel
theorem dX11_chosen_20 : decode cX11_chosen 20 = .ok (.iconst 0, 1) := by decide +kernel
theorem dX11_chosen_21 : decode cX11_chosen 21 = .ok (.if_icmp .ne 7, 3) := by decide +kernel
theorem dX11_chosen_24 : decode cX11_chosen 24 = .ok (.iload_n 2, 1) := by decide +kernel
theorem dX11_chosen_25 : decode cX11_chosen 25 = .ok (.goto 4, 3) := by decide +kernel
theorem dX11_chosen_28 : decode cX11_chosen 28 = .ok (.iload_n 1, 1) := by decide +kernel
theorem dX11_chosen_29 : decode cX11_chosen 29 = .ok (.ireturn, 1) := by decide +kernel
def B_X11_chosen_21 (i1 : Int32) (i2 : Int32) (s0 : Int32) (s1 : Int32) (μ : Me) (Q : Int32 → Me → Prop) : Prop := ((¬ s1 = s0 → Q i1 μ) ∧ (s1 = s0 → Q i2 μ))
set_option maxHeartbeats 4000000 in
set_option maxRecDepth 100000 in
theorem tB_X11_chosen_21 {x : GX} (f : Fx x cX11_chosen RX11 3 (rmc 0 0 0)) {i1 : Int32} {i2 : Int32} {s0 : Int32} {s1 : Int32} {μ : Me} {Q : Int32 → Me → Prop} (hq : Rt x (some .int) (qI Q)) (h : B_X11_chosen_21 i1 i2 s0 s1 μ Q) : G x 3 21 [(1, .int i1), (2, .int i2)] [.int s0, .int s1] μ 0 0 := by
  unfold B_X11_chosen_21 at h
  refine g_ic_ne f 28 dX11_chosen_21 rfl h (fun h => ?_) (fun h => ?_)
  · refine g_iload_n f 0 dX11_chosen_28 rfl rfl ?_
    exact g_iret f hq (Nat.le_of_ble_eq_true rfl) (Nat.le_of_ble_eq_true rfl) dX11_chosen_29 h
  · refine g_iload_n f 1 dX11_chosen_24 rfl rfl ?_
    refine g_goto f 29 dX11_chosen_25 rfl ?_
    exact g_iret f hq (Nat.le_of_ble_eq_true rfl) (Nat.le_of_ble_eq_true rfl) dX11_chosen_29 h
def B_X11_chosen_11 (i1 : Int32) (i2 : Int32) (s0 : Int32) (μ : Me) (Q : Int32 → Me → Prop) : Prop := ((i2 ≤ i1 → B_X11_chosen_21 i1 i2 0 s0 μ Q) ∧ (¬ i2 ≤ i1 → B_X11_chosen_21 i1 i2 1 s0 μ Q))
set_option maxHeartbeats 4000000 in
set_option maxRecDepth 100000 in
theorem tB_X11_chosen_11 {x : GX} (f : Fx x cX11_chosen RX11 3 (rmc 0 0 0)) {i1 : Int32} {i2 : Int32} {s0 : Int32} {μ : Me} {Q : Int32 → Me → Prop} (hq : Rt x (some .int) (qI Q)) (h : B_X11_chosen_11 i1 i2 s0 μ Q) : G x 3 11 [(1, .int i1), (2, .int i2)] [.int s0] μ 0 0 := by
  unfold B_X11_chosen_11 at h
  refine g_iload_n f 1 dX11_chosen_11 rfl rfl ?_
  refine g_iload_n f 0 dX11_chosen_12 rfl rfl ?_
  refine g_ic_le f 20 dX11_chosen_13 rfl h (fun h => ?_) (fun h => ?_)
  · refine g_iconst f 0 dX11_chosen_20 kc_0 ?_
    exact h_sub [0, 1] rfl (tB_X11_chosen_21 f hq h)
  · refine g_iconst f 1 dX11_chosen_16 kc_1 ?_
    refine g_goto f 21 dX11_chosen_17 rfl ?_
    exact h_sub [0, 1] rfl (tB_X11_chosen_21 f hq h)
def S_X11_chosen (i0 : Int32) (i1 : Int32) (i2 : Int32) (μ : Me) (Q : Int32 → Me → Prop) : Prop := ((¬ (i0 - i0 / 2 * 2) = 0 → B_X11_chosen_11 i1 i2 0 μ Q) ∧ ((i0 - i0 / 2 * 2) = 0 → B_X11_chosen_11 i1 i2 1 μ Q))
set_option maxHeartbeats 4000000 in
set_option maxRecDepth 100000 in
theorem t_X11_chosen {x : GX} (f : Fx x cX11_chosen RX11 3 (rmc 0 0 0)) {i0 : Int32} {i1 : Int32} {i2 : Int32} {μ : Me} {Q : Int32 → Me → Prop} (hq : Rt x (some .int) (qI Q)) (h : S_X11_chosen i0 i1 i2 μ Q) : G x 3 0 [(0, .int i0), (1, .int i1), (2, .int i2)] [] μ 0 0 := by
  unfold S_X11_chosen at h
  refine g_iload_n f 0 dX11_chosen_0 rfl rfl ?_
  refine g_iconst f 2 dX11_chosen_1 kc_2 ?_
  refine g_irem f dX11_chosen_2 (by decide) ?_
  refine g_if_ne f 10 dX11_chosen_3 rfl h (fun h => ?_) (fun h => ?_)
  · refine g_iconst f 0 dX11_chosen_10 kc_0 ?_
    exact h_sub [1, 2] rfl (tB_X11_chosen_11 f hq h)
  · refine g_iconst f 1 dX11_chosen_6 kc_1 ?_
    refine g_goto f 11 dX11_chosen_7 rfl ?_
    exact h_sub [1, 2] rfl (tB_X11_chosen_11 f hq h)
theorem c_X11_chosen {Ω : OM} {i0 : Int32} {i1 : Int32} {i2 : Int32} {μ : Me} {Q : Int32 → Me → Prop} (h : S_X11_chosen i0 i1 i2 μ Q) : CT Ω yX11_chosen cX11_chosen 3 (some .int) (rmc 0 0 0) [.int i0, .int i1, .int i2] μ (qI Q) := CT_of (by decide) rfl (by simp [lg_sl, Value.category]) (fun x hΩ f hq hi => by subst hΩ; exact t_X11_chosen f hq h)
theorem dX11_race_0 : decode cX11_race 0 = .ok (.iload_n 1, 1) := by decide +kernel
theorem dX11_race_1 : decode cX11_race 1 = .ok (.iconst 1, 1) := by decide +kernel
theorem dX11_race_2 : decode cX11_race 2 = .ok (.aload_n 0, 1) := by decide +kernel
theorem dX11_race_3 : decode cX11_race 3 = .ok (.getfield 7, 3) := by decide +kernel
theorem dX11_race_6 : decode cX11_race 6 = .ok (.iconst 0, 1) := by decide +kernel
theorem dX11_race_7 : decode cX11_race 7 = .ok (.iaload, 1) := by decide +kernel
theorem dX11_race_8 : decode cX11_race 8 = .ok (.invokestatic 66, 3) := by decide +kernel
theorem dX11_race_11 : decode cX11_race 11 = .ok (.ifCond .ne 5, 3) := by decide +kernel
theorem dX11_race_14 : decode cX11_race 14 = .ok (.iconst (-1), 1) := by decide +kernel
theorem dX11_race_15 : decode cX11_race 15 = .ok (.ireturn, 1) := by decide +kernel
theorem dX11_race_16 : decode cX11_race 16 = .ok (.iconst 0, 1) := by decide +kernel
theorem dX11_race_17 : decode cX11_race 17 = .ok (.istore_n 3, 1) := by decide +kernel
theorem dX11_race_18 : decode cX11_race 18 = .ok (.iload_n 3, 1) := by decide +kernel
theorem dX11_race_19 : decode cX11_race 19 = .ok (.iconst 1, 1) := by decide +kernel
theorem dX11_race_20 : decode cX11_race 20 = .ok (.iload_n 1, 1) := by decide +kernel
theorem dX11_race_21 : decode cX11_race 21 = .ok (.ishl, 1) := by decide +kernel
theorem dX11_race_22 : decode cX11_race 22 = .ok (.if_icmp .ge 23, 3) := by decide +kernel
theorem dX11_race_25 : decode cX11_race 25 = .ok (.aload_n 0, 1) := by decide +kernel
theorem dX11_race_26 : decode cX11_race 26 = .ok (.getfield 53, 3) := by decide +kernel
theorem dX11_race_29 : decode cX11_race 29 = .ok (.iload_n 3, 1) := by decide +kernel
theorem dX11_race_30 : decode cX11_race 30 = .ok (.aload_n 0, 1) := by decide +kernel
theorem dX11_race_31 : decode cX11_race 31 = .ok (.iload_n 3, 1) := by decide +kernel
theorem dX11_race_32 : decode cX11_race 32 = .ok (.invokevirtual 320, 3) := by decide +kernel
theorem dX11_race_35 : decode cX11_race 35 = .ok (.invokestatic 298, 3) := by decide +kernel
theorem dX11_race_38 : decode cX11_race 38 = .ok (.iastore, 1) := by decide +kernel
theorem dX11_race_39 : decode cX11_race 39 = .ok (.iinc 3 1, 3) := by decide +kernel
theorem dX11_race_42 : decode cX11_race 42 = .ok (.goto (-24), 3) := by decide +kernel
theorem dX11_race_45 : decode cX11_race 45 = .ok (.iload_n 1, 1) := by decide +kernel
theorem dX11_race_46 : decode cX11_race 46 = .ok (.iconst 1, 1) := by decide +kernel
theorem dX11_race_47 : decode cX11_race 47 = .ok (.isub, 1) := by decide +kernel
theorem dX11_race_48 : decode cX11_race 48 = .ok (.istore_n 3, 1) := by decide +kernel
theorem dX11_race_49 : decode cX11_race 49 = .ok (.iload_n 3, 1) := by decide +kernel
theorem dX11_race_50 : decode cX11_race 50 = .ok (.ifCond .le 55, 3) := by decide +kernel
theorem dX11_race_53 : decode cX11_race 53 = .ok (.iconst 0, 1) := by decide +kernel
theorem dX11_race_54 : decode cX11_race 54 = .ok (.istore 4, 2) := by decide +kernel
theorem dX11_race_56 : decode cX11_race 56 = .ok (.iload 4, 2) := by decide +kernel
theorem dX11_race_58 : decode cX11_race 58 = .ok (.iconst 1, 1) := by decide +kernel
theorem dX11_race_59 : decode cX11_race 59 = .ok (.iload_n 3, 1) := by decide +kernel
theorem dX11_race_60 : decode cX11_race 60 = .ok (.ishl, 1) := by decide +kernel
theorem dX11_race_61 : decode cX11_race 61 = .ok (.if_icmp .ge 38, 3) := by decide +kernel
theorem dX11_race_64 : decode cX11_race 64 = .ok (.aload_n 0, 1) := by decide +kernel
theorem dX11_race_65 : decode cX11_race 65 = .ok (.getfield 53, 3) := by decide +kernel
theorem dX11_race_68 : decode cX11_race 68 = .ok (.iload 4, 2) := by decide +kernel
theorem dX11_race_70 : decode cX11_race 70 = .ok (.iload_n 3, 1) := by decide +kernel
theorem dX11_race_71 : decode cX11_race 71 = .ok (.aload_n 0, 1) := by decide +kernel
theorem dX11_race_72 : decode cX11_race 72 = .ok (.getfield 53, 3) := by decide +kernel
theorem dX11_race_75 : decode cX11_race 75 = .ok (.iload 4, 2) := by decide +kernel
theorem dX11_race_77 : decode cX11_race 77 = .ok (.iaload, 1) := by decide +kernel
theorem dX11_race_78 : decode cX11_race 78 = .ok (.aload_n 0, 1) := by decide +kernel
theorem dX11_race_79 : decode cX11_race 79 = .ok (.getfield 53, 3) := by decide +kernel
theorem dX11_race_82 : decode cX11_race 82 = .ok (.iload 4, 2) := by decide +kernel
theorem dX11_race_84 : decode cX11_race 84 = .ok (.iconst 1, 1) := by decide +kernel
theorem dX11_race_85 : decode cX11_race 85 = .ok (.iload_n 3, 1) := by decide +kernel
theorem dX11_race_86 : decode cX11_race 86 = .ok (.ishl, 1) := by decide +kernel
theorem dX11_race_87 : decode cX11_race 87 = .ok (.ior, 1) := by decide +kernel
theorem dX11_race_88 : decode cX11_race 88 = .ok (.iaload, 1) := by decide +kernel
theorem dX11_race_89 : decode cX11_race 89 = .ok (.invokestatic 392, 3) := by decide +kernel
theorem dX11_race_92 : decode cX11_race 92 = .ok (.iastore, 1) := by decide +kernel
theorem dX11_race_93 : decode cX11_race 93 = .ok (.iinc 4 1, 3) := by decide +kernel
theorem dX11_race_96 : decode cX11_race 96 = .ok (.goto (-40), 3) := by decide +kernel
theorem dX11_race_99 : decode cX11_race 99 = .ok (.iinc 3 (-1), 3) := by decide +kernel
theorem dX11_race_102 : decode cX11_race 102 = .ok (.goto (-53), 3) := by decide +kernel
theorem dX11_race_105 : decode cX11_race 105 = .ok (.iload_n 2, 1) := by decide +kernel
theorem dX11_race_106 : decode cX11_race 106 = .ok (.ifCond .eq 26, 3) := by decide +kernel
theorem dX11_race_109 : decode cX11_race 109 = .ok (.aload_n 0, 1) := by decide +kernel
theorem dX11_race_110 : decode cX11_race 110 = .ok (.getfield 53, 3) := by decide +kernel
theorem dX11_race_113 : decode cX11_race 113 = .ok (.iconst 1, 1) := by decide +kernel
theorem dX11_race_114 : decode cX11_race 114 = .ok (.iaload, 1) := by decide +kernel
theorem dX11_race_115 : decode cX11_race 115 = .ok (.aload_n 0, 1) := by decide +kernel
theorem dX11_race_116 : decode cX11_race 116 = .ok (.getfield 53, 3) := by decide +kernel
theorem dX11_race_119 : decode cX11_race 119 = .ok (.iconst 0, 1) := by decide +kernel
theorem dX11_race_120 : decode cX11_race 120 = .ok (.iaload, 1) := by decide +kernel
theorem dX11_race_121 : decode cX11_race 121 = .ok (.if_icmp .le 7, 3) := by decide +kernel
theorem dX11_race_124 : decode cX11_race 124 = .ok (.iconst 1, 1) := by decide +kernel
theorem dX11_race_125 : decode cX11_race 125 = .ok (.goto 23, 3) := by decide +kernel
theorem dX11_race_128 : decode cX11_race 128 = .ok (.iconst 0, 1) := by decide +kernel
theorem dX11_race_129 : decode cX11_race 129 = .ok (.goto 19, 3) := by decide +kernel
theorem dX11_race_132 : decode cX11_race 132 = .ok (.iconst 0, 1) := by decide +kernel
theorem dX11_race_133 : decode cX11_race 133 = .ok (.aload_n 0, 1) := by decide +kernel
theorem dX11_race_134 : decode cX11_race 134 = .ok (.getfield 53, 3) := by decide +kernel
theorem dX11_race_137 : decode cX11_race 137 = .ok (.iconst 0, 1) := by decide +kernel
theorem dX11_race_138 : decode cX11_race 138 = .ok (.iaload, 1) := by decide +kernel
theorem dX11_race_139 : decode cX11_race 139 = .ok (.aload_n 0, 1) := by decide +kernel
theorem dX11_race_140 : decode cX11_race 140 = .ok (.getfield 53, 3) := by decide +kernel
theorem dX11_race_143 : decode cX11_race 143 = .ok (.iconst 1, 1) := by decide +kernel
theorem dX11_race_144 : decode cX11_race 144 = .ok (.iaload, 1) := by decide +kernel
theorem dX11_race_145 : decode cX11_race 145 = .ok (.invokestatic 392, 3) := by decide +kernel
theorem dX11_race_148 : decode cX11_race 148 = .ok (.ireturn, 1) := by decide +kernel
def B_X11_race_56 (o0 : Nat) (i2 : Int32) (i3 : Int32) (i4 : Int32) (μ : Me) (K49 : Int32 → Me → Prop) (K56 : Int32 → Me → Prop) (Q : Int32 → Me → Prop) : Prop := (((1 <<< (i3 &&& 31)) ≤ i4 → K49 (i3 + (-1)) μ) ∧ (¬ (1 <<< (i3 &&& 31)) ≤ i4 → mok μ o0 11 ∧ ∃ t21, mgr μ o0 28 = some t21 ∧ ∃ t22, mgr μ o0 28 = some t22 ∧ mok μ t22 12 ∧ vp_in i4 (mln μ t22) ∧ ∃ t24, mgr μ o0 28 = some t24 ∧ mok μ t24 12 ∧ vp_in (i4 ||| (1 <<< (i3 &&& 31))) (mln μ t24) ∧ S_X11_chosen i3 (mgi μ t22 i4.toNatClampNeg) (mgi μ t24 (i4 ||| (1 <<< (i3 &&& 31))).toNatClampNeg) μ (fun r28 μ26 => mok μ26 t21 12 ∧ vp_in i4 (mln μ26 t21) ∧ ∀ μ30, μ30 = msi μ26 t21 i4.toNatClampNeg r28 → K56 (i4 + 1) μ30)))
set_option maxHeartbeats 4000000 in
set_option maxRecDepth 100000 in
theorem tB_X11_race_56 {x : GX} (f : Fx x cX11_race RX11 5 (rmc 6 0 0)) {o0 : Nat} {i2 : Int32} {i3 : Int32} {i4 : Int32} {μ : Me} {Q : Int32 → Me → Prop} (hq : Rt x (some .int) (qI Q)) {K49 : Int32 → Me → Prop} {K56 : Int32 → Me → Prop} (hK49 : ∀ (a3 : Int32) (ν : Me), K49 a3 ν → G x 5 49 [(0, .ref (gB x + o0)), (2, .int i2), (3, .int a3)] [] ν 0 0) (hK56 : ∀ (a4 : Int32) (ν : Me), K56 a4 ν → G x 5 56 [(0, .ref (gB x + o0)), (2, .int i2), (3, .int i3), (4, .int a4)] [] ν 0 0) (h : B_X11_race_56 o0 i2 i3 i4 μ K49 K56 Q) : G x 5 56 [(0, .ref (gB x + o0)), (2, .int i2), (3, .int i3), (4, .int i4)] [] μ 0 0 := by
  unfold B_X11_race_56 at h
  refine g_iload f 3 dX11_race_56 rfl ?_
  refine g_iconst f 1 dX11_race_58 kc_1 ?_
  refine g_iload_n f 2 dX11_race_59 rfl rfl ?_
  refine g_ishl f dX11_race_60 ?_
  refine g_ic_ge f 99 dX11_race_61 rfl h (fun h => ?_) (fun h => ?_)
  · refine h_iinc f 2 (-1) dX11_race_99 rfl kc_m1 (by decide) ?_
    refine g_goto f 49 dX11_race_102 rfl ?_
    exact h_sub [1, 2, 0] rfl (hK49 _ _ h)
  · refine g_aload_n f 0 dX11_race_64 rfl rfl ?_
    obtain ⟨v20, h⟩ := h
    refine g_getR f fk_X11_53 v20 dX11_race_65 rfl h (fun t21 h => ?_)
    refine g_iload f 3 dX11_race_68 rfl ?_
    refine g_iload_n f 2 dX11_race_70 rfl rfl ?_
    refine g_aload_n f 0 dX11_race_71 rfl rfl ?_
    refine g_getR f fk_X11_53 v20 dX11_race_72 rfl h (fun t22 h => ?_)
    refine g_iload f 3 dX11_race_75 rfl ?_
    obtain ⟨v23, h⟩ := h
    refine g_iald f v23 dX11_race_77 h (fun h => ?_)
    refine g_aload_n f 0 dX11_race_78 rfl rfl ?_
    refine g_getR f fk_X11_53 v20 dX11_race_79 rfl h (fun t24 h => ?_)
    refine g_iload f 3 dX11_race_82 rfl ?_
    refine g_iconst f 1 dX11_race_84 kc_1 ?_
    refine g_iload_n f 2 dX11_race_85 rfl rfl ?_
    refine g_ishl f dX11_race_86 ?_
    refine g_ior f dX11_race_87 ?_
    obtain ⟨v25, h⟩ := h
    refine g_iald f v25 dX11_race_88 h (fun h => ?_)
    refine g_callS f mk_X11_392 (c_X11_chosen h) dX11_race_89 rfl rfl (Nat.le_of_ble_eq_true rfl) (rm_ok (by decide) (by decide)) ⟨Nat.le_of_ble_eq_true rfl, Nat.le_of_ble_eq_true rfl⟩ (kI fun r28 μ26 x27 h => ?_)
    obtain ⟨v29, h⟩ := h
    refine g_iast f v29 dX11_race_92 h (fun h => ?_)
    refine h_iinc f 3 1 dX11_race_93 rfl kc_1 (by decide) ?_
    refine g_goto f 56 dX11_race_96 rfl ?_
    exact h_sub [1, 2, 3, 0] rfl (hK56 _ _ h)
def L_X11_race_56 (o0 : Nat) (i2 : Int32) (i3 : Int32) (i4 : Int32) (μ : Me) (K49 : Int32 → Me → Prop) (Q : Int32 → Me → Prop) : Prop := ∃ I : Int32 → Me → Nat → Prop, (∃ n, I i4 μ n) ∧ ∀ (i4 : Int32) (μ : Me) (n : Nat), I i4 μ n → B_X11_race_56 o0 i2 i3 i4 μ K49 (fun a4 ν => ∃ n', n' < n ∧ I a4 ν n') Q
set_option maxHeartbeats 4000000 in
set_option maxRecDepth 100000 in
theorem tL_X11_race_56 {x : GX} (f : Fx x cX11_race RX11 5 (rmc 6 0 0)) {o0 : Nat} {i2 : Int32} {i3 : Int32} {i4 : Int32} {μ : Me} {Q : Int32 → Me → Prop} (hq : Rt x (some .int) (qI Q)) {K49 : Int32 → Me → Prop} (hK49 : ∀ (a3 : Int32) (ν : Me), K49 a3 ν → G x 5 49 [(0, .ref (gB x + o0)), (2, .int i2), (3, .int a3)] [] ν 0 0) (h : L_X11_race_56 o0 i2 i3 i4 μ K49 Q) : G x 5 56 [(0, .ref (gB x + o0)), (2, .int i2), (3, .int i3), (4, .int i4)] [] μ 0 0 := by
  obtain ⟨I, ⟨n, hI⟩, hs⟩ := h
  induction n using Nat.strongRecOn generalizing i4 μ with
  | ind n ih => exact tB_X11_race_56 f hq hK49 (fun a4 ν hk => by obtain ⟨n2, hn, hI2⟩ := hk; exact ih n2 hn hI2) (hs _ _ _ hI)
def B_X11_race_49 (o0 : Nat) (i2 : Int32) (i3 : Int32) (μ : Me) (K49 : Int32 → Me → Prop) (Q : Int32 → Me → Prop) : Prop := ((i3 ≤ 0 → ((i2 = 0 → mok μ o0 11 ∧ ∃ t8, mgr μ o0 28 = some t8 ∧ mok μ t8 12 ∧ vp_in (0 : Int32) (mln μ t8) ∧ ∃ t10, mgr μ o0 28 = some t10 ∧ mok μ t10 12 ∧ vp_in (1 : Int32) (mln μ t10) ∧ S_X11_chosen 0 (mgi μ t8 (0 : Int32).toNatClampNeg) (mgi μ t10 (1 : Int32).toNatClampNeg) μ (fun r14 μ12 => Q r14 μ12)) ∧ (¬ i2 = 0 → mok μ o0 11 ∧ ∃ t16, mgr μ o0 28 = some t16 ∧ mok μ t16 12 ∧ vp_in (1 : Int32) (mln μ t16) ∧ ∃ t18, mgr μ o0 28 = some t18 ∧ mok μ t18 12 ∧ vp_in (0 : Int32) (mln μ t18) ∧ (((mgi μ t16 (1 : Int32).toNatClampNeg) ≤ (mgi μ t18 (0 : Int32).toNatClampNeg) → Q 0 μ) ∧ (¬ (mgi μ t16 (1 : Int32).toNatClampNeg) ≤ (mgi μ t18 (0 : Int32).toNatClampNeg) → Q 1 μ))))) ∧ (¬ i3 ≤ 0 → L_X11_race_56 o0 i2 i3 0 μ K49 Q))
set_option maxHeartbeats 4000000 in
set_option maxRecDepth 100000 in
theorem tB_X11_race_49 {x : GX} (f : Fx x cX11_race RX11 5 (rmc 6 0 0)) {o0 : Nat} {i2 : Int32} {i3 : Int32} {μ : Me} {Q : Int32 → Me → Prop} (hq : Rt x (some .int) (qI Q)) {K49 : Int32 → Me → Prop} (hK49 : ∀ (a3 : Int32) (ν : Me), K49 a3 ν → G x 5 49 [(0, .ref (gB x + o0)), (2, .int i2), (3, .int a3)] [] ν 0 0) (h : B_X11_race_49 o0 i2 i3 μ K49 Q) : G x 5 49 [(0, .ref (gB x + o0)), (2, .int i2), (3, .int i3)] [] μ 0 0 := by
  unfold B_X11_race_49 at h
  refine g_iload_n f 2 dX11_race_49 rfl rfl ?_
  refine g_if_le f 105 dX11_race_50 rfl h (fun h => ?_) (fun h => ?_)
  · refine g_iload_n f 1 dX11_race_105 rfl rfl ?_
    refine g_if_eq f 132 dX11_race_106 rfl h (fun h => ?_) (fun h => ?_)
    · refine g_iconst f 0 dX11_race_132 kc_0 ?_
      refine g_aload_n f 0 dX11_race_133 rfl rfl ?_
      obtain ⟨v7, h⟩ := h
      refine g_getR f fk_X11_53 v7 dX11_race_134 rfl h (fun t8 h => ?_)
      refine g_iconst f 0 dX11_race_137 kc_0 ?_
      obtain ⟨v9, h⟩ := h
      refine g_iald f v9 dX11_race_138 h (fun h => ?_)
      refine g_aload_n f 0 dX11_race_139 rfl rfl ?_
      refine g_getR f fk_X11_53 v7 dX11_race_140 rfl h (fun t10 h => ?_)
      refine g_iconst f 1 dX11_race_143 kc_1 ?_
      obtain ⟨v11, h⟩ := h
      refine g_iald f v11 dX11_race_144 h (fun h => ?_)
      refine g_callS f mk_X11_392 (c_X11_chosen h) dX11_race_145 rfl rfl (Nat.le_of_ble_eq_true rfl) (rm_ok (by decide) (by decide)) ⟨Nat.le_of_ble_eq_true rfl, Nat.le_of_ble_eq_true rfl⟩ (kI fun r14 μ12 x13 h => ?_)
      exact g_iret f hq (Nat.le_of_ble_eq_true rfl) (Nat.le_of_ble_eq_true rfl) dX11_race_148 h
    · refine g_aload_n f 0 dX11_race_109 rfl rfl ?_
      obtain ⟨v15, h⟩ := h
      refine g_getR f fk_X11_53 v15 dX11_race_110 rfl h (fun t16 h => ?_)
      refine g_iconst f 1 dX11_race_113 kc_1 ?_
      obtain ⟨v17, h⟩ := h
      refine g_iald f v17 dX11_race_114 h (fun h => ?_)
      refine g_aload_n f 0 dX11_race_115 rfl rfl ?_
      refine g_getR f fk_X11_53 v15 dX11_race_116 rfl h (fun t18 h => ?_)
      refine g_iconst f 0 dX11_race_119 kc_0 ?_
      obtain ⟨v19, h⟩ := h
      refine g_iald f v19 dX11_race_120 h (fun h => ?_)
      refine g_ic_le f 128 dX11_race_121 rfl h (fun h => ?_) (fun h => ?_)
      · refine g_iconst f 0 dX11_race_128 kc_0 ?_
        refine g_goto f 148 dX11_race_129 rfl ?_
        exact g_iret f hq (Nat.le_of_ble_eq_true rfl) (Nat.le_of_ble_eq_true rfl) dX11_race_148 h
      · refine g_iconst f 1 dX11_race_124 kc_1 ?_
        refine g_goto f 148 dX11_race_125 rfl ?_
        exact g_iret f hq (Nat.le_of_ble_eq_true rfl) (Nat.le_of_ble_eq_true rfl) dX11_race_148 h
  · refine g_iconst f 0 dX11_race_53 kc_0 ?_
    refine h_istore f dX11_race_54 (by decide) ?_
    exact h_sub [1, 2, 3, 0] rfl (tL_X11_race_56 f hq hK49 h)
def L_X11_race_49 (o0 : Nat) (i2 : Int32) (i3 : Int32) (μ : Me) (Q : Int32 → Me → Prop) : Prop := ∃ I : Int32 → Me → Nat → Prop, (∃ n, I i3 μ n) ∧ ∀ (i3 : Int32) (μ : Me) (n : Nat), I i3 μ n → B_X11_race_49 o0 i2 i3 μ (fun a3 ν => ∃ n', n' < n ∧ I a3 ν n') Q
set_option maxHeartbeats 4000000 in
set_option maxRecDepth 100000 in
theorem tL_X11_race_49 {x : GX} (f : Fx x cX11_race RX11 5 (rmc 6 0 0)) {o0 : Nat} {i2 : Int32} {i3 : Int32} {μ : Me} {Q : Int32 → Me → Prop} (hq : Rt x (some .int) (qI Q)) (h : L_X11_race_49 o0 i2 i3 μ Q) : G x 5 49 [(0, .ref (gB x + o0)), (2, .int i2), (3, .int i3)] [] μ 0 0 := by
  obtain ⟨I, ⟨n, hI⟩, hs⟩ := h
  induction n using Nat.strongRecOn generalizing i3 μ with
  | ind n ih => exact tB_X11_race_49 f hq (fun a3 ν hk => by obtain ⟨n2, hn, hI2⟩ := hk; exact ih n2 hn hI2) (hs _ _ _ hI)
def B_X11_race_18 (o0 : Nat) (i1 : Int32) (i2 : Int32) (i3 : Int32) (μ : Me) (K18 : Int32 → Me → Prop) (Q : Int32 → Me → Prop) : Prop := (((1 <<< (i1 &&& 31)) ≤ i3 → L_X11_race_49 o0 i2 (i1 - 1) μ Q) ∧ (¬ (1 <<< (i1 &&& 31)) ≤ i3 → mok μ o0 11 ∧ ∃ t32, mgr μ o0 28 = some t32 ∧ S_X11_lateBy o0 i3 μ (fun r35 μ33 => S_X11_bits r35 μ33 (fun r38 μ36 => mok μ36 t32 12 ∧ vp_in i3 (mln μ36 t32) ∧ ∀ μ40, μ40 = msi μ36 t32 i3.toNatClampNeg r38 → K18 (i3 + 1) μ40))))
set_option maxHeartbeats 4000000 in
set_option maxRecDepth 100000 in
theorem tB_X11_race_18 {x : GX} (f : Fx x cX11_race RX11 5 (rmc 6 0 0)) {o0 : Nat} {i1 : Int32} {i2 : Int32} {i3 : Int32} {μ : Me} {Q : Int32 → Me → Prop} (hq : Rt x (some .int) (qI Q)) {K18 : Int32 → Me → Prop} (hK18 : ∀ (a3 : Int32) (ν : Me), K18 a3 ν → G x 5 18 [(0, .ref (gB x + o0)), (1, .int i1), (2, .int i2), (3, .int a3)] [] ν 0 0) (h : B_X11_race_18 o0 i1 i2 i3 μ K18 Q) : G x 5 18 [(0, .ref (gB x + o0)), (1, .int i1), (2, .int i2), (3, .int i3)] [] μ 0 0 := by
  unfold B_X11_race_18 at h
  refine g_iload_n f 3 dX11_race_18 rfl rfl ?_
  refine g_iconst f 1 dX11_race_19 kc_1 ?_
  refine g_iload_n f 1 dX11_race_20 rfl rfl ?_
  refine g_ishl f dX11_race_21 ?_
  refine g_ic_ge f 45 dX11_race_22 rfl h (fun h => ?_) (fun h => ?_)
  · refine g_iload_n f 1 dX11_race_45 rfl rfl ?_
    refine g_iconst f 1 dX11_race_46 kc_1 ?_
    refine g_isub f dX11_race_47 ?_
    refine h_istore_n f dX11_race_48 rfl (by decide) ?_
    exact h_sub [1, 3, 0] rfl (tL_X11_race_49 f hq h)
  · refine g_aload_n f 0 dX11_race_25 rfl rfl ?_
    obtain ⟨v31, h⟩ := h
    refine g_getR f fk_X11_53 v31 dX11_race_26 rfl h (fun t32 h => ?_)
    refine g_iload_n f 3 dX11_race_29 rfl rfl ?_
    refine g_aload_n f 0 dX11_race_30 rfl rfl ?_
    refine g_iload_n f 3 dX11_race_31 rfl rfl ?_
    refine g_callV f mk_X11_320 v31 (c_X11_lateBy h) dX11_race_32 rfl rfl (Nat.le_of_ble_eq_true rfl) (rm_ok (by decide) (by decide)) ⟨Nat.le_of_ble_eq_true rfl, Nat.le_of_ble_eq_true rfl⟩ (kI fun r35 μ33 x34 h => ?_)
    refine g_callS f mk_X11_298 (c_X11_bits h) dX11_race_35 rfl rfl (Nat.le_of_ble_eq_true rfl) (rm_ok (by decide) (by decide)) ⟨Nat.le_of_ble_eq_true rfl, Nat.le_of_ble_eq_true rfl⟩ (kI fun r38 μ36 x37 h => ?_)
    obtain ⟨v39, h⟩ := h
    refine g_iast f v39 dX11_race_38 h (fun h => ?_)
    refine h_iinc f 3 1 dX11_race_39 rfl kc_1 (by decide) ?_
    refine g_goto f 18 dX11_race_42 rfl ?_
    exact h_sub [1, 2, 3, 0] rfl (hK18 _ _ h)
def L_X11_race_18 (o0 : Nat) (i1 : Int32) (i2 : Int32) (i3 : Int32) (μ : Me) (Q : Int32 → Me → Prop) : Prop := ∃ I : Int32 → Me → Nat → Prop, (∃ n, I i3 μ n) ∧ ∀ (i3 : Int32) (μ : Me) (n : Nat), I i3 μ n → B_X11_race_18 o0 i1 i2 i3 μ (fun a3 ν => ∃ n', n' < n ∧ I a3 ν n') Q
set_option maxHeartbeats 4000000 in
set_option maxRecDepth 100000 in
theorem tL_X11_race_18 {x : GX} (f : Fx x cX11_race RX11 5 (rmc 6 0 0)) {o0 : Nat} {i1 : Int32} {i2 : Int32} {i3 : Int32} {μ : Me} {Q : Int32 → Me → Prop} (hq : Rt x (some .int) (qI Q)) (h : L_X11_race_18 o0 i1 i2 i3 μ Q) : G x 5 18 [(0, .ref (gB x + o0)), (1, .int i1), (2, .int i2), (3, .int i3)] [] μ 0 0 := by
  obtain ⟨I, ⟨n, hI⟩, hs⟩ := h
  induction n using Nat.strongRecOn generalizing i3 μ with
  | ind n ih => exact tB_X11_race_18 f hq (fun a3 ν hk => by obtain ⟨n2, hn, hI2⟩ := hk; exact ih n2 hn hI2) (hs _ _ _ hI)
def S_X11_race (o0 : Nat) (i1 : Int32) (i2 : Int32) (μ : Me) (Q : Int32 → Me → Prop) : Prop := mok μ o0 11 ∧ ∃ t2, mgr μ o0 0 = some t2 ∧ mok μ t2 12 ∧ vp_in (0 : Int32) (mln μ t2) ∧ S_X11_isIn i1 1 (mgi μ t2 (0 : Int32).toNatClampNeg) μ (fun r6 μ4 => ((¬ r6 = 0 → L_X11_race_18 o0 i1 i2 0 μ4 Q) ∧ (r6 = 0 → Q (-1) μ4)))
set_option maxHeartbeats 4000000 in
set_option maxRecDepth 100000 in
theorem t_X11_race {x : GX} (f : Fx x cX11_race RX11 5 (rmc 6 0 0)) {o0 : Nat} {i1 : Int32} {i2 : Int32} {μ : Me} {Q : Int32 → Me → Prop} (hq : Rt x (some .int) (qI Q)) (h : S_X11_race o0 i1 i2 μ Q) : G x 5 0 [(0, .ref (gB x + o0)), (1, .int i1), (2, .int i2)] [] μ 0 0 := by
  unfold S_X11_race at h
  refine g_iload_n f 1 dX11_race_0 rfl rfl ?_
  refine g_iconst f 1 dX11_race_1 kc_1 ?_
  refine g_aload_n f 0 dX11_race_2 rfl rfl ?_
  obtain ⟨v1, h⟩ := h
  refine g_getR f fk_X11_7 v1 dX11_race_3 rfl h (fun t2 h => ?_)
  refine g_iconst f 0 dX11_race_6 kc_0 ?_
  obtain ⟨v3, h⟩ := h
  refine g_iald f v3 dX11_race_7 h (fun h => ?_)
  refine g_callS f mk_X11_66 (c_X11_isIn h) dX11_race_8 rfl rfl (Nat.le_of_ble_eq_true rfl) (rm_ok (by decide) (by decide)) ⟨Nat.le_of_ble_eq_true rfl, Nat.le_of_ble_eq_true rfl⟩ (kI fun r6 μ4 x5 h => ?_)
  refine g_if_ne f 16 dX11_race_11 rfl h (fun h => ?_) (fun h => ?_)
  · refine g_iconst f 0 dX11_race_16 kc_0 ?_
    refine h_istore_n f dX11_race_17 rfl (by decide) ?_
    exact h_sub [1, 2, 3, 0] rfl (tL_X11_race_18 f hq h)
  · refine g_iconst f (-1) dX11_race_14 kc_m1 ?_
    exact g_iret f hq (Nat.le_of_ble_eq_true rfl) (Nat.le_of_ble_eq_true rfl) dX11_race_15 h
theorem c_X11_race {Ω : OM} {o0 : Nat} {i1 : Int32} {i2 : Int32} {μ : Me} {Q : Int32 → Me → Prop} (h : S_X11_race o0 i1 i2 μ Q) : CT Ω yX11_race cX11_race 5 (some .int) (rmc 6 0 0) [.ref (oB Ω + o0), .int i1, .int i2] μ (qI Q) := CT_of (by decide) rfl (by simp [lg_sl, Value.category]) (fun x hΩ f hq hi => by subst hΩ; exact t_X11_race f hq h)
theorem dX11_heard_0 : decode cX11_heard 0 = .ok (.iload_n 1, 1) := by decide +kernel
theorem dX11_heard_1 : decode cX11_heard 1 = .ok (.iconst (-1), 1) := by decide +kernel
theorem dX11_heard_2 : decode cX11_heard 2 = .ok (.if_icmp .ne 12, 3) := by decide +kernel
theorem dX11_heard_5 : decode cX11_heard 5 = .ok (.aload_n 0, 1) := by decide +kernel
theorem dX11_heard_6 : decode cX11_heard 6 = .ok (.getfield 7, 3) := by decide +kernel
theorem dX11_heard_9 : decode cX11_heard 9 = .ok (.iconst 4, 1) := by decide +kernel
theorem dX11_heard_10 : decode cX11_heard 10 = .ok (.iconst 0, 1) := by decide +kernel
theorem dX11_heard_11 : decode cX11_heard 11 = .ok (.iastore, 1) := by decide +kernel
theorem dX11_heard_12 : decode cX11_heard 12 = .ok (.iconst 0, 1) := by decide +kernel
theorem dX11_heard_13 : decode cX11_heard 13 = .ok (.ireturn, 1) := by decide +kernel
theorem dX11_heard_14 : decode cX11_heard 14 = .ok (.aload_n 0, 1) := by decide +kernel
theorem dX11_heard_15 : decode cX11_heard 15 = .ok (.iload_n 1, 1) := by decide +kernel
theorem dX11_heard_16 : decode cX11_heard 16 = .ok (.invokevirtual 335, 3) := by decide +kernel
theorem dX11_heard_19 : decode cX11_heard 19 = .ok (.ifCond .eq 14, 3) := by decide +kernel
theorem dX11_heard_22 : decode cX11_heard 22 = .ok (.aload_n 0, 1) := by decide +kernel
theorem dX11_heard_23 : decode cX11_heard 23 = .ok (.getfield 7, 3) := by decide +kernel
theorem dX11_heard_26 : decode cX11_heard 26 = .ok (.iconst 4, 1) := by decide +kernel
theorem dX11_heard_27 : decode cX11_heard 27 = .ok (.iaload, 1) := by decide +kernel
theorem dX11_heard_28 : decode cX11_heard 28 = .ok (.bipush 8, 2) := by decide +kernel
theorem dX11_heard_30 : decode cX11_heard 30 = .ok (.if_icmp .ne 6, 3) := by decide +kernel
theorem dX11_heard_33 : decode cX11_heard 33 = .ok (.bipush (-2), 2) := by decide +kernel
theorem dX11_heard_35 : decode cX11_heard 35 = .ok (.ireturn, 1) := by decide +kernel
theorem dX11_heard_36 : decode cX11_heard 36 = .ok (.aload_n 0, 1) := by decide +kernel
theorem dX11_heard_37 : decode cX11_heard 37 = .ok (.getfield 7, 3) := by decide +kernel
theorem dX11_heard_40 : decode cX11_heard 40 = .ok (.bipush 75, 2) := by decide +kernel
theorem dX11_heard_42 : decode cX11_heard 42 = .ok (.iconst 2, 1) := by decide +kernel
theorem dX11_heard_43 : decode cX11_heard 43 = .ok (.aload_n 0, 1) := by decide +kernel
theorem dX11_heard_44 : decode cX11_heard 44 = .ok (.getfield 7, 3) := by decide +kernel
theorem dX11_heard_47 : decode cX11_heard 47 = .ok (.iconst 4, 1) := by decide +kernel
theorem dX11_heard_48 : decode cX11_heard 48 = .ok (.iaload, 1) := by decide +kernel
theorem dX11_heard_49 : decode cX11_heard 49 = .ok (.imul, 1) := by decide +kernel
theorem dX11_heard_50 : decode cX11_heard 50 = .ok (.iadd, 1) := by decide +kernel
theorem dX11_heard_51 : decode cX11_heard 51 = .ok (.iload_n 1, 1) := by decide +kernel
theorem dX11_heard_52 : decode cX11_heard 52 = .ok (.iastore, 1) := by decide +kernel
theorem dX11_heard_53 : decode cX11_heard 53 = .ok (.aload_n 0, 1) := by decide +kernel
theorem dX11_heard_54 : decode cX11_heard 54 = .ok (.getfield 7, 3) := by decide +kernel
theorem dX11_heard_57 : decode cX11_heard 57 = .ok (.bipush 75, 2) := by decide +kernel
theorem dX11_heard_59 : decode cX11_heard 59 = .ok (.iconst 2, 1) := by decide +kernel
theorem dX11_heard_60 : decode cX11_heard 60 = .ok (.aload_n 0, 1) := by decide +kernel
theorem dX11_heard_61 : decode cX11_heard 61 = .ok (.getfield 7, 3) := by decide +kernel
theorem dX11_heard_64 : decode cX11_heard 64 = .ok (.iconst 4, 1) := by decide +kernel
theorem dX11_heard_65 : decode cX11_heard 65 = .ok (.iaload, 1) := by decide +kernel
theorem dX11_heard_66 : decode cX11_heard 66 = .ok (.imul, 1) := by decide +kernel
theorem dX11_heard_67 : decode cX11_heard 67 = .ok (.iadd, 1) := by decide +kernel
theorem dX11_heard_68 : decode cX11_heard 68 = .ok (.iconst 1, 1) := by decide +kernel
theorem dX11_heard_69 : decode cX11_heard 69 = .ok (.iadd, 1) := by decide +kernel
theorem dX11_heard_70 : decode cX11_heard 70 = .ok (.iload_n 2, 1) := by decide +kernel
theorem dX11_heard_71 : decode cX11_heard 71 = .ok (.ifCond .eq 7, 3) := by decide +kernel
theorem dX11_heard_74 : decode cX11_heard 74 = .ok (.iconst 1, 1) := by decide +kernel
theorem dX11_heard_75 : decode cX11_heard 75 = .ok (.goto 4, 3) := by decide +kernel
theorem dX11_heard_78 : decode cX11_heard 78 = .ok (.iconst 0, 1) := by decide +kernel
theorem dX11_heard_79 : decode cX11_heard 79 = .ok (.iastore, 1) := by decide +kernel
theorem dX11_heard_80 : decode cX11_heard 80 = .ok (.aload_n 0, 1) := by decide +kernel
theorem dX11_heard_81 : decode cX11_heard 81 = .ok (.getfield 7, 3) := by decide +kernel
theorem dX11_heard_84 : decode cX11_heard 84 = .ok (.iconst 4, 1) := by decide +kernel
theorem dX11_heard_85 : decode cX11_heard 85 = .ok (.dup2, 1) := by decide +kernel
theorem dX11_heard_86 : decode cX11_heard 86 = .ok (.iaload, 1) := by decide +kernel
theorem dX11_heard_87 : decode cX11_heard 87 = .ok (.iconst 1, 1) := by decide +kernel
theorem dX11_heard_88 : decode cX11_heard 88 = .ok (.iadd, 1) := by decide +kernel
theorem dX11_heard_89 : decode cX11_heard 89 = .ok (.iastore, 1) := by decide +kernel
theorem dX11_heard_90 : decode cX11_heard 90 = .ok (.aload_n 0, 1) := by decide +kernel
theorem dX11_heard_91 : decode cX11_heard 91 = .ok (.getfield 7, 3) := by decide +kernel
theorem dX11_heard_94 : decode cX11_heard 94 = .ok (.iconst 4, 1) := by decide +kernel
theorem dX11_heard_95 : decode cX11_heard 95 = .ok (.iaload, 1) := by decide +kernel
theorem dX11_heard_96 : decode cX11_heard 96 = .ok (.ireturn, 1) := by decide +kernel
def B_X11_heard_79 (o0 : Nat) (s0 : Int32) (s1 : Int32) (s2 : Option Nat) (μ : Me) (Q : Int32 → Me → Prop) : Prop := ∃ t15, s2 = some t15 ∧ mok μ t15 12 ∧ vp_in s1 (mln μ t15) ∧ ∀ μ19, μ19 = msi μ t15 s1.toNatClampNeg s0 → mok μ19 o0 11 ∧ ∃ t21, mgr μ19 o0 0 = some t21 ∧ mok μ19 t21 12 ∧ vp_in (4 : Int32) (mln μ19 t21) ∧ vp_in (4 : Int32) (mln μ19 t21) ∧ ∀ μ23, μ23 = msi μ19 t21 (4 : Int32).toNatClampNeg ((mgi μ19 t21 (4 : Int32).toNatClampNeg) + 1) → ∃ t24, mgr μ23 o0 0 = some t24 ∧ mok μ23 t24 12 ∧ vp_in (4 : Int32) (mln μ23 t24) ∧ Q (mgi μ23 t24 (4 : Int32).toNatClampNeg) μ23
set_option maxHeartbeats 4000000 in
set_option maxRecDepth 100000 in
theorem tB_X11_heard_79 {x : GX} (f : Fx x cX11_heard RX11 3 (rmc 2 0 0)) {o0 : Nat} {s0 : Int32} {s1 : Int32} {s2 : Option Nat} {μ : Me} {Q : Int32 → Me → Prop} (hq : Rt x (some .int) (qI Q)) (h : B_X11_heard_79 o0 s0 s1 s2 μ Q) : G x 3 79 [(0, .ref (gB x + o0))] [.int s0, .int s1, vr (gB x) s2] μ 0 0 := by
  unfold B_X11_heard_79 at h
  obtain ⟨t15, e16, h17⟩ := h
  subst e16
  have h := h17
  obtain ⟨v18, h⟩ := h
  refine g_iast f v18 dX11_heard_79 h (fun h => ?_)
  refine g_aload_n f 0 dX11_heard_80 rfl rfl ?_
  obtain ⟨v20, h⟩ := h
  refine g_getR f fk_X11_7 v20 dX11_heard_81 rfl h (fun t21 h => ?_)
  refine g_iconst f 4 dX11_heard_84 kc_4 ?_
  refine g_dup2_11 f dX11_heard_85 rfl rfl ?_
  obtain ⟨v22, h⟩ := h
  refine g_iald f v22 dX11_heard_86 h (fun h => ?_)
  refine g_iconst f 1 dX11_heard_87 kc_1 ?_
  refine g_iadd f dX11_heard_88 ?_
  refine g_iast f v22 dX11_heard_89 h (fun h => ?_)
  refine g_aload_n f 0 dX11_heard_90 rfl rfl ?_
  refine g_getR f fk_X11_7 v20 dX11_heard_91 rfl h (fun t24 h => ?_)
  refine g_iconst f 4 dX11_heard_94 kc_4 ?_
  obtain ⟨v25, h⟩ := h
  refine g_iald f v25 dX11_heard_95 h (fun h => ?_)
  exact g_iret f hq (Nat.le_of_ble_eq_true rfl) (Nat.le_of_ble_eq_true rfl) dX11_heard_96 h
def S_X11_heard (o0 : Nat) (i1 : Int32) (i2 : Int32) (μ : Me) (Q : Int32 → Me → Prop) : Prop := ((¬ i1 = (-1) → mok μ o0 11 ∧ S_X11_isPerson o0 i1 μ (fun r4 μ2 => ((r4 = 0 → Q (-2) μ2) ∧ (¬ r4 = 0 → ∃ t5, mgr μ2 o0 0 = some t5 ∧ mok μ2 t5 12 ∧ vp_in (4 : Int32) (mln μ2 t5) ∧ ((¬ (mgi μ2 t5 (4 : Int32).toNatClampNeg) = 8 → ∃ t7, mgr μ2 o0 0 = some t7 ∧ ∃ t8, mgr μ2 o0 0 = some t8 ∧ mok μ2 t8 12 ∧ vp_in (4 : Int32) (mln μ2 t8) ∧ mok μ2 t7 12 ∧ vp_in (75 + (2 * (mgi μ2 t8 (4 : Int32).toNatClampNeg))) (mln μ2 t7) ∧ ∀ μ11, μ11 = msi μ2 t7 (75 + (2 * (mgi μ2 t8 (4 : Int32).toNatClampNeg))).toNatClampNeg i1 → ∃ t12, mgr μ11 o0 0 = some t12 ∧ ∃ t13, mgr μ11 o0 0 = some t13 ∧ mok μ11 t13 12 ∧ vp_in (4 : Int32) (mln μ11 t13) ∧ ((i2 = 0 → B_X11_heard_79 o0 0 ((75 + (2 * (mgi μ11 t13 (4 : Int32).toNatClampNeg))) + 1) (some t12) μ11 Q) ∧ (¬ i2 = 0 → B_X11_heard_79 o0 1 ((75 + (2 * (mgi μ11 t13 (4 : Int32).toNatClampNeg))) + 1) (some t12) μ11 Q))) ∧ ((mgi μ2 t5 (4 : Int32).toNatClampNeg) = 8 → Q (-2) μ2)))))) ∧ (i1 = (-1) → mok μ o0 11 ∧ ∃ t27, mgr μ o0 0 = some t27 ∧ mok μ t27 12 ∧ vp_in (4 : Int32) (mln μ t27) ∧ ∀ μ29, μ29 = msi μ t27 (4 : Int32).toNatClampNeg 0 → Q 0 μ29))
set_option maxHeartbeats 4000000 in
set_option maxRecDepth 100000 in
theorem t_X11_heard {x : GX} (f : Fx x cX11_heard RX11 3 (rmc 2 0 0)) {o0 : Nat} {i1 : Int32} {i2 : Int32} {μ : Me} {Q : Int32 → Me → Prop} (hq : Rt x (some .int) (qI Q)) (h : S_X11_heard o0 i1 i2 μ Q) : G x 3 0 [(0, .ref (gB x + o0)), (1, .int i1), (2, .int i2)] [] μ 0 0 := by
  unfold S_X11_heard at h
  refine g_iload_n f 1 dX11_heard_0 rfl rfl ?_
  refine g_iconst f (-1) dX11_heard_1 kc_m1 ?_
  refine g_ic_ne f 14 dX11_heard_2 rfl h (fun h => ?_) (fun h => ?_)
  · refine g_aload_n f 0 dX11_heard_14 rfl rfl ?_
    refine g_iload_n f 1 dX11_heard_15 rfl rfl ?_
    obtain ⟨v1, h⟩ := h
    refine g_callV f mk_X11_335 v1 (c_X11_isPerson h) dX11_heard_16 rfl rfl (Nat.le_of_ble_eq_true rfl) (rm_ok (by decide) (by decide)) ⟨Nat.le_of_ble_eq_true rfl, Nat.le_of_ble_eq_true rfl⟩ (kI fun r4 μ2 x3 h => ?_)
    refine g_if_eq f 33 dX11_heard_19 rfl h (fun h => ?_) (fun h => ?_)
    · refine g_bipush f (-2) dX11_heard_33 kb_m2 ?_
      exact g_iret f hq (Nat.le_of_ble_eq_true rfl) (Nat.le_of_ble_eq_true rfl) dX11_heard_35 h
    · refine g_aload_n f 0 dX11_heard_22 rfl rfl ?_
      have v1 := mex_ok x3 v1
      refine g_getR f fk_X11_7 v1 dX11_heard_23 rfl h (fun t5 h => ?_)
      refine g_iconst f 4 dX11_heard_26 kc_4 ?_
      obtain ⟨v6, h⟩ := h
      refine g_iald f v6 dX11_heard_27 h (fun h => ?_)
      refine g_bipush f 8 dX11_heard_28 kb_8 ?_
      refine g_ic_ne f 36 dX11_heard_30 rfl h (fun h => ?_) (fun h => ?_)
      · refine g_aload_n f 0 dX11_heard_36 rfl rfl ?_
        refine g_getR f fk_X11_7 v1 dX11_heard_37 rfl h (fun t7 h => ?_)
        refine g_bipush f 75 dX11_heard_40 kb_75 ?_
        refine g_iconst f 2 dX11_heard_42 kc_2 ?_
        refine g_aload_n f 0 dX11_heard_43 rfl rfl ?_
        refine g_getR f fk_X11_7 v1 dX11_heard_44 rfl h (fun t8 h => ?_)
        refine g_iconst f 4 dX11_heard_47 kc_4 ?_
        obtain ⟨v9, h⟩ := h
        refine g_iald f v9 dX11_heard_48 h (fun h => ?_)
        refine g_imul f dX11_heard_49 ?_
        refine g_iadd f dX11_heard_50 ?_
        refine g_iload_n f 1 dX11_heard_51 rfl rfl ?_
        obtain ⟨v10, h⟩ := h
        refine g_iast f v10 dX11_heard_52 h (fun h => ?_)
        refine g_aload_n f 0 dX11_heard_53 rfl rfl ?_
        refine g_getR f fk_X11_7 v1 dX11_heard_54 rfl h (fun t12 h => ?_)
        refine g_bipush f 75 dX11_heard_57 kb_75 ?_
        refine g_iconst f 2 dX11_heard_59 kc_2 ?_
        refine g_aload_n f 0 dX11_heard_60 rfl rfl ?_
        refine g_getR f fk_X11_7 v1 dX11_heard_61 rfl h (fun t13 h => ?_)
        refine g_iconst f 4 dX11_heard_64 kc_4 ?_
        obtain ⟨v14, h⟩ := h
        refine g_iald f v14 dX11_heard_65 h (fun h => ?_)
        refine g_imul f dX11_heard_66 ?_
        refine g_iadd f dX11_heard_67 ?_
        refine g_iconst f 1 dX11_heard_68 kc_1 ?_
        refine g_iadd f dX11_heard_69 ?_
        refine g_iload_n f 2 dX11_heard_70 rfl rfl ?_
        refine g_if_eq f 78 dX11_heard_71 rfl h (fun h => ?_) (fun h => ?_)
        · refine g_iconst f 0 dX11_heard_78 kc_0 ?_
          exact h_sub [0] rfl (tB_X11_heard_79 f hq h)
        · refine g_iconst f 1 dX11_heard_74 kc_1 ?_
          refine g_goto f 79 dX11_heard_75 rfl ?_
          exact h_sub [0] rfl (tB_X11_heard_79 f hq h)
      · refine g_bipush f (-2) dX11_heard_33 kb_m2 ?_
        exact g_iret f hq (Nat.le_of_ble_eq_true rfl) (Nat.le_of_ble_eq_true rfl) dX11_heard_35 h
  · refine g_aload_n f 0 dX11_heard_5 rfl rfl ?_
    obtain ⟨v26, h⟩ := h
    refine g_getR f fk_X11_7 v26 dX11_heard_6 rfl h (fun t27 h => ?_)
    refine g_iconst f 4 dX11_heard_9 kc_4 ?_
    refine g_iconst f 0 dX11_heard_10 kc_0 ?_
    obtain ⟨v28, h⟩ := h
    refine g_iast f v28 dX11_heard_11 h (fun h => ?_)
    refine g_iconst f 0 dX11_heard_12 kc_0 ?_
    exact g_iret f hq (Nat.le_of_ble_eq_true rfl) (Nat.le_of_ble_eq_true rfl) dX11_heard_13 h
theorem c_X11_heard {Ω : OM} {o0 : Nat} {i1 : Int32} {i2 : Int32} {μ : Me} {Q : Int32 → Me → Prop} (h : S_X11_heard o0 i1 i2 μ Q) : CT Ω yX11_heard cX11_heard 3 (some .int) (rmc 2 0 0) [.ref (oB Ω + o0), .int i1, .int i2] μ (qI Q) := CT_of (by decide) rfl (by simp [lg_sl, Value.category]) (fun x hΩ f hq hi => by subst hΩ; exact t_X11_heard f hq h)
theorem dX11_layDays_0 : decode cX11_layDays 0 = .ok (.aload_n 0, 1) := by decide +kernel
theorem dX11_layDays_1 : decode cX11_layDays 1 = .ok (.invokevirtual 377, 3) := by decide +kernel
theorem dX11_layDays_4 : decode cX11_layDays 4 = .ok (.iconst 0, 1) := by decide +kernel
theorem dX11_layDays_5 : decode cX11_layDays 5 = .ok (.istore_n 1, 1) := by decide +kernel
theorem dX11_layDays_6 : decode cX11_layDays 6 = .ok (.iconst 0, 1) := by decide +kernel
theorem dX11_layDays_7 : decode cX11_layDays 7 = .ok (.istore_n 2, 1) := by decide +kernel
theorem dX11_layDays_8 : decode cX11_layDays 8 = .ok (.iload_n 2, 1) := by decide +kernel
theorem dX11_layDays_9 : decode cX11_layDays 9 = .ok (.aload_n 0, 1) := by decide +kernel
theorem dX11_layDays_10 : decode cX11_layDays 10 = .ok (.invokevirtual 70, 3) := by decide +kernel
theorem dX11_layDays_13 : decode cX11_layDays 13 = .ok (.if_icmp .gt 103, 3) := by decide +kernel
theorem dX11_layDays_16 : decode cX11_layDays 16 = .ok (.aload_n 0, 1) := by decide +kernel
theorem dX11_layDays_17 : decode cX11_layDays 17 = .ok (.getfield 50, 3) := by decide +kernel
theorem dX11_layDays_20 : decode cX11_layDays 20 = .ok (.iload_n 2, 1) := by decide +kernel
theorem dX11_layDays_21 : decode cX11_layDays 21 = .ok (.iaload, 1) := by decide +kernel
theorem dX11_layDays_22 : decode cX11_layDays 22 = .ok (.iload_n 2, 1) := by decide +kernel
theorem dX11_layDays_23 : decode cX11_layDays 23 = .ok (.if_icmp .ne 7, 3) := by decide +kernel
theorem dX11_layDays_26 : decode cX11_layDays 26 = .ok (.iconst 1, 1) := by decide +kernel
theorem dX11_layDays_27 : decode cX11_layDays 27 = .ok (.goto 4, 3) := by decide +kernel
theorem dX11_layDays_30 : decode cX11_layDays 30 = .ok (.iconst 0, 1) := by decide +kernel
theorem dX11_layDays_31 : decode cX11_layDays 31 = .ok (.istore_n 3, 1) := by decide +kernel
theorem dX11_layDays_32 : decode cX11_layDays 32 = .ok (.iconst 0, 1) := by decide +kernel
theorem dX11_layDays_33 : decode cX11_layDays 33 = .ok (.istore 4, 2) := by decide +kernel
theorem dX11_layDays_35 : decode cX11_layDays 35 = .ok (.iload 4, 2) := by decide +kernel
theorem dX11_layDays_37 : decode cX11_layDays 37 = .ok (.aload_n 0, 1) := by decide +kernel
theorem dX11_layDays_38 : decode cX11_layDays 38 = .ok (.getfield 7, 3) := by decide +kernel
theorem dX11_layDays_41 : decode cX11_layDays 41 = .ok (.iconst 4, 1) := by decide +kernel
theorem dX11_layDays_42 : decode cX11_layDays 42 = .ok (.iaload, 1) := by decide +kernel
theorem dX11_layDays_43 : decode cX11_layDays 43 = .ok (.if_icmp .ge 50, 3) := by decide +kernel
theorem dX11_layDays_46 : decode cX11_layDays 46 = .ok (.iload_n 3, 1) := by decide +kernel
theorem dX11_layDays_47 : decode cX11_layDays 47 = .ok (.iload_n 2, 1) := by decide +kernel
theorem dX11_layDays_48 : decode cX11_layDays 48 = .ok (.aload_n 0, 1) := by decide +kernel
theorem dX11_layDays_49 : decode cX11_layDays 49 = .ok (.getfield 7, 3) := by decide +kernel
theorem dX11_layDays_52 : decode cX11_layDays 52 = .ok (.bipush 75, 2) := by decide +kernel
theorem dX11_layDays_54 : decode cX11_layDays 54 = .ok (.iconst 2, 1) := by decide +kernel
theorem dX11_layDays_55 : decode cX11_layDays 55 = .ok (.iload 4, 2) := by decide +kernel
theorem dX11_layDays_57 : decode cX11_layDays 57 = .ok (.imul, 1) := by decide +kernel
theorem dX11_layDays_58 : decode cX11_layDays 58 = .ok (.iadd, 1) := by decide +kernel
theorem dX11_layDays_59 : decode cX11_layDays 59 = .ok (.iaload, 1) := by decide +kernel
theorem dX11_layDays_60 : decode cX11_layDays 60 = .ok (.ishr, 1) := by decide +kernel
theorem dX11_layDays_61 : decode cX11_layDays 61 = .ok (.iconst 1, 1) := by decide +kernel
theorem dX11_layDays_62 : decode cX11_layDays 62 = .ok (.iand, 1) := by decide +kernel
theorem dX11_layDays_63 : decode cX11_layDays 63 = .ok (.aload_n 0, 1) := by decide +kernel
theorem dX11_layDays_64 : decode cX11_layDays 64 = .ok (.getfield 7, 3) := by decide +kernel
theorem dX11_layDays_67 : decode cX11_layDays 67 = .ok (.bipush 75, 2) := by decide +kernel
theorem dX11_layDays_69 : decode cX11_layDays 69 = .ok (.iconst 2, 1) := by decide +kernel
theorem dX11_layDays_70 : decode cX11_layDays 70 = .ok (.iload 4, 2) := by decide +kernel
theorem dX11_layDays_72 : decode cX11_layDays 72 = .ok (.imul, 1) := by decide +kernel
theorem dX11_layDays_73 : decode cX11_layDays 73 = .ok (.iadd, 1) := by decide +kernel
theorem dX11_layDays_74 : decode cX11_layDays 74 = .ok (.iconst 1, 1) := by decide +kernel
theorem dX11_layDays_75 : decode cX11_layDays 75 = .ok (.iadd, 1) := by decide +kernel
theorem dX11_layDays_76 : decode cX11_layDays 76 = .ok (.iaload, 1) := by decide +kernel
theorem dX11_layDays_77 : decode cX11_layDays 77 = .ok (.if_icmp .ne 7, 3) := by decide +kernel
theorem dX11_layDays_80 : decode cX11_layDays 80 = .ok (.iconst 1, 1) := by decide +kernel
theorem dX11_layDays_81 : decode cX11_layDays 81 = .ok (.goto 4, 3) := by decide +kernel
theorem dX11_layDays_84 : decode cX11_layDays 84 = .ok (.iconst 0, 1) := by decide +kernel
theorem dX11_layDays_85 : decode cX11_layDays 85 = .ok (.iand, 1) := by decide +kernel
theorem dX11_layDays_86 : decode cX11_layDays 86 = .ok (.istore_n 3, 1) := by decide +kernel
theorem dX11_layDays_87 : decode cX11_layDays 87 = .ok (.iinc 4 1, 3) := by decide +kernel
theorem dX11_layDays_90 : decode cX11_layDays 90 = .ok (.goto (-55), 3) := by decide +kernel
theorem dX11_layDays_93 : decode cX11_layDays 93 = .ok (.iload_n 3, 1) := by decide +kernel
theorem dX11_layDays_94 : decode cX11_layDays 94 = .ok (.ifCond .ne 6, 3) := by decide +kernel
theorem dX11_layDays_97 : decode cX11_layDays 97 = .ok (.goto 13, 3) := by decide +kernel
theorem dX11_layDays_100 : decode cX11_layDays 100 = .ok (.aload_n 0, 1) := by decide +kernel
theorem dX11_layDays_101 : decode cX11_layDays 101 = .ok (.getfield 56, 3) := by decide +kernel
theorem dX11_layDays_104 : decode cX11_layDays 104 = .ok (.iload_n 1, 1) := by decide +kernel
theorem dX11_layDays_105 : decode cX11_layDays 105 = .ok (.iload_n 2, 1) := by decide +kernel
theorem dX11_layDays_106 : decode cX11_layDays 106 = .ok (.iastore, 1) := by decide +kernel
theorem dX11_layDays_107 : decode cX11_layDays 107 = .ok (.iinc 1 1, 3) := by decide +kernel
theorem dX11_layDays_110 : decode cX11_layDays 110 = .ok (.iinc 2 1, 3) := by decide +kernel
theorem dX11_layDays_113 : decode cX11_layDays 113 = .ok (.goto (-105), 3) := by decide +kernel
theorem dX11_layDays_116 : decode cX11_layDays 116 = .ok (.iload_n 1, 1) := by decide +kernel
theorem dX11_layDays_117 : decode cX11_layDays 117 = .ok (.ireturn, 1) := by decide +kernel
def B_X11_layDays_110 (o0 : Nat) (i1 : Int32) (i2 : Int32) (μ : Me) (K8 : Int32 → Int32 → Me → Prop) (Q : Int32 → Me → Prop) : Prop := K8 i1 (i2 + 1) μ
set_option maxHeartbeats 4000000 in
set_option maxRecDepth 100000 in
theorem tB_X11_layDays_110 {x : GX} (f : Fx x cX11_layDays RX11 5 (rmc 7 0 0)) {o0 : Nat} {i1 : Int32} {i2 : Int32} {μ : Me} {Q : Int32 → Me → Prop} (hq : Rt x (some .int) (qI Q)) {K8 : Int32 → Int32 → Me → Prop} (hK8 : ∀ (a1 : Int32) (a2 : Int32) (ν : Me), K8 a1 a2 ν → G x 5 8 [(0, .ref (gB x + o0)), (1, .int a1), (2, .int a2)] [] ν 0 0) (h : B_X11_layDays_110 o0 i1 i2 μ K8 Q) : G x 5 110 [(0, .ref (gB x + o0)), (1, .int i1), (2, .int i2)] [] μ 0 0 := by
  unfold B_X11_layDays_110 at h
  refine h_iinc f 2 1 dX11_layDays_110 rfl kc_1 (by decide) ?_
  refine g_goto f 8 dX11_layDays_113 rfl ?_
  exact h_sub [1, 2, 0] rfl (hK8 _ _ _ h)
def B_X11_layDays_85 (o0 : Nat) (i1 : Int32) (i2 : Int32) (i4 : Int32) (s0 : Int32) (s1 : Int32) (μ : Me) (K8 : Int32 → Int32 → Me → Prop) (K35 : Int32 → Int32 → Me → Prop) (Q : Int32 → Me → Prop) : Prop := K35 (s1 &&& s0) (i4 + 1) μ
set_option maxHeartbeats 4000000 in
set_option maxRecDepth 100000 in
theorem tB_X11_layDays_85 {x : GX} (f : Fx x cX11_layDays RX11 5 (rmc 7 0 0)) {o0 : Nat} {i1 : Int32} {i2 : Int32} {i4 : Int32} {s0 : Int32} {s1 : Int32} {μ : Me} {Q : Int32 → Me → Prop} (hq : Rt x (some .int) (qI Q)) {K8 : Int32 → Int32 → Me → Prop} {K35 : Int32 → Int32 → Me → Prop} (hK8 : ∀ (a1 : Int32) (a2 : Int32) (ν : Me), K8 a1 a2 ν → G x 5 8 [(0, .ref (gB x + o0)), (1, .int a1), (2, .int a2)] [] ν 0 0) (hK35 : ∀ (a3 : Int32) (a4 : Int32) (ν : Me), K35 a3 a4 ν → G x 5 35 [(0, .ref (gB x + o0)), (1, .int i1), (2, .int i2), (3, .int a3), (4, .int a4)] [] ν 0 0) (h : B_X11_layDays_85 o0 i1 i2 i4 s0 s1 μ K8 K35 Q) : G x 5 85 [(0, .ref (gB x + o0)), (1, .int i1), (2, .int i2), (4, .int i4)] [.int s0, .int s1] μ 0 0 := by
  unfold B_X11_layDays_85 at h
  refine g_iand f dX11_layDays_85 ?_
  refine h_istore_n f dX11_layDays_86 rfl (by decide) ?_
  refine h_iinc f 4 1 dX11_layDays_87 rfl kc_1 (by decide) ?_
  refine g_goto f 35 dX11_layDays_90 rfl ?_
  exact h_sub [2, 3, 4, 1, 0] rfl (hK35 _ _ _ h)
def B_X11_layDays_35 (o0 : Nat) (i1 : Int32) (i2 : Int32) (i3 : Int32) (i4 : Int32) (μ : Me) (K8 : Int32 → Int32 → Me → Prop) (K35 : Int32 → Int32 → Me → Prop) (Q : Int32 → Me → Prop) : Prop := mok μ o0 11 ∧ ∃ t12, mgr μ o0 0 = some t12 ∧ mok μ t12 12 ∧ vp_in (4 : Int32) (mln μ t12) ∧ (((mgi μ t12 (4 : Int32).toNatClampNeg) ≤ i4 → ((¬ i3 = 0 → ∃ t14, mgr μ o0 29 = some t14 ∧ mok μ t14 12 ∧ vp_in i1 (mln μ t14) ∧ ∀ μ16, μ16 = msi μ t14 i1.toNatClampNeg i2 → B_X11_layDays_110 o0 (i1 + 1) i2 μ16 K8 Q) ∧ (i3 = 0 → B_X11_layDays_110 o0 i1 i2 μ K8 Q))) ∧ (¬ (mgi μ t12 (4 : Int32).toNatClampNeg) ≤ i4 → ∃ t17, mgr μ o0 0 = some t17 ∧ mok μ t17 12 ∧ vp_in (75 + (2 * i4)) (mln μ t17) ∧ ∃ t19, mgr μ o0 0 = some t19 ∧ mok μ t19 12 ∧ vp_in ((75 + (2 * i4)) + 1) (mln μ t19) ∧ ((¬ ((i2 >>> ((mgi μ t17 (75 + (2 * i4)).toNatClampNeg) &&& 31)) &&& 1) = (mgi μ t19 ((75 + (2 * i4)) + 1).toNatClampNeg) → B_X11_layDays_85 o0 i1 i2 i4 0 i3 μ K8 K35 Q) ∧ (((i2 >>> ((mgi μ t17 (75 + (2 * i4)).toNatClampNeg) &&& 31)) &&& 1) = (mgi μ t19 ((75 + (2 * i4)) + 1).toNatClampNeg) → B_X11_layDays_85 o0 i1 i2 i4 1 i3 μ K8 K35 Q))))
set_option maxHeartbeats 4000000 in
set_option maxRecDepth 100000 in
theorem tB_X11_layDays_35 {x : GX} (f : Fx x cX11_layDays RX11 5 (rmc 7 0 0)) {o0 : Nat} {i1 : Int32} {i2 : Int32} {i3 : Int32} {i4 : Int32} {μ : Me} {Q : Int32 → Me → Prop} (hq : Rt x (some .int) (qI Q)) {K8 : Int32 → Int32 → Me → Prop} {K35 : Int32 → Int32 → Me → Prop} (hK8 : ∀ (a1 : Int32) (a2 : Int32) (ν : Me), K8 a1 a2 ν → G x 5 8 [(0, .ref (gB x + o0)), (1, .int a1), (2, .int a2)] [] ν 0 0) (hK35 : ∀ (a3 : Int32) (a4 : Int32) (ν : Me), K35 a3 a4 ν → G x 5 35 [(0, .ref (gB x + o0)), (1, .int i1), (2, .int i2), (3, .int a3), (4, .int a4)] [] ν 0 0) (h : B_X11_layDays_35 o0 i1 i2 i3 i4 μ K8 K35 Q) : G x 5 35 [(0, .ref (gB x + o0)), (1, .int i1), (2, .int i2), (3, .int i3), (4, .int i4)] [] μ 0 0 := by
  unfold B_X11_layDays_35 at h
  refine g_iload f 4 dX11_layDays_35 rfl ?_
  refine g_aload_n f 0 dX11_layDays_37 rfl rfl ?_
  obtain ⟨v11, h⟩ := h
  refine g_getR f fk_X11_7 v11 dX11_layDays_38 rfl h (fun t12 h => ?_)
  refine g_iconst f 4 dX11_layDays_41 kc_4 ?_
  obtain ⟨v13, h⟩ := h
  refine g_iald f v13 dX11_layDays_42 h (fun h => ?_)
  refine g_ic_ge f 93 dX11_layDays_43 rfl h (fun h => ?_) (fun h => ?_)
  · refine g_iload_n f 3 dX11_layDays_93 rfl rfl ?_
    refine g_if_ne f 100 dX11_layDays_94 rfl h (fun h => ?_) (fun h => ?_)
    · refine g_aload_n f 0 dX11_layDays_100 rfl rfl ?_
      refine g_getR f fk_X11_56 v11 dX11_layDays_101 rfl h (fun t14 h => ?_)
      refine g_iload_n f 1 dX11_layDays_104 rfl rfl ?_
      refine g_iload_n f 2 dX11_layDays_105 rfl rfl ?_
      obtain ⟨v15, h⟩ := h
      refine g_iast f v15 dX11_layDays_106 h (fun h => ?_)
      refine h_iinc f 1 1 dX11_layDays_107 rfl kc_1 (by decide) ?_
      exact h_sub [1, 0, 2] rfl (tB_X11_layDays_110 f hq hK8 h)
    · refine g_goto f 110 dX11_layDays_97 rfl ?_
      exact h_sub [0, 1, 2] rfl (tB_X11_layDays_110 f hq hK8 h)
  · refine g_iload_n f 3 dX11_layDays_46 rfl rfl ?_
    refine g_iload_n f 2 dX11_layDays_47 rfl rfl ?_
    refine g_aload_n f 0 dX11_layDays_48 rfl rfl ?_
    refine g_getR f fk_X11_7 v11 dX11_layDays_49 rfl h (fun t17 h => ?_)
    refine g_bipush f 75 dX11_layDays_52 kb_75 ?_
    refine g_iconst f 2 dX11_layDays_54 kc_2 ?_
    refine g_iload f 4 dX11_layDays_55 rfl ?_
    refine g_imul f dX11_layDays_57 ?_
    refine g_iadd f dX11_layDays_58 ?_
    obtain ⟨v18, h⟩ := h
    refine g_iald f v18 dX11_layDays_59 h (fun h => ?_)
    refine g_ishr f dX11_layDays_60 ?_
    refine g_iconst f 1 dX11_layDays_61 kc_1 ?_
    refine g_iand f dX11_layDays_62 ?_
    refine g_aload_n f 0 dX11_layDays_63 rfl rfl ?_
    refine g_getR f fk_X11_7 v11 dX11_layDays_64 rfl h (fun t19 h => ?_)
    refine g_bipush f 75 dX11_layDays_67 kb_75 ?_
    refine g_iconst f 2 dX11_layDays_69 kc_2 ?_
    refine g_iload f 4 dX11_layDays_70 rfl ?_
    refine g_imul f dX11_layDays_72 ?_
    refine g_iadd f dX11_layDays_73 ?_
    refine g_iconst f 1 dX11_layDays_74 kc_1 ?_
    refine g_iadd f dX11_layDays_75 ?_
    obtain ⟨v20, h⟩ := h
    refine g_iald f v20 dX11_layDays_76 h (fun h => ?_)
    refine g_ic_ne f 84 dX11_layDays_77 rfl h (fun h => ?_) (fun h => ?_)
    · refine g_iconst f 0 dX11_layDays_84 kc_0 ?_
      exact h_sub [0, 1, 2, 4] rfl (tB_X11_layDays_85 f hq hK8 hK35 h)
    · refine g_iconst f 1 dX11_layDays_80 kc_1 ?_
      refine g_goto f 85 dX11_layDays_81 rfl ?_
      exact h_sub [0, 1, 2, 4] rfl (tB_X11_layDays_85 f hq hK8 hK35 h)
def L_X11_layDays_35 (o0 : Nat) (i1 : Int32) (i2 : Int32) (i3 : Int32) (i4 : Int32) (μ : Me) (K8 : Int32 → Int32 → Me → Prop) (Q : Int32 → Me → Prop) : Prop := ∃ I : Int32 → Int32 → Me → Nat → Prop, (∃ n, I i3 i4 μ n) ∧ ∀ (i3 : Int32) (i4 : Int32) (μ : Me) (n : Nat), I i3 i4 μ n → B_X11_layDays_35 o0 i1 i2 i3 i4 μ K8 (fun a3 a4 ν => ∃ n', n' < n ∧ I a3 a4 ν n') Q
set_option maxHeartbeats 4000000 in
set_option maxRecDepth 100000 in
theorem tL_X11_layDays_35 {x : GX} (f : Fx x cX11_layDays RX11 5 (rmc 7 0 0)) {o0 : Nat} {i1 : Int32} {i2 : Int32} {i3 : Int32} {i4 : Int32} {μ : Me} {Q : Int32 → Me → Prop} (hq : Rt x (some .int) (qI Q)) {K8 : Int32 → Int32 → Me → Prop} (hK8 : ∀ (a1 : Int32) (a2 : Int32) (ν : Me), K8 a1 a2 ν → G x 5 8 [(0, .ref (gB x + o0)), (1, .int a1), (2, .int a2)] [] ν 0 0) (h : L_X11_layDays_35 o0 i1 i2 i3 i4 μ K8 Q) : G x 5 35 [(0, .ref (gB x + o0)), (1, .int i1), (2, .int i2), (3, .int i3), (4, .int i4)] [] μ 0 0 := by
  obtain ⟨I, ⟨n, hI⟩, hs⟩ := h
  induction n using Nat.strongRecOn generalizing i3 i4 μ with
  | ind n ih => exact tB_X11_layDays_35 f hq hK8 (fun a3 a4 ν hk => by obtain ⟨n2, hn, hI2⟩ := hk; exact ih n2 hn hI2) (hs _ _ _ _ hI)
def B_X11_layDays_31 (o0 : Nat) (i1 : Int32) (i2 : Int32) (s0 : Int32) (μ : Me) (K8 : Int32 → Int32 → Me → Prop) (Q : Int32 → Me → Prop) : Prop := L_X11_layDays_35 o0 i1 i2 s0 0 μ K8 Q
set_option maxHeartbeats 4000000 in
set_option maxRecDepth 100000 in
theorem tB_X11_layDays_31 {x : GX} (f : Fx x cX11_layDays RX11 5 (rmc 7 0 0)) {o0 : Nat} {i1 : Int32} {i2 : Int32} {s0 : Int32} {μ : Me} {Q : Int32 → Me → Prop} (hq : Rt x (some .int) (qI Q)) {K8 : Int32 → Int32 → Me → Prop} (hK8 : ∀ (a1 : Int32) (a2 : Int32) (ν : Me), K8 a1 a2 ν → G x 5 8 [(0, .ref (gB x + o0)), (1, .int a1), (2, .int a2)] [] ν 0 0) (h : B_X11_layDays_31 o0 i1 i2 s0 μ K8 Q) : G x 5 31 [(0, .ref (gB x + o0)), (1, .int i1), (2, .int i2)] [.int s0] μ 0 0 := by
  unfold B_X11_layDays_31 at h
  refine h_istore_n f dX11_layDays_31 rfl (by decide) ?_
  refine g_iconst f 0 dX11_layDays_32 kc_0 ?_
  refine h_istore f dX11_layDays_33 (by decide) ?_
  exact h_sub [2, 3, 4, 1, 0] rfl (tL_X11_layDays_35 f hq hK8 h)
def B_X11_layDays_8 (o0 : Nat) (i1 : Int32) (i2 : Int32) (μ : Me) (K8 : Int32 → Int32 → Me → Prop) (Q : Int32 → Me → Prop) : Prop := mok μ o0 11 ∧ S_X11_all o0 μ (fun r8 μ6 => ((r8 < i2 → Q i1 μ6) ∧ (¬ r8 < i2 → ∃ t9, mgr μ6 o0 27 = some t9 ∧ mok μ6 t9 12 ∧ vp_in i2 (mln μ6 t9) ∧ ((¬ (mgi μ6 t9 i2.toNatClampNeg) = i2 → B_X11_layDays_31 o0 i1 i2 0 μ6 K8 Q) ∧ ((mgi μ6 t9 i2.toNatClampNeg) = i2 → B_X11_layDays_31 o0 i1 i2 1 μ6 K8 Q)))))
set_option maxHeartbeats 4000000 in
set_option maxRecDepth 100000 in
theorem tB_X11_layDays_8 {x : GX} (f : Fx x cX11_layDays RX11 5 (rmc 7 0 0)) {o0 : Nat} {i1 : Int32} {i2 : Int32} {μ : Me} {Q : Int32 → Me → Prop} (hq : Rt x (some .int) (qI Q)) {K8 : Int32 → Int32 → Me → Prop} (hK8 : ∀ (a1 : Int32) (a2 : Int32) (ν : Me), K8 a1 a2 ν → G x 5 8 [(0, .ref (gB x + o0)), (1, .int a1), (2, .int a2)] [] ν 0 0) (h : B_X11_layDays_8 o0 i1 i2 μ K8 Q) : G x 5 8 [(0, .ref (gB x + o0)), (1, .int i1), (2, .int i2)] [] μ 0 0 := by
  unfold B_X11_layDays_8 at h
  refine g_iload_n f 2 dX11_layDays_8 rfl rfl ?_
  refine g_aload_n f 0 dX11_layDays_9 rfl rfl ?_
  obtain ⟨v5, h⟩ := h
  refine g_callV f mk_X11_70 v5 (c_X11_all h) dX11_layDays_10 rfl rfl (Nat.le_of_ble_eq_true rfl) (rm_ok (by decide) (by decide)) ⟨Nat.le_of_ble_eq_true rfl, Nat.le_of_ble_eq_true rfl⟩ (kI fun r8 μ6 x7 h => ?_)
  refine g_ic_gt f 116 dX11_layDays_13 rfl h (fun h => ?_) (fun h => ?_)
  · refine g_iload_n f 1 dX11_layDays_116 rfl rfl ?_
    exact g_iret f hq (Nat.le_of_ble_eq_true rfl) (Nat.le_of_ble_eq_true rfl) dX11_layDays_117 h
  · refine g_aload_n f 0 dX11_layDays_16 rfl rfl ?_
    have v5 := mex_ok x7 v5
    refine g_getR f fk_X11_50 v5 dX11_layDays_17 rfl h (fun t9 h => ?_)
    refine g_iload_n f 2 dX11_layDays_20 rfl rfl ?_
    obtain ⟨v10, h⟩ := h
    refine g_iald f v10 dX11_layDays_21 h (fun h => ?_)
    refine g_iload_n f 2 dX11_layDays_22 rfl rfl ?_
    refine g_ic_ne f 30 dX11_layDays_23 rfl h (fun h => ?_) (fun h => ?_)
    · refine g_iconst f 0 dX11_layDays_30 kc_0 ?_
      exact h_sub [0, 1, 2] rfl (tB_X11_layDays_31 f hq hK8 h)
    · refine g_iconst f 1 dX11_layDays_26 kc_1 ?_
      refine g_goto f 31 dX11_layDays_27 rfl ?_
      exact h_sub [0, 1, 2] rfl (tB_X11_layDays_31 f hq hK8 h)
def L_X11_layDays_8 (o0 : Nat) (i1 : Int32) (i2 : Int32) (μ : Me) (Q : Int32 → Me → Prop) : Prop := ∃ I : Int32 → Int32 → Me → Nat → Prop, (∃ n, I i1 i2 μ n) ∧ ∀ (i1 : Int32) (i2 : Int32) (μ : Me) (n : Nat), I i1 i2 μ n → B_X11_layDays_8 o0 i1 i2 μ (fun a1 a2 ν => ∃ n', n' < n ∧ I a1 a2 ν n') Q
set_option maxHeartbeats 4000000 in
set_option maxRecDepth 100000 in
theorem tL_X11_layDays_8 {x : GX} (f : Fx x cX11_layDays RX11 5 (rmc 7 0 0)) {o0 : Nat} {i1 : Int32} {i2 : Int32} {μ : Me} {Q : Int32 → Me → Prop} (hq : Rt x (some .int) (qI Q)) (h : L_X11_layDays_8 o0 i1 i2 μ Q) : G x 5 8 [(0, .ref (gB x + o0)), (1, .int i1), (2, .int i2)] [] μ 0 0 := by
  obtain ⟨I, ⟨n, hI⟩, hs⟩ := h
  induction n using Nat.strongRecOn generalizing i1 i2 μ with
  | ind n ih => exact tB_X11_layDays_8 f hq (fun a1 a2 ν hk => by obtain ⟨n2, hn, hI2⟩ := hk; exact ih n2 hn hI2) (hs _ _ _ _ hI)
def S_X11_layDays (o0 : Nat) (μ : Me) (Q : Int32 → Me → Prop) : Prop := mok μ o0 11 ∧ S_X11_layLeads o0 μ (fun μ2 => L_X11_layDays_8 o0 0 0 μ2 Q)
set_option maxHeartbeats 4000000 in
set_option maxRecDepth 100000 in
theorem t_X11_layDays {x : GX} (f : Fx x cX11_layDays RX11 5 (rmc 7 0 0)) {o0 : Nat} {μ : Me} {Q : Int32 → Me → Prop} (hq : Rt x (some .int) (qI Q)) (h : S_X11_layDays o0 μ Q) : G x 5 0 [(0, .ref (gB x + o0))] [] μ 0 0 := by
  unfold S_X11_layDays at h
  refine g_aload_n f 0 dX11_layDays_0 rfl rfl ?_
  obtain ⟨v1, h⟩ := h
  refine g_callV f mk_X11_377 v1 (c_X11_layLeads h) dX11_layDays_1 rfl rfl (Nat.le_of_ble_eq_true rfl) (rm_ok (by decide) (by decide)) ⟨Nat.le_of_ble_eq_true rfl, Nat.le_of_ble_eq_true rfl⟩ (kV fun μ2 x3 h => ?_)
  refine g_iconst f 0 dX11_layDays_4 kc_0 ?_
  refine h_istore_n f dX11_layDays_5 rfl (by decide) ?_
  refine g_iconst f 0 dX11_layDays_6 kc_0 ?_
  refine h_istore_n f dX11_layDays_7 rfl (by decide) ?_
  exact h_sub [2, 1, 0] rfl (tL_X11_layDays_8 f hq h)
theorem c_X11_layDays {Ω : OM} {o0 : Nat} {μ : Me} {Q : Int32 → Me → Prop} (h : S_X11_layDays o0 μ Q) : CT Ω yX11_layDays cX11_layDays 5 (some .int) (rmc 7 0 0) [.ref (oB Ω + o0)] μ (qI Q) := CT_of (by decide) rfl (by simp [lg_sl, Value.category]) (fun x hΩ f hq hi => by subst hΩ; exact t_X11_layDays f hq h)
theorem dX11_divisor_0 : decode cX11_divisor 0 = .ok (.iload_n 0, 1) := by decide +kernel
theorem dX11_divisor_1 : decode cX11_divisor 1 = .ok (.istore_n 2, 1) := by decide +kernel
theorem dX11_divisor_2 : decode cX11_divisor 2 = .ok (.iload_n 1, 1) := by decide +kernel
theorem dX11_divisor_3 : decode cX11_divisor 3 = .ok (.istore_n 3, 1) := by decide +kernel
theorem dX11_divisor_4 : decode cX11_divisor 4 = .ok (.iload_n 3, 1) := by decide +kernel
theorem dX11_divisor_5 : decode cX11_divisor 5 = .ok (.ifCond .eq 16, 3) := by decide +kernel
theorem dX11_divisor_8 : decode cX11_divisor 8 = .ok (.iload_n 2, 1) := by decide +kernel
theorem dX11_divisor_9 : decode cX11_divisor 9 = .ok (.iload_n 3, 1) := by decide +kernel
theorem dX11_divisor_10 : decode cX11_divisor 10 = .ok (.irem, 1) := by decide +kernel
theorem dX11_divisor_11 : decode cX11_divisor 11 = .ok (.istore 4, 2) := by decide +kernel
theorem dX11_divisor_13 : decode cX11_divisor 13 = .ok (.iload_n 3, 1) := by decide +kernel
theorem dX11_divisor_14 : decode cX11_divisor 14 = .ok (.istore_n 2, 1) := by decide +kernel
theorem dX11_divisor_15 : decode cX11_divisor 15 = .ok (.iload 4, 2) := by decide +kernel
theorem dX11_divisor_17 : decode cX11_divisor 17 = .ok (.istore_n 3, 1) := by decide +kernel
theorem dX11_divisor_18 : decode cX11_divisor 18 = .ok (.goto (-14), 3) := by decide +kernel
theorem dX11_divisor_21 : decode cX11_divisor 21 = .ok (.iload_n 2, 1) := by decide +kernel
theorem dX11_divisor_22 : decode cX11_divisor 22 = .ok (.ireturn, 1) := by decide +kernel
def B_X11_divisor_4 (i2 : Int32) (i3 : Int32) (μ : Me) (K4 : Int32 → Int32 → Me → Prop) (Q : Int32 → Me → Prop) : Prop := ((i3 = 0 → Q i2 μ) ∧ (¬ i3 = 0 → ¬ i3 = 0 ∧ K4 i3 (i2 - i2 / i3 * i3) μ))
set_option maxHeartbeats 4000000 in
set_option maxRecDepth 100000 in
theorem tB_X11_divisor_4 {x : GX} (f : Fx x cX11_divisor RX11 5 (rmc 0 0 0)) {i2 : Int32} {i3 : Int32} {μ : Me} {Q : Int32 → Me → Prop} (hq : Rt x (some .int) (qI Q)) {K4 : Int32 → Int32 → Me → Prop} (hK4 : ∀ (a2 : Int32) (a3 : Int32) (ν : Me), K4 a2 a3 ν → G x 5 4 [(2, .int a2), (3, .int a3)] [] ν 0 0) (h : B_X11_divisor_4 i2 i3 μ K4 Q) : G x 5 4 [(2, .int i2), (3, .int i3)] [] μ 0 0 := by
  unfold B_X11_divisor_4 at h
  refine g_iload_n f 1 dX11_divisor_4 rfl rfl ?_
  refine g_if_eq f 21 dX11_divisor_5 rfl h (fun h => ?_) (fun h => ?_)
  · refine g_iload_n f 0 dX11_divisor_21 rfl rfl ?_
    exact g_iret f hq (Nat.le_of_ble_eq_true rfl) (Nat.le_of_ble_eq_true rfl) dX11_divisor_22 h
  · refine g_iload_n f 0 dX11_divisor_8 rfl rfl ?_
    refine g_iload_n f 1 dX11_divisor_9 rfl rfl ?_
    obtain ⟨z1, h⟩ := h
    refine g_irem f dX11_divisor_10 z1 ?_
    refine h_istore f dX11_divisor_11 (by decide) ?_
    refine g_iload_n f 2 dX11_divisor_13 rfl rfl ?_
    refine h_istore_n f dX11_divisor_14 rfl (by decide) ?_
    refine g_iload f 1 dX11_divisor_15 rfl ?_
    refine h_istore_n f dX11_divisor_17 rfl (by decide) ?_
    refine g_goto f 4 dX11_divisor_18 rfl ?_
    exact h_sub [1, 0] rfl (hK4 _ _ _ h)
def L_X11_divisor_4 (i2 : Int32) (i3 : Int32) (μ : Me) (Q : Int32 → Me → Prop) : Prop := ∃ I : Int32 → Int32 → Me → Nat → Prop, (∃ n, I i2 i3 μ n) ∧ ∀ (i2 : Int32) (i3 : Int32) (μ : Me) (n : Nat), I i2 i3 μ n → B_X11_divisor_4 i2 i3 μ (fun a2 a3 ν => ∃ n', n' < n ∧ I a2 a3 ν n') Q
set_option maxHeartbeats 4000000 in
set_option maxRecDepth 100000 in
theorem tL_X11_divisor_4 {x : GX} (f : Fx x cX11_divisor RX11 5 (rmc 0 0 0)) {i2 : Int32} {i3 : Int32} {μ : Me} {Q : Int32 → Me → Prop} (hq : Rt x (some .int) (qI Q)) (h : L_X11_divisor_4 i2 i3 μ Q) : G x 5 4 [(2, .int i2), (3, .int i3)] [] μ 0 0 := by
  obtain ⟨I, ⟨n, hI⟩, hs⟩ := h
  induction n using Nat.strongRecOn generalizing i2 i3 μ with
  | ind n ih => exact tB_X11_divisor_4 f hq (fun a2 a3 ν hk => by obtain ⟨n2, hn, hI2⟩ := hk; exact ih n2 hn hI2) (hs _ _ _ _ hI)
def S_X11_divisor (i0 : Int32) (i1 : Int32) (μ : Me) (Q : Int32 → Me → Prop) : Prop := L_X11_divisor_4 i0 i1 μ Q
set_option maxHeartbeats 4000000 in
set_option maxRecDepth 100000 in
theorem t_X11_divisor {x : GX} (f : Fx x cX11_divisor RX11 5 (rmc 0 0 0)) {i0 : Int32} {i1 : Int32} {μ : Me} {Q : Int32 → Me → Prop} (hq : Rt x (some .int) (qI Q)) (h : S_X11_divisor i0 i1 μ Q) : G x 5 0 [(0, .int i0), (1, .int i1)] [] μ 0 0 := by
  unfold S_X11_divisor at h
  refine g_iload_n f 0 dX11_divisor_0 rfl rfl ?_
  refine h_istore_n f dX11_divisor_1 rfl (by decide) ?_
  refine g_iload_n f 2 dX11_divisor_2 rfl rfl ?_
  refine h_istore_n f dX11_divisor_3 rfl (by decide) ?_
  exact h_sub [1, 0] rfl (tL_X11_divisor_4 f hq h)
theorem c_X11_divisor {Ω : OM} {i0 : Int32} {i1 : Int32} {μ : Me} {Q : Int32 → Me → Prop} (h : S_X11_divisor i0 i1 μ Q) : CT Ω yX11_divisor cX11_divisor 5 (some .int) (rmc 0 0 0) [.int i0, .int i1] μ (qI Q) := CT_of (by decide) rfl (by simp [lg_sl, Value.category]) (fun x hΩ f hq hi => by subst hΩ; exact t_X11_divisor f hq h)
