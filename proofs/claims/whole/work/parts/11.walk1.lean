/-! contracts by program (wip/whole/gen.py) -/
theorem dX0_likely_0 : decode cX0_likely 0 = .ok (.aload_n 0, 1) := by decide +kernel
theorem dX0_likely_1 : decode cX0_likely 1 = .ok (.getfield 29, 3) := by decide +kernel
theorem dX0_likely_4 : decode cX0_likely 4 = .ok (.ifCond .ne 5, 3) := by decide +kernel
theorem dX0_likely_7 : decode cX0_likely 7 = .ok (.iconst (-1), 1) := by decide +kernel
theorem dX0_likely_8 : decode cX0_likely 8 = .ok (.ireturn, 1) := by decide +kernel
theorem dX0_likely_9 : decode cX0_likely 9 = .ok (.iconst 0, 1) := by decide +kernel
theorem dX0_likely_10 : decode cX0_likely 10 = .ok (.istore_n 3, 1) := by decide +kernel
theorem dX0_likely_11 : decode cX0_likely 11 = .ok (.iconst 0, 1) := by decide +kernel
theorem dX0_likely_12 : decode cX0_likely 12 = .ok (.istore 4, 2) := by decide +kernel
theorem dX0_likely_14 : decode cX0_likely 14 = .ok (.iload 4, 2) := by decide +kernel
theorem dX0_likely_16 : decode cX0_likely 16 = .ok (.aload_n 0, 1) := by decide +kernel
theorem dX0_likely_17 : decode cX0_likely 17 = .ok (.getfield 29, 3) := by decide +kernel
theorem dX0_likely_20 : decode cX0_likely 20 = .ok (.if_icmp .ge 23, 3) := by decide +kernel
theorem dX0_likely_23 : decode cX0_likely 23 = .ok (.iload_n 3, 1) := by decide +kernel
theorem dX0_likely_24 : decode cX0_likely 24 = .ok (.aload_n 0, 1) := by decide +kernel
theorem dX0_likely_25 : decode cX0_likely 25 = .ok (.getfield 9, 3) := by decide +kernel
theorem dX0_likely_28 : decode cX0_likely 28 = .ok (.iload 4, 2) := by decide +kernel
theorem dX0_likely_30 : decode cX0_likely 30 = .ok (.iaload, 1) := by decide +kernel
theorem dX0_likely_31 : decode cX0_likely 31 = .ok (.iload_n 1, 1) := by decide +kernel
theorem dX0_likely_32 : decode cX0_likely 32 = .ok (.ishr, 1) := by decide +kernel
theorem dX0_likely_33 : decode cX0_likely 33 = .ok (.iconst 1, 1) := by decide +kernel
theorem dX0_likely_34 : decode cX0_likely 34 = .ok (.iand, 1) := by decide +kernel
theorem dX0_likely_35 : decode cX0_likely 35 = .ok (.iadd, 1) := by decide +kernel
theorem dX0_likely_36 : decode cX0_likely 36 = .ok (.istore_n 3, 1) := by decide +kernel
theorem dX0_likely_37 : decode cX0_likely 37 = .ok (.iinc 4 1, 3) := by decide +kernel
theorem dX0_likely_40 : decode cX0_likely 40 = .ok (.goto (-26), 3) := by decide +kernel
theorem dX0_likely_43 : decode cX0_likely 43 = .ok (.aload_n 0, 1) := by decide +kernel
theorem dX0_likely_44 : decode cX0_likely 44 = .ok (.getfield 29, 3) := by decide +kernel
theorem dX0_likely_47 : decode cX0_likely 47 = .ok (.iload_n 3, 1) := by decide +kernel
theorem dX0_likely_48 : decode cX0_likely 48 = .ok (.invokestatic 58, 3) := by decide +kernel
theorem dX0_likely_51 : decode cX0_likely 51 = .ok (.istore 4, 2) := by decide +kernel
theorem dX0_likely_53 : decode cX0_likely 53 = .ok (.iload_n 2, 1) := by decide +kernel
theorem dX0_likely_54 : decode cX0_likely 54 = .ok (.ifCond .eq 13, 3) := by decide +kernel
theorem dX0_likely_57 : decode cX0_likely 57 = .ok (.aload_n 0, 1) := by decide +kernel
theorem dX0_likely_58 : decode cX0_likely 58 = .ok (.getfield 29, 3) := by decide +kernel
theorem dX0_likely_61 : decode cX0_likely 61 = .ok (.iload 4, 2) := by decide +kernel
theorem dX0_likely_63 : decode cX0_likely 63 = .ok (.idiv, 1) := by decide +kernel
theorem dX0_likely_64 : decode cX0_likely 64 = .ok (.goto 7, 3) := by decide +kernel
theorem dX0_likely_67 : decode cX0_likely 67 = .ok (.iload_n 3, 1) := by decide +kernel
theorem dX0_likely_68 : decode cX0_likely 68 = .ok (.iload 4, 2) := by decide +kernel
theorem dX0_likely_70 : decode cX0_likely 70 = .ok (.idiv, 1) := by decide +kernel
theorem dX0_likely_71 : decode cX0_likely 71 = .ok (.ireturn, 1) := by decide +kernel
def B_X0_likely_14 (o0 : Nat) (i1 : Int32) (i2 : Int32) (i3 : Int32) (i4 : Int32) (μ : Me) (K14 : Int32 → Int32 → Me → Prop) (Q : Int32 → Me → Prop) : Prop := mok μ o0 0 ∧ (((mgi μ o0 5) ≤ i4 → S_X0_commonOf (mgi μ o0 5) i3 μ (fun r5 μ3 => ((i2 = 0 → ¬ r5 = 0 ∧ Q (i3 / r5) μ3) ∧ (¬ i2 = 0 → ¬ r5 = 0 ∧ Q ((mgi μ3 o0 5) / r5) μ3)))) ∧ (¬ (mgi μ o0 5) ≤ i4 → ∃ t8, mgr μ o0 2 = some t8 ∧ mok μ t8 12 ∧ vp_in i4 (mln μ t8) ∧ K14 (i3 + (((mgi μ t8 i4.toNatClampNeg) >>> (i1 &&& 31)) &&& 1)) (i4 + 1) μ))
set_option maxHeartbeats 4000000 in
set_option maxRecDepth 100000 in
theorem tB_X0_likely_14 {x : GX} (f : Fx x cX0_likely RX0 5 (rmc 1 0 0)) {o0 : Nat} {i1 : Int32} {i2 : Int32} {i3 : Int32} {i4 : Int32} {μ : Me} {Q : Int32 → Me → Prop} (hq : Rt x (some .int) (qI Q)) {K14 : Int32 → Int32 → Me → Prop} (hK14 : ∀ (a3 : Int32) (a4 : Int32) (ν : Me), K14 a3 a4 ν → G x 5 14 [(0, .ref (gB x + o0)), (1, .int i1), (2, .int i2), (3, .int a3), (4, .int a4)] [] ν 0 0) (h : B_X0_likely_14 o0 i1 i2 i3 i4 μ K14 Q) : G x 5 14 [(0, .ref (gB x + o0)), (1, .int i1), (2, .int i2), (3, .int i3), (4, .int i4)] [] μ 0 0 := by
  unfold B_X0_likely_14 at h
  refine g_iload f 4 dX0_likely_14 rfl ?_
  refine g_aload_n f 0 dX0_likely_16 rfl rfl ?_
  obtain ⟨v2, h⟩ := h
  refine g_getI f fk_X0_29 v2 dX0_likely_17 rfl ?_
  refine g_ic_ge f 43 dX0_likely_20 rfl h (fun h => ?_) (fun h => ?_)
  · refine g_aload_n f 0 dX0_likely_43 rfl rfl ?_
    refine g_getI f fk_X0_29 v2 dX0_likely_44 rfl ?_
    refine g_iload_n f 3 dX0_likely_47 rfl rfl ?_
    refine g_callS f mk_X0_58 (c_X0_commonOf h) dX0_likely_48 rfl rfl (Nat.le_of_ble_eq_true rfl) (rm_ok (by decide) (by decide)) ⟨Nat.le_of_ble_eq_true rfl, Nat.le_of_ble_eq_true rfl⟩ (kI fun r5 μ3 x4 h => ?_)
    refine h_istore f dX0_likely_51 (by decide) ?_
    refine g_iload_n f 3 dX0_likely_53 rfl rfl ?_
    refine g_if_eq f 67 dX0_likely_54 rfl h (fun h => ?_) (fun h => ?_)
    · refine g_iload_n f 4 dX0_likely_67 rfl rfl ?_
      refine g_iload f 0 dX0_likely_68 rfl ?_
      obtain ⟨z6, h⟩ := h
      refine g_idiv f dX0_likely_70 z6 ?_
      exact g_iret f hq (Nat.le_of_ble_eq_true rfl) (Nat.le_of_ble_eq_true rfl) dX0_likely_71 h
    · refine g_aload_n f 1 dX0_likely_57 rfl rfl ?_
      have v2 := mex_ok x4 v2
      refine g_getI f fk_X0_29 v2 dX0_likely_58 rfl ?_
      refine g_iload f 0 dX0_likely_61 rfl ?_
      obtain ⟨z7, h⟩ := h
      refine g_idiv f dX0_likely_63 z7 ?_
      refine g_goto f 71 dX0_likely_64 rfl ?_
      exact g_iret f hq (Nat.le_of_ble_eq_true rfl) (Nat.le_of_ble_eq_true rfl) dX0_likely_71 h
  · refine g_iload_n f 3 dX0_likely_23 rfl rfl ?_
    refine g_aload_n f 0 dX0_likely_24 rfl rfl ?_
    refine g_getR f fk_X0_9 v2 dX0_likely_25 rfl h (fun t8 h => ?_)
    refine g_iload f 4 dX0_likely_28 rfl ?_
    obtain ⟨v9, h⟩ := h
    refine g_iald f v9 dX0_likely_30 h (fun h => ?_)
    refine g_iload_n f 1 dX0_likely_31 rfl rfl ?_
    refine g_ishr f dX0_likely_32 ?_
    refine g_iconst f 1 dX0_likely_33 kc_1 ?_
    refine g_iand f dX0_likely_34 ?_
    refine g_iadd f dX0_likely_35 ?_
    refine h_istore_n f dX0_likely_36 rfl (by decide) ?_
    refine h_iinc f 4 1 dX0_likely_37 rfl kc_1 (by decide) ?_
    refine g_goto f 14 dX0_likely_40 rfl ?_
    exact h_sub [2, 3, 4, 1, 0] rfl (hK14 _ _ _ h)
def L_X0_likely_14 (o0 : Nat) (i1 : Int32) (i2 : Int32) (i3 : Int32) (i4 : Int32) (μ : Me) (Q : Int32 → Me → Prop) : Prop := ∃ I : Int32 → Int32 → Me → Nat → Prop, (∃ n, I i3 i4 μ n) ∧ ∀ (i3 : Int32) (i4 : Int32) (μ : Me) (n : Nat), I i3 i4 μ n → B_X0_likely_14 o0 i1 i2 i3 i4 μ (fun a3 a4 ν => ∃ n', n' < n ∧ I a3 a4 ν n') Q
set_option maxHeartbeats 4000000 in
set_option maxRecDepth 100000 in
theorem tL_X0_likely_14 {x : GX} (f : Fx x cX0_likely RX0 5 (rmc 1 0 0)) {o0 : Nat} {i1 : Int32} {i2 : Int32} {i3 : Int32} {i4 : Int32} {μ : Me} {Q : Int32 → Me → Prop} (hq : Rt x (some .int) (qI Q)) (h : L_X0_likely_14 o0 i1 i2 i3 i4 μ Q) : G x 5 14 [(0, .ref (gB x + o0)), (1, .int i1), (2, .int i2), (3, .int i3), (4, .int i4)] [] μ 0 0 := by
  obtain ⟨I, ⟨n, hI⟩, hs⟩ := h
  induction n using Nat.strongRecOn generalizing i3 i4 μ with
  | ind n ih => exact tB_X0_likely_14 f hq (fun a3 a4 ν hk => by obtain ⟨n2, hn, hI2⟩ := hk; exact ih n2 hn hI2) (hs _ _ _ _ hI)
def S_X0_likely (o0 : Nat) (i1 : Int32) (i2 : Int32) (μ : Me) (Q : Int32 → Me → Prop) : Prop := mok μ o0 0 ∧ ((¬ (mgi μ o0 5) = 0 → L_X0_likely_14 o0 i1 i2 0 0 μ Q) ∧ ((mgi μ o0 5) = 0 → Q (-1) μ))
set_option maxHeartbeats 4000000 in
set_option maxRecDepth 100000 in
theorem t_X0_likely {x : GX} (f : Fx x cX0_likely RX0 5 (rmc 1 0 0)) {o0 : Nat} {i1 : Int32} {i2 : Int32} {μ : Me} {Q : Int32 → Me → Prop} (hq : Rt x (some .int) (qI Q)) (h : S_X0_likely o0 i1 i2 μ Q) : G x 5 0 [(0, .ref (gB x + o0)), (1, .int i1), (2, .int i2)] [] μ 0 0 := by
  unfold S_X0_likely at h
  refine g_aload_n f 0 dX0_likely_0 rfl rfl ?_
  obtain ⟨v1, h⟩ := h
  refine g_getI f fk_X0_29 v1 dX0_likely_1 rfl ?_
  refine g_if_ne f 9 dX0_likely_4 rfl h (fun h => ?_) (fun h => ?_)
  · refine g_iconst f 0 dX0_likely_9 kc_0 ?_
    refine h_istore_n f dX0_likely_10 rfl (by decide) ?_
    refine g_iconst f 0 dX0_likely_11 kc_0 ?_
    refine h_istore f dX0_likely_12 (by decide) ?_
    exact h_sub [2, 3, 4, 1, 0] rfl (tL_X0_likely_14 f hq h)
  · refine g_iconst f (-1) dX0_likely_7 kc_m1 ?_
    exact g_iret f hq (Nat.le_of_ble_eq_true rfl) (Nat.le_of_ble_eq_true rfl) dX0_likely_8 h
theorem c_X0_likely {Ω : OM} {o0 : Nat} {i1 : Int32} {i2 : Int32} {μ : Me} {Q : Int32 → Me → Prop} (h : S_X0_likely o0 i1 i2 μ Q) : CT Ω yX0_likely cX0_likely 5 (some .int) (rmc 1 0 0) [.ref (oB Ω + o0), .int i1, .int i2] μ (qI Q) := CT_of (by decide) rfl (by simp [lg_sl, Value.category]) (fun x hΩ f hq hi => by subst hΩ; exact t_X0_likely f hq h)
theorem dX0_lateInAll_0 : decode cX0_lateInAll 0 = .ok (.iconst 1, 1) := by decide +kernel
theorem dX0_lateInAll_1 : decode cX0_lateInAll 1 = .ok (.aload_n 0, 1) := by decide +kernel
theorem dX0_lateInAll_2 : decode cX0_lateInAll 2 = .ok (.getfield 21, 3) := by decide +kernel
theorem dX0_lateInAll_5 : decode cX0_lateInAll 5 = .ok (.getfield 67, 3) := by decide +kernel
theorem dX0_lateInAll_8 : decode cX0_lateInAll 8 = .ok (.ishl, 1) := by decide +kernel
theorem dX0_lateInAll_9 : decode cX0_lateInAll 9 = .ok (.iconst 1, 1) := by decide +kernel
theorem dX0_lateInAll_10 : decode cX0_lateInAll 10 = .ok (.isub, 1) := by decide +kernel
theorem dX0_lateInAll_11 : decode cX0_lateInAll 11 = .ok (.istore_n 1, 1) := by decide +kernel
theorem dX0_lateInAll_12 : decode cX0_lateInAll 12 = .ok (.iconst 0, 1) := by decide +kernel
theorem dX0_lateInAll_13 : decode cX0_lateInAll 13 = .ok (.istore_n 2, 1) := by decide +kernel
theorem dX0_lateInAll_14 : decode cX0_lateInAll 14 = .ok (.iload_n 2, 1) := by decide +kernel
theorem dX0_lateInAll_15 : decode cX0_lateInAll 15 = .ok (.aload_n 0, 1) := by decide +kernel
theorem dX0_lateInAll_16 : decode cX0_lateInAll 16 = .ok (.getfield 29, 3) := by decide +kernel
theorem dX0_lateInAll_19 : decode cX0_lateInAll 19 = .ok (.if_icmp .ge 18, 3) := by decide +kernel
theorem dX0_lateInAll_22 : decode cX0_lateInAll 22 = .ok (.iload_n 1, 1) := by decide +kernel
theorem dX0_lateInAll_23 : decode cX0_lateInAll 23 = .ok (.aload_n 0, 1) := by decide +kernel
theorem dX0_lateInAll_24 : decode cX0_lateInAll 24 = .ok (.getfield 9, 3) := by decide +kernel
theorem dX0_lateInAll_27 : decode cX0_lateInAll 27 = .ok (.iload_n 2, 1) := by decide +kernel
theorem dX0_lateInAll_28 : decode cX0_lateInAll 28 = .ok (.iaload, 1) := by decide +kernel
theorem dX0_lateInAll_29 : decode cX0_lateInAll 29 = .ok (.iand, 1) := by decide +kernel
theorem dX0_lateInAll_30 : decode cX0_lateInAll 30 = .ok (.istore_n 1, 1) := by decide +kernel
theorem dX0_lateInAll_31 : decode cX0_lateInAll 31 = .ok (.iinc 2 1, 3) := by decide +kernel
theorem dX0_lateInAll_34 : decode cX0_lateInAll 34 = .ok (.goto (-20), 3) := by decide +kernel
theorem dX0_lateInAll_37 : decode cX0_lateInAll 37 = .ok (.iload_n 1, 1) := by decide +kernel
theorem dX0_lateInAll_38 : decode cX0_lateInAll 38 = .ok (.ireturn, 1) := by decide +kernel
def B_X0_lateInAll_14 (o0 : Nat) (i1 : Int32) (i2 : Int32) (μ : Me) (K14 : Int32 → Int32 → Me → Prop) (Q : Int32 → Me → Prop) : Prop := mok μ o0 0 ∧ (((mgi μ o0 5) ≤ i2 → Q i1 μ) ∧ (¬ (mgi μ o0 5) ≤ i2 → ∃ t5, mgr μ o0 2 = some t5 ∧ mok μ t5 12 ∧ vp_in i2 (mln μ t5) ∧ K14 (i1 &&& (mgi μ t5 i2.toNatClampNeg)) (i2 + 1) μ))
set_option maxHeartbeats 4000000 in
set_option maxRecDepth 100000 in
theorem tB_X0_lateInAll_14 {x : GX} (f : Fx x cX0_lateInAll RX0 3 (rmc 0 0 0)) {o0 : Nat} {i1 : Int32} {i2 : Int32} {μ : Me} {Q : Int32 → Me → Prop} (hq : Rt x (some .int) (qI Q)) {K14 : Int32 → Int32 → Me → Prop} (hK14 : ∀ (a1 : Int32) (a2 : Int32) (ν : Me), K14 a1 a2 ν → G x 3 14 [(0, .ref (gB x + o0)), (1, .int a1), (2, .int a2)] [] ν 0 0) (h : B_X0_lateInAll_14 o0 i1 i2 μ K14 Q) : G x 3 14 [(0, .ref (gB x + o0)), (1, .int i1), (2, .int i2)] [] μ 0 0 := by
  unfold B_X0_lateInAll_14 at h
  refine g_iload_n f 2 dX0_lateInAll_14 rfl rfl ?_
  refine g_aload_n f 0 dX0_lateInAll_15 rfl rfl ?_
  obtain ⟨v4, h⟩ := h
  refine g_getI f fk_X0_29 v4 dX0_lateInAll_16 rfl ?_
  refine g_ic_ge f 37 dX0_lateInAll_19 rfl h (fun h => ?_) (fun h => ?_)
  · refine g_iload_n f 1 dX0_lateInAll_37 rfl rfl ?_
    exact g_iret f hq (Nat.le_of_ble_eq_true rfl) (Nat.le_of_ble_eq_true rfl) dX0_lateInAll_38 h
  · refine g_iload_n f 1 dX0_lateInAll_22 rfl rfl ?_
    refine g_aload_n f 0 dX0_lateInAll_23 rfl rfl ?_
    refine g_getR f fk_X0_9 v4 dX0_lateInAll_24 rfl h (fun t5 h => ?_)
    refine g_iload_n f 2 dX0_lateInAll_27 rfl rfl ?_
    obtain ⟨v6, h⟩ := h
    refine g_iald f v6 dX0_lateInAll_28 h (fun h => ?_)
    refine g_iand f dX0_lateInAll_29 ?_
    refine h_istore_n f dX0_lateInAll_30 rfl (by decide) ?_
    refine h_iinc f 2 1 dX0_lateInAll_31 rfl kc_1 (by decide) ?_
    refine g_goto f 14 dX0_lateInAll_34 rfl ?_
    exact h_sub [2, 1, 0] rfl (hK14 _ _ _ h)
def L_X0_lateInAll_14 (o0 : Nat) (i1 : Int32) (i2 : Int32) (μ : Me) (Q : Int32 → Me → Prop) : Prop := ∃ I : Int32 → Int32 → Me → Nat → Prop, (∃ n, I i1 i2 μ n) ∧ ∀ (i1 : Int32) (i2 : Int32) (μ : Me) (n : Nat), I i1 i2 μ n → B_X0_lateInAll_14 o0 i1 i2 μ (fun a1 a2 ν => ∃ n', n' < n ∧ I a1 a2 ν n') Q
set_option maxHeartbeats 4000000 in
set_option maxRecDepth 100000 in
theorem tL_X0_lateInAll_14 {x : GX} (f : Fx x cX0_lateInAll RX0 3 (rmc 0 0 0)) {o0 : Nat} {i1 : Int32} {i2 : Int32} {μ : Me} {Q : Int32 → Me → Prop} (hq : Rt x (some .int) (qI Q)) (h : L_X0_lateInAll_14 o0 i1 i2 μ Q) : G x 3 14 [(0, .ref (gB x + o0)), (1, .int i1), (2, .int i2)] [] μ 0 0 := by
  obtain ⟨I, ⟨n, hI⟩, hs⟩ := h
  induction n using Nat.strongRecOn generalizing i1 i2 μ with
  | ind n ih => exact tB_X0_lateInAll_14 f hq (fun a1 a2 ν hk => by obtain ⟨n2, hn, hI2⟩ := hk; exact ih n2 hn hI2) (hs _ _ _ _ hI)
def S_X0_lateInAll (o0 : Nat) (μ : Me) (Q : Int32 → Me → Prop) : Prop := mok μ o0 0 ∧ ∃ t2, mgr μ o0 0 = some t2 ∧ mok μ t2 9 ∧ L_X0_lateInAll_14 o0 ((1 <<< ((mgi μ t2 0) &&& 31)) - 1) 0 μ Q
set_option maxHeartbeats 4000000 in
set_option maxRecDepth 100000 in
theorem t_X0_lateInAll {x : GX} (f : Fx x cX0_lateInAll RX0 3 (rmc 0 0 0)) {o0 : Nat} {μ : Me} {Q : Int32 → Me → Prop} (hq : Rt x (some .int) (qI Q)) (h : S_X0_lateInAll o0 μ Q) : G x 3 0 [(0, .ref (gB x + o0))] [] μ 0 0 := by
  unfold S_X0_lateInAll at h
  refine g_iconst f 1 dX0_lateInAll_0 kc_1 ?_
  refine g_aload_n f 0 dX0_lateInAll_1 rfl rfl ?_
  obtain ⟨v1, h⟩ := h
  refine g_getR f fk_X0_21 v1 dX0_lateInAll_2 rfl h (fun t2 h => ?_)
  obtain ⟨v3, h⟩ := h
  refine g_getI f fk_X0_67 v3 dX0_lateInAll_5 rfl ?_
  refine g_ishl f dX0_lateInAll_8 ?_
  refine g_iconst f 1 dX0_lateInAll_9 kc_1 ?_
  refine g_isub f dX0_lateInAll_10 ?_
  refine h_istore_n f dX0_lateInAll_11 rfl (by decide) ?_
  refine g_iconst f 0 dX0_lateInAll_12 kc_0 ?_
  refine h_istore_n f dX0_lateInAll_13 rfl (by decide) ?_
  exact h_sub [2, 1, 0] rfl (tL_X0_lateInAll_14 f hq h)
theorem c_X0_lateInAll {Ω : OM} {o0 : Nat} {μ : Me} {Q : Int32 → Me → Prop} (h : S_X0_lateInAll o0 μ Q) : CT Ω yX0_lateInAll cX0_lateInAll 3 (some .int) (rmc 0 0 0) [.ref (oB Ω + o0)] μ (qI Q) := CT_of (by decide) rfl (by simp [lg_sl, Value.category]) (fun x hΩ f hq hi => by subst hΩ; exact t_X0_lateInAll f hq h)
theorem dX0_lateInNone_0 : decode cX0_lateInNone 0 = .ok (.iconst 1, 1) := by decide +kernel
theorem dX0_lateInNone_1 : decode cX0_lateInNone 1 = .ok (.aload_n 0, 1) := by decide +kernel
theorem dX0_lateInNone_2 : decode cX0_lateInNone 2 = .ok (.getfield 21, 3) := by decide +kernel
theorem dX0_lateInNone_5 : decode cX0_lateInNone 5 = .ok (.getfield 67, 3) := by decide +kernel
theorem dX0_lateInNone_8 : decode cX0_lateInNone 8 = .ok (.ishl, 1) := by decide +kernel
theorem dX0_lateInNone_9 : decode cX0_lateInNone 9 = .ok (.iconst 1, 1) := by decide +kernel
theorem dX0_lateInNone_10 : decode cX0_lateInNone 10 = .ok (.isub, 1) := by decide +kernel
theorem dX0_lateInNone_11 : decode cX0_lateInNone 11 = .ok (.istore_n 1, 1) := by decide +kernel
theorem dX0_lateInNone_12 : decode cX0_lateInNone 12 = .ok (.iconst 0, 1) := by decide +kernel
theorem dX0_lateInNone_13 : decode cX0_lateInNone 13 = .ok (.istore_n 2, 1) := by decide +kernel
theorem dX0_lateInNone_14 : decode cX0_lateInNone 14 = .ok (.iload_n 2, 1) := by decide +kernel
theorem dX0_lateInNone_15 : decode cX0_lateInNone 15 = .ok (.aload_n 0, 1) := by decide +kernel
theorem dX0_lateInNone_16 : decode cX0_lateInNone 16 = .ok (.getfield 29, 3) := by decide +kernel
theorem dX0_lateInNone_19 : decode cX0_lateInNone 19 = .ok (.if_icmp .ge 20, 3) := by decide +kernel
theorem dX0_lateInNone_22 : decode cX0_lateInNone 22 = .ok (.iload_n 1, 1) := by decide +kernel
theorem dX0_lateInNone_23 : decode cX0_lateInNone 23 = .ok (.aload_n 0, 1) := by decide +kernel
theorem dX0_lateInNone_24 : decode cX0_lateInNone 24 = .ok (.getfield 9, 3) := by decide +kernel
theorem dX0_lateInNone_27 : decode cX0_lateInNone 27 = .ok (.iload_n 2, 1) := by decide +kernel
theorem dX0_lateInNone_28 : decode cX0_lateInNone 28 = .ok (.iaload, 1) := by decide +kernel
theorem dX0_lateInNone_29 : decode cX0_lateInNone 29 = .ok (.iconst (-1), 1) := by decide +kernel
theorem dX0_lateInNone_30 : decode cX0_lateInNone 30 = .ok (.ixor, 1) := by decide +kernel
theorem dX0_lateInNone_31 : decode cX0_lateInNone 31 = .ok (.iand, 1) := by decide +kernel
theorem dX0_lateInNone_32 : decode cX0_lateInNone 32 = .ok (.istore_n 1, 1) := by decide +kernel
theorem dX0_lateInNone_33 : decode cX0_lateInNone 33 = .ok (.iinc 2 1, 3) := by decide +kernel
theorem dX0_lateInNone_36 : decode cX0_lateInNone 36 = .ok (.goto (-22), 3) := by decide +kernel
theorem dX0_lateInNone_39 : decode cX0_lateInNone 39 = .ok (.iload_n 1, 1) := by decide +kernel
theorem dX0_lateInNone_40 : decode cX0_lateInNone 40 = .ok (.ireturn, 1) := by decide +kernel
def B_X0_lateInNone_14 (o0 : Nat) (i1 : Int32) (i2 : Int32) (μ : Me) (K14 : Int32 → Int32 → Me → Prop) (Q : Int32 → Me → Prop) : Prop := mok μ o0 0 ∧ (((mgi μ o0 5) ≤ i2 → Q i1 μ) ∧ (¬ (mgi μ o0 5) ≤ i2 → ∃ t5, mgr μ o0 2 = some t5 ∧ mok μ t5 12 ∧ vp_in i2 (mln μ t5) ∧ K14 (i1 &&& ((mgi μ t5 i2.toNatClampNeg) ^^^ (-1))) (i2 + 1) μ))
set_option maxHeartbeats 4000000 in
set_option maxRecDepth 100000 in
theorem tB_X0_lateInNone_14 {x : GX} (f : Fx x cX0_lateInNone RX0 3 (rmc 0 0 0)) {o0 : Nat} {i1 : Int32} {i2 : Int32} {μ : Me} {Q : Int32 → Me → Prop} (hq : Rt x (some .int) (qI Q)) {K14 : Int32 → Int32 → Me → Prop} (hK14 : ∀ (a1 : Int32) (a2 : Int32) (ν : Me), K14 a1 a2 ν → G x 3 14 [(0, .ref (gB x + o0)), (1, .int a1), (2, .int a2)] [] ν 0 0) (h : B_X0_lateInNone_14 o0 i1 i2 μ K14 Q) : G x 3 14 [(0, .ref (gB x + o0)), (1, .int i1), (2, .int i2)] [] μ 0 0 := by
  unfold B_X0_lateInNone_14 at h
  refine g_iload_n f 2 dX0_lateInNone_14 rfl rfl ?_
  refine g_aload_n f 0 dX0_lateInNone_15 rfl rfl ?_
  obtain ⟨v4, h⟩ := h
  refine g_getI f fk_X0_29 v4 dX0_lateInNone_16 rfl ?_
  refine g_ic_ge f 39 dX0_lateInNone_19 rfl h (fun h => ?_) (fun h => ?_)
  · refine g_iload_n f 1 dX0_lateInNone_39 rfl rfl ?_
    exact g_iret f hq (Nat.le_of_ble_eq_true rfl) (Nat.le_of_ble_eq_true rfl) dX0_lateInNone_40 h
  · refine g_iload_n f 1 dX0_lateInNone_22 rfl rfl ?_
    refine g_aload_n f 0 dX0_lateInNone_23 rfl rfl ?_
    refine g_getR f fk_X0_9 v4 dX0_lateInNone_24 rfl h (fun t5 h => ?_)
    refine g_iload_n f 2 dX0_lateInNone_27 rfl rfl ?_
    obtain ⟨v6, h⟩ := h
    refine g_iald f v6 dX0_lateInNone_28 h (fun h => ?_)
    refine g_iconst f (-1) dX0_lateInNone_29 kc_m1 ?_
    refine g_ixor f dX0_lateInNone_30 ?_
    refine g_iand f dX0_lateInNone_31 ?_
    refine h_istore_n f dX0_lateInNone_32 rfl (by decide) ?_
    refine h_iinc f 2 1 dX0_lateInNone_33 rfl kc_1 (by decide) ?_
    refine g_goto f 14 dX0_lateInNone_36 rfl ?_
    exact h_sub [2, 1, 0] rfl (hK14 _ _ _ h)
def L_X0_lateInNone_14 (o0 : Nat) (i1 : Int32) (i2 : Int32) (μ : Me) (Q : Int32 → Me → Prop) : Prop := ∃ I : Int32 → Int32 → Me → Nat → Prop, (∃ n, I i1 i2 μ n) ∧ ∀ (i1 : Int32) (i2 : Int32) (μ : Me) (n : Nat), I i1 i2 μ n → B_X0_lateInNone_14 o0 i1 i2 μ (fun a1 a2 ν => ∃ n', n' < n ∧ I a1 a2 ν n') Q
set_option maxHeartbeats 4000000 in
set_option maxRecDepth 100000 in
theorem tL_X0_lateInNone_14 {x : GX} (f : Fx x cX0_lateInNone RX0 3 (rmc 0 0 0)) {o0 : Nat} {i1 : Int32} {i2 : Int32} {μ : Me} {Q : Int32 → Me → Prop} (hq : Rt x (some .int) (qI Q)) (h : L_X0_lateInNone_14 o0 i1 i2 μ Q) : G x 3 14 [(0, .ref (gB x + o0)), (1, .int i1), (2, .int i2)] [] μ 0 0 := by
  obtain ⟨I, ⟨n, hI⟩, hs⟩ := h
  induction n using Nat.strongRecOn generalizing i1 i2 μ with
  | ind n ih => exact tB_X0_lateInNone_14 f hq (fun a1 a2 ν hk => by obtain ⟨n2, hn, hI2⟩ := hk; exact ih n2 hn hI2) (hs _ _ _ _ hI)
def S_X0_lateInNone (o0 : Nat) (μ : Me) (Q : Int32 → Me → Prop) : Prop := mok μ o0 0 ∧ ∃ t2, mgr μ o0 0 = some t2 ∧ mok μ t2 9 ∧ L_X0_lateInNone_14 o0 ((1 <<< ((mgi μ t2 0) &&& 31)) - 1) 0 μ Q
set_option maxHeartbeats 4000000 in
set_option maxRecDepth 100000 in
theorem t_X0_lateInNone {x : GX} (f : Fx x cX0_lateInNone RX0 3 (rmc 0 0 0)) {o0 : Nat} {μ : Me} {Q : Int32 → Me → Prop} (hq : Rt x (some .int) (qI Q)) (h : S_X0_lateInNone o0 μ Q) : G x 3 0 [(0, .ref (gB x + o0))] [] μ 0 0 := by
  unfold S_X0_lateInNone at h
  refine g_iconst f 1 dX0_lateInNone_0 kc_1 ?_
  refine g_aload_n f 0 dX0_lateInNone_1 rfl rfl ?_
  obtain ⟨v1, h⟩ := h
  refine g_getR f fk_X0_21 v1 dX0_lateInNone_2 rfl h (fun t2 h => ?_)
  obtain ⟨v3, h⟩ := h
  refine g_getI f fk_X0_67 v3 dX0_lateInNone_5 rfl ?_
  refine g_ishl f dX0_lateInNone_8 ?_
  refine g_iconst f 1 dX0_lateInNone_9 kc_1 ?_
  refine g_isub f dX0_lateInNone_10 ?_
  refine h_istore_n f dX0_lateInNone_11 rfl (by decide) ?_
  refine g_iconst f 0 dX0_lateInNone_12 kc_0 ?_
  refine h_istore_n f dX0_lateInNone_13 rfl (by decide) ?_
  exact h_sub [2, 1, 0] rfl (tL_X0_lateInNone_14 f hq h)
theorem c_X0_lateInNone {Ω : OM} {o0 : Nat} {μ : Me} {Q : Int32 → Me → Prop} (h : S_X0_lateInNone o0 μ Q) : CT Ω yX0_lateInNone cX0_lateInNone 3 (some .int) (rmc 0 0 0) [.ref (oB Ω + o0)] μ (qI Q) := CT_of (by decide) rfl (by simp [lg_sl, Value.category]) (fun x hΩ f hq hi => by subst hΩ; exact t_X0_lateInNone f hq h)
theorem dX0_afterAsking_0 : decode cX0_afterAsking 0 = .ok (.iload_n 2, 1) := by decide +kernel
theorem dX0_afterAsking_1 : decode cX0_afterAsking 1 = .ok (.aload_n 0, 1) := by decide +kernel
theorem dX0_afterAsking_2 : decode cX0_afterAsking 2 = .ok (.getfield 15, 3) := by decide +kernel
theorem dX0_afterAsking_5 : decode cX0_afterAsking 5 = .ok (.iload_n 1, 1) := by decide +kernel
theorem dX0_afterAsking_6 : decode cX0_afterAsking 6 = .ok (.iaload, 1) := by decide +kernel
theorem dX0_afterAsking_7 : decode cX0_afterAsking 7 = .ok (.iand, 1) := by decide +kernel
theorem dX0_afterAsking_8 : decode cX0_afterAsking 8 = .ok (.istore_n 3, 1) := by decide +kernel
theorem dX0_afterAsking_9 : decode cX0_afterAsking 9 = .ok (.iload_n 2, 1) := by decide +kernel
theorem dX0_afterAsking_10 : decode cX0_afterAsking 10 = .ok (.aload_n 0, 1) := by decide +kernel
theorem dX0_afterAsking_11 : decode cX0_afterAsking 11 = .ok (.getfield 15, 3) := by decide +kernel
theorem dX0_afterAsking_14 : decode cX0_afterAsking 14 = .ok (.iload_n 1, 1) := by decide +kernel
theorem dX0_afterAsking_15 : decode cX0_afterAsking 15 = .ok (.iaload, 1) := by decide +kernel
theorem dX0_afterAsking_16 : decode cX0_afterAsking 16 = .ok (.iconst (-1), 1) := by decide +kernel
theorem dX0_afterAsking_17 : decode cX0_afterAsking 17 = .ok (.ixor, 1) := by decide +kernel
theorem dX0_afterAsking_18 : decode cX0_afterAsking 18 = .ok (.iand, 1) := by decide +kernel
theorem dX0_afterAsking_19 : decode cX0_afterAsking 19 = .ok (.istore 4, 2) := by decide +kernel
theorem dX0_afterAsking_21 : decode cX0_afterAsking 21 = .ok (.iload_n 3, 1) := by decide +kernel
theorem dX0_afterAsking_22 : decode cX0_afterAsking 22 = .ok (.ifCond .eq 8, 3) := by decide +kernel
theorem dX0_afterAsking_25 : decode cX0_afterAsking 25 = .ok (.iload 4, 2) := by decide +kernel
theorem dX0_afterAsking_27 : decode cX0_afterAsking 27 = .ok (.ifCond .ne 6, 3) := by decide +kernel
theorem dX0_afterAsking_30 : decode cX0_afterAsking 30 = .ok (.bipush 9, 2) := by decide +kernel
theorem dX0_afterAsking_32 : decode cX0_afterAsking 32 = .ok (.ireturn, 1) := by decide +kernel
theorem dX0_afterAsking_33 : decode cX0_afterAsking 33 = .ok (.iconst 1, 1) := by decide +kernel
theorem dX0_afterAsking_34 : decode cX0_afterAsking 34 = .ok (.aload_n 0, 1) := by decide +kernel
theorem dX0_afterAsking_35 : decode cX0_afterAsking 35 = .ok (.getfield 18, 3) := by decide +kernel
theorem dX0_afterAsking_38 : decode cX0_afterAsking 38 = .ok (.iload_n 3, 1) := by decide +kernel
theorem dX0_afterAsking_39 : decode cX0_afterAsking 39 = .ok (.iaload, 1) := by decide +kernel
theorem dX0_afterAsking_40 : decode cX0_afterAsking 40 = .ok (.aload_n 0, 1) := by decide +kernel
theorem dX0_afterAsking_41 : decode cX0_afterAsking 41 = .ok (.getfield 18, 3) := by decide +kernel
theorem dX0_afterAsking_44 : decode cX0_afterAsking 44 = .ok (.iload 4, 2) := by decide +kernel
theorem dX0_afterAsking_46 : decode cX0_afterAsking 46 = .ok (.iaload, 1) := by decide +kernel
theorem dX0_afterAsking_47 : decode cX0_afterAsking 47 = .ok (.invokestatic 62, 3) := by decide +kernel
theorem dX0_afterAsking_50 : decode cX0_afterAsking 50 = .ok (.iadd, 1) := by decide +kernel
theorem dX0_afterAsking_51 : decode cX0_afterAsking 51 = .ok (.ireturn, 1) := by decide +kernel
def S_X0_afterAsking (o0 : Nat) (i1 : Int32) (i2 : Int32) (μ : Me) (Q : Int32 → Me → Prop) : Prop := mok μ o0 0 ∧ ∃ t2, mgr μ o0 3 = some t2 ∧ mok μ t2 12 ∧ vp_in i1 (mln μ t2) ∧ ∃ t4, mgr μ o0 3 = some t4 ∧ mok μ t4 12 ∧ vp_in i1 (mln μ t4) ∧ (((i2 &&& (mgi μ t2 i1.toNatClampNeg)) = 0 → Q 9 μ) ∧ (¬ (i2 &&& (mgi μ t2 i1.toNatClampNeg)) = 0 → ((¬ (i2 &&& ((mgi μ t4 i1.toNatClampNeg) ^^^ (-1))) = 0 → ∃ t6, mgr μ o0 4 = some t6 ∧ mok μ t6 12 ∧ vp_in (i2 &&& (mgi μ t2 i1.toNatClampNeg)) (mln μ t6) ∧ ∃ t8, mgr μ o0 4 = some t8 ∧ mok μ t8 12 ∧ vp_in (i2 &&& ((mgi μ t4 i1.toNatClampNeg) ^^^ (-1))) (mln μ t8) ∧ Q (1 + (if (mgi μ t6 (i2 &&& (mgi μ t2 i1.toNatClampNeg)).toNatClampNeg) < (mgi μ t8 (i2 &&& ((mgi μ t4 i1.toNatClampNeg) ^^^ (-1))).toNatClampNeg) then (mgi μ t8 (i2 &&& ((mgi μ t4 i1.toNatClampNeg) ^^^ (-1))).toNatClampNeg) else (mgi μ t6 (i2 &&& (mgi μ t2 i1.toNatClampNeg)).toNatClampNeg))) μ) ∧ ((i2 &&& ((mgi μ t4 i1.toNatClampNeg) ^^^ (-1))) = 0 → Q 9 μ))))
set_option maxHeartbeats 4000000 in
set_option maxRecDepth 100000 in
theorem t_X0_afterAsking {x : GX} (f : Fx x cX0_afterAsking RX0 5 (rmc 0 0 0)) {o0 : Nat} {i1 : Int32} {i2 : Int32} {μ : Me} {Q : Int32 → Me → Prop} (hq : Rt x (some .int) (qI Q)) (h : S_X0_afterAsking o0 i1 i2 μ Q) : G x 5 0 [(0, .ref (gB x + o0)), (1, .int i1), (2, .int i2)] [] μ 0 0 := by
  unfold S_X0_afterAsking at h
  refine g_iload_n f 2 dX0_afterAsking_0 rfl rfl ?_
  refine g_aload_n f 0 dX0_afterAsking_1 rfl rfl ?_
  obtain ⟨v1, h⟩ := h
  refine g_getR f fk_X0_15 v1 dX0_afterAsking_2 rfl h (fun t2 h => ?_)
  refine g_iload_n f 1 dX0_afterAsking_5 rfl rfl ?_
  obtain ⟨v3, h⟩ := h
  refine g_iald f v3 dX0_afterAsking_6 h (fun h => ?_)
  refine g_iand f dX0_afterAsking_7 ?_
  refine h_istore_n f dX0_afterAsking_8 rfl (by decide) ?_
  refine g_iload_n f 3 dX0_afterAsking_9 rfl rfl ?_
  refine g_aload_n f 1 dX0_afterAsking_10 rfl rfl ?_
  refine g_getR f fk_X0_15 v1 dX0_afterAsking_11 rfl h (fun t4 h => ?_)
  refine g_iload_n f 2 dX0_afterAsking_14 rfl rfl ?_
  obtain ⟨v5, h⟩ := h
  refine g_iald f v5 dX0_afterAsking_15 h (fun h => ?_)
  refine g_iconst f (-1) dX0_afterAsking_16 kc_m1 ?_
  refine g_ixor f dX0_afterAsking_17 ?_
  refine g_iand f dX0_afterAsking_18 ?_
  refine h_istore f dX0_afterAsking_19 (by decide) ?_
  refine g_iload_n f 1 dX0_afterAsking_21 rfl rfl ?_
  refine g_if_eq f 30 dX0_afterAsking_22 rfl h (fun h => ?_) (fun h => ?_)
  · refine g_bipush f 9 dX0_afterAsking_30 kb_9 ?_
    exact g_iret f hq (Nat.le_of_ble_eq_true rfl) (Nat.le_of_ble_eq_true rfl) dX0_afterAsking_32 h
  · refine g_iload f 0 dX0_afterAsking_25 rfl ?_
    refine g_if_ne f 33 dX0_afterAsking_27 rfl h (fun h => ?_) (fun h => ?_)
    · refine g_iconst f 1 dX0_afterAsking_33 kc_1 ?_
      refine g_aload_n f 2 dX0_afterAsking_34 rfl rfl ?_
      refine g_getR f fk_X0_18 v1 dX0_afterAsking_35 rfl h (fun t6 h => ?_)
      refine g_iload_n f 1 dX0_afterAsking_38 rfl rfl ?_
      obtain ⟨v7, h⟩ := h
      refine g_iald f v7 dX0_afterAsking_39 h (fun h => ?_)
      refine g_aload_n f 2 dX0_afterAsking_40 rfl rfl ?_
      refine g_getR f fk_X0_18 v1 dX0_afterAsking_41 rfl h (fun t8 h => ?_)
      refine g_iload f 0 dX0_afterAsking_44 rfl ?_
      obtain ⟨v9, h⟩ := h
      refine g_iald f v9 dX0_afterAsking_46 h (fun h => ?_)
      refine g_max f maxk_X0_62 dX0_afterAsking_47 rm_fr (rm_mx (Nat.le_of_ble_eq_true rfl)) (Nat.zero_le _) (Nat.zero_le _) ?_
      refine g_iadd f dX0_afterAsking_50 ?_
      exact g_iret f hq (Nat.le_of_ble_eq_true rfl) (Nat.le_of_ble_eq_true rfl) dX0_afterAsking_51 h
    · refine g_bipush f 9 dX0_afterAsking_30 kb_9 ?_
      exact g_iret f hq (Nat.le_of_ble_eq_true rfl) (Nat.le_of_ble_eq_true rfl) dX0_afterAsking_32 h
theorem c_X0_afterAsking {Ω : OM} {o0 : Nat} {i1 : Int32} {i2 : Int32} {μ : Me} {Q : Int32 → Me → Prop} (h : S_X0_afterAsking o0 i1 i2 μ Q) : CT Ω yX0_afterAsking cX0_afterAsking 5 (some .int) (rmc 0 0 0) [.ref (oB Ω + o0), .int i1, .int i2] μ (qI Q) := CT_of (by decide) rfl (by simp [lg_sl, Value.category]) (fun x hΩ f hq hi => by subst hΩ; exact t_X0_afterAsking f hq h)
theorem dX0_fewestFor_0 : decode cX0_fewestFor 0 = .ok (.bipush 9, 2) := by decide +kernel
theorem dX0_fewestFor_2 : decode cX0_fewestFor 2 = .ok (.istore_n 2, 1) := by decide +kernel
theorem dX0_fewestFor_3 : decode cX0_fewestFor 3 = .ok (.iconst 0, 1) := by decide +kernel
theorem dX0_fewestFor_4 : decode cX0_fewestFor 4 = .ok (.istore_n 3, 1) := by decide +kernel
theorem dX0_fewestFor_5 : decode cX0_fewestFor 5 = .ok (.iload_n 3, 1) := by decide +kernel
theorem dX0_fewestFor_6 : decode cX0_fewestFor 6 = .ok (.aload_n 0, 1) := by decide +kernel
theorem dX0_fewestFor_7 : decode cX0_fewestFor 7 = .ok (.getfield 21, 3) := by decide +kernel
theorem dX0_fewestFor_10 : decode cX0_fewestFor 10 = .ok (.getfield 67, 3) := by decide +kernel
theorem dX0_fewestFor_13 : decode cX0_fewestFor 13 = .ok (.if_icmp .ge 20, 3) := by decide +kernel
theorem dX0_fewestFor_16 : decode cX0_fewestFor 16 = .ok (.iload_n 2, 1) := by decide +kernel
theorem dX0_fewestFor_17 : decode cX0_fewestFor 17 = .ok (.aload_n 0, 1) := by decide +kernel
theorem dX0_fewestFor_18 : decode cX0_fewestFor 18 = .ok (.iload_n 3, 1) := by decide +kernel
theorem dX0_fewestFor_19 : decode cX0_fewestFor 19 = .ok (.iload_n 1, 1) := by decide +kernel
theorem dX0_fewestFor_20 : decode cX0_fewestFor 20 = .ok (.invokevirtual 76, 3) := by decide +kernel
theorem dX0_fewestFor_23 : decode cX0_fewestFor 23 = .ok (.invokestatic 79, 3) := by decide +kernel
theorem dX0_fewestFor_26 : decode cX0_fewestFor 26 = .ok (.istore_n 2, 1) := by decide +kernel
theorem dX0_fewestFor_27 : decode cX0_fewestFor 27 = .ok (.iinc 3 1, 3) := by decide +kernel
theorem dX0_fewestFor_30 : decode cX0_fewestFor 30 = .ok (.goto (-25), 3) := by decide +kernel
theorem dX0_fewestFor_33 : decode cX0_fewestFor 33 = .ok (.iload_n 2, 1) := by decide +kernel
theorem dX0_fewestFor_34 : decode cX0_fewestFor 34 = .ok (.ireturn, 1) := by decide +kernel
def B_X0_fewestFor_5 (o0 : Nat) (i1 : Int32) (i2 : Int32) (i3 : Int32) (μ : Me) (K5 : Int32 → Int32 → Me → Prop) (Q : Int32 → Me → Prop) : Prop := mok μ o0 0 ∧ ∃ t2, mgr μ o0 0 = some t2 ∧ mok μ t2 9 ∧ (((mgi μ t2 0) ≤ i3 → Q i2 μ) ∧ (¬ (mgi μ t2 0) ≤ i3 → S_X0_afterAsking o0 i3 i1 μ (fun r6 μ4 => K5 (if r6 < i2 then r6 else i2) (i3 + 1) μ4)))
set_option maxHeartbeats 4000000 in
set_option maxRecDepth 100000 in
theorem tB_X0_fewestFor_5 {x : GX} (f : Fx x cX0_fewestFor RX0 4 (rmc 1 0 0)) {o0 : Nat} {i1 : Int32} {i2 : Int32} {i3 : Int32} {μ : Me} {Q : Int32 → Me → Prop} (hq : Rt x (some .int) (qI Q)) {K5 : Int32 → Int32 → Me → Prop} (hK5 : ∀ (a2 : Int32) (a3 : Int32) (ν : Me), K5 a2 a3 ν → G x 4 5 [(0, .ref (gB x + o0)), (1, .int i1), (2, .int a2), (3, .int a3)] [] ν 0 0) (h : B_X0_fewestFor_5 o0 i1 i2 i3 μ K5 Q) : G x 4 5 [(0, .ref (gB x + o0)), (1, .int i1), (2, .int i2), (3, .int i3)] [] μ 0 0 := by
  unfold B_X0_fewestFor_5 at h
  refine g_iload_n f 3 dX0_fewestFor_5 rfl rfl ?_
  refine g_aload_n f 0 dX0_fewestFor_6 rfl rfl ?_
  obtain ⟨v1, h⟩ := h
  refine g_getR f fk_X0_21 v1 dX0_fewestFor_7 rfl h (fun t2 h => ?_)
  obtain ⟨v3, h⟩ := h
  refine g_getI f fk_X0_67 v3 dX0_fewestFor_10 rfl ?_
  refine g_ic_ge f 33 dX0_fewestFor_13 rfl h (fun h => ?_) (fun h => ?_)
  · refine g_iload_n f 2 dX0_fewestFor_33 rfl rfl ?_
    exact g_iret f hq (Nat.le_of_ble_eq_true rfl) (Nat.le_of_ble_eq_true rfl) dX0_fewestFor_34 h
  · refine g_iload_n f 2 dX0_fewestFor_16 rfl rfl ?_
    refine g_aload_n f 0 dX0_fewestFor_17 rfl rfl ?_
    refine g_iload_n f 3 dX0_fewestFor_18 rfl rfl ?_
    refine g_iload_n f 1 dX0_fewestFor_19 rfl rfl ?_
    refine g_callV f mk_X0_76 v1 (c_X0_afterAsking h) dX0_fewestFor_20 rfl rfl (Nat.le_of_ble_eq_true rfl) (rm_ok (by decide) (by decide)) ⟨Nat.le_of_ble_eq_true rfl, Nat.le_of_ble_eq_true rfl⟩ (kI fun r6 μ4 x5 h => ?_)
    refine g_min f mink_X0_79 dX0_fewestFor_23 rm_fr (rm_mx (Nat.le_of_ble_eq_true rfl)) (Nat.zero_le _) (Nat.zero_le _) ?_
    refine h_istore_n f dX0_fewestFor_26 rfl (by decide) ?_
    refine h_iinc f 3 1 dX0_fewestFor_27 rfl kc_1 (by decide) ?_
    refine g_goto f 5 dX0_fewestFor_30 rfl ?_
    exact h_sub [2, 3, 1, 0] rfl (hK5 _ _ _ h)
def L_X0_fewestFor_5 (o0 : Nat) (i1 : Int32) (i2 : Int32) (i3 : Int32) (μ : Me) (Q : Int32 → Me → Prop) : Prop := ∃ I : Int32 → Int32 → Me → Nat → Prop, (∃ n, I i2 i3 μ n) ∧ ∀ (i2 : Int32) (i3 : Int32) (μ : Me) (n : Nat), I i2 i3 μ n → B_X0_fewestFor_5 o0 i1 i2 i3 μ (fun a2 a3 ν => ∃ n', n' < n ∧ I a2 a3 ν n') Q
set_option maxHeartbeats 4000000 in
set_option maxRecDepth 100000 in
theorem tL_X0_fewestFor_5 {x : GX} (f : Fx x cX0_fewestFor RX0 4 (rmc 1 0 0)) {o0 : Nat} {i1 : Int32} {i2 : Int32} {i3 : Int32} {μ : Me} {Q : Int32 → Me → Prop} (hq : Rt x (some .int) (qI Q)) (h : L_X0_fewestFor_5 o0 i1 i2 i3 μ Q) : G x 4 5 [(0, .ref (gB x + o0)), (1, .int i1), (2, .int i2), (3, .int i3)] [] μ 0 0 := by
  obtain ⟨I, ⟨n, hI⟩, hs⟩ := h
  induction n using Nat.strongRecOn generalizing i2 i3 μ with
  | ind n ih => exact tB_X0_fewestFor_5 f hq (fun a2 a3 ν hk => by obtain ⟨n2, hn, hI2⟩ := hk; exact ih n2 hn hI2) (hs _ _ _ _ hI)
def S_X0_fewestFor (o0 : Nat) (i1 : Int32) (μ : Me) (Q : Int32 → Me → Prop) : Prop := L_X0_fewestFor_5 o0 i1 9 0 μ Q
set_option maxHeartbeats 4000000 in
set_option maxRecDepth 100000 in
theorem t_X0_fewestFor {x : GX} (f : Fx x cX0_fewestFor RX0 4 (rmc 1 0 0)) {o0 : Nat} {i1 : Int32} {μ : Me} {Q : Int32 → Me → Prop} (hq : Rt x (some .int) (qI Q)) (h : S_X0_fewestFor o0 i1 μ Q) : G x 4 0 [(0, .ref (gB x + o0)), (1, .int i1)] [] μ 0 0 := by
  unfold S_X0_fewestFor at h
  refine g_bipush f 9 dX0_fewestFor_0 kb_9 ?_
  refine h_istore_n f dX0_fewestFor_2 rfl (by decide) ?_
  refine g_iconst f 0 dX0_fewestFor_3 kc_0 ?_
  refine h_istore_n f dX0_fewestFor_4 rfl (by decide) ?_
  exact h_sub [2, 3, 1, 0] rfl (tL_X0_fewestFor_5 f hq h)
theorem c_X0_fewestFor {Ω : OM} {o0 : Nat} {i1 : Int32} {μ : Me} {Q : Int32 → Me → Prop} (h : S_X0_fewestFor o0 i1 μ Q) : CT Ω yX0_fewestFor cX0_fewestFor 4 (some .int) (rmc 1 0 0) [.ref (oB Ω + o0), .int i1] μ (qI Q) := CT_of (by decide) rfl (by simp [lg_sl, Value.category]) (fun x hΩ f hq hi => by subst hΩ; exact t_X0_fewestFor f hq h)
theorem dX0_weigh_0 : decode cX0_weigh 0 = .ok (.iconst 0, 1) := by decide +kernel
theorem dX0_weigh_1 : decode cX0_weigh 1 = .ok (.istore_n 1, 1) := by decide +kernel
theorem dX0_weigh_2 : decode cX0_weigh 2 = .ok (.iload_n 1, 1) := by decide +kernel
theorem dX0_weigh_3 : decode cX0_weigh 3 = .ok (.aload_n 0, 1) := by decide +kernel
theorem dX0_weigh_4 : decode cX0_weigh 4 = .ok (.getfield 21, 3) := by decide +kernel
theorem dX0_weigh_7 : decode cX0_weigh 7 = .ok (.getfield 67, 3) := by decide +kernel
theorem dX0_weigh_10 : decode cX0_weigh 10 = .ok (.if_icmp .ge 53, 3) := by decide +kernel
theorem dX0_weigh_13 : decode cX0_weigh 13 = .ok (.aload_n 0, 1) := by decide +kernel
theorem dX0_weigh_14 : decode cX0_weigh 14 = .ok (.getfield 15, 3) := by decide +kernel
theorem dX0_weigh_17 : decode cX0_weigh 17 = .ok (.iload_n 1, 1) := by decide +kernel
theorem dX0_weigh_18 : decode cX0_weigh 18 = .ok (.iconst 0, 1) := by decide +kernel
theorem dX0_weigh_19 : decode cX0_weigh 19 = .ok (.iastore, 1) := by decide +kernel
theorem dX0_weigh_20 : decode cX0_weigh 20 = .ok (.iconst 0, 1) := by decide +kernel
theorem dX0_weigh_21 : decode cX0_weigh 21 = .ok (.istore_n 2, 1) := by decide +kernel
theorem dX0_weigh_22 : decode cX0_weigh 22 = .ok (.iload_n 2, 1) := by decide +kernel
theorem dX0_weigh_23 : decode cX0_weigh 23 = .ok (.aload_n 0, 1) := by decide +kernel
theorem dX0_weigh_24 : decode cX0_weigh 24 = .ok (.getfield 29, 3) := by decide +kernel
theorem dX0_weigh_27 : decode cX0_weigh 27 = .ok (.if_icmp .ge 30, 3) := by decide +kernel
theorem dX0_weigh_30 : decode cX0_weigh 30 = .ok (.aload_n 0, 1) := by decide +kernel
theorem dX0_weigh_31 : decode cX0_weigh 31 = .ok (.getfield 15, 3) := by decide +kernel
theorem dX0_weigh_34 : decode cX0_weigh 34 = .ok (.iload_n 1, 1) := by decide +kernel
theorem dX0_weigh_35 : decode cX0_weigh 35 = .ok (.dup2, 1) := by decide +kernel
theorem dX0_weigh_36 : decode cX0_weigh 36 = .ok (.iaload, 1) := by decide +kernel
theorem dX0_weigh_37 : decode cX0_weigh 37 = .ok (.aload_n 0, 1) := by decide +kernel
theorem dX0_weigh_38 : decode cX0_weigh 38 = .ok (.getfield 9, 3) := by decide +kernel
theorem dX0_weigh_41 : decode cX0_weigh 41 = .ok (.iload_n 2, 1) := by decide +kernel
theorem dX0_weigh_42 : decode cX0_weigh 42 = .ok (.iaload, 1) := by decide +kernel
theorem dX0_weigh_43 : decode cX0_weigh 43 = .ok (.iload_n 1, 1) := by decide +kernel
theorem dX0_weigh_44 : decode cX0_weigh 44 = .ok (.ishr, 1) := by decide +kernel
theorem dX0_weigh_45 : decode cX0_weigh 45 = .ok (.iconst 1, 1) := by decide +kernel
theorem dX0_weigh_46 : decode cX0_weigh 46 = .ok (.iand, 1) := by decide +kernel
theorem dX0_weigh_47 : decode cX0_weigh 47 = .ok (.iload_n 2, 1) := by decide +kernel
theorem dX0_weigh_48 : decode cX0_weigh 48 = .ok (.ishl, 1) := by decide +kernel
theorem dX0_weigh_49 : decode cX0_weigh 49 = .ok (.ior, 1) := by decide +kernel
theorem dX0_weigh_50 : decode cX0_weigh 50 = .ok (.iastore, 1) := by decide +kernel
theorem dX0_weigh_51 : decode cX0_weigh 51 = .ok (.iinc 2 1, 3) := by decide +kernel
theorem dX0_weigh_54 : decode cX0_weigh 54 = .ok (.goto (-32), 3) := by decide +kernel
theorem dX0_weigh_57 : decode cX0_weigh 57 = .ok (.iinc 1 1, 3) := by decide +kernel
theorem dX0_weigh_60 : decode cX0_weigh 60 = .ok (.goto (-58), 3) := by decide +kernel
theorem dX0_weigh_63 : decode cX0_weigh 63 = .ok (.aload_n 0, 1) := by decide +kernel
theorem dX0_weigh_64 : decode cX0_weigh 64 = .ok (.getfield 18, 3) := by decide +kernel
theorem dX0_weigh_67 : decode cX0_weigh 67 = .ok (.arraylength, 1) := by decide +kernel
theorem dX0_weigh_68 : decode cX0_weigh 68 = .ok (.iconst 1, 1) := by decide +kernel
theorem dX0_weigh_69 : decode cX0_weigh 69 = .ok (.aload_n 0, 1) := by decide +kernel
theorem dX0_weigh_70 : decode cX0_weigh 70 = .ok (.getfield 29, 3) := by decide +kernel
theorem dX0_weigh_73 : decode cX0_weigh 73 = .ok (.ishl, 1) := by decide +kernel
theorem dX0_weigh_74 : decode cX0_weigh 74 = .ok (.if_icmp .ge 15, 3) := by decide +kernel
theorem dX0_weigh_77 : decode cX0_weigh 77 = .ok (.aload_n 0, 1) := by decide +kernel
theorem dX0_weigh_78 : decode cX0_weigh 78 = .ok (.iconst 1, 1) := by decide +kernel
theorem dX0_weigh_79 : decode cX0_weigh 79 = .ok (.aload_n 0, 1) := by decide +kernel
theorem dX0_weigh_80 : decode cX0_weigh 80 = .ok (.getfield 29, 3) := by decide +kernel
theorem dX0_weigh_83 : decode cX0_weigh 83 = .ok (.ishl, 1) := by decide +kernel
theorem dX0_weigh_84 : decode cX0_weigh 84 = .ok (.newarray .int, 2) := by decide +kernel
theorem dX0_weigh_86 : decode cX0_weigh 86 = .ok (.putfield 18, 3) := by decide +kernel
theorem dX0_weigh_89 : decode cX0_weigh 89 = .ok (.iconst 0, 1) := by decide +kernel
theorem dX0_weigh_90 : decode cX0_weigh 90 = .ok (.istore_n 1, 1) := by decide +kernel
theorem dX0_weigh_91 : decode cX0_weigh 91 = .ok (.iload_n 1, 1) := by decide +kernel
theorem dX0_weigh_92 : decode cX0_weigh 92 = .ok (.iconst 1, 1) := by decide +kernel
theorem dX0_weigh_93 : decode cX0_weigh 93 = .ok (.aload_n 0, 1) := by decide +kernel
theorem dX0_weigh_94 : decode cX0_weigh 94 = .ok (.getfield 29, 3) := by decide +kernel
theorem dX0_weigh_97 : decode cX0_weigh 97 = .ok (.ishl, 1) := by decide +kernel
theorem dX0_weigh_98 : decode cX0_weigh 98 = .ok (.if_icmp .ge 32, 3) := by decide +kernel
theorem dX0_weigh_101 : decode cX0_weigh 101 = .ok (.aload_n 0, 1) := by decide +kernel
theorem dX0_weigh_102 : decode cX0_weigh 102 = .ok (.getfield 18, 3) := by decide +kernel
theorem dX0_weigh_105 : decode cX0_weigh 105 = .ok (.iload_n 1, 1) := by decide +kernel
theorem dX0_weigh_106 : decode cX0_weigh 106 = .ok (.iload_n 1, 1) := by decide +kernel
theorem dX0_weigh_107 : decode cX0_weigh 107 = .ok (.invokestatic 68, 3) := by decide +kernel
theorem dX0_weigh_110 : decode cX0_weigh 110 = .ok (.iconst 1, 1) := by decide +kernel
theorem dX0_weigh_111 : decode cX0_weigh 111 = .ok (.if_icmp .gt 7, 3) := by decide +kernel
theorem dX0_weigh_114 : decode cX0_weigh 114 = .ok (.iconst 0, 1) := by decide +kernel
theorem dX0_weigh_115 : decode cX0_weigh 115 = .ok (.goto 8, 3) := by decide +kernel
theorem dX0_weigh_118 : decode cX0_weigh 118 = .ok (.aload_n 0, 1) := by decide +kernel
theorem dX0_weigh_119 : decode cX0_weigh 119 = .ok (.iload_n 1, 1) := by decide +kernel
theorem dX0_weigh_120 : decode cX0_weigh 120 = .ok (.invokevirtual 73, 3) := by decide +kernel
theorem dX0_weigh_123 : decode cX0_weigh 123 = .ok (.iastore, 1) := by decide +kernel
theorem dX0_weigh_124 : decode cX0_weigh 124 = .ok (.iinc 1 1, 3) := by decide +kernel
theorem dX0_weigh_127 : decode cX0_weigh 127 = .ok (.goto (-36), 3) := by decide +kernel
theorem dX0_weigh_130 : decode cX0_weigh 130 = .ok (.return_, 1) := by decide +kernel
def B_X0_weigh_123 (o0 : Nat) (i1 : Int32) (s0 : Int32) (s1 : Int32) (s2 : Option Nat) (k j : Nat) (μ : Me) (K91 : Int32 → Nat → Nat → Me → Prop) (Q : Me → Prop) : Prop := ∃ t17, s2 = some t17 ∧ mok μ t17 12 ∧ vp_in s1 (mln μ t17) ∧ ∀ μ21, μ21 = msi μ t17 s1.toNatClampNeg s0 → K91 (i1 + 1) k j μ21
set_option maxHeartbeats 4000000 in
set_option maxRecDepth 100000 in
theorem tB_X0_weigh_123 {x : GX} (f : Fx x cX0_weigh RX0 3 (rmc 2 1 4096)) {o0 : Nat} {i1 : Int32} {s0 : Int32} {s1 : Int32} {s2 : Option Nat} {k j : Nat} {μ : Me} {Q : Me → Prop} (hq : Rt x none (qV Q)) {K91 : Int32 → Nat → Nat → Me → Prop} (hK91 : ∀ (a1 : Int32) (k j : Nat) (ν : Me), K91 a1 k j ν → G x 3 91 [(0, .ref (gB x + o0)), (1, .int a1)] [] ν k j) (h : B_X0_weigh_123 o0 i1 s0 s1 s2 k j μ K91 Q) : G x 3 123 [(0, .ref (gB x + o0)), (1, .int i1)] [.int s0, .int s1, vr (gB x) s2] μ k j := by
  unfold B_X0_weigh_123 at h
  obtain ⟨t17, e18, h19⟩ := h
  subst e18
  have h := h19
  obtain ⟨v20, h⟩ := h
  refine g_iast f v20 dX0_weigh_123 h (fun h => ?_)
  refine h_iinc f 1 1 dX0_weigh_124 rfl kc_1 (by decide) ?_
  refine g_goto f 91 dX0_weigh_127 rfl ?_
  exact h_sub [1, 0] rfl (hK91 _ _ _ _ h)
def B_X0_weigh_91 (o0 : Nat) (i1 : Int32) (k j : Nat) (μ : Me) (K91 : Int32 → Nat → Nat → Me → Prop) (Q : Me → Prop) : Prop := mok μ o0 0 ∧ (((1 <<< ((mgi μ o0 5) &&& 31)) ≤ i1 → (k ≤ 1 ∧ j ≤ 4096) ∧ Q μ) ∧ (¬ (1 <<< ((mgi μ o0 5) &&& 31)) ≤ i1 → ∃ t8, mgr μ o0 4 = some t8 ∧ (k + 0 ≤ 1 ∧ j + 0 ≤ 4096) ∧ S_J6_bitCount_0f7a4 i1 μ (fun r12 μ9 => ((1 < r12 → ((k + 0) + 0 ≤ 1 ∧ (j + 0) + 0 ≤ 4096) ∧ S_X0_fewestFor o0 i1 μ9 (fun r16 μ13 => B_X0_weigh_123 o0 i1 r16 i1 (some t8) ((k + 0) + 0) ((j + 0) + 0) μ13 K91 Q)) ∧ (¬ 1 < r12 → B_X0_weigh_123 o0 i1 0 i1 (some t8) (k + 0) (j + 0) μ9 K91 Q)))))
set_option maxHeartbeats 4000000 in
set_option maxRecDepth 100000 in
theorem tB_X0_weigh_91 {x : GX} (f : Fx x cX0_weigh RX0 3 (rmc 2 1 4096)) {o0 : Nat} {i1 : Int32} {k j : Nat} {μ : Me} {Q : Me → Prop} (hq : Rt x none (qV Q)) {K91 : Int32 → Nat → Nat → Me → Prop} (hK91 : ∀ (a1 : Int32) (k j : Nat) (ν : Me), K91 a1 k j ν → G x 3 91 [(0, .ref (gB x + o0)), (1, .int a1)] [] ν k j) (h : B_X0_weigh_91 o0 i1 k j μ K91 Q) : G x 3 91 [(0, .ref (gB x + o0)), (1, .int i1)] [] μ k j := by
  unfold B_X0_weigh_91 at h
  refine g_iload_n f 1 dX0_weigh_91 rfl rfl ?_
  refine g_iconst f 1 dX0_weigh_92 kc_1 ?_
  refine g_aload_n f 0 dX0_weigh_93 rfl rfl ?_
  obtain ⟨v6, h⟩ := h
  refine g_getI f fk_X0_29 v6 dX0_weigh_94 rfl ?_
  refine g_ishl f dX0_weigh_97 ?_
  refine g_ic_ge f 130 dX0_weigh_98 rfl h (fun h => ?_) (fun h => ?_)
  · obtain ⟨⟨c7, c7b⟩, h⟩ := h
    exact g_vret f hq c7 c7b dX0_weigh_130 h
  · refine g_aload_n f 0 dX0_weigh_101 rfl rfl ?_
    refine g_getR f fk_X0_18 v6 dX0_weigh_102 rfl h (fun t8 h => ?_)
    refine g_iload_n f 1 dX0_weigh_105 rfl rfl ?_
    refine g_iload_n f 1 dX0_weigh_106 rfl rfl ?_
    obtain ⟨⟨c11, c11b⟩, h⟩ := h
    refine g_callS f mk_X0_68 (c_J6_bitCount_0f7a4 h) dX0_weigh_107 rfl rfl (Nat.le_of_ble_eq_true rfl) (rm_ok (by decide) (by decide)) ⟨c11, c11b⟩ (kI fun r12 μ9 x10 h => ?_)
    refine g_iconst f 1 dX0_weigh_110 kc_1 ?_
    refine g_ic_gt f 118 dX0_weigh_111 rfl h (fun h => ?_) (fun h => ?_)
    · refine g_aload_n f 0 dX0_weigh_118 rfl rfl ?_
      refine g_iload_n f 1 dX0_weigh_119 rfl rfl ?_
      have v6 := mex_ok x10 v6
      obtain ⟨⟨c15, c15b⟩, h⟩ := h
      refine g_callV f mk_X0_73 v6 (c_X0_fewestFor h) dX0_weigh_120 rfl rfl (Nat.le_of_ble_eq_true rfl) (rm_ok (by decide) (by decide)) ⟨c15, c15b⟩ (kI fun r16 μ13 x14 h => ?_)
      exact h_sub [0, 1] rfl (tB_X0_weigh_123 f hq hK91 h)
    · refine g_iconst f 0 dX0_weigh_114 kc_0 ?_
      refine g_goto f 123 dX0_weigh_115 rfl ?_
      exact h_sub [0, 1] rfl (tB_X0_weigh_123 f hq hK91 h)
def L_X0_weigh_91 (o0 : Nat) (i1 : Int32) (k j : Nat) (μ : Me) (Q : Me → Prop) : Prop := ∃ I : Int32 → Nat → Nat → Me → Nat → Prop, (∃ n, I i1 k j μ n) ∧ ∀ (i1 : Int32) (k j : Nat) (μ : Me) (n : Nat), I i1 k j μ n → B_X0_weigh_91 o0 i1 k j μ (fun a1 k j ν => ∃ n', n' < n ∧ I a1 k j ν n') Q
set_option maxHeartbeats 4000000 in
set_option maxRecDepth 100000 in
theorem tL_X0_weigh_91 {x : GX} (f : Fx x cX0_weigh RX0 3 (rmc 2 1 4096)) {o0 : Nat} {i1 : Int32} {k j : Nat} {μ : Me} {Q : Me → Prop} (hq : Rt x none (qV Q)) (h : L_X0_weigh_91 o0 i1 k j μ Q) : G x 3 91 [(0, .ref (gB x + o0)), (1, .int i1)] [] μ k j := by
  obtain ⟨I, ⟨n, hI⟩, hs⟩ := h
  induction n using Nat.strongRecOn generalizing i1 k j μ with
  | ind n ih => exact tB_X0_weigh_91 f hq (fun a1 k j ν hk => by obtain ⟨n2, hn, hI2⟩ := hk; exact ih n2 hn hI2) (hs _ _ _ _ _ hI)
def B_X0_weigh_89 (o0 : Nat) (k j : Nat) (μ : Me) (Q : Me → Prop) : Prop := L_X0_weigh_91 o0 0 k j μ Q
set_option maxHeartbeats 4000000 in
set_option maxRecDepth 100000 in
theorem tB_X0_weigh_89 {x : GX} (f : Fx x cX0_weigh RX0 3 (rmc 2 1 4096)) {o0 : Nat} {k j : Nat} {μ : Me} {Q : Me → Prop} (hq : Rt x none (qV Q)) (h : B_X0_weigh_89 o0 k j μ Q) : G x 3 89 [(0, .ref (gB x + o0))] [] μ k j := by
  unfold B_X0_weigh_89 at h
  refine g_iconst f 0 dX0_weigh_89 kc_0 ?_
  refine h_istore_n f dX0_weigh_90 rfl (by decide) ?_
  exact h_sub [1, 0] rfl (tL_X0_weigh_91 f hq h)
def B_X0_weigh_22 (o0 : Nat) (i1 : Int32) (i2 : Int32) (k j : Nat) (μ : Me) (K2 : Int32 → Nat → Nat → Me → Prop) (K22 : Int32 → Nat → Nat → Me → Prop) (Q : Me → Prop) : Prop := mok μ o0 0 ∧ (((mgi μ o0 5) ≤ i2 → K2 (i1 + 1) k j μ) ∧ (¬ (mgi μ o0 5) ≤ i2 → ∃ t32, mgr μ o0 3 = some t32 ∧ mok μ t32 12 ∧ vp_in i1 (mln μ t32) ∧ ∃ t34, mgr μ o0 2 = some t34 ∧ mok μ t34 12 ∧ vp_in i2 (mln μ t34) ∧ vp_in i1 (mln μ t32) ∧ ∀ μ36, μ36 = msi μ t32 i1.toNatClampNeg ((mgi μ t32 i1.toNatClampNeg) ||| ((((mgi μ t34 i2.toNatClampNeg) >>> (i1 &&& 31)) &&& 1) <<< (i2 &&& 31))) → K22 (i2 + 1) k j μ36))
set_option maxHeartbeats 4000000 in
set_option maxRecDepth 100000 in
theorem tB_X0_weigh_22 {x : GX} (f : Fx x cX0_weigh RX0 3 (rmc 2 1 4096)) {o0 : Nat} {i1 : Int32} {i2 : Int32} {k j : Nat} {μ : Me} {Q : Me → Prop} (hq : Rt x none (qV Q)) {K2 : Int32 → Nat → Nat → Me → Prop} {K22 : Int32 → Nat → Nat → Me → Prop} (hK2 : ∀ (a1 : Int32) (k j : Nat) (ν : Me), K2 a1 k j ν → G x 3 2 [(0, .ref (gB x + o0)), (1, .int a1)] [] ν k j) (hK22 : ∀ (a2 : Int32) (k j : Nat) (ν : Me), K22 a2 k j ν → G x 3 22 [(0, .ref (gB x + o0)), (1, .int i1), (2, .int a2)] [] ν k j) (h : B_X0_weigh_22 o0 i1 i2 k j μ K2 K22 Q) : G x 3 22 [(0, .ref (gB x + o0)), (1, .int i1), (2, .int i2)] [] μ k j := by
  unfold B_X0_weigh_22 at h
  refine g_iload_n f 2 dX0_weigh_22 rfl rfl ?_
  refine g_aload_n f 0 dX0_weigh_23 rfl rfl ?_
  obtain ⟨v31, h⟩ := h
  refine g_getI f fk_X0_29 v31 dX0_weigh_24 rfl ?_
  refine g_ic_ge f 57 dX0_weigh_27 rfl h (fun h => ?_) (fun h => ?_)
  · refine h_iinc f 1 1 dX0_weigh_57 rfl kc_1 (by decide) ?_
    refine g_goto f 2 dX0_weigh_60 rfl ?_
    exact h_sub [1, 0] rfl (hK2 _ _ _ _ h)
  · refine g_aload_n f 0 dX0_weigh_30 rfl rfl ?_
    refine g_getR f fk_X0_15 v31 dX0_weigh_31 rfl h (fun t32 h => ?_)
    refine g_iload_n f 1 dX0_weigh_34 rfl rfl ?_
    refine g_dup2_11 f dX0_weigh_35 rfl rfl ?_
    obtain ⟨v33, h⟩ := h
    refine g_iald f v33 dX0_weigh_36 h (fun h => ?_)
    refine g_aload_n f 0 dX0_weigh_37 rfl rfl ?_
    refine g_getR f fk_X0_9 v31 dX0_weigh_38 rfl h (fun t34 h => ?_)
    refine g_iload_n f 2 dX0_weigh_41 rfl rfl ?_
    obtain ⟨v35, h⟩ := h
    refine g_iald f v35 dX0_weigh_42 h (fun h => ?_)
    refine g_iload_n f 1 dX0_weigh_43 rfl rfl ?_
    refine g_ishr f dX0_weigh_44 ?_
    refine g_iconst f 1 dX0_weigh_45 kc_1 ?_
    refine g_iand f dX0_weigh_46 ?_
    refine g_iload_n f 2 dX0_weigh_47 rfl rfl ?_
    refine g_ishl f dX0_weigh_48 ?_
    refine g_ior f dX0_weigh_49 ?_
    refine g_iast f v33 dX0_weigh_50 h (fun h => ?_)
    refine h_iinc f 2 1 dX0_weigh_51 rfl kc_1 (by decide) ?_
    refine g_goto f 22 dX0_weigh_54 rfl ?_
    exact h_sub [1, 2, 0] rfl (hK22 _ _ _ _ h)
def L_X0_weigh_22 (o0 : Nat) (i1 : Int32) (i2 : Int32) (k j : Nat) (μ : Me) (K2 : Int32 → Nat → Nat → Me → Prop) (Q : Me → Prop) : Prop := ∃ I : Int32 → Nat → Nat → Me → Nat → Prop, (∃ n, I i2 k j μ n) ∧ ∀ (i2 : Int32) (k j : Nat) (μ : Me) (n : Nat), I i2 k j μ n → B_X0_weigh_22 o0 i1 i2 k j μ K2 (fun a2 k j ν => ∃ n', n' < n ∧ I a2 k j ν n') Q
set_option maxHeartbeats 4000000 in
set_option maxRecDepth 100000 in
theorem tL_X0_weigh_22 {x : GX} (f : Fx x cX0_weigh RX0 3 (rmc 2 1 4096)) {o0 : Nat} {i1 : Int32} {i2 : Int32} {k j : Nat} {μ : Me} {Q : Me → Prop} (hq : Rt x none (qV Q)) {K2 : Int32 → Nat → Nat → Me → Prop} (hK2 : ∀ (a1 : Int32) (k j : Nat) (ν : Me), K2 a1 k j ν → G x 3 2 [(0, .ref (gB x + o0)), (1, .int a1)] [] ν k j) (h : L_X0_weigh_22 o0 i1 i2 k j μ K2 Q) : G x 3 22 [(0, .ref (gB x + o0)), (1, .int i1), (2, .int i2)] [] μ k j := by
  obtain ⟨I, ⟨n, hI⟩, hs⟩ := h
  induction n using Nat.strongRecOn generalizing i2 k j μ with
  | ind n ih => exact tB_X0_weigh_22 f hq hK2 (fun a2 k j ν hk => by obtain ⟨n2, hn, hI2⟩ := hk; exact ih n2 hn hI2) (hs _ _ _ _ _ hI)
def B_X0_weigh_2 (o0 : Nat) (i1 : Int32) (k j : Nat) (μ : Me) (K2 : Int32 → Nat → Nat → Me → Prop) (Q : Me → Prop) : Prop := mok μ o0 0 ∧ ∃ t2, mgr μ o0 0 = some t2 ∧ mok μ t2 9 ∧ (((mgi μ t2 0) ≤ i1 → ∃ t4, mgr μ o0 4 = some t4 ∧ mok μ t4 12 ∧ (((1 <<< ((mgi μ o0 5) &&& 31)) ≤ (nI (mln μ t4)) → B_X0_weigh_89 o0 k j μ Q) ∧ (¬ (1 <<< ((mgi μ o0 5) &&& 31)) ≤ (nI (mln μ t4)) → (¬ (1 <<< ((mgi μ o0 5) &&& 31)) < 0 ∧ (1 <<< ((mgi μ o0 5) &&& 31)).toNatClampNeg ≤ 4096) ∧ (k + 1 ≤ 1 ∧ j + 4096 ≤ 4096) ∧ ∀ μ22, μ22 = mnw μ 12 (1 <<< ((mgi μ o0 5) &&& 31)).toNatClampNeg → ∀ μ27, μ27 = msr μ22 o0 4 (some (mnn μ)) → B_X0_weigh_89 o0 (k + 1) (j + 4096) μ27 Q))) ∧ (¬ (mgi μ t2 0) ≤ i1 → ∃ t28, mgr μ o0 3 = some t28 ∧ mok μ t28 12 ∧ vp_in i1 (mln μ t28) ∧ ∀ μ30, μ30 = msi μ t28 i1.toNatClampNeg 0 → L_X0_weigh_22 o0 i1 0 k j μ30 K2 Q))
set_option maxHeartbeats 4000000 in
set_option maxRecDepth 100000 in
theorem tB_X0_weigh_2 {x : GX} (f : Fx x cX0_weigh RX0 3 (rmc 2 1 4096)) {o0 : Nat} {i1 : Int32} {k j : Nat} {μ : Me} {Q : Me → Prop} (hq : Rt x none (qV Q)) {K2 : Int32 → Nat → Nat → Me → Prop} (hK2 : ∀ (a1 : Int32) (k j : Nat) (ν : Me), K2 a1 k j ν → G x 3 2 [(0, .ref (gB x + o0)), (1, .int a1)] [] ν k j) (h : B_X0_weigh_2 o0 i1 k j μ K2 Q) : G x 3 2 [(0, .ref (gB x + o0)), (1, .int i1)] [] μ k j := by
  unfold B_X0_weigh_2 at h
  refine g_iload_n f 1 dX0_weigh_2 rfl rfl ?_
  refine g_aload_n f 0 dX0_weigh_3 rfl rfl ?_
  obtain ⟨v1, h⟩ := h
  refine g_getR f fk_X0_21 v1 dX0_weigh_4 rfl h (fun t2 h => ?_)
  obtain ⟨v3, h⟩ := h
  refine g_getI f fk_X0_67 v3 dX0_weigh_7 rfl ?_
  refine g_ic_ge f 63 dX0_weigh_10 rfl h (fun h => ?_) (fun h => ?_)
  · refine g_aload_n f 0 dX0_weigh_63 rfl rfl ?_
    refine g_getR f fk_X0_18 v1 dX0_weigh_64 rfl h (fun t4 h => ?_)
    obtain ⟨v5, h⟩ := h
    refine g_alen f v5 (Or.inl rfl) dX0_weigh_67 ?_
    refine g_iconst f 1 dX0_weigh_68 kc_1 ?_
    refine g_aload_n f 0 dX0_weigh_69 rfl rfl ?_
    refine g_getI f fk_X0_29 v1 dX0_weigh_70 rfl ?_
    refine g_ishl f dX0_weigh_73 ?_
    refine g_ic_ge f 89 dX0_weigh_74 rfl h (fun h => ?_) (fun h => ?_)
    · exact h_sub [0] rfl (tB_X0_weigh_89 f hq h)
    · refine g_aload_n f 0 dX0_weigh_77 rfl rfl ?_
      refine g_iconst f 1 dX0_weigh_78 kc_1 ?_
      refine g_aload_n f 0 dX0_weigh_79 rfl rfl ?_
      refine g_getI f fk_X0_29 v1 dX0_weigh_80 rfl ?_
      refine g_ishl f dX0_weigh_83 ?_
      obtain ⟨⟨z25, z25b⟩, h⟩ := h
      obtain ⟨⟨c26, c26b⟩, h⟩ := h
      refine g_newa (c := 12) (cap := 4096) f .int (Or.inl ⟨rfl, rfl⟩) dX0_weigh_84 w_187 z25 rfl z25b (Nat.le_of_ble_eq_true rfl) c26 c26b h (fun h v23 x24 => ?_)
      have v1 := mex_ok x24 v1
      refine g_putQ (r := some _) f fk_X0_18 v1 dX0_weigh_86 rfl (Or.inr ⟨_, rfl⟩) h (fun h => ?_)
      exact h_sub [0] rfl (tB_X0_weigh_89 f hq h)
  · refine g_aload_n f 0 dX0_weigh_13 rfl rfl ?_
    refine g_getR f fk_X0_15 v1 dX0_weigh_14 rfl h (fun t28 h => ?_)
    refine g_iload_n f 1 dX0_weigh_17 rfl rfl ?_
    refine g_iconst f 0 dX0_weigh_18 kc_0 ?_
    obtain ⟨v29, h⟩ := h
    refine g_iast f v29 dX0_weigh_19 h (fun h => ?_)
    refine g_iconst f 0 dX0_weigh_20 kc_0 ?_
    refine h_istore_n f dX0_weigh_21 rfl (by decide) ?_
    exact h_sub [1, 2, 0] rfl (tL_X0_weigh_22 f hq hK2 h)
def L_X0_weigh_2 (o0 : Nat) (i1 : Int32) (k j : Nat) (μ : Me) (Q : Me → Prop) : Prop := ∃ I : Int32 → Nat → Nat → Me → Nat → Prop, (∃ n, I i1 k j μ n) ∧ ∀ (i1 : Int32) (k j : Nat) (μ : Me) (n : Nat), I i1 k j μ n → B_X0_weigh_2 o0 i1 k j μ (fun a1 k j ν => ∃ n', n' < n ∧ I a1 k j ν n') Q
set_option maxHeartbeats 4000000 in
set_option maxRecDepth 100000 in
theorem tL_X0_weigh_2 {x : GX} (f : Fx x cX0_weigh RX0 3 (rmc 2 1 4096)) {o0 : Nat} {i1 : Int32} {k j : Nat} {μ : Me} {Q : Me → Prop} (hq : Rt x none (qV Q)) (h : L_X0_weigh_2 o0 i1 k j μ Q) : G x 3 2 [(0, .ref (gB x + o0)), (1, .int i1)] [] μ k j := by
  obtain ⟨I, ⟨n, hI⟩, hs⟩ := h
  induction n using Nat.strongRecOn generalizing i1 k j μ with
  | ind n ih => exact tB_X0_weigh_2 f hq (fun a1 k j ν hk => by obtain ⟨n2, hn, hI2⟩ := hk; exact ih n2 hn hI2) (hs _ _ _ _ _ hI)
def S_X0_weigh (o0 : Nat) (μ : Me) (Q : Me → Prop) : Prop := L_X0_weigh_2 o0 0 0 0 μ Q
set_option maxHeartbeats 4000000 in
set_option maxRecDepth 100000 in
theorem t_X0_weigh {x : GX} (f : Fx x cX0_weigh RX0 3 (rmc 2 1 4096)) {o0 : Nat} {μ : Me} {Q : Me → Prop} (hq : Rt x none (qV Q)) (h : S_X0_weigh o0 μ Q) : G x 3 0 [(0, .ref (gB x + o0))] [] μ 0 0 := by
  unfold S_X0_weigh at h
  refine g_iconst f 0 dX0_weigh_0 kc_0 ?_
  refine h_istore_n f dX0_weigh_1 rfl (by decide) ?_
  exact h_sub [1, 0] rfl (tL_X0_weigh_2 f hq h)
theorem c_X0_weigh {Ω : OM} {o0 : Nat} {μ : Me} {Q : Me → Prop} (h : S_X0_weigh o0 μ Q) : CT Ω yX0_weigh cX0_weigh 3 none (rmc 2 1 4096) [.ref (oB Ω + o0)] μ (qV Q) := CT_of (by decide) rfl (by simp [lg_sl, Value.category]) (fun x hΩ f hq hi => by subst hΩ; exact t_X0_weigh f hq h)
theorem dX0_firstToAsk_0 : decode cX0_firstToAsk 0 = .ok (.aload_n 0, 1) := by decide +kernel
theorem dX0_firstToAsk_1 : decode cX0_firstToAsk 1 = .ok (.getfield 29, 3) := by decide +kernel
theorem dX0_firstToAsk_4 : decode cX0_firstToAsk 4 = .ok (.iconst 1, 1) := by decide +kernel
theorem dX0_firstToAsk_5 : decode cX0_firstToAsk 5 = .ok (.if_icmp .gt 5, 3) := by decide +kernel
theorem dX0_firstToAsk_8 : decode cX0_firstToAsk 8 = .ok (.iconst (-1), 1) := by decide +kernel
theorem dX0_firstToAsk_9 : decode cX0_firstToAsk 9 = .ok (.ireturn, 1) := by decide +kernel
theorem dX0_firstToAsk_10 : decode cX0_firstToAsk 10 = .ok (.iconst 1, 1) := by decide +kernel
theorem dX0_firstToAsk_11 : decode cX0_firstToAsk 11 = .ok (.aload_n 0, 1) := by decide +kernel
theorem dX0_firstToAsk_12 : decode cX0_firstToAsk 12 = .ok (.getfield 29, 3) := by decide +kernel
theorem dX0_firstToAsk_15 : decode cX0_firstToAsk 15 = .ok (.ishl, 1) := by decide +kernel
theorem dX0_firstToAsk_16 : decode cX0_firstToAsk 16 = .ok (.iconst 1, 1) := by decide +kernel
theorem dX0_firstToAsk_17 : decode cX0_firstToAsk 17 = .ok (.isub, 1) := by decide +kernel
theorem dX0_firstToAsk_18 : decode cX0_firstToAsk 18 = .ok (.istore_n 1, 1) := by decide +kernel
theorem dX0_firstToAsk_19 : decode cX0_firstToAsk 19 = .ok (.iconst 0, 1) := by decide +kernel
theorem dX0_firstToAsk_20 : decode cX0_firstToAsk 20 = .ok (.istore_n 2, 1) := by decide +kernel
theorem dX0_firstToAsk_21 : decode cX0_firstToAsk 21 = .ok (.iload_n 2, 1) := by decide +kernel
theorem dX0_firstToAsk_22 : decode cX0_firstToAsk 22 = .ok (.aload_n 0, 1) := by decide +kernel
theorem dX0_firstToAsk_23 : decode cX0_firstToAsk 23 = .ok (.getfield 21, 3) := by decide +kernel
theorem dX0_firstToAsk_26 : decode cX0_firstToAsk 26 = .ok (.getfield 67, 3) := by decide +kernel
theorem dX0_firstToAsk_29 : decode cX0_firstToAsk 29 = .ok (.if_icmp .ge 26, 3) := by decide +kernel
theorem dX0_firstToAsk_32 : decode cX0_firstToAsk 32 = .ok (.aload_n 0, 1) := by decide +kernel
theorem dX0_firstToAsk_33 : decode cX0_firstToAsk 33 = .ok (.iload_n 2, 1) := by decide +kernel
theorem dX0_firstToAsk_34 : decode cX0_firstToAsk 34 = .ok (.iload_n 1, 1) := by decide +kernel
theorem dX0_firstToAsk_35 : decode cX0_firstToAsk 35 = .ok (.invokevirtual 76, 3) := by decide +kernel
theorem dX0_firstToAsk_38 : decode cX0_firstToAsk 38 = .ok (.aload_n 0, 1) := by decide +kernel
theorem dX0_firstToAsk_39 : decode cX0_firstToAsk 39 = .ok (.getfield 18, 3) := by decide +kernel
theorem dX0_firstToAsk_42 : decode cX0_firstToAsk 42 = .ok (.iload_n 1, 1) := by decide +kernel
theorem dX0_firstToAsk_43 : decode cX0_firstToAsk 43 = .ok (.iaload, 1) := by decide +kernel
theorem dX0_firstToAsk_44 : decode cX0_firstToAsk 44 = .ok (.if_icmp .ne 5, 3) := by decide +kernel
theorem dX0_firstToAsk_47 : decode cX0_firstToAsk 47 = .ok (.iload_n 2, 1) := by decide +kernel
theorem dX0_firstToAsk_48 : decode cX0_firstToAsk 48 = .ok (.ireturn, 1) := by decide +kernel
theorem dX0_firstToAsk_49 : decode cX0_firstToAsk 49 = .ok (.iinc 2 1, 3) := by decide +kernel
theorem dX0_firstToAsk_52 : decode cX0_firstToAsk 52 = .ok (.goto (-31), 3) := by decide +kernel
theorem dX0_firstToAsk_55 : decode cX0_firstToAsk 55 = .ok (.iconst (-1), 1) := by decide +kernel
theorem dX0_firstToAsk_56 : decode cX0_firstToAsk 56 = .ok (.ireturn, 1) := by decide +kernel
def B_X0_firstToAsk_21 (o0 : Nat) (i1 : Int32) (i2 : Int32) (μ : Me) (K21 : Int32 → Me → Prop) (Q : Int32 → Me → Prop) : Prop := mok μ o0 0 ∧ ∃ t3, mgr μ o0 0 = some t3 ∧ mok μ t3 9 ∧ (((mgi μ t3 0) ≤ i2 → Q (-1) μ) ∧ (¬ (mgi μ t3 0) ≤ i2 → S_X0_afterAsking o0 i2 i1 μ (fun r7 μ5 => ∃ t8, mgr μ5 o0 4 = some t8 ∧ mok μ5 t8 12 ∧ vp_in i1 (mln μ5 t8) ∧ ((¬ r7 = (mgi μ5 t8 i1.toNatClampNeg) → K21 (i2 + 1) μ5) ∧ (r7 = (mgi μ5 t8 i1.toNatClampNeg) → Q i2 μ5)))))
set_option maxHeartbeats 4000000 in
set_option maxRecDepth 100000 in
theorem tB_X0_firstToAsk_21 {x : GX} (f : Fx x cX0_firstToAsk RX0 3 (rmc 1 0 0)) {o0 : Nat} {i1 : Int32} {i2 : Int32} {μ : Me} {Q : Int32 → Me → Prop} (hq : Rt x (some .int) (qI Q)) {K21 : Int32 → Me → Prop} (hK21 : ∀ (a2 : Int32) (ν : Me), K21 a2 ν → G x 3 21 [(0, .ref (gB x + o0)), (1, .int i1), (2, .int a2)] [] ν 0 0) (h : B_X0_firstToAsk_21 o0 i1 i2 μ K21 Q) : G x 3 21 [(0, .ref (gB x + o0)), (1, .int i1), (2, .int i2)] [] μ 0 0 := by
  unfold B_X0_firstToAsk_21 at h
  refine g_iload_n f 2 dX0_firstToAsk_21 rfl rfl ?_
  refine g_aload_n f 0 dX0_firstToAsk_22 rfl rfl ?_
  obtain ⟨v2, h⟩ := h
  refine g_getR f fk_X0_21 v2 dX0_firstToAsk_23 rfl h (fun t3 h => ?_)
  obtain ⟨v4, h⟩ := h
  refine g_getI f fk_X0_67 v4 dX0_firstToAsk_26 rfl ?_
  refine g_ic_ge f 55 dX0_firstToAsk_29 rfl h (fun h => ?_) (fun h => ?_)
  · refine g_iconst f (-1) dX0_firstToAsk_55 kc_m1 ?_
    exact g_iret f hq (Nat.le_of_ble_eq_true rfl) (Nat.le_of_ble_eq_true rfl) dX0_firstToAsk_56 h
  · refine g_aload_n f 0 dX0_firstToAsk_32 rfl rfl ?_
    refine g_iload_n f 2 dX0_firstToAsk_33 rfl rfl ?_
    refine g_iload_n f 1 dX0_firstToAsk_34 rfl rfl ?_
    refine g_callV f mk_X0_76 v2 (c_X0_afterAsking h) dX0_firstToAsk_35 rfl rfl (Nat.le_of_ble_eq_true rfl) (rm_ok (by decide) (by decide)) ⟨Nat.le_of_ble_eq_true rfl, Nat.le_of_ble_eq_true rfl⟩ (kI fun r7 μ5 x6 h => ?_)
    refine g_aload_n f 0 dX0_firstToAsk_38 rfl rfl ?_
    have v2 := mex_ok x6 v2
    refine g_getR f fk_X0_18 v2 dX0_firstToAsk_39 rfl h (fun t8 h => ?_)
    refine g_iload_n f 1 dX0_firstToAsk_42 rfl rfl ?_
    obtain ⟨v9, h⟩ := h
    refine g_iald f v9 dX0_firstToAsk_43 h (fun h => ?_)
    refine g_ic_ne f 49 dX0_firstToAsk_44 rfl h (fun h => ?_) (fun h => ?_)
    · refine h_iinc f 2 1 dX0_firstToAsk_49 rfl kc_1 (by decide) ?_
      refine g_goto f 21 dX0_firstToAsk_52 rfl ?_
      exact h_sub [1, 2, 0] rfl (hK21 _ _ h)
    · refine g_iload_n f 2 dX0_firstToAsk_47 rfl rfl ?_
      exact g_iret f hq (Nat.le_of_ble_eq_true rfl) (Nat.le_of_ble_eq_true rfl) dX0_firstToAsk_48 h
def L_X0_firstToAsk_21 (o0 : Nat) (i1 : Int32) (i2 : Int32) (μ : Me) (Q : Int32 → Me → Prop) : Prop := ∃ I : Int32 → Me → Nat → Prop, (∃ n, I i2 μ n) ∧ ∀ (i2 : Int32) (μ : Me) (n : Nat), I i2 μ n → B_X0_firstToAsk_21 o0 i1 i2 μ (fun a2 ν => ∃ n', n' < n ∧ I a2 ν n') Q
set_option maxHeartbeats 4000000 in
set_option maxRecDepth 100000 in
theorem tL_X0_firstToAsk_21 {x : GX} (f : Fx x cX0_firstToAsk RX0 3 (rmc 1 0 0)) {o0 : Nat} {i1 : Int32} {i2 : Int32} {μ : Me} {Q : Int32 → Me → Prop} (hq : Rt x (some .int) (qI Q)) (h : L_X0_firstToAsk_21 o0 i1 i2 μ Q) : G x 3 21 [(0, .ref (gB x + o0)), (1, .int i1), (2, .int i2)] [] μ 0 0 := by
  obtain ⟨I, ⟨n, hI⟩, hs⟩ := h
  induction n using Nat.strongRecOn generalizing i2 μ with
  | ind n ih => exact tB_X0_firstToAsk_21 f hq (fun a2 ν hk => by obtain ⟨n2, hn, hI2⟩ := hk; exact ih n2 hn hI2) (hs _ _ _ hI)
def S_X0_firstToAsk (o0 : Nat) (μ : Me) (Q : Int32 → Me → Prop) : Prop := mok μ o0 0 ∧ ((1 < (mgi μ o0 5) → L_X0_firstToAsk_21 o0 ((1 <<< ((mgi μ o0 5) &&& 31)) - 1) 0 μ Q) ∧ (¬ 1 < (mgi μ o0 5) → Q (-1) μ))
set_option maxHeartbeats 4000000 in
set_option maxRecDepth 100000 in
theorem t_X0_firstToAsk {x : GX} (f : Fx x cX0_firstToAsk RX0 3 (rmc 1 0 0)) {o0 : Nat} {μ : Me} {Q : Int32 → Me → Prop} (hq : Rt x (some .int) (qI Q)) (h : S_X0_firstToAsk o0 μ Q) : G x 3 0 [(0, .ref (gB x + o0))] [] μ 0 0 := by
  unfold S_X0_firstToAsk at h
  refine g_aload_n f 0 dX0_firstToAsk_0 rfl rfl ?_
  obtain ⟨v1, h⟩ := h
  refine g_getI f fk_X0_29 v1 dX0_firstToAsk_1 rfl ?_
  refine g_iconst f 1 dX0_firstToAsk_4 kc_1 ?_
  refine g_ic_gt f 10 dX0_firstToAsk_5 rfl h (fun h => ?_) (fun h => ?_)
  · refine g_iconst f 1 dX0_firstToAsk_10 kc_1 ?_
    refine g_aload_n f 0 dX0_firstToAsk_11 rfl rfl ?_
    refine g_getI f fk_X0_29 v1 dX0_firstToAsk_12 rfl ?_
    refine g_ishl f dX0_firstToAsk_15 ?_
    refine g_iconst f 1 dX0_firstToAsk_16 kc_1 ?_
    refine g_isub f dX0_firstToAsk_17 ?_
    refine h_istore_n f dX0_firstToAsk_18 rfl (by decide) ?_
    refine g_iconst f 0 dX0_firstToAsk_19 kc_0 ?_
    refine h_istore_n f dX0_firstToAsk_20 rfl (by decide) ?_
    exact h_sub [2, 1, 0] rfl (tL_X0_firstToAsk_21 f hq h)
  · refine g_iconst f (-1) dX0_firstToAsk_8 kc_m1 ?_
    exact g_iret f hq (Nat.le_of_ble_eq_true rfl) (Nat.le_of_ble_eq_true rfl) dX0_firstToAsk_9 h
theorem c_X0_firstToAsk {Ω : OM} {o0 : Nat} {μ : Me} {Q : Int32 → Me → Prop} (h : S_X0_firstToAsk o0 μ Q) : CT Ω yX0_firstToAsk cX0_firstToAsk 3 (some .int) (rmc 1 0 0) [.ref (oB Ω + o0)] μ (qI Q) := CT_of (by decide) rfl (by simp [lg_sl, Value.category]) (fun x hΩ f hq hi => by subst hΩ; exact t_X0_firstToAsk f hq h)
theorem dX0_mostAsked_0 : decode cX0_mostAsked 0 = .ok (.aload_n 0, 1) := by decide +kernel
theorem dX0_mostAsked_1 : decode cX0_mostAsked 1 = .ok (.getfield 18, 3) := by decide +kernel
theorem dX0_mostAsked_4 : decode cX0_mostAsked 4 = .ok (.iconst 1, 1) := by decide +kernel
theorem dX0_mostAsked_5 : decode cX0_mostAsked 5 = .ok (.aload_n 0, 1) := by decide +kernel
theorem dX0_mostAsked_6 : decode cX0_mostAsked 6 = .ok (.getfield 29, 3) := by decide +kernel
theorem dX0_mostAsked_9 : decode cX0_mostAsked 9 = .ok (.ishl, 1) := by decide +kernel
theorem dX0_mostAsked_10 : decode cX0_mostAsked 10 = .ok (.iconst 1, 1) := by decide +kernel
theorem dX0_mostAsked_11 : decode cX0_mostAsked 11 = .ok (.isub, 1) := by decide +kernel
theorem dX0_mostAsked_12 : decode cX0_mostAsked 12 = .ok (.iaload, 1) := by decide +kernel
theorem dX0_mostAsked_13 : decode cX0_mostAsked 13 = .ok (.ireturn, 1) := by decide +kernel
def S_X0_mostAsked (o0 : Nat) (μ : Me) (Q : Int32 → Me → Prop) : Prop := mok μ o0 0 ∧ ∃ t2, mgr μ o0 4 = some t2 ∧ mok μ t2 12 ∧ vp_in ((1 <<< ((mgi μ o0 5) &&& 31)) - 1) (mln μ t2) ∧ Q (mgi μ t2 ((1 <<< ((mgi μ o0 5) &&& 31)) - 1).toNatClampNeg) μ
set_option maxHeartbeats 4000000 in
set_option maxRecDepth 100000 in
theorem t_X0_mostAsked {x : GX} (f : Fx x cX0_mostAsked RX0 1 (rmc 0 0 0)) {o0 : Nat} {μ : Me} {Q : Int32 → Me → Prop} (hq : Rt x (some .int) (qI Q)) (h : S_X0_mostAsked o0 μ Q) : G x 1 0 [(0, .ref (gB x + o0))] [] μ 0 0 := by
  unfold S_X0_mostAsked at h
  refine g_aload_n f 0 dX0_mostAsked_0 rfl rfl ?_
  obtain ⟨v1, h⟩ := h
  refine g_getR f fk_X0_18 v1 dX0_mostAsked_1 rfl h (fun t2 h => ?_)
  refine g_iconst f 1 dX0_mostAsked_4 kc_1 ?_
  refine g_aload_n f 0 dX0_mostAsked_5 rfl rfl ?_
  refine g_getI f fk_X0_29 v1 dX0_mostAsked_6 rfl ?_
  refine g_ishl f dX0_mostAsked_9 ?_
  refine g_iconst f 1 dX0_mostAsked_10 kc_1 ?_
  refine g_isub f dX0_mostAsked_11 ?_
  obtain ⟨v3, h⟩ := h
  refine g_iald f v3 dX0_mostAsked_12 h (fun h => ?_)
  exact g_iret f hq (Nat.le_of_ble_eq_true rfl) (Nat.le_of_ble_eq_true rfl) dX0_mostAsked_13 h
theorem c_X0_mostAsked {Ω : OM} {o0 : Nat} {μ : Me} {Q : Int32 → Me → Prop} (h : S_X0_mostAsked o0 μ Q) : CT Ω yX0_mostAsked cX0_mostAsked 1 (some .int) (rmc 0 0 0) [.ref (oB Ω + o0)] μ (qI Q) := CT_of (by decide) rfl (by simp [lg_sl, Value.category]) (fun x hΩ f hq hi => by subst hΩ; exact t_X0_mostAsked f hq h)
theorem dX3_init_0 : decode cX3_init 0 = .ok (.aload_n 0, 1) := by decide +kernel
theorem dX3_init_1 : decode cX3_init 1 = .ok (.invokespecial 3, 3) := by decide +kernel
theorem dX3_init_4 : decode cX3_init 4 = .ok (.aload_n 0, 1) := by decide +kernel
theorem dX3_init_5 : decode cX3_init 5 = .ok (.sipush 229, 3) := by decide +kernel
theorem dX3_init_8 : decode cX3_init 8 = .ok (.putfield 9, 3) := by decide +kernel
theorem dX3_init_11 : decode cX3_init 11 = .ok (.aload_n 0, 1) := by decide +kernel
theorem dX3_init_12 : decode cX3_init 12 = .ok (.bipush 8, 2) := by decide +kernel
theorem dX3_init_14 : decode cX3_init 14 = .ok (.newarray .int, 2) := by decide +kernel
theorem dX3_init_16 : decode cX3_init 16 = .ok (.putfield 15, 3) := by decide +kernel
theorem dX3_init_19 : decode cX3_init 19 = .ok (.aload_n 0, 1) := by decide +kernel
theorem dX3_init_20 : decode cX3_init 20 = .ok (.bipush 8, 2) := by decide +kernel
theorem dX3_init_22 : decode cX3_init 22 = .ok (.newarray .int, 2) := by decide +kernel
theorem dX3_init_24 : decode cX3_init 24 = .ok (.putfield 19, 3) := by decide +kernel
theorem dX3_init_27 : decode cX3_init 27 = .ok (.aload_n 0, 1) := by decide +kernel
theorem dX3_init_28 : decode cX3_init 28 = .ok (.bipush 30, 2) := by decide +kernel
theorem dX3_init_30 : decode cX3_init 30 = .ok (.newarray .long, 2) := by decide +kernel
theorem dX3_init_32 : decode cX3_init 32 = .ok (.putfield 22, 3) := by decide +kernel
theorem dX3_init_35 : decode cX3_init 35 = .ok (.return_, 1) := by decide +kernel
def S_X3_init (o0 : Nat) (μ : Me) (Q : Me → Prop) : Prop := mok μ o0 3 ∧ ∀ μ2, μ2 = msi μ o0 4 229 → ∀ μ3, μ3 = mnw μ2 12 8 → ∀ μ6, μ6 = msr μ3 o0 5 (some (mnn μ2)) → ∀ μ7, μ7 = mnw μ6 12 8 → ∀ μ10, μ10 = msr μ7 o0 6 (some (mnn μ6)) → ∀ μ11, μ11 = mnw μ10 13 30 → ∀ μ14, μ14 = msr μ11 o0 7 (some (mnn μ10)) → Q μ14
set_option maxHeartbeats 4000000 in
set_option maxRecDepth 100000 in
theorem t_X3_init {x : GX} (f : Fx x cX3_init RX3 1 (rmc 0 3 46)) {o0 : Nat} {μ : Me} {Q : Me → Prop} (hq : Rt x none (qV Q)) (hi : x.1.2.2.2.2.2.2.2.1.name = "<init>") (h : S_X3_init o0 μ Q) : G x 1 0 [(0, .ref (gB x + o0))] [] μ 0 0 := by
  unfold S_X3_init at h
  refine g_aload_n f 0 dX3_init_0 rfl rfl ?_
  refine g_objInit f w_139 w_126 w_127 dX3_init_1 rm_fr (Nat.le_of_ble_eq_true rfl) ?_
  refine g_aload_n f 0 dX3_init_4 rfl rfl ?_
  refine g_sipush f 229 dX3_init_5 ks_229 ?_
  obtain ⟨v1, h⟩ := h
  refine g_putI f fk_X3_9 v1 dX3_init_8 rfl h (fun h => ?_)
  refine g_aload_n f 0 dX3_init_11 rfl rfl ?_
  refine g_bipush f 8 dX3_init_12 kb_8 ?_
  refine g_newa (c := 12) (N := 8) (cap := 8) f .int (Or.inl ⟨rfl, rfl⟩) dX3_init_14 w_187 (by decide) (by decide) (Nat.le_refl _) (Nat.le_of_ble_eq_true rfl) (Nat.le_of_ble_eq_true rfl) (Nat.le_of_ble_eq_true rfl) h (fun h v4 x5 => ?_)
  have v1 := mex_ok x5 v1
  refine g_putFQ (r := some _) f fk_X3_15 rfl hi v1 dX3_init_16 rfl (Or.inr ⟨_, rfl⟩) h (fun h => ?_)
  refine g_aload_n f 0 dX3_init_19 rfl rfl ?_
  refine g_bipush f 8 dX3_init_20 kb_8 ?_
  refine g_newa (c := 12) (N := 8) (cap := 8) f .int (Or.inl ⟨rfl, rfl⟩) dX3_init_22 w_187 (by decide) (by decide) (Nat.le_refl _) (Nat.le_of_ble_eq_true rfl) (Nat.le_of_ble_eq_true rfl) (Nat.le_of_ble_eq_true rfl) h (fun h v8 x9 => ?_)
  have v1 := mex_ok x9 v1
  refine g_putFQ (r := some _) f fk_X3_19 rfl hi v1 dX3_init_24 rfl (Or.inr ⟨_, rfl⟩) h (fun h => ?_)
  refine g_aload_n f 0 dX3_init_27 rfl rfl ?_
  refine g_bipush f 30 dX3_init_28 kb_30 ?_
  refine g_newa (c := 13) (N := 30) (cap := 30) f .long (Or.inr (Or.inl ⟨rfl, rfl⟩)) dX3_init_30 w_188 (by decide) (by decide) (Nat.le_refl _) (Nat.le_of_ble_eq_true rfl) (Nat.le_of_ble_eq_true rfl) (Nat.le_of_ble_eq_true rfl) h (fun h v12 x13 => ?_)
  have v1 := mex_ok x13 v1
  refine g_putFQ (r := some _) f fk_X3_22 rfl hi v1 dX3_init_32 rfl (Or.inr ⟨_, rfl⟩) h (fun h => ?_)
  exact g_vret f hq (Nat.le_of_ble_eq_true rfl) (Nat.le_of_ble_eq_true rfl) dX3_init_35 h
theorem c_X3_init {Ω : OM} {o0 : Nat} {μ : Me} {Q : Me → Prop} (h : S_X3_init o0 μ Q) : CT Ω yX3_init cX3_init 1 none (rmc 0 3 46) [.ref (oB Ω + o0)] μ (qV Q) := CT_of (by decide) rfl (by simp [lg_sl, Value.category]) (fun x hΩ f hq hi => by subst hΩ; exact t_X3_init f hq (hi rfl) h)
theorem dX1_init_0 : decode cX1_init 0 = .ok (.aload_n 0, 1) := by decide +kernel
theorem dX1_init_1 : decode cX1_init 1 = .ok (.invokespecial 3, 3) := by decide +kernel
theorem dX1_init_4 : decode cX1_init 4 = .ok (.aload_n 0, 1) := by decide +kernel
theorem dX1_init_5 : decode cX1_init 5 = .ok (.new 9, 3) := by decide +kernel
theorem dX1_init_8 : decode cX1_init 8 = .ok (.dup, 1) := by decide +kernel
theorem dX1_init_9 : decode cX1_init 9 = .ok (.invokespecial 11, 3) := by decide +kernel
theorem dX1_init_12 : decode cX1_init 12 = .ok (.putfield 12, 3) := by decide +kernel
theorem dX1_init_15 : decode cX1_init 15 = .ok (.aload_n 0, 1) := by decide +kernel
theorem dX1_init_16 : decode cX1_init 16 = .ok (.aload_n 1, 1) := by decide +kernel
theorem dX1_init_17 : decode cX1_init 17 = .ok (.putfield 18, 3) := by decide +kernel
theorem dX1_init_20 : decode cX1_init 20 = .ok (.aload_n 0, 1) := by decide +kernel
theorem dX1_init_21 : decode cX1_init 21 = .ok (.aload_n 2, 1) := by decide +kernel
theorem dX1_init_22 : decode cX1_init 22 = .ok (.putfield 22, 3) := by decide +kernel
theorem dX1_init_25 : decode cX1_init 25 = .ok (.return_, 1) := by decide +kernel
def S_X1_init (o0 : Nat) (o1 : Nat) (o2 : Nat) (μ : Me) (Q : Me → Prop) : Prop := ∀ μ1, μ1 = mnw μ 3 0 → S_X3_init (mnn μ) μ1 (fun μ4 => mok μ4 o0 1 ∧ ∀ μ8, μ8 = msr μ4 o0 2 (some (mnn μ)) → ∀ μ9, μ9 = msr μ8 o0 0 (some o1) → ∀ μ10, μ10 = msr μ9 o0 1 (some o2) → Q μ10)
set_option maxHeartbeats 4000000 in
set_option maxRecDepth 100000 in
theorem t_X1_init {x : GX} (f : Fx x cX1_init RX1 3 (rmc 1 4 55)) {o0 : Nat} {o1 : Nat} {o2 : Nat} {μ : Me} {Q : Me → Prop} (hq : Rt x none (qV Q)) (hi : x.1.2.2.2.2.2.2.2.1.name = "<init>") (h : S_X1_init o0 o1 o2 μ Q) : G x 3 0 [(0, .ref (gB x + o0)), (1, .ref (gB x + o1)), (2, .ref (gB x + o2))] [] μ 0 0 := by
  unfold S_X1_init at h
  refine g_aload_n f 0 dX1_init_0 rfl rfl ?_
  refine g_objInit f w_442 w_126 w_127 dX1_init_1 rm_fr (Nat.le_of_ble_eq_true rfl) ?_
  refine g_aload_n f 0 dX1_init_4 rfl rfl ?_
  refine g_new f nk_X1_9 dX1_init_5 (Nat.le_of_ble_eq_true rfl) (Nat.le_of_ble_eq_true rfl) h (fun h v2 x3 => ?_)
  refine g_dup f dX1_init_8 rfl ?_
  refine g_callIn f mk_X1_11 (c_X3_init h) dX1_init_9 rfl rfl (Nat.le_of_ble_eq_true rfl) (rm_ok (by decide) (by decide)) ⟨Nat.le_of_ble_eq_true rfl, Nat.le_of_ble_eq_true rfl⟩ (kV fun μ4 x5 h => ?_)
  obtain ⟨v7, h⟩ := h
  refine g_putFQ (r := some _) f fk_X1_12 rfl hi v7 dX1_init_12 rfl (Or.inl ⟨_, rfl⟩) h (fun h => ?_)
  refine g_aload_n f 0 dX1_init_15 rfl rfl ?_
  refine g_aload_n f 1 dX1_init_16 rfl rfl ?_
  refine g_putFQ (r := some _) f fk_X1_18 rfl hi v7 dX1_init_17 rfl (Or.inl ⟨_, rfl⟩) h (fun h => ?_)
  refine g_aload_n f 0 dX1_init_20 rfl rfl ?_
  refine g_aload_n f 2 dX1_init_21 rfl rfl ?_
  refine g_putFQ (r := some _) f fk_X1_22 rfl hi v7 dX1_init_22 rfl (Or.inl ⟨_, rfl⟩) h (fun h => ?_)
  exact g_vret f hq (Nat.le_of_ble_eq_true rfl) (Nat.le_of_ble_eq_true rfl) dX1_init_25 h
theorem c_X1_init {Ω : OM} {o0 : Nat} {o1 : Nat} {o2 : Nat} {μ : Me} {Q : Me → Prop} (h : S_X1_init o0 o1 o2 μ Q) : CT Ω yX1_init cX1_init 3 none (rmc 1 4 55) [.ref (oB Ω + o0), .ref (oB Ω + o1), .ref (oB Ω + o2)] μ (qV Q) := CT_of (by decide) rfl (by simp [lg_sl, Value.category]) (fun x hΩ f hq hi => by subst hΩ; exact t_X1_init f hq (hi rfl) h)
theorem dX9_areRings_0 : decode cX9_areRings 0 = .ok (.iload_n 1, 1) := by decide +kernel
theorem dX9_areRings_1 : decode cX9_areRings 1 = .ok (.ifCond .lt 15, 3) := by decide +kernel
theorem dX9_areRings_4 : decode cX9_areRings 4 = .ok (.iload_n 1, 1) := by decide +kernel
theorem dX9_areRings_5 : decode cX9_areRings 5 = .ok (.aload_n 0, 1) := by decide +kernel
theorem dX9_areRings_6 : decode cX9_areRings 6 = .ok (.invokevirtual 57, 3) := by decide +kernel
theorem dX9_areRings_9 : decode cX9_areRings 9 = .ok (.if_icmp .ge 7, 3) := by decide +kernel
theorem dX9_areRings_12 : decode cX9_areRings 12 = .ok (.iconst 1, 1) := by decide +kernel
theorem dX9_areRings_13 : decode cX9_areRings 13 = .ok (.goto 4, 3) := by decide +kernel
theorem dX9_areRings_16 : decode cX9_areRings 16 = .ok (.iconst 0, 1) := by decide +kernel
theorem dX9_areRings_17 : decode cX9_areRings 17 = .ok (.ireturn, 1) := by decide +kernel
def S_X9_areRings (o0 : Nat) (i1 : Int32) (μ : Me) (Q : Int32 → Me → Prop) : Prop := ((i1 < 0 → Q 0 μ) ∧ (¬ i1 < 0 → mok μ o0 9 ∧ S_X9_allRings o0 μ (fun r4 μ2 => ((r4 ≤ i1 → Q 0 μ2) ∧ (¬ r4 ≤ i1 → Q 1 μ2)))))
set_option maxHeartbeats 4000000 in
set_option maxRecDepth 100000 in
theorem t_X9_areRings {x : GX} (f : Fx x cX9_areRings RX9 2 (rmc 1 0 0)) {o0 : Nat} {i1 : Int32} {μ : Me} {Q : Int32 → Me → Prop} (hq : Rt x (some .boolean) (qI Q)) (h : S_X9_areRings o0 i1 μ Q) : G x 2 0 [(0, .ref (gB x + o0)), (1, .int i1)] [] μ 0 0 := by
  unfold S_X9_areRings at h
  refine g_iload_n f 1 dX9_areRings_0 rfl rfl ?_
  refine g_if_lt f 16 dX9_areRings_1 rfl h (fun h => ?_) (fun h => ?_)
  · refine g_iconst f 0 dX9_areRings_16 kc_0 ?_
    exact g_zret f hq (Nat.le_of_ble_eq_true rfl) (Nat.le_of_ble_eq_true rfl) dX9_areRings_17 zb_0.1 h
  · refine g_iload_n f 1 dX9_areRings_4 rfl rfl ?_
    refine g_aload_n f 0 dX9_areRings_5 rfl rfl ?_
    obtain ⟨v1, h⟩ := h
    refine g_callV f mk_X9_57 v1 (c_X9_allRings h) dX9_areRings_6 rfl rfl (Nat.le_of_ble_eq_true rfl) (rm_ok (by decide) (by decide)) ⟨Nat.le_of_ble_eq_true rfl, Nat.le_of_ble_eq_true rfl⟩ (kI fun r4 μ2 x3 h => ?_)
    refine g_ic_ge f 16 dX9_areRings_9 rfl h (fun h => ?_) (fun h => ?_)
    · refine g_iconst f 0 dX9_areRings_16 kc_0 ?_
      exact g_zret f hq (Nat.le_of_ble_eq_true rfl) (Nat.le_of_ble_eq_true rfl) dX9_areRings_17 zb_0.1 h
    · refine g_iconst f 1 dX9_areRings_12 kc_1 ?_
      refine g_goto f 17 dX9_areRings_13 rfl ?_
      exact g_zret f hq (Nat.le_of_ble_eq_true rfl) (Nat.le_of_ble_eq_true rfl) dX9_areRings_17 zb_1.1 h
theorem c_X9_areRings {Ω : OM} {o0 : Nat} {i1 : Int32} {μ : Me} {Q : Int32 → Me → Prop} (h : S_X9_areRings o0 i1 μ Q) : CT Ω yX9_areRings cX9_areRings 2 (some .boolean) (rmc 1 0 0) [.ref (oB Ω + o0), .int i1] μ (qI Q) := CT_of (by decide) rfl (by simp [lg_sl, Value.category]) (fun x hΩ f hq hi => by subst hΩ; exact t_X9_areRings f hq h)
theorem dX9_aheadOf_0 : decode cX9_aheadOf 0 = .ok (.aload_n 0, 1) := by decide +kernel
theorem dX9_aheadOf_1 : decode cX9_aheadOf 1 = .ok (.getfield 50, 3) := by decide +kernel
theorem dX9_aheadOf_4 : decode cX9_aheadOf 4 = .ok (.aload_n 0, 1) := by decide +kernel
theorem dX9_aheadOf_5 : decode cX9_aheadOf 5 = .ok (.getfield 71, 3) := by decide +kernel
theorem dX9_aheadOf_8 : decode cX9_aheadOf 8 = .ok (.iload_n 1, 1) := by decide +kernel
theorem dX9_aheadOf_9 : decode cX9_aheadOf 9 = .ok (.iadd, 1) := by decide +kernel
theorem dX9_aheadOf_10 : decode cX9_aheadOf 10 = .ok (.bipush 30, 2) := by decide +kernel
theorem dX9_aheadOf_12 : decode cX9_aheadOf 12 = .ok (.irem, 1) := by decide +kernel
theorem dX9_aheadOf_13 : decode cX9_aheadOf 13 = .ok (.aaload, 1) := by decide +kernel
theorem dX9_aheadOf_14 : decode cX9_aheadOf 14 = .ok (.astore_n 2, 1) := by decide +kernel
theorem dX9_aheadOf_15 : decode cX9_aheadOf 15 = .ok (.aload_n 2, 1) := by decide +kernel
theorem dX9_aheadOf_16 : decode cX9_aheadOf 16 = .ok (.ifnonnull 10, 3) := by decide +kernel
theorem dX9_aheadOf_19 : decode cX9_aheadOf 19 = .ok (.aload_n 0, 1) := by decide +kernel
theorem dX9_aheadOf_20 : decode cX9_aheadOf 20 = .ok (.getfield 46, 3) := by decide +kernel
theorem dX9_aheadOf_23 : decode cX9_aheadOf 23 = .ok (.goto 4, 3) := by decide +kernel
theorem dX9_aheadOf_26 : decode cX9_aheadOf 26 = .ok (.aload_n 2, 1) := by decide +kernel
theorem dX9_aheadOf_27 : decode cX9_aheadOf 27 = .ok (.areturn, 1) := by decide +kernel
def S_X9_aheadOf (o0 : Nat) (i1 : Int32) (μ : Me) (Q : Option Nat → Me → Prop) : Prop := mok μ o0 9 ∧ ∃ t2, mgr μ o0 15 = some t2 ∧ mok μ t2 15 ∧ vp_in (((mgi μ o0 16) + i1) - ((mgi μ o0 16) + i1) / 30 * 30) (mln μ t2) ∧ ∀ r4, r4 = mgr μ t2 (((mgi μ o0 16) + i1) - ((mgi μ o0 16) + i1) / 30 * 30).toNatClampNeg → ((r4 = none → ∃ t6, mgr μ o0 14 = some t6 ∧ Q (some t6) μ) ∧ (∀ t5, r4 = some t5 → Q (some t5) μ))
set_option maxHeartbeats 4000000 in
set_option maxRecDepth 100000 in
theorem t_X9_aheadOf {x : GX} (f : Fx x cX9_aheadOf RX9 3 (rmc 0 0 0)) {o0 : Nat} {i1 : Int32} {μ : Me} {Q : Option Nat → Me → Prop} (hq : Rt x (some (.object "TollsForLate$Moment")) (qR (gB x) Q)) (h : S_X9_aheadOf o0 i1 μ Q) : G x 3 0 [(0, .ref (gB x + o0)), (1, .int i1)] [] μ 0 0 := by
  unfold S_X9_aheadOf at h
  refine g_aload_n f 0 dX9_aheadOf_0 rfl rfl ?_
  obtain ⟨v1, h⟩ := h
  refine g_getR f fk_X9_50 v1 dX9_aheadOf_1 rfl h (fun t2 h => ?_)
  refine g_aload_n f 0 dX9_aheadOf_4 rfl rfl ?_
  refine g_getI f fk_X9_71 v1 dX9_aheadOf_5 rfl ?_
  refine g_iload_n f 1 dX9_aheadOf_8 rfl rfl ?_
  refine g_iadd f dX9_aheadOf_9 ?_
  refine g_bipush f 30 dX9_aheadOf_10 kb_30 ?_
  refine g_irem f dX9_aheadOf_12 (by decide) ?_
  obtain ⟨v3, h⟩ := h
  refine g_aald f v3 (Or.inl rfl) dX9_aheadOf_13 h (fun r4 h => ?_)
  refine h_astore_n f dX9_aheadOf_14 rfl (by decide) ?_
  refine g_aload_nQ f 0 dX9_aheadOf_15 rfl rfl ?_
  cases r4 with
  | none =>
    have h := h.1 rfl
    refine g_ifnonnullN f dX9_aheadOf_16 ?_
    refine g_aload_n f 1 dX9_aheadOf_19 rfl rfl ?_
    refine g_getR f fk_X9_46 v1 dX9_aheadOf_20 rfl h (fun t6 h => ?_)
    refine g_goto f 27 dX9_aheadOf_23 rfl ?_
    exact g_aret (r := some _) f hq (Or.inl ⟨_, rfl⟩) (Nat.le_of_ble_eq_true rfl) (Nat.le_of_ble_eq_true rfl) dX9_aheadOf_27 h
  | some t5 =>
    have h := h.2 t5 rfl
    refine g_ifnonnullS f 26 dX9_aheadOf_16 rfl ?_
    refine g_aload_nQ f 0 dX9_aheadOf_26 rfl rfl ?_
    exact g_aret (r := some _) f hq (Or.inl ⟨_, rfl⟩) (Nat.le_of_ble_eq_true rfl) (Nat.le_of_ble_eq_true rfl) dX9_aheadOf_27 h
theorem c_X9_aheadOf {Ω : OM} {o0 : Nat} {i1 : Int32} {μ : Me} {Q : Option Nat → Me → Prop} (h : S_X9_aheadOf o0 i1 μ Q) : CT Ω yX9_aheadOf cX9_aheadOf 3 (some (.object "TollsForLate$Moment")) (rmc 0 0 0) [.ref (oB Ω + o0), .int i1] μ (qR (oB Ω) Q) := CT_of (by decide) rfl (by simp [lg_sl, Value.category]) (fun x hΩ f hq hi => by subst hΩ; exact t_X9_aheadOf f hq h)
theorem dX3_become_0 : decode cX3_become 0 = .ok (.aload_n 0, 1) := by decide +kernel
theorem dX3_become_1 : decode cX3_become 1 = .ok (.aload_n 1, 1) := by decide +kernel
theorem dX3_become_2 : decode cX3_become 2 = .ok (.getfield 26, 3) := by decide +kernel
theorem dX3_become_5 : decode cX3_become 5 = .ok (.putfield 26, 3) := by decide +kernel
theorem dX3_become_8 : decode cX3_become 8 = .ok (.aload_n 0, 1) := by decide +kernel
theorem dX3_become_9 : decode cX3_become 9 = .ok (.aload_n 1, 1) := by decide +kernel
theorem dX3_become_10 : decode cX3_become 10 = .ok (.getfield 29, 3) := by decide +kernel
theorem dX3_become_13 : decode cX3_become 13 = .ok (.putfield 29, 3) := by decide +kernel
theorem dX3_become_16 : decode cX3_become 16 = .ok (.aload_n 0, 1) := by decide +kernel
theorem dX3_become_17 : decode cX3_become 17 = .ok (.aload_n 1, 1) := by decide +kernel
theorem dX3_become_18 : decode cX3_become 18 = .ok (.getfield 32, 3) := by decide +kernel
theorem dX3_become_21 : decode cX3_become 21 = .ok (.putfield 32, 3) := by decide +kernel
theorem dX3_become_24 : decode cX3_become 24 = .ok (.aload_n 0, 1) := by decide +kernel
theorem dX3_become_25 : decode cX3_become 25 = .ok (.aload_n 1, 1) := by decide +kernel
theorem dX3_become_26 : decode cX3_become 26 = .ok (.getfield 35, 3) := by decide +kernel
theorem dX3_become_29 : decode cX3_become 29 = .ok (.putfield 35, 3) := by decide +kernel
theorem dX3_become_32 : decode cX3_become 32 = .ok (.aload_n 0, 1) := by decide +kernel
theorem dX3_become_33 : decode cX3_become 33 = .ok (.aload_n 1, 1) := by decide +kernel
theorem dX3_become_34 : decode cX3_become 34 = .ok (.getfield 9, 3) := by decide +kernel
theorem dX3_become_37 : decode cX3_become 37 = .ok (.putfield 9, 3) := by decide +kernel
theorem dX3_become_40 : decode cX3_become 40 = .ok (.aload_n 0, 1) := by decide +kernel
theorem dX3_become_41 : decode cX3_become 41 = .ok (.aload_n 1, 1) := by decide +kernel
theorem dX3_become_42 : decode cX3_become 42 = .ok (.getfield 38, 3) := by decide +kernel
theorem dX3_become_45 : decode cX3_become 45 = .ok (.putfield 38, 3) := by decide +kernel
theorem dX3_become_48 : decode cX3_become 48 = .ok (.aload_n 1, 1) := by decide +kernel
theorem dX3_become_49 : decode cX3_become 49 = .ok (.getfield 15, 3) := by decide +kernel
theorem dX3_become_52 : decode cX3_become 52 = .ok (.iconst 0, 1) := by decide +kernel
theorem dX3_become_53 : decode cX3_become 53 = .ok (.aload_n 0, 1) := by decide +kernel
theorem dX3_become_54 : decode cX3_become 54 = .ok (.getfield 15, 3) := by decide +kernel
theorem dX3_become_57 : decode cX3_become 57 = .ok (.iconst 0, 1) := by decide +kernel
theorem dX3_become_58 : decode cX3_become 58 = .ok (.bipush 8, 2) := by decide +kernel
theorem dX3_become_60 : decode cX3_become 60 = .ok (.invokestatic 41, 3) := by decide +kernel
theorem dX3_become_63 : decode cX3_become 63 = .ok (.aload_n 1, 1) := by decide +kernel
theorem dX3_become_64 : decode cX3_become 64 = .ok (.getfield 19, 3) := by decide +kernel
theorem dX3_become_67 : decode cX3_become 67 = .ok (.iconst 0, 1) := by decide +kernel
theorem dX3_become_68 : decode cX3_become 68 = .ok (.aload_n 0, 1) := by decide +kernel
theorem dX3_become_69 : decode cX3_become 69 = .ok (.getfield 19, 3) := by decide +kernel
theorem dX3_become_72 : decode cX3_become 72 = .ok (.iconst 0, 1) := by decide +kernel
theorem dX3_become_73 : decode cX3_become 73 = .ok (.bipush 8, 2) := by decide +kernel
theorem dX3_become_75 : decode cX3_become 75 = .ok (.invokestatic 41, 3) := by decide +kernel
theorem dX3_become_78 : decode cX3_become 78 = .ok (.aload_n 1, 1) := by decide +kernel
theorem dX3_become_79 : decode cX3_become 79 = .ok (.getfield 22, 3) := by decide +kernel
theorem dX3_become_82 : decode cX3_become 82 = .ok (.iconst 0, 1) := by decide +kernel
theorem dX3_become_83 : decode cX3_become 83 = .ok (.aload_n 0, 1) := by decide +kernel
theorem dX3_become_84 : decode cX3_become 84 = .ok (.getfield 22, 3) := by decide +kernel
theorem dX3_become_87 : decode cX3_become 87 = .ok (.iconst 0, 1) := by decide +kernel
theorem dX3_become_88 : decode cX3_become 88 = .ok (.bipush 30, 2) := by decide +kernel
theorem dX3_become_90 : decode cX3_become 90 = .ok (.invokestatic 41, 3) := by decide +kernel
theorem dX3_become_93 : decode cX3_become 93 = .ok (.return_, 1) := by decide +kernel
def S_X3_become (o0 : Nat) (o1 : Nat) (μ : Me) (Q : Me → Prop) : Prop := mok μ o1 3 ∧ mok μ o0 3 ∧ ∀ μ3, μ3 = msi μ o0 0 (mgi μ o1 0) → ∀ μ4, μ4 = msi μ3 o0 1 (mgi μ3 o1 1) → ∀ μ5, μ5 = msi μ4 o0 2 (mgi μ4 o1 2) → ∀ μ6, μ6 = msi μ5 o0 3 (mgi μ5 o1 3) → ∀ μ7, μ7 = msi μ6 o0 4 (mgi μ6 o1 4) → ∀ μ8, μ8 = msi μ7 o0 8 (mgi μ7 o1 8) → ∃ t9, mgr μ8 o1 5 = some t9 ∧ ∃ t10, mgr μ8 o0 5 = some t10 ∧ mok μ8 t9 12 ∧ mok μ8 t10 12 ∧ cpok (mln μ8 t9) (mln μ8 t10) 0 0 8 ∧ ∀ μ13, μ13 = mci μ8 t10 (va_cpy (mgi μ8 t9) (mgi μ8 t10) (0 : Int32).toNatClampNeg (0 : Int32).toNatClampNeg (8 : Int32).toNatClampNeg) → ∃ t14, mgr μ13 o1 6 = some t14 ∧ ∃ t15, mgr μ13 o0 6 = some t15 ∧ mok μ13 t14 12 ∧ mok μ13 t15 12 ∧ cpok (mln μ13 t14) (mln μ13 t15) 0 0 8 ∧ ∀ μ18, μ18 = mci μ13 t15 (va_cpy (mgi μ13 t14) (mgi μ13 t15) (0 : Int32).toNatClampNeg (0 : Int32).toNatClampNeg (8 : Int32).toNatClampNeg) → ∃ t19, mgr μ18 o1 7 = some t19 ∧ ∃ t20, mgr μ18 o0 7 = some t20 ∧ mok μ18 t19 13 ∧ mok μ18 t20 13 ∧ cpok (mln μ18 t19) (mln μ18 t20) 0 0 30 ∧ ∀ μ23, μ23 = mcl μ18 t20 (va_cpy (mgl μ18 t19) (mgl μ18 t20) (0 : Int32).toNatClampNeg (0 : Int32).toNatClampNeg (30 : Int32).toNatClampNeg) → Q μ23
set_option maxHeartbeats 4000000 in
set_option maxRecDepth 100000 in
theorem t_X3_become {x : GX} (f : Fx x cX3_become RX3 2 (rmc 0 0 0)) {o0 : Nat} {o1 : Nat} {μ : Me} {Q : Me → Prop} (hq : Rt x none (qV Q)) (h : S_X3_become o0 o1 μ Q) : G x 2 0 [(0, .ref (gB x + o0)), (1, .ref (gB x + o1))] [] μ 0 0 := by
  unfold S_X3_become at h
  refine g_aload_n f 0 dX3_become_0 rfl rfl ?_
  refine g_aload_n f 1 dX3_become_1 rfl rfl ?_
  obtain ⟨v1, h⟩ := h
  refine g_getI f fk_X3_26 v1 dX3_become_2 rfl ?_
  obtain ⟨v2, h⟩ := h
  refine g_putI f fk_X3_26 v2 dX3_become_5 rfl h (fun h => ?_)
  refine g_aload_n f 0 dX3_become_8 rfl rfl ?_
  refine g_aload_n f 1 dX3_become_9 rfl rfl ?_
  refine g_getI f fk_X3_29 v1 dX3_become_10 rfl ?_
  refine g_putI f fk_X3_29 v2 dX3_become_13 rfl h (fun h => ?_)
  refine g_aload_n f 0 dX3_become_16 rfl rfl ?_
  refine g_aload_n f 1 dX3_become_17 rfl rfl ?_
  refine g_getI f fk_X3_32 v1 dX3_become_18 rfl ?_
  refine g_putI f fk_X3_32 v2 dX3_become_21 rfl h (fun h => ?_)
  refine g_aload_n f 0 dX3_become_24 rfl rfl ?_
  refine g_aload_n f 1 dX3_become_25 rfl rfl ?_
  refine g_getI f fk_X3_35 v1 dX3_become_26 rfl ?_
  refine g_putI f fk_X3_35 v2 dX3_become_29 rfl h (fun h => ?_)
  refine g_aload_n f 0 dX3_become_32 rfl rfl ?_
  refine g_aload_n f 1 dX3_become_33 rfl rfl ?_
  refine g_getI f fk_X3_9 v1 dX3_become_34 rfl ?_
  refine g_putI f fk_X3_9 v2 dX3_become_37 rfl h (fun h => ?_)
  refine g_aload_n f 0 dX3_become_40 rfl rfl ?_
  refine g_aload_n f 1 dX3_become_41 rfl rfl ?_
  refine g_getI f fk_X3_38 v1 dX3_become_42 rfl ?_
  refine g_putI f fk_X3_38 v2 dX3_become_45 rfl h (fun h => ?_)
  refine g_aload_n f 1 dX3_become_48 rfl rfl ?_
  refine g_getR f fk_X3_15 v1 dX3_become_49 rfl h (fun t9 h => ?_)
  refine g_iconst f 0 dX3_become_52 kc_0 ?_
  refine g_aload_n f 0 dX3_become_53 rfl rfl ?_
  refine g_getR f fk_X3_15 v2 dX3_become_54 rfl h (fun t10 h => ?_)
  refine g_iconst f 0 dX3_become_57 kc_0 ?_
  refine g_bipush f 8 dX3_become_58 kb_8 ?_
  obtain ⟨v11, h⟩ := h
  obtain ⟨v12, h⟩ := h
  refine g_copyi f ck_X3_41 v11 v12 dX3_become_60 rm_fr (rm_na (Nat.le_of_ble_eq_true rfl)) h (fun h => ?_)
  refine g_aload_n f 1 dX3_become_63 rfl rfl ?_
  refine g_getR f fk_X3_19 v1 dX3_become_64 rfl h (fun t14 h => ?_)
  refine g_iconst f 0 dX3_become_67 kc_0 ?_
  refine g_aload_n f 0 dX3_become_68 rfl rfl ?_
  refine g_getR f fk_X3_19 v2 dX3_become_69 rfl h (fun t15 h => ?_)
  refine g_iconst f 0 dX3_become_72 kc_0 ?_
  refine g_bipush f 8 dX3_become_73 kb_8 ?_
  obtain ⟨v16, h⟩ := h
  obtain ⟨v17, h⟩ := h
  refine g_copyi f ck_X3_41 v16 v17 dX3_become_75 rm_fr (rm_na (Nat.le_of_ble_eq_true rfl)) h (fun h => ?_)
  refine g_aload_n f 1 dX3_become_78 rfl rfl ?_
  refine g_getR f fk_X3_22 v1 dX3_become_79 rfl h (fun t19 h => ?_)
  refine g_iconst f 0 dX3_become_82 kc_0 ?_
  refine g_aload_n f 0 dX3_become_83 rfl rfl ?_
  refine g_getR f fk_X3_22 v2 dX3_become_84 rfl h (fun t20 h => ?_)
  refine g_iconst f 0 dX3_become_87 kc_0 ?_
  refine g_bipush f 30 dX3_become_88 kb_30 ?_
  obtain ⟨v21, h⟩ := h
  obtain ⟨v22, h⟩ := h
  refine g_copyl f ck_X3_41 v21 v22 dX3_become_90 rm_fr (rm_na (Nat.le_of_ble_eq_true rfl)) h (fun h => ?_)
  exact g_vret f hq (Nat.le_of_ble_eq_true rfl) (Nat.le_of_ble_eq_true rfl) dX3_become_93 h
theorem c_X3_become {Ω : OM} {o0 : Nat} {o1 : Nat} {μ : Me} {Q : Me → Prop} (h : S_X3_become o0 o1 μ Q) : CT Ω yX3_become cX3_become 2 none (rmc 0 0 0) [.ref (oB Ω + o0), .ref (oB Ω + o1)] μ (qV Q) := CT_of (by decide) rfl (by simp [lg_sl, Value.category]) (fun x hΩ f hq hi => by subst hΩ; exact t_X3_become f hq h)
theorem dX9_markStep_0 : decode cX9_markStep 0 = .ok (.aload_n 0, 1) := by decide +kernel
theorem dX9_markStep_1 : decode cX9_markStep 1 = .ok (.getfield 64, 3) := by decide +kernel
theorem dX9_markStep_4 : decode cX9_markStep 4 = .ok (.bipush 30, 2) := by decide +kernel
theorem dX9_markStep_6 : decode cX9_markStep 6 = .ok (.if_icmp .ge 16, 3) := by decide +kernel
theorem dX9_markStep_9 : decode cX9_markStep 9 = .ok (.aload_n 0, 1) := by decide +kernel
theorem dX9_markStep_10 : decode cX9_markStep 10 = .ok (.dup, 1) := by decide +kernel
theorem dX9_markStep_11 : decode cX9_markStep 11 = .ok (.getfield 64, 3) := by decide +kernel
theorem dX9_markStep_14 : decode cX9_markStep 14 = .ok (.iconst 1, 1) := by decide +kernel
theorem dX9_markStep_15 : decode cX9_markStep 15 = .ok (.iadd, 1) := by decide +kernel
theorem dX9_markStep_16 : decode cX9_markStep 16 = .ok (.putfield 64, 3) := by decide +kernel
theorem dX9_markStep_19 : decode cX9_markStep 19 = .ok (.goto 16, 3) := by decide +kernel
theorem dX9_markStep_22 : decode cX9_markStep 22 = .ok (.aload_n 0, 1) := by decide +kernel
theorem dX9_markStep_23 : decode cX9_markStep 23 = .ok (.aload_n 0, 1) := by decide +kernel
theorem dX9_markStep_24 : decode cX9_markStep 24 = .ok (.getfield 71, 3) := by decide +kernel
theorem dX9_markStep_27 : decode cX9_markStep 27 = .ok (.iconst 1, 1) := by decide +kernel
theorem dX9_markStep_28 : decode cX9_markStep 28 = .ok (.iadd, 1) := by decide +kernel
theorem dX9_markStep_29 : decode cX9_markStep 29 = .ok (.bipush 30, 2) := by decide +kernel
theorem dX9_markStep_31 : decode cX9_markStep 31 = .ok (.irem, 1) := by decide +kernel
theorem dX9_markStep_32 : decode cX9_markStep 32 = .ok (.putfield 71, 3) := by decide +kernel
theorem dX9_markStep_35 : decode cX9_markStep 35 = .ok (.aload_n 0, 1) := by decide +kernel
theorem dX9_markStep_36 : decode cX9_markStep 36 = .ok (.aload_n 0, 1) := by decide +kernel
theorem dX9_markStep_37 : decode cX9_markStep 37 = .ok (.getfield 64, 3) := by decide +kernel
theorem dX9_markStep_40 : decode cX9_markStep 40 = .ok (.iconst 1, 1) := by decide +kernel
theorem dX9_markStep_41 : decode cX9_markStep 41 = .ok (.isub, 1) := by decide +kernel
theorem dX9_markStep_42 : decode cX9_markStep 42 = .ok (.invokevirtual 67, 3) := by decide +kernel
theorem dX9_markStep_45 : decode cX9_markStep 45 = .ok (.aload_n 0, 1) := by decide +kernel
theorem dX9_markStep_46 : decode cX9_markStep 46 = .ok (.getfield 46, 3) := by decide +kernel
theorem dX9_markStep_49 : decode cX9_markStep 49 = .ok (.invokevirtual 74, 3) := by decide +kernel
theorem dX9_markStep_52 : decode cX9_markStep 52 = .ok (.return_, 1) := by decide +kernel
def B_X9_markStep_35 (o0 : Nat) (μ : Me) (Q : Me → Prop) : Prop := mok μ o0 9 ∧ S_X9_aheadOf o0 ((mgi μ o0 17) - 1) μ (fun r6 μ4 => ∃ t7, mgr μ4 o0 14 = some t7 ∧ ∃ t8, r6 = some t8 ∧ mok μ4 t8 3 ∧ S_X3_become t8 t7 μ4 (fun μ12 => Q μ12))
set_option maxHeartbeats 4000000 in
set_option maxRecDepth 100000 in
theorem tB_X9_markStep_35 {x : GX} (f : Fx x cX9_markStep RX9 1 (rmc 1 0 0)) {o0 : Nat} {μ : Me} {Q : Me → Prop} (hq : Rt x none (qV Q)) (h : B_X9_markStep_35 o0 μ Q) : G x 1 35 [(0, .ref (gB x + o0))] [] μ 0 0 := by
  unfold B_X9_markStep_35 at h
  refine g_aload_n f 0 dX9_markStep_35 rfl rfl ?_
  refine g_aload_n f 0 dX9_markStep_36 rfl rfl ?_
  obtain ⟨v3, h⟩ := h
  refine g_getI f fk_X9_64 v3 dX9_markStep_37 rfl ?_
  refine g_iconst f 1 dX9_markStep_40 kc_1 ?_
  refine g_isub f dX9_markStep_41 ?_
  refine g_callV f mk_X9_67 v3 (c_X9_aheadOf h) dX9_markStep_42 rfl rfl (Nat.le_of_ble_eq_true rfl) (rm_ok (by decide) (by decide)) ⟨Nat.le_of_ble_eq_true rfl, Nat.le_of_ble_eq_true rfl⟩ (kR fun r6 μ4 x5 h => ?_)
  refine g_aload_n f 0 dX9_markStep_45 rfl rfl ?_
  have v3 := mex_ok x5 v3
  refine g_getR f fk_X9_46 v3 dX9_markStep_46 rfl h (fun t7 h => ?_)
  obtain ⟨t8, e9, h10⟩ := h
  subst e9
  have h := h10
  obtain ⟨v11, h⟩ := h
  refine g_callV f mk_X9_74 v11 (c_X3_become h) dX9_markStep_49 rfl rfl (Nat.le_of_ble_eq_true rfl) (rm_ok (by decide) (by decide)) ⟨Nat.le_of_ble_eq_true rfl, Nat.le_of_ble_eq_true rfl⟩ (kV fun μ12 x13 h => ?_)
  exact g_vret f hq (Nat.le_of_ble_eq_true rfl) (Nat.le_of_ble_eq_true rfl) dX9_markStep_52 h
def S_X9_markStep (o0 : Nat) (μ : Me) (Q : Me → Prop) : Prop := mok μ o0 9 ∧ ((30 ≤ (mgi μ o0 17) → ∀ μ2, μ2 = msi μ o0 16 (((mgi μ o0 16) + 1) - ((mgi μ o0 16) + 1) / 30 * 30) → B_X9_markStep_35 o0 μ2 Q) ∧ (¬ 30 ≤ (mgi μ o0 17) → ∀ μ15, μ15 = msi μ o0 17 ((mgi μ o0 17) + 1) → B_X9_markStep_35 o0 μ15 Q))
set_option maxHeartbeats 4000000 in
set_option maxRecDepth 100000 in
theorem t_X9_markStep {x : GX} (f : Fx x cX9_markStep RX9 1 (rmc 1 0 0)) {o0 : Nat} {μ : Me} {Q : Me → Prop} (hq : Rt x none (qV Q)) (h : S_X9_markStep o0 μ Q) : G x 1 0 [(0, .ref (gB x + o0))] [] μ 0 0 := by
  unfold S_X9_markStep at h
  refine g_aload_n f 0 dX9_markStep_0 rfl rfl ?_
  obtain ⟨v1, h⟩ := h
  refine g_getI f fk_X9_64 v1 dX9_markStep_1 rfl ?_
  refine g_bipush f 30 dX9_markStep_4 kb_30 ?_
  refine g_ic_ge f 22 dX9_markStep_6 rfl h (fun h => ?_) (fun h => ?_)
  · refine g_aload_n f 0 dX9_markStep_22 rfl rfl ?_
    refine g_aload_n f 0 dX9_markStep_23 rfl rfl ?_
    refine g_getI f fk_X9_71 v1 dX9_markStep_24 rfl ?_
    refine g_iconst f 1 dX9_markStep_27 kc_1 ?_
    refine g_iadd f dX9_markStep_28 ?_
    refine g_bipush f 30 dX9_markStep_29 kb_30 ?_
    refine g_irem f dX9_markStep_31 (by decide) ?_
    refine g_putI f fk_X9_71 v1 dX9_markStep_32 rfl h (fun h => ?_)
    exact h_sub [0] rfl (tB_X9_markStep_35 f hq h)
  · refine g_aload_n f 0 dX9_markStep_9 rfl rfl ?_
    refine g_dup f dX9_markStep_10 rfl ?_
    refine g_getI f fk_X9_64 v1 dX9_markStep_11 rfl ?_
    refine g_iconst f 1 dX9_markStep_14 kc_1 ?_
    refine g_iadd f dX9_markStep_15 ?_
    refine g_putI f fk_X9_64 v1 dX9_markStep_16 rfl h (fun h => ?_)
    refine g_goto f 35 dX9_markStep_19 rfl ?_
    exact h_sub [0] rfl (tB_X9_markStep_35 f hq h)
theorem c_X9_markStep {Ω : OM} {o0 : Nat} {μ : Me} {Q : Me → Prop} (h : S_X9_markStep o0 μ Q) : CT Ω yX9_markStep cX9_markStep 1 none (rmc 1 0 0) [.ref (oB Ω + o0)] μ (qV Q) := CT_of (by decide) rfl (by simp [lg_sl, Value.category]) (fun x hΩ f hq hi => by subst hΩ; exact t_X9_markStep f hq h)
theorem dX1_ringFor_0 : decode cX1_ringFor 0 = .ok (.aload_n 0, 1) := by decide +kernel
theorem dX1_ringFor_1 : decode cX1_ringFor 1 = .ok (.getfield 18, 3) := by decide +kernel
theorem dX1_ringFor_4 : decode cX1_ringFor 4 = .ok (.iload_n 1, 1) := by decide +kernel
theorem dX1_ringFor_5 : decode cX1_ringFor 5 = .ok (.invokevirtual 26, 3) := by decide +kernel
theorem dX1_ringFor_8 : decode cX1_ringFor 8 = .ok (.ifCond .ne 5, 3) := by decide +kernel
theorem dX1_ringFor_11 : decode cX1_ringFor 11 = .ok (.iconst 0, 1) := by decide +kernel
theorem dX1_ringFor_12 : decode cX1_ringFor 12 = .ok (.ireturn, 1) := by decide +kernel
theorem dX1_ringFor_13 : decode cX1_ringFor 13 = .ok (.aload_n 0, 1) := by decide +kernel
theorem dX1_ringFor_14 : decode cX1_ringFor 14 = .ok (.getfield 18, 3) := by decide +kernel
theorem dX1_ringFor_17 : decode cX1_ringFor 17 = .ok (.invokevirtual 32, 3) := by decide +kernel
theorem dX1_ringFor_20 : decode cX1_ringFor 20 = .ok (.aload_n 0, 1) := by decide +kernel
theorem dX1_ringFor_21 : decode cX1_ringFor 21 = .ok (.getfield 18, 3) := by decide +kernel
theorem dX1_ringFor_24 : decode cX1_ringFor 24 = .ok (.getfield 35, 3) := by decide +kernel
theorem dX1_ringFor_27 : decode cX1_ringFor 27 = .ok (.iload_n 1, 1) := by decide +kernel
theorem dX1_ringFor_28 : decode cX1_ringFor 28 = .ok (.putfield 38, 3) := by decide +kernel
theorem dX1_ringFor_31 : decode cX1_ringFor 31 = .ok (.iconst 1, 1) := by decide +kernel
theorem dX1_ringFor_32 : decode cX1_ringFor 32 = .ok (.ireturn, 1) := by decide +kernel
def S_X1_ringFor (o0 : Nat) (i1 : Int32) (μ : Me) (Q : Int32 → Me → Prop) : Prop := mok μ o0 1 ∧ ∃ t2, mgr μ o0 0 = some t2 ∧ mok μ t2 9 ∧ S_X9_areRings t2 i1 μ (fun r6 μ4 => ((¬ r6 = 0 → ∃ t7, mgr μ4 o0 0 = some t7 ∧ mok μ4 t7 9 ∧ S_X9_markStep t7 μ4 (fun μ9 => ∃ t12, mgr μ9 o0 0 = some t12 ∧ mok μ9 t12 9 ∧ ∃ t14, mgr μ9 t12 14 = some t14 ∧ mok μ9 t14 3 ∧ ∀ μ16, μ16 = msi μ9 t14 0 i1 → Q 1 μ16)) ∧ (r6 = 0 → Q 0 μ4)))
set_option maxHeartbeats 4000000 in
set_option maxRecDepth 100000 in
theorem t_X1_ringFor {x : GX} (f : Fx x cX1_ringFor RX1 2 (rmc 2 0 0)) {o0 : Nat} {i1 : Int32} {μ : Me} {Q : Int32 → Me → Prop} (hq : Rt x (some .boolean) (qI Q)) (h : S_X1_ringFor o0 i1 μ Q) : G x 2 0 [(0, .ref (gB x + o0)), (1, .int i1)] [] μ 0 0 := by
  unfold S_X1_ringFor at h
  refine g_aload_n f 0 dX1_ringFor_0 rfl rfl ?_
  obtain ⟨v1, h⟩ := h
  refine g_getR f fk_X1_18 v1 dX1_ringFor_1 rfl h (fun t2 h => ?_)
  refine g_iload_n f 1 dX1_ringFor_4 rfl rfl ?_
  obtain ⟨v3, h⟩ := h
  refine g_callV f mk_X1_26 v3 (c_X9_areRings h) dX1_ringFor_5 rfl rfl (Nat.le_of_ble_eq_true rfl) (rm_ok (by decide) (by decide)) ⟨Nat.le_of_ble_eq_true rfl, Nat.le_of_ble_eq_true rfl⟩ (kI fun r6 μ4 x5 h => ?_)
  refine g_if_ne f 13 dX1_ringFor_8 rfl h (fun h => ?_) (fun h => ?_)
  · refine g_aload_n f 0 dX1_ringFor_13 rfl rfl ?_
    have v1 := mex_ok x5 v1
    refine g_getR f fk_X1_18 v1 dX1_ringFor_14 rfl h (fun t7 h => ?_)
    obtain ⟨v8, h⟩ := h
    refine g_callV f mk_X1_32 v8 (c_X9_markStep h) dX1_ringFor_17 rfl rfl (Nat.le_of_ble_eq_true rfl) (rm_ok (by decide) (by decide)) ⟨Nat.le_of_ble_eq_true rfl, Nat.le_of_ble_eq_true rfl⟩ (kV fun μ9 x10 h => ?_)
    refine g_aload_n f 0 dX1_ringFor_20 rfl rfl ?_
    have v1 := mex_ok x10 v1
    refine g_getR f fk_X1_18 v1 dX1_ringFor_21 rfl h (fun t12 h => ?_)
    obtain ⟨v13, h⟩ := h
    refine g_getR f fk_X1_35 v13 dX1_ringFor_24 rfl h (fun t14 h => ?_)
    refine g_iload_n f 1 dX1_ringFor_27 rfl rfl ?_
    obtain ⟨v15, h⟩ := h
    refine g_putI f fk_X1_38 v15 dX1_ringFor_28 rfl h (fun h => ?_)
    refine g_iconst f 1 dX1_ringFor_31 kc_1 ?_
    exact g_zret f hq (Nat.le_of_ble_eq_true rfl) (Nat.le_of_ble_eq_true rfl) dX1_ringFor_32 zb_1.1 h
  · refine g_iconst f 0 dX1_ringFor_11 kc_0 ?_
    exact g_zret f hq (Nat.le_of_ble_eq_true rfl) (Nat.le_of_ble_eq_true rfl) dX1_ringFor_12 zb_0.1 h
theorem c_X1_ringFor {Ω : OM} {o0 : Nat} {i1 : Int32} {μ : Me} {Q : Int32 → Me → Prop} (h : S_X1_ringFor o0 i1 μ Q) : CT Ω yX1_ringFor cX1_ringFor 2 (some .boolean) (rmc 2 0 0) [.ref (oB Ω + o0), .int i1] μ (qI Q) := CT_of (by decide) rfl (by simp [lg_sl, Value.category]) (fun x hΩ f hq hi => by subst hΩ; exact t_X1_ringFor f hq h)
theorem dX9_isPerson_0 : decode cX9_isPerson 0 = .ok (.iload_n 1, 1) := by decide +kernel
theorem dX9_isPerson_1 : decode cX9_isPerson 1 = .ok (.ifCond .lt 15, 3) := by decide +kernel
theorem dX9_isPerson_4 : decode cX9_isPerson 4 = .ok (.iload_n 1, 1) := by decide +kernel
theorem dX9_isPerson_5 : decode cX9_isPerson 5 = .ok (.aload_n 0, 1) := by decide +kernel
theorem dX9_isPerson_6 : decode cX9_isPerson 6 = .ok (.getfield 54, 3) := by decide +kernel
theorem dX9_isPerson_9 : decode cX9_isPerson 9 = .ok (.if_icmp .ge 7, 3) := by decide +kernel
theorem dX9_isPerson_12 : decode cX9_isPerson 12 = .ok (.iconst 1, 1) := by decide +kernel
theorem dX9_isPerson_13 : decode cX9_isPerson 13 = .ok (.goto 4, 3) := by decide +kernel
theorem dX9_isPerson_16 : decode cX9_isPerson 16 = .ok (.iconst 0, 1) := by decide +kernel
theorem dX9_isPerson_17 : decode cX9_isPerson 17 = .ok (.ireturn, 1) := by decide +kernel
def S_X9_isPerson (o0 : Nat) (i1 : Int32) (μ : Me) (Q : Int32 → Me → Prop) : Prop := ((i1 < 0 → Q 0 μ) ∧ (¬ i1 < 0 → mok μ o0 9 ∧ (((mgi μ o0 0) ≤ i1 → Q 0 μ) ∧ (¬ (mgi μ o0 0) ≤ i1 → Q 1 μ))))
set_option maxHeartbeats 4000000 in
set_option maxRecDepth 100000 in
theorem t_X9_isPerson {x : GX} (f : Fx x cX9_isPerson RX9 2 (rmc 0 0 0)) {o0 : Nat} {i1 : Int32} {μ : Me} {Q : Int32 → Me → Prop} (hq : Rt x (some .boolean) (qI Q)) (h : S_X9_isPerson o0 i1 μ Q) : G x 2 0 [(0, .ref (gB x + o0)), (1, .int i1)] [] μ 0 0 := by
  unfold S_X9_isPerson at h
  refine g_iload_n f 1 dX9_isPerson_0 rfl rfl ?_
  refine g_if_lt f 16 dX9_isPerson_1 rfl h (fun h => ?_) (fun h => ?_)
  · refine g_iconst f 0 dX9_isPerson_16 kc_0 ?_
    exact g_zret f hq (Nat.le_of_ble_eq_true rfl) (Nat.le_of_ble_eq_true rfl) dX9_isPerson_17 zb_0.1 h
  · refine g_iload_n f 1 dX9_isPerson_4 rfl rfl ?_
    refine g_aload_n f 0 dX9_isPerson_5 rfl rfl ?_
    obtain ⟨v1, h⟩ := h
    refine g_getI f fk_X9_54 v1 dX9_isPerson_6 rfl ?_
    refine g_ic_ge f 16 dX9_isPerson_9 rfl h (fun h => ?_) (fun h => ?_)
    · refine g_iconst f 0 dX9_isPerson_16 kc_0 ?_
      exact g_zret f hq (Nat.le_of_ble_eq_true rfl) (Nat.le_of_ble_eq_true rfl) dX9_isPerson_17 zb_0.1 h
    · refine g_iconst f 1 dX9_isPerson_12 kc_1 ?_
      refine g_goto f 17 dX9_isPerson_13 rfl ?_
      exact g_zret f hq (Nat.le_of_ble_eq_true rfl) (Nat.le_of_ble_eq_true rfl) dX9_isPerson_17 zb_1.1 h
theorem c_X9_isPerson {Ω : OM} {o0 : Nat} {i1 : Int32} {μ : Me} {Q : Int32 → Me → Prop} (h : S_X9_isPerson o0 i1 μ Q) : CT Ω yX9_isPerson cX9_isPerson 2 (some .boolean) (rmc 0 0 0) [.ref (oB Ω + o0), .int i1] μ (qI Q) := CT_of (by decide) rfl (by simp [lg_sl, Value.category]) (fun x hΩ f hq hi => by subst hΩ; exact t_X9_isPerson f hq h)
theorem dX1_putOff_0 : decode cX1_putOff 0 = .ok (.aload_n 0, 1) := by decide +kernel
theorem dX1_putOff_1 : decode cX1_putOff 1 = .ok (.getfield 18, 3) := by decide +kernel
theorem dX1_putOff_4 : decode cX1_putOff 4 = .ok (.iload_n 1, 1) := by decide +kernel
theorem dX1_putOff_5 : decode cX1_putOff 5 = .ok (.invokevirtual 42, 3) := by decide +kernel
theorem dX1_putOff_8 : decode cX1_putOff 8 = .ok (.ifCond .eq 13, 3) := by decide +kernel
theorem dX1_putOff_11 : decode cX1_putOff 11 = .ok (.iload_n 2, 1) := by decide +kernel
theorem dX1_putOff_12 : decode cX1_putOff 12 = .ok (.ifCond .lt 9, 3) := by decide +kernel
theorem dX1_putOff_15 : decode cX1_putOff 15 = .ok (.iload_n 2, 1) := by decide +kernel
theorem dX1_putOff_16 : decode cX1_putOff 16 = .ok (.bipush 99, 2) := by decide +kernel
theorem dX1_putOff_18 : decode cX1_putOff 18 = .ok (.if_icmp .le 5, 3) := by decide +kernel
theorem dX1_putOff_21 : decode cX1_putOff 21 = .ok (.iconst 0, 1) := by decide +kernel
theorem dX1_putOff_22 : decode cX1_putOff 22 = .ok (.ireturn, 1) := by decide +kernel
theorem dX1_putOff_23 : decode cX1_putOff 23 = .ok (.aload_n 0, 1) := by decide +kernel
theorem dX1_putOff_24 : decode cX1_putOff 24 = .ok (.getfield 18, 3) := by decide +kernel
theorem dX1_putOff_27 : decode cX1_putOff 27 = .ok (.getfield 35, 3) := by decide +kernel
theorem dX1_putOff_30 : decode cX1_putOff 30 = .ok (.getfield 45, 3) := by decide +kernel
theorem dX1_putOff_33 : decode cX1_putOff 33 = .ok (.iload_n 1, 1) := by decide +kernel
theorem dX1_putOff_34 : decode cX1_putOff 34 = .ok (.iaload, 1) := by decide +kernel
theorem dX1_putOff_35 : decode cX1_putOff 35 = .ok (.iload_n 2, 1) := by decide +kernel
theorem dX1_putOff_36 : decode cX1_putOff 36 = .ok (.if_icmp .ne 5, 3) := by decide +kernel
theorem dX1_putOff_39 : decode cX1_putOff 39 = .ok (.iconst 0, 1) := by decide +kernel
theorem dX1_putOff_40 : decode cX1_putOff 40 = .ok (.ireturn, 1) := by decide +kernel
theorem dX1_putOff_41 : decode cX1_putOff 41 = .ok (.aload_n 0, 1) := by decide +kernel
theorem dX1_putOff_42 : decode cX1_putOff 42 = .ok (.getfield 18, 3) := by decide +kernel
theorem dX1_putOff_45 : decode cX1_putOff 45 = .ok (.invokevirtual 32, 3) := by decide +kernel
theorem dX1_putOff_48 : decode cX1_putOff 48 = .ok (.aload_n 0, 1) := by decide +kernel
theorem dX1_putOff_49 : decode cX1_putOff 49 = .ok (.getfield 18, 3) := by decide +kernel
theorem dX1_putOff_52 : decode cX1_putOff 52 = .ok (.getfield 35, 3) := by decide +kernel
theorem dX1_putOff_55 : decode cX1_putOff 55 = .ok (.getfield 45, 3) := by decide +kernel
theorem dX1_putOff_58 : decode cX1_putOff 58 = .ok (.iload_n 1, 1) := by decide +kernel
theorem dX1_putOff_59 : decode cX1_putOff 59 = .ok (.iload_n 2, 1) := by decide +kernel
theorem dX1_putOff_60 : decode cX1_putOff 60 = .ok (.iastore, 1) := by decide +kernel
theorem dX1_putOff_61 : decode cX1_putOff 61 = .ok (.iconst 1, 1) := by decide +kernel
theorem dX1_putOff_62 : decode cX1_putOff 62 = .ok (.ireturn, 1) := by decide +kernel
def S_X1_putOff (o0 : Nat) (i1 : Int32) (i2 : Int32) (μ : Me) (Q : Int32 → Me → Prop) : Prop := mok μ o0 1 ∧ ∃ t2, mgr μ o0 0 = some t2 ∧ mok μ t2 9 ∧ S_X9_isPerson t2 i1 μ (fun r6 μ4 => ((r6 = 0 → Q 0 μ4) ∧ (¬ r6 = 0 → ((i2 < 0 → Q 0 μ4) ∧ (¬ i2 < 0 → ((i2 ≤ 99 → ∃ t7, mgr μ4 o0 0 = some t7 ∧ mok μ4 t7 9 ∧ ∃ t9, mgr μ4 t7 14 = some t9 ∧ mok μ4 t9 3 ∧ ∃ t11, mgr μ4 t9 5 = some t11 ∧ mok μ4 t11 12 ∧ vp_in i1 (mln μ4 t11) ∧ ((¬ (mgi μ4 t11 i1.toNatClampNeg) = i2 → ∃ t13, mgr μ4 o0 0 = some t13 ∧ mok μ4 t13 9 ∧ S_X9_markStep t13 μ4 (fun μ15 => ∃ t18, mgr μ15 o0 0 = some t18 ∧ mok μ15 t18 9 ∧ ∃ t20, mgr μ15 t18 14 = some t20 ∧ mok μ15 t20 3 ∧ ∃ t22, mgr μ15 t20 5 = some t22 ∧ mok μ15 t22 12 ∧ vp_in i1 (mln μ15 t22) ∧ ∀ μ24, μ24 = msi μ15 t22 i1.toNatClampNeg i2 → Q 1 μ24)) ∧ ((mgi μ4 t11 i1.toNatClampNeg) = i2 → Q 0 μ4))) ∧ (¬ i2 ≤ 99 → Q 0 μ4)))))))
set_option maxHeartbeats 4000000 in
set_option maxRecDepth 100000 in
theorem t_X1_putOff {x : GX} (f : Fx x cX1_putOff RX1 3 (rmc 2 0 0)) {o0 : Nat} {i1 : Int32} {i2 : Int32} {μ : Me} {Q : Int32 → Me → Prop} (hq : Rt x (some .boolean) (qI Q)) (h : S_X1_putOff o0 i1 i2 μ Q) : G x 3 0 [(0, .ref (gB x + o0)), (1, .int i1), (2, .int i2)] [] μ 0 0 := by
  unfold S_X1_putOff at h
  refine g_aload_n f 0 dX1_putOff_0 rfl rfl ?_
  obtain ⟨v1, h⟩ := h
  refine g_getR f fk_X1_18 v1 dX1_putOff_1 rfl h (fun t2 h => ?_)
  refine g_iload_n f 1 dX1_putOff_4 rfl rfl ?_
  obtain ⟨v3, h⟩ := h
  refine g_callV f mk_X1_42 v3 (c_X9_isPerson h) dX1_putOff_5 rfl rfl (Nat.le_of_ble_eq_true rfl) (rm_ok (by decide) (by decide)) ⟨Nat.le_of_ble_eq_true rfl, Nat.le_of_ble_eq_true rfl⟩ (kI fun r6 μ4 x5 h => ?_)
  refine g_if_eq f 21 dX1_putOff_8 rfl h (fun h => ?_) (fun h => ?_)
  · refine g_iconst f 0 dX1_putOff_21 kc_0 ?_
    exact g_zret f hq (Nat.le_of_ble_eq_true rfl) (Nat.le_of_ble_eq_true rfl) dX1_putOff_22 zb_0.1 h
  · refine g_iload_n f 2 dX1_putOff_11 rfl rfl ?_
    refine g_if_lt f 21 dX1_putOff_12 rfl h (fun h => ?_) (fun h => ?_)
    · refine g_iconst f 0 dX1_putOff_21 kc_0 ?_
      exact g_zret f hq (Nat.le_of_ble_eq_true rfl) (Nat.le_of_ble_eq_true rfl) dX1_putOff_22 zb_0.1 h
    · refine g_iload_n f 2 dX1_putOff_15 rfl rfl ?_
      refine g_bipush f 99 dX1_putOff_16 kb_99 ?_
      refine g_ic_le f 23 dX1_putOff_18 rfl h (fun h => ?_) (fun h => ?_)
      · refine g_aload_n f 0 dX1_putOff_23 rfl rfl ?_
        have v1 := mex_ok x5 v1
        refine g_getR f fk_X1_18 v1 dX1_putOff_24 rfl h (fun t7 h => ?_)
        obtain ⟨v8, h⟩ := h
        refine g_getR f fk_X1_35 v8 dX1_putOff_27 rfl h (fun t9 h => ?_)
        obtain ⟨v10, h⟩ := h
        refine g_getR f fk_X1_45 v10 dX1_putOff_30 rfl h (fun t11 h => ?_)
        refine g_iload_n f 1 dX1_putOff_33 rfl rfl ?_
        obtain ⟨v12, h⟩ := h
        refine g_iald f v12 dX1_putOff_34 h (fun h => ?_)
        refine g_iload_n f 2 dX1_putOff_35 rfl rfl ?_
        refine g_ic_ne f 41 dX1_putOff_36 rfl h (fun h => ?_) (fun h => ?_)
        · refine g_aload_n f 0 dX1_putOff_41 rfl rfl ?_
          refine g_getR f fk_X1_18 v1 dX1_putOff_42 rfl h (fun t13 h => ?_)
          obtain ⟨v14, h⟩ := h
          refine g_callV f mk_X1_32 v14 (c_X9_markStep h) dX1_putOff_45 rfl rfl (Nat.le_of_ble_eq_true rfl) (rm_ok (by decide) (by decide)) ⟨Nat.le_of_ble_eq_true rfl, Nat.le_of_ble_eq_true rfl⟩ (kV fun μ15 x16 h => ?_)
          refine g_aload_n f 0 dX1_putOff_48 rfl rfl ?_
          have v1 := mex_ok x16 v1
          refine g_getR f fk_X1_18 v1 dX1_putOff_49 rfl h (fun t18 h => ?_)
          obtain ⟨v19, h⟩ := h
          refine g_getR f fk_X1_35 v19 dX1_putOff_52 rfl h (fun t20 h => ?_)
          obtain ⟨v21, h⟩ := h
          refine g_getR f fk_X1_45 v21 dX1_putOff_55 rfl h (fun t22 h => ?_)
          refine g_iload_n f 1 dX1_putOff_58 rfl rfl ?_
          refine g_iload_n f 2 dX1_putOff_59 rfl rfl ?_
          obtain ⟨v23, h⟩ := h
          refine g_iast f v23 dX1_putOff_60 h (fun h => ?_)
          refine g_iconst f 1 dX1_putOff_61 kc_1 ?_
          exact g_zret f hq (Nat.le_of_ble_eq_true rfl) (Nat.le_of_ble_eq_true rfl) dX1_putOff_62 zb_1.1 h
        · refine g_iconst f 0 dX1_putOff_39 kc_0 ?_
          exact g_zret f hq (Nat.le_of_ble_eq_true rfl) (Nat.le_of_ble_eq_true rfl) dX1_putOff_40 zb_0.1 h
      · refine g_iconst f 0 dX1_putOff_21 kc_0 ?_
        exact g_zret f hq (Nat.le_of_ble_eq_true rfl) (Nat.le_of_ble_eq_true rfl) dX1_putOff_22 zb_0.1 h
theorem c_X1_putOff {Ω : OM} {o0 : Nat} {i1 : Int32} {i2 : Int32} {μ : Me} {Q : Int32 → Me → Prop} (h : S_X1_putOff o0 i1 i2 μ Q) : CT Ω yX1_putOff cX1_putOff 3 (some .boolean) (rmc 2 0 0) [.ref (oB Ω + o0), .int i1, .int i2] μ (qI Q) := CT_of (by decide) rfl (by simp [lg_sl, Value.category]) (fun x hΩ f hq hi => by subst hΩ; exact t_X1_putOff f hq h)
theorem dX1_goToBed_0 : decode cX1_goToBed 0 = .ok (.aload_n 0, 1) := by decide +kernel
theorem dX1_goToBed_1 : decode cX1_goToBed 1 = .ok (.getfield 18, 3) := by decide +kernel
theorem dX1_goToBed_4 : decode cX1_goToBed 4 = .ok (.iload_n 1, 1) := by decide +kernel
theorem dX1_goToBed_5 : decode cX1_goToBed 5 = .ok (.invokevirtual 42, 3) := by decide +kernel
theorem dX1_goToBed_8 : decode cX1_goToBed 8 = .ok (.ifCond .eq 21, 3) := by decide +kernel
theorem dX1_goToBed_11 : decode cX1_goToBed 11 = .ok (.aload_n 0, 1) := by decide +kernel
theorem dX1_goToBed_12 : decode cX1_goToBed 12 = .ok (.getfield 18, 3) := by decide +kernel
theorem dX1_goToBed_15 : decode cX1_goToBed 15 = .ok (.getfield 35, 3) := by decide +kernel
theorem dX1_goToBed_18 : decode cX1_goToBed 18 = .ok (.getfield 49, 3) := by decide +kernel
theorem dX1_goToBed_21 : decode cX1_goToBed 21 = .ok (.iload_n 1, 1) := by decide +kernel
theorem dX1_goToBed_22 : decode cX1_goToBed 22 = .ok (.ishr, 1) := by decide +kernel
theorem dX1_goToBed_23 : decode cX1_goToBed 23 = .ok (.iconst 1, 1) := by decide +kernel
theorem dX1_goToBed_24 : decode cX1_goToBed 24 = .ok (.iand, 1) := by decide +kernel
theorem dX1_goToBed_25 : decode cX1_goToBed 25 = .ok (.iconst 1, 1) := by decide +kernel
theorem dX1_goToBed_26 : decode cX1_goToBed 26 = .ok (.if_icmp .ne 5, 3) := by decide +kernel
theorem dX1_goToBed_29 : decode cX1_goToBed 29 = .ok (.iconst 0, 1) := by decide +kernel
theorem dX1_goToBed_30 : decode cX1_goToBed 30 = .ok (.ireturn, 1) := by decide +kernel
theorem dX1_goToBed_31 : decode cX1_goToBed 31 = .ok (.aload_n 0, 1) := by decide +kernel
theorem dX1_goToBed_32 : decode cX1_goToBed 32 = .ok (.getfield 18, 3) := by decide +kernel
theorem dX1_goToBed_35 : decode cX1_goToBed 35 = .ok (.invokevirtual 32, 3) := by decide +kernel
theorem dX1_goToBed_38 : decode cX1_goToBed 38 = .ok (.aload_n 0, 1) := by decide +kernel
theorem dX1_goToBed_39 : decode cX1_goToBed 39 = .ok (.getfield 18, 3) := by decide +kernel
theorem dX1_goToBed_42 : decode cX1_goToBed 42 = .ok (.getfield 35, 3) := by decide +kernel
theorem dX1_goToBed_45 : decode cX1_goToBed 45 = .ok (.dup, 1) := by decide +kernel
theorem dX1_goToBed_46 : decode cX1_goToBed 46 = .ok (.getfield 49, 3) := by decide +kernel
theorem dX1_goToBed_49 : decode cX1_goToBed 49 = .ok (.iconst 1, 1) := by decide +kernel
theorem dX1_goToBed_50 : decode cX1_goToBed 50 = .ok (.iload_n 1, 1) := by decide +kernel
theorem dX1_goToBed_51 : decode cX1_goToBed 51 = .ok (.ishl, 1) := by decide +kernel
theorem dX1_goToBed_52 : decode cX1_goToBed 52 = .ok (.ior, 1) := by decide +kernel
theorem dX1_goToBed_53 : decode cX1_goToBed 53 = .ok (.putfield 49, 3) := by decide +kernel
theorem dX1_goToBed_56 : decode cX1_goToBed 56 = .ok (.iconst 1, 1) := by decide +kernel
theorem dX1_goToBed_57 : decode cX1_goToBed 57 = .ok (.ireturn, 1) := by decide +kernel
def S_X1_goToBed (o0 : Nat) (i1 : Int32) (μ : Me) (Q : Int32 → Me → Prop) : Prop := mok μ o0 1 ∧ ∃ t2, mgr μ o0 0 = some t2 ∧ mok μ t2 9 ∧ S_X9_isPerson t2 i1 μ (fun r6 μ4 => ((r6 = 0 → Q 0 μ4) ∧ (¬ r6 = 0 → ∃ t7, mgr μ4 o0 0 = some t7 ∧ mok μ4 t7 9 ∧ ∃ t9, mgr μ4 t7 14 = some t9 ∧ mok μ4 t9 3 ∧ ((¬ (((mgi μ4 t9 1) >>> (i1 &&& 31)) &&& 1) = 1 → ∃ t11, mgr μ4 o0 0 = some t11 ∧ mok μ4 t11 9 ∧ S_X9_markStep t11 μ4 (fun μ13 => ∃ t16, mgr μ13 o0 0 = some t16 ∧ mok μ13 t16 9 ∧ ∃ t18, mgr μ13 t16 14 = some t18 ∧ mok μ13 t18 3 ∧ ∀ μ20, μ20 = msi μ13 t18 1 ((mgi μ13 t18 1) ||| (1 <<< (i1 &&& 31))) → Q 1 μ20)) ∧ ((((mgi μ4 t9 1) >>> (i1 &&& 31)) &&& 1) = 1 → Q 0 μ4)))))
set_option maxHeartbeats 4000000 in
set_option maxRecDepth 100000 in
theorem t_X1_goToBed {x : GX} (f : Fx x cX1_goToBed RX1 2 (rmc 2 0 0)) {o0 : Nat} {i1 : Int32} {μ : Me} {Q : Int32 → Me → Prop} (hq : Rt x (some .boolean) (qI Q)) (h : S_X1_goToBed o0 i1 μ Q) : G x 2 0 [(0, .ref (gB x + o0)), (1, .int i1)] [] μ 0 0 := by
  unfold S_X1_goToBed at h
  refine g_aload_n f 0 dX1_goToBed_0 rfl rfl ?_
  obtain ⟨v1, h⟩ := h
  refine g_getR f fk_X1_18 v1 dX1_goToBed_1 rfl h (fun t2 h => ?_)
  refine g_iload_n f 1 dX1_goToBed_4 rfl rfl ?_
  obtain ⟨v3, h⟩ := h
  refine g_callV f mk_X1_42 v3 (c_X9_isPerson h) dX1_goToBed_5 rfl rfl (Nat.le_of_ble_eq_true rfl) (rm_ok (by decide) (by decide)) ⟨Nat.le_of_ble_eq_true rfl, Nat.le_of_ble_eq_true rfl⟩ (kI fun r6 μ4 x5 h => ?_)
  refine g_if_eq f 29 dX1_goToBed_8 rfl h (fun h => ?_) (fun h => ?_)
  · refine g_iconst f 0 dX1_goToBed_29 kc_0 ?_
    exact g_zret f hq (Nat.le_of_ble_eq_true rfl) (Nat.le_of_ble_eq_true rfl) dX1_goToBed_30 zb_0.1 h
  · refine g_aload_n f 0 dX1_goToBed_11 rfl rfl ?_
    have v1 := mex_ok x5 v1
    refine g_getR f fk_X1_18 v1 dX1_goToBed_12 rfl h (fun t7 h => ?_)
    obtain ⟨v8, h⟩ := h
    refine g_getR f fk_X1_35 v8 dX1_goToBed_15 rfl h (fun t9 h => ?_)
    obtain ⟨v10, h⟩ := h
    refine g_getI f fk_X1_49 v10 dX1_goToBed_18 rfl ?_
    refine g_iload_n f 1 dX1_goToBed_21 rfl rfl ?_
    refine g_ishr f dX1_goToBed_22 ?_
    refine g_iconst f 1 dX1_goToBed_23 kc_1 ?_
    refine g_iand f dX1_goToBed_24 ?_
    refine g_iconst f 1 dX1_goToBed_25 kc_1 ?_
    refine g_ic_ne f 31 dX1_goToBed_26 rfl h (fun h => ?_) (fun h => ?_)
    · refine g_aload_n f 0 dX1_goToBed_31 rfl rfl ?_
      refine g_getR f fk_X1_18 v1 dX1_goToBed_32 rfl h (fun t11 h => ?_)
      obtain ⟨v12, h⟩ := h
      refine g_callV f mk_X1_32 v12 (c_X9_markStep h) dX1_goToBed_35 rfl rfl (Nat.le_of_ble_eq_true rfl) (rm_ok (by decide) (by decide)) ⟨Nat.le_of_ble_eq_true rfl, Nat.le_of_ble_eq_true rfl⟩ (kV fun μ13 x14 h => ?_)
      refine g_aload_n f 0 dX1_goToBed_38 rfl rfl ?_
      have v1 := mex_ok x14 v1
      refine g_getR f fk_X1_18 v1 dX1_goToBed_39 rfl h (fun t16 h => ?_)
      obtain ⟨v17, h⟩ := h
      refine g_getR f fk_X1_35 v17 dX1_goToBed_42 rfl h (fun t18 h => ?_)
      refine g_dup f dX1_goToBed_45 rfl ?_
      obtain ⟨v19, h⟩ := h
      refine g_getI f fk_X1_49 v19 dX1_goToBed_46 rfl ?_
      refine g_iconst f 1 dX1_goToBed_49 kc_1 ?_
      refine g_iload_n f 1 dX1_goToBed_50 rfl rfl ?_
      refine g_ishl f dX1_goToBed_51 ?_
      refine g_ior f dX1_goToBed_52 ?_
      refine g_putI f fk_X1_49 v19 dX1_goToBed_53 rfl h (fun h => ?_)
      refine g_iconst f 1 dX1_goToBed_56 kc_1 ?_
      exact g_zret f hq (Nat.le_of_ble_eq_true rfl) (Nat.le_of_ble_eq_true rfl) dX1_goToBed_57 zb_1.1 h
    · refine g_iconst f 0 dX1_goToBed_29 kc_0 ?_
      exact g_zret f hq (Nat.le_of_ble_eq_true rfl) (Nat.le_of_ble_eq_true rfl) dX1_goToBed_30 zb_0.1 h
theorem c_X1_goToBed {Ω : OM} {o0 : Nat} {i1 : Int32} {μ : Me} {Q : Int32 → Me → Prop} (h : S_X1_goToBed o0 i1 μ Q) : CT Ω yX1_goToBed cX1_goToBed 2 (some .boolean) (rmc 2 0 0) [.ref (oB Ω + o0), .int i1] μ (qI Q) := CT_of (by decide) rfl (by simp [lg_sl, Value.category]) (fun x hΩ f hq hi => by subst hΩ; exact t_X1_goToBed f hq h)
theorem dX1_getUp_0 : decode cX1_getUp 0 = .ok (.aload_n 0, 1) := by decide +kernel
theorem dX1_getUp_1 : decode cX1_getUp 1 = .ok (.getfield 18, 3) := by decide +kernel
theorem dX1_getUp_4 : decode cX1_getUp 4 = .ok (.iload_n 1, 1) := by decide +kernel
theorem dX1_getUp_5 : decode cX1_getUp 5 = .ok (.invokevirtual 42, 3) := by decide +kernel
theorem dX1_getUp_8 : decode cX1_getUp 8 = .ok (.ifCond .eq 20, 3) := by decide +kernel
theorem dX1_getUp_11 : decode cX1_getUp 11 = .ok (.aload_n 0, 1) := by decide +kernel
theorem dX1_getUp_12 : decode cX1_getUp 12 = .ok (.getfield 18, 3) := by decide +kernel
theorem dX1_getUp_15 : decode cX1_getUp 15 = .ok (.getfield 35, 3) := by decide +kernel
theorem dX1_getUp_18 : decode cX1_getUp 18 = .ok (.getfield 49, 3) := by decide +kernel
theorem dX1_getUp_21 : decode cX1_getUp 21 = .ok (.iload_n 1, 1) := by decide +kernel
theorem dX1_getUp_22 : decode cX1_getUp 22 = .ok (.ishr, 1) := by decide +kernel
theorem dX1_getUp_23 : decode cX1_getUp 23 = .ok (.iconst 1, 1) := by decide +kernel
theorem dX1_getUp_24 : decode cX1_getUp 24 = .ok (.iand, 1) := by decide +kernel
theorem dX1_getUp_25 : decode cX1_getUp 25 = .ok (.ifCond .ne 5, 3) := by decide +kernel
theorem dX1_getUp_28 : decode cX1_getUp 28 = .ok (.iconst 0, 1) := by decide +kernel
theorem dX1_getUp_29 : decode cX1_getUp 29 = .ok (.ireturn, 1) := by decide +kernel
theorem dX1_getUp_30 : decode cX1_getUp 30 = .ok (.aload_n 0, 1) := by decide +kernel
theorem dX1_getUp_31 : decode cX1_getUp 31 = .ok (.getfield 18, 3) := by decide +kernel
theorem dX1_getUp_34 : decode cX1_getUp 34 = .ok (.invokevirtual 32, 3) := by decide +kernel
theorem dX1_getUp_37 : decode cX1_getUp 37 = .ok (.aload_n 0, 1) := by decide +kernel
theorem dX1_getUp_38 : decode cX1_getUp 38 = .ok (.getfield 18, 3) := by decide +kernel
theorem dX1_getUp_41 : decode cX1_getUp 41 = .ok (.getfield 35, 3) := by decide +kernel
theorem dX1_getUp_44 : decode cX1_getUp 44 = .ok (.dup, 1) := by decide +kernel
theorem dX1_getUp_45 : decode cX1_getUp 45 = .ok (.getfield 49, 3) := by decide +kernel
theorem dX1_getUp_48 : decode cX1_getUp 48 = .ok (.iconst 1, 1) := by decide +kernel
theorem dX1_getUp_49 : decode cX1_getUp 49 = .ok (.iload_n 1, 1) := by decide +kernel
theorem dX1_getUp_50 : decode cX1_getUp 50 = .ok (.ishl, 1) := by decide +kernel
theorem dX1_getUp_51 : decode cX1_getUp 51 = .ok (.iconst (-1), 1) := by decide +kernel
theorem dX1_getUp_52 : decode cX1_getUp 52 = .ok (.ixor, 1) := by decide +kernel
theorem dX1_getUp_53 : decode cX1_getUp 53 = .ok (.iand, 1) := by decide +kernel
theorem dX1_getUp_54 : decode cX1_getUp 54 = .ok (.putfield 49, 3) := by decide +kernel
theorem dX1_getUp_57 : decode cX1_getUp 57 = .ok (.iconst 1, 1) := by decide +kernel
theorem dX1_getUp_58 : decode cX1_getUp 58 = .ok (.ireturn, 1) := by decide +kernel
def S_X1_getUp (o0 : Nat) (i1 : Int32) (μ : Me) (Q : Int32 → Me → Prop) : Prop := mok μ o0 1 ∧ ∃ t2, mgr μ o0 0 = some t2 ∧ mok μ t2 9 ∧ S_X9_isPerson t2 i1 μ (fun r6 μ4 => ((r6 = 0 → Q 0 μ4) ∧ (¬ r6 = 0 → ∃ t7, mgr μ4 o0 0 = some t7 ∧ mok μ4 t7 9 ∧ ∃ t9, mgr μ4 t7 14 = some t9 ∧ mok μ4 t9 3 ∧ ((¬ (((mgi μ4 t9 1) >>> (i1 &&& 31)) &&& 1) = 0 → ∃ t11, mgr μ4 o0 0 = some t11 ∧ mok μ4 t11 9 ∧ S_X9_markStep t11 μ4 (fun μ13 => ∃ t16, mgr μ13 o0 0 = some t16 ∧ mok μ13 t16 9 ∧ ∃ t18, mgr μ13 t16 14 = some t18 ∧ mok μ13 t18 3 ∧ ∀ μ20, μ20 = msi μ13 t18 1 ((mgi μ13 t18 1) &&& ((1 <<< (i1 &&& 31)) ^^^ (-1))) → Q 1 μ20)) ∧ ((((mgi μ4 t9 1) >>> (i1 &&& 31)) &&& 1) = 0 → Q 0 μ4)))))
set_option maxHeartbeats 4000000 in
set_option maxRecDepth 100000 in
theorem t_X1_getUp {x : GX} (f : Fx x cX1_getUp RX1 2 (rmc 2 0 0)) {o0 : Nat} {i1 : Int32} {μ : Me} {Q : Int32 → Me → Prop} (hq : Rt x (some .boolean) (qI Q)) (h : S_X1_getUp o0 i1 μ Q) : G x 2 0 [(0, .ref (gB x + o0)), (1, .int i1)] [] μ 0 0 := by
  unfold S_X1_getUp at h
  refine g_aload_n f 0 dX1_getUp_0 rfl rfl ?_
  obtain ⟨v1, h⟩ := h
  refine g_getR f fk_X1_18 v1 dX1_getUp_1 rfl h (fun t2 h => ?_)
  refine g_iload_n f 1 dX1_getUp_4 rfl rfl ?_
  obtain ⟨v3, h⟩ := h
  refine g_callV f mk_X1_42 v3 (c_X9_isPerson h) dX1_getUp_5 rfl rfl (Nat.le_of_ble_eq_true rfl) (rm_ok (by decide) (by decide)) ⟨Nat.le_of_ble_eq_true rfl, Nat.le_of_ble_eq_true rfl⟩ (kI fun r6 μ4 x5 h => ?_)
  refine g_if_eq f 28 dX1_getUp_8 rfl h (fun h => ?_) (fun h => ?_)
  · refine g_iconst f 0 dX1_getUp_28 kc_0 ?_
    exact g_zret f hq (Nat.le_of_ble_eq_true rfl) (Nat.le_of_ble_eq_true rfl) dX1_getUp_29 zb_0.1 h
  · refine g_aload_n f 0 dX1_getUp_11 rfl rfl ?_
    have v1 := mex_ok x5 v1
    refine g_getR f fk_X1_18 v1 dX1_getUp_12 rfl h (fun t7 h => ?_)
    obtain ⟨v8, h⟩ := h
    refine g_getR f fk_X1_35 v8 dX1_getUp_15 rfl h (fun t9 h => ?_)
    obtain ⟨v10, h⟩ := h
    refine g_getI f fk_X1_49 v10 dX1_getUp_18 rfl ?_
    refine g_iload_n f 1 dX1_getUp_21 rfl rfl ?_
    refine g_ishr f dX1_getUp_22 ?_
    refine g_iconst f 1 dX1_getUp_23 kc_1 ?_
    refine g_iand f dX1_getUp_24 ?_
    refine g_if_ne f 30 dX1_getUp_25 rfl h (fun h => ?_) (fun h => ?_)
    · refine g_aload_n f 0 dX1_getUp_30 rfl rfl ?_
      refine g_getR f fk_X1_18 v1 dX1_getUp_31 rfl h (fun t11 h => ?_)
      obtain ⟨v12, h⟩ := h
      refine g_callV f mk_X1_32 v12 (c_X9_markStep h) dX1_getUp_34 rfl rfl (Nat.le_of_ble_eq_true rfl) (rm_ok (by decide) (by decide)) ⟨Nat.le_of_ble_eq_true rfl, Nat.le_of_ble_eq_true rfl⟩ (kV fun μ13 x14 h => ?_)
      refine g_aload_n f 0 dX1_getUp_37 rfl rfl ?_
      have v1 := mex_ok x14 v1
      refine g_getR f fk_X1_18 v1 dX1_getUp_38 rfl h (fun t16 h => ?_)
      obtain ⟨v17, h⟩ := h
      refine g_getR f fk_X1_35 v17 dX1_getUp_41 rfl h (fun t18 h => ?_)
      refine g_dup f dX1_getUp_44 rfl ?_
      obtain ⟨v19, h⟩ := h
      refine g_getI f fk_X1_49 v19 dX1_getUp_45 rfl ?_
      refine g_iconst f 1 dX1_getUp_48 kc_1 ?_
      refine g_iload_n f 1 dX1_getUp_49 rfl rfl ?_
      refine g_ishl f dX1_getUp_50 ?_
      refine g_iconst f (-1) dX1_getUp_51 kc_m1 ?_
      refine g_ixor f dX1_getUp_52 ?_
      refine g_iand f dX1_getUp_53 ?_
      refine g_putI f fk_X1_49 v19 dX1_getUp_54 rfl h (fun h => ?_)
      refine g_iconst f 1 dX1_getUp_57 kc_1 ?_
      exact g_zret f hq (Nat.le_of_ble_eq_true rfl) (Nat.le_of_ble_eq_true rfl) dX1_getUp_58 zb_1.1 h
    · refine g_iconst f 0 dX1_getUp_28 kc_0 ?_
      exact g_zret f hq (Nat.le_of_ble_eq_true rfl) (Nat.le_of_ble_eq_true rfl) dX1_getUp_29 zb_0.1 h
theorem c_X1_getUp {Ω : OM} {o0 : Nat} {i1 : Int32} {μ : Me} {Q : Int32 → Me → Prop} (h : S_X1_getUp o0 i1 μ Q) : CT Ω yX1_getUp cX1_getUp 2 (some .boolean) (rmc 2 0 0) [.ref (oB Ω + o0), .int i1] μ (qI Q) := CT_of (by decide) rfl (by simp [lg_sl, Value.category]) (fun x hΩ f hq hi => by subst hΩ; exact t_X1_getUp f hq h)
theorem dX1_daysThatCanPass_0 : decode cX1_daysThatCanPass 0 = .ok (.sipush 9999, 3) := by decide +kernel
theorem dX1_daysThatCanPass_3 : decode cX1_daysThatCanPass 3 = .ok (.aload_n 0, 1) := by decide +kernel
theorem dX1_daysThatCanPass_4 : decode cX1_daysThatCanPass 4 = .ok (.getfield 18, 3) := by decide +kernel
theorem dX1_daysThatCanPass_7 : decode cX1_daysThatCanPass 7 = .ok (.getfield 35, 3) := by decide +kernel
theorem dX1_daysThatCanPass_10 : decode cX1_daysThatCanPass 10 = .ok (.getfield 52, 3) := by decide +kernel
theorem dX1_daysThatCanPass_13 : decode cX1_daysThatCanPass 13 = .ok (.isub, 1) := by decide +kernel
theorem dX1_daysThatCanPass_14 : decode cX1_daysThatCanPass 14 = .ok (.ireturn, 1) := by decide +kernel
def S_X1_daysThatCanPass (o0 : Nat) (μ : Me) (Q : Int32 → Me → Prop) : Prop := mok μ o0 1 ∧ ∃ t2, mgr μ o0 0 = some t2 ∧ mok μ t2 9 ∧ ∃ t4, mgr μ t2 14 = some t4 ∧ mok μ t4 3 ∧ Q (9999 - (mgi μ t4 3)) μ
set_option maxHeartbeats 4000000 in
set_option maxRecDepth 100000 in
theorem t_X1_daysThatCanPass {x : GX} (f : Fx x cX1_daysThatCanPass RX1 1 (rmc 0 0 0)) {o0 : Nat} {μ : Me} {Q : Int32 → Me → Prop} (hq : Rt x (some .int) (qI Q)) (h : S_X1_daysThatCanPass o0 μ Q) : G x 1 0 [(0, .ref (gB x + o0))] [] μ 0 0 := by
  unfold S_X1_daysThatCanPass at h
  refine g_sipush f 9999 dX1_daysThatCanPass_0 ks_9999 ?_
  refine g_aload_n f 0 dX1_daysThatCanPass_3 rfl rfl ?_
  obtain ⟨v1, h⟩ := h
  refine g_getR f fk_X1_18 v1 dX1_daysThatCanPass_4 rfl h (fun t2 h => ?_)
  obtain ⟨v3, h⟩ := h
  refine g_getR f fk_X1_35 v3 dX1_daysThatCanPass_7 rfl h (fun t4 h => ?_)
  obtain ⟨v5, h⟩ := h
  refine g_getI f fk_X1_52 v5 dX1_daysThatCanPass_10 rfl ?_
  refine g_isub f dX1_daysThatCanPass_13 ?_
  exact g_iret f hq (Nat.le_of_ble_eq_true rfl) (Nat.le_of_ble_eq_true rfl) dX1_daysThatCanPass_14 h
theorem c_X1_daysThatCanPass {Ω : OM} {o0 : Nat} {μ : Me} {Q : Int32 → Me → Prop} (h : S_X1_daysThatCanPass o0 μ Q) : CT Ω yX1_daysThatCanPass cX1_daysThatCanPass 1 (some .int) (rmc 0 0 0) [.ref (oB Ω + o0)] μ (qI Q) := CT_of (by decide) rfl (by simp [lg_sl, Value.category]) (fun x hΩ f hq hi => by subst hΩ; exact t_X1_daysThatCanPass f hq h)
theorem dX3_stir_0 : decode cX3_stir 0 = .ok (.aload_n 0, 1) := by decide +kernel
theorem dX3_stir_1 : decode cX3_stir 1 = .ok (.aload_n 0, 1) := by decide +kernel
theorem dX3_stir_2 : decode cX3_stir 2 = .ok (.getfield 9, 3) := by decide +kernel
theorem dX3_stir_5 : decode cX3_stir 5 = .ok (.sipush 463, 3) := by decide +kernel
theorem dX3_stir_8 : decode cX3_stir 8 = .ok (.imul, 1) := by decide +kernel
theorem dX3_stir_9 : decode cX3_stir 9 = .ok (.sipush 353, 3) := by decide +kernel
theorem dX3_stir_12 : decode cX3_stir 12 = .ok (.iadd, 1) := by decide +kernel
theorem dX3_stir_13 : decode cX3_stir 13 = .ok (.sipush 30643, 3) := by decide +kernel
theorem dX3_stir_16 : decode cX3_stir 16 = .ok (.irem, 1) := by decide +kernel
theorem dX3_stir_17 : decode cX3_stir 17 = .ok (.putfield 9, 3) := by decide +kernel
theorem dX3_stir_20 : decode cX3_stir 20 = .ok (.return_, 1) := by decide +kernel
def S_X3_stir (o0 : Nat) (μ : Me) (Q : Me → Prop) : Prop := mok μ o0 3 ∧ ∀ μ2, μ2 = msi μ o0 4 ((((mgi μ o0 4) * 463) + 353) - (((mgi μ o0 4) * 463) + 353) / 30643 * 30643) → Q μ2
set_option maxHeartbeats 4000000 in
set_option maxRecDepth 100000 in
theorem t_X3_stir {x : GX} (f : Fx x cX3_stir RX3 1 (rmc 0 0 0)) {o0 : Nat} {μ : Me} {Q : Me → Prop} (hq : Rt x none (qV Q)) (h : S_X3_stir o0 μ Q) : G x 1 0 [(0, .ref (gB x + o0))] [] μ 0 0 := by
  unfold S_X3_stir at h
  refine g_aload_n f 0 dX3_stir_0 rfl rfl ?_
  refine g_aload_n f 0 dX3_stir_1 rfl rfl ?_
  obtain ⟨v1, h⟩ := h
  refine g_getI f fk_X3_9 v1 dX3_stir_2 rfl ?_
  refine g_sipush f 463 dX3_stir_5 ks_463 ?_
  refine g_imul f dX3_stir_8 ?_
  refine g_sipush f 353 dX3_stir_9 ks_353 ?_
  refine g_iadd f dX3_stir_12 ?_
  refine g_sipush f 30643 dX3_stir_13 ks_30643 ?_
  refine g_irem f dX3_stir_16 (by decide) ?_
  refine g_putI f fk_X3_9 v1 dX3_stir_17 rfl h (fun h => ?_)
  exact g_vret f hq (Nat.le_of_ble_eq_true rfl) (Nat.le_of_ble_eq_true rfl) dX3_stir_20 h
theorem c_X3_stir {Ω : OM} {o0 : Nat} {μ : Me} {Q : Me → Prop} (h : S_X3_stir o0 μ Q) : CT Ω yX3_stir cX3_stir 1 none (rmc 0 0 0) [.ref (oB Ω + o0)] μ (qV Q) := CT_of (by decide) rfl (by simp [lg_sl, Value.category]) (fun x hΩ f hq hi => by subst hΩ; exact t_X3_stir f hq h)
theorem dX3_write_0 : decode cX3_write 0 = .ok (.aload_n 0, 1) := by decide +kernel
theorem dX3_write_1 : decode cX3_write 1 = .ok (.getfield 38, 3) := by decide +kernel
theorem dX3_write_4 : decode cX3_write 4 = .ok (.bipush 30, 2) := by decide +kernel
theorem dX3_write_6 : decode cX3_write 6 = .ok (.if_icmp .lt 26, 3) := by decide +kernel
theorem dX3_write_9 : decode cX3_write 9 = .ok (.aload_n 0, 1) := by decide +kernel
theorem dX3_write_10 : decode cX3_write 10 = .ok (.bipush 29, 2) := by decide +kernel
theorem dX3_write_12 : decode cX3_write 12 = .ok (.putfield 38, 3) := by decide +kernel
theorem dX3_write_15 : decode cX3_write 15 = .ok (.aload_n 0, 1) := by decide +kernel
theorem dX3_write_16 : decode cX3_write 16 = .ok (.getfield 22, 3) := by decide +kernel
theorem dX3_write_19 : decode cX3_write 19 = .ok (.iconst 1, 1) := by decide +kernel
theorem dX3_write_20 : decode cX3_write 20 = .ok (.aload_n 0, 1) := by decide +kernel
theorem dX3_write_21 : decode cX3_write 21 = .ok (.getfield 22, 3) := by decide +kernel
theorem dX3_write_24 : decode cX3_write 24 = .ok (.iconst 0, 1) := by decide +kernel
theorem dX3_write_25 : decode cX3_write 25 = .ok (.aload_n 0, 1) := by decide +kernel
theorem dX3_write_26 : decode cX3_write 26 = .ok (.getfield 38, 3) := by decide +kernel
theorem dX3_write_29 : decode cX3_write 29 = .ok (.invokestatic 41, 3) := by decide +kernel
theorem dX3_write_32 : decode cX3_write 32 = .ok (.aload_n 0, 1) := by decide +kernel
theorem dX3_write_33 : decode cX3_write 33 = .ok (.getfield 22, 3) := by decide +kernel
theorem dX3_write_36 : decode cX3_write 36 = .ok (.aload_n 0, 1) := by decide +kernel
theorem dX3_write_37 : decode cX3_write 37 = .ok (.getfield 38, 3) := by decide +kernel
theorem dX3_write_40 : decode cX3_write 40 = .ok (.aload_n 0, 1) := by decide +kernel
theorem dX3_write_41 : decode cX3_write 41 = .ok (.getfield 35, 3) := by decide +kernel
theorem dX3_write_44 : decode cX3_write 44 = .ok (.i2l, 1) := by decide +kernel
theorem dX3_write_45 : decode cX3_write 45 = .ok (.aload_n 0, 1) := by decide +kernel
theorem dX3_write_46 : decode cX3_write 46 = .ok (.getfield 26, 3) := by decide +kernel
theorem dX3_write_49 : decode cX3_write 49 = .ok (.i2l, 1) := by decide +kernel
theorem dX3_write_50 : decode cX3_write 50 = .ok (.bipush 16, 2) := by decide +kernel
theorem dX3_write_52 : decode cX3_write 52 = .ok (.lshl, 1) := by decide +kernel
theorem dX3_write_53 : decode cX3_write 53 = .ok (.lor, 1) := by decide +kernel
theorem dX3_write_54 : decode cX3_write 54 = .ok (.iload_n 1, 1) := by decide +kernel
theorem dX3_write_55 : decode cX3_write 55 = .ok (.i2l, 1) := by decide +kernel
theorem dX3_write_56 : decode cX3_write 56 = .ok (.bipush 32, 2) := by decide +kernel
theorem dX3_write_58 : decode cX3_write 58 = .ok (.lshl, 1) := by decide +kernel
theorem dX3_write_59 : decode cX3_write 59 = .ok (.lor, 1) := by decide +kernel
theorem dX3_write_60 : decode cX3_write 60 = .ok (.aload_n 0, 1) := by decide +kernel
theorem dX3_write_61 : decode cX3_write 61 = .ok (.getfield 32, 3) := by decide +kernel
theorem dX3_write_64 : decode cX3_write 64 = .ok (.i2l, 1) := by decide +kernel
theorem dX3_write_65 : decode cX3_write 65 = .ok (.bipush 48, 2) := by decide +kernel
theorem dX3_write_67 : decode cX3_write 67 = .ok (.lshl, 1) := by decide +kernel
theorem dX3_write_68 : decode cX3_write 68 = .ok (.lor, 1) := by decide +kernel
theorem dX3_write_69 : decode cX3_write 69 = .ok (.lastore, 1) := by decide +kernel
theorem dX3_write_70 : decode cX3_write 70 = .ok (.aload_n 0, 1) := by decide +kernel
theorem dX3_write_71 : decode cX3_write 71 = .ok (.dup, 1) := by decide +kernel
theorem dX3_write_72 : decode cX3_write 72 = .ok (.getfield 38, 3) := by decide +kernel
theorem dX3_write_75 : decode cX3_write 75 = .ok (.iconst 1, 1) := by decide +kernel
theorem dX3_write_76 : decode cX3_write 76 = .ok (.iadd, 1) := by decide +kernel
theorem dX3_write_77 : decode cX3_write 77 = .ok (.putfield 38, 3) := by decide +kernel
theorem dX3_write_80 : decode cX3_write 80 = .ok (.return_, 1) := by decide +kernel
def B_X3_write_32 (o0 : Nat) (i1 : Int32) (μ : Me) (Q : Me → Prop) : Prop := mok μ o0 3 ∧ ∃ t3, mgr μ o0 7 = some t3 ∧ mok μ t3 13 ∧ vp_in (mgi μ o0 8) (mln μ t3) ∧ ∀ μ5, μ5 = msl μ t3 (mgi μ o0 8).toNatClampNeg ((((mgi μ o0 3).toInt64 ||| ((mgi μ o0 0).toInt64 <<< ((16 : Int32).toInt64 &&& 63))) ||| (i1.toInt64 <<< ((32 : Int32).toInt64 &&& 63))) ||| ((mgi μ o0 2).toInt64 <<< ((48 : Int32).toInt64 &&& 63))) → ∀ μ6, μ6 = msi μ5 o0 8 ((mgi μ5 o0 8) + 1) → Q μ6
set_option maxHeartbeats 4000000 in
set_option maxRecDepth 100000 in
theorem tB_X3_write_32 {x : GX} (f : Fx x cX3_write RX3 2 (rmc 0 0 0)) {o0 : Nat} {i1 : Int32} {μ : Me} {Q : Me → Prop} (hq : Rt x none (qV Q)) (h : B_X3_write_32 o0 i1 μ Q) : G x 2 32 [(0, .ref (gB x + o0)), (1, .int i1)] [] μ 0 0 := by
  unfold B_X3_write_32 at h
  refine g_aload_n f 0 dX3_write_32 rfl rfl ?_
  obtain ⟨v2, h⟩ := h
  refine g_getR f fk_X3_22 v2 dX3_write_33 rfl h (fun t3 h => ?_)
  refine g_aload_n f 0 dX3_write_36 rfl rfl ?_
  refine g_getI f fk_X3_38 v2 dX3_write_37 rfl ?_
  refine g_aload_n f 0 dX3_write_40 rfl rfl ?_
  refine g_getI f fk_X3_35 v2 dX3_write_41 rfl ?_
  refine g_i2l f dX3_write_44 ?_
  refine g_aload_n f 0 dX3_write_45 rfl rfl ?_
  refine g_getI f fk_X3_26 v2 dX3_write_46 rfl ?_
  refine g_i2l f dX3_write_49 ?_
  refine g_bipush f 16 dX3_write_50 kb_16 ?_
  refine g_lshl f dX3_write_52 ?_
  refine g_lor f dX3_write_53 ?_
  refine g_iload_n f 1 dX3_write_54 rfl rfl ?_
  refine g_i2l f dX3_write_55 ?_
  refine g_bipush f 32 dX3_write_56 kb_32 ?_
  refine g_lshl f dX3_write_58 ?_
  refine g_lor f dX3_write_59 ?_
  refine g_aload_n f 0 dX3_write_60 rfl rfl ?_
  refine g_getI f fk_X3_32 v2 dX3_write_61 rfl ?_
  refine g_i2l f dX3_write_64 ?_
  refine g_bipush f 48 dX3_write_65 kb_48 ?_
  refine g_lshl f dX3_write_67 ?_
  refine g_lor f dX3_write_68 ?_
  obtain ⟨v4, h⟩ := h
  refine g_last f v4 dX3_write_69 h (fun h => ?_)
  refine g_aload_n f 0 dX3_write_70 rfl rfl ?_
  refine g_dup f dX3_write_71 rfl ?_
  refine g_getI f fk_X3_38 v2 dX3_write_72 rfl ?_
  refine g_iconst f 1 dX3_write_75 kc_1 ?_
  refine g_iadd f dX3_write_76 ?_
  refine g_putI f fk_X3_38 v2 dX3_write_77 rfl h (fun h => ?_)
  exact g_vret f hq (Nat.le_of_ble_eq_true rfl) (Nat.le_of_ble_eq_true rfl) dX3_write_80 h
def S_X3_write (o0 : Nat) (i1 : Int32) (μ : Me) (Q : Me → Prop) : Prop := mok μ o0 3 ∧ (((mgi μ o0 8) < 30 → B_X3_write_32 o0 i1 μ Q) ∧ (¬ (mgi μ o0 8) < 30 → ∀ μ7, μ7 = msi μ o0 8 29 → ∃ t8, mgr μ7 o0 7 = some t8 ∧ ∃ t9, mgr μ7 o0 7 = some t9 ∧ mok μ7 t8 13 ∧ mok μ7 t9 13 ∧ cpok (mln μ7 t8) (mln μ7 t9) 1 0 (mgi μ7 o0 8) ∧ ∀ μ12, μ12 = mcl μ7 t9 (va_cpy (mgl μ7 t8) (mgl μ7 t9) (1 : Int32).toNatClampNeg (0 : Int32).toNatClampNeg (mgi μ7 o0 8).toNatClampNeg) → B_X3_write_32 o0 i1 μ12 Q))
set_option maxHeartbeats 4000000 in
set_option maxRecDepth 100000 in
theorem t_X3_write {x : GX} (f : Fx x cX3_write RX3 2 (rmc 0 0 0)) {o0 : Nat} {i1 : Int32} {μ : Me} {Q : Me → Prop} (hq : Rt x none (qV Q)) (h : S_X3_write o0 i1 μ Q) : G x 2 0 [(0, .ref (gB x + o0)), (1, .int i1)] [] μ 0 0 := by
  unfold S_X3_write at h
  refine g_aload_n f 0 dX3_write_0 rfl rfl ?_
  obtain ⟨v1, h⟩ := h
  refine g_getI f fk_X3_38 v1 dX3_write_1 rfl ?_
  refine g_bipush f 30 dX3_write_4 kb_30 ?_
  refine g_ic_lt f 32 dX3_write_6 rfl h (fun h => ?_) (fun h => ?_)
  · exact h_sub [0, 1] rfl (tB_X3_write_32 f hq h)
  · refine g_aload_n f 0 dX3_write_9 rfl rfl ?_
    refine g_bipush f 29 dX3_write_10 kb_29 ?_
    refine g_putI f fk_X3_38 v1 dX3_write_12 rfl h (fun h => ?_)
    refine g_aload_n f 0 dX3_write_15 rfl rfl ?_
    refine g_getR f fk_X3_22 v1 dX3_write_16 rfl h (fun t8 h => ?_)
    refine g_iconst f 1 dX3_write_19 kc_1 ?_
    refine g_aload_n f 0 dX3_write_20 rfl rfl ?_
    refine g_getR f fk_X3_22 v1 dX3_write_21 rfl h (fun t9 h => ?_)
    refine g_iconst f 0 dX3_write_24 kc_0 ?_
    refine g_aload_n f 0 dX3_write_25 rfl rfl ?_
    refine g_getI f fk_X3_38 v1 dX3_write_26 rfl ?_
    obtain ⟨v10, h⟩ := h
    obtain ⟨v11, h⟩ := h
    refine g_copyl f ck_X3_41 v10 v11 dX3_write_29 rm_fr (rm_na (Nat.le_of_ble_eq_true rfl)) h (fun h => ?_)
    exact h_sub [0, 1] rfl (tB_X3_write_32 f hq h)
theorem c_X3_write {Ω : OM} {o0 : Nat} {i1 : Int32} {μ : Me} {Q : Me → Prop} (h : S_X3_write o0 i1 μ Q) : CT Ω yX3_write cX3_write 2 none (rmc 0 0 0) [.ref (oB Ω + o0), .int i1] μ (qV Q) := CT_of (by decide) rfl (by simp [lg_sl, Value.category]) (fun x hΩ f hq hi => by subst hΩ; exact t_X3_write f hq h)
theorem dX3_endDay_0 : decode cX3_endDay 0 = .ok (.iconst 0, 1) := by decide +kernel
theorem dX3_endDay_1 : decode cX3_endDay 1 = .ok (.istore_n 2, 1) := by decide +kernel
theorem dX3_endDay_2 : decode cX3_endDay 2 = .ok (.iload_n 2, 1) := by decide +kernel
theorem dX3_endDay_3 : decode cX3_endDay 3 = .ok (.bipush 8, 2) := by decide +kernel
theorem dX3_endDay_5 : decode cX3_endDay 5 = .ok (.if_icmp .ge 23, 3) := by decide +kernel
theorem dX3_endDay_8 : decode cX3_endDay 8 = .ok (.aload_n 0, 1) := by decide +kernel
theorem dX3_endDay_9 : decode cX3_endDay 9 = .ok (.getfield 19, 3) := by decide +kernel
theorem dX3_endDay_12 : decode cX3_endDay 12 = .ok (.iload_n 2, 1) := by decide +kernel
theorem dX3_endDay_13 : decode cX3_endDay 13 = .ok (.dup2, 1) := by decide +kernel
theorem dX3_endDay_14 : decode cX3_endDay 14 = .ok (.iaload, 1) := by decide +kernel
theorem dX3_endDay_15 : decode cX3_endDay 15 = .ok (.iload_n 1, 1) := by decide +kernel
theorem dX3_endDay_16 : decode cX3_endDay 16 = .ok (.iload_n 2, 1) := by decide +kernel
theorem dX3_endDay_17 : decode cX3_endDay 17 = .ok (.ishr, 1) := by decide +kernel
theorem dX3_endDay_18 : decode cX3_endDay 18 = .ok (.iconst 1, 1) := by decide +kernel
theorem dX3_endDay_19 : decode cX3_endDay 19 = .ok (.iand, 1) := by decide +kernel
theorem dX3_endDay_20 : decode cX3_endDay 20 = .ok (.iadd, 1) := by decide +kernel
theorem dX3_endDay_21 : decode cX3_endDay 21 = .ok (.iastore, 1) := by decide +kernel
theorem dX3_endDay_22 : decode cX3_endDay 22 = .ok (.iinc 2 1, 3) := by decide +kernel
theorem dX3_endDay_25 : decode cX3_endDay 25 = .ok (.goto (-23), 3) := by decide +kernel
theorem dX3_endDay_28 : decode cX3_endDay 28 = .ok (.aload_n 0, 1) := by decide +kernel
theorem dX3_endDay_29 : decode cX3_endDay 29 = .ok (.iload_n 1, 1) := by decide +kernel
theorem dX3_endDay_30 : decode cX3_endDay 30 = .ok (.invokevirtual 47, 3) := by decide +kernel
theorem dX3_endDay_33 : decode cX3_endDay 33 = .ok (.aload_n 0, 1) := by decide +kernel
theorem dX3_endDay_34 : decode cX3_endDay 34 = .ok (.iload_n 1, 1) := by decide +kernel
theorem dX3_endDay_35 : decode cX3_endDay 35 = .ok (.putfield 26, 3) := by decide +kernel
theorem dX3_endDay_38 : decode cX3_endDay 38 = .ok (.aload_n 0, 1) := by decide +kernel
theorem dX3_endDay_39 : decode cX3_endDay 39 = .ok (.dup, 1) := by decide +kernel
theorem dX3_endDay_40 : decode cX3_endDay 40 = .ok (.getfield 35, 3) := by decide +kernel
theorem dX3_endDay_43 : decode cX3_endDay 43 = .ok (.iconst 1, 1) := by decide +kernel
theorem dX3_endDay_44 : decode cX3_endDay 44 = .ok (.iadd, 1) := by decide +kernel
theorem dX3_endDay_45 : decode cX3_endDay 45 = .ok (.putfield 35, 3) := by decide +kernel
theorem dX3_endDay_48 : decode cX3_endDay 48 = .ok (.return_, 1) := by decide +kernel
def B_X3_endDay_2 (o0 : Nat) (i1 : Int32) (i2 : Int32) (μ : Me) (K2 : Int32 → Me → Prop) (Q : Me → Prop) : Prop := ((8 ≤ i2 → mok μ o0 3 ∧ S_X3_write o0 i1 μ (fun μ2 => ∀ μ5, μ5 = msi μ2 o0 0 i1 → ∀ μ6, μ6 = msi μ5 o0 3 ((mgi μ5 o0 3) + 1) → Q μ6)) ∧ (¬ 8 ≤ i2 → mok μ o0 3 ∧ ∃ t8, mgr μ o0 6 = some t8 ∧ mok μ t8 12 ∧ vp_in i2 (mln μ t8) ∧ vp_in i2 (mln μ t8) ∧ ∀ μ10, μ10 = msi μ t8 i2.toNatClampNeg ((mgi μ t8 i2.toNatClampNeg) + ((i1 >>> (i2 &&& 31)) &&& 1)) → K2 (i2 + 1) μ10))
set_option maxHeartbeats 4000000 in
set_option maxRecDepth 100000 in
theorem tB_X3_endDay_2 {x : GX} (f : Fx x cX3_endDay RX3 3 (rmc 1 0 0)) {o0 : Nat} {i1 : Int32} {i2 : Int32} {μ : Me} {Q : Me → Prop} (hq : Rt x none (qV Q)) {K2 : Int32 → Me → Prop} (hK2 : ∀ (a2 : Int32) (ν : Me), K2 a2 ν → G x 3 2 [(0, .ref (gB x + o0)), (1, .int i1), (2, .int a2)] [] ν 0 0) (h : B_X3_endDay_2 o0 i1 i2 μ K2 Q) : G x 3 2 [(0, .ref (gB x + o0)), (1, .int i1), (2, .int i2)] [] μ 0 0 := by
  unfold B_X3_endDay_2 at h
  refine g_iload_n f 2 dX3_endDay_2 rfl rfl ?_
  refine g_bipush f 8 dX3_endDay_3 kb_8 ?_
  refine g_ic_ge f 28 dX3_endDay_5 rfl h (fun h => ?_) (fun h => ?_)
  · refine g_aload_n f 0 dX3_endDay_28 rfl rfl ?_
    refine g_iload_n f 1 dX3_endDay_29 rfl rfl ?_
    obtain ⟨v1, h⟩ := h
    refine g_callV f mk_X3_47 v1 (c_X3_write h) dX3_endDay_30 rfl rfl (Nat.le_of_ble_eq_true rfl) (rm_ok (by decide) (by decide)) ⟨Nat.le_of_ble_eq_true rfl, Nat.le_of_ble_eq_true rfl⟩ (kV fun μ2 x3 h => ?_)
    refine g_aload_n f 0 dX3_endDay_33 rfl rfl ?_
    refine g_iload_n f 1 dX3_endDay_34 rfl rfl ?_
    have v1 := mex_ok x3 v1
    refine g_putI f fk_X3_26 v1 dX3_endDay_35 rfl h (fun h => ?_)
    refine g_aload_n f 0 dX3_endDay_38 rfl rfl ?_
    refine g_dup f dX3_endDay_39 rfl ?_
    refine g_getI f fk_X3_35 v1 dX3_endDay_40 rfl ?_
    refine g_iconst f 1 dX3_endDay_43 kc_1 ?_
    refine g_iadd f dX3_endDay_44 ?_
    refine g_putI f fk_X3_35 v1 dX3_endDay_45 rfl h (fun h => ?_)
    exact g_vret f hq (Nat.le_of_ble_eq_true rfl) (Nat.le_of_ble_eq_true rfl) dX3_endDay_48 h
  · refine g_aload_n f 0 dX3_endDay_8 rfl rfl ?_
    obtain ⟨v7, h⟩ := h
    refine g_getR f fk_X3_19 v7 dX3_endDay_9 rfl h (fun t8 h => ?_)
    refine g_iload_n f 2 dX3_endDay_12 rfl rfl ?_
    refine g_dup2_11 f dX3_endDay_13 rfl rfl ?_
    obtain ⟨v9, h⟩ := h
    refine g_iald f v9 dX3_endDay_14 h (fun h => ?_)
    refine g_iload_n f 1 dX3_endDay_15 rfl rfl ?_
    refine g_iload_n f 2 dX3_endDay_16 rfl rfl ?_
    refine g_ishr f dX3_endDay_17 ?_
    refine g_iconst f 1 dX3_endDay_18 kc_1 ?_
    refine g_iand f dX3_endDay_19 ?_
    refine g_iadd f dX3_endDay_20 ?_
    refine g_iast f v9 dX3_endDay_21 h (fun h => ?_)
    refine h_iinc f 2 1 dX3_endDay_22 rfl kc_1 (by decide) ?_
    refine g_goto f 2 dX3_endDay_25 rfl ?_
    exact h_sub [1, 2, 0] rfl (hK2 _ _ h)
def L_X3_endDay_2 (o0 : Nat) (i1 : Int32) (i2 : Int32) (μ : Me) (Q : Me → Prop) : Prop := ∃ I : Int32 → Me → Nat → Prop, (∃ n, I i2 μ n) ∧ ∀ (i2 : Int32) (μ : Me) (n : Nat), I i2 μ n → B_X3_endDay_2 o0 i1 i2 μ (fun a2 ν => ∃ n', n' < n ∧ I a2 ν n') Q
set_option maxHeartbeats 4000000 in
set_option maxRecDepth 100000 in
theorem tL_X3_endDay_2 {x : GX} (f : Fx x cX3_endDay RX3 3 (rmc 1 0 0)) {o0 : Nat} {i1 : Int32} {i2 : Int32} {μ : Me} {Q : Me → Prop} (hq : Rt x none (qV Q)) (h : L_X3_endDay_2 o0 i1 i2 μ Q) : G x 3 2 [(0, .ref (gB x + o0)), (1, .int i1), (2, .int i2)] [] μ 0 0 := by
  obtain ⟨I, ⟨n, hI⟩, hs⟩ := h
  induction n using Nat.strongRecOn generalizing i2 μ with
  | ind n ih => exact tB_X3_endDay_2 f hq (fun a2 ν hk => by obtain ⟨n2, hn, hI2⟩ := hk; exact ih n2 hn hI2) (hs _ _ _ hI)
def S_X3_endDay (o0 : Nat) (i1 : Int32) (μ : Me) (Q : Me → Prop) : Prop := L_X3_endDay_2 o0 i1 0 μ Q
set_option maxHeartbeats 4000000 in
set_option maxRecDepth 100000 in
theorem t_X3_endDay {x : GX} (f : Fx x cX3_endDay RX3 3 (rmc 1 0 0)) {o0 : Nat} {i1 : Int32} {μ : Me} {Q : Me → Prop} (hq : Rt x none (qV Q)) (h : S_X3_endDay o0 i1 μ Q) : G x 3 0 [(0, .ref (gB x + o0)), (1, .int i1)] [] μ 0 0 := by
  unfold S_X3_endDay at h
  refine g_iconst f 0 dX3_endDay_0 kc_0 ?_
  refine h_istore_n f dX3_endDay_1 rfl (by decide) ?_
  exact h_sub [1, 2, 0] rfl (tL_X3_endDay_2 f hq h)
theorem c_X3_endDay {Ω : OM} {o0 : Nat} {i1 : Int32} {μ : Me} {Q : Me → Prop} (h : S_X3_endDay o0 i1 μ Q) : CT Ω yX3_endDay cX3_endDay 3 none (rmc 1 0 0) [.ref (oB Ω + o0), .int i1] μ (qV Q) := CT_of (by decide) rfl (by simp [lg_sl, Value.category]) (fun x hΩ f hq hi => by subst hΩ; exact t_X3_endDay f hq h)
theorem dX1_passOne_0 : decode cX1_passOne 0 = .ok (.aload_n 1, 1) := by decide +kernel
theorem dX1_passOne_1 : decode cX1_passOne 1 = .ok (.aload_n 1, 1) := by decide +kernel
theorem dX1_passOne_2 : decode cX1_passOne 2 = .ok (.getfield 59, 3) := by decide +kernel
theorem dX1_passOne_5 : decode cX1_passOne 5 = .ok (.bipush 10, 2) := by decide +kernel
theorem dX1_passOne_7 : decode cX1_passOne 7 = .ok (.irem, 1) := by decide +kernel
theorem dX1_passOne_8 : decode cX1_passOne 8 = .ok (.putfield 62, 3) := by decide +kernel
theorem dX1_passOne_11 : decode cX1_passOne 11 = .ok (.aload_n 1, 1) := by decide +kernel
theorem dX1_passOne_12 : decode cX1_passOne 12 = .ok (.invokevirtual 65, 3) := by decide +kernel
theorem dX1_passOne_15 : decode cX1_passOne 15 = .ok (.aload_n 0, 1) := by decide +kernel
theorem dX1_passOne_16 : decode cX1_passOne 16 = .ok (.getfield 22, 3) := by decide +kernel
theorem dX1_passOne_19 : decode cX1_passOne 19 = .ok (.aload_n 1, 1) := by decide +kernel
theorem dX1_passOne_20 : decode cX1_passOne 20 = .ok (.invokevirtual 68, 3) := by decide +kernel
theorem dX1_passOne_23 : decode cX1_passOne 23 = .ok (.aload_n 0, 1) := by decide +kernel
theorem dX1_passOne_24 : decode cX1_passOne 24 = .ok (.getfield 22, 3) := by decide +kernel
theorem dX1_passOne_27 : decode cX1_passOne 27 = .ok (.aload_n 1, 1) := by decide +kernel
theorem dX1_passOne_28 : decode cX1_passOne 28 = .ok (.getfield 38, 3) := by decide +kernel
theorem dX1_passOne_31 : decode cX1_passOne 31 = .ok (.invokevirtual 74, 3) := by decide +kernel
theorem dX1_passOne_34 : decode cX1_passOne 34 = .ok (.istore_n 2, 1) := by decide +kernel
theorem dX1_passOne_35 : decode cX1_passOne 35 = .ok (.aload_n 1, 1) := by decide +kernel
theorem dX1_passOne_36 : decode cX1_passOne 36 = .ok (.iload_n 2, 1) := by decide +kernel
theorem dX1_passOne_37 : decode cX1_passOne 37 = .ok (.invokevirtual 78, 3) := by decide +kernel
theorem dX1_passOne_40 : decode cX1_passOne 40 = .ok (.iload_n 2, 1) := by decide +kernel
theorem dX1_passOne_41 : decode cX1_passOne 41 = .ok (.invokestatic 82, 3) := by decide +kernel
theorem dX1_passOne_44 : decode cX1_passOne 44 = .ok (.ireturn, 1) := by decide +kernel
def S_X1_passOne (o0 : Nat) (o1 : Nat) (μ : Me) (Q : Int32 → Me → Prop) : Prop := mok μ o1 3 ∧ ∀ μ2, μ2 = msi μ o1 2 ((mgi μ o1 4) - (mgi μ o1 4) / 10 * 10) → S_X3_stir o1 μ2 (fun μ3 => mok μ3 o0 1 ∧ ∃ t7, mgr μ3 o0 1 = some t7 ∧ mok μ3 t7 4 ∧ S_X4_asIn t7 o1 μ3 (fun μ9 => ∃ t12, mgr μ9 o0 1 = some t12 ∧ mok μ9 t12 4 ∧ S_X4_lateBy t12 (mgi μ9 o1 0) μ9 (fun r16 μ14 => S_X3_endDay o1 r16 μ14 (fun μ17 => S_J6_bitCount_0f7a4 r16 μ17 (fun r22 μ20 => Q r22 μ20)))))
set_option maxHeartbeats 4000000 in
set_option maxRecDepth 100000 in
theorem t_X1_passOne {x : GX} (f : Fx x cX1_passOne RX1 3 (rmc 4 0 0)) {o0 : Nat} {o1 : Nat} {μ : Me} {Q : Int32 → Me → Prop} (hq : Rt x (some .int) (qI Q)) (h : S_X1_passOne o0 o1 μ Q) : G x 3 0 [(0, .ref (gB x + o0)), (1, .ref (gB x + o1))] [] μ 0 0 := by
  unfold S_X1_passOne at h
  refine g_aload_n f 1 dX1_passOne_0 rfl rfl ?_
  refine g_aload_n f 1 dX1_passOne_1 rfl rfl ?_
  obtain ⟨v1, h⟩ := h
  refine g_getI f fk_X1_59 v1 dX1_passOne_2 rfl ?_
  refine g_bipush f 10 dX1_passOne_5 kb_10 ?_
  refine g_irem f dX1_passOne_7 (by decide) ?_
  refine g_putI f fk_X1_62 v1 dX1_passOne_8 rfl h (fun h => ?_)
  refine g_aload_n f 1 dX1_passOne_11 rfl rfl ?_
  refine g_callV f mk_X1_65 v1 (c_X3_stir h) dX1_passOne_12 rfl rfl (Nat.le_of_ble_eq_true rfl) (rm_ok (by decide) (by decide)) ⟨Nat.le_of_ble_eq_true rfl, Nat.le_of_ble_eq_true rfl⟩ (kV fun μ3 x4 h => ?_)
  refine g_aload_n f 0 dX1_passOne_15 rfl rfl ?_
  obtain ⟨v6, h⟩ := h
  refine g_getR f fk_X1_22 v6 dX1_passOne_16 rfl h (fun t7 h => ?_)
  refine g_aload_n f 1 dX1_passOne_19 rfl rfl ?_
  obtain ⟨v8, h⟩ := h
  refine g_callV f mk_X1_68 v8 (c_X4_asIn h) dX1_passOne_20 rfl rfl (Nat.le_of_ble_eq_true rfl) (rm_ok (by decide) (by decide)) ⟨Nat.le_of_ble_eq_true rfl, Nat.le_of_ble_eq_true rfl⟩ (kV fun μ9 x10 h => ?_)
  refine g_aload_n f 0 dX1_passOne_23 rfl rfl ?_
  have v6 := mex_ok x10 v6
  refine g_getR f fk_X1_22 v6 dX1_passOne_24 rfl h (fun t12 h => ?_)
  refine g_aload_n f 1 dX1_passOne_27 rfl rfl ?_
  have v1 := mex_ok x4 v1
  have v1 := mex_ok x10 v1
  refine g_getI f fk_X1_38 v1 dX1_passOne_28 rfl ?_
  obtain ⟨v13, h⟩ := h
  refine g_callV f mk_X1_74 v13 (c_X4_lateBy h) dX1_passOne_31 rfl rfl (Nat.le_of_ble_eq_true rfl) (rm_ok (by decide) (by decide)) ⟨Nat.le_of_ble_eq_true rfl, Nat.le_of_ble_eq_true rfl⟩ (kI fun r16 μ14 x15 h => ?_)
  refine h_istore_n f dX1_passOne_34 rfl (by decide) ?_
  refine g_aload_n f 2 dX1_passOne_35 rfl rfl ?_
  refine g_iload_n f 0 dX1_passOne_36 rfl rfl ?_
  have v1 := mex_ok x15 v1
  refine g_callV f mk_X1_78 v1 (c_X3_endDay h) dX1_passOne_37 rfl rfl (Nat.le_of_ble_eq_true rfl) (rm_ok (by decide) (by decide)) ⟨Nat.le_of_ble_eq_true rfl, Nat.le_of_ble_eq_true rfl⟩ (kV fun μ17 x18 h => ?_)
  refine g_iload_n f 0 dX1_passOne_40 rfl rfl ?_
  refine g_callS f mk_X1_82 (c_J6_bitCount_0f7a4 h) dX1_passOne_41 rfl rfl (Nat.le_of_ble_eq_true rfl) (rm_ok (by decide) (by decide)) ⟨Nat.le_of_ble_eq_true rfl, Nat.le_of_ble_eq_true rfl⟩ (kI fun r22 μ20 x21 h => ?_)
  exact g_iret f hq (Nat.le_of_ble_eq_true rfl) (Nat.le_of_ble_eq_true rfl) dX1_passOne_44 h
theorem c_X1_passOne {Ω : OM} {o0 : Nat} {o1 : Nat} {μ : Me} {Q : Int32 → Me → Prop} (h : S_X1_passOne o0 o1 μ Q) : CT Ω yX1_passOne cX1_passOne 3 (some .int) (rmc 4 0 0) [.ref (oB Ω + o0), .ref (oB Ω + o1)] μ (qI Q) := CT_of (by decide) rfl (by simp [lg_sl, Value.category]) (fun x hΩ f hq hi => by subst hΩ; exact t_X1_passOne f hq h)
theorem dX1_passDays_0 : decode cX1_passDays 0 = .ok (.iconst 0, 1) := by decide +kernel
theorem dX1_passDays_1 : decode cX1_passDays 1 = .ok (.istore_n 2, 1) := by decide +kernel
theorem dX1_passDays_2 : decode cX1_passDays 2 = .ok (.iconst 0, 1) := by decide +kernel
theorem dX1_passDays_3 : decode cX1_passDays 3 = .ok (.istore_n 3, 1) := by decide +kernel
theorem dX1_passDays_4 : decode cX1_passDays 4 = .ok (.iload_n 3, 1) := by decide +kernel
theorem dX1_passDays_5 : decode cX1_passDays 5 = .ok (.iload_n 1, 1) := by decide +kernel
theorem dX1_passDays_6 : decode cX1_passDays 6 = .ok (.if_icmp .ge 30, 3) := by decide +kernel
theorem dX1_passDays_9 : decode cX1_passDays 9 = .ok (.aload_n 0, 1) := by decide +kernel
theorem dX1_passDays_10 : decode cX1_passDays 10 = .ok (.getfield 18, 3) := by decide +kernel
theorem dX1_passDays_13 : decode cX1_passDays 13 = .ok (.invokevirtual 32, 3) := by decide +kernel
theorem dX1_passDays_16 : decode cX1_passDays 16 = .ok (.iload_n 2, 1) := by decide +kernel
theorem dX1_passDays_17 : decode cX1_passDays 17 = .ok (.aload_n 0, 1) := by decide +kernel
theorem dX1_passDays_18 : decode cX1_passDays 18 = .ok (.aload_n 0, 1) := by decide +kernel
theorem dX1_passDays_19 : decode cX1_passDays 19 = .ok (.getfield 18, 3) := by decide +kernel
theorem dX1_passDays_22 : decode cX1_passDays 22 = .ok (.getfield 35, 3) := by decide +kernel
theorem dX1_passDays_25 : decode cX1_passDays 25 = .ok (.invokevirtual 55, 3) := by decide +kernel
theorem dX1_passDays_28 : decode cX1_passDays 28 = .ok (.iadd, 1) := by decide +kernel
theorem dX1_passDays_29 : decode cX1_passDays 29 = .ok (.istore_n 2, 1) := by decide +kernel
theorem dX1_passDays_30 : decode cX1_passDays 30 = .ok (.iinc 3 1, 3) := by decide +kernel
theorem dX1_passDays_33 : decode cX1_passDays 33 = .ok (.goto (-29), 3) := by decide +kernel
theorem dX1_passDays_36 : decode cX1_passDays 36 = .ok (.iload_n 2, 1) := by decide +kernel
theorem dX1_passDays_37 : decode cX1_passDays 37 = .ok (.ireturn, 1) := by decide +kernel
def B_X1_passDays_4 (o0 : Nat) (i1 : Int32) (i2 : Int32) (i3 : Int32) (μ : Me) (K4 : Int32 → Int32 → Me → Prop) (Q : Int32 → Me → Prop) : Prop := ((i1 ≤ i3 → Q i2 μ) ∧ (¬ i1 ≤ i3 → mok μ o0 1 ∧ ∃ t2, mgr μ o0 0 = some t2 ∧ mok μ t2 9 ∧ S_X9_markStep t2 μ (fun μ4 => ∃ t7, mgr μ4 o0 0 = some t7 ∧ mok μ4 t7 9 ∧ ∃ t9, mgr μ4 t7 14 = some t9 ∧ S_X1_passOne o0 t9 μ4 (fun r12 μ10 => K4 (i2 + r12) (i3 + 1) μ10))))
set_option maxHeartbeats 4000000 in
set_option maxRecDepth 100000 in
theorem tB_X1_passDays_4 {x : GX} (f : Fx x cX1_passDays RX1 4 (rmc 5 0 0)) {o0 : Nat} {i1 : Int32} {i2 : Int32} {i3 : Int32} {μ : Me} {Q : Int32 → Me → Prop} (hq : Rt x (some .int) (qI Q)) {K4 : Int32 → Int32 → Me → Prop} (hK4 : ∀ (a2 : Int32) (a3 : Int32) (ν : Me), K4 a2 a3 ν → G x 4 4 [(0, .ref (gB x + o0)), (1, .int i1), (2, .int a2), (3, .int a3)] [] ν 0 0) (h : B_X1_passDays_4 o0 i1 i2 i3 μ K4 Q) : G x 4 4 [(0, .ref (gB x + o0)), (1, .int i1), (2, .int i2), (3, .int i3)] [] μ 0 0 := by
  unfold B_X1_passDays_4 at h
  refine g_iload_n f 3 dX1_passDays_4 rfl rfl ?_
  refine g_iload_n f 1 dX1_passDays_5 rfl rfl ?_
  refine g_ic_ge f 36 dX1_passDays_6 rfl h (fun h => ?_) (fun h => ?_)
  · refine g_iload_n f 2 dX1_passDays_36 rfl rfl ?_
    exact g_iret f hq (Nat.le_of_ble_eq_true rfl) (Nat.le_of_ble_eq_true rfl) dX1_passDays_37 h
  · refine g_aload_n f 0 dX1_passDays_9 rfl rfl ?_
    obtain ⟨v1, h⟩ := h
    refine g_getR f fk_X1_18 v1 dX1_passDays_10 rfl h (fun t2 h => ?_)
    obtain ⟨v3, h⟩ := h
    refine g_callV f mk_X1_32 v3 (c_X9_markStep h) dX1_passDays_13 rfl rfl (Nat.le_of_ble_eq_true rfl) (rm_ok (by decide) (by decide)) ⟨Nat.le_of_ble_eq_true rfl, Nat.le_of_ble_eq_true rfl⟩ (kV fun μ4 x5 h => ?_)
    refine g_iload_n f 2 dX1_passDays_16 rfl rfl ?_
    refine g_aload_n f 0 dX1_passDays_17 rfl rfl ?_
    refine g_aload_n f 0 dX1_passDays_18 rfl rfl ?_
    have v1 := mex_ok x5 v1
    refine g_getR f fk_X1_18 v1 dX1_passDays_19 rfl h (fun t7 h => ?_)
    obtain ⟨v8, h⟩ := h
    refine g_getR f fk_X1_35 v8 dX1_passDays_22 rfl h (fun t9 h => ?_)
    refine g_callV f mk_X1_55 v1 (c_X1_passOne h) dX1_passDays_25 rfl rfl (Nat.le_of_ble_eq_true rfl) (rm_ok (by decide) (by decide)) ⟨Nat.le_of_ble_eq_true rfl, Nat.le_of_ble_eq_true rfl⟩ (kI fun r12 μ10 x11 h => ?_)
    refine g_iadd f dX1_passDays_28 ?_
    refine h_istore_n f dX1_passDays_29 rfl (by decide) ?_
    refine h_iinc f 3 1 dX1_passDays_30 rfl kc_1 (by decide) ?_
    refine g_goto f 4 dX1_passDays_33 rfl ?_
    exact h_sub [2, 3, 1, 0] rfl (hK4 _ _ _ h)
def L_X1_passDays_4 (o0 : Nat) (i1 : Int32) (i2 : Int32) (i3 : Int32) (μ : Me) (Q : Int32 → Me → Prop) : Prop := ∃ I : Int32 → Int32 → Me → Nat → Prop, (∃ n, I i2 i3 μ n) ∧ ∀ (i2 : Int32) (i3 : Int32) (μ : Me) (n : Nat), I i2 i3 μ n → B_X1_passDays_4 o0 i1 i2 i3 μ (fun a2 a3 ν => ∃ n', n' < n ∧ I a2 a3 ν n') Q
set_option maxHeartbeats 4000000 in
set_option maxRecDepth 100000 in
theorem tL_X1_passDays_4 {x : GX} (f : Fx x cX1_passDays RX1 4 (rmc 5 0 0)) {o0 : Nat} {i1 : Int32} {i2 : Int32} {i3 : Int32} {μ : Me} {Q : Int32 → Me → Prop} (hq : Rt x (some .int) (qI Q)) (h : L_X1_passDays_4 o0 i1 i2 i3 μ Q) : G x 4 4 [(0, .ref (gB x + o0)), (1, .int i1), (2, .int i2), (3, .int i3)] [] μ 0 0 := by
  obtain ⟨I, ⟨n, hI⟩, hs⟩ := h
  induction n using Nat.strongRecOn generalizing i2 i3 μ with
  | ind n ih => exact tB_X1_passDays_4 f hq (fun a2 a3 ν hk => by obtain ⟨n2, hn, hI2⟩ := hk; exact ih n2 hn hI2) (hs _ _ _ _ hI)
def S_X1_passDays (o0 : Nat) (i1 : Int32) (μ : Me) (Q : Int32 → Me → Prop) : Prop := L_X1_passDays_4 o0 i1 0 0 μ Q
set_option maxHeartbeats 4000000 in
set_option maxRecDepth 100000 in
theorem t_X1_passDays {x : GX} (f : Fx x cX1_passDays RX1 4 (rmc 5 0 0)) {o0 : Nat} {i1 : Int32} {μ : Me} {Q : Int32 → Me → Prop} (hq : Rt x (some .int) (qI Q)) (h : S_X1_passDays o0 i1 μ Q) : G x 4 0 [(0, .ref (gB x + o0)), (1, .int i1)] [] μ 0 0 := by
  unfold S_X1_passDays at h
  refine g_iconst f 0 dX1_passDays_0 kc_0 ?_
  refine h_istore_n f dX1_passDays_1 rfl (by decide) ?_
  refine g_iconst f 0 dX1_passDays_2 kc_0 ?_
  refine h_istore_n f dX1_passDays_3 rfl (by decide) ?_
  exact h_sub [2, 3, 1, 0] rfl (tL_X1_passDays_4 f hq h)
theorem c_X1_passDays {Ω : OM} {o0 : Nat} {i1 : Int32} {μ : Me} {Q : Int32 → Me → Prop} (h : S_X1_passDays o0 i1 μ Q) : CT Ω yX1_passDays cX1_passDays 4 (some .int) (rmc 5 0 0) [.ref (oB Ω + o0), .int i1] μ (qI Q) := CT_of (by decide) rfl (by simp [lg_sl, Value.category]) (fun x hΩ f hq hi => by subst hΩ; exact t_X1_passDays f hq h)
theorem dX7_numberOf_0 : decode cX7_numberOf 0 = .ok (.iload_n 1, 1) := by decide +kernel
theorem dX7_numberOf_1 : decode cX7_numberOf 1 = .ok (.iconst 5, 1) := by decide +kernel
theorem dX7_numberOf_2 : decode cX7_numberOf 2 = .ok (.imul, 1) := by decide +kernel
theorem dX7_numberOf_3 : decode cX7_numberOf 3 = .ok (.iload_n 2, 1) := by decide +kernel
theorem dX7_numberOf_4 : decode cX7_numberOf 4 = .ok (.iadd, 1) := by decide +kernel
theorem dX7_numberOf_5 : decode cX7_numberOf 5 = .ok (.istore_n 3, 1) := by decide +kernel
theorem dX7_numberOf_6 : decode cX7_numberOf 6 = .ok (.iload_n 3, 1) := by decide +kernel
theorem dX7_numberOf_7 : decode cX7_numberOf 7 = .ok (.ifCond .lt 21, 3) := by decide +kernel
theorem dX7_numberOf_10 : decode cX7_numberOf 10 = .ok (.iload_n 3, 1) := by decide +kernel
theorem dX7_numberOf_11 : decode cX7_numberOf 11 = .ok (.aload_n 0, 1) := by decide +kernel
theorem dX7_numberOf_12 : decode cX7_numberOf 12 = .ok (.getfield 18, 3) := by decide +kernel
theorem dX7_numberOf_15 : decode cX7_numberOf 15 = .ok (.arraylength, 1) := by decide +kernel
theorem dX7_numberOf_16 : decode cX7_numberOf 16 = .ok (.if_icmp .ge 12, 3) := by decide +kernel
theorem dX7_numberOf_19 : decode cX7_numberOf 19 = .ok (.aload_n 0, 1) := by decide +kernel
theorem dX7_numberOf_20 : decode cX7_numberOf 20 = .ok (.getfield 18, 3) := by decide +kernel
theorem dX7_numberOf_23 : decode cX7_numberOf 23 = .ok (.iload_n 3, 1) := by decide +kernel
theorem dX7_numberOf_24 : decode cX7_numberOf 24 = .ok (.iaload, 1) := by decide +kernel
theorem dX7_numberOf_25 : decode cX7_numberOf 25 = .ok (.goto 4, 3) := by decide +kernel
theorem dX7_numberOf_28 : decode cX7_numberOf 28 = .ok (.iconst 0, 1) := by decide +kernel
theorem dX7_numberOf_29 : decode cX7_numberOf 29 = .ok (.ireturn, 1) := by decide +kernel
def S_X7_numberOf (o0 : Nat) (i1 : Int32) (i2 : Int32) (μ : Me) (Q : Int32 → Me → Prop) : Prop := ((((i1 * 5) + i2) < 0 → Q 0 μ) ∧ (¬ ((i1 * 5) + i2) < 0 → mok μ o0 7 ∧ ∃ t2, mgr μ o0 7 = some t2 ∧ mok μ t2 12 ∧ (((nI (mln μ t2)) ≤ ((i1 * 5) + i2) → Q 0 μ) ∧ (¬ (nI (mln μ t2)) ≤ ((i1 * 5) + i2) → ∃ t4, mgr μ o0 7 = some t4 ∧ mok μ t4 12 ∧ vp_in ((i1 * 5) + i2) (mln μ t4) ∧ Q (mgi μ t4 ((i1 * 5) + i2).toNatClampNeg) μ))))
set_option maxHeartbeats 4000000 in
set_option maxRecDepth 100000 in
theorem t_X7_numberOf {x : GX} (f : Fx x cX7_numberOf RX7 4 (rmc 0 0 0)) {o0 : Nat} {i1 : Int32} {i2 : Int32} {μ : Me} {Q : Int32 → Me → Prop} (hq : Rt x (some .int) (qI Q)) (h : S_X7_numberOf o0 i1 i2 μ Q) : G x 4 0 [(0, .ref (gB x + o0)), (1, .int i1), (2, .int i2)] [] μ 0 0 := by
  unfold S_X7_numberOf at h
  refine g_iload_n f 1 dX7_numberOf_0 rfl rfl ?_
  refine g_iconst f 5 dX7_numberOf_1 kc_5 ?_
  refine g_imul f dX7_numberOf_2 ?_
  refine g_iload_n f 2 dX7_numberOf_3 rfl rfl ?_
  refine g_iadd f dX7_numberOf_4 ?_
  refine h_istore_n f dX7_numberOf_5 rfl (by decide) ?_
  refine g_iload_n f 0 dX7_numberOf_6 rfl rfl ?_
  refine g_if_lt f 28 dX7_numberOf_7 rfl h (fun h => ?_) (fun h => ?_)
  · refine g_iconst f 0 dX7_numberOf_28 kc_0 ?_
    exact g_iret f hq (Nat.le_of_ble_eq_true rfl) (Nat.le_of_ble_eq_true rfl) dX7_numberOf_29 h
  · refine g_iload_n f 0 dX7_numberOf_10 rfl rfl ?_
    refine g_aload_n f 1 dX7_numberOf_11 rfl rfl ?_
    obtain ⟨v1, h⟩ := h
    refine g_getR f fk_X7_18 v1 dX7_numberOf_12 rfl h (fun t2 h => ?_)
    obtain ⟨v3, h⟩ := h
    refine g_alen f v3 (Or.inl rfl) dX7_numberOf_15 ?_
    refine g_ic_ge f 28 dX7_numberOf_16 rfl h (fun h => ?_) (fun h => ?_)
    · refine g_iconst f 0 dX7_numberOf_28 kc_0 ?_
      exact g_iret f hq (Nat.le_of_ble_eq_true rfl) (Nat.le_of_ble_eq_true rfl) dX7_numberOf_29 h
    · refine g_aload_n f 1 dX7_numberOf_19 rfl rfl ?_
      refine g_getR f fk_X7_18 v1 dX7_numberOf_20 rfl h (fun t4 h => ?_)
      refine g_iload_n f 0 dX7_numberOf_23 rfl rfl ?_
      obtain ⟨v5, h⟩ := h
      refine g_iald f v5 dX7_numberOf_24 h (fun h => ?_)
      refine g_goto f 29 dX7_numberOf_25 rfl ?_
      exact g_iret f hq (Nat.le_of_ble_eq_true rfl) (Nat.le_of_ble_eq_true rfl) dX7_numberOf_29 h
theorem c_X7_numberOf {Ω : OM} {o0 : Nat} {i1 : Int32} {i2 : Int32} {μ : Me} {Q : Int32 → Me → Prop} (h : S_X7_numberOf o0 i1 i2 μ Q) : CT Ω yX7_numberOf cX7_numberOf 4 (some .int) (rmc 0 0 0) [.ref (oB Ω + o0), .int i1, .int i2] μ (qI Q) := CT_of (by decide) rfl (by simp [lg_sl, Value.category]) (fun x hΩ f hq hi => by subst hΩ; exact t_X7_numberOf f hq h)
theorem dX9_tell_0 : decode cX9_tell 0 = .ok (.iload_n 1, 1) := by decide +kernel
theorem dX9_tell_1 : decode cX9_tell 1 = .ok (.ifCond .lt 46, 3) := by decide +kernel
theorem dX9_tell_4 : decode cX9_tell 4 = .ok (.iload_n 1, 1) := by decide +kernel
theorem dX9_tell_5 : decode cX9_tell 5 = .ok (.iconst 4, 1) := by decide +kernel
theorem dX9_tell_6 : decode cX9_tell 6 = .ok (.if_icmp .ge 41, 3) := by decide +kernel
theorem dX9_tell_9 : decode cX9_tell 9 = .ok (.iload_n 2, 1) := by decide +kernel
theorem dX9_tell_10 : decode cX9_tell 10 = .ok (.iconst 1, 1) := by decide +kernel
theorem dX9_tell_11 : decode cX9_tell 11 = .ok (.if_icmp .lt 36, 3) := by decide +kernel
theorem dX9_tell_14 : decode cX9_tell 14 = .ok (.iload_n 2, 1) := by decide +kernel
theorem dX9_tell_15 : decode cX9_tell 15 = .ok (.bipush 99, 2) := by decide +kernel
theorem dX9_tell_17 : decode cX9_tell 17 = .ok (.if_icmp .gt 30, 3) := by decide +kernel
theorem dX9_tell_20 : decode cX9_tell 20 = .ok (.iload_n 3, 1) := by decide +kernel
theorem dX9_tell_21 : decode cX9_tell 21 = .ok (.iconst 1, 1) := by decide +kernel
theorem dX9_tell_22 : decode cX9_tell 22 = .ok (.if_icmp .lt 25, 3) := by decide +kernel
theorem dX9_tell_25 : decode cX9_tell 25 = .ok (.iload_n 3, 1) := by decide +kernel
theorem dX9_tell_26 : decode cX9_tell 26 = .ok (.bipush 99, 2) := by decide +kernel
theorem dX9_tell_28 : decode cX9_tell 28 = .ok (.if_icmp .gt 19, 3) := by decide +kernel
theorem dX9_tell_31 : decode cX9_tell 31 = .ok (.iload 4, 2) := by decide +kernel
theorem dX9_tell_33 : decode cX9_tell 33 = .ok (.ifCond .lt 14, 3) := by decide +kernel
theorem dX9_tell_36 : decode cX9_tell 36 = .ok (.iload 4, 2) := by decide +kernel
theorem dX9_tell_38 : decode cX9_tell 38 = .ok (.bipush 99, 2) := by decide +kernel
theorem dX9_tell_40 : decode cX9_tell 40 = .ok (.if_icmp .gt 7, 3) := by decide +kernel
theorem dX9_tell_43 : decode cX9_tell 43 = .ok (.iconst 1, 1) := by decide +kernel
theorem dX9_tell_44 : decode cX9_tell 44 = .ok (.goto 4, 3) := by decide +kernel
theorem dX9_tell_47 : decode cX9_tell 47 = .ok (.iconst 0, 1) := by decide +kernel
theorem dX9_tell_48 : decode cX9_tell 48 = .ok (.istore 5, 2) := by decide +kernel
theorem dX9_tell_50 : decode cX9_tell 50 = .ok (.iload 5, 2) := by decide +kernel
theorem dX9_tell_52 : decode cX9_tell 52 = .ok (.ifCond .eq 12, 3) := by decide +kernel
theorem dX9_tell_55 : decode cX9_tell 55 = .ok (.aload_n 0, 1) := by decide +kernel
theorem dX9_tell_56 : decode cX9_tell 56 = .ok (.getfield 54, 3) := by decide +kernel
theorem dX9_tell_59 : decode cX9_tell 59 = .ok (.bipush 8, 2) := by decide +kernel
theorem dX9_tell_61 : decode cX9_tell 61 = .ok (.if_icmp .lt 5, 3) := by decide +kernel
theorem dX9_tell_64 : decode cX9_tell 64 = .ok (.iconst (-1), 1) := by decide +kernel
theorem dX9_tell_65 : decode cX9_tell 65 = .ok (.ireturn, 1) := by decide +kernel
theorem dX9_tell_66 : decode cX9_tell 66 = .ok (.aload_n 0, 1) := by decide +kernel
theorem dX9_tell_67 : decode cX9_tell 67 = .ok (.getfield 9, 3) := by decide +kernel
theorem dX9_tell_70 : decode cX9_tell 70 = .ok (.aload_n 0, 1) := by decide +kernel
theorem dX9_tell_71 : decode cX9_tell 71 = .ok (.getfield 54, 3) := by decide +kernel
theorem dX9_tell_74 : decode cX9_tell 74 = .ok (.iload_n 1, 1) := by decide +kernel
theorem dX9_tell_75 : decode cX9_tell 75 = .ok (.iastore, 1) := by decide +kernel
theorem dX9_tell_76 : decode cX9_tell 76 = .ok (.aload_n 0, 1) := by decide +kernel
theorem dX9_tell_77 : decode cX9_tell 77 = .ok (.getfield 15, 3) := by decide +kernel
theorem dX9_tell_80 : decode cX9_tell 80 = .ok (.iload_n 1, 1) := by decide +kernel
theorem dX9_tell_81 : decode cX9_tell 81 = .ok (.dup2, 1) := by decide +kernel
theorem dX9_tell_82 : decode cX9_tell 82 = .ok (.iaload, 1) := by decide +kernel
theorem dX9_tell_83 : decode cX9_tell 83 = .ok (.iconst 1, 1) := by decide +kernel
theorem dX9_tell_84 : decode cX9_tell 84 = .ok (.aload_n 0, 1) := by decide +kernel
theorem dX9_tell_85 : decode cX9_tell 85 = .ok (.getfield 54, 3) := by decide +kernel
theorem dX9_tell_88 : decode cX9_tell 88 = .ok (.ishl, 1) := by decide +kernel
theorem dX9_tell_89 : decode cX9_tell 89 = .ok (.ior, 1) := by decide +kernel
theorem dX9_tell_90 : decode cX9_tell 90 = .ok (.iastore, 1) := by decide +kernel
theorem dX9_tell_91 : decode cX9_tell 91 = .ok (.aload_n 0, 1) := by decide +kernel
theorem dX9_tell_92 : decode cX9_tell 92 = .ok (.getfield 18, 3) := by decide +kernel
theorem dX9_tell_95 : decode cX9_tell 95 = .ok (.aload_n 0, 1) := by decide +kernel
theorem dX9_tell_96 : decode cX9_tell 96 = .ok (.getfield 54, 3) := by decide +kernel
theorem dX9_tell_99 : decode cX9_tell 99 = .ok (.iload_n 2, 1) := by decide +kernel
theorem dX9_tell_100 : decode cX9_tell 100 = .ok (.iastore, 1) := by decide +kernel
theorem dX9_tell_101 : decode cX9_tell 101 = .ok (.aload_n 0, 1) := by decide +kernel
theorem dX9_tell_102 : decode cX9_tell 102 = .ok (.getfield 21, 3) := by decide +kernel
theorem dX9_tell_105 : decode cX9_tell 105 = .ok (.aload_n 0, 1) := by decide +kernel
theorem dX9_tell_106 : decode cX9_tell 106 = .ok (.getfield 54, 3) := by decide +kernel
theorem dX9_tell_109 : decode cX9_tell 109 = .ok (.iload_n 3, 1) := by decide +kernel
theorem dX9_tell_110 : decode cX9_tell 110 = .ok (.iastore, 1) := by decide +kernel
theorem dX9_tell_111 : decode cX9_tell 111 = .ok (.aload_n 0, 1) := by decide +kernel
theorem dX9_tell_112 : decode cX9_tell 112 = .ok (.getfield 46, 3) := by decide +kernel
theorem dX9_tell_115 : decode cX9_tell 115 = .ok (.getfield 61, 3) := by decide +kernel
theorem dX9_tell_118 : decode cX9_tell 118 = .ok (.aload_n 0, 1) := by decide +kernel
theorem dX9_tell_119 : decode cX9_tell 119 = .ok (.getfield 54, 3) := by decide +kernel
theorem dX9_tell_122 : decode cX9_tell 122 = .ok (.iload 4, 2) := by decide +kernel
theorem dX9_tell_124 : decode cX9_tell 124 = .ok (.iastore, 1) := by decide +kernel
theorem dX9_tell_125 : decode cX9_tell 125 = .ok (.iconst 0, 1) := by decide +kernel
theorem dX9_tell_126 : decode cX9_tell 126 = .ok (.istore 6, 2) := by decide +kernel
theorem dX9_tell_128 : decode cX9_tell 128 = .ok (.iload 6, 2) := by decide +kernel
theorem dX9_tell_130 : decode cX9_tell 130 = .ok (.aload_n 0, 1) := by decide +kernel
theorem dX9_tell_131 : decode cX9_tell 131 = .ok (.getfield 64, 3) := by decide +kernel
theorem dX9_tell_134 : decode cX9_tell 134 = .ok (.if_icmp .ge 25, 3) := by decide +kernel
theorem dX9_tell_137 : decode cX9_tell 137 = .ok (.aload_n 0, 1) := by decide +kernel
theorem dX9_tell_138 : decode cX9_tell 138 = .ok (.iload 6, 2) := by decide +kernel
theorem dX9_tell_140 : decode cX9_tell 140 = .ok (.invokevirtual 67, 3) := by decide +kernel
theorem dX9_tell_143 : decode cX9_tell 143 = .ok (.getfield 61, 3) := by decide +kernel
theorem dX9_tell_146 : decode cX9_tell 146 = .ok (.aload_n 0, 1) := by decide +kernel
theorem dX9_tell_147 : decode cX9_tell 147 = .ok (.getfield 54, 3) := by decide +kernel
theorem dX9_tell_150 : decode cX9_tell 150 = .ok (.iload 4, 2) := by decide +kernel
theorem dX9_tell_152 : decode cX9_tell 152 = .ok (.iastore, 1) := by decide +kernel
theorem dX9_tell_153 : decode cX9_tell 153 = .ok (.iinc 6 1, 3) := by decide +kernel
theorem dX9_tell_156 : decode cX9_tell 156 = .ok (.goto (-28), 3) := by decide +kernel
theorem dX9_tell_159 : decode cX9_tell 159 = .ok (.aload_n 0, 1) := by decide +kernel
theorem dX9_tell_160 : decode cX9_tell 160 = .ok (.dup, 1) := by decide +kernel
theorem dX9_tell_161 : decode cX9_tell 161 = .ok (.getfield 54, 3) := by decide +kernel
theorem dX9_tell_164 : decode cX9_tell 164 = .ok (.iconst 1, 1) := by decide +kernel
theorem dX9_tell_165 : decode cX9_tell 165 = .ok (.iadd, 1) := by decide +kernel
theorem dX9_tell_166 : decode cX9_tell 166 = .ok (.putfield 54, 3) := by decide +kernel
theorem dX9_tell_169 : decode cX9_tell 169 = .ok (.aload_n 0, 1) := by decide +kernel
theorem dX9_tell_170 : decode cX9_tell 170 = .ok (.getfield 54, 3) := by decide +kernel
theorem dX9_tell_173 : decode cX9_tell 173 = .ok (.iconst 1, 1) := by decide +kernel
theorem dX9_tell_174 : decode cX9_tell 174 = .ok (.isub, 1) := by decide +kernel
theorem dX9_tell_175 : decode cX9_tell 175 = .ok (.ireturn, 1) := by decide +kernel
def B_X9_tell_128 (o0 : Nat) (i4 : Int32) (i6 : Int32) (μ : Me) (K128 : Int32 → Me → Prop) (Q : Int32 → Me → Prop) : Prop := mok μ o0 9 ∧ (((mgi μ o0 17) ≤ i6 → ∀ μ20, μ20 = msi μ o0 0 ((mgi μ o0 0) + 1) → Q ((mgi μ20 o0 0) - 1) μ20) ∧ (¬ (mgi μ o0 17) ≤ i6 → S_X9_aheadOf o0 i6 μ (fun r23 μ21 => ∃ t24, r23 = some t24 ∧ mok μ21 t24 3 ∧ ∃ t28, mgr μ21 t24 5 = some t28 ∧ mok μ21 t28 12 ∧ vp_in (mgi μ21 o0 0) (mln μ21 t28) ∧ ∀ μ30, μ30 = msi μ21 t28 (mgi μ21 o0 0).toNatClampNeg i4 → K128 (i6 + 1) μ30)))
set_option maxHeartbeats 4000000 in
set_option maxRecDepth 100000 in
theorem tB_X9_tell_128 {x : GX} (f : Fx x cX9_tell RX9 7 (rmc 1 0 0)) {o0 : Nat} {i4 : Int32} {i6 : Int32} {μ : Me} {Q : Int32 → Me → Prop} (hq : Rt x (some .int) (qI Q)) {K128 : Int32 → Me → Prop} (hK128 : ∀ (a6 : Int32) (ν : Me), K128 a6 ν → G x 7 128 [(0, .ref (gB x + o0)), (4, .int i4), (6, .int a6)] [] ν 0 0) (h : B_X9_tell_128 o0 i4 i6 μ K128 Q) : G x 7 128 [(0, .ref (gB x + o0)), (4, .int i4), (6, .int i6)] [] μ 0 0 := by
  unfold B_X9_tell_128 at h
  refine g_iload f 2 dX9_tell_128 rfl ?_
  refine g_aload_n f 0 dX9_tell_130 rfl rfl ?_
  obtain ⟨v19, h⟩ := h
  refine g_getI f fk_X9_64 v19 dX9_tell_131 rfl ?_
  refine g_ic_ge f 159 dX9_tell_134 rfl h (fun h => ?_) (fun h => ?_)
  · refine g_aload_n f 0 dX9_tell_159 rfl rfl ?_
    refine g_dup f dX9_tell_160 rfl ?_
    refine g_getI f fk_X9_54 v19 dX9_tell_161 rfl ?_
    refine g_iconst f 1 dX9_tell_164 kc_1 ?_
    refine g_iadd f dX9_tell_165 ?_
    refine g_putI f fk_X9_54 v19 dX9_tell_166 rfl h (fun h => ?_)
    refine g_aload_n f 0 dX9_tell_169 rfl rfl ?_
    refine g_getI f fk_X9_54 v19 dX9_tell_170 rfl ?_
    refine g_iconst f 1 dX9_tell_173 kc_1 ?_
    refine g_isub f dX9_tell_174 ?_
    exact g_iret f hq (Nat.le_of_ble_eq_true rfl) (Nat.le_of_ble_eq_true rfl) dX9_tell_175 h
  · refine g_aload_n f 0 dX9_tell_137 rfl rfl ?_
    refine g_iload f 2 dX9_tell_138 rfl ?_
    refine g_callV f mk_X9_67 v19 (c_X9_aheadOf h) dX9_tell_140 rfl rfl (Nat.le_of_ble_eq_true rfl) (rm_ok (by decide) (by decide)) ⟨Nat.le_of_ble_eq_true rfl, Nat.le_of_ble_eq_true rfl⟩ (kR fun r23 μ21 x22 h => ?_)
    obtain ⟨t24, e25, h26⟩ := h
    subst e25
    have h := h26
    obtain ⟨v27, h⟩ := h
    refine g_getR f fk_X9_61 v27 dX9_tell_143 rfl h (fun t28 h => ?_)
    refine g_aload_n f 0 dX9_tell_146 rfl rfl ?_
    have v19 := mex_ok x22 v19
    refine g_getI f fk_X9_54 v19 dX9_tell_147 rfl ?_
    refine g_iload f 1 dX9_tell_150 rfl ?_
    obtain ⟨v29, h⟩ := h
    refine g_iast f v29 dX9_tell_152 h (fun h => ?_)
    refine h_iinc f 2 1 dX9_tell_153 rfl kc_1 (by decide) ?_
    refine g_goto f 128 dX9_tell_156 rfl ?_
    exact h_sub [1, 2, 0] rfl (hK128 _ _ h)
def L_X9_tell_128 (o0 : Nat) (i4 : Int32) (i6 : Int32) (μ : Me) (Q : Int32 → Me → Prop) : Prop := ∃ I : Int32 → Me → Nat → Prop, (∃ n, I i6 μ n) ∧ ∀ (i6 : Int32) (μ : Me) (n : Nat), I i6 μ n → B_X9_tell_128 o0 i4 i6 μ (fun a6 ν => ∃ n', n' < n ∧ I a6 ν n') Q
set_option maxHeartbeats 4000000 in
set_option maxRecDepth 100000 in
theorem tL_X9_tell_128 {x : GX} (f : Fx x cX9_tell RX9 7 (rmc 1 0 0)) {o0 : Nat} {i4 : Int32} {i6 : Int32} {μ : Me} {Q : Int32 → Me → Prop} (hq : Rt x (some .int) (qI Q)) (h : L_X9_tell_128 o0 i4 i6 μ Q) : G x 7 128 [(0, .ref (gB x + o0)), (4, .int i4), (6, .int i6)] [] μ 0 0 := by
  obtain ⟨I, ⟨n, hI⟩, hs⟩ := h
  induction n using Nat.strongRecOn generalizing i6 μ with
  | ind n ih => exact tB_X9_tell_128 f hq (fun a6 ν hk => by obtain ⟨n2, hn, hI2⟩ := hk; exact ih n2 hn hI2) (hs _ _ _ hI)
def B_X9_tell_48 (o0 : Nat) (i1 : Int32) (i2 : Int32) (i3 : Int32) (i4 : Int32) (s0 : Int32) (μ : Me) (Q : Int32 → Me → Prop) : Prop := ((s0 = 0 → Q (-1) μ) ∧ (¬ s0 = 0 → mok μ o0 9 ∧ (((mgi μ o0 0) < 8 → ∃ t2, mgr μ o0 1 = some t2 ∧ mok μ t2 12 ∧ vp_in (mgi μ o0 0) (mln μ t2) ∧ ∀ μ4, μ4 = msi μ t2 (mgi μ o0 0).toNatClampNeg i1 → ∃ t5, mgr μ4 o0 2 = some t5 ∧ mok μ4 t5 12 ∧ vp_in i1 (mln μ4 t5) ∧ vp_in i1 (mln μ4 t5) ∧ ∀ μ7, μ7 = msi μ4 t5 i1.toNatClampNeg ((mgi μ4 t5 i1.toNatClampNeg) ||| (1 <<< ((mgi μ4 o0 0) &&& 31))) → ∃ t8, mgr μ7 o0 3 = some t8 ∧ mok μ7 t8 12 ∧ vp_in (mgi μ7 o0 0) (mln μ7 t8) ∧ ∀ μ10, μ10 = msi μ7 t8 (mgi μ7 o0 0).toNatClampNeg i2 → ∃ t11, mgr μ10 o0 4 = some t11 ∧ mok μ10 t11 12 ∧ vp_in (mgi μ10 o0 0) (mln μ10 t11) ∧ ∀ μ13, μ13 = msi μ10 t11 (mgi μ10 o0 0).toNatClampNeg i3 → ∃ t14, mgr μ13 o0 14 = some t14 ∧ mok μ13 t14 3 ∧ ∃ t16, mgr μ13 t14 5 = some t16 ∧ mok μ13 t16 12 ∧ vp_in (mgi μ13 o0 0) (mln μ13 t16) ∧ ∀ μ18, μ18 = msi μ13 t16 (mgi μ13 o0 0).toNatClampNeg i4 → L_X9_tell_128 o0 i4 0 μ18 Q) ∧ (¬ (mgi μ o0 0) < 8 → Q (-1) μ))))
set_option maxHeartbeats 4000000 in
set_option maxRecDepth 100000 in
theorem tB_X9_tell_48 {x : GX} (f : Fx x cX9_tell RX9 7 (rmc 1 0 0)) {o0 : Nat} {i1 : Int32} {i2 : Int32} {i3 : Int32} {i4 : Int32} {s0 : Int32} {μ : Me} {Q : Int32 → Me → Prop} (hq : Rt x (some .int) (qI Q)) (h : B_X9_tell_48 o0 i1 i2 i3 i4 s0 μ Q) : G x 7 48 [(0, .ref (gB x + o0)), (1, .int i1), (2, .int i2), (3, .int i3), (4, .int i4)] [.int s0] μ 0 0 := by
  unfold B_X9_tell_48 at h
  refine h_istore f dX9_tell_48 (by decide) ?_
  refine g_iload f 0 dX9_tell_50 rfl ?_
  refine g_if_eq f 64 dX9_tell_52 rfl h (fun h => ?_) (fun h => ?_)
  · refine g_iconst f (-1) dX9_tell_64 kc_m1 ?_
    exact g_iret f hq (Nat.le_of_ble_eq_true rfl) (Nat.le_of_ble_eq_true rfl) dX9_tell_65 h
  · refine g_aload_n f 1 dX9_tell_55 rfl rfl ?_
    obtain ⟨v1, h⟩ := h
    refine g_getI f fk_X9_54 v1 dX9_tell_56 rfl ?_
    refine g_bipush f 8 dX9_tell_59 kb_8 ?_
    refine g_ic_lt f 66 dX9_tell_61 rfl h (fun h => ?_) (fun h => ?_)
    · refine g_aload_n f 1 dX9_tell_66 rfl rfl ?_
      refine g_getR f fk_X9_9 v1 dX9_tell_67 rfl h (fun t2 h => ?_)
      refine g_aload_n f 1 dX9_tell_70 rfl rfl ?_
      refine g_getI f fk_X9_54 v1 dX9_tell_71 rfl ?_
      refine g_iload_n f 2 dX9_tell_74 rfl rfl ?_
      obtain ⟨v3, h⟩ := h
      refine g_iast f v3 dX9_tell_75 h (fun h => ?_)
      refine g_aload_n f 1 dX9_tell_76 rfl rfl ?_
      refine g_getR f fk_X9_15 v1 dX9_tell_77 rfl h (fun t5 h => ?_)
      refine g_iload_n f 2 dX9_tell_80 rfl rfl ?_
      refine g_dup2_11 f dX9_tell_81 rfl rfl ?_
      obtain ⟨v6, h⟩ := h
      refine g_iald f v6 dX9_tell_82 h (fun h => ?_)
      refine g_iconst f 1 dX9_tell_83 kc_1 ?_
      refine g_aload_n f 1 dX9_tell_84 rfl rfl ?_
      refine g_getI f fk_X9_54 v1 dX9_tell_85 rfl ?_
      refine g_ishl f dX9_tell_88 ?_
      refine g_ior f dX9_tell_89 ?_
      refine g_iast f v6 dX9_tell_90 h (fun h => ?_)
      refine g_aload_n f 1 dX9_tell_91 rfl rfl ?_
      refine g_getR f fk_X9_18 v1 dX9_tell_92 rfl h (fun t8 h => ?_)
      refine g_aload_n f 1 dX9_tell_95 rfl rfl ?_
      refine g_getI f fk_X9_54 v1 dX9_tell_96 rfl ?_
      refine g_iload_n f 3 dX9_tell_99 rfl rfl ?_
      obtain ⟨v9, h⟩ := h
      refine g_iast f v9 dX9_tell_100 h (fun h => ?_)
      refine g_aload_n f 1 dX9_tell_101 rfl rfl ?_
      refine g_getR f fk_X9_21 v1 dX9_tell_102 rfl h (fun t11 h => ?_)
      refine g_aload_n f 1 dX9_tell_105 rfl rfl ?_
      refine g_getI f fk_X9_54 v1 dX9_tell_106 rfl ?_
      refine g_iload_n f 4 dX9_tell_109 rfl rfl ?_
      obtain ⟨v12, h⟩ := h
      refine g_iast f v12 dX9_tell_110 h (fun h => ?_)
      refine g_aload_n f 1 dX9_tell_111 rfl rfl ?_
      refine g_getR f fk_X9_46 v1 dX9_tell_112 rfl h (fun t14 h => ?_)
      obtain ⟨v15, h⟩ := h
      refine g_getR f fk_X9_61 v15 dX9_tell_115 rfl h (fun t16 h => ?_)
      refine g_aload_n f 1 dX9_tell_118 rfl rfl ?_
      refine g_getI f fk_X9_54 v1 dX9_tell_119 rfl ?_
      refine g_iload f 5 dX9_tell_122 rfl ?_
      obtain ⟨v17, h⟩ := h
      refine g_iast f v17 dX9_tell_124 h (fun h => ?_)
      refine g_iconst f 0 dX9_tell_125 kc_0 ?_
      refine h_istore f dX9_tell_126 (by decide) ?_
      exact h_sub [2, 6, 0] rfl (tL_X9_tell_128 f hq h)
    · refine g_iconst f (-1) dX9_tell_64 kc_m1 ?_
      exact g_iret f hq (Nat.le_of_ble_eq_true rfl) (Nat.le_of_ble_eq_true rfl) dX9_tell_65 h
def S_X9_tell (o0 : Nat) (i1 : Int32) (i2 : Int32) (i3 : Int32) (i4 : Int32) (μ : Me) (Q : Int32 → Me → Prop) : Prop := ((i1 < 0 → B_X9_tell_48 o0 i1 i2 i3 i4 0 μ Q) ∧ (¬ i1 < 0 → ((4 ≤ i1 → B_X9_tell_48 o0 i1 i2 i3 i4 0 μ Q) ∧ (¬ 4 ≤ i1 → ((i2 < 1 → B_X9_tell_48 o0 i1 i2 i3 i4 0 μ Q) ∧ (¬ i2 < 1 → ((99 < i2 → B_X9_tell_48 o0 i1 i2 i3 i4 0 μ Q) ∧ (¬ 99 < i2 → ((i3 < 1 → B_X9_tell_48 o0 i1 i2 i3 i4 0 μ Q) ∧ (¬ i3 < 1 → ((99 < i3 → B_X9_tell_48 o0 i1 i2 i3 i4 0 μ Q) ∧ (¬ 99 < i3 → ((i4 < 0 → B_X9_tell_48 o0 i1 i2 i3 i4 0 μ Q) ∧ (¬ i4 < 0 → ((99 < i4 → B_X9_tell_48 o0 i1 i2 i3 i4 0 μ Q) ∧ (¬ 99 < i4 → B_X9_tell_48 o0 i1 i2 i3 i4 1 μ Q))))))))))))))))
set_option maxHeartbeats 4000000 in
set_option maxRecDepth 100000 in
theorem t_X9_tell {x : GX} (f : Fx x cX9_tell RX9 7 (rmc 1 0 0)) {o0 : Nat} {i1 : Int32} {i2 : Int32} {i3 : Int32} {i4 : Int32} {μ : Me} {Q : Int32 → Me → Prop} (hq : Rt x (some .int) (qI Q)) (h : S_X9_tell o0 i1 i2 i3 i4 μ Q) : G x 7 0 [(0, .ref (gB x + o0)), (1, .int i1), (2, .int i2), (3, .int i3), (4, .int i4)] [] μ 0 0 := by
  unfold S_X9_tell at h
  refine g_iload_n f 1 dX9_tell_0 rfl rfl ?_
  refine g_if_lt f 47 dX9_tell_1 rfl h (fun h => ?_) (fun h => ?_)
  · refine g_iconst f 0 dX9_tell_47 kc_0 ?_
    exact h_sub [0, 1, 2, 3, 4] rfl (tB_X9_tell_48 f hq h)
  · refine g_iload_n f 1 dX9_tell_4 rfl rfl ?_
    refine g_iconst f 4 dX9_tell_5 kc_4 ?_
    refine g_ic_ge f 47 dX9_tell_6 rfl h (fun h => ?_) (fun h => ?_)
    · refine g_iconst f 0 dX9_tell_47 kc_0 ?_
      exact h_sub [0, 1, 2, 3, 4] rfl (tB_X9_tell_48 f hq h)
    · refine g_iload_n f 2 dX9_tell_9 rfl rfl ?_
      refine g_iconst f 1 dX9_tell_10 kc_1 ?_
      refine g_ic_lt f 47 dX9_tell_11 rfl h (fun h => ?_) (fun h => ?_)
      · refine g_iconst f 0 dX9_tell_47 kc_0 ?_
        exact h_sub [0, 1, 2, 3, 4] rfl (tB_X9_tell_48 f hq h)
      · refine g_iload_n f 2 dX9_tell_14 rfl rfl ?_
        refine g_bipush f 99 dX9_tell_15 kb_99 ?_
        refine g_ic_gt f 47 dX9_tell_17 rfl h (fun h => ?_) (fun h => ?_)
        · refine g_iconst f 0 dX9_tell_47 kc_0 ?_
          exact h_sub [0, 1, 2, 3, 4] rfl (tB_X9_tell_48 f hq h)
        · refine g_iload_n f 3 dX9_tell_20 rfl rfl ?_
          refine g_iconst f 1 dX9_tell_21 kc_1 ?_
          refine g_ic_lt f 47 dX9_tell_22 rfl h (fun h => ?_) (fun h => ?_)
          · refine g_iconst f 0 dX9_tell_47 kc_0 ?_
            exact h_sub [0, 1, 2, 3, 4] rfl (tB_X9_tell_48 f hq h)
          · refine g_iload_n f 3 dX9_tell_25 rfl rfl ?_
            refine g_bipush f 99 dX9_tell_26 kb_99 ?_
            refine g_ic_gt f 47 dX9_tell_28 rfl h (fun h => ?_) (fun h => ?_)
            · refine g_iconst f 0 dX9_tell_47 kc_0 ?_
              exact h_sub [0, 1, 2, 3, 4] rfl (tB_X9_tell_48 f hq h)
            · refine g_iload f 4 dX9_tell_31 rfl ?_
              refine g_if_lt f 47 dX9_tell_33 rfl h (fun h => ?_) (fun h => ?_)
              · refine g_iconst f 0 dX9_tell_47 kc_0 ?_
                exact h_sub [0, 1, 2, 3, 4] rfl (tB_X9_tell_48 f hq h)
              · refine g_iload f 4 dX9_tell_36 rfl ?_
                refine g_bipush f 99 dX9_tell_38 kb_99 ?_
                refine g_ic_gt f 47 dX9_tell_40 rfl h (fun h => ?_) (fun h => ?_)
                · refine g_iconst f 0 dX9_tell_47 kc_0 ?_
                  exact h_sub [0, 1, 2, 3, 4] rfl (tB_X9_tell_48 f hq h)
                · refine g_iconst f 1 dX9_tell_43 kc_1 ?_
                  refine g_goto f 48 dX9_tell_44 rfl ?_
                  exact h_sub [0, 1, 2, 3, 4] rfl (tB_X9_tell_48 f hq h)
theorem c_X9_tell {Ω : OM} {o0 : Nat} {i1 : Int32} {i2 : Int32} {i3 : Int32} {i4 : Int32} {μ : Me} {Q : Int32 → Me → Prop} (h : S_X9_tell o0 i1 i2 i3 i4 μ Q) : CT Ω yX9_tell cX9_tell 7 (some .int) (rmc 1 0 0) [.ref (oB Ω + o0), .int i1, .int i2, .int i3, .int i4] μ (qI Q) := CT_of (by decide) rfl (by simp [lg_sl, Value.category]) (fun x hΩ f hq hi => by subst hΩ; exact t_X9_tell f hq h)
theorem dX1_playClause_0 : decode cX1_playClause 0 = .ok (.aload_n 1, 1) := by decide +kernel
theorem dX1_playClause_1 : decode cX1_playClause 1 = .ok (.iload_n 2, 1) := by decide +kernel
theorem dX1_playClause_2 : decode cX1_playClause 2 = .ok (.iconst 1, 1) := by decide +kernel
theorem dX1_playClause_3 : decode cX1_playClause 3 = .ok (.invokevirtual 90, 3) := by decide +kernel
theorem dX1_playClause_6 : decode cX1_playClause 6 = .ok (.istore_n 3, 1) := by decide +kernel
theorem dX1_playClause_7 : decode cX1_playClause 7 = .ok (.aload_n 1, 1) := by decide +kernel
theorem dX1_playClause_8 : decode cX1_playClause 8 = .ok (.iload_n 2, 1) := by decide +kernel
theorem dX1_playClause_9 : decode cX1_playClause 9 = .ok (.iconst 2, 1) := by decide +kernel
theorem dX1_playClause_10 : decode cX1_playClause 10 = .ok (.invokevirtual 90, 3) := by decide +kernel
theorem dX1_playClause_13 : decode cX1_playClause 13 = .ok (.istore 4, 2) := by decide +kernel
theorem dX1_playClause_15 : decode cX1_playClause 15 = .ok (.aload_n 1, 1) := by decide +kernel
theorem dX1_playClause_16 : decode cX1_playClause 16 = .ok (.iload_n 2, 1) := by decide +kernel
theorem dX1_playClause_17 : decode cX1_playClause 17 = .ok (.iconst 0, 1) := by decide +kernel
theorem dX1_playClause_18 : decode cX1_playClause 18 = .ok (.invokevirtual 90, 3) := by decide +kernel
theorem dX1_playClause_21 : decode cX1_playClause 21 = .ok (.tableswitch 133 2 7 #[39, 71, 85, 91, 77, 97], 39) := by decide +kernel
theorem dX1_playClause_60 : decode cX1_playClause 60 = .ok (.aload_n 0, 1) := by decide +kernel
theorem dX1_playClause_61 : decode cX1_playClause 61 = .ok (.getfield 18, 3) := by decide +kernel
theorem dX1_playClause_64 : decode cX1_playClause 64 = .ok (.iload_n 3, 1) := by decide +kernel
theorem dX1_playClause_65 : decode cX1_playClause 65 = .ok (.iload 4, 2) := by decide +kernel
theorem dX1_playClause_67 : decode cX1_playClause 67 = .ok (.aload_n 1, 1) := by decide +kernel
theorem dX1_playClause_68 : decode cX1_playClause 68 = .ok (.iload_n 2, 1) := by decide +kernel
theorem dX1_playClause_69 : decode cX1_playClause 69 = .ok (.iconst 3, 1) := by decide +kernel
theorem dX1_playClause_70 : decode cX1_playClause 70 = .ok (.invokevirtual 90, 3) := by decide +kernel
theorem dX1_playClause_73 : decode cX1_playClause 73 = .ok (.aload_n 1, 1) := by decide +kernel
theorem dX1_playClause_74 : decode cX1_playClause 74 = .ok (.iload_n 2, 1) := by decide +kernel
theorem dX1_playClause_75 : decode cX1_playClause 75 = .ok (.iconst 4, 1) := by decide +kernel
theorem dX1_playClause_76 : decode cX1_playClause 76 = .ok (.invokevirtual 90, 3) := by decide +kernel
theorem dX1_playClause_79 : decode cX1_playClause 79 = .ok (.invokevirtual 96, 3) := by decide +kernel
theorem dX1_playClause_82 : decode cX1_playClause 82 = .ok (.iconst (-1), 1) := by decide +kernel
theorem dX1_playClause_83 : decode cX1_playClause 83 = .ok (.if_icmp .eq 7, 3) := by decide +kernel
theorem dX1_playClause_86 : decode cX1_playClause 86 = .ok (.iconst 1, 1) := by decide +kernel
theorem dX1_playClause_87 : decode cX1_playClause 87 = .ok (.goto 4, 3) := by decide +kernel
theorem dX1_playClause_90 : decode cX1_playClause 90 = .ok (.iconst 0, 1) := by decide +kernel
theorem dX1_playClause_91 : decode cX1_playClause 91 = .ok (.ireturn, 1) := by decide +kernel
theorem dX1_playClause_92 : decode cX1_playClause 92 = .ok (.aload_n 0, 1) := by decide +kernel
theorem dX1_playClause_93 : decode cX1_playClause 93 = .ok (.iload_n 3, 1) := by decide +kernel
theorem dX1_playClause_94 : decode cX1_playClause 94 = .ok (.invokevirtual 100, 3) := by decide +kernel
theorem dX1_playClause_97 : decode cX1_playClause 97 = .ok (.ireturn, 1) := by decide +kernel
theorem dX1_playClause_98 : decode cX1_playClause 98 = .ok (.aload_n 0, 1) := by decide +kernel
theorem dX1_playClause_99 : decode cX1_playClause 99 = .ok (.iload 4, 2) := by decide +kernel
theorem dX1_playClause_101 : decode cX1_playClause 101 = .ok (.iload_n 3, 1) := by decide +kernel
theorem dX1_playClause_102 : decode cX1_playClause 102 = .ok (.invokevirtual 103, 3) := by decide +kernel
theorem dX1_playClause_105 : decode cX1_playClause 105 = .ok (.ireturn, 1) := by decide +kernel
theorem dX1_playClause_106 : decode cX1_playClause 106 = .ok (.aload_n 0, 1) := by decide +kernel
theorem dX1_playClause_107 : decode cX1_playClause 107 = .ok (.iload_n 3, 1) := by decide +kernel
theorem dX1_playClause_108 : decode cX1_playClause 108 = .ok (.invokevirtual 107, 3) := by decide +kernel
theorem dX1_playClause_111 : decode cX1_playClause 111 = .ok (.ireturn, 1) := by decide +kernel
theorem dX1_playClause_112 : decode cX1_playClause 112 = .ok (.aload_n 0, 1) := by decide +kernel
theorem dX1_playClause_113 : decode cX1_playClause 113 = .ok (.iload_n 3, 1) := by decide +kernel
theorem dX1_playClause_114 : decode cX1_playClause 114 = .ok (.invokevirtual 110, 3) := by decide +kernel
theorem dX1_playClause_117 : decode cX1_playClause 117 = .ok (.ireturn, 1) := by decide +kernel
theorem dX1_playClause_118 : decode cX1_playClause 118 = .ok (.iload_n 3, 1) := by decide +kernel
theorem dX1_playClause_119 : decode cX1_playClause 119 = .ok (.aload_n 0, 1) := by decide +kernel
theorem dX1_playClause_120 : decode cX1_playClause 120 = .ok (.invokevirtual 113, 3) := by decide +kernel
theorem dX1_playClause_123 : decode cX1_playClause 123 = .ok (.if_icmp .gt 7, 3) := by decide +kernel
theorem dX1_playClause_126 : decode cX1_playClause 126 = .ok (.iconst 1, 1) := by decide +kernel
theorem dX1_playClause_127 : decode cX1_playClause 127 = .ok (.goto 4, 3) := by decide +kernel
theorem dX1_playClause_130 : decode cX1_playClause 130 = .ok (.iconst 0, 1) := by decide +kernel
theorem dX1_playClause_131 : decode cX1_playClause 131 = .ok (.istore 5, 2) := by decide +kernel
theorem dX1_playClause_133 : decode cX1_playClause 133 = .ok (.aload_n 0, 1) := by decide +kernel
theorem dX1_playClause_134 : decode cX1_playClause 134 = .ok (.iload 5, 2) := by decide +kernel
theorem dX1_playClause_136 : decode cX1_playClause 136 = .ok (.ifCond .eq 7, 3) := by decide +kernel
theorem dX1_playClause_139 : decode cX1_playClause 139 = .ok (.iload_n 3, 1) := by decide +kernel
theorem dX1_playClause_140 : decode cX1_playClause 140 = .ok (.goto 7, 3) := by decide +kernel
theorem dX1_playClause_143 : decode cX1_playClause 143 = .ok (.aload_n 0, 1) := by decide +kernel
theorem dX1_playClause_144 : decode cX1_playClause 144 = .ok (.invokevirtual 113, 3) := by decide +kernel
theorem dX1_playClause_147 : decode cX1_playClause 147 = .ok (.invokevirtual 117, 3) := by decide +kernel
theorem dX1_playClause_150 : decode cX1_playClause 150 = .ok (.pop, 1) := by decide +kernel
theorem dX1_playClause_151 : decode cX1_playClause 151 = .ok (.iload 5, 2) := by decide +kernel
theorem dX1_playClause_153 : decode cX1_playClause 153 = .ok (.ireturn, 1) := by decide +kernel
theorem dX1_playClause_154 : decode cX1_playClause 154 = .ok (.iconst 1, 1) := by decide +kernel
theorem dX1_playClause_155 : decode cX1_playClause 155 = .ok (.ireturn, 1) := by decide +kernel
def B_X1_playClause_147 (i5 : Int32) (s0 : Int32) (s1 : Option Nat) (μ : Me) (Q : Int32 → Me → Prop) : Prop := ∃ t53, s1 = some t53 ∧ mok μ t53 1 ∧ S_X1_passDays t53 s0 μ (fun r59 μ57 => zb i5 ∧ Q i5 μ57)
set_option maxHeartbeats 4000000 in
set_option maxRecDepth 100000 in
theorem tB_X1_playClause_147 {x : GX} (f : Fx x cX1_playClause RX1 6 (rmc 6 0 0)) {i5 : Int32} {s0 : Int32} {s1 : Option Nat} {μ : Me} {Q : Int32 → Me → Prop} (hq : Rt x (some .boolean) (qI Q)) (h : B_X1_playClause_147 i5 s0 s1 μ Q) : G x 6 147 [(5, .int i5)] [.int s0, vr (gB x) s1] μ 0 0 := by
  unfold B_X1_playClause_147 at h
  obtain ⟨t53, e54, h55⟩ := h
  subst e54
  have h := h55
  obtain ⟨v56, h⟩ := h
  refine g_callV f mk_X1_117 v56 (c_X1_passDays h) dX1_playClause_147 rfl rfl (Nat.le_of_ble_eq_true rfl) (rm_ok (by decide) (by decide)) ⟨Nat.le_of_ble_eq_true rfl, Nat.le_of_ble_eq_true rfl⟩ (kI fun r59 μ57 x58 h => ?_)
  refine g_pop f dX1_playClause_150 rfl ?_
  refine g_iload f 0 dX1_playClause_151 rfl ?_
  exact g_zret f hq (Nat.le_of_ble_eq_true rfl) (Nat.le_of_ble_eq_true rfl) dX1_playClause_153 h.1.1 h.2
def B_X1_playClause_131 (o0 : Nat) (i3 : Int32) (s0 : Int32) (μ : Me) (Q : Int32 → Me → Prop) : Prop := ((s0 = 0 → mok μ o0 1 ∧ S_X1_daysThatCanPass o0 μ (fun r52 μ50 => B_X1_playClause_147 s0 r52 (some o0) μ50 Q)) ∧ (¬ s0 = 0 → B_X1_playClause_147 s0 i3 (some o0) μ Q))
set_option maxHeartbeats 4000000 in
set_option maxRecDepth 100000 in
theorem tB_X1_playClause_131 {x : GX} (f : Fx x cX1_playClause RX1 6 (rmc 6 0 0)) {o0 : Nat} {i3 : Int32} {s0 : Int32} {μ : Me} {Q : Int32 → Me → Prop} (hq : Rt x (some .boolean) (qI Q)) (h : B_X1_playClause_131 o0 i3 s0 μ Q) : G x 6 131 [(0, .ref (gB x + o0)), (3, .int i3)] [.int s0] μ 0 0 := by
  unfold B_X1_playClause_131 at h
  refine h_istore f dX1_playClause_131 (by decide) ?_
  refine g_aload_n f 1 dX1_playClause_133 rfl rfl ?_
  refine g_iload f 0 dX1_playClause_134 rfl ?_
  refine g_if_eq f 143 dX1_playClause_136 rfl h (fun h => ?_) (fun h => ?_)
  · refine g_aload_n f 1 dX1_playClause_143 rfl rfl ?_
    obtain ⟨v49, h⟩ := h
    refine g_callV f mk_X1_113 v49 (c_X1_daysThatCanPass h) dX1_playClause_144 rfl rfl (Nat.le_of_ble_eq_true rfl) (rm_ok (by decide) (by decide)) ⟨Nat.le_of_ble_eq_true rfl, Nat.le_of_ble_eq_true rfl⟩ (kI fun r52 μ50 x51 h => ?_)
    exact h_sub [0] rfl (tB_X1_playClause_147 f hq h)
  · refine g_iload_n f 2 dX1_playClause_139 rfl rfl ?_
    refine g_goto f 147 dX1_playClause_140 rfl ?_
    exact h_sub [0] rfl (tB_X1_playClause_147 f hq h)
def S_X1_playClause (o0 : Nat) (o1 : Nat) (i2 : Int32) (μ : Me) (Q : Int32 → Me → Prop) : Prop := mok μ o1 7 ∧ S_X7_numberOf o1 i2 1 μ (fun r4 μ2 => S_X7_numberOf o1 i2 2 μ2 (fun r7 μ5 => S_X7_numberOf o1 i2 0 μ5 (fun r10 μ8 => ((r10 = 2 → mok μ8 o0 1 ∧ ∃ t13, mgr μ8 o0 0 = some t13 ∧ S_X7_numberOf o1 i2 3 μ8 (fun r16 μ14 => S_X7_numberOf o1 i2 4 μ14 (fun r19 μ17 => mok μ17 t13 9 ∧ S_X9_tell t13 r4 r7 r16 r19 μ17 (fun r23 μ21 => ((r23 = (-1) → Q 0 μ21) ∧ (¬ r23 = (-1) → Q 1 μ21)))))) ∧ (¬ r10 = 2 → (r10 = 3 → mok μ8 o0 1 ∧ S_X1_ringFor o0 r4 μ8 (fun r28 μ26 => zb r28 ∧ Q r28 μ26)) ∧ (¬ r10 = 3 → (r10 = 4 → mok μ8 o0 1 ∧ S_X1_goToBed o0 r4 μ8 (fun r33 μ31 => zb r33 ∧ Q r33 μ31)) ∧ (¬ r10 = 4 → (r10 = 5 → mok μ8 o0 1 ∧ S_X1_getUp o0 r4 μ8 (fun r38 μ36 => zb r38 ∧ Q r38 μ36)) ∧ (¬ r10 = 5 → (r10 = 6 → mok μ8 o0 1 ∧ S_X1_putOff o0 r7 r4 μ8 (fun r43 μ41 => zb r43 ∧ Q r43 μ41)) ∧ (¬ r10 = 6 → (r10 = 7 → mok μ8 o0 1 ∧ S_X1_daysThatCanPass o0 μ8 (fun r48 μ46 => ((r48 < r4 → B_X1_playClause_131 o0 r4 0 μ46 Q) ∧ (¬ r48 < r4 → B_X1_playClause_131 o0 r4 1 μ46 Q)))) ∧ (¬ r10 = 7 → Q 1 μ8))))))))))
set_option maxHeartbeats 4000000 in
set_option maxRecDepth 100000 in
theorem t_X1_playClause {x : GX} (f : Fx x cX1_playClause RX1 6 (rmc 6 0 0)) {o0 : Nat} {o1 : Nat} {i2 : Int32} {μ : Me} {Q : Int32 → Me → Prop} (hq : Rt x (some .boolean) (qI Q)) (h : S_X1_playClause o0 o1 i2 μ Q) : G x 6 0 [(0, .ref (gB x + o0)), (1, .ref (gB x + o1)), (2, .int i2)] [] μ 0 0 := by
  unfold S_X1_playClause at h
  refine g_aload_n f 1 dX1_playClause_0 rfl rfl ?_
  refine g_iload_n f 2 dX1_playClause_1 rfl rfl ?_
  refine g_iconst f 1 dX1_playClause_2 kc_1 ?_
  obtain ⟨v1, h⟩ := h
  refine g_callV f mk_X1_90 v1 (c_X7_numberOf h) dX1_playClause_3 rfl rfl (Nat.le_of_ble_eq_true rfl) (rm_ok (by decide) (by decide)) ⟨Nat.le_of_ble_eq_true rfl, Nat.le_of_ble_eq_true rfl⟩ (kI fun r4 μ2 x3 h => ?_)
  refine h_istore_n f dX1_playClause_6 rfl (by decide) ?_
  refine g_aload_n f 2 dX1_playClause_7 rfl rfl ?_
  refine g_iload_n f 3 dX1_playClause_8 rfl rfl ?_
  refine g_iconst f 2 dX1_playClause_9 kc_2 ?_
  have v1 := mex_ok x3 v1
  refine g_callV f mk_X1_90 v1 (c_X7_numberOf h) dX1_playClause_10 rfl rfl (Nat.le_of_ble_eq_true rfl) (rm_ok (by decide) (by decide)) ⟨Nat.le_of_ble_eq_true rfl, Nat.le_of_ble_eq_true rfl⟩ (kI fun r7 μ5 x6 h => ?_)
  refine h_istore f dX1_playClause_13 (by decide) ?_
  refine g_aload_n f 3 dX1_playClause_15 rfl rfl ?_
  refine g_iload_n f 4 dX1_playClause_16 rfl rfl ?_
  refine g_iconst f 0 dX1_playClause_17 kc_0 ?_
  have v1 := mex_ok x6 v1
  refine g_callV f mk_X1_90 v1 (c_X7_numberOf h) dX1_playClause_18 rfl rfl (Nat.le_of_ble_eq_true rfl) (rm_ok (by decide) (by decide)) ⟨Nat.le_of_ble_eq_true rfl, Nat.le_of_ble_eq_true rfl⟩ (kI fun r10 μ8 x9 h => ?_)
  rcases dec_or h with ⟨e11, h⟩ | ⟨e11, h⟩
  · refine g_tableIn f 60 dX1_playClause_21 (by rw [e11] <;> decide) (by rw [e11] <;> decide) (by rw [e11] <;> rfl) rfl ?_
    refine g_aload_n f 2 dX1_playClause_60 rfl rfl ?_
    obtain ⟨v12, h⟩ := h
    refine g_getR f fk_X1_18 v12 dX1_playClause_61 rfl h (fun t13 h => ?_)
    refine g_iload_n f 1 dX1_playClause_64 rfl rfl ?_
    refine g_iload f 0 dX1_playClause_65 rfl ?_
    refine g_aload_n f 3 dX1_playClause_67 rfl rfl ?_
    refine g_iload_n f 4 dX1_playClause_68 rfl rfl ?_
    refine g_iconst f 3 dX1_playClause_69 kc_3 ?_
    have v1 := mex_ok x9 v1
    refine g_callV f mk_X1_90 v1 (c_X7_numberOf h) dX1_playClause_70 rfl rfl (Nat.le_of_ble_eq_true rfl) (rm_ok (by decide) (by decide)) ⟨Nat.le_of_ble_eq_true rfl, Nat.le_of_ble_eq_true rfl⟩ (kI fun r16 μ14 x15 h => ?_)
    refine g_aload_n f 3 dX1_playClause_73 rfl rfl ?_
    refine g_iload_n f 4 dX1_playClause_74 rfl rfl ?_
    refine g_iconst f 4 dX1_playClause_75 kc_4 ?_
    have v1 := mex_ok x15 v1
    refine g_callV f mk_X1_90 v1 (c_X7_numberOf h) dX1_playClause_76 rfl rfl (Nat.le_of_ble_eq_true rfl) (rm_ok (by decide) (by decide)) ⟨Nat.le_of_ble_eq_true rfl, Nat.le_of_ble_eq_true rfl⟩ (kI fun r19 μ17 x18 h => ?_)
    obtain ⟨v20, h⟩ := h
    refine g_callV f mk_X1_96 v20 (c_X9_tell h) dX1_playClause_79 rfl rfl (Nat.le_of_ble_eq_true rfl) (rm_ok (by decide) (by decide)) ⟨Nat.le_of_ble_eq_true rfl, Nat.le_of_ble_eq_true rfl⟩ (kI fun r23 μ21 x22 h => ?_)
    refine g_iconst f (-1) dX1_playClause_82 kc_m1 ?_
    refine g_ic_eq f 90 dX1_playClause_83 rfl h (fun h => ?_) (fun h => ?_)
    · refine g_iconst f 0 dX1_playClause_90 kc_0 ?_
      exact g_zret f hq (Nat.le_of_ble_eq_true rfl) (Nat.le_of_ble_eq_true rfl) dX1_playClause_91 zb_0.1 h
    · refine g_iconst f 1 dX1_playClause_86 kc_1 ?_
      refine g_goto f 91 dX1_playClause_87 rfl ?_
      exact g_zret f hq (Nat.le_of_ble_eq_true rfl) (Nat.le_of_ble_eq_true rfl) dX1_playClause_91 zb_1.1 h
  · skip
    rcases dec_or h with ⟨e24, h⟩ | ⟨e24, h⟩
    · refine g_tableIn f 92 dX1_playClause_21 (by rw [e24] <;> decide) (by rw [e24] <;> decide) (by rw [e24] <;> rfl) rfl ?_
      refine g_aload_n f 2 dX1_playClause_92 rfl rfl ?_
      refine g_iload_n f 1 dX1_playClause_93 rfl rfl ?_
      obtain ⟨v25, h⟩ := h
      refine g_callV f mk_X1_100 v25 (c_X1_ringFor h) dX1_playClause_94 rfl rfl (Nat.le_of_ble_eq_true rfl) (rm_ok (by decide) (by decide)) ⟨Nat.le_of_ble_eq_true rfl, Nat.le_of_ble_eq_true rfl⟩ (kI fun r28 μ26 x27 h => ?_)
      exact g_zret f hq (Nat.le_of_ble_eq_true rfl) (Nat.le_of_ble_eq_true rfl) dX1_playClause_97 h.1.1 h.2
    · skip
      rcases dec_or h with ⟨e29, h⟩ | ⟨e29, h⟩
      · refine g_tableIn f 106 dX1_playClause_21 (by rw [e29] <;> decide) (by rw [e29] <;> decide) (by rw [e29] <;> rfl) rfl ?_
        refine g_aload_n f 2 dX1_playClause_106 rfl rfl ?_
        refine g_iload_n f 1 dX1_playClause_107 rfl rfl ?_
        obtain ⟨v30, h⟩ := h
        refine g_callV f mk_X1_107 v30 (c_X1_goToBed h) dX1_playClause_108 rfl rfl (Nat.le_of_ble_eq_true rfl) (rm_ok (by decide) (by decide)) ⟨Nat.le_of_ble_eq_true rfl, Nat.le_of_ble_eq_true rfl⟩ (kI fun r33 μ31 x32 h => ?_)
        exact g_zret f hq (Nat.le_of_ble_eq_true rfl) (Nat.le_of_ble_eq_true rfl) dX1_playClause_111 h.1.1 h.2
      · skip
        rcases dec_or h with ⟨e34, h⟩ | ⟨e34, h⟩
        · refine g_tableIn f 112 dX1_playClause_21 (by rw [e34] <;> decide) (by rw [e34] <;> decide) (by rw [e34] <;> rfl) rfl ?_
          refine g_aload_n f 2 dX1_playClause_112 rfl rfl ?_
          refine g_iload_n f 1 dX1_playClause_113 rfl rfl ?_
          obtain ⟨v35, h⟩ := h
          refine g_callV f mk_X1_110 v35 (c_X1_getUp h) dX1_playClause_114 rfl rfl (Nat.le_of_ble_eq_true rfl) (rm_ok (by decide) (by decide)) ⟨Nat.le_of_ble_eq_true rfl, Nat.le_of_ble_eq_true rfl⟩ (kI fun r38 μ36 x37 h => ?_)
          exact g_zret f hq (Nat.le_of_ble_eq_true rfl) (Nat.le_of_ble_eq_true rfl) dX1_playClause_117 h.1.1 h.2
        · skip
          rcases dec_or h with ⟨e39, h⟩ | ⟨e39, h⟩
          · refine g_tableIn f 98 dX1_playClause_21 (by rw [e39] <;> decide) (by rw [e39] <;> decide) (by rw [e39] <;> rfl) rfl ?_
            refine g_aload_n f 2 dX1_playClause_98 rfl rfl ?_
            refine g_iload f 0 dX1_playClause_99 rfl ?_
            refine g_iload_n f 1 dX1_playClause_101 rfl rfl ?_
            obtain ⟨v40, h⟩ := h
            refine g_callV f mk_X1_103 v40 (c_X1_putOff h) dX1_playClause_102 rfl rfl (Nat.le_of_ble_eq_true rfl) (rm_ok (by decide) (by decide)) ⟨Nat.le_of_ble_eq_true rfl, Nat.le_of_ble_eq_true rfl⟩ (kI fun r43 μ41 x42 h => ?_)
            exact g_zret f hq (Nat.le_of_ble_eq_true rfl) (Nat.le_of_ble_eq_true rfl) dX1_playClause_105 h.1.1 h.2
          · skip
            rcases dec_or h with ⟨e44, h⟩ | ⟨e44, h⟩
            · refine g_tableIn f 118 dX1_playClause_21 (by rw [e44] <;> decide) (by rw [e44] <;> decide) (by rw [e44] <;> rfl) rfl ?_
              refine g_iload_n f 1 dX1_playClause_118 rfl rfl ?_
              refine g_aload_n f 2 dX1_playClause_119 rfl rfl ?_
              obtain ⟨v45, h⟩ := h
              refine g_callV f mk_X1_113 v45 (c_X1_daysThatCanPass h) dX1_playClause_120 rfl rfl (Nat.le_of_ble_eq_true rfl) (rm_ok (by decide) (by decide)) ⟨Nat.le_of_ble_eq_true rfl, Nat.le_of_ble_eq_true rfl⟩ (kI fun r48 μ46 x47 h => ?_)
              refine g_ic_gt f 130 dX1_playClause_123 rfl h (fun h => ?_) (fun h => ?_)
              · refine g_iconst f 0 dX1_playClause_130 kc_0 ?_
                exact h_sub [2, 1] rfl (tB_X1_playClause_131 f hq h)
              · refine g_iconst f 1 dX1_playClause_126 kc_1 ?_
                refine g_goto f 131 dX1_playClause_127 rfl ?_
                exact h_sub [2, 1] rfl (tB_X1_playClause_131 f hq h)
            · skip
              have e11 := lv_neT (a := 2) e11 (by decide)
              have e24 := lv_neT (a := 3) e24 (by decide)
              have e29 := lv_neT (a := 4) e29 (by decide)
              have e34 := lv_neT (a := 5) e34 (by decide)
              have e39 := lv_neT (a := 6) e39 (by decide)
              have e44 := lv_neT (a := 7) e44 (by decide)
              refine g_tableOut f 154 dX1_playClause_21 (by omega) rfl ?_
              refine g_iconst f 1 dX1_playClause_154 kc_1 ?_
              exact g_zret f hq (Nat.le_of_ble_eq_true rfl) (Nat.le_of_ble_eq_true rfl) dX1_playClause_155 zb_1.1 h
theorem c_X1_playClause {Ω : OM} {o0 : Nat} {o1 : Nat} {i2 : Int32} {μ : Me} {Q : Int32 → Me → Prop} (h : S_X1_playClause o0 o1 i2 μ Q) : CT Ω yX1_playClause cX1_playClause 6 (some .boolean) (rmc 6 0 0) [.ref (oB Ω + o0), .ref (oB Ω + o1), .int i2] μ (qI Q) := CT_of (by decide) rfl (by simp [lg_sl, Value.category]) (fun x hΩ f hq hi => by subst hΩ; exact t_X1_playClause f hq h)
theorem dX1_drawOne_0 : decode cX1_drawOne 0 = .ok (.iload_n 2, 1) := by decide +kernel
theorem dX1_drawOne_1 : decode cX1_drawOne 1 = .ok (.bipush 6, 2) := by decide +kernel
theorem dX1_drawOne_3 : decode cX1_drawOne 3 = .ok (.irem, 1) := by decide +kernel
theorem dX1_drawOne_4 : decode cX1_drawOne 4 = .ok (.istore_n 3, 1) := by decide +kernel
theorem dX1_drawOne_5 : decode cX1_drawOne 5 = .ok (.iload_n 3, 1) := by decide +kernel
theorem dX1_drawOne_6 : decode cX1_drawOne 6 = .ok (.iconst 4, 1) := by decide +kernel
theorem dX1_drawOne_7 : decode cX1_drawOne 7 = .ok (.if_icmp .lt 20, 3) := by decide +kernel
theorem dX1_drawOne_10 : decode cX1_drawOne 10 = .ok (.aload_n 1, 1) := by decide +kernel
theorem dX1_drawOne_11 : decode cX1_drawOne 11 = .ok (.getfield 52, 3) := by decide +kernel
theorem dX1_drawOne_14 : decode cX1_drawOne 14 = .ok (.sipush 9999, 3) := by decide +kernel
theorem dX1_drawOne_17 : decode cX1_drawOne 17 = .ok (.if_icmp .ge 9, 3) := by decide +kernel
theorem dX1_drawOne_20 : decode cX1_drawOne 20 = .ok (.aload_n 0, 1) := by decide +kernel
theorem dX1_drawOne_21 : decode cX1_drawOne 21 = .ok (.aload_n 1, 1) := by decide +kernel
theorem dX1_drawOne_22 : decode cX1_drawOne 22 = .ok (.invokevirtual 55, 3) := by decide +kernel
theorem dX1_drawOne_25 : decode cX1_drawOne 25 = .ok (.pop, 1) := by decide +kernel
theorem dX1_drawOne_26 : decode cX1_drawOne 26 = .ok (.return_, 1) := by decide +kernel
theorem dX1_drawOne_27 : decode cX1_drawOne 27 = .ok (.aload_n 0, 1) := by decide +kernel
theorem dX1_drawOne_28 : decode cX1_drawOne 28 = .ok (.getfield 18, 3) := by decide +kernel
theorem dX1_drawOne_31 : decode cX1_drawOne 31 = .ok (.getfield 124, 3) := by decide +kernel
theorem dX1_drawOne_34 : decode cX1_drawOne 34 = .ok (.ifCond .gt 4, 3) := by decide +kernel
theorem dX1_drawOne_37 : decode cX1_drawOne 37 = .ok (.return_, 1) := by decide +kernel
theorem dX1_drawOne_38 : decode cX1_drawOne 38 = .ok (.iload_n 2, 1) := by decide +kernel
theorem dX1_drawOne_39 : decode cX1_drawOne 39 = .ok (.aload_n 0, 1) := by decide +kernel
theorem dX1_drawOne_40 : decode cX1_drawOne 40 = .ok (.getfield 18, 3) := by decide +kernel
theorem dX1_drawOne_43 : decode cX1_drawOne 43 = .ok (.getfield 124, 3) := by decide +kernel
theorem dX1_drawOne_46 : decode cX1_drawOne 46 = .ok (.irem, 1) := by decide +kernel
theorem dX1_drawOne_47 : decode cX1_drawOne 47 = .ok (.istore 4, 2) := by decide +kernel
theorem dX1_drawOne_49 : decode cX1_drawOne 49 = .ok (.iload_n 3, 1) := by decide +kernel
theorem dX1_drawOne_50 : decode cX1_drawOne 50 = .ok (.tableswitch 70 0 2 #[26, 37, 54], 26) := by decide +kernel
theorem dX1_drawOne_76 : decode cX1_drawOne 76 = .ok (.aload_n 1, 1) := by decide +kernel
theorem dX1_drawOne_77 : decode cX1_drawOne 77 = .ok (.iconst 1, 1) := by decide +kernel
theorem dX1_drawOne_78 : decode cX1_drawOne 78 = .ok (.iload 4, 2) := by decide +kernel
theorem dX1_drawOne_80 : decode cX1_drawOne 80 = .ok (.ishl, 1) := by decide +kernel
theorem dX1_drawOne_81 : decode cX1_drawOne 81 = .ok (.putfield 38, 3) := by decide +kernel
theorem dX1_drawOne_84 : decode cX1_drawOne 84 = .ok (.goto 51, 3) := by decide +kernel
theorem dX1_drawOne_87 : decode cX1_drawOne 87 = .ok (.aload_n 1, 1) := by decide +kernel
theorem dX1_drawOne_88 : decode cX1_drawOne 88 = .ok (.getfield 45, 3) := by decide +kernel
theorem dX1_drawOne_91 : decode cX1_drawOne 91 = .ok (.iload 4, 2) := by decide +kernel
theorem dX1_drawOne_93 : decode cX1_drawOne 93 = .ok (.iload_n 2, 1) := by decide +kernel
theorem dX1_drawOne_94 : decode cX1_drawOne 94 = .ok (.bipush 6, 2) := by decide +kernel
theorem dX1_drawOne_96 : decode cX1_drawOne 96 = .ok (.idiv, 1) := by decide +kernel
theorem dX1_drawOne_97 : decode cX1_drawOne 97 = .ok (.bipush 100, 2) := by decide +kernel
theorem dX1_drawOne_99 : decode cX1_drawOne 99 = .ok (.irem, 1) := by decide +kernel
theorem dX1_drawOne_100 : decode cX1_drawOne 100 = .ok (.iastore, 1) := by decide +kernel
theorem dX1_drawOne_101 : decode cX1_drawOne 101 = .ok (.goto 34, 3) := by decide +kernel
theorem dX1_drawOne_104 : decode cX1_drawOne 104 = .ok (.aload_n 1, 1) := by decide +kernel
theorem dX1_drawOne_105 : decode cX1_drawOne 105 = .ok (.dup, 1) := by decide +kernel
theorem dX1_drawOne_106 : decode cX1_drawOne 106 = .ok (.getfield 49, 3) := by decide +kernel
theorem dX1_drawOne_109 : decode cX1_drawOne 109 = .ok (.iconst 1, 1) := by decide +kernel
theorem dX1_drawOne_110 : decode cX1_drawOne 110 = .ok (.iload 4, 2) := by decide +kernel
theorem dX1_drawOne_112 : decode cX1_drawOne 112 = .ok (.ishl, 1) := by decide +kernel
theorem dX1_drawOne_113 : decode cX1_drawOne 113 = .ok (.ior, 1) := by decide +kernel
theorem dX1_drawOne_114 : decode cX1_drawOne 114 = .ok (.putfield 49, 3) := by decide +kernel
theorem dX1_drawOne_117 : decode cX1_drawOne 117 = .ok (.goto 18, 3) := by decide +kernel
theorem dX1_drawOne_120 : decode cX1_drawOne 120 = .ok (.aload_n 1, 1) := by decide +kernel
theorem dX1_drawOne_121 : decode cX1_drawOne 121 = .ok (.dup, 1) := by decide +kernel
theorem dX1_drawOne_122 : decode cX1_drawOne 122 = .ok (.getfield 49, 3) := by decide +kernel
theorem dX1_drawOne_125 : decode cX1_drawOne 125 = .ok (.iconst 1, 1) := by decide +kernel
theorem dX1_drawOne_126 : decode cX1_drawOne 126 = .ok (.iload 4, 2) := by decide +kernel
theorem dX1_drawOne_128 : decode cX1_drawOne 128 = .ok (.ishl, 1) := by decide +kernel
theorem dX1_drawOne_129 : decode cX1_drawOne 129 = .ok (.iconst (-1), 1) := by decide +kernel
theorem dX1_drawOne_130 : decode cX1_drawOne 130 = .ok (.ixor, 1) := by decide +kernel
theorem dX1_drawOne_131 : decode cX1_drawOne 131 = .ok (.iand, 1) := by decide +kernel
theorem dX1_drawOne_132 : decode cX1_drawOne 132 = .ok (.putfield 49, 3) := by decide +kernel
theorem dX1_drawOne_135 : decode cX1_drawOne 135 = .ok (.return_, 1) := by decide +kernel
def S_X1_drawOne (o0 : Nat) (o1 : Nat) (i2 : Int32) (μ : Me) (Q : Me → Prop) : Prop := (((i2 - i2 / 6 * 6) < 4 → mok μ o0 1 ∧ ∃ t2, mgr μ o0 0 = some t2 ∧ mok μ t2 9 ∧ ((0 < (mgi μ t2 0) → ∃ t4, mgr μ o0 0 = some t4 ∧ mok μ t4 9 ∧ ¬ (mgi μ t4 0) = 0 ∧ (((i2 - i2 / 6 * 6) = 0 → mok μ o1 3 ∧ ∀ μ9, μ9 = msi μ o1 0 (1 <<< ((i2 - i2 / (mgi μ t4 0) * (mgi μ t4 0)) &&& 31)) → Q μ9) ∧ (¬ (i2 - i2 / 6 * 6) = 0 → ((i2 - i2 / 6 * 6) = 1 → mok μ o1 3 ∧ ∃ t12, mgr μ o1 5 = some t12 ∧ mok μ t12 12 ∧ vp_in (i2 - i2 / (mgi μ t4 0) * (mgi μ t4 0)) (mln μ t12) ∧ ∀ μ14, μ14 = msi μ t12 (i2 - i2 / (mgi μ t4 0) * (mgi μ t4 0)).toNatClampNeg ((i2 / 6) - (i2 / 6) / 100 * 100) → Q μ14) ∧ (¬ (i2 - i2 / 6 * 6) = 1 → ((i2 - i2 / 6 * 6) = 2 → mok μ o1 3 ∧ ∀ μ17, μ17 = msi μ o1 1 ((mgi μ o1 1) ||| (1 <<< ((i2 - i2 / (mgi μ t4 0) * (mgi μ t4 0)) &&& 31))) → Q μ17) ∧ (¬ (i2 - i2 / 6 * 6) = 2 → mok μ o1 3 ∧ ∀ μ19, μ19 = msi μ o1 1 ((mgi μ o1 1) &&& ((1 <<< ((i2 - i2 / (mgi μ t4 0) * (mgi μ t4 0)) &&& 31)) ^^^ (-1))) → Q μ19))))) ∧ (¬ 0 < (mgi μ t2 0) → Q μ))) ∧ (¬ (i2 - i2 / 6 * 6) < 4 → mok μ o1 3 ∧ ((9999 ≤ (mgi μ o1 3) → Q μ) ∧ (¬ 9999 ≤ (mgi μ o1 3) → mok μ o0 1 ∧ S_X1_passOne o0 o1 μ (fun r24 μ22 => Q μ22)))))
set_option maxHeartbeats 4000000 in
set_option maxRecDepth 100000 in
theorem t_X1_drawOne {x : GX} (f : Fx x cX1_drawOne RX1 5 (rmc 5 0 0)) {o0 : Nat} {o1 : Nat} {i2 : Int32} {μ : Me} {Q : Me → Prop} (hq : Rt x none (qV Q)) (h : S_X1_drawOne o0 o1 i2 μ Q) : G x 5 0 [(0, .ref (gB x + o0)), (1, .ref (gB x + o1)), (2, .int i2)] [] μ 0 0 := by
  unfold S_X1_drawOne at h
  refine g_iload_n f 2 dX1_drawOne_0 rfl rfl ?_
  refine g_bipush f 6 dX1_drawOne_1 kb_6 ?_
  refine g_irem f dX1_drawOne_3 (by decide) ?_
  refine h_istore_n f dX1_drawOne_4 rfl (by decide) ?_
  refine g_iload_n f 0 dX1_drawOne_5 rfl rfl ?_
  refine g_iconst f 4 dX1_drawOne_6 kc_4 ?_
  refine g_ic_lt f 27 dX1_drawOne_7 rfl h (fun h => ?_) (fun h => ?_)
  · refine g_aload_n f 1 dX1_drawOne_27 rfl rfl ?_
    obtain ⟨v1, h⟩ := h
    refine g_getR f fk_X1_18 v1 dX1_drawOne_28 rfl h (fun t2 h => ?_)
    obtain ⟨v3, h⟩ := h
    refine g_getI f fk_X1_124 v3 dX1_drawOne_31 rfl ?_
    refine g_if_gt f 38 dX1_drawOne_34 rfl h (fun h => ?_) (fun h => ?_)
    · refine g_iload_n f 3 dX1_drawOne_38 rfl rfl ?_
      refine g_aload_n f 1 dX1_drawOne_39 rfl rfl ?_
      refine g_getR f fk_X1_18 v1 dX1_drawOne_40 rfl h (fun t4 h => ?_)
      obtain ⟨v5, h⟩ := h
      refine g_getI f fk_X1_124 v5 dX1_drawOne_43 rfl ?_
      obtain ⟨z6, h⟩ := h
      refine g_irem f dX1_drawOne_46 z6 ?_
      refine h_istore f dX1_drawOne_47 (by decide) ?_
      refine g_iload_n f 1 dX1_drawOne_49 rfl rfl ?_
      rcases dec_or h with ⟨e7, h⟩ | ⟨e7, h⟩
      · refine g_tableIn f 76 dX1_drawOne_50 (by rw [e7] <;> decide) (by rw [e7] <;> decide) (by rw [e7] <;> rfl) rfl ?_
        refine g_aload_n f 3 dX1_drawOne_76 rfl rfl ?_
        refine g_iconst f 1 dX1_drawOne_77 kc_1 ?_
        refine g_iload f 0 dX1_drawOne_78 rfl ?_
        refine g_ishl f dX1_drawOne_80 ?_
        obtain ⟨v8, h⟩ := h
        refine g_putI f fk_X1_38 v8 dX1_drawOne_81 rfl h (fun h => ?_)
        refine g_goto f 135 dX1_drawOne_84 rfl ?_
        exact g_vret f hq (Nat.le_of_ble_eq_true rfl) (Nat.le_of_ble_eq_true rfl) dX1_drawOne_135 h
      · skip
        rcases dec_or h with ⟨e10, h⟩ | ⟨e10, h⟩
        · refine g_tableIn f 87 dX1_drawOne_50 (by rw [e10] <;> decide) (by rw [e10] <;> decide) (by rw [e10] <;> rfl) rfl ?_
          refine g_aload_n f 3 dX1_drawOne_87 rfl rfl ?_
          obtain ⟨v11, h⟩ := h
          refine g_getR f fk_X1_45 v11 dX1_drawOne_88 rfl h (fun t12 h => ?_)
          refine g_iload f 0 dX1_drawOne_91 rfl ?_
          refine g_iload_n f 4 dX1_drawOne_93 rfl rfl ?_
          refine g_bipush f 6 dX1_drawOne_94 kb_6 ?_
          refine g_idiv f dX1_drawOne_96 (by decide) ?_
          refine g_bipush f 100 dX1_drawOne_97 kb_100 ?_
          refine g_irem f dX1_drawOne_99 (by decide) ?_
          obtain ⟨v13, h⟩ := h
          refine g_iast f v13 dX1_drawOne_100 h (fun h => ?_)
          refine g_goto f 135 dX1_drawOne_101 rfl ?_
          exact g_vret f hq (Nat.le_of_ble_eq_true rfl) (Nat.le_of_ble_eq_true rfl) dX1_drawOne_135 h
        · skip
          rcases dec_or h with ⟨e15, h⟩ | ⟨e15, h⟩
          · refine g_tableIn f 104 dX1_drawOne_50 (by rw [e15] <;> decide) (by rw [e15] <;> decide) (by rw [e15] <;> rfl) rfl ?_
            refine g_aload_n f 3 dX1_drawOne_104 rfl rfl ?_
            refine g_dup f dX1_drawOne_105 rfl ?_
            obtain ⟨v16, h⟩ := h
            refine g_getI f fk_X1_49 v16 dX1_drawOne_106 rfl ?_
            refine g_iconst f 1 dX1_drawOne_109 kc_1 ?_
            refine g_iload f 0 dX1_drawOne_110 rfl ?_
            refine g_ishl f dX1_drawOne_112 ?_
            refine g_ior f dX1_drawOne_113 ?_
            refine g_putI f fk_X1_49 v16 dX1_drawOne_114 rfl h (fun h => ?_)
            refine g_goto f 135 dX1_drawOne_117 rfl ?_
            exact g_vret f hq (Nat.le_of_ble_eq_true rfl) (Nat.le_of_ble_eq_true rfl) dX1_drawOne_135 h
          · skip
            have e7 := lv_neT (a := 0) e7 (by decide)
            have e10 := lv_neT (a := 1) e10 (by decide)
            have e15 := lv_neT (a := 2) e15 (by decide)
            refine g_tableOut f 120 dX1_drawOne_50 (by omega) rfl ?_
            refine g_aload_n f 3 dX1_drawOne_120 rfl rfl ?_
            refine g_dup f dX1_drawOne_121 rfl ?_
            obtain ⟨v18, h⟩ := h
            refine g_getI f fk_X1_49 v18 dX1_drawOne_122 rfl ?_
            refine g_iconst f 1 dX1_drawOne_125 kc_1 ?_
            refine g_iload f 0 dX1_drawOne_126 rfl ?_
            refine g_ishl f dX1_drawOne_128 ?_
            refine g_iconst f (-1) dX1_drawOne_129 kc_m1 ?_
            refine g_ixor f dX1_drawOne_130 ?_
            refine g_iand f dX1_drawOne_131 ?_
            refine g_putI f fk_X1_49 v18 dX1_drawOne_132 rfl h (fun h => ?_)
            exact g_vret f hq (Nat.le_of_ble_eq_true rfl) (Nat.le_of_ble_eq_true rfl) dX1_drawOne_135 h
    · exact g_vret f hq (Nat.le_of_ble_eq_true rfl) (Nat.le_of_ble_eq_true rfl) dX1_drawOne_37 h
  · refine g_aload_n f 2 dX1_drawOne_10 rfl rfl ?_
    obtain ⟨v20, h⟩ := h
    refine g_getI f fk_X1_52 v20 dX1_drawOne_11 rfl ?_
    refine g_sipush f 9999 dX1_drawOne_14 ks_9999 ?_
    refine g_ic_ge f 26 dX1_drawOne_17 rfl h (fun h => ?_) (fun h => ?_)
    · exact g_vret f hq (Nat.le_of_ble_eq_true rfl) (Nat.le_of_ble_eq_true rfl) dX1_drawOne_26 h
    · refine g_aload_n f 1 dX1_drawOne_20 rfl rfl ?_
      refine g_aload_n f 2 dX1_drawOne_21 rfl rfl ?_
      obtain ⟨v21, h⟩ := h
      refine g_callV f mk_X1_55 v21 (c_X1_passOne h) dX1_drawOne_22 rfl rfl (Nat.le_of_ble_eq_true rfl) (rm_ok (by decide) (by decide)) ⟨Nat.le_of_ble_eq_true rfl, Nat.le_of_ble_eq_true rfl⟩ (kI fun r24 μ22 x23 h => ?_)
      refine g_pop f dX1_drawOne_25 rfl ?_
      exact g_vret f hq (Nat.le_of_ble_eq_true rfl) (Nat.le_of_ble_eq_true rfl) dX1_drawOne_26 h
theorem c_X1_drawOne {Ω : OM} {o0 : Nat} {o1 : Nat} {i2 : Int32} {μ : Me} {Q : Me → Prop} (h : S_X1_drawOne o0 o1 i2 μ Q) : CT Ω yX1_drawOne cX1_drawOne 5 none (rmc 5 0 0) [.ref (oB Ω + o0), .ref (oB Ω + o1), .int i2] μ (qV Q) := CT_of (by decide) rfl (by simp [lg_sl, Value.category]) (fun x hΩ f hq hi => by subst hΩ; exact t_X1_drawOne f hq h)
