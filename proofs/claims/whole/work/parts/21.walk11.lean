/-! contracts by program (wip/whole/gen.py) -/
theorem dX11_believes_0 : decode cX11_believes 0 = .ok (.aload_n 0, 1) := by decide +kernel
theorem dX11_believes_1 : decode cX11_believes 1 = .ok (.invokevirtual 395, 3) := by decide +kernel
theorem dX11_believes_4 : decode cX11_believes 4 = .ok (.istore_n 3, 1) := by decide +kernel
theorem dX11_believes_5 : decode cX11_believes 5 = .ok (.aload_n 0, 1) := by decide +kernel
theorem dX11_believes_6 : decode cX11_believes 6 = .ok (.iload_n 1, 1) := by decide +kernel
theorem dX11_believes_7 : decode cX11_believes 7 = .ok (.invokevirtual 335, 3) := by decide +kernel
theorem dX11_believes_10 : decode cX11_believes 10 = .ok (.ifCond .eq 7, 3) := by decide +kernel
theorem dX11_believes_13 : decode cX11_believes 13 = .ok (.iload_n 3, 1) := by decide +kernel
theorem dX11_believes_14 : decode cX11_believes 14 = .ok (.ifCond .ne 5, 3) := by decide +kernel
theorem dX11_believes_17 : decode cX11_believes 17 = .ok (.iconst (-1), 1) := by decide +kernel
theorem dX11_believes_18 : decode cX11_believes 18 = .ok (.ireturn, 1) := by decide +kernel
theorem dX11_believes_19 : decode cX11_believes 19 = .ok (.iconst 0, 1) := by decide +kernel
theorem dX11_believes_20 : decode cX11_believes 20 = .ok (.istore 4, 2) := by decide +kernel
theorem dX11_believes_22 : decode cX11_believes 22 = .ok (.iconst 0, 1) := by decide +kernel
theorem dX11_believes_23 : decode cX11_believes 23 = .ok (.istore 5, 2) := by decide +kernel
theorem dX11_believes_25 : decode cX11_believes 25 = .ok (.iload 5, 2) := by decide +kernel
theorem dX11_believes_27 : decode cX11_believes 27 = .ok (.iload_n 3, 1) := by decide +kernel
theorem dX11_believes_28 : decode cX11_believes 28 = .ok (.if_icmp .ge 25, 3) := by decide +kernel
theorem dX11_believes_31 : decode cX11_believes 31 = .ok (.iload 4, 2) := by decide +kernel
theorem dX11_believes_33 : decode cX11_believes 33 = .ok (.aload_n 0, 1) := by decide +kernel
theorem dX11_believes_34 : decode cX11_believes 34 = .ok (.getfield 56, 3) := by decide +kernel
theorem dX11_believes_37 : decode cX11_believes 37 = .ok (.iload 5, 2) := by decide +kernel
theorem dX11_believes_39 : decode cX11_believes 39 = .ok (.iaload, 1) := by decide +kernel
theorem dX11_believes_40 : decode cX11_believes 40 = .ok (.iload_n 1, 1) := by decide +kernel
theorem dX11_believes_41 : decode cX11_believes 41 = .ok (.ishr, 1) := by decide +kernel
theorem dX11_believes_42 : decode cX11_believes 42 = .ok (.iconst 1, 1) := by decide +kernel
theorem dX11_believes_43 : decode cX11_believes 43 = .ok (.iand, 1) := by decide +kernel
theorem dX11_believes_44 : decode cX11_believes 44 = .ok (.iadd, 1) := by decide +kernel
theorem dX11_believes_45 : decode cX11_believes 45 = .ok (.istore 4, 2) := by decide +kernel
theorem dX11_believes_47 : decode cX11_believes 47 = .ok (.iinc 5 1, 3) := by decide +kernel
theorem dX11_believes_50 : decode cX11_believes 50 = .ok (.goto (-25), 3) := by decide +kernel
theorem dX11_believes_53 : decode cX11_believes 53 = .ok (.iload_n 2, 1) := by decide +kernel
theorem dX11_believes_54 : decode cX11_believes 54 = .ok (.ifCond .eq 7, 3) := by decide +kernel
theorem dX11_believes_57 : decode cX11_believes 57 = .ok (.iload_n 3, 1) := by decide +kernel
theorem dX11_believes_58 : decode cX11_believes 58 = .ok (.goto 5, 3) := by decide +kernel
theorem dX11_believes_61 : decode cX11_believes 61 = .ok (.iload 4, 2) := by decide +kernel
theorem dX11_believes_63 : decode cX11_believes 63 = .ok (.iload 4, 2) := by decide +kernel
theorem dX11_believes_65 : decode cX11_believes 65 = .ok (.iload_n 3, 1) := by decide +kernel
theorem dX11_believes_66 : decode cX11_believes 66 = .ok (.invokestatic 398, 3) := by decide +kernel
theorem dX11_believes_69 : decode cX11_believes 69 = .ok (.idiv, 1) := by decide +kernel
theorem dX11_believes_70 : decode cX11_believes 70 = .ok (.ireturn, 1) := by decide +kernel
def B_X11_believes_63 (i3 : Int32) (i4 : Int32) (s0 : Int32) (μ : Me) (Q : Int32 → Me → Prop) : Prop := S_X11_divisor i4 i3 μ (fun r10 μ8 => ¬ r10 = 0 ∧ Q (s0 / r10) μ8)
set_option maxHeartbeats 4000000 in
set_option maxRecDepth 100000 in
theorem tB_X11_believes_63 {x : GX} (f : Fx x cX11_believes RX11 6 (rmc 8 0 0)) {i3 : Int32} {i4 : Int32} {s0 : Int32} {μ : Me} {Q : Int32 → Me → Prop} (hq : Rt x (some .int) (qI Q)) (h : B_X11_believes_63 i3 i4 s0 μ Q) : G x 6 63 [(3, .int i3), (4, .int i4)] [.int s0] μ 0 0 := by
  unfold B_X11_believes_63 at h
  refine g_iload f 1 dX11_believes_63 rfl ?_
  refine g_iload_n f 0 dX11_believes_65 rfl rfl ?_
  refine g_callS f mk_X11_398 (c_X11_divisor h) dX11_believes_66 rfl rfl (Nat.le_of_ble_eq_true rfl) (rm_ok (by decide) (by decide)) ⟨Nat.le_of_ble_eq_true rfl, Nat.le_of_ble_eq_true rfl⟩ (kI fun r10 μ8 x9 h => ?_)
  obtain ⟨z11, h⟩ := h
  refine g_idiv f dX11_believes_69 z11 ?_
  exact g_iret f hq (Nat.le_of_ble_eq_true rfl) (Nat.le_of_ble_eq_true rfl) dX11_believes_70 h
def B_X11_believes_25 (o0 : Nat) (i1 : Int32) (i2 : Int32) (i3 : Int32) (i4 : Int32) (i5 : Int32) (μ : Me) (K25 : Int32 → Int32 → Me → Prop) (Q : Int32 → Me → Prop) : Prop := ((i3 ≤ i5 → ((i2 = 0 → B_X11_believes_63 i3 i4 i4 μ Q) ∧ (¬ i2 = 0 → B_X11_believes_63 i3 i4 i3 μ Q))) ∧ (¬ i3 ≤ i5 → mok μ o0 11 ∧ ∃ t13, mgr μ o0 29 = some t13 ∧ mok μ t13 12 ∧ vp_in i5 (mln μ t13) ∧ K25 (i4 + (((mgi μ t13 i5.toNatClampNeg) >>> (i1 &&& 31)) &&& 1)) (i5 + 1) μ))
set_option maxHeartbeats 4000000 in
set_option maxRecDepth 100000 in
theorem tB_X11_believes_25 {x : GX} (f : Fx x cX11_believes RX11 6 (rmc 8 0 0)) {o0 : Nat} {i1 : Int32} {i2 : Int32} {i3 : Int32} {i4 : Int32} {i5 : Int32} {μ : Me} {Q : Int32 → Me → Prop} (hq : Rt x (some .int) (qI Q)) {K25 : Int32 → Int32 → Me → Prop} (hK25 : ∀ (a4 : Int32) (a5 : Int32) (ν : Me), K25 a4 a5 ν → G x 6 25 [(0, .ref (gB x + o0)), (1, .int i1), (2, .int i2), (3, .int i3), (4, .int a4), (5, .int a5)] [] ν 0 0) (h : B_X11_believes_25 o0 i1 i2 i3 i4 i5 μ K25 Q) : G x 6 25 [(0, .ref (gB x + o0)), (1, .int i1), (2, .int i2), (3, .int i3), (4, .int i4), (5, .int i5)] [] μ 0 0 := by
  unfold B_X11_believes_25 at h
  refine g_iload f 5 dX11_believes_25 rfl ?_
  refine g_iload_n f 3 dX11_believes_27 rfl rfl ?_
  refine g_ic_ge f 53 dX11_believes_28 rfl h (fun h => ?_) (fun h => ?_)
  · refine g_iload_n f 2 dX11_believes_53 rfl rfl ?_
    refine g_if_eq f 61 dX11_believes_54 rfl h (fun h => ?_) (fun h => ?_)
    · refine g_iload f 4 dX11_believes_61 rfl ?_
      exact h_sub [3, 4] rfl (tB_X11_believes_63 f hq h)
    · refine g_iload_n f 3 dX11_believes_57 rfl rfl ?_
      refine g_goto f 63 dX11_believes_58 rfl ?_
      exact h_sub [3, 4] rfl (tB_X11_believes_63 f hq h)
  · refine g_iload f 4 dX11_believes_31 rfl ?_
    refine g_aload_n f 0 dX11_believes_33 rfl rfl ?_
    obtain ⟨v12, h⟩ := h
    refine g_getR f fk_X11_56 v12 dX11_believes_34 rfl h (fun t13 h => ?_)
    refine g_iload f 5 dX11_believes_37 rfl ?_
    obtain ⟨v14, h⟩ := h
    refine g_iald f v14 dX11_believes_39 h (fun h => ?_)
    refine g_iload_n f 1 dX11_believes_40 rfl rfl ?_
    refine g_ishr f dX11_believes_41 ?_
    refine g_iconst f 1 dX11_believes_42 kc_1 ?_
    refine g_iand f dX11_believes_43 ?_
    refine g_iadd f dX11_believes_44 ?_
    refine h_istore f dX11_believes_45 (by decide) ?_
    refine h_iinc f 5 1 dX11_believes_47 rfl kc_1 (by decide) ?_
    refine g_goto f 25 dX11_believes_50 rfl ?_
    exact h_sub [2, 3, 4, 5, 1, 0] rfl (hK25 _ _ _ h)
def L_X11_believes_25 (o0 : Nat) (i1 : Int32) (i2 : Int32) (i3 : Int32) (i4 : Int32) (i5 : Int32) (μ : Me) (Q : Int32 → Me → Prop) : Prop := ∃ I : Int32 → Int32 → Me → Nat → Prop, (∃ n, I i4 i5 μ n) ∧ ∀ (i4 : Int32) (i5 : Int32) (μ : Me) (n : Nat), I i4 i5 μ n → B_X11_believes_25 o0 i1 i2 i3 i4 i5 μ (fun a4 a5 ν => ∃ n', n' < n ∧ I a4 a5 ν n') Q
set_option maxHeartbeats 4000000 in
set_option maxRecDepth 100000 in
theorem tL_X11_believes_25 {x : GX} (f : Fx x cX11_believes RX11 6 (rmc 8 0 0)) {o0 : Nat} {i1 : Int32} {i2 : Int32} {i3 : Int32} {i4 : Int32} {i5 : Int32} {μ : Me} {Q : Int32 → Me → Prop} (hq : Rt x (some .int) (qI Q)) (h : L_X11_believes_25 o0 i1 i2 i3 i4 i5 μ Q) : G x 6 25 [(0, .ref (gB x + o0)), (1, .int i1), (2, .int i2), (3, .int i3), (4, .int i4), (5, .int i5)] [] μ 0 0 := by
  obtain ⟨I, ⟨n, hI⟩, hs⟩ := h
  induction n using Nat.strongRecOn generalizing i4 i5 μ with
  | ind n ih => exact tB_X11_believes_25 f hq (fun a4 a5 ν hk => by obtain ⟨n2, hn, hI2⟩ := hk; exact ih n2 hn hI2) (hs _ _ _ _ hI)
def S_X11_believes (o0 : Nat) (i1 : Int32) (i2 : Int32) (μ : Me) (Q : Int32 → Me → Prop) : Prop := mok μ o0 11 ∧ S_X11_layDays o0 μ (fun r4 μ2 => S_X11_isPerson o0 i1 μ2 (fun r7 μ5 => ((r7 = 0 → Q (-1) μ5) ∧ (¬ r7 = 0 → ((¬ r4 = 0 → L_X11_believes_25 o0 i1 i2 r4 0 0 μ5 Q) ∧ (r4 = 0 → Q (-1) μ5))))))
set_option maxHeartbeats 4000000 in
set_option maxRecDepth 100000 in
theorem t_X11_believes {x : GX} (f : Fx x cX11_believes RX11 6 (rmc 8 0 0)) {o0 : Nat} {i1 : Int32} {i2 : Int32} {μ : Me} {Q : Int32 → Me → Prop} (hq : Rt x (some .int) (qI Q)) (h : S_X11_believes o0 i1 i2 μ Q) : G x 6 0 [(0, .ref (gB x + o0)), (1, .int i1), (2, .int i2)] [] μ 0 0 := by
  unfold S_X11_believes at h
  refine g_aload_n f 0 dX11_believes_0 rfl rfl ?_
  obtain ⟨v1, h⟩ := h
  refine g_callV f mk_X11_395 v1 (c_X11_layDays h) dX11_believes_1 rfl rfl (Nat.le_of_ble_eq_true rfl) (rm_ok (by decide) (by decide)) ⟨Nat.le_of_ble_eq_true rfl, Nat.le_of_ble_eq_true rfl⟩ (kI fun r4 μ2 x3 h => ?_)
  refine h_istore_n f dX11_believes_4 rfl (by decide) ?_
  refine g_aload_n f 1 dX11_believes_5 rfl rfl ?_
  refine g_iload_n f 2 dX11_believes_6 rfl rfl ?_
  have v1 := mex_ok x3 v1
  refine g_callV f mk_X11_335 v1 (c_X11_isPerson h) dX11_believes_7 rfl rfl (Nat.le_of_ble_eq_true rfl) (rm_ok (by decide) (by decide)) ⟨Nat.le_of_ble_eq_true rfl, Nat.le_of_ble_eq_true rfl⟩ (kI fun r7 μ5 x6 h => ?_)
  refine g_if_eq f 17 dX11_believes_10 rfl h (fun h => ?_) (fun h => ?_)
  · refine g_iconst f (-1) dX11_believes_17 kc_m1 ?_
    exact g_iret f hq (Nat.le_of_ble_eq_true rfl) (Nat.le_of_ble_eq_true rfl) dX11_believes_18 h
  · refine g_iload_n f 0 dX11_believes_13 rfl rfl ?_
    refine g_if_ne f 19 dX11_believes_14 rfl h (fun h => ?_) (fun h => ?_)
    · refine g_iconst f 0 dX11_believes_19 kc_0 ?_
      refine h_istore f dX11_believes_20 (by decide) ?_
      refine g_iconst f 0 dX11_believes_22 kc_0 ?_
      refine h_istore f dX11_believes_23 (by decide) ?_
      exact h_sub [3, 4, 5, 2, 1, 0] rfl (tL_X11_believes_25 f hq h)
    · refine g_iconst f (-1) dX11_believes_17 kc_m1 ?_
      exact g_iret f hq (Nat.le_of_ble_eq_true rfl) (Nat.le_of_ble_eq_true rfl) dX11_believes_18 h
theorem c_X11_believes {Ω : OM} {o0 : Nat} {i1 : Int32} {i2 : Int32} {μ : Me} {Q : Int32 → Me → Prop} (h : S_X11_believes o0 i1 i2 μ Q) : CT Ω yX11_believes cX11_believes 6 (some .int) (rmc 8 0 0) [.ref (oB Ω + o0), .int i1, .int i2] μ (qI Q) := CT_of (by decide) rfl (by simp [lg_sl, Value.category]) (fun x hΩ f hq hi => by subst hΩ; exact t_X11_believes f hq h)
theorem dX11_sure_0 : decode cX11_sure 0 = .ok (.aload_n 0, 1) := by decide +kernel
theorem dX11_sure_1 : decode cX11_sure 1 = .ok (.invokevirtual 395, 3) := by decide +kernel
theorem dX11_sure_4 : decode cX11_sure 4 = .ok (.istore_n 2, 1) := by decide +kernel
theorem dX11_sure_5 : decode cX11_sure 5 = .ok (.iload_n 2, 1) := by decide +kernel
theorem dX11_sure_6 : decode cX11_sure 6 = .ok (.ifCond .ne 5, 3) := by decide +kernel
theorem dX11_sure_9 : decode cX11_sure 9 = .ok (.iconst (-1), 1) := by decide +kernel
theorem dX11_sure_10 : decode cX11_sure 10 = .ok (.ireturn, 1) := by decide +kernel
theorem dX11_sure_11 : decode cX11_sure 11 = .ok (.aload_n 0, 1) := by decide +kernel
theorem dX11_sure_12 : decode cX11_sure 12 = .ok (.invokevirtual 70, 3) := by decide +kernel
theorem dX11_sure_15 : decode cX11_sure 15 = .ok (.istore_n 3, 1) := by decide +kernel
theorem dX11_sure_16 : decode cX11_sure 16 = .ok (.iconst 0, 1) := by decide +kernel
theorem dX11_sure_17 : decode cX11_sure 17 = .ok (.istore 4, 2) := by decide +kernel
theorem dX11_sure_19 : decode cX11_sure 19 = .ok (.iload 4, 2) := by decide +kernel
theorem dX11_sure_21 : decode cX11_sure 21 = .ok (.iload_n 2, 1) := by decide +kernel
theorem dX11_sure_22 : decode cX11_sure 22 = .ok (.if_icmp .ge 35, 3) := by decide +kernel
theorem dX11_sure_25 : decode cX11_sure 25 = .ok (.iload_n 3, 1) := by decide +kernel
theorem dX11_sure_26 : decode cX11_sure 26 = .ok (.iload_n 1, 1) := by decide +kernel
theorem dX11_sure_27 : decode cX11_sure 27 = .ok (.ifCond .eq 13, 3) := by decide +kernel
theorem dX11_sure_30 : decode cX11_sure 30 = .ok (.aload_n 0, 1) := by decide +kernel
theorem dX11_sure_31 : decode cX11_sure 31 = .ok (.getfield 56, 3) := by decide +kernel
theorem dX11_sure_34 : decode cX11_sure 34 = .ok (.iload 4, 2) := by decide +kernel
theorem dX11_sure_36 : decode cX11_sure 36 = .ok (.iaload, 1) := by decide +kernel
theorem dX11_sure_37 : decode cX11_sure 37 = .ok (.goto 12, 3) := by decide +kernel
theorem dX11_sure_40 : decode cX11_sure 40 = .ok (.aload_n 0, 1) := by decide +kernel
theorem dX11_sure_41 : decode cX11_sure 41 = .ok (.getfield 56, 3) := by decide +kernel
theorem dX11_sure_44 : decode cX11_sure 44 = .ok (.iload 4, 2) := by decide +kernel
theorem dX11_sure_46 : decode cX11_sure 46 = .ok (.iaload, 1) := by decide +kernel
theorem dX11_sure_47 : decode cX11_sure 47 = .ok (.iconst (-1), 1) := by decide +kernel
theorem dX11_sure_48 : decode cX11_sure 48 = .ok (.ixor, 1) := by decide +kernel
theorem dX11_sure_49 : decode cX11_sure 49 = .ok (.iand, 1) := by decide +kernel
theorem dX11_sure_50 : decode cX11_sure 50 = .ok (.istore_n 3, 1) := by decide +kernel
theorem dX11_sure_51 : decode cX11_sure 51 = .ok (.iinc 4 1, 3) := by decide +kernel
theorem dX11_sure_54 : decode cX11_sure 54 = .ok (.goto (-35), 3) := by decide +kernel
theorem dX11_sure_57 : decode cX11_sure 57 = .ok (.iload_n 3, 1) := by decide +kernel
theorem dX11_sure_58 : decode cX11_sure 58 = .ok (.ireturn, 1) := by decide +kernel
def B_X11_sure_49 (o0 : Nat) (i1 : Int32) (i2 : Int32) (i4 : Int32) (s0 : Int32) (s1 : Int32) (μ : Me) (K19 : Int32 → Int32 → Me → Prop) (Q : Int32 → Me → Prop) : Prop := K19 (s1 &&& s0) (i4 + 1) μ
set_option maxHeartbeats 4000000 in
set_option maxRecDepth 100000 in
theorem tB_X11_sure_49 {x : GX} (f : Fx x cX11_sure RX11 5 (rmc 8 0 0)) {o0 : Nat} {i1 : Int32} {i2 : Int32} {i4 : Int32} {s0 : Int32} {s1 : Int32} {μ : Me} {Q : Int32 → Me → Prop} (hq : Rt x (some .int) (qI Q)) {K19 : Int32 → Int32 → Me → Prop} (hK19 : ∀ (a3 : Int32) (a4 : Int32) (ν : Me), K19 a3 a4 ν → G x 5 19 [(0, .ref (gB x + o0)), (1, .int i1), (2, .int i2), (3, .int a3), (4, .int a4)] [] ν 0 0) (h : B_X11_sure_49 o0 i1 i2 i4 s0 s1 μ K19 Q) : G x 5 49 [(0, .ref (gB x + o0)), (1, .int i1), (2, .int i2), (4, .int i4)] [.int s0, .int s1] μ 0 0 := by
  unfold B_X11_sure_49 at h
  refine g_iand f dX11_sure_49 ?_
  refine h_istore_n f dX11_sure_50 rfl (by decide) ?_
  refine h_iinc f 4 1 dX11_sure_51 rfl kc_1 (by decide) ?_
  refine g_goto f 19 dX11_sure_54 rfl ?_
  exact h_sub [2, 3, 4, 1, 0] rfl (hK19 _ _ _ h)
def B_X11_sure_19 (o0 : Nat) (i1 : Int32) (i2 : Int32) (i3 : Int32) (i4 : Int32) (μ : Me) (K19 : Int32 → Int32 → Me → Prop) (Q : Int32 → Me → Prop) : Prop := ((i2 ≤ i4 → Q i3 μ) ∧ (¬ i2 ≤ i4 → ((i1 = 0 → mok μ o0 11 ∧ ∃ t9, mgr μ o0 29 = some t9 ∧ mok μ t9 12 ∧ vp_in i4 (mln μ t9) ∧ B_X11_sure_49 o0 i1 i2 i4 ((mgi μ t9 i4.toNatClampNeg) ^^^ (-1)) i3 μ K19 Q) ∧ (¬ i1 = 0 → mok μ o0 11 ∧ ∃ t12, mgr μ o0 29 = some t12 ∧ mok μ t12 12 ∧ vp_in i4 (mln μ t12) ∧ B_X11_sure_49 o0 i1 i2 i4 (mgi μ t12 i4.toNatClampNeg) i3 μ K19 Q))))
set_option maxHeartbeats 4000000 in
set_option maxRecDepth 100000 in
theorem tB_X11_sure_19 {x : GX} (f : Fx x cX11_sure RX11 5 (rmc 8 0 0)) {o0 : Nat} {i1 : Int32} {i2 : Int32} {i3 : Int32} {i4 : Int32} {μ : Me} {Q : Int32 → Me → Prop} (hq : Rt x (some .int) (qI Q)) {K19 : Int32 → Int32 → Me → Prop} (hK19 : ∀ (a3 : Int32) (a4 : Int32) (ν : Me), K19 a3 a4 ν → G x 5 19 [(0, .ref (gB x + o0)), (1, .int i1), (2, .int i2), (3, .int a3), (4, .int a4)] [] ν 0 0) (h : B_X11_sure_19 o0 i1 i2 i3 i4 μ K19 Q) : G x 5 19 [(0, .ref (gB x + o0)), (1, .int i1), (2, .int i2), (3, .int i3), (4, .int i4)] [] μ 0 0 := by
  unfold B_X11_sure_19 at h
  refine g_iload f 4 dX11_sure_19 rfl ?_
  refine g_iload_n f 2 dX11_sure_21 rfl rfl ?_
  refine g_ic_ge f 57 dX11_sure_22 rfl h (fun h => ?_) (fun h => ?_)
  · refine g_iload_n f 3 dX11_sure_57 rfl rfl ?_
    exact g_iret f hq (Nat.le_of_ble_eq_true rfl) (Nat.le_of_ble_eq_true rfl) dX11_sure_58 h
  · refine g_iload_n f 3 dX11_sure_25 rfl rfl ?_
    refine g_iload_n f 1 dX11_sure_26 rfl rfl ?_
    refine g_if_eq f 40 dX11_sure_27 rfl h (fun h => ?_) (fun h => ?_)
    · refine g_aload_n f 0 dX11_sure_40 rfl rfl ?_
      obtain ⟨v8, h⟩ := h
      refine g_getR f fk_X11_56 v8 dX11_sure_41 rfl h (fun t9 h => ?_)
      refine g_iload f 4 dX11_sure_44 rfl ?_
      obtain ⟨v10, h⟩ := h
      refine g_iald f v10 dX11_sure_46 h (fun h => ?_)
      refine g_iconst f (-1) dX11_sure_47 kc_m1 ?_
      refine g_ixor f dX11_sure_48 ?_
      exact h_sub [0, 1, 2, 4] rfl (tB_X11_sure_49 f hq hK19 h)
    · refine g_aload_n f 0 dX11_sure_30 rfl rfl ?_
      obtain ⟨v11, h⟩ := h
      refine g_getR f fk_X11_56 v11 dX11_sure_31 rfl h (fun t12 h => ?_)
      refine g_iload f 4 dX11_sure_34 rfl ?_
      obtain ⟨v13, h⟩ := h
      refine g_iald f v13 dX11_sure_36 h (fun h => ?_)
      refine g_goto f 49 dX11_sure_37 rfl ?_
      exact h_sub [0, 1, 2, 4] rfl (tB_X11_sure_49 f hq hK19 h)
def L_X11_sure_19 (o0 : Nat) (i1 : Int32) (i2 : Int32) (i3 : Int32) (i4 : Int32) (μ : Me) (Q : Int32 → Me → Prop) : Prop := ∃ I : Int32 → Int32 → Me → Nat → Prop, (∃ n, I i3 i4 μ n) ∧ ∀ (i3 : Int32) (i4 : Int32) (μ : Me) (n : Nat), I i3 i4 μ n → B_X11_sure_19 o0 i1 i2 i3 i4 μ (fun a3 a4 ν => ∃ n', n' < n ∧ I a3 a4 ν n') Q
set_option maxHeartbeats 4000000 in
set_option maxRecDepth 100000 in
theorem tL_X11_sure_19 {x : GX} (f : Fx x cX11_sure RX11 5 (rmc 8 0 0)) {o0 : Nat} {i1 : Int32} {i2 : Int32} {i3 : Int32} {i4 : Int32} {μ : Me} {Q : Int32 → Me → Prop} (hq : Rt x (some .int) (qI Q)) (h : L_X11_sure_19 o0 i1 i2 i3 i4 μ Q) : G x 5 19 [(0, .ref (gB x + o0)), (1, .int i1), (2, .int i2), (3, .int i3), (4, .int i4)] [] μ 0 0 := by
  obtain ⟨I, ⟨n, hI⟩, hs⟩ := h
  induction n using Nat.strongRecOn generalizing i3 i4 μ with
  | ind n ih => exact tB_X11_sure_19 f hq (fun a3 a4 ν hk => by obtain ⟨n2, hn, hI2⟩ := hk; exact ih n2 hn hI2) (hs _ _ _ _ hI)
def S_X11_sure (o0 : Nat) (i1 : Int32) (μ : Me) (Q : Int32 → Me → Prop) : Prop := mok μ o0 11 ∧ S_X11_layDays o0 μ (fun r4 μ2 => ((¬ r4 = 0 → S_X11_all o0 μ2 (fun r7 μ5 => L_X11_sure_19 o0 i1 r4 r7 0 μ5 Q)) ∧ (r4 = 0 → Q (-1) μ2)))
set_option maxHeartbeats 4000000 in
set_option maxRecDepth 100000 in
theorem t_X11_sure {x : GX} (f : Fx x cX11_sure RX11 5 (rmc 8 0 0)) {o0 : Nat} {i1 : Int32} {μ : Me} {Q : Int32 → Me → Prop} (hq : Rt x (some .int) (qI Q)) (h : S_X11_sure o0 i1 μ Q) : G x 5 0 [(0, .ref (gB x + o0)), (1, .int i1)] [] μ 0 0 := by
  unfold S_X11_sure at h
  refine g_aload_n f 0 dX11_sure_0 rfl rfl ?_
  obtain ⟨v1, h⟩ := h
  refine g_callV f mk_X11_395 v1 (c_X11_layDays h) dX11_sure_1 rfl rfl (Nat.le_of_ble_eq_true rfl) (rm_ok (by decide) (by decide)) ⟨Nat.le_of_ble_eq_true rfl, Nat.le_of_ble_eq_true rfl⟩ (kI fun r4 μ2 x3 h => ?_)
  refine h_istore_n f dX11_sure_4 rfl (by decide) ?_
  refine g_iload_n f 0 dX11_sure_5 rfl rfl ?_
  refine g_if_ne f 11 dX11_sure_6 rfl h (fun h => ?_) (fun h => ?_)
  · refine g_aload_n f 1 dX11_sure_11 rfl rfl ?_
    have v1 := mex_ok x3 v1
    refine g_callV f mk_X11_70 v1 (c_X11_all h) dX11_sure_12 rfl rfl (Nat.le_of_ble_eq_true rfl) (rm_ok (by decide) (by decide)) ⟨Nat.le_of_ble_eq_true rfl, Nat.le_of_ble_eq_true rfl⟩ (kI fun r7 μ5 x6 h => ?_)
    refine h_istore_n f dX11_sure_15 rfl (by decide) ?_
    refine g_iconst f 0 dX11_sure_16 kc_0 ?_
    refine h_istore f dX11_sure_17 (by decide) ?_
    exact h_sub [3, 4, 2, 1, 0] rfl (tL_X11_sure_19 f hq h)
  · refine g_iconst f (-1) dX11_sure_9 kc_m1 ?_
    exact g_iret f hq (Nat.le_of_ble_eq_true rfl) (Nat.le_of_ble_eq_true rfl) dX11_sure_10 h
theorem c_X11_sure {Ω : OM} {o0 : Nat} {i1 : Int32} {μ : Me} {Q : Int32 → Me → Prop} (h : S_X11_sure o0 i1 μ Q) : CT Ω yX11_sure cX11_sure 5 (some .int) (rmc 8 0 0) [.ref (oB Ω + o0), .int i1] μ (qI Q) := CT_of (by decide) rfl (by simp [lg_sl, Value.category]) (fun x hΩ f hq hi => by subst hΩ; exact t_X11_sure f hq h)
theorem dX11_asksBy_0 : decode cX11_asksBy 0 = .ok (.iconst 0, 1) := by decide +kernel
theorem dX11_asksBy_1 : decode cX11_asksBy 1 = .ok (.istore 4, 2) := by decide +kernel
theorem dX11_asksBy_3 : decode cX11_asksBy 3 = .ok (.iconst 0, 1) := by decide +kernel
theorem dX11_asksBy_4 : decode cX11_asksBy 4 = .ok (.istore 5, 2) := by decide +kernel
theorem dX11_asksBy_6 : decode cX11_asksBy 6 = .ok (.iload 5, 2) := by decide +kernel
theorem dX11_asksBy_8 : decode cX11_asksBy 8 = .ok (.iload_n 3, 1) := by decide +kernel
theorem dX11_asksBy_9 : decode cX11_asksBy 9 = .ok (.if_icmp .ge 45, 3) := by decide +kernel
theorem dX11_asksBy_12 : decode cX11_asksBy 12 = .ok (.iload 4, 2) := by decide +kernel
theorem dX11_asksBy_14 : decode cX11_asksBy 14 = .ok (.iload_n 1, 1) := by decide +kernel
theorem dX11_asksBy_15 : decode cX11_asksBy 15 = .ok (.iload 5, 2) := by decide +kernel
theorem dX11_asksBy_17 : decode cX11_asksBy 17 = .ok (.invokestatic 246, 3) := by decide +kernel
theorem dX11_asksBy_20 : decode cX11_asksBy 20 = .ok (.ifCond .eq 24, 3) := by decide +kernel
theorem dX11_asksBy_23 : decode cX11_asksBy 23 = .ok (.aload_n 0, 1) := by decide +kernel
theorem dX11_asksBy_24 : decode cX11_asksBy 24 = .ok (.getfield 56, 3) := by decide +kernel
theorem dX11_asksBy_27 : decode cX11_asksBy 27 = .ok (.iload 5, 2) := by decide +kernel
theorem dX11_asksBy_29 : decode cX11_asksBy 29 = .ok (.iaload, 1) := by decide +kernel
theorem dX11_asksBy_30 : decode cX11_asksBy 30 = .ok (.iload_n 2, 1) := by decide +kernel
theorem dX11_asksBy_31 : decode cX11_asksBy 31 = .ok (.invokestatic 246, 3) := by decide +kernel
theorem dX11_asksBy_34 : decode cX11_asksBy 34 = .ok (.ifCond .eq 10, 3) := by decide +kernel
theorem dX11_asksBy_37 : decode cX11_asksBy 37 = .ok (.iconst 1, 1) := by decide +kernel
theorem dX11_asksBy_38 : decode cX11_asksBy 38 = .ok (.iload 5, 2) := by decide +kernel
theorem dX11_asksBy_40 : decode cX11_asksBy 40 = .ok (.ishl, 1) := by decide +kernel
theorem dX11_asksBy_41 : decode cX11_asksBy 41 = .ok (.goto 4, 3) := by decide +kernel
theorem dX11_asksBy_44 : decode cX11_asksBy 44 = .ok (.iconst 0, 1) := by decide +kernel
theorem dX11_asksBy_45 : decode cX11_asksBy 45 = .ok (.ior, 1) := by decide +kernel
theorem dX11_asksBy_46 : decode cX11_asksBy 46 = .ok (.istore 4, 2) := by decide +kernel
theorem dX11_asksBy_48 : decode cX11_asksBy 48 = .ok (.iinc 5 1, 3) := by decide +kernel
theorem dX11_asksBy_51 : decode cX11_asksBy 51 = .ok (.goto (-45), 3) := by decide +kernel
theorem dX11_asksBy_54 : decode cX11_asksBy 54 = .ok (.iload 4, 2) := by decide +kernel
theorem dX11_asksBy_56 : decode cX11_asksBy 56 = .ok (.ifCond .eq 9, 3) := by decide +kernel
theorem dX11_asksBy_59 : decode cX11_asksBy 59 = .ok (.iload 4, 2) := by decide +kernel
theorem dX11_asksBy_61 : decode cX11_asksBy 61 = .ok (.iload_n 1, 1) := by decide +kernel
theorem dX11_asksBy_62 : decode cX11_asksBy 62 = .ok (.if_icmp .ne 7, 3) := by decide +kernel
theorem dX11_asksBy_65 : decode cX11_asksBy 65 = .ok (.ldc_w 401, 3) := by decide +kernel
theorem dX11_asksBy_68 : decode cX11_asksBy 68 = .ok (.ireturn, 1) := by decide +kernel
theorem dX11_asksBy_69 : decode cX11_asksBy 69 = .ok (.iload_n 1, 1) := by decide +kernel
theorem dX11_asksBy_70 : decode cX11_asksBy 70 = .ok (.iload 4, 2) := by decide +kernel
theorem dX11_asksBy_72 : decode cX11_asksBy 72 = .ok (.iconst (-1), 1) := by decide +kernel
theorem dX11_asksBy_73 : decode cX11_asksBy 73 = .ok (.ixor, 1) := by decide +kernel
theorem dX11_asksBy_74 : decode cX11_asksBy 74 = .ok (.iand, 1) := by decide +kernel
theorem dX11_asksBy_75 : decode cX11_asksBy 75 = .ok (.istore 5, 2) := by decide +kernel
theorem dX11_asksBy_77 : decode cX11_asksBy 77 = .ok (.iconst 1, 1) := by decide +kernel
theorem dX11_asksBy_78 : decode cX11_asksBy 78 = .ok (.aload_n 0, 1) := by decide +kernel
theorem dX11_asksBy_79 : decode cX11_asksBy 79 = .ok (.getfield 59, 3) := by decide +kernel
theorem dX11_asksBy_82 : decode cX11_asksBy 82 = .ok (.iload 4, 2) := by decide +kernel
theorem dX11_asksBy_84 : decode cX11_asksBy 84 = .ok (.iaload, 1) := by decide +kernel
theorem dX11_asksBy_85 : decode cX11_asksBy 85 = .ok (.aload_n 0, 1) := by decide +kernel
theorem dX11_asksBy_86 : decode cX11_asksBy 86 = .ok (.getfield 59, 3) := by decide +kernel
theorem dX11_asksBy_89 : decode cX11_asksBy 89 = .ok (.iload 5, 2) := by decide +kernel
theorem dX11_asksBy_91 : decode cX11_asksBy 91 = .ok (.iaload, 1) := by decide +kernel
theorem dX11_asksBy_92 : decode cX11_asksBy 92 = .ok (.if_icmp .le 13, 3) := by decide +kernel
theorem dX11_asksBy_95 : decode cX11_asksBy 95 = .ok (.aload_n 0, 1) := by decide +kernel
theorem dX11_asksBy_96 : decode cX11_asksBy 96 = .ok (.getfield 59, 3) := by decide +kernel
theorem dX11_asksBy_99 : decode cX11_asksBy 99 = .ok (.iload 4, 2) := by decide +kernel
theorem dX11_asksBy_101 : decode cX11_asksBy 101 = .ok (.iaload, 1) := by decide +kernel
theorem dX11_asksBy_102 : decode cX11_asksBy 102 = .ok (.goto 10, 3) := by decide +kernel
theorem dX11_asksBy_105 : decode cX11_asksBy 105 = .ok (.aload_n 0, 1) := by decide +kernel
theorem dX11_asksBy_106 : decode cX11_asksBy 106 = .ok (.getfield 59, 3) := by decide +kernel
theorem dX11_asksBy_109 : decode cX11_asksBy 109 = .ok (.iload 5, 2) := by decide +kernel
theorem dX11_asksBy_111 : decode cX11_asksBy 111 = .ok (.iaload, 1) := by decide +kernel
theorem dX11_asksBy_112 : decode cX11_asksBy 112 = .ok (.iadd, 1) := by decide +kernel
theorem dX11_asksBy_113 : decode cX11_asksBy 113 = .ok (.ireturn, 1) := by decide +kernel
def B_X11_asksBy_65 (μ : Me) (Q : Int32 → Me → Prop) : Prop := Q 1000000 μ
set_option maxHeartbeats 4000000 in
set_option maxRecDepth 100000 in
theorem tB_X11_asksBy_65 {x : GX} (f : Fx x cX11_asksBy RX11 6 (rmc 1 0 0)) {μ : Me} {Q : Int32 → Me → Prop} (hq : Rt x (some .int) (qI Q)) (h : B_X11_asksBy_65 μ Q) : G x 6 65 [] [] μ 0 0 := by
  unfold B_X11_asksBy_65 at h
  refine g_ldcw f w_1962 dX11_asksBy_65 ?_
  exact g_iret f hq (Nat.le_of_ble_eq_true rfl) (Nat.le_of_ble_eq_true rfl) dX11_asksBy_68 h
def B_X11_asksBy_112 (s0 : Int32) (s1 : Int32) (μ : Me) (Q : Int32 → Me → Prop) : Prop := Q (s1 + s0) μ
set_option maxHeartbeats 4000000 in
set_option maxRecDepth 100000 in
theorem tB_X11_asksBy_112 {x : GX} (f : Fx x cX11_asksBy RX11 6 (rmc 1 0 0)) {s0 : Int32} {s1 : Int32} {μ : Me} {Q : Int32 → Me → Prop} (hq : Rt x (some .int) (qI Q)) (h : B_X11_asksBy_112 s0 s1 μ Q) : G x 6 112 [] [.int s0, .int s1] μ 0 0 := by
  unfold B_X11_asksBy_112 at h
  refine g_iadd f dX11_asksBy_112 ?_
  exact g_iret f hq (Nat.le_of_ble_eq_true rfl) (Nat.le_of_ble_eq_true rfl) dX11_asksBy_113 h
def B_X11_asksBy_45 (o0 : Nat) (i1 : Int32) (i2 : Int32) (i3 : Int32) (i5 : Int32) (s0 : Int32) (s1 : Int32) (μ : Me) (K6 : Int32 → Int32 → Me → Prop) (Q : Int32 → Me → Prop) : Prop := K6 (s1 ||| s0) (i5 + 1) μ
set_option maxHeartbeats 4000000 in
set_option maxRecDepth 100000 in
theorem tB_X11_asksBy_45 {x : GX} (f : Fx x cX11_asksBy RX11 6 (rmc 1 0 0)) {o0 : Nat} {i1 : Int32} {i2 : Int32} {i3 : Int32} {i5 : Int32} {s0 : Int32} {s1 : Int32} {μ : Me} {Q : Int32 → Me → Prop} (hq : Rt x (some .int) (qI Q)) {K6 : Int32 → Int32 → Me → Prop} (hK6 : ∀ (a4 : Int32) (a5 : Int32) (ν : Me), K6 a4 a5 ν → G x 6 6 [(0, .ref (gB x + o0)), (1, .int i1), (2, .int i2), (3, .int i3), (4, .int a4), (5, .int a5)] [] ν 0 0) (h : B_X11_asksBy_45 o0 i1 i2 i3 i5 s0 s1 μ K6 Q) : G x 6 45 [(0, .ref (gB x + o0)), (1, .int i1), (2, .int i2), (3, .int i3), (5, .int i5)] [.int s0, .int s1] μ 0 0 := by
  unfold B_X11_asksBy_45 at h
  refine g_ior f dX11_asksBy_45 ?_
  refine h_istore f dX11_asksBy_46 (by decide) ?_
  refine h_iinc f 5 1 dX11_asksBy_48 rfl kc_1 (by decide) ?_
  refine g_goto f 6 dX11_asksBy_51 rfl ?_
  exact h_sub [2, 3, 4, 5, 1, 0] rfl (hK6 _ _ _ h)
def B_X11_asksBy_6 (o0 : Nat) (i1 : Int32) (i2 : Int32) (i3 : Int32) (i4 : Int32) (i5 : Int32) (μ : Me) (K6 : Int32 → Int32 → Me → Prop) (Q : Int32 → Me → Prop) : Prop := ((i3 ≤ i5 → ((i4 = 0 → B_X11_asksBy_65 μ Q) ∧ (¬ i4 = 0 → ((¬ i4 = i1 → mok μ o0 11 ∧ ∃ t2, mgr μ o0 30 = some t2 ∧ mok μ t2 12 ∧ vp_in i4 (mln μ t2) ∧ ∃ t4, mgr μ o0 30 = some t4 ∧ mok μ t4 12 ∧ vp_in (i1 &&& (i4 ^^^ (-1))) (mln μ t4) ∧ (((mgi μ t2 i4.toNatClampNeg) ≤ (mgi μ t4 (i1 &&& (i4 ^^^ (-1))).toNatClampNeg) → ∃ t6, mgr μ o0 30 = some t6 ∧ mok μ t6 12 ∧ vp_in (i1 &&& (i4 ^^^ (-1))) (mln μ t6) ∧ B_X11_asksBy_112 (mgi μ t6 (i1 &&& (i4 ^^^ (-1))).toNatClampNeg) 1 μ Q) ∧ (¬ (mgi μ t2 i4.toNatClampNeg) ≤ (mgi μ t4 (i1 &&& (i4 ^^^ (-1))).toNatClampNeg) → ∃ t8, mgr μ o0 30 = some t8 ∧ mok μ t8 12 ∧ vp_in i4 (mln μ t8) ∧ B_X11_asksBy_112 (mgi μ t8 i4.toNatClampNeg) 1 μ Q))) ∧ (i4 = i1 → B_X11_asksBy_65 μ Q))))) ∧ (¬ i3 ≤ i5 → S_X11_has i1 i5 μ (fun r12 μ10 => ((r12 = 0 → B_X11_asksBy_45 o0 i1 i2 i3 i5 0 i4 μ10 K6 Q) ∧ (¬ r12 = 0 → mok μ10 o0 11 ∧ ∃ t14, mgr μ10 o0 29 = some t14 ∧ mok μ10 t14 12 ∧ vp_in i5 (mln μ10 t14) ∧ S_X11_has (mgi μ10 t14 i5.toNatClampNeg) i2 μ10 (fun r18 μ16 => ((r18 = 0 → B_X11_asksBy_45 o0 i1 i2 i3 i5 0 i4 μ16 K6 Q) ∧ (¬ r18 = 0 → B_X11_asksBy_45 o0 i1 i2 i3 i5 (1 <<< (i5 &&& 31)) i4 μ16 K6 Q))))))))
set_option maxHeartbeats 4000000 in
set_option maxRecDepth 100000 in
theorem tB_X11_asksBy_6 {x : GX} (f : Fx x cX11_asksBy RX11 6 (rmc 1 0 0)) {o0 : Nat} {i1 : Int32} {i2 : Int32} {i3 : Int32} {i4 : Int32} {i5 : Int32} {μ : Me} {Q : Int32 → Me → Prop} (hq : Rt x (some .int) (qI Q)) {K6 : Int32 → Int32 → Me → Prop} (hK6 : ∀ (a4 : Int32) (a5 : Int32) (ν : Me), K6 a4 a5 ν → G x 6 6 [(0, .ref (gB x + o0)), (1, .int i1), (2, .int i2), (3, .int i3), (4, .int a4), (5, .int a5)] [] ν 0 0) (h : B_X11_asksBy_6 o0 i1 i2 i3 i4 i5 μ K6 Q) : G x 6 6 [(0, .ref (gB x + o0)), (1, .int i1), (2, .int i2), (3, .int i3), (4, .int i4), (5, .int i5)] [] μ 0 0 := by
  unfold B_X11_asksBy_6 at h
  refine g_iload f 5 dX11_asksBy_6 rfl ?_
  refine g_iload_n f 3 dX11_asksBy_8 rfl rfl ?_
  refine g_ic_ge f 54 dX11_asksBy_9 rfl h (fun h => ?_) (fun h => ?_)
  · refine g_iload f 4 dX11_asksBy_54 rfl ?_
    refine g_if_eq f 65 dX11_asksBy_56 rfl h (fun h => ?_) (fun h => ?_)
    · exact h_sub [] rfl (tB_X11_asksBy_65 f hq h)
    · refine g_iload f 4 dX11_asksBy_59 rfl ?_
      refine g_iload_n f 1 dX11_asksBy_61 rfl rfl ?_
      refine g_ic_ne f 69 dX11_asksBy_62 rfl h (fun h => ?_) (fun h => ?_)
      · refine g_iload_n f 1 dX11_asksBy_69 rfl rfl ?_
        refine g_iload f 4 dX11_asksBy_70 rfl ?_
        refine g_iconst f (-1) dX11_asksBy_72 kc_m1 ?_
        refine g_ixor f dX11_asksBy_73 ?_
        refine g_iand f dX11_asksBy_74 ?_
        refine h_istore f dX11_asksBy_75 (by decide) ?_
        refine g_iconst f 1 dX11_asksBy_77 kc_1 ?_
        refine g_aload_n f 1 dX11_asksBy_78 rfl rfl ?_
        obtain ⟨v1, h⟩ := h
        refine g_getR f fk_X11_59 v1 dX11_asksBy_79 rfl h (fun t2 h => ?_)
        refine g_iload f 5 dX11_asksBy_82 rfl ?_
        obtain ⟨v3, h⟩ := h
        refine g_iald f v3 dX11_asksBy_84 h (fun h => ?_)
        refine g_aload_n f 1 dX11_asksBy_85 rfl rfl ?_
        refine g_getR f fk_X11_59 v1 dX11_asksBy_86 rfl h (fun t4 h => ?_)
        refine g_iload f 0 dX11_asksBy_89 rfl ?_
        obtain ⟨v5, h⟩ := h
        refine g_iald f v5 dX11_asksBy_91 h (fun h => ?_)
        refine g_ic_le f 105 dX11_asksBy_92 rfl h (fun h => ?_) (fun h => ?_)
        · refine g_aload_n f 1 dX11_asksBy_105 rfl rfl ?_
          refine g_getR f fk_X11_59 v1 dX11_asksBy_106 rfl h (fun t6 h => ?_)
          refine g_iload f 0 dX11_asksBy_109 rfl ?_
          obtain ⟨v7, h⟩ := h
          refine g_iald f v7 dX11_asksBy_111 h (fun h => ?_)
          exact h_sub [] rfl (tB_X11_asksBy_112 f hq h)
        · refine g_aload_n f 1 dX11_asksBy_95 rfl rfl ?_
          refine g_getR f fk_X11_59 v1 dX11_asksBy_96 rfl h (fun t8 h => ?_)
          refine g_iload f 5 dX11_asksBy_99 rfl ?_
          obtain ⟨v9, h⟩ := h
          refine g_iald f v9 dX11_asksBy_101 h (fun h => ?_)
          refine g_goto f 112 dX11_asksBy_102 rfl ?_
          exact h_sub [] rfl (tB_X11_asksBy_112 f hq h)
      · exact h_sub [] rfl (tB_X11_asksBy_65 f hq h)
  · refine g_iload f 4 dX11_asksBy_12 rfl ?_
    refine g_iload_n f 1 dX11_asksBy_14 rfl rfl ?_
    refine g_iload f 5 dX11_asksBy_15 rfl ?_
    refine g_callS f mk_X11_246 (c_X11_has h) dX11_asksBy_17 rfl rfl (Nat.le_of_ble_eq_true rfl) (rm_ok (by decide) (by decide)) ⟨Nat.le_of_ble_eq_true rfl, Nat.le_of_ble_eq_true rfl⟩ (kI fun r12 μ10 x11 h => ?_)
    refine g_if_eq f 44 dX11_asksBy_20 rfl h (fun h => ?_) (fun h => ?_)
    · refine g_iconst f 0 dX11_asksBy_44 kc_0 ?_
      exact h_sub [0, 1, 2, 3, 5] rfl (tB_X11_asksBy_45 f hq hK6 h)
    · refine g_aload_n f 0 dX11_asksBy_23 rfl rfl ?_
      obtain ⟨v13, h⟩ := h
      refine g_getR f fk_X11_56 v13 dX11_asksBy_24 rfl h (fun t14 h => ?_)
      refine g_iload f 5 dX11_asksBy_27 rfl ?_
      obtain ⟨v15, h⟩ := h
      refine g_iald f v15 dX11_asksBy_29 h (fun h => ?_)
      refine g_iload_n f 2 dX11_asksBy_30 rfl rfl ?_
      refine g_callS f mk_X11_246 (c_X11_has h) dX11_asksBy_31 rfl rfl (Nat.le_of_ble_eq_true rfl) (rm_ok (by decide) (by decide)) ⟨Nat.le_of_ble_eq_true rfl, Nat.le_of_ble_eq_true rfl⟩ (kI fun r18 μ16 x17 h => ?_)
      refine g_if_eq f 44 dX11_asksBy_34 rfl h (fun h => ?_) (fun h => ?_)
      · refine g_iconst f 0 dX11_asksBy_44 kc_0 ?_
        exact h_sub [0, 1, 2, 3, 5] rfl (tB_X11_asksBy_45 f hq hK6 h)
      · refine g_iconst f 1 dX11_asksBy_37 kc_1 ?_
        refine g_iload f 5 dX11_asksBy_38 rfl ?_
        refine g_ishl f dX11_asksBy_40 ?_
        refine g_goto f 45 dX11_asksBy_41 rfl ?_
        exact h_sub [0, 1, 2, 3, 5] rfl (tB_X11_asksBy_45 f hq hK6 h)
def L_X11_asksBy_6 (o0 : Nat) (i1 : Int32) (i2 : Int32) (i3 : Int32) (i4 : Int32) (i5 : Int32) (μ : Me) (Q : Int32 → Me → Prop) : Prop := ∃ I : Int32 → Int32 → Me → Nat → Prop, (∃ n, I i4 i5 μ n) ∧ ∀ (i4 : Int32) (i5 : Int32) (μ : Me) (n : Nat), I i4 i5 μ n → B_X11_asksBy_6 o0 i1 i2 i3 i4 i5 μ (fun a4 a5 ν => ∃ n', n' < n ∧ I a4 a5 ν n') Q
set_option maxHeartbeats 4000000 in
set_option maxRecDepth 100000 in
theorem tL_X11_asksBy_6 {x : GX} (f : Fx x cX11_asksBy RX11 6 (rmc 1 0 0)) {o0 : Nat} {i1 : Int32} {i2 : Int32} {i3 : Int32} {i4 : Int32} {i5 : Int32} {μ : Me} {Q : Int32 → Me → Prop} (hq : Rt x (some .int) (qI Q)) (h : L_X11_asksBy_6 o0 i1 i2 i3 i4 i5 μ Q) : G x 6 6 [(0, .ref (gB x + o0)), (1, .int i1), (2, .int i2), (3, .int i3), (4, .int i4), (5, .int i5)] [] μ 0 0 := by
  obtain ⟨I, ⟨n, hI⟩, hs⟩ := h
  induction n using Nat.strongRecOn generalizing i4 i5 μ with
  | ind n ih => exact tB_X11_asksBy_6 f hq (fun a4 a5 ν hk => by obtain ⟨n2, hn, hI2⟩ := hk; exact ih n2 hn hI2) (hs _ _ _ _ hI)
def S_X11_asksBy (o0 : Nat) (i1 : Int32) (i2 : Int32) (i3 : Int32) (μ : Me) (Q : Int32 → Me → Prop) : Prop := L_X11_asksBy_6 o0 i1 i2 i3 0 0 μ Q
set_option maxHeartbeats 4000000 in
set_option maxRecDepth 100000 in
theorem t_X11_asksBy {x : GX} (f : Fx x cX11_asksBy RX11 6 (rmc 1 0 0)) {o0 : Nat} {i1 : Int32} {i2 : Int32} {i3 : Int32} {μ : Me} {Q : Int32 → Me → Prop} (hq : Rt x (some .int) (qI Q)) (h : S_X11_asksBy o0 i1 i2 i3 μ Q) : G x 6 0 [(0, .ref (gB x + o0)), (1, .int i1), (2, .int i2), (3, .int i3)] [] μ 0 0 := by
  unfold S_X11_asksBy at h
  refine g_iconst f 0 dX11_asksBy_0 kc_0 ?_
  refine h_istore f dX11_asksBy_1 (by decide) ?_
  refine g_iconst f 0 dX11_asksBy_3 kc_0 ?_
  refine h_istore f dX11_asksBy_4 (by decide) ?_
  exact h_sub [2, 3, 4, 5, 1, 0] rfl (tL_X11_asksBy_6 f hq h)
theorem c_X11_asksBy {Ω : OM} {o0 : Nat} {i1 : Int32} {i2 : Int32} {i3 : Int32} {μ : Me} {Q : Int32 → Me → Prop} (h : S_X11_asksBy o0 i1 i2 i3 μ Q) : CT Ω yX11_asksBy cX11_asksBy 6 (some .int) (rmc 1 0 0) [.ref (oB Ω + o0), .int i1, .int i2, .int i3] μ (qI Q) := CT_of (by decide) rfl (by simp [lg_sl, Value.category]) (fun x hΩ f hq hi => by subst hΩ; exact t_X11_asksBy f hq h)
theorem dX11_tells_0 : decode cX11_tells 0 = .ok (.aload_n 0, 1) := by decide +kernel
theorem dX11_tells_1 : decode cX11_tells 1 = .ok (.invokevirtual 395, 3) := by decide +kernel
theorem dX11_tells_4 : decode cX11_tells 4 = .ok (.istore_n 2, 1) := by decide +kernel
theorem dX11_tells_5 : decode cX11_tells 5 = .ok (.iload_n 1, 1) := by decide +kernel
theorem dX11_tells_6 : decode cX11_tells 6 = .ok (.iconst 0, 1) := by decide +kernel
theorem dX11_tells_7 : decode cX11_tells 7 = .ok (.iconst 1, 1) := by decide +kernel
theorem dX11_tells_8 : decode cX11_tells 8 = .ok (.invokestatic 66, 3) := by decide +kernel
theorem dX11_tells_11 : decode cX11_tells 11 = .ok (.ifCond .eq 9, 3) := by decide +kernel
theorem dX11_tells_14 : decode cX11_tells 14 = .ok (.iload_n 2, 1) := by decide +kernel
theorem dX11_tells_15 : decode cX11_tells 15 = .ok (.bipush 12, 2) := by decide +kernel
theorem dX11_tells_17 : decode cX11_tells 17 = .ok (.if_icmp .le 5, 3) := by decide +kernel
theorem dX11_tells_20 : decode cX11_tells 20 = .ok (.iconst (-1), 1) := by decide +kernel
theorem dX11_tells_21 : decode cX11_tells 21 = .ok (.ireturn, 1) := by decide +kernel
theorem dX11_tells_22 : decode cX11_tells 22 = .ok (.iload_n 2, 1) := by decide +kernel
theorem dX11_tells_23 : decode cX11_tells 23 = .ok (.iconst 2, 1) := by decide +kernel
theorem dX11_tells_24 : decode cX11_tells 24 = .ok (.if_icmp .ge 13, 3) := by decide +kernel
theorem dX11_tells_27 : decode cX11_tells 27 = .ok (.iload_n 1, 1) := by decide +kernel
theorem dX11_tells_28 : decode cX11_tells 28 = .ok (.ifCond .ne 7, 3) := by decide +kernel
theorem dX11_tells_31 : decode cX11_tells 31 = .ok (.iconst (-1), 1) := by decide +kernel
theorem dX11_tells_32 : decode cX11_tells 32 = .ok (.goto 4, 3) := by decide +kernel
theorem dX11_tells_35 : decode cX11_tells 35 = .ok (.iconst 0, 1) := by decide +kernel
theorem dX11_tells_36 : decode cX11_tells 36 = .ok (.ireturn, 1) := by decide +kernel
theorem dX11_tells_37 : decode cX11_tells 37 = .ok (.iconst (-1), 1) := by decide +kernel
theorem dX11_tells_38 : decode cX11_tells 38 = .ok (.istore_n 3, 1) := by decide +kernel
theorem dX11_tells_39 : decode cX11_tells 39 = .ok (.iconst 0, 1) := by decide +kernel
theorem dX11_tells_40 : decode cX11_tells 40 = .ok (.istore 4, 2) := by decide +kernel
theorem dX11_tells_42 : decode cX11_tells 42 = .ok (.iload 4, 2) := by decide +kernel
theorem dX11_tells_44 : decode cX11_tells 44 = .ok (.iconst 1, 1) := by decide +kernel
theorem dX11_tells_45 : decode cX11_tells 45 = .ok (.iload_n 2, 1) := by decide +kernel
theorem dX11_tells_46 : decode cX11_tells 46 = .ok (.ishl, 1) := by decide +kernel
theorem dX11_tells_47 : decode cX11_tells 47 = .ok (.if_icmp .ge 99, 3) := by decide +kernel
theorem dX11_tells_50 : decode cX11_tells 50 = .ok (.aload_n 0, 1) := by decide +kernel
theorem dX11_tells_51 : decode cX11_tells 51 = .ok (.getfield 59, 3) := by decide +kernel
theorem dX11_tells_54 : decode cX11_tells 54 = .ok (.iload 4, 2) := by decide +kernel
theorem dX11_tells_56 : decode cX11_tells 56 = .ok (.iload 4, 2) := by decide +kernel
theorem dX11_tells_58 : decode cX11_tells 58 = .ok (.invokestatic 298, 3) := by decide +kernel
theorem dX11_tells_61 : decode cX11_tells 61 = .ok (.iconst 2, 1) := by decide +kernel
theorem dX11_tells_62 : decode cX11_tells 62 = .ok (.if_icmp .ge 7, 3) := by decide +kernel
theorem dX11_tells_65 : decode cX11_tells 65 = .ok (.iconst 0, 1) := by decide +kernel
theorem dX11_tells_66 : decode cX11_tells 66 = .ok (.goto 6, 3) := by decide +kernel
theorem dX11_tells_69 : decode cX11_tells 69 = .ok (.ldc_w 401, 3) := by decide +kernel
theorem dX11_tells_72 : decode cX11_tells 72 = .ok (.iastore, 1) := by decide +kernel
theorem dX11_tells_73 : decode cX11_tells 73 = .ok (.iconst 0, 1) := by decide +kernel
theorem dX11_tells_74 : decode cX11_tells 74 = .ok (.istore 5, 2) := by decide +kernel
theorem dX11_tells_76 : decode cX11_tells 76 = .ok (.iload 5, 2) := by decide +kernel
theorem dX11_tells_78 : decode cX11_tells 78 = .ok (.aload_n 0, 1) := by decide +kernel
theorem dX11_tells_79 : decode cX11_tells 79 = .ok (.getfield 7, 3) := by decide +kernel
theorem dX11_tells_82 : decode cX11_tells 82 = .ok (.iconst 0, 1) := by decide +kernel
theorem dX11_tells_83 : decode cX11_tells 83 = .ok (.iaload, 1) := by decide +kernel
theorem dX11_tells_84 : decode cX11_tells 84 = .ok (.if_icmp .ge 56, 3) := by decide +kernel
theorem dX11_tells_87 : decode cX11_tells 87 = .ok (.iload 4, 2) := by decide +kernel
theorem dX11_tells_89 : decode cX11_tells 89 = .ok (.invokestatic 298, 3) := by decide +kernel
theorem dX11_tells_92 : decode cX11_tells 92 = .ok (.iconst 1, 1) := by decide +kernel
theorem dX11_tells_93 : decode cX11_tells 93 = .ok (.if_icmp .le 47, 3) := by decide +kernel
theorem dX11_tells_96 : decode cX11_tells 96 = .ok (.aload_n 0, 1) := by decide +kernel
theorem dX11_tells_97 : decode cX11_tells 97 = .ok (.iload 4, 2) := by decide +kernel
theorem dX11_tells_99 : decode cX11_tells 99 = .ok (.iload 5, 2) := by decide +kernel
theorem dX11_tells_101 : decode cX11_tells 101 = .ok (.iload_n 2, 1) := by decide +kernel
theorem dX11_tells_102 : decode cX11_tells 102 = .ok (.invokevirtual 402, 3) := by decide +kernel
theorem dX11_tells_105 : decode cX11_tells 105 = .ok (.istore 6, 2) := by decide +kernel
theorem dX11_tells_107 : decode cX11_tells 107 = .ok (.iload 6, 2) := by decide +kernel
theorem dX11_tells_109 : decode cX11_tells 109 = .ok (.aload_n 0, 1) := by decide +kernel
theorem dX11_tells_110 : decode cX11_tells 110 = .ok (.getfield 59, 3) := by decide +kernel
theorem dX11_tells_113 : decode cX11_tells 113 = .ok (.iload 4, 2) := by decide +kernel
theorem dX11_tells_115 : decode cX11_tells 115 = .ok (.iaload, 1) := by decide +kernel
theorem dX11_tells_116 : decode cX11_tells 116 = .ok (.if_icmp .lt 6, 3) := by decide +kernel
theorem dX11_tells_119 : decode cX11_tells 119 = .ok (.goto 15, 3) := by decide +kernel
theorem dX11_tells_122 : decode cX11_tells 122 = .ok (.aload_n 0, 1) := by decide +kernel
theorem dX11_tells_123 : decode cX11_tells 123 = .ok (.getfield 59, 3) := by decide +kernel
theorem dX11_tells_126 : decode cX11_tells 126 = .ok (.iload 4, 2) := by decide +kernel
theorem dX11_tells_128 : decode cX11_tells 128 = .ok (.iload 6, 2) := by decide +kernel
theorem dX11_tells_130 : decode cX11_tells 130 = .ok (.iastore, 1) := by decide +kernel
theorem dX11_tells_131 : decode cX11_tells 131 = .ok (.iload 5, 2) := by decide +kernel
theorem dX11_tells_133 : decode cX11_tells 133 = .ok (.istore_n 3, 1) := by decide +kernel
theorem dX11_tells_134 : decode cX11_tells 134 = .ok (.iinc 5 1, 3) := by decide +kernel
theorem dX11_tells_137 : decode cX11_tells 137 = .ok (.goto (-61), 3) := by decide +kernel
theorem dX11_tells_140 : decode cX11_tells 140 = .ok (.iinc 4 1, 3) := by decide +kernel
theorem dX11_tells_143 : decode cX11_tells 143 = .ok (.goto (-101), 3) := by decide +kernel
theorem dX11_tells_146 : decode cX11_tells 146 = .ok (.iload_n 1, 1) := by decide +kernel
theorem dX11_tells_147 : decode cX11_tells 147 = .ok (.ifCond .ne 7, 3) := by decide +kernel
theorem dX11_tells_150 : decode cX11_tells 150 = .ok (.iload_n 3, 1) := by decide +kernel
theorem dX11_tells_151 : decode cX11_tells 151 = .ok (.goto 13, 3) := by decide +kernel
theorem dX11_tells_154 : decode cX11_tells 154 = .ok (.aload_n 0, 1) := by decide +kernel
theorem dX11_tells_155 : decode cX11_tells 155 = .ok (.getfield 59, 3) := by decide +kernel
theorem dX11_tells_158 : decode cX11_tells 158 = .ok (.iconst 1, 1) := by decide +kernel
theorem dX11_tells_159 : decode cX11_tells 159 = .ok (.iload_n 2, 1) := by decide +kernel
theorem dX11_tells_160 : decode cX11_tells 160 = .ok (.ishl, 1) := by decide +kernel
theorem dX11_tells_161 : decode cX11_tells 161 = .ok (.iconst 1, 1) := by decide +kernel
theorem dX11_tells_162 : decode cX11_tells 162 = .ok (.isub, 1) := by decide +kernel
theorem dX11_tells_163 : decode cX11_tells 163 = .ok (.iaload, 1) := by decide +kernel
theorem dX11_tells_164 : decode cX11_tells 164 = .ok (.ireturn, 1) := by decide +kernel
def B_X11_tells_140 (o0 : Nat) (i1 : Int32) (i2 : Int32) (i3 : Int32) (i4 : Int32) (μ : Me) (K42 : Int32 → Int32 → Me → Prop) (Q : Int32 → Me → Prop) : Prop := K42 i3 (i4 + 1) μ
set_option maxHeartbeats 4000000 in
set_option maxRecDepth 100000 in
theorem tB_X11_tells_140 {x : GX} (f : Fx x cX11_tells RX11 7 (rmc 8 0 0)) {o0 : Nat} {i1 : Int32} {i2 : Int32} {i3 : Int32} {i4 : Int32} {μ : Me} {Q : Int32 → Me → Prop} (hq : Rt x (some .int) (qI Q)) {K42 : Int32 → Int32 → Me → Prop} (hK42 : ∀ (a3 : Int32) (a4 : Int32) (ν : Me), K42 a3 a4 ν → G x 7 42 [(0, .ref (gB x + o0)), (1, .int i1), (2, .int i2), (3, .int a3), (4, .int a4)] [] ν 0 0) (h : B_X11_tells_140 o0 i1 i2 i3 i4 μ K42 Q) : G x 7 140 [(0, .ref (gB x + o0)), (1, .int i1), (2, .int i2), (3, .int i3), (4, .int i4)] [] μ 0 0 := by
  unfold B_X11_tells_140 at h
  refine h_iinc f 4 1 dX11_tells_140 rfl kc_1 (by decide) ?_
  refine g_goto f 42 dX11_tells_143 rfl ?_
  exact h_sub [1, 2, 3, 4, 0] rfl (hK42 _ _ _ h)
def B_X11_tells_134 (o0 : Nat) (i1 : Int32) (i2 : Int32) (i3 : Int32) (i4 : Int32) (i5 : Int32) (μ : Me) (K42 : Int32 → Int32 → Me → Prop) (K76 : Int32 → Int32 → Me → Prop) (Q : Int32 → Me → Prop) : Prop := K76 i3 (i5 + 1) μ
set_option maxHeartbeats 4000000 in
set_option maxRecDepth 100000 in
theorem tB_X11_tells_134 {x : GX} (f : Fx x cX11_tells RX11 7 (rmc 8 0 0)) {o0 : Nat} {i1 : Int32} {i2 : Int32} {i3 : Int32} {i4 : Int32} {i5 : Int32} {μ : Me} {Q : Int32 → Me → Prop} (hq : Rt x (some .int) (qI Q)) {K42 : Int32 → Int32 → Me → Prop} {K76 : Int32 → Int32 → Me → Prop} (hK42 : ∀ (a3 : Int32) (a4 : Int32) (ν : Me), K42 a3 a4 ν → G x 7 42 [(0, .ref (gB x + o0)), (1, .int i1), (2, .int i2), (3, .int a3), (4, .int a4)] [] ν 0 0) (hK76 : ∀ (a3 : Int32) (a5 : Int32) (ν : Me), K76 a3 a5 ν → G x 7 76 [(0, .ref (gB x + o0)), (1, .int i1), (2, .int i2), (3, .int a3), (4, .int i4), (5, .int a5)] [] ν 0 0) (h : B_X11_tells_134 o0 i1 i2 i3 i4 i5 μ K42 K76 Q) : G x 7 134 [(0, .ref (gB x + o0)), (1, .int i1), (2, .int i2), (3, .int i3), (4, .int i4), (5, .int i5)] [] μ 0 0 := by
  unfold B_X11_tells_134 at h
  refine h_iinc f 5 1 dX11_tells_134 rfl kc_1 (by decide) ?_
  refine g_goto f 76 dX11_tells_137 rfl ?_
  exact h_sub [1, 2, 3, 4, 5, 0] rfl (hK76 _ _ _ h)
def B_X11_tells_76 (o0 : Nat) (i1 : Int32) (i2 : Int32) (i3 : Int32) (i4 : Int32) (i5 : Int32) (μ : Me) (K42 : Int32 → Int32 → Me → Prop) (K76 : Int32 → Int32 → Me → Prop) (Q : Int32 → Me → Prop) : Prop := mok μ o0 11 ∧ ∃ t22, mgr μ o0 0 = some t22 ∧ mok μ t22 12 ∧ vp_in (0 : Int32) (mln μ t22) ∧ (((mgi μ t22 (0 : Int32).toNatClampNeg) ≤ i5 → B_X11_tells_140 o0 i1 i2 i3 i4 μ K42 Q) ∧ (¬ (mgi μ t22 (0 : Int32).toNatClampNeg) ≤ i5 → S_X11_bits i4 μ (fun r26 μ24 => ((r26 ≤ 1 → B_X11_tells_140 o0 i1 i2 i3 i4 μ24 K42 Q) ∧ (¬ r26 ≤ 1 → S_X11_asksBy o0 i4 i5 i2 μ24 (fun r29 μ27 => ∃ t30, mgr μ27 o0 30 = some t30 ∧ mok μ27 t30 12 ∧ vp_in i4 (mln μ27 t30) ∧ ((r29 < (mgi μ27 t30 i4.toNatClampNeg) → ∃ t32, mgr μ27 o0 30 = some t32 ∧ mok μ27 t32 12 ∧ vp_in i4 (mln μ27 t32) ∧ ∀ μ34, μ34 = msi μ27 t32 i4.toNatClampNeg r29 → B_X11_tells_134 o0 i1 i2 i5 i4 i5 μ34 K42 K76 Q) ∧ (¬ r29 < (mgi μ27 t30 i4.toNatClampNeg) → B_X11_tells_134 o0 i1 i2 i3 i4 i5 μ27 K42 K76 Q))))))))
set_option maxHeartbeats 4000000 in
set_option maxRecDepth 100000 in
theorem tB_X11_tells_76 {x : GX} (f : Fx x cX11_tells RX11 7 (rmc 8 0 0)) {o0 : Nat} {i1 : Int32} {i2 : Int32} {i3 : Int32} {i4 : Int32} {i5 : Int32} {μ : Me} {Q : Int32 → Me → Prop} (hq : Rt x (some .int) (qI Q)) {K42 : Int32 → Int32 → Me → Prop} {K76 : Int32 → Int32 → Me → Prop} (hK42 : ∀ (a3 : Int32) (a4 : Int32) (ν : Me), K42 a3 a4 ν → G x 7 42 [(0, .ref (gB x + o0)), (1, .int i1), (2, .int i2), (3, .int a3), (4, .int a4)] [] ν 0 0) (hK76 : ∀ (a3 : Int32) (a5 : Int32) (ν : Me), K76 a3 a5 ν → G x 7 76 [(0, .ref (gB x + o0)), (1, .int i1), (2, .int i2), (3, .int a3), (4, .int i4), (5, .int a5)] [] ν 0 0) (h : B_X11_tells_76 o0 i1 i2 i3 i4 i5 μ K42 K76 Q) : G x 7 76 [(0, .ref (gB x + o0)), (1, .int i1), (2, .int i2), (3, .int i3), (4, .int i4), (5, .int i5)] [] μ 0 0 := by
  unfold B_X11_tells_76 at h
  refine g_iload f 5 dX11_tells_76 rfl ?_
  refine g_aload_n f 0 dX11_tells_78 rfl rfl ?_
  obtain ⟨v21, h⟩ := h
  refine g_getR f fk_X11_7 v21 dX11_tells_79 rfl h (fun t22 h => ?_)
  refine g_iconst f 0 dX11_tells_82 kc_0 ?_
  obtain ⟨v23, h⟩ := h
  refine g_iald f v23 dX11_tells_83 h (fun h => ?_)
  refine g_ic_ge f 140 dX11_tells_84 rfl h (fun h => ?_) (fun h => ?_)
  · exact h_sub [0, 1, 2, 3, 4] rfl (tB_X11_tells_140 f hq hK42 h)
  · refine g_iload f 4 dX11_tells_87 rfl ?_
    refine g_callS f mk_X11_298 (c_X11_bits h) dX11_tells_89 rfl rfl (Nat.le_of_ble_eq_true rfl) (rm_ok (by decide) (by decide)) ⟨Nat.le_of_ble_eq_true rfl, Nat.le_of_ble_eq_true rfl⟩ (kI fun r26 μ24 x25 h => ?_)
    refine g_iconst f 1 dX11_tells_92 kc_1 ?_
    refine g_ic_le f 140 dX11_tells_93 rfl h (fun h => ?_) (fun h => ?_)
    · exact h_sub [0, 1, 2, 3, 4] rfl (tB_X11_tells_140 f hq hK42 h)
    · refine g_aload_n f 0 dX11_tells_96 rfl rfl ?_
      refine g_iload f 4 dX11_tells_97 rfl ?_
      refine g_iload f 5 dX11_tells_99 rfl ?_
      refine g_iload_n f 2 dX11_tells_101 rfl rfl ?_
      have v21 := mex_ok x25 v21
      refine g_callV f mk_X11_402 v21 (c_X11_asksBy h) dX11_tells_102 rfl rfl (Nat.le_of_ble_eq_true rfl) (rm_ok (by decide) (by decide)) ⟨Nat.le_of_ble_eq_true rfl, Nat.le_of_ble_eq_true rfl⟩ (kI fun r29 μ27 x28 h => ?_)
      refine h_istore f dX11_tells_105 (by decide) ?_
      refine g_iload f 0 dX11_tells_107 rfl ?_
      refine g_aload_n f 1 dX11_tells_109 rfl rfl ?_
      have v21 := mex_ok x28 v21
      refine g_getR f fk_X11_59 v21 dX11_tells_110 rfl h (fun t30 h => ?_)
      refine g_iload f 5 dX11_tells_113 rfl ?_
      obtain ⟨v31, h⟩ := h
      refine g_iald f v31 dX11_tells_115 h (fun h => ?_)
      refine g_ic_lt f 122 dX11_tells_116 rfl h (fun h => ?_) (fun h => ?_)
      · refine g_aload_n f 1 dX11_tells_122 rfl rfl ?_
        refine g_getR f fk_X11_59 v21 dX11_tells_123 rfl h (fun t32 h => ?_)
        refine g_iload f 5 dX11_tells_126 rfl ?_
        refine g_iload f 0 dX11_tells_128 rfl ?_
        obtain ⟨v33, h⟩ := h
        refine g_iast f v33 dX11_tells_130 h (fun h => ?_)
        refine g_iload f 6 dX11_tells_131 rfl ?_
        refine h_istore_n f dX11_tells_133 rfl (by decide) ?_
        exact h_sub [2, 3, 4, 0, 5, 6] rfl (tB_X11_tells_134 f hq hK42 hK76 h)
      · refine g_goto f 134 dX11_tells_119 rfl ?_
        exact h_sub [1, 2, 3, 4, 5, 6] rfl (tB_X11_tells_134 f hq hK42 hK76 h)
def L_X11_tells_76 (o0 : Nat) (i1 : Int32) (i2 : Int32) (i3 : Int32) (i4 : Int32) (i5 : Int32) (μ : Me) (K42 : Int32 → Int32 → Me → Prop) (Q : Int32 → Me → Prop) : Prop := ∃ I : Int32 → Int32 → Me → Nat → Prop, (∃ n, I i3 i5 μ n) ∧ ∀ (i3 : Int32) (i5 : Int32) (μ : Me) (n : Nat), I i3 i5 μ n → B_X11_tells_76 o0 i1 i2 i3 i4 i5 μ K42 (fun a3 a5 ν => ∃ n', n' < n ∧ I a3 a5 ν n') Q
set_option maxHeartbeats 4000000 in
set_option maxRecDepth 100000 in
theorem tL_X11_tells_76 {x : GX} (f : Fx x cX11_tells RX11 7 (rmc 8 0 0)) {o0 : Nat} {i1 : Int32} {i2 : Int32} {i3 : Int32} {i4 : Int32} {i5 : Int32} {μ : Me} {Q : Int32 → Me → Prop} (hq : Rt x (some .int) (qI Q)) {K42 : Int32 → Int32 → Me → Prop} (hK42 : ∀ (a3 : Int32) (a4 : Int32) (ν : Me), K42 a3 a4 ν → G x 7 42 [(0, .ref (gB x + o0)), (1, .int i1), (2, .int i2), (3, .int a3), (4, .int a4)] [] ν 0 0) (h : L_X11_tells_76 o0 i1 i2 i3 i4 i5 μ K42 Q) : G x 7 76 [(0, .ref (gB x + o0)), (1, .int i1), (2, .int i2), (3, .int i3), (4, .int i4), (5, .int i5)] [] μ 0 0 := by
  obtain ⟨I, ⟨n, hI⟩, hs⟩ := h
  induction n using Nat.strongRecOn generalizing i3 i5 μ with
  | ind n ih => exact tB_X11_tells_76 f hq hK42 (fun a3 a5 ν hk => by obtain ⟨n2, hn, hI2⟩ := hk; exact ih n2 hn hI2) (hs _ _ _ _ hI)
def B_X11_tells_72 (o0 : Nat) (i1 : Int32) (i2 : Int32) (i3 : Int32) (i4 : Int32) (s0 : Int32) (s1 : Int32) (s2 : Option Nat) (μ : Me) (K42 : Int32 → Int32 → Me → Prop) (Q : Int32 → Me → Prop) : Prop := ∃ t16, s2 = some t16 ∧ mok μ t16 12 ∧ vp_in s1 (mln μ t16) ∧ ∀ μ20, μ20 = msi μ t16 s1.toNatClampNeg s0 → L_X11_tells_76 o0 i1 i2 i3 i4 0 μ20 K42 Q
set_option maxHeartbeats 4000000 in
set_option maxRecDepth 100000 in
theorem tB_X11_tells_72 {x : GX} (f : Fx x cX11_tells RX11 7 (rmc 8 0 0)) {o0 : Nat} {i1 : Int32} {i2 : Int32} {i3 : Int32} {i4 : Int32} {s0 : Int32} {s1 : Int32} {s2 : Option Nat} {μ : Me} {Q : Int32 → Me → Prop} (hq : Rt x (some .int) (qI Q)) {K42 : Int32 → Int32 → Me → Prop} (hK42 : ∀ (a3 : Int32) (a4 : Int32) (ν : Me), K42 a3 a4 ν → G x 7 42 [(0, .ref (gB x + o0)), (1, .int i1), (2, .int i2), (3, .int a3), (4, .int a4)] [] ν 0 0) (h : B_X11_tells_72 o0 i1 i2 i3 i4 s0 s1 s2 μ K42 Q) : G x 7 72 [(0, .ref (gB x + o0)), (1, .int i1), (2, .int i2), (3, .int i3), (4, .int i4)] [.int s0, .int s1, vr (gB x) s2] μ 0 0 := by
  unfold B_X11_tells_72 at h
  obtain ⟨t16, e17, h18⟩ := h
  subst e17
  have h := h18
  obtain ⟨v19, h⟩ := h
  refine g_iast f v19 dX11_tells_72 h (fun h => ?_)
  refine g_iconst f 0 dX11_tells_73 kc_0 ?_
  refine h_istore f dX11_tells_74 (by decide) ?_
  exact h_sub [1, 2, 3, 4, 5, 0] rfl (tL_X11_tells_76 f hq hK42 h)
def B_X11_tells_42 (o0 : Nat) (i1 : Int32) (i2 : Int32) (i3 : Int32) (i4 : Int32) (μ : Me) (K42 : Int32 → Int32 → Me → Prop) (Q : Int32 → Me → Prop) : Prop := (((1 <<< (i2 &&& 31)) ≤ i4 → ((¬ i1 = 0 → mok μ o0 11 ∧ ∃ t9, mgr μ o0 30 = some t9 ∧ mok μ t9 12 ∧ vp_in ((1 <<< (i2 &&& 31)) - 1) (mln μ t9) ∧ Q (mgi μ t9 ((1 <<< (i2 &&& 31)) - 1).toNatClampNeg) μ) ∧ (i1 = 0 → Q i3 μ))) ∧ (¬ (1 <<< (i2 &&& 31)) ≤ i4 → mok μ o0 11 ∧ ∃ t12, mgr μ o0 30 = some t12 ∧ S_X11_bits i4 μ (fun r15 μ13 => ((2 ≤ r15 → B_X11_tells_72 o0 i1 i2 i3 i4 1000000 i4 (some t12) μ13 K42 Q) ∧ (¬ 2 ≤ r15 → B_X11_tells_72 o0 i1 i2 i3 i4 0 i4 (some t12) μ13 K42 Q)))))
set_option maxHeartbeats 4000000 in
set_option maxRecDepth 100000 in
theorem tB_X11_tells_42 {x : GX} (f : Fx x cX11_tells RX11 7 (rmc 8 0 0)) {o0 : Nat} {i1 : Int32} {i2 : Int32} {i3 : Int32} {i4 : Int32} {μ : Me} {Q : Int32 → Me → Prop} (hq : Rt x (some .int) (qI Q)) {K42 : Int32 → Int32 → Me → Prop} (hK42 : ∀ (a3 : Int32) (a4 : Int32) (ν : Me), K42 a3 a4 ν → G x 7 42 [(0, .ref (gB x + o0)), (1, .int i1), (2, .int i2), (3, .int a3), (4, .int a4)] [] ν 0 0) (h : B_X11_tells_42 o0 i1 i2 i3 i4 μ K42 Q) : G x 7 42 [(0, .ref (gB x + o0)), (1, .int i1), (2, .int i2), (3, .int i3), (4, .int i4)] [] μ 0 0 := by
  unfold B_X11_tells_42 at h
  refine g_iload f 4 dX11_tells_42 rfl ?_
  refine g_iconst f 1 dX11_tells_44 kc_1 ?_
  refine g_iload_n f 2 dX11_tells_45 rfl rfl ?_
  refine g_ishl f dX11_tells_46 ?_
  refine g_ic_ge f 146 dX11_tells_47 rfl h (fun h => ?_) (fun h => ?_)
  · refine g_iload_n f 1 dX11_tells_146 rfl rfl ?_
    refine g_if_ne f 154 dX11_tells_147 rfl h (fun h => ?_) (fun h => ?_)
    · refine g_aload_n f 0 dX11_tells_154 rfl rfl ?_
      obtain ⟨v8, h⟩ := h
      refine g_getR f fk_X11_59 v8 dX11_tells_155 rfl h (fun t9 h => ?_)
      refine g_iconst f 1 dX11_tells_158 kc_1 ?_
      refine g_iload_n f 2 dX11_tells_159 rfl rfl ?_
      refine g_ishl f dX11_tells_160 ?_
      refine g_iconst f 1 dX11_tells_161 kc_1 ?_
      refine g_isub f dX11_tells_162 ?_
      obtain ⟨v10, h⟩ := h
      refine g_iald f v10 dX11_tells_163 h (fun h => ?_)
      exact g_iret f hq (Nat.le_of_ble_eq_true rfl) (Nat.le_of_ble_eq_true rfl) dX11_tells_164 h
    · refine g_iload_n f 3 dX11_tells_150 rfl rfl ?_
      refine g_goto f 164 dX11_tells_151 rfl ?_
      exact g_iret f hq (Nat.le_of_ble_eq_true rfl) (Nat.le_of_ble_eq_true rfl) dX11_tells_164 h
  · refine g_aload_n f 0 dX11_tells_50 rfl rfl ?_
    obtain ⟨v11, h⟩ := h
    refine g_getR f fk_X11_59 v11 dX11_tells_51 rfl h (fun t12 h => ?_)
    refine g_iload f 4 dX11_tells_54 rfl ?_
    refine g_iload f 4 dX11_tells_56 rfl ?_
    refine g_callS f mk_X11_298 (c_X11_bits h) dX11_tells_58 rfl rfl (Nat.le_of_ble_eq_true rfl) (rm_ok (by decide) (by decide)) ⟨Nat.le_of_ble_eq_true rfl, Nat.le_of_ble_eq_true rfl⟩ (kI fun r15 μ13 x14 h => ?_)
    refine g_iconst f 2 dX11_tells_61 kc_2 ?_
    refine g_ic_ge f 69 dX11_tells_62 rfl h (fun h => ?_) (fun h => ?_)
    · refine g_ldcw f w_1962 dX11_tells_69 ?_
      exact h_sub [0, 1, 2, 3, 4] rfl (tB_X11_tells_72 f hq hK42 h)
    · refine g_iconst f 0 dX11_tells_65 kc_0 ?_
      refine g_goto f 72 dX11_tells_66 rfl ?_
      exact h_sub [0, 1, 2, 3, 4] rfl (tB_X11_tells_72 f hq hK42 h)
def L_X11_tells_42 (o0 : Nat) (i1 : Int32) (i2 : Int32) (i3 : Int32) (i4 : Int32) (μ : Me) (Q : Int32 → Me → Prop) : Prop := ∃ I : Int32 → Int32 → Me → Nat → Prop, (∃ n, I i3 i4 μ n) ∧ ∀ (i3 : Int32) (i4 : Int32) (μ : Me) (n : Nat), I i3 i4 μ n → B_X11_tells_42 o0 i1 i2 i3 i4 μ (fun a3 a4 ν => ∃ n', n' < n ∧ I a3 a4 ν n') Q
set_option maxHeartbeats 4000000 in
set_option maxRecDepth 100000 in
theorem tL_X11_tells_42 {x : GX} (f : Fx x cX11_tells RX11 7 (rmc 8 0 0)) {o0 : Nat} {i1 : Int32} {i2 : Int32} {i3 : Int32} {i4 : Int32} {μ : Me} {Q : Int32 → Me → Prop} (hq : Rt x (some .int) (qI Q)) (h : L_X11_tells_42 o0 i1 i2 i3 i4 μ Q) : G x 7 42 [(0, .ref (gB x + o0)), (1, .int i1), (2, .int i2), (3, .int i3), (4, .int i4)] [] μ 0 0 := by
  obtain ⟨I, ⟨n, hI⟩, hs⟩ := h
  induction n using Nat.strongRecOn generalizing i3 i4 μ with
  | ind n ih => exact tB_X11_tells_42 f hq (fun a3 a4 ν hk => by obtain ⟨n2, hn, hI2⟩ := hk; exact ih n2 hn hI2) (hs _ _ _ _ hI)
def S_X11_tells (o0 : Nat) (i1 : Int32) (μ : Me) (Q : Int32 → Me → Prop) : Prop := mok μ o0 11 ∧ S_X11_layDays o0 μ (fun r4 μ2 => S_X11_isIn i1 0 1 μ2 (fun r7 μ5 => ((r7 = 0 → Q (-1) μ5) ∧ (¬ r7 = 0 → ((r4 ≤ 12 → ((2 ≤ r4 → L_X11_tells_42 o0 i1 r4 (-1) 0 μ5 Q) ∧ (¬ 2 ≤ r4 → ((¬ i1 = 0 → Q 0 μ5) ∧ (i1 = 0 → Q (-1) μ5))))) ∧ (¬ r4 ≤ 12 → Q (-1) μ5))))))
set_option maxHeartbeats 4000000 in
set_option maxRecDepth 100000 in
theorem t_X11_tells {x : GX} (f : Fx x cX11_tells RX11 7 (rmc 8 0 0)) {o0 : Nat} {i1 : Int32} {μ : Me} {Q : Int32 → Me → Prop} (hq : Rt x (some .int) (qI Q)) (h : S_X11_tells o0 i1 μ Q) : G x 7 0 [(0, .ref (gB x + o0)), (1, .int i1)] [] μ 0 0 := by
  unfold S_X11_tells at h
  refine g_aload_n f 0 dX11_tells_0 rfl rfl ?_
  obtain ⟨v1, h⟩ := h
  refine g_callV f mk_X11_395 v1 (c_X11_layDays h) dX11_tells_1 rfl rfl (Nat.le_of_ble_eq_true rfl) (rm_ok (by decide) (by decide)) ⟨Nat.le_of_ble_eq_true rfl, Nat.le_of_ble_eq_true rfl⟩ (kI fun r4 μ2 x3 h => ?_)
  refine h_istore_n f dX11_tells_4 rfl (by decide) ?_
  refine g_iload_n f 2 dX11_tells_5 rfl rfl ?_
  refine g_iconst f 0 dX11_tells_6 kc_0 ?_
  refine g_iconst f 1 dX11_tells_7 kc_1 ?_
  refine g_callS f mk_X11_66 (c_X11_isIn h) dX11_tells_8 rfl rfl (Nat.le_of_ble_eq_true rfl) (rm_ok (by decide) (by decide)) ⟨Nat.le_of_ble_eq_true rfl, Nat.le_of_ble_eq_true rfl⟩ (kI fun r7 μ5 x6 h => ?_)
  refine g_if_eq f 20 dX11_tells_11 rfl h (fun h => ?_) (fun h => ?_)
  · refine g_iconst f (-1) dX11_tells_20 kc_m1 ?_
    exact g_iret f hq (Nat.le_of_ble_eq_true rfl) (Nat.le_of_ble_eq_true rfl) dX11_tells_21 h
  · refine g_iload_n f 0 dX11_tells_14 rfl rfl ?_
    refine g_bipush f 12 dX11_tells_15 kb_12 ?_
    refine g_ic_le f 22 dX11_tells_17 rfl h (fun h => ?_) (fun h => ?_)
    · refine g_iload_n f 0 dX11_tells_22 rfl rfl ?_
      refine g_iconst f 2 dX11_tells_23 kc_2 ?_
      refine g_ic_ge f 37 dX11_tells_24 rfl h (fun h => ?_) (fun h => ?_)
      · refine g_iconst f (-1) dX11_tells_37 kc_m1 ?_
        refine h_istore_n f dX11_tells_38 rfl (by decide) ?_
        refine g_iconst f 0 dX11_tells_39 kc_0 ?_
        refine h_istore f dX11_tells_40 (by decide) ?_
        exact h_sub [3, 4, 2, 1, 0] rfl (tL_X11_tells_42 f hq h)
      · refine g_iload_n f 2 dX11_tells_27 rfl rfl ?_
        refine g_if_ne f 35 dX11_tells_28 rfl h (fun h => ?_) (fun h => ?_)
        · refine g_iconst f 0 dX11_tells_35 kc_0 ?_
          exact g_iret f hq (Nat.le_of_ble_eq_true rfl) (Nat.le_of_ble_eq_true rfl) dX11_tells_36 h
        · refine g_iconst f (-1) dX11_tells_31 kc_m1 ?_
          refine g_goto f 36 dX11_tells_32 rfl ?_
          exact g_iret f hq (Nat.le_of_ble_eq_true rfl) (Nat.le_of_ble_eq_true rfl) dX11_tells_36 h
    · refine g_iconst f (-1) dX11_tells_20 kc_m1 ?_
      exact g_iret f hq (Nat.le_of_ble_eq_true rfl) (Nat.le_of_ble_eq_true rfl) dX11_tells_21 h
theorem c_X11_tells {Ω : OM} {o0 : Nat} {i1 : Int32} {μ : Me} {Q : Int32 → Me → Prop} (h : S_X11_tells o0 i1 μ Q) : CT Ω yX11_tells cX11_tells 7 (some .int) (rmc 8 0 0) [.ref (oB Ω + o0), .int i1] μ (qI Q) := CT_of (by decide) rfl (by simp [lg_sl, Value.category]) (fun x hΩ f hq hi => by subst hΩ; exact t_X11_tells f hq h)
theorem dX11_inBed_0 : decode cX11_inBed 0 = .ok (.iconst 0, 1) := by decide +kernel
theorem dX11_inBed_1 : decode cX11_inBed 1 = .ok (.istore_n 1, 1) := by decide +kernel
theorem dX11_inBed_2 : decode cX11_inBed 2 = .ok (.iconst 0, 1) := by decide +kernel
theorem dX11_inBed_3 : decode cX11_inBed 3 = .ok (.istore_n 2, 1) := by decide +kernel
theorem dX11_inBed_4 : decode cX11_inBed 4 = .ok (.iload_n 2, 1) := by decide +kernel
theorem dX11_inBed_5 : decode cX11_inBed 5 = .ok (.aload_n 0, 1) := by decide +kernel
theorem dX11_inBed_6 : decode cX11_inBed 6 = .ok (.getfield 7, 3) := by decide +kernel
theorem dX11_inBed_9 : decode cX11_inBed 9 = .ok (.iconst 0, 1) := by decide +kernel
theorem dX11_inBed_10 : decode cX11_inBed 10 = .ok (.iaload, 1) := by decide +kernel
theorem dX11_inBed_11 : decode cX11_inBed 11 = .ok (.if_icmp .ge 27, 3) := by decide +kernel
theorem dX11_inBed_14 : decode cX11_inBed 14 = .ok (.iload_n 1, 1) := by decide +kernel
theorem dX11_inBed_15 : decode cX11_inBed 15 = .ok (.aload_n 0, 1) := by decide +kernel
theorem dX11_inBed_16 : decode cX11_inBed 16 = .ok (.iload_n 2, 1) := by decide +kernel
theorem dX11_inBed_17 : decode cX11_inBed 17 = .ok (.invokevirtual 292, 3) := by decide +kernel
theorem dX11_inBed_20 : decode cX11_inBed 20 = .ok (.ifCond .eq 7, 3) := by decide +kernel
theorem dX11_inBed_23 : decode cX11_inBed 23 = .ok (.iconst 0, 1) := by decide +kernel
theorem dX11_inBed_24 : decode cX11_inBed 24 = .ok (.goto 6, 3) := by decide +kernel
theorem dX11_inBed_27 : decode cX11_inBed 27 = .ok (.iconst 1, 1) := by decide +kernel
theorem dX11_inBed_28 : decode cX11_inBed 28 = .ok (.iload_n 2, 1) := by decide +kernel
theorem dX11_inBed_29 : decode cX11_inBed 29 = .ok (.ishl, 1) := by decide +kernel
theorem dX11_inBed_30 : decode cX11_inBed 30 = .ok (.ior, 1) := by decide +kernel
theorem dX11_inBed_31 : decode cX11_inBed 31 = .ok (.istore_n 1, 1) := by decide +kernel
theorem dX11_inBed_32 : decode cX11_inBed 32 = .ok (.iinc 2 1, 3) := by decide +kernel
theorem dX11_inBed_35 : decode cX11_inBed 35 = .ok (.goto (-31), 3) := by decide +kernel
theorem dX11_inBed_38 : decode cX11_inBed 38 = .ok (.iload_n 1, 1) := by decide +kernel
theorem dX11_inBed_39 : decode cX11_inBed 39 = .ok (.ireturn, 1) := by decide +kernel
def B_X11_inBed_30 (o0 : Nat) (i2 : Int32) (s0 : Int32) (s1 : Int32) (μ : Me) (K4 : Int32 → Int32 → Me → Prop) (Q : Int32 → Me → Prop) : Prop := K4 (s1 ||| s0) (i2 + 1) μ
set_option maxHeartbeats 4000000 in
set_option maxRecDepth 100000 in
theorem tB_X11_inBed_30 {x : GX} (f : Fx x cX11_inBed RX11 3 (rmc 2 0 0)) {o0 : Nat} {i2 : Int32} {s0 : Int32} {s1 : Int32} {μ : Me} {Q : Int32 → Me → Prop} (hq : Rt x (some .int) (qI Q)) {K4 : Int32 → Int32 → Me → Prop} (hK4 : ∀ (a1 : Int32) (a2 : Int32) (ν : Me), K4 a1 a2 ν → G x 3 4 [(0, .ref (gB x + o0)), (1, .int a1), (2, .int a2)] [] ν 0 0) (h : B_X11_inBed_30 o0 i2 s0 s1 μ K4 Q) : G x 3 30 [(0, .ref (gB x + o0)), (2, .int i2)] [.int s0, .int s1] μ 0 0 := by
  unfold B_X11_inBed_30 at h
  refine g_ior f dX11_inBed_30 ?_
  refine h_istore_n f dX11_inBed_31 rfl (by decide) ?_
  refine h_iinc f 2 1 dX11_inBed_32 rfl kc_1 (by decide) ?_
  refine g_goto f 4 dX11_inBed_35 rfl ?_
  exact h_sub [2, 1, 0] rfl (hK4 _ _ _ h)
def B_X11_inBed_4 (o0 : Nat) (i1 : Int32) (i2 : Int32) (μ : Me) (K4 : Int32 → Int32 → Me → Prop) (Q : Int32 → Me → Prop) : Prop := mok μ o0 11 ∧ ∃ t2, mgr μ o0 0 = some t2 ∧ mok μ t2 12 ∧ vp_in (0 : Int32) (mln μ t2) ∧ (((mgi μ t2 (0 : Int32).toNatClampNeg) ≤ i2 → Q i1 μ) ∧ (¬ (mgi μ t2 (0 : Int32).toNatClampNeg) ≤ i2 → S_X11_isUp o0 i2 μ (fun r6 μ4 => ((r6 = 0 → B_X11_inBed_30 o0 i2 (1 <<< (i2 &&& 31)) i1 μ4 K4 Q) ∧ (¬ r6 = 0 → B_X11_inBed_30 o0 i2 0 i1 μ4 K4 Q)))))
set_option maxHeartbeats 4000000 in
set_option maxRecDepth 100000 in
theorem tB_X11_inBed_4 {x : GX} (f : Fx x cX11_inBed RX11 3 (rmc 2 0 0)) {o0 : Nat} {i1 : Int32} {i2 : Int32} {μ : Me} {Q : Int32 → Me → Prop} (hq : Rt x (some .int) (qI Q)) {K4 : Int32 → Int32 → Me → Prop} (hK4 : ∀ (a1 : Int32) (a2 : Int32) (ν : Me), K4 a1 a2 ν → G x 3 4 [(0, .ref (gB x + o0)), (1, .int a1), (2, .int a2)] [] ν 0 0) (h : B_X11_inBed_4 o0 i1 i2 μ K4 Q) : G x 3 4 [(0, .ref (gB x + o0)), (1, .int i1), (2, .int i2)] [] μ 0 0 := by
  unfold B_X11_inBed_4 at h
  refine g_iload_n f 2 dX11_inBed_4 rfl rfl ?_
  refine g_aload_n f 0 dX11_inBed_5 rfl rfl ?_
  obtain ⟨v1, h⟩ := h
  refine g_getR f fk_X11_7 v1 dX11_inBed_6 rfl h (fun t2 h => ?_)
  refine g_iconst f 0 dX11_inBed_9 kc_0 ?_
  obtain ⟨v3, h⟩ := h
  refine g_iald f v3 dX11_inBed_10 h (fun h => ?_)
  refine g_ic_ge f 38 dX11_inBed_11 rfl h (fun h => ?_) (fun h => ?_)
  · refine g_iload_n f 1 dX11_inBed_38 rfl rfl ?_
    exact g_iret f hq (Nat.le_of_ble_eq_true rfl) (Nat.le_of_ble_eq_true rfl) dX11_inBed_39 h
  · refine g_iload_n f 1 dX11_inBed_14 rfl rfl ?_
    refine g_aload_n f 0 dX11_inBed_15 rfl rfl ?_
    refine g_iload_n f 2 dX11_inBed_16 rfl rfl ?_
    refine g_callV f mk_X11_292 v1 (c_X11_isUp h) dX11_inBed_17 rfl rfl (Nat.le_of_ble_eq_true rfl) (rm_ok (by decide) (by decide)) ⟨Nat.le_of_ble_eq_true rfl, Nat.le_of_ble_eq_true rfl⟩ (kI fun r6 μ4 x5 h => ?_)
    refine g_if_eq f 27 dX11_inBed_20 rfl h (fun h => ?_) (fun h => ?_)
    · refine g_iconst f 1 dX11_inBed_27 kc_1 ?_
      refine g_iload_n f 2 dX11_inBed_28 rfl rfl ?_
      refine g_ishl f dX11_inBed_29 ?_
      exact h_sub [0, 2] rfl (tB_X11_inBed_30 f hq hK4 h)
    · refine g_iconst f 0 dX11_inBed_23 kc_0 ?_
      refine g_goto f 30 dX11_inBed_24 rfl ?_
      exact h_sub [0, 2] rfl (tB_X11_inBed_30 f hq hK4 h)
def L_X11_inBed_4 (o0 : Nat) (i1 : Int32) (i2 : Int32) (μ : Me) (Q : Int32 → Me → Prop) : Prop := ∃ I : Int32 → Int32 → Me → Nat → Prop, (∃ n, I i1 i2 μ n) ∧ ∀ (i1 : Int32) (i2 : Int32) (μ : Me) (n : Nat), I i1 i2 μ n → B_X11_inBed_4 o0 i1 i2 μ (fun a1 a2 ν => ∃ n', n' < n ∧ I a1 a2 ν n') Q
set_option maxHeartbeats 4000000 in
set_option maxRecDepth 100000 in
theorem tL_X11_inBed_4 {x : GX} (f : Fx x cX11_inBed RX11 3 (rmc 2 0 0)) {o0 : Nat} {i1 : Int32} {i2 : Int32} {μ : Me} {Q : Int32 → Me → Prop} (hq : Rt x (some .int) (qI Q)) (h : L_X11_inBed_4 o0 i1 i2 μ Q) : G x 3 4 [(0, .ref (gB x + o0)), (1, .int i1), (2, .int i2)] [] μ 0 0 := by
  obtain ⟨I, ⟨n, hI⟩, hs⟩ := h
  induction n using Nat.strongRecOn generalizing i1 i2 μ with
  | ind n ih => exact tB_X11_inBed_4 f hq (fun a1 a2 ν hk => by obtain ⟨n2, hn, hI2⟩ := hk; exact ih n2 hn hI2) (hs _ _ _ _ hI)
def S_X11_inBed (o0 : Nat) (μ : Me) (Q : Int32 → Me → Prop) : Prop := L_X11_inBed_4 o0 0 0 μ Q
set_option maxHeartbeats 4000000 in
set_option maxRecDepth 100000 in
theorem t_X11_inBed {x : GX} (f : Fx x cX11_inBed RX11 3 (rmc 2 0 0)) {o0 : Nat} {μ : Me} {Q : Int32 → Me → Prop} (hq : Rt x (some .int) (qI Q)) (h : S_X11_inBed o0 μ Q) : G x 3 0 [(0, .ref (gB x + o0))] [] μ 0 0 := by
  unfold S_X11_inBed at h
  refine g_iconst f 0 dX11_inBed_0 kc_0 ?_
  refine h_istore_n f dX11_inBed_1 rfl (by decide) ?_
  refine g_iconst f 0 dX11_inBed_2 kc_0 ?_
  refine h_istore_n f dX11_inBed_3 rfl (by decide) ?_
  exact h_sub [2, 1, 0] rfl (tL_X11_inBed_4 f hq h)
theorem c_X11_inBed {Ω : OM} {o0 : Nat} {μ : Me} {Q : Int32 → Me → Prop} (h : S_X11_inBed o0 μ Q) : CT Ω yX11_inBed cX11_inBed 3 (some .int) (rmc 2 0 0) [.ref (oB Ω + o0)] μ (qI Q) := CT_of (by decide) rfl (by simp [lg_sl, Value.category]) (fun x hΩ f hq hi => by subst hΩ; exact t_X11_inBed f hq h)
theorem dX11_layBeds_0 : decode cX11_layBeds 0 = .ok (.iconst 0, 1) := by decide +kernel
theorem dX11_layBeds_1 : decode cX11_layBeds 1 = .ok (.istore_n 2, 1) := by decide +kernel
theorem dX11_layBeds_2 : decode cX11_layBeds 2 = .ok (.iload_n 2, 1) := by decide +kernel
theorem dX11_layBeds_3 : decode cX11_layBeds 3 = .ok (.aload_n 0, 1) := by decide +kernel
theorem dX11_layBeds_4 : decode cX11_layBeds 4 = .ok (.getfield 7, 3) := by decide +kernel
theorem dX11_layBeds_7 : decode cX11_layBeds 7 = .ok (.iconst 0, 1) := by decide +kernel
theorem dX11_layBeds_8 : decode cX11_layBeds 8 = .ok (.iaload, 1) := by decide +kernel
theorem dX11_layBeds_9 : decode cX11_layBeds 9 = .ok (.if_icmp .ge 20, 3) := by decide +kernel
theorem dX11_layBeds_12 : decode cX11_layBeds 12 = .ok (.aload_n 0, 1) := by decide +kernel
theorem dX11_layBeds_13 : decode cX11_layBeds 13 = .ok (.iload_n 2, 1) := by decide +kernel
theorem dX11_layBeds_14 : decode cX11_layBeds 14 = .ok (.iconst 1, 1) := by decide +kernel
theorem dX11_layBeds_15 : decode cX11_layBeds 15 = .ok (.iload_n 1, 1) := by decide +kernel
theorem dX11_layBeds_16 : decode cX11_layBeds 16 = .ok (.iload_n 2, 1) := by decide +kernel
theorem dX11_layBeds_17 : decode cX11_layBeds 17 = .ok (.ishr, 1) := by decide +kernel
theorem dX11_layBeds_18 : decode cX11_layBeds 18 = .ok (.iconst 1, 1) := by decide +kernel
theorem dX11_layBeds_19 : decode cX11_layBeds 19 = .ok (.iand, 1) := by decide +kernel
theorem dX11_layBeds_20 : decode cX11_layBeds 20 = .ok (.invokevirtual 78, 3) := by decide +kernel
theorem dX11_layBeds_23 : decode cX11_layBeds 23 = .ok (.iinc 2 1, 3) := by decide +kernel
theorem dX11_layBeds_26 : decode cX11_layBeds 26 = .ok (.goto (-24), 3) := by decide +kernel
theorem dX11_layBeds_29 : decode cX11_layBeds 29 = .ok (.return_, 1) := by decide +kernel
def B_X11_layBeds_2 (o0 : Nat) (i1 : Int32) (i2 : Int32) (μ : Me) (K2 : Int32 → Me → Prop) (Q : Me → Prop) : Prop := mok μ o0 11 ∧ ∃ t2, mgr μ o0 0 = some t2 ∧ mok μ t2 12 ∧ vp_in (0 : Int32) (mln μ t2) ∧ (((mgi μ t2 (0 : Int32).toNatClampNeg) ≤ i2 → Q μ) ∧ (¬ (mgi μ t2 (0 : Int32).toNatClampNeg) ≤ i2 → S_X11_put o0 i2 1 ((i1 >>> (i2 &&& 31)) &&& 1) μ (fun μ4 => K2 (i2 + 1) μ4)))
set_option maxHeartbeats 4000000 in
set_option maxRecDepth 100000 in
theorem tB_X11_layBeds_2 {x : GX} (f : Fx x cX11_layBeds RX11 3 (rmc 1 0 0)) {o0 : Nat} {i1 : Int32} {i2 : Int32} {μ : Me} {Q : Me → Prop} (hq : Rt x none (qV Q)) {K2 : Int32 → Me → Prop} (hK2 : ∀ (a2 : Int32) (ν : Me), K2 a2 ν → G x 3 2 [(0, .ref (gB x + o0)), (1, .int i1), (2, .int a2)] [] ν 0 0) (h : B_X11_layBeds_2 o0 i1 i2 μ K2 Q) : G x 3 2 [(0, .ref (gB x + o0)), (1, .int i1), (2, .int i2)] [] μ 0 0 := by
  unfold B_X11_layBeds_2 at h
  refine g_iload_n f 2 dX11_layBeds_2 rfl rfl ?_
  refine g_aload_n f 0 dX11_layBeds_3 rfl rfl ?_
  obtain ⟨v1, h⟩ := h
  refine g_getR f fk_X11_7 v1 dX11_layBeds_4 rfl h (fun t2 h => ?_)
  refine g_iconst f 0 dX11_layBeds_7 kc_0 ?_
  obtain ⟨v3, h⟩ := h
  refine g_iald f v3 dX11_layBeds_8 h (fun h => ?_)
  refine g_ic_ge f 29 dX11_layBeds_9 rfl h (fun h => ?_) (fun h => ?_)
  · exact g_vret f hq (Nat.le_of_ble_eq_true rfl) (Nat.le_of_ble_eq_true rfl) dX11_layBeds_29 h
  · refine g_aload_n f 0 dX11_layBeds_12 rfl rfl ?_
    refine g_iload_n f 2 dX11_layBeds_13 rfl rfl ?_
    refine g_iconst f 1 dX11_layBeds_14 kc_1 ?_
    refine g_iload_n f 1 dX11_layBeds_15 rfl rfl ?_
    refine g_iload_n f 2 dX11_layBeds_16 rfl rfl ?_
    refine g_ishr f dX11_layBeds_17 ?_
    refine g_iconst f 1 dX11_layBeds_18 kc_1 ?_
    refine g_iand f dX11_layBeds_19 ?_
    refine g_callV f mk_X11_78 v1 (c_X11_put h) dX11_layBeds_20 rfl rfl (Nat.le_of_ble_eq_true rfl) (rm_ok (by decide) (by decide)) ⟨Nat.le_of_ble_eq_true rfl, Nat.le_of_ble_eq_true rfl⟩ (kV fun μ4 x5 h => ?_)
    refine h_iinc f 2 1 dX11_layBeds_23 rfl kc_1 (by decide) ?_
    refine g_goto f 2 dX11_layBeds_26 rfl ?_
    exact h_sub [1, 2, 0] rfl (hK2 _ _ h)
def L_X11_layBeds_2 (o0 : Nat) (i1 : Int32) (i2 : Int32) (μ : Me) (Q : Me → Prop) : Prop := ∃ I : Int32 → Me → Nat → Prop, (∃ n, I i2 μ n) ∧ ∀ (i2 : Int32) (μ : Me) (n : Nat), I i2 μ n → B_X11_layBeds_2 o0 i1 i2 μ (fun a2 ν => ∃ n', n' < n ∧ I a2 ν n') Q
set_option maxHeartbeats 4000000 in
set_option maxRecDepth 100000 in
theorem tL_X11_layBeds_2 {x : GX} (f : Fx x cX11_layBeds RX11 3 (rmc 1 0 0)) {o0 : Nat} {i1 : Int32} {i2 : Int32} {μ : Me} {Q : Me → Prop} (hq : Rt x none (qV Q)) (h : L_X11_layBeds_2 o0 i1 i2 μ Q) : G x 3 2 [(0, .ref (gB x + o0)), (1, .int i1), (2, .int i2)] [] μ 0 0 := by
  obtain ⟨I, ⟨n, hI⟩, hs⟩ := h
  induction n using Nat.strongRecOn generalizing i2 μ with
  | ind n ih => exact tB_X11_layBeds_2 f hq (fun a2 ν hk => by obtain ⟨n2, hn, hI2⟩ := hk; exact ih n2 hn hI2) (hs _ _ _ hI)
def S_X11_layBeds (o0 : Nat) (i1 : Int32) (μ : Me) (Q : Me → Prop) : Prop := L_X11_layBeds_2 o0 i1 0 μ Q
set_option maxHeartbeats 4000000 in
set_option maxRecDepth 100000 in
theorem t_X11_layBeds {x : GX} (f : Fx x cX11_layBeds RX11 3 (rmc 1 0 0)) {o0 : Nat} {i1 : Int32} {μ : Me} {Q : Me → Prop} (hq : Rt x none (qV Q)) (h : S_X11_layBeds o0 i1 μ Q) : G x 3 0 [(0, .ref (gB x + o0)), (1, .int i1)] [] μ 0 0 := by
  unfold S_X11_layBeds at h
  refine g_iconst f 0 dX11_layBeds_0 kc_0 ?_
  refine h_istore_n f dX11_layBeds_1 rfl (by decide) ?_
  exact h_sub [1, 2, 0] rfl (tL_X11_layBeds_2 f hq h)
theorem c_X11_layBeds {Ω : OM} {o0 : Nat} {i1 : Int32} {μ : Me} {Q : Me → Prop} (h : S_X11_layBeds o0 i1 μ Q) : CT Ω yX11_layBeds cX11_layBeds 3 none (rmc 1 0 0) [.ref (oB Ω + o0), .int i1] μ (qV Q) := CT_of (by decide) rfl (by simp [lg_sl, Value.category]) (fun x hΩ f hq hi => by subst hΩ; exact t_X11_layBeds f hq h)
theorem dX11_leastAsleep_0 : decode cX11_leastAsleep 0 = .ok (.aload_n 0, 1) := by decide +kernel
theorem dX11_leastAsleep_1 : decode cX11_leastAsleep 1 = .ok (.invokevirtual 405, 3) := by decide +kernel
theorem dX11_leastAsleep_4 : decode cX11_leastAsleep 4 = .ok (.istore_n 1, 1) := by decide +kernel
theorem dX11_leastAsleep_5 : decode cX11_leastAsleep 5 = .ok (.aload_n 0, 1) := by decide +kernel
theorem dX11_leastAsleep_6 : decode cX11_leastAsleep 6 = .ok (.invokevirtual 70, 3) := by decide +kernel
theorem dX11_leastAsleep_9 : decode cX11_leastAsleep 9 = .ok (.istore_n 2, 1) := by decide +kernel
theorem dX11_leastAsleep_10 : decode cX11_leastAsleep 10 = .ok (.iload_n 2, 1) := by decide +kernel
theorem dX11_leastAsleep_11 : decode cX11_leastAsleep 11 = .ok (.istore_n 3, 1) := by decide +kernel
theorem dX11_leastAsleep_12 : decode cX11_leastAsleep 12 = .ok (.iload_n 3, 1) := by decide +kernel
theorem dX11_leastAsleep_13 : decode cX11_leastAsleep 13 = .ok (.ifCond .lt 46, 3) := by decide +kernel
theorem dX11_leastAsleep_16 : decode cX11_leastAsleep 16 = .ok (.iload_n 1, 1) := by decide +kernel
theorem dX11_leastAsleep_17 : decode cX11_leastAsleep 17 = .ok (.iload_n 3, 1) := by decide +kernel
theorem dX11_leastAsleep_18 : decode cX11_leastAsleep 18 = .ok (.iconst (-1), 1) := by decide +kernel
theorem dX11_leastAsleep_19 : decode cX11_leastAsleep 19 = .ok (.ixor, 1) := by decide +kernel
theorem dX11_leastAsleep_20 : decode cX11_leastAsleep 20 = .ok (.iand, 1) := by decide +kernel
theorem dX11_leastAsleep_21 : decode cX11_leastAsleep 21 = .ok (.ifCond .ne 32, 3) := by decide +kernel
theorem dX11_leastAsleep_24 : decode cX11_leastAsleep 24 = .ok (.iload_n 3, 1) := by decide +kernel
theorem dX11_leastAsleep_25 : decode cX11_leastAsleep 25 = .ok (.invokestatic 298, 3) := by decide +kernel
theorem dX11_leastAsleep_28 : decode cX11_leastAsleep 28 = .ok (.iload_n 2, 1) := by decide +kernel
theorem dX11_leastAsleep_29 : decode cX11_leastAsleep 29 = .ok (.invokestatic 298, 3) := by decide +kernel
theorem dX11_leastAsleep_32 : decode cX11_leastAsleep 32 = .ok (.if_icmp .le 6, 3) := by decide +kernel
theorem dX11_leastAsleep_35 : decode cX11_leastAsleep 35 = .ok (.goto 18, 3) := by decide +kernel
theorem dX11_leastAsleep_38 : decode cX11_leastAsleep 38 = .ok (.aload_n 0, 1) := by decide +kernel
theorem dX11_leastAsleep_39 : decode cX11_leastAsleep 39 = .ok (.iload_n 3, 1) := by decide +kernel
theorem dX11_leastAsleep_40 : decode cX11_leastAsleep 40 = .ok (.invokevirtual 408, 3) := by decide +kernel
theorem dX11_leastAsleep_43 : decode cX11_leastAsleep 43 = .ok (.aload_n 0, 1) := by decide +kernel
theorem dX11_leastAsleep_44 : decode cX11_leastAsleep 44 = .ok (.iconst 0, 1) := by decide +kernel
theorem dX11_leastAsleep_45 : decode cX11_leastAsleep 45 = .ok (.invokevirtual 320, 3) := by decide +kernel
theorem dX11_leastAsleep_48 : decode cX11_leastAsleep 48 = .ok (.ifCond .ne 5, 3) := by decide +kernel
theorem dX11_leastAsleep_51 : decode cX11_leastAsleep 51 = .ok (.iload_n 3, 1) := by decide +kernel
theorem dX11_leastAsleep_52 : decode cX11_leastAsleep 52 = .ok (.istore_n 2, 1) := by decide +kernel
theorem dX11_leastAsleep_53 : decode cX11_leastAsleep 53 = .ok (.iinc 3 (-1), 3) := by decide +kernel
theorem dX11_leastAsleep_56 : decode cX11_leastAsleep 56 = .ok (.goto (-44), 3) := by decide +kernel
theorem dX11_leastAsleep_59 : decode cX11_leastAsleep 59 = .ok (.aload_n 0, 1) := by decide +kernel
theorem dX11_leastAsleep_60 : decode cX11_leastAsleep 60 = .ok (.iload_n 1, 1) := by decide +kernel
theorem dX11_leastAsleep_61 : decode cX11_leastAsleep 61 = .ok (.invokevirtual 408, 3) := by decide +kernel
theorem dX11_leastAsleep_64 : decode cX11_leastAsleep 64 = .ok (.iload_n 2, 1) := by decide +kernel
theorem dX11_leastAsleep_65 : decode cX11_leastAsleep 65 = .ok (.ireturn, 1) := by decide +kernel
def B_X11_leastAsleep_53 (o0 : Nat) (i1 : Int32) (i2 : Int32) (i3 : Int32) (μ : Me) (K12 : Int32 → Int32 → Me → Prop) (Q : Int32 → Me → Prop) : Prop := K12 i2 (i3 + (-1)) μ
set_option maxHeartbeats 4000000 in
set_option maxRecDepth 100000 in
theorem tB_X11_leastAsleep_53 {x : GX} (f : Fx x cX11_leastAsleep RX11 4 (rmc 6 0 0)) {o0 : Nat} {i1 : Int32} {i2 : Int32} {i3 : Int32} {μ : Me} {Q : Int32 → Me → Prop} (hq : Rt x (some .int) (qI Q)) {K12 : Int32 → Int32 → Me → Prop} (hK12 : ∀ (a2 : Int32) (a3 : Int32) (ν : Me), K12 a2 a3 ν → G x 4 12 [(0, .ref (gB x + o0)), (1, .int i1), (2, .int a2), (3, .int a3)] [] ν 0 0) (h : B_X11_leastAsleep_53 o0 i1 i2 i3 μ K12 Q) : G x 4 53 [(0, .ref (gB x + o0)), (1, .int i1), (2, .int i2), (3, .int i3)] [] μ 0 0 := by
  unfold B_X11_leastAsleep_53 at h
  refine h_iinc f 3 (-1) dX11_leastAsleep_53 rfl kc_m1 (by decide) ?_
  refine g_goto f 12 dX11_leastAsleep_56 rfl ?_
  exact h_sub [1, 2, 3, 0] rfl (hK12 _ _ _ h)
def B_X11_leastAsleep_12 (o0 : Nat) (i1 : Int32) (i2 : Int32) (i3 : Int32) (μ : Me) (K12 : Int32 → Int32 → Me → Prop) (Q : Int32 → Me → Prop) : Prop := ((i3 < 0 → mok μ o0 11 ∧ S_X11_layBeds o0 i1 μ (fun μ9 => Q i2 μ9)) ∧ (¬ i3 < 0 → ((¬ (i1 &&& (i3 ^^^ (-1))) = 0 → B_X11_leastAsleep_53 o0 i1 i2 i3 μ K12 Q) ∧ ((i1 &&& (i3 ^^^ (-1))) = 0 → S_X11_bits i3 μ (fun r14 μ12 => S_X11_bits i2 μ12 (fun r17 μ15 => ((r14 ≤ r17 → mok μ15 o0 11 ∧ S_X11_layBeds o0 i3 μ15 (fun μ19 => S_X11_lateBy o0 0 μ19 (fun r24 μ22 => ((¬ r24 = 0 → B_X11_leastAsleep_53 o0 i1 i2 i3 μ22 K12 Q) ∧ (r24 = 0 → B_X11_leastAsleep_53 o0 i1 i3 i3 μ22 K12 Q))))) ∧ (¬ r14 ≤ r17 → B_X11_leastAsleep_53 o0 i1 i2 i3 μ15 K12 Q))))))))
set_option maxHeartbeats 4000000 in
set_option maxRecDepth 100000 in
theorem tB_X11_leastAsleep_12 {x : GX} (f : Fx x cX11_leastAsleep RX11 4 (rmc 6 0 0)) {o0 : Nat} {i1 : Int32} {i2 : Int32} {i3 : Int32} {μ : Me} {Q : Int32 → Me → Prop} (hq : Rt x (some .int) (qI Q)) {K12 : Int32 → Int32 → Me → Prop} (hK12 : ∀ (a2 : Int32) (a3 : Int32) (ν : Me), K12 a2 a3 ν → G x 4 12 [(0, .ref (gB x + o0)), (1, .int i1), (2, .int a2), (3, .int a3)] [] ν 0 0) (h : B_X11_leastAsleep_12 o0 i1 i2 i3 μ K12 Q) : G x 4 12 [(0, .ref (gB x + o0)), (1, .int i1), (2, .int i2), (3, .int i3)] [] μ 0 0 := by
  unfold B_X11_leastAsleep_12 at h
  refine g_iload_n f 3 dX11_leastAsleep_12 rfl rfl ?_
  refine g_if_lt f 59 dX11_leastAsleep_13 rfl h (fun h => ?_) (fun h => ?_)
  · refine g_aload_n f 0 dX11_leastAsleep_59 rfl rfl ?_
    refine g_iload_n f 1 dX11_leastAsleep_60 rfl rfl ?_
    obtain ⟨v8, h⟩ := h
    refine g_callV f mk_X11_408 v8 (c_X11_layBeds h) dX11_leastAsleep_61 rfl rfl (Nat.le_of_ble_eq_true rfl) (rm_ok (by decide) (by decide)) ⟨Nat.le_of_ble_eq_true rfl, Nat.le_of_ble_eq_true rfl⟩ (kV fun μ9 x10 h => ?_)
    refine g_iload_n f 2 dX11_leastAsleep_64 rfl rfl ?_
    exact g_iret f hq (Nat.le_of_ble_eq_true rfl) (Nat.le_of_ble_eq_true rfl) dX11_leastAsleep_65 h
  · refine g_iload_n f 1 dX11_leastAsleep_16 rfl rfl ?_
    refine g_iload_n f 3 dX11_leastAsleep_17 rfl rfl ?_
    refine g_iconst f (-1) dX11_leastAsleep_18 kc_m1 ?_
    refine g_ixor f dX11_leastAsleep_19 ?_
    refine g_iand f dX11_leastAsleep_20 ?_
    refine g_if_ne f 53 dX11_leastAsleep_21 rfl h (fun h => ?_) (fun h => ?_)
    · exact h_sub [0, 1, 2, 3] rfl (tB_X11_leastAsleep_53 f hq hK12 h)
    · refine g_iload_n f 3 dX11_leastAsleep_24 rfl rfl ?_
      refine g_callS f mk_X11_298 (c_X11_bits h) dX11_leastAsleep_25 rfl rfl (Nat.le_of_ble_eq_true rfl) (rm_ok (by decide) (by decide)) ⟨Nat.le_of_ble_eq_true rfl, Nat.le_of_ble_eq_true rfl⟩ (kI fun r14 μ12 x13 h => ?_)
      refine g_iload_n f 2 dX11_leastAsleep_28 rfl rfl ?_
      refine g_callS f mk_X11_298 (c_X11_bits h) dX11_leastAsleep_29 rfl rfl (Nat.le_of_ble_eq_true rfl) (rm_ok (by decide) (by decide)) ⟨Nat.le_of_ble_eq_true rfl, Nat.le_of_ble_eq_true rfl⟩ (kI fun r17 μ15 x16 h => ?_)
      refine g_ic_le f 38 dX11_leastAsleep_32 rfl h (fun h => ?_) (fun h => ?_)
      · refine g_aload_n f 0 dX11_leastAsleep_38 rfl rfl ?_
        refine g_iload_n f 3 dX11_leastAsleep_39 rfl rfl ?_
        obtain ⟨v18, h⟩ := h
        refine g_callV f mk_X11_408 v18 (c_X11_layBeds h) dX11_leastAsleep_40 rfl rfl (Nat.le_of_ble_eq_true rfl) (rm_ok (by decide) (by decide)) ⟨Nat.le_of_ble_eq_true rfl, Nat.le_of_ble_eq_true rfl⟩ (kV fun μ19 x20 h => ?_)
        refine g_aload_n f 0 dX11_leastAsleep_43 rfl rfl ?_
        refine g_iconst f 0 dX11_leastAsleep_44 kc_0 ?_
        have v18 := mex_ok x20 v18
        refine g_callV f mk_X11_320 v18 (c_X11_lateBy h) dX11_leastAsleep_45 rfl rfl (Nat.le_of_ble_eq_true rfl) (rm_ok (by decide) (by decide)) ⟨Nat.le_of_ble_eq_true rfl, Nat.le_of_ble_eq_true rfl⟩ (kI fun r24 μ22 x23 h => ?_)
        refine g_if_ne f 53 dX11_leastAsleep_48 rfl h (fun h => ?_) (fun h => ?_)
        · exact h_sub [0, 1, 2, 3] rfl (tB_X11_leastAsleep_53 f hq hK12 h)
        · refine g_iload_n f 3 dX11_leastAsleep_51 rfl rfl ?_
          refine h_istore_n f dX11_leastAsleep_52 rfl (by decide) ?_
          exact h_sub [1, 2, 0, 3] rfl (tB_X11_leastAsleep_53 f hq hK12 h)
      · refine g_goto f 53 dX11_leastAsleep_35 rfl ?_
        exact h_sub [0, 1, 2, 3] rfl (tB_X11_leastAsleep_53 f hq hK12 h)
def L_X11_leastAsleep_12 (o0 : Nat) (i1 : Int32) (i2 : Int32) (i3 : Int32) (μ : Me) (Q : Int32 → Me → Prop) : Prop := ∃ I : Int32 → Int32 → Me → Nat → Prop, (∃ n, I i2 i3 μ n) ∧ ∀ (i2 : Int32) (i3 : Int32) (μ : Me) (n : Nat), I i2 i3 μ n → B_X11_leastAsleep_12 o0 i1 i2 i3 μ (fun a2 a3 ν => ∃ n', n' < n ∧ I a2 a3 ν n') Q
set_option maxHeartbeats 4000000 in
set_option maxRecDepth 100000 in
theorem tL_X11_leastAsleep_12 {x : GX} (f : Fx x cX11_leastAsleep RX11 4 (rmc 6 0 0)) {o0 : Nat} {i1 : Int32} {i2 : Int32} {i3 : Int32} {μ : Me} {Q : Int32 → Me → Prop} (hq : Rt x (some .int) (qI Q)) (h : L_X11_leastAsleep_12 o0 i1 i2 i3 μ Q) : G x 4 12 [(0, .ref (gB x + o0)), (1, .int i1), (2, .int i2), (3, .int i3)] [] μ 0 0 := by
  obtain ⟨I, ⟨n, hI⟩, hs⟩ := h
  induction n using Nat.strongRecOn generalizing i2 i3 μ with
  | ind n ih => exact tB_X11_leastAsleep_12 f hq (fun a2 a3 ν hk => by obtain ⟨n2, hn, hI2⟩ := hk; exact ih n2 hn hI2) (hs _ _ _ _ hI)
def S_X11_leastAsleep (o0 : Nat) (μ : Me) (Q : Int32 → Me → Prop) : Prop := mok μ o0 11 ∧ S_X11_inBed o0 μ (fun r4 μ2 => S_X11_all o0 μ2 (fun r7 μ5 => L_X11_leastAsleep_12 o0 r4 r7 r7 μ5 Q))
set_option maxHeartbeats 4000000 in
set_option maxRecDepth 100000 in
theorem t_X11_leastAsleep {x : GX} (f : Fx x cX11_leastAsleep RX11 4 (rmc 6 0 0)) {o0 : Nat} {μ : Me} {Q : Int32 → Me → Prop} (hq : Rt x (some .int) (qI Q)) (h : S_X11_leastAsleep o0 μ Q) : G x 4 0 [(0, .ref (gB x + o0))] [] μ 0 0 := by
  unfold S_X11_leastAsleep at h
  refine g_aload_n f 0 dX11_leastAsleep_0 rfl rfl ?_
  obtain ⟨v1, h⟩ := h
  refine g_callV f mk_X11_405 v1 (c_X11_inBed h) dX11_leastAsleep_1 rfl rfl (Nat.le_of_ble_eq_true rfl) (rm_ok (by decide) (by decide)) ⟨Nat.le_of_ble_eq_true rfl, Nat.le_of_ble_eq_true rfl⟩ (kI fun r4 μ2 x3 h => ?_)
  refine h_istore_n f dX11_leastAsleep_4 rfl (by decide) ?_
  refine g_aload_n f 1 dX11_leastAsleep_5 rfl rfl ?_
  have v1 := mex_ok x3 v1
  refine g_callV f mk_X11_70 v1 (c_X11_all h) dX11_leastAsleep_6 rfl rfl (Nat.le_of_ble_eq_true rfl) (rm_ok (by decide) (by decide)) ⟨Nat.le_of_ble_eq_true rfl, Nat.le_of_ble_eq_true rfl⟩ (kI fun r7 μ5 x6 h => ?_)
  refine h_istore_n f dX11_leastAsleep_9 rfl (by decide) ?_
  refine g_iload_n f 0 dX11_leastAsleep_10 rfl rfl ?_
  refine h_istore_n f dX11_leastAsleep_11 rfl (by decide) ?_
  exact h_sub [3, 2, 1, 0] rfl (tL_X11_leastAsleep_12 f hq h)
theorem c_X11_leastAsleep {Ω : OM} {o0 : Nat} {μ : Me} {Q : Int32 → Me → Prop} (h : S_X11_leastAsleep o0 μ Q) : CT Ω yX11_leastAsleep cX11_leastAsleep 4 (some .int) (rmc 6 0 0) [.ref (oB Ω + o0)] μ (qI Q) := CT_of (by decide) rfl (by simp [lg_sl, Value.category]) (fun x hΩ f hq hi => by subst hΩ; exact t_X11_leastAsleep f hq h)
theorem dX11_asleep_0 : decode cX11_asleep 0 = .ok (.aload_n 0, 1) := by decide +kernel
theorem dX11_asleep_1 : decode cX11_asleep 1 = .ok (.invokevirtual 411, 3) := by decide +kernel
theorem dX11_asleep_4 : decode cX11_asleep 4 = .ok (.istore_n 2, 1) := by decide +kernel
theorem dX11_asleep_5 : decode cX11_asleep 5 = .ok (.iload_n 1, 1) := by decide +kernel
theorem dX11_asleep_6 : decode cX11_asleep 6 = .ok (.ifCond .eq 10, 3) := by decide +kernel
theorem dX11_asleep_9 : decode cX11_asleep 9 = .ok (.iload_n 2, 1) := by decide +kernel
theorem dX11_asleep_10 : decode cX11_asleep 10 = .ok (.invokestatic 298, 3) := by decide +kernel
theorem dX11_asleep_13 : decode cX11_asleep 13 = .ok (.goto 4, 3) := by decide +kernel
theorem dX11_asleep_16 : decode cX11_asleep 16 = .ok (.iload_n 2, 1) := by decide +kernel
theorem dX11_asleep_17 : decode cX11_asleep 17 = .ok (.ireturn, 1) := by decide +kernel
def S_X11_asleep (o0 : Nat) (i1 : Int32) (μ : Me) (Q : Int32 → Me → Prop) : Prop := mok μ o0 11 ∧ S_X11_leastAsleep o0 μ (fun r4 μ2 => ((i1 = 0 → Q r4 μ2) ∧ (¬ i1 = 0 → S_X11_bits r4 μ2 (fun r7 μ5 => Q r7 μ5))))
set_option maxHeartbeats 4000000 in
set_option maxRecDepth 100000 in
theorem t_X11_asleep {x : GX} (f : Fx x cX11_asleep RX11 3 (rmc 7 0 0)) {o0 : Nat} {i1 : Int32} {μ : Me} {Q : Int32 → Me → Prop} (hq : Rt x (some .int) (qI Q)) (h : S_X11_asleep o0 i1 μ Q) : G x 3 0 [(0, .ref (gB x + o0)), (1, .int i1)] [] μ 0 0 := by
  unfold S_X11_asleep at h
  refine g_aload_n f 0 dX11_asleep_0 rfl rfl ?_
  obtain ⟨v1, h⟩ := h
  refine g_callV f mk_X11_411 v1 (c_X11_leastAsleep h) dX11_asleep_1 rfl rfl (Nat.le_of_ble_eq_true rfl) (rm_ok (by decide) (by decide)) ⟨Nat.le_of_ble_eq_true rfl, Nat.le_of_ble_eq_true rfl⟩ (kI fun r4 μ2 x3 h => ?_)
  refine h_istore_n f dX11_asleep_4 rfl (by decide) ?_
  refine g_iload_n f 2 dX11_asleep_5 rfl rfl ?_
  refine g_if_eq f 16 dX11_asleep_6 rfl h (fun h => ?_) (fun h => ?_)
  · refine g_iload_n f 0 dX11_asleep_16 rfl rfl ?_
    exact g_iret f hq (Nat.le_of_ble_eq_true rfl) (Nat.le_of_ble_eq_true rfl) dX11_asleep_17 h
  · refine g_iload_n f 0 dX11_asleep_9 rfl rfl ?_
    refine g_callS f mk_X11_298 (c_X11_bits h) dX11_asleep_10 rfl rfl (Nat.le_of_ble_eq_true rfl) (rm_ok (by decide) (by decide)) ⟨Nat.le_of_ble_eq_true rfl, Nat.le_of_ble_eq_true rfl⟩ (kI fun r7 μ5 x6 h => ?_)
    refine g_goto f 17 dX11_asleep_13 rfl ?_
    exact g_iret f hq (Nat.le_of_ble_eq_true rfl) (Nat.le_of_ble_eq_true rfl) dX11_asleep_17 h
theorem c_X11_asleep {Ω : OM} {o0 : Nat} {i1 : Int32} {μ : Me} {Q : Int32 → Me → Prop} (h : S_X11_asleep o0 i1 μ Q) : CT Ω yX11_asleep cX11_asleep 3 (some .int) (rmc 7 0 0) [.ref (oB Ω + o0), .int i1] μ (qI Q) := CT_of (by decide) rfl (by simp [lg_sl, Value.category]) (fun x hΩ f hq hi => by subst hΩ; exact t_X11_asleep f hq h)
theorem dX11_slack_0 : decode cX11_slack 0 = .ok (.aload_n 0, 1) := by decide +kernel
theorem dX11_slack_1 : decode cX11_slack 1 = .ok (.iload_n 1, 1) := by decide +kernel
theorem dX11_slack_2 : decode cX11_slack 2 = .ok (.invokevirtual 335, 3) := by decide +kernel
theorem dX11_slack_5 : decode cX11_slack 5 = .ok (.ifCond .eq 22, 3) := by decide +kernel
theorem dX11_slack_8 : decode cX11_slack 8 = .ok (.aload_n 0, 1) := by decide +kernel
theorem dX11_slack_9 : decode cX11_slack 9 = .ok (.iload_n 1, 1) := by decide +kernel
theorem dX11_slack_10 : decode cX11_slack 10 = .ok (.iconst 0, 1) := by decide +kernel
theorem dX11_slack_11 : decode cX11_slack 11 = .ok (.invokevirtual 74, 3) := by decide +kernel
theorem dX11_slack_14 : decode cX11_slack 14 = .ok (.aload_n 0, 1) := by decide +kernel
theorem dX11_slack_15 : decode cX11_slack 15 = .ok (.iload_n 1, 1) := by decide +kernel
theorem dX11_slack_16 : decode cX11_slack 16 = .ok (.aload_n 0, 1) := by decide +kernel
theorem dX11_slack_17 : decode cX11_slack 17 = .ok (.invokevirtual 368, 3) := by decide +kernel
theorem dX11_slack_20 : decode cX11_slack 20 = .ok (.invokevirtual 371, 3) := by decide +kernel
theorem dX11_slack_23 : decode cX11_slack 23 = .ok (.isub, 1) := by decide +kernel
theorem dX11_slack_24 : decode cX11_slack 24 = .ok (.goto 6, 3) := by decide +kernel
theorem dX11_slack_27 : decode cX11_slack 27 = .ok (.sipush (-1000), 3) := by decide +kernel
theorem dX11_slack_30 : decode cX11_slack 30 = .ok (.ireturn, 1) := by decide +kernel
def S_X11_slack (o0 : Nat) (i1 : Int32) (μ : Me) (Q : Int32 → Me → Prop) : Prop := mok μ o0 11 ∧ S_X11_isPerson o0 i1 μ (fun r4 μ2 => ((r4 = 0 → Q (-1000) μ2) ∧ (¬ r4 = 0 → S_X11_get o0 i1 0 μ2 (fun r7 μ5 => S_X11_runningNow o0 μ5 (fun r10 μ8 => S_X11_takesNow o0 i1 r10 μ8 (fun r13 μ11 => Q (r7 - r13) μ11))))))
set_option maxHeartbeats 4000000 in
set_option maxRecDepth 100000 in
theorem t_X11_slack {x : GX} (f : Fx x cX11_slack RX11 2 (rmc 6 0 0)) {o0 : Nat} {i1 : Int32} {μ : Me} {Q : Int32 → Me → Prop} (hq : Rt x (some .int) (qI Q)) (h : S_X11_slack o0 i1 μ Q) : G x 2 0 [(0, .ref (gB x + o0)), (1, .int i1)] [] μ 0 0 := by
  unfold S_X11_slack at h
  refine g_aload_n f 0 dX11_slack_0 rfl rfl ?_
  refine g_iload_n f 1 dX11_slack_1 rfl rfl ?_
  obtain ⟨v1, h⟩ := h
  refine g_callV f mk_X11_335 v1 (c_X11_isPerson h) dX11_slack_2 rfl rfl (Nat.le_of_ble_eq_true rfl) (rm_ok (by decide) (by decide)) ⟨Nat.le_of_ble_eq_true rfl, Nat.le_of_ble_eq_true rfl⟩ (kI fun r4 μ2 x3 h => ?_)
  refine g_if_eq f 27 dX11_slack_5 rfl h (fun h => ?_) (fun h => ?_)
  · refine g_sipush f (-1000) dX11_slack_27 ks_m1000 ?_
    exact g_iret f hq (Nat.le_of_ble_eq_true rfl) (Nat.le_of_ble_eq_true rfl) dX11_slack_30 h
  · refine g_aload_n f 0 dX11_slack_8 rfl rfl ?_
    refine g_iload_n f 1 dX11_slack_9 rfl rfl ?_
    refine g_iconst f 0 dX11_slack_10 kc_0 ?_
    have v1 := mex_ok x3 v1
    refine g_callV f mk_X11_74 v1 (c_X11_get h) dX11_slack_11 rfl rfl (Nat.le_of_ble_eq_true rfl) (rm_ok (by decide) (by decide)) ⟨Nat.le_of_ble_eq_true rfl, Nat.le_of_ble_eq_true rfl⟩ (kI fun r7 μ5 x6 h => ?_)
    refine g_aload_n f 0 dX11_slack_14 rfl rfl ?_
    refine g_iload_n f 1 dX11_slack_15 rfl rfl ?_
    refine g_aload_n f 0 dX11_slack_16 rfl rfl ?_
    have v1 := mex_ok x6 v1
    refine g_callV f mk_X11_368 v1 (c_X11_runningNow h) dX11_slack_17 rfl rfl (Nat.le_of_ble_eq_true rfl) (rm_ok (by decide) (by decide)) ⟨Nat.le_of_ble_eq_true rfl, Nat.le_of_ble_eq_true rfl⟩ (kI fun r10 μ8 x9 h => ?_)
    have v1 := mex_ok x9 v1
    refine g_callV f mk_X11_371 v1 (c_X11_takesNow h) dX11_slack_20 rfl rfl (Nat.le_of_ble_eq_true rfl) (rm_ok (by decide) (by decide)) ⟨Nat.le_of_ble_eq_true rfl, Nat.le_of_ble_eq_true rfl⟩ (kI fun r13 μ11 x12 h => ?_)
    refine g_isub f dX11_slack_23 ?_
    refine g_goto f 30 dX11_slack_24 rfl ?_
    exact g_iret f hq (Nat.le_of_ble_eq_true rfl) (Nat.le_of_ble_eq_true rfl) dX11_slack_30 h
theorem c_X11_slack {Ω : OM} {o0 : Nat} {i1 : Int32} {μ : Me} {Q : Int32 → Me → Prop} (h : S_X11_slack o0 i1 μ Q) : CT Ω yX11_slack cX11_slack 2 (some .int) (rmc 6 0 0) [.ref (oB Ω + o0), .int i1] μ (qI Q) := CT_of (by decide) rfl (by simp [lg_sl, Value.category]) (fun x hΩ f hq hi => by subst hΩ; exact t_X11_slack f hq h)
theorem dX11_least_0 : decode cX11_least 0 = .ok (.aload_n 0, 1) := by decide +kernel
theorem dX11_least_1 : decode cX11_least 1 = .ok (.iload_n 1, 1) := by decide +kernel
theorem dX11_least_2 : decode cX11_least 2 = .ok (.invokevirtual 335, 3) := by decide +kernel
theorem dX11_least_5 : decode cX11_least 5 = .ok (.ifCond .eq 22, 3) := by decide +kernel
theorem dX11_least_8 : decode cX11_least 8 = .ok (.aload_n 0, 1) := by decide +kernel
theorem dX11_least_9 : decode cX11_least 9 = .ok (.iload_n 1, 1) := by decide +kernel
theorem dX11_least_10 : decode cX11_least 10 = .ok (.aload_n 0, 1) := by decide +kernel
theorem dX11_least_11 : decode cX11_least 11 = .ok (.invokevirtual 368, 3) := by decide +kernel
theorem dX11_least_14 : decode cX11_least 14 = .ok (.invokevirtual 371, 3) := by decide +kernel
theorem dX11_least_17 : decode cX11_least 17 = .ok (.i2l, 1) := by decide +kernel
theorem dX11_least_18 : decode cX11_least 18 = .ok (.iconst 0, 1) := by decide +kernel
theorem dX11_least_19 : decode cX11_least 19 = .ok (.bipush 99, 2) := by decide +kernel
theorem dX11_least_21 : decode cX11_least 21 = .ok (.invokestatic 288, 3) := by decide +kernel
theorem dX11_least_24 : decode cX11_least 24 = .ok (.goto 4, 3) := by decide +kernel
theorem dX11_least_27 : decode cX11_least 27 = .ok (.iconst (-1), 1) := by decide +kernel
theorem dX11_least_28 : decode cX11_least 28 = .ok (.ireturn, 1) := by decide +kernel
def S_X11_least (o0 : Nat) (i1 : Int32) (μ : Me) (Q : Int32 → Me → Prop) : Prop := mok μ o0 11 ∧ S_X11_isPerson o0 i1 μ (fun r4 μ2 => ((r4 = 0 → Q (-1) μ2) ∧ (¬ r4 = 0 → S_X11_runningNow o0 μ2 (fun r7 μ5 => S_X11_takesNow o0 i1 r7 μ5 (fun r10 μ8 => S_X11_cut r10.toInt64 0 99 μ8 (fun r13 μ11 => Q r13 μ11))))))
set_option maxHeartbeats 4000000 in
set_option maxRecDepth 100000 in
theorem t_X11_least {x : GX} (f : Fx x cX11_least RX11 2 (rmc 6 0 0)) {o0 : Nat} {i1 : Int32} {μ : Me} {Q : Int32 → Me → Prop} (hq : Rt x (some .int) (qI Q)) (h : S_X11_least o0 i1 μ Q) : G x 2 0 [(0, .ref (gB x + o0)), (1, .int i1)] [] μ 0 0 := by
  unfold S_X11_least at h
  refine g_aload_n f 0 dX11_least_0 rfl rfl ?_
  refine g_iload_n f 1 dX11_least_1 rfl rfl ?_
  obtain ⟨v1, h⟩ := h
  refine g_callV f mk_X11_335 v1 (c_X11_isPerson h) dX11_least_2 rfl rfl (Nat.le_of_ble_eq_true rfl) (rm_ok (by decide) (by decide)) ⟨Nat.le_of_ble_eq_true rfl, Nat.le_of_ble_eq_true rfl⟩ (kI fun r4 μ2 x3 h => ?_)
  refine g_if_eq f 27 dX11_least_5 rfl h (fun h => ?_) (fun h => ?_)
  · refine g_iconst f (-1) dX11_least_27 kc_m1 ?_
    exact g_iret f hq (Nat.le_of_ble_eq_true rfl) (Nat.le_of_ble_eq_true rfl) dX11_least_28 h
  · refine g_aload_n f 0 dX11_least_8 rfl rfl ?_
    refine g_iload_n f 1 dX11_least_9 rfl rfl ?_
    refine g_aload_n f 0 dX11_least_10 rfl rfl ?_
    have v1 := mex_ok x3 v1
    refine g_callV f mk_X11_368 v1 (c_X11_runningNow h) dX11_least_11 rfl rfl (Nat.le_of_ble_eq_true rfl) (rm_ok (by decide) (by decide)) ⟨Nat.le_of_ble_eq_true rfl, Nat.le_of_ble_eq_true rfl⟩ (kI fun r7 μ5 x6 h => ?_)
    have v1 := mex_ok x6 v1
    refine g_callV f mk_X11_371 v1 (c_X11_takesNow h) dX11_least_14 rfl rfl (Nat.le_of_ble_eq_true rfl) (rm_ok (by decide) (by decide)) ⟨Nat.le_of_ble_eq_true rfl, Nat.le_of_ble_eq_true rfl⟩ (kI fun r10 μ8 x9 h => ?_)
    refine g_i2l f dX11_least_17 ?_
    refine g_iconst f 0 dX11_least_18 kc_0 ?_
    refine g_bipush f 99 dX11_least_19 kb_99 ?_
    refine g_callS f mk_X11_288 (c_X11_cut h) dX11_least_21 rfl rfl (Nat.le_of_ble_eq_true rfl) (rm_ok (by decide) (by decide)) ⟨Nat.le_of_ble_eq_true rfl, Nat.le_of_ble_eq_true rfl⟩ (kI fun r13 μ11 x12 h => ?_)
    refine g_goto f 28 dX11_least_24 rfl ?_
    exact g_iret f hq (Nat.le_of_ble_eq_true rfl) (Nat.le_of_ble_eq_true rfl) dX11_least_28 h
theorem c_X11_least {Ω : OM} {o0 : Nat} {i1 : Int32} {μ : Me} {Q : Int32 → Me → Prop} (h : S_X11_least o0 i1 μ Q) : CT Ω yX11_least cX11_least 2 (some .int) (rmc 6 0 0) [.ref (oB Ω + o0), .int i1] μ (qI Q) := CT_of (by decide) rfl (by simp [lg_sl, Value.category]) (fun x hΩ f hq hi => by subst hΩ; exact t_X11_least f hq h)
theorem dX11_moves_0 : decode cX11_moves 0 = .ok (.aload_n 0, 1) := by decide +kernel
theorem dX11_moves_1 : decode cX11_moves 1 = .ok (.iload_n 1, 1) := by decide +kernel
theorem dX11_moves_2 : decode cX11_moves 2 = .ok (.invokevirtual 335, 3) := by decide +kernel
theorem dX11_moves_5 : decode cX11_moves 5 = .ok (.ifCond .eq 11, 3) := by decide +kernel
theorem dX11_moves_8 : decode cX11_moves 8 = .ok (.aload_n 0, 1) := by decide +kernel
theorem dX11_moves_9 : decode cX11_moves 9 = .ok (.iload_n 2, 1) := by decide +kernel
theorem dX11_moves_10 : decode cX11_moves 10 = .ok (.invokevirtual 335, 3) := by decide +kernel
theorem dX11_moves_13 : decode cX11_moves 13 = .ok (.ifCond .ne 5, 3) := by decide +kernel
theorem dX11_moves_16 : decode cX11_moves 16 = .ok (.iconst (-1), 1) := by decide +kernel
theorem dX11_moves_17 : decode cX11_moves 17 = .ok (.ireturn, 1) := by decide +kernel
theorem dX11_moves_18 : decode cX11_moves 18 = .ok (.aload_n 0, 1) := by decide +kernel
theorem dX11_moves_19 : decode cX11_moves 19 = .ok (.aload_n 0, 1) := by decide +kernel
theorem dX11_moves_20 : decode cX11_moves 20 = .ok (.getfield 7, 3) := by decide +kernel
theorem dX11_moves_23 : decode cX11_moves 23 = .ok (.bipush 7, 2) := by decide +kernel
theorem dX11_moves_25 : decode cX11_moves 25 = .ok (.iaload, 1) := by decide +kernel
theorem dX11_moves_26 : decode cX11_moves 26 = .ok (.iconst 1, 1) := by decide +kernel
theorem dX11_moves_27 : decode cX11_moves 27 = .ok (.iload_n 1, 1) := by decide +kernel
theorem dX11_moves_28 : decode cX11_moves 28 = .ok (.ishl, 1) := by decide +kernel
theorem dX11_moves_29 : decode cX11_moves 29 = .ok (.iconst (-1), 1) := by decide +kernel
theorem dX11_moves_30 : decode cX11_moves 30 = .ok (.ixor, 1) := by decide +kernel
theorem dX11_moves_31 : decode cX11_moves 31 = .ok (.iand, 1) := by decide +kernel
theorem dX11_moves_32 : decode cX11_moves 32 = .ok (.invokevirtual 320, 3) := by decide +kernel
theorem dX11_moves_35 : decode cX11_moves 35 = .ok (.aload_n 0, 1) := by decide +kernel
theorem dX11_moves_36 : decode cX11_moves 36 = .ok (.aload_n 0, 1) := by decide +kernel
theorem dX11_moves_37 : decode cX11_moves 37 = .ok (.getfield 7, 3) := by decide +kernel
theorem dX11_moves_40 : decode cX11_moves 40 = .ok (.bipush 7, 2) := by decide +kernel
theorem dX11_moves_42 : decode cX11_moves 42 = .ok (.iaload, 1) := by decide +kernel
theorem dX11_moves_43 : decode cX11_moves 43 = .ok (.iconst 1, 1) := by decide +kernel
theorem dX11_moves_44 : decode cX11_moves 44 = .ok (.iload_n 1, 1) := by decide +kernel
theorem dX11_moves_45 : decode cX11_moves 45 = .ok (.ishl, 1) := by decide +kernel
theorem dX11_moves_46 : decode cX11_moves 46 = .ok (.ior, 1) := by decide +kernel
theorem dX11_moves_47 : decode cX11_moves 47 = .ok (.invokevirtual 320, 3) := by decide +kernel
theorem dX11_moves_50 : decode cX11_moves 50 = .ok (.ixor, 1) := by decide +kernel
theorem dX11_moves_51 : decode cX11_moves 51 = .ok (.iload_n 2, 1) := by decide +kernel
theorem dX11_moves_52 : decode cX11_moves 52 = .ok (.ishr, 1) := by decide +kernel
theorem dX11_moves_53 : decode cX11_moves 53 = .ok (.iconst 1, 1) := by decide +kernel
theorem dX11_moves_54 : decode cX11_moves 54 = .ok (.iand, 1) := by decide +kernel
theorem dX11_moves_55 : decode cX11_moves 55 = .ok (.ireturn, 1) := by decide +kernel
def S_X11_moves (o0 : Nat) (i1 : Int32) (i2 : Int32) (μ : Me) (Q : Int32 → Me → Prop) : Prop := mok μ o0 11 ∧ S_X11_isPerson o0 i1 μ (fun r4 μ2 => ((r4 = 0 → Q (-1) μ2) ∧ (¬ r4 = 0 → S_X11_isPerson o0 i2 μ2 (fun r7 μ5 => ((¬ r7 = 0 → ∃ t8, mgr μ5 o0 0 = some t8 ∧ mok μ5 t8 12 ∧ vp_in (7 : Int32) (mln μ5 t8) ∧ S_X11_lateBy o0 ((mgi μ5 t8 (7 : Int32).toNatClampNeg) &&& ((1 <<< (i1 &&& 31)) ^^^ (-1))) μ5 (fun r12 μ10 => ∃ t13, mgr μ10 o0 0 = some t13 ∧ mok μ10 t13 12 ∧ vp_in (7 : Int32) (mln μ10 t13) ∧ S_X11_lateBy o0 ((mgi μ10 t13 (7 : Int32).toNatClampNeg) ||| (1 <<< (i1 &&& 31))) μ10 (fun r17 μ15 => Q (((r12 ^^^ r17) >>> (i2 &&& 31)) &&& 1) μ15))) ∧ (r7 = 0 → Q (-1) μ5))))))
set_option maxHeartbeats 4000000 in
set_option maxRecDepth 100000 in
theorem t_X11_moves {x : GX} (f : Fx x cX11_moves RX11 3 (rmc 6 0 0)) {o0 : Nat} {i1 : Int32} {i2 : Int32} {μ : Me} {Q : Int32 → Me → Prop} (hq : Rt x (some .int) (qI Q)) (h : S_X11_moves o0 i1 i2 μ Q) : G x 3 0 [(0, .ref (gB x + o0)), (1, .int i1), (2, .int i2)] [] μ 0 0 := by
  unfold S_X11_moves at h
  refine g_aload_n f 0 dX11_moves_0 rfl rfl ?_
  refine g_iload_n f 1 dX11_moves_1 rfl rfl ?_
  obtain ⟨v1, h⟩ := h
  refine g_callV f mk_X11_335 v1 (c_X11_isPerson h) dX11_moves_2 rfl rfl (Nat.le_of_ble_eq_true rfl) (rm_ok (by decide) (by decide)) ⟨Nat.le_of_ble_eq_true rfl, Nat.le_of_ble_eq_true rfl⟩ (kI fun r4 μ2 x3 h => ?_)
  refine g_if_eq f 16 dX11_moves_5 rfl h (fun h => ?_) (fun h => ?_)
  · refine g_iconst f (-1) dX11_moves_16 kc_m1 ?_
    exact g_iret f hq (Nat.le_of_ble_eq_true rfl) (Nat.le_of_ble_eq_true rfl) dX11_moves_17 h
  · refine g_aload_n f 0 dX11_moves_8 rfl rfl ?_
    refine g_iload_n f 2 dX11_moves_9 rfl rfl ?_
    have v1 := mex_ok x3 v1
    refine g_callV f mk_X11_335 v1 (c_X11_isPerson h) dX11_moves_10 rfl rfl (Nat.le_of_ble_eq_true rfl) (rm_ok (by decide) (by decide)) ⟨Nat.le_of_ble_eq_true rfl, Nat.le_of_ble_eq_true rfl⟩ (kI fun r7 μ5 x6 h => ?_)
    refine g_if_ne f 18 dX11_moves_13 rfl h (fun h => ?_) (fun h => ?_)
    · refine g_aload_n f 0 dX11_moves_18 rfl rfl ?_
      refine g_aload_n f 0 dX11_moves_19 rfl rfl ?_
      have v1 := mex_ok x6 v1
      refine g_getR f fk_X11_7 v1 dX11_moves_20 rfl h (fun t8 h => ?_)
      refine g_bipush f 7 dX11_moves_23 kb_7 ?_
      obtain ⟨v9, h⟩ := h
      refine g_iald f v9 dX11_moves_25 h (fun h => ?_)
      refine g_iconst f 1 dX11_moves_26 kc_1 ?_
      refine g_iload_n f 1 dX11_moves_27 rfl rfl ?_
      refine g_ishl f dX11_moves_28 ?_
      refine g_iconst f (-1) dX11_moves_29 kc_m1 ?_
      refine g_ixor f dX11_moves_30 ?_
      refine g_iand f dX11_moves_31 ?_
      refine g_callV f mk_X11_320 v1 (c_X11_lateBy h) dX11_moves_32 rfl rfl (Nat.le_of_ble_eq_true rfl) (rm_ok (by decide) (by decide)) ⟨Nat.le_of_ble_eq_true rfl, Nat.le_of_ble_eq_true rfl⟩ (kI fun r12 μ10 x11 h => ?_)
      refine g_aload_n f 0 dX11_moves_35 rfl rfl ?_
      refine g_aload_n f 0 dX11_moves_36 rfl rfl ?_
      have v1 := mex_ok x11 v1
      refine g_getR f fk_X11_7 v1 dX11_moves_37 rfl h (fun t13 h => ?_)
      refine g_bipush f 7 dX11_moves_40 kb_7 ?_
      obtain ⟨v14, h⟩ := h
      refine g_iald f v14 dX11_moves_42 h (fun h => ?_)
      refine g_iconst f 1 dX11_moves_43 kc_1 ?_
      refine g_iload_n f 1 dX11_moves_44 rfl rfl ?_
      refine g_ishl f dX11_moves_45 ?_
      refine g_ior f dX11_moves_46 ?_
      refine g_callV f mk_X11_320 v1 (c_X11_lateBy h) dX11_moves_47 rfl rfl (Nat.le_of_ble_eq_true rfl) (rm_ok (by decide) (by decide)) ⟨Nat.le_of_ble_eq_true rfl, Nat.le_of_ble_eq_true rfl⟩ (kI fun r17 μ15 x16 h => ?_)
      refine g_ixor f dX11_moves_50 ?_
      refine g_iload_n f 2 dX11_moves_51 rfl rfl ?_
      refine g_ishr f dX11_moves_52 ?_
      refine g_iconst f 1 dX11_moves_53 kc_1 ?_
      refine g_iand f dX11_moves_54 ?_
      exact g_iret f hq (Nat.le_of_ble_eq_true rfl) (Nat.le_of_ble_eq_true rfl) dX11_moves_55 h
    · refine g_iconst f (-1) dX11_moves_16 kc_m1 ?_
      exact g_iret f hq (Nat.le_of_ble_eq_true rfl) (Nat.le_of_ble_eq_true rfl) dX11_moves_17 h
theorem c_X11_moves {Ω : OM} {o0 : Nat} {i1 : Int32} {i2 : Int32} {μ : Me} {Q : Int32 → Me → Prop} (h : S_X11_moves o0 i1 i2 μ Q) : CT Ω yX11_moves cX11_moves 3 (some .int) (rmc 6 0 0) [.ref (oB Ω + o0), .int i1, .int i2] μ (qI Q) := CT_of (by decide) rfl (by simp [lg_sl, Value.category]) (fun x hΩ f hq hi => by subst hΩ; exact t_X11_moves f hq h)
theorem dX11_said_0 : decode cX11_said 0 = .ok (.iload_n 1, 1) := by decide +kernel
theorem dX11_said_1 : decode cX11_said 1 = .ok (.iconst (-1), 1) := by decide +kernel
theorem dX11_said_2 : decode cX11_said 2 = .ok (.if_icmp .ne 12, 3) := by decide +kernel
theorem dX11_said_5 : decode cX11_said 5 = .ok (.aload_n 0, 1) := by decide +kernel
theorem dX11_said_6 : decode cX11_said 6 = .ok (.getfield 7, 3) := by decide +kernel
theorem dX11_said_9 : decode cX11_said 9 = .ok (.iconst 5, 1) := by decide +kernel
theorem dX11_said_10 : decode cX11_said 10 = .ok (.iconst 0, 1) := by decide +kernel
theorem dX11_said_11 : decode cX11_said 11 = .ok (.iastore, 1) := by decide +kernel
theorem dX11_said_12 : decode cX11_said 12 = .ok (.iconst 0, 1) := by decide +kernel
theorem dX11_said_13 : decode cX11_said 13 = .ok (.ireturn, 1) := by decide +kernel
theorem dX11_said_14 : decode cX11_said 14 = .ok (.aload_n 0, 1) := by decide +kernel
theorem dX11_said_15 : decode cX11_said 15 = .ok (.iload_n 1, 1) := by decide +kernel
theorem dX11_said_16 : decode cX11_said 16 = .ok (.invokevirtual 335, 3) := by decide +kernel
theorem dX11_said_19 : decode cX11_said 19 = .ok (.ifCond .eq 25, 3) := by decide +kernel
theorem dX11_said_22 : decode cX11_said 22 = .ok (.iload_n 2, 1) := by decide +kernel
theorem dX11_said_23 : decode cX11_said 23 = .ok (.iconst 0, 1) := by decide +kernel
theorem dX11_said_24 : decode cX11_said 24 = .ok (.sipush 999, 3) := by decide +kernel
theorem dX11_said_27 : decode cX11_said 27 = .ok (.invokestatic 66, 3) := by decide +kernel
theorem dX11_said_30 : decode cX11_said 30 = .ok (.ifCond .eq 14, 3) := by decide +kernel
theorem dX11_said_33 : decode cX11_said 33 = .ok (.aload_n 0, 1) := by decide +kernel
theorem dX11_said_34 : decode cX11_said 34 = .ok (.getfield 7, 3) := by decide +kernel
theorem dX11_said_37 : decode cX11_said 37 = .ok (.iconst 5, 1) := by decide +kernel
theorem dX11_said_38 : decode cX11_said 38 = .ok (.iaload, 1) := by decide +kernel
theorem dX11_said_39 : decode cX11_said 39 = .ok (.bipush 8, 2) := by decide +kernel
theorem dX11_said_41 : decode cX11_said 41 = .ok (.if_icmp .ne 6, 3) := by decide +kernel
theorem dX11_said_44 : decode cX11_said 44 = .ok (.bipush (-2), 2) := by decide +kernel
theorem dX11_said_46 : decode cX11_said 46 = .ok (.ireturn, 1) := by decide +kernel
theorem dX11_said_47 : decode cX11_said 47 = .ok (.aload_n 0, 1) := by decide +kernel
theorem dX11_said_48 : decode cX11_said 48 = .ok (.getfield 7, 3) := by decide +kernel
theorem dX11_said_51 : decode cX11_said 51 = .ok (.bipush 91, 2) := by decide +kernel
theorem dX11_said_53 : decode cX11_said 53 = .ok (.iconst 2, 1) := by decide +kernel
theorem dX11_said_54 : decode cX11_said 54 = .ok (.aload_n 0, 1) := by decide +kernel
theorem dX11_said_55 : decode cX11_said 55 = .ok (.getfield 7, 3) := by decide +kernel
theorem dX11_said_58 : decode cX11_said 58 = .ok (.iconst 5, 1) := by decide +kernel
theorem dX11_said_59 : decode cX11_said 59 = .ok (.iaload, 1) := by decide +kernel
theorem dX11_said_60 : decode cX11_said 60 = .ok (.imul, 1) := by decide +kernel
theorem dX11_said_61 : decode cX11_said 61 = .ok (.iadd, 1) := by decide +kernel
theorem dX11_said_62 : decode cX11_said 62 = .ok (.iload_n 1, 1) := by decide +kernel
theorem dX11_said_63 : decode cX11_said 63 = .ok (.iastore, 1) := by decide +kernel
theorem dX11_said_64 : decode cX11_said 64 = .ok (.aload_n 0, 1) := by decide +kernel
theorem dX11_said_65 : decode cX11_said 65 = .ok (.getfield 7, 3) := by decide +kernel
theorem dX11_said_68 : decode cX11_said 68 = .ok (.bipush 91, 2) := by decide +kernel
theorem dX11_said_70 : decode cX11_said 70 = .ok (.iconst 2, 1) := by decide +kernel
theorem dX11_said_71 : decode cX11_said 71 = .ok (.aload_n 0, 1) := by decide +kernel
theorem dX11_said_72 : decode cX11_said 72 = .ok (.getfield 7, 3) := by decide +kernel
theorem dX11_said_75 : decode cX11_said 75 = .ok (.iconst 5, 1) := by decide +kernel
theorem dX11_said_76 : decode cX11_said 76 = .ok (.iaload, 1) := by decide +kernel
theorem dX11_said_77 : decode cX11_said 77 = .ok (.imul, 1) := by decide +kernel
theorem dX11_said_78 : decode cX11_said 78 = .ok (.iadd, 1) := by decide +kernel
theorem dX11_said_79 : decode cX11_said 79 = .ok (.iconst 1, 1) := by decide +kernel
theorem dX11_said_80 : decode cX11_said 80 = .ok (.iadd, 1) := by decide +kernel
theorem dX11_said_81 : decode cX11_said 81 = .ok (.iload_n 2, 1) := by decide +kernel
theorem dX11_said_82 : decode cX11_said 82 = .ok (.iastore, 1) := by decide +kernel
theorem dX11_said_83 : decode cX11_said 83 = .ok (.aload_n 0, 1) := by decide +kernel
theorem dX11_said_84 : decode cX11_said 84 = .ok (.getfield 7, 3) := by decide +kernel
theorem dX11_said_87 : decode cX11_said 87 = .ok (.iconst 5, 1) := by decide +kernel
theorem dX11_said_88 : decode cX11_said 88 = .ok (.dup2, 1) := by decide +kernel
theorem dX11_said_89 : decode cX11_said 89 = .ok (.iaload, 1) := by decide +kernel
theorem dX11_said_90 : decode cX11_said 90 = .ok (.iconst 1, 1) := by decide +kernel
theorem dX11_said_91 : decode cX11_said 91 = .ok (.iadd, 1) := by decide +kernel
theorem dX11_said_92 : decode cX11_said 92 = .ok (.iastore, 1) := by decide +kernel
theorem dX11_said_93 : decode cX11_said 93 = .ok (.aload_n 0, 1) := by decide +kernel
theorem dX11_said_94 : decode cX11_said 94 = .ok (.getfield 7, 3) := by decide +kernel
theorem dX11_said_97 : decode cX11_said 97 = .ok (.iconst 5, 1) := by decide +kernel
theorem dX11_said_98 : decode cX11_said 98 = .ok (.iaload, 1) := by decide +kernel
theorem dX11_said_99 : decode cX11_said 99 = .ok (.ireturn, 1) := by decide +kernel
def S_X11_said (o0 : Nat) (i1 : Int32) (i2 : Int32) (μ : Me) (Q : Int32 → Me → Prop) : Prop := ((¬ i1 = (-1) → mok μ o0 11 ∧ S_X11_isPerson o0 i1 μ (fun r4 μ2 => ((r4 = 0 → Q (-2) μ2) ∧ (¬ r4 = 0 → S_X11_isIn i2 0 999 μ2 (fun r7 μ5 => ((r7 = 0 → Q (-2) μ5) ∧ (¬ r7 = 0 → ∃ t8, mgr μ5 o0 0 = some t8 ∧ mok μ5 t8 12 ∧ vp_in (5 : Int32) (mln μ5 t8) ∧ ((¬ (mgi μ5 t8 (5 : Int32).toNatClampNeg) = 8 → ∃ t10, mgr μ5 o0 0 = some t10 ∧ ∃ t11, mgr μ5 o0 0 = some t11 ∧ mok μ5 t11 12 ∧ vp_in (5 : Int32) (mln μ5 t11) ∧ mok μ5 t10 12 ∧ vp_in (91 + (2 * (mgi μ5 t11 (5 : Int32).toNatClampNeg))) (mln μ5 t10) ∧ ∀ μ14, μ14 = msi μ5 t10 (91 + (2 * (mgi μ5 t11 (5 : Int32).toNatClampNeg))).toNatClampNeg i1 → ∃ t15, mgr μ14 o0 0 = some t15 ∧ ∃ t16, mgr μ14 o0 0 = some t16 ∧ mok μ14 t16 12 ∧ vp_in (5 : Int32) (mln μ14 t16) ∧ mok μ14 t15 12 ∧ vp_in ((91 + (2 * (mgi μ14 t16 (5 : Int32).toNatClampNeg))) + 1) (mln μ14 t15) ∧ ∀ μ19, μ19 = msi μ14 t15 ((91 + (2 * (mgi μ14 t16 (5 : Int32).toNatClampNeg))) + 1).toNatClampNeg i2 → ∃ t20, mgr μ19 o0 0 = some t20 ∧ mok μ19 t20 12 ∧ vp_in (5 : Int32) (mln μ19 t20) ∧ vp_in (5 : Int32) (mln μ19 t20) ∧ ∀ μ22, μ22 = msi μ19 t20 (5 : Int32).toNatClampNeg ((mgi μ19 t20 (5 : Int32).toNatClampNeg) + 1) → ∃ t23, mgr μ22 o0 0 = some t23 ∧ mok μ22 t23 12 ∧ vp_in (5 : Int32) (mln μ22 t23) ∧ Q (mgi μ22 t23 (5 : Int32).toNatClampNeg) μ22) ∧ ((mgi μ5 t8 (5 : Int32).toNatClampNeg) = 8 → Q (-2) μ5))))))))) ∧ (i1 = (-1) → mok μ o0 11 ∧ ∃ t26, mgr μ o0 0 = some t26 ∧ mok μ t26 12 ∧ vp_in (5 : Int32) (mln μ t26) ∧ ∀ μ28, μ28 = msi μ t26 (5 : Int32).toNatClampNeg 0 → Q 0 μ28))
set_option maxHeartbeats 4000000 in
set_option maxRecDepth 100000 in
theorem t_X11_said {x : GX} (f : Fx x cX11_said RX11 3 (rmc 2 0 0)) {o0 : Nat} {i1 : Int32} {i2 : Int32} {μ : Me} {Q : Int32 → Me → Prop} (hq : Rt x (some .int) (qI Q)) (h : S_X11_said o0 i1 i2 μ Q) : G x 3 0 [(0, .ref (gB x + o0)), (1, .int i1), (2, .int i2)] [] μ 0 0 := by
  unfold S_X11_said at h
  refine g_iload_n f 1 dX11_said_0 rfl rfl ?_
  refine g_iconst f (-1) dX11_said_1 kc_m1 ?_
  refine g_ic_ne f 14 dX11_said_2 rfl h (fun h => ?_) (fun h => ?_)
  · refine g_aload_n f 0 dX11_said_14 rfl rfl ?_
    refine g_iload_n f 1 dX11_said_15 rfl rfl ?_
    obtain ⟨v1, h⟩ := h
    refine g_callV f mk_X11_335 v1 (c_X11_isPerson h) dX11_said_16 rfl rfl (Nat.le_of_ble_eq_true rfl) (rm_ok (by decide) (by decide)) ⟨Nat.le_of_ble_eq_true rfl, Nat.le_of_ble_eq_true rfl⟩ (kI fun r4 μ2 x3 h => ?_)
    refine g_if_eq f 44 dX11_said_19 rfl h (fun h => ?_) (fun h => ?_)
    · refine g_bipush f (-2) dX11_said_44 kb_m2 ?_
      exact g_iret f hq (Nat.le_of_ble_eq_true rfl) (Nat.le_of_ble_eq_true rfl) dX11_said_46 h
    · refine g_iload_n f 2 dX11_said_22 rfl rfl ?_
      refine g_iconst f 0 dX11_said_23 kc_0 ?_
      refine g_sipush f 999 dX11_said_24 ks_999 ?_
      refine g_callS f mk_X11_66 (c_X11_isIn h) dX11_said_27 rfl rfl (Nat.le_of_ble_eq_true rfl) (rm_ok (by decide) (by decide)) ⟨Nat.le_of_ble_eq_true rfl, Nat.le_of_ble_eq_true rfl⟩ (kI fun r7 μ5 x6 h => ?_)
      refine g_if_eq f 44 dX11_said_30 rfl h (fun h => ?_) (fun h => ?_)
      · refine g_bipush f (-2) dX11_said_44 kb_m2 ?_
        exact g_iret f hq (Nat.le_of_ble_eq_true rfl) (Nat.le_of_ble_eq_true rfl) dX11_said_46 h
      · refine g_aload_n f 0 dX11_said_33 rfl rfl ?_
        have v1 := mex_ok x3 v1
        have v1 := mex_ok x6 v1
        refine g_getR f fk_X11_7 v1 dX11_said_34 rfl h (fun t8 h => ?_)
        refine g_iconst f 5 dX11_said_37 kc_5 ?_
        obtain ⟨v9, h⟩ := h
        refine g_iald f v9 dX11_said_38 h (fun h => ?_)
        refine g_bipush f 8 dX11_said_39 kb_8 ?_
        refine g_ic_ne f 47 dX11_said_41 rfl h (fun h => ?_) (fun h => ?_)
        · refine g_aload_n f 0 dX11_said_47 rfl rfl ?_
          refine g_getR f fk_X11_7 v1 dX11_said_48 rfl h (fun t10 h => ?_)
          refine g_bipush f 91 dX11_said_51 kb_91 ?_
          refine g_iconst f 2 dX11_said_53 kc_2 ?_
          refine g_aload_n f 0 dX11_said_54 rfl rfl ?_
          refine g_getR f fk_X11_7 v1 dX11_said_55 rfl h (fun t11 h => ?_)
          refine g_iconst f 5 dX11_said_58 kc_5 ?_
          obtain ⟨v12, h⟩ := h
          refine g_iald f v12 dX11_said_59 h (fun h => ?_)
          refine g_imul f dX11_said_60 ?_
          refine g_iadd f dX11_said_61 ?_
          refine g_iload_n f 1 dX11_said_62 rfl rfl ?_
          obtain ⟨v13, h⟩ := h
          refine g_iast f v13 dX11_said_63 h (fun h => ?_)
          refine g_aload_n f 0 dX11_said_64 rfl rfl ?_
          refine g_getR f fk_X11_7 v1 dX11_said_65 rfl h (fun t15 h => ?_)
          refine g_bipush f 91 dX11_said_68 kb_91 ?_
          refine g_iconst f 2 dX11_said_70 kc_2 ?_
          refine g_aload_n f 0 dX11_said_71 rfl rfl ?_
          refine g_getR f fk_X11_7 v1 dX11_said_72 rfl h (fun t16 h => ?_)
          refine g_iconst f 5 dX11_said_75 kc_5 ?_
          obtain ⟨v17, h⟩ := h
          refine g_iald f v17 dX11_said_76 h (fun h => ?_)
          refine g_imul f dX11_said_77 ?_
          refine g_iadd f dX11_said_78 ?_
          refine g_iconst f 1 dX11_said_79 kc_1 ?_
          refine g_iadd f dX11_said_80 ?_
          refine g_iload_n f 2 dX11_said_81 rfl rfl ?_
          obtain ⟨v18, h⟩ := h
          refine g_iast f v18 dX11_said_82 h (fun h => ?_)
          refine g_aload_n f 0 dX11_said_83 rfl rfl ?_
          refine g_getR f fk_X11_7 v1 dX11_said_84 rfl h (fun t20 h => ?_)
          refine g_iconst f 5 dX11_said_87 kc_5 ?_
          refine g_dup2_11 f dX11_said_88 rfl rfl ?_
          obtain ⟨v21, h⟩ := h
          refine g_iald f v21 dX11_said_89 h (fun h => ?_)
          refine g_iconst f 1 dX11_said_90 kc_1 ?_
          refine g_iadd f dX11_said_91 ?_
          refine g_iast f v21 dX11_said_92 h (fun h => ?_)
          refine g_aload_n f 0 dX11_said_93 rfl rfl ?_
          refine g_getR f fk_X11_7 v1 dX11_said_94 rfl h (fun t23 h => ?_)
          refine g_iconst f 5 dX11_said_97 kc_5 ?_
          obtain ⟨v24, h⟩ := h
          refine g_iald f v24 dX11_said_98 h (fun h => ?_)
          exact g_iret f hq (Nat.le_of_ble_eq_true rfl) (Nat.le_of_ble_eq_true rfl) dX11_said_99 h
        · refine g_bipush f (-2) dX11_said_44 kb_m2 ?_
          exact g_iret f hq (Nat.le_of_ble_eq_true rfl) (Nat.le_of_ble_eq_true rfl) dX11_said_46 h
  · refine g_aload_n f 0 dX11_said_5 rfl rfl ?_
    obtain ⟨v25, h⟩ := h
    refine g_getR f fk_X11_7 v25 dX11_said_6 rfl h (fun t26 h => ?_)
    refine g_iconst f 5 dX11_said_9 kc_5 ?_
    refine g_iconst f 0 dX11_said_10 kc_0 ?_
    obtain ⟨v27, h⟩ := h
    refine g_iast f v27 dX11_said_11 h (fun h => ?_)
    refine g_iconst f 0 dX11_said_12 kc_0 ?_
    exact g_iret f hq (Nat.le_of_ble_eq_true rfl) (Nat.le_of_ble_eq_true rfl) dX11_said_13 h
theorem c_X11_said {Ω : OM} {o0 : Nat} {i1 : Int32} {i2 : Int32} {μ : Me} {Q : Int32 → Me → Prop} (h : S_X11_said o0 i1 i2 μ Q) : CT Ω yX11_said cX11_said 3 (some .int) (rmc 2 0 0) [.ref (oB Ω + o0), .int i1, .int i2] μ (qI Q) := CT_of (by decide) rfl (by simp [lg_sl, Value.category]) (fun x hΩ f hq hi => by subst hΩ; exact t_X11_said f hq h)
theorem dX11_whose_0 : decode cX11_whose 0 = .ok (.iconst 0, 1) := by decide +kernel
theorem dX11_whose_1 : decode cX11_whose 1 = .ok (.istore_n 1, 1) := by decide +kernel
theorem dX11_whose_2 : decode cX11_whose 2 = .ok (.iconst 0, 1) := by decide +kernel
theorem dX11_whose_3 : decode cX11_whose 3 = .ok (.istore_n 2, 1) := by decide +kernel
theorem dX11_whose_4 : decode cX11_whose 4 = .ok (.iload_n 2, 1) := by decide +kernel
theorem dX11_whose_5 : decode cX11_whose 5 = .ok (.aload_n 0, 1) := by decide +kernel
theorem dX11_whose_6 : decode cX11_whose 6 = .ok (.getfield 7, 3) := by decide +kernel
theorem dX11_whose_9 : decode cX11_whose 9 = .ok (.iconst 1, 1) := by decide +kernel
theorem dX11_whose_10 : decode cX11_whose 10 = .ok (.iaload, 1) := by decide +kernel
theorem dX11_whose_11 : decode cX11_whose 11 = .ok (.if_icmp .ge 114, 3) := by decide +kernel
theorem dX11_whose_14 : decode cX11_whose 14 = .ok (.aload_n 0, 1) := by decide +kernel
theorem dX11_whose_15 : decode cX11_whose 15 = .ok (.iload_n 2, 1) := by decide +kernel
theorem dX11_whose_16 : decode cX11_whose 16 = .ok (.aload_n 0, 1) := by decide +kernel
theorem dX11_whose_17 : decode cX11_whose 17 = .ok (.getfield 7, 3) := by decide +kernel
theorem dX11_whose_20 : decode cX11_whose 20 = .ok (.bipush 7, 2) := by decide +kernel
theorem dX11_whose_22 : decode cX11_whose 22 = .ok (.iaload, 1) := by decide +kernel
theorem dX11_whose_23 : decode cX11_whose 23 = .ok (.invokevirtual 305, 3) := by decide +kernel
theorem dX11_whose_26 : decode cX11_whose 26 = .ok (.istore_n 3, 1) := by decide +kernel
theorem dX11_whose_27 : decode cX11_whose 27 = .ok (.iconst 1, 1) := by decide +kernel
theorem dX11_whose_28 : decode cX11_whose 28 = .ok (.istore 4, 2) := by decide +kernel
theorem dX11_whose_30 : decode cX11_whose 30 = .ok (.iconst 0, 1) := by decide +kernel
theorem dX11_whose_31 : decode cX11_whose 31 = .ok (.istore 5, 2) := by decide +kernel
theorem dX11_whose_33 : decode cX11_whose 33 = .ok (.iload 5, 2) := by decide +kernel
theorem dX11_whose_35 : decode cX11_whose 35 = .ok (.aload_n 0, 1) := by decide +kernel
theorem dX11_whose_36 : decode cX11_whose 36 = .ok (.getfield 7, 3) := by decide +kernel
theorem dX11_whose_39 : decode cX11_whose 39 = .ok (.iconst 5, 1) := by decide +kernel
theorem dX11_whose_40 : decode cX11_whose 40 = .ok (.iaload, 1) := by decide +kernel
theorem dX11_whose_41 : decode cX11_whose 41 = .ok (.if_icmp .ge 63, 3) := by decide +kernel
theorem dX11_whose_44 : decode cX11_whose 44 = .ok (.iload 4, 2) := by decide +kernel
theorem dX11_whose_46 : decode cX11_whose 46 = .ok (.ifCond .eq 49, 3) := by decide +kernel
theorem dX11_whose_49 : decode cX11_whose 49 = .ok (.aload_n 0, 1) := by decide +kernel
theorem dX11_whose_50 : decode cX11_whose 50 = .ok (.iload_n 2, 1) := by decide +kernel
theorem dX11_whose_51 : decode cX11_whose 51 = .ok (.aload_n 0, 1) := by decide +kernel
theorem dX11_whose_52 : decode cX11_whose 52 = .ok (.getfield 7, 3) := by decide +kernel
theorem dX11_whose_55 : decode cX11_whose 55 = .ok (.bipush 91, 2) := by decide +kernel
theorem dX11_whose_57 : decode cX11_whose 57 = .ok (.iconst 2, 1) := by decide +kernel
theorem dX11_whose_58 : decode cX11_whose 58 = .ok (.iload 5, 2) := by decide +kernel
theorem dX11_whose_60 : decode cX11_whose 60 = .ok (.imul, 1) := by decide +kernel
theorem dX11_whose_61 : decode cX11_whose 61 = .ok (.iadd, 1) := by decide +kernel
theorem dX11_whose_62 : decode cX11_whose 62 = .ok (.iaload, 1) := by decide +kernel
theorem dX11_whose_63 : decode cX11_whose 63 = .ok (.aload_n 0, 1) := by decide +kernel
theorem dX11_whose_64 : decode cX11_whose 64 = .ok (.getfield 7, 3) := by decide +kernel
theorem dX11_whose_67 : decode cX11_whose 67 = .ok (.bipush 7, 2) := by decide +kernel
theorem dX11_whose_69 : decode cX11_whose 69 = .ok (.iaload, 1) := by decide +kernel
theorem dX11_whose_70 : decode cX11_whose 70 = .ok (.iload_n 3, 1) := by decide +kernel
theorem dX11_whose_71 : decode cX11_whose 71 = .ok (.invokevirtual 308, 3) := by decide +kernel
theorem dX11_whose_74 : decode cX11_whose 74 = .ok (.aload_n 0, 1) := by decide +kernel
theorem dX11_whose_75 : decode cX11_whose 75 = .ok (.getfield 7, 3) := by decide +kernel
theorem dX11_whose_78 : decode cX11_whose 78 = .ok (.bipush 91, 2) := by decide +kernel
theorem dX11_whose_80 : decode cX11_whose 80 = .ok (.iconst 2, 1) := by decide +kernel
theorem dX11_whose_81 : decode cX11_whose 81 = .ok (.iload 5, 2) := by decide +kernel
theorem dX11_whose_83 : decode cX11_whose 83 = .ok (.imul, 1) := by decide +kernel
theorem dX11_whose_84 : decode cX11_whose 84 = .ok (.iadd, 1) := by decide +kernel
theorem dX11_whose_85 : decode cX11_whose 85 = .ok (.iconst 1, 1) := by decide +kernel
theorem dX11_whose_86 : decode cX11_whose 86 = .ok (.iadd, 1) := by decide +kernel
theorem dX11_whose_87 : decode cX11_whose 87 = .ok (.iaload, 1) := by decide +kernel
theorem dX11_whose_88 : decode cX11_whose 88 = .ok (.if_icmp .ne 7, 3) := by decide +kernel
theorem dX11_whose_91 : decode cX11_whose 91 = .ok (.iconst 1, 1) := by decide +kernel
theorem dX11_whose_92 : decode cX11_whose 92 = .ok (.goto 4, 3) := by decide +kernel
theorem dX11_whose_95 : decode cX11_whose 95 = .ok (.iconst 0, 1) := by decide +kernel
theorem dX11_whose_96 : decode cX11_whose 96 = .ok (.istore 4, 2) := by decide +kernel
theorem dX11_whose_98 : decode cX11_whose 98 = .ok (.iinc 5 1, 3) := by decide +kernel
theorem dX11_whose_101 : decode cX11_whose 101 = .ok (.goto (-68), 3) := by decide +kernel
theorem dX11_whose_104 : decode cX11_whose 104 = .ok (.iload_n 1, 1) := by decide +kernel
theorem dX11_whose_105 : decode cX11_whose 105 = .ok (.iload 4, 2) := by decide +kernel
theorem dX11_whose_107 : decode cX11_whose 107 = .ok (.ifCond .eq 9, 3) := by decide +kernel
theorem dX11_whose_110 : decode cX11_whose 110 = .ok (.iconst 1, 1) := by decide +kernel
theorem dX11_whose_111 : decode cX11_whose 111 = .ok (.iload_n 2, 1) := by decide +kernel
theorem dX11_whose_112 : decode cX11_whose 112 = .ok (.ishl, 1) := by decide +kernel
theorem dX11_whose_113 : decode cX11_whose 113 = .ok (.goto 4, 3) := by decide +kernel
theorem dX11_whose_116 : decode cX11_whose 116 = .ok (.iconst 0, 1) := by decide +kernel
theorem dX11_whose_117 : decode cX11_whose 117 = .ok (.ior, 1) := by decide +kernel
theorem dX11_whose_118 : decode cX11_whose 118 = .ok (.istore_n 1, 1) := by decide +kernel
theorem dX11_whose_119 : decode cX11_whose 119 = .ok (.iinc 2 1, 3) := by decide +kernel
theorem dX11_whose_122 : decode cX11_whose 122 = .ok (.goto (-118), 3) := by decide +kernel
theorem dX11_whose_125 : decode cX11_whose 125 = .ok (.iload_n 1, 1) := by decide +kernel
theorem dX11_whose_126 : decode cX11_whose 126 = .ok (.ireturn, 1) := by decide +kernel
def B_X11_whose_117 (o0 : Nat) (i2 : Int32) (s0 : Int32) (s1 : Int32) (μ : Me) (K4 : Int32 → Int32 → Me → Prop) (Q : Int32 → Me → Prop) : Prop := K4 (s1 ||| s0) (i2 + 1) μ
set_option maxHeartbeats 4000000 in
set_option maxRecDepth 100000 in
theorem tB_X11_whose_117 {x : GX} (f : Fx x cX11_whose RX11 6 (rmc 5 0 0)) {o0 : Nat} {i2 : Int32} {s0 : Int32} {s1 : Int32} {μ : Me} {Q : Int32 → Me → Prop} (hq : Rt x (some .int) (qI Q)) {K4 : Int32 → Int32 → Me → Prop} (hK4 : ∀ (a1 : Int32) (a2 : Int32) (ν : Me), K4 a1 a2 ν → G x 6 4 [(0, .ref (gB x + o0)), (1, .int a1), (2, .int a2)] [] ν 0 0) (h : B_X11_whose_117 o0 i2 s0 s1 μ K4 Q) : G x 6 117 [(0, .ref (gB x + o0)), (2, .int i2)] [.int s0, .int s1] μ 0 0 := by
  unfold B_X11_whose_117 at h
  refine g_ior f dX11_whose_117 ?_
  refine h_istore_n f dX11_whose_118 rfl (by decide) ?_
  refine h_iinc f 2 1 dX11_whose_119 rfl kc_1 (by decide) ?_
  refine g_goto f 4 dX11_whose_122 rfl ?_
  exact h_sub [2, 1, 0] rfl (hK4 _ _ _ h)
def B_X11_whose_96 (o0 : Nat) (i1 : Int32) (i2 : Int32) (i3 : Int32) (i5 : Int32) (s0 : Int32) (μ : Me) (K4 : Int32 → Int32 → Me → Prop) (K33 : Int32 → Int32 → Me → Prop) (Q : Int32 → Me → Prop) : Prop := K33 s0 (i5 + 1) μ
set_option maxHeartbeats 4000000 in
set_option maxRecDepth 100000 in
theorem tB_X11_whose_96 {x : GX} (f : Fx x cX11_whose RX11 6 (rmc 5 0 0)) {o0 : Nat} {i1 : Int32} {i2 : Int32} {i3 : Int32} {i5 : Int32} {s0 : Int32} {μ : Me} {Q : Int32 → Me → Prop} (hq : Rt x (some .int) (qI Q)) {K4 : Int32 → Int32 → Me → Prop} {K33 : Int32 → Int32 → Me → Prop} (hK4 : ∀ (a1 : Int32) (a2 : Int32) (ν : Me), K4 a1 a2 ν → G x 6 4 [(0, .ref (gB x + o0)), (1, .int a1), (2, .int a2)] [] ν 0 0) (hK33 : ∀ (a4 : Int32) (a5 : Int32) (ν : Me), K33 a4 a5 ν → G x 6 33 [(0, .ref (gB x + o0)), (1, .int i1), (2, .int i2), (3, .int i3), (4, .int a4), (5, .int a5)] [] ν 0 0) (h : B_X11_whose_96 o0 i1 i2 i3 i5 s0 μ K4 K33 Q) : G x 6 96 [(0, .ref (gB x + o0)), (1, .int i1), (2, .int i2), (3, .int i3), (5, .int i5)] [.int s0] μ 0 0 := by
  unfold B_X11_whose_96 at h
  refine h_istore f dX11_whose_96 (by decide) ?_
  refine h_iinc f 5 1 dX11_whose_98 rfl kc_1 (by decide) ?_
  refine g_goto f 33 dX11_whose_101 rfl ?_
  exact h_sub [2, 3, 4, 5, 1, 0] rfl (hK33 _ _ _ h)
def B_X11_whose_33 (o0 : Nat) (i1 : Int32) (i2 : Int32) (i3 : Int32) (i4 : Int32) (i5 : Int32) (μ : Me) (K4 : Int32 → Int32 → Me → Prop) (K33 : Int32 → Int32 → Me → Prop) (Q : Int32 → Me → Prop) : Prop := mok μ o0 11 ∧ ∃ t10, mgr μ o0 0 = some t10 ∧ mok μ t10 12 ∧ vp_in (5 : Int32) (mln μ t10) ∧ (((mgi μ t10 (5 : Int32).toNatClampNeg) ≤ i5 → ((i4 = 0 → B_X11_whose_117 o0 i2 0 i1 μ K4 Q) ∧ (¬ i4 = 0 → B_X11_whose_117 o0 i2 (1 <<< (i2 &&& 31)) i1 μ K4 Q))) ∧ (¬ (mgi μ t10 (5 : Int32).toNatClampNeg) ≤ i5 → ((i4 = 0 → B_X11_whose_96 o0 i1 i2 i3 i5 0 μ K4 K33 Q) ∧ (¬ i4 = 0 → ∃ t12, mgr μ o0 0 = some t12 ∧ mok μ t12 12 ∧ vp_in (91 + (2 * i5)) (mln μ t12) ∧ ∃ t14, mgr μ o0 0 = some t14 ∧ mok μ t14 12 ∧ vp_in (7 : Int32) (mln μ t14) ∧ S_X11_takesOf o0 i2 (mgi μ t12 (91 + (2 * i5)).toNatClampNeg) (mgi μ t14 (7 : Int32).toNatClampNeg) i3 μ (fun r18 μ16 => ∃ t19, mgr μ16 o0 0 = some t19 ∧ mok μ16 t19 12 ∧ vp_in ((91 + (2 * i5)) + 1) (mln μ16 t19) ∧ ((¬ r18 = (mgi μ16 t19 ((91 + (2 * i5)) + 1).toNatClampNeg) → B_X11_whose_96 o0 i1 i2 i3 i5 0 μ16 K4 K33 Q) ∧ (r18 = (mgi μ16 t19 ((91 + (2 * i5)) + 1).toNatClampNeg) → B_X11_whose_96 o0 i1 i2 i3 i5 1 μ16 K4 K33 Q)))))))
set_option maxHeartbeats 4000000 in
set_option maxRecDepth 100000 in
theorem tB_X11_whose_33 {x : GX} (f : Fx x cX11_whose RX11 6 (rmc 5 0 0)) {o0 : Nat} {i1 : Int32} {i2 : Int32} {i3 : Int32} {i4 : Int32} {i5 : Int32} {μ : Me} {Q : Int32 → Me → Prop} (hq : Rt x (some .int) (qI Q)) {K4 : Int32 → Int32 → Me → Prop} {K33 : Int32 → Int32 → Me → Prop} (hK4 : ∀ (a1 : Int32) (a2 : Int32) (ν : Me), K4 a1 a2 ν → G x 6 4 [(0, .ref (gB x + o0)), (1, .int a1), (2, .int a2)] [] ν 0 0) (hK33 : ∀ (a4 : Int32) (a5 : Int32) (ν : Me), K33 a4 a5 ν → G x 6 33 [(0, .ref (gB x + o0)), (1, .int i1), (2, .int i2), (3, .int i3), (4, .int a4), (5, .int a5)] [] ν 0 0) (h : B_X11_whose_33 o0 i1 i2 i3 i4 i5 μ K4 K33 Q) : G x 6 33 [(0, .ref (gB x + o0)), (1, .int i1), (2, .int i2), (3, .int i3), (4, .int i4), (5, .int i5)] [] μ 0 0 := by
  unfold B_X11_whose_33 at h
  refine g_iload f 5 dX11_whose_33 rfl ?_
  refine g_aload_n f 0 dX11_whose_35 rfl rfl ?_
  obtain ⟨v9, h⟩ := h
  refine g_getR f fk_X11_7 v9 dX11_whose_36 rfl h (fun t10 h => ?_)
  refine g_iconst f 5 dX11_whose_39 kc_5 ?_
  obtain ⟨v11, h⟩ := h
  refine g_iald f v11 dX11_whose_40 h (fun h => ?_)
  refine g_ic_ge f 104 dX11_whose_41 rfl h (fun h => ?_) (fun h => ?_)
  · refine g_iload_n f 1 dX11_whose_104 rfl rfl ?_
    refine g_iload f 4 dX11_whose_105 rfl ?_
    refine g_if_eq f 116 dX11_whose_107 rfl h (fun h => ?_) (fun h => ?_)
    · refine g_iconst f 0 dX11_whose_116 kc_0 ?_
      exact h_sub [0, 2] rfl (tB_X11_whose_117 f hq hK4 h)
    · refine g_iconst f 1 dX11_whose_110 kc_1 ?_
      refine g_iload_n f 2 dX11_whose_111 rfl rfl ?_
      refine g_ishl f dX11_whose_112 ?_
      refine g_goto f 117 dX11_whose_113 rfl ?_
      exact h_sub [0, 2] rfl (tB_X11_whose_117 f hq hK4 h)
  · refine g_iload f 4 dX11_whose_44 rfl ?_
    refine g_if_eq f 95 dX11_whose_46 rfl h (fun h => ?_) (fun h => ?_)
    · refine g_iconst f 0 dX11_whose_95 kc_0 ?_
      exact h_sub [0, 1, 2, 3, 5] rfl (tB_X11_whose_96 f hq hK4 hK33 h)
    · refine g_aload_n f 0 dX11_whose_49 rfl rfl ?_
      refine g_iload_n f 2 dX11_whose_50 rfl rfl ?_
      refine g_aload_n f 0 dX11_whose_51 rfl rfl ?_
      refine g_getR f fk_X11_7 v9 dX11_whose_52 rfl h (fun t12 h => ?_)
      refine g_bipush f 91 dX11_whose_55 kb_91 ?_
      refine g_iconst f 2 dX11_whose_57 kc_2 ?_
      refine g_iload f 5 dX11_whose_58 rfl ?_
      refine g_imul f dX11_whose_60 ?_
      refine g_iadd f dX11_whose_61 ?_
      obtain ⟨v13, h⟩ := h
      refine g_iald f v13 dX11_whose_62 h (fun h => ?_)
      refine g_aload_n f 0 dX11_whose_63 rfl rfl ?_
      refine g_getR f fk_X11_7 v9 dX11_whose_64 rfl h (fun t14 h => ?_)
      refine g_bipush f 7 dX11_whose_67 kb_7 ?_
      obtain ⟨v15, h⟩ := h
      refine g_iald f v15 dX11_whose_69 h (fun h => ?_)
      refine g_iload_n f 3 dX11_whose_70 rfl rfl ?_
      refine g_callV f mk_X11_308 v9 (c_X11_takesOf h) dX11_whose_71 rfl rfl (Nat.le_of_ble_eq_true rfl) (rm_ok (by decide) (by decide)) ⟨Nat.le_of_ble_eq_true rfl, Nat.le_of_ble_eq_true rfl⟩ (kI fun r18 μ16 x17 h => ?_)
      refine g_aload_n f 0 dX11_whose_74 rfl rfl ?_
      have v9 := mex_ok x17 v9
      refine g_getR f fk_X11_7 v9 dX11_whose_75 rfl h (fun t19 h => ?_)
      refine g_bipush f 91 dX11_whose_78 kb_91 ?_
      refine g_iconst f 2 dX11_whose_80 kc_2 ?_
      refine g_iload f 5 dX11_whose_81 rfl ?_
      refine g_imul f dX11_whose_83 ?_
      refine g_iadd f dX11_whose_84 ?_
      refine g_iconst f 1 dX11_whose_85 kc_1 ?_
      refine g_iadd f dX11_whose_86 ?_
      obtain ⟨v20, h⟩ := h
      refine g_iald f v20 dX11_whose_87 h (fun h => ?_)
      refine g_ic_ne f 95 dX11_whose_88 rfl h (fun h => ?_) (fun h => ?_)
      · refine g_iconst f 0 dX11_whose_95 kc_0 ?_
        exact h_sub [0, 1, 2, 3, 5] rfl (tB_X11_whose_96 f hq hK4 hK33 h)
      · refine g_iconst f 1 dX11_whose_91 kc_1 ?_
        refine g_goto f 96 dX11_whose_92 rfl ?_
        exact h_sub [0, 1, 2, 3, 5] rfl (tB_X11_whose_96 f hq hK4 hK33 h)
def L_X11_whose_33 (o0 : Nat) (i1 : Int32) (i2 : Int32) (i3 : Int32) (i4 : Int32) (i5 : Int32) (μ : Me) (K4 : Int32 → Int32 → Me → Prop) (Q : Int32 → Me → Prop) : Prop := ∃ I : Int32 → Int32 → Me → Nat → Prop, (∃ n, I i4 i5 μ n) ∧ ∀ (i4 : Int32) (i5 : Int32) (μ : Me) (n : Nat), I i4 i5 μ n → B_X11_whose_33 o0 i1 i2 i3 i4 i5 μ K4 (fun a4 a5 ν => ∃ n', n' < n ∧ I a4 a5 ν n') Q
set_option maxHeartbeats 4000000 in
set_option maxRecDepth 100000 in
theorem tL_X11_whose_33 {x : GX} (f : Fx x cX11_whose RX11 6 (rmc 5 0 0)) {o0 : Nat} {i1 : Int32} {i2 : Int32} {i3 : Int32} {i4 : Int32} {i5 : Int32} {μ : Me} {Q : Int32 → Me → Prop} (hq : Rt x (some .int) (qI Q)) {K4 : Int32 → Int32 → Me → Prop} (hK4 : ∀ (a1 : Int32) (a2 : Int32) (ν : Me), K4 a1 a2 ν → G x 6 4 [(0, .ref (gB x + o0)), (1, .int a1), (2, .int a2)] [] ν 0 0) (h : L_X11_whose_33 o0 i1 i2 i3 i4 i5 μ K4 Q) : G x 6 33 [(0, .ref (gB x + o0)), (1, .int i1), (2, .int i2), (3, .int i3), (4, .int i4), (5, .int i5)] [] μ 0 0 := by
  obtain ⟨I, ⟨n, hI⟩, hs⟩ := h
  induction n using Nat.strongRecOn generalizing i4 i5 μ with
  | ind n ih => exact tB_X11_whose_33 f hq hK4 (fun a4 a5 ν hk => by obtain ⟨n2, hn, hI2⟩ := hk; exact ih n2 hn hI2) (hs _ _ _ _ hI)
def B_X11_whose_4 (o0 : Nat) (i1 : Int32) (i2 : Int32) (μ : Me) (K4 : Int32 → Int32 → Me → Prop) (Q : Int32 → Me → Prop) : Prop := mok μ o0 11 ∧ ∃ t2, mgr μ o0 0 = some t2 ∧ mok μ t2 12 ∧ vp_in (1 : Int32) (mln μ t2) ∧ (((mgi μ t2 (1 : Int32).toNatClampNeg) ≤ i2 → Q i1 μ) ∧ (¬ (mgi μ t2 (1 : Int32).toNatClampNeg) ≤ i2 → ∃ t4, mgr μ o0 0 = some t4 ∧ mok μ t4 12 ∧ vp_in (7 : Int32) (mln μ t4) ∧ S_X11_runnersBy o0 i2 (mgi μ t4 (7 : Int32).toNatClampNeg) μ (fun r8 μ6 => L_X11_whose_33 o0 i1 i2 r8 1 0 μ6 K4 Q)))
set_option maxHeartbeats 4000000 in
set_option maxRecDepth 100000 in
theorem tB_X11_whose_4 {x : GX} (f : Fx x cX11_whose RX11 6 (rmc 5 0 0)) {o0 : Nat} {i1 : Int32} {i2 : Int32} {μ : Me} {Q : Int32 → Me → Prop} (hq : Rt x (some .int) (qI Q)) {K4 : Int32 → Int32 → Me → Prop} (hK4 : ∀ (a1 : Int32) (a2 : Int32) (ν : Me), K4 a1 a2 ν → G x 6 4 [(0, .ref (gB x + o0)), (1, .int a1), (2, .int a2)] [] ν 0 0) (h : B_X11_whose_4 o0 i1 i2 μ K4 Q) : G x 6 4 [(0, .ref (gB x + o0)), (1, .int i1), (2, .int i2)] [] μ 0 0 := by
  unfold B_X11_whose_4 at h
  refine g_iload_n f 2 dX11_whose_4 rfl rfl ?_
  refine g_aload_n f 0 dX11_whose_5 rfl rfl ?_
  obtain ⟨v1, h⟩ := h
  refine g_getR f fk_X11_7 v1 dX11_whose_6 rfl h (fun t2 h => ?_)
  refine g_iconst f 1 dX11_whose_9 kc_1 ?_
  obtain ⟨v3, h⟩ := h
  refine g_iald f v3 dX11_whose_10 h (fun h => ?_)
  refine g_ic_ge f 125 dX11_whose_11 rfl h (fun h => ?_) (fun h => ?_)
  · refine g_iload_n f 1 dX11_whose_125 rfl rfl ?_
    exact g_iret f hq (Nat.le_of_ble_eq_true rfl) (Nat.le_of_ble_eq_true rfl) dX11_whose_126 h
  · refine g_aload_n f 0 dX11_whose_14 rfl rfl ?_
    refine g_iload_n f 2 dX11_whose_15 rfl rfl ?_
    refine g_aload_n f 0 dX11_whose_16 rfl rfl ?_
    refine g_getR f fk_X11_7 v1 dX11_whose_17 rfl h (fun t4 h => ?_)
    refine g_bipush f 7 dX11_whose_20 kb_7 ?_
    obtain ⟨v5, h⟩ := h
    refine g_iald f v5 dX11_whose_22 h (fun h => ?_)
    refine g_callV f mk_X11_305 v1 (c_X11_runnersBy h) dX11_whose_23 rfl rfl (Nat.le_of_ble_eq_true rfl) (rm_ok (by decide) (by decide)) ⟨Nat.le_of_ble_eq_true rfl, Nat.le_of_ble_eq_true rfl⟩ (kI fun r8 μ6 x7 h => ?_)
    refine h_istore_n f dX11_whose_26 rfl (by decide) ?_
    refine g_iconst f 1 dX11_whose_27 kc_1 ?_
    refine h_istore f dX11_whose_28 (by decide) ?_
    refine g_iconst f 0 dX11_whose_30 kc_0 ?_
    refine h_istore f dX11_whose_31 (by decide) ?_
    exact h_sub [3, 4, 5, 2, 1, 0] rfl (tL_X11_whose_33 f hq hK4 h)
def L_X11_whose_4 (o0 : Nat) (i1 : Int32) (i2 : Int32) (μ : Me) (Q : Int32 → Me → Prop) : Prop := ∃ I : Int32 → Int32 → Me → Nat → Prop, (∃ n, I i1 i2 μ n) ∧ ∀ (i1 : Int32) (i2 : Int32) (μ : Me) (n : Nat), I i1 i2 μ n → B_X11_whose_4 o0 i1 i2 μ (fun a1 a2 ν => ∃ n', n' < n ∧ I a1 a2 ν n') Q
set_option maxHeartbeats 4000000 in
set_option maxRecDepth 100000 in
theorem tL_X11_whose_4 {x : GX} (f : Fx x cX11_whose RX11 6 (rmc 5 0 0)) {o0 : Nat} {i1 : Int32} {i2 : Int32} {μ : Me} {Q : Int32 → Me → Prop} (hq : Rt x (some .int) (qI Q)) (h : L_X11_whose_4 o0 i1 i2 μ Q) : G x 6 4 [(0, .ref (gB x + o0)), (1, .int i1), (2, .int i2)] [] μ 0 0 := by
  obtain ⟨I, ⟨n, hI⟩, hs⟩ := h
  induction n using Nat.strongRecOn generalizing i1 i2 μ with
  | ind n ih => exact tB_X11_whose_4 f hq (fun a1 a2 ν hk => by obtain ⟨n2, hn, hI2⟩ := hk; exact ih n2 hn hI2) (hs _ _ _ _ hI)
def S_X11_whose (o0 : Nat) (μ : Me) (Q : Int32 → Me → Prop) : Prop := L_X11_whose_4 o0 0 0 μ Q
set_option maxHeartbeats 4000000 in
set_option maxRecDepth 100000 in
theorem t_X11_whose {x : GX} (f : Fx x cX11_whose RX11 6 (rmc 5 0 0)) {o0 : Nat} {μ : Me} {Q : Int32 → Me → Prop} (hq : Rt x (some .int) (qI Q)) (h : S_X11_whose o0 μ Q) : G x 6 0 [(0, .ref (gB x + o0))] [] μ 0 0 := by
  unfold S_X11_whose at h
  refine g_iconst f 0 dX11_whose_0 kc_0 ?_
  refine h_istore_n f dX11_whose_1 rfl (by decide) ?_
  refine g_iconst f 0 dX11_whose_2 kc_0 ?_
  refine h_istore_n f dX11_whose_3 rfl (by decide) ?_
  exact h_sub [2, 1, 0] rfl (tL_X11_whose_4 f hq h)
theorem c_X11_whose {Ω : OM} {o0 : Nat} {μ : Me} {Q : Int32 → Me → Prop} (h : S_X11_whose o0 μ Q) : CT Ω yX11_whose cX11_whose 6 (some .int) (rmc 5 0 0) [.ref (oB Ω + o0)] μ (qI Q) := CT_of (by decide) rfl (by simp [lg_sl, Value.category]) (fun x hΩ f hq hi => by subst hΩ; exact t_X11_whose f hq h)
theorem dX11_image_0 : decode cX11_image 0 = .ok (.aload_n 0, 1) := by decide +kernel
theorem dX11_image_1 : decode cX11_image 1 = .ok (.getfield 7, 3) := by decide +kernel
theorem dX11_image_4 : decode cX11_image 4 = .ok (.aload_n 0, 1) := by decide +kernel
theorem dX11_image_5 : decode cX11_image 5 = .ok (.getfield 13, 3) := by decide +kernel
theorem dX11_image_8 : decode cX11_image 8 = .ok (.invokestatic 62, 3) := by decide +kernel
theorem dX11_image_11 : decode cX11_image 11 = .ok (.aload_n 0, 1) := by decide +kernel
theorem dX11_image_12 : decode cX11_image 12 = .ok (.getfield 7, 3) := by decide +kernel
theorem dX11_image_15 : decode cX11_image 15 = .ok (.bipush 6, 2) := by decide +kernel
theorem dX11_image_17 : decode cX11_image 17 = .ok (.iaload, 1) := by decide +kernel
theorem dX11_image_18 : decode cX11_image 18 = .ok (.ireturn, 1) := by decide +kernel
def S_X11_image (o0 : Nat) (μ : Me) (Q : Int32 → Me → Prop) : Prop := mok μ o0 11 ∧ ∃ t2, mgr μ o0 0 = some t2 ∧ ∃ t3, mgr μ o0 1 = some t3 ∧ S_X11_copy t2 t3 μ (fun μ4 => ∃ t7, mgr μ4 o0 0 = some t7 ∧ mok μ4 t7 12 ∧ vp_in (6 : Int32) (mln μ4 t7) ∧ Q (mgi μ4 t7 (6 : Int32).toNatClampNeg) μ4)
set_option maxHeartbeats 4000000 in
set_option maxRecDepth 100000 in
theorem t_X11_image {x : GX} (f : Fx x cX11_image RX11 1 (rmc 1 0 0)) {o0 : Nat} {μ : Me} {Q : Int32 → Me → Prop} (hq : Rt x (some .int) (qI Q)) (h : S_X11_image o0 μ Q) : G x 1 0 [(0, .ref (gB x + o0))] [] μ 0 0 := by
  unfold S_X11_image at h
  refine g_aload_n f 0 dX11_image_0 rfl rfl ?_
  obtain ⟨v1, h⟩ := h
  refine g_getR f fk_X11_7 v1 dX11_image_1 rfl h (fun t2 h => ?_)
  refine g_aload_n f 0 dX11_image_4 rfl rfl ?_
  refine g_getR f fk_X11_13 v1 dX11_image_5 rfl h (fun t3 h => ?_)
  refine g_callS f mk_X11_62 (c_X11_copy h) dX11_image_8 rfl rfl (Nat.le_of_ble_eq_true rfl) (rm_ok (by decide) (by decide)) ⟨Nat.le_of_ble_eq_true rfl, Nat.le_of_ble_eq_true rfl⟩ (kV fun μ4 x5 h => ?_)
  refine g_aload_n f 0 dX11_image_11 rfl rfl ?_
  have v1 := mex_ok x5 v1
  refine g_getR f fk_X11_7 v1 dX11_image_12 rfl h (fun t7 h => ?_)
  refine g_bipush f 6 dX11_image_15 kb_6 ?_
  obtain ⟨v8, h⟩ := h
  refine g_iald f v8 dX11_image_17 h (fun h => ?_)
  exact g_iret f hq (Nat.le_of_ble_eq_true rfl) (Nat.le_of_ble_eq_true rfl) dX11_image_18 h
theorem c_X11_image {Ω : OM} {o0 : Nat} {μ : Me} {Q : Int32 → Me → Prop} (h : S_X11_image o0 μ Q) : CT Ω yX11_image cX11_image 1 (some .int) (rmc 1 0 0) [.ref (oB Ω + o0)] μ (qI Q) := CT_of (by decide) rfl (by simp [lg_sl, Value.category]) (fun x hΩ f hq hi => by subst hΩ; exact t_X11_image f hq h)
theorem dX11_back_0 : decode cX11_back 0 = .ok (.aload_n 0, 1) := by decide +kernel
theorem dX11_back_1 : decode cX11_back 1 = .ok (.getfield 13, 3) := by decide +kernel
theorem dX11_back_4 : decode cX11_back 4 = .ok (.aload_n 0, 1) := by decide +kernel
theorem dX11_back_5 : decode cX11_back 5 = .ok (.getfield 7, 3) := by decide +kernel
theorem dX11_back_8 : decode cX11_back 8 = .ok (.invokestatic 62, 3) := by decide +kernel
theorem dX11_back_11 : decode cX11_back 11 = .ok (.aload_n 0, 1) := by decide +kernel
theorem dX11_back_12 : decode cX11_back 12 = .ok (.getfield 7, 3) := by decide +kernel
theorem dX11_back_15 : decode cX11_back 15 = .ok (.bipush 6, 2) := by decide +kernel
theorem dX11_back_17 : decode cX11_back 17 = .ok (.iaload, 1) := by decide +kernel
theorem dX11_back_18 : decode cX11_back 18 = .ok (.ireturn, 1) := by decide +kernel
def S_X11_back (o0 : Nat) (μ : Me) (Q : Int32 → Me → Prop) : Prop := mok μ o0 11 ∧ ∃ t2, mgr μ o0 1 = some t2 ∧ ∃ t3, mgr μ o0 0 = some t3 ∧ S_X11_copy t2 t3 μ (fun μ4 => ∃ t7, mgr μ4 o0 0 = some t7 ∧ mok μ4 t7 12 ∧ vp_in (6 : Int32) (mln μ4 t7) ∧ Q (mgi μ4 t7 (6 : Int32).toNatClampNeg) μ4)
set_option maxHeartbeats 4000000 in
set_option maxRecDepth 100000 in
theorem t_X11_back {x : GX} (f : Fx x cX11_back RX11 1 (rmc 1 0 0)) {o0 : Nat} {μ : Me} {Q : Int32 → Me → Prop} (hq : Rt x (some .int) (qI Q)) (h : S_X11_back o0 μ Q) : G x 1 0 [(0, .ref (gB x + o0))] [] μ 0 0 := by
  unfold S_X11_back at h
  refine g_aload_n f 0 dX11_back_0 rfl rfl ?_
  obtain ⟨v1, h⟩ := h
  refine g_getR f fk_X11_13 v1 dX11_back_1 rfl h (fun t2 h => ?_)
  refine g_aload_n f 0 dX11_back_4 rfl rfl ?_
  refine g_getR f fk_X11_7 v1 dX11_back_5 rfl h (fun t3 h => ?_)
  refine g_callS f mk_X11_62 (c_X11_copy h) dX11_back_8 rfl rfl (Nat.le_of_ble_eq_true rfl) (rm_ok (by decide) (by decide)) ⟨Nat.le_of_ble_eq_true rfl, Nat.le_of_ble_eq_true rfl⟩ (kV fun μ4 x5 h => ?_)
  refine g_aload_n f 0 dX11_back_11 rfl rfl ?_
  have v1 := mex_ok x5 v1
  refine g_getR f fk_X11_7 v1 dX11_back_12 rfl h (fun t7 h => ?_)
  refine g_bipush f 6 dX11_back_15 kb_6 ?_
  obtain ⟨v8, h⟩ := h
  refine g_iald f v8 dX11_back_17 h (fun h => ?_)
  exact g_iret f hq (Nat.le_of_ble_eq_true rfl) (Nat.le_of_ble_eq_true rfl) dX11_back_18 h
theorem c_X11_back {Ω : OM} {o0 : Nat} {μ : Me} {Q : Int32 → Me → Prop} (h : S_X11_back o0 μ Q) : CT Ω yX11_back cX11_back 1 (some .int) (rmc 1 0 0) [.ref (oB Ω + o0)] μ (qI Q) := CT_of (by decide) rfl (by simp [lg_sl, Value.category]) (fun x hΩ f hq hi => by subst hΩ; exact t_X11_back f hq h)
theorem dX11_about_0 : decode cX11_about 0 = .ok (.iload_n 1, 1) := by decide +kernel
theorem dX11_about_1 : decode cX11_about 1 = .ok (.iconst 0, 1) := by decide +kernel
theorem dX11_about_2 : decode cX11_about 2 = .ok (.iconst 5, 1) := by decide +kernel
theorem dX11_about_3 : decode cX11_about 3 = .ok (.invokestatic 66, 3) := by decide +kernel
theorem dX11_about_6 : decode cX11_about 6 = .ok (.ifCond .eq 12, 3) := by decide +kernel
theorem dX11_about_9 : decode cX11_about 9 = .ok (.aload_n 0, 1) := by decide +kernel
theorem dX11_about_10 : decode cX11_about 10 = .ok (.getfield 7, 3) := by decide +kernel
theorem dX11_about_13 : decode cX11_about 13 = .ok (.iload_n 1, 1) := by decide +kernel
theorem dX11_about_14 : decode cX11_about 14 = .ok (.iaload, 1) := by decide +kernel
theorem dX11_about_15 : decode cX11_about 15 = .ok (.goto 18, 3) := by decide +kernel
theorem dX11_about_18 : decode cX11_about 18 = .ok (.iload_n 1, 1) := by decide +kernel
theorem dX11_about_19 : decode cX11_about 19 = .ok (.bipush 6, 2) := by decide +kernel
theorem dX11_about_21 : decode cX11_about 21 = .ok (.if_icmp .ne 10, 3) := by decide +kernel
theorem dX11_about_24 : decode cX11_about 24 = .ok (.aload_n 0, 1) := by decide +kernel
theorem dX11_about_25 : decode cX11_about 25 = .ok (.getfield 86, 3) := by decide +kernel
theorem dX11_about_28 : decode cX11_about 28 = .ok (.goto 5, 3) := by decide +kernel
theorem dX11_about_31 : decode cX11_about 31 = .ok (.bipush (-2), 2) := by decide +kernel
theorem dX11_about_33 : decode cX11_about 33 = .ok (.ireturn, 1) := by decide +kernel
def S_X11_about (o0 : Nat) (i1 : Int32) (μ : Me) (Q : Int32 → Me → Prop) : Prop := S_X11_isIn i1 0 5 μ (fun r3 μ1 => ((r3 = 0 → ((¬ i1 = 6 → Q (-2) μ1) ∧ (i1 = 6 → mok μ1 o0 11 ∧ Q (mgi μ1 o0 4) μ1))) ∧ (¬ r3 = 0 → mok μ1 o0 11 ∧ ∃ t6, mgr μ1 o0 0 = some t6 ∧ mok μ1 t6 12 ∧ vp_in i1 (mln μ1 t6) ∧ Q (mgi μ1 t6 i1.toNatClampNeg) μ1)))
set_option maxHeartbeats 4000000 in
set_option maxRecDepth 100000 in
theorem t_X11_about {x : GX} (f : Fx x cX11_about RX11 2 (rmc 1 0 0)) {o0 : Nat} {i1 : Int32} {μ : Me} {Q : Int32 → Me → Prop} (hq : Rt x (some .int) (qI Q)) (h : S_X11_about o0 i1 μ Q) : G x 2 0 [(0, .ref (gB x + o0)), (1, .int i1)] [] μ 0 0 := by
  unfold S_X11_about at h
  refine g_iload_n f 1 dX11_about_0 rfl rfl ?_
  refine g_iconst f 0 dX11_about_1 kc_0 ?_
  refine g_iconst f 5 dX11_about_2 kc_5 ?_
  refine g_callS f mk_X11_66 (c_X11_isIn h) dX11_about_3 rfl rfl (Nat.le_of_ble_eq_true rfl) (rm_ok (by decide) (by decide)) ⟨Nat.le_of_ble_eq_true rfl, Nat.le_of_ble_eq_true rfl⟩ (kI fun r3 μ1 x2 h => ?_)
  refine g_if_eq f 18 dX11_about_6 rfl h (fun h => ?_) (fun h => ?_)
  · refine g_iload_n f 1 dX11_about_18 rfl rfl ?_
    refine g_bipush f 6 dX11_about_19 kb_6 ?_
    refine g_ic_ne f 31 dX11_about_21 rfl h (fun h => ?_) (fun h => ?_)
    · refine g_bipush f (-2) dX11_about_31 kb_m2 ?_
      exact g_iret f hq (Nat.le_of_ble_eq_true rfl) (Nat.le_of_ble_eq_true rfl) dX11_about_33 h
    · refine g_aload_n f 0 dX11_about_24 rfl rfl ?_
      obtain ⟨v4, h⟩ := h
      refine g_getI f fk_X11_86 v4 dX11_about_25 rfl ?_
      refine g_goto f 33 dX11_about_28 rfl ?_
      exact g_iret f hq (Nat.le_of_ble_eq_true rfl) (Nat.le_of_ble_eq_true rfl) dX11_about_33 h
  · refine g_aload_n f 0 dX11_about_9 rfl rfl ?_
    obtain ⟨v5, h⟩ := h
    refine g_getR f fk_X11_7 v5 dX11_about_10 rfl h (fun t6 h => ?_)
    refine g_iload_n f 1 dX11_about_13 rfl rfl ?_
    obtain ⟨v7, h⟩ := h
    refine g_iald f v7 dX11_about_14 h (fun h => ?_)
    refine g_goto f 33 dX11_about_15 rfl ?_
    exact g_iret f hq (Nat.le_of_ble_eq_true rfl) (Nat.le_of_ble_eq_true rfl) dX11_about_33 h
theorem c_X11_about {Ω : OM} {o0 : Nat} {i1 : Int32} {μ : Me} {Q : Int32 → Me → Prop} (h : S_X11_about o0 i1 μ Q) : CT Ω yX11_about cX11_about 2 (some .int) (rmc 1 0 0) [.ref (oB Ω + o0), .int i1] μ (qI Q) := CT_of (by decide) rfl (by simp [lg_sl, Value.category]) (fun x hΩ f hq hi => by subst hΩ; exact t_X11_about f hq h)
