/-! contracts by program (wip/whole/gen.py) -/
theorem dX10_early_0 : decode cX10_early 0 = .ok (.aload_n 0, 1) := by decide +kernel
theorem dX10_early_1 : decode cX10_early 1 = .ok (.getfield 12, 3) := by decide +kernel
theorem dX10_early_4 : decode cX10_early 4 = .ok (.iload_n 1, 1) := by decide +kernel
theorem dX10_early_5 : decode cX10_early 5 = .ok (.invokevirtual 221, 3) := by decide +kernel
theorem dX10_early_8 : decode cX10_early 8 = .ok (.ifCond .ne 5, 3) := by decide +kernel
theorem dX10_early_11 : decode cX10_early 11 = .ok (.iconst (-1), 1) := by decide +kernel
theorem dX10_early_12 : decode cX10_early 12 = .ok (.ireturn, 1) := by decide +kernel
theorem dX10_early_13 : decode cX10_early 13 = .ok (.aload_n 0, 1) := by decide +kernel
theorem dX10_early_14 : decode cX10_early 14 = .ok (.getfield 45, 3) := by decide +kernel
theorem dX10_early_17 : decode cX10_early 17 = .ok (.invokevirtual 227, 3) := by decide +kernel
theorem dX10_early_20 : decode cX10_early 20 = .ok (.aload_n 0, 1) := by decide +kernel
theorem dX10_early_21 : decode cX10_early 21 = .ok (.getfield 45, 3) := by decide +kernel
theorem dX10_early_24 : decode cX10_early 24 = .ok (.iload_n 1, 1) := by decide +kernel
theorem dX10_early_25 : decode cX10_early 25 = .ok (.invokevirtual 230, 3) := by decide +kernel
theorem dX10_early_28 : decode cX10_early 28 = .ok (.istore_n 2, 1) := by decide +kernel
theorem dX10_early_29 : decode cX10_early 29 = .ok (.iconst 0, 1) := by decide +kernel
theorem dX10_early_30 : decode cX10_early 30 = .ok (.istore_n 3, 1) := by decide +kernel
theorem dX10_early_31 : decode cX10_early 31 = .ok (.iconst 0, 1) := by decide +kernel
theorem dX10_early_32 : decode cX10_early 32 = .ok (.istore 4, 2) := by decide +kernel
theorem dX10_early_34 : decode cX10_early 34 = .ok (.iload 4, 2) := by decide +kernel
theorem dX10_early_36 : decode cX10_early 36 = .ok (.aload_n 0, 1) := by decide +kernel
theorem dX10_early_37 : decode cX10_early 37 = .ok (.getfield 12, 3) := by decide +kernel
theorem dX10_early_40 : decode cX10_early 40 = .ok (.getfield 283, 3) := by decide +kernel
theorem dX10_early_43 : decode cX10_early 43 = .ok (.if_icmp .ge 52, 3) := by decide +kernel
theorem dX10_early_46 : decode cX10_early 46 = .ok (.aload_n 0, 1) := by decide +kernel
theorem dX10_early_47 : decode cX10_early 47 = .ok (.getfield 45, 3) := by decide +kernel
theorem dX10_early_50 : decode cX10_early 50 = .ok (.iload 4, 2) := by decide +kernel
theorem dX10_early_52 : decode cX10_early 52 = .ok (.invokevirtual 284, 3) := by decide +kernel
theorem dX10_early_55 : decode cX10_early 55 = .ok (.ifCond .eq 34, 3) := by decide +kernel
theorem dX10_early_58 : decode cX10_early 58 = .ok (.iload_n 3, 1) := by decide +kernel
theorem dX10_early_59 : decode cX10_early 59 = .ok (.iconst 0, 1) := by decide +kernel
theorem dX10_early_60 : decode cX10_early 60 = .ok (.aload_n 0, 1) := by decide +kernel
theorem dX10_early_61 : decode cX10_early 61 = .ok (.getfield 12, 3) := by decide +kernel
theorem dX10_early_64 : decode cX10_early 64 = .ok (.getfield 160, 3) := by decide +kernel
theorem dX10_early_67 : decode cX10_early 67 = .ok (.getfield 187, 3) := by decide +kernel
theorem dX10_early_70 : decode cX10_early 70 = .ok (.iload 4, 2) := by decide +kernel
theorem dX10_early_72 : decode cX10_early 72 = .ok (.iaload, 1) := by decide +kernel
theorem dX10_early_73 : decode cX10_early 73 = .ok (.aload_n 0, 1) := by decide +kernel
theorem dX10_early_74 : decode cX10_early 74 = .ok (.getfield 45, 3) := by decide +kernel
theorem dX10_early_77 : decode cX10_early 77 = .ok (.iload 4, 2) := by decide +kernel
theorem dX10_early_79 : decode cX10_early 79 = .ok (.iload_n 2, 1) := by decide +kernel
theorem dX10_early_80 : decode cX10_early 80 = .ok (.invokevirtual 287, 3) := by decide +kernel
theorem dX10_early_83 : decode cX10_early 83 = .ok (.isub, 1) := by decide +kernel
theorem dX10_early_84 : decode cX10_early 84 = .ok (.invokestatic 290, 3) := by decide +kernel
theorem dX10_early_87 : decode cX10_early 87 = .ok (.iadd, 1) := by decide +kernel
theorem dX10_early_88 : decode cX10_early 88 = .ok (.istore_n 3, 1) := by decide +kernel
theorem dX10_early_89 : decode cX10_early 89 = .ok (.iinc 4 1, 3) := by decide +kernel
theorem dX10_early_92 : decode cX10_early 92 = .ok (.goto (-58), 3) := by decide +kernel
theorem dX10_early_95 : decode cX10_early 95 = .ok (.iload_n 3, 1) := by decide +kernel
theorem dX10_early_96 : decode cX10_early 96 = .ok (.ireturn, 1) := by decide +kernel
def B_X10_early_89 (o0 : Nat) (i2 : Int32) (i3 : Int32) (i4 : Int32) (μ : Me) (K34 : Int32 → Int32 → Me → Prop) (Q : Int32 → Me → Prop) : Prop := K34 i3 (i4 + 1) μ
set_option maxHeartbeats 4000000 in
set_option maxRecDepth 100000 in
theorem tB_X10_early_89 {x : GX} (f : Fx x cX10_early RX10 5 (rmc 4 0 0)) {o0 : Nat} {i2 : Int32} {i3 : Int32} {i4 : Int32} {μ : Me} {Q : Int32 → Me → Prop} (hq : Rt x (some .int) (qI Q)) {K34 : Int32 → Int32 → Me → Prop} (hK34 : ∀ (a3 : Int32) (a4 : Int32) (ν : Me), K34 a3 a4 ν → G x 5 34 [(0, .ref (gB x + o0)), (2, .int i2), (3, .int a3), (4, .int a4)] [] ν 0 0) (h : B_X10_early_89 o0 i2 i3 i4 μ K34 Q) : G x 5 89 [(0, .ref (gB x + o0)), (2, .int i2), (3, .int i3), (4, .int i4)] [] μ 0 0 := by
  unfold B_X10_early_89 at h
  refine h_iinc f 3 1 dX10_early_89 rfl kc_1 (by decide) ?_
  refine g_goto f 34 dX10_early_92 rfl ?_
  exact h_sub [1, 2, 3, 0] rfl (hK34 _ _ _ h)
def B_X10_early_34 (o0 : Nat) (i2 : Int32) (i3 : Int32) (i4 : Int32) (μ : Me) (K34 : Int32 → Int32 → Me → Prop) (Q : Int32 → Me → Prop) : Prop := mok μ o0 10 ∧ ∃ t18, mgr μ o0 0 = some t18 ∧ mok μ t18 9 ∧ (((mgi μ t18 0) ≤ i4 → Q i3 μ) ∧ (¬ (mgi μ t18 0) ≤ i4 → ∃ t20, mgr μ o0 5 = some t20 ∧ mok μ t20 4 ∧ S_X4_isUp t20 i4 μ (fun r24 μ22 => ((r24 = 0 → B_X10_early_89 o0 i2 i3 i4 μ22 K34 Q) ∧ (¬ r24 = 0 → ∃ t25, mgr μ22 o0 0 = some t25 ∧ mok μ22 t25 9 ∧ ∃ t27, mgr μ22 t25 14 = some t27 ∧ mok μ22 t27 3 ∧ ∃ t29, mgr μ22 t27 5 = some t29 ∧ mok μ22 t29 12 ∧ vp_in i4 (mln μ22 t29) ∧ ∃ t31, mgr μ22 o0 5 = some t31 ∧ mok μ22 t31 4 ∧ S_X4_takesAmong t31 i4 i2 μ22 (fun r35 μ33 => B_X10_early_89 o0 i2 (i3 + (if 0 < ((mgi μ22 t29 i4.toNatClampNeg) - r35) then ((mgi μ22 t29 i4.toNatClampNeg) - r35) else 0)) i4 μ33 K34 Q))))))
set_option maxHeartbeats 4000000 in
set_option maxRecDepth 100000 in
theorem tB_X10_early_34 {x : GX} (f : Fx x cX10_early RX10 5 (rmc 4 0 0)) {o0 : Nat} {i2 : Int32} {i3 : Int32} {i4 : Int32} {μ : Me} {Q : Int32 → Me → Prop} (hq : Rt x (some .int) (qI Q)) {K34 : Int32 → Int32 → Me → Prop} (hK34 : ∀ (a3 : Int32) (a4 : Int32) (ν : Me), K34 a3 a4 ν → G x 5 34 [(0, .ref (gB x + o0)), (2, .int i2), (3, .int a3), (4, .int a4)] [] ν 0 0) (h : B_X10_early_34 o0 i2 i3 i4 μ K34 Q) : G x 5 34 [(0, .ref (gB x + o0)), (2, .int i2), (3, .int i3), (4, .int i4)] [] μ 0 0 := by
  unfold B_X10_early_34 at h
  refine g_iload f 3 dX10_early_34 rfl ?_
  refine g_aload_n f 0 dX10_early_36 rfl rfl ?_
  obtain ⟨v17, h⟩ := h
  refine g_getR f fk_X10_12 v17 dX10_early_37 rfl h (fun t18 h => ?_)
  obtain ⟨v19, h⟩ := h
  refine g_getI f fk_X10_283 v19 dX10_early_40 rfl ?_
  refine g_ic_ge f 95 dX10_early_43 rfl h (fun h => ?_) (fun h => ?_)
  · refine g_iload_n f 2 dX10_early_95 rfl rfl ?_
    exact g_iret f hq (Nat.le_of_ble_eq_true rfl) (Nat.le_of_ble_eq_true rfl) dX10_early_96 h
  · refine g_aload_n f 0 dX10_early_46 rfl rfl ?_
    refine g_getR f fk_X10_45 v17 dX10_early_47 rfl h (fun t20 h => ?_)
    refine g_iload f 3 dX10_early_50 rfl ?_
    obtain ⟨v21, h⟩ := h
    refine g_callV f mk_X10_284 v21 (c_X4_isUp h) dX10_early_52 rfl rfl (Nat.le_of_ble_eq_true rfl) (rm_ok (by decide) (by decide)) ⟨Nat.le_of_ble_eq_true rfl, Nat.le_of_ble_eq_true rfl⟩ (kI fun r24 μ22 x23 h => ?_)
    refine g_if_eq f 89 dX10_early_55 rfl h (fun h => ?_) (fun h => ?_)
    · exact h_sub [0, 1, 2, 3] rfl (tB_X10_early_89 f hq hK34 h)
    · refine g_iload_n f 2 dX10_early_58 rfl rfl ?_
      refine g_iconst f 0 dX10_early_59 kc_0 ?_
      refine g_aload_n f 0 dX10_early_60 rfl rfl ?_
      have v17 := mex_ok x23 v17
      refine g_getR f fk_X10_12 v17 dX10_early_61 rfl h (fun t25 h => ?_)
      obtain ⟨v26, h⟩ := h
      refine g_getR f fk_X10_160 v26 dX10_early_64 rfl h (fun t27 h => ?_)
      obtain ⟨v28, h⟩ := h
      refine g_getR f fk_X10_187 v28 dX10_early_67 rfl h (fun t29 h => ?_)
      refine g_iload f 3 dX10_early_70 rfl ?_
      obtain ⟨v30, h⟩ := h
      refine g_iald f v30 dX10_early_72 h (fun h => ?_)
      refine g_aload_n f 0 dX10_early_73 rfl rfl ?_
      refine g_getR f fk_X10_45 v17 dX10_early_74 rfl h (fun t31 h => ?_)
      refine g_iload f 3 dX10_early_77 rfl ?_
      refine g_iload_n f 1 dX10_early_79 rfl rfl ?_
      obtain ⟨v32, h⟩ := h
      refine g_callV f mk_X10_287 v32 (c_X4_takesAmong h) dX10_early_80 rfl rfl (Nat.le_of_ble_eq_true rfl) (rm_ok (by decide) (by decide)) ⟨Nat.le_of_ble_eq_true rfl, Nat.le_of_ble_eq_true rfl⟩ (kI fun r35 μ33 x34 h => ?_)
      refine g_isub f dX10_early_83 ?_
      refine g_max f maxk_X10_290 dX10_early_84 rm_fr (rm_mx (Nat.le_of_ble_eq_true rfl)) (Nat.zero_le _) (Nat.zero_le _) ?_
      refine g_iadd f dX10_early_87 ?_
      refine h_istore_n f dX10_early_88 rfl (by decide) ?_
      exact h_sub [1, 2, 0, 3] rfl (tB_X10_early_89 f hq hK34 h)
def L_X10_early_34 (o0 : Nat) (i2 : Int32) (i3 : Int32) (i4 : Int32) (μ : Me) (Q : Int32 → Me → Prop) : Prop := ∃ I : Int32 → Int32 → Me → Nat → Prop, (∃ n, I i3 i4 μ n) ∧ ∀ (i3 : Int32) (i4 : Int32) (μ : Me) (n : Nat), I i3 i4 μ n → B_X10_early_34 o0 i2 i3 i4 μ (fun a3 a4 ν => ∃ n', n' < n ∧ I a3 a4 ν n') Q
set_option maxHeartbeats 4000000 in
set_option maxRecDepth 100000 in
theorem tL_X10_early_34 {x : GX} (f : Fx x cX10_early RX10 5 (rmc 4 0 0)) {o0 : Nat} {i2 : Int32} {i3 : Int32} {i4 : Int32} {μ : Me} {Q : Int32 → Me → Prop} (hq : Rt x (some .int) (qI Q)) (h : L_X10_early_34 o0 i2 i3 i4 μ Q) : G x 5 34 [(0, .ref (gB x + o0)), (2, .int i2), (3, .int i3), (4, .int i4)] [] μ 0 0 := by
  obtain ⟨I, ⟨n, hI⟩, hs⟩ := h
  induction n using Nat.strongRecOn generalizing i3 i4 μ with
  | ind n ih => exact tB_X10_early_34 f hq (fun a3 a4 ν hk => by obtain ⟨n2, hn, hI2⟩ := hk; exact ih n2 hn hI2) (hs _ _ _ _ hI)
def S_X10_early (o0 : Nat) (i1 : Int32) (μ : Me) (Q : Int32 → Me → Prop) : Prop := mok μ o0 10 ∧ ∃ t2, mgr μ o0 0 = some t2 ∧ mok μ t2 9 ∧ S_X9_areRings t2 i1 μ (fun r6 μ4 => ((¬ r6 = 0 → ∃ t7, mgr μ4 o0 5 = some t7 ∧ mok μ4 t7 4 ∧ S_X4_asNow t7 μ4 (fun μ9 => ∃ t12, mgr μ9 o0 5 = some t12 ∧ mok μ9 t12 4 ∧ S_X4_runningBy t12 i1 μ9 (fun r16 μ14 => L_X10_early_34 o0 r16 0 0 μ14 Q))) ∧ (r6 = 0 → Q (-1) μ4)))
set_option maxHeartbeats 4000000 in
set_option maxRecDepth 100000 in
theorem t_X10_early {x : GX} (f : Fx x cX10_early RX10 5 (rmc 4 0 0)) {o0 : Nat} {i1 : Int32} {μ : Me} {Q : Int32 → Me → Prop} (hq : Rt x (some .int) (qI Q)) (h : S_X10_early o0 i1 μ Q) : G x 5 0 [(0, .ref (gB x + o0)), (1, .int i1)] [] μ 0 0 := by
  unfold S_X10_early at h
  refine g_aload_n f 0 dX10_early_0 rfl rfl ?_
  obtain ⟨v1, h⟩ := h
  refine g_getR f fk_X10_12 v1 dX10_early_1 rfl h (fun t2 h => ?_)
  refine g_iload_n f 1 dX10_early_4 rfl rfl ?_
  obtain ⟨v3, h⟩ := h
  refine g_callV f mk_X10_221 v3 (c_X9_areRings h) dX10_early_5 rfl rfl (Nat.le_of_ble_eq_true rfl) (rm_ok (by decide) (by decide)) ⟨Nat.le_of_ble_eq_true rfl, Nat.le_of_ble_eq_true rfl⟩ (kI fun r6 μ4 x5 h => ?_)
  refine g_if_ne f 13 dX10_early_8 rfl h (fun h => ?_) (fun h => ?_)
  · refine g_aload_n f 0 dX10_early_13 rfl rfl ?_
    have v1 := mex_ok x5 v1
    refine g_getR f fk_X10_45 v1 dX10_early_14 rfl h (fun t7 h => ?_)
    obtain ⟨v8, h⟩ := h
    refine g_callV f mk_X10_227 v8 (c_X4_asNow h) dX10_early_17 rfl rfl (Nat.le_of_ble_eq_true rfl) (rm_ok (by decide) (by decide)) ⟨Nat.le_of_ble_eq_true rfl, Nat.le_of_ble_eq_true rfl⟩ (kV fun μ9 x10 h => ?_)
    refine g_aload_n f 0 dX10_early_20 rfl rfl ?_
    have v1 := mex_ok x10 v1
    refine g_getR f fk_X10_45 v1 dX10_early_21 rfl h (fun t12 h => ?_)
    refine g_iload_n f 1 dX10_early_24 rfl rfl ?_
    obtain ⟨v13, h⟩ := h
    refine g_callV f mk_X10_230 v13 (c_X4_runningBy h) dX10_early_25 rfl rfl (Nat.le_of_ble_eq_true rfl) (rm_ok (by decide) (by decide)) ⟨Nat.le_of_ble_eq_true rfl, Nat.le_of_ble_eq_true rfl⟩ (kI fun r16 μ14 x15 h => ?_)
    refine h_istore_n f dX10_early_28 rfl (by decide) ?_
    refine g_iconst f 0 dX10_early_29 kc_0 ?_
    refine h_istore_n f dX10_early_30 rfl (by decide) ?_
    refine g_iconst f 0 dX10_early_31 kc_0 ?_
    refine h_istore f dX10_early_32 (by decide) ?_
    exact h_sub [3, 2, 1, 0] rfl (tL_X10_early_34 f hq h)
  · refine g_iconst f (-1) dX10_early_11 kc_m1 ?_
    exact g_iret f hq (Nat.le_of_ble_eq_true rfl) (Nat.le_of_ble_eq_true rfl) dX10_early_12 h
theorem c_X10_early {Ω : OM} {o0 : Nat} {i1 : Int32} {μ : Me} {Q : Int32 → Me → Prop} (h : S_X10_early o0 i1 μ Q) : CT Ω yX10_early cX10_early 5 (some .int) (rmc 4 0 0) [.ref (oB Ω + o0), .int i1] μ (qI Q) := CT_of (by decide) rfl (by simp [lg_sl, Value.category]) (fun x hΩ f hq hi => by subst hΩ; exact t_X10_early f hq h)
theorem dX10_weathers_0 : decode cX10_weathers 0 = .ok (.aload_n 0, 1) := by decide +kernel
theorem dX10_weathers_1 : decode cX10_weathers 1 = .ok (.getfield 12, 3) := by decide +kernel
theorem dX10_weathers_4 : decode cX10_weathers 4 = .ok (.iload_n 1, 1) := by decide +kernel
theorem dX10_weathers_5 : decode cX10_weathers 5 = .ok (.invokevirtual 175, 3) := by decide +kernel
theorem dX10_weathers_8 : decode cX10_weathers 8 = .ok (.ifCond .ne 5, 3) := by decide +kernel
theorem dX10_weathers_11 : decode cX10_weathers 11 = .ok (.iconst (-1), 1) := by decide +kernel
theorem dX10_weathers_12 : decode cX10_weathers 12 = .ok (.ireturn, 1) := by decide +kernel
theorem dX10_weathers_13 : decode cX10_weathers 13 = .ok (.aload_n 0, 1) := by decide +kernel
theorem dX10_weathers_14 : decode cX10_weathers 14 = .ok (.getfield 45, 3) := by decide +kernel
theorem dX10_weathers_17 : decode cX10_weathers 17 = .ok (.invokevirtual 227, 3) := by decide +kernel
theorem dX10_weathers_20 : decode cX10_weathers 20 = .ok (.iconst 0, 1) := by decide +kernel
theorem dX10_weathers_21 : decode cX10_weathers 21 = .ok (.istore_n 2, 1) := by decide +kernel
theorem dX10_weathers_22 : decode cX10_weathers 22 = .ok (.iconst 0, 1) := by decide +kernel
theorem dX10_weathers_23 : decode cX10_weathers 23 = .ok (.istore_n 3, 1) := by decide +kernel
theorem dX10_weathers_24 : decode cX10_weathers 24 = .ok (.iload_n 3, 1) := by decide +kernel
theorem dX10_weathers_25 : decode cX10_weathers 25 = .ok (.bipush 10, 2) := by decide +kernel
theorem dX10_weathers_27 : decode cX10_weathers 27 = .ok (.if_icmp .ge 41, 3) := by decide +kernel
theorem dX10_weathers_30 : decode cX10_weathers 30 = .ok (.aload_n 0, 1) := by decide +kernel
theorem dX10_weathers_31 : decode cX10_weathers 31 = .ok (.getfield 45, 3) := by decide +kernel
theorem dX10_weathers_34 : decode cX10_weathers 34 = .ok (.iload_n 3, 1) := by decide +kernel
theorem dX10_weathers_35 : decode cX10_weathers 35 = .ok (.putfield 276, 3) := by decide +kernel
theorem dX10_weathers_38 : decode cX10_weathers 38 = .ok (.iload_n 2, 1) := by decide +kernel
theorem dX10_weathers_39 : decode cX10_weathers 39 = .ok (.aload_n 0, 1) := by decide +kernel
theorem dX10_weathers_40 : decode cX10_weathers 40 = .ok (.getfield 45, 3) := by decide +kernel
theorem dX10_weathers_43 : decode cX10_weathers 43 = .ok (.aload_n 0, 1) := by decide +kernel
theorem dX10_weathers_44 : decode cX10_weathers 44 = .ok (.getfield 12, 3) := by decide +kernel
theorem dX10_weathers_47 : decode cX10_weathers 47 = .ok (.getfield 160, 3) := by decide +kernel
theorem dX10_weathers_50 : decode cX10_weathers 50 = .ok (.getfield 202, 3) := by decide +kernel
theorem dX10_weathers_53 : decode cX10_weathers 53 = .ok (.invokevirtual 277, 3) := by decide +kernel
theorem dX10_weathers_56 : decode cX10_weathers 56 = .ok (.iload_n 1, 1) := by decide +kernel
theorem dX10_weathers_57 : decode cX10_weathers 57 = .ok (.ishr, 1) := by decide +kernel
theorem dX10_weathers_58 : decode cX10_weathers 58 = .ok (.iconst 1, 1) := by decide +kernel
theorem dX10_weathers_59 : decode cX10_weathers 59 = .ok (.iand, 1) := by decide +kernel
theorem dX10_weathers_60 : decode cX10_weathers 60 = .ok (.iadd, 1) := by decide +kernel
theorem dX10_weathers_61 : decode cX10_weathers 61 = .ok (.istore_n 2, 1) := by decide +kernel
theorem dX10_weathers_62 : decode cX10_weathers 62 = .ok (.iinc 3 1, 3) := by decide +kernel
theorem dX10_weathers_65 : decode cX10_weathers 65 = .ok (.goto (-41), 3) := by decide +kernel
theorem dX10_weathers_68 : decode cX10_weathers 68 = .ok (.iload_n 2, 1) := by decide +kernel
theorem dX10_weathers_69 : decode cX10_weathers 69 = .ok (.ireturn, 1) := by decide +kernel
def B_X10_weathers_24 (o0 : Nat) (i1 : Int32) (i2 : Int32) (i3 : Int32) (μ : Me) (K24 : Int32 → Int32 → Me → Prop) (Q : Int32 → Me → Prop) : Prop := ((10 ≤ i3 → Q i2 μ) ∧ (¬ 10 ≤ i3 → mok μ o0 10 ∧ ∃ t13, mgr μ o0 5 = some t13 ∧ mok μ t13 4 ∧ ∀ μ15, μ15 = msi μ t13 4 i3 → ∃ t16, mgr μ15 o0 5 = some t16 ∧ ∃ t17, mgr μ15 o0 0 = some t17 ∧ mok μ15 t17 9 ∧ ∃ t19, mgr μ15 t17 14 = some t19 ∧ mok μ15 t19 3 ∧ mok μ15 t16 4 ∧ S_X4_lateBy t16 (mgi μ15 t19 0) μ15 (fun r24 μ22 => K24 (i2 + ((r24 >>> (i1 &&& 31)) &&& 1)) (i3 + 1) μ22)))
set_option maxHeartbeats 4000000 in
set_option maxRecDepth 100000 in
theorem tB_X10_weathers_24 {x : GX} (f : Fx x cX10_weathers RX10 4 (rmc 4 0 0)) {o0 : Nat} {i1 : Int32} {i2 : Int32} {i3 : Int32} {μ : Me} {Q : Int32 → Me → Prop} (hq : Rt x (some .int) (qI Q)) {K24 : Int32 → Int32 → Me → Prop} (hK24 : ∀ (a2 : Int32) (a3 : Int32) (ν : Me), K24 a2 a3 ν → G x 4 24 [(0, .ref (gB x + o0)), (1, .int i1), (2, .int a2), (3, .int a3)] [] ν 0 0) (h : B_X10_weathers_24 o0 i1 i2 i3 μ K24 Q) : G x 4 24 [(0, .ref (gB x + o0)), (1, .int i1), (2, .int i2), (3, .int i3)] [] μ 0 0 := by
  unfold B_X10_weathers_24 at h
  refine g_iload_n f 3 dX10_weathers_24 rfl rfl ?_
  refine g_bipush f 10 dX10_weathers_25 kb_10 ?_
  refine g_ic_ge f 68 dX10_weathers_27 rfl h (fun h => ?_) (fun h => ?_)
  · refine g_iload_n f 2 dX10_weathers_68 rfl rfl ?_
    exact g_iret f hq (Nat.le_of_ble_eq_true rfl) (Nat.le_of_ble_eq_true rfl) dX10_weathers_69 h
  · refine g_aload_n f 0 dX10_weathers_30 rfl rfl ?_
    obtain ⟨v12, h⟩ := h
    refine g_getR f fk_X10_45 v12 dX10_weathers_31 rfl h (fun t13 h => ?_)
    refine g_iload_n f 3 dX10_weathers_34 rfl rfl ?_
    obtain ⟨v14, h⟩ := h
    refine g_putI f fk_X10_276 v14 dX10_weathers_35 rfl h (fun h => ?_)
    refine g_iload_n f 2 dX10_weathers_38 rfl rfl ?_
    refine g_aload_n f 0 dX10_weathers_39 rfl rfl ?_
    refine g_getR f fk_X10_45 v12 dX10_weathers_40 rfl h (fun t16 h => ?_)
    refine g_aload_n f 0 dX10_weathers_43 rfl rfl ?_
    refine g_getR f fk_X10_12 v12 dX10_weathers_44 rfl h (fun t17 h => ?_)
    obtain ⟨v18, h⟩ := h
    refine g_getR f fk_X10_160 v18 dX10_weathers_47 rfl h (fun t19 h => ?_)
    obtain ⟨v20, h⟩ := h
    refine g_getI f fk_X10_202 v20 dX10_weathers_50 rfl ?_
    obtain ⟨v21, h⟩ := h
    refine g_callV f mk_X10_277 v21 (c_X4_lateBy h) dX10_weathers_53 rfl rfl (Nat.le_of_ble_eq_true rfl) (rm_ok (by decide) (by decide)) ⟨Nat.le_of_ble_eq_true rfl, Nat.le_of_ble_eq_true rfl⟩ (kI fun r24 μ22 x23 h => ?_)
    refine g_iload_n f 1 dX10_weathers_56 rfl rfl ?_
    refine g_ishr f dX10_weathers_57 ?_
    refine g_iconst f 1 dX10_weathers_58 kc_1 ?_
    refine g_iand f dX10_weathers_59 ?_
    refine g_iadd f dX10_weathers_60 ?_
    refine h_istore_n f dX10_weathers_61 rfl (by decide) ?_
    refine h_iinc f 3 1 dX10_weathers_62 rfl kc_1 (by decide) ?_
    refine g_goto f 24 dX10_weathers_65 rfl ?_
    exact h_sub [2, 3, 1, 0] rfl (hK24 _ _ _ h)
def L_X10_weathers_24 (o0 : Nat) (i1 : Int32) (i2 : Int32) (i3 : Int32) (μ : Me) (Q : Int32 → Me → Prop) : Prop := ∃ I : Int32 → Int32 → Me → Nat → Prop, (∃ n, I i2 i3 μ n) ∧ ∀ (i2 : Int32) (i3 : Int32) (μ : Me) (n : Nat), I i2 i3 μ n → B_X10_weathers_24 o0 i1 i2 i3 μ (fun a2 a3 ν => ∃ n', n' < n ∧ I a2 a3 ν n') Q
set_option maxHeartbeats 4000000 in
set_option maxRecDepth 100000 in
theorem tL_X10_weathers_24 {x : GX} (f : Fx x cX10_weathers RX10 4 (rmc 4 0 0)) {o0 : Nat} {i1 : Int32} {i2 : Int32} {i3 : Int32} {μ : Me} {Q : Int32 → Me → Prop} (hq : Rt x (some .int) (qI Q)) (h : L_X10_weathers_24 o0 i1 i2 i3 μ Q) : G x 4 24 [(0, .ref (gB x + o0)), (1, .int i1), (2, .int i2), (3, .int i3)] [] μ 0 0 := by
  obtain ⟨I, ⟨n, hI⟩, hs⟩ := h
  induction n using Nat.strongRecOn generalizing i2 i3 μ with
  | ind n ih => exact tB_X10_weathers_24 f hq (fun a2 a3 ν hk => by obtain ⟨n2, hn, hI2⟩ := hk; exact ih n2 hn hI2) (hs _ _ _ _ hI)
def S_X10_weathers (o0 : Nat) (i1 : Int32) (μ : Me) (Q : Int32 → Me → Prop) : Prop := mok μ o0 10 ∧ ∃ t2, mgr μ o0 0 = some t2 ∧ mok μ t2 9 ∧ S_X9_isPerson t2 i1 μ (fun r6 μ4 => ((¬ r6 = 0 → ∃ t7, mgr μ4 o0 5 = some t7 ∧ mok μ4 t7 4 ∧ S_X4_asNow t7 μ4 (fun μ9 => L_X10_weathers_24 o0 i1 0 0 μ9 Q)) ∧ (r6 = 0 → Q (-1) μ4)))
set_option maxHeartbeats 4000000 in
set_option maxRecDepth 100000 in
theorem t_X10_weathers {x : GX} (f : Fx x cX10_weathers RX10 4 (rmc 4 0 0)) {o0 : Nat} {i1 : Int32} {μ : Me} {Q : Int32 → Me → Prop} (hq : Rt x (some .int) (qI Q)) (h : S_X10_weathers o0 i1 μ Q) : G x 4 0 [(0, .ref (gB x + o0)), (1, .int i1)] [] μ 0 0 := by
  unfold S_X10_weathers at h
  refine g_aload_n f 0 dX10_weathers_0 rfl rfl ?_
  obtain ⟨v1, h⟩ := h
  refine g_getR f fk_X10_12 v1 dX10_weathers_1 rfl h (fun t2 h => ?_)
  refine g_iload_n f 1 dX10_weathers_4 rfl rfl ?_
  obtain ⟨v3, h⟩ := h
  refine g_callV f mk_X10_175 v3 (c_X9_isPerson h) dX10_weathers_5 rfl rfl (Nat.le_of_ble_eq_true rfl) (rm_ok (by decide) (by decide)) ⟨Nat.le_of_ble_eq_true rfl, Nat.le_of_ble_eq_true rfl⟩ (kI fun r6 μ4 x5 h => ?_)
  refine g_if_ne f 13 dX10_weathers_8 rfl h (fun h => ?_) (fun h => ?_)
  · refine g_aload_n f 0 dX10_weathers_13 rfl rfl ?_
    have v1 := mex_ok x5 v1
    refine g_getR f fk_X10_45 v1 dX10_weathers_14 rfl h (fun t7 h => ?_)
    obtain ⟨v8, h⟩ := h
    refine g_callV f mk_X10_227 v8 (c_X4_asNow h) dX10_weathers_17 rfl rfl (Nat.le_of_ble_eq_true rfl) (rm_ok (by decide) (by decide)) ⟨Nat.le_of_ble_eq_true rfl, Nat.le_of_ble_eq_true rfl⟩ (kV fun μ9 x10 h => ?_)
    refine g_iconst f 0 dX10_weathers_20 kc_0 ?_
    refine h_istore_n f dX10_weathers_21 rfl (by decide) ?_
    refine g_iconst f 0 dX10_weathers_22 kc_0 ?_
    refine h_istore_n f dX10_weathers_23 rfl (by decide) ?_
    exact h_sub [2, 3, 1, 0] rfl (tL_X10_weathers_24 f hq h)
  · refine g_iconst f (-1) dX10_weathers_11 kc_m1 ?_
    exact g_iret f hq (Nat.le_of_ble_eq_true rfl) (Nat.le_of_ble_eq_true rfl) dX10_weathers_12 h
theorem c_X10_weathers {Ω : OM} {o0 : Nat} {i1 : Int32} {μ : Me} {Q : Int32 → Me → Prop} (h : S_X10_weathers o0 i1 μ Q) : CT Ω yX10_weathers cX10_weathers 4 (some .int) (rmc 4 0 0) [.ref (oB Ω + o0), .int i1] μ (qI Q) := CT_of (by decide) rfl (by simp [lg_sl, Value.category]) (fun x hΩ f hq hi => by subst hΩ; exact t_X10_weathers f hq h)
theorem dX10_wouldBeInTimeWalking_0 : decode cX10_wouldBeInTimeWalking 0 = .ok (.aload_n 0, 1) := by decide +kernel
theorem dX10_wouldBeInTimeWalking_1 : decode cX10_wouldBeInTimeWalking 1 = .ok (.getfield 45, 3) := by decide +kernel
theorem dX10_wouldBeInTimeWalking_4 : decode cX10_wouldBeInTimeWalking 4 = .ok (.iload_n 1, 1) := by decide +kernel
theorem dX10_wouldBeInTimeWalking_5 : decode cX10_wouldBeInTimeWalking 5 = .ok (.iconst 0, 1) := by decide +kernel
theorem dX10_wouldBeInTimeWalking_6 : decode cX10_wouldBeInTimeWalking 6 = .ok (.aload_n 0, 1) := by decide +kernel
theorem dX10_wouldBeInTimeWalking_7 : decode cX10_wouldBeInTimeWalking 7 = .ok (.getfield 45, 3) := by decide +kernel
theorem dX10_wouldBeInTimeWalking_10 : decode cX10_wouldBeInTimeWalking 10 = .ok (.iload_n 1, 1) := by decide +kernel
theorem dX10_wouldBeInTimeWalking_11 : decode cX10_wouldBeInTimeWalking 11 = .ok (.iload_n 2, 1) := by decide +kernel
theorem dX10_wouldBeInTimeWalking_12 : decode cX10_wouldBeInTimeWalking 12 = .ok (.invokevirtual 305, 3) := by decide +kernel
theorem dX10_wouldBeInTimeWalking_15 : decode cX10_wouldBeInTimeWalking 15 = .ok (.invokevirtual 301, 3) := by decide +kernel
theorem dX10_wouldBeInTimeWalking_18 : decode cX10_wouldBeInTimeWalking 18 = .ok (.aload_n 0, 1) := by decide +kernel
theorem dX10_wouldBeInTimeWalking_19 : decode cX10_wouldBeInTimeWalking 19 = .ok (.getfield 12, 3) := by decide +kernel
theorem dX10_wouldBeInTimeWalking_22 : decode cX10_wouldBeInTimeWalking 22 = .ok (.getfield 160, 3) := by decide +kernel
theorem dX10_wouldBeInTimeWalking_25 : decode cX10_wouldBeInTimeWalking 25 = .ok (.getfield 187, 3) := by decide +kernel
theorem dX10_wouldBeInTimeWalking_28 : decode cX10_wouldBeInTimeWalking 28 = .ok (.iload_n 1, 1) := by decide +kernel
theorem dX10_wouldBeInTimeWalking_29 : decode cX10_wouldBeInTimeWalking 29 = .ok (.iaload, 1) := by decide +kernel
theorem dX10_wouldBeInTimeWalking_30 : decode cX10_wouldBeInTimeWalking 30 = .ok (.if_icmp .gt 7, 3) := by decide +kernel
theorem dX10_wouldBeInTimeWalking_33 : decode cX10_wouldBeInTimeWalking 33 = .ok (.iconst 1, 1) := by decide +kernel
theorem dX10_wouldBeInTimeWalking_34 : decode cX10_wouldBeInTimeWalking 34 = .ok (.goto 4, 3) := by decide +kernel
theorem dX10_wouldBeInTimeWalking_37 : decode cX10_wouldBeInTimeWalking 37 = .ok (.iconst 0, 1) := by decide +kernel
theorem dX10_wouldBeInTimeWalking_38 : decode cX10_wouldBeInTimeWalking 38 = .ok (.ireturn, 1) := by decide +kernel
def S_X10_wouldBeInTimeWalking (o0 : Nat) (i1 : Int32) (i2 : Int32) (μ : Me) (Q : Int32 → Me → Prop) : Prop := mok μ o0 10 ∧ ∃ t2, mgr μ o0 5 = some t2 ∧ ∃ t3, mgr μ o0 5 = some t3 ∧ mok μ t3 4 ∧ S_X4_jamOf t3 i1 i2 μ (fun r7 μ5 => mok μ5 t2 4 ∧ S_X4_takesOf t2 i1 0 r7 μ5 (fun r11 μ9 => ∃ t12, mgr μ9 o0 0 = some t12 ∧ mok μ9 t12 9 ∧ ∃ t14, mgr μ9 t12 14 = some t14 ∧ mok μ9 t14 3 ∧ ∃ t16, mgr μ9 t14 5 = some t16 ∧ mok μ9 t16 12 ∧ vp_in i1 (mln μ9 t16) ∧ (((mgi μ9 t16 i1.toNatClampNeg) < r11 → Q 0 μ9) ∧ (¬ (mgi μ9 t16 i1.toNatClampNeg) < r11 → Q 1 μ9))))
set_option maxHeartbeats 4000000 in
set_option maxRecDepth 100000 in
theorem t_X10_wouldBeInTimeWalking {x : GX} (f : Fx x cX10_wouldBeInTimeWalking RX10 3 (rmc 3 0 0)) {o0 : Nat} {i1 : Int32} {i2 : Int32} {μ : Me} {Q : Int32 → Me → Prop} (hq : Rt x (some .boolean) (qI Q)) (h : S_X10_wouldBeInTimeWalking o0 i1 i2 μ Q) : G x 3 0 [(0, .ref (gB x + o0)), (1, .int i1), (2, .int i2)] [] μ 0 0 := by
  unfold S_X10_wouldBeInTimeWalking at h
  refine g_aload_n f 0 dX10_wouldBeInTimeWalking_0 rfl rfl ?_
  obtain ⟨v1, h⟩ := h
  refine g_getR f fk_X10_45 v1 dX10_wouldBeInTimeWalking_1 rfl h (fun t2 h => ?_)
  refine g_iload_n f 1 dX10_wouldBeInTimeWalking_4 rfl rfl ?_
  refine g_iconst f 0 dX10_wouldBeInTimeWalking_5 kc_0 ?_
  refine g_aload_n f 0 dX10_wouldBeInTimeWalking_6 rfl rfl ?_
  refine g_getR f fk_X10_45 v1 dX10_wouldBeInTimeWalking_7 rfl h (fun t3 h => ?_)
  refine g_iload_n f 1 dX10_wouldBeInTimeWalking_10 rfl rfl ?_
  refine g_iload_n f 2 dX10_wouldBeInTimeWalking_11 rfl rfl ?_
  obtain ⟨v4, h⟩ := h
  refine g_callV f mk_X10_305 v4 (c_X4_jamOf h) dX10_wouldBeInTimeWalking_12 rfl rfl (Nat.le_of_ble_eq_true rfl) (rm_ok (by decide) (by decide)) ⟨Nat.le_of_ble_eq_true rfl, Nat.le_of_ble_eq_true rfl⟩ (kI fun r7 μ5 x6 h => ?_)
  obtain ⟨v8, h⟩ := h
  refine g_callV f mk_X10_301 v8 (c_X4_takesOf h) dX10_wouldBeInTimeWalking_15 rfl rfl (Nat.le_of_ble_eq_true rfl) (rm_ok (by decide) (by decide)) ⟨Nat.le_of_ble_eq_true rfl, Nat.le_of_ble_eq_true rfl⟩ (kI fun r11 μ9 x10 h => ?_)
  refine g_aload_n f 0 dX10_wouldBeInTimeWalking_18 rfl rfl ?_
  have v1 := mex_ok x6 v1
  have v1 := mex_ok x10 v1
  refine g_getR f fk_X10_12 v1 dX10_wouldBeInTimeWalking_19 rfl h (fun t12 h => ?_)
  obtain ⟨v13, h⟩ := h
  refine g_getR f fk_X10_160 v13 dX10_wouldBeInTimeWalking_22 rfl h (fun t14 h => ?_)
  obtain ⟨v15, h⟩ := h
  refine g_getR f fk_X10_187 v15 dX10_wouldBeInTimeWalking_25 rfl h (fun t16 h => ?_)
  refine g_iload_n f 1 dX10_wouldBeInTimeWalking_28 rfl rfl ?_
  obtain ⟨v17, h⟩ := h
  refine g_iald f v17 dX10_wouldBeInTimeWalking_29 h (fun h => ?_)
  refine g_ic_gt f 37 dX10_wouldBeInTimeWalking_30 rfl h (fun h => ?_) (fun h => ?_)
  · refine g_iconst f 0 dX10_wouldBeInTimeWalking_37 kc_0 ?_
    exact g_zret f hq (Nat.le_of_ble_eq_true rfl) (Nat.le_of_ble_eq_true rfl) dX10_wouldBeInTimeWalking_38 zb_0.1 h
  · refine g_iconst f 1 dX10_wouldBeInTimeWalking_33 kc_1 ?_
    refine g_goto f 38 dX10_wouldBeInTimeWalking_34 rfl ?_
    exact g_zret f hq (Nat.le_of_ble_eq_true rfl) (Nat.le_of_ble_eq_true rfl) dX10_wouldBeInTimeWalking_38 zb_1.1 h
theorem c_X10_wouldBeInTimeWalking {Ω : OM} {o0 : Nat} {i1 : Int32} {i2 : Int32} {μ : Me} {Q : Int32 → Me → Prop} (h : S_X10_wouldBeInTimeWalking o0 i1 i2 μ Q) : CT Ω yX10_wouldBeInTimeWalking cX10_wouldBeInTimeWalking 3 (some .boolean) (rmc 3 0 0) [.ref (oB Ω + o0), .int i1, .int i2] μ (qI Q) := CT_of (by decide) rfl (by simp [lg_sl, Value.category]) (fun x hΩ f hq hi => by subst hΩ; exact t_X10_wouldBeInTimeWalking f hq h)
theorem dX10_needless_0 : decode cX10_needless 0 = .ok (.aload_n 0, 1) := by decide +kernel
theorem dX10_needless_1 : decode cX10_needless 1 = .ok (.invokevirtual 196, 3) := by decide +kernel
theorem dX10_needless_4 : decode cX10_needless 4 = .ok (.istore_n 1, 1) := by decide +kernel
theorem dX10_needless_5 : decode cX10_needless 5 = .ok (.iconst 0, 1) := by decide +kernel
theorem dX10_needless_6 : decode cX10_needless 6 = .ok (.istore_n 2, 1) := by decide +kernel
theorem dX10_needless_7 : decode cX10_needless 7 = .ok (.iconst 0, 1) := by decide +kernel
theorem dX10_needless_8 : decode cX10_needless 8 = .ok (.istore_n 3, 1) := by decide +kernel
theorem dX10_needless_9 : decode cX10_needless 9 = .ok (.iload_n 3, 1) := by decide +kernel
theorem dX10_needless_10 : decode cX10_needless 10 = .ok (.aload_n 0, 1) := by decide +kernel
theorem dX10_needless_11 : decode cX10_needless 11 = .ok (.getfield 12, 3) := by decide +kernel
theorem dX10_needless_14 : decode cX10_needless 14 = .ok (.getfield 283, 3) := by decide +kernel
theorem dX10_needless_17 : decode cX10_needless 17 = .ok (.if_icmp .ge 33, 3) := by decide +kernel
theorem dX10_needless_20 : decode cX10_needless 20 = .ok (.iload_n 1, 1) := by decide +kernel
theorem dX10_needless_21 : decode cX10_needless 21 = .ok (.iload_n 3, 1) := by decide +kernel
theorem dX10_needless_22 : decode cX10_needless 22 = .ok (.ishr, 1) := by decide +kernel
theorem dX10_needless_23 : decode cX10_needless 23 = .ok (.iconst 1, 1) := by decide +kernel
theorem dX10_needless_24 : decode cX10_needless 24 = .ok (.iand, 1) := by decide +kernel
theorem dX10_needless_25 : decode cX10_needless 25 = .ok (.iconst 1, 1) := by decide +kernel
theorem dX10_needless_26 : decode cX10_needless 26 = .ok (.if_icmp .ne 18, 3) := by decide +kernel
theorem dX10_needless_29 : decode cX10_needless 29 = .ok (.aload_n 0, 1) := by decide +kernel
theorem dX10_needless_30 : decode cX10_needless 30 = .ok (.iload_n 3, 1) := by decide +kernel
theorem dX10_needless_31 : decode cX10_needless 31 = .ok (.iload_n 1, 1) := by decide +kernel
theorem dX10_needless_32 : decode cX10_needless 32 = .ok (.invokevirtual 295, 3) := by decide +kernel
theorem dX10_needless_35 : decode cX10_needless 35 = .ok (.ifCond .eq 9, 3) := by decide +kernel
theorem dX10_needless_38 : decode cX10_needless 38 = .ok (.iload_n 2, 1) := by decide +kernel
theorem dX10_needless_39 : decode cX10_needless 39 = .ok (.iconst 1, 1) := by decide +kernel
theorem dX10_needless_40 : decode cX10_needless 40 = .ok (.iload_n 3, 1) := by decide +kernel
theorem dX10_needless_41 : decode cX10_needless 41 = .ok (.ishl, 1) := by decide +kernel
theorem dX10_needless_42 : decode cX10_needless 42 = .ok (.ior, 1) := by decide +kernel
theorem dX10_needless_43 : decode cX10_needless 43 = .ok (.istore_n 2, 1) := by decide +kernel
theorem dX10_needless_44 : decode cX10_needless 44 = .ok (.iinc 3 1, 3) := by decide +kernel
theorem dX10_needless_47 : decode cX10_needless 47 = .ok (.goto (-38), 3) := by decide +kernel
theorem dX10_needless_50 : decode cX10_needless 50 = .ok (.iload_n 2, 1) := by decide +kernel
theorem dX10_needless_51 : decode cX10_needless 51 = .ok (.ireturn, 1) := by decide +kernel
def B_X10_needless_44 (o0 : Nat) (i1 : Int32) (i2 : Int32) (i3 : Int32) (μ : Me) (K9 : Int32 → Int32 → Me → Prop) (Q : Int32 → Me → Prop) : Prop := K9 i2 (i3 + 1) μ
set_option maxHeartbeats 4000000 in
set_option maxRecDepth 100000 in
theorem tB_X10_needless_44 {x : GX} (f : Fx x cX10_needless RX10 4 (rmc 4 0 0)) {o0 : Nat} {i1 : Int32} {i2 : Int32} {i3 : Int32} {μ : Me} {Q : Int32 → Me → Prop} (hq : Rt x (some .int) (qI Q)) {K9 : Int32 → Int32 → Me → Prop} (hK9 : ∀ (a2 : Int32) (a3 : Int32) (ν : Me), K9 a2 a3 ν → G x 4 9 [(0, .ref (gB x + o0)), (1, .int i1), (2, .int a2), (3, .int a3)] [] ν 0 0) (h : B_X10_needless_44 o0 i1 i2 i3 μ K9 Q) : G x 4 44 [(0, .ref (gB x + o0)), (1, .int i1), (2, .int i2), (3, .int i3)] [] μ 0 0 := by
  unfold B_X10_needless_44 at h
  refine h_iinc f 3 1 dX10_needless_44 rfl kc_1 (by decide) ?_
  refine g_goto f 9 dX10_needless_47 rfl ?_
  exact h_sub [1, 2, 3, 0] rfl (hK9 _ _ _ h)
def B_X10_needless_9 (o0 : Nat) (i1 : Int32) (i2 : Int32) (i3 : Int32) (μ : Me) (K9 : Int32 → Int32 → Me → Prop) (Q : Int32 → Me → Prop) : Prop := mok μ o0 10 ∧ ∃ t6, mgr μ o0 0 = some t6 ∧ mok μ t6 9 ∧ (((mgi μ t6 0) ≤ i3 → Q i2 μ) ∧ (¬ (mgi μ t6 0) ≤ i3 → ((¬ ((i1 >>> (i3 &&& 31)) &&& 1) = 1 → B_X10_needless_44 o0 i1 i2 i3 μ K9 Q) ∧ (((i1 >>> (i3 &&& 31)) &&& 1) = 1 → S_X10_wouldBeInTimeWalking o0 i3 i1 μ (fun r10 μ8 => ((r10 = 0 → B_X10_needless_44 o0 i1 i2 i3 μ8 K9 Q) ∧ (¬ r10 = 0 → B_X10_needless_44 o0 i1 (i2 ||| (1 <<< (i3 &&& 31))) i3 μ8 K9 Q)))))))
set_option maxHeartbeats 4000000 in
set_option maxRecDepth 100000 in
theorem tB_X10_needless_9 {x : GX} (f : Fx x cX10_needless RX10 4 (rmc 4 0 0)) {o0 : Nat} {i1 : Int32} {i2 : Int32} {i3 : Int32} {μ : Me} {Q : Int32 → Me → Prop} (hq : Rt x (some .int) (qI Q)) {K9 : Int32 → Int32 → Me → Prop} (hK9 : ∀ (a2 : Int32) (a3 : Int32) (ν : Me), K9 a2 a3 ν → G x 4 9 [(0, .ref (gB x + o0)), (1, .int i1), (2, .int a2), (3, .int a3)] [] ν 0 0) (h : B_X10_needless_9 o0 i1 i2 i3 μ K9 Q) : G x 4 9 [(0, .ref (gB x + o0)), (1, .int i1), (2, .int i2), (3, .int i3)] [] μ 0 0 := by
  unfold B_X10_needless_9 at h
  refine g_iload_n f 3 dX10_needless_9 rfl rfl ?_
  refine g_aload_n f 0 dX10_needless_10 rfl rfl ?_
  obtain ⟨v5, h⟩ := h
  refine g_getR f fk_X10_12 v5 dX10_needless_11 rfl h (fun t6 h => ?_)
  obtain ⟨v7, h⟩ := h
  refine g_getI f fk_X10_283 v7 dX10_needless_14 rfl ?_
  refine g_ic_ge f 50 dX10_needless_17 rfl h (fun h => ?_) (fun h => ?_)
  · refine g_iload_n f 2 dX10_needless_50 rfl rfl ?_
    exact g_iret f hq (Nat.le_of_ble_eq_true rfl) (Nat.le_of_ble_eq_true rfl) dX10_needless_51 h
  · refine g_iload_n f 1 dX10_needless_20 rfl rfl ?_
    refine g_iload_n f 3 dX10_needless_21 rfl rfl ?_
    refine g_ishr f dX10_needless_22 ?_
    refine g_iconst f 1 dX10_needless_23 kc_1 ?_
    refine g_iand f dX10_needless_24 ?_
    refine g_iconst f 1 dX10_needless_25 kc_1 ?_
    refine g_ic_ne f 44 dX10_needless_26 rfl h (fun h => ?_) (fun h => ?_)
    · exact h_sub [0, 1, 2, 3] rfl (tB_X10_needless_44 f hq hK9 h)
    · refine g_aload_n f 0 dX10_needless_29 rfl rfl ?_
      refine g_iload_n f 3 dX10_needless_30 rfl rfl ?_
      refine g_iload_n f 1 dX10_needless_31 rfl rfl ?_
      refine g_callV f mk_X10_295 v5 (c_X10_wouldBeInTimeWalking h) dX10_needless_32 rfl rfl (Nat.le_of_ble_eq_true rfl) (rm_ok (by decide) (by decide)) ⟨Nat.le_of_ble_eq_true rfl, Nat.le_of_ble_eq_true rfl⟩ (kI fun r10 μ8 x9 h => ?_)
      refine g_if_eq f 44 dX10_needless_35 rfl h (fun h => ?_) (fun h => ?_)
      · exact h_sub [0, 1, 2, 3] rfl (tB_X10_needless_44 f hq hK9 h)
      · refine g_iload_n f 2 dX10_needless_38 rfl rfl ?_
        refine g_iconst f 1 dX10_needless_39 kc_1 ?_
        refine g_iload_n f 3 dX10_needless_40 rfl rfl ?_
        refine g_ishl f dX10_needless_41 ?_
        refine g_ior f dX10_needless_42 ?_
        refine h_istore_n f dX10_needless_43 rfl (by decide) ?_
        exact h_sub [1, 2, 0, 3] rfl (tB_X10_needless_44 f hq hK9 h)
def L_X10_needless_9 (o0 : Nat) (i1 : Int32) (i2 : Int32) (i3 : Int32) (μ : Me) (Q : Int32 → Me → Prop) : Prop := ∃ I : Int32 → Int32 → Me → Nat → Prop, (∃ n, I i2 i3 μ n) ∧ ∀ (i2 : Int32) (i3 : Int32) (μ : Me) (n : Nat), I i2 i3 μ n → B_X10_needless_9 o0 i1 i2 i3 μ (fun a2 a3 ν => ∃ n', n' < n ∧ I a2 a3 ν n') Q
set_option maxHeartbeats 4000000 in
set_option maxRecDepth 100000 in
theorem tL_X10_needless_9 {x : GX} (f : Fx x cX10_needless RX10 4 (rmc 4 0 0)) {o0 : Nat} {i1 : Int32} {i2 : Int32} {i3 : Int32} {μ : Me} {Q : Int32 → Me → Prop} (hq : Rt x (some .int) (qI Q)) (h : L_X10_needless_9 o0 i1 i2 i3 μ Q) : G x 4 9 [(0, .ref (gB x + o0)), (1, .int i1), (2, .int i2), (3, .int i3)] [] μ 0 0 := by
  obtain ⟨I, ⟨n, hI⟩, hs⟩ := h
  induction n using Nat.strongRecOn generalizing i2 i3 μ with
  | ind n ih => exact tB_X10_needless_9 f hq (fun a2 a3 ν hk => by obtain ⟨n2, hn, hI2⟩ := hk; exact ih n2 hn hI2) (hs _ _ _ _ hI)
def S_X10_needless (o0 : Nat) (μ : Me) (Q : Int32 → Me → Prop) : Prop := mok μ o0 10 ∧ S_X10_runningNow o0 μ (fun r4 μ2 => L_X10_needless_9 o0 r4 0 0 μ2 Q)
set_option maxHeartbeats 4000000 in
set_option maxRecDepth 100000 in
theorem t_X10_needless {x : GX} (f : Fx x cX10_needless RX10 4 (rmc 4 0 0)) {o0 : Nat} {μ : Me} {Q : Int32 → Me → Prop} (hq : Rt x (some .int) (qI Q)) (h : S_X10_needless o0 μ Q) : G x 4 0 [(0, .ref (gB x + o0))] [] μ 0 0 := by
  unfold S_X10_needless at h
  refine g_aload_n f 0 dX10_needless_0 rfl rfl ?_
  obtain ⟨v1, h⟩ := h
  refine g_callV f mk_X10_196 v1 (c_X10_runningNow h) dX10_needless_1 rfl rfl (Nat.le_of_ble_eq_true rfl) (rm_ok (by decide) (by decide)) ⟨Nat.le_of_ble_eq_true rfl, Nat.le_of_ble_eq_true rfl⟩ (kI fun r4 μ2 x3 h => ?_)
  refine h_istore_n f dX10_needless_4 rfl (by decide) ?_
  refine g_iconst f 0 dX10_needless_5 kc_0 ?_
  refine h_istore_n f dX10_needless_6 rfl (by decide) ?_
  refine g_iconst f 0 dX10_needless_7 kc_0 ?_
  refine h_istore_n f dX10_needless_8 rfl (by decide) ?_
  exact h_sub [3, 2, 1, 0] rfl (tL_X10_needless_9 f hq h)
theorem c_X10_needless {Ω : OM} {o0 : Nat} {μ : Me} {Q : Int32 → Me → Prop} (h : S_X10_needless o0 μ Q) : CT Ω yX10_needless cX10_needless 4 (some .int) (rmc 4 0 0) [.ref (oB Ω + o0)] μ (qI Q) := CT_of (by decide) rfl (by simp [lg_sl, Value.category]) (fun x hΩ f hq hi => by subst hΩ; exact t_X10_needless f hq h)
theorem dX10_lateness_0 : decode cX10_lateness 0 = .ok (.aload_n 0, 1) := by decide +kernel
theorem dX10_lateness_1 : decode cX10_lateness 1 = .ok (.getfield 12, 3) := by decide +kernel
theorem dX10_lateness_4 : decode cX10_lateness 4 = .ok (.iload_n 1, 1) := by decide +kernel
theorem dX10_lateness_5 : decode cX10_lateness 5 = .ok (.invokevirtual 175, 3) := by decide +kernel
theorem dX10_lateness_8 : decode cX10_lateness 8 = .ok (.ifCond .ne 5, 3) := by decide +kernel
theorem dX10_lateness_11 : decode cX10_lateness 11 = .ok (.iconst (-1), 1) := by decide +kernel
theorem dX10_lateness_12 : decode cX10_lateness 12 = .ok (.ireturn, 1) := by decide +kernel
theorem dX10_lateness_13 : decode cX10_lateness 13 = .ok (.aload_n 0, 1) := by decide +kernel
theorem dX10_lateness_14 : decode cX10_lateness 14 = .ok (.getfield 61, 3) := by decide +kernel
theorem dX10_lateness_17 : decode cX10_lateness 17 = .ok (.aload_n 0, 1) := by decide +kernel
theorem dX10_lateness_18 : decode cX10_lateness 18 = .ok (.getfield 12, 3) := by decide +kernel
theorem dX10_lateness_21 : decode cX10_lateness 21 = .ok (.getfield 160, 3) := by decide +kernel
theorem dX10_lateness_24 : decode cX10_lateness 24 = .ok (.getfield 202, 3) := by decide +kernel
theorem dX10_lateness_27 : decode cX10_lateness 27 = .ok (.invokevirtual 224, 3) := by decide +kernel
theorem dX10_lateness_30 : decode cX10_lateness 30 = .ok (.iload_n 1, 1) := by decide +kernel
theorem dX10_lateness_31 : decode cX10_lateness 31 = .ok (.ishr, 1) := by decide +kernel
theorem dX10_lateness_32 : decode cX10_lateness 32 = .ok (.iconst 1, 1) := by decide +kernel
theorem dX10_lateness_33 : decode cX10_lateness 33 = .ok (.iand, 1) := by decide +kernel
theorem dX10_lateness_34 : decode cX10_lateness 34 = .ok (.ifCond .ne 5, 3) := by decide +kernel
theorem dX10_lateness_37 : decode cX10_lateness 37 = .ok (.iconst 0, 1) := by decide +kernel
theorem dX10_lateness_38 : decode cX10_lateness 38 = .ok (.ireturn, 1) := by decide +kernel
theorem dX10_lateness_39 : decode cX10_lateness 39 = .ok (.aload_n 0, 1) := by decide +kernel
theorem dX10_lateness_40 : decode cX10_lateness 40 = .ok (.getfield 61, 3) := by decide +kernel
theorem dX10_lateness_43 : decode cX10_lateness 43 = .ok (.iload_n 1, 1) := by decide +kernel
theorem dX10_lateness_44 : decode cX10_lateness 44 = .ok (.invokevirtual 298, 3) := by decide +kernel
theorem dX10_lateness_47 : decode cX10_lateness 47 = .ok (.ifCond .eq 5, 3) := by decide +kernel
theorem dX10_lateness_50 : decode cX10_lateness 50 = .ok (.iconst 1, 1) := by decide +kernel
theorem dX10_lateness_51 : decode cX10_lateness 51 = .ok (.ireturn, 1) := by decide +kernel
theorem dX10_lateness_52 : decode cX10_lateness 52 = .ok (.aload_n 0, 1) := by decide +kernel
theorem dX10_lateness_53 : decode cX10_lateness 53 = .ok (.invokevirtual 196, 3) := by decide +kernel
theorem dX10_lateness_56 : decode cX10_lateness 56 = .ok (.istore_n 2, 1) := by decide +kernel
theorem dX10_lateness_57 : decode cX10_lateness 57 = .ok (.iload_n 2, 1) := by decide +kernel
theorem dX10_lateness_58 : decode cX10_lateness 58 = .ok (.iload_n 1, 1) := by decide +kernel
theorem dX10_lateness_59 : decode cX10_lateness 59 = .ok (.ishr, 1) := by decide +kernel
theorem dX10_lateness_60 : decode cX10_lateness 60 = .ok (.iconst 1, 1) := by decide +kernel
theorem dX10_lateness_61 : decode cX10_lateness 61 = .ok (.iand, 1) := by decide +kernel
theorem dX10_lateness_62 : decode cX10_lateness 62 = .ok (.istore_n 3, 1) := by decide +kernel
theorem dX10_lateness_63 : decode cX10_lateness 63 = .ok (.iload_n 3, 1) := by decide +kernel
theorem dX10_lateness_64 : decode cX10_lateness 64 = .ok (.iconst 1, 1) := by decide +kernel
theorem dX10_lateness_65 : decode cX10_lateness 65 = .ok (.if_icmp .ne 14, 3) := by decide +kernel
theorem dX10_lateness_68 : decode cX10_lateness 68 = .ok (.aload_n 0, 1) := by decide +kernel
theorem dX10_lateness_69 : decode cX10_lateness 69 = .ok (.iload_n 1, 1) := by decide +kernel
theorem dX10_lateness_70 : decode cX10_lateness 70 = .ok (.iload_n 2, 1) := by decide +kernel
theorem dX10_lateness_71 : decode cX10_lateness 71 = .ok (.invokevirtual 295, 3) := by decide +kernel
theorem dX10_lateness_74 : decode cX10_lateness 74 = .ok (.ifCond .eq 5, 3) := by decide +kernel
theorem dX10_lateness_77 : decode cX10_lateness 77 = .ok (.iconst 2, 1) := by decide +kernel
theorem dX10_lateness_78 : decode cX10_lateness 78 = .ok (.ireturn, 1) := by decide +kernel
theorem dX10_lateness_79 : decode cX10_lateness 79 = .ok (.aload_n 0, 1) := by decide +kernel
theorem dX10_lateness_80 : decode cX10_lateness 80 = .ok (.getfield 45, 3) := by decide +kernel
theorem dX10_lateness_83 : decode cX10_lateness 83 = .ok (.iload_n 1, 1) := by decide +kernel
theorem dX10_lateness_84 : decode cX10_lateness 84 = .ok (.iload_n 3, 1) := by decide +kernel
theorem dX10_lateness_85 : decode cX10_lateness 85 = .ok (.iconst 0, 1) := by decide +kernel
theorem dX10_lateness_86 : decode cX10_lateness 86 = .ok (.invokevirtual 301, 3) := by decide +kernel
theorem dX10_lateness_89 : decode cX10_lateness 89 = .ok (.aload_n 0, 1) := by decide +kernel
theorem dX10_lateness_90 : decode cX10_lateness 90 = .ok (.getfield 12, 3) := by decide +kernel
theorem dX10_lateness_93 : decode cX10_lateness 93 = .ok (.getfield 160, 3) := by decide +kernel
theorem dX10_lateness_96 : decode cX10_lateness 96 = .ok (.getfield 187, 3) := by decide +kernel
theorem dX10_lateness_99 : decode cX10_lateness 99 = .ok (.iload_n 1, 1) := by decide +kernel
theorem dX10_lateness_100 : decode cX10_lateness 100 = .ok (.iaload, 1) := by decide +kernel
theorem dX10_lateness_101 : decode cX10_lateness 101 = .ok (.if_icmp .gt 7, 3) := by decide +kernel
theorem dX10_lateness_104 : decode cX10_lateness 104 = .ok (.iconst 3, 1) := by decide +kernel
theorem dX10_lateness_105 : decode cX10_lateness 105 = .ok (.goto 4, 3) := by decide +kernel
theorem dX10_lateness_108 : decode cX10_lateness 108 = .ok (.iconst 4, 1) := by decide +kernel
theorem dX10_lateness_109 : decode cX10_lateness 109 = .ok (.ireturn, 1) := by decide +kernel
def B_X10_lateness_79 (o0 : Nat) (i1 : Int32) (i3 : Int32) (μ : Me) (Q : Int32 → Me → Prop) : Prop := mok μ o0 10 ∧ ∃ t25, mgr μ o0 5 = some t25 ∧ mok μ t25 4 ∧ S_X4_takesOf t25 i1 i3 0 μ (fun r29 μ27 => ∃ t30, mgr μ27 o0 0 = some t30 ∧ mok μ27 t30 9 ∧ ∃ t32, mgr μ27 t30 14 = some t32 ∧ mok μ27 t32 3 ∧ ∃ t34, mgr μ27 t32 5 = some t34 ∧ mok μ27 t34 12 ∧ vp_in i1 (mln μ27 t34) ∧ (((mgi μ27 t34 i1.toNatClampNeg) < r29 → Q 4 μ27) ∧ (¬ (mgi μ27 t34 i1.toNatClampNeg) < r29 → Q 3 μ27)))
set_option maxHeartbeats 4000000 in
set_option maxRecDepth 100000 in
theorem tB_X10_lateness_79 {x : GX} (f : Fx x cX10_lateness RX10 4 (rmc 6 0 0)) {o0 : Nat} {i1 : Int32} {i3 : Int32} {μ : Me} {Q : Int32 → Me → Prop} (hq : Rt x (some .int) (qI Q)) (h : B_X10_lateness_79 o0 i1 i3 μ Q) : G x 4 79 [(0, .ref (gB x + o0)), (1, .int i1), (3, .int i3)] [] μ 0 0 := by
  unfold B_X10_lateness_79 at h
  refine g_aload_n f 0 dX10_lateness_79 rfl rfl ?_
  obtain ⟨v24, h⟩ := h
  refine g_getR f fk_X10_45 v24 dX10_lateness_80 rfl h (fun t25 h => ?_)
  refine g_iload_n f 1 dX10_lateness_83 rfl rfl ?_
  refine g_iload_n f 2 dX10_lateness_84 rfl rfl ?_
  refine g_iconst f 0 dX10_lateness_85 kc_0 ?_
  obtain ⟨v26, h⟩ := h
  refine g_callV f mk_X10_301 v26 (c_X4_takesOf h) dX10_lateness_86 rfl rfl (Nat.le_of_ble_eq_true rfl) (rm_ok (by decide) (by decide)) ⟨Nat.le_of_ble_eq_true rfl, Nat.le_of_ble_eq_true rfl⟩ (kI fun r29 μ27 x28 h => ?_)
  refine g_aload_n f 0 dX10_lateness_89 rfl rfl ?_
  have v24 := mex_ok x28 v24
  refine g_getR f fk_X10_12 v24 dX10_lateness_90 rfl h (fun t30 h => ?_)
  obtain ⟨v31, h⟩ := h
  refine g_getR f fk_X10_160 v31 dX10_lateness_93 rfl h (fun t32 h => ?_)
  obtain ⟨v33, h⟩ := h
  refine g_getR f fk_X10_187 v33 dX10_lateness_96 rfl h (fun t34 h => ?_)
  refine g_iload_n f 1 dX10_lateness_99 rfl rfl ?_
  obtain ⟨v35, h⟩ := h
  refine g_iald f v35 dX10_lateness_100 h (fun h => ?_)
  refine g_ic_gt f 108 dX10_lateness_101 rfl h (fun h => ?_) (fun h => ?_)
  · refine g_iconst f 4 dX10_lateness_108 kc_4 ?_
    exact g_iret f hq (Nat.le_of_ble_eq_true rfl) (Nat.le_of_ble_eq_true rfl) dX10_lateness_109 h
  · refine g_iconst f 3 dX10_lateness_104 kc_3 ?_
    refine g_goto f 109 dX10_lateness_105 rfl ?_
    exact g_iret f hq (Nat.le_of_ble_eq_true rfl) (Nat.le_of_ble_eq_true rfl) dX10_lateness_109 h
def S_X10_lateness (o0 : Nat) (i1 : Int32) (μ : Me) (Q : Int32 → Me → Prop) : Prop := mok μ o0 10 ∧ ∃ t2, mgr μ o0 0 = some t2 ∧ mok μ t2 9 ∧ S_X9_isPerson t2 i1 μ (fun r6 μ4 => ((¬ r6 = 0 → ∃ t7, mgr μ4 o0 7 = some t7 ∧ ∃ t8, mgr μ4 o0 0 = some t8 ∧ mok μ4 t8 9 ∧ ∃ t10, mgr μ4 t8 14 = some t10 ∧ mok μ4 t10 3 ∧ mok μ4 t7 2 ∧ S_X2_next t7 (mgi μ4 t10 0) μ4 (fun r15 μ13 => ((¬ ((r15 >>> (i1 &&& 31)) &&& 1) = 0 → ∃ t16, mgr μ13 o0 7 = some t16 ∧ mok μ13 t16 2 ∧ S_X2_isLateByAll t16 i1 μ13 (fun r20 μ18 => ((r20 = 0 → S_X10_runningNow o0 μ18 (fun r23 μ21 => ((¬ ((r23 >>> (i1 &&& 31)) &&& 1) = 1 → B_X10_lateness_79 o0 i1 ((r23 >>> (i1 &&& 31)) &&& 1) μ21 Q) ∧ (((r23 >>> (i1 &&& 31)) &&& 1) = 1 → S_X10_wouldBeInTimeWalking o0 i1 r23 μ21 (fun r38 μ36 => ((r38 = 0 → B_X10_lateness_79 o0 i1 ((r23 >>> (i1 &&& 31)) &&& 1) μ36 Q) ∧ (¬ r38 = 0 → Q 2 μ36))))))) ∧ (¬ r20 = 0 → Q 1 μ18)))) ∧ (((r15 >>> (i1 &&& 31)) &&& 1) = 0 → Q 0 μ13)))) ∧ (r6 = 0 → Q (-1) μ4)))
set_option maxHeartbeats 4000000 in
set_option maxRecDepth 100000 in
theorem t_X10_lateness {x : GX} (f : Fx x cX10_lateness RX10 4 (rmc 6 0 0)) {o0 : Nat} {i1 : Int32} {μ : Me} {Q : Int32 → Me → Prop} (hq : Rt x (some .int) (qI Q)) (h : S_X10_lateness o0 i1 μ Q) : G x 4 0 [(0, .ref (gB x + o0)), (1, .int i1)] [] μ 0 0 := by
  unfold S_X10_lateness at h
  refine g_aload_n f 0 dX10_lateness_0 rfl rfl ?_
  obtain ⟨v1, h⟩ := h
  refine g_getR f fk_X10_12 v1 dX10_lateness_1 rfl h (fun t2 h => ?_)
  refine g_iload_n f 1 dX10_lateness_4 rfl rfl ?_
  obtain ⟨v3, h⟩ := h
  refine g_callV f mk_X10_175 v3 (c_X9_isPerson h) dX10_lateness_5 rfl rfl (Nat.le_of_ble_eq_true rfl) (rm_ok (by decide) (by decide)) ⟨Nat.le_of_ble_eq_true rfl, Nat.le_of_ble_eq_true rfl⟩ (kI fun r6 μ4 x5 h => ?_)
  refine g_if_ne f 13 dX10_lateness_8 rfl h (fun h => ?_) (fun h => ?_)
  · refine g_aload_n f 0 dX10_lateness_13 rfl rfl ?_
    have v1 := mex_ok x5 v1
    refine g_getR f fk_X10_61 v1 dX10_lateness_14 rfl h (fun t7 h => ?_)
    refine g_aload_n f 0 dX10_lateness_17 rfl rfl ?_
    refine g_getR f fk_X10_12 v1 dX10_lateness_18 rfl h (fun t8 h => ?_)
    obtain ⟨v9, h⟩ := h
    refine g_getR f fk_X10_160 v9 dX10_lateness_21 rfl h (fun t10 h => ?_)
    obtain ⟨v11, h⟩ := h
    refine g_getI f fk_X10_202 v11 dX10_lateness_24 rfl ?_
    obtain ⟨v12, h⟩ := h
    refine g_callV f mk_X10_224 v12 (c_X2_next h) dX10_lateness_27 rfl rfl (Nat.le_of_ble_eq_true rfl) (rm_ok (by decide) (by decide)) ⟨Nat.le_of_ble_eq_true rfl, Nat.le_of_ble_eq_true rfl⟩ (kI fun r15 μ13 x14 h => ?_)
    refine g_iload_n f 1 dX10_lateness_30 rfl rfl ?_
    refine g_ishr f dX10_lateness_31 ?_
    refine g_iconst f 1 dX10_lateness_32 kc_1 ?_
    refine g_iand f dX10_lateness_33 ?_
    refine g_if_ne f 39 dX10_lateness_34 rfl h (fun h => ?_) (fun h => ?_)
    · refine g_aload_n f 0 dX10_lateness_39 rfl rfl ?_
      have v1 := mex_ok x14 v1
      refine g_getR f fk_X10_61 v1 dX10_lateness_40 rfl h (fun t16 h => ?_)
      refine g_iload_n f 1 dX10_lateness_43 rfl rfl ?_
      obtain ⟨v17, h⟩ := h
      refine g_callV f mk_X10_298 v17 (c_X2_isLateByAll h) dX10_lateness_44 rfl rfl (Nat.le_of_ble_eq_true rfl) (rm_ok (by decide) (by decide)) ⟨Nat.le_of_ble_eq_true rfl, Nat.le_of_ble_eq_true rfl⟩ (kI fun r20 μ18 x19 h => ?_)
      refine g_if_eq f 52 dX10_lateness_47 rfl h (fun h => ?_) (fun h => ?_)
      · refine g_aload_n f 0 dX10_lateness_52 rfl rfl ?_
        have v1 := mex_ok x19 v1
        refine g_callV f mk_X10_196 v1 (c_X10_runningNow h) dX10_lateness_53 rfl rfl (Nat.le_of_ble_eq_true rfl) (rm_ok (by decide) (by decide)) ⟨Nat.le_of_ble_eq_true rfl, Nat.le_of_ble_eq_true rfl⟩ (kI fun r23 μ21 x22 h => ?_)
        refine h_istore_n f dX10_lateness_56 rfl (by decide) ?_
        refine g_iload_n f 0 dX10_lateness_57 rfl rfl ?_
        refine g_iload_n f 2 dX10_lateness_58 rfl rfl ?_
        refine g_ishr f dX10_lateness_59 ?_
        refine g_iconst f 1 dX10_lateness_60 kc_1 ?_
        refine g_iand f dX10_lateness_61 ?_
        refine h_istore_n f dX10_lateness_62 rfl (by decide) ?_
        refine g_iload_n f 0 dX10_lateness_63 rfl rfl ?_
        refine g_iconst f 1 dX10_lateness_64 kc_1 ?_
        refine g_ic_ne f 79 dX10_lateness_65 rfl h (fun h => ?_) (fun h => ?_)
        · exact h_sub [2, 3, 0] rfl (tB_X10_lateness_79 f hq h)
        · refine g_aload_n f 2 dX10_lateness_68 rfl rfl ?_
          refine g_iload_n f 3 dX10_lateness_69 rfl rfl ?_
          refine g_iload_n f 1 dX10_lateness_70 rfl rfl ?_
          have v1 := mex_ok x22 v1
          refine g_callV f mk_X10_295 v1 (c_X10_wouldBeInTimeWalking h) dX10_lateness_71 rfl rfl (Nat.le_of_ble_eq_true rfl) (rm_ok (by decide) (by decide)) ⟨Nat.le_of_ble_eq_true rfl, Nat.le_of_ble_eq_true rfl⟩ (kI fun r38 μ36 x37 h => ?_)
          refine g_if_eq f 79 dX10_lateness_74 rfl h (fun h => ?_) (fun h => ?_)
          · exact h_sub [2, 3, 0] rfl (tB_X10_lateness_79 f hq h)
          · refine g_iconst f 2 dX10_lateness_77 kc_2 ?_
            exact g_iret f hq (Nat.le_of_ble_eq_true rfl) (Nat.le_of_ble_eq_true rfl) dX10_lateness_78 h
      · refine g_iconst f 1 dX10_lateness_50 kc_1 ?_
        exact g_iret f hq (Nat.le_of_ble_eq_true rfl) (Nat.le_of_ble_eq_true rfl) dX10_lateness_51 h
    · refine g_iconst f 0 dX10_lateness_37 kc_0 ?_
      exact g_iret f hq (Nat.le_of_ble_eq_true rfl) (Nat.le_of_ble_eq_true rfl) dX10_lateness_38 h
  · refine g_iconst f (-1) dX10_lateness_11 kc_m1 ?_
    exact g_iret f hq (Nat.le_of_ble_eq_true rfl) (Nat.le_of_ble_eq_true rfl) dX10_lateness_12 h
theorem c_X10_lateness {Ω : OM} {o0 : Nat} {i1 : Int32} {μ : Me} {Q : Int32 → Me → Prop} (h : S_X10_lateness o0 i1 μ Q) : CT Ω yX10_lateness cX10_lateness 4 (some .int) (rmc 6 0 0) [.ref (oB Ω + o0), .int i1] μ (qI Q) := CT_of (by decide) rfl (by simp [lg_sl, Value.category]) (fun x hΩ f hq hi => by subst hΩ; exact t_X10_lateness f hq h)
theorem dX10_race_0 : decode cX10_race 0 = .ok (.iload_n 1, 1) := by decide +kernel
theorem dX10_race_1 : decode cX10_race 1 = .ok (.iconst 1, 1) := by decide +kernel
theorem dX10_race_2 : decode cX10_race 2 = .ok (.if_icmp .lt 14, 3) := by decide +kernel
theorem dX10_race_5 : decode cX10_race 5 = .ok (.iload_n 1, 1) := by decide +kernel
theorem dX10_race_6 : decode cX10_race 6 = .ok (.aload_n 0, 1) := by decide +kernel
theorem dX10_race_7 : decode cX10_race 7 = .ok (.getfield 12, 3) := by decide +kernel
theorem dX10_race_10 : decode cX10_race 10 = .ok (.getfield 283, 3) := by decide +kernel
theorem dX10_race_13 : decode cX10_race 13 = .ok (.if_icmp .le 5, 3) := by decide +kernel
theorem dX10_race_16 : decode cX10_race 16 = .ok (.iconst (-1), 1) := by decide +kernel
theorem dX10_race_17 : decode cX10_race 17 = .ok (.ireturn, 1) := by decide +kernel
theorem dX10_race_18 : decode cX10_race 18 = .ok (.aload_n 0, 1) := by decide +kernel
theorem dX10_race_19 : decode cX10_race 19 = .ok (.getfield 61, 3) := by decide +kernel
theorem dX10_race_22 : decode cX10_race 22 = .ok (.iload_n 1, 1) := by decide +kernel
theorem dX10_race_23 : decode cX10_race 23 = .ok (.iload_n 2, 1) := by decide +kernel
theorem dX10_race_24 : decode cX10_race 24 = .ok (.invokevirtual 308, 3) := by decide +kernel
theorem dX10_race_27 : decode cX10_race 27 = .ok (.ireturn, 1) := by decide +kernel
def S_X10_race (o0 : Nat) (i1 : Int32) (i2 : Int32) (μ : Me) (Q : Int32 → Me → Prop) : Prop := ((i1 < 1 → Q (-1) μ) ∧ (¬ i1 < 1 → mok μ o0 10 ∧ ∃ t2, mgr μ o0 0 = some t2 ∧ mok μ t2 9 ∧ ((i1 ≤ (mgi μ t2 0) → ∃ t4, mgr μ o0 7 = some t4 ∧ mok μ t4 2 ∧ S_X2_raced t4 i1 i2 μ (fun r8 μ6 => Q r8 μ6)) ∧ (¬ i1 ≤ (mgi μ t2 0) → Q (-1) μ))))
set_option maxHeartbeats 4000000 in
set_option maxRecDepth 100000 in
theorem t_X10_race {x : GX} (f : Fx x cX10_race RX10 3 (rmc 6 0 0)) {o0 : Nat} {i1 : Int32} {i2 : Int32} {μ : Me} {Q : Int32 → Me → Prop} (hq : Rt x (some .int) (qI Q)) (h : S_X10_race o0 i1 i2 μ Q) : G x 3 0 [(0, .ref (gB x + o0)), (1, .int i1), (2, .int i2)] [] μ 0 0 := by
  unfold S_X10_race at h
  refine g_iload_n f 1 dX10_race_0 rfl rfl ?_
  refine g_iconst f 1 dX10_race_1 kc_1 ?_
  refine g_ic_lt f 16 dX10_race_2 rfl h (fun h => ?_) (fun h => ?_)
  · refine g_iconst f (-1) dX10_race_16 kc_m1 ?_
    exact g_iret f hq (Nat.le_of_ble_eq_true rfl) (Nat.le_of_ble_eq_true rfl) dX10_race_17 h
  · refine g_iload_n f 1 dX10_race_5 rfl rfl ?_
    refine g_aload_n f 0 dX10_race_6 rfl rfl ?_
    obtain ⟨v1, h⟩ := h
    refine g_getR f fk_X10_12 v1 dX10_race_7 rfl h (fun t2 h => ?_)
    obtain ⟨v3, h⟩ := h
    refine g_getI f fk_X10_283 v3 dX10_race_10 rfl ?_
    refine g_ic_le f 18 dX10_race_13 rfl h (fun h => ?_) (fun h => ?_)
    · refine g_aload_n f 0 dX10_race_18 rfl rfl ?_
      refine g_getR f fk_X10_61 v1 dX10_race_19 rfl h (fun t4 h => ?_)
      refine g_iload_n f 1 dX10_race_22 rfl rfl ?_
      refine g_iload_n f 2 dX10_race_23 rfl rfl ?_
      obtain ⟨v5, h⟩ := h
      refine g_callV f mk_X10_308 v5 (c_X2_raced h) dX10_race_24 rfl rfl (Nat.le_of_ble_eq_true rfl) (rm_ok (by decide) (by decide)) ⟨Nat.le_of_ble_eq_true rfl, Nat.le_of_ble_eq_true rfl⟩ (kI fun r8 μ6 x7 h => ?_)
      exact g_iret f hq (Nat.le_of_ble_eq_true rfl) (Nat.le_of_ble_eq_true rfl) dX10_race_27 h
    · refine g_iconst f (-1) dX10_race_16 kc_m1 ?_
      exact g_iret f hq (Nat.le_of_ble_eq_true rfl) (Nat.le_of_ble_eq_true rfl) dX10_race_17 h
theorem c_X10_race {Ω : OM} {o0 : Nat} {i1 : Int32} {i2 : Int32} {μ : Me} {Q : Int32 → Me → Prop} (h : S_X10_race o0 i1 i2 μ Q) : CT Ω yX10_race cX10_race 3 (some .int) (rmc 6 0 0) [.ref (oB Ω + o0), .int i1, .int i2] μ (qI Q) := CT_of (by decide) rfl (by simp [lg_sl, Value.category]) (fun x hΩ f hq hi => by subst hΩ; exact t_X10_race f hq h)
theorem dX10_heard_0 : decode cX10_heard 0 = .ok (.iload_n 1, 1) := by decide +kernel
theorem dX10_heard_1 : decode cX10_heard 1 = .ok (.iconst (-1), 1) := by decide +kernel
theorem dX10_heard_2 : decode cX10_heard 2 = .ok (.if_icmp .ne 13, 3) := by decide +kernel
theorem dX10_heard_5 : decode cX10_heard 5 = .ok (.aload_n 0, 1) := by decide +kernel
theorem dX10_heard_6 : decode cX10_heard 6 = .ok (.getfield 12, 3) := by decide +kernel
theorem dX10_heard_9 : decode cX10_heard 9 = .ok (.iconst 0, 1) := by decide +kernel
theorem dX10_heard_10 : decode cX10_heard 10 = .ok (.putfield 312, 3) := by decide +kernel
theorem dX10_heard_13 : decode cX10_heard 13 = .ok (.iconst 0, 1) := by decide +kernel
theorem dX10_heard_14 : decode cX10_heard 14 = .ok (.ireturn, 1) := by decide +kernel
theorem dX10_heard_15 : decode cX10_heard 15 = .ok (.aload_n 0, 1) := by decide +kernel
theorem dX10_heard_16 : decode cX10_heard 16 = .ok (.getfield 12, 3) := by decide +kernel
theorem dX10_heard_19 : decode cX10_heard 19 = .ok (.iload_n 1, 1) := by decide +kernel
theorem dX10_heard_20 : decode cX10_heard 20 = .ok (.invokevirtual 175, 3) := by decide +kernel
theorem dX10_heard_23 : decode cX10_heard 23 = .ok (.ifCond .eq 15, 3) := by decide +kernel
theorem dX10_heard_26 : decode cX10_heard 26 = .ok (.aload_n 0, 1) := by decide +kernel
theorem dX10_heard_27 : decode cX10_heard 27 = .ok (.getfield 12, 3) := by decide +kernel
theorem dX10_heard_30 : decode cX10_heard 30 = .ok (.getfield 312, 3) := by decide +kernel
theorem dX10_heard_33 : decode cX10_heard 33 = .ok (.bipush 8, 2) := by decide +kernel
theorem dX10_heard_35 : decode cX10_heard 35 = .ok (.if_icmp .lt 6, 3) := by decide +kernel
theorem dX10_heard_38 : decode cX10_heard 38 = .ok (.bipush (-2), 2) := by decide +kernel
theorem dX10_heard_40 : decode cX10_heard 40 = .ok (.ireturn, 1) := by decide +kernel
theorem dX10_heard_41 : decode cX10_heard 41 = .ok (.aload_n 0, 1) := by decide +kernel
theorem dX10_heard_42 : decode cX10_heard 42 = .ok (.getfield 12, 3) := by decide +kernel
theorem dX10_heard_45 : decode cX10_heard 45 = .ok (.getfield 315, 3) := by decide +kernel
theorem dX10_heard_48 : decode cX10_heard 48 = .ok (.aload_n 0, 1) := by decide +kernel
theorem dX10_heard_49 : decode cX10_heard 49 = .ok (.getfield 12, 3) := by decide +kernel
theorem dX10_heard_52 : decode cX10_heard 52 = .ok (.getfield 312, 3) := by decide +kernel
theorem dX10_heard_55 : decode cX10_heard 55 = .ok (.iload_n 1, 1) := by decide +kernel
theorem dX10_heard_56 : decode cX10_heard 56 = .ok (.iastore, 1) := by decide +kernel
theorem dX10_heard_57 : decode cX10_heard 57 = .ok (.aload_n 0, 1) := by decide +kernel
theorem dX10_heard_58 : decode cX10_heard 58 = .ok (.getfield 12, 3) := by decide +kernel
theorem dX10_heard_61 : decode cX10_heard 61 = .ok (.getfield 318, 3) := by decide +kernel
theorem dX10_heard_64 : decode cX10_heard 64 = .ok (.aload_n 0, 1) := by decide +kernel
theorem dX10_heard_65 : decode cX10_heard 65 = .ok (.getfield 12, 3) := by decide +kernel
theorem dX10_heard_68 : decode cX10_heard 68 = .ok (.getfield 312, 3) := by decide +kernel
theorem dX10_heard_71 : decode cX10_heard 71 = .ok (.iload_n 2, 1) := by decide +kernel
theorem dX10_heard_72 : decode cX10_heard 72 = .ok (.ifCond .eq 7, 3) := by decide +kernel
theorem dX10_heard_75 : decode cX10_heard 75 = .ok (.iconst 1, 1) := by decide +kernel
theorem dX10_heard_76 : decode cX10_heard 76 = .ok (.goto 4, 3) := by decide +kernel
theorem dX10_heard_79 : decode cX10_heard 79 = .ok (.iconst 0, 1) := by decide +kernel
theorem dX10_heard_80 : decode cX10_heard 80 = .ok (.iastore, 1) := by decide +kernel
theorem dX10_heard_81 : decode cX10_heard 81 = .ok (.aload_n 0, 1) := by decide +kernel
theorem dX10_heard_82 : decode cX10_heard 82 = .ok (.getfield 12, 3) := by decide +kernel
theorem dX10_heard_85 : decode cX10_heard 85 = .ok (.dup, 1) := by decide +kernel
theorem dX10_heard_86 : decode cX10_heard 86 = .ok (.getfield 312, 3) := by decide +kernel
theorem dX10_heard_89 : decode cX10_heard 89 = .ok (.iconst 1, 1) := by decide +kernel
theorem dX10_heard_90 : decode cX10_heard 90 = .ok (.iadd, 1) := by decide +kernel
theorem dX10_heard_91 : decode cX10_heard 91 = .ok (.putfield 312, 3) := by decide +kernel
theorem dX10_heard_94 : decode cX10_heard 94 = .ok (.aload_n 0, 1) := by decide +kernel
theorem dX10_heard_95 : decode cX10_heard 95 = .ok (.getfield 12, 3) := by decide +kernel
theorem dX10_heard_98 : decode cX10_heard 98 = .ok (.getfield 312, 3) := by decide +kernel
theorem dX10_heard_101 : decode cX10_heard 101 = .ok (.ireturn, 1) := by decide +kernel
def B_X10_heard_80 (o0 : Nat) (s0 : Int32) (s1 : Int32) (s2 : Option Nat) (μ : Me) (Q : Int32 → Me → Prop) : Prop := ∃ t21, s2 = some t21 ∧ mok μ t21 12 ∧ vp_in s1 (mln μ t21) ∧ ∀ μ25, μ25 = msi μ t21 s1.toNatClampNeg s0 → mok μ25 o0 10 ∧ ∃ t27, mgr μ25 o0 0 = some t27 ∧ mok μ25 t27 9 ∧ ∀ μ29, μ29 = msi μ25 t27 8 ((mgi μ25 t27 8) + 1) → ∃ t30, mgr μ29 o0 0 = some t30 ∧ mok μ29 t30 9 ∧ Q (mgi μ29 t30 8) μ29
set_option maxHeartbeats 4000000 in
set_option maxRecDepth 100000 in
theorem tB_X10_heard_80 {x : GX} (f : Fx x cX10_heard RX10 3 (rmc 1 0 0)) {o0 : Nat} {s0 : Int32} {s1 : Int32} {s2 : Option Nat} {μ : Me} {Q : Int32 → Me → Prop} (hq : Rt x (some .int) (qI Q)) (h : B_X10_heard_80 o0 s0 s1 s2 μ Q) : G x 3 80 [(0, .ref (gB x + o0))] [.int s0, .int s1, vr (gB x) s2] μ 0 0 := by
  unfold B_X10_heard_80 at h
  obtain ⟨t21, e22, h23⟩ := h
  subst e22
  have h := h23
  obtain ⟨v24, h⟩ := h
  refine g_iast f v24 dX10_heard_80 h (fun h => ?_)
  refine g_aload_n f 0 dX10_heard_81 rfl rfl ?_
  obtain ⟨v26, h⟩ := h
  refine g_getR f fk_X10_12 v26 dX10_heard_82 rfl h (fun t27 h => ?_)
  refine g_dup f dX10_heard_85 rfl ?_
  obtain ⟨v28, h⟩ := h
  refine g_getI f fk_X10_312 v28 dX10_heard_86 rfl ?_
  refine g_iconst f 1 dX10_heard_89 kc_1 ?_
  refine g_iadd f dX10_heard_90 ?_
  refine g_putI f fk_X10_312 v28 dX10_heard_91 rfl h (fun h => ?_)
  refine g_aload_n f 0 dX10_heard_94 rfl rfl ?_
  refine g_getR f fk_X10_12 v26 dX10_heard_95 rfl h (fun t30 h => ?_)
  obtain ⟨v31, h⟩ := h
  refine g_getI f fk_X10_312 v31 dX10_heard_98 rfl ?_
  exact g_iret f hq (Nat.le_of_ble_eq_true rfl) (Nat.le_of_ble_eq_true rfl) dX10_heard_101 h
def S_X10_heard (o0 : Nat) (i1 : Int32) (i2 : Int32) (μ : Me) (Q : Int32 → Me → Prop) : Prop := ((¬ i1 = (-1) → mok μ o0 10 ∧ ∃ t2, mgr μ o0 0 = some t2 ∧ mok μ t2 9 ∧ S_X9_isPerson t2 i1 μ (fun r6 μ4 => ((r6 = 0 → Q (-2) μ4) ∧ (¬ r6 = 0 → ∃ t7, mgr μ4 o0 0 = some t7 ∧ mok μ4 t7 9 ∧ (((mgi μ4 t7 8) < 8 → ∃ t9, mgr μ4 o0 0 = some t9 ∧ mok μ4 t9 9 ∧ ∃ t11, mgr μ4 t9 9 = some t11 ∧ ∃ t12, mgr μ4 o0 0 = some t12 ∧ mok μ4 t12 9 ∧ mok μ4 t11 12 ∧ vp_in (mgi μ4 t12 8) (mln μ4 t11) ∧ ∀ μ15, μ15 = msi μ4 t11 (mgi μ4 t12 8).toNatClampNeg i1 → ∃ t16, mgr μ15 o0 0 = some t16 ∧ mok μ15 t16 9 ∧ ∃ t18, mgr μ15 t16 10 = some t18 ∧ ∃ t19, mgr μ15 o0 0 = some t19 ∧ mok μ15 t19 9 ∧ ((i2 = 0 → B_X10_heard_80 o0 0 (mgi μ15 t19 8) (some t18) μ15 Q) ∧ (¬ i2 = 0 → B_X10_heard_80 o0 1 (mgi μ15 t19 8) (some t18) μ15 Q))) ∧ (¬ (mgi μ4 t7 8) < 8 → Q (-2) μ4)))))) ∧ (i1 = (-1) → mok μ o0 10 ∧ ∃ t33, mgr μ o0 0 = some t33 ∧ mok μ t33 9 ∧ ∀ μ35, μ35 = msi μ t33 8 0 → Q 0 μ35))
set_option maxHeartbeats 4000000 in
set_option maxRecDepth 100000 in
theorem t_X10_heard {x : GX} (f : Fx x cX10_heard RX10 3 (rmc 1 0 0)) {o0 : Nat} {i1 : Int32} {i2 : Int32} {μ : Me} {Q : Int32 → Me → Prop} (hq : Rt x (some .int) (qI Q)) (h : S_X10_heard o0 i1 i2 μ Q) : G x 3 0 [(0, .ref (gB x + o0)), (1, .int i1), (2, .int i2)] [] μ 0 0 := by
  unfold S_X10_heard at h
  refine g_iload_n f 1 dX10_heard_0 rfl rfl ?_
  refine g_iconst f (-1) dX10_heard_1 kc_m1 ?_
  refine g_ic_ne f 15 dX10_heard_2 rfl h (fun h => ?_) (fun h => ?_)
  · refine g_aload_n f 0 dX10_heard_15 rfl rfl ?_
    obtain ⟨v1, h⟩ := h
    refine g_getR f fk_X10_12 v1 dX10_heard_16 rfl h (fun t2 h => ?_)
    refine g_iload_n f 1 dX10_heard_19 rfl rfl ?_
    obtain ⟨v3, h⟩ := h
    refine g_callV f mk_X10_175 v3 (c_X9_isPerson h) dX10_heard_20 rfl rfl (Nat.le_of_ble_eq_true rfl) (rm_ok (by decide) (by decide)) ⟨Nat.le_of_ble_eq_true rfl, Nat.le_of_ble_eq_true rfl⟩ (kI fun r6 μ4 x5 h => ?_)
    refine g_if_eq f 38 dX10_heard_23 rfl h (fun h => ?_) (fun h => ?_)
    · refine g_bipush f (-2) dX10_heard_38 kb_m2 ?_
      exact g_iret f hq (Nat.le_of_ble_eq_true rfl) (Nat.le_of_ble_eq_true rfl) dX10_heard_40 h
    · refine g_aload_n f 0 dX10_heard_26 rfl rfl ?_
      have v1 := mex_ok x5 v1
      refine g_getR f fk_X10_12 v1 dX10_heard_27 rfl h (fun t7 h => ?_)
      obtain ⟨v8, h⟩ := h
      refine g_getI f fk_X10_312 v8 dX10_heard_30 rfl ?_
      refine g_bipush f 8 dX10_heard_33 kb_8 ?_
      refine g_ic_lt f 41 dX10_heard_35 rfl h (fun h => ?_) (fun h => ?_)
      · refine g_aload_n f 0 dX10_heard_41 rfl rfl ?_
        refine g_getR f fk_X10_12 v1 dX10_heard_42 rfl h (fun t9 h => ?_)
        obtain ⟨v10, h⟩ := h
        refine g_getR f fk_X10_315 v10 dX10_heard_45 rfl h (fun t11 h => ?_)
        refine g_aload_n f 0 dX10_heard_48 rfl rfl ?_
        refine g_getR f fk_X10_12 v1 dX10_heard_49 rfl h (fun t12 h => ?_)
        obtain ⟨v13, h⟩ := h
        refine g_getI f fk_X10_312 v13 dX10_heard_52 rfl ?_
        refine g_iload_n f 1 dX10_heard_55 rfl rfl ?_
        obtain ⟨v14, h⟩ := h
        refine g_iast f v14 dX10_heard_56 h (fun h => ?_)
        refine g_aload_n f 0 dX10_heard_57 rfl rfl ?_
        refine g_getR f fk_X10_12 v1 dX10_heard_58 rfl h (fun t16 h => ?_)
        obtain ⟨v17, h⟩ := h
        refine g_getR f fk_X10_318 v17 dX10_heard_61 rfl h (fun t18 h => ?_)
        refine g_aload_n f 0 dX10_heard_64 rfl rfl ?_
        refine g_getR f fk_X10_12 v1 dX10_heard_65 rfl h (fun t19 h => ?_)
        obtain ⟨v20, h⟩ := h
        refine g_getI f fk_X10_312 v20 dX10_heard_68 rfl ?_
        refine g_iload_n f 2 dX10_heard_71 rfl rfl ?_
        refine g_if_eq f 79 dX10_heard_72 rfl h (fun h => ?_) (fun h => ?_)
        · refine g_iconst f 0 dX10_heard_79 kc_0 ?_
          exact h_sub [0] rfl (tB_X10_heard_80 f hq h)
        · refine g_iconst f 1 dX10_heard_75 kc_1 ?_
          refine g_goto f 80 dX10_heard_76 rfl ?_
          exact h_sub [0] rfl (tB_X10_heard_80 f hq h)
      · refine g_bipush f (-2) dX10_heard_38 kb_m2 ?_
        exact g_iret f hq (Nat.le_of_ble_eq_true rfl) (Nat.le_of_ble_eq_true rfl) dX10_heard_40 h
  · refine g_aload_n f 0 dX10_heard_5 rfl rfl ?_
    obtain ⟨v32, h⟩ := h
    refine g_getR f fk_X10_12 v32 dX10_heard_6 rfl h (fun t33 h => ?_)
    refine g_iconst f 0 dX10_heard_9 kc_0 ?_
    obtain ⟨v34, h⟩ := h
    refine g_putI f fk_X10_312 v34 dX10_heard_10 rfl h (fun h => ?_)
    refine g_iconst f 0 dX10_heard_13 kc_0 ?_
    exact g_iret f hq (Nat.le_of_ble_eq_true rfl) (Nat.le_of_ble_eq_true rfl) dX10_heard_14 h
theorem c_X10_heard {Ω : OM} {o0 : Nat} {i1 : Int32} {i2 : Int32} {μ : Me} {Q : Int32 → Me → Prop} (h : S_X10_heard o0 i1 i2 μ Q) : CT Ω yX10_heard cX10_heard 3 (some .int) (rmc 1 0 0) [.ref (oB Ω + o0), .int i1, .int i2] μ (qI Q) := CT_of (by decide) rfl (by simp [lg_sl, Value.category]) (fun x hΩ f hq hi => by subst hΩ; exact t_X10_heard f hq h)
theorem dX10_believes_0 : decode cX10_believes 0 = .ok (.aload_n 0, 1) := by decide +kernel
theorem dX10_believes_1 : decode cX10_believes 1 = .ok (.getfield 12, 3) := by decide +kernel
theorem dX10_believes_4 : decode cX10_believes 4 = .ok (.iload_n 1, 1) := by decide +kernel
theorem dX10_believes_5 : decode cX10_believes 5 = .ok (.invokevirtual 175, 3) := by decide +kernel
theorem dX10_believes_8 : decode cX10_believes 8 = .ok (.ifCond .ne 5, 3) := by decide +kernel
theorem dX10_believes_11 : decode cX10_believes 11 = .ok (.iconst (-1), 1) := by decide +kernel
theorem dX10_believes_12 : decode cX10_believes 12 = .ok (.ireturn, 1) := by decide +kernel
theorem dX10_believes_13 : decode cX10_believes 13 = .ok (.aload_n 0, 1) := by decide +kernel
theorem dX10_believes_14 : decode cX10_believes 14 = .ok (.getfield 70, 3) := by decide +kernel
theorem dX10_believes_17 : decode cX10_believes 17 = .ok (.invokevirtual 321, 3) := by decide +kernel
theorem dX10_believes_20 : decode cX10_believes 20 = .ok (.aload_n 0, 1) := by decide +kernel
theorem dX10_believes_21 : decode cX10_believes 21 = .ok (.getfield 70, 3) := by decide +kernel
theorem dX10_believes_24 : decode cX10_believes 24 = .ok (.iload_n 1, 1) := by decide +kernel
theorem dX10_believes_25 : decode cX10_believes 25 = .ok (.iload_n 2, 1) := by decide +kernel
theorem dX10_believes_26 : decode cX10_believes 26 = .ok (.invokevirtual 324, 3) := by decide +kernel
theorem dX10_believes_29 : decode cX10_believes 29 = .ok (.ireturn, 1) := by decide +kernel
def S_X10_believes (o0 : Nat) (i1 : Int32) (i2 : Int32) (μ : Me) (Q : Int32 → Me → Prop) : Prop := mok μ o0 10 ∧ ∃ t2, mgr μ o0 0 = some t2 ∧ mok μ t2 9 ∧ S_X9_isPerson t2 i1 μ (fun r6 μ4 => ((¬ r6 = 0 → ∃ t7, mgr μ4 o0 8 = some t7 ∧ mok μ4 t7 0 ∧ S_X0_gather t7 μ4 (fun μ9 => ∃ t12, mgr μ9 o0 8 = some t12 ∧ mok μ9 t12 0 ∧ S_X0_likely t12 i1 i2 μ9 (fun r16 μ14 => Q r16 μ14))) ∧ (r6 = 0 → Q (-1) μ4)))
set_option maxHeartbeats 4000000 in
set_option maxRecDepth 100000 in
theorem t_X10_believes {x : GX} (f : Fx x cX10_believes RX10 3 (rmc 6 0 0)) {o0 : Nat} {i1 : Int32} {i2 : Int32} {μ : Me} {Q : Int32 → Me → Prop} (hq : Rt x (some .int) (qI Q)) (h : S_X10_believes o0 i1 i2 μ Q) : G x 3 0 [(0, .ref (gB x + o0)), (1, .int i1), (2, .int i2)] [] μ 0 0 := by
  unfold S_X10_believes at h
  refine g_aload_n f 0 dX10_believes_0 rfl rfl ?_
  obtain ⟨v1, h⟩ := h
  refine g_getR f fk_X10_12 v1 dX10_believes_1 rfl h (fun t2 h => ?_)
  refine g_iload_n f 1 dX10_believes_4 rfl rfl ?_
  obtain ⟨v3, h⟩ := h
  refine g_callV f mk_X10_175 v3 (c_X9_isPerson h) dX10_believes_5 rfl rfl (Nat.le_of_ble_eq_true rfl) (rm_ok (by decide) (by decide)) ⟨Nat.le_of_ble_eq_true rfl, Nat.le_of_ble_eq_true rfl⟩ (kI fun r6 μ4 x5 h => ?_)
  refine g_if_ne f 13 dX10_believes_8 rfl h (fun h => ?_) (fun h => ?_)
  · refine g_aload_n f 0 dX10_believes_13 rfl rfl ?_
    have v1 := mex_ok x5 v1
    refine g_getR f fk_X10_70 v1 dX10_believes_14 rfl h (fun t7 h => ?_)
    obtain ⟨v8, h⟩ := h
    refine g_callV f mk_X10_321 v8 (c_X0_gather h) dX10_believes_17 rfl rfl (Nat.le_of_ble_eq_true rfl) (rm_ok (by decide) (by decide)) ⟨Nat.le_of_ble_eq_true rfl, Nat.le_of_ble_eq_true rfl⟩ (kV fun μ9 x10 h => ?_)
    refine g_aload_n f 0 dX10_believes_20 rfl rfl ?_
    have v1 := mex_ok x10 v1
    refine g_getR f fk_X10_70 v1 dX10_believes_21 rfl h (fun t12 h => ?_)
    refine g_iload_n f 1 dX10_believes_24 rfl rfl ?_
    refine g_iload_n f 2 dX10_believes_25 rfl rfl ?_
    obtain ⟨v13, h⟩ := h
    refine g_callV f mk_X10_324 v13 (c_X0_likely h) dX10_believes_26 rfl rfl (Nat.le_of_ble_eq_true rfl) (rm_ok (by decide) (by decide)) ⟨Nat.le_of_ble_eq_true rfl, Nat.le_of_ble_eq_true rfl⟩ (kI fun r16 μ14 x15 h => ?_)
    exact g_iret f hq (Nat.le_of_ble_eq_true rfl) (Nat.le_of_ble_eq_true rfl) dX10_believes_29 h
  · refine g_iconst f (-1) dX10_believes_11 kc_m1 ?_
    exact g_iret f hq (Nat.le_of_ble_eq_true rfl) (Nat.le_of_ble_eq_true rfl) dX10_believes_12 h
theorem c_X10_believes {Ω : OM} {o0 : Nat} {i1 : Int32} {i2 : Int32} {μ : Me} {Q : Int32 → Me → Prop} (h : S_X10_believes o0 i1 i2 μ Q) : CT Ω yX10_believes cX10_believes 3 (some .int) (rmc 6 0 0) [.ref (oB Ω + o0), .int i1, .int i2] μ (qI Q) := CT_of (by decide) rfl (by simp [lg_sl, Value.category]) (fun x hΩ f hq hi => by subst hΩ; exact t_X10_believes f hq h)
theorem dX10_sure_0 : decode cX10_sure 0 = .ok (.aload_n 0, 1) := by decide +kernel
theorem dX10_sure_1 : decode cX10_sure 1 = .ok (.getfield 70, 3) := by decide +kernel
theorem dX10_sure_4 : decode cX10_sure 4 = .ok (.invokevirtual 321, 3) := by decide +kernel
theorem dX10_sure_7 : decode cX10_sure 7 = .ok (.aload_n 0, 1) := by decide +kernel
theorem dX10_sure_8 : decode cX10_sure 8 = .ok (.getfield 70, 3) := by decide +kernel
theorem dX10_sure_11 : decode cX10_sure 11 = .ok (.getfield 327, 3) := by decide +kernel
theorem dX10_sure_14 : decode cX10_sure 14 = .ok (.ifCond .ne 5, 3) := by decide +kernel
theorem dX10_sure_17 : decode cX10_sure 17 = .ok (.iconst (-1), 1) := by decide +kernel
theorem dX10_sure_18 : decode cX10_sure 18 = .ok (.ireturn, 1) := by decide +kernel
theorem dX10_sure_19 : decode cX10_sure 19 = .ok (.iload_n 1, 1) := by decide +kernel
theorem dX10_sure_20 : decode cX10_sure 20 = .ok (.ifCond .eq 13, 3) := by decide +kernel
theorem dX10_sure_23 : decode cX10_sure 23 = .ok (.aload_n 0, 1) := by decide +kernel
theorem dX10_sure_24 : decode cX10_sure 24 = .ok (.getfield 70, 3) := by decide +kernel
theorem dX10_sure_27 : decode cX10_sure 27 = .ok (.invokevirtual 328, 3) := by decide +kernel
theorem dX10_sure_30 : decode cX10_sure 30 = .ok (.goto 10, 3) := by decide +kernel
theorem dX10_sure_33 : decode cX10_sure 33 = .ok (.aload_n 0, 1) := by decide +kernel
theorem dX10_sure_34 : decode cX10_sure 34 = .ok (.getfield 70, 3) := by decide +kernel
theorem dX10_sure_37 : decode cX10_sure 37 = .ok (.invokevirtual 331, 3) := by decide +kernel
theorem dX10_sure_40 : decode cX10_sure 40 = .ok (.ireturn, 1) := by decide +kernel
def S_X10_sure (o0 : Nat) (i1 : Int32) (μ : Me) (Q : Int32 → Me → Prop) : Prop := mok μ o0 10 ∧ ∃ t2, mgr μ o0 8 = some t2 ∧ mok μ t2 0 ∧ S_X0_gather t2 μ (fun μ4 => ∃ t7, mgr μ4 o0 8 = some t7 ∧ mok μ4 t7 0 ∧ ((¬ (mgi μ4 t7 5) = 0 → ((i1 = 0 → ∃ t9, mgr μ4 o0 8 = some t9 ∧ mok μ4 t9 0 ∧ S_X0_lateInNone t9 μ4 (fun r13 μ11 => Q r13 μ11)) ∧ (¬ i1 = 0 → ∃ t14, mgr μ4 o0 8 = some t14 ∧ mok μ4 t14 0 ∧ S_X0_lateInAll t14 μ4 (fun r18 μ16 => Q r18 μ16)))) ∧ ((mgi μ4 t7 5) = 0 → Q (-1) μ4)))
set_option maxHeartbeats 4000000 in
set_option maxRecDepth 100000 in
theorem t_X10_sure {x : GX} (f : Fx x cX10_sure RX10 2 (rmc 6 0 0)) {o0 : Nat} {i1 : Int32} {μ : Me} {Q : Int32 → Me → Prop} (hq : Rt x (some .int) (qI Q)) (h : S_X10_sure o0 i1 μ Q) : G x 2 0 [(0, .ref (gB x + o0)), (1, .int i1)] [] μ 0 0 := by
  unfold S_X10_sure at h
  refine g_aload_n f 0 dX10_sure_0 rfl rfl ?_
  obtain ⟨v1, h⟩ := h
  refine g_getR f fk_X10_70 v1 dX10_sure_1 rfl h (fun t2 h => ?_)
  obtain ⟨v3, h⟩ := h
  refine g_callV f mk_X10_321 v3 (c_X0_gather h) dX10_sure_4 rfl rfl (Nat.le_of_ble_eq_true rfl) (rm_ok (by decide) (by decide)) ⟨Nat.le_of_ble_eq_true rfl, Nat.le_of_ble_eq_true rfl⟩ (kV fun μ4 x5 h => ?_)
  refine g_aload_n f 0 dX10_sure_7 rfl rfl ?_
  have v1 := mex_ok x5 v1
  refine g_getR f fk_X10_70 v1 dX10_sure_8 rfl h (fun t7 h => ?_)
  obtain ⟨v8, h⟩ := h
  refine g_getI f fk_X10_327 v8 dX10_sure_11 rfl ?_
  refine g_if_ne f 19 dX10_sure_14 rfl h (fun h => ?_) (fun h => ?_)
  · refine g_iload_n f 1 dX10_sure_19 rfl rfl ?_
    refine g_if_eq f 33 dX10_sure_20 rfl h (fun h => ?_) (fun h => ?_)
    · refine g_aload_n f 0 dX10_sure_33 rfl rfl ?_
      refine g_getR f fk_X10_70 v1 dX10_sure_34 rfl h (fun t9 h => ?_)
      obtain ⟨v10, h⟩ := h
      refine g_callV f mk_X10_331 v10 (c_X0_lateInNone h) dX10_sure_37 rfl rfl (Nat.le_of_ble_eq_true rfl) (rm_ok (by decide) (by decide)) ⟨Nat.le_of_ble_eq_true rfl, Nat.le_of_ble_eq_true rfl⟩ (kI fun r13 μ11 x12 h => ?_)
      exact g_iret f hq (Nat.le_of_ble_eq_true rfl) (Nat.le_of_ble_eq_true rfl) dX10_sure_40 h
    · refine g_aload_n f 0 dX10_sure_23 rfl rfl ?_
      refine g_getR f fk_X10_70 v1 dX10_sure_24 rfl h (fun t14 h => ?_)
      obtain ⟨v15, h⟩ := h
      refine g_callV f mk_X10_328 v15 (c_X0_lateInAll h) dX10_sure_27 rfl rfl (Nat.le_of_ble_eq_true rfl) (rm_ok (by decide) (by decide)) ⟨Nat.le_of_ble_eq_true rfl, Nat.le_of_ble_eq_true rfl⟩ (kI fun r18 μ16 x17 h => ?_)
      refine g_goto f 40 dX10_sure_30 rfl ?_
      exact g_iret f hq (Nat.le_of_ble_eq_true rfl) (Nat.le_of_ble_eq_true rfl) dX10_sure_40 h
  · refine g_iconst f (-1) dX10_sure_17 kc_m1 ?_
    exact g_iret f hq (Nat.le_of_ble_eq_true rfl) (Nat.le_of_ble_eq_true rfl) dX10_sure_18 h
theorem c_X10_sure {Ω : OM} {o0 : Nat} {i1 : Int32} {μ : Me} {Q : Int32 → Me → Prop} (h : S_X10_sure o0 i1 μ Q) : CT Ω yX10_sure cX10_sure 2 (some .int) (rmc 6 0 0) [.ref (oB Ω + o0), .int i1] μ (qI Q) := CT_of (by decide) rfl (by simp [lg_sl, Value.category]) (fun x hΩ f hq hi => by subst hΩ; exact t_X10_sure f hq h)
theorem dX10_tells_0 : decode cX10_tells 0 = .ok (.iload_n 1, 1) := by decide +kernel
theorem dX10_tells_1 : decode cX10_tells 1 = .ok (.ifCond .eq 10, 3) := by decide +kernel
theorem dX10_tells_4 : decode cX10_tells 4 = .ok (.iload_n 1, 1) := by decide +kernel
theorem dX10_tells_5 : decode cX10_tells 5 = .ok (.iconst 1, 1) := by decide +kernel
theorem dX10_tells_6 : decode cX10_tells 6 = .ok (.if_icmp .eq 5, 3) := by decide +kernel
theorem dX10_tells_9 : decode cX10_tells 9 = .ok (.iconst (-1), 1) := by decide +kernel
theorem dX10_tells_10 : decode cX10_tells 10 = .ok (.ireturn, 1) := by decide +kernel
theorem dX10_tells_11 : decode cX10_tells 11 = .ok (.aload_n 0, 1) := by decide +kernel
theorem dX10_tells_12 : decode cX10_tells 12 = .ok (.getfield 70, 3) := by decide +kernel
theorem dX10_tells_15 : decode cX10_tells 15 = .ok (.invokevirtual 321, 3) := by decide +kernel
theorem dX10_tells_18 : decode cX10_tells 18 = .ok (.aload_n 0, 1) := by decide +kernel
theorem dX10_tells_19 : decode cX10_tells 19 = .ok (.getfield 70, 3) := by decide +kernel
theorem dX10_tells_22 : decode cX10_tells 22 = .ok (.getfield 327, 3) := by decide +kernel
theorem dX10_tells_25 : decode cX10_tells 25 = .ok (.bipush 12, 2) := by decide +kernel
theorem dX10_tells_27 : decode cX10_tells 27 = .ok (.if_icmp .le 5, 3) := by decide +kernel
theorem dX10_tells_30 : decode cX10_tells 30 = .ok (.iconst (-1), 1) := by decide +kernel
theorem dX10_tells_31 : decode cX10_tells 31 = .ok (.ireturn, 1) := by decide +kernel
theorem dX10_tells_32 : decode cX10_tells 32 = .ok (.aload_n 0, 1) := by decide +kernel
theorem dX10_tells_33 : decode cX10_tells 33 = .ok (.getfield 70, 3) := by decide +kernel
theorem dX10_tells_36 : decode cX10_tells 36 = .ok (.invokevirtual 334, 3) := by decide +kernel
theorem dX10_tells_39 : decode cX10_tells 39 = .ok (.iload_n 1, 1) := by decide +kernel
theorem dX10_tells_40 : decode cX10_tells 40 = .ok (.ifCond .ne 13, 3) := by decide +kernel
theorem dX10_tells_43 : decode cX10_tells 43 = .ok (.aload_n 0, 1) := by decide +kernel
theorem dX10_tells_44 : decode cX10_tells 44 = .ok (.getfield 70, 3) := by decide +kernel
theorem dX10_tells_47 : decode cX10_tells 47 = .ok (.invokevirtual 337, 3) := by decide +kernel
theorem dX10_tells_50 : decode cX10_tells 50 = .ok (.goto 10, 3) := by decide +kernel
theorem dX10_tells_53 : decode cX10_tells 53 = .ok (.aload_n 0, 1) := by decide +kernel
theorem dX10_tells_54 : decode cX10_tells 54 = .ok (.getfield 70, 3) := by decide +kernel
theorem dX10_tells_57 : decode cX10_tells 57 = .ok (.invokevirtual 340, 3) := by decide +kernel
theorem dX10_tells_60 : decode cX10_tells 60 = .ok (.ireturn, 1) := by decide +kernel
def B_X10_tells_11 (o0 : Nat) (i1 : Int32) (k j : Nat) (μ : Me) (Q : Int32 → Me → Prop) : Prop := mok μ o0 10 ∧ ∃ t2, mgr μ o0 8 = some t2 ∧ mok μ t2 0 ∧ (k + 0 ≤ 1 ∧ j + 0 ≤ 4096) ∧ S_X0_gather t2 μ (fun μ4 => ∃ t8, mgr μ4 o0 8 = some t8 ∧ mok μ4 t8 0 ∧ (((mgi μ4 t8 5) ≤ 12 → ∃ t10, mgr μ4 o0 8 = some t10 ∧ mok μ4 t10 0 ∧ ((k + 0) + 1 ≤ 1 ∧ (j + 0) + 4096 ≤ 4096) ∧ S_X0_weigh t10 μ4 (fun μ12 => ((¬ i1 = 0 → ∃ t16, mgr μ12 o0 8 = some t16 ∧ mok μ12 t16 0 ∧ (((k + 0) + 1) + 0 ≤ 1 ∧ ((j + 0) + 4096) + 0 ≤ 4096) ∧ S_X0_mostAsked t16 μ12 (fun r21 μ18 => ((((k + 0) + 1) + 0) ≤ 1 ∧ (((j + 0) + 4096) + 0) ≤ 4096) ∧ Q r21 μ18)) ∧ (i1 = 0 → ∃ t23, mgr μ12 o0 8 = some t23 ∧ mok μ12 t23 0 ∧ (((k + 0) + 1) + 0 ≤ 1 ∧ ((j + 0) + 4096) + 0 ≤ 4096) ∧ S_X0_firstToAsk t23 μ12 (fun r28 μ25 => ((((k + 0) + 1) + 0) ≤ 1 ∧ (((j + 0) + 4096) + 0) ≤ 4096) ∧ Q r28 μ25))))) ∧ (¬ (mgi μ4 t8 5) ≤ 12 → ((k + 0) ≤ 1 ∧ (j + 0) ≤ 4096) ∧ Q (-1) μ4)))
set_option maxHeartbeats 4000000 in
set_option maxRecDepth 100000 in
theorem tB_X10_tells_11 {x : GX} (f : Fx x cX10_tells RX10 2 (rmc 6 1 4096)) {o0 : Nat} {i1 : Int32} {k j : Nat} {μ : Me} {Q : Int32 → Me → Prop} (hq : Rt x (some .int) (qI Q)) (h : B_X10_tells_11 o0 i1 k j μ Q) : G x 2 11 [(0, .ref (gB x + o0)), (1, .int i1)] [] μ k j := by
  unfold B_X10_tells_11 at h
  refine g_aload_n f 0 dX10_tells_11 rfl rfl ?_
  obtain ⟨v1, h⟩ := h
  refine g_getR f fk_X10_70 v1 dX10_tells_12 rfl h (fun t2 h => ?_)
  obtain ⟨v3, h⟩ := h
  obtain ⟨⟨c6, c6b⟩, h⟩ := h
  refine g_callV f mk_X10_321 v3 (c_X0_gather h) dX10_tells_15 rfl rfl (Nat.le_of_ble_eq_true rfl) (rm_ok (by decide) (by decide)) ⟨c6, c6b⟩ (kV fun μ4 x5 h => ?_)
  refine g_aload_n f 0 dX10_tells_18 rfl rfl ?_
  have v1 := mex_ok x5 v1
  refine g_getR f fk_X10_70 v1 dX10_tells_19 rfl h (fun t8 h => ?_)
  obtain ⟨v9, h⟩ := h
  refine g_getI f fk_X10_327 v9 dX10_tells_22 rfl ?_
  refine g_bipush f 12 dX10_tells_25 kb_12 ?_
  refine g_ic_le f 32 dX10_tells_27 rfl h (fun h => ?_) (fun h => ?_)
  · refine g_aload_n f 0 dX10_tells_32 rfl rfl ?_
    refine g_getR f fk_X10_70 v1 dX10_tells_33 rfl h (fun t10 h => ?_)
    obtain ⟨v11, h⟩ := h
    obtain ⟨⟨c14, c14b⟩, h⟩ := h
    refine g_callV f mk_X10_334 v11 (c_X0_weigh h) dX10_tells_36 rfl rfl (Nat.le_of_ble_eq_true rfl) (rm_ok (by decide) (by decide)) ⟨c14, c14b⟩ (kV fun μ12 x13 h => ?_)
    refine g_iload_n f 1 dX10_tells_39 rfl rfl ?_
    refine g_if_ne f 53 dX10_tells_40 rfl h (fun h => ?_) (fun h => ?_)
    · refine g_aload_n f 0 dX10_tells_53 rfl rfl ?_
      have v1 := mex_ok x13 v1
      refine g_getR f fk_X10_70 v1 dX10_tells_54 rfl h (fun t16 h => ?_)
      obtain ⟨v17, h⟩ := h
      obtain ⟨⟨c20, c20b⟩, h⟩ := h
      refine g_callV f mk_X10_340 v17 (c_X0_mostAsked h) dX10_tells_57 rfl rfl (Nat.le_of_ble_eq_true rfl) (rm_ok (by decide) (by decide)) ⟨c20, c20b⟩ (kI fun r21 μ18 x19 h => ?_)
      obtain ⟨⟨c22, c22b⟩, h⟩ := h
      exact g_iret f hq c22 c22b dX10_tells_60 h
    · refine g_aload_n f 0 dX10_tells_43 rfl rfl ?_
      have v1 := mex_ok x13 v1
      refine g_getR f fk_X10_70 v1 dX10_tells_44 rfl h (fun t23 h => ?_)
      obtain ⟨v24, h⟩ := h
      obtain ⟨⟨c27, c27b⟩, h⟩ := h
      refine g_callV f mk_X10_337 v24 (c_X0_firstToAsk h) dX10_tells_47 rfl rfl (Nat.le_of_ble_eq_true rfl) (rm_ok (by decide) (by decide)) ⟨c27, c27b⟩ (kI fun r28 μ25 x26 h => ?_)
      refine g_goto f 60 dX10_tells_50 rfl ?_
      obtain ⟨⟨c29, c29b⟩, h⟩ := h
      exact g_iret f hq c29 c29b dX10_tells_60 h
  · refine g_iconst f (-1) dX10_tells_30 kc_m1 ?_
    obtain ⟨⟨c30, c30b⟩, h⟩ := h
    exact g_iret f hq c30 c30b dX10_tells_31 h
def S_X10_tells (o0 : Nat) (i1 : Int32) (μ : Me) (Q : Int32 → Me → Prop) : Prop := ((i1 = 0 → B_X10_tells_11 o0 i1 0 0 μ Q) ∧ (¬ i1 = 0 → ((i1 = 1 → B_X10_tells_11 o0 i1 0 0 μ Q) ∧ (¬ i1 = 1 → Q (-1) μ))))
set_option maxHeartbeats 4000000 in
set_option maxRecDepth 100000 in
theorem t_X10_tells {x : GX} (f : Fx x cX10_tells RX10 2 (rmc 6 1 4096)) {o0 : Nat} {i1 : Int32} {μ : Me} {Q : Int32 → Me → Prop} (hq : Rt x (some .int) (qI Q)) (h : S_X10_tells o0 i1 μ Q) : G x 2 0 [(0, .ref (gB x + o0)), (1, .int i1)] [] μ 0 0 := by
  unfold S_X10_tells at h
  refine g_iload_n f 1 dX10_tells_0 rfl rfl ?_
  refine g_if_eq f 11 dX10_tells_1 rfl h (fun h => ?_) (fun h => ?_)
  · exact h_sub [0, 1] rfl (tB_X10_tells_11 f hq h)
  · refine g_iload_n f 1 dX10_tells_4 rfl rfl ?_
    refine g_iconst f 1 dX10_tells_5 kc_1 ?_
    refine g_ic_eq f 11 dX10_tells_6 rfl h (fun h => ?_) (fun h => ?_)
    · exact h_sub [0, 1] rfl (tB_X10_tells_11 f hq h)
    · refine g_iconst f (-1) dX10_tells_9 kc_m1 ?_
      exact g_iret f hq (Nat.le_of_ble_eq_true rfl) (Nat.le_of_ble_eq_true rfl) dX10_tells_10 h
theorem c_X10_tells {Ω : OM} {o0 : Nat} {i1 : Int32} {μ : Me} {Q : Int32 → Me → Prop} (h : S_X10_tells o0 i1 μ Q) : CT Ω yX10_tells cX10_tells 2 (some .int) (rmc 6 1 4096) [.ref (oB Ω + o0), .int i1] μ (qI Q) := CT_of (by decide) rfl (by simp [lg_sl, Value.category]) (fun x hΩ f hq hi => by subst hΩ; exact t_X10_tells f hq h)
theorem dX10_nobodyIsLateWith_0 : decode cX10_nobodyIsLateWith 0 = .ok (.aload_n 0, 1) := by decide +kernel
theorem dX10_nobodyIsLateWith_1 : decode cX10_nobodyIsLateWith 1 = .ok (.getfield 45, 3) := by decide +kernel
theorem dX10_nobodyIsLateWith_4 : decode cX10_nobodyIsLateWith 4 = .ok (.iload_n 1, 1) := by decide +kernel
theorem dX10_nobodyIsLateWith_5 : decode cX10_nobodyIsLateWith 5 = .ok (.putfield 351, 3) := by decide +kernel
theorem dX10_nobodyIsLateWith_8 : decode cX10_nobodyIsLateWith 8 = .ok (.aload_n 0, 1) := by decide +kernel
theorem dX10_nobodyIsLateWith_9 : decode cX10_nobodyIsLateWith 9 = .ok (.getfield 45, 3) := by decide +kernel
theorem dX10_nobodyIsLateWith_12 : decode cX10_nobodyIsLateWith 12 = .ok (.iconst 0, 1) := by decide +kernel
theorem dX10_nobodyIsLateWith_13 : decode cX10_nobodyIsLateWith 13 = .ok (.invokevirtual 277, 3) := by decide +kernel
theorem dX10_nobodyIsLateWith_16 : decode cX10_nobodyIsLateWith 16 = .ok (.ifCond .ne 7, 3) := by decide +kernel
theorem dX10_nobodyIsLateWith_19 : decode cX10_nobodyIsLateWith 19 = .ok (.iconst 1, 1) := by decide +kernel
theorem dX10_nobodyIsLateWith_20 : decode cX10_nobodyIsLateWith 20 = .ok (.goto 4, 3) := by decide +kernel
theorem dX10_nobodyIsLateWith_23 : decode cX10_nobodyIsLateWith 23 = .ok (.iconst 0, 1) := by decide +kernel
theorem dX10_nobodyIsLateWith_24 : decode cX10_nobodyIsLateWith 24 = .ok (.ireturn, 1) := by decide +kernel
def S_X10_nobodyIsLateWith (o0 : Nat) (i1 : Int32) (μ : Me) (Q : Int32 → Me → Prop) : Prop := mok μ o0 10 ∧ ∃ t2, mgr μ o0 5 = some t2 ∧ mok μ t2 4 ∧ ∀ μ4, μ4 = msi μ t2 5 i1 → ∃ t5, mgr μ4 o0 5 = some t5 ∧ mok μ4 t5 4 ∧ S_X4_lateBy t5 0 μ4 (fun r9 μ7 => ((¬ r9 = 0 → Q 0 μ7) ∧ (r9 = 0 → Q 1 μ7)))
set_option maxHeartbeats 4000000 in
set_option maxRecDepth 100000 in
theorem t_X10_nobodyIsLateWith {x : GX} (f : Fx x cX10_nobodyIsLateWith RX10 2 (rmc 4 0 0)) {o0 : Nat} {i1 : Int32} {μ : Me} {Q : Int32 → Me → Prop} (hq : Rt x (some .boolean) (qI Q)) (h : S_X10_nobodyIsLateWith o0 i1 μ Q) : G x 2 0 [(0, .ref (gB x + o0)), (1, .int i1)] [] μ 0 0 := by
  unfold S_X10_nobodyIsLateWith at h
  refine g_aload_n f 0 dX10_nobodyIsLateWith_0 rfl rfl ?_
  obtain ⟨v1, h⟩ := h
  refine g_getR f fk_X10_45 v1 dX10_nobodyIsLateWith_1 rfl h (fun t2 h => ?_)
  refine g_iload_n f 1 dX10_nobodyIsLateWith_4 rfl rfl ?_
  obtain ⟨v3, h⟩ := h
  refine g_putI f fk_X10_351 v3 dX10_nobodyIsLateWith_5 rfl h (fun h => ?_)
  refine g_aload_n f 0 dX10_nobodyIsLateWith_8 rfl rfl ?_
  refine g_getR f fk_X10_45 v1 dX10_nobodyIsLateWith_9 rfl h (fun t5 h => ?_)
  refine g_iconst f 0 dX10_nobodyIsLateWith_12 kc_0 ?_
  obtain ⟨v6, h⟩ := h
  refine g_callV f mk_X10_277 v6 (c_X4_lateBy h) dX10_nobodyIsLateWith_13 rfl rfl (Nat.le_of_ble_eq_true rfl) (rm_ok (by decide) (by decide)) ⟨Nat.le_of_ble_eq_true rfl, Nat.le_of_ble_eq_true rfl⟩ (kI fun r9 μ7 x8 h => ?_)
  refine g_if_ne f 23 dX10_nobodyIsLateWith_16 rfl h (fun h => ?_) (fun h => ?_)
  · refine g_iconst f 0 dX10_nobodyIsLateWith_23 kc_0 ?_
    exact g_zret f hq (Nat.le_of_ble_eq_true rfl) (Nat.le_of_ble_eq_true rfl) dX10_nobodyIsLateWith_24 zb_0.1 h
  · refine g_iconst f 1 dX10_nobodyIsLateWith_19 kc_1 ?_
    refine g_goto f 24 dX10_nobodyIsLateWith_20 rfl ?_
    exact g_zret f hq (Nat.le_of_ble_eq_true rfl) (Nat.le_of_ble_eq_true rfl) dX10_nobodyIsLateWith_24 zb_1.1 h
theorem c_X10_nobodyIsLateWith {Ω : OM} {o0 : Nat} {i1 : Int32} {μ : Me} {Q : Int32 → Me → Prop} (h : S_X10_nobodyIsLateWith o0 i1 μ Q) : CT Ω yX10_nobodyIsLateWith cX10_nobodyIsLateWith 2 (some .boolean) (rmc 4 0 0) [.ref (oB Ω + o0), .int i1] μ (qI Q) := CT_of (by decide) rfl (by simp [lg_sl, Value.category]) (fun x hΩ f hq hi => by subst hΩ; exact t_X10_nobodyIsLateWith f hq h)
theorem dX10_asleep_0 : decode cX10_asleep 0 = .ok (.aload_n 0, 1) := by decide +kernel
theorem dX10_asleep_1 : decode cX10_asleep 1 = .ok (.getfield 45, 3) := by decide +kernel
theorem dX10_asleep_4 : decode cX10_asleep 4 = .ok (.invokevirtual 227, 3) := by decide +kernel
theorem dX10_asleep_7 : decode cX10_asleep 7 = .ok (.iconst 1, 1) := by decide +kernel
theorem dX10_asleep_8 : decode cX10_asleep 8 = .ok (.aload_n 0, 1) := by decide +kernel
theorem dX10_asleep_9 : decode cX10_asleep 9 = .ok (.getfield 12, 3) := by decide +kernel
theorem dX10_asleep_12 : decode cX10_asleep 12 = .ok (.getfield 283, 3) := by decide +kernel
theorem dX10_asleep_15 : decode cX10_asleep 15 = .ok (.ishl, 1) := by decide +kernel
theorem dX10_asleep_16 : decode cX10_asleep 16 = .ok (.iconst 1, 1) := by decide +kernel
theorem dX10_asleep_17 : decode cX10_asleep 17 = .ok (.isub, 1) := by decide +kernel
theorem dX10_asleep_18 : decode cX10_asleep 18 = .ok (.istore_n 2, 1) := by decide +kernel
theorem dX10_asleep_19 : decode cX10_asleep 19 = .ok (.aload_n 0, 1) := by decide +kernel
theorem dX10_asleep_20 : decode cX10_asleep 20 = .ok (.getfield 12, 3) := by decide +kernel
theorem dX10_asleep_23 : decode cX10_asleep 23 = .ok (.getfield 160, 3) := by decide +kernel
theorem dX10_asleep_26 : decode cX10_asleep 26 = .ok (.getfield 190, 3) := by decide +kernel
theorem dX10_asleep_29 : decode cX10_asleep 29 = .ok (.istore_n 3, 1) := by decide +kernel
theorem dX10_asleep_30 : decode cX10_asleep 30 = .ok (.iload_n 2, 1) := by decide +kernel
theorem dX10_asleep_31 : decode cX10_asleep 31 = .ok (.istore 4, 2) := by decide +kernel
theorem dX10_asleep_33 : decode cX10_asleep 33 = .ok (.iconst 0, 1) := by decide +kernel
theorem dX10_asleep_34 : decode cX10_asleep 34 = .ok (.istore 5, 2) := by decide +kernel
theorem dX10_asleep_36 : decode cX10_asleep 36 = .ok (.iload 5, 2) := by decide +kernel
theorem dX10_asleep_38 : decode cX10_asleep 38 = .ok (.iload_n 2, 1) := by decide +kernel
theorem dX10_asleep_39 : decode cX10_asleep 39 = .ok (.if_icmp .ge 55, 3) := by decide +kernel
theorem dX10_asleep_42 : decode cX10_asleep 42 = .ok (.iload 5, 2) := by decide +kernel
theorem dX10_asleep_44 : decode cX10_asleep 44 = .ok (.invokestatic 343, 3) := by decide +kernel
theorem dX10_asleep_47 : decode cX10_asleep 47 = .ok (.iload 4, 2) := by decide +kernel
theorem dX10_asleep_49 : decode cX10_asleep 49 = .ok (.invokestatic 343, 3) := by decide +kernel
theorem dX10_asleep_52 : decode cX10_asleep 52 = .ok (.if_icmp .ge 7, 3) := by decide +kernel
theorem dX10_asleep_55 : decode cX10_asleep 55 = .ok (.iconst 1, 1) := by decide +kernel
theorem dX10_asleep_56 : decode cX10_asleep 56 = .ok (.goto 4, 3) := by decide +kernel
theorem dX10_asleep_59 : decode cX10_asleep 59 = .ok (.iconst 0, 1) := by decide +kernel
theorem dX10_asleep_60 : decode cX10_asleep 60 = .ok (.istore 6, 2) := by decide +kernel
theorem dX10_asleep_62 : decode cX10_asleep 62 = .ok (.iload 6, 2) := by decide +kernel
theorem dX10_asleep_64 : decode cX10_asleep 64 = .ok (.ifCond .eq 24, 3) := by decide +kernel
theorem dX10_asleep_67 : decode cX10_asleep 67 = .ok (.iload 5, 2) := by decide +kernel
theorem dX10_asleep_69 : decode cX10_asleep 69 = .ok (.iload_n 3, 1) := by decide +kernel
theorem dX10_asleep_70 : decode cX10_asleep 70 = .ok (.iand, 1) := by decide +kernel
theorem dX10_asleep_71 : decode cX10_asleep 71 = .ok (.iload_n 3, 1) := by decide +kernel
theorem dX10_asleep_72 : decode cX10_asleep 72 = .ok (.if_icmp .ne 16, 3) := by decide +kernel
theorem dX10_asleep_75 : decode cX10_asleep 75 = .ok (.aload_n 0, 1) := by decide +kernel
theorem dX10_asleep_76 : decode cX10_asleep 76 = .ok (.iload 5, 2) := by decide +kernel
theorem dX10_asleep_78 : decode cX10_asleep 78 = .ok (.invokevirtual 348, 3) := by decide +kernel
theorem dX10_asleep_81 : decode cX10_asleep 81 = .ok (.ifCond .eq 7, 3) := by decide +kernel
theorem dX10_asleep_84 : decode cX10_asleep 84 = .ok (.iload 5, 2) := by decide +kernel
theorem dX10_asleep_86 : decode cX10_asleep 86 = .ok (.istore 4, 2) := by decide +kernel
theorem dX10_asleep_88 : decode cX10_asleep 88 = .ok (.iinc 5 1, 3) := by decide +kernel
theorem dX10_asleep_91 : decode cX10_asleep 91 = .ok (.goto (-55), 3) := by decide +kernel
theorem dX10_asleep_94 : decode cX10_asleep 94 = .ok (.iload_n 1, 1) := by decide +kernel
theorem dX10_asleep_95 : decode cX10_asleep 95 = .ok (.ifCond .eq 11, 3) := by decide +kernel
theorem dX10_asleep_98 : decode cX10_asleep 98 = .ok (.iload 4, 2) := by decide +kernel
theorem dX10_asleep_100 : decode cX10_asleep 100 = .ok (.invokestatic 343, 3) := by decide +kernel
theorem dX10_asleep_103 : decode cX10_asleep 103 = .ok (.goto 5, 3) := by decide +kernel
theorem dX10_asleep_106 : decode cX10_asleep 106 = .ok (.iload 4, 2) := by decide +kernel
theorem dX10_asleep_108 : decode cX10_asleep 108 = .ok (.ireturn, 1) := by decide +kernel
def B_X10_asleep_88 (o0 : Nat) (i1 : Int32) (i2 : Int32) (i3 : Int32) (i4 : Int32) (i5 : Int32) (μ : Me) (K36 : Int32 → Int32 → Me → Prop) (Q : Int32 → Me → Prop) : Prop := K36 i4 (i5 + 1) μ
set_option maxHeartbeats 4000000 in
set_option maxRecDepth 100000 in
theorem tB_X10_asleep_88 {x : GX} (f : Fx x cX10_asleep RX10 7 (rmc 5 0 0)) {o0 : Nat} {i1 : Int32} {i2 : Int32} {i3 : Int32} {i4 : Int32} {i5 : Int32} {μ : Me} {Q : Int32 → Me → Prop} (hq : Rt x (some .int) (qI Q)) {K36 : Int32 → Int32 → Me → Prop} (hK36 : ∀ (a4 : Int32) (a5 : Int32) (ν : Me), K36 a4 a5 ν → G x 7 36 [(0, .ref (gB x + o0)), (1, .int i1), (2, .int i2), (3, .int i3), (4, .int a4), (5, .int a5)] [] ν 0 0) (h : B_X10_asleep_88 o0 i1 i2 i3 i4 i5 μ K36 Q) : G x 7 88 [(0, .ref (gB x + o0)), (1, .int i1), (2, .int i2), (3, .int i3), (4, .int i4), (5, .int i5)] [] μ 0 0 := by
  unfold B_X10_asleep_88 at h
  refine h_iinc f 5 1 dX10_asleep_88 rfl kc_1 (by decide) ?_
  refine g_goto f 36 dX10_asleep_91 rfl ?_
  exact h_sub [1, 2, 3, 4, 5, 0] rfl (hK36 _ _ _ h)
def B_X10_asleep_60 (o0 : Nat) (i1 : Int32) (i2 : Int32) (i3 : Int32) (i4 : Int32) (i5 : Int32) (s0 : Int32) (μ : Me) (K36 : Int32 → Int32 → Me → Prop) (Q : Int32 → Me → Prop) : Prop := ((s0 = 0 → B_X10_asleep_88 o0 i1 i2 i3 i4 i5 μ K36 Q) ∧ (¬ s0 = 0 → ((¬ (i5 &&& i3) = i3 → B_X10_asleep_88 o0 i1 i2 i3 i4 i5 μ K36 Q) ∧ ((i5 &&& i3) = i3 → mok μ o0 10 ∧ S_X10_nobodyIsLateWith o0 i5 μ (fun r25 μ23 => ((r25 = 0 → B_X10_asleep_88 o0 i1 i2 i3 i4 i5 μ23 K36 Q) ∧ (¬ r25 = 0 → B_X10_asleep_88 o0 i1 i2 i3 i5 i5 μ23 K36 Q)))))))
set_option maxHeartbeats 4000000 in
set_option maxRecDepth 100000 in
theorem tB_X10_asleep_60 {x : GX} (f : Fx x cX10_asleep RX10 7 (rmc 5 0 0)) {o0 : Nat} {i1 : Int32} {i2 : Int32} {i3 : Int32} {i4 : Int32} {i5 : Int32} {s0 : Int32} {μ : Me} {Q : Int32 → Me → Prop} (hq : Rt x (some .int) (qI Q)) {K36 : Int32 → Int32 → Me → Prop} (hK36 : ∀ (a4 : Int32) (a5 : Int32) (ν : Me), K36 a4 a5 ν → G x 7 36 [(0, .ref (gB x + o0)), (1, .int i1), (2, .int i2), (3, .int i3), (4, .int a4), (5, .int a5)] [] ν 0 0) (h : B_X10_asleep_60 o0 i1 i2 i3 i4 i5 s0 μ K36 Q) : G x 7 60 [(0, .ref (gB x + o0)), (1, .int i1), (2, .int i2), (3, .int i3), (4, .int i4), (5, .int i5)] [.int s0] μ 0 0 := by
  unfold B_X10_asleep_60 at h
  refine h_istore f dX10_asleep_60 (by decide) ?_
  refine g_iload f 0 dX10_asleep_62 rfl ?_
  refine g_if_eq f 88 dX10_asleep_64 rfl h (fun h => ?_) (fun h => ?_)
  · exact h_sub [1, 2, 3, 4, 5, 6] rfl (tB_X10_asleep_88 f hq hK36 h)
  · refine g_iload f 6 dX10_asleep_67 rfl ?_
    refine g_iload_n f 4 dX10_asleep_69 rfl rfl ?_
    refine g_iand f dX10_asleep_70 ?_
    refine g_iload_n f 4 dX10_asleep_71 rfl rfl ?_
    refine g_ic_ne f 88 dX10_asleep_72 rfl h (fun h => ?_) (fun h => ?_)
    · exact h_sub [1, 2, 3, 4, 5, 6] rfl (tB_X10_asleep_88 f hq hK36 h)
    · refine g_aload_n f 1 dX10_asleep_75 rfl rfl ?_
      refine g_iload f 6 dX10_asleep_76 rfl ?_
      obtain ⟨v22, h⟩ := h
      refine g_callV f mk_X10_348 v22 (c_X10_nobodyIsLateWith h) dX10_asleep_78 rfl rfl (Nat.le_of_ble_eq_true rfl) (rm_ok (by decide) (by decide)) ⟨Nat.le_of_ble_eq_true rfl, Nat.le_of_ble_eq_true rfl⟩ (kI fun r25 μ23 x24 h => ?_)
      refine g_if_eq f 88 dX10_asleep_81 rfl h (fun h => ?_) (fun h => ?_)
      · exact h_sub [1, 2, 3, 4, 5, 6] rfl (tB_X10_asleep_88 f hq hK36 h)
      · refine g_iload f 6 dX10_asleep_84 rfl ?_
        refine h_istore f dX10_asleep_86 (by decide) ?_
        exact h_sub [2, 3, 4, 5, 0, 6] rfl (tB_X10_asleep_88 f hq hK36 h)
def B_X10_asleep_36 (o0 : Nat) (i1 : Int32) (i2 : Int32) (i3 : Int32) (i4 : Int32) (i5 : Int32) (μ : Me) (K36 : Int32 → Int32 → Me → Prop) (Q : Int32 → Me → Prop) : Prop := ((i2 ≤ i5 → ((i1 = 0 → Q i4 μ) ∧ (¬ i1 = 0 → S_J6_bitCount_0f7a4 i4 μ (fun r15 μ13 => Q r15 μ13)))) ∧ (¬ i2 ≤ i5 → S_J6_bitCount_0f7a4 i5 μ (fun r18 μ16 => S_J6_bitCount_0f7a4 i4 μ16 (fun r21 μ19 => ((r21 ≤ r18 → B_X10_asleep_60 o0 i1 i2 i3 i4 i5 0 μ19 K36 Q) ∧ (¬ r21 ≤ r18 → B_X10_asleep_60 o0 i1 i2 i3 i4 i5 1 μ19 K36 Q))))))
set_option maxHeartbeats 4000000 in
set_option maxRecDepth 100000 in
theorem tB_X10_asleep_36 {x : GX} (f : Fx x cX10_asleep RX10 7 (rmc 5 0 0)) {o0 : Nat} {i1 : Int32} {i2 : Int32} {i3 : Int32} {i4 : Int32} {i5 : Int32} {μ : Me} {Q : Int32 → Me → Prop} (hq : Rt x (some .int) (qI Q)) {K36 : Int32 → Int32 → Me → Prop} (hK36 : ∀ (a4 : Int32) (a5 : Int32) (ν : Me), K36 a4 a5 ν → G x 7 36 [(0, .ref (gB x + o0)), (1, .int i1), (2, .int i2), (3, .int i3), (4, .int a4), (5, .int a5)] [] ν 0 0) (h : B_X10_asleep_36 o0 i1 i2 i3 i4 i5 μ K36 Q) : G x 7 36 [(0, .ref (gB x + o0)), (1, .int i1), (2, .int i2), (3, .int i3), (4, .int i4), (5, .int i5)] [] μ 0 0 := by
  unfold B_X10_asleep_36 at h
  refine g_iload f 5 dX10_asleep_36 rfl ?_
  refine g_iload_n f 2 dX10_asleep_38 rfl rfl ?_
  refine g_ic_ge f 94 dX10_asleep_39 rfl h (fun h => ?_) (fun h => ?_)
  · refine g_iload_n f 1 dX10_asleep_94 rfl rfl ?_
    refine g_if_eq f 106 dX10_asleep_95 rfl h (fun h => ?_) (fun h => ?_)
    · refine g_iload f 4 dX10_asleep_106 rfl ?_
      exact g_iret f hq (Nat.le_of_ble_eq_true rfl) (Nat.le_of_ble_eq_true rfl) dX10_asleep_108 h
    · refine g_iload f 4 dX10_asleep_98 rfl ?_
      refine g_callS f mk_X10_343 (c_J6_bitCount_0f7a4 h) dX10_asleep_100 rfl rfl (Nat.le_of_ble_eq_true rfl) (rm_ok (by decide) (by decide)) ⟨Nat.le_of_ble_eq_true rfl, Nat.le_of_ble_eq_true rfl⟩ (kI fun r15 μ13 x14 h => ?_)
      refine g_goto f 108 dX10_asleep_103 rfl ?_
      exact g_iret f hq (Nat.le_of_ble_eq_true rfl) (Nat.le_of_ble_eq_true rfl) dX10_asleep_108 h
  · refine g_iload f 5 dX10_asleep_42 rfl ?_
    refine g_callS f mk_X10_343 (c_J6_bitCount_0f7a4 h) dX10_asleep_44 rfl rfl (Nat.le_of_ble_eq_true rfl) (rm_ok (by decide) (by decide)) ⟨Nat.le_of_ble_eq_true rfl, Nat.le_of_ble_eq_true rfl⟩ (kI fun r18 μ16 x17 h => ?_)
    refine g_iload f 4 dX10_asleep_47 rfl ?_
    refine g_callS f mk_X10_343 (c_J6_bitCount_0f7a4 h) dX10_asleep_49 rfl rfl (Nat.le_of_ble_eq_true rfl) (rm_ok (by decide) (by decide)) ⟨Nat.le_of_ble_eq_true rfl, Nat.le_of_ble_eq_true rfl⟩ (kI fun r21 μ19 x20 h => ?_)
    refine g_ic_ge f 59 dX10_asleep_52 rfl h (fun h => ?_) (fun h => ?_)
    · refine g_iconst f 0 dX10_asleep_59 kc_0 ?_
      exact h_sub [0, 1, 2, 3, 4, 5] rfl (tB_X10_asleep_60 f hq hK36 h)
    · refine g_iconst f 1 dX10_asleep_55 kc_1 ?_
      refine g_goto f 60 dX10_asleep_56 rfl ?_
      exact h_sub [0, 1, 2, 3, 4, 5] rfl (tB_X10_asleep_60 f hq hK36 h)
def L_X10_asleep_36 (o0 : Nat) (i1 : Int32) (i2 : Int32) (i3 : Int32) (i4 : Int32) (i5 : Int32) (μ : Me) (Q : Int32 → Me → Prop) : Prop := ∃ I : Int32 → Int32 → Me → Nat → Prop, (∃ n, I i4 i5 μ n) ∧ ∀ (i4 : Int32) (i5 : Int32) (μ : Me) (n : Nat), I i4 i5 μ n → B_X10_asleep_36 o0 i1 i2 i3 i4 i5 μ (fun a4 a5 ν => ∃ n', n' < n ∧ I a4 a5 ν n') Q
set_option maxHeartbeats 4000000 in
set_option maxRecDepth 100000 in
theorem tL_X10_asleep_36 {x : GX} (f : Fx x cX10_asleep RX10 7 (rmc 5 0 0)) {o0 : Nat} {i1 : Int32} {i2 : Int32} {i3 : Int32} {i4 : Int32} {i5 : Int32} {μ : Me} {Q : Int32 → Me → Prop} (hq : Rt x (some .int) (qI Q)) (h : L_X10_asleep_36 o0 i1 i2 i3 i4 i5 μ Q) : G x 7 36 [(0, .ref (gB x + o0)), (1, .int i1), (2, .int i2), (3, .int i3), (4, .int i4), (5, .int i5)] [] μ 0 0 := by
  obtain ⟨I, ⟨n, hI⟩, hs⟩ := h
  induction n using Nat.strongRecOn generalizing i4 i5 μ with
  | ind n ih => exact tB_X10_asleep_36 f hq (fun a4 a5 ν hk => by obtain ⟨n2, hn, hI2⟩ := hk; exact ih n2 hn hI2) (hs _ _ _ _ hI)
def S_X10_asleep (o0 : Nat) (i1 : Int32) (μ : Me) (Q : Int32 → Me → Prop) : Prop := mok μ o0 10 ∧ ∃ t2, mgr μ o0 5 = some t2 ∧ mok μ t2 4 ∧ S_X4_asNow t2 μ (fun μ4 => ∃ t7, mgr μ4 o0 0 = some t7 ∧ mok μ4 t7 9 ∧ ∃ t9, mgr μ4 o0 0 = some t9 ∧ mok μ4 t9 9 ∧ ∃ t11, mgr μ4 t9 14 = some t11 ∧ mok μ4 t11 3 ∧ L_X10_asleep_36 o0 i1 ((1 <<< ((mgi μ4 t7 0) &&& 31)) - 1) (mgi μ4 t11 1) ((1 <<< ((mgi μ4 t7 0) &&& 31)) - 1) 0 μ4 Q)
set_option maxHeartbeats 4000000 in
set_option maxRecDepth 100000 in
theorem t_X10_asleep {x : GX} (f : Fx x cX10_asleep RX10 7 (rmc 5 0 0)) {o0 : Nat} {i1 : Int32} {μ : Me} {Q : Int32 → Me → Prop} (hq : Rt x (some .int) (qI Q)) (h : S_X10_asleep o0 i1 μ Q) : G x 7 0 [(0, .ref (gB x + o0)), (1, .int i1)] [] μ 0 0 := by
  unfold S_X10_asleep at h
  refine g_aload_n f 0 dX10_asleep_0 rfl rfl ?_
  obtain ⟨v1, h⟩ := h
  refine g_getR f fk_X10_45 v1 dX10_asleep_1 rfl h (fun t2 h => ?_)
  obtain ⟨v3, h⟩ := h
  refine g_callV f mk_X10_227 v3 (c_X4_asNow h) dX10_asleep_4 rfl rfl (Nat.le_of_ble_eq_true rfl) (rm_ok (by decide) (by decide)) ⟨Nat.le_of_ble_eq_true rfl, Nat.le_of_ble_eq_true rfl⟩ (kV fun μ4 x5 h => ?_)
  refine g_iconst f 1 dX10_asleep_7 kc_1 ?_
  refine g_aload_n f 0 dX10_asleep_8 rfl rfl ?_
  have v1 := mex_ok x5 v1
  refine g_getR f fk_X10_12 v1 dX10_asleep_9 rfl h (fun t7 h => ?_)
  obtain ⟨v8, h⟩ := h
  refine g_getI f fk_X10_283 v8 dX10_asleep_12 rfl ?_
  refine g_ishl f dX10_asleep_15 ?_
  refine g_iconst f 1 dX10_asleep_16 kc_1 ?_
  refine g_isub f dX10_asleep_17 ?_
  refine h_istore_n f dX10_asleep_18 rfl (by decide) ?_
  refine g_aload_n f 1 dX10_asleep_19 rfl rfl ?_
  refine g_getR f fk_X10_12 v1 dX10_asleep_20 rfl h (fun t9 h => ?_)
  obtain ⟨v10, h⟩ := h
  refine g_getR f fk_X10_160 v10 dX10_asleep_23 rfl h (fun t11 h => ?_)
  obtain ⟨v12, h⟩ := h
  refine g_getI f fk_X10_190 v12 dX10_asleep_26 rfl ?_
  refine h_istore_n f dX10_asleep_29 rfl (by decide) ?_
  refine g_iload_n f 1 dX10_asleep_30 rfl rfl ?_
  refine h_istore f dX10_asleep_31 (by decide) ?_
  refine g_iconst f 0 dX10_asleep_33 kc_0 ?_
  refine h_istore f dX10_asleep_34 (by decide) ?_
  exact h_sub [4, 5, 3, 2, 1, 0] rfl (tL_X10_asleep_36 f hq h)
theorem c_X10_asleep {Ω : OM} {o0 : Nat} {i1 : Int32} {μ : Me} {Q : Int32 → Me → Prop} (h : S_X10_asleep o0 i1 μ Q) : CT Ω yX10_asleep cX10_asleep 7 (some .int) (rmc 5 0 0) [.ref (oB Ω + o0), .int i1] μ (qI Q) := CT_of (by decide) rfl (by simp [lg_sl, Value.category]) (fun x hΩ f hq hi => by subst hΩ; exact t_X10_asleep f hq h)
theorem dX10_slack_0 : decode cX10_slack 0 = .ok (.aload_n 0, 1) := by decide +kernel
theorem dX10_slack_1 : decode cX10_slack 1 = .ok (.getfield 12, 3) := by decide +kernel
theorem dX10_slack_4 : decode cX10_slack 4 = .ok (.iload_n 1, 1) := by decide +kernel
theorem dX10_slack_5 : decode cX10_slack 5 = .ok (.invokevirtual 175, 3) := by decide +kernel
theorem dX10_slack_8 : decode cX10_slack 8 = .ok (.ifCond .ne 7, 3) := by decide +kernel
theorem dX10_slack_11 : decode cX10_slack 11 = .ok (.sipush (-1000), 3) := by decide +kernel
theorem dX10_slack_14 : decode cX10_slack 14 = .ok (.ireturn, 1) := by decide +kernel
theorem dX10_slack_15 : decode cX10_slack 15 = .ok (.aload_n 0, 1) := by decide +kernel
theorem dX10_slack_16 : decode cX10_slack 16 = .ok (.getfield 12, 3) := by decide +kernel
theorem dX10_slack_19 : decode cX10_slack 19 = .ok (.getfield 160, 3) := by decide +kernel
theorem dX10_slack_22 : decode cX10_slack 22 = .ok (.getfield 187, 3) := by decide +kernel
theorem dX10_slack_25 : decode cX10_slack 25 = .ok (.iload_n 1, 1) := by decide +kernel
theorem dX10_slack_26 : decode cX10_slack 26 = .ok (.iaload, 1) := by decide +kernel
theorem dX10_slack_27 : decode cX10_slack 27 = .ok (.aload_n 0, 1) := by decide +kernel
theorem dX10_slack_28 : decode cX10_slack 28 = .ok (.iload_n 1, 1) := by decide +kernel
theorem dX10_slack_29 : decode cX10_slack 29 = .ok (.invokevirtual 199, 3) := by decide +kernel
theorem dX10_slack_32 : decode cX10_slack 32 = .ok (.isub, 1) := by decide +kernel
theorem dX10_slack_33 : decode cX10_slack 33 = .ok (.ireturn, 1) := by decide +kernel
def S_X10_slack (o0 : Nat) (i1 : Int32) (μ : Me) (Q : Int32 → Me → Prop) : Prop := mok μ o0 10 ∧ ∃ t2, mgr μ o0 0 = some t2 ∧ mok μ t2 9 ∧ S_X9_isPerson t2 i1 μ (fun r6 μ4 => ((¬ r6 = 0 → ∃ t7, mgr μ4 o0 0 = some t7 ∧ mok μ4 t7 9 ∧ ∃ t9, mgr μ4 t7 14 = some t9 ∧ mok μ4 t9 3 ∧ ∃ t11, mgr μ4 t9 5 = some t11 ∧ mok μ4 t11 12 ∧ vp_in i1 (mln μ4 t11) ∧ S_X10_takesNow o0 i1 μ4 (fun r15 μ13 => Q ((mgi μ4 t11 i1.toNatClampNeg) - r15) μ13)) ∧ (r6 = 0 → Q (-1000) μ4)))
set_option maxHeartbeats 4000000 in
set_option maxRecDepth 100000 in
theorem t_X10_slack {x : GX} (f : Fx x cX10_slack RX10 2 (rmc 5 0 0)) {o0 : Nat} {i1 : Int32} {μ : Me} {Q : Int32 → Me → Prop} (hq : Rt x (some .int) (qI Q)) (h : S_X10_slack o0 i1 μ Q) : G x 2 0 [(0, .ref (gB x + o0)), (1, .int i1)] [] μ 0 0 := by
  unfold S_X10_slack at h
  refine g_aload_n f 0 dX10_slack_0 rfl rfl ?_
  obtain ⟨v1, h⟩ := h
  refine g_getR f fk_X10_12 v1 dX10_slack_1 rfl h (fun t2 h => ?_)
  refine g_iload_n f 1 dX10_slack_4 rfl rfl ?_
  obtain ⟨v3, h⟩ := h
  refine g_callV f mk_X10_175 v3 (c_X9_isPerson h) dX10_slack_5 rfl rfl (Nat.le_of_ble_eq_true rfl) (rm_ok (by decide) (by decide)) ⟨Nat.le_of_ble_eq_true rfl, Nat.le_of_ble_eq_true rfl⟩ (kI fun r6 μ4 x5 h => ?_)
  refine g_if_ne f 15 dX10_slack_8 rfl h (fun h => ?_) (fun h => ?_)
  · refine g_aload_n f 0 dX10_slack_15 rfl rfl ?_
    have v1 := mex_ok x5 v1
    refine g_getR f fk_X10_12 v1 dX10_slack_16 rfl h (fun t7 h => ?_)
    obtain ⟨v8, h⟩ := h
    refine g_getR f fk_X10_160 v8 dX10_slack_19 rfl h (fun t9 h => ?_)
    obtain ⟨v10, h⟩ := h
    refine g_getR f fk_X10_187 v10 dX10_slack_22 rfl h (fun t11 h => ?_)
    refine g_iload_n f 1 dX10_slack_25 rfl rfl ?_
    obtain ⟨v12, h⟩ := h
    refine g_iald f v12 dX10_slack_26 h (fun h => ?_)
    refine g_aload_n f 0 dX10_slack_27 rfl rfl ?_
    refine g_iload_n f 1 dX10_slack_28 rfl rfl ?_
    refine g_callV f mk_X10_199 v1 (c_X10_takesNow h) dX10_slack_29 rfl rfl (Nat.le_of_ble_eq_true rfl) (rm_ok (by decide) (by decide)) ⟨Nat.le_of_ble_eq_true rfl, Nat.le_of_ble_eq_true rfl⟩ (kI fun r15 μ13 x14 h => ?_)
    refine g_isub f dX10_slack_32 ?_
    exact g_iret f hq (Nat.le_of_ble_eq_true rfl) (Nat.le_of_ble_eq_true rfl) dX10_slack_33 h
  · refine g_sipush f (-1000) dX10_slack_11 ks_m1000 ?_
    exact g_iret f hq (Nat.le_of_ble_eq_true rfl) (Nat.le_of_ble_eq_true rfl) dX10_slack_14 h
theorem c_X10_slack {Ω : OM} {o0 : Nat} {i1 : Int32} {μ : Me} {Q : Int32 → Me → Prop} (h : S_X10_slack o0 i1 μ Q) : CT Ω yX10_slack cX10_slack 2 (some .int) (rmc 5 0 0) [.ref (oB Ω + o0), .int i1] μ (qI Q) := CT_of (by decide) rfl (by simp [lg_sl, Value.category]) (fun x hΩ f hq hi => by subst hΩ; exact t_X10_slack f hq h)
theorem dX10_least_0 : decode cX10_least 0 = .ok (.aload_n 0, 1) := by decide +kernel
theorem dX10_least_1 : decode cX10_least 1 = .ok (.getfield 12, 3) := by decide +kernel
theorem dX10_least_4 : decode cX10_least 4 = .ok (.iload_n 1, 1) := by decide +kernel
theorem dX10_least_5 : decode cX10_least 5 = .ok (.invokevirtual 175, 3) := by decide +kernel
theorem dX10_least_8 : decode cX10_least 8 = .ok (.ifCond .eq 16, 3) := by decide +kernel
theorem dX10_least_11 : decode cX10_least 11 = .ok (.bipush 99, 2) := by decide +kernel
theorem dX10_least_13 : decode cX10_least 13 = .ok (.aload_n 0, 1) := by decide +kernel
theorem dX10_least_14 : decode cX10_least 14 = .ok (.iload_n 1, 1) := by decide +kernel
theorem dX10_least_15 : decode cX10_least 15 = .ok (.invokevirtual 199, 3) := by decide +kernel
theorem dX10_least_18 : decode cX10_least 18 = .ok (.invokestatic 352, 3) := by decide +kernel
theorem dX10_least_21 : decode cX10_least 21 = .ok (.goto 4, 3) := by decide +kernel
theorem dX10_least_24 : decode cX10_least 24 = .ok (.iconst (-1), 1) := by decide +kernel
theorem dX10_least_25 : decode cX10_least 25 = .ok (.ireturn, 1) := by decide +kernel
def S_X10_least (o0 : Nat) (i1 : Int32) (μ : Me) (Q : Int32 → Me → Prop) : Prop := mok μ o0 10 ∧ ∃ t2, mgr μ o0 0 = some t2 ∧ mok μ t2 9 ∧ S_X9_isPerson t2 i1 μ (fun r6 μ4 => ((r6 = 0 → Q (-1) μ4) ∧ (¬ r6 = 0 → S_X10_takesNow o0 i1 μ4 (fun r9 μ7 => Q (if r9 < 99 then r9 else 99) μ7))))
set_option maxHeartbeats 4000000 in
set_option maxRecDepth 100000 in
theorem t_X10_least {x : GX} (f : Fx x cX10_least RX10 2 (rmc 5 0 0)) {o0 : Nat} {i1 : Int32} {μ : Me} {Q : Int32 → Me → Prop} (hq : Rt x (some .int) (qI Q)) (h : S_X10_least o0 i1 μ Q) : G x 2 0 [(0, .ref (gB x + o0)), (1, .int i1)] [] μ 0 0 := by
  unfold S_X10_least at h
  refine g_aload_n f 0 dX10_least_0 rfl rfl ?_
  obtain ⟨v1, h⟩ := h
  refine g_getR f fk_X10_12 v1 dX10_least_1 rfl h (fun t2 h => ?_)
  refine g_iload_n f 1 dX10_least_4 rfl rfl ?_
  obtain ⟨v3, h⟩ := h
  refine g_callV f mk_X10_175 v3 (c_X9_isPerson h) dX10_least_5 rfl rfl (Nat.le_of_ble_eq_true rfl) (rm_ok (by decide) (by decide)) ⟨Nat.le_of_ble_eq_true rfl, Nat.le_of_ble_eq_true rfl⟩ (kI fun r6 μ4 x5 h => ?_)
  refine g_if_eq f 24 dX10_least_8 rfl h (fun h => ?_) (fun h => ?_)
  · refine g_iconst f (-1) dX10_least_24 kc_m1 ?_
    exact g_iret f hq (Nat.le_of_ble_eq_true rfl) (Nat.le_of_ble_eq_true rfl) dX10_least_25 h
  · refine g_bipush f 99 dX10_least_11 kb_99 ?_
    refine g_aload_n f 0 dX10_least_13 rfl rfl ?_
    refine g_iload_n f 1 dX10_least_14 rfl rfl ?_
    have v1 := mex_ok x5 v1
    refine g_callV f mk_X10_199 v1 (c_X10_takesNow h) dX10_least_15 rfl rfl (Nat.le_of_ble_eq_true rfl) (rm_ok (by decide) (by decide)) ⟨Nat.le_of_ble_eq_true rfl, Nat.le_of_ble_eq_true rfl⟩ (kI fun r9 μ7 x8 h => ?_)
    refine g_min f mink_X10_352 dX10_least_18 rm_fr (rm_mx (Nat.le_of_ble_eq_true rfl)) (Nat.zero_le _) (Nat.zero_le _) ?_
    refine g_goto f 25 dX10_least_21 rfl ?_
    exact g_iret f hq (Nat.le_of_ble_eq_true rfl) (Nat.le_of_ble_eq_true rfl) dX10_least_25 h
theorem c_X10_least {Ω : OM} {o0 : Nat} {i1 : Int32} {μ : Me} {Q : Int32 → Me → Prop} (h : S_X10_least o0 i1 μ Q) : CT Ω yX10_least cX10_least 2 (some .int) (rmc 5 0 0) [.ref (oB Ω + o0), .int i1] μ (qI Q) := CT_of (by decide) rfl (by simp [lg_sl, Value.category]) (fun x hΩ f hq hi => by subst hΩ; exact t_X10_least f hq h)
theorem dX10_moves_0 : decode cX10_moves 0 = .ok (.aload_n 0, 1) := by decide +kernel
theorem dX10_moves_1 : decode cX10_moves 1 = .ok (.getfield 12, 3) := by decide +kernel
theorem dX10_moves_4 : decode cX10_moves 4 = .ok (.iload_n 1, 1) := by decide +kernel
theorem dX10_moves_5 : decode cX10_moves 5 = .ok (.invokevirtual 175, 3) := by decide +kernel
theorem dX10_moves_8 : decode cX10_moves 8 = .ok (.ifCond .eq 14, 3) := by decide +kernel
theorem dX10_moves_11 : decode cX10_moves 11 = .ok (.aload_n 0, 1) := by decide +kernel
theorem dX10_moves_12 : decode cX10_moves 12 = .ok (.getfield 12, 3) := by decide +kernel
theorem dX10_moves_15 : decode cX10_moves 15 = .ok (.iload_n 2, 1) := by decide +kernel
theorem dX10_moves_16 : decode cX10_moves 16 = .ok (.invokevirtual 175, 3) := by decide +kernel
theorem dX10_moves_19 : decode cX10_moves 19 = .ok (.ifCond .ne 5, 3) := by decide +kernel
theorem dX10_moves_22 : decode cX10_moves 22 = .ok (.iconst (-1), 1) := by decide +kernel
theorem dX10_moves_23 : decode cX10_moves 23 = .ok (.ireturn, 1) := by decide +kernel
theorem dX10_moves_24 : decode cX10_moves 24 = .ok (.aload_n 0, 1) := by decide +kernel
theorem dX10_moves_25 : decode cX10_moves 25 = .ok (.getfield 45, 3) := by decide +kernel
theorem dX10_moves_28 : decode cX10_moves 28 = .ok (.invokevirtual 227, 3) := by decide +kernel
theorem dX10_moves_31 : decode cX10_moves 31 = .ok (.aload_n 0, 1) := by decide +kernel
theorem dX10_moves_32 : decode cX10_moves 32 = .ok (.getfield 45, 3) := by decide +kernel
theorem dX10_moves_35 : decode cX10_moves 35 = .ok (.aload_n 0, 1) := by decide +kernel
theorem dX10_moves_36 : decode cX10_moves 36 = .ok (.getfield 12, 3) := by decide +kernel
theorem dX10_moves_39 : decode cX10_moves 39 = .ok (.getfield 160, 3) := by decide +kernel
theorem dX10_moves_42 : decode cX10_moves 42 = .ok (.getfield 202, 3) := by decide +kernel
theorem dX10_moves_45 : decode cX10_moves 45 = .ok (.iconst 1, 1) := by decide +kernel
theorem dX10_moves_46 : decode cX10_moves 46 = .ok (.iload_n 1, 1) := by decide +kernel
theorem dX10_moves_47 : decode cX10_moves 47 = .ok (.ishl, 1) := by decide +kernel
theorem dX10_moves_48 : decode cX10_moves 48 = .ok (.iconst (-1), 1) := by decide +kernel
theorem dX10_moves_49 : decode cX10_moves 49 = .ok (.ixor, 1) := by decide +kernel
theorem dX10_moves_50 : decode cX10_moves 50 = .ok (.iand, 1) := by decide +kernel
theorem dX10_moves_51 : decode cX10_moves 51 = .ok (.invokevirtual 277, 3) := by decide +kernel
theorem dX10_moves_54 : decode cX10_moves 54 = .ok (.istore_n 3, 1) := by decide +kernel
theorem dX10_moves_55 : decode cX10_moves 55 = .ok (.aload_n 0, 1) := by decide +kernel
theorem dX10_moves_56 : decode cX10_moves 56 = .ok (.getfield 45, 3) := by decide +kernel
theorem dX10_moves_59 : decode cX10_moves 59 = .ok (.aload_n 0, 1) := by decide +kernel
theorem dX10_moves_60 : decode cX10_moves 60 = .ok (.getfield 12, 3) := by decide +kernel
theorem dX10_moves_63 : decode cX10_moves 63 = .ok (.getfield 160, 3) := by decide +kernel
theorem dX10_moves_66 : decode cX10_moves 66 = .ok (.getfield 202, 3) := by decide +kernel
theorem dX10_moves_69 : decode cX10_moves 69 = .ok (.iconst 1, 1) := by decide +kernel
theorem dX10_moves_70 : decode cX10_moves 70 = .ok (.iload_n 1, 1) := by decide +kernel
theorem dX10_moves_71 : decode cX10_moves 71 = .ok (.ishl, 1) := by decide +kernel
theorem dX10_moves_72 : decode cX10_moves 72 = .ok (.ior, 1) := by decide +kernel
theorem dX10_moves_73 : decode cX10_moves 73 = .ok (.invokevirtual 277, 3) := by decide +kernel
theorem dX10_moves_76 : decode cX10_moves 76 = .ok (.istore 4, 2) := by decide +kernel
theorem dX10_moves_78 : decode cX10_moves 78 = .ok (.iload_n 3, 1) := by decide +kernel
theorem dX10_moves_79 : decode cX10_moves 79 = .ok (.iload 4, 2) := by decide +kernel
theorem dX10_moves_81 : decode cX10_moves 81 = .ok (.ixor, 1) := by decide +kernel
theorem dX10_moves_82 : decode cX10_moves 82 = .ok (.iload_n 2, 1) := by decide +kernel
theorem dX10_moves_83 : decode cX10_moves 83 = .ok (.ishr, 1) := by decide +kernel
theorem dX10_moves_84 : decode cX10_moves 84 = .ok (.iconst 1, 1) := by decide +kernel
theorem dX10_moves_85 : decode cX10_moves 85 = .ok (.iand, 1) := by decide +kernel
theorem dX10_moves_86 : decode cX10_moves 86 = .ok (.ireturn, 1) := by decide +kernel
def S_X10_moves (o0 : Nat) (i1 : Int32) (i2 : Int32) (μ : Me) (Q : Int32 → Me → Prop) : Prop := mok μ o0 10 ∧ ∃ t2, mgr μ o0 0 = some t2 ∧ mok μ t2 9 ∧ S_X9_isPerson t2 i1 μ (fun r6 μ4 => ((r6 = 0 → Q (-1) μ4) ∧ (¬ r6 = 0 → ∃ t7, mgr μ4 o0 0 = some t7 ∧ mok μ4 t7 9 ∧ S_X9_isPerson t7 i2 μ4 (fun r11 μ9 => ((¬ r11 = 0 → ∃ t12, mgr μ9 o0 5 = some t12 ∧ mok μ9 t12 4 ∧ S_X4_asNow t12 μ9 (fun μ14 => ∃ t17, mgr μ14 o0 5 = some t17 ∧ ∃ t18, mgr μ14 o0 0 = some t18 ∧ mok μ14 t18 9 ∧ ∃ t20, mgr μ14 t18 14 = some t20 ∧ mok μ14 t20 3 ∧ mok μ14 t17 4 ∧ S_X4_lateBy t17 ((mgi μ14 t20 0) &&& ((1 <<< (i1 &&& 31)) ^^^ (-1))) μ14 (fun r25 μ23 => ∃ t26, mgr μ23 o0 5 = some t26 ∧ ∃ t27, mgr μ23 o0 0 = some t27 ∧ mok μ23 t27 9 ∧ ∃ t29, mgr μ23 t27 14 = some t29 ∧ mok μ23 t29 3 ∧ mok μ23 t26 4 ∧ S_X4_lateBy t26 ((mgi μ23 t29 0) ||| (1 <<< (i1 &&& 31))) μ23 (fun r34 μ32 => Q (((r25 ^^^ r34) >>> (i2 &&& 31)) &&& 1) μ32)))) ∧ (r11 = 0 → Q (-1) μ9))))))
set_option maxHeartbeats 4000000 in
set_option maxRecDepth 100000 in
theorem t_X10_moves {x : GX} (f : Fx x cX10_moves RX10 5 (rmc 4 0 0)) {o0 : Nat} {i1 : Int32} {i2 : Int32} {μ : Me} {Q : Int32 → Me → Prop} (hq : Rt x (some .int) (qI Q)) (h : S_X10_moves o0 i1 i2 μ Q) : G x 5 0 [(0, .ref (gB x + o0)), (1, .int i1), (2, .int i2)] [] μ 0 0 := by
  unfold S_X10_moves at h
  refine g_aload_n f 0 dX10_moves_0 rfl rfl ?_
  obtain ⟨v1, h⟩ := h
  refine g_getR f fk_X10_12 v1 dX10_moves_1 rfl h (fun t2 h => ?_)
  refine g_iload_n f 1 dX10_moves_4 rfl rfl ?_
  obtain ⟨v3, h⟩ := h
  refine g_callV f mk_X10_175 v3 (c_X9_isPerson h) dX10_moves_5 rfl rfl (Nat.le_of_ble_eq_true rfl) (rm_ok (by decide) (by decide)) ⟨Nat.le_of_ble_eq_true rfl, Nat.le_of_ble_eq_true rfl⟩ (kI fun r6 μ4 x5 h => ?_)
  refine g_if_eq f 22 dX10_moves_8 rfl h (fun h => ?_) (fun h => ?_)
  · refine g_iconst f (-1) dX10_moves_22 kc_m1 ?_
    exact g_iret f hq (Nat.le_of_ble_eq_true rfl) (Nat.le_of_ble_eq_true rfl) dX10_moves_23 h
  · refine g_aload_n f 0 dX10_moves_11 rfl rfl ?_
    have v1 := mex_ok x5 v1
    refine g_getR f fk_X10_12 v1 dX10_moves_12 rfl h (fun t7 h => ?_)
    refine g_iload_n f 2 dX10_moves_15 rfl rfl ?_
    obtain ⟨v8, h⟩ := h
    refine g_callV f mk_X10_175 v8 (c_X9_isPerson h) dX10_moves_16 rfl rfl (Nat.le_of_ble_eq_true rfl) (rm_ok (by decide) (by decide)) ⟨Nat.le_of_ble_eq_true rfl, Nat.le_of_ble_eq_true rfl⟩ (kI fun r11 μ9 x10 h => ?_)
    refine g_if_ne f 24 dX10_moves_19 rfl h (fun h => ?_) (fun h => ?_)
    · refine g_aload_n f 0 dX10_moves_24 rfl rfl ?_
      have v1 := mex_ok x10 v1
      refine g_getR f fk_X10_45 v1 dX10_moves_25 rfl h (fun t12 h => ?_)
      obtain ⟨v13, h⟩ := h
      refine g_callV f mk_X10_227 v13 (c_X4_asNow h) dX10_moves_28 rfl rfl (Nat.le_of_ble_eq_true rfl) (rm_ok (by decide) (by decide)) ⟨Nat.le_of_ble_eq_true rfl, Nat.le_of_ble_eq_true rfl⟩ (kV fun μ14 x15 h => ?_)
      refine g_aload_n f 0 dX10_moves_31 rfl rfl ?_
      have v1 := mex_ok x15 v1
      refine g_getR f fk_X10_45 v1 dX10_moves_32 rfl h (fun t17 h => ?_)
      refine g_aload_n f 0 dX10_moves_35 rfl rfl ?_
      refine g_getR f fk_X10_12 v1 dX10_moves_36 rfl h (fun t18 h => ?_)
      obtain ⟨v19, h⟩ := h
      refine g_getR f fk_X10_160 v19 dX10_moves_39 rfl h (fun t20 h => ?_)
      obtain ⟨v21, h⟩ := h
      refine g_getI f fk_X10_202 v21 dX10_moves_42 rfl ?_
      refine g_iconst f 1 dX10_moves_45 kc_1 ?_
      refine g_iload_n f 1 dX10_moves_46 rfl rfl ?_
      refine g_ishl f dX10_moves_47 ?_
      refine g_iconst f (-1) dX10_moves_48 kc_m1 ?_
      refine g_ixor f dX10_moves_49 ?_
      refine g_iand f dX10_moves_50 ?_
      obtain ⟨v22, h⟩ := h
      refine g_callV f mk_X10_277 v22 (c_X4_lateBy h) dX10_moves_51 rfl rfl (Nat.le_of_ble_eq_true rfl) (rm_ok (by decide) (by decide)) ⟨Nat.le_of_ble_eq_true rfl, Nat.le_of_ble_eq_true rfl⟩ (kI fun r25 μ23 x24 h => ?_)
      refine h_istore_n f dX10_moves_54 rfl (by decide) ?_
      refine g_aload_n f 1 dX10_moves_55 rfl rfl ?_
      have v1 := mex_ok x24 v1
      refine g_getR f fk_X10_45 v1 dX10_moves_56 rfl h (fun t26 h => ?_)
      refine g_aload_n f 1 dX10_moves_59 rfl rfl ?_
      refine g_getR f fk_X10_12 v1 dX10_moves_60 rfl h (fun t27 h => ?_)
      obtain ⟨v28, h⟩ := h
      refine g_getR f fk_X10_160 v28 dX10_moves_63 rfl h (fun t29 h => ?_)
      obtain ⟨v30, h⟩ := h
      refine g_getI f fk_X10_202 v30 dX10_moves_66 rfl ?_
      refine g_iconst f 1 dX10_moves_69 kc_1 ?_
      refine g_iload_n f 2 dX10_moves_70 rfl rfl ?_
      refine g_ishl f dX10_moves_71 ?_
      refine g_ior f dX10_moves_72 ?_
      obtain ⟨v31, h⟩ := h
      refine g_callV f mk_X10_277 v31 (c_X4_lateBy h) dX10_moves_73 rfl rfl (Nat.le_of_ble_eq_true rfl) (rm_ok (by decide) (by decide)) ⟨Nat.le_of_ble_eq_true rfl, Nat.le_of_ble_eq_true rfl⟩ (kI fun r34 μ32 x33 h => ?_)
      refine h_istore f dX10_moves_76 (by decide) ?_
      refine g_iload_n f 1 dX10_moves_78 rfl rfl ?_
      refine g_iload f 0 dX10_moves_79 rfl ?_
      refine g_ixor f dX10_moves_81 ?_
      refine g_iload_n f 4 dX10_moves_82 rfl rfl ?_
      refine g_ishr f dX10_moves_83 ?_
      refine g_iconst f 1 dX10_moves_84 kc_1 ?_
      refine g_iand f dX10_moves_85 ?_
      exact g_iret f hq (Nat.le_of_ble_eq_true rfl) (Nat.le_of_ble_eq_true rfl) dX10_moves_86 h
    · refine g_iconst f (-1) dX10_moves_22 kc_m1 ?_
      exact g_iret f hq (Nat.le_of_ble_eq_true rfl) (Nat.le_of_ble_eq_true rfl) dX10_moves_23 h
theorem c_X10_moves {Ω : OM} {o0 : Nat} {i1 : Int32} {i2 : Int32} {μ : Me} {Q : Int32 → Me → Prop} (h : S_X10_moves o0 i1 i2 μ Q) : CT Ω yX10_moves cX10_moves 5 (some .int) (rmc 4 0 0) [.ref (oB Ω + o0), .int i1, .int i2] μ (qI Q) := CT_of (by decide) rfl (by simp [lg_sl, Value.category]) (fun x hΩ f hq hi => by subst hΩ; exact t_X10_moves f hq h)
theorem dX10_said_0 : decode cX10_said 0 = .ok (.iload_n 1, 1) := by decide +kernel
theorem dX10_said_1 : decode cX10_said 1 = .ok (.iconst (-1), 1) := by decide +kernel
theorem dX10_said_2 : decode cX10_said 2 = .ok (.if_icmp .ne 13, 3) := by decide +kernel
theorem dX10_said_5 : decode cX10_said 5 = .ok (.aload_n 0, 1) := by decide +kernel
theorem dX10_said_6 : decode cX10_said 6 = .ok (.getfield 12, 3) := by decide +kernel
theorem dX10_said_9 : decode cX10_said 9 = .ok (.iconst 0, 1) := by decide +kernel
theorem dX10_said_10 : decode cX10_said 10 = .ok (.putfield 355, 3) := by decide +kernel
theorem dX10_said_13 : decode cX10_said 13 = .ok (.iconst 0, 1) := by decide +kernel
theorem dX10_said_14 : decode cX10_said 14 = .ok (.ireturn, 1) := by decide +kernel
theorem dX10_said_15 : decode cX10_said 15 = .ok (.aload_n 0, 1) := by decide +kernel
theorem dX10_said_16 : decode cX10_said 16 = .ok (.getfield 12, 3) := by decide +kernel
theorem dX10_said_19 : decode cX10_said 19 = .ok (.iload_n 1, 1) := by decide +kernel
theorem dX10_said_20 : decode cX10_said 20 = .ok (.invokevirtual 175, 3) := by decide +kernel
theorem dX10_said_23 : decode cX10_said 23 = .ok (.ifCond .eq 18, 3) := by decide +kernel
theorem dX10_said_26 : decode cX10_said 26 = .ok (.iload_n 2, 1) := by decide +kernel
theorem dX10_said_27 : decode cX10_said 27 = .ok (.ifCond .lt 14, 3) := by decide +kernel
theorem dX10_said_30 : decode cX10_said 30 = .ok (.iload_n 2, 1) := by decide +kernel
theorem dX10_said_31 : decode cX10_said 31 = .ok (.sipush 999, 3) := by decide +kernel
theorem dX10_said_34 : decode cX10_said 34 = .ok (.if_icmp .gt 7, 3) := by decide +kernel
theorem dX10_said_37 : decode cX10_said 37 = .ok (.iconst 1, 1) := by decide +kernel
theorem dX10_said_38 : decode cX10_said 38 = .ok (.goto 4, 3) := by decide +kernel
theorem dX10_said_41 : decode cX10_said 41 = .ok (.iconst 0, 1) := by decide +kernel
theorem dX10_said_42 : decode cX10_said 42 = .ok (.istore_n 3, 1) := by decide +kernel
theorem dX10_said_43 : decode cX10_said 43 = .ok (.iload_n 3, 1) := by decide +kernel
theorem dX10_said_44 : decode cX10_said 44 = .ok (.ifCond .eq 15, 3) := by decide +kernel
theorem dX10_said_47 : decode cX10_said 47 = .ok (.aload_n 0, 1) := by decide +kernel
theorem dX10_said_48 : decode cX10_said 48 = .ok (.getfield 12, 3) := by decide +kernel
theorem dX10_said_51 : decode cX10_said 51 = .ok (.getfield 355, 3) := by decide +kernel
theorem dX10_said_54 : decode cX10_said 54 = .ok (.bipush 8, 2) := by decide +kernel
theorem dX10_said_56 : decode cX10_said 56 = .ok (.if_icmp .lt 6, 3) := by decide +kernel
theorem dX10_said_59 : decode cX10_said 59 = .ok (.bipush (-2), 2) := by decide +kernel
theorem dX10_said_61 : decode cX10_said 61 = .ok (.ireturn, 1) := by decide +kernel
theorem dX10_said_62 : decode cX10_said 62 = .ok (.aload_n 0, 1) := by decide +kernel
theorem dX10_said_63 : decode cX10_said 63 = .ok (.getfield 12, 3) := by decide +kernel
theorem dX10_said_66 : decode cX10_said 66 = .ok (.getfield 358, 3) := by decide +kernel
theorem dX10_said_69 : decode cX10_said 69 = .ok (.aload_n 0, 1) := by decide +kernel
theorem dX10_said_70 : decode cX10_said 70 = .ok (.getfield 12, 3) := by decide +kernel
theorem dX10_said_73 : decode cX10_said 73 = .ok (.getfield 355, 3) := by decide +kernel
theorem dX10_said_76 : decode cX10_said 76 = .ok (.iload_n 1, 1) := by decide +kernel
theorem dX10_said_77 : decode cX10_said 77 = .ok (.iastore, 1) := by decide +kernel
theorem dX10_said_78 : decode cX10_said 78 = .ok (.aload_n 0, 1) := by decide +kernel
theorem dX10_said_79 : decode cX10_said 79 = .ok (.getfield 12, 3) := by decide +kernel
theorem dX10_said_82 : decode cX10_said 82 = .ok (.getfield 361, 3) := by decide +kernel
theorem dX10_said_85 : decode cX10_said 85 = .ok (.aload_n 0, 1) := by decide +kernel
theorem dX10_said_86 : decode cX10_said 86 = .ok (.getfield 12, 3) := by decide +kernel
theorem dX10_said_89 : decode cX10_said 89 = .ok (.getfield 355, 3) := by decide +kernel
theorem dX10_said_92 : decode cX10_said 92 = .ok (.iload_n 2, 1) := by decide +kernel
theorem dX10_said_93 : decode cX10_said 93 = .ok (.iastore, 1) := by decide +kernel
theorem dX10_said_94 : decode cX10_said 94 = .ok (.aload_n 0, 1) := by decide +kernel
theorem dX10_said_95 : decode cX10_said 95 = .ok (.getfield 12, 3) := by decide +kernel
theorem dX10_said_98 : decode cX10_said 98 = .ok (.dup, 1) := by decide +kernel
theorem dX10_said_99 : decode cX10_said 99 = .ok (.getfield 355, 3) := by decide +kernel
theorem dX10_said_102 : decode cX10_said 102 = .ok (.iconst 1, 1) := by decide +kernel
theorem dX10_said_103 : decode cX10_said 103 = .ok (.iadd, 1) := by decide +kernel
theorem dX10_said_104 : decode cX10_said 104 = .ok (.putfield 355, 3) := by decide +kernel
theorem dX10_said_107 : decode cX10_said 107 = .ok (.aload_n 0, 1) := by decide +kernel
theorem dX10_said_108 : decode cX10_said 108 = .ok (.getfield 12, 3) := by decide +kernel
theorem dX10_said_111 : decode cX10_said 111 = .ok (.getfield 355, 3) := by decide +kernel
theorem dX10_said_114 : decode cX10_said 114 = .ok (.ireturn, 1) := by decide +kernel
def B_X10_said_42 (o0 : Nat) (i1 : Int32) (i2 : Int32) (s0 : Int32) (μ : Me) (Q : Int32 → Me → Prop) : Prop := ((s0 = 0 → Q (-2) μ) ∧ (¬ s0 = 0 → mok μ o0 10 ∧ ∃ t8, mgr μ o0 0 = some t8 ∧ mok μ t8 9 ∧ (((mgi μ t8 11) < 8 → ∃ t10, mgr μ o0 0 = some t10 ∧ mok μ t10 9 ∧ ∃ t12, mgr μ t10 12 = some t12 ∧ ∃ t13, mgr μ o0 0 = some t13 ∧ mok μ t13 9 ∧ mok μ t12 12 ∧ vp_in (mgi μ t13 11) (mln μ t12) ∧ ∀ μ16, μ16 = msi μ t12 (mgi μ t13 11).toNatClampNeg i1 → ∃ t17, mgr μ16 o0 0 = some t17 ∧ mok μ16 t17 9 ∧ ∃ t19, mgr μ16 t17 13 = some t19 ∧ ∃ t20, mgr μ16 o0 0 = some t20 ∧ mok μ16 t20 9 ∧ mok μ16 t19 12 ∧ vp_in (mgi μ16 t20 11) (mln μ16 t19) ∧ ∀ μ23, μ23 = msi μ16 t19 (mgi μ16 t20 11).toNatClampNeg i2 → ∃ t24, mgr μ23 o0 0 = some t24 ∧ mok μ23 t24 9 ∧ ∀ μ26, μ26 = msi μ23 t24 11 ((mgi μ23 t24 11) + 1) → ∃ t27, mgr μ26 o0 0 = some t27 ∧ mok μ26 t27 9 ∧ Q (mgi μ26 t27 11) μ26) ∧ (¬ (mgi μ t8 11) < 8 → Q (-2) μ))))
set_option maxHeartbeats 4000000 in
set_option maxRecDepth 100000 in
theorem tB_X10_said_42 {x : GX} (f : Fx x cX10_said RX10 4 (rmc 1 0 0)) {o0 : Nat} {i1 : Int32} {i2 : Int32} {s0 : Int32} {μ : Me} {Q : Int32 → Me → Prop} (hq : Rt x (some .int) (qI Q)) (h : B_X10_said_42 o0 i1 i2 s0 μ Q) : G x 4 42 [(0, .ref (gB x + o0)), (1, .int i1), (2, .int i2)] [.int s0] μ 0 0 := by
  unfold B_X10_said_42 at h
  refine h_istore_n f dX10_said_42 rfl (by decide) ?_
  refine g_iload_n f 0 dX10_said_43 rfl rfl ?_
  refine g_if_eq f 59 dX10_said_44 rfl h (fun h => ?_) (fun h => ?_)
  · refine g_bipush f (-2) dX10_said_59 kb_m2 ?_
    exact g_iret f hq (Nat.le_of_ble_eq_true rfl) (Nat.le_of_ble_eq_true rfl) dX10_said_61 h
  · refine g_aload_n f 1 dX10_said_47 rfl rfl ?_
    obtain ⟨v7, h⟩ := h
    refine g_getR f fk_X10_12 v7 dX10_said_48 rfl h (fun t8 h => ?_)
    obtain ⟨v9, h⟩ := h
    refine g_getI f fk_X10_355 v9 dX10_said_51 rfl ?_
    refine g_bipush f 8 dX10_said_54 kb_8 ?_
    refine g_ic_lt f 62 dX10_said_56 rfl h (fun h => ?_) (fun h => ?_)
    · refine g_aload_n f 1 dX10_said_62 rfl rfl ?_
      refine g_getR f fk_X10_12 v7 dX10_said_63 rfl h (fun t10 h => ?_)
      obtain ⟨v11, h⟩ := h
      refine g_getR f fk_X10_358 v11 dX10_said_66 rfl h (fun t12 h => ?_)
      refine g_aload_n f 1 dX10_said_69 rfl rfl ?_
      refine g_getR f fk_X10_12 v7 dX10_said_70 rfl h (fun t13 h => ?_)
      obtain ⟨v14, h⟩ := h
      refine g_getI f fk_X10_355 v14 dX10_said_73 rfl ?_
      refine g_iload_n f 2 dX10_said_76 rfl rfl ?_
      obtain ⟨v15, h⟩ := h
      refine g_iast f v15 dX10_said_77 h (fun h => ?_)
      refine g_aload_n f 1 dX10_said_78 rfl rfl ?_
      refine g_getR f fk_X10_12 v7 dX10_said_79 rfl h (fun t17 h => ?_)
      obtain ⟨v18, h⟩ := h
      refine g_getR f fk_X10_361 v18 dX10_said_82 rfl h (fun t19 h => ?_)
      refine g_aload_n f 1 dX10_said_85 rfl rfl ?_
      refine g_getR f fk_X10_12 v7 dX10_said_86 rfl h (fun t20 h => ?_)
      obtain ⟨v21, h⟩ := h
      refine g_getI f fk_X10_355 v21 dX10_said_89 rfl ?_
      refine g_iload_n f 3 dX10_said_92 rfl rfl ?_
      obtain ⟨v22, h⟩ := h
      refine g_iast f v22 dX10_said_93 h (fun h => ?_)
      refine g_aload_n f 1 dX10_said_94 rfl rfl ?_
      refine g_getR f fk_X10_12 v7 dX10_said_95 rfl h (fun t24 h => ?_)
      refine g_dup f dX10_said_98 rfl ?_
      obtain ⟨v25, h⟩ := h
      refine g_getI f fk_X10_355 v25 dX10_said_99 rfl ?_
      refine g_iconst f 1 dX10_said_102 kc_1 ?_
      refine g_iadd f dX10_said_103 ?_
      refine g_putI f fk_X10_355 v25 dX10_said_104 rfl h (fun h => ?_)
      refine g_aload_n f 1 dX10_said_107 rfl rfl ?_
      refine g_getR f fk_X10_12 v7 dX10_said_108 rfl h (fun t27 h => ?_)
      obtain ⟨v28, h⟩ := h
      refine g_getI f fk_X10_355 v28 dX10_said_111 rfl ?_
      exact g_iret f hq (Nat.le_of_ble_eq_true rfl) (Nat.le_of_ble_eq_true rfl) dX10_said_114 h
    · refine g_bipush f (-2) dX10_said_59 kb_m2 ?_
      exact g_iret f hq (Nat.le_of_ble_eq_true rfl) (Nat.le_of_ble_eq_true rfl) dX10_said_61 h
def S_X10_said (o0 : Nat) (i1 : Int32) (i2 : Int32) (μ : Me) (Q : Int32 → Me → Prop) : Prop := ((¬ i1 = (-1) → mok μ o0 10 ∧ ∃ t2, mgr μ o0 0 = some t2 ∧ mok μ t2 9 ∧ S_X9_isPerson t2 i1 μ (fun r6 μ4 => ((r6 = 0 → B_X10_said_42 o0 i1 i2 0 μ4 Q) ∧ (¬ r6 = 0 → ((i2 < 0 → B_X10_said_42 o0 i1 i2 0 μ4 Q) ∧ (¬ i2 < 0 → ((999 < i2 → B_X10_said_42 o0 i1 i2 0 μ4 Q) ∧ (¬ 999 < i2 → B_X10_said_42 o0 i1 i2 1 μ4 Q)))))))) ∧ (i1 = (-1) → mok μ o0 10 ∧ ∃ t30, mgr μ o0 0 = some t30 ∧ mok μ t30 9 ∧ ∀ μ32, μ32 = msi μ t30 11 0 → Q 0 μ32))
set_option maxHeartbeats 4000000 in
set_option maxRecDepth 100000 in
theorem t_X10_said {x : GX} (f : Fx x cX10_said RX10 4 (rmc 1 0 0)) {o0 : Nat} {i1 : Int32} {i2 : Int32} {μ : Me} {Q : Int32 → Me → Prop} (hq : Rt x (some .int) (qI Q)) (h : S_X10_said o0 i1 i2 μ Q) : G x 4 0 [(0, .ref (gB x + o0)), (1, .int i1), (2, .int i2)] [] μ 0 0 := by
  unfold S_X10_said at h
  refine g_iload_n f 1 dX10_said_0 rfl rfl ?_
  refine g_iconst f (-1) dX10_said_1 kc_m1 ?_
  refine g_ic_ne f 15 dX10_said_2 rfl h (fun h => ?_) (fun h => ?_)
  · refine g_aload_n f 0 dX10_said_15 rfl rfl ?_
    obtain ⟨v1, h⟩ := h
    refine g_getR f fk_X10_12 v1 dX10_said_16 rfl h (fun t2 h => ?_)
    refine g_iload_n f 1 dX10_said_19 rfl rfl ?_
    obtain ⟨v3, h⟩ := h
    refine g_callV f mk_X10_175 v3 (c_X9_isPerson h) dX10_said_20 rfl rfl (Nat.le_of_ble_eq_true rfl) (rm_ok (by decide) (by decide)) ⟨Nat.le_of_ble_eq_true rfl, Nat.le_of_ble_eq_true rfl⟩ (kI fun r6 μ4 x5 h => ?_)
    refine g_if_eq f 41 dX10_said_23 rfl h (fun h => ?_) (fun h => ?_)
    · refine g_iconst f 0 dX10_said_41 kc_0 ?_
      exact h_sub [0, 1, 2] rfl (tB_X10_said_42 f hq h)
    · refine g_iload_n f 2 dX10_said_26 rfl rfl ?_
      refine g_if_lt f 41 dX10_said_27 rfl h (fun h => ?_) (fun h => ?_)
      · refine g_iconst f 0 dX10_said_41 kc_0 ?_
        exact h_sub [0, 1, 2] rfl (tB_X10_said_42 f hq h)
      · refine g_iload_n f 2 dX10_said_30 rfl rfl ?_
        refine g_sipush f 999 dX10_said_31 ks_999 ?_
        refine g_ic_gt f 41 dX10_said_34 rfl h (fun h => ?_) (fun h => ?_)
        · refine g_iconst f 0 dX10_said_41 kc_0 ?_
          exact h_sub [0, 1, 2] rfl (tB_X10_said_42 f hq h)
        · refine g_iconst f 1 dX10_said_37 kc_1 ?_
          refine g_goto f 42 dX10_said_38 rfl ?_
          exact h_sub [0, 1, 2] rfl (tB_X10_said_42 f hq h)
  · refine g_aload_n f 0 dX10_said_5 rfl rfl ?_
    obtain ⟨v29, h⟩ := h
    refine g_getR f fk_X10_12 v29 dX10_said_6 rfl h (fun t30 h => ?_)
    refine g_iconst f 0 dX10_said_9 kc_0 ?_
    obtain ⟨v31, h⟩ := h
    refine g_putI f fk_X10_355 v31 dX10_said_10 rfl h (fun h => ?_)
    refine g_iconst f 0 dX10_said_13 kc_0 ?_
    exact g_iret f hq (Nat.le_of_ble_eq_true rfl) (Nat.le_of_ble_eq_true rfl) dX10_said_14 h
theorem c_X10_said {Ω : OM} {o0 : Nat} {i1 : Int32} {i2 : Int32} {μ : Me} {Q : Int32 → Me → Prop} (h : S_X10_said o0 i1 i2 μ Q) : CT Ω yX10_said cX10_said 4 (some .int) (rmc 1 0 0) [.ref (oB Ω + o0), .int i1, .int i2] μ (qI Q) := CT_of (by decide) rfl (by simp [lg_sl, Value.category]) (fun x hΩ f hq hi => by subst hΩ; exact t_X10_said f hq h)
theorem dX10_allSaidIsSoBy_0 : decode cX10_allSaidIsSoBy 0 = .ok (.aload_n 0, 1) := by decide +kernel
theorem dX10_allSaidIsSoBy_1 : decode cX10_allSaidIsSoBy 1 = .ok (.getfield 45, 3) := by decide +kernel
theorem dX10_allSaidIsSoBy_4 : decode cX10_allSaidIsSoBy 4 = .ok (.invokevirtual 227, 3) := by decide +kernel
theorem dX10_allSaidIsSoBy_7 : decode cX10_allSaidIsSoBy 7 = .ok (.aload_n 0, 1) := by decide +kernel
theorem dX10_allSaidIsSoBy_8 : decode cX10_allSaidIsSoBy 8 = .ok (.getfield 45, 3) := by decide +kernel
theorem dX10_allSaidIsSoBy_11 : decode cX10_allSaidIsSoBy 11 = .ok (.aload_n 0, 1) := by decide +kernel
theorem dX10_allSaidIsSoBy_12 : decode cX10_allSaidIsSoBy 12 = .ok (.getfield 45, 3) := by decide +kernel
theorem dX10_allSaidIsSoBy_15 : decode cX10_allSaidIsSoBy 15 = .ok (.iload_n 1, 1) := by decide +kernel
theorem dX10_allSaidIsSoBy_16 : decode cX10_allSaidIsSoBy 16 = .ok (.invokevirtual 145, 3) := by decide +kernel
theorem dX10_allSaidIsSoBy_19 : decode cX10_allSaidIsSoBy 19 = .ok (.putfield 367, 3) := by decide +kernel
theorem dX10_allSaidIsSoBy_22 : decode cX10_allSaidIsSoBy 22 = .ok (.aload_n 0, 1) := by decide +kernel
theorem dX10_allSaidIsSoBy_23 : decode cX10_allSaidIsSoBy 23 = .ok (.getfield 45, 3) := by decide +kernel
theorem dX10_allSaidIsSoBy_26 : decode cX10_allSaidIsSoBy 26 = .ok (.aload_n 0, 1) := by decide +kernel
theorem dX10_allSaidIsSoBy_27 : decode cX10_allSaidIsSoBy 27 = .ok (.getfield 12, 3) := by decide +kernel
theorem dX10_allSaidIsSoBy_30 : decode cX10_allSaidIsSoBy 30 = .ok (.getfield 160, 3) := by decide +kernel
theorem dX10_allSaidIsSoBy_33 : decode cX10_allSaidIsSoBy 33 = .ok (.getfield 202, 3) := by decide +kernel
theorem dX10_allSaidIsSoBy_36 : decode cX10_allSaidIsSoBy 36 = .ok (.invokevirtual 230, 3) := by decide +kernel
theorem dX10_allSaidIsSoBy_39 : decode cX10_allSaidIsSoBy 39 = .ok (.istore_n 2, 1) := by decide +kernel
theorem dX10_allSaidIsSoBy_40 : decode cX10_allSaidIsSoBy 40 = .ok (.iconst 0, 1) := by decide +kernel
theorem dX10_allSaidIsSoBy_41 : decode cX10_allSaidIsSoBy 41 = .ok (.istore_n 3, 1) := by decide +kernel
theorem dX10_allSaidIsSoBy_42 : decode cX10_allSaidIsSoBy 42 = .ok (.iload_n 3, 1) := by decide +kernel
theorem dX10_allSaidIsSoBy_43 : decode cX10_allSaidIsSoBy 43 = .ok (.aload_n 0, 1) := by decide +kernel
theorem dX10_allSaidIsSoBy_44 : decode cX10_allSaidIsSoBy 44 = .ok (.getfield 12, 3) := by decide +kernel
theorem dX10_allSaidIsSoBy_47 : decode cX10_allSaidIsSoBy 47 = .ok (.getfield 355, 3) := by decide +kernel
theorem dX10_allSaidIsSoBy_50 : decode cX10_allSaidIsSoBy 50 = .ok (.if_icmp .ge 40, 3) := by decide +kernel
theorem dX10_allSaidIsSoBy_53 : decode cX10_allSaidIsSoBy 53 = .ok (.aload_n 0, 1) := by decide +kernel
theorem dX10_allSaidIsSoBy_54 : decode cX10_allSaidIsSoBy 54 = .ok (.getfield 45, 3) := by decide +kernel
theorem dX10_allSaidIsSoBy_57 : decode cX10_allSaidIsSoBy 57 = .ok (.aload_n 0, 1) := by decide +kernel
theorem dX10_allSaidIsSoBy_58 : decode cX10_allSaidIsSoBy 58 = .ok (.getfield 12, 3) := by decide +kernel
theorem dX10_allSaidIsSoBy_61 : decode cX10_allSaidIsSoBy 61 = .ok (.getfield 358, 3) := by decide +kernel
theorem dX10_allSaidIsSoBy_64 : decode cX10_allSaidIsSoBy 64 = .ok (.iload_n 3, 1) := by decide +kernel
theorem dX10_allSaidIsSoBy_65 : decode cX10_allSaidIsSoBy 65 = .ok (.iaload, 1) := by decide +kernel
theorem dX10_allSaidIsSoBy_66 : decode cX10_allSaidIsSoBy 66 = .ok (.iload_n 2, 1) := by decide +kernel
theorem dX10_allSaidIsSoBy_67 : decode cX10_allSaidIsSoBy 67 = .ok (.invokevirtual 287, 3) := by decide +kernel
theorem dX10_allSaidIsSoBy_70 : decode cX10_allSaidIsSoBy 70 = .ok (.aload_n 0, 1) := by decide +kernel
theorem dX10_allSaidIsSoBy_71 : decode cX10_allSaidIsSoBy 71 = .ok (.getfield 12, 3) := by decide +kernel
theorem dX10_allSaidIsSoBy_74 : decode cX10_allSaidIsSoBy 74 = .ok (.getfield 361, 3) := by decide +kernel
theorem dX10_allSaidIsSoBy_77 : decode cX10_allSaidIsSoBy 77 = .ok (.iload_n 3, 1) := by decide +kernel
theorem dX10_allSaidIsSoBy_78 : decode cX10_allSaidIsSoBy 78 = .ok (.iaload, 1) := by decide +kernel
theorem dX10_allSaidIsSoBy_79 : decode cX10_allSaidIsSoBy 79 = .ok (.if_icmp .eq 5, 3) := by decide +kernel
theorem dX10_allSaidIsSoBy_82 : decode cX10_allSaidIsSoBy 82 = .ok (.iconst 0, 1) := by decide +kernel
theorem dX10_allSaidIsSoBy_83 : decode cX10_allSaidIsSoBy 83 = .ok (.ireturn, 1) := by decide +kernel
theorem dX10_allSaidIsSoBy_84 : decode cX10_allSaidIsSoBy 84 = .ok (.iinc 3 1, 3) := by decide +kernel
theorem dX10_allSaidIsSoBy_87 : decode cX10_allSaidIsSoBy 87 = .ok (.goto (-45), 3) := by decide +kernel
theorem dX10_allSaidIsSoBy_90 : decode cX10_allSaidIsSoBy 90 = .ok (.iconst 1, 1) := by decide +kernel
theorem dX10_allSaidIsSoBy_91 : decode cX10_allSaidIsSoBy 91 = .ok (.ireturn, 1) := by decide +kernel
def B_X10_allSaidIsSoBy_42 (o0 : Nat) (i2 : Int32) (i3 : Int32) (μ : Me) (K42 : Int32 → Me → Prop) (Q : Int32 → Me → Prop) : Prop := mok μ o0 10 ∧ ∃ t25, mgr μ o0 0 = some t25 ∧ mok μ t25 9 ∧ (((mgi μ t25 11) ≤ i3 → Q 1 μ) ∧ (¬ (mgi μ t25 11) ≤ i3 → ∃ t27, mgr μ o0 5 = some t27 ∧ ∃ t28, mgr μ o0 0 = some t28 ∧ mok μ t28 9 ∧ ∃ t30, mgr μ t28 12 = some t30 ∧ mok μ t30 12 ∧ vp_in i3 (mln μ t30) ∧ mok μ t27 4 ∧ S_X4_takesAmong t27 (mgi μ t30 i3.toNatClampNeg) i2 μ (fun r35 μ33 => ∃ t36, mgr μ33 o0 0 = some t36 ∧ mok μ33 t36 9 ∧ ∃ t38, mgr μ33 t36 13 = some t38 ∧ mok μ33 t38 12 ∧ vp_in i3 (mln μ33 t38) ∧ ((r35 = (mgi μ33 t38 i3.toNatClampNeg) → K42 (i3 + 1) μ33) ∧ (¬ r35 = (mgi μ33 t38 i3.toNatClampNeg) → Q 0 μ33)))))
set_option maxHeartbeats 4000000 in
set_option maxRecDepth 100000 in
theorem tB_X10_allSaidIsSoBy_42 {x : GX} (f : Fx x cX10_allSaidIsSoBy RX10 4 (rmc 4 0 0)) {o0 : Nat} {i2 : Int32} {i3 : Int32} {μ : Me} {Q : Int32 → Me → Prop} (hq : Rt x (some .boolean) (qI Q)) {K42 : Int32 → Me → Prop} (hK42 : ∀ (a3 : Int32) (ν : Me), K42 a3 ν → G x 4 42 [(0, .ref (gB x + o0)), (2, .int i2), (3, .int a3)] [] ν 0 0) (h : B_X10_allSaidIsSoBy_42 o0 i2 i3 μ K42 Q) : G x 4 42 [(0, .ref (gB x + o0)), (2, .int i2), (3, .int i3)] [] μ 0 0 := by
  unfold B_X10_allSaidIsSoBy_42 at h
  refine g_iload_n f 2 dX10_allSaidIsSoBy_42 rfl rfl ?_
  refine g_aload_n f 0 dX10_allSaidIsSoBy_43 rfl rfl ?_
  obtain ⟨v24, h⟩ := h
  refine g_getR f fk_X10_12 v24 dX10_allSaidIsSoBy_44 rfl h (fun t25 h => ?_)
  obtain ⟨v26, h⟩ := h
  refine g_getI f fk_X10_355 v26 dX10_allSaidIsSoBy_47 rfl ?_
  refine g_ic_ge f 90 dX10_allSaidIsSoBy_50 rfl h (fun h => ?_) (fun h => ?_)
  · refine g_iconst f 1 dX10_allSaidIsSoBy_90 kc_1 ?_
    exact g_zret f hq (Nat.le_of_ble_eq_true rfl) (Nat.le_of_ble_eq_true rfl) dX10_allSaidIsSoBy_91 zb_1.1 h
  · refine g_aload_n f 0 dX10_allSaidIsSoBy_53 rfl rfl ?_
    refine g_getR f fk_X10_45 v24 dX10_allSaidIsSoBy_54 rfl h (fun t27 h => ?_)
    refine g_aload_n f 0 dX10_allSaidIsSoBy_57 rfl rfl ?_
    refine g_getR f fk_X10_12 v24 dX10_allSaidIsSoBy_58 rfl h (fun t28 h => ?_)
    obtain ⟨v29, h⟩ := h
    refine g_getR f fk_X10_358 v29 dX10_allSaidIsSoBy_61 rfl h (fun t30 h => ?_)
    refine g_iload_n f 2 dX10_allSaidIsSoBy_64 rfl rfl ?_
    obtain ⟨v31, h⟩ := h
    refine g_iald f v31 dX10_allSaidIsSoBy_65 h (fun h => ?_)
    refine g_iload_n f 1 dX10_allSaidIsSoBy_66 rfl rfl ?_
    obtain ⟨v32, h⟩ := h
    refine g_callV f mk_X10_287 v32 (c_X4_takesAmong h) dX10_allSaidIsSoBy_67 rfl rfl (Nat.le_of_ble_eq_true rfl) (rm_ok (by decide) (by decide)) ⟨Nat.le_of_ble_eq_true rfl, Nat.le_of_ble_eq_true rfl⟩ (kI fun r35 μ33 x34 h => ?_)
    refine g_aload_n f 0 dX10_allSaidIsSoBy_70 rfl rfl ?_
    have v24 := mex_ok x34 v24
    refine g_getR f fk_X10_12 v24 dX10_allSaidIsSoBy_71 rfl h (fun t36 h => ?_)
    obtain ⟨v37, h⟩ := h
    refine g_getR f fk_X10_361 v37 dX10_allSaidIsSoBy_74 rfl h (fun t38 h => ?_)
    refine g_iload_n f 2 dX10_allSaidIsSoBy_77 rfl rfl ?_
    obtain ⟨v39, h⟩ := h
    refine g_iald f v39 dX10_allSaidIsSoBy_78 h (fun h => ?_)
    refine g_ic_eq f 84 dX10_allSaidIsSoBy_79 rfl h (fun h => ?_) (fun h => ?_)
    · refine h_iinc f 2 1 dX10_allSaidIsSoBy_84 rfl kc_1 (by decide) ?_
      refine g_goto f 42 dX10_allSaidIsSoBy_87 rfl ?_
      exact h_sub [1, 2, 0] rfl (hK42 _ _ h)
    · refine g_iconst f 0 dX10_allSaidIsSoBy_82 kc_0 ?_
      exact g_zret f hq (Nat.le_of_ble_eq_true rfl) (Nat.le_of_ble_eq_true rfl) dX10_allSaidIsSoBy_83 zb_0.1 h
def L_X10_allSaidIsSoBy_42 (o0 : Nat) (i2 : Int32) (i3 : Int32) (μ : Me) (Q : Int32 → Me → Prop) : Prop := ∃ I : Int32 → Me → Nat → Prop, (∃ n, I i3 μ n) ∧ ∀ (i3 : Int32) (μ : Me) (n : Nat), I i3 μ n → B_X10_allSaidIsSoBy_42 o0 i2 i3 μ (fun a3 ν => ∃ n', n' < n ∧ I a3 ν n') Q
set_option maxHeartbeats 4000000 in
set_option maxRecDepth 100000 in
theorem tL_X10_allSaidIsSoBy_42 {x : GX} (f : Fx x cX10_allSaidIsSoBy RX10 4 (rmc 4 0 0)) {o0 : Nat} {i2 : Int32} {i3 : Int32} {μ : Me} {Q : Int32 → Me → Prop} (hq : Rt x (some .boolean) (qI Q)) (h : L_X10_allSaidIsSoBy_42 o0 i2 i3 μ Q) : G x 4 42 [(0, .ref (gB x + o0)), (2, .int i2), (3, .int i3)] [] μ 0 0 := by
  obtain ⟨I, ⟨n, hI⟩, hs⟩ := h
  induction n using Nat.strongRecOn generalizing i3 μ with
  | ind n ih => exact tB_X10_allSaidIsSoBy_42 f hq (fun a3 ν hk => by obtain ⟨n2, hn, hI2⟩ := hk; exact ih n2 hn hI2) (hs _ _ _ hI)
def S_X10_allSaidIsSoBy (o0 : Nat) (i1 : Int32) (μ : Me) (Q : Int32 → Me → Prop) : Prop := mok μ o0 10 ∧ ∃ t2, mgr μ o0 5 = some t2 ∧ mok μ t2 4 ∧ S_X4_asNow t2 μ (fun μ4 => ∃ t7, mgr μ4 o0 5 = some t7 ∧ ∃ t8, mgr μ4 o0 5 = some t8 ∧ mok μ4 t8 4 ∧ S_X4_textOf t8 i1 μ4 (fun r12 μ10 => mok μ10 t7 4 ∧ ∀ μ14, μ14 = msr μ10 t7 6 r12 → ∃ t15, mgr μ14 o0 5 = some t15 ∧ ∃ t16, mgr μ14 o0 0 = some t16 ∧ mok μ14 t16 9 ∧ ∃ t18, mgr μ14 t16 14 = some t18 ∧ mok μ14 t18 3 ∧ mok μ14 t15 4 ∧ S_X4_runningBy t15 (mgi μ14 t18 0) μ14 (fun r23 μ21 => L_X10_allSaidIsSoBy_42 o0 r23 0 μ21 Q)))
set_option maxHeartbeats 4000000 in
set_option maxRecDepth 100000 in
theorem t_X10_allSaidIsSoBy {x : GX} (f : Fx x cX10_allSaidIsSoBy RX10 4 (rmc 4 0 0)) {o0 : Nat} {i1 : Int32} {μ : Me} {Q : Int32 → Me → Prop} (hq : Rt x (some .boolean) (qI Q)) (h : S_X10_allSaidIsSoBy o0 i1 μ Q) : G x 4 0 [(0, .ref (gB x + o0)), (1, .int i1)] [] μ 0 0 := by
  unfold S_X10_allSaidIsSoBy at h
  refine g_aload_n f 0 dX10_allSaidIsSoBy_0 rfl rfl ?_
  obtain ⟨v1, h⟩ := h
  refine g_getR f fk_X10_45 v1 dX10_allSaidIsSoBy_1 rfl h (fun t2 h => ?_)
  obtain ⟨v3, h⟩ := h
  refine g_callV f mk_X10_227 v3 (c_X4_asNow h) dX10_allSaidIsSoBy_4 rfl rfl (Nat.le_of_ble_eq_true rfl) (rm_ok (by decide) (by decide)) ⟨Nat.le_of_ble_eq_true rfl, Nat.le_of_ble_eq_true rfl⟩ (kV fun μ4 x5 h => ?_)
  refine g_aload_n f 0 dX10_allSaidIsSoBy_7 rfl rfl ?_
  have v1 := mex_ok x5 v1
  refine g_getR f fk_X10_45 v1 dX10_allSaidIsSoBy_8 rfl h (fun t7 h => ?_)
  refine g_aload_n f 0 dX10_allSaidIsSoBy_11 rfl rfl ?_
  refine g_getR f fk_X10_45 v1 dX10_allSaidIsSoBy_12 rfl h (fun t8 h => ?_)
  refine g_iload_n f 1 dX10_allSaidIsSoBy_15 rfl rfl ?_
  obtain ⟨v9, h⟩ := h
  refine g_callV f mk_X10_145 v9 (c_X4_textOf h) dX10_allSaidIsSoBy_16 rfl rfl (Nat.le_of_ble_eq_true rfl) (rm_ok (by decide) (by decide)) ⟨Nat.le_of_ble_eq_true rfl, Nat.le_of_ble_eq_true rfl⟩ (kR fun r12 μ10 x11 h => ?_)
  obtain ⟨v13, h⟩ := h
  refine g_putQ (r := _) f fk_X10_367 v13 dX10_allSaidIsSoBy_19 rfl (Or.inl ⟨_, rfl⟩) h (fun h => ?_)
  refine g_aload_n f 0 dX10_allSaidIsSoBy_22 rfl rfl ?_
  have v1 := mex_ok x11 v1
  refine g_getR f fk_X10_45 v1 dX10_allSaidIsSoBy_23 rfl h (fun t15 h => ?_)
  refine g_aload_n f 0 dX10_allSaidIsSoBy_26 rfl rfl ?_
  refine g_getR f fk_X10_12 v1 dX10_allSaidIsSoBy_27 rfl h (fun t16 h => ?_)
  obtain ⟨v17, h⟩ := h
  refine g_getR f fk_X10_160 v17 dX10_allSaidIsSoBy_30 rfl h (fun t18 h => ?_)
  obtain ⟨v19, h⟩ := h
  refine g_getI f fk_X10_202 v19 dX10_allSaidIsSoBy_33 rfl ?_
  obtain ⟨v20, h⟩ := h
  refine g_callV f mk_X10_230 v20 (c_X4_runningBy h) dX10_allSaidIsSoBy_36 rfl rfl (Nat.le_of_ble_eq_true rfl) (rm_ok (by decide) (by decide)) ⟨Nat.le_of_ble_eq_true rfl, Nat.le_of_ble_eq_true rfl⟩ (kI fun r23 μ21 x22 h => ?_)
  refine h_istore_n f dX10_allSaidIsSoBy_39 rfl (by decide) ?_
  refine g_iconst f 0 dX10_allSaidIsSoBy_40 kc_0 ?_
  refine h_istore_n f dX10_allSaidIsSoBy_41 rfl (by decide) ?_
  exact h_sub [2, 1, 0] rfl (tL_X10_allSaidIsSoBy_42 f hq h)
theorem c_X10_allSaidIsSoBy {Ω : OM} {o0 : Nat} {i1 : Int32} {μ : Me} {Q : Int32 → Me → Prop} (h : S_X10_allSaidIsSoBy o0 i1 μ Q) : CT Ω yX10_allSaidIsSoBy cX10_allSaidIsSoBy 4 (some .boolean) (rmc 4 0 0) [.ref (oB Ω + o0), .int i1] μ (qI Q) := CT_of (by decide) rfl (by simp [lg_sl, Value.category]) (fun x hΩ f hq hi => by subst hΩ; exact t_X10_allSaidIsSoBy f hq h)
theorem dX10_whose_0 : decode cX10_whose 0 = .ok (.iconst 0, 1) := by decide +kernel
theorem dX10_whose_1 : decode cX10_whose 1 = .ok (.istore_n 1, 1) := by decide +kernel
theorem dX10_whose_2 : decode cX10_whose 2 = .ok (.iconst 0, 1) := by decide +kernel
theorem dX10_whose_3 : decode cX10_whose 3 = .ok (.istore_n 2, 1) := by decide +kernel
theorem dX10_whose_4 : decode cX10_whose 4 = .ok (.iload_n 2, 1) := by decide +kernel
theorem dX10_whose_5 : decode cX10_whose 5 = .ok (.aload_n 0, 1) := by decide +kernel
theorem dX10_whose_6 : decode cX10_whose 6 = .ok (.getfield 12, 3) := by decide +kernel
theorem dX10_whose_9 : decode cX10_whose 9 = .ok (.getfield 97, 3) := by decide +kernel
theorem dX10_whose_12 : decode cX10_whose 12 = .ok (.if_icmp .ge 23, 3) := by decide +kernel
theorem dX10_whose_15 : decode cX10_whose 15 = .ok (.aload_n 0, 1) := by decide +kernel
theorem dX10_whose_16 : decode cX10_whose 16 = .ok (.iload_n 2, 1) := by decide +kernel
theorem dX10_whose_17 : decode cX10_whose 17 = .ok (.invokevirtual 364, 3) := by decide +kernel
theorem dX10_whose_20 : decode cX10_whose 20 = .ok (.ifCond .eq 9, 3) := by decide +kernel
theorem dX10_whose_23 : decode cX10_whose 23 = .ok (.iload_n 1, 1) := by decide +kernel
theorem dX10_whose_24 : decode cX10_whose 24 = .ok (.iconst 1, 1) := by decide +kernel
theorem dX10_whose_25 : decode cX10_whose 25 = .ok (.iload_n 2, 1) := by decide +kernel
theorem dX10_whose_26 : decode cX10_whose 26 = .ok (.ishl, 1) := by decide +kernel
theorem dX10_whose_27 : decode cX10_whose 27 = .ok (.ior, 1) := by decide +kernel
theorem dX10_whose_28 : decode cX10_whose 28 = .ok (.istore_n 1, 1) := by decide +kernel
theorem dX10_whose_29 : decode cX10_whose 29 = .ok (.iinc 2 1, 3) := by decide +kernel
theorem dX10_whose_32 : decode cX10_whose 32 = .ok (.goto (-28), 3) := by decide +kernel
theorem dX10_whose_35 : decode cX10_whose 35 = .ok (.iload_n 1, 1) := by decide +kernel
theorem dX10_whose_36 : decode cX10_whose 36 = .ok (.ireturn, 1) := by decide +kernel
def B_X10_whose_29 (o0 : Nat) (i1 : Int32) (i2 : Int32) (μ : Me) (K4 : Int32 → Int32 → Me → Prop) (Q : Int32 → Me → Prop) : Prop := K4 i1 (i2 + 1) μ
set_option maxHeartbeats 4000000 in
set_option maxRecDepth 100000 in
theorem tB_X10_whose_29 {x : GX} (f : Fx x cX10_whose RX10 3 (rmc 5 0 0)) {o0 : Nat} {i1 : Int32} {i2 : Int32} {μ : Me} {Q : Int32 → Me → Prop} (hq : Rt x (some .int) (qI Q)) {K4 : Int32 → Int32 → Me → Prop} (hK4 : ∀ (a1 : Int32) (a2 : Int32) (ν : Me), K4 a1 a2 ν → G x 3 4 [(0, .ref (gB x + o0)), (1, .int a1), (2, .int a2)] [] ν 0 0) (h : B_X10_whose_29 o0 i1 i2 μ K4 Q) : G x 3 29 [(0, .ref (gB x + o0)), (1, .int i1), (2, .int i2)] [] μ 0 0 := by
  unfold B_X10_whose_29 at h
  refine h_iinc f 2 1 dX10_whose_29 rfl kc_1 (by decide) ?_
  refine g_goto f 4 dX10_whose_32 rfl ?_
  exact h_sub [1, 2, 0] rfl (hK4 _ _ _ h)
def B_X10_whose_4 (o0 : Nat) (i1 : Int32) (i2 : Int32) (μ : Me) (K4 : Int32 → Int32 → Me → Prop) (Q : Int32 → Me → Prop) : Prop := mok μ o0 10 ∧ ∃ t2, mgr μ o0 0 = some t2 ∧ mok μ t2 9 ∧ (((mgi μ t2 6) ≤ i2 → Q i1 μ) ∧ (¬ (mgi μ t2 6) ≤ i2 → S_X10_allSaidIsSoBy o0 i2 μ (fun r6 μ4 => ((r6 = 0 → B_X10_whose_29 o0 i1 i2 μ4 K4 Q) ∧ (¬ r6 = 0 → B_X10_whose_29 o0 (i1 ||| (1 <<< (i2 &&& 31))) i2 μ4 K4 Q)))))
set_option maxHeartbeats 4000000 in
set_option maxRecDepth 100000 in
theorem tB_X10_whose_4 {x : GX} (f : Fx x cX10_whose RX10 3 (rmc 5 0 0)) {o0 : Nat} {i1 : Int32} {i2 : Int32} {μ : Me} {Q : Int32 → Me → Prop} (hq : Rt x (some .int) (qI Q)) {K4 : Int32 → Int32 → Me → Prop} (hK4 : ∀ (a1 : Int32) (a2 : Int32) (ν : Me), K4 a1 a2 ν → G x 3 4 [(0, .ref (gB x + o0)), (1, .int a1), (2, .int a2)] [] ν 0 0) (h : B_X10_whose_4 o0 i1 i2 μ K4 Q) : G x 3 4 [(0, .ref (gB x + o0)), (1, .int i1), (2, .int i2)] [] μ 0 0 := by
  unfold B_X10_whose_4 at h
  refine g_iload_n f 2 dX10_whose_4 rfl rfl ?_
  refine g_aload_n f 0 dX10_whose_5 rfl rfl ?_
  obtain ⟨v1, h⟩ := h
  refine g_getR f fk_X10_12 v1 dX10_whose_6 rfl h (fun t2 h => ?_)
  obtain ⟨v3, h⟩ := h
  refine g_getI f fk_X10_97 v3 dX10_whose_9 rfl ?_
  refine g_ic_ge f 35 dX10_whose_12 rfl h (fun h => ?_) (fun h => ?_)
  · refine g_iload_n f 1 dX10_whose_35 rfl rfl ?_
    exact g_iret f hq (Nat.le_of_ble_eq_true rfl) (Nat.le_of_ble_eq_true rfl) dX10_whose_36 h
  · refine g_aload_n f 0 dX10_whose_15 rfl rfl ?_
    refine g_iload_n f 2 dX10_whose_16 rfl rfl ?_
    refine g_callV f mk_X10_364 v1 (c_X10_allSaidIsSoBy h) dX10_whose_17 rfl rfl (Nat.le_of_ble_eq_true rfl) (rm_ok (by decide) (by decide)) ⟨Nat.le_of_ble_eq_true rfl, Nat.le_of_ble_eq_true rfl⟩ (kI fun r6 μ4 x5 h => ?_)
    refine g_if_eq f 29 dX10_whose_20 rfl h (fun h => ?_) (fun h => ?_)
    · exact h_sub [0, 1, 2] rfl (tB_X10_whose_29 f hq hK4 h)
    · refine g_iload_n f 1 dX10_whose_23 rfl rfl ?_
      refine g_iconst f 1 dX10_whose_24 kc_1 ?_
      refine g_iload_n f 2 dX10_whose_25 rfl rfl ?_
      refine g_ishl f dX10_whose_26 ?_
      refine g_ior f dX10_whose_27 ?_
      refine h_istore_n f dX10_whose_28 rfl (by decide) ?_
      exact h_sub [1, 0, 2] rfl (tB_X10_whose_29 f hq hK4 h)
def L_X10_whose_4 (o0 : Nat) (i1 : Int32) (i2 : Int32) (μ : Me) (Q : Int32 → Me → Prop) : Prop := ∃ I : Int32 → Int32 → Me → Nat → Prop, (∃ n, I i1 i2 μ n) ∧ ∀ (i1 : Int32) (i2 : Int32) (μ : Me) (n : Nat), I i1 i2 μ n → B_X10_whose_4 o0 i1 i2 μ (fun a1 a2 ν => ∃ n', n' < n ∧ I a1 a2 ν n') Q
set_option maxHeartbeats 4000000 in
set_option maxRecDepth 100000 in
theorem tL_X10_whose_4 {x : GX} (f : Fx x cX10_whose RX10 3 (rmc 5 0 0)) {o0 : Nat} {i1 : Int32} {i2 : Int32} {μ : Me} {Q : Int32 → Me → Prop} (hq : Rt x (some .int) (qI Q)) (h : L_X10_whose_4 o0 i1 i2 μ Q) : G x 3 4 [(0, .ref (gB x + o0)), (1, .int i1), (2, .int i2)] [] μ 0 0 := by
  obtain ⟨I, ⟨n, hI⟩, hs⟩ := h
  induction n using Nat.strongRecOn generalizing i1 i2 μ with
  | ind n ih => exact tB_X10_whose_4 f hq (fun a1 a2 ν hk => by obtain ⟨n2, hn, hI2⟩ := hk; exact ih n2 hn hI2) (hs _ _ _ _ hI)
def S_X10_whose (o0 : Nat) (μ : Me) (Q : Int32 → Me → Prop) : Prop := L_X10_whose_4 o0 0 0 μ Q
set_option maxHeartbeats 4000000 in
set_option maxRecDepth 100000 in
theorem t_X10_whose {x : GX} (f : Fx x cX10_whose RX10 3 (rmc 5 0 0)) {o0 : Nat} {μ : Me} {Q : Int32 → Me → Prop} (hq : Rt x (some .int) (qI Q)) (h : S_X10_whose o0 μ Q) : G x 3 0 [(0, .ref (gB x + o0))] [] μ 0 0 := by
  unfold S_X10_whose at h
  refine g_iconst f 0 dX10_whose_0 kc_0 ?_
  refine h_istore_n f dX10_whose_1 rfl (by decide) ?_
  refine g_iconst f 0 dX10_whose_2 kc_0 ?_
  refine h_istore_n f dX10_whose_3 rfl (by decide) ?_
  exact h_sub [2, 1, 0] rfl (tL_X10_whose_4 f hq h)
theorem c_X10_whose {Ω : OM} {o0 : Nat} {μ : Me} {Q : Int32 → Me → Prop} (h : S_X10_whose o0 μ Q) : CT Ω yX10_whose cX10_whose 3 (some .int) (rmc 5 0 0) [.ref (oB Ω + o0)] μ (qI Q) := CT_of (by decide) rfl (by simp [lg_sl, Value.category]) (fun x hΩ f hq hi => by subst hΩ; exact t_X10_whose f hq h)
theorem dX10_latest_0 : decode cX10_latest 0 = .ok (.iconst (-1), 1) := by decide +kernel
theorem dX10_latest_1 : decode cX10_latest 1 = .ok (.istore_n 1, 1) := by decide +kernel
theorem dX10_latest_2 : decode cX10_latest 2 = .ok (.iconst 0, 1) := by decide +kernel
theorem dX10_latest_3 : decode cX10_latest 3 = .ok (.istore_n 2, 1) := by decide +kernel
theorem dX10_latest_4 : decode cX10_latest 4 = .ok (.iconst 0, 1) := by decide +kernel
theorem dX10_latest_5 : decode cX10_latest 5 = .ok (.istore_n 3, 1) := by decide +kernel
theorem dX10_latest_6 : decode cX10_latest 6 = .ok (.iload_n 3, 1) := by decide +kernel
theorem dX10_latest_7 : decode cX10_latest 7 = .ok (.aload_n 0, 1) := by decide +kernel
theorem dX10_latest_8 : decode cX10_latest 8 = .ok (.getfield 12, 3) := by decide +kernel
theorem dX10_latest_11 : decode cX10_latest 11 = .ok (.getfield 283, 3) := by decide +kernel
theorem dX10_latest_14 : decode cX10_latest 14 = .ok (.if_icmp .ge 40, 3) := by decide +kernel
theorem dX10_latest_17 : decode cX10_latest 17 = .ok (.aload_n 0, 1) := by decide +kernel
theorem dX10_latest_18 : decode cX10_latest 18 = .ok (.getfield 12, 3) := by decide +kernel
theorem dX10_latest_21 : decode cX10_latest 21 = .ok (.getfield 160, 3) := by decide +kernel
theorem dX10_latest_24 : decode cX10_latest 24 = .ok (.getfield 193, 3) := by decide +kernel
theorem dX10_latest_27 : decode cX10_latest 27 = .ok (.iload_n 3, 1) := by decide +kernel
theorem dX10_latest_28 : decode cX10_latest 28 = .ok (.iaload, 1) := by decide +kernel
theorem dX10_latest_29 : decode cX10_latest 29 = .ok (.iload_n 2, 1) := by decide +kernel
theorem dX10_latest_30 : decode cX10_latest 30 = .ok (.if_icmp .le 18, 3) := by decide +kernel
theorem dX10_latest_33 : decode cX10_latest 33 = .ok (.aload_n 0, 1) := by decide +kernel
theorem dX10_latest_34 : decode cX10_latest 34 = .ok (.getfield 12, 3) := by decide +kernel
theorem dX10_latest_37 : decode cX10_latest 37 = .ok (.getfield 160, 3) := by decide +kernel
theorem dX10_latest_40 : decode cX10_latest 40 = .ok (.getfield 193, 3) := by decide +kernel
theorem dX10_latest_43 : decode cX10_latest 43 = .ok (.iload_n 3, 1) := by decide +kernel
theorem dX10_latest_44 : decode cX10_latest 44 = .ok (.iaload, 1) := by decide +kernel
theorem dX10_latest_45 : decode cX10_latest 45 = .ok (.istore_n 2, 1) := by decide +kernel
theorem dX10_latest_46 : decode cX10_latest 46 = .ok (.iload_n 3, 1) := by decide +kernel
theorem dX10_latest_47 : decode cX10_latest 47 = .ok (.istore_n 1, 1) := by decide +kernel
theorem dX10_latest_48 : decode cX10_latest 48 = .ok (.iinc 3 1, 3) := by decide +kernel
theorem dX10_latest_51 : decode cX10_latest 51 = .ok (.goto (-45), 3) := by decide +kernel
theorem dX10_latest_54 : decode cX10_latest 54 = .ok (.iload_n 1, 1) := by decide +kernel
theorem dX10_latest_55 : decode cX10_latest 55 = .ok (.ireturn, 1) := by decide +kernel
def B_X10_latest_48 (o0 : Nat) (i1 : Int32) (i2 : Int32) (i3 : Int32) (μ : Me) (K6 : Int32 → Int32 → Int32 → Me → Prop) (Q : Int32 → Me → Prop) : Prop := K6 i1 i2 (i3 + 1) μ
set_option maxHeartbeats 4000000 in
set_option maxRecDepth 100000 in
theorem tB_X10_latest_48 {x : GX} (f : Fx x cX10_latest RX10 4 (rmc 0 0 0)) {o0 : Nat} {i1 : Int32} {i2 : Int32} {i3 : Int32} {μ : Me} {Q : Int32 → Me → Prop} (hq : Rt x (some .int) (qI Q)) {K6 : Int32 → Int32 → Int32 → Me → Prop} (hK6 : ∀ (a1 : Int32) (a2 : Int32) (a3 : Int32) (ν : Me), K6 a1 a2 a3 ν → G x 4 6 [(0, .ref (gB x + o0)), (1, .int a1), (2, .int a2), (3, .int a3)] [] ν 0 0) (h : B_X10_latest_48 o0 i1 i2 i3 μ K6 Q) : G x 4 48 [(0, .ref (gB x + o0)), (1, .int i1), (2, .int i2), (3, .int i3)] [] μ 0 0 := by
  unfold B_X10_latest_48 at h
  refine h_iinc f 3 1 dX10_latest_48 rfl kc_1 (by decide) ?_
  refine g_goto f 6 dX10_latest_51 rfl ?_
  exact h_sub [1, 2, 3, 0] rfl (hK6 _ _ _ _ h)
def B_X10_latest_6 (o0 : Nat) (i1 : Int32) (i2 : Int32) (i3 : Int32) (μ : Me) (K6 : Int32 → Int32 → Int32 → Me → Prop) (Q : Int32 → Me → Prop) : Prop := mok μ o0 10 ∧ ∃ t2, mgr μ o0 0 = some t2 ∧ mok μ t2 9 ∧ (((mgi μ t2 0) ≤ i3 → Q i1 μ) ∧ (¬ (mgi μ t2 0) ≤ i3 → ∃ t4, mgr μ o0 0 = some t4 ∧ mok μ t4 9 ∧ ∃ t6, mgr μ t4 14 = some t6 ∧ mok μ t6 3 ∧ ∃ t8, mgr μ t6 6 = some t8 ∧ mok μ t8 12 ∧ vp_in i3 (mln μ t8) ∧ (((mgi μ t8 i3.toNatClampNeg) ≤ i2 → B_X10_latest_48 o0 i1 i2 i3 μ K6 Q) ∧ (¬ (mgi μ t8 i3.toNatClampNeg) ≤ i2 → ∃ t10, mgr μ o0 0 = some t10 ∧ mok μ t10 9 ∧ ∃ t12, mgr μ t10 14 = some t12 ∧ mok μ t12 3 ∧ ∃ t14, mgr μ t12 6 = some t14 ∧ mok μ t14 12 ∧ vp_in i3 (mln μ t14) ∧ B_X10_latest_48 o0 i3 (mgi μ t14 i3.toNatClampNeg) i3 μ K6 Q))))
set_option maxHeartbeats 4000000 in
set_option maxRecDepth 100000 in
theorem tB_X10_latest_6 {x : GX} (f : Fx x cX10_latest RX10 4 (rmc 0 0 0)) {o0 : Nat} {i1 : Int32} {i2 : Int32} {i3 : Int32} {μ : Me} {Q : Int32 → Me → Prop} (hq : Rt x (some .int) (qI Q)) {K6 : Int32 → Int32 → Int32 → Me → Prop} (hK6 : ∀ (a1 : Int32) (a2 : Int32) (a3 : Int32) (ν : Me), K6 a1 a2 a3 ν → G x 4 6 [(0, .ref (gB x + o0)), (1, .int a1), (2, .int a2), (3, .int a3)] [] ν 0 0) (h : B_X10_latest_6 o0 i1 i2 i3 μ K6 Q) : G x 4 6 [(0, .ref (gB x + o0)), (1, .int i1), (2, .int i2), (3, .int i3)] [] μ 0 0 := by
  unfold B_X10_latest_6 at h
  refine g_iload_n f 3 dX10_latest_6 rfl rfl ?_
  refine g_aload_n f 0 dX10_latest_7 rfl rfl ?_
  obtain ⟨v1, h⟩ := h
  refine g_getR f fk_X10_12 v1 dX10_latest_8 rfl h (fun t2 h => ?_)
  obtain ⟨v3, h⟩ := h
  refine g_getI f fk_X10_283 v3 dX10_latest_11 rfl ?_
  refine g_ic_ge f 54 dX10_latest_14 rfl h (fun h => ?_) (fun h => ?_)
  · refine g_iload_n f 1 dX10_latest_54 rfl rfl ?_
    exact g_iret f hq (Nat.le_of_ble_eq_true rfl) (Nat.le_of_ble_eq_true rfl) dX10_latest_55 h
  · refine g_aload_n f 0 dX10_latest_17 rfl rfl ?_
    refine g_getR f fk_X10_12 v1 dX10_latest_18 rfl h (fun t4 h => ?_)
    obtain ⟨v5, h⟩ := h
    refine g_getR f fk_X10_160 v5 dX10_latest_21 rfl h (fun t6 h => ?_)
    obtain ⟨v7, h⟩ := h
    refine g_getR f fk_X10_193 v7 dX10_latest_24 rfl h (fun t8 h => ?_)
    refine g_iload_n f 3 dX10_latest_27 rfl rfl ?_
    obtain ⟨v9, h⟩ := h
    refine g_iald f v9 dX10_latest_28 h (fun h => ?_)
    refine g_iload_n f 2 dX10_latest_29 rfl rfl ?_
    refine g_ic_le f 48 dX10_latest_30 rfl h (fun h => ?_) (fun h => ?_)
    · exact h_sub [0, 1, 2, 3] rfl (tB_X10_latest_48 f hq hK6 h)
    · refine g_aload_n f 0 dX10_latest_33 rfl rfl ?_
      refine g_getR f fk_X10_12 v1 dX10_latest_34 rfl h (fun t10 h => ?_)
      obtain ⟨v11, h⟩ := h
      refine g_getR f fk_X10_160 v11 dX10_latest_37 rfl h (fun t12 h => ?_)
      obtain ⟨v13, h⟩ := h
      refine g_getR f fk_X10_193 v13 dX10_latest_40 rfl h (fun t14 h => ?_)
      refine g_iload_n f 3 dX10_latest_43 rfl rfl ?_
      obtain ⟨v15, h⟩ := h
      refine g_iald f v15 dX10_latest_44 h (fun h => ?_)
      refine h_istore_n f dX10_latest_45 rfl (by decide) ?_
      refine g_iload_n f 3 dX10_latest_46 rfl rfl ?_
      refine h_istore_n f dX10_latest_47 rfl (by decide) ?_
      exact h_sub [2, 0, 1, 3] rfl (tB_X10_latest_48 f hq hK6 h)
def L_X10_latest_6 (o0 : Nat) (i1 : Int32) (i2 : Int32) (i3 : Int32) (μ : Me) (Q : Int32 → Me → Prop) : Prop := ∃ I : Int32 → Int32 → Int32 → Me → Nat → Prop, (∃ n, I i1 i2 i3 μ n) ∧ ∀ (i1 : Int32) (i2 : Int32) (i3 : Int32) (μ : Me) (n : Nat), I i1 i2 i3 μ n → B_X10_latest_6 o0 i1 i2 i3 μ (fun a1 a2 a3 ν => ∃ n', n' < n ∧ I a1 a2 a3 ν n') Q
set_option maxHeartbeats 4000000 in
set_option maxRecDepth 100000 in
theorem tL_X10_latest_6 {x : GX} (f : Fx x cX10_latest RX10 4 (rmc 0 0 0)) {o0 : Nat} {i1 : Int32} {i2 : Int32} {i3 : Int32} {μ : Me} {Q : Int32 → Me → Prop} (hq : Rt x (some .int) (qI Q)) (h : L_X10_latest_6 o0 i1 i2 i3 μ Q) : G x 4 6 [(0, .ref (gB x + o0)), (1, .int i1), (2, .int i2), (3, .int i3)] [] μ 0 0 := by
  obtain ⟨I, ⟨n, hI⟩, hs⟩ := h
  induction n using Nat.strongRecOn generalizing i1 i2 i3 μ with
  | ind n ih => exact tB_X10_latest_6 f hq (fun a1 a2 a3 ν hk => by obtain ⟨n2, hn, hI2⟩ := hk; exact ih n2 hn hI2) (hs _ _ _ _ _ hI)
def S_X10_latest (o0 : Nat) (μ : Me) (Q : Int32 → Me → Prop) : Prop := L_X10_latest_6 o0 (-1) 0 0 μ Q
set_option maxHeartbeats 4000000 in
set_option maxRecDepth 100000 in
theorem t_X10_latest {x : GX} (f : Fx x cX10_latest RX10 4 (rmc 0 0 0)) {o0 : Nat} {μ : Me} {Q : Int32 → Me → Prop} (hq : Rt x (some .int) (qI Q)) (h : S_X10_latest o0 μ Q) : G x 4 0 [(0, .ref (gB x + o0))] [] μ 0 0 := by
  unfold S_X10_latest at h
  refine g_iconst f (-1) dX10_latest_0 kc_m1 ?_
  refine h_istore_n f dX10_latest_1 rfl (by decide) ?_
  refine g_iconst f 0 dX10_latest_2 kc_0 ?_
  refine h_istore_n f dX10_latest_3 rfl (by decide) ?_
  refine g_iconst f 0 dX10_latest_4 kc_0 ?_
  refine h_istore_n f dX10_latest_5 rfl (by decide) ?_
  exact h_sub [3, 2, 1, 0] rfl (tL_X10_latest_6 f hq h)
theorem c_X10_latest {Ω : OM} {o0 : Nat} {μ : Me} {Q : Int32 → Me → Prop} (h : S_X10_latest o0 μ Q) : CT Ω yX10_latest cX10_latest 4 (some .int) (rmc 0 0 0) [.ref (oB Ω + o0)] μ (qI Q) := CT_of (by decide) rfl (by simp [lg_sl, Value.category]) (fun x hΩ f hq hi => by subst hΩ; exact t_X10_latest f hq h)
theorem dX10_crowded_0 : decode cX10_crowded 0 = .ok (.aload_n 0, 1) := by decide +kernel
theorem dX10_crowded_1 : decode cX10_crowded 1 = .ok (.invokevirtual 196, 3) := by decide +kernel
theorem dX10_crowded_4 : decode cX10_crowded 4 = .ok (.istore_n 1, 1) := by decide +kernel
theorem dX10_crowded_5 : decode cX10_crowded 5 = .ok (.iconst 0, 1) := by decide +kernel
theorem dX10_crowded_6 : decode cX10_crowded 6 = .ok (.istore_n 2, 1) := by decide +kernel
theorem dX10_crowded_7 : decode cX10_crowded 7 = .ok (.iconst 0, 1) := by decide +kernel
theorem dX10_crowded_8 : decode cX10_crowded 8 = .ok (.istore_n 3, 1) := by decide +kernel
theorem dX10_crowded_9 : decode cX10_crowded 9 = .ok (.iconst 0, 1) := by decide +kernel
theorem dX10_crowded_10 : decode cX10_crowded 10 = .ok (.istore 4, 2) := by decide +kernel
theorem dX10_crowded_12 : decode cX10_crowded 12 = .ok (.iload 4, 2) := by decide +kernel
theorem dX10_crowded_14 : decode cX10_crowded 14 = .ok (.iconst 4, 1) := by decide +kernel
theorem dX10_crowded_15 : decode cX10_crowded 15 = .ok (.if_icmp .ge 38, 3) := by decide +kernel
theorem dX10_crowded_18 : decode cX10_crowded 18 = .ok (.iload_n 1, 1) := by decide +kernel
theorem dX10_crowded_19 : decode cX10_crowded 19 = .ok (.aload_n 0, 1) := by decide +kernel
theorem dX10_crowded_20 : decode cX10_crowded 20 = .ok (.getfield 12, 3) := by decide +kernel
theorem dX10_crowded_23 : decode cX10_crowded 23 = .ok (.getfield 371, 3) := by decide +kernel
theorem dX10_crowded_26 : decode cX10_crowded 26 = .ok (.iload 4, 2) := by decide +kernel
theorem dX10_crowded_28 : decode cX10_crowded 28 = .ok (.iaload, 1) := by decide +kernel
theorem dX10_crowded_29 : decode cX10_crowded 29 = .ok (.iand, 1) := by decide +kernel
theorem dX10_crowded_30 : decode cX10_crowded 30 = .ok (.invokestatic 343, 3) := by decide +kernel
theorem dX10_crowded_33 : decode cX10_crowded 33 = .ok (.istore 5, 2) := by decide +kernel
theorem dX10_crowded_35 : decode cX10_crowded 35 = .ok (.iload 5, 2) := by decide +kernel
theorem dX10_crowded_37 : decode cX10_crowded 37 = .ok (.iload_n 3, 1) := by decide +kernel
theorem dX10_crowded_38 : decode cX10_crowded 38 = .ok (.if_icmp .le 9, 3) := by decide +kernel
theorem dX10_crowded_41 : decode cX10_crowded 41 = .ok (.iload 5, 2) := by decide +kernel
theorem dX10_crowded_43 : decode cX10_crowded 43 = .ok (.istore_n 3, 1) := by decide +kernel
theorem dX10_crowded_44 : decode cX10_crowded 44 = .ok (.iload 4, 2) := by decide +kernel
theorem dX10_crowded_46 : decode cX10_crowded 46 = .ok (.istore_n 2, 1) := by decide +kernel
theorem dX10_crowded_47 : decode cX10_crowded 47 = .ok (.iinc 4 1, 3) := by decide +kernel
theorem dX10_crowded_50 : decode cX10_crowded 50 = .ok (.goto (-38), 3) := by decide +kernel
theorem dX10_crowded_53 : decode cX10_crowded 53 = .ok (.iload_n 2, 1) := by decide +kernel
theorem dX10_crowded_54 : decode cX10_crowded 54 = .ok (.ireturn, 1) := by decide +kernel
def B_X10_crowded_47 (o0 : Nat) (i1 : Int32) (i2 : Int32) (i3 : Int32) (i4 : Int32) (μ : Me) (K12 : Int32 → Int32 → Int32 → Me → Prop) (Q : Int32 → Me → Prop) : Prop := K12 i2 i3 (i4 + 1) μ
set_option maxHeartbeats 4000000 in
set_option maxRecDepth 100000 in
theorem tB_X10_crowded_47 {x : GX} (f : Fx x cX10_crowded RX10 6 (rmc 4 0 0)) {o0 : Nat} {i1 : Int32} {i2 : Int32} {i3 : Int32} {i4 : Int32} {μ : Me} {Q : Int32 → Me → Prop} (hq : Rt x (some .int) (qI Q)) {K12 : Int32 → Int32 → Int32 → Me → Prop} (hK12 : ∀ (a2 : Int32) (a3 : Int32) (a4 : Int32) (ν : Me), K12 a2 a3 a4 ν → G x 6 12 [(0, .ref (gB x + o0)), (1, .int i1), (2, .int a2), (3, .int a3), (4, .int a4)] [] ν 0 0) (h : B_X10_crowded_47 o0 i1 i2 i3 i4 μ K12 Q) : G x 6 47 [(0, .ref (gB x + o0)), (1, .int i1), (2, .int i2), (3, .int i3), (4, .int i4)] [] μ 0 0 := by
  unfold B_X10_crowded_47 at h
  refine h_iinc f 4 1 dX10_crowded_47 rfl kc_1 (by decide) ?_
  refine g_goto f 12 dX10_crowded_50 rfl ?_
  exact h_sub [1, 2, 3, 4, 0] rfl (hK12 _ _ _ _ h)
def B_X10_crowded_12 (o0 : Nat) (i1 : Int32) (i2 : Int32) (i3 : Int32) (i4 : Int32) (μ : Me) (K12 : Int32 → Int32 → Int32 → Me → Prop) (Q : Int32 → Me → Prop) : Prop := ((4 ≤ i4 → Q i2 μ) ∧ (¬ 4 ≤ i4 → mok μ o0 10 ∧ ∃ t6, mgr μ o0 0 = some t6 ∧ mok μ t6 9 ∧ ∃ t8, mgr μ t6 2 = some t8 ∧ mok μ t8 12 ∧ vp_in i4 (mln μ t8) ∧ S_J6_bitCount_0f7a4 (i1 &&& (mgi μ t8 i4.toNatClampNeg)) μ (fun r12 μ10 => ((r12 ≤ i3 → B_X10_crowded_47 o0 i1 i2 i3 i4 μ10 K12 Q) ∧ (¬ r12 ≤ i3 → B_X10_crowded_47 o0 i1 i4 r12 i4 μ10 K12 Q)))))
set_option maxHeartbeats 4000000 in
set_option maxRecDepth 100000 in
theorem tB_X10_crowded_12 {x : GX} (f : Fx x cX10_crowded RX10 6 (rmc 4 0 0)) {o0 : Nat} {i1 : Int32} {i2 : Int32} {i3 : Int32} {i4 : Int32} {μ : Me} {Q : Int32 → Me → Prop} (hq : Rt x (some .int) (qI Q)) {K12 : Int32 → Int32 → Int32 → Me → Prop} (hK12 : ∀ (a2 : Int32) (a3 : Int32) (a4 : Int32) (ν : Me), K12 a2 a3 a4 ν → G x 6 12 [(0, .ref (gB x + o0)), (1, .int i1), (2, .int a2), (3, .int a3), (4, .int a4)] [] ν 0 0) (h : B_X10_crowded_12 o0 i1 i2 i3 i4 μ K12 Q) : G x 6 12 [(0, .ref (gB x + o0)), (1, .int i1), (2, .int i2), (3, .int i3), (4, .int i4)] [] μ 0 0 := by
  unfold B_X10_crowded_12 at h
  refine g_iload f 4 dX10_crowded_12 rfl ?_
  refine g_iconst f 4 dX10_crowded_14 kc_4 ?_
  refine g_ic_ge f 53 dX10_crowded_15 rfl h (fun h => ?_) (fun h => ?_)
  · refine g_iload_n f 2 dX10_crowded_53 rfl rfl ?_
    exact g_iret f hq (Nat.le_of_ble_eq_true rfl) (Nat.le_of_ble_eq_true rfl) dX10_crowded_54 h
  · refine g_iload_n f 1 dX10_crowded_18 rfl rfl ?_
    refine g_aload_n f 0 dX10_crowded_19 rfl rfl ?_
    obtain ⟨v5, h⟩ := h
    refine g_getR f fk_X10_12 v5 dX10_crowded_20 rfl h (fun t6 h => ?_)
    obtain ⟨v7, h⟩ := h
    refine g_getR f fk_X10_371 v7 dX10_crowded_23 rfl h (fun t8 h => ?_)
    refine g_iload f 4 dX10_crowded_26 rfl ?_
    obtain ⟨v9, h⟩ := h
    refine g_iald f v9 dX10_crowded_28 h (fun h => ?_)
    refine g_iand f dX10_crowded_29 ?_
    refine g_callS f mk_X10_343 (c_J6_bitCount_0f7a4 h) dX10_crowded_30 rfl rfl (Nat.le_of_ble_eq_true rfl) (rm_ok (by decide) (by decide)) ⟨Nat.le_of_ble_eq_true rfl, Nat.le_of_ble_eq_true rfl⟩ (kI fun r12 μ10 x11 h => ?_)
    refine h_istore f dX10_crowded_33 (by decide) ?_
    refine g_iload f 0 dX10_crowded_35 rfl ?_
    refine g_iload_n f 4 dX10_crowded_37 rfl rfl ?_
    refine g_ic_le f 47 dX10_crowded_38 rfl h (fun h => ?_) (fun h => ?_)
    · exact h_sub [1, 2, 3, 4, 5] rfl (tB_X10_crowded_47 f hq hK12 h)
    · refine g_iload f 0 dX10_crowded_41 rfl ?_
      refine h_istore_n f dX10_crowded_43 rfl (by decide) ?_
      refine g_iload f 5 dX10_crowded_44 rfl ?_
      refine h_istore_n f dX10_crowded_46 rfl (by decide) ?_
      exact h_sub [3, 4, 0, 1, 5] rfl (tB_X10_crowded_47 f hq hK12 h)
def L_X10_crowded_12 (o0 : Nat) (i1 : Int32) (i2 : Int32) (i3 : Int32) (i4 : Int32) (μ : Me) (Q : Int32 → Me → Prop) : Prop := ∃ I : Int32 → Int32 → Int32 → Me → Nat → Prop, (∃ n, I i2 i3 i4 μ n) ∧ ∀ (i2 : Int32) (i3 : Int32) (i4 : Int32) (μ : Me) (n : Nat), I i2 i3 i4 μ n → B_X10_crowded_12 o0 i1 i2 i3 i4 μ (fun a2 a3 a4 ν => ∃ n', n' < n ∧ I a2 a3 a4 ν n') Q
set_option maxHeartbeats 4000000 in
set_option maxRecDepth 100000 in
theorem tL_X10_crowded_12 {x : GX} (f : Fx x cX10_crowded RX10 6 (rmc 4 0 0)) {o0 : Nat} {i1 : Int32} {i2 : Int32} {i3 : Int32} {i4 : Int32} {μ : Me} {Q : Int32 → Me → Prop} (hq : Rt x (some .int) (qI Q)) (h : L_X10_crowded_12 o0 i1 i2 i3 i4 μ Q) : G x 6 12 [(0, .ref (gB x + o0)), (1, .int i1), (2, .int i2), (3, .int i3), (4, .int i4)] [] μ 0 0 := by
  obtain ⟨I, ⟨n, hI⟩, hs⟩ := h
  induction n using Nat.strongRecOn generalizing i2 i3 i4 μ with
  | ind n ih => exact tB_X10_crowded_12 f hq (fun a2 a3 a4 ν hk => by obtain ⟨n2, hn, hI2⟩ := hk; exact ih n2 hn hI2) (hs _ _ _ _ _ hI)
def S_X10_crowded (o0 : Nat) (μ : Me) (Q : Int32 → Me → Prop) : Prop := mok μ o0 10 ∧ S_X10_runningNow o0 μ (fun r4 μ2 => L_X10_crowded_12 o0 r4 0 0 0 μ2 Q)
set_option maxHeartbeats 4000000 in
set_option maxRecDepth 100000 in
theorem t_X10_crowded {x : GX} (f : Fx x cX10_crowded RX10 6 (rmc 4 0 0)) {o0 : Nat} {μ : Me} {Q : Int32 → Me → Prop} (hq : Rt x (some .int) (qI Q)) (h : S_X10_crowded o0 μ Q) : G x 6 0 [(0, .ref (gB x + o0))] [] μ 0 0 := by
  unfold S_X10_crowded at h
  refine g_aload_n f 0 dX10_crowded_0 rfl rfl ?_
  obtain ⟨v1, h⟩ := h
  refine g_callV f mk_X10_196 v1 (c_X10_runningNow h) dX10_crowded_1 rfl rfl (Nat.le_of_ble_eq_true rfl) (rm_ok (by decide) (by decide)) ⟨Nat.le_of_ble_eq_true rfl, Nat.le_of_ble_eq_true rfl⟩ (kI fun r4 μ2 x3 h => ?_)
  refine h_istore_n f dX10_crowded_4 rfl (by decide) ?_
  refine g_iconst f 0 dX10_crowded_5 kc_0 ?_
  refine h_istore_n f dX10_crowded_6 rfl (by decide) ?_
  refine g_iconst f 0 dX10_crowded_7 kc_0 ?_
  refine h_istore_n f dX10_crowded_8 rfl (by decide) ?_
  refine g_iconst f 0 dX10_crowded_9 kc_0 ?_
  refine h_istore f dX10_crowded_10 (by decide) ?_
  exact h_sub [4, 3, 2, 1, 0] rfl (tL_X10_crowded_12 f hq h)
theorem c_X10_crowded {Ω : OM} {o0 : Nat} {μ : Me} {Q : Int32 → Me → Prop} (h : S_X10_crowded o0 μ Q) : CT Ω yX10_crowded cX10_crowded 6 (some .int) (rmc 4 0 0) [.ref (oB Ω + o0)] μ (qI Q) := CT_of (by decide) rfl (by simp [lg_sl, Value.category]) (fun x hΩ f hq hi => by subst hΩ; exact t_X10_crowded f hq h)
theorem dX10_deaf_0 : decode cX10_deaf 0 = .ok (.iconst 1, 1) := by decide +kernel
theorem dX10_deaf_1 : decode cX10_deaf 1 = .ok (.aload_n 0, 1) := by decide +kernel
theorem dX10_deaf_2 : decode cX10_deaf 2 = .ok (.getfield 12, 3) := by decide +kernel
theorem dX10_deaf_5 : decode cX10_deaf 5 = .ok (.getfield 283, 3) := by decide +kernel
theorem dX10_deaf_8 : decode cX10_deaf 8 = .ok (.ishl, 1) := by decide +kernel
theorem dX10_deaf_9 : decode cX10_deaf 9 = .ok (.iconst 1, 1) := by decide +kernel
theorem dX10_deaf_10 : decode cX10_deaf 10 = .ok (.isub, 1) := by decide +kernel
theorem dX10_deaf_11 : decode cX10_deaf 11 = .ok (.istore_n 1, 1) := by decide +kernel
theorem dX10_deaf_12 : decode cX10_deaf 12 = .ok (.iconst 0, 1) := by decide +kernel
theorem dX10_deaf_13 : decode cX10_deaf 13 = .ok (.istore_n 2, 1) := by decide +kernel
theorem dX10_deaf_14 : decode cX10_deaf 14 = .ok (.iconst 0, 1) := by decide +kernel
theorem dX10_deaf_15 : decode cX10_deaf 15 = .ok (.istore_n 3, 1) := by decide +kernel
theorem dX10_deaf_16 : decode cX10_deaf 16 = .ok (.iload_n 3, 1) := by decide +kernel
theorem dX10_deaf_17 : decode cX10_deaf 17 = .ok (.aload_n 0, 1) := by decide +kernel
theorem dX10_deaf_18 : decode cX10_deaf 18 = .ok (.getfield 12, 3) := by decide +kernel
theorem dX10_deaf_21 : decode cX10_deaf 21 = .ok (.getfield 283, 3) := by decide +kernel
theorem dX10_deaf_24 : decode cX10_deaf 24 = .ok (.if_icmp .ge 29, 3) := by decide +kernel
theorem dX10_deaf_27 : decode cX10_deaf 27 = .ok (.aload_n 0, 1) := by decide +kernel
theorem dX10_deaf_28 : decode cX10_deaf 28 = .ok (.getfield 12, 3) := by decide +kernel
theorem dX10_deaf_31 : decode cX10_deaf 31 = .ok (.getfield 81, 3) := by decide +kernel
theorem dX10_deaf_34 : decode cX10_deaf 34 = .ok (.iload_n 3, 1) := by decide +kernel
theorem dX10_deaf_35 : decode cX10_deaf 35 = .ok (.iaload, 1) := by decide +kernel
theorem dX10_deaf_36 : decode cX10_deaf 36 = .ok (.iload_n 1, 1) := by decide +kernel
theorem dX10_deaf_37 : decode cX10_deaf 37 = .ok (.iand, 1) := by decide +kernel
theorem dX10_deaf_38 : decode cX10_deaf 38 = .ok (.ifCond .ne 9, 3) := by decide +kernel
theorem dX10_deaf_41 : decode cX10_deaf 41 = .ok (.iload_n 2, 1) := by decide +kernel
theorem dX10_deaf_42 : decode cX10_deaf 42 = .ok (.iconst 1, 1) := by decide +kernel
theorem dX10_deaf_43 : decode cX10_deaf 43 = .ok (.iload_n 3, 1) := by decide +kernel
theorem dX10_deaf_44 : decode cX10_deaf 44 = .ok (.ishl, 1) := by decide +kernel
theorem dX10_deaf_45 : decode cX10_deaf 45 = .ok (.ior, 1) := by decide +kernel
theorem dX10_deaf_46 : decode cX10_deaf 46 = .ok (.istore_n 2, 1) := by decide +kernel
theorem dX10_deaf_47 : decode cX10_deaf 47 = .ok (.iinc 3 1, 3) := by decide +kernel
theorem dX10_deaf_50 : decode cX10_deaf 50 = .ok (.goto (-34), 3) := by decide +kernel
theorem dX10_deaf_53 : decode cX10_deaf 53 = .ok (.iload_n 2, 1) := by decide +kernel
theorem dX10_deaf_54 : decode cX10_deaf 54 = .ok (.ireturn, 1) := by decide +kernel
def B_X10_deaf_47 (o0 : Nat) (i1 : Int32) (i2 : Int32) (i3 : Int32) (μ : Me) (K16 : Int32 → Int32 → Me → Prop) (Q : Int32 → Me → Prop) : Prop := K16 i2 (i3 + 1) μ
set_option maxHeartbeats 4000000 in
set_option maxRecDepth 100000 in
theorem tB_X10_deaf_47 {x : GX} (f : Fx x cX10_deaf RX10 4 (rmc 0 0 0)) {o0 : Nat} {i1 : Int32} {i2 : Int32} {i3 : Int32} {μ : Me} {Q : Int32 → Me → Prop} (hq : Rt x (some .int) (qI Q)) {K16 : Int32 → Int32 → Me → Prop} (hK16 : ∀ (a2 : Int32) (a3 : Int32) (ν : Me), K16 a2 a3 ν → G x 4 16 [(0, .ref (gB x + o0)), (1, .int i1), (2, .int a2), (3, .int a3)] [] ν 0 0) (h : B_X10_deaf_47 o0 i1 i2 i3 μ K16 Q) : G x 4 47 [(0, .ref (gB x + o0)), (1, .int i1), (2, .int i2), (3, .int i3)] [] μ 0 0 := by
  unfold B_X10_deaf_47 at h
  refine h_iinc f 3 1 dX10_deaf_47 rfl kc_1 (by decide) ?_
  refine g_goto f 16 dX10_deaf_50 rfl ?_
  exact h_sub [1, 2, 3, 0] rfl (hK16 _ _ _ h)
def B_X10_deaf_16 (o0 : Nat) (i1 : Int32) (i2 : Int32) (i3 : Int32) (μ : Me) (K16 : Int32 → Int32 → Me → Prop) (Q : Int32 → Me → Prop) : Prop := mok μ o0 10 ∧ ∃ t5, mgr μ o0 0 = some t5 ∧ mok μ t5 9 ∧ (((mgi μ t5 0) ≤ i3 → Q i2 μ) ∧ (¬ (mgi μ t5 0) ≤ i3 → ∃ t7, mgr μ o0 0 = some t7 ∧ mok μ t7 9 ∧ ∃ t9, mgr μ t7 5 = some t9 ∧ mok μ t9 12 ∧ vp_in i3 (mln μ t9) ∧ ((¬ ((mgi μ t9 i3.toNatClampNeg) &&& i1) = 0 → B_X10_deaf_47 o0 i1 i2 i3 μ K16 Q) ∧ (((mgi μ t9 i3.toNatClampNeg) &&& i1) = 0 → B_X10_deaf_47 o0 i1 (i2 ||| (1 <<< (i3 &&& 31))) i3 μ K16 Q))))
set_option maxHeartbeats 4000000 in
set_option maxRecDepth 100000 in
theorem tB_X10_deaf_16 {x : GX} (f : Fx x cX10_deaf RX10 4 (rmc 0 0 0)) {o0 : Nat} {i1 : Int32} {i2 : Int32} {i3 : Int32} {μ : Me} {Q : Int32 → Me → Prop} (hq : Rt x (some .int) (qI Q)) {K16 : Int32 → Int32 → Me → Prop} (hK16 : ∀ (a2 : Int32) (a3 : Int32) (ν : Me), K16 a2 a3 ν → G x 4 16 [(0, .ref (gB x + o0)), (1, .int i1), (2, .int a2), (3, .int a3)] [] ν 0 0) (h : B_X10_deaf_16 o0 i1 i2 i3 μ K16 Q) : G x 4 16 [(0, .ref (gB x + o0)), (1, .int i1), (2, .int i2), (3, .int i3)] [] μ 0 0 := by
  unfold B_X10_deaf_16 at h
  refine g_iload_n f 3 dX10_deaf_16 rfl rfl ?_
  refine g_aload_n f 0 dX10_deaf_17 rfl rfl ?_
  obtain ⟨v4, h⟩ := h
  refine g_getR f fk_X10_12 v4 dX10_deaf_18 rfl h (fun t5 h => ?_)
  obtain ⟨v6, h⟩ := h
  refine g_getI f fk_X10_283 v6 dX10_deaf_21 rfl ?_
  refine g_ic_ge f 53 dX10_deaf_24 rfl h (fun h => ?_) (fun h => ?_)
  · refine g_iload_n f 2 dX10_deaf_53 rfl rfl ?_
    exact g_iret f hq (Nat.le_of_ble_eq_true rfl) (Nat.le_of_ble_eq_true rfl) dX10_deaf_54 h
  · refine g_aload_n f 0 dX10_deaf_27 rfl rfl ?_
    refine g_getR f fk_X10_12 v4 dX10_deaf_28 rfl h (fun t7 h => ?_)
    obtain ⟨v8, h⟩ := h
    refine g_getR f fk_X10_81 v8 dX10_deaf_31 rfl h (fun t9 h => ?_)
    refine g_iload_n f 3 dX10_deaf_34 rfl rfl ?_
    obtain ⟨v10, h⟩ := h
    refine g_iald f v10 dX10_deaf_35 h (fun h => ?_)
    refine g_iload_n f 1 dX10_deaf_36 rfl rfl ?_
    refine g_iand f dX10_deaf_37 ?_
    refine g_if_ne f 47 dX10_deaf_38 rfl h (fun h => ?_) (fun h => ?_)
    · exact h_sub [0, 1, 2, 3] rfl (tB_X10_deaf_47 f hq hK16 h)
    · refine g_iload_n f 2 dX10_deaf_41 rfl rfl ?_
      refine g_iconst f 1 dX10_deaf_42 kc_1 ?_
      refine g_iload_n f 3 dX10_deaf_43 rfl rfl ?_
      refine g_ishl f dX10_deaf_44 ?_
      refine g_ior f dX10_deaf_45 ?_
      refine h_istore_n f dX10_deaf_46 rfl (by decide) ?_
      exact h_sub [1, 2, 0, 3] rfl (tB_X10_deaf_47 f hq hK16 h)
def L_X10_deaf_16 (o0 : Nat) (i1 : Int32) (i2 : Int32) (i3 : Int32) (μ : Me) (Q : Int32 → Me → Prop) : Prop := ∃ I : Int32 → Int32 → Me → Nat → Prop, (∃ n, I i2 i3 μ n) ∧ ∀ (i2 : Int32) (i3 : Int32) (μ : Me) (n : Nat), I i2 i3 μ n → B_X10_deaf_16 o0 i1 i2 i3 μ (fun a2 a3 ν => ∃ n', n' < n ∧ I a2 a3 ν n') Q
set_option maxHeartbeats 4000000 in
set_option maxRecDepth 100000 in
theorem tL_X10_deaf_16 {x : GX} (f : Fx x cX10_deaf RX10 4 (rmc 0 0 0)) {o0 : Nat} {i1 : Int32} {i2 : Int32} {i3 : Int32} {μ : Me} {Q : Int32 → Me → Prop} (hq : Rt x (some .int) (qI Q)) (h : L_X10_deaf_16 o0 i1 i2 i3 μ Q) : G x 4 16 [(0, .ref (gB x + o0)), (1, .int i1), (2, .int i2), (3, .int i3)] [] μ 0 0 := by
  obtain ⟨I, ⟨n, hI⟩, hs⟩ := h
  induction n using Nat.strongRecOn generalizing i2 i3 μ with
  | ind n ih => exact tB_X10_deaf_16 f hq (fun a2 a3 ν hk => by obtain ⟨n2, hn, hI2⟩ := hk; exact ih n2 hn hI2) (hs _ _ _ _ hI)
def S_X10_deaf (o0 : Nat) (μ : Me) (Q : Int32 → Me → Prop) : Prop := mok μ o0 10 ∧ ∃ t2, mgr μ o0 0 = some t2 ∧ mok μ t2 9 ∧ L_X10_deaf_16 o0 ((1 <<< ((mgi μ t2 0) &&& 31)) - 1) 0 0 μ Q
set_option maxHeartbeats 4000000 in
set_option maxRecDepth 100000 in
theorem t_X10_deaf {x : GX} (f : Fx x cX10_deaf RX10 4 (rmc 0 0 0)) {o0 : Nat} {μ : Me} {Q : Int32 → Me → Prop} (hq : Rt x (some .int) (qI Q)) (h : S_X10_deaf o0 μ Q) : G x 4 0 [(0, .ref (gB x + o0))] [] μ 0 0 := by
  unfold S_X10_deaf at h
  refine g_iconst f 1 dX10_deaf_0 kc_1 ?_
  refine g_aload_n f 0 dX10_deaf_1 rfl rfl ?_
  obtain ⟨v1, h⟩ := h
  refine g_getR f fk_X10_12 v1 dX10_deaf_2 rfl h (fun t2 h => ?_)
  obtain ⟨v3, h⟩ := h
  refine g_getI f fk_X10_283 v3 dX10_deaf_5 rfl ?_
  refine g_ishl f dX10_deaf_8 ?_
  refine g_iconst f 1 dX10_deaf_9 kc_1 ?_
  refine g_isub f dX10_deaf_10 ?_
  refine h_istore_n f dX10_deaf_11 rfl (by decide) ?_
  refine g_iconst f 0 dX10_deaf_12 kc_0 ?_
  refine h_istore_n f dX10_deaf_13 rfl (by decide) ?_
  refine g_iconst f 0 dX10_deaf_14 kc_0 ?_
  refine h_istore_n f dX10_deaf_15 rfl (by decide) ?_
  exact h_sub [3, 2, 1, 0] rfl (tL_X10_deaf_16 f hq h)
theorem c_X10_deaf {Ω : OM} {o0 : Nat} {μ : Me} {Q : Int32 → Me → Prop} (h : S_X10_deaf o0 μ Q) : CT Ω yX10_deaf cX10_deaf 4 (some .int) (rmc 0 0 0) [.ref (oB Ω + o0)] μ (qI Q) := CT_of (by decide) rfl (by simp [lg_sl, Value.category]) (fun x hΩ f hq hi => by subst hΩ; exact t_X10_deaf f hq h)
theorem dX10_ledger_0 : decode cX10_ledger 0 = .ok (.iload_n 1, 1) := by decide +kernel
theorem dX10_ledger_1 : decode cX10_ledger 1 = .ok (.iconst (-1), 1) := by decide +kernel
theorem dX10_ledger_2 : decode cX10_ledger 2 = .ok (.if_icmp .eq 17, 3) := by decide +kernel
theorem dX10_ledger_5 : decode cX10_ledger 5 = .ok (.aload_n 0, 1) := by decide +kernel
theorem dX10_ledger_6 : decode cX10_ledger 6 = .ok (.getfield 12, 3) := by decide +kernel
theorem dX10_ledger_9 : decode cX10_ledger 9 = .ok (.iload_n 1, 1) := by decide +kernel
theorem dX10_ledger_10 : decode cX10_ledger 10 = .ok (.invokevirtual 175, 3) := by decide +kernel
theorem dX10_ledger_13 : decode cX10_ledger 13 = .ok (.ifCond .ne 6, 3) := by decide +kernel
theorem dX10_ledger_16 : decode cX10_ledger 16 = .ok (.bipush (-2), 2) := by decide +kernel
theorem dX10_ledger_18 : decode cX10_ledger 18 = .ok (.ireturn, 1) := by decide +kernel
theorem dX10_ledger_19 : decode cX10_ledger 19 = .ok (.iload_n 1, 1) := by decide +kernel
theorem dX10_ledger_20 : decode cX10_ledger 20 = .ok (.iconst (-1), 1) := by decide +kernel
theorem dX10_ledger_21 : decode cX10_ledger 21 = .ok (.if_icmp .ne 9, 3) := by decide +kernel
theorem dX10_ledger_24 : decode cX10_ledger 24 = .ok (.sipush 255, 3) := by decide +kernel
theorem dX10_ledger_27 : decode cX10_ledger 27 = .ok (.goto 6, 3) := by decide +kernel
theorem dX10_ledger_30 : decode cX10_ledger 30 = .ok (.iconst 1, 1) := by decide +kernel
theorem dX10_ledger_31 : decode cX10_ledger 31 = .ok (.iload_n 1, 1) := by decide +kernel
theorem dX10_ledger_32 : decode cX10_ledger 32 = .ok (.ishl, 1) := by decide +kernel
theorem dX10_ledger_33 : decode cX10_ledger 33 = .ok (.istore_n 2, 1) := by decide +kernel
theorem dX10_ledger_34 : decode cX10_ledger 34 = .ok (.iconst 0, 1) := by decide +kernel
theorem dX10_ledger_35 : decode cX10_ledger 35 = .ok (.istore_n 3, 1) := by decide +kernel
theorem dX10_ledger_36 : decode cX10_ledger 36 = .ok (.iconst 0, 1) := by decide +kernel
theorem dX10_ledger_37 : decode cX10_ledger 37 = .ok (.istore 4, 2) := by decide +kernel
theorem dX10_ledger_39 : decode cX10_ledger 39 = .ok (.iload 4, 2) := by decide +kernel
theorem dX10_ledger_41 : decode cX10_ledger 41 = .ok (.aload_n 0, 1) := by decide +kernel
theorem dX10_ledger_42 : decode cX10_ledger 42 = .ok (.getfield 12, 3) := by decide +kernel
theorem dX10_ledger_45 : decode cX10_ledger 45 = .ok (.getfield 160, 3) := by decide +kernel
theorem dX10_ledger_48 : decode cX10_ledger 48 = .ok (.getfield 211, 3) := by decide +kernel
theorem dX10_ledger_51 : decode cX10_ledger 51 = .ok (.if_icmp .ge 30, 3) := by decide +kernel
theorem dX10_ledger_54 : decode cX10_ledger 54 = .ok (.iload_n 3, 1) := by decide +kernel
theorem dX10_ledger_55 : decode cX10_ledger 55 = .ok (.aload_n 0, 1) := by decide +kernel
theorem dX10_ledger_56 : decode cX10_ledger 56 = .ok (.getfield 12, 3) := by decide +kernel
theorem dX10_ledger_59 : decode cX10_ledger 59 = .ok (.getfield 160, 3) := by decide +kernel
theorem dX10_ledger_62 : decode cX10_ledger 62 = .ok (.iload 4, 2) := by decide +kernel
theorem dX10_ledger_64 : decode cX10_ledger 64 = .ok (.iconst 2, 1) := by decide +kernel
theorem dX10_ledger_65 : decode cX10_ledger 65 = .ok (.invokevirtual 214, 3) := by decide +kernel
theorem dX10_ledger_68 : decode cX10_ledger 68 = .ok (.iload_n 2, 1) := by decide +kernel
theorem dX10_ledger_69 : decode cX10_ledger 69 = .ok (.iand, 1) := by decide +kernel
theorem dX10_ledger_70 : decode cX10_ledger 70 = .ok (.invokestatic 343, 3) := by decide +kernel
theorem dX10_ledger_73 : decode cX10_ledger 73 = .ok (.iadd, 1) := by decide +kernel
theorem dX10_ledger_74 : decode cX10_ledger 74 = .ok (.istore_n 3, 1) := by decide +kernel
theorem dX10_ledger_75 : decode cX10_ledger 75 = .ok (.iinc 4 1, 3) := by decide +kernel
theorem dX10_ledger_78 : decode cX10_ledger 78 = .ok (.goto (-39), 3) := by decide +kernel
theorem dX10_ledger_81 : decode cX10_ledger 81 = .ok (.iload_n 3, 1) := by decide +kernel
theorem dX10_ledger_82 : decode cX10_ledger 82 = .ok (.ireturn, 1) := by decide +kernel
def B_X10_ledger_39 (o0 : Nat) (i2 : Int32) (i3 : Int32) (i4 : Int32) (μ : Me) (K39 : Int32 → Int32 → Me → Prop) (Q : Int32 → Me → Prop) : Prop := mok μ o0 10 ∧ ∃ t2, mgr μ o0 0 = some t2 ∧ mok μ t2 9 ∧ ∃ t4, mgr μ t2 14 = some t4 ∧ mok μ t4 3 ∧ (((mgi μ t4 8) ≤ i4 → Q i3 μ) ∧ (¬ (mgi μ t4 8) ≤ i4 → ∃ t6, mgr μ o0 0 = some t6 ∧ mok μ t6 9 ∧ ∃ t8, mgr μ t6 14 = some t8 ∧ mok μ t8 3 ∧ S_X3_written t8 i4 2 μ (fun r12 μ10 => S_J6_bitCount_0f7a4 (r12 &&& i2) μ10 (fun r15 μ13 => K39 (i3 + r15) (i4 + 1) μ13))))
set_option maxHeartbeats 4000000 in
set_option maxRecDepth 100000 in
theorem tB_X10_ledger_39 {x : GX} (f : Fx x cX10_ledger RX10 5 (rmc 1 0 0)) {o0 : Nat} {i2 : Int32} {i3 : Int32} {i4 : Int32} {μ : Me} {Q : Int32 → Me → Prop} (hq : Rt x (some .int) (qI Q)) {K39 : Int32 → Int32 → Me → Prop} (hK39 : ∀ (a3 : Int32) (a4 : Int32) (ν : Me), K39 a3 a4 ν → G x 5 39 [(0, .ref (gB x + o0)), (2, .int i2), (3, .int a3), (4, .int a4)] [] ν 0 0) (h : B_X10_ledger_39 o0 i2 i3 i4 μ K39 Q) : G x 5 39 [(0, .ref (gB x + o0)), (2, .int i2), (3, .int i3), (4, .int i4)] [] μ 0 0 := by
  unfold B_X10_ledger_39 at h
  refine g_iload f 3 dX10_ledger_39 rfl ?_
  refine g_aload_n f 0 dX10_ledger_41 rfl rfl ?_
  obtain ⟨v1, h⟩ := h
  refine g_getR f fk_X10_12 v1 dX10_ledger_42 rfl h (fun t2 h => ?_)
  obtain ⟨v3, h⟩ := h
  refine g_getR f fk_X10_160 v3 dX10_ledger_45 rfl h (fun t4 h => ?_)
  obtain ⟨v5, h⟩ := h
  refine g_getI f fk_X10_211 v5 dX10_ledger_48 rfl ?_
  refine g_ic_ge f 81 dX10_ledger_51 rfl h (fun h => ?_) (fun h => ?_)
  · refine g_iload_n f 2 dX10_ledger_81 rfl rfl ?_
    exact g_iret f hq (Nat.le_of_ble_eq_true rfl) (Nat.le_of_ble_eq_true rfl) dX10_ledger_82 h
  · refine g_iload_n f 2 dX10_ledger_54 rfl rfl ?_
    refine g_aload_n f 0 dX10_ledger_55 rfl rfl ?_
    refine g_getR f fk_X10_12 v1 dX10_ledger_56 rfl h (fun t6 h => ?_)
    obtain ⟨v7, h⟩ := h
    refine g_getR f fk_X10_160 v7 dX10_ledger_59 rfl h (fun t8 h => ?_)
    refine g_iload f 3 dX10_ledger_62 rfl ?_
    refine g_iconst f 2 dX10_ledger_64 kc_2 ?_
    obtain ⟨v9, h⟩ := h
    refine g_callV f mk_X10_214 v9 (c_X3_written h) dX10_ledger_65 rfl rfl (Nat.le_of_ble_eq_true rfl) (rm_ok (by decide) (by decide)) ⟨Nat.le_of_ble_eq_true rfl, Nat.le_of_ble_eq_true rfl⟩ (kI fun r12 μ10 x11 h => ?_)
    refine g_iload_n f 1 dX10_ledger_68 rfl rfl ?_
    refine g_iand f dX10_ledger_69 ?_
    refine g_callS f mk_X10_343 (c_J6_bitCount_0f7a4 h) dX10_ledger_70 rfl rfl (Nat.le_of_ble_eq_true rfl) (rm_ok (by decide) (by decide)) ⟨Nat.le_of_ble_eq_true rfl, Nat.le_of_ble_eq_true rfl⟩ (kI fun r15 μ13 x14 h => ?_)
    refine g_iadd f dX10_ledger_73 ?_
    refine h_istore_n f dX10_ledger_74 rfl (by decide) ?_
    refine h_iinc f 3 1 dX10_ledger_75 rfl kc_1 (by decide) ?_
    refine g_goto f 39 dX10_ledger_78 rfl ?_
    exact h_sub [2, 3, 1, 0] rfl (hK39 _ _ _ h)
def L_X10_ledger_39 (o0 : Nat) (i2 : Int32) (i3 : Int32) (i4 : Int32) (μ : Me) (Q : Int32 → Me → Prop) : Prop := ∃ I : Int32 → Int32 → Me → Nat → Prop, (∃ n, I i3 i4 μ n) ∧ ∀ (i3 : Int32) (i4 : Int32) (μ : Me) (n : Nat), I i3 i4 μ n → B_X10_ledger_39 o0 i2 i3 i4 μ (fun a3 a4 ν => ∃ n', n' < n ∧ I a3 a4 ν n') Q
set_option maxHeartbeats 4000000 in
set_option maxRecDepth 100000 in
theorem tL_X10_ledger_39 {x : GX} (f : Fx x cX10_ledger RX10 5 (rmc 1 0 0)) {o0 : Nat} {i2 : Int32} {i3 : Int32} {i4 : Int32} {μ : Me} {Q : Int32 → Me → Prop} (hq : Rt x (some .int) (qI Q)) (h : L_X10_ledger_39 o0 i2 i3 i4 μ Q) : G x 5 39 [(0, .ref (gB x + o0)), (2, .int i2), (3, .int i3), (4, .int i4)] [] μ 0 0 := by
  obtain ⟨I, ⟨n, hI⟩, hs⟩ := h
  induction n using Nat.strongRecOn generalizing i3 i4 μ with
  | ind n ih => exact tB_X10_ledger_39 f hq (fun a3 a4 ν hk => by obtain ⟨n2, hn, hI2⟩ := hk; exact ih n2 hn hI2) (hs _ _ _ _ hI)
def B_X10_ledger_33 (o0 : Nat) (s0 : Int32) (μ : Me) (Q : Int32 → Me → Prop) : Prop := L_X10_ledger_39 o0 s0 0 0 μ Q
set_option maxHeartbeats 4000000 in
set_option maxRecDepth 100000 in
theorem tB_X10_ledger_33 {x : GX} (f : Fx x cX10_ledger RX10 5 (rmc 1 0 0)) {o0 : Nat} {s0 : Int32} {μ : Me} {Q : Int32 → Me → Prop} (hq : Rt x (some .int) (qI Q)) (h : B_X10_ledger_33 o0 s0 μ Q) : G x 5 33 [(0, .ref (gB x + o0))] [.int s0] μ 0 0 := by
  unfold B_X10_ledger_33 at h
  refine h_istore_n f dX10_ledger_33 rfl (by decide) ?_
  refine g_iconst f 0 dX10_ledger_34 kc_0 ?_
  refine h_istore_n f dX10_ledger_35 rfl (by decide) ?_
  refine g_iconst f 0 dX10_ledger_36 kc_0 ?_
  refine h_istore f dX10_ledger_37 (by decide) ?_
  exact h_sub [3, 2, 1, 0] rfl (tL_X10_ledger_39 f hq h)
def B_X10_ledger_19 (o0 : Nat) (i1 : Int32) (μ : Me) (Q : Int32 → Me → Prop) : Prop := ((¬ i1 = (-1) → B_X10_ledger_33 o0 (1 <<< (i1 &&& 31)) μ Q) ∧ (i1 = (-1) → B_X10_ledger_33 o0 255 μ Q))
set_option maxHeartbeats 4000000 in
set_option maxRecDepth 100000 in
theorem tB_X10_ledger_19 {x : GX} (f : Fx x cX10_ledger RX10 5 (rmc 1 0 0)) {o0 : Nat} {i1 : Int32} {μ : Me} {Q : Int32 → Me → Prop} (hq : Rt x (some .int) (qI Q)) (h : B_X10_ledger_19 o0 i1 μ Q) : G x 5 19 [(0, .ref (gB x + o0)), (1, .int i1)] [] μ 0 0 := by
  unfold B_X10_ledger_19 at h
  refine g_iload_n f 1 dX10_ledger_19 rfl rfl ?_
  refine g_iconst f (-1) dX10_ledger_20 kc_m1 ?_
  refine g_ic_ne f 30 dX10_ledger_21 rfl h (fun h => ?_) (fun h => ?_)
  · refine g_iconst f 1 dX10_ledger_30 kc_1 ?_
    refine g_iload_n f 1 dX10_ledger_31 rfl rfl ?_
    refine g_ishl f dX10_ledger_32 ?_
    exact h_sub [0] rfl (tB_X10_ledger_33 f hq h)
  · refine g_sipush f 255 dX10_ledger_24 ks_255 ?_
    refine g_goto f 33 dX10_ledger_27 rfl ?_
    exact h_sub [0] rfl (tB_X10_ledger_33 f hq h)
def S_X10_ledger (o0 : Nat) (i1 : Int32) (μ : Me) (Q : Int32 → Me → Prop) : Prop := ((i1 = (-1) → B_X10_ledger_19 o0 i1 μ Q) ∧ (¬ i1 = (-1) → mok μ o0 10 ∧ ∃ t17, mgr μ o0 0 = some t17 ∧ mok μ t17 9 ∧ S_X9_isPerson t17 i1 μ (fun r21 μ19 => ((¬ r21 = 0 → B_X10_ledger_19 o0 i1 μ19 Q) ∧ (r21 = 0 → Q (-2) μ19)))))
set_option maxHeartbeats 4000000 in
set_option maxRecDepth 100000 in
theorem t_X10_ledger {x : GX} (f : Fx x cX10_ledger RX10 5 (rmc 1 0 0)) {o0 : Nat} {i1 : Int32} {μ : Me} {Q : Int32 → Me → Prop} (hq : Rt x (some .int) (qI Q)) (h : S_X10_ledger o0 i1 μ Q) : G x 5 0 [(0, .ref (gB x + o0)), (1, .int i1)] [] μ 0 0 := by
  unfold S_X10_ledger at h
  refine g_iload_n f 1 dX10_ledger_0 rfl rfl ?_
  refine g_iconst f (-1) dX10_ledger_1 kc_m1 ?_
  refine g_ic_eq f 19 dX10_ledger_2 rfl h (fun h => ?_) (fun h => ?_)
  · exact h_sub [0, 1] rfl (tB_X10_ledger_19 f hq h)
  · refine g_aload_n f 0 dX10_ledger_5 rfl rfl ?_
    obtain ⟨v16, h⟩ := h
    refine g_getR f fk_X10_12 v16 dX10_ledger_6 rfl h (fun t17 h => ?_)
    refine g_iload_n f 1 dX10_ledger_9 rfl rfl ?_
    obtain ⟨v18, h⟩ := h
    refine g_callV f mk_X10_175 v18 (c_X9_isPerson h) dX10_ledger_10 rfl rfl (Nat.le_of_ble_eq_true rfl) (rm_ok (by decide) (by decide)) ⟨Nat.le_of_ble_eq_true rfl, Nat.le_of_ble_eq_true rfl⟩ (kI fun r21 μ19 x20 h => ?_)
    refine g_if_ne f 19 dX10_ledger_13 rfl h (fun h => ?_) (fun h => ?_)
    · exact h_sub [0, 1] rfl (tB_X10_ledger_19 f hq h)
    · refine g_bipush f (-2) dX10_ledger_16 kb_m2 ?_
      exact g_iret f hq (Nat.le_of_ble_eq_true rfl) (Nat.le_of_ble_eq_true rfl) dX10_ledger_18 h
theorem c_X10_ledger {Ω : OM} {o0 : Nat} {i1 : Int32} {μ : Me} {Q : Int32 → Me → Prop} (h : S_X10_ledger o0 i1 μ Q) : CT Ω yX10_ledger cX10_ledger 5 (some .int) (rmc 1 0 0) [.ref (oB Ω + o0), .int i1] μ (qI Q) := CT_of (by decide) rfl (by simp [lg_sl, Value.category]) (fun x hΩ f hq hi => by subst hΩ; exact t_X10_ledger f hq h)
theorem dX10_image_0 : decode cX10_image 0 = .ok (.aload_n 0, 1) := by decide +kernel
theorem dX10_image_1 : decode cX10_image 1 = .ok (.getfield 16, 3) := by decide +kernel
theorem dX10_image_4 : decode cX10_image 4 = .ok (.aload_n 0, 1) := by decide +kernel
theorem dX10_image_5 : decode cX10_image 5 = .ok (.getfield 12, 3) := by decide +kernel
theorem dX10_image_8 : decode cX10_image 8 = .ok (.invokevirtual 374, 3) := by decide +kernel
theorem dX10_image_11 : decode cX10_image 11 = .ok (.aload_n 0, 1) := by decide +kernel
theorem dX10_image_12 : decode cX10_image 12 = .ok (.getfield 12, 3) := by decide +kernel
theorem dX10_image_15 : decode cX10_image 15 = .ok (.getfield 160, 3) := by decide +kernel
theorem dX10_image_18 : decode cX10_image 18 = .ok (.getfield 164, 3) := by decide +kernel
theorem dX10_image_21 : decode cX10_image 21 = .ok (.ireturn, 1) := by decide +kernel
def S_X10_image (o0 : Nat) (μ : Me) (Q : Int32 → Me → Prop) : Prop := mok μ o0 10 ∧ ∃ t2, mgr μ o0 1 = some t2 ∧ ∃ t3, mgr μ o0 0 = some t3 ∧ mok μ t2 9 ∧ S_X9_become t2 t3 μ (fun μ5 => ∃ t8, mgr μ5 o0 0 = some t8 ∧ mok μ5 t8 9 ∧ ∃ t10, mgr μ5 t8 14 = some t10 ∧ mok μ5 t10 3 ∧ Q (mgi μ5 t10 3) μ5)
set_option maxHeartbeats 4000000 in
set_option maxRecDepth 100000 in
theorem t_X10_image {x : GX} (f : Fx x cX10_image RX10 1 (rmc 2 0 0)) {o0 : Nat} {μ : Me} {Q : Int32 → Me → Prop} (hq : Rt x (some .int) (qI Q)) (h : S_X10_image o0 μ Q) : G x 1 0 [(0, .ref (gB x + o0))] [] μ 0 0 := by
  unfold S_X10_image at h
  refine g_aload_n f 0 dX10_image_0 rfl rfl ?_
  obtain ⟨v1, h⟩ := h
  refine g_getR f fk_X10_16 v1 dX10_image_1 rfl h (fun t2 h => ?_)
  refine g_aload_n f 0 dX10_image_4 rfl rfl ?_
  refine g_getR f fk_X10_12 v1 dX10_image_5 rfl h (fun t3 h => ?_)
  obtain ⟨v4, h⟩ := h
  refine g_callV f mk_X10_374 v4 (c_X9_become h) dX10_image_8 rfl rfl (Nat.le_of_ble_eq_true rfl) (rm_ok (by decide) (by decide)) ⟨Nat.le_of_ble_eq_true rfl, Nat.le_of_ble_eq_true rfl⟩ (kV fun μ5 x6 h => ?_)
  refine g_aload_n f 0 dX10_image_11 rfl rfl ?_
  have v1 := mex_ok x6 v1
  refine g_getR f fk_X10_12 v1 dX10_image_12 rfl h (fun t8 h => ?_)
  obtain ⟨v9, h⟩ := h
  refine g_getR f fk_X10_160 v9 dX10_image_15 rfl h (fun t10 h => ?_)
  obtain ⟨v11, h⟩ := h
  refine g_getI f fk_X10_164 v11 dX10_image_18 rfl ?_
  exact g_iret f hq (Nat.le_of_ble_eq_true rfl) (Nat.le_of_ble_eq_true rfl) dX10_image_21 h
theorem c_X10_image {Ω : OM} {o0 : Nat} {μ : Me} {Q : Int32 → Me → Prop} (h : S_X10_image o0 μ Q) : CT Ω yX10_image cX10_image 1 (some .int) (rmc 2 0 0) [.ref (oB Ω + o0)] μ (qI Q) := CT_of (by decide) rfl (by simp [lg_sl, Value.category]) (fun x hΩ f hq hi => by subst hΩ; exact t_X10_image f hq h)
theorem dX10_back_0 : decode cX10_back 0 = .ok (.aload_n 0, 1) := by decide +kernel
theorem dX10_back_1 : decode cX10_back 1 = .ok (.getfield 61, 3) := by decide +kernel
theorem dX10_back_4 : decode cX10_back 4 = .ok (.invokevirtual 74, 3) := by decide +kernel
theorem dX10_back_7 : decode cX10_back 7 = .ok (.aload_n 0, 1) := by decide +kernel
theorem dX10_back_8 : decode cX10_back 8 = .ok (.getfield 12, 3) := by decide +kernel
theorem dX10_back_11 : decode cX10_back 11 = .ok (.aload_n 0, 1) := by decide +kernel
theorem dX10_back_12 : decode cX10_back 12 = .ok (.getfield 16, 3) := by decide +kernel
theorem dX10_back_15 : decode cX10_back 15 = .ok (.invokevirtual 374, 3) := by decide +kernel
theorem dX10_back_18 : decode cX10_back 18 = .ok (.aload_n 0, 1) := by decide +kernel
theorem dX10_back_19 : decode cX10_back 19 = .ok (.getfield 12, 3) := by decide +kernel
theorem dX10_back_22 : decode cX10_back 22 = .ok (.getfield 160, 3) := by decide +kernel
theorem dX10_back_25 : decode cX10_back 25 = .ok (.getfield 164, 3) := by decide +kernel
theorem dX10_back_28 : decode cX10_back 28 = .ok (.ireturn, 1) := by decide +kernel
def S_X10_back (o0 : Nat) (μ : Me) (Q : Int32 → Me → Prop) : Prop := mok μ o0 10 ∧ ∃ t2, mgr μ o0 7 = some t2 ∧ mok μ t2 2 ∧ S_X2_forget t2 μ (fun μ4 => ∃ t7, mgr μ4 o0 0 = some t7 ∧ ∃ t8, mgr μ4 o0 1 = some t8 ∧ mok μ4 t7 9 ∧ S_X9_become t7 t8 μ4 (fun μ10 => ∃ t13, mgr μ10 o0 0 = some t13 ∧ mok μ10 t13 9 ∧ ∃ t15, mgr μ10 t13 14 = some t15 ∧ mok μ10 t15 3 ∧ Q (mgi μ10 t15 3) μ10))
set_option maxHeartbeats 4000000 in
set_option maxRecDepth 100000 in
theorem t_X10_back {x : GX} (f : Fx x cX10_back RX10 1 (rmc 2 0 0)) {o0 : Nat} {μ : Me} {Q : Int32 → Me → Prop} (hq : Rt x (some .int) (qI Q)) (h : S_X10_back o0 μ Q) : G x 1 0 [(0, .ref (gB x + o0))] [] μ 0 0 := by
  unfold S_X10_back at h
  refine g_aload_n f 0 dX10_back_0 rfl rfl ?_
  obtain ⟨v1, h⟩ := h
  refine g_getR f fk_X10_61 v1 dX10_back_1 rfl h (fun t2 h => ?_)
  obtain ⟨v3, h⟩ := h
  refine g_callV f mk_X10_74 v3 (c_X2_forget h) dX10_back_4 rfl rfl (Nat.le_of_ble_eq_true rfl) (rm_ok (by decide) (by decide)) ⟨Nat.le_of_ble_eq_true rfl, Nat.le_of_ble_eq_true rfl⟩ (kV fun μ4 x5 h => ?_)
  refine g_aload_n f 0 dX10_back_7 rfl rfl ?_
  have v1 := mex_ok x5 v1
  refine g_getR f fk_X10_12 v1 dX10_back_8 rfl h (fun t7 h => ?_)
  refine g_aload_n f 0 dX10_back_11 rfl rfl ?_
  refine g_getR f fk_X10_16 v1 dX10_back_12 rfl h (fun t8 h => ?_)
  obtain ⟨v9, h⟩ := h
  refine g_callV f mk_X10_374 v9 (c_X9_become h) dX10_back_15 rfl rfl (Nat.le_of_ble_eq_true rfl) (rm_ok (by decide) (by decide)) ⟨Nat.le_of_ble_eq_true rfl, Nat.le_of_ble_eq_true rfl⟩ (kV fun μ10 x11 h => ?_)
  refine g_aload_n f 0 dX10_back_18 rfl rfl ?_
  have v1 := mex_ok x11 v1
  refine g_getR f fk_X10_12 v1 dX10_back_19 rfl h (fun t13 h => ?_)
  obtain ⟨v14, h⟩ := h
  refine g_getR f fk_X10_160 v14 dX10_back_22 rfl h (fun t15 h => ?_)
  obtain ⟨v16, h⟩ := h
  refine g_getI f fk_X10_164 v16 dX10_back_25 rfl ?_
  exact g_iret f hq (Nat.le_of_ble_eq_true rfl) (Nat.le_of_ble_eq_true rfl) dX10_back_28 h
theorem c_X10_back {Ω : OM} {o0 : Nat} {μ : Me} {Q : Int32 → Me → Prop} (h : S_X10_back o0 μ Q) : CT Ω yX10_back cX10_back 1 (some .int) (rmc 2 0 0) [.ref (oB Ω + o0)] μ (qI Q) := CT_of (by decide) rfl (by simp [lg_sl, Value.category]) (fun x hΩ f hq hi => by subst hΩ; exact t_X10_back f hq h)
theorem dX10_about_0 : decode cX10_about 0 = .ok (.iload_n 1, 1) := by decide +kernel
theorem dX10_about_1 : decode cX10_about 1 = .ok (.tableswitch 99 0 6 #[43, 51, 59, 67, 75, 83, 91], 43) := by decide +kernel
theorem dX10_about_44 : decode cX10_about 44 = .ok (.aload_n 0, 1) := by decide +kernel
theorem dX10_about_45 : decode cX10_about 45 = .ok (.getfield 12, 3) := by decide +kernel
theorem dX10_about_48 : decode cX10_about 48 = .ok (.getfield 283, 3) := by decide +kernel
theorem dX10_about_51 : decode cX10_about 51 = .ok (.ireturn, 1) := by decide +kernel
theorem dX10_about_52 : decode cX10_about 52 = .ok (.aload_n 0, 1) := by decide +kernel
theorem dX10_about_53 : decode cX10_about 53 = .ok (.getfield 12, 3) := by decide +kernel
theorem dX10_about_56 : decode cX10_about 56 = .ok (.getfield 97, 3) := by decide +kernel
theorem dX10_about_59 : decode cX10_about 59 = .ok (.ireturn, 1) := by decide +kernel
theorem dX10_about_60 : decode cX10_about 60 = .ok (.aload_n 0, 1) := by decide +kernel
theorem dX10_about_61 : decode cX10_about 61 = .ok (.getfield 12, 3) := by decide +kernel
theorem dX10_about_64 : decode cX10_about 64 = .ok (.getfield 120, 3) := by decide +kernel
theorem dX10_about_67 : decode cX10_about 67 = .ok (.ireturn, 1) := by decide +kernel
theorem dX10_about_68 : decode cX10_about 68 = .ok (.aload_n 0, 1) := by decide +kernel
theorem dX10_about_69 : decode cX10_about 69 = .ok (.getfield 12, 3) := by decide +kernel
theorem dX10_about_72 : decode cX10_about 72 = .ok (.getfield 172, 3) := by decide +kernel
theorem dX10_about_75 : decode cX10_about 75 = .ok (.ireturn, 1) := by decide +kernel
theorem dX10_about_76 : decode cX10_about 76 = .ok (.aload_n 0, 1) := by decide +kernel
theorem dX10_about_77 : decode cX10_about 77 = .ok (.getfield 12, 3) := by decide +kernel
theorem dX10_about_80 : decode cX10_about 80 = .ok (.getfield 312, 3) := by decide +kernel
theorem dX10_about_83 : decode cX10_about 83 = .ok (.ireturn, 1) := by decide +kernel
theorem dX10_about_84 : decode cX10_about 84 = .ok (.aload_n 0, 1) := by decide +kernel
theorem dX10_about_85 : decode cX10_about 85 = .ok (.getfield 12, 3) := by decide +kernel
theorem dX10_about_88 : decode cX10_about 88 = .ok (.getfield 355, 3) := by decide +kernel
theorem dX10_about_91 : decode cX10_about 91 = .ok (.ireturn, 1) := by decide +kernel
theorem dX10_about_92 : decode cX10_about 92 = .ok (.aload_n 0, 1) := by decide +kernel
theorem dX10_about_93 : decode cX10_about 93 = .ok (.getfield 22, 3) := by decide +kernel
theorem dX10_about_96 : decode cX10_about 96 = .ok (.getfield 93, 3) := by decide +kernel
theorem dX10_about_99 : decode cX10_about 99 = .ok (.ireturn, 1) := by decide +kernel
theorem dX10_about_100 : decode cX10_about 100 = .ok (.bipush (-2), 2) := by decide +kernel
theorem dX10_about_102 : decode cX10_about 102 = .ok (.ireturn, 1) := by decide +kernel
def S_X10_about (o0 : Nat) (i1 : Int32) (μ : Me) (Q : Int32 → Me → Prop) : Prop := ((i1 = 0 → mok μ o0 10 ∧ ∃ t3, mgr μ o0 0 = some t3 ∧ mok μ t3 9 ∧ Q (mgi μ t3 0) μ) ∧ (¬ i1 = 0 → (i1 = 1 → mok μ o0 10 ∧ ∃ t7, mgr μ o0 0 = some t7 ∧ mok μ t7 9 ∧ Q (mgi μ t7 6) μ) ∧ (¬ i1 = 1 → (i1 = 2 → mok μ o0 10 ∧ ∃ t11, mgr μ o0 0 = some t11 ∧ mok μ t11 9 ∧ Q (mgi μ t11 7) μ) ∧ (¬ i1 = 2 → (i1 = 3 → mok μ o0 10 ∧ ∃ t15, mgr μ o0 0 = some t15 ∧ mok μ t15 9 ∧ Q (mgi μ t15 17) μ) ∧ (¬ i1 = 3 → (i1 = 4 → mok μ o0 10 ∧ ∃ t19, mgr μ o0 0 = some t19 ∧ mok μ t19 9 ∧ Q (mgi μ t19 8) μ) ∧ (¬ i1 = 4 → (i1 = 5 → mok μ o0 10 ∧ ∃ t23, mgr μ o0 0 = some t23 ∧ mok μ t23 9 ∧ Q (mgi μ t23 11) μ) ∧ (¬ i1 = 5 → (i1 = 6 → mok μ o0 10 ∧ ∃ t27, mgr μ o0 2 = some t27 ∧ mok μ t27 6 ∧ Q (mgi μ t27 1) μ) ∧ (¬ i1 = 6 → Q (-2) μ))))))))
set_option maxHeartbeats 4000000 in
set_option maxRecDepth 100000 in
theorem t_X10_about {x : GX} (f : Fx x cX10_about RX10 2 (rmc 0 0 0)) {o0 : Nat} {i1 : Int32} {μ : Me} {Q : Int32 → Me → Prop} (hq : Rt x (some .int) (qI Q)) (h : S_X10_about o0 i1 μ Q) : G x 2 0 [(0, .ref (gB x + o0)), (1, .int i1)] [] μ 0 0 := by
  unfold S_X10_about at h
  refine g_iload_n f 1 dX10_about_0 rfl rfl ?_
  rcases dec_or h with ⟨e1, h⟩ | ⟨e1, h⟩
  · refine g_tableIn f 44 dX10_about_1 (by rw [e1] <;> decide) (by rw [e1] <;> decide) (by rw [e1] <;> rfl) rfl ?_
    refine g_aload_n f 0 dX10_about_44 rfl rfl ?_
    obtain ⟨v2, h⟩ := h
    refine g_getR f fk_X10_12 v2 dX10_about_45 rfl h (fun t3 h => ?_)
    obtain ⟨v4, h⟩ := h
    refine g_getI f fk_X10_283 v4 dX10_about_48 rfl ?_
    exact g_iret f hq (Nat.le_of_ble_eq_true rfl) (Nat.le_of_ble_eq_true rfl) dX10_about_51 h
  · skip
    rcases dec_or h with ⟨e5, h⟩ | ⟨e5, h⟩
    · refine g_tableIn f 52 dX10_about_1 (by rw [e5] <;> decide) (by rw [e5] <;> decide) (by rw [e5] <;> rfl) rfl ?_
      refine g_aload_n f 0 dX10_about_52 rfl rfl ?_
      obtain ⟨v6, h⟩ := h
      refine g_getR f fk_X10_12 v6 dX10_about_53 rfl h (fun t7 h => ?_)
      obtain ⟨v8, h⟩ := h
      refine g_getI f fk_X10_97 v8 dX10_about_56 rfl ?_
      exact g_iret f hq (Nat.le_of_ble_eq_true rfl) (Nat.le_of_ble_eq_true rfl) dX10_about_59 h
    · skip
      rcases dec_or h with ⟨e9, h⟩ | ⟨e9, h⟩
      · refine g_tableIn f 60 dX10_about_1 (by rw [e9] <;> decide) (by rw [e9] <;> decide) (by rw [e9] <;> rfl) rfl ?_
        refine g_aload_n f 0 dX10_about_60 rfl rfl ?_
        obtain ⟨v10, h⟩ := h
        refine g_getR f fk_X10_12 v10 dX10_about_61 rfl h (fun t11 h => ?_)
        obtain ⟨v12, h⟩ := h
        refine g_getI f fk_X10_120 v12 dX10_about_64 rfl ?_
        exact g_iret f hq (Nat.le_of_ble_eq_true rfl) (Nat.le_of_ble_eq_true rfl) dX10_about_67 h
      · skip
        rcases dec_or h with ⟨e13, h⟩ | ⟨e13, h⟩
        · refine g_tableIn f 68 dX10_about_1 (by rw [e13] <;> decide) (by rw [e13] <;> decide) (by rw [e13] <;> rfl) rfl ?_
          refine g_aload_n f 0 dX10_about_68 rfl rfl ?_
          obtain ⟨v14, h⟩ := h
          refine g_getR f fk_X10_12 v14 dX10_about_69 rfl h (fun t15 h => ?_)
          obtain ⟨v16, h⟩ := h
          refine g_getI f fk_X10_172 v16 dX10_about_72 rfl ?_
          exact g_iret f hq (Nat.le_of_ble_eq_true rfl) (Nat.le_of_ble_eq_true rfl) dX10_about_75 h
        · skip
          rcases dec_or h with ⟨e17, h⟩ | ⟨e17, h⟩
          · refine g_tableIn f 76 dX10_about_1 (by rw [e17] <;> decide) (by rw [e17] <;> decide) (by rw [e17] <;> rfl) rfl ?_
            refine g_aload_n f 0 dX10_about_76 rfl rfl ?_
            obtain ⟨v18, h⟩ := h
            refine g_getR f fk_X10_12 v18 dX10_about_77 rfl h (fun t19 h => ?_)
            obtain ⟨v20, h⟩ := h
            refine g_getI f fk_X10_312 v20 dX10_about_80 rfl ?_
            exact g_iret f hq (Nat.le_of_ble_eq_true rfl) (Nat.le_of_ble_eq_true rfl) dX10_about_83 h
          · skip
            rcases dec_or h with ⟨e21, h⟩ | ⟨e21, h⟩
            · refine g_tableIn f 84 dX10_about_1 (by rw [e21] <;> decide) (by rw [e21] <;> decide) (by rw [e21] <;> rfl) rfl ?_
              refine g_aload_n f 0 dX10_about_84 rfl rfl ?_
              obtain ⟨v22, h⟩ := h
              refine g_getR f fk_X10_12 v22 dX10_about_85 rfl h (fun t23 h => ?_)
              obtain ⟨v24, h⟩ := h
              refine g_getI f fk_X10_355 v24 dX10_about_88 rfl ?_
              exact g_iret f hq (Nat.le_of_ble_eq_true rfl) (Nat.le_of_ble_eq_true rfl) dX10_about_91 h
            · skip
              rcases dec_or h with ⟨e25, h⟩ | ⟨e25, h⟩
              · refine g_tableIn f 92 dX10_about_1 (by rw [e25] <;> decide) (by rw [e25] <;> decide) (by rw [e25] <;> rfl) rfl ?_
                refine g_aload_n f 0 dX10_about_92 rfl rfl ?_
                obtain ⟨v26, h⟩ := h
                refine g_getR f fk_X10_22 v26 dX10_about_93 rfl h (fun t27 h => ?_)
                obtain ⟨v28, h⟩ := h
                refine g_getI f fk_X10_93 v28 dX10_about_96 rfl ?_
                exact g_iret f hq (Nat.le_of_ble_eq_true rfl) (Nat.le_of_ble_eq_true rfl) dX10_about_99 h
              · skip
                have e1 := lv_neT (a := 0) e1 (by decide)
                have e5 := lv_neT (a := 1) e5 (by decide)
                have e9 := lv_neT (a := 2) e9 (by decide)
                have e13 := lv_neT (a := 3) e13 (by decide)
                have e17 := lv_neT (a := 4) e17 (by decide)
                have e21 := lv_neT (a := 5) e21 (by decide)
                have e25 := lv_neT (a := 6) e25 (by decide)
                refine g_tableOut f 100 dX10_about_1 (by omega) rfl ?_
                refine g_bipush f (-2) dX10_about_100 kb_m2 ?_
                exact g_iret f hq (Nat.le_of_ble_eq_true rfl) (Nat.le_of_ble_eq_true rfl) dX10_about_102 h
theorem c_X10_about {Ω : OM} {o0 : Nat} {i1 : Int32} {μ : Me} {Q : Int32 → Me → Prop} (h : S_X10_about o0 i1 μ Q) : CT Ω yX10_about cX10_about 2 (some .int) (rmc 0 0 0) [.ref (oB Ω + o0), .int i1] μ (qI Q) := CT_of (by decide) rfl (by simp [lg_sl, Value.category]) (fun x hΩ f hq hi => by subst hΩ; exact t_X10_about f hq h)
theorem dX11_copy_0 : decode cX11_copy 0 = .ok (.iconst 0, 1) := by decide +kernel
theorem dX11_copy_1 : decode cX11_copy 1 = .ok (.istore_n 2, 1) := by decide +kernel
theorem dX11_copy_2 : decode cX11_copy 2 = .ok (.iload_n 2, 1) := by decide +kernel
theorem dX11_copy_3 : decode cX11_copy 3 = .ok (.sipush 2867, 3) := by decide +kernel
theorem dX11_copy_6 : decode cX11_copy 6 = .ok (.if_icmp .ge 15, 3) := by decide +kernel
theorem dX11_copy_9 : decode cX11_copy 9 = .ok (.aload_n 1, 1) := by decide +kernel
theorem dX11_copy_10 : decode cX11_copy 10 = .ok (.iload_n 2, 1) := by decide +kernel
theorem dX11_copy_11 : decode cX11_copy 11 = .ok (.aload_n 0, 1) := by decide +kernel
theorem dX11_copy_12 : decode cX11_copy 12 = .ok (.iload_n 2, 1) := by decide +kernel
theorem dX11_copy_13 : decode cX11_copy 13 = .ok (.iaload, 1) := by decide +kernel
theorem dX11_copy_14 : decode cX11_copy 14 = .ok (.iastore, 1) := by decide +kernel
theorem dX11_copy_15 : decode cX11_copy 15 = .ok (.iinc 2 1, 3) := by decide +kernel
theorem dX11_copy_18 : decode cX11_copy 18 = .ok (.goto (-16), 3) := by decide +kernel
theorem dX11_copy_21 : decode cX11_copy 21 = .ok (.return_, 1) := by decide +kernel
def B_X11_copy_2 (o0 : Nat) (o1 : Nat) (i2 : Int32) (μ : Me) (K2 : Int32 → Me → Prop) (Q : Me → Prop) : Prop := ((2867 ≤ i2 → Q μ) ∧ (¬ 2867 ≤ i2 → mok μ o0 12 ∧ vp_in i2 (mln μ o0) ∧ mok μ o1 12 ∧ vp_in i2 (mln μ o1) ∧ ∀ μ3, μ3 = msi μ o1 i2.toNatClampNeg (mgi μ o0 i2.toNatClampNeg) → K2 (i2 + 1) μ3))
set_option maxHeartbeats 4000000 in
set_option maxRecDepth 100000 in
theorem tB_X11_copy_2 {x : GX} (f : Fx x cX11_copy RX11 3 (rmc 0 0 0)) {o0 : Nat} {o1 : Nat} {i2 : Int32} {μ : Me} {Q : Me → Prop} (hq : Rt x none (qV Q)) {K2 : Int32 → Me → Prop} (hK2 : ∀ (a2 : Int32) (ν : Me), K2 a2 ν → G x 3 2 [(0, .ref (gB x + o0)), (1, .ref (gB x + o1)), (2, .int a2)] [] ν 0 0) (h : B_X11_copy_2 o0 o1 i2 μ K2 Q) : G x 3 2 [(0, .ref (gB x + o0)), (1, .ref (gB x + o1)), (2, .int i2)] [] μ 0 0 := by
  unfold B_X11_copy_2 at h
  refine g_iload_n f 2 dX11_copy_2 rfl rfl ?_
  refine g_sipush f 2867 dX11_copy_3 ks_2867 ?_
  refine g_ic_ge f 21 dX11_copy_6 rfl h (fun h => ?_) (fun h => ?_)
  · exact g_vret f hq (Nat.le_of_ble_eq_true rfl) (Nat.le_of_ble_eq_true rfl) dX11_copy_21 h
  · refine g_aload_n f 1 dX11_copy_9 rfl rfl ?_
    refine g_iload_n f 2 dX11_copy_10 rfl rfl ?_
    refine g_aload_n f 0 dX11_copy_11 rfl rfl ?_
    refine g_iload_n f 2 dX11_copy_12 rfl rfl ?_
    obtain ⟨v1, h⟩ := h
    refine g_iald f v1 dX11_copy_13 h (fun h => ?_)
    obtain ⟨v2, h⟩ := h
    refine g_iast f v2 dX11_copy_14 h (fun h => ?_)
    refine h_iinc f 2 1 dX11_copy_15 rfl kc_1 (by decide) ?_
    refine g_goto f 2 dX11_copy_18 rfl ?_
    exact h_sub [1, 2, 0] rfl (hK2 _ _ h)
def L_X11_copy_2 (o0 : Nat) (o1 : Nat) (i2 : Int32) (μ : Me) (Q : Me → Prop) : Prop := ∃ I : Int32 → Me → Nat → Prop, (∃ n, I i2 μ n) ∧ ∀ (i2 : Int32) (μ : Me) (n : Nat), I i2 μ n → B_X11_copy_2 o0 o1 i2 μ (fun a2 ν => ∃ n', n' < n ∧ I a2 ν n') Q
set_option maxHeartbeats 4000000 in
set_option maxRecDepth 100000 in
theorem tL_X11_copy_2 {x : GX} (f : Fx x cX11_copy RX11 3 (rmc 0 0 0)) {o0 : Nat} {o1 : Nat} {i2 : Int32} {μ : Me} {Q : Me → Prop} (hq : Rt x none (qV Q)) (h : L_X11_copy_2 o0 o1 i2 μ Q) : G x 3 2 [(0, .ref (gB x + o0)), (1, .ref (gB x + o1)), (2, .int i2)] [] μ 0 0 := by
  obtain ⟨I, ⟨n, hI⟩, hs⟩ := h
  induction n using Nat.strongRecOn generalizing i2 μ with
  | ind n ih => exact tB_X11_copy_2 f hq (fun a2 ν hk => by obtain ⟨n2, hn, hI2⟩ := hk; exact ih n2 hn hI2) (hs _ _ _ hI)
def S_X11_copy (o0 : Nat) (o1 : Nat) (μ : Me) (Q : Me → Prop) : Prop := L_X11_copy_2 o0 o1 0 μ Q
set_option maxHeartbeats 4000000 in
set_option maxRecDepth 100000 in
theorem t_X11_copy {x : GX} (f : Fx x cX11_copy RX11 3 (rmc 0 0 0)) {o0 : Nat} {o1 : Nat} {μ : Me} {Q : Me → Prop} (hq : Rt x none (qV Q)) (h : S_X11_copy o0 o1 μ Q) : G x 3 0 [(0, .ref (gB x + o0)), (1, .ref (gB x + o1))] [] μ 0 0 := by
  unfold S_X11_copy at h
  refine g_iconst f 0 dX11_copy_0 kc_0 ?_
  refine h_istore_n f dX11_copy_1 rfl (by decide) ?_
  exact h_sub [1, 2, 0] rfl (tL_X11_copy_2 f hq h)
theorem c_X11_copy {Ω : OM} {o0 : Nat} {o1 : Nat} {μ : Me} {Q : Me → Prop} (h : S_X11_copy o0 o1 μ Q) : CT Ω yX11_copy cX11_copy 3 none (rmc 0 0 0) [.ref (oB Ω + o0), .ref (oB Ω + o1)] μ (qV Q) := CT_of (by decide) rfl (by simp [lg_sl, Value.category]) (fun x hΩ f hq hi => by subst hΩ; exact t_X11_copy f hq h)
theorem dX11_init_0 : decode cX11_init 0 = .ok (.aload_n 0, 1) := by decide +kernel
theorem dX11_init_1 : decode cX11_init 1 = .ok (.invokespecial 1, 3) := by decide +kernel
theorem dX11_init_4 : decode cX11_init 4 = .ok (.aload_n 0, 1) := by decide +kernel
theorem dX11_init_5 : decode cX11_init 5 = .ok (.sipush 2867, 3) := by decide +kernel
theorem dX11_init_8 : decode cX11_init 8 = .ok (.newarray .int, 2) := by decide +kernel
theorem dX11_init_10 : decode cX11_init 10 = .ok (.putfield 7, 3) := by decide +kernel
theorem dX11_init_13 : decode cX11_init 13 = .ok (.aload_n 0, 1) := by decide +kernel
theorem dX11_init_14 : decode cX11_init 14 = .ok (.sipush 2867, 3) := by decide +kernel
theorem dX11_init_17 : decode cX11_init 17 = .ok (.newarray .int, 2) := by decide +kernel
theorem dX11_init_19 : decode cX11_init 19 = .ok (.putfield 13, 3) := by decide +kernel
theorem dX11_init_22 : decode cX11_init 22 = .ok (.aload_n 0, 1) := by decide +kernel
theorem dX11_init_23 : decode cX11_init 23 = .ok (.sipush 2916, 3) := by decide +kernel
theorem dX11_init_26 : decode cX11_init 26 = .ok (.newarray .int, 2) := by decide +kernel
theorem dX11_init_28 : decode cX11_init 28 = .ok (.putfield 16, 3) := by decide +kernel
theorem dX11_init_31 : decode cX11_init 31 = .ok (.aload_n 0, 1) := by decide +kernel
theorem dX11_init_32 : decode cX11_init 32 = .ok (.sipush 300, 3) := by decide +kernel
theorem dX11_init_35 : decode cX11_init 35 = .ok (.newarray .int, 2) := by decide +kernel
theorem dX11_init_37 : decode cX11_init 37 = .ok (.putfield 19, 3) := by decide +kernel
theorem dX11_init_40 : decode cX11_init 40 = .ok (.aload_n 0, 1) := by decide +kernel
theorem dX11_init_41 : decode cX11_init 41 = .ok (.iconst (-1), 1) := by decide +kernel
theorem dX11_init_42 : decode cX11_init 42 = .ok (.putfield 22, 3) := by decide +kernel
theorem dX11_init_45 : decode cX11_init 45 = .ok (.aload_n 0, 1) := by decide +kernel
theorem dX11_init_46 : decode cX11_init 46 = .ok (.iconst (-1), 1) := by decide +kernel
theorem dX11_init_47 : decode cX11_init 47 = .ok (.putfield 26, 3) := by decide +kernel
theorem dX11_init_50 : decode cX11_init 50 = .ok (.aload_n 0, 1) := by decide +kernel
theorem dX11_init_51 : decode cX11_init 51 = .ok (.sipush 160, 3) := by decide +kernel
theorem dX11_init_54 : decode cX11_init 54 = .ok (.newarray .int, 2) := by decide +kernel
theorem dX11_init_56 : decode cX11_init 56 = .ok (.putfield 29, 3) := by decide +kernel
theorem dX11_init_59 : decode cX11_init 59 = .ok (.aload_n 0, 1) := by decide +kernel
theorem dX11_init_60 : decode cX11_init 60 = .ok (.bipush 10, 2) := by decide +kernel
theorem dX11_init_62 : decode cX11_init 62 = .ok (.newarray .int, 2) := by decide +kernel
theorem dX11_init_64 : decode cX11_init 64 = .ok (.putfield 32, 3) := by decide +kernel
theorem dX11_init_67 : decode cX11_init 67 = .ok (.aload_n 0, 1) := by decide +kernel
theorem dX11_init_68 : decode cX11_init 68 = .ok (.sipush 330, 3) := by decide +kernel
theorem dX11_init_71 : decode cX11_init 71 = .ok (.newarray .long, 2) := by decide +kernel
theorem dX11_init_73 : decode cX11_init 73 = .ok (.putfield 35, 3) := by decide +kernel
theorem dX11_init_76 : decode cX11_init 76 = .ok (.aload_n 0, 1) := by decide +kernel
theorem dX11_init_77 : decode cX11_init 77 = .ok (.sipush 330, 3) := by decide +kernel
theorem dX11_init_80 : decode cX11_init 80 = .ok (.newarray .boolean, 2) := by decide +kernel
theorem dX11_init_82 : decode cX11_init 82 = .ok (.putfield 39, 3) := by decide +kernel
theorem dX11_init_85 : decode cX11_init 85 = .ok (.aload_n 0, 1) := by decide +kernel
theorem dX11_init_86 : decode cX11_init 86 = .ok (.iconst 1, 1) := by decide +kernel
theorem dX11_init_87 : decode cX11_init 87 = .ok (.putfield 43, 3) := by decide +kernel
theorem dX11_init_90 : decode cX11_init 90 = .ok (.aload_n 0, 1) := by decide +kernel
theorem dX11_init_91 : decode cX11_init 91 = .ok (.bipush 67, 2) := by decide +kernel
theorem dX11_init_93 : decode cX11_init 93 = .ok (.newarray .int, 2) := by decide +kernel
theorem dX11_init_95 : decode cX11_init 95 = .ok (.putfield 47, 3) := by decide +kernel
theorem dX11_init_98 : decode cX11_init 98 = .ok (.aload_n 0, 1) := by decide +kernel
theorem dX11_init_99 : decode cX11_init 99 = .ok (.sipush 256, 3) := by decide +kernel
theorem dX11_init_102 : decode cX11_init 102 = .ok (.newarray .int, 2) := by decide +kernel
theorem dX11_init_104 : decode cX11_init 104 = .ok (.putfield 50, 3) := by decide +kernel
theorem dX11_init_107 : decode cX11_init 107 = .ok (.aload_n 0, 1) := by decide +kernel
theorem dX11_init_108 : decode cX11_init 108 = .ok (.sipush 256, 3) := by decide +kernel
theorem dX11_init_111 : decode cX11_init 111 = .ok (.newarray .int, 2) := by decide +kernel
theorem dX11_init_113 : decode cX11_init 113 = .ok (.putfield 53, 3) := by decide +kernel
theorem dX11_init_116 : decode cX11_init 116 = .ok (.aload_n 0, 1) := by decide +kernel
theorem dX11_init_117 : decode cX11_init 117 = .ok (.sipush 256, 3) := by decide +kernel
theorem dX11_init_120 : decode cX11_init 120 = .ok (.newarray .int, 2) := by decide +kernel
theorem dX11_init_122 : decode cX11_init 122 = .ok (.putfield 56, 3) := by decide +kernel
theorem dX11_init_125 : decode cX11_init 125 = .ok (.aload_n 0, 1) := by decide +kernel
theorem dX11_init_126 : decode cX11_init 126 = .ok (.sipush 4096, 3) := by decide +kernel
theorem dX11_init_129 : decode cX11_init 129 = .ok (.newarray .int, 2) := by decide +kernel
theorem dX11_init_131 : decode cX11_init 131 = .ok (.putfield 59, 3) := by decide +kernel
theorem dX11_init_134 : decode cX11_init 134 = .ok (.aload_n 0, 1) := by decide +kernel
theorem dX11_init_135 : decode cX11_init 135 = .ok (.getfield 7, 3) := by decide +kernel
theorem dX11_init_138 : decode cX11_init 138 = .ok (.bipush 9, 2) := by decide +kernel
theorem dX11_init_140 : decode cX11_init 140 = .ok (.sipush 229, 3) := by decide +kernel
theorem dX11_init_143 : decode cX11_init 143 = .ok (.iastore, 1) := by decide +kernel
theorem dX11_init_144 : decode cX11_init 144 = .ok (.aload_n 0, 1) := by decide +kernel
theorem dX11_init_145 : decode cX11_init 145 = .ok (.getfield 7, 3) := by decide +kernel
theorem dX11_init_148 : decode cX11_init 148 = .ok (.iconst 2, 1) := by decide +kernel
theorem dX11_init_149 : decode cX11_init 149 = .ok (.iconst (-1), 1) := by decide +kernel
theorem dX11_init_150 : decode cX11_init 150 = .ok (.iastore, 1) := by decide +kernel
theorem dX11_init_151 : decode cX11_init 151 = .ok (.iconst 0, 1) := by decide +kernel
theorem dX11_init_152 : decode cX11_init 152 = .ok (.istore_n 1, 1) := by decide +kernel
theorem dX11_init_153 : decode cX11_init 153 = .ok (.iload_n 1, 1) := by decide +kernel
theorem dX11_init_154 : decode cX11_init 154 = .ok (.bipush 8, 2) := by decide +kernel
theorem dX11_init_156 : decode cX11_init 156 = .ok (.if_icmp .ge 21, 3) := by decide +kernel
theorem dX11_init_159 : decode cX11_init 159 = .ok (.aload_n 0, 1) := by decide +kernel
theorem dX11_init_160 : decode cX11_init 160 = .ok (.getfield 7, 3) := by decide +kernel
theorem dX11_init_163 : decode cX11_init 163 = .ok (.bipush 67, 2) := by decide +kernel
theorem dX11_init_165 : decode cX11_init 165 = .ok (.iload_n 1, 1) := by decide +kernel
theorem dX11_init_166 : decode cX11_init 166 = .ok (.iadd, 1) := by decide +kernel
theorem dX11_init_167 : decode cX11_init 167 = .ok (.sipush 255, 3) := by decide +kernel
theorem dX11_init_170 : decode cX11_init 170 = .ok (.iastore, 1) := by decide +kernel
theorem dX11_init_171 : decode cX11_init 171 = .ok (.iinc 1 1, 3) := by decide +kernel
theorem dX11_init_174 : decode cX11_init 174 = .ok (.goto (-21), 3) := by decide +kernel
theorem dX11_init_177 : decode cX11_init 177 = .ok (.aload_n 0, 1) := by decide +kernel
theorem dX11_init_178 : decode cX11_init 178 = .ok (.getfield 7, 3) := by decide +kernel
theorem dX11_init_181 : decode cX11_init 181 = .ok (.aload_n 0, 1) := by decide +kernel
theorem dX11_init_182 : decode cX11_init 182 = .ok (.getfield 13, 3) := by decide +kernel
theorem dX11_init_185 : decode cX11_init 185 = .ok (.invokestatic 62, 3) := by decide +kernel
theorem dX11_init_188 : decode cX11_init 188 = .ok (.return_, 1) := by decide +kernel
def B_X11_init_153 (o0 : Nat) (i1 : Int32) (k j : Nat) (μ : Me) (K153 : Int32 → Nat → Nat → Me → Prop) (Q : Me → Prop) : Prop := ((8 ≤ i1 → mok μ o0 11 ∧ ∃ t64, mgr μ o0 0 = some t64 ∧ ∃ t65, mgr μ o0 1 = some t65 ∧ (k + 0 ≤ 13 ∧ j + 0 ≤ 14711) ∧ S_X11_copy t64 t65 μ (fun μ66 => ((k + 0) ≤ 13 ∧ (j + 0) ≤ 14711) ∧ Q μ66)) ∧ (¬ 8 ≤ i1 → mok μ o0 11 ∧ ∃ t72, mgr μ o0 0 = some t72 ∧ mok μ t72 12 ∧ vp_in (67 + i1) (mln μ t72) ∧ ∀ μ74, μ74 = msi μ t72 (67 + i1).toNatClampNeg 255 → K153 (i1 + 1) k j μ74))
set_option maxHeartbeats 4000000 in
set_option maxRecDepth 100000 in
theorem tB_X11_init_153 {x : GX} (f : Fx x cX11_init RX11 2 (rmc 1 13 14711)) {o0 : Nat} {i1 : Int32} {k j : Nat} {μ : Me} {Q : Me → Prop} (hq : Rt x none (qV Q)) (hi : x.1.2.2.2.2.2.2.2.1.name = "<init>") {K153 : Int32 → Nat → Nat → Me → Prop} (hK153 : ∀ (a1 : Int32) (k j : Nat) (ν : Me), K153 a1 k j ν → G x 2 153 [(0, .ref (gB x + o0)), (1, .int a1)] [] ν k j) (h : B_X11_init_153 o0 i1 k j μ K153 Q) : G x 2 153 [(0, .ref (gB x + o0)), (1, .int i1)] [] μ k j := by
  unfold B_X11_init_153 at h
  refine g_iload_n f 1 dX11_init_153 rfl rfl ?_
  refine g_bipush f 8 dX11_init_154 kb_8 ?_
  refine g_ic_ge f 177 dX11_init_156 rfl h (fun h => ?_) (fun h => ?_)
  · refine g_aload_n f 0 dX11_init_177 rfl rfl ?_
    obtain ⟨v63, h⟩ := h
    refine g_getR f fk_X11_7 v63 dX11_init_178 rfl h (fun t64 h => ?_)
    refine g_aload_n f 0 dX11_init_181 rfl rfl ?_
    refine g_getR f fk_X11_13 v63 dX11_init_182 rfl h (fun t65 h => ?_)
    obtain ⟨⟨c68, c68b⟩, h⟩ := h
    refine g_callS f mk_X11_62 (c_X11_copy h) dX11_init_185 rfl rfl (Nat.le_of_ble_eq_true rfl) (rm_ok (by decide) (by decide)) ⟨c68, c68b⟩ (kV fun μ66 x67 h => ?_)
    obtain ⟨⟨c70, c70b⟩, h⟩ := h
    exact g_vret f hq c70 c70b dX11_init_188 h
  · refine g_aload_n f 0 dX11_init_159 rfl rfl ?_
    obtain ⟨v71, h⟩ := h
    refine g_getR f fk_X11_7 v71 dX11_init_160 rfl h (fun t72 h => ?_)
    refine g_bipush f 67 dX11_init_163 kb_67 ?_
    refine g_iload_n f 1 dX11_init_165 rfl rfl ?_
    refine g_iadd f dX11_init_166 ?_
    refine g_sipush f 255 dX11_init_167 ks_255 ?_
    obtain ⟨v73, h⟩ := h
    refine g_iast f v73 dX11_init_170 h (fun h => ?_)
    refine h_iinc f 1 1 dX11_init_171 rfl kc_1 (by decide) ?_
    refine g_goto f 153 dX11_init_174 rfl ?_
    exact h_sub [1, 0] rfl (hK153 _ _ _ _ h)
def L_X11_init_153 (o0 : Nat) (i1 : Int32) (k j : Nat) (μ : Me) (Q : Me → Prop) : Prop := ∃ I : Int32 → Nat → Nat → Me → Nat → Prop, (∃ n, I i1 k j μ n) ∧ ∀ (i1 : Int32) (k j : Nat) (μ : Me) (n : Nat), I i1 k j μ n → B_X11_init_153 o0 i1 k j μ (fun a1 k j ν => ∃ n', n' < n ∧ I a1 k j ν n') Q
set_option maxHeartbeats 4000000 in
set_option maxRecDepth 100000 in
theorem tL_X11_init_153 {x : GX} (f : Fx x cX11_init RX11 2 (rmc 1 13 14711)) {o0 : Nat} {i1 : Int32} {k j : Nat} {μ : Me} {Q : Me → Prop} (hq : Rt x none (qV Q)) (hi : x.1.2.2.2.2.2.2.2.1.name = "<init>") (h : L_X11_init_153 o0 i1 k j μ Q) : G x 2 153 [(0, .ref (gB x + o0)), (1, .int i1)] [] μ k j := by
  obtain ⟨I, ⟨n, hI⟩, hs⟩ := h
  induction n using Nat.strongRecOn generalizing i1 k j μ with
  | ind n ih => exact tB_X11_init_153 f hq hi (fun a1 k j ν hk => by obtain ⟨n2, hn, hI2⟩ := hk; exact ih n2 hn hI2) (hs _ _ _ _ _ hI)
def S_X11_init (o0 : Nat) (μ : Me) (Q : Me → Prop) : Prop := ∀ μ1, μ1 = mnw μ 12 2867 → mok μ1 o0 11 ∧ ∀ μ5, μ5 = msr μ1 o0 0 (some (mnn μ)) → ∀ μ6, μ6 = mnw μ5 12 2867 → ∀ μ9, μ9 = msr μ6 o0 1 (some (mnn μ5)) → ∀ μ10, μ10 = mnw μ9 12 2916 → ∀ μ13, μ13 = msr μ10 o0 2 (some (mnn μ9)) → ∀ μ14, μ14 = mnw μ13 12 300 → ∀ μ17, μ17 = msr μ14 o0 3 (some (mnn μ13)) → ∀ μ18, μ18 = msi μ17 o0 5 (-1) → ∀ μ19, μ19 = msi μ18 o0 6 (-1) → ∀ μ20, μ20 = mnw μ19 12 160 → ∀ μ23, μ23 = msr μ20 o0 15 (some (mnn μ19)) → ∀ μ24, μ24 = mnw μ23 12 10 → ∀ μ27, μ27 = msr μ24 o0 20 (some (mnn μ23)) → ∀ μ28, μ28 = mnw μ27 13 330 → ∀ μ31, μ31 = msr μ28 o0 22 (some (mnn μ27)) → ∀ μ32, μ32 = mnw μ31 14 330 → ∀ μ35, μ35 = msr μ32 o0 23 (some (mnn μ31)) → ∀ μ36, μ36 = msi μ35 o0 24 1 → ∀ μ37, μ37 = mnw μ36 12 67 → ∀ μ40, μ40 = msr μ37 o0 26 (some (mnn μ36)) → ∀ μ41, μ41 = mnw μ40 12 256 → ∀ μ44, μ44 = msr μ41 o0 27 (some (mnn μ40)) → ∀ μ45, μ45 = mnw μ44 12 256 → ∀ μ48, μ48 = msr μ45 o0 28 (some (mnn μ44)) → ∀ μ49, μ49 = mnw μ48 12 256 → ∀ μ52, μ52 = msr μ49 o0 29 (some (mnn μ48)) → ∀ μ53, μ53 = mnw μ52 12 4096 → ∀ μ56, μ56 = msr μ53 o0 30 (some (mnn μ52)) → ∃ t57, mgr μ56 o0 0 = some t57 ∧ mok μ56 t57 12 ∧ vp_in (9 : Int32) (mln μ56 t57) ∧ ∀ μ59, μ59 = msi μ56 t57 (9 : Int32).toNatClampNeg 229 → ∃ t60, mgr μ59 o0 0 = some t60 ∧ mok μ59 t60 12 ∧ vp_in (2 : Int32) (mln μ59 t60) ∧ ∀ μ62, μ62 = msi μ59 t60 (2 : Int32).toNatClampNeg (-1) → L_X11_init_153 o0 0 13 14711 μ62 Q
set_option maxHeartbeats 4000000 in
set_option maxRecDepth 100000 in
theorem t_X11_init {x : GX} (f : Fx x cX11_init RX11 2 (rmc 1 13 14711)) {o0 : Nat} {μ : Me} {Q : Me → Prop} (hq : Rt x none (qV Q)) (hi : x.1.2.2.2.2.2.2.2.1.name = "<init>") (h : S_X11_init o0 μ Q) : G x 2 0 [(0, .ref (gB x + o0))] [] μ 0 0 := by
  unfold S_X11_init at h
  refine g_aload_n f 0 dX11_init_0 rfl rfl ?_
  refine g_objInit f w_1369 w_126 w_127 dX11_init_1 rm_fr (Nat.le_of_ble_eq_true rfl) ?_
  refine g_aload_n f 0 dX11_init_4 rfl rfl ?_
  refine g_sipush f 2867 dX11_init_5 ks_2867 ?_
  refine g_newa (c := 12) (N := 2867) (cap := 2867) f .int (Or.inl ⟨rfl, rfl⟩) dX11_init_8 w_187 (by decide) (by decide) (Nat.le_refl _) (Nat.le_of_ble_eq_true rfl) (Nat.le_of_ble_eq_true rfl) (Nat.le_of_ble_eq_true rfl) h (fun h v2 x3 => ?_)
  obtain ⟨v4, h⟩ := h
  refine g_putFQ (r := some _) f fk_X11_7 rfl hi v4 dX11_init_10 rfl (Or.inr ⟨_, rfl⟩) h (fun h => ?_)
  refine g_aload_n f 0 dX11_init_13 rfl rfl ?_
  refine g_sipush f 2867 dX11_init_14 ks_2867 ?_
  refine g_newa (c := 12) (N := 2867) (cap := 2867) f .int (Or.inl ⟨rfl, rfl⟩) dX11_init_17 w_187 (by decide) (by decide) (Nat.le_refl _) (Nat.le_of_ble_eq_true rfl) (Nat.le_of_ble_eq_true rfl) (Nat.le_of_ble_eq_true rfl) h (fun h v7 x8 => ?_)
  have v4 := mex_ok x8 v4
  refine g_putFQ (r := some _) f fk_X11_13 rfl hi v4 dX11_init_19 rfl (Or.inr ⟨_, rfl⟩) h (fun h => ?_)
  refine g_aload_n f 0 dX11_init_22 rfl rfl ?_
  refine g_sipush f 2916 dX11_init_23 ks_2916 ?_
  refine g_newa (c := 12) (N := 2916) (cap := 2916) f .int (Or.inl ⟨rfl, rfl⟩) dX11_init_26 w_187 (by decide) (by decide) (Nat.le_refl _) (Nat.le_of_ble_eq_true rfl) (Nat.le_of_ble_eq_true rfl) (Nat.le_of_ble_eq_true rfl) h (fun h v11 x12 => ?_)
  have v4 := mex_ok x12 v4
  refine g_putFQ (r := some _) f fk_X11_16 rfl hi v4 dX11_init_28 rfl (Or.inr ⟨_, rfl⟩) h (fun h => ?_)
  refine g_aload_n f 0 dX11_init_31 rfl rfl ?_
  refine g_sipush f 300 dX11_init_32 ks_300 ?_
  refine g_newa (c := 12) (N := 300) (cap := 300) f .int (Or.inl ⟨rfl, rfl⟩) dX11_init_35 w_187 (by decide) (by decide) (Nat.le_refl _) (Nat.le_of_ble_eq_true rfl) (Nat.le_of_ble_eq_true rfl) (Nat.le_of_ble_eq_true rfl) h (fun h v15 x16 => ?_)
  have v4 := mex_ok x16 v4
  refine g_putFQ (r := some _) f fk_X11_19 rfl hi v4 dX11_init_37 rfl (Or.inr ⟨_, rfl⟩) h (fun h => ?_)
  refine g_aload_n f 0 dX11_init_40 rfl rfl ?_
  refine g_iconst f (-1) dX11_init_41 kc_m1 ?_
  refine g_putI f fk_X11_22 v4 dX11_init_42 rfl h (fun h => ?_)
  refine g_aload_n f 0 dX11_init_45 rfl rfl ?_
  refine g_iconst f (-1) dX11_init_46 kc_m1 ?_
  refine g_putI f fk_X11_26 v4 dX11_init_47 rfl h (fun h => ?_)
  refine g_aload_n f 0 dX11_init_50 rfl rfl ?_
  refine g_sipush f 160 dX11_init_51 ks_160 ?_
  refine g_newa (c := 12) (N := 160) (cap := 160) f .int (Or.inl ⟨rfl, rfl⟩) dX11_init_54 w_187 (by decide) (by decide) (Nat.le_refl _) (Nat.le_of_ble_eq_true rfl) (Nat.le_of_ble_eq_true rfl) (Nat.le_of_ble_eq_true rfl) h (fun h v21 x22 => ?_)
  have v4 := mex_ok x22 v4
  refine g_putFQ (r := some _) f fk_X11_29 rfl hi v4 dX11_init_56 rfl (Or.inr ⟨_, rfl⟩) h (fun h => ?_)
  refine g_aload_n f 0 dX11_init_59 rfl rfl ?_
  refine g_bipush f 10 dX11_init_60 kb_10 ?_
  refine g_newa (c := 12) (N := 10) (cap := 10) f .int (Or.inl ⟨rfl, rfl⟩) dX11_init_62 w_187 (by decide) (by decide) (Nat.le_refl _) (Nat.le_of_ble_eq_true rfl) (Nat.le_of_ble_eq_true rfl) (Nat.le_of_ble_eq_true rfl) h (fun h v25 x26 => ?_)
  have v4 := mex_ok x26 v4
  refine g_putFQ (r := some _) f fk_X11_32 rfl hi v4 dX11_init_64 rfl (Or.inr ⟨_, rfl⟩) h (fun h => ?_)
  refine g_aload_n f 0 dX11_init_67 rfl rfl ?_
  refine g_sipush f 330 dX11_init_68 ks_330 ?_
  refine g_newa (c := 13) (N := 330) (cap := 330) f .long (Or.inr (Or.inl ⟨rfl, rfl⟩)) dX11_init_71 w_188 (by decide) (by decide) (Nat.le_refl _) (Nat.le_of_ble_eq_true rfl) (Nat.le_of_ble_eq_true rfl) (Nat.le_of_ble_eq_true rfl) h (fun h v29 x30 => ?_)
  have v4 := mex_ok x30 v4
  refine g_putFQ (r := some _) f fk_X11_35 rfl hi v4 dX11_init_73 rfl (Or.inr ⟨_, rfl⟩) h (fun h => ?_)
  refine g_aload_n f 0 dX11_init_76 rfl rfl ?_
  refine g_sipush f 330 dX11_init_77 ks_330 ?_
  refine g_newa (c := 14) (N := 330) (cap := 330) f .boolean (Or.inr (Or.inr ⟨rfl, rfl⟩)) dX11_init_80 w_1467 (by decide) (by decide) (Nat.le_refl _) (Nat.le_of_ble_eq_true rfl) (Nat.le_of_ble_eq_true rfl) (Nat.le_of_ble_eq_true rfl) h (fun h v33 x34 => ?_)
  have v4 := mex_ok x34 v4
  refine g_putFQ (r := some _) f fk_X11_39 rfl hi v4 dX11_init_82 rfl (Or.inr ⟨_, rfl⟩) h (fun h => ?_)
  refine g_aload_n f 0 dX11_init_85 rfl rfl ?_
  refine g_iconst f 1 dX11_init_86 kc_1 ?_
  refine g_putZ f fk_X11_43 v4 dX11_init_87 rfl zb_1.1 zb_1.2 h (fun h => ?_)
  refine g_aload_n f 0 dX11_init_90 rfl rfl ?_
  refine g_bipush f 67 dX11_init_91 kb_67 ?_
  refine g_newa (c := 12) (N := 67) (cap := 67) f .int (Or.inl ⟨rfl, rfl⟩) dX11_init_93 w_187 (by decide) (by decide) (Nat.le_refl _) (Nat.le_of_ble_eq_true rfl) (Nat.le_of_ble_eq_true rfl) (Nat.le_of_ble_eq_true rfl) h (fun h v38 x39 => ?_)
  have v4 := mex_ok x39 v4
  refine g_putFQ (r := some _) f fk_X11_47 rfl hi v4 dX11_init_95 rfl (Or.inr ⟨_, rfl⟩) h (fun h => ?_)
  refine g_aload_n f 0 dX11_init_98 rfl rfl ?_
  refine g_sipush f 256 dX11_init_99 ks_256 ?_
  refine g_newa (c := 12) (N := 256) (cap := 256) f .int (Or.inl ⟨rfl, rfl⟩) dX11_init_102 w_187 (by decide) (by decide) (Nat.le_refl _) (Nat.le_of_ble_eq_true rfl) (Nat.le_of_ble_eq_true rfl) (Nat.le_of_ble_eq_true rfl) h (fun h v42 x43 => ?_)
  have v4 := mex_ok x43 v4
  refine g_putFQ (r := some _) f fk_X11_50 rfl hi v4 dX11_init_104 rfl (Or.inr ⟨_, rfl⟩) h (fun h => ?_)
  refine g_aload_n f 0 dX11_init_107 rfl rfl ?_
  refine g_sipush f 256 dX11_init_108 ks_256 ?_
  refine g_newa (c := 12) (N := 256) (cap := 256) f .int (Or.inl ⟨rfl, rfl⟩) dX11_init_111 w_187 (by decide) (by decide) (Nat.le_refl _) (Nat.le_of_ble_eq_true rfl) (Nat.le_of_ble_eq_true rfl) (Nat.le_of_ble_eq_true rfl) h (fun h v46 x47 => ?_)
  have v4 := mex_ok x47 v4
  refine g_putFQ (r := some _) f fk_X11_53 rfl hi v4 dX11_init_113 rfl (Or.inr ⟨_, rfl⟩) h (fun h => ?_)
  refine g_aload_n f 0 dX11_init_116 rfl rfl ?_
  refine g_sipush f 256 dX11_init_117 ks_256 ?_
  refine g_newa (c := 12) (N := 256) (cap := 256) f .int (Or.inl ⟨rfl, rfl⟩) dX11_init_120 w_187 (by decide) (by decide) (Nat.le_refl _) (Nat.le_of_ble_eq_true rfl) (Nat.le_of_ble_eq_true rfl) (Nat.le_of_ble_eq_true rfl) h (fun h v50 x51 => ?_)
  have v4 := mex_ok x51 v4
  refine g_putFQ (r := some _) f fk_X11_56 rfl hi v4 dX11_init_122 rfl (Or.inr ⟨_, rfl⟩) h (fun h => ?_)
  refine g_aload_n f 0 dX11_init_125 rfl rfl ?_
  refine g_sipush f 4096 dX11_init_126 ks_4096 ?_
  refine g_newa (c := 12) (N := 4096) (cap := 4096) f .int (Or.inl ⟨rfl, rfl⟩) dX11_init_129 w_187 (by decide) (by decide) (Nat.le_refl _) (Nat.le_of_ble_eq_true rfl) (Nat.le_of_ble_eq_true rfl) (Nat.le_of_ble_eq_true rfl) h (fun h v54 x55 => ?_)
  have v4 := mex_ok x55 v4
  refine g_putFQ (r := some _) f fk_X11_59 rfl hi v4 dX11_init_131 rfl (Or.inr ⟨_, rfl⟩) h (fun h => ?_)
  refine g_aload_n f 0 dX11_init_134 rfl rfl ?_
  refine g_getR f fk_X11_7 v4 dX11_init_135 rfl h (fun t57 h => ?_)
  refine g_bipush f 9 dX11_init_138 kb_9 ?_
  refine g_sipush f 229 dX11_init_140 ks_229 ?_
  obtain ⟨v58, h⟩ := h
  refine g_iast f v58 dX11_init_143 h (fun h => ?_)
  refine g_aload_n f 0 dX11_init_144 rfl rfl ?_
  refine g_getR f fk_X11_7 v4 dX11_init_145 rfl h (fun t60 h => ?_)
  refine g_iconst f 2 dX11_init_148 kc_2 ?_
  refine g_iconst f (-1) dX11_init_149 kc_m1 ?_
  obtain ⟨v61, h⟩ := h
  refine g_iast f v61 dX11_init_150 h (fun h => ?_)
  refine g_iconst f 0 dX11_init_151 kc_0 ?_
  refine h_istore_n f dX11_init_152 rfl (by decide) ?_
  exact h_sub [1, 0] rfl (tL_X11_init_153 f hq hi h)
theorem c_X11_init {Ω : OM} {o0 : Nat} {μ : Me} {Q : Me → Prop} (h : S_X11_init o0 μ Q) : CT Ω yX11_init cX11_init 2 none (rmc 1 13 14711) [.ref (oB Ω + o0)] μ (qV Q) := CT_of (by decide) rfl (by simp [lg_sl, Value.category]) (fun x hΩ f hq hi => by subst hΩ; exact t_X11_init f hq (hi rfl) h)
